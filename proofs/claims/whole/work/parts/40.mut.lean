/-! Calls that change one picture: the frame, and what is left to show. -/
/-- all but picture p, its history, scratch, and what each call may write -/
def fp (p : Nat) (W : Nat → Nat) (h h' : AH) : Prop := (ah_n h ≤ ah_n h' ∧ ∀ a, 10000000 ≤ a → eqc h h' a) ∧ (∀ a, a < ah_n h → a ∉ Cscr → a ∉ Mscr → a ≠ 0 → a ≠ 174 → a ≠ 167 → a ≠ 169 → ¬ (216 ≤ a ∧ W a = p) → eqc h h' a) ∧ (∀ k, k ≠ 17 → k ≠ 18 → k ≠ 19 → ah_f h' 0 k = ah_f h 0 k) ∧ (∀ k, k ≠ 0 → k ≠ 9 → k ≠ 15 → k ≠ 60 → ah_f h' 168 k = ah_f h 168 k) ∧ (sp h → sp h') ∧ (LAC h → LAC h') ∧ (∀ s, s < 364 → s ≠ p → ¬ (24 + 10 * p ≤ s ∧ s < 34 + 10 * p) → sl h h' s) ∧ ∀ q, q ≠ p → ah_i h' 174 q = ah_i h 174 q
section FP
variable {h h1 h2 : AH} {p : Nat} {W : Nat → Nat}
theorem fp_trans (x : fp p W h h1) (y : fp p W h1 h2) : fp p W h h2 := by
  obtain ⟨a1, a2, a3, a4, a5, a6, a7, a8⟩ := x
  obtain ⟨b1, b2, b3, b4, b5, b6, b7, b8⟩ := y
  obtain ⟨a1, a9⟩ := a1
  obtain ⟨b1, b9⟩ := b1
  refine ⟨⟨by omega, fun a ha => eqc_trans (a9 a ha) (b9 a ha)⟩, fun a c1 c2 c3 c4 c5 c6 c7 c8 => eqc_trans (a2 a c1 c2 c3 c4 c5 c6 c7 c8) (b2 a (by omega) c2 c3 c4 c5 c6 c7 c8), fun k k1 k2 k3 => (b3 k k1 k2 k3).trans (a3 k k1 k2 k3), fun k k1 k2 k3 k4 => (b4 k k1 k2 k3 k4).trans (a4 k k1 k2 k3 k4), fun K => b5 (a5 K), fun K => b6 (a6 K), fun s s1 s2 s3 => sl_trans (a7 s s1 s2 s3) (b7 s s1 s2 s3), fun q hq => (b8 q hq).trans (a8 q hq)⟩
theorem fp_refl : fp p W h h := ⟨⟨Nat.le_refl _, fun _ _ => ⟨rfl, rfl, rfl, rfl, rfl, rfl⟩⟩, fun _ _ _ _ _ _ _ _ _ => ⟨rfl, rfl, rfl, rfl, rfl, rfl⟩, fun _ _ _ _ => rfl, fun _ _ _ _ _ => rfl, fun K => K, fun K => K, fun s _ _ _ => sl_refl h s, fun _ _ => rfl⟩
theorem fp_fcs (F : fcs h h1) : fp p W h h1 := by
  have e : ∀ a, a ∉ Cscr → eqc h h1 a := F.2.1
  exact ⟨⟨by rw [F.1]; exact Nat.le_refl _, fun a ha => e a (cscr_no (by omega))⟩, fun a _ c _ _ _ _ _ _ => e a c, fun k _ _ _ => by rw [(e 0 (by decide)).2.1], fun k _ _ _ _ => by rw [(e 168 (by decide)).2.1], F.2.2.1, F.2.2.2, fun s _ _ _ => sl_of s (e 170 (by decide)).2.2.1 (e 171 (by decide)).2.2.1 (e 172 (by decide)).2.2.1 (e 173 (by decide)).2.2.1, fun q _ => by rw [(e 174 (by decide)).2.2.1]⟩
theorem LAC_e (x : LAC h) (e : ∀ a, a ∉ Mscr → eqc h h1 a) : LAC h1 := by
  obtain ⟨y1, y2, y3⟩ := x
  refine ⟨fun b hb => ?_, fun i hi => ?_, ?_⟩
  · have : b ∉ Mscr := by
      rcases hb with z | z | z <;> rw [z] <;> decide
    rw [(e b this).2.2.2.2.1]
    exact y1 b hb
  · rw [(e 34 (by decide)).2.2.2.2.2]
    exact y2 i hi
  · rw [(e 84 (by decide)).2.2.2.2.2]
    exact y3
theorem fp_fms (F : fms h h1) : fp p W h h1 := by
  have e : ∀ a, a ∉ Mscr → eqc h h1 a := F.2.1
  exact ⟨⟨by rw [F.1]; exact Nat.le_refl _, fun a ha => e a (mscr_no (by omega))⟩, fun a _ _ c _ _ _ _ _ => e a c, fun k _ _ _ => by rw [(e 0 (by decide)).2.1], fun k _ k9 _ _ => F.2.2.2.1 k k9, F.2.2.1, fun x => LAC_e x e, fun s hs _ _ => F.2.2.2.2 s hs, fun q _ => by rw [(e 174 (by decide)).2.2.1]⟩
theorem fp_sf {a k : Nat} {v : Int32} (ha : 216 ≤ a) (hb : a < 10000000) (hW : W a = p) : fp p W h (ah_sf h a k v) := ⟨⟨Nat.le_refl _, fun c hc => ⟨rfl, f_sf_n _ _ _ _ _ (by omega), rfl, rfl, rfl, rfl⟩⟩, fun c _ _ _ _ _ _ _ z => ⟨rfl, f_sf_n _ _ _ _ _ (fun e => z (by rw [e]; exact ⟨ha, hW⟩)), rfl, rfl, rfl, rfl⟩, fun j _ _ _ => by rw [f_sf_n _ _ _ _ _ (by omega)], fun j _ _ _ _ => by rw [f_sf_n _ _ _ _ _ (by omega)], fun K => K, fun K => K, fun s _ _ _ => sl_refl h s, fun _ _ => rfl⟩
theorem fp_wi {a : Nat} {g : Nat → Int32} (ha : 216 ≤ a) (hb : a < 10000000) (hW : W a = p) : fp p W h (ah_wi h a g) := ⟨⟨Nat.le_refl _, fun c hc => ⟨rfl, rfl, i_wi_n _ _ _ _ (by omega), rfl, rfl, rfl⟩⟩, fun c _ _ _ _ _ _ _ z => ⟨rfl, rfl, i_wi_n _ _ _ _ (fun e => z (by rw [e]; exact ⟨ha, hW⟩)), rfl, rfl, rfl⟩, fun j _ _ _ => rfl, fun j _ _ _ _ => rfl, fun K => K, fun K => K, fun s _ _ _ => sl_of s (i_wi_n _ _ _ _ (by omega)) (i_wi_n _ _ _ _ (by omega)) (i_wi_n _ _ _ _ (by omega)) (i_wi_n _ _ _ _ (by omega)), fun q _ => by rw [i_wi_n _ _ _ _ (by omega)]⟩
theorem fp_si {a k : Nat} {v : Int32} (ha : 216 ≤ a) (hb : a < 10000000) (hW : W a = p) : fp p W h (ah_si h a k v) := fp_wi ha hb hW
theorem fp_f0 {k : Nat} {v : Int32} (hk : k = 17 ∨ k = 18 ∨ k = 19) : fp p W h (ah_sf h 0 k v) := ⟨⟨Nat.le_refl _, fun c hc => ⟨rfl, f_sf_n _ _ _ _ _ (by omega), rfl, rfl, rfl, rfl⟩⟩, fun c _ _ _ z _ _ _ _ => ⟨rfl, f_sf_n _ _ _ _ _ z, rfl, rfl, rfl, rfl⟩, fun j j1 j2 j3 => by rw [f_sf_s, u1_n _ _ (by omega)], fun j _ _ _ _ => by rw [f_sf_n _ _ _ _ _ (by omega)], fun K => K, fun K => K, fun s _ _ _ => sl_refl h s, fun _ _ => rfl⟩
theorem fp_f168 {k : Nat} {v : Int32} (hk : k = 0 ∨ k = 15 ∨ k = 60) : fp p W h (ah_sf h 168 k v) := ⟨⟨Nat.le_refl _, fun c hc => ⟨rfl, f_sf_n _ _ _ _ _ (by omega), rfl, rfl, rfl, rfl⟩⟩, fun c _ _ z _ _ _ _ _ => ⟨rfl, f_sf_n _ _ _ _ _ (fun e => z (by rw [e]; decide)), rfl, rfl, rfl, rfl⟩, fun j _ _ _ => by rw [f_sf_n _ _ _ _ _ (by omega)], fun j j1 j2 j3 j4 => by rw [f_sf_s, u1_n _ _ (by omega)], fun K => K, fun K => K, fun s _ _ _ => sl_refl h s, fun _ _ => rfl⟩
theorem fp_174 {v : Int32} : fp p W h (ah_si h 174 p v) := ⟨⟨Nat.le_refl _, fun c hc => ⟨rfl, rfl, i_si_n _ _ _ _ _ (by omega), rfl, rfl, rfl⟩⟩, fun c _ _ _ _ z _ _ _ => ⟨rfl, rfl, i_si_n _ _ _ _ _ z, rfl, rfl, rfl⟩, fun _ _ _ _ => rfl, fun _ _ _ _ _ => rfl, fun K => K, fun K => K, fun s _ _ _ => sl_of s (i_si_n _ _ _ _ _ (by decide)) (i_si_n _ _ _ _ _ (by decide)) (i_si_n _ _ _ _ _ (by decide)) (i_si_n _ _ _ _ _ (by decide)), fun q hq => by rw [i_si_s, u1_n _ _ hq]⟩
/-- the reference's picture arrays, where only slot p (or scratch beyond 364) is written -/
theorem fp_slots (F : fr [170, 171, 172, 173] h h1) (s : ∀ s, s < 364 → s ≠ p → ¬ (24 + 10 * p ≤ s ∧ s < 34 + 10 * p) → sl h h1 s) : fp p W h h1 := ⟨⟨by rw [F.1.1]; exact Nat.le_refl _, fun a ha => eqc_fr F (fun q => by have := (by decide : ∀ a, a ∈ [170, 171, 172, 173] → a < 216) a q; omega)⟩, fun a _ _ z _ _ _ _ _ => eqc_fr F (fun q => z ((by decide : ∀ a, a ∈ [170, 171, 172, 173] → a ∈ Mscr) a q)), fun k _ _ _ => by rw [fr_f F 0 (by decide)], fun k _ _ _ _ => by rw [fr_f F 168 (by decide)], fun K => sp_fr K F, fun x => LAC_q x F.1.2.2.1 F.1.2.2.2, s, fun q _ => by rw [fr_i F 174 (by decide)]⟩
theorem sl_170 {s k : Nat} {v : Int32} (hk : s ≠ k) : sl h (ah_si h 170 k v) s := ⟨by rw [i_si_s, u1_n _ _ hk], by rw [i_si_n _ _ _ _ _ (by decide)], fun _ _ => by rw [i_si_n _ _ _ _ _ (by decide)], fun _ _ => by rw [i_si_n _ _ _ _ _ (by decide)]⟩
theorem sl_171 {s k : Nat} {v : Int32} (hk : s ≠ k) : sl h (ah_si h 171 k v) s := ⟨by rw [i_si_n _ _ _ _ _ (by decide)], by rw [i_si_s, u1_n _ _ hk], fun _ _ => by rw [i_si_n _ _ _ _ _ (by decide)], fun _ _ => by rw [i_si_n _ _ _ _ _ (by decide)]⟩
theorem sl_172 {s k t : Nat} {v : Int32} (hk : s ≠ t) (h1 : 40 * t ≤ k) (h2 : k < 40 * t + 40) : sl h (ah_si h 172 k v) s := ⟨by rw [i_si_n _ _ _ _ _ (by decide)], by rw [i_si_n _ _ _ _ _ (by decide)], fun c hc => by rw [i_si_s, u1_n _ _ (by omega)], fun _ _ => by rw [i_si_n _ _ _ _ _ (by decide)]⟩
theorem sl_173 {s k t : Nat} {v : Int32} (hk : s ≠ t) (h1 : 160 * t ≤ k) (h2 : k < 160 * t + 160) : sl h (ah_si h 173 k v) s := ⟨by rw [i_si_n _ _ _ _ _ (by decide)], by rw [i_si_n _ _ _ _ _ (by decide)], fun _ _ => by rw [i_si_n _ _ _ _ _ (by decide)], fun e he => by rw [i_si_s, u1_n _ _ (by omega)]⟩
theorem fp_170 {v : Int32} : fp p W h (ah_si h 170 p v) := fp_slots (fr_si (fr_refl _ h) (by decide)) (fun s _ hs _ => sl_170 hs)
theorem fp_171 {v : Int32} : fp p W h (ah_si h 171 p v) := fp_slots (fr_si (fr_refl _ h) (by decide)) (fun s _ hs _ => sl_171 hs)
theorem fp_172 {k : Nat} {v : Int32} (h1 : 40 * p ≤ k) (h2 : k < 40 * p + 40) : fp p W h (ah_si h 172 k v) := fp_slots (fr_si (fr_refl _ h) (by decide)) (fun s _ hs _ => sl_172 hs h1 h2)
theorem fp_173 {k : Nat} {v : Int32} (h1 : 160 * p ≤ k) (h2 : k < 160 * p + 160) : fp p W h (ah_si h 173 k v) := fp_slots (fr_si (fr_refl _ h) (by decide)) (fun s _ hs _ => sl_173 hs h1 h2)
theorem FS_fp (x : fp p W h h1) (hp : p < 24) (hn : 216 ≤ ah_n h) : FS W h h1 := by
  obtain ⟨a1, a2, a3, a4, a5, a6, a7, a8⟩ := x
  refine ⟨fun a ha => ?_, fun k k1 k2 => a4 k (by omega) (by omega) (by omega) (by omega), fun s s1 s2 => a7 s s2 (by omega) (by omega)⟩
  have n1 : ∀ a, a ∈ Cscr → a < 125 := by decide
  have n2 : ∀ a, a ∈ Mscr → 168 ≤ a ∧ a < 216 ∧ ¬ (209 ≤ a ∧ a ≤ 211) := by decide
  refine a2 a (by omega) (fun q => by have := n1 a q; omega) (fun q => by have := n2 a q; omega) (by omega) (by omega) (by omega) (by omega) (by omega)
end FP
section DPIC
variable {h h' : AH} {p : Nat} {W W' : Nat → Nat} {N : Nat} {B : Nat → Nat} {S : Nat → Int32} {len : Nat}
theorem D_pic (x : R0 h W N B S len) (hp : p < N) (F : fp p W h h') (hW : ∀ a, a < ah_n h → W' a = W a) (fc : FC h') (px : PX h' W' (B p) p) (hn : ah_n h' ≤ ah_n h + 303) : DONE h h' W S len := by
  have F0 := F
  obtain ⟨-, x0, x1, x2, x3, x4, ⟨x5, x6, x7⟩, x8, x9, x10⟩ := x
  obtain ⟨⟨f1, f9⟩, f2, f3, f4, f5, f6, f7, f8⟩ := F
  obtain ⟨p1, p2, p3, p4⟩ := x3
  have h216 := x0.1
  have e : ∀ a, a < 216 → a ∉ Cscr → a ∉ Mscr → a ≠ 0 → a ≠ 174 → a ≠ 167 → a ≠ 169 → eqc h h' a := fun a c1 c2 c3 c4 c5 c6 c7 => f2 a (by omega) c2 c3 c4 c5 c6 c7 (by omega)
  have big : ∀ a, 216 ≤ a → a < ah_n h → W a ≠ p → eqc h h' a := fun a a1 a2 a3 => f2 a a2 (cscr_no a1) (mscr_no a1) (by omega) (by omega) (by omega) (by omega) (fun z => a3 z.2)
  refine ⟨W', N, B, ⟨fc, f5 x0, f6 x1, ?_, ?_, ?_, ⟨?_, ?_, ?_⟩, ?_, ?_, ?_⟩, FS_fp F0 (by omega) h216, hW, f1, hn⟩
  · exact OLD_eq x2 f9
  · refine ⟨p1, (f3 15 (by decide) (by decide) (by decide)).trans p2, (f4 6 (by decide) (by decide) (by decide) (by decide)).trans p3, fun q hq => ?_⟩
    rw [(e 1 (by decide) (by decide) (by decide) (by decide) (by decide) (by decide) (by decide)).2.2.2.2.2]
    refine ⟨(p4 q hq).1, ?_⟩
    by_cases z : q = p
    · subst z
      exact px
    · exact PX_eq (p4 q hq).2 hW (fun a a1 a2 a3 => big a a1 a2 (by omega)) (f8 q z) (f7 q (by omega) z (by omega)) (fun k hk => f7 _ (by omega) (by omega) (by omega)) f1
  · exact MV_eq x4 hW (f3 16 (by decide) (by decide) (by decide)) (f4 35 (by decide) (by decide) (by decide) (by decide)) (e 2 (by decide) (by decide) (by decide) (by decide) (by decide) (by decide) (by decide)).2.2.2.2.2 (e 197 (by decide) (by decide) (by decide) (by decide) (by decide) (by decide) (by decide)).2.2.1 (fun a a1 a2 a3 _ => big a a1 a2 (by omega)) f1
  · exact NU_eq x5 (e 3 (by decide) (by decide) (by decide) (by decide) (by decide) (by decide) (by decide)).2.1 (f4 29 (by decide) (by decide) (by decide) (by decide)) (e 4 (by decide) (by decide) (by decide) (by decide) (by decide) (by decide) (by decide)).2.2.1 (e 191 (by decide) (by decide) (by decide) (by decide) (by decide) (by decide) (by decide)).2.2.1
  · exact NU_eq x6 (e 5 (by decide) (by decide) (by decide) (by decide) (by decide) (by decide) (by decide)).2.1 (f4 38 (by decide) (by decide) (by decide) (by decide)) (e 6 (by decide) (by decide) (by decide) (by decide) (by decide) (by decide) (by decide)).2.2.1 (e 198 (by decide) (by decide) (by decide) (by decide) (by decide) (by decide) (by decide)).2.2.1
  · exact NU_eq x7 (e 134 (by decide) (by decide) (by decide) (by decide) (by decide) (by decide) (by decide)).2.1 (f4 59 (by decide) (by decide) (by decide) (by decide)) (e 135 (by decide) (by decide) (by decide) (by decide) (by decide) (by decide) (by decide)).2.2.1 (e 212 (by decide) (by decide) (by decide) (by decide) (by decide) (by decide) (by decide)).2.2.1
  · exact RS_eq x8 (e 73 (by decide) (by decide) (by decide) (by decide) (by decide) (by decide) (by decide)) (f4 22 (by decide) (by decide) (by decide) (by decide)) (e 74 (by decide) (by decide) (by decide) (by decide) (by decide) (by decide) (by decide)).2.2.2.1 (e 75 (by decide) (by decide) (by decide) (by decide) (by decide) (by decide) (by decide)).2.2.2.1 (e 186 (by decide) (by decide) (by decide) (by decide) (by decide) (by decide) (by decide)).2.2.2.1
  · exact SPn_eq x9 (e 32 (by decide) (by decide) (by decide) (by decide) (by decide) (by decide) (by decide)).2.1 (f4 23 (by decide) (by decide) (by decide) (by decide))
  · exact BK_eq x10 hW (e 164 (by decide) (by decide) (by decide) (by decide) (by decide) (by decide) (by decide)).2.1 (f4 62 (by decide) (by decide) (by decide) (by decide)) (e 165 (by decide) (by decide) (by decide) (by decide) (by decide) (by decide) (by decide)).2.2.2.1 (e 166 (by decide) (by decide) (by decide) (by decide) (by decide) (by decide) (by decide)).2.2.2.2.2 (e 214 (by decide) (by decide) (by decide) (by decide) (by decide) (by decide) (by decide)).2.2.2.1 (e 215 (by decide) (by decide) (by decide) (by decide) (by decide) (by decide) (by decide)).2.2.2.1 (fun a a1 a2 a3 _ => big a a1 a2 (by omega)) f1
/-- no history -/
theorem hp_0 {b p : Nat} (x : hp h W b p) (hW : ∀ a, a < ah_n h → W' a = W a) (e5 : ah_f h' b 5 = nI 0) (e6 : ah_f h' b 6 = ah_f h b 6) (er : ah_r h' b = ah_r h b) (e4 : ah_i h' 174 p = nI 0) (ek : ∀ T, ah_x h T 0 1620 → ah_x h' T 0 1620) (hn : ah_n h ≤ ah_n h') : hp h' W' b p := by
  obtain ⟨hc, nx, x1, x2, x3, x4, x5, x6⟩ := x
  refine ⟨0, nx, by omega, x2, e4, e5, e6.trans x5, ?_⟩
  rw [er]
  rcases x6 with x6 | ⟨T, t1, t2, t3, t4, t5, t6⟩
  · exact Or.inl ⟨x6.1, rfl⟩
  · exact Or.inr ⟨T, t1, t2, by omega, ek T t4, (hW T t3).trans t5, fun k hk => absurd hk (Nat.not_lt_zero k)⟩
end DPIC
