/-! How a call ends that made a bracket or a polynomial; why none is made. -/
theorem ct_app (p : Nat → Prop) (a b : Nat) : ct p (a + b) = ct p a + ct (fun i => p (a + i)) b := by
  induction b with
  | zero => rfl
  | succ b ih =>
    by_cases q : p (a + b)
    · rw [← Nat.add_assoc, ct_y q, ct_y (p := fun i => p (a + i)) q, ih]; omega
    · rw [← Nat.add_assoc, ct_n q, ct_n (p := fun i => p (a + i)) q, ih]
theorem ct_281 {P : Int → Int} (S : sup140 P) {f g : Nat → Int64} (hf : ∀ k : Nat, k < 601 → f k = Int64.ofInt (P ((k : Int) - 300))) (hg : ∀ k : Nat, k < 281 → g k = Int64.ofInt (P ((k : Int) - 140))) : ct (fun k => f k ≠ 0) 601 = ct (fun k => g k ≠ 0) 281 := by
  have e : (601 : Nat) = 160 + (281 + 160) := rfl
  rw [e, ct_app, ct_app]
  have z : ∀ k : Nat, k < 601 → (k < 160 ∨ 440 < k) → f k = 0 := fun k hk q => by rw [hf k hk, S _ (by omega)]; rfl
  rw [ct_none (n := 160) (fun i hi q => q (z i (by omega) (by omega))), ct_none (n := 160) (fun i hi q => q (z _ (by omega) (by omega))), Nat.zero_add, Nat.add_zero]
  refine ct_congr (fun i hi => ?_)
  rw [hf _ (by omega), hg i hi, show ((160 + i : Nat) : Int) - 300 = (i : Int) - 140 by omega]
section BDONE
variable {h h1 h3 h5 h6 hz : AH} {d bc bs b : Nat} {Q : Option Value → AH → Prop} {W : Nat → Nat} {N : Nat} {B : Nat → Nat} {S : Nat → Int32} {len : Nat}
theorem LAC_fB {x y : Nat} {P : Int → Int} (hb : hb3 b) (F : fB b h h1) (L : LA h1 b x y P) (C : LAC h) : LAC h1 := by
  obtain ⟨c1, c2, g, c3, c4⟩ := C
  refine ⟨fun b' hb' => ?_, by rw [F.2.2.1]; exact c2, g, by rw [F.2.2.1]; exact c3, c4⟩
  by_cases q : b' = b
  · rw [q]
    rcases L.1 with ⟨e1, e2⟩ | ⟨e1, e2⟩
    · exact Or.inl ⟨by rw [L.2.1, e1], by rw [L.2.2.1, e2]⟩
    · exact Or.inr ⟨by rw [L.2.1, e1], by rw [L.2.2.1, e2]⟩
  · rw [F.2.2.2.1 b' q]
    exact c1 b' hb'
theorem LA_ex (C : LAC h) (hb : hb3 b) : ∃ x y, ((x = b + 1 ∧ y = b + 2) ∨ (x = b + 2 ∧ y = b + 1)) ∧ ah_r h b 0 = some x ∧ ah_r h b 1 = some y := by
  rcases C.1 b hb with ⟨a, c⟩ | ⟨a, c⟩
  · exact ⟨b + 1, b + 2, Or.inl ⟨rfl, rfl⟩, a, c⟩
  · exact ⟨b + 2, b + 1, Or.inr ⟨rfl, rfl⟩, a, c⟩
theorem LA_any {x y : Nat} (hx : (x = b + 1 ∧ y = b + 2) ∨ (x = b + 2 ∧ y = b + 1)) (r0 : ah_r h b 0 = some x) (r1 : ah_r h b 1 = some y) : LA h b x y (fun k => (ah_l h x (k + 140).toNat).toInt) := ⟨hx, r0, r1, fun k hk => by
  show ah_l h x k = Int64.ofInt (ah_l h x ((k : Int) - 140 + 140).toNat).toInt
  rw [show ((k : Int) - 140 + 140).toNat = k by omega]
  exact (Int64.ofInt_toInt _).symm⟩
theorem smb_C : ∀ a, a ∈ smb → a = 32 ∨ a ∈ Cscr := by decide
theorem eqc_fB (F : fB b h h1) {a : Nat} (ha : a ∉ smb) (a0 : a ≠ b) (a1 : a ≠ b + 1) (a2 : a ≠ b + 2) : eqc h h1 a := ⟨by rw [F.2.1], (F.2.2.2.2 a ha).1 a0, (F.2.2.2.2 a ha).2.1, (F.2.2.2.2 a ha).2.2 a1 a2, F.2.2.2.1 a a0, by rw [F.2.2.1]⟩
def mlL : List Nat := [168, 176, 178, 179, 181, 182, 185, 187, 188, 189, 190]
/-- what the reference sees after the class has made a bracket -/
theorem B_see {x y : Nat} {P : Int → Int} (x0 : R0 h W N B S len) (hb : hb3 b) (Fl : fr (lkc 7) h h1) (F6 : fB b h1 h6) (L6 : LA h6 b x y P) : sp (cNo h6 (nI 0)) ∧ LAC (cNo h6 (nI 0)) ∧ ah_n (cNo h6 (nI 0)) = ah_n h ∧ (∀ a, a ≠ 0 → a ∉ Cscr → a ≠ 32 → a ≠ 73 → a ≠ 74 → a ≠ 75 → eqc h (cNo h6 (nI 0)) a) ∧ ah_f (cNo h6 (nI 0)) 0 = u1 (ah_f h 0) 19 (nI 0) ∧ (b ≠ 73 → eqc h (cNo h6 (nI 0)) 73 ∧ eqc h (cNo h6 (nI 0)) 74 ∧ eqc h (cNo h6 (nI 0)) 75) := by
  have K6 := sp_fB (sp_fr x0.2.1 Fl) hb F6
  have hb' := hb
  unfold hb3 at hb'
  have bC : ∀ a, (a = b ∨ a = b + 1 ∨ a = b + 2) → a ∈ Cscr ∨ a = 73 ∨ a = 74 ∨ a = 75 := fun a ha => by
    have e : a = 73 ∨ a = 74 ∨ a = 75 ∨ a = 76 ∨ a = 77 ∨ a = 78 ∨ a = 79 ∨ a = 80 ∨ a = 81 := by omega
    rcases e with e | e | e | e | e | e | e | e | e
    · exact Or.inr (Or.inl e)
    · exact Or.inr (Or.inr (Or.inl e))
    · exact Or.inr (Or.inr (Or.inr e))
    all_goals (left; subst e; decide)
  have c0 : ∀ a, a ≠ 0 → eqc h6 (cNo h6 (nI 0)) a := fun a ha => ⟨by rw [k_cNo], by unfold cNo; rw [f_sf_n _ _ _ _ _ ha], by rw [i_cNo], by unfold cNo; rw [l_sf], by rw [r_cNo], by unfold cNo; rw [q_sf]⟩
  have gen : ∀ a, a ≠ 0 → a ∉ lkc 7 → a ∉ smb → a ≠ b → a ≠ b + 1 → a ≠ b + 2 → eqc h (cNo h6 (nI 0)) a := fun a a0 al as_ a1 a2 a3 => eqc_trans (eqc_fr Fl al) (eqc_trans (eqc_fB F6 as_ a1 a2 a3) (c0 a a0))
  refine ⟨sp_fr (L := [0]) K6 (fr_sf (fr_refl _ h6) (by decide)), ?_, ?_, fun a a0 ac a32 a73 a74 a75 => gen a a0 (fun q => ac (lkc7 a q)) (fun q => ?_) (fun q => ?_) (fun q => ?_) (fun q => ?_), ?_, fun nb => ⟨gen 73 (by decide) (by decide) (by decide) (by omega) (by omega) (by omega), gen 74 (by decide) (by decide) (by decide) (by omega) (by omega) (by omega), gen 75 (by decide) (by decide) (by decide) (by omega) (by omega) (by omega)⟩⟩
  · have C1 := LAC_q x0.2.2.1 Fl.1.2.2.1 Fl.1.2.2.2
    have C6 := LAC_fB hb F6 L6 C1
    exact LAC_q C6 (by rw [r_cNo]) (by unfold cNo; rw [q_sf])
  · rw [n_cNo, F6.1, Fl.1.1]
  · rcases smb_C a q with e | e
    · exact a32 e
    · exact ac e
  · rcases bC a (Or.inl q) with e | e | e | e
    · exact ac e
    · exact a73 e
    · exact a74 e
    · exact a75 e
  · rcases bC a (Or.inr (Or.inl q)) with e | e | e | e
    · exact ac e
    · exact a73 e
    · exact a74 e
    · exact a75 e
  · rcases bC a (Or.inr (Or.inr q)) with e | e | e | e
    · exact ac e
    · exact a73 e
    · exact a74 e
    · exact a75 e
  · unfold cNo
    rw [f_sf_s, (F6.2.2.2.2 0 (by decide)).1 (by omega), fr_f Fl 0 (by decide)]
theorem D_brk {x y v : Nat} {P : Int → Int} (x0 : R0 h W N B S len) (hb : hb3 b) (Fl : fr (lkc 7) h h1) (F6 : fB b h1 h6) (L6 : LA h6 b x y P) (w6 : ah_f h6 32 3 = nI v) (hv : v ≤ 1000000) (G3 : fms (cNo h6 (nI 0)) h3) (F3 : fr [168, 176, 177, 178, 179, 180] (cNo h6 (nI 0)) h3) (F5 : fr mlL h3 h5) (f5 : ah_f h5 168 = u1 (ah_f h3 168) 23 (nI v)) (Fz : fr [168, 186] h5 hz) (fz : ∀ k, k ≠ 0 → k ≠ 22 → ah_f hz 168 k = ah_f h5 168 k) (z0 : ah_f hz 168 0 = nI 0) (R : RS hz) : DONE h hz W S len := by
  obtain ⟨K6, C6, n6, E6, f06, -⟩ := B_see x0 hb Fl F6 L6
  have Kz := sp_fr (sp_fr (sp_fr K6 F3) F5) Fz
  have mlM : ∀ a, a ∈ mlL → a ∈ Mscr := by decide
  have eall : ∀ a, a ∉ Mscr → a ≠ 186 → eqc (cNo h6 (nI 0)) hz a := fun a a1 a2 => eqc_trans (G3.2.1 a a1) (eqc_trans (eqc_fr F5 (fun q => a1 (mlM a q))) (eqc_fr Fz (fun q => by
    have := (by decide : ∀ a, a ∈ [168, 186] → a ∈ Mscr ∨ a = 186) a q
    rcases this with w | w
    · exact a1 w
    · exact a2 w)))
  have E : ∀ a, a ≠ 0 → a ∉ Cscr → a ≠ 32 → a ≠ 73 → a ≠ 74 → a ≠ 75 → a ∉ Mscr → a ≠ 186 → eqc h hz a := fun a a0 ac a3 a4 a5 a6 am a7 => eqc_trans (E6 a a0 ac a3 a4 a5 a6) (eall a am a7)
  have k168 : eqc h (cNo h6 (nI 0)) 168 := E6 168 (by decide) (by decide) (by decide) (by decide) (by decide) (by decide)
  have kz : ∀ k, k ≠ 0 → k ≠ 9 → k ≠ 22 → k ≠ 23 → ah_f hz 168 k = ah_f h 168 k := fun k k0 k9 k22 k23 => by
    rw [fz k k0 k22, f5, u1_n _ _ k23, G3.2.2.2.1 k k9, k168.2.1]
  have f0z : ah_f hz 0 = u1 (ah_f h 0) 19 (nI 0) := by rw [(eall 0 (by decide) (by decide)).2.1, f06]
  have L' : LAC hz := LAC_q C6 (by rw [Fz.1.2.2.1, F5.1.2.2.1, F3.1.2.2.1]) (by rw [Fz.1.2.2.2, F5.1.2.2.2, F3.1.2.2.2])
  have slh : ∀ s, sl h (cNo h6 (nI 0)) s := fun s => sl_of s (E6 170 (by decide) (by decide) (by decide) (by decide) (by decide) (by decide)).2.2.1 (E6 171 (by decide) (by decide) (by decide) (by decide) (by decide) (by decide)).2.2.1 (E6 172 (by decide) (by decide) (by decide) (by decide) (by decide) (by decide)).2.2.1 (E6 173 (by decide) (by decide) (by decide) (by decide) (by decide) (by decide)).2.2.1
  have sz : ∀ s, s < 364 → sl h hz s := fun s hs => sl_trans (slh s) (sl_trans (G3.2.2.2.2 s hs) (sl_of s (by rw [fr_i Fz 170 (by decide), fr_i F5 170 (by decide)]) (by rw [fr_i Fz 171 (by decide), fr_i F5 171 (by decide)]) (by rw [fr_i Fz 172 (by decide), fr_i F5 172 (by decide)]) (by rw [fr_i Fz 173 (by decide), fr_i F5 173 (by decide)])))
  have y := x0.1
  obtain ⟨⟨x5, x6, x7⟩, x8, x9, x10⟩ := x0.2.2.2.2.2.2
  have b0 : ∀ a, 216 ≤ a → eqc h hz a := fun a ha => E a (by omega) (cscr_no ha) (by omega) (by omega) (by omega) (by omega) (mscr_no ha) (by omega)
  have nz : ah_n hz = ah_n h := by rw [Fz.1.1, F5.1.1, G3.1, n6]
  have e_ : ∀ a, a = 3 ∨ a = 4 ∨ a = 5 ∨ a = 6 ∨ a = 164 ∨ a = 165 ∨ a = 166 ∨ a = 167 ∨ a = 169 ∨ a = 191 ∨ a = 198 ∨ a = 214 ∨ a = 215 → eqc h hz a := fun a ha => E a (by omega) (fun q => by have := (by decide : ∀ a, a ∈ Cscr → 6 < a ∧ a < 125) a q; omega) (by omega) (by omega) (by omega) (by omega) (fun q => by have := (by decide : ∀ a, a ∈ Mscr → 167 < a ∧ a ≠ 169 ∧ a ≠ 191 ∧ a ≠ 198 ∧ a ≠ 214 ∧ a ≠ 215) a q; omega) (by omega)
  refine D_any x0 Kz L' nz (fun a a1 a2 a3 => E a ?_ a1 ?_ ?_ ?_ ?_ a2 ?_) (fun k _ _ k19 => by rw [f0z, u1_n _ _ k19]) (fun k k0 k9 _ k22 k23 _ _ _ _ => kz k k0 k9 k22 k23) (FC_of y ?_ ?_ ?_ ?_ ?_ ?_ ?_) sz (NU_eq x5 (e_ 3 (by omega)).2.1 (kz 29 (by decide) (by decide) (by decide) (by decide)) (e_ 4 (by omega)).2.2.1 (e_ 191 (by omega)).2.2.1) (NU_eq x6 (e_ 5 (by omega)).2.1 (kz 38 (by decide) (by decide) (by decide) (by decide)) (e_ 6 (by omega)).2.2.1 (e_ 198 (by omega)).2.2.1) R ⟨v, hv, ?_, ?_⟩ (BK_eq x10 (fun _ _ => rfl) (e_ 164 (by omega)).2.1 (kz 62 (by decide) (by decide) (by decide) (by decide)) (e_ 165 (by omega)).2.2.2.1 (e_ 166 (by omega)).2.2.2.2.2 (e_ 214 (by omega)).2.2.2.1 (e_ 215 (by omega)).2.2.2.1 (fun a a1 _ _ _ => b0 a a1) (by omega))
  · intro q; subst q; exact a3 (by decide)
  · intro q; subst q; exact a3 (by decide)
  · intro q; subst q; exact a3 (by decide)
  · intro q; subst q; exact a3 (by decide)
  · intro q; subst q; exact a3 (by decide)
  · intro q; subst q; exact a3 (by decide)
  · rw [f0z, u1_s, z0]
  · rw [f0z, u1_n _ _ (by decide)]
  · rw [f0z, u1_n _ _ (by decide)]
  · exact kz 15 (by decide) (by decide) (by decide) (by decide)
  · exact kz 60 (by decide) (by decide) (by decide) (by decide)
  · exact (e_ 167 (by omega)).2.2.1
  · exact (e_ 169 (by omega)).2.2.1
  · rw [(eall 32 (by decide) (by decide)).2.1]
    unfold cNo
    rw [f_sf_n _ _ _ _ _ (by decide)]
    exact w6
  · rw [fz 23 (by decide) (by decide), f5, u1_s]
/-- why no bracket is made: 6 empty, 7 too great, 9 too much work -/
def RF (n l lim w f : Nat) : Prop := (f = 6 ∧ n = 0 ∧ l = 0) ∨ (f = 7 ∧ ¬ (n = 0 ∧ l = 0) ∧ lim < n) ∨ (f = 9 ∧ ¬ (n = 0 ∧ l = 0) ∧ n ≤ lim ∧ 1000000 < w + 2 ^ n)
theorem c_why {p0 lim w : Nat} (x : R1 h W N B S len) (hp : p0 < N) (hlim : lim ≤ 14) (hw : ah_f h 32 3 = nI w) (w6 : w ≤ 1000000)
    (k3 : ∀ h1 n, OP h N B p0 n → fr (lkc 7) h h1 → Q (some (.int (-nI (10 + 3)))) h1)
    (kf : ∀ h1 n l f, WH h N B p0 n l → fr (lkc 7) h h1 → RF n l lim w f → Q (some (.int (-nI (10 + f)))) h1)
    (k0 : ∀ h1 n l, WH h N B p0 n l → fr (lkc 7) h h1 → ah_f h1 7 10 = nI n → ah_f h1 7 11 = nI l → LF h1 7 n (mt n (AN (ah_i h (B p0 + 2)))) → ¬ (n = 0 ∧ l = 0) → n ≤ lim → w + 2 ^ n ≤ 1000000 → Q (some (.int (nI 0))) h1) : ex_S yX11_whyNoBracket mX11_whyNoBracket (d + 5) [.ref 0, .int (nI p0), .int (nI lim)] h bc bs Q := by
  have K := x.1
  refine X11_whyNoBracket_e (X11_whyNoBracket_0 ⟨o0 K, 7, r0_4 K, c_look x hp (Or.inl rfl) (fun h1 n op F => ⟨_, rfl, fun z => absurd rfl z, fun _ => k3 h1 n op F⟩) (fun h1 n l wh F l1 l2 LFh => ⟨_, rfl, fun _ => ?_, fun z => absurd z (by decide)⟩)⟩)
  have K1 := sp_fr K F
  have h40 := wh.2.2.1
  have h9 := wh.2.2.2.1
  have z0 : ∀ a : Nat, a < 100 → (nI a = (0 : Int32) ↔ a = 0) := fun a ha => nI_eq (b := 0) (by omega) (by omega)
  have w1 : ah_f h1 32 3 = nI w := by rw [fr_f F 32 (by decide)]; exact hw
  have go : ¬ (n = 0 ∧ l = 0) → ex_G mX11_whyNoBracket (d + 5) 38 [.ref 0, .retAddr 0, .int (nI lim)] [] h1 bc bs Q := fun ne => by
    refine X11_whyNoBracket_38 ⟨o0 K1, 7, r0_4 K1, o7 K1, ?_⟩
    rw [l1, nI_leI (by omega) (by omega)]
    refine ⟨fun le => ⟨32, r0_7 K1, o32 K1, ?_⟩, fun nl => kf h1 n l 7 wh F (Or.inr (Or.inl ⟨rfl, ne, by omega⟩))⟩
    have p14 : 2 ^ n ≤ 2 ^ 14 := Nat.pow_le_pow_right (by decide) (by omega)
    rw [costV (by omega)]
    have av : X9_affords_V 32 (nI (2 ^ n)) h1 = if 1000000 < w + 2 ^ n then 0 else 1 := by
      unfold X9_affords_V
      rw [w1, nI_add]
      have c : (1000000 : Int32) < nI (w + 2 ^ n) ↔ 1000000 < w + 2 ^ n := nI_ltI (a := 1000000) (by omega) (by omega)
      by_cases q : 1000000 < w + 2 ^ n
      · rw [if_pos q, if_pos (c.mpr q)]
      · rw [if_neg q, if_neg (fun w => q (c.mp w))]
    rw [av]
    refine ⟨⟨o32 K1, trivial⟩, fun z => ?_, fun z => ?_⟩
    · by_cases q : 1000000 < w + 2 ^ n
      · exact kf h1 n l 9 wh F (Or.inr (Or.inr ⟨rfl, ne, le, q⟩))
      · rw [if_neg q] at z
        exact absurd z (by decide)
    · by_cases q : 1000000 < w + 2 ^ n
      · rw [if_pos q] at z
        exact absurd rfl z
      · exact k0 h1 n l wh F l1 l2 LFh ne le (by omega)
  refine ⟨o0 K1, 7, r0_4 K1, o7 K1, ?_⟩
  rw [l1, l2, z0 n (by omega), z0 l (by omega)]
  refine ⟨fun z => go (fun q => z q.1), fun z => ⟨fun z2 => go (fun q => z2 q.2), fun z2 => kf h1 n l 6 wh F (Or.inl ⟨rfl, z, z2⟩)⟩⟩
theorem m_spends_open {p n r lim : Nat} {pl : Int32} {h0 : AH} (x : R1 h W N B S len) (E : ∀ a, 216 ≤ a → eqc h0 h a) (hp : p < N) (hn : ah_f h0 (B p) 2 = nI n) (h40 : n ≤ 40) (O : opn n (ah_i h0 (B p + 1)) (ah_i h0 (B p + 2)) r pl) (r0 : r ≠ 0) (k : ∀ h', fms h h' → Q (some (.int (-nI 13))) (mF h' 3)) : ex_S yX12_spends mX12_spends (d + 5) [.ref 168, .int (nI p), .int (nI lim)] h bc bs Q :=
  X12_spends_e (X12_spends_0 ⟨o168 x.1, m_refusal x E hp hn h40 O (fun w => absurd w r0) (fun _ h3 G3 => ⟨_, rfl, fun w => absurd w (by decide), fun _ => k h3 G3⟩)⟩)
theorem m_spends {p n l lim w : Nat} {h0 : AH} (K : sp h) (hN2 : ah_f h 168 6 = nI N) (h24 : N ≤ 24) (wh : WH h0 N B p n l) (s : sl h0 h p) (hlim : lim ≤ 14) (hw : ah_f h 168 23 = nI w) (w6 : w ≤ 1000000)
    (kf : ∀ h' f, fms h h' → fr [168, 176, 177, 178, 179, 180] h h' → RF n l lim w f → Q (some (.int (-nI (10 + f)))) (mF h' f))
    (k0 : ∀ h', fms h h' → fr [168, 176, 177, 178, 179, 180] h h' → ¬ (n = 0 ∧ l = 0) → n ≤ lim → w + 2 ^ n ≤ 1000000 → Q (some (.int (nI 0))) h') : ex_S yX12_spends mX12_spends (d + 5) [.ref 168, .int (nI p), .int (nI lim)] h bc bs Q := by
  obtain ⟨hp, hn, h40, h9, ⟨pl, O⟩, C, M, R⟩ := wh
  have Mp := mD_sl M h40 s
  have r_ : PO n (ah_i h0 (B p + 1)) (ah_i h0 (B p + 2)) := ⟨h40, fun c hc => Or.inr ⟨4, by omega, C.2.2.1 c hc⟩, fun e he => Or.inr ⟨_, R.A100 he, C.2.2.2 e he⟩⟩
  refine X12_spends_e (X12_spends_0 ⟨o168 K, m_refusalS (L := ah_i h0 (B p + 1)) (A := ah_i h0 (B p + 2)) K hN2 h24 hp Mp.1 r_ (fun c hc => by rw [Mp.2.2.1 c hc, C.2.2.1 c hc]) (fun e he => by rw [Mp.2.2.2 e he, C.2.2.2 e he]) O (fun _ h3 G3 F3 g3 => ⟨_, rfl, fun _ => ?_, fun w => absurd (show (0 : Int32) ≤ nI 0 by decide) w⟩) (fun w => absurd rfl w)⟩)
  have K3 := G3.2.2.1 K
  have M3 := mD_sl Mp h40 (G3.2.2.2.2 p (by omega))
  have w3 : ah_f h3 168 23 = nI w := by rw [G3.2.2.2.1 23 (by decide)]; exact hw
  have z0 : ∀ a : Nat, a < 100 → (nI a = (0 : Int32) ↔ a = 0) := fun a ha => nI_eq (b := 0) (by omega) (by omega)
  have ip : ix (nI p) 368 := (ix_nI (by omega)).mpr (by omega)
  have go : ¬ (n = 0 ∧ l = 0) → ex_G mX12_spends (d + 5) 39 [.ref 168, .int (nI p), .int (nI lim), .retAddr 0] [] h3 bc bs Q := fun ne => by
    refine X12_spends_39 ⟨o168 K3, 170, r168_2 K3, (s170 K3 _).mpr ip, ?_⟩
    rw [nI_clamp (by omega), M3.1, nI_leI (by omega) (by omega)]
    refine ⟨fun le => ?_, fun nl => ⟨meC K3 (f := 7) (by decide), fun h9 e9 => ?_⟩⟩
    · have p14 : 2 ^ n ≤ 2 ^ 14 := Nat.pow_le_pow_right (by decide) (by omega)
      have c : nI (w + 2 ^ n) ≤ (1000000 : Int32) ↔ w + 2 ^ n ≤ 1000000 := nI_leI (b := 1000000) (by omega) (by omega)
      rw [w3, shl1 (by omega), nI_add, c]
      refine ⟨fun q => k0 h3 G3 F3 ne le q, fun q => ⟨meC K3 (f := 9) (by decide), fun h7 e7 => ?_⟩⟩
      have e7' : h7 = mF h3 9 := by rw [e7]; exact meH K3 (by decide)
      rw [e7']
      have := kf h3 9 G3 F3 (Or.inr (Or.inr ⟨rfl, ne, le, by omega⟩))
      rw [← meV (h := h3)] at this
      exact this
    · have e9' : h9 = mF h3 7 := by rw [e9]; exact meH K3 (by decide)
      rw [e9']
      have := kf h3 7 G3 F3 (Or.inr (Or.inl ⟨rfl, ne, by omega⟩))
      rw [← meV (h := h3)] at this
      exact this
  refine ⟨o168 K3, 170, r168_2 K3, (s170 K3 _).mpr ip, ?_⟩
  rw [nI_clamp (by omega), M3.1, z0 n (by omega)]
  refine ⟨fun z => go (fun q => z q.1), fun z => ⟨171, r168_3 K3, (s171 K3 _).mpr ip, ?_⟩⟩
  rw [M3.2.1, z0 l (by omega)]
  refine ⟨fun z2 => go (fun q => z2 q.2), fun z2 => ⟨meC K3 (f := 6) (by decide), fun h13 e13 => ?_⟩⟩
  have e13' : h13 = mF h3 6 := by rw [e13]; exact meH K3 (by decide)
  rw [e13']
  have := kf h3 6 G3 F3 (Or.inl ⟨rfl, z, z2⟩)
  rw [← meV (h := h3)] at this
  exact this
end BDONE
