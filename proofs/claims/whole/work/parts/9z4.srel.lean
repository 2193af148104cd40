/-! The search between calls; how its calls end. -/
theorem ex_S.mono {y : MethodName} {M : MM} {d : Nat} {vs : List Value} {h : AH} {bc bs : Nat} {Q Q' : Option Value → AH → Prop} (hQ : ∀ r h, Q r h → Q' r h) (x : ex_S y M d vs h bc bs Q) : ex_S y M d vs h bc bs Q' := fun g l => MetFree.mono (x g l) (fun _ _ z => z) (fun _ _ _ _ _ z => z) (fun _ _ _ _ _ q => ⟨q.1.mono hQ, q.2⟩)
def NG : Nat → Nat → (Nat → Nat) → Prop := fun _ _ _ => False
def SC (h : AH) (W : Nat → Nat) : Prop := ∃ u, SU h W u ∧ ((ah_f h 125 8 = 0 ∧ ah_f h 168 49 = 0) ∨ (ah_f h 125 8 = 1 ∧ ah_f h 168 49 = 1 ∧ ∃ c D cu s e st, PVI NG c D cu s e 0 ∧ CI h W u c D cu s e 0 NG st ∧ MSI h c D cu s e st))
section SREL
variable {h h1 h2 h' : AH} {d bc bs : Nat} {Q : Option Value → AH → Prop} {W W' : Nat → Nat} {N : Nat} {B : Nat → Nat} {S : Nat → Int32} {len : Nat} {u c cu s e f n l : Nat} {A : Nat → Nat} {D : SD} {G : Nat → Nat → (Nat → Nat) → Prop} {st : Int32}
theorem SO_e {k a : Nat} (x : SO h W k a) (hn : ah_n h ≤ ah_n h') (hW : ∀ a, a < ah_n h → W' a = W a) (e : ∀ a, 216 ≤ a → a < ah_n h → 1000 ≤ W a → eqc h h' a) : SO h' W' k a ∧ eqc h h' a ∧ eqc h h' (a + 1) ∧ eqc h h' (a + 2) := by
  have x0 := x
  obtain ⟨x1, x2, x3, x4, x5⟩ := x
  have e0 := e a x1 x2.2.1.1 (by omega)
  have e1 := e (a + 1) (by omega) x2.2.2.2.2.1.1 (by omega)
  have e2 := e (a + 2) (by omega) x2.2.2.2.2.2.1 (by omega)
  exact ⟨SO_eq x0 hW e0 e1 e2 hn, e0, e1, e2⟩
theorem SU_eq (x : SU h W u) (hn : ah_n h ≤ ah_n h') (hW : ∀ a, a < ah_n h → W' a = W a) (q : ah_q h' 126 = ah_q h 126) (e : ∀ a, 216 ≤ a → a < ah_n h → 1000 ≤ W a → eqc h h' a) : SU h' W' u := by
  refine ⟨x.1, fun k hk => ?_, fun k k1 k2 => by rw [q]; exact x.2.2 k k1 k2⟩
  obtain ⟨a, a1, a2⟩ := x.2.1 k hk
  exact ⟨a, by rw [q]; exact a1, (SO_e a2 hn hW e).1⟩
theorem CI_eq (x : CI h W u c D cu s e f G st) (hn : ah_n h ≤ ah_n h') (hW : ∀ a, a < ah_n h → W' a = W a) (K' : sp h') (e1 : ∀ a, 125 ≤ a → a ≤ 163 → (a < 130 ∨ 135 < a) → eqc h h' a) (e2 : ∀ a, 216 ≤ a → a < ah_n h → 1000 ≤ W a → eqc h h' a) : CI h' W' u c D cu s e f G st := by
  obtain ⟨x1, ⟨s1, s2, s3, s4⟩, ⟨b1, ⟨d1, d2, d3, d4⟩, b3, b4⟩, x4, x5, x6, x7, x8, x9⟩ := x
  have f125 := (e1 125 (by decide) (by decide) (by decide)).2.1
  have f136 := (e1 136 (by decide) (by decide) (by decide)).2.1
  have q126 := (e1 126 (by decide) (by decide) (by decide)).2.2.2.2.2
  refine ⟨K', ⟨SU_eq s1 hn hW q126 e2, s2, by rw [f125]; exact s3, fun k hk => ?_⟩, ⟨by rw [f125]; exact b1, ⟨by rw [f136]; exact d1, by rw [f136]; exact d2, fun c hc => by rw [(e1 137 (by decide) (by decide) (by decide)).2.2.1]; exact d3 c hc, fun e he => by rw [(e1 138 (by decide) (by decide) (by decide)).2.2.1]; exact d4 e he⟩, by rw [(e1 142 (by decide) (by decide) (by decide)).2.1]; exact b3, fun e he => by rw [(e1 143 (by decide) (by decide) (by decide)).2.2.1]; exact b4 e he⟩, by rw [f125]; exact x4, SA_eq x5 (by rw [f125]) (e1 127 (by decide) (by decide) (by decide)) (e1 128 (by decide) (by decide) (by decide)) (e1 129 (by decide) (by decide) (by decide)), by rw [f125]; exact x6, by rw [f125]; exact x7, by rw [f125]; exact x8, by rw [f125]; exact x9⟩
  obtain ⟨a, y1, y2, y3, y4⟩ := s4 k hk
  obtain ⟨z1, z2, z3, z4⟩ := SO_e y2 hn hW e2
  exact ⟨a, by rw [q126]; exact y1, z1, sD_eq y3 z2.2.1 z3.2.2.1 z4.2.2.1, by rw [z2.2.1]; exact y4⟩
theorem MSI_eq (x : MSI h c D cu s e st) (c100 : c ≤ 100) (gs : ∀ k, k < c → (D k).1 ≤ 12) (K' : sp h') (f : ∀ k, 50 ≤ k → k ≤ 54 → ah_f h' 168 k = ah_f h 168 k) (e1 : ∀ a, 209 ≤ a → a ≤ 211 → ah_i h' a = ah_i h a) (sl_ : ∀ t, 264 ≤ t → t < 364 → sl h h' t) : MSI h' c D cu s e st := by
  obtain ⟨x1, x2, x3, x4, x5, x6, x7⟩ := x
  refine ⟨K', (f 50 (by decide) (by decide)).trans x2, (f 51 (by decide) (by decide)).trans x3, fun z => ⟨(f 52 (by decide) (by decide)).trans (x4 z).1, (f 53 (by decide) (by decide)).trans (x4 z).2⟩, fun z => ⟨(f 52 (by decide) (by decide)).trans (x5 z).1, (f 53 (by decide) (by decide)).trans (x5 z).2⟩, (f 54 (by decide) (by decide)).trans x6, fun k hk => MKk_eq (x7 k hk) (gs k hk) (sl_ _ (by omega) (by omega)) (fun i _ => by rw [e1 211 (by decide) (by decide)]) (by rw [e1 209 (by decide) (by decide)]) (by rw [e1 210 (by decide) (by decide)])⟩
theorem PVI_12 (P : PVI G c D cu s e f) : c ≤ 100 ∧ ∀ k, k < c → (D k).1 ≤ 12 := ⟨P.1.2.1, fun k hk => (P.1.2.2.2.2.1 k hk).1⟩
theorem SC_e (x : SC h W) (K' : sp h') (hn : ah_n h ≤ ah_n h') (hW : ∀ a, a < ah_n h → W' a = W a) (e1 : ∀ a, 125 ≤ a → a ≤ 163 → (a < 130 ∨ 135 < a) → eqc h h' a) (e2 : ∀ a, 216 ≤ a → a < ah_n h → 1000 ≤ W a → eqc h h' a) (F2 : ∀ k, 49 ≤ k → k ≤ 54 → ah_f h' 168 k = ah_f h 168 k) (e3 : ∀ a, 209 ≤ a → a ≤ 211 → ah_i h' a = ah_i h a) (F3 : ∀ s, 264 ≤ s → s < 364 → sl h h' s) : SC h' W' := by
  obtain ⟨u, x1, x2⟩ := x
  have f125 := (e1 125 (by decide) (by decide) (by decide)).2.1
  refine ⟨u, SU_eq x1 hn hW (e1 126 (by decide) (by decide) (by decide)).2.2.2.2.2 e2, ?_⟩
  rcases x2 with ⟨y1, y2⟩ | ⟨y1, y2, c, D, cu, s, e, st, P, ci, mi⟩
  · exact Or.inl ⟨by rw [f125]; exact y1, (F2 49 (by decide) (by decide)).trans y2⟩
  · exact Or.inr ⟨by rw [f125]; exact y1, (F2 49 (by decide) (by decide)).trans y2, c, D, cu, s, e, st, P, CI_eq ci hn hW K' e1 e2, MSI_eq mi (PVI_12 P).1 (PVI_12 P).2 K' (fun k k1 k2 => F2 k (by omega) k2) e3 F3⟩
theorem SC_FS2 (x : SC h W) (K' : sp h') (hn : ah_n h ≤ ah_n h') (hW : ∀ a, a < ah_n h → W' a = W a) (F : FS2 W h h') : SC h' W' := SC_e x K' hn hW (fun a a1 a2 a3 => F.1 a (Or.inl ⟨a1, a2, by omega⟩)) (fun a a1 a2 a3 => F.1 a (Or.inr (Or.inr ⟨a1, a2, a3⟩))) F.2.1 (fun a a1 a2 => (F.1 a (Or.inr (Or.inl ⟨a1, a2⟩))).2.2.1) F.2.2
/-- the class's part of a call of the search -/
def FX (W : Nat → Nat) (h h' : AH) : Prop := ah_n h ≤ ah_n h' ∧ (∀ a, ((a < 216 ∧ a ∉ Cscr ∧ ¬ (125 ≤ a ∧ a ≤ 163) ∧ a ≠ 0 ∧ a ≠ 32) ∨ 10000000 ≤ a ∨ (216 ≤ a ∧ a < ah_n h ∧ W a < 1000)) → eqc h h' a) ∧ sp h' ∧ LAC h' ∧ (∀ j, j ≠ 18 → ah_f h' 0 j = ah_f h 0 j)
/-- the reference's part -/
def FY (h h' : AH) : Prop := ah_n h' = ah_n h ∧ (∀ a, a ∉ Mscr → ¬ (209 ≤ a ∧ a ≤ 212) → eqc h h' a) ∧ sp h' ∧ (∀ k, k ∈ [6, 15, 22, 29, 35, 38, 62] → ah_f h' 168 k = ah_f h 168 k) ∧ ∀ s, s < 264 → sl h h' s
theorem FX_trans (x : FX W h h1) (hW : ∀ a, a < ah_n h → W' a = W a) (y : FX W' h1 h2) : FX W h h2 := ⟨Nat.le_trans x.1 y.1, fun a ha => eqc_trans (x.2.1 a ha) (y.2.1 a (by
  rcases ha with q | q | ⟨q1, q2, q3⟩
  · exact Or.inl q
  · exact Or.inr (Or.inl q)
  · exact Or.inr (Or.inr ⟨q1, Nat.lt_of_lt_of_le q2 x.1, by rw [hW a q2]; exact q3⟩))), y.2.2.1, y.2.2.2.1, fun j hj => (y.2.2.2.2 j hj).trans (x.2.2.2.2 j hj)⟩
theorem FX_fcs (K : sp h) (L : LAC h) (F : fcs h h') : FX W h h' := ⟨by rw [F.1]; exact Nat.le_refl _, fun a ha => F.2.1 a (fun q => by
  have := cscr_lt a q
  rcases ha with z | z | z
  · exact z.2.1 q
  · omega
  · omega), F.2.2.1 K, F.2.2.2 L, fun j _ => by rw [(F.2.1 0 (by decide)).2.1]⟩
theorem LAC_eq (x : LAC h) (e : ∀ a, a ∈ [73, 76, 79, 34, 84] → eqc h h' a) : LAC h' := by
  obtain ⟨y1, y2, y3⟩ := x
  refine ⟨fun b hb => ?_, fun i hi => ?_, ?_⟩
  · have : b ∈ [73, 76, 79, 34, 84] := by
      rcases hb with z | z | z <;> rw [z] <;> decide
    rw [(e b this).2.2.2.2.1]
    exact y1 b hb
  · rw [(e 34 (by decide)).2.2.2.2.2]
    exact y2 i hi
  · rw [(e 84 (by decide)).2.2.2.2.2]
    exact y3
/-- begin's frame -/
def FB (W : Nat → Nat) (h h' : AH) : Prop := ah_n h ≤ ah_n h' ∧ (∀ a, ((a < 216 ∧ ¬ SQ a) ∨ 10000000 ≤ a ∨ (216 ≤ a ∧ a < ah_n h ∧ W a < 1000)) → eqc h h' a) ∧ sp h'
theorem FB_FQ (x : FQ W h h') : FB W h h' := ⟨x.1, x.2.1, x.2.2.1⟩
theorem FB_trans (x : FB W h h1) (hW : ∀ a, a < ah_n h → W' a = W a) (y : FB W' h1 h2) : FB W h h2 := ⟨Nat.le_trans x.1 y.1, fun a ha => eqc_trans (x.2.1 a ha) (y.2.1 a (by
  rcases ha with q | q | ⟨q1, q2, q3⟩
  · exact Or.inl q
  · exact Or.inr (Or.inl q)
  · exact Or.inr (Or.inr ⟨q1, Nat.lt_of_lt_of_le q2 x.1, by rw [hW a q2]; exact q3⟩))), y.2.2⟩
theorem FB_fr {L : List Nat} (K : sp h) (F : fr L h h') (s : ∀ a, a ∈ L → SQ a) : FB W h h' := ⟨by rw [F.1.1]; exact Nat.le_refl _, fun a ha => eqc_fr F (fun q => by
  have := s a q
  unfold SQ at this ha
  omega), sp_fr K F⟩
theorem FX_FB (L : LAC h) (x : FB W h h') : FX W h h' := by
  have e : ∀ a, a < 216 → ¬ SQ a → eqc h h' a := fun a a1 a2 => x.2.1 a (Or.inl ⟨a1, a2⟩)
  refine ⟨x.1, fun a ha => x.2.1 a ?_, x.2.2, LAC_eq L (fun a q => e a ?_ ?_), fun j _ => by rw [(e 0 (by decide) (by unfold SQ; omega)).2.1]⟩
  · unfold SQ
    omega
  · have := (by decide : ∀ a, a ∈ [73, 76, 79, 34, 84] → a < 125) a q
    omega
  · have := (by decide : ∀ a, a ∈ [73, 76, 79, 34, 84] → a < 125) a q
    unfold SQ
    omega
theorem FY_trans (x : FY h h1) (y : FY h1 h2) : FY h h2 := ⟨y.1.trans x.1, fun a a1 a2 => eqc_trans (x.2.1 a a1 a2) (y.2.1 a a1 a2), y.2.2.1, fun k k1 => (y.2.2.2.1 k k1).trans (x.2.2.2.1 k k1), fun s hs => sl_trans (x.2.2.2.2 s hs) (y.2.2.2.2 s hs)⟩
theorem FY_fms (K : sp h) (x : fms h h') : FY h h' := ⟨x.1, fun a a1 _ => x.2.1 a a1, x.2.2.1 K, fun k hk => x.2.2.2.1 k (fun q => by rw [q] at hk; exact absurd hk (by decide)), fun s hs => x.2.2.2.2 s (by omega)⟩
theorem FY_FM (x : FM h h') : FY h h' := ⟨x.1, fun a a1 a2 => x.2.1 a a1 (by omega) (by omega) (by omega), x.2.2.1, fun k hk => x.2.2.2.1 k (fun q => by rw [q] at hk; exact absurd hk (by decide)) (fun q => by
  have := (by decide : ∀ k, k ∈ [6, 15, 22, 29, 35, 38, 62] → k < 49 ∨ 54 < k) k hk
  omega), x.2.2.2.2.1⟩
def xnl : List Nat := [1, 2, 3, 4, 5, 6, 73, 74, 75, 164, 165, 166, 167, 169, 174, 186, 191, 197, 198, 214, 215]
theorem xnl_ok : ∀ a, a ∈ xnl → a < 216 ∧ a ∉ Cscr ∧ ¬ (125 ≤ a ∧ a ≤ 163) ∧ a ≠ 0 ∧ a ≠ 32 ∧ a ∉ Mscr ∧ ¬ (209 ≤ a ∧ a ≤ 212) ∧ a ≠ 168 := by decide +kernel
theorem D_X (x : R0 h W N B S len) (hW : ∀ a, a < ah_n h → W' a = W a) (fx : FX W h h1) (v : Int32) (fy : FY (cNo h1 v) h2) (p : ah_f h2 0 18 = ah_f h2 168 60) (nu : NU h2 134 135 59 212 100) (spn : SPn h2) : R0 (mNo h2 v) W' N B S len := by
  obtain ⟨y, x0, x1, x2, x3, x4, ⟨x5, x6, x7⟩, x8, x9, x10⟩ := x
  have f0 : ah_f (mNo h2 v) 0 = u1 (ah_f h1 0) 19 v := by
    unfold mNo
    rw [f_sf_n _ _ _ _ _ (by decide), (fy.2.1 0 (by decide) (by decide)).2.1]
    unfold cNo
    rw [f_sf_s]
  have f168 : ∀ k, k ≠ 0 → ah_f (mNo h2 v) 168 k = ah_f h2 168 k := fun k hk => by
    unfold mNo
    rw [f_sf_s, u1_n _ _ hk]
  have c168 : ah_f (cNo h1 v) 168 = ah_f h 168 := by
    unfold cNo
    rw [f_sf_n _ _ _ _ _ (by decide)]
    exact (fx.2.1 168 (Or.inl (by decide))).2.1
  have k168 : ∀ k, k ∈ [6, 15, 22, 29, 35, 38, 62] → ah_f (mNo h2 v) 168 k = ah_f h 168 k := fun k hk => by
    rw [f168 k (fun q => by rw [q] at hk; exact absurd hk (by decide)), fy.2.2.2.1 k hk, c168]
  have ez : ∀ a, a ≠ 168 → eqc h2 (mNo h2 v) a := fun a ha => ⟨rfl, f_sf_n _ _ _ _ _ ha, rfl, rfl, rfl, rfl⟩
  have ec : ∀ a, a ≠ 0 → eqc h1 (cNo h1 v) a := fun a ha => ⟨rfl, f_sf_n _ _ _ _ _ ha, rfl, rfl, rfl, rfl⟩
  have lo : ∀ a, a ∈ xnl → eqc h (mNo h2 v) a := fun a ha => by
    obtain ⟨q1, q2, q3, q4, q5, q6, q7, q8⟩ := xnl_ok a ha
    exact eqc_trans (fx.2.1 a (Or.inl ⟨q1, q2, q3, q4, q5⟩)) (eqc_trans (ec a q4) (eqc_trans (fy.2.1 a q6 q7) (ez a q8)))
  have up : ∀ a, 10000000 ≤ a ∨ (216 ≤ a ∧ a < ah_n h ∧ W a < 1000) → eqc h (mNo h2 v) a := fun a ha => by
    have ge : 216 ≤ a := by omega
    exact eqc_trans (fx.2.1 a (Or.inr ha)) (eqc_trans (ec a (by omega)) (eqc_trans (fy.2.1 a (mscr_no ge) (by omega)) (ez a (by omega))))
  have Wlt : ∀ a, 216 ≤ a → a < ah_n h → W a < 1000 → eqc h (mNo h2 v) a := fun a a1 a2 a3 => up a (Or.inr ⟨a1, a2, a3⟩)
  have n2 : ah_n (mNo h2 v) = ah_n h1 := fy.1
  have hn : ah_n h ≤ ah_n (mNo h2 v) := by rw [n2]; exact fx.1
  have K : sp (mNo h2 v) := sp_fr (L := [168]) fy.2.2.1 (fr_sf (fr_refl _ h2) (by decide))
  have L2 : LAC (mNo h2 v) := LAC_eq fx.2.2.2.1 (fun a q => by
    have := (by decide : ∀ a, a ∈ [73, 76, 79, 34, 84] → a ≠ 0 ∧ a ∉ Mscr ∧ ¬ (209 ≤ a ∧ a ≤ 212) ∧ a ≠ 168) a q
    exact eqc_trans (ec a this.1) (eqc_trans (fy.2.1 a this.2.1 this.2.2.1) (ez a this.2.2.2)))
  have sl_ : ∀ t, t < 264 → sl h (mNo h2 v) t := fun t ht => by
    have e1 : ∀ a, a = 170 ∨ a = 171 ∨ a = 172 ∨ a = 173 → ah_i (cNo h1 v) a = ah_i h a := fun a ha => by
      rw [i_cNo]
      exact (fx.2.1 a (Or.inl (by
        refine ⟨by omega, fun q => ?_, by omega, by omega, by omega⟩
        have := (by decide +kernel : ∀ a, a ∈ Cscr → a < 125) a q
        omega))).2.2.1
    exact sl_trans (sl_of t (e1 170 (by omega)) (e1 171 (by omega)) (e1 172 (by omega)) (e1 173 (by omega))) (sl_trans (fy.2.2.2.2 t ht) (sl_of t rfl rfl rfl rfl))
  have k0 : ∀ j, j = 15 ∨ j = 16 ∨ j = 17 → ah_f (mNo h2 v) 0 j = ah_f h 0 j := fun j hj => by
    rw [f0, u1_n _ _ (by omega)]
    exact fx.2.2.2.2 j (by omega)
  refine ⟨⟨?_, ?_, ?_, fun k k1 k2 => ?_⟩, K, L2, OLD_eq x2 (fun a ha => up a (Or.inl ha)), PS_eq x3 hW (k0 15 (by omega)) (k168 6 (by decide)) (lo 1 (by decide)).2.2.2.2.2 (lo 174 (by decide)).2.2.1 (fun a a1 a2 a3 => Wlt a a1 a2 (by omega)) sl_ hn, MV_eq x4 hW (k0 16 (by omega)) (k168 35 (by decide)) (lo 2 (by decide)).2.2.2.2.2 (lo 197 (by decide)).2.2.1 (fun a a1 a2 _ a3 => Wlt a a1 a2 (by omega)) hn, ⟨NU_eq x5 (lo 3 (by decide)).2.1 (k168 29 (by decide)) (lo 4 (by decide)).2.2.1 (lo 191 (by decide)).2.2.1, NU_eq x6 (lo 5 (by decide)).2.1 (k168 38 (by decide)) (lo 6 (by decide)).2.2.1 (lo 198 (by decide)).2.2.1, NU_eq nu (ez 134 (by decide)).2.1 (f168 59 (by decide)) rfl rfl⟩, RS_eq x8 (lo 73 (by decide)) (k168 22 (by decide)) (lo 74 (by decide)).2.2.2.1 (lo 75 (by decide)).2.2.2.1 (lo 186 (by decide)).2.2.2.1, SPn_eq spn (ez 32 (by decide)).2.1 (f168 23 (by decide)), BK_eq x10 hW (lo 164 (by decide)).2.1 (k168 62 (by decide)) (lo 165 (by decide)).2.2.2.1 (lo 166 (by decide)).2.2.2.2.2 (lo 214 (by decide)).2.2.2.1 (lo 215 (by decide)).2.2.2.1 (fun a a1 a2 _ a3 => Wlt a a1 a2 (by omega)) hn⟩
  · rw [f0, u1_s]
    unfold mNo
    rw [f_sf_s, u1_s]
  · rw [k0 17 (by omega), k168 15 (by decide)]
    exact y.2.1
  · rw [f168 60 (by decide), (ez 0 (by decide)).2.1]
    exact p
  · rw [(lo 167 (by decide)).2.2.1, (lo 169 (by decide)).2.2.1]
    exact y.2.2.2 k k1 k2
end SREL
