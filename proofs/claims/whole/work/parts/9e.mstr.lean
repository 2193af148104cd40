/-! Strands: the reference's labels. -/
def sgb (n : Nat) (m : Nat → Nat) (k e f : Nat) : Prop := ∀ S : Nat → Prop, S e → (∀ x, x < 4 * n → S x → S (m x)) → (∀ x, x < 4 * n → x % 2 = 1 → x / 4 < k → S x → S (cn x 2)) → S f
section SGB
variable {n k : Nat} {A m : Nat → Nat}
theorem sgb_refl (e : Nat) : sgb n m k e e := fun _ h _ _ => h
theorem sgb_trans {a b c : Nat} (x : sgb n m k a b) (y : sgb n m k b c) : sgb n m k a c := fun S h s t => y S (x S h s t) s t
theorem sgb_m {e : Nat} (he : e < 4 * n) : sgb n m k e (m e) := fun _ h s _ => s e he h
theorem sgb_2 {e : Nat} (he : e < 4 * n) (ho : e % 2 = 1) (hk : e / 4 < k) : sgb n m k e (cn e 2) := fun _ h _ t => t e he ho hk h
theorem sgb_EQ (P : Pr n A m) (k : Nat) : EQ (sgb n m k) (4 * n) := ⟨fun a => sgb_refl a, fun a b ha x => by
  refine (x (fun z => z < 4 * n ∧ sgb n m k z a) ⟨ha, sgb_refl a⟩ (fun e he h => ⟨P.lt he, ?_⟩) (fun e he ho hk h => ⟨cn_lt 2 he, ?_⟩)).2
  · have := sgb_m (n := n) (m := m) (k := k) (P.lt he)
    rw [P.mm he] at this
    exact sgb_trans this h.2
  · have := sgb_2 (n := n) (m := m) (k := k) (cn_lt 2 he) (by rw [cn2_odd]; exact ho) (by rw [cn_div]; exact hk)
    rw [cn_22] at this
    exact sgb_trans this h.2, fun _ _ _ x y => sgb_trans x y, fun a b ha x => (x (fun z => z < 4 * n) ha (fun e he _ => P.lt he) (fun e he _ _ _ => cn_lt 2 he))⟩
theorem sgb_n {e f : Nat} (he : e < 4 * n) (P : Pr n A m) : sgb n m n e f ↔ sg n m e f := ⟨fun x S h s t => x S h s (fun y hy ho _ => t y hy ho), fun x S h s t => x S h s (fun y hy ho => t y hy ho (by omega))⟩
theorem sgb_0 {e f : Nat} (he : e < 4 * n) (P : Pr n A m) : sgb n m 0 e f ↔ f = e ∨ f = m e := by
  constructor
  · intro x
    refine x (fun z => z = e ∨ z = m e) (Or.inl rfl) (fun y hy q => ?_) (fun y hy ho hk _ => absurd hk (Nat.not_lt_zero _))
    rcases q with q | q
    · rw [q]; exact Or.inr rfl
    · rw [q, P.mm he]; exact Or.inl rfl
  · rintro (q | q)
    · rw [q]; exact sgb_refl e
    · rw [q]; exact sgb_m he
theorem sgb_s (P : Pr n A m) (hk : k < n) {e f : Nat} (he : e < 4 * n) : sgb n m (k + 1) e f ↔ jo (sgb n m k) (4 * k + 1) (4 * k + 3) e f := by
  have Q := sgb_EQ P k
  have c1 : cn (4 * k + 1) 2 = 4 * k + 3 := by unfold cn; omega
  have c3 : cn (4 * k + 3) 2 = 4 * k + 1 := by unfold cn; omega
  have sub : ∀ a b, sgb n m k a b → sgb n m (k + 1) a b := fun a b x S h s t => x S h s (fun y hy ho hl => t y hy ho (by omega))
  have uv : sgb n m (k + 1) (4 * k + 1) (4 * k + 3) := by
    have := sgb_2 (n := n) (m := m) (k := k + 1) (e := 4 * k + 1) (by omega) (by omega) (by omega)
    rw [c1] at this
    exact this
  have vu : sgb n m (k + 1) (4 * k + 3) (4 * k + 1) := by
    have := sgb_2 (n := n) (m := m) (k := k + 1) (e := 4 * k + 3) (by omega) (by omega) (by omega)
    rw [c3] at this
    exact this
  constructor
  · intro x
    refine x (fun z => jo (sgb n m k) (4 * k + 1) (4 * k + 3) e z) (Or.inl (sgb_refl e)) (fun y hy h => jo_trans Q h (Or.inl (sgb_m hy))) (fun y hy ho hl h => ?_)
    refine jo_trans Q h ?_
    by_cases w : y / 4 < k
    · exact Or.inl (sgb_2 hy ho w)
    · have z : y = 4 * k + 1 ∨ y = 4 * k + 3 := by omega
      rcases z with z | z
      · rw [z, c1]; exact jo_uv Q
      · rw [z, c3]; exact jo_vu Q
  · rintro (x | ⟨x1, x2⟩ | ⟨x1, x2⟩)
    · exact sub _ _ x
    · exact sgb_trans (sub _ _ x1) (sgb_trans uv (sub _ _ x2))
    · exact sgb_trans (sub _ _ x1) (sgb_trans vu (sub _ _ x2))
end SGB
/-- the labels lab of the arcs A, in the row T -/
def LB (n : Nat) (A m : Nat → Nat) (k : Nat) (lab : Nat → Nat) (T : Nat → Int32) : Prop := (∀ a, us n A a → T a = nI (lab a) ∧ us n A (lab a) ∧ lab (lab a) = lab a) ∧ (∀ a, a < 100 → ¬ us n A a → T a = m1) ∧ ∀ e f, e < 4 * n → f < 4 * n → (lab (A e) = lab (A f) ↔ sgb n m k e f)
section MSTR
variable {h : AH} {d bc bs n : Nat} {A m : Nat → Nat} {Q : Option Value → AH → Prop}
theorem m_strands {p : Nat} {md : Int32} (K : sp h) (P : Pr n A m) (h40 : n ≤ 40) (hp : p < 368) (hn : ah_i h 170 p = nI n) (hA : ∀ e, e < 4 * n → ah_i h 173 (160 * p + e) = nI (A e))
    (k : ∀ h' lab, fr [183] h h' → LB n A m n lab (ah_i h' 183) → ex_G mX12_coloursOf (d + 1) 180 [.ref 168, .int (nI p), .int md, .int (nI 0), .int (nI 0), .retAddr 0, .retAddr 0, .retAddr 0] [] h' bc bs Q) : ex_G mX12_coloursOf (d + 1) 2 [.ref 168, .int (nI p), .int md, .int (nI 0), .retAddr 0, .retAddr 0, .retAddr 0, .retAddr 0] [] h bc bs Q := by
  have fo : (4 : Int32) * nI n = nI (4 * n) := pk_mul 4 n
  have po : (160 : Int32) * nI p = nI (160 * p) := pk_mul 160 p
  refine lp 100 (fun a h' => fr [183] h h' ∧ ∀ a', a' < a → ah_i h' 183 a' = m1) (fun a h' => ex_G mX12_coloursOf (d + 1) 2 [.ref 168, .int (nI p), .int md, .int (nI a), .retAddr 0, .retAddr 0, .retAddr 0, .retAddr 0] [] h' bc bs Q) ⟨fr_refl _ h, fun a ha => absurd ha (Nat.not_lt_zero a)⟩ ?_ ?_
  · rintro a h1 ha ⟨F1, I1⟩ nx
    have K1 := sp_fr K F1
    have c100 : (100 : Int32) ≤ nI a ↔ 100 ≤ a := nI_leI (a := 100) (by omega) (by omega)
    refine X12_coloursOf_2 ⟨fun w => by have := c100.mp w; omega, fun _ => ⟨o168 K1, 183, r168_18 K1, (t183 K1 _).mpr ((ix_nI (by omega)).mpr (by omega)), fun h4 e4 x6 e6 => ?_⟩⟩
    rw [nI_clamp (by omega)] at e4
    have e6' : x6 = nI (a + 1) := by rw [e6]; exact nI_add _ 1
    rw [e6']
    refine nx h4 ⟨by rw [e4]; exact fr_si F1 (by decide), fun a' ha' => ?_⟩
    rw [e4, i_si_s]
    by_cases z : a' = a
    · rw [z, u1_s]; rfl
    · rw [u1_n _ _ z]; exact I1 a' (by omega)
  rintro h1 ⟨F1, I1⟩
  refine X12_coloursOf_2 ⟨fun _ => ?_, fun w => absurd (show (100 : Int32) ≤ nI 100 by decide) w⟩
  -- each arc its own label
  refine lp (4 * n) (fun e h' => fr [183] h h' ∧ (∀ e', e' < e → ah_i h' 183 (A e') = nI (A e')) ∧ ∀ a, a < 100 → (∀ e', e' < e → A e' ≠ a) → ah_i h' 183 a = m1) (fun e h' => ex_G mX12_coloursOf (d + 1) 23 [.ref 168, .int (nI p), .int md, .int (nI e), .retAddr 0, .retAddr 0, .retAddr 0, .retAddr 0] [] h' bc bs Q) ⟨F1, fun e he => absurd he (Nat.not_lt_zero e), fun a ha _ => I1 a ha⟩ ?_ ?_
  · rintro e h2 he ⟨F2, I2, I3⟩ nx
    have K2 := sp_fr K F2
    have aL := P.A100 he
    refine X12_coloursOf_23 ⟨o168 K2, 170, r168_2 K2, (s170 K2 _).mpr ((ix_nI (by omega)).mpr (by omega)), ?_⟩
    rw [nI_clamp (by omega), fr_i F2 170 (by decide), hn, fo, po, nI_add, nI_leI (by omega) (by omega)]
    refine ⟨fun w => by omega, fun _ => ⟨173, r168_5 K2, (s173 K2 _).mpr ((ix_nI (by omega)).mpr (by omega)), fun x7 e7 => ⟨183, r168_18 K2, ?_⟩⟩⟩
    rw [nI_clamp (by omega), fr_i F2 173 (by decide), hA e he] at e7
    subst e7
    refine ⟨(t183 K2 _).mpr ((ix_nI (by omega)).mpr (by omega)), fun h9 e9 x11 e11 => ?_⟩
    rw [nI_clamp (by omega)] at e9
    have e11' : x11 = nI (e + 1) := by rw [e11]; exact nI_add _ 1
    rw [e11']
    refine nx h9 ⟨by rw [e9]; exact fr_si F2 (by decide), fun e' he' => ?_, fun a ha no => ?_⟩
    · rw [e9, i_si_s]
      by_cases z : A e' = A e
      · rw [z, u1_s]
      · rw [u1_n _ _ z]
        exact I2 e' (by have : e' ≠ e := fun y => z (by rw [y]); omega)
    · rw [e9, i_si_s, u1_n _ _ (Ne.symm (no e (by omega)))]
      exact I3 a ha (fun e' he' => no e' (by omega))
  rintro h2 ⟨F2, I2, I3⟩
  have K2 := sp_fr K F2
  refine X12_coloursOf_23 ⟨o168 K2, 170, r168_2 K2, (s170 K2 _).mpr ((ix_nI (by omega)).mpr (by omega)), ?_⟩
  rw [nI_clamp (by omega), fr_i F2 170 (by decide), hn, fo, nI_leI (by omega) (by omega)]
  refine ⟨fun _ => ?_, fun w => absurd (Nat.le_refl _) w⟩
  have L0 : LB n A m 0 (fun a => a) (ah_i h2 183) := ⟨fun a ⟨e, he, q⟩ => ⟨by rw [← q]; exact I2 e he, ⟨e, he, q⟩, rfl⟩, fun a ha no => I3 a ha (fun e' he' q => no ⟨e', he', q⟩), fun e f he hf => by
    show A e = A f ↔ _
    rw [sgb_0 he P]
    exact ⟨fun q => (P.eq he hf).mp q.symm, fun q => ((P.eq he hf).mpr q).symm⟩⟩
  refine lp n (fun c h' => fr [183] h h' ∧ ∃ lab, LB n A m c lab (ah_i h' 183)) (fun c h' => ex_G mX12_coloursOf (d + 1) 66 [.ref 168, .int (nI p), .int md, .int (nI c), .retAddr 0, .retAddr 0, .retAddr 0, .retAddr 0] [] h' bc bs Q) ⟨F2, _, L0⟩ ?_ ?_
  · rintro c h3 hc ⟨F3, lab, L1, L2, L3⟩ nx
    have K3 := sp_fr K F3
    have a1L := P.A100 (e := 4 * c + 1) (by omega)
    have a3L := P.A100 (e := 4 * c + 3) (by omega)
    have usA : ∀ e, e < 4 * n → us n A (A e) := fun e he => ⟨e, he, rfl⟩
    have us100 : ∀ a, us n A a → a < 100 := fun a ⟨e, he, q⟩ => by rw [← q]; exact P.A100 he
    obtain ⟨x1, x2, x3⟩ := L1 _ (usA (4 * c + 1) (by omega))
    obtain ⟨y1, y2, y3⟩ := L1 _ (usA (4 * c + 3) (by omega))
    have xl := us100 _ x2
    have yl := us100 _ y2
    have e4 : (4 : Int32) * nI c = nI (4 * c) := pk_mul 4 c
    have e41 : nI (160 * p + 4 * c) + 1 = nI (160 * p + (4 * c + 1)) := nI_add _ 1
    have e43 : nI (160 * p + 4 * c) + 3 = nI (160 * p + (4 * c + 3)) := nI_add _ 3
    refine X12_coloursOf_66 ⟨o168 K3, 170, r168_2 K3, (s170 K3 _).mpr ((ix_nI (by omega)).mpr (by omega)), ?_⟩
    rw [nI_clamp (by omega), fr_i F3 170 (by decide), hn, po, e4, nI_add, e41, e43, nI_leI (by omega) (by omega)]
    refine ⟨fun w => by omega, fun _ => ⟨183, r168_18 K3, 173, r168_5 K3, (s173 K3 _).mpr ((ix_nI (by omega)).mpr (by omega)), ?_⟩⟩
    rw [nI_clamp (by omega), nI_clamp (by omega), fr_i F3 173 (by decide), hA _ (by omega), hA _ (by omega), nI_clamp (by omega), nI_clamp (by omega), x1, y1]
    refine ⟨(s183 K3 _).mpr ((ix_nI (by omega)).mpr (by omega)), fun x9 e9 => ⟨(s173 K3 _).mpr ((ix_nI (by omega)).mpr (by omega)), (s183 K3 _).mpr ((ix_nI (by omega)).mpr (by omega)), fun x12 e12 => ?_⟩⟩
    rw [e9, e12]
    -- all labels y are made x
    refine lp 100 (fun a h' => fr [183] h h' ∧ ∀ a', a' < 100 → ah_i h' 183 a' = if a' < a ∧ ah_i h3 183 a' = nI (lab (A (4 * c + 3))) then nI (lab (A (4 * c + 1))) else ah_i h3 183 a') (fun a h' => ex_G mX12_coloursOf (d + 1) 125 [.ref 168, .int (nI p), .int md, .int (nI c), .int (nI (lab (A (4 * c + 1)))), .int (nI (lab (A (4 * c + 3)))), .int (nI a), .retAddr 0] [] h' bc bs Q) ⟨F3, fun a' _ => by rw [if_neg (fun w => absurd w.1 (Nat.not_lt_zero a'))]⟩ ?_ ?_
    · rintro a h4 ha ⟨F4, J⟩ nx2
      have K4 := sp_fr K F4
      have c100 : (100 : Int32) ≤ nI a ↔ 100 ≤ a := nI_leI (a := 100) (by omega) (by omega)
      have va : ah_i h4 183 a = ah_i h3 183 a := by rw [J a ha, if_neg (fun w => by omega)]
      refine X12_coloursOf_125 ⟨fun w => by have := c100.mp w; omega, fun _ => ⟨o168 K4, 183, r168_18 K4, (s183 K4 _).mpr ((ix_nI (by omega)).mpr (by omega)), ?_⟩⟩
      rw [nI_clamp (by omega), va]
      have e1 : nI a + 1 = nI (a + 1) := nI_add _ 1
      refine ⟨fun w => ⟨(t183 K4 _).mpr ((ix_nI (by omega)).mpr (by omega)), fun h7 e7 x9 e9 => ?_⟩, fun w => ⟨(t183 K4 _).mpr ((ix_nI (by omega)).mpr (by omega)), fun h10 e10 x12 e12 => ?_⟩⟩
      · rw [e9, e1]
        refine nx2 h7 ⟨by rw [e7]; exact fr_si F4 (by decide), fun a' ha' => ?_⟩
        rw [e7, i_si_s]
        by_cases z : a' = a
        · rw [z, u1_s, if_neg (fun q => w q.2)]
        · rw [u1_n _ _ z, J a' ha']
          by_cases z2 : a' < a ∧ ah_i h3 183 a' = nI (lab (A (4 * c + 3)))
          · rw [if_pos z2, if_pos ⟨by omega, z2.2⟩]
          · rw [if_neg z2, if_neg (fun q => z2 ⟨by omega, q.2⟩)]
      · rw [e12, e1]
        refine nx2 h10 ⟨by rw [e10]; exact fr_si F4 (by decide), fun a' ha' => ?_⟩
        rw [e10, i_si_s]
        by_cases z : a' = a
        · rw [z, u1_s, if_pos ⟨by omega, w⟩]
        · rw [u1_n _ _ z, J a' ha']
          by_cases z2 : a' < a ∧ ah_i h3 183 a' = nI (lab (A (4 * c + 3)))
          · rw [if_pos z2, if_pos ⟨by omega, z2.2⟩]
          · rw [if_neg z2, if_neg (fun q => z2 ⟨by omega, q.2⟩)]
    · rintro h4 ⟨F4, J⟩
      refine X12_coloursOf_125 ⟨fun _ x2' e2' => ?_, fun w => absurd (show (100 : Int32) ≤ nI 100 by decide) w⟩
      have e1 : nI c + 1 = nI (c + 1) := nI_add _ 1
      rw [e2', e1]
      obtain ⟨lab', hlab⟩ : ∃ lab' : Nat → Nat, ∀ a, lab' a = if lab a = lab (A (4 * c + 3)) then lab (A (4 * c + 1)) else lab a := ⟨fun a => if lab a = lab (A (4 * c + 3)) then lab (A (4 * c + 1)) else lab a, fun _ => rfl⟩
      refine nx h4 ⟨F4, lab', fun a ua => ?_, fun a ha no => ?_, fun e f he hf => ?_⟩
      · obtain ⟨t1, t2, t3⟩ := L1 a ua
        have al := us100 _ ua
        have ll := us100 _ t2
        rw [J a al, t1]
        have cE : nI (lab a) = nI (lab (A (4 * c + 3))) ↔ lab a = lab (A (4 * c + 3)) := nI_eq (by omega) (by omega)
        by_cases z : lab a = lab (A (4 * c + 3))
        · rw [if_pos ⟨al, cE.mpr z⟩]
          have el : lab' a = lab (A (4 * c + 1)) := by rw [hlab, if_pos z]
          rw [el]
          refine ⟨rfl, x2, ?_⟩
          rw [hlab, x3]
          split <;> rfl
        · rw [if_neg (fun w => z (cE.mp w.2))]
          have el : lab' a = lab a := by rw [hlab, if_neg z]
          rw [el]
          refine ⟨rfl, t2, ?_⟩
          rw [hlab, t3, if_neg z]
      · rw [J a ha, L2 a ha no, if_neg (fun w => m1_en (by omega) w.2)]
      · rw [sgb_s P hc he, hlab, hlab]
        unfold jo
        rw [← L3 e f he hf, ← L3 e (4 * c + 1) he (by omega), ← L3 e (4 * c + 3) he (by omega), ← L3 (4 * c + 3) f (by omega) hf, ← L3 (4 * c + 1) f (by omega) hf]
        by_cases z1 : lab (A e) = lab (A (4 * c + 3))
        · rw [if_pos z1]
          by_cases z2 : lab (A f) = lab (A (4 * c + 3))
          · rw [if_pos z2]
            exact ⟨fun _ => Or.inl (z1.trans z2.symm), fun _ => rfl⟩
          · rw [if_neg z2]
            exact ⟨fun q => Or.inr (Or.inr ⟨z1, q⟩), fun q => by
              rcases q with q | ⟨q1, q2⟩ | ⟨q1, q2⟩
              · exact absurd (q.symm.trans z1) z2
              · exact absurd q2.symm z2
              · exact q2⟩
        · rw [if_neg z1]
          by_cases z2 : lab (A f) = lab (A (4 * c + 3))
          · rw [if_pos z2]
            exact ⟨fun q => Or.inr (Or.inl ⟨q, z2.symm⟩), fun q => by
              rcases q with q | ⟨q1, q2⟩ | ⟨q1, q2⟩
              · exact absurd (q.trans z2) z1
              · exact q1
              · exact absurd q1 z1⟩
          · rw [if_neg z2]
            exact ⟨fun q => Or.inl q, fun q => by
              rcases q with q | ⟨q1, q2⟩ | ⟨q1, q2⟩
              · exact q
              · exact absurd q2.symm z2
              · exact absurd q1 z1⟩
  · rintro h3 ⟨F3, lab, L⟩
    have K3 := sp_fr K F3
    refine X12_coloursOf_66 ⟨o168 K3, 170, r168_2 K3, (s170 K3 _).mpr ((ix_nI (by omega)).mpr (by omega)), ?_⟩
    rw [nI_clamp (by omega), fr_i F3 170 (by decide), hn, nI_leI (by omega) (by omega)]
    exact ⟨fun _ => k h3 lab F3 L, fun w => absurd (Nat.le_refl _) w⟩
end MSTR
