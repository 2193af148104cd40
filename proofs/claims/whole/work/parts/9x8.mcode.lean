/-! The reference finds the codes of all parts. -/
def cdR : List Nat := [199, 200, 201, 202, 203]
def cdL : List Nat := [177, 199, 200, 201, 202, 203, 204, 205]
def offN (Ns : Nat → Nat) : Nat → Nat
  | 0 => 0
  | p + 1 => offN Ns p + 4 * Ns p
theorem offN_s (Ns : Nat → Nat) (p : Nat) : offN Ns (p + 1) = offN Ns p + 4 * Ns p := rfl
theorem offN_congr {Ns Ns' : Nat → Nat} : ∀ p, (∀ i, i < p → Ns i = Ns' i) → offN Ns p = offN Ns' p := by
  intro p
  induction p with
  | zero => intro _; rfl
  | succ p ih => intro h; rw [offN_s, offN_s, ih (fun i hi => h i (by omega)), h p (by omega)]
theorem offN_mono {Ns : Nat → Nat} {p q : Nat} (h : p ≤ q) : offN Ns p ≤ offN Ns q := by
  obtain ⟨t, e⟩ : ∃ t, q = p + t := ⟨q - p, by omega⟩
  subst e
  clear h
  induction t with
  | zero => exact Nat.le_refl _
  | succ t ih => rw [← Nat.add_assoc, offN_s]; omega
/-- the codes of the parts whose least crossings lie below c -/
def PT (n : Nat) (m : Nat → Nat) (h : AH) (c : Nat) (Ns : Nat → Nat) (fs : Nat → Nat → Nat) : Prop := offN Ns (ct (c1 n m) c) = 4 * ct (fun x => ∃ y, y < c ∧ c1 n m y ∧ cc n m y x) n ∧ ∀ p, p < ct (c1 n m) c → (0 < Ns p ∧ Ns p ≤ n) ∧ (∃ y, y < c ∧ c1 n m y ∧ ct (c1 n m) y = p ∧ PCd n m y (Ns p) (fs p)) ∧ ah_i h 204 p = nI (offN Ns p) ∧ ah_i h 204 (p + 1) = nI (offN Ns (p + 1)) ∧ ∀ t, t < 4 * Ns p → ah_i h 205 (offN Ns p + t) = nI (fs p t) ∧ fs p t < 4 * Ns p
section MCODE
variable {h : AH} {d bc bs : Nat} {Q : Option Value → AH → Prop}
theorem m_root {s n c e i z a2 : Nat} {m : Nat → Nat} {at_ v4 v5 : Int32} {seen : Nat → Nat → Prop} (K : sp h) (iv : IV n m) (h40 : n ≤ 40) (hs : s < 368) (hn : ah_i h 170 s = nI n) (hm : ∀ e, e < 4 * n → ah_i h 176 e = nI (m e)) (hc : c < n) (o : cc n m c e) (hi : i < 2) (zl : z ≤ 160) (B : BST n m c h z seen)
    (k : ∀ h' z', fr cdR h h' → z' ≤ 160 → BST n m c h' z' (fun d' b' => seen d' b' ∨ (d' = e ∧ b' = 2 * i)) → ex_G mX12_codeInto (d + 2) 72 [.ref 168, .int (nI s), .ref a2, .int at_, .int v4, .int v5, .int (nI c), .int (nI z'), .int (nI e), .int (nI (2 * (i + 1))), .retAddr 0, .retAddr 0] [] h' bc bs Q) : ex_G mX12_codeInto (d + 2) 72 [.ref 168, .int (nI s), .ref a2, .int at_, .int v4, .int v5, .int (nI c), .int (nI z), .int (nI e), .int (nI (2 * i)), .retAddr 0, .retAddr 0] [] h bc bs Q := by
  have he := cc_lt' iv hc o
  have c4 : (4 : Int32) ≤ nI (2 * i) ↔ 4 ≤ 2 * i := nI_leI (a := 4) (by omega) (by omega)
  have e2 : nI (2 * i) + 2 = nI (2 * (i + 1)) := nI_add _ 2
  have hb : 2 * i = 0 ∨ 2 * i = 2 := by omega
  refine X12_codeInto_72 ⟨fun w => by have := c4.mp w; omega, fun _ => ⟨o168 K, m_walk K iv h40 hs hn hm he hb (fun h3 N f F3 w3 N0 Nn T3 => ⟨_, rfl, fun x6 e6 => ?_⟩)⟩⟩
  have e6' : x6 = nI (4 * N) := by rw [e6]; exact pk_mul 4 N
  rw [e6']
  clear e6 e6' x6
  have K3 := sp_fr K F3
  have G3 : fr cdR h h3 := fr_mono F3 (by decide)
  have size : ∀ d b N' f', cc n m c d → (b = 0 ∨ b = 2) → WC n m d b N' f' → N' = N := fun d b N' f' a1 a2 a3 => by
    rw [WC_size iv (cc_lt' iv hc a1) a2 a3, WC_size iv he hb w3]
    exact ct_congr (fun x _ => ⟨fun q => cc_trans ((cc_EQ iv).2.1 _ _ hc o) (cc_trans a1 q), fun q => cc_trans ((cc_EQ iv).2.1 _ _ hc a1) (cc_trans o q)⟩)
  -- the trial becomes the best
  have best : (∀ d' b' N' f', seen d' b' → cc n m c d' → (b' = 0 ∨ b' = 2) → WC n m d' b' N' f' → ¬ clt N' f' N f) → ex_G mX12_codeInto (d + 2) 119 [.ref 168, .int (nI s), .ref a2, .int at_, .int v4, .int v5, .int (nI c), .retAddr 0, .int (nI e), .int (nI (2 * i)), .int (nI (4 * N)), .int (nI 0)] [] h3 bc bs Q := fun mn => by
    refine lp (4 * N) (fun j h' => fr cdR h h' ∧ ah_i h' 202 = ah_i h3 202 ∧ ∀ t, t < j → ah_i h' 203 t = nI (f t)) (fun j h' => ex_G mX12_codeInto (d + 2) 119 [.ref 168, .int (nI s), .ref a2, .int at_, .int v4, .int v5, .int (nI c), .retAddr 0, .int (nI e), .int (nI (2 * i)), .int (nI (4 * N)), .int (nI j)] [] h' bc bs Q) ⟨G3, rfl, fun t ht => absurd ht (Nat.not_lt_zero t)⟩ ?_ ?_
    · rintro j h4 hj ⟨F4, g4, I4⟩ nx
      have K4 := sp_fr K F4
      have e1 : nI j + 1 = nI (j + 1) := nI_add _ 1
      refine X12_codeInto_119 ⟨fun w => by rw [nI_leI (by omega) (by omega)] at w; omega, fun _ => ⟨o168 K4, 203, r168_43 K4, 202, r168_42 K4, (s202 K4 _).mpr ((ix_nI (by omega)).mpr (by omega)), (t203 K4 _).mpr ((ix_nI (by omega)).mpr (by omega)), fun h7 e7 x9 e9 => ?_⟩⟩
      rw [nI_clamp (by omega), g4, (T3 j hj).1] at e7
      rw [e9, e1]
      refine nx h7 ⟨by rw [e7]; exact fr_si F4 (by decide), by rw [e7, i_si_n _ _ _ _ _ (by decide)]; exact g4, fun t ht => ?_⟩
      rw [e7, i_si_s]
      by_cases q : t = j
      · rw [q, u1_s]
      · rw [u1_n _ _ q]; exact I4 t (by omega)
    · rintro h4 ⟨F4, g4, I4⟩
      refine X12_codeInto_119 ⟨fun _ x2 ex2 => ?_, fun w => absurd ((nI_leI (by omega) (by omega)).mpr (Nat.le_refl _)) w⟩
      rw [ex2, e2]
      refine k h4 (4 * N) F4 (by omega) (Or.inr ⟨N, f, e, 2 * i, rfl, N0, Nn, Or.inr ⟨rfl, rfl⟩, o, hb, w3, fun t ht => ⟨I4 t ht, (T3 t ht).2⟩, fun d' b' N' f' a1 a2 a3 a4 => ?_⟩)
      rcases a1 with a1 | ⟨a1, a1'⟩
      · exact mn d' b' N' f' a1 a2 a3 a4
      · subst a1
        subst a1'
        exact clt_irr (WC_u iv he hb a4 w3)
  rcases B with ⟨z0, no⟩ | ⟨N1, f1, d1, b1, h0, h1_, h2, h3', h4, h5, h6, h7, h8⟩
  · subst z0
    exact ⟨fun _ => best (fun d' b' N' f' a1 => absurd a1 (no d' b')), fun w => absurd rfl w⟩
  · subst h0
    have eN := size d1 b1 N1 f1 h4 h5 h6
    subst eN
    have nz : ¬ nI (4 * N1) = (0 : Int32) := fun w => by
      have := (nI_eq (a := 4 * N1) (b := 0) (by omega) (by omega)).mp w
      omega
    have b3 : ∀ t, t < 4 * N1 → ah_i h3 203 (0 + t) = nI (f1 t) ∧ f1 t < 100000 := fun t ht => by
      rw [Nat.zero_add, fr_i F3 203 (by decide)]
      have := h7 t ht
      exact ⟨this.1, by omega⟩
    have t3 : ∀ t, t < 4 * N1 → ah_i h3 202 (0 + t) = nI (f t) ∧ f t < 100000 := fun t ht => by
      rw [Nat.zero_add]
      have := T3 t ht
      exact ⟨this.1, by omega⟩
    refine ⟨fun w => absurd w nz, fun _ => ⟨o168 K3, 202, r168_42 K3, 203, r168_43 K3, m_cmp (o1 := 0) (o2 := 0) (N := N1) (N' := N1) (f := f) (f' := f1) (sp_x K3 202 (by decide) rfl) (sp_x K3 203 (by decide) rfl) (by decide) (by decide) (by omega) (by omega) (by decide) (by decide) t3 b3 (fun lt => ⟨_, rfl, fun w => absurd w (by decide), fun _ => best (fun d' b' N' f' a1 a2 a3 a4 lt2 => h8 d' b' N' f' a1 a2 a3 a4 (clt_trans lt2 lt))⟩) (fun eq => ⟨_, rfl, fun _ x14 e14 => ?_, fun w => absurd (show (0 : Int32) ≤ 0 by decide) w⟩) (fun gt => ⟨_, rfl, fun _ x14 e14 => ?_, fun w => absurd (show (0 : Int32) ≤ 1 by decide) w⟩)⟩⟩
    all_goals
      rw [e14, e2]
      refine k h3 (4 * N1) G3 (by omega) (Or.inr ⟨N1, f1, d1, b1, rfl, h1_, h2, Or.inl h3', h4, h5, h6, fun t ht => ⟨by rw [fr_i F3 203 (by decide)]; exact (h7 t ht).1, (h7 t ht).2⟩, fun d' b' N' f' a1 a2 a3 a4 => ?_⟩)
      rcases a1 with a1 | ⟨a1, a1'⟩
      · exact h8 d' b' N' f' a1 a2 a3 a4
      · subst a1
        subst a1'
        obtain ⟨u1_, u2⟩ := WC_u iv he hb w3 a4
        subst u1_
        intro lt
        have lt' : clt N1 f N1 f1 := by
          rcases lt with q | ⟨q, t, q1, q2, q3⟩
          · exact Or.inl q
          · exact Or.inr ⟨q, t, q1, by rw [u2 t q1]; exact q2, fun j hj => by rw [u2 j (by omega)]; exact q3 j hj⟩
        first
          | exact clt_irr eq lt'
          | exact clt_irr ⟨rfl, fun _ _ => rfl⟩ (clt_trans lt' gt)
end MCODE
