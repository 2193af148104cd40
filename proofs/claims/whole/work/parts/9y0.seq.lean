/-! Pure: sorted rows of codes; when two of them are one. -/
theorem ceq_symm {N N' : Nat} {f f' : Nat → Nat} (a : ceq N f N' f') : ceq N' f' N f := ⟨a.1.symm, fun t ht => (a.2 t (by have := a.1; omega)).symm⟩
theorem ceq_trans {N1 N2 N3 : Nat} {f1 f2 f3 : Nat → Nat} (a : ceq N1 f1 N2 f2) (b : ceq N2 f2 N3 f3) : ceq N1 f1 N3 f3 := ⟨a.1.trans b.1, fun t ht => (a.2 t ht).trans (b.2 t (by have := a.1; omega))⟩
theorem clt_l {N1 N2 N3 : Nat} {f1 f2 f3 : Nat → Nat} (a : ceq N1 f1 N2 f2) (b : clt N2 f2 N3 f3) : clt N1 f1 N3 f3 := by
  obtain ⟨e, a⟩ := a
  subst e
  rcases b with z | ⟨z, k, k1, k2, k3⟩
  · exact Or.inl z
  · exact Or.inr ⟨z, k, k1, by rw [a k k1]; exact k2, fun j hj => by rw [a j (by omega)]; exact k3 j hj⟩
/-- the sorted codes of a picture's parts -/
def CD (n : Nat) (m : Nat → Nat) (P : Nat) (Nk : Nat → Nat) (fk : Nat → Nat → Nat) : Prop := (∀ i j, i < j → j < P → ¬ clt (Nk j) (fk j) (Nk i) (fk i)) ∧ (∀ N f, ct (fun j => ceq (Nk j) (fk j) N f) P = ct (fun c => c1 n m c ∧ PCd n m c N f) n) ∧ ∀ j, j < P → 0 < Nk j ∧ Nk j ≤ n ∧ ∀ t, t < 4 * Nk j → fk j t < 4 * Nk j
section SEQ
variable {n : Nat} {m m' : Nat → Nat} {P P' : Nat} {Nk Nk' : Nat → Nat} {fk fk' : Nat → Nat → Nat}
theorem sq_step (A : CD n m P Nk fk) (A' : CD n m' P' Nk' fk') (cn_ : ∀ N f, ct (fun j => ceq (Nk j) (fk j) N f) P = ct (fun j => ceq (Nk' j) (fk' j) N f) P') {j : Nat} (hj : j < P) (ih : ∀ i, i < j → i < P' ∧ ceq (Nk i) (fk i) (Nk' i) (fk' i)) : j < P' ∧ ¬ clt (Nk j) (fk j) (Nk' j) (fk' j) := by
  have tot : ct (fun i => ceq (Nk i) (fk i) (Nk j) (fk j)) j + 1 ≤ ct (fun i => ceq (Nk i) (fk i) (Nk j) (fk j)) P := by
    have := ct_lt (p := fun i => ceq (Nk i) (fk i) (Nk j) (fk j)) hj ⟨rfl, fun _ _ => rfl⟩
    omega
  have low : ct (fun i => ceq (Nk i) (fk i) (Nk j) (fk j)) j = ct (fun i => ceq (Nk' i) (fk' i) (Nk j) (fk j)) j := ct_congr (fun i hi => ⟨fun q => ceq_trans (ceq_symm (ih i hi).2) q, fun q => ceq_trans (ih i hi).2 q⟩)
  rw [cn_, low] at tot
  have jl : j ≤ P' := by
    by_cases z : j ≤ P'
    · exact z
    · have := (ih P' (by omega)).1
      omega
  have jP : j < P' := by
    by_cases z : j < P'
    · exact z
    · rw [show j = P' by omega] at tot
      omega
  refine ⟨jP, fun lt => ?_⟩
  have up : ct (fun i => ceq (Nk' i) (fk' i) (Nk j) (fk j)) P' = ct (fun i => ceq (Nk' i) (fk' i) (Nk j) (fk j)) j := by
    obtain ⟨t, e⟩ : ∃ t, P' = j + t := ⟨P' - j, by omega⟩
    rw [e, ct_app, ct_none (n := t) (fun i hi q => ?_)]
    · rfl
    · by_cases z : i = 0
      · rw [z] at q
        exact clt_irr (ceq_symm q) lt
      · exact A'.1 j (j + i) (by omega) (by omega) (clt_l q lt)
  omega
theorem sq_all (A : CD n m P Nk fk) (A' : CD n m' P' Nk' fk') (cn_ : ∀ N f, ct (fun j => ceq (Nk j) (fk j) N f) P = ct (fun j => ceq (Nk' j) (fk' j) N f) P') : ∀ j, j ≤ P → ∀ i, i < j → i < P' ∧ ceq (Nk i) (fk i) (Nk' i) (fk' i) := by
  intro j
  induction j with
  | zero => intro _ i hi; exact absurd hi (Nat.not_lt_zero i)
  | succ j ih =>
    intro hj i hi
    have ih := ih (by omega)
    by_cases z : i = j
    · subst z
      obtain ⟨h1, h2⟩ := sq_step A A' cn_ (by omega) ih
      obtain ⟨h3, h4⟩ := sq_step A' A (fun N f => (cn_ N f).symm) h1 (fun i' hi' => ⟨by omega, ceq_symm (ih i' hi').2⟩)
      exact ⟨h1, clt_tot h2 h4⟩
    · exact ih i (by omega)
theorem sq_iff (iv : IV n m) (iv' : IV n m') (A : CD n m P Nk fk) (A' : CD n m' P' Nk' fk') : ISO n m m' ↔ P = P' ∧ ∀ j, j < P → ceq (Nk j) (fk j) (Nk' j) (fk' j) := by
  constructor
  · intro x
    have cn_ : ∀ N f, ct (fun j => ceq (Nk j) (fk j) N f) P = ct (fun j => ceq (Nk' j) (fk' j) N f) P' := fun N f => by rw [A.2.1, A'.2.1]; exact iso_cnt iv iv' x N f
    have a1 := sq_all A A' cn_ P (Nat.le_refl _)
    have a2 := sq_all A' A (fun N f => (cn_ N f).symm) P' (Nat.le_refl _)
    refine ⟨?_, fun j hj => (a1 j hj).2⟩
    rcases Nat.lt_trichotomy P P' with z | z | z
    · have := (a2 P z).1; omega
    · exact z
    · have := (a1 P' z).1; omega
  · rintro ⟨e, h⟩
    subst e
    refine cnt_iso iv iv' (fun N f => ?_)
    rw [← A.2.1, ← A'.2.1]
    exact ct_congr (fun j hj => ⟨fun q => ceq_trans (ceq_symm (h j hj)) q, fun q => ceq_trans (h j hj) q⟩)
end SEQ
/-- where code j begins -/
def qp (Nk : Nat → Nat) : Nat → Nat
  | 0 => 2
  | j + 1 => qp Nk j + 1 + 4 * Nk j
theorem qp_s (Nk : Nat → Nat) (j : Nat) : qp Nk (j + 1) = qp Nk j + 1 + 4 * Nk j := rfl
theorem qp_2 (Nk : Nat → Nat) (j : Nat) : 2 ≤ qp Nk j := by
  induction j with
  | zero => exact Nat.le_refl _
  | succ j ih => rw [qp_s]; omega
theorem qp_mono {Nk : Nat → Nat} {i j : Nat} (h : i ≤ j) : qp Nk i ≤ qp Nk j := by
  obtain ⟨t, e⟩ : ∃ t, j = i + t := ⟨j - i, by omega⟩
  subst e
  clear h
  induction t with
  | zero => exact Nat.le_refl _
  | succ t ih => rw [← Nat.add_assoc, qp_s]; omega
theorem qp_congr {Nk Nk' : Nat → Nat} : ∀ j, (∀ i, i < j → Nk i = Nk' i) → qp Nk j = qp Nk' j := by
  intro j
  induction j with
  | zero => intro _; rfl
  | succ j ih => intro h; rw [qp_s, qp_s, ih (fun i hi => h i (by omega)), h j (by omega)]
theorem qp_at (Nk : Nat → Nat) : ∀ P k, 2 ≤ k → k < qp Nk P → ∃ j, j < P ∧ qp Nk j ≤ k ∧ k < qp Nk (j + 1) := by
  intro P
  induction P with
  | zero => intro k h1 h2; have h2 : k < 2 := h2; omega
  | succ P ih =>
    intro k h1 h2
    by_cases z : k < qp Nk P
    · obtain ⟨j, a, b⟩ := ih k h1 z
      exact ⟨j, by omega, b⟩
    · exact ⟨P, Nat.lt_succ_self _, by omega, h2⟩
/-- a row of codes as it is written down -/
def OUT (T : Nat → Int32) (o l n P : Nat) (Nk : Nat → Nat) (fk : Nat → Nat → Nat) : Prop := T o = nI l ∧ T (o + 1) = nI n ∧ (∀ j, j < P → T (o + qp Nk j) = -nI (4 * Nk j) ∧ ∀ t, t < 4 * Nk j → T (o + qp Nk j + 1 + t) = nI (fk j t)) ∧ T (o + qp Nk P) = -nI 999
theorem ng_eq {a b : Nat} (ha : a < 2 ^ 31) (hb : b < 2 ^ 31) : -nI a = -nI b ↔ a = b := by
  rw [← Int32.toInt_inj, ng_i ha, ng_i hb]
  omega
theorem ng_ne {a b : Nat} (ha : a < 2 ^ 31) (hb : b < 2 ^ 31) (h0 : 0 < a) : -nI a ≠ nI b := fun q => by
  have := congrArg Int32.toInt q
  rw [ng_i ha, nI_toInt hb] at this
  omega
section OUTS
variable {T T' : Nat → Int32} {o o' l l' n n' P P' : Nat} {Nk Nk' : Nat → Nat} {fk fk' : Nat → Nat → Nat}
def OB (l n P : Nat) (Nk : Nat → Nat) (fk : Nat → Nat → Nat) : Prop := l ≤ 9 ∧ n ≤ 40 ∧ ∀ j, j < P → 0 < Nk j ∧ Nk j ≤ 40 ∧ ∀ t, t < 4 * Nk j → fk j t < 160
theorem OUT_9 (X : OUT T o l n P Nk fk) (b : OB l n P Nk fk) {k : Nat} (hk : k < qp Nk P) : T (o + k) ≠ -nI 999 := by
  obtain ⟨x1, x2, x3, x4⟩ := X
  obtain ⟨b1, b2, b3⟩ := b
  by_cases z0 : k = 0
  · rw [z0, Nat.add_zero, x1]; exact (ng_ne (by decide) (by omega) (by decide)).symm
  by_cases z1 : k = 1
  · rw [z1, x2]; exact (ng_ne (by decide) (by omega) (by decide)).symm
  obtain ⟨j, j1, j2, j3⟩ := qp_at Nk P k (by omega) hk
  obtain ⟨y1, y2⟩ := x3 j j1
  obtain ⟨c1_, c2, c3⟩ := b3 j j1
  by_cases z2 : k = qp Nk j
  · rw [z2, y1]; exact fun q => by have := (ng_eq (by omega) (by decide)).mp q; omega
  · rw [qp_s] at j3
    have := y2 (k - qp Nk j - 1) (by omega)
    rw [show o + qp Nk j + 1 + (k - qp Nk j - 1) = o + k by omega] at this
    rw [this]
    have := c3 (k - qp Nk j - 1) (by omega)
    exact (ng_ne (by decide) (by omega) (by decide)).symm
/-- rows alike: what is written down is the same, up to the end -/
theorem OUT_iff (X : OUT T o l n P Nk fk) (X' : OUT T' o' l' n' P' Nk' fk') (b : OB l n P Nk fk) (b' : OB l' n' P' Nk' fk') : (∀ k, k ≤ qp Nk P → T (o + k) = T' (o' + k)) ↔ (l = l' ∧ n = n' ∧ P = P' ∧ ∀ j, j < P → ceq (Nk j) (fk j) (Nk' j) (fk' j)) := by
  have Y := X
  have Y' := X'
  obtain ⟨x1, x2, x3, x4⟩ := X
  obtain ⟨y1, y2, y3, y4⟩ := X'
  have b0 := b
  have b0' := b'
  obtain ⟨b1, b2, b3⟩ := b
  obtain ⟨c1_, c2, c3⟩ := b'
  constructor
  · intro al
    have q2 := qp_2 Nk P
    have e1 := al 0 (by omega)
    have e2 := al 1 (by omega)
    rw [Nat.add_zero, Nat.add_zero, x1, y1, nI_eq (by omega) (by omega)] at e1
    rw [x2, y2, nI_eq (by omega) (by omega)] at e2
    have key : ∀ j, j ≤ P → j ≤ P' ∧ ∀ i, i < j → ceq (Nk i) (fk i) (Nk' i) (fk' i) := by
      intro j
      induction j with
      | zero => intro _; exact ⟨Nat.zero_le _, fun i hi => absurd hi (Nat.not_lt_zero i)⟩
      | succ j ih =>
        intro hj
        obtain ⟨h1, h2⟩ := ih (by omega)
        have qe : qp Nk j = qp Nk' j := qp_congr j (fun i hi => (h2 i hi).1)
        have ql := qp_mono (Nk := Nk) (show j + 1 ≤ P by omega)
        rw [qp_s] at ql
        obtain ⟨p1, p2⟩ := x3 j (by omega)
        obtain ⟨d1, d2, d3⟩ := b3 j (by omega)
        have jP : j < P' := by
          by_cases z : j < P'
          · exact z
          · have ej : j = P' := by omega
            have y4' : T' (o' + qp Nk' j) = -nI 999 := by rw [ej]; exact y4
            have := al (qp Nk j) (by omega)
            rw [p1, qe, y4', ng_eq (by omega) (by decide)] at this
            omega
        obtain ⟨r1, r2⟩ := y3 j jP
        obtain ⟨f1, f2, f3⟩ := c3 j jP
        have nn := al (qp Nk j) (by omega)
        rw [p1, qe, r1, ng_eq (by omega) (by omega)] at nn
        refine ⟨jP, fun i hi => ?_⟩
        by_cases z : i = j
        · subst z
          refine ⟨by omega, fun t ht => ?_⟩
          have := al (qp Nk i + 1 + t) (by omega)
          rw [← Nat.add_assoc, ← Nat.add_assoc, p2 t ht, qe, ← Nat.add_assoc, ← Nat.add_assoc, r2 t (by omega), nI_eq (by have := d3 t ht; omega) (by have := f3 t (by omega); omega)] at this
          exact this
        · exact h2 i (by omega)
    obtain ⟨k1, k2⟩ := key P (Nat.le_refl _)
    have qe : qp Nk P = qp Nk' P := qp_congr P (fun i hi => (k2 i hi).1)
    refine ⟨e1, e2, ?_, k2⟩
    by_cases z : P = P'
    · exact z
    · have := al (qp Nk P) (Nat.le_refl _)
      rw [x4, qe] at this
      have ml := qp_mono (Nk := Nk') (show P + 1 ≤ P' by omega)
      rw [qp_s] at ml
      exact absurd this.symm (OUT_9 Y' b0' (by omega))
  · rintro ⟨e1, e2, e3, e4⟩
    subst e1
    subst e2
    subst e3
    intro k hk
    by_cases zk : k = qp Nk P
    · rw [zk, x4]
      have qe : qp Nk P = qp Nk' P := qp_congr P (fun i hi => (e4 i hi).1)
      rw [qe, y4]
    by_cases z0 : k = 0
    · rw [z0, Nat.add_zero, Nat.add_zero, x1, y1]
    by_cases z1 : k = 1
    · rw [z1, x2, y2]
    obtain ⟨j, j1, j2, j3⟩ := qp_at Nk P k (by omega) (by omega)
    have qe : qp Nk j = qp Nk' j := qp_congr j (fun i hi => (e4 i (by omega)).1)
    obtain ⟨p1, p2⟩ := x3 j j1
    obtain ⟨r1, r2⟩ := y3 j j1
    obtain ⟨g1, g2⟩ := e4 j j1
    by_cases z2 : k = qp Nk j
    · rw [z2, p1, qe, r1, g1]
    · rw [qp_s] at j3
      have a := p2 (k - qp Nk j - 1) (by omega)
      have b := r2 (k - qp Nk j - 1) (by omega)
      rw [show o + qp Nk j + 1 + (k - qp Nk j - 1) = o + k by omega] at a
      rw [show o' + qp Nk' j + 1 + (k - qp Nk j - 1) = o' + k by omega] at b
      rw [a, b, g2 _ (by omega)]
end OUTS
section ALIKE
variable {h : AH} {d bc bs : Nat} {Q : Option Value → AH → Prop}
theorem m_alike {a1 a2 o1 o2 L1 L2 l l' n n' P P' : Nat} {Nk Nk' : Nat → Nat} {fk fk' : Nat → Nat → Nat} (x1 : ah_x h a1 0 L1) (x2 : ah_x h a2 0 L2) (c1_ : a1 < 10000000) (c2 : a2 < 10000000) (X : OUT (ah_i h a1) o1 l n P Nk fk) (X' : OUT (ah_i h a2) o2 l' n' P' Nk' fk') (b : OB l n P Nk fk) (b' : OB l' n' P' Nk' fk') (l1 : o1 + qp Nk P < L1) (l2 : o2 + qp Nk' P' < L2) (m1_ : L1 < 100000) (m2 : L2 < 100000)
    (k1 : (l = l' ∧ n = n' ∧ P = P' ∧ ∀ j, j < P → ceq (Nk j) (fk j) (Nk' j) (fk' j)) → Q (some (.int 1)) h) (k0 : ¬ (l = l' ∧ n = n' ∧ P = P' ∧ ∀ j, j < P → ceq (Nk j) (fk j) (Nk' j) (fk' j)) → Q (some (.int 0)) h) : ex_S yX12_areAlike mX12_areAlike d [.ref a1, .int (nI o1), .ref a2, .int (nI o2)] h bc bs Q := by
  have I := OUT_iff X X' b b'
  refine X12_areAlike_e (X12_areAlike_0 ?_)
  have e9 : (-999 : Int32) = -nI 999 := rfl
  have le' : ∀ k, (∀ i, i < k → ah_i h a1 (o1 + i) = ah_i h a2 (o2 + i)) → k ≤ qp Nk P → k ≤ qp Nk' P' := fun k al hk => by
    by_cases z : k ≤ qp Nk' P'
    · exact z
    · have := al (qp Nk' P') (by omega)
      rw [X'.2.2.2] at this
      exact absurd this (OUT_9 X b (by omega))
  have at36 : ∀ k, k ≤ qp Nk P → (∀ i, i < k → ah_i h a1 (o1 + i) = ah_i h a2 (o2 + i)) → (ah_i h a1 (o1 + k) = ah_i h a2 (o2 + k) → k = qp Nk P) → ex_G mX12_areAlike d 36 [.ref a1, .int (nI o1), .ref a2, .int (nI o2), .int (nI k)] [] h bc bs Q := fun k hk al fin => by
    have kl := le' k al hk
    refine X12_areAlike_36 ?_
    rw [nI_add, nI_add, nI_clamp (show o1 + k < 2 ^ 31 by omega), nI_clamp (show o2 + k < 2 ^ 31 by omega)]
    refine ⟨(ld0_x x1 _ c1_).mpr ((ix_nI (by omega)).mpr (by omega)), (ld0_x x2 _ c2).mpr ((ix_nI (by omega)).mpr (by omega)), fun ne => k0 (fun q => ne (I.mpr q k hk)), fun eq => k1 (I.mp (fun i hi => ?_))⟩
    have := fin eq
    by_cases z : i = k
    · rw [z]; exact eq
    · exact al i (by omega)
  refine lp (qp Nk P) (fun k h' => h' = h ∧ ∀ i, i < k → ah_i h a1 (o1 + i) = ah_i h a2 (o2 + i)) (fun k h' => ex_G mX12_areAlike d 3 [.ref a1, .int (nI o1), .ref a2, .int (nI o2), .int (nI k)] [] h' bc bs Q) ⟨rfl, fun i hi => absurd hi (Nat.not_lt_zero i)⟩ ?_ ?_
  · rintro k h1 hk ⟨e, al⟩ nx
    subst e
    have kl := le' k al (by omega)
    have e1 : nI k + 1 = nI (k + 1) := nI_add _ 1
    have n9 := OUT_9 X b hk
    refine X12_areAlike_3 ?_
    rw [nI_add, nI_add, nI_clamp (show o1 + k < 2 ^ 31 by omega), nI_clamp (show o2 + k < 2 ^ 31 by omega), e1]
    refine ⟨(ld0_x x1 _ c1_).mpr ((ix_nI (by omega)).mpr (by omega)), (ld0_x x2 _ c2).mpr ((ix_nI (by omega)).mpr (by omega)), fun ne => at36 k (by omega) al (fun q => absurd q ne), fun eq => ⟨fun q => absurd q n9, fun _ x5 e5 => ?_⟩⟩
    rw [e5]
    refine nx h1 ⟨rfl, fun i hi => ?_⟩
    by_cases z : i = k
    · rw [z]; exact eq
    · exact al i (by omega)
  · rintro h1 ⟨e, al⟩
    subst e
    have kl := le' (qp Nk P) al (Nat.le_refl _)
    refine X12_areAlike_3 ?_
    rw [nI_add, nI_add, nI_clamp (show o1 + qp Nk P < 2 ^ 31 by omega), nI_clamp (show o2 + qp Nk P < 2 ^ 31 by omega)]
    refine ⟨(ld0_x x1 _ c1_).mpr ((ix_nI (by omega)).mpr (by omega)), (ld0_x x2 _ c2).mpr ((ix_nI (by omega)).mpr (by omega)), fun ne => at36 _ (Nat.le_refl _) al (fun _ => rfl), fun eq => ⟨fun _ => at36 _ (Nat.le_refl _) al (fun _ => rfl), fun q => absurd X.2.2.2 q⟩⟩
end ALIKE
