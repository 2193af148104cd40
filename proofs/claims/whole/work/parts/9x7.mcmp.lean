/-! The reference compares two codes; the size of a part. -/
theorem WC_size {n : Nat} {m : Nat → Nat} {c b N : Nat} {f : Nat → Nat} (iv : IV n m) (hc : c < n) (hb : b = 0 ∨ b = 2) (w : WC n m c b N f) : N = ct (cc n m c) n := by
  have W := WI_bw iv hc hb (4 * n)
  have e := w.1
  have le := WI_le W
  generalize (bw m c b (4 * n)).1 = N1 at *
  generalize (bw m c b (4 * n)).2.1 = line at *
  generalize (bw m c b (4 * n)).2.2 = rot at *
  subst e
  have all : ∀ x, cc n m c x → ∃ j, j < N ∧ line j = x := fun x o => o (fun x => ∃ j, j < N ∧ line j = x) ⟨0, W.1, W.2.1⟩ (fun e he ⟨j, hj, q⟩ => by
    have b1 := (W.2.2.1 j hj).2.1
    obtain ⟨j', h1, h2⟩ := W.2.2.2.2 (4 * j + (e + 4 - rot (line j)) % 4) (by omega) (by omega)
    refine ⟨j', h1, ?_⟩
    rw [h2]
    unfold wp
    rw [show (4 * j + (e + 4 - rot (line j)) % 4) / 4 = j by omega, show (4 * j + (e + 4 - rot (line j)) % 4) % 4 = (e + 4 - rot (line j)) % 4 by omega]
    congr 2
    unfold cn
    omega)
  refine Nat.le_antisymm ?_ ?_
  · have h1 : ct (fun j => j < N) N = N := ct_all (fun i hi => hi)
    rw [← h1]
    exact ct_inj_le2 line (fun j hj _ => ⟨(W.2.2.1 j hj).1, (W.2.2.1 j hj).2.2⟩) (fun i j hi hj _ _ q => by
      rcases Nat.lt_trichotomy i j with z | z | z
      · exact absurd q (W.2.2.2.1 i j z hj)
      · exact z
      · exact absurd q.symm (W.2.2.2.1 j i z hi))
  · obtain ⟨g, hg⟩ := chs (n := n) (R := fun x j => cc n m c x → j < N ∧ line j = x) (fun x _ => by
      by_cases z : cc n m c x
      · obtain ⟨j, a, b⟩ := all x z
        exact ⟨j, fun _ => ⟨a, b⟩⟩
      · exact ⟨0, fun q => absurd q z⟩)
    have h1 : ct (fun j => j < N) N = N := ct_all (fun i hi => hi)
    rw [← h1]
    exact ct_inj_le2 g (fun x hx o => ⟨(hg x hx o).1, (hg x hx o).1⟩) (fun x y hx hy ox oy q => by rw [← (hg x hx ox).2, ← (hg y hy oy).2, q])
section MCMP
variable {h : AH} {d bc bs : Nat} {Q : Option Value → AH → Prop}
theorem m_cmp {a1 a2 o1 o2 L1 L2 N N' : Nat} {f f' : Nat → Nat} (x1 : ah_x h a1 0 L1) (x2 : ah_x h a2 0 L2) (b1 : a1 < 10000000) (b2 : a2 < 10000000) (l1 : o1 + 4 * N ≤ L1) (l2 : o2 + 4 * N' ≤ L2) (c1_ : L1 < 100000) (c2_ : L2 < 100000) (v1 : ∀ t, t < 4 * N → ah_i h a1 (o1 + t) = nI (f t) ∧ f t < 100000) (v2 : ∀ t, t < 4 * N' → ah_i h a2 (o2 + t) = nI (f' t) ∧ f' t < 100000)
    (klt : clt N f N' f' → Q (some (.int (-1))) h) (keq : ceq N f N' f' → Q (some (.int 0)) h) (kgt : clt N' f' N f → Q (some (.int 1)) h) : ex_S yX12_compare mX12_compare d [.ref a1, .int (nI o1), .int (nI (4 * N)), .ref a2, .int (nI o2), .int (nI (4 * N'))] h bc bs Q := by
  refine X12_compare_e (X12_compare_0 ?_)
  rw [nI_eq (by omega) (by omega), nI_leI (by omega) (by omega)]
  refine ⟨fun e => ?_, fun ne => ⟨fun le => kgt (Or.inl (by omega)), fun nl => klt (Or.inl (by omega))⟩⟩
  have e : N = N' := by omega
  subst e
  refine lp (4 * N) (fun j h' => h' = h ∧ ∀ i, i < j → f i = f' i) (fun j h' => ex_G mX12_compare d 21 [.ref a1, .int (nI o1), .int (nI (4 * N)), .ref a2, .int (nI o2), .retAddr 0, .int (nI j)] [] h' bc bs Q) ⟨rfl, fun i hi => absurd hi (Nat.not_lt_zero i)⟩ ?_ ?_
  · rintro j h1 hj ⟨e, I⟩ nx
    subst e
    obtain ⟨p1, p2⟩ := v1 j hj
    obtain ⟨q1, q2⟩ := v2 j hj
    have e1 : nI j + 1 = nI (j + 1) := nI_add _ 1
    refine X12_compare_21 ⟨fun w => by rw [nI_leI (by omega) (by omega)] at w; omega, fun _ => ?_⟩
    rw [nI_add, nI_add, nI_clamp (show o1 + j < 2 ^ 31 by omega), nI_clamp (show o2 + j < 2 ^ 31 by omega), p1, q1, nI_eq (by omega) (by omega), nI_leI (by omega) (by omega), e1]
    refine ⟨(ld0_x x1 _ b1).mpr ((ix_nI (by omega)).mpr (by omega)), (ld0_x x2 _ b2).mpr ((ix_nI (by omega)).mpr (by omega)), fun eq x5 e5 => ?_, fun ne => ⟨fun le => kgt (Or.inr ⟨rfl, j, hj, by omega, fun i hi => (I i hi).symm⟩), fun nl => klt (Or.inr ⟨rfl, j, hj, by omega, I⟩)⟩⟩
    rw [e5]
    refine nx h1 ⟨rfl, fun i hi => ?_⟩
    by_cases z : i = j
    · rw [z]; exact eq
    · exact I i (by omega)
  · rintro h1 ⟨e, I⟩
    subst e
    exact X12_compare_21 ⟨fun _ => keq ⟨rfl, I⟩, fun w => absurd ((nI_leI (by omega) (by omega)).mpr (Nat.le_refl _)) w⟩
/-- the best code so far of the part of c: roots before (d, i) have been looked at -/
def BST (n : Nat) (m : Nat → Nat) (c : Nat) (h : AH) (z : Nat) (seen : Nat → Nat → Prop) : Prop := (z = 0 ∧ ∀ d b, ¬ seen d b) ∨ ∃ N f d b, z = 4 * N ∧ 0 < N ∧ N ≤ n ∧ seen d b ∧ cc n m c d ∧ (b = 0 ∨ b = 2) ∧ WC n m d b N f ∧ (∀ t, t < 4 * N → ah_i h 203 t = nI (f t) ∧ f t < 4 * N) ∧ ∀ d' b' N' f', seen d' b' → cc n m c d' → (b' = 0 ∨ b' = 2) → WC n m d' b' N' f' → ¬ clt N' f' N f
theorem BST_congr {n c z : Nat} {m : Nat → Nat} {s1 s2 : Nat → Nat → Prop} {h' : AH} (B : BST n m c h z s1) (e : ∀ d b, cc n m c d → (b = 0 ∨ b = 2) → (s1 d b ↔ s2 d b)) (g : ah_i h' 203 = ah_i h 203) (no : (∀ d b, ¬ s1 d b) → ∀ d b, ¬ s2 d b) : BST n m c h' z s2 := by
  rcases B with ⟨a, b⟩ | ⟨N, f, d, b, h0, h1, h2, h3, h4, h5, h6, h7, h8⟩
  · exact Or.inl ⟨a, no b⟩
  · exact Or.inr ⟨N, f, d, b, h0, h1, h2, (e d b h4 h5).mp h3, h4, h5, h6, by rw [g]; exact h7, fun d' b' N' f' a1 a2 a3 a4 => h8 d' b' N' f' ((e d' b' a2 a3).mpr a1) a2 a3 a4⟩
end MCMP
