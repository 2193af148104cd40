/-! Colours: the rows, the class. -/
theorem ct_inj_le {p q : Nat → Prop} {N : Nat} (f : Nat → Nat) (hf : ∀ i, i < N → p i → f i < N ∧ q (f i)) (hi : ∀ i j, i < N → j < N → p i → p j → f i = f j → i = j) : ct p N ≤ ct q N := by
  obtain ⟨E, hE⟩ := chs (n := ct p N) (R := fun j y => y < N ∧ p y ∧ ct p y = j) (fun j hj => ct_ex N j hj)
  refine php' (f := fun j => ct q (f (E j))) (fun j hj => ?_) (fun i j hij hj e => ?_)
  · obtain ⟨a, b, -⟩ := hE j hj
    exact ct_lt (hf _ a b).1 (hf _ a b).2
  · obtain ⟨a, b, c⟩ := hE i (by omega)
    obtain ⟨a', b', c'⟩ := hE j hj
    have e1 := ct_inj (hf _ a b).2 (hf _ a' b').2 e
    have e2 := hi _ _ a a' b b' e1
    rw [e2] at c
    omega
section SO
variable {n : Nat} {A m : Nat → Nat}
theorem nS_le (P : Pr n A m) : ct (lm (sg n m)) (4 * n) ≤ 2 * n := by
  have a : ct (lm (sg n m)) (4 * n) ≤ ct (fun e => ¬ lm (sg n m) e) (4 * n) := ct_inj_le m (fun y hy ly => ⟨P.lt hy, fun l2 => by
    have h1 := ly _ (sg_m hy)
    have h2 := l2 y (by have := sg_m (n := n) (m := m) (P.lt hy); rw [P.mm hy] at this; exact this)
    exact P.ne hy (by omega)⟩) (fun i j hi hj _ _ e => P.inj hi hj e)
  have b := ct_orE (p := lm (sg n m)) (q := fun e => ¬ lm (sg n m) e) (N := 4 * n) (fun i _ x y => y x)
  rw [ct_all (fun i _ => Classical.em _)] at b
  omega
/-- the number of an end's strand -/
theorem so_ex (P : Pr n A m) : ∃ so : Nat → Nat, ∀ x, x < 4 * n → so x < ct (lm (sg n m)) (4 * n) ∧ (∀ y, y < 4 * n → lm (sg n m) y → sg n m y x → so x = ct (lm (sg n m)) y) ∧ ∀ x', x' < 4 * n → (so x = so x' ↔ sg n m x x') := by
  have Q := sg_EQ P
  obtain ⟨R, hR⟩ := chs (n := 4 * n) (R := fun x y => lm (sg n m) y ∧ sg n m y x ∧ y ≤ x) (fun x hx => lm_ex Q hx)
  have uni : ∀ y y', y < 4 * n → y' < 4 * n → lm (sg n m) y → lm (sg n m) y' → sg n m y y' → y = y' := fun y y' h h' l l' o => Nat.le_antisymm (l y' o) (l' y (Q.2.1 _ _ h o))
  refine ⟨fun x => ct (lm (sg n m)) (R x), fun x hx => ?_⟩
  obtain ⟨a, b, c⟩ := hR x hx
  refine ⟨ct_lt (by omega) a, fun y hy ly o => ?_, fun x' hx' => ?_⟩
  · have := uni (R x) y (by omega) hy a ly (sg_trans b (Q.2.1 _ _ hy o))
    show ct (lm (sg n m)) (R x) = _
    rw [this]
  · obtain ⟨a', b', c'⟩ := hR x' hx'
    constructor
    · intro e
      have e1 := ct_inj a a' e
      rw [← e1] at b'
      exact sg_trans (Q.2.1 _ _ (by omega) b) b'
    · intro o
      have := uni (R x) (R x') (by omega) (by omega) a a' (sg_trans b (sg_trans o (Q.2.1 _ _ (by omega) b')))
      show ct (lm (sg n m)) (R x) = ct (lm (sg n m)) (R x')
      rw [this]
end SO
/-- the row of crossing c -/
def cm (so : Nat → Nat) (c x : Nat) : Int := (if x = so (4 * c) then 1 else 0) + (if x = so (4 * c + 2) then 1 else 0) - 2 * (if x = so (4 * c + 1) then 1 else 0)
theorem fmV {w md : Nat} (hw : w ≤ 2) (hm : md = 3 ∨ md = 5 ∨ md = 7 ∨ md = 11) (h : AH) : J9_floorMod_7cf53_V (nI w - 2) (nI md) h = nI ((w + md - 2) % md) := by
  unfold J9_floorMod_7cf53_V
  have z : w = 0 ∨ w = 1 ∨ w = 2 := by omega
  rcases hm with rfl | rfl | rfl | rfl <;> rcases z with rfl | rfl | rfl <;> decide
