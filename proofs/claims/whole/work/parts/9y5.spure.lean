/-! The search, pure: states, turns, runs. A state: crossings, loose circles, arcs, from which state, by which way. -/
abbrev SD := Nat → Nat × Nat × (Nat → Nat) × Nat × Nat
def AK (n l : Nat) (A : Nat → Nat) (n' l' : Nat) (A' : Nat → Nat) : Prop := l = l' ∧ n = n' ∧ ISO n (mt n A) (mt n' A')
def GDp (n l : Nat) (A : Nat → Nat) : Prop := n ≤ 12 ∧ l ≤ 9 ∧ Pr n A (mt n A)
theorem Pr_mt {n : Nat} {A : Nat → Nat} (x : ∃ m, Pr n A m) : Pr n A (mt n A) := Classical.epsilon_spec x
theorem if98 {l' : Nat} (h : (0 : Nat) = if l' ≤ 9 then 0 else 8) : l' ≤ 9 := by
  by_cases q : l' ≤ 9
  · exact q
  · rw [if_neg q] at h
    omega
theorem stp_le {w : Int32} {n l n' l' : Nat} {A m A' : Nat → Nat} (h9 : l ≤ 9) (M : stp w n l A m 0 n' l' A') : n' ≤ n ∧ l' ≤ 9 := by
  rcases M with ⟨-, M⟩ | ⟨-, -, M⟩ | ⟨-, -, M⟩
  · rcases M with ⟨-, e⟩ | ⟨e, -, -, -, ef, e1, -⟩
    · omega
    · exact ⟨by omega, if98 ef⟩
  · rcases M with ⟨-, e⟩ | ⟨e, -, -, -, A1, l1, -, -, ef, e1, -⟩
    · omega
    · exact ⟨by omega, if98 ef⟩
  · rcases M with ⟨-, e⟩ | ⟨x, y, z, -, ef, e1, e2, -⟩
    · omega
    · exact ⟨by omega, by omega⟩
theorem stp_GD {w : Int32} {n l n' l' : Nat} {A A' : Nat → Nat} (G : GDp n l A) (M : stp w n l A (mt n A) 0 n' l' A') : GDp n' l' A' := by
  obtain ⟨a, b⟩ := stp_le G.2.1 M
  refine ⟨Nat.le_trans a G.1, b, Pr_mt ?_⟩
  rcases M with ⟨-, M⟩ | ⟨-, -, M⟩ | ⟨-, -, M⟩
  · exact mvU_Pd G.2.2 M
  · exact mvP_Pd G.2.2 M
  · exact mvS_Pd G.2.2 M
/-- the states kept are good, and where the search stands -/
def PV (c : Nat) (D : SD) (cu s : Nat) : Prop := 0 < c ∧ c ≤ 100 ∧ cu < c ∧ s ≤ 12 * (D cu).1 ∧ (∀ k, k < c → GDp (D k).1 (D k).2.1 (D k).2.2.1) ∧ ∀ k, 0 < k → k < c → (D k).2.2.2.1 < k ∧ (D k).2.2.2.2 < 144
def KN (c : Nat) (D : SD) (n' l' : Nat) (A' : Nat → Nat) : Prop := ∃ k, k < c ∧ AK (D k).1 (D k).2.1 (D k).2.2.1 n' l' A'
/-- what becomes of a new picture -/
def KP (G : Nat → Nat → (Nat → Nat) → Prop) (c : Nat) (D : SD) (cu s n' l' : Nat) (A' : Nat → Nat) (c' : Nat) (D' : SD) (f' : Nat) : Prop :=
  ((c = 100 ∨ KN c D n' l' A') ∧ c' = c ∧ D' = D ∧ f' = 0) ∨ (c < 100 ∧ ¬ KN c D n' l' A' ∧ c' = c + 1 ∧ D' = u1 D c (n', l', A', cu, s) ∧ ((f' = 1 ∧ G n' l' A') ∨ (f' = 0 ∧ ¬ G n' l' A')))
/-- a turn -/
def TN (G : Nat → Nat → (Nat → Nat) → Prop) (c : Nat) (D : SD) (cu s g c' : Nat) (D' : SD) (cu' s' g' e' f' : Nat) : Prop :=
  (s = 12 * (D cu).1 ∧ cu + 1 < c ∧ c' = c ∧ D' = D ∧ cu' = cu + 1 ∧ s' = 0 ∧ g' = g ∧ e' = 0 ∧ f' = 0) ∨
  (s = 12 * (D cu).1 ∧ ¬ cu + 1 < c ∧ c' = c ∧ D' = D ∧ cu' = cu ∧ s' = s ∧ g' = g ∧ e' = 1 ∧ f' = 0) ∨
  (s < 12 * (D cu).1 ∧ cu' = cu ∧ s' = s + 1 ∧ e' = 0 ∧ ∃ f n' l' A', stp (nI s) (D cu).1 (D cu).2.1 (D cu).2.2.1 (mt (D cu).1 (D cu).2.2.1) f n' l' A' ∧ ((f ≠ 0 ∧ c' = c ∧ D' = D ∧ g' = g ∧ f' = 0) ∨ (f = 0 ∧ g' = g + 1 ∧ KP G c D cu s n' l' A' c' D' f')))
def RUr (G : Nat → Nat → (Nat → Nat) → Prop) (lim c' : Nat) (D' : SD) (cu' s' g' e' f' : Nat) : Nat → Nat → SD → Nat → Nat → Nat → Nat → Nat → Prop
  | 0, c, D, cu, s, g, e, f => (c' = c ∧ D' = D ∧ cu' = cu ∧ s' = s ∧ g' = g ∧ e' = e ∧ f' = f) ∧ (e = 1 ∨ f = 1 ∨ lim ≤ g)
  | j + 1, c, D, cu, s, g, e, f => e = 0 ∧ f = 0 ∧ g < lim ∧ ∃ c1 D1 cu1 s1 g1 e1 f1, TN G c D cu s g c1 D1 cu1 s1 g1 e1 f1 ∧ RUr G lim c' D' cu' s' g' e' f' j c1 D1 cu1 s1 g1 e1 f1
def RU (G : Nat → Nat → (Nat → Nat) → Prop) (lim j c : Nat) (D : SD) (cu s g e f c' : Nat) (D' : SD) (cu' s' g' e' f' : Nat) : Prop := RUr G lim c' D' cu' s' g' e' f' j c D cu s g e f
/-- what holds of a run at each place -/
def PVI (G : Nat → Nat → (Nat → Nat) → Prop) (c : Nat) (D : SD) (cu s e f : Nat) : Prop := PV c D cu s ∧ (e ≤ 1 ∧ f ≤ 1) ∧ (e = 1 → cu + 1 = c ∧ s = 12 * (D cu).1) ∧ (f = 0 → ∀ k, k < c → ¬ G (D k).1 (D k).2.1 (D k).2.2.1) ∧ (f = 1 → G (D (c - 1)).1 (D (c - 1)).2.1 (D (c - 1)).2.2.1)
section SPURE
variable {G : Nat → Nat → (Nat → Nat) → Prop} {lim c cu s g e f c' cu' s' g' e' f' : Nat} {D D' : SD}
theorem KP_PVI {n' l' : Nat} {A' : Nat → Nat} (P : PVI G c D cu s 0 0) (hs : s < 12 * (D cu).1) (GG : GDp n' l' A') (T : KP G c D cu s n' l' A' c' D' f') : PVI G c' D' cu (s + 1) 0 f' := by
  obtain ⟨⟨p1, p2, p3, p4, p5, p6⟩, -, -, p9, -⟩ := P
  rcases T with ⟨-, rfl, rfl, rfl⟩ | ⟨lt, nk, rfl, rfl, ff⟩
  · exact ⟨⟨p1, p2, p3, by omega, p5, p6⟩, ⟨by omega, by omega⟩, fun z => absurd z (by decide), p9, fun z => absurd z (by decide)⟩
  · have ne : ∀ k, k < c → u1 D c (n', l', A', cu, s) k = D k := fun k hk => u1_n _ _ (by omega)
    have es : u1 D c (n', l', A', cu, s) c = (n', l', A', cu, s) := u1_s _ _ _
    have h12 := (p5 cu p3).1
    refine ⟨⟨by omega, by omega, by omega, by rw [ne cu p3]; omega, fun k hk => ?_, fun k k0 hk => ?_⟩, ⟨by omega, by omega⟩, fun z => absurd z (by decide), fun z k hk => ?_, fun z => ?_⟩
    · by_cases q : k < c
      · rw [ne k q]; exact p5 k q
      · have : k = c := by omega
        rw [this, es]; exact GG
    · by_cases q : k < c
      · rw [ne k q]; exact p6 k k0 q
      · have : k = c := by omega
        rw [this, es]
        exact ⟨p3, show s < 144 by omega⟩
    · rcases ff with ⟨f1, -⟩ | ⟨-, ng⟩
      · omega
      · by_cases q : k < c
        · rw [ne k q]; exact p9 rfl k q
        · have : k = c := by omega
          rw [this, es]; exact ng
    · rcases ff with ⟨-, yg⟩ | ⟨f0, -⟩
      · rw [Nat.add_sub_cancel, es]; exact yg
      · omega
theorem TN_PVI (P : PVI G c D cu s 0 0) (T : TN G c D cu s g c' D' cu' s' g' e' f') : PVI G c' D' cu' s' e' f' := by
  have P0 := P
  obtain ⟨⟨p1, p2, p3, p4, p5, p6⟩, p7, p8, p9, p10⟩ := P
  rcases T with ⟨t1, t2, rfl, rfl, rfl, rfl, rfl, rfl, rfl⟩ | ⟨t1, t2, rfl, rfl, rfl, rfl, rfl, rfl, rfl⟩ | ⟨t1, rfl, rfl, rfl, f, n', l', A', M, ⟨ff, rfl, rfl, rfl, rfl⟩ | ⟨rfl, rfl, T⟩⟩
  · exact ⟨⟨p1, p2, t2, Nat.zero_le _, p5, p6⟩, ⟨by omega, by omega⟩, fun z => absurd z (by decide), p9, fun z => absurd z (by decide)⟩
  · exact ⟨⟨p1, p2, p3, p4, p5, p6⟩, ⟨by omega, by omega⟩, fun _ => ⟨by omega, t1⟩, p9, fun z => absurd z (by decide)⟩
  · exact ⟨⟨p1, p2, p3, by omega, p5, p6⟩, ⟨by omega, by omega⟩, fun z => absurd z (by decide), p9, fun z => absurd z (by decide)⟩
  · exact KP_PVI P0 t1 (stp_GD (p5 _ p3) M) T
theorem RU_PVI : ∀ (j c : Nat) (D : SD) (cu s g e f : Nat), PVI G c D cu s e f → RU G lim j c D cu s g e f c' D' cu' s' g' e' f' → PVI G c' D' cu' s' e' f' := by
  intro j
  induction j with
  | zero =>
    rintro c D cu s g e f P ⟨⟨rfl, rfl, rfl, rfl, rfl, rfl, rfl⟩, -⟩
    exact P
  | succ j ih =>
    rintro c D cu s g e f P ⟨rfl, rfl, -, c1, D1, cu1, s1, g1, e1, f1, T, R⟩
    exact ih _ _ _ _ _ _ _ (TN_PVI P T) R
/-- how far it is to the end -/
def SM (cu s : Nat) : Nat := (100 - cu) * 145 - s
theorem SM_lt (P : PVI G c D cu s 0 0) (T : TN G c D cu s g c' D' cu' s' g' e' f') : SM cu' s' < SM cu s ∨ (e' = 1 ∧ SM cu' s' = SM cu s) := by
  obtain ⟨⟨p1, p2, p3, p4, p5, p6⟩, p7, p8, p9, p10⟩ := P
  have h12 := (p5 cu p3).1
  unfold SM
  rcases T with ⟨t1, t2, rfl, rfl, rfl, rfl, rfl, rfl, rfl⟩ | ⟨t1, t2, rfl, rfl, rfl, rfl, rfl, rfl, rfl⟩ | ⟨t1, rfl, rfl, rfl, -⟩
  · omega
  · omega
  · omega
theorem SM_pos (P : PVI G c D cu s e f) : 0 < SM cu s ∧ SM cu s ≤ 14500 := by
  obtain ⟨⟨p1, p2, p3, p4, p5, p6⟩, p7, p8, p9, p10⟩ := P
  have h12 := (p5 cu p3).1
  unfold SM
  omega
theorem AK_iff {n l n' l' P P' : Nat} {A A' : Nat → Nat} {Nk Nk' : Nat → Nat} {fk fk' : Nat → Nat → Nat} (R : Pr n A (mt n A)) (R' : Pr n' A' (mt n' A')) (C : CD n (mt n A) P Nk fk) (C' : CD n' (mt n' A') P' Nk' fk') : (l = l' ∧ n = n' ∧ P = P' ∧ ∀ j, j < P → ceq (Nk j) (fk j) (Nk' j) (fk' j)) ↔ AK n l A n' l' A' := by
  unfold AK
  constructor
  · rintro ⟨e1, e2, e3⟩
    subst e2
    exact ⟨e1, rfl, (sq_iff R.iv R'.iv C C').mpr e3⟩
  · rintro ⟨e1, e2, e3⟩
    subst e2
    exact ⟨e1, rfl, (sq_iff R.iv R'.iv C C').mp e3⟩
theorem AK_symm {n l n' l' : Nat} {A A' : Nat → Nat} (R : Pr n A (mt n A)) (x : AK n l A n' l' A') : AK n' l' A' n l A := by
  obtain ⟨e1, e2, e3⟩ := x
  subst e2
  exact ⟨e1.symm, rfl, ISO_symm R.iv e3⟩
theorem AK_mark {n l n' l' : Nat} {A A' : Nat → Nat} (R : Pr n A (mt n A)) (x : AK n l A n' l' A') : mk n (mt n A) (4 * n) = mk n' (mt n' A') (4 * n') := by
  obtain ⟨-, e2, I, e3⟩ := x
  subst e2
  exact mk_iso R.iv e3
end SPURE
