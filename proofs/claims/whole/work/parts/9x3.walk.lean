/-! Pure: the walk through a part from an end, and its code. -/
/-- what is known when t places have been looked at: how many crossings, in which order, how turned -/
noncomputable def bw (m : Nat → Nat) (c by_ : Nat) : Nat → Nat × ((Nat → Nat) × (Nat → Nat))
  | 0 => (1, fun _ => c, fun _ => by_)
  | t + 1 => @ite _ (t / 4 < (bw m c by_ t).1 ∧ ¬ ∃ j, j < (bw m c by_ t).1 ∧ (bw m c by_ t).2.1 j = m (cn (4 * (bw m c by_ t).2.1 (t / 4) + (bw m c by_ t).2.2 ((bw m c by_ t).2.1 (t / 4))) (t % 4)) / 4) (Classical.propDecidable _) ((bw m c by_ t).1 + 1, u1 (bw m c by_ t).2.1 (bw m c by_ t).1 (m (cn (4 * (bw m c by_ t).2.1 (t / 4) + (bw m c by_ t).2.2 ((bw m c by_ t).2.1 (t / 4))) (t % 4)) / 4), u1 (bw m c by_ t).2.2 (m (cn (4 * (bw m c by_ t).2.1 (t / 4) + (bw m c by_ t).2.2 ((bw m c by_ t).2.1 (t / 4))) (t % 4)) / 4) (m (cn (4 * (bw m c by_ t).2.1 (t / 4) + (bw m c by_ t).2.2 ((bw m c by_ t).2.1 (t / 4))) (t % 4)) % 4 / 2 * 2)) (bw m c by_ t)
/-- the end looked at in place t, by a line and turns -/
def wp (m line rot : Nat → Nat) (t : Nat) : Nat := m (cn (4 * line (t / 4) + rot (line (t / 4))) (t % 4))
/-- one place more: x y z are the state before, x' y' z' behind it -/
def WS (m : Nat → Nat) (t N : Nat) (line rot : Nat → Nat) (N' : Nat) (line' rot' : Nat → Nat) : Prop := (t / 4 < N ∧ (¬ ∃ j, j < N ∧ line j = wp m line rot t / 4) ∧ N' = N + 1 ∧ line' = u1 line N (wp m line rot t / 4) ∧ rot' = u1 rot (wp m line rot t / 4) (wp m line rot t % 4 / 2 * 2)) ∨ (¬ (t / 4 < N ∧ ¬ ∃ j, j < N ∧ line j = wp m line rot t / 4) ∧ N' = N ∧ line' = line ∧ rot' = rot)
theorem bw_0 (m : Nat → Nat) (c by_ : Nat) : bw m c by_ 0 = (1, fun _ => c, fun _ => by_) := rfl
theorem bw_s (m : Nat → Nat) (c by_ t : Nat) : WS m t (bw m c by_ t).1 (bw m c by_ t).2.1 (bw m c by_ t).2.2 (bw m c by_ (t + 1)).1 (bw m c by_ (t + 1)).2.1 (bw m c by_ (t + 1)).2.2 := by
  by_cases z : t / 4 < (bw m c by_ t).1 ∧ ¬ ∃ j, j < (bw m c by_ t).1 ∧ (bw m c by_ t).2.1 j = wp m (bw m c by_ t).2.1 (bw m c by_ t).2.2 t / 4
  · have e : bw m c by_ (t + 1) = ((bw m c by_ t).1 + 1, u1 (bw m c by_ t).2.1 (bw m c by_ t).1 (wp m (bw m c by_ t).2.1 (bw m c by_ t).2.2 t / 4), u1 (bw m c by_ t).2.2 (wp m (bw m c by_ t).2.1 (bw m c by_ t).2.2 t / 4) (wp m (bw m c by_ t).2.1 (bw m c by_ t).2.2 t % 4 / 2 * 2)) := if_pos z
    rw [e]
    exact Or.inl ⟨z.1, z.2, rfl, rfl, rfl⟩
  · have e : bw m c by_ (t + 1) = bw m c by_ t := if_neg z
    rw [e]
    exact Or.inr ⟨z, rfl, rfl, rfl⟩
/-- what holds of a walk -/
def WI (n : Nat) (m : Nat → Nat) (c t N : Nat) (line rot : Nat → Nat) : Prop := 0 < N ∧ line 0 = c ∧ (∀ j, j < N → line j < n ∧ (rot (line j) = 0 ∨ rot (line j) = 2) ∧ cc n m c (line j)) ∧ (∀ i j, i < j → j < N → line i ≠ line j) ∧ ∀ s, s < t → s / 4 < N → ∃ j, j < N ∧ line j = wp m line rot s / 4
section WALK
variable {n : Nat} {m m' : Nat → Nat} {c by_ : Nat}
theorem WI_le {t N : Nat} {line rot : Nat → Nat} (W : WI n m c t N line rot) : N ≤ n := php' (f := line) (fun j hj => (W.2.2.1 j hj).1) (fun i j hij hj => W.2.2.2.1 i j hij hj)
theorem wp_l {t N : Nat} {line rot : Nat → Nat} (iv : IV n m) (W : WI n m c t N line rot) {s : Nat} (hs : s / 4 < N) : cn (4 * line (s / 4) + rot (line (s / 4))) (s % 4) < 4 * n ∧ wp m line rot s < 4 * n ∧ cc n m c (wp m line rot s / 4) := by
  obtain ⟨a, b, e⟩ := W.2.2.1 _ hs
  have l1 : 4 * line (s / 4) + rot (line (s / 4)) < 4 * n := by omega
  have l2 : cn (4 * line (s / 4) + rot (line (s / 4))) (s % 4) < 4 * n := cn_lt _ l1
  refine ⟨l2, (iv _ l2).1, cc_trans e ?_⟩
  have := cc_step (n := n) (m := m) l2
  rw [cn_q, show (4 * line (s / 4) + rot (line (s / 4))) / 4 = line (s / 4) by omega] at this
  exact this
theorem WI_s {t N N' : Nat} {line rot line' rot' : Nat → Nat} (iv : IV n m) (W : WI n m c t N line rot) (S : WS m t N line rot N' line' rot') : WI n m c (t + 1) N' line' rot' := by
  obtain ⟨w0, w1, w2, w3, w4⟩ := W
  rcases S with ⟨s1, s2, s3, s4, s5⟩ | ⟨s1, s2, s3, s4⟩
  · subst s3
    have lo : ∀ j, j < N → line' j = line j := fun j hj => by rw [s4, u1_n _ _ (by omega)]
    have ro : ∀ j, j < N → rot' (line j) = rot (line j) := fun j hj => by rw [s5, u1_n _ _ (fun q => s2 ⟨j, hj, q⟩)]
    have wpo : ∀ s, s / 4 < N → wp m line' rot' s = wp m line rot s := fun s hs => by unfold wp; rw [lo _ hs, ro _ hs]
    obtain ⟨p1, p2, p3⟩ := wp_l iv ⟨w0, w1, w2, w3, w4⟩ s1
    refine ⟨Nat.succ_pos _, by rw [lo 0 w0]; exact w1, fun j hj => ?_, fun i j hij hj => ?_, fun s hs hN => ?_⟩
    · by_cases z : j = N
      · rw [z, s4, u1_s, s5, u1_s]
        exact ⟨by omega, by omega, p3⟩
      · rw [lo j (by omega), ro j (by omega)]
        exact w2 j (by omega)
    · by_cases z : j = N
      · rw [z, lo i (by omega), s4, u1_s]
        exact fun q => s2 ⟨i, by omega, q⟩
      · rw [lo i (by omega), lo j (by omega)]
        exact w3 i j hij (by omega)
    · by_cases z : s = t
      · rw [z, wpo t s1]
        exact ⟨N, Nat.lt_succ_self _, by rw [s4, u1_s]⟩
      · by_cases z2 : s / 4 < N
        · rw [wpo s z2]
          obtain ⟨j, hj, q⟩ := w4 s (by omega) z2
          exact ⟨j, by omega, by rw [lo j hj]; exact q⟩
        · omega
  · subst s2
    subst s3
    subst s4
    refine ⟨w0, w1, w2, w3, fun s hs hN => ?_⟩
    by_cases z : s = t
    · subst z
      exact Classical.byContradiction (fun q => s1 ⟨hN, q⟩)
    · exact w4 s (by omega) hN
theorem WI_bw (iv : IV n m) (hc : c < n) (hb : by_ = 0 ∨ by_ = 2) : ∀ t, WI n m c t (bw m c by_ t).1 (bw m c by_ t).2.1 (bw m c by_ t).2.2 := by
  intro t
  induction t with
  | zero => exact ⟨Nat.one_pos, rfl, fun j hj => ⟨hc, hb, cc_refl _⟩, fun i j hij hj => by have hj : j < 1 := hj; omega, fun s hs => absurd hs (Nat.not_lt_zero s)⟩
  | succ t ih => exact WI_s iv ih (bw_s m c by_ t)
/-- the code of a walk: N crossings, and for each place the number of the crossing and the turn to the end -/
def WC (n : Nat) (m : Nat → Nat) (c by_ N : Nat) (f : Nat → Nat) : Prop := N = (bw m c by_ (4 * n)).1 ∧ ∀ t, t < 4 * N → ∃ j, j < N ∧ (bw m c by_ (4 * n)).2.1 j = wp m (bw m c by_ (4 * n)).2.1 (bw m c by_ (4 * n)).2.2 t / 4 ∧ f t = 4 * j + (wp m (bw m c by_ (4 * n)).2.1 (bw m c by_ (4 * n)).2.2 t + 4 - (bw m c by_ (4 * n)).2.2 (wp m (bw m c by_ (4 * n)).2.1 (bw m c by_ (4 * n)).2.2 t / 4)) % 4
theorem WC_ex (iv : IV n m) (hc : c < n) (hb : by_ = 0 ∨ by_ = 2) : ∃ N f, WC n m c by_ N f := by
  have W := WI_bw iv hc hb (4 * n)
  have le := WI_le W
  obtain ⟨f, hf⟩ := chs (n := 4 * (bw m c by_ (4 * n)).1) (R := fun t v => ∃ j, j < (bw m c by_ (4 * n)).1 ∧ (bw m c by_ (4 * n)).2.1 j = wp m (bw m c by_ (4 * n)).2.1 (bw m c by_ (4 * n)).2.2 t / 4 ∧ v = 4 * j + (wp m (bw m c by_ (4 * n)).2.1 (bw m c by_ (4 * n)).2.2 t + 4 - (bw m c by_ (4 * n)).2.2 (wp m (bw m c by_ (4 * n)).2.1 (bw m c by_ (4 * n)).2.2 t / 4)) % 4) (fun t ht => by
    obtain ⟨j, hj, q⟩ := W.2.2.2.2 t (by omega) (by omega)
    exact ⟨_, j, hj, q, rfl⟩)
  exact ⟨_, f, rfl, hf⟩
theorem WC_u (iv : IV n m) (hc : c < n) (hb : by_ = 0 ∨ by_ = 2) {N N' : Nat} {f f' : Nat → Nat} (a : WC n m c by_ N f) (b : WC n m c by_ N' f') : N = N' ∧ ∀ t, t < 4 * N → f t = f' t := by
  have W := WI_bw iv hc hb (4 * n)
  refine ⟨a.1.trans b.1.symm, fun t ht => ?_⟩
  obtain ⟨j, hj, q, v⟩ := a.2 t ht
  obtain ⟨j', hj', q', v'⟩ := b.2 t (by rw [b.1, ← a.1]; exact ht)
  have : j = j' := by
    rcases Nat.lt_trichotomy j j' with z | z | z
    · exact absurd (q.trans q'.symm) (W.2.2.2.1 j j' z (by rw [← b.1]; exact hj'))
    · exact z
    · exact absurd (q'.trans q.symm) (W.2.2.2.1 j' j z (by rw [← a.1]; exact hj))
  rw [v, v', this]
/-- alike pictures have like walks -/
theorem bw_sim {I : Nat → Nat} (iv : IV n m) (P : PIS n m m' (fun c => c < n) I) (hc : c < n) (hb : by_ = 0 ∨ by_ = 2) : ∀ t, (bw m' (I c / 4) ((I c + by_) % 4) t).1 = (bw m c by_ t).1 ∧ ∀ j, j < (bw m c by_ t).1 → (bw m' (I c / 4) ((I c + by_) % 4) t).2.1 j = I ((bw m c by_ t).2.1 j) / 4 ∧ (bw m' (I c / 4) ((I c + by_) % 4) t).2.2 (I ((bw m c by_ t).2.1 j) / 4) = (I ((bw m c by_ t).2.1 j) + (bw m c by_ t).2.2 ((bw m c by_ t).2.1 j)) % 4 := by
  intro t
  induction t with
  | zero => exact ⟨rfl, fun j hj => ⟨rfl, rfl⟩⟩
  | succ t ih =>
    have W := WI_bw iv hc hb t
    have S := bw_s m c by_ t
    have S' := bw_s m' (I c / 4) ((I c + by_) % 4) t
    generalize (bw m c by_ t).1 = N at ih W S
    generalize (bw m c by_ t).2.1 = line at ih W S
    generalize (bw m c by_ t).2.2 = rot at ih W S
    generalize (bw m c by_ (t + 1)).1 = N1 at S ⊢
    generalize (bw m c by_ (t + 1)).2.1 = line1 at S ⊢
    generalize (bw m c by_ (t + 1)).2.2 = rot1 at S ⊢
    generalize (bw m' (I c / 4) ((I c + by_) % 4) t).1 = N' at ih S'
    generalize (bw m' (I c / 4) ((I c + by_) % 4) t).2.1 = line' at ih S'
    generalize (bw m' (I c / 4) ((I c + by_) % 4) t).2.2 = rot' at ih S'
    generalize (bw m' (I c / 4) ((I c + by_) % 4) (t + 1)).1 = N1' at S' ⊢
    generalize (bw m' (I c / 4) ((I c + by_) % 4) (t + 1)).2.1 = line1' at S' ⊢
    generalize (bw m' (I c / 4) ((I c + by_) % 4) (t + 1)).2.2 = rot1' at S' ⊢
    obtain ⟨eN, ih⟩ := ih
    subst eN
    -- the place
    have pl : t / 4 < N' → wp m' line' rot' t = fe I (wp m line rot t) := fun tl => by
      obtain ⟨a1, a2⟩ := ih _ tl
      obtain ⟨b1, b2, b3⟩ := W.2.2.1 _ tl
      obtain ⟨p1, -, -⟩ := wp_l iv W tl
      unfold wp
      rw [a1, a2, (P.2.2 _ p1 (by show cn _ _ / 4 < n; rw [cn_q]; omega)).2]
      congr 1
      rw [fe_cn]
      unfold fe
      rw [show (4 * line (t / 4) + rot (line (t / 4))) / 4 = line (t / 4) by omega, show (4 * line (t / 4) + rot (line (t / 4))) % 4 = rot (line (t / 4)) by omega]
      congr 1
      unfold cn
      omega
    have seen : t / 4 < N' → ((∃ j, j < N' ∧ line' j = wp m' line' rot' t / 4) ↔ ∃ j, j < N' ∧ line j = wp m line rot t / 4) := fun tl => by
      obtain ⟨-, p2, -⟩ := wp_l iv W tl
      rw [pl tl, fe_q]
      constructor
      · rintro ⟨j, hj, q⟩
        rw [(ih j hj).1] at q
        exact ⟨j, hj, P.2.1 _ _ (W.2.2.1 j hj).1 (by show _ / 4 < n; omega) q⟩
      · rintro ⟨j, hj, q⟩
        exact ⟨j, hj, by rw [(ih j hj).1, q]⟩
    rcases S with ⟨s1, s2, s3, s4, s5⟩ | ⟨s1, s2, s3, s4⟩
    · rcases S' with ⟨r1, r2, r3, r4, r5⟩ | ⟨r1, r2, r3, r4⟩
      · obtain ⟨-, p2, -⟩ := wp_l iv W s1
        have y4 : wp m line rot t / 4 < n := by omega
        have evy := (P.1 _ y4).2.2
        refine ⟨by omega, fun j hj => ?_⟩
        subst s3
        rw [r4, r5, s4, s5, pl s1, fe_q]
        by_cases z : j = N'
        · rw [z, u1_s, u1_s]
          refine ⟨rfl, ?_⟩
          rw [u1_s, u1_s]
          unfold fe cn
          omega
        · have hj' : j < N' := by omega
          obtain ⟨a1, a2⟩ := ih j hj'
          rw [u1_n _ _ z, u1_n _ _ z]
          refine ⟨a1, ?_⟩
          have ny : line j ≠ wp m line rot t / 4 := fun q => s2 ⟨j, hj', q⟩
          rw [u1_n _ _ ny, u1_n _ _ (fun q => ny (P.2.1 _ _ (W.2.2.1 j hj').1 y4 q))]
          exact a2
      · exact absurd ⟨s1, fun q => s2 ((seen s1).mp q)⟩ r1
    · rcases S' with ⟨r1, r2, r3, r4, r5⟩ | ⟨r1, r2, r3, r4⟩
      · exact absurd ⟨r1, fun q => r2 ((seen r1).mpr q)⟩ s1
      · subst r2
        subst r3
        subst r4
        subst s2
        subst s3
        subst s4
        exact ⟨rfl, ih⟩
end WALK
