/-! Pure: codes of parts; pictures are alike just when their parts have the same codes. -/
section CODE
variable {n : Nat} {m m' : Nat → Nat} {c by_ : Nat} {I : Nat → Nat}
theorem wp_sim {N t : Nat} {line rot line' rot' : Nat → Nat} (iv : IV n m) (P : PIS n m m' (fun c => c < n) I) {s : Nat} (W : WI n m c s N line rot) (ih : ∀ j, j < N → line' j = I (line j) / 4 ∧ rot' (I (line j) / 4) = (I (line j) + rot (line j)) % 4) (tl : t / 4 < N) : wp m' line' rot' t = fe I (wp m line rot t) := by
  obtain ⟨a1, a2⟩ := ih _ tl
  obtain ⟨b1, b2, b3⟩ := W.2.2.1 _ tl
  obtain ⟨p1, -, -⟩ := wp_l iv W tl
  unfold wp
  rw [a1, a2, (P.2.2 _ p1 (by show cn _ _ / 4 < n; rw [cn_q]; omega)).2]
  congr 1
  rw [fe_cn]
  unfold fe
  rw [show (4 * line (t / 4) + rot (line (t / 4))) / 4 = line (t / 4) by omega, show (4 * line (t / 4) + rot (line (t / 4))) % 4 = rot (line (t / 4)) by omega]
  congr 1
  unfold cn
  omega
theorem WC_sim (iv : IV n m) (P : PIS n m m' (fun c => c < n) I) (hc : c < n) (hb : by_ = 0 ∨ by_ = 2) {N : Nat} {f : Nat → Nat} (w : WC n m c by_ N f) : WC n m' (I c / 4) ((I c + by_) % 4) N f := by
  obtain ⟨e, ih⟩ := bw_sim iv P hc hb (4 * n)
  have W := WI_bw iv hc hb (4 * n)
  obtain ⟨w1, w2⟩ := w
  subst w1
  refine ⟨e.symm, fun t ht => ?_⟩
  obtain ⟨j, hj, q, v⟩ := w2 t ht
  have tl : t / 4 < (bw m c by_ (4 * n)).1 := by omega
  have pl := wp_sim iv P W ih tl
  obtain ⟨-, p2, -⟩ := wp_l iv W tl
  obtain ⟨a1, a2⟩ := ih j hj
  have b2 := (W.2.2.1 j hj).2.1
  generalize (bw m c by_ (4 * n)).2.1 = line at *
  generalize (bw m c by_ (4 * n)).2.2 = rot at *
  generalize (bw m' (I c / 4) ((I c + by_) % 4) (4 * n)).2.1 = line' at *
  generalize (bw m' (I c / 4) ((I c + by_) % 4) (4 * n)).2.2 = rot' at *
  rw [pl]
  generalize wp m line rot t = o at *
  rw [q] at a1 a2 b2
  refine ⟨j, hj, by rw [a1, fe_q], ?_⟩
  rw [v, fe_q, a2]
  congr 1
  unfold fe cn
  omega
theorem cc_lt' (iv : IV n m) {a b : Nat} (ha : a < n) (x : cc n m a b) : b < n := (cc_EQ iv).2.2.2 a b ha x
/-- like walks give a likeness of the parts -/
theorem WC_iso {c' by' N : Nat} {f : Nat → Nat} (iv : IV n m) (iv' : IV n m') (hc : c < n) (hb : by_ = 0 ∨ by_ = 2) (hc' : c' < n) (hb' : by' = 0 ∨ by' = 2) (w : WC n m c by_ N f) (w' : WC n m' c' by' N f) : ∃ I, PIS n m m' (fun x => cc n m c x) I ∧ ∀ x, cc n m c x → cc n m' c' (I x / 4) := by
  have W := WI_bw iv hc hb (4 * n)
  have W' := WI_bw iv' hc' hb' (4 * n)
  obtain ⟨e, w⟩ := w
  obtain ⟨e', w'⟩ := w'
  generalize (bw m c by_ (4 * n)).1 = N1 at *
  generalize (bw m c by_ (4 * n)).2.1 = line at *
  generalize (bw m c by_ (4 * n)).2.2 = rot at *
  generalize (bw m' c' by' (4 * n)).1 = N2 at *
  generalize (bw m' c' by' (4 * n)).2.1 = line' at *
  generalize (bw m' c' by' (4 * n)).2.2 = rot' at *
  subst e
  subst e'
  have NL_ := WI_le W
  obtain ⟨I, hI⟩ := chs (n := n) (R := fun x y => ∀ j, j < N → line j = x → y = cn (4 * line' j + rot' (line' j)) (4 - rot x)) (fun x _ => by
    by_cases z : ∃ j, j < N ∧ line j = x
    · obtain ⟨j, hj, q⟩ := z
      refine ⟨cn (4 * line' j + rot' (line' j)) (4 - rot x), fun j' hj' q' => ?_⟩
      have : j = j' := by
        rcases Nat.lt_trichotomy j j' with z | z | z
        · exact absurd (q.trans q'.symm) (W.2.2.2.1 j j' z hj')
        · exact z
        · exact absurd (q'.trans q.symm) (W.2.2.2.1 j' j z hj)
      rw [this]
    · exact ⟨0, fun j hj q => absurd ⟨j, hj, q⟩ z⟩)
  have I_ : ∀ j, j < N → I (line j) = cn (4 * line' j + rot' (line' j)) (4 - rot (line j)) := fun j hj => hI _ (W.2.2.1 j hj).1 j hj rfl
  have I4 : ∀ j, j < N → I (line j) / 4 = line' j ∧ I (line j) % 2 = 0 ∧ cn (I (line j)) (rot (line j)) = 4 * line' j + rot' (line' j) := fun j hj => by
    have a := (W.2.2.1 j hj).2.1
    have b := (W'.2.2.1 j hj).2.1
    rw [I_ j hj]
    unfold cn
    omega
  have place : ∀ j i, j < N → i < 4 → ∃ j', j' < N ∧ m (cn (4 * line j + rot (line j)) i) / 4 = line j' ∧ fe I (m (cn (4 * line j + rot (line j)) i)) = m' (fe I (cn (4 * line j + rot (line j)) i)) := fun j i hj hi => by
    obtain ⟨j1, q1, q2, q3⟩ := w (4 * j + i) (by omega)
    obtain ⟨j2, r1, r2, r3⟩ := w' (4 * j + i) (by omega)
    have e1 : wp m line rot (4 * j + i) = m (cn (4 * line j + rot (line j)) i) := by
      unfold wp
      rw [show (4 * j + i) / 4 = j by omega, show (4 * j + i) % 4 = i by omega]
    have e2 : wp m' line' rot' (4 * j + i) = m' (cn (4 * line' j + rot' (line' j)) i) := by
      unfold wp
      rw [show (4 * j + i) / 4 = j by omega, show (4 * j + i) % 4 = i by omega]
    rw [e1] at q2 q3
    rw [e2] at r2 r3
    have js : j1 = j2 := by omega
    subst js
    have b1 := (W.2.2.1 j hj).2.1
    have b2 := (W.2.2.1 j1 q1).2.1
    have b3 := (W'.2.2.1 j1 q1).2.1
    have fe1 : fe I (cn (4 * line j + rot (line j)) i) = cn (4 * line' j + rot' (line' j)) i := by
      rw [fe_cn]
      unfold fe
      rw [show (4 * line j + rot (line j)) / 4 = line j by omega, show (4 * line j + rot (line j)) % 4 = rot (line j) by omega, (I4 j hj).2.2]
    refine ⟨j1, q1, q2.symm, ?_⟩
    rw [fe1]
    have i4 := I4 j1 q1
    generalize m (cn (4 * line j + rot (line j)) i) = o at *
    generalize m' (cn (4 * line' j + rot' (line' j)) i) = o' at *
    rw [← q2] at q3
    rw [← r2] at r3
    unfold fe
    rw [← q2]
    have i5 := i4.2.2
    have i6 := i4.1
    unfold cn at i5 ⊢
    omega
  have endp : ∀ e j, line j = e / 4 → j < N → ∃ i, i < 4 ∧ e = cn (4 * line j + rot (line j)) i := fun e j q hj => by
    have b1 := (W.2.2.1 j hj).2.1
    refine ⟨(e + 4 - rot (line j)) % 4, by omega, ?_⟩
    unfold cn
    omega
  have all : ∀ x, cc n m c x ↔ ∃ j, j < N ∧ line j = x := fun x => ⟨fun o => o (fun x => ∃ j, j < N ∧ line j = x) ⟨0, W.1, W.2.1⟩ (fun e he ⟨j, hj, q⟩ => by
    obtain ⟨i, hi, ei⟩ := endp e j q hj
    obtain ⟨j', h1, h2, -⟩ := place j i hj hi
    rw [← ei] at h2
    exact ⟨j', h1, h2.symm⟩), fun ⟨j, hj, q⟩ => by rw [← q]; exact (W.2.2.1 j hj).2.2⟩
  refine ⟨I, ⟨fun x hx => ?_, fun x y hx hy q => ?_, fun e he hx => ?_⟩, fun x hx => ?_⟩
  · obtain ⟨j, hj, q⟩ := (all x).mp hx
    rw [← q]
    have a := (W'.2.2.1 j hj).1
    have := I4 j hj
    exact ⟨(W.2.2.1 j hj).1, by omega, this.2.1⟩
  · obtain ⟨j, hj, a⟩ := (all x).mp hx
    obtain ⟨k, hk, b⟩ := (all y).mp hy
    rw [← a, ← b, (I4 j hj).1, (I4 k hk).1] at q
    rw [← a, ← b]
    rcases Nat.lt_trichotomy j k with z | z | z
    · exact absurd q (W'.2.2.2.1 j k z hk)
    · rw [z]
    · exact absurd q.symm (W'.2.2.2.1 k j z hj)
  · obtain ⟨j, hj, a⟩ := (all _).mp hx
    obtain ⟨i, hi, ei⟩ := endp e j a hj
    obtain ⟨j', h1, h2, h3⟩ := place j i hj hi
    rw [← ei] at h2 h3
    exact ⟨(all _).mpr ⟨j', h1, h2.symm⟩, h3⟩
  · obtain ⟨j, hj, q⟩ := (all x).mp hx
    rw [← q, (I4 j hj).1]
    exact (W'.2.2.1 j hj).2.2
end CODE
/-- the order of codes -/
def clt (N : Nat) (f : Nat → Nat) (N' : Nat) (f' : Nat → Nat) : Prop := N < N' ∨ (N = N' ∧ ∃ k, k < 4 * N ∧ f k < f' k ∧ ∀ j, j < k → f j = f' j)
def ceq (N : Nat) (f : Nat → Nat) (N' : Nat) (f' : Nat → Nat) : Prop := N = N' ∧ ∀ t, t < 4 * N → f t = f' t
theorem clt_tot {N N' : Nat} {f f' : Nat → Nat} (a : ¬ clt N f N' f') (b : ¬ clt N' f' N f) : ceq N f N' f' := by
  have e : N = N' := by
    rcases Nat.lt_trichotomy N N' with z | z | z
    · exact absurd (Or.inl z) a
    · exact z
    · exact absurd (Or.inl z) b
  subst e
  refine ⟨rfl, fun t ht => Classical.byContradiction (fun ne => ?_)⟩
  obtain ⟨k, k1, k2⟩ := pk_least (fun k => k < 4 * N ∧ f k ≠ f' k) ⟨t, ht, ne⟩
  have eq : ∀ j, j < k → f j = f' j := fun j hj => Classical.byContradiction (fun q => k2 j hj ⟨by omega, q⟩)
  rcases Nat.lt_trichotomy (f k) (f' k) with z | z | z
  · exact a (Or.inr ⟨rfl, k, k1.1, z, eq⟩)
  · exact k1.2 z
  · exact b (Or.inr ⟨rfl, k, k1.1, z, fun j hj => (eq j hj).symm⟩)
theorem clt_irr {N : Nat} {f : Nat → Nat} {N' : Nat} {f' : Nat → Nat} (e : ceq N f N' f') : ¬ clt N f N' f' := by
  rintro (z | ⟨-, k, k1, k2, -⟩)
  · have := e.1
    omega
  · have := e.2 k k1
    omega
/-- the code of the part of c -/
def PCd (n : Nat) (m : Nat → Nat) (c N : Nat) (f : Nat → Nat) : Prop := (∃ d b, cc n m c d ∧ (b = 0 ∨ b = 2) ∧ WC n m d b N f) ∧ ∀ d b N' f', cc n m c d → (b = 0 ∨ b = 2) → WC n m d b N' f' → ¬ clt N' f' N f
section PARTS
variable {n : Nat} {m m' : Nat → Nat} {I : Nat → Nat}
theorem WC_congr {c b N : Nat} {f f' : Nat → Nat} (w : WC n m c b N f) (e : ∀ t, t < 4 * N → f t = f' t) : WC n m c b N f' := ⟨w.1, fun t ht => by
  obtain ⟨j, h1, h2, h3⟩ := w.2 t ht
  exact ⟨j, h1, h2, by rw [← e t ht]; exact h3⟩⟩
theorem clt_congr {N N' : Nat} {f f' g : Nat → Nat} (e : ∀ t, t < 4 * N → f t = f' t) (w : clt N' g N f') : clt N' g N f := by
  rcases w with z | ⟨z, k, k1, k2, k3⟩
  · exact Or.inl z
  · exact Or.inr ⟨z, k, k1, by rw [e k (by omega)]; exact k2, fun j hj => by rw [e j (by omega)]; exact k3 j hj⟩
theorem PCd_congr {c N : Nat} {f f' : Nat → Nat} (p : PCd n m c N f) (e : ∀ t, t < 4 * N → f t = f' t) : PCd n m c N f' := by
  obtain ⟨⟨d, b, h1, h2, h3⟩, p2⟩ := p
  exact ⟨⟨d, b, h1, h2, WC_congr h3 e⟩, fun d b N' g a1 a2 a3 w => p2 d b N' g a1 a2 a3 (clt_congr e w)⟩
theorem PCd_u {c N N' : Nat} {f f' : Nat → Nat} (p : PCd n m c N f) (q : PCd n m c N' f') : ceq N f N' f' := by
  obtain ⟨⟨d, b, h1, h2, h3⟩, p2⟩ := p
  obtain ⟨⟨d', b', h1', h2', h3'⟩, q2⟩ := q
  exact clt_tot (q2 d b N f h1 h2 h3) (p2 d' b' N' f' h1' h2' h3')
theorem PCd_cc (iv : IV n m) {c c' N : Nat} {f : Nat → Nat} (hc : c < n) (o : cc n m c c') (p : PCd n m c N f) : PCd n m c' N f := by
  have o' := (cc_EQ iv).2.1 _ _ hc o
  obtain ⟨⟨d, b, h1, h2, h3⟩, p2⟩ := p
  exact ⟨⟨d, b, cc_trans o' h1, h2, h3⟩, fun d b N' f' a1 a2 a3 => p2 d b N' f' (cc_trans o a1) a2 a3⟩
theorem iso_onto (P : PIS n m m' (fun c => c < n) I) {y : Nat} (hy : y < n) : ∃ x, x < n ∧ I x / 4 = y := by
  refine Classical.byContradiction (fun no => ?_)
  -- n places, one of them free
  obtain ⟨i, j, hij, hj, q⟩ := php n (fun i => if i < n then I i / 4 else y) (fun i hi => by
    show (if i < n then I i / 4 else y) < n
    by_cases z : i < n
    · rw [if_pos z]; have := (P.1 i z).2.1; omega
    · rw [if_neg z]; exact hy)
  have q : (if i < n then I i / 4 else y) = if j < n then I j / 4 else y := q
  rw [if_pos (by omega)] at q
  by_cases z : j < n
  · rw [if_pos z] at q
    have := P.2.1 i j (by show i < n; omega) z q
    omega
  · rw [if_neg z] at q
    exact no ⟨i, by omega, q⟩
theorem iso_cc (P : PIS n m m' (fun c => c < n) I) {a b : Nat} (ha : a < n) (o : cc n m a b) : cc n m' (I a / 4) (I b / 4) := by
  refine (o (fun x => x < n ∧ cc n m' (I a / 4) (I x / 4)) ⟨ha, cc_refl _⟩ (fun e he h => ?_)).2
  obtain ⟨p1, p2⟩ := P.2.2 e he h.1
  refine ⟨p1, cc_trans h.2 ?_⟩
  have := cc_step (n := n) (m := m') (e := fe I e) (fe_lt (P.1 _ h.1).2.1)
  rw [fe_q, ← p2, fe_q] at this
  exact this
theorem iso_cc' (P : PIS n m m' (fun c => c < n) I) {a b : Nat} (ha : a < n) (hb : b < n) (o : cc n m' (I a / 4) (I b / 4)) : cc n m a b := by
  have := o (fun y => ∃ x, x < n ∧ I x / 4 = y ∧ cc n m a x) ⟨a, ha, rfl, cc_refl _⟩ (fun e he ⟨x, h1, h2, h3⟩ => by
    -- the end of x that goes to e
    have ex : fe I (4 * x + (e + 4 - I x % 4) % 4) = e := by
      unfold fe
      rw [show (4 * x + (e + 4 - I x % 4) % 4) / 4 = x by omega, show (4 * x + (e + 4 - I x % 4) % 4) % 4 = (e + 4 - I x % 4) % 4 by omega]
      unfold cn
      omega
    have hx : (4 * x + (e + 4 - I x % 4) % 4) < 4 * n := by omega
    obtain ⟨p1, p2⟩ := P.2.2 _ hx (by show _ / 4 < n; omega)
    rw [ex] at p2
    refine ⟨_, p1, by rw [← fe_q, p2], cc_trans h3 ?_⟩
    have := cc_step (n := n) (m := m) hx
    rw [show (4 * x + (e + 4 - I x % 4) % 4) / 4 = x by omega] at this
    exact this)
  obtain ⟨x, h1, h2, h3⟩ := this
  rw [← P.2.1 x b h1 hb h2]
  exact h3
theorem PCd_sim (iv : IV n m) (P : PIS n m m' (fun c => c < n) I) {c N : Nat} {f : Nat → Nat} (hc : c < n) (p : PCd n m c N f) : PCd n m' (I c / 4) N f := by
  obtain ⟨⟨d, b, h1, h2, h3⟩, p2⟩ := p
  have hd := cc_lt' iv hc h1
  have evd := (P.1 d hd).2.2
  refine ⟨⟨I d / 4, (I d + b) % 4, iso_cc P hc h1, by omega, WC_sim iv P hd h2 h3⟩, fun d' b' N' f' a1 a2 a3 => ?_⟩
  have hd' : d' < n := a1 (fun x => x < n) (by show I c / 4 < n; have := (P.1 c hc).2.1; omega) (fun e he h => by
    obtain ⟨x, x1, x2⟩ := iso_onto P h
    have ex : fe I (4 * x + (e + 4 - I x % 4) % 4) = e := by
      unfold fe
      rw [show (4 * x + (e + 4 - I x % 4) % 4) / 4 = x by omega, show (4 * x + (e + 4 - I x % 4) % 4) % 4 = (e + 4 - I x % 4) % 4 by omega]
      unfold cn
      omega
    obtain ⟨q1, q2⟩ := P.2.2 (4 * x + (e + 4 - I x % 4) % 4) (by omega) (by show _ / 4 < n; omega)
    rw [ex] at q2
    rw [← q2, fe_q]
    have := (P.1 _ q1).2.1
    omega)
  obtain ⟨x, x1, x2⟩ := iso_onto P hd'
  have evx := (P.1 x x1).2.2
  obtain ⟨N2, f2, w2⟩ := WC_ex (by_ := (b' + 4 - I x % 4) % 4) iv x1 (by omega)
  have w3 := WC_sim iv P x1 (by omega) w2
  rw [x2, show (I x + (b' + 4 - I x % 4) % 4) % 4 = b' by omega] at w3
  have ccx : cc n m c x := iso_cc' P hc x1 (by rw [x2]; exact a1)
  have no := p2 x _ N2 f2 ccx (by omega) w2
  intro lt
  obtain ⟨u1_, u2⟩ : N2 = N' ∧ ∀ t, t < 4 * N2 → f2 t = f' t := ⟨w3.1.trans a3.1.symm, fun t ht => by
    obtain ⟨j, j1, j2, j3⟩ := w3.2 t ht
    obtain ⟨k, k1, k2, k3⟩ := a3.2 t (by rw [a3.1, ← w3.1]; exact ht)
    have dd : ∀ i j, i < j → j < (bw m' d' b' (4 * n)).1 → (bw m' d' b' (4 * n)).2.1 i ≠ (bw m' d' b' (4 * n)).2.1 j := by
      have := (bw_sim iv P x1 (show (b' + 4 - I x % 4) % 4 = 0 ∨ (b' + 4 - I x % 4) % 4 = 2 by omega) (4 * n))
      rw [x2, show (I x + (b' + 4 - I x % 4) % 4) % 4 = b' by omega] at this
      have W := WI_bw (by_ := (b' + 4 - I x % 4) % 4) iv x1 (by omega) (4 * n)
      intro i j hij hj q
      rw [this.1] at hj
      rw [(this.2 i (by omega)).1, (this.2 j hj).1] at q
      exact W.2.2.2.1 i j hij hj (P.2.1 _ _ (W.2.2.1 i (by omega)).1 (W.2.2.1 j hj).1 q)
    have jk : j = k := by
      rcases Nat.lt_trichotomy j k with z | z | z
      · exact absurd (j2.trans k2.symm) (dd j k z (by rw [← a3.1]; exact k1))
      · exact z
      · exact absurd (k2.trans j2.symm) (dd k j z (by rw [← w3.1]; exact j1))
    rw [j3, k3, jk]⟩
  subst u1_
  refine no ?_
  rcases lt with z | ⟨z, k, k1, k2, k3⟩
  · exact Or.inl z
  · exact Or.inr ⟨z, k, k1, by rw [u2 k k1]; exact k2, fun j hj => by rw [u2 j (by omega)]; exact k3 j hj⟩
end PARTS
