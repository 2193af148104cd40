/-! Pure: pictures that are alike; parts can be matched one by one. -/
theorem cn_q (e k : Nat) : cn e k / 4 = e / 4 := by unfold cn; omega
theorem cn_cn_ (e a b : Nat) : cn (cn e a) b = cn e (a + b) := by unfold cn; omega
theorem cn_back {e a : Nat} (h : a < 4) : cn (cn e a) (4 - a) = e := by unfold cn; omega
theorem cn_forth {e a : Nat} (h : a < 4) : cn (cn e (4 - a)) a = e := by unfold cn; omega
/-- where an end goes, when end 0 of crossing c goes to I c -/
def fe (I : Nat → Nat) (e : Nat) : Nat := cn (I (e / 4)) (e % 4)
theorem fe_cn (I : Nat → Nat) (e k : Nat) : fe I (cn e k) = cn (fe I e) k := by
  unfold fe
  rw [cn_q, cn_cn_]
  unfold cn
  omega
theorem fe_q (I : Nat → Nat) (e : Nat) : fe I e / 4 = I (e / 4) / 4 := cn_q _ _
theorem fe_lt {I : Nat → Nat} {n e : Nat} (h : I (e / 4) < 4 * n) : fe I e < 4 * n := cn_lt _ h
theorem fe_0 (I : Nat → Nat) (c : Nat) : fe I (4 * c) = I c := by
  unfold fe
  rw [show 4 * c / 4 = c by omega, show 4 * c % 4 = 0 by omega]
  unfold cn
  omega
theorem fe_congr {I J : Nat → Nat} {e : Nat} (h : I (e / 4) = J (e / 4)) : fe I e = fe J e := by unfold fe; rw [h]
theorem fe_inj {I : Nat → Nat} {e f : Nat} (h : e / 4 = f / 4) (q : fe I e = fe I f) : e = f := by
  unfold fe at q
  rw [h] at q
  unfold cn at q
  omega
def PIS (n : Nat) (m m' : Nat → Nat) (D : Nat → Prop) (I : Nat → Nat) : Prop := (∀ c, D c → c < n ∧ I c < 4 * n ∧ I c % 2 = 0) ∧ (∀ c c', D c → D c' → I c / 4 = I c' / 4 → c = c') ∧ ∀ e, e < 4 * n → D (e / 4) → D (m e / 4) ∧ fe I (m e) = m' (fe I e)
/-- the pictures of m and m' are alike -/
def ISO (n : Nat) (m m' : Nat → Nat) : Prop := ∃ I, PIS n m m' (fun c => c < n) I
section ISO
variable {n : Nat} {m m' : Nat → Nat} {D D' : Nat → Prop} {I J : Nat → Nat}
theorem PIS_inj (P : PIS n m m' D I) {e f : Nat} (he : D (e / 4)) (hf : D (f / 4)) (q : fe I e = fe I f) : e = f := by
  have h := P.2.1 _ _ he hf (by rw [← fe_q, ← fe_q, q])
  exact fe_inj h q
theorem iso_ex (iv : IV n m) (P : PIS n m m' (fun c => c < n) J) (P' : PIS n m m' D' I) (ag : ∀ c, D c → J c = I c) (sub : ∀ c, D c → D' c) (cl : ∀ e, e < 4 * n → D (e / 4) → D (m e / 4)) (con : ∀ a b, D' a → ¬ D a → D' b → ¬ D b → cc n m a b) : ∃ J', PIS n m m' (fun c => c < n) J' ∧ ∀ c, D' c → J' c = I c := by
  have ml : ∀ e, e < 4 * n → m e < 4 * n := fun e he => (iv e he).1
  have mm : ∀ e, e < 4 * n → m (m e) = e := fun e he => (iv e he).2
  have Cl : ∀ e, e < 4 * n → D' (e / 4) ∧ ¬ D (e / 4) → D' (m e / 4) ∧ ¬ D (m e / 4) := fun e he h => ⟨(P'.2.2 e he h.1).1, fun q => h.2 (by have := cl (m e) (ml e he) q; rw [mm e he] at this; exact this)⟩
  have nD' : ∀ e, e < 4 * n → ¬ D' (e / 4) → ¬ D' (m e / 4) := fun e he h q => h (by have := (P'.2.2 (m e) (ml e he) q).1; rw [mm e he] at this; exact this)
  have dl_ : ∀ z, D' (z / 4) → z < 4 * n := fun z h => by have := (P'.1 _ h).1; omega
  -- the two images of the new part are one, or apart
  have one : ∀ y z, D' (y / 4) → ¬ D (y / 4) → D' (z / 4) → ¬ D (z / 4) → fe I y = fe J z → ∀ u, D' u → ¬ D u → ∃ z1, D' (z1 / 4) ∧ ¬ D (z1 / 4) ∧ I u = fe J z1 := by
    intro y z y1 y2 z1 z2 q u u1_ u2
    have := con (y / 4) u y1 y2 u1_ u2 (fun v => D' v ∧ ¬ D v ∧ ∃ z1, D' (z1 / 4) ∧ ¬ D (z1 / 4) ∧ I v = fe J z1) ⟨y1, y2, cn z (4 - y % 4), by rw [cn_q]; exact z1, by rw [cn_q]; exact z2, by
      rw [fe_cn, ← q]
      unfold fe
      rw [cn_back (by omega)]⟩ (fun e he ⟨v1, v2, z1, w1, w2, w3⟩ => by
      obtain ⟨c1, c2⟩ := Cl e he ⟨v1, v2⟩
      have zl : cn z1 (e % 4) < 4 * n := dl_ _ (by rw [cn_q]; exact w1)
      have cz := Cl (cn z1 (e % 4)) zl ⟨by rw [cn_q]; exact w1, by rw [cn_q]; exact w2⟩
      refine ⟨c1, c2, cn (m (cn z1 (e % 4))) (4 - m e % 4), by rw [cn_q]; exact cz.1, by rw [cn_q]; exact cz.2, ?_⟩
      have e1 : fe I (m e) = m' (fe I e) := (P'.2.2 e he v1).2
      have e2 : fe J (m (cn z1 (e % 4))) = m' (fe J (cn z1 (e % 4))) := (P.2.2 _ zl (by omega)).2
      have e3 : fe I e = fe J (cn z1 (e % 4)) := by
        rw [fe_cn, ← w3]
        rfl
      rw [fe_cn, e2, ← e3, ← e1]
      unfold fe
      rw [cn_back (by omega)])
    exact this.2.2
  have apart : ∀ y z, D' (y / 4) → ¬ D (y / 4) → D' (z / 4) → ¬ D (z / 4) → fe I y = fe J z → ∀ x z1, x < 4 * n → ¬ D' (x / 4) → D' (z1 / 4) → ¬ D (z1 / 4) → fe I z1 ≠ fe J x := by
    intro y z y1 y2 z1 z2 q x z3 hx nx w1 w2 w3
    obtain ⟨z4, v1, v2, v3⟩ := one y z y1 y2 z1 z2 q (z3 / 4) w1 w2
    have e1 : fe I z3 = fe J (cn z4 (z3 % 4)) := by
      rw [fe_cn, ← v3]
      rfl
    rw [e1] at w3
    have := PIS_inj P (by show cn z4 (z3 % 4) / 4 < n; rw [cn_q]; have := dl_ _ v1; omega) (by show x / 4 < n; omega) w3
    rw [← this, cn_q] at nx
    exact nx v1
  obtain ⟨J', hJ⟩ := chs (n := n) (R := fun c y => (D' c → y = I c) ∧ (¬ D' c → (∀ z, D' (z / 4) → ¬ D (z / 4) → fe I z = J c → y = fe J z) ∧ ((¬ ∃ z, D' (z / 4) ∧ ¬ D (z / 4) ∧ fe I z = J c) → y = J c))) (fun c hc => by
    by_cases q : D' c
    · exact ⟨I c, fun _ => rfl, fun w => absurd q w⟩
    · by_cases q2 : ∃ z, D' (z / 4) ∧ ¬ D (z / 4) ∧ fe I z = J c
      · obtain ⟨z, a, b, e⟩ := q2
        refine ⟨fe J z, fun w => absurd w q, fun _ => ⟨fun z' a' b' e' => ?_, fun w => absurd ⟨z, a, b, e⟩ w⟩⟩
        rw [PIS_inj P' a' a (by rw [e', e])]
      · exact ⟨J c, fun w => absurd w q, fun _ => ⟨fun z a b e => absurd ⟨z, a, b, e⟩ q2, fun _ => rfl⟩⟩)
  have k1 : ∀ e, e < 4 * n → D' (e / 4) → fe J' e = fe I e := fun e he h => fe_congr ((hJ _ (by omega)).1 h)
  have k2 : ∀ e z, e < 4 * n → ¬ D' (e / 4) → D' (z / 4) → ¬ D (z / 4) → fe I z = fe J e → fe J' e = fe J z := fun e z he h a b q => by
    have e1 : fe I (cn z (4 - e % 4)) = J (e / 4) := by
      rw [fe_cn, q]
      unfold fe
      rw [cn_back (by omega)]
    have := ((hJ (e / 4) (by omega)).2 h).1 (cn z (4 - e % 4)) (by rw [cn_q]; exact a) (by rw [cn_q]; exact b) e1
    unfold fe
    rw [this, fe_cn, cn_forth (by omega)]
    rfl
  have k3 : ∀ e, e < 4 * n → ¬ D' (e / 4) → (¬ ∃ z, D' (z / 4) ∧ ¬ D (z / 4) ∧ fe I z = fe J e) → fe J' e = fe J e := fun e he h q => by
    refine fe_congr (((hJ (e / 4) (by omega)).2 h).2 (fun ⟨z, a, b, w⟩ => q ⟨cn z (e % 4), by rw [cn_q]; exact a, by rw [cn_q]; exact b, ?_⟩))
    rw [fe_cn, w]
    rfl
  have k2m : ∀ e z, e < 4 * n → D' (z / 4) → ¬ D (z / 4) → fe I z = fe J e → D' (m z / 4) ∧ ¬ D (m z / 4) ∧ fe I (m z) = fe J (m e) := fun e z he a b q => by
    have zl := dl_ z a
    obtain ⟨c1, c2⟩ := Cl z zl ⟨a, b⟩
    refine ⟨c1, c2, ?_⟩
    rw [(P'.2.2 z zl a).2, q, (P.2.2 e he (by omega)).2]
  refine ⟨J', ⟨fun c hc => ?_, fun c c' hc hc' q => ?_, fun e he hd => ?_⟩, fun c hc => (hJ c (P'.1 c hc).1).1 hc⟩
  · have hc : c < n := hc
    have e4 : 4 * c / 4 = c := by omega
    refine ⟨hc, ?_⟩
    by_cases q : D' c
    · rw [(hJ c hc).1 q]
      exact (P'.1 c q).2
    · rw [← fe_0 J' c]
      by_cases q2 : ∃ z, D' (z / 4) ∧ ¬ D (z / 4) ∧ fe I z = fe J (4 * c)
      · obtain ⟨z, a, b, w⟩ := q2
        rw [k2 (4 * c) z (by omega) (by rw [e4]; exact q) a b w]
        have zl := dl_ z a
        have z1 := P.1 (z / 4) (by show z / 4 < n; omega)
        have z2 := P'.1 (z / 4) a
        have c1 := P.1 c hc
        refine ⟨fe_lt z1.2.1, ?_⟩
        rw [fe_0] at w
        have p1 := c1.2.2
        have p2 := z1.2.2
        have p3 := z2.2.2
        unfold fe cn at w ⊢
        omega
      · rw [k3 (4 * c) (by omega) (by rw [e4]; exact q) q2, fe_0]
        exact (P.1 c hc).2
  · have hc : c < n := hc
    have hc' : c' < n := hc'
    -- ends of one crossing
    have key : ∀ e f, e < 4 * n → f < 4 * n → fe J' e = fe J' f → e = f := by
      intro e f he hf w
      have nf : ∀ e f, e < 4 * n → f < 4 * n → D' (e / 4) → ¬ D' (f / 4) → fe J' e = fe J' f → False := by
        intro e f he hf a b w
        rw [k1 e he a] at w
        by_cases dd : D (e / 4)
        · have eJ : fe I e = fe J e := fe_congr (ag _ dd).symm
          by_cases q2 : ∃ z, D' (z / 4) ∧ ¬ D (z / 4) ∧ fe I z = fe J f
          · obtain ⟨z, z1, z2, z3⟩ := q2
            rw [k2 f z hf b z1 z2 z3, eJ] at w
            have := PIS_inj P (by show e / 4 < n; omega) (by show z / 4 < n; have := dl_ z z1; omega) w
            rw [this] at dd
            exact z2 dd
          · rw [k3 f hf b q2, eJ] at w
            have := PIS_inj P (by show e / 4 < n; omega) (by show f / 4 < n; omega) w
            rw [this] at a
            exact b a
        · by_cases q2 : ∃ z, D' (z / 4) ∧ ¬ D (z / 4) ∧ fe I z = fe J f
          · obtain ⟨z, z1, z2, z3⟩ := q2
            rw [k2 f z hf b z1 z2 z3] at w
            exact apart e z a dd z1 z2 w f z hf b z1 z2 z3
          · rw [k3 f hf b q2] at w
            exact q2 ⟨e, a, dd, w⟩
      by_cases a : D' (e / 4)
      · by_cases b : D' (f / 4)
        · rw [k1 e he a, k1 f hf b] at w
          exact PIS_inj P' a b w
        · exact (nf e f he hf a b w).elim
      · by_cases b : D' (f / 4)
        · exact (nf f e hf he b a w.symm).elim
        · by_cases q2 : ∃ z, D' (z / 4) ∧ ¬ D (z / 4) ∧ fe I z = fe J e
          · obtain ⟨z, z1, z2, z3⟩ := q2
            rw [k2 e z he a z1 z2 z3] at w
            by_cases q3 : ∃ z, D' (z / 4) ∧ ¬ D (z / 4) ∧ fe I z = fe J f
            · obtain ⟨y, y1, y2, y3⟩ := q3
              rw [k2 f y hf b y1 y2 y3] at w
              have := PIS_inj P (by show z / 4 < n; have := dl_ z z1; omega) (by show y / 4 < n; have := dl_ y y1; omega) w
              rw [this, y3] at z3
              exact (PIS_inj P (by show f / 4 < n; omega) (by show e / 4 < n; omega) z3).symm
            · rw [k3 f hf b q3] at w
              have := PIS_inj P (by show z / 4 < n; have := dl_ z z1; omega) (by show f / 4 < n; omega) w
              rw [← this] at b
              exact (b z1).elim
          · rw [k3 e he a q2] at w
            by_cases q3 : ∃ z, D' (z / 4) ∧ ¬ D (z / 4) ∧ fe I z = fe J f
            · obtain ⟨y, y1, y2, y3⟩ := q3
              rw [k2 f y hf b y1 y2 y3] at w
              have := PIS_inj P (by show e / 4 < n; omega) (by show y / 4 < n; have := dl_ y y1; omega) w
              rw [this] at a
              exact (a y1).elim
            · rw [k3 f hf b q3] at w
              exact PIS_inj P (by show e / 4 < n; omega) (by show f / 4 < n; omega) w
    -- I' c and I' c' lie at one crossing: some end of c' goes where end 0 of c goes
    have w : fe J' (4 * c) = fe J' (4 * c' + (J' c + 4 - J' c' % 4) % 4) := by
      rw [fe_0]
      unfold fe
      rw [show (4 * c' + (J' c + 4 - J' c' % 4) % 4) / 4 = c' by omega, show (4 * c' + (J' c + 4 - J' c' % 4) % 4) % 4 = (J' c + 4 - J' c' % 4) % 4 by omega]
      unfold cn
      omega
    have := key (4 * c) (4 * c' + (J' c + 4 - J' c' % 4) % 4) (by omega) (by omega) w
    omega
  · refine ⟨by show m e / 4 < n; have := ml e he; omega, ?_⟩
    have hme := ml e he
    by_cases a : D' (e / 4)
    · rw [k1 e he a, k1 (m e) hme (P'.2.2 e he a).1]
      exact (P'.2.2 e he a).2
    · have a2 := nD' e he a
      by_cases q2 : ∃ z, D' (z / 4) ∧ ¬ D (z / 4) ∧ fe I z = fe J e
      · obtain ⟨z, z1, z2, z3⟩ := q2
        obtain ⟨c1, c2, c3⟩ := k2m e z he z1 z2 z3
        rw [k2 e z he a z1 z2 z3, k2 (m e) (m z) hme a2 c1 c2 c3]
        exact (P.2.2 z (dl_ z z1) (by show z / 4 < n; have := dl_ z z1; omega)).2
      · have q3 : ¬ ∃ z, D' (z / 4) ∧ ¬ D (z / 4) ∧ fe I z = fe J (m e) := fun ⟨z, z1, z2, z3⟩ => by
          obtain ⟨c1, c2, c3⟩ := k2m (m e) z hme z1 z2 z3
          rw [mm e he] at c3
          exact q2 ⟨m z, c1, c2, c3⟩
        rw [k3 e he a q2, k3 (m e) hme a2 q3]
        exact (P.2.2 e he (by omega)).2
end ISO
