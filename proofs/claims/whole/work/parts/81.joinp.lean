/-! Joining two pictures: the new arcs; append, fresh. -/
theorem ct_map {φ : Nat → Nat} {p : Nat → Prop} (N M : Nat) : ∀ (q : Nat → Prop), (∀ a, a < N → p a → φ a < M ∧ q (φ a)) → (∀ a b, a < N → b < N → p a → p b → φ a = φ b → a = b) → ct p N ≤ ct q M := by
  induction N with
  | zero => intro q _ _; exact Nat.zero_le _
  | succ N ih =>
    intro q h1 h2
    by_cases w : p N
    · obtain ⟨a1, a2⟩ := h1 N (by omega) w
      rw [ct_y w, ct_del a1 a2]
      have := ih (fun x => q x ∧ x ≠ φ N) (fun a ha pa => ⟨(h1 a (by omega) pa).1, (h1 a (by omega) pa).2, fun e => by
        have := h2 a N (by omega) (by omega) pa w e
        omega⟩) (fun a b ha hb => h2 a b (by omega) (by omega))
      omega
    · rw [ct_n w]
      exact ih q (fun a ha => h1 a (by omega)) (fun a b ha hb => h2 a b (by omega) (by omega))
theorem ct_or (p q : Nat → Prop) (N : Nat) : ct (fun x => p x ∨ q x) N ≤ ct p N + ct q N := by
  induction N with
  | zero => exact Nat.zero_le _
  | succ N ih =>
    by_cases a : p N
    · rw [ct_y (p := fun x => p x ∨ q x) (Or.inl a), ct_y a]
      have := ct_mono q (show N ≤ N + 1 by omega)
      omega
    · by_cases b : q N
      · rw [ct_y (p := fun x => p x ∨ q x) (Or.inr b), ct_n a, ct_y b]; omega
      · rw [ct_n (p := fun x => p x ∨ q x) (fun z => by rcases z with z | z; exact a z; exact b z), ct_n a, ct_n b]; exact ih
/-- which arcs are taken ahead of end e of the second picture -/
def ju (n1 : Nat) (A1 G : Nat → Nat) (e a : Nat) : Prop := us n1 A1 a ∨ ∃ e', e' < e ∧ G e' = a
def JG (n1 j : Nat) (A1 m2 G : Nat → Nat) : Prop := ∀ e, e < j → (m2 e < e → G e = G (m2 e)) ∧ (e < m2 e → fa (ju n1 A1 G e) 0 (G e))
section JP
variable {n1 n2 : Nat} {A1 m1_ A2 m2 G : Nat → Nat}
theorem JG_cnt {j : Nat} (R2 : Pr n2 A2 m2) (hj : j ≤ 4 * n2) (J : JG n1 j A1 m2 G) : ct (fun a => ∃ e', e' < j ∧ G e' = a) 100 ≤ 2 * n2 := by
  rw [← ct_us R2]
  have lst : ∀ a, (∃ e', e' < j ∧ G e' = a) → ∃ e, (e < j ∧ G e = a) ∧ ∀ x, x < e → ¬ (x < j ∧ G x = a) := fun a h => pk_least _ h
  have sp_ : ∀ a, (∃ e', e' < j ∧ G e' = a) → ((Classical.epsilon fun e => (e < j ∧ G e = a) ∧ ∀ x, x < e → ¬ (x < j ∧ G x = a)) < j ∧ G (Classical.epsilon fun e => (e < j ∧ G e = a) ∧ ∀ x, x < e → ¬ (x < j ∧ G x = a)) = a) ∧ ∀ x, x < (Classical.epsilon fun e => (e < j ∧ G e = a) ∧ ∀ x, x < e → ¬ (x < j ∧ G x = a)) → ¬ (x < j ∧ G x = a) := fun a h => Classical.epsilon_spec (lst a h)
  have fr_ : ∀ e a, (e < j ∧ G e = a) → (∀ x, x < e → ¬ (x < j ∧ G x = a)) → e < m2 e := by
    intro e a h1 h2
    have ne := R2.ne (e := e) (by omega)
    by_cases w : e < m2 e
    · exact w
    · exact absurd ⟨by omega, by rw [← (J e h1.1).1 (by omega)]; exact h1.2⟩ (h2 (m2 e) (by omega))
  refine ct_map (φ := fun a => A2 (Classical.epsilon fun e => (e < j ∧ G e = a) ∧ ∀ x, x < e → ¬ (x < j ∧ G x = a))) 100 100 (us n2 A2) (fun a ha pa => ?_) (fun a b ha hb pa pb e => ?_)
  · have z := sp_ a pa
    have lt := z.1.1
    exact ⟨R2.A100 (by omega), _, by omega, rfl⟩
  · have za := sp_ a pa
    have zb := sp_ b pb
    have fa_ := fr_ _ a za.1 za.2
    have fb_ := fr_ _ b zb.1 zb.2
    generalize (Classical.epsilon fun e => (e < j ∧ G e = a) ∧ ∀ x, x < e → ¬ (x < j ∧ G x = a)) = ea at e za fa_
    generalize (Classical.epsilon fun e => (e < j ∧ G e = b) ∧ ∀ x, x < e → ¬ (x < j ∧ G x = b)) = eb at e zb fb_
    have la := za.1.1
    have lb := zb.1.1
    have e' : A2 eb = A2 ea := e.symm
    rcases (R2.eq (e := ea) (f := eb) (by omega) (by omega)).mp e' with q | q
    · rw [← za.1.2, ← zb.1.2, q]
    · rw [q, R2.mm (by omega)] at fb_
      omega
theorem JG_ex {A1 : Nat → Nat} (R1 : Pr n1 A1 m1_) (R2 : Pr n2 A2 m2) (h40 : n1 + n2 ≤ 40) : ∃ G, JG n1 (4 * n2) A1 m2 G := by
  have key : ∀ j, j ≤ 4 * n2 → ∃ G, JG n1 j A1 m2 G := by
    intro j
    induction j with
    | zero => intro _; exact ⟨fun _ => 0, fun e he => absurd he (Nat.not_lt_zero e)⟩
    | succ j ih =>
      intro hj
      obtain ⟨G, J⟩ := ih (by omega)
      have ext : ∀ v, (m2 j < j → v = G (m2 j)) → (j < m2 j → fa (ju n1 A1 G j) 0 v) → ∃ G, JG n1 (j + 1) A1 m2 G := by
        intro v h1 h2
        have jue : ∀ e, e ≤ j → ∀ a, ju n1 A1 (u1 G j v) e a ↔ ju n1 A1 G e a := fun e he a => by
          unfold ju
          constructor
          · rintro (q | ⟨e', a1, a2⟩)
            · exact Or.inl q
            · exact Or.inr ⟨e', a1, by rw [u1_n _ _ (by omega)] at a2; exact a2⟩
          · rintro (q | ⟨e', a1, a2⟩)
            · exact Or.inl q
            · exact Or.inr ⟨e', a1, by rw [u1_n _ _ (by omega)]; exact a2⟩
        have fae : ∀ e, e ≤ j → ∀ w, fa (ju n1 A1 G e) 0 w → fa (ju n1 A1 (u1 G j v) e) 0 w := fun e he w q => ⟨q.1, q.2.1, fun z => q.2.2.1 ((jue e he w).mp z), fun x x1 x2 => (jue e he x).mpr (q.2.2.2 x x1 x2)⟩
        refine ⟨u1 G j v, fun e he => ?_⟩
        by_cases q : e = j
        · subst q
          refine ⟨fun w => ?_, fun w => ?_⟩
          · rw [u1_s, u1_n _ _ (by omega)]; exact h1 w
          · rw [u1_s]; exact fae e (by omega) _ (h2 w)
        · refine ⟨fun w => ?_, fun w => ?_⟩
          · rw [u1_n _ _ q, u1_n _ _ (by omega)]; exact (J e (by omega)).1 w
          · rw [u1_n _ _ q]; exact fae e (by omega) _ ((J e (by omega)).2 w)
      by_cases w : j < m2 j
      · have c1 := JG_cnt R2 (by omega) J
        have c2 := ct_or (us n1 A1) (fun a => ∃ e', e' < j ∧ G e' = a) 100
        rw [ct_us R1] at c2
        have c3 := ct_not (ju n1 A1 G j) 100
        have c4 : ct (ju n1 A1 G j) 100 = ct (fun x => us n1 A1 x ∨ ∃ e', e' < j ∧ G e' = x) 100 := rfl
        have z : ct (fun x => ¬ ju n1 A1 G j x) 0 = 0 := rfl
        obtain ⟨v, fv, -⟩ := fa_ex (u := ju n1 A1 G j) (lo := 0) (by omega) (by omega)
        exact ext v (fun q => by omega) (fun _ => fv)
      · exact ext (G (m2 j)) (fun _ => rfl) (fun q => absurd q w)
  exact key _ (Nat.le_refl _)
theorem JG_lt (R2 : Pr n2 A2 m2) (J : JG n1 (4 * n2) A1 m2 G) {e : Nat} (he : e < 4 * n2) : G e < 100 ∧ ¬ us n1 A1 (G e) := by
  have ne := R2.ne he
  have hm := R2.lt he
  by_cases w : e < m2 e
  · have f := (J e he).2 w
    exact ⟨f.2.1, fun z => f.2.2.1 (Or.inl z)⟩
  · rw [(J e he).1 (by omega)]
    have f := (J (m2 e) hm).2 (by rw [R2.mm he]; omega)
    exact ⟨f.2.1, fun z => f.2.2.1 (Or.inl z)⟩
theorem JG_eq (R2 : Pr n2 A2 m2) (J : JG n1 (4 * n2) A1 m2 G) {e f : Nat} (he : e < 4 * n2) (hf : f < 4 * n2) : G f = G e ↔ f = e ∨ f = m2 e := by
  have hm := R2.lt he
  have hn := R2.lt hf
  have gm : ∀ x, x < 4 * n2 → G (m2 x) = G x := fun x hx => by
    have := R2.ne hx
    by_cases w : m2 x < x
    · exact ((J x hx).1 w).symm
    · have := (J (m2 x) (R2.lt hx)).1 (by rw [R2.mm hx]; omega)
      rw [R2.mm hx] at this
      exact this
  have low : ∀ x y, x < 4 * n2 → y < 4 * n2 → x < m2 x → y < m2 y → G x = G y → x = y := by
    intro x y hx hy fx fy q
    rcases Nat.lt_trichotomy x y with z | z | z
    · exact absurd (Or.inr ⟨x, z, q⟩) ((J y hy).2 fy).2.2.1
    · exact z
    · exact absurd (Or.inr ⟨y, z, q.symm⟩) ((J x hx).2 fx).2.2.1
  constructor
  · intro q
    have ne := R2.ne he
    have nf := R2.ne hf
    by_cases we : e < m2 e
    · by_cases wf : f < m2 f
      · exact Or.inl (low f e hf he wf we q)
      · have := low (m2 f) e hn he (by rw [R2.mm hf]; omega) we (by rw [gm f hf]; exact q)
        right
        rw [← this, R2.mm hf]
    · by_cases wf : f < m2 f
      · exact Or.inr (low f (m2 e) hf hm wf (by rw [R2.mm he]; omega) (by rw [gm e he]; exact q))
      · have := low (m2 f) (m2 e) hn hm (by rw [R2.mm hf]; omega) (by rw [R2.mm he]; omega) (by rw [gm f hf, gm e he]; exact q)
        exact Or.inl (R2.inj hf he this)
  · rintro (q | q)
    · rw [q]
    · rw [q, gm e he]
def AJ (n1 : Nat) (A1 G : Nat → Nat) : Nat → Nat := fun e => if e < 4 * n1 then A1 e else G (e - 4 * n1)
def mJ (n1 : Nat) (m1_ m2 : Nat → Nat) : Nat → Nat := fun e => if e < 4 * n1 then m1_ e else 4 * n1 + m2 (e - 4 * n1)
theorem AJ_1 {e : Nat} (h : e < 4 * n1) : AJ n1 A1 G e = A1 e := if_pos h
theorem AJ_2 (e : Nat) : AJ n1 A1 G (4 * n1 + e) = G e := by
  unfold AJ
  rw [if_neg (by omega), show 4 * n1 + e - 4 * n1 = e by omega]
theorem mJ_1 {e : Nat} (h : e < 4 * n1) : mJ n1 m1_ m2 e = m1_ e := if_pos h
theorem mJ_2 (e : Nat) : mJ n1 m1_ m2 (4 * n1 + e) = 4 * n1 + m2 e := by
  unfold mJ
  rw [if_neg (by omega), show 4 * n1 + e - 4 * n1 = e by omega]
theorem AJ_Pr (R1 : Pr n1 A1 m1_) (R2 : Pr n2 A2 m2) (J : JG n1 (4 * n2) A1 m2 G) : Pr (n1 + n2) (AJ n1 A1 G) (mJ n1 m1_ m2) := by
  intro e he
  by_cases w : e < 4 * n1
  · rw [AJ_1 w, mJ_1 w, AJ_1 (R1.lt w)]
    refine ⟨R1.A100 w, by have := R1.lt w; omega, R1.ne w, R1.ar w, fun f hf q => ?_⟩
    by_cases z : f < 4 * n1
    · rw [AJ_1 z] at q
      exact (R1.eq w z).mp q
    · obtain ⟨f', rfl⟩ : ∃ f', f = 4 * n1 + f' := ⟨f - 4 * n1, by omega⟩
      rw [AJ_2] at q
      exact absurd ⟨e, w, q.symm⟩ (JG_lt R2 J (e := f') (by omega)).2
  · obtain ⟨e', rfl⟩ : ∃ e', e = 4 * n1 + e' := ⟨e - 4 * n1, by omega⟩
    have he' : e' < 4 * n2 := by omega
    have hm := R2.lt he'
    rw [AJ_2, mJ_2, AJ_2]
    refine ⟨(JG_lt R2 J he').1, by omega, fun q => R2.ne he' (by omega), (JG_eq R2 J he' hm).mpr (Or.inr rfl), fun f hf q => ?_⟩
    by_cases z : f < 4 * n1
    · rw [AJ_1 z] at q
      exact absurd ⟨f, z, q⟩ (JG_lt R2 J he').2
    · obtain ⟨f', rfl⟩ : ∃ f', f = 4 * n1 + f' := ⟨f - 4 * n1, by omega⟩
      rw [AJ_2] at q
      rcases (JG_eq R2 J he' (f := f') (by omega)).mp q with y | y
      · exact Or.inl (by omega)
      · exact Or.inr (by omega)
end JP
section JOINC
variable {h : AH} {d bc bs n1 n2 l1 l2 c : Nat} {Q : Option Value → AH → Prop} {A1 m1_ A2 m2 G : Nat → Nat}
theorem c_append (P : pt h 29) (Pc : pt h c) (hc : 216 ≤ c) (L : lk h 18) (D : cD h 29 n1 l1 A1) (hA : ∀ e, e < 4 * n1 → A1 e < 100) (f2 : ah_f h c 2 = nI n2) (f3 : ah_f h c 3 = nI l2) (hm : ∀ e, e < 4 * n2 → ah_i h 19 e = nI (m2 e)) (R2 : Pr n2 A2 m2) (J : JG n1 (4 * n2) A1 m2 G) (h40 : n1 + n2 ≤ 40) (k : ∀ h', fr [29, 30, 31] h h' → cD h' 29 (n1 + n2) (l1 + l2) (AJ n1 A1 G) → Q none h') : ex_S yX7_append mX7_append (d + 1) [.ref 29, .ref c, .ref 18] h bc bs Q := by
  obtain ⟨d0, d1, d2, d3⟩ := D
  refine X7_append_e (X7_append_0 ⟨pt_o P, fun x2 e2 => ⟨pt_o Pc, fun h4 e4 => ?_⟩⟩)
  have e2' : x2 = nI (4 * n1) := by rw [e2, d0]; exact pk_mul 4 n1
  subst e2'
  have F4 : fr [29, 30, 31] h h4 := by rw [e4]; exact fr_sf (fr_refl _ h) (by decide)
  have g4 : ah_f h4 29 = u1 (ah_f h 29) 3 (nI (l1 + l2)) := by rw [e4, f_sf_s, d1, f3, nI_add]
  have i4 : ah_i h4 = ah_i h := by rw [e4, i_sf]
  clear e4 e2
  have nc : ∀ a, 216 ≤ a → a ∉ [29, 30, 31] := fun a ha => by simp only [List.mem_cons, List.not_mem_nil, or_false]; omega
  refine lp n2 (fun j h' => fr [29, 30, 31] h h' ∧ ah_f h' 29 2 = nI (n1 + j) ∧ ah_f h' 29 3 = nI (l1 + l2) ∧ (∀ i, i < n1 + j → ah_i h' 30 i = nI 4) ∧ (∀ e, e < 4 * n1 → ah_i h' 31 e = nI (A1 e)) ∧ ∀ e, e < 4 * j → ah_i h' 31 (4 * n1 + e) = m1) (fun j h' => ex_G mX7_append (d + 1) 23 [.ref 29, .ref c, .ref 18, .int (nI (4 * n1)), .int (nI j), .retAddr 0] [] h' bc bs Q) ⟨F4, by rw [g4, u1_n _ _ (by decide)]; exact d0, by rw [g4, u1_s], by rw [i4]; exact d2, by rw [i4]; exact d3, fun e he => absurd he (Nat.not_lt_zero e)⟩ ?_ ?_
  · rintro j h5 hj ⟨F5, b2, b3, bL, b1, bm⟩ nx
    have P5 := pt_fr P F5
    have fc : ah_f h5 c 2 = nI n2 := by rw [fr_f F5 c (nc c hc)]; exact f2
    refine X7_append_23 ⟨pt_o (pt_fr Pc F5), ?_⟩
    rw [fc, nI_leI (by omega) (by omega)]
    refine ⟨fun w => by omega, fun _ => ⟨pt_o P5, c_add P5 b2 (by omega) _ _ _ _ (fun h6 F6 g0 g1 g2 => ⟨rfl, fun x5 e5 => ?_⟩)⟩⟩
    rw [nI_1] at e5
    subst e5
    refine nx h6 ⟨fr_trans F5 F6, by rw [g0, u1_s]; rfl, by rw [g0, u1_n _ _ (by decide)]; exact b3, fun i hi => ?_, fun e he => ?_, fun e he => ?_⟩
    · rw [g1]
      by_cases q : i = n1 + j
      · rw [q, u1_s]
      · rw [u1_n _ _ q]; exact bL i (by omega)
    · rw [g2, u4_n (by omega)]; exact b1 e he
    · rw [g2]
      by_cases q : e < 4 * j
      · rw [u4_n (by omega)]; exact bm e q
      · exact u4_p (P := fun v => v = m1) (by omega) (by omega) rfl rfl rfl rfl
  · rintro h5 ⟨F5, b2, b3, bL, b1, bm⟩
    have fc : ah_f h5 c 2 = nI n2 := by rw [fr_f F5 c (nc c hc)]; exact f2
    refine X7_append_23 ⟨pt_o (pt_fr Pc F5), ?_⟩
    rw [fc]
    refine ⟨fun _ => ?_, fun w => absurd ((nI_leI (by omega) (by omega)).mpr (Nat.le_refl n2)) w⟩
    refine lp (4 * n2) (fun j h' => fr [29, 30, 31] h h' ∧ ah_f h' 29 2 = nI (n1 + n2) ∧ ah_f h' 29 3 = nI (l1 + l2) ∧ (∀ i, i < n1 + n2 → ah_i h' 30 i = nI 4) ∧ (∀ e, e < 4 * n1 → ah_i h' 31 e = nI (A1 e)) ∧ (∀ e, e < j → ah_i h' 31 (4 * n1 + e) = nI (G e)) ∧ ∀ e, j ≤ e → e < 4 * n2 → ah_i h' 31 (4 * n1 + e) = m1) (fun j h' => ex_G mX7_append (d + 1) 49 [.ref 29, .ref c, .ref 18, .int (nI (4 * n1)), .int (nI j), .retAddr 0] [] h' bc bs Q) ⟨F5, b2, b3, bL, b1, fun e he => absurd he (Nat.not_lt_zero e), fun e _ he => bm e he⟩ ?_ ?_
    · rintro j h6 hj ⟨F6, c2, c3, cL, c1, cg, cm⟩ nx
      have P6 := pt_fr P F6
      have L6 := lk_fr L F6
      have fc6 : ah_f h6 c 2 = nI n2 := by rw [fr_f F6 c (nc c hc)]; exact f2
      have hm6 : ah_i h6 19 j = nI (m2 j) := by rw [fr_i F6 19 (by decide)]; exact hm j hj
      have hml := R2.lt hj
      have ne := R2.ne hj
      have e4 : (4 : Int32) * nI n2 = nI (4 * n2) := pk_mul 4 n2
      refine X7_append_49 ⟨pt_o (pt_fr Pc F6), ?_⟩
      rw [fc6, e4, nI_leI (by omega) (by omega)]
      refine ⟨fun w => by omega, fun _ => ⟨lk_o L6, 19, lk_r0 L6, ?_⟩⟩
      have l0 := lk_s0 L6 (nI j)
      refine ⟨l0.mpr ((ix_nI (by omega)).mpr (by omega)), fun x6 e6 => ⟨pt_o P6, 31, pt_r1 P6, ?_⟩⟩
      rw [nI_clamp (by omega), hm6] at e6
      subst e6
      rw [nI_leI (by omega) (by omega), nI_add, nI_add, nI_clamp (by omega), nI_clamp (by omega)]
      have put : ∀ h7, h7 = ah_si h6 31 (4 * n1 + j) (nI (G j)) → ∀ x14, x14 = nI j + 1 → ex_G mX7_append (d + 1) 49 [.ref 29, .ref c, .ref 18, .int (nI (4 * n1)), .int x14, .retAddr 0] [] h7 bc bs Q := by
        intro h7 e7 x14 e14
        rw [nI_1] at e14
        subst e14
        subst e7
        refine nx _ ⟨fr_si F6 (by decide), by rw [f_si]; exact c2, by rw [f_si]; exact c3, by rw [i_si_n _ _ _ _ _ (by decide)]; exact cL, fun e he => ?_, fun e he => ?_, fun e h1 h2 => ?_⟩
        · rw [i_si_s, u1_n _ _ (by omega)]; exact c1 e he
        · rw [i_si_s]
          by_cases q : e = j
          · rw [q, u1_s]
          · rw [u1_n _ _ (by omega)]; exact cg e (by omega)
        · rw [i_si_s, u1_n _ _ (by omega)]; exact cm e (by omega) h2
      refine ⟨fun w => ?_, fun w => ?_⟩
      · refine c_freeArc (u := ju n1 A1 G j) (n := n1 + n2) (lo := 0) (a := G j) P6 c2 (by omega) (fun e he => ?_) (fun x hx => ?_) ((J j hj).2 (by omega)) m1p ⟨_, rfl, ?_, fun h12 e12 => put h12 e12⟩
        · by_cases q : e < 4 * n1
          · exact Or.inr ⟨A1 e, hA e q, c1 e q⟩
          · obtain ⟨e', rfl⟩ : ∃ e', e = 4 * n1 + e' := ⟨e - 4 * n1, by omega⟩
            by_cases z : e' < j
            · exact Or.inr ⟨G e', (JG_lt R2 J (by omega)).1, cg e' z⟩
            · exact Or.inl (cm e' (by omega) (by omega))
        · constructor
          · rintro ⟨e, he, q⟩
            by_cases w : e < 4 * n1
            · have := hA e w
              have q' : nI (A1 e) = nI x := (c1 e w).symm.trans q
              rw [nI_eq (by omega) (by omega)] at q'
              exact Or.inl ⟨e, w, q'⟩
            · obtain ⟨e', rfl⟩ : ∃ e', e = 4 * n1 + e' := ⟨e - 4 * n1, by omega⟩
              by_cases z : e' < j
              · have := (JG_lt R2 J (e := e') (by omega)).1
                have q' : nI (G e') = nI x := (cg e' z).symm.trans q
                rw [nI_eq (by omega) (by omega)] at q'
                exact Or.inr ⟨e', z, q'⟩
              · have q' : m1 = nI x := (cm e' (by omega) (by omega)).symm.trans q
                exact absurd q' (m1_en (by omega))
          · rintro (⟨e, he, q⟩ | ⟨e', he, q⟩)
            · exact ⟨e, by omega, by rw [← q]; exact c1 e he⟩
            · exact ⟨4 * n1 + e', by omega, by rw [← q]; exact cg e' he⟩
        · exact (pt_t1 P6 _).mpr ((ix_nI (by omega)).mpr (by omega))
      · have gv : ah_i h6 31 (4 * n1 + m2 j) = nI (G j) := by rw [(J j hj).1 (by omega)]; exact cg _ (by omega)
        rw [gv]
        exact ⟨(pt_s1 P6 _).mpr ((ix_nI (by omega)).mpr (by omega)), (pt_t1 P6 _).mpr ((ix_nI (by omega)).mpr (by omega)), fun h16 e16 => put h16 e16⟩
    · rintro h6 ⟨F6, c2, c3, cL, c1, cg, cm⟩
      have fc6 : ah_f h6 c 2 = nI n2 := by rw [fr_f F6 c (nc c hc)]; exact f2
      have e4 : (4 : Int32) * nI n2 = nI (4 * n2) := pk_mul 4 n2
      refine X7_append_49 ⟨pt_o (pt_fr Pc F6), ?_⟩
      rw [fc6, e4]
      refine ⟨fun _ => k h6 F6 ⟨c2, c3, cL, fun e he => ?_⟩, fun w => absurd ((nI_leI (by omega) (by omega)).mpr (Nat.le_refl _)) w⟩
      by_cases q : e < 4 * n1
      · rw [AJ_1 q]; exact c1 e q
      · obtain ⟨e', rfl⟩ : ∃ e', e = 4 * n1 + e' := ⟨e - 4 * n1, by omega⟩
        rw [AJ_2]
        exact cg e' (by omega)
/-- the least arc that neither the spare slot nor the row 'first' has -/
theorem m_fresh {n l w : Nat} {A : Nat → Nat} {U : Nat → Prop} (K : sp h) (D : mD h 364 n l A) (h40 : n ≤ 40) (hA : ∀ e, e < 4 * n → A e < 100) (hF : ∀ k, k < 100 → ah_i h 179 k = m1 ∨ ∃ x, x < 100 ∧ ah_i h 179 k = nI x) (hU : ∀ x, x < 100 → (U x ↔ us n A x ∨ ∃ k, k < 100 ∧ ah_i h 179 k = nI x)) (fw : fa U 0 w) (k : ∀ h', fr [195] h h' → Q (some (.int (nI w))) h') : ex_S yX12_fresh mX12_fresh (d + 1) [.ref 168] h bc bs Q := by
  obtain ⟨-, w1, w2, w3⟩ := fw
  have nU : ∀ x, x < w → us n A x ∨ ∃ k, k < 100 ∧ ah_i h 179 k = nI x := fun x hx => (hU x (by omega)).mp (w3 x (by omega) hx)
  have nw : ¬ us n A w ∧ ∀ k, k < 100 → ah_i h 179 k ≠ nI w := ⟨fun z => w2 ((hU w w1).mpr (Or.inl z)), fun k hk z => w2 ((hU w w1).mpr (Or.inr ⟨k, hk, z⟩))⟩
  have nxt : ∀ lo, lo ≤ w → ∃ a, fa (us n A) lo a ∧ a ≤ w := by
    intro lo hlo
    obtain ⟨a, ⟨a1, a2, a3⟩, a4⟩ := pk_least (fun a => lo ≤ a ∧ a < 100 ∧ ¬ us n A a) ⟨w, hlo, w1, nw.1⟩
    refine ⟨a, ⟨a1, a2, a3, fun x x1 x2 => Classical.not_not.mp (fun z => a4 x x2 ⟨x1, by omega, z⟩)⟩, ?_⟩
    by_cases q : a ≤ w
    · exact q
    · exact absurd ⟨hlo, w1, nw.1⟩ (a4 w (by omega))
  obtain ⟨a0, fa0, l0⟩ := nxt 0 (by omega)
  refine X12_fresh_e (X12_fresh_0 ⟨o168 K, m_freeX K D h40 hA fa0 m1p (fun h1 F1 => ⟨_, rfl, ?_⟩)⟩)
  refine lpm (σ := AH × Nat) (s := (h1, a0)) (fun s => 100 - s.2) (fun s => fr [195] h s.1 ∧ s.2 ≤ w ∧ ¬ us n A s.2 ∧ s.2 < 100) (fun s => ex_G mX12_fresh (d + 1) 11 [.ref 168, .int (nI s.2), .int 1, .retAddr 0] [] s.1 bc bs Q) ⟨F1, l0, fa0.2.2.1, fa0.2.1⟩ ?_
  rintro ⟨h2, a⟩ ⟨F2, la, na, a100⟩ ih
  refine X12_fresh_11 ⟨fun z => absurd z (by decide), fun _ => ?_⟩
  refine lp (σ := AH × Nat × Nat) (s := (h2, a, 0)) 100 (fun j s => fr [195] h s.1 ∧ s.2.1 ≤ w ∧ ¬ us n A s.2.1 ∧ s.2.1 < 100 ∧ s.2.2 < 2 ∧ (s.2.2 = 1 → a < s.2.1) ∧ (s.2.2 = 0 → s.2.1 = a ∧ ∀ k, k < j → ah_i h 179 k ≠ nI a)) (fun j s => ex_G mX12_fresh (d + 1) 19 [.ref 168, .int (nI s.2.1), .int (nI s.2.2), .int (nI j)] [] s.1 bc bs Q) ⟨F2, la, na, a100, (show 0 < 2 by decide), (fun z => absurd z (show ¬ 0 = 1 by decide)), fun _ => ⟨rfl, fun k hk => absurd hk (Nat.not_lt_zero k)⟩⟩ ?_ ?_
  · rintro j ⟨h3, b, mo⟩ hj ⟨F3, lb, nb, b100, m2_, c1, c0⟩ nx
    have F3' : fr [195] h h3 := F3
    have K3 := sp_fr K F3'
    have D3 := mD_sc D F3' (by decide)
    have e3 : ah_i h3 179 j = ah_i h 179 j := by rw [fr_i F3' 179 (by decide)]
    have j100 : ¬ (100 : Int32) ≤ nI j := nI_ge (b := 100) (a := j) (by omega) (by omega)
    refine X12_fresh_19 ⟨fun z => absurd z j100, fun _ => ⟨o168 K3, 179, r168_13 K3, (s179 K3 _).mpr ((ix_nI (by omega)).mpr hj), ?_⟩⟩
    rw [nI_clamp (by omega), e3]
    refine ⟨fun ne x6 e6 => ?_, fun eq => ?_⟩
    · rw [nI_1] at e6
      subst e6
      refine nx (h3, b, mo) ⟨F3, lb, nb, b100, m2_, c1, fun z => ⟨(c0 z).1, fun k hk => ?_⟩⟩
      by_cases q : k = j
      · rw [q, ← (c0 z).1]; exact ne
      · exact (c0 z).2 k (by omega)
    · have bw : b < w := by
        by_cases q : b = w
        · rw [show (h3, b, mo).2.1 = b from rfl, q] at eq
          exact absurd eq (nw.2 j hj)
        · have : b ≤ w := lb
          omega
      obtain ⟨b', fb, lb'⟩ := nxt (b + 1) (by omega)
      refine m_freeX K3 D3 h40 hA fb (nI_1 b) (fun h4 F4 => ⟨_, rfl, fun x9 e9 => ?_⟩)
      rw [nI_1] at e9
      subst e9
      have ab : a ≤ b := by
        rcases (show mo = 0 ∨ mo = 1 by have : mo < 2 := m2_; omega) with z | z
        · have : b = a := (c0 z).1
          omega
        · have : a < b := c1 z
          omega
      have := fb.1
      exact nx (h4, b', 1) ⟨fr_trans F3' F4, lb', fb.2.2.1, fb.2.1, (show 1 < 2 by decide), fun _ => show a < b' by omega, fun z => absurd z (show ¬ 1 = 0 by decide)⟩
  · rintro ⟨h3, b, mo⟩ ⟨F3, lb, nb, b100, m2_, c1, c0⟩
    refine X12_fresh_19 ⟨fun _ => ?_, fun z => absurd (show (100 : Int32) ≤ nI 100 by decide) z⟩
    rcases (show mo = 0 ∨ mo = 1 by have : mo < 2 := m2_; omega) with z | z
    · subst z
      have ba : b = a := (c0 rfl).1
      subst ba
      have ew : b = w := by
        have : b ≤ w := lb
        by_cases q : b < w
        · rcases nU b q with y | ⟨k', hk, y⟩
          · exact absurd y nb
          · exact absurd y ((c0 rfl).2 k' hk)
        · omega
      refine X12_fresh_11 ⟨fun _ => ?_, fun z => absurd rfl z⟩
      subst ew
      exact k h3 F3
    · subst z
      have : a < b := c1 rfl
      exact ih (h3, b) ⟨F3, lb, nb, b100⟩ (show 100 - b < 100 - a by omega)
end JOINC
