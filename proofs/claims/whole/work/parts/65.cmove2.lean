/-! Moves on the class's side: twist, poke, smooth, change. -/
def knk (s n : Nat) (A : Nat → Nat) (x y z : Nat) : Nat → Nat := if s = 0 then apd n A x y y z else if s = 1 then apd n A x z y y else if s = 2 then apd n A y y z x else apd n A z y y x
def mvT (n l : Nat) (A m : Nat → Nat) (a b : Int32) (f n' l' : Nat) (A' : Nat → Nat) : Prop :=
  ((¬ ix b 4 ∨ (a = m1 ∧ l = 0) ∨ (a ≠ m1 ∧ ¬ ix a (4 * n))) ∧ f = 5) ∨
  (ix b 4 ∧ ((a = m1 ∧ 0 < l) ∨ (a ≠ m1 ∧ ix a (4 * n))) ∧ n = 40 ∧ f = 8) ∨
  (∃ s x y, s < 4 ∧ b = nI s ∧ a = m1 ∧ 0 < l ∧ n < 40 ∧ fa (us n A) 0 x ∧ fa (us n A) (x + 1) y ∧ f = 0 ∧ n' = n + 1 ∧ l' = l - 1 ∧ A' = knk s n A x y x) ∨
  (∃ s e y z, s < 4 ∧ b = nI s ∧ e < 4 * n ∧ a = nI e ∧ n < 40 ∧ fa (us n A) 0 y ∧ fa (us n A) (y + 1) z ∧ f = 0 ∧ n' = n + 1 ∧ l' = l ∧ A' = knk s n (u1 A (m e) z) (A e) y z)
def pok (s n : Nat) (A : Nat → Nat) (x y p q r t : Nat) : Nat → Nat := if s = 0 then apd (n + 1) (apd n A r p t x) y p r q else apd (n + 1) (apd n A x r p t) q y p r
def mvK (n l : Nat) (A m : Nat → Nat) (a b c : Int32) (f n' l' : Nat) (A' : Nat → Nat) : Prop :=
  ((¬ ix a (4 * n) ∨ ¬ ix b (4 * n) ∨ ¬ ix c 2 ∨ ∃ e g, e < 4 * n ∧ g < 4 * n ∧ a = nI e ∧ b = nI g ∧ (A e = A g ∨ ¬ ob (fun e => cn (m e) 3) e g)) ∧ f = 5) ∨
  (∃ e g, e < 4 * n ∧ g < 4 * n ∧ a = nI e ∧ b = nI g ∧ ix c 2 ∧ A e ≠ A g ∧ ob (fun e => cn (m e) 3) e g ∧ 38 < n ∧ f = 8) ∨
  ∃ e g s p q r t, e < 4 * n ∧ g < 4 * n ∧ a = nI e ∧ b = nI g ∧ s < 2 ∧ c = nI s ∧ A e ≠ A g ∧ ob (fun e => cn (m e) 3) e g ∧ n ≤ 38 ∧ fa (us n A) 0 p ∧ fa (us n A) (p + 1) q ∧ fa (us n A) (q + 1) r ∧ fa (us n A) (r + 1) t ∧ f = 0 ∧ n' = n + 2 ∧ l' = l ∧ A' = pok s n (u1 (u1 A (m e) q) (m g) t) (A e) (A g) p q r t
def mvM (n l : Nat) (A : Nat → Nat) (a b : Int32) (f n' l' : Nat) (A' : Nat → Nat) : Prop := ((¬ ix a n ∨ ¬ ix b 2) ∧ f = 5) ∨ ∃ c s A1 l1 y z, c < n ∧ a = nI c ∧ s < 2 ∧ b = nI s ∧ A1 = jn (A (4 * c)) (A (4 * c + (if s = 0 then 1 else 3))) A ∧ l1 = jl (A (4 * c)) (A (4 * c + (if s = 0 then 1 else 3))) l ∧ y = A1 (4 * c + (if s = 0 then 2 else 1)) ∧ z = A1 (4 * c + (if s = 0 then 3 else 2)) ∧ f = (if l' ≤ 9 then 0 else 8) ∧ n' = n - 1 ∧ l' = jl y z l1 ∧ A' = rmv c (jn y z A1)
def mvC (n l : Nat) (A : Nat → Nat) (k : Nat) (a : Int32) (f n' l' : Nat) (A' : Nat → Nat) : Prop := (¬ ix a n ∧ f = 5) ∨ ∃ c, c < n ∧ a = nI c ∧ f = 0 ∧ n' = n ∧ l' = l ∧ A' = rot c k A
/-- a move's cells -/
def mo_ (h : AH) (o : Nat) (kd : Nat) (a b c : Int32) : Prop := ah_o h o 5 ∧ ah_f h o 0 = nI kd ∧ ah_f h o 1 = a ∧ ah_f h o 2 = b ∧ ah_f h o 3 = c
theorem mo_fr {L : List Nat} {h h' : AH} {o kd : Nat} {a b c : Int32} (x : mo_ h o kd a b c) (F : fr L h h') (q : o ∉ L) : mo_ h' o kd a b c := by
  obtain ⟨x0, x1, x2, x3, x4⟩ := x
  refine ⟨?_, ?_, ?_, ?_, ?_⟩
  · unfold ah_o at x0 ⊢
    rw [F.1.1, F.1.2.1]
    exact x0
  · rw [fr_f F o q]; exact x1
  · rw [fr_f F o q]; exact x2
  · rw [fr_f F o q]; exact x3
  · rw [fr_f F o q]; exact x4
theorem ans5 : ans 5 = -15 := by decide
theorem ans8 : ans 8 = -18 := by decide
theorem ans0 : ans 0 = 1 := by decide
section CMOVE2
variable {h : AH} {d bc bs b lb n l o kd : Nat} {A m : Nat → Nat} {x1 x2 x3 : Int32} {Q : Option Value → AH → Prop}
theorem us_c (D : cD h b n l A) (hA : ∀ e, e < 4 * n → A e < 100) : ∀ x, x < 100 → ((∃ e, e < 4 * n ∧ ah_i h (b + 2) e = nI x) ↔ us n A x) := fun x hx => ⟨fun ⟨e, he, q⟩ => ⟨e, he, by
  have := hA e he
  rw [D.2.2.2 e he, nI_eq (by omega) (by omega)] at q
  exact q⟩, fun ⟨e, he, q⟩ => ⟨e, he, by rw [D.2.2.2 e he, q]⟩⟩
theorem c_freeD {lo a : Nat} {v : Int32} (P : pt h b) (D : cD h b n l A) (h40 : n ≤ 40) (hA : ∀ e, e < 4 * n → A e < 100) (fx : fa (us n A) lo a) (hv : v + 1 = nI lo) (k : Q (some (.int (nI a))) h) : ex_S yX7_freeArc mX7_freeArc d [.ref b, .int v] h bc bs Q := c_freeArc P D.1 h40 (fun e he => Or.inr ⟨A e, hA e he, D.2.2.2 e he⟩) (us_c D hA) fx hv k
theorem c_putD (D : cD h b n l A) (x v : Nat) : fr [b, b + 1, b + 2] h (ah_si h (b + 2) x (nI v)) ∧ cD (ah_si h (b + 2) x (nI v)) b n l (u1 A x v) := by
  obtain ⟨d0, d1, d2, d3⟩ := D
  have m2 : b + 2 ∈ [b, b + 1, b + 2] := (by simp only [List.mem_cons, List.not_mem_nil, or_false, true_or, or_true, not_true_eq_false] <;> omega)
  refine ⟨fr_si (fr_refl _ h) m2, ?_, ?_, ?_, ?_⟩
  · rw [f_si]; exact d0
  · rw [f_si]; exact d1
  · rw [i_si_n _ _ _ _ _ (by omega)]; exact d2
  · intro e he
    rw [i_si_s]
    by_cases q : e = x
    · rw [q, u1_s, u1_s]
    · rw [u1_n _ _ q, u1_n _ _ q]; exact d3 e he
theorem c_addKink {s x y z : Nat} (ho : ah_o h o 5) (fb : ah_f h o 2 = nI s) (hs : s < 4) (P : pt h b) (D : cD h b n l A) (h40 : n < 40) (k : ∀ h', fr [b, b + 1, b + 2] h h' → cD h' b (n + 1) l (knk s n A x y z) → Q none h') : ex_S yX5_addKink mX5_addKink (d + 1) [.ref o, .ref b, .int (nI x), .int (nI y), .int (nI z)] h bc bs Q := by
  refine X5_addKink_e (X5_addKink_0 ⟨ho, ?_⟩)
  rw [fb]
  rcases (show s = 0 ∨ s = 1 ∨ s = 2 ∨ s = 3 by omega) with e | e | e | e
  · subst e
    exact ⟨fun _ => ⟨pt_o P, c_addD P D h40 (fun h' F D' => ⟨rfl, k h' F D'⟩)⟩, fun z => absurd z (by decide), fun z => absurd z (by decide), fun z => absurd rfl z⟩
  · subst e
    exact ⟨fun z => absurd z (by decide), fun _ => ⟨pt_o P, c_addD P D h40 (fun h' F D' => ⟨rfl, k h' F D'⟩)⟩, fun z => absurd z (by decide), fun _ z => absurd rfl z⟩
  · subst e
    exact ⟨fun z => absurd z (by decide), fun z => absurd z (by decide), fun _ => ⟨pt_o P, c_addD P D h40 (fun h' F D' => ⟨rfl, k h' F D'⟩)⟩, fun _ _ z => absurd rfl z⟩
  · subst e
    exact ⟨fun z => absurd z (by decide), fun z => absurd z (by decide), fun z => absurd z (by decide), fun _ _ _ => ⟨pt_o P, c_addD P D h40 (fun h' F D' => ⟨rfl, k h' F D'⟩)⟩⟩
theorem ix4 {v : Int32} : ix v 4 ↔ ¬ v < 0 ∧ ¬ 3 < v := by
  unfold ix
  rw [Int32.lt_iff_toInt_lt, Int32.lt_iff_toInt_lt, show (0 : Int32).toInt = 0 by decide, show (3 : Int32).toInt = 3 by decide]
  omega
theorem ix2 {v : Int32} : ix v 2 ↔ ¬ v < 0 ∧ ¬ 1 < v := by
  unfold ix
  rw [Int32.lt_iff_toInt_lt, Int32.lt_iff_toInt_lt, show (0 : Int32).toInt = 0 by decide, show (1 : Int32).toInt = 1 by decide]
  omega
theorem mvT_no {a b : Int32} {f n' l' : Nat} {A' : Nat → Nat} (M : mvT n l A m a b f n' l' A') (q : ¬ ix b 4 ∨ (a = m1 ∧ l = 0) ∨ (a ≠ m1 ∧ ¬ ix a (4 * n))) (h40 : n ≤ 40) : f = 5 := by
  rcases M with ⟨-, e⟩ | ⟨c1, c2, -⟩ | ⟨s, x, y, hs, e1, e2, e3, -⟩ | ⟨s, e, y, z, hs, e1, e2, e3, -⟩
  · exact e
  · rcases q with q | ⟨q1, q2⟩ | ⟨q1, q2⟩
    · exact absurd c1 q
    · rcases c2 with ⟨c2, c3⟩ | ⟨c2, c3⟩
      · omega
      · exact absurd q1 c2
    · rcases c2 with ⟨c2, c3⟩ | ⟨c2, c3⟩
      · exact absurd c2 q1
      · exact absurd c3 q2
  · rcases q with q | ⟨q1, q2⟩ | ⟨q1, q2⟩
    · exact absurd (by rw [e1, ix_nI (by omega)]; exact hs) q
    · omega
    · exact absurd e2 q1
  · rcases q with q | ⟨q1, q2⟩ | ⟨q1, q2⟩
    · exact absurd (by rw [e1, ix_nI (by omega)]; exact hs) q
    · rw [e3] at q1; exact absurd q1 (m1_ne (by omega))
    · exact absurd (by rw [e3, ix_nI (by omega)]; exact e2) q2
theorem mvT_full {a b : Int32} {f n' l' : Nat} {A' : Nat → Nat} (M : mvT n l A m a b f n' l' A') (q : ¬ (¬ ix b 4 ∨ (a = m1 ∧ l = 0) ∨ (a ≠ m1 ∧ ¬ ix a (4 * n)))) (h : ¬ n < 40) : f = 8 := by
  rcases M with ⟨e, -⟩ | ⟨-, -, -, e⟩ | ⟨s, x, y, hs, e1, e2, e3, e4, -⟩ | ⟨s, e, y, z, hs, e1, e2, e3, e4, -⟩
  · exact absurd e q
  · exact e
  · exact absurd e4 h
  · exact absurd e4 h
theorem mvT_l {a b : Int32} {f n' l' : Nat} {A' : Nat → Nat} (M : mvT n l A m a b f n' l' A') (q : ¬ (¬ ix b 4 ∨ (a = m1 ∧ l = 0) ∨ (a ≠ m1 ∧ ¬ ix a (4 * n)))) (h : n < 40) (ha : a = m1) : ∃ s x y, s < 4 ∧ b = nI s ∧ 0 < l ∧ fa (us n A) 0 x ∧ fa (us n A) (x + 1) y ∧ f = 0 ∧ n' = n + 1 ∧ l' = l - 1 ∧ A' = knk s n A x y x := by
  rcases M with ⟨e, -⟩ | ⟨-, -, e, -⟩ | ⟨s, x, y, hs, e1, e2, e3, e4, e5⟩ | ⟨s, e, y, z, hs, e1, e2, e3, -⟩
  · exact absurd e q
  · omega
  · exact ⟨s, x, y, hs, e1, e3, e5⟩
  · rw [e3] at ha; exact absurd ha (m1_ne (by omega))
theorem mvT_e {a b : Int32} {f n' l' : Nat} {A' : Nat → Nat} (M : mvT n l A m a b f n' l' A') (q : ¬ (¬ ix b 4 ∨ (a = m1 ∧ l = 0) ∨ (a ≠ m1 ∧ ¬ ix a (4 * n)))) (h : n < 40) (ha : a ≠ m1) : ∃ s e y z, s < 4 ∧ b = nI s ∧ e < 4 * n ∧ a = nI e ∧ fa (us n A) 0 y ∧ fa (us n A) (y + 1) z ∧ f = 0 ∧ n' = n + 1 ∧ l' = l ∧ A' = knk s n (u1 A (m e) z) (A e) y z := by
  rcases M with ⟨e, -⟩ | ⟨-, -, e, -⟩ | ⟨s, x, y, hs, e1, e2, -⟩ | ⟨s, e, y, z, hs, e1, e2, e3, e4, e5⟩
  · exact absurd e q
  · omega
  · exact absurd e2 ha
  · exact ⟨s, e, y, z, hs, e1, e2, e3, e5⟩
theorem m1p : m1 + 1 = nI 0 := by decide
theorem c_twist {f n' l' : Nat} {A' : Nat → Nat} (X : DC h b lb n l A m) (O : mo_ h o kd x1 x2 x3) (ho : o ∉ [b, b + 1, b + 2]) (M : mvT n l A m x1 x2 f n' l' A') (k : ∀ h', fr [b, b + 1, b + 2] h h' → (f = 0 → cD h' b n' l' A') → Q (some (.int (ans f))) h') : ex_S yX5_twist mX5_twist (d + 2) [.ref o, .ref b, .ref lb] h bc bs Q := by
  obtain ⟨P, L, sep, D, hn, hm, h40, h9, R⟩ := X
  have hA := fun e he => R.A100 (e := e) he
  have O0 := O
  obtain ⟨p0, p1, p2, p3, p4⟩ := O
  have D0 := D
  obtain ⟨d0, d1, d2, d3⟩ := D
  have no : f = 5 → Q (some (.int (-15))) h := fun e => by
    have := k h (fr_refl _ h) (fun z => absurd z (by omega))
    rw [e, ans5] at this
    exact this
  have many : f = 8 → Q (some (.int (-18))) h := fun e => by
    have := k h (fr_refl _ h) (fun z => absurd z (by omega))
    rw [e, ans8] at this
    exact this
  have key : ∀ u : Nat, (u = 0 ↔ x1 ≠ m1) → u < 2 → ex_G mX5_twist (d + 2) 13 [.ref o, .ref b, .ref lb, .retAddr 0, .retAddr 0, .retAddr 0, .retAddr 0] [.int (nI u)] h bc bs Q := by
    intro u hu hu2
    have un : (nI u = 0) ↔ u = 0 := nI_eq (b := 0) (by omega) (by omega)
    have next : ¬ (¬ ix x2 4 ∨ (x1 = m1 ∧ l = 0) ∨ (x1 ≠ m1 ∧ ¬ ix x1 (4 * n))) → ex_G mX5_twist (d + 2) 58 [.ref o, .ref b, .ref lb, .int (nI u), .retAddr 0, .retAddr 0, .retAddr 0] [] h bc bs Q := by
      intro ok
      refine X5_twist_58 ⟨pt_o P, ?_⟩
      rw [d0]
      have l40 : nI n < 40 ↔ n < 40 := nI_ltI (b := 40) (by omega) (by omega)
      rw [l40, un]
      refine ⟨fun c40 => ⟨fun u0 => ?_, fun u0 => ?_⟩, fun c40 => many (mvT_full M ok c40)⟩
      · obtain ⟨s, e, y, z, hs, eb, he, ea, fy, fz, ef, e1, e2, e3⟩ := mvT_e M ok c40 (hu.mp u0)
        subst ea
        have hml := R.lt he
        refine ⟨b + 2, pt_r1 P, p0, ?_⟩
        rw [p2, pt_s1 P, ix_nI (by omega), nI_clamp (by omega), d3 e he]
        refine ⟨by omega, fun x7 e7 => ?_⟩
        subst e7
        refine c_freeD P D0 h40 hA fy m1p ⟨_, rfl, pt_o P, c_freeD P D0 h40 hA fz (nI_1 y) ⟨_, rfl, pt_o P, b + 2, pt_r1 P, lk_o L, lb + 1, lk_r0 L, p0, ?_⟩⟩
        rw [p2, lk_s0 L, ix_nI (by omega), nI_clamp (by omega), hm e he, pt_t1 P, ix_nI (by omega), nI_clamp (by omega)]
        refine ⟨by omega, by omega, fun h19 e19 => ?_⟩
        obtain ⟨F1, D1⟩ := c_putD D0 (m e) z
        rw [← e19] at F1 D1
        obtain ⟨q0, q1, q2, q3, q4⟩ := mo_fr O0 F1 ho
        refine c_addKink q0 (q3.trans eb) hs (pt_fr P F1) D1 c40 (fun h' F D' => ⟨rfl, ?_⟩)
        have := k h' (fr_trans F1 F) (fun _ => by rw [e1, e2, e3]; exact D')
        rw [ef, ans0] at this
        exact this
      · have ha : x1 = m1 := Classical.not_not.mp (fun w => u0 (hu.mpr w))
        obtain ⟨s, x, y, hs, eb, hl, fx, fy, ef, e1, e2, e3⟩ := mvT_l M ok c40 ha
        refine c_freeD P D0 h40 hA fx m1p ⟨_, rfl, pt_o P, fun h25 e25 => ?_⟩
        have F1 : fr [b, b + 1, b + 2] h (ah_sf h b 3 (nI (l - 1))) := fr_sf (fr_refl _ h) (by simp only [List.mem_cons, List.not_mem_nil, or_false, true_or, or_true, not_true_eq_false] <;> omega)
        have D1 : cD (ah_sf h b 3 (nI (l - 1))) b n (l - 1) A := by
          refine ⟨?_, ?_, ?_, ?_⟩
          · rw [f_sf_s, u1_n _ _ (by decide)]; exact d0
          · rw [f_sf_s, u1_s]
          · rw [i_sf]; exact d2
          · rw [i_sf]; exact d3
        have e25' : h25 = ah_sf h b 3 (nI (l - 1)) := by
          rw [e25, d1]
          have : nI l - 1 = nI (l - 1) := pk_sub (a := l) (b := 1) (by omega)
          rw [this]
        rw [← e25'] at F1 D1
        obtain ⟨q0, q1, q2, q3, q4⟩ := mo_fr O0 F1 ho
        refine c_freeD (pt_fr P F1) D1 h40 hA fy (nI_1 x) ⟨_, rfl, q0, c_addKink q0 (q3.trans eb) hs (pt_fr P F1) D1 c40 (fun h' F D' => ⟨rfl, ?_⟩)⟩
        have := k h' (fr_trans F1 F) (fun _ => by rw [e1, e2, e3]; exact D')
        rw [ef, ans0] at this
        exact this
    have l1 : (1 : Int32) ≤ nI l ↔ 1 ≤ l := nI_leI (a := 1) (by omega) (by omega)
    refine X5_twist_13 ⟨p0, ?_⟩
    rw [p3, p2, d1, un, l1]
    refine ⟨fun c => no (mvT_no M (Or.inl (fun z => (ix4.mp z).1 c)) h40), fun c0 => ⟨fun c => no (mvT_no M (Or.inl (fun z => (ix4.mp z).2 c)) h40), fun c3 => ⟨fun u0 => ⟨lk_o L, hasEC L _, fun w => next ?_, fun w => no (mvT_no M (Or.inr (Or.inr ⟨hu.mp u0, (hasE hn h40 _).mp w⟩)) h40)⟩, fun u0 => ⟨pt_o P, fun w => next ?_, fun w => no (mvT_no M (Or.inr (Or.inl ⟨Classical.not_not.mp (fun w => u0 (hu.mpr w)), by omega⟩)) h40)⟩⟩⟩⟩
    · rintro (q | ⟨q1, q2⟩ | ⟨q1, q2⟩)
      · exact q (ix4.mpr ⟨c0, c3⟩)
      · exact hu.mp u0 q1
      · exact w ((hasE hn h40 _).mpr q2)
    · rintro (q | ⟨q1, q2⟩ | ⟨q1, q2⟩)
      · exact q (ix4.mpr ⟨c0, c3⟩)
      · omega
      · exact u0 (hu.mpr q1)
  refine X5_twist_e (X5_twist_0 ⟨p0, ?_⟩)
  rw [p2]
  exact ⟨fun w => key 0 ⟨fun _ => w, fun _ => rfl⟩ (by decide), fun w => key 1 ⟨fun z => absurd z (by decide), fun z => absurd w z⟩ (by decide)⟩
def NK (n : Nat) (A m : Nat → Nat) (a b c : Int32) : Prop := ¬ ix a (4 * n) ∨ ¬ ix b (4 * n) ∨ ¬ ix c 2 ∨ ∃ e g, e < 4 * n ∧ g < 4 * n ∧ a = nI e ∧ b = nI g ∧ (A e = A g ∨ ¬ ob (fun e => cn (m e) 3) e g)
theorem mvK_no {a b c : Int32} {f n' l' : Nat} {A' : Nat → Nat} (M : mvK n l A m a b c f n' l' A') (q : NK n A m a b c) (h40 : n ≤ 40) : f = 5 := by
  have key : ∀ e g, e < 4 * n → g < 4 * n → a = nI e → b = nI g → ix c 2 → A e ≠ A g → ob (fun e => cn (m e) 3) e g → f = 5 := by
    intro e g he hg ea eb ic ne o
    rcases q with q | q | q | ⟨e', g', he', hg', ea', eb', q⟩
    · exact absurd (by rw [ea, ix_nI (by omega)]; exact he) q
    · exact absurd (by rw [eb, ix_nI (by omega)]; exact hg) q
    · exact absurd ic q
    · rw [ea, nI_eq (by omega) (by omega)] at ea'
      rw [eb, nI_eq (by omega) (by omega)] at eb'
      subst ea'
      subst eb'
      rcases q with q | q
      · exact absurd q ne
      · exact absurd o q
  rcases M with ⟨-, e⟩ | ⟨e, g, he, hg, ea, eb, ic, ne, o, -⟩ | ⟨e, g, s, p, q', r, t, he, hg, ea, eb, hs, ec, ne, o, -⟩
  · exact e
  · exact key e g he hg ea eb ic ne o
  · exact key e g he hg ea eb (by rw [ec, ix_nI (by omega)]; exact hs) ne o
theorem mvK_full {a b c : Int32} {f n' l' : Nat} {A' : Nat → Nat} (M : mvK n l A m a b c f n' l' A') (q : ¬ NK n A m a b c) (h : ¬ n ≤ 38) : f = 8 := by
  rcases M with ⟨e, -⟩ | ⟨e, g, he, hg, ea, eb, ic, ne, o, -, ef⟩ | ⟨e, g, s, p, q', r, t, he, hg, ea, eb, hs, ec, ne, o, e38, -⟩
  · exact absurd e q
  · exact ef
  · exact absurd e38 h
theorem mvK_y {a b c : Int32} {f n' l' : Nat} {A' : Nat → Nat} (M : mvK n l A m a b c f n' l' A') (q : ¬ NK n A m a b c) (h : n ≤ 38) : ∃ e g s p q r t, e < 4 * n ∧ g < 4 * n ∧ a = nI e ∧ b = nI g ∧ s < 2 ∧ c = nI s ∧ fa (us n A) 0 p ∧ fa (us n A) (p + 1) q ∧ fa (us n A) (q + 1) r ∧ fa (us n A) (r + 1) t ∧ f = 0 ∧ n' = n + 2 ∧ l' = l ∧ A' = pok s n (u1 (u1 A (m e) q) (m g) t) (A e) (A g) p q r t := by
  rcases M with ⟨e, -⟩ | ⟨e, g, he, hg, ea, eb, ic, ne, o, e38, -⟩ | ⟨e, g, s, p, q', r, t, he, hg, ea, eb, hs, ec, ne, o, e38, z⟩
  · exact absurd e q
  · omega
  · exact ⟨e, g, s, p, q', r, t, he, hg, ea, eb, hs, ec, z⟩
theorem rg_eq {ro rl : Nat → Int32} (G : RG n m ro rl) (R : Pr n A m) (h40 : n ≤ 40) {e g : Nat} (he : e < 4 * n) (hg : g < 4 * n) : ro e = ro g ↔ ob (fun e => cn (m e) 3) e g := by
  have P := R.pmt 3
  obtain ⟨y, my, oy, ly⟩ := mn_ex P he
  obtain ⟨z, mz, oz, lz⟩ := mn_ex P hg
  have c1 := ct_le (mn (fun e => cn (m e) 3)) y
  have c2 := ct_le (mn (fun e => cn (m e) 3)) z
  rw [G.1 e y he (by omega) my oy, G.1 g z hg (by omega) mz oz, nI_eq (by omega) (by omega)]
  constructor
  · intro q
    have := ct_inj my mz q
    subst this
    exact ob_trans (ob_symm P (by omega) oy) oz
  · intro q
    have : ob (fun e => cn (m e) 3) y z := ob_trans oy (ob_trans q (ob_symm P (by omega) oz))
    rw [mn_u P (by omega) (by omega) my mz this]
theorem c_poke {f n' l' : Nat} {A' : Nat → Nat} (X : DC h b lb n l A m) (G : RG n m (ah_i h (lb + 2)) (ah_i h (lb + 3))) (O : mo_ h o kd x1 x2 x3) (ho : o ∉ [b, b + 1, b + 2]) (M : mvK n l A m x1 x2 x3 f n' l' A') (k : ∀ h', fr [b, b + 1, b + 2] h h' → (f = 0 → cD h' b n' l' A') → Q (some (.int (ans f))) h') : ex_S yX5_poke mX5_poke (d + 1) [.ref o, .ref b, .ref lb] h bc bs Q := by
  obtain ⟨P, L, sep, D, hn, hm, h40, h9, R⟩ := X
  have hA := fun e he => R.A100 (e := e) he
  have O0 := O
  obtain ⟨p0, p1, p2, p3, p4⟩ := O
  have D0 := D
  obtain ⟨d0, d1, d2, d3⟩ := D
  have no : NK n A m x1 x2 x3 → Q (some (.int (-15))) h := fun q => by
    have e := mvK_no M q h40
    have := k h (fr_refl _ h) (fun z => absurd z (by omega))
    rw [e, ans5] at this
    exact this
  refine X5_poke_e (X5_poke_0 ⟨p0, lk_o L, ?_⟩)
  rw [p2, p3, p4, d0]
  refine ⟨hasEC L _, fun w => no (Or.inl ((hasE hn h40 _).mp w)), fun w1 => ⟨hasEC L _, fun w => no (Or.inr (Or.inl ((hasE hn h40 _).mp w))), fun w2 => ⟨fun c => no (Or.inr (Or.inr (Or.inl (fun z => (ix2.mp z).1 c)))), fun c0 => ⟨fun c => no (Or.inr (Or.inr (Or.inl (fun z => (ix2.mp z).2 c)))), fun c1 => ?_⟩⟩⟩⟩
  have i1 : ix x1 (4 * n) := Classical.not_not.mp (fun w => w1 ((hasE hn h40 _).mpr w))
  have i2 : ix x2 (4 * n) := Classical.not_not.mp (fun w => w2 ((hasE hn h40 _).mpr w))
  obtain ⟨e, he, ea⟩ := ix_of i1 (by omega)
  obtain ⟨g, hg, eb⟩ := ix_of i2 (by omega)
  have he' := R.lt he
  have hg' := R.lt hg
  have r1 := rg_eq G R h40 he hg
  have qe := hA e he
  have qg := hA g hg
  refine ⟨lb + 2, lk_r1 L, ?_⟩
  rw [ea, eb, lk_s1 L, lk_s1 L, ix_nI (by omega), ix_nI (by omega), nI_clamp (by omega), nI_clamp (by omega), r1]
  refine ⟨by omega, by omega, fun w => no (Or.inr (Or.inr (Or.inr ⟨e, g, he, hg, ea, eb, Or.inr w⟩))), fun ow => ⟨pt_o P, b + 2, pt_r1 P, ?_⟩⟩
  rw [pt_s1 P, pt_s1 P, ix_nI (by omega), ix_nI (by omega), d3 e he, d3 g hg, nI_eq (by omega) (by omega)]
  refine ⟨by omega, by omega, fun ne => ?_, fun w => no (Or.inr (Or.inr (Or.inr ⟨e, g, he, hg, ea, eb, Or.inl w⟩)))⟩
  have ok : ¬ NK n A m x1 x2 x3 := by
    rintro (q | q | q | ⟨e', g', he2, hg2, ea', eb', q⟩)
    · exact q i1
    · exact q i2
    · exact q (ix2.mpr ⟨c0, c1⟩)
    · rw [ea, nI_eq (by omega) (by omega)] at ea'
      rw [eb, nI_eq (by omega) (by omega)] at eb'
      subst ea'
      subst eb'
      rcases q with q | q
      · exact ne q
      · exact q ow
  have l38 : nI n + 2 ≤ 40 ↔ n ≤ 38 := by
    have : nI n + 2 = nI (n + 2) := nI_add n 2
    rw [this]
    refine (nI_leI (b := 40) (by omega) (by omega)).trans ?_
    omega
  rw [l38]
  refine ⟨fun c38 => ?_, fun c38 => ?_⟩
  · obtain ⟨e', g', s, p, q, r, t, he2, hg2, ea', eb', hs, ec, fp_, fq, fr_, ft, ef, e1, e2, e3⟩ := mvK_y M ok c38
    rw [ea, nI_eq (by omega) (by omega)] at ea'
    rw [eb, nI_eq (by omega) (by omega)] at eb'
    subst ea'
    subst eb'
    intro x19 e19 x20 e20
    subst e19
    subst e20
    refine c_freeD P D0 h40 hA fp_ m1p ⟨_, rfl, pt_o P, c_freeD P D0 h40 hA fq (nI_1 p) ⟨_, rfl, pt_o P, c_freeD P D0 h40 hA fr_ (nI_1 q) ⟨_, rfl, pt_o P, c_freeD P D0 h40 hA ft (nI_1 r) ⟨_, rfl, pt_o P, b + 2, pt_r1 P, lk_o L, lb + 1, lk_r0 L, p0, ?_⟩⟩⟩⟩
    rw [p2, ea, lk_s0 L, ix_nI (by omega), nI_clamp (by omega), hm e he, pt_t1 P, ix_nI (by omega), nI_clamp (by omega)]
    refine ⟨by omega, by omega, fun h38 e38 => ?_⟩
    obtain ⟨F1, D1⟩ := c_putD D0 (m e) q
    rw [← e38] at F1 D1
    obtain ⟨q0, q1, q2, q3, q4⟩ := mo_fr O0 F1 ho
    have L1 := lk_fr L F1
    have P1 := pt_fr P F1
    have hm1 : ah_i h38 (lb + 1) g = nI (m g) := by rw [fr_i F1 (lb + 1) (by simp only [List.mem_cons, List.not_mem_nil, or_false, true_or, or_true, not_true_eq_false] <;> omega)]; exact hm g hg
    rw [q3, eb, lk_s0 L1, ix_nI (by omega), nI_clamp (by omega), hm1, pt_t1 P1, ix_nI (by omega), nI_clamp (by omega)]
    refine ⟨by omega, by omega, fun h41 e41 => ?_⟩
    obtain ⟨F2, D2⟩ := c_putD D1 (m g) t
    rw [← e41] at F2 D2
    obtain ⟨r0, r1, r2, r3, r4⟩ := mo_fr (mo_fr O0 F1 ho) F2 ho
    have P2 := pt_fr P1 F2
    rw [r4, ec]
    have fin : ∀ h', fr [b, b + 1, b + 2] h h' → cD h' b (n + 2) l A' → Q (some (.int 1)) h' := fun h' F D' => by
      have := k h' F (fun _ => by rw [e1, e2]; exact D')
      rw [ef, ans0] at this
      exact this
    rcases (show s = 0 ∨ s = 1 by omega) with es | es
    · subst es
      refine ⟨fun z => absurd rfl z, fun _ => c_addD P2 D2 (by omega) (fun h3 F3 D3 => ⟨rfl, pt_o (pt_fr P2 F3), c_addD (pt_fr P2 F3) D3 (by omega) (fun h4 F4 D4 => ⟨rfl, fin h4 (fr_trans (fr_trans F1 F2) (fr_trans F3 F4)) ?_⟩)⟩)⟩
      rw [e3]
      exact D4
    · subst es
      refine ⟨fun _ => c_addD P2 D2 (by omega) (fun h3 F3 D3 => ⟨rfl, pt_o (pt_fr P2 F3), c_addD (pt_fr P2 F3) D3 (by omega) (fun h4 F4 D4 => ⟨rfl, fin h4 (fr_trans (fr_trans F1 F2) (fr_trans F3 F4)) ?_⟩)⟩), fun z => absurd z (by decide)⟩
      rw [e3]
      exact D4
  · have e := mvK_full M ok c38
    have := k h (fr_refl _ h) (fun z => absurd z (by omega))
    rw [e, ans8] at this
    exact this
theorem c_smooth {f n' l' : Nat} {A' : Nat → Nat} (X : DC h b lb n l A m) (O : mo_ h o kd x1 x2 x3) (ho : o ∉ [b, b + 1, b + 2]) (M : mvM n l A x1 x2 f n' l' A') (k : ∀ h', fr [b, b + 1, b + 2] h h' → (f = 0 → cD h' b n' l' A') → Q (some (.int (ans f))) h') : ex_S yX5_smooth mX5_smooth (d + 3) [.ref o, .ref b] h bc bs Q := by
  obtain ⟨P, L, sep, D, hn, hm, h40, h9, R⟩ := X
  have hA := fun e he => R.A100 (e := e) he
  have O0 := O
  obtain ⟨p0, p1, p2, p3, p4⟩ := O
  have D0 := D
  obtain ⟨d0, d1, d2, d3⟩ := D
  have no : (¬ ix x1 n ∨ ¬ ix x2 2) → Q (some (.int (-15))) h := fun q => by
    have e : f = 5 := by
      rcases M with ⟨-, e⟩ | ⟨c, s, A1, l1, y, z, hc, ea, hs, eb, -⟩
      · exact e
      · rcases q with q | q
        · exact absurd (by rw [ea, ix_nI (by omega)]; exact hc) q
        · exact absurd (by rw [eb, ix_nI (by omega)]; exact hs) q
    have := k h (fr_refl _ h) (fun z => absurd z (by omega))
    rw [e, ans5] at this
    exact this
  have hv : X7_hasCrossing_V b x1 h = 0 ↔ ¬ ix x1 n := hasC d0 h40 x1
  refine X5_smooth_e (X5_smooth_0 ⟨p0, pt_o P, ?_⟩)
  rw [p2, p3]
  have l1' : x2 ≤ 1 ↔ ¬ 1 < x2 := by rw [Int32.le_iff_toInt_le, Int32.lt_iff_toInt_lt]; omega
  rw [l1']
  refine ⟨⟨fun _ => trivial, fun _ => ⟨pt_o P, trivial⟩⟩, fun w => no (Or.inl (hv.mp w)), fun w => ⟨fun c => no (Or.inr (fun z => (ix2.mp z).1 c)), fun c0 => ⟨fun c1 x7 e7 => ?_, fun c => no (Or.inr (fun z => c (ix2.mp z).2))⟩⟩⟩
  rcases M with ⟨q, -⟩ | ⟨c, s, A1, l1, y, z, hc, ea, hs, eb, eA, el, ey, ez, ef, e1, e2, e3⟩
  · rcases q with q | q
    · exact absurd (hv.mpr q) w
    · exact absurd (ix2.mpr ⟨c0, c1⟩) q
  · have e7' : x7 = nI (4 * c) := by rw [e7, ea]; exact pk_mul 4 c
    subst e7'
    have jb := jl_le y z l1
    have fin : ∀ h', fr [b, b + 1, b + 2] h h' → cD h' b n l' (jn y z A1) → ex_S yX7_remove mX7_remove (d + 2) [.ref b, .int x1] h' 0 0 (fun r h19 => r = none ∧ X5_loopsAnswer_C b h19 ∧ Q (some (.int (X5_loopsAnswer_V b h19))) h19) := by
      intro h' F D'
      rw [ea]
      refine c_removeD (pt_fr P F) D' h40 hc (fun h8 F8 D8 => ⟨rfl, ⟨pt_o (pt_fr (pt_fr P F) F8), trivial⟩, ?_⟩)
      have jb2 : l1 ≤ l + 1 := by rw [el]; exact (jl_le _ _ l).2
      have fin := k h8 (fr_trans F F8) (fun _ => by rw [e1, e3]; exact D8)
      rw [loopsV (pt_fr (pt_fr P F) F8) D8.2.1 (by omega), ← ef]
      exact fin
    have t1 : nI (4 * c) + 1 = nI (4 * c + 1) := nI_add (4 * c) 1
    have t2 : nI (4 * c) + 2 = nI (4 * c + 2) := nI_add (4 * c) 2
    have t3 : nI (4 * c) + 3 = nI (4 * c + 3) := nI_add (4 * c) 3
    have a0 := hA (4 * c) (by omega)
    have a1 := hA (4 * c + 1) (by omega)
    have a3 := hA (4 * c + 3) (by omega)
    rw [t1, t2, t3, eb]
    rcases (show s = 0 ∨ s = 1 by omega) with es | es
    · subst es
      simp only [if_pos] at eA el ey ez
      refine ⟨fun z => absurd rfl z, fun _ => ⟨b + 2, pt_r1 P, ?_⟩⟩
      rw [pt_s1 P, pt_s1 P, ix_nI (by omega), ix_nI (by omega), nI_clamp (by omega), nI_clamp (by omega), d3 _ (by omega), d3 _ (by omega)]
      refine ⟨by omega, by omega, c_fuseD P D0 h40 hA a0 a1 (fun h7 F7 D7 => ⟨rfl, pt_o (pt_fr P F7), b + 2, pt_r1 (pt_fr P F7), ?_⟩)⟩
      rw [← eA, ← el] at D7
      have hA1 : ∀ e, e < 4 * n → A1 e < 100 := by rw [eA]; exact jn_lt hA a0
      rw [pt_s1 (pt_fr P F7), pt_s1 (pt_fr P F7), ix_nI (by omega), ix_nI (by omega), nI_clamp (by omega), nI_clamp (by omega), D7.2.2.2 _ (by omega), D7.2.2.2 _ (by omega), ← ey, ← ez]
      refine ⟨by omega, by omega, c_fuseD (pt_fr P F7) D7 h40 hA1 (by rw [ey]; exact hA1 _ (by omega)) (by rw [ez]; exact hA1 _ (by omega)) (fun h8 F8 D8 => ⟨rfl, ?_⟩)⟩
      obtain ⟨q0, q1, q2, q3, q4⟩ := mo_fr (mo_fr O0 F7 ho) F8 ho
      rw [q2]
      exact ⟨q0, pt_o (pt_fr (pt_fr P F7) F8), fin h8 (fr_trans F7 F8) (by rw [e2]; exact D8)⟩
    · subst es
      simp only [if_neg (show ¬ 1 = 0 by decide)] at eA el ey ez
      refine ⟨fun _ => ⟨b + 2, pt_r1 P, ?_⟩, fun z => absurd z (by decide)⟩
      rw [pt_s1 P, pt_s1 P, ix_nI (by omega), ix_nI (by omega), nI_clamp (by omega), nI_clamp (by omega), d3 _ (by omega), d3 _ (by omega)]
      refine ⟨by omega, by omega, c_fuseD P D0 h40 hA a0 a3 (fun h7 F7 D7 => ⟨rfl, pt_o (pt_fr P F7), b + 2, pt_r1 (pt_fr P F7), ?_⟩)⟩
      rw [← eA, ← el] at D7
      have hA1 : ∀ e, e < 4 * n → A1 e < 100 := by rw [eA]; exact jn_lt hA a0
      rw [pt_s1 (pt_fr P F7), pt_s1 (pt_fr P F7), ix_nI (by omega), ix_nI (by omega), nI_clamp (by omega), nI_clamp (by omega), D7.2.2.2 _ (by omega), D7.2.2.2 _ (by omega), ← ey, ← ez]
      refine ⟨by omega, by omega, c_fuseD (pt_fr P F7) D7 h40 hA1 (by rw [ey]; exact hA1 _ (by omega)) (by rw [ez]; exact hA1 _ (by omega)) (fun h8 F8 D8 => ⟨rfl, ?_⟩)⟩
      obtain ⟨q0, q1, q2, q3, q4⟩ := mo_fr (mo_fr O0 F7 ho) F8 ho
      rw [q2]
      exact ⟨q0, pt_o (pt_fr (pt_fr P F7) F8), fin h8 (fr_trans F7 F8) (by rw [e2]; exact D8)⟩
theorem c_change {f n' l' kk : Nat} {A' : Nat → Nat} (X : DC h b lb n l A m) (O : mo_ h o kd x1 x2 x3) (hk : kk < 4) (M : mvC n l A kk x1 f n' l' A') (k : ∀ h', fr [b, b + 1, b + 2] h h' → (f = 0 → cD h' b n' l' A') → Q (some (.int (ans f))) h') : ex_S yX5_change mX5_change (d + 2) [.ref o, .ref b, .int (nI kk)] h bc bs Q := by
  obtain ⟨P, L, sep, D, hn, hm, h40, h9, R⟩ := X
  obtain ⟨p0, p1, p2, p3, p4⟩ := O
  have hv : X7_hasCrossing_V b x1 h = 0 ↔ ¬ ix x1 n := hasC D.1 h40 x1
  refine X5_change_e (X5_change_0 ⟨p0, pt_o P, ?_⟩)
  rw [p2]
  refine ⟨⟨fun _ => trivial, fun _ => ⟨pt_o P, trivial⟩⟩, ?_⟩
  rcases M with ⟨q, e⟩ | ⟨c, hc, ea, ef, e1, e2, e3⟩
  · refine ⟨fun z => absurd (hv.mpr q) z, fun _ => ?_⟩
    have := k h (fr_refl _ h) (fun z => absurd z (by omega))
    rw [e, ans5] at this
    exact this
  · have i1 : ix x1 n := by rw [ea, ix_nI (by omega)]; exact hc
    refine ⟨fun _ => ?_, fun z => absurd i1 (hv.mp z)⟩
    rw [ea]
    refine ⟨c_rotC P (by omega) hk, fun h6 e6 => ?_⟩
    obtain ⟨F, D'⟩ := c_rotH P D hc h40 hk
    rw [← e6] at F D'
    have := k h6 F (fun _ => by rw [e1, e2, e3]; exact D')
    rw [ef, ans0] at this
    exact this
end CMOVE2
