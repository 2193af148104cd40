/-! The constructors (written by wip/geninit.py). -/
/-- references in the order in which they are set -/
def RD : List (Nat × Nat × Nat) := [(0, 0, 1), (0, 1, 2), (3, 0, 4), (0, 2, 3), (5, 0, 6), (0, 3, 5), (7, 0, 8), (7, 1, 9), (7, 2, 10), (7, 3, 11), (7, 4, 12), (7, 5, 13), (7, 6, 14), (7, 7, 15), (7, 8, 16), (7, 9, 17), (0, 4, 7), (18, 0, 19), (18, 1, 20), (18, 2, 21), (18, 3, 22), (18, 4, 23), (18, 5, 24), (18, 6, 25), (18, 7, 26), (18, 8, 27), (18, 9, 28), (0, 5, 18), (29, 0, 30), (29, 1, 31), (0, 6, 29), (32, 0, 33), (32, 1, 34), (0, 7, 32), (73, 0, 74), (73, 1, 75), (0, 8, 73), (76, 0, 77), (76, 1, 78), (0, 9, 76), (79, 0, 80), (79, 1, 81), (0, 10, 79), (82, 0, 83), (82, 1, 84), (0, 11, 82), (125, 0, 126), (127, 0, 128), (127, 1, 129), (125, 1, 127), (130, 0, 131), (130, 1, 132), (130, 2, 133), (125, 2, 130), (134, 0, 135), (125, 3, 134), (136, 0, 137), (136, 1, 138), (125, 4, 136), (139, 0, 140), (139, 1, 141), (125, 5, 139), (142, 0, 143), (142, 1, 144), (142, 2, 145), (142, 3, 146), (142, 4, 147), (142, 5, 148), (142, 6, 149), (142, 7, 150), (142, 8, 151), (142, 9, 152), (125, 6, 142), (153, 0, 154), (153, 1, 155), (153, 2, 156), (153, 3, 157), (153, 4, 158), (153, 5, 159), (153, 6, 160), (153, 7, 161), (153, 8, 162), (153, 9, 163), (125, 7, 153), (0, 12, 125), (164, 0, 165), (164, 1, 166), (0, 13, 164), (0, 14, 167), (168, 1, 169), (168, 2, 170), (168, 3, 171), (168, 4, 172), (168, 5, 173), (168, 7, 174), (168, 8, 175), (168, 10, 176), (168, 11, 177), (168, 12, 178), (168, 13, 179), (168, 14, 180), (168, 16, 181), (168, 17, 182), (168, 18, 183), (168, 19, 184), (168, 20, 185), (168, 21, 186), (168, 24, 187), (168, 25, 188), (168, 26, 189), (168, 27, 190), (168, 28, 191), (168, 30, 192), (168, 31, 193), (168, 32, 194), (168, 33, 195), (168, 34, 196), (168, 36, 197), (168, 37, 198), (168, 39, 199), (168, 40, 200), (168, 41, 201), (168, 42, 202), (168, 43, 203), (168, 44, 204), (168, 45, 205), (168, 46, 206), (168, 47, 207), (168, 48, 208), (168, 55, 209), (168, 56, 210), (168, 57, 211), (168, 58, 212), (168, 61, 213), (168, 63, 214), (168, 64, 215)]
/-- the first n cells are made, the first j references set; p: how far with the rest -/
def INI (n j p : Nat) (h z : AH) : Prop := ah_n h = n ∧ (∀ a, a < n → ah_k h a = kd a) ∧ (∀ i t, i < j → RD[i]? = some t → ah_r h t.1 t.2.1 = some t.2.2) ∧ (∀ a k, a < 10000000 → ¬ (a = 0 ∧ k = 17) → ¬ (a = 168 ∧ (k = 9 ∨ k = 15)) → ah_f h a k = 0) ∧ (∀ a k, a < 10000000 → a ≠ 31 → a ≠ 138 → a ≠ 141 → ah_i h a k = 0) ∧ (∀ a k, a < 10000000 → ah_l h a k = 0) ∧ (∀ a k, a < 10000000 → a ≠ 34 → a ≠ 84 → ah_q h a k = none) ∧ (∀ a, 10000000 ≤ a → ah_k h a = ah_k z a ∧ ah_i h a = ah_i z a) ∧ (1 ≤ p → ∀ i, i < 38 → ah_q h 34 i = some (35 + i)) ∧ (2 ≤ p → ∀ i, i < 40 → ah_q h 84 i = some (85 + i)) ∧ (3 ≤ p → ah_f h 0 17 = m1) ∧ (4 ≤ p → ah_f h 168 15 = m1)
section INIT
variable {d n j p : Nat} {h h' z : AH} {Q : Option Value → AH → Prop}
theorem I_o {a c : Nat} (I : INI n j p h z) (ha : a < n) (e : kd a = (20 + c, 0)) : ah_o h a c := ⟨by rw [I.1]; exact ha, by rw [I.2.1 a ha, e]⟩
theorem I_x {a t m : Nat} (I : INI n j p h z) (ha : a < n) (e : kd a = (t, m)) : ah_x h a t m := ⟨by rw [I.1]; exact ha, by rw [I.2.1 a ha, e]⟩
theorem I_r {a k b : Nat} (I : INI n j p h z) (i : Nat) (e : RD[i]? = some (a, k, b)) (hi : i < j) : ah_r h a k = some b := I.2.2.1 i _ hi e
theorem RD_all {f : Nat × Nat × Nat → Bool} {i : Nat} {t : Nat × Nat × Nat} (x : (RD.take j).all f = true) (hi : i < j) (e : RD[i]? = some t) : f t = true := by
  have m : (RD.take j)[i]? = some t := by
    rw [List.getElem?_take, if_pos hi]
    exact e
  exact List.all_eq_true.mp x t (List.mem_of_getElem? m)
theorem I_na {t m : Nat} (I : INI n j p h z) (e : kd n = (t, m)) (e2 : h' = ah_na h t m) (hx : n < 10000000 ∧ n ≠ 34 ∧ n ≠ 84 := by decide) : INI (n + 1) j p h' z := by
  obtain ⟨i1, i2, i3, i4, i5, i6, i7, i8, i9, i10, i11, i12⟩ := I
  have q : ∀ a, a ≠ n → eqc h h' a := fun a ha => by rw [e2]; exact eqc_na h t m (by rw [i1]; exact ha)
  have f : ah_f h' = ah_f h := by rw [e2]; rfl
  have r : ah_r h' = ah_r h := by rw [e2]; rfl
  have kn : ah_k h' n = (t, m) := by
    have := k_na_s h t m
    rw [i1] at this
    rw [e2]
    exact this
  have in_ : ∀ k, ah_i h' n k = 0 := fun k => by rw [e2, ← i1]; exact congrFun (u1_s _ _ _) k
  have ln : ∀ k, ah_l h' n k = 0 := fun k => by rw [e2, ← i1]; exact congrFun (u1_s _ _ _) k
  have qn : ∀ k, ah_q h' n k = none := fun k => by rw [e2, ← i1]; exact congrFun (u1_s _ _ _) k
  refine ⟨by rw [e2, n_na, i1], fun a ha => ?_, by rw [r]; exact i3, by rw [f]; exact i4, fun a k a1 a2 a3 a4 => ?_, fun a k a1 => ?_, fun a k a1 a2 a3 => ?_, fun a ha => ?_, fun z => ?_, fun z => ?_, by rw [f]; exact i11, by rw [f]; exact i12⟩
  · by_cases w : a = n
    · rw [w, kn, e]
    · rw [(q a w).1]; exact i2 a (by omega)
  · by_cases w : a = n
    · rw [w]; exact in_ k
    · rw [(q a w).2.2.1]; exact i5 a k a1 a2 a3 a4
  · by_cases w : a = n
    · rw [w]; exact ln k
    · rw [(q a w).2.2.2.1]; exact i6 a k a1
  · by_cases w : a = n
    · rw [w]; exact qn k
    · rw [(q a w).2.2.2.2.2]; exact i7 a k a1 a2 a3
  · have w := q a (by omega)
    exact ⟨w.1.trans (i8 a ha).1, w.2.2.1.trans (i8 a ha).2⟩
  · rw [(q 34 (by omega)).2.2.2.2.2]; exact i9 z
  · rw [(q 84 (by omega)).2.2.2.2.2]; exact i10 z
theorem I_no {c : Nat} (I : INI n j p h z) (e : kd n = (20 + c, 0)) (nr : (RD.take j).all (fun t => t.1 != n) = true) (e2 : h' = ah_no h c) (hx : n < 10000000 ∧ (3 ≤ p → n ≠ 0) ∧ (4 ≤ p → n ≠ 168) := by decide) : INI (n + 1) j p h' z := by
  obtain ⟨i1, i2, i3, i4, i5, i6, i7, i8, i9, i10, i11, i12⟩ := I
  have q : ∀ a, a ≠ n → eqc h h' a := fun a ha => by rw [e2]; exact eqc_no h c (by rw [i1]; exact ha)
  have ii : ah_i h' = ah_i h := by rw [e2]; rfl
  have ll : ah_l h' = ah_l h := by rw [e2]; rfl
  have qq : ah_q h' = ah_q h := by rw [e2]; rfl
  have kn : ah_k h' n = (20 + c, 0) := by
    have := k_no_s h c
    rw [i1] at this
    rw [e2]
    exact this
  have fn : ∀ k, ah_f h' n k = 0 := fun k => by rw [e2, ← i1]; exact congrFun (f_no_s h c) k
  refine ⟨by rw [e2, n_no, i1], fun a ha => ?_, fun i t hi et => ?_, fun a k a1 a2 a3 => ?_, by rw [ii]; exact i5, by rw [ll]; exact i6, by rw [qq]; exact i7, fun a ha => ?_, by rw [qq]; exact i9, by rw [qq]; exact i10, fun w => ?_, fun w => ?_⟩
  · by_cases w : a = n
    · rw [w, kn, e]
    · rw [(q a w).1]; exact i2 a (by omega)
  · have w := RD_all nr hi et
    have w' : t.1 ≠ n := by simpa using w
    rw [(q t.1 w').2.2.2.2.1]
    exact i3 i t hi et
  · by_cases w : a = n
    · rw [w]; exact fn k
    · rw [(q a w).2.1]; exact i4 a k a1 a2 a3
  · have w := q a (by omega)
    exact ⟨w.1.trans (i8 a ha).1, w.2.2.1.trans (i8 a ha).2⟩
  · have := hx.2.1 w
    rw [(q 0 (by omega)).2.1]; exact i11 w
  · have := hx.2.2 w
    rw [(q 168 (by omega)).2.1]; exact i12 w
theorem I_sr {a k b : Nat} (I : INI n j p h z) (e : RD[j]? = some (a, k, b)) (nr : (RD.take j).all (fun t => !(t.1 == a && t.2.1 == k)) = true) (e2 : h' = ah_sr h a k (some b)) : INI n (j + 1) p h' z := by
  obtain ⟨i1, i2, i3, i4, i5, i6, i7, i8, i9, i10, i11, i12⟩ := I
  have kk : ah_k h' = ah_k h := by rw [e2]; rfl
  have ff : ah_f h' = ah_f h := by rw [e2]; rfl
  have ii : ah_i h' = ah_i h := by rw [e2]; rfl
  have ll : ah_l h' = ah_l h := by rw [e2]; rfl
  have qq : ah_q h' = ah_q h := by rw [e2]; rfl
  have rr : ah_r h' a = u1 (ah_r h a) k (some b) := by rw [e2, r_sr_s]
  have rn : ∀ x, x ≠ a → ah_r h' x = ah_r h x := fun x hx => by rw [e2, r_sr_n _ _ _ _ _ hx]
  refine ⟨by rw [e2, n_sr, i1], by rw [kk]; exact i2, fun i t hi et => ?_, by rw [ff]; exact i4, by rw [ii]; exact i5, by rw [ll]; exact i6, by rw [qq]; exact i7, by rw [kk, ii]; exact i8, by rw [qq]; exact i9, by rw [qq]; exact i10, by rw [ff]; exact i11, by rw [ff]; exact i12⟩
  by_cases w : i = j
  · rw [w, e] at et
    have et' := Option.some.inj et
    rw [← et']
    show ah_r h' a k = some b
    rw [rr, u1_s]
  · have hi' : i < j := by omega
    have v := RD_all nr hi' et
    have v' : ¬ (t.1 = a ∧ t.2.1 = k) := by
      intro ⟨v1, v2⟩
      rw [v1, v2] at v
      simp at v
    have old := i3 i t hi' et
    by_cases x1 : t.1 = a
    · rw [x1, rr, u1_n _ _ (fun x2 => v' ⟨x1, x2⟩)]
      rw [x1] at old
      exact old
    · rw [rn _ x1]; exact old
theorem I_sf {a k : Nat} {v : Int32} (I : INI n j p h z) (e2 : h' = ah_sf h a k v) (p' : Nat) (hx : (a = 0 ∧ k = 17) ∨ (a = 168 ∧ (k = 9 ∨ k = 15))) (h1 : 1 ≤ p' → 1 ≤ p) (h2 : 2 ≤ p' → 2 ≤ p) (h3 : 3 ≤ p' → ah_f h' 0 17 = m1) (h4 : 4 ≤ p' → ah_f h' 168 15 = m1) : INI n j p' h' z := by
  obtain ⟨i1, i2, i3, i4, i5, i6, i7, i8, i9, i10, i11, i12⟩ := I
  have kk : ah_k h' = ah_k h := by rw [e2]; rfl
  have rr : ah_r h' = ah_r h := by rw [e2]; rfl
  have ii : ah_i h' = ah_i h := by rw [e2]; rfl
  have ll : ah_l h' = ah_l h := by rw [e2]; rfl
  have qq : ah_q h' = ah_q h := by rw [e2]; rfl
  refine ⟨by rw [e2, n_sf, i1], by rw [kk]; exact i2, by rw [rr]; exact i3, fun b c b1 b2 b3 => ?_, by rw [ii]; exact i5, by rw [ll]; exact i6, by rw [qq]; exact i7, by rw [kk, ii]; exact i8, by rw [qq]; exact fun w => i9 (h1 w), by rw [qq]; exact fun w => i10 (h2 w), h3, h4⟩
  by_cases w : b = a
  · rw [w, e2, f_sf_s, u1_n _ _ (by omega), ← w]
    exact i4 b c b1 b2 b3
  · rw [e2, f_sf_n _ _ _ _ _ w]
    exact i4 b c b1 b2 b3
theorem I_17 (I : INI n j 2 h z) (e2 : h' = ah_sf h 0 17 (-1)) : INI n j 3 h' z := I_sf I e2 3 (by omega) (by omega) (by omega) (fun _ => by rw [e2, f_sf_s, u1_s]; rfl) (fun w => by omega)
theorem I_9 (I : INI n j 3 h z) (e2 : h' = ah_sf h 168 9 (-1)) : INI n j 3 h' z := I_sf I e2 3 (by omega) (by omega) (by omega) (fun _ => by rw [e2, f_sf_n _ _ _ _ _ (by decide)]; exact I.2.2.2.2.2.2.2.2.2.2.1 (by omega)) (fun w => by omega)
theorem I_15 (I : INI n j 3 h z) (e2 : h' = ah_sf h 168 15 (-1)) : INI n j 4 h' z := I_sf I e2 4 (by omega) (by omega) (by omega) (fun _ => by rw [e2, f_sf_n _ _ _ _ _ (by decide)]; exact I.2.2.2.2.2.2.2.2.2.2.1 (by omega)) (fun _ => by rw [e2, f_sf_s, u1_s]; rfl)
theorem I_wi {a : Nat} {f : Nat → Int32} (I : INI n j p h z) (ha : a = 31 ∨ a = 138 ∨ a = 141) (e2 : h' = ah_wi h a f) : INI n j p h' z := by
  obtain ⟨i1, i2, i3, i4, i5, i6, i7, i8, i9, i10, i11, i12⟩ := I
  have kk : ah_k h' = ah_k h := by rw [e2]; rfl
  have rr : ah_r h' = ah_r h := by rw [e2]; rfl
  have ff : ah_f h' = ah_f h := by rw [e2]; rfl
  have ll : ah_l h' = ah_l h := by rw [e2]; rfl
  have qq : ah_q h' = ah_q h := by rw [e2]; rfl
  have ii : ∀ x, x ≠ a → ah_i h' x = ah_i h x := fun x hx => by rw [e2, i_wi_n _ _ _ _ hx]
  exact ⟨by rw [e2, n_wi, i1], by rw [kk]; exact i2, by rw [rr]; exact i3, by rw [ff]; exact i4, fun b c b1 b2 b3 b4 => by rw [ii b (by omega)]; exact i5 b c b1 b2 b3 b4, by rw [ll]; exact i6, by rw [qq]; exact i7, fun b hb => by rw [kk, ii b (by omega)]; exact i8 b hb, by rw [qq]; exact i9, by rw [qq]; exact i10, by rw [ff]; exact i11, by rw [ff]; exact i12⟩
theorem I_si {a k : Nat} (I : INI n j p h z) (ha : a < 10000000 ∧ a ≠ 31 ∧ a ≠ 138 ∧ a ≠ 141) (e2 : h' = ah_si h a k 0) : INI n j p h' z := by
  obtain ⟨i1, i2, i3, i4, i5, i6, i7, i8, i9, i10, i11, i12⟩ := I
  have kk : ah_k h' = ah_k h := by rw [e2]; rfl
  have rr : ah_r h' = ah_r h := by rw [e2]; rfl
  have ff : ah_f h' = ah_f h := by rw [e2]; rfl
  have ll : ah_l h' = ah_l h := by rw [e2]; rfl
  have qq : ah_q h' = ah_q h := by rw [e2]; rfl
  have ii : ∀ x, x ≠ a → ah_i h' x = ah_i h x := fun x hx => by rw [e2, i_si_n _ _ _ _ _ hx]
  refine ⟨by rw [e2, n_si, i1], by rw [kk]; exact i2, by rw [rr]; exact i3, by rw [ff]; exact i4, fun b c b1 b2 b3 b4 => ?_, by rw [ll]; exact i6, by rw [qq]; exact i7, fun b hb => by rw [kk, ii b (by omega)]; exact i8 b hb, by rw [qq]; exact i9, by rw [qq]; exact i10, by rw [ff]; exact i11, by rw [ff]; exact i12⟩
  by_cases w : b = a
  · rw [w, e2, i_si_s]
    by_cases v : c = k
    · rw [v, u1_s]
    · rw [u1_n _ _ v, ← w]; exact i5 b c b1 b2 b3 b4
  · rw [ii b w]; exact i5 b c b1 b2 b3 b4
theorem nm_k (h : AH) (N K x : Nat) : ah_k (ah_nm h N K) x = if x = ah_n h then (3, N) else if ah_n h < x ∧ x < ah_n h + 1 + N then (0, K) else ah_k h x := rfl
theorem nm_i (h : AH) (N K x : Nat) : ah_i (ah_nm h N K) x = if ah_n h ≤ x ∧ x < ah_n h + 1 + N then (fun _ => 0) else ah_i h x := rfl
theorem nm_q (h : AH) (N K x : Nat) : ah_q (ah_nm h N K) x = if x = ah_n h then (fun j => if j < N then some (ah_n h + 1 + j) else none) else ah_q h x := rfl
theorem I_nmG {N K : Nat} (I : INI n j p h z) (k0 : kd n = (3, N)) (k1 : ∀ x, n < x → x < n + 1 + N → kd x = (0, K)) (hn : n = 34 ∨ n = 84) (hb : n + 1 + N < 10000000) (h1 : 1 ≤ p + 1 → n = 34 ∨ 1 ≤ p) (h2 : 2 ≤ p + 1 → n = 84 ∨ 2 ≤ p) (h3 : p < 2) (q1 : n = 34 → N = 38) (q2 : n = 84 → N = 40) (e2 : h' = ah_nm h N K) : INI (n + 1 + N) j (p + 1) h' z := by
  obtain ⟨i1, i2, i3, i4, i5, i6, i7, i8, i9, i10, i11, i12⟩ := I
  have rr : ah_r h' = ah_r h := by rw [e2]; rfl
  have ff : ah_f h' = ah_f h := by rw [e2]; rfl
  have ll : ah_l h' = ah_l h := by rw [e2]; rfl
  refine ⟨?_, fun a ha => ?_, by rw [rr]; exact i3, by rw [ff]; exact i4, fun a k a1 a2 a3 a4 => ?_, by rw [ll]; exact i6, fun a k a1 a2 a3 => ?_, fun a ha => ⟨?_, ?_⟩, fun w i hi => ?_, fun w i hi => ?_, fun w => by omega, fun w => by omega⟩
  · rw [e2]
    show ah_n h + 1 + N = _
    rw [i1]
  · rw [e2, nm_k, i1]
    by_cases w : a = n
    · rw [if_pos w, w, k0]
    · rw [if_neg w]
      by_cases v : n < a ∧ a < n + 1 + N
      · rw [if_pos v, k1 a v.1 v.2]
      · rw [if_neg v]; exact i2 a (by omega)
  · rw [e2, nm_i, i1]
    by_cases v : n ≤ a ∧ a < n + 1 + N
    · rw [if_pos v]
    · rw [if_neg v]; exact i5 a k a1 a2 a3 a4
  · rw [e2, nm_q, i1, if_neg (by omega)]
    exact i7 a k a1 a2 a3
  · rw [e2, nm_k, i1, if_neg (by omega), if_neg (by omega)]
    exact (i8 a ha).1
  · rw [e2, nm_i, i1, if_neg (by omega)]
    exact (i8 a ha).2
  · rw [e2, nm_q, i1]
    by_cases v : n = 34
    · rw [if_pos v.symm]
      show (if i < N then some (n + 1 + i) else none) = _
      rw [if_pos (by have := q1 v; omega), v]
    · rw [if_neg (fun q => v q.symm)]
      rcases h1 w with q | q
      · exact absurd q v
      · exact i9 q i hi
  · rw [e2, nm_q, i1]
    by_cases v : n = 84
    · rw [if_pos v.symm]
      show (if i < N then some (n + 1 + i) else none) = _
      rw [if_pos (by have := q2 v; omega), v]
    · rw [if_neg (fun q => v q.symm)]
      rcases h2 w with q | q
      · exact absurd q v
      · exact i10 q i hi
theorem kd_38 : ∀ x, x < 73 → 34 < x → kd x = (0, 15) := by decide +kernel
theorem kd_40 : ∀ x, x < 125 → 84 < x → kd x = (0, 80) := by decide +kernel
theorem I_nm38 (I : INI 34 j 0 h z) (e2 : h' = ah_nm h 38 15) : INI 73 j 1 h' z := I_nmG (N := 38) (K := 15) I rfl (fun x x1 x2 => kd_38 x (by omega) x1) (by omega) (by omega) (by omega) (by omega) (by omega) (by omega) (by omega) e2
theorem I_nm40 (I : INI 84 j 1 h z) (e2 : h' = ah_nm h 40 80) : INI 125 j 2 h' z := I_nmG (N := 40) (K := 80) I rfl (fun x x1 x2 => kd_40 x (by omega) x1) (by omega) (by omega) (by omega) (by omega) (by omega) (by omega) (by omega) e2
theorem c_X11i (I : INI 1 0 0 h z) (k : ∀ h', INI 168 89 3 h' z → Q none h') : ex_S yX11_init mX11_init (d + 3) [.ref 0] h 167 12258 Q := by
  refine X11_init_e (X11_init_0 (bc := 0) (bs := 0) ?_)
  rw [I.1]
  refine ⟨by decide, fun g1 e => ?_⟩
  replace I : INI 2 0 0 g1 z := I_na I rfl e
  clear e
  refine ⟨I_o I (by decide) rfl, fun g2 e => ?_⟩
  replace I : INI 2 1 0 g2 z := I_sr (a := 0) (k := 0) (b := 1) I rfl (by decide +kernel) e
  clear e
  rw [I.1]
  refine ⟨by decide, fun g3 e => ?_⟩
  replace I : INI 3 1 0 g3 z := I_na I rfl e
  clear e
  refine ⟨I_o I (by decide) rfl, fun g4 e => ?_⟩
  replace I : INI 3 2 0 g4 z := I_sr (a := 0) (k := 1) (b := 2) I rfl (by decide +kernel) e
  clear e
  rw [I.1]
  refine ⟨by decide, fun g5 e => ?_⟩
  replace I : INI 4 2 0 g5 z := I_no (c := 6) I rfl (by decide +kernel) e
  clear e
  refine X6_init_e (X6_init_0 (N := 130) (bc := 0) (bs := 0) ?_)
  rw [I.1]
  refine ⟨by decide, rfl, by decide, fun g6 e => ?_⟩
  replace I : INI 5 2 0 g6 z := I_na I rfl e
  clear e
  refine ⟨I_o I (by decide) rfl, fun g7 e => ?_⟩
  replace I : INI 5 3 0 g7 z := I_sr (a := 3) (k := 0) (b := 4) I rfl (by decide +kernel) e
  clear e
  refine ⟨rfl, ?_⟩
  refine ⟨I_o I (by decide) rfl, fun g8 e => ?_⟩
  replace I : INI 5 4 0 g8 z := I_sr (a := 0) (k := 2) (b := 3) I rfl (by decide +kernel) e
  clear e
  rw [I.1]
  refine ⟨by decide, fun g9 e => ?_⟩
  replace I : INI 6 4 0 g9 z := I_no (c := 6) I rfl (by decide +kernel) e
  clear e
  refine X6_init_e (X6_init_0 (N := 3) (bc := 0) (bs := 0) ?_)
  rw [I.1]
  refine ⟨by decide, rfl, by decide, fun g10 e => ?_⟩
  replace I : INI 7 4 0 g10 z := I_na I rfl e
  clear e
  refine ⟨I_o I (by decide) rfl, fun g11 e => ?_⟩
  replace I : INI 7 5 0 g11 z := I_sr (a := 5) (k := 0) (b := 6) I rfl (by decide +kernel) e
  clear e
  refine ⟨rfl, ?_⟩
  refine ⟨I_o I (by decide) rfl, fun g12 e => ?_⟩
  replace I : INI 7 6 0 g12 z := I_sr (a := 0) (k := 3) (b := 5) I rfl (by decide +kernel) e
  clear e
  rw [I.1]
  refine ⟨by decide, fun g13 e => ?_⟩
  replace I : INI 8 6 0 g13 z := I_no (c := 4) I rfl (by decide +kernel) e
  clear e
  refine X4_init_e (X4_init_0 (bc := 0) (bs := 0) ?_)
  rw [I.1]
  refine ⟨by decide, fun g14 e => ?_⟩
  replace I : INI 9 6 0 g14 z := I_na I rfl e
  clear e
  refine ⟨I_o I (by decide) rfl, fun g15 e => ?_⟩
  replace I : INI 9 7 0 g15 z := I_sr (a := 7) (k := 0) (b := 8) I rfl (by decide +kernel) e
  clear e
  rw [I.1]
  refine ⟨by decide, fun g16 e => ?_⟩
  replace I : INI 10 7 0 g16 z := I_na I rfl e
  clear e
  refine ⟨I_o I (by decide) rfl, fun g17 e => ?_⟩
  replace I : INI 10 8 0 g17 z := I_sr (a := 7) (k := 1) (b := 9) I rfl (by decide +kernel) e
  clear e
  rw [I.1]
  refine ⟨by decide, fun g18 e => ?_⟩
  replace I : INI 11 8 0 g18 z := I_na I rfl e
  clear e
  refine ⟨I_o I (by decide) rfl, fun g19 e => ?_⟩
  replace I : INI 11 9 0 g19 z := I_sr (a := 7) (k := 2) (b := 10) I rfl (by decide +kernel) e
  clear e
  rw [I.1]
  refine ⟨by decide, fun g20 e => ?_⟩
  replace I : INI 12 9 0 g20 z := I_na I rfl e
  clear e
  refine ⟨I_o I (by decide) rfl, fun g21 e => ?_⟩
  replace I : INI 12 10 0 g21 z := I_sr (a := 7) (k := 3) (b := 11) I rfl (by decide +kernel) e
  clear e
  rw [I.1]
  refine ⟨by decide, fun g22 e => ?_⟩
  replace I : INI 13 10 0 g22 z := I_na I rfl e
  clear e
  refine ⟨I_o I (by decide) rfl, fun g23 e => ?_⟩
  replace I : INI 13 11 0 g23 z := I_sr (a := 7) (k := 4) (b := 12) I rfl (by decide +kernel) e
  clear e
  rw [I.1]
  refine ⟨by decide, fun g24 e => ?_⟩
  replace I : INI 14 11 0 g24 z := I_na I rfl e
  clear e
  refine ⟨I_o I (by decide) rfl, fun g25 e => ?_⟩
  replace I : INI 14 12 0 g25 z := I_sr (a := 7) (k := 5) (b := 13) I rfl (by decide +kernel) e
  clear e
  rw [I.1]
  refine ⟨by decide, fun g26 e => ?_⟩
  replace I : INI 15 12 0 g26 z := I_na I rfl e
  clear e
  refine ⟨I_o I (by decide) rfl, fun g27 e => ?_⟩
  replace I : INI 15 13 0 g27 z := I_sr (a := 7) (k := 6) (b := 14) I rfl (by decide +kernel) e
  clear e
  rw [I.1]
  refine ⟨by decide, fun g28 e => ?_⟩
  replace I : INI 16 13 0 g28 z := I_na I rfl e
  clear e
  refine ⟨I_o I (by decide) rfl, fun g29 e => ?_⟩
  replace I : INI 16 14 0 g29 z := I_sr (a := 7) (k := 7) (b := 15) I rfl (by decide +kernel) e
  clear e
  rw [I.1]
  refine ⟨by decide, fun g30 e => ?_⟩
  replace I : INI 17 14 0 g30 z := I_na I rfl e
  clear e
  refine ⟨I_o I (by decide) rfl, fun g31 e => ?_⟩
  replace I : INI 17 15 0 g31 z := I_sr (a := 7) (k := 8) (b := 16) I rfl (by decide +kernel) e
  clear e
  rw [I.1]
  refine ⟨by decide, fun g32 e => ?_⟩
  replace I : INI 18 15 0 g32 z := I_na I rfl e
  clear e
  refine ⟨I_o I (by decide) rfl, fun g33 e => ?_⟩
  replace I : INI 18 16 0 g33 z := I_sr (a := 7) (k := 9) (b := 17) I rfl (by decide +kernel) e
  clear e
  refine ⟨rfl, ?_⟩
  refine ⟨I_o I (by decide) rfl, fun g34 e => ?_⟩
  replace I : INI 18 17 0 g34 z := I_sr (a := 0) (k := 4) (b := 7) I rfl (by decide +kernel) e
  clear e
  rw [I.1]
  refine ⟨by decide, fun g35 e => ?_⟩
  replace I : INI 19 17 0 g35 z := I_no (c := 4) I rfl (by decide +kernel) e
  clear e
  refine X4_init_e (X4_init_0 (bc := 0) (bs := 0) ?_)
  rw [I.1]
  refine ⟨by decide, fun g36 e => ?_⟩
  replace I : INI 20 17 0 g36 z := I_na I rfl e
  clear e
  refine ⟨I_o I (by decide) rfl, fun g37 e => ?_⟩
  replace I : INI 20 18 0 g37 z := I_sr (a := 18) (k := 0) (b := 19) I rfl (by decide +kernel) e
  clear e
  rw [I.1]
  refine ⟨by decide, fun g38 e => ?_⟩
  replace I : INI 21 18 0 g38 z := I_na I rfl e
  clear e
  refine ⟨I_o I (by decide) rfl, fun g39 e => ?_⟩
  replace I : INI 21 19 0 g39 z := I_sr (a := 18) (k := 1) (b := 20) I rfl (by decide +kernel) e
  clear e
  rw [I.1]
  refine ⟨by decide, fun g40 e => ?_⟩
  replace I : INI 22 19 0 g40 z := I_na I rfl e
  clear e
  refine ⟨I_o I (by decide) rfl, fun g41 e => ?_⟩
  replace I : INI 22 20 0 g41 z := I_sr (a := 18) (k := 2) (b := 21) I rfl (by decide +kernel) e
  clear e
  rw [I.1]
  refine ⟨by decide, fun g42 e => ?_⟩
  replace I : INI 23 20 0 g42 z := I_na I rfl e
  clear e
  refine ⟨I_o I (by decide) rfl, fun g43 e => ?_⟩
  replace I : INI 23 21 0 g43 z := I_sr (a := 18) (k := 3) (b := 22) I rfl (by decide +kernel) e
  clear e
  rw [I.1]
  refine ⟨by decide, fun g44 e => ?_⟩
  replace I : INI 24 21 0 g44 z := I_na I rfl e
  clear e
  refine ⟨I_o I (by decide) rfl, fun g45 e => ?_⟩
  replace I : INI 24 22 0 g45 z := I_sr (a := 18) (k := 4) (b := 23) I rfl (by decide +kernel) e
  clear e
  rw [I.1]
  refine ⟨by decide, fun g46 e => ?_⟩
  replace I : INI 25 22 0 g46 z := I_na I rfl e
  clear e
  refine ⟨I_o I (by decide) rfl, fun g47 e => ?_⟩
  replace I : INI 25 23 0 g47 z := I_sr (a := 18) (k := 5) (b := 24) I rfl (by decide +kernel) e
  clear e
  rw [I.1]
  refine ⟨by decide, fun g48 e => ?_⟩
  replace I : INI 26 23 0 g48 z := I_na I rfl e
  clear e
  refine ⟨I_o I (by decide) rfl, fun g49 e => ?_⟩
  replace I : INI 26 24 0 g49 z := I_sr (a := 18) (k := 6) (b := 25) I rfl (by decide +kernel) e
  clear e
  rw [I.1]
  refine ⟨by decide, fun g50 e => ?_⟩
  replace I : INI 27 24 0 g50 z := I_na I rfl e
  clear e
  refine ⟨I_o I (by decide) rfl, fun g51 e => ?_⟩
  replace I : INI 27 25 0 g51 z := I_sr (a := 18) (k := 7) (b := 26) I rfl (by decide +kernel) e
  clear e
  rw [I.1]
  refine ⟨by decide, fun g52 e => ?_⟩
  replace I : INI 28 25 0 g52 z := I_na I rfl e
  clear e
  refine ⟨I_o I (by decide) rfl, fun g53 e => ?_⟩
  replace I : INI 28 26 0 g53 z := I_sr (a := 18) (k := 8) (b := 27) I rfl (by decide +kernel) e
  clear e
  rw [I.1]
  refine ⟨by decide, fun g54 e => ?_⟩
  replace I : INI 29 26 0 g54 z := I_na I rfl e
  clear e
  refine ⟨I_o I (by decide) rfl, fun g55 e => ?_⟩
  replace I : INI 29 27 0 g55 z := I_sr (a := 18) (k := 9) (b := 28) I rfl (by decide +kernel) e
  clear e
  refine ⟨rfl, ?_⟩
  refine ⟨I_o I (by decide) rfl, fun g56 e => ?_⟩
  replace I : INI 29 28 0 g56 z := I_sr (a := 0) (k := 5) (b := 18) I rfl (by decide +kernel) e
  clear e
  rw [I.1]
  refine ⟨by decide, fun g57 e => ?_⟩
  replace I : INI 30 28 0 g57 z := I_no (c := 7) I rfl (by decide +kernel) e
  clear e
  refine X7_init_e (X7_init_0 (bc := 0) (bs := 0) ?_)
  rw [I.1]
  refine ⟨by decide, fun g58 e => ?_⟩
  replace I : INI 31 28 0 g58 z := I_na I rfl e
  clear e
  refine ⟨I_o I (by decide) rfl, fun g59 e => ?_⟩
  replace I : INI 31 29 0 g59 z := I_sr (a := 29) (k := 0) (b := 30) I rfl (by decide +kernel) e
  clear e
  rw [I.1]
  refine ⟨by decide, fun g60 e => ?_⟩
  replace I : INI 32 29 0 g60 z := I_na I rfl e
  clear e
  refine ⟨I_o I (by decide) rfl, fun g61 e => ?_⟩
  replace I : INI 32 30 0 g61 z := I_sr (a := 29) (k := 1) (b := 31) I rfl (by decide +kernel) e
  clear e
  refine ⟨31, I_r I 29 rfl (by decide), j_fill (n := 160) (I_x I (by decide) rfl) (by decide) _ ⟨rfl, ?_⟩⟩
  generalize e : ah_wi g61 31 (fl (ah_i g61 31) 160 (-1)) = g62
  replace I : INI 32 30 0 g62 z := I_wi I (by decide) e.symm
  clear e
  refine ⟨rfl, ?_⟩
  refine ⟨I_o I (by decide) rfl, fun g63 e => ?_⟩
  replace I : INI 32 31 0 g63 z := I_sr (a := 0) (k := 6) (b := 29) I rfl (by decide +kernel) e
  clear e
  rw [I.1]
  refine ⟨by decide, fun g64 e => ?_⟩
  replace I : INI 33 31 0 g64 z := I_no (c := 9) I rfl (by decide +kernel) e
  clear e
  refine X9_init_e (X9_init_0 (bc := 0) (bs := 0) ?_)
  rw [I.1]
  refine ⟨by decide, fun g65 e => ?_⟩
  replace I : INI 34 31 0 g65 z := I_na I rfl e
  clear e
  refine ⟨I_o I (by decide) rfl, fun g66 e => ?_⟩
  replace I : INI 34 32 0 g66 z := I_sr (a := 32) (k := 0) (b := 33) I rfl (by decide +kernel) e
  clear e
  rw [I.1]
  refine ⟨by decide, fun g67 e => ?_⟩
  replace I : INI 73 32 1 g67 z := I_nm38 I e
  clear e
  refine ⟨I_o I (by decide) rfl, fun g68 e => ?_⟩
  replace I : INI 73 33 1 g68 z := I_sr (a := 32) (k := 1) (b := 34) I rfl (by decide +kernel) e
  clear e
  refine ⟨rfl, ?_⟩
  refine ⟨I_o I (by decide) rfl, fun g69 e => ?_⟩
  replace I : INI 73 34 1 g69 z := I_sr (a := 0) (k := 7) (b := 32) I rfl (by decide +kernel) e
  clear e
  rw [I.1]
  refine ⟨by decide, fun g70 e => ?_⟩
  replace I : INI 74 34 1 g70 z := I_no (c := 2) I rfl (by decide +kernel) e
  clear e
  refine X2_init_e (X2_init_0 (bc := 0) (bs := 0) ?_)
  rw [I.1]
  refine ⟨by decide, fun g71 e => ?_⟩
  replace I : INI 75 34 1 g71 z := I_na I rfl e
  clear e
  refine ⟨I_o I (by decide) rfl, fun g72 e => ?_⟩
  replace I : INI 75 35 1 g72 z := I_sr (a := 73) (k := 0) (b := 74) I rfl (by decide +kernel) e
  clear e
  rw [I.1]
  refine ⟨by decide, fun g73 e => ?_⟩
  replace I : INI 76 35 1 g73 z := I_na I rfl e
  clear e
  refine ⟨I_o I (by decide) rfl, fun g74 e => ?_⟩
  replace I : INI 76 36 1 g74 z := I_sr (a := 73) (k := 1) (b := 75) I rfl (by decide +kernel) e
  clear e
  refine ⟨rfl, ?_⟩
  refine ⟨I_o I (by decide) rfl, fun g75 e => ?_⟩
  replace I : INI 76 37 1 g75 z := I_sr (a := 0) (k := 8) (b := 73) I rfl (by decide +kernel) e
  clear e
  rw [I.1]
  refine ⟨by decide, fun g76 e => ?_⟩
  replace I : INI 77 37 1 g76 z := I_no (c := 2) I rfl (by decide +kernel) e
  clear e
  refine X2_init_e (X2_init_0 (bc := 0) (bs := 0) ?_)
  rw [I.1]
  refine ⟨by decide, fun g77 e => ?_⟩
  replace I : INI 78 37 1 g77 z := I_na I rfl e
  clear e
  refine ⟨I_o I (by decide) rfl, fun g78 e => ?_⟩
  replace I : INI 78 38 1 g78 z := I_sr (a := 76) (k := 0) (b := 77) I rfl (by decide +kernel) e
  clear e
  rw [I.1]
  refine ⟨by decide, fun g79 e => ?_⟩
  replace I : INI 79 38 1 g79 z := I_na I rfl e
  clear e
  refine ⟨I_o I (by decide) rfl, fun g80 e => ?_⟩
  replace I : INI 79 39 1 g80 z := I_sr (a := 76) (k := 1) (b := 78) I rfl (by decide +kernel) e
  clear e
  refine ⟨rfl, ?_⟩
  refine ⟨I_o I (by decide) rfl, fun g81 e => ?_⟩
  replace I : INI 79 40 1 g81 z := I_sr (a := 0) (k := 9) (b := 76) I rfl (by decide +kernel) e
  clear e
  rw [I.1]
  refine ⟨by decide, fun g82 e => ?_⟩
  replace I : INI 80 40 1 g82 z := I_no (c := 2) I rfl (by decide +kernel) e
  clear e
  refine X2_init_e (X2_init_0 (bc := 0) (bs := 0) ?_)
  rw [I.1]
  refine ⟨by decide, fun g83 e => ?_⟩
  replace I : INI 81 40 1 g83 z := I_na I rfl e
  clear e
  refine ⟨I_o I (by decide) rfl, fun g84 e => ?_⟩
  replace I : INI 81 41 1 g84 z := I_sr (a := 79) (k := 0) (b := 80) I rfl (by decide +kernel) e
  clear e
  rw [I.1]
  refine ⟨by decide, fun g85 e => ?_⟩
  replace I : INI 82 41 1 g85 z := I_na I rfl e
  clear e
  refine ⟨I_o I (by decide) rfl, fun g86 e => ?_⟩
  replace I : INI 82 42 1 g86 z := I_sr (a := 79) (k := 1) (b := 81) I rfl (by decide +kernel) e
  clear e
  refine ⟨rfl, ?_⟩
  refine ⟨I_o I (by decide) rfl, fun g87 e => ?_⟩
  replace I : INI 82 43 1 g87 z := I_sr (a := 0) (k := 10) (b := 79) I rfl (by decide +kernel) e
  clear e
  rw [I.1]
  refine ⟨by decide, fun g88 e => ?_⟩
  replace I : INI 83 43 1 g88 z := I_no (c := 1) I rfl (by decide +kernel) e
  clear e
  refine X1_init_e (X1_init_0 (bc := 0) (bs := 0) ?_)
  rw [I.1]
  refine ⟨by decide, fun g89 e => ?_⟩
  replace I : INI 84 43 1 g89 z := I_na I rfl e
  clear e
  refine ⟨I_o I (by decide) rfl, fun g90 e => ?_⟩
  replace I : INI 84 44 1 g90 z := I_sr (a := 82) (k := 0) (b := 83) I rfl (by decide +kernel) e
  clear e
  rw [I.1]
  refine ⟨by decide, fun g91 e => ?_⟩
  replace I : INI 125 44 2 g91 z := I_nm40 I e
  clear e
  refine ⟨I_o I (by decide) rfl, fun g92 e => ?_⟩
  replace I : INI 125 45 2 g92 z := I_sr (a := 82) (k := 1) (b := 84) I rfl (by decide +kernel) e
  clear e
  refine ⟨rfl, ?_⟩
  refine ⟨I_o I (by decide) rfl, fun g93 e => ?_⟩
  replace I : INI 125 46 2 g93 z := I_sr (a := 0) (k := 11) (b := 82) I rfl (by decide +kernel) e
  clear e
  rw [I.1]
  refine ⟨by decide, fun g94 e => ?_⟩
  replace I : INI 126 46 2 g94 z := I_no (c := 8) I rfl (by decide +kernel) e
  clear e
  refine X8_init_e (X8_init_0 (bc := 0) (bs := 0) ?_)
  rw [I.1]
  refine ⟨by decide, fun g95 e => ?_⟩
  replace I : INI 127 46 2 g95 z := I_na I rfl e
  clear e
  refine ⟨I_o I (by decide) rfl, fun g96 e => ?_⟩
  replace I : INI 127 47 2 g96 z := I_sr (a := 125) (k := 0) (b := 126) I rfl (by decide +kernel) e
  clear e
  rw [I.1]
  refine ⟨by decide, fun g97 e => ?_⟩
  replace I : INI 128 47 2 g97 z := I_no (c := 10) I rfl (by decide +kernel) e
  clear e
  refine X10_init_e (X10_init_0 (bc := 0) (bs := 0) ?_)
  rw [I.1]
  refine ⟨by decide, fun g98 e => ?_⟩
  replace I : INI 129 47 2 g98 z := I_na I rfl e
  clear e
  refine ⟨I_o I (by decide) rfl, fun g99 e => ?_⟩
  replace I : INI 129 48 2 g99 z := I_sr (a := 127) (k := 0) (b := 128) I rfl (by decide +kernel) e
  clear e
  rw [I.1]
  refine ⟨by decide, fun g100 e => ?_⟩
  replace I : INI 130 48 2 g100 z := I_na I rfl e
  clear e
  refine ⟨I_o I (by decide) rfl, fun g101 e => ?_⟩
  replace I : INI 130 49 2 g101 z := I_sr (a := 127) (k := 1) (b := 129) I rfl (by decide +kernel) e
  clear e
  refine ⟨rfl, ?_⟩
  refine ⟨I_o I (by decide) rfl, fun g102 e => ?_⟩
  replace I : INI 130 50 2 g102 z := I_sr (a := 125) (k := 1) (b := 127) I rfl (by decide +kernel) e
  clear e
  rw [I.1]
  refine ⟨by decide, fun g103 e => ?_⟩
  replace I : INI 131 50 2 g103 z := I_no (c := 3) I rfl (by decide +kernel) e
  clear e
  refine X3_init_e (X3_init_0 (bc := 0) (bs := 0) ?_)
  rw [I.1]
  refine ⟨by decide, fun g104 e => ?_⟩
  replace I : INI 132 50 2 g104 z := I_na I rfl e
  clear e
  refine ⟨I_o I (by decide) rfl, fun g105 e => ?_⟩
  replace I : INI 132 51 2 g105 z := I_sr (a := 130) (k := 0) (b := 131) I rfl (by decide +kernel) e
  clear e
  rw [I.1]
  refine ⟨by decide, fun g106 e => ?_⟩
  replace I : INI 133 51 2 g106 z := I_na I rfl e
  clear e
  refine ⟨I_o I (by decide) rfl, fun g107 e => ?_⟩
  replace I : INI 133 52 2 g107 z := I_sr (a := 130) (k := 1) (b := 132) I rfl (by decide +kernel) e
  clear e
  rw [I.1]
  refine ⟨by decide, fun g108 e => ?_⟩
  replace I : INI 134 52 2 g108 z := I_na I rfl e
  clear e
  refine ⟨I_o I (by decide) rfl, fun g109 e => ?_⟩
  replace I : INI 134 53 2 g109 z := I_sr (a := 130) (k := 2) (b := 133) I rfl (by decide +kernel) e
  clear e
  refine ⟨rfl, ?_⟩
  refine ⟨I_o I (by decide) rfl, fun g110 e => ?_⟩
  replace I : INI 134 54 2 g110 z := I_sr (a := 125) (k := 2) (b := 130) I rfl (by decide +kernel) e
  clear e
  rw [I.1]
  refine ⟨by decide, fun g111 e => ?_⟩
  replace I : INI 135 54 2 g111 z := I_no (c := 6) I rfl (by decide +kernel) e
  clear e
  refine X6_init_e (X6_init_0 (N := 100) (bc := 0) (bs := 0) ?_)
  rw [I.1]
  refine ⟨by decide, rfl, by decide, fun g112 e => ?_⟩
  replace I : INI 136 54 2 g112 z := I_na I rfl e
  clear e
  refine ⟨I_o I (by decide) rfl, fun g113 e => ?_⟩
  replace I : INI 136 55 2 g113 z := I_sr (a := 134) (k := 0) (b := 135) I rfl (by decide +kernel) e
  clear e
  refine ⟨rfl, ?_⟩
  refine ⟨I_o I (by decide) rfl, fun g114 e => ?_⟩
  replace I : INI 136 56 2 g114 z := I_sr (a := 125) (k := 3) (b := 134) I rfl (by decide +kernel) e
  clear e
  rw [I.1]
  refine ⟨by decide, fun g115 e => ?_⟩
  replace I : INI 137 56 2 g115 z := I_no (c := 7) I rfl (by decide +kernel) e
  clear e
  refine X7_init_e (X7_init_0 (bc := 0) (bs := 0) ?_)
  rw [I.1]
  refine ⟨by decide, fun g116 e => ?_⟩
  replace I : INI 138 56 2 g116 z := I_na I rfl e
  clear e
  refine ⟨I_o I (by decide) rfl, fun g117 e => ?_⟩
  replace I : INI 138 57 2 g117 z := I_sr (a := 136) (k := 0) (b := 137) I rfl (by decide +kernel) e
  clear e
  rw [I.1]
  refine ⟨by decide, fun g118 e => ?_⟩
  replace I : INI 139 57 2 g118 z := I_na I rfl e
  clear e
  refine ⟨I_o I (by decide) rfl, fun g119 e => ?_⟩
  replace I : INI 139 58 2 g119 z := I_sr (a := 136) (k := 1) (b := 138) I rfl (by decide +kernel) e
  clear e
  refine ⟨138, I_r I 57 rfl (by decide), j_fill (n := 160) (I_x I (by decide) rfl) (by decide) _ ⟨rfl, ?_⟩⟩
  generalize e : ah_wi g119 138 (fl (ah_i g119 138) 160 (-1)) = g120
  replace I : INI 139 58 2 g120 z := I_wi I (by decide) e.symm
  clear e
  refine ⟨rfl, ?_⟩
  refine ⟨I_o I (by decide) rfl, fun g121 e => ?_⟩
  replace I : INI 139 59 2 g121 z := I_sr (a := 125) (k := 4) (b := 136) I rfl (by decide +kernel) e
  clear e
  rw [I.1]
  refine ⟨by decide, fun g122 e => ?_⟩
  replace I : INI 140 59 2 g122 z := I_no (c := 7) I rfl (by decide +kernel) e
  clear e
  refine X7_init_e (X7_init_0 (bc := 0) (bs := 0) ?_)
  rw [I.1]
  refine ⟨by decide, fun g123 e => ?_⟩
  replace I : INI 141 59 2 g123 z := I_na I rfl e
  clear e
  refine ⟨I_o I (by decide) rfl, fun g124 e => ?_⟩
  replace I : INI 141 60 2 g124 z := I_sr (a := 139) (k := 0) (b := 140) I rfl (by decide +kernel) e
  clear e
  rw [I.1]
  refine ⟨by decide, fun g125 e => ?_⟩
  replace I : INI 142 60 2 g125 z := I_na I rfl e
  clear e
  refine ⟨I_o I (by decide) rfl, fun g126 e => ?_⟩
  replace I : INI 142 61 2 g126 z := I_sr (a := 139) (k := 1) (b := 141) I rfl (by decide +kernel) e
  clear e
  refine ⟨141, I_r I 60 rfl (by decide), j_fill (n := 160) (I_x I (by decide) rfl) (by decide) _ ⟨rfl, ?_⟩⟩
  generalize e : ah_wi g126 141 (fl (ah_i g126 141) 160 (-1)) = g127
  replace I : INI 142 61 2 g127 z := I_wi I (by decide) e.symm
  clear e
  refine ⟨rfl, ?_⟩
  refine ⟨I_o I (by decide) rfl, fun g128 e => ?_⟩
  replace I : INI 142 62 2 g128 z := I_sr (a := 125) (k := 5) (b := 139) I rfl (by decide +kernel) e
  clear e
  rw [I.1]
  refine ⟨by decide, fun g129 e => ?_⟩
  replace I : INI 143 62 2 g129 z := I_no (c := 4) I rfl (by decide +kernel) e
  clear e
  refine X4_init_e (X4_init_0 (bc := 0) (bs := 0) ?_)
  rw [I.1]
  refine ⟨by decide, fun g130 e => ?_⟩
  replace I : INI 144 62 2 g130 z := I_na I rfl e
  clear e
  refine ⟨I_o I (by decide) rfl, fun g131 e => ?_⟩
  replace I : INI 144 63 2 g131 z := I_sr (a := 142) (k := 0) (b := 143) I rfl (by decide +kernel) e
  clear e
  rw [I.1]
  refine ⟨by decide, fun g132 e => ?_⟩
  replace I : INI 145 63 2 g132 z := I_na I rfl e
  clear e
  refine ⟨I_o I (by decide) rfl, fun g133 e => ?_⟩
  replace I : INI 145 64 2 g133 z := I_sr (a := 142) (k := 1) (b := 144) I rfl (by decide +kernel) e
  clear e
  rw [I.1]
  refine ⟨by decide, fun g134 e => ?_⟩
  replace I : INI 146 64 2 g134 z := I_na I rfl e
  clear e
  refine ⟨I_o I (by decide) rfl, fun g135 e => ?_⟩
  replace I : INI 146 65 2 g135 z := I_sr (a := 142) (k := 2) (b := 145) I rfl (by decide +kernel) e
  clear e
  rw [I.1]
  refine ⟨by decide, fun g136 e => ?_⟩
  replace I : INI 147 65 2 g136 z := I_na I rfl e
  clear e
  refine ⟨I_o I (by decide) rfl, fun g137 e => ?_⟩
  replace I : INI 147 66 2 g137 z := I_sr (a := 142) (k := 3) (b := 146) I rfl (by decide +kernel) e
  clear e
  rw [I.1]
  refine ⟨by decide, fun g138 e => ?_⟩
  replace I : INI 148 66 2 g138 z := I_na I rfl e
  clear e
  refine ⟨I_o I (by decide) rfl, fun g139 e => ?_⟩
  replace I : INI 148 67 2 g139 z := I_sr (a := 142) (k := 4) (b := 147) I rfl (by decide +kernel) e
  clear e
  rw [I.1]
  refine ⟨by decide, fun g140 e => ?_⟩
  replace I : INI 149 67 2 g140 z := I_na I rfl e
  clear e
  refine ⟨I_o I (by decide) rfl, fun g141 e => ?_⟩
  replace I : INI 149 68 2 g141 z := I_sr (a := 142) (k := 5) (b := 148) I rfl (by decide +kernel) e
  clear e
  rw [I.1]
  refine ⟨by decide, fun g142 e => ?_⟩
  replace I : INI 150 68 2 g142 z := I_na I rfl e
  clear e
  refine ⟨I_o I (by decide) rfl, fun g143 e => ?_⟩
  replace I : INI 150 69 2 g143 z := I_sr (a := 142) (k := 6) (b := 149) I rfl (by decide +kernel) e
  clear e
  rw [I.1]
  refine ⟨by decide, fun g144 e => ?_⟩
  replace I : INI 151 69 2 g144 z := I_na I rfl e
  clear e
  refine ⟨I_o I (by decide) rfl, fun g145 e => ?_⟩
  replace I : INI 151 70 2 g145 z := I_sr (a := 142) (k := 7) (b := 150) I rfl (by decide +kernel) e
  clear e
  rw [I.1]
  refine ⟨by decide, fun g146 e => ?_⟩
  replace I : INI 152 70 2 g146 z := I_na I rfl e
  clear e
  refine ⟨I_o I (by decide) rfl, fun g147 e => ?_⟩
  replace I : INI 152 71 2 g147 z := I_sr (a := 142) (k := 8) (b := 151) I rfl (by decide +kernel) e
  clear e
  rw [I.1]
  refine ⟨by decide, fun g148 e => ?_⟩
  replace I : INI 153 71 2 g148 z := I_na I rfl e
  clear e
  refine ⟨I_o I (by decide) rfl, fun g149 e => ?_⟩
  replace I : INI 153 72 2 g149 z := I_sr (a := 142) (k := 9) (b := 152) I rfl (by decide +kernel) e
  clear e
  refine ⟨rfl, ?_⟩
  refine ⟨I_o I (by decide) rfl, fun g150 e => ?_⟩
  replace I : INI 153 73 2 g150 z := I_sr (a := 125) (k := 6) (b := 142) I rfl (by decide +kernel) e
  clear e
  rw [I.1]
  refine ⟨by decide, fun g151 e => ?_⟩
  replace I : INI 154 73 2 g151 z := I_no (c := 4) I rfl (by decide +kernel) e
  clear e
  refine X4_init_e (X4_init_0 (bc := 0) (bs := 0) ?_)
  rw [I.1]
  refine ⟨by decide, fun g152 e => ?_⟩
  replace I : INI 155 73 2 g152 z := I_na I rfl e
  clear e
  refine ⟨I_o I (by decide) rfl, fun g153 e => ?_⟩
  replace I : INI 155 74 2 g153 z := I_sr (a := 153) (k := 0) (b := 154) I rfl (by decide +kernel) e
  clear e
  rw [I.1]
  refine ⟨by decide, fun g154 e => ?_⟩
  replace I : INI 156 74 2 g154 z := I_na I rfl e
  clear e
  refine ⟨I_o I (by decide) rfl, fun g155 e => ?_⟩
  replace I : INI 156 75 2 g155 z := I_sr (a := 153) (k := 1) (b := 155) I rfl (by decide +kernel) e
  clear e
  rw [I.1]
  refine ⟨by decide, fun g156 e => ?_⟩
  replace I : INI 157 75 2 g156 z := I_na I rfl e
  clear e
  refine ⟨I_o I (by decide) rfl, fun g157 e => ?_⟩
  replace I : INI 157 76 2 g157 z := I_sr (a := 153) (k := 2) (b := 156) I rfl (by decide +kernel) e
  clear e
  rw [I.1]
  refine ⟨by decide, fun g158 e => ?_⟩
  replace I : INI 158 76 2 g158 z := I_na I rfl e
  clear e
  refine ⟨I_o I (by decide) rfl, fun g159 e => ?_⟩
  replace I : INI 158 77 2 g159 z := I_sr (a := 153) (k := 3) (b := 157) I rfl (by decide +kernel) e
  clear e
  rw [I.1]
  refine ⟨by decide, fun g160 e => ?_⟩
  replace I : INI 159 77 2 g160 z := I_na I rfl e
  clear e
  refine ⟨I_o I (by decide) rfl, fun g161 e => ?_⟩
  replace I : INI 159 78 2 g161 z := I_sr (a := 153) (k := 4) (b := 158) I rfl (by decide +kernel) e
  clear e
  rw [I.1]
  refine ⟨by decide, fun g162 e => ?_⟩
  replace I : INI 160 78 2 g162 z := I_na I rfl e
  clear e
  refine ⟨I_o I (by decide) rfl, fun g163 e => ?_⟩
  replace I : INI 160 79 2 g163 z := I_sr (a := 153) (k := 5) (b := 159) I rfl (by decide +kernel) e
  clear e
  rw [I.1]
  refine ⟨by decide, fun g164 e => ?_⟩
  replace I : INI 161 79 2 g164 z := I_na I rfl e
  clear e
  refine ⟨I_o I (by decide) rfl, fun g165 e => ?_⟩
  replace I : INI 161 80 2 g165 z := I_sr (a := 153) (k := 6) (b := 160) I rfl (by decide +kernel) e
  clear e
  rw [I.1]
  refine ⟨by decide, fun g166 e => ?_⟩
  replace I : INI 162 80 2 g166 z := I_na I rfl e
  clear e
  refine ⟨I_o I (by decide) rfl, fun g167 e => ?_⟩
  replace I : INI 162 81 2 g167 z := I_sr (a := 153) (k := 7) (b := 161) I rfl (by decide +kernel) e
  clear e
  rw [I.1]
  refine ⟨by decide, fun g168 e => ?_⟩
  replace I : INI 163 81 2 g168 z := I_na I rfl e
  clear e
  refine ⟨I_o I (by decide) rfl, fun g169 e => ?_⟩
  replace I : INI 163 82 2 g169 z := I_sr (a := 153) (k := 8) (b := 162) I rfl (by decide +kernel) e
  clear e
  rw [I.1]
  refine ⟨by decide, fun g170 e => ?_⟩
  replace I : INI 164 82 2 g170 z := I_na I rfl e
  clear e
  refine ⟨I_o I (by decide) rfl, fun g171 e => ?_⟩
  replace I : INI 164 83 2 g171 z := I_sr (a := 153) (k := 9) (b := 163) I rfl (by decide +kernel) e
  clear e
  refine ⟨rfl, ?_⟩
  refine ⟨I_o I (by decide) rfl, fun g172 e => ?_⟩
  replace I : INI 164 84 2 g172 z := I_sr (a := 125) (k := 7) (b := 153) I rfl (by decide +kernel) e
  clear e
  refine ⟨rfl, ?_⟩
  refine ⟨I_o I (by decide) rfl, fun g173 e => ?_⟩
  replace I : INI 164 85 2 g173 z := I_sr (a := 0) (k := 12) (b := 125) I rfl (by decide +kernel) e
  clear e
  rw [I.1]
  refine ⟨by decide, fun g174 e => ?_⟩
  replace I : INI 165 85 2 g174 z := I_no (c := 0) I rfl (by decide +kernel) e
  clear e
  refine X0_init_e (X0_init_0 (bc := 0) (bs := 0) ?_)
  rw [I.1]
  refine ⟨by decide, fun g175 e => ?_⟩
  replace I : INI 166 85 2 g175 z := I_na I rfl e
  clear e
  refine ⟨I_o I (by decide) rfl, fun g176 e => ?_⟩
  replace I : INI 166 86 2 g176 z := I_sr (a := 164) (k := 0) (b := 165) I rfl (by decide +kernel) e
  clear e
  rw [I.1]
  refine ⟨by decide, fun g177 e => ?_⟩
  replace I : INI 167 86 2 g177 z := I_na I rfl e
  clear e
  refine ⟨I_o I (by decide) rfl, fun g178 e => ?_⟩
  replace I : INI 167 87 2 g178 z := I_sr (a := 164) (k := 1) (b := 166) I rfl (by decide +kernel) e
  clear e
  refine ⟨rfl, ?_⟩
  refine ⟨I_o I (by decide) rfl, fun g179 e => ?_⟩
  replace I : INI 167 88 2 g179 z := I_sr (a := 0) (k := 13) (b := 164) I rfl (by decide +kernel) e
  clear e
  rw [I.1]
  refine ⟨by decide, fun g180 e => ?_⟩
  replace I : INI 168 88 2 g180 z := I_na I rfl e
  clear e
  refine ⟨I_o I (by decide) rfl, fun g181 e => ?_⟩
  replace I : INI 168 89 2 g181 z := I_sr (a := 0) (k := 14) (b := 167) I rfl (by decide +kernel) e
  clear e
  intro g182 e
  replace I : INI 168 89 3 g182 z := I_17 I e
  clear e
  exact k g182 I
theorem c_X12i (I : INI 169 89 3 h z) (k : ∀ h', INI 216 136 4 h' z → Q none h') : ex_S yX12_init mX12_init (d + 1) [.ref 168] h 47 214113 Q := by
  refine X12_init_e (X12_init_0 (bc := 0) (bs := 0) ?_)
  rw [I.1]
  refine ⟨by decide, fun g183 e => ?_⟩
  replace I : INI 170 89 3 g183 z := I_na I rfl e
  clear e
  refine ⟨I_o I (by decide) rfl, fun g184 e => ?_⟩
  replace I : INI 170 90 3 g184 z := I_sr (a := 168) (k := 1) (b := 169) I rfl (by decide +kernel) e
  clear e
  rw [I.1]
  refine ⟨by decide, fun g185 e => ?_⟩
  replace I : INI 171 90 3 g185 z := I_na I rfl e
  clear e
  refine ⟨I_o I (by decide) rfl, fun g186 e => ?_⟩
  replace I : INI 171 91 3 g186 z := I_sr (a := 168) (k := 2) (b := 170) I rfl (by decide +kernel) e
  clear e
  rw [I.1]
  refine ⟨by decide, fun g187 e => ?_⟩
  replace I : INI 172 91 3 g187 z := I_na I rfl e
  clear e
  refine ⟨I_o I (by decide) rfl, fun g188 e => ?_⟩
  replace I : INI 172 92 3 g188 z := I_sr (a := 168) (k := 3) (b := 171) I rfl (by decide +kernel) e
  clear e
  rw [I.1]
  refine ⟨by decide, fun g189 e => ?_⟩
  replace I : INI 173 92 3 g189 z := I_na I rfl e
  clear e
  refine ⟨I_o I (by decide) rfl, fun g190 e => ?_⟩
  replace I : INI 173 93 3 g190 z := I_sr (a := 168) (k := 4) (b := 172) I rfl (by decide +kernel) e
  clear e
  rw [I.1]
  refine ⟨by decide, fun g191 e => ?_⟩
  replace I : INI 174 93 3 g191 z := I_na I rfl e
  clear e
  refine ⟨I_o I (by decide) rfl, fun g192 e => ?_⟩
  replace I : INI 174 94 3 g192 z := I_sr (a := 168) (k := 5) (b := 173) I rfl (by decide +kernel) e
  clear e
  rw [I.1]
  refine ⟨by decide, fun g193 e => ?_⟩
  replace I : INI 175 94 3 g193 z := I_na I rfl e
  clear e
  refine ⟨I_o I (by decide) rfl, fun g194 e => ?_⟩
  replace I : INI 175 95 3 g194 z := I_sr (a := 168) (k := 7) (b := 174) I rfl (by decide +kernel) e
  clear e
  rw [I.1]
  refine ⟨by decide, fun g195 e => ?_⟩
  replace I : INI 176 95 3 g195 z := I_na I rfl e
  clear e
  refine ⟨I_o I (by decide) rfl, fun g196 e => ?_⟩
  replace I : INI 176 96 3 g196 z := I_sr (a := 168) (k := 8) (b := 175) I rfl (by decide +kernel) e
  clear e
  intro g197 e
  replace I : INI 176 96 3 g197 z := I_9 I e
  clear e
  rw [I.1]
  refine ⟨by decide, fun g198 e => ?_⟩
  replace I : INI 177 96 3 g198 z := I_na I rfl e
  clear e
  refine ⟨I_o I (by decide) rfl, fun g199 e => ?_⟩
  replace I : INI 177 97 3 g199 z := I_sr (a := 168) (k := 10) (b := 176) I rfl (by decide +kernel) e
  clear e
  rw [I.1]
  refine ⟨by decide, fun g200 e => ?_⟩
  replace I : INI 178 97 3 g200 z := I_na I rfl e
  clear e
  refine ⟨I_o I (by decide) rfl, fun g201 e => ?_⟩
  replace I : INI 178 98 3 g201 z := I_sr (a := 168) (k := 11) (b := 177) I rfl (by decide +kernel) e
  clear e
  rw [I.1]
  refine ⟨by decide, fun g202 e => ?_⟩
  replace I : INI 179 98 3 g202 z := I_na I rfl e
  clear e
  refine ⟨I_o I (by decide) rfl, fun g203 e => ?_⟩
  replace I : INI 179 99 3 g203 z := I_sr (a := 168) (k := 12) (b := 178) I rfl (by decide +kernel) e
  clear e
  rw [I.1]
  refine ⟨by decide, fun g204 e => ?_⟩
  replace I : INI 180 99 3 g204 z := I_na I rfl e
  clear e
  refine ⟨I_o I (by decide) rfl, fun g205 e => ?_⟩
  replace I : INI 180 100 3 g205 z := I_sr (a := 168) (k := 13) (b := 179) I rfl (by decide +kernel) e
  clear e
  rw [I.1]
  refine ⟨by decide, fun g206 e => ?_⟩
  replace I : INI 181 100 3 g206 z := I_na I rfl e
  clear e
  refine ⟨I_o I (by decide) rfl, fun g207 e => ?_⟩
  replace I : INI 181 101 3 g207 z := I_sr (a := 168) (k := 14) (b := 180) I rfl (by decide +kernel) e
  clear e
  intro g208 e
  replace I : INI 181 101 4 g208 z := I_15 I e
  clear e
  rw [I.1]
  refine ⟨by decide, fun g209 e => ?_⟩
  replace I : INI 182 101 4 g209 z := I_na I rfl e
  clear e
  refine ⟨I_o I (by decide) rfl, fun g210 e => ?_⟩
  replace I : INI 182 102 4 g210 z := I_sr (a := 168) (k := 16) (b := 181) I rfl (by decide +kernel) e
  clear e
  rw [I.1]
  refine ⟨by decide, fun g211 e => ?_⟩
  replace I : INI 183 102 4 g211 z := I_na I rfl e
  clear e
  refine ⟨I_o I (by decide) rfl, fun g212 e => ?_⟩
  replace I : INI 183 103 4 g212 z := I_sr (a := 168) (k := 17) (b := 182) I rfl (by decide +kernel) e
  clear e
  rw [I.1]
  refine ⟨by decide, fun g213 e => ?_⟩
  replace I : INI 184 103 4 g213 z := I_na I rfl e
  clear e
  refine ⟨I_o I (by decide) rfl, fun g214 e => ?_⟩
  replace I : INI 184 104 4 g214 z := I_sr (a := 168) (k := 18) (b := 183) I rfl (by decide +kernel) e
  clear e
  rw [I.1]
  refine ⟨by decide, fun g215 e => ?_⟩
  replace I : INI 185 104 4 g215 z := I_na I rfl e
  clear e
  refine ⟨I_o I (by decide) rfl, fun g216 e => ?_⟩
  replace I : INI 185 105 4 g216 z := I_sr (a := 168) (k := 19) (b := 184) I rfl (by decide +kernel) e
  clear e
  rw [I.1]
  refine ⟨by decide, fun g217 e => ?_⟩
  replace I : INI 186 105 4 g217 z := I_na I rfl e
  clear e
  refine ⟨I_o I (by decide) rfl, fun g218 e => ?_⟩
  replace I : INI 186 106 4 g218 z := I_sr (a := 168) (k := 20) (b := 185) I rfl (by decide +kernel) e
  clear e
  rw [I.1]
  refine ⟨by decide, fun g219 e => ?_⟩
  replace I : INI 187 106 4 g219 z := I_na I rfl e
  clear e
  refine ⟨I_o I (by decide) rfl, fun g220 e => ?_⟩
  replace I : INI 187 107 4 g220 z := I_sr (a := 168) (k := 21) (b := 186) I rfl (by decide +kernel) e
  clear e
  rw [I.1]
  refine ⟨by decide, fun g221 e => ?_⟩
  replace I : INI 188 107 4 g221 z := I_na I rfl e
  clear e
  refine ⟨I_o I (by decide) rfl, fun g222 e => ?_⟩
  replace I : INI 188 108 4 g222 z := I_sr (a := 168) (k := 24) (b := 187) I rfl (by decide +kernel) e
  clear e
  rw [I.1]
  refine ⟨by decide, fun g223 e => ?_⟩
  replace I : INI 189 108 4 g223 z := I_na I rfl e
  clear e
  refine ⟨I_o I (by decide) rfl, fun g224 e => ?_⟩
  replace I : INI 189 109 4 g224 z := I_sr (a := 168) (k := 25) (b := 188) I rfl (by decide +kernel) e
  clear e
  rw [I.1]
  refine ⟨by decide, fun g225 e => ?_⟩
  replace I : INI 190 109 4 g225 z := I_na I rfl e
  clear e
  refine ⟨I_o I (by decide) rfl, fun g226 e => ?_⟩
  replace I : INI 190 110 4 g226 z := I_sr (a := 168) (k := 26) (b := 189) I rfl (by decide +kernel) e
  clear e
  rw [I.1]
  refine ⟨by decide, fun g227 e => ?_⟩
  replace I : INI 191 110 4 g227 z := I_na I rfl e
  clear e
  refine ⟨I_o I (by decide) rfl, fun g228 e => ?_⟩
  replace I : INI 191 111 4 g228 z := I_sr (a := 168) (k := 27) (b := 190) I rfl (by decide +kernel) e
  clear e
  rw [I.1]
  refine ⟨by decide, fun g229 e => ?_⟩
  replace I : INI 192 111 4 g229 z := I_na I rfl e
  clear e
  refine ⟨I_o I (by decide) rfl, fun g230 e => ?_⟩
  replace I : INI 192 112 4 g230 z := I_sr (a := 168) (k := 28) (b := 191) I rfl (by decide +kernel) e
  clear e
  rw [I.1]
  refine ⟨by decide, fun g231 e => ?_⟩
  replace I : INI 193 112 4 g231 z := I_na I rfl e
  clear e
  refine ⟨I_o I (by decide) rfl, fun g232 e => ?_⟩
  replace I : INI 193 113 4 g232 z := I_sr (a := 168) (k := 30) (b := 192) I rfl (by decide +kernel) e
  clear e
  rw [I.1]
  refine ⟨by decide, fun g233 e => ?_⟩
  replace I : INI 194 113 4 g233 z := I_na I rfl e
  clear e
  refine ⟨I_o I (by decide) rfl, fun g234 e => ?_⟩
  replace I : INI 194 114 4 g234 z := I_sr (a := 168) (k := 31) (b := 193) I rfl (by decide +kernel) e
  clear e
  rw [I.1]
  refine ⟨by decide, fun g235 e => ?_⟩
  replace I : INI 195 114 4 g235 z := I_na I rfl e
  clear e
  refine ⟨I_o I (by decide) rfl, fun g236 e => ?_⟩
  replace I : INI 195 115 4 g236 z := I_sr (a := 168) (k := 32) (b := 194) I rfl (by decide +kernel) e
  clear e
  rw [I.1]
  refine ⟨by decide, fun g237 e => ?_⟩
  replace I : INI 196 115 4 g237 z := I_na I rfl e
  clear e
  refine ⟨I_o I (by decide) rfl, fun g238 e => ?_⟩
  replace I : INI 196 116 4 g238 z := I_sr (a := 168) (k := 33) (b := 195) I rfl (by decide +kernel) e
  clear e
  rw [I.1]
  refine ⟨by decide, fun g239 e => ?_⟩
  replace I : INI 197 116 4 g239 z := I_na I rfl e
  clear e
  refine ⟨I_o I (by decide) rfl, fun g240 e => ?_⟩
  replace I : INI 197 117 4 g240 z := I_sr (a := 168) (k := 34) (b := 196) I rfl (by decide +kernel) e
  clear e
  rw [I.1]
  refine ⟨by decide, fun g241 e => ?_⟩
  replace I : INI 198 117 4 g241 z := I_na I rfl e
  clear e
  refine ⟨I_o I (by decide) rfl, fun g242 e => ?_⟩
  replace I : INI 198 118 4 g242 z := I_sr (a := 168) (k := 36) (b := 197) I rfl (by decide +kernel) e
  clear e
  rw [I.1]
  refine ⟨by decide, fun g243 e => ?_⟩
  replace I : INI 199 118 4 g243 z := I_na I rfl e
  clear e
  refine ⟨I_o I (by decide) rfl, fun g244 e => ?_⟩
  replace I : INI 199 119 4 g244 z := I_sr (a := 168) (k := 37) (b := 198) I rfl (by decide +kernel) e
  clear e
  rw [I.1]
  refine ⟨by decide, fun g245 e => ?_⟩
  replace I : INI 200 119 4 g245 z := I_na I rfl e
  clear e
  refine ⟨I_o I (by decide) rfl, fun g246 e => ?_⟩
  replace I : INI 200 120 4 g246 z := I_sr (a := 168) (k := 39) (b := 199) I rfl (by decide +kernel) e
  clear e
  rw [I.1]
  refine ⟨by decide, fun g247 e => ?_⟩
  replace I : INI 201 120 4 g247 z := I_na I rfl e
  clear e
  refine ⟨I_o I (by decide) rfl, fun g248 e => ?_⟩
  replace I : INI 201 121 4 g248 z := I_sr (a := 168) (k := 40) (b := 200) I rfl (by decide +kernel) e
  clear e
  rw [I.1]
  refine ⟨by decide, fun g249 e => ?_⟩
  replace I : INI 202 121 4 g249 z := I_na I rfl e
  clear e
  refine ⟨I_o I (by decide) rfl, fun g250 e => ?_⟩
  replace I : INI 202 122 4 g250 z := I_sr (a := 168) (k := 41) (b := 201) I rfl (by decide +kernel) e
  clear e
  rw [I.1]
  refine ⟨by decide, fun g251 e => ?_⟩
  replace I : INI 203 122 4 g251 z := I_na I rfl e
  clear e
  refine ⟨I_o I (by decide) rfl, fun g252 e => ?_⟩
  replace I : INI 203 123 4 g252 z := I_sr (a := 168) (k := 42) (b := 202) I rfl (by decide +kernel) e
  clear e
  rw [I.1]
  refine ⟨by decide, fun g253 e => ?_⟩
  replace I : INI 204 123 4 g253 z := I_na I rfl e
  clear e
  refine ⟨I_o I (by decide) rfl, fun g254 e => ?_⟩
  replace I : INI 204 124 4 g254 z := I_sr (a := 168) (k := 43) (b := 203) I rfl (by decide +kernel) e
  clear e
  rw [I.1]
  refine ⟨by decide, fun g255 e => ?_⟩
  replace I : INI 205 124 4 g255 z := I_na I rfl e
  clear e
  refine ⟨I_o I (by decide) rfl, fun g256 e => ?_⟩
  replace I : INI 205 125 4 g256 z := I_sr (a := 168) (k := 44) (b := 204) I rfl (by decide +kernel) e
  clear e
  rw [I.1]
  refine ⟨by decide, fun g257 e => ?_⟩
  replace I : INI 206 125 4 g257 z := I_na I rfl e
  clear e
  refine ⟨I_o I (by decide) rfl, fun g258 e => ?_⟩
  replace I : INI 206 126 4 g258 z := I_sr (a := 168) (k := 45) (b := 205) I rfl (by decide +kernel) e
  clear e
  rw [I.1]
  refine ⟨by decide, fun g259 e => ?_⟩
  replace I : INI 207 126 4 g259 z := I_na I rfl e
  clear e
  refine ⟨I_o I (by decide) rfl, fun g260 e => ?_⟩
  replace I : INI 207 127 4 g260 z := I_sr (a := 168) (k := 46) (b := 206) I rfl (by decide +kernel) e
  clear e
  rw [I.1]
  refine ⟨by decide, fun g261 e => ?_⟩
  replace I : INI 208 127 4 g261 z := I_na I rfl e
  clear e
  refine ⟨I_o I (by decide) rfl, fun g262 e => ?_⟩
  replace I : INI 208 128 4 g262 z := I_sr (a := 168) (k := 47) (b := 207) I rfl (by decide +kernel) e
  clear e
  rw [I.1]
  refine ⟨by decide, fun g263 e => ?_⟩
  replace I : INI 209 128 4 g263 z := I_na I rfl e
  clear e
  refine ⟨I_o I (by decide) rfl, fun g264 e => ?_⟩
  replace I : INI 209 129 4 g264 z := I_sr (a := 168) (k := 48) (b := 208) I rfl (by decide +kernel) e
  clear e
  rw [I.1]
  refine ⟨by decide, fun g265 e => ?_⟩
  replace I : INI 210 129 4 g265 z := I_na I rfl e
  clear e
  refine ⟨I_o I (by decide) rfl, fun g266 e => ?_⟩
  replace I : INI 210 130 4 g266 z := I_sr (a := 168) (k := 55) (b := 209) I rfl (by decide +kernel) e
  clear e
  rw [I.1]
  refine ⟨by decide, fun g267 e => ?_⟩
  replace I : INI 211 130 4 g267 z := I_na I rfl e
  clear e
  refine ⟨I_o I (by decide) rfl, fun g268 e => ?_⟩
  replace I : INI 211 131 4 g268 z := I_sr (a := 168) (k := 56) (b := 210) I rfl (by decide +kernel) e
  clear e
  rw [I.1]
  refine ⟨by decide, fun g269 e => ?_⟩
  replace I : INI 212 131 4 g269 z := I_na I rfl e
  clear e
  refine ⟨I_o I (by decide) rfl, fun g270 e => ?_⟩
  replace I : INI 212 132 4 g270 z := I_sr (a := 168) (k := 57) (b := 211) I rfl (by decide +kernel) e
  clear e
  rw [I.1]
  refine ⟨by decide, fun g271 e => ?_⟩
  replace I : INI 213 132 4 g271 z := I_na I rfl e
  clear e
  refine ⟨I_o I (by decide) rfl, fun g272 e => ?_⟩
  replace I : INI 213 133 4 g272 z := I_sr (a := 168) (k := 58) (b := 212) I rfl (by decide +kernel) e
  clear e
  rw [I.1]
  refine ⟨by decide, fun g273 e => ?_⟩
  replace I : INI 214 133 4 g273 z := I_na I rfl e
  clear e
  refine ⟨I_o I (by decide) rfl, fun g274 e => ?_⟩
  replace I : INI 214 134 4 g274 z := I_sr (a := 168) (k := 61) (b := 213) I rfl (by decide +kernel) e
  clear e
  rw [I.1]
  refine ⟨by decide, fun g275 e => ?_⟩
  replace I : INI 215 134 4 g275 z := I_na I rfl e
  clear e
  refine ⟨I_o I (by decide) rfl, fun g276 e => ?_⟩
  replace I : INI 215 135 4 g276 z := I_sr (a := 168) (k := 63) (b := 214) I rfl (by decide +kernel) e
  clear e
  rw [I.1]
  refine ⟨by decide, fun g277 e => ?_⟩
  replace I : INI 216 135 4 g277 z := I_na I rfl e
  clear e
  refine ⟨I_o I (by decide) rfl, fun g278 e => ?_⟩
  replace I : INI 216 136 4 g278 z := I_sr (a := 168) (k := 64) (b := 215) I rfl (by decide +kernel) e
  clear e
  refine lp 24 (fun i h' => INI 216 136 4 h' z) (fun i h' => ex_G mX12_init (d + 1) 417 [.ref 168, .int (nI i)] [] h' 0 0 Q) I ?_ ?_
  · intro i h' hi I' next
    refine X12_init_417 ⟨fun w => absurd ((nI_leI (a := 24) (by omega) (by omega)).mp w) (by omega), fun _ => ⟨I_o I' (by decide) rfl, 174, I_r I' 94 rfl (by decide), (st0_x (I_x I' (by decide) rfl) _).mpr ((ix_nI (by omega)).mpr hi), fun h4 e4 x6 e6 => ?_⟩⟩
    rw [e6, show nI i + 1 = nI (i + 1) from nI_add i 1]
    exact next h4 (I_si I' (by decide) e4)
  · intro h' I'
    exact X12_init_417 ⟨fun _ => k h' I', fun w => absurd (show (24 : Int32) ≤ nI 24 by decide) w⟩
theorem RD_mem : ∀ t ∈ R0L, t ∈ RD := by decide +kernel
/-- the relation at the start -/
theorem R0_init {S : Nat → Int32} {len : Nat} (I : INI 216 136 4 h z) (O : OLD z S len) : R0 h (fun _ => 0) 0 (fun _ => 0) S len ∧ SC h (fun _ => 0) := by
  obtain ⟨i1, i2, i3, i4, i5, i6, i7, i8, i9, i10, i11, i12⟩ := I
  have rd : ∀ t ∈ RD, ah_r h t.1 t.2.1 = some t.2.2 := fun t ht => by
    obtain ⟨i, hi, e⟩ := List.getElem_of_mem ht
    have hi' : i < 136 := hi
    exact i3 i t hi' (by rw [List.getElem?_eq_getElem hi, e])
  have K : sp h := ⟨by rw [i1]; exact Nat.le_refl _, fun a ha => i2 a ha, fun t ht => rd t (RD_mem t ht)⟩
  have L : LAC h := by
    refine ⟨fun b hb => Or.inl ?_, i9 (by omega), fun i => i, fun i hi => ⟨i10 (by omega) i hi, hi⟩, fun i j _ _ e => e⟩
    rcases hb with e | e | e
    · rw [e]; exact ⟨rd (73, 0, 74) (by decide +kernel), rd (73, 1, 75) (by decide +kernel)⟩
    · rw [e]; exact ⟨rd (76, 0, 77) (by decide +kernel), rd (76, 1, 78) (by decide +kernel)⟩
    · rw [e]; exact ⟨rd (79, 0, 80) (by decide +kernel), rd (79, 1, 81) (by decide +kernel)⟩
  have f0 : ∀ a k, a < 216 → ¬ (a = 0 ∧ k = 17) → ¬ (a = 168 ∧ (k = 9 ∨ k = 15)) → ah_f h a k = nI 0 := fun a k a1 a2 a3 => i4 a k (by omega) a2 a3
  have Oh : OLD h S len := by
    unfold OLD at O ⊢
    rw [(i8 10000000 (by decide)).1, (i8 10000000 (by decide)).2, (i8 10000001 (by decide)).1, (i8 10000001 (by decide)).2, (i8 10000002 (by decide)).1, (i8 10000002 (by decide)).2]
    exact O
  refine ⟨⟨⟨?_, ?_, ?_, fun k _ _ => ?_⟩, K, L, Oh, ⟨by omega, f0 0 15 (by decide) (by decide) (by decide), f0 168 6 (by decide) (by decide) (by decide), fun p hp => absurd hp (Nat.not_lt_zero p)⟩, ⟨0, by omega, f0 0 16 (by decide) (by decide) (by decide), f0 168 35 (by decide) (by decide) (by decide), fun k hk => absurd hk (Nat.not_lt_zero k)⟩, ⟨⟨0, by omega, f0 3 1 (by decide) (by decide) (by decide), f0 168 29 (by decide) (by decide) (by decide), fun k hk => absurd hk (Nat.not_lt_zero k)⟩, ⟨0, by omega, f0 5 1 (by decide) (by decide) (by decide), f0 168 38 (by decide) (by decide) (by decide), fun k hk => absurd hk (Nat.not_lt_zero k)⟩, ⟨0, by omega, f0 134 1 (by decide) (by decide) (by decide), f0 168 59 (by decide) (by decide) (by decide), fun k hk => absurd hk (Nat.not_lt_zero k)⟩⟩, ⟨74, Or.inl rfl, rd (73, 0, 74) (by decide +kernel), ?_, Or.inl ⟨f0 168 22 (by decide) (by decide) (by decide), fun k _ => i6 74 k (by decide)⟩⟩, ⟨0, by omega, f0 32 3 (by decide) (by decide) (by decide), f0 168 23 (by decide) (by decide) (by decide)⟩, ⟨0, by omega, f0 164 2 (by decide) (by decide) (by decide), f0 168 62 (by decide) (by decide) (by decide), fun k hk => absurd hk (Nat.not_lt_zero k), fun k hk => absurd hk (Nat.not_lt_zero k)⟩⟩, ⟨0, ⟨by omega, fun k hk => absurd hk (Nat.not_lt_zero k), fun k _ _ => i7 126 k (by decide) (by decide) (by decide)⟩, Or.inl ⟨f0 125 8 (by decide) (by decide) (by decide), f0 168 49 (by decide) (by decide) (by decide)⟩⟩⟩
  · rw [f0 0 19 (by decide) (by decide) (by decide), f0 168 0 (by decide) (by decide) (by decide)]
  · rw [i11 (by omega), i12 (by omega)]
  · rw [f0 0 18 (by decide) (by decide) (by decide), f0 168 60 (by decide) (by decide) (by decide)]
  · rw [i5 167 k (by decide) (by decide) (by decide) (by decide), i5 169 k (by decide) (by decide) (by decide) (by decide)]
  · rw [f0 73 2 (by decide) (by decide) (by decide), f0 168 22 (by decide) (by decide) (by decide)]
end INIT
