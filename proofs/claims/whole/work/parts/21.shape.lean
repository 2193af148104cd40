/-! The 216 cells that the constructors make: kinds, references. -/
def K0L : List (Nat × Nat) := [(31, 0), (11, 24), (9, 60), (26, 0), (0, 130), (26, 0), (0, 3), (24, 0), (0, 160), (0, 160), (0, 160), (0, 160), (0, 160), (0, 160), (0, 40), (0, 40), (0, 40), (0, 100), (24, 0), (0, 160), (0, 160), (0, 160), (0, 160), (0, 160), (0, 160), (0, 40), (0, 40), (0, 40), (0, 100), (27, 0), (0, 40), (0, 160), (29, 0), (0, 56), (3, 38), (0, 15), (0, 15), (0, 15), (0, 15), (0, 15), (0, 15), (0, 15), (0, 15), (0, 15), (0, 15), (0, 15), (0, 15), (0, 15), (0, 15), (0, 15), (0, 15), (0, 15), (0, 15), (0, 15), (0, 15), (0, 15), (0, 15), (0, 15), (0, 15), (0, 15), (0, 15), (0, 15), (0, 15), (0, 15), (0, 15), (0, 15), (0, 15), (0, 15), (0, 15), (0, 15), (0, 15), (0, 15), (0, 15), (22, 0), (2, 281), (2, 281), (22, 0), (2, 281), (2, 281), (22, 0), (2, 281), (2, 281), (21, 0), (0, 160), (3, 40), (0, 80), (0, 80), (0, 80), (0, 80), (0, 80), (0, 80), (0, 80), (0, 80), (0, 80), (0, 80), (0, 80), (0, 80), (0, 80), (0, 80), (0, 80), (0, 80), (0, 80), (0, 80), (0, 80), (0, 80), (0, 80), (0, 80), (0, 80), (0, 80), (0, 80), (0, 80), (0, 80), (0, 80), (0, 80), (0, 80), (0, 80), (0, 80), (0, 80), (0, 80), (0, 80), (0, 80), (0, 80), (0, 80), (0, 80), (0, 80), (28, 0), (14, 100), (30, 0), (0, 48), (0, 48), (23, 0), (0, 40), (0, 40), (0, 40), (26, 0), (0, 100), (27, 0), (0, 40), (0, 160), (27, 0), (0, 40), (0, 160), (24, 0), (0, 160), (0, 160), (0, 160), (0, 160), (0, 160), (0, 160), (0, 40), (0, 40), (0, 40), (0, 100), (24, 0), (0, 160), (0, 160), (0, 160), (0, 160), (0, 160), (0, 160), (0, 40), (0, 40), (0, 40), (0, 100), (20, 0), (2, 200), (6, 200), (0, 10), (32, 0), (0, 10), (0, 368), (0, 368), (0, 14720), (0, 58880), (0, 24), (0, 4), (0, 160), (0, 160), (1, 160), (0, 100), (0, 100), (0, 160), (1, 160), (0, 100), (0, 4000), (2, 601), (2, 601), (0, 160), (2, 1800), (2, 601), (2, 601), (0, 130), (0, 40), (0, 40), (0, 160), (1, 100), (0, 160), (0, 240), (0, 3), (0, 40), (0, 40), (0, 40), (0, 160), (0, 160), (0, 41), (0, 160), (1, 40), (0, 210), (0, 210), (0, 100), (0, 100), (0, 7000), (0, 100), (2, 601), (2, 200), (2, 120200)]
def kd (a : Nat) : Nat × Nat := K0L.getD a (0, 0)
def R0L : List (Nat × Nat × Nat) := [(0, 0, 1), (0, 1, 2), (0, 2, 3), (0, 3, 5), (0, 4, 7), (0, 5, 18), (0, 6, 29), (0, 7, 32), (0, 8, 73), (0, 9, 76), (0, 10, 79), (0, 11, 82), (0, 12, 125), (0, 13, 164), (0, 14, 167), (3, 0, 4), (5, 0, 6), (7, 0, 8), (7, 1, 9), (7, 2, 10), (7, 3, 11), (7, 4, 12), (7, 5, 13), (7, 6, 14), (7, 7, 15), (7, 8, 16), (7, 9, 17), (18, 0, 19), (18, 1, 20), (18, 2, 21), (18, 3, 22), (18, 4, 23), (18, 5, 24), (18, 6, 25), (18, 7, 26), (18, 8, 27), (18, 9, 28), (29, 0, 30), (29, 1, 31), (32, 0, 33), (32, 1, 34), (82, 0, 83), (82, 1, 84), (125, 0, 126), (125, 1, 127), (125, 2, 130), (125, 3, 134), (125, 4, 136), (125, 5, 139), (125, 6, 142), (125, 7, 153), (127, 0, 128), (127, 1, 129), (130, 0, 131), (130, 1, 132), (130, 2, 133), (134, 0, 135), (136, 0, 137), (136, 1, 138), (139, 0, 140), (139, 1, 141), (142, 0, 143), (142, 1, 144), (142, 2, 145), (142, 3, 146), (142, 4, 147), (142, 5, 148), (142, 6, 149), (142, 7, 150), (142, 8, 151), (142, 9, 152), (153, 0, 154), (153, 1, 155), (153, 2, 156), (153, 3, 157), (153, 4, 158), (153, 5, 159), (153, 6, 160), (153, 7, 161), (153, 8, 162), (153, 9, 163), (164, 0, 165), (164, 1, 166), (168, 1, 169), (168, 2, 170), (168, 3, 171), (168, 4, 172), (168, 5, 173), (168, 7, 174), (168, 8, 175), (168, 10, 176), (168, 11, 177), (168, 12, 178), (168, 13, 179), (168, 14, 180), (168, 16, 181), (168, 17, 182), (168, 18, 183), (168, 19, 184), (168, 20, 185), (168, 21, 186), (168, 24, 187), (168, 25, 188), (168, 26, 189), (168, 27, 190), (168, 28, 191), (168, 30, 192), (168, 31, 193), (168, 32, 194), (168, 33, 195), (168, 34, 196), (168, 36, 197), (168, 37, 198), (168, 39, 199), (168, 40, 200), (168, 41, 201), (168, 42, 202), (168, 43, 203), (168, 44, 204), (168, 45, 205), (168, 46, 206), (168, 47, 207), (168, 48, 208), (168, 55, 209), (168, 56, 210), (168, 57, 211), (168, 58, 212), (168, 61, 213), (168, 63, 214), (168, 64, 215)]
def sp (h : AH) : Prop := 216 ≤ ah_n h ∧ (∀ a, a < 216 → ah_k h a = kd a) ∧ ∀ t ∈ R0L, ah_r h t.1 t.2.1 = some t.2.2
theorem sp_k {h : AH} (K : sp h) (a : Nat) {t : Nat × Nat} (ha : a < 216) (e : kd a = t) : ah_k h a = t := (K.2.1 a ha).trans e
theorem sp_x {h : AH} (K : sp h) (a : Nat) {t n : Nat} (ha : a < 216) (e : kd a = (t, n)) : ah_x h a t n := ⟨Nat.lt_of_lt_of_le ha K.1, sp_k K a ha e⟩
theorem sp_o {h : AH} (K : sp h) (a : Nat) {c : Nat} (ha : a < 216) (e : kd a = (20 + c, 0)) : ah_o h a c := ⟨Nat.lt_of_lt_of_le ha K.1, by rw [sp_k K a ha e]⟩
theorem ah_x_u {h : AH} {a t n n' : Nat} (x : ah_x h a t n) (y : ah_x h a t n') : n' = n := congrArg Prod.snd (y.2.symm.trans x.2)
theorem ld0_x {h : AH} {a n : Nat} (x : ah_x h a 0 n) (i : Int32) (ha : a < 10000000) : ld0 h a i ↔ ix i n := by
  constructor
  · rintro ⟨m, y | ⟨j, hj, e, -⟩, q⟩
    · rw [ah_x_u x y] at q; exact q
    · omega
  · intro q; exact ⟨n, Or.inl x, q⟩
theorem st0_x {h : AH} {a n : Nat} (x : ah_x h a 0 n) (i : Int32) : st0 h a i ↔ ix i n := ⟨fun ⟨m, y, q⟩ => by rw [ah_x_u x y] at q; exact q, fun q => ⟨n, x, q⟩⟩
theorem ld1_x {h : AH} {a n : Nat} (x : ah_x h a 1 n) (i : Int32) : ld1 h a i ↔ ix i n := ⟨fun ⟨m, y, q⟩ => by rw [ah_x_u x y] at q; exact q, fun q => ⟨n, x, q⟩⟩
theorem ld2_x {h : AH} {a n : Nat} (x : ah_x h a 2 n) (i : Int32) : ld2 h a i ↔ ix i n := ⟨fun ⟨m, y, q⟩ => by rw [ah_x_u x y] at q; exact q, fun q => ⟨n, x, q⟩⟩
theorem ld3_x {h : AH} {a t n : Nat} (x : ah_x h a t n) (i : Int32) : ld3 h t a i ↔ ix i n := ⟨fun ⟨m, y, q⟩ => by rw [ah_x_u x y] at q; exact q, fun q => ⟨n, x, q⟩⟩
theorem sp_fr {L : List Nat} {h h' : AH} (K : sp h) (x : fr L h h') : sp h' := ⟨by rw [x.1.1]; exact K.1, fun a ha => by rw [x.1.2.1]; exact K.2.1 a ha, fun t ht => by rw [x.1.2.2.1]; exact K.2.2 t ht⟩

theorem o0 {h : AH} (K : sp h) : ah_o h 0 11 := sp_o K 0 (by decide) rfl
theorem s1 {h : AH} (K : sp h) (i : Int32) : ld3 h 11 1 i ↔ ix i 24 := ld3_x (sp_x K 1 (by decide) rfl) i
theorem s2 {h : AH} (K : sp h) (i : Int32) : ld3 h 9 2 i ↔ ix i 60 := ld3_x (sp_x K 2 (by decide) rfl) i
theorem o3 {h : AH} (K : sp h) : ah_o h 3 6 := sp_o K 3 (by decide) rfl
theorem s4 {h : AH} (K : sp h) (i : Int32) : ld0 h 4 i ↔ ix i 130 := ld0_x (sp_x K 4 (by decide) rfl) i (by decide)
theorem t4 {h : AH} (K : sp h) (i : Int32) : st0 h 4 i ↔ ix i 130 := st0_x (sp_x K 4 (by decide) rfl) i
theorem o5 {h : AH} (K : sp h) : ah_o h 5 6 := sp_o K 5 (by decide) rfl
theorem s6 {h : AH} (K : sp h) (i : Int32) : ld0 h 6 i ↔ ix i 3 := ld0_x (sp_x K 6 (by decide) rfl) i (by decide)
theorem t6 {h : AH} (K : sp h) (i : Int32) : st0 h 6 i ↔ ix i 3 := st0_x (sp_x K 6 (by decide) rfl) i
theorem o7 {h : AH} (K : sp h) : ah_o h 7 4 := sp_o K 7 (by decide) rfl
theorem s8 {h : AH} (K : sp h) (i : Int32) : ld0 h 8 i ↔ ix i 160 := ld0_x (sp_x K 8 (by decide) rfl) i (by decide)
theorem t8 {h : AH} (K : sp h) (i : Int32) : st0 h 8 i ↔ ix i 160 := st0_x (sp_x K 8 (by decide) rfl) i
theorem s9 {h : AH} (K : sp h) (i : Int32) : ld0 h 9 i ↔ ix i 160 := ld0_x (sp_x K 9 (by decide) rfl) i (by decide)
theorem t9 {h : AH} (K : sp h) (i : Int32) : st0 h 9 i ↔ ix i 160 := st0_x (sp_x K 9 (by decide) rfl) i
theorem s10 {h : AH} (K : sp h) (i : Int32) : ld0 h 10 i ↔ ix i 160 := ld0_x (sp_x K 10 (by decide) rfl) i (by decide)
theorem t10 {h : AH} (K : sp h) (i : Int32) : st0 h 10 i ↔ ix i 160 := st0_x (sp_x K 10 (by decide) rfl) i
theorem s11 {h : AH} (K : sp h) (i : Int32) : ld0 h 11 i ↔ ix i 160 := ld0_x (sp_x K 11 (by decide) rfl) i (by decide)
theorem t11 {h : AH} (K : sp h) (i : Int32) : st0 h 11 i ↔ ix i 160 := st0_x (sp_x K 11 (by decide) rfl) i
theorem s12 {h : AH} (K : sp h) (i : Int32) : ld0 h 12 i ↔ ix i 160 := ld0_x (sp_x K 12 (by decide) rfl) i (by decide)
theorem t12 {h : AH} (K : sp h) (i : Int32) : st0 h 12 i ↔ ix i 160 := st0_x (sp_x K 12 (by decide) rfl) i
theorem s13 {h : AH} (K : sp h) (i : Int32) : ld0 h 13 i ↔ ix i 160 := ld0_x (sp_x K 13 (by decide) rfl) i (by decide)
theorem t13 {h : AH} (K : sp h) (i : Int32) : st0 h 13 i ↔ ix i 160 := st0_x (sp_x K 13 (by decide) rfl) i
theorem s14 {h : AH} (K : sp h) (i : Int32) : ld0 h 14 i ↔ ix i 40 := ld0_x (sp_x K 14 (by decide) rfl) i (by decide)
theorem t14 {h : AH} (K : sp h) (i : Int32) : st0 h 14 i ↔ ix i 40 := st0_x (sp_x K 14 (by decide) rfl) i
theorem s15 {h : AH} (K : sp h) (i : Int32) : ld0 h 15 i ↔ ix i 40 := ld0_x (sp_x K 15 (by decide) rfl) i (by decide)
theorem t15 {h : AH} (K : sp h) (i : Int32) : st0 h 15 i ↔ ix i 40 := st0_x (sp_x K 15 (by decide) rfl) i
theorem s16 {h : AH} (K : sp h) (i : Int32) : ld0 h 16 i ↔ ix i 40 := ld0_x (sp_x K 16 (by decide) rfl) i (by decide)
theorem t16 {h : AH} (K : sp h) (i : Int32) : st0 h 16 i ↔ ix i 40 := st0_x (sp_x K 16 (by decide) rfl) i
theorem s17 {h : AH} (K : sp h) (i : Int32) : ld0 h 17 i ↔ ix i 100 := ld0_x (sp_x K 17 (by decide) rfl) i (by decide)
theorem t17 {h : AH} (K : sp h) (i : Int32) : st0 h 17 i ↔ ix i 100 := st0_x (sp_x K 17 (by decide) rfl) i
theorem o18 {h : AH} (K : sp h) : ah_o h 18 4 := sp_o K 18 (by decide) rfl
theorem s19 {h : AH} (K : sp h) (i : Int32) : ld0 h 19 i ↔ ix i 160 := ld0_x (sp_x K 19 (by decide) rfl) i (by decide)
theorem t19 {h : AH} (K : sp h) (i : Int32) : st0 h 19 i ↔ ix i 160 := st0_x (sp_x K 19 (by decide) rfl) i
theorem s20 {h : AH} (K : sp h) (i : Int32) : ld0 h 20 i ↔ ix i 160 := ld0_x (sp_x K 20 (by decide) rfl) i (by decide)
theorem t20 {h : AH} (K : sp h) (i : Int32) : st0 h 20 i ↔ ix i 160 := st0_x (sp_x K 20 (by decide) rfl) i
theorem s21 {h : AH} (K : sp h) (i : Int32) : ld0 h 21 i ↔ ix i 160 := ld0_x (sp_x K 21 (by decide) rfl) i (by decide)
theorem t21 {h : AH} (K : sp h) (i : Int32) : st0 h 21 i ↔ ix i 160 := st0_x (sp_x K 21 (by decide) rfl) i
theorem s22 {h : AH} (K : sp h) (i : Int32) : ld0 h 22 i ↔ ix i 160 := ld0_x (sp_x K 22 (by decide) rfl) i (by decide)
theorem t22 {h : AH} (K : sp h) (i : Int32) : st0 h 22 i ↔ ix i 160 := st0_x (sp_x K 22 (by decide) rfl) i
theorem s23 {h : AH} (K : sp h) (i : Int32) : ld0 h 23 i ↔ ix i 160 := ld0_x (sp_x K 23 (by decide) rfl) i (by decide)
theorem t23 {h : AH} (K : sp h) (i : Int32) : st0 h 23 i ↔ ix i 160 := st0_x (sp_x K 23 (by decide) rfl) i
theorem s24 {h : AH} (K : sp h) (i : Int32) : ld0 h 24 i ↔ ix i 160 := ld0_x (sp_x K 24 (by decide) rfl) i (by decide)
theorem t24 {h : AH} (K : sp h) (i : Int32) : st0 h 24 i ↔ ix i 160 := st0_x (sp_x K 24 (by decide) rfl) i
theorem s25 {h : AH} (K : sp h) (i : Int32) : ld0 h 25 i ↔ ix i 40 := ld0_x (sp_x K 25 (by decide) rfl) i (by decide)
theorem t25 {h : AH} (K : sp h) (i : Int32) : st0 h 25 i ↔ ix i 40 := st0_x (sp_x K 25 (by decide) rfl) i
theorem s26 {h : AH} (K : sp h) (i : Int32) : ld0 h 26 i ↔ ix i 40 := ld0_x (sp_x K 26 (by decide) rfl) i (by decide)
theorem t26 {h : AH} (K : sp h) (i : Int32) : st0 h 26 i ↔ ix i 40 := st0_x (sp_x K 26 (by decide) rfl) i
theorem s27 {h : AH} (K : sp h) (i : Int32) : ld0 h 27 i ↔ ix i 40 := ld0_x (sp_x K 27 (by decide) rfl) i (by decide)
theorem t27 {h : AH} (K : sp h) (i : Int32) : st0 h 27 i ↔ ix i 40 := st0_x (sp_x K 27 (by decide) rfl) i
theorem s28 {h : AH} (K : sp h) (i : Int32) : ld0 h 28 i ↔ ix i 100 := ld0_x (sp_x K 28 (by decide) rfl) i (by decide)
theorem t28 {h : AH} (K : sp h) (i : Int32) : st0 h 28 i ↔ ix i 100 := st0_x (sp_x K 28 (by decide) rfl) i
theorem o29 {h : AH} (K : sp h) : ah_o h 29 7 := sp_o K 29 (by decide) rfl
theorem s30 {h : AH} (K : sp h) (i : Int32) : ld0 h 30 i ↔ ix i 40 := ld0_x (sp_x K 30 (by decide) rfl) i (by decide)
theorem t30 {h : AH} (K : sp h) (i : Int32) : st0 h 30 i ↔ ix i 40 := st0_x (sp_x K 30 (by decide) rfl) i
theorem s31 {h : AH} (K : sp h) (i : Int32) : ld0 h 31 i ↔ ix i 160 := ld0_x (sp_x K 31 (by decide) rfl) i (by decide)
theorem t31 {h : AH} (K : sp h) (i : Int32) : st0 h 31 i ↔ ix i 160 := st0_x (sp_x K 31 (by decide) rfl) i
theorem o32 {h : AH} (K : sp h) : ah_o h 32 9 := sp_o K 32 (by decide) rfl
theorem s33 {h : AH} (K : sp h) (i : Int32) : ld0 h 33 i ↔ ix i 56 := ld0_x (sp_x K 33 (by decide) rfl) i (by decide)
theorem t33 {h : AH} (K : sp h) (i : Int32) : st0 h 33 i ↔ ix i 56 := st0_x (sp_x K 33 (by decide) rfl) i
theorem s34 {h : AH} (K : sp h) (i : Int32) : ld3 h 3 34 i ↔ ix i 38 := ld3_x (sp_x K 34 (by decide) rfl) i
theorem s35 {h : AH} (K : sp h) (i : Int32) : ld0 h 35 i ↔ ix i 15 := ld0_x (sp_x K 35 (by decide) rfl) i (by decide)
theorem t35 {h : AH} (K : sp h) (i : Int32) : st0 h 35 i ↔ ix i 15 := st0_x (sp_x K 35 (by decide) rfl) i
theorem s36 {h : AH} (K : sp h) (i : Int32) : ld0 h 36 i ↔ ix i 15 := ld0_x (sp_x K 36 (by decide) rfl) i (by decide)
theorem t36 {h : AH} (K : sp h) (i : Int32) : st0 h 36 i ↔ ix i 15 := st0_x (sp_x K 36 (by decide) rfl) i
theorem s37 {h : AH} (K : sp h) (i : Int32) : ld0 h 37 i ↔ ix i 15 := ld0_x (sp_x K 37 (by decide) rfl) i (by decide)
theorem t37 {h : AH} (K : sp h) (i : Int32) : st0 h 37 i ↔ ix i 15 := st0_x (sp_x K 37 (by decide) rfl) i
theorem s38 {h : AH} (K : sp h) (i : Int32) : ld0 h 38 i ↔ ix i 15 := ld0_x (sp_x K 38 (by decide) rfl) i (by decide)
theorem t38 {h : AH} (K : sp h) (i : Int32) : st0 h 38 i ↔ ix i 15 := st0_x (sp_x K 38 (by decide) rfl) i
theorem s39 {h : AH} (K : sp h) (i : Int32) : ld0 h 39 i ↔ ix i 15 := ld0_x (sp_x K 39 (by decide) rfl) i (by decide)
theorem t39 {h : AH} (K : sp h) (i : Int32) : st0 h 39 i ↔ ix i 15 := st0_x (sp_x K 39 (by decide) rfl) i
theorem s40 {h : AH} (K : sp h) (i : Int32) : ld0 h 40 i ↔ ix i 15 := ld0_x (sp_x K 40 (by decide) rfl) i (by decide)
theorem t40 {h : AH} (K : sp h) (i : Int32) : st0 h 40 i ↔ ix i 15 := st0_x (sp_x K 40 (by decide) rfl) i
theorem s41 {h : AH} (K : sp h) (i : Int32) : ld0 h 41 i ↔ ix i 15 := ld0_x (sp_x K 41 (by decide) rfl) i (by decide)
theorem t41 {h : AH} (K : sp h) (i : Int32) : st0 h 41 i ↔ ix i 15 := st0_x (sp_x K 41 (by decide) rfl) i
theorem s42 {h : AH} (K : sp h) (i : Int32) : ld0 h 42 i ↔ ix i 15 := ld0_x (sp_x K 42 (by decide) rfl) i (by decide)
theorem t42 {h : AH} (K : sp h) (i : Int32) : st0 h 42 i ↔ ix i 15 := st0_x (sp_x K 42 (by decide) rfl) i
theorem s43 {h : AH} (K : sp h) (i : Int32) : ld0 h 43 i ↔ ix i 15 := ld0_x (sp_x K 43 (by decide) rfl) i (by decide)
theorem t43 {h : AH} (K : sp h) (i : Int32) : st0 h 43 i ↔ ix i 15 := st0_x (sp_x K 43 (by decide) rfl) i
theorem s44 {h : AH} (K : sp h) (i : Int32) : ld0 h 44 i ↔ ix i 15 := ld0_x (sp_x K 44 (by decide) rfl) i (by decide)
theorem t44 {h : AH} (K : sp h) (i : Int32) : st0 h 44 i ↔ ix i 15 := st0_x (sp_x K 44 (by decide) rfl) i
theorem s45 {h : AH} (K : sp h) (i : Int32) : ld0 h 45 i ↔ ix i 15 := ld0_x (sp_x K 45 (by decide) rfl) i (by decide)
theorem t45 {h : AH} (K : sp h) (i : Int32) : st0 h 45 i ↔ ix i 15 := st0_x (sp_x K 45 (by decide) rfl) i
theorem s46 {h : AH} (K : sp h) (i : Int32) : ld0 h 46 i ↔ ix i 15 := ld0_x (sp_x K 46 (by decide) rfl) i (by decide)
theorem t46 {h : AH} (K : sp h) (i : Int32) : st0 h 46 i ↔ ix i 15 := st0_x (sp_x K 46 (by decide) rfl) i
theorem s47 {h : AH} (K : sp h) (i : Int32) : ld0 h 47 i ↔ ix i 15 := ld0_x (sp_x K 47 (by decide) rfl) i (by decide)
theorem t47 {h : AH} (K : sp h) (i : Int32) : st0 h 47 i ↔ ix i 15 := st0_x (sp_x K 47 (by decide) rfl) i
theorem s48 {h : AH} (K : sp h) (i : Int32) : ld0 h 48 i ↔ ix i 15 := ld0_x (sp_x K 48 (by decide) rfl) i (by decide)
theorem t48 {h : AH} (K : sp h) (i : Int32) : st0 h 48 i ↔ ix i 15 := st0_x (sp_x K 48 (by decide) rfl) i
theorem s49 {h : AH} (K : sp h) (i : Int32) : ld0 h 49 i ↔ ix i 15 := ld0_x (sp_x K 49 (by decide) rfl) i (by decide)
theorem t49 {h : AH} (K : sp h) (i : Int32) : st0 h 49 i ↔ ix i 15 := st0_x (sp_x K 49 (by decide) rfl) i
theorem s50 {h : AH} (K : sp h) (i : Int32) : ld0 h 50 i ↔ ix i 15 := ld0_x (sp_x K 50 (by decide) rfl) i (by decide)
theorem t50 {h : AH} (K : sp h) (i : Int32) : st0 h 50 i ↔ ix i 15 := st0_x (sp_x K 50 (by decide) rfl) i
theorem s51 {h : AH} (K : sp h) (i : Int32) : ld0 h 51 i ↔ ix i 15 := ld0_x (sp_x K 51 (by decide) rfl) i (by decide)
theorem t51 {h : AH} (K : sp h) (i : Int32) : st0 h 51 i ↔ ix i 15 := st0_x (sp_x K 51 (by decide) rfl) i
theorem s52 {h : AH} (K : sp h) (i : Int32) : ld0 h 52 i ↔ ix i 15 := ld0_x (sp_x K 52 (by decide) rfl) i (by decide)
theorem t52 {h : AH} (K : sp h) (i : Int32) : st0 h 52 i ↔ ix i 15 := st0_x (sp_x K 52 (by decide) rfl) i
theorem s53 {h : AH} (K : sp h) (i : Int32) : ld0 h 53 i ↔ ix i 15 := ld0_x (sp_x K 53 (by decide) rfl) i (by decide)
theorem t53 {h : AH} (K : sp h) (i : Int32) : st0 h 53 i ↔ ix i 15 := st0_x (sp_x K 53 (by decide) rfl) i
theorem s54 {h : AH} (K : sp h) (i : Int32) : ld0 h 54 i ↔ ix i 15 := ld0_x (sp_x K 54 (by decide) rfl) i (by decide)
theorem t54 {h : AH} (K : sp h) (i : Int32) : st0 h 54 i ↔ ix i 15 := st0_x (sp_x K 54 (by decide) rfl) i
theorem s55 {h : AH} (K : sp h) (i : Int32) : ld0 h 55 i ↔ ix i 15 := ld0_x (sp_x K 55 (by decide) rfl) i (by decide)
theorem t55 {h : AH} (K : sp h) (i : Int32) : st0 h 55 i ↔ ix i 15 := st0_x (sp_x K 55 (by decide) rfl) i
theorem s56 {h : AH} (K : sp h) (i : Int32) : ld0 h 56 i ↔ ix i 15 := ld0_x (sp_x K 56 (by decide) rfl) i (by decide)
theorem t56 {h : AH} (K : sp h) (i : Int32) : st0 h 56 i ↔ ix i 15 := st0_x (sp_x K 56 (by decide) rfl) i
theorem s57 {h : AH} (K : sp h) (i : Int32) : ld0 h 57 i ↔ ix i 15 := ld0_x (sp_x K 57 (by decide) rfl) i (by decide)
theorem t57 {h : AH} (K : sp h) (i : Int32) : st0 h 57 i ↔ ix i 15 := st0_x (sp_x K 57 (by decide) rfl) i
theorem s58 {h : AH} (K : sp h) (i : Int32) : ld0 h 58 i ↔ ix i 15 := ld0_x (sp_x K 58 (by decide) rfl) i (by decide)
theorem t58 {h : AH} (K : sp h) (i : Int32) : st0 h 58 i ↔ ix i 15 := st0_x (sp_x K 58 (by decide) rfl) i
theorem s59 {h : AH} (K : sp h) (i : Int32) : ld0 h 59 i ↔ ix i 15 := ld0_x (sp_x K 59 (by decide) rfl) i (by decide)
theorem t59 {h : AH} (K : sp h) (i : Int32) : st0 h 59 i ↔ ix i 15 := st0_x (sp_x K 59 (by decide) rfl) i
theorem s60 {h : AH} (K : sp h) (i : Int32) : ld0 h 60 i ↔ ix i 15 := ld0_x (sp_x K 60 (by decide) rfl) i (by decide)
theorem t60 {h : AH} (K : sp h) (i : Int32) : st0 h 60 i ↔ ix i 15 := st0_x (sp_x K 60 (by decide) rfl) i
theorem s61 {h : AH} (K : sp h) (i : Int32) : ld0 h 61 i ↔ ix i 15 := ld0_x (sp_x K 61 (by decide) rfl) i (by decide)
theorem t61 {h : AH} (K : sp h) (i : Int32) : st0 h 61 i ↔ ix i 15 := st0_x (sp_x K 61 (by decide) rfl) i
theorem s62 {h : AH} (K : sp h) (i : Int32) : ld0 h 62 i ↔ ix i 15 := ld0_x (sp_x K 62 (by decide) rfl) i (by decide)
theorem t62 {h : AH} (K : sp h) (i : Int32) : st0 h 62 i ↔ ix i 15 := st0_x (sp_x K 62 (by decide) rfl) i
theorem s63 {h : AH} (K : sp h) (i : Int32) : ld0 h 63 i ↔ ix i 15 := ld0_x (sp_x K 63 (by decide) rfl) i (by decide)
theorem t63 {h : AH} (K : sp h) (i : Int32) : st0 h 63 i ↔ ix i 15 := st0_x (sp_x K 63 (by decide) rfl) i
theorem s64 {h : AH} (K : sp h) (i : Int32) : ld0 h 64 i ↔ ix i 15 := ld0_x (sp_x K 64 (by decide) rfl) i (by decide)
theorem t64 {h : AH} (K : sp h) (i : Int32) : st0 h 64 i ↔ ix i 15 := st0_x (sp_x K 64 (by decide) rfl) i
theorem s65 {h : AH} (K : sp h) (i : Int32) : ld0 h 65 i ↔ ix i 15 := ld0_x (sp_x K 65 (by decide) rfl) i (by decide)
theorem t65 {h : AH} (K : sp h) (i : Int32) : st0 h 65 i ↔ ix i 15 := st0_x (sp_x K 65 (by decide) rfl) i
theorem s66 {h : AH} (K : sp h) (i : Int32) : ld0 h 66 i ↔ ix i 15 := ld0_x (sp_x K 66 (by decide) rfl) i (by decide)
theorem t66 {h : AH} (K : sp h) (i : Int32) : st0 h 66 i ↔ ix i 15 := st0_x (sp_x K 66 (by decide) rfl) i
theorem s67 {h : AH} (K : sp h) (i : Int32) : ld0 h 67 i ↔ ix i 15 := ld0_x (sp_x K 67 (by decide) rfl) i (by decide)
theorem t67 {h : AH} (K : sp h) (i : Int32) : st0 h 67 i ↔ ix i 15 := st0_x (sp_x K 67 (by decide) rfl) i
theorem s68 {h : AH} (K : sp h) (i : Int32) : ld0 h 68 i ↔ ix i 15 := ld0_x (sp_x K 68 (by decide) rfl) i (by decide)
theorem t68 {h : AH} (K : sp h) (i : Int32) : st0 h 68 i ↔ ix i 15 := st0_x (sp_x K 68 (by decide) rfl) i
theorem s69 {h : AH} (K : sp h) (i : Int32) : ld0 h 69 i ↔ ix i 15 := ld0_x (sp_x K 69 (by decide) rfl) i (by decide)
theorem t69 {h : AH} (K : sp h) (i : Int32) : st0 h 69 i ↔ ix i 15 := st0_x (sp_x K 69 (by decide) rfl) i
theorem s70 {h : AH} (K : sp h) (i : Int32) : ld0 h 70 i ↔ ix i 15 := ld0_x (sp_x K 70 (by decide) rfl) i (by decide)
theorem t70 {h : AH} (K : sp h) (i : Int32) : st0 h 70 i ↔ ix i 15 := st0_x (sp_x K 70 (by decide) rfl) i
theorem s71 {h : AH} (K : sp h) (i : Int32) : ld0 h 71 i ↔ ix i 15 := ld0_x (sp_x K 71 (by decide) rfl) i (by decide)
theorem t71 {h : AH} (K : sp h) (i : Int32) : st0 h 71 i ↔ ix i 15 := st0_x (sp_x K 71 (by decide) rfl) i
theorem s72 {h : AH} (K : sp h) (i : Int32) : ld0 h 72 i ↔ ix i 15 := ld0_x (sp_x K 72 (by decide) rfl) i (by decide)
theorem t72 {h : AH} (K : sp h) (i : Int32) : st0 h 72 i ↔ ix i 15 := st0_x (sp_x K 72 (by decide) rfl) i
theorem o73 {h : AH} (K : sp h) : ah_o h 73 2 := sp_o K 73 (by decide) rfl
theorem s74 {h : AH} (K : sp h) (i : Int32) : ld2 h 74 i ↔ ix i 281 := ld2_x (sp_x K 74 (by decide) rfl) i
theorem s75 {h : AH} (K : sp h) (i : Int32) : ld2 h 75 i ↔ ix i 281 := ld2_x (sp_x K 75 (by decide) rfl) i
theorem o76 {h : AH} (K : sp h) : ah_o h 76 2 := sp_o K 76 (by decide) rfl
theorem s77 {h : AH} (K : sp h) (i : Int32) : ld2 h 77 i ↔ ix i 281 := ld2_x (sp_x K 77 (by decide) rfl) i
theorem s78 {h : AH} (K : sp h) (i : Int32) : ld2 h 78 i ↔ ix i 281 := ld2_x (sp_x K 78 (by decide) rfl) i
theorem o79 {h : AH} (K : sp h) : ah_o h 79 2 := sp_o K 79 (by decide) rfl
theorem s80 {h : AH} (K : sp h) (i : Int32) : ld2 h 80 i ↔ ix i 281 := ld2_x (sp_x K 80 (by decide) rfl) i
theorem s81 {h : AH} (K : sp h) (i : Int32) : ld2 h 81 i ↔ ix i 281 := ld2_x (sp_x K 81 (by decide) rfl) i
theorem o82 {h : AH} (K : sp h) : ah_o h 82 1 := sp_o K 82 (by decide) rfl
theorem s83 {h : AH} (K : sp h) (i : Int32) : ld0 h 83 i ↔ ix i 160 := ld0_x (sp_x K 83 (by decide) rfl) i (by decide)
theorem t83 {h : AH} (K : sp h) (i : Int32) : st0 h 83 i ↔ ix i 160 := st0_x (sp_x K 83 (by decide) rfl) i
theorem s84 {h : AH} (K : sp h) (i : Int32) : ld3 h 3 84 i ↔ ix i 40 := ld3_x (sp_x K 84 (by decide) rfl) i
theorem s85 {h : AH} (K : sp h) (i : Int32) : ld0 h 85 i ↔ ix i 80 := ld0_x (sp_x K 85 (by decide) rfl) i (by decide)
theorem t85 {h : AH} (K : sp h) (i : Int32) : st0 h 85 i ↔ ix i 80 := st0_x (sp_x K 85 (by decide) rfl) i
theorem s86 {h : AH} (K : sp h) (i : Int32) : ld0 h 86 i ↔ ix i 80 := ld0_x (sp_x K 86 (by decide) rfl) i (by decide)
theorem t86 {h : AH} (K : sp h) (i : Int32) : st0 h 86 i ↔ ix i 80 := st0_x (sp_x K 86 (by decide) rfl) i
theorem s87 {h : AH} (K : sp h) (i : Int32) : ld0 h 87 i ↔ ix i 80 := ld0_x (sp_x K 87 (by decide) rfl) i (by decide)
theorem t87 {h : AH} (K : sp h) (i : Int32) : st0 h 87 i ↔ ix i 80 := st0_x (sp_x K 87 (by decide) rfl) i
theorem s88 {h : AH} (K : sp h) (i : Int32) : ld0 h 88 i ↔ ix i 80 := ld0_x (sp_x K 88 (by decide) rfl) i (by decide)
theorem t88 {h : AH} (K : sp h) (i : Int32) : st0 h 88 i ↔ ix i 80 := st0_x (sp_x K 88 (by decide) rfl) i
theorem s89 {h : AH} (K : sp h) (i : Int32) : ld0 h 89 i ↔ ix i 80 := ld0_x (sp_x K 89 (by decide) rfl) i (by decide)
theorem t89 {h : AH} (K : sp h) (i : Int32) : st0 h 89 i ↔ ix i 80 := st0_x (sp_x K 89 (by decide) rfl) i
theorem s90 {h : AH} (K : sp h) (i : Int32) : ld0 h 90 i ↔ ix i 80 := ld0_x (sp_x K 90 (by decide) rfl) i (by decide)
theorem t90 {h : AH} (K : sp h) (i : Int32) : st0 h 90 i ↔ ix i 80 := st0_x (sp_x K 90 (by decide) rfl) i
theorem s91 {h : AH} (K : sp h) (i : Int32) : ld0 h 91 i ↔ ix i 80 := ld0_x (sp_x K 91 (by decide) rfl) i (by decide)
theorem t91 {h : AH} (K : sp h) (i : Int32) : st0 h 91 i ↔ ix i 80 := st0_x (sp_x K 91 (by decide) rfl) i
theorem s92 {h : AH} (K : sp h) (i : Int32) : ld0 h 92 i ↔ ix i 80 := ld0_x (sp_x K 92 (by decide) rfl) i (by decide)
theorem t92 {h : AH} (K : sp h) (i : Int32) : st0 h 92 i ↔ ix i 80 := st0_x (sp_x K 92 (by decide) rfl) i
theorem s93 {h : AH} (K : sp h) (i : Int32) : ld0 h 93 i ↔ ix i 80 := ld0_x (sp_x K 93 (by decide) rfl) i (by decide)
theorem t93 {h : AH} (K : sp h) (i : Int32) : st0 h 93 i ↔ ix i 80 := st0_x (sp_x K 93 (by decide) rfl) i
theorem s94 {h : AH} (K : sp h) (i : Int32) : ld0 h 94 i ↔ ix i 80 := ld0_x (sp_x K 94 (by decide) rfl) i (by decide)
theorem t94 {h : AH} (K : sp h) (i : Int32) : st0 h 94 i ↔ ix i 80 := st0_x (sp_x K 94 (by decide) rfl) i
theorem s95 {h : AH} (K : sp h) (i : Int32) : ld0 h 95 i ↔ ix i 80 := ld0_x (sp_x K 95 (by decide) rfl) i (by decide)
theorem t95 {h : AH} (K : sp h) (i : Int32) : st0 h 95 i ↔ ix i 80 := st0_x (sp_x K 95 (by decide) rfl) i
theorem s96 {h : AH} (K : sp h) (i : Int32) : ld0 h 96 i ↔ ix i 80 := ld0_x (sp_x K 96 (by decide) rfl) i (by decide)
theorem t96 {h : AH} (K : sp h) (i : Int32) : st0 h 96 i ↔ ix i 80 := st0_x (sp_x K 96 (by decide) rfl) i
theorem s97 {h : AH} (K : sp h) (i : Int32) : ld0 h 97 i ↔ ix i 80 := ld0_x (sp_x K 97 (by decide) rfl) i (by decide)
theorem t97 {h : AH} (K : sp h) (i : Int32) : st0 h 97 i ↔ ix i 80 := st0_x (sp_x K 97 (by decide) rfl) i
theorem s98 {h : AH} (K : sp h) (i : Int32) : ld0 h 98 i ↔ ix i 80 := ld0_x (sp_x K 98 (by decide) rfl) i (by decide)
theorem t98 {h : AH} (K : sp h) (i : Int32) : st0 h 98 i ↔ ix i 80 := st0_x (sp_x K 98 (by decide) rfl) i
theorem s99 {h : AH} (K : sp h) (i : Int32) : ld0 h 99 i ↔ ix i 80 := ld0_x (sp_x K 99 (by decide) rfl) i (by decide)
theorem t99 {h : AH} (K : sp h) (i : Int32) : st0 h 99 i ↔ ix i 80 := st0_x (sp_x K 99 (by decide) rfl) i
theorem s100 {h : AH} (K : sp h) (i : Int32) : ld0 h 100 i ↔ ix i 80 := ld0_x (sp_x K 100 (by decide) rfl) i (by decide)
theorem t100 {h : AH} (K : sp h) (i : Int32) : st0 h 100 i ↔ ix i 80 := st0_x (sp_x K 100 (by decide) rfl) i
theorem s101 {h : AH} (K : sp h) (i : Int32) : ld0 h 101 i ↔ ix i 80 := ld0_x (sp_x K 101 (by decide) rfl) i (by decide)
theorem t101 {h : AH} (K : sp h) (i : Int32) : st0 h 101 i ↔ ix i 80 := st0_x (sp_x K 101 (by decide) rfl) i
theorem s102 {h : AH} (K : sp h) (i : Int32) : ld0 h 102 i ↔ ix i 80 := ld0_x (sp_x K 102 (by decide) rfl) i (by decide)
theorem t102 {h : AH} (K : sp h) (i : Int32) : st0 h 102 i ↔ ix i 80 := st0_x (sp_x K 102 (by decide) rfl) i
theorem s103 {h : AH} (K : sp h) (i : Int32) : ld0 h 103 i ↔ ix i 80 := ld0_x (sp_x K 103 (by decide) rfl) i (by decide)
theorem t103 {h : AH} (K : sp h) (i : Int32) : st0 h 103 i ↔ ix i 80 := st0_x (sp_x K 103 (by decide) rfl) i
theorem s104 {h : AH} (K : sp h) (i : Int32) : ld0 h 104 i ↔ ix i 80 := ld0_x (sp_x K 104 (by decide) rfl) i (by decide)
theorem t104 {h : AH} (K : sp h) (i : Int32) : st0 h 104 i ↔ ix i 80 := st0_x (sp_x K 104 (by decide) rfl) i
theorem s105 {h : AH} (K : sp h) (i : Int32) : ld0 h 105 i ↔ ix i 80 := ld0_x (sp_x K 105 (by decide) rfl) i (by decide)
theorem t105 {h : AH} (K : sp h) (i : Int32) : st0 h 105 i ↔ ix i 80 := st0_x (sp_x K 105 (by decide) rfl) i
theorem s106 {h : AH} (K : sp h) (i : Int32) : ld0 h 106 i ↔ ix i 80 := ld0_x (sp_x K 106 (by decide) rfl) i (by decide)
theorem t106 {h : AH} (K : sp h) (i : Int32) : st0 h 106 i ↔ ix i 80 := st0_x (sp_x K 106 (by decide) rfl) i
theorem s107 {h : AH} (K : sp h) (i : Int32) : ld0 h 107 i ↔ ix i 80 := ld0_x (sp_x K 107 (by decide) rfl) i (by decide)
theorem t107 {h : AH} (K : sp h) (i : Int32) : st0 h 107 i ↔ ix i 80 := st0_x (sp_x K 107 (by decide) rfl) i
theorem s108 {h : AH} (K : sp h) (i : Int32) : ld0 h 108 i ↔ ix i 80 := ld0_x (sp_x K 108 (by decide) rfl) i (by decide)
theorem t108 {h : AH} (K : sp h) (i : Int32) : st0 h 108 i ↔ ix i 80 := st0_x (sp_x K 108 (by decide) rfl) i
theorem s109 {h : AH} (K : sp h) (i : Int32) : ld0 h 109 i ↔ ix i 80 := ld0_x (sp_x K 109 (by decide) rfl) i (by decide)
theorem t109 {h : AH} (K : sp h) (i : Int32) : st0 h 109 i ↔ ix i 80 := st0_x (sp_x K 109 (by decide) rfl) i
theorem s110 {h : AH} (K : sp h) (i : Int32) : ld0 h 110 i ↔ ix i 80 := ld0_x (sp_x K 110 (by decide) rfl) i (by decide)
theorem t110 {h : AH} (K : sp h) (i : Int32) : st0 h 110 i ↔ ix i 80 := st0_x (sp_x K 110 (by decide) rfl) i
theorem s111 {h : AH} (K : sp h) (i : Int32) : ld0 h 111 i ↔ ix i 80 := ld0_x (sp_x K 111 (by decide) rfl) i (by decide)
theorem t111 {h : AH} (K : sp h) (i : Int32) : st0 h 111 i ↔ ix i 80 := st0_x (sp_x K 111 (by decide) rfl) i
theorem s112 {h : AH} (K : sp h) (i : Int32) : ld0 h 112 i ↔ ix i 80 := ld0_x (sp_x K 112 (by decide) rfl) i (by decide)
theorem t112 {h : AH} (K : sp h) (i : Int32) : st0 h 112 i ↔ ix i 80 := st0_x (sp_x K 112 (by decide) rfl) i
theorem s113 {h : AH} (K : sp h) (i : Int32) : ld0 h 113 i ↔ ix i 80 := ld0_x (sp_x K 113 (by decide) rfl) i (by decide)
theorem t113 {h : AH} (K : sp h) (i : Int32) : st0 h 113 i ↔ ix i 80 := st0_x (sp_x K 113 (by decide) rfl) i
theorem s114 {h : AH} (K : sp h) (i : Int32) : ld0 h 114 i ↔ ix i 80 := ld0_x (sp_x K 114 (by decide) rfl) i (by decide)
theorem t114 {h : AH} (K : sp h) (i : Int32) : st0 h 114 i ↔ ix i 80 := st0_x (sp_x K 114 (by decide) rfl) i
theorem s115 {h : AH} (K : sp h) (i : Int32) : ld0 h 115 i ↔ ix i 80 := ld0_x (sp_x K 115 (by decide) rfl) i (by decide)
theorem t115 {h : AH} (K : sp h) (i : Int32) : st0 h 115 i ↔ ix i 80 := st0_x (sp_x K 115 (by decide) rfl) i
theorem s116 {h : AH} (K : sp h) (i : Int32) : ld0 h 116 i ↔ ix i 80 := ld0_x (sp_x K 116 (by decide) rfl) i (by decide)
theorem t116 {h : AH} (K : sp h) (i : Int32) : st0 h 116 i ↔ ix i 80 := st0_x (sp_x K 116 (by decide) rfl) i
theorem s117 {h : AH} (K : sp h) (i : Int32) : ld0 h 117 i ↔ ix i 80 := ld0_x (sp_x K 117 (by decide) rfl) i (by decide)
theorem t117 {h : AH} (K : sp h) (i : Int32) : st0 h 117 i ↔ ix i 80 := st0_x (sp_x K 117 (by decide) rfl) i
theorem s118 {h : AH} (K : sp h) (i : Int32) : ld0 h 118 i ↔ ix i 80 := ld0_x (sp_x K 118 (by decide) rfl) i (by decide)
theorem t118 {h : AH} (K : sp h) (i : Int32) : st0 h 118 i ↔ ix i 80 := st0_x (sp_x K 118 (by decide) rfl) i
theorem s119 {h : AH} (K : sp h) (i : Int32) : ld0 h 119 i ↔ ix i 80 := ld0_x (sp_x K 119 (by decide) rfl) i (by decide)
theorem t119 {h : AH} (K : sp h) (i : Int32) : st0 h 119 i ↔ ix i 80 := st0_x (sp_x K 119 (by decide) rfl) i
theorem s120 {h : AH} (K : sp h) (i : Int32) : ld0 h 120 i ↔ ix i 80 := ld0_x (sp_x K 120 (by decide) rfl) i (by decide)
theorem t120 {h : AH} (K : sp h) (i : Int32) : st0 h 120 i ↔ ix i 80 := st0_x (sp_x K 120 (by decide) rfl) i
theorem s121 {h : AH} (K : sp h) (i : Int32) : ld0 h 121 i ↔ ix i 80 := ld0_x (sp_x K 121 (by decide) rfl) i (by decide)
theorem t121 {h : AH} (K : sp h) (i : Int32) : st0 h 121 i ↔ ix i 80 := st0_x (sp_x K 121 (by decide) rfl) i
theorem s122 {h : AH} (K : sp h) (i : Int32) : ld0 h 122 i ↔ ix i 80 := ld0_x (sp_x K 122 (by decide) rfl) i (by decide)
theorem t122 {h : AH} (K : sp h) (i : Int32) : st0 h 122 i ↔ ix i 80 := st0_x (sp_x K 122 (by decide) rfl) i
theorem s123 {h : AH} (K : sp h) (i : Int32) : ld0 h 123 i ↔ ix i 80 := ld0_x (sp_x K 123 (by decide) rfl) i (by decide)
theorem t123 {h : AH} (K : sp h) (i : Int32) : st0 h 123 i ↔ ix i 80 := st0_x (sp_x K 123 (by decide) rfl) i
theorem s124 {h : AH} (K : sp h) (i : Int32) : ld0 h 124 i ↔ ix i 80 := ld0_x (sp_x K 124 (by decide) rfl) i (by decide)
theorem t124 {h : AH} (K : sp h) (i : Int32) : st0 h 124 i ↔ ix i 80 := st0_x (sp_x K 124 (by decide) rfl) i
theorem o125 {h : AH} (K : sp h) : ah_o h 125 8 := sp_o K 125 (by decide) rfl
theorem s126 {h : AH} (K : sp h) (i : Int32) : ld3 h 14 126 i ↔ ix i 100 := ld3_x (sp_x K 126 (by decide) rfl) i
theorem o127 {h : AH} (K : sp h) : ah_o h 127 10 := sp_o K 127 (by decide) rfl
theorem s128 {h : AH} (K : sp h) (i : Int32) : ld0 h 128 i ↔ ix i 48 := ld0_x (sp_x K 128 (by decide) rfl) i (by decide)
theorem t128 {h : AH} (K : sp h) (i : Int32) : st0 h 128 i ↔ ix i 48 := st0_x (sp_x K 128 (by decide) rfl) i
theorem s129 {h : AH} (K : sp h) (i : Int32) : ld0 h 129 i ↔ ix i 48 := ld0_x (sp_x K 129 (by decide) rfl) i (by decide)
theorem t129 {h : AH} (K : sp h) (i : Int32) : st0 h 129 i ↔ ix i 48 := st0_x (sp_x K 129 (by decide) rfl) i
theorem o130 {h : AH} (K : sp h) : ah_o h 130 3 := sp_o K 130 (by decide) rfl
theorem s131 {h : AH} (K : sp h) (i : Int32) : ld0 h 131 i ↔ ix i 40 := ld0_x (sp_x K 131 (by decide) rfl) i (by decide)
theorem t131 {h : AH} (K : sp h) (i : Int32) : st0 h 131 i ↔ ix i 40 := st0_x (sp_x K 131 (by decide) rfl) i
theorem s132 {h : AH} (K : sp h) (i : Int32) : ld0 h 132 i ↔ ix i 40 := ld0_x (sp_x K 132 (by decide) rfl) i (by decide)
theorem t132 {h : AH} (K : sp h) (i : Int32) : st0 h 132 i ↔ ix i 40 := st0_x (sp_x K 132 (by decide) rfl) i
theorem s133 {h : AH} (K : sp h) (i : Int32) : ld0 h 133 i ↔ ix i 40 := ld0_x (sp_x K 133 (by decide) rfl) i (by decide)
theorem t133 {h : AH} (K : sp h) (i : Int32) : st0 h 133 i ↔ ix i 40 := st0_x (sp_x K 133 (by decide) rfl) i
theorem o134 {h : AH} (K : sp h) : ah_o h 134 6 := sp_o K 134 (by decide) rfl
theorem s135 {h : AH} (K : sp h) (i : Int32) : ld0 h 135 i ↔ ix i 100 := ld0_x (sp_x K 135 (by decide) rfl) i (by decide)
theorem t135 {h : AH} (K : sp h) (i : Int32) : st0 h 135 i ↔ ix i 100 := st0_x (sp_x K 135 (by decide) rfl) i
theorem o136 {h : AH} (K : sp h) : ah_o h 136 7 := sp_o K 136 (by decide) rfl
theorem s137 {h : AH} (K : sp h) (i : Int32) : ld0 h 137 i ↔ ix i 40 := ld0_x (sp_x K 137 (by decide) rfl) i (by decide)
theorem t137 {h : AH} (K : sp h) (i : Int32) : st0 h 137 i ↔ ix i 40 := st0_x (sp_x K 137 (by decide) rfl) i
theorem s138 {h : AH} (K : sp h) (i : Int32) : ld0 h 138 i ↔ ix i 160 := ld0_x (sp_x K 138 (by decide) rfl) i (by decide)
theorem t138 {h : AH} (K : sp h) (i : Int32) : st0 h 138 i ↔ ix i 160 := st0_x (sp_x K 138 (by decide) rfl) i
theorem o139 {h : AH} (K : sp h) : ah_o h 139 7 := sp_o K 139 (by decide) rfl
theorem s140 {h : AH} (K : sp h) (i : Int32) : ld0 h 140 i ↔ ix i 40 := ld0_x (sp_x K 140 (by decide) rfl) i (by decide)
theorem t140 {h : AH} (K : sp h) (i : Int32) : st0 h 140 i ↔ ix i 40 := st0_x (sp_x K 140 (by decide) rfl) i
theorem s141 {h : AH} (K : sp h) (i : Int32) : ld0 h 141 i ↔ ix i 160 := ld0_x (sp_x K 141 (by decide) rfl) i (by decide)
theorem t141 {h : AH} (K : sp h) (i : Int32) : st0 h 141 i ↔ ix i 160 := st0_x (sp_x K 141 (by decide) rfl) i
theorem o142 {h : AH} (K : sp h) : ah_o h 142 4 := sp_o K 142 (by decide) rfl
theorem s143 {h : AH} (K : sp h) (i : Int32) : ld0 h 143 i ↔ ix i 160 := ld0_x (sp_x K 143 (by decide) rfl) i (by decide)
theorem t143 {h : AH} (K : sp h) (i : Int32) : st0 h 143 i ↔ ix i 160 := st0_x (sp_x K 143 (by decide) rfl) i
theorem s144 {h : AH} (K : sp h) (i : Int32) : ld0 h 144 i ↔ ix i 160 := ld0_x (sp_x K 144 (by decide) rfl) i (by decide)
theorem t144 {h : AH} (K : sp h) (i : Int32) : st0 h 144 i ↔ ix i 160 := st0_x (sp_x K 144 (by decide) rfl) i
theorem s145 {h : AH} (K : sp h) (i : Int32) : ld0 h 145 i ↔ ix i 160 := ld0_x (sp_x K 145 (by decide) rfl) i (by decide)
theorem t145 {h : AH} (K : sp h) (i : Int32) : st0 h 145 i ↔ ix i 160 := st0_x (sp_x K 145 (by decide) rfl) i
theorem s146 {h : AH} (K : sp h) (i : Int32) : ld0 h 146 i ↔ ix i 160 := ld0_x (sp_x K 146 (by decide) rfl) i (by decide)
theorem t146 {h : AH} (K : sp h) (i : Int32) : st0 h 146 i ↔ ix i 160 := st0_x (sp_x K 146 (by decide) rfl) i
theorem s147 {h : AH} (K : sp h) (i : Int32) : ld0 h 147 i ↔ ix i 160 := ld0_x (sp_x K 147 (by decide) rfl) i (by decide)
theorem t147 {h : AH} (K : sp h) (i : Int32) : st0 h 147 i ↔ ix i 160 := st0_x (sp_x K 147 (by decide) rfl) i
theorem s148 {h : AH} (K : sp h) (i : Int32) : ld0 h 148 i ↔ ix i 160 := ld0_x (sp_x K 148 (by decide) rfl) i (by decide)
theorem t148 {h : AH} (K : sp h) (i : Int32) : st0 h 148 i ↔ ix i 160 := st0_x (sp_x K 148 (by decide) rfl) i
theorem s149 {h : AH} (K : sp h) (i : Int32) : ld0 h 149 i ↔ ix i 40 := ld0_x (sp_x K 149 (by decide) rfl) i (by decide)
theorem t149 {h : AH} (K : sp h) (i : Int32) : st0 h 149 i ↔ ix i 40 := st0_x (sp_x K 149 (by decide) rfl) i
theorem s150 {h : AH} (K : sp h) (i : Int32) : ld0 h 150 i ↔ ix i 40 := ld0_x (sp_x K 150 (by decide) rfl) i (by decide)
theorem t150 {h : AH} (K : sp h) (i : Int32) : st0 h 150 i ↔ ix i 40 := st0_x (sp_x K 150 (by decide) rfl) i
theorem s151 {h : AH} (K : sp h) (i : Int32) : ld0 h 151 i ↔ ix i 40 := ld0_x (sp_x K 151 (by decide) rfl) i (by decide)
theorem t151 {h : AH} (K : sp h) (i : Int32) : st0 h 151 i ↔ ix i 40 := st0_x (sp_x K 151 (by decide) rfl) i
theorem s152 {h : AH} (K : sp h) (i : Int32) : ld0 h 152 i ↔ ix i 100 := ld0_x (sp_x K 152 (by decide) rfl) i (by decide)
theorem t152 {h : AH} (K : sp h) (i : Int32) : st0 h 152 i ↔ ix i 100 := st0_x (sp_x K 152 (by decide) rfl) i
theorem o153 {h : AH} (K : sp h) : ah_o h 153 4 := sp_o K 153 (by decide) rfl
theorem s154 {h : AH} (K : sp h) (i : Int32) : ld0 h 154 i ↔ ix i 160 := ld0_x (sp_x K 154 (by decide) rfl) i (by decide)
theorem t154 {h : AH} (K : sp h) (i : Int32) : st0 h 154 i ↔ ix i 160 := st0_x (sp_x K 154 (by decide) rfl) i
theorem s155 {h : AH} (K : sp h) (i : Int32) : ld0 h 155 i ↔ ix i 160 := ld0_x (sp_x K 155 (by decide) rfl) i (by decide)
theorem t155 {h : AH} (K : sp h) (i : Int32) : st0 h 155 i ↔ ix i 160 := st0_x (sp_x K 155 (by decide) rfl) i
theorem s156 {h : AH} (K : sp h) (i : Int32) : ld0 h 156 i ↔ ix i 160 := ld0_x (sp_x K 156 (by decide) rfl) i (by decide)
theorem t156 {h : AH} (K : sp h) (i : Int32) : st0 h 156 i ↔ ix i 160 := st0_x (sp_x K 156 (by decide) rfl) i
theorem s157 {h : AH} (K : sp h) (i : Int32) : ld0 h 157 i ↔ ix i 160 := ld0_x (sp_x K 157 (by decide) rfl) i (by decide)
theorem t157 {h : AH} (K : sp h) (i : Int32) : st0 h 157 i ↔ ix i 160 := st0_x (sp_x K 157 (by decide) rfl) i
theorem s158 {h : AH} (K : sp h) (i : Int32) : ld0 h 158 i ↔ ix i 160 := ld0_x (sp_x K 158 (by decide) rfl) i (by decide)
theorem t158 {h : AH} (K : sp h) (i : Int32) : st0 h 158 i ↔ ix i 160 := st0_x (sp_x K 158 (by decide) rfl) i
theorem s159 {h : AH} (K : sp h) (i : Int32) : ld0 h 159 i ↔ ix i 160 := ld0_x (sp_x K 159 (by decide) rfl) i (by decide)
theorem t159 {h : AH} (K : sp h) (i : Int32) : st0 h 159 i ↔ ix i 160 := st0_x (sp_x K 159 (by decide) rfl) i
theorem s160 {h : AH} (K : sp h) (i : Int32) : ld0 h 160 i ↔ ix i 40 := ld0_x (sp_x K 160 (by decide) rfl) i (by decide)
theorem t160 {h : AH} (K : sp h) (i : Int32) : st0 h 160 i ↔ ix i 40 := st0_x (sp_x K 160 (by decide) rfl) i
theorem s161 {h : AH} (K : sp h) (i : Int32) : ld0 h 161 i ↔ ix i 40 := ld0_x (sp_x K 161 (by decide) rfl) i (by decide)
theorem t161 {h : AH} (K : sp h) (i : Int32) : st0 h 161 i ↔ ix i 40 := st0_x (sp_x K 161 (by decide) rfl) i
theorem s162 {h : AH} (K : sp h) (i : Int32) : ld0 h 162 i ↔ ix i 40 := ld0_x (sp_x K 162 (by decide) rfl) i (by decide)
theorem t162 {h : AH} (K : sp h) (i : Int32) : st0 h 162 i ↔ ix i 40 := st0_x (sp_x K 162 (by decide) rfl) i
theorem s163 {h : AH} (K : sp h) (i : Int32) : ld0 h 163 i ↔ ix i 100 := ld0_x (sp_x K 163 (by decide) rfl) i (by decide)
theorem t163 {h : AH} (K : sp h) (i : Int32) : st0 h 163 i ↔ ix i 100 := st0_x (sp_x K 163 (by decide) rfl) i
theorem o164 {h : AH} (K : sp h) : ah_o h 164 0 := sp_o K 164 (by decide) rfl
theorem s165 {h : AH} (K : sp h) (i : Int32) : ld2 h 165 i ↔ ix i 200 := ld2_x (sp_x K 165 (by decide) rfl) i
theorem s166 {h : AH} (K : sp h) (i : Int32) : ld3 h 6 166 i ↔ ix i 200 := ld3_x (sp_x K 166 (by decide) rfl) i
theorem s167 {h : AH} (K : sp h) (i : Int32) : ld0 h 167 i ↔ ix i 10 := ld0_x (sp_x K 167 (by decide) rfl) i (by decide)
theorem t167 {h : AH} (K : sp h) (i : Int32) : st0 h 167 i ↔ ix i 10 := st0_x (sp_x K 167 (by decide) rfl) i
theorem o168 {h : AH} (K : sp h) : ah_o h 168 12 := sp_o K 168 (by decide) rfl
theorem s169 {h : AH} (K : sp h) (i : Int32) : ld0 h 169 i ↔ ix i 10 := ld0_x (sp_x K 169 (by decide) rfl) i (by decide)
theorem t169 {h : AH} (K : sp h) (i : Int32) : st0 h 169 i ↔ ix i 10 := st0_x (sp_x K 169 (by decide) rfl) i
theorem s170 {h : AH} (K : sp h) (i : Int32) : ld0 h 170 i ↔ ix i 368 := ld0_x (sp_x K 170 (by decide) rfl) i (by decide)
theorem t170 {h : AH} (K : sp h) (i : Int32) : st0 h 170 i ↔ ix i 368 := st0_x (sp_x K 170 (by decide) rfl) i
theorem s171 {h : AH} (K : sp h) (i : Int32) : ld0 h 171 i ↔ ix i 368 := ld0_x (sp_x K 171 (by decide) rfl) i (by decide)
theorem t171 {h : AH} (K : sp h) (i : Int32) : st0 h 171 i ↔ ix i 368 := st0_x (sp_x K 171 (by decide) rfl) i
theorem s172 {h : AH} (K : sp h) (i : Int32) : ld0 h 172 i ↔ ix i 14720 := ld0_x (sp_x K 172 (by decide) rfl) i (by decide)
theorem t172 {h : AH} (K : sp h) (i : Int32) : st0 h 172 i ↔ ix i 14720 := st0_x (sp_x K 172 (by decide) rfl) i
theorem s173 {h : AH} (K : sp h) (i : Int32) : ld0 h 173 i ↔ ix i 58880 := ld0_x (sp_x K 173 (by decide) rfl) i (by decide)
theorem t173 {h : AH} (K : sp h) (i : Int32) : st0 h 173 i ↔ ix i 58880 := st0_x (sp_x K 173 (by decide) rfl) i
theorem s174 {h : AH} (K : sp h) (i : Int32) : ld0 h 174 i ↔ ix i 24 := ld0_x (sp_x K 174 (by decide) rfl) i (by decide)
theorem t174 {h : AH} (K : sp h) (i : Int32) : st0 h 174 i ↔ ix i 24 := st0_x (sp_x K 174 (by decide) rfl) i
theorem s175 {h : AH} (K : sp h) (i : Int32) : ld0 h 175 i ↔ ix i 4 := ld0_x (sp_x K 175 (by decide) rfl) i (by decide)
theorem t175 {h : AH} (K : sp h) (i : Int32) : st0 h 175 i ↔ ix i 4 := st0_x (sp_x K 175 (by decide) rfl) i
theorem s176 {h : AH} (K : sp h) (i : Int32) : ld0 h 176 i ↔ ix i 160 := ld0_x (sp_x K 176 (by decide) rfl) i (by decide)
theorem t176 {h : AH} (K : sp h) (i : Int32) : st0 h 176 i ↔ ix i 160 := st0_x (sp_x K 176 (by decide) rfl) i
theorem s177 {h : AH} (K : sp h) (i : Int32) : ld0 h 177 i ↔ ix i 160 := ld0_x (sp_x K 177 (by decide) rfl) i (by decide)
theorem t177 {h : AH} (K : sp h) (i : Int32) : st0 h 177 i ↔ ix i 160 := st0_x (sp_x K 177 (by decide) rfl) i
theorem s178 {h : AH} (K : sp h) (i : Int32) : ld1 h 178 i ↔ ix i 160 := ld1_x (sp_x K 178 (by decide) rfl) i
theorem s179 {h : AH} (K : sp h) (i : Int32) : ld0 h 179 i ↔ ix i 100 := ld0_x (sp_x K 179 (by decide) rfl) i (by decide)
theorem t179 {h : AH} (K : sp h) (i : Int32) : st0 h 179 i ↔ ix i 100 := st0_x (sp_x K 179 (by decide) rfl) i
theorem s180 {h : AH} (K : sp h) (i : Int32) : ld0 h 180 i ↔ ix i 100 := ld0_x (sp_x K 180 (by decide) rfl) i (by decide)
theorem t180 {h : AH} (K : sp h) (i : Int32) : st0 h 180 i ↔ ix i 100 := st0_x (sp_x K 180 (by decide) rfl) i
theorem s181 {h : AH} (K : sp h) (i : Int32) : ld0 h 181 i ↔ ix i 160 := ld0_x (sp_x K 181 (by decide) rfl) i (by decide)
theorem t181 {h : AH} (K : sp h) (i : Int32) : st0 h 181 i ↔ ix i 160 := st0_x (sp_x K 181 (by decide) rfl) i
theorem s182 {h : AH} (K : sp h) (i : Int32) : ld1 h 182 i ↔ ix i 160 := ld1_x (sp_x K 182 (by decide) rfl) i
theorem s183 {h : AH} (K : sp h) (i : Int32) : ld0 h 183 i ↔ ix i 100 := ld0_x (sp_x K 183 (by decide) rfl) i (by decide)
theorem t183 {h : AH} (K : sp h) (i : Int32) : st0 h 183 i ↔ ix i 100 := st0_x (sp_x K 183 (by decide) rfl) i
theorem s184 {h : AH} (K : sp h) (i : Int32) : ld0 h 184 i ↔ ix i 4000 := ld0_x (sp_x K 184 (by decide) rfl) i (by decide)
theorem t184 {h : AH} (K : sp h) (i : Int32) : st0 h 184 i ↔ ix i 4000 := st0_x (sp_x K 184 (by decide) rfl) i
theorem s185 {h : AH} (K : sp h) (i : Int32) : ld2 h 185 i ↔ ix i 601 := ld2_x (sp_x K 185 (by decide) rfl) i
theorem s186 {h : AH} (K : sp h) (i : Int32) : ld2 h 186 i ↔ ix i 601 := ld2_x (sp_x K 186 (by decide) rfl) i
theorem s187 {h : AH} (K : sp h) (i : Int32) : ld0 h 187 i ↔ ix i 160 := ld0_x (sp_x K 187 (by decide) rfl) i (by decide)
theorem t187 {h : AH} (K : sp h) (i : Int32) : st0 h 187 i ↔ ix i 160 := st0_x (sp_x K 187 (by decide) rfl) i
theorem s188 {h : AH} (K : sp h) (i : Int32) : ld2 h 188 i ↔ ix i 1800 := ld2_x (sp_x K 188 (by decide) rfl) i
theorem s189 {h : AH} (K : sp h) (i : Int32) : ld2 h 189 i ↔ ix i 601 := ld2_x (sp_x K 189 (by decide) rfl) i
theorem s190 {h : AH} (K : sp h) (i : Int32) : ld2 h 190 i ↔ ix i 601 := ld2_x (sp_x K 190 (by decide) rfl) i
theorem s191 {h : AH} (K : sp h) (i : Int32) : ld0 h 191 i ↔ ix i 130 := ld0_x (sp_x K 191 (by decide) rfl) i (by decide)
theorem t191 {h : AH} (K : sp h) (i : Int32) : st0 h 191 i ↔ ix i 130 := st0_x (sp_x K 191 (by decide) rfl) i
theorem s192 {h : AH} (K : sp h) (i : Int32) : ld0 h 192 i ↔ ix i 40 := ld0_x (sp_x K 192 (by decide) rfl) i (by decide)
theorem t192 {h : AH} (K : sp h) (i : Int32) : st0 h 192 i ↔ ix i 40 := st0_x (sp_x K 192 (by decide) rfl) i
theorem s193 {h : AH} (K : sp h) (i : Int32) : ld0 h 193 i ↔ ix i 40 := ld0_x (sp_x K 193 (by decide) rfl) i (by decide)
theorem t193 {h : AH} (K : sp h) (i : Int32) : st0 h 193 i ↔ ix i 40 := st0_x (sp_x K 193 (by decide) rfl) i
theorem s194 {h : AH} (K : sp h) (i : Int32) : ld0 h 194 i ↔ ix i 160 := ld0_x (sp_x K 194 (by decide) rfl) i (by decide)
theorem t194 {h : AH} (K : sp h) (i : Int32) : st0 h 194 i ↔ ix i 160 := st0_x (sp_x K 194 (by decide) rfl) i
theorem s195 {h : AH} (K : sp h) (i : Int32) : ld1 h 195 i ↔ ix i 100 := ld1_x (sp_x K 195 (by decide) rfl) i
theorem s196 {h : AH} (K : sp h) (i : Int32) : ld0 h 196 i ↔ ix i 160 := ld0_x (sp_x K 196 (by decide) rfl) i (by decide)
theorem t196 {h : AH} (K : sp h) (i : Int32) : st0 h 196 i ↔ ix i 160 := st0_x (sp_x K 196 (by decide) rfl) i
theorem s197 {h : AH} (K : sp h) (i : Int32) : ld0 h 197 i ↔ ix i 240 := ld0_x (sp_x K 197 (by decide) rfl) i (by decide)
theorem t197 {h : AH} (K : sp h) (i : Int32) : st0 h 197 i ↔ ix i 240 := st0_x (sp_x K 197 (by decide) rfl) i
theorem s198 {h : AH} (K : sp h) (i : Int32) : ld0 h 198 i ↔ ix i 3 := ld0_x (sp_x K 198 (by decide) rfl) i (by decide)
theorem t198 {h : AH} (K : sp h) (i : Int32) : st0 h 198 i ↔ ix i 3 := st0_x (sp_x K 198 (by decide) rfl) i
theorem s199 {h : AH} (K : sp h) (i : Int32) : ld0 h 199 i ↔ ix i 40 := ld0_x (sp_x K 199 (by decide) rfl) i (by decide)
theorem t199 {h : AH} (K : sp h) (i : Int32) : st0 h 199 i ↔ ix i 40 := st0_x (sp_x K 199 (by decide) rfl) i
theorem s200 {h : AH} (K : sp h) (i : Int32) : ld0 h 200 i ↔ ix i 40 := ld0_x (sp_x K 200 (by decide) rfl) i (by decide)
theorem t200 {h : AH} (K : sp h) (i : Int32) : st0 h 200 i ↔ ix i 40 := st0_x (sp_x K 200 (by decide) rfl) i
theorem s201 {h : AH} (K : sp h) (i : Int32) : ld0 h 201 i ↔ ix i 40 := ld0_x (sp_x K 201 (by decide) rfl) i (by decide)
theorem t201 {h : AH} (K : sp h) (i : Int32) : st0 h 201 i ↔ ix i 40 := st0_x (sp_x K 201 (by decide) rfl) i
theorem s202 {h : AH} (K : sp h) (i : Int32) : ld0 h 202 i ↔ ix i 160 := ld0_x (sp_x K 202 (by decide) rfl) i (by decide)
theorem t202 {h : AH} (K : sp h) (i : Int32) : st0 h 202 i ↔ ix i 160 := st0_x (sp_x K 202 (by decide) rfl) i
theorem s203 {h : AH} (K : sp h) (i : Int32) : ld0 h 203 i ↔ ix i 160 := ld0_x (sp_x K 203 (by decide) rfl) i (by decide)
theorem t203 {h : AH} (K : sp h) (i : Int32) : st0 h 203 i ↔ ix i 160 := st0_x (sp_x K 203 (by decide) rfl) i
theorem s204 {h : AH} (K : sp h) (i : Int32) : ld0 h 204 i ↔ ix i 41 := ld0_x (sp_x K 204 (by decide) rfl) i (by decide)
theorem t204 {h : AH} (K : sp h) (i : Int32) : st0 h 204 i ↔ ix i 41 := st0_x (sp_x K 204 (by decide) rfl) i
theorem s205 {h : AH} (K : sp h) (i : Int32) : ld0 h 205 i ↔ ix i 160 := ld0_x (sp_x K 205 (by decide) rfl) i (by decide)
theorem t205 {h : AH} (K : sp h) (i : Int32) : st0 h 205 i ↔ ix i 160 := st0_x (sp_x K 205 (by decide) rfl) i
theorem s206 {h : AH} (K : sp h) (i : Int32) : ld1 h 206 i ↔ ix i 40 := ld1_x (sp_x K 206 (by decide) rfl) i
theorem s207 {h : AH} (K : sp h) (i : Int32) : ld0 h 207 i ↔ ix i 210 := ld0_x (sp_x K 207 (by decide) rfl) i (by decide)
theorem t207 {h : AH} (K : sp h) (i : Int32) : st0 h 207 i ↔ ix i 210 := st0_x (sp_x K 207 (by decide) rfl) i
theorem s208 {h : AH} (K : sp h) (i : Int32) : ld0 h 208 i ↔ ix i 210 := ld0_x (sp_x K 208 (by decide) rfl) i (by decide)
theorem t208 {h : AH} (K : sp h) (i : Int32) : st0 h 208 i ↔ ix i 210 := st0_x (sp_x K 208 (by decide) rfl) i
theorem s209 {h : AH} (K : sp h) (i : Int32) : ld0 h 209 i ↔ ix i 100 := ld0_x (sp_x K 209 (by decide) rfl) i (by decide)
theorem t209 {h : AH} (K : sp h) (i : Int32) : st0 h 209 i ↔ ix i 100 := st0_x (sp_x K 209 (by decide) rfl) i
theorem s210 {h : AH} (K : sp h) (i : Int32) : ld0 h 210 i ↔ ix i 100 := ld0_x (sp_x K 210 (by decide) rfl) i (by decide)
theorem t210 {h : AH} (K : sp h) (i : Int32) : st0 h 210 i ↔ ix i 100 := st0_x (sp_x K 210 (by decide) rfl) i
theorem s211 {h : AH} (K : sp h) (i : Int32) : ld0 h 211 i ↔ ix i 7000 := ld0_x (sp_x K 211 (by decide) rfl) i (by decide)
theorem t211 {h : AH} (K : sp h) (i : Int32) : st0 h 211 i ↔ ix i 7000 := st0_x (sp_x K 211 (by decide) rfl) i
theorem s212 {h : AH} (K : sp h) (i : Int32) : ld0 h 212 i ↔ ix i 100 := ld0_x (sp_x K 212 (by decide) rfl) i (by decide)
theorem t212 {h : AH} (K : sp h) (i : Int32) : st0 h 212 i ↔ ix i 100 := st0_x (sp_x K 212 (by decide) rfl) i
theorem s213 {h : AH} (K : sp h) (i : Int32) : ld2 h 213 i ↔ ix i 601 := ld2_x (sp_x K 213 (by decide) rfl) i
theorem s214 {h : AH} (K : sp h) (i : Int32) : ld2 h 214 i ↔ ix i 200 := ld2_x (sp_x K 214 (by decide) rfl) i
theorem s215 {h : AH} (K : sp h) (i : Int32) : ld2 h 215 i ↔ ix i 120200 := ld2_x (sp_x K 215 (by decide) rfl) i
theorem r0_0 {h : AH} (K : sp h) : ah_r h 0 0 = some 1 := K.2.2 (0, 0, 1) (List.mem_of_getElem? (i := 0) rfl)
theorem r0_1 {h : AH} (K : sp h) : ah_r h 0 1 = some 2 := K.2.2 (0, 1, 2) (List.mem_of_getElem? (i := 1) rfl)
theorem r0_2 {h : AH} (K : sp h) : ah_r h 0 2 = some 3 := K.2.2 (0, 2, 3) (List.mem_of_getElem? (i := 2) rfl)
theorem r0_3 {h : AH} (K : sp h) : ah_r h 0 3 = some 5 := K.2.2 (0, 3, 5) (List.mem_of_getElem? (i := 3) rfl)
theorem r0_4 {h : AH} (K : sp h) : ah_r h 0 4 = some 7 := K.2.2 (0, 4, 7) (List.mem_of_getElem? (i := 4) rfl)
theorem r0_5 {h : AH} (K : sp h) : ah_r h 0 5 = some 18 := K.2.2 (0, 5, 18) (List.mem_of_getElem? (i := 5) rfl)
theorem r0_6 {h : AH} (K : sp h) : ah_r h 0 6 = some 29 := K.2.2 (0, 6, 29) (List.mem_of_getElem? (i := 6) rfl)
theorem r0_7 {h : AH} (K : sp h) : ah_r h 0 7 = some 32 := K.2.2 (0, 7, 32) (List.mem_of_getElem? (i := 7) rfl)
theorem r0_8 {h : AH} (K : sp h) : ah_r h 0 8 = some 73 := K.2.2 (0, 8, 73) (List.mem_of_getElem? (i := 8) rfl)
theorem r0_9 {h : AH} (K : sp h) : ah_r h 0 9 = some 76 := K.2.2 (0, 9, 76) (List.mem_of_getElem? (i := 9) rfl)
theorem r0_10 {h : AH} (K : sp h) : ah_r h 0 10 = some 79 := K.2.2 (0, 10, 79) (List.mem_of_getElem? (i := 10) rfl)
theorem r0_11 {h : AH} (K : sp h) : ah_r h 0 11 = some 82 := K.2.2 (0, 11, 82) (List.mem_of_getElem? (i := 11) rfl)
theorem r0_12 {h : AH} (K : sp h) : ah_r h 0 12 = some 125 := K.2.2 (0, 12, 125) (List.mem_of_getElem? (i := 12) rfl)
theorem r0_13 {h : AH} (K : sp h) : ah_r h 0 13 = some 164 := K.2.2 (0, 13, 164) (List.mem_of_getElem? (i := 13) rfl)
theorem r0_14 {h : AH} (K : sp h) : ah_r h 0 14 = some 167 := K.2.2 (0, 14, 167) (List.mem_of_getElem? (i := 14) rfl)
theorem r3_0 {h : AH} (K : sp h) : ah_r h 3 0 = some 4 := K.2.2 (3, 0, 4) (List.mem_of_getElem? (i := 15) rfl)
theorem r5_0 {h : AH} (K : sp h) : ah_r h 5 0 = some 6 := K.2.2 (5, 0, 6) (List.mem_of_getElem? (i := 16) rfl)
theorem r7_0 {h : AH} (K : sp h) : ah_r h 7 0 = some 8 := K.2.2 (7, 0, 8) (List.mem_of_getElem? (i := 17) rfl)
theorem r7_1 {h : AH} (K : sp h) : ah_r h 7 1 = some 9 := K.2.2 (7, 1, 9) (List.mem_of_getElem? (i := 18) rfl)
theorem r7_2 {h : AH} (K : sp h) : ah_r h 7 2 = some 10 := K.2.2 (7, 2, 10) (List.mem_of_getElem? (i := 19) rfl)
theorem r7_3 {h : AH} (K : sp h) : ah_r h 7 3 = some 11 := K.2.2 (7, 3, 11) (List.mem_of_getElem? (i := 20) rfl)
theorem r7_4 {h : AH} (K : sp h) : ah_r h 7 4 = some 12 := K.2.2 (7, 4, 12) (List.mem_of_getElem? (i := 21) rfl)
theorem r7_5 {h : AH} (K : sp h) : ah_r h 7 5 = some 13 := K.2.2 (7, 5, 13) (List.mem_of_getElem? (i := 22) rfl)
theorem r7_6 {h : AH} (K : sp h) : ah_r h 7 6 = some 14 := K.2.2 (7, 6, 14) (List.mem_of_getElem? (i := 23) rfl)
theorem r7_7 {h : AH} (K : sp h) : ah_r h 7 7 = some 15 := K.2.2 (7, 7, 15) (List.mem_of_getElem? (i := 24) rfl)
theorem r7_8 {h : AH} (K : sp h) : ah_r h 7 8 = some 16 := K.2.2 (7, 8, 16) (List.mem_of_getElem? (i := 25) rfl)
theorem r7_9 {h : AH} (K : sp h) : ah_r h 7 9 = some 17 := K.2.2 (7, 9, 17) (List.mem_of_getElem? (i := 26) rfl)
theorem r18_0 {h : AH} (K : sp h) : ah_r h 18 0 = some 19 := K.2.2 (18, 0, 19) (List.mem_of_getElem? (i := 27) rfl)
theorem r18_1 {h : AH} (K : sp h) : ah_r h 18 1 = some 20 := K.2.2 (18, 1, 20) (List.mem_of_getElem? (i := 28) rfl)
theorem r18_2 {h : AH} (K : sp h) : ah_r h 18 2 = some 21 := K.2.2 (18, 2, 21) (List.mem_of_getElem? (i := 29) rfl)
theorem r18_3 {h : AH} (K : sp h) : ah_r h 18 3 = some 22 := K.2.2 (18, 3, 22) (List.mem_of_getElem? (i := 30) rfl)
theorem r18_4 {h : AH} (K : sp h) : ah_r h 18 4 = some 23 := K.2.2 (18, 4, 23) (List.mem_of_getElem? (i := 31) rfl)
theorem r18_5 {h : AH} (K : sp h) : ah_r h 18 5 = some 24 := K.2.2 (18, 5, 24) (List.mem_of_getElem? (i := 32) rfl)
theorem r18_6 {h : AH} (K : sp h) : ah_r h 18 6 = some 25 := K.2.2 (18, 6, 25) (List.mem_of_getElem? (i := 33) rfl)
theorem r18_7 {h : AH} (K : sp h) : ah_r h 18 7 = some 26 := K.2.2 (18, 7, 26) (List.mem_of_getElem? (i := 34) rfl)
theorem r18_8 {h : AH} (K : sp h) : ah_r h 18 8 = some 27 := K.2.2 (18, 8, 27) (List.mem_of_getElem? (i := 35) rfl)
theorem r18_9 {h : AH} (K : sp h) : ah_r h 18 9 = some 28 := K.2.2 (18, 9, 28) (List.mem_of_getElem? (i := 36) rfl)
theorem r29_0 {h : AH} (K : sp h) : ah_r h 29 0 = some 30 := K.2.2 (29, 0, 30) (List.mem_of_getElem? (i := 37) rfl)
theorem r29_1 {h : AH} (K : sp h) : ah_r h 29 1 = some 31 := K.2.2 (29, 1, 31) (List.mem_of_getElem? (i := 38) rfl)
theorem r32_0 {h : AH} (K : sp h) : ah_r h 32 0 = some 33 := K.2.2 (32, 0, 33) (List.mem_of_getElem? (i := 39) rfl)
theorem r32_1 {h : AH} (K : sp h) : ah_r h 32 1 = some 34 := K.2.2 (32, 1, 34) (List.mem_of_getElem? (i := 40) rfl)
theorem r82_0 {h : AH} (K : sp h) : ah_r h 82 0 = some 83 := K.2.2 (82, 0, 83) (List.mem_of_getElem? (i := 41) rfl)
theorem r82_1 {h : AH} (K : sp h) : ah_r h 82 1 = some 84 := K.2.2 (82, 1, 84) (List.mem_of_getElem? (i := 42) rfl)
theorem r125_0 {h : AH} (K : sp h) : ah_r h 125 0 = some 126 := K.2.2 (125, 0, 126) (List.mem_of_getElem? (i := 43) rfl)
theorem r125_1 {h : AH} (K : sp h) : ah_r h 125 1 = some 127 := K.2.2 (125, 1, 127) (List.mem_of_getElem? (i := 44) rfl)
theorem r125_2 {h : AH} (K : sp h) : ah_r h 125 2 = some 130 := K.2.2 (125, 2, 130) (List.mem_of_getElem? (i := 45) rfl)
theorem r125_3 {h : AH} (K : sp h) : ah_r h 125 3 = some 134 := K.2.2 (125, 3, 134) (List.mem_of_getElem? (i := 46) rfl)
theorem r125_4 {h : AH} (K : sp h) : ah_r h 125 4 = some 136 := K.2.2 (125, 4, 136) (List.mem_of_getElem? (i := 47) rfl)
theorem r125_5 {h : AH} (K : sp h) : ah_r h 125 5 = some 139 := K.2.2 (125, 5, 139) (List.mem_of_getElem? (i := 48) rfl)
theorem r125_6 {h : AH} (K : sp h) : ah_r h 125 6 = some 142 := K.2.2 (125, 6, 142) (List.mem_of_getElem? (i := 49) rfl)
theorem r125_7 {h : AH} (K : sp h) : ah_r h 125 7 = some 153 := K.2.2 (125, 7, 153) (List.mem_of_getElem? (i := 50) rfl)
theorem r127_0 {h : AH} (K : sp h) : ah_r h 127 0 = some 128 := K.2.2 (127, 0, 128) (List.mem_of_getElem? (i := 51) rfl)
theorem r127_1 {h : AH} (K : sp h) : ah_r h 127 1 = some 129 := K.2.2 (127, 1, 129) (List.mem_of_getElem? (i := 52) rfl)
theorem r130_0 {h : AH} (K : sp h) : ah_r h 130 0 = some 131 := K.2.2 (130, 0, 131) (List.mem_of_getElem? (i := 53) rfl)
theorem r130_1 {h : AH} (K : sp h) : ah_r h 130 1 = some 132 := K.2.2 (130, 1, 132) (List.mem_of_getElem? (i := 54) rfl)
theorem r130_2 {h : AH} (K : sp h) : ah_r h 130 2 = some 133 := K.2.2 (130, 2, 133) (List.mem_of_getElem? (i := 55) rfl)
theorem r134_0 {h : AH} (K : sp h) : ah_r h 134 0 = some 135 := K.2.2 (134, 0, 135) (List.mem_of_getElem? (i := 56) rfl)
theorem r136_0 {h : AH} (K : sp h) : ah_r h 136 0 = some 137 := K.2.2 (136, 0, 137) (List.mem_of_getElem? (i := 57) rfl)
theorem r136_1 {h : AH} (K : sp h) : ah_r h 136 1 = some 138 := K.2.2 (136, 1, 138) (List.mem_of_getElem? (i := 58) rfl)
theorem r139_0 {h : AH} (K : sp h) : ah_r h 139 0 = some 140 := K.2.2 (139, 0, 140) (List.mem_of_getElem? (i := 59) rfl)
theorem r139_1 {h : AH} (K : sp h) : ah_r h 139 1 = some 141 := K.2.2 (139, 1, 141) (List.mem_of_getElem? (i := 60) rfl)
theorem r142_0 {h : AH} (K : sp h) : ah_r h 142 0 = some 143 := K.2.2 (142, 0, 143) (List.mem_of_getElem? (i := 61) rfl)
theorem r142_1 {h : AH} (K : sp h) : ah_r h 142 1 = some 144 := K.2.2 (142, 1, 144) (List.mem_of_getElem? (i := 62) rfl)
theorem r142_2 {h : AH} (K : sp h) : ah_r h 142 2 = some 145 := K.2.2 (142, 2, 145) (List.mem_of_getElem? (i := 63) rfl)
theorem r142_3 {h : AH} (K : sp h) : ah_r h 142 3 = some 146 := K.2.2 (142, 3, 146) (List.mem_of_getElem? (i := 64) rfl)
theorem r142_4 {h : AH} (K : sp h) : ah_r h 142 4 = some 147 := K.2.2 (142, 4, 147) (List.mem_of_getElem? (i := 65) rfl)
theorem r142_5 {h : AH} (K : sp h) : ah_r h 142 5 = some 148 := K.2.2 (142, 5, 148) (List.mem_of_getElem? (i := 66) rfl)
theorem r142_6 {h : AH} (K : sp h) : ah_r h 142 6 = some 149 := K.2.2 (142, 6, 149) (List.mem_of_getElem? (i := 67) rfl)
theorem r142_7 {h : AH} (K : sp h) : ah_r h 142 7 = some 150 := K.2.2 (142, 7, 150) (List.mem_of_getElem? (i := 68) rfl)
theorem r142_8 {h : AH} (K : sp h) : ah_r h 142 8 = some 151 := K.2.2 (142, 8, 151) (List.mem_of_getElem? (i := 69) rfl)
theorem r142_9 {h : AH} (K : sp h) : ah_r h 142 9 = some 152 := K.2.2 (142, 9, 152) (List.mem_of_getElem? (i := 70) rfl)
theorem r153_0 {h : AH} (K : sp h) : ah_r h 153 0 = some 154 := K.2.2 (153, 0, 154) (List.mem_of_getElem? (i := 71) rfl)
theorem r153_1 {h : AH} (K : sp h) : ah_r h 153 1 = some 155 := K.2.2 (153, 1, 155) (List.mem_of_getElem? (i := 72) rfl)
theorem r153_2 {h : AH} (K : sp h) : ah_r h 153 2 = some 156 := K.2.2 (153, 2, 156) (List.mem_of_getElem? (i := 73) rfl)
theorem r153_3 {h : AH} (K : sp h) : ah_r h 153 3 = some 157 := K.2.2 (153, 3, 157) (List.mem_of_getElem? (i := 74) rfl)
theorem r153_4 {h : AH} (K : sp h) : ah_r h 153 4 = some 158 := K.2.2 (153, 4, 158) (List.mem_of_getElem? (i := 75) rfl)
theorem r153_5 {h : AH} (K : sp h) : ah_r h 153 5 = some 159 := K.2.2 (153, 5, 159) (List.mem_of_getElem? (i := 76) rfl)
theorem r153_6 {h : AH} (K : sp h) : ah_r h 153 6 = some 160 := K.2.2 (153, 6, 160) (List.mem_of_getElem? (i := 77) rfl)
theorem r153_7 {h : AH} (K : sp h) : ah_r h 153 7 = some 161 := K.2.2 (153, 7, 161) (List.mem_of_getElem? (i := 78) rfl)
theorem r153_8 {h : AH} (K : sp h) : ah_r h 153 8 = some 162 := K.2.2 (153, 8, 162) (List.mem_of_getElem? (i := 79) rfl)
theorem r153_9 {h : AH} (K : sp h) : ah_r h 153 9 = some 163 := K.2.2 (153, 9, 163) (List.mem_of_getElem? (i := 80) rfl)
theorem r164_0 {h : AH} (K : sp h) : ah_r h 164 0 = some 165 := K.2.2 (164, 0, 165) (List.mem_of_getElem? (i := 81) rfl)
theorem r164_1 {h : AH} (K : sp h) : ah_r h 164 1 = some 166 := K.2.2 (164, 1, 166) (List.mem_of_getElem? (i := 82) rfl)
theorem r168_1 {h : AH} (K : sp h) : ah_r h 168 1 = some 169 := K.2.2 (168, 1, 169) (List.mem_of_getElem? (i := 83) rfl)
theorem r168_2 {h : AH} (K : sp h) : ah_r h 168 2 = some 170 := K.2.2 (168, 2, 170) (List.mem_of_getElem? (i := 84) rfl)
theorem r168_3 {h : AH} (K : sp h) : ah_r h 168 3 = some 171 := K.2.2 (168, 3, 171) (List.mem_of_getElem? (i := 85) rfl)
theorem r168_4 {h : AH} (K : sp h) : ah_r h 168 4 = some 172 := K.2.2 (168, 4, 172) (List.mem_of_getElem? (i := 86) rfl)
theorem r168_5 {h : AH} (K : sp h) : ah_r h 168 5 = some 173 := K.2.2 (168, 5, 173) (List.mem_of_getElem? (i := 87) rfl)
theorem r168_7 {h : AH} (K : sp h) : ah_r h 168 7 = some 174 := K.2.2 (168, 7, 174) (List.mem_of_getElem? (i := 88) rfl)
theorem r168_8 {h : AH} (K : sp h) : ah_r h 168 8 = some 175 := K.2.2 (168, 8, 175) (List.mem_of_getElem? (i := 89) rfl)
theorem r168_10 {h : AH} (K : sp h) : ah_r h 168 10 = some 176 := K.2.2 (168, 10, 176) (List.mem_of_getElem? (i := 90) rfl)
theorem r168_11 {h : AH} (K : sp h) : ah_r h 168 11 = some 177 := K.2.2 (168, 11, 177) (List.mem_of_getElem? (i := 91) rfl)
theorem r168_12 {h : AH} (K : sp h) : ah_r h 168 12 = some 178 := K.2.2 (168, 12, 178) (List.mem_of_getElem? (i := 92) rfl)
theorem r168_13 {h : AH} (K : sp h) : ah_r h 168 13 = some 179 := K.2.2 (168, 13, 179) (List.mem_of_getElem? (i := 93) rfl)
theorem r168_14 {h : AH} (K : sp h) : ah_r h 168 14 = some 180 := K.2.2 (168, 14, 180) (List.mem_of_getElem? (i := 94) rfl)
theorem r168_16 {h : AH} (K : sp h) : ah_r h 168 16 = some 181 := K.2.2 (168, 16, 181) (List.mem_of_getElem? (i := 95) rfl)
theorem r168_17 {h : AH} (K : sp h) : ah_r h 168 17 = some 182 := K.2.2 (168, 17, 182) (List.mem_of_getElem? (i := 96) rfl)
theorem r168_18 {h : AH} (K : sp h) : ah_r h 168 18 = some 183 := K.2.2 (168, 18, 183) (List.mem_of_getElem? (i := 97) rfl)
theorem r168_19 {h : AH} (K : sp h) : ah_r h 168 19 = some 184 := K.2.2 (168, 19, 184) (List.mem_of_getElem? (i := 98) rfl)
theorem r168_20 {h : AH} (K : sp h) : ah_r h 168 20 = some 185 := K.2.2 (168, 20, 185) (List.mem_of_getElem? (i := 99) rfl)
theorem r168_21 {h : AH} (K : sp h) : ah_r h 168 21 = some 186 := K.2.2 (168, 21, 186) (List.mem_of_getElem? (i := 100) rfl)
theorem r168_24 {h : AH} (K : sp h) : ah_r h 168 24 = some 187 := K.2.2 (168, 24, 187) (List.mem_of_getElem? (i := 101) rfl)
theorem r168_25 {h : AH} (K : sp h) : ah_r h 168 25 = some 188 := K.2.2 (168, 25, 188) (List.mem_of_getElem? (i := 102) rfl)
theorem r168_26 {h : AH} (K : sp h) : ah_r h 168 26 = some 189 := K.2.2 (168, 26, 189) (List.mem_of_getElem? (i := 103) rfl)
theorem r168_27 {h : AH} (K : sp h) : ah_r h 168 27 = some 190 := K.2.2 (168, 27, 190) (List.mem_of_getElem? (i := 104) rfl)
theorem r168_28 {h : AH} (K : sp h) : ah_r h 168 28 = some 191 := K.2.2 (168, 28, 191) (List.mem_of_getElem? (i := 105) rfl)
theorem r168_30 {h : AH} (K : sp h) : ah_r h 168 30 = some 192 := K.2.2 (168, 30, 192) (List.mem_of_getElem? (i := 106) rfl)
theorem r168_31 {h : AH} (K : sp h) : ah_r h 168 31 = some 193 := K.2.2 (168, 31, 193) (List.mem_of_getElem? (i := 107) rfl)
theorem r168_32 {h : AH} (K : sp h) : ah_r h 168 32 = some 194 := K.2.2 (168, 32, 194) (List.mem_of_getElem? (i := 108) rfl)
theorem r168_33 {h : AH} (K : sp h) : ah_r h 168 33 = some 195 := K.2.2 (168, 33, 195) (List.mem_of_getElem? (i := 109) rfl)
theorem r168_34 {h : AH} (K : sp h) : ah_r h 168 34 = some 196 := K.2.2 (168, 34, 196) (List.mem_of_getElem? (i := 110) rfl)
theorem r168_36 {h : AH} (K : sp h) : ah_r h 168 36 = some 197 := K.2.2 (168, 36, 197) (List.mem_of_getElem? (i := 111) rfl)
theorem r168_37 {h : AH} (K : sp h) : ah_r h 168 37 = some 198 := K.2.2 (168, 37, 198) (List.mem_of_getElem? (i := 112) rfl)
theorem r168_39 {h : AH} (K : sp h) : ah_r h 168 39 = some 199 := K.2.2 (168, 39, 199) (List.mem_of_getElem? (i := 113) rfl)
theorem r168_40 {h : AH} (K : sp h) : ah_r h 168 40 = some 200 := K.2.2 (168, 40, 200) (List.mem_of_getElem? (i := 114) rfl)
theorem r168_41 {h : AH} (K : sp h) : ah_r h 168 41 = some 201 := K.2.2 (168, 41, 201) (List.mem_of_getElem? (i := 115) rfl)
theorem r168_42 {h : AH} (K : sp h) : ah_r h 168 42 = some 202 := K.2.2 (168, 42, 202) (List.mem_of_getElem? (i := 116) rfl)
theorem r168_43 {h : AH} (K : sp h) : ah_r h 168 43 = some 203 := K.2.2 (168, 43, 203) (List.mem_of_getElem? (i := 117) rfl)
theorem r168_44 {h : AH} (K : sp h) : ah_r h 168 44 = some 204 := K.2.2 (168, 44, 204) (List.mem_of_getElem? (i := 118) rfl)
theorem r168_45 {h : AH} (K : sp h) : ah_r h 168 45 = some 205 := K.2.2 (168, 45, 205) (List.mem_of_getElem? (i := 119) rfl)
theorem r168_46 {h : AH} (K : sp h) : ah_r h 168 46 = some 206 := K.2.2 (168, 46, 206) (List.mem_of_getElem? (i := 120) rfl)
theorem r168_47 {h : AH} (K : sp h) : ah_r h 168 47 = some 207 := K.2.2 (168, 47, 207) (List.mem_of_getElem? (i := 121) rfl)
theorem r168_48 {h : AH} (K : sp h) : ah_r h 168 48 = some 208 := K.2.2 (168, 48, 208) (List.mem_of_getElem? (i := 122) rfl)
theorem r168_55 {h : AH} (K : sp h) : ah_r h 168 55 = some 209 := K.2.2 (168, 55, 209) (List.mem_of_getElem? (i := 123) rfl)
theorem r168_56 {h : AH} (K : sp h) : ah_r h 168 56 = some 210 := K.2.2 (168, 56, 210) (List.mem_of_getElem? (i := 124) rfl)
theorem r168_57 {h : AH} (K : sp h) : ah_r h 168 57 = some 211 := K.2.2 (168, 57, 211) (List.mem_of_getElem? (i := 125) rfl)
theorem r168_58 {h : AH} (K : sp h) : ah_r h 168 58 = some 212 := K.2.2 (168, 58, 212) (List.mem_of_getElem? (i := 126) rfl)
theorem r168_61 {h : AH} (K : sp h) : ah_r h 168 61 = some 213 := K.2.2 (168, 61, 213) (List.mem_of_getElem? (i := 127) rfl)
theorem r168_63 {h : AH} (K : sp h) : ah_r h 168 63 = some 214 := K.2.2 (168, 63, 214) (List.mem_of_getElem? (i := 128) rfl)
theorem r168_64 {h : AH} (K : sp h) : ah_r h 168 64 = some 215 := K.2.2 (168, 64, 215) (List.mem_of_getElem? (i := 129) rfl)
