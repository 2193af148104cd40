/-! What holds between calls: the class's cells against the reference's. -/
def FC (h : AH) : Prop := ah_f h 0 19 = ah_f h 168 0 ∧ ah_f h 0 17 = ah_f h 168 15 ∧ ah_f h 0 18 = ah_f h 168 60 ∧ ∀ k, 1 ≤ k → k ≤ 9 → ah_i h 167 k = ah_i h 169 k
def rp (h : AH) (b p : Nat) : Prop := ∃ n l, ah_f h b 2 = nI n ∧ ah_i h 170 p = nI n ∧ l ≤ 9 ∧ ah_f h b 3 = nI l ∧ ah_i h 171 p = nI l ∧ PO n (ah_i h (b + 1)) (ah_i h (b + 2)) ∧ (∀ c, c < n → ah_i h 172 (40 * p + c) = ah_i h (b + 1) c) ∧ (∀ e, e < 4 * n → ah_i h 173 (160 * p + e) = ah_i h (b + 2) e) ∧ ∀ c i, c < n → i < 4 → (∀ l, l ≤ 4 → ah_i h (b + 1) c = nI l → l ≤ i) → ah_i h (b + 2) (4 * c + i) = m1
/-- a remembered picture: place i of the ring, slot s -/
def he (h : AH) (T i s : Nat) : Prop := ∃ n l, n ≤ 40 ∧ l ≤ 9 ∧ ah_i h T (162 * i) = nI n ∧ ah_i h 170 s = nI n ∧ ah_i h T (162 * i + 1) = nI l ∧ ah_i h 171 s = nI l ∧ (∀ c, c < n → ah_i h 172 (40 * s + c) = nI 4) ∧ ∀ e, e < 4 * n → ∃ a, a < 100 ∧ ah_i h T (162 * i + 2 + e) = nI a ∧ ah_i h 173 (160 * s + e) = nI a
def hp (h : AH) (W : Nat → Nat) (b p : Nat) : Prop := ∃ hc nx, hc ≤ 10 ∧ nx < 10 ∧ ah_i h 174 p = nI hc ∧ ah_f h b 5 = nI hc ∧ ah_f h b 6 = nI nx ∧ ((ah_r h b 4 = none ∧ hc = 0) ∨ ∃ T, ah_r h b 4 = some T ∧ 216 ≤ T ∧ T < ah_n h ∧ ah_x h T 0 1620 ∧ W T = p ∧ ∀ k, k < hc → he h T ((nx + 10 - hc + k) % 10) (24 + 10 * p + k))
def PX (h : AH) (W : Nat → Nat) (b p : Nat) : Prop := 216 ≤ b ∧ b + 3 ≤ ah_n h ∧ pt h b ∧ (W b = p ∧ W (b + 1) = p ∧ W (b + 2) = p) ∧ rp h b p ∧ hp h W b p
def PS (h : AH) (W : Nat → Nat) (N : Nat) (B : Nat → Nat) : Prop := N ≤ 24 ∧ ah_f h 0 15 = nI N ∧ ah_f h 168 6 = nI N ∧ ∀ p, p < N → ah_q h 1 p = some (B p) ∧ PX h W (B p) p
def MV (h : AH) (W : Nat → Nat) : Prop := ∃ Mv, Mv ≤ 60 ∧ ah_f h 0 16 = nI Mv ∧ ah_f h 168 35 = nI Mv ∧ ∀ k, k < Mv → ∃ a kd, ah_q h 2 k = some a ∧ 216 ≤ a ∧ ah_o h a 5 ∧ W a = 100 + k ∧ kd < 6 ∧ ah_f h a 0 = nI kd ∧ ah_i h 197 (4 * k) = nI kd ∧ ah_i h 197 (4 * k + 1) = ah_f h a 1 ∧ ah_i h 197 (4 * k + 2) = ah_f h a 2 ∧ ah_i h 197 (4 * k + 3) = ah_f h a 3
def NU (h : AH) (b a fm ma cap : Nat) : Prop := ∃ n, n ≤ cap ∧ ah_f h b 1 = nI n ∧ ah_f h 168 fm = nI n ∧ ∀ k, k < n → ah_i h a k = ah_i h ma k
def RS (h : AH) : Prop := ∃ x, (x = 74 ∨ x = 75) ∧ ah_r h 73 0 = some x ∧ ah_f h 73 2 = ah_f h 168 22 ∧ ((ah_f h 168 22 = nI 0 ∧ ∀ k, k < 281 → ah_l h x k = 0) ∨ (ah_f h 168 22 = nI 1 ∧ (∀ k, k < 281 → ah_l h x k = ah_l h 186 (k + 160)) ∧ (∀ k, k < 601 → k < 160 ∨ 440 < k → ah_l h 186 k = 0) ∧ ∃ k, k < 601 ∧ ah_l h 186 k ≠ 0))
def SPn (h : AH) : Prop := ∃ w, w ≤ 1000000 ∧ ah_f h 32 3 = nI w ∧ ah_f h 168 23 = nI w
def BK (h : AH) (W : Nat → Nat) : Prop := ∃ N, N ≤ 200 ∧ ah_f h 164 2 = nI N ∧ ah_f h 168 62 = nI N ∧ (∀ k, k < N → ah_l h 165 k = ah_l h 214 k) ∧ ∀ k, k < N → ∃ a, ah_q h 166 k = some a ∧ 216 ≤ a ∧ a + 3 ≤ 10000000 ∧ ah_o h a 2 ∧ ah_x h (a + 1) 2 281 ∧ W a = 200 + k ∧ W (a + 1) = 200 + k ∧ ah_r h a 0 = some (a + 1) ∧ (∀ j, j < 281 → ah_l h (a + 1) j = ah_l h 215 (601 * k + j + 160)) ∧ ∀ j, j < 601 → j < 160 ∨ 440 < j → ah_l h 215 (601 * k + j) = 0
/-- rows that are swapped about -/
def LAC (h : AH) : Prop := (∀ b, b = 73 ∨ b = 76 ∨ b = 79 → (ah_r h b 0 = some (b + 1) ∧ ah_r h b 1 = some (b + 2)) ∨ (ah_r h b 0 = some (b + 2) ∧ ah_r h b 1 = some (b + 1))) ∧ (∀ i, i < 38 → ah_q h 34 i = some (35 + i)) ∧ ∃ g : Nat → Nat, (∀ i, i < 40 → ah_q h 84 i = some (85 + g i) ∧ g i < 40) ∧ ∀ i j, i < 40 → j < 40 → g i = g j → i = j
def OLD (h : AH) (S : Nat → Int32) (len : Nat) : Prop := (ah_k h 10000000 = (0, len) ∧ ah_i h 10000000 = S) ∧ (ah_k h 10000001 = (0, 4) ∧ ah_i h 10000001 0 = nI 3 ∧ ah_i h 10000001 1 = nI 5 ∧ ah_i h 10000001 2 = nI 7 ∧ ah_i h 10000001 3 = nI 11) ∧ ah_k h 10000002 = (0, 6) ∧ ah_i h 10000002 0 = m1 ∧ ah_i h 10000002 1 = nI 0 ∧ ah_i h 10000002 2 = m1 ∧ ah_i h 10000002 3 = nI 2 ∧ ah_i h 10000002 4 = m1 ∧ ah_i h 10000002 5 = nI 4
def R1 (h : AH) (W : Nat → Nat) (N : Nat) (B : Nat → Nat) (S : Nat → Int32) (len : Nat) : Prop := sp h ∧ LAC h ∧ OLD h S len ∧ PS h W N B ∧ MV h W ∧ (NU h 3 4 29 191 130 ∧ NU h 5 6 38 198 3 ∧ NU h 134 135 59 212 100) ∧ RS h ∧ SPn h ∧ BK h W
/-! frames -/
def Cscr : List Nat := (List.range 25).map (7 + ·) ++ (List.range 40).map (33 + ·) ++ [76, 77, 78, 79, 80, 81] ++ (List.range 43).map (82 + ·)
def Mscr : List Nat := [168, 170, 171, 172, 173, 175, 176, 177, 178, 179, 180, 181, 182, 183, 184, 185, 187, 188, 189, 190, 192, 193, 194, 195, 196, 199, 200, 201, 202, 203, 204, 205, 206, 207, 208, 213]
theorem cscr_lt : ∀ a, a ∈ Cscr → a < 216 := by decide
theorem mscr_lt : ∀ a, a ∈ Mscr → a < 216 := by decide
theorem cscr_no {a : Nat} (h : 216 ≤ a) : a ∉ Cscr := fun q => by have := cscr_lt a q; omega
theorem mscr_no {a : Nat} (h : 216 ≤ a) : a ∉ Mscr := fun q => by have := mscr_lt a q; omega
/-- all of a cell -/
def eqc (h h' : AH) (a : Nat) : Prop := ah_k h' a = ah_k h a ∧ ah_f h' a = ah_f h a ∧ ah_i h' a = ah_i h a ∧ ah_l h' a = ah_l h a ∧ ah_r h' a = ah_r h a ∧ ah_q h' a = ah_q h a
/-- a slot of the reference -/
def sl (h h' : AH) (s : Nat) : Prop := ah_i h' 170 s = ah_i h 170 s ∧ ah_i h' 171 s = ah_i h 171 s ∧ (∀ c, c < 40 → ah_i h' 172 (40 * s + c) = ah_i h 172 (40 * s + c)) ∧ ∀ e, e < 160 → ah_i h' 173 (160 * s + e) = ah_i h 173 (160 * s + e)
theorem sl_refl (h : AH) (s : Nat) : sl h h s := ⟨rfl, rfl, fun _ _ => rfl, fun _ _ => rfl⟩
theorem sl_trans {h h1 h2 : AH} {s : Nat} (x : sl h h1 s) (y : sl h1 h2 s) : sl h h2 s := ⟨y.1.trans x.1, y.2.1.trans x.2.1, fun c hc => (y.2.2.1 c hc).trans (x.2.2.1 c hc), fun e he => (y.2.2.2 e he).trans (x.2.2.2 e he)⟩
theorem sl_of {h h' : AH} (s : Nat) (a : ah_i h' 170 = ah_i h 170) (b : ah_i h' 171 = ah_i h 171) (c : ah_i h' 172 = ah_i h 172) (d : ah_i h' 173 = ah_i h 173) : sl h h' s := ⟨by rw [a], by rw [b], fun _ _ => by rw [c], fun _ _ => by rw [d]⟩
theorem eqc_fr {L : List Nat} {h h' : AH} (x : fr L h h') {a : Nat} (ha : a ∉ L) : eqc h h' a := ⟨by rw [x.1.2.1], (x.2 a ha).1, (x.2 a ha).2.1, (x.2 a ha).2.2, by rw [x.1.2.2.1], by rw [x.1.2.2.2]⟩
/-- scratch of the class -/
def fcs (h h' : AH) : Prop := ah_n h' = ah_n h ∧ (∀ a, a ∉ Cscr → eqc h h' a) ∧ (sp h → sp h') ∧ (LAC h → LAC h')
/-- scratch of the reference -/
def fms (h h' : AH) : Prop := ah_n h' = ah_n h ∧ (∀ a, a ∉ Mscr → eqc h h' a) ∧ (sp h → sp h') ∧ (∀ k, k ≠ 9 → ah_f h' 168 k = ah_f h 168 k) ∧ ∀ s, s < 364 → sl h h' s
theorem LAC_q {h h' : AH} (x : LAC h) (r : ah_r h' = ah_r h) (q : ah_q h' = ah_q h) : LAC h' := by unfold LAC; rw [r, q]; exact x
theorem fcs_fr {L : List Nat} {h h' : AH} (x : fr L h h') (s : ∀ a, a ∈ L → a ∈ Cscr) : fcs h h' := ⟨x.1.1, fun _ ha => eqc_fr x (fun q => ha (s _ q)), fun K => sp_fr K x, fun y => LAC_q y x.1.2.2.1 x.1.2.2.2⟩
theorem fcs_refl (h : AH) : fcs h h := fcs_fr (fr_refl [] h) (fun _ q => absurd q List.not_mem_nil)
theorem fms_fr {L : List Nat} {h h' : AH} (x : fr L h h') (s : ∀ a, a ∈ L → a ∈ Mscr) (f : ∀ k, k ≠ 9 → ah_f h' 168 k = ah_f h 168 k) (l : ∀ s, s < 364 → sl h h' s) : fms h h' := ⟨x.1.1, fun _ ha => eqc_fr x (fun q => ha (s _ q)), fun K => sp_fr K x, f, l⟩
theorem eqc_trans {h h1 h2 : AH} {a : Nat} (x : eqc h h1 a) (y : eqc h1 h2 a) : eqc h h2 a := ⟨y.1.trans x.1, y.2.1.trans x.2.1, y.2.2.1.trans x.2.2.1, y.2.2.2.1.trans x.2.2.2.1, y.2.2.2.2.1.trans x.2.2.2.2.1, y.2.2.2.2.2.trans x.2.2.2.2.2⟩
theorem fms_trans {h h1 h2 : AH} (x : fms h h1) (y : fms h1 h2) : fms h h2 := ⟨y.1.trans x.1, fun a ha => eqc_trans (x.2.1 a ha) (y.2.1 a ha), fun K => y.2.2.1 (x.2.2.1 K), fun k hk => (y.2.2.2.1 k hk).trans (x.2.2.2.1 k hk), fun s hs => sl_trans (x.2.2.2.2 s hs) (y.2.2.2.2 s hs)⟩
theorem fcs_trans {h h1 h2 : AH} (x : fcs h h1) (y : fcs h1 h2) : fcs h h2 := ⟨y.1.trans x.1, fun a ha => eqc_trans (x.2.1 a ha) (y.2.1 a ha), fun K => y.2.2.1 (x.2.2.1 K), fun K => y.2.2.2 (x.2.2.2 K)⟩
/-! the parts of the relation, carried over -/
section CARRY
variable {h h' : AH} {W : Nat → Nat}
theorem ah_x_eq {a t n : Nat} (x : ah_x h a t n) (e : eqc h h' a) (hn : ah_n h ≤ ah_n h') : ah_x h' a t n := ⟨Nat.lt_of_lt_of_le x.1 hn, e.1.trans x.2⟩
theorem ah_o_eq {a c : Nat} (x : ah_o h a c) (e : eqc h h' a) (hn : ah_n h ≤ ah_n h') : ah_o h' a c := ⟨Nat.lt_of_lt_of_le x.1 hn, by rw [e.1]; exact x.2⟩
theorem pt_eq {b : Nat} (x : pt h b) (e0 : eqc h h' b) (e1 : eqc h h' (b + 1)) (e2 : eqc h h' (b + 2)) (hn : ah_n h ≤ ah_n h') : pt h' b := ⟨x.1, ah_o_eq x.2.1 e0 hn, by rw [e0.2.2.2.2.1]; exact x.2.2.1, by rw [e0.2.2.2.2.1]; exact x.2.2.2.1, ah_x_eq x.2.2.2.2.1 e1 hn, ah_x_eq x.2.2.2.2.2 e2 hn⟩
theorem rp_eq {b p : Nat} (x : rp h b p) (e0 : ah_f h' b = ah_f h b) (e1 : ah_i h' (b + 1) = ah_i h (b + 1)) (e2 : ah_i h' (b + 2) = ah_i h (b + 2)) (s : sl h h' p) : rp h' b p := by
  obtain ⟨n, l, x1, x2, x3, x4, x5, x6, x7, x8, x9⟩ := x
  have h40 := x6.1
  unfold rp
  rw [e0, e1, e2, s.1, s.2.1]
  refine ⟨n, l, x1, x2, x3, x4, x5, x6, fun c hc => ?_, fun e he => ?_, x9⟩
  · rw [s.2.2.1 c (by omega)]
    exact x7 c hc
  · rw [s.2.2.2 e (by omega)]
    exact x8 e he
theorem he_eq {T i s : Nat} (x : he h T i s) (e1 : ah_i h' T = ah_i h T) (z : sl h h' s) : he h' T i s := by
  obtain ⟨n, l, x1, x2, x3, x4, x5, x6, x7, x8⟩ := x
  unfold he
  rw [e1, z.1, z.2.1]
  refine ⟨n, l, x1, x2, x3, x4, x5, x6, fun c hc => ?_, fun e he => ?_⟩
  · rw [z.2.2.1 c (by omega)]
    exact x7 c hc
  · rw [z.2.2.2 e (by omega)]
    exact x8 e he
theorem hp_eq {W' : Nat → Nat} {b p : Nat} (x : hp h W b p) (hW : ∀ a, a < ah_n h → W' a = W a) (e0 : ah_f h' b = ah_f h b) (er : ah_r h' b = ah_r h b) (e4 : ah_i h' 174 p = ah_i h 174 p) (eT : ∀ T, 216 ≤ T → T < ah_n h → W T = p → ah_x h T 0 1620 → eqc h h' T) (z : ∀ k, k < 10 → sl h h' (24 + 10 * p + k)) (hn : ah_n h ≤ ah_n h') : hp h' W' b p := by
  obtain ⟨hc, nx, x1, x2, x3, x4, x5, x6⟩ := x
  unfold hp
  rw [e0, er, e4]
  refine ⟨hc, nx, x1, x2, x3, x4, x5, ?_⟩
  rcases x6 with x6 | ⟨T, t1, t2, t3, t4, t5, t6⟩
  · exact Or.inl x6
  · have eT := eT T t2 t3 t5 t4
    exact Or.inr ⟨T, t1, t2, by omega, ah_x_eq t4 eT hn, (hW T t3).trans t5, fun k hk => he_eq (t6 k hk) eT.2.2.1 (z k (by omega))⟩
theorem PX_eq {W' : Nat → Nat} {b p : Nat} (x : PX h W b p) (hW : ∀ a, a < ah_n h → W' a = W a) (e : ∀ a, 216 ≤ a → a < ah_n h → W a = p → eqc h h' a) (e4 : ah_i h' 174 p = ah_i h 174 p) (s : sl h h' p) (z : ∀ k, k < 10 → sl h h' (24 + 10 * p + k)) (hn : ah_n h ≤ ah_n h') : PX h' W' b p := by
  obtain ⟨x1, x2, x3, ⟨w0, w1, w2⟩, x4, x5⟩ := x
  have e0 := e b x1 (by omega) w0
  have e1 := e (b + 1) (by omega) (by omega) w1
  have e2 := e (b + 2) (by omega) (by omega) w2
  exact ⟨x1, by omega, pt_eq x3 e0 e1 e2 hn, ⟨(hW _ (by omega)).trans w0, (hW _ (by omega)).trans w1, (hW _ (by omega)).trans w2⟩, rp_eq x4 e0.2.1 e1.2.2.1 e2.2.2.1 s, hp_eq x5 hW e0.2.1 e0.2.2.2.2.1 e4 (fun T t1 t2 t3 _ => e T t1 t2 t3) z hn⟩
theorem MV_eq {W' : Nat → Nat} (x : MV h W) (hW : ∀ a, a < ah_n h → W' a = W a) (e0 : ah_f h' 0 16 = ah_f h 0 16) (e1 : ah_f h' 168 35 = ah_f h 168 35) (e2 : ah_q h' 2 = ah_q h 2) (e3 : ah_i h' 197 = ah_i h 197) (e : ∀ a, 216 ≤ a → a < ah_n h → 100 ≤ W a → W a < 160 → eqc h h' a) (hn : ah_n h ≤ ah_n h') : MV h' W' := by
  obtain ⟨Mv, x1, x2, x3, x4⟩ := x
  unfold MV
  rw [e0, e1, e2, e3]
  refine ⟨Mv, x1, x2, x3, fun k hk => ?_⟩
  obtain ⟨a, kd, y1, y2, y3, y4, y5, y6, y7, y8, y9, y10⟩ := x4 k hk
  have ea := e a y2 y3.1 (by omega) (by omega)
  rw [← ea.2.1] at y6 y8 y9 y10
  exact ⟨a, kd, y1, y2, ah_o_eq y3 ea hn, (hW a y3.1).trans y4, y5, y6, y7, y8, y9, y10⟩
theorem NU_eq {b a fm ma cap : Nat} (x : NU h b a fm ma cap) (e0 : ah_f h' b = ah_f h b) (e1 : ah_f h' 168 fm = ah_f h 168 fm) (e2 : ah_i h' a = ah_i h a) (e3 : ah_i h' ma = ah_i h ma) : NU h' b a fm ma cap := by
  unfold NU
  rw [e0, e1, e2, e3]
  exact x
theorem RS_eq (x : RS h) (e0 : eqc h h' 73) (e1 : ah_f h' 168 22 = ah_f h 168 22) (e2 : ah_l h' 74 = ah_l h 74) (e4 : ah_l h' 75 = ah_l h 75) (e3 : ah_l h' 186 = ah_l h 186) : RS h' := by
  obtain ⟨y, y1, y2, y3, y4⟩ := x
  have ey : ah_l h' y = ah_l h y := by
    rcases y1 with z | z
    · rw [z]; exact e2
    · rw [z]; exact e4
  refine ⟨y, y1, by rw [e0.2.2.2.2.1]; exact y2, by rw [e0.2.1, e1]; exact y3, ?_⟩
  rw [e1, ey, e3]
  exact y4
theorem SPn_eq (x : SPn h) (e0 : ah_f h' 32 = ah_f h 32) (e1 : ah_f h' 168 23 = ah_f h 168 23) : SPn h' := by
  unfold SPn
  rw [e0, e1]
  exact x
theorem BK_eq {W' : Nat → Nat} (x : BK h W) (hW : ∀ a, a < ah_n h → W' a = W a) (e0 : ah_f h' 164 = ah_f h 164) (e1 : ah_f h' 168 62 = ah_f h 168 62) (e2 : ah_l h' 165 = ah_l h 165) (e3 : ah_q h' 166 = ah_q h 166) (e4 : ah_l h' 214 = ah_l h 214) (e5 : ah_l h' 215 = ah_l h 215) (e : ∀ a, 216 ≤ a → a < ah_n h → 200 ≤ W a → W a < 400 → eqc h h' a) (hn : ah_n h ≤ ah_n h') : BK h' W' := by
  obtain ⟨N, x1, x2, x3, x4, x5⟩ := x
  unfold BK
  rw [e0, e1, e2, e3, e4, e5]
  refine ⟨N, x1, x2, x3, x4, fun k hk => ?_⟩
  obtain ⟨a, y1, y2, y3, y4, y5, y6, y7, y8, y9, y10⟩ := x5 k hk
  have ea := e a y2 y4.1 (by omega) (by omega)
  have eb := e (a + 1) (by omega) y5.1 (by omega) (by omega)
  refine ⟨a, y1, y2, y3, ah_o_eq y4 ea hn, ah_x_eq y5 eb hn, (hW a y4.1).trans y6, (hW _ y5.1).trans y7, by rw [ea.2.2.2.2.1]; exact y8, ?_, y10⟩
  rw [eb.2.2.2.1]
  exact y9
theorem OLD_eq {S : Nat → Int32} {len : Nat} (x : OLD h S len) (e : ∀ a, 10000000 ≤ a → eqc h h' a) : OLD h' S len := by
  unfold OLD at x ⊢
  rw [(e 10000000 (by decide)).1, (e 10000000 (by decide)).2.2.1, (e 10000001 (by decide)).1, (e 10000001 (by decide)).2.2.1, (e 10000002 (by decide)).1, (e 10000002 (by decide)).2.2.1]
  exact x
theorem PS_eq {W' : Nat → Nat} {N : Nat} {B : Nat → Nat} (x : PS h W N B) (hW : ∀ a, a < ah_n h → W' a = W a) (e0 : ah_f h' 0 15 = ah_f h 0 15) (e1 : ah_f h' 168 6 = ah_f h 168 6) (e2 : ah_q h' 1 = ah_q h 1) (e4 : ah_i h' 174 = ah_i h 174) (e : ∀ a, 216 ≤ a → a < ah_n h → W a < 24 → eqc h h' a) (s : ∀ s, s < 264 → sl h h' s) (hn : ah_n h ≤ ah_n h') : PS h' W' N B := by
  obtain ⟨x1, x2, x3, x4⟩ := x
  unfold PS
  rw [e0, e1, e2]
  exact ⟨x1, x2, x3, fun p hp => ⟨(x4 p hp).1, PX_eq (x4 p hp).2 hW (fun a a1 a2 a3 => e a a1 a2 (by omega)) (by rw [e4]) (s p (by omega)) (fun k hk => s _ (by omega)) hn⟩⟩
end CARRY
section RCARRY
variable {h h' : AH} {W : Nat → Nat} {N : Nat} {B : Nat → Nat} {S : Nat → Int32} {len : Nat}
theorem R1_fcs (x : R1 h W N B S len) (F : fcs h h') : R1 h' W N B S len := by
  obtain ⟨x0, x1, x2, x3, x4, ⟨x5, x6, x7⟩, x8, x9, x10⟩ := x
  obtain ⟨f0, f1, f2, f3⟩ := F
  have e : ∀ a, a ∉ Cscr → eqc h h' a := f1
  have big : ∀ a, 216 ≤ a → eqc h h' a := fun a ha => f1 a (cscr_no ha)
  have c0 := e 0 (by decide)
  have c168 := e 168 (by decide)
  have hn : ah_n h ≤ ah_n h' := by omega
  have hsl : ∀ s, sl h h' s := fun s => sl_of s (e 170 (by decide)).2.2.1 (e 171 (by decide)).2.2.1 (e 172 (by decide)).2.2.1 (e 173 (by decide)).2.2.1
  refine ⟨f2 x0, f3 x1, OLD_eq x2 (fun a ha => big a (by omega)), PS_eq x3 (fun _ _ => rfl) (by rw [c0.2.1]) (by rw [c168.2.1]) (e 1 (by decide)).2.2.2.2.2 (e 174 (by decide)).2.2.1 (fun a a1 _ _ => big a a1) (fun s _ => hsl s) hn, MV_eq x4 (fun _ _ => rfl) (by rw [c0.2.1]) (by rw [c168.2.1]) (e 2 (by decide)).2.2.2.2.2 (e 197 (by decide)).2.2.1 (fun a a1 _ _ _ => big a a1) hn, ⟨NU_eq x5 (e 3 (by decide)).2.1 (by rw [c168.2.1]) (e 4 (by decide)).2.2.1 (e 191 (by decide)).2.2.1, NU_eq x6 (e 5 (by decide)).2.1 (by rw [c168.2.1]) (e 6 (by decide)).2.2.1 (e 198 (by decide)).2.2.1, NU_eq x7 (e 134 (by decide)).2.1 (by rw [c168.2.1]) (e 135 (by decide)).2.2.1 (e 212 (by decide)).2.2.1⟩, RS_eq x8 (e 73 (by decide)) (by rw [c168.2.1]) (e 74 (by decide)).2.2.2.1 (e 75 (by decide)).2.2.2.1 (e 186 (by decide)).2.2.2.1, SPn_eq x9 (e 32 (by decide)).2.1 (by rw [c168.2.1]), BK_eq x10 (fun _ _ => rfl) (e 164 (by decide)).2.1 (by rw [c168.2.1]) (e 165 (by decide)).2.2.2.1 (e 166 (by decide)).2.2.2.2.2 (e 214 (by decide)).2.2.2.1 (e 215 (by decide)).2.2.2.1 (fun a a1 _ _ _ => big a a1) hn⟩
theorem R1_fms (x : R1 h W N B S len) (F : fms h h') : R1 h' W N B S len := by
  obtain ⟨x0, x1, x2, x3, x4, ⟨x5, x6, x7⟩, x8, x9, x10⟩ := x
  obtain ⟨f0, f1, f2, f3, f4⟩ := F
  have e : ∀ a, a ∉ Mscr → eqc h h' a := f1
  have big : ∀ a, 216 ≤ a → eqc h h' a := fun a ha => f1 a (mscr_no ha)
  have c0 := e 0 (by decide)
  have hn : ah_n h ≤ ah_n h' := by omega
  have hq : ∀ a, a ∉ Mscr → ah_q h' a = ah_q h a := fun a ha => (e a ha).2.2.2.2.2
  have hr : ∀ a, a ∉ Mscr → ah_r h' a = ah_r h a := fun a ha => (e a ha).2.2.2.2.1
  refine ⟨f2 x0, ?_, OLD_eq x2 (fun a ha => big a (by omega)), PS_eq x3 (fun _ _ => rfl) (by rw [c0.2.1]) (f3 6 (by decide)) (e 1 (by decide)).2.2.2.2.2 (e 174 (by decide)).2.2.1 (fun a a1 _ _ => big a a1) (fun s hs => f4 s (by omega)) hn, MV_eq x4 (fun _ _ => rfl) (by rw [c0.2.1]) (f3 35 (by decide)) (e 2 (by decide)).2.2.2.2.2 (e 197 (by decide)).2.2.1 (fun a a1 _ _ _ => big a a1) hn, ⟨NU_eq x5 (e 3 (by decide)).2.1 (f3 29 (by decide)) (e 4 (by decide)).2.2.1 (e 191 (by decide)).2.2.1, NU_eq x6 (e 5 (by decide)).2.1 (f3 38 (by decide)) (e 6 (by decide)).2.2.1 (e 198 (by decide)).2.2.1, NU_eq x7 (e 134 (by decide)).2.1 (f3 59 (by decide)) (e 135 (by decide)).2.2.1 (e 212 (by decide)).2.2.1⟩, RS_eq x8 (e 73 (by decide)) (f3 22 (by decide)) (e 74 (by decide)).2.2.2.1 (e 75 (by decide)).2.2.2.1 (e 186 (by decide)).2.2.2.1, SPn_eq x9 (e 32 (by decide)).2.1 (f3 23 (by decide)), BK_eq x10 (fun _ _ => rfl) (e 164 (by decide)).2.1 (f3 62 (by decide)) (e 165 (by decide)).2.2.2.1 (e 166 (by decide)).2.2.2.2.2 (e 214 (by decide)).2.2.2.1 (e 215 (by decide)).2.2.2.1 (fun a a1 _ _ _ => big a a1) hn⟩
  obtain ⟨y1, y2, y3⟩ := x1
  refine ⟨fun b hb => ?_, fun i hi => ?_, ?_⟩
  · have : b ∉ Mscr := by
      rcases hb with z | z | z <;> rw [z] <;> decide
    rw [hr b this]
    exact y1 b hb
  · rw [hq 34 (by decide)]
    exact y2 i hi
  · rw [hq 84 (by decide)]
    exact y3
/-- the class's own numbers of a call: refusal; where, parted -/
theorem R1_f0 (x : R1 h W N B S len) (k : Nat) (v : Int32) (hk : k = 17 ∨ k = 18 ∨ k = 19) : R1 (ah_sf h 0 k v) W N B S len := by
  obtain ⟨x0, x1, x2, x3, x4, ⟨x5, x6, x7⟩, x8, x9, x10⟩ := x
  have e : ∀ a, a ≠ 0 → eqc h (ah_sf h 0 k v) a := fun a ha => ⟨rfl, f_sf_n _ _ _ _ _ ha, rfl, rfl, rfl, rfl⟩
  have c0 : ∀ j, j ≠ k → ah_f (ah_sf h 0 k v) 0 j = ah_f h 0 j := fun j hj => by rw [f_sf_s, u1_n _ _ hj]
  refine ⟨x0, x1, OLD_eq x2 (fun a ha => e a (by omega)), PS_eq x3 (fun _ _ => rfl) (c0 15 (by omega)) (by rw [(e 168 (by decide)).2.1]) rfl rfl (fun a a1 _ _ => e a (by omega)) (fun s _ => sl_refl h s) (Nat.le_refl _), MV_eq x4 (fun _ _ => rfl) (c0 16 (by omega)) (by rw [(e 168 (by decide)).2.1]) rfl rfl (fun a a1 _ _ _ => e a (by omega)) (Nat.le_refl _), ⟨NU_eq x5 (e 3 (by decide)).2.1 (by rw [(e 168 (by decide)).2.1]) rfl rfl, NU_eq x6 (e 5 (by decide)).2.1 (by rw [(e 168 (by decide)).2.1]) rfl rfl, NU_eq x7 (e 134 (by decide)).2.1 (by rw [(e 168 (by decide)).2.1]) rfl rfl⟩, RS_eq x8 (e 73 (by decide)) (by rw [(e 168 (by decide)).2.1]) rfl rfl rfl, SPn_eq x9 (e 32 (by decide)).2.1 (by rw [(e 168 (by decide)).2.1]), BK_eq x10 (fun _ _ => rfl) (e 164 (by decide)).2.1 (by rw [(e 168 (by decide)).2.1]) rfl rfl rfl rfl (fun a a1 _ _ _ => e a (by omega)) (Nat.le_refl _)⟩
theorem R1_f168 (x : R1 h W N B S len) (k : Nat) (v : Int32) (hk : k = 0 ∨ k = 15 ∨ k = 60) : R1 (ah_sf h 168 k v) W N B S len := by
  obtain ⟨x0, x1, x2, x3, x4, ⟨x5, x6, x7⟩, x8, x9, x10⟩ := x
  have e : ∀ a, a ≠ 168 → eqc h (ah_sf h 168 k v) a := fun a ha => ⟨rfl, f_sf_n _ _ _ _ _ ha, rfl, rfl, rfl, rfl⟩
  have c0 : ∀ j, j ≠ k → ah_f (ah_sf h 168 k v) 168 j = ah_f h 168 j := fun j hj => by rw [f_sf_s, u1_n _ _ hj]
  refine ⟨x0, x1, OLD_eq x2 (fun a ha => e a (by omega)), PS_eq x3 (fun _ _ => rfl) (by rw [(e 0 (by decide)).2.1]) (c0 6 (by omega)) rfl rfl (fun a a1 _ _ => e a (by omega)) (fun s _ => sl_refl h s) (Nat.le_refl _), MV_eq x4 (fun _ _ => rfl) (by rw [(e 0 (by decide)).2.1]) (c0 35 (by omega)) rfl rfl (fun a a1 _ _ _ => e a (by omega)) (Nat.le_refl _), ⟨NU_eq x5 (e 3 (by decide)).2.1 (c0 29 (by omega)) rfl rfl, NU_eq x6 (e 5 (by decide)).2.1 (c0 38 (by omega)) rfl rfl, NU_eq x7 (e 134 (by decide)).2.1 (c0 59 (by omega)) rfl rfl⟩, RS_eq x8 (e 73 (by decide)) (c0 22 (by omega)) rfl rfl rfl, SPn_eq x9 (e 32 (by decide)).2.1 (c0 23 (by omega)), BK_eq x10 (fun _ _ => rfl) (e 164 (by decide)).2.1 (c0 62 (by omega)) rfl rfl rfl rfl (fun a a1 _ _ _ => e a (by omega)) (Nat.le_refl _)⟩
theorem R1_i (x : R1 h W N B S len) (a k : Nat) (v : Int32) (hk : a = 167 ∨ a = 169) : R1 (ah_si h a k v) W N B S len := by
  obtain ⟨x0, x1, x2, x3, x4, ⟨x5, x6, x7⟩, x8, x9, x10⟩ := x
  have e : ∀ b, b ≠ a → eqc h (ah_si h a k v) b := fun b hb => ⟨rfl, rfl, i_si_n _ _ _ _ _ hb, rfl, rfl, rfl⟩
  refine ⟨x0, x1, OLD_eq x2 (fun a ha => e a (by omega)), PS_eq x3 (fun _ _ => rfl) rfl rfl rfl (e 174 (by omega)).2.2.1 (fun a a1 _ _ => e a (by omega)) (fun s _ => sl_of s (e 170 (by omega)).2.2.1 (e 171 (by omega)).2.2.1 (e 172 (by omega)).2.2.1 (e 173 (by omega)).2.2.1) (Nat.le_refl _), MV_eq x4 (fun _ _ => rfl) rfl rfl rfl (e 197 (by omega)).2.2.1 (fun a a1 _ _ _ => e a (by omega)) (Nat.le_refl _), ⟨NU_eq x5 rfl rfl (e 4 (by omega)).2.2.1 (e 191 (by omega)).2.2.1, NU_eq x6 rfl rfl (e 6 (by omega)).2.2.1 (e 198 (by omega)).2.2.1, NU_eq x7 rfl rfl (e 135 (by omega)).2.2.1 (e 212 (by omega)).2.2.1⟩, RS_eq x8 (e 73 (by omega)) rfl rfl rfl rfl, SPn_eq x9 rfl rfl, BK_eq x10 (fun _ _ => rfl) rfl rfl rfl rfl rfl rfl (fun a a1 _ _ _ => e a (by omega)) (Nat.le_refl _)⟩
end RCARRY
