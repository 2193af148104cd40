/-! What the printed blocks use. -/
/-- a number may be read, or stored, there: an int array, a boolean array, a long array, an array of references -/
def ld0 (h : AH) (x : Nat) (i : Int32) : Prop := ∃ n, ah_ra h x n ∧ ix i n
def st0 (h : AH) (x : Nat) (i : Int32) : Prop := ∃ n, ah_x h x 0 n ∧ ix i n
def ld1 (h : AH) (x : Nat) (i : Int32) : Prop := ∃ n, ah_x h x 1 n ∧ ix i n
def ld2 (h : AH) (x : Nat) (i : Int32) : Prop := ∃ n, ah_x h x 2 n ∧ ix i n
def ld3 (h : AH) (t x : Nat) (i : Int32) : Prop := ∃ n, ah_x h x t n ∧ ix i n
/-- an int array -/
def in_ (h : AH) (x : Nat) : Prop := ∃ n, ah_x h x 0 n
/-- arrays of kind t, long enough for a copy -/
def cp_ (h : AH) (t a0 a : Nat) (sp dp n : Int32) : Prop := ∃ n0 n1, ah_x h a0 t n0 ∧ ah_x h a t n1 ∧ 0 ≤ sp.toInt ∧ 0 ≤ dp.toInt ∧ 0 ≤ n.toInt ∧ sp.toInt + n.toInt ≤ n0 ∧ dp.toInt + n.toInt ≤ n1
theorem i32_ne {x k : Int32} (h : ¬ x = k) {a : Int} (hk : k.toInt = a) : x.toInt ≠ a := lv_neT h hk
theorem rm_le {x a b c : Nat} (h : a + b = c) : x + a + b ≤ x + c := by rw [Nat.add_assoc, h]; exact Nat.le_refl _
section RWS
variable {M : MM} {d pc q bc bs : Nat} {ls st : List Value} {h : AH} {Q : Option Value → AH → Prop}
theorem ex_kill (i : Nat) {ls' : List Value} (hl : ls.set i (.retAddr 0) = ls') (k : ex_G M d pc ls' st h bc bs Q) : ex_G M d pc ls st h bc bs Q := by
  subst hl
  refine ex_less (fun j v hj hv => ?_) k
  rw [List.getElem?_set] at hj
  by_cases e : i = j
  · rw [if_pos e] at hj
    split at hj
    · cases hj; cases hv
    · cases hj
  · rw [if_neg e] at hj
    exact hj
theorem ex_nmh {x : AH} (k : ∀ y, y = x → ex_G M d pc ls st y bc bs Q) : ex_G M d pc ls st x bc bs Q := k x rfl
theorem ex_nmi {x : Int32} (k : ∀ y, y = x → ex_G M d pc ls (.int y :: st) h bc bs Q) : ex_G M d pc ls (.int x :: st) h bc bs Q := k x rfl
theorem ex_nml {x : Int64} (k : ∀ y, y = x → ex_G M d pc ls (.long y :: st) h bc bs Q) : ex_G M d pc ls (.long x :: st) h bc bs Q := k x rfl
theorem ex_iinc {n : Nat} {c : Int} {ls' : List Value} {x v : Int32} (hd : decode M.2.1 pc = .ok (.iinc n c, 3)) (hx : ls[n]? = some (.int x)) (hv : x + Int32.ofInt c = v) (hl : ls.set n (.int v) = ls') (k : ex_G M d q ls' st h bc bs Q) (hn : n < M.2.2.1 := by decide) (hb : ex_b1 ls n = true := by rfl) (hq : pc + 3 = q := by rfl) : ex_G M d pc ls st h bc bs Q := by
  subst hq
  subst hl
  intro g p l e R s m args below meth c H locs cells slots lsA f1 f2 f3 f4 f5 f6 f7 f8 f9
  have hm : (n, Value.int x) ∈ ex_lp 0 (ls.map (cv g)) := (ex_lp_mem _ _ _ _).mpr ⟨n, by omega, by rw [List.getElem?_map, hx]; rfl, rfl⟩
  obtain ⟨k0, hk0⟩ := List.getElem?_of_mem hm
  exact lv_iinc f1.1 f1.2.1 hd f5 hk0 hv hn rfl (fun lsB hB => k g p l e R s m args below meth c H locs cells slots lsB f1 f2 f3 f4 (ex_lset1 (v := .int v) hb hB) f6 f7 f8 f9)
/-- places of the locals that nothing is known of may be left out at the end -/
theorem ex_pad (n : Nat) (k : ex_G M d pc (ls ++ List.replicate n (.retAddr 0)) st h bc bs Q) : ex_G M d pc ls st h bc bs Q := by
  refine ex_less (fun j v hj hv => ?_) k
  by_cases e : j < ls.length
  · rw [List.getElem?_append_left e] at hj
    exact hj
  · rw [List.getElem?_append_right (by omega), List.getElem?_replicate] at hj
    split at hj
    · cases hj; cases hv
    · cases hj
theorem ex_iald {a : Nat} {i : Int32} (hd : decode M.2.1 pc = .ok (.iaload, 1)) (hx : ld0 h a i) (kk : ex_G M d q ls (.int (ah_i h a i.toNatClampNeg) :: st) h bc bs Q) (hq : pc + 1 = q := by rfl) : ex_G M d pc ls (.int i :: .ref a :: st) h bc bs Q := by
  obtain ⟨n, h1, h2⟩ := hx
  exact ex_iaload hd h1 h2 kk hq
theorem ex_bald {a : Nat} {i : Int32} (hd : decode M.2.1 pc = .ok (.baload, 1)) (hx : ld1 h a i) (kk : ex_G M d q ls (.int (ah_i h a i.toNatClampNeg) :: st) h bc bs Q) (hq : pc + 1 = q := by rfl) : ex_G M d pc ls (.int i :: .ref a :: st) h bc bs Q := by
  obtain ⟨n, h1, h2⟩ := hx
  exact ex_baload hd h1 h2 kk hq
theorem ex_lald {a : Nat} {i : Int32} (hd : decode M.2.1 pc = .ok (.laload, 1)) (hx : ld2 h a i) (kk : ex_G M d q ls (.long (ah_l h a i.toNatClampNeg) :: st) h bc bs Q) (hq : pc + 1 = q := by rfl) : ex_G M d pc ls (.int i :: .ref a :: st) h bc bs Q := by
  obtain ⟨n, h1, h2⟩ := hx
  exact ex_laload hd h1 h2 kk hq
theorem ex_aald {a t x : Nat} {i : Int32} (hd : decode M.2.1 pc = .ok (.aaload, 1)) (hx : ld3 h t a i) (hy : ah_q h a i.toNatClampNeg = some x) (kk : ex_G M d q ls (.ref x :: st) h bc bs Q) (ht : t ∈ at_tags ∧ 3 ≤ t := by decide) (hq : pc + 1 = q := by rfl) : ex_G M d pc ls (.int i :: .ref a :: st) h bc bs Q := by
  obtain ⟨n, h1, h2⟩ := hx
  exact ex_aaload hd h1 h2 hy kk ht hq
theorem ex_aaldq {a t : Nat} {i : Int32} (hd : decode M.2.1 pc = .ok (.aaload, 1)) (hx : ld3 h t a i) (kk : ex_G M d q ls (rv (ah_q h a i.toNatClampNeg) :: st) h bc bs Q) (ht : t ∈ at_tags ∧ 3 ≤ t := by decide) (hq : pc + 1 = q := by rfl) : ex_G M d pc ls (.int i :: .ref a :: st) h bc bs Q := by
  obtain ⟨n, h1, h2⟩ := hx
  exact ex_aaloadq hd h1 h2 kk ht hq
theorem ex_iast {a : Nat} {i v : Int32} (hd : decode M.2.1 pc = .ok (.iastore, 1)) (hx : st0 h a i) (kk : ex_G M d q ls st (ah_si h a i.toNatClampNeg v) bc bs Q) (hq : pc + 1 = q := by rfl) : ex_G M d pc ls (.int v :: .int i :: .ref a :: st) h bc bs Q := by
  obtain ⟨n, h1, h2⟩ := hx
  exact ex_iastore hd h1 h2 kk hq
theorem ex_bast {a : Nat} {i v : Int32} (hd : decode M.2.1 pc = .ok (.bastore, 1)) (hx : ld1 h a i) (hv : bo v) (kk : ex_G M d q ls st (ah_si h a i.toNatClampNeg v) bc bs Q) (hq : pc + 1 = q := by rfl) : ex_G M d pc ls (.int v :: .int i :: .ref a :: st) h bc bs Q := by
  obtain ⟨n, h1, h2⟩ := hx
  exact ex_bastore hd h1 h2 hv kk hq
theorem ex_last {a : Nat} {i : Int32} {v : Int64} (hd : decode M.2.1 pc = .ok (.lastore, 1)) (hx : ld2 h a i) (kk : ex_G M d q ls st (ah_sl h a i.toNatClampNeg v) bc bs Q) (hq : pc + 1 = q := by rfl) : ex_G M d pc ls (.long v :: .int i :: .ref a :: st) h bc bs Q := by
  obtain ⟨n, h1, h2⟩ := hx
  exact ex_lastore hd h1 h2 kk hq
theorem ex_aast {a c x : Nat} {i : Int32} (hd : decode M.2.1 pc = .ok (.aastore, 1)) (hx : ld3 h (4 + c) a i) (ho : ah_o h x c) (kk : ex_G M d q ls st (ah_sq h a i.toNatClampNeg (some x)) bc bs Q) (hc : 4 + c ∈ at_tags ∧ c < 13 := by decide) (hq : pc + 1 = q := by rfl) : ex_G M d pc ls (.ref x :: .int i :: .ref a :: st) h bc bs Q := by
  obtain ⟨n, h1, h2⟩ := hx
  exact ex_aastore hd h1 h2 ho kk hc hq
theorem ex_aasti {a x : Nat} {i : Int32} (hd : decode M.2.1 pc = .ok (.aastore, 1)) (hx : ld3 h 3 a i) (ho : in_ h x) (kk : ex_G M d q ls st (ah_sq h a i.toNatClampNeg (some x)) bc bs Q) (hq : pc + 1 = q := by rfl) : ex_G M d pc ls (.ref x :: .int i :: .ref a :: st) h bc bs Q := by
  obtain ⟨n, h1, h2⟩ := hx
  obtain ⟨m', h3⟩ := ho
  exact ex_aastorei hd h1 h2 h3 kk hq
theorem ex_copyip {idx a0 a : Nat} {sp dp n : Int32} (hd : decode M.2.1 pc = .ok (.invokestatic idx, 3)) (hl : Cond.methodLink M.1 idx arraycopyName ∈ tw_l) (hx : cp_ h 0 a0 a sp dp n) (kk : ex_G M d q ls st (ah_wi h a (va_cpy (ah_i h a0) (ah_i h a) sp.toNatClampNeg dp.toNatClampNeg n.toNatClampNeg)) bc bs Q) (hd1 : 1 ≤ d := by omega) (hs : (st.map fun v => v.category).sum ≤ 8 := by exact Nat.le_of_ble_eq_true rfl) (hq : pc + 3 = q := by rfl) : ex_G M d pc ls (.int n :: .int dp :: .ref a :: .int sp :: .ref a0 :: st) h bc bs Q := by
  obtain ⟨n0, n1, h0, h1, h2, h3, h4, h5, h6⟩ := hx
  exact ex_copyi hd hl h0 h1 h2 h3 h4 h5 h6 kk hd1 hs hq
theorem ex_copylp {idx a0 a : Nat} {sp dp n : Int32} (hd : decode M.2.1 pc = .ok (.invokestatic idx, 3)) (hl : Cond.methodLink M.1 idx arraycopyName ∈ tw_l) (hx : cp_ h 2 a0 a sp dp n) (kk : ex_G M d q ls st (ah_wl h a (va_cpy (ah_l h a0) (ah_l h a) sp.toNatClampNeg dp.toNatClampNeg n.toNatClampNeg)) bc bs Q) (hd1 : 1 ≤ d := by omega) (hs : (st.map fun v => v.category).sum ≤ 8 := by exact Nat.le_of_ble_eq_true rfl) (hq : pc + 3 = q := by rfl) : ex_G M d pc ls (.int n :: .int dp :: .ref a :: .int sp :: .ref a0 :: st) h bc bs Q := by
  obtain ⟨n0, n1, h0, h1, h2, h3, h4, h5, h6⟩ := hx
  exact ex_copyl hd hl h0 h1 h2 h3 h4 h5 h6 kk hd1 hs hq
end RWS
