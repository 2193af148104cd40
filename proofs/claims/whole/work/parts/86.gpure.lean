/-! Gauss rows (pure). -/
def ps (T : Nat → Int32) (i : Nat) : Prop := 0 ≤ T i
noncomputable def np (T : Nat → Int32) (k : Nat) : Nat := ct (ps T) k
noncomputable def fs (T : Nat → Int32) : Nat → Nat
  | 0 => 0
  | k + 1 => @ite Nat (ps T k) (Classical.propDecidable _) (fs T k) (np T k)
noncomputable def cb (T : Nat → Int32) : Nat → Nat → Nat
  | 0 => fun _ => 0
  | k + 1 => @ite (Nat → Nat) (ps T k) (Classical.propDecidable _) (u1 (cb T k) (np T k) (np T k - 1)) (u1 (cb T k) (fs T k) (np T k - 1))
def tv (T : Nat → Int32) (i : Nat) : Nat := (T i).toNatClampNeg
def en (v : Nat) : Nat := if v % 4 < 2 then v / 4 * 4 else if v % 2 = 1 then v / 4 * 4 + 3 else v / 4 * 4 + 1
def xt (v : Nat) : Nat := cn (en v) 2
def MK (T : Nat → Int32) (L : Nat) : Prop := 1 ≤ L ∧ (-11 ≤ (T (L - 1)).toInt ∧ (T (L - 1)).toInt ≤ -2) ∧ (∀ k, k < L - 1 → ps T k ∨ (T k = m1 ∧ fs T k < np T k)) ∧ fs T (L - 1) = np T (L - 1)
def GC (T : Nat → Int32) (L : Nat) : Prop := MK T L ∧ np T (L - 1) ≤ 80 ∧ ∀ i, i < L - 1 → ps T i → tv T i / 4 < np T (L - 1) / 2 ∧ (∃ j, j < L ∧ T j = T i ^^^ 2) ∧ ∀ i', i' < i → ps T i' → tv T i' / 2 ≠ tv T i / 2
def GR (T : Nat → Int32) (L : Nat) : Prop := MK T L ∧ (∀ i, i < L - 1 → ps T i → tv T i < 160 ∧ ∀ i', i' < i → ps T i' → tv T i' / 2 ≠ tv T i / 2) ∧ np T (L - 1) % 2 = 0 ∧ ∀ c, c < np T (L - 1) / 2 → ∃ i i', i < L - 1 ∧ i' < L - 1 ∧ ps T i ∧ ps T i' ∧ tv T i / 2 = 2 * c ∧ tv T i' / 2 = 2 * c + 1 ∧ tv T i % 2 = tv T i' % 2
section GP
variable {T : Nat → Int32} {L k : Nat}
theorem np_y (h : ps T k) : np T (k + 1) = np T k + 1 := ct_y h
theorem np_n (h : ¬ ps T k) : np T (k + 1) = np T k := ct_n h
theorem fs_y (h : ps T k) : fs T (k + 1) = fs T k := if_pos h
theorem fs_n (h : ¬ ps T k) : fs T (k + 1) = np T k := if_neg h
theorem cb_y (h : ps T k) : cb T (k + 1) = u1 (cb T k) (np T k) (np T k - 1) := if_pos h
theorem cb_n (h : ¬ ps T k) : cb T (k + 1) = u1 (cb T k) (fs T k) (np T k - 1) := if_neg h
theorem fs_le (T : Nat → Int32) (k : Nat) : fs T k ≤ np T k := by
  induction k with
  | zero => exact Nat.le_refl 0
  | succ k ih =>
    by_cases h : ps T k
    · rw [fs_y h, np_y h]; omega
    · rw [fs_n h, np_n h]; exact Nat.le_refl _
theorem np_le (T : Nat → Int32) (k : Nat) : np T k ≤ k := ct_le _ k
theorem cb_lt (T : Nat → Int32) (k j : Nat) : cb T k j ≤ np T k := by
  induction k with
  | zero => exact Nat.zero_le _
  | succ k ih =>
    by_cases h : ps T k
    · rw [cb_y h, np_y h]
      unfold u1
      split
      · omega
      · omega
    · rw [cb_n h, np_n h]
      unfold u1
      split
      · omega
      · omega
theorem np_run (T : Nat → Int32) (k : Nat) : ∀ j, j ≤ np T k - fs T k → j ≤ k ∧ np T (k - j) = np T k - j ∧ (0 < j → ps T (k - j)) := by
  induction k with
  | zero =>
    intro j hj
    have : np T 0 = 0 := rfl
    have e : j = 0 := by omega
    subst e
    exact ⟨Nat.le_refl _, rfl, fun q => absurd q (Nat.lt_irrefl 0)⟩
  | succ k ih =>
    intro j hj
    by_cases h : ps T k
    · rw [np_y h, fs_y h] at hj
      cases j with
      | zero => exact ⟨Nat.zero_le _, rfl, fun q => absurd q (Nat.lt_irrefl 0)⟩
      | succ j =>
        have fl := fs_le T k
        obtain ⟨a, b, c⟩ := ih j (by omega)
        rw [show k + 1 - (j + 1) = k - j by omega, np_y h]
        refine ⟨by omega, by omega, fun _ => ?_⟩
        by_cases q : j = 0
        · subst q; exact h
        · exact c (by omega)
    · rw [np_n h, fs_n h] at hj
      have e : j = 0 := by omega
      subst e
      exact ⟨Nat.zero_le _, rfl, fun q => absurd q (Nat.lt_irrefl 0)⟩
theorem np_ex (T : Nat → Int32) (k j : Nat) (hj : j < np T k) : ∃ i, i < k ∧ ps T i ∧ np T i = j := by
  induction k with
  | zero => exact absurd hj (Nat.not_lt_zero _)
  | succ k ih =>
    by_cases h : ps T k
    · rw [np_y h] at hj
      by_cases q : j = np T k
      · exact ⟨k, by omega, h, q.symm⟩
      · obtain ⟨i, a, b, c⟩ := ih (by omega)
        exact ⟨i, by omega, b, c⟩
    · rw [np_n h] at hj
      obtain ⟨i, a, b, c⟩ := ih hj
      exact ⟨i, by omega, b, c⟩
theorem np_lt {i : Nat} (h : i < k) (p : ps T i) : np T i < np T k := ct_lt h p
theorem np_inj {i j : Nat} (p : ps T i) (q : ps T j) (h : np T i = np T j) : i = j := ct_inj p q h
theorem ps_v {i : Nat} (h : ps T i) : T i = nI (tv T i) ∧ tv T i < 2 ^ 31 := by
  have h0 : (0 : Int) ≤ (T i).toInt := by
    have := Int32.le_iff_toInt_le.mp h
    exact this
  have hlt : (T i).toInt < 2 ^ 31 := Int32.toInt_lt (T i)
  have e : ((tv T i : Nat) : Int) = (T i).toInt := by
    unfold tv Int32.toNatClampNeg
    exact Int.toNat_of_nonneg h0
  have hv : tv T i < 2 ^ 31 := by omega
  refine ⟨?_, hv⟩
  apply Int32.toInt_inj.mp
  rw [nI_toInt hv, e]
theorem ps_nI {i v : Nat} (hv : v < 2 ^ 31) (e : T i = nI v) : ps T i ∧ tv T i = v := by
  have p : ps T i := by
    unfold ps
    rw [e]
    exact (nI_leI (a := 0) (by omega) hv).mpr (by omega)
  refine ⟨p, ?_⟩
  have q := ps_v p
  rw [q.1, nI_eq q.2 hv] at e
  exact e
theorem xor2 (v : Nat) : v ^^^ 2 = if v % 4 < 2 then v + 2 else v - 2 := by
  have h1 : (v ^^^ 2) % 4 = (v % 4) ^^^ 2 := Nat.xor_mod_two_pow (n := 2)
  have h2 : (v ^^^ 2) / 4 = v / 4 := by
    have : (v ^^^ 2) / 2 ^ 2 = (v / 2 ^ 2) ^^^ (2 / 2 ^ 2) := Nat.xor_div_two_pow
    rw [this]
    exact Nat.xor_zero _
  have h3 : (v % 4) ^^^ 2 = if v % 4 < 2 then v % 4 + 2 else v % 4 - 2 := by
    have := (by decide : ∀ r, r < 4 → r ^^^ 2 = if r < 2 then r + 2 else r - 2) (v % 4) (Nat.mod_lt _ (by decide))
    exact this
  rw [h3] at h1
  split
  · next q =>
    rw [if_pos q] at h1
    omega
  · next q =>
    rw [if_neg q] at h1
    omega
theorem i32_xor2 {v : Nat} (hv : v < 2 ^ 31) : nI v ^^^ 2 = nI (v ^^^ 2) := by
  apply i32_nat
  have e2 : ((2 : Int32).toBitVec).toNat = 2 := by decide
  have b : v ^^^ 2 < 2 ^ 32 := by
    rw [xor2]
    split <;> omega
  rw [Int32.toBitVec_xor, BitVec.toNat_xor, pk_tn (by omega), pk_tn b, e2]
theorem surj {n : Nat} {f : Nat → Nat} (hf : ∀ i, i < n → f i < n) (hi : ∀ i j, i < j → j < n → f i ≠ f j) {w : Nat} (hw : w < n) : ∃ j, j < n ∧ f j = w := by
  refine Classical.byContradiction (fun q => ?_)
  have no : ∀ j, j < n → f j ≠ w := fun j hj e => q ⟨j, hj, e⟩
  have := php' (N := n - 1) (k := n) (f := fun j => if w < f j then f j - 1 else f j) (fun i hi' => by
    have h1 := hf i hi'
    have h2 := no i hi'
    show (if w < f i then f i - 1 else f i) < n - 1
    split <;> omega) (fun i j hij hj e => by
    have e' : (if w < f i then f i - 1 else f i) = (if w < f j then f j - 1 else f j) := e
    have h0 := hi i j hij hj
    have h2 := no i (by omega)
    have h3 := no j hj
    split at e' <;> split at e' <;> omega)
  omega
theorem chs {R : Nat → Nat → Prop} {n : Nat} (h : ∀ j, j < n → ∃ i, R j i) : ∃ F : Nat → Nat, ∀ j, j < n → R j (F j) :=
  ⟨fun j => if h' : j < n then Classical.choose (h j h') else 0, fun j hj => by
    have := Classical.choose_spec (h j hj)
    have e : (fun j => if h' : j < n then Classical.choose (h j h') else 0) j = Classical.choose (h j hj) := dif_pos hj
    rw [e]
    exact this⟩
theorem pos_ex (T : Nat → Int32) (k : Nat) : ∃ P : Nat → Nat, ∀ j, j < np T k → P j < k ∧ ps T (P j) ∧ np T (P j) = j := chs (R := fun j i => i < k ∧ ps T i ∧ np T i = j) (np_ex T k)
theorem inj_of (hd : ∀ i, i < L - 1 → ps T i → ∀ i', i' < i → ps T i' → tv T i' / 2 ≠ tv T i / 2) {i j : Nat} (hi : i < L - 1) (hj : j < L - 1) (pi : ps T i) (pj : ps T j) (e : tv T i / 2 = tv T j / 2) : i = j := by
  rcases Nat.lt_trichotomy i j with q | q | q
  · exact absurd e (hd j hj pj i q pi)
  · exact q
  · exact absurd e.symm (hd i hi pi j q pj)
theorem GC_GR (h : GC T L) : GR T L := by
  obtain ⟨M, h80, H⟩ := h
  obtain ⟨P, hP⟩ := pos_ex T (L - 1)
  have inj := @inj_of T L (fun i hi pi => (H i hi pi).2.2)
  have hinj : ∀ i j, i < j → j < np T (L - 1) → tv T (P i) / 2 ≠ tv T (P j) / 2 := fun i j hij hj e => by
    obtain ⟨a1, a2, a3⟩ := hP i (by omega)
    obtain ⟨b1, b2, b3⟩ := hP j hj
    have := inj a1 b1 a2 b2 e
    rw [this] at a3
    omega
  have ev := php' (N := 2 * (np T (L - 1) / 2)) (f := fun j => tv T (P j) / 2) (fun i hi => by
    obtain ⟨a1, a2, a3⟩ := hP i hi
    have := (H (P i) a1 a2).1
    show tv T (P i) / 2 < _
    omega) hinj
  have all : ∀ w, w < np T (L - 1) → ∃ i, i < L - 1 ∧ ps T i ∧ tv T i / 2 = w := fun w hw => by
    obtain ⟨j, hj, e⟩ := surj (f := fun j => tv T (P j) / 2) (fun i hi => by
      obtain ⟨a1, a2, a3⟩ := hP i hi
      have := (H (P i) a1 a2).1
      show tv T (P i) / 2 < _
      omega) hinj hw
    exact ⟨P j, (hP j hj).1, (hP j hj).2.1, e⟩
  refine ⟨M, fun i hi pi => ⟨by have := (H i hi pi).1; omega, (H i hi pi).2.2⟩, by omega, fun c hc => ?_⟩
  obtain ⟨i, i1, i2, i3⟩ := all (2 * c) (by omega)
  obtain ⟨j, j1, j2, j3⟩ := all (2 * c + 1) (by omega)
  obtain ⟨s, hs, es⟩ := (H i i1 i2).2.1
  have vi := ps_v i2
  rw [vi.1, i32_xor2 vi.2, xor2, if_pos (by omega)] at es
  obtain ⟨s1, s2⟩ := ps_nI (by omega) es
  have sl : s < L - 1 := by
    by_cases q : s = L - 1
    · have := M.2.1.2
      rw [← q, es, nI_toInt (by omega)] at this
      omega
    · omega
  have := inj sl j1 s1 j2 (by omega)
  subst this
  exact ⟨i, s, i1, j1, i2, j2, i3, j3, by omega⟩
theorem GR_GC (h : GR T L) : GC T L := by
  obtain ⟨M, H, ev, C⟩ := h
  obtain ⟨P, hP⟩ := pos_ex T (L - 1)
  have inj := @inj_of T L (fun i hi pi => (H i hi pi).2)
  have hinj : ∀ i j, i < j → j < np T (L - 1) → tv T (P i) / 2 ≠ tv T (P j) / 2 := fun i j hij hj e => by
    obtain ⟨a1, a2, a3⟩ := hP i (by omega)
    obtain ⟨b1, b2, b3⟩ := hP j hj
    have := inj a1 b1 a2 b2 e
    rw [this] at a3
    omega
  have h80 := php' (N := 80) (f := fun j => tv T (P j) / 2) (fun i hi => by
    obtain ⟨a1, a2, a3⟩ := hP i hi
    have := (H (P i) a1 a2).1
    show tv T (P i) / 2 < _
    omega) hinj
  have W : ∀ w, w < np T (L - 1) → ∃ i, i < L - 1 ∧ ps T i ∧ tv T i / 2 = w := fun w hw => by
    obtain ⟨i, i', i1, i2, i3, i4, i5, i6, i7⟩ := C (w / 2) (by omega)
    by_cases q : w % 2 = 0
    · exact ⟨i, i1, i3, by omega⟩
    · exact ⟨i', i2, i4, by omega⟩
  have hW : ∃ F : Nat → Nat, ∀ w, w < np T (L - 1) → F w < L - 1 ∧ ps T (F w) ∧ tv T (F w) / 2 = w := chs (R := fun w i => i < L - 1 ∧ ps T i ∧ tv T i / 2 = w) W
  obtain ⟨F, hF⟩ := hW
  have small : ∀ i, i < L - 1 → ps T i → tv T i / 2 < np T (L - 1) := fun i hi pi => by
    obtain ⟨w, hw, e⟩ := surj (f := fun w => np T (F w)) (fun w hw => np_lt (hF w hw).1 (hF w hw).2.1) (fun a b hab hb e => by
      have := np_inj (hF a (by omega)).2.1 (hF b hb).2.1 e
      have x1 := (hF a (by omega)).2.2
      have x2 := (hF b hb).2.2
      rw [this] at x1
      omega) (np_lt hi pi)
    have := np_inj (hF w hw).2.1 pi e
    have x1 := (hF w hw).2.2
    rw [this] at x1
    omega
  refine ⟨M, h80, fun i hi pi => ⟨by have := small i hi pi; omega, ?_, (H i hi pi).2⟩⟩
  have sm := small i hi pi
  obtain ⟨a, b, a1, b1, a2, b2, a3, b3, ab⟩ := C (tv T i / 4) (by omega)
  have vi := ps_v pi
  have va := ps_v a2
  have vb := ps_v b2
  rw [vi.1, i32_xor2 vi.2, xor2]
  by_cases q : tv T i % 4 < 2
  · have := inj hi a1 pi a2 (by omega)
    subst this
    rw [if_pos q]
    exact ⟨b, by omega, by rw [vb.1]; congr 1; omega⟩
  · have := inj hi b1 pi b2 (by omega)
    subst this
    rw [if_neg q]
    exact ⟨a, by omega, by rw [va.1]; congr 1; omega⟩
/-- which ends a pass has -/
theorem en_div (v : Nat) : en v / 4 = v / 4 := by
  unfold en
  split
  · omega
  · split <;> omega
theorem en_par (v : Nat) : en v % 2 = v / 2 % 2 := by
  unfold en
  split
  · omega
  · split <;> omega
theorem xt_div (v : Nat) : xt v / 4 = v / 4 := by unfold xt; rw [cn_div, en_div]
theorem xt_par (v : Nat) : xt v % 2 = v / 2 % 2 := by
  have := cn_mod (en v) 2
  have := en_par v
  unfold xt
  omega
theorem en_xt (v : Nat) : en v ≠ xt v := by
  unfold xt
  exact cn_n0' _ (by decide)
theorem st_ne {v w e f : Nat} (h : v / 2 ≠ w / 2) (e1 : e / 4 = v / 4) (e2 : e % 2 = v / 2 % 2) (f1 : f / 4 = w / 4) (f2 : f % 2 = w / 2 % 2) : e ≠ f := by
  intro q
  subst q
  omega
theorem en_or {v e : Nat} (e1 : e / 4 = v / 4) (e2 : e % 2 = v / 2 % 2) : e = en v ∨ e = xt v := by
  have a := en_div v
  have b := en_par v
  have c := xt_div v
  have d := xt_par v
  have n := en_xt v
  have x := cn_mod (en v) 2
  have y : xt v % 4 = (en v + 2) % 4 := x
  omega
end GP
