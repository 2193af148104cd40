set_option maxRecDepth 100000 in
theorem J9_abs_067f4_0 {d bc bs : Nat} {h : AH} {Q : Option Value → AH → Prop} {v_0 : Int64} (w : ((0 ≤ (lg_cmp v_0 0) → Q (some (.long v_0)) h) ∧ (¬ 0 ≤ (lg_cmp v_0 0) → Q (some (.long (-v_0))) h))) : ex_G mJ9_abs_067f4 d 0 [.long v_0, .retAddr 0] [] h bc bs Q := by
  refine ex_lload_n (q := 1) (x := v_0) dJ9_abs_067f4_0 rfl ?_
  refine ex_lconst (q := 2) (v := 0) dJ9_abs_067f4_1 (by decide) ?_
  refine ex_lcmp (q := 3) dJ9_abs_067f4_2 ?_
  refine ex_if_ge (tgt := 11) (q := 6) dJ9_abs_067f4_3 (fun c1 => ?_) (fun c1 => ?_)
  · replace w := w.1 c1
    refine ex_lload_n (q := 12) (x := v_0) dJ9_abs_067f4_11 rfl ?_
    exact ex_lreturn dJ9_abs_067f4_12 w
  · replace w := w.2 c1
    refine ex_lload_n (q := 7) (x := v_0) dJ9_abs_067f4_6 rfl ?_
    refine ex_lneg (q := 8) dJ9_abs_067f4_7 ?_
    refine ex_goto (tgt := 12) dJ9_abs_067f4_8 ?_
    exact ex_lreturn dJ9_abs_067f4_12 w

theorem J9_abs_067f4_e {d bc bs : Nat} {h : AH} {Q : Option Value → AH → Prop} {v_0 : Int64} (w : ex_G mJ9_abs_067f4 d 0 [.long v_0, .retAddr 0] [] h bc bs Q) : ex_S yJ9_abs_067f4 mJ9_abs_067f4 d [.long v_0] h bc bs Q :=
  ex_enter (by decide +kernel) ⟨rfl, rfl⟩ rfl rfl (Nat.le_of_ble_eq_true rfl) (ex_pad 0 w)

def J9_abs_067f4_V (v_0 : Int64) (h : AH) : Int64 := (if 0 ≤ (lg_cmp v_0 0) then v_0 else -v_0)
theorem J9_abs_067f4_s {d bc bs : Nat} {h : AH} {Q : Option Value → AH → Prop} {v_0 : Int64} (w : Q (some (.long (J9_abs_067f4_V v_0 h))) h) : ex_S yJ9_abs_067f4 mJ9_abs_067f4 d [.long v_0] h bc bs Q := by
  unfold J9_abs_067f4_V at w
  refine J9_abs_067f4_e (J9_abs_067f4_0 ?_)
  refine ⟨fun k => ?_, fun k => ?_⟩
  · rw [if_pos k] at w
    exact w
  · rw [if_neg k] at w
    exact w

set_option maxRecDepth 100000 in
theorem J9_floorMod_7cf53_0 {d bc bs : Nat} {h : AH} {Q : Option Value → AH → Prop} {v_0 : Int32} {v_1 : Int32} (w : ¬ v_1 = 0 ∧ ∀ x2, x2 = im_ v_0 v_1 → ((0 ≤ (v_0 ^^^ v_1) → Q (some (.int x2)) h) ∧ (¬ 0 ≤ (v_0 ^^^ v_1) → ((x2 = 0 → Q (some (.int x2)) h) ∧ (¬ x2 = 0 → Q (some (.int (x2 + v_1))) h))))) : ex_G mJ9_floorMod_7cf53 d 0 [.int v_0, .int v_1, .retAddr 0] [] h bc bs Q := by
  refine ex_iload_n (q := 1) (x := v_0) dJ9_floorMod_7cf53_0 rfl ?_
  refine ex_iload_n (q := 2) (x := v_1) dJ9_floorMod_7cf53_1 rfl ?_
  have s1 := w.1
  replace w := w.2
  refine ex_irem (q := 3) dJ9_floorMod_7cf53_2 s1 ?_
  refine ex_nmi (fun x2 ex2 => ?_)
  replace w := w x2 ex2
  refine ex_istore_n (q := 4) (ls' := [.int v_0, .int v_1, .int x2]) dJ9_floorMod_7cf53_3 rfl ?_
  refine ex_iload_n (q := 5) (x := v_0) dJ9_floorMod_7cf53_4 rfl ?_
  refine ex_iload_n (q := 6) (x := v_1) dJ9_floorMod_7cf53_5 rfl ?_
  refine ex_ixor (q := 7) dJ9_floorMod_7cf53_6 ?_
  refine ex_if_ge (tgt := 18) (q := 10) dJ9_floorMod_7cf53_7 (fun c3 => ?_) (fun c3 => ?_)
  · replace w := w.1 c3
    refine ex_iload_n (q := 19) (x := x2) dJ9_floorMod_7cf53_18 rfl ?_
    exact ex_ireturn dJ9_floorMod_7cf53_19 rfl (Or.inl rfl) w
  · replace w := w.2 c3
    refine ex_iload_n (q := 11) (x := x2) dJ9_floorMod_7cf53_10 rfl ?_
    refine ex_if_eq (tgt := 18) (q := 14) dJ9_floorMod_7cf53_11 (fun c4 => ?_) (fun c4 => ?_)
    · replace w := w.1 c4
      refine ex_iload_n (q := 19) (x := x2) dJ9_floorMod_7cf53_18 rfl ?_
      exact ex_ireturn dJ9_floorMod_7cf53_19 rfl (Or.inl rfl) w
    · replace w := w.2 c4
      refine ex_iload_n (q := 15) (x := x2) dJ9_floorMod_7cf53_14 rfl ?_
      refine ex_iload_n (q := 16) (x := v_1) dJ9_floorMod_7cf53_15 rfl ?_
      refine ex_iadd (q := 17) dJ9_floorMod_7cf53_16 ?_
      exact ex_ireturn dJ9_floorMod_7cf53_17 rfl (Or.inl rfl) w

theorem J9_floorMod_7cf53_e {d bc bs : Nat} {h : AH} {Q : Option Value → AH → Prop} {v_0 : Int32} {v_1 : Int32} (w : ex_G mJ9_floorMod_7cf53 d 0 [.int v_0, .int v_1, .retAddr 0] [] h bc bs Q) : ex_S yJ9_floorMod_7cf53 mJ9_floorMod_7cf53 d [.int v_0, .int v_1] h bc bs Q :=
  ex_enter (by decide +kernel) ⟨rfl, rfl⟩ rfl rfl (Nat.le_of_ble_eq_true rfl) (ex_pad 1 w)

def J9_floorMod_7cf53_V (v_0 : Int32) (v_1 : Int32) (h : AH) : Int32 := (if 0 ≤ (v_0 ^^^ v_1) then (im_ v_0 v_1) else (if (im_ v_0 v_1) = 0 then (im_ v_0 v_1) else (im_ v_0 v_1) + v_1))
def J9_floorMod_7cf53_C (v_0 : Int32) (v_1 : Int32) (h : AH) : Prop := ¬ v_1 = 0 ∧ True
theorem J9_floorMod_7cf53_s {d bc bs : Nat} {h : AH} {Q : Option Value → AH → Prop} {v_0 : Int32} {v_1 : Int32} (c : J9_floorMod_7cf53_C v_0 v_1 h) (w : Q (some (.int (J9_floorMod_7cf53_V v_0 v_1 h))) h) : ex_S yJ9_floorMod_7cf53 mJ9_floorMod_7cf53 d [.int v_0, .int v_1] h bc bs Q := by
  unfold J9_floorMod_7cf53_V at w
  unfold J9_floorMod_7cf53_C at c
  refine J9_floorMod_7cf53_e (J9_floorMod_7cf53_0 ?_)
  obtain ⟨c1, c⟩ := c
  refine ⟨c1, ?_⟩
  intro x2 ex2
  subst ex2
  refine ⟨fun k => ?_, fun k => ?_⟩
  · rw [if_pos k] at w
    exact w
  · rw [if_neg k] at w
    refine ⟨fun k => ?_, fun k => ?_⟩
    · rw [if_pos k] at w
      exact w
    · rw [if_neg k] at w
      exact w

set_option maxRecDepth 100000 in
theorem J9_max_7cf53_0 {d bc bs : Nat} {h : AH} {Q : Option Value → AH → Prop} {v_0 : Int32} {v_1 : Int32} (w : ((v_0 < v_1 → Q (some (.int v_1)) h) ∧ (¬ v_0 < v_1 → Q (some (.int v_0)) h))) : ex_G mJ9_max_7cf53 d 0 [.int v_0, .int v_1] [] h bc bs Q := by
  refine ex_iload_n (q := 1) (x := v_0) dJ9_max_7cf53_0 rfl ?_
  refine ex_iload_n (q := 2) (x := v_1) dJ9_max_7cf53_1 rfl ?_
  refine ex_icmp_lt (tgt := 9) (q := 5) dJ9_max_7cf53_2 (fun c1 => ?_) (fun c1 => ?_)
  · replace w := w.1 c1
    refine ex_iload_n (q := 10) (x := v_1) dJ9_max_7cf53_9 rfl ?_
    exact ex_ireturn dJ9_max_7cf53_10 rfl (Or.inl rfl) w
  · replace w := w.2 c1
    refine ex_iload_n (q := 6) (x := v_0) dJ9_max_7cf53_5 rfl ?_
    refine ex_goto (tgt := 10) dJ9_max_7cf53_6 ?_
    exact ex_ireturn dJ9_max_7cf53_10 rfl (Or.inl rfl) w

theorem J9_max_7cf53_e {d bc bs : Nat} {h : AH} {Q : Option Value → AH → Prop} {v_0 : Int32} {v_1 : Int32} (w : ex_G mJ9_max_7cf53 d 0 [.int v_0, .int v_1] [] h bc bs Q) : ex_S yJ9_max_7cf53 mJ9_max_7cf53 d [.int v_0, .int v_1] h bc bs Q :=
  ex_enter (by decide +kernel) ⟨rfl, rfl⟩ rfl rfl (Nat.le_of_ble_eq_true rfl) (ex_pad 0 w)

def J9_max_7cf53_V (v_0 : Int32) (v_1 : Int32) (h : AH) : Int32 := (if v_0 < v_1 then v_1 else v_0)
theorem J9_max_7cf53_s {d bc bs : Nat} {h : AH} {Q : Option Value → AH → Prop} {v_0 : Int32} {v_1 : Int32} (w : Q (some (.int (J9_max_7cf53_V v_0 v_1 h))) h) : ex_S yJ9_max_7cf53 mJ9_max_7cf53 d [.int v_0, .int v_1] h bc bs Q := by
  unfold J9_max_7cf53_V at w
  refine J9_max_7cf53_e (J9_max_7cf53_0 ?_)
  refine ⟨fun k => ?_, fun k => ?_⟩
  · rw [if_pos k] at w
    exact w
  · rw [if_neg k] at w
    exact w

set_option maxRecDepth 100000 in
theorem J9_min_7cf53_0 {d bc bs : Nat} {h : AH} {Q : Option Value → AH → Prop} {v_0 : Int32} {v_1 : Int32} (w : ((v_1 < v_0 → Q (some (.int v_1)) h) ∧ (¬ v_1 < v_0 → Q (some (.int v_0)) h))) : ex_G mJ9_min_7cf53 d 0 [.int v_0, .int v_1] [] h bc bs Q := by
  refine ex_iload_n (q := 1) (x := v_0) dJ9_min_7cf53_0 rfl ?_
  refine ex_iload_n (q := 2) (x := v_1) dJ9_min_7cf53_1 rfl ?_
  refine ex_icmp_gt (tgt := 9) (q := 5) dJ9_min_7cf53_2 (fun c1 => ?_) (fun c1 => ?_)
  · replace w := w.1 c1
    refine ex_iload_n (q := 10) (x := v_1) dJ9_min_7cf53_9 rfl ?_
    exact ex_ireturn dJ9_min_7cf53_10 rfl (Or.inl rfl) w
  · replace w := w.2 c1
    refine ex_iload_n (q := 6) (x := v_0) dJ9_min_7cf53_5 rfl ?_
    refine ex_goto (tgt := 10) dJ9_min_7cf53_6 ?_
    exact ex_ireturn dJ9_min_7cf53_10 rfl (Or.inl rfl) w

theorem J9_min_7cf53_e {d bc bs : Nat} {h : AH} {Q : Option Value → AH → Prop} {v_0 : Int32} {v_1 : Int32} (w : ex_G mJ9_min_7cf53 d 0 [.int v_0, .int v_1] [] h bc bs Q) : ex_S yJ9_min_7cf53 mJ9_min_7cf53 d [.int v_0, .int v_1] h bc bs Q :=
  ex_enter (by decide +kernel) ⟨rfl, rfl⟩ rfl rfl (Nat.le_of_ble_eq_true rfl) (ex_pad 0 w)

def J9_min_7cf53_V (v_0 : Int32) (v_1 : Int32) (h : AH) : Int32 := (if v_1 < v_0 then v_1 else v_0)
theorem J9_min_7cf53_s {d bc bs : Nat} {h : AH} {Q : Option Value → AH → Prop} {v_0 : Int32} {v_1 : Int32} (w : Q (some (.int (J9_min_7cf53_V v_0 v_1 h))) h) : ex_S yJ9_min_7cf53 mJ9_min_7cf53 d [.int v_0, .int v_1] h bc bs Q := by
  unfold J9_min_7cf53_V at w
  refine J9_min_7cf53_e (J9_min_7cf53_0 ?_)
  refine ⟨fun k => ?_, fun k => ?_⟩
  · rw [if_pos k] at w
    exact w
  · rw [if_neg k] at w
    exact w

set_option maxRecDepth 100000 in
theorem X10_sharesMark_0 {d bc bs : Nat} {h : AH} {Q : Option Value → AH → Prop} {a_0 : Nat} {a_1 : Nat} (w : ah_o h a_0 10 ∧ ah_o h a_1 10 ∧ ((¬ (ah_f h a_0 4) = (ah_f h a_1 4) → Q (some (.int 0)) h) ∧ ((ah_f h a_0 4) = (ah_f h a_1 4) → ((¬ (ah_f h a_0 2) = (ah_f h a_1 2) → Q (some (.int 0)) h) ∧ ((ah_f h a_0 2) = (ah_f h a_1 2) → ((¬ (ah_f h a_0 3) = (ah_f h a_1 3) → Q (some (.int 0)) h) ∧ ((ah_f h a_0 3) = (ah_f h a_1 3) → Q (some (.int 1)) h))))))) : ex_G mX10_sharesMark d 0 [.ref a_0, .ref a_1] [] h bc bs Q := by
  refine ex_aload_n (q := 1) (x := a_0) dX10_sharesMark_0 rfl ?_
  have s1 := w.1
  replace w := w.2
  refine ex_getf (q := 4) dX10_sharesMark_1 fl_X10_41 s1 ?_
  refine ex_aload_n (q := 5) (x := a_1) dX10_sharesMark_4 rfl ?_
  have s2 := w.1
  replace w := w.2
  refine ex_getf (q := 8) dX10_sharesMark_5 fl_X10_41 s2 ?_
  refine ex_icmp_ne (tgt := 37) (q := 11) dX10_sharesMark_8 (fun c3 => ?_) (fun c3 => ?_)
  · replace w := w.1 c3
    refine ex_iconst (q := 38) (v := 0) dX10_sharesMark_37 (by decide) ?_
    exact ex_ireturn dX10_sharesMark_38 rfl (Or.inr ⟨rfl, Or.inl rfl⟩) w
  · replace w := w.2 c3
    refine ex_aload_n (q := 12) (x := a_0) dX10_sharesMark_11 rfl ?_
    refine ex_getf (q := 15) dX10_sharesMark_12 fl_X10_30 s1 ?_
    refine ex_aload_n (q := 16) (x := a_1) dX10_sharesMark_15 rfl ?_
    refine ex_getf (q := 19) dX10_sharesMark_16 fl_X10_30 s2 ?_
    refine ex_icmp_ne (tgt := 37) (q := 22) dX10_sharesMark_19 (fun c4 => ?_) (fun c4 => ?_)
    · replace w := w.1 c4
      refine ex_iconst (q := 38) (v := 0) dX10_sharesMark_37 (by decide) ?_
      exact ex_ireturn dX10_sharesMark_38 rfl (Or.inr ⟨rfl, Or.inl rfl⟩) w
    · replace w := w.2 c4
      refine ex_aload_n (q := 23) (x := a_0) dX10_sharesMark_22 rfl ?_
      refine ex_getf (q := 26) dX10_sharesMark_23 fl_X10_34 s1 ?_
      refine ex_aload_n (q := 27) (x := a_1) dX10_sharesMark_26 rfl ?_
      refine ex_getf (q := 30) dX10_sharesMark_27 fl_X10_34 s2 ?_
      refine ex_icmp_ne (tgt := 37) (q := 33) dX10_sharesMark_30 (fun c5 => ?_) (fun c5 => ?_)
      · replace w := w.1 c5
        refine ex_iconst (q := 38) (v := 0) dX10_sharesMark_37 (by decide) ?_
        exact ex_ireturn dX10_sharesMark_38 rfl (Or.inr ⟨rfl, Or.inl rfl⟩) w
      · replace w := w.2 c5
        refine ex_iconst (q := 34) (v := 1) dX10_sharesMark_33 (by decide) ?_
        refine ex_goto (tgt := 38) dX10_sharesMark_34 ?_
        exact ex_ireturn dX10_sharesMark_38 rfl (Or.inr ⟨rfl, Or.inr rfl⟩) w

theorem X10_sharesMark_e {d bc bs : Nat} {h : AH} {Q : Option Value → AH → Prop} {a_0 : Nat} {a_1 : Nat} (w : ex_G mX10_sharesMark d 0 [.ref a_0, .ref a_1] [] h bc bs Q) : ex_S yX10_sharesMark mX10_sharesMark d [.ref a_0, .ref a_1] h bc bs Q :=
  ex_enter (plainFor_of_name (by decide +kernel)) ⟨rfl, rfl⟩ rfl rfl (Nat.le_of_ble_eq_true rfl) (ex_pad 0 w)

def X10_sharesMark_V (a_0 : Nat) (a_1 : Nat) (h : AH) : Int32 := (if (ah_f h a_0 4) = (ah_f h a_1 4) then (if (ah_f h a_0 2) = (ah_f h a_1 2) then (if (ah_f h a_0 3) = (ah_f h a_1 3) then 1 else 0) else 0) else 0)
def X10_sharesMark_C (a_0 : Nat) (a_1 : Nat) (h : AH) : Prop := ah_o h a_0 10 ∧ ah_o h a_1 10 ∧ True
theorem X10_sharesMark_s {d bc bs : Nat} {h : AH} {Q : Option Value → AH → Prop} {a_0 : Nat} {a_1 : Nat} (c : X10_sharesMark_C a_0 a_1 h) (w : Q (some (.int (X10_sharesMark_V a_0 a_1 h))) h) : ex_S yX10_sharesMark mX10_sharesMark d [.ref a_0, .ref a_1] h bc bs Q := by
  unfold X10_sharesMark_V at w
  unfold X10_sharesMark_C at c
  refine X10_sharesMark_e (X10_sharesMark_0 ?_)
  obtain ⟨c1, c⟩ := c
  refine ⟨c1, ?_⟩
  obtain ⟨c1, c⟩ := c
  refine ⟨c1, ?_⟩
  refine ⟨fun k => ?_, fun k => ?_⟩
  · rw [if_neg k] at w
    exact w
  · rw [if_pos k] at w
    refine ⟨fun k => ?_, fun k => ?_⟩
    · rw [if_neg k] at w
      exact w
    · rw [if_pos k] at w
      refine ⟨fun k => ?_, fun k => ?_⟩
      · rw [if_neg k] at w
        exact w
      · rw [if_pos k] at w
        exact w

set_option maxRecDepth 100000 in
theorem X11_corner_0 {d bc bs : Nat} {h : AH} {Q : Option Value → AH → Prop} {v_0 : Int32} {v_1 : Int32} (w : Q (some (.int ((v_0 &&& (-4)) ||| ((v_0 + v_1) &&& 3)))) h) : ex_G mX11_corner d 0 [.int v_0, .int v_1] [] h bc bs Q := by
  refine ex_iload_n (q := 1) (x := v_0) dX11_corner_0 rfl ?_
  refine ex_bipush (q := 3) (v := (-4)) dX11_corner_1 (by decide) ?_
  refine ex_iand (q := 4) dX11_corner_3 ?_
  refine ex_iload_n (q := 5) (x := v_0) dX11_corner_4 rfl ?_
  refine ex_iload_n (q := 6) (x := v_1) dX11_corner_5 rfl ?_
  refine ex_iadd (q := 7) dX11_corner_6 ?_
  refine ex_iconst (q := 8) (v := 3) dX11_corner_7 (by decide) ?_
  refine ex_iand (q := 9) dX11_corner_8 ?_
  refine ex_ior (q := 10) dX11_corner_9 ?_
  exact ex_ireturn dX11_corner_10 rfl (Or.inl rfl) w

theorem X11_corner_e {d bc bs : Nat} {h : AH} {Q : Option Value → AH → Prop} {v_0 : Int32} {v_1 : Int32} (w : ex_G mX11_corner d 0 [.int v_0, .int v_1] [] h bc bs Q) : ex_S yX11_corner mX11_corner d [.int v_0, .int v_1] h bc bs Q :=
  ex_enter (plainFor_of_name (by decide +kernel)) ⟨rfl, rfl⟩ rfl rfl (Nat.le_of_ble_eq_true rfl) (ex_pad 0 w)

def X11_corner_V (v_0 : Int32) (v_1 : Int32) (h : AH) : Int32 := (v_0 &&& (-4)) ||| ((v_0 + v_1) &&& 3)
theorem X11_corner_s {d bc bs : Nat} {h : AH} {Q : Option Value → AH → Prop} {v_0 : Int32} {v_1 : Int32} (w : Q (some (.int (X11_corner_V v_0 v_1 h))) h) : ex_S yX11_corner mX11_corner d [.int v_0, .int v_1] h bc bs Q := by
  unfold X11_corner_V at w
  refine X11_corner_e (X11_corner_0 ?_)
  exact w

set_option maxRecDepth 100000 in
theorem X11_findings_0 {d bc bs : Nat} {h : AH} {Q : Option Value → AH → Prop} {a_0 : Nat} {v_1 : Int32} (w : ((v_1 < 1 → Q (some (.int (-2))) h) ∧ (¬ v_1 < 1 → ((9 < v_1 → Q (some (.int (-2))) h) ∧ (¬ 9 < v_1 → ah_o h a_0 11 ∧ ∃ a4, ah_r h a_0 14 = some a4 ∧ ld0 h a4 v_1 ∧ Q (some (.int (ah_i h a4 (Int32.toNatClampNeg v_1)))) h))))) : ex_G mX11_findings d 0 [.ref a_0, .int v_1] [] h bc bs Q := by
  refine ex_iload_n (q := 1) (x := v_1) dX11_findings_0 rfl ?_
  refine ex_iconst (q := 2) (v := 1) dX11_findings_1 (by decide) ?_
  refine ex_icmp_lt (tgt := 20) (q := 5) dX11_findings_2 (fun c1 => ?_) (fun c1 => ?_)
  · replace w := w.1 c1
    refine ex_bipush (q := 22) (v := (-2)) dX11_findings_20 (by decide) ?_
    exact ex_ireturn dX11_findings_22 rfl (Or.inl rfl) w
  · replace w := w.2 c1
    refine ex_iload_n (q := 6) (x := v_1) dX11_findings_5 rfl ?_
    refine ex_bipush (q := 8) (v := 9) dX11_findings_6 (by decide) ?_
    refine ex_icmp_gt (tgt := 20) (q := 11) dX11_findings_8 (fun c2 => ?_) (fun c2 => ?_)
    · replace w := w.1 c2
      refine ex_bipush (q := 22) (v := (-2)) dX11_findings_20 (by decide) ?_
      exact ex_ireturn dX11_findings_22 rfl (Or.inl rfl) w
    · replace w := w.2 c2
      refine ex_aload_n (q := 12) (x := a_0) dX11_findings_11 rfl ?_
      have s3 := w.1
      replace w := w.2
      obtain ⟨a4, ea4, w⟩ := w
      refine ex_getr (q := 15) dX11_findings_12 fl_X11_89 s3 ea4 ?_
      refine ex_iload_n (q := 16) (x := v_1) dX11_findings_15 rfl ?_
      have s5 := w.1
      replace w := w.2
      refine ex_iald (q := 17) dX11_findings_16 s5 ?_
      refine ex_goto (tgt := 22) dX11_findings_17 ?_
      exact ex_ireturn dX11_findings_22 rfl (Or.inl rfl) w

theorem X11_findings_e {d bc bs : Nat} {h : AH} {Q : Option Value → AH → Prop} {a_0 : Nat} {v_1 : Int32} (w : ex_G mX11_findings d 0 [.ref a_0, .int v_1] [] h bc bs Q) : ex_S yX11_findings mX11_findings d [.ref a_0, .int v_1] h bc bs Q :=
  ex_enter (plainFor_of_name (by decide +kernel)) ⟨rfl, rfl⟩ rfl rfl (Nat.le_of_ble_eq_true rfl) (ex_pad 0 w)

def X11_findings_V (a_0 : Nat) (v_1 : Int32) (h : AH) : Int32 := (if v_1 < 1 then (-2) else (if 9 < v_1 then (-2) else ah_i h (Option.getD (ah_r h a_0 14) 0) (Int32.toNatClampNeg v_1)))
def X11_findings_C (a_0 : Nat) (v_1 : Int32) (h : AH) : Prop := (v_1 < 1 → True) ∧ (¬ v_1 < 1 → (9 < v_1 → True) ∧ (¬ 9 < v_1 → ah_o h a_0 11 ∧ ∃ a4, ah_r h a_0 14 = some a4 ∧ ld0 h a4 v_1 ∧ True))
theorem X11_findings_s {d bc bs : Nat} {h : AH} {Q : Option Value → AH → Prop} {a_0 : Nat} {v_1 : Int32} (c : X11_findings_C a_0 v_1 h) (w : Q (some (.int (X11_findings_V a_0 v_1 h))) h) : ex_S yX11_findings mX11_findings d [.ref a_0, .int v_1] h bc bs Q := by
  unfold X11_findings_V at w
  unfold X11_findings_C at c
  refine X11_findings_e (X11_findings_0 ?_)
  refine ⟨fun k => ?_, fun k => ?_⟩
  · rw [if_pos k] at w
    replace c := c.1 k
    exact w
  · rw [if_neg k] at w
    replace c := c.2 k
    refine ⟨fun k => ?_, fun k => ?_⟩
    · rw [if_pos k] at w
      replace c := c.1 k
      exact w
    · rw [if_neg k] at w
      replace c := c.2 k
      obtain ⟨c1, c⟩ := c
      refine ⟨c1, ?_⟩
      obtain ⟨a4, ea4, c⟩ := c
      try simp only [ea4, Option.getD_some] at w
      refine ⟨a4, ea4, ?_⟩
      obtain ⟨c1, c⟩ := c
      refine ⟨c1, ?_⟩
      exact w

set_option maxRecDepth 100000 in
theorem X11_grant_0 {d bc bs : Nat} {h : AH} {Q : Option Value → AH → Prop} {a_0 : Nat} {v_1 : Int32} (w : ah_o h a_0 11 ∧ ∀ h2, h2 = ah_sf h a_0 19 0 → Q (some (.int v_1)) h2) : ex_G mX11_grant d 0 [.ref a_0, .int v_1] [] h bc bs Q := by
  refine ex_aload_n (q := 1) (x := a_0) dX11_grant_0 rfl ?_
  refine ex_iconst (q := 2) (v := 0) dX11_grant_1 (by decide) ?_
  have s1 := w.1
  replace w := w.2
  refine ex_putf (q := 5) dX11_grant_2 fl_X11_110 (Or.inl rfl) s1 (Or.inl rfl) ?_
  refine ex_nmh (fun h2 eh2 => ?_)
  replace w := w h2 eh2
  refine ex_iload_n (q := 6) (x := v_1) dX11_grant_5 rfl ?_
  exact ex_ireturn dX11_grant_6 rfl (Or.inl rfl) w

theorem X11_grant_e {d bc bs : Nat} {h : AH} {Q : Option Value → AH → Prop} {a_0 : Nat} {v_1 : Int32} (w : ex_G mX11_grant d 0 [.ref a_0, .int v_1] [] h bc bs Q) : ex_S yX11_grant mX11_grant d [.ref a_0, .int v_1] h bc bs Q :=
  ex_enter (plainFor_of_name (by decide +kernel)) ⟨rfl, rfl⟩ rfl rfl (Nat.le_of_ble_eq_true rfl) (ex_pad 0 w)

def X11_grant_V (a_0 : Nat) (v_1 : Int32) (h : AH) : Int32 := v_1
def X11_grant_H (a_0 : Nat) (v_1 : Int32) (h : AH) : AH := (ah_sf h a_0 19 0)
def X11_grant_C (a_0 : Nat) (v_1 : Int32) (h : AH) : Prop := ah_o h a_0 11 ∧ True
theorem X11_grant_s {d bc bs : Nat} {h : AH} {Q : Option Value → AH → Prop} {a_0 : Nat} {v_1 : Int32} (c : X11_grant_C a_0 v_1 h) (w : Q (some (.int (X11_grant_V a_0 v_1 h))) (X11_grant_H a_0 v_1 h)) : ex_S yX11_grant mX11_grant d [.ref a_0, .int v_1] h bc bs Q := by
  unfold X11_grant_V X11_grant_H at w
  unfold X11_grant_C at c
  refine X11_grant_e (X11_grant_0 ?_)
  obtain ⟨c1, c⟩ := c
  refine ⟨c1, ?_⟩
  intro h2 eh2
  subst eh2
  exact w

set_option maxRecDepth 100000 in
theorem X11_hasMove_0 {d bc bs : Nat} {h : AH} {Q : Option Value → AH → Prop} {a_0 : Nat} {v_1 : Int32} (w : ((v_1 < 0 → Q (some (.int 0)) h) ∧ (¬ v_1 < 0 → ah_o h a_0 11 ∧ (((ah_f h a_0 16) ≤ v_1 → Q (some (.int 0)) h) ∧ (¬ (ah_f h a_0 16) ≤ v_1 → Q (some (.int 1)) h))))) : ex_G mX11_hasMove d 0 [.ref a_0, .int v_1] [] h bc bs Q := by
  refine ex_iload_n (q := 1) (x := v_1) dX11_hasMove_0 rfl ?_
  refine ex_if_lt (tgt := 16) (q := 4) dX11_hasMove_1 (fun c1 => ?_) (fun c1 => ?_)
  · replace w := w.1 c1
    refine ex_iconst (q := 17) (v := 0) dX11_hasMove_16 (by decide) ?_
    exact ex_ireturn dX11_hasMove_17 rfl (Or.inr ⟨rfl, Or.inl rfl⟩) w
  · replace w := w.2 c1
    refine ex_iload_n (q := 5) (x := v_1) dX11_hasMove_4 rfl ?_
    refine ex_aload_n (q := 6) (x := a_0) dX11_hasMove_5 rfl ?_
    have s2 := w.1
    replace w := w.2
    refine ex_getf (q := 9) dX11_hasMove_6 fl_X11_100 s2 ?_
    refine ex_icmp_ge (tgt := 16) (q := 12) dX11_hasMove_9 (fun c3 => ?_) (fun c3 => ?_)
    · replace w := w.1 c3
      refine ex_iconst (q := 17) (v := 0) dX11_hasMove_16 (by decide) ?_
      exact ex_ireturn dX11_hasMove_17 rfl (Or.inr ⟨rfl, Or.inl rfl⟩) w
    · replace w := w.2 c3
      refine ex_iconst (q := 13) (v := 1) dX11_hasMove_12 (by decide) ?_
      refine ex_goto (tgt := 17) dX11_hasMove_13 ?_
      exact ex_ireturn dX11_hasMove_17 rfl (Or.inr ⟨rfl, Or.inr rfl⟩) w

theorem X11_hasMove_e {d bc bs : Nat} {h : AH} {Q : Option Value → AH → Prop} {a_0 : Nat} {v_1 : Int32} (w : ex_G mX11_hasMove d 0 [.ref a_0, .int v_1] [] h bc bs Q) : ex_S yX11_hasMove mX11_hasMove d [.ref a_0, .int v_1] h bc bs Q :=
  ex_enter (plainFor_of_name (by decide +kernel)) ⟨rfl, rfl⟩ rfl rfl (Nat.le_of_ble_eq_true rfl) (ex_pad 0 w)

def X11_hasMove_V (a_0 : Nat) (v_1 : Int32) (h : AH) : Int32 := (if v_1 < 0 then 0 else (if (ah_f h a_0 16) ≤ v_1 then 0 else 1))
def X11_hasMove_C (a_0 : Nat) (v_1 : Int32) (h : AH) : Prop := (v_1 < 0 → True) ∧ (¬ v_1 < 0 → ah_o h a_0 11 ∧ True)
theorem X11_hasMove_s {d bc bs : Nat} {h : AH} {Q : Option Value → AH → Prop} {a_0 : Nat} {v_1 : Int32} (c : X11_hasMove_C a_0 v_1 h) (w : Q (some (.int (X11_hasMove_V a_0 v_1 h))) h) : ex_S yX11_hasMove mX11_hasMove d [.ref a_0, .int v_1] h bc bs Q := by
  unfold X11_hasMove_V at w
  unfold X11_hasMove_C at c
  refine X11_hasMove_e (X11_hasMove_0 ?_)
  refine ⟨fun k => ?_, fun k => ?_⟩
  · rw [if_pos k] at w
    replace c := c.1 k
    exact w
  · rw [if_neg k] at w
    replace c := c.2 k
    obtain ⟨c1, c⟩ := c
    refine ⟨c1, ?_⟩
    refine ⟨fun k => ?_, fun k => ?_⟩
    · rw [if_pos k] at w
      exact w
    · rw [if_neg k] at w
      exact w

set_option maxRecDepth 100000 in
theorem X11_hasPicture_0 {d bc bs : Nat} {h : AH} {Q : Option Value → AH → Prop} {a_0 : Nat} {v_1 : Int32} (w : ((v_1 < 0 → Q (some (.int 0)) h) ∧ (¬ v_1 < 0 → ah_o h a_0 11 ∧ (((ah_f h a_0 15) ≤ v_1 → Q (some (.int 0)) h) ∧ (¬ (ah_f h a_0 15) ≤ v_1 → Q (some (.int 1)) h))))) : ex_G mX11_hasPicture d 0 [.ref a_0, .int v_1] [] h bc bs Q := by
  refine ex_iload_n (q := 1) (x := v_1) dX11_hasPicture_0 rfl ?_
  refine ex_if_lt (tgt := 16) (q := 4) dX11_hasPicture_1 (fun c1 => ?_) (fun c1 => ?_)
  · replace w := w.1 c1
    refine ex_iconst (q := 17) (v := 0) dX11_hasPicture_16 (by decide) ?_
    exact ex_ireturn dX11_hasPicture_17 rfl (Or.inr ⟨rfl, Or.inl rfl⟩) w
  · replace w := w.2 c1
    refine ex_iload_n (q := 5) (x := v_1) dX11_hasPicture_4 rfl ?_
    refine ex_aload_n (q := 6) (x := a_0) dX11_hasPicture_5 rfl ?_
    have s2 := w.1
    replace w := w.2
    refine ex_getf (q := 9) dX11_hasPicture_6 fl_X11_97 s2 ?_
    refine ex_icmp_ge (tgt := 16) (q := 12) dX11_hasPicture_9 (fun c3 => ?_) (fun c3 => ?_)
    · replace w := w.1 c3
      refine ex_iconst (q := 17) (v := 0) dX11_hasPicture_16 (by decide) ?_
      exact ex_ireturn dX11_hasPicture_17 rfl (Or.inr ⟨rfl, Or.inl rfl⟩) w
    · replace w := w.2 c3
      refine ex_iconst (q := 13) (v := 1) dX11_hasPicture_12 (by decide) ?_
      refine ex_goto (tgt := 17) dX11_hasPicture_13 ?_
      exact ex_ireturn dX11_hasPicture_17 rfl (Or.inr ⟨rfl, Or.inr rfl⟩) w

theorem X11_hasPicture_e {d bc bs : Nat} {h : AH} {Q : Option Value → AH → Prop} {a_0 : Nat} {v_1 : Int32} (w : ex_G mX11_hasPicture d 0 [.ref a_0, .int v_1] [] h bc bs Q) : ex_S yX11_hasPicture mX11_hasPicture d [.ref a_0, .int v_1] h bc bs Q :=
  ex_enter (plainFor_of_name (by decide +kernel)) ⟨rfl, rfl⟩ rfl rfl (Nat.le_of_ble_eq_true rfl) (ex_pad 0 w)

def X11_hasPicture_V (a_0 : Nat) (v_1 : Int32) (h : AH) : Int32 := (if v_1 < 0 then 0 else (if (ah_f h a_0 15) ≤ v_1 then 0 else 1))
def X11_hasPicture_C (a_0 : Nat) (v_1 : Int32) (h : AH) : Prop := (v_1 < 0 → True) ∧ (¬ v_1 < 0 → ah_o h a_0 11 ∧ True)
theorem X11_hasPicture_s {d bc bs : Nat} {h : AH} {Q : Option Value → AH → Prop} {a_0 : Nat} {v_1 : Int32} (c : X11_hasPicture_C a_0 v_1 h) (w : Q (some (.int (X11_hasPicture_V a_0 v_1 h))) h) : ex_S yX11_hasPicture mX11_hasPicture d [.ref a_0, .int v_1] h bc bs Q := by
  unfold X11_hasPicture_V at w
  unfold X11_hasPicture_C at c
  refine X11_hasPicture_e (X11_hasPicture_0 ?_)
  refine ⟨fun k => ?_, fun k => ?_⟩
  · rw [if_pos k] at w
    replace c := c.1 k
    exact w
  · rw [if_neg k] at w
    replace c := c.2 k
    obtain ⟨c1, c⟩ := c
    refine ⟨c1, ?_⟩
    refine ⟨fun k => ?_, fun k => ?_⟩
    · rw [if_pos k] at w
      exact w
    · rw [if_neg k] at w
      exact w

set_option maxRecDepth 100000 in
theorem X11_isArc_0 {d bc bs : Nat} {h : AH} {Q : Option Value → AH → Prop} {v_0 : Int32} (w : ((v_0 < (-1) → Q (some (.int 0)) h) ∧ (¬ v_0 < (-1) → ((100 ≤ v_0 → Q (some (.int 0)) h) ∧ (¬ 100 ≤ v_0 → Q (some (.int 1)) h))))) : ex_G mX11_isArc d 0 [.int v_0] [] h bc bs Q := by
  refine ex_iload_n (q := 1) (x := v_0) dX11_isArc_0 rfl ?_
  refine ex_iconst (q := 2) (v := (-1)) dX11_isArc_1 (by decide) ?_
  refine ex_icmp_lt (tgt := 15) (q := 5) dX11_isArc_2 (fun c1 => ?_) (fun c1 => ?_)
  · replace w := w.1 c1
    refine ex_iconst (q := 16) (v := 0) dX11_isArc_15 (by decide) ?_
    exact ex_ireturn dX11_isArc_16 rfl (Or.inr ⟨rfl, Or.inl rfl⟩) w
  · replace w := w.2 c1
    refine ex_iload_n (q := 6) (x := v_0) dX11_isArc_5 rfl ?_
    refine ex_bipush (q := 8) (v := 100) dX11_isArc_6 (by decide) ?_
    refine ex_icmp_ge (tgt := 15) (q := 11) dX11_isArc_8 (fun c2 => ?_) (fun c2 => ?_)
    · replace w := w.1 c2
      refine ex_iconst (q := 16) (v := 0) dX11_isArc_15 (by decide) ?_
      exact ex_ireturn dX11_isArc_16 rfl (Or.inr ⟨rfl, Or.inl rfl⟩) w
    · replace w := w.2 c2
      refine ex_iconst (q := 12) (v := 1) dX11_isArc_11 (by decide) ?_
      refine ex_goto (tgt := 16) dX11_isArc_12 ?_
      exact ex_ireturn dX11_isArc_16 rfl (Or.inr ⟨rfl, Or.inr rfl⟩) w

theorem X11_isArc_e {d bc bs : Nat} {h : AH} {Q : Option Value → AH → Prop} {v_0 : Int32} (w : ex_G mX11_isArc d 0 [.int v_0] [] h bc bs Q) : ex_S yX11_isArc mX11_isArc d [.int v_0] h bc bs Q :=
  ex_enter (plainFor_of_name (by decide +kernel)) ⟨rfl, rfl⟩ rfl rfl (Nat.le_of_ble_eq_true rfl) (ex_pad 0 w)

def X11_isArc_V (v_0 : Int32) (h : AH) : Int32 := (if v_0 < (-1) then 0 else (if 100 ≤ v_0 then 0 else 1))
theorem X11_isArc_s {d bc bs : Nat} {h : AH} {Q : Option Value → AH → Prop} {v_0 : Int32} (w : Q (some (.int (X11_isArc_V v_0 h))) h) : ex_S yX11_isArc mX11_isArc d [.int v_0] h bc bs Q := by
  unfold X11_isArc_V at w
  refine X11_isArc_e (X11_isArc_0 ?_)
  refine ⟨fun k => ?_, fun k => ?_⟩
  · rw [if_pos k] at w
    exact w
  · rw [if_neg k] at w
    refine ⟨fun k => ?_, fun k => ?_⟩
    · rw [if_pos k] at w
      exact w
    · rw [if_neg k] at w
      exact w

set_option maxRecDepth 100000 in
theorem X11_isFull_0 {d bc bs : Nat} {h : AH} {Q : Option Value → AH → Prop} {a_0 : Nat} (w : ah_o h a_0 11 ∧ (((ah_f h a_0 15) < 24 → Q (some (.int 0)) h) ∧ (¬ (ah_f h a_0 15) < 24 → Q (some (.int 1)) h))) : ex_G mX11_isFull d 0 [.ref a_0] [] h bc bs Q := by
  refine ex_aload_n (q := 1) (x := a_0) dX11_isFull_0 rfl ?_
  have s1 := w.1
  replace w := w.2
  refine ex_getf (q := 4) dX11_isFull_1 fl_X11_97 s1 ?_
  refine ex_bipush (q := 6) (v := 24) dX11_isFull_4 (by decide) ?_
  refine ex_icmp_lt (tgt := 13) (q := 9) dX11_isFull_6 (fun c2 => ?_) (fun c2 => ?_)
  · replace w := w.1 c2
    refine ex_iconst (q := 14) (v := 0) dX11_isFull_13 (by decide) ?_
    exact ex_ireturn dX11_isFull_14 rfl (Or.inr ⟨rfl, Or.inl rfl⟩) w
  · replace w := w.2 c2
    refine ex_iconst (q := 10) (v := 1) dX11_isFull_9 (by decide) ?_
    refine ex_goto (tgt := 14) dX11_isFull_10 ?_
    exact ex_ireturn dX11_isFull_14 rfl (Or.inr ⟨rfl, Or.inr rfl⟩) w

theorem X11_isFull_e {d bc bs : Nat} {h : AH} {Q : Option Value → AH → Prop} {a_0 : Nat} (w : ex_G mX11_isFull d 0 [.ref a_0] [] h bc bs Q) : ex_S yX11_isFull mX11_isFull d [.ref a_0] h bc bs Q :=
  ex_enter (plainFor_of_name (by decide +kernel)) ⟨rfl, rfl⟩ rfl rfl (Nat.le_of_ble_eq_true rfl) (ex_pad 0 w)

def X11_isFull_V (a_0 : Nat) (h : AH) : Int32 := (if (ah_f h a_0 15) < 24 then 0 else 1)
def X11_isFull_C (a_0 : Nat) (h : AH) : Prop := ah_o h a_0 11 ∧ True
theorem X11_isFull_s {d bc bs : Nat} {h : AH} {Q : Option Value → AH → Prop} {a_0 : Nat} (c : X11_isFull_C a_0 h) (w : Q (some (.int (X11_isFull_V a_0 h))) h) : ex_S yX11_isFull mX11_isFull d [.ref a_0] h bc bs Q := by
  unfold X11_isFull_V at w
  unfold X11_isFull_C at c
  refine X11_isFull_e (X11_isFull_0 ?_)
  obtain ⟨c1, c⟩ := c
  refine ⟨c1, ?_⟩
  refine ⟨fun k => ?_, fun k => ?_⟩
  · rw [if_pos k] at w
    exact w
  · rw [if_neg k] at w
    exact w

set_option maxRecDepth 100000 in
theorem X11_isKind_0 {d bc bs : Nat} {h : AH} {Q : Option Value → AH → Prop} {v_0 : Int32} (w : ((v_0 < 0 → Q (some (.int 0)) h) ∧ (¬ v_0 < 0 → ((6 ≤ v_0 → Q (some (.int 0)) h) ∧ (¬ 6 ≤ v_0 → Q (some (.int 1)) h))))) : ex_G mX11_isKind d 0 [.int v_0] [] h bc bs Q := by
  refine ex_iload_n (q := 1) (x := v_0) dX11_isKind_0 rfl ?_
  refine ex_if_lt (tgt := 14) (q := 4) dX11_isKind_1 (fun c1 => ?_) (fun c1 => ?_)
  · replace w := w.1 c1
    refine ex_iconst (q := 15) (v := 0) dX11_isKind_14 (by decide) ?_
    exact ex_ireturn dX11_isKind_15 rfl (Or.inr ⟨rfl, Or.inl rfl⟩) w
  · replace w := w.2 c1
    refine ex_iload_n (q := 5) (x := v_0) dX11_isKind_4 rfl ?_
    refine ex_bipush (q := 7) (v := 6) dX11_isKind_5 (by decide) ?_
    refine ex_icmp_ge (tgt := 14) (q := 10) dX11_isKind_7 (fun c2 => ?_) (fun c2 => ?_)
    · replace w := w.1 c2
      refine ex_iconst (q := 15) (v := 0) dX11_isKind_14 (by decide) ?_
      exact ex_ireturn dX11_isKind_15 rfl (Or.inr ⟨rfl, Or.inl rfl⟩) w
    · replace w := w.2 c2
      refine ex_iconst (q := 11) (v := 1) dX11_isKind_10 (by decide) ?_
      refine ex_goto (tgt := 15) dX11_isKind_11 ?_
      exact ex_ireturn dX11_isKind_15 rfl (Or.inr ⟨rfl, Or.inr rfl⟩) w

theorem X11_isKind_e {d bc bs : Nat} {h : AH} {Q : Option Value → AH → Prop} {v_0 : Int32} (w : ex_G mX11_isKind d 0 [.int v_0] [] h bc bs Q) : ex_S yX11_isKind mX11_isKind d [.int v_0] h bc bs Q :=
  ex_enter (plainFor_of_name (by decide +kernel)) ⟨rfl, rfl⟩ rfl rfl (Nat.le_of_ble_eq_true rfl) (ex_pad 0 w)

def X11_isKind_V (v_0 : Int32) (h : AH) : Int32 := (if v_0 < 0 then 0 else (if 6 ≤ v_0 then 0 else 1))
theorem X11_isKind_s {d bc bs : Nat} {h : AH} {Q : Option Value → AH → Prop} {v_0 : Int32} (w : Q (some (.int (X11_isKind_V v_0 h))) h) : ex_S yX11_isKind mX11_isKind d [.int v_0] h bc bs Q := by
  unfold X11_isKind_V at w
  refine X11_isKind_e (X11_isKind_0 ?_)
  refine ⟨fun k => ?_, fun k => ?_⟩
  · rw [if_pos k] at w
    exact w
  · rw [if_neg k] at w
    refine ⟨fun k => ?_, fun k => ?_⟩
    · rw [if_pos k] at w
      exact w
    · rw [if_neg k] at w
      exact w

set_option maxRecDepth 100000 in
theorem X11_isStepCount_0 {d bc bs : Nat} {h : AH} {Q : Option Value → AH → Prop} {v_0 : Int32} (w : ((v_0 < 0 → Q (some (.int 0)) h) ∧ (¬ v_0 < 0 → ((5000 < v_0 → Q (some (.int 0)) h) ∧ (¬ 5000 < v_0 → Q (some (.int 1)) h))))) : ex_G mX11_isStepCount d 0 [.int v_0] [] h bc bs Q := by
  refine ex_iload_n (q := 1) (x := v_0) dX11_isStepCount_0 rfl ?_
  refine ex_if_lt (tgt := 15) (q := 4) dX11_isStepCount_1 (fun c1 => ?_) (fun c1 => ?_)
  · replace w := w.1 c1
    refine ex_iconst (q := 16) (v := 0) dX11_isStepCount_15 (by decide) ?_
    exact ex_ireturn dX11_isStepCount_16 rfl (Or.inr ⟨rfl, Or.inl rfl⟩) w
  · replace w := w.2 c1
    refine ex_iload_n (q := 5) (x := v_0) dX11_isStepCount_4 rfl ?_
    refine ex_sipush (q := 8) (v := 5000) dX11_isStepCount_5 (by decide) ?_
    refine ex_icmp_gt (tgt := 15) (q := 11) dX11_isStepCount_8 (fun c2 => ?_) (fun c2 => ?_)
    · replace w := w.1 c2
      refine ex_iconst (q := 16) (v := 0) dX11_isStepCount_15 (by decide) ?_
      exact ex_ireturn dX11_isStepCount_16 rfl (Or.inr ⟨rfl, Or.inl rfl⟩) w
    · replace w := w.2 c2
      refine ex_iconst (q := 12) (v := 1) dX11_isStepCount_11 (by decide) ?_
      refine ex_goto (tgt := 16) dX11_isStepCount_12 ?_
      exact ex_ireturn dX11_isStepCount_16 rfl (Or.inr ⟨rfl, Or.inr rfl⟩) w

theorem X11_isStepCount_e {d bc bs : Nat} {h : AH} {Q : Option Value → AH → Prop} {v_0 : Int32} (w : ex_G mX11_isStepCount d 0 [.int v_0] [] h bc bs Q) : ex_S yX11_isStepCount mX11_isStepCount d [.int v_0] h bc bs Q :=
  ex_enter (plainFor_of_name (by decide +kernel)) ⟨rfl, rfl⟩ rfl rfl (Nat.le_of_ble_eq_true rfl) (ex_pad 0 w)

def X11_isStepCount_V (v_0 : Int32) (h : AH) : Int32 := (if v_0 < 0 then 0 else (if 5000 < v_0 then 0 else 1))
theorem X11_isStepCount_s {d bc bs : Nat} {h : AH} {Q : Option Value → AH → Prop} {v_0 : Int32} (w : Q (some (.int (X11_isStepCount_V v_0 h))) h) : ex_S yX11_isStepCount mX11_isStepCount d [.int v_0] h bc bs Q := by
  unfold X11_isStepCount_V at w
  refine X11_isStepCount_e (X11_isStepCount_0 ?_)
  refine ⟨fun k => ?_, fun k => ?_⟩
  · rw [if_pos k] at w
    exact w
  · rw [if_neg k] at w
    refine ⟨fun k => ?_, fun k => ?_⟩
    · rw [if_pos k] at w
      exact w
    · rw [if_neg k] at w
      exact w

set_option maxRecDepth 100000 in
theorem X11_parted_0 {d bc bs : Nat} {h : AH} {Q : Option Value → AH → Prop} {a_0 : Nat} (w : ah_o h a_0 11 ∧ Q (some (.int (ah_f h a_0 18))) h) : ex_G mX11_parted d 0 [.ref a_0] [] h bc bs Q := by
  refine ex_aload_n (q := 1) (x := a_0) dX11_parted_0 rfl ?_
  have s1 := w.1
  replace w := w.2
  refine ex_getf (q := 4) dX11_parted_1 fl_X11_399 s1 ?_
  exact ex_ireturn dX11_parted_4 rfl (Or.inl rfl) w

theorem X11_parted_e {d bc bs : Nat} {h : AH} {Q : Option Value → AH → Prop} {a_0 : Nat} (w : ex_G mX11_parted d 0 [.ref a_0] [] h bc bs Q) : ex_S yX11_parted mX11_parted d [.ref a_0] h bc bs Q :=
  ex_enter (plainFor_of_name (by decide +kernel)) ⟨rfl, rfl⟩ rfl rfl (Nat.le_of_ble_eq_true rfl) (ex_pad 0 w)

def X11_parted_V (a_0 : Nat) (h : AH) : Int32 := ah_f h a_0 18
def X11_parted_C (a_0 : Nat) (h : AH) : Prop := ah_o h a_0 11 ∧ True
theorem X11_parted_s {d bc bs : Nat} {h : AH} {Q : Option Value → AH → Prop} {a_0 : Nat} (c : X11_parted_C a_0 h) (w : Q (some (.int (X11_parted_V a_0 h))) h) : ex_S yX11_parted mX11_parted d [.ref a_0] h bc bs Q := by
  unfold X11_parted_V at w
  unfold X11_parted_C at c
  refine X11_parted_e (X11_parted_0 ?_)
  obtain ⟨c1, c⟩ := c
  refine ⟨c1, ?_⟩
  exact w

set_option maxRecDepth 100000 in
theorem X11_reaches_0 {d bc bs : Nat} {h : AH} {Q : Option Value → AH → Prop} {v_0 : Int32} {v_1 : Int32} {v_2 : Int32} (w : ((v_1 < 0 → Q (some (.int 0)) h) ∧ (¬ v_1 < 0 → ((v_2 < 0 → Q (some (.int 0)) h) ∧ (¬ v_2 < 0 → ((v_0 < v_1 → Q (some (.int 0)) h) ∧ (¬ v_0 < v_1 → (((v_0 - v_1) < v_2 → Q (some (.int 0)) h) ∧ (¬ (v_0 - v_1) < v_2 → Q (some (.int 1)) h))))))))) : ex_G mX11_reaches d 0 [.int v_0, .int v_1, .int v_2] [] h bc bs Q := by
  refine ex_iload_n (q := 1) (x := v_1) dX11_reaches_0 rfl ?_
  refine ex_if_lt (tgt := 24) (q := 4) dX11_reaches_1 (fun c1 => ?_) (fun c1 => ?_)
  · replace w := w.1 c1
    refine ex_iconst (q := 25) (v := 0) dX11_reaches_24 (by decide) ?_
    exact ex_ireturn dX11_reaches_25 rfl (Or.inr ⟨rfl, Or.inl rfl⟩) w
  · replace w := w.2 c1
    refine ex_iload_n (q := 5) (x := v_2) dX11_reaches_4 rfl ?_
    refine ex_if_lt (tgt := 24) (q := 8) dX11_reaches_5 (fun c2 => ?_) (fun c2 => ?_)
    · replace w := w.1 c2
      refine ex_iconst (q := 25) (v := 0) dX11_reaches_24 (by decide) ?_
      exact ex_ireturn dX11_reaches_25 rfl (Or.inr ⟨rfl, Or.inl rfl⟩) w
    · replace w := w.2 c2
      refine ex_iload_n (q := 9) (x := v_1) dX11_reaches_8 rfl ?_
      refine ex_iload_n (q := 10) (x := v_0) dX11_reaches_9 rfl ?_
      refine ex_icmp_gt (tgt := 24) (q := 13) dX11_reaches_10 (fun c3 => ?_) (fun c3 => ?_)
      · replace w := w.1 c3
        refine ex_iconst (q := 25) (v := 0) dX11_reaches_24 (by decide) ?_
        exact ex_ireturn dX11_reaches_25 rfl (Or.inr ⟨rfl, Or.inl rfl⟩) w
      · replace w := w.2 c3
        refine ex_iload_n (q := 14) (x := v_2) dX11_reaches_13 rfl ?_
        refine ex_iload_n (q := 15) (x := v_0) dX11_reaches_14 rfl ?_
        refine ex_iload_n (q := 16) (x := v_1) dX11_reaches_15 rfl ?_
        refine ex_isub (q := 17) dX11_reaches_16 ?_
        refine ex_icmp_gt (tgt := 24) (q := 20) dX11_reaches_17 (fun c4 => ?_) (fun c4 => ?_)
        · replace w := w.1 c4
          refine ex_iconst (q := 25) (v := 0) dX11_reaches_24 (by decide) ?_
          exact ex_ireturn dX11_reaches_25 rfl (Or.inr ⟨rfl, Or.inl rfl⟩) w
        · replace w := w.2 c4
          refine ex_iconst (q := 21) (v := 1) dX11_reaches_20 (by decide) ?_
          refine ex_goto (tgt := 25) dX11_reaches_21 ?_
          exact ex_ireturn dX11_reaches_25 rfl (Or.inr ⟨rfl, Or.inr rfl⟩) w

theorem X11_reaches_e {d bc bs : Nat} {h : AH} {Q : Option Value → AH → Prop} {v_0 : Int32} {v_1 : Int32} {v_2 : Int32} (w : ex_G mX11_reaches d 0 [.int v_0, .int v_1, .int v_2] [] h bc bs Q) : ex_S yX11_reaches mX11_reaches d [.int v_0, .int v_1, .int v_2] h bc bs Q :=
  ex_enter (plainFor_of_name (by decide +kernel)) ⟨rfl, rfl⟩ rfl rfl (Nat.le_of_ble_eq_true rfl) (ex_pad 0 w)

def X11_reaches_V (v_0 : Int32) (v_1 : Int32) (v_2 : Int32) (h : AH) : Int32 := (if v_1 < 0 then 0 else (if v_2 < 0 then 0 else (if v_0 < v_1 then 0 else (if (v_0 - v_1) < v_2 then 0 else 1))))
theorem X11_reaches_s {d bc bs : Nat} {h : AH} {Q : Option Value → AH → Prop} {v_0 : Int32} {v_1 : Int32} {v_2 : Int32} (w : Q (some (.int (X11_reaches_V v_0 v_1 v_2 h))) h) : ex_S yX11_reaches mX11_reaches d [.int v_0, .int v_1, .int v_2] h bc bs Q := by
  unfold X11_reaches_V at w
  refine X11_reaches_e (X11_reaches_0 ?_)
  refine ⟨fun k => ?_, fun k => ?_⟩
  · rw [if_pos k] at w
    exact w
  · rw [if_neg k] at w
    refine ⟨fun k => ?_, fun k => ?_⟩
    · rw [if_pos k] at w
      exact w
    · rw [if_neg k] at w
      refine ⟨fun k => ?_, fun k => ?_⟩
      · rw [if_pos k] at w
        exact w
      · rw [if_neg k] at w
        refine ⟨fun k => ?_, fun k => ?_⟩
        · rw [if_pos k] at w
          exact w
        · rw [if_neg k] at w
          exact w

set_option maxRecDepth 100000 in
theorem X11_status_0 {d bc bs : Nat} {h : AH} {Q : Option Value → AH → Prop} {a_0 : Nat} (w : ah_o h a_0 11 ∧ Q (some (.int (ah_f h a_0 19))) h) : ex_G mX11_status d 0 [.ref a_0] [] h bc bs Q := by
  refine ex_aload_n (q := 1) (x := a_0) dX11_status_0 rfl ?_
  have s1 := w.1
  replace w := w.2
  refine ex_getf (q := 4) dX11_status_1 fl_X11_110 s1 ?_
  exact ex_ireturn dX11_status_4 rfl (Or.inl rfl) w

theorem X11_status_e {d bc bs : Nat} {h : AH} {Q : Option Value → AH → Prop} {a_0 : Nat} (w : ex_G mX11_status d 0 [.ref a_0] [] h bc bs Q) : ex_S yX11_status mX11_status d [.ref a_0] h bc bs Q :=
  ex_enter (plainFor_of_name (by decide +kernel)) ⟨rfl, rfl⟩ rfl rfl (Nat.le_of_ble_eq_true rfl) (ex_pad 0 w)

def X11_status_V (a_0 : Nat) (h : AH) : Int32 := ah_f h a_0 19
def X11_status_C (a_0 : Nat) (h : AH) : Prop := ah_o h a_0 11 ∧ True
theorem X11_status_s {d bc bs : Nat} {h : AH} {Q : Option Value → AH → Prop} {a_0 : Nat} (c : X11_status_C a_0 h) (w : Q (some (.int (X11_status_V a_0 h))) h) : ex_S yX11_status mX11_status d [.ref a_0] h bc bs Q := by
  unfold X11_status_V at w
  unfold X11_status_C at c
  refine X11_status_e (X11_status_0 ?_)
  obtain ⟨c1, c⟩ := c
  refine ⟨c1, ?_⟩
  exact w

set_option maxRecDepth 100000 in
theorem X11_where_0 {d bc bs : Nat} {h : AH} {Q : Option Value → AH → Prop} {a_0 : Nat} (w : ah_o h a_0 11 ∧ Q (some (.int (ah_f h a_0 17))) h) : ex_G mX11_where d 0 [.ref a_0] [] h bc bs Q := by
  refine ex_aload_n (q := 1) (x := a_0) dX11_where_0 rfl ?_
  have s1 := w.1
  replace w := w.2
  refine ex_getf (q := 4) dX11_where_1 fl_X11_93 s1 ?_
  exact ex_ireturn dX11_where_4 rfl (Or.inl rfl) w

theorem X11_where_e {d bc bs : Nat} {h : AH} {Q : Option Value → AH → Prop} {a_0 : Nat} (w : ex_G mX11_where d 0 [.ref a_0] [] h bc bs Q) : ex_S yX11_where mX11_where d [.ref a_0] h bc bs Q :=
  ex_enter (plainFor_of_name (by decide +kernel)) ⟨rfl, rfl⟩ rfl rfl (Nat.le_of_ble_eq_true rfl) (ex_pad 0 w)

def X11_where_V (a_0 : Nat) (h : AH) : Int32 := ah_f h a_0 17
def X11_where_C (a_0 : Nat) (h : AH) : Prop := ah_o h a_0 11 ∧ True
theorem X11_where_s {d bc bs : Nat} {h : AH} {Q : Option Value → AH → Prop} {a_0 : Nat} (c : X11_where_C a_0 h) (w : Q (some (.int (X11_where_V a_0 h))) h) : ex_S yX11_where mX11_where d [.ref a_0] h bc bs Q := by
  unfold X11_where_V at w
  unfold X11_where_C at c
  refine X11_where_e (X11_where_0 ?_)
  obtain ⟨c1, c⟩ := c
  refine ⟨c1, ?_⟩
  exact w

set_option maxRecDepth 100000 in
theorem X12_arcAt_0 {d bc bs : Nat} {h : AH} {Q : Option Value → AH → Prop} {a_0 : Nat} {v_1 : Int32} (w : ah_o h a_0 12 ∧ ∃ a2, ah_r h a_0 5 = some a2 ∧ ld0 h a2 (58240 + v_1) ∧ Q (some (.int (ah_i h a2 (Int32.toNatClampNeg (58240 + v_1))))) h) : ex_G mX12_arcAt d 0 [.ref a_0, .int v_1] [] h bc bs Q := by
  refine ex_aload_n (q := 1) (x := a_0) dX12_arcAt_0 rfl ?_
  have s1 := w.1
  replace w := w.2
  obtain ⟨a2, ea2, w⟩ := w
  refine ex_getr (q := 4) dX12_arcAt_1 fl_X12_23 s1 ea2 ?_
  refine ex_ldc_w (q := 7) (v := 58240) dX12_arcAt_4 wd_1850 ?_
  refine ex_iload_n (q := 8) (x := v_1) dX12_arcAt_7 rfl ?_
  refine ex_iadd (q := 9) dX12_arcAt_8 ?_
  have s3 := w.1
  replace w := w.2
  refine ex_iald (q := 10) dX12_arcAt_9 s3 ?_
  exact ex_ireturn dX12_arcAt_10 rfl (Or.inl rfl) w

theorem X12_arcAt_e {d bc bs : Nat} {h : AH} {Q : Option Value → AH → Prop} {a_0 : Nat} {v_1 : Int32} (w : ex_G mX12_arcAt d 0 [.ref a_0, .int v_1] [] h bc bs Q) : ex_S yX12_arcAt mX12_arcAt d [.ref a_0, .int v_1] h bc bs Q :=
  ex_enter (plainFor_of_name (by decide +kernel)) ⟨rfl, rfl⟩ rfl rfl (Nat.le_of_ble_eq_true rfl) (ex_pad 0 w)

def X12_arcAt_V (a_0 : Nat) (v_1 : Int32) (h : AH) : Int32 := ah_i h (Option.getD (ah_r h a_0 5) 0) (Int32.toNatClampNeg (58240 + v_1))
def X12_arcAt_C (a_0 : Nat) (v_1 : Int32) (h : AH) : Prop := ah_o h a_0 12 ∧ ∃ a2, ah_r h a_0 5 = some a2 ∧ ld0 h a2 (58240 + v_1) ∧ True
theorem X12_arcAt_s {d bc bs : Nat} {h : AH} {Q : Option Value → AH → Prop} {a_0 : Nat} {v_1 : Int32} (c : X12_arcAt_C a_0 v_1 h) (w : Q (some (.int (X12_arcAt_V a_0 v_1 h))) h) : ex_S yX12_arcAt mX12_arcAt d [.ref a_0, .int v_1] h bc bs Q := by
  unfold X12_arcAt_V at w
  unfold X12_arcAt_C at c
  refine X12_arcAt_e (X12_arcAt_0 ?_)
  obtain ⟨c1, c⟩ := c
  refine ⟨c1, ?_⟩
  obtain ⟨a2, ea2, c⟩ := c
  try simp only [ea2, Option.getD_some] at w
  refine ⟨a2, ea2, ?_⟩
  obtain ⟨c1, c⟩ := c
  refine ⟨c1, ?_⟩
  exact w

set_option maxRecDepth 100000 in
theorem X12_body_0 {d bc bs : Nat} {h : AH} {Q : Option Value → AH → Prop} {a_0 : Nat} {v_1 : Int32} (w : ah_o h a_0 12 ∧ ∃ a2, ah_r h a_0 37 = some a2 ∧ st0 h a2 (ah_f h a_0 38) ∧ ∀ h3, h3 = ah_si h a2 (Int32.toNatClampNeg (ah_f h a_0 38)) v_1 → ∀ h5, h5 = ah_sf h3 a_0 38 ((ah_f h3 a_0 38) + 1) → Q none h5) : ex_G mX12_body d 0 [.ref a_0, .int v_1] [] h bc bs Q := by
  refine ex_aload_n (q := 1) (x := a_0) dX12_body_0 rfl ?_
  have s1 := w.1
  replace w := w.2
  obtain ⟨a2, ea2, w⟩ := w
  refine ex_getr (q := 4) dX12_body_1 fl_X12_107 s1 ea2 ?_
  refine ex_aload_n (q := 5) (x := a_0) dX12_body_4 rfl ?_
  refine ex_getf (q := 8) dX12_body_5 fl_X12_368 s1 ?_
  refine ex_iload_n (q := 9) (x := v_1) dX12_body_8 rfl ?_
  have s4 := w.1
  replace w := w.2
  refine ex_iast (q := 10) dX12_body_9 s4 ?_
  refine ex_nmh (fun h3 eh3 => ?_)
  replace w := w h3 eh3
  refine ex_aload_n (q := 11) (x := a_0) dX12_body_10 rfl ?_
  refine ex_dup (q := 12) dX12_body_11 rfl ?_
  refine ex_getf (q := 15) dX12_body_12 fl_X12_368 (by rw [eh3]; exact s1) ?_
  refine ex_iconst (q := 16) (v := 1) dX12_body_15 (by decide) ?_
  refine ex_iadd (q := 17) dX12_body_16 ?_
  refine ex_putf (q := 20) dX12_body_17 fl_X12_368 (Or.inl rfl) (by rw [eh3]; exact s1) (Or.inl rfl) ?_
  refine ex_nmh (fun h5 eh5 => ?_)
  replace w := w h5 eh5
  exact ex_return dX12_body_20 w

theorem X12_body_e {d bc bs : Nat} {h : AH} {Q : Option Value → AH → Prop} {a_0 : Nat} {v_1 : Int32} (w : ex_G mX12_body d 0 [.ref a_0, .int v_1] [] h bc bs Q) : ex_S yX12_body mX12_body d [.ref a_0, .int v_1] h bc bs Q :=
  ex_enter (plainFor_of_name (by decide +kernel)) ⟨rfl, rfl⟩ rfl rfl (Nat.le_of_ble_eq_true rfl) (ex_pad 0 w)

def X12_body_H (a_0 : Nat) (v_1 : Int32) (h : AH) : AH := (ah_sf (ah_si h (Option.getD (ah_r h a_0 37) 0) (Int32.toNatClampNeg (ah_f h a_0 38)) v_1) a_0 38 ((ah_f (ah_si h (Option.getD (ah_r h a_0 37) 0) (Int32.toNatClampNeg (ah_f h a_0 38)) v_1) a_0 38) + 1))
def X12_body_C (a_0 : Nat) (v_1 : Int32) (h : AH) : Prop := ah_o h a_0 12 ∧ ∃ a2, ah_r h a_0 37 = some a2 ∧ st0 h a2 (ah_f h a_0 38) ∧ True
theorem X12_body_s {d bc bs : Nat} {h : AH} {Q : Option Value → AH → Prop} {a_0 : Nat} {v_1 : Int32} (c : X12_body_C a_0 v_1 h) (w : Q (none) (X12_body_H a_0 v_1 h)) : ex_S yX12_body mX12_body d [.ref a_0, .int v_1] h bc bs Q := by
  unfold  X12_body_H at w
  unfold X12_body_C at c
  refine X12_body_e (X12_body_0 ?_)
  obtain ⟨c1, c⟩ := c
  refine ⟨c1, ?_⟩
  obtain ⟨a2, ea2, c⟩ := c
  try simp only [ea2, Option.getD_some] at w
  refine ⟨a2, ea2, ?_⟩
  obtain ⟨c1, c⟩ := c
  refine ⟨c1, ?_⟩
  intro h3 eh3
  subst eh3
  intro h5 eh5
  subst eh5
  exact w

set_option maxRecDepth 100000 in
theorem X12_count_0 {d bc bs : Nat} {h : AH} {Q : Option Value → AH → Prop} {a_0 : Nat} {v_1 : Int32} (w : ((¬ v_1 = 0 → ((¬ v_1 = 1 → ((¬ v_1 = 2 → ((¬ v_1 = 3 → ((¬ v_1 = 4 → Q (some (.int (-2))) h) ∧ (v_1 = 4 → ah_o h a_0 12 ∧ Q (some (.int (ah_f h a_0 23))) h))) ∧ (v_1 = 3 → ah_o h a_0 12 ∧ Q (some (.int (ah_f h a_0 29))) h))) ∧ (v_1 = 2 → ah_o h a_0 12 ∧ Q (some (.int (ah_f h a_0 62))) h))) ∧ (v_1 = 1 → ah_o h a_0 12 ∧ Q (some (.int (ah_f h a_0 35))) h))) ∧ (v_1 = 0 → ah_o h a_0 12 ∧ Q (some (.int (ah_f h a_0 6))) h))) : ex_G mX12_count d 0 [.ref a_0, .int v_1] [] h bc bs Q := by
  refine ex_iload_n (q := 1) (x := v_1) dX12_count_0 rfl ?_
  refine ex_if_ne (tgt := 11) (q := 4) dX12_count_1 (fun c1 => ?_) (fun c1 => ?_)
  · replace w := w.1 c1
    refine ex_iload_n (q := 12) (x := v_1) dX12_count_11 rfl ?_
    refine ex_iconst (q := 13) (v := 1) dX12_count_12 (by decide) ?_
    refine ex_icmp_ne (tgt := 23) (q := 16) dX12_count_13 (fun c2 => ?_) (fun c2 => ?_)
    · replace w := w.1 c2
      refine ex_iload_n (q := 24) (x := v_1) dX12_count_23 rfl ?_
      refine ex_iconst (q := 25) (v := 2) dX12_count_24 (by decide) ?_
      refine ex_icmp_ne (tgt := 35) (q := 28) dX12_count_25 (fun c3 => ?_) (fun c3 => ?_)
      · replace w := w.1 c3
        refine ex_iload_n (q := 36) (x := v_1) dX12_count_35 rfl ?_
        refine ex_iconst (q := 37) (v := 3) dX12_count_36 (by decide) ?_
        refine ex_icmp_ne (tgt := 47) (q := 40) dX12_count_37 (fun c4 => ?_) (fun c4 => ?_)
        · replace w := w.1 c4
          refine ex_iload_n (q := 48) (x := v_1) dX12_count_47 rfl ?_
          refine ex_iconst (q := 49) (v := 4) dX12_count_48 (by decide) ?_
          refine ex_icmp_ne (tgt := 59) (q := 52) dX12_count_49 (fun c5 => ?_) (fun c5 => ?_)
          · replace w := w.1 c5
            refine ex_bipush (q := 61) (v := (-2)) dX12_count_59 (by decide) ?_
            exact ex_ireturn dX12_count_61 rfl (Or.inl rfl) w
          · replace w := w.2 c5
            refine ex_aload_n (q := 53) (x := a_0) dX12_count_52 rfl ?_
            have s6 := w.1
            replace w := w.2
            refine ex_getf (q := 56) dX12_count_53 fl_X12_250 s6 ?_
            refine ex_goto (tgt := 61) dX12_count_56 ?_
            exact ex_ireturn dX12_count_61 rfl (Or.inl rfl) w
        · replace w := w.2 c4
          refine ex_aload_n (q := 41) (x := a_0) dX12_count_40 rfl ?_
          have s7 := w.1
          replace w := w.2
          refine ex_getf (q := 44) dX12_count_41 fl_X12_281 s7 ?_
          refine ex_goto (tgt := 61) dX12_count_44 ?_
          exact ex_ireturn dX12_count_61 rfl (Or.inl rfl) w
      · replace w := w.2 c3
        refine ex_aload_n (q := 29) (x := a_0) dX12_count_28 rfl ?_
        have s8 := w.1
        replace w := w.2
        refine ex_getf (q := 32) dX12_count_29 fl_X12_470 s8 ?_
        refine ex_goto (tgt := 61) dX12_count_32 ?_
        exact ex_ireturn dX12_count_61 rfl (Or.inl rfl) w
    · replace w := w.2 c2
      refine ex_aload_n (q := 17) (x := a_0) dX12_count_16 rfl ?_
      have s9 := w.1
      replace w := w.2
      refine ex_getf (q := 20) dX12_count_17 fl_X12_365 s9 ?_
      refine ex_goto (tgt := 61) dX12_count_20 ?_
      exact ex_ireturn dX12_count_61 rfl (Or.inl rfl) w
  · replace w := w.2 c1
    refine ex_aload_n (q := 5) (x := a_0) dX12_count_4 rfl ?_
    have s10 := w.1
    replace w := w.2
    refine ex_getf (q := 8) dX12_count_5 fl_X12_169 s10 ?_
    refine ex_goto (tgt := 61) dX12_count_8 ?_
    exact ex_ireturn dX12_count_61 rfl (Or.inl rfl) w

theorem X12_count_e {d bc bs : Nat} {h : AH} {Q : Option Value → AH → Prop} {a_0 : Nat} {v_1 : Int32} (w : ex_G mX12_count d 0 [.ref a_0, .int v_1] [] h bc bs Q) : ex_S yX12_count mX12_count d [.ref a_0, .int v_1] h bc bs Q :=
  ex_enter (plainFor_of_name (by decide +kernel)) ⟨rfl, rfl⟩ rfl rfl (Nat.le_of_ble_eq_true rfl) (ex_pad 0 w)

def X12_count_V (a_0 : Nat) (v_1 : Int32) (h : AH) : Int32 := (if v_1 = 0 then ah_f h a_0 6 else (if v_1 = 1 then ah_f h a_0 35 else (if v_1 = 2 then ah_f h a_0 62 else (if v_1 = 3 then ah_f h a_0 29 else (if v_1 = 4 then ah_f h a_0 23 else (-2))))))
def X12_count_C (a_0 : Nat) (v_1 : Int32) (h : AH) : Prop := (¬ v_1 = 0 → (¬ v_1 = 1 → (¬ v_1 = 2 → (¬ v_1 = 3 → (¬ v_1 = 4 → True) ∧ (v_1 = 4 → ah_o h a_0 12 ∧ True)) ∧ (v_1 = 3 → ah_o h a_0 12 ∧ True)) ∧ (v_1 = 2 → ah_o h a_0 12 ∧ True)) ∧ (v_1 = 1 → ah_o h a_0 12 ∧ True)) ∧ (v_1 = 0 → ah_o h a_0 12 ∧ True)
theorem X12_count_s {d bc bs : Nat} {h : AH} {Q : Option Value → AH → Prop} {a_0 : Nat} {v_1 : Int32} (c : X12_count_C a_0 v_1 h) (w : Q (some (.int (X12_count_V a_0 v_1 h))) h) : ex_S yX12_count mX12_count d [.ref a_0, .int v_1] h bc bs Q := by
  unfold X12_count_V at w
  unfold X12_count_C at c
  refine X12_count_e (X12_count_0 ?_)
  refine ⟨fun k => ?_, fun k => ?_⟩
  · rw [if_neg k] at w
    replace c := c.1 k
    refine ⟨fun k => ?_, fun k => ?_⟩
    · rw [if_neg k] at w
      replace c := c.1 k
      refine ⟨fun k => ?_, fun k => ?_⟩
      · rw [if_neg k] at w
        replace c := c.1 k
        refine ⟨fun k => ?_, fun k => ?_⟩
        · rw [if_neg k] at w
          replace c := c.1 k
          refine ⟨fun k => ?_, fun k => ?_⟩
          · rw [if_neg k] at w
            replace c := c.1 k
            exact w
          · rw [if_pos k] at w
            replace c := c.2 k
            obtain ⟨c1, c⟩ := c
            refine ⟨c1, ?_⟩
            exact w
        · rw [if_pos k] at w
          replace c := c.2 k
          obtain ⟨c1, c⟩ := c
          refine ⟨c1, ?_⟩
          exact w
      · rw [if_pos k] at w
        replace c := c.2 k
        obtain ⟨c1, c⟩ := c
        refine ⟨c1, ?_⟩
        exact w
    · rw [if_pos k] at w
      replace c := c.2 k
      obtain ⟨c1, c⟩ := c
      refine ⟨c1, ?_⟩
      exact w
  · rw [if_pos k] at w
    replace c := c.2 k
    obtain ⟨c1, c⟩ := c
    refine ⟨c1, ?_⟩
    exact w

set_option maxRecDepth 100000 in
theorem X12_full_0 {d bc bs : Nat} {h : AH} {Q : Option Value → AH → Prop} {a_0 : Nat} (w : ah_o h a_0 12 ∧ ∃ a2, ah_r h a_0 3 = some a2 ∧ ld0 h a2 364 ∧ (((ah_i h a2 (Int32.toNatClampNeg 364)) ≤ 9 → Q (some (.int 0)) h) ∧ (¬ (ah_i h a2 (Int32.toNatClampNeg 364)) ≤ 9 → Q (some (.int 8)) h))) : ex_G mX12_full d 0 [.ref a_0] [] h bc bs Q := by
  refine ex_aload_n (q := 1) (x := a_0) dX12_full_0 rfl ?_
  have s1 := w.1
  replace w := w.2
  obtain ⟨a2, ea2, w⟩ := w
  refine ex_getr (q := 4) dX12_full_1 fl_X12_16 s1 ea2 ?_
  refine ex_sipush (q := 7) (v := 364) dX12_full_4 (by decide) ?_
  have s3 := w.1
  replace w := w.2
  refine ex_iald (q := 8) dX12_full_7 s3 ?_
  refine ex_bipush (q := 10) (v := 9) dX12_full_8 (by decide) ?_
  refine ex_icmp_le (tgt := 18) (q := 13) dX12_full_10 (fun c4 => ?_) (fun c4 => ?_)
  · replace w := w.1 c4
    refine ex_iconst (q := 19) (v := 0) dX12_full_18 (by decide) ?_
    exact ex_ireturn dX12_full_19 rfl (Or.inl rfl) w
  · replace w := w.2 c4
    refine ex_bipush (q := 15) (v := 8) dX12_full_13 (by decide) ?_
    refine ex_goto (tgt := 19) dX12_full_15 ?_
    exact ex_ireturn dX12_full_19 rfl (Or.inl rfl) w

theorem X12_full_e {d bc bs : Nat} {h : AH} {Q : Option Value → AH → Prop} {a_0 : Nat} (w : ex_G mX12_full d 0 [.ref a_0] [] h bc bs Q) : ex_S yX12_full mX12_full d [.ref a_0] h bc bs Q :=
  ex_enter (plainFor_of_name (by decide +kernel)) ⟨rfl, rfl⟩ rfl rfl (Nat.le_of_ble_eq_true rfl) (ex_pad 0 w)

def X12_full_V (a_0 : Nat) (h : AH) : Int32 := (if (ah_i h (Option.getD (ah_r h a_0 3) 0) (Int32.toNatClampNeg 364)) ≤ 9 then 0 else 8)
def X12_full_C (a_0 : Nat) (h : AH) : Prop := ah_o h a_0 12 ∧ ∃ a2, ah_r h a_0 3 = some a2 ∧ ld0 h a2 364 ∧ True
theorem X12_full_s {d bc bs : Nat} {h : AH} {Q : Option Value → AH → Prop} {a_0 : Nat} (c : X12_full_C a_0 h) (w : Q (some (.int (X12_full_V a_0 h))) h) : ex_S yX12_full mX12_full d [.ref a_0] h bc bs Q := by
  unfold X12_full_V at w
  unfold X12_full_C at c
  refine X12_full_e (X12_full_0 ?_)
  obtain ⟨c1, c⟩ := c
  refine ⟨c1, ?_⟩
  obtain ⟨a2, ea2, c⟩ := c
  try simp only [ea2, Option.getD_some] at w
  refine ⟨a2, ea2, ?_⟩
  obtain ⟨c1, c⟩ := c
  refine ⟨c1, ?_⟩
  refine ⟨fun k => ?_, fun k => ?_⟩
  · rw [if_pos k] at w
    exact w
  · rw [if_neg k] at w
    exact w

set_option maxRecDepth 100000 in
theorem X12_goesOver_0 {d bc bs : Nat} {h : AH} {Q : Option Value → AH → Prop} {a_0 : Nat} {v_1 : Int32} (w : ((¬ (im_ v_1 2) = 1 → Q (some (.int 0)) h) ∧ ((im_ v_1 2) = 1 → ah_o h a_0 12 ∧ ∃ a3, ah_r h a_0 10 = some a3 ∧ ld0 h a3 v_1 ∧ ((¬ (im_ (ah_i h a3 (Int32.toNatClampNeg v_1)) 2) = 1 → Q (some (.int 0)) h) ∧ ((im_ (ah_i h a3 (Int32.toNatClampNeg v_1)) 2) = 1 → Q (some (.int 1)) h))))) : ex_G mX12_goesOver d 0 [.ref a_0, .int v_1] [] h bc bs Q := by
  refine ex_iload_n (q := 1) (x := v_1) dX12_goesOver_0 rfl ?_
  refine ex_iconst (q := 2) (v := 2) dX12_goesOver_1 (by decide) ?_
  refine ex_irem (q := 3) dX12_goesOver_2 (by decide) ?_
  refine ex_iconst (q := 4) (v := 1) dX12_goesOver_3 (by decide) ?_
  refine ex_icmp_ne (tgt := 23) (q := 7) dX12_goesOver_4 (fun c1 => ?_) (fun c1 => ?_)
  · replace w := w.1 c1
    refine ex_iconst (q := 24) (v := 0) dX12_goesOver_23 (by decide) ?_
    exact ex_ireturn dX12_goesOver_24 rfl (Or.inr ⟨rfl, Or.inl rfl⟩) w
  · replace w := w.2 c1
    refine ex_aload_n (q := 8) (x := a_0) dX12_goesOver_7 rfl ?_
    have s2 := w.1
    replace w := w.2
    obtain ⟨a3, ea3, w⟩ := w
    refine ex_getr (q := 11) dX12_goesOver_8 fl_X12_36 s2 ea3 ?_
    refine ex_iload_n (q := 12) (x := v_1) dX12_goesOver_11 rfl ?_
    have s4 := w.1
    replace w := w.2
    refine ex_iald (q := 13) dX12_goesOver_12 s4 ?_
    refine ex_iconst (q := 14) (v := 2) dX12_goesOver_13 (by decide) ?_
    refine ex_irem (q := 15) dX12_goesOver_14 (by decide) ?_
    refine ex_iconst (q := 16) (v := 1) dX12_goesOver_15 (by decide) ?_
    refine ex_icmp_ne (tgt := 23) (q := 19) dX12_goesOver_16 (fun c5 => ?_) (fun c5 => ?_)
    · replace w := w.1 c5
      refine ex_iconst (q := 24) (v := 0) dX12_goesOver_23 (by decide) ?_
      exact ex_ireturn dX12_goesOver_24 rfl (Or.inr ⟨rfl, Or.inl rfl⟩) w
    · replace w := w.2 c5
      refine ex_iconst (q := 20) (v := 1) dX12_goesOver_19 (by decide) ?_
      refine ex_goto (tgt := 24) dX12_goesOver_20 ?_
      exact ex_ireturn dX12_goesOver_24 rfl (Or.inr ⟨rfl, Or.inr rfl⟩) w

theorem X12_goesOver_e {d bc bs : Nat} {h : AH} {Q : Option Value → AH → Prop} {a_0 : Nat} {v_1 : Int32} (w : ex_G mX12_goesOver d 0 [.ref a_0, .int v_1] [] h bc bs Q) : ex_S yX12_goesOver mX12_goesOver d [.ref a_0, .int v_1] h bc bs Q :=
  ex_enter (plainFor_of_name (by decide +kernel)) ⟨rfl, rfl⟩ rfl rfl (Nat.le_of_ble_eq_true rfl) (ex_pad 0 w)

def X12_goesOver_V (a_0 : Nat) (v_1 : Int32) (h : AH) : Int32 := (if (im_ v_1 2) = 1 then (if (im_ (ah_i h (Option.getD (ah_r h a_0 10) 0) (Int32.toNatClampNeg v_1)) 2) = 1 then 1 else 0) else 0)
def X12_goesOver_C (a_0 : Nat) (v_1 : Int32) (h : AH) : Prop := (¬ (im_ v_1 2) = 1 → True) ∧ ((im_ v_1 2) = 1 → ah_o h a_0 12 ∧ ∃ a3, ah_r h a_0 10 = some a3 ∧ ld0 h a3 v_1 ∧ True)
theorem X12_goesOver_s {d bc bs : Nat} {h : AH} {Q : Option Value → AH → Prop} {a_0 : Nat} {v_1 : Int32} (c : X12_goesOver_C a_0 v_1 h) (w : Q (some (.int (X12_goesOver_V a_0 v_1 h))) h) : ex_S yX12_goesOver mX12_goesOver d [.ref a_0, .int v_1] h bc bs Q := by
  unfold X12_goesOver_V at w
  unfold X12_goesOver_C at c
  refine X12_goesOver_e (X12_goesOver_0 ?_)
  refine ⟨fun k => ?_, fun k => ?_⟩
  · rw [if_neg k] at w
    replace c := c.1 k
    exact w
  · rw [if_pos k] at w
    replace c := c.2 k
    obtain ⟨c1, c⟩ := c
    refine ⟨c1, ?_⟩
    obtain ⟨a3, ea3, c⟩ := c
    try simp only [ea3, Option.getD_some] at w
    refine ⟨a3, ea3, ?_⟩
    obtain ⟨c1, c⟩ := c
    refine ⟨c1, ?_⟩
    refine ⟨fun k => ?_, fun k => ?_⟩
    · rw [if_neg k] at w
      exact w
    · rw [if_pos k] at w
      exact w

set_option maxRecDepth 100000 in
theorem X12_has_0 {d bc bs : Nat} {h : AH} {Q : Option Value → AH → Prop} {v_0 : Int32} {v_1 : Int32} (w : ((31 ≤ (v_1 / 4) → Q (some (.int 0)) h) ∧ (¬ 31 ≤ (v_1 / 4) → ((¬ ((v_0 >>> ((v_1 / 4) &&& (31 : Int32))) &&& 1) = 1 → Q (some (.int 0)) h) ∧ (((v_0 >>> ((v_1 / 4) &&& (31 : Int32))) &&& 1) = 1 → Q (some (.int 1)) h))))) : ex_G mX12_has d 0 [.int v_0, .int v_1] [] h bc bs Q := by
  refine ex_iload_n (q := 1) (x := v_1) dX12_has_0 rfl ?_
  refine ex_iconst (q := 2) (v := 4) dX12_has_1 (by decide) ?_
  refine ex_idiv (q := 3) dX12_has_2 (by decide) ?_
  refine ex_bipush (q := 5) (v := 31) dX12_has_3 (by decide) ?_
  refine ex_icmp_ge (tgt := 23) (q := 8) dX12_has_5 (fun c1 => ?_) (fun c1 => ?_)
  · replace w := w.1 c1
    refine ex_iconst (q := 24) (v := 0) dX12_has_23 (by decide) ?_
    exact ex_ireturn dX12_has_24 rfl (Or.inr ⟨rfl, Or.inl rfl⟩) w
  · replace w := w.2 c1
    refine ex_iload_n (q := 9) (x := v_0) dX12_has_8 rfl ?_
    refine ex_iload_n (q := 10) (x := v_1) dX12_has_9 rfl ?_
    refine ex_iconst (q := 11) (v := 4) dX12_has_10 (by decide) ?_
    refine ex_idiv (q := 12) dX12_has_11 (by decide) ?_
    refine ex_ishr (q := 13) dX12_has_12 ?_
    refine ex_iconst (q := 14) (v := 1) dX12_has_13 (by decide) ?_
    refine ex_iand (q := 15) dX12_has_14 ?_
    refine ex_iconst (q := 16) (v := 1) dX12_has_15 (by decide) ?_
    refine ex_icmp_ne (tgt := 23) (q := 19) dX12_has_16 (fun c2 => ?_) (fun c2 => ?_)
    · replace w := w.1 c2
      refine ex_iconst (q := 24) (v := 0) dX12_has_23 (by decide) ?_
      exact ex_ireturn dX12_has_24 rfl (Or.inr ⟨rfl, Or.inl rfl⟩) w
    · replace w := w.2 c2
      refine ex_iconst (q := 20) (v := 1) dX12_has_19 (by decide) ?_
      refine ex_goto (tgt := 24) dX12_has_20 ?_
      exact ex_ireturn dX12_has_24 rfl (Or.inr ⟨rfl, Or.inr rfl⟩) w

theorem X12_has_e {d bc bs : Nat} {h : AH} {Q : Option Value → AH → Prop} {v_0 : Int32} {v_1 : Int32} (w : ex_G mX12_has d 0 [.int v_0, .int v_1] [] h bc bs Q) : ex_S yX12_has mX12_has d [.int v_0, .int v_1] h bc bs Q :=
  ex_enter (plainFor_of_name (by decide +kernel)) ⟨rfl, rfl⟩ rfl rfl (Nat.le_of_ble_eq_true rfl) (ex_pad 0 w)

def X12_has_V (v_0 : Int32) (v_1 : Int32) (h : AH) : Int32 := (if 31 ≤ (v_1 / 4) then 0 else (if ((v_0 >>> ((v_1 / 4) &&& (31 : Int32))) &&& 1) = 1 then 1 else 0))
theorem X12_has_s {d bc bs : Nat} {h : AH} {Q : Option Value → AH → Prop} {v_0 : Int32} {v_1 : Int32} (w : Q (some (.int (X12_has_V v_0 v_1 h))) h) : ex_S yX12_has mX12_has d [.int v_0, .int v_1] h bc bs Q := by
  unfold X12_has_V at w
  refine X12_has_e (X12_has_0 ?_)
  refine ⟨fun k => ?_, fun k => ?_⟩
  · rw [if_pos k] at w
    exact w
  · rw [if_neg k] at w
    refine ⟨fun k => ?_, fun k => ?_⟩
    · rw [if_neg k] at w
      exact w
    · rw [if_pos k] at w
      exact w

set_option maxRecDepth 100000 in
theorem X12_in_0 {d bc bs : Nat} {h : AH} {Q : Option Value → AH → Prop} {v_0 : Int64} {v_2 : Int64} {v_4 : Int64} (w : (((lg_cmp v_0 v_2) < 0 → Q (some (.int 0)) h) ∧ (¬ (lg_cmp v_0 v_2) < 0 → ((0 < (lg_cmp v_0 v_4) → Q (some (.int 0)) h) ∧ (¬ 0 < (lg_cmp v_0 v_4) → Q (some (.int 1)) h))))) : ex_G mX12_in d 0 [.long v_0, .retAddr 0, .long v_2, .retAddr 0, .long v_4, .retAddr 0] [] h bc bs Q := by
  refine ex_lload_n (q := 1) (x := v_0) dX12_in_0 rfl ?_
  refine ex_lload_n (q := 2) (x := v_2) dX12_in_1 rfl ?_
  refine ex_lcmp (q := 3) dX12_in_2 ?_
  refine ex_if_lt (tgt := 17) (q := 6) dX12_in_3 (fun c1 => ?_) (fun c1 => ?_)
  · replace w := w.1 c1
    refine ex_iconst (q := 18) (v := 0) dX12_in_17 (by decide) ?_
    exact ex_ireturn dX12_in_18 rfl (Or.inr ⟨rfl, Or.inl rfl⟩) w
  · replace w := w.2 c1
    refine ex_lload_n (q := 7) (x := v_0) dX12_in_6 rfl ?_
    refine ex_lload (q := 9) (x := v_4) dX12_in_7 rfl ?_
    refine ex_lcmp (q := 10) dX12_in_9 ?_
    refine ex_if_gt (tgt := 17) (q := 13) dX12_in_10 (fun c2 => ?_) (fun c2 => ?_)
    · replace w := w.1 c2
      refine ex_iconst (q := 18) (v := 0) dX12_in_17 (by decide) ?_
      exact ex_ireturn dX12_in_18 rfl (Or.inr ⟨rfl, Or.inl rfl⟩) w
    · replace w := w.2 c2
      refine ex_iconst (q := 14) (v := 1) dX12_in_13 (by decide) ?_
      refine ex_goto (tgt := 18) dX12_in_14 ?_
      exact ex_ireturn dX12_in_18 rfl (Or.inr ⟨rfl, Or.inr rfl⟩) w

theorem X12_in_e {d bc bs : Nat} {h : AH} {Q : Option Value → AH → Prop} {v_0 : Int64} {v_2 : Int64} {v_4 : Int64} (w : ex_G mX12_in d 0 [.long v_0, .retAddr 0, .long v_2, .retAddr 0, .long v_4, .retAddr 0] [] h bc bs Q) : ex_S yX12_in mX12_in d [.long v_0, .long v_2, .long v_4] h bc bs Q :=
  ex_enter (plainFor_of_name (by decide +kernel)) ⟨rfl, rfl⟩ rfl rfl (Nat.le_of_ble_eq_true rfl) (ex_pad 0 w)

def X12_in_V (v_0 : Int64) (v_2 : Int64) (v_4 : Int64) (h : AH) : Int32 := (if (lg_cmp v_0 v_2) < 0 then 0 else (if 0 < (lg_cmp v_0 v_4) then 0 else 1))
theorem X12_in_s {d bc bs : Nat} {h : AH} {Q : Option Value → AH → Prop} {v_0 : Int64} {v_2 : Int64} {v_4 : Int64} (w : Q (some (.int (X12_in_V v_0 v_2 v_4 h))) h) : ex_S yX12_in mX12_in d [.long v_0, .long v_2, .long v_4] h bc bs Q := by
  unfold X12_in_V at w
  refine X12_in_e (X12_in_0 ?_)
  refine ⟨fun k => ?_, fun k => ?_⟩
  · rw [if_pos k] at w
    exact w
  · rw [if_neg k] at w
    refine ⟨fun k => ?_, fun k => ?_⟩
    · rw [if_pos k] at w
      exact w
    · rw [if_neg k] at w
      exact w

set_option maxRecDepth 100000 in
theorem X12_no_0 {d bc bs : Nat} {h : AH} {Q : Option Value → AH → Prop} {a_0 : Nat} {v_1 : Int32} (w : ah_o h a_0 12 ∧ ∀ h2, h2 = ah_sf h a_0 0 v_1 → Q (some (.int v_1)) h2) : ex_G mX12_no d 0 [.ref a_0, .int v_1] [] h bc bs Q := by
  refine ex_aload_n (q := 1) (x := a_0) dX12_no_0 rfl ?_
  refine ex_iload_n (q := 2) (x := v_1) dX12_no_1 rfl ?_
  have s1 := w.1
  replace w := w.2
  refine ex_putf (q := 5) dX12_no_2 fl_X12_162 (Or.inl rfl) s1 (Or.inl rfl) ?_
  refine ex_nmh (fun h2 eh2 => ?_)
  replace w := w h2 eh2
  refine ex_iload_n (q := 6) (x := v_1) dX12_no_5 rfl ?_
  exact ex_ireturn dX12_no_6 rfl (Or.inl rfl) w

theorem X12_no_e {d bc bs : Nat} {h : AH} {Q : Option Value → AH → Prop} {a_0 : Nat} {v_1 : Int32} (w : ex_G mX12_no d 0 [.ref a_0, .int v_1] [] h bc bs Q) : ex_S yX12_no mX12_no d [.ref a_0, .int v_1] h bc bs Q :=
  ex_enter (plainFor_of_name (by decide +kernel)) ⟨rfl, rfl⟩ rfl rfl (Nat.le_of_ble_eq_true rfl) (ex_pad 0 w)

def X12_no_V (a_0 : Nat) (v_1 : Int32) (h : AH) : Int32 := v_1
def X12_no_H (a_0 : Nat) (v_1 : Int32) (h : AH) : AH := (ah_sf h a_0 0 v_1)
def X12_no_C (a_0 : Nat) (v_1 : Int32) (h : AH) : Prop := ah_o h a_0 12 ∧ True
theorem X12_no_s {d bc bs : Nat} {h : AH} {Q : Option Value → AH → Prop} {a_0 : Nat} {v_1 : Int32} (c : X12_no_C a_0 v_1 h) (w : Q (some (.int (X12_no_V a_0 v_1 h))) (X12_no_H a_0 v_1 h)) : ex_S yX12_no mX12_no d [.ref a_0, .int v_1] h bc bs Q := by
  unfold X12_no_V X12_no_H at w
  unfold X12_no_C at c
  refine X12_no_e (X12_no_0 ?_)
  obtain ⟨c1, c⟩ := c
  refine ⟨c1, ?_⟩
  intro h2 eh2
  subst eh2
  exact w

set_option maxRecDepth 100000 in
theorem X12_parted_0 {d bc bs : Nat} {h : AH} {Q : Option Value → AH → Prop} {a_0 : Nat} (w : ah_o h a_0 12 ∧ Q (some (.int (ah_f h a_0 60))) h) : ex_G mX12_parted d 0 [.ref a_0] [] h bc bs Q := by
  refine ex_aload_n (q := 1) (x := a_0) dX12_parted_0 rfl ?_
  have s1 := w.1
  replace w := w.2
  refine ex_getf (q := 4) dX12_parted_1 fl_X12_467 s1 ?_
  exact ex_ireturn dX12_parted_4 rfl (Or.inl rfl) w

theorem X12_parted_e {d bc bs : Nat} {h : AH} {Q : Option Value → AH → Prop} {a_0 : Nat} (w : ex_G mX12_parted d 0 [.ref a_0] [] h bc bs Q) : ex_S yX12_parted mX12_parted d [.ref a_0] h bc bs Q :=
  ex_enter (plainFor_of_name (by decide +kernel)) ⟨rfl, rfl⟩ rfl rfl (Nat.le_of_ble_eq_true rfl) (ex_pad 0 w)

def X12_parted_V (a_0 : Nat) (h : AH) : Int32 := ah_f h a_0 60
def X12_parted_C (a_0 : Nat) (h : AH) : Prop := ah_o h a_0 12 ∧ True
theorem X12_parted_s {d bc bs : Nat} {h : AH} {Q : Option Value → AH → Prop} {a_0 : Nat} (c : X12_parted_C a_0 h) (w : Q (some (.int (X12_parted_V a_0 h))) h) : ex_S yX12_parted mX12_parted d [.ref a_0] h bc bs Q := by
  unfold X12_parted_V at w
  unfold X12_parted_C at c
  refine X12_parted_e (X12_parted_0 ?_)
  obtain ⟨c1, c⟩ := c
  refine ⟨c1, ?_⟩
  exact w

set_option maxRecDepth 100000 in
theorem X12_status_0 {d bc bs : Nat} {h : AH} {Q : Option Value → AH → Prop} {a_0 : Nat} (w : ah_o h a_0 12 ∧ Q (some (.int (ah_f h a_0 0))) h) : ex_G mX12_status d 0 [.ref a_0] [] h bc bs Q := by
  refine ex_aload_n (q := 1) (x := a_0) dX12_status_0 rfl ?_
  have s1 := w.1
  replace w := w.2
  refine ex_getf (q := 4) dX12_status_1 fl_X12_162 s1 ?_
  exact ex_ireturn dX12_status_4 rfl (Or.inl rfl) w

theorem X12_status_e {d bc bs : Nat} {h : AH} {Q : Option Value → AH → Prop} {a_0 : Nat} (w : ex_G mX12_status d 0 [.ref a_0] [] h bc bs Q) : ex_S yX12_status mX12_status d [.ref a_0] h bc bs Q :=
  ex_enter (plainFor_of_name (by decide +kernel)) ⟨rfl, rfl⟩ rfl rfl (Nat.le_of_ble_eq_true rfl) (ex_pad 0 w)

def X12_status_V (a_0 : Nat) (h : AH) : Int32 := ah_f h a_0 0
def X12_status_C (a_0 : Nat) (h : AH) : Prop := ah_o h a_0 12 ∧ True
theorem X12_status_s {d bc bs : Nat} {h : AH} {Q : Option Value → AH → Prop} {a_0 : Nat} (c : X12_status_C a_0 h) (w : Q (some (.int (X12_status_V a_0 h))) h) : ex_S yX12_status mX12_status d [.ref a_0] h bc bs Q := by
  unfold X12_status_V at w
  unfold X12_status_C at c
  refine X12_status_e (X12_status_0 ?_)
  obtain ⟨c1, c⟩ := c
  refine ⟨c1, ?_⟩
  exact w

set_option maxRecDepth 100000 in
theorem X12_turned_0 {d bc bs : Nat} {h : AH} {Q : Option Value → AH → Prop} {v_0 : Int32} {v_1 : Int32} (w : Q (some (.int (((v_0 / 4) * 4) + ((v_0 + v_1) &&& 3)))) h) : ex_G mX12_turned d 0 [.int v_0, .int v_1] [] h bc bs Q := by
  refine ex_iload_n (q := 1) (x := v_0) dX12_turned_0 rfl ?_
  refine ex_iconst (q := 2) (v := 4) dX12_turned_1 (by decide) ?_
  refine ex_idiv (q := 3) dX12_turned_2 (by decide) ?_
  refine ex_iconst (q := 4) (v := 4) dX12_turned_3 (by decide) ?_
  refine ex_imul (q := 5) dX12_turned_4 ?_
  refine ex_iload_n (q := 6) (x := v_0) dX12_turned_5 rfl ?_
  refine ex_iload_n (q := 7) (x := v_1) dX12_turned_6 rfl ?_
  refine ex_iadd (q := 8) dX12_turned_7 ?_
  refine ex_iconst (q := 9) (v := 3) dX12_turned_8 (by decide) ?_
  refine ex_iand (q := 10) dX12_turned_9 ?_
  refine ex_iadd (q := 11) dX12_turned_10 ?_
  exact ex_ireturn dX12_turned_11 rfl (Or.inl rfl) w

theorem X12_turned_e {d bc bs : Nat} {h : AH} {Q : Option Value → AH → Prop} {v_0 : Int32} {v_1 : Int32} (w : ex_G mX12_turned d 0 [.int v_0, .int v_1] [] h bc bs Q) : ex_S yX12_turned mX12_turned d [.int v_0, .int v_1] h bc bs Q :=
  ex_enter (plainFor_of_name (by decide +kernel)) ⟨rfl, rfl⟩ rfl rfl (Nat.le_of_ble_eq_true rfl) (ex_pad 0 w)

def X12_turned_V (v_0 : Int32) (v_1 : Int32) (h : AH) : Int32 := ((v_0 / 4) * 4) + ((v_0 + v_1) &&& 3)
theorem X12_turned_s {d bc bs : Nat} {h : AH} {Q : Option Value → AH → Prop} {v_0 : Int32} {v_1 : Int32} (w : Q (some (.int (X12_turned_V v_0 v_1 h))) h) : ex_S yX12_turned mX12_turned d [.int v_0, .int v_1] h bc bs Q := by
  unfold X12_turned_V at w
  refine X12_turned_e (X12_turned_0 ?_)
  exact w

set_option maxRecDepth 100000 in
theorem X12_well_0 {d bc bs : Nat} {h : AH} {Q : Option Value → AH → Prop} {a_0 : Nat} {v_1 : Int32} (w : ah_o h a_0 12 ∧ ∀ h2, h2 = ah_sf h a_0 0 0 → Q (some (.int v_1)) h2) : ex_G mX12_well d 0 [.ref a_0, .int v_1] [] h bc bs Q := by
  refine ex_aload_n (q := 1) (x := a_0) dX12_well_0 rfl ?_
  refine ex_iconst (q := 2) (v := 0) dX12_well_1 (by decide) ?_
  have s1 := w.1
  replace w := w.2
  refine ex_putf (q := 5) dX12_well_2 fl_X12_162 (Or.inl rfl) s1 (Or.inl rfl) ?_
  refine ex_nmh (fun h2 eh2 => ?_)
  replace w := w h2 eh2
  refine ex_iload_n (q := 6) (x := v_1) dX12_well_5 rfl ?_
  exact ex_ireturn dX12_well_6 rfl (Or.inl rfl) w

theorem X12_well_e {d bc bs : Nat} {h : AH} {Q : Option Value → AH → Prop} {a_0 : Nat} {v_1 : Int32} (w : ex_G mX12_well d 0 [.ref a_0, .int v_1] [] h bc bs Q) : ex_S yX12_well mX12_well d [.ref a_0, .int v_1] h bc bs Q :=
  ex_enter (plainFor_of_name (by decide +kernel)) ⟨rfl, rfl⟩ rfl rfl (Nat.le_of_ble_eq_true rfl) (ex_pad 0 w)

def X12_well_V (a_0 : Nat) (v_1 : Int32) (h : AH) : Int32 := v_1
def X12_well_H (a_0 : Nat) (v_1 : Int32) (h : AH) : AH := (ah_sf h a_0 0 0)
def X12_well_C (a_0 : Nat) (v_1 : Int32) (h : AH) : Prop := ah_o h a_0 12 ∧ True
theorem X12_well_s {d bc bs : Nat} {h : AH} {Q : Option Value → AH → Prop} {a_0 : Nat} {v_1 : Int32} (c : X12_well_C a_0 v_1 h) (w : Q (some (.int (X12_well_V a_0 v_1 h))) (X12_well_H a_0 v_1 h)) : ex_S yX12_well mX12_well d [.ref a_0, .int v_1] h bc bs Q := by
  unfold X12_well_V X12_well_H at w
  unfold X12_well_C at c
  refine X12_well_e (X12_well_0 ?_)
  obtain ⟨c1, c⟩ := c
  refine ⟨c1, ?_⟩
  intro h2 eh2
  subst eh2
  exact w

set_option maxRecDepth 100000 in
theorem X12_where_0 {d bc bs : Nat} {h : AH} {Q : Option Value → AH → Prop} {a_0 : Nat} (w : ah_o h a_0 12 ∧ Q (some (.int (ah_f h a_0 15))) h) : ex_G mX12_where d 0 [.ref a_0] [] h bc bs Q := by
  refine ex_aload_n (q := 1) (x := a_0) dX12_where_0 rfl ?_
  have s1 := w.1
  replace w := w.2
  refine ex_getf (q := 4) dX12_where_1 fl_X12_52 s1 ?_
  exact ex_ireturn dX12_where_4 rfl (Or.inl rfl) w

theorem X12_where_e {d bc bs : Nat} {h : AH} {Q : Option Value → AH → Prop} {a_0 : Nat} (w : ex_G mX12_where d 0 [.ref a_0] [] h bc bs Q) : ex_S yX12_where mX12_where d [.ref a_0] h bc bs Q :=
  ex_enter (plainFor_of_name (by decide +kernel)) ⟨rfl, rfl⟩ rfl rfl (Nat.le_of_ble_eq_true rfl) (ex_pad 0 w)

def X12_where_V (a_0 : Nat) (h : AH) : Int32 := ah_f h a_0 15
def X12_where_C (a_0 : Nat) (h : AH) : Prop := ah_o h a_0 12 ∧ True
theorem X12_where_s {d bc bs : Nat} {h : AH} {Q : Option Value → AH → Prop} {a_0 : Nat} (c : X12_where_C a_0 h) (w : Q (some (.int (X12_where_V a_0 h))) h) : ex_S yX12_where mX12_where d [.ref a_0] h bc bs Q := by
  unfold X12_where_V at w
  unfold X12_where_C at c
  refine X12_where_e (X12_where_0 ?_)
  obtain ⟨c1, c⟩ := c
  refine ⟨c1, ?_⟩
  exact w

set_option maxRecDepth 100000 in
theorem X2_numberAt_0 {d bc bs : Nat} {h : AH} {Q : Option Value → AH → Prop} {a_0 : Nat} {v_1 : Int32} (w : ((v_1 < (-140) → Q (some (.long 0)) h) ∧ (¬ v_1 < (-140) → ((140 < v_1 → Q (some (.long 0)) h) ∧ (¬ 140 < v_1 → ah_o h a_0 2 ∧ ∃ a4, ah_r h a_0 0 = some a4 ∧ ld2 h a4 (v_1 + 140) ∧ Q (some (.long (ah_l h a4 (Int32.toNatClampNeg (v_1 + 140))))) h))))) : ex_G mX2_numberAt d 0 [.ref a_0, .int v_1] [] h bc bs Q := by
  refine ex_iload_n (q := 1) (x := v_1) dX2_numberAt_0 rfl ?_
  refine ex_sipush (q := 4) (v := (-140)) dX2_numberAt_1 (by decide) ?_
  refine ex_icmp_lt (tgt := 27) (q := 7) dX2_numberAt_4 (fun c1 => ?_) (fun c1 => ?_)
  · replace w := w.1 c1
    refine ex_lconst (q := 28) (v := 0) dX2_numberAt_27 (by decide) ?_
    exact ex_lreturn dX2_numberAt_28 w
  · replace w := w.2 c1
    refine ex_iload_n (q := 8) (x := v_1) dX2_numberAt_7 rfl ?_
    refine ex_sipush (q := 11) (v := 140) dX2_numberAt_8 (by decide) ?_
    refine ex_icmp_gt (tgt := 27) (q := 14) dX2_numberAt_11 (fun c2 => ?_) (fun c2 => ?_)
    · replace w := w.1 c2
      refine ex_lconst (q := 28) (v := 0) dX2_numberAt_27 (by decide) ?_
      exact ex_lreturn dX2_numberAt_28 w
    · replace w := w.2 c2
      refine ex_aload_n (q := 15) (x := a_0) dX2_numberAt_14 rfl ?_
      have s3 := w.1
      replace w := w.2
      obtain ⟨a4, ea4, w⟩ := w
      refine ex_getr (q := 18) dX2_numberAt_15 fl_X2_9 s3 ea4 ?_
      refine ex_iload_n (q := 19) (x := v_1) dX2_numberAt_18 rfl ?_
      refine ex_sipush (q := 22) (v := 140) dX2_numberAt_19 (by decide) ?_
      refine ex_iadd (q := 23) dX2_numberAt_22 ?_
      have s5 := w.1
      replace w := w.2
      refine ex_lald (q := 24) dX2_numberAt_23 s5 ?_
      refine ex_goto (tgt := 28) dX2_numberAt_24 ?_
      exact ex_lreturn dX2_numberAt_28 w

theorem X2_numberAt_e {d bc bs : Nat} {h : AH} {Q : Option Value → AH → Prop} {a_0 : Nat} {v_1 : Int32} (w : ex_G mX2_numberAt d 0 [.ref a_0, .int v_1] [] h bc bs Q) : ex_S yX2_numberAt mX2_numberAt d [.ref a_0, .int v_1] h bc bs Q :=
  ex_enter (plainFor_of_name (by decide +kernel)) ⟨rfl, rfl⟩ rfl rfl (Nat.le_of_ble_eq_true rfl) (ex_pad 0 w)

def X2_numberAt_V (a_0 : Nat) (v_1 : Int32) (h : AH) : Int64 := (if v_1 < (-140) then 0 else (if 140 < v_1 then 0 else ah_l h (Option.getD (ah_r h a_0 0) 0) (Int32.toNatClampNeg (v_1 + 140))))
def X2_numberAt_C (a_0 : Nat) (v_1 : Int32) (h : AH) : Prop := (v_1 < (-140) → True) ∧ (¬ v_1 < (-140) → (140 < v_1 → True) ∧ (¬ 140 < v_1 → ah_o h a_0 2 ∧ ∃ a4, ah_r h a_0 0 = some a4 ∧ ld2 h a4 (v_1 + 140) ∧ True))
theorem X2_numberAt_s {d bc bs : Nat} {h : AH} {Q : Option Value → AH → Prop} {a_0 : Nat} {v_1 : Int32} (c : X2_numberAt_C a_0 v_1 h) (w : Q (some (.long (X2_numberAt_V a_0 v_1 h))) h) : ex_S yX2_numberAt mX2_numberAt d [.ref a_0, .int v_1] h bc bs Q := by
  unfold X2_numberAt_V at w
  unfold X2_numberAt_C at c
  refine X2_numberAt_e (X2_numberAt_0 ?_)
  refine ⟨fun k => ?_, fun k => ?_⟩
  · rw [if_pos k] at w
    replace c := c.1 k
    exact w
  · rw [if_neg k] at w
    replace c := c.2 k
    refine ⟨fun k => ?_, fun k => ?_⟩
    · rw [if_pos k] at w
      replace c := c.1 k
      exact w
    · rw [if_neg k] at w
      replace c := c.2 k
      obtain ⟨c1, c⟩ := c
      refine ⟨c1, ?_⟩
      obtain ⟨a4, ea4, c⟩ := c
      try simp only [ea4, Option.getD_some] at w
      refine ⟨a4, ea4, ?_⟩
      obtain ⟨c1, c⟩ := c
      refine ⟨c1, ?_⟩
      exact w

set_option maxRecDepth 100000 in
theorem X2_swapRows_0 {d bc bs : Nat} {h : AH} {Q : Option Value → AH → Prop} {a_0 : Nat} (w : ah_o h a_0 2 ∧ ∃ a2, ah_r h a_0 0 = some a2 ∧ ∃ a3, ah_r h a_0 1 = some a3 ∧ ∀ h4, h4 = ah_sr h a_0 0 (some a3) → ∀ h5, h5 = ah_sr h4 a_0 1 (some a2) → Q none h5) : ex_G mX2_swapRows d 0 [.ref a_0, .retAddr 0] [] h bc bs Q := by
  refine ex_aload_n (q := 1) (x := a_0) dX2_swapRows_0 rfl ?_
  have s1 := w.1
  replace w := w.2
  obtain ⟨a2, ea2, w⟩ := w
  refine ex_getr (q := 4) dX2_swapRows_1 fl_X2_9 s1 ea2 ?_
  refine ex_astore_n (q := 5) (ls' := [.ref a_0, .ref a2]) dX2_swapRows_4 rfl ?_
  refine ex_aload_n (q := 6) (x := a_0) dX2_swapRows_5 rfl ?_
  refine ex_aload_n (q := 7) (x := a_0) dX2_swapRows_6 rfl ?_
  obtain ⟨a3, ea3, w⟩ := w
  refine ex_getr (q := 10) dX2_swapRows_7 fl_X2_13 s1 ea3 ?_
  refine ex_putr (q := 13) dX2_swapRows_10 fl_X2_9 (Or.inl rfl) s1 ?_
  refine ex_nmh (fun h4 eh4 => ?_)
  replace w := w h4 eh4
  refine ex_aload_n (q := 14) (x := a_0) dX2_swapRows_13 rfl ?_
  refine ex_aload_n (q := 15) (x := a2) dX2_swapRows_14 rfl ?_
  refine ex_putr (q := 18) dX2_swapRows_15 fl_X2_13 (Or.inl rfl) (by rw [eh4]; exact s1) ?_
  refine ex_nmh (fun h5 eh5 => ?_)
  replace w := w h5 eh5
  exact ex_return dX2_swapRows_18 w

theorem X2_swapRows_e {d bc bs : Nat} {h : AH} {Q : Option Value → AH → Prop} {a_0 : Nat} (w : ex_G mX2_swapRows d 0 [.ref a_0, .retAddr 0] [] h bc bs Q) : ex_S yX2_swapRows mX2_swapRows d [.ref a_0] h bc bs Q :=
  ex_enter (plainFor_of_name (by decide +kernel)) ⟨rfl, rfl⟩ rfl rfl (Nat.le_of_ble_eq_true rfl) (ex_pad 1 w)

def X2_swapRows_H (a_0 : Nat) (h : AH) : AH := (ah_sr (ah_sr h a_0 0 (some (Option.getD (ah_r h a_0 1) 0))) a_0 1 (some (Option.getD (ah_r h a_0 0) 0)))
def X2_swapRows_C (a_0 : Nat) (h : AH) : Prop := ah_o h a_0 2 ∧ ∃ a2, ah_r h a_0 0 = some a2 ∧ ∃ a3, ah_r h a_0 1 = some a3 ∧ True
theorem X2_swapRows_s {d bc bs : Nat} {h : AH} {Q : Option Value → AH → Prop} {a_0 : Nat} (c : X2_swapRows_C a_0 h) (w : Q (none) (X2_swapRows_H a_0 h)) : ex_S yX2_swapRows mX2_swapRows d [.ref a_0] h bc bs Q := by
  unfold  X2_swapRows_H at w
  unfold X2_swapRows_C at c
  refine X2_swapRows_e (X2_swapRows_0 ?_)
  obtain ⟨c1, c⟩ := c
  refine ⟨c1, ?_⟩
  obtain ⟨a2, ea2, c⟩ := c
  try simp only [ea2, Option.getD_some] at w
  refine ⟨a2, ea2, ?_⟩
  obtain ⟨a3, ea3, c⟩ := c
  try simp only [ea3, Option.getD_some] at w
  refine ⟨a3, ea3, ?_⟩
  intro h4 eh4
  subst eh4
  intro h5 eh5
  subst eh5
  exact w

set_option maxRecDepth 100000 in
theorem X3_assign_0 {d bc bs : Nat} {h : AH} {Q : Option Value → AH → Prop} {a_0 : Nat} {v_1 : Int32} {v_2 : Int32} (w : ah_o h a_0 3 ∧ ∃ a2, ah_r h a_0 0 = some a2 ∧ st0 h a2 v_1 ∧ ∀ h3, h3 = ah_si h a2 (Int32.toNatClampNeg v_1) v_2 → ∃ a5, ah_r h3 a_0 1 = some a5 ∧ st0 h3 a5 (v_2 >>> (2 &&& (31 : Int32))) ∧ ∀ h6, h6 = ah_si h3 a5 (Int32.toNatClampNeg (v_2 >>> (2 &&& (31 : Int32)))) 1 → ∃ a8, ah_r h6 a_0 2 = some a8 ∧ st0 h6 a8 (ah_f h6 a_0 3) ∧ ∀ h9, h9 = ah_si h6 a8 (Int32.toNatClampNeg (ah_f h6 a_0 3)) v_1 → ∀ h11, h11 = ah_sf h9 a_0 3 ((ah_f h9 a_0 3) + 1) → Q none h11) : ex_G mX3_assign d 0 [.ref a_0, .int v_1, .int v_2] [] h bc bs Q := by
  refine ex_aload_n (q := 1) (x := a_0) dX3_assign_0 rfl ?_
  have s1 := w.1
  replace w := w.2
  obtain ⟨a2, ea2, w⟩ := w
  refine ex_getr (q := 4) dX3_assign_1 fl_X3_9 s1 ea2 ?_
  refine ex_iload_n (q := 5) (x := v_1) dX3_assign_4 rfl ?_
  refine ex_iload_n (q := 6) (x := v_2) dX3_assign_5 rfl ?_
  have s4 := w.1
  replace w := w.2
  refine ex_iast (q := 7) dX3_assign_6 s4 ?_
  refine ex_nmh (fun h3 eh3 => ?_)
  replace w := w h3 eh3
  refine ex_aload_n (q := 8) (x := a_0) dX3_assign_7 rfl ?_
  obtain ⟨a5, ea5, w⟩ := w
  refine ex_getr (q := 11) dX3_assign_8 fl_X3_15 (by rw [eh3]; exact s1) ea5 ?_
  refine ex_iload_n (q := 12) (x := v_2) dX3_assign_11 rfl ?_
  refine ex_iconst (q := 13) (v := 2) dX3_assign_12 (by decide) ?_
  refine ex_ishr (q := 14) dX3_assign_13 ?_
  refine ex_iconst (q := 15) (v := 1) dX3_assign_14 (by decide) ?_
  have s7 := w.1
  replace w := w.2
  refine ex_iast (q := 16) dX3_assign_15 s7 ?_
  refine ex_nmh (fun h6 eh6 => ?_)
  replace w := w h6 eh6
  refine ex_aload_n (q := 17) (x := a_0) dX3_assign_16 rfl ?_
  obtain ⟨a8, ea8, w⟩ := w
  refine ex_getr (q := 20) dX3_assign_17 fl_X3_18 (by rw [eh6]; exact (by rw [eh3]; exact s1)) ea8 ?_
  refine ex_aload_n (q := 21) (x := a_0) dX3_assign_20 rfl ?_
  refine ex_getf (q := 24) dX3_assign_21 fl_X3_31 (by rw [eh6]; exact (by rw [eh3]; exact s1)) ?_
  refine ex_iload_n (q := 25) (x := v_1) dX3_assign_24 rfl ?_
  have s10 := w.1
  replace w := w.2
  refine ex_iast (q := 26) dX3_assign_25 s10 ?_
  refine ex_nmh (fun h9 eh9 => ?_)
  replace w := w h9 eh9
  refine ex_aload_n (q := 27) (x := a_0) dX3_assign_26 rfl ?_
  refine ex_dup (q := 28) dX3_assign_27 rfl ?_
  refine ex_getf (q := 31) dX3_assign_28 fl_X3_31 (by rw [eh9]; exact (by rw [eh6]; exact (by rw [eh3]; exact s1))) ?_
  refine ex_iconst (q := 32) (v := 1) dX3_assign_31 (by decide) ?_
  refine ex_iadd (q := 33) dX3_assign_32 ?_
  refine ex_putf (q := 36) dX3_assign_33 fl_X3_31 (Or.inl rfl) (by rw [eh9]; exact (by rw [eh6]; exact (by rw [eh3]; exact s1))) (Or.inl rfl) ?_
  refine ex_nmh (fun h11 eh11 => ?_)
  replace w := w h11 eh11
  exact ex_return dX3_assign_36 w

theorem X3_assign_e {d bc bs : Nat} {h : AH} {Q : Option Value → AH → Prop} {a_0 : Nat} {v_1 : Int32} {v_2 : Int32} (w : ex_G mX3_assign d 0 [.ref a_0, .int v_1, .int v_2] [] h bc bs Q) : ex_S yX3_assign mX3_assign d [.ref a_0, .int v_1, .int v_2] h bc bs Q :=
  ex_enter (plainFor_of_name (by decide +kernel)) ⟨rfl, rfl⟩ rfl rfl (Nat.le_of_ble_eq_true rfl) (ex_pad 0 w)

def X3_assign_H (a_0 : Nat) (v_1 : Int32) (v_2 : Int32) (h : AH) : AH := (ah_sf (ah_si (ah_si (ah_si h (Option.getD (ah_r h a_0 0) 0) (Int32.toNatClampNeg v_1) v_2) (Option.getD (ah_r (ah_si h (Option.getD (ah_r h a_0 0) 0) (Int32.toNatClampNeg v_1) v_2) a_0 1) 0) (Int32.toNatClampNeg (v_2 >>> (2 &&& (31 : Int32)))) 1) (Option.getD (ah_r (ah_si (ah_si h (Option.getD (ah_r h a_0 0) 0) (Int32.toNatClampNeg v_1) v_2) (Option.getD (ah_r (ah_si h (Option.getD (ah_r h a_0 0) 0) (Int32.toNatClampNeg v_1) v_2) a_0 1) 0) (Int32.toNatClampNeg (v_2 >>> (2 &&& (31 : Int32)))) 1) a_0 2) 0) (Int32.toNatClampNeg (ah_f (ah_si (ah_si h (Option.getD (ah_r h a_0 0) 0) (Int32.toNatClampNeg v_1) v_2) (Option.getD (ah_r (ah_si h (Option.getD (ah_r h a_0 0) 0) (Int32.toNatClampNeg v_1) v_2) a_0 1) 0) (Int32.toNatClampNeg (v_2 >>> (2 &&& (31 : Int32)))) 1) a_0 3)) v_1) a_0 3 ((ah_f (ah_si (ah_si (ah_si h (Option.getD (ah_r h a_0 0) 0) (Int32.toNatClampNeg v_1) v_2) (Option.getD (ah_r (ah_si h (Option.getD (ah_r h a_0 0) 0) (Int32.toNatClampNeg v_1) v_2) a_0 1) 0) (Int32.toNatClampNeg (v_2 >>> (2 &&& (31 : Int32)))) 1) (Option.getD (ah_r (ah_si (ah_si h (Option.getD (ah_r h a_0 0) 0) (Int32.toNatClampNeg v_1) v_2) (Option.getD (ah_r (ah_si h (Option.getD (ah_r h a_0 0) 0) (Int32.toNatClampNeg v_1) v_2) a_0 1) 0) (Int32.toNatClampNeg (v_2 >>> (2 &&& (31 : Int32)))) 1) a_0 2) 0) (Int32.toNatClampNeg (ah_f (ah_si (ah_si h (Option.getD (ah_r h a_0 0) 0) (Int32.toNatClampNeg v_1) v_2) (Option.getD (ah_r (ah_si h (Option.getD (ah_r h a_0 0) 0) (Int32.toNatClampNeg v_1) v_2) a_0 1) 0) (Int32.toNatClampNeg (v_2 >>> (2 &&& (31 : Int32)))) 1) a_0 3)) v_1) a_0 3) + 1))
def X3_assign_C (a_0 : Nat) (v_1 : Int32) (v_2 : Int32) (h : AH) : Prop := ah_o h a_0 3 ∧ ∃ a2, ah_r h a_0 0 = some a2 ∧ st0 h a2 v_1 ∧ ∃ a5, ah_r (ah_si h a2 (Int32.toNatClampNeg v_1) v_2) a_0 1 = some a5 ∧ st0 (ah_si h a2 (Int32.toNatClampNeg v_1) v_2) a5 (v_2 >>> (2 &&& (31 : Int32))) ∧ ∃ a8, ah_r (ah_si (ah_si h a2 (Int32.toNatClampNeg v_1) v_2) a5 (Int32.toNatClampNeg (v_2 >>> (2 &&& (31 : Int32)))) 1) a_0 2 = some a8 ∧ st0 (ah_si (ah_si h a2 (Int32.toNatClampNeg v_1) v_2) a5 (Int32.toNatClampNeg (v_2 >>> (2 &&& (31 : Int32)))) 1) a8 (ah_f (ah_si (ah_si h a2 (Int32.toNatClampNeg v_1) v_2) a5 (Int32.toNatClampNeg (v_2 >>> (2 &&& (31 : Int32)))) 1) a_0 3) ∧ True
theorem X3_assign_s {d bc bs : Nat} {h : AH} {Q : Option Value → AH → Prop} {a_0 : Nat} {v_1 : Int32} {v_2 : Int32} (c : X3_assign_C a_0 v_1 v_2 h) (w : Q (none) (X3_assign_H a_0 v_1 v_2 h)) : ex_S yX3_assign mX3_assign d [.ref a_0, .int v_1, .int v_2] h bc bs Q := by
  unfold  X3_assign_H at w
  unfold X3_assign_C at c
  refine X3_assign_e (X3_assign_0 ?_)
  obtain ⟨c1, c⟩ := c
  refine ⟨c1, ?_⟩
  obtain ⟨a2, ea2, c⟩ := c
  try simp only [ea2, Option.getD_some] at w
  refine ⟨a2, ea2, ?_⟩
  obtain ⟨c1, c⟩ := c
  refine ⟨c1, ?_⟩
  intro h3 eh3
  subst eh3
  obtain ⟨a5, ea5, c⟩ := c
  try simp only [ea5, Option.getD_some] at w
  refine ⟨a5, ea5, ?_⟩
  obtain ⟨c1, c⟩ := c
  refine ⟨c1, ?_⟩
  intro h6 eh6
  subst eh6
  obtain ⟨a8, ea8, c⟩ := c
  try simp only [ea8, Option.getD_some] at w
  refine ⟨a8, ea8, ?_⟩
  obtain ⟨c1, c⟩ := c
  refine ⟨c1, ?_⟩
  intro h9 eh9
  subst eh9
  intro h11 eh11
  subst eh11
  exact w

set_option maxRecDepth 100000 in
theorem X4_allPieces_0 {d bc bs : Nat} {h : AH} {Q : Option Value → AH → Prop} {a_0 : Nat} (w : ah_o h a_0 4 ∧ Q (some (.int ((ah_f h a_0 14) + (ah_f h a_0 11)))) h) : ex_G mX4_allPieces d 0 [.ref a_0] [] h bc bs Q := by
  refine ex_aload_n (q := 1) (x := a_0) dX4_allPieces_0 rfl ?_
  have s1 := w.1
  replace w := w.2
  refine ex_getf (q := 4) dX4_allPieces_1 fl_X4_46 s1 ?_
  refine ex_aload_n (q := 5) (x := a_0) dX4_allPieces_4 rfl ?_
  refine ex_getf (q := 8) dX4_allPieces_5 fl_X4_49 s1 ?_
  refine ex_iadd (q := 9) dX4_allPieces_8 ?_
  exact ex_ireturn dX4_allPieces_9 rfl (Or.inl rfl) w

theorem X4_allPieces_e {d bc bs : Nat} {h : AH} {Q : Option Value → AH → Prop} {a_0 : Nat} (w : ex_G mX4_allPieces d 0 [.ref a_0] [] h bc bs Q) : ex_S yX4_allPieces mX4_allPieces d [.ref a_0] h bc bs Q :=
  ex_enter (plainFor_of_name (by decide +kernel)) ⟨rfl, rfl⟩ rfl rfl (Nat.le_of_ble_eq_true rfl) (ex_pad 0 w)

def X4_allPieces_V (a_0 : Nat) (h : AH) : Int32 := (ah_f h a_0 14) + (ah_f h a_0 11)
def X4_allPieces_C (a_0 : Nat) (h : AH) : Prop := ah_o h a_0 4 ∧ True
theorem X4_allPieces_s {d bc bs : Nat} {h : AH} {Q : Option Value → AH → Prop} {a_0 : Nat} (c : X4_allPieces_C a_0 h) (w : Q (some (.int (X4_allPieces_V a_0 h))) h) : ex_S yX4_allPieces mX4_allPieces d [.ref a_0] h bc bs Q := by
  unfold X4_allPieces_V at w
  unfold X4_allPieces_C at c
  refine X4_allPieces_e (X4_allPieces_0 ?_)
  obtain ⟨c1, c⟩ := c
  refine ⟨c1, ?_⟩
  exact w

set_option maxRecDepth 100000 in
theorem X4_hasEnd_0 {d bc bs : Nat} {h : AH} {Q : Option Value → AH → Prop} {a_0 : Nat} {v_1 : Int32} (w : ((v_1 < 0 → Q (some (.int 0)) h) ∧ (¬ v_1 < 0 → ah_o h a_0 4 ∧ (((4 * (ah_f h a_0 10)) ≤ v_1 → Q (some (.int 0)) h) ∧ (¬ (4 * (ah_f h a_0 10)) ≤ v_1 → Q (some (.int 1)) h))))) : ex_G mX4_hasEnd d 0 [.ref a_0, .int v_1] [] h bc bs Q := by
  refine ex_iload_n (q := 1) (x := v_1) dX4_hasEnd_0 rfl ?_
  refine ex_if_lt (tgt := 18) (q := 4) dX4_hasEnd_1 (fun c1 => ?_) (fun c1 => ?_)
  · replace w := w.1 c1
    refine ex_iconst (q := 19) (v := 0) dX4_hasEnd_18 (by decide) ?_
    exact ex_ireturn dX4_hasEnd_19 rfl (Or.inr ⟨rfl, Or.inl rfl⟩) w
  · replace w := w.2 c1
    refine ex_iload_n (q := 5) (x := v_1) dX4_hasEnd_4 rfl ?_
    refine ex_iconst (q := 6) (v := 4) dX4_hasEnd_5 (by decide) ?_
    refine ex_aload_n (q := 7) (x := a_0) dX4_hasEnd_6 rfl ?_
    have s2 := w.1
    replace w := w.2
    refine ex_getf (q := 10) dX4_hasEnd_7 fl_X4_42 s2 ?_
    refine ex_imul (q := 11) dX4_hasEnd_10 ?_
    refine ex_icmp_ge (tgt := 18) (q := 14) dX4_hasEnd_11 (fun c3 => ?_) (fun c3 => ?_)
    · replace w := w.1 c3
      refine ex_iconst (q := 19) (v := 0) dX4_hasEnd_18 (by decide) ?_
      exact ex_ireturn dX4_hasEnd_19 rfl (Or.inr ⟨rfl, Or.inl rfl⟩) w
    · replace w := w.2 c3
      refine ex_iconst (q := 15) (v := 1) dX4_hasEnd_14 (by decide) ?_
      refine ex_goto (tgt := 19) dX4_hasEnd_15 ?_
      exact ex_ireturn dX4_hasEnd_19 rfl (Or.inr ⟨rfl, Or.inr rfl⟩) w

theorem X4_hasEnd_e {d bc bs : Nat} {h : AH} {Q : Option Value → AH → Prop} {a_0 : Nat} {v_1 : Int32} (w : ex_G mX4_hasEnd d 0 [.ref a_0, .int v_1] [] h bc bs Q) : ex_S yX4_hasEnd mX4_hasEnd d [.ref a_0, .int v_1] h bc bs Q :=
  ex_enter (plainFor_of_name (by decide +kernel)) ⟨rfl, rfl⟩ rfl rfl (Nat.le_of_ble_eq_true rfl) (ex_pad 0 w)

def X4_hasEnd_V (a_0 : Nat) (v_1 : Int32) (h : AH) : Int32 := (if v_1 < 0 then 0 else (if (4 * (ah_f h a_0 10)) ≤ v_1 then 0 else 1))
def X4_hasEnd_C (a_0 : Nat) (v_1 : Int32) (h : AH) : Prop := (v_1 < 0 → True) ∧ (¬ v_1 < 0 → ah_o h a_0 4 ∧ True)
theorem X4_hasEnd_s {d bc bs : Nat} {h : AH} {Q : Option Value → AH → Prop} {a_0 : Nat} {v_1 : Int32} (c : X4_hasEnd_C a_0 v_1 h) (w : Q (some (.int (X4_hasEnd_V a_0 v_1 h))) h) : ex_S yX4_hasEnd mX4_hasEnd d [.ref a_0, .int v_1] h bc bs Q := by
  unfold X4_hasEnd_V at w
  unfold X4_hasEnd_C at c
  refine X4_hasEnd_e (X4_hasEnd_0 ?_)
  refine ⟨fun k => ?_, fun k => ?_⟩
  · rw [if_pos k] at w
    replace c := c.1 k
    exact w
  · rw [if_neg k] at w
    replace c := c.2 k
    obtain ⟨c1, c⟩ := c
    refine ⟨c1, ?_⟩
    refine ⟨fun k => ?_, fun k => ?_⟩
    · rw [if_pos k] at w
      exact w
    · rw [if_neg k] at w
      exact w

set_option maxRecDepth 100000 in
theorem X5_areThere_0 {d bc bs : Nat} {h : AH} {Q : Option Value → AH → Prop} {v_0 : Int32} {v_1 : Int32} (w : ((v_0 < 0 → Q (some (.int 0)) h) ∧ (¬ v_0 < 0 → ((30 < v_1 → Q (some (.int 1)) h) ∧ (¬ 30 < v_1 → ((¬ (v_0 >>> (v_1 &&& (31 : Int32))) = 0 → Q (some (.int 0)) h) ∧ ((v_0 >>> (v_1 &&& (31 : Int32))) = 0 → Q (some (.int 1)) h))))))) : ex_G mX5_areThere d 0 [.int v_0, .int v_1] [] h bc bs Q := by
  refine ex_iload_n (q := 1) (x := v_0) dX5_areThere_0 rfl ?_
  refine ex_if_lt (tgt := 20) (q := 4) dX5_areThere_1 (fun c1 => ?_) (fun c1 => ?_)
  · replace w := w.1 c1
    refine ex_iconst (q := 21) (v := 0) dX5_areThere_20 (by decide) ?_
    exact ex_ireturn dX5_areThere_21 rfl (Or.inr ⟨rfl, Or.inl rfl⟩) w
  · replace w := w.2 c1
    refine ex_iload_n (q := 5) (x := v_1) dX5_areThere_4 rfl ?_
    refine ex_bipush (q := 7) (v := 30) dX5_areThere_5 (by decide) ?_
    refine ex_icmp_gt (tgt := 16) (q := 10) dX5_areThere_7 (fun c2 => ?_) (fun c2 => ?_)
    · replace w := w.1 c2
      refine ex_iconst (q := 17) (v := 1) dX5_areThere_16 (by decide) ?_
      refine ex_goto (tgt := 21) dX5_areThere_17 ?_
      exact ex_ireturn dX5_areThere_21 rfl (Or.inr ⟨rfl, Or.inr rfl⟩) w
    · replace w := w.2 c2
      refine ex_iload_n (q := 11) (x := v_0) dX5_areThere_10 rfl ?_
      refine ex_iload_n (q := 12) (x := v_1) dX5_areThere_11 rfl ?_
      refine ex_ishr (q := 13) dX5_areThere_12 ?_
      refine ex_if_ne (tgt := 20) (q := 16) dX5_areThere_13 (fun c3 => ?_) (fun c3 => ?_)
      · replace w := w.1 c3
        refine ex_iconst (q := 21) (v := 0) dX5_areThere_20 (by decide) ?_
        exact ex_ireturn dX5_areThere_21 rfl (Or.inr ⟨rfl, Or.inl rfl⟩) w
      · replace w := w.2 c3
        refine ex_iconst (q := 17) (v := 1) dX5_areThere_16 (by decide) ?_
        refine ex_goto (tgt := 21) dX5_areThere_17 ?_
        exact ex_ireturn dX5_areThere_21 rfl (Or.inr ⟨rfl, Or.inr rfl⟩) w

theorem X5_areThere_e {d bc bs : Nat} {h : AH} {Q : Option Value → AH → Prop} {v_0 : Int32} {v_1 : Int32} (w : ex_G mX5_areThere d 0 [.int v_0, .int v_1] [] h bc bs Q) : ex_S yX5_areThere mX5_areThere d [.int v_0, .int v_1] h bc bs Q :=
  ex_enter (plainFor_of_name (by decide +kernel)) ⟨rfl, rfl⟩ rfl rfl (Nat.le_of_ble_eq_true rfl) (ex_pad 0 w)

def X5_areThere_V (v_0 : Int32) (v_1 : Int32) (h : AH) : Int32 := (if v_0 < 0 then 0 else (if 30 < v_1 then 1 else (if (v_0 >>> (v_1 &&& (31 : Int32))) = 0 then 1 else 0)))
theorem X5_areThere_s {d bc bs : Nat} {h : AH} {Q : Option Value → AH → Prop} {v_0 : Int32} {v_1 : Int32} (w : Q (some (.int (X5_areThere_V v_0 v_1 h))) h) : ex_S yX5_areThere mX5_areThere d [.int v_0, .int v_1] h bc bs Q := by
  unfold X5_areThere_V at w
  refine X5_areThere_e (X5_areThere_0 ?_)
  refine ⟨fun k => ?_, fun k => ?_⟩
  · rw [if_pos k] at w
    exact w
  · rw [if_neg k] at w
    refine ⟨fun k => ?_, fun k => ?_⟩
    · rw [if_pos k] at w
      exact w
    · rw [if_neg k] at w
      refine ⟨fun k => ?_, fun k => ?_⟩
      · rw [if_neg k] at w
        exact w
      · rw [if_pos k] at w
        exact w

set_option maxRecDepth 100000 in
theorem X5_canBeUndone_0 {d bc bs : Nat} {h : AH} {Q : Option Value → AH → Prop} {a_0 : Nat} (w : ah_o h a_0 5 ∧ (((ah_f h a_0 0) = 4 → Q (some (.int 0)) h) ∧ (¬ (ah_f h a_0 0) = 4 → Q (some (.int 1)) h))) : ex_G mX5_canBeUndone d 0 [.ref a_0] [] h bc bs Q := by
  refine ex_aload_n (q := 1) (x := a_0) dX5_canBeUndone_0 rfl ?_
  have s1 := w.1
  replace w := w.2
  refine ex_getf (q := 4) dX5_canBeUndone_1 fl_X5_9 s1 ?_
  refine ex_iconst (q := 5) (v := 4) dX5_canBeUndone_4 (by decide) ?_
  refine ex_icmp_eq (tgt := 12) (q := 8) dX5_canBeUndone_5 (fun c2 => ?_) (fun c2 => ?_)
  · replace w := w.1 c2
    refine ex_iconst (q := 13) (v := 0) dX5_canBeUndone_12 (by decide) ?_
    exact ex_ireturn dX5_canBeUndone_13 rfl (Or.inr ⟨rfl, Or.inl rfl⟩) w
  · replace w := w.2 c2
    refine ex_iconst (q := 9) (v := 1) dX5_canBeUndone_8 (by decide) ?_
    refine ex_goto (tgt := 13) dX5_canBeUndone_9 ?_
    exact ex_ireturn dX5_canBeUndone_13 rfl (Or.inr ⟨rfl, Or.inr rfl⟩) w

theorem X5_canBeUndone_e {d bc bs : Nat} {h : AH} {Q : Option Value → AH → Prop} {a_0 : Nat} (w : ex_G mX5_canBeUndone d 0 [.ref a_0] [] h bc bs Q) : ex_S yX5_canBeUndone mX5_canBeUndone d [.ref a_0] h bc bs Q :=
  ex_enter (plainFor_of_name (by decide +kernel)) ⟨rfl, rfl⟩ rfl rfl (Nat.le_of_ble_eq_true rfl) (ex_pad 0 w)

def X5_canBeUndone_V (a_0 : Nat) (h : AH) : Int32 := (if (ah_f h a_0 0) = 4 then 0 else 1)
def X5_canBeUndone_C (a_0 : Nat) (h : AH) : Prop := ah_o h a_0 5 ∧ True
theorem X5_canBeUndone_s {d bc bs : Nat} {h : AH} {Q : Option Value → AH → Prop} {a_0 : Nat} (c : X5_canBeUndone_C a_0 h) (w : Q (some (.int (X5_canBeUndone_V a_0 h))) h) : ex_S yX5_canBeUndone mX5_canBeUndone d [.ref a_0] h bc bs Q := by
  unfold X5_canBeUndone_V at w
  unfold X5_canBeUndone_C at c
  refine X5_canBeUndone_e (X5_canBeUndone_0 ?_)
  obtain ⟨c1, c⟩ := c
  refine ⟨c1, ?_⟩
  refine ⟨fun k => ?_, fun k => ?_⟩
  · rw [if_pos k] at w
    exact w
  · rw [if_neg k] at w
    exact w

set_option maxRecDepth 100000 in
theorem X5_isA_0 {d bc bs : Nat} {h : AH} {Q : Option Value → AH → Prop} {a_0 : Nat} {v_1 : Int32} (w : ah_o h a_0 5 ∧ (((ah_f h a_0 0) = v_1 → Q (some (.int 1)) h) ∧ (¬ (ah_f h a_0 0) = v_1 → ld0 h 10000002 (ah_f h a_0 0) ∧ ((¬ (ah_i h 10000002 (Int32.toNatClampNeg (ah_f h a_0 0))) = v_1 → Q (some (.int 0)) h) ∧ ((ah_i h 10000002 (Int32.toNatClampNeg (ah_f h a_0 0))) = v_1 → Q (some (.int 1)) h))))) : ex_G mX5_isA d 0 [.ref a_0, .int v_1] [] h bc bs Q := by
  refine ex_aload_n (q := 1) (x := a_0) dX5_isA_0 rfl ?_
  have s1 := w.1
  replace w := w.2
  refine ex_getf (q := 4) dX5_isA_1 fl_X5_9 s1 ?_
  refine ex_iload_n (q := 5) (x := v_1) dX5_isA_4 rfl ?_
  refine ex_icmp_eq (tgt := 20) (q := 8) dX5_isA_5 (fun c2 => ?_) (fun c2 => ?_)
  · replace w := w.1 c2
    refine ex_iconst (q := 21) (v := 1) dX5_isA_20 (by decide) ?_
    refine ex_goto (tgt := 25) dX5_isA_21 ?_
    exact ex_ireturn dX5_isA_25 rfl (Or.inr ⟨rfl, Or.inr rfl⟩) w
  · replace w := w.2 c2
    refine ex_gets2 (q := 11) dX5_isA_8 wd_1043 ?_
    refine ex_aload_n (q := 12) (x := a_0) dX5_isA_11 rfl ?_
    refine ex_getf (q := 15) dX5_isA_12 fl_X5_9 s1 ?_
    have s3 := w.1
    replace w := w.2
    refine ex_iald (q := 16) dX5_isA_15 s3 ?_
    refine ex_iload_n (q := 17) (x := v_1) dX5_isA_16 rfl ?_
    refine ex_icmp_ne (tgt := 24) (q := 20) dX5_isA_17 (fun c4 => ?_) (fun c4 => ?_)
    · replace w := w.1 c4
      refine ex_iconst (q := 25) (v := 0) dX5_isA_24 (by decide) ?_
      exact ex_ireturn dX5_isA_25 rfl (Or.inr ⟨rfl, Or.inl rfl⟩) w
    · replace w := w.2 c4
      refine ex_iconst (q := 21) (v := 1) dX5_isA_20 (by decide) ?_
      refine ex_goto (tgt := 25) dX5_isA_21 ?_
      exact ex_ireturn dX5_isA_25 rfl (Or.inr ⟨rfl, Or.inr rfl⟩) w

theorem X5_isA_e {d bc bs : Nat} {h : AH} {Q : Option Value → AH → Prop} {a_0 : Nat} {v_1 : Int32} (w : ex_G mX5_isA d 0 [.ref a_0, .int v_1] [] h bc bs Q) : ex_S yX5_isA mX5_isA d [.ref a_0, .int v_1] h bc bs Q :=
  ex_enter (plainFor_of_name (by decide +kernel)) ⟨rfl, rfl⟩ rfl rfl (Nat.le_of_ble_eq_true rfl) (ex_pad 0 w)

def X5_isA_V (a_0 : Nat) (v_1 : Int32) (h : AH) : Int32 := (if (ah_f h a_0 0) = v_1 then 1 else (if (ah_i h 10000002 (Int32.toNatClampNeg (ah_f h a_0 0))) = v_1 then 1 else 0))
def X5_isA_C (a_0 : Nat) (v_1 : Int32) (h : AH) : Prop := ah_o h a_0 5 ∧ ((ah_f h a_0 0) = v_1 → True) ∧ (¬ (ah_f h a_0 0) = v_1 → ld0 h 10000002 (ah_f h a_0 0) ∧ True)
theorem X5_isA_s {d bc bs : Nat} {h : AH} {Q : Option Value → AH → Prop} {a_0 : Nat} {v_1 : Int32} (c : X5_isA_C a_0 v_1 h) (w : Q (some (.int (X5_isA_V a_0 v_1 h))) h) : ex_S yX5_isA mX5_isA d [.ref a_0, .int v_1] h bc bs Q := by
  unfold X5_isA_V at w
  unfold X5_isA_C at c
  refine X5_isA_e (X5_isA_0 ?_)
  obtain ⟨c1, c⟩ := c
  refine ⟨c1, ?_⟩
  refine ⟨fun k => ?_, fun k => ?_⟩
  · rw [if_pos k] at w
    replace c := c.1 k
    exact w
  · rw [if_neg k] at w
    replace c := c.2 k
    obtain ⟨c1, c⟩ := c
    refine ⟨c1, ?_⟩
    refine ⟨fun k => ?_, fun k => ?_⟩
    · rw [if_neg k] at w
      exact w
    · rw [if_pos k] at w
      exact w

set_option maxRecDepth 100000 in
theorem X5_isIn_0 {d bc bs : Nat} {h : AH} {Q : Option Value → AH → Prop} {v_0 : Int32} {v_1 : Int32} (w : ∀ x1, x1 = v_1 >>> (2 &&& (31 : Int32)) → ((x1 < 0 → Q (some (.int 0)) h) ∧ (¬ x1 < 0 → ((30 < x1 → Q (some (.int 0)) h) ∧ (¬ 30 < x1 → ((¬ ((v_0 >>> (x1 &&& (31 : Int32))) &&& 1) = 1 → Q (some (.int 0)) h) ∧ (((v_0 >>> (x1 &&& (31 : Int32))) &&& 1) = 1 → Q (some (.int 1)) h))))))) : ex_G mX5_isIn d 0 [.int v_0, .int v_1, .retAddr 0] [] h bc bs Q := by
  refine ex_iload_n (q := 1) (x := v_1) dX5_isIn_0 rfl ?_
  refine ex_iconst (q := 2) (v := 2) dX5_isIn_1 (by decide) ?_
  refine ex_ishr (q := 3) dX5_isIn_2 ?_
  refine ex_nmi (fun x1 ex1 => ?_)
  replace w := w x1 ex1
  refine ex_istore_n (q := 4) (ls' := [.int v_0, .int v_1, .int x1]) dX5_isIn_3 rfl ?_
  refine ex_iload_n (q := 5) (x := x1) dX5_isIn_4 rfl ?_
  refine ex_if_lt (tgt := 27) (q := 8) dX5_isIn_5 (fun c2 => ?_) (fun c2 => ?_)
  · replace w := w.1 c2
    refine ex_iconst (q := 28) (v := 0) dX5_isIn_27 (by decide) ?_
    exact ex_ireturn dX5_isIn_28 rfl (Or.inr ⟨rfl, Or.inl rfl⟩) w
  · replace w := w.2 c2
    refine ex_iload_n (q := 9) (x := x1) dX5_isIn_8 rfl ?_
    refine ex_bipush (q := 11) (v := 30) dX5_isIn_9 (by decide) ?_
    refine ex_icmp_gt (tgt := 27) (q := 14) dX5_isIn_11 (fun c3 => ?_) (fun c3 => ?_)
    · replace w := w.1 c3
      refine ex_iconst (q := 28) (v := 0) dX5_isIn_27 (by decide) ?_
      exact ex_ireturn dX5_isIn_28 rfl (Or.inr ⟨rfl, Or.inl rfl⟩) w
    · replace w := w.2 c3
      refine ex_iload_n (q := 15) (x := v_0) dX5_isIn_14 rfl ?_
      refine ex_iload_n (q := 16) (x := x1) dX5_isIn_15 rfl ?_
      refine ex_ishr (q := 17) dX5_isIn_16 ?_
      refine ex_iconst (q := 18) (v := 1) dX5_isIn_17 (by decide) ?_
      refine ex_iand (q := 19) dX5_isIn_18 ?_
      refine ex_iconst (q := 20) (v := 1) dX5_isIn_19 (by decide) ?_
      refine ex_icmp_ne (tgt := 27) (q := 23) dX5_isIn_20 (fun c4 => ?_) (fun c4 => ?_)
      · replace w := w.1 c4
        refine ex_iconst (q := 28) (v := 0) dX5_isIn_27 (by decide) ?_
        exact ex_ireturn dX5_isIn_28 rfl (Or.inr ⟨rfl, Or.inl rfl⟩) w
      · replace w := w.2 c4
        refine ex_iconst (q := 24) (v := 1) dX5_isIn_23 (by decide) ?_
        refine ex_goto (tgt := 28) dX5_isIn_24 ?_
        exact ex_ireturn dX5_isIn_28 rfl (Or.inr ⟨rfl, Or.inr rfl⟩) w

theorem X5_isIn_e {d bc bs : Nat} {h : AH} {Q : Option Value → AH → Prop} {v_0 : Int32} {v_1 : Int32} (w : ex_G mX5_isIn d 0 [.int v_0, .int v_1, .retAddr 0] [] h bc bs Q) : ex_S yX5_isIn mX5_isIn d [.int v_0, .int v_1] h bc bs Q :=
  ex_enter (plainFor_of_name (by decide +kernel)) ⟨rfl, rfl⟩ rfl rfl (Nat.le_of_ble_eq_true rfl) (ex_pad 1 w)

def X5_isIn_V (v_0 : Int32) (v_1 : Int32) (h : AH) : Int32 := (if (v_1 >>> (2 &&& (31 : Int32))) < 0 then 0 else (if 30 < (v_1 >>> (2 &&& (31 : Int32))) then 0 else (if ((v_0 >>> ((v_1 >>> (2 &&& (31 : Int32))) &&& (31 : Int32))) &&& 1) = 1 then 1 else 0)))
theorem X5_isIn_s {d bc bs : Nat} {h : AH} {Q : Option Value → AH → Prop} {v_0 : Int32} {v_1 : Int32} (w : Q (some (.int (X5_isIn_V v_0 v_1 h))) h) : ex_S yX5_isIn mX5_isIn d [.int v_0, .int v_1] h bc bs Q := by
  unfold X5_isIn_V at w
  refine X5_isIn_e (X5_isIn_0 ?_)
  intro x1 ex1
  subst ex1
  refine ⟨fun k => ?_, fun k => ?_⟩
  · rw [if_pos k] at w
    exact w
  · rw [if_neg k] at w
    refine ⟨fun k => ?_, fun k => ?_⟩
    · rw [if_pos k] at w
      exact w
    · rw [if_neg k] at w
      refine ⟨fun k => ?_, fun k => ?_⟩
      · rw [if_neg k] at w
        exact w
      · rw [if_pos k] at w
        exact w

set_option maxRecDepth 100000 in
theorem X5_isOver_0 {d bc bs : Nat} {h : AH} {Q : Option Value → AH → Prop} {a_0 : Nat} {v_1 : Int32} (w : ah_o h a_0 4 ∧ ∃ a2, ah_r h a_0 0 = some a2 ∧ ld0 h a2 v_1 ∧ ((¬ ((v_1 &&& (ah_i h a2 (Int32.toNatClampNeg v_1))) &&& 1) = 1 → Q (some (.int 0)) h) ∧ (((v_1 &&& (ah_i h a2 (Int32.toNatClampNeg v_1))) &&& 1) = 1 → Q (some (.int 1)) h))) : ex_G mX5_isOver d 0 [.ref a_0, .int v_1] [] h bc bs Q := by
  refine ex_iload_n (q := 1) (x := v_1) dX5_isOver_0 rfl ?_
  refine ex_aload_n (q := 2) (x := a_0) dX5_isOver_1 rfl ?_
  have s1 := w.1
  replace w := w.2
  obtain ⟨a2, ea2, w⟩ := w
  refine ex_getr (q := 5) dX5_isOver_2 fl_X5_104 s1 ea2 ?_
  refine ex_iload_n (q := 6) (x := v_1) dX5_isOver_5 rfl ?_
  have s3 := w.1
  replace w := w.2
  refine ex_iald (q := 7) dX5_isOver_6 s3 ?_
  refine ex_iand (q := 8) dX5_isOver_7 ?_
  refine ex_iconst (q := 9) (v := 1) dX5_isOver_8 (by decide) ?_
  refine ex_iand (q := 10) dX5_isOver_9 ?_
  refine ex_iconst (q := 11) (v := 1) dX5_isOver_10 (by decide) ?_
  refine ex_icmp_ne (tgt := 18) (q := 14) dX5_isOver_11 (fun c4 => ?_) (fun c4 => ?_)
  · replace w := w.1 c4
    refine ex_iconst (q := 19) (v := 0) dX5_isOver_18 (by decide) ?_
    exact ex_ireturn dX5_isOver_19 rfl (Or.inr ⟨rfl, Or.inl rfl⟩) w
  · replace w := w.2 c4
    refine ex_iconst (q := 15) (v := 1) dX5_isOver_14 (by decide) ?_
    refine ex_goto (tgt := 19) dX5_isOver_15 ?_
    exact ex_ireturn dX5_isOver_19 rfl (Or.inr ⟨rfl, Or.inr rfl⟩) w

theorem X5_isOver_e {d bc bs : Nat} {h : AH} {Q : Option Value → AH → Prop} {a_0 : Nat} {v_1 : Int32} (w : ex_G mX5_isOver d 0 [.ref a_0, .int v_1] [] h bc bs Q) : ex_S yX5_isOver mX5_isOver d [.ref a_0, .int v_1] h bc bs Q :=
  ex_enter (plainFor_of_name (by decide +kernel)) ⟨rfl, rfl⟩ rfl rfl (Nat.le_of_ble_eq_true rfl) (ex_pad 0 w)

def X5_isOver_V (a_0 : Nat) (v_1 : Int32) (h : AH) : Int32 := (if ((v_1 &&& (ah_i h (Option.getD (ah_r h a_0 0) 0) (Int32.toNatClampNeg v_1))) &&& 1) = 1 then 1 else 0)
def X5_isOver_C (a_0 : Nat) (v_1 : Int32) (h : AH) : Prop := ah_o h a_0 4 ∧ ∃ a2, ah_r h a_0 0 = some a2 ∧ ld0 h a2 v_1 ∧ True
theorem X5_isOver_s {d bc bs : Nat} {h : AH} {Q : Option Value → AH → Prop} {a_0 : Nat} {v_1 : Int32} (c : X5_isOver_C a_0 v_1 h) (w : Q (some (.int (X5_isOver_V a_0 v_1 h))) h) : ex_S yX5_isOver mX5_isOver d [.ref a_0, .int v_1] h bc bs Q := by
  unfold X5_isOver_V at w
  unfold X5_isOver_C at c
  refine X5_isOver_e (X5_isOver_0 ?_)
  obtain ⟨c1, c⟩ := c
  refine ⟨c1, ?_⟩
  obtain ⟨a2, ea2, c⟩ := c
  try simp only [ea2, Option.getD_some] at w
  refine ⟨a2, ea2, ?_⟩
  obtain ⟨c1, c⟩ := c
  refine ⟨c1, ?_⟩
  refine ⟨fun k => ?_, fun k => ?_⟩
  · rw [if_neg k] at w
    exact w
  · rw [if_pos k] at w
    exact w

set_option maxRecDepth 100000 in
theorem X5_loopsAnswer_0 {d bc bs : Nat} {h : AH} {Q : Option Value → AH → Prop} {a_0 : Nat} (w : ah_o h a_0 7 ∧ (((ah_f h a_0 3) ≤ 9 → Q (some (.int 1)) h) ∧ (¬ (ah_f h a_0 3) ≤ 9 → Q (some (.int (-18))) h))) : ex_G mX5_loopsAnswer d 0 [.ref a_0] [] h bc bs Q := by
  refine ex_aload_n (q := 1) (x := a_0) dX5_loopsAnswer_0 rfl ?_
  have s1 := w.1
  replace w := w.2
  refine ex_getf (q := 4) dX5_loopsAnswer_1 fl_X5_80 s1 ?_
  refine ex_bipush (q := 6) (v := 9) dX5_loopsAnswer_4 (by decide) ?_
  refine ex_icmp_le (tgt := 14) (q := 9) dX5_loopsAnswer_6 (fun c2 => ?_) (fun c2 => ?_)
  · replace w := w.1 c2
    refine ex_iconst (q := 15) (v := 1) dX5_loopsAnswer_14 (by decide) ?_
    exact ex_ireturn dX5_loopsAnswer_15 rfl (Or.inl rfl) w
  · replace w := w.2 c2
    refine ex_bipush (q := 11) (v := (-18)) dX5_loopsAnswer_9 (by decide) ?_
    refine ex_goto (tgt := 15) dX5_loopsAnswer_11 ?_
    exact ex_ireturn dX5_loopsAnswer_15 rfl (Or.inl rfl) w

theorem X5_loopsAnswer_e {d bc bs : Nat} {h : AH} {Q : Option Value → AH → Prop} {a_0 : Nat} (w : ex_G mX5_loopsAnswer d 0 [.ref a_0] [] h bc bs Q) : ex_S yX5_loopsAnswer mX5_loopsAnswer d [.ref a_0] h bc bs Q :=
  ex_enter (plainFor_of_name (by decide +kernel)) ⟨rfl, rfl⟩ rfl rfl (Nat.le_of_ble_eq_true rfl) (ex_pad 0 w)

def X5_loopsAnswer_V (a_0 : Nat) (h : AH) : Int32 := (if (ah_f h a_0 3) ≤ 9 then 1 else (-18))
def X5_loopsAnswer_C (a_0 : Nat) (h : AH) : Prop := ah_o h a_0 7 ∧ True
theorem X5_loopsAnswer_s {d bc bs : Nat} {h : AH} {Q : Option Value → AH → Prop} {a_0 : Nat} (c : X5_loopsAnswer_C a_0 h) (w : Q (some (.int (X5_loopsAnswer_V a_0 h))) h) : ex_S yX5_loopsAnswer mX5_loopsAnswer d [.ref a_0] h bc bs Q := by
  unfold X5_loopsAnswer_V at w
  unfold X5_loopsAnswer_C at c
  refine X5_loopsAnswer_e (X5_loopsAnswer_0 ?_)
  obtain ⟨c1, c⟩ := c
  refine ⟨c1, ?_⟩
  refine ⟨fun k => ?_, fun k => ?_⟩
  · rw [if_pos k] at w
    exact w
  · rw [if_neg k] at w
    exact w

set_option maxRecDepth 100000 in
theorem X6_empty_0 {d bc bs : Nat} {h : AH} {Q : Option Value → AH → Prop} {a_0 : Nat} (w : ah_o h a_0 6 ∧ ∀ h2, h2 = ah_sf h a_0 1 0 → Q none h2) : ex_G mX6_empty d 0 [.ref a_0] [] h bc bs Q := by
  refine ex_aload_n (q := 1) (x := a_0) dX6_empty_0 rfl ?_
  refine ex_iconst (q := 2) (v := 0) dX6_empty_1 (by decide) ?_
  have s1 := w.1
  replace w := w.2
  refine ex_putf (q := 5) dX6_empty_2 fl_X6_19 (Or.inl rfl) s1 (Or.inl rfl) ?_
  refine ex_nmh (fun h2 eh2 => ?_)
  replace w := w h2 eh2
  exact ex_return dX6_empty_5 w

theorem X6_empty_e {d bc bs : Nat} {h : AH} {Q : Option Value → AH → Prop} {a_0 : Nat} (w : ex_G mX6_empty d 0 [.ref a_0] [] h bc bs Q) : ex_S yX6_empty mX6_empty d [.ref a_0] h bc bs Q :=
  ex_enter (plainFor_of_name (by decide +kernel)) ⟨rfl, rfl⟩ rfl rfl (Nat.le_of_ble_eq_true rfl) (ex_pad 0 w)

def X6_empty_H (a_0 : Nat) (h : AH) : AH := (ah_sf h a_0 1 0)
def X6_empty_C (a_0 : Nat) (h : AH) : Prop := ah_o h a_0 6 ∧ True
theorem X6_empty_s {d bc bs : Nat} {h : AH} {Q : Option Value → AH → Prop} {a_0 : Nat} (c : X6_empty_C a_0 h) (w : Q (none) (X6_empty_H a_0 h)) : ex_S yX6_empty mX6_empty d [.ref a_0] h bc bs Q := by
  unfold  X6_empty_H at w
  unfold X6_empty_C at c
  refine X6_empty_e (X6_empty_0 ?_)
  obtain ⟨c1, c⟩ := c
  refine ⟨c1, ?_⟩
  intro h2 eh2
  subst eh2
  exact w

set_option maxRecDepth 100000 in
theorem X6_has_0 {d bc bs : Nat} {h : AH} {Q : Option Value → AH → Prop} {a_0 : Nat} {v_1 : Int32} (w : ((v_1 < 0 → Q (some (.int 0)) h) ∧ (¬ v_1 < 0 → ah_o h a_0 6 ∧ (((ah_f h a_0 1) ≤ v_1 → Q (some (.int 0)) h) ∧ (¬ (ah_f h a_0 1) ≤ v_1 → Q (some (.int 1)) h))))) : ex_G mX6_has d 0 [.ref a_0, .int v_1] [] h bc bs Q := by
  refine ex_iload_n (q := 1) (x := v_1) dX6_has_0 rfl ?_
  refine ex_if_lt (tgt := 16) (q := 4) dX6_has_1 (fun c1 => ?_) (fun c1 => ?_)
  · replace w := w.1 c1
    refine ex_iconst (q := 17) (v := 0) dX6_has_16 (by decide) ?_
    exact ex_ireturn dX6_has_17 rfl (Or.inr ⟨rfl, Or.inl rfl⟩) w
  · replace w := w.2 c1
    refine ex_iload_n (q := 5) (x := v_1) dX6_has_4 rfl ?_
    refine ex_aload_n (q := 6) (x := a_0) dX6_has_5 rfl ?_
    have s2 := w.1
    replace w := w.2
    refine ex_getf (q := 9) dX6_has_6 fl_X6_19 s2 ?_
    refine ex_icmp_ge (tgt := 16) (q := 12) dX6_has_9 (fun c3 => ?_) (fun c3 => ?_)
    · replace w := w.1 c3
      refine ex_iconst (q := 17) (v := 0) dX6_has_16 (by decide) ?_
      exact ex_ireturn dX6_has_17 rfl (Or.inr ⟨rfl, Or.inl rfl⟩) w
    · replace w := w.2 c3
      refine ex_iconst (q := 13) (v := 1) dX6_has_12 (by decide) ?_
      refine ex_goto (tgt := 17) dX6_has_13 ?_
      exact ex_ireturn dX6_has_17 rfl (Or.inr ⟨rfl, Or.inr rfl⟩) w

theorem X6_has_e {d bc bs : Nat} {h : AH} {Q : Option Value → AH → Prop} {a_0 : Nat} {v_1 : Int32} (w : ex_G mX6_has d 0 [.ref a_0, .int v_1] [] h bc bs Q) : ex_S yX6_has mX6_has d [.ref a_0, .int v_1] h bc bs Q :=
  ex_enter (plainFor_of_name (by decide +kernel)) ⟨rfl, rfl⟩ rfl rfl (Nat.le_of_ble_eq_true rfl) (ex_pad 0 w)

def X6_has_V (a_0 : Nat) (v_1 : Int32) (h : AH) : Int32 := (if v_1 < 0 then 0 else (if (ah_f h a_0 1) ≤ v_1 then 0 else 1))
def X6_has_C (a_0 : Nat) (v_1 : Int32) (h : AH) : Prop := (v_1 < 0 → True) ∧ (¬ v_1 < 0 → ah_o h a_0 6 ∧ True)
theorem X6_has_s {d bc bs : Nat} {h : AH} {Q : Option Value → AH → Prop} {a_0 : Nat} {v_1 : Int32} (c : X6_has_C a_0 v_1 h) (w : Q (some (.int (X6_has_V a_0 v_1 h))) h) : ex_S yX6_has mX6_has d [.ref a_0, .int v_1] h bc bs Q := by
  unfold X6_has_V at w
  unfold X6_has_C at c
  refine X6_has_e (X6_has_0 ?_)
  refine ⟨fun k => ?_, fun k => ?_⟩
  · rw [if_pos k] at w
    replace c := c.1 k
    exact w
  · rw [if_neg k] at w
    replace c := c.2 k
    obtain ⟨c1, c⟩ := c
    refine ⟨c1, ?_⟩
    refine ⟨fun k => ?_, fun k => ?_⟩
    · rw [if_pos k] at w
      exact w
    · rw [if_neg k] at w
      exact w

set_option maxRecDepth 100000 in
theorem X7_entryOf_0 {d bc bs : Nat} {h : AH} {Q : Option Value → AH → Prop} {v_0 : Int32} (w : ∀ x1, x1 = v_0 &&& (-4) → ((¬ (v_0 &&& 2) = 0 → ((¬ (v_0 &&& 1) = 1 → Q (some (.int (x1 + 1))) h) ∧ ((v_0 &&& 1) = 1 → Q (some (.int (x1 + 3))) h))) ∧ ((v_0 &&& 2) = 0 → Q (some (.int x1)) h))) : ex_G mX7_entryOf d 0 [.int v_0, .retAddr 0] [] h bc bs Q := by
  refine ex_iload_n (q := 1) (x := v_0) dX7_entryOf_0 rfl ?_
  refine ex_bipush (q := 3) (v := (-4)) dX7_entryOf_1 (by decide) ?_
  refine ex_iand (q := 4) dX7_entryOf_3 ?_
  refine ex_nmi (fun x1 ex1 => ?_)
  replace w := w x1 ex1
  refine ex_istore_n (q := 5) (ls' := [.int v_0, .int x1]) dX7_entryOf_4 rfl ?_
  refine ex_iload_n (q := 6) (x := v_0) dX7_entryOf_5 rfl ?_
  refine ex_iconst (q := 7) (v := 2) dX7_entryOf_6 (by decide) ?_
  refine ex_iand (q := 8) dX7_entryOf_7 ?_
  refine ex_if_ne (tgt := 13) (q := 11) dX7_entryOf_8 (fun c2 => ?_) (fun c2 => ?_)
  · replace w := w.1 c2
    refine ex_iload_n (q := 14) (x := v_0) dX7_entryOf_13 rfl ?_
    refine ex_iconst (q := 15) (v := 1) dX7_entryOf_14 (by decide) ?_
    refine ex_iand (q := 16) dX7_entryOf_15 ?_
    refine ex_iconst (q := 17) (v := 1) dX7_entryOf_16 (by decide) ?_
    refine ex_icmp_ne (tgt := 26) (q := 20) dX7_entryOf_17 (fun c3 => ?_) (fun c3 => ?_)
    · replace w := w.1 c3
      refine ex_iload_n (q := 27) (x := x1) dX7_entryOf_26 rfl ?_
      refine ex_iconst (q := 28) (v := 1) dX7_entryOf_27 (by decide) ?_
      refine ex_iadd (q := 29) dX7_entryOf_28 ?_
      exact ex_ireturn dX7_entryOf_29 rfl (Or.inl rfl) w
    · replace w := w.2 c3
      refine ex_iload_n (q := 21) (x := x1) dX7_entryOf_20 rfl ?_
      refine ex_iconst (q := 22) (v := 3) dX7_entryOf_21 (by decide) ?_
      refine ex_iadd (q := 23) dX7_entryOf_22 ?_
      refine ex_goto (tgt := 29) dX7_entryOf_23 ?_
      exact ex_ireturn dX7_entryOf_29 rfl (Or.inl rfl) w
  · replace w := w.2 c2
    refine ex_iload_n (q := 12) (x := x1) dX7_entryOf_11 rfl ?_
    exact ex_ireturn dX7_entryOf_12 rfl (Or.inl rfl) w

theorem X7_entryOf_e {d bc bs : Nat} {h : AH} {Q : Option Value → AH → Prop} {v_0 : Int32} (w : ex_G mX7_entryOf d 0 [.int v_0, .retAddr 0] [] h bc bs Q) : ex_S yX7_entryOf mX7_entryOf d [.int v_0] h bc bs Q :=
  ex_enter (plainFor_of_name (by decide +kernel)) ⟨rfl, rfl⟩ rfl rfl (Nat.le_of_ble_eq_true rfl) (ex_pad 1 w)

def X7_entryOf_V (v_0 : Int32) (h : AH) : Int32 := (if (v_0 &&& 2) = 0 then (v_0 &&& (-4)) else (if (v_0 &&& 1) = 1 then (v_0 &&& (-4)) + 3 else (v_0 &&& (-4)) + 1))
theorem X7_entryOf_s {d bc bs : Nat} {h : AH} {Q : Option Value → AH → Prop} {v_0 : Int32} (w : Q (some (.int (X7_entryOf_V v_0 h))) h) : ex_S yX7_entryOf mX7_entryOf d [.int v_0] h bc bs Q := by
  unfold X7_entryOf_V at w
  refine X7_entryOf_e (X7_entryOf_0 ?_)
  intro x1 ex1
  subst ex1
  refine ⟨fun k => ?_, fun k => ?_⟩
  · rw [if_neg k] at w
    refine ⟨fun k => ?_, fun k => ?_⟩
    · rw [if_neg k] at w
      exact w
    · rw [if_pos k] at w
      exact w
  · rw [if_pos k] at w
    exact w

set_option maxRecDepth 100000 in
theorem X7_forget_0 {d bc bs : Nat} {h : AH} {Q : Option Value → AH → Prop} {a_0 : Nat} (w : ah_o h a_0 7 ∧ ∀ h2, h2 = ah_sf h a_0 5 0 → Q none h2) : ex_G mX7_forget d 0 [.ref a_0] [] h bc bs Q := by
  refine ex_aload_n (q := 1) (x := a_0) dX7_forget_0 rfl ?_
  refine ex_iconst (q := 2) (v := 0) dX7_forget_1 (by decide) ?_
  have s1 := w.1
  replace w := w.2
  refine ex_putf (q := 5) dX7_forget_2 fl_X7_76 (Or.inl rfl) s1 (Or.inl rfl) ?_
  refine ex_nmh (fun h2 eh2 => ?_)
  replace w := w h2 eh2
  exact ex_return dX7_forget_5 w

theorem X7_forget_e {d bc bs : Nat} {h : AH} {Q : Option Value → AH → Prop} {a_0 : Nat} (w : ex_G mX7_forget d 0 [.ref a_0] [] h bc bs Q) : ex_S yX7_forget mX7_forget d [.ref a_0] h bc bs Q :=
  ex_enter (plainFor_of_name (by decide +kernel)) ⟨rfl, rfl⟩ rfl rfl (Nat.le_of_ble_eq_true rfl) (ex_pad 0 w)

def X7_forget_H (a_0 : Nat) (h : AH) : AH := (ah_sf h a_0 5 0)
def X7_forget_C (a_0 : Nat) (h : AH) : Prop := ah_o h a_0 7 ∧ True
theorem X7_forget_s {d bc bs : Nat} {h : AH} {Q : Option Value → AH → Prop} {a_0 : Nat} (c : X7_forget_C a_0 h) (w : Q (none) (X7_forget_H a_0 h)) : ex_S yX7_forget mX7_forget d [.ref a_0] h bc bs Q := by
  unfold  X7_forget_H at w
  unfold X7_forget_C at c
  refine X7_forget_e (X7_forget_0 ?_)
  obtain ⟨c1, c⟩ := c
  refine ⟨c1, ?_⟩
  intro h2 eh2
  subst eh2
  exact w

set_option maxRecDepth 100000 in
theorem X7_hasCrossing_0 {d bc bs : Nat} {h : AH} {Q : Option Value → AH → Prop} {a_0 : Nat} {v_1 : Int32} (w : ((v_1 < 0 → Q (some (.int 0)) h) ∧ (¬ v_1 < 0 → ah_o h a_0 7 ∧ (((ah_f h a_0 2) ≤ v_1 → Q (some (.int 0)) h) ∧ (¬ (ah_f h a_0 2) ≤ v_1 → Q (some (.int 1)) h))))) : ex_G mX7_hasCrossing d 0 [.ref a_0, .int v_1] [] h bc bs Q := by
  refine ex_iload_n (q := 1) (x := v_1) dX7_hasCrossing_0 rfl ?_
  refine ex_if_lt (tgt := 16) (q := 4) dX7_hasCrossing_1 (fun c1 => ?_) (fun c1 => ?_)
  · replace w := w.1 c1
    refine ex_iconst (q := 17) (v := 0) dX7_hasCrossing_16 (by decide) ?_
    exact ex_ireturn dX7_hasCrossing_17 rfl (Or.inr ⟨rfl, Or.inl rfl⟩) w
  · replace w := w.2 c1
    refine ex_iload_n (q := 5) (x := v_1) dX7_hasCrossing_4 rfl ?_
    refine ex_aload_n (q := 6) (x := a_0) dX7_hasCrossing_5 rfl ?_
    have s2 := w.1
    replace w := w.2
    refine ex_getf (q := 9) dX7_hasCrossing_6 fl_X7_24 s2 ?_
    refine ex_icmp_ge (tgt := 16) (q := 12) dX7_hasCrossing_9 (fun c3 => ?_) (fun c3 => ?_)
    · replace w := w.1 c3
      refine ex_iconst (q := 17) (v := 0) dX7_hasCrossing_16 (by decide) ?_
      exact ex_ireturn dX7_hasCrossing_17 rfl (Or.inr ⟨rfl, Or.inl rfl⟩) w
    · replace w := w.2 c3
      refine ex_iconst (q := 13) (v := 1) dX7_hasCrossing_12 (by decide) ?_
      refine ex_goto (tgt := 17) dX7_hasCrossing_13 ?_
      exact ex_ireturn dX7_hasCrossing_17 rfl (Or.inr ⟨rfl, Or.inr rfl⟩) w

theorem X7_hasCrossing_e {d bc bs : Nat} {h : AH} {Q : Option Value → AH → Prop} {a_0 : Nat} {v_1 : Int32} (w : ex_G mX7_hasCrossing d 0 [.ref a_0, .int v_1] [] h bc bs Q) : ex_S yX7_hasCrossing mX7_hasCrossing d [.ref a_0, .int v_1] h bc bs Q :=
  ex_enter (plainFor_of_name (by decide +kernel)) ⟨rfl, rfl⟩ rfl rfl (Nat.le_of_ble_eq_true rfl) (ex_pad 0 w)

def X7_hasCrossing_V (a_0 : Nat) (v_1 : Int32) (h : AH) : Int32 := (if v_1 < 0 then 0 else (if (ah_f h a_0 2) ≤ v_1 then 0 else 1))
def X7_hasCrossing_C (a_0 : Nat) (v_1 : Int32) (h : AH) : Prop := (v_1 < 0 → True) ∧ (¬ v_1 < 0 → ah_o h a_0 7 ∧ True)
theorem X7_hasCrossing_s {d bc bs : Nat} {h : AH} {Q : Option Value → AH → Prop} {a_0 : Nat} {v_1 : Int32} (c : X7_hasCrossing_C a_0 v_1 h) (w : Q (some (.int (X7_hasCrossing_V a_0 v_1 h))) h) : ex_S yX7_hasCrossing mX7_hasCrossing d [.ref a_0, .int v_1] h bc bs Q := by
  unfold X7_hasCrossing_V at w
  unfold X7_hasCrossing_C at c
  refine X7_hasCrossing_e (X7_hasCrossing_0 ?_)
  refine ⟨fun k => ?_, fun k => ?_⟩
  · rw [if_pos k] at w
    replace c := c.1 k
    exact w
  · rw [if_neg k] at w
    replace c := c.2 k
    obtain ⟨c1, c⟩ := c
    refine ⟨c1, ?_⟩
    refine ⟨fun k => ?_, fun k => ?_⟩
    · rw [if_pos k] at w
      exact w
    · rw [if_neg k] at w
      exact w

set_option maxRecDepth 100000 in
theorem X7_swap_0 {d bc bs : Nat} {h : AH} {Q : Option Value → AH → Prop} {a_0 : Nat} {v_1 : Int32} {v_2 : Int32} (w : ah_o h a_0 7 ∧ ∃ a2, ah_r h a_0 1 = some a2 ∧ ld0 h a2 v_1 ∧ ∀ x4, x4 = ah_i h a2 (Int32.toNatClampNeg v_1) → ld0 h a2 v_2 ∧ st0 h a2 v_1 ∧ ∀ h6, h6 = ah_si h a2 (Int32.toNatClampNeg v_1) (ah_i h a2 (Int32.toNatClampNeg v_2)) → st0 h6 a2 v_2 ∧ ∀ h8, h8 = ah_si h6 a2 (Int32.toNatClampNeg v_2) x4 → Q none h8) : ex_G mX7_swap d 0 [.ref a_0, .int v_1, .int v_2, .retAddr 0] [] h bc bs Q := by
  refine ex_aload_n (q := 1) (x := a_0) dX7_swap_0 rfl ?_
  have s1 := w.1
  replace w := w.2
  obtain ⟨a2, ea2, w⟩ := w
  refine ex_getr (q := 4) dX7_swap_1 fl_X7_15 s1 ea2 ?_
  refine ex_iload_n (q := 5) (x := v_1) dX7_swap_4 rfl ?_
  have s3 := w.1
  replace w := w.2
  refine ex_iald (q := 6) dX7_swap_5 s3 ?_
  refine ex_nmi (fun x4 ex4 => ?_)
  replace w := w x4 ex4
  refine ex_istore_n (q := 7) (ls' := [.ref a_0, .int v_1, .int v_2, .int x4]) dX7_swap_6 rfl ?_
  refine ex_aload_n (q := 8) (x := a_0) dX7_swap_7 rfl ?_
  refine ex_getr (q := 11) dX7_swap_8 fl_X7_15 s1 ea2 ?_
  refine ex_iload_n (q := 12) (x := v_1) dX7_swap_11 rfl ?_
  refine ex_aload_n (q := 13) (x := a_0) dX7_swap_12 rfl ?_
  refine ex_getr (q := 16) dX7_swap_13 fl_X7_15 s1 ea2 ?_
  refine ex_iload_n (q := 17) (x := v_2) dX7_swap_16 rfl ?_
  have s5 := w.1
  replace w := w.2
  refine ex_iald (q := 18) dX7_swap_17 s5 ?_
  have s7 := w.1
  replace w := w.2
  refine ex_iast (q := 19) dX7_swap_18 s7 ?_
  refine ex_nmh (fun h6 eh6 => ?_)
  replace w := w h6 eh6
  refine ex_aload_n (q := 20) (x := a_0) dX7_swap_19 rfl ?_
  refine ex_getr (q := 23) dX7_swap_20 fl_X7_15 (by rw [eh6]; exact s1) (by rw [eh6]; exact ea2) ?_
  refine ex_iload_n (q := 24) (x := v_2) dX7_swap_23 rfl ?_
  refine ex_iload_n (q := 25) (x := x4) dX7_swap_24 rfl ?_
  have s9 := w.1
  replace w := w.2
  refine ex_iast (q := 26) dX7_swap_25 s9 ?_
  refine ex_nmh (fun h8 eh8 => ?_)
  replace w := w h8 eh8
  exact ex_return dX7_swap_26 w

theorem X7_swap_e {d bc bs : Nat} {h : AH} {Q : Option Value → AH → Prop} {a_0 : Nat} {v_1 : Int32} {v_2 : Int32} (w : ex_G mX7_swap d 0 [.ref a_0, .int v_1, .int v_2, .retAddr 0] [] h bc bs Q) : ex_S yX7_swap mX7_swap d [.ref a_0, .int v_1, .int v_2] h bc bs Q :=
  ex_enter (plainFor_of_name (by decide +kernel)) ⟨rfl, rfl⟩ rfl rfl (Nat.le_of_ble_eq_true rfl) (ex_pad 1 w)

def X7_swap_H (a_0 : Nat) (v_1 : Int32) (v_2 : Int32) (h : AH) : AH := (ah_si (ah_si h (Option.getD (ah_r h a_0 1) 0) (Int32.toNatClampNeg v_1) (ah_i h (Option.getD (ah_r h a_0 1) 0) (Int32.toNatClampNeg v_2))) (Option.getD (ah_r h a_0 1) 0) (Int32.toNatClampNeg v_2) (ah_i h (Option.getD (ah_r h a_0 1) 0) (Int32.toNatClampNeg v_1)))
def X7_swap_C (a_0 : Nat) (v_1 : Int32) (v_2 : Int32) (h : AH) : Prop := ah_o h a_0 7 ∧ ∃ a2, ah_r h a_0 1 = some a2 ∧ ld0 h a2 v_1 ∧ ld0 h a2 v_2 ∧ st0 h a2 v_1 ∧ st0 (ah_si h a2 (Int32.toNatClampNeg v_1) (ah_i h a2 (Int32.toNatClampNeg v_2))) a2 v_2 ∧ True
theorem X7_swap_s {d bc bs : Nat} {h : AH} {Q : Option Value → AH → Prop} {a_0 : Nat} {v_1 : Int32} {v_2 : Int32} (c : X7_swap_C a_0 v_1 v_2 h) (w : Q (none) (X7_swap_H a_0 v_1 v_2 h)) : ex_S yX7_swap mX7_swap d [.ref a_0, .int v_1, .int v_2] h bc bs Q := by
  unfold  X7_swap_H at w
  unfold X7_swap_C at c
  refine X7_swap_e (X7_swap_0 ?_)
  obtain ⟨c1, c⟩ := c
  refine ⟨c1, ?_⟩
  obtain ⟨a2, ea2, c⟩ := c
  try simp only [ea2, Option.getD_some] at w
  refine ⟨a2, ea2, ?_⟩
  obtain ⟨c1, c⟩ := c
  refine ⟨c1, ?_⟩
  intro x4 ex4
  subst ex4
  obtain ⟨c1, c⟩ := c
  refine ⟨c1, ?_⟩
  obtain ⟨c1, c⟩ := c
  refine ⟨c1, ?_⟩
  intro h6 eh6
  subst eh6
  obtain ⟨c1, c⟩ := c
  refine ⟨c1, ?_⟩
  intro h8 eh8
  subst eh8
  exact w

set_option maxRecDepth 100000 in
theorem X9_affords_0 {d bc bs : Nat} {h : AH} {Q : Option Value → AH → Prop} {a_0 : Nat} {v_1 : Int32} (w : ah_o h a_0 9 ∧ ((1000000 < ((ah_f h a_0 3) + v_1) → Q (some (.int 0)) h) ∧ (¬ 1000000 < ((ah_f h a_0 3) + v_1) → Q (some (.int 1)) h))) : ex_G mX9_affords d 0 [.ref a_0, .int v_1] [] h bc bs Q := by
  refine ex_aload_n (q := 1) (x := a_0) dX9_affords_0 rfl ?_
  have s1 := w.1
  replace w := w.2
  refine ex_getf (q := 4) dX9_affords_1 fl_X9_29 s1 ?_
  refine ex_iload_n (q := 5) (x := v_1) dX9_affords_4 rfl ?_
  refine ex_iadd (q := 6) dX9_affords_5 ?_
  refine ex_ldc (q := 8) (v := 1000000) dX9_affords_6 wd_839 ?_
  refine ex_icmp_gt (tgt := 15) (q := 11) dX9_affords_8 (fun c2 => ?_) (fun c2 => ?_)
  · replace w := w.1 c2
    refine ex_iconst (q := 16) (v := 0) dX9_affords_15 (by decide) ?_
    exact ex_ireturn dX9_affords_16 rfl (Or.inr ⟨rfl, Or.inl rfl⟩) w
  · replace w := w.2 c2
    refine ex_iconst (q := 12) (v := 1) dX9_affords_11 (by decide) ?_
    refine ex_goto (tgt := 16) dX9_affords_12 ?_
    exact ex_ireturn dX9_affords_16 rfl (Or.inr ⟨rfl, Or.inr rfl⟩) w

theorem X9_affords_e {d bc bs : Nat} {h : AH} {Q : Option Value → AH → Prop} {a_0 : Nat} {v_1 : Int32} (w : ex_G mX9_affords d 0 [.ref a_0, .int v_1] [] h bc bs Q) : ex_S yX9_affords mX9_affords d [.ref a_0, .int v_1] h bc bs Q :=
  ex_enter (plainFor_of_name (by decide +kernel)) ⟨rfl, rfl⟩ rfl rfl (Nat.le_of_ble_eq_true rfl) (ex_pad 0 w)

def X9_affords_V (a_0 : Nat) (v_1 : Int32) (h : AH) : Int32 := (if 1000000 < ((ah_f h a_0 3) + v_1) then 0 else 1)
def X9_affords_C (a_0 : Nat) (v_1 : Int32) (h : AH) : Prop := ah_o h a_0 9 ∧ True
theorem X9_affords_s {d bc bs : Nat} {h : AH} {Q : Option Value → AH → Prop} {a_0 : Nat} {v_1 : Int32} (c : X9_affords_C a_0 v_1 h) (w : Q (some (.int (X9_affords_V a_0 v_1 h))) h) : ex_S yX9_affords mX9_affords d [.ref a_0, .int v_1] h bc bs Q := by
  unfold X9_affords_V at w
  unfold X9_affords_C at c
  refine X9_affords_e (X9_affords_0 ?_)
  obtain ⟨c1, c⟩ := c
  refine ⟨c1, ?_⟩
  refine ⟨fun k => ?_, fun k => ?_⟩
  · rw [if_pos k] at w
    exact w
  · rw [if_neg k] at w
    exact w

set_option maxRecDepth 100000 in
theorem X11_at_0 {d bc bs : Nat} {h : AH} {Q : Option Value → AH → Prop} {a_0 : Nat} {v_1 : Int32} (w : ah_o h a_0 11 ∧ ∃ a2, ah_r h a_0 8 = some a2 ∧ ah_o h a2 2 ∧ X2_numberAt_C a2 v_1 h ∧ Q (some (.long (X2_numberAt_V a2 v_1 h))) h) : ex_G mX11_at (d + 1) 0 [.ref a_0, .int v_1] [] h bc bs Q := by
  refine ex_aload_n (q := 1) (x := a_0) dX11_at_0 rfl ?_
  have s1 := w.1
  replace w := w.2
  obtain ⟨a2, ea2, w⟩ := w
  refine ex_getr (q := 4) dX11_at_1 fl_X11_58 s1 ea2 ?_
  refine ex_iload_n (q := 5) (x := v_1) dX11_at_4 rfl ?_
  have s3 := w.1
  replace w := w.2
  have s4 := w.1
  replace w := w.2
  refine ex_callV (q := 8) (M := mX11_at) (hdd := Nat.le_refl _) (mc := 0) (ms := 0) (d' := d) (c := 2) (st := []) (bc := bc) (bs := bs) dX11_at_5 rfl cl_X11_270 wd_871 wd_872 s3 (X2_numberAt_s (Q := fun r z => r = some (.long (X2_numberAt_V a2 v_1 h)) ∧ z = h) s4 ⟨rfl, rfl⟩) ?_
  intro r z hrz
  rw [hrz.1, hrz.2]
  show ex_G mX11_at (d + 1) 8 [.ref a_0, .int v_1] [.long (X2_numberAt_V a2 v_1 h)] (h) bc bs Q
  exact ex_lreturn dX11_at_8 w

theorem X11_at_e {d bc bs : Nat} {h : AH} {Q : Option Value → AH → Prop} {a_0 : Nat} {v_1 : Int32} (w : ex_G mX11_at (d + 1) 0 [.ref a_0, .int v_1] [] h bc bs Q) : ex_S yX11_at mX11_at (d + 1) [.ref a_0, .int v_1] h bc bs Q :=
  ex_enter (plainFor_of_name (by decide +kernel)) ⟨rfl, rfl⟩ rfl rfl (Nat.le_of_ble_eq_true rfl) (ex_pad 0 w)

def X11_at_V (a_0 : Nat) (v_1 : Int32) (h : AH) : Int64 := X2_numberAt_V (Option.getD (ah_r h a_0 8) 0) v_1 h
def X11_at_C (a_0 : Nat) (v_1 : Int32) (h : AH) : Prop := ah_o h a_0 11 ∧ ∃ a2, ah_r h a_0 8 = some a2 ∧ ah_o h a2 2 ∧ X2_numberAt_C a2 v_1 h ∧ True
theorem X11_at_s {d bc bs : Nat} {h : AH} {Q : Option Value → AH → Prop} {a_0 : Nat} {v_1 : Int32} (c : X11_at_C a_0 v_1 h) (w : Q (some (.long (X11_at_V a_0 v_1 h))) h) : ex_S yX11_at mX11_at (d + 1) [.ref a_0, .int v_1] h bc bs Q := by
  unfold X11_at_V at w
  unfold X11_at_C at c
  refine X11_at_e (X11_at_0 ?_)
  obtain ⟨c1, c⟩ := c
  refine ⟨c1, ?_⟩
  obtain ⟨a2, ea2, c⟩ := c
  try simp only [ea2, Option.getD_some] at w
  refine ⟨a2, ea2, ?_⟩
  obtain ⟨c1, c⟩ := c
  refine ⟨c1, ?_⟩
  obtain ⟨c1, c⟩ := c
  refine ⟨c1, ?_⟩
  exact w

set_option maxRecDepth 100000 in
theorem X11_clear_0 {d bc bs : Nat} {h : AH} {Q : Option Value → AH → Prop} {a_0 : Nat} (w : ah_o h a_0 11 ∧ ∃ a2, ah_r h a_0 2 = some a2 ∧ ah_o h a2 6 ∧ ∀ x4, x4 = ah_f h a2 1 → X6_empty_C a2 h ∧ ∀ h6, h6 = X6_empty_H a2 h → ah_o h6 a_0 11 ∧ X11_grant_C a_0 x4 h6 ∧ ∀ h9, h9 = X11_grant_H a_0 x4 h6 → Q (some (.int (X11_grant_V a_0 x4 h6))) h9) : ex_G mX11_clear (d + 1) 0 [.ref a_0, .retAddr 0] [] h bc bs Q := by
  refine ex_aload_n (q := 1) (x := a_0) dX11_clear_0 rfl ?_
  have s1 := w.1
  replace w := w.2
  obtain ⟨a2, ea2, w⟩ := w
  refine ex_getr (q := 4) dX11_clear_1 fl_X11_26 s1 ea2 ?_
  have s3 := w.1
  replace w := w.2
  refine ex_getf (q := 7) dX11_clear_4 fl_X11_292 s3 ?_
  refine ex_nmi (fun x4 ex4 => ?_)
  replace w := w x4 ex4
  refine ex_istore_n (q := 8) (ls' := [.ref a_0, .int x4]) dX11_clear_7 rfl ?_
  refine ex_aload_n (q := 9) (x := a_0) dX11_clear_8 rfl ?_
  refine ex_getr (q := 12) dX11_clear_9 fl_X11_26 s1 ea2 ?_
  have s5 := w.1
  replace w := w.2
  refine ex_callV (q := 15) (M := mX11_clear) (hdd := Nat.le_refl _) (mc := 0) (ms := 0) (d' := d) (c := 6) (st := []) (bc := bc) (bs := bs) dX11_clear_12 rfl cl_X11_297 wd_937 wd_938 s3 (X6_empty_s (Q := fun r z => r = none ∧ z = X6_empty_H a2 h) s5 ⟨rfl, rfl⟩) ?_
  intro r z hrz
  rw [hrz.1, hrz.2]
  show ex_G mX11_clear (d + 1) 15 [.ref a_0, .int x4] [] (X6_empty_H a2 h) bc bs Q
  refine ex_nmh (fun h6 eh6 => ?_)
  replace w := w h6 eh6
  refine ex_aload_n (q := 16) (x := a_0) dX11_clear_15 rfl ?_
  refine ex_iload_n (q := 17) (x := x4) dX11_clear_16 rfl ?_
  have s7 := w.1
  replace w := w.2
  have s8 := w.1
  replace w := w.2
  refine ex_callV (q := 20) (M := mX11_clear) (hdd := Nat.le_refl _) (mc := 0) (ms := 0) (d' := d) (c := 11) (st := []) (bc := bc) (bs := bs) dX11_clear_17 rfl cl_X11_131 wd_576 wd_3 s7 (X11_grant_s (Q := fun r z => r = some (.int (X11_grant_V a_0 x4 h6)) ∧ z = X11_grant_H a_0 x4 h6) s8 ⟨rfl, rfl⟩) ?_
  intro r z hrz
  rw [hrz.1, hrz.2]
  show ex_G mX11_clear (d + 1) 20 [.ref a_0, .int x4] [.int (X11_grant_V a_0 x4 h6)] (X11_grant_H a_0 x4 h6) bc bs Q
  refine ex_nmh (fun h9 eh9 => ?_)
  replace w := w h9 eh9
  exact ex_ireturn dX11_clear_20 rfl (Or.inl rfl) w

theorem X11_clear_e {d bc bs : Nat} {h : AH} {Q : Option Value → AH → Prop} {a_0 : Nat} (w : ex_G mX11_clear (d + 1) 0 [.ref a_0, .retAddr 0] [] h bc bs Q) : ex_S yX11_clear mX11_clear (d + 1) [.ref a_0] h bc bs Q :=
  ex_enter (plainFor_of_name (by decide +kernel)) ⟨rfl, rfl⟩ rfl rfl (Nat.le_of_ble_eq_true rfl) (ex_pad 1 w)

def X11_clear_V (a_0 : Nat) (h : AH) : Int32 := X11_grant_V a_0 (ah_f h (Option.getD (ah_r h a_0 2) 0) 1) (X6_empty_H (Option.getD (ah_r h a_0 2) 0) h)
def X11_clear_H (a_0 : Nat) (h : AH) : AH := (X11_grant_H a_0 (ah_f h (Option.getD (ah_r h a_0 2) 0) 1) (X6_empty_H (Option.getD (ah_r h a_0 2) 0) h))
def X11_clear_C (a_0 : Nat) (h : AH) : Prop := ah_o h a_0 11 ∧ ∃ a2, ah_r h a_0 2 = some a2 ∧ ah_o h a2 6 ∧ X6_empty_C a2 h ∧ ah_o (X6_empty_H a2 h) a_0 11 ∧ X11_grant_C a_0 (ah_f h a2 1) (X6_empty_H a2 h) ∧ True
theorem X11_clear_s {d bc bs : Nat} {h : AH} {Q : Option Value → AH → Prop} {a_0 : Nat} (c : X11_clear_C a_0 h) (w : Q (some (.int (X11_clear_V a_0 h))) (X11_clear_H a_0 h)) : ex_S yX11_clear mX11_clear (d + 1) [.ref a_0] h bc bs Q := by
  unfold X11_clear_V X11_clear_H at w
  unfold X11_clear_C at c
  refine X11_clear_e (X11_clear_0 ?_)
  obtain ⟨c1, c⟩ := c
  refine ⟨c1, ?_⟩
  obtain ⟨a2, ea2, c⟩ := c
  try simp only [ea2, Option.getD_some] at w
  refine ⟨a2, ea2, ?_⟩
  obtain ⟨c1, c⟩ := c
  refine ⟨c1, ?_⟩
  intro x4 ex4
  subst ex4
  obtain ⟨c1, c⟩ := c
  refine ⟨c1, ?_⟩
  intro h6 eh6
  subst eh6
  obtain ⟨c1, c⟩ := c
  refine ⟨c1, ?_⟩
  obtain ⟨c1, c⟩ := c
  refine ⟨c1, ?_⟩
  intro h9 eh9
  subst eh9
  exact w

set_option maxRecDepth 100000 in
theorem X11_item_0 {d bc bs : Nat} {h : AH} {Q : Option Value → AH → Prop} {a_0 : Nat} {v_1 : Int32} (w : ah_o h a_0 11 ∧ ∃ a2, ah_r h a_0 2 = some a2 ∧ ah_o h a2 6 ∧ X6_has_C a2 v_1 h ∧ (((X6_has_V a2 v_1 h) = 0 → Q (some (.int (-2))) h) ∧ (¬ (X6_has_V a2 v_1 h) = 0 → ∃ a6, ah_r h a2 0 = some a6 ∧ ld0 h a6 v_1 ∧ Q (some (.int (ah_i h a6 (Int32.toNatClampNeg v_1)))) h))) : ex_G mX11_item (d + 1) 0 [.ref a_0, .int v_1] [] h bc bs Q := by
  refine ex_aload_n (q := 1) (x := a_0) dX11_item_0 rfl ?_
  have s1 := w.1
  replace w := w.2
  obtain ⟨a2, ea2, w⟩ := w
  refine ex_getr (q := 4) dX11_item_1 fl_X11_26 s1 ea2 ?_
  refine ex_iload_n (q := 5) (x := v_1) dX11_item_4 rfl ?_
  have s3 := w.1
  replace w := w.2
  have s4 := w.1
  replace w := w.2
  refine ex_callV (q := 8) (M := mX11_item) (hdd := Nat.le_refl _) (mc := 0) (ms := 0) (d' := d) (c := 6) (st := []) (bc := bc) (bs := bs) dX11_item_5 rfl cl_X11_298 wd_959 wd_960 s3 (X6_has_s (Q := fun r z => r = some (.int (X6_has_V a2 v_1 h)) ∧ z = h) s4 ⟨rfl, rfl⟩) ?_
  intro r z hrz
  rw [hrz.1, hrz.2]
  show ex_G mX11_item (d + 1) 8 [.ref a_0, .int v_1] [.int (X6_has_V a2 v_1 h)] (h) bc bs Q
  refine ex_if_eq (tgt := 23) (q := 11) dX11_item_8 (fun c5 => ?_) (fun c5 => ?_)
  · replace w := w.1 c5
    refine ex_bipush (q := 25) (v := (-2)) dX11_item_23 (by decide) ?_
    exact ex_ireturn dX11_item_25 rfl (Or.inl rfl) w
  · replace w := w.2 c5
    refine ex_aload_n (q := 12) (x := a_0) dX11_item_11 rfl ?_
    refine ex_getr (q := 15) dX11_item_12 fl_X11_26 s1 ea2 ?_
    obtain ⟨a6, ea6, w⟩ := w
    refine ex_getr (q := 18) dX11_item_15 fl_X11_301 s3 ea6 ?_
    refine ex_iload_n (q := 19) (x := v_1) dX11_item_18 rfl ?_
    have s7 := w.1
    replace w := w.2
    refine ex_iald (q := 20) dX11_item_19 s7 ?_
    refine ex_goto (tgt := 25) dX11_item_20 ?_
    exact ex_ireturn dX11_item_25 rfl (Or.inl rfl) w

theorem X11_item_e {d bc bs : Nat} {h : AH} {Q : Option Value → AH → Prop} {a_0 : Nat} {v_1 : Int32} (w : ex_G mX11_item (d + 1) 0 [.ref a_0, .int v_1] [] h bc bs Q) : ex_S yX11_item mX11_item (d + 1) [.ref a_0, .int v_1] h bc bs Q :=
  ex_enter (plainFor_of_name (by decide +kernel)) ⟨rfl, rfl⟩ rfl rfl (Nat.le_of_ble_eq_true rfl) (ex_pad 0 w)

def X11_item_V (a_0 : Nat) (v_1 : Int32) (h : AH) : Int32 := (if (X6_has_V (Option.getD (ah_r h a_0 2) 0) v_1 h) = 0 then (-2) else ah_i h (Option.getD (ah_r h (Option.getD (ah_r h a_0 2) 0) 0) 0) (Int32.toNatClampNeg v_1))
def X11_item_C (a_0 : Nat) (v_1 : Int32) (h : AH) : Prop := ah_o h a_0 11 ∧ ∃ a2, ah_r h a_0 2 = some a2 ∧ ah_o h a2 6 ∧ X6_has_C a2 v_1 h ∧ ((X6_has_V a2 v_1 h) = 0 → True) ∧ (¬ (X6_has_V a2 v_1 h) = 0 → ∃ a6, ah_r h a2 0 = some a6 ∧ ld0 h a6 v_1 ∧ True)
theorem X11_item_s {d bc bs : Nat} {h : AH} {Q : Option Value → AH → Prop} {a_0 : Nat} {v_1 : Int32} (c : X11_item_C a_0 v_1 h) (w : Q (some (.int (X11_item_V a_0 v_1 h))) h) : ex_S yX11_item mX11_item (d + 1) [.ref a_0, .int v_1] h bc bs Q := by
  unfold X11_item_V at w
  unfold X11_item_C at c
  refine X11_item_e (X11_item_0 ?_)
  obtain ⟨c1, c⟩ := c
  refine ⟨c1, ?_⟩
  obtain ⟨a2, ea2, c⟩ := c
  try simp only [ea2, Option.getD_some] at w
  refine ⟨a2, ea2, ?_⟩
  obtain ⟨c1, c⟩ := c
  refine ⟨c1, ?_⟩
  obtain ⟨c1, c⟩ := c
  refine ⟨c1, ?_⟩
  refine ⟨fun k => ?_, fun k => ?_⟩
  · rw [if_pos k] at w
    replace c := c.1 k
    exact w
  · rw [if_neg k] at w
    replace c := c.2 k
    obtain ⟨a6, ea6, c⟩ := c
    try simp only [ea6, Option.getD_some] at w
    refine ⟨a6, ea6, ?_⟩
    obtain ⟨c1, c⟩ := c
    refine ⟨c1, ?_⟩
    exact w

set_option maxRecDepth 100000 in
theorem X11_trace_0 {d bc bs : Nat} {h : AH} {Q : Option Value → AH → Prop} {a_0 : Nat} {v_1 : Int32} (w : ah_o h a_0 11 ∧ ∃ a2, ah_r h a_0 3 = some a2 ∧ ah_o h a2 6 ∧ X6_has_C a2 v_1 h ∧ (((X6_has_V a2 v_1 h) = 0 → Q (some (.int (-1))) h) ∧ (¬ (X6_has_V a2 v_1 h) = 0 → ∃ a6, ah_r h a2 0 = some a6 ∧ ld0 h a6 v_1 ∧ Q (some (.int (ah_i h a6 (Int32.toNatClampNeg v_1)))) h))) : ex_G mX11_trace (d + 1) 0 [.ref a_0, .int v_1] [] h bc bs Q := by
  refine ex_aload_n (q := 1) (x := a_0) dX11_trace_0 rfl ?_
  have s1 := w.1
  replace w := w.2
  obtain ⟨a2, ea2, w⟩ := w
  refine ex_getr (q := 4) dX11_trace_1 fl_X11_30 s1 ea2 ?_
  refine ex_iload_n (q := 5) (x := v_1) dX11_trace_4 rfl ?_
  have s3 := w.1
  replace w := w.2
  have s4 := w.1
  replace w := w.2
  refine ex_callV (q := 8) (M := mX11_trace) (hdd := Nat.le_refl _) (mc := 0) (ms := 0) (d' := d) (c := 6) (st := []) (bc := bc) (bs := bs) dX11_trace_5 rfl cl_X11_298 wd_959 wd_960 s3 (X6_has_s (Q := fun r z => r = some (.int (X6_has_V a2 v_1 h)) ∧ z = h) s4 ⟨rfl, rfl⟩) ?_
  intro r z hrz
  rw [hrz.1, hrz.2]
  show ex_G mX11_trace (d + 1) 8 [.ref a_0, .int v_1] [.int (X6_has_V a2 v_1 h)] (h) bc bs Q
  refine ex_if_eq (tgt := 23) (q := 11) dX11_trace_8 (fun c5 => ?_) (fun c5 => ?_)
  · replace w := w.1 c5
    refine ex_iconst (q := 24) (v := (-1)) dX11_trace_23 (by decide) ?_
    exact ex_ireturn dX11_trace_24 rfl (Or.inl rfl) w
  · replace w := w.2 c5
    refine ex_aload_n (q := 12) (x := a_0) dX11_trace_11 rfl ?_
    refine ex_getr (q := 15) dX11_trace_12 fl_X11_30 s1 ea2 ?_
    obtain ⟨a6, ea6, w⟩ := w
    refine ex_getr (q := 18) dX11_trace_15 fl_X11_301 s3 ea6 ?_
    refine ex_iload_n (q := 19) (x := v_1) dX11_trace_18 rfl ?_
    have s7 := w.1
    replace w := w.2
    refine ex_iald (q := 20) dX11_trace_19 s7 ?_
    refine ex_goto (tgt := 24) dX11_trace_20 ?_
    exact ex_ireturn dX11_trace_24 rfl (Or.inl rfl) w

theorem X11_trace_e {d bc bs : Nat} {h : AH} {Q : Option Value → AH → Prop} {a_0 : Nat} {v_1 : Int32} (w : ex_G mX11_trace (d + 1) 0 [.ref a_0, .int v_1] [] h bc bs Q) : ex_S yX11_trace mX11_trace (d + 1) [.ref a_0, .int v_1] h bc bs Q :=
  ex_enter (plainFor_of_name (by decide +kernel)) ⟨rfl, rfl⟩ rfl rfl (Nat.le_of_ble_eq_true rfl) (ex_pad 0 w)

def X11_trace_V (a_0 : Nat) (v_1 : Int32) (h : AH) : Int32 := (if (X6_has_V (Option.getD (ah_r h a_0 3) 0) v_1 h) = 0 then (-1) else ah_i h (Option.getD (ah_r h (Option.getD (ah_r h a_0 3) 0) 0) 0) (Int32.toNatClampNeg v_1))
def X11_trace_C (a_0 : Nat) (v_1 : Int32) (h : AH) : Prop := ah_o h a_0 11 ∧ ∃ a2, ah_r h a_0 3 = some a2 ∧ ah_o h a2 6 ∧ X6_has_C a2 v_1 h ∧ ((X6_has_V a2 v_1 h) = 0 → True) ∧ (¬ (X6_has_V a2 v_1 h) = 0 → ∃ a6, ah_r h a2 0 = some a6 ∧ ld0 h a6 v_1 ∧ True)
theorem X11_trace_s {d bc bs : Nat} {h : AH} {Q : Option Value → AH → Prop} {a_0 : Nat} {v_1 : Int32} (c : X11_trace_C a_0 v_1 h) (w : Q (some (.int (X11_trace_V a_0 v_1 h))) h) : ex_S yX11_trace mX11_trace (d + 1) [.ref a_0, .int v_1] h bc bs Q := by
  unfold X11_trace_V at w
  unfold X11_trace_C at c
  refine X11_trace_e (X11_trace_0 ?_)
  obtain ⟨c1, c⟩ := c
  refine ⟨c1, ?_⟩
  obtain ⟨a2, ea2, c⟩ := c
  try simp only [ea2, Option.getD_some] at w
  refine ⟨a2, ea2, ?_⟩
  obtain ⟨c1, c⟩ := c
  refine ⟨c1, ?_⟩
  obtain ⟨c1, c⟩ := c
  refine ⟨c1, ?_⟩
  refine ⟨fun k => ?_, fun k => ?_⟩
  · rw [if_pos k] at w
    replace c := c.1 k
    exact w
  · rw [if_neg k] at w
    replace c := c.2 k
    obtain ⟨a6, ea6, c⟩ := c
    try simp only [ea6, Option.getD_some] at w
    refine ⟨a6, ea6, ?_⟩
    obtain ⟨c1, c⟩ := c
    refine ⟨c1, ?_⟩
    exact w

set_option maxRecDepth 100000 in
theorem X11_way_0 {d bc bs : Nat} {h : AH} {Q : Option Value → AH → Prop} {a_0 : Nat} {v_1 : Int32} (w : ah_o h a_0 11 ∧ ∃ a2, ah_r h a_0 12 = some a2 ∧ ah_o h a2 8 ∧ ∃ a4, ah_r h a2 3 = some a4 ∧ ah_o h a4 6 ∧ X6_has_C a4 v_1 h ∧ (((X6_has_V a4 v_1 h) = 0 → Q (some (.int (-1))) h) ∧ (¬ (X6_has_V a4 v_1 h) = 0 → ∃ a8, ah_r h a4 0 = some a8 ∧ ld0 h a8 v_1 ∧ Q (some (.int (ah_i h a8 (Int32.toNatClampNeg v_1)))) h))) : ex_G mX11_way (d + 1) 0 [.ref a_0, .int v_1] [] h bc bs Q := by
  refine ex_aload_n (q := 1) (x := a_0) dX11_way_0 rfl ?_
  have s1 := w.1
  replace w := w.2
  obtain ⟨a2, ea2, w⟩ := w
  refine ex_getr (q := 4) dX11_way_1 fl_X11_78 s1 ea2 ?_
  have s3 := w.1
  replace w := w.2
  obtain ⟨a4, ea4, w⟩ := w
  refine ex_getr (q := 7) dX11_way_4 fl_X11_408 s3 ea4 ?_
  refine ex_iload_n (q := 8) (x := v_1) dX11_way_7 rfl ?_
  have s5 := w.1
  replace w := w.2
  have s6 := w.1
  replace w := w.2
  refine ex_callV (q := 11) (M := mX11_way) (hdd := Nat.le_refl _) (mc := 0) (ms := 0) (d' := d) (c := 6) (st := []) (bc := bc) (bs := bs) dX11_way_8 rfl cl_X11_298 wd_959 wd_960 s5 (X6_has_s (Q := fun r z => r = some (.int (X6_has_V a4 v_1 h)) ∧ z = h) s6 ⟨rfl, rfl⟩) ?_
  intro r z hrz
  rw [hrz.1, hrz.2]
  show ex_G mX11_way (d + 1) 11 [.ref a_0, .int v_1] [.int (X6_has_V a4 v_1 h)] (h) bc bs Q
  refine ex_if_eq (tgt := 29) (q := 14) dX11_way_11 (fun c7 => ?_) (fun c7 => ?_)
  · replace w := w.1 c7
    refine ex_iconst (q := 30) (v := (-1)) dX11_way_29 (by decide) ?_
    exact ex_ireturn dX11_way_30 rfl (Or.inl rfl) w
  · replace w := w.2 c7
    refine ex_aload_n (q := 15) (x := a_0) dX11_way_14 rfl ?_
    refine ex_getr (q := 18) dX11_way_15 fl_X11_78 s1 ea2 ?_
    refine ex_getr (q := 21) dX11_way_18 fl_X11_408 s3 ea4 ?_
    obtain ⟨a8, ea8, w⟩ := w
    refine ex_getr (q := 24) dX11_way_21 fl_X11_301 s5 ea8 ?_
    refine ex_iload_n (q := 25) (x := v_1) dX11_way_24 rfl ?_
    have s9 := w.1
    replace w := w.2
    refine ex_iald (q := 26) dX11_way_25 s9 ?_
    refine ex_goto (tgt := 30) dX11_way_26 ?_
    exact ex_ireturn dX11_way_30 rfl (Or.inl rfl) w

theorem X11_way_e {d bc bs : Nat} {h : AH} {Q : Option Value → AH → Prop} {a_0 : Nat} {v_1 : Int32} (w : ex_G mX11_way (d + 1) 0 [.ref a_0, .int v_1] [] h bc bs Q) : ex_S yX11_way mX11_way (d + 1) [.ref a_0, .int v_1] h bc bs Q :=
  ex_enter (plainFor_of_name (by decide +kernel)) ⟨rfl, rfl⟩ rfl rfl (Nat.le_of_ble_eq_true rfl) (ex_pad 0 w)

def X11_way_V (a_0 : Nat) (v_1 : Int32) (h : AH) : Int32 := (if (X6_has_V (Option.getD (ah_r h (Option.getD (ah_r h a_0 12) 0) 3) 0) v_1 h) = 0 then (-1) else ah_i h (Option.getD (ah_r h (Option.getD (ah_r h (Option.getD (ah_r h a_0 12) 0) 3) 0) 0) 0) (Int32.toNatClampNeg v_1))
def X11_way_C (a_0 : Nat) (v_1 : Int32) (h : AH) : Prop := ah_o h a_0 11 ∧ ∃ a2, ah_r h a_0 12 = some a2 ∧ ah_o h a2 8 ∧ ∃ a4, ah_r h a2 3 = some a4 ∧ ah_o h a4 6 ∧ X6_has_C a4 v_1 h ∧ ((X6_has_V a4 v_1 h) = 0 → True) ∧ (¬ (X6_has_V a4 v_1 h) = 0 → ∃ a8, ah_r h a4 0 = some a8 ∧ ld0 h a8 v_1 ∧ True)
theorem X11_way_s {d bc bs : Nat} {h : AH} {Q : Option Value → AH → Prop} {a_0 : Nat} {v_1 : Int32} (c : X11_way_C a_0 v_1 h) (w : Q (some (.int (X11_way_V a_0 v_1 h))) h) : ex_S yX11_way mX11_way (d + 1) [.ref a_0, .int v_1] h bc bs Q := by
  unfold X11_way_V at w
  unfold X11_way_C at c
  refine X11_way_e (X11_way_0 ?_)
  obtain ⟨c1, c⟩ := c
  refine ⟨c1, ?_⟩
  obtain ⟨a2, ea2, c⟩ := c
  try simp only [ea2, Option.getD_some] at w
  refine ⟨a2, ea2, ?_⟩
  obtain ⟨c1, c⟩ := c
  refine ⟨c1, ?_⟩
  obtain ⟨a4, ea4, c⟩ := c
  try simp only [ea4, Option.getD_some] at w
  refine ⟨a4, ea4, ?_⟩
  obtain ⟨c1, c⟩ := c
  refine ⟨c1, ?_⟩
  obtain ⟨c1, c⟩ := c
  refine ⟨c1, ?_⟩
  refine ⟨fun k => ?_, fun k => ?_⟩
  · rw [if_pos k] at w
    replace c := c.1 k
    exact w
  · rw [if_neg k] at w
    replace c := c.2 k
    obtain ⟨a8, ea8, c⟩ := c
    try simp only [ea8, Option.getD_some] at w
    refine ⟨a8, ea8, ?_⟩
    obtain ⟨c1, c⟩ := c
    refine ⟨c1, ?_⟩
    exact w

set_option maxRecDepth 100000 in
theorem X11_whyOutOfReach_0 {d bc bs : Nat} {h : AH} {Q : Option Value → AH → Prop} {a_0 : Nat} {v_1 : Int32} {v_2 : Int32} (w : ah_o h a_0 7 ∧ X7_hasCrossing_C a_0 v_1 h ∧ ((¬ (X7_hasCrossing_V a_0 v_1 h) = 0 → ∃ a4, ah_r h a_0 0 = some a4 ∧ ld0 h a4 v_1 ∧ ((0 ≤ (ah_i h a4 (Int32.toNatClampNeg v_1)) → ((v_2 < 0 → Q (some (.int (-12))) h) ∧ (¬ v_2 < 0 → ((v_2 < (ah_i h a4 (Int32.toNatClampNeg v_1)) → Q (some (.int 0)) h) ∧ (¬ v_2 < (ah_i h a4 (Int32.toNatClampNeg v_1)) → Q (some (.int (-12))) h))))) ∧ (¬ 0 ≤ (ah_i h a4 (Int32.toNatClampNeg v_1)) → Q (some (.int (-11))) h))) ∧ ((X7_hasCrossing_V a_0 v_1 h) = 0 → Q (some (.int (-12))) h))) : ex_G mX11_whyOutOfReach (d + 1) 0 [.ref a_0, .int v_1, .int v_2] [] h bc bs Q := by
  refine ex_aload_n (q := 1) (x := a_0) dX11_whyOutOfReach_0 rfl ?_
  refine ex_iload_n (q := 2) (x := v_1) dX11_whyOutOfReach_1 rfl ?_
  have s1 := w.1
  replace w := w.2
  have s2 := w.1
  replace w := w.2
  refine ex_callV (q := 5) (M := mX11_whyOutOfReach) (hdd := Nat.le_refl _) (mc := 0) (ms := 0) (d' := d) (c := 7) (st := []) (bc := bc) (bs := bs) dX11_whyOutOfReach_2 rfl cl_X11_151 wd_602 wd_603 s1 (X7_hasCrossing_s (Q := fun r z => r = some (.int (X7_hasCrossing_V a_0 v_1 h)) ∧ z = h) s2 ⟨rfl, rfl⟩) ?_
  intro r z hrz
  rw [hrz.1, hrz.2]
  show ex_G mX11_whyOutOfReach (d + 1) 5 [.ref a_0, .int v_1, .int v_2] [.int (X7_hasCrossing_V a_0 v_1 h)] (h) bc bs Q
  refine ex_if_ne (tgt := 11) (q := 8) dX11_whyOutOfReach_5 (fun c3 => ?_) (fun c3 => ?_)
  · replace w := w.1 c3
    refine ex_aload_n (q := 12) (x := a_0) dX11_whyOutOfReach_11 rfl ?_
    obtain ⟨a4, ea4, w⟩ := w
    refine ex_getr (q := 15) dX11_whyOutOfReach_12 fl_X11_158 s1 ea4 ?_
    refine ex_iload_n (q := 16) (x := v_1) dX11_whyOutOfReach_15 rfl ?_
    have s5 := w.1
    replace w := w.2
    refine ex_iald (q := 17) dX11_whyOutOfReach_16 s5 ?_
    refine ex_if_ge (tgt := 23) (q := 20) dX11_whyOutOfReach_17 (fun c6 => ?_) (fun c6 => ?_)
    · replace w := w.1 c6
      refine ex_iload_n (q := 24) (x := v_2) dX11_whyOutOfReach_23 rfl ?_
      refine ex_if_lt (tgt := 37) (q := 27) dX11_whyOutOfReach_24 (fun c7 => ?_) (fun c7 => ?_)
      · replace w := w.1 c7
        refine ex_bipush (q := 39) (v := (-12)) dX11_whyOutOfReach_37 (by decide) ?_
        refine ex_goto (tgt := 43) dX11_whyOutOfReach_39 ?_
        exact ex_ireturn dX11_whyOutOfReach_43 rfl (Or.inl rfl) w
      · replace w := w.2 c7
        refine ex_iload_n (q := 28) (x := v_2) dX11_whyOutOfReach_27 rfl ?_
        refine ex_aload_n (q := 29) (x := a_0) dX11_whyOutOfReach_28 rfl ?_
        refine ex_getr (q := 32) dX11_whyOutOfReach_29 fl_X11_158 s1 ea4 ?_
        refine ex_iload_n (q := 33) (x := v_1) dX11_whyOutOfReach_32 rfl ?_
        refine ex_iald (q := 34) dX11_whyOutOfReach_33 s5 ?_
        refine ex_icmp_lt (tgt := 42) (q := 37) dX11_whyOutOfReach_34 (fun c8 => ?_) (fun c8 => ?_)
        · replace w := w.1 c8
          refine ex_iconst (q := 43) (v := 0) dX11_whyOutOfReach_42 (by decide) ?_
          exact ex_ireturn dX11_whyOutOfReach_43 rfl (Or.inl rfl) w
        · replace w := w.2 c8
          refine ex_bipush (q := 39) (v := (-12)) dX11_whyOutOfReach_37 (by decide) ?_
          refine ex_goto (tgt := 43) dX11_whyOutOfReach_39 ?_
          exact ex_ireturn dX11_whyOutOfReach_43 rfl (Or.inl rfl) w
    · replace w := w.2 c6
      refine ex_bipush (q := 22) (v := (-11)) dX11_whyOutOfReach_20 (by decide) ?_
      exact ex_ireturn dX11_whyOutOfReach_22 rfl (Or.inl rfl) w
  · replace w := w.2 c3
    refine ex_bipush (q := 10) (v := (-12)) dX11_whyOutOfReach_8 (by decide) ?_
    exact ex_ireturn dX11_whyOutOfReach_10 rfl (Or.inl rfl) w

theorem X11_whyOutOfReach_e {d bc bs : Nat} {h : AH} {Q : Option Value → AH → Prop} {a_0 : Nat} {v_1 : Int32} {v_2 : Int32} (w : ex_G mX11_whyOutOfReach (d + 1) 0 [.ref a_0, .int v_1, .int v_2] [] h bc bs Q) : ex_S yX11_whyOutOfReach mX11_whyOutOfReach (d + 1) [.ref a_0, .int v_1, .int v_2] h bc bs Q :=
  ex_enter (plainFor_of_name (by decide +kernel)) ⟨rfl, rfl⟩ rfl rfl (Nat.le_of_ble_eq_true rfl) (ex_pad 0 w)

def X11_whyOutOfReach_V (a_0 : Nat) (v_1 : Int32) (v_2 : Int32) (h : AH) : Int32 := (if (X7_hasCrossing_V a_0 v_1 h) = 0 then (-12) else (if 0 ≤ (ah_i h (Option.getD (ah_r h a_0 0) 0) (Int32.toNatClampNeg v_1)) then (if v_2 < 0 then (-12) else (if v_2 < (ah_i h (Option.getD (ah_r h a_0 0) 0) (Int32.toNatClampNeg v_1)) then 0 else (-12))) else (-11)))
def X11_whyOutOfReach_C (a_0 : Nat) (v_1 : Int32) (v_2 : Int32) (h : AH) : Prop := ah_o h a_0 7 ∧ X7_hasCrossing_C a_0 v_1 h ∧ (¬ (X7_hasCrossing_V a_0 v_1 h) = 0 → ∃ a4, ah_r h a_0 0 = some a4 ∧ ld0 h a4 v_1 ∧ True) ∧ ((X7_hasCrossing_V a_0 v_1 h) = 0 → True)
theorem X11_whyOutOfReach_s {d bc bs : Nat} {h : AH} {Q : Option Value → AH → Prop} {a_0 : Nat} {v_1 : Int32} {v_2 : Int32} (c : X11_whyOutOfReach_C a_0 v_1 v_2 h) (w : Q (some (.int (X11_whyOutOfReach_V a_0 v_1 v_2 h))) h) : ex_S yX11_whyOutOfReach mX11_whyOutOfReach (d + 1) [.ref a_0, .int v_1, .int v_2] h bc bs Q := by
  unfold X11_whyOutOfReach_V at w
  unfold X11_whyOutOfReach_C at c
  refine X11_whyOutOfReach_e (X11_whyOutOfReach_0 ?_)
  obtain ⟨c1, c⟩ := c
  refine ⟨c1, ?_⟩
  obtain ⟨c1, c⟩ := c
  refine ⟨c1, ?_⟩
  refine ⟨fun k => ?_, fun k => ?_⟩
  · rw [if_neg k] at w
    replace c := c.1 k
    obtain ⟨a4, ea4, c⟩ := c
    try simp only [ea4, Option.getD_some] at w
    refine ⟨a4, ea4, ?_⟩
    obtain ⟨c1, c⟩ := c
    refine ⟨c1, ?_⟩
    refine ⟨fun k => ?_, fun k => ?_⟩
    · rw [if_pos k] at w
      refine ⟨fun k => ?_, fun k => ?_⟩
      · rw [if_pos k] at w
        exact w
      · rw [if_neg k] at w
        refine ⟨fun k => ?_, fun k => ?_⟩
        · rw [if_pos k] at w
          exact w
        · rw [if_neg k] at w
          exact w
    · rw [if_neg k] at w
      exact w
  · rw [if_pos k] at w
    replace c := c.2 k
    exact w

set_option maxRecDepth 100000 in
theorem X12_at_0 {d bc bs : Nat} {h : AH} {Q : Option Value → AH → Prop} {a_0 : Nat} {v_1 : Int32} (w : ah_o h a_0 12 ∧ (((ah_f h a_0 22) = 0 → Q (some (.long 0)) h) ∧ (¬ (ah_f h a_0 22) = 0 → (((X12_in_V (Int32.toInt64 v_1) (-300) 300 h) = 0 → Q (some (.long 0)) h) ∧ (¬ (X12_in_V (Int32.toInt64 v_1) (-300) 300 h) = 0 → ∃ a4, ah_r h a_0 21 = some a4 ∧ ld2 h a4 (v_1 + 300) ∧ Q (some (.long (ah_l h a4 (Int32.toNatClampNeg (v_1 + 300))))) h))))) : ex_G mX12_at (d + 1) 0 [.ref a_0, .int v_1] [] h bc bs Q := by
  refine ex_aload_n (q := 1) (x := a_0) dX12_at_0 rfl ?_
  have s1 := w.1
  replace w := w.2
  refine ex_getf (q := 4) dX12_at_1 fl_X12_263 s1 ?_
  refine ex_if_eq (tgt := 34) (q := 7) dX12_at_4 (fun c2 => ?_) (fun c2 => ?_)
  · replace w := w.1 c2
    refine ex_lconst (q := 35) (v := 0) dX12_at_34 (by decide) ?_
    exact ex_lreturn dX12_at_35 w
  · replace w := w.2 c2
    refine ex_iload_n (q := 8) (x := v_1) dX12_at_7 rfl ?_
    refine ex_i2l (q := 9) dX12_at_8 ?_
    refine ex_ldc2_w (q := 12) (v := (-300)) dX12_at_9 wd_1749 ?_
    refine ex_ldc2_w (q := 15) (v := 300) dX12_at_12 wd_1750 ?_
    refine ex_callS (q := 18) (M := mX12_at) (hdd := Nat.le_refl _) (mc := 0) (ms := 0) (d' := d) (st := []) (bc := bc) (bs := bs) dX12_at_15 rfl cl_X12_172 wd_1596 (X12_in_s (Q := fun r z => r = some (.int (X12_in_V (Int32.toInt64 v_1) (-300) 300 h)) ∧ z = h) ⟨rfl, rfl⟩) ?_
    intro r z hrz
    rw [hrz.1, hrz.2]
    show ex_G mX12_at (d + 1) 18 [.ref a_0, .int v_1] [.int (X12_in_V (Int32.toInt64 v_1) (-300) 300 h)] (h) bc bs Q
    refine ex_if_eq (tgt := 34) (q := 21) dX12_at_18 (fun c3 => ?_) (fun c3 => ?_)
    · replace w := w.1 c3
      refine ex_lconst (q := 35) (v := 0) dX12_at_34 (by decide) ?_
      exact ex_lreturn dX12_at_35 w
    · replace w := w.2 c3
      refine ex_aload_n (q := 22) (x := a_0) dX12_at_21 rfl ?_
      obtain ⟨a4, ea4, w⟩ := w
      refine ex_getr (q := 25) dX12_at_22 fl_X12_71 s1 ea4 ?_
      refine ex_iload_n (q := 26) (x := v_1) dX12_at_25 rfl ?_
      refine ex_sipush (q := 29) (v := 300) dX12_at_26 (by decide) ?_
      refine ex_iadd (q := 30) dX12_at_29 ?_
      have s5 := w.1
      replace w := w.2
      refine ex_lald (q := 31) dX12_at_30 s5 ?_
      refine ex_goto (tgt := 35) dX12_at_31 ?_
      exact ex_lreturn dX12_at_35 w

theorem X12_at_e {d bc bs : Nat} {h : AH} {Q : Option Value → AH → Prop} {a_0 : Nat} {v_1 : Int32} (w : ex_G mX12_at (d + 1) 0 [.ref a_0, .int v_1] [] h bc bs Q) : ex_S yX12_at mX12_at (d + 1) [.ref a_0, .int v_1] h bc bs Q :=
  ex_enter (plainFor_of_name (by decide +kernel)) ⟨rfl, rfl⟩ rfl rfl (Nat.le_of_ble_eq_true rfl) (ex_pad 0 w)

def X12_at_V (a_0 : Nat) (v_1 : Int32) (h : AH) : Int64 := (if (ah_f h a_0 22) = 0 then 0 else (if (X12_in_V (Int32.toInt64 v_1) (-300) 300 h) = 0 then 0 else ah_l h (Option.getD (ah_r h a_0 21) 0) (Int32.toNatClampNeg (v_1 + 300))))
def X12_at_C (a_0 : Nat) (v_1 : Int32) (h : AH) : Prop := ah_o h a_0 12 ∧ ((ah_f h a_0 22) = 0 → True) ∧ (¬ (ah_f h a_0 22) = 0 → ((X12_in_V (Int32.toInt64 v_1) (-300) 300 h) = 0 → True) ∧ (¬ (X12_in_V (Int32.toInt64 v_1) (-300) 300 h) = 0 → ∃ a4, ah_r h a_0 21 = some a4 ∧ ld2 h a4 (v_1 + 300) ∧ True))
theorem X12_at_s {d bc bs : Nat} {h : AH} {Q : Option Value → AH → Prop} {a_0 : Nat} {v_1 : Int32} (c : X12_at_C a_0 v_1 h) (w : Q (some (.long (X12_at_V a_0 v_1 h))) h) : ex_S yX12_at mX12_at (d + 1) [.ref a_0, .int v_1] h bc bs Q := by
  unfold X12_at_V at w
  unfold X12_at_C at c
  refine X12_at_e (X12_at_0 ?_)
  obtain ⟨c1, c⟩ := c
  refine ⟨c1, ?_⟩
  refine ⟨fun k => ?_, fun k => ?_⟩
  · rw [if_pos k] at w
    replace c := c.1 k
    exact w
  · rw [if_neg k] at w
    replace c := c.2 k
    refine ⟨fun k => ?_, fun k => ?_⟩
    · rw [if_pos k] at w
      replace c := c.1 k
      exact w
    · rw [if_neg k] at w
      replace c := c.2 k
      obtain ⟨a4, ea4, c⟩ := c
      try simp only [ea4, Option.getD_some] at w
      refine ⟨a4, ea4, ?_⟩
      obtain ⟨c1, c⟩ := c
      refine ⟨c1, ?_⟩
      exact w

set_option maxRecDepth 100000 in
theorem X12_clear_0 {d bc bs : Nat} {h : AH} {Q : Option Value → AH → Prop} {a_0 : Nat} (w : ah_o h a_0 12 ∧ ∀ x2, x2 = ah_f h a_0 29 → ∀ h3, h3 = ah_sf h a_0 29 0 → X12_well_C a_0 x2 h3 ∧ ∀ h5, h5 = X12_well_H a_0 x2 h3 → Q (some (.int (X12_well_V a_0 x2 h3))) h5) : ex_G mX12_clear (d + 1) 0 [.ref a_0, .retAddr 0] [] h bc bs Q := by
  refine ex_aload_n (q := 1) (x := a_0) dX12_clear_0 rfl ?_
  have s1 := w.1
  replace w := w.2
  refine ex_getf (q := 4) dX12_clear_1 fl_X12_281 s1 ?_
  refine ex_nmi (fun x2 ex2 => ?_)
  replace w := w x2 ex2
  refine ex_istore_n (q := 5) (ls' := [.ref a_0, .int x2]) dX12_clear_4 rfl ?_
  refine ex_aload_n (q := 6) (x := a_0) dX12_clear_5 rfl ?_
  refine ex_iconst (q := 7) (v := 0) dX12_clear_6 (by decide) ?_
  refine ex_putf (q := 10) dX12_clear_7 fl_X12_281 (Or.inl rfl) s1 (Or.inl rfl) ?_
  refine ex_nmh (fun h3 eh3 => ?_)
  replace w := w h3 eh3
  refine ex_aload_n (q := 11) (x := a_0) dX12_clear_10 rfl ?_
  refine ex_iload_n (q := 12) (x := x2) dX12_clear_11 rfl ?_
  have s4 := w.1
  replace w := w.2
  refine ex_callV (q := 15) (M := mX12_clear) (hdd := Nat.le_refl _) (mc := 0) (ms := 0) (d' := d) (c := 12) (st := []) (bc := bc) (bs := bs) dX12_clear_12 rfl cl_X12_180 wd_1585 wd_47 (by rw [eh3]; exact s1) (X12_well_s (Q := fun r z => r = some (.int (X12_well_V a_0 x2 h3)) ∧ z = X12_well_H a_0 x2 h3) s4 ⟨rfl, rfl⟩) ?_
  intro r z hrz
  rw [hrz.1, hrz.2]
  show ex_G mX12_clear (d + 1) 15 [.ref a_0, .int x2] [.int (X12_well_V a_0 x2 h3)] (X12_well_H a_0 x2 h3) bc bs Q
  refine ex_nmh (fun h5 eh5 => ?_)
  replace w := w h5 eh5
  exact ex_ireturn dX12_clear_15 rfl (Or.inl rfl) w

theorem X12_clear_e {d bc bs : Nat} {h : AH} {Q : Option Value → AH → Prop} {a_0 : Nat} (w : ex_G mX12_clear (d + 1) 0 [.ref a_0, .retAddr 0] [] h bc bs Q) : ex_S yX12_clear mX12_clear (d + 1) [.ref a_0] h bc bs Q :=
  ex_enter (plainFor_of_name (by decide +kernel)) ⟨rfl, rfl⟩ rfl rfl (Nat.le_of_ble_eq_true rfl) (ex_pad 1 w)

def X12_clear_V (a_0 : Nat) (h : AH) : Int32 := X12_well_V a_0 (ah_f h a_0 29) (ah_sf h a_0 29 0)
def X12_clear_H (a_0 : Nat) (h : AH) : AH := (X12_well_H a_0 (ah_f h a_0 29) (ah_sf h a_0 29 0))
def X12_clear_C (a_0 : Nat) (h : AH) : Prop := ah_o h a_0 12 ∧ X12_well_C a_0 (ah_f h a_0 29) (ah_sf h a_0 29 0) ∧ True
theorem X12_clear_s {d bc bs : Nat} {h : AH} {Q : Option Value → AH → Prop} {a_0 : Nat} (c : X12_clear_C a_0 h) (w : Q (some (.int (X12_clear_V a_0 h))) (X12_clear_H a_0 h)) : ex_S yX12_clear mX12_clear (d + 1) [.ref a_0] h bc bs Q := by
  unfold X12_clear_V X12_clear_H at w
  unfold X12_clear_C at c
  refine X12_clear_e (X12_clear_0 ?_)
  obtain ⟨c1, c⟩ := c
  refine ⟨c1, ?_⟩
  intro x2 ex2
  subst ex2
  intro h3 eh3
  subst eh3
  obtain ⟨c1, c⟩ := c
  refine ⟨c1, ?_⟩
  intro h5 eh5
  subst eh5
  exact w

set_option maxRecDepth 100000 in
theorem X12_findings_0 {d bc bs : Nat} {h : AH} {Q : Option Value → AH → Prop} {a_0 : Nat} {v_1 : Int32} (w : (((X12_in_V (Int32.toInt64 v_1) 1 9 h) = 0 → Q (some (.int (-2))) h) ∧ (¬ (X12_in_V (Int32.toInt64 v_1) 1 9 h) = 0 → ah_o h a_0 12 ∧ ∃ a3, ah_r h a_0 1 = some a3 ∧ ld0 h a3 v_1 ∧ Q (some (.int (ah_i h a3 (Int32.toNatClampNeg v_1)))) h))) : ex_G mX12_findings (d + 1) 0 [.ref a_0, .int v_1] [] h bc bs Q := by
  refine ex_iload_n (q := 1) (x := v_1) dX12_findings_0 rfl ?_
  refine ex_i2l (q := 2) dX12_findings_1 ?_
  refine ex_lconst (q := 3) (v := 1) dX12_findings_2 (by decide) ?_
  refine ex_ldc2_w (q := 6) (v := 9) dX12_findings_3 wd_1636 ?_
  refine ex_callS (q := 9) (M := mX12_findings) (hdd := Nat.le_refl _) (mc := 0) (ms := 0) (d' := d) (st := []) (bc := bc) (bs := bs) dX12_findings_6 rfl cl_X12_172 wd_1596 (X12_in_s (Q := fun r z => r = some (.int (X12_in_V (Int32.toInt64 v_1) 1 9 h)) ∧ z = h) ⟨rfl, rfl⟩) ?_
  intro r z hrz
  rw [hrz.1, hrz.2]
  show ex_G mX12_findings (d + 1) 9 [.ref a_0, .int v_1] [.int (X12_in_V (Int32.toInt64 v_1) 1 9 h)] (h) bc bs Q
  refine ex_if_eq (tgt := 21) (q := 12) dX12_findings_9 (fun c1 => ?_) (fun c1 => ?_)
  · replace w := w.1 c1
    refine ex_bipush (q := 23) (v := (-2)) dX12_findings_21 (by decide) ?_
    exact ex_ireturn dX12_findings_23 rfl (Or.inl rfl) w
  · replace w := w.2 c1
    refine ex_aload_n (q := 13) (x := a_0) dX12_findings_12 rfl ?_
    have s2 := w.1
    replace w := w.2
    obtain ⟨a3, ea3, w⟩ := w
    refine ex_getr (q := 16) dX12_findings_13 fl_X12_7 s2 ea3 ?_
    refine ex_iload_n (q := 17) (x := v_1) dX12_findings_16 rfl ?_
    have s4 := w.1
    replace w := w.2
    refine ex_iald (q := 18) dX12_findings_17 s4 ?_
    refine ex_goto (tgt := 23) dX12_findings_18 ?_
    exact ex_ireturn dX12_findings_23 rfl (Or.inl rfl) w

theorem X12_findings_e {d bc bs : Nat} {h : AH} {Q : Option Value → AH → Prop} {a_0 : Nat} {v_1 : Int32} (w : ex_G mX12_findings (d + 1) 0 [.ref a_0, .int v_1] [] h bc bs Q) : ex_S yX12_findings mX12_findings (d + 1) [.ref a_0, .int v_1] h bc bs Q :=
  ex_enter (plainFor_of_name (by decide +kernel)) ⟨rfl, rfl⟩ rfl rfl (Nat.le_of_ble_eq_true rfl) (ex_pad 0 w)

def X12_findings_V (a_0 : Nat) (v_1 : Int32) (h : AH) : Int32 := (if (X12_in_V (Int32.toInt64 v_1) 1 9 h) = 0 then (-2) else ah_i h (Option.getD (ah_r h a_0 1) 0) (Int32.toNatClampNeg v_1))
def X12_findings_C (a_0 : Nat) (v_1 : Int32) (h : AH) : Prop := ((X12_in_V (Int32.toInt64 v_1) 1 9 h) = 0 → True) ∧ (¬ (X12_in_V (Int32.toInt64 v_1) 1 9 h) = 0 → ah_o h a_0 12 ∧ ∃ a3, ah_r h a_0 1 = some a3 ∧ ld0 h a3 v_1 ∧ True)
theorem X12_findings_s {d bc bs : Nat} {h : AH} {Q : Option Value → AH → Prop} {a_0 : Nat} {v_1 : Int32} (c : X12_findings_C a_0 v_1 h) (w : Q (some (.int (X12_findings_V a_0 v_1 h))) h) : ex_S yX12_findings mX12_findings (d + 1) [.ref a_0, .int v_1] h bc bs Q := by
  unfold X12_findings_V at w
  unfold X12_findings_C at c
  refine X12_findings_e (X12_findings_0 ?_)
  refine ⟨fun k => ?_, fun k => ?_⟩
  · rw [if_pos k] at w
    replace c := c.1 k
    exact w
  · rw [if_neg k] at w
    replace c := c.2 k
    obtain ⟨c1, c⟩ := c
    refine ⟨c1, ?_⟩
    obtain ⟨a3, ea3, c⟩ := c
    try simp only [ea3, Option.getD_some] at w
    refine ⟨a3, ea3, ?_⟩
    obtain ⟨c1, c⟩ := c
    refine ⟨c1, ?_⟩
    exact w

set_option maxRecDepth 100000 in
theorem X12_isArc_0 {d bc bs : Nat} {h : AH} {Q : Option Value → AH → Prop} {v_0 : Int32} (w : bo (X12_in_V (Int32.toInt64 v_0) (-1) 99 h) ∧ Q (some (.int (X12_in_V (Int32.toInt64 v_0) (-1) 99 h))) h) : ex_G mX12_isArc (d + 1) 0 [.int v_0] [] h bc bs Q := by
  refine ex_iload_n (q := 1) (x := v_0) dX12_isArc_0 rfl ?_
  refine ex_i2l (q := 2) dX12_isArc_1 ?_
  refine ex_ldc2_w (q := 5) (v := (-1)) dX12_isArc_2 wd_1601 ?_
  refine ex_ldc2_w (q := 8) (v := 99) dX12_isArc_5 wd_1602 ?_
  refine ex_callS (q := 11) (M := mX12_isArc) (hdd := Nat.le_refl _) (mc := 0) (ms := 0) (d' := d) (st := []) (bc := bc) (bs := bs) dX12_isArc_8 rfl cl_X12_172 wd_1596 (X12_in_s (Q := fun r z => r = some (.int (X12_in_V (Int32.toInt64 v_0) (-1) 99 h)) ∧ z = h) ⟨rfl, rfl⟩) ?_
  intro r z hrz
  rw [hrz.1, hrz.2]
  show ex_G mX12_isArc (d + 1) 11 [.int v_0] [.int (X12_in_V (Int32.toInt64 v_0) (-1) 99 h)] (h) bc bs Q
  have s1 := w.1
  replace w := w.2
  exact ex_ireturn dX12_isArc_11 rfl (Or.inr ⟨rfl, s1⟩) w

theorem X12_isArc_e {d bc bs : Nat} {h : AH} {Q : Option Value → AH → Prop} {v_0 : Int32} (w : ex_G mX12_isArc (d + 1) 0 [.int v_0] [] h bc bs Q) : ex_S yX12_isArc mX12_isArc (d + 1) [.int v_0] h bc bs Q :=
  ex_enter (plainFor_of_name (by decide +kernel)) ⟨rfl, rfl⟩ rfl rfl (Nat.le_of_ble_eq_true rfl) (ex_pad 0 w)

def X12_isArc_V (v_0 : Int32) (h : AH) : Int32 := X12_in_V (Int32.toInt64 v_0) (-1) 99 h
def X12_isArc_C (v_0 : Int32) (h : AH) : Prop := bo (X12_in_V (Int32.toInt64 v_0) (-1) 99 h) ∧ True
theorem X12_isArc_s {d bc bs : Nat} {h : AH} {Q : Option Value → AH → Prop} {v_0 : Int32} (c : X12_isArc_C v_0 h) (w : Q (some (.int (X12_isArc_V v_0 h))) h) : ex_S yX12_isArc mX12_isArc (d + 1) [.int v_0] h bc bs Q := by
  unfold X12_isArc_V at w
  unfold X12_isArc_C at c
  refine X12_isArc_e (X12_isArc_0 ?_)
  obtain ⟨c1, c⟩ := c
  refine ⟨c1, ?_⟩
  exact w

set_option maxRecDepth 100000 in
theorem X12_isEnd_0 {d bc bs : Nat} {h : AH} {Q : Option Value → AH → Prop} {a_0 : Nat} {v_1 : Int32} {v_2 : Int32} (w : ah_o h a_0 12 ∧ ∃ a2, ah_r h a_0 2 = some a2 ∧ ld0 h a2 v_1 ∧ bo (X12_in_V (Int32.toInt64 v_2) 0 (Int32.toInt64 ((4 * (ah_i h a2 (Int32.toNatClampNeg v_1))) - 1)) h) ∧ Q (some (.int (X12_in_V (Int32.toInt64 v_2) 0 (Int32.toInt64 ((4 * (ah_i h a2 (Int32.toNatClampNeg v_1))) - 1)) h))) h) : ex_G mX12_isEnd (d + 1) 0 [.ref a_0, .int v_1, .int v_2] [] h bc bs Q := by
  refine ex_iload_n (q := 1) (x := v_2) dX12_isEnd_0 rfl ?_
  refine ex_i2l (q := 2) dX12_isEnd_1 ?_
  refine ex_lconst (q := 3) (v := 0) dX12_isEnd_2 (by decide) ?_
  refine ex_iconst (q := 4) (v := 4) dX12_isEnd_3 (by decide) ?_
  refine ex_aload_n (q := 5) (x := a_0) dX12_isEnd_4 rfl ?_
  have s1 := w.1
  replace w := w.2
  obtain ⟨a2, ea2, w⟩ := w
  refine ex_getr (q := 8) dX12_isEnd_5 fl_X12_13 s1 ea2 ?_
  refine ex_iload_n (q := 9) (x := v_1) dX12_isEnd_8 rfl ?_
  have s3 := w.1
  replace w := w.2
  refine ex_iald (q := 10) dX12_isEnd_9 s3 ?_
  refine ex_imul (q := 11) dX12_isEnd_10 ?_
  refine ex_iconst (q := 12) (v := 1) dX12_isEnd_11 (by decide) ?_
  refine ex_isub (q := 13) dX12_isEnd_12 ?_
  refine ex_i2l (q := 14) dX12_isEnd_13 ?_
  refine ex_callS (q := 17) (M := mX12_isEnd) (hdd := Nat.le_refl _) (mc := 0) (ms := 0) (d' := d) (st := []) (bc := bc) (bs := bs) dX12_isEnd_14 rfl cl_X12_172 wd_1596 (X12_in_s (Q := fun r z => r = some (.int (X12_in_V (Int32.toInt64 v_2) 0 (Int32.toInt64 ((4 * (ah_i h a2 (Int32.toNatClampNeg v_1))) - 1)) h)) ∧ z = h) ⟨rfl, rfl⟩) ?_
  intro r z hrz
  rw [hrz.1, hrz.2]
  show ex_G mX12_isEnd (d + 1) 17 [.ref a_0, .int v_1, .int v_2] [.int (X12_in_V (Int32.toInt64 v_2) 0 (Int32.toInt64 ((4 * (ah_i h a2 (Int32.toNatClampNeg v_1))) - 1)) h)] (h) bc bs Q
  have s4 := w.1
  replace w := w.2
  exact ex_ireturn dX12_isEnd_17 rfl (Or.inr ⟨rfl, s4⟩) w

theorem X12_isEnd_e {d bc bs : Nat} {h : AH} {Q : Option Value → AH → Prop} {a_0 : Nat} {v_1 : Int32} {v_2 : Int32} (w : ex_G mX12_isEnd (d + 1) 0 [.ref a_0, .int v_1, .int v_2] [] h bc bs Q) : ex_S yX12_isEnd mX12_isEnd (d + 1) [.ref a_0, .int v_1, .int v_2] h bc bs Q :=
  ex_enter (plainFor_of_name (by decide +kernel)) ⟨rfl, rfl⟩ rfl rfl (Nat.le_of_ble_eq_true rfl) (ex_pad 0 w)

def X12_isEnd_V (a_0 : Nat) (v_1 : Int32) (v_2 : Int32) (h : AH) : Int32 := X12_in_V (Int32.toInt64 v_2) 0 (Int32.toInt64 ((4 * (ah_i h (Option.getD (ah_r h a_0 2) 0) (Int32.toNatClampNeg v_1))) - 1)) h
def X12_isEnd_C (a_0 : Nat) (v_1 : Int32) (v_2 : Int32) (h : AH) : Prop := ah_o h a_0 12 ∧ ∃ a2, ah_r h a_0 2 = some a2 ∧ ld0 h a2 v_1 ∧ bo (X12_in_V (Int32.toInt64 v_2) 0 (Int32.toInt64 ((4 * (ah_i h a2 (Int32.toNatClampNeg v_1))) - 1)) h) ∧ True
theorem X12_isEnd_s {d bc bs : Nat} {h : AH} {Q : Option Value → AH → Prop} {a_0 : Nat} {v_1 : Int32} {v_2 : Int32} (c : X12_isEnd_C a_0 v_1 v_2 h) (w : Q (some (.int (X12_isEnd_V a_0 v_1 v_2 h))) h) : ex_S yX12_isEnd mX12_isEnd (d + 1) [.ref a_0, .int v_1, .int v_2] h bc bs Q := by
  unfold X12_isEnd_V at w
  unfold X12_isEnd_C at c
  refine X12_isEnd_e (X12_isEnd_0 ?_)
  obtain ⟨c1, c⟩ := c
  refine ⟨c1, ?_⟩
  obtain ⟨a2, ea2, c⟩ := c
  try simp only [ea2, Option.getD_some] at w
  refine ⟨a2, ea2, ?_⟩
  obtain ⟨c1, c⟩ := c
  refine ⟨c1, ?_⟩
  obtain ⟨c1, c⟩ := c
  refine ⟨c1, ?_⟩
  exact w

set_option maxRecDepth 100000 in
theorem X12_isMove_0 {d bc bs : Nat} {h : AH} {Q : Option Value → AH → Prop} {a_0 : Nat} {v_1 : Int32} (w : ah_o h a_0 12 ∧ bo (X12_in_V (Int32.toInt64 v_1) 0 (Int32.toInt64 ((ah_f h a_0 35) - 1)) h) ∧ Q (some (.int (X12_in_V (Int32.toInt64 v_1) 0 (Int32.toInt64 ((ah_f h a_0 35) - 1)) h))) h) : ex_G mX12_isMove (d + 1) 0 [.ref a_0, .int v_1] [] h bc bs Q := by
  refine ex_iload_n (q := 1) (x := v_1) dX12_isMove_0 rfl ?_
  refine ex_i2l (q := 2) dX12_isMove_1 ?_
  refine ex_lconst (q := 3) (v := 0) dX12_isMove_2 (by decide) ?_
  refine ex_aload_n (q := 4) (x := a_0) dX12_isMove_3 rfl ?_
  have s1 := w.1
  replace w := w.2
  refine ex_getf (q := 7) dX12_isMove_4 fl_X12_365 s1 ?_
  refine ex_iconst (q := 8) (v := 1) dX12_isMove_7 (by decide) ?_
  refine ex_isub (q := 9) dX12_isMove_8 ?_
  refine ex_i2l (q := 10) dX12_isMove_9 ?_
  refine ex_callS (q := 13) (M := mX12_isMove) (hdd := Nat.le_refl _) (mc := 0) (ms := 0) (d' := d) (st := []) (bc := bc) (bs := bs) dX12_isMove_10 rfl cl_X12_172 wd_1596 (X12_in_s (Q := fun r z => r = some (.int (X12_in_V (Int32.toInt64 v_1) 0 (Int32.toInt64 ((ah_f h a_0 35) - 1)) h)) ∧ z = h) ⟨rfl, rfl⟩) ?_
  intro r z hrz
  rw [hrz.1, hrz.2]
  show ex_G mX12_isMove (d + 1) 13 [.ref a_0, .int v_1] [.int (X12_in_V (Int32.toInt64 v_1) 0 (Int32.toInt64 ((ah_f h a_0 35) - 1)) h)] (h) bc bs Q
  have s2 := w.1
  replace w := w.2
  exact ex_ireturn dX12_isMove_13 rfl (Or.inr ⟨rfl, s2⟩) w

theorem X12_isMove_e {d bc bs : Nat} {h : AH} {Q : Option Value → AH → Prop} {a_0 : Nat} {v_1 : Int32} (w : ex_G mX12_isMove (d + 1) 0 [.ref a_0, .int v_1] [] h bc bs Q) : ex_S yX12_isMove mX12_isMove (d + 1) [.ref a_0, .int v_1] h bc bs Q :=
  ex_enter (plainFor_of_name (by decide +kernel)) ⟨rfl, rfl⟩ rfl rfl (Nat.le_of_ble_eq_true rfl) (ex_pad 0 w)

def X12_isMove_V (a_0 : Nat) (v_1 : Int32) (h : AH) : Int32 := X12_in_V (Int32.toInt64 v_1) 0 (Int32.toInt64 ((ah_f h a_0 35) - 1)) h
def X12_isMove_C (a_0 : Nat) (v_1 : Int32) (h : AH) : Prop := ah_o h a_0 12 ∧ bo (X12_in_V (Int32.toInt64 v_1) 0 (Int32.toInt64 ((ah_f h a_0 35) - 1)) h) ∧ True
theorem X12_isMove_s {d bc bs : Nat} {h : AH} {Q : Option Value → AH → Prop} {a_0 : Nat} {v_1 : Int32} (c : X12_isMove_C a_0 v_1 h) (w : Q (some (.int (X12_isMove_V a_0 v_1 h))) h) : ex_S yX12_isMove mX12_isMove (d + 1) [.ref a_0, .int v_1] h bc bs Q := by
  unfold X12_isMove_V at w
  unfold X12_isMove_C at c
  refine X12_isMove_e (X12_isMove_0 ?_)
  obtain ⟨c1, c⟩ := c
  refine ⟨c1, ?_⟩
  obtain ⟨c1, c⟩ := c
  refine ⟨c1, ?_⟩
  exact w

set_option maxRecDepth 100000 in
theorem X12_isPicture_0 {d bc bs : Nat} {h : AH} {Q : Option Value → AH → Prop} {a_0 : Nat} {v_1 : Int32} (w : ah_o h a_0 12 ∧ bo (X12_in_V (Int32.toInt64 v_1) 0 (Int32.toInt64 ((ah_f h a_0 6) - 1)) h) ∧ Q (some (.int (X12_in_V (Int32.toInt64 v_1) 0 (Int32.toInt64 ((ah_f h a_0 6) - 1)) h))) h) : ex_G mX12_isPicture (d + 1) 0 [.ref a_0, .int v_1] [] h bc bs Q := by
  refine ex_iload_n (q := 1) (x := v_1) dX12_isPicture_0 rfl ?_
  refine ex_i2l (q := 2) dX12_isPicture_1 ?_
  refine ex_lconst (q := 3) (v := 0) dX12_isPicture_2 (by decide) ?_
  refine ex_aload_n (q := 4) (x := a_0) dX12_isPicture_3 rfl ?_
  have s1 := w.1
  replace w := w.2
  refine ex_getf (q := 7) dX12_isPicture_4 fl_X12_169 s1 ?_
  refine ex_iconst (q := 8) (v := 1) dX12_isPicture_7 (by decide) ?_
  refine ex_isub (q := 9) dX12_isPicture_8 ?_
  refine ex_i2l (q := 10) dX12_isPicture_9 ?_
  refine ex_callS (q := 13) (M := mX12_isPicture) (hdd := Nat.le_refl _) (mc := 0) (ms := 0) (d' := d) (st := []) (bc := bc) (bs := bs) dX12_isPicture_10 rfl cl_X12_172 wd_1596 (X12_in_s (Q := fun r z => r = some (.int (X12_in_V (Int32.toInt64 v_1) 0 (Int32.toInt64 ((ah_f h a_0 6) - 1)) h)) ∧ z = h) ⟨rfl, rfl⟩) ?_
  intro r z hrz
  rw [hrz.1, hrz.2]
  show ex_G mX12_isPicture (d + 1) 13 [.ref a_0, .int v_1] [.int (X12_in_V (Int32.toInt64 v_1) 0 (Int32.toInt64 ((ah_f h a_0 6) - 1)) h)] (h) bc bs Q
  have s2 := w.1
  replace w := w.2
  exact ex_ireturn dX12_isPicture_13 rfl (Or.inr ⟨rfl, s2⟩) w

theorem X12_isPicture_e {d bc bs : Nat} {h : AH} {Q : Option Value → AH → Prop} {a_0 : Nat} {v_1 : Int32} (w : ex_G mX12_isPicture (d + 1) 0 [.ref a_0, .int v_1] [] h bc bs Q) : ex_S yX12_isPicture mX12_isPicture (d + 1) [.ref a_0, .int v_1] h bc bs Q :=
  ex_enter (plainFor_of_name (by decide +kernel)) ⟨rfl, rfl⟩ rfl rfl (Nat.le_of_ble_eq_true rfl) (ex_pad 0 w)

def X12_isPicture_V (a_0 : Nat) (v_1 : Int32) (h : AH) : Int32 := X12_in_V (Int32.toInt64 v_1) 0 (Int32.toInt64 ((ah_f h a_0 6) - 1)) h
def X12_isPicture_C (a_0 : Nat) (v_1 : Int32) (h : AH) : Prop := ah_o h a_0 12 ∧ bo (X12_in_V (Int32.toInt64 v_1) 0 (Int32.toInt64 ((ah_f h a_0 6) - 1)) h) ∧ True
theorem X12_isPicture_s {d bc bs : Nat} {h : AH} {Q : Option Value → AH → Prop} {a_0 : Nat} {v_1 : Int32} (c : X12_isPicture_C a_0 v_1 h) (w : Q (some (.int (X12_isPicture_V a_0 v_1 h))) h) : ex_S yX12_isPicture mX12_isPicture (d + 1) [.ref a_0, .int v_1] h bc bs Q := by
  unfold X12_isPicture_V at w
  unfold X12_isPicture_C at c
  refine X12_isPicture_e (X12_isPicture_0 ?_)
  obtain ⟨c1, c⟩ := c
  refine ⟨c1, ?_⟩
  obtain ⟨c1, c⟩ := c
  refine ⟨c1, ?_⟩
  exact w

set_option maxRecDepth 100000 in
theorem X12_item_0 {d bc bs : Nat} {h : AH} {Q : Option Value → AH → Prop} {a_0 : Nat} {v_1 : Int32} (w : ah_o h a_0 12 ∧ (((X12_in_V (Int32.toInt64 v_1) 0 (Int32.toInt64 ((ah_f h a_0 29) - 1)) h) = 0 → Q (some (.int (-2))) h) ∧ (¬ (X12_in_V (Int32.toInt64 v_1) 0 (Int32.toInt64 ((ah_f h a_0 29) - 1)) h) = 0 → ∃ a3, ah_r h a_0 28 = some a3 ∧ ld0 h a3 v_1 ∧ Q (some (.int (ah_i h a3 (Int32.toNatClampNeg v_1)))) h))) : ex_G mX12_item (d + 1) 0 [.ref a_0, .int v_1] [] h bc bs Q := by
  refine ex_iload_n (q := 1) (x := v_1) dX12_item_0 rfl ?_
  refine ex_i2l (q := 2) dX12_item_1 ?_
  refine ex_lconst (q := 3) (v := 0) dX12_item_2 (by decide) ?_
  refine ex_aload_n (q := 4) (x := a_0) dX12_item_3 rfl ?_
  have s1 := w.1
  replace w := w.2
  refine ex_getf (q := 7) dX12_item_4 fl_X12_281 s1 ?_
  refine ex_iconst (q := 8) (v := 1) dX12_item_7 (by decide) ?_
  refine ex_isub (q := 9) dX12_item_8 ?_
  refine ex_i2l (q := 10) dX12_item_9 ?_
  refine ex_callS (q := 13) (M := mX12_item) (hdd := Nat.le_refl _) (mc := 0) (ms := 0) (d' := d) (st := []) (bc := bc) (bs := bs) dX12_item_10 rfl cl_X12_172 wd_1596 (X12_in_s (Q := fun r z => r = some (.int (X12_in_V (Int32.toInt64 v_1) 0 (Int32.toInt64 ((ah_f h a_0 29) - 1)) h)) ∧ z = h) ⟨rfl, rfl⟩) ?_
  intro r z hrz
  rw [hrz.1, hrz.2]
  show ex_G mX12_item (d + 1) 13 [.ref a_0, .int v_1] [.int (X12_in_V (Int32.toInt64 v_1) 0 (Int32.toInt64 ((ah_f h a_0 29) - 1)) h)] (h) bc bs Q
  refine ex_if_eq (tgt := 25) (q := 16) dX12_item_13 (fun c2 => ?_) (fun c2 => ?_)
  · replace w := w.1 c2
    refine ex_bipush (q := 27) (v := (-2)) dX12_item_25 (by decide) ?_
    exact ex_ireturn dX12_item_27 rfl (Or.inl rfl) w
  · replace w := w.2 c2
    refine ex_aload_n (q := 17) (x := a_0) dX12_item_16 rfl ?_
    obtain ⟨a3, ea3, w⟩ := w
    refine ex_getr (q := 20) dX12_item_17 fl_X12_86 s1 ea3 ?_
    refine ex_iload_n (q := 21) (x := v_1) dX12_item_20 rfl ?_
    have s4 := w.1
    replace w := w.2
    refine ex_iald (q := 22) dX12_item_21 s4 ?_
    refine ex_goto (tgt := 27) dX12_item_22 ?_
    exact ex_ireturn dX12_item_27 rfl (Or.inl rfl) w

theorem X12_item_e {d bc bs : Nat} {h : AH} {Q : Option Value → AH → Prop} {a_0 : Nat} {v_1 : Int32} (w : ex_G mX12_item (d + 1) 0 [.ref a_0, .int v_1] [] h bc bs Q) : ex_S yX12_item mX12_item (d + 1) [.ref a_0, .int v_1] h bc bs Q :=
  ex_enter (plainFor_of_name (by decide +kernel)) ⟨rfl, rfl⟩ rfl rfl (Nat.le_of_ble_eq_true rfl) (ex_pad 0 w)

def X12_item_V (a_0 : Nat) (v_1 : Int32) (h : AH) : Int32 := (if (X12_in_V (Int32.toInt64 v_1) 0 (Int32.toInt64 ((ah_f h a_0 29) - 1)) h) = 0 then (-2) else ah_i h (Option.getD (ah_r h a_0 28) 0) (Int32.toNatClampNeg v_1))
def X12_item_C (a_0 : Nat) (v_1 : Int32) (h : AH) : Prop := ah_o h a_0 12 ∧ ((X12_in_V (Int32.toInt64 v_1) 0 (Int32.toInt64 ((ah_f h a_0 29) - 1)) h) = 0 → True) ∧ (¬ (X12_in_V (Int32.toInt64 v_1) 0 (Int32.toInt64 ((ah_f h a_0 29) - 1)) h) = 0 → ∃ a3, ah_r h a_0 28 = some a3 ∧ ld0 h a3 v_1 ∧ True)
theorem X12_item_s {d bc bs : Nat} {h : AH} {Q : Option Value → AH → Prop} {a_0 : Nat} {v_1 : Int32} (c : X12_item_C a_0 v_1 h) (w : Q (some (.int (X12_item_V a_0 v_1 h))) h) : ex_S yX12_item mX12_item (d + 1) [.ref a_0, .int v_1] h bc bs Q := by
  unfold X12_item_V at w
  unfold X12_item_C at c
  refine X12_item_e (X12_item_0 ?_)
  obtain ⟨c1, c⟩ := c
  refine ⟨c1, ?_⟩
  refine ⟨fun k => ?_, fun k => ?_⟩
  · rw [if_pos k] at w
    replace c := c.1 k
    exact w
  · rw [if_neg k] at w
    replace c := c.2 k
    obtain ⟨a3, ea3, c⟩ := c
    try simp only [ea3, Option.getD_some] at w
    refine ⟨a3, ea3, ?_⟩
    obtain ⟨c1, c⟩ := c
    refine ⟨c1, ?_⟩
    exact w

set_option maxRecDepth 100000 in
theorem X12_lacks_0 {d bc bs : Nat} {h : AH} {Q : Option Value → AH → Prop} {a_0 : Nat} {v_1 : Int32} {v_2 : Int32} {v_3 : Int32} (w : ah_o h a_0 12 ∧ ∃ a2, ah_r h a_0 2 = some a2 ∧ ld0 h a2 v_1 ∧ ((¬ (X12_in_V (Int32.toInt64 v_2) 0 (Int32.toInt64 ((ah_i h a2 (Int32.toNatClampNeg v_1)) - 1)) h) = 0 → ∃ a5, ah_r h a_0 4 = some a5 ∧ ld0 h a5 ((40 * v_1) + v_2) ∧ ((0 ≤ (ah_i h a5 (Int32.toNatClampNeg ((40 * v_1) + v_2))) → ((¬ (X12_in_V (Int32.toInt64 v_3) 0 (Int32.toInt64 ((ah_i h a5 (Int32.toNatClampNeg ((40 * v_1) + v_2))) - 1)) h) = 0 → Q (some (.int 0)) h) ∧ ((X12_in_V (Int32.toInt64 v_3) 0 (Int32.toInt64 ((ah_i h a5 (Int32.toNatClampNeg ((40 * v_1) + v_2))) - 1)) h) = 0 → Q (some (.int 2)) h))) ∧ (¬ 0 ≤ (ah_i h a5 (Int32.toNatClampNeg ((40 * v_1) + v_2))) → Q (some (.int 1)) h))) ∧ ((X12_in_V (Int32.toInt64 v_2) 0 (Int32.toInt64 ((ah_i h a2 (Int32.toNatClampNeg v_1)) - 1)) h) = 0 → Q (some (.int 2)) h))) : ex_G mX12_lacks (d + 1) 0 [.ref a_0, .int v_1, .int v_2, .int v_3] [] h bc bs Q := by
  refine ex_iload_n (q := 1) (x := v_2) dX12_lacks_0 rfl ?_
  refine ex_i2l (q := 2) dX12_lacks_1 ?_
  refine ex_lconst (q := 3) (v := 0) dX12_lacks_2 (by decide) ?_
  refine ex_aload_n (q := 4) (x := a_0) dX12_lacks_3 rfl ?_
  have s1 := w.1
  replace w := w.2
  obtain ⟨a2, ea2, w⟩ := w
  refine ex_getr (q := 7) dX12_lacks_4 fl_X12_13 s1 ea2 ?_
  refine ex_iload_n (q := 8) (x := v_1) dX12_lacks_7 rfl ?_
  have s3 := w.1
  replace w := w.2
  refine ex_iald (q := 9) dX12_lacks_8 s3 ?_
  refine ex_iconst (q := 10) (v := 1) dX12_lacks_9 (by decide) ?_
  refine ex_isub (q := 11) dX12_lacks_10 ?_
  refine ex_i2l (q := 12) dX12_lacks_11 ?_
  refine ex_callS (q := 15) (M := mX12_lacks) (hdd := Nat.le_refl _) (mc := 0) (ms := 0) (d' := d) (st := []) (bc := bc) (bs := bs) dX12_lacks_12 rfl cl_X12_172 wd_1596 (X12_in_s (Q := fun r z => r = some (.int (X12_in_V (Int32.toInt64 v_2) 0 (Int32.toInt64 ((ah_i h a2 (Int32.toNatClampNeg v_1)) - 1)) h)) ∧ z = h) ⟨rfl, rfl⟩) ?_
  intro r z hrz
  rw [hrz.1, hrz.2]
  show ex_G mX12_lacks (d + 1) 15 [.ref a_0, .int v_1, .int v_2, .int v_3] [.int (X12_in_V (Int32.toInt64 v_2) 0 (Int32.toInt64 ((ah_i h a2 (Int32.toNatClampNeg v_1)) - 1)) h)] (h) bc bs Q
  refine ex_if_ne (tgt := 22) (q := 18) dX12_lacks_15 (fun c4 => ?_) (fun c4 => ?_)
  · replace w := w.1 c4
    refine ex_aload_n (q := 23) (x := a_0) dX12_lacks_22 rfl ?_
    obtain ⟨a5, ea5, w⟩ := w
    refine ex_getr (q := 26) dX12_lacks_23 fl_X12_19 s1 ea5 ?_
    refine ex_bipush (q := 28) (v := 40) dX12_lacks_26 (by decide) ?_
    refine ex_iload_n (q := 29) (x := v_1) dX12_lacks_28 rfl ?_
    refine ex_imul (q := 30) dX12_lacks_29 ?_
    refine ex_iload_n (q := 31) (x := v_2) dX12_lacks_30 rfl ?_
    refine ex_iadd (q := 32) dX12_lacks_31 ?_
    have s6 := w.1
    replace w := w.2
    refine ex_iald (q := 33) dX12_lacks_32 s6 ?_
    refine ex_if_ge (tgt := 40) (q := 36) dX12_lacks_33 (fun c7 => ?_) (fun c7 => ?_)
    · replace w := w.1 c7
      refine ex_iload_n (q := 41) (x := v_3) dX12_lacks_40 rfl ?_
      refine ex_i2l (q := 42) dX12_lacks_41 ?_
      refine ex_lconst (q := 43) (v := 0) dX12_lacks_42 (by decide) ?_
      refine ex_aload_n (q := 44) (x := a_0) dX12_lacks_43 rfl ?_
      refine ex_getr (q := 47) dX12_lacks_44 fl_X12_19 s1 ea5 ?_
      refine ex_bipush (q := 49) (v := 40) dX12_lacks_47 (by decide) ?_
      refine ex_iload_n (q := 50) (x := v_1) dX12_lacks_49 rfl ?_
      refine ex_imul (q := 51) dX12_lacks_50 ?_
      refine ex_iload_n (q := 52) (x := v_2) dX12_lacks_51 rfl ?_
      refine ex_iadd (q := 53) dX12_lacks_52 ?_
      refine ex_iald (q := 54) dX12_lacks_53 s6 ?_
      refine ex_iconst (q := 55) (v := 1) dX12_lacks_54 (by decide) ?_
      refine ex_isub (q := 56) dX12_lacks_55 ?_
      refine ex_i2l (q := 57) dX12_lacks_56 ?_
      refine ex_callS (q := 60) (M := mX12_lacks) (hdd := Nat.le_refl _) (mc := 0) (ms := 0) (d' := d) (st := []) (bc := bc) (bs := bs) dX12_lacks_57 rfl cl_X12_172 wd_1596 (X12_in_s (Q := fun r z => r = some (.int (X12_in_V (Int32.toInt64 v_3) 0 (Int32.toInt64 ((ah_i h a5 (Int32.toNatClampNeg ((40 * v_1) + v_2))) - 1)) h)) ∧ z = h) ⟨rfl, rfl⟩) ?_
      intro r z hrz
      rw [hrz.1, hrz.2]
      show ex_G mX12_lacks (d + 1) 60 [.ref a_0, .int v_1, .int v_2, .int v_3] [.int (X12_in_V (Int32.toInt64 v_3) 0 (Int32.toInt64 ((ah_i h a5 (Int32.toNatClampNeg ((40 * v_1) + v_2))) - 1)) h)] (h) bc bs Q
      refine ex_if_ne (tgt := 67) (q := 63) dX12_lacks_60 (fun c8 => ?_) (fun c8 => ?_)
      · replace w := w.1 c8
        refine ex_iconst (q := 68) (v := 0) dX12_lacks_67 (by decide) ?_
        exact ex_ireturn dX12_lacks_68 rfl (Or.inl rfl) w
      · replace w := w.2 c8
        refine ex_iconst (q := 64) (v := 2) dX12_lacks_63 (by decide) ?_
        refine ex_goto (tgt := 68) dX12_lacks_64 ?_
        exact ex_ireturn dX12_lacks_68 rfl (Or.inl rfl) w
    · replace w := w.2 c7
      refine ex_iconst (q := 37) (v := 1) dX12_lacks_36 (by decide) ?_
      refine ex_goto (tgt := 68) dX12_lacks_37 ?_
      exact ex_ireturn dX12_lacks_68 rfl (Or.inl rfl) w
  · replace w := w.2 c4
    refine ex_iconst (q := 19) (v := 2) dX12_lacks_18 (by decide) ?_
    refine ex_goto (tgt := 68) dX12_lacks_19 ?_
    exact ex_ireturn dX12_lacks_68 rfl (Or.inl rfl) w

theorem X12_lacks_e {d bc bs : Nat} {h : AH} {Q : Option Value → AH → Prop} {a_0 : Nat} {v_1 : Int32} {v_2 : Int32} {v_3 : Int32} (w : ex_G mX12_lacks (d + 1) 0 [.ref a_0, .int v_1, .int v_2, .int v_3] [] h bc bs Q) : ex_S yX12_lacks mX12_lacks (d + 1) [.ref a_0, .int v_1, .int v_2, .int v_3] h bc bs Q :=
  ex_enter (plainFor_of_name (by decide +kernel)) ⟨rfl, rfl⟩ rfl rfl (Nat.le_of_ble_eq_true rfl) (ex_pad 0 w)

def X12_lacks_V (a_0 : Nat) (v_1 : Int32) (v_2 : Int32) (v_3 : Int32) (h : AH) : Int32 := (if (X12_in_V (Int32.toInt64 v_2) 0 (Int32.toInt64 ((ah_i h (Option.getD (ah_r h a_0 2) 0) (Int32.toNatClampNeg v_1)) - 1)) h) = 0 then 2 else (if 0 ≤ (ah_i h (Option.getD (ah_r h a_0 4) 0) (Int32.toNatClampNeg ((40 * v_1) + v_2))) then (if (X12_in_V (Int32.toInt64 v_3) 0 (Int32.toInt64 ((ah_i h (Option.getD (ah_r h a_0 4) 0) (Int32.toNatClampNeg ((40 * v_1) + v_2))) - 1)) h) = 0 then 2 else 0) else 1))
def X12_lacks_C (a_0 : Nat) (v_1 : Int32) (v_2 : Int32) (v_3 : Int32) (h : AH) : Prop := ah_o h a_0 12 ∧ ∃ a2, ah_r h a_0 2 = some a2 ∧ ld0 h a2 v_1 ∧ (¬ (X12_in_V (Int32.toInt64 v_2) 0 (Int32.toInt64 ((ah_i h a2 (Int32.toNatClampNeg v_1)) - 1)) h) = 0 → ∃ a5, ah_r h a_0 4 = some a5 ∧ ld0 h a5 ((40 * v_1) + v_2) ∧ True) ∧ ((X12_in_V (Int32.toInt64 v_2) 0 (Int32.toInt64 ((ah_i h a2 (Int32.toNatClampNeg v_1)) - 1)) h) = 0 → True)
theorem X12_lacks_s {d bc bs : Nat} {h : AH} {Q : Option Value → AH → Prop} {a_0 : Nat} {v_1 : Int32} {v_2 : Int32} {v_3 : Int32} (c : X12_lacks_C a_0 v_1 v_2 v_3 h) (w : Q (some (.int (X12_lacks_V a_0 v_1 v_2 v_3 h))) h) : ex_S yX12_lacks mX12_lacks (d + 1) [.ref a_0, .int v_1, .int v_2, .int v_3] h bc bs Q := by
  unfold X12_lacks_V at w
  unfold X12_lacks_C at c
  refine X12_lacks_e (X12_lacks_0 ?_)
  obtain ⟨c1, c⟩ := c
  refine ⟨c1, ?_⟩
  obtain ⟨a2, ea2, c⟩ := c
  try simp only [ea2, Option.getD_some] at w
  refine ⟨a2, ea2, ?_⟩
  obtain ⟨c1, c⟩ := c
  refine ⟨c1, ?_⟩
  refine ⟨fun k => ?_, fun k => ?_⟩
  · rw [if_neg k] at w
    replace c := c.1 k
    obtain ⟨a5, ea5, c⟩ := c
    try simp only [ea5, Option.getD_some] at w
    refine ⟨a5, ea5, ?_⟩
    obtain ⟨c1, c⟩ := c
    refine ⟨c1, ?_⟩
    refine ⟨fun k => ?_, fun k => ?_⟩
    · rw [if_pos k] at w
      refine ⟨fun k => ?_, fun k => ?_⟩
      · rw [if_neg k] at w
        exact w
      · rw [if_pos k] at w
        exact w
    · rw [if_neg k] at w
      exact w
  · rw [if_pos k] at w
    replace c := c.2 k
    exact w

set_option maxRecDepth 100000 in
theorem X12_meets_0 {d bc bs : Nat} {h : AH} {Q : Option Value → AH → Prop} {a_0 : Nat} {v_1 : Int32} (w : ah_o h a_0 12 ∧ ∃ a2, ah_r h a_0 1 = some a2 ∧ ld0 h a2 v_1 ∧ st0 h a2 v_1 ∧ ∀ h4, h4 = ah_si h a2 (Int32.toNatClampNeg v_1) ((ah_i h a2 (Int32.toNatClampNeg v_1)) + 1) → X12_no_C a_0 ((-10) - v_1) h4 ∧ ∀ h7, h7 = X12_no_H a_0 ((-10) - v_1) h4 → Q (some (.int (X12_no_V a_0 ((-10) - v_1) h4))) h7) : ex_G mX12_meets (d + 1) 0 [.ref a_0, .int v_1] [] h bc bs Q := by
  refine ex_aload_n (q := 1) (x := a_0) dX12_meets_0 rfl ?_
  have s1 := w.1
  replace w := w.2
  obtain ⟨a2, ea2, w⟩ := w
  refine ex_getr (q := 4) dX12_meets_1 fl_X12_7 s1 ea2 ?_
  refine ex_iload_n (q := 5) (x := v_1) dX12_meets_4 rfl ?_
  refine ex_dup2 (q := 6) dX12_meets_5 rfl rfl ?_
  have s3 := w.1
  replace w := w.2
  refine ex_iald (q := 7) dX12_meets_6 s3 ?_
  refine ex_iconst (q := 8) (v := 1) dX12_meets_7 (by decide) ?_
  refine ex_iadd (q := 9) dX12_meets_8 ?_
  have s5 := w.1
  replace w := w.2
  refine ex_iast (q := 10) dX12_meets_9 s5 ?_
  refine ex_nmh (fun h4 eh4 => ?_)
  replace w := w h4 eh4
  refine ex_aload_n (q := 11) (x := a_0) dX12_meets_10 rfl ?_
  refine ex_bipush (q := 13) (v := (-10)) dX12_meets_11 (by decide) ?_
  refine ex_iload_n (q := 14) (x := v_1) dX12_meets_13 rfl ?_
  refine ex_isub (q := 15) dX12_meets_14 ?_
  have s6 := w.1
  replace w := w.2
  refine ex_callV (q := 18) (M := mX12_meets) (hdd := Nat.le_refl _) (mc := 0) (ms := 0) (d' := d) (c := 12) (st := []) (bc := bc) (bs := bs) dX12_meets_15 rfl cl_X12_165 wd_1581 wd_46 (by rw [eh4]; exact s1) (X12_no_s (Q := fun r z => r = some (.int (X12_no_V a_0 ((-10) - v_1) h4)) ∧ z = X12_no_H a_0 ((-10) - v_1) h4) s6 ⟨rfl, rfl⟩) ?_
  intro r z hrz
  rw [hrz.1, hrz.2]
  show ex_G mX12_meets (d + 1) 18 [.ref a_0, .int v_1] [.int (X12_no_V a_0 ((-10) - v_1) h4)] (X12_no_H a_0 ((-10) - v_1) h4) bc bs Q
  refine ex_nmh (fun h7 eh7 => ?_)
  replace w := w h7 eh7
  exact ex_ireturn dX12_meets_18 rfl (Or.inl rfl) w

theorem X12_meets_e {d bc bs : Nat} {h : AH} {Q : Option Value → AH → Prop} {a_0 : Nat} {v_1 : Int32} (w : ex_G mX12_meets (d + 1) 0 [.ref a_0, .int v_1] [] h bc bs Q) : ex_S yX12_meets mX12_meets (d + 1) [.ref a_0, .int v_1] h bc bs Q :=
  ex_enter (plainFor_of_name (by decide +kernel)) ⟨rfl, rfl⟩ rfl rfl (Nat.le_of_ble_eq_true rfl) (ex_pad 0 w)

def X12_meets_V (a_0 : Nat) (v_1 : Int32) (h : AH) : Int32 := X12_no_V a_0 ((-10) - v_1) (ah_si h (Option.getD (ah_r h a_0 1) 0) (Int32.toNatClampNeg v_1) ((ah_i h (Option.getD (ah_r h a_0 1) 0) (Int32.toNatClampNeg v_1)) + 1))
def X12_meets_H (a_0 : Nat) (v_1 : Int32) (h : AH) : AH := (X12_no_H a_0 ((-10) - v_1) (ah_si h (Option.getD (ah_r h a_0 1) 0) (Int32.toNatClampNeg v_1) ((ah_i h (Option.getD (ah_r h a_0 1) 0) (Int32.toNatClampNeg v_1)) + 1)))
def X12_meets_C (a_0 : Nat) (v_1 : Int32) (h : AH) : Prop := ah_o h a_0 12 ∧ ∃ a2, ah_r h a_0 1 = some a2 ∧ ld0 h a2 v_1 ∧ st0 h a2 v_1 ∧ X12_no_C a_0 ((-10) - v_1) (ah_si h a2 (Int32.toNatClampNeg v_1) ((ah_i h a2 (Int32.toNatClampNeg v_1)) + 1)) ∧ True
theorem X12_meets_s {d bc bs : Nat} {h : AH} {Q : Option Value → AH → Prop} {a_0 : Nat} {v_1 : Int32} (c : X12_meets_C a_0 v_1 h) (w : Q (some (.int (X12_meets_V a_0 v_1 h))) (X12_meets_H a_0 v_1 h)) : ex_S yX12_meets mX12_meets (d + 1) [.ref a_0, .int v_1] h bc bs Q := by
  unfold X12_meets_V X12_meets_H at w
  unfold X12_meets_C at c
  refine X12_meets_e (X12_meets_0 ?_)
  obtain ⟨c1, c⟩ := c
  refine ⟨c1, ?_⟩
  obtain ⟨a2, ea2, c⟩ := c
  try simp only [ea2, Option.getD_some] at w
  refine ⟨a2, ea2, ?_⟩
  obtain ⟨c1, c⟩ := c
  refine ⟨c1, ?_⟩
  obtain ⟨c1, c⟩ := c
  refine ⟨c1, ?_⟩
  intro h4 eh4
  subst eh4
  obtain ⟨c1, c⟩ := c
  refine ⟨c1, ?_⟩
  intro h7 eh7
  subst eh7
  exact w

set_option maxRecDepth 100000 in
theorem X12_nextOfFace_0 {d bc bs : Nat} {h : AH} {Q : Option Value → AH → Prop} {a_0 : Nat} {v_1 : Int32} (w : ah_o h a_0 12 ∧ ∃ a2, ah_r h a_0 10 = some a2 ∧ ld0 h a2 v_1 ∧ Q (some (.int (X12_turned_V (ah_i h a2 (Int32.toNatClampNeg v_1)) 3 h))) h) : ex_G mX12_nextOfFace (d + 1) 0 [.ref a_0, .int v_1] [] h bc bs Q := by
  refine ex_aload_n (q := 1) (x := a_0) dX12_nextOfFace_0 rfl ?_
  have s1 := w.1
  replace w := w.2
  obtain ⟨a2, ea2, w⟩ := w
  refine ex_getr (q := 4) dX12_nextOfFace_1 fl_X12_36 s1 ea2 ?_
  refine ex_iload_n (q := 5) (x := v_1) dX12_nextOfFace_4 rfl ?_
  have s3 := w.1
  replace w := w.2
  refine ex_iald (q := 6) dX12_nextOfFace_5 s3 ?_
  refine ex_iconst (q := 7) (v := 3) dX12_nextOfFace_6 (by decide) ?_
  refine ex_callS (q := 10) (M := mX12_nextOfFace) (hdd := Nat.le_refl _) (mc := 0) (ms := 0) (d' := d) (st := []) (bc := bc) (bs := bs) dX12_nextOfFace_7 rfl cl_X12_209 wd_1658 (X12_turned_s (Q := fun r z => r = some (.int (X12_turned_V (ah_i h a2 (Int32.toNatClampNeg v_1)) 3 h)) ∧ z = h) ⟨rfl, rfl⟩) ?_
  intro r z hrz
  rw [hrz.1, hrz.2]
  show ex_G mX12_nextOfFace (d + 1) 10 [.ref a_0, .int v_1] [.int (X12_turned_V (ah_i h a2 (Int32.toNatClampNeg v_1)) 3 h)] (h) bc bs Q
  exact ex_ireturn dX12_nextOfFace_10 rfl (Or.inl rfl) w

theorem X12_nextOfFace_e {d bc bs : Nat} {h : AH} {Q : Option Value → AH → Prop} {a_0 : Nat} {v_1 : Int32} (w : ex_G mX12_nextOfFace (d + 1) 0 [.ref a_0, .int v_1] [] h bc bs Q) : ex_S yX12_nextOfFace mX12_nextOfFace (d + 1) [.ref a_0, .int v_1] h bc bs Q :=
  ex_enter (plainFor_of_name (by decide +kernel)) ⟨rfl, rfl⟩ rfl rfl (Nat.le_of_ble_eq_true rfl) (ex_pad 0 w)

def X12_nextOfFace_V (a_0 : Nat) (v_1 : Int32) (h : AH) : Int32 := X12_turned_V (ah_i h (Option.getD (ah_r h a_0 10) 0) (Int32.toNatClampNeg v_1)) 3 h
def X12_nextOfFace_C (a_0 : Nat) (v_1 : Int32) (h : AH) : Prop := ah_o h a_0 12 ∧ ∃ a2, ah_r h a_0 10 = some a2 ∧ ld0 h a2 v_1 ∧ True
theorem X12_nextOfFace_s {d bc bs : Nat} {h : AH} {Q : Option Value → AH → Prop} {a_0 : Nat} {v_1 : Int32} (c : X12_nextOfFace_C a_0 v_1 h) (w : Q (some (.int (X12_nextOfFace_V a_0 v_1 h))) h) : ex_S yX12_nextOfFace mX12_nextOfFace (d + 1) [.ref a_0, .int v_1] h bc bs Q := by
  unfold X12_nextOfFace_V at w
  unfold X12_nextOfFace_C at c
  refine X12_nextOfFace_e (X12_nextOfFace_0 ?_)
  obtain ⟨c1, c⟩ := c
  refine ⟨c1, ?_⟩
  obtain ⟨a2, ea2, c⟩ := c
  try simp only [ea2, Option.getD_some] at w
  refine ⟨a2, ea2, ?_⟩
  obtain ⟨c1, c⟩ := c
  refine ⟨c1, ?_⟩
  exact w

set_option maxRecDepth 100000 in
theorem X12_trace_0 {d bc bs : Nat} {h : AH} {Q : Option Value → AH → Prop} {a_0 : Nat} {v_1 : Int32} (w : ah_o h a_0 12 ∧ (((X12_in_V (Int32.toInt64 v_1) 0 (Int32.toInt64 ((ah_f h a_0 38) - 1)) h) = 0 → Q (some (.int (-1))) h) ∧ (¬ (X12_in_V (Int32.toInt64 v_1) 0 (Int32.toInt64 ((ah_f h a_0 38) - 1)) h) = 0 → ∃ a3, ah_r h a_0 37 = some a3 ∧ ld0 h a3 v_1 ∧ Q (some (.int (ah_i h a3 (Int32.toNatClampNeg v_1)))) h))) : ex_G mX12_trace (d + 1) 0 [.ref a_0, .int v_1] [] h bc bs Q := by
  refine ex_iload_n (q := 1) (x := v_1) dX12_trace_0 rfl ?_
  refine ex_i2l (q := 2) dX12_trace_1 ?_
  refine ex_lconst (q := 3) (v := 0) dX12_trace_2 (by decide) ?_
  refine ex_aload_n (q := 4) (x := a_0) dX12_trace_3 rfl ?_
  have s1 := w.1
  replace w := w.2
  refine ex_getf (q := 7) dX12_trace_4 fl_X12_368 s1 ?_
  refine ex_iconst (q := 8) (v := 1) dX12_trace_7 (by decide) ?_
  refine ex_isub (q := 9) dX12_trace_8 ?_
  refine ex_i2l (q := 10) dX12_trace_9 ?_
  refine ex_callS (q := 13) (M := mX12_trace) (hdd := Nat.le_refl _) (mc := 0) (ms := 0) (d' := d) (st := []) (bc := bc) (bs := bs) dX12_trace_10 rfl cl_X12_172 wd_1596 (X12_in_s (Q := fun r z => r = some (.int (X12_in_V (Int32.toInt64 v_1) 0 (Int32.toInt64 ((ah_f h a_0 38) - 1)) h)) ∧ z = h) ⟨rfl, rfl⟩) ?_
  intro r z hrz
  rw [hrz.1, hrz.2]
  show ex_G mX12_trace (d + 1) 13 [.ref a_0, .int v_1] [.int (X12_in_V (Int32.toInt64 v_1) 0 (Int32.toInt64 ((ah_f h a_0 38) - 1)) h)] (h) bc bs Q
  refine ex_if_eq (tgt := 25) (q := 16) dX12_trace_13 (fun c2 => ?_) (fun c2 => ?_)
  · replace w := w.1 c2
    refine ex_iconst (q := 26) (v := (-1)) dX12_trace_25 (by decide) ?_
    exact ex_ireturn dX12_trace_26 rfl (Or.inl rfl) w
  · replace w := w.2 c2
    refine ex_aload_n (q := 17) (x := a_0) dX12_trace_16 rfl ?_
    obtain ⟨a3, ea3, w⟩ := w
    refine ex_getr (q := 20) dX12_trace_17 fl_X12_107 s1 ea3 ?_
    refine ex_iload_n (q := 21) (x := v_1) dX12_trace_20 rfl ?_
    have s4 := w.1
    replace w := w.2
    refine ex_iald (q := 22) dX12_trace_21 s4 ?_
    refine ex_goto (tgt := 26) dX12_trace_22 ?_
    exact ex_ireturn dX12_trace_26 rfl (Or.inl rfl) w

theorem X12_trace_e {d bc bs : Nat} {h : AH} {Q : Option Value → AH → Prop} {a_0 : Nat} {v_1 : Int32} (w : ex_G mX12_trace (d + 1) 0 [.ref a_0, .int v_1] [] h bc bs Q) : ex_S yX12_trace mX12_trace (d + 1) [.ref a_0, .int v_1] h bc bs Q :=
  ex_enter (plainFor_of_name (by decide +kernel)) ⟨rfl, rfl⟩ rfl rfl (Nat.le_of_ble_eq_true rfl) (ex_pad 0 w)

def X12_trace_V (a_0 : Nat) (v_1 : Int32) (h : AH) : Int32 := (if (X12_in_V (Int32.toInt64 v_1) 0 (Int32.toInt64 ((ah_f h a_0 38) - 1)) h) = 0 then (-1) else ah_i h (Option.getD (ah_r h a_0 37) 0) (Int32.toNatClampNeg v_1))
def X12_trace_C (a_0 : Nat) (v_1 : Int32) (h : AH) : Prop := ah_o h a_0 12 ∧ ((X12_in_V (Int32.toInt64 v_1) 0 (Int32.toInt64 ((ah_f h a_0 38) - 1)) h) = 0 → True) ∧ (¬ (X12_in_V (Int32.toInt64 v_1) 0 (Int32.toInt64 ((ah_f h a_0 38) - 1)) h) = 0 → ∃ a3, ah_r h a_0 37 = some a3 ∧ ld0 h a3 v_1 ∧ True)
theorem X12_trace_s {d bc bs : Nat} {h : AH} {Q : Option Value → AH → Prop} {a_0 : Nat} {v_1 : Int32} (c : X12_trace_C a_0 v_1 h) (w : Q (some (.int (X12_trace_V a_0 v_1 h))) h) : ex_S yX12_trace mX12_trace (d + 1) [.ref a_0, .int v_1] h bc bs Q := by
  unfold X12_trace_V at w
  unfold X12_trace_C at c
  refine X12_trace_e (X12_trace_0 ?_)
  obtain ⟨c1, c⟩ := c
  refine ⟨c1, ?_⟩
  refine ⟨fun k => ?_, fun k => ?_⟩
  · rw [if_pos k] at w
    replace c := c.1 k
    exact w
  · rw [if_neg k] at w
    replace c := c.2 k
    obtain ⟨a3, ea3, c⟩ := c
    try simp only [ea3, Option.getD_some] at w
    refine ⟨a3, ea3, ?_⟩
    obtain ⟨c1, c⟩ := c
    refine ⟨c1, ?_⟩
    exact w

set_option maxRecDepth 100000 in
theorem X12_way_0 {d bc bs : Nat} {h : AH} {Q : Option Value → AH → Prop} {a_0 : Nat} {v_1 : Int32} (w : ah_o h a_0 12 ∧ (((X12_in_V (Int32.toInt64 v_1) 0 (Int32.toInt64 ((ah_f h a_0 59) - 1)) h) = 0 → Q (some (.int (-1))) h) ∧ (¬ (X12_in_V (Int32.toInt64 v_1) 0 (Int32.toInt64 ((ah_f h a_0 59) - 1)) h) = 0 → ∃ a3, ah_r h a_0 58 = some a3 ∧ ld0 h a3 v_1 ∧ Q (some (.int (ah_i h a3 (Int32.toNatClampNeg v_1)))) h))) : ex_G mX12_way (d + 1) 0 [.ref a_0, .int v_1] [] h bc bs Q := by
  refine ex_iload_n (q := 1) (x := v_1) dX12_way_0 rfl ?_
  refine ex_i2l (q := 2) dX12_way_1 ?_
  refine ex_lconst (q := 3) (v := 0) dX12_way_2 (by decide) ?_
  refine ex_aload_n (q := 4) (x := a_0) dX12_way_3 rfl ?_
  have s1 := w.1
  replace w := w.2
  refine ex_getf (q := 7) dX12_way_4 fl_X12_455 s1 ?_
  refine ex_iconst (q := 8) (v := 1) dX12_way_7 (by decide) ?_
  refine ex_isub (q := 9) dX12_way_8 ?_
  refine ex_i2l (q := 10) dX12_way_9 ?_
  refine ex_callS (q := 13) (M := mX12_way) (hdd := Nat.le_refl _) (mc := 0) (ms := 0) (d' := d) (st := []) (bc := bc) (bs := bs) dX12_way_10 rfl cl_X12_172 wd_1596 (X12_in_s (Q := fun r z => r = some (.int (X12_in_V (Int32.toInt64 v_1) 0 (Int32.toInt64 ((ah_f h a_0 59) - 1)) h)) ∧ z = h) ⟨rfl, rfl⟩) ?_
  intro r z hrz
  rw [hrz.1, hrz.2]
  show ex_G mX12_way (d + 1) 13 [.ref a_0, .int v_1] [.int (X12_in_V (Int32.toInt64 v_1) 0 (Int32.toInt64 ((ah_f h a_0 59) - 1)) h)] (h) bc bs Q
  refine ex_if_eq (tgt := 25) (q := 16) dX12_way_13 (fun c2 => ?_) (fun c2 => ?_)
  · replace w := w.1 c2
    refine ex_iconst (q := 26) (v := (-1)) dX12_way_25 (by decide) ?_
    exact ex_ireturn dX12_way_26 rfl (Or.inl rfl) w
  · replace w := w.2 c2
    refine ex_aload_n (q := 17) (x := a_0) dX12_way_16 rfl ?_
    obtain ⟨a3, ea3, w⟩ := w
    refine ex_getr (q := 20) dX12_way_17 fl_X12_149 s1 ea3 ?_
    refine ex_iload_n (q := 21) (x := v_1) dX12_way_20 rfl ?_
    have s4 := w.1
    replace w := w.2
    refine ex_iald (q := 22) dX12_way_21 s4 ?_
    refine ex_goto (tgt := 26) dX12_way_22 ?_
    exact ex_ireturn dX12_way_26 rfl (Or.inl rfl) w

theorem X12_way_e {d bc bs : Nat} {h : AH} {Q : Option Value → AH → Prop} {a_0 : Nat} {v_1 : Int32} (w : ex_G mX12_way (d + 1) 0 [.ref a_0, .int v_1] [] h bc bs Q) : ex_S yX12_way mX12_way (d + 1) [.ref a_0, .int v_1] h bc bs Q :=
  ex_enter (plainFor_of_name (by decide +kernel)) ⟨rfl, rfl⟩ rfl rfl (Nat.le_of_ble_eq_true rfl) (ex_pad 0 w)

def X12_way_V (a_0 : Nat) (v_1 : Int32) (h : AH) : Int32 := (if (X12_in_V (Int32.toInt64 v_1) 0 (Int32.toInt64 ((ah_f h a_0 59) - 1)) h) = 0 then (-1) else ah_i h (Option.getD (ah_r h a_0 58) 0) (Int32.toNatClampNeg v_1))
def X12_way_C (a_0 : Nat) (v_1 : Int32) (h : AH) : Prop := ah_o h a_0 12 ∧ ((X12_in_V (Int32.toInt64 v_1) 0 (Int32.toInt64 ((ah_f h a_0 59) - 1)) h) = 0 → True) ∧ (¬ (X12_in_V (Int32.toInt64 v_1) 0 (Int32.toInt64 ((ah_f h a_0 59) - 1)) h) = 0 → ∃ a3, ah_r h a_0 58 = some a3 ∧ ld0 h a3 v_1 ∧ True)
theorem X12_way_s {d bc bs : Nat} {h : AH} {Q : Option Value → AH → Prop} {a_0 : Nat} {v_1 : Int32} (c : X12_way_C a_0 v_1 h) (w : Q (some (.int (X12_way_V a_0 v_1 h))) h) : ex_S yX12_way mX12_way (d + 1) [.ref a_0, .int v_1] h bc bs Q := by
  unfold X12_way_V at w
  unfold X12_way_C at c
  refine X12_way_e (X12_way_0 ?_)
  obtain ⟨c1, c⟩ := c
  refine ⟨c1, ?_⟩
  refine ⟨fun k => ?_, fun k => ?_⟩
  · rw [if_pos k] at w
    replace c := c.1 k
    exact w
  · rw [if_neg k] at w
    replace c := c.2 k
    obtain ⟨a3, ea3, c⟩ := c
    try simp only [ea3, Option.getD_some] at w
    refine ⟨a3, ea3, ?_⟩
    obtain ⟨c1, c⟩ := c
    refine ⟨c1, ?_⟩
    exact w

set_option maxRecDepth 100000 in
theorem X2_take_0 {d bc bs : Nat} {h : AH} {Q : Option Value → AH → Prop} {a_0 : Nat} {a_1 : Nat} (w : ah_o h a_1 2 ∧ ∃ a2, ah_r h a_1 0 = some a2 ∧ ah_o h a_0 2 ∧ ∃ a4, ah_r h a_0 0 = some a4 ∧ cp_ h 0 a2 a4 0 0 281 ∧ ∀ h6, h6 = ah_wi h a4 (va_cpy (ah_i h a2) (ah_i h a4) (Int32.toNatClampNeg 0) (Int32.toNatClampNeg 0) (Int32.toNatClampNeg 281)) → bo (ah_f h6 a_1 2) ∧ ∀ h7, h7 = ah_sf h6 a_0 2 (ah_f h6 a_1 2) → Q none h7) : ex_G mX2_take (d + 1) 0 [.ref a_0, .ref a_1] [] h bc bs Q := by
  refine ex_aload_n (q := 1) (x := a_1) dX2_take_0 rfl ?_
  have s1 := w.1
  replace w := w.2
  obtain ⟨a2, ea2, w⟩ := w
  refine ex_getr (q := 4) dX2_take_1 fl_X2_9 s1 ea2 ?_
  refine ex_iconst (q := 5) (v := 0) dX2_take_4 (by decide) ?_
  refine ex_aload_n (q := 6) (x := a_0) dX2_take_5 rfl ?_
  have s3 := w.1
  replace w := w.2
  obtain ⟨a4, ea4, w⟩ := w
  refine ex_getr (q := 9) dX2_take_6 fl_X2_9 s3 ea4 ?_
  refine ex_iconst (q := 10) (v := 0) dX2_take_9 (by decide) ?_
  refine ex_sipush (q := 13) (v := 281) dX2_take_10 (by decide) ?_
  have s5 := w.1
  replace w := w.2
  refine ex_copyip (q := 16) (hd1 := Nat.succ_le_succ (Nat.zero_le _)) dX2_take_13 wd_1338 s5 ?_
  refine ex_nmh (fun h6 eh6 => ?_)
  replace w := w h6 eh6
  refine ex_aload_n (q := 17) (x := a_0) dX2_take_16 rfl ?_
  refine ex_aload_n (q := 18) (x := a_1) dX2_take_17 rfl ?_
  refine ex_getf (q := 21) dX2_take_18 fl_X2_22 (by rw [eh6]; exact s1) ?_
  have s8 := w.1
  replace w := w.2
  refine ex_putf (q := 24) dX2_take_21 fl_X2_22 (Or.inl rfl) (by rw [eh6]; exact s3) (Or.inr ⟨rfl, s8⟩) ?_
  refine ex_nmh (fun h7 eh7 => ?_)
  replace w := w h7 eh7
  exact ex_return dX2_take_24 w

theorem X2_take_e {d bc bs : Nat} {h : AH} {Q : Option Value → AH → Prop} {a_0 : Nat} {a_1 : Nat} (w : ex_G mX2_take (d + 1) 0 [.ref a_0, .ref a_1] [] h bc bs Q) : ex_S yX2_take mX2_take (d + 1) [.ref a_0, .ref a_1] h bc bs Q :=
  ex_enter (plainFor_of_name (by decide +kernel)) ⟨rfl, rfl⟩ rfl rfl (Nat.le_of_ble_eq_true rfl) (ex_pad 0 w)

def X2_take_H (a_0 : Nat) (a_1 : Nat) (h : AH) : AH := (ah_sf (ah_wi h (Option.getD (ah_r h a_0 0) 0) (va_cpy (ah_i h (Option.getD (ah_r h a_1 0) 0)) (ah_i h (Option.getD (ah_r h a_0 0) 0)) (Int32.toNatClampNeg 0) (Int32.toNatClampNeg 0) (Int32.toNatClampNeg 281))) a_0 2 (ah_f (ah_wi h (Option.getD (ah_r h a_0 0) 0) (va_cpy (ah_i h (Option.getD (ah_r h a_1 0) 0)) (ah_i h (Option.getD (ah_r h a_0 0) 0)) (Int32.toNatClampNeg 0) (Int32.toNatClampNeg 0) (Int32.toNatClampNeg 281))) a_1 2))
def X2_take_C (a_0 : Nat) (a_1 : Nat) (h : AH) : Prop := ah_o h a_1 2 ∧ ∃ a2, ah_r h a_1 0 = some a2 ∧ ah_o h a_0 2 ∧ ∃ a4, ah_r h a_0 0 = some a4 ∧ cp_ h 0 a2 a4 0 0 281 ∧ bo (ah_f (ah_wi h a4 (va_cpy (ah_i h a2) (ah_i h a4) (Int32.toNatClampNeg 0) (Int32.toNatClampNeg 0) (Int32.toNatClampNeg 281))) a_1 2) ∧ True
theorem X2_take_s {d bc bs : Nat} {h : AH} {Q : Option Value → AH → Prop} {a_0 : Nat} {a_1 : Nat} (c : X2_take_C a_0 a_1 h) (w : Q (none) (X2_take_H a_0 a_1 h)) : ex_S yX2_take mX2_take (d + 1) [.ref a_0, .ref a_1] h bc bs Q := by
  unfold  X2_take_H at w
  unfold X2_take_C at c
  refine X2_take_e (X2_take_0 ?_)
  obtain ⟨c1, c⟩ := c
  refine ⟨c1, ?_⟩
  obtain ⟨a2, ea2, c⟩ := c
  try simp only [ea2, Option.getD_some] at w
  refine ⟨a2, ea2, ?_⟩
  obtain ⟨c1, c⟩ := c
  refine ⟨c1, ?_⟩
  obtain ⟨a4, ea4, c⟩ := c
  try simp only [ea4, Option.getD_some] at w
  refine ⟨a4, ea4, ?_⟩
  obtain ⟨c1, c⟩ := c
  refine ⟨c1, ?_⟩
  intro h6 eh6
  subst eh6
  obtain ⟨c1, c⟩ := c
  refine ⟨c1, ?_⟩
  intro h7 eh7
  subst eh7
  exact w

set_option maxRecDepth 100000 in
theorem X4_nextInRegion_0 {d bc bs : Nat} {h : AH} {Q : Option Value → AH → Prop} {a_0 : Nat} {v_1 : Int32} (w : ah_o h a_0 4 ∧ ∃ a2, ah_r h a_0 0 = some a2 ∧ ld0 h a2 v_1 ∧ Q (some (.int (X11_corner_V (ah_i h a2 (Int32.toNatClampNeg v_1)) 3 h))) h) : ex_G mX4_nextInRegion (d + 1) 0 [.ref a_0, .int v_1] [] h bc bs Q := by
  refine ex_aload_n (q := 1) (x := a_0) dX4_nextInRegion_0 rfl ?_
  have s1 := w.1
  replace w := w.2
  obtain ⟨a2, ea2, w⟩ := w
  refine ex_getr (q := 4) dX4_nextInRegion_1 fl_X4_9 s1 ea2 ?_
  refine ex_iload_n (q := 5) (x := v_1) dX4_nextInRegion_4 rfl ?_
  have s3 := w.1
  replace w := w.2
  refine ex_iald (q := 6) dX4_nextInRegion_5 s3 ?_
  refine ex_iconst (q := 7) (v := 3) dX4_nextInRegion_6 (by decide) ?_
  refine ex_callS (q := 10) (M := mX4_nextInRegion) (hdd := Nat.le_refl _) (mc := 0) (ms := 0) (d' := d) (st := []) (bc := bc) (bs := bs) dX4_nextInRegion_7 rfl cl_X4_103 wd_663 (X11_corner_s (Q := fun r z => r = some (.int (X11_corner_V (ah_i h a2 (Int32.toNatClampNeg v_1)) 3 h)) ∧ z = h) ⟨rfl, rfl⟩) ?_
  intro r z hrz
  rw [hrz.1, hrz.2]
  show ex_G mX4_nextInRegion (d + 1) 10 [.ref a_0, .int v_1] [.int (X11_corner_V (ah_i h a2 (Int32.toNatClampNeg v_1)) 3 h)] (h) bc bs Q
  exact ex_ireturn dX4_nextInRegion_10 rfl (Or.inl rfl) w

theorem X4_nextInRegion_e {d bc bs : Nat} {h : AH} {Q : Option Value → AH → Prop} {a_0 : Nat} {v_1 : Int32} (w : ex_G mX4_nextInRegion (d + 1) 0 [.ref a_0, .int v_1] [] h bc bs Q) : ex_S yX4_nextInRegion mX4_nextInRegion (d + 1) [.ref a_0, .int v_1] h bc bs Q :=
  ex_enter (plainFor_of_name (by decide +kernel)) ⟨rfl, rfl⟩ rfl rfl (Nat.le_of_ble_eq_true rfl) (ex_pad 0 w)

def X4_nextInRegion_V (a_0 : Nat) (v_1 : Int32) (h : AH) : Int32 := X11_corner_V (ah_i h (Option.getD (ah_r h a_0 0) 0) (Int32.toNatClampNeg v_1)) 3 h
def X4_nextInRegion_C (a_0 : Nat) (v_1 : Int32) (h : AH) : Prop := ah_o h a_0 4 ∧ ∃ a2, ah_r h a_0 0 = some a2 ∧ ld0 h a2 v_1 ∧ True
theorem X4_nextInRegion_s {d bc bs : Nat} {h : AH} {Q : Option Value → AH → Prop} {a_0 : Nat} {v_1 : Int32} (c : X4_nextInRegion_C a_0 v_1 h) (w : Q (some (.int (X4_nextInRegion_V a_0 v_1 h))) h) : ex_S yX4_nextInRegion mX4_nextInRegion (d + 1) [.ref a_0, .int v_1] h bc bs Q := by
  unfold X4_nextInRegion_V at w
  unfold X4_nextInRegion_C at c
  refine X4_nextInRegion_e (X4_nextInRegion_0 ?_)
  obtain ⟨c1, c⟩ := c
  refine ⟨c1, ?_⟩
  obtain ⟨a2, ea2, c⟩ := c
  try simp only [ea2, Option.getD_some] at w
  refine ⟨a2, ea2, ?_⟩
  obtain ⟨c1, c⟩ := c
  refine ⟨c1, ?_⟩
  exact w

set_option maxRecDepth 100000 in
theorem X5_isKink_0 {d bc bs : Nat} {h : AH} {Q : Option Value → AH → Prop} {a_0 : Nat} {v_1 : Int32} (w : ah_o h a_0 4 ∧ X4_hasEnd_C a_0 v_1 h ∧ (((X4_hasEnd_V a_0 v_1 h) = 0 → Q (some (.int 0)) h) ∧ (¬ (X4_hasEnd_V a_0 v_1 h) = 0 → ∃ a4, ah_r h a_0 0 = some a4 ∧ ld0 h a4 v_1 ∧ ((¬ (ah_i h a4 (Int32.toNatClampNeg v_1)) = (X11_corner_V v_1 1 h) → Q (some (.int 0)) h) ∧ ((ah_i h a4 (Int32.toNatClampNeg v_1)) = (X11_corner_V v_1 1 h) → Q (some (.int 1)) h))))) : ex_G mX5_isKink (d + 1) 0 [.ref a_0, .int v_1] [] h bc bs Q := by
  refine ex_aload_n (q := 1) (x := a_0) dX5_isKink_0 rfl ?_
  refine ex_iload_n (q := 2) (x := v_1) dX5_isKink_1 rfl ?_
  have s1 := w.1
  replace w := w.2
  have s2 := w.1
  replace w := w.2
  refine ex_callV (q := 5) (M := mX5_isKink) (hdd := Nat.le_refl _) (mc := 0) (ms := 0) (d' := d) (c := 4) (st := []) (bc := bc) (bs := bs) dX5_isKink_2 rfl cl_X5_85 wd_734 wd_735 s1 (X4_hasEnd_s (Q := fun r z => r = some (.int (X4_hasEnd_V a_0 v_1 h)) ∧ z = h) s2 ⟨rfl, rfl⟩) ?_
  intro r z hrz
  rw [hrz.1, hrz.2]
  show ex_G mX5_isKink (d + 1) 5 [.ref a_0, .int v_1] [.int (X4_hasEnd_V a_0 v_1 h)] (h) bc bs Q
  refine ex_if_eq (tgt := 26) (q := 8) dX5_isKink_5 (fun c3 => ?_) (fun c3 => ?_)
  · replace w := w.1 c3
    refine ex_iconst (q := 27) (v := 0) dX5_isKink_26 (by decide) ?_
    exact ex_ireturn dX5_isKink_27 rfl (Or.inr ⟨rfl, Or.inl rfl⟩) w
  · replace w := w.2 c3
    refine ex_aload_n (q := 9) (x := a_0) dX5_isKink_8 rfl ?_
    obtain ⟨a4, ea4, w⟩ := w
    refine ex_getr (q := 12) dX5_isKink_9 fl_X5_104 s1 ea4 ?_
    refine ex_iload_n (q := 13) (x := v_1) dX5_isKink_12 rfl ?_
    have s5 := w.1
    replace w := w.2
    refine ex_iald (q := 14) dX5_isKink_13 s5 ?_
    refine ex_iload_n (q := 15) (x := v_1) dX5_isKink_14 rfl ?_
    refine ex_iconst (q := 16) (v := 1) dX5_isKink_15 (by decide) ?_
    refine ex_callS (q := 19) (M := mX5_isKink) (hdd := Nat.le_refl _) (mc := 0) (ms := 0) (d' := d) (st := [.int (ah_i h a4 (Int32.toNatClampNeg v_1))]) (bc := bc) (bs := bs) dX5_isKink_16 rfl cl_X5_66 wd_663 (X11_corner_s (Q := fun r z => r = some (.int (X11_corner_V v_1 1 h)) ∧ z = h) ⟨rfl, rfl⟩) ?_
    intro r z hrz
    rw [hrz.1, hrz.2]
    show ex_G mX5_isKink (d + 1) 19 [.ref a_0, .int v_1] [.int (X11_corner_V v_1 1 h), .int (ah_i h a4 (Int32.toNatClampNeg v_1))] (h) bc bs Q
    refine ex_icmp_ne (tgt := 26) (q := 22) dX5_isKink_19 (fun c6 => ?_) (fun c6 => ?_)
    · replace w := w.1 c6
      refine ex_iconst (q := 27) (v := 0) dX5_isKink_26 (by decide) ?_
      exact ex_ireturn dX5_isKink_27 rfl (Or.inr ⟨rfl, Or.inl rfl⟩) w
    · replace w := w.2 c6
      refine ex_iconst (q := 23) (v := 1) dX5_isKink_22 (by decide) ?_
      refine ex_goto (tgt := 27) dX5_isKink_23 ?_
      exact ex_ireturn dX5_isKink_27 rfl (Or.inr ⟨rfl, Or.inr rfl⟩) w

theorem X5_isKink_e {d bc bs : Nat} {h : AH} {Q : Option Value → AH → Prop} {a_0 : Nat} {v_1 : Int32} (w : ex_G mX5_isKink (d + 1) 0 [.ref a_0, .int v_1] [] h bc bs Q) : ex_S yX5_isKink mX5_isKink (d + 1) [.ref a_0, .int v_1] h bc bs Q :=
  ex_enter (plainFor_of_name (by decide +kernel)) ⟨rfl, rfl⟩ rfl rfl (Nat.le_of_ble_eq_true rfl) (ex_pad 0 w)

def X5_isKink_V (a_0 : Nat) (v_1 : Int32) (h : AH) : Int32 := (if (X4_hasEnd_V a_0 v_1 h) = 0 then 0 else (if (ah_i h (Option.getD (ah_r h a_0 0) 0) (Int32.toNatClampNeg v_1)) = (X11_corner_V v_1 1 h) then 1 else 0))
def X5_isKink_C (a_0 : Nat) (v_1 : Int32) (h : AH) : Prop := ah_o h a_0 4 ∧ X4_hasEnd_C a_0 v_1 h ∧ ((X4_hasEnd_V a_0 v_1 h) = 0 → True) ∧ (¬ (X4_hasEnd_V a_0 v_1 h) = 0 → ∃ a4, ah_r h a_0 0 = some a4 ∧ ld0 h a4 v_1 ∧ True)
theorem X5_isKink_s {d bc bs : Nat} {h : AH} {Q : Option Value → AH → Prop} {a_0 : Nat} {v_1 : Int32} (c : X5_isKink_C a_0 v_1 h) (w : Q (some (.int (X5_isKink_V a_0 v_1 h))) h) : ex_S yX5_isKink mX5_isKink (d + 1) [.ref a_0, .int v_1] h bc bs Q := by
  unfold X5_isKink_V at w
  unfold X5_isKink_C at c
  refine X5_isKink_e (X5_isKink_0 ?_)
  obtain ⟨c1, c⟩ := c
  refine ⟨c1, ?_⟩
  obtain ⟨c1, c⟩ := c
  refine ⟨c1, ?_⟩
  refine ⟨fun k => ?_, fun k => ?_⟩
  · rw [if_pos k] at w
    replace c := c.1 k
    exact w
  · rw [if_neg k] at w
    replace c := c.2 k
    obtain ⟨a4, ea4, c⟩ := c
    try simp only [ea4, Option.getD_some] at w
    refine ⟨a4, ea4, ?_⟩
    obtain ⟨c1, c⟩ := c
    refine ⟨c1, ?_⟩
    refine ⟨fun k => ?_, fun k => ?_⟩
    · rw [if_neg k] at w
      exact w
    · rw [if_pos k] at w
      exact w

set_option maxRecDepth 100000 in
theorem X5_slideArc_0 {d bc bs : Nat} {h : AH} {Q : Option Value → AH → Prop} {a_0 : Nat} {v_1 : Int32} {v_2 : Int32} {v_3 : Int32} {v_4 : Int32} (w : ah_o h a_0 7 ∧ ∃ a2, ah_r h a_0 1 = some a2 ∧ ld0 h a2 v_1 ∧ ∀ x4, x4 = ah_i h a2 (Int32.toNatClampNeg v_1) → st0 h a2 v_1 ∧ ∀ h5, h5 = ah_si h a2 (Int32.toNatClampNeg v_1) v_4 → st0 h5 a2 (X11_corner_V v_1 2 h5) ∧ ∀ h7, h7 = ah_si h5 a2 (Int32.toNatClampNeg (X11_corner_V v_1 2 h5)) x4 → st0 h7 a2 v_2 ∧ ∀ h9, h9 = ah_si h7 a2 (Int32.toNatClampNeg v_2) v_3 → st0 h9 a2 (X11_corner_V v_2 2 h9) ∧ ∀ h11, h11 = ah_si h9 a2 (Int32.toNatClampNeg (X11_corner_V v_2 2 h9)) x4 → Q none h11) : ex_G mX5_slideArc (d + 1) 0 [.ref a_0, .int v_1, .int v_2, .int v_3, .int v_4, .retAddr 0] [] h bc bs Q := by
  refine ex_aload_n (q := 1) (x := a_0) dX5_slideArc_0 rfl ?_
  have s1 := w.1
  replace w := w.2
  obtain ⟨a2, ea2, w⟩ := w
  refine ex_getr (q := 4) dX5_slideArc_1 fl_X5_101 s1 ea2 ?_
  refine ex_iload_n (q := 5) (x := v_1) dX5_slideArc_4 rfl ?_
  have s3 := w.1
  replace w := w.2
  refine ex_iald (q := 6) dX5_slideArc_5 s3 ?_
  refine ex_nmi (fun x4 ex4 => ?_)
  replace w := w x4 ex4
  refine ex_istore (q := 8) (ls' := [.ref a_0, .int v_1, .int v_2, .int v_3, .int v_4, .int x4]) dX5_slideArc_6 rfl ?_
  refine ex_aload_n (q := 9) (x := a_0) dX5_slideArc_8 rfl ?_
  refine ex_getr (q := 12) dX5_slideArc_9 fl_X5_101 s1 ea2 ?_
  refine ex_iload_n (q := 13) (x := v_1) dX5_slideArc_12 rfl ?_
  refine ex_iload (q := 15) (x := v_4) dX5_slideArc_13 rfl ?_
  have s6 := w.1
  replace w := w.2
  refine ex_iast (q := 16) dX5_slideArc_15 s6 ?_
  refine ex_nmh (fun h5 eh5 => ?_)
  replace w := w h5 eh5
  refine ex_aload_n (q := 17) (x := a_0) dX5_slideArc_16 rfl ?_
  refine ex_getr (q := 20) dX5_slideArc_17 fl_X5_101 (by rw [eh5]; exact s1) (by rw [eh5]; exact ea2) ?_
  refine ex_iload_n (q := 21) (x := v_1) dX5_slideArc_20 rfl ?_
  refine ex_iconst (q := 22) (v := 2) dX5_slideArc_21 (by decide) ?_
  refine ex_callS (q := 25) (M := mX5_slideArc) (hdd := Nat.le_refl _) (mc := 0) (ms := 0) (d' := d) (st := [.ref a2]) (bc := bc) (bs := bs) dX5_slideArc_22 rfl cl_X5_66 wd_663 (X11_corner_s (Q := fun r z => r = some (.int (X11_corner_V v_1 2 h5)) ∧ z = h5) ⟨rfl, rfl⟩) ?_
  intro r z hrz
  rw [hrz.1, hrz.2]
  show ex_G mX5_slideArc (d + 1) 25 [.ref a_0, .int v_1, .int v_2, .int v_3, .int v_4, .int x4] [.int (X11_corner_V v_1 2 h5), .ref a2] (h5) bc bs Q
  refine ex_iload (q := 27) (x := x4) dX5_slideArc_25 rfl ?_
  have s8 := w.1
  replace w := w.2
  refine ex_iast (q := 28) dX5_slideArc_27 s8 ?_
  refine ex_nmh (fun h7 eh7 => ?_)
  replace w := w h7 eh7
  refine ex_aload_n (q := 29) (x := a_0) dX5_slideArc_28 rfl ?_
  refine ex_getr (q := 32) dX5_slideArc_29 fl_X5_101 (by rw [eh7]; exact (by rw [eh5]; exact s1)) (by rw [eh7]; exact (by rw [eh5]; exact ea2)) ?_
  refine ex_iload_n (q := 33) (x := v_2) dX5_slideArc_32 rfl ?_
  refine ex_iload_n (q := 34) (x := v_3) dX5_slideArc_33 rfl ?_
  have s10 := w.1
  replace w := w.2
  refine ex_iast (q := 35) dX5_slideArc_34 s10 ?_
  refine ex_nmh (fun h9 eh9 => ?_)
  replace w := w h9 eh9
  refine ex_aload_n (q := 36) (x := a_0) dX5_slideArc_35 rfl ?_
  refine ex_getr (q := 39) dX5_slideArc_36 fl_X5_101 (by rw [eh9]; exact (by rw [eh7]; exact (by rw [eh5]; exact s1))) (by rw [eh9]; exact (by rw [eh7]; exact (by rw [eh5]; exact ea2))) ?_
  refine ex_iload_n (q := 40) (x := v_2) dX5_slideArc_39 rfl ?_
  refine ex_iconst (q := 41) (v := 2) dX5_slideArc_40 (by decide) ?_
  refine ex_callS (q := 44) (M := mX5_slideArc) (hdd := Nat.le_refl _) (mc := 0) (ms := 0) (d' := d) (st := [.ref a2]) (bc := bc) (bs := bs) dX5_slideArc_41 rfl cl_X5_66 wd_663 (X11_corner_s (Q := fun r z => r = some (.int (X11_corner_V v_2 2 h9)) ∧ z = h9) ⟨rfl, rfl⟩) ?_
  intro r z hrz
  rw [hrz.1, hrz.2]
  show ex_G mX5_slideArc (d + 1) 44 [.ref a_0, .int v_1, .int v_2, .int v_3, .int v_4, .int x4] [.int (X11_corner_V v_2 2 h9), .ref a2] (h9) bc bs Q
  refine ex_iload (q := 46) (x := x4) dX5_slideArc_44 rfl ?_
  have s12 := w.1
  replace w := w.2
  refine ex_iast (q := 47) dX5_slideArc_46 s12 ?_
  refine ex_nmh (fun h11 eh11 => ?_)
  replace w := w h11 eh11
  exact ex_return dX5_slideArc_47 w

theorem X5_slideArc_e {d bc bs : Nat} {h : AH} {Q : Option Value → AH → Prop} {a_0 : Nat} {v_1 : Int32} {v_2 : Int32} {v_3 : Int32} {v_4 : Int32} (w : ex_G mX5_slideArc (d + 1) 0 [.ref a_0, .int v_1, .int v_2, .int v_3, .int v_4, .retAddr 0] [] h bc bs Q) : ex_S yX5_slideArc mX5_slideArc (d + 1) [.ref a_0, .int v_1, .int v_2, .int v_3, .int v_4] h bc bs Q :=
  ex_enter (plainFor_of_name (by decide +kernel)) ⟨rfl, rfl⟩ rfl rfl (Nat.le_of_ble_eq_true rfl) (ex_pad 1 w)

def X5_slideArc_H (a_0 : Nat) (v_1 : Int32) (v_2 : Int32) (v_3 : Int32) (v_4 : Int32) (h : AH) : AH := (ah_si (ah_si (ah_si (ah_si h (Option.getD (ah_r h a_0 1) 0) (Int32.toNatClampNeg v_1) v_4) (Option.getD (ah_r h a_0 1) 0) (Int32.toNatClampNeg (X11_corner_V v_1 2 (ah_si h (Option.getD (ah_r h a_0 1) 0) (Int32.toNatClampNeg v_1) v_4))) (ah_i h (Option.getD (ah_r h a_0 1) 0) (Int32.toNatClampNeg v_1))) (Option.getD (ah_r h a_0 1) 0) (Int32.toNatClampNeg v_2) v_3) (Option.getD (ah_r h a_0 1) 0) (Int32.toNatClampNeg (X11_corner_V v_2 2 (ah_si (ah_si (ah_si h (Option.getD (ah_r h a_0 1) 0) (Int32.toNatClampNeg v_1) v_4) (Option.getD (ah_r h a_0 1) 0) (Int32.toNatClampNeg (X11_corner_V v_1 2 (ah_si h (Option.getD (ah_r h a_0 1) 0) (Int32.toNatClampNeg v_1) v_4))) (ah_i h (Option.getD (ah_r h a_0 1) 0) (Int32.toNatClampNeg v_1))) (Option.getD (ah_r h a_0 1) 0) (Int32.toNatClampNeg v_2) v_3))) (ah_i h (Option.getD (ah_r h a_0 1) 0) (Int32.toNatClampNeg v_1)))
def X5_slideArc_C (a_0 : Nat) (v_1 : Int32) (v_2 : Int32) (v_3 : Int32) (v_4 : Int32) (h : AH) : Prop := ah_o h a_0 7 ∧ ∃ a2, ah_r h a_0 1 = some a2 ∧ ld0 h a2 v_1 ∧ st0 h a2 v_1 ∧ st0 (ah_si h a2 (Int32.toNatClampNeg v_1) v_4) a2 (X11_corner_V v_1 2 (ah_si h a2 (Int32.toNatClampNeg v_1) v_4)) ∧ st0 (ah_si (ah_si h a2 (Int32.toNatClampNeg v_1) v_4) a2 (Int32.toNatClampNeg (X11_corner_V v_1 2 (ah_si h a2 (Int32.toNatClampNeg v_1) v_4))) (ah_i h a2 (Int32.toNatClampNeg v_1))) a2 v_2 ∧ st0 (ah_si (ah_si (ah_si h a2 (Int32.toNatClampNeg v_1) v_4) a2 (Int32.toNatClampNeg (X11_corner_V v_1 2 (ah_si h a2 (Int32.toNatClampNeg v_1) v_4))) (ah_i h a2 (Int32.toNatClampNeg v_1))) a2 (Int32.toNatClampNeg v_2) v_3) a2 (X11_corner_V v_2 2 (ah_si (ah_si (ah_si h a2 (Int32.toNatClampNeg v_1) v_4) a2 (Int32.toNatClampNeg (X11_corner_V v_1 2 (ah_si h a2 (Int32.toNatClampNeg v_1) v_4))) (ah_i h a2 (Int32.toNatClampNeg v_1))) a2 (Int32.toNatClampNeg v_2) v_3)) ∧ True
theorem X5_slideArc_s {d bc bs : Nat} {h : AH} {Q : Option Value → AH → Prop} {a_0 : Nat} {v_1 : Int32} {v_2 : Int32} {v_3 : Int32} {v_4 : Int32} (c : X5_slideArc_C a_0 v_1 v_2 v_3 v_4 h) (w : Q (none) (X5_slideArc_H a_0 v_1 v_2 v_3 v_4 h)) : ex_S yX5_slideArc mX5_slideArc (d + 1) [.ref a_0, .int v_1, .int v_2, .int v_3, .int v_4] h bc bs Q := by
  unfold  X5_slideArc_H at w
  unfold X5_slideArc_C at c
  refine X5_slideArc_e (X5_slideArc_0 ?_)
  obtain ⟨c1, c⟩ := c
  refine ⟨c1, ?_⟩
  obtain ⟨a2, ea2, c⟩ := c
  try simp only [ea2, Option.getD_some] at w
  refine ⟨a2, ea2, ?_⟩
  obtain ⟨c1, c⟩ := c
  refine ⟨c1, ?_⟩
  intro x4 ex4
  subst ex4
  obtain ⟨c1, c⟩ := c
  refine ⟨c1, ?_⟩
  intro h5 eh5
  subst eh5
  obtain ⟨c1, c⟩ := c
  refine ⟨c1, ?_⟩
  intro h7 eh7
  subst eh7
  obtain ⟨c1, c⟩ := c
  refine ⟨c1, ?_⟩
  intro h9 eh9
  subst eh9
  obtain ⟨c1, c⟩ := c
  refine ⟨c1, ?_⟩
  intro h11 eh11
  subst eh11
  exact w

set_option maxRecDepth 100000 in
theorem X7_flip_0 {d bc bs : Nat} {h : AH} {Q : Option Value → AH → Prop} {a_0 : Nat} {v_1 : Int32} (w : ah_o h a_0 7 ∧ X7_swap_C a_0 (4 * v_1) ((4 * v_1) + 1) h ∧ ∀ h3, h3 = X7_swap_H a_0 (4 * v_1) ((4 * v_1) + 1) h → ah_o h3 a_0 7 ∧ X7_swap_C a_0 ((4 * v_1) + 2) ((4 * v_1) + 3) h3 ∧ ∀ h6, h6 = X7_swap_H a_0 ((4 * v_1) + 2) ((4 * v_1) + 3) h3 → Q none h6) : ex_G mX7_flip (d + 1) 0 [.ref a_0, .int v_1] [] h bc bs Q := by
  refine ex_aload_n (q := 1) (x := a_0) dX7_flip_0 rfl ?_
  refine ex_iconst (q := 2) (v := 4) dX7_flip_1 (by decide) ?_
  refine ex_iload_n (q := 3) (x := v_1) dX7_flip_2 rfl ?_
  refine ex_imul (q := 4) dX7_flip_3 ?_
  refine ex_iconst (q := 5) (v := 4) dX7_flip_4 (by decide) ?_
  refine ex_iload_n (q := 6) (x := v_1) dX7_flip_5 rfl ?_
  refine ex_imul (q := 7) dX7_flip_6 ?_
  refine ex_iconst (q := 8) (v := 1) dX7_flip_7 (by decide) ?_
  refine ex_iadd (q := 9) dX7_flip_8 ?_
  have s1 := w.1
  replace w := w.2
  have s2 := w.1
  replace w := w.2
  refine ex_callV (q := 12) (M := mX7_flip) (hdd := Nat.le_refl _) (mc := 0) (ms := 0) (d' := d) (c := 7) (st := []) (bc := bc) (bs := bs) dX7_flip_9 rfl cl_X7_46 wd_727 wd_14 s1 (X7_swap_s (Q := fun r z => r = none ∧ z = X7_swap_H a_0 (4 * v_1) ((4 * v_1) + 1) h) s2 ⟨rfl, rfl⟩) ?_
  intro r z hrz
  rw [hrz.1, hrz.2]
  show ex_G mX7_flip (d + 1) 12 [.ref a_0, .int v_1] [] (X7_swap_H a_0 (4 * v_1) ((4 * v_1) + 1) h) bc bs Q
  refine ex_nmh (fun h3 eh3 => ?_)
  replace w := w h3 eh3
  refine ex_aload_n (q := 13) (x := a_0) dX7_flip_12 rfl ?_
  refine ex_iconst (q := 14) (v := 4) dX7_flip_13 (by decide) ?_
  refine ex_iload_n (q := 15) (x := v_1) dX7_flip_14 rfl ?_
  refine ex_imul (q := 16) dX7_flip_15 ?_
  refine ex_iconst (q := 17) (v := 2) dX7_flip_16 (by decide) ?_
  refine ex_iadd (q := 18) dX7_flip_17 ?_
  refine ex_iconst (q := 19) (v := 4) dX7_flip_18 (by decide) ?_
  refine ex_iload_n (q := 20) (x := v_1) dX7_flip_19 rfl ?_
  refine ex_imul (q := 21) dX7_flip_20 ?_
  refine ex_iconst (q := 22) (v := 3) dX7_flip_21 (by decide) ?_
  refine ex_iadd (q := 23) dX7_flip_22 ?_
  have s4 := w.1
  replace w := w.2
  have s5 := w.1
  replace w := w.2
  refine ex_callV (q := 26) (M := mX7_flip) (hdd := Nat.le_refl _) (mc := 0) (ms := 0) (d' := d) (c := 7) (st := []) (bc := bc) (bs := bs) dX7_flip_23 rfl cl_X7_46 wd_727 wd_14 s4 (X7_swap_s (Q := fun r z => r = none ∧ z = X7_swap_H a_0 ((4 * v_1) + 2) ((4 * v_1) + 3) h3) s5 ⟨rfl, rfl⟩) ?_
  intro r z hrz
  rw [hrz.1, hrz.2]
  show ex_G mX7_flip (d + 1) 26 [.ref a_0, .int v_1] [] (X7_swap_H a_0 ((4 * v_1) + 2) ((4 * v_1) + 3) h3) bc bs Q
  refine ex_nmh (fun h6 eh6 => ?_)
  replace w := w h6 eh6
  exact ex_return dX7_flip_26 w

theorem X7_flip_e {d bc bs : Nat} {h : AH} {Q : Option Value → AH → Prop} {a_0 : Nat} {v_1 : Int32} (w : ex_G mX7_flip (d + 1) 0 [.ref a_0, .int v_1] [] h bc bs Q) : ex_S yX7_flip mX7_flip (d + 1) [.ref a_0, .int v_1] h bc bs Q :=
  ex_enter (plainFor_of_name (by decide +kernel)) ⟨rfl, rfl⟩ rfl rfl (Nat.le_of_ble_eq_true rfl) (ex_pad 0 w)

def X7_flip_H (a_0 : Nat) (v_1 : Int32) (h : AH) : AH := (X7_swap_H a_0 ((4 * v_1) + 2) ((4 * v_1) + 3) (X7_swap_H a_0 (4 * v_1) ((4 * v_1) + 1) h))
def X7_flip_C (a_0 : Nat) (v_1 : Int32) (h : AH) : Prop := ah_o h a_0 7 ∧ X7_swap_C a_0 (4 * v_1) ((4 * v_1) + 1) h ∧ ah_o (X7_swap_H a_0 (4 * v_1) ((4 * v_1) + 1) h) a_0 7 ∧ X7_swap_C a_0 ((4 * v_1) + 2) ((4 * v_1) + 3) (X7_swap_H a_0 (4 * v_1) ((4 * v_1) + 1) h) ∧ True
theorem X7_flip_s {d bc bs : Nat} {h : AH} {Q : Option Value → AH → Prop} {a_0 : Nat} {v_1 : Int32} (c : X7_flip_C a_0 v_1 h) (w : Q (none) (X7_flip_H a_0 v_1 h)) : ex_S yX7_flip mX7_flip (d + 1) [.ref a_0, .int v_1] h bc bs Q := by
  unfold  X7_flip_H at w
  unfold X7_flip_C at c
  refine X7_flip_e (X7_flip_0 ?_)
  obtain ⟨c1, c⟩ := c
  refine ⟨c1, ?_⟩
  obtain ⟨c1, c⟩ := c
  refine ⟨c1, ?_⟩
  intro h3 eh3
  subst eh3
  obtain ⟨c1, c⟩ := c
  refine ⟨c1, ?_⟩
  obtain ⟨c1, c⟩ := c
  refine ⟨c1, ?_⟩
  intro h6 eh6
  subst eh6
  exact w

set_option maxRecDepth 100000 in
theorem X7_rotate_0 {d bc bs : Nat} {h : AH} {Q : Option Value → AH → Prop} {a_0 : Nat} {v_1 : Int32} {v_2 : Int32} (w : ∀ x1, x1 = 4 * v_1 → ah_o h a_0 7 ∧ ∃ a3, ah_r h a_0 1 = some a3 ∧ ld0 h a3 (X11_corner_V x1 v_2 h) ∧ ∀ x5, x5 = ah_i h a3 (Int32.toNatClampNeg (X11_corner_V x1 v_2 h)) → ld0 h a3 (X11_corner_V x1 (v_2 + 1) h) ∧ ∀ x7, x7 = ah_i h a3 (Int32.toNatClampNeg (X11_corner_V x1 (v_2 + 1) h)) → ld0 h a3 (X11_corner_V x1 (v_2 + 2) h) ∧ ∀ x9, x9 = ah_i h a3 (Int32.toNatClampNeg (X11_corner_V x1 (v_2 + 2) h)) → ld0 h a3 (X11_corner_V x1 (v_2 + 3) h) ∧ ∀ x11, x11 = ah_i h a3 (Int32.toNatClampNeg (X11_corner_V x1 (v_2 + 3) h)) → st0 h a3 x1 ∧ ∀ h12, h12 = ah_si h a3 (Int32.toNatClampNeg x1) x5 → st0 h12 a3 (x1 + 1) ∧ ∀ h14, h14 = ah_si h12 a3 (Int32.toNatClampNeg (x1 + 1)) x7 → st0 h14 a3 (x1 + 2) ∧ ∀ h16, h16 = ah_si h14 a3 (Int32.toNatClampNeg (x1 + 2)) x9 → st0 h16 a3 (x1 + 3) ∧ ∀ h18, h18 = ah_si h16 a3 (Int32.toNatClampNeg (x1 + 3)) x11 → Q none h18) : ex_G mX7_rotate (d + 1) 0 [.ref a_0, .int v_1, .int v_2, .retAddr 0, .retAddr 0, .retAddr 0, .retAddr 0, .retAddr 0] [] h bc bs Q := by
  refine ex_iconst (q := 1) (v := 4) dX7_rotate_0 (by decide) ?_
  refine ex_iload_n (q := 2) (x := v_1) dX7_rotate_1 rfl ?_
  refine ex_imul (q := 3) dX7_rotate_2 ?_
  refine ex_nmi (fun x1 ex1 => ?_)
  replace w := w x1 ex1
  refine ex_istore_n (q := 4) (ls' := [.ref a_0, .int v_1, .int v_2, .int x1, .retAddr 0, .retAddr 0, .retAddr 0, .retAddr 0]) dX7_rotate_3 rfl ?_
  refine ex_aload_n (q := 5) (x := a_0) dX7_rotate_4 rfl ?_
  have s2 := w.1
  replace w := w.2
  obtain ⟨a3, ea3, w⟩ := w
  refine ex_getr (q := 8) dX7_rotate_5 fl_X7_15 s2 ea3 ?_
  refine ex_iload_n (q := 9) (x := x1) dX7_rotate_8 rfl ?_
  refine ex_iload_n (q := 10) (x := v_2) dX7_rotate_9 rfl ?_
  refine ex_callS (q := 13) (M := mX7_rotate) (hdd := Nat.le_refl _) (mc := 0) (ms := 0) (d' := d) (st := [.ref a3]) (bc := bc) (bs := bs) dX7_rotate_10 rfl cl_X7_43 wd_663 (X11_corner_s (Q := fun r z => r = some (.int (X11_corner_V x1 v_2 h)) ∧ z = h) ⟨rfl, rfl⟩) ?_
  intro r z hrz
  rw [hrz.1, hrz.2]
  show ex_G mX7_rotate (d + 1) 13 [.ref a_0, .int v_1, .int v_2, .int x1, .retAddr 0, .retAddr 0, .retAddr 0, .retAddr 0] [.int (X11_corner_V x1 v_2 h), .ref a3] (h) bc bs Q
  have s4 := w.1
  replace w := w.2
  refine ex_iald (q := 14) dX7_rotate_13 s4 ?_
  refine ex_nmi (fun x5 ex5 => ?_)
  replace w := w x5 ex5
  refine ex_istore (q := 16) (ls' := [.ref a_0, .int v_1, .int v_2, .int x1, .int x5, .retAddr 0, .retAddr 0, .retAddr 0]) dX7_rotate_14 rfl ?_
  refine ex_aload_n (q := 17) (x := a_0) dX7_rotate_16 rfl ?_
  refine ex_getr (q := 20) dX7_rotate_17 fl_X7_15 s2 ea3 ?_
  refine ex_iload_n (q := 21) (x := x1) dX7_rotate_20 rfl ?_
  refine ex_iload_n (q := 22) (x := v_2) dX7_rotate_21 rfl ?_
  refine ex_iconst (q := 23) (v := 1) dX7_rotate_22 (by decide) ?_
  refine ex_iadd (q := 24) dX7_rotate_23 ?_
  refine ex_callS (q := 27) (M := mX7_rotate) (hdd := Nat.le_refl _) (mc := 0) (ms := 0) (d' := d) (st := [.ref a3]) (bc := bc) (bs := bs) dX7_rotate_24 rfl cl_X7_43 wd_663 (X11_corner_s (Q := fun r z => r = some (.int (X11_corner_V x1 (v_2 + 1) h)) ∧ z = h) ⟨rfl, rfl⟩) ?_
  intro r z hrz
  rw [hrz.1, hrz.2]
  show ex_G mX7_rotate (d + 1) 27 [.ref a_0, .int v_1, .int v_2, .int x1, .int x5, .retAddr 0, .retAddr 0, .retAddr 0] [.int (X11_corner_V x1 (v_2 + 1) h), .ref a3] (h) bc bs Q
  have s6 := w.1
  replace w := w.2
  refine ex_iald (q := 28) dX7_rotate_27 s6 ?_
  refine ex_nmi (fun x7 ex7 => ?_)
  replace w := w x7 ex7
  refine ex_istore (q := 30) (ls' := [.ref a_0, .int v_1, .int v_2, .int x1, .int x5, .int x7, .retAddr 0, .retAddr 0]) dX7_rotate_28 rfl ?_
  refine ex_aload_n (q := 31) (x := a_0) dX7_rotate_30 rfl ?_
  refine ex_getr (q := 34) dX7_rotate_31 fl_X7_15 s2 ea3 ?_
  refine ex_iload_n (q := 35) (x := x1) dX7_rotate_34 rfl ?_
  refine ex_iload_n (q := 36) (x := v_2) dX7_rotate_35 rfl ?_
  refine ex_iconst (q := 37) (v := 2) dX7_rotate_36 (by decide) ?_
  refine ex_iadd (q := 38) dX7_rotate_37 ?_
  refine ex_callS (q := 41) (M := mX7_rotate) (hdd := Nat.le_refl _) (mc := 0) (ms := 0) (d' := d) (st := [.ref a3]) (bc := bc) (bs := bs) dX7_rotate_38 rfl cl_X7_43 wd_663 (X11_corner_s (Q := fun r z => r = some (.int (X11_corner_V x1 (v_2 + 2) h)) ∧ z = h) ⟨rfl, rfl⟩) ?_
  intro r z hrz
  rw [hrz.1, hrz.2]
  show ex_G mX7_rotate (d + 1) 41 [.ref a_0, .int v_1, .int v_2, .int x1, .int x5, .int x7, .retAddr 0, .retAddr 0] [.int (X11_corner_V x1 (v_2 + 2) h), .ref a3] (h) bc bs Q
  have s8 := w.1
  replace w := w.2
  refine ex_iald (q := 42) dX7_rotate_41 s8 ?_
  refine ex_nmi (fun x9 ex9 => ?_)
  replace w := w x9 ex9
  refine ex_istore (q := 44) (ls' := [.ref a_0, .int v_1, .int v_2, .int x1, .int x5, .int x7, .int x9, .retAddr 0]) dX7_rotate_42 rfl ?_
  refine ex_aload_n (q := 45) (x := a_0) dX7_rotate_44 rfl ?_
  refine ex_getr (q := 48) dX7_rotate_45 fl_X7_15 s2 ea3 ?_
  refine ex_iload_n (q := 49) (x := x1) dX7_rotate_48 rfl ?_
  refine ex_iload_n (q := 50) (x := v_2) dX7_rotate_49 rfl ?_
  refine ex_iconst (q := 51) (v := 3) dX7_rotate_50 (by decide) ?_
  refine ex_iadd (q := 52) dX7_rotate_51 ?_
  refine ex_callS (q := 55) (M := mX7_rotate) (hdd := Nat.le_refl _) (mc := 0) (ms := 0) (d' := d) (st := [.ref a3]) (bc := bc) (bs := bs) dX7_rotate_52 rfl cl_X7_43 wd_663 (X11_corner_s (Q := fun r z => r = some (.int (X11_corner_V x1 (v_2 + 3) h)) ∧ z = h) ⟨rfl, rfl⟩) ?_
  intro r z hrz
  rw [hrz.1, hrz.2]
  show ex_G mX7_rotate (d + 1) 55 [.ref a_0, .int v_1, .int v_2, .int x1, .int x5, .int x7, .int x9, .retAddr 0] [.int (X11_corner_V x1 (v_2 + 3) h), .ref a3] (h) bc bs Q
  have s10 := w.1
  replace w := w.2
  refine ex_iald (q := 56) dX7_rotate_55 s10 ?_
  refine ex_nmi (fun x11 ex11 => ?_)
  replace w := w x11 ex11
  refine ex_istore (q := 58) (ls' := [.ref a_0, .int v_1, .int v_2, .int x1, .int x5, .int x7, .int x9, .int x11]) dX7_rotate_56 rfl ?_
  refine ex_aload_n (q := 59) (x := a_0) dX7_rotate_58 rfl ?_
  refine ex_getr (q := 62) dX7_rotate_59 fl_X7_15 s2 ea3 ?_
  refine ex_iload_n (q := 63) (x := x1) dX7_rotate_62 rfl ?_
  refine ex_iload (q := 65) (x := x5) dX7_rotate_63 rfl ?_
  have s13 := w.1
  replace w := w.2
  refine ex_iast (q := 66) dX7_rotate_65 s13 ?_
  refine ex_nmh (fun h12 eh12 => ?_)
  replace w := w h12 eh12
  refine ex_aload_n (q := 67) (x := a_0) dX7_rotate_66 rfl ?_
  refine ex_getr (q := 70) dX7_rotate_67 fl_X7_15 (by rw [eh12]; exact s2) (by rw [eh12]; exact ea3) ?_
  refine ex_iload_n (q := 71) (x := x1) dX7_rotate_70 rfl ?_
  refine ex_iconst (q := 72) (v := 1) dX7_rotate_71 (by decide) ?_
  refine ex_iadd (q := 73) dX7_rotate_72 ?_
  refine ex_iload (q := 75) (x := x7) dX7_rotate_73 rfl ?_
  have s15 := w.1
  replace w := w.2
  refine ex_iast (q := 76) dX7_rotate_75 s15 ?_
  refine ex_nmh (fun h14 eh14 => ?_)
  replace w := w h14 eh14
  refine ex_aload_n (q := 77) (x := a_0) dX7_rotate_76 rfl ?_
  refine ex_getr (q := 80) dX7_rotate_77 fl_X7_15 (by rw [eh14]; exact (by rw [eh12]; exact s2)) (by rw [eh14]; exact (by rw [eh12]; exact ea3)) ?_
  refine ex_iload_n (q := 81) (x := x1) dX7_rotate_80 rfl ?_
  refine ex_iconst (q := 82) (v := 2) dX7_rotate_81 (by decide) ?_
  refine ex_iadd (q := 83) dX7_rotate_82 ?_
  refine ex_iload (q := 85) (x := x9) dX7_rotate_83 rfl ?_
  have s17 := w.1
  replace w := w.2
  refine ex_iast (q := 86) dX7_rotate_85 s17 ?_
  refine ex_nmh (fun h16 eh16 => ?_)
  replace w := w h16 eh16
  refine ex_aload_n (q := 87) (x := a_0) dX7_rotate_86 rfl ?_
  refine ex_getr (q := 90) dX7_rotate_87 fl_X7_15 (by rw [eh16]; exact (by rw [eh14]; exact (by rw [eh12]; exact s2))) (by rw [eh16]; exact (by rw [eh14]; exact (by rw [eh12]; exact ea3))) ?_
  refine ex_iload_n (q := 91) (x := x1) dX7_rotate_90 rfl ?_
  refine ex_iconst (q := 92) (v := 3) dX7_rotate_91 (by decide) ?_
  refine ex_iadd (q := 93) dX7_rotate_92 ?_
  refine ex_iload (q := 95) (x := x11) dX7_rotate_93 rfl ?_
  have s19 := w.1
  replace w := w.2
  refine ex_iast (q := 96) dX7_rotate_95 s19 ?_
  refine ex_nmh (fun h18 eh18 => ?_)
  replace w := w h18 eh18
  exact ex_return dX7_rotate_96 w

theorem X7_rotate_e {d bc bs : Nat} {h : AH} {Q : Option Value → AH → Prop} {a_0 : Nat} {v_1 : Int32} {v_2 : Int32} (w : ex_G mX7_rotate (d + 1) 0 [.ref a_0, .int v_1, .int v_2, .retAddr 0, .retAddr 0, .retAddr 0, .retAddr 0, .retAddr 0] [] h bc bs Q) : ex_S yX7_rotate mX7_rotate (d + 1) [.ref a_0, .int v_1, .int v_2] h bc bs Q :=
  ex_enter (plainFor_of_name (by decide +kernel)) ⟨rfl, rfl⟩ rfl rfl (Nat.le_of_ble_eq_true rfl) (ex_pad 5 w)

def X7_rotate_H (a_0 : Nat) (v_1 : Int32) (v_2 : Int32) (h : AH) : AH := (ah_si (ah_si (ah_si (ah_si h (Option.getD (ah_r h a_0 1) 0) (Int32.toNatClampNeg (4 * v_1)) (ah_i h (Option.getD (ah_r h a_0 1) 0) (Int32.toNatClampNeg (X11_corner_V (4 * v_1) v_2 h)))) (Option.getD (ah_r h a_0 1) 0) (Int32.toNatClampNeg ((4 * v_1) + 1)) (ah_i h (Option.getD (ah_r h a_0 1) 0) (Int32.toNatClampNeg (X11_corner_V (4 * v_1) (v_2 + 1) h)))) (Option.getD (ah_r h a_0 1) 0) (Int32.toNatClampNeg ((4 * v_1) + 2)) (ah_i h (Option.getD (ah_r h a_0 1) 0) (Int32.toNatClampNeg (X11_corner_V (4 * v_1) (v_2 + 2) h)))) (Option.getD (ah_r h a_0 1) 0) (Int32.toNatClampNeg ((4 * v_1) + 3)) (ah_i h (Option.getD (ah_r h a_0 1) 0) (Int32.toNatClampNeg (X11_corner_V (4 * v_1) (v_2 + 3) h))))
def X7_rotate_C (a_0 : Nat) (v_1 : Int32) (v_2 : Int32) (h : AH) : Prop := ah_o h a_0 7 ∧ ∃ a3, ah_r h a_0 1 = some a3 ∧ ld0 h a3 (X11_corner_V (4 * v_1) v_2 h) ∧ ld0 h a3 (X11_corner_V (4 * v_1) (v_2 + 1) h) ∧ ld0 h a3 (X11_corner_V (4 * v_1) (v_2 + 2) h) ∧ ld0 h a3 (X11_corner_V (4 * v_1) (v_2 + 3) h) ∧ st0 h a3 (4 * v_1) ∧ st0 (ah_si h a3 (Int32.toNatClampNeg (4 * v_1)) (ah_i h a3 (Int32.toNatClampNeg (X11_corner_V (4 * v_1) v_2 h)))) a3 ((4 * v_1) + 1) ∧ st0 (ah_si (ah_si h a3 (Int32.toNatClampNeg (4 * v_1)) (ah_i h a3 (Int32.toNatClampNeg (X11_corner_V (4 * v_1) v_2 h)))) a3 (Int32.toNatClampNeg ((4 * v_1) + 1)) (ah_i h a3 (Int32.toNatClampNeg (X11_corner_V (4 * v_1) (v_2 + 1) h)))) a3 ((4 * v_1) + 2) ∧ st0 (ah_si (ah_si (ah_si h a3 (Int32.toNatClampNeg (4 * v_1)) (ah_i h a3 (Int32.toNatClampNeg (X11_corner_V (4 * v_1) v_2 h)))) a3 (Int32.toNatClampNeg ((4 * v_1) + 1)) (ah_i h a3 (Int32.toNatClampNeg (X11_corner_V (4 * v_1) (v_2 + 1) h)))) a3 (Int32.toNatClampNeg ((4 * v_1) + 2)) (ah_i h a3 (Int32.toNatClampNeg (X11_corner_V (4 * v_1) (v_2 + 2) h)))) a3 ((4 * v_1) + 3) ∧ True
theorem X7_rotate_s {d bc bs : Nat} {h : AH} {Q : Option Value → AH → Prop} {a_0 : Nat} {v_1 : Int32} {v_2 : Int32} (c : X7_rotate_C a_0 v_1 v_2 h) (w : Q (none) (X7_rotate_H a_0 v_1 v_2 h)) : ex_S yX7_rotate mX7_rotate (d + 1) [.ref a_0, .int v_1, .int v_2] h bc bs Q := by
  unfold  X7_rotate_H at w
  unfold X7_rotate_C at c
  refine X7_rotate_e (X7_rotate_0 ?_)
  intro x1 ex1
  subst ex1
  obtain ⟨c1, c⟩ := c
  refine ⟨c1, ?_⟩
  obtain ⟨a3, ea3, c⟩ := c
  try simp only [ea3, Option.getD_some] at w
  refine ⟨a3, ea3, ?_⟩
  obtain ⟨c1, c⟩ := c
  refine ⟨c1, ?_⟩
  intro x5 ex5
  subst ex5
  obtain ⟨c1, c⟩ := c
  refine ⟨c1, ?_⟩
  intro x7 ex7
  subst ex7
  obtain ⟨c1, c⟩ := c
  refine ⟨c1, ?_⟩
  intro x9 ex9
  subst ex9
  obtain ⟨c1, c⟩ := c
  refine ⟨c1, ?_⟩
  intro x11 ex11
  subst ex11
  obtain ⟨c1, c⟩ := c
  refine ⟨c1, ?_⟩
  intro h12 eh12
  subst eh12
  obtain ⟨c1, c⟩ := c
  refine ⟨c1, ?_⟩
  intro h14 eh14
  subst eh14
  obtain ⟨c1, c⟩ := c
  refine ⟨c1, ?_⟩
  intro h16 eh16
  subst eh16
  obtain ⟨c1, c⟩ := c
  refine ⟨c1, ?_⟩
  intro h18 eh18
  subst eh18
  exact w

set_option maxRecDepth 100000 in
theorem X9_costOf_0 {d bc bs : Nat} {h : AH} {Q : Option Value → AH → Prop} {v_0 : Int32} (w : Q (some (.int (1 <<< ((J9_min_7cf53_V (J9_max_7cf53_V v_0 0 h) 14 h) &&& (31 : Int32))))) h) : ex_G mX9_costOf (d + 1) 0 [.int v_0] [] h bc bs Q := by
  refine ex_iconst (q := 1) (v := 1) dX9_costOf_0 (by decide) ?_
  refine ex_iload_n (q := 2) (x := v_0) dX9_costOf_1 rfl ?_
  refine ex_iconst (q := 3) (v := 0) dX9_costOf_2 (by decide) ?_
  refine ex_callS (q := 6) (M := mX9_costOf) (hdd := Nat.le_refl _) (mc := 0) (ms := 0) (d' := d) (st := [.int 1]) (bc := bc) (bs := bs) dX9_costOf_3 rfl cl_X9_20 wd_148 (J9_max_7cf53_s (Q := fun r z => r = some (.int (J9_max_7cf53_V v_0 0 h)) ∧ z = h) ⟨rfl, rfl⟩) ?_
  intro r z hrz
  rw [hrz.1, hrz.2]
  show ex_G mX9_costOf (d + 1) 6 [.int v_0] [.int (J9_max_7cf53_V v_0 0 h), .int 1] (h) bc bs Q
  refine ex_bipush (q := 8) (v := 14) dX9_costOf_6 (by decide) ?_
  refine ex_callS (q := 11) (M := mX9_costOf) (hdd := Nat.le_refl _) (mc := 0) (ms := 0) (d' := d) (st := [.int 1]) (bc := bc) (bs := bs) dX9_costOf_8 rfl cl_X9_26 wd_710 (J9_min_7cf53_s (Q := fun r z => r = some (.int (J9_min_7cf53_V (J9_max_7cf53_V v_0 0 h) 14 h)) ∧ z = h) ⟨rfl, rfl⟩) ?_
  intro r z hrz
  rw [hrz.1, hrz.2]
  show ex_G mX9_costOf (d + 1) 11 [.int v_0] [.int (J9_min_7cf53_V (J9_max_7cf53_V v_0 0 h) 14 h), .int 1] (h) bc bs Q
  refine ex_ishl (q := 12) dX9_costOf_11 ?_
  exact ex_ireturn dX9_costOf_12 rfl (Or.inl rfl) w

theorem X9_costOf_e {d bc bs : Nat} {h : AH} {Q : Option Value → AH → Prop} {v_0 : Int32} (w : ex_G mX9_costOf (d + 1) 0 [.int v_0] [] h bc bs Q) : ex_S yX9_costOf mX9_costOf (d + 1) [.int v_0] h bc bs Q :=
  ex_enter (plainFor_of_name (by decide +kernel)) ⟨rfl, rfl⟩ rfl rfl (Nat.le_of_ble_eq_true rfl) (ex_pad 0 w)

def X9_costOf_V (v_0 : Int32) (h : AH) : Int32 := 1 <<< ((J9_min_7cf53_V (J9_max_7cf53_V v_0 0 h) 14 h) &&& (31 : Int32))
theorem X9_costOf_s {d bc bs : Nat} {h : AH} {Q : Option Value → AH → Prop} {v_0 : Int32} (w : Q (some (.int (X9_costOf_V v_0 h))) h) : ex_S yX9_costOf mX9_costOf (d + 1) [.int v_0] h bc bs Q := by
  unfold X9_costOf_V at w
  refine X9_costOf_e (X9_costOf_0 ?_)
  exact w

set_option maxRecDepth 100000 in
theorem X5_isLens_0 {d bc bs : Nat} {h : AH} {Q : Option Value → AH → Prop} {a_0 : Nat} {v_1 : Int32} (w : ah_o h a_0 4 ∧ X4_hasEnd_C a_0 v_1 h ∧ ((¬ (X4_hasEnd_V a_0 v_1 h) = 0 → ∃ a4, ah_r h a_0 0 = some a4 ∧ ld0 h a4 v_1 ∧ ∀ x6, x6 = ah_i h a4 (Int32.toNatClampNeg v_1) → X4_nextInRegion_C a_0 v_1 h ∧ ∀ x8, x8 = X4_nextInRegion_V a_0 v_1 h → X4_nextInRegion_C a_0 x8 h ∧ ((¬ (X4_nextInRegion_V a_0 x8 h) = v_1 → Q (some (.int 0)) h) ∧ ((X4_nextInRegion_V a_0 x8 h) = v_1 → (((x8 >>> (2 &&& (31 : Int32))) = (v_1 >>> (2 &&& (31 : Int32))) → Q (some (.int 0)) h) ∧ (¬ (x8 >>> (2 &&& (31 : Int32))) = (v_1 >>> (2 &&& (31 : Int32))) → ((¬ ((v_1 ^^^ x6) &&& 1) = 0 → Q (some (.int 0)) h) ∧ (((v_1 ^^^ x6) &&& 1) = 0 → Q (some (.int 1)) h))))))) ∧ ((X4_hasEnd_V a_0 v_1 h) = 0 → Q (some (.int 0)) h))) : ex_G mX5_isLens (d + 2) 0 [.ref a_0, .int v_1, .retAddr 0, .retAddr 0] [] h bc bs Q := by
  refine ex_aload_n (q := 1) (x := a_0) dX5_isLens_0 rfl ?_
  refine ex_iload_n (q := 2) (x := v_1) dX5_isLens_1 rfl ?_
  have s1 := w.1
  replace w := w.2
  have s2 := w.1
  replace w := w.2
  refine ex_callV (q := 5) (M := mX5_isLens) (hdd := Nat.le_refl _) (mc := 0) (ms := 0) (d' := (d + 1)) (c := 4) (st := []) (bc := bc) (bs := bs) dX5_isLens_2 rfl cl_X5_85 wd_734 wd_735 s1 (X4_hasEnd_s (Q := fun r z => r = some (.int (X4_hasEnd_V a_0 v_1 h)) ∧ z = h) s2 ⟨rfl, rfl⟩) ?_
  intro r z hrz
  rw [hrz.1, hrz.2]
  show ex_G mX5_isLens (d + 2) 5 [.ref a_0, .int v_1, .retAddr 0, .retAddr 0] [.int (X4_hasEnd_V a_0 v_1 h)] (h) bc bs Q
  refine ex_if_ne (tgt := 10) (q := 8) dX5_isLens_5 (fun c3 => ?_) (fun c3 => ?_)
  · replace w := w.1 c3
    refine ex_aload_n (q := 11) (x := a_0) dX5_isLens_10 rfl ?_
    obtain ⟨a4, ea4, w⟩ := w
    refine ex_getr (q := 14) dX5_isLens_11 fl_X5_104 s1 ea4 ?_
    refine ex_iload_n (q := 15) (x := v_1) dX5_isLens_14 rfl ?_
    have s5 := w.1
    replace w := w.2
    refine ex_iald (q := 16) dX5_isLens_15 s5 ?_
    refine ex_nmi (fun x6 ex6 => ?_)
    replace w := w x6 ex6
    refine ex_istore_n (q := 17) (ls' := [.ref a_0, .int v_1, .int x6, .retAddr 0]) dX5_isLens_16 rfl ?_
    refine ex_aload_n (q := 18) (x := a_0) dX5_isLens_17 rfl ?_
    refine ex_iload_n (q := 19) (x := v_1) dX5_isLens_18 rfl ?_
    have s7 := w.1
    replace w := w.2
    refine ex_callV (q := 22) (M := mX5_isLens) (hdd := Nat.le_refl _) (mc := 0) (ms := 0) (d' := (d + 1)) (c := 4) (st := []) (bc := bc) (bs := bs) dX5_isLens_19 rfl cl_X5_124 wd_1079 wd_1080 s1 (X4_nextInRegion_s (Q := fun r z => r = some (.int (X4_nextInRegion_V a_0 v_1 h)) ∧ z = h) s7 ⟨rfl, rfl⟩) ?_
    intro r z hrz
    rw [hrz.1, hrz.2]
    show ex_G mX5_isLens (d + 2) 22 [.ref a_0, .int v_1, .int x6, .retAddr 0] [.int (X4_nextInRegion_V a_0 v_1 h)] (h) bc bs Q
    refine ex_nmi (fun x8 ex8 => ?_)
    replace w := w x8 ex8
    refine ex_istore_n (q := 23) (ls' := [.ref a_0, .int v_1, .int x6, .int x8]) dX5_isLens_22 rfl ?_
    refine ex_aload_n (q := 24) (x := a_0) dX5_isLens_23 rfl ?_
    refine ex_iload_n (q := 25) (x := x8) dX5_isLens_24 rfl ?_
    have s9 := w.1
    replace w := w.2
    refine ex_callV (q := 28) (M := mX5_isLens) (hdd := Nat.le_refl _) (mc := 0) (ms := 0) (d' := (d + 1)) (c := 4) (st := []) (bc := bc) (bs := bs) dX5_isLens_25 rfl cl_X5_124 wd_1079 wd_1080 s1 (X4_nextInRegion_s (Q := fun r z => r = some (.int (X4_nextInRegion_V a_0 x8 h)) ∧ z = h) s9 ⟨rfl, rfl⟩) ?_
    intro r z hrz
    rw [hrz.1, hrz.2]
    show ex_G mX5_isLens (d + 2) 28 [.ref a_0, .int v_1, .int x6, .int x8] [.int (X4_nextInRegion_V a_0 x8 h)] (h) bc bs Q
    refine ex_iload_n (q := 29) (x := v_1) dX5_isLens_28 rfl ?_
    refine ex_icmp_ne (tgt := 53) (q := 32) dX5_isLens_29 (fun c10 => ?_) (fun c10 => ?_)
    · replace w := w.1 c10
      refine ex_iconst (q := 54) (v := 0) dX5_isLens_53 (by decide) ?_
      exact ex_ireturn dX5_isLens_54 rfl (Or.inr ⟨rfl, Or.inl rfl⟩) w
    · replace w := w.2 c10
      refine ex_iload_n (q := 33) (x := x8) dX5_isLens_32 rfl ?_
      refine ex_iconst (q := 34) (v := 2) dX5_isLens_33 (by decide) ?_
      refine ex_ishr (q := 35) dX5_isLens_34 ?_
      refine ex_iload_n (q := 36) (x := v_1) dX5_isLens_35 rfl ?_
      refine ex_iconst (q := 37) (v := 2) dX5_isLens_36 (by decide) ?_
      refine ex_ishr (q := 38) dX5_isLens_37 ?_
      refine ex_icmp_eq (tgt := 53) (q := 41) dX5_isLens_38 (fun c11 => ?_) (fun c11 => ?_)
      · replace w := w.1 c11
        refine ex_iconst (q := 54) (v := 0) dX5_isLens_53 (by decide) ?_
        exact ex_ireturn dX5_isLens_54 rfl (Or.inr ⟨rfl, Or.inl rfl⟩) w
      · replace w := w.2 c11
        refine ex_iload_n (q := 42) (x := v_1) dX5_isLens_41 rfl ?_
        refine ex_iload_n (q := 43) (x := x6) dX5_isLens_42 rfl ?_
        refine ex_ixor (q := 44) dX5_isLens_43 ?_
        refine ex_iconst (q := 45) (v := 1) dX5_isLens_44 (by decide) ?_
        refine ex_iand (q := 46) dX5_isLens_45 ?_
        refine ex_if_ne (tgt := 53) (q := 49) dX5_isLens_46 (fun c12 => ?_) (fun c12 => ?_)
        · replace w := w.1 c12
          refine ex_iconst (q := 54) (v := 0) dX5_isLens_53 (by decide) ?_
          exact ex_ireturn dX5_isLens_54 rfl (Or.inr ⟨rfl, Or.inl rfl⟩) w
        · replace w := w.2 c12
          refine ex_iconst (q := 50) (v := 1) dX5_isLens_49 (by decide) ?_
          refine ex_goto (tgt := 54) dX5_isLens_50 ?_
          exact ex_ireturn dX5_isLens_54 rfl (Or.inr ⟨rfl, Or.inr rfl⟩) w
  · replace w := w.2 c3
    refine ex_iconst (q := 9) (v := 0) dX5_isLens_8 (by decide) ?_
    exact ex_ireturn dX5_isLens_9 rfl (Or.inr ⟨rfl, Or.inl rfl⟩) w

theorem X5_isLens_e {d bc bs : Nat} {h : AH} {Q : Option Value → AH → Prop} {a_0 : Nat} {v_1 : Int32} (w : ex_G mX5_isLens (d + 2) 0 [.ref a_0, .int v_1, .retAddr 0, .retAddr 0] [] h bc bs Q) : ex_S yX5_isLens mX5_isLens (d + 2) [.ref a_0, .int v_1] h bc bs Q :=
  ex_enter (plainFor_of_name (by decide +kernel)) ⟨rfl, rfl⟩ rfl rfl (Nat.le_of_ble_eq_true rfl) (ex_pad 2 w)

def X5_isLens_V (a_0 : Nat) (v_1 : Int32) (h : AH) : Int32 := (if (X4_hasEnd_V a_0 v_1 h) = 0 then 0 else (if (X4_nextInRegion_V a_0 (X4_nextInRegion_V a_0 v_1 h) h) = v_1 then (if ((X4_nextInRegion_V a_0 v_1 h) >>> (2 &&& (31 : Int32))) = (v_1 >>> (2 &&& (31 : Int32))) then 0 else (if ((v_1 ^^^ (ah_i h (Option.getD (ah_r h a_0 0) 0) (Int32.toNatClampNeg v_1))) &&& 1) = 0 then 1 else 0)) else 0))
def X5_isLens_C (a_0 : Nat) (v_1 : Int32) (h : AH) : Prop := ah_o h a_0 4 ∧ X4_hasEnd_C a_0 v_1 h ∧ (¬ (X4_hasEnd_V a_0 v_1 h) = 0 → ∃ a4, ah_r h a_0 0 = some a4 ∧ ld0 h a4 v_1 ∧ X4_nextInRegion_C a_0 v_1 h ∧ X4_nextInRegion_C a_0 (X4_nextInRegion_V a_0 v_1 h) h ∧ True) ∧ ((X4_hasEnd_V a_0 v_1 h) = 0 → True)
theorem X5_isLens_s {d bc bs : Nat} {h : AH} {Q : Option Value → AH → Prop} {a_0 : Nat} {v_1 : Int32} (c : X5_isLens_C a_0 v_1 h) (w : Q (some (.int (X5_isLens_V a_0 v_1 h))) h) : ex_S yX5_isLens mX5_isLens (d + 2) [.ref a_0, .int v_1] h bc bs Q := by
  unfold X5_isLens_V at w
  unfold X5_isLens_C at c
  refine X5_isLens_e (X5_isLens_0 ?_)
  obtain ⟨c1, c⟩ := c
  refine ⟨c1, ?_⟩
  obtain ⟨c1, c⟩ := c
  refine ⟨c1, ?_⟩
  refine ⟨fun k => ?_, fun k => ?_⟩
  · rw [if_neg k] at w
    replace c := c.1 k
    obtain ⟨a4, ea4, c⟩ := c
    try simp only [ea4, Option.getD_some] at w
    refine ⟨a4, ea4, ?_⟩
    obtain ⟨c1, c⟩ := c
    refine ⟨c1, ?_⟩
    intro x6 ex6
    subst ex6
    obtain ⟨c1, c⟩ := c
    refine ⟨c1, ?_⟩
    intro x8 ex8
    subst ex8
    obtain ⟨c1, c⟩ := c
    refine ⟨c1, ?_⟩
    refine ⟨fun k => ?_, fun k => ?_⟩
    · rw [if_neg k] at w
      exact w
    · rw [if_pos k] at w
      refine ⟨fun k => ?_, fun k => ?_⟩
      · rw [if_pos k] at w
        exact w
      · rw [if_neg k] at w
        refine ⟨fun k => ?_, fun k => ?_⟩
        · rw [if_neg k] at w
          exact w
        · rw [if_pos k] at w
          exact w
  · rw [if_pos k] at w
    replace c := c.2 k
    exact w
