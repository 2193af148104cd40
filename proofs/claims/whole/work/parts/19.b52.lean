set_option maxRecDepth 100000 in
theorem X12_may_0 {d bc bs : Nat} {h : AH} {Q : Option Value → AH → Prop} {a_0 : Nat} {v_1 : Int32} {v_2 : Int32} (w : ah_o h a_0 12 ∧ ex_S yX12_tried mX12_tried (d + 5) [.ref a_0, .int v_1, .int v_2, .int 0] h 0 0 (fun r h1 => ∃ x3, r = some (.int x3) ∧ ((0 ≤ x3 → ah_o h1 a_0 12 ∧ X12_well_C a_0 1 h1 ∧ ∀ h7, h7 = X12_well_H a_0 1 h1 → Q (some (.int (X12_well_V a_0 1 h1))) h7) ∧ (¬ 0 ≤ x3 → Q (some (.int x3)) h1)))) : ex_G mX12_may (d + 6) 0 [.ref a_0, .int v_1, .int v_2, .retAddr 0] [] h bc bs Q := by
  refine ex_aload_n (q := 1) (x := a_0) dX12_may_0 rfl ?_
  refine ex_iload_n (q := 2) (x := v_1) dX12_may_1 rfl ?_
  refine ex_iload_n (q := 3) (x := v_2) dX12_may_2 rfl ?_
  refine ex_iconst (q := 4) (v := 0) dX12_may_3 (by decide) ?_
  have s2 := w.1
  replace w := w.2
  refine ex_callV (q := 7) (M := mX12_may) (hdd := Nat.le_refl _) (c := 12) (st := []) (bc := bc) (bs := bs) dX12_may_4 rfl cl_X12_387 wd_1832 wd_75 s2 w ?_
  rintro r h1 ⟨x3, rfl, w⟩
  show ex_G mX12_may (d + 6) 7 [.ref a_0, .int v_1, .int v_2, .retAddr 0] [.int x3] h1 bc bs Q
  refine ex_istore_n (q := 8) (ls' := [.ref a_0, .int v_1, .int v_2, .int x3]) dX12_may_7 rfl ?_
  refine ex_iload_n (q := 9) (x := x3) dX12_may_8 rfl ?_
  refine ex_if_ge (tgt := 16) (q := 12) dX12_may_9 (fun c4 => ?_) (fun c4 => ?_)
  · replace w := w.1 c4
    refine ex_aload_n (q := 17) (x := a_0) dX12_may_16 rfl ?_
    refine ex_iconst (q := 18) (v := 1) dX12_may_17 (by decide) ?_
    have s5 := w.1
    replace w := w.2
    have s6 := w.1
    replace w := w.2
    refine ex_callV (q := 21) (M := mX12_may) (hdd := Nat.le_refl _) (mc := 0) (ms := 0) (d' := (d + 5)) (c := 12) (st := []) (bc := bc) (bs := bs) dX12_may_18 rfl cl_X12_180 wd_1585 wd_47 s5 (X12_well_s (Q := fun r z => r = some (.int (X12_well_V a_0 1 h1)) ∧ z = X12_well_H a_0 1 h1) s6 ⟨rfl, rfl⟩) ?_
    intro r z hrz
    rw [hrz.1, hrz.2]
    show ex_G mX12_may (d + 6) 21 [.ref a_0, .int v_1, .int v_2, .int x3] [.int (X12_well_V a_0 1 h1)] (X12_well_H a_0 1 h1) bc bs Q
    refine ex_nmh (fun h7 eh7 => ?_)
    replace w := w h7 eh7
    exact ex_ireturn dX12_may_21 rfl (Or.inl rfl) w
  · replace w := w.2 c4
    refine ex_iload_n (q := 13) (x := x3) dX12_may_12 rfl ?_
    refine ex_goto (tgt := 21) dX12_may_13 ?_
    exact ex_ireturn dX12_may_21 rfl (Or.inl rfl) w

theorem X12_may_e {d bc bs : Nat} {h : AH} {Q : Option Value → AH → Prop} {a_0 : Nat} {v_1 : Int32} {v_2 : Int32} (w : ex_G mX12_may (d + 6) 0 [.ref a_0, .int v_1, .int v_2, .retAddr 0] [] h bc bs Q) : ex_S yX12_may mX12_may (d + 6) [.ref a_0, .int v_1, .int v_2] h bc bs Q :=
  ex_enter (plainFor_of_name (by decide +kernel)) ⟨rfl, rfl⟩ rfl rfl (Nat.le_of_ble_eq_true rfl) (ex_pad 1 w)

set_option maxRecDepth 100000 in
theorem X12_does_0 {d bc bs : Nat} {h : AH} {Q : Option Value → AH → Prop} {a_0 : Nat} {v_1 : Int32} {v_2 : Int32} (w : ah_o h a_0 12 ∧ ex_S yX12_tried mX12_tried (d + 5) [.ref a_0, .int v_1, .int v_2, .int 0] h 0 0 (fun r h1 => ∃ x3, r = some (.int x3) ∧ ((¬ x3 = 0 → ex_G mX12_does (d + 6) 20 [.ref a_0, .retAddr 0, .retAddr 0, .int x3] [] h1 bc bs Q) ∧ (x3 = 0 → ah_o h1 a_0 12 ∧ ex_S yX12_replaced mX12_replaced (d + 5) [.ref a_0, .int v_1, .int 364] h1 0 0 (fun r h5 => r = none ∧ ex_G mX12_does (d + 6) 20 [.ref a_0, .retAddr 0, .retAddr 0, .int x3] [] h5 bc bs Q))))) : ex_G mX12_does (d + 6) 0 [.ref a_0, .int v_1, .int v_2, .retAddr 0] [] h bc bs Q := by
  refine ex_aload_n (q := 1) (x := a_0) dX12_does_0 rfl ?_
  refine ex_iload_n (q := 2) (x := v_1) dX12_does_1 rfl ?_
  refine ex_iload_n (q := 3) (x := v_2) dX12_does_2 rfl ?_
  refine ex_iconst (q := 4) (v := 0) dX12_does_3 (by decide) ?_
  have s2 := w.1
  replace w := w.2
  refine ex_callV (q := 7) (M := mX12_does) (hdd := Nat.le_refl _) (c := 12) (st := []) (bc := bc) (bs := bs) dX12_does_4 rfl cl_X12_387 wd_1832 wd_75 s2 w ?_
  rintro r h1 ⟨x3, rfl, w⟩
  show ex_G mX12_does (d + 6) 7 [.ref a_0, .int v_1, .int v_2, .retAddr 0] [.int x3] h1 bc bs Q
  refine ex_istore_n (q := 8) (ls' := [.ref a_0, .int v_1, .int v_2, .int x3]) dX12_does_7 rfl ?_
  refine ex_iload_n (q := 9) (x := x3) dX12_does_8 rfl ?_
  refine ex_if_ne (tgt := 20) (q := 12) dX12_does_9 (fun c4 => ?_) (fun c4 => ?_)
  · replace w := w.1 c4
    refine ex_kill 1 (ls' := [.ref a_0, .retAddr 0, .int v_2, .int x3]) rfl ?_
    refine ex_kill 2 (ls' := [.ref a_0, .retAddr 0, .retAddr 0, .int x3]) rfl ?_
    exact w
  · replace w := w.2 c4
    refine ex_aload_n (q := 13) (x := a_0) dX12_does_12 rfl ?_
    refine ex_iload_n (q := 14) (x := v_1) dX12_does_13 rfl ?_
    refine ex_sipush (q := 17) (v := 364) dX12_does_14 (by decide) ?_
    have s6 := w.1
    replace w := w.2
    refine ex_callV (q := 20) (M := mX12_does) (hdd := Nat.le_refl _) (c := 12) (st := []) (bc := bc) (bs := bs) dX12_does_17 rfl cl_X12_391 wd_1929 wd_97 s6 w ?_
    rintro r h5 ⟨rfl, w⟩
    show ex_G mX12_does (d + 6) 20 [.ref a_0, .int v_1, .int v_2, .int x3] [] h5 bc bs Q
    refine ex_kill 1 (ls' := [.ref a_0, .retAddr 0, .int v_2, .int x3]) rfl ?_
    refine ex_kill 2 (ls' := [.ref a_0, .retAddr 0, .retAddr 0, .int x3]) rfl ?_
    exact w

set_option maxRecDepth 100000 in
theorem X12_does_20 {d bc bs : Nat} {h : AH} {Q : Option Value → AH → Prop} {a_0 : Nat} {v_3 : Int32} (w : ((0 ≤ v_3 → ah_o h a_0 12 ∧ X12_well_C a_0 1 h ∧ ∀ h4, h4 = X12_well_H a_0 1 h → Q (some (.int (X12_well_V a_0 1 h))) h4) ∧ (¬ 0 ≤ v_3 → Q (some (.int v_3)) h))) : ex_G mX12_does (d + 6) 20 [.ref a_0, .retAddr 0, .retAddr 0, .int v_3] [] h bc bs Q := by
  refine ex_iload_n (q := 21) (x := v_3) dX12_does_20 rfl ?_
  refine ex_if_ge (tgt := 28) (q := 24) dX12_does_21 (fun c1 => ?_) (fun c1 => ?_)
  · replace w := w.1 c1
    refine ex_aload_n (q := 29) (x := a_0) dX12_does_28 rfl ?_
    refine ex_iconst (q := 30) (v := 1) dX12_does_29 (by decide) ?_
    have s2 := w.1
    replace w := w.2
    have s3 := w.1
    replace w := w.2
    refine ex_callV (q := 33) (M := mX12_does) (hdd := Nat.le_refl _) (mc := 0) (ms := 0) (d' := (d + 5)) (c := 12) (st := []) (bc := bc) (bs := bs) dX12_does_30 rfl cl_X12_180 wd_1585 wd_47 s2 (X12_well_s (Q := fun r z => r = some (.int (X12_well_V a_0 1 h)) ∧ z = X12_well_H a_0 1 h) s3 ⟨rfl, rfl⟩) ?_
    intro r z hrz
    rw [hrz.1, hrz.2]
    show ex_G mX12_does (d + 6) 33 [.ref a_0, .retAddr 0, .retAddr 0, .int v_3] [.int (X12_well_V a_0 1 h)] (X12_well_H a_0 1 h) bc bs Q
    refine ex_nmh (fun h4 eh4 => ?_)
    replace w := w h4 eh4
    exact ex_ireturn dX12_does_33 rfl (Or.inl rfl) w
  · replace w := w.2 c1
    refine ex_iload_n (q := 25) (x := v_3) dX12_does_24 rfl ?_
    refine ex_goto (tgt := 33) dX12_does_25 ?_
    exact ex_ireturn dX12_does_33 rfl (Or.inl rfl) w

theorem X12_does_e {d bc bs : Nat} {h : AH} {Q : Option Value → AH → Prop} {a_0 : Nat} {v_1 : Int32} {v_2 : Int32} (w : ex_G mX12_does (d + 6) 0 [.ref a_0, .int v_1, .int v_2, .retAddr 0] [] h bc bs Q) : ex_S yX12_does mX12_does (d + 6) [.ref a_0, .int v_1, .int v_2] h bc bs Q :=
  ex_enter (plainFor_of_name (by decide +kernel)) ⟨rfl, rfl⟩ rfl rfl (Nat.le_of_ble_eq_true rfl) (ex_pad 1 w)

set_option maxRecDepth 100000 in
theorem X12_undoes_0 {d bc bs : Nat} {h : AH} {Q : Option Value → AH → Prop} {a_0 : Nat} {v_1 : Int32} {v_2 : Int32} (w : ah_o h a_0 12 ∧ ex_S yX12_tried mX12_tried (d + 5) [.ref a_0, .int v_1, .int v_2, .int 1] h 0 0 (fun r h1 => ∃ x3, r = some (.int x3) ∧ ((¬ x3 = 0 → ex_G mX12_undoes (d + 6) 20 [.ref a_0, .retAddr 0, .retAddr 0, .int x3] [] h1 bc bs Q) ∧ (x3 = 0 → ah_o h1 a_0 12 ∧ ex_S yX12_replaced mX12_replaced (d + 5) [.ref a_0, .int v_1, .int 364] h1 0 0 (fun r h5 => r = none ∧ ex_G mX12_undoes (d + 6) 20 [.ref a_0, .retAddr 0, .retAddr 0, .int x3] [] h5 bc bs Q))))) : ex_G mX12_undoes (d + 6) 0 [.ref a_0, .int v_1, .int v_2, .retAddr 0] [] h bc bs Q := by
  refine ex_aload_n (q := 1) (x := a_0) dX12_undoes_0 rfl ?_
  refine ex_iload_n (q := 2) (x := v_1) dX12_undoes_1 rfl ?_
  refine ex_iload_n (q := 3) (x := v_2) dX12_undoes_2 rfl ?_
  refine ex_iconst (q := 4) (v := 1) dX12_undoes_3 (by decide) ?_
  have s2 := w.1
  replace w := w.2
  refine ex_callV (q := 7) (M := mX12_undoes) (hdd := Nat.le_refl _) (c := 12) (st := []) (bc := bc) (bs := bs) dX12_undoes_4 rfl cl_X12_387 wd_1832 wd_75 s2 w ?_
  rintro r h1 ⟨x3, rfl, w⟩
  show ex_G mX12_undoes (d + 6) 7 [.ref a_0, .int v_1, .int v_2, .retAddr 0] [.int x3] h1 bc bs Q
  refine ex_istore_n (q := 8) (ls' := [.ref a_0, .int v_1, .int v_2, .int x3]) dX12_undoes_7 rfl ?_
  refine ex_iload_n (q := 9) (x := x3) dX12_undoes_8 rfl ?_
  refine ex_if_ne (tgt := 20) (q := 12) dX12_undoes_9 (fun c4 => ?_) (fun c4 => ?_)
  · replace w := w.1 c4
    refine ex_kill 1 (ls' := [.ref a_0, .retAddr 0, .int v_2, .int x3]) rfl ?_
    refine ex_kill 2 (ls' := [.ref a_0, .retAddr 0, .retAddr 0, .int x3]) rfl ?_
    exact w
  · replace w := w.2 c4
    refine ex_aload_n (q := 13) (x := a_0) dX12_undoes_12 rfl ?_
    refine ex_iload_n (q := 14) (x := v_1) dX12_undoes_13 rfl ?_
    refine ex_sipush (q := 17) (v := 364) dX12_undoes_14 (by decide) ?_
    have s6 := w.1
    replace w := w.2
    refine ex_callV (q := 20) (M := mX12_undoes) (hdd := Nat.le_refl _) (c := 12) (st := []) (bc := bc) (bs := bs) dX12_undoes_17 rfl cl_X12_391 wd_1929 wd_97 s6 w ?_
    rintro r h5 ⟨rfl, w⟩
    show ex_G mX12_undoes (d + 6) 20 [.ref a_0, .int v_1, .int v_2, .int x3] [] h5 bc bs Q
    refine ex_kill 1 (ls' := [.ref a_0, .retAddr 0, .int v_2, .int x3]) rfl ?_
    refine ex_kill 2 (ls' := [.ref a_0, .retAddr 0, .retAddr 0, .int x3]) rfl ?_
    exact w

set_option maxRecDepth 100000 in
theorem X12_undoes_20 {d bc bs : Nat} {h : AH} {Q : Option Value → AH → Prop} {a_0 : Nat} {v_3 : Int32} (w : ((0 ≤ v_3 → ah_o h a_0 12 ∧ X12_well_C a_0 1 h ∧ ∀ h4, h4 = X12_well_H a_0 1 h → Q (some (.int (X12_well_V a_0 1 h))) h4) ∧ (¬ 0 ≤ v_3 → Q (some (.int v_3)) h))) : ex_G mX12_undoes (d + 6) 20 [.ref a_0, .retAddr 0, .retAddr 0, .int v_3] [] h bc bs Q := by
  refine ex_iload_n (q := 21) (x := v_3) dX12_undoes_20 rfl ?_
  refine ex_if_ge (tgt := 28) (q := 24) dX12_undoes_21 (fun c1 => ?_) (fun c1 => ?_)
  · replace w := w.1 c1
    refine ex_aload_n (q := 29) (x := a_0) dX12_undoes_28 rfl ?_
    refine ex_iconst (q := 30) (v := 1) dX12_undoes_29 (by decide) ?_
    have s2 := w.1
    replace w := w.2
    have s3 := w.1
    replace w := w.2
    refine ex_callV (q := 33) (M := mX12_undoes) (hdd := Nat.le_refl _) (mc := 0) (ms := 0) (d' := (d + 5)) (c := 12) (st := []) (bc := bc) (bs := bs) dX12_undoes_30 rfl cl_X12_180 wd_1585 wd_47 s2 (X12_well_s (Q := fun r z => r = some (.int (X12_well_V a_0 1 h)) ∧ z = X12_well_H a_0 1 h) s3 ⟨rfl, rfl⟩) ?_
    intro r z hrz
    rw [hrz.1, hrz.2]
    show ex_G mX12_undoes (d + 6) 33 [.ref a_0, .retAddr 0, .retAddr 0, .int v_3] [.int (X12_well_V a_0 1 h)] (X12_well_H a_0 1 h) bc bs Q
    refine ex_nmh (fun h4 eh4 => ?_)
    replace w := w h4 eh4
    exact ex_ireturn dX12_undoes_33 rfl (Or.inl rfl) w
  · replace w := w.2 c1
    refine ex_iload_n (q := 25) (x := v_3) dX12_undoes_24 rfl ?_
    refine ex_goto (tgt := 33) dX12_undoes_25 ?_
    exact ex_ireturn dX12_undoes_33 rfl (Or.inl rfl) w

theorem X12_undoes_e {d bc bs : Nat} {h : AH} {Q : Option Value → AH → Prop} {a_0 : Nat} {v_1 : Int32} {v_2 : Int32} (w : ex_G mX12_undoes (d + 6) 0 [.ref a_0, .int v_1, .int v_2, .retAddr 0] [] h bc bs Q) : ex_S yX12_undoes mX12_undoes (d + 6) [.ref a_0, .int v_1, .int v_2] h bc bs Q :=
  ex_enter (plainFor_of_name (by decide +kernel)) ⟨rfl, rfl⟩ rfl rfl (Nat.le_of_ble_eq_true rfl) (ex_pad 1 w)

set_option maxRecDepth 100000 in
theorem X12_allTurned_0 {d bc bs : Nat} {h : AH} {Q : Option Value → AH → Prop} {a_0 : Nat} {v_1 : Int32} {v_2 : Int32} (w : ah_o h a_0 12 ∧ ex_S yX12_refusal mX12_refusal (d + 4) [.ref a_0, .int v_1] h 0 0 (fun r h1 => ∃ x3, r = some (.int x3) ∧ ((0 ≤ x3 → ah_o h1 a_0 12 ∧ ex_S yX12_copySlot mX12_copySlot (d + 4) [.ref a_0, .int v_1, .int 364] h1 0 0 (fun r h5 => r = none ∧ ex_G mX12_allTurned (d + 5) 23 [.ref a_0, .int v_1, .int v_2, .retAddr 0, .int 0, .retAddr 0] [] h5 bc bs Q)) ∧ (¬ 0 ≤ x3 → Q (some (.int x3)) h1)))) : ex_G mX12_allTurned (d + 5) 0 [.ref a_0, .int v_1, .int v_2, .retAddr 0, .retAddr 0, .retAddr 0] [] h bc bs Q := by
  refine ex_aload_n (q := 1) (x := a_0) dX12_allTurned_0 rfl ?_
  refine ex_iload_n (q := 2) (x := v_1) dX12_allTurned_1 rfl ?_
  have s2 := w.1
  replace w := w.2
  refine ex_callV (q := 5) (M := mX12_allTurned) (hdd := Nat.le_refl _) (c := 12) (st := []) (bc := bc) (bs := bs) dX12_allTurned_2 rfl cl_X12_237 wd_1675 wd_57 s2 w ?_
  rintro r h1 ⟨x3, rfl, w⟩
  show ex_G mX12_allTurned (d + 5) 5 [.ref a_0, .int v_1, .int v_2, .retAddr 0, .retAddr 0, .retAddr 0] [.int x3] h1 bc bs Q
  refine ex_istore_n (q := 6) (ls' := [.ref a_0, .int v_1, .int v_2, .int x3, .retAddr 0, .retAddr 0]) dX12_allTurned_5 rfl ?_
  refine ex_iload_n (q := 7) (x := x3) dX12_allTurned_6 rfl ?_
  refine ex_if_ge (tgt := 12) (q := 10) dX12_allTurned_7 (fun c4 => ?_) (fun c4 => ?_)
  · replace w := w.1 c4
    refine ex_aload_n (q := 13) (x := a_0) dX12_allTurned_12 rfl ?_
    refine ex_iload_n (q := 14) (x := v_1) dX12_allTurned_13 rfl ?_
    refine ex_sipush (q := 17) (v := 364) dX12_allTurned_14 (by decide) ?_
    have s6 := w.1
    replace w := w.2
    refine ex_callV (q := 20) (M := mX12_allTurned) (hdd := Nat.le_refl _) (c := 12) (st := []) (bc := bc) (bs := bs) dX12_allTurned_17 rfl cl_X12_176 wd_1796 wd_71 s6 w ?_
    rintro r h5 ⟨rfl, w⟩
    show ex_G mX12_allTurned (d + 5) 20 [.ref a_0, .int v_1, .int v_2, .int x3, .retAddr 0, .retAddr 0] [] h5 bc bs Q
    refine ex_iconst (q := 21) (v := 0) dX12_allTurned_20 (by decide) ?_
    refine ex_istore (q := 23) (ls' := [.ref a_0, .int v_1, .int v_2, .int x3, .int 0, .retAddr 0]) dX12_allTurned_21 rfl ?_
    refine ex_kill 3 (ls' := [.ref a_0, .int v_1, .int v_2, .retAddr 0, .int 0, .retAddr 0]) rfl ?_
    exact w
  · replace w := w.2 c4
    refine ex_iload_n (q := 11) (x := x3) dX12_allTurned_10 rfl ?_
    exact ex_ireturn dX12_allTurned_11 rfl (Or.inl rfl) w

set_option maxRecDepth 100000 in
theorem X12_allTurned_23 {d bc bs : Nat} {h : AH} {Q : Option Value → AH → Prop} {a_0 : Nat} {v_1 : Int32} {v_2 : Int32} {v_4 : Int32} (w : ah_o h a_0 12 ∧ ∃ a2, ah_r h a_0 2 = some a2 ∧ ld0 h a2 v_1 ∧ (((ah_i h a2 (Int32.toNatClampNeg v_1)) ≤ v_4 → ex_S yX12_replaced mX12_replaced (d + 4) [.ref a_0, .int v_1, .int 364] h 0 0 (fun r h5 => r = none ∧ ah_o h5 a_0 12 ∧ X12_well_C a_0 1 h5 ∧ ∀ h8, h8 = X12_well_H a_0 1 h5 → Q (some (.int (X12_well_V a_0 1 h5))) h8)) ∧ (¬ (ah_i h a2 (Int32.toNatClampNeg v_1)) ≤ v_4 → ((v_2 = 0 → ex_S yX12_turnOver mX12_turnOver (d + 4) [.ref a_0, .int 364, .int v_4] h 0 0 (fun r h10 => r = none ∧ ∀ x11, x11 = v_4 + 1 → ex_G mX12_allTurned (d + 5) 23 [.ref a_0, .int v_1, .int v_2, .retAddr 0, .int x11, .retAddr 0] [] h10 bc bs Q)) ∧ (¬ v_2 = 0 → ex_S yX12_rotate mX12_rotate (d + 4) [.ref a_0, .int 364, .int v_4, .int 1] h 0 0 (fun r h12 => ∃ x13, r = some (.int x13) ∧ ∀ x14, x14 = v_4 + 1 → ex_G mX12_allTurned (d + 5) 23 [.ref a_0, .int v_1, .int v_2, .retAddr 0, .int x14, .retAddr 0] [] h12 bc bs Q)))))) : ex_G mX12_allTurned (d + 5) 23 [.ref a_0, .int v_1, .int v_2, .retAddr 0, .int v_4, .retAddr 0] [] h bc bs Q := by
  refine ex_iload (q := 25) (x := v_4) dX12_allTurned_23 rfl ?_
  refine ex_aload_n (q := 26) (x := a_0) dX12_allTurned_25 rfl ?_
  have s1 := w.1
  replace w := w.2
  obtain ⟨a2, ea2, w⟩ := w
  refine ex_getr (q := 29) dX12_allTurned_26 fl_X12_13 s1 ea2 ?_
  refine ex_iload_n (q := 30) (x := v_1) dX12_allTurned_29 rfl ?_
  have s3 := w.1
  replace w := w.2
  refine ex_iald (q := 31) dX12_allTurned_30 s3 ?_
  refine ex_icmp_ge (tgt := 68) (q := 34) dX12_allTurned_31 (fun c4 => ?_) (fun c4 => ?_)
  · replace w := w.1 c4
    refine ex_aload_n (q := 69) (x := a_0) dX12_allTurned_68 rfl ?_
    refine ex_iload_n (q := 70) (x := v_1) dX12_allTurned_69 rfl ?_
    refine ex_sipush (q := 73) (v := 364) dX12_allTurned_70 (by decide) ?_
    refine ex_callV (q := 76) (M := mX12_allTurned) (hdd := Nat.le_refl _) (c := 12) (st := []) (bc := bc) (bs := bs) dX12_allTurned_73 rfl cl_X12_391 wd_1929 wd_97 s1 w ?_
    rintro r h5 ⟨rfl, w⟩
    show ex_G mX12_allTurned (d + 5) 76 [.ref a_0, .int v_1, .int v_2, .retAddr 0, .int v_4, .retAddr 0] [] h5 bc bs Q
    refine ex_aload_n (q := 77) (x := a_0) dX12_allTurned_76 rfl ?_
    refine ex_iconst (q := 78) (v := 1) dX12_allTurned_77 (by decide) ?_
    have s6 := w.1
    replace w := w.2
    have s7 := w.1
    replace w := w.2
    refine ex_callV (q := 81) (M := mX12_allTurned) (hdd := Nat.le_refl _) (mc := 0) (ms := 0) (d' := (d + 4)) (c := 12) (st := []) (bc := bc) (bs := bs) dX12_allTurned_78 rfl cl_X12_180 wd_1585 wd_47 s6 (X12_well_s (Q := fun r z => r = some (.int (X12_well_V a_0 1 h5)) ∧ z = X12_well_H a_0 1 h5) s7 ⟨rfl, rfl⟩) ?_
    intro r z hrz
    rw [hrz.1, hrz.2]
    show ex_G mX12_allTurned (d + 5) 81 [.ref a_0, .int v_1, .int v_2, .retAddr 0, .int v_4, .retAddr 0] [.int (X12_well_V a_0 1 h5)] (X12_well_H a_0 1 h5) bc bs Q
    refine ex_nmh (fun h8 eh8 => ?_)
    replace w := w h8 eh8
    exact ex_ireturn dX12_allTurned_81 rfl (Or.inl rfl) w
  · replace w := w.2 c4
    refine ex_iload_n (q := 35) (x := v_2) dX12_allTurned_34 rfl ?_
    refine ex_if_eq (tgt := 53) (q := 38) dX12_allTurned_35 (fun c9 => ?_) (fun c9 => ?_)
    · replace w := w.1 c9
      refine ex_aload_n (q := 54) (x := a_0) dX12_allTurned_53 rfl ?_
      refine ex_sipush (q := 57) (v := 364) dX12_allTurned_54 (by decide) ?_
      refine ex_iload (q := 59) (x := v_4) dX12_allTurned_57 rfl ?_
      refine ex_callV (q := 62) (M := mX12_allTurned) (hdd := Nat.le_refl _) (c := 12) (st := []) (bc := bc) (bs := bs) dX12_allTurned_59 rfl cl_X12_338 wd_1892 wd_89 s1 w ?_
      rintro r h10 ⟨rfl, w⟩
      show ex_G mX12_allTurned (d + 5) 62 [.ref a_0, .int v_1, .int v_2, .retAddr 0, .int v_4, .retAddr 0] [] h10 bc bs Q
      obtain ⟨x11, ex11⟩ : ∃ y : Int32, y = v_4 + 1 := ⟨_, rfl⟩
      replace w := w x11 ex11
      refine ex_iinc (q := 65) (x := v_4) (v := x11) (ls' := [.ref a_0, .int v_1, .int v_2, .retAddr 0, .int x11, .retAddr 0]) dX12_allTurned_62 rfl (by rw [ex11]; rfl) rfl ?_
      refine ex_goto (tgt := 23) dX12_allTurned_65 ?_
      exact w
    · replace w := w.2 c9
      refine ex_aload_n (q := 39) (x := a_0) dX12_allTurned_38 rfl ?_
      refine ex_sipush (q := 42) (v := 364) dX12_allTurned_39 (by decide) ?_
      refine ex_iload (q := 44) (x := v_4) dX12_allTurned_42 rfl ?_
      refine ex_iconst (q := 45) (v := 1) dX12_allTurned_44 (by decide) ?_
      refine ex_callV (q := 48) (M := mX12_allTurned) (hdd := Nat.le_refl _) (c := 12) (st := []) (bc := bc) (bs := bs) dX12_allTurned_45 rfl cl_X12_356 wd_1896 wd_90 s1 w ?_
      rintro r h12 ⟨x13, rfl, w⟩
      show ex_G mX12_allTurned (d + 5) 48 [.ref a_0, .int v_1, .int v_2, .retAddr 0, .int v_4, .retAddr 0] [.int x13] h12 bc bs Q
      refine ex_istore (q := 50) (ls' := [.ref a_0, .int v_1, .int v_2, .retAddr 0, .int v_4, .int x13]) dX12_allTurned_48 rfl ?_
      refine ex_goto (tgt := 62) dX12_allTurned_50 ?_
      obtain ⟨x14, ex14⟩ : ∃ y : Int32, y = v_4 + 1 := ⟨_, rfl⟩
      replace w := w x14 ex14
      refine ex_iinc (q := 65) (x := v_4) (v := x14) (ls' := [.ref a_0, .int v_1, .int v_2, .retAddr 0, .int x14, .int x13]) dX12_allTurned_62 rfl (by rw [ex14]; rfl) rfl ?_
      refine ex_goto (tgt := 23) dX12_allTurned_65 ?_
      refine ex_kill 5 (ls' := [.ref a_0, .int v_1, .int v_2, .retAddr 0, .int x14, .retAddr 0]) rfl ?_
      exact w

theorem X12_allTurned_e {d bc bs : Nat} {h : AH} {Q : Option Value → AH → Prop} {a_0 : Nat} {v_1 : Int32} {v_2 : Int32} (w : ex_G mX12_allTurned (d + 5) 0 [.ref a_0, .int v_1, .int v_2, .retAddr 0, .retAddr 0, .retAddr 0] [] h bc bs Q) : ex_S yX12_allTurned mX12_allTurned (d + 5) [.ref a_0, .int v_1, .int v_2] h bc bs Q :=
  ex_enter (plainFor_of_name (by decide +kernel)) ⟨rfl, rfl⟩ rfl rfl (Nat.le_of_ble_eq_true rfl) (ex_pad 3 w)

set_option maxRecDepth 100000 in
theorem X12_mirror_0 {d bc bs : Nat} {h : AH} {Q : Option Value → AH → Prop} {a_0 : Nat} {v_1 : Int32} (w : ah_o h a_0 12 ∧ ex_S yX12_allTurned mX12_allTurned (d + 5) [.ref a_0, .int v_1, .int 1] h 0 0 (fun r h1 => ∃ x3, r = some (.int x3) ∧ Q (some (.int x3)) h1)) : ex_G mX12_mirror (d + 6) 0 [.ref a_0, .int v_1] [] h bc bs Q := by
  refine ex_aload_n (q := 1) (x := a_0) dX12_mirror_0 rfl ?_
  refine ex_iload_n (q := 2) (x := v_1) dX12_mirror_1 rfl ?_
  refine ex_iconst (q := 3) (v := 1) dX12_mirror_2 (by decide) ?_
  have s2 := w.1
  replace w := w.2
  refine ex_callV (q := 6) (M := mX12_mirror) (hdd := Nat.le_refl _) (c := 12) (st := []) (bc := bc) (bs := bs) dX12_mirror_3 rfl cl_X12_394 wd_1941 wd_98 s2 w ?_
  rintro r h1 ⟨x3, rfl, w⟩
  show ex_G mX12_mirror (d + 6) 6 [.ref a_0, .int v_1] [.int x3] h1 bc bs Q
  exact ex_ireturn dX12_mirror_6 rfl (Or.inl rfl) w

theorem X12_mirror_e {d bc bs : Nat} {h : AH} {Q : Option Value → AH → Prop} {a_0 : Nat} {v_1 : Int32} (w : ex_G mX12_mirror (d + 6) 0 [.ref a_0, .int v_1] [] h bc bs Q) : ex_S yX12_mirror mX12_mirror (d + 6) [.ref a_0, .int v_1] h bc bs Q :=
  ex_enter (plainFor_of_name (by decide +kernel)) ⟨rfl, rfl⟩ rfl rfl (Nat.le_of_ble_eq_true rfl) (ex_pad 0 w)

set_option maxRecDepth 100000 in
theorem X12_turn_0 {d bc bs : Nat} {h : AH} {Q : Option Value → AH → Prop} {a_0 : Nat} {v_1 : Int32} (w : ah_o h a_0 12 ∧ ex_S yX12_allTurned mX12_allTurned (d + 5) [.ref a_0, .int v_1, .int 0] h 0 0 (fun r h1 => ∃ x3, r = some (.int x3) ∧ Q (some (.int x3)) h1)) : ex_G mX12_turn (d + 6) 0 [.ref a_0, .int v_1] [] h bc bs Q := by
  refine ex_aload_n (q := 1) (x := a_0) dX12_turn_0 rfl ?_
  refine ex_iload_n (q := 2) (x := v_1) dX12_turn_1 rfl ?_
  refine ex_iconst (q := 3) (v := 0) dX12_turn_2 (by decide) ?_
  have s2 := w.1
  replace w := w.2
  refine ex_callV (q := 6) (M := mX12_turn) (hdd := Nat.le_refl _) (c := 12) (st := []) (bc := bc) (bs := bs) dX12_turn_3 rfl cl_X12_394 wd_1941 wd_98 s2 w ?_
  rintro r h1 ⟨x3, rfl, w⟩
  show ex_G mX12_turn (d + 6) 6 [.ref a_0, .int v_1] [.int x3] h1 bc bs Q
  exact ex_ireturn dX12_turn_6 rfl (Or.inl rfl) w

theorem X12_turn_e {d bc bs : Nat} {h : AH} {Q : Option Value → AH → Prop} {a_0 : Nat} {v_1 : Int32} (w : ex_G mX12_turn (d + 6) 0 [.ref a_0, .int v_1] [] h bc bs Q) : ex_S yX12_turn mX12_turn (d + 6) [.ref a_0, .int v_1] h bc bs Q :=
  ex_enter (plainFor_of_name (by decide +kernel)) ⟨rfl, rfl⟩ rfl rfl (Nat.le_of_ble_eq_true rfl) (ex_pad 0 w)

set_option maxRecDepth 100000 in
theorem X12_undo_0 {d bc bs : Nat} {h : AH} {Q : Option Value → AH → Prop} {a_0 : Nat} {v_1 : Int32} (w : ah_o h a_0 12 ∧ X12_isPicture_C a_0 v_1 h ∧ ((¬ (X12_isPicture_V a_0 v_1 h) = 0 → ∃ a4, ah_r h a_0 7 = some a4 ∧ ld0 h a4 v_1 ∧ ((¬ (ah_i h a4 (Int32.toNatClampNeg v_1)) = 0 → st0 h a4 v_1 ∧ ∀ h7, h7 = ah_si h a4 (Int32.toNatClampNeg v_1) ((ah_i h a4 (Int32.toNatClampNeg v_1)) - 1) → ex_S yX12_copySlot mX12_copySlot (d + 1) [.ref a_0, .int ((24 + (10 * v_1)) + (ah_i h7 a4 (Int32.toNatClampNeg v_1))), .int v_1] h7 0 0 (fun r h9 => r = none ∧ ah_o h9 a_0 12 ∧ ∃ a11, ah_r h9 a_0 7 = some a11 ∧ ld0 h9 a11 v_1 ∧ X12_well_C a_0 (ah_i h9 a11 (Int32.toNatClampNeg v_1)) h9 ∧ ∀ h14, h14 = X12_well_H a_0 (ah_i h9 a11 (Int32.toNatClampNeg v_1)) h9 → Q (some (.int (X12_well_V a_0 (ah_i h9 a11 (Int32.toNatClampNeg v_1)) h9))) h14)) ∧ ((ah_i h a4 (Int32.toNatClampNeg v_1)) = 0 → X12_meets_C a_0 5 h ∧ ∀ h16, h16 = X12_meets_H a_0 5 h → Q (some (.int (X12_meets_V a_0 5 h))) h16))) ∧ ((X12_isPicture_V a_0 v_1 h) = 0 → X12_no_C a_0 (-2) h ∧ ∀ h18, h18 = X12_no_H a_0 (-2) h → Q (some (.int (X12_no_V a_0 (-2) h))) h18))) : ex_G mX12_undo (d + 2) 0 [.ref a_0, .int v_1] [] h bc bs Q := by
  refine ex_aload_n (q := 1) (x := a_0) dX12_undo_0 rfl ?_
  refine ex_iload_n (q := 2) (x := v_1) dX12_undo_1 rfl ?_
  have s1 := w.1
  replace w := w.2
  have s2 := w.1
  replace w := w.2
  refine ex_callV (q := 5) (M := mX12_undo) (hdd := Nat.le_refl _) (mc := 0) (ms := 0) (d' := (d + 1)) (c := 12) (st := []) (bc := bc) (bs := bs) dX12_undo_2 rfl cl_X12_187 wd_1593 wd_48 s1 (X12_isPicture_s (Q := fun r z => r = some (.int (X12_isPicture_V a_0 v_1 h)) ∧ z = h) s2 ⟨rfl, rfl⟩) ?_
  intro r z hrz
  rw [hrz.1, hrz.2]
  show ex_G mX12_undo (d + 2) 5 [.ref a_0, .int v_1] [.int (X12_isPicture_V a_0 v_1 h)] (h) bc bs Q
  refine ex_if_ne (tgt := 15) (q := 8) dX12_undo_5 (fun c3 => ?_) (fun c3 => ?_)
  · replace w := w.1 c3
    refine ex_aload_n (q := 16) (x := a_0) dX12_undo_15 rfl ?_
    obtain ⟨a4, ea4, w⟩ := w
    refine ex_getr (q := 19) dX12_undo_16 fl_X12_26 s1 ea4 ?_
    refine ex_iload_n (q := 20) (x := v_1) dX12_undo_19 rfl ?_
    have s5 := w.1
    replace w := w.2
    refine ex_iald (q := 21) dX12_undo_20 s5 ?_
    refine ex_if_ne (tgt := 30) (q := 24) dX12_undo_21 (fun c6 => ?_) (fun c6 => ?_)
    · replace w := w.1 c6
      refine ex_aload_n (q := 31) (x := a_0) dX12_undo_30 rfl ?_
      refine ex_getr (q := 34) dX12_undo_31 fl_X12_26 s1 ea4 ?_
      refine ex_iload_n (q := 35) (x := v_1) dX12_undo_34 rfl ?_
      refine ex_dup2 (q := 36) dX12_undo_35 rfl rfl ?_
      refine ex_iald (q := 37) dX12_undo_36 s5 ?_
      refine ex_iconst (q := 38) (v := 1) dX12_undo_37 (by decide) ?_
      refine ex_isub (q := 39) dX12_undo_38 ?_
      have s8 := w.1
      replace w := w.2
      refine ex_iast (q := 40) dX12_undo_39 s8 ?_
      refine ex_nmh (fun h7 eh7 => ?_)
      replace w := w h7 eh7
      refine ex_aload_n (q := 41) (x := a_0) dX12_undo_40 rfl ?_
      refine ex_bipush (q := 43) (v := 24) dX12_undo_41 (by decide) ?_
      refine ex_bipush (q := 45) (v := 10) dX12_undo_43 (by decide) ?_
      refine ex_iload_n (q := 46) (x := v_1) dX12_undo_45 rfl ?_
      refine ex_imul (q := 47) dX12_undo_46 ?_
      refine ex_iadd (q := 48) dX12_undo_47 ?_
      refine ex_aload_n (q := 49) (x := a_0) dX12_undo_48 rfl ?_
      refine ex_getr (q := 52) dX12_undo_49 fl_X12_26 (by rw [eh7]; exact s1) (by rw [eh7]; exact ea4) ?_
      refine ex_iload_n (q := 53) (x := v_1) dX12_undo_52 rfl ?_
      refine ex_iald (q := 54) dX12_undo_53 (by rw [eh7]; exact s5) ?_
      refine ex_iadd (q := 55) dX12_undo_54 ?_
      refine ex_iload_n (q := 56) (x := v_1) dX12_undo_55 rfl ?_
      refine ex_callV (q := 59) (M := mX12_undo) (hdd := Nat.le_refl _) (c := 12) (st := []) (bc := bc) (bs := bs) dX12_undo_56 rfl cl_X12_176 wd_1796 wd_71 (by rw [eh7]; exact s1) w ?_
      rintro r h9 ⟨rfl, w⟩
      show ex_G mX12_undo (d + 2) 59 [.ref a_0, .int v_1] [] h9 bc bs Q
      refine ex_aload_n (q := 60) (x := a_0) dX12_undo_59 rfl ?_
      refine ex_aload_n (q := 61) (x := a_0) dX12_undo_60 rfl ?_
      have s10 := w.1
      replace w := w.2
      obtain ⟨a11, ea11, w⟩ := w
      refine ex_getr (q := 64) dX12_undo_61 fl_X12_26 s10 ea11 ?_
      refine ex_iload_n (q := 65) (x := v_1) dX12_undo_64 rfl ?_
      have s12 := w.1
      replace w := w.2
      refine ex_iald (q := 66) dX12_undo_65 s12 ?_
      have s13 := w.1
      replace w := w.2
      refine ex_callV (q := 69) (M := mX12_undo) (hdd := Nat.le_refl _) (mc := 0) (ms := 0) (d' := (d + 1)) (c := 12) (st := []) (bc := bc) (bs := bs) dX12_undo_66 rfl cl_X12_180 wd_1585 wd_47 s10 (X12_well_s (Q := fun r z => r = some (.int (X12_well_V a_0 (ah_i h9 a11 (Int32.toNatClampNeg v_1)) h9)) ∧ z = X12_well_H a_0 (ah_i h9 a11 (Int32.toNatClampNeg v_1)) h9) s13 ⟨rfl, rfl⟩) ?_
      intro r z hrz
      rw [hrz.1, hrz.2]
      show ex_G mX12_undo (d + 2) 69 [.ref a_0, .int v_1] [.int (X12_well_V a_0 (ah_i h9 a11 (Int32.toNatClampNeg v_1)) h9)] (X12_well_H a_0 (ah_i h9 a11 (Int32.toNatClampNeg v_1)) h9) bc bs Q
      refine ex_nmh (fun h14 eh14 => ?_)
      replace w := w h14 eh14
      exact ex_ireturn dX12_undo_69 rfl (Or.inl rfl) w
    · replace w := w.2 c6
      refine ex_aload_n (q := 25) (x := a_0) dX12_undo_24 rfl ?_
      refine ex_iconst (q := 26) (v := 5) dX12_undo_25 (by decide) ?_
      have s15 := w.1
      replace w := w.2
      refine ex_callV (q := 29) (M := mX12_undo) (hdd := Nat.le_refl _) (mc := 0) (ms := 0) (d' := (d + 1)) (c := 12) (st := []) (bc := bc) (bs := bs) dX12_undo_26 rfl cl_X12_200 wd_1614 wd_50 s1 (X12_meets_s (Q := fun r z => r = some (.int (X12_meets_V a_0 5 h)) ∧ z = X12_meets_H a_0 5 h) s15 ⟨rfl, rfl⟩) ?_
      intro r z hrz
      rw [hrz.1, hrz.2]
      show ex_G mX12_undo (d + 2) 29 [.ref a_0, .int v_1] [.int (X12_meets_V a_0 5 h)] (X12_meets_H a_0 5 h) bc bs Q
      refine ex_nmh (fun h16 eh16 => ?_)
      replace w := w h16 eh16
      exact ex_ireturn dX12_undo_29 rfl (Or.inl rfl) w
  · replace w := w.2 c3
    refine ex_aload_n (q := 9) (x := a_0) dX12_undo_8 rfl ?_
    refine ex_bipush (q := 11) (v := (-2)) dX12_undo_9 (by decide) ?_
    have s17 := w.1
    replace w := w.2
    refine ex_callV (q := 14) (M := mX12_undo) (hdd := Nat.le_refl _) (mc := 0) (ms := 0) (d' := (d + 1)) (c := 12) (st := []) (bc := bc) (bs := bs) dX12_undo_11 rfl cl_X12_165 wd_1581 wd_46 s1 (X12_no_s (Q := fun r z => r = some (.int (X12_no_V a_0 (-2) h)) ∧ z = X12_no_H a_0 (-2) h) s17 ⟨rfl, rfl⟩) ?_
    intro r z hrz
    rw [hrz.1, hrz.2]
    show ex_G mX12_undo (d + 2) 14 [.ref a_0, .int v_1] [.int (X12_no_V a_0 (-2) h)] (X12_no_H a_0 (-2) h) bc bs Q
    refine ex_nmh (fun h18 eh18 => ?_)
    replace w := w h18 eh18
    exact ex_ireturn dX12_undo_14 rfl (Or.inl rfl) w

theorem X12_undo_e {d bc bs : Nat} {h : AH} {Q : Option Value → AH → Prop} {a_0 : Nat} {v_1 : Int32} (w : ex_G mX12_undo (d + 2) 0 [.ref a_0, .int v_1] [] h bc bs Q) : ex_S yX12_undo mX12_undo (d + 2) [.ref a_0, .int v_1] h bc bs Q :=
  ex_enter (plainFor_of_name (by decide +kernel)) ⟨rfl, rfl⟩ rfl rfl (Nat.le_of_ble_eq_true rfl) (ex_pad 0 w)

set_option maxRecDepth 100000 in
theorem X12_twin_0 {d bc bs : Nat} {h : AH} {Q : Option Value → AH → Prop} {a_0 : Nat} {v_1 : Int32} (w : ah_o h a_0 12 ∧ X12_isPicture_C a_0 v_1 h ∧ ((¬ (X12_isPicture_V a_0 v_1 h) = 0 → ((¬ (ah_f h a_0 6) = 24 → ex_S yX12_added mX12_added (d + 1) [.ref a_0, .int v_1] h 0 0 (fun r h5 => ∃ x6, r = some (.int x6) ∧ Q (some (.int x6)) h5)) ∧ ((ah_f h a_0 6) = 24 → X12_no_C a_0 (-3) h ∧ ∀ h8, h8 = X12_no_H a_0 (-3) h → Q (some (.int (X12_no_V a_0 (-3) h))) h8))) ∧ ((X12_isPicture_V a_0 v_1 h) = 0 → X12_no_C a_0 (-2) h ∧ ∀ h10, h10 = X12_no_H a_0 (-2) h → Q (some (.int (X12_no_V a_0 (-2) h))) h10))) : ex_G mX12_twin (d + 2) 0 [.ref a_0, .int v_1] [] h bc bs Q := by
  refine ex_aload_n (q := 1) (x := a_0) dX12_twin_0 rfl ?_
  refine ex_iload_n (q := 2) (x := v_1) dX12_twin_1 rfl ?_
  have s1 := w.1
  replace w := w.2
  have s2 := w.1
  replace w := w.2
  refine ex_callV (q := 5) (M := mX12_twin) (hdd := Nat.le_refl _) (mc := 0) (ms := 0) (d' := (d + 1)) (c := 12) (st := []) (bc := bc) (bs := bs) dX12_twin_2 rfl cl_X12_187 wd_1593 wd_48 s1 (X12_isPicture_s (Q := fun r z => r = some (.int (X12_isPicture_V a_0 v_1 h)) ∧ z = h) s2 ⟨rfl, rfl⟩) ?_
  intro r z hrz
  rw [hrz.1, hrz.2]
  show ex_G mX12_twin (d + 2) 5 [.ref a_0, .int v_1] [.int (X12_isPicture_V a_0 v_1 h)] (h) bc bs Q
  refine ex_if_ne (tgt := 17) (q := 8) dX12_twin_5 (fun c3 => ?_) (fun c3 => ?_)
  · replace w := w.1 c3
    refine ex_aload_n (q := 18) (x := a_0) dX12_twin_17 rfl ?_
    refine ex_getf (q := 21) dX12_twin_18 fl_X12_169 s1 ?_
    refine ex_bipush (q := 23) (v := 24) dX12_twin_21 (by decide) ?_
    refine ex_icmp_ne (tgt := 35) (q := 26) dX12_twin_23 (fun c4 => ?_) (fun c4 => ?_)
    · replace w := w.1 c4
      refine ex_aload_n (q := 36) (x := a_0) dX12_twin_35 rfl ?_
      refine ex_iload_n (q := 37) (x := v_1) dX12_twin_36 rfl ?_
      refine ex_callV (q := 40) (M := mX12_twin) (hdd := Nat.le_refl _) (c := 12) (st := []) (bc := bc) (bs := bs) dX12_twin_37 rfl cl_X12_297 wd_1792 wd_70 s1 w ?_
      rintro r h5 ⟨x6, rfl, w⟩
      show ex_G mX12_twin (d + 2) 40 [.ref a_0, .int v_1] [.int x6] h5 bc bs Q
      exact ex_ireturn dX12_twin_40 rfl (Or.inl rfl) w
    · replace w := w.2 c4
      refine ex_aload_n (q := 27) (x := a_0) dX12_twin_26 rfl ?_
      refine ex_bipush (q := 29) (v := (-3)) dX12_twin_27 (by decide) ?_
      have s7 := w.1
      replace w := w.2
      refine ex_callV (q := 32) (M := mX12_twin) (hdd := Nat.le_refl _) (mc := 0) (ms := 0) (d' := (d + 1)) (c := 12) (st := []) (bc := bc) (bs := bs) dX12_twin_29 rfl cl_X12_165 wd_1581 wd_46 s1 (X12_no_s (Q := fun r z => r = some (.int (X12_no_V a_0 (-3) h)) ∧ z = X12_no_H a_0 (-3) h) s7 ⟨rfl, rfl⟩) ?_
      intro r z hrz
      rw [hrz.1, hrz.2]
      show ex_G mX12_twin (d + 2) 32 [.ref a_0, .int v_1] [.int (X12_no_V a_0 (-3) h)] (X12_no_H a_0 (-3) h) bc bs Q
      refine ex_nmh (fun h8 eh8 => ?_)
      replace w := w h8 eh8
      refine ex_goto (tgt := 40) dX12_twin_32 ?_
      exact ex_ireturn dX12_twin_40 rfl (Or.inl rfl) w
  · replace w := w.2 c3
    refine ex_aload_n (q := 9) (x := a_0) dX12_twin_8 rfl ?_
    refine ex_bipush (q := 11) (v := (-2)) dX12_twin_9 (by decide) ?_
    have s9 := w.1
    replace w := w.2
    refine ex_callV (q := 14) (M := mX12_twin) (hdd := Nat.le_refl _) (mc := 0) (ms := 0) (d' := (d + 1)) (c := 12) (st := []) (bc := bc) (bs := bs) dX12_twin_11 rfl cl_X12_165 wd_1581 wd_46 s1 (X12_no_s (Q := fun r z => r = some (.int (X12_no_V a_0 (-2) h)) ∧ z = X12_no_H a_0 (-2) h) s9 ⟨rfl, rfl⟩) ?_
    intro r z hrz
    rw [hrz.1, hrz.2]
    show ex_G mX12_twin (d + 2) 14 [.ref a_0, .int v_1] [.int (X12_no_V a_0 (-2) h)] (X12_no_H a_0 (-2) h) bc bs Q
    refine ex_nmh (fun h10 eh10 => ?_)
    replace w := w h10 eh10
    refine ex_goto (tgt := 40) dX12_twin_14 ?_
    exact ex_ireturn dX12_twin_40 rfl (Or.inl rfl) w

theorem X12_twin_e {d bc bs : Nat} {h : AH} {Q : Option Value → AH → Prop} {a_0 : Nat} {v_1 : Int32} (w : ex_G mX12_twin (d + 2) 0 [.ref a_0, .int v_1] [] h bc bs Q) : ex_S yX12_twin mX12_twin (d + 2) [.ref a_0, .int v_1] h bc bs Q :=
  ex_enter (plainFor_of_name (by decide +kernel)) ⟨rfl, rfl⟩ rfl rfl (Nat.le_of_ble_eq_true rfl) (ex_pad 0 w)

set_option maxRecDepth 100000 in
theorem X12_join_0 {d bc bs : Nat} {h : AH} {Q : Option Value → AH → Prop} {a_0 : Nat} {v_1 : Int32} {v_2 : Int32} {v_3 : Int32} {v_4 : Int32} (w : ah_o h a_0 12 ∧ X12_isPicture_C a_0 v_1 h ∧ (((X12_isPicture_V a_0 v_1 h) = 0 → X12_no_C a_0 (-2) h ∧ ∀ h5, h5 = X12_no_H a_0 (-2) h → Q (some (.int (X12_no_V a_0 (-2) h))) h5) ∧ (¬ (X12_isPicture_V a_0 v_1 h) = 0 → X12_isPicture_C a_0 v_3 h ∧ ((¬ (X12_isPicture_V a_0 v_3 h) = 0 → ((¬ (ah_f h a_0 6) = 24 → ex_S yX12_openOf mX12_openOf (d + 3) [.ref a_0, .int v_1] h 0 0 (fun r h9 => ∃ x10, r = some (.int x10) ∧ ((0 < x10 → ah_o h9 a_0 12 ∧ X12_meets_C a_0 3 h9 ∧ ∀ h14, h14 = X12_meets_H a_0 3 h9 → Q (some (.int (X12_meets_V a_0 3 h9))) h14) ∧ (¬ 0 < x10 → ah_o h9 a_0 12 ∧ ex_S yX12_openOf mX12_openOf (d + 3) [.ref a_0, .int v_3] h9 0 0 (fun r h15 => ∃ x17, r = some (.int x17) ∧ ((x17 ≤ 0 → ah_o h15 a_0 12 ∧ X12_isEnd_C a_0 v_1 v_2 h15 ∧ (((X12_isEnd_V a_0 v_1 v_2 h15) = 0 → X12_meets_C a_0 5 h15 ∧ ∀ h23, h23 = X12_meets_H a_0 5 h15 → Q (some (.int (X12_meets_V a_0 5 h15))) h23) ∧ (¬ (X12_isEnd_V a_0 v_1 v_2 h15) = 0 → X12_isEnd_C a_0 v_3 v_4 h15 ∧ ((¬ (X12_isEnd_V a_0 v_3 v_4 h15) = 0 → ∃ a26, ah_r h15 a_0 2 = some a26 ∧ ld0 h15 a26 v_1 ∧ ld0 h15 a26 v_3 ∧ ((40 < ((ah_i h15 a26 (Int32.toNatClampNeg v_1)) + (ah_i h15 a26 (Int32.toNatClampNeg v_3))) → X12_meets_C a_0 8 h15 ∧ ∀ h31, h31 = X12_meets_H a_0 8 h15 → Q (some (.int (X12_meets_V a_0 8 h15))) h31) ∧ (¬ 40 < ((ah_i h15 a26 (Int32.toNatClampNeg v_1)) + (ah_i h15 a26 (Int32.toNatClampNeg v_3))) → ∃ a32, ah_r h15 a_0 3 = some a32 ∧ ld0 h15 a32 v_1 ∧ ld0 h15 a32 v_3 ∧ ((((ah_i h15 a32 (Int32.toNatClampNeg v_1)) + (ah_i h15 a32 (Int32.toNatClampNeg v_3))) ≤ 9 → ex_S yX12_copySlot mX12_copySlot (d + 3) [.ref a_0, .int v_1, .int 364] h15 0 0 (fun r h36 => r = none ∧ ah_o h36 a_0 12 ∧ ∃ a38, ah_r h36 a_0 3 = some a38 ∧ ld0 h36 a38 364 ∧ ld0 h36 a38 v_3 ∧ st0 h36 a38 364 ∧ ∀ h41, h41 = ah_si h36 a38 (Int32.toNatClampNeg 364) ((ah_i h36 a38 (Int32.toNatClampNeg 364)) + (ah_i h36 a38 (Int32.toNatClampNeg v_3))) → ex_G mX12_join (d + 4) 157 [.ref a_0, .int v_1, .int v_2, .int v_3, .int v_4, .int 0, .retAddr 0, .retAddr 0, .retAddr 0, .retAddr 0] [] h41 bc bs Q)) ∧ (¬ ((ah_i h15 a32 (Int32.toNatClampNeg v_1)) + (ah_i h15 a32 (Int32.toNatClampNeg v_3))) ≤ 9 → X12_meets_C a_0 8 h15 ∧ ∀ h44, h44 = X12_meets_H a_0 8 h15 → Q (some (.int (X12_meets_V a_0 8 h15))) h44))))) ∧ ((X12_isEnd_V a_0 v_3 v_4 h15) = 0 → X12_meets_C a_0 5 h15 ∧ ∀ h46, h46 = X12_meets_H a_0 5 h15 → Q (some (.int (X12_meets_V a_0 5 h15))) h46))))) ∧ (¬ x17 ≤ 0 → ah_o h15 a_0 12 ∧ X12_meets_C a_0 3 h15 ∧ ∀ h49, h49 = X12_meets_H a_0 3 h15 → Q (some (.int (X12_meets_V a_0 3 h15))) h49))))))) ∧ ((ah_f h a_0 6) = 24 → X12_no_C a_0 (-3) h ∧ ∀ h51, h51 = X12_no_H a_0 (-3) h → Q (some (.int (X12_no_V a_0 (-3) h))) h51))) ∧ ((X12_isPicture_V a_0 v_3 h) = 0 → X12_no_C a_0 (-2) h ∧ ∀ h53, h53 = X12_no_H a_0 (-2) h → Q (some (.int (X12_no_V a_0 (-2) h))) h53))))) : ex_G mX12_join (d + 4) 0 [.ref a_0, .int v_1, .int v_2, .int v_3, .int v_4, .retAddr 0, .retAddr 0, .retAddr 0, .retAddr 0, .retAddr 0] [] h bc bs Q := by
  refine ex_aload_n (q := 1) (x := a_0) dX12_join_0 rfl ?_
  refine ex_iload_n (q := 2) (x := v_1) dX12_join_1 rfl ?_
  have s1 := w.1
  replace w := w.2
  have s2 := w.1
  replace w := w.2
  refine ex_callV (q := 5) (M := mX12_join) (hdd := Nat.le_refl _) (mc := 0) (ms := 0) (d' := (d + 3)) (c := 12) (st := []) (bc := bc) (bs := bs) dX12_join_2 rfl cl_X12_187 wd_1593 wd_48 s1 (X12_isPicture_s (Q := fun r z => r = some (.int (X12_isPicture_V a_0 v_1 h)) ∧ z = h) s2 ⟨rfl, rfl⟩) ?_
  intro r z hrz
  rw [hrz.1, hrz.2]
  show ex_G mX12_join (d + 4) 5 [.ref a_0, .int v_1, .int v_2, .int v_3, .int v_4, .retAddr 0, .retAddr 0, .retAddr 0, .retAddr 0, .retAddr 0] [.int (X12_isPicture_V a_0 v_1 h)] (h) bc bs Q
  refine ex_if_eq (tgt := 16) (q := 8) dX12_join_5 (fun c3 => ?_) (fun c3 => ?_)
  · replace w := w.1 c3
    refine ex_aload_n (q := 17) (x := a_0) dX12_join_16 rfl ?_
    refine ex_bipush (q := 19) (v := (-2)) dX12_join_17 (by decide) ?_
    have s4 := w.1
    replace w := w.2
    refine ex_callV (q := 22) (M := mX12_join) (hdd := Nat.le_refl _) (mc := 0) (ms := 0) (d' := (d + 3)) (c := 12) (st := []) (bc := bc) (bs := bs) dX12_join_19 rfl cl_X12_165 wd_1581 wd_46 s1 (X12_no_s (Q := fun r z => r = some (.int (X12_no_V a_0 (-2) h)) ∧ z = X12_no_H a_0 (-2) h) s4 ⟨rfl, rfl⟩) ?_
    intro r z hrz
    rw [hrz.1, hrz.2]
    show ex_G mX12_join (d + 4) 22 [.ref a_0, .int v_1, .int v_2, .int v_3, .int v_4, .retAddr 0, .retAddr 0, .retAddr 0, .retAddr 0, .retAddr 0] [.int (X12_no_V a_0 (-2) h)] (X12_no_H a_0 (-2) h) bc bs Q
    refine ex_nmh (fun h5 eh5 => ?_)
    replace w := w h5 eh5
    exact ex_ireturn dX12_join_22 rfl (Or.inl rfl) w
  · replace w := w.2 c3
    refine ex_aload_n (q := 9) (x := a_0) dX12_join_8 rfl ?_
    refine ex_iload_n (q := 10) (x := v_3) dX12_join_9 rfl ?_
    have s6 := w.1
    replace w := w.2
    refine ex_callV (q := 13) (M := mX12_join) (hdd := Nat.le_refl _) (mc := 0) (ms := 0) (d' := (d + 3)) (c := 12) (st := []) (bc := bc) (bs := bs) dX12_join_10 rfl cl_X12_187 wd_1593 wd_48 s1 (X12_isPicture_s (Q := fun r z => r = some (.int (X12_isPicture_V a_0 v_3 h)) ∧ z = h) s6 ⟨rfl, rfl⟩) ?_
    intro r z hrz
    rw [hrz.1, hrz.2]
    show ex_G mX12_join (d + 4) 13 [.ref a_0, .int v_1, .int v_2, .int v_3, .int v_4, .retAddr 0, .retAddr 0, .retAddr 0, .retAddr 0, .retAddr 0] [.int (X12_isPicture_V a_0 v_3 h)] (h) bc bs Q
    refine ex_if_ne (tgt := 23) (q := 16) dX12_join_13 (fun c7 => ?_) (fun c7 => ?_)
    · replace w := w.1 c7
      refine ex_aload_n (q := 24) (x := a_0) dX12_join_23 rfl ?_
      refine ex_getf (q := 27) dX12_join_24 fl_X12_169 s1 ?_
      refine ex_bipush (q := 29) (v := 24) dX12_join_27 (by decide) ?_
      refine ex_icmp_ne (tgt := 39) (q := 32) dX12_join_29 (fun c8 => ?_) (fun c8 => ?_)
      · replace w := w.1 c8
        refine ex_aload_n (q := 40) (x := a_0) dX12_join_39 rfl ?_
        refine ex_iload_n (q := 41) (x := v_1) dX12_join_40 rfl ?_
        refine ex_callV (q := 44) (M := mX12_join) (hdd := Nat.le_refl _) (c := 12) (st := []) (bc := bc) (bs := bs) dX12_join_41 rfl cl_X12_226 wd_1643 wd_52 s1 w ?_
        rintro r h9 ⟨x10, rfl, w⟩
        show ex_G mX12_join (d + 4) 44 [.ref a_0, .int v_1, .int v_2, .int v_3, .int v_4, .retAddr 0, .retAddr 0, .retAddr 0, .retAddr 0, .retAddr 0] [.int x10] h9 bc bs Q
        refine ex_if_gt (tgt := 55) (q := 47) dX12_join_44 (fun c11 => ?_) (fun c11 => ?_)
        · replace w := w.1 c11
          refine ex_aload_n (q := 56) (x := a_0) dX12_join_55 rfl ?_
          refine ex_iconst (q := 57) (v := 3) dX12_join_56 (by decide) ?_
          have s12 := w.1
          replace w := w.2
          have s13 := w.1
          replace w := w.2
          refine ex_callV (q := 60) (M := mX12_join) (hdd := Nat.le_refl _) (mc := 0) (ms := 0) (d' := (d + 3)) (c := 12) (st := []) (bc := bc) (bs := bs) dX12_join_57 rfl cl_X12_200 wd_1614 wd_50 s12 (X12_meets_s (Q := fun r z => r = some (.int (X12_meets_V a_0 3 h9)) ∧ z = X12_meets_H a_0 3 h9) s13 ⟨rfl, rfl⟩) ?_
          intro r z hrz
          rw [hrz.1, hrz.2]
          show ex_G mX12_join (d + 4) 60 [.ref a_0, .int v_1, .int v_2, .int v_3, .int v_4, .retAddr 0, .retAddr 0, .retAddr 0, .retAddr 0, .retAddr 0] [.int (X12_meets_V a_0 3 h9)] (X12_meets_H a_0 3 h9) bc bs Q
          refine ex_nmh (fun h14 eh14 => ?_)
          replace w := w h14 eh14
          exact ex_ireturn dX12_join_60 rfl (Or.inl rfl) w
        · replace w := w.2 c11
          refine ex_aload_n (q := 48) (x := a_0) dX12_join_47 rfl ?_
          refine ex_iload_n (q := 49) (x := v_3) dX12_join_48 rfl ?_
          have s16 := w.1
          replace w := w.2
          refine ex_callV (q := 52) (M := mX12_join) (hdd := Nat.le_refl _) (c := 12) (st := []) (bc := bc) (bs := bs) dX12_join_49 rfl cl_X12_226 wd_1643 wd_52 s16 w ?_
          rintro r h15 ⟨x17, rfl, w⟩
          show ex_G mX12_join (d + 4) 52 [.ref a_0, .int v_1, .int v_2, .int v_3, .int v_4, .retAddr 0, .retAddr 0, .retAddr 0, .retAddr 0, .retAddr 0] [.int x17] h15 bc bs Q
          refine ex_if_le (tgt := 61) (q := 55) dX12_join_52 (fun c18 => ?_) (fun c18 => ?_)
          · replace w := w.1 c18
            refine ex_aload_n (q := 62) (x := a_0) dX12_join_61 rfl ?_
            refine ex_iload_n (q := 63) (x := v_1) dX12_join_62 rfl ?_
            refine ex_iload_n (q := 64) (x := v_2) dX12_join_63 rfl ?_
            have s19 := w.1
            replace w := w.2
            have s20 := w.1
            replace w := w.2
            refine ex_callV (q := 67) (M := mX12_join) (hdd := Nat.le_refl _) (mc := 0) (ms := 0) (d' := (d + 3)) (c := 12) (st := []) (bc := bc) (bs := bs) dX12_join_64 rfl cl_X12_301 wd_1844 wd_78 s19 (X12_isEnd_s (Q := fun r z => r = some (.int (X12_isEnd_V a_0 v_1 v_2 h15)) ∧ z = h15) s20 ⟨rfl, rfl⟩) ?_
            intro r z hrz
            rw [hrz.1, hrz.2]
            show ex_G mX12_join (d + 4) 67 [.ref a_0, .int v_1, .int v_2, .int v_3, .int v_4, .retAddr 0, .retAddr 0, .retAddr 0, .retAddr 0, .retAddr 0] [.int (X12_isEnd_V a_0 v_1 v_2 h15)] (h15) bc bs Q
            refine ex_if_eq (tgt := 80) (q := 70) dX12_join_67 (fun c21 => ?_) (fun c21 => ?_)
            · replace w := w.1 c21
              refine ex_aload_n (q := 81) (x := a_0) dX12_join_80 rfl ?_
              refine ex_iconst (q := 82) (v := 5) dX12_join_81 (by decide) ?_
              have s22 := w.1
              replace w := w.2
              refine ex_callV (q := 85) (M := mX12_join) (hdd := Nat.le_refl _) (mc := 0) (ms := 0) (d' := (d + 3)) (c := 12) (st := []) (bc := bc) (bs := bs) dX12_join_82 rfl cl_X12_200 wd_1614 wd_50 s19 (X12_meets_s (Q := fun r z => r = some (.int (X12_meets_V a_0 5 h15)) ∧ z = X12_meets_H a_0 5 h15) s22 ⟨rfl, rfl⟩) ?_
              intro r z hrz
              rw [hrz.1, hrz.2]
              show ex_G mX12_join (d + 4) 85 [.ref a_0, .int v_1, .int v_2, .int v_3, .int v_4, .retAddr 0, .retAddr 0, .retAddr 0, .retAddr 0, .retAddr 0] [.int (X12_meets_V a_0 5 h15)] (X12_meets_H a_0 5 h15) bc bs Q
              refine ex_nmh (fun h23 eh23 => ?_)
              replace w := w h23 eh23
              exact ex_ireturn dX12_join_85 rfl (Or.inl rfl) w
            · replace w := w.2 c21
              refine ex_aload_n (q := 71) (x := a_0) dX12_join_70 rfl ?_
              refine ex_iload_n (q := 72) (x := v_3) dX12_join_71 rfl ?_
              refine ex_iload (q := 74) (x := v_4) dX12_join_72 rfl ?_
              have s24 := w.1
              replace w := w.2
              refine ex_callV (q := 77) (M := mX12_join) (hdd := Nat.le_refl _) (mc := 0) (ms := 0) (d' := (d + 3)) (c := 12) (st := []) (bc := bc) (bs := bs) dX12_join_74 rfl cl_X12_301 wd_1844 wd_78 s19 (X12_isEnd_s (Q := fun r z => r = some (.int (X12_isEnd_V a_0 v_3 v_4 h15)) ∧ z = h15) s24 ⟨rfl, rfl⟩) ?_
              intro r z hrz
              rw [hrz.1, hrz.2]
              show ex_G mX12_join (d + 4) 77 [.ref a_0, .int v_1, .int v_2, .int v_3, .int v_4, .retAddr 0, .retAddr 0, .retAddr 0, .retAddr 0, .retAddr 0] [.int (X12_isEnd_V a_0 v_3 v_4 h15)] (h15) bc bs Q
              refine ex_if_ne (tgt := 86) (q := 80) dX12_join_77 (fun c25 => ?_) (fun c25 => ?_)
              · replace w := w.1 c25
                refine ex_aload_n (q := 87) (x := a_0) dX12_join_86 rfl ?_
                obtain ⟨a26, ea26, w⟩ := w
                refine ex_getr (q := 90) dX12_join_87 fl_X12_13 s19 ea26 ?_
                refine ex_iload_n (q := 91) (x := v_1) dX12_join_90 rfl ?_
                have s27 := w.1
                replace w := w.2
                refine ex_iald (q := 92) dX12_join_91 s27 ?_
                refine ex_aload_n (q := 93) (x := a_0) dX12_join_92 rfl ?_
                refine ex_getr (q := 96) dX12_join_93 fl_X12_13 s19 ea26 ?_
                refine ex_iload_n (q := 97) (x := v_3) dX12_join_96 rfl ?_
                have s28 := w.1
                replace w := w.2
                refine ex_iald (q := 98) dX12_join_97 s28 ?_
                refine ex_iadd (q := 99) dX12_join_98 ?_
                refine ex_bipush (q := 101) (v := 40) dX12_join_99 (by decide) ?_
                refine ex_icmp_gt (tgt := 122) (q := 104) dX12_join_101 (fun c29 => ?_) (fun c29 => ?_)
                · replace w := w.1 c29
                  refine ex_aload_n (q := 123) (x := a_0) dX12_join_122 rfl ?_
                  refine ex_bipush (q := 125) (v := 8) dX12_join_123 (by decide) ?_
                  have s30 := w.1
                  replace w := w.2
                  refine ex_callV (q := 128) (M := mX12_join) (hdd := Nat.le_refl _) (mc := 0) (ms := 0) (d' := (d + 3)) (c := 12) (st := []) (bc := bc) (bs := bs) dX12_join_125 rfl cl_X12_200 wd_1614 wd_50 s19 (X12_meets_s (Q := fun r z => r = some (.int (X12_meets_V a_0 8 h15)) ∧ z = X12_meets_H a_0 8 h15) s30 ⟨rfl, rfl⟩) ?_
                  intro r z hrz
                  rw [hrz.1, hrz.2]
                  show ex_G mX12_join (d + 4) 128 [.ref a_0, .int v_1, .int v_2, .int v_3, .int v_4, .retAddr 0, .retAddr 0, .retAddr 0, .retAddr 0, .retAddr 0] [.int (X12_meets_V a_0 8 h15)] (X12_meets_H a_0 8 h15) bc bs Q
                  refine ex_nmh (fun h31 eh31 => ?_)
                  replace w := w h31 eh31
                  exact ex_ireturn dX12_join_128 rfl (Or.inl rfl) w
                · replace w := w.2 c29
                  refine ex_aload_n (q := 105) (x := a_0) dX12_join_104 rfl ?_
                  obtain ⟨a32, ea32, w⟩ := w
                  refine ex_getr (q := 108) dX12_join_105 fl_X12_16 s19 ea32 ?_
                  refine ex_iload_n (q := 109) (x := v_1) dX12_join_108 rfl ?_
                  have s33 := w.1
                  replace w := w.2
                  refine ex_iald (q := 110) dX12_join_109 s33 ?_
                  refine ex_aload_n (q := 111) (x := a_0) dX12_join_110 rfl ?_
                  refine ex_getr (q := 114) dX12_join_111 fl_X12_16 s19 ea32 ?_
                  refine ex_iload_n (q := 115) (x := v_3) dX12_join_114 rfl ?_
                  have s34 := w.1
                  replace w := w.2
                  refine ex_iald (q := 116) dX12_join_115 s34 ?_
                  refine ex_iadd (q := 117) dX12_join_116 ?_
                  refine ex_bipush (q := 119) (v := 9) dX12_join_117 (by decide) ?_
                  refine ex_icmp_le (tgt := 129) (q := 122) dX12_join_119 (fun c35 => ?_) (fun c35 => ?_)
                  · replace w := w.1 c35
                    refine ex_aload_n (q := 130) (x := a_0) dX12_join_129 rfl ?_
                    refine ex_iload_n (q := 131) (x := v_1) dX12_join_130 rfl ?_
                    refine ex_sipush (q := 134) (v := 364) dX12_join_131 (by decide) ?_
                    refine ex_callV (q := 137) (M := mX12_join) (hdd := Nat.le_refl _) (c := 12) (st := []) (bc := bc) (bs := bs) dX12_join_134 rfl cl_X12_176 wd_1796 wd_71 s19 w ?_
                    rintro r h36 ⟨rfl, w⟩
                    show ex_G mX12_join (d + 4) 137 [.ref a_0, .int v_1, .int v_2, .int v_3, .int v_4, .retAddr 0, .retAddr 0, .retAddr 0, .retAddr 0, .retAddr 0] [] h36 bc bs Q
                    refine ex_aload_n (q := 138) (x := a_0) dX12_join_137 rfl ?_
                    have s37 := w.1
                    replace w := w.2
                    obtain ⟨a38, ea38, w⟩ := w
                    refine ex_getr (q := 141) dX12_join_138 fl_X12_16 s37 ea38 ?_
                    refine ex_sipush (q := 144) (v := 364) dX12_join_141 (by decide) ?_
                    refine ex_dup2 (q := 145) dX12_join_144 rfl rfl ?_
                    have s39 := w.1
                    replace w := w.2
                    refine ex_iald (q := 146) dX12_join_145 s39 ?_
                    refine ex_aload_n (q := 147) (x := a_0) dX12_join_146 rfl ?_
                    refine ex_getr (q := 150) dX12_join_147 fl_X12_16 s37 ea38 ?_
                    refine ex_iload_n (q := 151) (x := v_3) dX12_join_150 rfl ?_
                    have s40 := w.1
                    replace w := w.2
                    refine ex_iald (q := 152) dX12_join_151 s40 ?_
                    refine ex_iadd (q := 153) dX12_join_152 ?_
                    have s42 := w.1
                    replace w := w.2
                    refine ex_iast (q := 154) dX12_join_153 s42 ?_
                    refine ex_nmh (fun h41 eh41 => ?_)
                    replace w := w h41 eh41
                    refine ex_iconst (q := 155) (v := 0) dX12_join_154 (by decide) ?_
                    refine ex_istore (q := 157) (ls' := [.ref a_0, .int v_1, .int v_2, .int v_3, .int v_4, .int 0, .retAddr 0, .retAddr 0, .retAddr 0, .retAddr 0]) dX12_join_155 rfl ?_
                    exact w
                  · replace w := w.2 c35
                    refine ex_aload_n (q := 123) (x := a_0) dX12_join_122 rfl ?_
                    refine ex_bipush (q := 125) (v := 8) dX12_join_123 (by decide) ?_
                    have s43 := w.1
                    replace w := w.2
                    refine ex_callV (q := 128) (M := mX12_join) (hdd := Nat.le_refl _) (mc := 0) (ms := 0) (d' := (d + 3)) (c := 12) (st := []) (bc := bc) (bs := bs) dX12_join_125 rfl cl_X12_200 wd_1614 wd_50 s19 (X12_meets_s (Q := fun r z => r = some (.int (X12_meets_V a_0 8 h15)) ∧ z = X12_meets_H a_0 8 h15) s43 ⟨rfl, rfl⟩) ?_
                    intro r z hrz
                    rw [hrz.1, hrz.2]
                    show ex_G mX12_join (d + 4) 128 [.ref a_0, .int v_1, .int v_2, .int v_3, .int v_4, .retAddr 0, .retAddr 0, .retAddr 0, .retAddr 0, .retAddr 0] [.int (X12_meets_V a_0 8 h15)] (X12_meets_H a_0 8 h15) bc bs Q
                    refine ex_nmh (fun h44 eh44 => ?_)
                    replace w := w h44 eh44
                    exact ex_ireturn dX12_join_128 rfl (Or.inl rfl) w
              · replace w := w.2 c25
                refine ex_aload_n (q := 81) (x := a_0) dX12_join_80 rfl ?_
                refine ex_iconst (q := 82) (v := 5) dX12_join_81 (by decide) ?_
                have s45 := w.1
                replace w := w.2
                refine ex_callV (q := 85) (M := mX12_join) (hdd := Nat.le_refl _) (mc := 0) (ms := 0) (d' := (d + 3)) (c := 12) (st := []) (bc := bc) (bs := bs) dX12_join_82 rfl cl_X12_200 wd_1614 wd_50 s19 (X12_meets_s (Q := fun r z => r = some (.int (X12_meets_V a_0 5 h15)) ∧ z = X12_meets_H a_0 5 h15) s45 ⟨rfl, rfl⟩) ?_
                intro r z hrz
                rw [hrz.1, hrz.2]
                show ex_G mX12_join (d + 4) 85 [.ref a_0, .int v_1, .int v_2, .int v_3, .int v_4, .retAddr 0, .retAddr 0, .retAddr 0, .retAddr 0, .retAddr 0] [.int (X12_meets_V a_0 5 h15)] (X12_meets_H a_0 5 h15) bc bs Q
                refine ex_nmh (fun h46 eh46 => ?_)
                replace w := w h46 eh46
                exact ex_ireturn dX12_join_85 rfl (Or.inl rfl) w
          · replace w := w.2 c18
            refine ex_aload_n (q := 56) (x := a_0) dX12_join_55 rfl ?_
            refine ex_iconst (q := 57) (v := 3) dX12_join_56 (by decide) ?_
            have s47 := w.1
            replace w := w.2
            have s48 := w.1
            replace w := w.2
            refine ex_callV (q := 60) (M := mX12_join) (hdd := Nat.le_refl _) (mc := 0) (ms := 0) (d' := (d + 3)) (c := 12) (st := []) (bc := bc) (bs := bs) dX12_join_57 rfl cl_X12_200 wd_1614 wd_50 s47 (X12_meets_s (Q := fun r z => r = some (.int (X12_meets_V a_0 3 h15)) ∧ z = X12_meets_H a_0 3 h15) s48 ⟨rfl, rfl⟩) ?_
            intro r z hrz
            rw [hrz.1, hrz.2]
            show ex_G mX12_join (d + 4) 60 [.ref a_0, .int v_1, .int v_2, .int v_3, .int v_4, .retAddr 0, .retAddr 0, .retAddr 0, .retAddr 0, .retAddr 0] [.int (X12_meets_V a_0 3 h15)] (X12_meets_H a_0 3 h15) bc bs Q
            refine ex_nmh (fun h49 eh49 => ?_)
            replace w := w h49 eh49
            exact ex_ireturn dX12_join_60 rfl (Or.inl rfl) w
      · replace w := w.2 c8
        refine ex_aload_n (q := 33) (x := a_0) dX12_join_32 rfl ?_
        refine ex_bipush (q := 35) (v := (-3)) dX12_join_33 (by decide) ?_
        have s50 := w.1
        replace w := w.2
        refine ex_callV (q := 38) (M := mX12_join) (hdd := Nat.le_refl _) (mc := 0) (ms := 0) (d' := (d + 3)) (c := 12) (st := []) (bc := bc) (bs := bs) dX12_join_35 rfl cl_X12_165 wd_1581 wd_46 s1 (X12_no_s (Q := fun r z => r = some (.int (X12_no_V a_0 (-3) h)) ∧ z = X12_no_H a_0 (-3) h) s50 ⟨rfl, rfl⟩) ?_
        intro r z hrz
        rw [hrz.1, hrz.2]
        show ex_G mX12_join (d + 4) 38 [.ref a_0, .int v_1, .int v_2, .int v_3, .int v_4, .retAddr 0, .retAddr 0, .retAddr 0, .retAddr 0, .retAddr 0] [.int (X12_no_V a_0 (-3) h)] (X12_no_H a_0 (-3) h) bc bs Q
        refine ex_nmh (fun h51 eh51 => ?_)
        replace w := w h51 eh51
        exact ex_ireturn dX12_join_38 rfl (Or.inl rfl) w
    · replace w := w.2 c7
      refine ex_aload_n (q := 17) (x := a_0) dX12_join_16 rfl ?_
      refine ex_bipush (q := 19) (v := (-2)) dX12_join_17 (by decide) ?_
      have s52 := w.1
      replace w := w.2
      refine ex_callV (q := 22) (M := mX12_join) (hdd := Nat.le_refl _) (mc := 0) (ms := 0) (d' := (d + 3)) (c := 12) (st := []) (bc := bc) (bs := bs) dX12_join_19 rfl cl_X12_165 wd_1581 wd_46 s1 (X12_no_s (Q := fun r z => r = some (.int (X12_no_V a_0 (-2) h)) ∧ z = X12_no_H a_0 (-2) h) s52 ⟨rfl, rfl⟩) ?_
      intro r z hrz
      rw [hrz.1, hrz.2]
      show ex_G mX12_join (d + 4) 22 [.ref a_0, .int v_1, .int v_2, .int v_3, .int v_4, .retAddr 0, .retAddr 0, .retAddr 0, .retAddr 0, .retAddr 0] [.int (X12_no_V a_0 (-2) h)] (X12_no_H a_0 (-2) h) bc bs Q
      refine ex_nmh (fun h53 eh53 => ?_)
      replace w := w h53 eh53
      exact ex_ireturn dX12_join_22 rfl (Or.inl rfl) w

set_option maxRecDepth 100000 in
theorem X12_join_157 {d bc bs : Nat} {h : AH} {Q : Option Value → AH → Prop} {a_0 : Nat} {v_1 : Int32} {v_2 : Int32} {v_3 : Int32} {v_4 : Int32} {v_5 : Int32} (w : ((100 ≤ v_5 → ex_G mX12_join (d + 4) 181 [.ref a_0, .int v_1, .int v_2, .int v_3, .int v_4, .int 0, .retAddr 0, .retAddr 0, .retAddr 0, .retAddr 0] [] h bc bs Q) ∧ (¬ 100 ≤ v_5 → ah_o h a_0 12 ∧ ∃ a3, ah_r h a_0 13 = some a3 ∧ st0 h a3 v_5 ∧ ∀ h4, h4 = ah_si h a3 (Int32.toNatClampNeg v_5) (-1) → ∀ x6, x6 = v_5 + 1 → ex_G mX12_join (d + 4) 157 [.ref a_0, .int v_1, .int v_2, .int v_3, .int v_4, .int x6, .retAddr 0, .retAddr 0, .retAddr 0, .retAddr 0] [] h4 bc bs Q))) : ex_G mX12_join (d + 4) 157 [.ref a_0, .int v_1, .int v_2, .int v_3, .int v_4, .int v_5, .retAddr 0, .retAddr 0, .retAddr 0, .retAddr 0] [] h bc bs Q := by
  refine ex_iload (q := 159) (x := v_5) dX12_join_157 rfl ?_
  refine ex_bipush (q := 161) (v := 100) dX12_join_159 (by decide) ?_
  refine ex_icmp_ge (tgt := 178) (q := 164) dX12_join_161 (fun c1 => ?_) (fun c1 => ?_)
  · replace w := w.1 c1
    refine ex_iconst (q := 179) (v := 0) dX12_join_178 (by decide) ?_
    refine ex_istore (q := 181) (ls' := [.ref a_0, .int v_1, .int v_2, .int v_3, .int v_4, .int 0, .retAddr 0, .retAddr 0, .retAddr 0, .retAddr 0]) dX12_join_179 rfl ?_
    exact w
  · replace w := w.2 c1
    refine ex_aload_n (q := 165) (x := a_0) dX12_join_164 rfl ?_
    have s2 := w.1
    replace w := w.2
    obtain ⟨a3, ea3, w⟩ := w
    refine ex_getr (q := 168) dX12_join_165 fl_X12_46 s2 ea3 ?_
    refine ex_iload (q := 170) (x := v_5) dX12_join_168 rfl ?_
    refine ex_iconst (q := 171) (v := (-1)) dX12_join_170 (by decide) ?_
    have s5 := w.1
    replace w := w.2
    refine ex_iast (q := 172) dX12_join_171 s5 ?_
    refine ex_nmh (fun h4 eh4 => ?_)
    replace w := w h4 eh4
    obtain ⟨x6, ex6⟩ : ∃ y : Int32, y = v_5 + 1 := ⟨_, rfl⟩
    replace w := w x6 ex6
    refine ex_iinc (q := 175) (x := v_5) (v := x6) (ls' := [.ref a_0, .int v_1, .int v_2, .int v_3, .int v_4, .int x6, .retAddr 0, .retAddr 0, .retAddr 0, .retAddr 0]) dX12_join_172 rfl (by rw [ex6]; rfl) rfl ?_
    refine ex_goto (tgt := 157) dX12_join_175 ?_
    exact w

set_option maxRecDepth 100000 in
theorem X12_join_181 {d bc bs : Nat} {h : AH} {Q : Option Value → AH → Prop} {a_0 : Nat} {v_1 : Int32} {v_2 : Int32} {v_3 : Int32} {v_4 : Int32} {v_5 : Int32} (w : ah_o h a_0 12 ∧ ∃ a2, ah_r h a_0 2 = some a2 ∧ ld0 h a2 v_3 ∧ (((ah_i h a2 (Int32.toNatClampNeg v_3)) ≤ v_5 → ex_S yX12_link mX12_link (d + 3) [.ref a_0, .int 364] h 0 0 (fun r h5 => r = none ∧ ah_o h5 a_0 12 ∧ ∃ a7, ah_r h5 a_0 2 = some a7 ∧ ld0 h5 a7 v_1 ∧ ∀ x9, x9 = (4 * (ah_i h5 a7 (Int32.toNatClampNeg v_1))) + v_4 → ex_S yX12_free mX12_free (d + 3) [.ref a_0, .int 364, .int (-1)] h5 0 0 (fun r h10 => ∃ x11, r = some (.int x11) ∧ ah_o h10 a_0 12 ∧ X12_arcAt_C a_0 v_2 h10 ∧ ∀ x14, x14 = X12_arcAt_V a_0 v_2 h10 → ∃ a15, ah_r h10 a_0 10 = some a15 ∧ ld0 h10 a15 v_2 ∧ ∀ x17, x17 = ah_i h10 a15 (Int32.toNatClampNeg v_2) → ld0 h10 a15 x9 ∧ ∀ x19, x19 = ah_i h10 a15 (Int32.toNatClampNeg x9) → ∃ a20, ah_r h10 a_0 5 = some a20 ∧ st0 h10 a20 (58240 + x9) ∧ ∀ h21, h21 = ah_si h10 a20 (Int32.toNatClampNeg (58240 + x9)) x14 → st0 h21 a20 (58240 + x17) ∧ ∀ h23, h23 = ah_si h21 a20 (Int32.toNatClampNeg (58240 + x17)) x11 → st0 h23 a20 (58240 + x19) ∧ ∀ h25, h25 = ah_si h23 a20 (Int32.toNatClampNeg (58240 + x19)) x11 → ex_S yX12_added mX12_added (d + 3) [.ref a_0, .int 364] h25 0 0 (fun r h27 => ∃ x28, r = some (.int x28) ∧ Q (some (.int x28)) h27)))) ∧ (¬ (ah_i h a2 (Int32.toNatClampNeg v_3)) ≤ v_5 → ex_G mX12_join (d + 4) 195 [.ref a_0, .int v_1, .int v_2, .int v_3, .int v_4, .int v_5, .int 0, .retAddr 0, .retAddr 0, .retAddr 0] [] h bc bs Q))) : ex_G mX12_join (d + 4) 181 [.ref a_0, .int v_1, .int v_2, .int v_3, .int v_4, .int v_5, .retAddr 0, .retAddr 0, .retAddr 0, .retAddr 0] [] h bc bs Q := by
  refine ex_iload (q := 183) (x := v_5) dX12_join_181 rfl ?_
  refine ex_aload_n (q := 184) (x := a_0) dX12_join_183 rfl ?_
  have s1 := w.1
  replace w := w.2
  obtain ⟨a2, ea2, w⟩ := w
  refine ex_getr (q := 187) dX12_join_184 fl_X12_13 s1 ea2 ?_
  refine ex_iload_n (q := 188) (x := v_3) dX12_join_187 rfl ?_
  have s3 := w.1
  replace w := w.2
  refine ex_iald (q := 189) dX12_join_188 s3 ?_
  refine ex_icmp_ge (tgt := 310) (q := 192) dX12_join_189 (fun c4 => ?_) (fun c4 => ?_)
  · replace w := w.1 c4
    refine ex_aload_n (q := 311) (x := a_0) dX12_join_310 rfl ?_
    refine ex_sipush (q := 314) (v := 364) dX12_join_311 (by decide) ?_
    refine ex_callV (q := 317) (M := mX12_join) (hdd := Nat.le_refl _) (c := 12) (st := []) (bc := bc) (bs := bs) dX12_join_314 rfl cl_X12_216 wd_1647 wd_53 s1 w ?_
    rintro r h5 ⟨rfl, w⟩
    show ex_G mX12_join (d + 4) 317 [.ref a_0, .int v_1, .int v_2, .int v_3, .int v_4, .int v_5, .retAddr 0, .retAddr 0, .retAddr 0, .retAddr 0] [] h5 bc bs Q
    refine ex_iconst (q := 318) (v := 4) dX12_join_317 (by decide) ?_
    refine ex_aload_n (q := 319) (x := a_0) dX12_join_318 rfl ?_
    have s6 := w.1
    replace w := w.2
    obtain ⟨a7, ea7, w⟩ := w
    refine ex_getr (q := 322) dX12_join_319 fl_X12_13 s6 ea7 ?_
    refine ex_iload_n (q := 323) (x := v_1) dX12_join_322 rfl ?_
    have s8 := w.1
    replace w := w.2
    refine ex_iald (q := 324) dX12_join_323 s8 ?_
    refine ex_imul (q := 325) dX12_join_324 ?_
    refine ex_iload (q := 327) (x := v_4) dX12_join_325 rfl ?_
    refine ex_iadd (q := 328) dX12_join_327 ?_
    refine ex_nmi (fun x9 ex9 => ?_)
    replace w := w x9 ex9
    refine ex_istore (q := 330) (ls' := [.ref a_0, .int v_1, .int v_2, .int v_3, .int v_4, .int x9, .retAddr 0, .retAddr 0, .retAddr 0, .retAddr 0]) dX12_join_328 rfl ?_
    refine ex_aload_n (q := 331) (x := a_0) dX12_join_330 rfl ?_
    refine ex_sipush (q := 334) (v := 364) dX12_join_331 (by decide) ?_
    refine ex_iconst (q := 335) (v := (-1)) dX12_join_334 (by decide) ?_
    refine ex_callV (q := 338) (M := mX12_join) (hdd := Nat.le_refl _) (c := 12) (st := []) (bc := bc) (bs := bs) dX12_join_335 rfl cl_X12_307 wd_1909 wd_93 s6 w ?_
    rintro r h10 ⟨x11, rfl, w⟩
    show ex_G mX12_join (d + 4) 338 [.ref a_0, .int v_1, .int v_2, .int v_3, .int v_4, .int x9, .retAddr 0, .retAddr 0, .retAddr 0, .retAddr 0] [.int x11] h10 bc bs Q
    refine ex_istore (q := 340) (ls' := [.ref a_0, .int v_1, .int v_2, .int v_3, .int v_4, .int x9, .int x11, .retAddr 0, .retAddr 0, .retAddr 0]) dX12_join_338 rfl ?_
    refine ex_aload_n (q := 341) (x := a_0) dX12_join_340 rfl ?_
    refine ex_iload_n (q := 342) (x := v_2) dX12_join_341 rfl ?_
    have s12 := w.1
    replace w := w.2
    have s13 := w.1
    replace w := w.2
    refine ex_callV (q := 345) (M := mX12_join) (hdd := Nat.le_refl _) (mc := 0) (ms := 0) (d' := (d + 3)) (c := 12) (st := []) (bc := bc) (bs := bs) dX12_join_342 rfl cl_X12_310 wd_1848 wd_79 s12 (X12_arcAt_s (Q := fun r z => r = some (.int (X12_arcAt_V a_0 v_2 h10)) ∧ z = h10) s13 ⟨rfl, rfl⟩) ?_
    intro r z hrz
    rw [hrz.1, hrz.2]
    show ex_G mX12_join (d + 4) 345 [.ref a_0, .int v_1, .int v_2, .int v_3, .int v_4, .int x9, .int x11, .retAddr 0, .retAddr 0, .retAddr 0] [.int (X12_arcAt_V a_0 v_2 h10)] (h10) bc bs Q
    refine ex_nmi (fun x14 ex14 => ?_)
    replace w := w x14 ex14
    refine ex_istore (q := 347) (ls' := [.ref a_0, .int v_1, .int v_2, .int v_3, .int v_4, .int x9, .int x11, .int x14, .retAddr 0, .retAddr 0]) dX12_join_345 rfl ?_
    refine ex_aload_n (q := 348) (x := a_0) dX12_join_347 rfl ?_
    obtain ⟨a15, ea15, w⟩ := w
    refine ex_getr (q := 351) dX12_join_348 fl_X12_36 s12 ea15 ?_
    refine ex_iload_n (q := 352) (x := v_2) dX12_join_351 rfl ?_
    have s16 := w.1
    replace w := w.2
    refine ex_iald (q := 353) dX12_join_352 s16 ?_
    refine ex_nmi (fun x17 ex17 => ?_)
    replace w := w x17 ex17
    refine ex_istore (q := 355) (ls' := [.ref a_0, .int v_1, .int v_2, .int v_3, .int v_4, .int x9, .int x11, .int x14, .int x17, .retAddr 0]) dX12_join_353 rfl ?_
    refine ex_aload_n (q := 356) (x := a_0) dX12_join_355 rfl ?_
    refine ex_getr (q := 359) dX12_join_356 fl_X12_36 s12 ea15 ?_
    refine ex_iload (q := 361) (x := x9) dX12_join_359 rfl ?_
    have s18 := w.1
    replace w := w.2
    refine ex_iald (q := 362) dX12_join_361 s18 ?_
    refine ex_nmi (fun x19 ex19 => ?_)
    replace w := w x19 ex19
    refine ex_istore (q := 364) (ls' := [.ref a_0, .int v_1, .int v_2, .int v_3, .int v_4, .int x9, .int x11, .int x14, .int x17, .int x19]) dX12_join_362 rfl ?_
    refine ex_aload_n (q := 365) (x := a_0) dX12_join_364 rfl ?_
    obtain ⟨a20, ea20, w⟩ := w
    refine ex_getr (q := 368) dX12_join_365 fl_X12_23 s12 ea20 ?_
    refine ex_ldc_w (q := 371) (v := 58240) dX12_join_368 wd_1850 ?_
    refine ex_iload (q := 373) (x := x9) dX12_join_371 rfl ?_
    refine ex_iadd (q := 374) dX12_join_373 ?_
    refine ex_iload (q := 376) (x := x14) dX12_join_374 rfl ?_
    have s22 := w.1
    replace w := w.2
    refine ex_iast (q := 377) dX12_join_376 s22 ?_
    refine ex_nmh (fun h21 eh21 => ?_)
    replace w := w h21 eh21
    refine ex_aload_n (q := 378) (x := a_0) dX12_join_377 rfl ?_
    refine ex_getr (q := 381) dX12_join_378 fl_X12_23 (by rw [eh21]; exact s12) (by rw [eh21]; exact ea20) ?_
    refine ex_ldc_w (q := 384) (v := 58240) dX12_join_381 wd_1850 ?_
    refine ex_iload (q := 386) (x := x17) dX12_join_384 rfl ?_
    refine ex_iadd (q := 387) dX12_join_386 ?_
    refine ex_iload (q := 389) (x := x11) dX12_join_387 rfl ?_
    have s24 := w.1
    replace w := w.2
    refine ex_iast (q := 390) dX12_join_389 s24 ?_
    refine ex_nmh (fun h23 eh23 => ?_)
    replace w := w h23 eh23
    refine ex_aload_n (q := 391) (x := a_0) dX12_join_390 rfl ?_
    refine ex_getr (q := 394) dX12_join_391 fl_X12_23 (by rw [eh23]; exact (by rw [eh21]; exact s12)) (by rw [eh23]; exact (by rw [eh21]; exact ea20)) ?_
    refine ex_ldc_w (q := 397) (v := 58240) dX12_join_394 wd_1850 ?_
    refine ex_iload (q := 399) (x := x19) dX12_join_397 rfl ?_
    refine ex_iadd (q := 400) dX12_join_399 ?_
    refine ex_iload (q := 402) (x := x11) dX12_join_400 rfl ?_
    have s26 := w.1
    replace w := w.2
    refine ex_iast (q := 403) dX12_join_402 s26 ?_
    refine ex_nmh (fun h25 eh25 => ?_)
    replace w := w h25 eh25
    refine ex_aload_n (q := 404) (x := a_0) dX12_join_403 rfl ?_
    refine ex_sipush (q := 407) (v := 364) dX12_join_404 (by decide) ?_
    refine ex_callV (q := 410) (M := mX12_join) (hdd := Nat.le_refl _) (c := 12) (st := []) (bc := bc) (bs := bs) dX12_join_407 rfl cl_X12_297 wd_1792 wd_70 (by rw [eh25]; exact (by rw [eh23]; exact (by rw [eh21]; exact s12))) w ?_
    rintro r h27 ⟨x28, rfl, w⟩
    show ex_G mX12_join (d + 4) 410 [.ref a_0, .int v_1, .int v_2, .int v_3, .int v_4, .int x9, .int x11, .int x14, .int x17, .int x19] [.int x28] h27 bc bs Q
    exact ex_ireturn dX12_join_410 rfl (Or.inl rfl) w
  · replace w := w.2 c4
    refine ex_iconst (q := 193) (v := 0) dX12_join_192 (by decide) ?_
    refine ex_istore (q := 195) (ls' := [.ref a_0, .int v_1, .int v_2, .int v_3, .int v_4, .int v_5, .int 0, .retAddr 0, .retAddr 0, .retAddr 0]) dX12_join_193 rfl ?_
    exact w

set_option maxRecDepth 100000 in
theorem X12_join_195 {d bc bs : Nat} {h : AH} {Q : Option Value → AH → Prop} {a_0 : Nat} {v_1 : Int32} {v_2 : Int32} {v_3 : Int32} {v_4 : Int32} {v_5 : Int32} {v_6 : Int32} (w : ((4 ≤ v_6 → ah_o h a_0 12 ∧ ∃ a3, ah_r h a_0 8 = some a3 ∧ ld0 h a3 0 ∧ ld0 h a3 1 ∧ ld0 h a3 2 ∧ ld0 h a3 3 ∧ ex_S yX12_append mX12_append (d + 3) [.ref a_0, .int 364, .int (ah_i h a3 (Int32.toNatClampNeg 0)), .int (ah_i h a3 (Int32.toNatClampNeg 1)), .int (ah_i h a3 (Int32.toNatClampNeg 2)), .int (ah_i h a3 (Int32.toNatClampNeg 3))] h 0 0 (fun r h8 => r = none ∧ ∀ x9, x9 = v_5 + 1 → ex_G mX12_join (d + 4) 181 [.ref a_0, .int v_1, .int v_2, .int v_3, .int v_4, .int x9, .retAddr 0, .retAddr 0, .retAddr 0, .retAddr 0] [] h8 bc bs Q)) ∧ (¬ 4 ≤ v_6 → ah_o h a_0 12 ∧ ∃ a11, ah_r h a_0 5 = some a11 ∧ ld0 h a11 (((160 * v_3) + (4 * v_5)) + v_6) ∧ ∀ x13, x13 = ah_i h a11 (Int32.toNatClampNeg (((160 * v_3) + (4 * v_5)) + v_6)) → ∃ a14, ah_r h a_0 13 = some a14 ∧ ld0 h a14 x13 ∧ ((¬ (ah_i h a14 (Int32.toNatClampNeg x13)) = (-1) → ex_G mX12_join (d + 4) 252 [.ref a_0, .int v_1, .int v_2, .int v_3, .int v_4, .int v_5, .int v_6, .int x13, .retAddr 0, .retAddr 0] [.int (ah_i h a14 (Int32.toNatClampNeg x13)), .int x13, .ref a14] h bc bs Q) ∧ ((ah_i h a14 (Int32.toNatClampNeg x13)) = (-1) → ex_S yX12_fresh mX12_fresh (d + 3) [.ref a_0] h 0 0 (fun r h17 => ∃ x18, r = some (.int x18) ∧ ex_G mX12_join (d + 4) 252 [.ref a_0, .int v_1, .int v_2, .int v_3, .int v_4, .int v_5, .int v_6, .int x13, .retAddr 0, .retAddr 0] [.int x18, .int x13, .ref a14] h17 bc bs Q)))))) : ex_G mX12_join (d + 4) 195 [.ref a_0, .int v_1, .int v_2, .int v_3, .int v_4, .int v_5, .int v_6, .retAddr 0, .retAddr 0, .retAddr 0] [] h bc bs Q := by
  refine ex_iload (q := 197) (x := v_6) dX12_join_195 rfl ?_
  refine ex_iconst (q := 198) (v := 4) dX12_join_197 (by decide) ?_
  refine ex_icmp_ge (tgt := 273) (q := 201) dX12_join_198 (fun c1 => ?_) (fun c1 => ?_)
  · replace w := w.1 c1
    refine ex_aload_n (q := 274) (x := a_0) dX12_join_273 rfl ?_
    refine ex_sipush (q := 277) (v := 364) dX12_join_274 (by decide) ?_
    refine ex_aload_n (q := 278) (x := a_0) dX12_join_277 rfl ?_
    have s2 := w.1
    replace w := w.2
    obtain ⟨a3, ea3, w⟩ := w
    refine ex_getr (q := 281) dX12_join_278 fl_X12_29 s2 ea3 ?_
    refine ex_iconst (q := 282) (v := 0) dX12_join_281 (by decide) ?_
    have s4 := w.1
    replace w := w.2
    refine ex_iald (q := 283) dX12_join_282 s4 ?_
    refine ex_aload_n (q := 284) (x := a_0) dX12_join_283 rfl ?_
    refine ex_getr (q := 287) dX12_join_284 fl_X12_29 s2 ea3 ?_
    refine ex_iconst (q := 288) (v := 1) dX12_join_287 (by decide) ?_
    have s5 := w.1
    replace w := w.2
    refine ex_iald (q := 289) dX12_join_288 s5 ?_
    refine ex_aload_n (q := 290) (x := a_0) dX12_join_289 rfl ?_
    refine ex_getr (q := 293) dX12_join_290 fl_X12_29 s2 ea3 ?_
    refine ex_iconst (q := 294) (v := 2) dX12_join_293 (by decide) ?_
    have s6 := w.1
    replace w := w.2
    refine ex_iald (q := 295) dX12_join_294 s6 ?_
    refine ex_aload_n (q := 296) (x := a_0) dX12_join_295 rfl ?_
    refine ex_getr (q := 299) dX12_join_296 fl_X12_29 s2 ea3 ?_
    refine ex_iconst (q := 300) (v := 3) dX12_join_299 (by decide) ?_
    have s7 := w.1
    replace w := w.2
    refine ex_iald (q := 301) dX12_join_300 s7 ?_
    refine ex_callV (q := 304) (M := mX12_join) (hdd := Nat.le_refl _) (c := 12) (st := []) (bc := bc) (bs := bs) dX12_join_301 rfl cl_X12_194 wd_1605 wd_49 s2 w ?_
    rintro r h8 ⟨rfl, w⟩
    show ex_G mX12_join (d + 4) 304 [.ref a_0, .int v_1, .int v_2, .int v_3, .int v_4, .int v_5, .int v_6, .retAddr 0, .retAddr 0, .retAddr 0] [] h8 bc bs Q
    obtain ⟨x9, ex9⟩ : ∃ y : Int32, y = v_5 + 1 := ⟨_, rfl⟩
    replace w := w x9 ex9
    refine ex_iinc (q := 307) (x := v_5) (v := x9) (ls' := [.ref a_0, .int v_1, .int v_2, .int v_3, .int v_4, .int x9, .int v_6, .retAddr 0, .retAddr 0, .retAddr 0]) dX12_join_304 rfl (by rw [ex9]; rfl) rfl ?_
    refine ex_goto (tgt := 181) dX12_join_307 ?_
    refine ex_kill 6 (ls' := [.ref a_0, .int v_1, .int v_2, .int v_3, .int v_4, .int x9, .retAddr 0, .retAddr 0, .retAddr 0, .retAddr 0]) rfl ?_
    exact w
  · replace w := w.2 c1
    refine ex_aload_n (q := 202) (x := a_0) dX12_join_201 rfl ?_
    have s10 := w.1
    replace w := w.2
    obtain ⟨a11, ea11, w⟩ := w
    refine ex_getr (q := 205) dX12_join_202 fl_X12_23 s10 ea11 ?_
    refine ex_sipush (q := 208) (v := 160) dX12_join_205 (by decide) ?_
    refine ex_iload_n (q := 209) (x := v_3) dX12_join_208 rfl ?_
    refine ex_imul (q := 210) dX12_join_209 ?_
    refine ex_iconst (q := 211) (v := 4) dX12_join_210 (by decide) ?_
    refine ex_iload (q := 213) (x := v_5) dX12_join_211 rfl ?_
    refine ex_imul (q := 214) dX12_join_213 ?_
    refine ex_iadd (q := 215) dX12_join_214 ?_
    refine ex_iload (q := 217) (x := v_6) dX12_join_215 rfl ?_
    refine ex_iadd (q := 218) dX12_join_217 ?_
    have s12 := w.1
    replace w := w.2
    refine ex_iald (q := 219) dX12_join_218 s12 ?_
    refine ex_nmi (fun x13 ex13 => ?_)
    replace w := w x13 ex13
    refine ex_istore (q := 221) (ls' := [.ref a_0, .int v_1, .int v_2, .int v_3, .int v_4, .int v_5, .int v_6, .int x13, .retAddr 0, .retAddr 0]) dX12_join_219 rfl ?_
    refine ex_aload_n (q := 222) (x := a_0) dX12_join_221 rfl ?_
    obtain ⟨a14, ea14, w⟩ := w
    refine ex_getr (q := 225) dX12_join_222 fl_X12_46 s10 ea14 ?_
    refine ex_iload (q := 227) (x := x13) dX12_join_225 rfl ?_
    refine ex_aload_n (q := 228) (x := a_0) dX12_join_227 rfl ?_
    refine ex_getr (q := 231) dX12_join_228 fl_X12_46 s10 ea14 ?_
    refine ex_iload (q := 233) (x := x13) dX12_join_231 rfl ?_
    have s15 := w.1
    replace w := w.2
    refine ex_iald (q := 234) dX12_join_233 s15 ?_
    refine ex_iconst (q := 235) (v := (-1)) dX12_join_234 (by decide) ?_
    refine ex_icmp_ne (tgt := 245) (q := 238) dX12_join_235 (fun c16 => ?_) (fun c16 => ?_)
    · replace w := w.1 c16
      refine ex_aload_n (q := 246) (x := a_0) dX12_join_245 rfl ?_
      refine ex_getr (q := 249) dX12_join_246 fl_X12_46 s10 ea14 ?_
      refine ex_iload (q := 251) (x := x13) dX12_join_249 rfl ?_
      refine ex_iald (q := 252) dX12_join_251 s15 ?_
      exact w
    · replace w := w.2 c16
      refine ex_aload_n (q := 239) (x := a_0) dX12_join_238 rfl ?_
      refine ex_callV (q := 242) (M := mX12_join) (hdd := Nat.le_refl _) (c := 12) (st := [.int x13, .ref a14]) (bc := bc) (bs := bs) dX12_join_239 rfl cl_X12_398 wd_1961 wd_99 s10 w ?_
      rintro r h17 ⟨x18, rfl, w⟩
      show ex_G mX12_join (d + 4) 242 [.ref a_0, .int v_1, .int v_2, .int v_3, .int v_4, .int v_5, .int v_6, .int x13, .retAddr 0, .retAddr 0] [.int x18, .int x13, .ref a14] h17 bc bs Q
      refine ex_goto (tgt := 252) dX12_join_242 ?_
      exact w

set_option maxRecDepth 100000 in
theorem X12_join_252 {d bc bs : Nat} {h : AH} {Q : Option Value → AH → Prop} {a_0 : Nat} {v_1 : Int32} {v_2 : Int32} {v_3 : Int32} {v_4 : Int32} {v_5 : Int32} {v_6 : Int32} {v_7 : Int32} {u_0 : Int32} {u_1 : Int32} {b_2 : Nat} (w : st0 h b_2 u_1 ∧ ∀ h1, h1 = ah_si h b_2 (Int32.toNatClampNeg u_1) u_0 → ah_o h1 a_0 12 ∧ ∃ a4, ah_r h1 a_0 8 = some a4 ∧ ∃ a5, ah_r h1 a_0 13 = some a5 ∧ ld0 h1 a5 v_7 ∧ st0 h1 a4 v_6 ∧ ∀ h7, h7 = ah_si h1 a4 (Int32.toNatClampNeg v_6) (ah_i h1 a5 (Int32.toNatClampNeg v_7)) → ∀ x9, x9 = v_6 + 1 → ex_G mX12_join (d + 4) 195 [.ref a_0, .int v_1, .int v_2, .int v_3, .int v_4, .int v_5, .int x9, .retAddr 0, .retAddr 0, .retAddr 0] [] h7 bc bs Q) : ex_G mX12_join (d + 4) 252 [.ref a_0, .int v_1, .int v_2, .int v_3, .int v_4, .int v_5, .int v_6, .int v_7, .retAddr 0, .retAddr 0] [.int u_0, .int u_1, .ref b_2] h bc bs Q := by
  have s2 := w.1
  replace w := w.2
  refine ex_iast (q := 253) dX12_join_252 s2 ?_
  refine ex_nmh (fun h1 eh1 => ?_)
  replace w := w h1 eh1
  refine ex_aload_n (q := 254) (x := a_0) dX12_join_253 rfl ?_
  have s3 := w.1
  replace w := w.2
  obtain ⟨a4, ea4, w⟩ := w
  refine ex_getr (q := 257) dX12_join_254 fl_X12_29 s3 ea4 ?_
  refine ex_iload (q := 259) (x := v_6) dX12_join_257 rfl ?_
  refine ex_aload_n (q := 260) (x := a_0) dX12_join_259 rfl ?_
  obtain ⟨a5, ea5, w⟩ := w
  refine ex_getr (q := 263) dX12_join_260 fl_X12_46 s3 ea5 ?_
  refine ex_iload (q := 265) (x := v_7) dX12_join_263 rfl ?_
  have s6 := w.1
  replace w := w.2
  refine ex_iald (q := 266) dX12_join_265 s6 ?_
  have s8 := w.1
  replace w := w.2
  refine ex_iast (q := 267) dX12_join_266 s8 ?_
  refine ex_nmh (fun h7 eh7 => ?_)
  replace w := w h7 eh7
  obtain ⟨x9, ex9⟩ : ∃ y : Int32, y = v_6 + 1 := ⟨_, rfl⟩
  replace w := w x9 ex9
  refine ex_iinc (q := 270) (x := v_6) (v := x9) (ls' := [.ref a_0, .int v_1, .int v_2, .int v_3, .int v_4, .int v_5, .int x9, .int v_7, .retAddr 0, .retAddr 0]) dX12_join_267 rfl (by rw [ex9]; rfl) rfl ?_
  refine ex_goto (tgt := 195) dX12_join_270 ?_
  refine ex_kill 7 (ls' := [.ref a_0, .int v_1, .int v_2, .int v_3, .int v_4, .int v_5, .int x9, .retAddr 0, .retAddr 0, .retAddr 0]) rfl ?_
  exact w

theorem X12_join_e {d bc bs : Nat} {h : AH} {Q : Option Value → AH → Prop} {a_0 : Nat} {v_1 : Int32} {v_2 : Int32} {v_3 : Int32} {v_4 : Int32} (w : ex_G mX12_join (d + 4) 0 [.ref a_0, .int v_1, .int v_2, .int v_3, .int v_4, .retAddr 0, .retAddr 0, .retAddr 0, .retAddr 0, .retAddr 0] [] h bc bs Q) : ex_S yX12_join mX12_join (d + 4) [.ref a_0, .int v_1, .int v_2, .int v_3, .int v_4] h bc bs Q :=
  ex_enter (plainFor_of_name (by decide +kernel)) ⟨rfl, rfl⟩ rfl rfl (Nat.le_of_ble_eq_true rfl) (ex_pad 5 w)

set_option maxRecDepth 100000 in
theorem X12_fresh_0 {d bc bs : Nat} {h : AH} {Q : Option Value → AH → Prop} {a_0 : Nat} (w : ah_o h a_0 12 ∧ ex_S yX12_free mX12_free d [.ref a_0, .int 364, .int (-1)] h 0 0 (fun r h1 => ∃ x3, r = some (.int x3) ∧ ex_G mX12_fresh (d + 1) 11 [.ref a_0, .int x3, .int 1, .retAddr 0] [] h1 bc bs Q)) : ex_G mX12_fresh (d + 1) 0 [.ref a_0, .retAddr 0, .retAddr 0, .retAddr 0] [] h bc bs Q := by
  refine ex_aload_n (q := 1) (x := a_0) dX12_fresh_0 rfl ?_
  refine ex_sipush (q := 4) (v := 364) dX12_fresh_1 (by decide) ?_
  refine ex_iconst (q := 5) (v := (-1)) dX12_fresh_4 (by decide) ?_
  have s2 := w.1
  replace w := w.2
  refine ex_callV (q := 8) (M := mX12_fresh) (hdd := Nat.le_refl _) (c := 12) (st := []) (bc := bc) (bs := bs) dX12_fresh_5 rfl cl_X12_307 wd_1909 wd_93 s2 w ?_
  rintro r h1 ⟨x3, rfl, w⟩
  show ex_G mX12_fresh (d + 1) 8 [.ref a_0, .retAddr 0, .retAddr 0, .retAddr 0] [.int x3] h1 bc bs Q
  refine ex_istore_n (q := 9) (ls' := [.ref a_0, .int x3, .retAddr 0, .retAddr 0]) dX12_fresh_8 rfl ?_
  refine ex_iconst (q := 10) (v := 1) dX12_fresh_9 (by decide) ?_
  refine ex_istore_n (q := 11) (ls' := [.ref a_0, .int x3, .int 1, .retAddr 0]) dX12_fresh_10 rfl ?_
  exact w

set_option maxRecDepth 100000 in
theorem X12_fresh_11 {d bc bs : Nat} {h : AH} {Q : Option Value → AH → Prop} {a_0 : Nat} {v_1 : Int32} {v_2 : Int32} (w : ((v_2 = 0 → Q (some (.int v_1)) h) ∧ (¬ v_2 = 0 → ex_G mX12_fresh (d + 1) 19 [.ref a_0, .int v_1, .int 0, .int 0] [] h bc bs Q))) : ex_G mX12_fresh (d + 1) 11 [.ref a_0, .int v_1, .int v_2, .retAddr 0] [] h bc bs Q := by
  refine ex_iload_n (q := 12) (x := v_2) dX12_fresh_11 rfl ?_
  refine ex_if_eq (tgt := 55) (q := 15) dX12_fresh_12 (fun c1 => ?_) (fun c1 => ?_)
  · replace w := w.1 c1
    refine ex_iload_n (q := 56) (x := v_1) dX12_fresh_55 rfl ?_
    exact ex_ireturn dX12_fresh_56 rfl (Or.inl rfl) w
  · replace w := w.2 c1
    refine ex_iconst (q := 16) (v := 0) dX12_fresh_15 (by decide) ?_
    refine ex_istore_n (q := 17) (ls' := [.ref a_0, .int v_1, .int 0, .retAddr 0]) dX12_fresh_16 rfl ?_
    refine ex_iconst (q := 18) (v := 0) dX12_fresh_17 (by decide) ?_
    refine ex_istore_n (q := 19) (ls' := [.ref a_0, .int v_1, .int 0, .int 0]) dX12_fresh_18 rfl ?_
    exact w

set_option maxRecDepth 100000 in
theorem X12_fresh_19 {d bc bs : Nat} {h : AH} {Q : Option Value → AH → Prop} {a_0 : Nat} {v_1 : Int32} {v_2 : Int32} {v_3 : Int32} (w : ((100 ≤ v_3 → ex_G mX12_fresh (d + 1) 11 [.ref a_0, .int v_1, .int v_2, .retAddr 0] [] h bc bs Q) ∧ (¬ 100 ≤ v_3 → ah_o h a_0 12 ∧ ∃ a3, ah_r h a_0 13 = some a3 ∧ ld0 h a3 v_3 ∧ ((¬ (ah_i h a3 (Int32.toNatClampNeg v_3)) = v_1 → ∀ x6, x6 = v_3 + 1 → ex_G mX12_fresh (d + 1) 19 [.ref a_0, .int v_1, .int v_2, .int x6] [] h bc bs Q) ∧ ((ah_i h a3 (Int32.toNatClampNeg v_3)) = v_1 → ex_S yX12_free mX12_free d [.ref a_0, .int 364, .int v_1] h 0 0 (fun r h7 => ∃ x8, r = some (.int x8) ∧ ∀ x9, x9 = v_3 + 1 → ex_G mX12_fresh (d + 1) 19 [.ref a_0, .int x8, .int 1, .int x9] [] h7 bc bs Q)))))) : ex_G mX12_fresh (d + 1) 19 [.ref a_0, .int v_1, .int v_2, .int v_3] [] h bc bs Q := by
  refine ex_iload_n (q := 20) (x := v_3) dX12_fresh_19 rfl ?_
  refine ex_bipush (q := 22) (v := 100) dX12_fresh_20 (by decide) ?_
  refine ex_icmp_ge (tgt := 52) (q := 25) dX12_fresh_22 (fun c1 => ?_) (fun c1 => ?_)
  · replace w := w.1 c1
    refine ex_goto (tgt := 11) dX12_fresh_52 ?_
    refine ex_kill 3 (ls' := [.ref a_0, .int v_1, .int v_2, .retAddr 0]) rfl ?_
    exact w
  · replace w := w.2 c1
    refine ex_aload_n (q := 26) (x := a_0) dX12_fresh_25 rfl ?_
    have s2 := w.1
    replace w := w.2
    obtain ⟨a3, ea3, w⟩ := w
    refine ex_getr (q := 29) dX12_fresh_26 fl_X12_46 s2 ea3 ?_
    refine ex_iload_n (q := 30) (x := v_3) dX12_fresh_29 rfl ?_
    have s4 := w.1
    replace w := w.2
    refine ex_iald (q := 31) dX12_fresh_30 s4 ?_
    refine ex_iload_n (q := 32) (x := v_1) dX12_fresh_31 rfl ?_
    refine ex_icmp_ne (tgt := 46) (q := 35) dX12_fresh_32 (fun c5 => ?_) (fun c5 => ?_)
    · replace w := w.1 c5
      obtain ⟨x6, ex6⟩ : ∃ y : Int32, y = v_3 + 1 := ⟨_, rfl⟩
      replace w := w x6 ex6
      refine ex_iinc (q := 49) (x := v_3) (v := x6) (ls' := [.ref a_0, .int v_1, .int v_2, .int x6]) dX12_fresh_46 rfl (by rw [ex6]; rfl) rfl ?_
      refine ex_goto (tgt := 19) dX12_fresh_49 ?_
      exact w
    · replace w := w.2 c5
      refine ex_aload_n (q := 36) (x := a_0) dX12_fresh_35 rfl ?_
      refine ex_sipush (q := 39) (v := 364) dX12_fresh_36 (by decide) ?_
      refine ex_iload_n (q := 40) (x := v_1) dX12_fresh_39 rfl ?_
      refine ex_callV (q := 43) (M := mX12_fresh) (hdd := Nat.le_refl _) (c := 12) (st := []) (bc := bc) (bs := bs) dX12_fresh_40 rfl cl_X12_307 wd_1909 wd_93 s2 w ?_
      rintro r h7 ⟨x8, rfl, w⟩
      show ex_G mX12_fresh (d + 1) 43 [.ref a_0, .int v_1, .int v_2, .int v_3] [.int x8] h7 bc bs Q
      refine ex_istore_n (q := 44) (ls' := [.ref a_0, .int x8, .int v_2, .int v_3]) dX12_fresh_43 rfl ?_
      refine ex_iconst (q := 45) (v := 1) dX12_fresh_44 (by decide) ?_
      refine ex_istore_n (q := 46) (ls' := [.ref a_0, .int x8, .int 1, .int v_3]) dX12_fresh_45 rfl ?_
      obtain ⟨x9, ex9⟩ : ∃ y : Int32, y = v_3 + 1 := ⟨_, rfl⟩
      replace w := w x9 ex9
      refine ex_iinc (q := 49) (x := v_3) (v := x9) (ls' := [.ref a_0, .int x8, .int 1, .int x9]) dX12_fresh_46 rfl (by rw [ex9]; rfl) rfl ?_
      refine ex_goto (tgt := 19) dX12_fresh_49 ?_
      exact w

theorem X12_fresh_e {d bc bs : Nat} {h : AH} {Q : Option Value → AH → Prop} {a_0 : Nat} (w : ex_G mX12_fresh (d + 1) 0 [.ref a_0, .retAddr 0, .retAddr 0, .retAddr 0] [] h bc bs Q) : ex_S yX12_fresh mX12_fresh (d + 1) [.ref a_0] h bc bs Q :=
  ex_enter (plainFor_of_name (by decide +kernel)) ⟨rfl, rfl⟩ rfl rfl (Nat.le_of_ble_eq_true rfl) (ex_pad 3 w)

set_option maxRecDepth 100000 in
theorem X12_walk_0 {d bc bs : Nat} {h : AH} {Q : Option Value → AH → Prop} {a_0 : Nat} {v_1 : Int32} {v_2 : Int32} {v_3 : Int32} (w : ex_G mX12_walk d 3 [.ref a_0, .int v_1, .int v_2, .int v_3, .int 0, .retAddr 0, .retAddr 0, .retAddr 0, .retAddr 0, .retAddr 0] [] h bc bs Q) : ex_G mX12_walk d 0 [.ref a_0, .int v_1, .int v_2, .int v_3, .retAddr 0, .retAddr 0, .retAddr 0, .retAddr 0, .retAddr 0, .retAddr 0] [] h bc bs Q := by
  refine ex_iconst (q := 1) (v := 0) dX12_walk_0 (by decide) ?_
  refine ex_istore (q := 3) (ls' := [.ref a_0, .int v_1, .int v_2, .int v_3, .int 0, .retAddr 0, .retAddr 0, .retAddr 0, .retAddr 0, .retAddr 0]) dX12_walk_1 rfl ?_
  exact w

set_option maxRecDepth 100000 in
theorem X12_walk_3 {d bc bs : Nat} {h : AH} {Q : Option Value → AH → Prop} {a_0 : Nat} {v_1 : Int32} {v_2 : Int32} {v_3 : Int32} {v_4 : Int32} (w : ah_o h a_0 12 ∧ ∃ a2, ah_r h a_0 2 = some a2 ∧ ld0 h a2 v_1 ∧ (((ah_i h a2 (Int32.toNatClampNeg v_1)) ≤ v_4 → ∃ a5, ah_r h a_0 39 = some a5 ∧ st0 h a5 v_2 ∧ ∀ h6, h6 = ah_si h a5 (Int32.toNatClampNeg v_2) 0 → ∃ a8, ah_r h6 a_0 40 = some a8 ∧ st0 h6 a8 v_2 ∧ ∀ h9, h9 = ah_si h6 a8 (Int32.toNatClampNeg v_2) v_3 → ∃ a11, ah_r h9 a_0 41 = some a11 ∧ st0 h9 a11 0 ∧ ∀ h12, h12 = ah_si h9 a11 (Int32.toNatClampNeg 0) v_2 → ex_G mX12_walk d 55 [.ref a_0, .retAddr 0, .retAddr 0, .retAddr 0, .int 1, .int 0, .retAddr 0, .retAddr 0, .retAddr 0, .retAddr 0] [] h12 bc bs Q) ∧ (¬ (ah_i h a2 (Int32.toNatClampNeg v_1)) ≤ v_4 → ∃ a14, ah_r h a_0 39 = some a14 ∧ st0 h a14 v_4 ∧ ∀ h15, h15 = ah_si h a14 (Int32.toNatClampNeg v_4) (-1) → ∀ x17, x17 = v_4 + 1 → ex_G mX12_walk d 3 [.ref a_0, .int v_1, .int v_2, .int v_3, .int x17, .retAddr 0, .retAddr 0, .retAddr 0, .retAddr 0, .retAddr 0] [] h15 bc bs Q))) : ex_G mX12_walk d 3 [.ref a_0, .int v_1, .int v_2, .int v_3, .int v_4, .retAddr 0, .retAddr 0, .retAddr 0, .retAddr 0, .retAddr 0] [] h bc bs Q := by
  refine ex_iload (q := 5) (x := v_4) dX12_walk_3 rfl ?_
  refine ex_aload_n (q := 6) (x := a_0) dX12_walk_5 rfl ?_
  have s1 := w.1
  replace w := w.2
  obtain ⟨a2, ea2, w⟩ := w
  refine ex_getr (q := 9) dX12_walk_6 fl_X12_13 s1 ea2 ?_
  refine ex_iload_n (q := 10) (x := v_1) dX12_walk_9 rfl ?_
  have s3 := w.1
  replace w := w.2
  refine ex_iald (q := 11) dX12_walk_10 s3 ?_
  refine ex_icmp_ge (tgt := 28) (q := 14) dX12_walk_11 (fun c4 => ?_) (fun c4 => ?_)
  · replace w := w.1 c4
    refine ex_aload_n (q := 29) (x := a_0) dX12_walk_28 rfl ?_
    obtain ⟨a5, ea5, w⟩ := w
    refine ex_getr (q := 32) dX12_walk_29 fl_X12_110 s1 ea5 ?_
    refine ex_iload_n (q := 33) (x := v_2) dX12_walk_32 rfl ?_
    refine ex_iconst (q := 34) (v := 0) dX12_walk_33 (by decide) ?_
    have s7 := w.1
    replace w := w.2
    refine ex_iast (q := 35) dX12_walk_34 s7 ?_
    refine ex_nmh (fun h6 eh6 => ?_)
    replace w := w h6 eh6
    refine ex_aload_n (q := 36) (x := a_0) dX12_walk_35 rfl ?_
    obtain ⟨a8, ea8, w⟩ := w
    refine ex_getr (q := 39) dX12_walk_36 fl_X12_113 (by rw [eh6]; exact s1) ea8 ?_
    refine ex_iload_n (q := 40) (x := v_2) dX12_walk_39 rfl ?_
    refine ex_iload_n (q := 41) (x := v_3) dX12_walk_40 rfl ?_
    have s10 := w.1
    replace w := w.2
    refine ex_iast (q := 42) dX12_walk_41 s10 ?_
    refine ex_nmh (fun h9 eh9 => ?_)
    replace w := w h9 eh9
    refine ex_aload_n (q := 43) (x := a_0) dX12_walk_42 rfl ?_
    obtain ⟨a11, ea11, w⟩ := w
    refine ex_getr (q := 46) dX12_walk_43 fl_X12_116 (by rw [eh9]; exact (by rw [eh6]; exact s1)) ea11 ?_
    refine ex_iconst (q := 47) (v := 0) dX12_walk_46 (by decide) ?_
    refine ex_iload_n (q := 48) (x := v_2) dX12_walk_47 rfl ?_
    have s13 := w.1
    replace w := w.2
    refine ex_iast (q := 49) dX12_walk_48 s13 ?_
    refine ex_nmh (fun h12 eh12 => ?_)
    replace w := w h12 eh12
    refine ex_iconst (q := 50) (v := 1) dX12_walk_49 (by decide) ?_
    refine ex_istore (q := 52) (ls' := [.ref a_0, .int v_1, .int v_2, .int v_3, .int 1, .retAddr 0, .retAddr 0, .retAddr 0, .retAddr 0, .retAddr 0]) dX12_walk_50 rfl ?_
    refine ex_iconst (q := 53) (v := 0) dX12_walk_52 (by decide) ?_
    refine ex_istore (q := 55) (ls' := [.ref a_0, .int v_1, .int v_2, .int v_3, .int 1, .int 0, .retAddr 0, .retAddr 0, .retAddr 0, .retAddr 0]) dX12_walk_53 rfl ?_
    refine ex_kill 1 (ls' := [.ref a_0, .retAddr 0, .int v_2, .int v_3, .int 1, .int 0, .retAddr 0, .retAddr 0, .retAddr 0, .retAddr 0]) rfl ?_
    refine ex_kill 2 (ls' := [.ref a_0, .retAddr 0, .retAddr 0, .int v_3, .int 1, .int 0, .retAddr 0, .retAddr 0, .retAddr 0, .retAddr 0]) rfl ?_
    refine ex_kill 3 (ls' := [.ref a_0, .retAddr 0, .retAddr 0, .retAddr 0, .int 1, .int 0, .retAddr 0, .retAddr 0, .retAddr 0, .retAddr 0]) rfl ?_
    exact w
  · replace w := w.2 c4
    refine ex_aload_n (q := 15) (x := a_0) dX12_walk_14 rfl ?_
    obtain ⟨a14, ea14, w⟩ := w
    refine ex_getr (q := 18) dX12_walk_15 fl_X12_110 s1 ea14 ?_
    refine ex_iload (q := 20) (x := v_4) dX12_walk_18 rfl ?_
    refine ex_iconst (q := 21) (v := (-1)) dX12_walk_20 (by decide) ?_
    have s16 := w.1
    replace w := w.2
    refine ex_iast (q := 22) dX12_walk_21 s16 ?_
    refine ex_nmh (fun h15 eh15 => ?_)
    replace w := w h15 eh15
    obtain ⟨x17, ex17⟩ : ∃ y : Int32, y = v_4 + 1 := ⟨_, rfl⟩
    replace w := w x17 ex17
    refine ex_iinc (q := 25) (x := v_4) (v := x17) (ls' := [.ref a_0, .int v_1, .int v_2, .int v_3, .int x17, .retAddr 0, .retAddr 0, .retAddr 0, .retAddr 0, .retAddr 0]) dX12_walk_22 rfl (by rw [ex17]; rfl) rfl ?_
    refine ex_goto (tgt := 3) dX12_walk_25 ?_
    exact w

set_option maxRecDepth 100000 in
theorem X12_walk_55 {d bc bs : Nat} {h : AH} {Q : Option Value → AH → Prop} {a_0 : Nat} {v_4 : Int32} {v_5 : Int32} (w : ((v_4 ≤ v_5 → Q (some (.int v_4)) h) ∧ (¬ v_4 ≤ v_5 → ah_o h a_0 12 ∧ ∃ a3, ah_r h a_0 41 = some a3 ∧ ld0 h a3 v_5 ∧ ∀ x5, x5 = ah_i h a3 (Int32.toNatClampNeg v_5) → ex_G mX12_walk d 74 [.ref a_0, .retAddr 0, .retAddr 0, .retAddr 0, .int v_4, .int v_5, .int x5, .int 0, .retAddr 0, .retAddr 0] [] h bc bs Q))) : ex_G mX12_walk d 55 [.ref a_0, .retAddr 0, .retAddr 0, .retAddr 0, .int v_4, .int v_5, .retAddr 0, .retAddr 0, .retAddr 0, .retAddr 0] [] h bc bs Q := by
  refine ex_iload (q := 57) (x := v_5) dX12_walk_55 rfl ?_
  refine ex_iload (q := 59) (x := v_4) dX12_walk_57 rfl ?_
  refine ex_icmp_ge (tgt := 199) (q := 62) dX12_walk_59 (fun c1 => ?_) (fun c1 => ?_)
  · replace w := w.1 c1
    refine ex_iload (q := 201) (x := v_4) dX12_walk_199 rfl ?_
    exact ex_ireturn dX12_walk_201 rfl (Or.inl rfl) w
  · replace w := w.2 c1
    refine ex_aload_n (q := 63) (x := a_0) dX12_walk_62 rfl ?_
    have s2 := w.1
    replace w := w.2
    obtain ⟨a3, ea3, w⟩ := w
    refine ex_getr (q := 66) dX12_walk_63 fl_X12_116 s2 ea3 ?_
    refine ex_iload (q := 68) (x := v_5) dX12_walk_66 rfl ?_
    have s4 := w.1
    replace w := w.2
    refine ex_iald (q := 69) dX12_walk_68 s4 ?_
    refine ex_nmi (fun x5 ex5 => ?_)
    replace w := w x5 ex5
    refine ex_istore (q := 71) (ls' := [.ref a_0, .retAddr 0, .retAddr 0, .retAddr 0, .int v_4, .int v_5, .int x5, .retAddr 0, .retAddr 0, .retAddr 0]) dX12_walk_69 rfl ?_
    refine ex_iconst (q := 72) (v := 0) dX12_walk_71 (by decide) ?_
    refine ex_istore (q := 74) (ls' := [.ref a_0, .retAddr 0, .retAddr 0, .retAddr 0, .int v_4, .int v_5, .int x5, .int 0, .retAddr 0, .retAddr 0]) dX12_walk_72 rfl ?_
    exact w

set_option maxRecDepth 100000 in
theorem X12_walk_74 {d bc bs : Nat} {h : AH} {Q : Option Value → AH → Prop} {a_0 : Nat} {v_4 : Int32} {v_5 : Int32} {v_6 : Int32} {v_7 : Int32} (w : ((4 ≤ v_7 → ∀ x2, x2 = v_5 + 1 → ex_G mX12_walk d 55 [.ref a_0, .retAddr 0, .retAddr 0, .retAddr 0, .int v_4, .int x2, .retAddr 0, .retAddr 0, .retAddr 0, .retAddr 0] [] h bc bs Q) ∧ (¬ 4 ≤ v_7 → ah_o h a_0 12 ∧ ∃ a4, ah_r h a_0 10 = some a4 ∧ ∃ a5, ah_r h a_0 40 = some a5 ∧ ld0 h a5 v_6 ∧ ld0 h a4 ((4 * v_6) + ((v_7 + (ah_i h a5 (Int32.toNatClampNeg v_6))) &&& 3)) ∧ ∀ x8, x8 = ah_i h a4 (Int32.toNatClampNeg ((4 * v_6) + ((v_7 + (ah_i h a5 (Int32.toNatClampNeg v_6))) &&& 3))) → ∀ x9, x9 = x8 / 4 → ∃ a10, ah_r h a_0 39 = some a10 ∧ ld0 h a10 x9 ∧ ((¬ (ah_i h a10 (Int32.toNatClampNeg x9)) = (-1) → ex_G mX12_walk d 153 [.ref a_0, .retAddr 0, .retAddr 0, .retAddr 0, .int v_4, .int v_5, .int v_6, .int v_7, .int x8, .int x9] [] h bc bs Q) ∧ ((ah_i h a10 (Int32.toNatClampNeg x9)) = (-1) → st0 h a10 x9 ∧ ∀ h13, h13 = ah_si h a10 (Int32.toNatClampNeg x9) v_4 → st0 h13 a5 x9 ∧ ∀ h15, h15 = ah_si h13 a5 (Int32.toNatClampNeg x9) (x8 &&& 2) → ∃ a17, ah_r h15 a_0 41 = some a17 ∧ st0 h15 a17 v_4 ∧ ∀ h18, h18 = ah_si h15 a17 (Int32.toNatClampNeg v_4) x9 → ∀ x20, x20 = v_4 + 1 → ex_G mX12_walk d 153 [.ref a_0, .retAddr 0, .retAddr 0, .retAddr 0, .int x20, .int v_5, .int v_6, .int v_7, .int x8, .int x9] [] h18 bc bs Q))))) : ex_G mX12_walk d 74 [.ref a_0, .retAddr 0, .retAddr 0, .retAddr 0, .int v_4, .int v_5, .int v_6, .int v_7, .retAddr 0, .retAddr 0] [] h bc bs Q := by
  refine ex_iload (q := 76) (x := v_7) dX12_walk_74 rfl ?_
  refine ex_iconst (q := 77) (v := 4) dX12_walk_76 (by decide) ?_
  refine ex_icmp_ge (tgt := 193) (q := 80) dX12_walk_77 (fun c1 => ?_) (fun c1 => ?_)
  · replace w := w.1 c1
    obtain ⟨x2, ex2⟩ : ∃ y : Int32, y = v_5 + 1 := ⟨_, rfl⟩
    replace w := w x2 ex2
    refine ex_iinc (q := 196) (x := v_5) (v := x2) (ls' := [.ref a_0, .retAddr 0, .retAddr 0, .retAddr 0, .int v_4, .int x2, .int v_6, .int v_7, .retAddr 0, .retAddr 0]) dX12_walk_193 rfl (by rw [ex2]; rfl) rfl ?_
    refine ex_goto (tgt := 55) dX12_walk_196 ?_
    refine ex_kill 6 (ls' := [.ref a_0, .retAddr 0, .retAddr 0, .retAddr 0, .int v_4, .int x2, .retAddr 0, .int v_7, .retAddr 0, .retAddr 0]) rfl ?_
    refine ex_kill 7 (ls' := [.ref a_0, .retAddr 0, .retAddr 0, .retAddr 0, .int v_4, .int x2, .retAddr 0, .retAddr 0, .retAddr 0, .retAddr 0]) rfl ?_
    exact w
  · replace w := w.2 c1
    refine ex_aload_n (q := 81) (x := a_0) dX12_walk_80 rfl ?_
    have s3 := w.1
    replace w := w.2
    obtain ⟨a4, ea4, w⟩ := w
    refine ex_getr (q := 84) dX12_walk_81 fl_X12_36 s3 ea4 ?_
    refine ex_iconst (q := 85) (v := 4) dX12_walk_84 (by decide) ?_
    refine ex_iload (q := 87) (x := v_6) dX12_walk_85 rfl ?_
    refine ex_imul (q := 88) dX12_walk_87 ?_
    refine ex_iload (q := 90) (x := v_7) dX12_walk_88 rfl ?_
    refine ex_aload_n (q := 91) (x := a_0) dX12_walk_90 rfl ?_
    obtain ⟨a5, ea5, w⟩ := w
    refine ex_getr (q := 94) dX12_walk_91 fl_X12_113 s3 ea5 ?_
    refine ex_iload (q := 96) (x := v_6) dX12_walk_94 rfl ?_
    have s6 := w.1
    replace w := w.2
    refine ex_iald (q := 97) dX12_walk_96 s6 ?_
    refine ex_iadd (q := 98) dX12_walk_97 ?_
    refine ex_iconst (q := 99) (v := 3) dX12_walk_98 (by decide) ?_
    refine ex_iand (q := 100) dX12_walk_99 ?_
    refine ex_iadd (q := 101) dX12_walk_100 ?_
    have s7 := w.1
    replace w := w.2
    refine ex_iald (q := 102) dX12_walk_101 s7 ?_
    refine ex_nmi (fun x8 ex8 => ?_)
    replace w := w x8 ex8
    refine ex_istore (q := 104) (ls' := [.ref a_0, .retAddr 0, .retAddr 0, .retAddr 0, .int v_4, .int v_5, .int v_6, .int v_7, .int x8, .retAddr 0]) dX12_walk_102 rfl ?_
    refine ex_iload (q := 106) (x := x8) dX12_walk_104 rfl ?_
    refine ex_iconst (q := 107) (v := 4) dX12_walk_106 (by decide) ?_
    refine ex_idiv (q := 108) dX12_walk_107 (by decide) ?_
    refine ex_nmi (fun x9 ex9 => ?_)
    replace w := w x9 ex9
    refine ex_istore (q := 110) (ls' := [.ref a_0, .retAddr 0, .retAddr 0, .retAddr 0, .int v_4, .int v_5, .int v_6, .int v_7, .int x8, .int x9]) dX12_walk_108 rfl ?_
    refine ex_aload_n (q := 111) (x := a_0) dX12_walk_110 rfl ?_
    obtain ⟨a10, ea10, w⟩ := w
    refine ex_getr (q := 114) dX12_walk_111 fl_X12_110 s3 ea10 ?_
    refine ex_iload (q := 116) (x := x9) dX12_walk_114 rfl ?_
    have s11 := w.1
    replace w := w.2
    refine ex_iald (q := 117) dX12_walk_116 s11 ?_
    refine ex_iconst (q := 118) (v := (-1)) dX12_walk_117 (by decide) ?_
    refine ex_icmp_ne (tgt := 153) (q := 121) dX12_walk_118 (fun c12 => ?_) (fun c12 => ?_)
    · replace w := w.1 c12
      exact w
    · replace w := w.2 c12
      refine ex_aload_n (q := 122) (x := a_0) dX12_walk_121 rfl ?_
      refine ex_getr (q := 125) dX12_walk_122 fl_X12_110 s3 ea10 ?_
      refine ex_iload (q := 127) (x := x9) dX12_walk_125 rfl ?_
      refine ex_iload (q := 129) (x := v_4) dX12_walk_127 rfl ?_
      have s14 := w.1
      replace w := w.2
      refine ex_iast (q := 130) dX12_walk_129 s14 ?_
      refine ex_nmh (fun h13 eh13 => ?_)
      replace w := w h13 eh13
      refine ex_aload_n (q := 131) (x := a_0) dX12_walk_130 rfl ?_
      refine ex_getr (q := 134) dX12_walk_131 fl_X12_113 (by rw [eh13]; exact s3) (by rw [eh13]; exact ea5) ?_
      refine ex_iload (q := 136) (x := x9) dX12_walk_134 rfl ?_
      refine ex_iload (q := 138) (x := x8) dX12_walk_136 rfl ?_
      refine ex_iconst (q := 139) (v := 2) dX12_walk_138 (by decide) ?_
      refine ex_iand (q := 140) dX12_walk_139 ?_
      have s16 := w.1
      replace w := w.2
      refine ex_iast (q := 141) dX12_walk_140 s16 ?_
      refine ex_nmh (fun h15 eh15 => ?_)
      replace w := w h15 eh15
      refine ex_aload_n (q := 142) (x := a_0) dX12_walk_141 rfl ?_
      obtain ⟨a17, ea17, w⟩ := w
      refine ex_getr (q := 145) dX12_walk_142 fl_X12_116 (by rw [eh15]; exact (by rw [eh13]; exact s3)) ea17 ?_
      refine ex_iload (q := 147) (x := v_4) dX12_walk_145 rfl ?_
      refine ex_iload (q := 149) (x := x9) dX12_walk_147 rfl ?_
      have s19 := w.1
      replace w := w.2
      refine ex_iast (q := 150) dX12_walk_149 s19 ?_
      refine ex_nmh (fun h18 eh18 => ?_)
      replace w := w h18 eh18
      obtain ⟨x20, ex20⟩ : ∃ y : Int32, y = v_4 + 1 := ⟨_, rfl⟩
      replace w := w x20 ex20
      refine ex_iinc (q := 153) (x := v_4) (v := x20) (ls' := [.ref a_0, .retAddr 0, .retAddr 0, .retAddr 0, .int x20, .int v_5, .int v_6, .int v_7, .int x8, .int x9]) dX12_walk_150 rfl (by rw [ex20]; rfl) rfl ?_
      exact w

set_option maxRecDepth 100000 in
theorem X12_walk_153 {d bc bs : Nat} {h : AH} {Q : Option Value → AH → Prop} {a_0 : Nat} {v_4 : Int32} {v_5 : Int32} {v_6 : Int32} {v_7 : Int32} {v_8 : Int32} {v_9 : Int32} (w : ah_o h a_0 12 ∧ ∃ a2, ah_r h a_0 42 = some a2 ∧ ∃ a3, ah_r h a_0 39 = some a3 ∧ ld0 h a3 v_9 ∧ ∃ a5, ah_r h a_0 40 = some a5 ∧ ld0 h a5 v_9 ∧ st0 h a2 ((4 * v_5) + v_7) ∧ ∀ h7, h7 = ah_si h a2 (Int32.toNatClampNeg ((4 * v_5) + v_7)) ((4 * (ah_i h a3 (Int32.toNatClampNeg v_9))) + ((v_8 - (ah_i h a5 (Int32.toNatClampNeg v_9))) &&& 3)) → ∀ x9, x9 = v_7 + 1 → ex_G mX12_walk d 74 [.ref a_0, .retAddr 0, .retAddr 0, .retAddr 0, .int v_4, .int v_5, .int v_6, .int x9, .retAddr 0, .retAddr 0] [] h7 bc bs Q) : ex_G mX12_walk d 153 [.ref a_0, .retAddr 0, .retAddr 0, .retAddr 0, .int v_4, .int v_5, .int v_6, .int v_7, .int v_8, .int v_9] [] h bc bs Q := by
  refine ex_aload_n (q := 154) (x := a_0) dX12_walk_153 rfl ?_
  have s1 := w.1
  replace w := w.2
  obtain ⟨a2, ea2, w⟩ := w
  refine ex_getr (q := 157) dX12_walk_154 fl_X12_119 s1 ea2 ?_
  refine ex_iconst (q := 158) (v := 4) dX12_walk_157 (by decide) ?_
  refine ex_iload (q := 160) (x := v_5) dX12_walk_158 rfl ?_
  refine ex_imul (q := 161) dX12_walk_160 ?_
  refine ex_iload (q := 163) (x := v_7) dX12_walk_161 rfl ?_
  refine ex_iadd (q := 164) dX12_walk_163 ?_
  refine ex_iconst (q := 165) (v := 4) dX12_walk_164 (by decide) ?_
  refine ex_aload_n (q := 166) (x := a_0) dX12_walk_165 rfl ?_
  obtain ⟨a3, ea3, w⟩ := w
  refine ex_getr (q := 169) dX12_walk_166 fl_X12_110 s1 ea3 ?_
  refine ex_iload (q := 171) (x := v_9) dX12_walk_169 rfl ?_
  have s4 := w.1
  replace w := w.2
  refine ex_iald (q := 172) dX12_walk_171 s4 ?_
  refine ex_imul (q := 173) dX12_walk_172 ?_
  refine ex_iload (q := 175) (x := v_8) dX12_walk_173 rfl ?_
  refine ex_aload_n (q := 176) (x := a_0) dX12_walk_175 rfl ?_
  obtain ⟨a5, ea5, w⟩ := w
  refine ex_getr (q := 179) dX12_walk_176 fl_X12_113 s1 ea5 ?_
  refine ex_iload (q := 181) (x := v_9) dX12_walk_179 rfl ?_
  have s6 := w.1
  replace w := w.2
  refine ex_iald (q := 182) dX12_walk_181 s6 ?_
  refine ex_isub (q := 183) dX12_walk_182 ?_
  refine ex_iconst (q := 184) (v := 3) dX12_walk_183 (by decide) ?_
  refine ex_iand (q := 185) dX12_walk_184 ?_
  refine ex_iadd (q := 186) dX12_walk_185 ?_
  have s8 := w.1
  replace w := w.2
  refine ex_iast (q := 187) dX12_walk_186 s8 ?_
  refine ex_nmh (fun h7 eh7 => ?_)
  replace w := w h7 eh7
  obtain ⟨x9, ex9⟩ : ∃ y : Int32, y = v_7 + 1 := ⟨_, rfl⟩
  replace w := w x9 ex9
  refine ex_iinc (q := 190) (x := v_7) (v := x9) (ls' := [.ref a_0, .retAddr 0, .retAddr 0, .retAddr 0, .int v_4, .int v_5, .int v_6, .int x9, .int v_8, .int v_9]) dX12_walk_187 rfl (by rw [ex9]; rfl) rfl ?_
  refine ex_goto (tgt := 74) dX12_walk_190 ?_
  refine ex_kill 8 (ls' := [.ref a_0, .retAddr 0, .retAddr 0, .retAddr 0, .int v_4, .int v_5, .int v_6, .int x9, .retAddr 0, .int v_9]) rfl ?_
  refine ex_kill 9 (ls' := [.ref a_0, .retAddr 0, .retAddr 0, .retAddr 0, .int v_4, .int v_5, .int v_6, .int x9, .retAddr 0, .retAddr 0]) rfl ?_
  exact w

theorem X12_walk_e {d bc bs : Nat} {h : AH} {Q : Option Value → AH → Prop} {a_0 : Nat} {v_1 : Int32} {v_2 : Int32} {v_3 : Int32} (w : ex_G mX12_walk d 0 [.ref a_0, .int v_1, .int v_2, .int v_3, .retAddr 0, .retAddr 0, .retAddr 0, .retAddr 0, .retAddr 0, .retAddr 0] [] h bc bs Q) : ex_S yX12_walk mX12_walk d [.ref a_0, .int v_1, .int v_2, .int v_3] h bc bs Q :=
  ex_enter (plainFor_of_name (by decide +kernel)) ⟨rfl, rfl⟩ rfl rfl (Nat.le_of_ble_eq_true rfl) (ex_pad 6 w)

set_option maxRecDepth 100000 in
theorem X12_compare_0 {d bc bs : Nat} {h : AH} {Q : Option Value → AH → Prop} {a_0 : Nat} {v_1 : Int32} {v_2 : Int32} {a_3 : Nat} {v_4 : Int32} {v_5 : Int32} (w : ((v_2 = v_5 → ex_G mX12_compare d 21 [.ref a_0, .int v_1, .int v_2, .ref a_3, .int v_4, .retAddr 0, .int 0] [] h bc bs Q) ∧ (¬ v_2 = v_5 → ((v_5 ≤ v_2 → Q (some (.int 1)) h) ∧ (¬ v_5 ≤ v_2 → Q (some (.int (-1))) h))))) : ex_G mX12_compare d 0 [.ref a_0, .int v_1, .int v_2, .ref a_3, .int v_4, .int v_5, .retAddr 0] [] h bc bs Q := by
  refine ex_iload_n (q := 1) (x := v_2) dX12_compare_0 rfl ?_
  refine ex_iload (q := 3) (x := v_5) dX12_compare_1 rfl ?_
  refine ex_icmp_eq (tgt := 18) (q := 6) dX12_compare_3 (fun c1 => ?_) (fun c1 => ?_)
  · replace w := w.1 c1
    refine ex_iconst (q := 19) (v := 0) dX12_compare_18 (by decide) ?_
    refine ex_istore (q := 21) (ls' := [.ref a_0, .int v_1, .int v_2, .ref a_3, .int v_4, .int v_5, .int 0]) dX12_compare_19 rfl ?_
    refine ex_kill 5 (ls' := [.ref a_0, .int v_1, .int v_2, .ref a_3, .int v_4, .retAddr 0, .int 0]) rfl ?_
    exact w
  · replace w := w.2 c1
    refine ex_iload_n (q := 7) (x := v_2) dX12_compare_6 rfl ?_
    refine ex_iload (q := 9) (x := v_5) dX12_compare_7 rfl ?_
    refine ex_icmp_ge (tgt := 16) (q := 12) dX12_compare_9 (fun c2 => ?_) (fun c2 => ?_)
    · replace w := w.1 c2
      refine ex_iconst (q := 17) (v := 1) dX12_compare_16 (by decide) ?_
      exact ex_ireturn dX12_compare_17 rfl (Or.inl rfl) w
    · replace w := w.2 c2
      refine ex_iconst (q := 13) (v := (-1)) dX12_compare_12 (by decide) ?_
      refine ex_goto (tgt := 17) dX12_compare_13 ?_
      exact ex_ireturn dX12_compare_17 rfl (Or.inl rfl) w

set_option maxRecDepth 100000 in
theorem X12_compare_21 {d bc bs : Nat} {h : AH} {Q : Option Value → AH → Prop} {a_0 : Nat} {v_1 : Int32} {v_2 : Int32} {a_3 : Nat} {v_4 : Int32} {v_6 : Int32} (w : ((v_2 ≤ v_6 → Q (some (.int 0)) h) ∧ (¬ v_2 ≤ v_6 → ld0 h a_0 (v_1 + v_6) ∧ ld0 h a_3 (v_4 + v_6) ∧ (((ah_i h a_0 (Int32.toNatClampNeg (v_1 + v_6))) = (ah_i h a_3 (Int32.toNatClampNeg (v_4 + v_6))) → ∀ x5, x5 = v_6 + 1 → ex_G mX12_compare d 21 [.ref a_0, .int v_1, .int v_2, .ref a_3, .int v_4, .retAddr 0, .int x5] [] h bc bs Q) ∧ (¬ (ah_i h a_0 (Int32.toNatClampNeg (v_1 + v_6))) = (ah_i h a_3 (Int32.toNatClampNeg (v_4 + v_6))) → (((ah_i h a_3 (Int32.toNatClampNeg (v_4 + v_6))) ≤ (ah_i h a_0 (Int32.toNatClampNeg (v_1 + v_6))) → Q (some (.int 1)) h) ∧ (¬ (ah_i h a_3 (Int32.toNatClampNeg (v_4 + v_6))) ≤ (ah_i h a_0 (Int32.toNatClampNeg (v_1 + v_6))) → Q (some (.int (-1))) h))))))) : ex_G mX12_compare d 21 [.ref a_0, .int v_1, .int v_2, .ref a_3, .int v_4, .retAddr 0, .int v_6] [] h bc bs Q := by
  refine ex_iload (q := 23) (x := v_6) dX12_compare_21 rfl ?_
  refine ex_iload_n (q := 24) (x := v_2) dX12_compare_23 rfl ?_
  refine ex_icmp_ge (tgt := 71) (q := 27) dX12_compare_24 (fun c1 => ?_) (fun c1 => ?_)
  · replace w := w.1 c1
    refine ex_iconst (q := 72) (v := 0) dX12_compare_71 (by decide) ?_
    exact ex_ireturn dX12_compare_72 rfl (Or.inl rfl) w
  · replace w := w.2 c1
    refine ex_aload_n (q := 28) (x := a_0) dX12_compare_27 rfl ?_
    refine ex_iload_n (q := 29) (x := v_1) dX12_compare_28 rfl ?_
    refine ex_iload (q := 31) (x := v_6) dX12_compare_29 rfl ?_
    refine ex_iadd (q := 32) dX12_compare_31 ?_
    have s2 := w.1
    replace w := w.2
    refine ex_iald (q := 33) dX12_compare_32 s2 ?_
    refine ex_aload_n (q := 34) (x := a_3) dX12_compare_33 rfl ?_
    refine ex_iload (q := 36) (x := v_4) dX12_compare_34 rfl ?_
    refine ex_iload (q := 38) (x := v_6) dX12_compare_36 rfl ?_
    refine ex_iadd (q := 39) dX12_compare_38 ?_
    have s3 := w.1
    replace w := w.2
    refine ex_iald (q := 40) dX12_compare_39 s3 ?_
    refine ex_icmp_eq (tgt := 65) (q := 43) dX12_compare_40 (fun c4 => ?_) (fun c4 => ?_)
    · replace w := w.1 c4
      obtain ⟨x5, ex5⟩ : ∃ y : Int32, y = v_6 + 1 := ⟨_, rfl⟩
      replace w := w x5 ex5
      refine ex_iinc (q := 68) (x := v_6) (v := x5) (ls' := [.ref a_0, .int v_1, .int v_2, .ref a_3, .int v_4, .retAddr 0, .int x5]) dX12_compare_65 rfl (by rw [ex5]; rfl) rfl ?_
      refine ex_goto (tgt := 21) dX12_compare_68 ?_
      exact w
    · replace w := w.2 c4
      refine ex_aload_n (q := 44) (x := a_0) dX12_compare_43 rfl ?_
      refine ex_iload_n (q := 45) (x := v_1) dX12_compare_44 rfl ?_
      refine ex_iload (q := 47) (x := v_6) dX12_compare_45 rfl ?_
      refine ex_iadd (q := 48) dX12_compare_47 ?_
      refine ex_iald (q := 49) dX12_compare_48 s2 ?_
      refine ex_aload_n (q := 50) (x := a_3) dX12_compare_49 rfl ?_
      refine ex_iload (q := 52) (x := v_4) dX12_compare_50 rfl ?_
      refine ex_iload (q := 54) (x := v_6) dX12_compare_52 rfl ?_
      refine ex_iadd (q := 55) dX12_compare_54 ?_
      refine ex_iald (q := 56) dX12_compare_55 s3 ?_
      refine ex_icmp_ge (tgt := 63) (q := 59) dX12_compare_56 (fun c6 => ?_) (fun c6 => ?_)
      · replace w := w.1 c6
        refine ex_iconst (q := 64) (v := 1) dX12_compare_63 (by decide) ?_
        exact ex_ireturn dX12_compare_64 rfl (Or.inl rfl) w
      · replace w := w.2 c6
        refine ex_iconst (q := 60) (v := (-1)) dX12_compare_59 (by decide) ?_
        refine ex_goto (tgt := 64) dX12_compare_60 ?_
        exact ex_ireturn dX12_compare_64 rfl (Or.inl rfl) w

theorem X12_compare_e {d bc bs : Nat} {h : AH} {Q : Option Value → AH → Prop} {a_0 : Nat} {v_1 : Int32} {v_2 : Int32} {a_3 : Nat} {v_4 : Int32} {v_5 : Int32} (w : ex_G mX12_compare d 0 [.ref a_0, .int v_1, .int v_2, .ref a_3, .int v_4, .int v_5, .retAddr 0] [] h bc bs Q) : ex_S yX12_compare mX12_compare d [.ref a_0, .int v_1, .int v_2, .ref a_3, .int v_4, .int v_5] h bc bs Q :=
  ex_enter (plainFor_of_name (by decide +kernel)) ⟨rfl, rfl⟩ rfl rfl (Nat.le_of_ble_eq_true rfl) (ex_pad 1 w)

set_option maxRecDepth 100000 in
theorem X12_codeInto_0 {d bc bs : Nat} {h : AH} {Q : Option Value → AH → Prop} {a_0 : Nat} {v_1 : Int32} {a_2 : Nat} {v_3 : Int32} (w : ah_o h a_0 12 ∧ ex_S yX12_partsOf mX12_partsOf (d + 1) [.ref a_0, .int v_1] h 0 0 (fun r h1 => ∃ x3, r = some (.int x3) ∧ ex_G mX12_codeInto (d + 2) 16 [.ref a_0, .int v_1, .ref a_2, .int v_3, .int 0, .int 0, .int 0, .retAddr 0, .retAddr 0, .retAddr 0, .retAddr 0, .retAddr 0] [] h1 bc bs Q)) : ex_G mX12_codeInto (d + 2) 0 [.ref a_0, .int v_1, .ref a_2, .int v_3, .retAddr 0, .retAddr 0, .retAddr 0, .retAddr 0, .retAddr 0, .retAddr 0, .retAddr 0, .retAddr 0] [] h bc bs Q := by
  refine ex_aload_n (q := 1) (x := a_0) dX12_codeInto_0 rfl ?_
  refine ex_iload_n (q := 2) (x := v_1) dX12_codeInto_1 rfl ?_
  have s2 := w.1
  replace w := w.2
  refine ex_callV (q := 5) (M := mX12_codeInto) (hdd := Nat.le_refl _) (c := 12) (st := []) (bc := bc) (bs := bs) dX12_codeInto_2 rfl cl_X12_223 wd_1662 wd_56 s2 w ?_
  rintro r h1 ⟨x3, rfl, w⟩
  show ex_G mX12_codeInto (d + 2) 5 [.ref a_0, .int v_1, .ref a_2, .int v_3, .retAddr 0, .retAddr 0, .retAddr 0, .retAddr 0, .retAddr 0, .retAddr 0, .retAddr 0, .retAddr 0] [.int x3] h1 bc bs Q
  refine ex_istore (q := 7) (ls' := [.ref a_0, .int v_1, .ref a_2, .int v_3, .int x3, .retAddr 0, .retAddr 0, .retAddr 0, .retAddr 0, .retAddr 0, .retAddr 0, .retAddr 0]) dX12_codeInto_5 rfl ?_
  refine ex_iconst (q := 8) (v := 0) dX12_codeInto_7 (by decide) ?_
  refine ex_istore (q := 10) (ls' := [.ref a_0, .int v_1, .ref a_2, .int v_3, .int x3, .int 0, .retAddr 0, .retAddr 0, .retAddr 0, .retAddr 0, .retAddr 0, .retAddr 0]) dX12_codeInto_8 rfl ?_
  refine ex_iconst (q := 11) (v := 0) dX12_codeInto_10 (by decide) ?_
  refine ex_istore (q := 13) (ls' := [.ref a_0, .int v_1, .ref a_2, .int v_3, .int 0, .int 0, .retAddr 0, .retAddr 0, .retAddr 0, .retAddr 0, .retAddr 0, .retAddr 0]) dX12_codeInto_11 rfl ?_
  refine ex_iconst (q := 14) (v := 0) dX12_codeInto_13 (by decide) ?_
  refine ex_istore (q := 16) (ls' := [.ref a_0, .int v_1, .ref a_2, .int v_3, .int 0, .int 0, .int 0, .retAddr 0, .retAddr 0, .retAddr 0, .retAddr 0, .retAddr 0]) dX12_codeInto_14 rfl ?_
  exact w

set_option maxRecDepth 100000 in
theorem X12_codeInto_16 {d bc bs : Nat} {h : AH} {Q : Option Value → AH → Prop} {a_0 : Nat} {v_1 : Int32} {a_2 : Nat} {v_3 : Int32} {v_4 : Int32} {v_5 : Int32} {v_6 : Int32} (w : ah_o h a_0 12 ∧ ∃ a2, ah_r h a_0 2 = some a2 ∧ ld0 h a2 v_1 ∧ (((ah_i h a2 (Int32.toNatClampNeg v_1)) ≤ v_6 → ex_S yX12_sortInto mX12_sortInto (d + 1) [.ref a_0, .int v_4, .ref a_2, .int v_3, .int v_1] h 0 0 (fun r h5 => r = none ∧ Q none h5)) ∧ (¬ (ah_i h a2 (Int32.toNatClampNeg v_1)) ≤ v_6 → ∃ a6, ah_r h a_0 11 = some a6 ∧ ld0 h a6 v_6 ∧ ((¬ (ah_i h a6 (Int32.toNatClampNeg v_6)) = v_6 → ∀ x9, x9 = v_6 + 1 → ex_G mX12_codeInto (d + 2) 16 [.ref a_0, .int v_1, .ref a_2, .int v_3, .int v_4, .int v_5, .int x9, .retAddr 0, .retAddr 0, .retAddr 0, .retAddr 0, .retAddr 0] [] h bc bs Q) ∧ ((ah_i h a6 (Int32.toNatClampNeg v_6)) = v_6 → ex_G mX12_codeInto (d + 2) 46 [.ref a_0, .int v_1, .ref a_2, .int v_3, .int v_4, .int v_5, .int v_6, .int 0, .int v_6, .retAddr 0, .retAddr 0, .retAddr 0] [] h bc bs Q))))) : ex_G mX12_codeInto (d + 2) 16 [.ref a_0, .int v_1, .ref a_2, .int v_3, .int v_4, .int v_5, .int v_6, .retAddr 0, .retAddr 0, .retAddr 0, .retAddr 0, .retAddr 0] [] h bc bs Q := by
  refine ex_iload (q := 18) (x := v_6) dX12_codeInto_16 rfl ?_
  refine ex_aload_n (q := 19) (x := a_0) dX12_codeInto_18 rfl ?_
  have s1 := w.1
  replace w := w.2
  obtain ⟨a2, ea2, w⟩ := w
  refine ex_getr (q := 22) dX12_codeInto_19 fl_X12_13 s1 ea2 ?_
  refine ex_iload_n (q := 23) (x := v_1) dX12_codeInto_22 rfl ?_
  have s3 := w.1
  replace w := w.2
  refine ex_iald (q := 24) dX12_codeInto_23 s3 ?_
  refine ex_icmp_ge (tgt := 229) (q := 27) dX12_codeInto_24 (fun c4 => ?_) (fun c4 => ?_)
  · replace w := w.1 c4
    refine ex_aload_n (q := 230) (x := a_0) dX12_codeInto_229 rfl ?_
    refine ex_iload (q := 232) (x := v_4) dX12_codeInto_230 rfl ?_
    refine ex_aload_n (q := 233) (x := a_2) dX12_codeInto_232 rfl ?_
    refine ex_iload_n (q := 234) (x := v_3) dX12_codeInto_233 rfl ?_
    refine ex_iload_n (q := 235) (x := v_1) dX12_codeInto_234 rfl ?_
    refine ex_callV (q := 238) (M := mX12_codeInto) (hdd := Nat.le_refl _) (c := 12) (st := []) (bc := bc) (bs := bs) dX12_codeInto_235 rfl cl_X12_408 wd_1980 wd_102 s1 w ?_
    rintro r h5 ⟨rfl, w⟩
    show ex_G mX12_codeInto (d + 2) 238 [.ref a_0, .int v_1, .ref a_2, .int v_3, .int v_4, .int v_5, .int v_6, .retAddr 0, .retAddr 0, .retAddr 0, .retAddr 0, .retAddr 0] [] h5 bc bs Q
    exact ex_return dX12_codeInto_238 w
  · replace w := w.2 c4
    refine ex_aload_n (q := 28) (x := a_0) dX12_codeInto_27 rfl ?_
    obtain ⟨a6, ea6, w⟩ := w
    refine ex_getr (q := 31) dX12_codeInto_28 fl_X12_39 s1 ea6 ?_
    refine ex_iload (q := 33) (x := v_6) dX12_codeInto_31 rfl ?_
    have s7 := w.1
    replace w := w.2
    refine ex_iald (q := 34) dX12_codeInto_33 s7 ?_
    refine ex_iload (q := 36) (x := v_6) dX12_codeInto_34 rfl ?_
    refine ex_icmp_ne (tgt := 223) (q := 39) dX12_codeInto_36 (fun c8 => ?_) (fun c8 => ?_)
    · replace w := w.1 c8
      obtain ⟨x9, ex9⟩ : ∃ y : Int32, y = v_6 + 1 := ⟨_, rfl⟩
      replace w := w x9 ex9
      refine ex_iinc (q := 226) (x := v_6) (v := x9) (ls' := [.ref a_0, .int v_1, .ref a_2, .int v_3, .int v_4, .int v_5, .int x9, .retAddr 0, .retAddr 0, .retAddr 0, .retAddr 0, .retAddr 0]) dX12_codeInto_223 rfl (by rw [ex9]; rfl) rfl ?_
      refine ex_goto (tgt := 16) dX12_codeInto_226 ?_
      exact w
    · replace w := w.2 c8
      refine ex_iconst (q := 40) (v := 0) dX12_codeInto_39 (by decide) ?_
      refine ex_istore (q := 42) (ls' := [.ref a_0, .int v_1, .ref a_2, .int v_3, .int v_4, .int v_5, .int v_6, .int 0, .retAddr 0, .retAddr 0, .retAddr 0, .retAddr 0]) dX12_codeInto_40 rfl ?_
      refine ex_iload (q := 44) (x := v_6) dX12_codeInto_42 rfl ?_
      refine ex_istore (q := 46) (ls' := [.ref a_0, .int v_1, .ref a_2, .int v_3, .int v_4, .int v_5, .int v_6, .int 0, .int v_6, .retAddr 0, .retAddr 0, .retAddr 0]) dX12_codeInto_44 rfl ?_
      exact w

set_option maxRecDepth 100000 in
theorem X12_codeInto_46 {d bc bs : Nat} {h : AH} {Q : Option Value → AH → Prop} {a_0 : Nat} {v_1 : Int32} {a_2 : Nat} {v_3 : Int32} {v_4 : Int32} {v_5 : Int32} {v_6 : Int32} {v_7 : Int32} {v_8 : Int32} (w : ah_o h a_0 12 ∧ ∃ a2, ah_r h a_0 2 = some a2 ∧ ld0 h a2 v_1 ∧ (((ah_i h a2 (Int32.toNatClampNeg v_1)) ≤ v_8 → ∃ a5, ah_r h a_0 44 = some a5 ∧ st0 h a5 v_4 ∧ ∀ h6, h6 = ah_si h a5 (Int32.toNatClampNeg v_4) v_5 → ∀ x8, x8 = v_4 + 1 → ex_G mX12_codeInto (d + 2) 177 [.ref a_0, .int v_1, .ref a_2, .int v_3, .int x8, .int v_5, .int v_6, .int v_7, .int 0, .retAddr 0, .retAddr 0, .retAddr 0] [] h6 bc bs Q) ∧ (¬ (ah_i h a2 (Int32.toNatClampNeg v_1)) ≤ v_8 → ∃ a9, ah_r h a_0 11 = some a9 ∧ ld0 h a9 v_8 ∧ ((¬ (ah_i h a9 (Int32.toNatClampNeg v_8)) = v_6 → ∀ x12, x12 = v_8 + 1 → ex_G mX12_codeInto (d + 2) 46 [.ref a_0, .int v_1, .ref a_2, .int v_3, .int v_4, .int v_5, .int v_6, .int v_7, .int x12, .retAddr 0, .retAddr 0, .retAddr 0] [] h bc bs Q) ∧ ((ah_i h a9 (Int32.toNatClampNeg v_8)) = v_6 → ex_G mX12_codeInto (d + 2) 72 [.ref a_0, .int v_1, .ref a_2, .int v_3, .int v_4, .int v_5, .int v_6, .int v_7, .int v_8, .int 0, .retAddr 0, .retAddr 0] [] h bc bs Q))))) : ex_G mX12_codeInto (d + 2) 46 [.ref a_0, .int v_1, .ref a_2, .int v_3, .int v_4, .int v_5, .int v_6, .int v_7, .int v_8, .retAddr 0, .retAddr 0, .retAddr 0] [] h bc bs Q := by
  refine ex_iload (q := 48) (x := v_8) dX12_codeInto_46 rfl ?_
  refine ex_aload_n (q := 49) (x := a_0) dX12_codeInto_48 rfl ?_
  have s1 := w.1
  replace w := w.2
  obtain ⟨a2, ea2, w⟩ := w
  refine ex_getr (q := 52) dX12_codeInto_49 fl_X12_13 s1 ea2 ?_
  refine ex_iload_n (q := 53) (x := v_1) dX12_codeInto_52 rfl ?_
  have s3 := w.1
  replace w := w.2
  refine ex_iald (q := 54) dX12_codeInto_53 s3 ?_
  refine ex_icmp_ge (tgt := 162) (q := 57) dX12_codeInto_54 (fun c4 => ?_) (fun c4 => ?_)
  · replace w := w.1 c4
    refine ex_aload_n (q := 163) (x := a_0) dX12_codeInto_162 rfl ?_
    obtain ⟨a5, ea5, w⟩ := w
    refine ex_getr (q := 166) dX12_codeInto_163 fl_X12_125 s1 ea5 ?_
    refine ex_iload (q := 168) (x := v_4) dX12_codeInto_166 rfl ?_
    refine ex_iload (q := 170) (x := v_5) dX12_codeInto_168 rfl ?_
    have s7 := w.1
    replace w := w.2
    refine ex_iast (q := 171) dX12_codeInto_170 s7 ?_
    refine ex_nmh (fun h6 eh6 => ?_)
    replace w := w h6 eh6
    obtain ⟨x8, ex8⟩ : ∃ y : Int32, y = v_4 + 1 := ⟨_, rfl⟩
    replace w := w x8 ex8
    refine ex_iinc (q := 174) (x := v_4) (v := x8) (ls' := [.ref a_0, .int v_1, .ref a_2, .int v_3, .int x8, .int v_5, .int v_6, .int v_7, .int v_8, .retAddr 0, .retAddr 0, .retAddr 0]) dX12_codeInto_171 rfl (by rw [ex8]; rfl) rfl ?_
    refine ex_iconst (q := 175) (v := 0) dX12_codeInto_174 (by decide) ?_
    refine ex_istore (q := 177) (ls' := [.ref a_0, .int v_1, .ref a_2, .int v_3, .int x8, .int v_5, .int v_6, .int v_7, .int 0, .retAddr 0, .retAddr 0, .retAddr 0]) dX12_codeInto_175 rfl ?_
    exact w
  · replace w := w.2 c4
    refine ex_aload_n (q := 58) (x := a_0) dX12_codeInto_57 rfl ?_
    obtain ⟨a9, ea9, w⟩ := w
    refine ex_getr (q := 61) dX12_codeInto_58 fl_X12_39 s1 ea9 ?_
    refine ex_iload (q := 63) (x := v_8) dX12_codeInto_61 rfl ?_
    have s10 := w.1
    replace w := w.2
    refine ex_iald (q := 64) dX12_codeInto_63 s10 ?_
    refine ex_iload (q := 66) (x := v_6) dX12_codeInto_64 rfl ?_
    refine ex_icmp_ne (tgt := 156) (q := 69) dX12_codeInto_66 (fun c11 => ?_) (fun c11 => ?_)
    · replace w := w.1 c11
      obtain ⟨x12, ex12⟩ : ∃ y : Int32, y = v_8 + 1 := ⟨_, rfl⟩
      replace w := w x12 ex12
      refine ex_iinc (q := 159) (x := v_8) (v := x12) (ls' := [.ref a_0, .int v_1, .ref a_2, .int v_3, .int v_4, .int v_5, .int v_6, .int v_7, .int x12, .retAddr 0, .retAddr 0, .retAddr 0]) dX12_codeInto_156 rfl (by rw [ex12]; rfl) rfl ?_
      refine ex_goto (tgt := 46) dX12_codeInto_159 ?_
      exact w
    · replace w := w.2 c11
      refine ex_iconst (q := 70) (v := 0) dX12_codeInto_69 (by decide) ?_
      refine ex_istore (q := 72) (ls' := [.ref a_0, .int v_1, .ref a_2, .int v_3, .int v_4, .int v_5, .int v_6, .int v_7, .int v_8, .int 0, .retAddr 0, .retAddr 0]) dX12_codeInto_70 rfl ?_
      exact w

set_option maxRecDepth 100000 in
theorem X12_codeInto_72 {d bc bs : Nat} {h : AH} {Q : Option Value → AH → Prop} {a_0 : Nat} {v_1 : Int32} {a_2 : Nat} {v_3 : Int32} {v_4 : Int32} {v_5 : Int32} {v_6 : Int32} {v_7 : Int32} {v_8 : Int32} {v_9 : Int32} (w : ((4 ≤ v_9 → ∀ x2, x2 = v_8 + 1 → ex_G mX12_codeInto (d + 2) 46 [.ref a_0, .int v_1, .ref a_2, .int v_3, .int v_4, .int v_5, .int v_6, .int v_7, .int x2, .retAddr 0, .retAddr 0, .retAddr 0] [] h bc bs Q) ∧ (¬ 4 ≤ v_9 → ah_o h a_0 12 ∧ ex_S yX12_walk mX12_walk (d + 1) [.ref a_0, .int v_1, .int v_8, .int v_9] h 0 0 (fun r h3 => ∃ x5, r = some (.int x5) ∧ ∀ x6, x6 = 4 * x5 → ((v_7 = 0 → ex_G mX12_codeInto (d + 2) 119 [.ref a_0, .int v_1, .ref a_2, .int v_3, .int v_4, .int v_5, .int v_6, .retAddr 0, .int v_8, .int v_9, .int x6, .int 0] [] h3 bc bs Q) ∧ (¬ v_7 = 0 → ah_o h3 a_0 12 ∧ ∃ a9, ah_r h3 a_0 42 = some a9 ∧ ∃ a10, ah_r h3 a_0 43 = some a10 ∧ ex_S yX12_compare mX12_compare (d + 1) [.ref a9, .int 0, .int x6, .ref a10, .int 0, .int x6] h3 0 0 (fun r h11 => ∃ x12, r = some (.int x12) ∧ ((0 ≤ x12 → ∀ x14, x14 = v_9 + 2 → ex_G mX12_codeInto (d + 2) 72 [.ref a_0, .int v_1, .ref a_2, .int v_3, .int v_4, .int v_5, .int v_6, .int x6, .int v_8, .int x14, .retAddr 0, .retAddr 0] [] h11 bc bs Q) ∧ (¬ 0 ≤ x12 → ex_G mX12_codeInto (d + 2) 119 [.ref a_0, .int v_1, .ref a_2, .int v_3, .int v_4, .int v_5, .int v_6, .retAddr 0, .int v_8, .int v_9, .int x6, .int 0] [] h11 bc bs Q))))))))) : ex_G mX12_codeInto (d + 2) 72 [.ref a_0, .int v_1, .ref a_2, .int v_3, .int v_4, .int v_5, .int v_6, .int v_7, .int v_8, .int v_9, .retAddr 0, .retAddr 0] [] h bc bs Q := by
  refine ex_iload (q := 74) (x := v_9) dX12_codeInto_72 rfl ?_
  refine ex_iconst (q := 75) (v := 4) dX12_codeInto_74 (by decide) ?_
  refine ex_icmp_ge (tgt := 156) (q := 78) dX12_codeInto_75 (fun c1 => ?_) (fun c1 => ?_)
  · replace w := w.1 c1
    obtain ⟨x2, ex2⟩ : ∃ y : Int32, y = v_8 + 1 := ⟨_, rfl⟩
    replace w := w x2 ex2
    refine ex_iinc (q := 159) (x := v_8) (v := x2) (ls' := [.ref a_0, .int v_1, .ref a_2, .int v_3, .int v_4, .int v_5, .int v_6, .int v_7, .int x2, .int v_9, .retAddr 0, .retAddr 0]) dX12_codeInto_156 rfl (by rw [ex2]; rfl) rfl ?_
    refine ex_goto (tgt := 46) dX12_codeInto_159 ?_
    refine ex_kill 9 (ls' := [.ref a_0, .int v_1, .ref a_2, .int v_3, .int v_4, .int v_5, .int v_6, .int v_7, .int x2, .retAddr 0, .retAddr 0, .retAddr 0]) rfl ?_
    exact w
  · replace w := w.2 c1
    refine ex_iconst (q := 79) (v := 4) dX12_codeInto_78 (by decide) ?_
    refine ex_aload_n (q := 80) (x := a_0) dX12_codeInto_79 rfl ?_
    refine ex_iload_n (q := 81) (x := v_1) dX12_codeInto_80 rfl ?_
    refine ex_iload (q := 83) (x := v_8) dX12_codeInto_81 rfl ?_
    refine ex_iload (q := 85) (x := v_9) dX12_codeInto_83 rfl ?_
    have s4 := w.1
    replace w := w.2
    refine ex_callV (q := 88) (M := mX12_codeInto) (hdd := Nat.le_refl _) (c := 12) (st := [.int 4]) (bc := bc) (bs := bs) dX12_codeInto_85 rfl cl_X12_401 wd_1973 wd_101 s4 w ?_
    rintro r h3 ⟨x5, rfl, w⟩
    show ex_G mX12_codeInto (d + 2) 88 [.ref a_0, .int v_1, .ref a_2, .int v_3, .int v_4, .int v_5, .int v_6, .int v_7, .int v_8, .int v_9, .retAddr 0, .retAddr 0] [.int x5, .int 4] h3 bc bs Q
    refine ex_imul (q := 89) dX12_codeInto_88 ?_
    refine ex_nmi (fun x6 ex6 => ?_)
    replace w := w x6 ex6
    refine ex_istore (q := 91) (ls' := [.ref a_0, .int v_1, .ref a_2, .int v_3, .int v_4, .int v_5, .int v_6, .int v_7, .int v_8, .int v_9, .int x6, .retAddr 0]) dX12_codeInto_89 rfl ?_
    refine ex_iload (q := 93) (x := v_7) dX12_codeInto_91 rfl ?_
    refine ex_if_eq (tgt := 116) (q := 96) dX12_codeInto_93 (fun c7 => ?_) (fun c7 => ?_)
    · replace w := w.1 c7
      refine ex_iconst (q := 117) (v := 0) dX12_codeInto_116 (by decide) ?_
      refine ex_istore (q := 119) (ls' := [.ref a_0, .int v_1, .ref a_2, .int v_3, .int v_4, .int v_5, .int v_6, .int v_7, .int v_8, .int v_9, .int x6, .int 0]) dX12_codeInto_117 rfl ?_
      refine ex_kill 7 (ls' := [.ref a_0, .int v_1, .ref a_2, .int v_3, .int v_4, .int v_5, .int v_6, .retAddr 0, .int v_8, .int v_9, .int x6, .int 0]) rfl ?_
      exact w
    · replace w := w.2 c7
      refine ex_aload_n (q := 97) (x := a_0) dX12_codeInto_96 rfl ?_
      have s8 := w.1
      replace w := w.2
      obtain ⟨a9, ea9, w⟩ := w
      refine ex_getr (q := 100) dX12_codeInto_97 fl_X12_119 s8 ea9 ?_
      refine ex_iconst (q := 101) (v := 0) dX12_codeInto_100 (by decide) ?_
      refine ex_iload (q := 103) (x := x6) dX12_codeInto_101 rfl ?_
      refine ex_aload_n (q := 104) (x := a_0) dX12_codeInto_103 rfl ?_
      obtain ⟨a10, ea10, w⟩ := w
      refine ex_getr (q := 107) dX12_codeInto_104 fl_X12_122 s8 ea10 ?_
      refine ex_iconst (q := 108) (v := 0) dX12_codeInto_107 (by decide) ?_
      refine ex_iload (q := 110) (x := x6) dX12_codeInto_108 rfl ?_
      refine ex_callS (q := 113) (M := mX12_codeInto) (hdd := Nat.le_refl _) (st := []) (bc := bc) (bs := bs) dX12_codeInto_110 rfl cl_X12_404 wd_1976 w ?_
      rintro r h11 ⟨x12, rfl, w⟩
      show ex_G mX12_codeInto (d + 2) 113 [.ref a_0, .int v_1, .ref a_2, .int v_3, .int v_4, .int v_5, .int v_6, .int v_7, .int v_8, .int v_9, .int x6, .retAddr 0] [.int x12] h11 bc bs Q
      refine ex_if_ge (tgt := 146) (q := 116) dX12_codeInto_113 (fun c13 => ?_) (fun c13 => ?_)
      · replace w := w.1 c13
        refine ex_iload (q := 148) (x := x6) dX12_codeInto_146 rfl ?_
        refine ex_istore (q := 150) (ls' := [.ref a_0, .int v_1, .ref a_2, .int v_3, .int v_4, .int v_5, .int v_6, .int x6, .int v_8, .int v_9, .int x6, .retAddr 0]) dX12_codeInto_148 rfl ?_
        obtain ⟨x14, ex14⟩ : ∃ y : Int32, y = v_9 + 2 := ⟨_, rfl⟩
        replace w := w x14 ex14
        refine ex_iinc (q := 153) (x := v_9) (v := x14) (ls' := [.ref a_0, .int v_1, .ref a_2, .int v_3, .int v_4, .int v_5, .int v_6, .int x6, .int v_8, .int x14, .int x6, .retAddr 0]) dX12_codeInto_150 rfl (by rw [ex14]; rfl) rfl ?_
        refine ex_goto (tgt := 72) dX12_codeInto_153 ?_
        refine ex_kill 10 (ls' := [.ref a_0, .int v_1, .ref a_2, .int v_3, .int v_4, .int v_5, .int v_6, .int x6, .int v_8, .int x14, .retAddr 0, .retAddr 0]) rfl ?_
        exact w
      · replace w := w.2 c13
        refine ex_iconst (q := 117) (v := 0) dX12_codeInto_116 (by decide) ?_
        refine ex_istore (q := 119) (ls' := [.ref a_0, .int v_1, .ref a_2, .int v_3, .int v_4, .int v_5, .int v_6, .int v_7, .int v_8, .int v_9, .int x6, .int 0]) dX12_codeInto_117 rfl ?_
        refine ex_kill 7 (ls' := [.ref a_0, .int v_1, .ref a_2, .int v_3, .int v_4, .int v_5, .int v_6, .retAddr 0, .int v_8, .int v_9, .int x6, .int 0]) rfl ?_
        exact w

set_option maxRecDepth 100000 in
theorem X12_codeInto_119 {d bc bs : Nat} {h : AH} {Q : Option Value → AH → Prop} {a_0 : Nat} {v_1 : Int32} {a_2 : Nat} {v_3 : Int32} {v_4 : Int32} {v_5 : Int32} {v_6 : Int32} {v_8 : Int32} {v_9 : Int32} {v_10 : Int32} {v_11 : Int32} (w : ((v_10 ≤ v_11 → ∀ x2, x2 = v_9 + 2 → ex_G mX12_codeInto (d + 2) 72 [.ref a_0, .int v_1, .ref a_2, .int v_3, .int v_4, .int v_5, .int v_6, .int v_10, .int v_8, .int x2, .retAddr 0, .retAddr 0] [] h bc bs Q) ∧ (¬ v_10 ≤ v_11 → ah_o h a_0 12 ∧ ∃ a4, ah_r h a_0 43 = some a4 ∧ ∃ a5, ah_r h a_0 42 = some a5 ∧ ld0 h a5 v_11 ∧ st0 h a4 v_11 ∧ ∀ h7, h7 = ah_si h a4 (Int32.toNatClampNeg v_11) (ah_i h a5 (Int32.toNatClampNeg v_11)) → ∀ x9, x9 = v_11 + 1 → ex_G mX12_codeInto (d + 2) 119 [.ref a_0, .int v_1, .ref a_2, .int v_3, .int v_4, .int v_5, .int v_6, .retAddr 0, .int v_8, .int v_9, .int v_10, .int x9] [] h7 bc bs Q))) : ex_G mX12_codeInto (d + 2) 119 [.ref a_0, .int v_1, .ref a_2, .int v_3, .int v_4, .int v_5, .int v_6, .retAddr 0, .int v_8, .int v_9, .int v_10, .int v_11] [] h bc bs Q := by
  refine ex_iload (q := 121) (x := v_11) dX12_codeInto_119 rfl ?_
  refine ex_iload (q := 123) (x := v_10) dX12_codeInto_121 rfl ?_
  refine ex_icmp_ge (tgt := 146) (q := 126) dX12_codeInto_123 (fun c1 => ?_) (fun c1 => ?_)
  · replace w := w.1 c1
    refine ex_iload (q := 148) (x := v_10) dX12_codeInto_146 rfl ?_
    refine ex_istore (q := 150) (ls' := [.ref a_0, .int v_1, .ref a_2, .int v_3, .int v_4, .int v_5, .int v_6, .int v_10, .int v_8, .int v_9, .int v_10, .int v_11]) dX12_codeInto_148 rfl ?_
    obtain ⟨x2, ex2⟩ : ∃ y : Int32, y = v_9 + 2 := ⟨_, rfl⟩
    replace w := w x2 ex2
    refine ex_iinc (q := 153) (x := v_9) (v := x2) (ls' := [.ref a_0, .int v_1, .ref a_2, .int v_3, .int v_4, .int v_5, .int v_6, .int v_10, .int v_8, .int x2, .int v_10, .int v_11]) dX12_codeInto_150 rfl (by rw [ex2]; rfl) rfl ?_
    refine ex_goto (tgt := 72) dX12_codeInto_153 ?_
    refine ex_kill 10 (ls' := [.ref a_0, .int v_1, .ref a_2, .int v_3, .int v_4, .int v_5, .int v_6, .int v_10, .int v_8, .int x2, .retAddr 0, .int v_11]) rfl ?_
    refine ex_kill 11 (ls' := [.ref a_0, .int v_1, .ref a_2, .int v_3, .int v_4, .int v_5, .int v_6, .int v_10, .int v_8, .int x2, .retAddr 0, .retAddr 0]) rfl ?_
    exact w
  · replace w := w.2 c1
    refine ex_aload_n (q := 127) (x := a_0) dX12_codeInto_126 rfl ?_
    have s3 := w.1
    replace w := w.2
    obtain ⟨a4, ea4, w⟩ := w
    refine ex_getr (q := 130) dX12_codeInto_127 fl_X12_122 s3 ea4 ?_
    refine ex_iload (q := 132) (x := v_11) dX12_codeInto_130 rfl ?_
    refine ex_aload_n (q := 133) (x := a_0) dX12_codeInto_132 rfl ?_
    obtain ⟨a5, ea5, w⟩ := w
    refine ex_getr (q := 136) dX12_codeInto_133 fl_X12_119 s3 ea5 ?_
    refine ex_iload (q := 138) (x := v_11) dX12_codeInto_136 rfl ?_
    have s6 := w.1
    replace w := w.2
    refine ex_iald (q := 139) dX12_codeInto_138 s6 ?_
    have s8 := w.1
    replace w := w.2
    refine ex_iast (q := 140) dX12_codeInto_139 s8 ?_
    refine ex_nmh (fun h7 eh7 => ?_)
    replace w := w h7 eh7
    obtain ⟨x9, ex9⟩ : ∃ y : Int32, y = v_11 + 1 := ⟨_, rfl⟩
    replace w := w x9 ex9
    refine ex_iinc (q := 143) (x := v_11) (v := x9) (ls' := [.ref a_0, .int v_1, .ref a_2, .int v_3, .int v_4, .int v_5, .int v_6, .retAddr 0, .int v_8, .int v_9, .int v_10, .int x9]) dX12_codeInto_140 rfl (by rw [ex9]; rfl) rfl ?_
    refine ex_goto (tgt := 119) dX12_codeInto_143 ?_
    exact w

set_option maxRecDepth 100000 in
theorem X12_codeInto_177 {d bc bs : Nat} {h : AH} {Q : Option Value → AH → Prop} {a_0 : Nat} {v_1 : Int32} {a_2 : Nat} {v_3 : Int32} {v_4 : Int32} {v_5 : Int32} {v_6 : Int32} {v_7 : Int32} {v_8 : Int32} (w : ((v_7 ≤ v_8 → ∀ x2, x2 = v_5 + v_7 → ah_o h a_0 12 ∧ ∃ a4, ah_r h a_0 44 = some a4 ∧ st0 h a4 v_4 ∧ ∀ h5, h5 = ah_si h a4 (Int32.toNatClampNeg v_4) x2 → ∀ x7, x7 = v_6 + 1 → ex_G mX12_codeInto (d + 2) 16 [.ref a_0, .int v_1, .ref a_2, .int v_3, .int v_4, .int x2, .int x7, .retAddr 0, .retAddr 0, .retAddr 0, .retAddr 0, .retAddr 0] [] h5 bc bs Q) ∧ (¬ v_7 ≤ v_8 → ah_o h a_0 12 ∧ ∃ a9, ah_r h a_0 45 = some a9 ∧ ∃ a10, ah_r h a_0 43 = some a10 ∧ ld0 h a10 v_8 ∧ st0 h a9 (v_5 + v_8) ∧ ∀ h12, h12 = ah_si h a9 (Int32.toNatClampNeg (v_5 + v_8)) (ah_i h a10 (Int32.toNatClampNeg v_8)) → ∀ x14, x14 = v_8 + 1 → ex_G mX12_codeInto (d + 2) 177 [.ref a_0, .int v_1, .ref a_2, .int v_3, .int v_4, .int v_5, .int v_6, .int v_7, .int x14, .retAddr 0, .retAddr 0, .retAddr 0] [] h12 bc bs Q))) : ex_G mX12_codeInto (d + 2) 177 [.ref a_0, .int v_1, .ref a_2, .int v_3, .int v_4, .int v_5, .int v_6, .int v_7, .int v_8, .retAddr 0, .retAddr 0, .retAddr 0] [] h bc bs Q := by
  refine ex_iload (q := 179) (x := v_8) dX12_codeInto_177 rfl ?_
  refine ex_iload (q := 181) (x := v_7) dX12_codeInto_179 rfl ?_
  refine ex_icmp_ge (tgt := 207) (q := 184) dX12_codeInto_181 (fun c1 => ?_) (fun c1 => ?_)
  · replace w := w.1 c1
    refine ex_iload (q := 209) (x := v_5) dX12_codeInto_207 rfl ?_
    refine ex_iload (q := 211) (x := v_7) dX12_codeInto_209 rfl ?_
    refine ex_iadd (q := 212) dX12_codeInto_211 ?_
    refine ex_nmi (fun x2 ex2 => ?_)
    replace w := w x2 ex2
    refine ex_istore (q := 214) (ls' := [.ref a_0, .int v_1, .ref a_2, .int v_3, .int v_4, .int x2, .int v_6, .int v_7, .int v_8, .retAddr 0, .retAddr 0, .retAddr 0]) dX12_codeInto_212 rfl ?_
    refine ex_aload_n (q := 215) (x := a_0) dX12_codeInto_214 rfl ?_
    have s3 := w.1
    replace w := w.2
    obtain ⟨a4, ea4, w⟩ := w
    refine ex_getr (q := 218) dX12_codeInto_215 fl_X12_125 s3 ea4 ?_
    refine ex_iload (q := 220) (x := v_4) dX12_codeInto_218 rfl ?_
    refine ex_iload (q := 222) (x := x2) dX12_codeInto_220 rfl ?_
    have s6 := w.1
    replace w := w.2
    refine ex_iast (q := 223) dX12_codeInto_222 s6 ?_
    refine ex_nmh (fun h5 eh5 => ?_)
    replace w := w h5 eh5
    obtain ⟨x7, ex7⟩ : ∃ y : Int32, y = v_6 + 1 := ⟨_, rfl⟩
    replace w := w x7 ex7
    refine ex_iinc (q := 226) (x := v_6) (v := x7) (ls' := [.ref a_0, .int v_1, .ref a_2, .int v_3, .int v_4, .int x2, .int x7, .int v_7, .int v_8, .retAddr 0, .retAddr 0, .retAddr 0]) dX12_codeInto_223 rfl (by rw [ex7]; rfl) rfl ?_
    refine ex_goto (tgt := 16) dX12_codeInto_226 ?_
    refine ex_kill 7 (ls' := [.ref a_0, .int v_1, .ref a_2, .int v_3, .int v_4, .int x2, .int x7, .retAddr 0, .int v_8, .retAddr 0, .retAddr 0, .retAddr 0]) rfl ?_
    refine ex_kill 8 (ls' := [.ref a_0, .int v_1, .ref a_2, .int v_3, .int v_4, .int x2, .int x7, .retAddr 0, .retAddr 0, .retAddr 0, .retAddr 0, .retAddr 0]) rfl ?_
    exact w
  · replace w := w.2 c1
    refine ex_aload_n (q := 185) (x := a_0) dX12_codeInto_184 rfl ?_
    have s8 := w.1
    replace w := w.2
    obtain ⟨a9, ea9, w⟩ := w
    refine ex_getr (q := 188) dX12_codeInto_185 fl_X12_128 s8 ea9 ?_
    refine ex_iload (q := 190) (x := v_5) dX12_codeInto_188 rfl ?_
    refine ex_iload (q := 192) (x := v_8) dX12_codeInto_190 rfl ?_
    refine ex_iadd (q := 193) dX12_codeInto_192 ?_
    refine ex_aload_n (q := 194) (x := a_0) dX12_codeInto_193 rfl ?_
    obtain ⟨a10, ea10, w⟩ := w
    refine ex_getr (q := 197) dX12_codeInto_194 fl_X12_122 s8 ea10 ?_
    refine ex_iload (q := 199) (x := v_8) dX12_codeInto_197 rfl ?_
    have s11 := w.1
    replace w := w.2
    refine ex_iald (q := 200) dX12_codeInto_199 s11 ?_
    have s13 := w.1
    replace w := w.2
    refine ex_iast (q := 201) dX12_codeInto_200 s13 ?_
    refine ex_nmh (fun h12 eh12 => ?_)
    replace w := w h12 eh12
    obtain ⟨x14, ex14⟩ : ∃ y : Int32, y = v_8 + 1 := ⟨_, rfl⟩
    replace w := w x14 ex14
    refine ex_iinc (q := 204) (x := v_8) (v := x14) (ls' := [.ref a_0, .int v_1, .ref a_2, .int v_3, .int v_4, .int v_5, .int v_6, .int v_7, .int x14, .retAddr 0, .retAddr 0, .retAddr 0]) dX12_codeInto_201 rfl (by rw [ex14]; rfl) rfl ?_
    refine ex_goto (tgt := 177) dX12_codeInto_204 ?_
    exact w

theorem X12_codeInto_e {d bc bs : Nat} {h : AH} {Q : Option Value → AH → Prop} {a_0 : Nat} {v_1 : Int32} {a_2 : Nat} {v_3 : Int32} (w : ex_G mX12_codeInto (d + 2) 0 [.ref a_0, .int v_1, .ref a_2, .int v_3, .retAddr 0, .retAddr 0, .retAddr 0, .retAddr 0, .retAddr 0, .retAddr 0, .retAddr 0, .retAddr 0] [] h bc bs Q) : ex_S yX12_codeInto mX12_codeInto (d + 2) [.ref a_0, .int v_1, .ref a_2, .int v_3] h bc bs Q :=
  ex_enter (plainFor_of_name (by decide +kernel)) ⟨rfl, rfl⟩ rfl rfl (Nat.le_of_ble_eq_true rfl) (ex_pad 8 w)

set_option maxRecDepth 100000 in
theorem X12_sortInto_0 {d bc bs : Nat} {h : AH} {Q : Option Value → AH → Prop} {a_0 : Nat} {v_1 : Int32} {a_2 : Nat} {v_3 : Int32} {v_4 : Int32} (w : ah_o h a_0 12 ∧ ∃ a2, ah_r h a_0 3 = some a2 ∧ ld0 h a2 v_4 ∧ st0 h a_2 v_3 ∧ ∀ h4, h4 = ah_si h a_2 (Int32.toNatClampNeg v_3) (ah_i h a2 (Int32.toNatClampNeg v_4)) → ∃ a6, ah_r h4 a_0 2 = some a6 ∧ ld0 h4 a6 v_4 ∧ st0 h4 a_2 (v_3 + 1) ∧ ∀ h8, h8 = ah_si h4 a_2 (Int32.toNatClampNeg (v_3 + 1)) (ah_i h4 a6 (Int32.toNatClampNeg v_4)) → ∀ x10, x10 = v_3 + 2 → ex_G mX12_sortInto (d + 1) 30 [.ref a_0, .int v_1, .ref a_2, .retAddr 0, .retAddr 0, .int x10, .int 0, .retAddr 0, .retAddr 0] [] h8 bc bs Q) : ex_G mX12_sortInto (d + 1) 0 [.ref a_0, .int v_1, .ref a_2, .int v_3, .int v_4, .retAddr 0, .retAddr 0, .retAddr 0, .retAddr 0] [] h bc bs Q := by
  refine ex_aload_n (q := 1) (x := a_2) dX12_sortInto_0 rfl ?_
  refine ex_iload_n (q := 2) (x := v_3) dX12_sortInto_1 rfl ?_
  refine ex_aload_n (q := 3) (x := a_0) dX12_sortInto_2 rfl ?_
  have s1 := w.1
  replace w := w.2
  obtain ⟨a2, ea2, w⟩ := w
  refine ex_getr (q := 6) dX12_sortInto_3 fl_X12_16 s1 ea2 ?_
  refine ex_iload (q := 8) (x := v_4) dX12_sortInto_6 rfl ?_
  have s3 := w.1
  replace w := w.2
  refine ex_iald (q := 9) dX12_sortInto_8 s3 ?_
  have s5 := w.1
  replace w := w.2
  refine ex_iast (q := 10) dX12_sortInto_9 s5 ?_
  refine ex_nmh (fun h4 eh4 => ?_)
  replace w := w h4 eh4
  refine ex_aload_n (q := 11) (x := a_2) dX12_sortInto_10 rfl ?_
  refine ex_iload_n (q := 12) (x := v_3) dX12_sortInto_11 rfl ?_
  refine ex_iconst (q := 13) (v := 1) dX12_sortInto_12 (by decide) ?_
  refine ex_iadd (q := 14) dX12_sortInto_13 ?_
  refine ex_aload_n (q := 15) (x := a_0) dX12_sortInto_14 rfl ?_
  obtain ⟨a6, ea6, w⟩ := w
  refine ex_getr (q := 18) dX12_sortInto_15 fl_X12_13 (by rw [eh4]; exact s1) ea6 ?_
  refine ex_iload (q := 20) (x := v_4) dX12_sortInto_18 rfl ?_
  have s7 := w.1
  replace w := w.2
  refine ex_iald (q := 21) dX12_sortInto_20 s7 ?_
  have s9 := w.1
  replace w := w.2
  refine ex_iast (q := 22) dX12_sortInto_21 s9 ?_
  refine ex_nmh (fun h8 eh8 => ?_)
  replace w := w h8 eh8
  refine ex_iload_n (q := 23) (x := v_3) dX12_sortInto_22 rfl ?_
  refine ex_iconst (q := 24) (v := 2) dX12_sortInto_23 (by decide) ?_
  refine ex_iadd (q := 25) dX12_sortInto_24 ?_
  refine ex_nmi (fun x10 ex10 => ?_)
  replace w := w x10 ex10
  refine ex_istore (q := 27) (ls' := [.ref a_0, .int v_1, .ref a_2, .int v_3, .int v_4, .int x10, .retAddr 0, .retAddr 0, .retAddr 0]) dX12_sortInto_25 rfl ?_
  refine ex_iconst (q := 28) (v := 0) dX12_sortInto_27 (by decide) ?_
  refine ex_istore (q := 30) (ls' := [.ref a_0, .int v_1, .ref a_2, .int v_3, .int v_4, .int x10, .int 0, .retAddr 0, .retAddr 0]) dX12_sortInto_28 rfl ?_
  refine ex_kill 3 (ls' := [.ref a_0, .int v_1, .ref a_2, .retAddr 0, .int v_4, .int x10, .int 0, .retAddr 0, .retAddr 0]) rfl ?_
  refine ex_kill 4 (ls' := [.ref a_0, .int v_1, .ref a_2, .retAddr 0, .retAddr 0, .int x10, .int 0, .retAddr 0, .retAddr 0]) rfl ?_
  exact w

set_option maxRecDepth 100000 in
theorem X12_sortInto_30 {d bc bs : Nat} {h : AH} {Q : Option Value → AH → Prop} {a_0 : Nat} {v_1 : Int32} {a_2 : Nat} {v_5 : Int32} {v_6 : Int32} (w : ((v_1 ≤ v_6 → ex_G mX12_sortInto (d + 1) 53 [.ref a_0, .int v_1, .ref a_2, .retAddr 0, .retAddr 0, .int v_5, .int 0, .retAddr 0, .retAddr 0] [] h bc bs Q) ∧ (¬ v_1 ≤ v_6 → ah_o h a_0 12 ∧ ∃ a3, ah_r h a_0 46 = some a3 ∧ ld1 h a3 v_6 ∧ ∀ h4, h4 = ah_si h a3 (Int32.toNatClampNeg v_6) 0 → ∀ x6, x6 = v_6 + 1 → ex_G mX12_sortInto (d + 1) 30 [.ref a_0, .int v_1, .ref a_2, .retAddr 0, .retAddr 0, .int v_5, .int x6, .retAddr 0, .retAddr 0] [] h4 bc bs Q))) : ex_G mX12_sortInto (d + 1) 30 [.ref a_0, .int v_1, .ref a_2, .retAddr 0, .retAddr 0, .int v_5, .int v_6, .retAddr 0, .retAddr 0] [] h bc bs Q := by
  refine ex_iload (q := 32) (x := v_6) dX12_sortInto_30 rfl ?_
  refine ex_iload_n (q := 33) (x := v_1) dX12_sortInto_32 rfl ?_
  refine ex_icmp_ge (tgt := 50) (q := 36) dX12_sortInto_33 (fun c1 => ?_) (fun c1 => ?_)
  · replace w := w.1 c1
    refine ex_iconst (q := 51) (v := 0) dX12_sortInto_50 (by decide) ?_
    refine ex_istore (q := 53) (ls' := [.ref a_0, .int v_1, .ref a_2, .retAddr 0, .retAddr 0, .int v_5, .int 0, .retAddr 0, .retAddr 0]) dX12_sortInto_51 rfl ?_
    exact w
  · replace w := w.2 c1
    refine ex_aload_n (q := 37) (x := a_0) dX12_sortInto_36 rfl ?_
    have s2 := w.1
    replace w := w.2
    obtain ⟨a3, ea3, w⟩ := w
    refine ex_getr (q := 40) dX12_sortInto_37 fl_X12_131 s2 ea3 ?_
    refine ex_iload (q := 42) (x := v_6) dX12_sortInto_40 rfl ?_
    refine ex_iconst (q := 43) (v := 0) dX12_sortInto_42 (by decide) ?_
    have s5 := w.1
    replace w := w.2
    refine ex_bast (q := 44) dX12_sortInto_43 s5 (Or.inl rfl) ?_
    refine ex_nmh (fun h4 eh4 => ?_)
    replace w := w h4 eh4
    obtain ⟨x6, ex6⟩ : ∃ y : Int32, y = v_6 + 1 := ⟨_, rfl⟩
    replace w := w x6 ex6
    refine ex_iinc (q := 47) (x := v_6) (v := x6) (ls' := [.ref a_0, .int v_1, .ref a_2, .retAddr 0, .retAddr 0, .int v_5, .int x6, .retAddr 0, .retAddr 0]) dX12_sortInto_44 rfl (by rw [ex6]; rfl) rfl ?_
    refine ex_goto (tgt := 30) dX12_sortInto_47 ?_
    exact w

set_option maxRecDepth 100000 in
theorem X12_sortInto_53 {d bc bs : Nat} {h : AH} {Q : Option Value → AH → Prop} {a_0 : Nat} {v_1 : Int32} {a_2 : Nat} {v_5 : Int32} {v_6 : Int32} (w : ((v_1 ≤ v_6 → st0 h a_2 v_5 ∧ ∀ h2, h2 = ah_si h a_2 (Int32.toNatClampNeg v_5) (-999) → Q none h2) ∧ (¬ v_1 ≤ v_6 → ex_G mX12_sortInto (d + 1) 65 [.ref a_0, .int v_1, .ref a_2, .retAddr 0, .retAddr 0, .int v_5, .int v_6, .int (-1), .int 0] [] h bc bs Q))) : ex_G mX12_sortInto (d + 1) 53 [.ref a_0, .int v_1, .ref a_2, .retAddr 0, .retAddr 0, .int v_5, .int v_6, .retAddr 0, .retAddr 0] [] h bc bs Q := by
  refine ex_iload (q := 55) (x := v_6) dX12_sortInto_53 rfl ?_
  refine ex_iload_n (q := 56) (x := v_1) dX12_sortInto_55 rfl ?_
  refine ex_icmp_ge (tgt := 241) (q := 59) dX12_sortInto_56 (fun c1 => ?_) (fun c1 => ?_)
  · replace w := w.1 c1
    refine ex_aload_n (q := 242) (x := a_2) dX12_sortInto_241 rfl ?_
    refine ex_iload (q := 244) (x := v_5) dX12_sortInto_242 rfl ?_
    refine ex_sipush (q := 247) (v := (-999)) dX12_sortInto_244 (by decide) ?_
    have s3 := w.1
    replace w := w.2
    refine ex_iast (q := 248) dX12_sortInto_247 s3 ?_
    refine ex_nmh (fun h2 eh2 => ?_)
    replace w := w h2 eh2
    exact ex_return dX12_sortInto_248 w
  · replace w := w.2 c1
    refine ex_iconst (q := 60) (v := (-1)) dX12_sortInto_59 (by decide) ?_
    refine ex_istore (q := 62) (ls' := [.ref a_0, .int v_1, .ref a_2, .retAddr 0, .retAddr 0, .int v_5, .int v_6, .int (-1), .retAddr 0]) dX12_sortInto_60 rfl ?_
    refine ex_iconst (q := 63) (v := 0) dX12_sortInto_62 (by decide) ?_
    refine ex_istore (q := 65) (ls' := [.ref a_0, .int v_1, .ref a_2, .retAddr 0, .retAddr 0, .int v_5, .int v_6, .int (-1), .int 0]) dX12_sortInto_63 rfl ?_
    exact w

set_option maxRecDepth 100000 in
theorem X12_sortInto_65 {d bc bs : Nat} {h : AH} {Q : Option Value → AH → Prop} {a_0 : Nat} {v_1 : Int32} {a_2 : Nat} {v_5 : Int32} {v_6 : Int32} {v_7 : Int32} {v_8 : Int32} (w : ((v_1 ≤ v_8 → ah_o h a_0 12 ∧ ∃ a3, ah_r h a_0 46 = some a3 ∧ ld1 h a3 v_7 ∧ ∀ h4, h4 = ah_si h a3 (Int32.toNatClampNeg v_7) 1 → ∃ a6, ah_r h4 a_0 44 = some a6 ∧ ld0 h4 a6 (v_7 + 1) ∧ ld0 h4 a6 v_7 ∧ st0 h4 a_2 v_5 ∧ ∀ h9, h9 = ah_si h4 a_2 (Int32.toNatClampNeg v_5) (-((ah_i h4 a6 (Int32.toNatClampNeg (v_7 + 1))) - (ah_i h4 a6 (Int32.toNatClampNeg v_7)))) → ∀ x11, x11 = v_5 + 1 → ∀ x12, x12 = ah_i h9 a6 (Int32.toNatClampNeg v_7) → ex_G mX12_sortInto (d + 1) 201 [.ref a_0, .int v_1, .ref a_2, .retAddr 0, .retAddr 0, .int x11, .int v_6, .int v_7, .int x12] [] h9 bc bs Q) ∧ (¬ v_1 ≤ v_8 → ah_o h a_0 12 ∧ ∃ a14, ah_r h a_0 46 = some a14 ∧ ld1 h a14 v_8 ∧ ((¬ (ah_i h a14 (Int32.toNatClampNeg v_8)) = 0 → ∀ x17, x17 = v_8 + 1 → ex_G mX12_sortInto (d + 1) 65 [.ref a_0, .int v_1, .ref a_2, .retAddr 0, .retAddr 0, .int v_5, .int v_6, .int v_7, .int x17] [] h bc bs Q) ∧ ((ah_i h a14 (Int32.toNatClampNeg v_8)) = 0 → ((v_7 = (-1) → ∀ x19, x19 = v_8 + 1 → ex_G mX12_sortInto (d + 1) 65 [.ref a_0, .int v_1, .ref a_2, .retAddr 0, .retAddr 0, .int v_5, .int v_6, .int v_8, .int x19] [] h bc bs Q) ∧ (¬ v_7 = (-1) → ∃ a20, ah_r h a_0 45 = some a20 ∧ ∃ a21, ah_r h a_0 44 = some a21 ∧ ld0 h a21 v_8 ∧ ld0 h a21 (v_8 + 1) ∧ ld0 h a21 v_7 ∧ ld0 h a21 (v_7 + 1) ∧ ex_S yX12_compare mX12_compare d [.ref a20, .int (ah_i h a21 (Int32.toNatClampNeg v_8)), .int ((ah_i h a21 (Int32.toNatClampNeg (v_8 + 1))) - (ah_i h a21 (Int32.toNatClampNeg v_8))), .ref a20, .int (ah_i h a21 (Int32.toNatClampNeg v_7)), .int ((ah_i h a21 (Int32.toNatClampNeg (v_7 + 1))) - (ah_i h a21 (Int32.toNatClampNeg v_7)))] h 0 0 (fun r h26 => ∃ x27, r = some (.int x27) ∧ ((0 ≤ x27 → ∀ x29, x29 = v_8 + 1 → ex_G mX12_sortInto (d + 1) 65 [.ref a_0, .int v_1, .ref a_2, .retAddr 0, .retAddr 0, .int v_5, .int v_6, .int v_7, .int x29] [] h26 bc bs Q) ∧ (¬ 0 ≤ x27 → ∀ x30, x30 = v_8 + 1 → ex_G mX12_sortInto (d + 1) 65 [.ref a_0, .int v_1, .ref a_2, .retAddr 0, .retAddr 0, .int v_5, .int v_6, .int v_8, .int x30] [] h26 bc bs Q)))))))))) : ex_G mX12_sortInto (d + 1) 65 [.ref a_0, .int v_1, .ref a_2, .retAddr 0, .retAddr 0, .int v_5, .int v_6, .int v_7, .int v_8] [] h bc bs Q := by
  refine ex_iload (q := 67) (x := v_8) dX12_sortInto_65 rfl ?_
  refine ex_iload_n (q := 68) (x := v_1) dX12_sortInto_67 rfl ?_
  refine ex_icmp_ge (tgt := 159) (q := 71) dX12_sortInto_68 (fun c1 => ?_) (fun c1 => ?_)
  · replace w := w.1 c1
    refine ex_aload_n (q := 160) (x := a_0) dX12_sortInto_159 rfl ?_
    have s2 := w.1
    replace w := w.2
    obtain ⟨a3, ea3, w⟩ := w
    refine ex_getr (q := 163) dX12_sortInto_160 fl_X12_131 s2 ea3 ?_
    refine ex_iload (q := 165) (x := v_7) dX12_sortInto_163 rfl ?_
    refine ex_iconst (q := 166) (v := 1) dX12_sortInto_165 (by decide) ?_
    have s5 := w.1
    replace w := w.2
    refine ex_bast (q := 167) dX12_sortInto_166 s5 (Or.inr rfl) ?_
    refine ex_nmh (fun h4 eh4 => ?_)
    replace w := w h4 eh4
    refine ex_aload_n (q := 168) (x := a_2) dX12_sortInto_167 rfl ?_
    refine ex_iload (q := 170) (x := v_5) dX12_sortInto_168 rfl ?_
    refine ex_aload_n (q := 171) (x := a_0) dX12_sortInto_170 rfl ?_
    obtain ⟨a6, ea6, w⟩ := w
    refine ex_getr (q := 174) dX12_sortInto_171 fl_X12_125 (by rw [eh4]; exact s2) ea6 ?_
    refine ex_iload (q := 176) (x := v_7) dX12_sortInto_174 rfl ?_
    refine ex_iconst (q := 177) (v := 1) dX12_sortInto_176 (by decide) ?_
    refine ex_iadd (q := 178) dX12_sortInto_177 ?_
    have s7 := w.1
    replace w := w.2
    refine ex_iald (q := 179) dX12_sortInto_178 s7 ?_
    refine ex_aload_n (q := 180) (x := a_0) dX12_sortInto_179 rfl ?_
    refine ex_getr (q := 183) dX12_sortInto_180 fl_X12_125 (by rw [eh4]; exact s2) ea6 ?_
    refine ex_iload (q := 185) (x := v_7) dX12_sortInto_183 rfl ?_
    have s8 := w.1
    replace w := w.2
    refine ex_iald (q := 186) dX12_sortInto_185 s8 ?_
    refine ex_isub (q := 187) dX12_sortInto_186 ?_
    refine ex_ineg (q := 188) dX12_sortInto_187 ?_
    have s10 := w.1
    replace w := w.2
    refine ex_iast (q := 189) dX12_sortInto_188 s10 ?_
    refine ex_nmh (fun h9 eh9 => ?_)
    replace w := w h9 eh9
    obtain ⟨x11, ex11⟩ : ∃ y : Int32, y = v_5 + 1 := ⟨_, rfl⟩
    replace w := w x11 ex11
    refine ex_iinc (q := 192) (x := v_5) (v := x11) (ls' := [.ref a_0, .int v_1, .ref a_2, .retAddr 0, .retAddr 0, .int x11, .int v_6, .int v_7, .int v_8]) dX12_sortInto_189 rfl (by rw [ex11]; rfl) rfl ?_
    refine ex_aload_n (q := 193) (x := a_0) dX12_sortInto_192 rfl ?_
    refine ex_getr (q := 196) dX12_sortInto_193 fl_X12_125 (by rw [eh9]; exact (by rw [eh4]; exact s2)) (by rw [eh9]; exact ea6) ?_
    refine ex_iload (q := 198) (x := v_7) dX12_sortInto_196 rfl ?_
    refine ex_iald (q := 199) dX12_sortInto_198 (by rw [eh9]; exact s8) ?_
    refine ex_nmi (fun x12 ex12 => ?_)
    replace w := w x12 ex12
    refine ex_istore (q := 201) (ls' := [.ref a_0, .int v_1, .ref a_2, .retAddr 0, .retAddr 0, .int x11, .int v_6, .int v_7, .int x12]) dX12_sortInto_199 rfl ?_
    exact w
  · replace w := w.2 c1
    refine ex_aload_n (q := 72) (x := a_0) dX12_sortInto_71 rfl ?_
    have s13 := w.1
    replace w := w.2
    obtain ⟨a14, ea14, w⟩ := w
    refine ex_getr (q := 75) dX12_sortInto_72 fl_X12_131 s13 ea14 ?_
    refine ex_iload (q := 77) (x := v_8) dX12_sortInto_75 rfl ?_
    have s15 := w.1
    replace w := w.2
    refine ex_bald (q := 78) dX12_sortInto_77 s15 ?_
    refine ex_if_ne (tgt := 153) (q := 81) dX12_sortInto_78 (fun c16 => ?_) (fun c16 => ?_)
    · replace w := w.1 c16
      obtain ⟨x17, ex17⟩ : ∃ y : Int32, y = v_8 + 1 := ⟨_, rfl⟩
      replace w := w x17 ex17
      refine ex_iinc (q := 156) (x := v_8) (v := x17) (ls' := [.ref a_0, .int v_1, .ref a_2, .retAddr 0, .retAddr 0, .int v_5, .int v_6, .int v_7, .int x17]) dX12_sortInto_153 rfl (by rw [ex17]; rfl) rfl ?_
      refine ex_goto (tgt := 65) dX12_sortInto_156 ?_
      exact w
    · replace w := w.2 c16
      refine ex_iload (q := 83) (x := v_7) dX12_sortInto_81 rfl ?_
      refine ex_iconst (q := 84) (v := (-1)) dX12_sortInto_83 (by decide) ?_
      refine ex_icmp_eq (tgt := 149) (q := 87) dX12_sortInto_84 (fun c18 => ?_) (fun c18 => ?_)
      · replace w := w.1 c18
        refine ex_iload (q := 151) (x := v_8) dX12_sortInto_149 rfl ?_
        refine ex_istore (q := 153) (ls' := [.ref a_0, .int v_1, .ref a_2, .retAddr 0, .retAddr 0, .int v_5, .int v_6, .int v_8, .int v_8]) dX12_sortInto_151 rfl ?_
        obtain ⟨x19, ex19⟩ : ∃ y : Int32, y = v_8 + 1 := ⟨_, rfl⟩
        replace w := w x19 ex19
        refine ex_iinc (q := 156) (x := v_8) (v := x19) (ls' := [.ref a_0, .int v_1, .ref a_2, .retAddr 0, .retAddr 0, .int v_5, .int v_6, .int v_8, .int x19]) dX12_sortInto_153 rfl (by rw [ex19]; rfl) rfl ?_
        refine ex_goto (tgt := 65) dX12_sortInto_156 ?_
        exact w
      · replace w := w.2 c18
        refine ex_aload_n (q := 88) (x := a_0) dX12_sortInto_87 rfl ?_
        obtain ⟨a20, ea20, w⟩ := w
        refine ex_getr (q := 91) dX12_sortInto_88 fl_X12_128 s13 ea20 ?_
        refine ex_aload_n (q := 92) (x := a_0) dX12_sortInto_91 rfl ?_
        obtain ⟨a21, ea21, w⟩ := w
        refine ex_getr (q := 95) dX12_sortInto_92 fl_X12_125 s13 ea21 ?_
        refine ex_iload (q := 97) (x := v_8) dX12_sortInto_95 rfl ?_
        have s22 := w.1
        replace w := w.2
        refine ex_iald (q := 98) dX12_sortInto_97 s22 ?_
        refine ex_aload_n (q := 99) (x := a_0) dX12_sortInto_98 rfl ?_
        refine ex_getr (q := 102) dX12_sortInto_99 fl_X12_125 s13 ea21 ?_
        refine ex_iload (q := 104) (x := v_8) dX12_sortInto_102 rfl ?_
        refine ex_iconst (q := 105) (v := 1) dX12_sortInto_104 (by decide) ?_
        refine ex_iadd (q := 106) dX12_sortInto_105 ?_
        have s23 := w.1
        replace w := w.2
        refine ex_iald (q := 107) dX12_sortInto_106 s23 ?_
        refine ex_aload_n (q := 108) (x := a_0) dX12_sortInto_107 rfl ?_
        refine ex_getr (q := 111) dX12_sortInto_108 fl_X12_125 s13 ea21 ?_
        refine ex_iload (q := 113) (x := v_8) dX12_sortInto_111 rfl ?_
        refine ex_iald (q := 114) dX12_sortInto_113 s22 ?_
        refine ex_isub (q := 115) dX12_sortInto_114 ?_
        refine ex_aload_n (q := 116) (x := a_0) dX12_sortInto_115 rfl ?_
        refine ex_getr (q := 119) dX12_sortInto_116 fl_X12_128 s13 ea20 ?_
        refine ex_aload_n (q := 120) (x := a_0) dX12_sortInto_119 rfl ?_
        refine ex_getr (q := 123) dX12_sortInto_120 fl_X12_125 s13 ea21 ?_
        refine ex_iload (q := 125) (x := v_7) dX12_sortInto_123 rfl ?_
        have s24 := w.1
        replace w := w.2
        refine ex_iald (q := 126) dX12_sortInto_125 s24 ?_
        refine ex_aload_n (q := 127) (x := a_0) dX12_sortInto_126 rfl ?_
        refine ex_getr (q := 130) dX12_sortInto_127 fl_X12_125 s13 ea21 ?_
        refine ex_iload (q := 132) (x := v_7) dX12_sortInto_130 rfl ?_
        refine ex_iconst (q := 133) (v := 1) dX12_sortInto_132 (by decide) ?_
        refine ex_iadd (q := 134) dX12_sortInto_133 ?_
        have s25 := w.1
        replace w := w.2
        refine ex_iald (q := 135) dX12_sortInto_134 s25 ?_
        refine ex_aload_n (q := 136) (x := a_0) dX12_sortInto_135 rfl ?_
        refine ex_getr (q := 139) dX12_sortInto_136 fl_X12_125 s13 ea21 ?_
        refine ex_iload (q := 141) (x := v_7) dX12_sortInto_139 rfl ?_
        refine ex_iald (q := 142) dX12_sortInto_141 s24 ?_
        refine ex_isub (q := 143) dX12_sortInto_142 ?_
        refine ex_callS (q := 146) (M := mX12_sortInto) (hdd := Nat.le_refl _) (st := []) (bc := bc) (bs := bs) dX12_sortInto_143 rfl cl_X12_404 wd_1976 w ?_
        rintro r h26 ⟨x27, rfl, w⟩
        show ex_G mX12_sortInto (d + 1) 146 [.ref a_0, .int v_1, .ref a_2, .retAddr 0, .retAddr 0, .int v_5, .int v_6, .int v_7, .int v_8] [.int x27] h26 bc bs Q
        refine ex_if_ge (tgt := 153) (q := 149) dX12_sortInto_146 (fun c28 => ?_) (fun c28 => ?_)
        · replace w := w.1 c28
          obtain ⟨x29, ex29⟩ : ∃ y : Int32, y = v_8 + 1 := ⟨_, rfl⟩
          replace w := w x29 ex29
          refine ex_iinc (q := 156) (x := v_8) (v := x29) (ls' := [.ref a_0, .int v_1, .ref a_2, .retAddr 0, .retAddr 0, .int v_5, .int v_6, .int v_7, .int x29]) dX12_sortInto_153 rfl (by rw [ex29]; rfl) rfl ?_
          refine ex_goto (tgt := 65) dX12_sortInto_156 ?_
          exact w
        · replace w := w.2 c28
          refine ex_iload (q := 151) (x := v_8) dX12_sortInto_149 rfl ?_
          refine ex_istore (q := 153) (ls' := [.ref a_0, .int v_1, .ref a_2, .retAddr 0, .retAddr 0, .int v_5, .int v_6, .int v_8, .int v_8]) dX12_sortInto_151 rfl ?_
          obtain ⟨x30, ex30⟩ : ∃ y : Int32, y = v_8 + 1 := ⟨_, rfl⟩
          replace w := w x30 ex30
          refine ex_iinc (q := 156) (x := v_8) (v := x30) (ls' := [.ref a_0, .int v_1, .ref a_2, .retAddr 0, .retAddr 0, .int v_5, .int v_6, .int v_8, .int x30]) dX12_sortInto_153 rfl (by rw [ex30]; rfl) rfl ?_
          refine ex_goto (tgt := 65) dX12_sortInto_156 ?_
          exact w

set_option maxRecDepth 100000 in
theorem X12_sortInto_201 {d bc bs : Nat} {h : AH} {Q : Option Value → AH → Prop} {a_0 : Nat} {v_1 : Int32} {a_2 : Nat} {v_5 : Int32} {v_6 : Int32} {v_7 : Int32} {v_8 : Int32} (w : ah_o h a_0 12 ∧ ∃ a2, ah_r h a_0 44 = some a2 ∧ ld0 h a2 (v_7 + 1) ∧ (((ah_i h a2 (Int32.toNatClampNeg (v_7 + 1))) ≤ v_8 → ∀ x5, x5 = v_6 + 1 → ex_G mX12_sortInto (d + 1) 53 [.ref a_0, .int v_1, .ref a_2, .retAddr 0, .retAddr 0, .int v_5, .int x5, .retAddr 0, .retAddr 0] [] h bc bs Q) ∧ (¬ (ah_i h a2 (Int32.toNatClampNeg (v_7 + 1))) ≤ v_8 → ∃ a6, ah_r h a_0 45 = some a6 ∧ ld0 h a6 v_8 ∧ st0 h a_2 v_5 ∧ ∀ h8, h8 = ah_si h a_2 (Int32.toNatClampNeg v_5) (ah_i h a6 (Int32.toNatClampNeg v_8)) → ∀ x10, x10 = v_5 + 1 → ∀ x11, x11 = v_8 + 1 → ex_G mX12_sortInto (d + 1) 201 [.ref a_0, .int v_1, .ref a_2, .retAddr 0, .retAddr 0, .int x10, .int v_6, .int v_7, .int x11] [] h8 bc bs Q))) : ex_G mX12_sortInto (d + 1) 201 [.ref a_0, .int v_1, .ref a_2, .retAddr 0, .retAddr 0, .int v_5, .int v_6, .int v_7, .int v_8] [] h bc bs Q := by
  refine ex_iload (q := 203) (x := v_8) dX12_sortInto_201 rfl ?_
  refine ex_aload_n (q := 204) (x := a_0) dX12_sortInto_203 rfl ?_
  have s1 := w.1
  replace w := w.2
  obtain ⟨a2, ea2, w⟩ := w
  refine ex_getr (q := 207) dX12_sortInto_204 fl_X12_125 s1 ea2 ?_
  refine ex_iload (q := 209) (x := v_7) dX12_sortInto_207 rfl ?_
  refine ex_iconst (q := 210) (v := 1) dX12_sortInto_209 (by decide) ?_
  refine ex_iadd (q := 211) dX12_sortInto_210 ?_
  have s3 := w.1
  replace w := w.2
  refine ex_iald (q := 212) dX12_sortInto_211 s3 ?_
  refine ex_icmp_ge (tgt := 235) (q := 215) dX12_sortInto_212 (fun c4 => ?_) (fun c4 => ?_)
  · replace w := w.1 c4
    obtain ⟨x5, ex5⟩ : ∃ y : Int32, y = v_6 + 1 := ⟨_, rfl⟩
    replace w := w x5 ex5
    refine ex_iinc (q := 238) (x := v_6) (v := x5) (ls' := [.ref a_0, .int v_1, .ref a_2, .retAddr 0, .retAddr 0, .int v_5, .int x5, .int v_7, .int v_8]) dX12_sortInto_235 rfl (by rw [ex5]; rfl) rfl ?_
    refine ex_goto (tgt := 53) dX12_sortInto_238 ?_
    refine ex_kill 7 (ls' := [.ref a_0, .int v_1, .ref a_2, .retAddr 0, .retAddr 0, .int v_5, .int x5, .retAddr 0, .int v_8]) rfl ?_
    refine ex_kill 8 (ls' := [.ref a_0, .int v_1, .ref a_2, .retAddr 0, .retAddr 0, .int v_5, .int x5, .retAddr 0, .retAddr 0]) rfl ?_
    exact w
  · replace w := w.2 c4
    refine ex_aload_n (q := 216) (x := a_2) dX12_sortInto_215 rfl ?_
    refine ex_iload (q := 218) (x := v_5) dX12_sortInto_216 rfl ?_
    refine ex_aload_n (q := 219) (x := a_0) dX12_sortInto_218 rfl ?_
    obtain ⟨a6, ea6, w⟩ := w
    refine ex_getr (q := 222) dX12_sortInto_219 fl_X12_128 s1 ea6 ?_
    refine ex_iload (q := 224) (x := v_8) dX12_sortInto_222 rfl ?_
    have s7 := w.1
    replace w := w.2
    refine ex_iald (q := 225) dX12_sortInto_224 s7 ?_
    have s9 := w.1
    replace w := w.2
    refine ex_iast (q := 226) dX12_sortInto_225 s9 ?_
    refine ex_nmh (fun h8 eh8 => ?_)
    replace w := w h8 eh8
    obtain ⟨x10, ex10⟩ : ∃ y : Int32, y = v_5 + 1 := ⟨_, rfl⟩
    replace w := w x10 ex10
    refine ex_iinc (q := 229) (x := v_5) (v := x10) (ls' := [.ref a_0, .int v_1, .ref a_2, .retAddr 0, .retAddr 0, .int x10, .int v_6, .int v_7, .int v_8]) dX12_sortInto_226 rfl (by rw [ex10]; rfl) rfl ?_
    obtain ⟨x11, ex11⟩ : ∃ y : Int32, y = v_8 + 1 := ⟨_, rfl⟩
    replace w := w x11 ex11
    refine ex_iinc (q := 232) (x := v_8) (v := x11) (ls' := [.ref a_0, .int v_1, .ref a_2, .retAddr 0, .retAddr 0, .int x10, .int v_6, .int v_7, .int x11]) dX12_sortInto_229 rfl (by rw [ex11]; rfl) rfl ?_
    refine ex_goto (tgt := 201) dX12_sortInto_232 ?_
    exact w

theorem X12_sortInto_e {d bc bs : Nat} {h : AH} {Q : Option Value → AH → Prop} {a_0 : Nat} {v_1 : Int32} {a_2 : Nat} {v_3 : Int32} {v_4 : Int32} (w : ex_G mX12_sortInto (d + 1) 0 [.ref a_0, .int v_1, .ref a_2, .int v_3, .int v_4, .retAddr 0, .retAddr 0, .retAddr 0, .retAddr 0] [] h bc bs Q) : ex_S yX12_sortInto mX12_sortInto (d + 1) [.ref a_0, .int v_1, .ref a_2, .int v_3, .int v_4] h bc bs Q :=
  ex_enter (plainFor_of_name (by decide +kernel)) ⟨rfl, rfl⟩ rfl rfl (Nat.le_of_ble_eq_true rfl) (ex_pad 4 w)

set_option maxRecDepth 100000 in
theorem X12_areAlike_0 {d bc bs : Nat} {h : AH} {Q : Option Value → AH → Prop} {a_0 : Nat} {v_1 : Int32} {a_2 : Nat} {v_3 : Int32} (w : ex_G mX12_areAlike d 3 [.ref a_0, .int v_1, .ref a_2, .int v_3, .int 0] [] h bc bs Q) : ex_G mX12_areAlike d 0 [.ref a_0, .int v_1, .ref a_2, .int v_3, .retAddr 0] [] h bc bs Q := by
  refine ex_iconst (q := 1) (v := 0) dX12_areAlike_0 (by decide) ?_
  refine ex_istore (q := 3) (ls' := [.ref a_0, .int v_1, .ref a_2, .int v_3, .int 0]) dX12_areAlike_1 rfl ?_
  exact w

set_option maxRecDepth 100000 in
theorem X12_areAlike_3 {d bc bs : Nat} {h : AH} {Q : Option Value → AH → Prop} {a_0 : Nat} {v_1 : Int32} {a_2 : Nat} {v_3 : Int32} {v_4 : Int32} (w : ld0 h a_0 (v_1 + v_4) ∧ ld0 h a_2 (v_3 + v_4) ∧ ((¬ (ah_i h a_0 (Int32.toNatClampNeg (v_1 + v_4))) = (ah_i h a_2 (Int32.toNatClampNeg (v_3 + v_4))) → ex_G mX12_areAlike d 36 [.ref a_0, .int v_1, .ref a_2, .int v_3, .int v_4] [] h bc bs Q) ∧ ((ah_i h a_0 (Int32.toNatClampNeg (v_1 + v_4))) = (ah_i h a_2 (Int32.toNatClampNeg (v_3 + v_4))) → (((ah_i h a_0 (Int32.toNatClampNeg (v_1 + v_4))) = (-999) → ex_G mX12_areAlike d 36 [.ref a_0, .int v_1, .ref a_2, .int v_3, .int v_4] [] h bc bs Q) ∧ (¬ (ah_i h a_0 (Int32.toNatClampNeg (v_1 + v_4))) = (-999) → ∀ x5, x5 = v_4 + 1 → ex_G mX12_areAlike d 3 [.ref a_0, .int v_1, .ref a_2, .int v_3, .int x5] [] h bc bs Q))))) : ex_G mX12_areAlike d 3 [.ref a_0, .int v_1, .ref a_2, .int v_3, .int v_4] [] h bc bs Q := by
  refine ex_aload_n (q := 4) (x := a_0) dX12_areAlike_3 rfl ?_
  refine ex_iload_n (q := 5) (x := v_1) dX12_areAlike_4 rfl ?_
  refine ex_iload (q := 7) (x := v_4) dX12_areAlike_5 rfl ?_
  refine ex_iadd (q := 8) dX12_areAlike_7 ?_
  have s1 := w.1
  replace w := w.2
  refine ex_iald (q := 9) dX12_areAlike_8 s1 ?_
  refine ex_aload_n (q := 10) (x := a_2) dX12_areAlike_9 rfl ?_
  refine ex_iload_n (q := 11) (x := v_3) dX12_areAlike_10 rfl ?_
  refine ex_iload (q := 13) (x := v_4) dX12_areAlike_11 rfl ?_
  refine ex_iadd (q := 14) dX12_areAlike_13 ?_
  have s2 := w.1
  replace w := w.2
  refine ex_iald (q := 15) dX12_areAlike_14 s2 ?_
  refine ex_icmp_ne (tgt := 36) (q := 18) dX12_areAlike_15 (fun c3 => ?_) (fun c3 => ?_)
  · replace w := w.1 c3
    exact w
  · replace w := w.2 c3
    refine ex_aload_n (q := 19) (x := a_0) dX12_areAlike_18 rfl ?_
    refine ex_iload_n (q := 20) (x := v_1) dX12_areAlike_19 rfl ?_
    refine ex_iload (q := 22) (x := v_4) dX12_areAlike_20 rfl ?_
    refine ex_iadd (q := 23) dX12_areAlike_22 ?_
    refine ex_iald (q := 24) dX12_areAlike_23 s1 ?_
    refine ex_sipush (q := 27) (v := (-999)) dX12_areAlike_24 (by decide) ?_
    refine ex_icmp_eq (tgt := 36) (q := 30) dX12_areAlike_27 (fun c4 => ?_) (fun c4 => ?_)
    · replace w := w.1 c4
      exact w
    · replace w := w.2 c4
      obtain ⟨x5, ex5⟩ : ∃ y : Int32, y = v_4 + 1 := ⟨_, rfl⟩
      replace w := w x5 ex5
      refine ex_iinc (q := 33) (x := v_4) (v := x5) (ls' := [.ref a_0, .int v_1, .ref a_2, .int v_3, .int x5]) dX12_areAlike_30 rfl (by rw [ex5]; rfl) rfl ?_
      refine ex_goto (tgt := 3) dX12_areAlike_33 ?_
      exact w

set_option maxRecDepth 100000 in
theorem X12_areAlike_36 {d bc bs : Nat} {h : AH} {Q : Option Value → AH → Prop} {a_0 : Nat} {v_1 : Int32} {a_2 : Nat} {v_3 : Int32} {v_4 : Int32} (w : ld0 h a_0 (v_1 + v_4) ∧ ld0 h a_2 (v_3 + v_4) ∧ ((¬ (ah_i h a_0 (Int32.toNatClampNeg (v_1 + v_4))) = (ah_i h a_2 (Int32.toNatClampNeg (v_3 + v_4))) → Q (some (.int 0)) h) ∧ ((ah_i h a_0 (Int32.toNatClampNeg (v_1 + v_4))) = (ah_i h a_2 (Int32.toNatClampNeg (v_3 + v_4))) → Q (some (.int 1)) h))) : ex_G mX12_areAlike d 36 [.ref a_0, .int v_1, .ref a_2, .int v_3, .int v_4] [] h bc bs Q := by
  refine ex_aload_n (q := 37) (x := a_0) dX12_areAlike_36 rfl ?_
  refine ex_iload_n (q := 38) (x := v_1) dX12_areAlike_37 rfl ?_
  refine ex_iload (q := 40) (x := v_4) dX12_areAlike_38 rfl ?_
  refine ex_iadd (q := 41) dX12_areAlike_40 ?_
  have s1 := w.1
  replace w := w.2
  refine ex_iald (q := 42) dX12_areAlike_41 s1 ?_
  refine ex_aload_n (q := 43) (x := a_2) dX12_areAlike_42 rfl ?_
  refine ex_iload_n (q := 44) (x := v_3) dX12_areAlike_43 rfl ?_
  refine ex_iload (q := 46) (x := v_4) dX12_areAlike_44 rfl ?_
  refine ex_iadd (q := 47) dX12_areAlike_46 ?_
  have s2 := w.1
  replace w := w.2
  refine ex_iald (q := 48) dX12_areAlike_47 s2 ?_
  refine ex_icmp_ne (tgt := 55) (q := 51) dX12_areAlike_48 (fun c3 => ?_) (fun c3 => ?_)
  · replace w := w.1 c3
    refine ex_iconst (q := 56) (v := 0) dX12_areAlike_55 (by decide) ?_
    exact ex_ireturn dX12_areAlike_56 rfl (Or.inr ⟨rfl, Or.inl rfl⟩) w
  · replace w := w.2 c3
    refine ex_iconst (q := 52) (v := 1) dX12_areAlike_51 (by decide) ?_
    refine ex_goto (tgt := 56) dX12_areAlike_52 ?_
    exact ex_ireturn dX12_areAlike_56 rfl (Or.inr ⟨rfl, Or.inr rfl⟩) w

theorem X12_areAlike_e {d bc bs : Nat} {h : AH} {Q : Option Value → AH → Prop} {a_0 : Nat} {v_1 : Int32} {a_2 : Nat} {v_3 : Int32} (w : ex_G mX12_areAlike d 0 [.ref a_0, .int v_1, .ref a_2, .int v_3, .retAddr 0] [] h bc bs Q) : ex_S yX12_areAlike mX12_areAlike d [.ref a_0, .int v_1, .ref a_2, .int v_3] h bc bs Q :=
  ex_enter (plainFor_of_name (by decide +kernel)) ⟨rfl, rfl⟩ rfl rfl (Nat.le_of_ble_eq_true rfl) (ex_pad 1 w)

set_option maxRecDepth 100000 in
theorem X12_like_0 {d bc bs : Nat} {h : AH} {Q : Option Value → AH → Prop} {a_0 : Nat} {v_1 : Int32} {v_2 : Int32} (w : ah_o h a_0 12 ∧ X12_isPicture_C a_0 v_1 h ∧ (((X12_isPicture_V a_0 v_1 h) = 0 → X12_no_C a_0 (-2) h ∧ ∀ h5, h5 = X12_no_H a_0 (-2) h → Q (some (.int (X12_no_V a_0 (-2) h))) h5) ∧ (¬ (X12_isPicture_V a_0 v_1 h) = 0 → X12_isPicture_C a_0 v_2 h ∧ ((¬ (X12_isPicture_V a_0 v_2 h) = 0 → ex_S yX12_openOf mX12_openOf (d + 3) [.ref a_0, .int v_1] h 0 0 (fun r h8 => ∃ x9, r = some (.int x9) ∧ ((x9 ≤ 0 → ah_o h8 a_0 12 ∧ ∃ a12, ah_r h8 a_0 47 = some a12 ∧ ex_S yX12_codeInto mX12_codeInto (d + 3) [.ref a_0, .int v_1, .ref a12, .int 0] h8 0 0 (fun r h13 => r = none ∧ ah_o h13 a_0 12 ∧ ex_S yX12_openOf mX12_openOf (d + 3) [.ref a_0, .int v_2] h13 0 0 (fun r h14 => ∃ x16, r = some (.int x16) ∧ ((x16 ≤ 0 → ah_o h14 a_0 12 ∧ ∃ a19, ah_r h14 a_0 48 = some a19 ∧ ex_S yX12_codeInto mX12_codeInto (d + 3) [.ref a_0, .int v_2, .ref a19, .int 0] h14 0 0 (fun r h20 => r = none ∧ ah_o h20 a_0 12 ∧ ∃ a22, ah_r h20 a_0 47 = some a22 ∧ ∃ a23, ah_r h20 a_0 48 = some a23 ∧ ex_S yX12_areAlike mX12_areAlike (d + 3) [.ref a22, .int 0, .ref a23, .int 0] h20 0 0 (fun r h24 => ∃ x25, r = some (.int x25) ∧ ((x25 = 0 → ah_o h24 a_0 12 ∧ X12_well_C a_0 0 h24 ∧ ∀ h29, h29 = X12_well_H a_0 0 h24 → Q (some (.int (X12_well_V a_0 0 h24))) h29) ∧ (¬ x25 = 0 → ah_o h24 a_0 12 ∧ X12_well_C a_0 1 h24 ∧ ∀ h32, h32 = X12_well_H a_0 1 h24 → Q (some (.int (X12_well_V a_0 1 h24))) h32))))) ∧ (¬ x16 ≤ 0 → ah_o h14 a_0 12 ∧ X12_meets_C a_0 3 h14 ∧ ∀ h35, h35 = X12_meets_H a_0 3 h14 → Q (some (.int (X12_meets_V a_0 3 h14))) h35))))) ∧ (¬ x9 ≤ 0 → ah_o h8 a_0 12 ∧ X12_meets_C a_0 3 h8 ∧ ∀ h38, h38 = X12_meets_H a_0 3 h8 → Q (some (.int (X12_meets_V a_0 3 h8))) h38)))) ∧ ((X12_isPicture_V a_0 v_2 h) = 0 → X12_no_C a_0 (-2) h ∧ ∀ h40, h40 = X12_no_H a_0 (-2) h → Q (some (.int (X12_no_V a_0 (-2) h))) h40))))) : ex_G mX12_like (d + 4) 0 [.ref a_0, .int v_1, .int v_2] [] h bc bs Q := by
  refine ex_aload_n (q := 1) (x := a_0) dX12_like_0 rfl ?_
  refine ex_iload_n (q := 2) (x := v_1) dX12_like_1 rfl ?_
  have s1 := w.1
  replace w := w.2
  have s2 := w.1
  replace w := w.2
  refine ex_callV (q := 5) (M := mX12_like) (hdd := Nat.le_refl _) (mc := 0) (ms := 0) (d' := (d + 3)) (c := 12) (st := []) (bc := bc) (bs := bs) dX12_like_2 rfl cl_X12_187 wd_1593 wd_48 s1 (X12_isPicture_s (Q := fun r z => r = some (.int (X12_isPicture_V a_0 v_1 h)) ∧ z = h) s2 ⟨rfl, rfl⟩) ?_
  intro r z hrz
  rw [hrz.1, hrz.2]
  show ex_G mX12_like (d + 4) 5 [.ref a_0, .int v_1, .int v_2] [.int (X12_isPicture_V a_0 v_1 h)] (h) bc bs Q
  refine ex_if_eq (tgt := 16) (q := 8) dX12_like_5 (fun c3 => ?_) (fun c3 => ?_)
  · replace w := w.1 c3
    refine ex_aload_n (q := 17) (x := a_0) dX12_like_16 rfl ?_
    refine ex_bipush (q := 19) (v := (-2)) dX12_like_17 (by decide) ?_
    have s4 := w.1
    replace w := w.2
    refine ex_callV (q := 22) (M := mX12_like) (hdd := Nat.le_refl _) (mc := 0) (ms := 0) (d' := (d + 3)) (c := 12) (st := []) (bc := bc) (bs := bs) dX12_like_19 rfl cl_X12_165 wd_1581 wd_46 s1 (X12_no_s (Q := fun r z => r = some (.int (X12_no_V a_0 (-2) h)) ∧ z = X12_no_H a_0 (-2) h) s4 ⟨rfl, rfl⟩) ?_
    intro r z hrz
    rw [hrz.1, hrz.2]
    show ex_G mX12_like (d + 4) 22 [.ref a_0, .int v_1, .int v_2] [.int (X12_no_V a_0 (-2) h)] (X12_no_H a_0 (-2) h) bc bs Q
    refine ex_nmh (fun h5 eh5 => ?_)
    replace w := w h5 eh5
    exact ex_ireturn dX12_like_22 rfl (Or.inl rfl) w
  · replace w := w.2 c3
    refine ex_aload_n (q := 9) (x := a_0) dX12_like_8 rfl ?_
    refine ex_iload_n (q := 10) (x := v_2) dX12_like_9 rfl ?_
    have s6 := w.1
    replace w := w.2
    refine ex_callV (q := 13) (M := mX12_like) (hdd := Nat.le_refl _) (mc := 0) (ms := 0) (d' := (d + 3)) (c := 12) (st := []) (bc := bc) (bs := bs) dX12_like_10 rfl cl_X12_187 wd_1593 wd_48 s1 (X12_isPicture_s (Q := fun r z => r = some (.int (X12_isPicture_V a_0 v_2 h)) ∧ z = h) s6 ⟨rfl, rfl⟩) ?_
    intro r z hrz
    rw [hrz.1, hrz.2]
    show ex_G mX12_like (d + 4) 13 [.ref a_0, .int v_1, .int v_2] [.int (X12_isPicture_V a_0 v_2 h)] (h) bc bs Q
    refine ex_if_ne (tgt := 23) (q := 16) dX12_like_13 (fun c7 => ?_) (fun c7 => ?_)
    · replace w := w.1 c7
      refine ex_aload_n (q := 24) (x := a_0) dX12_like_23 rfl ?_
      refine ex_iload_n (q := 25) (x := v_1) dX12_like_24 rfl ?_
      refine ex_callV (q := 28) (M := mX12_like) (hdd := Nat.le_refl _) (c := 12) (st := []) (bc := bc) (bs := bs) dX12_like_25 rfl cl_X12_226 wd_1643 wd_52 s1 w ?_
      rintro r h8 ⟨x9, rfl, w⟩
      show ex_G mX12_like (d + 4) 28 [.ref a_0, .int v_1, .int v_2] [.int x9] h8 bc bs Q
      refine ex_if_le (tgt := 37) (q := 31) dX12_like_28 (fun c10 => ?_) (fun c10 => ?_)
      · replace w := w.1 c10
        refine ex_aload_n (q := 38) (x := a_0) dX12_like_37 rfl ?_
        refine ex_iload_n (q := 39) (x := v_1) dX12_like_38 rfl ?_
        refine ex_aload_n (q := 40) (x := a_0) dX12_like_39 rfl ?_
        have s11 := w.1
        replace w := w.2
        obtain ⟨a12, ea12, w⟩ := w
        refine ex_getr (q := 43) dX12_like_40 fl_X12_134 s11 ea12 ?_
        refine ex_iconst (q := 44) (v := 0) dX12_like_43 (by decide) ?_
        refine ex_callV (q := 47) (M := mX12_like) (hdd := Nat.le_refl _) (c := 12) (st := []) (bc := bc) (bs := bs) dX12_like_44 rfl cl_X12_412 wd_1969 wd_100 s11 w ?_
        rintro r h13 ⟨rfl, w⟩
        show ex_G mX12_like (d + 4) 47 [.ref a_0, .int v_1, .int v_2] [] h13 bc bs Q
        refine ex_aload_n (q := 48) (x := a_0) dX12_like_47 rfl ?_
        refine ex_iload_n (q := 49) (x := v_2) dX12_like_48 rfl ?_
        have s15 := w.1
        replace w := w.2
        refine ex_callV (q := 52) (M := mX12_like) (hdd := Nat.le_refl _) (c := 12) (st := []) (bc := bc) (bs := bs) dX12_like_49 rfl cl_X12_226 wd_1643 wd_52 s15 w ?_
        rintro r h14 ⟨x16, rfl, w⟩
        show ex_G mX12_like (d + 4) 52 [.ref a_0, .int v_1, .int v_2] [.int x16] h14 bc bs Q
        refine ex_if_le (tgt := 61) (q := 55) dX12_like_52 (fun c17 => ?_) (fun c17 => ?_)
        · replace w := w.1 c17
          refine ex_aload_n (q := 62) (x := a_0) dX12_like_61 rfl ?_
          refine ex_iload_n (q := 63) (x := v_2) dX12_like_62 rfl ?_
          refine ex_aload_n (q := 64) (x := a_0) dX12_like_63 rfl ?_
          have s18 := w.1
          replace w := w.2
          obtain ⟨a19, ea19, w⟩ := w
          refine ex_getr (q := 67) dX12_like_64 fl_X12_137 s18 ea19 ?_
          refine ex_iconst (q := 68) (v := 0) dX12_like_67 (by decide) ?_
          refine ex_callV (q := 71) (M := mX12_like) (hdd := Nat.le_refl _) (c := 12) (st := []) (bc := bc) (bs := bs) dX12_like_68 rfl cl_X12_412 wd_1969 wd_100 s18 w ?_
          rintro r h20 ⟨rfl, w⟩
          show ex_G mX12_like (d + 4) 71 [.ref a_0, .int v_1, .int v_2] [] h20 bc bs Q
          refine ex_aload_n (q := 72) (x := a_0) dX12_like_71 rfl ?_
          refine ex_aload_n (q := 73) (x := a_0) dX12_like_72 rfl ?_
          have s21 := w.1
          replace w := w.2
          obtain ⟨a22, ea22, w⟩ := w
          refine ex_getr (q := 76) dX12_like_73 fl_X12_134 s21 ea22 ?_
          refine ex_iconst (q := 77) (v := 0) dX12_like_76 (by decide) ?_
          refine ex_aload_n (q := 78) (x := a_0) dX12_like_77 rfl ?_
          obtain ⟨a23, ea23, w⟩ := w
          refine ex_getr (q := 81) dX12_like_78 fl_X12_137 s21 ea23 ?_
          refine ex_iconst (q := 82) (v := 0) dX12_like_81 (by decide) ?_
          refine ex_callS (q := 85) (M := mX12_like) (hdd := Nat.le_refl _) (st := [.ref a_0]) (bc := bc) (bs := bs) dX12_like_82 rfl cl_X12_416 wd_1983 w ?_
          rintro r h24 ⟨x25, rfl, w⟩
          show ex_G mX12_like (d + 4) 85 [.ref a_0, .int v_1, .int v_2] [.int x25, .ref a_0] h24 bc bs Q
          refine ex_if_eq (tgt := 92) (q := 88) dX12_like_85 (fun c26 => ?_) (fun c26 => ?_)
          · replace w := w.1 c26
            refine ex_iconst (q := 93) (v := 0) dX12_like_92 (by decide) ?_
            have s27 := w.1
            replace w := w.2
            have s28 := w.1
            replace w := w.2
            refine ex_callV (q := 96) (M := mX12_like) (hdd := Nat.le_refl _) (mc := 0) (ms := 0) (d' := (d + 3)) (c := 12) (st := []) (bc := bc) (bs := bs) dX12_like_93 rfl cl_X12_180 wd_1585 wd_47 s27 (X12_well_s (Q := fun r z => r = some (.int (X12_well_V a_0 0 h24)) ∧ z = X12_well_H a_0 0 h24) s28 ⟨rfl, rfl⟩) ?_
            intro r z hrz
            rw [hrz.1, hrz.2]
            show ex_G mX12_like (d + 4) 96 [.ref a_0, .int v_1, .int v_2] [.int (X12_well_V a_0 0 h24)] (X12_well_H a_0 0 h24) bc bs Q
            refine ex_nmh (fun h29 eh29 => ?_)
            replace w := w h29 eh29
            exact ex_ireturn dX12_like_96 rfl (Or.inl rfl) w
          · replace w := w.2 c26
            refine ex_iconst (q := 89) (v := 1) dX12_like_88 (by decide) ?_
            refine ex_goto (tgt := 93) dX12_like_89 ?_
            have s30 := w.1
            replace w := w.2
            have s31 := w.1
            replace w := w.2
            refine ex_callV (q := 96) (M := mX12_like) (hdd := Nat.le_refl _) (mc := 0) (ms := 0) (d' := (d + 3)) (c := 12) (st := []) (bc := bc) (bs := bs) dX12_like_93 rfl cl_X12_180 wd_1585 wd_47 s30 (X12_well_s (Q := fun r z => r = some (.int (X12_well_V a_0 1 h24)) ∧ z = X12_well_H a_0 1 h24) s31 ⟨rfl, rfl⟩) ?_
            intro r z hrz
            rw [hrz.1, hrz.2]
            show ex_G mX12_like (d + 4) 96 [.ref a_0, .int v_1, .int v_2] [.int (X12_well_V a_0 1 h24)] (X12_well_H a_0 1 h24) bc bs Q
            refine ex_nmh (fun h32 eh32 => ?_)
            replace w := w h32 eh32
            exact ex_ireturn dX12_like_96 rfl (Or.inl rfl) w
        · replace w := w.2 c17
          refine ex_aload_n (q := 56) (x := a_0) dX12_like_55 rfl ?_
          refine ex_iconst (q := 57) (v := 3) dX12_like_56 (by decide) ?_
          have s33 := w.1
          replace w := w.2
          have s34 := w.1
          replace w := w.2
          refine ex_callV (q := 60) (M := mX12_like) (hdd := Nat.le_refl _) (mc := 0) (ms := 0) (d' := (d + 3)) (c := 12) (st := []) (bc := bc) (bs := bs) dX12_like_57 rfl cl_X12_200 wd_1614 wd_50 s33 (X12_meets_s (Q := fun r z => r = some (.int (X12_meets_V a_0 3 h14)) ∧ z = X12_meets_H a_0 3 h14) s34 ⟨rfl, rfl⟩) ?_
          intro r z hrz
          rw [hrz.1, hrz.2]
          show ex_G mX12_like (d + 4) 60 [.ref a_0, .int v_1, .int v_2] [.int (X12_meets_V a_0 3 h14)] (X12_meets_H a_0 3 h14) bc bs Q
          refine ex_nmh (fun h35 eh35 => ?_)
          replace w := w h35 eh35
          exact ex_ireturn dX12_like_60 rfl (Or.inl rfl) w
      · replace w := w.2 c10
        refine ex_aload_n (q := 32) (x := a_0) dX12_like_31 rfl ?_
        refine ex_iconst (q := 33) (v := 3) dX12_like_32 (by decide) ?_
        have s36 := w.1
        replace w := w.2
        have s37 := w.1
        replace w := w.2
        refine ex_callV (q := 36) (M := mX12_like) (hdd := Nat.le_refl _) (mc := 0) (ms := 0) (d' := (d + 3)) (c := 12) (st := []) (bc := bc) (bs := bs) dX12_like_33 rfl cl_X12_200 wd_1614 wd_50 s36 (X12_meets_s (Q := fun r z => r = some (.int (X12_meets_V a_0 3 h8)) ∧ z = X12_meets_H a_0 3 h8) s37 ⟨rfl, rfl⟩) ?_
        intro r z hrz
        rw [hrz.1, hrz.2]
        show ex_G mX12_like (d + 4) 36 [.ref a_0, .int v_1, .int v_2] [.int (X12_meets_V a_0 3 h8)] (X12_meets_H a_0 3 h8) bc bs Q
        refine ex_nmh (fun h38 eh38 => ?_)
        replace w := w h38 eh38
        exact ex_ireturn dX12_like_36 rfl (Or.inl rfl) w
    · replace w := w.2 c7
      refine ex_aload_n (q := 17) (x := a_0) dX12_like_16 rfl ?_
      refine ex_bipush (q := 19) (v := (-2)) dX12_like_17 (by decide) ?_
      have s39 := w.1
      replace w := w.2
      refine ex_callV (q := 22) (M := mX12_like) (hdd := Nat.le_refl _) (mc := 0) (ms := 0) (d' := (d + 3)) (c := 12) (st := []) (bc := bc) (bs := bs) dX12_like_19 rfl cl_X12_165 wd_1581 wd_46 s1 (X12_no_s (Q := fun r z => r = some (.int (X12_no_V a_0 (-2) h)) ∧ z = X12_no_H a_0 (-2) h) s39 ⟨rfl, rfl⟩) ?_
      intro r z hrz
      rw [hrz.1, hrz.2]
      show ex_G mX12_like (d + 4) 22 [.ref a_0, .int v_1, .int v_2] [.int (X12_no_V a_0 (-2) h)] (X12_no_H a_0 (-2) h) bc bs Q
      refine ex_nmh (fun h40 eh40 => ?_)
      replace w := w h40 eh40
      exact ex_ireturn dX12_like_22 rfl (Or.inl rfl) w

theorem X12_like_e {d bc bs : Nat} {h : AH} {Q : Option Value → AH → Prop} {a_0 : Nat} {v_1 : Int32} {v_2 : Int32} (w : ex_G mX12_like (d + 4) 0 [.ref a_0, .int v_1, .int v_2] [] h bc bs Q) : ex_S yX12_like mX12_like (d + 4) [.ref a_0, .int v_1, .int v_2] h bc bs Q :=
  ex_enter (plainFor_of_name (by decide +kernel)) ⟨rfl, rfl⟩ rfl rfl (Nat.le_of_ble_eq_true rfl) (ex_pad 0 w)

set_option maxRecDepth 100000 in
theorem X12_beginSearch_0 {d bc bs : Nat} {h : AH} {Q : Option Value → AH → Prop} {a_0 : Nat} {v_1 : Int32} (w : ah_o h a_0 12 ∧ ∀ h2, h2 = ah_sf h a_0 49 1 → ∀ h3, h3 = ah_sf h2 a_0 50 0 → ∀ h4, h4 = ah_sf h3 a_0 51 1 → ∀ h5, h5 = ah_sf h4 a_0 52 0 → ∀ h6, h6 = ah_sf h5 a_0 53 0 → ∀ h7, h7 = ah_sf h6 a_0 54 0 → ∃ a8, ah_r h7 a_0 55 = some a8 ∧ st0 h7 a8 0 ∧ ∀ h9, h9 = ah_si h7 a8 (Int32.toNatClampNeg 0) (-1) → ex_S yX12_copySlot mX12_copySlot (d + 2) [.ref a_0, .int v_1, .int 264] h9 0 0 (fun r h11 => r = none ∧ ah_o h11 a_0 12 ∧ ex_S yX12_link mX12_link (d + 2) [.ref a_0, .int 264] h11 0 0 (fun r h12 => r = none ∧ ah_o h12 a_0 12 ∧ ∃ a15, ah_r h12 a_0 57 = some a15 ∧ ex_S yX12_codeInto mX12_codeInto (d + 2) [.ref a_0, .int 264, .ref a15, .int 0] h12 0 0 (fun r h16 => r = none ∧ Q none h16)))) : ex_G mX12_beginSearch (d + 3) 0 [.ref a_0, .int v_1] [] h bc bs Q := by
  refine ex_aload_n (q := 1) (x := a_0) dX12_beginSearch_0 rfl ?_
  refine ex_iconst (q := 2) (v := 1) dX12_beginSearch_1 (by decide) ?_
  have s1 := w.1
  replace w := w.2
  refine ex_putf (q := 5) dX12_beginSearch_2 fl_X12_420 (Or.inl rfl) s1 (Or.inr ⟨rfl, Or.inr rfl⟩) ?_
  refine ex_nmh (fun h2 eh2 => ?_)
  replace w := w h2 eh2
  refine ex_aload_n (q := 6) (x := a_0) dX12_beginSearch_5 rfl ?_
  refine ex_iconst (q := 7) (v := 0) dX12_beginSearch_6 (by decide) ?_
  refine ex_putf (q := 10) dX12_beginSearch_7 fl_X12_423 (Or.inl rfl) (by rw [eh2]; exact s1) (Or.inr ⟨rfl, Or.inl rfl⟩) ?_
  refine ex_nmh (fun h3 eh3 => ?_)
  replace w := w h3 eh3
  refine ex_aload_n (q := 11) (x := a_0) dX12_beginSearch_10 rfl ?_
  refine ex_iconst (q := 12) (v := 1) dX12_beginSearch_11 (by decide) ?_
  refine ex_putf (q := 15) dX12_beginSearch_12 fl_X12_426 (Or.inl rfl) (by rw [eh3]; exact (by rw [eh2]; exact s1)) (Or.inl rfl) ?_
  refine ex_nmh (fun h4 eh4 => ?_)
  replace w := w h4 eh4
  refine ex_aload_n (q := 16) (x := a_0) dX12_beginSearch_15 rfl ?_
  refine ex_iconst (q := 17) (v := 0) dX12_beginSearch_16 (by decide) ?_
  refine ex_putf (q := 20) dX12_beginSearch_17 fl_X12_429 (Or.inl rfl) (by rw [eh4]; exact (by rw [eh3]; exact (by rw [eh2]; exact s1))) (Or.inl rfl) ?_
  refine ex_nmh (fun h5 eh5 => ?_)
  replace w := w h5 eh5
  refine ex_aload_n (q := 21) (x := a_0) dX12_beginSearch_20 rfl ?_
  refine ex_iconst (q := 22) (v := 0) dX12_beginSearch_21 (by decide) ?_
  refine ex_putf (q := 25) dX12_beginSearch_22 fl_X12_432 (Or.inl rfl) (by rw [eh5]; exact (by rw [eh4]; exact (by rw [eh3]; exact (by rw [eh2]; exact s1)))) (Or.inl rfl) ?_
  refine ex_nmh (fun h6 eh6 => ?_)
  replace w := w h6 eh6
  refine ex_aload_n (q := 26) (x := a_0) dX12_beginSearch_25 rfl ?_
  refine ex_iconst (q := 27) (v := 0) dX12_beginSearch_26 (by decide) ?_
  refine ex_putf (q := 30) dX12_beginSearch_27 fl_X12_435 (Or.inl rfl) (by rw [eh6]; exact (by rw [eh5]; exact (by rw [eh4]; exact (by rw [eh3]; exact (by rw [eh2]; exact s1))))) (Or.inl rfl) ?_
  refine ex_nmh (fun h7 eh7 => ?_)
  replace w := w h7 eh7
  refine ex_aload_n (q := 31) (x := a_0) dX12_beginSearch_30 rfl ?_
  obtain ⟨a8, ea8, w⟩ := w
  refine ex_getr (q := 34) dX12_beginSearch_31 fl_X12_140 (by rw [eh7]; exact (by rw [eh6]; exact (by rw [eh5]; exact (by rw [eh4]; exact (by rw [eh3]; exact (by rw [eh2]; exact s1)))))) ea8 ?_
  refine ex_iconst (q := 35) (v := 0) dX12_beginSearch_34 (by decide) ?_
  refine ex_iconst (q := 36) (v := (-1)) dX12_beginSearch_35 (by decide) ?_
  have s10 := w.1
  replace w := w.2
  refine ex_iast (q := 37) dX12_beginSearch_36 s10 ?_
  refine ex_nmh (fun h9 eh9 => ?_)
  replace w := w h9 eh9
  refine ex_aload_n (q := 38) (x := a_0) dX12_beginSearch_37 rfl ?_
  refine ex_iload_n (q := 39) (x := v_1) dX12_beginSearch_38 rfl ?_
  refine ex_sipush (q := 42) (v := 264) dX12_beginSearch_39 (by decide) ?_
  refine ex_callV (q := 45) (M := mX12_beginSearch) (hdd := Nat.le_refl _) (c := 12) (st := []) (bc := bc) (bs := bs) dX12_beginSearch_42 rfl cl_X12_176 wd_1796 wd_71 (by rw [eh9]; exact (by rw [eh7]; exact (by rw [eh6]; exact (by rw [eh5]; exact (by rw [eh4]; exact (by rw [eh3]; exact (by rw [eh2]; exact s1))))))) w ?_
  rintro r h11 ⟨rfl, w⟩
  show ex_G mX12_beginSearch (d + 3) 45 [.ref a_0, .int v_1] [] h11 bc bs Q
  refine ex_aload_n (q := 46) (x := a_0) dX12_beginSearch_45 rfl ?_
  refine ex_sipush (q := 49) (v := 264) dX12_beginSearch_46 (by decide) ?_
  have s13 := w.1
  replace w := w.2
  refine ex_callV (q := 52) (M := mX12_beginSearch) (hdd := Nat.le_refl _) (c := 12) (st := []) (bc := bc) (bs := bs) dX12_beginSearch_49 rfl cl_X12_216 wd_1647 wd_53 s13 w ?_
  rintro r h12 ⟨rfl, w⟩
  show ex_G mX12_beginSearch (d + 3) 52 [.ref a_0, .int v_1] [] h12 bc bs Q
  refine ex_aload_n (q := 53) (x := a_0) dX12_beginSearch_52 rfl ?_
  refine ex_sipush (q := 56) (v := 264) dX12_beginSearch_53 (by decide) ?_
  refine ex_aload_n (q := 57) (x := a_0) dX12_beginSearch_56 rfl ?_
  have s14 := w.1
  replace w := w.2
  obtain ⟨a15, ea15, w⟩ := w
  refine ex_getr (q := 60) dX12_beginSearch_57 fl_X12_146 s14 ea15 ?_
  refine ex_iconst (q := 61) (v := 0) dX12_beginSearch_60 (by decide) ?_
  refine ex_callV (q := 64) (M := mX12_beginSearch) (hdd := Nat.le_refl _) (c := 12) (st := []) (bc := bc) (bs := bs) dX12_beginSearch_61 rfl cl_X12_412 wd_1969 wd_100 s14 w ?_
  rintro r h16 ⟨rfl, w⟩
  show ex_G mX12_beginSearch (d + 3) 64 [.ref a_0, .int v_1] [] h16 bc bs Q
  exact ex_return dX12_beginSearch_64 w

theorem X12_beginSearch_e {d bc bs : Nat} {h : AH} {Q : Option Value → AH → Prop} {a_0 : Nat} {v_1 : Int32} (w : ex_G mX12_beginSearch (d + 3) 0 [.ref a_0, .int v_1] [] h bc bs Q) : ex_S yX12_beginSearch mX12_beginSearch (d + 3) [.ref a_0, .int v_1] h bc bs Q :=
  ex_enter (plainFor_of_name (by decide +kernel)) ⟨rfl, rfl⟩ rfl rfl (Nat.le_of_ble_eq_true rfl) (ex_pad 0 w)

set_option maxRecDepth 100000 in
theorem X12_stepped_0 {d bc bs : Nat} {h : AH} {Q : Option Value → AH → Prop} {a_0 : Nat} {v_1 : Int32} (w : ah_o h a_0 12 ∧ ex_S yX12_link mX12_link (d + 2) [.ref a_0, .int 364] h 0 0 (fun r h1 => r = none ∧ ∀ x3, x3 = v_1 / 3 → ((¬ (im_ v_1 3) = 0 → ((¬ (im_ v_1 3) = 1 → ah_o h1 a_0 12 ∧ ex_S yX12_slide mX12_slide (d + 2) [.ref a_0, .int x3] h1 0 0 (fun r h6 => ∃ x8, r = some (.int x8) ∧ Q (some (.int x8)) h6)) ∧ ((im_ v_1 3) = 1 → ah_o h1 a_0 12 ∧ ex_S yX12_unpoke mX12_unpoke (d + 2) [.ref a_0, .int x3] h1 0 0 (fun r h9 => ∃ x11, r = some (.int x11) ∧ Q (some (.int x11)) h9)))) ∧ ((im_ v_1 3) = 0 → ah_o h1 a_0 12 ∧ ex_S yX12_untwist mX12_untwist (d + 2) [.ref a_0, .int x3] h1 0 0 (fun r h12 => ∃ x14, r = some (.int x14) ∧ Q (some (.int x14)) h12))))) : ex_G mX12_stepped (d + 3) 0 [.ref a_0, .int v_1, .retAddr 0] [] h bc bs Q := by
  refine ex_aload_n (q := 1) (x := a_0) dX12_stepped_0 rfl ?_
  refine ex_sipush (q := 4) (v := 364) dX12_stepped_1 (by decide) ?_
  have s2 := w.1
  replace w := w.2
  refine ex_callV (q := 7) (M := mX12_stepped) (hdd := Nat.le_refl _) (c := 12) (st := []) (bc := bc) (bs := bs) dX12_stepped_4 rfl cl_X12_216 wd_1647 wd_53 s2 w ?_
  rintro r h1 ⟨rfl, w⟩
  show ex_G mX12_stepped (d + 3) 7 [.ref a_0, .int v_1, .retAddr 0] [] h1 bc bs Q
  refine ex_iload_n (q := 8) (x := v_1) dX12_stepped_7 rfl ?_
  refine ex_iconst (q := 9) (v := 3) dX12_stepped_8 (by decide) ?_
  refine ex_idiv (q := 10) dX12_stepped_9 (by decide) ?_
  refine ex_nmi (fun x3 ex3 => ?_)
  replace w := w x3 ex3
  refine ex_istore_n (q := 11) (ls' := [.ref a_0, .int v_1, .int x3]) dX12_stepped_10 rfl ?_
  refine ex_iload_n (q := 12) (x := v_1) dX12_stepped_11 rfl ?_
  refine ex_iconst (q := 13) (v := 3) dX12_stepped_12 (by decide) ?_
  refine ex_irem (q := 14) dX12_stepped_13 (by decide) ?_
  refine ex_if_ne (tgt := 25) (q := 17) dX12_stepped_14 (fun c4 => ?_) (fun c4 => ?_)
  · replace w := w.1 c4
    refine ex_iload_n (q := 26) (x := v_1) dX12_stepped_25 rfl ?_
    refine ex_iconst (q := 27) (v := 3) dX12_stepped_26 (by decide) ?_
    refine ex_irem (q := 28) dX12_stepped_27 (by decide) ?_
    refine ex_iconst (q := 29) (v := 1) dX12_stepped_28 (by decide) ?_
    refine ex_icmp_ne (tgt := 40) (q := 32) dX12_stepped_29 (fun c5 => ?_) (fun c5 => ?_)
    · replace w := w.1 c5
      refine ex_aload_n (q := 41) (x := a_0) dX12_stepped_40 rfl ?_
      refine ex_iload_n (q := 42) (x := x3) dX12_stepped_41 rfl ?_
      have s7 := w.1
      replace w := w.2
      refine ex_callV (q := 45) (M := mX12_stepped) (hdd := Nat.le_refl _) (c := 12) (st := []) (bc := bc) (bs := bs) dX12_stepped_42 rfl cl_X12_347 wd_1869 wd_84 s7 w ?_
      rintro r h6 ⟨x8, rfl, w⟩
      show ex_G mX12_stepped (d + 3) 45 [.ref a_0, .int v_1, .int x3] [.int x8] h6 bc bs Q
      exact ex_ireturn dX12_stepped_45 rfl (Or.inl rfl) w
    · replace w := w.2 c5
      refine ex_aload_n (q := 33) (x := a_0) dX12_stepped_32 rfl ?_
      refine ex_iload_n (q := 34) (x := x3) dX12_stepped_33 rfl ?_
      have s10 := w.1
      replace w := w.2
      refine ex_callV (q := 37) (M := mX12_stepped) (hdd := Nat.le_refl _) (c := 12) (st := []) (bc := bc) (bs := bs) dX12_stepped_34 rfl cl_X12_362 wd_1865 wd_83 s10 w ?_
      rintro r h9 ⟨x11, rfl, w⟩
      show ex_G mX12_stepped (d + 3) 37 [.ref a_0, .int v_1, .int x3] [.int x11] h9 bc bs Q
      refine ex_goto (tgt := 45) dX12_stepped_37 ?_
      exact ex_ireturn dX12_stepped_45 rfl (Or.inl rfl) w
  · replace w := w.2 c4
    refine ex_aload_n (q := 18) (x := a_0) dX12_stepped_17 rfl ?_
    refine ex_iload_n (q := 19) (x := x3) dX12_stepped_18 rfl ?_
    have s13 := w.1
    replace w := w.2
    refine ex_callV (q := 22) (M := mX12_stepped) (hdd := Nat.le_refl _) (c := 12) (st := []) (bc := bc) (bs := bs) dX12_stepped_19 rfl cl_X12_359 wd_1840 wd_77 s13 w ?_
    rintro r h12 ⟨x14, rfl, w⟩
    show ex_G mX12_stepped (d + 3) 22 [.ref a_0, .int v_1, .int x3] [.int x14] h12 bc bs Q
    refine ex_goto (tgt := 45) dX12_stepped_22 ?_
    exact ex_ireturn dX12_stepped_45 rfl (Or.inl rfl) w

theorem X12_stepped_e {d bc bs : Nat} {h : AH} {Q : Option Value → AH → Prop} {a_0 : Nat} {v_1 : Int32} (w : ex_G mX12_stepped (d + 3) 0 [.ref a_0, .int v_1, .retAddr 0] [] h bc bs Q) : ex_S yX12_stepped mX12_stepped (d + 3) [.ref a_0, .int v_1] h bc bs Q :=
  ex_enter (plainFor_of_name (by decide +kernel)) ⟨rfl, rfl⟩ rfl rfl (Nat.le_of_ble_eq_true rfl) (ex_pad 1 w)

set_option maxRecDepth 100000 in
theorem X12_kept_0 {d bc bs : Nat} {h : AH} {Q : Option Value → AH → Prop} {a_0 : Nat} {v_1 : Int32} (w : ah_o h a_0 12 ∧ ex_S yX12_link mX12_link (d + 2) [.ref a_0, .int 364] h 0 0 (fun r h1 => r = none ∧ ah_o h1 a_0 12 ∧ ∃ a4, ah_r h1 a_0 47 = some a4 ∧ ex_S yX12_codeInto mX12_codeInto (d + 2) [.ref a_0, .int 364, .ref a4, .int 0] h1 0 0 (fun r h5 => r = none ∧ ex_G mX12_kept (d + 3) 21 [.ref a_0, .int v_1, .int 0] [] h5 bc bs Q))) : ex_G mX12_kept (d + 3) 0 [.ref a_0, .int v_1, .retAddr 0] [] h bc bs Q := by
  refine ex_aload_n (q := 1) (x := a_0) dX12_kept_0 rfl ?_
  refine ex_sipush (q := 4) (v := 364) dX12_kept_1 (by decide) ?_
  have s2 := w.1
  replace w := w.2
  refine ex_callV (q := 7) (M := mX12_kept) (hdd := Nat.le_refl _) (c := 12) (st := []) (bc := bc) (bs := bs) dX12_kept_4 rfl cl_X12_216 wd_1647 wd_53 s2 w ?_
  rintro r h1 ⟨rfl, w⟩
  show ex_G mX12_kept (d + 3) 7 [.ref a_0, .int v_1, .retAddr 0] [] h1 bc bs Q
  refine ex_aload_n (q := 8) (x := a_0) dX12_kept_7 rfl ?_
  refine ex_sipush (q := 11) (v := 364) dX12_kept_8 (by decide) ?_
  refine ex_aload_n (q := 12) (x := a_0) dX12_kept_11 rfl ?_
  have s3 := w.1
  replace w := w.2
  obtain ⟨a4, ea4, w⟩ := w
  refine ex_getr (q := 15) dX12_kept_12 fl_X12_134 s3 ea4 ?_
  refine ex_iconst (q := 16) (v := 0) dX12_kept_15 (by decide) ?_
  refine ex_callV (q := 19) (M := mX12_kept) (hdd := Nat.le_refl _) (c := 12) (st := []) (bc := bc) (bs := bs) dX12_kept_16 rfl cl_X12_412 wd_1969 wd_100 s3 w ?_
  rintro r h5 ⟨rfl, w⟩
  show ex_G mX12_kept (d + 3) 19 [.ref a_0, .int v_1, .retAddr 0] [] h5 bc bs Q
  refine ex_iconst (q := 20) (v := 0) dX12_kept_19 (by decide) ?_
  refine ex_istore_n (q := 21) (ls' := [.ref a_0, .int v_1, .int 0]) dX12_kept_20 rfl ?_
  exact w

set_option maxRecDepth 100000 in
theorem X12_kept_21 {d bc bs : Nat} {h : AH} {Q : Option Value → AH → Prop} {a_0 : Nat} {v_1 : Int32} {v_2 : Int32} (w : ah_o h a_0 12 ∧ (((ah_f h a_0 51) ≤ v_2 → ((¬ (ah_f h a_0 51) = 100 → ex_S yX12_copySlot mX12_copySlot (d + 2) [.ref a_0, .int 364, .int (264 + (ah_f h a_0 51))] h 0 0 (fun r h4 => r = none ∧ ah_o h4 a_0 12 ∧ ∃ a6, ah_r h4 a_0 57 = some a6 ∧ ex_S yX12_codeInto mX12_codeInto (d + 2) [.ref a_0, .int 364, .ref a6, .int (70 * (ah_f h4 a_0 51))] h4 0 0 (fun r h7 => r = none ∧ ah_o h7 a_0 12 ∧ ∃ a9, ah_r h7 a_0 55 = some a9 ∧ st0 h7 a9 (ah_f h7 a_0 51) ∧ ∀ h10, h10 = ah_si h7 a9 (Int32.toNatClampNeg (ah_f h7 a_0 51)) (ah_f h7 a_0 52) → ∃ a12, ah_r h10 a_0 56 = some a12 ∧ st0 h10 a12 (ah_f h10 a_0 51) ∧ ∀ h13, h13 = ah_si h10 a12 (Int32.toNatClampNeg (ah_f h10 a_0 51)) v_1 → ∀ h15, h15 = ah_sf h13 a_0 51 ((ah_f h13 a_0 51) + 1) → Q (some (.int 1)) h15))) ∧ ((ah_f h a_0 51) = 100 → Q (some (.int 0)) h))) ∧ (¬ (ah_f h a_0 51) ≤ v_2 → ∃ a16, ah_r h a_0 47 = some a16 ∧ ∃ a17, ah_r h a_0 57 = some a17 ∧ ex_S yX12_areAlike mX12_areAlike (d + 2) [.ref a16, .int 0, .ref a17, .int (70 * v_2)] h 0 0 (fun r h18 => ∃ x19, r = some (.int x19) ∧ ((x19 = 0 → ∀ x21, x21 = v_2 + 1 → ex_G mX12_kept (d + 3) 21 [.ref a_0, .int v_1, .int x21] [] h18 bc bs Q) ∧ (¬ x19 = 0 → Q (some (.int 0)) h18)))))) : ex_G mX12_kept (d + 3) 21 [.ref a_0, .int v_1, .int v_2] [] h bc bs Q := by
  refine ex_iload_n (q := 22) (x := v_2) dX12_kept_21 rfl ?_
  refine ex_aload_n (q := 23) (x := a_0) dX12_kept_22 rfl ?_
  have s1 := w.1
  replace w := w.2
  refine ex_getf (q := 26) dX12_kept_23 fl_X12_426 s1 ?_
  refine ex_icmp_ge (tgt := 56) (q := 29) dX12_kept_26 (fun c2 => ?_) (fun c2 => ?_)
  · replace w := w.1 c2
    refine ex_aload_n (q := 57) (x := a_0) dX12_kept_56 rfl ?_
    refine ex_getf (q := 60) dX12_kept_57 fl_X12_426 s1 ?_
    refine ex_bipush (q := 62) (v := 100) dX12_kept_60 (by decide) ?_
    refine ex_icmp_ne (tgt := 67) (q := 65) dX12_kept_62 (fun c3 => ?_) (fun c3 => ?_)
    · replace w := w.1 c3
      refine ex_aload_n (q := 68) (x := a_0) dX12_kept_67 rfl ?_
      refine ex_sipush (q := 71) (v := 364) dX12_kept_68 (by decide) ?_
      refine ex_sipush (q := 74) (v := 264) dX12_kept_71 (by decide) ?_
      refine ex_aload_n (q := 75) (x := a_0) dX12_kept_74 rfl ?_
      refine ex_getf (q := 78) dX12_kept_75 fl_X12_426 s1 ?_
      refine ex_iadd (q := 79) dX12_kept_78 ?_
      refine ex_callV (q := 82) (M := mX12_kept) (hdd := Nat.le_refl _) (c := 12) (st := []) (bc := bc) (bs := bs) dX12_kept_79 rfl cl_X12_176 wd_1796 wd_71 s1 w ?_
      rintro r h4 ⟨rfl, w⟩
      show ex_G mX12_kept (d + 3) 82 [.ref a_0, .int v_1, .int v_2] [] h4 bc bs Q
      refine ex_aload_n (q := 83) (x := a_0) dX12_kept_82 rfl ?_
      refine ex_sipush (q := 86) (v := 364) dX12_kept_83 (by decide) ?_
      refine ex_aload_n (q := 87) (x := a_0) dX12_kept_86 rfl ?_
      have s5 := w.1
      replace w := w.2
      obtain ⟨a6, ea6, w⟩ := w
      refine ex_getr (q := 90) dX12_kept_87 fl_X12_146 s5 ea6 ?_
      refine ex_bipush (q := 92) (v := 70) dX12_kept_90 (by decide) ?_
      refine ex_aload_n (q := 93) (x := a_0) dX12_kept_92 rfl ?_
      refine ex_getf (q := 96) dX12_kept_93 fl_X12_426 s5 ?_
      refine ex_imul (q := 97) dX12_kept_96 ?_
      refine ex_callV (q := 100) (M := mX12_kept) (hdd := Nat.le_refl _) (c := 12) (st := []) (bc := bc) (bs := bs) dX12_kept_97 rfl cl_X12_412 wd_1969 wd_100 s5 w ?_
      rintro r h7 ⟨rfl, w⟩
      show ex_G mX12_kept (d + 3) 100 [.ref a_0, .int v_1, .int v_2] [] h7 bc bs Q
      refine ex_aload_n (q := 101) (x := a_0) dX12_kept_100 rfl ?_
      have s8 := w.1
      replace w := w.2
      obtain ⟨a9, ea9, w⟩ := w
      refine ex_getr (q := 104) dX12_kept_101 fl_X12_140 s8 ea9 ?_
      refine ex_aload_n (q := 105) (x := a_0) dX12_kept_104 rfl ?_
      refine ex_getf (q := 108) dX12_kept_105 fl_X12_426 s8 ?_
      refine ex_aload_n (q := 109) (x := a_0) dX12_kept_108 rfl ?_
      refine ex_getf (q := 112) dX12_kept_109 fl_X12_429 s8 ?_
      have s11 := w.1
      replace w := w.2
      refine ex_iast (q := 113) dX12_kept_112 s11 ?_
      refine ex_nmh (fun h10 eh10 => ?_)
      replace w := w h10 eh10
      refine ex_aload_n (q := 114) (x := a_0) dX12_kept_113 rfl ?_
      obtain ⟨a12, ea12, w⟩ := w
      refine ex_getr (q := 117) dX12_kept_114 fl_X12_143 (by rw [eh10]; exact s8) ea12 ?_
      refine ex_aload_n (q := 118) (x := a_0) dX12_kept_117 rfl ?_
      refine ex_getf (q := 121) dX12_kept_118 fl_X12_426 (by rw [eh10]; exact s8) ?_
      refine ex_iload_n (q := 122) (x := v_1) dX12_kept_121 rfl ?_
      have s14 := w.1
      replace w := w.2
      refine ex_iast (q := 123) dX12_kept_122 s14 ?_
      refine ex_nmh (fun h13 eh13 => ?_)
      replace w := w h13 eh13
      refine ex_aload_n (q := 124) (x := a_0) dX12_kept_123 rfl ?_
      refine ex_dup (q := 125) dX12_kept_124 rfl ?_
      refine ex_getf (q := 128) dX12_kept_125 fl_X12_426 (by rw [eh13]; exact (by rw [eh10]; exact s8)) ?_
      refine ex_iconst (q := 129) (v := 1) dX12_kept_128 (by decide) ?_
      refine ex_iadd (q := 130) dX12_kept_129 ?_
      refine ex_putf (q := 133) dX12_kept_130 fl_X12_426 (Or.inl rfl) (by rw [eh13]; exact (by rw [eh10]; exact s8)) (Or.inl rfl) ?_
      refine ex_nmh (fun h15 eh15 => ?_)
      replace w := w h15 eh15
      refine ex_iconst (q := 134) (v := 1) dX12_kept_133 (by decide) ?_
      exact ex_ireturn dX12_kept_134 rfl (Or.inr ⟨rfl, Or.inr rfl⟩) w
    · replace w := w.2 c3
      refine ex_iconst (q := 66) (v := 0) dX12_kept_65 (by decide) ?_
      exact ex_ireturn dX12_kept_66 rfl (Or.inr ⟨rfl, Or.inl rfl⟩) w
  · replace w := w.2 c2
    refine ex_aload_n (q := 30) (x := a_0) dX12_kept_29 rfl ?_
    obtain ⟨a16, ea16, w⟩ := w
    refine ex_getr (q := 33) dX12_kept_30 fl_X12_134 s1 ea16 ?_
    refine ex_iconst (q := 34) (v := 0) dX12_kept_33 (by decide) ?_
    refine ex_aload_n (q := 35) (x := a_0) dX12_kept_34 rfl ?_
    obtain ⟨a17, ea17, w⟩ := w
    refine ex_getr (q := 38) dX12_kept_35 fl_X12_146 s1 ea17 ?_
    refine ex_bipush (q := 40) (v := 70) dX12_kept_38 (by decide) ?_
    refine ex_iload_n (q := 41) (x := v_2) dX12_kept_40 rfl ?_
    refine ex_imul (q := 42) dX12_kept_41 ?_
    refine ex_callS (q := 45) (M := mX12_kept) (hdd := Nat.le_refl _) (st := []) (bc := bc) (bs := bs) dX12_kept_42 rfl cl_X12_416 wd_1983 w ?_
    rintro r h18 ⟨x19, rfl, w⟩
    show ex_G mX12_kept (d + 3) 45 [.ref a_0, .int v_1, .int v_2] [.int x19] h18 bc bs Q
    refine ex_if_eq (tgt := 50) (q := 48) dX12_kept_45 (fun c20 => ?_) (fun c20 => ?_)
    · replace w := w.1 c20
      obtain ⟨x21, ex21⟩ : ∃ y : Int32, y = v_2 + 1 := ⟨_, rfl⟩
      replace w := w x21 ex21
      refine ex_iinc (q := 53) (x := v_2) (v := x21) (ls' := [.ref a_0, .int v_1, .int x21]) dX12_kept_50 rfl (by rw [ex21]; rfl) rfl ?_
      refine ex_goto (tgt := 21) dX12_kept_53 ?_
      exact w
    · replace w := w.2 c20
      refine ex_iconst (q := 49) (v := 0) dX12_kept_48 (by decide) ?_
      exact ex_ireturn dX12_kept_49 rfl (Or.inr ⟨rfl, Or.inl rfl⟩) w

theorem X12_kept_e {d bc bs : Nat} {h : AH} {Q : Option Value → AH → Prop} {a_0 : Nat} {v_1 : Int32} (w : ex_G mX12_kept (d + 3) 0 [.ref a_0, .int v_1, .retAddr 0] [] h bc bs Q) : ex_S yX12_kept mX12_kept (d + 3) [.ref a_0, .int v_1] h bc bs Q :=
  ex_enter (plainFor_of_name (by decide +kernel)) ⟨rfl, rfl⟩ rfl rfl (Nat.le_of_ble_eq_true rfl) (ex_pad 1 w)

set_option maxRecDepth 100000 in
theorem X12_goes_0 {d bc bs : Nat} {h : AH} {Q : Option Value → AH → Prop} {a_0 : Nat} {v_1 : Int32} {v_2 : Int32} (w : ex_G mX12_goes (d + 4) 5 [.ref a_0, .int v_1, .int v_2, .int 0, .int 0, .retAddr 0] [] h bc bs Q) : ex_G mX12_goes (d + 4) 0 [.ref a_0, .int v_1, .int v_2, .retAddr 0, .retAddr 0, .retAddr 0] [] h bc bs Q := by
  refine ex_iconst (q := 1) (v := 0) dX12_goes_0 (by decide) ?_
  refine ex_istore_n (q := 2) (ls' := [.ref a_0, .int v_1, .int v_2, .int 0, .retAddr 0, .retAddr 0]) dX12_goes_1 rfl ?_
  refine ex_iconst (q := 3) (v := 0) dX12_goes_2 (by decide) ?_
  refine ex_istore (q := 5) (ls' := [.ref a_0, .int v_1, .int v_2, .int 0, .int 0, .retAddr 0]) dX12_goes_3 rfl ?_
  exact w

set_option maxRecDepth 100000 in
theorem X12_goes_5 {d bc bs : Nat} {h : AH} {Q : Option Value → AH → Prop} {a_0 : Nat} {v_1 : Int32} {v_2 : Int32} {v_3 : Int32} {v_4 : Int32} (w : ((v_1 ≤ v_3 → Q (some (.int v_3)) h) ∧ (¬ v_1 ≤ v_3 → ah_o h a_0 12 ∧ ((¬ (ah_f h a_0 50) = 0 → Q (some (.int v_3)) h) ∧ ((ah_f h a_0 50) = 0 → ((¬ v_4 = 0 → Q (some (.int v_3)) h) ∧ (v_4 = 0 → ∃ a5, ah_r h a_0 2 = some a5 ∧ ld0 h a5 (264 + (ah_f h a_0 52)) ∧ ((¬ (ah_f h a_0 53) = (12 * (ah_i h a5 (Int32.toNatClampNeg (264 + (ah_f h a_0 52))))) → ∀ x8, x8 = ah_f h a_0 53 → ∀ h9, h9 = ah_sf h a_0 53 ((ah_f h a_0 53) + 1) → ex_S yX12_copySlot mX12_copySlot (d + 3) [.ref a_0, .int (264 + (ah_f h9 a_0 52)), .int 364] h9 0 0 (fun r h10 => r = none ∧ ah_o h10 a_0 12 ∧ ex_S yX12_stepped mX12_stepped (d + 3) [.ref a_0, .int x8] h10 0 0 (fun r h11 => ∃ x13, r = some (.int x13) ∧ ((¬ x13 = 0 → ex_G mX12_goes (d + 4) 5 [.ref a_0, .int v_1, .int v_2, .int v_3, .int v_4, .retAddr 0] [] h11 bc bs Q) ∧ (x13 = 0 → ∀ x15, x15 = v_3 + 1 → ah_o h11 a_0 12 ∧ ∀ h17, h17 = ah_sf h11 a_0 54 ((ah_f h11 a_0 54) + 1) → ex_S yX12_kept mX12_kept (d + 3) [.ref a_0, .int x8] h17 0 0 (fun r h18 => ∃ x19, r = some (.int x19) ∧ ((x19 = 0 → ex_G mX12_goes (d + 4) 5 [.ref a_0, .int v_1, .int v_2, .int x15, .int 0, .retAddr 0] [] h18 bc bs Q) ∧ (¬ x19 = 0 → ((v_2 = 0 → ex_G mX12_goes (d + 4) 5 [.ref a_0, .int v_1, .int v_2, .int x15, .int 0, .retAddr 0] [] h18 bc bs Q) ∧ (¬ v_2 = 0 → ah_o h18 a_0 12 ∧ ∃ a23, ah_r h18 a_0 57 = some a23 ∧ ∃ a24, ah_r h18 a_0 48 = some a24 ∧ ex_S yX12_areAlike mX12_areAlike (d + 3) [.ref a23, .int (70 * ((ah_f h18 a_0 51) - 1)), .ref a24, .int 0] h18 0 0 (fun r h25 => ∃ x26, r = some (.int x26) ∧ ((x26 = 0 → ex_G mX12_goes (d + 4) 5 [.ref a_0, .int v_1, .int v_2, .int x15, .int 0, .retAddr 0] [] h25 bc bs Q) ∧ (¬ x26 = 0 → ex_G mX12_goes (d + 4) 5 [.ref a_0, .int v_1, .int v_2, .int x15, .int 1, .retAddr 0] [] h25 bc bs Q))))))))))))) ∧ ((ah_f h a_0 53) = (12 * (ah_i h a5 (Int32.toNatClampNeg (264 + (ah_f h a_0 52))))) → ∀ h28, h28 = ah_sf h a_0 52 ((ah_f h a_0 52) + 1) → ∀ h29, h29 = ah_sf h28 a_0 53 0 → ((¬ (ah_f h29 a_0 52) = (ah_f h29 a_0 51) → ∀ h31, h31 = ah_sf h29 a_0 50 0 → ex_G mX12_goes (d + 4) 5 [.ref a_0, .int v_1, .int v_2, .int v_3, .int v_4, .retAddr 0] [] h31 bc bs Q) ∧ ((ah_f h29 a_0 52) = (ah_f h29 a_0 51) → ∀ h32, h32 = ah_sf h29 a_0 50 1 → ex_G mX12_goes (d + 4) 5 [.ref a_0, .int v_1, .int v_2, .int v_3, .int v_4, .retAddr 0] [] h32 bc bs Q))))))))))) : ex_G mX12_goes (d + 4) 5 [.ref a_0, .int v_1, .int v_2, .int v_3, .int v_4, .retAddr 0] [] h bc bs Q := by
  refine ex_iload_n (q := 6) (x := v_3) dX12_goes_5 rfl ?_
  refine ex_iload_n (q := 7) (x := v_1) dX12_goes_6 rfl ?_
  refine ex_icmp_ge (tgt := 183) (q := 10) dX12_goes_7 (fun c1 => ?_) (fun c1 => ?_)
  · replace w := w.1 c1
    refine ex_iload_n (q := 184) (x := v_3) dX12_goes_183 rfl ?_
    exact ex_ireturn dX12_goes_184 rfl (Or.inl rfl) w
  · replace w := w.2 c1
    refine ex_aload_n (q := 11) (x := a_0) dX12_goes_10 rfl ?_
    have s2 := w.1
    replace w := w.2
    refine ex_getf (q := 14) dX12_goes_11 fl_X12_423 s2 ?_
    refine ex_if_ne (tgt := 183) (q := 17) dX12_goes_14 (fun c3 => ?_) (fun c3 => ?_)
    · replace w := w.1 c3
      refine ex_iload_n (q := 184) (x := v_3) dX12_goes_183 rfl ?_
      exact ex_ireturn dX12_goes_184 rfl (Or.inl rfl) w
    · replace w := w.2 c3
      refine ex_iload (q := 19) (x := v_4) dX12_goes_17 rfl ?_
      refine ex_if_ne (tgt := 183) (q := 22) dX12_goes_19 (fun c4 => ?_) (fun c4 => ?_)
      · replace w := w.1 c4
        refine ex_iload_n (q := 184) (x := v_3) dX12_goes_183 rfl ?_
        exact ex_ireturn dX12_goes_184 rfl (Or.inl rfl) w
      · replace w := w.2 c4
        refine ex_aload_n (q := 23) (x := a_0) dX12_goes_22 rfl ?_
        refine ex_getf (q := 26) dX12_goes_23 fl_X12_432 s2 ?_
        refine ex_bipush (q := 28) (v := 12) dX12_goes_26 (by decide) ?_
        refine ex_aload_n (q := 29) (x := a_0) dX12_goes_28 rfl ?_
        obtain ⟨a5, ea5, w⟩ := w
        refine ex_getr (q := 32) dX12_goes_29 fl_X12_13 s2 ea5 ?_
        refine ex_sipush (q := 35) (v := 264) dX12_goes_32 (by decide) ?_
        refine ex_aload_n (q := 36) (x := a_0) dX12_goes_35 rfl ?_
        refine ex_getf (q := 39) dX12_goes_36 fl_X12_429 s2 ?_
        refine ex_iadd (q := 40) dX12_goes_39 ?_
        have s6 := w.1
        replace w := w.2
        refine ex_iald (q := 41) dX12_goes_40 s6 ?_
        refine ex_imul (q := 42) dX12_goes_41 ?_
        refine ex_icmp_ne (tgt := 83) (q := 45) dX12_goes_42 (fun c7 => ?_) (fun c7 => ?_)
        · replace w := w.1 c7
          refine ex_aload_n (q := 84) (x := a_0) dX12_goes_83 rfl ?_
          refine ex_getf (q := 87) dX12_goes_84 fl_X12_432 s2 ?_
          refine ex_nmi (fun x8 ex8 => ?_)
          replace w := w x8 ex8
          refine ex_istore (q := 89) (ls' := [.ref a_0, .int v_1, .int v_2, .int v_3, .int v_4, .int x8]) dX12_goes_87 rfl ?_
          refine ex_aload_n (q := 90) (x := a_0) dX12_goes_89 rfl ?_
          refine ex_dup (q := 91) dX12_goes_90 rfl ?_
          refine ex_getf (q := 94) dX12_goes_91 fl_X12_432 s2 ?_
          refine ex_iconst (q := 95) (v := 1) dX12_goes_94 (by decide) ?_
          refine ex_iadd (q := 96) dX12_goes_95 ?_
          refine ex_putf (q := 99) dX12_goes_96 fl_X12_432 (Or.inl rfl) s2 (Or.inl rfl) ?_
          refine ex_nmh (fun h9 eh9 => ?_)
          replace w := w h9 eh9
          refine ex_aload_n (q := 100) (x := a_0) dX12_goes_99 rfl ?_
          refine ex_sipush (q := 103) (v := 264) dX12_goes_100 (by decide) ?_
          refine ex_aload_n (q := 104) (x := a_0) dX12_goes_103 rfl ?_
          refine ex_getf (q := 107) dX12_goes_104 fl_X12_429 (by rw [eh9]; exact s2) ?_
          refine ex_iadd (q := 108) dX12_goes_107 ?_
          refine ex_sipush (q := 111) (v := 364) dX12_goes_108 (by decide) ?_
          refine ex_callV (q := 114) (M := mX12_goes) (hdd := Nat.le_refl _) (c := 12) (st := []) (bc := bc) (bs := bs) dX12_goes_111 rfl cl_X12_176 wd_1796 wd_71 (by rw [eh9]; exact s2) w ?_
          rintro r h10 ⟨rfl, w⟩
          show ex_G mX12_goes (d + 4) 114 [.ref a_0, .int v_1, .int v_2, .int v_3, .int v_4, .int x8] [] h10 bc bs Q
          refine ex_aload_n (q := 115) (x := a_0) dX12_goes_114 rfl ?_
          refine ex_iload (q := 117) (x := x8) dX12_goes_115 rfl ?_
          have s12 := w.1
          replace w := w.2
          refine ex_callV (q := 120) (M := mX12_goes) (hdd := Nat.le_refl _) (c := 12) (st := []) (bc := bc) (bs := bs) dX12_goes_117 rfl cl_X12_438 wd_2000 wd_105 s12 w ?_
          rintro r h11 ⟨x13, rfl, w⟩
          show ex_G mX12_goes (d + 4) 120 [.ref a_0, .int v_1, .int v_2, .int v_3, .int v_4, .int x8] [.int x13] h11 bc bs Q
          refine ex_if_ne (tgt := 180) (q := 123) dX12_goes_120 (fun c14 => ?_) (fun c14 => ?_)
          · replace w := w.1 c14
            refine ex_goto (tgt := 5) dX12_goes_180 ?_
            refine ex_kill 5 (ls' := [.ref a_0, .int v_1, .int v_2, .int v_3, .int v_4, .retAddr 0]) rfl ?_
            exact w
          · replace w := w.2 c14
            obtain ⟨x15, ex15⟩ : ∃ y : Int32, y = v_3 + 1 := ⟨_, rfl⟩
            replace w := w x15 ex15
            refine ex_iinc (q := 126) (x := v_3) (v := x15) (ls' := [.ref a_0, .int v_1, .int v_2, .int x15, .int v_4, .int x8]) dX12_goes_123 rfl (by rw [ex15]; rfl) rfl ?_
            refine ex_aload_n (q := 127) (x := a_0) dX12_goes_126 rfl ?_
            refine ex_dup (q := 128) dX12_goes_127 rfl ?_
            have s16 := w.1
            replace w := w.2
            refine ex_getf (q := 131) dX12_goes_128 fl_X12_435 s16 ?_
            refine ex_iconst (q := 132) (v := 1) dX12_goes_131 (by decide) ?_
            refine ex_iadd (q := 133) dX12_goes_132 ?_
            refine ex_putf (q := 136) dX12_goes_133 fl_X12_435 (Or.inl rfl) s16 (Or.inl rfl) ?_
            refine ex_nmh (fun h17 eh17 => ?_)
            replace w := w h17 eh17
            refine ex_aload_n (q := 137) (x := a_0) dX12_goes_136 rfl ?_
            refine ex_iload (q := 139) (x := x8) dX12_goes_137 rfl ?_
            refine ex_callV (q := 142) (M := mX12_goes) (hdd := Nat.le_refl _) (c := 12) (st := []) (bc := bc) (bs := bs) dX12_goes_139 rfl cl_X12_441 wd_2004 wd_106 (by rw [eh17]; exact s16) w ?_
            rintro r h18 ⟨x19, rfl, w⟩
            show ex_G mX12_goes (d + 4) 142 [.ref a_0, .int v_1, .int v_2, .int x15, .int v_4, .int x8] [.int x19] h18 bc bs Q
            refine ex_if_eq (tgt := 177) (q := 145) dX12_goes_142 (fun c20 => ?_) (fun c20 => ?_)
            · replace w := w.1 c20
              refine ex_iconst (q := 178) (v := 0) dX12_goes_177 (by decide) ?_
              refine ex_istore (q := 180) (ls' := [.ref a_0, .int v_1, .int v_2, .int x15, .int 0, .int x8]) dX12_goes_178 rfl ?_
              refine ex_goto (tgt := 5) dX12_goes_180 ?_
              refine ex_kill 5 (ls' := [.ref a_0, .int v_1, .int v_2, .int x15, .int 0, .retAddr 0]) rfl ?_
              exact w
            · replace w := w.2 c20
              refine ex_iload_n (q := 146) (x := v_2) dX12_goes_145 rfl ?_
              refine ex_if_eq (tgt := 177) (q := 149) dX12_goes_146 (fun c21 => ?_) (fun c21 => ?_)
              · replace w := w.1 c21
                refine ex_iconst (q := 178) (v := 0) dX12_goes_177 (by decide) ?_
                refine ex_istore (q := 180) (ls' := [.ref a_0, .int v_1, .int v_2, .int x15, .int 0, .int x8]) dX12_goes_178 rfl ?_
                refine ex_goto (tgt := 5) dX12_goes_180 ?_
                refine ex_kill 5 (ls' := [.ref a_0, .int v_1, .int v_2, .int x15, .int 0, .retAddr 0]) rfl ?_
                exact w
              · replace w := w.2 c21
                refine ex_aload_n (q := 150) (x := a_0) dX12_goes_149 rfl ?_
                have s22 := w.1
                replace w := w.2
                obtain ⟨a23, ea23, w⟩ := w
                refine ex_getr (q := 153) dX12_goes_150 fl_X12_146 s22 ea23 ?_
                refine ex_bipush (q := 155) (v := 70) dX12_goes_153 (by decide) ?_
                refine ex_aload_n (q := 156) (x := a_0) dX12_goes_155 rfl ?_
                refine ex_getf (q := 159) dX12_goes_156 fl_X12_426 s22 ?_
                refine ex_iconst (q := 160) (v := 1) dX12_goes_159 (by decide) ?_
                refine ex_isub (q := 161) dX12_goes_160 ?_
                refine ex_imul (q := 162) dX12_goes_161 ?_
                refine ex_aload_n (q := 163) (x := a_0) dX12_goes_162 rfl ?_
                obtain ⟨a24, ea24, w⟩ := w
                refine ex_getr (q := 166) dX12_goes_163 fl_X12_137 s22 ea24 ?_
                refine ex_iconst (q := 167) (v := 0) dX12_goes_166 (by decide) ?_
                refine ex_callS (q := 170) (M := mX12_goes) (hdd := Nat.le_refl _) (st := []) (bc := bc) (bs := bs) dX12_goes_167 rfl cl_X12_416 wd_1983 w ?_
                rintro r h25 ⟨x26, rfl, w⟩
                show ex_G mX12_goes (d + 4) 170 [.ref a_0, .int v_1, .int v_2, .int x15, .int v_4, .int x8] [.int x26] h25 bc bs Q
                refine ex_if_eq (tgt := 177) (q := 173) dX12_goes_170 (fun c27 => ?_) (fun c27 => ?_)
                · replace w := w.1 c27
                  refine ex_iconst (q := 178) (v := 0) dX12_goes_177 (by decide) ?_
                  refine ex_istore (q := 180) (ls' := [.ref a_0, .int v_1, .int v_2, .int x15, .int 0, .int x8]) dX12_goes_178 rfl ?_
                  refine ex_goto (tgt := 5) dX12_goes_180 ?_
                  refine ex_kill 5 (ls' := [.ref a_0, .int v_1, .int v_2, .int x15, .int 0, .retAddr 0]) rfl ?_
                  exact w
                · replace w := w.2 c27
                  refine ex_iconst (q := 174) (v := 1) dX12_goes_173 (by decide) ?_
                  refine ex_goto (tgt := 178) dX12_goes_174 ?_
                  refine ex_istore (q := 180) (ls' := [.ref a_0, .int v_1, .int v_2, .int x15, .int 1, .int x8]) dX12_goes_178 rfl ?_
                  refine ex_goto (tgt := 5) dX12_goes_180 ?_
                  refine ex_kill 5 (ls' := [.ref a_0, .int v_1, .int v_2, .int x15, .int 1, .retAddr 0]) rfl ?_
                  exact w
        · replace w := w.2 c7
          refine ex_aload_n (q := 46) (x := a_0) dX12_goes_45 rfl ?_
          refine ex_dup (q := 47) dX12_goes_46 rfl ?_
          refine ex_getf (q := 50) dX12_goes_47 fl_X12_429 s2 ?_
          refine ex_iconst (q := 51) (v := 1) dX12_goes_50 (by decide) ?_
          refine ex_iadd (q := 52) dX12_goes_51 ?_
          refine ex_putf (q := 55) dX12_goes_52 fl_X12_429 (Or.inl rfl) s2 (Or.inl rfl) ?_
          refine ex_nmh (fun h28 eh28 => ?_)
          replace w := w h28 eh28
          refine ex_aload_n (q := 56) (x := a_0) dX12_goes_55 rfl ?_
          refine ex_iconst (q := 57) (v := 0) dX12_goes_56 (by decide) ?_
          refine ex_putf (q := 60) dX12_goes_57 fl_X12_432 (Or.inl rfl) (by rw [eh28]; exact s2) (Or.inl rfl) ?_
          refine ex_nmh (fun h29 eh29 => ?_)
          replace w := w h29 eh29
          refine ex_aload_n (q := 61) (x := a_0) dX12_goes_60 rfl ?_
          refine ex_aload_n (q := 62) (x := a_0) dX12_goes_61 rfl ?_
          refine ex_getf (q := 65) dX12_goes_62 fl_X12_429 (by rw [eh29]; exact (by rw [eh28]; exact s2)) ?_
          refine ex_aload_n (q := 66) (x := a_0) dX12_goes_65 rfl ?_
          refine ex_getf (q := 69) dX12_goes_66 fl_X12_426 (by rw [eh29]; exact (by rw [eh28]; exact s2)) ?_
          refine ex_icmp_ne (tgt := 76) (q := 72) dX12_goes_69 (fun c30 => ?_) (fun c30 => ?_)
          · replace w := w.1 c30
            refine ex_iconst (q := 77) (v := 0) dX12_goes_76 (by decide) ?_
            refine ex_putf (q := 80) dX12_goes_77 fl_X12_423 (Or.inl rfl) (by rw [eh29]; exact (by rw [eh28]; exact s2)) (Or.inr ⟨rfl, Or.inl rfl⟩) ?_
            refine ex_nmh (fun h31 eh31 => ?_)
            replace w := w h31 eh31
            refine ex_goto (tgt := 5) dX12_goes_80 ?_
            exact w
          · replace w := w.2 c30
            refine ex_iconst (q := 73) (v := 1) dX12_goes_72 (by decide) ?_
            refine ex_goto (tgt := 77) dX12_goes_73 ?_
            refine ex_putf (q := 80) dX12_goes_77 fl_X12_423 (Or.inl rfl) (by rw [eh29]; exact (by rw [eh28]; exact s2)) (Or.inr ⟨rfl, Or.inr rfl⟩) ?_
            refine ex_nmh (fun h32 eh32 => ?_)
            replace w := w h32 eh32
            refine ex_goto (tgt := 5) dX12_goes_80 ?_
            exact w

theorem X12_goes_e {d bc bs : Nat} {h : AH} {Q : Option Value → AH → Prop} {a_0 : Nat} {v_1 : Int32} {v_2 : Int32} (w : ex_G mX12_goes (d + 4) 0 [.ref a_0, .int v_1, .int v_2, .retAddr 0, .retAddr 0, .retAddr 0] [] h bc bs Q) : ex_S yX12_goes mX12_goes (d + 4) [.ref a_0, .int v_1, .int v_2] h bc bs Q :=
  ex_enter (plainFor_of_name (by decide +kernel)) ⟨rfl, rfl⟩ rfl rfl (Nat.le_of_ble_eq_true rfl) (ex_pad 3 w)

set_option maxRecDepth 100000 in
theorem X12_search_0 {d bc bs : Nat} {h : AH} {Q : Option Value → AH → Prop} {a_0 : Nat} {v_1 : Int32} {v_2 : Int32} (w : ah_o h a_0 12 ∧ X12_isPicture_C a_0 v_1 h ∧ (((X12_isPicture_V a_0 v_1 h) = 0 → X12_no_C a_0 (-2) h ∧ ∀ h5, h5 = X12_no_H a_0 (-2) h → Q (some (.int (X12_no_V a_0 (-2) h))) h5) ∧ (¬ (X12_isPicture_V a_0 v_1 h) = 0 → ((¬ (X12_in_V (Int32.toInt64 v_2) 0 5000 h) = 0 → ex_S yX12_openOf mX12_openOf (d + 4) [.ref a_0, .int v_1] h 0 0 (fun r h7 => ∃ x8, r = some (.int x8) ∧ ((x8 ≤ 0 → ah_o h7 a_0 12 ∧ ∃ a11, ah_r h7 a_0 2 = some a11 ∧ ld0 h7 a11 v_1 ∧ (((ah_i h7 a11 (Int32.toNatClampNeg v_1)) ≤ 12 → ex_S yX12_beginSearch mX12_beginSearch (d + 4) [.ref a_0, .int v_1] h7 0 0 (fun r h14 => r = none ∧ ah_o h14 a_0 12 ∧ ex_S yX12_goes mX12_goes (d + 4) [.ref a_0, .int v_2, .int 0] h14 0 0 (fun r h15 => ∃ x17, r = some (.int x17) ∧ ah_o h15 a_0 12 ∧ X12_well_C a_0 x17 h15 ∧ ∀ h20, h20 = X12_well_H a_0 x17 h15 → Q (some (.int (X12_well_V a_0 x17 h15))) h20))) ∧ (¬ (ah_i h7 a11 (Int32.toNatClampNeg v_1)) ≤ 12 → X12_meets_C a_0 7 h7 ∧ ∀ h22, h22 = X12_meets_H a_0 7 h7 → Q (some (.int (X12_meets_V a_0 7 h7))) h22))) ∧ (¬ x8 ≤ 0 → ah_o h7 a_0 12 ∧ X12_meets_C a_0 3 h7 ∧ ∀ h25, h25 = X12_meets_H a_0 3 h7 → Q (some (.int (X12_meets_V a_0 3 h7))) h25)))) ∧ ((X12_in_V (Int32.toInt64 v_2) 0 5000 h) = 0 → X12_no_C a_0 (-2) h ∧ ∀ h27, h27 = X12_no_H a_0 (-2) h → Q (some (.int (X12_no_V a_0 (-2) h))) h27))))) : ex_G mX12_search (d + 5) 0 [.ref a_0, .int v_1, .int v_2] [] h bc bs Q := by
  refine ex_aload_n (q := 1) (x := a_0) dX12_search_0 rfl ?_
  refine ex_iload_n (q := 2) (x := v_1) dX12_search_1 rfl ?_
  have s1 := w.1
  replace w := w.2
  have s2 := w.1
  replace w := w.2
  refine ex_callV (q := 5) (M := mX12_search) (hdd := Nat.le_refl _) (mc := 0) (ms := 0) (d' := (d + 4)) (c := 12) (st := []) (bc := bc) (bs := bs) dX12_search_2 rfl cl_X12_187 wd_1593 wd_48 s1 (X12_isPicture_s (Q := fun r z => r = some (.int (X12_isPicture_V a_0 v_1 h)) ∧ z = h) s2 ⟨rfl, rfl⟩) ?_
  intro r z hrz
  rw [hrz.1, hrz.2]
  show ex_G mX12_search (d + 5) 5 [.ref a_0, .int v_1, .int v_2] [.int (X12_isPicture_V a_0 v_1 h)] (h) bc bs Q
  refine ex_if_eq (tgt := 20) (q := 8) dX12_search_5 (fun c3 => ?_) (fun c3 => ?_)
  · replace w := w.1 c3
    refine ex_aload_n (q := 21) (x := a_0) dX12_search_20 rfl ?_
    refine ex_bipush (q := 23) (v := (-2)) dX12_search_21 (by decide) ?_
    have s4 := w.1
    replace w := w.2
    refine ex_callV (q := 26) (M := mX12_search) (hdd := Nat.le_refl _) (mc := 0) (ms := 0) (d' := (d + 4)) (c := 12) (st := []) (bc := bc) (bs := bs) dX12_search_23 rfl cl_X12_165 wd_1581 wd_46 s1 (X12_no_s (Q := fun r z => r = some (.int (X12_no_V a_0 (-2) h)) ∧ z = X12_no_H a_0 (-2) h) s4 ⟨rfl, rfl⟩) ?_
    intro r z hrz
    rw [hrz.1, hrz.2]
    show ex_G mX12_search (d + 5) 26 [.ref a_0, .int v_1, .int v_2] [.int (X12_no_V a_0 (-2) h)] (X12_no_H a_0 (-2) h) bc bs Q
    refine ex_nmh (fun h5 eh5 => ?_)
    replace w := w h5 eh5
    exact ex_ireturn dX12_search_26 rfl (Or.inl rfl) w
  · replace w := w.2 c3
    refine ex_iload_n (q := 9) (x := v_2) dX12_search_8 rfl ?_
    refine ex_i2l (q := 10) dX12_search_9 ?_
    refine ex_lconst (q := 11) (v := 0) dX12_search_10 (by decide) ?_
    refine ex_ldc2_w (q := 14) (v := 5000) dX12_search_11 wd_1989 ?_
    refine ex_callS (q := 17) (M := mX12_search) (hdd := Nat.le_refl _) (mc := 0) (ms := 0) (d' := (d + 4)) (st := []) (bc := bc) (bs := bs) dX12_search_14 rfl cl_X12_172 wd_1596 (X12_in_s (Q := fun r z => r = some (.int (X12_in_V (Int32.toInt64 v_2) 0 5000 h)) ∧ z = h) ⟨rfl, rfl⟩) ?_
    intro r z hrz
    rw [hrz.1, hrz.2]
    show ex_G mX12_search (d + 5) 17 [.ref a_0, .int v_1, .int v_2] [.int (X12_in_V (Int32.toInt64 v_2) 0 5000 h)] (h) bc bs Q
    refine ex_if_ne (tgt := 27) (q := 20) dX12_search_17 (fun c6 => ?_) (fun c6 => ?_)
    · replace w := w.1 c6
      refine ex_aload_n (q := 28) (x := a_0) dX12_search_27 rfl ?_
      refine ex_iload_n (q := 29) (x := v_1) dX12_search_28 rfl ?_
      refine ex_callV (q := 32) (M := mX12_search) (hdd := Nat.le_refl _) (c := 12) (st := []) (bc := bc) (bs := bs) dX12_search_29 rfl cl_X12_226 wd_1643 wd_52 s1 w ?_
      rintro r h7 ⟨x8, rfl, w⟩
      show ex_G mX12_search (d + 5) 32 [.ref a_0, .int v_1, .int v_2] [.int x8] h7 bc bs Q
      refine ex_if_le (tgt := 41) (q := 35) dX12_search_32 (fun c9 => ?_) (fun c9 => ?_)
      · replace w := w.1 c9
        refine ex_aload_n (q := 42) (x := a_0) dX12_search_41 rfl ?_
        have s10 := w.1
        replace w := w.2
        obtain ⟨a11, ea11, w⟩ := w
        refine ex_getr (q := 45) dX12_search_42 fl_X12_13 s10 ea11 ?_
        refine ex_iload_n (q := 46) (x := v_1) dX12_search_45 rfl ?_
        have s12 := w.1
        replace w := w.2
        refine ex_iald (q := 47) dX12_search_46 s12 ?_
        refine ex_bipush (q := 49) (v := 12) dX12_search_47 (by decide) ?_
        refine ex_icmp_le (tgt := 59) (q := 52) dX12_search_49 (fun c13 => ?_) (fun c13 => ?_)
        · replace w := w.1 c13
          refine ex_aload_n (q := 60) (x := a_0) dX12_search_59 rfl ?_
          refine ex_iload_n (q := 61) (x := v_1) dX12_search_60 rfl ?_
          refine ex_callV (q := 64) (M := mX12_search) (hdd := Nat.le_refl _) (c := 12) (st := []) (bc := bc) (bs := bs) dX12_search_61 rfl cl_X12_446 wd_1992 wd_103 s10 w ?_
          rintro r h14 ⟨rfl, w⟩
          show ex_G mX12_search (d + 5) 64 [.ref a_0, .int v_1, .int v_2] [] h14 bc bs Q
          refine ex_aload_n (q := 65) (x := a_0) dX12_search_64 rfl ?_
          refine ex_aload_n (q := 66) (x := a_0) dX12_search_65 rfl ?_
          refine ex_iload_n (q := 67) (x := v_2) dX12_search_66 rfl ?_
          refine ex_iconst (q := 68) (v := 0) dX12_search_67 (by decide) ?_
          have s16 := w.1
          replace w := w.2
          refine ex_callV (q := 71) (M := mX12_search) (hdd := Nat.le_refl _) (c := 12) (st := [.ref a_0]) (bc := bc) (bs := bs) dX12_search_68 rfl cl_X12_449 wd_1996 wd_104 s16 w ?_
          rintro r h15 ⟨x17, rfl, w⟩
          show ex_G mX12_search (d + 5) 71 [.ref a_0, .int v_1, .int v_2] [.int x17, .ref a_0] h15 bc bs Q
          have s18 := w.1
          replace w := w.2
          have s19 := w.1
          replace w := w.2
          refine ex_callV (q := 74) (M := mX12_search) (hdd := Nat.le_refl _) (mc := 0) (ms := 0) (d' := (d + 4)) (c := 12) (st := []) (bc := bc) (bs := bs) dX12_search_71 rfl cl_X12_180 wd_1585 wd_47 s18 (X12_well_s (Q := fun r z => r = some (.int (X12_well_V a_0 x17 h15)) ∧ z = X12_well_H a_0 x17 h15) s19 ⟨rfl, rfl⟩) ?_
          intro r z hrz
          rw [hrz.1, hrz.2]
          show ex_G mX12_search (d + 5) 74 [.ref a_0, .int v_1, .int v_2] [.int (X12_well_V a_0 x17 h15)] (X12_well_H a_0 x17 h15) bc bs Q
          refine ex_nmh (fun h20 eh20 => ?_)
          replace w := w h20 eh20
          exact ex_ireturn dX12_search_74 rfl (Or.inl rfl) w
        · replace w := w.2 c13
          refine ex_aload_n (q := 53) (x := a_0) dX12_search_52 rfl ?_
          refine ex_bipush (q := 55) (v := 7) dX12_search_53 (by decide) ?_
          have s21 := w.1
          replace w := w.2
          refine ex_callV (q := 58) (M := mX12_search) (hdd := Nat.le_refl _) (mc := 0) (ms := 0) (d' := (d + 4)) (c := 12) (st := []) (bc := bc) (bs := bs) dX12_search_55 rfl cl_X12_200 wd_1614 wd_50 s10 (X12_meets_s (Q := fun r z => r = some (.int (X12_meets_V a_0 7 h7)) ∧ z = X12_meets_H a_0 7 h7) s21 ⟨rfl, rfl⟩) ?_
          intro r z hrz
          rw [hrz.1, hrz.2]
          show ex_G mX12_search (d + 5) 58 [.ref a_0, .int v_1, .int v_2] [.int (X12_meets_V a_0 7 h7)] (X12_meets_H a_0 7 h7) bc bs Q
          refine ex_nmh (fun h22 eh22 => ?_)
          replace w := w h22 eh22
          exact ex_ireturn dX12_search_58 rfl (Or.inl rfl) w
      · replace w := w.2 c9
        refine ex_aload_n (q := 36) (x := a_0) dX12_search_35 rfl ?_
        refine ex_iconst (q := 37) (v := 3) dX12_search_36 (by decide) ?_
        have s23 := w.1
        replace w := w.2
        have s24 := w.1
        replace w := w.2
        refine ex_callV (q := 40) (M := mX12_search) (hdd := Nat.le_refl _) (mc := 0) (ms := 0) (d' := (d + 4)) (c := 12) (st := []) (bc := bc) (bs := bs) dX12_search_37 rfl cl_X12_200 wd_1614 wd_50 s23 (X12_meets_s (Q := fun r z => r = some (.int (X12_meets_V a_0 3 h7)) ∧ z = X12_meets_H a_0 3 h7) s24 ⟨rfl, rfl⟩) ?_
        intro r z hrz
        rw [hrz.1, hrz.2]
        show ex_G mX12_search (d + 5) 40 [.ref a_0, .int v_1, .int v_2] [.int (X12_meets_V a_0 3 h7)] (X12_meets_H a_0 3 h7) bc bs Q
        refine ex_nmh (fun h25 eh25 => ?_)
        replace w := w h25 eh25
        exact ex_ireturn dX12_search_40 rfl (Or.inl rfl) w
    · replace w := w.2 c6
      refine ex_aload_n (q := 21) (x := a_0) dX12_search_20 rfl ?_
      refine ex_bipush (q := 23) (v := (-2)) dX12_search_21 (by decide) ?_
      have s26 := w.1
      replace w := w.2
      refine ex_callV (q := 26) (M := mX12_search) (hdd := Nat.le_refl _) (mc := 0) (ms := 0) (d' := (d + 4)) (c := 12) (st := []) (bc := bc) (bs := bs) dX12_search_23 rfl cl_X12_165 wd_1581 wd_46 s1 (X12_no_s (Q := fun r z => r = some (.int (X12_no_V a_0 (-2) h)) ∧ z = X12_no_H a_0 (-2) h) s26 ⟨rfl, rfl⟩) ?_
      intro r z hrz
      rw [hrz.1, hrz.2]
      show ex_G mX12_search (d + 5) 26 [.ref a_0, .int v_1, .int v_2] [.int (X12_no_V a_0 (-2) h)] (X12_no_H a_0 (-2) h) bc bs Q
      refine ex_nmh (fun h27 eh27 => ?_)
      replace w := w h27 eh27
      exact ex_ireturn dX12_search_26 rfl (Or.inl rfl) w

theorem X12_search_e {d bc bs : Nat} {h : AH} {Q : Option Value → AH → Prop} {a_0 : Nat} {v_1 : Int32} {v_2 : Int32} (w : ex_G mX12_search (d + 5) 0 [.ref a_0, .int v_1, .int v_2] [] h bc bs Q) : ex_S yX12_search mX12_search (d + 5) [.ref a_0, .int v_1, .int v_2] h bc bs Q :=
  ex_enter (plainFor_of_name (by decide +kernel)) ⟨rfl, rfl⟩ rfl rfl (Nat.le_of_ble_eq_true rfl) (ex_pad 0 w)

set_option maxRecDepth 100000 in
theorem X12_goOn_0 {d bc bs : Nat} {h : AH} {Q : Option Value → AH → Prop} {a_0 : Nat} {v_1 : Int32} (w : ((¬ (X12_in_V (Int32.toInt64 v_1) 0 5000 h) = 0 → ah_o h a_0 12 ∧ (((ah_f h a_0 49) = 0 → X12_meets_C a_0 5 h ∧ ∀ h5, h5 = X12_meets_H a_0 5 h → Q (some (.int (X12_meets_V a_0 5 h))) h5) ∧ (¬ (ah_f h a_0 49) = 0 → ex_S yX12_goes mX12_goes (d + 4) [.ref a_0, .int v_1, .int 0] h 0 0 (fun r h6 => ∃ x7, r = some (.int x7) ∧ ah_o h6 a_0 12 ∧ X12_well_C a_0 x7 h6 ∧ ∀ h10, h10 = X12_well_H a_0 x7 h6 → Q (some (.int (X12_well_V a_0 x7 h6))) h10)))) ∧ ((X12_in_V (Int32.toInt64 v_1) 0 5000 h) = 0 → ah_o h a_0 12 ∧ X12_no_C a_0 (-2) h ∧ ∀ h13, h13 = X12_no_H a_0 (-2) h → Q (some (.int (X12_no_V a_0 (-2) h))) h13))) : ex_G mX12_goOn (d + 5) 0 [.ref a_0, .int v_1] [] h bc bs Q := by
  refine ex_iload_n (q := 1) (x := v_1) dX12_goOn_0 rfl ?_
  refine ex_i2l (q := 2) dX12_goOn_1 ?_
  refine ex_lconst (q := 3) (v := 0) dX12_goOn_2 (by decide) ?_
  refine ex_ldc2_w (q := 6) (v := 5000) dX12_goOn_3 wd_1989 ?_
  refine ex_callS (q := 9) (M := mX12_goOn) (hdd := Nat.le_refl _) (mc := 0) (ms := 0) (d' := (d + 4)) (st := []) (bc := bc) (bs := bs) dX12_goOn_6 rfl cl_X12_172 wd_1596 (X12_in_s (Q := fun r z => r = some (.int (X12_in_V (Int32.toInt64 v_1) 0 5000 h)) ∧ z = h) ⟨rfl, rfl⟩) ?_
  intro r z hrz
  rw [hrz.1, hrz.2]
  show ex_G mX12_goOn (d + 5) 9 [.ref a_0, .int v_1] [.int (X12_in_V (Int32.toInt64 v_1) 0 5000 h)] (h) bc bs Q
  refine ex_if_ne (tgt := 19) (q := 12) dX12_goOn_9 (fun c1 => ?_) (fun c1 => ?_)
  · replace w := w.1 c1
    refine ex_aload_n (q := 20) (x := a_0) dX12_goOn_19 rfl ?_
    have s2 := w.1
    replace w := w.2
    refine ex_getf (q := 23) dX12_goOn_20 fl_X12_420 s2 ?_
    refine ex_if_eq (tgt := 39) (q := 26) dX12_goOn_23 (fun c3 => ?_) (fun c3 => ?_)
    · replace w := w.1 c3
      refine ex_aload_n (q := 40) (x := a_0) dX12_goOn_39 rfl ?_
      refine ex_iconst (q := 41) (v := 5) dX12_goOn_40 (by decide) ?_
      have s4 := w.1
      replace w := w.2
      refine ex_callV (q := 44) (M := mX12_goOn) (hdd := Nat.le_refl _) (mc := 0) (ms := 0) (d' := (d + 4)) (c := 12) (st := []) (bc := bc) (bs := bs) dX12_goOn_41 rfl cl_X12_200 wd_1614 wd_50 s2 (X12_meets_s (Q := fun r z => r = some (.int (X12_meets_V a_0 5 h)) ∧ z = X12_meets_H a_0 5 h) s4 ⟨rfl, rfl⟩) ?_
      intro r z hrz
      rw [hrz.1, hrz.2]
      show ex_G mX12_goOn (d + 5) 44 [.ref a_0, .int v_1] [.int (X12_meets_V a_0 5 h)] (X12_meets_H a_0 5 h) bc bs Q
      refine ex_nmh (fun h5 eh5 => ?_)
      replace w := w h5 eh5
      exact ex_ireturn dX12_goOn_44 rfl (Or.inl rfl) w
    · replace w := w.2 c3
      refine ex_aload_n (q := 27) (x := a_0) dX12_goOn_26 rfl ?_
      refine ex_aload_n (q := 28) (x := a_0) dX12_goOn_27 rfl ?_
      refine ex_iload_n (q := 29) (x := v_1) dX12_goOn_28 rfl ?_
      refine ex_iconst (q := 30) (v := 0) dX12_goOn_29 (by decide) ?_
      refine ex_callV (q := 33) (M := mX12_goOn) (hdd := Nat.le_refl _) (c := 12) (st := [.ref a_0]) (bc := bc) (bs := bs) dX12_goOn_30 rfl cl_X12_449 wd_1996 wd_104 s2 w ?_
      rintro r h6 ⟨x7, rfl, w⟩
      show ex_G mX12_goOn (d + 5) 33 [.ref a_0, .int v_1] [.int x7, .ref a_0] h6 bc bs Q
      have s8 := w.1
      replace w := w.2
      have s9 := w.1
      replace w := w.2
      refine ex_callV (q := 36) (M := mX12_goOn) (hdd := Nat.le_refl _) (mc := 0) (ms := 0) (d' := (d + 4)) (c := 12) (st := []) (bc := bc) (bs := bs) dX12_goOn_33 rfl cl_X12_180 wd_1585 wd_47 s8 (X12_well_s (Q := fun r z => r = some (.int (X12_well_V a_0 x7 h6)) ∧ z = X12_well_H a_0 x7 h6) s9 ⟨rfl, rfl⟩) ?_
      intro r z hrz
      rw [hrz.1, hrz.2]
      show ex_G mX12_goOn (d + 5) 36 [.ref a_0, .int v_1] [.int (X12_well_V a_0 x7 h6)] (X12_well_H a_0 x7 h6) bc bs Q
      refine ex_nmh (fun h10 eh10 => ?_)
      replace w := w h10 eh10
      refine ex_goto (tgt := 44) dX12_goOn_36 ?_
      exact ex_ireturn dX12_goOn_44 rfl (Or.inl rfl) w
  · replace w := w.2 c1
    refine ex_aload_n (q := 13) (x := a_0) dX12_goOn_12 rfl ?_
    refine ex_bipush (q := 15) (v := (-2)) dX12_goOn_13 (by decide) ?_
    have s11 := w.1
    replace w := w.2
    have s12 := w.1
    replace w := w.2
    refine ex_callV (q := 18) (M := mX12_goOn) (hdd := Nat.le_refl _) (mc := 0) (ms := 0) (d' := (d + 4)) (c := 12) (st := []) (bc := bc) (bs := bs) dX12_goOn_15 rfl cl_X12_165 wd_1581 wd_46 s11 (X12_no_s (Q := fun r z => r = some (.int (X12_no_V a_0 (-2) h)) ∧ z = X12_no_H a_0 (-2) h) s12 ⟨rfl, rfl⟩) ?_
    intro r z hrz
    rw [hrz.1, hrz.2]
    show ex_G mX12_goOn (d + 5) 18 [.ref a_0, .int v_1] [.int (X12_no_V a_0 (-2) h)] (X12_no_H a_0 (-2) h) bc bs Q
    refine ex_nmh (fun h13 eh13 => ?_)
    replace w := w h13 eh13
    exact ex_ireturn dX12_goOn_18 rfl (Or.inl rfl) w

theorem X12_goOn_e {d bc bs : Nat} {h : AH} {Q : Option Value → AH → Prop} {a_0 : Nat} {v_1 : Int32} (w : ex_G mX12_goOn (d + 5) 0 [.ref a_0, .int v_1] [] h bc bs Q) : ex_S yX12_goOn mX12_goOn (d + 5) [.ref a_0, .int v_1] h bc bs Q :=
  ex_enter (plainFor_of_name (by decide +kernel)) ⟨rfl, rfl⟩ rfl rfl (Nat.le_of_ble_eq_true rfl) (ex_pad 0 w)

set_option maxRecDepth 100000 in
theorem X12_fewest_0 {d bc bs : Nat} {h : AH} {Q : Option Value → AH → Prop} {a_0 : Nat} (w : ex_G mX12_fewest d 4 [.ref a_0, .int 0, .int 1] [] h bc bs Q) : ex_G mX12_fewest d 0 [.ref a_0, .retAddr 0, .retAddr 0] [] h bc bs Q := by
  refine ex_iconst (q := 1) (v := 0) dX12_fewest_0 (by decide) ?_
  refine ex_istore_n (q := 2) (ls' := [.ref a_0, .int 0, .retAddr 0]) dX12_fewest_1 rfl ?_
  refine ex_iconst (q := 3) (v := 1) dX12_fewest_2 (by decide) ?_
  refine ex_istore_n (q := 4) (ls' := [.ref a_0, .int 0, .int 1]) dX12_fewest_3 rfl ?_
  exact w

set_option maxRecDepth 100000 in
theorem X12_fewest_4 {d bc bs : Nat} {h : AH} {Q : Option Value → AH → Prop} {a_0 : Nat} {v_1 : Int32} {v_2 : Int32} (w : ah_o h a_0 12 ∧ (((ah_f h a_0 51) ≤ v_2 → Q (some (.int v_1)) h) ∧ (¬ (ah_f h a_0 51) ≤ v_2 → ∃ a3, ah_r h a_0 2 = some a3 ∧ ld0 h a3 (264 + v_2) ∧ ld0 h a3 (264 + v_1) ∧ (((ah_i h a3 (Int32.toNatClampNeg (264 + v_1))) ≤ (ah_i h a3 (Int32.toNatClampNeg (264 + v_2))) → ∀ x7, x7 = v_2 + 1 → ex_G mX12_fewest d 4 [.ref a_0, .int v_1, .int x7] [] h bc bs Q) ∧ (¬ (ah_i h a3 (Int32.toNatClampNeg (264 + v_1))) ≤ (ah_i h a3 (Int32.toNatClampNeg (264 + v_2))) → ∀ x8, x8 = v_2 + 1 → ex_G mX12_fewest d 4 [.ref a_0, .int v_2, .int x8] [] h bc bs Q))))) : ex_G mX12_fewest d 4 [.ref a_0, .int v_1, .int v_2] [] h bc bs Q := by
  refine ex_iload_n (q := 5) (x := v_2) dX12_fewest_4 rfl ?_
  refine ex_aload_n (q := 6) (x := a_0) dX12_fewest_5 rfl ?_
  have s1 := w.1
  replace w := w.2
  refine ex_getf (q := 9) dX12_fewest_6 fl_X12_426 s1 ?_
  refine ex_icmp_ge (tgt := 47) (q := 12) dX12_fewest_9 (fun c2 => ?_) (fun c2 => ?_)
  · replace w := w.1 c2
    refine ex_iload_n (q := 48) (x := v_1) dX12_fewest_47 rfl ?_
    exact ex_ireturn dX12_fewest_48 rfl (Or.inl rfl) w
  · replace w := w.2 c2
    refine ex_aload_n (q := 13) (x := a_0) dX12_fewest_12 rfl ?_
    obtain ⟨a3, ea3, w⟩ := w
    refine ex_getr (q := 16) dX12_fewest_13 fl_X12_13 s1 ea3 ?_
    refine ex_sipush (q := 19) (v := 264) dX12_fewest_16 (by decide) ?_
    refine ex_iload_n (q := 20) (x := v_2) dX12_fewest_19 rfl ?_
    refine ex_iadd (q := 21) dX12_fewest_20 ?_
    have s4 := w.1
    replace w := w.2
    refine ex_iald (q := 22) dX12_fewest_21 s4 ?_
    refine ex_aload_n (q := 23) (x := a_0) dX12_fewest_22 rfl ?_
    refine ex_getr (q := 26) dX12_fewest_23 fl_X12_13 s1 ea3 ?_
    refine ex_sipush (q := 29) (v := 264) dX12_fewest_26 (by decide) ?_
    refine ex_iload_n (q := 30) (x := v_1) dX12_fewest_29 rfl ?_
    refine ex_iadd (q := 31) dX12_fewest_30 ?_
    have s5 := w.1
    replace w := w.2
    refine ex_iald (q := 32) dX12_fewest_31 s5 ?_
    refine ex_icmp_ge (tgt := 39) (q := 35) dX12_fewest_32 (fun c6 => ?_) (fun c6 => ?_)
    · replace w := w.1 c6
      refine ex_iload_n (q := 40) (x := v_1) dX12_fewest_39 rfl ?_
      refine ex_istore_n (q := 41) (ls' := [.ref a_0, .int v_1, .int v_2]) dX12_fewest_40 rfl ?_
      obtain ⟨x7, ex7⟩ : ∃ y : Int32, y = v_2 + 1 := ⟨_, rfl⟩
      replace w := w x7 ex7
      refine ex_iinc (q := 44) (x := v_2) (v := x7) (ls' := [.ref a_0, .int v_1, .int x7]) dX12_fewest_41 rfl (by rw [ex7]; rfl) rfl ?_
      refine ex_goto (tgt := 4) dX12_fewest_44 ?_
      exact w
    · replace w := w.2 c6
      refine ex_iload_n (q := 36) (x := v_2) dX12_fewest_35 rfl ?_
      refine ex_goto (tgt := 40) dX12_fewest_36 ?_
      refine ex_istore_n (q := 41) (ls' := [.ref a_0, .int v_2, .int v_2]) dX12_fewest_40 rfl ?_
      obtain ⟨x8, ex8⟩ : ∃ y : Int32, y = v_2 + 1 := ⟨_, rfl⟩
      replace w := w x8 ex8
      refine ex_iinc (q := 44) (x := v_2) (v := x8) (ls' := [.ref a_0, .int v_2, .int x8]) dX12_fewest_41 rfl (by rw [ex8]; rfl) rfl ?_
      refine ex_goto (tgt := 4) dX12_fewest_44 ?_
      exact w

theorem X12_fewest_e {d bc bs : Nat} {h : AH} {Q : Option Value → AH → Prop} {a_0 : Nat} (w : ex_G mX12_fewest d 0 [.ref a_0, .retAddr 0, .retAddr 0] [] h bc bs Q) : ex_S yX12_fewest mX12_fewest d [.ref a_0] h bc bs Q :=
  ex_enter (plainFor_of_name (by decide +kernel)) ⟨rfl, rfl⟩ rfl rfl (Nat.le_of_ble_eq_true rfl) (ex_pad 2 w)

set_option maxRecDepth 100000 in
theorem X12_searched_0 {d bc bs : Nat} {h : AH} {Q : Option Value → AH → Prop} {a_0 : Nat} {v_1 : Int32} (w : ((¬ (X12_in_V (Int32.toInt64 v_1) 0 3 h) = 0 → ah_o h a_0 12 ∧ ((¬ (ah_f h a_0 49) = 0 → ((¬ v_1 = 0 → ((¬ v_1 = 1 → ((¬ v_1 = 2 → X12_well_C a_0 (ah_f h a_0 54) h ∧ ∀ h8, h8 = X12_well_H a_0 (ah_f h a_0 54) h → Q (some (.int (X12_well_V a_0 (ah_f h a_0 54) h))) h8) ∧ (v_1 = 2 → ∃ a9, ah_r h a_0 2 = some a9 ∧ ex_S yX12_fewest mX12_fewest (d + 1) [.ref a_0] h 0 0 (fun r h10 => ∃ x11, r = some (.int x11) ∧ ld0 h10 a9 (264 + x11) ∧ ah_o h10 a_0 12 ∧ X12_well_C a_0 (ah_i h10 a9 (Int32.toNatClampNeg (264 + x11))) h10 ∧ ∀ h15, h15 = X12_well_H a_0 (ah_i h10 a9 (Int32.toNatClampNeg (264 + x11))) h10 → Q (some (.int (X12_well_V a_0 (ah_i h10 a9 (Int32.toNatClampNeg (264 + x11))) h10))) h15)))) ∧ (v_1 = 1 → X12_well_C a_0 (ah_f h a_0 51) h ∧ ∀ h17, h17 = X12_well_H a_0 (ah_f h a_0 51) h → Q (some (.int (X12_well_V a_0 (ah_f h a_0 51) h))) h17))) ∧ (v_1 = 0 → (((ah_f h a_0 50) = 0 → X12_well_C a_0 0 h ∧ ∀ h20, h20 = X12_well_H a_0 0 h → Q (some (.int (X12_well_V a_0 0 h))) h20) ∧ (¬ (ah_f h a_0 50) = 0 → X12_well_C a_0 1 h ∧ ∀ h22, h22 = X12_well_H a_0 1 h → Q (some (.int (X12_well_V a_0 1 h))) h22))))) ∧ ((ah_f h a_0 49) = 0 → X12_meets_C a_0 5 h ∧ ∀ h24, h24 = X12_meets_H a_0 5 h → Q (some (.int (X12_meets_V a_0 5 h))) h24))) ∧ ((X12_in_V (Int32.toInt64 v_1) 0 3 h) = 0 → ah_o h a_0 12 ∧ X12_no_C a_0 (-2) h ∧ ∀ h27, h27 = X12_no_H a_0 (-2) h → Q (some (.int (X12_no_V a_0 (-2) h))) h27))) : ex_G mX12_searched (d + 2) 0 [.ref a_0, .int v_1] [] h bc bs Q := by
  refine ex_iload_n (q := 1) (x := v_1) dX12_searched_0 rfl ?_
  refine ex_i2l (q := 2) dX12_searched_1 ?_
  refine ex_lconst (q := 3) (v := 0) dX12_searched_2 (by decide) ?_
  refine ex_ldc2_w (q := 6) (v := 3) dX12_searched_3 wd_1906 ?_
  refine ex_callS (q := 9) (M := mX12_searched) (hdd := Nat.le_refl _) (mc := 0) (ms := 0) (d' := (d + 1)) (st := []) (bc := bc) (bs := bs) dX12_searched_6 rfl cl_X12_172 wd_1596 (X12_in_s (Q := fun r z => r = some (.int (X12_in_V (Int32.toInt64 v_1) 0 3 h)) ∧ z = h) ⟨rfl, rfl⟩) ?_
  intro r z hrz
  rw [hrz.1, hrz.2]
  show ex_G mX12_searched (d + 2) 9 [.ref a_0, .int v_1] [.int (X12_in_V (Int32.toInt64 v_1) 0 3 h)] (h) bc bs Q
  refine ex_if_ne (tgt := 19) (q := 12) dX12_searched_9 (fun c1 => ?_) (fun c1 => ?_)
  · replace w := w.1 c1
    refine ex_aload_n (q := 20) (x := a_0) dX12_searched_19 rfl ?_
    have s2 := w.1
    replace w := w.2
    refine ex_getf (q := 23) dX12_searched_20 fl_X12_420 s2 ?_
    refine ex_if_ne (tgt := 32) (q := 26) dX12_searched_23 (fun c3 => ?_) (fun c3 => ?_)
    · replace w := w.1 c3
      refine ex_aload_n (q := 33) (x := a_0) dX12_searched_32 rfl ?_
      refine ex_iload_n (q := 34) (x := v_1) dX12_searched_33 rfl ?_
      refine ex_if_ne (tgt := 52) (q := 37) dX12_searched_34 (fun c4 => ?_) (fun c4 => ?_)
      · replace w := w.1 c4
        refine ex_iload_n (q := 53) (x := v_1) dX12_searched_52 rfl ?_
        refine ex_iconst (q := 54) (v := 1) dX12_searched_53 (by decide) ?_
        refine ex_icmp_ne (tgt := 64) (q := 57) dX12_searched_54 (fun c5 => ?_) (fun c5 => ?_)
        · replace w := w.1 c5
          refine ex_iload_n (q := 65) (x := v_1) dX12_searched_64 rfl ?_
          refine ex_iconst (q := 66) (v := 2) dX12_searched_65 (by decide) ?_
          refine ex_icmp_ne (tgt := 85) (q := 69) dX12_searched_66 (fun c6 => ?_) (fun c6 => ?_)
          · replace w := w.1 c6
            refine ex_aload_n (q := 86) (x := a_0) dX12_searched_85 rfl ?_
            refine ex_getf (q := 89) dX12_searched_86 fl_X12_435 s2 ?_
            have s7 := w.1
            replace w := w.2
            refine ex_callV (q := 92) (M := mX12_searched) (hdd := Nat.le_refl _) (mc := 0) (ms := 0) (d' := (d + 1)) (c := 12) (st := []) (bc := bc) (bs := bs) dX12_searched_89 rfl cl_X12_180 wd_1585 wd_47 s2 (X12_well_s (Q := fun r z => r = some (.int (X12_well_V a_0 (ah_f h a_0 54) h)) ∧ z = X12_well_H a_0 (ah_f h a_0 54) h) s7 ⟨rfl, rfl⟩) ?_
            intro r z hrz
            rw [hrz.1, hrz.2]
            show ex_G mX12_searched (d + 2) 92 [.ref a_0, .int v_1] [.int (X12_well_V a_0 (ah_f h a_0 54) h)] (X12_well_H a_0 (ah_f h a_0 54) h) bc bs Q
            refine ex_nmh (fun h8 eh8 => ?_)
            replace w := w h8 eh8
            exact ex_ireturn dX12_searched_92 rfl (Or.inl rfl) w
          · replace w := w.2 c6
            refine ex_aload_n (q := 70) (x := a_0) dX12_searched_69 rfl ?_
            obtain ⟨a9, ea9, w⟩ := w
            refine ex_getr (q := 73) dX12_searched_70 fl_X12_13 s2 ea9 ?_
            refine ex_sipush (q := 76) (v := 264) dX12_searched_73 (by decide) ?_
            refine ex_aload_n (q := 77) (x := a_0) dX12_searched_76 rfl ?_
            refine ex_callV (q := 80) (M := mX12_searched) (hdd := Nat.le_refl _) (c := 12) (st := [.int 264, .ref a9, .ref a_0]) (bc := bc) (bs := bs) dX12_searched_77 rfl cl_X12_452 wd_2016 wd_107 s2 w ?_
            rintro r h10 ⟨x11, rfl, w⟩
            show ex_G mX12_searched (d + 2) 80 [.ref a_0, .int v_1] [.int x11, .int 264, .ref a9, .ref a_0] h10 bc bs Q
            refine ex_iadd (q := 81) dX12_searched_80 ?_
            have s12 := w.1
            replace w := w.2
            refine ex_iald (q := 82) dX12_searched_81 s12 ?_
            refine ex_goto (tgt := 89) dX12_searched_82 ?_
            have s13 := w.1
            replace w := w.2
            have s14 := w.1
            replace w := w.2
            refine ex_callV (q := 92) (M := mX12_searched) (hdd := Nat.le_refl _) (mc := 0) (ms := 0) (d' := (d + 1)) (c := 12) (st := []) (bc := bc) (bs := bs) dX12_searched_89 rfl cl_X12_180 wd_1585 wd_47 s13 (X12_well_s (Q := fun r z => r = some (.int (X12_well_V a_0 (ah_i h10 a9 (Int32.toNatClampNeg (264 + x11))) h10)) ∧ z = X12_well_H a_0 (ah_i h10 a9 (Int32.toNatClampNeg (264 + x11))) h10) s14 ⟨rfl, rfl⟩) ?_
            intro r z hrz
            rw [hrz.1, hrz.2]
            show ex_G mX12_searched (d + 2) 92 [.ref a_0, .int v_1] [.int (X12_well_V a_0 (ah_i h10 a9 (Int32.toNatClampNeg (264 + x11))) h10)] (X12_well_H a_0 (ah_i h10 a9 (Int32.toNatClampNeg (264 + x11))) h10) bc bs Q
            refine ex_nmh (fun h15 eh15 => ?_)
            replace w := w h15 eh15
            exact ex_ireturn dX12_searched_92 rfl (Or.inl rfl) w
        · replace w := w.2 c5
          refine ex_aload_n (q := 58) (x := a_0) dX12_searched_57 rfl ?_
          refine ex_getf (q := 61) dX12_searched_58 fl_X12_426 s2 ?_
          refine ex_goto (tgt := 89) dX12_searched_61 ?_
          have s16 := w.1
          replace w := w.2
          refine ex_callV (q := 92) (M := mX12_searched) (hdd := Nat.le_refl _) (mc := 0) (ms := 0) (d' := (d + 1)) (c := 12) (st := []) (bc := bc) (bs := bs) dX12_searched_89 rfl cl_X12_180 wd_1585 wd_47 s2 (X12_well_s (Q := fun r z => r = some (.int (X12_well_V a_0 (ah_f h a_0 51) h)) ∧ z = X12_well_H a_0 (ah_f h a_0 51) h) s16 ⟨rfl, rfl⟩) ?_
          intro r z hrz
          rw [hrz.1, hrz.2]
          show ex_G mX12_searched (d + 2) 92 [.ref a_0, .int v_1] [.int (X12_well_V a_0 (ah_f h a_0 51) h)] (X12_well_H a_0 (ah_f h a_0 51) h) bc bs Q
          refine ex_nmh (fun h17 eh17 => ?_)
          replace w := w h17 eh17
          exact ex_ireturn dX12_searched_92 rfl (Or.inl rfl) w
      · replace w := w.2 c4
        refine ex_aload_n (q := 38) (x := a_0) dX12_searched_37 rfl ?_
        refine ex_getf (q := 41) dX12_searched_38 fl_X12_423 s2 ?_
        refine ex_if_eq (tgt := 48) (q := 44) dX12_searched_41 (fun c18 => ?_) (fun c18 => ?_)
        · replace w := w.1 c18
          refine ex_iconst (q := 49) (v := 0) dX12_searched_48 (by decide) ?_
          refine ex_goto (tgt := 89) dX12_searched_49 ?_
          have s19 := w.1
          replace w := w.2
          refine ex_callV (q := 92) (M := mX12_searched) (hdd := Nat.le_refl _) (mc := 0) (ms := 0) (d' := (d + 1)) (c := 12) (st := []) (bc := bc) (bs := bs) dX12_searched_89 rfl cl_X12_180 wd_1585 wd_47 s2 (X12_well_s (Q := fun r z => r = some (.int (X12_well_V a_0 0 h)) ∧ z = X12_well_H a_0 0 h) s19 ⟨rfl, rfl⟩) ?_
          intro r z hrz
          rw [hrz.1, hrz.2]
          show ex_G mX12_searched (d + 2) 92 [.ref a_0, .int v_1] [.int (X12_well_V a_0 0 h)] (X12_well_H a_0 0 h) bc bs Q
          refine ex_nmh (fun h20 eh20 => ?_)
          replace w := w h20 eh20
          exact ex_ireturn dX12_searched_92 rfl (Or.inl rfl) w
        · replace w := w.2 c18
          refine ex_iconst (q := 45) (v := 1) dX12_searched_44 (by decide) ?_
          refine ex_goto (tgt := 89) dX12_searched_45 ?_
          have s21 := w.1
          replace w := w.2
          refine ex_callV (q := 92) (M := mX12_searched) (hdd := Nat.le_refl _) (mc := 0) (ms := 0) (d' := (d + 1)) (c := 12) (st := []) (bc := bc) (bs := bs) dX12_searched_89 rfl cl_X12_180 wd_1585 wd_47 s2 (X12_well_s (Q := fun r z => r = some (.int (X12_well_V a_0 1 h)) ∧ z = X12_well_H a_0 1 h) s21 ⟨rfl, rfl⟩) ?_
          intro r z hrz
          rw [hrz.1, hrz.2]
          show ex_G mX12_searched (d + 2) 92 [.ref a_0, .int v_1] [.int (X12_well_V a_0 1 h)] (X12_well_H a_0 1 h) bc bs Q
          refine ex_nmh (fun h22 eh22 => ?_)
          replace w := w h22 eh22
          exact ex_ireturn dX12_searched_92 rfl (Or.inl rfl) w
    · replace w := w.2 c3
      refine ex_aload_n (q := 27) (x := a_0) dX12_searched_26 rfl ?_
      refine ex_iconst (q := 28) (v := 5) dX12_searched_27 (by decide) ?_
      have s23 := w.1
      replace w := w.2
      refine ex_callV (q := 31) (M := mX12_searched) (hdd := Nat.le_refl _) (mc := 0) (ms := 0) (d' := (d + 1)) (c := 12) (st := []) (bc := bc) (bs := bs) dX12_searched_28 rfl cl_X12_200 wd_1614 wd_50 s2 (X12_meets_s (Q := fun r z => r = some (.int (X12_meets_V a_0 5 h)) ∧ z = X12_meets_H a_0 5 h) s23 ⟨rfl, rfl⟩) ?_
      intro r z hrz
      rw [hrz.1, hrz.2]
      show ex_G mX12_searched (d + 2) 31 [.ref a_0, .int v_1] [.int (X12_meets_V a_0 5 h)] (X12_meets_H a_0 5 h) bc bs Q
      refine ex_nmh (fun h24 eh24 => ?_)
      replace w := w h24 eh24
      exact ex_ireturn dX12_searched_31 rfl (Or.inl rfl) w
  · replace w := w.2 c1
    refine ex_aload_n (q := 13) (x := a_0) dX12_searched_12 rfl ?_
    refine ex_bipush (q := 15) (v := (-2)) dX12_searched_13 (by decide) ?_
    have s25 := w.1
    replace w := w.2
    have s26 := w.1
    replace w := w.2
    refine ex_callV (q := 18) (M := mX12_searched) (hdd := Nat.le_refl _) (mc := 0) (ms := 0) (d' := (d + 1)) (c := 12) (st := []) (bc := bc) (bs := bs) dX12_searched_15 rfl cl_X12_165 wd_1581 wd_46 s25 (X12_no_s (Q := fun r z => r = some (.int (X12_no_V a_0 (-2) h)) ∧ z = X12_no_H a_0 (-2) h) s26 ⟨rfl, rfl⟩) ?_
    intro r z hrz
    rw [hrz.1, hrz.2]
    show ex_G mX12_searched (d + 2) 18 [.ref a_0, .int v_1] [.int (X12_no_V a_0 (-2) h)] (X12_no_H a_0 (-2) h) bc bs Q
    refine ex_nmh (fun h27 eh27 => ?_)
    replace w := w h27 eh27
    exact ex_ireturn dX12_searched_18 rfl (Or.inl rfl) w

theorem X12_searched_e {d bc bs : Nat} {h : AH} {Q : Option Value → AH → Prop} {a_0 : Nat} {v_1 : Int32} (w : ex_G mX12_searched (d + 2) 0 [.ref a_0, .int v_1] [] h bc bs Q) : ex_S yX12_searched mX12_searched (d + 2) [.ref a_0, .int v_1] h bc bs Q :=
  ex_enter (plainFor_of_name (by decide +kernel)) ⟨rfl, rfl⟩ rfl rfl (Nat.le_of_ble_eq_true rfl) (ex_pad 0 w)

set_option maxRecDepth 100000 in
theorem X12_waysTo_0 {d bc bs : Nat} {h : AH} {Q : Option Value → AH → Prop} {a_0 : Nat} {v_1 : Int32} (w : ah_o h a_0 12 ∧ ∀ h2, h2 = ah_sf h a_0 59 0 → ex_G mX12_waysTo d 7 [.ref a_0, .int v_1, .int v_1, .retAddr 0] [] h2 bc bs Q) : ex_G mX12_waysTo d 0 [.ref a_0, .int v_1, .retAddr 0, .retAddr 0] [] h bc bs Q := by
  refine ex_aload_n (q := 1) (x := a_0) dX12_waysTo_0 rfl ?_
  refine ex_iconst (q := 2) (v := 0) dX12_waysTo_1 (by decide) ?_
  have s1 := w.1
  replace w := w.2
  refine ex_putf (q := 5) dX12_waysTo_2 fl_X12_455 (Or.inl rfl) s1 (Or.inl rfl) ?_
  refine ex_nmh (fun h2 eh2 => ?_)
  replace w := w h2 eh2
  refine ex_iload_n (q := 6) (x := v_1) dX12_waysTo_5 rfl ?_
  refine ex_istore_n (q := 7) (ls' := [.ref a_0, .int v_1, .int v_1, .retAddr 0]) dX12_waysTo_6 rfl ?_
  exact w

set_option maxRecDepth 100000 in
theorem X12_waysTo_7 {d bc bs : Nat} {h : AH} {Q : Option Value → AH → Prop} {a_0 : Nat} {v_1 : Int32} {v_2 : Int32} (w : ((v_2 ≤ 0 → ah_o h a_0 12 ∧ ∀ x3, x3 = ah_f h a_0 59 → ex_G mX12_waysTo d 38 [.ref a_0, .retAddr 0, .int x3, .int v_1] [] h bc bs Q) ∧ (¬ v_2 ≤ 0 → ah_o h a_0 12 ∧ ∀ h5, h5 = ah_sf h a_0 59 ((ah_f h a_0 59) + 1) → ∃ a6, ah_r h5 a_0 55 = some a6 ∧ ld0 h5 a6 v_2 ∧ ∀ x8, x8 = ah_i h5 a6 (Int32.toNatClampNeg v_2) → ex_G mX12_waysTo d 7 [.ref a_0, .int v_1, .int x8, .retAddr 0] [] h5 bc bs Q))) : ex_G mX12_waysTo d 7 [.ref a_0, .int v_1, .int v_2, .retAddr 0] [] h bc bs Q := by
  refine ex_iload_n (q := 8) (x := v_2) dX12_waysTo_7 rfl ?_
  refine ex_if_le (tgt := 31) (q := 11) dX12_waysTo_8 (fun c1 => ?_) (fun c1 => ?_)
  · replace w := w.1 c1
    refine ex_aload_n (q := 32) (x := a_0) dX12_waysTo_31 rfl ?_
    have s2 := w.1
    replace w := w.2
    refine ex_getf (q := 35) dX12_waysTo_32 fl_X12_455 s2 ?_
    refine ex_nmi (fun x3 ex3 => ?_)
    replace w := w x3 ex3
    refine ex_istore_n (q := 36) (ls' := [.ref a_0, .int v_1, .int x3, .retAddr 0]) dX12_waysTo_35 rfl ?_
    refine ex_iload_n (q := 37) (x := v_1) dX12_waysTo_36 rfl ?_
    refine ex_istore_n (q := 38) (ls' := [.ref a_0, .int v_1, .int x3, .int v_1]) dX12_waysTo_37 rfl ?_
    refine ex_kill 1 (ls' := [.ref a_0, .retAddr 0, .int x3, .int v_1]) rfl ?_
    exact w
  · replace w := w.2 c1
    refine ex_aload_n (q := 12) (x := a_0) dX12_waysTo_11 rfl ?_
    refine ex_dup (q := 13) dX12_waysTo_12 rfl ?_
    have s4 := w.1
    replace w := w.2
    refine ex_getf (q := 16) dX12_waysTo_13 fl_X12_455 s4 ?_
    refine ex_iconst (q := 17) (v := 1) dX12_waysTo_16 (by decide) ?_
    refine ex_iadd (q := 18) dX12_waysTo_17 ?_
    refine ex_putf (q := 21) dX12_waysTo_18 fl_X12_455 (Or.inl rfl) s4 (Or.inl rfl) ?_
    refine ex_nmh (fun h5 eh5 => ?_)
    replace w := w h5 eh5
    refine ex_aload_n (q := 22) (x := a_0) dX12_waysTo_21 rfl ?_
    obtain ⟨a6, ea6, w⟩ := w
    refine ex_getr (q := 25) dX12_waysTo_22 fl_X12_140 (by rw [eh5]; exact s4) ea6 ?_
    refine ex_iload_n (q := 26) (x := v_2) dX12_waysTo_25 rfl ?_
    have s7 := w.1
    replace w := w.2
    refine ex_iald (q := 27) dX12_waysTo_26 s7 ?_
    refine ex_nmi (fun x8 ex8 => ?_)
    replace w := w x8 ex8
    refine ex_istore_n (q := 28) (ls' := [.ref a_0, .int v_1, .int x8, .retAddr 0]) dX12_waysTo_27 rfl ?_
    refine ex_goto (tgt := 7) dX12_waysTo_28 ?_
    exact w

set_option maxRecDepth 100000 in
theorem X12_waysTo_38 {d bc bs : Nat} {h : AH} {Q : Option Value → AH → Prop} {a_0 : Nat} {v_2 : Int32} {v_3 : Int32} (w : ((v_3 ≤ 0 → Q none h) ∧ (¬ v_3 ≤ 0 → ∀ x2, x2 = v_2 + (-1) → ah_o h a_0 12 ∧ ∃ a4, ah_r h a_0 58 = some a4 ∧ ∃ a5, ah_r h a_0 56 = some a5 ∧ ld0 h a5 v_3 ∧ st0 h a4 x2 ∧ ∀ h7, h7 = ah_si h a4 (Int32.toNatClampNeg x2) (ah_i h a5 (Int32.toNatClampNeg v_3)) → ∃ a9, ah_r h7 a_0 55 = some a9 ∧ ld0 h7 a9 v_3 ∧ ∀ x11, x11 = ah_i h7 a9 (Int32.toNatClampNeg v_3) → ex_G mX12_waysTo d 38 [.ref a_0, .retAddr 0, .int x2, .int x11] [] h7 bc bs Q))) : ex_G mX12_waysTo d 38 [.ref a_0, .retAddr 0, .int v_2, .int v_3] [] h bc bs Q := by
  refine ex_iload_n (q := 39) (x := v_3) dX12_waysTo_38 rfl ?_
  refine ex_if_le (tgt := 67) (q := 42) dX12_waysTo_39 (fun c1 => ?_) (fun c1 => ?_)
  · replace w := w.1 c1
    exact ex_return dX12_waysTo_67 w
  · replace w := w.2 c1
    obtain ⟨x2, ex2⟩ : ∃ y : Int32, y = v_2 + (-1) := ⟨_, rfl⟩
    replace w := w x2 ex2
    refine ex_iinc (q := 45) (x := v_2) (v := x2) (ls' := [.ref a_0, .retAddr 0, .int x2, .int v_3]) dX12_waysTo_42 rfl (by rw [ex2]; rfl) rfl ?_
    refine ex_aload_n (q := 46) (x := a_0) dX12_waysTo_45 rfl ?_
    have s3 := w.1
    replace w := w.2
    obtain ⟨a4, ea4, w⟩ := w
    refine ex_getr (q := 49) dX12_waysTo_46 fl_X12_149 s3 ea4 ?_
    refine ex_iload_n (q := 50) (x := x2) dX12_waysTo_49 rfl ?_
    refine ex_aload_n (q := 51) (x := a_0) dX12_waysTo_50 rfl ?_
    obtain ⟨a5, ea5, w⟩ := w
    refine ex_getr (q := 54) dX12_waysTo_51 fl_X12_143 s3 ea5 ?_
    refine ex_iload_n (q := 55) (x := v_3) dX12_waysTo_54 rfl ?_
    have s6 := w.1
    replace w := w.2
    refine ex_iald (q := 56) dX12_waysTo_55 s6 ?_
    have s8 := w.1
    replace w := w.2
    refine ex_iast (q := 57) dX12_waysTo_56 s8 ?_
    refine ex_nmh (fun h7 eh7 => ?_)
    replace w := w h7 eh7
    refine ex_aload_n (q := 58) (x := a_0) dX12_waysTo_57 rfl ?_
    obtain ⟨a9, ea9, w⟩ := w
    refine ex_getr (q := 61) dX12_waysTo_58 fl_X12_140 (by rw [eh7]; exact s3) ea9 ?_
    refine ex_iload_n (q := 62) (x := v_3) dX12_waysTo_61 rfl ?_
    have s10 := w.1
    replace w := w.2
    refine ex_iald (q := 63) dX12_waysTo_62 s10 ?_
    refine ex_nmi (fun x11 ex11 => ?_)
    replace w := w x11 ex11
    refine ex_istore_n (q := 64) (ls' := [.ref a_0, .retAddr 0, .int x2, .int x11]) dX12_waysTo_63 rfl ?_
    refine ex_goto (tgt := 38) dX12_waysTo_64 ?_
    exact w

theorem X12_waysTo_e {d bc bs : Nat} {h : AH} {Q : Option Value → AH → Prop} {a_0 : Nat} {v_1 : Int32} (w : ex_G mX12_waysTo d 0 [.ref a_0, .int v_1, .retAddr 0, .retAddr 0] [] h bc bs Q) : ex_S yX12_waysTo mX12_waysTo d [.ref a_0, .int v_1] h bc bs Q :=
  ex_enter (plainFor_of_name (by decide +kernel)) ⟨rfl, rfl⟩ rfl rfl (Nat.le_of_ble_eq_true rfl) (ex_pad 2 w)

set_option maxRecDepth 100000 in
theorem X12_fewer_0 {d bc bs : Nat} {h : AH} {Q : Option Value → AH → Prop} {a_0 : Nat} (w : ah_o h a_0 12 ∧ ((¬ (ah_f h a_0 6) = 24 → ((¬ (ah_f h a_0 49) = 0 → ex_S yX12_fewest mX12_fewest (d + 1) [.ref a_0] h 0 0 (fun r h4 => ∃ x5, r = some (.int x5) ∧ ah_o h4 a_0 12 ∧ ex_S yX12_waysTo mX12_waysTo (d + 1) [.ref a_0, .int x5] h4 0 0 (fun r h6 => r = none ∧ ah_o h6 a_0 12 ∧ ex_S yX12_added mX12_added (d + 1) [.ref a_0, .int (264 + x5)] h6 0 0 (fun r h8 => ∃ x10, r = some (.int x10) ∧ Q (some (.int x10)) h8)))) ∧ ((ah_f h a_0 49) = 0 → X12_meets_C a_0 5 h ∧ ∀ h12, h12 = X12_meets_H a_0 5 h → Q (some (.int (X12_meets_V a_0 5 h))) h12))) ∧ ((ah_f h a_0 6) = 24 → X12_no_C a_0 (-3) h ∧ ∀ h14, h14 = X12_no_H a_0 (-3) h → Q (some (.int (X12_no_V a_0 (-3) h))) h14))) : ex_G mX12_fewer (d + 2) 0 [.ref a_0, .retAddr 0] [] h bc bs Q := by
  refine ex_aload_n (q := 1) (x := a_0) dX12_fewer_0 rfl ?_
  have s1 := w.1
  replace w := w.2
  refine ex_getf (q := 4) dX12_fewer_1 fl_X12_169 s1 ?_
  refine ex_bipush (q := 6) (v := 24) dX12_fewer_4 (by decide) ?_
  refine ex_icmp_ne (tgt := 16) (q := 9) dX12_fewer_6 (fun c2 => ?_) (fun c2 => ?_)
  · replace w := w.1 c2
    refine ex_aload_n (q := 17) (x := a_0) dX12_fewer_16 rfl ?_
    refine ex_getf (q := 20) dX12_fewer_17 fl_X12_420 s1 ?_
    refine ex_if_ne (tgt := 29) (q := 23) dX12_fewer_20 (fun c3 => ?_) (fun c3 => ?_)
    · replace w := w.1 c3
      refine ex_aload_n (q := 30) (x := a_0) dX12_fewer_29 rfl ?_
      refine ex_callV (q := 33) (M := mX12_fewer) (hdd := Nat.le_refl _) (c := 12) (st := []) (bc := bc) (bs := bs) dX12_fewer_30 rfl cl_X12_452 wd_2016 wd_107 s1 w ?_
      rintro r h4 ⟨x5, rfl, w⟩
      show ex_G mX12_fewer (d + 2) 33 [.ref a_0, .retAddr 0] [.int x5] h4 bc bs Q
      refine ex_istore_n (q := 34) (ls' := [.ref a_0, .int x5]) dX12_fewer_33 rfl ?_
      refine ex_aload_n (q := 35) (x := a_0) dX12_fewer_34 rfl ?_
      refine ex_iload_n (q := 36) (x := x5) dX12_fewer_35 rfl ?_
      have s7 := w.1
      replace w := w.2
      refine ex_callV (q := 39) (M := mX12_fewer) (hdd := Nat.le_refl _) (c := 12) (st := []) (bc := bc) (bs := bs) dX12_fewer_36 rfl cl_X12_458 wd_2024 wd_108 s7 w ?_
      rintro r h6 ⟨rfl, w⟩
      show ex_G mX12_fewer (d + 2) 39 [.ref a_0, .int x5] [] h6 bc bs Q
      refine ex_aload_n (q := 40) (x := a_0) dX12_fewer_39 rfl ?_
      refine ex_sipush (q := 43) (v := 264) dX12_fewer_40 (by decide) ?_
      refine ex_iload_n (q := 44) (x := x5) dX12_fewer_43 rfl ?_
      refine ex_iadd (q := 45) dX12_fewer_44 ?_
      have s9 := w.1
      replace w := w.2
      refine ex_callV (q := 48) (M := mX12_fewer) (hdd := Nat.le_refl _) (c := 12) (st := []) (bc := bc) (bs := bs) dX12_fewer_45 rfl cl_X12_297 wd_1792 wd_70 s9 w ?_
      rintro r h8 ⟨x10, rfl, w⟩
      show ex_G mX12_fewer (d + 2) 48 [.ref a_0, .int x5] [.int x10] h8 bc bs Q
      exact ex_ireturn dX12_fewer_48 rfl (Or.inl rfl) w
    · replace w := w.2 c3
      refine ex_aload_n (q := 24) (x := a_0) dX12_fewer_23 rfl ?_
      refine ex_iconst (q := 25) (v := 5) dX12_fewer_24 (by decide) ?_
      have s11 := w.1
      replace w := w.2
      refine ex_callV (q := 28) (M := mX12_fewer) (hdd := Nat.le_refl _) (mc := 0) (ms := 0) (d' := (d + 1)) (c := 12) (st := []) (bc := bc) (bs := bs) dX12_fewer_25 rfl cl_X12_200 wd_1614 wd_50 s1 (X12_meets_s (Q := fun r z => r = some (.int (X12_meets_V a_0 5 h)) ∧ z = X12_meets_H a_0 5 h) s11 ⟨rfl, rfl⟩) ?_
      intro r z hrz
      rw [hrz.1, hrz.2]
      show ex_G mX12_fewer (d + 2) 28 [.ref a_0, .retAddr 0] [.int (X12_meets_V a_0 5 h)] (X12_meets_H a_0 5 h) bc bs Q
      refine ex_nmh (fun h12 eh12 => ?_)
      replace w := w h12 eh12
      exact ex_ireturn dX12_fewer_28 rfl (Or.inl rfl) w
  · replace w := w.2 c2
    refine ex_aload_n (q := 10) (x := a_0) dX12_fewer_9 rfl ?_
    refine ex_bipush (q := 12) (v := (-3)) dX12_fewer_10 (by decide) ?_
    have s13 := w.1
    replace w := w.2
    refine ex_callV (q := 15) (M := mX12_fewer) (hdd := Nat.le_refl _) (mc := 0) (ms := 0) (d' := (d + 1)) (c := 12) (st := []) (bc := bc) (bs := bs) dX12_fewer_12 rfl cl_X12_165 wd_1581 wd_46 s1 (X12_no_s (Q := fun r z => r = some (.int (X12_no_V a_0 (-3) h)) ∧ z = X12_no_H a_0 (-3) h) s13 ⟨rfl, rfl⟩) ?_
    intro r z hrz
    rw [hrz.1, hrz.2]
    show ex_G mX12_fewer (d + 2) 15 [.ref a_0, .retAddr 0] [.int (X12_no_V a_0 (-3) h)] (X12_no_H a_0 (-3) h) bc bs Q
    refine ex_nmh (fun h14 eh14 => ?_)
    replace w := w h14 eh14
    exact ex_ireturn dX12_fewer_15 rfl (Or.inl rfl) w

theorem X12_fewer_e {d bc bs : Nat} {h : AH} {Q : Option Value → AH → Prop} {a_0 : Nat} (w : ex_G mX12_fewer (d + 2) 0 [.ref a_0, .retAddr 0] [] h bc bs Q) : ex_S yX12_fewer mX12_fewer (d + 2) [.ref a_0] h bc bs Q :=
  ex_enter (plainFor_of_name (by decide +kernel)) ⟨rfl, rfl⟩ rfl rfl (Nat.le_of_ble_eq_true rfl) (ex_pad 1 w)

set_option maxRecDepth 100000 in
theorem X12_partsBy_0 {d bc bs : Nat} {h : AH} {Q : Option Value → AH → Prop} {a_0 : Nat} {v_1 : Int32} {v_2 : Int32} (w : ah_o h a_0 12 ∧ ex_S yX12_link mX12_link (d + 1) [.ref a_0, .int v_1] h 0 0 (fun r h1 => r = none ∧ ah_o h1 a_0 12 ∧ ex_S yX12_piecesOf mX12_piecesOf (d + 1) [.ref a_0, .int v_1] h1 0 0 (fun r h3 => ∃ x5, r = some (.int x5) ∧ ah_o h3 a_0 12 ∧ ∃ a7, ah_r h3 a_0 3 = some a7 ∧ ld0 h3 a7 v_1 ∧ ∀ x9, x9 = x5 + (ah_i h3 a7 (Int32.toNatClampNeg v_1)) → ((¬ x9 = 1 → ex_G mX12_partsBy (d + 2) 38 [.ref a_0, .int v_1, .int v_2, .int x9, .retAddr 0, .retAddr 0, .retAddr 0] [] h3 bc bs Q) ∧ (x9 = 1 → ∃ a11, ah_r h3 a_0 2 = some a11 ∧ ld0 h3 a11 v_1 ∧ ((14 < (ah_i h3 a11 (Int32.toNatClampNeg v_1)) → ex_G mX12_partsBy (d + 2) 38 [.ref a_0, .int v_1, .int v_2, .int x9, .retAddr 0, .retAddr 0, .retAddr 0] [] h3 bc bs Q) ∧ (¬ 14 < (ah_i h3 a11 (Int32.toNatClampNeg v_1)) → ex_G mX12_partsBy (d + 2) 39 [.ref a_0, .int v_1, .int v_2, .int x9, .retAddr 0, .retAddr 0, .retAddr 0] [.int 1] h3 bc bs Q))))))) : ex_G mX12_partsBy (d + 2) 0 [.ref a_0, .int v_1, .int v_2, .retAddr 0, .retAddr 0, .retAddr 0, .retAddr 0] [] h bc bs Q := by
  refine ex_aload_n (q := 1) (x := a_0) dX12_partsBy_0 rfl ?_
  refine ex_iload_n (q := 2) (x := v_1) dX12_partsBy_1 rfl ?_
  have s2 := w.1
  replace w := w.2
  refine ex_callV (q := 5) (M := mX12_partsBy) (hdd := Nat.le_refl _) (c := 12) (st := []) (bc := bc) (bs := bs) dX12_partsBy_2 rfl cl_X12_216 wd_1647 wd_53 s2 w ?_
  rintro r h1 ⟨rfl, w⟩
  show ex_G mX12_partsBy (d + 2) 5 [.ref a_0, .int v_1, .int v_2, .retAddr 0, .retAddr 0, .retAddr 0, .retAddr 0] [] h1 bc bs Q
  refine ex_aload_n (q := 6) (x := a_0) dX12_partsBy_5 rfl ?_
  refine ex_iload_n (q := 7) (x := v_1) dX12_partsBy_6 rfl ?_
  have s4 := w.1
  replace w := w.2
  refine ex_callV (q := 10) (M := mX12_partsBy) (hdd := Nat.le_refl _) (c := 12) (st := []) (bc := bc) (bs := bs) dX12_partsBy_7 rfl cl_X12_229 wd_1679 wd_58 s4 w ?_
  rintro r h3 ⟨x5, rfl, w⟩
  show ex_G mX12_partsBy (d + 2) 10 [.ref a_0, .int v_1, .int v_2, .retAddr 0, .retAddr 0, .retAddr 0, .retAddr 0] [.int x5] h3 bc bs Q
  refine ex_aload_n (q := 11) (x := a_0) dX12_partsBy_10 rfl ?_
  have s6 := w.1
  replace w := w.2
  obtain ⟨a7, ea7, w⟩ := w
  refine ex_getr (q := 14) dX12_partsBy_11 fl_X12_16 s6 ea7 ?_
  refine ex_iload_n (q := 15) (x := v_1) dX12_partsBy_14 rfl ?_
  have s8 := w.1
  replace w := w.2
  refine ex_iald (q := 16) dX12_partsBy_15 s8 ?_
  refine ex_iadd (q := 17) dX12_partsBy_16 ?_
  refine ex_nmi (fun x9 ex9 => ?_)
  replace w := w x9 ex9
  refine ex_istore_n (q := 18) (ls' := [.ref a_0, .int v_1, .int v_2, .int x9, .retAddr 0, .retAddr 0, .retAddr 0]) dX12_partsBy_17 rfl ?_
  refine ex_iload_n (q := 19) (x := x9) dX12_partsBy_18 rfl ?_
  refine ex_iconst (q := 20) (v := 1) dX12_partsBy_19 (by decide) ?_
  refine ex_icmp_ne (tgt := 38) (q := 23) dX12_partsBy_20 (fun c10 => ?_) (fun c10 => ?_)
  · replace w := w.1 c10
    exact w
  · replace w := w.2 c10
    refine ex_aload_n (q := 24) (x := a_0) dX12_partsBy_23 rfl ?_
    obtain ⟨a11, ea11, w⟩ := w
    refine ex_getr (q := 27) dX12_partsBy_24 fl_X12_13 s6 ea11 ?_
    refine ex_iload_n (q := 28) (x := v_1) dX12_partsBy_27 rfl ?_
    have s12 := w.1
    replace w := w.2
    refine ex_iald (q := 29) dX12_partsBy_28 s12 ?_
    refine ex_bipush (q := 31) (v := 14) dX12_partsBy_29 (by decide) ?_
    refine ex_icmp_gt (tgt := 38) (q := 34) dX12_partsBy_31 (fun c13 => ?_) (fun c13 => ?_)
    · replace w := w.1 c13
      exact w
    · replace w := w.2 c13
      refine ex_iconst (q := 35) (v := 1) dX12_partsBy_34 (by decide) ?_
      refine ex_goto (tgt := 39) dX12_partsBy_35 ?_
      exact w

set_option maxRecDepth 100000 in
theorem X12_partsBy_38 {d bc bs : Nat} {h : AH} {Q : Option Value → AH → Prop} {a_0 : Nat} {v_1 : Int32} {v_2 : Int32} {v_3 : Int32} (w : ex_G mX12_partsBy (d + 2) 39 [.ref a_0, .int v_1, .int v_2, .int v_3, .retAddr 0, .retAddr 0, .retAddr 0] [.int 0] h bc bs Q) : ex_G mX12_partsBy (d + 2) 38 [.ref a_0, .int v_1, .int v_2, .int v_3, .retAddr 0, .retAddr 0, .retAddr 0] [] h bc bs Q := by
  refine ex_iconst (q := 39) (v := 0) dX12_partsBy_38 (by decide) ?_
  exact w

set_option maxRecDepth 100000 in
theorem X12_partsBy_39 {d bc bs : Nat} {h : AH} {Q : Option Value → AH → Prop} {a_0 : Nat} {v_1 : Int32} {v_2 : Int32} {v_3 : Int32} {u_0 : Int32} (w : ah_o h a_0 12 ∧ ex_S yX12_link mX12_link (d + 1) [.ref a_0, .int v_2] h 0 0 (fun r h1 => r = none ∧ ah_o h1 a_0 12 ∧ ex_S yX12_piecesOf mX12_piecesOf (d + 1) [.ref a_0, .int v_2] h1 0 0 (fun r h3 => ∃ x5, r = some (.int x5) ∧ ah_o h3 a_0 12 ∧ ∃ a7, ah_r h3 a_0 3 = some a7 ∧ ld0 h3 a7 v_2 ∧ (((x5 + (ah_i h3 a7 (Int32.toNatClampNeg v_2))) = v_3 → ex_G mX12_partsBy (d + 2) 70 [.ref a_0, .int v_1, .int v_2, .retAddr 0, .int u_0, .int 2, .int 3] [] h3 bc bs Q) ∧ (¬ (x5 + (ah_i h3 a7 (Int32.toNatClampNeg v_2))) = v_3 → Q (some (.int 1)) h3))))) : ex_G mX12_partsBy (d + 2) 39 [.ref a_0, .int v_1, .int v_2, .int v_3, .retAddr 0, .retAddr 0, .retAddr 0] [.int u_0] h bc bs Q := by
  refine ex_istore (q := 41) (ls' := [.ref a_0, .int v_1, .int v_2, .int v_3, .int u_0, .retAddr 0, .retAddr 0]) dX12_partsBy_39 rfl ?_
  refine ex_aload_n (q := 42) (x := a_0) dX12_partsBy_41 rfl ?_
  refine ex_iload_n (q := 43) (x := v_2) dX12_partsBy_42 rfl ?_
  have s2 := w.1
  replace w := w.2
  refine ex_callV (q := 46) (M := mX12_partsBy) (hdd := Nat.le_refl _) (c := 12) (st := []) (bc := bc) (bs := bs) dX12_partsBy_43 rfl cl_X12_216 wd_1647 wd_53 s2 w ?_
  rintro r h1 ⟨rfl, w⟩
  show ex_G mX12_partsBy (d + 2) 46 [.ref a_0, .int v_1, .int v_2, .int v_3, .int u_0, .retAddr 0, .retAddr 0] [] h1 bc bs Q
  refine ex_aload_n (q := 47) (x := a_0) dX12_partsBy_46 rfl ?_
  refine ex_iload_n (q := 48) (x := v_2) dX12_partsBy_47 rfl ?_
  have s4 := w.1
  replace w := w.2
  refine ex_callV (q := 51) (M := mX12_partsBy) (hdd := Nat.le_refl _) (c := 12) (st := []) (bc := bc) (bs := bs) dX12_partsBy_48 rfl cl_X12_229 wd_1679 wd_58 s4 w ?_
  rintro r h3 ⟨x5, rfl, w⟩
  show ex_G mX12_partsBy (d + 2) 51 [.ref a_0, .int v_1, .int v_2, .int v_3, .int u_0, .retAddr 0, .retAddr 0] [.int x5] h3 bc bs Q
  refine ex_aload_n (q := 52) (x := a_0) dX12_partsBy_51 rfl ?_
  have s6 := w.1
  replace w := w.2
  obtain ⟨a7, ea7, w⟩ := w
  refine ex_getr (q := 55) dX12_partsBy_52 fl_X12_16 s6 ea7 ?_
  refine ex_iload_n (q := 56) (x := v_2) dX12_partsBy_55 rfl ?_
  have s8 := w.1
  replace w := w.2
  refine ex_iald (q := 57) dX12_partsBy_56 s8 ?_
  refine ex_iadd (q := 58) dX12_partsBy_57 ?_
  refine ex_iload_n (q := 59) (x := v_3) dX12_partsBy_58 rfl ?_
  refine ex_icmp_eq (tgt := 64) (q := 62) dX12_partsBy_59 (fun c9 => ?_) (fun c9 => ?_)
  · replace w := w.1 c9
    refine ex_iconst (q := 65) (v := 2) dX12_partsBy_64 (by decide) ?_
    refine ex_istore (q := 67) (ls' := [.ref a_0, .int v_1, .int v_2, .int v_3, .int u_0, .int 2, .retAddr 0]) dX12_partsBy_65 rfl ?_
    refine ex_iconst (q := 68) (v := 3) dX12_partsBy_67 (by decide) ?_
    refine ex_istore (q := 70) (ls' := [.ref a_0, .int v_1, .int v_2, .int v_3, .int u_0, .int 2, .int 3]) dX12_partsBy_68 rfl ?_
    refine ex_kill 3 (ls' := [.ref a_0, .int v_1, .int v_2, .retAddr 0, .int u_0, .int 2, .int 3]) rfl ?_
    exact w
  · replace w := w.2 c9
    refine ex_iconst (q := 63) (v := 1) dX12_partsBy_62 (by decide) ?_
    exact ex_ireturn dX12_partsBy_63 rfl (Or.inl rfl) w

set_option maxRecDepth 100000 in
theorem X12_partsBy_70 {d bc bs : Nat} {h : AH} {Q : Option Value → AH → Prop} {a_0 : Nat} {v_1 : Int32} {v_2 : Int32} {v_4 : Int32} {v_5 : Int32} {v_6 : Int32} (w : ((12 ≤ v_6 → ((v_4 = 0 → Q (some (.int 0)) h) ∧ (¬ v_4 = 0 → ah_o h a_0 12 ∧ ∃ a4, ah_r h a_0 2 = some a4 ∧ ld0 h a4 v_2 ∧ ((14 < (ah_i h a4 (Int32.toNatClampNeg v_2)) → Q (some (.int 0)) h) ∧ (¬ 14 < (ah_i h a4 (Int32.toNatClampNeg v_2)) → Q (some (.int 6)) h))))) ∧ (¬ 12 ≤ v_6 → ah_o h a_0 12 ∧ ex_S yX12_coloursOf mX12_coloursOf (d + 1) [.ref a_0, .int v_1, .int v_6] h 0 0 (fun r h7 => ∃ x9, r = some (.int x9) ∧ ah_o h7 a_0 12 ∧ ex_S yX12_coloursOf mX12_coloursOf (d + 1) [.ref a_0, .int v_2, .int v_6] h7 0 0 (fun r h10 => ∃ x12, r = some (.int x12) ∧ ((x9 = x12 → ∀ x14, x14 = v_5 + 1 → ((¬ v_6 = 7 → ∀ x16, x16 = v_6 + 2 → ex_G mX12_partsBy (d + 2) 70 [.ref a_0, .int v_1, .int v_2, .retAddr 0, .int v_4, .int x14, .int x16] [] h10 bc bs Q) ∧ (v_6 = 7 → ∀ x17, x17 = v_6 + 4 → ex_G mX12_partsBy (d + 2) 70 [.ref a_0, .int v_1, .int v_2, .retAddr 0, .int v_4, .int x14, .int x17] [] h10 bc bs Q))) ∧ (¬ x9 = x12 → Q (some (.int v_5)) h10))))))) : ex_G mX12_partsBy (d + 2) 70 [.ref a_0, .int v_1, .int v_2, .retAddr 0, .int v_4, .int v_5, .int v_6] [] h bc bs Q := by
  refine ex_iload (q := 72) (x := v_6) dX12_partsBy_70 rfl ?_
  refine ex_bipush (q := 74) (v := 12) dX12_partsBy_72 (by decide) ?_
  refine ex_icmp_ge (tgt := 120) (q := 77) dX12_partsBy_74 (fun c1 => ?_) (fun c1 => ?_)
  · replace w := w.1 c1
    refine ex_iload (q := 122) (x := v_4) dX12_partsBy_120 rfl ?_
    refine ex_if_eq (tgt := 141) (q := 125) dX12_partsBy_122 (fun c2 => ?_) (fun c2 => ?_)
    · replace w := w.1 c2
      refine ex_iconst (q := 142) (v := 0) dX12_partsBy_141 (by decide) ?_
      exact ex_ireturn dX12_partsBy_142 rfl (Or.inl rfl) w
    · replace w := w.2 c2
      refine ex_aload_n (q := 126) (x := a_0) dX12_partsBy_125 rfl ?_
      have s3 := w.1
      replace w := w.2
      obtain ⟨a4, ea4, w⟩ := w
      refine ex_getr (q := 129) dX12_partsBy_126 fl_X12_13 s3 ea4 ?_
      refine ex_iload_n (q := 130) (x := v_2) dX12_partsBy_129 rfl ?_
      have s5 := w.1
      replace w := w.2
      refine ex_iald (q := 131) dX12_partsBy_130 s5 ?_
      refine ex_bipush (q := 133) (v := 14) dX12_partsBy_131 (by decide) ?_
      refine ex_icmp_gt (tgt := 141) (q := 136) dX12_partsBy_133 (fun c6 => ?_) (fun c6 => ?_)
      · replace w := w.1 c6
        refine ex_iconst (q := 142) (v := 0) dX12_partsBy_141 (by decide) ?_
        exact ex_ireturn dX12_partsBy_142 rfl (Or.inl rfl) w
      · replace w := w.2 c6
        refine ex_bipush (q := 138) (v := 6) dX12_partsBy_136 (by decide) ?_
        refine ex_goto (tgt := 142) dX12_partsBy_138 ?_
        exact ex_ireturn dX12_partsBy_142 rfl (Or.inl rfl) w
  · replace w := w.2 c1
    refine ex_aload_n (q := 78) (x := a_0) dX12_partsBy_77 rfl ?_
    refine ex_iload_n (q := 79) (x := v_1) dX12_partsBy_78 rfl ?_
    refine ex_iload (q := 81) (x := v_6) dX12_partsBy_79 rfl ?_
    have s8 := w.1
    replace w := w.2
    refine ex_callV (q := 84) (M := mX12_partsBy) (hdd := Nat.le_refl _) (c := 12) (st := []) (bc := bc) (bs := bs) dX12_partsBy_81 rfl cl_X12_247 wd_1707 wd_61 s8 w ?_
    rintro r h7 ⟨x9, rfl, w⟩
    show ex_G mX12_partsBy (d + 2) 84 [.ref a_0, .int v_1, .int v_2, .retAddr 0, .int v_4, .int v_5, .int v_6] [.int x9] h7 bc bs Q
    refine ex_aload_n (q := 85) (x := a_0) dX12_partsBy_84 rfl ?_
    refine ex_iload_n (q := 86) (x := v_2) dX12_partsBy_85 rfl ?_
    refine ex_iload (q := 88) (x := v_6) dX12_partsBy_86 rfl ?_
    have s11 := w.1
    replace w := w.2
    refine ex_callV (q := 91) (M := mX12_partsBy) (hdd := Nat.le_refl _) (c := 12) (st := [.int x9]) (bc := bc) (bs := bs) dX12_partsBy_88 rfl cl_X12_247 wd_1707 wd_61 s11 w ?_
    rintro r h10 ⟨x12, rfl, w⟩
    show ex_G mX12_partsBy (d + 2) 91 [.ref a_0, .int v_1, .int v_2, .retAddr 0, .int v_4, .int v_5, .int v_6] [.int x12, .int x9] h10 bc bs Q
    refine ex_icmp_eq (tgt := 97) (q := 94) dX12_partsBy_91 (fun c13 => ?_) (fun c13 => ?_)
    · replace w := w.1 c13
      obtain ⟨x14, ex14⟩ : ∃ y : Int32, y = v_5 + 1 := ⟨_, rfl⟩
      replace w := w x14 ex14
      refine ex_iinc (q := 100) (x := v_5) (v := x14) (ls' := [.ref a_0, .int v_1, .int v_2, .retAddr 0, .int v_4, .int x14, .int v_6]) dX12_partsBy_97 rfl (by rw [ex14]; rfl) rfl ?_
      refine ex_iload (q := 102) (x := v_6) dX12_partsBy_100 rfl ?_
      refine ex_iload (q := 104) (x := v_6) dX12_partsBy_102 rfl ?_
      refine ex_bipush (q := 106) (v := 7) dX12_partsBy_104 (by decide) ?_
      refine ex_icmp_ne (tgt := 113) (q := 109) dX12_partsBy_106 (fun c15 => ?_) (fun c15 => ?_)
      · replace w := w.1 c15
        refine ex_iconst (q := 114) (v := 2) dX12_partsBy_113 (by decide) ?_
        refine ex_iadd (q := 115) dX12_partsBy_114 ?_
        refine ex_nmi (fun x16 ex16 => ?_)
        replace w := w x16 ex16
        refine ex_istore (q := 117) (ls' := [.ref a_0, .int v_1, .int v_2, .retAddr 0, .int v_4, .int x14, .int x16]) dX12_partsBy_115 rfl ?_
        refine ex_goto (tgt := 70) dX12_partsBy_117 ?_
        exact w
      · replace w := w.2 c15
        refine ex_iconst (q := 110) (v := 4) dX12_partsBy_109 (by decide) ?_
        refine ex_goto (tgt := 114) dX12_partsBy_110 ?_
        refine ex_iadd (q := 115) dX12_partsBy_114 ?_
        refine ex_nmi (fun x17 ex17 => ?_)
        replace w := w x17 ex17
        refine ex_istore (q := 117) (ls' := [.ref a_0, .int v_1, .int v_2, .retAddr 0, .int v_4, .int x14, .int x17]) dX12_partsBy_115 rfl ?_
        refine ex_goto (tgt := 70) dX12_partsBy_117 ?_
        exact w
    · replace w := w.2 c13
      refine ex_iload (q := 96) (x := v_5) dX12_partsBy_94 rfl ?_
      exact ex_ireturn dX12_partsBy_96 rfl (Or.inl rfl) w

theorem X12_partsBy_e {d bc bs : Nat} {h : AH} {Q : Option Value → AH → Prop} {a_0 : Nat} {v_1 : Int32} {v_2 : Int32} (w : ex_G mX12_partsBy (d + 2) 0 [.ref a_0, .int v_1, .int v_2, .retAddr 0, .retAddr 0, .retAddr 0, .retAddr 0] [] h bc bs Q) : ex_S yX12_partsBy mX12_partsBy (d + 2) [.ref a_0, .int v_1, .int v_2] h bc bs Q :=
  ex_enter (plainFor_of_name (by decide +kernel)) ⟨rfl, rfl⟩ rfl rfl (Nat.le_of_ble_eq_true rfl) (ex_pad 4 w)

set_option maxRecDepth 100000 in
theorem X12_polynomialsPart_0 {d bc bs : Nat} {h : AH} {Q : Option Value → AH → Prop} {a_0 : Nat} {v_1 : Int32} {v_2 : Int32} (w : ah_o h a_0 12 ∧ ex_S yX12_polynomialOf mX12_polynomialOf (d + 3) [.ref a_0, .int v_1] h 0 0 (fun r h1 => r = none ∧ ex_G mX12_polynomialsPart (d + 4) 7 [.ref a_0, .retAddr 0, .int v_2, .int 0, .retAddr 0] [] h1 bc bs Q)) : ex_G mX12_polynomialsPart (d + 4) 0 [.ref a_0, .int v_1, .int v_2, .retAddr 0, .retAddr 0] [] h bc bs Q := by
  refine ex_aload_n (q := 1) (x := a_0) dX12_polynomialsPart_0 rfl ?_
  refine ex_iload_n (q := 2) (x := v_1) dX12_polynomialsPart_1 rfl ?_
  have s2 := w.1
  replace w := w.2
  refine ex_callV (q := 5) (M := mX12_polynomialsPart) (hdd := Nat.le_refl _) (c := 12) (st := []) (bc := bc) (bs := bs) dX12_polynomialsPart_2 rfl cl_X12_274 wd_1743 wd_67 s2 w ?_
  rintro r h1 ⟨rfl, w⟩
  show ex_G mX12_polynomialsPart (d + 4) 5 [.ref a_0, .int v_1, .int v_2, .retAddr 0, .retAddr 0] [] h1 bc bs Q
  refine ex_iconst (q := 6) (v := 0) dX12_polynomialsPart_5 (by decide) ?_
  refine ex_istore_n (q := 7) (ls' := [.ref a_0, .int v_1, .int v_2, .int 0, .retAddr 0]) dX12_polynomialsPart_6 rfl ?_
  refine ex_kill 1 (ls' := [.ref a_0, .retAddr 0, .int v_2, .int 0, .retAddr 0]) rfl ?_
  exact w

set_option maxRecDepth 100000 in
theorem X12_polynomialsPart_7 {d bc bs : Nat} {h : AH} {Q : Option Value → AH → Prop} {a_0 : Nat} {v_2 : Int32} {v_3 : Int32} (w : ((601 ≤ v_3 → ah_o h a_0 12 ∧ ex_S yX12_polynomialOf mX12_polynomialOf (d + 3) [.ref a_0, .int v_2] h 0 0 (fun r h2 => r = none ∧ ex_G mX12_polynomialsPart (d + 4) 42 [.ref a_0, .retAddr 0, .retAddr 0, .int 0, .int 0] [] h2 bc bs Q)) ∧ (¬ 601 ≤ v_3 → ah_o h a_0 12 ∧ ∃ a5, ah_r h a_0 61 = some a5 ∧ ∃ a6, ah_r h a_0 20 = some a6 ∧ ld2 h a6 v_3 ∧ ld2 h a5 v_3 ∧ ∀ h8, h8 = ah_sl h a5 (Int32.toNatClampNeg v_3) (ah_l h a6 (Int32.toNatClampNeg v_3)) → ∀ x10, x10 = v_3 + 1 → ex_G mX12_polynomialsPart (d + 4) 7 [.ref a_0, .retAddr 0, .int v_2, .int x10, .retAddr 0] [] h8 bc bs Q))) : ex_G mX12_polynomialsPart (d + 4) 7 [.ref a_0, .retAddr 0, .int v_2, .int v_3, .retAddr 0] [] h bc bs Q := by
  refine ex_iload_n (q := 8) (x := v_3) dX12_polynomialsPart_7 rfl ?_
  refine ex_sipush (q := 11) (v := 601) dX12_polynomialsPart_8 (by decide) ?_
  refine ex_icmp_ge (tgt := 32) (q := 14) dX12_polynomialsPart_11 (fun c1 => ?_) (fun c1 => ?_)
  · replace w := w.1 c1
    refine ex_aload_n (q := 33) (x := a_0) dX12_polynomialsPart_32 rfl ?_
    refine ex_iload_n (q := 34) (x := v_2) dX12_polynomialsPart_33 rfl ?_
    have s3 := w.1
    replace w := w.2
    refine ex_callV (q := 37) (M := mX12_polynomialsPart) (hdd := Nat.le_refl _) (c := 12) (st := []) (bc := bc) (bs := bs) dX12_polynomialsPart_34 rfl cl_X12_274 wd_1743 wd_67 s3 w ?_
    rintro r h2 ⟨rfl, w⟩
    show ex_G mX12_polynomialsPart (d + 4) 37 [.ref a_0, .retAddr 0, .int v_2, .int v_3, .retAddr 0] [] h2 bc bs Q
    refine ex_iconst (q := 38) (v := 0) dX12_polynomialsPart_37 (by decide) ?_
    refine ex_istore_n (q := 39) (ls' := [.ref a_0, .retAddr 0, .int v_2, .int 0, .retAddr 0]) dX12_polynomialsPart_38 rfl ?_
    refine ex_iconst (q := 40) (v := 0) dX12_polynomialsPart_39 (by decide) ?_
    refine ex_istore (q := 42) (ls' := [.ref a_0, .retAddr 0, .int v_2, .int 0, .int 0]) dX12_polynomialsPart_40 rfl ?_
    refine ex_kill 2 (ls' := [.ref a_0, .retAddr 0, .retAddr 0, .int 0, .int 0]) rfl ?_
    exact w
  · replace w := w.2 c1
    refine ex_aload_n (q := 15) (x := a_0) dX12_polynomialsPart_14 rfl ?_
    have s4 := w.1
    replace w := w.2
    obtain ⟨a5, ea5, w⟩ := w
    refine ex_getr (q := 18) dX12_polynomialsPart_15 fl_X12_152 s4 ea5 ?_
    refine ex_iload_n (q := 19) (x := v_3) dX12_polynomialsPart_18 rfl ?_
    refine ex_aload_n (q := 20) (x := a_0) dX12_polynomialsPart_19 rfl ?_
    obtain ⟨a6, ea6, w⟩ := w
    refine ex_getr (q := 23) dX12_polynomialsPart_20 fl_X12_67 s4 ea6 ?_
    refine ex_iload_n (q := 24) (x := v_3) dX12_polynomialsPart_23 rfl ?_
    have s7 := w.1
    replace w := w.2
    refine ex_lald (q := 25) dX12_polynomialsPart_24 s7 ?_
    have s9 := w.1
    replace w := w.2
    refine ex_last (q := 26) dX12_polynomialsPart_25 s9 ?_
    refine ex_nmh (fun h8 eh8 => ?_)
    replace w := w h8 eh8
    obtain ⟨x10, ex10⟩ : ∃ y : Int32, y = v_3 + 1 := ⟨_, rfl⟩
    replace w := w x10 ex10
    refine ex_iinc (q := 29) (x := v_3) (v := x10) (ls' := [.ref a_0, .retAddr 0, .int v_2, .int x10, .retAddr 0]) dX12_polynomialsPart_26 rfl (by rw [ex10]; rfl) rfl ?_
    refine ex_goto (tgt := 7) dX12_polynomialsPart_29 ?_
    exact w

set_option maxRecDepth 100000 in
theorem X12_polynomialsPart_42 {d bc bs : Nat} {h : AH} {Q : Option Value → AH → Prop} {a_0 : Nat} {v_3 : Int32} {v_4 : Int32} (w : ((601 ≤ v_4 → bo v_3 ∧ Q (some (.int v_3)) h) ∧ (¬ 601 ≤ v_4 → ah_o h a_0 12 ∧ ∃ a4, ah_r h a_0 61 = some a4 ∧ ld2 h a4 v_4 ∧ ∃ a6, ah_r h a_0 20 = some a6 ∧ ld2 h a6 v_4 ∧ (((lg_cmp (ah_l h a4 (Int32.toNatClampNeg v_4)) (ah_l h a6 (Int32.toNatClampNeg v_4))) = 0 → ∀ x9, x9 = v_3 ||| 0 → ∀ x10, x10 = v_4 + 1 → ex_G mX12_polynomialsPart (d + 4) 42 [.ref a_0, .retAddr 0, .retAddr 0, .int x9, .int x10] [] h bc bs Q) ∧ (¬ (lg_cmp (ah_l h a4 (Int32.toNatClampNeg v_4)) (ah_l h a6 (Int32.toNatClampNeg v_4))) = 0 → ∀ x11, x11 = v_3 ||| 1 → ∀ x12, x12 = v_4 + 1 → ex_G mX12_polynomialsPart (d + 4) 42 [.ref a_0, .retAddr 0, .retAddr 0, .int x11, .int x12] [] h bc bs Q))))) : ex_G mX12_polynomialsPart (d + 4) 42 [.ref a_0, .retAddr 0, .retAddr 0, .int v_3, .int v_4] [] h bc bs Q := by
  refine ex_iload (q := 44) (x := v_4) dX12_polynomialsPart_42 rfl ?_
  refine ex_sipush (q := 47) (v := 601) dX12_polynomialsPart_44 (by decide) ?_
  refine ex_icmp_ge (tgt := 82) (q := 50) dX12_polynomialsPart_47 (fun c1 => ?_) (fun c1 => ?_)
  · replace w := w.1 c1
    refine ex_iload_n (q := 83) (x := v_3) dX12_polynomialsPart_82 rfl ?_
    have s2 := w.1
    replace w := w.2
    exact ex_ireturn dX12_polynomialsPart_83 rfl (Or.inr ⟨rfl, s2⟩) w
  · replace w := w.2 c1
    refine ex_iload_n (q := 51) (x := v_3) dX12_polynomialsPart_50 rfl ?_
    refine ex_aload_n (q := 52) (x := a_0) dX12_polynomialsPart_51 rfl ?_
    have s3 := w.1
    replace w := w.2
    obtain ⟨a4, ea4, w⟩ := w
    refine ex_getr (q := 55) dX12_polynomialsPart_52 fl_X12_152 s3 ea4 ?_
    refine ex_iload (q := 57) (x := v_4) dX12_polynomialsPart_55 rfl ?_
    have s5 := w.1
    replace w := w.2
    refine ex_lald (q := 58) dX12_polynomialsPart_57 s5 ?_
    refine ex_aload_n (q := 59) (x := a_0) dX12_polynomialsPart_58 rfl ?_
    obtain ⟨a6, ea6, w⟩ := w
    refine ex_getr (q := 62) dX12_polynomialsPart_59 fl_X12_67 s3 ea6 ?_
    refine ex_iload (q := 64) (x := v_4) dX12_polynomialsPart_62 rfl ?_
    have s7 := w.1
    replace w := w.2
    refine ex_lald (q := 65) dX12_polynomialsPart_64 s7 ?_
    refine ex_lcmp (q := 66) dX12_polynomialsPart_65 ?_
    refine ex_if_eq (tgt := 73) (q := 69) dX12_polynomialsPart_66 (fun c8 => ?_) (fun c8 => ?_)
    · replace w := w.1 c8
      refine ex_iconst (q := 74) (v := 0) dX12_polynomialsPart_73 (by decide) ?_
      refine ex_ior (q := 75) dX12_polynomialsPart_74 ?_
      refine ex_nmi (fun x9 ex9 => ?_)
      replace w := w x9 ex9
      refine ex_istore_n (q := 76) (ls' := [.ref a_0, .retAddr 0, .retAddr 0, .int x9, .int v_4]) dX12_polynomialsPart_75 rfl ?_
      obtain ⟨x10, ex10⟩ : ∃ y : Int32, y = v_4 + 1 := ⟨_, rfl⟩
      replace w := w x10 ex10
      refine ex_iinc (q := 79) (x := v_4) (v := x10) (ls' := [.ref a_0, .retAddr 0, .retAddr 0, .int x9, .int x10]) dX12_polynomialsPart_76 rfl (by rw [ex10]; rfl) rfl ?_
      refine ex_goto (tgt := 42) dX12_polynomialsPart_79 ?_
      exact w
    · replace w := w.2 c8
      refine ex_iconst (q := 70) (v := 1) dX12_polynomialsPart_69 (by decide) ?_
      refine ex_goto (tgt := 74) dX12_polynomialsPart_70 ?_
      refine ex_ior (q := 75) dX12_polynomialsPart_74 ?_
      refine ex_nmi (fun x11 ex11 => ?_)
      replace w := w x11 ex11
      refine ex_istore_n (q := 76) (ls' := [.ref a_0, .retAddr 0, .retAddr 0, .int x11, .int v_4]) dX12_polynomialsPart_75 rfl ?_
      obtain ⟨x12, ex12⟩ : ∃ y : Int32, y = v_4 + 1 := ⟨_, rfl⟩
      replace w := w x12 ex12
      refine ex_iinc (q := 79) (x := v_4) (v := x12) (ls' := [.ref a_0, .retAddr 0, .retAddr 0, .int x11, .int x12]) dX12_polynomialsPart_76 rfl (by rw [ex12]; rfl) rfl ?_
      refine ex_goto (tgt := 42) dX12_polynomialsPart_79 ?_
      exact w

theorem X12_polynomialsPart_e {d bc bs : Nat} {h : AH} {Q : Option Value → AH → Prop} {a_0 : Nat} {v_1 : Int32} {v_2 : Int32} (w : ex_G mX12_polynomialsPart (d + 4) 0 [.ref a_0, .int v_1, .int v_2, .retAddr 0, .retAddr 0] [] h bc bs Q) : ex_S yX12_polynomialsPart mX12_polynomialsPart (d + 4) [.ref a_0, .int v_1, .int v_2] h bc bs Q :=
  ex_enter (plainFor_of_name (by decide +kernel)) ⟨rfl, rfl⟩ rfl rfl (Nat.le_of_ble_eq_true rfl) (ex_pad 2 w)

set_option maxRecDepth 100000 in
theorem X12_same_0 {d bc bs : Nat} {h : AH} {Q : Option Value → AH → Prop} {a_0 : Nat} {v_1 : Int32} {v_2 : Int32} {v_3 : Int32} (w : ah_o h a_0 12 ∧ X12_isPicture_C a_0 v_1 h ∧ (((X12_isPicture_V a_0 v_1 h) = 0 → X12_no_C a_0 (-2) h ∧ ∀ h5, h5 = X12_no_H a_0 (-2) h → Q (some (.int (X12_no_V a_0 (-2) h))) h5) ∧ (¬ (X12_isPicture_V a_0 v_1 h) = 0 → X12_isPicture_C a_0 v_2 h ∧ (((X12_isPicture_V a_0 v_2 h) = 0 → X12_no_C a_0 (-2) h ∧ ∀ h9, h9 = X12_no_H a_0 (-2) h → Q (some (.int (X12_no_V a_0 (-2) h))) h9) ∧ (¬ (X12_isPicture_V a_0 v_2 h) = 0 → ((¬ (X12_in_V (Int32.toInt64 v_3) 0 5000 h) = 0 → ex_S yX12_openOf mX12_openOf (d + 4) [.ref a_0, .int v_1] h 0 0 (fun r h11 => ∃ x12, r = some (.int x12) ∧ ((0 < x12 → ah_o h11 a_0 12 ∧ X12_meets_C a_0 3 h11 ∧ ∀ h16, h16 = X12_meets_H a_0 3 h11 → Q (some (.int (X12_meets_V a_0 3 h11))) h16) ∧ (¬ 0 < x12 → ah_o h11 a_0 12 ∧ ex_S yX12_openOf mX12_openOf (d + 4) [.ref a_0, .int v_2] h11 0 0 (fun r h17 => ∃ x19, r = some (.int x19) ∧ ((x19 ≤ 0 → ah_o h17 a_0 12 ∧ ∃ a22, ah_r h17 a_0 2 = some a22 ∧ ld0 h17 a22 v_1 ∧ (((ah_i h17 a22 (Int32.toNatClampNeg v_1)) ≤ 12 → ex_S yX12_partsBy mX12_partsBy (d + 4) [.ref a_0, .int v_1, .int v_2] h17 0 0 (fun r h25 => ∃ x26, r = some (.int x26) ∧ ((¬ x26 = 6 → ex_G mX12_same (d + 5) 142 [.ref a_0, .int v_1, .int v_2, .int v_3, .int x26, .retAddr 0] [] h25 bc bs Q) ∧ (x26 = 6 → ah_o h25 a_0 12 ∧ ∃ a29, ah_r h25 a_0 2 = some a29 ∧ ld0 h25 a29 v_1 ∧ ld0 h25 a29 v_2 ∧ (((((ah_f h25 a_0 23) + (1 <<< ((ah_i h25 a29 (Int32.toNatClampNeg v_1)) &&& (31 : Int32)))) + (1 <<< ((ah_i h25 a29 (Int32.toNatClampNeg v_2)) &&& (31 : Int32)))) ≤ 1000000 → ex_S yX12_polynomialsPart mX12_polynomialsPart (d + 4) [.ref a_0, .int v_1, .int v_2] h25 0 0 (fun r h33 => ∃ x34, r = some (.int x34) ∧ ((x34 = 0 → ex_G mX12_same (d + 5) 142 [.ref a_0, .int v_1, .int v_2, .int v_3, .int 0, .retAddr 0] [] h33 bc bs Q) ∧ (¬ x34 = 0 → ex_G mX12_same (d + 5) 142 [.ref a_0, .int v_1, .int v_2, .int v_3, .int 6, .retAddr 0] [] h33 bc bs Q)))) ∧ (¬ (((ah_f h25 a_0 23) + (1 <<< ((ah_i h25 a29 (Int32.toNatClampNeg v_1)) &&& (31 : Int32)))) + (1 <<< ((ah_i h25 a29 (Int32.toNatClampNeg v_2)) &&& (31 : Int32)))) ≤ 1000000 → X12_meets_C a_0 9 h25 ∧ ∀ h37, h37 = X12_meets_H a_0 9 h25 → Q (some (.int (X12_meets_V a_0 9 h25))) h37)))))) ∧ (¬ (ah_i h17 a22 (Int32.toNatClampNeg v_1)) ≤ 12 → X12_meets_C a_0 7 h17 ∧ ∀ h39, h39 = X12_meets_H a_0 7 h17 → Q (some (.int (X12_meets_V a_0 7 h17))) h39))) ∧ (¬ x19 ≤ 0 → ah_o h17 a_0 12 ∧ X12_meets_C a_0 3 h17 ∧ ∀ h42, h42 = X12_meets_H a_0 3 h17 → Q (some (.int (X12_meets_V a_0 3 h17))) h42))))))) ∧ ((X12_in_V (Int32.toInt64 v_3) 0 5000 h) = 0 → X12_no_C a_0 (-2) h ∧ ∀ h44, h44 = X12_no_H a_0 (-2) h → Q (some (.int (X12_no_V a_0 (-2) h))) h44))))))) : ex_G mX12_same (d + 5) 0 [.ref a_0, .int v_1, .int v_2, .int v_3, .retAddr 0, .retAddr 0] [] h bc bs Q := by
  refine ex_aload_n (q := 1) (x := a_0) dX12_same_0 rfl ?_
  refine ex_iload_n (q := 2) (x := v_1) dX12_same_1 rfl ?_
  have s1 := w.1
  replace w := w.2
  have s2 := w.1
  replace w := w.2
  refine ex_callV (q := 5) (M := mX12_same) (hdd := Nat.le_refl _) (mc := 0) (ms := 0) (d' := (d + 4)) (c := 12) (st := []) (bc := bc) (bs := bs) dX12_same_2 rfl cl_X12_187 wd_1593 wd_48 s1 (X12_isPicture_s (Q := fun r z => r = some (.int (X12_isPicture_V a_0 v_1 h)) ∧ z = h) s2 ⟨rfl, rfl⟩) ?_
  intro r z hrz
  rw [hrz.1, hrz.2]
  show ex_G mX12_same (d + 5) 5 [.ref a_0, .int v_1, .int v_2, .int v_3, .retAddr 0, .retAddr 0] [.int (X12_isPicture_V a_0 v_1 h)] (h) bc bs Q
  refine ex_if_eq (tgt := 28) (q := 8) dX12_same_5 (fun c3 => ?_) (fun c3 => ?_)
  · replace w := w.1 c3
    refine ex_aload_n (q := 29) (x := a_0) dX12_same_28 rfl ?_
    refine ex_bipush (q := 31) (v := (-2)) dX12_same_29 (by decide) ?_
    have s4 := w.1
    replace w := w.2
    refine ex_callV (q := 34) (M := mX12_same) (hdd := Nat.le_refl _) (mc := 0) (ms := 0) (d' := (d + 4)) (c := 12) (st := []) (bc := bc) (bs := bs) dX12_same_31 rfl cl_X12_165 wd_1581 wd_46 s1 (X12_no_s (Q := fun r z => r = some (.int (X12_no_V a_0 (-2) h)) ∧ z = X12_no_H a_0 (-2) h) s4 ⟨rfl, rfl⟩) ?_
    intro r z hrz
    rw [hrz.1, hrz.2]
    show ex_G mX12_same (d + 5) 34 [.ref a_0, .int v_1, .int v_2, .int v_3, .retAddr 0, .retAddr 0] [.int (X12_no_V a_0 (-2) h)] (X12_no_H a_0 (-2) h) bc bs Q
    refine ex_nmh (fun h5 eh5 => ?_)
    replace w := w h5 eh5
    exact ex_ireturn dX12_same_34 rfl (Or.inl rfl) w
  · replace w := w.2 c3
    refine ex_aload_n (q := 9) (x := a_0) dX12_same_8 rfl ?_
    refine ex_iload_n (q := 10) (x := v_2) dX12_same_9 rfl ?_
    have s6 := w.1
    replace w := w.2
    refine ex_callV (q := 13) (M := mX12_same) (hdd := Nat.le_refl _) (mc := 0) (ms := 0) (d' := (d + 4)) (c := 12) (st := []) (bc := bc) (bs := bs) dX12_same_10 rfl cl_X12_187 wd_1593 wd_48 s1 (X12_isPicture_s (Q := fun r z => r = some (.int (X12_isPicture_V a_0 v_2 h)) ∧ z = h) s6 ⟨rfl, rfl⟩) ?_
    intro r z hrz
    rw [hrz.1, hrz.2]
    show ex_G mX12_same (d + 5) 13 [.ref a_0, .int v_1, .int v_2, .int v_3, .retAddr 0, .retAddr 0] [.int (X12_isPicture_V a_0 v_2 h)] (h) bc bs Q
    refine ex_if_eq (tgt := 28) (q := 16) dX12_same_13 (fun c7 => ?_) (fun c7 => ?_)
    · replace w := w.1 c7
      refine ex_aload_n (q := 29) (x := a_0) dX12_same_28 rfl ?_
      refine ex_bipush (q := 31) (v := (-2)) dX12_same_29 (by decide) ?_
      have s8 := w.1
      replace w := w.2
      refine ex_callV (q := 34) (M := mX12_same) (hdd := Nat.le_refl _) (mc := 0) (ms := 0) (d' := (d + 4)) (c := 12) (st := []) (bc := bc) (bs := bs) dX12_same_31 rfl cl_X12_165 wd_1581 wd_46 s1 (X12_no_s (Q := fun r z => r = some (.int (X12_no_V a_0 (-2) h)) ∧ z = X12_no_H a_0 (-2) h) s8 ⟨rfl, rfl⟩) ?_
      intro r z hrz
      rw [hrz.1, hrz.2]
      show ex_G mX12_same (d + 5) 34 [.ref a_0, .int v_1, .int v_2, .int v_3, .retAddr 0, .retAddr 0] [.int (X12_no_V a_0 (-2) h)] (X12_no_H a_0 (-2) h) bc bs Q
      refine ex_nmh (fun h9 eh9 => ?_)
      replace w := w h9 eh9
      exact ex_ireturn dX12_same_34 rfl (Or.inl rfl) w
    · replace w := w.2 c7
      refine ex_iload_n (q := 17) (x := v_3) dX12_same_16 rfl ?_
      refine ex_i2l (q := 18) dX12_same_17 ?_
      refine ex_lconst (q := 19) (v := 0) dX12_same_18 (by decide) ?_
      refine ex_ldc2_w (q := 22) (v := 5000) dX12_same_19 wd_1989 ?_
      refine ex_callS (q := 25) (M := mX12_same) (hdd := Nat.le_refl _) (mc := 0) (ms := 0) (d' := (d + 4)) (st := []) (bc := bc) (bs := bs) dX12_same_22 rfl cl_X12_172 wd_1596 (X12_in_s (Q := fun r z => r = some (.int (X12_in_V (Int32.toInt64 v_3) 0 5000 h)) ∧ z = h) ⟨rfl, rfl⟩) ?_
      intro r z hrz
      rw [hrz.1, hrz.2]
      show ex_G mX12_same (d + 5) 25 [.ref a_0, .int v_1, .int v_2, .int v_3, .retAddr 0, .retAddr 0] [.int (X12_in_V (Int32.toInt64 v_3) 0 5000 h)] (h) bc bs Q
      refine ex_if_ne (tgt := 35) (q := 28) dX12_same_25 (fun c10 => ?_) (fun c10 => ?_)
      · replace w := w.1 c10
        refine ex_aload_n (q := 36) (x := a_0) dX12_same_35 rfl ?_
        refine ex_iload_n (q := 37) (x := v_1) dX12_same_36 rfl ?_
        refine ex_callV (q := 40) (M := mX12_same) (hdd := Nat.le_refl _) (c := 12) (st := []) (bc := bc) (bs := bs) dX12_same_37 rfl cl_X12_226 wd_1643 wd_52 s1 w ?_
        rintro r h11 ⟨x12, rfl, w⟩
        show ex_G mX12_same (d + 5) 40 [.ref a_0, .int v_1, .int v_2, .int v_3, .retAddr 0, .retAddr 0] [.int x12] h11 bc bs Q
        refine ex_if_gt (tgt := 51) (q := 43) dX12_same_40 (fun c13 => ?_) (fun c13 => ?_)
        · replace w := w.1 c13
          refine ex_aload_n (q := 52) (x := a_0) dX12_same_51 rfl ?_
          refine ex_iconst (q := 53) (v := 3) dX12_same_52 (by decide) ?_
          have s14 := w.1
          replace w := w.2
          have s15 := w.1
          replace w := w.2
          refine ex_callV (q := 56) (M := mX12_same) (hdd := Nat.le_refl _) (mc := 0) (ms := 0) (d' := (d + 4)) (c := 12) (st := []) (bc := bc) (bs := bs) dX12_same_53 rfl cl_X12_200 wd_1614 wd_50 s14 (X12_meets_s (Q := fun r z => r = some (.int (X12_meets_V a_0 3 h11)) ∧ z = X12_meets_H a_0 3 h11) s15 ⟨rfl, rfl⟩) ?_
          intro r z hrz
          rw [hrz.1, hrz.2]
          show ex_G mX12_same (d + 5) 56 [.ref a_0, .int v_1, .int v_2, .int v_3, .retAddr 0, .retAddr 0] [.int (X12_meets_V a_0 3 h11)] (X12_meets_H a_0 3 h11) bc bs Q
          refine ex_nmh (fun h16 eh16 => ?_)
          replace w := w h16 eh16
          exact ex_ireturn dX12_same_56 rfl (Or.inl rfl) w
        · replace w := w.2 c13
          refine ex_aload_n (q := 44) (x := a_0) dX12_same_43 rfl ?_
          refine ex_iload_n (q := 45) (x := v_2) dX12_same_44 rfl ?_
          have s18 := w.1
          replace w := w.2
          refine ex_callV (q := 48) (M := mX12_same) (hdd := Nat.le_refl _) (c := 12) (st := []) (bc := bc) (bs := bs) dX12_same_45 rfl cl_X12_226 wd_1643 wd_52 s18 w ?_
          rintro r h17 ⟨x19, rfl, w⟩
          show ex_G mX12_same (d + 5) 48 [.ref a_0, .int v_1, .int v_2, .int v_3, .retAddr 0, .retAddr 0] [.int x19] h17 bc bs Q
          refine ex_if_le (tgt := 57) (q := 51) dX12_same_48 (fun c20 => ?_) (fun c20 => ?_)
          · replace w := w.1 c20
            refine ex_aload_n (q := 58) (x := a_0) dX12_same_57 rfl ?_
            have s21 := w.1
            replace w := w.2
            obtain ⟨a22, ea22, w⟩ := w
            refine ex_getr (q := 61) dX12_same_58 fl_X12_13 s21 ea22 ?_
            refine ex_iload_n (q := 62) (x := v_1) dX12_same_61 rfl ?_
            have s23 := w.1
            replace w := w.2
            refine ex_iald (q := 63) dX12_same_62 s23 ?_
            refine ex_bipush (q := 65) (v := 12) dX12_same_63 (by decide) ?_
            refine ex_icmp_le (tgt := 75) (q := 68) dX12_same_65 (fun c24 => ?_) (fun c24 => ?_)
            · replace w := w.1 c24
              refine ex_aload_n (q := 76) (x := a_0) dX12_same_75 rfl ?_
              refine ex_iload_n (q := 77) (x := v_1) dX12_same_76 rfl ?_
              refine ex_iload_n (q := 78) (x := v_2) dX12_same_77 rfl ?_
              refine ex_callV (q := 81) (M := mX12_same) (hdd := Nat.le_refl _) (c := 12) (st := []) (bc := bc) (bs := bs) dX12_same_78 rfl cl_X12_461 wd_2032 wd_109 s21 w ?_
              rintro r h25 ⟨x26, rfl, w⟩
              show ex_G mX12_same (d + 5) 81 [.ref a_0, .int v_1, .int v_2, .int v_3, .retAddr 0, .retAddr 0] [.int x26] h25 bc bs Q
              refine ex_istore (q := 83) (ls' := [.ref a_0, .int v_1, .int v_2, .int v_3, .int x26, .retAddr 0]) dX12_same_81 rfl ?_
              refine ex_iload (q := 85) (x := x26) dX12_same_83 rfl ?_
              refine ex_bipush (q := 87) (v := 6) dX12_same_85 (by decide) ?_
              refine ex_icmp_ne (tgt := 142) (q := 90) dX12_same_87 (fun c27 => ?_) (fun c27 => ?_)
              · replace w := w.1 c27
                exact w
              · replace w := w.2 c27
                refine ex_aload_n (q := 91) (x := a_0) dX12_same_90 rfl ?_
                have s28 := w.1
                replace w := w.2
                refine ex_getf (q := 94) dX12_same_91 fl_X12_250 s28 ?_
                refine ex_iconst (q := 95) (v := 1) dX12_same_94 (by decide) ?_
                refine ex_aload_n (q := 96) (x := a_0) dX12_same_95 rfl ?_
                obtain ⟨a29, ea29, w⟩ := w
                refine ex_getr (q := 99) dX12_same_96 fl_X12_13 s28 ea29 ?_
                refine ex_iload_n (q := 100) (x := v_1) dX12_same_99 rfl ?_
                have s30 := w.1
                replace w := w.2
                refine ex_iald (q := 101) dX12_same_100 s30 ?_
                refine ex_ishl (q := 102) dX12_same_101 ?_
                refine ex_iadd (q := 103) dX12_same_102 ?_
                refine ex_iconst (q := 104) (v := 1) dX12_same_103 (by decide) ?_
                refine ex_aload_n (q := 105) (x := a_0) dX12_same_104 rfl ?_
                refine ex_getr (q := 108) dX12_same_105 fl_X12_13 s28 ea29 ?_
                refine ex_iload_n (q := 109) (x := v_2) dX12_same_108 rfl ?_
                have s31 := w.1
                replace w := w.2
                refine ex_iald (q := 110) dX12_same_109 s31 ?_
                refine ex_ishl (q := 111) dX12_same_110 ?_
                refine ex_iadd (q := 112) dX12_same_111 ?_
                refine ex_ldc_w (q := 115) (v := 1000000) dX12_same_112 wd_1720 ?_
                refine ex_icmp_le (tgt := 125) (q := 118) dX12_same_115 (fun c32 => ?_) (fun c32 => ?_)
                · replace w := w.1 c32
                  refine ex_aload_n (q := 126) (x := a_0) dX12_same_125 rfl ?_
                  refine ex_iload_n (q := 127) (x := v_1) dX12_same_126 rfl ?_
                  refine ex_iload_n (q := 128) (x := v_2) dX12_same_127 rfl ?_
                  refine ex_callV (q := 131) (M := mX12_same) (hdd := Nat.le_refl _) (c := 12) (st := []) (bc := bc) (bs := bs) dX12_same_128 rfl cl_X12_464 wd_2036 wd_110 s28 w ?_
                  rintro r h33 ⟨x34, rfl, w⟩
                  show ex_G mX12_same (d + 5) 131 [.ref a_0, .int v_1, .int v_2, .int v_3, .int x26, .retAddr 0] [.int x34] h33 bc bs Q
                  refine ex_if_eq (tgt := 139) (q := 134) dX12_same_131 (fun c35 => ?_) (fun c35 => ?_)
                  · replace w := w.1 c35
                    refine ex_iconst (q := 140) (v := 0) dX12_same_139 (by decide) ?_
                    refine ex_istore (q := 142) (ls' := [.ref a_0, .int v_1, .int v_2, .int v_3, .int 0, .retAddr 0]) dX12_same_140 rfl ?_
                    exact w
                  · replace w := w.2 c35
                    refine ex_bipush (q := 136) (v := 6) dX12_same_134 (by decide) ?_
                    refine ex_goto (tgt := 140) dX12_same_136 ?_
                    refine ex_istore (q := 142) (ls' := [.ref a_0, .int v_1, .int v_2, .int v_3, .int 6, .retAddr 0]) dX12_same_140 rfl ?_
                    exact w
                · replace w := w.2 c32
                  refine ex_aload_n (q := 119) (x := a_0) dX12_same_118 rfl ?_
                  refine ex_bipush (q := 121) (v := 9) dX12_same_119 (by decide) ?_
                  have s36 := w.1
                  replace w := w.2
                  refine ex_callV (q := 124) (M := mX12_same) (hdd := Nat.le_refl _) (mc := 0) (ms := 0) (d' := (d + 4)) (c := 12) (st := []) (bc := bc) (bs := bs) dX12_same_121 rfl cl_X12_200 wd_1614 wd_50 s28 (X12_meets_s (Q := fun r z => r = some (.int (X12_meets_V a_0 9 h25)) ∧ z = X12_meets_H a_0 9 h25) s36 ⟨rfl, rfl⟩) ?_
                  intro r z hrz
                  rw [hrz.1, hrz.2]
                  show ex_G mX12_same (d + 5) 124 [.ref a_0, .int v_1, .int v_2, .int v_3, .int x26, .retAddr 0] [.int (X12_meets_V a_0 9 h25)] (X12_meets_H a_0 9 h25) bc bs Q
                  refine ex_nmh (fun h37 eh37 => ?_)
                  replace w := w h37 eh37
                  exact ex_ireturn dX12_same_124 rfl (Or.inl rfl) w
            · replace w := w.2 c24
              refine ex_aload_n (q := 69) (x := a_0) dX12_same_68 rfl ?_
              refine ex_bipush (q := 71) (v := 7) dX12_same_69 (by decide) ?_
              have s38 := w.1
              replace w := w.2
              refine ex_callV (q := 74) (M := mX12_same) (hdd := Nat.le_refl _) (mc := 0) (ms := 0) (d' := (d + 4)) (c := 12) (st := []) (bc := bc) (bs := bs) dX12_same_71 rfl cl_X12_200 wd_1614 wd_50 s21 (X12_meets_s (Q := fun r z => r = some (.int (X12_meets_V a_0 7 h17)) ∧ z = X12_meets_H a_0 7 h17) s38 ⟨rfl, rfl⟩) ?_
              intro r z hrz
              rw [hrz.1, hrz.2]
              show ex_G mX12_same (d + 5) 74 [.ref a_0, .int v_1, .int v_2, .int v_3, .retAddr 0, .retAddr 0] [.int (X12_meets_V a_0 7 h17)] (X12_meets_H a_0 7 h17) bc bs Q
              refine ex_nmh (fun h39 eh39 => ?_)
              replace w := w h39 eh39
              exact ex_ireturn dX12_same_74 rfl (Or.inl rfl) w
          · replace w := w.2 c20
            refine ex_aload_n (q := 52) (x := a_0) dX12_same_51 rfl ?_
            refine ex_iconst (q := 53) (v := 3) dX12_same_52 (by decide) ?_
            have s40 := w.1
            replace w := w.2
            have s41 := w.1
            replace w := w.2
            refine ex_callV (q := 56) (M := mX12_same) (hdd := Nat.le_refl _) (mc := 0) (ms := 0) (d' := (d + 4)) (c := 12) (st := []) (bc := bc) (bs := bs) dX12_same_53 rfl cl_X12_200 wd_1614 wd_50 s40 (X12_meets_s (Q := fun r z => r = some (.int (X12_meets_V a_0 3 h17)) ∧ z = X12_meets_H a_0 3 h17) s41 ⟨rfl, rfl⟩) ?_
            intro r z hrz
            rw [hrz.1, hrz.2]
            show ex_G mX12_same (d + 5) 56 [.ref a_0, .int v_1, .int v_2, .int v_3, .retAddr 0, .retAddr 0] [.int (X12_meets_V a_0 3 h17)] (X12_meets_H a_0 3 h17) bc bs Q
            refine ex_nmh (fun h42 eh42 => ?_)
            replace w := w h42 eh42
            exact ex_ireturn dX12_same_56 rfl (Or.inl rfl) w
      · replace w := w.2 c10
        refine ex_aload_n (q := 29) (x := a_0) dX12_same_28 rfl ?_
        refine ex_bipush (q := 31) (v := (-2)) dX12_same_29 (by decide) ?_
        have s43 := w.1
        replace w := w.2
        refine ex_callV (q := 34) (M := mX12_same) (hdd := Nat.le_refl _) (mc := 0) (ms := 0) (d' := (d + 4)) (c := 12) (st := []) (bc := bc) (bs := bs) dX12_same_31 rfl cl_X12_165 wd_1581 wd_46 s1 (X12_no_s (Q := fun r z => r = some (.int (X12_no_V a_0 (-2) h)) ∧ z = X12_no_H a_0 (-2) h) s43 ⟨rfl, rfl⟩) ?_
        intro r z hrz
        rw [hrz.1, hrz.2]
        show ex_G mX12_same (d + 5) 34 [.ref a_0, .int v_1, .int v_2, .int v_3, .retAddr 0, .retAddr 0] [.int (X12_no_V a_0 (-2) h)] (X12_no_H a_0 (-2) h) bc bs Q
        refine ex_nmh (fun h44 eh44 => ?_)
        replace w := w h44 eh44
        exact ex_ireturn dX12_same_34 rfl (Or.inl rfl) w

set_option maxRecDepth 100000 in
theorem X12_same_142 {d bc bs : Nat} {h : AH} {Q : Option Value → AH → Prop} {a_0 : Nat} {v_1 : Int32} {v_2 : Int32} {v_3 : Int32} {v_4 : Int32} (w : ah_o h a_0 12 ∧ ∀ h2, h2 = ah_sf h a_0 60 v_4 → ((v_4 ≤ 0 → ex_S yX12_link mX12_link (d + 4) [.ref a_0, .int v_2] h2 0 0 (fun r h4 => r = none ∧ ah_o h4 a_0 12 ∧ ∃ a6, ah_r h4 a_0 48 = some a6 ∧ ex_S yX12_codeInto mX12_codeInto (d + 4) [.ref a_0, .int v_2, .ref a6, .int 0] h4 0 0 (fun r h7 => r = none ∧ ah_o h7 a_0 12 ∧ ex_S yX12_beginSearch mX12_beginSearch (d + 4) [.ref a_0, .int v_1] h7 0 0 (fun r h8 => r = none ∧ ah_o h8 a_0 12 ∧ ∃ a11, ah_r h8 a_0 57 = some a11 ∧ ∃ a12, ah_r h8 a_0 48 = some a12 ∧ ex_S yX12_areAlike mX12_areAlike (d + 4) [.ref a11, .int 0, .ref a12, .int 0] h8 0 0 (fun r h13 => ∃ x14, r = some (.int x14) ∧ ((x14 = 0 → ah_o h13 a_0 12 ∧ ex_S yX12_goes mX12_goes (d + 4) [.ref a_0, .int v_3, .int 1] h13 0 0 (fun r h16 => ∃ x18, r = some (.int x18) ∧ ah_o h16 a_0 12 ∧ ∃ a20, ah_r h16 a_0 57 = some a20 ∧ ∃ a21, ah_r h16 a_0 48 = some a21 ∧ ex_S yX12_areAlike mX12_areAlike (d + 4) [.ref a20, .int (70 * ((ah_f h16 a_0 51) - 1)), .ref a21, .int 0] h16 0 0 (fun r h22 => ∃ x23, r = some (.int x23) ∧ ((x23 = 0 → ah_o h22 a_0 12 ∧ X12_well_C a_0 (-1) h22 ∧ ∀ h27, h27 = X12_well_H a_0 (-1) h22 → Q (some (.int (X12_well_V a_0 (-1) h22))) h27) ∧ (¬ x23 = 0 → ah_o h22 a_0 12 ∧ ex_S yX12_waysTo mX12_waysTo (d + 4) [.ref a_0, .int ((ah_f h22 a_0 51) - 1)] h22 0 0 (fun r h29 => r = none ∧ ah_o h29 a_0 12 ∧ X12_well_C a_0 1 h29 ∧ ∀ h32, h32 = X12_well_H a_0 1 h29 → Q (some (.int (X12_well_V a_0 1 h29))) h32)))))) ∧ (¬ x14 = 0 → ah_o h13 a_0 12 ∧ ex_S yX12_waysTo mX12_waysTo (d + 4) [.ref a_0, .int 0] h13 0 0 (fun r h33 => r = none ∧ ah_o h33 a_0 12 ∧ X12_well_C a_0 1 h33 ∧ ∀ h37, h37 = X12_well_H a_0 1 h33 → Q (some (.int (X12_well_V a_0 1 h33))) h37)))))))) ∧ (¬ v_4 ≤ 0 → X12_well_C a_0 0 h2 ∧ ∀ h39, h39 = X12_well_H a_0 0 h2 → Q (some (.int (X12_well_V a_0 0 h2))) h39))) : ex_G mX12_same (d + 5) 142 [.ref a_0, .int v_1, .int v_2, .int v_3, .int v_4, .retAddr 0] [] h bc bs Q := by
  refine ex_aload_n (q := 143) (x := a_0) dX12_same_142 rfl ?_
  refine ex_iload (q := 145) (x := v_4) dX12_same_143 rfl ?_
  have s1 := w.1
  replace w := w.2
  refine ex_putf (q := 148) dX12_same_145 fl_X12_467 (Or.inl rfl) s1 (Or.inl rfl) ?_
  refine ex_nmh (fun h2 eh2 => ?_)
  replace w := w h2 eh2
  refine ex_iload (q := 150) (x := v_4) dX12_same_148 rfl ?_
  refine ex_if_le (tgt := 159) (q := 153) dX12_same_150 (fun c3 => ?_) (fun c3 => ?_)
  · replace w := w.1 c3
    refine ex_aload_n (q := 160) (x := a_0) dX12_same_159 rfl ?_
    refine ex_iload_n (q := 161) (x := v_2) dX12_same_160 rfl ?_
    refine ex_callV (q := 164) (M := mX12_same) (hdd := Nat.le_refl _) (c := 12) (st := []) (bc := bc) (bs := bs) dX12_same_161 rfl cl_X12_216 wd_1647 wd_53 (by rw [eh2]; exact s1) w ?_
    rintro r h4 ⟨rfl, w⟩
    show ex_G mX12_same (d + 5) 164 [.ref a_0, .int v_1, .int v_2, .int v_3, .int v_4, .retAddr 0] [] h4 bc bs Q
    refine ex_aload_n (q := 165) (x := a_0) dX12_same_164 rfl ?_
    refine ex_iload_n (q := 166) (x := v_2) dX12_same_165 rfl ?_
    refine ex_aload_n (q := 167) (x := a_0) dX12_same_166 rfl ?_
    have s5 := w.1
    replace w := w.2
    obtain ⟨a6, ea6, w⟩ := w
    refine ex_getr (q := 170) dX12_same_167 fl_X12_137 s5 ea6 ?_
    refine ex_iconst (q := 171) (v := 0) dX12_same_170 (by decide) ?_
    refine ex_callV (q := 174) (M := mX12_same) (hdd := Nat.le_refl _) (c := 12) (st := []) (bc := bc) (bs := bs) dX12_same_171 rfl cl_X12_412 wd_1969 wd_100 s5 w ?_
    rintro r h7 ⟨rfl, w⟩
    show ex_G mX12_same (d + 5) 174 [.ref a_0, .int v_1, .int v_2, .int v_3, .int v_4, .retAddr 0] [] h7 bc bs Q
    refine ex_aload_n (q := 175) (x := a_0) dX12_same_174 rfl ?_
    refine ex_iload_n (q := 176) (x := v_1) dX12_same_175 rfl ?_
    have s9 := w.1
    replace w := w.2
    refine ex_callV (q := 179) (M := mX12_same) (hdd := Nat.le_refl _) (c := 12) (st := []) (bc := bc) (bs := bs) dX12_same_176 rfl cl_X12_446 wd_1992 wd_103 s9 w ?_
    rintro r h8 ⟨rfl, w⟩
    show ex_G mX12_same (d + 5) 179 [.ref a_0, .int v_1, .int v_2, .int v_3, .int v_4, .retAddr 0] [] h8 bc bs Q
    refine ex_aload_n (q := 180) (x := a_0) dX12_same_179 rfl ?_
    have s10 := w.1
    replace w := w.2
    obtain ⟨a11, ea11, w⟩ := w
    refine ex_getr (q := 183) dX12_same_180 fl_X12_146 s10 ea11 ?_
    refine ex_iconst (q := 184) (v := 0) dX12_same_183 (by decide) ?_
    refine ex_aload_n (q := 185) (x := a_0) dX12_same_184 rfl ?_
    obtain ⟨a12, ea12, w⟩ := w
    refine ex_getr (q := 188) dX12_same_185 fl_X12_137 s10 ea12 ?_
    refine ex_iconst (q := 189) (v := 0) dX12_same_188 (by decide) ?_
    refine ex_callS (q := 192) (M := mX12_same) (hdd := Nat.le_refl _) (st := []) (bc := bc) (bs := bs) dX12_same_189 rfl cl_X12_416 wd_1983 w ?_
    rintro r h13 ⟨x14, rfl, w⟩
    show ex_G mX12_same (d + 5) 192 [.ref a_0, .int v_1, .int v_2, .int v_3, .int v_4, .retAddr 0] [.int x14] h13 bc bs Q
    refine ex_if_eq (tgt := 206) (q := 195) dX12_same_192 (fun c15 => ?_) (fun c15 => ?_)
    · replace w := w.1 c15
      refine ex_aload_n (q := 207) (x := a_0) dX12_same_206 rfl ?_
      refine ex_iload_n (q := 208) (x := v_3) dX12_same_207 rfl ?_
      refine ex_iconst (q := 209) (v := 1) dX12_same_208 (by decide) ?_
      have s17 := w.1
      replace w := w.2
      refine ex_callV (q := 212) (M := mX12_same) (hdd := Nat.le_refl _) (c := 12) (st := []) (bc := bc) (bs := bs) dX12_same_209 rfl cl_X12_449 wd_1996 wd_104 s17 w ?_
      rintro r h16 ⟨x18, rfl, w⟩
      show ex_G mX12_same (d + 5) 212 [.ref a_0, .int v_1, .int v_2, .int v_3, .int v_4, .retAddr 0] [.int x18] h16 bc bs Q
      refine ex_istore (q := 214) (ls' := [.ref a_0, .int v_1, .int v_2, .int v_3, .int v_4, .int x18]) dX12_same_212 rfl ?_
      refine ex_aload_n (q := 215) (x := a_0) dX12_same_214 rfl ?_
      have s19 := w.1
      replace w := w.2
      obtain ⟨a20, ea20, w⟩ := w
      refine ex_getr (q := 218) dX12_same_215 fl_X12_146 s19 ea20 ?_
      refine ex_bipush (q := 220) (v := 70) dX12_same_218 (by decide) ?_
      refine ex_aload_n (q := 221) (x := a_0) dX12_same_220 rfl ?_
      refine ex_getf (q := 224) dX12_same_221 fl_X12_426 s19 ?_
      refine ex_iconst (q := 225) (v := 1) dX12_same_224 (by decide) ?_
      refine ex_isub (q := 226) dX12_same_225 ?_
      refine ex_imul (q := 227) dX12_same_226 ?_
      refine ex_aload_n (q := 228) (x := a_0) dX12_same_227 rfl ?_
      obtain ⟨a21, ea21, w⟩ := w
      refine ex_getr (q := 231) dX12_same_228 fl_X12_137 s19 ea21 ?_
      refine ex_iconst (q := 232) (v := 0) dX12_same_231 (by decide) ?_
      refine ex_callS (q := 235) (M := mX12_same) (hdd := Nat.le_refl _) (st := []) (bc := bc) (bs := bs) dX12_same_232 rfl cl_X12_416 wd_1983 w ?_
      rintro r h22 ⟨x23, rfl, w⟩
      show ex_G mX12_same (d + 5) 235 [.ref a_0, .int v_1, .int v_2, .int v_3, .int v_4, .int x18] [.int x23] h22 bc bs Q
      refine ex_if_eq (tgt := 254) (q := 238) dX12_same_235 (fun c24 => ?_) (fun c24 => ?_)
      · replace w := w.1 c24
        refine ex_aload_n (q := 255) (x := a_0) dX12_same_254 rfl ?_
        refine ex_iconst (q := 256) (v := (-1)) dX12_same_255 (by decide) ?_
        have s25 := w.1
        replace w := w.2
        have s26 := w.1
        replace w := w.2
        refine ex_callV (q := 259) (M := mX12_same) (hdd := Nat.le_refl _) (mc := 0) (ms := 0) (d' := (d + 4)) (c := 12) (st := []) (bc := bc) (bs := bs) dX12_same_256 rfl cl_X12_180 wd_1585 wd_47 s25 (X12_well_s (Q := fun r z => r = some (.int (X12_well_V a_0 (-1) h22)) ∧ z = X12_well_H a_0 (-1) h22) s26 ⟨rfl, rfl⟩) ?_
        intro r z hrz
        rw [hrz.1, hrz.2]
        show ex_G mX12_same (d + 5) 259 [.ref a_0, .int v_1, .int v_2, .int v_3, .int v_4, .int x18] [.int (X12_well_V a_0 (-1) h22)] (X12_well_H a_0 (-1) h22) bc bs Q
        refine ex_nmh (fun h27 eh27 => ?_)
        replace w := w h27 eh27
        exact ex_ireturn dX12_same_259 rfl (Or.inl rfl) w
      · replace w := w.2 c24
        refine ex_aload_n (q := 239) (x := a_0) dX12_same_238 rfl ?_
        refine ex_aload_n (q := 240) (x := a_0) dX12_same_239 rfl ?_
        have s28 := w.1
        replace w := w.2
        refine ex_getf (q := 243) dX12_same_240 fl_X12_426 s28 ?_
        refine ex_iconst (q := 244) (v := 1) dX12_same_243 (by decide) ?_
        refine ex_isub (q := 245) dX12_same_244 ?_
        refine ex_callV (q := 248) (M := mX12_same) (hdd := Nat.le_refl _) (c := 12) (st := []) (bc := bc) (bs := bs) dX12_same_245 rfl cl_X12_458 wd_2024 wd_108 s28 w ?_
        rintro r h29 ⟨rfl, w⟩
        show ex_G mX12_same (d + 5) 248 [.ref a_0, .int v_1, .int v_2, .int v_3, .int v_4, .int x18] [] h29 bc bs Q
        refine ex_aload_n (q := 249) (x := a_0) dX12_same_248 rfl ?_
        refine ex_iconst (q := 250) (v := 1) dX12_same_249 (by decide) ?_
        have s30 := w.1
        replace w := w.2
        have s31 := w.1
        replace w := w.2
        refine ex_callV (q := 253) (M := mX12_same) (hdd := Nat.le_refl _) (mc := 0) (ms := 0) (d' := (d + 4)) (c := 12) (st := []) (bc := bc) (bs := bs) dX12_same_250 rfl cl_X12_180 wd_1585 wd_47 s30 (X12_well_s (Q := fun r z => r = some (.int (X12_well_V a_0 1 h29)) ∧ z = X12_well_H a_0 1 h29) s31 ⟨rfl, rfl⟩) ?_
        intro r z hrz
        rw [hrz.1, hrz.2]
        show ex_G mX12_same (d + 5) 253 [.ref a_0, .int v_1, .int v_2, .int v_3, .int v_4, .int x18] [.int (X12_well_V a_0 1 h29)] (X12_well_H a_0 1 h29) bc bs Q
        refine ex_nmh (fun h32 eh32 => ?_)
        replace w := w h32 eh32
        exact ex_ireturn dX12_same_253 rfl (Or.inl rfl) w
    · replace w := w.2 c15
      refine ex_aload_n (q := 196) (x := a_0) dX12_same_195 rfl ?_
      refine ex_iconst (q := 197) (v := 0) dX12_same_196 (by decide) ?_
      have s34 := w.1
      replace w := w.2
      refine ex_callV (q := 200) (M := mX12_same) (hdd := Nat.le_refl _) (c := 12) (st := []) (bc := bc) (bs := bs) dX12_same_197 rfl cl_X12_458 wd_2024 wd_108 s34 w ?_
      rintro r h33 ⟨rfl, w⟩
      show ex_G mX12_same (d + 5) 200 [.ref a_0, .int v_1, .int v_2, .int v_3, .int v_4, .retAddr 0] [] h33 bc bs Q
      refine ex_aload_n (q := 201) (x := a_0) dX12_same_200 rfl ?_
      refine ex_iconst (q := 202) (v := 1) dX12_same_201 (by decide) ?_
      have s35 := w.1
      replace w := w.2
      have s36 := w.1
      replace w := w.2
      refine ex_callV (q := 205) (M := mX12_same) (hdd := Nat.le_refl _) (mc := 0) (ms := 0) (d' := (d + 4)) (c := 12) (st := []) (bc := bc) (bs := bs) dX12_same_202 rfl cl_X12_180 wd_1585 wd_47 s35 (X12_well_s (Q := fun r z => r = some (.int (X12_well_V a_0 1 h33)) ∧ z = X12_well_H a_0 1 h33) s36 ⟨rfl, rfl⟩) ?_
      intro r z hrz
      rw [hrz.1, hrz.2]
      show ex_G mX12_same (d + 5) 205 [.ref a_0, .int v_1, .int v_2, .int v_3, .int v_4, .retAddr 0] [.int (X12_well_V a_0 1 h33)] (X12_well_H a_0 1 h33) bc bs Q
      refine ex_nmh (fun h37 eh37 => ?_)
      replace w := w h37 eh37
      exact ex_ireturn dX12_same_205 rfl (Or.inl rfl) w
  · replace w := w.2 c3
    refine ex_aload_n (q := 154) (x := a_0) dX12_same_153 rfl ?_
    refine ex_iconst (q := 155) (v := 0) dX12_same_154 (by decide) ?_
    have s38 := w.1
    replace w := w.2
    refine ex_callV (q := 158) (M := mX12_same) (hdd := Nat.le_refl _) (mc := 0) (ms := 0) (d' := (d + 4)) (c := 12) (st := []) (bc := bc) (bs := bs) dX12_same_155 rfl cl_X12_180 wd_1585 wd_47 (by rw [eh2]; exact s1) (X12_well_s (Q := fun r z => r = some (.int (X12_well_V a_0 0 h2)) ∧ z = X12_well_H a_0 0 h2) s38 ⟨rfl, rfl⟩) ?_
    intro r z hrz
    rw [hrz.1, hrz.2]
    show ex_G mX12_same (d + 5) 158 [.ref a_0, .int v_1, .int v_2, .int v_3, .int v_4, .retAddr 0] [.int (X12_well_V a_0 0 h2)] (X12_well_H a_0 0 h2) bc bs Q
    refine ex_nmh (fun h39 eh39 => ?_)
    replace w := w h39 eh39
    exact ex_ireturn dX12_same_158 rfl (Or.inl rfl) w

theorem X12_same_e {d bc bs : Nat} {h : AH} {Q : Option Value → AH → Prop} {a_0 : Nat} {v_1 : Int32} {v_2 : Int32} {v_3 : Int32} (w : ex_G mX12_same (d + 5) 0 [.ref a_0, .int v_1, .int v_2, .int v_3, .retAddr 0, .retAddr 0] [] h bc bs Q) : ex_S yX12_same mX12_same (d + 5) [.ref a_0, .int v_1, .int v_2, .int v_3] h bc bs Q :=
  ex_enter (plainFor_of_name (by decide +kernel)) ⟨rfl, rfl⟩ rfl rfl (Nat.le_of_ble_eq_true rfl) (ex_pad 2 w)

set_option maxRecDepth 100000 in
theorem X12_check_0 {d bc bs : Nat} {h : AH} {Q : Option Value → AH → Prop} {a_0 : Nat} {v_1 : Int32} (w : ah_o h a_0 12 ∧ X12_isPicture_C a_0 v_1 h ∧ ((¬ (X12_isPicture_V a_0 v_1 h) = 0 → ((¬ (ah_f h a_0 6) = 24 → ex_S yX12_openOf mX12_openOf (d + 3) [.ref a_0, .int v_1] h 0 0 (fun r h5 => ∃ x6, r = some (.int x6) ∧ ((x6 ≤ 0 → ah_o h5 a_0 12 ∧ ex_S yX12_copySlot mX12_copySlot (d + 3) [.ref a_0, .int v_1, .int 364] h5 0 0 (fun r h8 => r = none ∧ ex_G mX12_check (d + 4) 55 [.ref a_0, .retAddr 0, .int 0] [] h8 bc bs Q)) ∧ (¬ x6 ≤ 0 → ah_o h5 a_0 12 ∧ X12_meets_C a_0 3 h5 ∧ ∀ h12, h12 = X12_meets_H a_0 3 h5 → Q (some (.int (X12_meets_V a_0 3 h5))) h12)))) ∧ ((ah_f h a_0 6) = 24 → X12_no_C a_0 (-3) h ∧ ∀ h14, h14 = X12_no_H a_0 (-3) h → Q (some (.int (X12_no_V a_0 (-3) h))) h14))) ∧ ((X12_isPicture_V a_0 v_1 h) = 0 → X12_no_C a_0 (-2) h ∧ ∀ h16, h16 = X12_no_H a_0 (-2) h → Q (some (.int (X12_no_V a_0 (-2) h))) h16))) : ex_G mX12_check (d + 4) 0 [.ref a_0, .int v_1, .retAddr 0] [] h bc bs Q := by
  refine ex_aload_n (q := 1) (x := a_0) dX12_check_0 rfl ?_
  refine ex_iload_n (q := 2) (x := v_1) dX12_check_1 rfl ?_
  have s1 := w.1
  replace w := w.2
  have s2 := w.1
  replace w := w.2
  refine ex_callV (q := 5) (M := mX12_check) (hdd := Nat.le_refl _) (mc := 0) (ms := 0) (d' := (d + 3)) (c := 12) (st := []) (bc := bc) (bs := bs) dX12_check_2 rfl cl_X12_187 wd_1593 wd_48 s1 (X12_isPicture_s (Q := fun r z => r = some (.int (X12_isPicture_V a_0 v_1 h)) ∧ z = h) s2 ⟨rfl, rfl⟩) ?_
  intro r z hrz
  rw [hrz.1, hrz.2]
  show ex_G mX12_check (d + 4) 5 [.ref a_0, .int v_1, .retAddr 0] [.int (X12_isPicture_V a_0 v_1 h)] (h) bc bs Q
  refine ex_if_ne (tgt := 15) (q := 8) dX12_check_5 (fun c3 => ?_) (fun c3 => ?_)
  · replace w := w.1 c3
    refine ex_aload_n (q := 16) (x := a_0) dX12_check_15 rfl ?_
    refine ex_getf (q := 19) dX12_check_16 fl_X12_169 s1 ?_
    refine ex_bipush (q := 21) (v := 24) dX12_check_19 (by decide) ?_
    refine ex_icmp_ne (tgt := 31) (q := 24) dX12_check_21 (fun c4 => ?_) (fun c4 => ?_)
    · replace w := w.1 c4
      refine ex_aload_n (q := 32) (x := a_0) dX12_check_31 rfl ?_
      refine ex_iload_n (q := 33) (x := v_1) dX12_check_32 rfl ?_
      refine ex_callV (q := 36) (M := mX12_check) (hdd := Nat.le_refl _) (c := 12) (st := []) (bc := bc) (bs := bs) dX12_check_33 rfl cl_X12_226 wd_1643 wd_52 s1 w ?_
      rintro r h5 ⟨x6, rfl, w⟩
      show ex_G mX12_check (d + 4) 36 [.ref a_0, .int v_1, .retAddr 0] [.int x6] h5 bc bs Q
      refine ex_if_le (tgt := 45) (q := 39) dX12_check_36 (fun c7 => ?_) (fun c7 => ?_)
      · replace w := w.1 c7
        refine ex_aload_n (q := 46) (x := a_0) dX12_check_45 rfl ?_
        refine ex_iload_n (q := 47) (x := v_1) dX12_check_46 rfl ?_
        refine ex_sipush (q := 50) (v := 364) dX12_check_47 (by decide) ?_
        have s9 := w.1
        replace w := w.2
        refine ex_callV (q := 53) (M := mX12_check) (hdd := Nat.le_refl _) (c := 12) (st := []) (bc := bc) (bs := bs) dX12_check_50 rfl cl_X12_176 wd_1796 wd_71 s9 w ?_
        rintro r h8 ⟨rfl, w⟩
        show ex_G mX12_check (d + 4) 53 [.ref a_0, .int v_1, .retAddr 0] [] h8 bc bs Q
        refine ex_iconst (q := 54) (v := 0) dX12_check_53 (by decide) ?_
        refine ex_istore_n (q := 55) (ls' := [.ref a_0, .int v_1, .int 0]) dX12_check_54 rfl ?_
        refine ex_kill 1 (ls' := [.ref a_0, .retAddr 0, .int 0]) rfl ?_
        exact w
      · replace w := w.2 c7
        refine ex_aload_n (q := 40) (x := a_0) dX12_check_39 rfl ?_
        refine ex_iconst (q := 41) (v := 3) dX12_check_40 (by decide) ?_
        have s10 := w.1
        replace w := w.2
        have s11 := w.1
        replace w := w.2
        refine ex_callV (q := 44) (M := mX12_check) (hdd := Nat.le_refl _) (mc := 0) (ms := 0) (d' := (d + 3)) (c := 12) (st := []) (bc := bc) (bs := bs) dX12_check_41 rfl cl_X12_200 wd_1614 wd_50 s10 (X12_meets_s (Q := fun r z => r = some (.int (X12_meets_V a_0 3 h5)) ∧ z = X12_meets_H a_0 3 h5) s11 ⟨rfl, rfl⟩) ?_
        intro r z hrz
        rw [hrz.1, hrz.2]
        show ex_G mX12_check (d + 4) 44 [.ref a_0, .int v_1, .retAddr 0] [.int (X12_meets_V a_0 3 h5)] (X12_meets_H a_0 3 h5) bc bs Q
        refine ex_nmh (fun h12 eh12 => ?_)
        replace w := w h12 eh12
        exact ex_ireturn dX12_check_44 rfl (Or.inl rfl) w
    · replace w := w.2 c4
      refine ex_aload_n (q := 25) (x := a_0) dX12_check_24 rfl ?_
      refine ex_bipush (q := 27) (v := (-3)) dX12_check_25 (by decide) ?_
      have s13 := w.1
      replace w := w.2
      refine ex_callV (q := 30) (M := mX12_check) (hdd := Nat.le_refl _) (mc := 0) (ms := 0) (d' := (d + 3)) (c := 12) (st := []) (bc := bc) (bs := bs) dX12_check_27 rfl cl_X12_165 wd_1581 wd_46 s1 (X12_no_s (Q := fun r z => r = some (.int (X12_no_V a_0 (-3) h)) ∧ z = X12_no_H a_0 (-3) h) s13 ⟨rfl, rfl⟩) ?_
      intro r z hrz
      rw [hrz.1, hrz.2]
      show ex_G mX12_check (d + 4) 30 [.ref a_0, .int v_1, .retAddr 0] [.int (X12_no_V a_0 (-3) h)] (X12_no_H a_0 (-3) h) bc bs Q
      refine ex_nmh (fun h14 eh14 => ?_)
      replace w := w h14 eh14
      exact ex_ireturn dX12_check_30 rfl (Or.inl rfl) w
  · replace w := w.2 c3
    refine ex_aload_n (q := 9) (x := a_0) dX12_check_8 rfl ?_
    refine ex_bipush (q := 11) (v := (-2)) dX12_check_9 (by decide) ?_
    have s15 := w.1
    replace w := w.2
    refine ex_callV (q := 14) (M := mX12_check) (hdd := Nat.le_refl _) (mc := 0) (ms := 0) (d' := (d + 3)) (c := 12) (st := []) (bc := bc) (bs := bs) dX12_check_11 rfl cl_X12_165 wd_1581 wd_46 s1 (X12_no_s (Q := fun r z => r = some (.int (X12_no_V a_0 (-2) h)) ∧ z = X12_no_H a_0 (-2) h) s15 ⟨rfl, rfl⟩) ?_
    intro r z hrz
    rw [hrz.1, hrz.2]
    show ex_G mX12_check (d + 4) 14 [.ref a_0, .int v_1, .retAddr 0] [.int (X12_no_V a_0 (-2) h)] (X12_no_H a_0 (-2) h) bc bs Q
    refine ex_nmh (fun h16 eh16 => ?_)
    replace w := w h16 eh16
    exact ex_ireturn dX12_check_14 rfl (Or.inl rfl) w

set_option maxRecDepth 100000 in
theorem X12_check_55 {d bc bs : Nat} {h : AH} {Q : Option Value → AH → Prop} {a_0 : Nat} {v_2 : Int32} (w : ah_o h a_0 12 ∧ (((ah_f h a_0 59) ≤ v_2 → ex_S yX12_added mX12_added (d + 3) [.ref a_0, .int 364] h 0 0 (fun r h3 => ∃ x4, r = some (.int x4) ∧ Q (some (.int x4)) h3)) ∧ (¬ (ah_f h a_0 59) ≤ v_2 → ∃ a5, ah_r h a_0 58 = some a5 ∧ ld0 h a5 v_2 ∧ ex_S yX12_stepped mX12_stepped (d + 3) [.ref a_0, .int (ah_i h a5 (Int32.toNatClampNeg v_2))] h 0 0 (fun r h7 => ∃ x8, r = some (.int x8) ∧ ((x8 ≤ 0 → ∀ x10, x10 = v_2 + 1 → ex_G mX12_check (d + 4) 55 [.ref a_0, .retAddr 0, .int x10] [] h7 bc bs Q) ∧ (¬ x8 ≤ 0 → ah_o h7 a_0 12 ∧ X12_meets_C a_0 5 h7 ∧ ∀ h13, h13 = X12_meets_H a_0 5 h7 → Q (some (.int (X12_meets_V a_0 5 h7))) h13)))))) : ex_G mX12_check (d + 4) 55 [.ref a_0, .retAddr 0, .int v_2] [] h bc bs Q := by
  refine ex_iload_n (q := 56) (x := v_2) dX12_check_55 rfl ?_
  refine ex_aload_n (q := 57) (x := a_0) dX12_check_56 rfl ?_
  have s1 := w.1
  replace w := w.2
  refine ex_getf (q := 60) dX12_check_57 fl_X12_455 s1 ?_
  refine ex_icmp_ge (tgt := 88) (q := 63) dX12_check_60 (fun c2 => ?_) (fun c2 => ?_)
  · replace w := w.1 c2
    refine ex_aload_n (q := 89) (x := a_0) dX12_check_88 rfl ?_
    refine ex_sipush (q := 92) (v := 364) dX12_check_89 (by decide) ?_
    refine ex_callV (q := 95) (M := mX12_check) (hdd := Nat.le_refl _) (c := 12) (st := []) (bc := bc) (bs := bs) dX12_check_92 rfl cl_X12_297 wd_1792 wd_70 s1 w ?_
    rintro r h3 ⟨x4, rfl, w⟩
    show ex_G mX12_check (d + 4) 95 [.ref a_0, .retAddr 0, .int v_2] [.int x4] h3 bc bs Q
    exact ex_ireturn dX12_check_95 rfl (Or.inl rfl) w
  · replace w := w.2 c2
    refine ex_aload_n (q := 64) (x := a_0) dX12_check_63 rfl ?_
    refine ex_aload_n (q := 65) (x := a_0) dX12_check_64 rfl ?_
    obtain ⟨a5, ea5, w⟩ := w
    refine ex_getr (q := 68) dX12_check_65 fl_X12_149 s1 ea5 ?_
    refine ex_iload_n (q := 69) (x := v_2) dX12_check_68 rfl ?_
    have s6 := w.1
    replace w := w.2
    refine ex_iald (q := 70) dX12_check_69 s6 ?_
    refine ex_callV (q := 73) (M := mX12_check) (hdd := Nat.le_refl _) (c := 12) (st := []) (bc := bc) (bs := bs) dX12_check_70 rfl cl_X12_438 wd_2000 wd_105 s1 w ?_
    rintro r h7 ⟨x8, rfl, w⟩
    show ex_G mX12_check (d + 4) 73 [.ref a_0, .retAddr 0, .int v_2] [.int x8] h7 bc bs Q
    refine ex_if_le (tgt := 82) (q := 76) dX12_check_73 (fun c9 => ?_) (fun c9 => ?_)
    · replace w := w.1 c9
      obtain ⟨x10, ex10⟩ : ∃ y : Int32, y = v_2 + 1 := ⟨_, rfl⟩
      replace w := w x10 ex10
      refine ex_iinc (q := 85) (x := v_2) (v := x10) (ls' := [.ref a_0, .retAddr 0, .int x10]) dX12_check_82 rfl (by rw [ex10]; rfl) rfl ?_
      refine ex_goto (tgt := 55) dX12_check_85 ?_
      exact w
    · replace w := w.2 c9
      refine ex_aload_n (q := 77) (x := a_0) dX12_check_76 rfl ?_
      refine ex_iconst (q := 78) (v := 5) dX12_check_77 (by decide) ?_
      have s11 := w.1
      replace w := w.2
      have s12 := w.1
      replace w := w.2
      refine ex_callV (q := 81) (M := mX12_check) (hdd := Nat.le_refl _) (mc := 0) (ms := 0) (d' := (d + 3)) (c := 12) (st := []) (bc := bc) (bs := bs) dX12_check_78 rfl cl_X12_200 wd_1614 wd_50 s11 (X12_meets_s (Q := fun r z => r = some (.int (X12_meets_V a_0 5 h7)) ∧ z = X12_meets_H a_0 5 h7) s12 ⟨rfl, rfl⟩) ?_
      intro r z hrz
      rw [hrz.1, hrz.2]
      show ex_G mX12_check (d + 4) 81 [.ref a_0, .retAddr 0, .int v_2] [.int (X12_meets_V a_0 5 h7)] (X12_meets_H a_0 5 h7) bc bs Q
      refine ex_nmh (fun h13 eh13 => ?_)
      replace w := w h13 eh13
      exact ex_ireturn dX12_check_81 rfl (Or.inl rfl) w

theorem X12_check_e {d bc bs : Nat} {h : AH} {Q : Option Value → AH → Prop} {a_0 : Nat} {v_1 : Int32} (w : ex_G mX12_check (d + 4) 0 [.ref a_0, .int v_1, .retAddr 0] [] h bc bs Q) : ex_S yX12_check mX12_check (d + 4) [.ref a_0, .int v_1] h bc bs Q :=
  ex_enter (plainFor_of_name (by decide +kernel)) ⟨rfl, rfl⟩ rfl rfl (Nat.le_of_ble_eq_true rfl) (ex_pad 1 w)

set_option maxRecDepth 100000 in
theorem X12_named_0 {d bc bs : Nat} {h : AH} {Q : Option Value → AH → Prop} {a_0 : Nat} (w : ex_G mX12_named d 2 [.ref a_0, .int 0, .retAddr 0, .retAddr 0] [] h bc bs Q) : ex_G mX12_named d 0 [.ref a_0, .retAddr 0, .retAddr 0, .retAddr 0] [] h bc bs Q := by
  refine ex_iconst (q := 1) (v := 0) dX12_named_0 (by decide) ?_
  refine ex_istore_n (q := 2) (ls' := [.ref a_0, .int 0, .retAddr 0, .retAddr 0]) dX12_named_1 rfl ?_
  exact w

set_option maxRecDepth 100000 in
theorem X12_named_2 {d bc bs : Nat} {h : AH} {Q : Option Value → AH → Prop} {a_0 : Nat} {v_1 : Int32} (w : ah_o h a_0 12 ∧ (((ah_f h a_0 62) ≤ v_1 → Q (some (.int (-1))) h) ∧ (¬ (ah_f h a_0 62) ≤ v_1 → ex_G mX12_named d 14 [.ref a_0, .int v_1, .int 1, .int 0] [] h bc bs Q))) : ex_G mX12_named d 2 [.ref a_0, .int v_1, .retAddr 0, .retAddr 0] [] h bc bs Q := by
  refine ex_iload_n (q := 3) (x := v_1) dX12_named_2 rfl ?_
  refine ex_aload_n (q := 4) (x := a_0) dX12_named_3 rfl ?_
  have s1 := w.1
  replace w := w.2
  refine ex_getf (q := 7) dX12_named_4 fl_X12_470 s1 ?_
  refine ex_icmp_ge (tgt := 71) (q := 10) dX12_named_7 (fun c2 => ?_) (fun c2 => ?_)
  · replace w := w.1 c2
    refine ex_iconst (q := 72) (v := (-1)) dX12_named_71 (by decide) ?_
    exact ex_ireturn dX12_named_72 rfl (Or.inl rfl) w
  · replace w := w.2 c2
    refine ex_iconst (q := 11) (v := 1) dX12_named_10 (by decide) ?_
    refine ex_istore_n (q := 12) (ls' := [.ref a_0, .int v_1, .int 1, .retAddr 0]) dX12_named_11 rfl ?_
    refine ex_iconst (q := 13) (v := 0) dX12_named_12 (by decide) ?_
    refine ex_istore_n (q := 14) (ls' := [.ref a_0, .int v_1, .int 1, .int 0]) dX12_named_13 rfl ?_
    exact w

set_option maxRecDepth 100000 in
theorem X12_named_14 {d bc bs : Nat} {h : AH} {Q : Option Value → AH → Prop} {a_0 : Nat} {v_1 : Int32} {v_2 : Int32} {v_3 : Int32} (w : ((601 ≤ v_3 → ex_G mX12_named d 59 [.ref a_0, .int v_1, .int v_2, .retAddr 0] [] h bc bs Q) ∧ (¬ 601 ≤ v_3 → ((v_2 = 0 → ex_G mX12_named d 59 [.ref a_0, .int v_1, .int v_2, .retAddr 0] [] h bc bs Q) ∧ (¬ v_2 = 0 → ah_o h a_0 12 ∧ ∃ a4, ah_r h a_0 64 = some a4 ∧ ld2 h a4 ((601 * v_1) + v_3) ∧ ∃ a6, ah_r h a_0 20 = some a6 ∧ ld2 h a6 v_3 ∧ ((¬ (lg_cmp (ah_l h a4 (Int32.toNatClampNeg ((601 * v_1) + v_3))) (ah_l h a6 (Int32.toNatClampNeg v_3))) = 0 → ∀ x9, x9 = v_3 + 1 → ex_G mX12_named d 14 [.ref a_0, .int v_1, .int 0, .int x9] [] h bc bs Q) ∧ ((lg_cmp (ah_l h a4 (Int32.toNatClampNeg ((601 * v_1) + v_3))) (ah_l h a6 (Int32.toNatClampNeg v_3))) = 0 → ∀ x10, x10 = v_3 + 1 → ex_G mX12_named d 14 [.ref a_0, .int v_1, .int 1, .int x10] [] h bc bs Q))))))) : ex_G mX12_named d 14 [.ref a_0, .int v_1, .int v_2, .int v_3] [] h bc bs Q := by
  refine ex_iload_n (q := 15) (x := v_3) dX12_named_14 rfl ?_
  refine ex_sipush (q := 18) (v := 601) dX12_named_15 (by decide) ?_
  refine ex_icmp_ge (tgt := 59) (q := 21) dX12_named_18 (fun c1 => ?_) (fun c1 => ?_)
  · replace w := w.1 c1
    refine ex_kill 3 (ls' := [.ref a_0, .int v_1, .int v_2, .retAddr 0]) rfl ?_
    exact w
  · replace w := w.2 c1
    refine ex_iload_n (q := 22) (x := v_2) dX12_named_21 rfl ?_
    refine ex_if_eq (tgt := 59) (q := 25) dX12_named_22 (fun c2 => ?_) (fun c2 => ?_)
    · replace w := w.1 c2
      refine ex_kill 3 (ls' := [.ref a_0, .int v_1, .int v_2, .retAddr 0]) rfl ?_
      exact w
    · replace w := w.2 c2
      refine ex_aload_n (q := 26) (x := a_0) dX12_named_25 rfl ?_
      have s3 := w.1
      replace w := w.2
      obtain ⟨a4, ea4, w⟩ := w
      refine ex_getr (q := 29) dX12_named_26 fl_X12_159 s3 ea4 ?_
      refine ex_sipush (q := 32) (v := 601) dX12_named_29 (by decide) ?_
      refine ex_iload_n (q := 33) (x := v_1) dX12_named_32 rfl ?_
      refine ex_imul (q := 34) dX12_named_33 ?_
      refine ex_iload_n (q := 35) (x := v_3) dX12_named_34 rfl ?_
      refine ex_iadd (q := 36) dX12_named_35 ?_
      have s5 := w.1
      replace w := w.2
      refine ex_lald (q := 37) dX12_named_36 s5 ?_
      refine ex_aload_n (q := 38) (x := a_0) dX12_named_37 rfl ?_
      obtain ⟨a6, ea6, w⟩ := w
      refine ex_getr (q := 41) dX12_named_38 fl_X12_67 s3 ea6 ?_
      refine ex_iload_n (q := 42) (x := v_3) dX12_named_41 rfl ?_
      have s7 := w.1
      replace w := w.2
      refine ex_lald (q := 43) dX12_named_42 s7 ?_
      refine ex_lcmp (q := 44) dX12_named_43 ?_
      refine ex_if_ne (tgt := 51) (q := 47) dX12_named_44 (fun c8 => ?_) (fun c8 => ?_)
      · replace w := w.1 c8
        refine ex_iconst (q := 52) (v := 0) dX12_named_51 (by decide) ?_
        refine ex_istore_n (q := 53) (ls' := [.ref a_0, .int v_1, .int 0, .int v_3]) dX12_named_52 rfl ?_
        obtain ⟨x9, ex9⟩ : ∃ y : Int32, y = v_3 + 1 := ⟨_, rfl⟩
        replace w := w x9 ex9
        refine ex_iinc (q := 56) (x := v_3) (v := x9) (ls' := [.ref a_0, .int v_1, .int 0, .int x9]) dX12_named_53 rfl (by rw [ex9]; rfl) rfl ?_
        refine ex_goto (tgt := 14) dX12_named_56 ?_
        exact w
      · replace w := w.2 c8
        refine ex_iconst (q := 48) (v := 1) dX12_named_47 (by decide) ?_
        refine ex_goto (tgt := 52) dX12_named_48 ?_
        refine ex_istore_n (q := 53) (ls' := [.ref a_0, .int v_1, .int 1, .int v_3]) dX12_named_52 rfl ?_
        obtain ⟨x10, ex10⟩ : ∃ y : Int32, y = v_3 + 1 := ⟨_, rfl⟩
        replace w := w x10 ex10
        refine ex_iinc (q := 56) (x := v_3) (v := x10) (ls' := [.ref a_0, .int v_1, .int 1, .int x10]) dX12_named_53 rfl (by rw [ex10]; rfl) rfl ?_
        refine ex_goto (tgt := 14) dX12_named_56 ?_
        exact w

set_option maxRecDepth 100000 in
theorem X12_named_59 {d bc bs : Nat} {h : AH} {Q : Option Value → AH → Prop} {a_0 : Nat} {v_1 : Int32} {v_2 : Int32} (w : ((v_2 = 0 → ∀ x2, x2 = v_1 + 1 → ex_G mX12_named d 2 [.ref a_0, .int x2, .retAddr 0, .retAddr 0] [] h bc bs Q) ∧ (¬ v_2 = 0 → Q (some (.int v_1)) h))) : ex_G mX12_named d 59 [.ref a_0, .int v_1, .int v_2, .retAddr 0] [] h bc bs Q := by
  refine ex_iload_n (q := 60) (x := v_2) dX12_named_59 rfl ?_
  refine ex_if_eq (tgt := 65) (q := 63) dX12_named_60 (fun c1 => ?_) (fun c1 => ?_)
  · replace w := w.1 c1
    obtain ⟨x2, ex2⟩ : ∃ y : Int32, y = v_1 + 1 := ⟨_, rfl⟩
    replace w := w x2 ex2
    refine ex_iinc (q := 68) (x := v_1) (v := x2) (ls' := [.ref a_0, .int x2, .int v_2, .retAddr 0]) dX12_named_65 rfl (by rw [ex2]; rfl) rfl ?_
    refine ex_goto (tgt := 2) dX12_named_68 ?_
    refine ex_kill 2 (ls' := [.ref a_0, .int x2, .retAddr 0, .retAddr 0]) rfl ?_
    exact w
  · replace w := w.2 c1
    refine ex_iload_n (q := 64) (x := v_1) dX12_named_63 rfl ?_
    exact ex_ireturn dX12_named_64 rfl (Or.inl rfl) w

theorem X12_named_e {d bc bs : Nat} {h : AH} {Q : Option Value → AH → Prop} {a_0 : Nat} (w : ex_G mX12_named d 0 [.ref a_0, .retAddr 0, .retAddr 0, .retAddr 0] [] h bc bs Q) : ex_S yX12_named mX12_named d [.ref a_0] h bc bs Q :=
  ex_enter (plainFor_of_name (by decide +kernel)) ⟨rfl, rfl⟩ rfl rfl (Nat.le_of_ble_eq_true rfl) (ex_pad 3 w)

set_option maxRecDepth 100000 in
theorem X12_book_0 {d bc bs : Nat} {h : AH} {Q : Option Value → AH → Prop} {a_0 : Nat} {v_1 : Int32} {v_2 : Int64} (w : ah_o h a_0 12 ∧ X12_isPicture_C a_0 v_1 h ∧ (((X12_isPicture_V a_0 v_1 h) = 0 → X12_no_C a_0 (-2) h ∧ ∀ h5, h5 = X12_no_H a_0 (-2) h → Q (some (.int (X12_no_V a_0 (-2) h))) h5) ∧ (¬ (X12_isPicture_V a_0 v_1 h) = 0 → ((¬ (lg_cmp v_2 0) = 0 → ((¬ (ah_f h a_0 62) = 200 → ex_S yX12_spends mX12_spends (d + 5) [.ref a_0, .int v_1, .int 10] h 0 0 (fun r h8 => ∃ x9, r = some (.int x9) ∧ ((0 ≤ x9 → ex_G mX12_book (d + 6) 58 [.ref a_0, .int v_1, .long v_2, .retAddr 0, .retAddr 0, .int 0] [] h8 bc bs Q) ∧ (¬ 0 ≤ x9 → Q (some (.int x9)) h8)))) ∧ ((ah_f h a_0 62) = 200 → X12_no_C a_0 (-3) h ∧ ∀ h12, h12 = X12_no_H a_0 (-3) h → Q (some (.int (X12_no_V a_0 (-3) h))) h12))) ∧ ((lg_cmp v_2 0) = 0 → X12_no_C a_0 (-2) h ∧ ∀ h14, h14 = X12_no_H a_0 (-2) h → Q (some (.int (X12_no_V a_0 (-2) h))) h14))))) : ex_G mX12_book (d + 6) 0 [.ref a_0, .int v_1, .long v_2, .retAddr 0, .retAddr 0, .retAddr 0] [] h bc bs Q := by
  refine ex_aload_n (q := 1) (x := a_0) dX12_book_0 rfl ?_
  refine ex_iload_n (q := 2) (x := v_1) dX12_book_1 rfl ?_
  have s1 := w.1
  replace w := w.2
  have s2 := w.1
  replace w := w.2
  refine ex_callV (q := 5) (M := mX12_book) (hdd := Nat.le_refl _) (mc := 0) (ms := 0) (d' := (d + 5)) (c := 12) (st := []) (bc := bc) (bs := bs) dX12_book_2 rfl cl_X12_187 wd_1593 wd_48 s1 (X12_isPicture_s (Q := fun r z => r = some (.int (X12_isPicture_V a_0 v_1 h)) ∧ z = h) s2 ⟨rfl, rfl⟩) ?_
  intro r z hrz
  rw [hrz.1, hrz.2]
  show ex_G mX12_book (d + 6) 5 [.ref a_0, .int v_1, .long v_2, .retAddr 0, .retAddr 0, .retAddr 0] [.int (X12_isPicture_V a_0 v_1 h)] (h) bc bs Q
  refine ex_if_eq (tgt := 14) (q := 8) dX12_book_5 (fun c3 => ?_) (fun c3 => ?_)
  · replace w := w.1 c3
    refine ex_aload_n (q := 15) (x := a_0) dX12_book_14 rfl ?_
    refine ex_bipush (q := 17) (v := (-2)) dX12_book_15 (by decide) ?_
    have s4 := w.1
    replace w := w.2
    refine ex_callV (q := 20) (M := mX12_book) (hdd := Nat.le_refl _) (mc := 0) (ms := 0) (d' := (d + 5)) (c := 12) (st := []) (bc := bc) (bs := bs) dX12_book_17 rfl cl_X12_165 wd_1581 wd_46 s1 (X12_no_s (Q := fun r z => r = some (.int (X12_no_V a_0 (-2) h)) ∧ z = X12_no_H a_0 (-2) h) s4 ⟨rfl, rfl⟩) ?_
    intro r z hrz
    rw [hrz.1, hrz.2]
    show ex_G mX12_book (d + 6) 20 [.ref a_0, .int v_1, .long v_2, .retAddr 0, .retAddr 0, .retAddr 0] [.int (X12_no_V a_0 (-2) h)] (X12_no_H a_0 (-2) h) bc bs Q
    refine ex_nmh (fun h5 eh5 => ?_)
    replace w := w h5 eh5
    exact ex_ireturn dX12_book_20 rfl (Or.inl rfl) w
  · replace w := w.2 c3
    refine ex_lload_n (q := 9) (x := v_2) dX12_book_8 rfl ?_
    refine ex_lconst (q := 10) (v := 0) dX12_book_9 (by decide) ?_
    refine ex_lcmp (q := 11) dX12_book_10 ?_
    refine ex_if_ne (tgt := 21) (q := 14) dX12_book_11 (fun c6 => ?_) (fun c6 => ?_)
    · replace w := w.1 c6
      refine ex_aload_n (q := 22) (x := a_0) dX12_book_21 rfl ?_
      refine ex_getf (q := 25) dX12_book_22 fl_X12_470 s1 ?_
      refine ex_sipush (q := 28) (v := 200) dX12_book_25 (by decide) ?_
      refine ex_icmp_ne (tgt := 38) (q := 31) dX12_book_28 (fun c7 => ?_) (fun c7 => ?_)
      · replace w := w.1 c7
        refine ex_aload_n (q := 39) (x := a_0) dX12_book_38 rfl ?_
        refine ex_iload_n (q := 40) (x := v_1) dX12_book_39 rfl ?_
        refine ex_bipush (q := 42) (v := 10) dX12_book_40 (by decide) ?_
        refine ex_callV (q := 45) (M := mX12_book) (hdd := Nat.le_refl _) (c := 12) (st := []) (bc := bc) (bs := bs) dX12_book_42 rfl cl_X12_267 wd_1718 wd_62 s1 w ?_
        rintro r h8 ⟨x9, rfl, w⟩
        show ex_G mX12_book (d + 6) 45 [.ref a_0, .int v_1, .long v_2, .retAddr 0, .retAddr 0, .retAddr 0] [.int x9] h8 bc bs Q
        refine ex_istore (q := 47) (ls' := [.ref a_0, .int v_1, .long v_2, .retAddr 0, .int x9, .retAddr 0]) dX12_book_45 rfl ?_
        refine ex_iload (q := 49) (x := x9) dX12_book_47 rfl ?_
        refine ex_if_ge (tgt := 55) (q := 52) dX12_book_49 (fun c10 => ?_) (fun c10 => ?_)
        · replace w := w.1 c10
          refine ex_iconst (q := 56) (v := 0) dX12_book_55 (by decide) ?_
          refine ex_istore (q := 58) (ls' := [.ref a_0, .int v_1, .long v_2, .retAddr 0, .int x9, .int 0]) dX12_book_56 rfl ?_
          refine ex_kill 4 (ls' := [.ref a_0, .int v_1, .long v_2, .retAddr 0, .retAddr 0, .int 0]) rfl ?_
          exact w
        · replace w := w.2 c10
          refine ex_iload (q := 54) (x := x9) dX12_book_52 rfl ?_
          exact ex_ireturn dX12_book_54 rfl (Or.inl rfl) w
      · replace w := w.2 c7
        refine ex_aload_n (q := 32) (x := a_0) dX12_book_31 rfl ?_
        refine ex_bipush (q := 34) (v := (-3)) dX12_book_32 (by decide) ?_
        have s11 := w.1
        replace w := w.2
        refine ex_callV (q := 37) (M := mX12_book) (hdd := Nat.le_refl _) (mc := 0) (ms := 0) (d' := (d + 5)) (c := 12) (st := []) (bc := bc) (bs := bs) dX12_book_34 rfl cl_X12_165 wd_1581 wd_46 s1 (X12_no_s (Q := fun r z => r = some (.int (X12_no_V a_0 (-3) h)) ∧ z = X12_no_H a_0 (-3) h) s11 ⟨rfl, rfl⟩) ?_
        intro r z hrz
        rw [hrz.1, hrz.2]
        show ex_G mX12_book (d + 6) 37 [.ref a_0, .int v_1, .long v_2, .retAddr 0, .retAddr 0, .retAddr 0] [.int (X12_no_V a_0 (-3) h)] (X12_no_H a_0 (-3) h) bc bs Q
        refine ex_nmh (fun h12 eh12 => ?_)
        replace w := w h12 eh12
        exact ex_ireturn dX12_book_37 rfl (Or.inl rfl) w
    · replace w := w.2 c6
      refine ex_aload_n (q := 15) (x := a_0) dX12_book_14 rfl ?_
      refine ex_bipush (q := 17) (v := (-2)) dX12_book_15 (by decide) ?_
      have s13 := w.1
      replace w := w.2
      refine ex_callV (q := 20) (M := mX12_book) (hdd := Nat.le_refl _) (mc := 0) (ms := 0) (d' := (d + 5)) (c := 12) (st := []) (bc := bc) (bs := bs) dX12_book_17 rfl cl_X12_165 wd_1581 wd_46 s1 (X12_no_s (Q := fun r z => r = some (.int (X12_no_V a_0 (-2) h)) ∧ z = X12_no_H a_0 (-2) h) s13 ⟨rfl, rfl⟩) ?_
      intro r z hrz
      rw [hrz.1, hrz.2]
      show ex_G mX12_book (d + 6) 20 [.ref a_0, .int v_1, .long v_2, .retAddr 0, .retAddr 0, .retAddr 0] [.int (X12_no_V a_0 (-2) h)] (X12_no_H a_0 (-2) h) bc bs Q
      refine ex_nmh (fun h14 eh14 => ?_)
      replace w := w h14 eh14
      exact ex_ireturn dX12_book_20 rfl (Or.inl rfl) w

set_option maxRecDepth 100000 in
theorem X12_book_58 {d bc bs : Nat} {h : AH} {Q : Option Value → AH → Prop} {a_0 : Nat} {v_1 : Int32} {v_2 : Int64} {v_5 : Int32} (w : ah_o h a_0 12 ∧ (((ah_f h a_0 62) ≤ v_5 → ex_S yX12_polynomialOf mX12_polynomialOf (d + 5) [.ref a_0, .int v_1] h 0 0 (fun r h3 => r = none ∧ ah_o h3 a_0 12 ∧ ∃ a5, ah_r h3 a_0 63 = some a5 ∧ ld2 h3 a5 (ah_f h3 a_0 62) ∧ ∀ h6, h6 = ah_sl h3 a5 (Int32.toNatClampNeg (ah_f h3 a_0 62)) v_2 → ex_G mX12_book (d + 6) 109 [.ref a_0, .retAddr 0, .retAddr 0, .retAddr 0, .retAddr 0, .int 0] [] h6 bc bs Q)) ∧ (¬ (ah_f h a_0 62) ≤ v_5 → ∃ a8, ah_r h a_0 63 = some a8 ∧ ld2 h a8 v_5 ∧ ((¬ (lg_cmp (ah_l h a8 (Int32.toNatClampNeg v_5)) v_2) = 0 → ∀ x11, x11 = v_5 + 1 → ex_G mX12_book (d + 6) 58 [.ref a_0, .int v_1, .long v_2, .retAddr 0, .retAddr 0, .int x11] [] h bc bs Q) ∧ ((lg_cmp (ah_l h a8 (Int32.toNatClampNeg v_5)) v_2) = 0 → X12_meets_C a_0 5 h ∧ ∀ h13, h13 = X12_meets_H a_0 5 h → Q (some (.int (X12_meets_V a_0 5 h))) h13))))) : ex_G mX12_book (d + 6) 58 [.ref a_0, .int v_1, .long v_2, .retAddr 0, .retAddr 0, .int v_5] [] h bc bs Q := by
  refine ex_iload (q := 60) (x := v_5) dX12_book_58 rfl ?_
  refine ex_aload_n (q := 61) (x := a_0) dX12_book_60 rfl ?_
  have s1 := w.1
  replace w := w.2
  refine ex_getf (q := 64) dX12_book_61 fl_X12_470 s1 ?_
  refine ex_icmp_ge (tgt := 91) (q := 67) dX12_book_64 (fun c2 => ?_) (fun c2 => ?_)
  · replace w := w.1 c2
    refine ex_aload_n (q := 92) (x := a_0) dX12_book_91 rfl ?_
    refine ex_iload_n (q := 93) (x := v_1) dX12_book_92 rfl ?_
    refine ex_callV (q := 96) (M := mX12_book) (hdd := Nat.le_refl _) (c := 12) (st := []) (bc := bc) (bs := bs) dX12_book_93 rfl cl_X12_274 wd_1743 wd_67 s1 w ?_
    rintro r h3 ⟨rfl, w⟩
    show ex_G mX12_book (d + 6) 96 [.ref a_0, .int v_1, .long v_2, .retAddr 0, .retAddr 0, .int v_5] [] h3 bc bs Q
    refine ex_aload_n (q := 97) (x := a_0) dX12_book_96 rfl ?_
    have s4 := w.1
    replace w := w.2
    obtain ⟨a5, ea5, w⟩ := w
    refine ex_getr (q := 100) dX12_book_97 fl_X12_155 s4 ea5 ?_
    refine ex_aload_n (q := 101) (x := a_0) dX12_book_100 rfl ?_
    refine ex_getf (q := 104) dX12_book_101 fl_X12_470 s4 ?_
    refine ex_lload_n (q := 105) (x := v_2) dX12_book_104 rfl ?_
    have s7 := w.1
    replace w := w.2
    refine ex_last (q := 106) dX12_book_105 s7 ?_
    refine ex_nmh (fun h6 eh6 => ?_)
    replace w := w h6 eh6
    refine ex_iconst (q := 107) (v := 0) dX12_book_106 (by decide) ?_
    refine ex_istore (q := 109) (ls' := [.ref a_0, .int v_1, .long v_2, .retAddr 0, .retAddr 0, .int 0]) dX12_book_107 rfl ?_
    refine ex_kill 1 (ls' := [.ref a_0, .retAddr 0, .long v_2, .retAddr 0, .retAddr 0, .int 0]) rfl ?_
    refine ex_kill 2 (ls' := [.ref a_0, .retAddr 0, .retAddr 0, .retAddr 0, .retAddr 0, .int 0]) rfl ?_
    exact w
  · replace w := w.2 c2
    refine ex_aload_n (q := 68) (x := a_0) dX12_book_67 rfl ?_
    obtain ⟨a8, ea8, w⟩ := w
    refine ex_getr (q := 71) dX12_book_68 fl_X12_155 s1 ea8 ?_
    refine ex_iload (q := 73) (x := v_5) dX12_book_71 rfl ?_
    have s9 := w.1
    replace w := w.2
    refine ex_lald (q := 74) dX12_book_73 s9 ?_
    refine ex_lload_n (q := 75) (x := v_2) dX12_book_74 rfl ?_
    refine ex_lcmp (q := 76) dX12_book_75 ?_
    refine ex_if_ne (tgt := 85) (q := 79) dX12_book_76 (fun c10 => ?_) (fun c10 => ?_)
    · replace w := w.1 c10
      obtain ⟨x11, ex11⟩ : ∃ y : Int32, y = v_5 + 1 := ⟨_, rfl⟩
      replace w := w x11 ex11
      refine ex_iinc (q := 88) (x := v_5) (v := x11) (ls' := [.ref a_0, .int v_1, .long v_2, .retAddr 0, .retAddr 0, .int x11]) dX12_book_85 rfl (by rw [ex11]; rfl) rfl ?_
      refine ex_goto (tgt := 58) dX12_book_88 ?_
      exact w
    · replace w := w.2 c10
      refine ex_aload_n (q := 80) (x := a_0) dX12_book_79 rfl ?_
      refine ex_iconst (q := 81) (v := 5) dX12_book_80 (by decide) ?_
      have s12 := w.1
      replace w := w.2
      refine ex_callV (q := 84) (M := mX12_book) (hdd := Nat.le_refl _) (mc := 0) (ms := 0) (d' := (d + 5)) (c := 12) (st := []) (bc := bc) (bs := bs) dX12_book_81 rfl cl_X12_200 wd_1614 wd_50 s1 (X12_meets_s (Q := fun r z => r = some (.int (X12_meets_V a_0 5 h)) ∧ z = X12_meets_H a_0 5 h) s12 ⟨rfl, rfl⟩) ?_
      intro r z hrz
      rw [hrz.1, hrz.2]
      show ex_G mX12_book (d + 6) 84 [.ref a_0, .int v_1, .long v_2, .retAddr 0, .retAddr 0, .int v_5] [.int (X12_meets_V a_0 5 h)] (X12_meets_H a_0 5 h) bc bs Q
      refine ex_nmh (fun h13 eh13 => ?_)
      replace w := w h13 eh13
      exact ex_ireturn dX12_book_84 rfl (Or.inl rfl) w

set_option maxRecDepth 100000 in
theorem X12_book_109 {d bc bs : Nat} {h : AH} {Q : Option Value → AH → Prop} {a_0 : Nat} {v_5 : Int32} (w : ((601 ≤ v_5 → ah_o h a_0 12 ∧ ∀ h3, h3 = ah_sf h a_0 62 ((ah_f h a_0 62) + 1) → X12_well_C a_0 (ah_f h3 a_0 62) h3 ∧ ∀ h5, h5 = X12_well_H a_0 (ah_f h3 a_0 62) h3 → Q (some (.int (X12_well_V a_0 (ah_f h3 a_0 62) h3))) h5) ∧ (¬ 601 ≤ v_5 → ah_o h a_0 12 ∧ ∃ a7, ah_r h a_0 64 = some a7 ∧ ∃ a8, ah_r h a_0 20 = some a8 ∧ ld2 h a8 v_5 ∧ ld2 h a7 ((601 * (ah_f h a_0 62)) + v_5) ∧ ∀ h10, h10 = ah_sl h a7 (Int32.toNatClampNeg ((601 * (ah_f h a_0 62)) + v_5)) (ah_l h a8 (Int32.toNatClampNeg v_5)) → ∀ x12, x12 = v_5 + 1 → ex_G mX12_book (d + 6) 109 [.ref a_0, .retAddr 0, .retAddr 0, .retAddr 0, .retAddr 0, .int x12] [] h10 bc bs Q))) : ex_G mX12_book (d + 6) 109 [.ref a_0, .retAddr 0, .retAddr 0, .retAddr 0, .retAddr 0, .int v_5] [] h bc bs Q := by
  refine ex_iload (q := 111) (x := v_5) dX12_book_109 rfl ?_
  refine ex_sipush (q := 114) (v := 601) dX12_book_111 (by decide) ?_
  refine ex_icmp_ge (tgt := 146) (q := 117) dX12_book_114 (fun c1 => ?_) (fun c1 => ?_)
  · replace w := w.1 c1
    refine ex_aload_n (q := 147) (x := a_0) dX12_book_146 rfl ?_
    refine ex_dup (q := 148) dX12_book_147 rfl ?_
    have s2 := w.1
    replace w := w.2
    refine ex_getf (q := 151) dX12_book_148 fl_X12_470 s2 ?_
    refine ex_iconst (q := 152) (v := 1) dX12_book_151 (by decide) ?_
    refine ex_iadd (q := 153) dX12_book_152 ?_
    refine ex_putf (q := 156) dX12_book_153 fl_X12_470 (Or.inl rfl) s2 (Or.inl rfl) ?_
    refine ex_nmh (fun h3 eh3 => ?_)
    replace w := w h3 eh3
    refine ex_aload_n (q := 157) (x := a_0) dX12_book_156 rfl ?_
    refine ex_aload_n (q := 158) (x := a_0) dX12_book_157 rfl ?_
    refine ex_getf (q := 161) dX12_book_158 fl_X12_470 (by rw [eh3]; exact s2) ?_
    have s4 := w.1
    replace w := w.2
    refine ex_callV (q := 164) (M := mX12_book) (hdd := Nat.le_refl _) (mc := 0) (ms := 0) (d' := (d + 5)) (c := 12) (st := []) (bc := bc) (bs := bs) dX12_book_161 rfl cl_X12_180 wd_1585 wd_47 (by rw [eh3]; exact s2) (X12_well_s (Q := fun r z => r = some (.int (X12_well_V a_0 (ah_f h3 a_0 62) h3)) ∧ z = X12_well_H a_0 (ah_f h3 a_0 62) h3) s4 ⟨rfl, rfl⟩) ?_
    intro r z hrz
    rw [hrz.1, hrz.2]
    show ex_G mX12_book (d + 6) 164 [.ref a_0, .retAddr 0, .retAddr 0, .retAddr 0, .retAddr 0, .int v_5] [.int (X12_well_V a_0 (ah_f h3 a_0 62) h3)] (X12_well_H a_0 (ah_f h3 a_0 62) h3) bc bs Q
    refine ex_nmh (fun h5 eh5 => ?_)
    replace w := w h5 eh5
    exact ex_ireturn dX12_book_164 rfl (Or.inl rfl) w
  · replace w := w.2 c1
    refine ex_aload_n (q := 118) (x := a_0) dX12_book_117 rfl ?_
    have s6 := w.1
    replace w := w.2
    obtain ⟨a7, ea7, w⟩ := w
    refine ex_getr (q := 121) dX12_book_118 fl_X12_159 s6 ea7 ?_
    refine ex_sipush (q := 124) (v := 601) dX12_book_121 (by decide) ?_
    refine ex_aload_n (q := 125) (x := a_0) dX12_book_124 rfl ?_
    refine ex_getf (q := 128) dX12_book_125 fl_X12_470 s6 ?_
    refine ex_imul (q := 129) dX12_book_128 ?_
    refine ex_iload (q := 131) (x := v_5) dX12_book_129 rfl ?_
    refine ex_iadd (q := 132) dX12_book_131 ?_
    refine ex_aload_n (q := 133) (x := a_0) dX12_book_132 rfl ?_
    obtain ⟨a8, ea8, w⟩ := w
    refine ex_getr (q := 136) dX12_book_133 fl_X12_67 s6 ea8 ?_
    refine ex_iload (q := 138) (x := v_5) dX12_book_136 rfl ?_
    have s9 := w.1
    replace w := w.2
    refine ex_lald (q := 139) dX12_book_138 s9 ?_
    have s11 := w.1
    replace w := w.2
    refine ex_last (q := 140) dX12_book_139 s11 ?_
    refine ex_nmh (fun h10 eh10 => ?_)
    replace w := w h10 eh10
    obtain ⟨x12, ex12⟩ : ∃ y : Int32, y = v_5 + 1 := ⟨_, rfl⟩
    replace w := w x12 ex12
    refine ex_iinc (q := 143) (x := v_5) (v := x12) (ls' := [.ref a_0, .retAddr 0, .retAddr 0, .retAddr 0, .retAddr 0, .int x12]) dX12_book_140 rfl (by rw [ex12]; rfl) rfl ?_
    refine ex_goto (tgt := 109) dX12_book_143 ?_
    exact w

theorem X12_book_e {d bc bs : Nat} {h : AH} {Q : Option Value → AH → Prop} {a_0 : Nat} {v_1 : Int32} {v_2 : Int64} (w : ex_G mX12_book (d + 6) 0 [.ref a_0, .int v_1, .long v_2, .retAddr 0, .retAddr 0, .retAddr 0] [] h bc bs Q) : ex_S yX12_book mX12_book (d + 6) [.ref a_0, .int v_1, .long v_2] h bc bs Q :=
  ex_enter (plainFor_of_name (by decide +kernel)) ⟨rfl, rfl⟩ rfl rfl (Nat.le_of_ble_eq_true rfl) (ex_pad 2 w)

set_option maxRecDepth 100000 in
theorem X12_name_0 {d bc bs : Nat} {h : AH} {Q : Option Value → AH → Prop} {a_0 : Nat} {v_1 : Int32} (w : ah_o h a_0 12 ∧ ex_S yX12_spends mX12_spends (d + 5) [.ref a_0, .int v_1, .int 10] h 0 0 (fun r h1 => ∃ x3, r = some (.int x3) ∧ ((0 ≤ x3 → ah_o h1 a_0 12 ∧ ex_S yX12_polynomialOf mX12_polynomialOf (d + 5) [.ref a_0, .int v_1] h1 0 0 (fun r h5 => r = none ∧ ah_o h5 a_0 12 ∧ ex_S yX12_named mX12_named (d + 5) [.ref a_0] h5 0 0 (fun r h7 => ∃ x9, r = some (.int x9) ∧ ah_o h7 a_0 12 ∧ X12_well_C a_0 1 h7 ∧ ∀ h12, h12 = X12_well_H a_0 1 h7 → ∀ x13, x13 = X12_well_V a_0 1 h7 → ((¬ x9 = (-1) → ah_o h12 a_0 12 ∧ ∃ a16, ah_r h12 a_0 63 = some a16 ∧ ld2 h12 a16 x9 ∧ Q (some (.long (ah_l h12 a16 (Int32.toNatClampNeg x9)))) h12) ∧ (x9 = (-1) → Q (some (.long 0)) h12))))) ∧ (¬ 0 ≤ x3 → Q (some (.long (Int32.toInt64 x3))) h1)))) : ex_G mX12_name (d + 6) 0 [.ref a_0, .int v_1, .retAddr 0, .retAddr 0, .retAddr 0] [] h bc bs Q := by
  refine ex_aload_n (q := 1) (x := a_0) dX12_name_0 rfl ?_
  refine ex_iload_n (q := 2) (x := v_1) dX12_name_1 rfl ?_
  refine ex_bipush (q := 4) (v := 10) dX12_name_2 (by decide) ?_
  have s2 := w.1
  replace w := w.2
  refine ex_callV (q := 7) (M := mX12_name) (hdd := Nat.le_refl _) (c := 12) (st := []) (bc := bc) (bs := bs) dX12_name_4 rfl cl_X12_267 wd_1718 wd_62 s2 w ?_
  rintro r h1 ⟨x3, rfl, w⟩
  show ex_G mX12_name (d + 6) 7 [.ref a_0, .int v_1, .retAddr 0, .retAddr 0, .retAddr 0] [.int x3] h1 bc bs Q
  refine ex_istore_n (q := 8) (ls' := [.ref a_0, .int v_1, .int x3, .retAddr 0, .retAddr 0]) dX12_name_7 rfl ?_
  refine ex_iload_n (q := 9) (x := x3) dX12_name_8 rfl ?_
  refine ex_if_ge (tgt := 15) (q := 12) dX12_name_9 (fun c4 => ?_) (fun c4 => ?_)
  · replace w := w.1 c4
    refine ex_aload_n (q := 16) (x := a_0) dX12_name_15 rfl ?_
    refine ex_iload_n (q := 17) (x := v_1) dX12_name_16 rfl ?_
    have s6 := w.1
    replace w := w.2
    refine ex_callV (q := 20) (M := mX12_name) (hdd := Nat.le_refl _) (c := 12) (st := []) (bc := bc) (bs := bs) dX12_name_17 rfl cl_X12_274 wd_1743 wd_67 s6 w ?_
    rintro r h5 ⟨rfl, w⟩
    show ex_G mX12_name (d + 6) 20 [.ref a_0, .int v_1, .int x3, .retAddr 0, .retAddr 0] [] h5 bc bs Q
    refine ex_aload_n (q := 21) (x := a_0) dX12_name_20 rfl ?_
    have s8 := w.1
    replace w := w.2
    refine ex_callV (q := 24) (M := mX12_name) (hdd := Nat.le_refl _) (c := 12) (st := []) (bc := bc) (bs := bs) dX12_name_21 rfl cl_X12_473 wd_2060 wd_111 s8 w ?_
    rintro r h7 ⟨x9, rfl, w⟩
    show ex_G mX12_name (d + 6) 24 [.ref a_0, .int v_1, .int x3, .retAddr 0, .retAddr 0] [.int x9] h7 bc bs Q
    refine ex_istore_n (q := 25) (ls' := [.ref a_0, .int v_1, .int x3, .int x9, .retAddr 0]) dX12_name_24 rfl ?_
    refine ex_aload_n (q := 26) (x := a_0) dX12_name_25 rfl ?_
    refine ex_iconst (q := 27) (v := 1) dX12_name_26 (by decide) ?_
    have s10 := w.1
    replace w := w.2
    have s11 := w.1
    replace w := w.2
    refine ex_callV (q := 30) (M := mX12_name) (hdd := Nat.le_refl _) (mc := 0) (ms := 0) (d' := (d + 5)) (c := 12) (st := []) (bc := bc) (bs := bs) dX12_name_27 rfl cl_X12_180 wd_1585 wd_47 s10 (X12_well_s (Q := fun r z => r = some (.int (X12_well_V a_0 1 h7)) ∧ z = X12_well_H a_0 1 h7) s11 ⟨rfl, rfl⟩) ?_
    intro r z hrz
    rw [hrz.1, hrz.2]
    show ex_G mX12_name (d + 6) 30 [.ref a_0, .int v_1, .int x3, .int x9, .retAddr 0] [.int (X12_well_V a_0 1 h7)] (X12_well_H a_0 1 h7) bc bs Q
    refine ex_nmh (fun h12 eh12 => ?_)
    replace w := w h12 eh12
    refine ex_nmi (fun x13 ex13 => ?_)
    replace w := w x13 ex13
    refine ex_istore (q := 32) (ls' := [.ref a_0, .int v_1, .int x3, .int x9, .int x13]) dX12_name_30 rfl ?_
    refine ex_iload_n (q := 33) (x := x9) dX12_name_32 rfl ?_
    refine ex_iconst (q := 34) (v := (-1)) dX12_name_33 (by decide) ?_
    refine ex_icmp_ne (tgt := 41) (q := 37) dX12_name_34 (fun c14 => ?_) (fun c14 => ?_)
    · replace w := w.1 c14
      refine ex_aload_n (q := 42) (x := a_0) dX12_name_41 rfl ?_
      have s15 := w.1
      replace w := w.2
      obtain ⟨a16, ea16, w⟩ := w
      refine ex_getr (q := 45) dX12_name_42 fl_X12_155 s15 ea16 ?_
      refine ex_iload_n (q := 46) (x := x9) dX12_name_45 rfl ?_
      have s17 := w.1
      replace w := w.2
      refine ex_lald (q := 47) dX12_name_46 s17 ?_
      exact ex_lreturn dX12_name_47 w
    · replace w := w.2 c14
      refine ex_lconst (q := 38) (v := 0) dX12_name_37 (by decide) ?_
      refine ex_goto (tgt := 47) dX12_name_38 ?_
      exact ex_lreturn dX12_name_47 w
  · replace w := w.2 c4
    refine ex_iload_n (q := 13) (x := x3) dX12_name_12 rfl ?_
    refine ex_i2l (q := 14) dX12_name_13 ?_
    exact ex_lreturn dX12_name_14 w

theorem X12_name_e {d bc bs : Nat} {h : AH} {Q : Option Value → AH → Prop} {a_0 : Nat} {v_1 : Int32} (w : ex_G mX12_name (d + 6) 0 [.ref a_0, .int v_1, .retAddr 0, .retAddr 0, .retAddr 0] [] h bc bs Q) : ex_S yX12_name mX12_name (d + 6) [.ref a_0, .int v_1] h bc bs Q :=
  ex_enter (plainFor_of_name (by decide +kernel)) ⟨rfl, rfl⟩ rfl rfl (Nat.le_of_ble_eq_true rfl) (ex_pad 3 w)

set_option maxRecDepth 100000 in
theorem X12_digest_0 {d bc bs : Nat} {h : AH} {Q : Option Value → AH → Prop} {a_0 : Nat} (w : ex_G mX12_digest d 6 [.ref a_0, .long 17, .retAddr 0, .int 0, .retAddr 0, .retAddr 0] [] h bc bs Q) : ex_G mX12_digest d 0 [.ref a_0, .retAddr 0, .retAddr 0, .retAddr 0, .retAddr 0, .retAddr 0] [] h bc bs Q := by
  refine ex_ldc2_w (q := 3) (v := 17) dX12_digest_0 wd_2078 ?_
  refine ex_lstore_n (q := 4) (ls' := [.ref a_0, .long 17, .retAddr 0, .retAddr 0, .retAddr 0, .retAddr 0]) dX12_digest_3 rfl ?_
  refine ex_iconst (q := 5) (v := 0) dX12_digest_4 (by decide) ?_
  refine ex_istore_n (q := 6) (ls' := [.ref a_0, .long 17, .retAddr 0, .int 0, .retAddr 0, .retAddr 0]) dX12_digest_5 rfl ?_
  exact w

set_option maxRecDepth 100000 in
theorem X12_digest_6 {d bc bs : Nat} {h : AH} {Q : Option Value → AH → Prop} {a_0 : Nat} {v_1 : Int64} {v_3 : Int32} (w : ah_o h a_0 12 ∧ (((ah_f h a_0 6) ≤ v_3 → ∀ h3, h3 = ah_sf h a_0 0 0 → Q (some (.long v_1)) h3) ∧ (¬ (ah_f h a_0 6) ≤ v_3 → ∃ a4, ah_r h a_0 3 = some a4 ∧ ld0 h a4 v_3 ∧ ∀ x6, x6 = (31 * v_1) + (Int32.toInt64 (ah_i h a4 (Int32.toNatClampNeg v_3))) → ex_G mX12_digest d 31 [.ref a_0, .long x6, .retAddr 0, .int v_3, .int 0, .retAddr 0] [] h bc bs Q))) : ex_G mX12_digest d 6 [.ref a_0, .long v_1, .retAddr 0, .int v_3, .retAddr 0, .retAddr 0] [] h bc bs Q := by
  refine ex_iload_n (q := 7) (x := v_3) dX12_digest_6 rfl ?_
  refine ex_aload_n (q := 8) (x := a_0) dX12_digest_7 rfl ?_
  have s1 := w.1
  replace w := w.2
  refine ex_getf (q := 11) dX12_digest_8 fl_X12_169 s1 ?_
  refine ex_icmp_ge (tgt := 126) (q := 14) dX12_digest_11 (fun c2 => ?_) (fun c2 => ?_)
  · replace w := w.1 c2
    refine ex_aload_n (q := 127) (x := a_0) dX12_digest_126 rfl ?_
    refine ex_iconst (q := 128) (v := 0) dX12_digest_127 (by decide) ?_
    refine ex_putf (q := 131) dX12_digest_128 fl_X12_162 (Or.inl rfl) s1 (Or.inl rfl) ?_
    refine ex_nmh (fun h3 eh3 => ?_)
    replace w := w h3 eh3
    refine ex_lload_n (q := 132) (x := v_1) dX12_digest_131 rfl ?_
    exact ex_lreturn dX12_digest_132 w
  · replace w := w.2 c2
    refine ex_ldc2_w (q := 17) (v := 31) dX12_digest_14 wd_2079 ?_
    refine ex_lload_n (q := 18) (x := v_1) dX12_digest_17 rfl ?_
    refine ex_lmul (q := 19) dX12_digest_18 ?_
    refine ex_aload_n (q := 20) (x := a_0) dX12_digest_19 rfl ?_
    obtain ⟨a4, ea4, w⟩ := w
    refine ex_getr (q := 23) dX12_digest_20 fl_X12_16 s1 ea4 ?_
    refine ex_iload_n (q := 24) (x := v_3) dX12_digest_23 rfl ?_
    have s5 := w.1
    replace w := w.2
    refine ex_iald (q := 25) dX12_digest_24 s5 ?_
    refine ex_i2l (q := 26) dX12_digest_25 ?_
    refine ex_ladd (q := 27) dX12_digest_26 ?_
    refine ex_nml (fun x6 ex6 => ?_)
    replace w := w x6 ex6
    refine ex_lstore_n (q := 28) (ls' := [.ref a_0, .long x6, .retAddr 0, .int v_3, .retAddr 0, .retAddr 0]) dX12_digest_27 rfl ?_
    refine ex_iconst (q := 29) (v := 0) dX12_digest_28 (by decide) ?_
    refine ex_istore (q := 31) (ls' := [.ref a_0, .long x6, .retAddr 0, .int v_3, .int 0, .retAddr 0]) dX12_digest_29 rfl ?_
    exact w

set_option maxRecDepth 100000 in
theorem X12_digest_31 {d bc bs : Nat} {h : AH} {Q : Option Value → AH → Prop} {a_0 : Nat} {v_1 : Int64} {v_3 : Int32} {v_4 : Int32} (w : ah_o h a_0 12 ∧ ∃ a2, ah_r h a_0 2 = some a2 ∧ ld0 h a2 v_3 ∧ (((ah_i h a2 (Int32.toNatClampNeg v_3)) ≤ v_4 → ∀ x5, x5 = v_3 + 1 → ex_G mX12_digest d 6 [.ref a_0, .long v_1, .retAddr 0, .int x5, .retAddr 0, .retAddr 0] [] h bc bs Q) ∧ (¬ (ah_i h a2 (Int32.toNatClampNeg v_3)) ≤ v_4 → ∃ a6, ah_r h a_0 4 = some a6 ∧ ld0 h a6 ((40 * v_3) + v_4) ∧ ∀ x8, x8 = (31 * v_1) + (Int32.toInt64 (ah_i h a6 (Int32.toNatClampNeg ((40 * v_3) + v_4)))) → ex_G mX12_digest d 65 [.ref a_0, .long x8, .retAddr 0, .int v_3, .int v_4, .int 0] [] h bc bs Q))) : ex_G mX12_digest d 31 [.ref a_0, .long v_1, .retAddr 0, .int v_3, .int v_4, .retAddr 0] [] h bc bs Q := by
  refine ex_iload (q := 33) (x := v_4) dX12_digest_31 rfl ?_
  refine ex_aload_n (q := 34) (x := a_0) dX12_digest_33 rfl ?_
  have s1 := w.1
  replace w := w.2
  obtain ⟨a2, ea2, w⟩ := w
  refine ex_getr (q := 37) dX12_digest_34 fl_X12_13 s1 ea2 ?_
  refine ex_iload_n (q := 38) (x := v_3) dX12_digest_37 rfl ?_
  have s3 := w.1
  replace w := w.2
  refine ex_iald (q := 39) dX12_digest_38 s3 ?_
  refine ex_icmp_ge (tgt := 120) (q := 42) dX12_digest_39 (fun c4 => ?_) (fun c4 => ?_)
  · replace w := w.1 c4
    obtain ⟨x5, ex5⟩ : ∃ y : Int32, y = v_3 + 1 := ⟨_, rfl⟩
    replace w := w x5 ex5
    refine ex_iinc (q := 123) (x := v_3) (v := x5) (ls' := [.ref a_0, .long v_1, .retAddr 0, .int x5, .int v_4, .retAddr 0]) dX12_digest_120 rfl (by rw [ex5]; rfl) rfl ?_
    refine ex_goto (tgt := 6) dX12_digest_123 ?_
    refine ex_kill 4 (ls' := [.ref a_0, .long v_1, .retAddr 0, .int x5, .retAddr 0, .retAddr 0]) rfl ?_
    exact w
  · replace w := w.2 c4
    refine ex_ldc2_w (q := 45) (v := 31) dX12_digest_42 wd_2079 ?_
    refine ex_lload_n (q := 46) (x := v_1) dX12_digest_45 rfl ?_
    refine ex_lmul (q := 47) dX12_digest_46 ?_
    refine ex_aload_n (q := 48) (x := a_0) dX12_digest_47 rfl ?_
    obtain ⟨a6, ea6, w⟩ := w
    refine ex_getr (q := 51) dX12_digest_48 fl_X12_19 s1 ea6 ?_
    refine ex_bipush (q := 53) (v := 40) dX12_digest_51 (by decide) ?_
    refine ex_iload_n (q := 54) (x := v_3) dX12_digest_53 rfl ?_
    refine ex_imul (q := 55) dX12_digest_54 ?_
    refine ex_iload (q := 57) (x := v_4) dX12_digest_55 rfl ?_
    refine ex_iadd (q := 58) dX12_digest_57 ?_
    have s7 := w.1
    replace w := w.2
    refine ex_iald (q := 59) dX12_digest_58 s7 ?_
    refine ex_i2l (q := 60) dX12_digest_59 ?_
    refine ex_ladd (q := 61) dX12_digest_60 ?_
    refine ex_nml (fun x8 ex8 => ?_)
    replace w := w x8 ex8
    refine ex_lstore_n (q := 62) (ls' := [.ref a_0, .long x8, .retAddr 0, .int v_3, .int v_4, .retAddr 0]) dX12_digest_61 rfl ?_
    refine ex_iconst (q := 63) (v := 0) dX12_digest_62 (by decide) ?_
    refine ex_istore (q := 65) (ls' := [.ref a_0, .long x8, .retAddr 0, .int v_3, .int v_4, .int 0]) dX12_digest_63 rfl ?_
    exact w

set_option maxRecDepth 100000 in
theorem X12_digest_65 {d bc bs : Nat} {h : AH} {Q : Option Value → AH → Prop} {a_0 : Nat} {v_1 : Int64} {v_3 : Int32} {v_4 : Int32} {v_5 : Int32} (w : ah_o h a_0 12 ∧ ∃ a2, ah_r h a_0 4 = some a2 ∧ ld0 h a2 ((40 * v_3) + v_4) ∧ (((ah_i h a2 (Int32.toNatClampNeg ((40 * v_3) + v_4))) ≤ v_5 → ∀ x5, x5 = v_4 + 1 → ex_G mX12_digest d 31 [.ref a_0, .long v_1, .retAddr 0, .int v_3, .int x5, .retAddr 0] [] h bc bs Q) ∧ (¬ (ah_i h a2 (Int32.toNatClampNeg ((40 * v_3) + v_4))) ≤ v_5 → ∃ a6, ah_r h a_0 5 = some a6 ∧ ld0 h a6 (((160 * v_3) + (4 * v_4)) + v_5) ∧ ∀ x8, x8 = (31 * v_1) + (Int32.toInt64 (ah_i h a6 (Int32.toNatClampNeg (((160 * v_3) + (4 * v_4)) + v_5)))) → ∀ x9, x9 = v_5 + 1 → ex_G mX12_digest d 65 [.ref a_0, .long x8, .retAddr 0, .int v_3, .int v_4, .int x9] [] h bc bs Q))) : ex_G mX12_digest d 65 [.ref a_0, .long v_1, .retAddr 0, .int v_3, .int v_4, .int v_5] [] h bc bs Q := by
  refine ex_iload (q := 67) (x := v_5) dX12_digest_65 rfl ?_
  refine ex_aload_n (q := 68) (x := a_0) dX12_digest_67 rfl ?_
  have s1 := w.1
  replace w := w.2
  obtain ⟨a2, ea2, w⟩ := w
  refine ex_getr (q := 71) dX12_digest_68 fl_X12_19 s1 ea2 ?_
  refine ex_bipush (q := 73) (v := 40) dX12_digest_71 (by decide) ?_
  refine ex_iload_n (q := 74) (x := v_3) dX12_digest_73 rfl ?_
  refine ex_imul (q := 75) dX12_digest_74 ?_
  refine ex_iload (q := 77) (x := v_4) dX12_digest_75 rfl ?_
  refine ex_iadd (q := 78) dX12_digest_77 ?_
  have s3 := w.1
  replace w := w.2
  refine ex_iald (q := 79) dX12_digest_78 s3 ?_
  refine ex_icmp_ge (tgt := 114) (q := 82) dX12_digest_79 (fun c4 => ?_) (fun c4 => ?_)
  · replace w := w.1 c4
    obtain ⟨x5, ex5⟩ : ∃ y : Int32, y = v_4 + 1 := ⟨_, rfl⟩
    replace w := w x5 ex5
    refine ex_iinc (q := 117) (x := v_4) (v := x5) (ls' := [.ref a_0, .long v_1, .retAddr 0, .int v_3, .int x5, .int v_5]) dX12_digest_114 rfl (by rw [ex5]; rfl) rfl ?_
    refine ex_goto (tgt := 31) dX12_digest_117 ?_
    refine ex_kill 5 (ls' := [.ref a_0, .long v_1, .retAddr 0, .int v_3, .int x5, .retAddr 0]) rfl ?_
    exact w
  · replace w := w.2 c4
    refine ex_ldc2_w (q := 85) (v := 31) dX12_digest_82 wd_2079 ?_
    refine ex_lload_n (q := 86) (x := v_1) dX12_digest_85 rfl ?_
    refine ex_lmul (q := 87) dX12_digest_86 ?_
    refine ex_aload_n (q := 88) (x := a_0) dX12_digest_87 rfl ?_
    obtain ⟨a6, ea6, w⟩ := w
    refine ex_getr (q := 91) dX12_digest_88 fl_X12_23 s1 ea6 ?_
    refine ex_sipush (q := 94) (v := 160) dX12_digest_91 (by decide) ?_
    refine ex_iload_n (q := 95) (x := v_3) dX12_digest_94 rfl ?_
    refine ex_imul (q := 96) dX12_digest_95 ?_
    refine ex_iconst (q := 97) (v := 4) dX12_digest_96 (by decide) ?_
    refine ex_iload (q := 99) (x := v_4) dX12_digest_97 rfl ?_
    refine ex_imul (q := 100) dX12_digest_99 ?_
    refine ex_iadd (q := 101) dX12_digest_100 ?_
    refine ex_iload (q := 103) (x := v_5) dX12_digest_101 rfl ?_
    refine ex_iadd (q := 104) dX12_digest_103 ?_
    have s7 := w.1
    replace w := w.2
    refine ex_iald (q := 105) dX12_digest_104 s7 ?_
    refine ex_i2l (q := 106) dX12_digest_105 ?_
    refine ex_ladd (q := 107) dX12_digest_106 ?_
    refine ex_nml (fun x8 ex8 => ?_)
    replace w := w x8 ex8
    refine ex_lstore_n (q := 108) (ls' := [.ref a_0, .long x8, .retAddr 0, .int v_3, .int v_4, .int v_5]) dX12_digest_107 rfl ?_
    obtain ⟨x9, ex9⟩ : ∃ y : Int32, y = v_5 + 1 := ⟨_, rfl⟩
    replace w := w x9 ex9
    refine ex_iinc (q := 111) (x := v_5) (v := x9) (ls' := [.ref a_0, .long x8, .retAddr 0, .int v_3, .int v_4, .int x9]) dX12_digest_108 rfl (by rw [ex9]; rfl) rfl ?_
    refine ex_goto (tgt := 65) dX12_digest_111 ?_
    exact w

theorem X12_digest_e {d bc bs : Nat} {h : AH} {Q : Option Value → AH → Prop} {a_0 : Nat} (w : ex_G mX12_digest d 0 [.ref a_0, .retAddr 0, .retAddr 0, .retAddr 0, .retAddr 0, .retAddr 0] [] h bc bs Q) : ex_S yX12_digest mX12_digest d [.ref a_0] h bc bs Q :=
  ex_enter (plainFor_of_name (by decide +kernel)) ⟨rfl, rfl⟩ rfl rfl (Nat.le_of_ble_eq_true rfl) (ex_pad 5 w)
