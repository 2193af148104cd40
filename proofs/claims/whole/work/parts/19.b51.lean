set_option maxRecDepth 100000 in
theorem X12_polynomial_0 {d bc bs : Nat} {h : AH} {Q : Option Value → AH → Prop} {a_0 : Nat} {v_1 : Int32} (w : ah_o h a_0 12 ∧ ex_S yX12_spends mX12_spends (d + 5) [.ref a_0, .int v_1, .int 14] h 0 0 (fun r h1 => ∃ x3, r = some (.int x3) ∧ ((0 ≤ x3 → ah_o h1 a_0 12 ∧ ex_S yX12_polynomialOf mX12_polynomialOf (d + 5) [.ref a_0, .int v_1] h1 0 0 (fun r h5 => r = none ∧ ah_o h5 a_0 12 ∧ ex_S yX12_shown mX12_shown (d + 5) [.ref a_0] h5 0 0 (fun r h7 => ∃ x9, r = some (.int x9) ∧ Q (some (.int x9)) h7))) ∧ (¬ 0 ≤ x3 → Q (some (.int x3)) h1)))) : ex_G mX12_polynomial (d + 6) 0 [.ref a_0, .int v_1, .retAddr 0] [] h bc bs Q := by
  refine ex_aload_n (q := 1) (x := a_0) dX12_polynomial_0 rfl ?_
  refine ex_iload_n (q := 2) (x := v_1) dX12_polynomial_1 rfl ?_
  refine ex_bipush (q := 4) (v := 14) dX12_polynomial_2 (by decide) ?_
  have s2 := w.1
  replace w := w.2
  refine ex_callV (q := 7) (M := mX12_polynomial) (hdd := Nat.le_refl _) (c := 12) (st := []) (bc := bc) (bs := bs) dX12_polynomial_4 rfl cl_X12_267 wd_1718 wd_62 s2 w ?_
  rintro r h1 ⟨x3, rfl, w⟩
  show ex_G mX12_polynomial (d + 6) 7 [.ref a_0, .int v_1, .retAddr 0] [.int x3] h1 bc bs Q
  refine ex_istore_n (q := 8) (ls' := [.ref a_0, .int v_1, .int x3]) dX12_polynomial_7 rfl ?_
  refine ex_iload_n (q := 9) (x := x3) dX12_polynomial_8 rfl ?_
  refine ex_if_ge (tgt := 14) (q := 12) dX12_polynomial_9 (fun c4 => ?_) (fun c4 => ?_)
  · replace w := w.1 c4
    refine ex_aload_n (q := 15) (x := a_0) dX12_polynomial_14 rfl ?_
    refine ex_iload_n (q := 16) (x := v_1) dX12_polynomial_15 rfl ?_
    have s6 := w.1
    replace w := w.2
    refine ex_callV (q := 19) (M := mX12_polynomial) (hdd := Nat.le_refl _) (c := 12) (st := []) (bc := bc) (bs := bs) dX12_polynomial_16 rfl cl_X12_274 wd_1743 wd_67 s6 w ?_
    rintro r h5 ⟨rfl, w⟩
    show ex_G mX12_polynomial (d + 6) 19 [.ref a_0, .int v_1, .int x3] [] h5 bc bs Q
    refine ex_aload_n (q := 20) (x := a_0) dX12_polynomial_19 rfl ?_
    have s8 := w.1
    replace w := w.2
    refine ex_callV (q := 23) (M := mX12_polynomial) (hdd := Nat.le_refl _) (c := 12) (st := []) (bc := bc) (bs := bs) dX12_polynomial_20 rfl cl_X12_270 wd_1735 wd_66 s8 w ?_
    rintro r h7 ⟨x9, rfl, w⟩
    show ex_G mX12_polynomial (d + 6) 23 [.ref a_0, .int v_1, .int x3] [.int x9] h7 bc bs Q
    exact ex_ireturn dX12_polynomial_23 rfl (Or.inl rfl) w
  · replace w := w.2 c4
    refine ex_iload_n (q := 13) (x := x3) dX12_polynomial_12 rfl ?_
    exact ex_ireturn dX12_polynomial_13 rfl (Or.inl rfl) w

theorem X12_polynomial_e {d bc bs : Nat} {h : AH} {Q : Option Value → AH → Prop} {a_0 : Nat} {v_1 : Int32} (w : ex_G mX12_polynomial (d + 6) 0 [.ref a_0, .int v_1, .retAddr 0] [] h bc bs Q) : ex_S yX12_polynomial mX12_polynomial (d + 6) [.ref a_0, .int v_1] h bc bs Q :=
  ex_enter (plainFor_of_name (by decide +kernel)) ⟨rfl, rfl⟩ rfl rfl (Nat.le_of_ble_eq_true rfl) (ex_pad 1 w)

set_option maxRecDepth 100000 in
theorem X12_power_0 {d bc bs : Nat} {h : AH} {Q : Option Value → AH → Prop} {a_0 : Nat} {v_1 : Int32} (w : ((¬ (X12_in_V (Int32.toInt64 v_1) 0 1 h) = 0 → ah_o h a_0 12 ∧ ((¬ (ah_f h a_0 22) = 0 → ex_G mX12_power (d + 2) 34 [.ref a_0, .int v_1, .int (-1), .int 0] [] h bc bs Q) ∧ ((ah_f h a_0 22) = 0 → X12_meets_C a_0 5 h ∧ ∀ h5, h5 = X12_meets_H a_0 5 h → Q (some (.int (X12_meets_V a_0 5 h))) h5))) ∧ ((X12_in_V (Int32.toInt64 v_1) 0 1 h) = 0 → ah_o h a_0 12 ∧ X12_no_C a_0 (-2) h ∧ ∀ h8, h8 = X12_no_H a_0 (-2) h → Q (some (.int (X12_no_V a_0 (-2) h))) h8))) : ex_G mX12_power (d + 2) 0 [.ref a_0, .int v_1, .retAddr 0, .retAddr 0] [] h bc bs Q := by
  refine ex_iload_n (q := 1) (x := v_1) dX12_power_0 rfl ?_
  refine ex_i2l (q := 2) dX12_power_1 ?_
  refine ex_lconst (q := 3) (v := 0) dX12_power_2 (by decide) ?_
  refine ex_lconst (q := 4) (v := 1) dX12_power_3 (by decide) ?_
  refine ex_callS (q := 7) (M := mX12_power) (hdd := Nat.le_refl _) (mc := 0) (ms := 0) (d' := (d + 1)) (st := []) (bc := bc) (bs := bs) dX12_power_4 rfl cl_X12_172 wd_1596 (X12_in_s (Q := fun r z => r = some (.int (X12_in_V (Int32.toInt64 v_1) 0 1 h)) ∧ z = h) ⟨rfl, rfl⟩) ?_
  intro r z hrz
  rw [hrz.1, hrz.2]
  show ex_G mX12_power (d + 2) 7 [.ref a_0, .int v_1, .retAddr 0, .retAddr 0] [.int (X12_in_V (Int32.toInt64 v_1) 0 1 h)] (h) bc bs Q
  refine ex_if_ne (tgt := 17) (q := 10) dX12_power_7 (fun c1 => ?_) (fun c1 => ?_)
  · replace w := w.1 c1
    refine ex_aload_n (q := 18) (x := a_0) dX12_power_17 rfl ?_
    have s2 := w.1
    replace w := w.2
    refine ex_getf (q := 21) dX12_power_18 fl_X12_263 s2 ?_
    refine ex_if_ne (tgt := 30) (q := 24) dX12_power_21 (fun c3 => ?_) (fun c3 => ?_)
    · replace w := w.1 c3
      refine ex_iconst (q := 31) (v := (-1)) dX12_power_30 (by decide) ?_
      refine ex_istore_n (q := 32) (ls' := [.ref a_0, .int v_1, .int (-1), .retAddr 0]) dX12_power_31 rfl ?_
      refine ex_iconst (q := 33) (v := 0) dX12_power_32 (by decide) ?_
      refine ex_istore_n (q := 34) (ls' := [.ref a_0, .int v_1, .int (-1), .int 0]) dX12_power_33 rfl ?_
      exact w
    · replace w := w.2 c3
      refine ex_aload_n (q := 25) (x := a_0) dX12_power_24 rfl ?_
      refine ex_iconst (q := 26) (v := 5) dX12_power_25 (by decide) ?_
      have s4 := w.1
      replace w := w.2
      refine ex_callV (q := 29) (M := mX12_power) (hdd := Nat.le_refl _) (mc := 0) (ms := 0) (d' := (d + 1)) (c := 12) (st := []) (bc := bc) (bs := bs) dX12_power_26 rfl cl_X12_200 wd_1614 wd_50 s2 (X12_meets_s (Q := fun r z => r = some (.int (X12_meets_V a_0 5 h)) ∧ z = X12_meets_H a_0 5 h) s4 ⟨rfl, rfl⟩) ?_
      intro r z hrz
      rw [hrz.1, hrz.2]
      show ex_G mX12_power (d + 2) 29 [.ref a_0, .int v_1, .retAddr 0, .retAddr 0] [.int (X12_meets_V a_0 5 h)] (X12_meets_H a_0 5 h) bc bs Q
      refine ex_nmh (fun h5 eh5 => ?_)
      replace w := w h5 eh5
      exact ex_ireturn dX12_power_29 rfl (Or.inl rfl) w
  · replace w := w.2 c1
    refine ex_aload_n (q := 11) (x := a_0) dX12_power_10 rfl ?_
    refine ex_bipush (q := 13) (v := (-2)) dX12_power_11 (by decide) ?_
    have s6 := w.1
    replace w := w.2
    have s7 := w.1
    replace w := w.2
    refine ex_callV (q := 16) (M := mX12_power) (hdd := Nat.le_refl _) (mc := 0) (ms := 0) (d' := (d + 1)) (c := 12) (st := []) (bc := bc) (bs := bs) dX12_power_13 rfl cl_X12_165 wd_1581 wd_46 s6 (X12_no_s (Q := fun r z => r = some (.int (X12_no_V a_0 (-2) h)) ∧ z = X12_no_H a_0 (-2) h) s7 ⟨rfl, rfl⟩) ?_
    intro r z hrz
    rw [hrz.1, hrz.2]
    show ex_G mX12_power (d + 2) 16 [.ref a_0, .int v_1, .retAddr 0, .retAddr 0] [.int (X12_no_V a_0 (-2) h)] (X12_no_H a_0 (-2) h) bc bs Q
    refine ex_nmh (fun h8 eh8 => ?_)
    replace w := w h8 eh8
    exact ex_ireturn dX12_power_16 rfl (Or.inl rfl) w

set_option maxRecDepth 100000 in
theorem X12_power_34 {d bc bs : Nat} {h : AH} {Q : Option Value → AH → Prop} {a_0 : Nat} {v_1 : Int32} {v_2 : Int32} {v_3 : Int32} (w : ((601 ≤ v_3 → ah_o h a_0 12 ∧ X12_well_C a_0 (v_2 - 300) h ∧ ∀ h4, h4 = X12_well_H a_0 (v_2 - 300) h → Q (some (.int (X12_well_V a_0 (v_2 - 300) h))) h4) ∧ (¬ 601 ≤ v_3 → ah_o h a_0 12 ∧ ∃ a6, ah_r h a_0 21 = some a6 ∧ ld2 h a6 v_3 ∧ (((lg_cmp (ah_l h a6 (Int32.toNatClampNeg v_3)) 0) = 0 → ∀ x9, x9 = v_3 + 1 → ex_G mX12_power (d + 2) 34 [.ref a_0, .int v_1, .int v_2, .int x9] [] h bc bs Q) ∧ (¬ (lg_cmp (ah_l h a6 (Int32.toNatClampNeg v_3)) 0) = 0 → ((v_1 = 1 → ∀ x11, x11 = v_3 + 1 → ex_G mX12_power (d + 2) 34 [.ref a_0, .int v_1, .int v_3, .int x11] [] h bc bs Q) ∧ (¬ v_1 = 1 → ((¬ v_2 = (-1) → ∀ x13, x13 = v_3 + 1 → ex_G mX12_power (d + 2) 34 [.ref a_0, .int v_1, .int v_2, .int x13] [] h bc bs Q) ∧ (v_2 = (-1) → ∀ x14, x14 = v_3 + 1 → ex_G mX12_power (d + 2) 34 [.ref a_0, .int v_1, .int v_3, .int x14] [] h bc bs Q))))))))) : ex_G mX12_power (d + 2) 34 [.ref a_0, .int v_1, .int v_2, .int v_3] [] h bc bs Q := by
  refine ex_iload_n (q := 35) (x := v_3) dX12_power_34 rfl ?_
  refine ex_sipush (q := 38) (v := 601) dX12_power_35 (by decide) ?_
  refine ex_icmp_ge (tgt := 70) (q := 41) dX12_power_38 (fun c1 => ?_) (fun c1 => ?_)
  · replace w := w.1 c1
    refine ex_aload_n (q := 71) (x := a_0) dX12_power_70 rfl ?_
    refine ex_iload_n (q := 72) (x := v_2) dX12_power_71 rfl ?_
    refine ex_sipush (q := 75) (v := 300) dX12_power_72 (by decide) ?_
    refine ex_isub (q := 76) dX12_power_75 ?_
    have s2 := w.1
    replace w := w.2
    have s3 := w.1
    replace w := w.2
    refine ex_callV (q := 79) (M := mX12_power) (hdd := Nat.le_refl _) (mc := 0) (ms := 0) (d' := (d + 1)) (c := 12) (st := []) (bc := bc) (bs := bs) dX12_power_76 rfl cl_X12_180 wd_1585 wd_47 s2 (X12_well_s (Q := fun r z => r = some (.int (X12_well_V a_0 (v_2 - 300) h)) ∧ z = X12_well_H a_0 (v_2 - 300) h) s3 ⟨rfl, rfl⟩) ?_
    intro r z hrz
    rw [hrz.1, hrz.2]
    show ex_G mX12_power (d + 2) 79 [.ref a_0, .int v_1, .int v_2, .int v_3] [.int (X12_well_V a_0 (v_2 - 300) h)] (X12_well_H a_0 (v_2 - 300) h) bc bs Q
    refine ex_nmh (fun h4 eh4 => ?_)
    replace w := w h4 eh4
    exact ex_ireturn dX12_power_79 rfl (Or.inl rfl) w
  · replace w := w.2 c1
    refine ex_aload_n (q := 42) (x := a_0) dX12_power_41 rfl ?_
    have s5 := w.1
    replace w := w.2
    obtain ⟨a6, ea6, w⟩ := w
    refine ex_getr (q := 45) dX12_power_42 fl_X12_71 s5 ea6 ?_
    refine ex_iload_n (q := 46) (x := v_3) dX12_power_45 rfl ?_
    have s7 := w.1
    replace w := w.2
    refine ex_lald (q := 47) dX12_power_46 s7 ?_
    refine ex_lconst (q := 48) (v := 0) dX12_power_47 (by decide) ?_
    refine ex_lcmp (q := 49) dX12_power_48 ?_
    refine ex_if_eq (tgt := 64) (q := 52) dX12_power_49 (fun c8 => ?_) (fun c8 => ?_)
    · replace w := w.1 c8
      obtain ⟨x9, ex9⟩ : ∃ y : Int32, y = v_3 + 1 := ⟨_, rfl⟩
      replace w := w x9 ex9
      refine ex_iinc (q := 67) (x := v_3) (v := x9) (ls' := [.ref a_0, .int v_1, .int v_2, .int x9]) dX12_power_64 rfl (by rw [ex9]; rfl) rfl ?_
      refine ex_goto (tgt := 34) dX12_power_67 ?_
      exact w
    · replace w := w.2 c8
      refine ex_iload_n (q := 53) (x := v_1) dX12_power_52 rfl ?_
      refine ex_iconst (q := 54) (v := 1) dX12_power_53 (by decide) ?_
      refine ex_icmp_eq (tgt := 62) (q := 57) dX12_power_54 (fun c10 => ?_) (fun c10 => ?_)
      · replace w := w.1 c10
        refine ex_iload_n (q := 63) (x := v_3) dX12_power_62 rfl ?_
        refine ex_istore_n (q := 64) (ls' := [.ref a_0, .int v_1, .int v_3, .int v_3]) dX12_power_63 rfl ?_
        obtain ⟨x11, ex11⟩ : ∃ y : Int32, y = v_3 + 1 := ⟨_, rfl⟩
        replace w := w x11 ex11
        refine ex_iinc (q := 67) (x := v_3) (v := x11) (ls' := [.ref a_0, .int v_1, .int v_3, .int x11]) dX12_power_64 rfl (by rw [ex11]; rfl) rfl ?_
        refine ex_goto (tgt := 34) dX12_power_67 ?_
        exact w
      · replace w := w.2 c10
        refine ex_iload_n (q := 58) (x := v_2) dX12_power_57 rfl ?_
        refine ex_iconst (q := 59) (v := (-1)) dX12_power_58 (by decide) ?_
        refine ex_icmp_ne (tgt := 64) (q := 62) dX12_power_59 (fun c12 => ?_) (fun c12 => ?_)
        · replace w := w.1 c12
          obtain ⟨x13, ex13⟩ : ∃ y : Int32, y = v_3 + 1 := ⟨_, rfl⟩
          replace w := w x13 ex13
          refine ex_iinc (q := 67) (x := v_3) (v := x13) (ls' := [.ref a_0, .int v_1, .int v_2, .int x13]) dX12_power_64 rfl (by rw [ex13]; rfl) rfl ?_
          refine ex_goto (tgt := 34) dX12_power_67 ?_
          exact w
        · replace w := w.2 c12
          refine ex_iload_n (q := 63) (x := v_3) dX12_power_62 rfl ?_
          refine ex_istore_n (q := 64) (ls' := [.ref a_0, .int v_1, .int v_3, .int v_3]) dX12_power_63 rfl ?_
          obtain ⟨x14, ex14⟩ : ∃ y : Int32, y = v_3 + 1 := ⟨_, rfl⟩
          replace w := w x14 ex14
          refine ex_iinc (q := 67) (x := v_3) (v := x14) (ls' := [.ref a_0, .int v_1, .int v_3, .int x14]) dX12_power_64 rfl (by rw [ex14]; rfl) rfl ?_
          refine ex_goto (tgt := 34) dX12_power_67 ?_
          exact w

theorem X12_power_e {d bc bs : Nat} {h : AH} {Q : Option Value → AH → Prop} {a_0 : Nat} {v_1 : Int32} (w : ex_G mX12_power (d + 2) 0 [.ref a_0, .int v_1, .retAddr 0, .retAddr 0] [] h bc bs Q) : ex_S yX12_power mX12_power (d + 2) [.ref a_0, .int v_1] h bc bs Q :=
  ex_enter (plainFor_of_name (by decide +kernel)) ⟨rfl, rfl⟩ rfl rfl (Nat.le_of_ble_eq_true rfl) (ex_pad 2 w)

set_option maxRecDepth 100000 in
theorem X12_determinant_0 {d bc bs : Nat} {h : AH} {Q : Option Value → AH → Prop} {a_0 : Nat} {v_1 : Int32} (w : ah_o h a_0 12 ∧ ex_S yX12_spends mX12_spends (d + 5) [.ref a_0, .int v_1, .int 14] h 0 0 (fun r h1 => ∃ x3, r = some (.int x3) ∧ ((0 ≤ x3 → ah_o h1 a_0 12 ∧ ex_S yX12_bracketOf mX12_bracketOf (d + 5) [.ref a_0, .int v_1] h1 0 0 (fun r h5 => r = none ∧ ex_G mX12_determinant (d + 6) 22 [.ref a_0, .retAddr 0, .retAddr 0, .int 0, .retAddr 0, .retAddr 0, .retAddr 0] [] h5 bc bs Q)) ∧ (¬ 0 ≤ x3 → Q (some (.long (Int32.toInt64 x3))) h1)))) : ex_G mX12_determinant (d + 6) 0 [.ref a_0, .int v_1, .retAddr 0, .retAddr 0, .retAddr 0, .retAddr 0, .retAddr 0] [] h bc bs Q := by
  refine ex_aload_n (q := 1) (x := a_0) dX12_determinant_0 rfl ?_
  refine ex_iload_n (q := 2) (x := v_1) dX12_determinant_1 rfl ?_
  refine ex_bipush (q := 4) (v := 14) dX12_determinant_2 (by decide) ?_
  have s2 := w.1
  replace w := w.2
  refine ex_callV (q := 7) (M := mX12_determinant) (hdd := Nat.le_refl _) (c := 12) (st := []) (bc := bc) (bs := bs) dX12_determinant_4 rfl cl_X12_267 wd_1718 wd_62 s2 w ?_
  rintro r h1 ⟨x3, rfl, w⟩
  show ex_G mX12_determinant (d + 6) 7 [.ref a_0, .int v_1, .retAddr 0, .retAddr 0, .retAddr 0, .retAddr 0, .retAddr 0] [.int x3] h1 bc bs Q
  refine ex_istore_n (q := 8) (ls' := [.ref a_0, .int v_1, .int x3, .retAddr 0, .retAddr 0, .retAddr 0, .retAddr 0]) dX12_determinant_7 rfl ?_
  refine ex_iload_n (q := 9) (x := x3) dX12_determinant_8 rfl ?_
  refine ex_if_ge (tgt := 15) (q := 12) dX12_determinant_9 (fun c4 => ?_) (fun c4 => ?_)
  · replace w := w.1 c4
    refine ex_aload_n (q := 16) (x := a_0) dX12_determinant_15 rfl ?_
    refine ex_iload_n (q := 17) (x := v_1) dX12_determinant_16 rfl ?_
    have s6 := w.1
    replace w := w.2
    refine ex_callV (q := 20) (M := mX12_determinant) (hdd := Nat.le_refl _) (c := 12) (st := []) (bc := bc) (bs := bs) dX12_determinant_17 rfl cl_X12_259 wd_1723 wd_63 s6 w ?_
    rintro r h5 ⟨rfl, w⟩
    show ex_G mX12_determinant (d + 6) 20 [.ref a_0, .int v_1, .int x3, .retAddr 0, .retAddr 0, .retAddr 0, .retAddr 0] [] h5 bc bs Q
    refine ex_iconst (q := 21) (v := 0) dX12_determinant_20 (by decide) ?_
    refine ex_istore_n (q := 22) (ls' := [.ref a_0, .int v_1, .int x3, .int 0, .retAddr 0, .retAddr 0, .retAddr 0]) dX12_determinant_21 rfl ?_
    refine ex_kill 1 (ls' := [.ref a_0, .retAddr 0, .int x3, .int 0, .retAddr 0, .retAddr 0, .retAddr 0]) rfl ?_
    refine ex_kill 2 (ls' := [.ref a_0, .retAddr 0, .retAddr 0, .int 0, .retAddr 0, .retAddr 0, .retAddr 0]) rfl ?_
    exact w
  · replace w := w.2 c4
    refine ex_iload_n (q := 13) (x := x3) dX12_determinant_12 rfl ?_
    refine ex_i2l (q := 14) dX12_determinant_13 ?_
    exact ex_lreturn dX12_determinant_14 w

set_option maxRecDepth 100000 in
theorem X12_determinant_22 {d bc bs : Nat} {h : AH} {Q : Option Value → AH → Prop} {a_0 : Nat} {v_3 : Int32} (w : ah_o h a_0 12 ∧ ∃ a2, ah_r h a_0 20 = some a2 ∧ ld2 h a2 v_3 ∧ ((¬ (lg_cmp (ah_l h a2 (Int32.toNatClampNeg v_3)) 0) = 0 → ex_G mX12_determinant (d + 6) 45 [.ref a_0, .retAddr 0, .retAddr 0, .int v_3, .long 0, .retAddr 0, .int v_3] [] h bc bs Q) ∧ ((lg_cmp (ah_l h a2 (Int32.toNatClampNeg v_3)) 0) = 0 → ∀ x5, x5 = v_3 + 1 → ex_G mX12_determinant (d + 6) 22 [.ref a_0, .retAddr 0, .retAddr 0, .int x5, .retAddr 0, .retAddr 0, .retAddr 0] [] h bc bs Q))) : ex_G mX12_determinant (d + 6) 22 [.ref a_0, .retAddr 0, .retAddr 0, .int v_3, .retAddr 0, .retAddr 0, .retAddr 0] [] h bc bs Q := by
  refine ex_aload_n (q := 23) (x := a_0) dX12_determinant_22 rfl ?_
  have s1 := w.1
  replace w := w.2
  obtain ⟨a2, ea2, w⟩ := w
  refine ex_getr (q := 26) dX12_determinant_23 fl_X12_67 s1 ea2 ?_
  refine ex_iload_n (q := 27) (x := v_3) dX12_determinant_26 rfl ?_
  have s3 := w.1
  replace w := w.2
  refine ex_lald (q := 28) dX12_determinant_27 s3 ?_
  refine ex_lconst (q := 29) (v := 0) dX12_determinant_28 (by decide) ?_
  refine ex_lcmp (q := 30) dX12_determinant_29 ?_
  refine ex_if_ne (tgt := 39) (q := 33) dX12_determinant_30 (fun c4 => ?_) (fun c4 => ?_)
  · replace w := w.1 c4
    refine ex_lconst (q := 40) (v := 0) dX12_determinant_39 (by decide) ?_
    refine ex_lstore (q := 42) (ls' := [.ref a_0, .retAddr 0, .retAddr 0, .int v_3, .long 0, .retAddr 0, .retAddr 0]) dX12_determinant_40 rfl ?_
    refine ex_iload_n (q := 43) (x := v_3) dX12_determinant_42 rfl ?_
    refine ex_istore (q := 45) (ls' := [.ref a_0, .retAddr 0, .retAddr 0, .int v_3, .long 0, .retAddr 0, .int v_3]) dX12_determinant_43 rfl ?_
    exact w
  · replace w := w.2 c4
    obtain ⟨x5, ex5⟩ : ∃ y : Int32, y = v_3 + 1 := ⟨_, rfl⟩
    replace w := w x5 ex5
    refine ex_iinc (q := 36) (x := v_3) (v := x5) (ls' := [.ref a_0, .retAddr 0, .retAddr 0, .int x5, .retAddr 0, .retAddr 0, .retAddr 0]) dX12_determinant_33 rfl (by rw [ex5]; rfl) rfl ?_
    refine ex_goto (tgt := 22) dX12_determinant_36 ?_
    exact w

set_option maxRecDepth 100000 in
theorem X12_determinant_45 {d bc bs : Nat} {h : AH} {Q : Option Value → AH → Prop} {a_0 : Nat} {v_3 : Int32} {v_4 : Int64} {v_6 : Int32} (w : ((601 ≤ v_6 → ah_o h a_0 12 ∧ X12_well_C a_0 1 h ∧ ∀ h4, h4 = X12_well_H a_0 1 h → ∀ x5, x5 = X12_well_V a_0 1 h → ((0 ≤ (lg_cmp v_4 0) → Q (some (.long v_4)) h4) ∧ (¬ 0 ≤ (lg_cmp v_4 0) → Q (some (.long (-v_4))) h4))) ∧ (¬ 601 ≤ v_6 → ((¬ (im_ (v_6 - v_3) 8) = 0 → ah_o h a_0 12 ∧ ∃ a9, ah_r h a_0 20 = some a9 ∧ ld2 h a9 v_6 ∧ ∀ x11, x11 = v_4 + (-(ah_l h a9 (Int32.toNatClampNeg v_6))) → ∀ x12, x12 = v_6 + 4 → ex_G mX12_determinant (d + 6) 45 [.ref a_0, .retAddr 0, .retAddr 0, .int v_3, .long x11, .retAddr 0, .int x12] [] h bc bs Q) ∧ ((im_ (v_6 - v_3) 8) = 0 → ah_o h a_0 12 ∧ ∃ a14, ah_r h a_0 20 = some a14 ∧ ld2 h a14 v_6 ∧ ∀ x16, x16 = v_4 + (ah_l h a14 (Int32.toNatClampNeg v_6)) → ∀ x17, x17 = v_6 + 4 → ex_G mX12_determinant (d + 6) 45 [.ref a_0, .retAddr 0, .retAddr 0, .int v_3, .long x16, .retAddr 0, .int x17] [] h bc bs Q))))) : ex_G mX12_determinant (d + 6) 45 [.ref a_0, .retAddr 0, .retAddr 0, .int v_3, .long v_4, .retAddr 0, .int v_6] [] h bc bs Q := by
  refine ex_iload (q := 47) (x := v_6) dX12_determinant_45 rfl ?_
  refine ex_sipush (q := 50) (v := 601) dX12_determinant_47 (by decide) ?_
  refine ex_icmp_ge (tgt := 92) (q := 53) dX12_determinant_50 (fun c1 => ?_) (fun c1 => ?_)
  · replace w := w.1 c1
    refine ex_aload_n (q := 93) (x := a_0) dX12_determinant_92 rfl ?_
    refine ex_iconst (q := 94) (v := 1) dX12_determinant_93 (by decide) ?_
    have s2 := w.1
    replace w := w.2
    have s3 := w.1
    replace w := w.2
    refine ex_callV (q := 97) (M := mX12_determinant) (hdd := Nat.le_refl _) (mc := 0) (ms := 0) (d' := (d + 5)) (c := 12) (st := []) (bc := bc) (bs := bs) dX12_determinant_94 rfl cl_X12_180 wd_1585 wd_47 s2 (X12_well_s (Q := fun r z => r = some (.int (X12_well_V a_0 1 h)) ∧ z = X12_well_H a_0 1 h) s3 ⟨rfl, rfl⟩) ?_
    intro r z hrz
    rw [hrz.1, hrz.2]
    show ex_G mX12_determinant (d + 6) 97 [.ref a_0, .retAddr 0, .retAddr 0, .int v_3, .long v_4, .retAddr 0, .int v_6] [.int (X12_well_V a_0 1 h)] (X12_well_H a_0 1 h) bc bs Q
    refine ex_nmh (fun h4 eh4 => ?_)
    replace w := w h4 eh4
    refine ex_nmi (fun x5 ex5 => ?_)
    replace w := w x5 ex5
    refine ex_istore (q := 99) (ls' := [.ref a_0, .retAddr 0, .retAddr 0, .int v_3, .long v_4, .retAddr 0, .int x5]) dX12_determinant_97 rfl ?_
    refine ex_lload (q := 101) (x := v_4) dX12_determinant_99 rfl ?_
    refine ex_lconst (q := 102) (v := 0) dX12_determinant_101 (by decide) ?_
    refine ex_lcmp (q := 103) dX12_determinant_102 ?_
    refine ex_if_ge (tgt := 112) (q := 106) dX12_determinant_103 (fun c6 => ?_) (fun c6 => ?_)
    · replace w := w.1 c6
      refine ex_lload (q := 114) (x := v_4) dX12_determinant_112 rfl ?_
      exact ex_lreturn dX12_determinant_114 w
    · replace w := w.2 c6
      refine ex_lload (q := 108) (x := v_4) dX12_determinant_106 rfl ?_
      refine ex_lneg (q := 109) dX12_determinant_108 ?_
      refine ex_goto (tgt := 114) dX12_determinant_109 ?_
      exact ex_lreturn dX12_determinant_114 w
  · replace w := w.2 c1
    refine ex_lload (q := 55) (x := v_4) dX12_determinant_53 rfl ?_
    refine ex_iload (q := 57) (x := v_6) dX12_determinant_55 rfl ?_
    refine ex_iload_n (q := 58) (x := v_3) dX12_determinant_57 rfl ?_
    refine ex_isub (q := 59) dX12_determinant_58 ?_
    refine ex_bipush (q := 61) (v := 8) dX12_determinant_59 (by decide) ?_
    refine ex_irem (q := 62) dX12_determinant_61 (by decide) ?_
    refine ex_if_ne (tgt := 75) (q := 65) dX12_determinant_62 (fun c7 => ?_) (fun c7 => ?_)
    · replace w := w.1 c7
      refine ex_aload_n (q := 76) (x := a_0) dX12_determinant_75 rfl ?_
      have s8 := w.1
      replace w := w.2
      obtain ⟨a9, ea9, w⟩ := w
      refine ex_getr (q := 79) dX12_determinant_76 fl_X12_67 s8 ea9 ?_
      refine ex_iload (q := 81) (x := v_6) dX12_determinant_79 rfl ?_
      have s10 := w.1
      replace w := w.2
      refine ex_lald (q := 82) dX12_determinant_81 s10 ?_
      refine ex_lneg (q := 83) dX12_determinant_82 ?_
      refine ex_ladd (q := 84) dX12_determinant_83 ?_
      refine ex_nml (fun x11 ex11 => ?_)
      replace w := w x11 ex11
      refine ex_lstore (q := 86) (ls' := [.ref a_0, .retAddr 0, .retAddr 0, .int v_3, .long x11, .retAddr 0, .int v_6]) dX12_determinant_84 rfl ?_
      obtain ⟨x12, ex12⟩ : ∃ y : Int32, y = v_6 + 4 := ⟨_, rfl⟩
      replace w := w x12 ex12
      refine ex_iinc (q := 89) (x := v_6) (v := x12) (ls' := [.ref a_0, .retAddr 0, .retAddr 0, .int v_3, .long x11, .retAddr 0, .int x12]) dX12_determinant_86 rfl (by rw [ex12]; rfl) rfl ?_
      refine ex_goto (tgt := 45) dX12_determinant_89 ?_
      exact w
    · replace w := w.2 c7
      refine ex_aload_n (q := 66) (x := a_0) dX12_determinant_65 rfl ?_
      have s13 := w.1
      replace w := w.2
      obtain ⟨a14, ea14, w⟩ := w
      refine ex_getr (q := 69) dX12_determinant_66 fl_X12_67 s13 ea14 ?_
      refine ex_iload (q := 71) (x := v_6) dX12_determinant_69 rfl ?_
      have s15 := w.1
      replace w := w.2
      refine ex_lald (q := 72) dX12_determinant_71 s15 ?_
      refine ex_goto (tgt := 83) dX12_determinant_72 ?_
      refine ex_ladd (q := 84) dX12_determinant_83 ?_
      refine ex_nml (fun x16 ex16 => ?_)
      replace w := w x16 ex16
      refine ex_lstore (q := 86) (ls' := [.ref a_0, .retAddr 0, .retAddr 0, .int v_3, .long x16, .retAddr 0, .int v_6]) dX12_determinant_84 rfl ?_
      obtain ⟨x17, ex17⟩ : ∃ y : Int32, y = v_6 + 4 := ⟨_, rfl⟩
      replace w := w x17 ex17
      refine ex_iinc (q := 89) (x := v_6) (v := x17) (ls' := [.ref a_0, .retAddr 0, .retAddr 0, .int v_3, .long x16, .retAddr 0, .int x17]) dX12_determinant_86 rfl (by rw [ex17]; rfl) rfl ?_
      refine ex_goto (tgt := 45) dX12_determinant_89 ?_
      exact w

theorem X12_determinant_e {d bc bs : Nat} {h : AH} {Q : Option Value → AH → Prop} {a_0 : Nat} {v_1 : Int32} (w : ex_G mX12_determinant (d + 6) 0 [.ref a_0, .int v_1, .retAddr 0, .retAddr 0, .retAddr 0, .retAddr 0, .retAddr 0] [] h bc bs Q) : ex_S yX12_determinant mX12_determinant (d + 6) [.ref a_0, .int v_1] h bc bs Q :=
  ex_enter (plainFor_of_name (by decide +kernel)) ⟨rfl, rfl⟩ rfl rfl (Nat.le_of_ble_eq_true rfl) (ex_pad 5 w)

set_option maxRecDepth 100000 in
theorem X12_gauss_0 {d bc bs : Nat} {h : AH} {Q : Option Value → AH → Prop} {a_0 : Nat} {v_1 : Int32} (w : ah_o h a_0 12 ∧ ex_S yX12_refusal mX12_refusal (d + 4) [.ref a_0, .int v_1] h 0 0 (fun r h1 => ∃ x3, r = some (.int x3) ∧ ((0 ≤ x3 → ah_o h1 a_0 12 ∧ ex_S yX12_piecesOf mX12_piecesOf (d + 4) [.ref a_0, .int v_1] h1 0 0 (fun r h5 => ∃ x7, r = some (.int x7) ∧ ah_o h5 a_0 12 ∧ ∀ h9, h9 = ah_sf h5 a_0 29 0 → ex_G mX12_gauss (d + 5) 29 [.ref a_0, .int v_1, .retAddr 0, .retAddr 0, .int 0, .int 0, .retAddr 0, .retAddr 0] [] h9 bc bs Q)) ∧ (¬ 0 ≤ x3 → Q (some (.int x3)) h1)))) : ex_G mX12_gauss (d + 5) 0 [.ref a_0, .int v_1, .retAddr 0, .retAddr 0, .retAddr 0, .retAddr 0, .retAddr 0, .retAddr 0] [] h bc bs Q := by
  refine ex_aload_n (q := 1) (x := a_0) dX12_gauss_0 rfl ?_
  refine ex_iload_n (q := 2) (x := v_1) dX12_gauss_1 rfl ?_
  have s2 := w.1
  replace w := w.2
  refine ex_callV (q := 5) (M := mX12_gauss) (hdd := Nat.le_refl _) (c := 12) (st := []) (bc := bc) (bs := bs) dX12_gauss_2 rfl cl_X12_237 wd_1675 wd_57 s2 w ?_
  rintro r h1 ⟨x3, rfl, w⟩
  show ex_G mX12_gauss (d + 5) 5 [.ref a_0, .int v_1, .retAddr 0, .retAddr 0, .retAddr 0, .retAddr 0, .retAddr 0, .retAddr 0] [.int x3] h1 bc bs Q
  refine ex_istore_n (q := 6) (ls' := [.ref a_0, .int v_1, .int x3, .retAddr 0, .retAddr 0, .retAddr 0, .retAddr 0, .retAddr 0]) dX12_gauss_5 rfl ?_
  refine ex_iload_n (q := 7) (x := x3) dX12_gauss_6 rfl ?_
  refine ex_if_ge (tgt := 12) (q := 10) dX12_gauss_7 (fun c4 => ?_) (fun c4 => ?_)
  · replace w := w.1 c4
    refine ex_aload_n (q := 13) (x := a_0) dX12_gauss_12 rfl ?_
    refine ex_iload_n (q := 14) (x := v_1) dX12_gauss_13 rfl ?_
    have s6 := w.1
    replace w := w.2
    refine ex_callV (q := 17) (M := mX12_gauss) (hdd := Nat.le_refl _) (c := 12) (st := []) (bc := bc) (bs := bs) dX12_gauss_14 rfl cl_X12_229 wd_1679 wd_58 s6 w ?_
    rintro r h5 ⟨x7, rfl, w⟩
    show ex_G mX12_gauss (d + 5) 17 [.ref a_0, .int v_1, .int x3, .retAddr 0, .retAddr 0, .retAddr 0, .retAddr 0, .retAddr 0] [.int x7] h5 bc bs Q
    refine ex_istore_n (q := 18) (ls' := [.ref a_0, .int v_1, .int x3, .int x7, .retAddr 0, .retAddr 0, .retAddr 0, .retAddr 0]) dX12_gauss_17 rfl ?_
    refine ex_aload_n (q := 19) (x := a_0) dX12_gauss_18 rfl ?_
    refine ex_iconst (q := 20) (v := 0) dX12_gauss_19 (by decide) ?_
    have s8 := w.1
    replace w := w.2
    refine ex_putf (q := 23) dX12_gauss_20 fl_X12_281 (Or.inl rfl) s8 (Or.inl rfl) ?_
    refine ex_nmh (fun h9 eh9 => ?_)
    replace w := w h9 eh9
    refine ex_iconst (q := 24) (v := 0) dX12_gauss_23 (by decide) ?_
    refine ex_istore (q := 26) (ls' := [.ref a_0, .int v_1, .int x3, .int x7, .int 0, .retAddr 0, .retAddr 0, .retAddr 0]) dX12_gauss_24 rfl ?_
    refine ex_iconst (q := 27) (v := 0) dX12_gauss_26 (by decide) ?_
    refine ex_istore (q := 29) (ls' := [.ref a_0, .int v_1, .int x3, .int x7, .int 0, .int 0, .retAddr 0, .retAddr 0]) dX12_gauss_27 rfl ?_
    refine ex_kill 2 (ls' := [.ref a_0, .int v_1, .retAddr 0, .int x7, .int 0, .int 0, .retAddr 0, .retAddr 0]) rfl ?_
    refine ex_kill 3 (ls' := [.ref a_0, .int v_1, .retAddr 0, .retAddr 0, .int 0, .int 0, .retAddr 0, .retAddr 0]) rfl ?_
    exact w
  · replace w := w.2 c4
    refine ex_iload_n (q := 11) (x := x3) dX12_gauss_10 rfl ?_
    exact ex_ireturn dX12_gauss_11 rfl (Or.inl rfl) w

set_option maxRecDepth 100000 in
theorem X12_gauss_29 {d bc bs : Nat} {h : AH} {Q : Option Value → AH → Prop} {a_0 : Nat} {v_1 : Int32} {v_4 : Int32} {v_5 : Int32} (w : ah_o h a_0 12 ∧ ∃ a2, ah_r h a_0 2 = some a2 ∧ ld0 h a2 v_1 ∧ (((4 * (ah_i h a2 (Int32.toNatClampNeg v_1))) ≤ v_5 → ∃ a5, ah_r h a_0 28 = some a5 ∧ ∃ a6, ah_r h a_0 3 = some a6 ∧ ld0 h a6 v_1 ∧ st0 h a5 (ah_f h a_0 29) ∧ ∀ h8, h8 = ah_si h a5 (Int32.toNatClampNeg (ah_f h a_0 29)) ((-2) - (ah_i h a6 (Int32.toNatClampNeg v_1))) → ∀ h10, h10 = ah_sf h8 a_0 29 ((ah_f h8 a_0 29) + 1) → X12_well_C a_0 (ah_f h10 a_0 29) h10 ∧ ∀ h12, h12 = X12_well_H a_0 (ah_f h10 a_0 29) h10 → Q (some (.int (X12_well_V a_0 (ah_f h10 a_0 29) h10))) h12) ∧ (¬ (4 * (ah_i h a2 (Int32.toNatClampNeg v_1))) ≤ v_5 → ∃ a13, ah_r h a_0 16 = some a13 ∧ ld0 h a13 v_5 ∧ ((¬ (ah_i h a13 (Int32.toNatClampNeg v_5)) = v_4 → ∀ x16, x16 = v_5 + 1 → ex_G mX12_gauss (d + 5) 29 [.ref a_0, .int v_1, .retAddr 0, .retAddr 0, .int v_4, .int x16, .retAddr 0, .retAddr 0] [] h bc bs Q) ∧ ((ah_i h a13 (Int32.toNatClampNeg v_5)) = v_4 → ∀ x17, x17 = v_4 + 1 → ex_G mX12_gauss (d + 5) 61 [.ref a_0, .int v_1, .retAddr 0, .retAddr 0, .int x17, .int v_5, .int v_5, .retAddr 0] [] h bc bs Q))))) : ex_G mX12_gauss (d + 5) 29 [.ref a_0, .int v_1, .retAddr 0, .retAddr 0, .int v_4, .int v_5, .retAddr 0, .retAddr 0] [] h bc bs Q := by
  refine ex_iload (q := 31) (x := v_5) dX12_gauss_29 rfl ?_
  refine ex_iconst (q := 32) (v := 4) dX12_gauss_31 (by decide) ?_
  refine ex_aload_n (q := 33) (x := a_0) dX12_gauss_32 rfl ?_
  have s1 := w.1
  replace w := w.2
  obtain ⟨a2, ea2, w⟩ := w
  refine ex_getr (q := 36) dX12_gauss_33 fl_X12_13 s1 ea2 ?_
  refine ex_iload_n (q := 37) (x := v_1) dX12_gauss_36 rfl ?_
  have s3 := w.1
  replace w := w.2
  refine ex_iald (q := 38) dX12_gauss_37 s3 ?_
  refine ex_imul (q := 39) dX12_gauss_38 ?_
  refine ex_icmp_ge (tgt := 168) (q := 42) dX12_gauss_39 (fun c4 => ?_) (fun c4 => ?_)
  · replace w := w.1 c4
    refine ex_aload_n (q := 169) (x := a_0) dX12_gauss_168 rfl ?_
    obtain ⟨a5, ea5, w⟩ := w
    refine ex_getr (q := 172) dX12_gauss_169 fl_X12_86 s1 ea5 ?_
    refine ex_aload_n (q := 173) (x := a_0) dX12_gauss_172 rfl ?_
    refine ex_getf (q := 176) dX12_gauss_173 fl_X12_281 s1 ?_
    refine ex_bipush (q := 178) (v := (-2)) dX12_gauss_176 (by decide) ?_
    refine ex_aload_n (q := 179) (x := a_0) dX12_gauss_178 rfl ?_
    obtain ⟨a6, ea6, w⟩ := w
    refine ex_getr (q := 182) dX12_gauss_179 fl_X12_16 s1 ea6 ?_
    refine ex_iload_n (q := 183) (x := v_1) dX12_gauss_182 rfl ?_
    have s7 := w.1
    replace w := w.2
    refine ex_iald (q := 184) dX12_gauss_183 s7 ?_
    refine ex_isub (q := 185) dX12_gauss_184 ?_
    have s9 := w.1
    replace w := w.2
    refine ex_iast (q := 186) dX12_gauss_185 s9 ?_
    refine ex_nmh (fun h8 eh8 => ?_)
    replace w := w h8 eh8
    refine ex_aload_n (q := 187) (x := a_0) dX12_gauss_186 rfl ?_
    refine ex_dup (q := 188) dX12_gauss_187 rfl ?_
    refine ex_getf (q := 191) dX12_gauss_188 fl_X12_281 (by rw [eh8]; exact s1) ?_
    refine ex_iconst (q := 192) (v := 1) dX12_gauss_191 (by decide) ?_
    refine ex_iadd (q := 193) dX12_gauss_192 ?_
    refine ex_putf (q := 196) dX12_gauss_193 fl_X12_281 (Or.inl rfl) (by rw [eh8]; exact s1) (Or.inl rfl) ?_
    refine ex_nmh (fun h10 eh10 => ?_)
    replace w := w h10 eh10
    refine ex_aload_n (q := 197) (x := a_0) dX12_gauss_196 rfl ?_
    refine ex_aload_n (q := 198) (x := a_0) dX12_gauss_197 rfl ?_
    refine ex_getf (q := 201) dX12_gauss_198 fl_X12_281 (by rw [eh10]; exact (by rw [eh8]; exact s1)) ?_
    have s11 := w.1
    replace w := w.2
    refine ex_callV (q := 204) (M := mX12_gauss) (hdd := Nat.le_refl _) (mc := 0) (ms := 0) (d' := (d + 4)) (c := 12) (st := []) (bc := bc) (bs := bs) dX12_gauss_201 rfl cl_X12_180 wd_1585 wd_47 (by rw [eh10]; exact (by rw [eh8]; exact s1)) (X12_well_s (Q := fun r z => r = some (.int (X12_well_V a_0 (ah_f h10 a_0 29) h10)) ∧ z = X12_well_H a_0 (ah_f h10 a_0 29) h10) s11 ⟨rfl, rfl⟩) ?_
    intro r z hrz
    rw [hrz.1, hrz.2]
    show ex_G mX12_gauss (d + 5) 204 [.ref a_0, .int v_1, .retAddr 0, .retAddr 0, .int v_4, .int v_5, .retAddr 0, .retAddr 0] [.int (X12_well_V a_0 (ah_f h10 a_0 29) h10)] (X12_well_H a_0 (ah_f h10 a_0 29) h10) bc bs Q
    refine ex_nmh (fun h12 eh12 => ?_)
    replace w := w h12 eh12
    exact ex_ireturn dX12_gauss_204 rfl (Or.inl rfl) w
  · replace w := w.2 c4
    refine ex_aload_n (q := 43) (x := a_0) dX12_gauss_42 rfl ?_
    obtain ⟨a13, ea13, w⟩ := w
    refine ex_getr (q := 46) dX12_gauss_43 fl_X12_55 s1 ea13 ?_
    refine ex_iload (q := 48) (x := v_5) dX12_gauss_46 rfl ?_
    have s14 := w.1
    replace w := w.2
    refine ex_iald (q := 49) dX12_gauss_48 s14 ?_
    refine ex_iload (q := 51) (x := v_4) dX12_gauss_49 rfl ?_
    refine ex_icmp_ne (tgt := 162) (q := 54) dX12_gauss_51 (fun c15 => ?_) (fun c15 => ?_)
    · replace w := w.1 c15
      obtain ⟨x16, ex16⟩ : ∃ y : Int32, y = v_5 + 1 := ⟨_, rfl⟩
      replace w := w x16 ex16
      refine ex_iinc (q := 165) (x := v_5) (v := x16) (ls' := [.ref a_0, .int v_1, .retAddr 0, .retAddr 0, .int v_4, .int x16, .retAddr 0, .retAddr 0]) dX12_gauss_162 rfl (by rw [ex16]; rfl) rfl ?_
      refine ex_goto (tgt := 29) dX12_gauss_165 ?_
      exact w
    · replace w := w.2 c15
      obtain ⟨x17, ex17⟩ : ∃ y : Int32, y = v_4 + 1 := ⟨_, rfl⟩
      replace w := w x17 ex17
      refine ex_iinc (q := 57) (x := v_4) (v := x17) (ls' := [.ref a_0, .int v_1, .retAddr 0, .retAddr 0, .int x17, .int v_5, .retAddr 0, .retAddr 0]) dX12_gauss_54 rfl (by rw [ex17]; rfl) rfl ?_
      refine ex_iload (q := 59) (x := v_5) dX12_gauss_57 rfl ?_
      refine ex_istore (q := 61) (ls' := [.ref a_0, .int v_1, .retAddr 0, .retAddr 0, .int x17, .int v_5, .int v_5, .retAddr 0]) dX12_gauss_59 rfl ?_
      exact w

set_option maxRecDepth 100000 in
theorem X12_gauss_61 {d bc bs : Nat} {h : AH} {Q : Option Value → AH → Prop} {a_0 : Nat} {v_1 : Int32} {v_4 : Int32} {v_5 : Int32} {v_6 : Int32} (w : ah_o h a_0 12 ∧ ∃ a2, ah_r h a_0 10 = some a2 ∧ ld0 h a2 v_6 ∧ ∀ x4, x4 = ah_i h a2 (Int32.toNatClampNeg v_6) → ∃ a5, ah_r h a_0 28 = some a5 ∧ ((¬ (im_ x4 2) = 1 → ex_G mX12_gauss (d + 5) 97 [.ref a_0, .int v_1, .retAddr 0, .retAddr 0, .int v_4, .int v_5, .retAddr 0, .int x4] [.int 0, .int ((x4 / 4) * 4), .int (ah_f h a_0 29), .ref a5] h bc bs Q) ∧ ((im_ x4 2) = 1 → ex_G mX12_gauss (d + 5) 97 [.ref a_0, .int v_1, .retAddr 0, .retAddr 0, .int v_4, .int v_5, .retAddr 0, .int x4] [.int 2, .int ((x4 / 4) * 4), .int (ah_f h a_0 29), .ref a5] h bc bs Q))) : ex_G mX12_gauss (d + 5) 61 [.ref a_0, .int v_1, .retAddr 0, .retAddr 0, .int v_4, .int v_5, .int v_6, .retAddr 0] [] h bc bs Q := by
  refine ex_aload_n (q := 62) (x := a_0) dX12_gauss_61 rfl ?_
  have s1 := w.1
  replace w := w.2
  obtain ⟨a2, ea2, w⟩ := w
  refine ex_getr (q := 65) dX12_gauss_62 fl_X12_36 s1 ea2 ?_
  refine ex_iload (q := 67) (x := v_6) dX12_gauss_65 rfl ?_
  have s3 := w.1
  replace w := w.2
  refine ex_iald (q := 68) dX12_gauss_67 s3 ?_
  refine ex_nmi (fun x4 ex4 => ?_)
  replace w := w x4 ex4
  refine ex_istore (q := 70) (ls' := [.ref a_0, .int v_1, .retAddr 0, .retAddr 0, .int v_4, .int v_5, .int v_6, .int x4]) dX12_gauss_68 rfl ?_
  refine ex_aload_n (q := 71) (x := a_0) dX12_gauss_70 rfl ?_
  obtain ⟨a5, ea5, w⟩ := w
  refine ex_getr (q := 74) dX12_gauss_71 fl_X12_86 s1 ea5 ?_
  refine ex_aload_n (q := 75) (x := a_0) dX12_gauss_74 rfl ?_
  refine ex_getf (q := 78) dX12_gauss_75 fl_X12_281 s1 ?_
  refine ex_iload (q := 80) (x := x4) dX12_gauss_78 rfl ?_
  refine ex_iconst (q := 81) (v := 4) dX12_gauss_80 (by decide) ?_
  refine ex_idiv (q := 82) dX12_gauss_81 (by decide) ?_
  refine ex_iconst (q := 83) (v := 4) dX12_gauss_82 (by decide) ?_
  refine ex_imul (q := 84) dX12_gauss_83 ?_
  refine ex_iload (q := 86) (x := x4) dX12_gauss_84 rfl ?_
  refine ex_iconst (q := 87) (v := 2) dX12_gauss_86 (by decide) ?_
  refine ex_irem (q := 88) dX12_gauss_87 (by decide) ?_
  refine ex_iconst (q := 89) (v := 1) dX12_gauss_88 (by decide) ?_
  refine ex_icmp_ne (tgt := 96) (q := 92) dX12_gauss_89 (fun c6 => ?_) (fun c6 => ?_)
  · replace w := w.1 c6
    refine ex_iconst (q := 97) (v := 0) dX12_gauss_96 (by decide) ?_
    refine ex_kill 6 (ls' := [.ref a_0, .int v_1, .retAddr 0, .retAddr 0, .int v_4, .int v_5, .retAddr 0, .int x4]) rfl ?_
    exact w
  · replace w := w.2 c6
    refine ex_iconst (q := 93) (v := 2) dX12_gauss_92 (by decide) ?_
    refine ex_goto (tgt := 97) dX12_gauss_93 ?_
    refine ex_kill 6 (ls' := [.ref a_0, .int v_1, .retAddr 0, .retAddr 0, .int v_4, .int v_5, .retAddr 0, .int x4]) rfl ?_
    exact w

set_option maxRecDepth 100000 in
theorem X12_gauss_97 {d bc bs : Nat} {h : AH} {Q : Option Value → AH → Prop} {a_0 : Nat} {v_1 : Int32} {v_4 : Int32} {v_5 : Int32} {v_7 : Int32} {u_0 : Int32} {u_1 : Int32} {u_2 : Int32} {b_3 : Nat} (w : ah_o h a_0 12 ∧ ex_S yX12_signAt mX12_signAt (d + 4) [.ref a_0, .int (v_7 / 4)] h 0 0 (fun r h1 => ∃ x3, r = some (.int x3) ∧ ((¬ x3 = 1 → ex_G mX12_gauss (d + 5) 115 [.ref a_0, .int v_1, .retAddr 0, .retAddr 0, .int v_4, .int v_5, .retAddr 0, .int v_7] [.int 0, .int (u_1 + u_0), .int u_2, .ref b_3] h1 bc bs Q) ∧ (x3 = 1 → ex_G mX12_gauss (d + 5) 115 [.ref a_0, .int v_1, .retAddr 0, .retAddr 0, .int v_4, .int v_5, .retAddr 0, .int v_7] [.int 1, .int (u_1 + u_0), .int u_2, .ref b_3] h1 bc bs Q)))) : ex_G mX12_gauss (d + 5) 97 [.ref a_0, .int v_1, .retAddr 0, .retAddr 0, .int v_4, .int v_5, .retAddr 0, .int v_7] [.int u_0, .int u_1, .int u_2, .ref b_3] h bc bs Q := by
  refine ex_iadd (q := 98) dX12_gauss_97 ?_
  refine ex_aload_n (q := 99) (x := a_0) dX12_gauss_98 rfl ?_
  refine ex_iload (q := 101) (x := v_7) dX12_gauss_99 rfl ?_
  refine ex_iconst (q := 102) (v := 4) dX12_gauss_101 (by decide) ?_
  refine ex_idiv (q := 103) dX12_gauss_102 (by decide) ?_
  have s2 := w.1
  replace w := w.2
  refine ex_callV (q := 106) (M := mX12_gauss) (hdd := Nat.le_refl _) (c := 12) (st := [.int (u_1 + u_0), .int u_2, .ref b_3]) (bc := bc) (bs := bs) dX12_gauss_103 rfl cl_X12_232 wd_1687 wd_60 s2 w ?_
  rintro r h1 ⟨x3, rfl, w⟩
  show ex_G mX12_gauss (d + 5) 106 [.ref a_0, .int v_1, .retAddr 0, .retAddr 0, .int v_4, .int v_5, .retAddr 0, .int v_7] [.int x3, .int (u_1 + u_0), .int u_2, .ref b_3] h1 bc bs Q
  refine ex_iconst (q := 107) (v := 1) dX12_gauss_106 (by decide) ?_
  refine ex_icmp_ne (tgt := 114) (q := 110) dX12_gauss_107 (fun c4 => ?_) (fun c4 => ?_)
  · replace w := w.1 c4
    refine ex_iconst (q := 115) (v := 0) dX12_gauss_114 (by decide) ?_
    exact w
  · replace w := w.2 c4
    refine ex_iconst (q := 111) (v := 1) dX12_gauss_110 (by decide) ?_
    refine ex_goto (tgt := 115) dX12_gauss_111 ?_
    exact w

set_option maxRecDepth 100000 in
theorem X12_gauss_115 {d bc bs : Nat} {h : AH} {Q : Option Value → AH → Prop} {a_0 : Nat} {v_1 : Int32} {v_4 : Int32} {v_5 : Int32} {v_7 : Int32} {u_0 : Int32} {u_1 : Int32} {u_2 : Int32} {b_3 : Nat} (w : st0 h b_3 u_2 ∧ ∀ h1, h1 = ah_si h b_3 (Int32.toNatClampNeg u_2) (u_1 + u_0) → ah_o h1 a_0 12 ∧ ∀ h4, h4 = ah_sf h1 a_0 29 ((ah_f h1 a_0 29) + 1) → ∀ x5, x5 = X12_turned_V v_7 2 h4 → ((¬ x5 = v_5 → ex_G mX12_gauss (d + 5) 61 [.ref a_0, .int v_1, .retAddr 0, .retAddr 0, .int v_4, .int v_5, .int x5, .retAddr 0] [] h4 bc bs Q) ∧ (x5 = v_5 → ∃ a7, ah_r h4 a_0 28 = some a7 ∧ st0 h4 a7 (ah_f h4 a_0 29) ∧ ∀ h8, h8 = ah_si h4 a7 (Int32.toNatClampNeg (ah_f h4 a_0 29)) (-1) → ∀ h10, h10 = ah_sf h8 a_0 29 ((ah_f h8 a_0 29) + 1) → ∀ x11, x11 = v_5 + 1 → ex_G mX12_gauss (d + 5) 29 [.ref a_0, .int v_1, .retAddr 0, .retAddr 0, .int v_4, .int x11, .retAddr 0, .retAddr 0] [] h10 bc bs Q))) : ex_G mX12_gauss (d + 5) 115 [.ref a_0, .int v_1, .retAddr 0, .retAddr 0, .int v_4, .int v_5, .retAddr 0, .int v_7] [.int u_0, .int u_1, .int u_2, .ref b_3] h bc bs Q := by
  refine ex_iadd (q := 116) dX12_gauss_115 ?_
  have s2 := w.1
  replace w := w.2
  refine ex_iast (q := 117) dX12_gauss_116 s2 ?_
  refine ex_nmh (fun h1 eh1 => ?_)
  replace w := w h1 eh1
  refine ex_aload_n (q := 118) (x := a_0) dX12_gauss_117 rfl ?_
  refine ex_dup (q := 119) dX12_gauss_118 rfl ?_
  have s3 := w.1
  replace w := w.2
  refine ex_getf (q := 122) dX12_gauss_119 fl_X12_281 s3 ?_
  refine ex_iconst (q := 123) (v := 1) dX12_gauss_122 (by decide) ?_
  refine ex_iadd (q := 124) dX12_gauss_123 ?_
  refine ex_putf (q := 127) dX12_gauss_124 fl_X12_281 (Or.inl rfl) s3 (Or.inl rfl) ?_
  refine ex_nmh (fun h4 eh4 => ?_)
  replace w := w h4 eh4
  refine ex_iload (q := 129) (x := v_7) dX12_gauss_127 rfl ?_
  refine ex_iconst (q := 130) (v := 2) dX12_gauss_129 (by decide) ?_
  refine ex_callS (q := 133) (M := mX12_gauss) (hdd := Nat.le_refl _) (mc := 0) (ms := 0) (d' := (d + 4)) (st := []) (bc := bc) (bs := bs) dX12_gauss_130 rfl cl_X12_209 wd_1658 (X12_turned_s (Q := fun r z => r = some (.int (X12_turned_V v_7 2 h4)) ∧ z = h4) ⟨rfl, rfl⟩) ?_
  intro r z hrz
  rw [hrz.1, hrz.2]
  show ex_G mX12_gauss (d + 5) 133 [.ref a_0, .int v_1, .retAddr 0, .retAddr 0, .int v_4, .int v_5, .retAddr 0, .int v_7] [.int (X12_turned_V v_7 2 h4)] (h4) bc bs Q
  refine ex_nmi (fun x5 ex5 => ?_)
  replace w := w x5 ex5
  refine ex_istore (q := 135) (ls' := [.ref a_0, .int v_1, .retAddr 0, .retAddr 0, .int v_4, .int v_5, .int x5, .int v_7]) dX12_gauss_133 rfl ?_
  refine ex_iload (q := 137) (x := x5) dX12_gauss_135 rfl ?_
  refine ex_iload (q := 139) (x := v_5) dX12_gauss_137 rfl ?_
  refine ex_icmp_ne (tgt := 61) (q := 142) dX12_gauss_139 (fun c6 => ?_) (fun c6 => ?_)
  · replace w := w.1 c6
    refine ex_kill 7 (ls' := [.ref a_0, .int v_1, .retAddr 0, .retAddr 0, .int v_4, .int v_5, .int x5, .retAddr 0]) rfl ?_
    exact w
  · replace w := w.2 c6
    refine ex_aload_n (q := 143) (x := a_0) dX12_gauss_142 rfl ?_
    obtain ⟨a7, ea7, w⟩ := w
    refine ex_getr (q := 146) dX12_gauss_143 fl_X12_86 (by rw [eh4]; exact s3) ea7 ?_
    refine ex_aload_n (q := 147) (x := a_0) dX12_gauss_146 rfl ?_
    refine ex_getf (q := 150) dX12_gauss_147 fl_X12_281 (by rw [eh4]; exact s3) ?_
    refine ex_iconst (q := 151) (v := (-1)) dX12_gauss_150 (by decide) ?_
    have s9 := w.1
    replace w := w.2
    refine ex_iast (q := 152) dX12_gauss_151 s9 ?_
    refine ex_nmh (fun h8 eh8 => ?_)
    replace w := w h8 eh8
    refine ex_aload_n (q := 153) (x := a_0) dX12_gauss_152 rfl ?_
    refine ex_dup (q := 154) dX12_gauss_153 rfl ?_
    refine ex_getf (q := 157) dX12_gauss_154 fl_X12_281 (by rw [eh8]; exact (by rw [eh4]; exact s3)) ?_
    refine ex_iconst (q := 158) (v := 1) dX12_gauss_157 (by decide) ?_
    refine ex_iadd (q := 159) dX12_gauss_158 ?_
    refine ex_putf (q := 162) dX12_gauss_159 fl_X12_281 (Or.inl rfl) (by rw [eh8]; exact (by rw [eh4]; exact s3)) (Or.inl rfl) ?_
    refine ex_nmh (fun h10 eh10 => ?_)
    replace w := w h10 eh10
    obtain ⟨x11, ex11⟩ : ∃ y : Int32, y = v_5 + 1 := ⟨_, rfl⟩
    replace w := w x11 ex11
    refine ex_iinc (q := 165) (x := v_5) (v := x11) (ls' := [.ref a_0, .int v_1, .retAddr 0, .retAddr 0, .int v_4, .int x11, .int x5, .int v_7]) dX12_gauss_162 rfl (by rw [ex11]; rfl) rfl ?_
    refine ex_goto (tgt := 29) dX12_gauss_165 ?_
    refine ex_kill 6 (ls' := [.ref a_0, .int v_1, .retAddr 0, .retAddr 0, .int v_4, .int x11, .retAddr 0, .int v_7]) rfl ?_
    refine ex_kill 7 (ls' := [.ref a_0, .int v_1, .retAddr 0, .retAddr 0, .int v_4, .int x11, .retAddr 0, .retAddr 0]) rfl ?_
    exact w

theorem X12_gauss_e {d bc bs : Nat} {h : AH} {Q : Option Value → AH → Prop} {a_0 : Nat} {v_1 : Int32} (w : ex_G mX12_gauss (d + 5) 0 [.ref a_0, .int v_1, .retAddr 0, .retAddr 0, .retAddr 0, .retAddr 0, .retAddr 0, .retAddr 0] [] h bc bs Q) : ex_S yX12_gauss mX12_gauss (d + 5) [.ref a_0, .int v_1] h bc bs Q :=
  ex_enter (plainFor_of_name (by decide +kernel)) ⟨rfl, rfl⟩ rfl rfl (Nat.le_of_ble_eq_true rfl) (ex_pad 6 w)

set_option maxRecDepth 100000 in
theorem X12_type_0 {d bc bs : Nat} {h : AH} {Q : Option Value → AH → Prop} {a_0 : Nat} {v_1 : Int32} (w : ah_o h a_0 12 ∧ ((¬ (ah_f h a_0 29) = 130 → ∃ a3, ah_r h a_0 28 = some a3 ∧ st0 h a3 (ah_f h a_0 29) ∧ ∀ h4, h4 = ah_si h a3 (Int32.toNatClampNeg (ah_f h a_0 29)) v_1 → ∀ h6, h6 = ah_sf h4 a_0 29 ((ah_f h4 a_0 29) + 1) → X12_well_C a_0 (ah_f h6 a_0 29) h6 ∧ ∀ h8, h8 = X12_well_H a_0 (ah_f h6 a_0 29) h6 → Q (some (.int (X12_well_V a_0 (ah_f h6 a_0 29) h6))) h8) ∧ ((ah_f h a_0 29) = 130 → X12_no_C a_0 (-3) h ∧ ∀ h10, h10 = X12_no_H a_0 (-3) h → Q (some (.int (X12_no_V a_0 (-3) h))) h10))) : ex_G mX12_type (d + 1) 0 [.ref a_0, .int v_1] [] h bc bs Q := by
  refine ex_aload_n (q := 1) (x := a_0) dX12_type_0 rfl ?_
  have s1 := w.1
  replace w := w.2
  refine ex_getf (q := 4) dX12_type_1 fl_X12_281 s1 ?_
  refine ex_sipush (q := 7) (v := 130) dX12_type_4 (by decide) ?_
  refine ex_icmp_ne (tgt := 17) (q := 10) dX12_type_7 (fun c2 => ?_) (fun c2 => ?_)
  · replace w := w.1 c2
    refine ex_aload_n (q := 18) (x := a_0) dX12_type_17 rfl ?_
    obtain ⟨a3, ea3, w⟩ := w
    refine ex_getr (q := 21) dX12_type_18 fl_X12_86 s1 ea3 ?_
    refine ex_aload_n (q := 22) (x := a_0) dX12_type_21 rfl ?_
    refine ex_getf (q := 25) dX12_type_22 fl_X12_281 s1 ?_
    refine ex_iload_n (q := 26) (x := v_1) dX12_type_25 rfl ?_
    have s5 := w.1
    replace w := w.2
    refine ex_iast (q := 27) dX12_type_26 s5 ?_
    refine ex_nmh (fun h4 eh4 => ?_)
    replace w := w h4 eh4
    refine ex_aload_n (q := 28) (x := a_0) dX12_type_27 rfl ?_
    refine ex_dup (q := 29) dX12_type_28 rfl ?_
    refine ex_getf (q := 32) dX12_type_29 fl_X12_281 (by rw [eh4]; exact s1) ?_
    refine ex_iconst (q := 33) (v := 1) dX12_type_32 (by decide) ?_
    refine ex_iadd (q := 34) dX12_type_33 ?_
    refine ex_putf (q := 37) dX12_type_34 fl_X12_281 (Or.inl rfl) (by rw [eh4]; exact s1) (Or.inl rfl) ?_
    refine ex_nmh (fun h6 eh6 => ?_)
    replace w := w h6 eh6
    refine ex_aload_n (q := 38) (x := a_0) dX12_type_37 rfl ?_
    refine ex_aload_n (q := 39) (x := a_0) dX12_type_38 rfl ?_
    refine ex_getf (q := 42) dX12_type_39 fl_X12_281 (by rw [eh6]; exact (by rw [eh4]; exact s1)) ?_
    have s7 := w.1
    replace w := w.2
    refine ex_callV (q := 45) (M := mX12_type) (hdd := Nat.le_refl _) (mc := 0) (ms := 0) (d' := d) (c := 12) (st := []) (bc := bc) (bs := bs) dX12_type_42 rfl cl_X12_180 wd_1585 wd_47 (by rw [eh6]; exact (by rw [eh4]; exact s1)) (X12_well_s (Q := fun r z => r = some (.int (X12_well_V a_0 (ah_f h6 a_0 29) h6)) ∧ z = X12_well_H a_0 (ah_f h6 a_0 29) h6) s7 ⟨rfl, rfl⟩) ?_
    intro r z hrz
    rw [hrz.1, hrz.2]
    show ex_G mX12_type (d + 1) 45 [.ref a_0, .int v_1] [.int (X12_well_V a_0 (ah_f h6 a_0 29) h6)] (X12_well_H a_0 (ah_f h6 a_0 29) h6) bc bs Q
    refine ex_nmh (fun h8 eh8 => ?_)
    replace w := w h8 eh8
    exact ex_ireturn dX12_type_45 rfl (Or.inl rfl) w
  · replace w := w.2 c2
    refine ex_aload_n (q := 11) (x := a_0) dX12_type_10 rfl ?_
    refine ex_bipush (q := 13) (v := (-3)) dX12_type_11 (by decide) ?_
    have s9 := w.1
    replace w := w.2
    refine ex_callV (q := 16) (M := mX12_type) (hdd := Nat.le_refl _) (mc := 0) (ms := 0) (d' := d) (c := 12) (st := []) (bc := bc) (bs := bs) dX12_type_13 rfl cl_X12_165 wd_1581 wd_46 s1 (X12_no_s (Q := fun r z => r = some (.int (X12_no_V a_0 (-3) h)) ∧ z = X12_no_H a_0 (-3) h) s9 ⟨rfl, rfl⟩) ?_
    intro r z hrz
    rw [hrz.1, hrz.2]
    show ex_G mX12_type (d + 1) 16 [.ref a_0, .int v_1] [.int (X12_no_V a_0 (-3) h)] (X12_no_H a_0 (-3) h) bc bs Q
    refine ex_nmh (fun h10 eh10 => ?_)
    replace w := w h10 eh10
    exact ex_ireturn dX12_type_16 rfl (Or.inl rfl) w

theorem X12_type_e {d bc bs : Nat} {h : AH} {Q : Option Value → AH → Prop} {a_0 : Nat} {v_1 : Int32} (w : ex_G mX12_type (d + 1) 0 [.ref a_0, .int v_1] [] h bc bs Q) : ex_S yX12_type mX12_type (d + 1) [.ref a_0, .int v_1] h bc bs Q :=
  ex_enter (plainFor_of_name (by decide +kernel)) ⟨rfl, rfl⟩ rfl rfl (Nat.le_of_ble_eq_true rfl) (ex_pad 0 w)

set_option maxRecDepth 100000 in
theorem X12_passes_0 {d bc bs : Nat} {h : AH} {Q : Option Value → AH → Prop} {a_0 : Nat} (w : ah_o h a_0 12 ∧ ∀ x2, x2 = (ah_f h a_0 29) - 1 → ((x2 < 0 → Q (some (.int (-1))) h) ∧ (¬ x2 < 0 → ∃ a4, ah_r h a_0 28 = some a4 ∧ ld0 h a4 x2 ∧ (((X12_in_V (Int32.toInt64 (ah_i h a4 (Int32.toNatClampNeg x2))) (-11) (-2) h) = 0 → Q (some (.int (-1))) h) ∧ (¬ (X12_in_V (Int32.toInt64 (ah_i h a4 (Int32.toNatClampNeg x2))) (-11) (-2) h) = 0 → ((x2 ≤ 0 → ex_G mX12_passes (d + 1) 50 [.ref a_0, .int x2, .int 0, .retAddr 0, .retAddr 0, .retAddr 0] [] h bc bs Q) ∧ (¬ x2 ≤ 0 → ld0 h a4 (x2 - 1) ∧ (((ah_i h a4 (Int32.toNatClampNeg (x2 - 1))) = (-1) → ex_G mX12_passes (d + 1) 50 [.ref a_0, .int x2, .int 0, .retAddr 0, .retAddr 0, .retAddr 0] [] h bc bs Q) ∧ (¬ (ah_i h a4 (Int32.toNatClampNeg (x2 - 1))) = (-1) → Q (some (.int (-1))) h))))))))) : ex_G mX12_passes (d + 1) 0 [.ref a_0, .retAddr 0, .retAddr 0, .retAddr 0, .retAddr 0, .retAddr 0] [] h bc bs Q := by
  refine ex_aload_n (q := 1) (x := a_0) dX12_passes_0 rfl ?_
  have s1 := w.1
  replace w := w.2
  refine ex_getf (q := 4) dX12_passes_1 fl_X12_281 s1 ?_
  refine ex_iconst (q := 5) (v := 1) dX12_passes_4 (by decide) ?_
  refine ex_isub (q := 6) dX12_passes_5 ?_
  refine ex_nmi (fun x2 ex2 => ?_)
  replace w := w x2 ex2
  refine ex_istore_n (q := 7) (ls' := [.ref a_0, .int x2, .retAddr 0, .retAddr 0, .retAddr 0, .retAddr 0]) dX12_passes_6 rfl ?_
  refine ex_iload_n (q := 8) (x := x2) dX12_passes_7 rfl ?_
  refine ex_if_lt (tgt := 46) (q := 11) dX12_passes_8 (fun c3 => ?_) (fun c3 => ?_)
  · replace w := w.1 c3
    refine ex_iconst (q := 47) (v := (-1)) dX12_passes_46 (by decide) ?_
    exact ex_ireturn dX12_passes_47 rfl (Or.inl rfl) w
  · replace w := w.2 c3
    refine ex_aload_n (q := 12) (x := a_0) dX12_passes_11 rfl ?_
    obtain ⟨a4, ea4, w⟩ := w
    refine ex_getr (q := 15) dX12_passes_12 fl_X12_86 s1 ea4 ?_
    refine ex_iload_n (q := 16) (x := x2) dX12_passes_15 rfl ?_
    have s5 := w.1
    replace w := w.2
    refine ex_iald (q := 17) dX12_passes_16 s5 ?_
    refine ex_i2l (q := 18) dX12_passes_17 ?_
    refine ex_ldc2_w (q := 21) (v := (-11)) dX12_passes_18 wd_1787 ?_
    refine ex_ldc2_w (q := 24) (v := (-2)) dX12_passes_21 wd_1788 ?_
    refine ex_callS (q := 27) (M := mX12_passes) (hdd := Nat.le_refl _) (mc := 0) (ms := 0) (d' := d) (st := []) (bc := bc) (bs := bs) dX12_passes_24 rfl cl_X12_172 wd_1596 (X12_in_s (Q := fun r z => r = some (.int (X12_in_V (Int32.toInt64 (ah_i h a4 (Int32.toNatClampNeg x2))) (-11) (-2) h)) ∧ z = h) ⟨rfl, rfl⟩) ?_
    intro r z hrz
    rw [hrz.1, hrz.2]
    show ex_G mX12_passes (d + 1) 27 [.ref a_0, .int x2, .retAddr 0, .retAddr 0, .retAddr 0, .retAddr 0] [.int (X12_in_V (Int32.toInt64 (ah_i h a4 (Int32.toNatClampNeg x2))) (-11) (-2) h)] (h) bc bs Q
    refine ex_if_eq (tgt := 46) (q := 30) dX12_passes_27 (fun c6 => ?_) (fun c6 => ?_)
    · replace w := w.1 c6
      refine ex_iconst (q := 47) (v := (-1)) dX12_passes_46 (by decide) ?_
      exact ex_ireturn dX12_passes_47 rfl (Or.inl rfl) w
    · replace w := w.2 c6
      refine ex_iload_n (q := 31) (x := x2) dX12_passes_30 rfl ?_
      refine ex_if_le (tgt := 48) (q := 34) dX12_passes_31 (fun c7 => ?_) (fun c7 => ?_)
      · replace w := w.1 c7
        refine ex_iconst (q := 49) (v := 0) dX12_passes_48 (by decide) ?_
        refine ex_istore_n (q := 50) (ls' := [.ref a_0, .int x2, .int 0, .retAddr 0, .retAddr 0, .retAddr 0]) dX12_passes_49 rfl ?_
        exact w
      · replace w := w.2 c7
        refine ex_aload_n (q := 35) (x := a_0) dX12_passes_34 rfl ?_
        refine ex_getr (q := 38) dX12_passes_35 fl_X12_86 s1 ea4 ?_
        refine ex_iload_n (q := 39) (x := x2) dX12_passes_38 rfl ?_
        refine ex_iconst (q := 40) (v := 1) dX12_passes_39 (by decide) ?_
        refine ex_isub (q := 41) dX12_passes_40 ?_
        have s8 := w.1
        replace w := w.2
        refine ex_iald (q := 42) dX12_passes_41 s8 ?_
        refine ex_iconst (q := 43) (v := (-1)) dX12_passes_42 (by decide) ?_
        refine ex_icmp_eq (tgt := 48) (q := 46) dX12_passes_43 (fun c9 => ?_) (fun c9 => ?_)
        · replace w := w.1 c9
          refine ex_iconst (q := 49) (v := 0) dX12_passes_48 (by decide) ?_
          refine ex_istore_n (q := 50) (ls' := [.ref a_0, .int x2, .int 0, .retAddr 0, .retAddr 0, .retAddr 0]) dX12_passes_49 rfl ?_
          exact w
        · replace w := w.2 c9
          refine ex_iconst (q := 47) (v := (-1)) dX12_passes_46 (by decide) ?_
          exact ex_ireturn dX12_passes_47 rfl (Or.inl rfl) w

set_option maxRecDepth 100000 in
theorem X12_passes_50 {d bc bs : Nat} {h : AH} {Q : Option Value → AH → Prop} {a_0 : Nat} {v_1 : Int32} {v_2 : Int32} (w : ((40 ≤ v_2 → ex_G mX12_passes (d + 1) 83 [.ref a_0, .int v_1, .int 0, .int 0, .int 0, .retAddr 0] [] h bc bs Q) ∧ (¬ 40 ≤ v_2 → ah_o h a_0 12 ∧ ∃ a3, ah_r h a_0 30 = some a3 ∧ st0 h a3 v_2 ∧ ∀ h4, h4 = ah_si h a3 (Int32.toNatClampNeg v_2) (-1) → ∃ a6, ah_r h4 a_0 31 = some a6 ∧ st0 h4 a6 v_2 ∧ ∀ h7, h7 = ah_si h4 a6 (Int32.toNatClampNeg v_2) (-1) → ∀ x9, x9 = v_2 + 1 → ex_G mX12_passes (d + 1) 50 [.ref a_0, .int v_1, .int x9, .retAddr 0, .retAddr 0, .retAddr 0] [] h7 bc bs Q))) : ex_G mX12_passes (d + 1) 50 [.ref a_0, .int v_1, .int v_2, .retAddr 0, .retAddr 0, .retAddr 0] [] h bc bs Q := by
  refine ex_iload_n (q := 51) (x := v_2) dX12_passes_50 rfl ?_
  refine ex_bipush (q := 53) (v := 40) dX12_passes_51 (by decide) ?_
  refine ex_icmp_ge (tgt := 76) (q := 56) dX12_passes_53 (fun c1 => ?_) (fun c1 => ?_)
  · replace w := w.1 c1
    refine ex_iconst (q := 77) (v := 0) dX12_passes_76 (by decide) ?_
    refine ex_istore_n (q := 78) (ls' := [.ref a_0, .int v_1, .int 0, .retAddr 0, .retAddr 0, .retAddr 0]) dX12_passes_77 rfl ?_
    refine ex_iconst (q := 79) (v := 0) dX12_passes_78 (by decide) ?_
    refine ex_istore_n (q := 80) (ls' := [.ref a_0, .int v_1, .int 0, .int 0, .retAddr 0, .retAddr 0]) dX12_passes_79 rfl ?_
    refine ex_iconst (q := 81) (v := 0) dX12_passes_80 (by decide) ?_
    refine ex_istore (q := 83) (ls' := [.ref a_0, .int v_1, .int 0, .int 0, .int 0, .retAddr 0]) dX12_passes_81 rfl ?_
    exact w
  · replace w := w.2 c1
    refine ex_aload_n (q := 57) (x := a_0) dX12_passes_56 rfl ?_
    have s2 := w.1
    replace w := w.2
    obtain ⟨a3, ea3, w⟩ := w
    refine ex_getr (q := 60) dX12_passes_57 fl_X12_89 s2 ea3 ?_
    refine ex_iload_n (q := 61) (x := v_2) dX12_passes_60 rfl ?_
    refine ex_iconst (q := 62) (v := (-1)) dX12_passes_61 (by decide) ?_
    have s5 := w.1
    replace w := w.2
    refine ex_iast (q := 63) dX12_passes_62 s5 ?_
    refine ex_nmh (fun h4 eh4 => ?_)
    replace w := w h4 eh4
    refine ex_aload_n (q := 64) (x := a_0) dX12_passes_63 rfl ?_
    obtain ⟨a6, ea6, w⟩ := w
    refine ex_getr (q := 67) dX12_passes_64 fl_X12_92 (by rw [eh4]; exact s2) ea6 ?_
    refine ex_iload_n (q := 68) (x := v_2) dX12_passes_67 rfl ?_
    refine ex_iconst (q := 69) (v := (-1)) dX12_passes_68 (by decide) ?_
    have s8 := w.1
    replace w := w.2
    refine ex_iast (q := 70) dX12_passes_69 s8 ?_
    refine ex_nmh (fun h7 eh7 => ?_)
    replace w := w h7 eh7
    obtain ⟨x9, ex9⟩ : ∃ y : Int32, y = v_2 + 1 := ⟨_, rfl⟩
    replace w := w x9 ex9
    refine ex_iinc (q := 73) (x := v_2) (v := x9) (ls' := [.ref a_0, .int v_1, .int x9, .retAddr 0, .retAddr 0, .retAddr 0]) dX12_passes_70 rfl (by rw [ex9]; rfl) rfl ?_
    refine ex_goto (tgt := 50) dX12_passes_73 ?_
    exact w

set_option maxRecDepth 100000 in
theorem X12_passes_83 {d bc bs : Nat} {h : AH} {Q : Option Value → AH → Prop} {a_0 : Nat} {v_1 : Int32} {v_2 : Int32} {v_3 : Int32} {v_4 : Int32} (w : ((v_1 ≤ v_4 → Q (some (.int v_2)) h) ∧ (¬ v_1 ≤ v_4 → ah_o h a_0 12 ∧ ∃ a3, ah_r h a_0 28 = some a3 ∧ ld0 h a3 v_4 ∧ ∀ x5, x5 = ah_i h a3 (Int32.toNatClampNeg v_4) → ((¬ x5 = (-1) → ex_G mX12_passes (d + 1) 123 [.ref a_0, .int v_1, .int v_2, .int v_3, .int v_4, .int x5] [] h bc bs Q) ∧ (x5 = (-1) → ((v_2 ≤ v_3 → ex_G mX12_passes (d + 1) 123 [.ref a_0, .int v_1, .int v_2, .int v_3, .int v_4, .int x5] [] h bc bs Q) ∧ (¬ v_2 ≤ v_3 → ∃ a8, ah_r h a_0 32 = some a8 ∧ st0 h a8 v_3 ∧ ∀ h9, h9 = ah_si h a8 (Int32.toNatClampNeg v_3) (v_2 - 1) → ∀ x11, x11 = v_4 + 1 → ex_G mX12_passes (d + 1) 83 [.ref a_0, .int v_1, .int v_2, .int v_2, .int x11, .retAddr 0] [] h9 bc bs Q))))))) : ex_G mX12_passes (d + 1) 83 [.ref a_0, .int v_1, .int v_2, .int v_3, .int v_4, .retAddr 0] [] h bc bs Q := by
  refine ex_iload (q := 85) (x := v_4) dX12_passes_83 rfl ?_
  refine ex_iload_n (q := 86) (x := v_1) dX12_passes_85 rfl ?_
  refine ex_icmp_ge (tgt := 214) (q := 89) dX12_passes_86 (fun c1 => ?_) (fun c1 => ?_)
  · replace w := w.1 c1
    refine ex_iload_n (q := 215) (x := v_2) dX12_passes_214 rfl ?_
    exact ex_ireturn dX12_passes_215 rfl (Or.inl rfl) w
  · replace w := w.2 c1
    refine ex_aload_n (q := 90) (x := a_0) dX12_passes_89 rfl ?_
    have s2 := w.1
    replace w := w.2
    obtain ⟨a3, ea3, w⟩ := w
    refine ex_getr (q := 93) dX12_passes_90 fl_X12_86 s2 ea3 ?_
    refine ex_iload (q := 95) (x := v_4) dX12_passes_93 rfl ?_
    have s4 := w.1
    replace w := w.2
    refine ex_iald (q := 96) dX12_passes_95 s4 ?_
    refine ex_nmi (fun x5 ex5 => ?_)
    replace w := w x5 ex5
    refine ex_istore (q := 98) (ls' := [.ref a_0, .int v_1, .int v_2, .int v_3, .int v_4, .int x5]) dX12_passes_96 rfl ?_
    refine ex_iload (q := 100) (x := x5) dX12_passes_98 rfl ?_
    refine ex_iconst (q := 101) (v := (-1)) dX12_passes_100 (by decide) ?_
    refine ex_icmp_ne (tgt := 123) (q := 104) dX12_passes_101 (fun c6 => ?_) (fun c6 => ?_)
    · replace w := w.1 c6
      exact w
    · replace w := w.2 c6
      refine ex_iload_n (q := 105) (x := v_2) dX12_passes_104 rfl ?_
      refine ex_iload_n (q := 106) (x := v_3) dX12_passes_105 rfl ?_
      refine ex_icmp_le (tgt := 123) (q := 109) dX12_passes_106 (fun c7 => ?_) (fun c7 => ?_)
      · replace w := w.1 c7
        exact w
      · replace w := w.2 c7
        refine ex_aload_n (q := 110) (x := a_0) dX12_passes_109 rfl ?_
        obtain ⟨a8, ea8, w⟩ := w
        refine ex_getr (q := 113) dX12_passes_110 fl_X12_95 s2 ea8 ?_
        refine ex_iload_n (q := 114) (x := v_3) dX12_passes_113 rfl ?_
        refine ex_iload_n (q := 115) (x := v_2) dX12_passes_114 rfl ?_
        refine ex_iconst (q := 116) (v := 1) dX12_passes_115 (by decide) ?_
        refine ex_isub (q := 117) dX12_passes_116 ?_
        have s10 := w.1
        replace w := w.2
        refine ex_iast (q := 118) dX12_passes_117 s10 ?_
        refine ex_nmh (fun h9 eh9 => ?_)
        replace w := w h9 eh9
        refine ex_iload_n (q := 119) (x := v_2) dX12_passes_118 rfl ?_
        refine ex_istore_n (q := 120) (ls' := [.ref a_0, .int v_1, .int v_2, .int v_2, .int v_4, .int x5]) dX12_passes_119 rfl ?_
        refine ex_goto (tgt := 208) dX12_passes_120 ?_
        obtain ⟨x11, ex11⟩ : ∃ y : Int32, y = v_4 + 1 := ⟨_, rfl⟩
        replace w := w x11 ex11
        refine ex_iinc (q := 211) (x := v_4) (v := x11) (ls' := [.ref a_0, .int v_1, .int v_2, .int v_2, .int x11, .int x5]) dX12_passes_208 rfl (by rw [ex11]; rfl) rfl ?_
        refine ex_goto (tgt := 83) dX12_passes_211 ?_
        refine ex_kill 5 (ls' := [.ref a_0, .int v_1, .int v_2, .int v_2, .int x11, .retAddr 0]) rfl ?_
        exact w

set_option maxRecDepth 100000 in
theorem X12_passes_123 {d bc bs : Nat} {h : AH} {Q : Option Value → AH → Prop} {a_0 : Nat} {v_1 : Int32} {v_2 : Int32} {v_3 : Int32} {v_4 : Int32} {v_5 : Int32} (w : (((X12_in_V (Int32.toInt64 v_5) 0 159 h) = 0 → Q (some (.int (-1))) h) ∧ (¬ (X12_in_V (Int32.toInt64 v_5) 0 159 h) = 0 → ((¬ (v_5 &&& 2) = 0 → ah_o h a_0 12 ∧ ∃ a4, ah_r h a_0 31 = some a4 ∧ ex_G mX12_passes (d + 1) 154 [.ref a_0, .int v_1, .int v_2, .int v_3, .int v_4, .int v_5] [.ref a4] h bc bs Q) ∧ ((v_5 &&& 2) = 0 → ah_o h a_0 12 ∧ ∃ a6, ah_r h a_0 30 = some a6 ∧ ex_G mX12_passes (d + 1) 154 [.ref a_0, .int v_1, .int v_2, .int v_3, .int v_4, .int v_5] [.ref a6] h bc bs Q))))) : ex_G mX12_passes (d + 1) 123 [.ref a_0, .int v_1, .int v_2, .int v_3, .int v_4, .int v_5] [] h bc bs Q := by
  refine ex_iload (q := 125) (x := v_5) dX12_passes_123 rfl ?_
  refine ex_i2l (q := 126) dX12_passes_125 ?_
  refine ex_lconst (q := 127) (v := 0) dX12_passes_126 (by decide) ?_
  refine ex_ldc2_w (q := 130) (v := 159) dX12_passes_127 wd_1789 ?_
  refine ex_callS (q := 133) (M := mX12_passes) (hdd := Nat.le_refl _) (mc := 0) (ms := 0) (d' := d) (st := []) (bc := bc) (bs := bs) dX12_passes_130 rfl cl_X12_172 wd_1596 (X12_in_s (Q := fun r z => r = some (.int (X12_in_V (Int32.toInt64 v_5) 0 159 h)) ∧ z = h) ⟨rfl, rfl⟩) ?_
  intro r z hrz
  rw [hrz.1, hrz.2]
  show ex_G mX12_passes (d + 1) 133 [.ref a_0, .int v_1, .int v_2, .int v_3, .int v_4, .int v_5] [.int (X12_in_V (Int32.toInt64 v_5) 0 159 h)] (h) bc bs Q
  refine ex_if_eq (tgt := 163) (q := 136) dX12_passes_133 (fun c1 => ?_) (fun c1 => ?_)
  · replace w := w.1 c1
    refine ex_iconst (q := 164) (v := (-1)) dX12_passes_163 (by decide) ?_
    exact ex_ireturn dX12_passes_164 rfl (Or.inl rfl) w
  · replace w := w.2 c1
    refine ex_iload (q := 138) (x := v_5) dX12_passes_136 rfl ?_
    refine ex_iconst (q := 139) (v := 2) dX12_passes_138 (by decide) ?_
    refine ex_iand (q := 140) dX12_passes_139 ?_
    refine ex_if_ne (tgt := 150) (q := 143) dX12_passes_140 (fun c2 => ?_) (fun c2 => ?_)
    · replace w := w.1 c2
      refine ex_aload_n (q := 151) (x := a_0) dX12_passes_150 rfl ?_
      have s3 := w.1
      replace w := w.2
      obtain ⟨a4, ea4, w⟩ := w
      refine ex_getr (q := 154) dX12_passes_151 fl_X12_92 s3 ea4 ?_
      exact w
    · replace w := w.2 c2
      refine ex_aload_n (q := 144) (x := a_0) dX12_passes_143 rfl ?_
      have s5 := w.1
      replace w := w.2
      obtain ⟨a6, ea6, w⟩ := w
      refine ex_getr (q := 147) dX12_passes_144 fl_X12_89 s5 ea6 ?_
      refine ex_goto (tgt := 154) dX12_passes_147 ?_
      exact w

set_option maxRecDepth 100000 in
theorem X12_passes_154 {d bc bs : Nat} {h : AH} {Q : Option Value → AH → Prop} {a_0 : Nat} {v_1 : Int32} {v_2 : Int32} {v_3 : Int32} {v_4 : Int32} {v_5 : Int32} {b_0 : Nat} (w : ld0 h b_0 (v_5 / 4) ∧ (((ah_i h b_0 (Int32.toNatClampNeg (v_5 / 4))) = (-1) → ((¬ (v_5 &&& 2) = 0 → ah_o h a_0 12 ∧ ∃ a5, ah_r h a_0 31 = some a5 ∧ ex_G mX12_passes (d + 1) 183 [.ref a_0, .int v_1, .int v_2, .int v_3, .int v_4, .int v_5] [.ref a5] h bc bs Q) ∧ ((v_5 &&& 2) = 0 → ah_o h a_0 12 ∧ ∃ a7, ah_r h a_0 30 = some a7 ∧ ex_G mX12_passes (d + 1) 183 [.ref a_0, .int v_1, .int v_2, .int v_3, .int v_4, .int v_5] [.ref a7] h bc bs Q))) ∧ (¬ (ah_i h b_0 (Int32.toNatClampNeg (v_5 / 4))) = (-1) → Q (some (.int (-1))) h))) : ex_G mX12_passes (d + 1) 154 [.ref a_0, .int v_1, .int v_2, .int v_3, .int v_4, .int v_5] [.ref b_0] h bc bs Q := by
  refine ex_iload (q := 156) (x := v_5) dX12_passes_154 rfl ?_
  refine ex_iconst (q := 157) (v := 4) dX12_passes_156 (by decide) ?_
  refine ex_idiv (q := 158) dX12_passes_157 (by decide) ?_
  have s1 := w.1
  replace w := w.2
  refine ex_iald (q := 159) dX12_passes_158 s1 ?_
  refine ex_iconst (q := 160) (v := (-1)) dX12_passes_159 (by decide) ?_
  refine ex_icmp_eq (tgt := 165) (q := 163) dX12_passes_160 (fun c2 => ?_) (fun c2 => ?_)
  · replace w := w.1 c2
    refine ex_iload (q := 167) (x := v_5) dX12_passes_165 rfl ?_
    refine ex_iconst (q := 168) (v := 2) dX12_passes_167 (by decide) ?_
    refine ex_iand (q := 169) dX12_passes_168 ?_
    refine ex_if_ne (tgt := 179) (q := 172) dX12_passes_169 (fun c3 => ?_) (fun c3 => ?_)
    · replace w := w.1 c3
      refine ex_aload_n (q := 180) (x := a_0) dX12_passes_179 rfl ?_
      have s4 := w.1
      replace w := w.2
      obtain ⟨a5, ea5, w⟩ := w
      refine ex_getr (q := 183) dX12_passes_180 fl_X12_92 s4 ea5 ?_
      exact w
    · replace w := w.2 c3
      refine ex_aload_n (q := 173) (x := a_0) dX12_passes_172 rfl ?_
      have s6 := w.1
      replace w := w.2
      obtain ⟨a7, ea7, w⟩ := w
      refine ex_getr (q := 176) dX12_passes_173 fl_X12_89 s6 ea7 ?_
      refine ex_goto (tgt := 183) dX12_passes_176 ?_
      exact w
  · replace w := w.2 c2
    refine ex_iconst (q := 164) (v := (-1)) dX12_passes_163 (by decide) ?_
    exact ex_ireturn dX12_passes_164 rfl (Or.inl rfl) w

set_option maxRecDepth 100000 in
theorem X12_passes_183 {d bc bs : Nat} {h : AH} {Q : Option Value → AH → Prop} {a_0 : Nat} {v_1 : Int32} {v_2 : Int32} {v_3 : Int32} {v_4 : Int32} {v_5 : Int32} {b_0 : Nat} (w : st0 h b_0 (v_5 / 4) ∧ ∀ h1, h1 = ah_si h b_0 (Int32.toNatClampNeg (v_5 / 4)) ((2 * v_2) + (v_5 &&& 1)) → ah_o h1 a_0 12 ∧ ∃ a4, ah_r h1 a_0 32 = some a4 ∧ st0 h1 a4 v_2 ∧ ∀ h5, h5 = ah_si h1 a4 (Int32.toNatClampNeg v_2) (v_2 - 1) → ∀ x7, x7 = v_2 + 1 → ∀ x8, x8 = v_4 + 1 → ex_G mX12_passes (d + 1) 83 [.ref a_0, .int v_1, .int x7, .int v_3, .int x8, .retAddr 0] [] h5 bc bs Q) : ex_G mX12_passes (d + 1) 183 [.ref a_0, .int v_1, .int v_2, .int v_3, .int v_4, .int v_5] [.ref b_0] h bc bs Q := by
  refine ex_iload (q := 185) (x := v_5) dX12_passes_183 rfl ?_
  refine ex_iconst (q := 186) (v := 4) dX12_passes_185 (by decide) ?_
  refine ex_idiv (q := 187) dX12_passes_186 (by decide) ?_
  refine ex_iconst (q := 188) (v := 2) dX12_passes_187 (by decide) ?_
  refine ex_iload_n (q := 189) (x := v_2) dX12_passes_188 rfl ?_
  refine ex_imul (q := 190) dX12_passes_189 ?_
  refine ex_iload (q := 192) (x := v_5) dX12_passes_190 rfl ?_
  refine ex_iconst (q := 193) (v := 1) dX12_passes_192 (by decide) ?_
  refine ex_iand (q := 194) dX12_passes_193 ?_
  refine ex_iadd (q := 195) dX12_passes_194 ?_
  have s2 := w.1
  replace w := w.2
  refine ex_iast (q := 196) dX12_passes_195 s2 ?_
  refine ex_nmh (fun h1 eh1 => ?_)
  replace w := w h1 eh1
  refine ex_aload_n (q := 197) (x := a_0) dX12_passes_196 rfl ?_
  have s3 := w.1
  replace w := w.2
  obtain ⟨a4, ea4, w⟩ := w
  refine ex_getr (q := 200) dX12_passes_197 fl_X12_95 s3 ea4 ?_
  refine ex_iload_n (q := 201) (x := v_2) dX12_passes_200 rfl ?_
  refine ex_iload_n (q := 202) (x := v_2) dX12_passes_201 rfl ?_
  refine ex_iconst (q := 203) (v := 1) dX12_passes_202 (by decide) ?_
  refine ex_isub (q := 204) dX12_passes_203 ?_
  have s6 := w.1
  replace w := w.2
  refine ex_iast (q := 205) dX12_passes_204 s6 ?_
  refine ex_nmh (fun h5 eh5 => ?_)
  replace w := w h5 eh5
  obtain ⟨x7, ex7⟩ : ∃ y : Int32, y = v_2 + 1 := ⟨_, rfl⟩
  replace w := w x7 ex7
  refine ex_iinc (q := 208) (x := v_2) (v := x7) (ls' := [.ref a_0, .int v_1, .int x7, .int v_3, .int v_4, .int v_5]) dX12_passes_205 rfl (by rw [ex7]; rfl) rfl ?_
  obtain ⟨x8, ex8⟩ : ∃ y : Int32, y = v_4 + 1 := ⟨_, rfl⟩
  replace w := w x8 ex8
  refine ex_iinc (q := 211) (x := v_4) (v := x8) (ls' := [.ref a_0, .int v_1, .int x7, .int v_3, .int x8, .int v_5]) dX12_passes_208 rfl (by rw [ex8]; rfl) rfl ?_
  refine ex_goto (tgt := 83) dX12_passes_211 ?_
  refine ex_kill 5 (ls' := [.ref a_0, .int v_1, .int x7, .int v_3, .int x8, .retAddr 0]) rfl ?_
  exact w

theorem X12_passes_e {d bc bs : Nat} {h : AH} {Q : Option Value → AH → Prop} {a_0 : Nat} (w : ex_G mX12_passes (d + 1) 0 [.ref a_0, .retAddr 0, .retAddr 0, .retAddr 0, .retAddr 0, .retAddr 0] [] h bc bs Q) : ex_S yX12_passes mX12_passes (d + 1) [.ref a_0] h bc bs Q :=
  ex_enter (plainFor_of_name (by decide +kernel)) ⟨rfl, rfl⟩ rfl rfl (Nat.le_of_ble_eq_true rfl) (ex_pad 5 w)

set_option maxRecDepth 100000 in
theorem X12_readsGauss_0 {d bc bs : Nat} {h : AH} {Q : Option Value → AH → Prop} {a_0 : Nat} (w : ah_o h a_0 12 ∧ ex_S yX12_passes mX12_passes (d + 3) [.ref a_0] h 0 0 (fun r h1 => ∃ x3, r = some (.int x3) ∧ ((x3 < 0 → Q (some (.int 0)) h1) ∧ (¬ x3 < 0 → ((¬ (im_ x3 2) = 1 → ah_o h1 a_0 12 ∧ ∃ a7, ah_r h1 a_0 2 = some a7 ∧ st0 h1 a7 364 ∧ ∀ h8, h8 = ah_si h1 a7 (Int32.toNatClampNeg 364) 0 → ∃ a10, ah_r h8 a_0 3 = some a10 ∧ ∃ a11, ah_r h8 a_0 28 = some a11 ∧ ld0 h8 a11 ((ah_f h8 a_0 29) - 1) ∧ st0 h8 a10 364 ∧ ∀ h13, h13 = ah_si h8 a10 (Int32.toNatClampNeg 364) ((-2) - (ah_i h8 a11 (Int32.toNatClampNeg ((ah_f h8 a_0 29) - 1)))) → ex_G mX12_readsGauss (d + 4) 51 [.ref a_0, .int x3, .int 0, .retAddr 0, .retAddr 0] [] h13 bc bs Q) ∧ ((im_ x3 2) = 1 → Q (some (.int 0)) h1)))))) : ex_G mX12_readsGauss (d + 4) 0 [.ref a_0, .retAddr 0, .retAddr 0, .retAddr 0, .retAddr 0] [] h bc bs Q := by
  refine ex_aload_n (q := 1) (x := a_0) dX12_readsGauss_0 rfl ?_
  have s2 := w.1
  replace w := w.2
  refine ex_callV (q := 4) (M := mX12_readsGauss) (hdd := Nat.le_refl _) (c := 12) (st := []) (bc := bc) (bs := bs) dX12_readsGauss_1 rfl cl_X12_290 wd_1785 wd_69 s2 w ?_
  rintro r h1 ⟨x3, rfl, w⟩
  show ex_G mX12_readsGauss (d + 4) 4 [.ref a_0, .retAddr 0, .retAddr 0, .retAddr 0, .retAddr 0] [.int x3] h1 bc bs Q
  refine ex_istore_n (q := 5) (ls' := [.ref a_0, .int x3, .retAddr 0, .retAddr 0, .retAddr 0]) dX12_readsGauss_4 rfl ?_
  refine ex_iload_n (q := 6) (x := x3) dX12_readsGauss_5 rfl ?_
  refine ex_if_lt (tgt := 16) (q := 9) dX12_readsGauss_6 (fun c4 => ?_) (fun c4 => ?_)
  · replace w := w.1 c4
    refine ex_iconst (q := 17) (v := 0) dX12_readsGauss_16 (by decide) ?_
    exact ex_ireturn dX12_readsGauss_17 rfl (Or.inr ⟨rfl, Or.inl rfl⟩) w
  · replace w := w.2 c4
    refine ex_iload_n (q := 10) (x := x3) dX12_readsGauss_9 rfl ?_
    refine ex_iconst (q := 11) (v := 2) dX12_readsGauss_10 (by decide) ?_
    refine ex_irem (q := 12) dX12_readsGauss_11 (by decide) ?_
    refine ex_iconst (q := 13) (v := 1) dX12_readsGauss_12 (by decide) ?_
    refine ex_icmp_ne (tgt := 18) (q := 16) dX12_readsGauss_13 (fun c5 => ?_) (fun c5 => ?_)
    · replace w := w.1 c5
      refine ex_aload_n (q := 19) (x := a_0) dX12_readsGauss_18 rfl ?_
      have s6 := w.1
      replace w := w.2
      obtain ⟨a7, ea7, w⟩ := w
      refine ex_getr (q := 22) dX12_readsGauss_19 fl_X12_13 s6 ea7 ?_
      refine ex_sipush (q := 25) (v := 364) dX12_readsGauss_22 (by decide) ?_
      refine ex_iconst (q := 26) (v := 0) dX12_readsGauss_25 (by decide) ?_
      have s9 := w.1
      replace w := w.2
      refine ex_iast (q := 27) dX12_readsGauss_26 s9 ?_
      refine ex_nmh (fun h8 eh8 => ?_)
      replace w := w h8 eh8
      refine ex_aload_n (q := 28) (x := a_0) dX12_readsGauss_27 rfl ?_
      obtain ⟨a10, ea10, w⟩ := w
      refine ex_getr (q := 31) dX12_readsGauss_28 fl_X12_16 (by rw [eh8]; exact s6) ea10 ?_
      refine ex_sipush (q := 34) (v := 364) dX12_readsGauss_31 (by decide) ?_
      refine ex_bipush (q := 36) (v := (-2)) dX12_readsGauss_34 (by decide) ?_
      refine ex_aload_n (q := 37) (x := a_0) dX12_readsGauss_36 rfl ?_
      obtain ⟨a11, ea11, w⟩ := w
      refine ex_getr (q := 40) dX12_readsGauss_37 fl_X12_86 (by rw [eh8]; exact s6) ea11 ?_
      refine ex_aload_n (q := 41) (x := a_0) dX12_readsGauss_40 rfl ?_
      refine ex_getf (q := 44) dX12_readsGauss_41 fl_X12_281 (by rw [eh8]; exact s6) ?_
      refine ex_iconst (q := 45) (v := 1) dX12_readsGauss_44 (by decide) ?_
      refine ex_isub (q := 46) dX12_readsGauss_45 ?_
      have s12 := w.1
      replace w := w.2
      refine ex_iald (q := 47) dX12_readsGauss_46 s12 ?_
      refine ex_isub (q := 48) dX12_readsGauss_47 ?_
      have s14 := w.1
      replace w := w.2
      refine ex_iast (q := 49) dX12_readsGauss_48 s14 ?_
      refine ex_nmh (fun h13 eh13 => ?_)
      replace w := w h13 eh13
      refine ex_iconst (q := 50) (v := 0) dX12_readsGauss_49 (by decide) ?_
      refine ex_istore_n (q := 51) (ls' := [.ref a_0, .int x3, .int 0, .retAddr 0, .retAddr 0]) dX12_readsGauss_50 rfl ?_
      exact w
    · replace w := w.2 c5
      refine ex_iconst (q := 17) (v := 0) dX12_readsGauss_16 (by decide) ?_
      exact ex_ireturn dX12_readsGauss_17 rfl (Or.inr ⟨rfl, Or.inl rfl⟩) w

set_option maxRecDepth 100000 in
theorem X12_readsGauss_51 {d bc bs : Nat} {h : AH} {Q : Option Value → AH → Prop} {a_0 : Nat} {v_1 : Int32} {v_2 : Int32} (w : (((v_1 / 2) ≤ v_2 → ah_o h a_0 12 ∧ ex_S yX12_openOf mX12_openOf (d + 3) [.ref a_0, .int 364] h 0 0 (fun r h2 => ∃ x4, r = some (.int x4) ∧ ((¬ x4 = 0 → Q (some (.int 0)) h2) ∧ (x4 = 0 → Q (some (.int 1)) h2)))) ∧ (¬ (v_1 / 2) ≤ v_2 → ah_o h a_0 12 ∧ ∃ a7, ah_r h a_0 30 = some a7 ∧ ld0 h a7 v_2 ∧ (((ah_i h a7 (Int32.toNatClampNeg v_2)) < 0 → Q (some (.int 0)) h) ∧ (¬ (ah_i h a7 (Int32.toNatClampNeg v_2)) < 0 → ∃ a10, ah_r h a_0 31 = some a10 ∧ ld0 h a10 v_2 ∧ (((ah_i h a10 (Int32.toNatClampNeg v_2)) < 0 → Q (some (.int 0)) h) ∧ (¬ (ah_i h a10 (Int32.toNatClampNeg v_2)) < 0 → ((((ah_i h a7 (Int32.toNatClampNeg v_2)) &&& 1) = ((ah_i h a10 (Int32.toNatClampNeg v_2)) &&& 1) → ∀ x14, x14 = (ah_i h a7 (Int32.toNatClampNeg v_2)) / 2 → ∀ x15, x15 = (ah_i h a10 (Int32.toNatClampNeg v_2)) / 2 → ((¬ ((ah_i h a7 (Int32.toNatClampNeg v_2)) &&& 1) = 1 → ∃ a17, ah_r h a_0 32 = some a17 ∧ ld0 h a17 x14 ∧ ld0 h a17 x15 ∧ ex_S yX12_append mX12_append (d + 3) [.ref a_0, .int 364, .int (ah_i h a17 (Int32.toNatClampNeg x14)), .int (ah_i h a17 (Int32.toNatClampNeg x15)), .int x14, .int x15] h 0 0 (fun r h20 => r = none ∧ ∀ x21, x21 = v_2 + 1 → ex_G mX12_readsGauss (d + 4) 51 [.ref a_0, .int v_1, .int x21, .retAddr 0, .retAddr 0] [] h20 bc bs Q)) ∧ (((ah_i h a7 (Int32.toNatClampNeg v_2)) &&& 1) = 1 → ∃ a22, ah_r h a_0 32 = some a22 ∧ ld0 h a22 x14 ∧ ld0 h a22 x15 ∧ ex_S yX12_append mX12_append (d + 3) [.ref a_0, .int 364, .int (ah_i h a22 (Int32.toNatClampNeg x14)), .int x15, .int x14, .int (ah_i h a22 (Int32.toNatClampNeg x15))] h 0 0 (fun r h25 => r = none ∧ ∀ x26, x26 = v_2 + 1 → ex_G mX12_readsGauss (d + 4) 51 [.ref a_0, .int v_1, .int x26, .retAddr 0, .retAddr 0] [] h25 bc bs Q)))) ∧ (¬ ((ah_i h a7 (Int32.toNatClampNeg v_2)) &&& 1) = ((ah_i h a10 (Int32.toNatClampNeg v_2)) &&& 1) → Q (some (.int 0)) h))))))))) : ex_G mX12_readsGauss (d + 4) 51 [.ref a_0, .int v_1, .int v_2, .retAddr 0, .retAddr 0] [] h bc bs Q := by
  refine ex_iload_n (q := 52) (x := v_2) dX12_readsGauss_51 rfl ?_
  refine ex_iload_n (q := 53) (x := v_1) dX12_readsGauss_52 rfl ?_
  refine ex_iconst (q := 54) (v := 2) dX12_readsGauss_53 (by decide) ?_
  refine ex_idiv (q := 55) dX12_readsGauss_54 (by decide) ?_
  refine ex_icmp_ge (tgt := 183) (q := 58) dX12_readsGauss_55 (fun c1 => ?_) (fun c1 => ?_)
  · replace w := w.1 c1
    refine ex_aload_n (q := 184) (x := a_0) dX12_readsGauss_183 rfl ?_
    refine ex_sipush (q := 187) (v := 364) dX12_readsGauss_184 (by decide) ?_
    have s3 := w.1
    replace w := w.2
    refine ex_callV (q := 190) (M := mX12_readsGauss) (hdd := Nat.le_refl _) (c := 12) (st := []) (bc := bc) (bs := bs) dX12_readsGauss_187 rfl cl_X12_226 wd_1643 wd_52 s3 w ?_
    rintro r h2 ⟨x4, rfl, w⟩
    show ex_G mX12_readsGauss (d + 4) 190 [.ref a_0, .int v_1, .int v_2, .retAddr 0, .retAddr 0] [.int x4] h2 bc bs Q
    refine ex_if_ne (tgt := 197) (q := 193) dX12_readsGauss_190 (fun c5 => ?_) (fun c5 => ?_)
    · replace w := w.1 c5
      refine ex_iconst (q := 198) (v := 0) dX12_readsGauss_197 (by decide) ?_
      exact ex_ireturn dX12_readsGauss_198 rfl (Or.inr ⟨rfl, Or.inl rfl⟩) w
    · replace w := w.2 c5
      refine ex_iconst (q := 194) (v := 1) dX12_readsGauss_193 (by decide) ?_
      refine ex_goto (tgt := 198) dX12_readsGauss_194 ?_
      exact ex_ireturn dX12_readsGauss_198 rfl (Or.inr ⟨rfl, Or.inr rfl⟩) w
  · replace w := w.2 c1
    refine ex_aload_n (q := 59) (x := a_0) dX12_readsGauss_58 rfl ?_
    have s6 := w.1
    replace w := w.2
    obtain ⟨a7, ea7, w⟩ := w
    refine ex_getr (q := 62) dX12_readsGauss_59 fl_X12_89 s6 ea7 ?_
    refine ex_iload_n (q := 63) (x := v_2) dX12_readsGauss_62 rfl ?_
    have s8 := w.1
    replace w := w.2
    refine ex_iald (q := 64) dX12_readsGauss_63 s8 ?_
    refine ex_if_lt (tgt := 95) (q := 67) dX12_readsGauss_64 (fun c9 => ?_) (fun c9 => ?_)
    · replace w := w.1 c9
      refine ex_iconst (q := 96) (v := 0) dX12_readsGauss_95 (by decide) ?_
      exact ex_ireturn dX12_readsGauss_96 rfl (Or.inr ⟨rfl, Or.inl rfl⟩) w
    · replace w := w.2 c9
      refine ex_aload_n (q := 68) (x := a_0) dX12_readsGauss_67 rfl ?_
      obtain ⟨a10, ea10, w⟩ := w
      refine ex_getr (q := 71) dX12_readsGauss_68 fl_X12_92 s6 ea10 ?_
      refine ex_iload_n (q := 72) (x := v_2) dX12_readsGauss_71 rfl ?_
      have s11 := w.1
      replace w := w.2
      refine ex_iald (q := 73) dX12_readsGauss_72 s11 ?_
      refine ex_if_lt (tgt := 95) (q := 76) dX12_readsGauss_73 (fun c12 => ?_) (fun c12 => ?_)
      · replace w := w.1 c12
        refine ex_iconst (q := 96) (v := 0) dX12_readsGauss_95 (by decide) ?_
        exact ex_ireturn dX12_readsGauss_96 rfl (Or.inr ⟨rfl, Or.inl rfl⟩) w
      · replace w := w.2 c12
        refine ex_aload_n (q := 77) (x := a_0) dX12_readsGauss_76 rfl ?_
        refine ex_getr (q := 80) dX12_readsGauss_77 fl_X12_89 s6 ea7 ?_
        refine ex_iload_n (q := 81) (x := v_2) dX12_readsGauss_80 rfl ?_
        refine ex_iald (q := 82) dX12_readsGauss_81 s8 ?_
        refine ex_iconst (q := 83) (v := 1) dX12_readsGauss_82 (by decide) ?_
        refine ex_iand (q := 84) dX12_readsGauss_83 ?_
        refine ex_aload_n (q := 85) (x := a_0) dX12_readsGauss_84 rfl ?_
        refine ex_getr (q := 88) dX12_readsGauss_85 fl_X12_92 s6 ea10 ?_
        refine ex_iload_n (q := 89) (x := v_2) dX12_readsGauss_88 rfl ?_
        refine ex_iald (q := 90) dX12_readsGauss_89 s11 ?_
        refine ex_iconst (q := 91) (v := 1) dX12_readsGauss_90 (by decide) ?_
        refine ex_iand (q := 92) dX12_readsGauss_91 ?_
        refine ex_icmp_eq (tgt := 97) (q := 95) dX12_readsGauss_92 (fun c13 => ?_) (fun c13 => ?_)
        · replace w := w.1 c13
          refine ex_aload_n (q := 98) (x := a_0) dX12_readsGauss_97 rfl ?_
          refine ex_getr (q := 101) dX12_readsGauss_98 fl_X12_89 s6 ea7 ?_
          refine ex_iload_n (q := 102) (x := v_2) dX12_readsGauss_101 rfl ?_
          refine ex_iald (q := 103) dX12_readsGauss_102 s8 ?_
          refine ex_iconst (q := 104) (v := 2) dX12_readsGauss_103 (by decide) ?_
          refine ex_idiv (q := 105) dX12_readsGauss_104 (by decide) ?_
          refine ex_nmi (fun x14 ex14 => ?_)
          replace w := w x14 ex14
          refine ex_istore_n (q := 106) (ls' := [.ref a_0, .int v_1, .int v_2, .int x14, .retAddr 0]) dX12_readsGauss_105 rfl ?_
          refine ex_aload_n (q := 107) (x := a_0) dX12_readsGauss_106 rfl ?_
          refine ex_getr (q := 110) dX12_readsGauss_107 fl_X12_92 s6 ea10 ?_
          refine ex_iload_n (q := 111) (x := v_2) dX12_readsGauss_110 rfl ?_
          refine ex_iald (q := 112) dX12_readsGauss_111 s11 ?_
          refine ex_iconst (q := 113) (v := 2) dX12_readsGauss_112 (by decide) ?_
          refine ex_idiv (q := 114) dX12_readsGauss_113 (by decide) ?_
          refine ex_nmi (fun x15 ex15 => ?_)
          replace w := w x15 ex15
          refine ex_istore (q := 116) (ls' := [.ref a_0, .int v_1, .int v_2, .int x14, .int x15]) dX12_readsGauss_114 rfl ?_
          refine ex_aload_n (q := 117) (x := a_0) dX12_readsGauss_116 rfl ?_
          refine ex_getr (q := 120) dX12_readsGauss_117 fl_X12_89 s6 ea7 ?_
          refine ex_iload_n (q := 121) (x := v_2) dX12_readsGauss_120 rfl ?_
          refine ex_iald (q := 122) dX12_readsGauss_121 s8 ?_
          refine ex_iconst (q := 123) (v := 1) dX12_readsGauss_122 (by decide) ?_
          refine ex_iand (q := 124) dX12_readsGauss_123 ?_
          refine ex_iconst (q := 125) (v := 1) dX12_readsGauss_124 (by decide) ?_
          refine ex_icmp_ne (tgt := 154) (q := 128) dX12_readsGauss_125 (fun c16 => ?_) (fun c16 => ?_)
          · replace w := w.1 c16
            refine ex_aload_n (q := 155) (x := a_0) dX12_readsGauss_154 rfl ?_
            refine ex_sipush (q := 158) (v := 364) dX12_readsGauss_155 (by decide) ?_
            refine ex_aload_n (q := 159) (x := a_0) dX12_readsGauss_158 rfl ?_
            obtain ⟨a17, ea17, w⟩ := w
            refine ex_getr (q := 162) dX12_readsGauss_159 fl_X12_95 s6 ea17 ?_
            refine ex_iload_n (q := 163) (x := x14) dX12_readsGauss_162 rfl ?_
            have s18 := w.1
            replace w := w.2
            refine ex_iald (q := 164) dX12_readsGauss_163 s18 ?_
            refine ex_aload_n (q := 165) (x := a_0) dX12_readsGauss_164 rfl ?_
            refine ex_getr (q := 168) dX12_readsGauss_165 fl_X12_95 s6 ea17 ?_
            refine ex_iload (q := 170) (x := x15) dX12_readsGauss_168 rfl ?_
            have s19 := w.1
            replace w := w.2
            refine ex_iald (q := 171) dX12_readsGauss_170 s19 ?_
            refine ex_iload_n (q := 172) (x := x14) dX12_readsGauss_171 rfl ?_
            refine ex_iload (q := 174) (x := x15) dX12_readsGauss_172 rfl ?_
            refine ex_callV (q := 177) (M := mX12_readsGauss) (hdd := Nat.le_refl _) (c := 12) (st := []) (bc := bc) (bs := bs) dX12_readsGauss_174 rfl cl_X12_194 wd_1605 wd_49 s6 w ?_
            rintro r h20 ⟨rfl, w⟩
            show ex_G mX12_readsGauss (d + 4) 177 [.ref a_0, .int v_1, .int v_2, .int x14, .int x15] [] h20 bc bs Q
            obtain ⟨x21, ex21⟩ : ∃ y : Int32, y = v_2 + 1 := ⟨_, rfl⟩
            replace w := w x21 ex21
            refine ex_iinc (q := 180) (x := v_2) (v := x21) (ls' := [.ref a_0, .int v_1, .int x21, .int x14, .int x15]) dX12_readsGauss_177 rfl (by rw [ex21]; rfl) rfl ?_
            refine ex_goto (tgt := 51) dX12_readsGauss_180 ?_
            refine ex_kill 3 (ls' := [.ref a_0, .int v_1, .int x21, .retAddr 0, .int x15]) rfl ?_
            refine ex_kill 4 (ls' := [.ref a_0, .int v_1, .int x21, .retAddr 0, .retAddr 0]) rfl ?_
            exact w
          · replace w := w.2 c16
            refine ex_aload_n (q := 129) (x := a_0) dX12_readsGauss_128 rfl ?_
            refine ex_sipush (q := 132) (v := 364) dX12_readsGauss_129 (by decide) ?_
            refine ex_aload_n (q := 133) (x := a_0) dX12_readsGauss_132 rfl ?_
            obtain ⟨a22, ea22, w⟩ := w
            refine ex_getr (q := 136) dX12_readsGauss_133 fl_X12_95 s6 ea22 ?_
            refine ex_iload_n (q := 137) (x := x14) dX12_readsGauss_136 rfl ?_
            have s23 := w.1
            replace w := w.2
            refine ex_iald (q := 138) dX12_readsGauss_137 s23 ?_
            refine ex_iload (q := 140) (x := x15) dX12_readsGauss_138 rfl ?_
            refine ex_iload_n (q := 141) (x := x14) dX12_readsGauss_140 rfl ?_
            refine ex_aload_n (q := 142) (x := a_0) dX12_readsGauss_141 rfl ?_
            refine ex_getr (q := 145) dX12_readsGauss_142 fl_X12_95 s6 ea22 ?_
            refine ex_iload (q := 147) (x := x15) dX12_readsGauss_145 rfl ?_
            have s24 := w.1
            replace w := w.2
            refine ex_iald (q := 148) dX12_readsGauss_147 s24 ?_
            refine ex_callV (q := 151) (M := mX12_readsGauss) (hdd := Nat.le_refl _) (c := 12) (st := []) (bc := bc) (bs := bs) dX12_readsGauss_148 rfl cl_X12_194 wd_1605 wd_49 s6 w ?_
            rintro r h25 ⟨rfl, w⟩
            show ex_G mX12_readsGauss (d + 4) 151 [.ref a_0, .int v_1, .int v_2, .int x14, .int x15] [] h25 bc bs Q
            refine ex_goto (tgt := 177) dX12_readsGauss_151 ?_
            obtain ⟨x26, ex26⟩ : ∃ y : Int32, y = v_2 + 1 := ⟨_, rfl⟩
            replace w := w x26 ex26
            refine ex_iinc (q := 180) (x := v_2) (v := x26) (ls' := [.ref a_0, .int v_1, .int x26, .int x14, .int x15]) dX12_readsGauss_177 rfl (by rw [ex26]; rfl) rfl ?_
            refine ex_goto (tgt := 51) dX12_readsGauss_180 ?_
            refine ex_kill 3 (ls' := [.ref a_0, .int v_1, .int x26, .retAddr 0, .int x15]) rfl ?_
            refine ex_kill 4 (ls' := [.ref a_0, .int v_1, .int x26, .retAddr 0, .retAddr 0]) rfl ?_
            exact w
        · replace w := w.2 c13
          refine ex_iconst (q := 96) (v := 0) dX12_readsGauss_95 (by decide) ?_
          exact ex_ireturn dX12_readsGauss_96 rfl (Or.inr ⟨rfl, Or.inl rfl⟩) w

theorem X12_readsGauss_e {d bc bs : Nat} {h : AH} {Q : Option Value → AH → Prop} {a_0 : Nat} (w : ex_G mX12_readsGauss (d + 4) 0 [.ref a_0, .retAddr 0, .retAddr 0, .retAddr 0, .retAddr 0] [] h bc bs Q) : ex_S yX12_readsGauss mX12_readsGauss (d + 4) [.ref a_0] h bc bs Q :=
  ex_enter (plainFor_of_name (by decide +kernel)) ⟨rfl, rfl⟩ rfl rfl (Nat.le_of_ble_eq_true rfl) (ex_pad 4 w)

set_option maxRecDepth 100000 in
theorem X12_ofGauss_0 {d bc bs : Nat} {h : AH} {Q : Option Value → AH → Prop} {a_0 : Nat} (w : ah_o h a_0 12 ∧ ((¬ (ah_f h a_0 6) = 24 → ex_S yX12_readsGauss mX12_readsGauss (d + 4) [.ref a_0] h 0 0 (fun r h3 => ∃ x4, r = some (.int x4) ∧ ((x4 = 0 → ah_o h3 a_0 12 ∧ X12_meets_C a_0 5 h3 ∧ ∀ h8, h8 = X12_meets_H a_0 5 h3 → Q (some (.int (X12_meets_V a_0 5 h3))) h8) ∧ (¬ x4 = 0 → ah_o h3 a_0 12 ∧ ex_S yX12_added mX12_added (d + 4) [.ref a_0, .int 364] h3 0 0 (fun r h9 => ∃ x11, r = some (.int x11) ∧ Q (some (.int x11)) h9))))) ∧ ((ah_f h a_0 6) = 24 → X12_no_C a_0 (-3) h ∧ ∀ h13, h13 = X12_no_H a_0 (-3) h → Q (some (.int (X12_no_V a_0 (-3) h))) h13))) : ex_G mX12_ofGauss (d + 5) 0 [.ref a_0] [] h bc bs Q := by
  refine ex_aload_n (q := 1) (x := a_0) dX12_ofGauss_0 rfl ?_
  have s1 := w.1
  replace w := w.2
  refine ex_getf (q := 4) dX12_ofGauss_1 fl_X12_169 s1 ?_
  refine ex_bipush (q := 6) (v := 24) dX12_ofGauss_4 (by decide) ?_
  refine ex_icmp_ne (tgt := 16) (q := 9) dX12_ofGauss_6 (fun c2 => ?_) (fun c2 => ?_)
  · replace w := w.1 c2
    refine ex_aload_n (q := 17) (x := a_0) dX12_ofGauss_16 rfl ?_
    refine ex_callV (q := 20) (M := mX12_ofGauss) (hdd := Nat.le_refl _) (c := 12) (st := []) (bc := bc) (bs := bs) dX12_ofGauss_17 rfl cl_X12_293 wd_1781 wd_68 s1 w ?_
    rintro r h3 ⟨x4, rfl, w⟩
    show ex_G mX12_ofGauss (d + 5) 20 [.ref a_0] [.int x4] h3 bc bs Q
    refine ex_if_eq (tgt := 33) (q := 23) dX12_ofGauss_20 (fun c5 => ?_) (fun c5 => ?_)
    · replace w := w.1 c5
      refine ex_aload_n (q := 34) (x := a_0) dX12_ofGauss_33 rfl ?_
      refine ex_iconst (q := 35) (v := 5) dX12_ofGauss_34 (by decide) ?_
      have s6 := w.1
      replace w := w.2
      have s7 := w.1
      replace w := w.2
      refine ex_callV (q := 38) (M := mX12_ofGauss) (hdd := Nat.le_refl _) (mc := 0) (ms := 0) (d' := (d + 4)) (c := 12) (st := []) (bc := bc) (bs := bs) dX12_ofGauss_35 rfl cl_X12_200 wd_1614 wd_50 s6 (X12_meets_s (Q := fun r z => r = some (.int (X12_meets_V a_0 5 h3)) ∧ z = X12_meets_H a_0 5 h3) s7 ⟨rfl, rfl⟩) ?_
      intro r z hrz
      rw [hrz.1, hrz.2]
      show ex_G mX12_ofGauss (d + 5) 38 [.ref a_0] [.int (X12_meets_V a_0 5 h3)] (X12_meets_H a_0 5 h3) bc bs Q
      refine ex_nmh (fun h8 eh8 => ?_)
      replace w := w h8 eh8
      exact ex_ireturn dX12_ofGauss_38 rfl (Or.inl rfl) w
    · replace w := w.2 c5
      refine ex_aload_n (q := 24) (x := a_0) dX12_ofGauss_23 rfl ?_
      refine ex_sipush (q := 27) (v := 364) dX12_ofGauss_24 (by decide) ?_
      have s10 := w.1
      replace w := w.2
      refine ex_callV (q := 30) (M := mX12_ofGauss) (hdd := Nat.le_refl _) (c := 12) (st := []) (bc := bc) (bs := bs) dX12_ofGauss_27 rfl cl_X12_297 wd_1792 wd_70 s10 w ?_
      rintro r h9 ⟨x11, rfl, w⟩
      show ex_G mX12_ofGauss (d + 5) 30 [.ref a_0] [.int x11] h9 bc bs Q
      refine ex_goto (tgt := 38) dX12_ofGauss_30 ?_
      exact ex_ireturn dX12_ofGauss_38 rfl (Or.inl rfl) w
  · replace w := w.2 c2
    refine ex_aload_n (q := 10) (x := a_0) dX12_ofGauss_9 rfl ?_
    refine ex_bipush (q := 12) (v := (-3)) dX12_ofGauss_10 (by decide) ?_
    have s12 := w.1
    replace w := w.2
    refine ex_callV (q := 15) (M := mX12_ofGauss) (hdd := Nat.le_refl _) (mc := 0) (ms := 0) (d' := (d + 4)) (c := 12) (st := []) (bc := bc) (bs := bs) dX12_ofGauss_12 rfl cl_X12_165 wd_1581 wd_46 s1 (X12_no_s (Q := fun r z => r = some (.int (X12_no_V a_0 (-3) h)) ∧ z = X12_no_H a_0 (-3) h) s12 ⟨rfl, rfl⟩) ?_
    intro r z hrz
    rw [hrz.1, hrz.2]
    show ex_G mX12_ofGauss (d + 5) 15 [.ref a_0] [.int (X12_no_V a_0 (-3) h)] (X12_no_H a_0 (-3) h) bc bs Q
    refine ex_nmh (fun h13 eh13 => ?_)
    replace w := w h13 eh13
    exact ex_ireturn dX12_ofGauss_15 rfl (Or.inl rfl) w

theorem X12_ofGauss_e {d bc bs : Nat} {h : AH} {Q : Option Value → AH → Prop} {a_0 : Nat} (w : ex_G mX12_ofGauss (d + 5) 0 [.ref a_0] [] h bc bs Q) : ex_S yX12_ofGauss mX12_ofGauss (d + 5) [.ref a_0] h bc bs Q :=
  ex_enter (plainFor_of_name (by decide +kernel)) ⟨rfl, rfl⟩ rfl rfl (Nat.le_of_ble_eq_true rfl) (ex_pad 0 w)

set_option maxRecDepth 100000 in
theorem X12_free_0 {d bc bs : Nat} {h : AH} {Q : Option Value → AH → Prop} {a_0 : Nat} {v_1 : Int32} {v_2 : Int32} (w : ex_G mX12_free d 2 [.ref a_0, .int v_1, .int v_2, .int 0] [] h bc bs Q) : ex_G mX12_free d 0 [.ref a_0, .int v_1, .int v_2, .retAddr 0] [] h bc bs Q := by
  refine ex_iconst (q := 1) (v := 0) dX12_free_0 (by decide) ?_
  refine ex_istore_n (q := 2) (ls' := [.ref a_0, .int v_1, .int v_2, .int 0]) dX12_free_1 rfl ?_
  exact w

set_option maxRecDepth 100000 in
theorem X12_free_2 {d bc bs : Nat} {h : AH} {Q : Option Value → AH → Prop} {a_0 : Nat} {v_1 : Int32} {v_2 : Int32} {v_3 : Int32} (w : ((100 ≤ v_3 → ex_G mX12_free d 23 [.ref a_0, .int v_1, .int v_2, .int 0] [] h bc bs Q) ∧ (¬ 100 ≤ v_3 → ah_o h a_0 12 ∧ ∃ a3, ah_r h a_0 33 = some a3 ∧ ld1 h a3 v_3 ∧ ∀ h4, h4 = ah_si h a3 (Int32.toNatClampNeg v_3) 0 → ∀ x6, x6 = v_3 + 1 → ex_G mX12_free d 2 [.ref a_0, .int v_1, .int v_2, .int x6] [] h4 bc bs Q))) : ex_G mX12_free d 2 [.ref a_0, .int v_1, .int v_2, .int v_3] [] h bc bs Q := by
  refine ex_iload_n (q := 3) (x := v_3) dX12_free_2 rfl ?_
  refine ex_bipush (q := 5) (v := 100) dX12_free_3 (by decide) ?_
  refine ex_icmp_ge (tgt := 21) (q := 8) dX12_free_5 (fun c1 => ?_) (fun c1 => ?_)
  · replace w := w.1 c1
    refine ex_iconst (q := 22) (v := 0) dX12_free_21 (by decide) ?_
    refine ex_istore_n (q := 23) (ls' := [.ref a_0, .int v_1, .int v_2, .int 0]) dX12_free_22 rfl ?_
    exact w
  · replace w := w.2 c1
    refine ex_aload_n (q := 9) (x := a_0) dX12_free_8 rfl ?_
    have s2 := w.1
    replace w := w.2
    obtain ⟨a3, ea3, w⟩ := w
    refine ex_getr (q := 12) dX12_free_9 fl_X12_98 s2 ea3 ?_
    refine ex_iload_n (q := 13) (x := v_3) dX12_free_12 rfl ?_
    refine ex_iconst (q := 14) (v := 0) dX12_free_13 (by decide) ?_
    have s5 := w.1
    replace w := w.2
    refine ex_bast (q := 15) dX12_free_14 s5 (Or.inl rfl) ?_
    refine ex_nmh (fun h4 eh4 => ?_)
    replace w := w h4 eh4
    obtain ⟨x6, ex6⟩ : ∃ y : Int32, y = v_3 + 1 := ⟨_, rfl⟩
    replace w := w x6 ex6
    refine ex_iinc (q := 18) (x := v_3) (v := x6) (ls' := [.ref a_0, .int v_1, .int v_2, .int x6]) dX12_free_15 rfl (by rw [ex6]; rfl) rfl ?_
    refine ex_goto (tgt := 2) dX12_free_18 ?_
    exact w

set_option maxRecDepth 100000 in
theorem X12_free_23 {d bc bs : Nat} {h : AH} {Q : Option Value → AH → Prop} {a_0 : Nat} {v_1 : Int32} {v_2 : Int32} {v_3 : Int32} (w : ah_o h a_0 12 ∧ ∃ a2, ah_r h a_0 2 = some a2 ∧ ld0 h a2 v_1 ∧ (((4 * (ah_i h a2 (Int32.toNatClampNeg v_1))) ≤ v_3 → ∀ x5, x5 = v_2 + 1 → ex_G mX12_free d 63 [.ref a_0, .retAddr 0, .retAddr 0, .int x5] [] h bc bs Q) ∧ (¬ (4 * (ah_i h a2 (Int32.toNatClampNeg v_1))) ≤ v_3 → ∃ a6, ah_r h a_0 33 = some a6 ∧ ∃ a7, ah_r h a_0 5 = some a7 ∧ ld0 h a7 ((160 * v_1) + v_3) ∧ ld1 h a6 (ah_i h a7 (Int32.toNatClampNeg ((160 * v_1) + v_3))) ∧ ∀ h9, h9 = ah_si h a6 (Int32.toNatClampNeg (ah_i h a7 (Int32.toNatClampNeg ((160 * v_1) + v_3)))) 1 → ∀ x11, x11 = v_3 + 1 → ex_G mX12_free d 23 [.ref a_0, .int v_1, .int v_2, .int x11] [] h9 bc bs Q))) : ex_G mX12_free d 23 [.ref a_0, .int v_1, .int v_2, .int v_3] [] h bc bs Q := by
  refine ex_iload_n (q := 24) (x := v_3) dX12_free_23 rfl ?_
  refine ex_iconst (q := 25) (v := 4) dX12_free_24 (by decide) ?_
  refine ex_aload_n (q := 26) (x := a_0) dX12_free_25 rfl ?_
  have s1 := w.1
  replace w := w.2
  obtain ⟨a2, ea2, w⟩ := w
  refine ex_getr (q := 29) dX12_free_26 fl_X12_13 s1 ea2 ?_
  refine ex_iload_n (q := 30) (x := v_1) dX12_free_29 rfl ?_
  have s3 := w.1
  replace w := w.2
  refine ex_iald (q := 31) dX12_free_30 s3 ?_
  refine ex_imul (q := 32) dX12_free_31 ?_
  refine ex_icmp_ge (tgt := 59) (q := 35) dX12_free_32 (fun c4 => ?_) (fun c4 => ?_)
  · replace w := w.1 c4
    refine ex_iload_n (q := 60) (x := v_2) dX12_free_59 rfl ?_
    refine ex_iconst (q := 61) (v := 1) dX12_free_60 (by decide) ?_
    refine ex_iadd (q := 62) dX12_free_61 ?_
    refine ex_nmi (fun x5 ex5 => ?_)
    replace w := w x5 ex5
    refine ex_istore_n (q := 63) (ls' := [.ref a_0, .int v_1, .int v_2, .int x5]) dX12_free_62 rfl ?_
    refine ex_kill 1 (ls' := [.ref a_0, .retAddr 0, .int v_2, .int x5]) rfl ?_
    refine ex_kill 2 (ls' := [.ref a_0, .retAddr 0, .retAddr 0, .int x5]) rfl ?_
    exact w
  · replace w := w.2 c4
    refine ex_aload_n (q := 36) (x := a_0) dX12_free_35 rfl ?_
    obtain ⟨a6, ea6, w⟩ := w
    refine ex_getr (q := 39) dX12_free_36 fl_X12_98 s1 ea6 ?_
    refine ex_aload_n (q := 40) (x := a_0) dX12_free_39 rfl ?_
    obtain ⟨a7, ea7, w⟩ := w
    refine ex_getr (q := 43) dX12_free_40 fl_X12_23 s1 ea7 ?_
    refine ex_sipush (q := 46) (v := 160) dX12_free_43 (by decide) ?_
    refine ex_iload_n (q := 47) (x := v_1) dX12_free_46 rfl ?_
    refine ex_imul (q := 48) dX12_free_47 ?_
    refine ex_iload_n (q := 49) (x := v_3) dX12_free_48 rfl ?_
    refine ex_iadd (q := 50) dX12_free_49 ?_
    have s8 := w.1
    replace w := w.2
    refine ex_iald (q := 51) dX12_free_50 s8 ?_
    refine ex_iconst (q := 52) (v := 1) dX12_free_51 (by decide) ?_
    have s10 := w.1
    replace w := w.2
    refine ex_bast (q := 53) dX12_free_52 s10 (Or.inr rfl) ?_
    refine ex_nmh (fun h9 eh9 => ?_)
    replace w := w h9 eh9
    obtain ⟨x11, ex11⟩ : ∃ y : Int32, y = v_3 + 1 := ⟨_, rfl⟩
    replace w := w x11 ex11
    refine ex_iinc (q := 56) (x := v_3) (v := x11) (ls' := [.ref a_0, .int v_1, .int v_2, .int x11]) dX12_free_53 rfl (by rw [ex11]; rfl) rfl ?_
    refine ex_goto (tgt := 23) dX12_free_56 ?_
    exact w

set_option maxRecDepth 100000 in
theorem X12_free_63 {d bc bs : Nat} {h : AH} {Q : Option Value → AH → Prop} {a_0 : Nat} {v_3 : Int32} (w : ah_o h a_0 12 ∧ ∃ a2, ah_r h a_0 33 = some a2 ∧ ld1 h a2 v_3 ∧ (((ah_i h a2 (Int32.toNatClampNeg v_3)) = 0 → Q (some (.int v_3)) h) ∧ (¬ (ah_i h a2 (Int32.toNatClampNeg v_3)) = 0 → ∀ x5, x5 = v_3 + 1 → ex_G mX12_free d 63 [.ref a_0, .retAddr 0, .retAddr 0, .int x5] [] h bc bs Q))) : ex_G mX12_free d 63 [.ref a_0, .retAddr 0, .retAddr 0, .int v_3] [] h bc bs Q := by
  refine ex_aload_n (q := 64) (x := a_0) dX12_free_63 rfl ?_
  have s1 := w.1
  replace w := w.2
  obtain ⟨a2, ea2, w⟩ := w
  refine ex_getr (q := 67) dX12_free_64 fl_X12_98 s1 ea2 ?_
  refine ex_iload_n (q := 68) (x := v_3) dX12_free_67 rfl ?_
  have s3 := w.1
  replace w := w.2
  refine ex_bald (q := 69) dX12_free_68 s3 ?_
  refine ex_if_eq (tgt := 78) (q := 72) dX12_free_69 (fun c4 => ?_) (fun c4 => ?_)
  · replace w := w.1 c4
    refine ex_iload_n (q := 79) (x := v_3) dX12_free_78 rfl ?_
    exact ex_ireturn dX12_free_79 rfl (Or.inl rfl) w
  · replace w := w.2 c4
    obtain ⟨x5, ex5⟩ : ∃ y : Int32, y = v_3 + 1 := ⟨_, rfl⟩
    replace w := w x5 ex5
    refine ex_iinc (q := 75) (x := v_3) (v := x5) (ls' := [.ref a_0, .retAddr 0, .retAddr 0, .int x5]) dX12_free_72 rfl (by rw [ex5]; rfl) rfl ?_
    refine ex_goto (tgt := 63) dX12_free_75 ?_
    exact w

theorem X12_free_e {d bc bs : Nat} {h : AH} {Q : Option Value → AH → Prop} {a_0 : Nat} {v_1 : Int32} {v_2 : Int32} (w : ex_G mX12_free d 0 [.ref a_0, .int v_1, .int v_2, .retAddr 0] [] h bc bs Q) : ex_S yX12_free mX12_free d [.ref a_0, .int v_1, .int v_2] h bc bs Q :=
  ex_enter (plainFor_of_name (by decide +kernel)) ⟨rfl, rfl⟩ rfl rfl (Nat.le_of_ble_eq_true rfl) (ex_pad 1 w)

set_option maxRecDepth 100000 in
theorem X12_joinArcs_0 {d bc bs : Nat} {h : AH} {Q : Option Value → AH → Prop} {a_0 : Nat} {v_1 : Int32} {v_2 : Int32} {v_3 : Int32} (w : ((¬ v_2 = v_3 → ex_G mX12_joinArcs d 18 [.ref a_0, .int v_1, .int v_2, .int v_3, .int 0] [] h bc bs Q) ∧ (v_2 = v_3 → ah_o h a_0 12 ∧ ∃ a3, ah_r h a_0 3 = some a3 ∧ ld0 h a3 v_1 ∧ st0 h a3 v_1 ∧ ∀ h5, h5 = ah_si h a3 (Int32.toNatClampNeg v_1) ((ah_i h a3 (Int32.toNatClampNeg v_1)) + 1) → ex_G mX12_joinArcs d 18 [.ref a_0, .int v_1, .int v_2, .int v_3, .int 0] [] h5 bc bs Q))) : ex_G mX12_joinArcs d 0 [.ref a_0, .int v_1, .int v_2, .int v_3, .retAddr 0] [] h bc bs Q := by
  refine ex_iload_n (q := 1) (x := v_2) dX12_joinArcs_0 rfl ?_
  refine ex_iload_n (q := 2) (x := v_3) dX12_joinArcs_1 rfl ?_
  refine ex_icmp_ne (tgt := 15) (q := 5) dX12_joinArcs_2 (fun c1 => ?_) (fun c1 => ?_)
  · replace w := w.1 c1
    refine ex_iconst (q := 16) (v := 0) dX12_joinArcs_15 (by decide) ?_
    refine ex_istore (q := 18) (ls' := [.ref a_0, .int v_1, .int v_2, .int v_3, .int 0]) dX12_joinArcs_16 rfl ?_
    exact w
  · replace w := w.2 c1
    refine ex_aload_n (q := 6) (x := a_0) dX12_joinArcs_5 rfl ?_
    have s2 := w.1
    replace w := w.2
    obtain ⟨a3, ea3, w⟩ := w
    refine ex_getr (q := 9) dX12_joinArcs_6 fl_X12_16 s2 ea3 ?_
    refine ex_iload_n (q := 10) (x := v_1) dX12_joinArcs_9 rfl ?_
    refine ex_dup2 (q := 11) dX12_joinArcs_10 rfl rfl ?_
    have s4 := w.1
    replace w := w.2
    refine ex_iald (q := 12) dX12_joinArcs_11 s4 ?_
    refine ex_iconst (q := 13) (v := 1) dX12_joinArcs_12 (by decide) ?_
    refine ex_iadd (q := 14) dX12_joinArcs_13 ?_
    have s6 := w.1
    replace w := w.2
    refine ex_iast (q := 15) dX12_joinArcs_14 s6 ?_
    refine ex_nmh (fun h5 eh5 => ?_)
    replace w := w h5 eh5
    refine ex_iconst (q := 16) (v := 0) dX12_joinArcs_15 (by decide) ?_
    refine ex_istore (q := 18) (ls' := [.ref a_0, .int v_1, .int v_2, .int v_3, .int 0]) dX12_joinArcs_16 rfl ?_
    exact w

set_option maxRecDepth 100000 in
theorem X12_joinArcs_18 {d bc bs : Nat} {h : AH} {Q : Option Value → AH → Prop} {a_0 : Nat} {v_1 : Int32} {v_2 : Int32} {v_3 : Int32} {v_4 : Int32} (w : ah_o h a_0 12 ∧ ∃ a2, ah_r h a_0 2 = some a2 ∧ ld0 h a2 v_1 ∧ (((4 * (ah_i h a2 (Int32.toNatClampNeg v_1))) ≤ v_4 → Q none h) ∧ (¬ (4 * (ah_i h a2 (Int32.toNatClampNeg v_1))) ≤ v_4 → ∃ a5, ah_r h a_0 5 = some a5 ∧ ld0 h a5 ((160 * v_1) + v_4) ∧ ((¬ (ah_i h a5 (Int32.toNatClampNeg ((160 * v_1) + v_4))) = v_3 → st0 h a5 ((160 * v_1) + v_4) ∧ ∀ h8, h8 = ah_si h a5 (Int32.toNatClampNeg ((160 * v_1) + v_4)) (ah_i h a5 (Int32.toNatClampNeg ((160 * v_1) + v_4))) → ∀ x10, x10 = v_4 + 1 → ex_G mX12_joinArcs d 18 [.ref a_0, .int v_1, .int v_2, .int v_3, .int x10] [] h8 bc bs Q) ∧ ((ah_i h a5 (Int32.toNatClampNeg ((160 * v_1) + v_4))) = v_3 → st0 h a5 ((160 * v_1) + v_4) ∧ ∀ h11, h11 = ah_si h a5 (Int32.toNatClampNeg ((160 * v_1) + v_4)) v_2 → ∀ x13, x13 = v_4 + 1 → ex_G mX12_joinArcs d 18 [.ref a_0, .int v_1, .int v_2, .int v_3, .int x13] [] h11 bc bs Q))))) : ex_G mX12_joinArcs d 18 [.ref a_0, .int v_1, .int v_2, .int v_3, .int v_4] [] h bc bs Q := by
  refine ex_iload (q := 20) (x := v_4) dX12_joinArcs_18 rfl ?_
  refine ex_iconst (q := 21) (v := 4) dX12_joinArcs_20 (by decide) ?_
  refine ex_aload_n (q := 22) (x := a_0) dX12_joinArcs_21 rfl ?_
  have s1 := w.1
  replace w := w.2
  obtain ⟨a2, ea2, w⟩ := w
  refine ex_getr (q := 25) dX12_joinArcs_22 fl_X12_13 s1 ea2 ?_
  refine ex_iload_n (q := 26) (x := v_1) dX12_joinArcs_25 rfl ?_
  have s3 := w.1
  replace w := w.2
  refine ex_iald (q := 27) dX12_joinArcs_26 s3 ?_
  refine ex_imul (q := 28) dX12_joinArcs_27 ?_
  refine ex_icmp_ge (tgt := 84) (q := 31) dX12_joinArcs_28 (fun c4 => ?_) (fun c4 => ?_)
  · replace w := w.1 c4
    exact ex_return dX12_joinArcs_84 w
  · replace w := w.2 c4
    refine ex_aload_n (q := 32) (x := a_0) dX12_joinArcs_31 rfl ?_
    obtain ⟨a5, ea5, w⟩ := w
    refine ex_getr (q := 35) dX12_joinArcs_32 fl_X12_23 s1 ea5 ?_
    refine ex_sipush (q := 38) (v := 160) dX12_joinArcs_35 (by decide) ?_
    refine ex_iload_n (q := 39) (x := v_1) dX12_joinArcs_38 rfl ?_
    refine ex_imul (q := 40) dX12_joinArcs_39 ?_
    refine ex_iload (q := 42) (x := v_4) dX12_joinArcs_40 rfl ?_
    refine ex_iadd (q := 43) dX12_joinArcs_42 ?_
    refine ex_aload_n (q := 44) (x := a_0) dX12_joinArcs_43 rfl ?_
    refine ex_getr (q := 47) dX12_joinArcs_44 fl_X12_23 s1 ea5 ?_
    refine ex_sipush (q := 50) (v := 160) dX12_joinArcs_47 (by decide) ?_
    refine ex_iload_n (q := 51) (x := v_1) dX12_joinArcs_50 rfl ?_
    refine ex_imul (q := 52) dX12_joinArcs_51 ?_
    refine ex_iload (q := 54) (x := v_4) dX12_joinArcs_52 rfl ?_
    refine ex_iadd (q := 55) dX12_joinArcs_54 ?_
    have s6 := w.1
    replace w := w.2
    refine ex_iald (q := 56) dX12_joinArcs_55 s6 ?_
    refine ex_iload_n (q := 57) (x := v_3) dX12_joinArcs_56 rfl ?_
    refine ex_icmp_ne (tgt := 64) (q := 60) dX12_joinArcs_57 (fun c7 => ?_) (fun c7 => ?_)
    · replace w := w.1 c7
      refine ex_aload_n (q := 65) (x := a_0) dX12_joinArcs_64 rfl ?_
      refine ex_getr (q := 68) dX12_joinArcs_65 fl_X12_23 s1 ea5 ?_
      refine ex_sipush (q := 71) (v := 160) dX12_joinArcs_68 (by decide) ?_
      refine ex_iload_n (q := 72) (x := v_1) dX12_joinArcs_71 rfl ?_
      refine ex_imul (q := 73) dX12_joinArcs_72 ?_
      refine ex_iload (q := 75) (x := v_4) dX12_joinArcs_73 rfl ?_
      refine ex_iadd (q := 76) dX12_joinArcs_75 ?_
      refine ex_iald (q := 77) dX12_joinArcs_76 s6 ?_
      have s9 := w.1
      replace w := w.2
      refine ex_iast (q := 78) dX12_joinArcs_77 s9 ?_
      refine ex_nmh (fun h8 eh8 => ?_)
      replace w := w h8 eh8
      obtain ⟨x10, ex10⟩ : ∃ y : Int32, y = v_4 + 1 := ⟨_, rfl⟩
      replace w := w x10 ex10
      refine ex_iinc (q := 81) (x := v_4) (v := x10) (ls' := [.ref a_0, .int v_1, .int v_2, .int v_3, .int x10]) dX12_joinArcs_78 rfl (by rw [ex10]; rfl) rfl ?_
      refine ex_goto (tgt := 18) dX12_joinArcs_81 ?_
      exact w
    · replace w := w.2 c7
      refine ex_iload_n (q := 61) (x := v_2) dX12_joinArcs_60 rfl ?_
      refine ex_goto (tgt := 77) dX12_joinArcs_61 ?_
      have s12 := w.1
      replace w := w.2
      refine ex_iast (q := 78) dX12_joinArcs_77 s12 ?_
      refine ex_nmh (fun h11 eh11 => ?_)
      replace w := w h11 eh11
      obtain ⟨x13, ex13⟩ : ∃ y : Int32, y = v_4 + 1 := ⟨_, rfl⟩
      replace w := w x13 ex13
      refine ex_iinc (q := 81) (x := v_4) (v := x13) (ls' := [.ref a_0, .int v_1, .int v_2, .int v_3, .int x13]) dX12_joinArcs_78 rfl (by rw [ex13]; rfl) rfl ?_
      refine ex_goto (tgt := 18) dX12_joinArcs_81 ?_
      exact w

theorem X12_joinArcs_e {d bc bs : Nat} {h : AH} {Q : Option Value → AH → Prop} {a_0 : Nat} {v_1 : Int32} {v_2 : Int32} {v_3 : Int32} (w : ex_G mX12_joinArcs d 0 [.ref a_0, .int v_1, .int v_2, .int v_3, .retAddr 0] [] h bc bs Q) : ex_S yX12_joinArcs mX12_joinArcs d [.ref a_0, .int v_1, .int v_2, .int v_3] h bc bs Q :=
  ex_enter (plainFor_of_name (by decide +kernel)) ⟨rfl, rfl⟩ rfl rfl (Nat.le_of_ble_eq_true rfl) (ex_pad 1 w)

set_option maxRecDepth 100000 in
theorem X12_takeOut_0 {d bc bs : Nat} {h : AH} {Q : Option Value → AH → Prop} {a_0 : Nat} {v_1 : Int32} {v_2 : Int32} (w : ah_o h a_0 12 ∧ ∃ a2, ah_r h a_0 2 = some a2 ∧ ld0 h a2 v_1 ∧ st0 h a2 v_1 ∧ ∀ h4, h4 = ah_si h a2 (Int32.toNatClampNeg v_1) ((ah_i h a2 (Int32.toNatClampNeg v_1)) - 1) → ∀ x6, x6 = 4 * v_2 → ex_G mX12_takeOut d 14 [.ref a_0, .int v_1, .retAddr 0, .int x6] [] h4 bc bs Q) : ex_G mX12_takeOut d 0 [.ref a_0, .int v_1, .int v_2, .retAddr 0] [] h bc bs Q := by
  refine ex_aload_n (q := 1) (x := a_0) dX12_takeOut_0 rfl ?_
  have s1 := w.1
  replace w := w.2
  obtain ⟨a2, ea2, w⟩ := w
  refine ex_getr (q := 4) dX12_takeOut_1 fl_X12_13 s1 ea2 ?_
  refine ex_iload_n (q := 5) (x := v_1) dX12_takeOut_4 rfl ?_
  refine ex_dup2 (q := 6) dX12_takeOut_5 rfl rfl ?_
  have s3 := w.1
  replace w := w.2
  refine ex_iald (q := 7) dX12_takeOut_6 s3 ?_
  refine ex_iconst (q := 8) (v := 1) dX12_takeOut_7 (by decide) ?_
  refine ex_isub (q := 9) dX12_takeOut_8 ?_
  have s5 := w.1
  replace w := w.2
  refine ex_iast (q := 10) dX12_takeOut_9 s5 ?_
  refine ex_nmh (fun h4 eh4 => ?_)
  replace w := w h4 eh4
  refine ex_iconst (q := 11) (v := 4) dX12_takeOut_10 (by decide) ?_
  refine ex_iload_n (q := 12) (x := v_2) dX12_takeOut_11 rfl ?_
  refine ex_imul (q := 13) dX12_takeOut_12 ?_
  refine ex_nmi (fun x6 ex6 => ?_)
  replace w := w x6 ex6
  refine ex_istore_n (q := 14) (ls' := [.ref a_0, .int v_1, .int v_2, .int x6]) dX12_takeOut_13 rfl ?_
  refine ex_kill 2 (ls' := [.ref a_0, .int v_1, .retAddr 0, .int x6]) rfl ?_
  exact w

set_option maxRecDepth 100000 in
theorem X12_takeOut_14 {d bc bs : Nat} {h : AH} {Q : Option Value → AH → Prop} {a_0 : Nat} {v_1 : Int32} {v_3 : Int32} (w : ah_o h a_0 12 ∧ ∃ a2, ah_r h a_0 2 = some a2 ∧ ld0 h a2 v_1 ∧ (((4 * (ah_i h a2 (Int32.toNatClampNeg v_1))) ≤ v_3 → Q none h) ∧ (¬ (4 * (ah_i h a2 (Int32.toNatClampNeg v_1))) ≤ v_3 → ∃ a5, ah_r h a_0 5 = some a5 ∧ ld0 h a5 (((160 * v_1) + v_3) + 4) ∧ st0 h a5 ((160 * v_1) + v_3) ∧ ∀ h7, h7 = ah_si h a5 (Int32.toNatClampNeg ((160 * v_1) + v_3)) (ah_i h a5 (Int32.toNatClampNeg (((160 * v_1) + v_3) + 4))) → ∀ x9, x9 = v_3 + 1 → ex_G mX12_takeOut d 14 [.ref a_0, .int v_1, .retAddr 0, .int x9] [] h7 bc bs Q))) : ex_G mX12_takeOut d 14 [.ref a_0, .int v_1, .retAddr 0, .int v_3] [] h bc bs Q := by
  refine ex_iload_n (q := 15) (x := v_3) dX12_takeOut_14 rfl ?_
  refine ex_iconst (q := 16) (v := 4) dX12_takeOut_15 (by decide) ?_
  refine ex_aload_n (q := 17) (x := a_0) dX12_takeOut_16 rfl ?_
  have s1 := w.1
  replace w := w.2
  obtain ⟨a2, ea2, w⟩ := w
  refine ex_getr (q := 20) dX12_takeOut_17 fl_X12_13 s1 ea2 ?_
  refine ex_iload_n (q := 21) (x := v_1) dX12_takeOut_20 rfl ?_
  have s3 := w.1
  replace w := w.2
  refine ex_iald (q := 22) dX12_takeOut_21 s3 ?_
  refine ex_imul (q := 23) dX12_takeOut_22 ?_
  refine ex_icmp_ge (tgt := 58) (q := 26) dX12_takeOut_23 (fun c4 => ?_) (fun c4 => ?_)
  · replace w := w.1 c4
    exact ex_return dX12_takeOut_58 w
  · replace w := w.2 c4
    refine ex_aload_n (q := 27) (x := a_0) dX12_takeOut_26 rfl ?_
    obtain ⟨a5, ea5, w⟩ := w
    refine ex_getr (q := 30) dX12_takeOut_27 fl_X12_23 s1 ea5 ?_
    refine ex_sipush (q := 33) (v := 160) dX12_takeOut_30 (by decide) ?_
    refine ex_iload_n (q := 34) (x := v_1) dX12_takeOut_33 rfl ?_
    refine ex_imul (q := 35) dX12_takeOut_34 ?_
    refine ex_iload_n (q := 36) (x := v_3) dX12_takeOut_35 rfl ?_
    refine ex_iadd (q := 37) dX12_takeOut_36 ?_
    refine ex_aload_n (q := 38) (x := a_0) dX12_takeOut_37 rfl ?_
    refine ex_getr (q := 41) dX12_takeOut_38 fl_X12_23 s1 ea5 ?_
    refine ex_sipush (q := 44) (v := 160) dX12_takeOut_41 (by decide) ?_
    refine ex_iload_n (q := 45) (x := v_1) dX12_takeOut_44 rfl ?_
    refine ex_imul (q := 46) dX12_takeOut_45 ?_
    refine ex_iload_n (q := 47) (x := v_3) dX12_takeOut_46 rfl ?_
    refine ex_iadd (q := 48) dX12_takeOut_47 ?_
    refine ex_iconst (q := 49) (v := 4) dX12_takeOut_48 (by decide) ?_
    refine ex_iadd (q := 50) dX12_takeOut_49 ?_
    have s6 := w.1
    replace w := w.2
    refine ex_iald (q := 51) dX12_takeOut_50 s6 ?_
    have s8 := w.1
    replace w := w.2
    refine ex_iast (q := 52) dX12_takeOut_51 s8 ?_
    refine ex_nmh (fun h7 eh7 => ?_)
    replace w := w h7 eh7
    obtain ⟨x9, ex9⟩ : ∃ y : Int32, y = v_3 + 1 := ⟨_, rfl⟩
    replace w := w x9 ex9
    refine ex_iinc (q := 55) (x := v_3) (v := x9) (ls' := [.ref a_0, .int v_1, .retAddr 0, .int x9]) dX12_takeOut_52 rfl (by rw [ex9]; rfl) rfl ?_
    refine ex_goto (tgt := 14) dX12_takeOut_55 ?_
    exact w

theorem X12_takeOut_e {d bc bs : Nat} {h : AH} {Q : Option Value → AH → Prop} {a_0 : Nat} {v_1 : Int32} {v_2 : Int32} (w : ex_G mX12_takeOut d 0 [.ref a_0, .int v_1, .int v_2, .retAddr 0] [] h bc bs Q) : ex_S yX12_takeOut mX12_takeOut d [.ref a_0, .int v_1, .int v_2] h bc bs Q :=
  ex_enter (plainFor_of_name (by decide +kernel)) ⟨rfl, rfl⟩ rfl rfl (Nat.le_of_ble_eq_true rfl) (ex_pad 1 w)

set_option maxRecDepth 100000 in
theorem X12_twist_0 {d bc bs : Nat} {h : AH} {Q : Option Value → AH → Prop} {a_0 : Nat} {v_1 : Int32} {v_2 : Int32} (w : ((¬ v_1 = (-1) → ex_G mX12_twist (d + 2) 10 [.ref a_0, .int v_1, .int v_2, .retAddr 0, .retAddr 0, .retAddr 0, .retAddr 0] [.int 0] h bc bs Q) ∧ (v_1 = (-1) → ex_G mX12_twist (d + 2) 10 [.ref a_0, .int v_1, .int v_2, .retAddr 0, .retAddr 0, .retAddr 0, .retAddr 0] [.int 1] h bc bs Q))) : ex_G mX12_twist (d + 2) 0 [.ref a_0, .int v_1, .int v_2, .retAddr 0, .retAddr 0, .retAddr 0, .retAddr 0] [] h bc bs Q := by
  refine ex_iload_n (q := 1) (x := v_1) dX12_twist_0 rfl ?_
  refine ex_iconst (q := 2) (v := (-1)) dX12_twist_1 (by decide) ?_
  refine ex_icmp_ne (tgt := 9) (q := 5) dX12_twist_2 (fun c1 => ?_) (fun c1 => ?_)
  · replace w := w.1 c1
    refine ex_iconst (q := 10) (v := 0) dX12_twist_9 (by decide) ?_
    exact w
  · replace w := w.2 c1
    refine ex_iconst (q := 6) (v := 1) dX12_twist_5 (by decide) ?_
    refine ex_goto (tgt := 10) dX12_twist_6 ?_
    exact w

set_option maxRecDepth 100000 in
theorem X12_twist_10 {d bc bs : Nat} {h : AH} {Q : Option Value → AH → Prop} {a_0 : Nat} {v_1 : Int32} {v_2 : Int32} {u_0 : Int32} (w : ((u_0 = 0 → ah_o h a_0 12 ∧ X12_isEnd_C a_0 364 v_1 h ∧ ((¬ (X12_isEnd_V a_0 364 v_1 h) = 0 → ex_G mX12_twist (d + 2) 42 [.ref a_0, .int v_1, .int v_2, .int u_0, .retAddr 0, .retAddr 0, .retAddr 0] [] h bc bs Q) ∧ ((X12_isEnd_V a_0 364 v_1 h) = 0 → Q (some (.int 5)) h))) ∧ (¬ u_0 = 0 → ah_o h a_0 12 ∧ ∃ a6, ah_r h a_0 3 = some a6 ∧ ld0 h a6 364 ∧ ((¬ (ah_i h a6 (Int32.toNatClampNeg 364)) = 0 → ex_G mX12_twist (d + 2) 42 [.ref a_0, .int v_1, .int v_2, .int u_0, .retAddr 0, .retAddr 0, .retAddr 0] [] h bc bs Q) ∧ ((ah_i h a6 (Int32.toNatClampNeg 364)) = 0 → Q (some (.int 5)) h))))) : ex_G mX12_twist (d + 2) 10 [.ref a_0, .int v_1, .int v_2, .retAddr 0, .retAddr 0, .retAddr 0, .retAddr 0] [.int u_0] h bc bs Q := by
  refine ex_istore_n (q := 11) (ls' := [.ref a_0, .int v_1, .int v_2, .int u_0, .retAddr 0, .retAddr 0, .retAddr 0]) dX12_twist_10 rfl ?_
  refine ex_iload_n (q := 12) (x := u_0) dX12_twist_11 rfl ?_
  refine ex_if_eq (tgt := 29) (q := 15) dX12_twist_12 (fun c1 => ?_) (fun c1 => ?_)
  · replace w := w.1 c1
    refine ex_aload_n (q := 30) (x := a_0) dX12_twist_29 rfl ?_
    refine ex_sipush (q := 33) (v := 364) dX12_twist_30 (by decide) ?_
    refine ex_iload_n (q := 34) (x := v_1) dX12_twist_33 rfl ?_
    have s2 := w.1
    replace w := w.2
    have s3 := w.1
    replace w := w.2
    refine ex_callV (q := 37) (M := mX12_twist) (hdd := Nat.le_refl _) (mc := 0) (ms := 0) (d' := (d + 1)) (c := 12) (st := []) (bc := bc) (bs := bs) dX12_twist_34 rfl cl_X12_301 wd_1844 wd_78 s2 (X12_isEnd_s (Q := fun r z => r = some (.int (X12_isEnd_V a_0 364 v_1 h)) ∧ z = h) s3 ⟨rfl, rfl⟩) ?_
    intro r z hrz
    rw [hrz.1, hrz.2]
    show ex_G mX12_twist (d + 2) 37 [.ref a_0, .int v_1, .int v_2, .int u_0, .retAddr 0, .retAddr 0, .retAddr 0] [.int (X12_isEnd_V a_0 364 v_1 h)] (h) bc bs Q
    refine ex_if_ne (tgt := 42) (q := 40) dX12_twist_37 (fun c4 => ?_) (fun c4 => ?_)
    · replace w := w.1 c4
      exact w
    · replace w := w.2 c4
      refine ex_iconst (q := 41) (v := 5) dX12_twist_40 (by decide) ?_
      exact ex_ireturn dX12_twist_41 rfl (Or.inl rfl) w
  · replace w := w.2 c1
    refine ex_aload_n (q := 16) (x := a_0) dX12_twist_15 rfl ?_
    have s5 := w.1
    replace w := w.2
    obtain ⟨a6, ea6, w⟩ := w
    refine ex_getr (q := 19) dX12_twist_16 fl_X12_16 s5 ea6 ?_
    refine ex_sipush (q := 22) (v := 364) dX12_twist_19 (by decide) ?_
    have s7 := w.1
    replace w := w.2
    refine ex_iald (q := 23) dX12_twist_22 s7 ?_
    refine ex_if_ne (tgt := 42) (q := 26) dX12_twist_23 (fun c8 => ?_) (fun c8 => ?_)
    · replace w := w.1 c8
      exact w
    · replace w := w.2 c8
      refine ex_goto (tgt := 40) dX12_twist_26 ?_
      refine ex_iconst (q := 41) (v := 5) dX12_twist_40 (by decide) ?_
      exact ex_ireturn dX12_twist_41 rfl (Or.inl rfl) w

set_option maxRecDepth 100000 in
theorem X12_twist_42 {d bc bs : Nat} {h : AH} {Q : Option Value → AH → Prop} {a_0 : Nat} {v_1 : Int32} {v_2 : Int32} {v_3 : Int32} (w : ((¬ (X12_in_V (Int32.toInt64 v_2) 0 3 h) = 0 → ah_o h a_0 12 ∧ ∃ a3, ah_r h a_0 2 = some a3 ∧ ld0 h a3 364 ∧ ((¬ (ah_i h a3 (Int32.toNatClampNeg 364)) = 40 → ((v_3 = 0 → X12_arcAt_C a_0 v_1 h ∧ ex_G mX12_twist (d + 2) 92 [.ref a_0, .int v_1, .int v_2, .int v_3, .retAddr 0, .retAddr 0, .retAddr 0] [.int (X12_arcAt_V a_0 v_1 h)] h bc bs Q) ∧ (¬ v_3 = 0 → ex_S yX12_free mX12_free (d + 1) [.ref a_0, .int 364, .int (-1)] h 0 0 (fun r h8 => ∃ x9, r = some (.int x9) ∧ ex_G mX12_twist (d + 2) 92 [.ref a_0, .int v_1, .int v_2, .int v_3, .retAddr 0, .retAddr 0, .retAddr 0] [.int x9] h8 bc bs Q)))) ∧ ((ah_i h a3 (Int32.toNatClampNeg 364)) = 40 → Q (some (.int 8)) h))) ∧ ((X12_in_V (Int32.toInt64 v_2) 0 3 h) = 0 → Q (some (.int 5)) h))) : ex_G mX12_twist (d + 2) 42 [.ref a_0, .int v_1, .int v_2, .int v_3, .retAddr 0, .retAddr 0, .retAddr 0] [] h bc bs Q := by
  refine ex_iload_n (q := 43) (x := v_2) dX12_twist_42 rfl ?_
  refine ex_i2l (q := 44) dX12_twist_43 ?_
  refine ex_lconst (q := 45) (v := 0) dX12_twist_44 (by decide) ?_
  refine ex_ldc2_w (q := 48) (v := 3) dX12_twist_45 wd_1906 ?_
  refine ex_callS (q := 51) (M := mX12_twist) (hdd := Nat.le_refl _) (mc := 0) (ms := 0) (d' := (d + 1)) (st := []) (bc := bc) (bs := bs) dX12_twist_48 rfl cl_X12_172 wd_1596 (X12_in_s (Q := fun r z => r = some (.int (X12_in_V (Int32.toInt64 v_2) 0 3 h)) ∧ z = h) ⟨rfl, rfl⟩) ?_
  intro r z hrz
  rw [hrz.1, hrz.2]
  show ex_G mX12_twist (d + 2) 51 [.ref a_0, .int v_1, .int v_2, .int v_3, .retAddr 0, .retAddr 0, .retAddr 0] [.int (X12_in_V (Int32.toInt64 v_2) 0 3 h)] (h) bc bs Q
  refine ex_if_ne (tgt := 56) (q := 54) dX12_twist_51 (fun c1 => ?_) (fun c1 => ?_)
  · replace w := w.1 c1
    refine ex_aload_n (q := 57) (x := a_0) dX12_twist_56 rfl ?_
    have s2 := w.1
    replace w := w.2
    obtain ⟨a3, ea3, w⟩ := w
    refine ex_getr (q := 60) dX12_twist_57 fl_X12_13 s2 ea3 ?_
    refine ex_sipush (q := 63) (v := 364) dX12_twist_60 (by decide) ?_
    have s4 := w.1
    replace w := w.2
    refine ex_iald (q := 64) dX12_twist_63 s4 ?_
    refine ex_bipush (q := 66) (v := 40) dX12_twist_64 (by decide) ?_
    refine ex_icmp_ne (tgt := 72) (q := 69) dX12_twist_66 (fun c5 => ?_) (fun c5 => ?_)
    · replace w := w.1 c5
      refine ex_iload_n (q := 73) (x := v_3) dX12_twist_72 rfl ?_
      refine ex_if_eq (tgt := 87) (q := 76) dX12_twist_73 (fun c6 => ?_) (fun c6 => ?_)
      · replace w := w.1 c6
        refine ex_aload_n (q := 88) (x := a_0) dX12_twist_87 rfl ?_
        refine ex_iload_n (q := 89) (x := v_1) dX12_twist_88 rfl ?_
        have s7 := w.1
        replace w := w.2
        refine ex_callV (q := 92) (M := mX12_twist) (hdd := Nat.le_refl _) (mc := 0) (ms := 0) (d' := (d + 1)) (c := 12) (st := []) (bc := bc) (bs := bs) dX12_twist_89 rfl cl_X12_310 wd_1848 wd_79 s2 (X12_arcAt_s (Q := fun r z => r = some (.int (X12_arcAt_V a_0 v_1 h)) ∧ z = h) s7 ⟨rfl, rfl⟩) ?_
        intro r z hrz
        rw [hrz.1, hrz.2]
        show ex_G mX12_twist (d + 2) 92 [.ref a_0, .int v_1, .int v_2, .int v_3, .retAddr 0, .retAddr 0, .retAddr 0] [.int (X12_arcAt_V a_0 v_1 h)] (h) bc bs Q
        exact w
      · replace w := w.2 c6
        refine ex_aload_n (q := 77) (x := a_0) dX12_twist_76 rfl ?_
        refine ex_sipush (q := 80) (v := 364) dX12_twist_77 (by decide) ?_
        refine ex_iconst (q := 81) (v := (-1)) dX12_twist_80 (by decide) ?_
        refine ex_callV (q := 84) (M := mX12_twist) (hdd := Nat.le_refl _) (c := 12) (st := []) (bc := bc) (bs := bs) dX12_twist_81 rfl cl_X12_307 wd_1909 wd_93 s2 w ?_
        rintro r h8 ⟨x9, rfl, w⟩
        show ex_G mX12_twist (d + 2) 84 [.ref a_0, .int v_1, .int v_2, .int v_3, .retAddr 0, .retAddr 0, .retAddr 0] [.int x9] h8 bc bs Q
        refine ex_goto (tgt := 92) dX12_twist_84 ?_
        exact w
    · replace w := w.2 c5
      refine ex_bipush (q := 71) (v := 8) dX12_twist_69 (by decide) ?_
      exact ex_ireturn dX12_twist_71 rfl (Or.inl rfl) w
  · replace w := w.2 c1
    refine ex_iconst (q := 55) (v := 5) dX12_twist_54 (by decide) ?_
    exact ex_ireturn dX12_twist_55 rfl (Or.inl rfl) w

set_option maxRecDepth 100000 in
theorem X12_twist_92 {d bc bs : Nat} {h : AH} {Q : Option Value → AH → Prop} {a_0 : Nat} {v_1 : Int32} {v_2 : Int32} {v_3 : Int32} {u_0 : Int32} (w : ((v_3 = 0 → ex_G mX12_twist (d + 2) 108 [.ref a_0, .int v_1, .int v_2, .int v_3, .int u_0, .retAddr 0, .retAddr 0] [.int (-1), .int 364, .ref a_0] h bc bs Q) ∧ (¬ v_3 = 0 → ex_G mX12_twist (d + 2) 108 [.ref a_0, .int v_1, .int v_2, .int v_3, .int u_0, .retAddr 0, .retAddr 0] [.int u_0, .int 364, .ref a_0] h bc bs Q))) : ex_G mX12_twist (d + 2) 92 [.ref a_0, .int v_1, .int v_2, .int v_3, .retAddr 0, .retAddr 0, .retAddr 0] [.int u_0] h bc bs Q := by
  refine ex_istore (q := 94) (ls' := [.ref a_0, .int v_1, .int v_2, .int v_3, .int u_0, .retAddr 0, .retAddr 0]) dX12_twist_92 rfl ?_
  refine ex_aload_n (q := 95) (x := a_0) dX12_twist_94 rfl ?_
  refine ex_sipush (q := 98) (v := 364) dX12_twist_95 (by decide) ?_
  refine ex_iload_n (q := 99) (x := v_3) dX12_twist_98 rfl ?_
  refine ex_if_eq (tgt := 107) (q := 102) dX12_twist_99 (fun c1 => ?_) (fun c1 => ?_)
  · replace w := w.1 c1
    refine ex_iconst (q := 108) (v := (-1)) dX12_twist_107 (by decide) ?_
    exact w
  · replace w := w.2 c1
    refine ex_iload (q := 104) (x := u_0) dX12_twist_102 rfl ?_
    refine ex_goto (tgt := 108) dX12_twist_104 ?_
    exact w

set_option maxRecDepth 100000 in
theorem X12_twist_108 {d bc bs : Nat} {h : AH} {Q : Option Value → AH → Prop} {a_0 : Nat} {v_1 : Int32} {v_2 : Int32} {v_3 : Int32} {v_4 : Int32} {u_0 : Int32} {u_1 : Int32} {b_2 : Nat} (w : ah_o h b_2 12 ∧ ex_S yX12_free mX12_free (d + 1) [.ref b_2, .int u_1, .int u_0] h 0 0 (fun r h1 => ∃ x3, r = some (.int x3) ∧ ((v_3 = 0 → ah_o h1 a_0 12 ∧ ex_S yX12_free mX12_free (d + 1) [.ref a_0, .int 364, .int x3] h1 0 0 (fun r h5 => ∃ x7, r = some (.int x7) ∧ ex_G mX12_twist (d + 2) 131 [.ref a_0, .int v_1, .int v_2, .int v_3, .int v_4, .int x3, .retAddr 0] [.int x7] h5 bc bs Q)) ∧ (¬ v_3 = 0 → ex_G mX12_twist (d + 2) 131 [.ref a_0, .int v_1, .int v_2, .int v_3, .int v_4, .int x3, .retAddr 0] [.int v_4] h1 bc bs Q)))) : ex_G mX12_twist (d + 2) 108 [.ref a_0, .int v_1, .int v_2, .int v_3, .int v_4, .retAddr 0, .retAddr 0] [.int u_0, .int u_1, .ref b_2] h bc bs Q := by
  have s2 := w.1
  replace w := w.2
  refine ex_callV (q := 111) (M := mX12_twist) (hdd := Nat.le_refl _) (c := 12) (st := []) (bc := bc) (bs := bs) dX12_twist_108 rfl cl_X12_307 wd_1909 wd_93 s2 w ?_
  rintro r h1 ⟨x3, rfl, w⟩
  show ex_G mX12_twist (d + 2) 111 [.ref a_0, .int v_1, .int v_2, .int v_3, .int v_4, .retAddr 0, .retAddr 0] [.int x3] h1 bc bs Q
  refine ex_istore (q := 113) (ls' := [.ref a_0, .int v_1, .int v_2, .int v_3, .int v_4, .int x3, .retAddr 0]) dX12_twist_111 rfl ?_
  refine ex_iload_n (q := 114) (x := v_3) dX12_twist_113 rfl ?_
  refine ex_if_eq (tgt := 122) (q := 117) dX12_twist_114 (fun c4 => ?_) (fun c4 => ?_)
  · replace w := w.1 c4
    refine ex_aload_n (q := 123) (x := a_0) dX12_twist_122 rfl ?_
    refine ex_sipush (q := 126) (v := 364) dX12_twist_123 (by decide) ?_
    refine ex_iload (q := 128) (x := x3) dX12_twist_126 rfl ?_
    have s6 := w.1
    replace w := w.2
    refine ex_callV (q := 131) (M := mX12_twist) (hdd := Nat.le_refl _) (c := 12) (st := []) (bc := bc) (bs := bs) dX12_twist_128 rfl cl_X12_307 wd_1909 wd_93 s6 w ?_
    rintro r h5 ⟨x7, rfl, w⟩
    show ex_G mX12_twist (d + 2) 131 [.ref a_0, .int v_1, .int v_2, .int v_3, .int v_4, .int x3, .retAddr 0] [.int x7] h5 bc bs Q
    exact w
  · replace w := w.2 c4
    refine ex_iload (q := 119) (x := v_4) dX12_twist_117 rfl ?_
    refine ex_goto (tgt := 131) dX12_twist_119 ?_
    exact w

set_option maxRecDepth 100000 in
theorem X12_twist_131 {d bc bs : Nat} {h : AH} {Q : Option Value → AH → Prop} {a_0 : Nat} {v_1 : Int32} {v_2 : Int32} {v_3 : Int32} {v_4 : Int32} {v_5 : Int32} {u_0 : Int32} (w : ((v_3 = 0 → ah_o h a_0 12 ∧ ∃ a3, ah_r h a_0 5 = some a3 ∧ ∃ a4, ah_r h a_0 10 = some a4 ∧ ld0 h a4 v_1 ∧ st0 h a3 (58240 + (ah_i h a4 (Int32.toNatClampNeg v_1))) ∧ ∀ h6, h6 = ah_si h a3 (Int32.toNatClampNeg (58240 + (ah_i h a4 (Int32.toNatClampNeg v_1)))) u_0 → ex_G mX12_twist (d + 2) 169 [.ref a_0, .retAddr 0, .int v_2, .retAddr 0, .int v_4, .int v_5, .int u_0] [] h6 bc bs Q) ∧ (¬ v_3 = 0 → ah_o h a_0 12 ∧ ∃ a9, ah_r h a_0 3 = some a9 ∧ ld0 h a9 364 ∧ st0 h a9 364 ∧ ∀ h11, h11 = ah_si h a9 (Int32.toNatClampNeg 364) ((ah_i h a9 (Int32.toNatClampNeg 364)) - 1) → ex_G mX12_twist (d + 2) 169 [.ref a_0, .retAddr 0, .int v_2, .retAddr 0, .int v_4, .int v_5, .int u_0] [] h11 bc bs Q))) : ex_G mX12_twist (d + 2) 131 [.ref a_0, .int v_1, .int v_2, .int v_3, .int v_4, .int v_5, .retAddr 0] [.int u_0] h bc bs Q := by
  refine ex_istore (q := 133) (ls' := [.ref a_0, .int v_1, .int v_2, .int v_3, .int v_4, .int v_5, .int u_0]) dX12_twist_131 rfl ?_
  refine ex_iload_n (q := 134) (x := v_3) dX12_twist_133 rfl ?_
  refine ex_if_eq (tgt := 152) (q := 137) dX12_twist_134 (fun c1 => ?_) (fun c1 => ?_)
  · replace w := w.1 c1
    refine ex_aload_n (q := 153) (x := a_0) dX12_twist_152 rfl ?_
    have s2 := w.1
    replace w := w.2
    obtain ⟨a3, ea3, w⟩ := w
    refine ex_getr (q := 156) dX12_twist_153 fl_X12_23 s2 ea3 ?_
    refine ex_ldc_w (q := 159) (v := 58240) dX12_twist_156 wd_1850 ?_
    refine ex_aload_n (q := 160) (x := a_0) dX12_twist_159 rfl ?_
    obtain ⟨a4, ea4, w⟩ := w
    refine ex_getr (q := 163) dX12_twist_160 fl_X12_36 s2 ea4 ?_
    refine ex_iload_n (q := 164) (x := v_1) dX12_twist_163 rfl ?_
    have s5 := w.1
    replace w := w.2
    refine ex_iald (q := 165) dX12_twist_164 s5 ?_
    refine ex_iadd (q := 166) dX12_twist_165 ?_
    refine ex_iload (q := 168) (x := u_0) dX12_twist_166 rfl ?_
    have s7 := w.1
    replace w := w.2
    refine ex_iast (q := 169) dX12_twist_168 s7 ?_
    refine ex_nmh (fun h6 eh6 => ?_)
    replace w := w h6 eh6
    refine ex_kill 1 (ls' := [.ref a_0, .retAddr 0, .int v_2, .int v_3, .int v_4, .int v_5, .int u_0]) rfl ?_
    refine ex_kill 3 (ls' := [.ref a_0, .retAddr 0, .int v_2, .retAddr 0, .int v_4, .int v_5, .int u_0]) rfl ?_
    exact w
  · replace w := w.2 c1
    refine ex_aload_n (q := 138) (x := a_0) dX12_twist_137 rfl ?_
    have s8 := w.1
    replace w := w.2
    obtain ⟨a9, ea9, w⟩ := w
    refine ex_getr (q := 141) dX12_twist_138 fl_X12_16 s8 ea9 ?_
    refine ex_sipush (q := 144) (v := 364) dX12_twist_141 (by decide) ?_
    refine ex_dup2 (q := 145) dX12_twist_144 rfl rfl ?_
    have s10 := w.1
    replace w := w.2
    refine ex_iald (q := 146) dX12_twist_145 s10 ?_
    refine ex_iconst (q := 147) (v := 1) dX12_twist_146 (by decide) ?_
    refine ex_isub (q := 148) dX12_twist_147 ?_
    have s12 := w.1
    replace w := w.2
    refine ex_iast (q := 149) dX12_twist_148 s12 ?_
    refine ex_nmh (fun h11 eh11 => ?_)
    replace w := w h11 eh11
    refine ex_goto (tgt := 169) dX12_twist_149 ?_
    refine ex_kill 1 (ls' := [.ref a_0, .retAddr 0, .int v_2, .int v_3, .int v_4, .int v_5, .int u_0]) rfl ?_
    refine ex_kill 3 (ls' := [.ref a_0, .retAddr 0, .int v_2, .retAddr 0, .int v_4, .int v_5, .int u_0]) rfl ?_
    exact w

set_option maxRecDepth 100000 in
theorem X12_twist_169 {d bc bs : Nat} {h : AH} {Q : Option Value → AH → Prop} {a_0 : Nat} {v_2 : Int32} {v_4 : Int32} {v_5 : Int32} {v_6 : Int32} (w : ((¬ v_2 = 0 → ((¬ v_2 = 1 → ((¬ v_2 = 2 → ah_o h a_0 12 ∧ ex_S yX12_append mX12_append (d + 1) [.ref a_0, .int 364, .int v_6, .int v_5, .int v_5, .int v_4] h 0 0 (fun r h4 => r = none ∧ Q (some (.int 0)) h4)) ∧ (v_2 = 2 → ah_o h a_0 12 ∧ ex_S yX12_append mX12_append (d + 1) [.ref a_0, .int 364, .int v_5, .int v_5, .int v_6, .int v_4] h 0 0 (fun r h6 => r = none ∧ Q (some (.int 0)) h6)))) ∧ (v_2 = 1 → ah_o h a_0 12 ∧ ex_S yX12_append mX12_append (d + 1) [.ref a_0, .int 364, .int v_4, .int v_6, .int v_5, .int v_5] h 0 0 (fun r h8 => r = none ∧ Q (some (.int 0)) h8)))) ∧ (v_2 = 0 → ah_o h a_0 12 ∧ ex_S yX12_append mX12_append (d + 1) [.ref a_0, .int 364, .int v_4, .int v_5, .int v_5, .int v_6] h 0 0 (fun r h10 => r = none ∧ Q (some (.int 0)) h10)))) : ex_G mX12_twist (d + 2) 169 [.ref a_0, .retAddr 0, .int v_2, .retAddr 0, .int v_4, .int v_5, .int v_6] [] h bc bs Q := by
  refine ex_iload_n (q := 170) (x := v_2) dX12_twist_169 rfl ?_
  refine ex_if_ne (tgt := 191) (q := 173) dX12_twist_170 (fun c1 => ?_) (fun c1 => ?_)
  · replace w := w.1 c1
    refine ex_iload_n (q := 192) (x := v_2) dX12_twist_191 rfl ?_
    refine ex_iconst (q := 193) (v := 1) dX12_twist_192 (by decide) ?_
    refine ex_icmp_ne (tgt := 214) (q := 196) dX12_twist_193 (fun c2 => ?_) (fun c2 => ?_)
    · replace w := w.1 c2
      refine ex_iload_n (q := 215) (x := v_2) dX12_twist_214 rfl ?_
      refine ex_iconst (q := 216) (v := 2) dX12_twist_215 (by decide) ?_
      refine ex_icmp_ne (tgt := 237) (q := 219) dX12_twist_216 (fun c3 => ?_) (fun c3 => ?_)
      · replace w := w.1 c3
        refine ex_aload_n (q := 238) (x := a_0) dX12_twist_237 rfl ?_
        refine ex_sipush (q := 241) (v := 364) dX12_twist_238 (by decide) ?_
        refine ex_iload (q := 243) (x := v_6) dX12_twist_241 rfl ?_
        refine ex_iload (q := 245) (x := v_5) dX12_twist_243 rfl ?_
        refine ex_iload (q := 247) (x := v_5) dX12_twist_245 rfl ?_
        refine ex_iload (q := 249) (x := v_4) dX12_twist_247 rfl ?_
        have s5 := w.1
        replace w := w.2
        refine ex_callV (q := 252) (M := mX12_twist) (hdd := Nat.le_refl _) (c := 12) (st := []) (bc := bc) (bs := bs) dX12_twist_249 rfl cl_X12_194 wd_1605 wd_49 s5 w ?_
        rintro r h4 ⟨rfl, w⟩
        show ex_G mX12_twist (d + 2) 252 [.ref a_0, .retAddr 0, .int v_2, .retAddr 0, .int v_4, .int v_5, .int v_6] [] h4 bc bs Q
        refine ex_iconst (q := 253) (v := 0) dX12_twist_252 (by decide) ?_
        exact ex_ireturn dX12_twist_253 rfl (Or.inl rfl) w
      · replace w := w.2 c3
        refine ex_aload_n (q := 220) (x := a_0) dX12_twist_219 rfl ?_
        refine ex_sipush (q := 223) (v := 364) dX12_twist_220 (by decide) ?_
        refine ex_iload (q := 225) (x := v_5) dX12_twist_223 rfl ?_
        refine ex_iload (q := 227) (x := v_5) dX12_twist_225 rfl ?_
        refine ex_iload (q := 229) (x := v_6) dX12_twist_227 rfl ?_
        refine ex_iload (q := 231) (x := v_4) dX12_twist_229 rfl ?_
        have s7 := w.1
        replace w := w.2
        refine ex_callV (q := 234) (M := mX12_twist) (hdd := Nat.le_refl _) (c := 12) (st := []) (bc := bc) (bs := bs) dX12_twist_231 rfl cl_X12_194 wd_1605 wd_49 s7 w ?_
        rintro r h6 ⟨rfl, w⟩
        show ex_G mX12_twist (d + 2) 234 [.ref a_0, .retAddr 0, .int v_2, .retAddr 0, .int v_4, .int v_5, .int v_6] [] h6 bc bs Q
        refine ex_goto (tgt := 252) dX12_twist_234 ?_
        refine ex_iconst (q := 253) (v := 0) dX12_twist_252 (by decide) ?_
        exact ex_ireturn dX12_twist_253 rfl (Or.inl rfl) w
    · replace w := w.2 c2
      refine ex_aload_n (q := 197) (x := a_0) dX12_twist_196 rfl ?_
      refine ex_sipush (q := 200) (v := 364) dX12_twist_197 (by decide) ?_
      refine ex_iload (q := 202) (x := v_4) dX12_twist_200 rfl ?_
      refine ex_iload (q := 204) (x := v_6) dX12_twist_202 rfl ?_
      refine ex_iload (q := 206) (x := v_5) dX12_twist_204 rfl ?_
      refine ex_iload (q := 208) (x := v_5) dX12_twist_206 rfl ?_
      have s9 := w.1
      replace w := w.2
      refine ex_callV (q := 211) (M := mX12_twist) (hdd := Nat.le_refl _) (c := 12) (st := []) (bc := bc) (bs := bs) dX12_twist_208 rfl cl_X12_194 wd_1605 wd_49 s9 w ?_
      rintro r h8 ⟨rfl, w⟩
      show ex_G mX12_twist (d + 2) 211 [.ref a_0, .retAddr 0, .int v_2, .retAddr 0, .int v_4, .int v_5, .int v_6] [] h8 bc bs Q
      refine ex_goto (tgt := 252) dX12_twist_211 ?_
      refine ex_iconst (q := 253) (v := 0) dX12_twist_252 (by decide) ?_
      exact ex_ireturn dX12_twist_253 rfl (Or.inl rfl) w
  · replace w := w.2 c1
    refine ex_aload_n (q := 174) (x := a_0) dX12_twist_173 rfl ?_
    refine ex_sipush (q := 177) (v := 364) dX12_twist_174 (by decide) ?_
    refine ex_iload (q := 179) (x := v_4) dX12_twist_177 rfl ?_
    refine ex_iload (q := 181) (x := v_5) dX12_twist_179 rfl ?_
    refine ex_iload (q := 183) (x := v_5) dX12_twist_181 rfl ?_
    refine ex_iload (q := 185) (x := v_6) dX12_twist_183 rfl ?_
    have s11 := w.1
    replace w := w.2
    refine ex_callV (q := 188) (M := mX12_twist) (hdd := Nat.le_refl _) (c := 12) (st := []) (bc := bc) (bs := bs) dX12_twist_185 rfl cl_X12_194 wd_1605 wd_49 s11 w ?_
    rintro r h10 ⟨rfl, w⟩
    show ex_G mX12_twist (d + 2) 188 [.ref a_0, .retAddr 0, .int v_2, .retAddr 0, .int v_4, .int v_5, .int v_6] [] h10 bc bs Q
    refine ex_goto (tgt := 252) dX12_twist_188 ?_
    refine ex_iconst (q := 253) (v := 0) dX12_twist_252 (by decide) ?_
    exact ex_ireturn dX12_twist_253 rfl (Or.inl rfl) w

theorem X12_twist_e {d bc bs : Nat} {h : AH} {Q : Option Value → AH → Prop} {a_0 : Nat} {v_1 : Int32} {v_2 : Int32} (w : ex_G mX12_twist (d + 2) 0 [.ref a_0, .int v_1, .int v_2, .retAddr 0, .retAddr 0, .retAddr 0, .retAddr 0] [] h bc bs Q) : ex_S yX12_twist mX12_twist (d + 2) [.ref a_0, .int v_1, .int v_2] h bc bs Q :=
  ex_enter (plainFor_of_name (by decide +kernel)) ⟨rfl, rfl⟩ rfl rfl (Nat.le_of_ble_eq_true rfl) (ex_pad 4 w)

set_option maxRecDepth 100000 in
theorem X12_untwist_0 {d bc bs : Nat} {h : AH} {Q : Option Value → AH → Prop} {a_0 : Nat} {v_1 : Int32} (w : ah_o h a_0 12 ∧ X12_isEnd_C a_0 364 v_1 h ∧ (((X12_isEnd_V a_0 364 v_1 h) = 0 → Q (some (.int 5)) h) ∧ (¬ (X12_isEnd_V a_0 364 v_1 h) = 0 → X12_arcAt_C a_0 v_1 h ∧ X12_arcAt_C a_0 (X12_turned_V v_1 1 h) h ∧ (((X12_arcAt_V a_0 v_1 h) = (X12_arcAt_V a_0 (X12_turned_V v_1 1 h) h) → X12_arcAt_C a_0 (X12_turned_V v_1 2 h) h ∧ X12_arcAt_C a_0 (X12_turned_V v_1 3 h) h ∧ ex_S yX12_joinArcs mX12_joinArcs (d + 1) [.ref a_0, .int 364, .int (X12_arcAt_V a_0 (X12_turned_V v_1 2 h) h), .int (X12_arcAt_V a_0 (X12_turned_V v_1 3 h) h)] h 0 0 (fun r h9 => r = none ∧ ah_o h9 a_0 12 ∧ ex_S yX12_takeOut mX12_takeOut (d + 1) [.ref a_0, .int 364, .int (v_1 / 4)] h9 0 0 (fun r h10 => r = none ∧ ah_o h10 a_0 12 ∧ X12_full_C a_0 h10 ∧ Q (some (.int (X12_full_V a_0 h10))) h10))) ∧ (¬ (X12_arcAt_V a_0 v_1 h) = (X12_arcAt_V a_0 (X12_turned_V v_1 1 h) h) → Q (some (.int 5)) h))))) : ex_G mX12_untwist (d + 2) 0 [.ref a_0, .int v_1] [] h bc bs Q := by
  refine ex_aload_n (q := 1) (x := a_0) dX12_untwist_0 rfl ?_
  refine ex_sipush (q := 4) (v := 364) dX12_untwist_1 (by decide) ?_
  refine ex_iload_n (q := 5) (x := v_1) dX12_untwist_4 rfl ?_
  have s1 := w.1
  replace w := w.2
  have s2 := w.1
  replace w := w.2
  refine ex_callV (q := 8) (M := mX12_untwist) (hdd := Nat.le_refl _) (mc := 0) (ms := 0) (d' := (d + 1)) (c := 12) (st := []) (bc := bc) (bs := bs) dX12_untwist_5 rfl cl_X12_301 wd_1844 wd_78 s1 (X12_isEnd_s (Q := fun r z => r = some (.int (X12_isEnd_V a_0 364 v_1 h)) ∧ z = h) s2 ⟨rfl, rfl⟩) ?_
  intro r z hrz
  rw [hrz.1, hrz.2]
  show ex_G mX12_untwist (d + 2) 8 [.ref a_0, .int v_1] [.int (X12_isEnd_V a_0 364 v_1 h)] (h) bc bs Q
  refine ex_if_eq (tgt := 28) (q := 11) dX12_untwist_8 (fun c3 => ?_) (fun c3 => ?_)
  · replace w := w.1 c3
    refine ex_iconst (q := 29) (v := 5) dX12_untwist_28 (by decide) ?_
    exact ex_ireturn dX12_untwist_29 rfl (Or.inl rfl) w
  · replace w := w.2 c3
    refine ex_aload_n (q := 12) (x := a_0) dX12_untwist_11 rfl ?_
    refine ex_iload_n (q := 13) (x := v_1) dX12_untwist_12 rfl ?_
    have s4 := w.1
    replace w := w.2
    refine ex_callV (q := 16) (M := mX12_untwist) (hdd := Nat.le_refl _) (mc := 0) (ms := 0) (d' := (d + 1)) (c := 12) (st := []) (bc := bc) (bs := bs) dX12_untwist_13 rfl cl_X12_310 wd_1848 wd_79 s1 (X12_arcAt_s (Q := fun r z => r = some (.int (X12_arcAt_V a_0 v_1 h)) ∧ z = h) s4 ⟨rfl, rfl⟩) ?_
    intro r z hrz
    rw [hrz.1, hrz.2]
    show ex_G mX12_untwist (d + 2) 16 [.ref a_0, .int v_1] [.int (X12_arcAt_V a_0 v_1 h)] (h) bc bs Q
    refine ex_aload_n (q := 17) (x := a_0) dX12_untwist_16 rfl ?_
    refine ex_iload_n (q := 18) (x := v_1) dX12_untwist_17 rfl ?_
    refine ex_iconst (q := 19) (v := 1) dX12_untwist_18 (by decide) ?_
    refine ex_callS (q := 22) (M := mX12_untwist) (hdd := Nat.le_refl _) (mc := 0) (ms := 0) (d' := (d + 1)) (st := [.ref a_0, .int (X12_arcAt_V a_0 v_1 h)]) (bc := bc) (bs := bs) dX12_untwist_19 rfl cl_X12_209 wd_1658 (X12_turned_s (Q := fun r z => r = some (.int (X12_turned_V v_1 1 h)) ∧ z = h) ⟨rfl, rfl⟩) ?_
    intro r z hrz
    rw [hrz.1, hrz.2]
    show ex_G mX12_untwist (d + 2) 22 [.ref a_0, .int v_1] [.int (X12_turned_V v_1 1 h), .ref a_0, .int (X12_arcAt_V a_0 v_1 h)] (h) bc bs Q
    have s5 := w.1
    replace w := w.2
    refine ex_callV (q := 25) (M := mX12_untwist) (hdd := Nat.le_refl _) (mc := 0) (ms := 0) (d' := (d + 1)) (c := 12) (st := [.int (X12_arcAt_V a_0 v_1 h)]) (bc := bc) (bs := bs) dX12_untwist_22 rfl cl_X12_310 wd_1848 wd_79 s1 (X12_arcAt_s (Q := fun r z => r = some (.int (X12_arcAt_V a_0 (X12_turned_V v_1 1 h) h)) ∧ z = h) s5 ⟨rfl, rfl⟩) ?_
    intro r z hrz
    rw [hrz.1, hrz.2]
    show ex_G mX12_untwist (d + 2) 25 [.ref a_0, .int v_1] [.int (X12_arcAt_V a_0 (X12_turned_V v_1 1 h) h), .int (X12_arcAt_V a_0 v_1 h)] (h) bc bs Q
    refine ex_icmp_eq (tgt := 30) (q := 28) dX12_untwist_25 (fun c6 => ?_) (fun c6 => ?_)
    · replace w := w.1 c6
      refine ex_aload_n (q := 31) (x := a_0) dX12_untwist_30 rfl ?_
      refine ex_sipush (q := 34) (v := 364) dX12_untwist_31 (by decide) ?_
      refine ex_aload_n (q := 35) (x := a_0) dX12_untwist_34 rfl ?_
      refine ex_iload_n (q := 36) (x := v_1) dX12_untwist_35 rfl ?_
      refine ex_iconst (q := 37) (v := 2) dX12_untwist_36 (by decide) ?_
      refine ex_callS (q := 40) (M := mX12_untwist) (hdd := Nat.le_refl _) (mc := 0) (ms := 0) (d' := (d + 1)) (st := [.ref a_0, .int 364, .ref a_0]) (bc := bc) (bs := bs) dX12_untwist_37 rfl cl_X12_209 wd_1658 (X12_turned_s (Q := fun r z => r = some (.int (X12_turned_V v_1 2 h)) ∧ z = h) ⟨rfl, rfl⟩) ?_
      intro r z hrz
      rw [hrz.1, hrz.2]
      show ex_G mX12_untwist (d + 2) 40 [.ref a_0, .int v_1] [.int (X12_turned_V v_1 2 h), .ref a_0, .int 364, .ref a_0] (h) bc bs Q
      have s7 := w.1
      replace w := w.2
      refine ex_callV (q := 43) (M := mX12_untwist) (hdd := Nat.le_refl _) (mc := 0) (ms := 0) (d' := (d + 1)) (c := 12) (st := [.int 364, .ref a_0]) (bc := bc) (bs := bs) dX12_untwist_40 rfl cl_X12_310 wd_1848 wd_79 s1 (X12_arcAt_s (Q := fun r z => r = some (.int (X12_arcAt_V a_0 (X12_turned_V v_1 2 h) h)) ∧ z = h) s7 ⟨rfl, rfl⟩) ?_
      intro r z hrz
      rw [hrz.1, hrz.2]
      show ex_G mX12_untwist (d + 2) 43 [.ref a_0, .int v_1] [.int (X12_arcAt_V a_0 (X12_turned_V v_1 2 h) h), .int 364, .ref a_0] (h) bc bs Q
      refine ex_aload_n (q := 44) (x := a_0) dX12_untwist_43 rfl ?_
      refine ex_iload_n (q := 45) (x := v_1) dX12_untwist_44 rfl ?_
      refine ex_iconst (q := 46) (v := 3) dX12_untwist_45 (by decide) ?_
      refine ex_callS (q := 49) (M := mX12_untwist) (hdd := Nat.le_refl _) (mc := 0) (ms := 0) (d' := (d + 1)) (st := [.ref a_0, .int (X12_arcAt_V a_0 (X12_turned_V v_1 2 h) h), .int 364, .ref a_0]) (bc := bc) (bs := bs) dX12_untwist_46 rfl cl_X12_209 wd_1658 (X12_turned_s (Q := fun r z => r = some (.int (X12_turned_V v_1 3 h)) ∧ z = h) ⟨rfl, rfl⟩) ?_
      intro r z hrz
      rw [hrz.1, hrz.2]
      show ex_G mX12_untwist (d + 2) 49 [.ref a_0, .int v_1] [.int (X12_turned_V v_1 3 h), .ref a_0, .int (X12_arcAt_V a_0 (X12_turned_V v_1 2 h) h), .int 364, .ref a_0] (h) bc bs Q
      have s8 := w.1
      replace w := w.2
      refine ex_callV (q := 52) (M := mX12_untwist) (hdd := Nat.le_refl _) (mc := 0) (ms := 0) (d' := (d + 1)) (c := 12) (st := [.int (X12_arcAt_V a_0 (X12_turned_V v_1 2 h) h), .int 364, .ref a_0]) (bc := bc) (bs := bs) dX12_untwist_49 rfl cl_X12_310 wd_1848 wd_79 s1 (X12_arcAt_s (Q := fun r z => r = some (.int (X12_arcAt_V a_0 (X12_turned_V v_1 3 h) h)) ∧ z = h) s8 ⟨rfl, rfl⟩) ?_
      intro r z hrz
      rw [hrz.1, hrz.2]
      show ex_G mX12_untwist (d + 2) 52 [.ref a_0, .int v_1] [.int (X12_arcAt_V a_0 (X12_turned_V v_1 3 h) h), .int (X12_arcAt_V a_0 (X12_turned_V v_1 2 h) h), .int 364, .ref a_0] (h) bc bs Q
      refine ex_callV (q := 55) (M := mX12_untwist) (hdd := Nat.le_refl _) (c := 12) (st := []) (bc := bc) (bs := bs) dX12_untwist_52 rfl cl_X12_313 wd_1853 wd_80 s1 w ?_
      rintro r h9 ⟨rfl, w⟩
      show ex_G mX12_untwist (d + 2) 55 [.ref a_0, .int v_1] [] h9 bc bs Q
      refine ex_aload_n (q := 56) (x := a_0) dX12_untwist_55 rfl ?_
      refine ex_sipush (q := 59) (v := 364) dX12_untwist_56 (by decide) ?_
      refine ex_iload_n (q := 60) (x := v_1) dX12_untwist_59 rfl ?_
      refine ex_iconst (q := 61) (v := 4) dX12_untwist_60 (by decide) ?_
      refine ex_idiv (q := 62) dX12_untwist_61 (by decide) ?_
      have s11 := w.1
      replace w := w.2
      refine ex_callV (q := 65) (M := mX12_untwist) (hdd := Nat.le_refl _) (c := 12) (st := []) (bc := bc) (bs := bs) dX12_untwist_62 rfl cl_X12_317 wd_1857 wd_81 s11 w ?_
      rintro r h10 ⟨rfl, w⟩
      show ex_G mX12_untwist (d + 2) 65 [.ref a_0, .int v_1] [] h10 bc bs Q
      refine ex_aload_n (q := 66) (x := a_0) dX12_untwist_65 rfl ?_
      have s12 := w.1
      replace w := w.2
      have s13 := w.1
      replace w := w.2
      refine ex_callV (q := 69) (M := mX12_untwist) (hdd := Nat.le_refl _) (mc := 0) (ms := 0) (d' := (d + 1)) (c := 12) (st := []) (bc := bc) (bs := bs) dX12_untwist_66 rfl cl_X12_320 wd_1861 wd_82 s12 (X12_full_s (Q := fun r z => r = some (.int (X12_full_V a_0 h10)) ∧ z = h10) s13 ⟨rfl, rfl⟩) ?_
      intro r z hrz
      rw [hrz.1, hrz.2]
      show ex_G mX12_untwist (d + 2) 69 [.ref a_0, .int v_1] [.int (X12_full_V a_0 h10)] (h10) bc bs Q
      exact ex_ireturn dX12_untwist_69 rfl (Or.inl rfl) w
    · replace w := w.2 c6
      refine ex_iconst (q := 29) (v := 5) dX12_untwist_28 (by decide) ?_
      exact ex_ireturn dX12_untwist_29 rfl (Or.inl rfl) w

theorem X12_untwist_e {d bc bs : Nat} {h : AH} {Q : Option Value → AH → Prop} {a_0 : Nat} {v_1 : Int32} (w : ex_G mX12_untwist (d + 2) 0 [.ref a_0, .int v_1] [] h bc bs Q) : ex_S yX12_untwist mX12_untwist (d + 2) [.ref a_0, .int v_1] h bc bs Q :=
  ex_enter (plainFor_of_name (by decide +kernel)) ⟨rfl, rfl⟩ rfl rfl (Nat.le_of_ble_eq_true rfl) (ex_pad 0 w)

set_option maxRecDepth 100000 in
theorem X12_isOfFace_0 {d bc bs : Nat} {h : AH} {Q : Option Value → AH → Prop} {a_0 : Nat} {v_1 : Int32} {v_2 : Int32} (w : ((¬ v_1 = v_2 → ah_o h a_0 12 ∧ X12_nextOfFace_C a_0 v_1 h ∧ ∀ x4, x4 = X12_nextOfFace_V a_0 v_1 h → ex_G mX12_isOfFace (d + 2) 18 [.ref a_0, .int v_1, .int v_2, .int 0, .int x4] [] h bc bs Q) ∧ (v_1 = v_2 → ah_o h a_0 12 ∧ X12_nextOfFace_C a_0 v_1 h ∧ ∀ x7, x7 = X12_nextOfFace_V a_0 v_1 h → ex_G mX12_isOfFace (d + 2) 18 [.ref a_0, .int v_1, .int v_2, .int 1, .int x7] [] h bc bs Q))) : ex_G mX12_isOfFace (d + 2) 0 [.ref a_0, .int v_1, .int v_2, .retAddr 0, .retAddr 0] [] h bc bs Q := by
  refine ex_iload_n (q := 1) (x := v_1) dX12_isOfFace_0 rfl ?_
  refine ex_iload_n (q := 2) (x := v_2) dX12_isOfFace_1 rfl ?_
  refine ex_icmp_ne (tgt := 9) (q := 5) dX12_isOfFace_2 (fun c1 => ?_) (fun c1 => ?_)
  · replace w := w.1 c1
    refine ex_iconst (q := 10) (v := 0) dX12_isOfFace_9 (by decide) ?_
    refine ex_istore_n (q := 11) (ls' := [.ref a_0, .int v_1, .int v_2, .int 0, .retAddr 0]) dX12_isOfFace_10 rfl ?_
    refine ex_aload_n (q := 12) (x := a_0) dX12_isOfFace_11 rfl ?_
    refine ex_iload_n (q := 13) (x := v_1) dX12_isOfFace_12 rfl ?_
    have s2 := w.1
    replace w := w.2
    have s3 := w.1
    replace w := w.2
    refine ex_callV (q := 16) (M := mX12_isOfFace) (hdd := Nat.le_refl _) (mc := 0) (ms := 0) (d' := (d + 1)) (c := 12) (st := []) (bc := bc) (bs := bs) dX12_isOfFace_13 rfl cl_X12_213 wd_1655 wd_55 s2 (X12_nextOfFace_s (Q := fun r z => r = some (.int (X12_nextOfFace_V a_0 v_1 h)) ∧ z = h) s3 ⟨rfl, rfl⟩) ?_
    intro r z hrz
    rw [hrz.1, hrz.2]
    show ex_G mX12_isOfFace (d + 2) 16 [.ref a_0, .int v_1, .int v_2, .int 0, .retAddr 0] [.int (X12_nextOfFace_V a_0 v_1 h)] (h) bc bs Q
    refine ex_nmi (fun x4 ex4 => ?_)
    replace w := w x4 ex4
    refine ex_istore (q := 18) (ls' := [.ref a_0, .int v_1, .int v_2, .int 0, .int x4]) dX12_isOfFace_16 rfl ?_
    exact w
  · replace w := w.2 c1
    refine ex_iconst (q := 6) (v := 1) dX12_isOfFace_5 (by decide) ?_
    refine ex_goto (tgt := 10) dX12_isOfFace_6 ?_
    refine ex_istore_n (q := 11) (ls' := [.ref a_0, .int v_1, .int v_2, .int 1, .retAddr 0]) dX12_isOfFace_10 rfl ?_
    refine ex_aload_n (q := 12) (x := a_0) dX12_isOfFace_11 rfl ?_
    refine ex_iload_n (q := 13) (x := v_1) dX12_isOfFace_12 rfl ?_
    have s5 := w.1
    replace w := w.2
    have s6 := w.1
    replace w := w.2
    refine ex_callV (q := 16) (M := mX12_isOfFace) (hdd := Nat.le_refl _) (mc := 0) (ms := 0) (d' := (d + 1)) (c := 12) (st := []) (bc := bc) (bs := bs) dX12_isOfFace_13 rfl cl_X12_213 wd_1655 wd_55 s5 (X12_nextOfFace_s (Q := fun r z => r = some (.int (X12_nextOfFace_V a_0 v_1 h)) ∧ z = h) s6 ⟨rfl, rfl⟩) ?_
    intro r z hrz
    rw [hrz.1, hrz.2]
    show ex_G mX12_isOfFace (d + 2) 16 [.ref a_0, .int v_1, .int v_2, .int 1, .retAddr 0] [.int (X12_nextOfFace_V a_0 v_1 h)] (h) bc bs Q
    refine ex_nmi (fun x7 ex7 => ?_)
    replace w := w x7 ex7
    refine ex_istore (q := 18) (ls' := [.ref a_0, .int v_1, .int v_2, .int 1, .int x7]) dX12_isOfFace_16 rfl ?_
    exact w

set_option maxRecDepth 100000 in
theorem X12_isOfFace_18 {d bc bs : Nat} {h : AH} {Q : Option Value → AH → Prop} {a_0 : Nat} {v_1 : Int32} {v_2 : Int32} {v_3 : Int32} {v_4 : Int32} (w : ((v_4 = v_1 → bo v_3 ∧ Q (some (.int v_3)) h) ∧ (¬ v_4 = v_1 → ((¬ v_4 = v_2 → ∀ x4, x4 = v_3 ||| 0 → ah_o h a_0 12 ∧ X12_nextOfFace_C a_0 v_4 h ∧ ∀ x7, x7 = X12_nextOfFace_V a_0 v_4 h → ex_G mX12_isOfFace (d + 2) 18 [.ref a_0, .int v_1, .int v_2, .int x4, .int x7] [] h bc bs Q) ∧ (v_4 = v_2 → ∀ x8, x8 = v_3 ||| 1 → ah_o h a_0 12 ∧ X12_nextOfFace_C a_0 v_4 h ∧ ∀ x11, x11 = X12_nextOfFace_V a_0 v_4 h → ex_G mX12_isOfFace (d + 2) 18 [.ref a_0, .int v_1, .int v_2, .int x8, .int x11] [] h bc bs Q))))) : ex_G mX12_isOfFace (d + 2) 18 [.ref a_0, .int v_1, .int v_2, .int v_3, .int v_4] [] h bc bs Q := by
  refine ex_iload (q := 20) (x := v_4) dX12_isOfFace_18 rfl ?_
  refine ex_iload_n (q := 21) (x := v_1) dX12_isOfFace_20 rfl ?_
  refine ex_icmp_eq (tgt := 49) (q := 24) dX12_isOfFace_21 (fun c1 => ?_) (fun c1 => ?_)
  · replace w := w.1 c1
    refine ex_iload_n (q := 50) (x := v_3) dX12_isOfFace_49 rfl ?_
    have s2 := w.1
    replace w := w.2
    exact ex_ireturn dX12_isOfFace_50 rfl (Or.inr ⟨rfl, s2⟩) w
  · replace w := w.2 c1
    refine ex_iload_n (q := 25) (x := v_3) dX12_isOfFace_24 rfl ?_
    refine ex_iload (q := 27) (x := v_4) dX12_isOfFace_25 rfl ?_
    refine ex_iload_n (q := 28) (x := v_2) dX12_isOfFace_27 rfl ?_
    refine ex_icmp_ne (tgt := 35) (q := 31) dX12_isOfFace_28 (fun c3 => ?_) (fun c3 => ?_)
    · replace w := w.1 c3
      refine ex_iconst (q := 36) (v := 0) dX12_isOfFace_35 (by decide) ?_
      refine ex_ior (q := 37) dX12_isOfFace_36 ?_
      refine ex_nmi (fun x4 ex4 => ?_)
      replace w := w x4 ex4
      refine ex_istore_n (q := 38) (ls' := [.ref a_0, .int v_1, .int v_2, .int x4, .int v_4]) dX12_isOfFace_37 rfl ?_
      refine ex_aload_n (q := 39) (x := a_0) dX12_isOfFace_38 rfl ?_
      refine ex_iload (q := 41) (x := v_4) dX12_isOfFace_39 rfl ?_
      have s5 := w.1
      replace w := w.2
      have s6 := w.1
      replace w := w.2
      refine ex_callV (q := 44) (M := mX12_isOfFace) (hdd := Nat.le_refl _) (mc := 0) (ms := 0) (d' := (d + 1)) (c := 12) (st := []) (bc := bc) (bs := bs) dX12_isOfFace_41 rfl cl_X12_213 wd_1655 wd_55 s5 (X12_nextOfFace_s (Q := fun r z => r = some (.int (X12_nextOfFace_V a_0 v_4 h)) ∧ z = h) s6 ⟨rfl, rfl⟩) ?_
      intro r z hrz
      rw [hrz.1, hrz.2]
      show ex_G mX12_isOfFace (d + 2) 44 [.ref a_0, .int v_1, .int v_2, .int x4, .int v_4] [.int (X12_nextOfFace_V a_0 v_4 h)] (h) bc bs Q
      refine ex_nmi (fun x7 ex7 => ?_)
      replace w := w x7 ex7
      refine ex_istore (q := 46) (ls' := [.ref a_0, .int v_1, .int v_2, .int x4, .int x7]) dX12_isOfFace_44 rfl ?_
      refine ex_goto (tgt := 18) dX12_isOfFace_46 ?_
      exact w
    · replace w := w.2 c3
      refine ex_iconst (q := 32) (v := 1) dX12_isOfFace_31 (by decide) ?_
      refine ex_goto (tgt := 36) dX12_isOfFace_32 ?_
      refine ex_ior (q := 37) dX12_isOfFace_36 ?_
      refine ex_nmi (fun x8 ex8 => ?_)
      replace w := w x8 ex8
      refine ex_istore_n (q := 38) (ls' := [.ref a_0, .int v_1, .int v_2, .int x8, .int v_4]) dX12_isOfFace_37 rfl ?_
      refine ex_aload_n (q := 39) (x := a_0) dX12_isOfFace_38 rfl ?_
      refine ex_iload (q := 41) (x := v_4) dX12_isOfFace_39 rfl ?_
      have s9 := w.1
      replace w := w.2
      have s10 := w.1
      replace w := w.2
      refine ex_callV (q := 44) (M := mX12_isOfFace) (hdd := Nat.le_refl _) (mc := 0) (ms := 0) (d' := (d + 1)) (c := 12) (st := []) (bc := bc) (bs := bs) dX12_isOfFace_41 rfl cl_X12_213 wd_1655 wd_55 s9 (X12_nextOfFace_s (Q := fun r z => r = some (.int (X12_nextOfFace_V a_0 v_4 h)) ∧ z = h) s10 ⟨rfl, rfl⟩) ?_
      intro r z hrz
      rw [hrz.1, hrz.2]
      show ex_G mX12_isOfFace (d + 2) 44 [.ref a_0, .int v_1, .int v_2, .int x8, .int v_4] [.int (X12_nextOfFace_V a_0 v_4 h)] (h) bc bs Q
      refine ex_nmi (fun x11 ex11 => ?_)
      replace w := w x11 ex11
      refine ex_istore (q := 46) (ls' := [.ref a_0, .int v_1, .int v_2, .int x8, .int x11]) dX12_isOfFace_44 rfl ?_
      refine ex_goto (tgt := 18) dX12_isOfFace_46 ?_
      exact w

theorem X12_isOfFace_e {d bc bs : Nat} {h : AH} {Q : Option Value → AH → Prop} {a_0 : Nat} {v_1 : Int32} {v_2 : Int32} (w : ex_G mX12_isOfFace (d + 2) 0 [.ref a_0, .int v_1, .int v_2, .retAddr 0, .retAddr 0] [] h bc bs Q) : ex_S yX12_isOfFace mX12_isOfFace (d + 2) [.ref a_0, .int v_1, .int v_2] h bc bs Q :=
  ex_enter (plainFor_of_name (by decide +kernel)) ⟨rfl, rfl⟩ rfl rfl (Nat.le_of_ble_eq_true rfl) (ex_pad 2 w)

set_option maxRecDepth 100000 in
theorem X12_poke_0 {d bc bs : Nat} {h : AH} {Q : Option Value → AH → Prop} {a_0 : Nat} {v_1 : Int32} {v_2 : Int32} {v_3 : Int32} (w : ah_o h a_0 12 ∧ X12_isEnd_C a_0 364 v_1 h ∧ (((X12_isEnd_V a_0 364 v_1 h) = 0 → Q (some (.int 5)) h) ∧ (¬ (X12_isEnd_V a_0 364 v_1 h) = 0 → X12_isEnd_C a_0 364 v_2 h ∧ (((X12_isEnd_V a_0 364 v_2 h) = 0 → Q (some (.int 5)) h) ∧ (¬ (X12_isEnd_V a_0 364 v_2 h) = 0 → (((X12_in_V (Int32.toInt64 v_3) 0 1 h) = 0 → Q (some (.int 5)) h) ∧ (¬ (X12_in_V (Int32.toInt64 v_3) 0 1 h) = 0 → X12_arcAt_C a_0 v_1 h ∧ X12_arcAt_C a_0 v_2 h ∧ (((X12_arcAt_V a_0 v_1 h) = (X12_arcAt_V a_0 v_2 h) → Q (some (.int 5)) h) ∧ (¬ (X12_arcAt_V a_0 v_1 h) = (X12_arcAt_V a_0 v_2 h) → ex_S yX12_isOfFace mX12_isOfFace (d + 2) [.ref a_0, .int v_1, .int v_2] h 0 0 (fun r h10 => ∃ x11, r = some (.int x11) ∧ ((¬ x11 = 0 → ah_o h10 a_0 12 ∧ ∃ a14, ah_r h10 a_0 2 = some a14 ∧ ld0 h10 a14 364 ∧ (((ah_i h10 a14 (Int32.toNatClampNeg 364)) ≤ 38 → X12_arcAt_C a_0 v_1 h10 ∧ ∀ x18, x18 = X12_arcAt_V a_0 v_1 h10 → X12_arcAt_C a_0 v_2 h10 ∧ ∀ x20, x20 = X12_arcAt_V a_0 v_2 h10 → ex_S yX12_free mX12_free (d + 2) [.ref a_0, .int 364, .int (-1)] h10 0 0 (fun r h21 => ∃ x22, r = some (.int x22) ∧ ah_o h21 a_0 12 ∧ ex_S yX12_free mX12_free (d + 2) [.ref a_0, .int 364, .int x22] h21 0 0 (fun r h23 => ∃ x25, r = some (.int x25) ∧ ah_o h23 a_0 12 ∧ ex_S yX12_free mX12_free (d + 2) [.ref a_0, .int 364, .int x25] h23 0 0 (fun r h26 => ∃ x28, r = some (.int x28) ∧ ah_o h26 a_0 12 ∧ ex_S yX12_free mX12_free (d + 2) [.ref a_0, .int 364, .int x28] h26 0 0 (fun r h29 => ∃ x31, r = some (.int x31) ∧ ah_o h29 a_0 12 ∧ ∃ a33, ah_r h29 a_0 5 = some a33 ∧ ∃ a34, ah_r h29 a_0 10 = some a34 ∧ ld0 h29 a34 v_1 ∧ st0 h29 a33 (58240 + (ah_i h29 a34 (Int32.toNatClampNeg v_1))) ∧ ∀ h36, h36 = ah_si h29 a33 (Int32.toNatClampNeg (58240 + (ah_i h29 a34 (Int32.toNatClampNeg v_1)))) x25 → ld0 h36 a34 v_2 ∧ st0 h36 a33 (58240 + (ah_i h36 a34 (Int32.toNatClampNeg v_2))) ∧ ∀ h39, h39 = ah_si h36 a33 (Int32.toNatClampNeg (58240 + (ah_i h36 a34 (Int32.toNatClampNeg v_2)))) x31 → ((¬ v_3 = 0 → ex_S yX12_append mX12_append (d + 2) [.ref a_0, .int 364, .int x18, .int x28, .int x22, .int x31] h39 0 0 (fun r h42 => r = none ∧ ah_o h42 a_0 12 ∧ ex_S yX12_append mX12_append (d + 2) [.ref a_0, .int 364, .int x25, .int x20, .int x22, .int x28] h42 0 0 (fun r h43 => r = none ∧ Q (some (.int 0)) h43))) ∧ (v_3 = 0 → ex_S yX12_append mX12_append (d + 2) [.ref a_0, .int 364, .int x28, .int x22, .int x31, .int x18] h39 0 0 (fun r h45 => r = none ∧ ah_o h45 a_0 12 ∧ ex_S yX12_append mX12_append (d + 2) [.ref a_0, .int 364, .int x20, .int x22, .int x28, .int x25] h45 0 0 (fun r h46 => r = none ∧ Q (some (.int 0)) h46))))))))) ∧ (¬ (ah_i h10 a14 (Int32.toNatClampNeg 364)) ≤ 38 → Q (some (.int 8)) h10))) ∧ (x11 = 0 → Q (some (.int 5)) h10)))))))))))) : ex_G mX12_poke (d + 3) 0 [.ref a_0, .int v_1, .int v_2, .int v_3, .retAddr 0, .retAddr 0, .retAddr 0, .retAddr 0, .retAddr 0, .retAddr 0] [] h bc bs Q := by
  refine ex_aload_n (q := 1) (x := a_0) dX12_poke_0 rfl ?_
  refine ex_sipush (q := 4) (v := 364) dX12_poke_1 (by decide) ?_
  refine ex_iload_n (q := 5) (x := v_1) dX12_poke_4 rfl ?_
  have s1 := w.1
  replace w := w.2
  have s2 := w.1
  replace w := w.2
  refine ex_callV (q := 8) (M := mX12_poke) (hdd := Nat.le_refl _) (mc := 0) (ms := 0) (d' := (d + 2)) (c := 12) (st := []) (bc := bc) (bs := bs) dX12_poke_5 rfl cl_X12_301 wd_1844 wd_78 s1 (X12_isEnd_s (Q := fun r z => r = some (.int (X12_isEnd_V a_0 364 v_1 h)) ∧ z = h) s2 ⟨rfl, rfl⟩) ?_
  intro r z hrz
  rw [hrz.1, hrz.2]
  show ex_G mX12_poke (d + 3) 8 [.ref a_0, .int v_1, .int v_2, .int v_3, .retAddr 0, .retAddr 0, .retAddr 0, .retAddr 0, .retAddr 0, .retAddr 0] [.int (X12_isEnd_V a_0 364 v_1 h)] (h) bc bs Q
  refine ex_if_eq (tgt := 54) (q := 11) dX12_poke_8 (fun c3 => ?_) (fun c3 => ?_)
  · replace w := w.1 c3
    refine ex_iconst (q := 55) (v := 5) dX12_poke_54 (by decide) ?_
    exact ex_ireturn dX12_poke_55 rfl (Or.inl rfl) w
  · replace w := w.2 c3
    refine ex_aload_n (q := 12) (x := a_0) dX12_poke_11 rfl ?_
    refine ex_sipush (q := 15) (v := 364) dX12_poke_12 (by decide) ?_
    refine ex_iload_n (q := 16) (x := v_2) dX12_poke_15 rfl ?_
    have s4 := w.1
    replace w := w.2
    refine ex_callV (q := 19) (M := mX12_poke) (hdd := Nat.le_refl _) (mc := 0) (ms := 0) (d' := (d + 2)) (c := 12) (st := []) (bc := bc) (bs := bs) dX12_poke_16 rfl cl_X12_301 wd_1844 wd_78 s1 (X12_isEnd_s (Q := fun r z => r = some (.int (X12_isEnd_V a_0 364 v_2 h)) ∧ z = h) s4 ⟨rfl, rfl⟩) ?_
    intro r z hrz
    rw [hrz.1, hrz.2]
    show ex_G mX12_poke (d + 3) 19 [.ref a_0, .int v_1, .int v_2, .int v_3, .retAddr 0, .retAddr 0, .retAddr 0, .retAddr 0, .retAddr 0, .retAddr 0] [.int (X12_isEnd_V a_0 364 v_2 h)] (h) bc bs Q
    refine ex_if_eq (tgt := 54) (q := 22) dX12_poke_19 (fun c5 => ?_) (fun c5 => ?_)
    · replace w := w.1 c5
      refine ex_iconst (q := 55) (v := 5) dX12_poke_54 (by decide) ?_
      exact ex_ireturn dX12_poke_55 rfl (Or.inl rfl) w
    · replace w := w.2 c5
      refine ex_iload_n (q := 23) (x := v_3) dX12_poke_22 rfl ?_
      refine ex_i2l (q := 24) dX12_poke_23 ?_
      refine ex_lconst (q := 25) (v := 0) dX12_poke_24 (by decide) ?_
      refine ex_lconst (q := 26) (v := 1) dX12_poke_25 (by decide) ?_
      refine ex_callS (q := 29) (M := mX12_poke) (hdd := Nat.le_refl _) (mc := 0) (ms := 0) (d' := (d + 2)) (st := []) (bc := bc) (bs := bs) dX12_poke_26 rfl cl_X12_172 wd_1596 (X12_in_s (Q := fun r z => r = some (.int (X12_in_V (Int32.toInt64 v_3) 0 1 h)) ∧ z = h) ⟨rfl, rfl⟩) ?_
      intro r z hrz
      rw [hrz.1, hrz.2]
      show ex_G mX12_poke (d + 3) 29 [.ref a_0, .int v_1, .int v_2, .int v_3, .retAddr 0, .retAddr 0, .retAddr 0, .retAddr 0, .retAddr 0, .retAddr 0] [.int (X12_in_V (Int32.toInt64 v_3) 0 1 h)] (h) bc bs Q
      refine ex_if_eq (tgt := 54) (q := 32) dX12_poke_29 (fun c6 => ?_) (fun c6 => ?_)
      · replace w := w.1 c6
        refine ex_iconst (q := 55) (v := 5) dX12_poke_54 (by decide) ?_
        exact ex_ireturn dX12_poke_55 rfl (Or.inl rfl) w
      · replace w := w.2 c6
        refine ex_aload_n (q := 33) (x := a_0) dX12_poke_32 rfl ?_
        refine ex_iload_n (q := 34) (x := v_1) dX12_poke_33 rfl ?_
        have s7 := w.1
        replace w := w.2
        refine ex_callV (q := 37) (M := mX12_poke) (hdd := Nat.le_refl _) (mc := 0) (ms := 0) (d' := (d + 2)) (c := 12) (st := []) (bc := bc) (bs := bs) dX12_poke_34 rfl cl_X12_310 wd_1848 wd_79 s1 (X12_arcAt_s (Q := fun r z => r = some (.int (X12_arcAt_V a_0 v_1 h)) ∧ z = h) s7 ⟨rfl, rfl⟩) ?_
        intro r z hrz
        rw [hrz.1, hrz.2]
        show ex_G mX12_poke (d + 3) 37 [.ref a_0, .int v_1, .int v_2, .int v_3, .retAddr 0, .retAddr 0, .retAddr 0, .retAddr 0, .retAddr 0, .retAddr 0] [.int (X12_arcAt_V a_0 v_1 h)] (h) bc bs Q
        refine ex_aload_n (q := 38) (x := a_0) dX12_poke_37 rfl ?_
        refine ex_iload_n (q := 39) (x := v_2) dX12_poke_38 rfl ?_
        have s8 := w.1
        replace w := w.2
        refine ex_callV (q := 42) (M := mX12_poke) (hdd := Nat.le_refl _) (mc := 0) (ms := 0) (d' := (d + 2)) (c := 12) (st := [.int (X12_arcAt_V a_0 v_1 h)]) (bc := bc) (bs := bs) dX12_poke_39 rfl cl_X12_310 wd_1848 wd_79 s1 (X12_arcAt_s (Q := fun r z => r = some (.int (X12_arcAt_V a_0 v_2 h)) ∧ z = h) s8 ⟨rfl, rfl⟩) ?_
        intro r z hrz
        rw [hrz.1, hrz.2]
        show ex_G mX12_poke (d + 3) 42 [.ref a_0, .int v_1, .int v_2, .int v_3, .retAddr 0, .retAddr 0, .retAddr 0, .retAddr 0, .retAddr 0, .retAddr 0] [.int (X12_arcAt_V a_0 v_2 h), .int (X12_arcAt_V a_0 v_1 h)] (h) bc bs Q
        refine ex_icmp_eq (tgt := 54) (q := 45) dX12_poke_42 (fun c9 => ?_) (fun c9 => ?_)
        · replace w := w.1 c9
          refine ex_iconst (q := 55) (v := 5) dX12_poke_54 (by decide) ?_
          exact ex_ireturn dX12_poke_55 rfl (Or.inl rfl) w
        · replace w := w.2 c9
          refine ex_aload_n (q := 46) (x := a_0) dX12_poke_45 rfl ?_
          refine ex_iload_n (q := 47) (x := v_1) dX12_poke_46 rfl ?_
          refine ex_iload_n (q := 48) (x := v_2) dX12_poke_47 rfl ?_
          refine ex_callV (q := 51) (M := mX12_poke) (hdd := Nat.le_refl _) (c := 12) (st := []) (bc := bc) (bs := bs) dX12_poke_48 rfl cl_X12_323 wd_1917 wd_95 s1 w ?_
          rintro r h10 ⟨x11, rfl, w⟩
          show ex_G mX12_poke (d + 3) 51 [.ref a_0, .int v_1, .int v_2, .int v_3, .retAddr 0, .retAddr 0, .retAddr 0, .retAddr 0, .retAddr 0, .retAddr 0] [.int x11] h10 bc bs Q
          refine ex_if_ne (tgt := 56) (q := 54) dX12_poke_51 (fun c12 => ?_) (fun c12 => ?_)
          · replace w := w.1 c12
            refine ex_aload_n (q := 57) (x := a_0) dX12_poke_56 rfl ?_
            have s13 := w.1
            replace w := w.2
            obtain ⟨a14, ea14, w⟩ := w
            refine ex_getr (q := 60) dX12_poke_57 fl_X12_13 s13 ea14 ?_
            refine ex_sipush (q := 63) (v := 364) dX12_poke_60 (by decide) ?_
            have s15 := w.1
            replace w := w.2
            refine ex_iald (q := 64) dX12_poke_63 s15 ?_
            refine ex_bipush (q := 66) (v := 38) dX12_poke_64 (by decide) ?_
            refine ex_icmp_le (tgt := 72) (q := 69) dX12_poke_66 (fun c16 => ?_) (fun c16 => ?_)
            · replace w := w.1 c16
              refine ex_aload_n (q := 73) (x := a_0) dX12_poke_72 rfl ?_
              refine ex_iload_n (q := 74) (x := v_1) dX12_poke_73 rfl ?_
              have s17 := w.1
              replace w := w.2
              refine ex_callV (q := 77) (M := mX12_poke) (hdd := Nat.le_refl _) (mc := 0) (ms := 0) (d' := (d + 2)) (c := 12) (st := []) (bc := bc) (bs := bs) dX12_poke_74 rfl cl_X12_310 wd_1848 wd_79 s13 (X12_arcAt_s (Q := fun r z => r = some (.int (X12_arcAt_V a_0 v_1 h10)) ∧ z = h10) s17 ⟨rfl, rfl⟩) ?_
              intro r z hrz
              rw [hrz.1, hrz.2]
              show ex_G mX12_poke (d + 3) 77 [.ref a_0, .int v_1, .int v_2, .int v_3, .retAddr 0, .retAddr 0, .retAddr 0, .retAddr 0, .retAddr 0, .retAddr 0] [.int (X12_arcAt_V a_0 v_1 h10)] (h10) bc bs Q
              refine ex_nmi (fun x18 ex18 => ?_)
              replace w := w x18 ex18
              refine ex_istore (q := 79) (ls' := [.ref a_0, .int v_1, .int v_2, .int v_3, .int x18, .retAddr 0, .retAddr 0, .retAddr 0, .retAddr 0, .retAddr 0]) dX12_poke_77 rfl ?_
              refine ex_aload_n (q := 80) (x := a_0) dX12_poke_79 rfl ?_
              refine ex_iload_n (q := 81) (x := v_2) dX12_poke_80 rfl ?_
              have s19 := w.1
              replace w := w.2
              refine ex_callV (q := 84) (M := mX12_poke) (hdd := Nat.le_refl _) (mc := 0) (ms := 0) (d' := (d + 2)) (c := 12) (st := []) (bc := bc) (bs := bs) dX12_poke_81 rfl cl_X12_310 wd_1848 wd_79 s13 (X12_arcAt_s (Q := fun r z => r = some (.int (X12_arcAt_V a_0 v_2 h10)) ∧ z = h10) s19 ⟨rfl, rfl⟩) ?_
              intro r z hrz
              rw [hrz.1, hrz.2]
              show ex_G mX12_poke (d + 3) 84 [.ref a_0, .int v_1, .int v_2, .int v_3, .int x18, .retAddr 0, .retAddr 0, .retAddr 0, .retAddr 0, .retAddr 0] [.int (X12_arcAt_V a_0 v_2 h10)] (h10) bc bs Q
              refine ex_nmi (fun x20 ex20 => ?_)
              replace w := w x20 ex20
              refine ex_istore (q := 86) (ls' := [.ref a_0, .int v_1, .int v_2, .int v_3, .int x18, .int x20, .retAddr 0, .retAddr 0, .retAddr 0, .retAddr 0]) dX12_poke_84 rfl ?_
              refine ex_aload_n (q := 87) (x := a_0) dX12_poke_86 rfl ?_
              refine ex_sipush (q := 90) (v := 364) dX12_poke_87 (by decide) ?_
              refine ex_iconst (q := 91) (v := (-1)) dX12_poke_90 (by decide) ?_
              refine ex_callV (q := 94) (M := mX12_poke) (hdd := Nat.le_refl _) (c := 12) (st := []) (bc := bc) (bs := bs) dX12_poke_91 rfl cl_X12_307 wd_1909 wd_93 s13 w ?_
              rintro r h21 ⟨x22, rfl, w⟩
              show ex_G mX12_poke (d + 3) 94 [.ref a_0, .int v_1, .int v_2, .int v_3, .int x18, .int x20, .retAddr 0, .retAddr 0, .retAddr 0, .retAddr 0] [.int x22] h21 bc bs Q
              refine ex_istore (q := 96) (ls' := [.ref a_0, .int v_1, .int v_2, .int v_3, .int x18, .int x20, .int x22, .retAddr 0, .retAddr 0, .retAddr 0]) dX12_poke_94 rfl ?_
              refine ex_aload_n (q := 97) (x := a_0) dX12_poke_96 rfl ?_
              refine ex_sipush (q := 100) (v := 364) dX12_poke_97 (by decide) ?_
              refine ex_iload (q := 102) (x := x22) dX12_poke_100 rfl ?_
              have s24 := w.1
              replace w := w.2
              refine ex_callV (q := 105) (M := mX12_poke) (hdd := Nat.le_refl _) (c := 12) (st := []) (bc := bc) (bs := bs) dX12_poke_102 rfl cl_X12_307 wd_1909 wd_93 s24 w ?_
              rintro r h23 ⟨x25, rfl, w⟩
              show ex_G mX12_poke (d + 3) 105 [.ref a_0, .int v_1, .int v_2, .int v_3, .int x18, .int x20, .int x22, .retAddr 0, .retAddr 0, .retAddr 0] [.int x25] h23 bc bs Q
              refine ex_istore (q := 107) (ls' := [.ref a_0, .int v_1, .int v_2, .int v_3, .int x18, .int x20, .int x22, .int x25, .retAddr 0, .retAddr 0]) dX12_poke_105 rfl ?_
              refine ex_aload_n (q := 108) (x := a_0) dX12_poke_107 rfl ?_
              refine ex_sipush (q := 111) (v := 364) dX12_poke_108 (by decide) ?_
              refine ex_iload (q := 113) (x := x25) dX12_poke_111 rfl ?_
              have s27 := w.1
              replace w := w.2
              refine ex_callV (q := 116) (M := mX12_poke) (hdd := Nat.le_refl _) (c := 12) (st := []) (bc := bc) (bs := bs) dX12_poke_113 rfl cl_X12_307 wd_1909 wd_93 s27 w ?_
              rintro r h26 ⟨x28, rfl, w⟩
              show ex_G mX12_poke (d + 3) 116 [.ref a_0, .int v_1, .int v_2, .int v_3, .int x18, .int x20, .int x22, .int x25, .retAddr 0, .retAddr 0] [.int x28] h26 bc bs Q
              refine ex_istore (q := 118) (ls' := [.ref a_0, .int v_1, .int v_2, .int v_3, .int x18, .int x20, .int x22, .int x25, .int x28, .retAddr 0]) dX12_poke_116 rfl ?_
              refine ex_aload_n (q := 119) (x := a_0) dX12_poke_118 rfl ?_
              refine ex_sipush (q := 122) (v := 364) dX12_poke_119 (by decide) ?_
              refine ex_iload (q := 124) (x := x28) dX12_poke_122 rfl ?_
              have s30 := w.1
              replace w := w.2
              refine ex_callV (q := 127) (M := mX12_poke) (hdd := Nat.le_refl _) (c := 12) (st := []) (bc := bc) (bs := bs) dX12_poke_124 rfl cl_X12_307 wd_1909 wd_93 s30 w ?_
              rintro r h29 ⟨x31, rfl, w⟩
              show ex_G mX12_poke (d + 3) 127 [.ref a_0, .int v_1, .int v_2, .int v_3, .int x18, .int x20, .int x22, .int x25, .int x28, .retAddr 0] [.int x31] h29 bc bs Q
              refine ex_istore (q := 129) (ls' := [.ref a_0, .int v_1, .int v_2, .int v_3, .int x18, .int x20, .int x22, .int x25, .int x28, .int x31]) dX12_poke_127 rfl ?_
              refine ex_aload_n (q := 130) (x := a_0) dX12_poke_129 rfl ?_
              have s32 := w.1
              replace w := w.2
              obtain ⟨a33, ea33, w⟩ := w
              refine ex_getr (q := 133) dX12_poke_130 fl_X12_23 s32 ea33 ?_
              refine ex_ldc_w (q := 136) (v := 58240) dX12_poke_133 wd_1850 ?_
              refine ex_aload_n (q := 137) (x := a_0) dX12_poke_136 rfl ?_
              obtain ⟨a34, ea34, w⟩ := w
              refine ex_getr (q := 140) dX12_poke_137 fl_X12_36 s32 ea34 ?_
              refine ex_iload_n (q := 141) (x := v_1) dX12_poke_140 rfl ?_
              have s35 := w.1
              replace w := w.2
              refine ex_iald (q := 142) dX12_poke_141 s35 ?_
              refine ex_iadd (q := 143) dX12_poke_142 ?_
              refine ex_iload (q := 145) (x := x25) dX12_poke_143 rfl ?_
              have s37 := w.1
              replace w := w.2
              refine ex_iast (q := 146) dX12_poke_145 s37 ?_
              refine ex_nmh (fun h36 eh36 => ?_)
              replace w := w h36 eh36
              refine ex_aload_n (q := 147) (x := a_0) dX12_poke_146 rfl ?_
              refine ex_getr (q := 150) dX12_poke_147 fl_X12_23 (by rw [eh36]; exact s32) (by rw [eh36]; exact ea33) ?_
              refine ex_ldc_w (q := 153) (v := 58240) dX12_poke_150 wd_1850 ?_
              refine ex_aload_n (q := 154) (x := a_0) dX12_poke_153 rfl ?_
              refine ex_getr (q := 157) dX12_poke_154 fl_X12_36 (by rw [eh36]; exact s32) (by rw [eh36]; exact ea34) ?_
              refine ex_iload_n (q := 158) (x := v_2) dX12_poke_157 rfl ?_
              have s38 := w.1
              replace w := w.2
              refine ex_iald (q := 159) dX12_poke_158 s38 ?_
              refine ex_iadd (q := 160) dX12_poke_159 ?_
              refine ex_iload (q := 162) (x := x31) dX12_poke_160 rfl ?_
              have s40 := w.1
              replace w := w.2
              refine ex_iast (q := 163) dX12_poke_162 s40 ?_
              refine ex_nmh (fun h39 eh39 => ?_)
              replace w := w h39 eh39
              refine ex_iload_n (q := 164) (x := v_3) dX12_poke_163 rfl ?_
              refine ex_if_ne (tgt := 200) (q := 167) dX12_poke_164 (fun c41 => ?_) (fun c41 => ?_)
              · replace w := w.1 c41
                refine ex_aload_n (q := 201) (x := a_0) dX12_poke_200 rfl ?_
                refine ex_sipush (q := 204) (v := 364) dX12_poke_201 (by decide) ?_
                refine ex_iload (q := 206) (x := x18) dX12_poke_204 rfl ?_
                refine ex_iload (q := 208) (x := x28) dX12_poke_206 rfl ?_
                refine ex_iload (q := 210) (x := x22) dX12_poke_208 rfl ?_
                refine ex_iload (q := 212) (x := x31) dX12_poke_210 rfl ?_
                refine ex_callV (q := 215) (M := mX12_poke) (hdd := Nat.le_refl _) (c := 12) (st := []) (bc := bc) (bs := bs) dX12_poke_212 rfl cl_X12_194 wd_1605 wd_49 (by rw [eh39]; exact (by rw [eh36]; exact s32)) w ?_
                rintro r h42 ⟨rfl, w⟩
                show ex_G mX12_poke (d + 3) 215 [.ref a_0, .int v_1, .int v_2, .int v_3, .int x18, .int x20, .int x22, .int x25, .int x28, .int x31] [] h42 bc bs Q
                refine ex_aload_n (q := 216) (x := a_0) dX12_poke_215 rfl ?_
                refine ex_sipush (q := 219) (v := 364) dX12_poke_216 (by decide) ?_
                refine ex_iload (q := 221) (x := x25) dX12_poke_219 rfl ?_
                refine ex_iload (q := 223) (x := x20) dX12_poke_221 rfl ?_
                refine ex_iload (q := 225) (x := x22) dX12_poke_223 rfl ?_
                refine ex_iload (q := 227) (x := x28) dX12_poke_225 rfl ?_
                have s44 := w.1
                replace w := w.2
                refine ex_callV (q := 230) (M := mX12_poke) (hdd := Nat.le_refl _) (c := 12) (st := []) (bc := bc) (bs := bs) dX12_poke_227 rfl cl_X12_194 wd_1605 wd_49 s44 w ?_
                rintro r h43 ⟨rfl, w⟩
                show ex_G mX12_poke (d + 3) 230 [.ref a_0, .int v_1, .int v_2, .int v_3, .int x18, .int x20, .int x22, .int x25, .int x28, .int x31] [] h43 bc bs Q
                refine ex_iconst (q := 231) (v := 0) dX12_poke_230 (by decide) ?_
                exact ex_ireturn dX12_poke_231 rfl (Or.inl rfl) w
              · replace w := w.2 c41
                refine ex_aload_n (q := 168) (x := a_0) dX12_poke_167 rfl ?_
                refine ex_sipush (q := 171) (v := 364) dX12_poke_168 (by decide) ?_
                refine ex_iload (q := 173) (x := x28) dX12_poke_171 rfl ?_
                refine ex_iload (q := 175) (x := x22) dX12_poke_173 rfl ?_
                refine ex_iload (q := 177) (x := x31) dX12_poke_175 rfl ?_
                refine ex_iload (q := 179) (x := x18) dX12_poke_177 rfl ?_
                refine ex_callV (q := 182) (M := mX12_poke) (hdd := Nat.le_refl _) (c := 12) (st := []) (bc := bc) (bs := bs) dX12_poke_179 rfl cl_X12_194 wd_1605 wd_49 (by rw [eh39]; exact (by rw [eh36]; exact s32)) w ?_
                rintro r h45 ⟨rfl, w⟩
                show ex_G mX12_poke (d + 3) 182 [.ref a_0, .int v_1, .int v_2, .int v_3, .int x18, .int x20, .int x22, .int x25, .int x28, .int x31] [] h45 bc bs Q
                refine ex_aload_n (q := 183) (x := a_0) dX12_poke_182 rfl ?_
                refine ex_sipush (q := 186) (v := 364) dX12_poke_183 (by decide) ?_
                refine ex_iload (q := 188) (x := x20) dX12_poke_186 rfl ?_
                refine ex_iload (q := 190) (x := x22) dX12_poke_188 rfl ?_
                refine ex_iload (q := 192) (x := x28) dX12_poke_190 rfl ?_
                refine ex_iload (q := 194) (x := x25) dX12_poke_192 rfl ?_
                have s47 := w.1
                replace w := w.2
                refine ex_callV (q := 197) (M := mX12_poke) (hdd := Nat.le_refl _) (c := 12) (st := []) (bc := bc) (bs := bs) dX12_poke_194 rfl cl_X12_194 wd_1605 wd_49 s47 w ?_
                rintro r h46 ⟨rfl, w⟩
                show ex_G mX12_poke (d + 3) 197 [.ref a_0, .int v_1, .int v_2, .int v_3, .int x18, .int x20, .int x22, .int x25, .int x28, .int x31] [] h46 bc bs Q
                refine ex_goto (tgt := 230) dX12_poke_197 ?_
                refine ex_iconst (q := 231) (v := 0) dX12_poke_230 (by decide) ?_
                exact ex_ireturn dX12_poke_231 rfl (Or.inl rfl) w
            · replace w := w.2 c16
              refine ex_bipush (q := 71) (v := 8) dX12_poke_69 (by decide) ?_
              exact ex_ireturn dX12_poke_71 rfl (Or.inl rfl) w
          · replace w := w.2 c12
            refine ex_iconst (q := 55) (v := 5) dX12_poke_54 (by decide) ?_
            exact ex_ireturn dX12_poke_55 rfl (Or.inl rfl) w

theorem X12_poke_e {d bc bs : Nat} {h : AH} {Q : Option Value → AH → Prop} {a_0 : Nat} {v_1 : Int32} {v_2 : Int32} {v_3 : Int32} (w : ex_G mX12_poke (d + 3) 0 [.ref a_0, .int v_1, .int v_2, .int v_3, .retAddr 0, .retAddr 0, .retAddr 0, .retAddr 0, .retAddr 0, .retAddr 0] [] h bc bs Q) : ex_S yX12_poke mX12_poke (d + 3) [.ref a_0, .int v_1, .int v_2, .int v_3] h bc bs Q :=
  ex_enter (plainFor_of_name (by decide +kernel)) ⟨rfl, rfl⟩ rfl rfl (Nat.le_of_ble_eq_true rfl) (ex_pad 6 w)

set_option maxRecDepth 100000 in
theorem X12_unpoke_0 {d bc bs : Nat} {h : AH} {Q : Option Value → AH → Prop} {a_0 : Nat} {v_1 : Int32} (w : ah_o h a_0 12 ∧ X12_isEnd_C a_0 364 v_1 h ∧ ((¬ (X12_isEnd_V a_0 364 v_1 h) = 0 → ∃ a4, ah_r h a_0 10 = some a4 ∧ ld0 h a4 v_1 ∧ ∀ x6, x6 = ah_i h a4 (Int32.toNatClampNeg v_1) → X12_nextOfFace_C a_0 v_1 h ∧ ∀ x8, x8 = X12_nextOfFace_V a_0 v_1 h → ((x8 = v_1 → Q (some (.int 5)) h) ∧ (¬ x8 = v_1 → X12_nextOfFace_C a_0 x8 h ∧ ((¬ (X12_nextOfFace_V a_0 x8 h) = v_1 → Q (some (.int 5)) h) ∧ ((X12_nextOfFace_V a_0 x8 h) = v_1 → (((v_1 / 4) = (x6 / 4) → Q (some (.int 5)) h) ∧ (¬ (v_1 / 4) = (x6 / 4) → (((im_ v_1 2) = (im_ x6 2) → X12_arcAt_C a_0 (X12_turned_V v_1 2 h) h ∧ X12_arcAt_C a_0 (X12_turned_V x6 2 h) h ∧ ex_S yX12_joinArcs mX12_joinArcs (d + 1) [.ref a_0, .int 364, .int (X12_arcAt_V a_0 (X12_turned_V v_1 2 h) h), .int (X12_arcAt_V a_0 (X12_turned_V x6 2 h) h)] h 0 0 (fun r h16 => r = none ∧ ah_o h16 a_0 12 ∧ X12_arcAt_C a_0 (X12_turned_V v_1 3 h16) h16 ∧ X12_arcAt_C a_0 (X12_turned_V x6 1 h16) h16 ∧ ex_S yX12_joinArcs mX12_joinArcs (d + 1) [.ref a_0, .int 364, .int (X12_arcAt_V a_0 (X12_turned_V v_1 3 h16) h16), .int (X12_arcAt_V a_0 (X12_turned_V x6 1 h16) h16)] h16 0 0 (fun r h20 => r = none ∧ ∀ x21, x21 = v_1 / 4 → ∀ x22, x22 = x6 / 4 → ((x21 ≤ x22 → ex_G mX12_unpoke (d + 2) 138 [.ref a_0, .retAddr 0, .retAddr 0, .retAddr 0, .int x21, .int x22] [.int x22, .int 364, .ref a_0] h20 bc bs Q) ∧ (¬ x21 ≤ x22 → ex_G mX12_unpoke (d + 2) 138 [.ref a_0, .retAddr 0, .retAddr 0, .retAddr 0, .int x21, .int x22] [.int x21, .int 364, .ref a_0] h20 bc bs Q))))) ∧ (¬ (im_ v_1 2) = (im_ x6 2) → Q (some (.int 5)) h))))))))) ∧ ((X12_isEnd_V a_0 364 v_1 h) = 0 → Q (some (.int 5)) h))) : ex_G mX12_unpoke (d + 2) 0 [.ref a_0, .int v_1, .retAddr 0, .retAddr 0, .retAddr 0, .retAddr 0] [] h bc bs Q := by
  refine ex_aload_n (q := 1) (x := a_0) dX12_unpoke_0 rfl ?_
  refine ex_sipush (q := 4) (v := 364) dX12_unpoke_1 (by decide) ?_
  refine ex_iload_n (q := 5) (x := v_1) dX12_unpoke_4 rfl ?_
  have s1 := w.1
  replace w := w.2
  have s2 := w.1
  replace w := w.2
  refine ex_callV (q := 8) (M := mX12_unpoke) (hdd := Nat.le_refl _) (mc := 0) (ms := 0) (d' := (d + 1)) (c := 12) (st := []) (bc := bc) (bs := bs) dX12_unpoke_5 rfl cl_X12_301 wd_1844 wd_78 s1 (X12_isEnd_s (Q := fun r z => r = some (.int (X12_isEnd_V a_0 364 v_1 h)) ∧ z = h) s2 ⟨rfl, rfl⟩) ?_
  intro r z hrz
  rw [hrz.1, hrz.2]
  show ex_G mX12_unpoke (d + 2) 8 [.ref a_0, .int v_1, .retAddr 0, .retAddr 0, .retAddr 0, .retAddr 0] [.int (X12_isEnd_V a_0 364 v_1 h)] (h) bc bs Q
  refine ex_if_ne (tgt := 13) (q := 11) dX12_unpoke_8 (fun c3 => ?_) (fun c3 => ?_)
  · replace w := w.1 c3
    refine ex_aload_n (q := 14) (x := a_0) dX12_unpoke_13 rfl ?_
    obtain ⟨a4, ea4, w⟩ := w
    refine ex_getr (q := 17) dX12_unpoke_14 fl_X12_36 s1 ea4 ?_
    refine ex_iload_n (q := 18) (x := v_1) dX12_unpoke_17 rfl ?_
    have s5 := w.1
    replace w := w.2
    refine ex_iald (q := 19) dX12_unpoke_18 s5 ?_
    refine ex_nmi (fun x6 ex6 => ?_)
    replace w := w x6 ex6
    refine ex_istore_n (q := 20) (ls' := [.ref a_0, .int v_1, .int x6, .retAddr 0, .retAddr 0, .retAddr 0]) dX12_unpoke_19 rfl ?_
    refine ex_aload_n (q := 21) (x := a_0) dX12_unpoke_20 rfl ?_
    refine ex_iload_n (q := 22) (x := v_1) dX12_unpoke_21 rfl ?_
    have s7 := w.1
    replace w := w.2
    refine ex_callV (q := 25) (M := mX12_unpoke) (hdd := Nat.le_refl _) (mc := 0) (ms := 0) (d' := (d + 1)) (c := 12) (st := []) (bc := bc) (bs := bs) dX12_unpoke_22 rfl cl_X12_213 wd_1655 wd_55 s1 (X12_nextOfFace_s (Q := fun r z => r = some (.int (X12_nextOfFace_V a_0 v_1 h)) ∧ z = h) s7 ⟨rfl, rfl⟩) ?_
    intro r z hrz
    rw [hrz.1, hrz.2]
    show ex_G mX12_unpoke (d + 2) 25 [.ref a_0, .int v_1, .int x6, .retAddr 0, .retAddr 0, .retAddr 0] [.int (X12_nextOfFace_V a_0 v_1 h)] (h) bc bs Q
    refine ex_nmi (fun x8 ex8 => ?_)
    replace w := w x8 ex8
    refine ex_istore_n (q := 26) (ls' := [.ref a_0, .int v_1, .int x6, .int x8, .retAddr 0, .retAddr 0]) dX12_unpoke_25 rfl ?_
    refine ex_iload_n (q := 27) (x := x8) dX12_unpoke_26 rfl ?_
    refine ex_iload_n (q := 28) (x := v_1) dX12_unpoke_27 rfl ?_
    refine ex_icmp_eq (tgt := 58) (q := 31) dX12_unpoke_28 (fun c9 => ?_) (fun c9 => ?_)
    · replace w := w.1 c9
      refine ex_iconst (q := 59) (v := 5) dX12_unpoke_58 (by decide) ?_
      exact ex_ireturn dX12_unpoke_59 rfl (Or.inl rfl) w
    · replace w := w.2 c9
      refine ex_aload_n (q := 32) (x := a_0) dX12_unpoke_31 rfl ?_
      refine ex_iload_n (q := 33) (x := x8) dX12_unpoke_32 rfl ?_
      have s10 := w.1
      replace w := w.2
      refine ex_callV (q := 36) (M := mX12_unpoke) (hdd := Nat.le_refl _) (mc := 0) (ms := 0) (d' := (d + 1)) (c := 12) (st := []) (bc := bc) (bs := bs) dX12_unpoke_33 rfl cl_X12_213 wd_1655 wd_55 s1 (X12_nextOfFace_s (Q := fun r z => r = some (.int (X12_nextOfFace_V a_0 x8 h)) ∧ z = h) s10 ⟨rfl, rfl⟩) ?_
      intro r z hrz
      rw [hrz.1, hrz.2]
      show ex_G mX12_unpoke (d + 2) 36 [.ref a_0, .int v_1, .int x6, .int x8, .retAddr 0, .retAddr 0] [.int (X12_nextOfFace_V a_0 x8 h)] (h) bc bs Q
      refine ex_iload_n (q := 37) (x := v_1) dX12_unpoke_36 rfl ?_
      refine ex_icmp_ne (tgt := 58) (q := 40) dX12_unpoke_37 (fun c11 => ?_) (fun c11 => ?_)
      · replace w := w.1 c11
        refine ex_iconst (q := 59) (v := 5) dX12_unpoke_58 (by decide) ?_
        exact ex_ireturn dX12_unpoke_59 rfl (Or.inl rfl) w
      · replace w := w.2 c11
        refine ex_iload_n (q := 41) (x := v_1) dX12_unpoke_40 rfl ?_
        refine ex_iconst (q := 42) (v := 4) dX12_unpoke_41 (by decide) ?_
        refine ex_idiv (q := 43) dX12_unpoke_42 (by decide) ?_
        refine ex_iload_n (q := 44) (x := x6) dX12_unpoke_43 rfl ?_
        refine ex_iconst (q := 45) (v := 4) dX12_unpoke_44 (by decide) ?_
        refine ex_idiv (q := 46) dX12_unpoke_45 (by decide) ?_
        refine ex_icmp_eq (tgt := 58) (q := 49) dX12_unpoke_46 (fun c12 => ?_) (fun c12 => ?_)
        · replace w := w.1 c12
          refine ex_iconst (q := 59) (v := 5) dX12_unpoke_58 (by decide) ?_
          exact ex_ireturn dX12_unpoke_59 rfl (Or.inl rfl) w
        · replace w := w.2 c12
          refine ex_iload_n (q := 50) (x := v_1) dX12_unpoke_49 rfl ?_
          refine ex_iconst (q := 51) (v := 2) dX12_unpoke_50 (by decide) ?_
          refine ex_irem (q := 52) dX12_unpoke_51 (by decide) ?_
          refine ex_iload_n (q := 53) (x := x6) dX12_unpoke_52 rfl ?_
          refine ex_iconst (q := 54) (v := 2) dX12_unpoke_53 (by decide) ?_
          refine ex_irem (q := 55) dX12_unpoke_54 (by decide) ?_
          refine ex_icmp_eq (tgt := 60) (q := 58) dX12_unpoke_55 (fun c13 => ?_) (fun c13 => ?_)
          · replace w := w.1 c13
            refine ex_aload_n (q := 61) (x := a_0) dX12_unpoke_60 rfl ?_
            refine ex_sipush (q := 64) (v := 364) dX12_unpoke_61 (by decide) ?_
            refine ex_aload_n (q := 65) (x := a_0) dX12_unpoke_64 rfl ?_
            refine ex_iload_n (q := 66) (x := v_1) dX12_unpoke_65 rfl ?_
            refine ex_iconst (q := 67) (v := 2) dX12_unpoke_66 (by decide) ?_
            refine ex_callS (q := 70) (M := mX12_unpoke) (hdd := Nat.le_refl _) (mc := 0) (ms := 0) (d' := (d + 1)) (st := [.ref a_0, .int 364, .ref a_0]) (bc := bc) (bs := bs) dX12_unpoke_67 rfl cl_X12_209 wd_1658 (X12_turned_s (Q := fun r z => r = some (.int (X12_turned_V v_1 2 h)) ∧ z = h) ⟨rfl, rfl⟩) ?_
            intro r z hrz
            rw [hrz.1, hrz.2]
            show ex_G mX12_unpoke (d + 2) 70 [.ref a_0, .int v_1, .int x6, .int x8, .retAddr 0, .retAddr 0] [.int (X12_turned_V v_1 2 h), .ref a_0, .int 364, .ref a_0] (h) bc bs Q
            have s14 := w.1
            replace w := w.2
            refine ex_callV (q := 73) (M := mX12_unpoke) (hdd := Nat.le_refl _) (mc := 0) (ms := 0) (d' := (d + 1)) (c := 12) (st := [.int 364, .ref a_0]) (bc := bc) (bs := bs) dX12_unpoke_70 rfl cl_X12_310 wd_1848 wd_79 s1 (X12_arcAt_s (Q := fun r z => r = some (.int (X12_arcAt_V a_0 (X12_turned_V v_1 2 h) h)) ∧ z = h) s14 ⟨rfl, rfl⟩) ?_
            intro r z hrz
            rw [hrz.1, hrz.2]
            show ex_G mX12_unpoke (d + 2) 73 [.ref a_0, .int v_1, .int x6, .int x8, .retAddr 0, .retAddr 0] [.int (X12_arcAt_V a_0 (X12_turned_V v_1 2 h) h), .int 364, .ref a_0] (h) bc bs Q
            refine ex_aload_n (q := 74) (x := a_0) dX12_unpoke_73 rfl ?_
            refine ex_iload_n (q := 75) (x := x6) dX12_unpoke_74 rfl ?_
            refine ex_iconst (q := 76) (v := 2) dX12_unpoke_75 (by decide) ?_
            refine ex_callS (q := 79) (M := mX12_unpoke) (hdd := Nat.le_refl _) (mc := 0) (ms := 0) (d' := (d + 1)) (st := [.ref a_0, .int (X12_arcAt_V a_0 (X12_turned_V v_1 2 h) h), .int 364, .ref a_0]) (bc := bc) (bs := bs) dX12_unpoke_76 rfl cl_X12_209 wd_1658 (X12_turned_s (Q := fun r z => r = some (.int (X12_turned_V x6 2 h)) ∧ z = h) ⟨rfl, rfl⟩) ?_
            intro r z hrz
            rw [hrz.1, hrz.2]
            show ex_G mX12_unpoke (d + 2) 79 [.ref a_0, .int v_1, .int x6, .int x8, .retAddr 0, .retAddr 0] [.int (X12_turned_V x6 2 h), .ref a_0, .int (X12_arcAt_V a_0 (X12_turned_V v_1 2 h) h), .int 364, .ref a_0] (h) bc bs Q
            have s15 := w.1
            replace w := w.2
            refine ex_callV (q := 82) (M := mX12_unpoke) (hdd := Nat.le_refl _) (mc := 0) (ms := 0) (d' := (d + 1)) (c := 12) (st := [.int (X12_arcAt_V a_0 (X12_turned_V v_1 2 h) h), .int 364, .ref a_0]) (bc := bc) (bs := bs) dX12_unpoke_79 rfl cl_X12_310 wd_1848 wd_79 s1 (X12_arcAt_s (Q := fun r z => r = some (.int (X12_arcAt_V a_0 (X12_turned_V x6 2 h) h)) ∧ z = h) s15 ⟨rfl, rfl⟩) ?_
            intro r z hrz
            rw [hrz.1, hrz.2]
            show ex_G mX12_unpoke (d + 2) 82 [.ref a_0, .int v_1, .int x6, .int x8, .retAddr 0, .retAddr 0] [.int (X12_arcAt_V a_0 (X12_turned_V x6 2 h) h), .int (X12_arcAt_V a_0 (X12_turned_V v_1 2 h) h), .int 364, .ref a_0] (h) bc bs Q
            refine ex_callV (q := 85) (M := mX12_unpoke) (hdd := Nat.le_refl _) (c := 12) (st := []) (bc := bc) (bs := bs) dX12_unpoke_82 rfl cl_X12_313 wd_1853 wd_80 s1 w ?_
            rintro r h16 ⟨rfl, w⟩
            show ex_G mX12_unpoke (d + 2) 85 [.ref a_0, .int v_1, .int x6, .int x8, .retAddr 0, .retAddr 0] [] h16 bc bs Q
            refine ex_aload_n (q := 86) (x := a_0) dX12_unpoke_85 rfl ?_
            refine ex_sipush (q := 89) (v := 364) dX12_unpoke_86 (by decide) ?_
            refine ex_aload_n (q := 90) (x := a_0) dX12_unpoke_89 rfl ?_
            refine ex_iload_n (q := 91) (x := v_1) dX12_unpoke_90 rfl ?_
            refine ex_iconst (q := 92) (v := 3) dX12_unpoke_91 (by decide) ?_
            refine ex_callS (q := 95) (M := mX12_unpoke) (hdd := Nat.le_refl _) (mc := 0) (ms := 0) (d' := (d + 1)) (st := [.ref a_0, .int 364, .ref a_0]) (bc := bc) (bs := bs) dX12_unpoke_92 rfl cl_X12_209 wd_1658 (X12_turned_s (Q := fun r z => r = some (.int (X12_turned_V v_1 3 h16)) ∧ z = h16) ⟨rfl, rfl⟩) ?_
            intro r z hrz
            rw [hrz.1, hrz.2]
            show ex_G mX12_unpoke (d + 2) 95 [.ref a_0, .int v_1, .int x6, .int x8, .retAddr 0, .retAddr 0] [.int (X12_turned_V v_1 3 h16), .ref a_0, .int 364, .ref a_0] (h16) bc bs Q
            have s17 := w.1
            replace w := w.2
            have s18 := w.1
            replace w := w.2
            refine ex_callV (q := 98) (M := mX12_unpoke) (hdd := Nat.le_refl _) (mc := 0) (ms := 0) (d' := (d + 1)) (c := 12) (st := [.int 364, .ref a_0]) (bc := bc) (bs := bs) dX12_unpoke_95 rfl cl_X12_310 wd_1848 wd_79 s17 (X12_arcAt_s (Q := fun r z => r = some (.int (X12_arcAt_V a_0 (X12_turned_V v_1 3 h16) h16)) ∧ z = h16) s18 ⟨rfl, rfl⟩) ?_
            intro r z hrz
            rw [hrz.1, hrz.2]
            show ex_G mX12_unpoke (d + 2) 98 [.ref a_0, .int v_1, .int x6, .int x8, .retAddr 0, .retAddr 0] [.int (X12_arcAt_V a_0 (X12_turned_V v_1 3 h16) h16), .int 364, .ref a_0] (h16) bc bs Q
            refine ex_aload_n (q := 99) (x := a_0) dX12_unpoke_98 rfl ?_
            refine ex_iload_n (q := 100) (x := x6) dX12_unpoke_99 rfl ?_
            refine ex_iconst (q := 101) (v := 1) dX12_unpoke_100 (by decide) ?_
            refine ex_callS (q := 104) (M := mX12_unpoke) (hdd := Nat.le_refl _) (mc := 0) (ms := 0) (d' := (d + 1)) (st := [.ref a_0, .int (X12_arcAt_V a_0 (X12_turned_V v_1 3 h16) h16), .int 364, .ref a_0]) (bc := bc) (bs := bs) dX12_unpoke_101 rfl cl_X12_209 wd_1658 (X12_turned_s (Q := fun r z => r = some (.int (X12_turned_V x6 1 h16)) ∧ z = h16) ⟨rfl, rfl⟩) ?_
            intro r z hrz
            rw [hrz.1, hrz.2]
            show ex_G mX12_unpoke (d + 2) 104 [.ref a_0, .int v_1, .int x6, .int x8, .retAddr 0, .retAddr 0] [.int (X12_turned_V x6 1 h16), .ref a_0, .int (X12_arcAt_V a_0 (X12_turned_V v_1 3 h16) h16), .int 364, .ref a_0] (h16) bc bs Q
            have s19 := w.1
            replace w := w.2
            refine ex_callV (q := 107) (M := mX12_unpoke) (hdd := Nat.le_refl _) (mc := 0) (ms := 0) (d' := (d + 1)) (c := 12) (st := [.int (X12_arcAt_V a_0 (X12_turned_V v_1 3 h16) h16), .int 364, .ref a_0]) (bc := bc) (bs := bs) dX12_unpoke_104 rfl cl_X12_310 wd_1848 wd_79 s17 (X12_arcAt_s (Q := fun r z => r = some (.int (X12_arcAt_V a_0 (X12_turned_V x6 1 h16) h16)) ∧ z = h16) s19 ⟨rfl, rfl⟩) ?_
            intro r z hrz
            rw [hrz.1, hrz.2]
            show ex_G mX12_unpoke (d + 2) 107 [.ref a_0, .int v_1, .int x6, .int x8, .retAddr 0, .retAddr 0] [.int (X12_arcAt_V a_0 (X12_turned_V x6 1 h16) h16), .int (X12_arcAt_V a_0 (X12_turned_V v_1 3 h16) h16), .int 364, .ref a_0] (h16) bc bs Q
            refine ex_callV (q := 110) (M := mX12_unpoke) (hdd := Nat.le_refl _) (c := 12) (st := []) (bc := bc) (bs := bs) dX12_unpoke_107 rfl cl_X12_313 wd_1853 wd_80 s17 w ?_
            rintro r h20 ⟨rfl, w⟩
            show ex_G mX12_unpoke (d + 2) 110 [.ref a_0, .int v_1, .int x6, .int x8, .retAddr 0, .retAddr 0] [] h20 bc bs Q
            refine ex_iload_n (q := 111) (x := v_1) dX12_unpoke_110 rfl ?_
            refine ex_iconst (q := 112) (v := 4) dX12_unpoke_111 (by decide) ?_
            refine ex_idiv (q := 113) dX12_unpoke_112 (by decide) ?_
            refine ex_nmi (fun x21 ex21 => ?_)
            replace w := w x21 ex21
            refine ex_istore (q := 115) (ls' := [.ref a_0, .int v_1, .int x6, .int x8, .int x21, .retAddr 0]) dX12_unpoke_113 rfl ?_
            refine ex_iload_n (q := 116) (x := x6) dX12_unpoke_115 rfl ?_
            refine ex_iconst (q := 117) (v := 4) dX12_unpoke_116 (by decide) ?_
            refine ex_idiv (q := 118) dX12_unpoke_117 (by decide) ?_
            refine ex_nmi (fun x22 ex22 => ?_)
            replace w := w x22 ex22
            refine ex_istore (q := 120) (ls' := [.ref a_0, .int v_1, .int x6, .int x8, .int x21, .int x22]) dX12_unpoke_118 rfl ?_
            refine ex_aload_n (q := 121) (x := a_0) dX12_unpoke_120 rfl ?_
            refine ex_sipush (q := 124) (v := 364) dX12_unpoke_121 (by decide) ?_
            refine ex_iload (q := 126) (x := x21) dX12_unpoke_124 rfl ?_
            refine ex_iload (q := 128) (x := x22) dX12_unpoke_126 rfl ?_
            refine ex_icmp_le (tgt := 136) (q := 131) dX12_unpoke_128 (fun c23 => ?_) (fun c23 => ?_)
            · replace w := w.1 c23
              refine ex_iload (q := 138) (x := x22) dX12_unpoke_136 rfl ?_
              refine ex_kill 1 (ls' := [.ref a_0, .retAddr 0, .int x6, .int x8, .int x21, .int x22]) rfl ?_
              refine ex_kill 2 (ls' := [.ref a_0, .retAddr 0, .retAddr 0, .int x8, .int x21, .int x22]) rfl ?_
              refine ex_kill 3 (ls' := [.ref a_0, .retAddr 0, .retAddr 0, .retAddr 0, .int x21, .int x22]) rfl ?_
              exact w
            · replace w := w.2 c23
              refine ex_iload (q := 133) (x := x21) dX12_unpoke_131 rfl ?_
              refine ex_goto (tgt := 138) dX12_unpoke_133 ?_
              refine ex_kill 1 (ls' := [.ref a_0, .retAddr 0, .int x6, .int x8, .int x21, .int x22]) rfl ?_
              refine ex_kill 2 (ls' := [.ref a_0, .retAddr 0, .retAddr 0, .int x8, .int x21, .int x22]) rfl ?_
              refine ex_kill 3 (ls' := [.ref a_0, .retAddr 0, .retAddr 0, .retAddr 0, .int x21, .int x22]) rfl ?_
              exact w
          · replace w := w.2 c13
            refine ex_iconst (q := 59) (v := 5) dX12_unpoke_58 (by decide) ?_
            exact ex_ireturn dX12_unpoke_59 rfl (Or.inl rfl) w
  · replace w := w.2 c3
    refine ex_iconst (q := 12) (v := 5) dX12_unpoke_11 (by decide) ?_
    exact ex_ireturn dX12_unpoke_12 rfl (Or.inl rfl) w

set_option maxRecDepth 100000 in
theorem X12_unpoke_138 {d bc bs : Nat} {h : AH} {Q : Option Value → AH → Prop} {a_0 : Nat} {v_4 : Int32} {v_5 : Int32} {u_0 : Int32} {u_1 : Int32} {b_2 : Nat} (w : ah_o h b_2 12 ∧ ex_S yX12_takeOut mX12_takeOut (d + 1) [.ref b_2, .int u_1, .int u_0] h 0 0 (fun r h1 => r = none ∧ ((v_4 ≤ v_5 → ah_o h1 a_0 12 ∧ ex_S yX12_takeOut mX12_takeOut (d + 1) [.ref a_0, .int 364, .int v_4] h1 0 0 (fun r h4 => r = none ∧ ah_o h4 a_0 12 ∧ X12_full_C a_0 h4 ∧ Q (some (.int (X12_full_V a_0 h4))) h4)) ∧ (¬ v_4 ≤ v_5 → ah_o h1 a_0 12 ∧ ex_S yX12_takeOut mX12_takeOut (d + 1) [.ref a_0, .int 364, .int v_5] h1 0 0 (fun r h8 => r = none ∧ ah_o h8 a_0 12 ∧ X12_full_C a_0 h8 ∧ Q (some (.int (X12_full_V a_0 h8))) h8))))) : ex_G mX12_unpoke (d + 2) 138 [.ref a_0, .retAddr 0, .retAddr 0, .retAddr 0, .int v_4, .int v_5] [.int u_0, .int u_1, .ref b_2] h bc bs Q := by
  have s2 := w.1
  replace w := w.2
  refine ex_callV (q := 141) (M := mX12_unpoke) (hdd := Nat.le_refl _) (c := 12) (st := []) (bc := bc) (bs := bs) dX12_unpoke_138 rfl cl_X12_317 wd_1857 wd_81 s2 w ?_
  rintro r h1 ⟨rfl, w⟩
  show ex_G mX12_unpoke (d + 2) 141 [.ref a_0, .retAddr 0, .retAddr 0, .retAddr 0, .int v_4, .int v_5] [] h1 bc bs Q
  refine ex_aload_n (q := 142) (x := a_0) dX12_unpoke_141 rfl ?_
  refine ex_sipush (q := 145) (v := 364) dX12_unpoke_142 (by decide) ?_
  refine ex_iload (q := 147) (x := v_4) dX12_unpoke_145 rfl ?_
  refine ex_iload (q := 149) (x := v_5) dX12_unpoke_147 rfl ?_
  refine ex_icmp_le (tgt := 157) (q := 152) dX12_unpoke_149 (fun c3 => ?_) (fun c3 => ?_)
  · replace w := w.1 c3
    refine ex_iload (q := 159) (x := v_4) dX12_unpoke_157 rfl ?_
    have s5 := w.1
    replace w := w.2
    refine ex_callV (q := 162) (M := mX12_unpoke) (hdd := Nat.le_refl _) (c := 12) (st := []) (bc := bc) (bs := bs) dX12_unpoke_159 rfl cl_X12_317 wd_1857 wd_81 s5 w ?_
    rintro r h4 ⟨rfl, w⟩
    show ex_G mX12_unpoke (d + 2) 162 [.ref a_0, .retAddr 0, .retAddr 0, .retAddr 0, .int v_4, .int v_5] [] h4 bc bs Q
    refine ex_aload_n (q := 163) (x := a_0) dX12_unpoke_162 rfl ?_
    have s6 := w.1
    replace w := w.2
    have s7 := w.1
    replace w := w.2
    refine ex_callV (q := 166) (M := mX12_unpoke) (hdd := Nat.le_refl _) (mc := 0) (ms := 0) (d' := (d + 1)) (c := 12) (st := []) (bc := bc) (bs := bs) dX12_unpoke_163 rfl cl_X12_320 wd_1861 wd_82 s6 (X12_full_s (Q := fun r z => r = some (.int (X12_full_V a_0 h4)) ∧ z = h4) s7 ⟨rfl, rfl⟩) ?_
    intro r z hrz
    rw [hrz.1, hrz.2]
    show ex_G mX12_unpoke (d + 2) 166 [.ref a_0, .retAddr 0, .retAddr 0, .retAddr 0, .int v_4, .int v_5] [.int (X12_full_V a_0 h4)] (h4) bc bs Q
    exact ex_ireturn dX12_unpoke_166 rfl (Or.inl rfl) w
  · replace w := w.2 c3
    refine ex_iload (q := 154) (x := v_5) dX12_unpoke_152 rfl ?_
    refine ex_goto (tgt := 159) dX12_unpoke_154 ?_
    have s9 := w.1
    replace w := w.2
    refine ex_callV (q := 162) (M := mX12_unpoke) (hdd := Nat.le_refl _) (c := 12) (st := []) (bc := bc) (bs := bs) dX12_unpoke_159 rfl cl_X12_317 wd_1857 wd_81 s9 w ?_
    rintro r h8 ⟨rfl, w⟩
    show ex_G mX12_unpoke (d + 2) 162 [.ref a_0, .retAddr 0, .retAddr 0, .retAddr 0, .int v_4, .int v_5] [] h8 bc bs Q
    refine ex_aload_n (q := 163) (x := a_0) dX12_unpoke_162 rfl ?_
    have s10 := w.1
    replace w := w.2
    have s11 := w.1
    replace w := w.2
    refine ex_callV (q := 166) (M := mX12_unpoke) (hdd := Nat.le_refl _) (mc := 0) (ms := 0) (d' := (d + 1)) (c := 12) (st := []) (bc := bc) (bs := bs) dX12_unpoke_163 rfl cl_X12_320 wd_1861 wd_82 s10 (X12_full_s (Q := fun r z => r = some (.int (X12_full_V a_0 h8)) ∧ z = h8) s11 ⟨rfl, rfl⟩) ?_
    intro r z hrz
    rw [hrz.1, hrz.2]
    show ex_G mX12_unpoke (d + 2) 166 [.ref a_0, .retAddr 0, .retAddr 0, .retAddr 0, .int v_4, .int v_5] [.int (X12_full_V a_0 h8)] (h8) bc bs Q
    exact ex_ireturn dX12_unpoke_166 rfl (Or.inl rfl) w

theorem X12_unpoke_e {d bc bs : Nat} {h : AH} {Q : Option Value → AH → Prop} {a_0 : Nat} {v_1 : Int32} (w : ex_G mX12_unpoke (d + 2) 0 [.ref a_0, .int v_1, .retAddr 0, .retAddr 0, .retAddr 0, .retAddr 0] [] h bc bs Q) : ex_S yX12_unpoke mX12_unpoke (d + 2) [.ref a_0, .int v_1] h bc bs Q :=
  ex_enter (plainFor_of_name (by decide +kernel)) ⟨rfl, rfl⟩ rfl rfl (Nat.le_of_ble_eq_true rfl) (ex_pad 4 w)

set_option maxRecDepth 100000 in
theorem X12_slide_0 {d bc bs : Nat} {h : AH} {Q : Option Value → AH → Prop} {a_0 : Nat} {v_1 : Int32} (w : ah_o h a_0 12 ∧ X12_isEnd_C a_0 364 v_1 h ∧ ((¬ (X12_isEnd_V a_0 364 v_1 h) = 0 → X12_nextOfFace_C a_0 v_1 h ∧ ∀ x5, x5 = X12_nextOfFace_V a_0 v_1 h → X12_nextOfFace_C a_0 x5 h ∧ ∀ x7, x7 = X12_nextOfFace_V a_0 x5 h → X12_nextOfFace_C a_0 x7 h ∧ ((¬ (X12_nextOfFace_V a_0 x7 h) = v_1 → Q (some (.int 5)) h) ∧ ((X12_nextOfFace_V a_0 x7 h) = v_1 → ((x5 = v_1 → Q (some (.int 5)) h) ∧ (¬ x5 = v_1 → ((x7 = v_1 → Q (some (.int 5)) h) ∧ (¬ x7 = v_1 → (((v_1 / 4) = (x5 / 4) → Q (some (.int 5)) h) ∧ (¬ (v_1 / 4) = (x5 / 4) → (((v_1 / 4) = (x7 / 4) → Q (some (.int 5)) h) ∧ (¬ (v_1 / 4) = (x7 / 4) → ((¬ (x5 / 4) = (x7 / 4) → X12_goesOver_C a_0 v_1 h ∧ ((¬ (X12_goesOver_V a_0 v_1 h) = 0 → ex_G mX12_slide (d + 2) 102 [.ref a_0, .int v_1, .int x5, .int x7, .int 0] [] h bc bs Q) ∧ ((X12_goesOver_V a_0 v_1 h) = 0 → X12_goesOver_C a_0 x5 h ∧ ((¬ (X12_goesOver_V a_0 x5 h) = 0 → ex_G mX12_slide (d + 2) 102 [.ref a_0, .int v_1, .int x5, .int x7, .int 0] [] h bc bs Q) ∧ ((X12_goesOver_V a_0 x5 h) = 0 → X12_goesOver_C a_0 x7 h ∧ ((¬ (X12_goesOver_V a_0 x7 h) = 0 → ex_G mX12_slide (d + 2) 102 [.ref a_0, .int v_1, .int x5, .int x7, .int 0] [] h bc bs Q) ∧ ((X12_goesOver_V a_0 x7 h) = 0 → Q (some (.int 5)) h))))))) ∧ ((x5 / 4) = (x7 / 4) → Q (some (.int 5)) h))))))))))))) ∧ ((X12_isEnd_V a_0 364 v_1 h) = 0 → Q (some (.int 5)) h))) : ex_G mX12_slide (d + 2) 0 [.ref a_0, .int v_1, .retAddr 0, .retAddr 0, .retAddr 0] [] h bc bs Q := by
  refine ex_aload_n (q := 1) (x := a_0) dX12_slide_0 rfl ?_
  refine ex_sipush (q := 4) (v := 364) dX12_slide_1 (by decide) ?_
  refine ex_iload_n (q := 5) (x := v_1) dX12_slide_4 rfl ?_
  have s1 := w.1
  replace w := w.2
  have s2 := w.1
  replace w := w.2
  refine ex_callV (q := 8) (M := mX12_slide) (hdd := Nat.le_refl _) (mc := 0) (ms := 0) (d' := (d + 1)) (c := 12) (st := []) (bc := bc) (bs := bs) dX12_slide_5 rfl cl_X12_301 wd_1844 wd_78 s1 (X12_isEnd_s (Q := fun r z => r = some (.int (X12_isEnd_V a_0 364 v_1 h)) ∧ z = h) s2 ⟨rfl, rfl⟩) ?_
  intro r z hrz
  rw [hrz.1, hrz.2]
  show ex_G mX12_slide (d + 2) 8 [.ref a_0, .int v_1, .retAddr 0, .retAddr 0, .retAddr 0] [.int (X12_isEnd_V a_0 364 v_1 h)] (h) bc bs Q
  refine ex_if_ne (tgt := 13) (q := 11) dX12_slide_8 (fun c3 => ?_) (fun c3 => ?_)
  · replace w := w.1 c3
    refine ex_aload_n (q := 14) (x := a_0) dX12_slide_13 rfl ?_
    refine ex_iload_n (q := 15) (x := v_1) dX12_slide_14 rfl ?_
    have s4 := w.1
    replace w := w.2
    refine ex_callV (q := 18) (M := mX12_slide) (hdd := Nat.le_refl _) (mc := 0) (ms := 0) (d' := (d + 1)) (c := 12) (st := []) (bc := bc) (bs := bs) dX12_slide_15 rfl cl_X12_213 wd_1655 wd_55 s1 (X12_nextOfFace_s (Q := fun r z => r = some (.int (X12_nextOfFace_V a_0 v_1 h)) ∧ z = h) s4 ⟨rfl, rfl⟩) ?_
    intro r z hrz
    rw [hrz.1, hrz.2]
    show ex_G mX12_slide (d + 2) 18 [.ref a_0, .int v_1, .retAddr 0, .retAddr 0, .retAddr 0] [.int (X12_nextOfFace_V a_0 v_1 h)] (h) bc bs Q
    refine ex_nmi (fun x5 ex5 => ?_)
    replace w := w x5 ex5
    refine ex_istore_n (q := 19) (ls' := [.ref a_0, .int v_1, .int x5, .retAddr 0, .retAddr 0]) dX12_slide_18 rfl ?_
    refine ex_aload_n (q := 20) (x := a_0) dX12_slide_19 rfl ?_
    refine ex_iload_n (q := 21) (x := x5) dX12_slide_20 rfl ?_
    have s6 := w.1
    replace w := w.2
    refine ex_callV (q := 24) (M := mX12_slide) (hdd := Nat.le_refl _) (mc := 0) (ms := 0) (d' := (d + 1)) (c := 12) (st := []) (bc := bc) (bs := bs) dX12_slide_21 rfl cl_X12_213 wd_1655 wd_55 s1 (X12_nextOfFace_s (Q := fun r z => r = some (.int (X12_nextOfFace_V a_0 x5 h)) ∧ z = h) s6 ⟨rfl, rfl⟩) ?_
    intro r z hrz
    rw [hrz.1, hrz.2]
    show ex_G mX12_slide (d + 2) 24 [.ref a_0, .int v_1, .int x5, .retAddr 0, .retAddr 0] [.int (X12_nextOfFace_V a_0 x5 h)] (h) bc bs Q
    refine ex_nmi (fun x7 ex7 => ?_)
    replace w := w x7 ex7
    refine ex_istore_n (q := 25) (ls' := [.ref a_0, .int v_1, .int x5, .int x7, .retAddr 0]) dX12_slide_24 rfl ?_
    refine ex_aload_n (q := 26) (x := a_0) dX12_slide_25 rfl ?_
    refine ex_iload_n (q := 27) (x := x7) dX12_slide_26 rfl ?_
    have s8 := w.1
    replace w := w.2
    refine ex_callV (q := 30) (M := mX12_slide) (hdd := Nat.le_refl _) (mc := 0) (ms := 0) (d' := (d + 1)) (c := 12) (st := []) (bc := bc) (bs := bs) dX12_slide_27 rfl cl_X12_213 wd_1655 wd_55 s1 (X12_nextOfFace_s (Q := fun r z => r = some (.int (X12_nextOfFace_V a_0 x7 h)) ∧ z = h) s8 ⟨rfl, rfl⟩) ?_
    intro r z hrz
    rw [hrz.1, hrz.2]
    show ex_G mX12_slide (d + 2) 30 [.ref a_0, .int v_1, .int x5, .int x7, .retAddr 0] [.int (X12_nextOfFace_V a_0 x7 h)] (h) bc bs Q
    refine ex_iload_n (q := 31) (x := v_1) dX12_slide_30 rfl ?_
    refine ex_icmp_ne (tgt := 71) (q := 34) dX12_slide_31 (fun c9 => ?_) (fun c9 => ?_)
    · replace w := w.1 c9
      refine ex_iconst (q := 72) (v := 5) dX12_slide_71 (by decide) ?_
      exact ex_ireturn dX12_slide_72 rfl (Or.inl rfl) w
    · replace w := w.2 c9
      refine ex_iload_n (q := 35) (x := x5) dX12_slide_34 rfl ?_
      refine ex_iload_n (q := 36) (x := v_1) dX12_slide_35 rfl ?_
      refine ex_icmp_eq (tgt := 71) (q := 39) dX12_slide_36 (fun c10 => ?_) (fun c10 => ?_)
      · replace w := w.1 c10
        refine ex_iconst (q := 72) (v := 5) dX12_slide_71 (by decide) ?_
        exact ex_ireturn dX12_slide_72 rfl (Or.inl rfl) w
      · replace w := w.2 c10
        refine ex_iload_n (q := 40) (x := x7) dX12_slide_39 rfl ?_
        refine ex_iload_n (q := 41) (x := v_1) dX12_slide_40 rfl ?_
        refine ex_icmp_eq (tgt := 71) (q := 44) dX12_slide_41 (fun c11 => ?_) (fun c11 => ?_)
        · replace w := w.1 c11
          refine ex_iconst (q := 72) (v := 5) dX12_slide_71 (by decide) ?_
          exact ex_ireturn dX12_slide_72 rfl (Or.inl rfl) w
        · replace w := w.2 c11
          refine ex_iload_n (q := 45) (x := v_1) dX12_slide_44 rfl ?_
          refine ex_iconst (q := 46) (v := 4) dX12_slide_45 (by decide) ?_
          refine ex_idiv (q := 47) dX12_slide_46 (by decide) ?_
          refine ex_iload_n (q := 48) (x := x5) dX12_slide_47 rfl ?_
          refine ex_iconst (q := 49) (v := 4) dX12_slide_48 (by decide) ?_
          refine ex_idiv (q := 50) dX12_slide_49 (by decide) ?_
          refine ex_icmp_eq (tgt := 71) (q := 53) dX12_slide_50 (fun c12 => ?_) (fun c12 => ?_)
          · replace w := w.1 c12
            refine ex_iconst (q := 72) (v := 5) dX12_slide_71 (by decide) ?_
            exact ex_ireturn dX12_slide_72 rfl (Or.inl rfl) w
          · replace w := w.2 c12
            refine ex_iload_n (q := 54) (x := v_1) dX12_slide_53 rfl ?_
            refine ex_iconst (q := 55) (v := 4) dX12_slide_54 (by decide) ?_
            refine ex_idiv (q := 56) dX12_slide_55 (by decide) ?_
            refine ex_iload_n (q := 57) (x := x7) dX12_slide_56 rfl ?_
            refine ex_iconst (q := 58) (v := 4) dX12_slide_57 (by decide) ?_
            refine ex_idiv (q := 59) dX12_slide_58 (by decide) ?_
            refine ex_icmp_eq (tgt := 71) (q := 62) dX12_slide_59 (fun c13 => ?_) (fun c13 => ?_)
            · replace w := w.1 c13
              refine ex_iconst (q := 72) (v := 5) dX12_slide_71 (by decide) ?_
              exact ex_ireturn dX12_slide_72 rfl (Or.inl rfl) w
            · replace w := w.2 c13
              refine ex_iload_n (q := 63) (x := x5) dX12_slide_62 rfl ?_
              refine ex_iconst (q := 64) (v := 4) dX12_slide_63 (by decide) ?_
              refine ex_idiv (q := 65) dX12_slide_64 (by decide) ?_
              refine ex_iload_n (q := 66) (x := x7) dX12_slide_65 rfl ?_
              refine ex_iconst (q := 67) (v := 4) dX12_slide_66 (by decide) ?_
              refine ex_idiv (q := 68) dX12_slide_67 (by decide) ?_
              refine ex_icmp_ne (tgt := 73) (q := 71) dX12_slide_68 (fun c14 => ?_) (fun c14 => ?_)
              · replace w := w.1 c14
                refine ex_aload_n (q := 74) (x := a_0) dX12_slide_73 rfl ?_
                refine ex_iload_n (q := 75) (x := v_1) dX12_slide_74 rfl ?_
                have s15 := w.1
                replace w := w.2
                refine ex_callV (q := 78) (M := mX12_slide) (hdd := Nat.le_refl _) (mc := 0) (ms := 0) (d' := (d + 1)) (c := 12) (st := []) (bc := bc) (bs := bs) dX12_slide_75 rfl cl_X12_326 wd_1873 wd_85 s1 (X12_goesOver_s (Q := fun r z => r = some (.int (X12_goesOver_V a_0 v_1 h)) ∧ z = h) s15 ⟨rfl, rfl⟩) ?_
                intro r z hrz
                rw [hrz.1, hrz.2]
                show ex_G mX12_slide (d + 2) 78 [.ref a_0, .int v_1, .int x5, .int x7, .retAddr 0] [.int (X12_goesOver_V a_0 v_1 h)] (h) bc bs Q
                refine ex_if_ne (tgt := 99) (q := 81) dX12_slide_78 (fun c16 => ?_) (fun c16 => ?_)
                · replace w := w.1 c16
                  refine ex_iconst (q := 100) (v := 0) dX12_slide_99 (by decide) ?_
                  refine ex_istore (q := 102) (ls' := [.ref a_0, .int v_1, .int x5, .int x7, .int 0]) dX12_slide_100 rfl ?_
                  exact w
                · replace w := w.2 c16
                  refine ex_aload_n (q := 82) (x := a_0) dX12_slide_81 rfl ?_
                  refine ex_iload_n (q := 83) (x := x5) dX12_slide_82 rfl ?_
                  have s17 := w.1
                  replace w := w.2
                  refine ex_callV (q := 86) (M := mX12_slide) (hdd := Nat.le_refl _) (mc := 0) (ms := 0) (d' := (d + 1)) (c := 12) (st := []) (bc := bc) (bs := bs) dX12_slide_83 rfl cl_X12_326 wd_1873 wd_85 s1 (X12_goesOver_s (Q := fun r z => r = some (.int (X12_goesOver_V a_0 x5 h)) ∧ z = h) s17 ⟨rfl, rfl⟩) ?_
                  intro r z hrz
                  rw [hrz.1, hrz.2]
                  show ex_G mX12_slide (d + 2) 86 [.ref a_0, .int v_1, .int x5, .int x7, .retAddr 0] [.int (X12_goesOver_V a_0 x5 h)] (h) bc bs Q
                  refine ex_if_ne (tgt := 99) (q := 89) dX12_slide_86 (fun c18 => ?_) (fun c18 => ?_)
                  · replace w := w.1 c18
                    refine ex_iconst (q := 100) (v := 0) dX12_slide_99 (by decide) ?_
                    refine ex_istore (q := 102) (ls' := [.ref a_0, .int v_1, .int x5, .int x7, .int 0]) dX12_slide_100 rfl ?_
                    exact w
                  · replace w := w.2 c18
                    refine ex_aload_n (q := 90) (x := a_0) dX12_slide_89 rfl ?_
                    refine ex_iload_n (q := 91) (x := x7) dX12_slide_90 rfl ?_
                    have s19 := w.1
                    replace w := w.2
                    refine ex_callV (q := 94) (M := mX12_slide) (hdd := Nat.le_refl _) (mc := 0) (ms := 0) (d' := (d + 1)) (c := 12) (st := []) (bc := bc) (bs := bs) dX12_slide_91 rfl cl_X12_326 wd_1873 wd_85 s1 (X12_goesOver_s (Q := fun r z => r = some (.int (X12_goesOver_V a_0 x7 h)) ∧ z = h) s19 ⟨rfl, rfl⟩) ?_
                    intro r z hrz
                    rw [hrz.1, hrz.2]
                    show ex_G mX12_slide (d + 2) 94 [.ref a_0, .int v_1, .int x5, .int x7, .retAddr 0] [.int (X12_goesOver_V a_0 x7 h)] (h) bc bs Q
                    refine ex_if_ne (tgt := 99) (q := 97) dX12_slide_94 (fun c20 => ?_) (fun c20 => ?_)
                    · replace w := w.1 c20
                      refine ex_iconst (q := 100) (v := 0) dX12_slide_99 (by decide) ?_
                      refine ex_istore (q := 102) (ls' := [.ref a_0, .int v_1, .int x5, .int x7, .int 0]) dX12_slide_100 rfl ?_
                      exact w
                    · replace w := w.2 c20
                      refine ex_iconst (q := 98) (v := 5) dX12_slide_97 (by decide) ?_
                      exact ex_ireturn dX12_slide_98 rfl (Or.inl rfl) w
              · replace w := w.2 c14
                refine ex_iconst (q := 72) (v := 5) dX12_slide_71 (by decide) ?_
                exact ex_ireturn dX12_slide_72 rfl (Or.inl rfl) w
  · replace w := w.2 c3
    refine ex_iconst (q := 12) (v := 5) dX12_slide_11 (by decide) ?_
    exact ex_ireturn dX12_slide_12 rfl (Or.inl rfl) w

set_option maxRecDepth 100000 in
theorem X12_slide_102 {d bc bs : Nat} {h : AH} {Q : Option Value → AH → Prop} {a_0 : Nat} {v_1 : Int32} {v_2 : Int32} {v_3 : Int32} {v_4 : Int32} (w : ah_o h a_0 12 ∧ ∃ a2, ah_r h a_0 2 = some a2 ∧ ld0 h a2 364 ∧ (((4 * (ah_i h a2 (Int32.toNatClampNeg 364))) ≤ v_4 → ex_S yX12_slides mX12_slides (d + 1) [.ref a_0, .int v_1] h 0 0 (fun r h5 => r = none ∧ ah_o h5 a_0 12 ∧ ex_S yX12_slides mX12_slides (d + 1) [.ref a_0, .int v_2] h5 0 0 (fun r h6 => r = none ∧ ah_o h6 a_0 12 ∧ ex_S yX12_slides mX12_slides (d + 1) [.ref a_0, .int v_3] h6 0 0 (fun r h8 => r = none ∧ Q (some (.int 0)) h8)))) ∧ (¬ (4 * (ah_i h a2 (Int32.toNatClampNeg 364))) ≤ v_4 → ∃ a10, ah_r h a_0 34 = some a10 ∧ X12_arcAt_C a_0 v_4 h ∧ st0 h a10 v_4 ∧ ∀ h12, h12 = ah_si h a10 (Int32.toNatClampNeg v_4) (X12_arcAt_V a_0 v_4 h) → ∀ x14, x14 = v_4 + 1 → ex_G mX12_slide (d + 2) 102 [.ref a_0, .int v_1, .int v_2, .int v_3, .int x14] [] h12 bc bs Q))) : ex_G mX12_slide (d + 2) 102 [.ref a_0, .int v_1, .int v_2, .int v_3, .int v_4] [] h bc bs Q := by
  refine ex_iload (q := 104) (x := v_4) dX12_slide_102 rfl ?_
  refine ex_iconst (q := 105) (v := 4) dX12_slide_104 (by decide) ?_
  refine ex_aload_n (q := 106) (x := a_0) dX12_slide_105 rfl ?_
  have s1 := w.1
  replace w := w.2
  obtain ⟨a2, ea2, w⟩ := w
  refine ex_getr (q := 109) dX12_slide_106 fl_X12_13 s1 ea2 ?_
  refine ex_sipush (q := 112) (v := 364) dX12_slide_109 (by decide) ?_
  have s3 := w.1
  replace w := w.2
  refine ex_iald (q := 113) dX12_slide_112 s3 ?_
  refine ex_imul (q := 114) dX12_slide_113 ?_
  refine ex_icmp_ge (tgt := 136) (q := 117) dX12_slide_114 (fun c4 => ?_) (fun c4 => ?_)
  · replace w := w.1 c4
    refine ex_aload_n (q := 137) (x := a_0) dX12_slide_136 rfl ?_
    refine ex_iload_n (q := 138) (x := v_1) dX12_slide_137 rfl ?_
    refine ex_callV (q := 141) (M := mX12_slide) (hdd := Nat.le_refl _) (c := 12) (st := []) (bc := bc) (bs := bs) dX12_slide_138 rfl cl_X12_329 wd_1877 wd_86 s1 w ?_
    rintro r h5 ⟨rfl, w⟩
    show ex_G mX12_slide (d + 2) 141 [.ref a_0, .int v_1, .int v_2, .int v_3, .int v_4] [] h5 bc bs Q
    refine ex_aload_n (q := 142) (x := a_0) dX12_slide_141 rfl ?_
    refine ex_iload_n (q := 143) (x := v_2) dX12_slide_142 rfl ?_
    have s7 := w.1
    replace w := w.2
    refine ex_callV (q := 146) (M := mX12_slide) (hdd := Nat.le_refl _) (c := 12) (st := []) (bc := bc) (bs := bs) dX12_slide_143 rfl cl_X12_329 wd_1877 wd_86 s7 w ?_
    rintro r h6 ⟨rfl, w⟩
    show ex_G mX12_slide (d + 2) 146 [.ref a_0, .int v_1, .int v_2, .int v_3, .int v_4] [] h6 bc bs Q
    refine ex_aload_n (q := 147) (x := a_0) dX12_slide_146 rfl ?_
    refine ex_iload_n (q := 148) (x := v_3) dX12_slide_147 rfl ?_
    have s9 := w.1
    replace w := w.2
    refine ex_callV (q := 151) (M := mX12_slide) (hdd := Nat.le_refl _) (c := 12) (st := []) (bc := bc) (bs := bs) dX12_slide_148 rfl cl_X12_329 wd_1877 wd_86 s9 w ?_
    rintro r h8 ⟨rfl, w⟩
    show ex_G mX12_slide (d + 2) 151 [.ref a_0, .int v_1, .int v_2, .int v_3, .int v_4] [] h8 bc bs Q
    refine ex_iconst (q := 152) (v := 0) dX12_slide_151 (by decide) ?_
    exact ex_ireturn dX12_slide_152 rfl (Or.inl rfl) w
  · replace w := w.2 c4
    refine ex_aload_n (q := 118) (x := a_0) dX12_slide_117 rfl ?_
    obtain ⟨a10, ea10, w⟩ := w
    refine ex_getr (q := 121) dX12_slide_118 fl_X12_101 s1 ea10 ?_
    refine ex_iload (q := 123) (x := v_4) dX12_slide_121 rfl ?_
    refine ex_aload_n (q := 124) (x := a_0) dX12_slide_123 rfl ?_
    refine ex_iload (q := 126) (x := v_4) dX12_slide_124 rfl ?_
    have s11 := w.1
    replace w := w.2
    refine ex_callV (q := 129) (M := mX12_slide) (hdd := Nat.le_refl _) (mc := 0) (ms := 0) (d' := (d + 1)) (c := 12) (st := [.int v_4, .ref a10]) (bc := bc) (bs := bs) dX12_slide_126 rfl cl_X12_310 wd_1848 wd_79 s1 (X12_arcAt_s (Q := fun r z => r = some (.int (X12_arcAt_V a_0 v_4 h)) ∧ z = h) s11 ⟨rfl, rfl⟩) ?_
    intro r z hrz
    rw [hrz.1, hrz.2]
    show ex_G mX12_slide (d + 2) 129 [.ref a_0, .int v_1, .int v_2, .int v_3, .int v_4] [.int (X12_arcAt_V a_0 v_4 h), .int v_4, .ref a10] (h) bc bs Q
    have s13 := w.1
    replace w := w.2
    refine ex_iast (q := 130) dX12_slide_129 s13 ?_
    refine ex_nmh (fun h12 eh12 => ?_)
    replace w := w h12 eh12
    obtain ⟨x14, ex14⟩ : ∃ y : Int32, y = v_4 + 1 := ⟨_, rfl⟩
    replace w := w x14 ex14
    refine ex_iinc (q := 133) (x := v_4) (v := x14) (ls' := [.ref a_0, .int v_1, .int v_2, .int v_3, .int x14]) dX12_slide_130 rfl (by rw [ex14]; rfl) rfl ?_
    refine ex_goto (tgt := 102) dX12_slide_133 ?_
    exact w

theorem X12_slide_e {d bc bs : Nat} {h : AH} {Q : Option Value → AH → Prop} {a_0 : Nat} {v_1 : Int32} (w : ex_G mX12_slide (d + 2) 0 [.ref a_0, .int v_1, .retAddr 0, .retAddr 0, .retAddr 0] [] h bc bs Q) : ex_S yX12_slide mX12_slide (d + 2) [.ref a_0, .int v_1] h bc bs Q :=
  ex_enter (plainFor_of_name (by decide +kernel)) ⟨rfl, rfl⟩ rfl rfl (Nat.le_of_ble_eq_true rfl) (ex_pad 3 w)

set_option maxRecDepth 100000 in
theorem X12_slides_0 {d bc bs : Nat} {h : AH} {Q : Option Value → AH → Prop} {a_0 : Nat} {v_1 : Int32} (w : ah_o h a_0 12 ∧ ∃ a2, ah_r h a_0 10 = some a2 ∧ ld0 h a2 v_1 ∧ ∀ x4, x4 = ah_i h a2 (Int32.toNatClampNeg v_1) → ∃ a5, ah_r h a_0 5 = some a5 ∧ ∃ a6, ah_r h a_0 34 = some a6 ∧ ld0 h a6 (X12_turned_V x4 2 h) ∧ st0 h a5 (58240 + v_1) ∧ ∀ h8, h8 = ah_si h a5 (Int32.toNatClampNeg (58240 + v_1)) (ah_i h a6 (Int32.toNatClampNeg (X12_turned_V x4 2 h))) → ld0 h8 a6 v_1 ∧ st0 h8 a5 (58240 + (X12_turned_V v_1 2 h8)) ∧ ∀ h11, h11 = ah_si h8 a5 (Int32.toNatClampNeg (58240 + (X12_turned_V v_1 2 h8))) (ah_i h8 a6 (Int32.toNatClampNeg v_1)) → ld0 h11 a6 (X12_turned_V v_1 2 h11) ∧ st0 h11 a5 (58240 + x4) ∧ ∀ h14, h14 = ah_si h11 a5 (Int32.toNatClampNeg (58240 + x4)) (ah_i h11 a6 (Int32.toNatClampNeg (X12_turned_V v_1 2 h11))) → st0 h14 a5 (58240 + (X12_turned_V x4 2 h14)) ∧ ∀ h16, h16 = ah_si h14 a5 (Int32.toNatClampNeg (58240 + (X12_turned_V x4 2 h14))) (ah_i h14 a6 (Int32.toNatClampNeg v_1)) → Q none h16) : ex_G mX12_slides (d + 1) 0 [.ref a_0, .int v_1, .retAddr 0, .retAddr 0] [] h bc bs Q := by
  refine ex_aload_n (q := 1) (x := a_0) dX12_slides_0 rfl ?_
  have s1 := w.1
  replace w := w.2
  obtain ⟨a2, ea2, w⟩ := w
  refine ex_getr (q := 4) dX12_slides_1 fl_X12_36 s1 ea2 ?_
  refine ex_iload_n (q := 5) (x := v_1) dX12_slides_4 rfl ?_
  have s3 := w.1
  replace w := w.2
  refine ex_iald (q := 6) dX12_slides_5 s3 ?_
  refine ex_nmi (fun x4 ex4 => ?_)
  replace w := w x4 ex4
  refine ex_istore_n (q := 7) (ls' := [.ref a_0, .int v_1, .int x4, .retAddr 0]) dX12_slides_6 rfl ?_
  refine ex_ldc_w (q := 10) (v := 58240) dX12_slides_7 wd_1850 ?_
  refine ex_istore_n (q := 11) (ls' := [.ref a_0, .int v_1, .int x4, .int 58240]) dX12_slides_10 rfl ?_
  refine ex_aload_n (q := 12) (x := a_0) dX12_slides_11 rfl ?_
  obtain ⟨a5, ea5, w⟩ := w
  refine ex_getr (q := 15) dX12_slides_12 fl_X12_23 s1 ea5 ?_
  refine ex_iload_n (q := 16) (x := 58240) dX12_slides_15 rfl ?_
  refine ex_iload_n (q := 17) (x := v_1) dX12_slides_16 rfl ?_
  refine ex_iadd (q := 18) dX12_slides_17 ?_
  refine ex_aload_n (q := 19) (x := a_0) dX12_slides_18 rfl ?_
  obtain ⟨a6, ea6, w⟩ := w
  refine ex_getr (q := 22) dX12_slides_19 fl_X12_101 s1 ea6 ?_
  refine ex_iload_n (q := 23) (x := x4) dX12_slides_22 rfl ?_
  refine ex_iconst (q := 24) (v := 2) dX12_slides_23 (by decide) ?_
  refine ex_callS (q := 27) (M := mX12_slides) (hdd := Nat.le_refl _) (mc := 0) (ms := 0) (d' := d) (st := [.ref a6, .int (58240 + v_1), .ref a5]) (bc := bc) (bs := bs) dX12_slides_24 rfl cl_X12_209 wd_1658 (X12_turned_s (Q := fun r z => r = some (.int (X12_turned_V x4 2 h)) ∧ z = h) ⟨rfl, rfl⟩) ?_
  intro r z hrz
  rw [hrz.1, hrz.2]
  show ex_G mX12_slides (d + 1) 27 [.ref a_0, .int v_1, .int x4, .int 58240] [.int (X12_turned_V x4 2 h), .ref a6, .int (58240 + v_1), .ref a5] (h) bc bs Q
  have s7 := w.1
  replace w := w.2
  refine ex_iald (q := 28) dX12_slides_27 s7 ?_
  have s9 := w.1
  replace w := w.2
  refine ex_iast (q := 29) dX12_slides_28 s9 ?_
  refine ex_nmh (fun h8 eh8 => ?_)
  replace w := w h8 eh8
  refine ex_aload_n (q := 30) (x := a_0) dX12_slides_29 rfl ?_
  refine ex_getr (q := 33) dX12_slides_30 fl_X12_23 (by rw [eh8]; exact s1) (by rw [eh8]; exact ea5) ?_
  refine ex_iload_n (q := 34) (x := 58240) dX12_slides_33 rfl ?_
  refine ex_iload_n (q := 35) (x := v_1) dX12_slides_34 rfl ?_
  refine ex_iconst (q := 36) (v := 2) dX12_slides_35 (by decide) ?_
  refine ex_callS (q := 39) (M := mX12_slides) (hdd := Nat.le_refl _) (mc := 0) (ms := 0) (d' := d) (st := [.int 58240, .ref a5]) (bc := bc) (bs := bs) dX12_slides_36 rfl cl_X12_209 wd_1658 (X12_turned_s (Q := fun r z => r = some (.int (X12_turned_V v_1 2 h8)) ∧ z = h8) ⟨rfl, rfl⟩) ?_
  intro r z hrz
  rw [hrz.1, hrz.2]
  show ex_G mX12_slides (d + 1) 39 [.ref a_0, .int v_1, .int x4, .int 58240] [.int (X12_turned_V v_1 2 h8), .int 58240, .ref a5] (h8) bc bs Q
  refine ex_iadd (q := 40) dX12_slides_39 ?_
  refine ex_aload_n (q := 41) (x := a_0) dX12_slides_40 rfl ?_
  refine ex_getr (q := 44) dX12_slides_41 fl_X12_101 (by rw [eh8]; exact s1) (by rw [eh8]; exact ea6) ?_
  refine ex_iload_n (q := 45) (x := v_1) dX12_slides_44 rfl ?_
  have s10 := w.1
  replace w := w.2
  refine ex_iald (q := 46) dX12_slides_45 s10 ?_
  have s12 := w.1
  replace w := w.2
  refine ex_iast (q := 47) dX12_slides_46 s12 ?_
  refine ex_nmh (fun h11 eh11 => ?_)
  replace w := w h11 eh11
  refine ex_aload_n (q := 48) (x := a_0) dX12_slides_47 rfl ?_
  refine ex_getr (q := 51) dX12_slides_48 fl_X12_23 (by rw [eh11]; exact (by rw [eh8]; exact s1)) (by rw [eh11]; exact (by rw [eh8]; exact ea5)) ?_
  refine ex_iload_n (q := 52) (x := 58240) dX12_slides_51 rfl ?_
  refine ex_iload_n (q := 53) (x := x4) dX12_slides_52 rfl ?_
  refine ex_iadd (q := 54) dX12_slides_53 ?_
  refine ex_aload_n (q := 55) (x := a_0) dX12_slides_54 rfl ?_
  refine ex_getr (q := 58) dX12_slides_55 fl_X12_101 (by rw [eh11]; exact (by rw [eh8]; exact s1)) (by rw [eh11]; exact (by rw [eh8]; exact ea6)) ?_
  refine ex_iload_n (q := 59) (x := v_1) dX12_slides_58 rfl ?_
  refine ex_iconst (q := 60) (v := 2) dX12_slides_59 (by decide) ?_
  refine ex_callS (q := 63) (M := mX12_slides) (hdd := Nat.le_refl _) (mc := 0) (ms := 0) (d' := d) (st := [.ref a6, .int (58240 + x4), .ref a5]) (bc := bc) (bs := bs) dX12_slides_60 rfl cl_X12_209 wd_1658 (X12_turned_s (Q := fun r z => r = some (.int (X12_turned_V v_1 2 h11)) ∧ z = h11) ⟨rfl, rfl⟩) ?_
  intro r z hrz
  rw [hrz.1, hrz.2]
  show ex_G mX12_slides (d + 1) 63 [.ref a_0, .int v_1, .int x4, .int 58240] [.int (X12_turned_V v_1 2 h11), .ref a6, .int (58240 + x4), .ref a5] (h11) bc bs Q
  have s13 := w.1
  replace w := w.2
  refine ex_iald (q := 64) dX12_slides_63 s13 ?_
  have s15 := w.1
  replace w := w.2
  refine ex_iast (q := 65) dX12_slides_64 s15 ?_
  refine ex_nmh (fun h14 eh14 => ?_)
  replace w := w h14 eh14
  refine ex_aload_n (q := 66) (x := a_0) dX12_slides_65 rfl ?_
  refine ex_getr (q := 69) dX12_slides_66 fl_X12_23 (by rw [eh14]; exact (by rw [eh11]; exact (by rw [eh8]; exact s1))) (by rw [eh14]; exact (by rw [eh11]; exact (by rw [eh8]; exact ea5))) ?_
  refine ex_iload_n (q := 70) (x := 58240) dX12_slides_69 rfl ?_
  refine ex_iload_n (q := 71) (x := x4) dX12_slides_70 rfl ?_
  refine ex_iconst (q := 72) (v := 2) dX12_slides_71 (by decide) ?_
  refine ex_callS (q := 75) (M := mX12_slides) (hdd := Nat.le_refl _) (mc := 0) (ms := 0) (d' := d) (st := [.int 58240, .ref a5]) (bc := bc) (bs := bs) dX12_slides_72 rfl cl_X12_209 wd_1658 (X12_turned_s (Q := fun r z => r = some (.int (X12_turned_V x4 2 h14)) ∧ z = h14) ⟨rfl, rfl⟩) ?_
  intro r z hrz
  rw [hrz.1, hrz.2]
  show ex_G mX12_slides (d + 1) 75 [.ref a_0, .int v_1, .int x4, .int 58240] [.int (X12_turned_V x4 2 h14), .int 58240, .ref a5] (h14) bc bs Q
  refine ex_iadd (q := 76) dX12_slides_75 ?_
  refine ex_aload_n (q := 77) (x := a_0) dX12_slides_76 rfl ?_
  refine ex_getr (q := 80) dX12_slides_77 fl_X12_101 (by rw [eh14]; exact (by rw [eh11]; exact (by rw [eh8]; exact s1))) (by rw [eh14]; exact (by rw [eh11]; exact (by rw [eh8]; exact ea6))) ?_
  refine ex_iload_n (q := 81) (x := v_1) dX12_slides_80 rfl ?_
  refine ex_iald (q := 82) dX12_slides_81 (by rw [eh14]; exact (by rw [eh11]; exact s10)) ?_
  have s17 := w.1
  replace w := w.2
  refine ex_iast (q := 83) dX12_slides_82 s17 ?_
  refine ex_nmh (fun h16 eh16 => ?_)
  replace w := w h16 eh16
  exact ex_return dX12_slides_83 w

theorem X12_slides_e {d bc bs : Nat} {h : AH} {Q : Option Value → AH → Prop} {a_0 : Nat} {v_1 : Int32} (w : ex_G mX12_slides (d + 1) 0 [.ref a_0, .int v_1, .retAddr 0, .retAddr 0] [] h bc bs Q) : ex_S yX12_slides mX12_slides (d + 1) [.ref a_0, .int v_1] h bc bs Q :=
  ex_enter (plainFor_of_name (by decide +kernel)) ⟨rfl, rfl⟩ rfl rfl (Nat.le_of_ble_eq_true rfl) (ex_pad 2 w)

set_option maxRecDepth 100000 in
theorem X12_wayOut_0 {d bc bs : Nat} {h : AH} {Q : Option Value → AH → Prop} {a_0 : Nat} {v_1 : Int32} {v_2 : Int32} {v_3 : Int32} (w : ∀ x1, x1 = X12_turned_V v_2 v_3 h → ex_G mX12_wayOut (d + 1) 10 [.ref a_0, .int v_1, .retAddr 0, .int v_3, .int x1, .int 0] [] h bc bs Q) : ex_G mX12_wayOut (d + 1) 0 [.ref a_0, .int v_1, .int v_2, .int v_3, .retAddr 0, .retAddr 0] [] h bc bs Q := by
  refine ex_iload_n (q := 1) (x := v_2) dX12_wayOut_0 rfl ?_
  refine ex_iload_n (q := 2) (x := v_3) dX12_wayOut_1 rfl ?_
  refine ex_callS (q := 5) (M := mX12_wayOut) (hdd := Nat.le_refl _) (mc := 0) (ms := 0) (d' := d) (st := []) (bc := bc) (bs := bs) dX12_wayOut_2 rfl cl_X12_209 wd_1658 (X12_turned_s (Q := fun r z => r = some (.int (X12_turned_V v_2 v_3 h)) ∧ z = h) ⟨rfl, rfl⟩) ?_
  intro r z hrz
  rw [hrz.1, hrz.2]
  show ex_G mX12_wayOut (d + 1) 5 [.ref a_0, .int v_1, .int v_2, .int v_3, .retAddr 0, .retAddr 0] [.int (X12_turned_V v_2 v_3 h)] (h) bc bs Q
  refine ex_nmi (fun x1 ex1 => ?_)
  replace w := w x1 ex1
  refine ex_istore (q := 7) (ls' := [.ref a_0, .int v_1, .int v_2, .int v_3, .int x1, .retAddr 0]) dX12_wayOut_5 rfl ?_
  refine ex_iconst (q := 8) (v := 0) dX12_wayOut_7 (by decide) ?_
  refine ex_istore (q := 10) (ls' := [.ref a_0, .int v_1, .int v_2, .int v_3, .int x1, .int 0]) dX12_wayOut_8 rfl ?_
  refine ex_kill 2 (ls' := [.ref a_0, .int v_1, .retAddr 0, .int v_3, .int x1, .int 0]) rfl ?_
  exact w

set_option maxRecDepth 100000 in
theorem X12_wayOut_10 {d bc bs : Nat} {h : AH} {Q : Option Value → AH → Prop} {a_0 : Nat} {v_1 : Int32} {v_3 : Int32} {v_4 : Int32} {v_5 : Int32} (w : ((200 ≤ v_5 → Q (some (.int (-1))) h) ∧ (¬ 200 ≤ v_5 → ah_o h a_0 12 ∧ ∃ a3, ah_r h a_0 10 = some a3 ∧ ld0 h a3 v_4 ∧ ((¬ (X12_has_V v_1 (ah_i h a3 (Int32.toNatClampNeg v_4)) h) = 0 → ∀ x6, x6 = X12_turned_V (ah_i h a3 (Int32.toNatClampNeg v_4)) v_3 h → ∀ x7, x7 = v_5 + 1 → ex_G mX12_wayOut (d + 1) 10 [.ref a_0, .int v_1, .retAddr 0, .int v_3, .int x6, .int x7] [] h bc bs Q) ∧ ((X12_has_V v_1 (ah_i h a3 (Int32.toNatClampNeg v_4)) h) = 0 → Q (some (.int v_4)) h))))) : ex_G mX12_wayOut (d + 1) 10 [.ref a_0, .int v_1, .retAddr 0, .int v_3, .int v_4, .int v_5] [] h bc bs Q := by
  refine ex_iload (q := 12) (x := v_5) dX12_wayOut_10 rfl ?_
  refine ex_sipush (q := 15) (v := 200) dX12_wayOut_12 (by decide) ?_
  refine ex_icmp_ge (tgt := 54) (q := 18) dX12_wayOut_15 (fun c1 => ?_) (fun c1 => ?_)
  · replace w := w.1 c1
    refine ex_iconst (q := 55) (v := (-1)) dX12_wayOut_54 (by decide) ?_
    exact ex_ireturn dX12_wayOut_55 rfl (Or.inl rfl) w
  · replace w := w.2 c1
    refine ex_iload_n (q := 19) (x := v_1) dX12_wayOut_18 rfl ?_
    refine ex_aload_n (q := 20) (x := a_0) dX12_wayOut_19 rfl ?_
    have s2 := w.1
    replace w := w.2
    obtain ⟨a3, ea3, w⟩ := w
    refine ex_getr (q := 23) dX12_wayOut_20 fl_X12_36 s2 ea3 ?_
    refine ex_iload (q := 25) (x := v_4) dX12_wayOut_23 rfl ?_
    have s4 := w.1
    replace w := w.2
    refine ex_iald (q := 26) dX12_wayOut_25 s4 ?_
    refine ex_callS (q := 29) (M := mX12_wayOut) (hdd := Nat.le_refl _) (mc := 0) (ms := 0) (d' := d) (st := []) (bc := bc) (bs := bs) dX12_wayOut_26 rfl cl_X12_332 wd_1884 (X12_has_s (Q := fun r z => r = some (.int (X12_has_V v_1 (ah_i h a3 (Int32.toNatClampNeg v_4)) h)) ∧ z = h) ⟨rfl, rfl⟩) ?_
    intro r z hrz
    rw [hrz.1, hrz.2]
    show ex_G mX12_wayOut (d + 1) 29 [.ref a_0, .int v_1, .retAddr 0, .int v_3, .int v_4, .int v_5] [.int (X12_has_V v_1 (ah_i h a3 (Int32.toNatClampNeg v_4)) h)] (h) bc bs Q
    refine ex_if_ne (tgt := 35) (q := 32) dX12_wayOut_29 (fun c5 => ?_) (fun c5 => ?_)
    · replace w := w.1 c5
      refine ex_aload_n (q := 36) (x := a_0) dX12_wayOut_35 rfl ?_
      refine ex_getr (q := 39) dX12_wayOut_36 fl_X12_36 s2 ea3 ?_
      refine ex_iload (q := 41) (x := v_4) dX12_wayOut_39 rfl ?_
      refine ex_iald (q := 42) dX12_wayOut_41 s4 ?_
      refine ex_iload_n (q := 43) (x := v_3) dX12_wayOut_42 rfl ?_
      refine ex_callS (q := 46) (M := mX12_wayOut) (hdd := Nat.le_refl _) (mc := 0) (ms := 0) (d' := d) (st := []) (bc := bc) (bs := bs) dX12_wayOut_43 rfl cl_X12_209 wd_1658 (X12_turned_s (Q := fun r z => r = some (.int (X12_turned_V (ah_i h a3 (Int32.toNatClampNeg v_4)) v_3 h)) ∧ z = h) ⟨rfl, rfl⟩) ?_
      intro r z hrz
      rw [hrz.1, hrz.2]
      show ex_G mX12_wayOut (d + 1) 46 [.ref a_0, .int v_1, .retAddr 0, .int v_3, .int v_4, .int v_5] [.int (X12_turned_V (ah_i h a3 (Int32.toNatClampNeg v_4)) v_3 h)] (h) bc bs Q
      refine ex_nmi (fun x6 ex6 => ?_)
      replace w := w x6 ex6
      refine ex_istore (q := 48) (ls' := [.ref a_0, .int v_1, .retAddr 0, .int v_3, .int x6, .int v_5]) dX12_wayOut_46 rfl ?_
      obtain ⟨x7, ex7⟩ : ∃ y : Int32, y = v_5 + 1 := ⟨_, rfl⟩
      replace w := w x7 ex7
      refine ex_iinc (q := 51) (x := v_5) (v := x7) (ls' := [.ref a_0, .int v_1, .retAddr 0, .int v_3, .int x6, .int x7]) dX12_wayOut_48 rfl (by rw [ex7]; rfl) rfl ?_
      refine ex_goto (tgt := 10) dX12_wayOut_51 ?_
      exact w
    · replace w := w.2 c5
      refine ex_iload (q := 34) (x := v_4) dX12_wayOut_32 rfl ?_
      exact ex_ireturn dX12_wayOut_34 rfl (Or.inl rfl) w

theorem X12_wayOut_e {d bc bs : Nat} {h : AH} {Q : Option Value → AH → Prop} {a_0 : Nat} {v_1 : Int32} {v_2 : Int32} {v_3 : Int32} (w : ex_G mX12_wayOut (d + 1) 0 [.ref a_0, .int v_1, .int v_2, .int v_3, .retAddr 0, .retAddr 0] [] h bc bs Q) : ex_S yX12_wayOut mX12_wayOut (d + 1) [.ref a_0, .int v_1, .int v_2, .int v_3] h bc bs Q :=
  ex_enter (plainFor_of_name (by decide +kernel)) ⟨rfl, rfl⟩ rfl rfl (Nat.le_of_ble_eq_true rfl) (ex_pad 2 w)

set_option maxRecDepth 100000 in
theorem X12_flype_0 {d bc bs : Nat} {h : AH} {Q : Option Value → AH → Prop} {a_0 : Nat} {v_1 : Int32} {v_2 : Int32} (w : ah_o h a_0 12 ∧ X12_isEnd_C a_0 364 v_1 h ∧ (((X12_isEnd_V a_0 364 v_1 h) = 0 → Q (some (.int 5)) h) ∧ (¬ (X12_isEnd_V a_0 364 v_1 h) = 0 → ((v_2 < 0 → Q (some (.int 5)) h) ∧ (¬ v_2 < 0 → ∃ a5, ah_r h a_0 2 = some a5 ∧ ld0 h a5 364 ∧ ((31 ≤ (ah_i h a5 (Int32.toNatClampNeg 364)) → ex_G mX12_flype (d + 2) 41 [.ref a_0, .int v_1, .int v_2, .retAddr 0, .retAddr 0, .retAddr 0, .retAddr 0, .retAddr 0, .retAddr 0, .retAddr 0, .retAddr 0, .retAddr 0, .retAddr 0, .retAddr 0, .retAddr 0, .retAddr 0] [] h bc bs Q) ∧ (¬ 31 ≤ (ah_i h a5 (Int32.toNatClampNeg 364)) → ((¬ (v_2 >>> ((ah_i h a5 (Int32.toNatClampNeg 364)) &&& (31 : Int32))) = 0 → Q (some (.int 5)) h) ∧ ((v_2 >>> ((ah_i h a5 (Int32.toNatClampNeg 364)) &&& (31 : Int32))) = 0 → ex_G mX12_flype (d + 2) 41 [.ref a_0, .int v_1, .int v_2, .retAddr 0, .retAddr 0, .retAddr 0, .retAddr 0, .retAddr 0, .retAddr 0, .retAddr 0, .retAddr 0, .retAddr 0, .retAddr 0, .retAddr 0, .retAddr 0, .retAddr 0] [] h bc bs Q))))))))) : ex_G mX12_flype (d + 2) 0 [.ref a_0, .int v_1, .int v_2, .retAddr 0, .retAddr 0, .retAddr 0, .retAddr 0, .retAddr 0, .retAddr 0, .retAddr 0, .retAddr 0, .retAddr 0, .retAddr 0, .retAddr 0, .retAddr 0, .retAddr 0] [] h bc bs Q := by
  refine ex_aload_n (q := 1) (x := a_0) dX12_flype_0 rfl ?_
  refine ex_sipush (q := 4) (v := 364) dX12_flype_1 (by decide) ?_
  refine ex_iload_n (q := 5) (x := v_1) dX12_flype_4 rfl ?_
  have s1 := w.1
  replace w := w.2
  have s2 := w.1
  replace w := w.2
  refine ex_callV (q := 8) (M := mX12_flype) (hdd := Nat.le_refl _) (mc := 0) (ms := 0) (d' := (d + 1)) (c := 12) (st := []) (bc := bc) (bs := bs) dX12_flype_5 rfl cl_X12_301 wd_1844 wd_78 s1 (X12_isEnd_s (Q := fun r z => r = some (.int (X12_isEnd_V a_0 364 v_1 h)) ∧ z = h) s2 ⟨rfl, rfl⟩) ?_
  intro r z hrz
  rw [hrz.1, hrz.2]
  show ex_G mX12_flype (d + 2) 8 [.ref a_0, .int v_1, .int v_2, .retAddr 0, .retAddr 0, .retAddr 0, .retAddr 0, .retAddr 0, .retAddr 0, .retAddr 0, .retAddr 0, .retAddr 0, .retAddr 0, .retAddr 0, .retAddr 0, .retAddr 0] [.int (X12_isEnd_V a_0 364 v_1 h)] (h) bc bs Q
  refine ex_if_eq (tgt := 49) (q := 11) dX12_flype_8 (fun c3 => ?_) (fun c3 => ?_)
  · replace w := w.1 c3
    refine ex_iconst (q := 50) (v := 5) dX12_flype_49 (by decide) ?_
    exact ex_ireturn dX12_flype_50 rfl (Or.inl rfl) w
  · replace w := w.2 c3
    refine ex_iload_n (q := 12) (x := v_2) dX12_flype_11 rfl ?_
    refine ex_if_lt (tgt := 49) (q := 15) dX12_flype_12 (fun c4 => ?_) (fun c4 => ?_)
    · replace w := w.1 c4
      refine ex_iconst (q := 50) (v := 5) dX12_flype_49 (by decide) ?_
      exact ex_ireturn dX12_flype_50 rfl (Or.inl rfl) w
    · replace w := w.2 c4
      refine ex_aload_n (q := 16) (x := a_0) dX12_flype_15 rfl ?_
      obtain ⟨a5, ea5, w⟩ := w
      refine ex_getr (q := 19) dX12_flype_16 fl_X12_13 s1 ea5 ?_
      refine ex_sipush (q := 22) (v := 364) dX12_flype_19 (by decide) ?_
      have s6 := w.1
      replace w := w.2
      refine ex_iald (q := 23) dX12_flype_22 s6 ?_
      refine ex_bipush (q := 25) (v := 31) dX12_flype_23 (by decide) ?_
      refine ex_icmp_ge (tgt := 41) (q := 28) dX12_flype_25 (fun c7 => ?_) (fun c7 => ?_)
      · replace w := w.1 c7
        exact w
      · replace w := w.2 c7
        refine ex_iload_n (q := 29) (x := v_2) dX12_flype_28 rfl ?_
        refine ex_aload_n (q := 30) (x := a_0) dX12_flype_29 rfl ?_
        refine ex_getr (q := 33) dX12_flype_30 fl_X12_13 s1 ea5 ?_
        refine ex_sipush (q := 36) (v := 364) dX12_flype_33 (by decide) ?_
        refine ex_iald (q := 37) dX12_flype_36 s6 ?_
        refine ex_ishr (q := 38) dX12_flype_37 ?_
        refine ex_if_ne (tgt := 49) (q := 41) dX12_flype_38 (fun c8 => ?_) (fun c8 => ?_)
        · replace w := w.1 c8
          refine ex_iconst (q := 50) (v := 5) dX12_flype_49 (by decide) ?_
          exact ex_ireturn dX12_flype_50 rfl (Or.inl rfl) w
        · replace w := w.2 c8
          exact w

set_option maxRecDepth 100000 in
theorem X12_flype_41 {d bc bs : Nat} {h : AH} {Q : Option Value → AH → Prop} {a_0 : Nat} {v_1 : Int32} {v_2 : Int32} (w : (((X12_has_V v_2 v_1 h) = 0 → ah_o h a_0 12 ∧ ∃ a3, ah_r h a_0 10 = some a3 ∧ ld0 h a3 v_1 ∧ ∀ x5, x5 = ah_i h a3 (Int32.toNatClampNeg v_1) → ld0 h a3 (X12_turned_V v_1 1 h) ∧ ∀ x7, x7 = ah_i h a3 (Int32.toNatClampNeg (X12_turned_V v_1 1 h)) → ex_G mX12_flype (d + 2) 76 [.ref a_0, .int v_1, .int v_2, .int x5, .int x7, .int 0, .int 0, .retAddr 0, .retAddr 0, .retAddr 0, .retAddr 0, .retAddr 0, .retAddr 0, .retAddr 0, .retAddr 0, .retAddr 0] [] h bc bs Q) ∧ (¬ (X12_has_V v_2 v_1 h) = 0 → Q (some (.int 5)) h))) : ex_G mX12_flype (d + 2) 41 [.ref a_0, .int v_1, .int v_2, .retAddr 0, .retAddr 0, .retAddr 0, .retAddr 0, .retAddr 0, .retAddr 0, .retAddr 0, .retAddr 0, .retAddr 0, .retAddr 0, .retAddr 0, .retAddr 0, .retAddr 0] [] h bc bs Q := by
  refine ex_iload_n (q := 42) (x := v_2) dX12_flype_41 rfl ?_
  refine ex_iload_n (q := 43) (x := v_1) dX12_flype_42 rfl ?_
  refine ex_callS (q := 46) (M := mX12_flype) (hdd := Nat.le_refl _) (mc := 0) (ms := 0) (d' := (d + 1)) (st := []) (bc := bc) (bs := bs) dX12_flype_43 rfl cl_X12_332 wd_1884 (X12_has_s (Q := fun r z => r = some (.int (X12_has_V v_2 v_1 h)) ∧ z = h) ⟨rfl, rfl⟩) ?_
  intro r z hrz
  rw [hrz.1, hrz.2]
  show ex_G mX12_flype (d + 2) 46 [.ref a_0, .int v_1, .int v_2, .retAddr 0, .retAddr 0, .retAddr 0, .retAddr 0, .retAddr 0, .retAddr 0, .retAddr 0, .retAddr 0, .retAddr 0, .retAddr 0, .retAddr 0, .retAddr 0, .retAddr 0] [.int (X12_has_V v_2 v_1 h)] (h) bc bs Q
  refine ex_if_eq (tgt := 51) (q := 49) dX12_flype_46 (fun c1 => ?_) (fun c1 => ?_)
  · replace w := w.1 c1
    refine ex_aload_n (q := 52) (x := a_0) dX12_flype_51 rfl ?_
    have s2 := w.1
    replace w := w.2
    obtain ⟨a3, ea3, w⟩ := w
    refine ex_getr (q := 55) dX12_flype_52 fl_X12_36 s2 ea3 ?_
    refine ex_iload_n (q := 56) (x := v_1) dX12_flype_55 rfl ?_
    have s4 := w.1
    replace w := w.2
    refine ex_iald (q := 57) dX12_flype_56 s4 ?_
    refine ex_nmi (fun x5 ex5 => ?_)
    replace w := w x5 ex5
    refine ex_istore_n (q := 58) (ls' := [.ref a_0, .int v_1, .int v_2, .int x5, .retAddr 0, .retAddr 0, .retAddr 0, .retAddr 0, .retAddr 0, .retAddr 0, .retAddr 0, .retAddr 0, .retAddr 0, .retAddr 0, .retAddr 0, .retAddr 0]) dX12_flype_57 rfl ?_
    refine ex_aload_n (q := 59) (x := a_0) dX12_flype_58 rfl ?_
    refine ex_getr (q := 62) dX12_flype_59 fl_X12_36 s2 ea3 ?_
    refine ex_iload_n (q := 63) (x := v_1) dX12_flype_62 rfl ?_
    refine ex_iconst (q := 64) (v := 1) dX12_flype_63 (by decide) ?_
    refine ex_callS (q := 67) (M := mX12_flype) (hdd := Nat.le_refl _) (mc := 0) (ms := 0) (d' := (d + 1)) (st := [.ref a3]) (bc := bc) (bs := bs) dX12_flype_64 rfl cl_X12_209 wd_1658 (X12_turned_s (Q := fun r z => r = some (.int (X12_turned_V v_1 1 h)) ∧ z = h) ⟨rfl, rfl⟩) ?_
    intro r z hrz
    rw [hrz.1, hrz.2]
    show ex_G mX12_flype (d + 2) 67 [.ref a_0, .int v_1, .int v_2, .int x5, .retAddr 0, .retAddr 0, .retAddr 0, .retAddr 0, .retAddr 0, .retAddr 0, .retAddr 0, .retAddr 0, .retAddr 0, .retAddr 0, .retAddr 0, .retAddr 0] [.int (X12_turned_V v_1 1 h), .ref a3] (h) bc bs Q
    have s6 := w.1
    replace w := w.2
    refine ex_iald (q := 68) dX12_flype_67 s6 ?_
    refine ex_nmi (fun x7 ex7 => ?_)
    replace w := w x7 ex7
    refine ex_istore (q := 70) (ls' := [.ref a_0, .int v_1, .int v_2, .int x5, .int x7, .retAddr 0, .retAddr 0, .retAddr 0, .retAddr 0, .retAddr 0, .retAddr 0, .retAddr 0, .retAddr 0, .retAddr 0, .retAddr 0, .retAddr 0]) dX12_flype_68 rfl ?_
    refine ex_iconst (q := 71) (v := 0) dX12_flype_70 (by decide) ?_
    refine ex_istore (q := 73) (ls' := [.ref a_0, .int v_1, .int v_2, .int x5, .int x7, .int 0, .retAddr 0, .retAddr 0, .retAddr 0, .retAddr 0, .retAddr 0, .retAddr 0, .retAddr 0, .retAddr 0, .retAddr 0, .retAddr 0]) dX12_flype_71 rfl ?_
    refine ex_iconst (q := 74) (v := 0) dX12_flype_73 (by decide) ?_
    refine ex_istore (q := 76) (ls' := [.ref a_0, .int v_1, .int v_2, .int x5, .int x7, .int 0, .int 0, .retAddr 0, .retAddr 0, .retAddr 0, .retAddr 0, .retAddr 0, .retAddr 0, .retAddr 0, .retAddr 0, .retAddr 0]) dX12_flype_74 rfl ?_
    exact w
  · replace w := w.2 c1
    refine ex_iconst (q := 50) (v := 5) dX12_flype_49 (by decide) ?_
    exact ex_ireturn dX12_flype_50 rfl (Or.inl rfl) w

set_option maxRecDepth 100000 in
theorem X12_flype_76 {d bc bs : Nat} {h : AH} {Q : Option Value → AH → Prop} {a_0 : Nat} {v_1 : Int32} {v_2 : Int32} {v_3 : Int32} {v_4 : Int32} {v_5 : Int32} {v_6 : Int32} (w : ah_o h a_0 12 ∧ ∃ a2, ah_r h a_0 2 = some a2 ∧ ld0 h a2 364 ∧ (((4 * (ah_i h a2 (Int32.toNatClampNeg 364))) ≤ v_6 → (((X12_has_V v_2 v_3 h) = 0 → Q (some (.int 5)) h) ∧ (¬ (X12_has_V v_2 v_3 h) = 0 → (((X12_has_V v_2 v_4 h) = 0 → Q (some (.int 5)) h) ∧ (¬ (X12_has_V v_2 v_4 h) = 0 → ((v_5 = 4 → ex_S yX12_wayOut mX12_wayOut (d + 1) [.ref a_0, .int v_2, .int v_4, .int 3] h 0 0 (fun r h8 => ∃ x9, r = some (.int x9) ∧ ah_o h8 a_0 12 ∧ ex_S yX12_wayOut mX12_wayOut (d + 1) [.ref a_0, .int v_2, .int v_3, .int 1] h8 0 0 (fun r h10 => ∃ x12, r = some (.int x12) ∧ ((x9 = (-1) → Q (some (.int 5)) h10) ∧ (¬ x9 = (-1) → ((x12 = (-1) → Q (some (.int 5)) h10) ∧ (¬ x12 = (-1) → ((x9 = v_3 → Q (some (.int 5)) h10) ∧ (¬ x9 = v_3 → ((x9 = v_4 → Q (some (.int 5)) h10) ∧ (¬ x9 = v_4 → ((x12 = v_3 → Q (some (.int 5)) h10) ∧ (¬ x12 = v_3 → ((x12 = v_4 → Q (some (.int 5)) h10) ∧ (¬ x12 = v_4 → ((¬ x9 = x12 → ah_o h10 a_0 12 ∧ X12_arcAt_C a_0 v_1 h10 ∧ ∀ x22, x22 = X12_arcAt_V a_0 v_1 h10 → X12_arcAt_C a_0 (X12_turned_V v_1 1 h10) h10 ∧ ∀ x24, x24 = X12_arcAt_V a_0 (X12_turned_V v_1 1 h10) h10 → X12_arcAt_C a_0 (X12_turned_V v_1 2 h10) h10 ∧ ∀ x26, x26 = X12_arcAt_V a_0 (X12_turned_V v_1 2 h10) h10 → X12_arcAt_C a_0 (X12_turned_V v_1 3 h10) h10 ∧ ∀ x28, x28 = X12_arcAt_V a_0 (X12_turned_V v_1 3 h10) h10 → X12_arcAt_C a_0 x9 h10 ∧ ∀ x30, x30 = X12_arcAt_V a_0 x9 h10 → X12_arcAt_C a_0 x12 h10 ∧ ∀ x32, x32 = X12_arcAt_V a_0 x12 h10 → ∃ a33, ah_r h10 a_0 5 = some a33 ∧ st0 h10 a33 (58240 + v_1) ∧ ∀ h34, h34 = ah_si h10 a33 (Int32.toNatClampNeg (58240 + v_1)) x32 → st0 h34 a33 (58240 + (X12_turned_V v_1 1 h34)) ∧ ∀ h36, h36 = ah_si h34 a33 (Int32.toNatClampNeg (58240 + (X12_turned_V v_1 1 h34))) x30 → st0 h36 a33 (58240 + (X12_turned_V v_1 2 h36)) ∧ ∀ h38, h38 = ah_si h36 a33 (Int32.toNatClampNeg (58240 + (X12_turned_V v_1 2 h36))) x22 → st0 h38 a33 (58240 + (X12_turned_V v_1 3 h38)) ∧ ∀ h40, h40 = ah_si h38 a33 (Int32.toNatClampNeg (58240 + (X12_turned_V v_1 3 h38))) x24 → st0 h40 a33 (58240 + v_3) ∧ ∀ h42, h42 = ah_si h40 a33 (Int32.toNatClampNeg (58240 + v_3)) x26 → st0 h42 a33 (58240 + v_4) ∧ ∀ h44, h44 = ah_si h42 a33 (Int32.toNatClampNeg (58240 + v_4)) x28 → st0 h44 a33 (58240 + x12) ∧ ∀ h46, h46 = ah_si h44 a33 (Int32.toNatClampNeg (58240 + x12)) x22 → st0 h46 a33 (58240 + x9) ∧ ∀ h48, h48 = ah_si h46 a33 (Int32.toNatClampNeg (58240 + x9)) x24 → ex_G mX12_flype (d + 2) 388 [.ref a_0, .retAddr 0, .int v_2, .retAddr 0, .retAddr 0, .retAddr 0, .retAddr 0, .retAddr 0, .retAddr 0, .retAddr 0, .retAddr 0, .retAddr 0, .retAddr 0, .retAddr 0, .retAddr 0, .int 0] [] h48 bc bs Q) ∧ (x9 = x12 → Q (some (.int 5)) h10))))))))))))))))) ∧ (¬ v_5 = 4 → Q (some (.int 5)) h))))))) ∧ (¬ (4 * (ah_i h a2 (Int32.toNatClampNeg 364))) ≤ v_6 → (((X12_has_V v_2 v_6 h) = 0 → ∀ x51, x51 = v_5 + 0 → ∀ x52, x52 = v_6 + 1 → ex_G mX12_flype (d + 2) 76 [.ref a_0, .int v_1, .int v_2, .int v_3, .int v_4, .int x51, .int x52, .retAddr 0, .retAddr 0, .retAddr 0, .retAddr 0, .retAddr 0, .retAddr 0, .retAddr 0, .retAddr 0, .retAddr 0] [] h bc bs Q) ∧ (¬ (X12_has_V v_2 v_6 h) = 0 → ∃ a53, ah_r h a_0 10 = some a53 ∧ ld0 h a53 v_6 ∧ ((¬ (X12_has_V v_2 (ah_i h a53 (Int32.toNatClampNeg v_6)) h) = 0 → ∀ x56, x56 = v_5 + 0 → ∀ x57, x57 = v_6 + 1 → ex_G mX12_flype (d + 2) 76 [.ref a_0, .int v_1, .int v_2, .int v_3, .int v_4, .int x56, .int x57, .retAddr 0, .retAddr 0, .retAddr 0, .retAddr 0, .retAddr 0, .retAddr 0, .retAddr 0, .retAddr 0, .retAddr 0] [] h bc bs Q) ∧ ((X12_has_V v_2 (ah_i h a53 (Int32.toNatClampNeg v_6)) h) = 0 → ∀ x58, x58 = v_5 + 1 → ∀ x59, x59 = v_6 + 1 → ex_G mX12_flype (d + 2) 76 [.ref a_0, .int v_1, .int v_2, .int v_3, .int v_4, .int x58, .int x59, .retAddr 0, .retAddr 0, .retAddr 0, .retAddr 0, .retAddr 0, .retAddr 0, .retAddr 0, .retAddr 0, .retAddr 0] [] h bc bs Q))))))) : ex_G mX12_flype (d + 2) 76 [.ref a_0, .int v_1, .int v_2, .int v_3, .int v_4, .int v_5, .int v_6, .retAddr 0, .retAddr 0, .retAddr 0, .retAddr 0, .retAddr 0, .retAddr 0, .retAddr 0, .retAddr 0, .retAddr 0] [] h bc bs Q := by
  refine ex_iload (q := 78) (x := v_6) dX12_flype_76 rfl ?_
  refine ex_iconst (q := 79) (v := 4) dX12_flype_78 (by decide) ?_
  refine ex_aload_n (q := 80) (x := a_0) dX12_flype_79 rfl ?_
  have s1 := w.1
  replace w := w.2
  obtain ⟨a2, ea2, w⟩ := w
  refine ex_getr (q := 83) dX12_flype_80 fl_X12_13 s1 ea2 ?_
  refine ex_sipush (q := 86) (v := 364) dX12_flype_83 (by decide) ?_
  have s3 := w.1
  replace w := w.2
  refine ex_iald (q := 87) dX12_flype_86 s3 ?_
  refine ex_imul (q := 88) dX12_flype_87 ?_
  refine ex_icmp_ge (tgt := 130) (q := 91) dX12_flype_88 (fun c4 => ?_) (fun c4 => ?_)
  · replace w := w.1 c4
    refine ex_iload_n (q := 131) (x := v_2) dX12_flype_130 rfl ?_
    refine ex_iload_n (q := 132) (x := v_3) dX12_flype_131 rfl ?_
    refine ex_callS (q := 135) (M := mX12_flype) (hdd := Nat.le_refl _) (mc := 0) (ms := 0) (d' := (d + 1)) (st := []) (bc := bc) (bs := bs) dX12_flype_132 rfl cl_X12_332 wd_1884 (X12_has_s (Q := fun r z => r = some (.int (X12_has_V v_2 v_3 h)) ∧ z = h) ⟨rfl, rfl⟩) ?_
    intro r z hrz
    rw [hrz.1, hrz.2]
    show ex_G mX12_flype (d + 2) 135 [.ref a_0, .int v_1, .int v_2, .int v_3, .int v_4, .int v_5, .int v_6, .retAddr 0, .retAddr 0, .retAddr 0, .retAddr 0, .retAddr 0, .retAddr 0, .retAddr 0, .retAddr 0, .retAddr 0] [.int (X12_has_V v_2 v_3 h)] (h) bc bs Q
    refine ex_if_eq (tgt := 153) (q := 138) dX12_flype_135 (fun c5 => ?_) (fun c5 => ?_)
    · replace w := w.1 c5
      refine ex_iconst (q := 154) (v := 5) dX12_flype_153 (by decide) ?_
      exact ex_ireturn dX12_flype_154 rfl (Or.inl rfl) w
    · replace w := w.2 c5
      refine ex_iload_n (q := 139) (x := v_2) dX12_flype_138 rfl ?_
      refine ex_iload (q := 141) (x := v_4) dX12_flype_139 rfl ?_
      refine ex_callS (q := 144) (M := mX12_flype) (hdd := Nat.le_refl _) (mc := 0) (ms := 0) (d' := (d + 1)) (st := []) (bc := bc) (bs := bs) dX12_flype_141 rfl cl_X12_332 wd_1884 (X12_has_s (Q := fun r z => r = some (.int (X12_has_V v_2 v_4 h)) ∧ z = h) ⟨rfl, rfl⟩) ?_
      intro r z hrz
      rw [hrz.1, hrz.2]
      show ex_G mX12_flype (d + 2) 144 [.ref a_0, .int v_1, .int v_2, .int v_3, .int v_4, .int v_5, .int v_6, .retAddr 0, .retAddr 0, .retAddr 0, .retAddr 0, .retAddr 0, .retAddr 0, .retAddr 0, .retAddr 0, .retAddr 0] [.int (X12_has_V v_2 v_4 h)] (h) bc bs Q
      refine ex_if_eq (tgt := 153) (q := 147) dX12_flype_144 (fun c6 => ?_) (fun c6 => ?_)
      · replace w := w.1 c6
        refine ex_iconst (q := 154) (v := 5) dX12_flype_153 (by decide) ?_
        exact ex_ireturn dX12_flype_154 rfl (Or.inl rfl) w
      · replace w := w.2 c6
        refine ex_iload (q := 149) (x := v_5) dX12_flype_147 rfl ?_
        refine ex_iconst (q := 150) (v := 4) dX12_flype_149 (by decide) ?_
        refine ex_icmp_eq (tgt := 155) (q := 153) dX12_flype_150 (fun c7 => ?_) (fun c7 => ?_)
        · replace w := w.1 c7
          refine ex_aload_n (q := 156) (x := a_0) dX12_flype_155 rfl ?_
          refine ex_iload_n (q := 157) (x := v_2) dX12_flype_156 rfl ?_
          refine ex_iload (q := 159) (x := v_4) dX12_flype_157 rfl ?_
          refine ex_iconst (q := 160) (v := 3) dX12_flype_159 (by decide) ?_
          refine ex_callV (q := 163) (M := mX12_flype) (hdd := Nat.le_refl _) (c := 12) (st := []) (bc := bc) (bs := bs) dX12_flype_160 rfl cl_X12_335 wd_1888 wd_88 s1 w ?_
          rintro r h8 ⟨x9, rfl, w⟩
          show ex_G mX12_flype (d + 2) 163 [.ref a_0, .int v_1, .int v_2, .int v_3, .int v_4, .int v_5, .int v_6, .retAddr 0, .retAddr 0, .retAddr 0, .retAddr 0, .retAddr 0, .retAddr 0, .retAddr 0, .retAddr 0, .retAddr 0] [.int x9] h8 bc bs Q
          refine ex_istore (q := 165) (ls' := [.ref a_0, .int v_1, .int v_2, .int v_3, .int v_4, .int v_5, .int x9, .retAddr 0, .retAddr 0, .retAddr 0, .retAddr 0, .retAddr 0, .retAddr 0, .retAddr 0, .retAddr 0, .retAddr 0]) dX12_flype_163 rfl ?_
          refine ex_aload_n (q := 166) (x := a_0) dX12_flype_165 rfl ?_
          refine ex_iload_n (q := 167) (x := v_2) dX12_flype_166 rfl ?_
          refine ex_iload_n (q := 168) (x := v_3) dX12_flype_167 rfl ?_
          refine ex_iconst (q := 169) (v := 1) dX12_flype_168 (by decide) ?_
          have s11 := w.1
          replace w := w.2
          refine ex_callV (q := 172) (M := mX12_flype) (hdd := Nat.le_refl _) (c := 12) (st := []) (bc := bc) (bs := bs) dX12_flype_169 rfl cl_X12_335 wd_1888 wd_88 s11 w ?_
          rintro r h10 ⟨x12, rfl, w⟩
          show ex_G mX12_flype (d + 2) 172 [.ref a_0, .int v_1, .int v_2, .int v_3, .int v_4, .int v_5, .int x9, .retAddr 0, .retAddr 0, .retAddr 0, .retAddr 0, .retAddr 0, .retAddr 0, .retAddr 0, .retAddr 0, .retAddr 0] [.int x12] h10 bc bs Q
          refine ex_istore (q := 174) (ls' := [.ref a_0, .int v_1, .int v_2, .int v_3, .int v_4, .int v_5, .int x9, .int x12, .retAddr 0, .retAddr 0, .retAddr 0, .retAddr 0, .retAddr 0, .retAddr 0, .retAddr 0, .retAddr 0]) dX12_flype_172 rfl ?_
          refine ex_iload (q := 176) (x := x9) dX12_flype_174 rfl ?_
          refine ex_iconst (q := 177) (v := (-1)) dX12_flype_176 (by decide) ?_
          refine ex_icmp_eq (tgt := 219) (q := 180) dX12_flype_177 (fun c13 => ?_) (fun c13 => ?_)
          · replace w := w.1 c13
            refine ex_iconst (q := 220) (v := 5) dX12_flype_219 (by decide) ?_
            exact ex_ireturn dX12_flype_220 rfl (Or.inl rfl) w
          · replace w := w.2 c13
            refine ex_iload (q := 182) (x := x12) dX12_flype_180 rfl ?_
            refine ex_iconst (q := 183) (v := (-1)) dX12_flype_182 (by decide) ?_
            refine ex_icmp_eq (tgt := 219) (q := 186) dX12_flype_183 (fun c14 => ?_) (fun c14 => ?_)
            · replace w := w.1 c14
              refine ex_iconst (q := 220) (v := 5) dX12_flype_219 (by decide) ?_
              exact ex_ireturn dX12_flype_220 rfl (Or.inl rfl) w
            · replace w := w.2 c14
              refine ex_iload (q := 188) (x := x9) dX12_flype_186 rfl ?_
              refine ex_iload_n (q := 189) (x := v_3) dX12_flype_188 rfl ?_
              refine ex_icmp_eq (tgt := 219) (q := 192) dX12_flype_189 (fun c15 => ?_) (fun c15 => ?_)
              · replace w := w.1 c15
                refine ex_iconst (q := 220) (v := 5) dX12_flype_219 (by decide) ?_
                exact ex_ireturn dX12_flype_220 rfl (Or.inl rfl) w
              · replace w := w.2 c15
                refine ex_iload (q := 194) (x := x9) dX12_flype_192 rfl ?_
                refine ex_iload (q := 196) (x := v_4) dX12_flype_194 rfl ?_
                refine ex_icmp_eq (tgt := 219) (q := 199) dX12_flype_196 (fun c16 => ?_) (fun c16 => ?_)
                · replace w := w.1 c16
                  refine ex_iconst (q := 220) (v := 5) dX12_flype_219 (by decide) ?_
                  exact ex_ireturn dX12_flype_220 rfl (Or.inl rfl) w
                · replace w := w.2 c16
                  refine ex_iload (q := 201) (x := x12) dX12_flype_199 rfl ?_
                  refine ex_iload_n (q := 202) (x := v_3) dX12_flype_201 rfl ?_
                  refine ex_icmp_eq (tgt := 219) (q := 205) dX12_flype_202 (fun c17 => ?_) (fun c17 => ?_)
                  · replace w := w.1 c17
                    refine ex_iconst (q := 220) (v := 5) dX12_flype_219 (by decide) ?_
                    exact ex_ireturn dX12_flype_220 rfl (Or.inl rfl) w
                  · replace w := w.2 c17
                    refine ex_iload (q := 207) (x := x12) dX12_flype_205 rfl ?_
                    refine ex_iload (q := 209) (x := v_4) dX12_flype_207 rfl ?_
                    refine ex_icmp_eq (tgt := 219) (q := 212) dX12_flype_209 (fun c18 => ?_) (fun c18 => ?_)
                    · replace w := w.1 c18
                      refine ex_iconst (q := 220) (v := 5) dX12_flype_219 (by decide) ?_
                      exact ex_ireturn dX12_flype_220 rfl (Or.inl rfl) w
                    · replace w := w.2 c18
                      refine ex_iload (q := 214) (x := x9) dX12_flype_212 rfl ?_
                      refine ex_iload (q := 216) (x := x12) dX12_flype_214 rfl ?_
                      refine ex_icmp_ne (tgt := 221) (q := 219) dX12_flype_216 (fun c19 => ?_) (fun c19 => ?_)
                      · replace w := w.1 c19
                        refine ex_ldc_w (q := 224) (v := 58240) dX12_flype_221 wd_1850 ?_
                        refine ex_istore (q := 226) (ls' := [.ref a_0, .int v_1, .int v_2, .int v_3, .int v_4, .int v_5, .int x9, .int x12, .int 58240, .retAddr 0, .retAddr 0, .retAddr 0, .retAddr 0, .retAddr 0, .retAddr 0, .retAddr 0]) dX12_flype_224 rfl ?_
                        refine ex_aload_n (q := 227) (x := a_0) dX12_flype_226 rfl ?_
                        refine ex_iload_n (q := 228) (x := v_1) dX12_flype_227 rfl ?_
                        have s20 := w.1
                        replace w := w.2
                        have s21 := w.1
                        replace w := w.2
                        refine ex_callV (q := 231) (M := mX12_flype) (hdd := Nat.le_refl _) (mc := 0) (ms := 0) (d' := (d + 1)) (c := 12) (st := []) (bc := bc) (bs := bs) dX12_flype_228 rfl cl_X12_310 wd_1848 wd_79 s20 (X12_arcAt_s (Q := fun r z => r = some (.int (X12_arcAt_V a_0 v_1 h10)) ∧ z = h10) s21 ⟨rfl, rfl⟩) ?_
                        intro r z hrz
                        rw [hrz.1, hrz.2]
                        show ex_G mX12_flype (d + 2) 231 [.ref a_0, .int v_1, .int v_2, .int v_3, .int v_4, .int v_5, .int x9, .int x12, .int 58240, .retAddr 0, .retAddr 0, .retAddr 0, .retAddr 0, .retAddr 0, .retAddr 0, .retAddr 0] [.int (X12_arcAt_V a_0 v_1 h10)] (h10) bc bs Q
                        refine ex_nmi (fun x22 ex22 => ?_)
                        replace w := w x22 ex22
                        refine ex_istore (q := 233) (ls' := [.ref a_0, .int v_1, .int v_2, .int v_3, .int v_4, .int v_5, .int x9, .int x12, .int 58240, .int x22, .retAddr 0, .retAddr 0, .retAddr 0, .retAddr 0, .retAddr 0, .retAddr 0]) dX12_flype_231 rfl ?_
                        refine ex_aload_n (q := 234) (x := a_0) dX12_flype_233 rfl ?_
                        refine ex_iload_n (q := 235) (x := v_1) dX12_flype_234 rfl ?_
                        refine ex_iconst (q := 236) (v := 1) dX12_flype_235 (by decide) ?_
                        refine ex_callS (q := 239) (M := mX12_flype) (hdd := Nat.le_refl _) (mc := 0) (ms := 0) (d' := (d + 1)) (st := [.ref a_0]) (bc := bc) (bs := bs) dX12_flype_236 rfl cl_X12_209 wd_1658 (X12_turned_s (Q := fun r z => r = some (.int (X12_turned_V v_1 1 h10)) ∧ z = h10) ⟨rfl, rfl⟩) ?_
                        intro r z hrz
                        rw [hrz.1, hrz.2]
                        show ex_G mX12_flype (d + 2) 239 [.ref a_0, .int v_1, .int v_2, .int v_3, .int v_4, .int v_5, .int x9, .int x12, .int 58240, .int x22, .retAddr 0, .retAddr 0, .retAddr 0, .retAddr 0, .retAddr 0, .retAddr 0] [.int (X12_turned_V v_1 1 h10), .ref a_0] (h10) bc bs Q
                        have s23 := w.1
                        replace w := w.2
                        refine ex_callV (q := 242) (M := mX12_flype) (hdd := Nat.le_refl _) (mc := 0) (ms := 0) (d' := (d + 1)) (c := 12) (st := []) (bc := bc) (bs := bs) dX12_flype_239 rfl cl_X12_310 wd_1848 wd_79 s20 (X12_arcAt_s (Q := fun r z => r = some (.int (X12_arcAt_V a_0 (X12_turned_V v_1 1 h10) h10)) ∧ z = h10) s23 ⟨rfl, rfl⟩) ?_
                        intro r z hrz
                        rw [hrz.1, hrz.2]
                        show ex_G mX12_flype (d + 2) 242 [.ref a_0, .int v_1, .int v_2, .int v_3, .int v_4, .int v_5, .int x9, .int x12, .int 58240, .int x22, .retAddr 0, .retAddr 0, .retAddr 0, .retAddr 0, .retAddr 0, .retAddr 0] [.int (X12_arcAt_V a_0 (X12_turned_V v_1 1 h10) h10)] (h10) bc bs Q
                        refine ex_nmi (fun x24 ex24 => ?_)
                        replace w := w x24 ex24
                        refine ex_istore (q := 244) (ls' := [.ref a_0, .int v_1, .int v_2, .int v_3, .int v_4, .int v_5, .int x9, .int x12, .int 58240, .int x22, .int x24, .retAddr 0, .retAddr 0, .retAddr 0, .retAddr 0, .retAddr 0]) dX12_flype_242 rfl ?_
                        refine ex_aload_n (q := 245) (x := a_0) dX12_flype_244 rfl ?_
                        refine ex_iload_n (q := 246) (x := v_1) dX12_flype_245 rfl ?_
                        refine ex_iconst (q := 247) (v := 2) dX12_flype_246 (by decide) ?_
                        refine ex_callS (q := 250) (M := mX12_flype) (hdd := Nat.le_refl _) (mc := 0) (ms := 0) (d' := (d + 1)) (st := [.ref a_0]) (bc := bc) (bs := bs) dX12_flype_247 rfl cl_X12_209 wd_1658 (X12_turned_s (Q := fun r z => r = some (.int (X12_turned_V v_1 2 h10)) ∧ z = h10) ⟨rfl, rfl⟩) ?_
                        intro r z hrz
                        rw [hrz.1, hrz.2]
                        show ex_G mX12_flype (d + 2) 250 [.ref a_0, .int v_1, .int v_2, .int v_3, .int v_4, .int v_5, .int x9, .int x12, .int 58240, .int x22, .int x24, .retAddr 0, .retAddr 0, .retAddr 0, .retAddr 0, .retAddr 0] [.int (X12_turned_V v_1 2 h10), .ref a_0] (h10) bc bs Q
                        have s25 := w.1
                        replace w := w.2
                        refine ex_callV (q := 253) (M := mX12_flype) (hdd := Nat.le_refl _) (mc := 0) (ms := 0) (d' := (d + 1)) (c := 12) (st := []) (bc := bc) (bs := bs) dX12_flype_250 rfl cl_X12_310 wd_1848 wd_79 s20 (X12_arcAt_s (Q := fun r z => r = some (.int (X12_arcAt_V a_0 (X12_turned_V v_1 2 h10) h10)) ∧ z = h10) s25 ⟨rfl, rfl⟩) ?_
                        intro r z hrz
                        rw [hrz.1, hrz.2]
                        show ex_G mX12_flype (d + 2) 253 [.ref a_0, .int v_1, .int v_2, .int v_3, .int v_4, .int v_5, .int x9, .int x12, .int 58240, .int x22, .int x24, .retAddr 0, .retAddr 0, .retAddr 0, .retAddr 0, .retAddr 0] [.int (X12_arcAt_V a_0 (X12_turned_V v_1 2 h10) h10)] (h10) bc bs Q
                        refine ex_nmi (fun x26 ex26 => ?_)
                        replace w := w x26 ex26
                        refine ex_istore (q := 255) (ls' := [.ref a_0, .int v_1, .int v_2, .int v_3, .int v_4, .int v_5, .int x9, .int x12, .int 58240, .int x22, .int x24, .int x26, .retAddr 0, .retAddr 0, .retAddr 0, .retAddr 0]) dX12_flype_253 rfl ?_
                        refine ex_aload_n (q := 256) (x := a_0) dX12_flype_255 rfl ?_
                        refine ex_iload_n (q := 257) (x := v_1) dX12_flype_256 rfl ?_
                        refine ex_iconst (q := 258) (v := 3) dX12_flype_257 (by decide) ?_
                        refine ex_callS (q := 261) (M := mX12_flype) (hdd := Nat.le_refl _) (mc := 0) (ms := 0) (d' := (d + 1)) (st := [.ref a_0]) (bc := bc) (bs := bs) dX12_flype_258 rfl cl_X12_209 wd_1658 (X12_turned_s (Q := fun r z => r = some (.int (X12_turned_V v_1 3 h10)) ∧ z = h10) ⟨rfl, rfl⟩) ?_
                        intro r z hrz
                        rw [hrz.1, hrz.2]
                        show ex_G mX12_flype (d + 2) 261 [.ref a_0, .int v_1, .int v_2, .int v_3, .int v_4, .int v_5, .int x9, .int x12, .int 58240, .int x22, .int x24, .int x26, .retAddr 0, .retAddr 0, .retAddr 0, .retAddr 0] [.int (X12_turned_V v_1 3 h10), .ref a_0] (h10) bc bs Q
                        have s27 := w.1
                        replace w := w.2
                        refine ex_callV (q := 264) (M := mX12_flype) (hdd := Nat.le_refl _) (mc := 0) (ms := 0) (d' := (d + 1)) (c := 12) (st := []) (bc := bc) (bs := bs) dX12_flype_261 rfl cl_X12_310 wd_1848 wd_79 s20 (X12_arcAt_s (Q := fun r z => r = some (.int (X12_arcAt_V a_0 (X12_turned_V v_1 3 h10) h10)) ∧ z = h10) s27 ⟨rfl, rfl⟩) ?_
                        intro r z hrz
                        rw [hrz.1, hrz.2]
                        show ex_G mX12_flype (d + 2) 264 [.ref a_0, .int v_1, .int v_2, .int v_3, .int v_4, .int v_5, .int x9, .int x12, .int 58240, .int x22, .int x24, .int x26, .retAddr 0, .retAddr 0, .retAddr 0, .retAddr 0] [.int (X12_arcAt_V a_0 (X12_turned_V v_1 3 h10) h10)] (h10) bc bs Q
                        refine ex_nmi (fun x28 ex28 => ?_)
                        replace w := w x28 ex28
                        refine ex_istore (q := 266) (ls' := [.ref a_0, .int v_1, .int v_2, .int v_3, .int v_4, .int v_5, .int x9, .int x12, .int 58240, .int x22, .int x24, .int x26, .int x28, .retAddr 0, .retAddr 0, .retAddr 0]) dX12_flype_264 rfl ?_
                        refine ex_aload_n (q := 267) (x := a_0) dX12_flype_266 rfl ?_
                        refine ex_iload (q := 269) (x := x9) dX12_flype_267 rfl ?_
                        have s29 := w.1
                        replace w := w.2
                        refine ex_callV (q := 272) (M := mX12_flype) (hdd := Nat.le_refl _) (mc := 0) (ms := 0) (d' := (d + 1)) (c := 12) (st := []) (bc := bc) (bs := bs) dX12_flype_269 rfl cl_X12_310 wd_1848 wd_79 s20 (X12_arcAt_s (Q := fun r z => r = some (.int (X12_arcAt_V a_0 x9 h10)) ∧ z = h10) s29 ⟨rfl, rfl⟩) ?_
                        intro r z hrz
                        rw [hrz.1, hrz.2]
                        show ex_G mX12_flype (d + 2) 272 [.ref a_0, .int v_1, .int v_2, .int v_3, .int v_4, .int v_5, .int x9, .int x12, .int 58240, .int x22, .int x24, .int x26, .int x28, .retAddr 0, .retAddr 0, .retAddr 0] [.int (X12_arcAt_V a_0 x9 h10)] (h10) bc bs Q
                        refine ex_nmi (fun x30 ex30 => ?_)
                        replace w := w x30 ex30
                        refine ex_istore (q := 274) (ls' := [.ref a_0, .int v_1, .int v_2, .int v_3, .int v_4, .int v_5, .int x9, .int x12, .int 58240, .int x22, .int x24, .int x26, .int x28, .int x30, .retAddr 0, .retAddr 0]) dX12_flype_272 rfl ?_
                        refine ex_aload_n (q := 275) (x := a_0) dX12_flype_274 rfl ?_
                        refine ex_iload (q := 277) (x := x12) dX12_flype_275 rfl ?_
                        have s31 := w.1
                        replace w := w.2
                        refine ex_callV (q := 280) (M := mX12_flype) (hdd := Nat.le_refl _) (mc := 0) (ms := 0) (d' := (d + 1)) (c := 12) (st := []) (bc := bc) (bs := bs) dX12_flype_277 rfl cl_X12_310 wd_1848 wd_79 s20 (X12_arcAt_s (Q := fun r z => r = some (.int (X12_arcAt_V a_0 x12 h10)) ∧ z = h10) s31 ⟨rfl, rfl⟩) ?_
                        intro r z hrz
                        rw [hrz.1, hrz.2]
                        show ex_G mX12_flype (d + 2) 280 [.ref a_0, .int v_1, .int v_2, .int v_3, .int v_4, .int v_5, .int x9, .int x12, .int 58240, .int x22, .int x24, .int x26, .int x28, .int x30, .retAddr 0, .retAddr 0] [.int (X12_arcAt_V a_0 x12 h10)] (h10) bc bs Q
                        refine ex_nmi (fun x32 ex32 => ?_)
                        replace w := w x32 ex32
                        refine ex_istore (q := 282) (ls' := [.ref a_0, .int v_1, .int v_2, .int v_3, .int v_4, .int v_5, .int x9, .int x12, .int 58240, .int x22, .int x24, .int x26, .int x28, .int x30, .int x32, .retAddr 0]) dX12_flype_280 rfl ?_
                        refine ex_aload_n (q := 283) (x := a_0) dX12_flype_282 rfl ?_
                        obtain ⟨a33, ea33, w⟩ := w
                        refine ex_getr (q := 286) dX12_flype_283 fl_X12_23 s20 ea33 ?_
                        refine ex_iload (q := 288) (x := 58240) dX12_flype_286 rfl ?_
                        refine ex_iload_n (q := 289) (x := v_1) dX12_flype_288 rfl ?_
                        refine ex_iadd (q := 290) dX12_flype_289 ?_
                        refine ex_iload (q := 292) (x := x32) dX12_flype_290 rfl ?_
                        have s35 := w.1
                        replace w := w.2
                        refine ex_iast (q := 293) dX12_flype_292 s35 ?_
                        refine ex_nmh (fun h34 eh34 => ?_)
                        replace w := w h34 eh34
                        refine ex_aload_n (q := 294) (x := a_0) dX12_flype_293 rfl ?_
                        refine ex_getr (q := 297) dX12_flype_294 fl_X12_23 (by rw [eh34]; exact s20) (by rw [eh34]; exact ea33) ?_
                        refine ex_iload (q := 299) (x := 58240) dX12_flype_297 rfl ?_
                        refine ex_iload_n (q := 300) (x := v_1) dX12_flype_299 rfl ?_
                        refine ex_iconst (q := 301) (v := 1) dX12_flype_300 (by decide) ?_
                        refine ex_callS (q := 304) (M := mX12_flype) (hdd := Nat.le_refl _) (mc := 0) (ms := 0) (d' := (d + 1)) (st := [.int 58240, .ref a33]) (bc := bc) (bs := bs) dX12_flype_301 rfl cl_X12_209 wd_1658 (X12_turned_s (Q := fun r z => r = some (.int (X12_turned_V v_1 1 h34)) ∧ z = h34) ⟨rfl, rfl⟩) ?_
                        intro r z hrz
                        rw [hrz.1, hrz.2]
                        show ex_G mX12_flype (d + 2) 304 [.ref a_0, .int v_1, .int v_2, .int v_3, .int v_4, .int v_5, .int x9, .int x12, .int 58240, .int x22, .int x24, .int x26, .int x28, .int x30, .int x32, .retAddr 0] [.int (X12_turned_V v_1 1 h34), .int 58240, .ref a33] (h34) bc bs Q
                        refine ex_iadd (q := 305) dX12_flype_304 ?_
                        refine ex_iload (q := 307) (x := x30) dX12_flype_305 rfl ?_
                        have s37 := w.1
                        replace w := w.2
                        refine ex_iast (q := 308) dX12_flype_307 s37 ?_
                        refine ex_nmh (fun h36 eh36 => ?_)
                        replace w := w h36 eh36
                        refine ex_aload_n (q := 309) (x := a_0) dX12_flype_308 rfl ?_
                        refine ex_getr (q := 312) dX12_flype_309 fl_X12_23 (by rw [eh36]; exact (by rw [eh34]; exact s20)) (by rw [eh36]; exact (by rw [eh34]; exact ea33)) ?_
                        refine ex_iload (q := 314) (x := 58240) dX12_flype_312 rfl ?_
                        refine ex_iload_n (q := 315) (x := v_1) dX12_flype_314 rfl ?_
                        refine ex_iconst (q := 316) (v := 2) dX12_flype_315 (by decide) ?_
                        refine ex_callS (q := 319) (M := mX12_flype) (hdd := Nat.le_refl _) (mc := 0) (ms := 0) (d' := (d + 1)) (st := [.int 58240, .ref a33]) (bc := bc) (bs := bs) dX12_flype_316 rfl cl_X12_209 wd_1658 (X12_turned_s (Q := fun r z => r = some (.int (X12_turned_V v_1 2 h36)) ∧ z = h36) ⟨rfl, rfl⟩) ?_
                        intro r z hrz
                        rw [hrz.1, hrz.2]
                        show ex_G mX12_flype (d + 2) 319 [.ref a_0, .int v_1, .int v_2, .int v_3, .int v_4, .int v_5, .int x9, .int x12, .int 58240, .int x22, .int x24, .int x26, .int x28, .int x30, .int x32, .retAddr 0] [.int (X12_turned_V v_1 2 h36), .int 58240, .ref a33] (h36) bc bs Q
                        refine ex_iadd (q := 320) dX12_flype_319 ?_
                        refine ex_iload (q := 322) (x := x22) dX12_flype_320 rfl ?_
                        have s39 := w.1
                        replace w := w.2
                        refine ex_iast (q := 323) dX12_flype_322 s39 ?_
                        refine ex_nmh (fun h38 eh38 => ?_)
                        replace w := w h38 eh38
                        refine ex_aload_n (q := 324) (x := a_0) dX12_flype_323 rfl ?_
                        refine ex_getr (q := 327) dX12_flype_324 fl_X12_23 (by rw [eh38]; exact (by rw [eh36]; exact (by rw [eh34]; exact s20))) (by rw [eh38]; exact (by rw [eh36]; exact (by rw [eh34]; exact ea33))) ?_
                        refine ex_iload (q := 329) (x := 58240) dX12_flype_327 rfl ?_
                        refine ex_iload_n (q := 330) (x := v_1) dX12_flype_329 rfl ?_
                        refine ex_iconst (q := 331) (v := 3) dX12_flype_330 (by decide) ?_
                        refine ex_callS (q := 334) (M := mX12_flype) (hdd := Nat.le_refl _) (mc := 0) (ms := 0) (d' := (d + 1)) (st := [.int 58240, .ref a33]) (bc := bc) (bs := bs) dX12_flype_331 rfl cl_X12_209 wd_1658 (X12_turned_s (Q := fun r z => r = some (.int (X12_turned_V v_1 3 h38)) ∧ z = h38) ⟨rfl, rfl⟩) ?_
                        intro r z hrz
                        rw [hrz.1, hrz.2]
                        show ex_G mX12_flype (d + 2) 334 [.ref a_0, .int v_1, .int v_2, .int v_3, .int v_4, .int v_5, .int x9, .int x12, .int 58240, .int x22, .int x24, .int x26, .int x28, .int x30, .int x32, .retAddr 0] [.int (X12_turned_V v_1 3 h38), .int 58240, .ref a33] (h38) bc bs Q
                        refine ex_iadd (q := 335) dX12_flype_334 ?_
                        refine ex_iload (q := 337) (x := x24) dX12_flype_335 rfl ?_
                        have s41 := w.1
                        replace w := w.2
                        refine ex_iast (q := 338) dX12_flype_337 s41 ?_
                        refine ex_nmh (fun h40 eh40 => ?_)
                        replace w := w h40 eh40
                        refine ex_aload_n (q := 339) (x := a_0) dX12_flype_338 rfl ?_
                        refine ex_getr (q := 342) dX12_flype_339 fl_X12_23 (by rw [eh40]; exact (by rw [eh38]; exact (by rw [eh36]; exact (by rw [eh34]; exact s20)))) (by rw [eh40]; exact (by rw [eh38]; exact (by rw [eh36]; exact (by rw [eh34]; exact ea33)))) ?_
                        refine ex_iload (q := 344) (x := 58240) dX12_flype_342 rfl ?_
                        refine ex_iload_n (q := 345) (x := v_3) dX12_flype_344 rfl ?_
                        refine ex_iadd (q := 346) dX12_flype_345 ?_
                        refine ex_iload (q := 348) (x := x26) dX12_flype_346 rfl ?_
                        have s43 := w.1
                        replace w := w.2
                        refine ex_iast (q := 349) dX12_flype_348 s43 ?_
                        refine ex_nmh (fun h42 eh42 => ?_)
                        replace w := w h42 eh42
                        refine ex_aload_n (q := 350) (x := a_0) dX12_flype_349 rfl ?_
                        refine ex_getr (q := 353) dX12_flype_350 fl_X12_23 (by rw [eh42]; exact (by rw [eh40]; exact (by rw [eh38]; exact (by rw [eh36]; exact (by rw [eh34]; exact s20))))) (by rw [eh42]; exact (by rw [eh40]; exact (by rw [eh38]; exact (by rw [eh36]; exact (by rw [eh34]; exact ea33))))) ?_
                        refine ex_iload (q := 355) (x := 58240) dX12_flype_353 rfl ?_
                        refine ex_iload (q := 357) (x := v_4) dX12_flype_355 rfl ?_
                        refine ex_iadd (q := 358) dX12_flype_357 ?_
                        refine ex_iload (q := 360) (x := x28) dX12_flype_358 rfl ?_
                        have s45 := w.1
                        replace w := w.2
                        refine ex_iast (q := 361) dX12_flype_360 s45 ?_
                        refine ex_nmh (fun h44 eh44 => ?_)
                        replace w := w h44 eh44
                        refine ex_aload_n (q := 362) (x := a_0) dX12_flype_361 rfl ?_
                        refine ex_getr (q := 365) dX12_flype_362 fl_X12_23 (by rw [eh44]; exact (by rw [eh42]; exact (by rw [eh40]; exact (by rw [eh38]; exact (by rw [eh36]; exact (by rw [eh34]; exact s20)))))) (by rw [eh44]; exact (by rw [eh42]; exact (by rw [eh40]; exact (by rw [eh38]; exact (by rw [eh36]; exact (by rw [eh34]; exact ea33)))))) ?_
                        refine ex_iload (q := 367) (x := 58240) dX12_flype_365 rfl ?_
                        refine ex_iload (q := 369) (x := x12) dX12_flype_367 rfl ?_
                        refine ex_iadd (q := 370) dX12_flype_369 ?_
                        refine ex_iload (q := 372) (x := x22) dX12_flype_370 rfl ?_
                        have s47 := w.1
                        replace w := w.2
                        refine ex_iast (q := 373) dX12_flype_372 s47 ?_
                        refine ex_nmh (fun h46 eh46 => ?_)
                        replace w := w h46 eh46
                        refine ex_aload_n (q := 374) (x := a_0) dX12_flype_373 rfl ?_
                        refine ex_getr (q := 377) dX12_flype_374 fl_X12_23 (by rw [eh46]; exact (by rw [eh44]; exact (by rw [eh42]; exact (by rw [eh40]; exact (by rw [eh38]; exact (by rw [eh36]; exact (by rw [eh34]; exact s20))))))) (by rw [eh46]; exact (by rw [eh44]; exact (by rw [eh42]; exact (by rw [eh40]; exact (by rw [eh38]; exact (by rw [eh36]; exact (by rw [eh34]; exact ea33))))))) ?_
                        refine ex_iload (q := 379) (x := 58240) dX12_flype_377 rfl ?_
                        refine ex_iload (q := 381) (x := x9) dX12_flype_379 rfl ?_
                        refine ex_iadd (q := 382) dX12_flype_381 ?_
                        refine ex_iload (q := 384) (x := x24) dX12_flype_382 rfl ?_
                        have s49 := w.1
                        replace w := w.2
                        refine ex_iast (q := 385) dX12_flype_384 s49 ?_
                        refine ex_nmh (fun h48 eh48 => ?_)
                        replace w := w h48 eh48
                        refine ex_iconst (q := 386) (v := 0) dX12_flype_385 (by decide) ?_
                        refine ex_istore (q := 388) (ls' := [.ref a_0, .int v_1, .int v_2, .int v_3, .int v_4, .int v_5, .int x9, .int x12, .int 58240, .int x22, .int x24, .int x26, .int x28, .int x30, .int x32, .int 0]) dX12_flype_386 rfl ?_
                        refine ex_kill 1 (ls' := [.ref a_0, .retAddr 0, .int v_2, .int v_3, .int v_4, .int v_5, .int x9, .int x12, .int 58240, .int x22, .int x24, .int x26, .int x28, .int x30, .int x32, .int 0]) rfl ?_
                        refine ex_kill 3 (ls' := [.ref a_0, .retAddr 0, .int v_2, .retAddr 0, .int v_4, .int v_5, .int x9, .int x12, .int 58240, .int x22, .int x24, .int x26, .int x28, .int x30, .int x32, .int 0]) rfl ?_
                        refine ex_kill 4 (ls' := [.ref a_0, .retAddr 0, .int v_2, .retAddr 0, .retAddr 0, .int v_5, .int x9, .int x12, .int 58240, .int x22, .int x24, .int x26, .int x28, .int x30, .int x32, .int 0]) rfl ?_
                        refine ex_kill 5 (ls' := [.ref a_0, .retAddr 0, .int v_2, .retAddr 0, .retAddr 0, .retAddr 0, .int x9, .int x12, .int 58240, .int x22, .int x24, .int x26, .int x28, .int x30, .int x32, .int 0]) rfl ?_
                        refine ex_kill 6 (ls' := [.ref a_0, .retAddr 0, .int v_2, .retAddr 0, .retAddr 0, .retAddr 0, .retAddr 0, .int x12, .int 58240, .int x22, .int x24, .int x26, .int x28, .int x30, .int x32, .int 0]) rfl ?_
                        refine ex_kill 7 (ls' := [.ref a_0, .retAddr 0, .int v_2, .retAddr 0, .retAddr 0, .retAddr 0, .retAddr 0, .retAddr 0, .int 58240, .int x22, .int x24, .int x26, .int x28, .int x30, .int x32, .int 0]) rfl ?_
                        refine ex_kill 8 (ls' := [.ref a_0, .retAddr 0, .int v_2, .retAddr 0, .retAddr 0, .retAddr 0, .retAddr 0, .retAddr 0, .retAddr 0, .int x22, .int x24, .int x26, .int x28, .int x30, .int x32, .int 0]) rfl ?_
                        refine ex_kill 9 (ls' := [.ref a_0, .retAddr 0, .int v_2, .retAddr 0, .retAddr 0, .retAddr 0, .retAddr 0, .retAddr 0, .retAddr 0, .retAddr 0, .int x24, .int x26, .int x28, .int x30, .int x32, .int 0]) rfl ?_
                        refine ex_kill 10 (ls' := [.ref a_0, .retAddr 0, .int v_2, .retAddr 0, .retAddr 0, .retAddr 0, .retAddr 0, .retAddr 0, .retAddr 0, .retAddr 0, .retAddr 0, .int x26, .int x28, .int x30, .int x32, .int 0]) rfl ?_
                        refine ex_kill 11 (ls' := [.ref a_0, .retAddr 0, .int v_2, .retAddr 0, .retAddr 0, .retAddr 0, .retAddr 0, .retAddr 0, .retAddr 0, .retAddr 0, .retAddr 0, .retAddr 0, .int x28, .int x30, .int x32, .int 0]) rfl ?_
                        refine ex_kill 12 (ls' := [.ref a_0, .retAddr 0, .int v_2, .retAddr 0, .retAddr 0, .retAddr 0, .retAddr 0, .retAddr 0, .retAddr 0, .retAddr 0, .retAddr 0, .retAddr 0, .retAddr 0, .int x30, .int x32, .int 0]) rfl ?_
                        refine ex_kill 13 (ls' := [.ref a_0, .retAddr 0, .int v_2, .retAddr 0, .retAddr 0, .retAddr 0, .retAddr 0, .retAddr 0, .retAddr 0, .retAddr 0, .retAddr 0, .retAddr 0, .retAddr 0, .retAddr 0, .int x32, .int 0]) rfl ?_
                        refine ex_kill 14 (ls' := [.ref a_0, .retAddr 0, .int v_2, .retAddr 0, .retAddr 0, .retAddr 0, .retAddr 0, .retAddr 0, .retAddr 0, .retAddr 0, .retAddr 0, .retAddr 0, .retAddr 0, .retAddr 0, .retAddr 0, .int 0]) rfl ?_
                        exact w
                      · replace w := w.2 c19
                        refine ex_iconst (q := 220) (v := 5) dX12_flype_219 (by decide) ?_
                        exact ex_ireturn dX12_flype_220 rfl (Or.inl rfl) w
        · replace w := w.2 c7
          refine ex_iconst (q := 154) (v := 5) dX12_flype_153 (by decide) ?_
          exact ex_ireturn dX12_flype_154 rfl (Or.inl rfl) w
  · replace w := w.2 c4
    refine ex_iload (q := 93) (x := v_5) dX12_flype_91 rfl ?_
    refine ex_iload_n (q := 94) (x := v_2) dX12_flype_93 rfl ?_
    refine ex_iload (q := 96) (x := v_6) dX12_flype_94 rfl ?_
    refine ex_callS (q := 99) (M := mX12_flype) (hdd := Nat.le_refl _) (mc := 0) (ms := 0) (d' := (d + 1)) (st := [.int v_5]) (bc := bc) (bs := bs) dX12_flype_96 rfl cl_X12_332 wd_1884 (X12_has_s (Q := fun r z => r = some (.int (X12_has_V v_2 v_6 h)) ∧ z = h) ⟨rfl, rfl⟩) ?_
    intro r z hrz
    rw [hrz.1, hrz.2]
    show ex_G mX12_flype (d + 2) 99 [.ref a_0, .int v_1, .int v_2, .int v_3, .int v_4, .int v_5, .int v_6, .retAddr 0, .retAddr 0, .retAddr 0, .retAddr 0, .retAddr 0, .retAddr 0, .retAddr 0, .retAddr 0, .retAddr 0] [.int (X12_has_V v_2 v_6 h), .int v_5] (h) bc bs Q
    refine ex_if_eq (tgt := 120) (q := 102) dX12_flype_99 (fun c50 => ?_) (fun c50 => ?_)
    · replace w := w.1 c50
      refine ex_iconst (q := 121) (v := 0) dX12_flype_120 (by decide) ?_
      refine ex_iadd (q := 122) dX12_flype_121 ?_
      refine ex_nmi (fun x51 ex51 => ?_)
      replace w := w x51 ex51
      refine ex_istore (q := 124) (ls' := [.ref a_0, .int v_1, .int v_2, .int v_3, .int v_4, .int x51, .int v_6, .retAddr 0, .retAddr 0, .retAddr 0, .retAddr 0, .retAddr 0, .retAddr 0, .retAddr 0, .retAddr 0, .retAddr 0]) dX12_flype_122 rfl ?_
      obtain ⟨x52, ex52⟩ : ∃ y : Int32, y = v_6 + 1 := ⟨_, rfl⟩
      replace w := w x52 ex52
      refine ex_iinc (q := 127) (x := v_6) (v := x52) (ls' := [.ref a_0, .int v_1, .int v_2, .int v_3, .int v_4, .int x51, .int x52, .retAddr 0, .retAddr 0, .retAddr 0, .retAddr 0, .retAddr 0, .retAddr 0, .retAddr 0, .retAddr 0, .retAddr 0]) dX12_flype_124 rfl (by rw [ex52]; rfl) rfl ?_
      refine ex_goto (tgt := 76) dX12_flype_127 ?_
      exact w
    · replace w := w.2 c50
      refine ex_iload_n (q := 103) (x := v_2) dX12_flype_102 rfl ?_
      refine ex_aload_n (q := 104) (x := a_0) dX12_flype_103 rfl ?_
      obtain ⟨a53, ea53, w⟩ := w
      refine ex_getr (q := 107) dX12_flype_104 fl_X12_36 s1 ea53 ?_
      refine ex_iload (q := 109) (x := v_6) dX12_flype_107 rfl ?_
      have s54 := w.1
      replace w := w.2
      refine ex_iald (q := 110) dX12_flype_109 s54 ?_
      refine ex_callS (q := 113) (M := mX12_flype) (hdd := Nat.le_refl _) (mc := 0) (ms := 0) (d' := (d + 1)) (st := [.int v_5]) (bc := bc) (bs := bs) dX12_flype_110 rfl cl_X12_332 wd_1884 (X12_has_s (Q := fun r z => r = some (.int (X12_has_V v_2 (ah_i h a53 (Int32.toNatClampNeg v_6)) h)) ∧ z = h) ⟨rfl, rfl⟩) ?_
      intro r z hrz
      rw [hrz.1, hrz.2]
      show ex_G mX12_flype (d + 2) 113 [.ref a_0, .int v_1, .int v_2, .int v_3, .int v_4, .int v_5, .int v_6, .retAddr 0, .retAddr 0, .retAddr 0, .retAddr 0, .retAddr 0, .retAddr 0, .retAddr 0, .retAddr 0, .retAddr 0] [.int (X12_has_V v_2 (ah_i h a53 (Int32.toNatClampNeg v_6)) h), .int v_5] (h) bc bs Q
      refine ex_if_ne (tgt := 120) (q := 116) dX12_flype_113 (fun c55 => ?_) (fun c55 => ?_)
      · replace w := w.1 c55
        refine ex_iconst (q := 121) (v := 0) dX12_flype_120 (by decide) ?_
        refine ex_iadd (q := 122) dX12_flype_121 ?_
        refine ex_nmi (fun x56 ex56 => ?_)
        replace w := w x56 ex56
        refine ex_istore (q := 124) (ls' := [.ref a_0, .int v_1, .int v_2, .int v_3, .int v_4, .int x56, .int v_6, .retAddr 0, .retAddr 0, .retAddr 0, .retAddr 0, .retAddr 0, .retAddr 0, .retAddr 0, .retAddr 0, .retAddr 0]) dX12_flype_122 rfl ?_
        obtain ⟨x57, ex57⟩ : ∃ y : Int32, y = v_6 + 1 := ⟨_, rfl⟩
        replace w := w x57 ex57
        refine ex_iinc (q := 127) (x := v_6) (v := x57) (ls' := [.ref a_0, .int v_1, .int v_2, .int v_3, .int v_4, .int x56, .int x57, .retAddr 0, .retAddr 0, .retAddr 0, .retAddr 0, .retAddr 0, .retAddr 0, .retAddr 0, .retAddr 0, .retAddr 0]) dX12_flype_124 rfl (by rw [ex57]; rfl) rfl ?_
        refine ex_goto (tgt := 76) dX12_flype_127 ?_
        exact w
      · replace w := w.2 c55
        refine ex_iconst (q := 117) (v := 1) dX12_flype_116 (by decide) ?_
        refine ex_goto (tgt := 121) dX12_flype_117 ?_
        refine ex_iadd (q := 122) dX12_flype_121 ?_
        refine ex_nmi (fun x58 ex58 => ?_)
        replace w := w x58 ex58
        refine ex_istore (q := 124) (ls' := [.ref a_0, .int v_1, .int v_2, .int v_3, .int v_4, .int x58, .int v_6, .retAddr 0, .retAddr 0, .retAddr 0, .retAddr 0, .retAddr 0, .retAddr 0, .retAddr 0, .retAddr 0, .retAddr 0]) dX12_flype_122 rfl ?_
        obtain ⟨x59, ex59⟩ : ∃ y : Int32, y = v_6 + 1 := ⟨_, rfl⟩
        replace w := w x59 ex59
        refine ex_iinc (q := 127) (x := v_6) (v := x59) (ls' := [.ref a_0, .int v_1, .int v_2, .int v_3, .int v_4, .int x58, .int x59, .retAddr 0, .retAddr 0, .retAddr 0, .retAddr 0, .retAddr 0, .retAddr 0, .retAddr 0, .retAddr 0, .retAddr 0]) dX12_flype_124 rfl (by rw [ex59]; rfl) rfl ?_
        refine ex_goto (tgt := 76) dX12_flype_127 ?_
        exact w

set_option maxRecDepth 100000 in
theorem X12_flype_388 {d bc bs : Nat} {h : AH} {Q : Option Value → AH → Prop} {a_0 : Nat} {v_2 : Int32} {v_15 : Int32} (w : ah_o h a_0 12 ∧ ∃ a2, ah_r h a_0 2 = some a2 ∧ ld0 h a2 364 ∧ (((ah_i h a2 (Int32.toNatClampNeg 364)) ≤ v_15 → Q (some (.int 0)) h) ∧ (¬ (ah_i h a2 (Int32.toNatClampNeg 364)) ≤ v_15 → (((X12_has_V v_2 (4 * v_15) h) = 0 → ∀ x6, x6 = v_15 + 1 → ex_G mX12_flype (d + 2) 388 [.ref a_0, .retAddr 0, .int v_2, .retAddr 0, .retAddr 0, .retAddr 0, .retAddr 0, .retAddr 0, .retAddr 0, .retAddr 0, .retAddr 0, .retAddr 0, .retAddr 0, .retAddr 0, .retAddr 0, .int x6] [] h bc bs Q) ∧ (¬ (X12_has_V v_2 (4 * v_15) h) = 0 → ex_S yX12_turnOver mX12_turnOver (d + 1) [.ref a_0, .int 364, .int v_15] h 0 0 (fun r h7 => r = none ∧ ∀ x8, x8 = v_15 + 1 → ex_G mX12_flype (d + 2) 388 [.ref a_0, .retAddr 0, .int v_2, .retAddr 0, .retAddr 0, .retAddr 0, .retAddr 0, .retAddr 0, .retAddr 0, .retAddr 0, .retAddr 0, .retAddr 0, .retAddr 0, .retAddr 0, .retAddr 0, .int x8] [] h7 bc bs Q)))))) : ex_G mX12_flype (d + 2) 388 [.ref a_0, .retAddr 0, .int v_2, .retAddr 0, .retAddr 0, .retAddr 0, .retAddr 0, .retAddr 0, .retAddr 0, .retAddr 0, .retAddr 0, .retAddr 0, .retAddr 0, .retAddr 0, .retAddr 0, .int v_15] [] h bc bs Q := by
  refine ex_iload (q := 390) (x := v_15) dX12_flype_388 rfl ?_
  refine ex_aload_n (q := 391) (x := a_0) dX12_flype_390 rfl ?_
  have s1 := w.1
  replace w := w.2
  obtain ⟨a2, ea2, w⟩ := w
  refine ex_getr (q := 394) dX12_flype_391 fl_X12_13 s1 ea2 ?_
  refine ex_sipush (q := 397) (v := 364) dX12_flype_394 (by decide) ?_
  have s3 := w.1
  replace w := w.2
  refine ex_iald (q := 398) dX12_flype_397 s3 ?_
  refine ex_icmp_ge (tgt := 427) (q := 401) dX12_flype_398 (fun c4 => ?_) (fun c4 => ?_)
  · replace w := w.1 c4
    refine ex_iconst (q := 428) (v := 0) dX12_flype_427 (by decide) ?_
    exact ex_ireturn dX12_flype_428 rfl (Or.inl rfl) w
  · replace w := w.2 c4
    refine ex_iload_n (q := 402) (x := v_2) dX12_flype_401 rfl ?_
    refine ex_iconst (q := 403) (v := 4) dX12_flype_402 (by decide) ?_
    refine ex_iload (q := 405) (x := v_15) dX12_flype_403 rfl ?_
    refine ex_imul (q := 406) dX12_flype_405 ?_
    refine ex_callS (q := 409) (M := mX12_flype) (hdd := Nat.le_refl _) (mc := 0) (ms := 0) (d' := (d + 1)) (st := []) (bc := bc) (bs := bs) dX12_flype_406 rfl cl_X12_332 wd_1884 (X12_has_s (Q := fun r z => r = some (.int (X12_has_V v_2 (4 * v_15) h)) ∧ z = h) ⟨rfl, rfl⟩) ?_
    intro r z hrz
    rw [hrz.1, hrz.2]
    show ex_G mX12_flype (d + 2) 409 [.ref a_0, .retAddr 0, .int v_2, .retAddr 0, .retAddr 0, .retAddr 0, .retAddr 0, .retAddr 0, .retAddr 0, .retAddr 0, .retAddr 0, .retAddr 0, .retAddr 0, .retAddr 0, .retAddr 0, .int v_15] [.int (X12_has_V v_2 (4 * v_15) h)] (h) bc bs Q
    refine ex_if_eq (tgt := 421) (q := 412) dX12_flype_409 (fun c5 => ?_) (fun c5 => ?_)
    · replace w := w.1 c5
      obtain ⟨x6, ex6⟩ : ∃ y : Int32, y = v_15 + 1 := ⟨_, rfl⟩
      replace w := w x6 ex6
      refine ex_iinc (q := 424) (x := v_15) (v := x6) (ls' := [.ref a_0, .retAddr 0, .int v_2, .retAddr 0, .retAddr 0, .retAddr 0, .retAddr 0, .retAddr 0, .retAddr 0, .retAddr 0, .retAddr 0, .retAddr 0, .retAddr 0, .retAddr 0, .retAddr 0, .int x6]) dX12_flype_421 rfl (by rw [ex6]; rfl) rfl ?_
      refine ex_goto (tgt := 388) dX12_flype_424 ?_
      exact w
    · replace w := w.2 c5
      refine ex_aload_n (q := 413) (x := a_0) dX12_flype_412 rfl ?_
      refine ex_sipush (q := 416) (v := 364) dX12_flype_413 (by decide) ?_
      refine ex_iload (q := 418) (x := v_15) dX12_flype_416 rfl ?_
      refine ex_callV (q := 421) (M := mX12_flype) (hdd := Nat.le_refl _) (c := 12) (st := []) (bc := bc) (bs := bs) dX12_flype_418 rfl cl_X12_338 wd_1892 wd_89 s1 w ?_
      rintro r h7 ⟨rfl, w⟩
      show ex_G mX12_flype (d + 2) 421 [.ref a_0, .retAddr 0, .int v_2, .retAddr 0, .retAddr 0, .retAddr 0, .retAddr 0, .retAddr 0, .retAddr 0, .retAddr 0, .retAddr 0, .retAddr 0, .retAddr 0, .retAddr 0, .retAddr 0, .int v_15] [] h7 bc bs Q
      obtain ⟨x8, ex8⟩ : ∃ y : Int32, y = v_15 + 1 := ⟨_, rfl⟩
      replace w := w x8 ex8
      refine ex_iinc (q := 424) (x := v_15) (v := x8) (ls' := [.ref a_0, .retAddr 0, .int v_2, .retAddr 0, .retAddr 0, .retAddr 0, .retAddr 0, .retAddr 0, .retAddr 0, .retAddr 0, .retAddr 0, .retAddr 0, .retAddr 0, .retAddr 0, .retAddr 0, .int x8]) dX12_flype_421 rfl (by rw [ex8]; rfl) rfl ?_
      refine ex_goto (tgt := 388) dX12_flype_424 ?_
      exact w

theorem X12_flype_e {d bc bs : Nat} {h : AH} {Q : Option Value → AH → Prop} {a_0 : Nat} {v_1 : Int32} {v_2 : Int32} (w : ex_G mX12_flype (d + 2) 0 [.ref a_0, .int v_1, .int v_2, .retAddr 0, .retAddr 0, .retAddr 0, .retAddr 0, .retAddr 0, .retAddr 0, .retAddr 0, .retAddr 0, .retAddr 0, .retAddr 0, .retAddr 0, .retAddr 0, .retAddr 0] [] h bc bs Q) : ex_S yX12_flype mX12_flype (d + 2) [.ref a_0, .int v_1, .int v_2] h bc bs Q :=
  ex_enter (plainFor_of_name (by decide +kernel)) ⟨rfl, rfl⟩ rfl rfl (Nat.le_of_ble_eq_true rfl) (ex_pad 13 w)

set_option maxRecDepth 100000 in
theorem X12_turnOver_0 {d bc bs : Nat} {h : AH} {Q : Option Value → AH → Prop} {a_0 : Nat} {v_1 : Int32} {v_2 : Int32} (w : ∀ x1, x1 = (160 * v_1) + (4 * v_2) → ah_o h a_0 12 ∧ ∃ a3, ah_r h a_0 5 = some a3 ∧ ld0 h a3 x1 ∧ ∀ x5, x5 = ah_i h a3 (Int32.toNatClampNeg x1) → ld0 h a3 (x1 + 1) ∧ st0 h a3 x1 ∧ ∀ h7, h7 = ah_si h a3 (Int32.toNatClampNeg x1) (ah_i h a3 (Int32.toNatClampNeg (x1 + 1))) → st0 h7 a3 (x1 + 1) ∧ ∀ h9, h9 = ah_si h7 a3 (Int32.toNatClampNeg (x1 + 1)) x5 → ld0 h9 a3 (x1 + 2) ∧ ∀ x12, x12 = ah_i h9 a3 (Int32.toNatClampNeg (x1 + 2)) → ld0 h9 a3 (x1 + 3) ∧ st0 h9 a3 (x1 + 2) ∧ ∀ h14, h14 = ah_si h9 a3 (Int32.toNatClampNeg (x1 + 2)) (ah_i h9 a3 (Int32.toNatClampNeg (x1 + 3))) → st0 h14 a3 (x1 + 3) ∧ ∀ h16, h16 = ah_si h14 a3 (Int32.toNatClampNeg (x1 + 3)) x12 → Q none h16) : ex_G mX12_turnOver d 0 [.ref a_0, .int v_1, .int v_2, .retAddr 0, .retAddr 0] [] h bc bs Q := by
  refine ex_sipush (q := 3) (v := 160) dX12_turnOver_0 (by decide) ?_
  refine ex_iload_n (q := 4) (x := v_1) dX12_turnOver_3 rfl ?_
  refine ex_imul (q := 5) dX12_turnOver_4 ?_
  refine ex_iconst (q := 6) (v := 4) dX12_turnOver_5 (by decide) ?_
  refine ex_iload_n (q := 7) (x := v_2) dX12_turnOver_6 rfl ?_
  refine ex_imul (q := 8) dX12_turnOver_7 ?_
  refine ex_iadd (q := 9) dX12_turnOver_8 ?_
  refine ex_nmi (fun x1 ex1 => ?_)
  replace w := w x1 ex1
  refine ex_istore_n (q := 10) (ls' := [.ref a_0, .int v_1, .int v_2, .int x1, .retAddr 0]) dX12_turnOver_9 rfl ?_
  refine ex_aload_n (q := 11) (x := a_0) dX12_turnOver_10 rfl ?_
  have s2 := w.1
  replace w := w.2
  obtain ⟨a3, ea3, w⟩ := w
  refine ex_getr (q := 14) dX12_turnOver_11 fl_X12_23 s2 ea3 ?_
  refine ex_iload_n (q := 15) (x := x1) dX12_turnOver_14 rfl ?_
  have s4 := w.1
  replace w := w.2
  refine ex_iald (q := 16) dX12_turnOver_15 s4 ?_
  refine ex_nmi (fun x5 ex5 => ?_)
  replace w := w x5 ex5
  refine ex_istore (q := 18) (ls' := [.ref a_0, .int v_1, .int v_2, .int x1, .int x5]) dX12_turnOver_16 rfl ?_
  refine ex_aload_n (q := 19) (x := a_0) dX12_turnOver_18 rfl ?_
  refine ex_getr (q := 22) dX12_turnOver_19 fl_X12_23 s2 ea3 ?_
  refine ex_iload_n (q := 23) (x := x1) dX12_turnOver_22 rfl ?_
  refine ex_aload_n (q := 24) (x := a_0) dX12_turnOver_23 rfl ?_
  refine ex_getr (q := 27) dX12_turnOver_24 fl_X12_23 s2 ea3 ?_
  refine ex_iload_n (q := 28) (x := x1) dX12_turnOver_27 rfl ?_
  refine ex_iconst (q := 29) (v := 1) dX12_turnOver_28 (by decide) ?_
  refine ex_iadd (q := 30) dX12_turnOver_29 ?_
  have s6 := w.1
  replace w := w.2
  refine ex_iald (q := 31) dX12_turnOver_30 s6 ?_
  have s8 := w.1
  replace w := w.2
  refine ex_iast (q := 32) dX12_turnOver_31 s8 ?_
  refine ex_nmh (fun h7 eh7 => ?_)
  replace w := w h7 eh7
  refine ex_aload_n (q := 33) (x := a_0) dX12_turnOver_32 rfl ?_
  refine ex_getr (q := 36) dX12_turnOver_33 fl_X12_23 (by rw [eh7]; exact s2) (by rw [eh7]; exact ea3) ?_
  refine ex_iload_n (q := 37) (x := x1) dX12_turnOver_36 rfl ?_
  refine ex_iconst (q := 38) (v := 1) dX12_turnOver_37 (by decide) ?_
  refine ex_iadd (q := 39) dX12_turnOver_38 ?_
  refine ex_iload (q := 41) (x := x5) dX12_turnOver_39 rfl ?_
  have s10 := w.1
  replace w := w.2
  refine ex_iast (q := 42) dX12_turnOver_41 s10 ?_
  refine ex_nmh (fun h9 eh9 => ?_)
  replace w := w h9 eh9
  refine ex_aload_n (q := 43) (x := a_0) dX12_turnOver_42 rfl ?_
  refine ex_getr (q := 46) dX12_turnOver_43 fl_X12_23 (by rw [eh9]; exact (by rw [eh7]; exact s2)) (by rw [eh9]; exact (by rw [eh7]; exact ea3)) ?_
  refine ex_iload_n (q := 47) (x := x1) dX12_turnOver_46 rfl ?_
  refine ex_iconst (q := 48) (v := 2) dX12_turnOver_47 (by decide) ?_
  refine ex_iadd (q := 49) dX12_turnOver_48 ?_
  have s11 := w.1
  replace w := w.2
  refine ex_iald (q := 50) dX12_turnOver_49 s11 ?_
  refine ex_nmi (fun x12 ex12 => ?_)
  replace w := w x12 ex12
  refine ex_istore (q := 52) (ls' := [.ref a_0, .int v_1, .int v_2, .int x1, .int x12]) dX12_turnOver_50 rfl ?_
  refine ex_aload_n (q := 53) (x := a_0) dX12_turnOver_52 rfl ?_
  refine ex_getr (q := 56) dX12_turnOver_53 fl_X12_23 (by rw [eh9]; exact (by rw [eh7]; exact s2)) (by rw [eh9]; exact (by rw [eh7]; exact ea3)) ?_
  refine ex_iload_n (q := 57) (x := x1) dX12_turnOver_56 rfl ?_
  refine ex_iconst (q := 58) (v := 2) dX12_turnOver_57 (by decide) ?_
  refine ex_iadd (q := 59) dX12_turnOver_58 ?_
  refine ex_aload_n (q := 60) (x := a_0) dX12_turnOver_59 rfl ?_
  refine ex_getr (q := 63) dX12_turnOver_60 fl_X12_23 (by rw [eh9]; exact (by rw [eh7]; exact s2)) (by rw [eh9]; exact (by rw [eh7]; exact ea3)) ?_
  refine ex_iload_n (q := 64) (x := x1) dX12_turnOver_63 rfl ?_
  refine ex_iconst (q := 65) (v := 3) dX12_turnOver_64 (by decide) ?_
  refine ex_iadd (q := 66) dX12_turnOver_65 ?_
  have s13 := w.1
  replace w := w.2
  refine ex_iald (q := 67) dX12_turnOver_66 s13 ?_
  have s15 := w.1
  replace w := w.2
  refine ex_iast (q := 68) dX12_turnOver_67 s15 ?_
  refine ex_nmh (fun h14 eh14 => ?_)
  replace w := w h14 eh14
  refine ex_aload_n (q := 69) (x := a_0) dX12_turnOver_68 rfl ?_
  refine ex_getr (q := 72) dX12_turnOver_69 fl_X12_23 (by rw [eh14]; exact (by rw [eh9]; exact (by rw [eh7]; exact s2))) (by rw [eh14]; exact (by rw [eh9]; exact (by rw [eh7]; exact ea3))) ?_
  refine ex_iload_n (q := 73) (x := x1) dX12_turnOver_72 rfl ?_
  refine ex_iconst (q := 74) (v := 3) dX12_turnOver_73 (by decide) ?_
  refine ex_iadd (q := 75) dX12_turnOver_74 ?_
  refine ex_iload (q := 77) (x := x12) dX12_turnOver_75 rfl ?_
  have s17 := w.1
  replace w := w.2
  refine ex_iast (q := 78) dX12_turnOver_77 s17 ?_
  refine ex_nmh (fun h16 eh16 => ?_)
  replace w := w h16 eh16
  exact ex_return dX12_turnOver_78 w

theorem X12_turnOver_e {d bc bs : Nat} {h : AH} {Q : Option Value → AH → Prop} {a_0 : Nat} {v_1 : Int32} {v_2 : Int32} (w : ex_G mX12_turnOver d 0 [.ref a_0, .int v_1, .int v_2, .retAddr 0, .retAddr 0] [] h bc bs Q) : ex_S yX12_turnOver mX12_turnOver d [.ref a_0, .int v_1, .int v_2] h bc bs Q :=
  ex_enter (plainFor_of_name (by decide +kernel)) ⟨rfl, rfl⟩ rfl rfl (Nat.le_of_ble_eq_true rfl) (ex_pad 2 w)

set_option maxRecDepth 100000 in
theorem X12_smooth_0 {d bc bs : Nat} {h : AH} {Q : Option Value → AH → Prop} {a_0 : Nat} {v_1 : Int32} {v_2 : Int32} (w : ah_o h a_0 12 ∧ ∃ a2, ah_r h a_0 2 = some a2 ∧ ld0 h a2 364 ∧ (((X12_in_V (Int32.toInt64 v_1) 0 (Int32.toInt64 ((ah_i h a2 (Int32.toNatClampNeg 364)) - 1)) h) = 0 → Q (some (.int 5)) h) ∧ (¬ (X12_in_V (Int32.toInt64 v_1) 0 (Int32.toInt64 ((ah_i h a2 (Int32.toNatClampNeg 364)) - 1)) h) = 0 → ((¬ (X12_in_V (Int32.toInt64 v_2) 0 1 h) = 0 → X12_arcAt_C a_0 (4 * v_1) h ∧ ((¬ v_2 = 0 → ex_G mX12_smooth (d + 1) 56 [.ref a_0, .int v_1, .int v_2] [.int 3, .int (4 * v_1), .ref a_0, .int (X12_arcAt_V a_0 (4 * v_1) h), .int 364, .ref a_0] h bc bs Q) ∧ (v_2 = 0 → ex_G mX12_smooth (d + 1) 56 [.ref a_0, .int v_1, .int v_2] [.int 1, .int (4 * v_1), .ref a_0, .int (X12_arcAt_V a_0 (4 * v_1) h), .int 364, .ref a_0] h bc bs Q))) ∧ ((X12_in_V (Int32.toInt64 v_2) 0 1 h) = 0 → Q (some (.int 5)) h))))) : ex_G mX12_smooth (d + 1) 0 [.ref a_0, .int v_1, .int v_2] [] h bc bs Q := by
  refine ex_iload_n (q := 1) (x := v_1) dX12_smooth_0 rfl ?_
  refine ex_i2l (q := 2) dX12_smooth_1 ?_
  refine ex_lconst (q := 3) (v := 0) dX12_smooth_2 (by decide) ?_
  refine ex_aload_n (q := 4) (x := a_0) dX12_smooth_3 rfl ?_
  have s1 := w.1
  replace w := w.2
  obtain ⟨a2, ea2, w⟩ := w
  refine ex_getr (q := 7) dX12_smooth_4 fl_X12_13 s1 ea2 ?_
  refine ex_sipush (q := 10) (v := 364) dX12_smooth_7 (by decide) ?_
  have s3 := w.1
  replace w := w.2
  refine ex_iald (q := 11) dX12_smooth_10 s3 ?_
  refine ex_iconst (q := 12) (v := 1) dX12_smooth_11 (by decide) ?_
  refine ex_isub (q := 13) dX12_smooth_12 ?_
  refine ex_i2l (q := 14) dX12_smooth_13 ?_
  refine ex_callS (q := 17) (M := mX12_smooth) (hdd := Nat.le_refl _) (mc := 0) (ms := 0) (d' := d) (st := []) (bc := bc) (bs := bs) dX12_smooth_14 rfl cl_X12_172 wd_1596 (X12_in_s (Q := fun r z => r = some (.int (X12_in_V (Int32.toInt64 v_1) 0 (Int32.toInt64 ((ah_i h a2 (Int32.toNatClampNeg 364)) - 1)) h)) ∧ z = h) ⟨rfl, rfl⟩) ?_
  intro r z hrz
  rw [hrz.1, hrz.2]
  show ex_G mX12_smooth (d + 1) 17 [.ref a_0, .int v_1, .int v_2] [.int (X12_in_V (Int32.toInt64 v_1) 0 (Int32.toInt64 ((ah_i h a2 (Int32.toNatClampNeg 364)) - 1)) h)] (h) bc bs Q
  refine ex_if_eq (tgt := 30) (q := 20) dX12_smooth_17 (fun c4 => ?_) (fun c4 => ?_)
  · replace w := w.1 c4
    refine ex_iconst (q := 31) (v := 5) dX12_smooth_30 (by decide) ?_
    exact ex_ireturn dX12_smooth_31 rfl (Or.inl rfl) w
  · replace w := w.2 c4
    refine ex_iload_n (q := 21) (x := v_2) dX12_smooth_20 rfl ?_
    refine ex_i2l (q := 22) dX12_smooth_21 ?_
    refine ex_lconst (q := 23) (v := 0) dX12_smooth_22 (by decide) ?_
    refine ex_lconst (q := 24) (v := 1) dX12_smooth_23 (by decide) ?_
    refine ex_callS (q := 27) (M := mX12_smooth) (hdd := Nat.le_refl _) (mc := 0) (ms := 0) (d' := d) (st := []) (bc := bc) (bs := bs) dX12_smooth_24 rfl cl_X12_172 wd_1596 (X12_in_s (Q := fun r z => r = some (.int (X12_in_V (Int32.toInt64 v_2) 0 1 h)) ∧ z = h) ⟨rfl, rfl⟩) ?_
    intro r z hrz
    rw [hrz.1, hrz.2]
    show ex_G mX12_smooth (d + 1) 27 [.ref a_0, .int v_1, .int v_2] [.int (X12_in_V (Int32.toInt64 v_2) 0 1 h)] (h) bc bs Q
    refine ex_if_ne (tgt := 32) (q := 30) dX12_smooth_27 (fun c5 => ?_) (fun c5 => ?_)
    · replace w := w.1 c5
      refine ex_aload_n (q := 33) (x := a_0) dX12_smooth_32 rfl ?_
      refine ex_sipush (q := 36) (v := 364) dX12_smooth_33 (by decide) ?_
      refine ex_aload_n (q := 37) (x := a_0) dX12_smooth_36 rfl ?_
      refine ex_iconst (q := 38) (v := 4) dX12_smooth_37 (by decide) ?_
      refine ex_iload_n (q := 39) (x := v_1) dX12_smooth_38 rfl ?_
      refine ex_imul (q := 40) dX12_smooth_39 ?_
      have s6 := w.1
      replace w := w.2
      refine ex_callV (q := 43) (M := mX12_smooth) (hdd := Nat.le_refl _) (mc := 0) (ms := 0) (d' := d) (c := 12) (st := [.int 364, .ref a_0]) (bc := bc) (bs := bs) dX12_smooth_40 rfl cl_X12_310 wd_1848 wd_79 s1 (X12_arcAt_s (Q := fun r z => r = some (.int (X12_arcAt_V a_0 (4 * v_1) h)) ∧ z = h) s6 ⟨rfl, rfl⟩) ?_
      intro r z hrz
      rw [hrz.1, hrz.2]
      show ex_G mX12_smooth (d + 1) 43 [.ref a_0, .int v_1, .int v_2] [.int (X12_arcAt_V a_0 (4 * v_1) h), .int 364, .ref a_0] (h) bc bs Q
      refine ex_aload_n (q := 44) (x := a_0) dX12_smooth_43 rfl ?_
      refine ex_iconst (q := 45) (v := 4) dX12_smooth_44 (by decide) ?_
      refine ex_iload_n (q := 46) (x := v_1) dX12_smooth_45 rfl ?_
      refine ex_imul (q := 47) dX12_smooth_46 ?_
      refine ex_iload_n (q := 48) (x := v_2) dX12_smooth_47 rfl ?_
      refine ex_if_ne (tgt := 55) (q := 51) dX12_smooth_48 (fun c7 => ?_) (fun c7 => ?_)
      · replace w := w.1 c7
        refine ex_iconst (q := 56) (v := 3) dX12_smooth_55 (by decide) ?_
        exact w
      · replace w := w.2 c7
        refine ex_iconst (q := 52) (v := 1) dX12_smooth_51 (by decide) ?_
        refine ex_goto (tgt := 56) dX12_smooth_52 ?_
        exact w
    · replace w := w.2 c5
      refine ex_iconst (q := 31) (v := 5) dX12_smooth_30 (by decide) ?_
      exact ex_ireturn dX12_smooth_31 rfl (Or.inl rfl) w

set_option maxRecDepth 100000 in
theorem X12_smooth_56 {d bc bs : Nat} {h : AH} {Q : Option Value → AH → Prop} {a_0 : Nat} {v_1 : Int32} {v_2 : Int32} {u_0 : Int32} {u_1 : Int32} {b_2 : Nat} {u_3 : Int32} {u_4 : Int32} {b_5 : Nat} (w : ah_o h b_2 12 ∧ X12_arcAt_C b_2 (u_1 + u_0) h ∧ ah_o h b_5 12 ∧ ex_S yX12_joinArcs mX12_joinArcs d [.ref b_5, .int u_4, .int u_3, .int (X12_arcAt_V b_2 (u_1 + u_0) h)] h 0 0 (fun r h3 => r = none ∧ ((¬ v_2 = 0 → ex_G mX12_smooth (d + 1) 80 [.ref a_0, .int v_1, .int v_2] [.int 1, .int (4 * v_1), .ref a_0, .int 364, .ref a_0] h3 bc bs Q) ∧ (v_2 = 0 → ex_G mX12_smooth (d + 1) 80 [.ref a_0, .int v_1, .int v_2] [.int 2, .int (4 * v_1), .ref a_0, .int 364, .ref a_0] h3 bc bs Q)))) : ex_G mX12_smooth (d + 1) 56 [.ref a_0, .int v_1, .int v_2] [.int u_0, .int u_1, .ref b_2, .int u_3, .int u_4, .ref b_5] h bc bs Q := by
  refine ex_iadd (q := 57) dX12_smooth_56 ?_
  have s1 := w.1
  replace w := w.2
  have s2 := w.1
  replace w := w.2
  refine ex_callV (q := 60) (M := mX12_smooth) (hdd := Nat.le_refl _) (mc := 0) (ms := 0) (d' := d) (c := 12) (st := [.int u_3, .int u_4, .ref b_5]) (bc := bc) (bs := bs) dX12_smooth_57 rfl cl_X12_310 wd_1848 wd_79 s1 (X12_arcAt_s (Q := fun r z => r = some (.int (X12_arcAt_V b_2 (u_1 + u_0) h)) ∧ z = h) s2 ⟨rfl, rfl⟩) ?_
  intro r z hrz
  rw [hrz.1, hrz.2]
  show ex_G mX12_smooth (d + 1) 60 [.ref a_0, .int v_1, .int v_2] [.int (X12_arcAt_V b_2 (u_1 + u_0) h), .int u_3, .int u_4, .ref b_5] (h) bc bs Q
  have s4 := w.1
  replace w := w.2
  refine ex_callV (q := 63) (M := mX12_smooth) (hdd := Nat.le_refl _) (c := 12) (st := []) (bc := bc) (bs := bs) dX12_smooth_60 rfl cl_X12_313 wd_1853 wd_80 s4 w ?_
  rintro r h3 ⟨rfl, w⟩
  show ex_G mX12_smooth (d + 1) 63 [.ref a_0, .int v_1, .int v_2] [] h3 bc bs Q
  refine ex_aload_n (q := 64) (x := a_0) dX12_smooth_63 rfl ?_
  refine ex_sipush (q := 67) (v := 364) dX12_smooth_64 (by decide) ?_
  refine ex_aload_n (q := 68) (x := a_0) dX12_smooth_67 rfl ?_
  refine ex_iconst (q := 69) (v := 4) dX12_smooth_68 (by decide) ?_
  refine ex_iload_n (q := 70) (x := v_1) dX12_smooth_69 rfl ?_
  refine ex_imul (q := 71) dX12_smooth_70 ?_
  refine ex_iload_n (q := 72) (x := v_2) dX12_smooth_71 rfl ?_
  refine ex_if_ne (tgt := 79) (q := 75) dX12_smooth_72 (fun c5 => ?_) (fun c5 => ?_)
  · replace w := w.1 c5
    refine ex_iconst (q := 80) (v := 1) dX12_smooth_79 (by decide) ?_
    exact w
  · replace w := w.2 c5
    refine ex_iconst (q := 76) (v := 2) dX12_smooth_75 (by decide) ?_
    refine ex_goto (tgt := 80) dX12_smooth_76 ?_
    exact w

set_option maxRecDepth 100000 in
theorem X12_smooth_80 {d bc bs : Nat} {h : AH} {Q : Option Value → AH → Prop} {a_0 : Nat} {v_1 : Int32} {v_2 : Int32} {u_0 : Int32} {u_1 : Int32} {b_2 : Nat} {u_3 : Int32} {b_4 : Nat} (w : ah_o h b_2 12 ∧ X12_arcAt_C b_2 (u_1 + u_0) h ∧ ((¬ v_2 = 0 → ex_G mX12_smooth (d + 1) 97 [.ref a_0, .int v_1, .retAddr 0] [.int 2, .int (4 * v_1), .ref a_0, .int (X12_arcAt_V b_2 (u_1 + u_0) h), .int u_3, .ref b_4] h bc bs Q) ∧ (v_2 = 0 → ex_G mX12_smooth (d + 1) 97 [.ref a_0, .int v_1, .retAddr 0] [.int 3, .int (4 * v_1), .ref a_0, .int (X12_arcAt_V b_2 (u_1 + u_0) h), .int u_3, .ref b_4] h bc bs Q))) : ex_G mX12_smooth (d + 1) 80 [.ref a_0, .int v_1, .int v_2] [.int u_0, .int u_1, .ref b_2, .int u_3, .ref b_4] h bc bs Q := by
  refine ex_iadd (q := 81) dX12_smooth_80 ?_
  have s1 := w.1
  replace w := w.2
  have s2 := w.1
  replace w := w.2
  refine ex_callV (q := 84) (M := mX12_smooth) (hdd := Nat.le_refl _) (mc := 0) (ms := 0) (d' := d) (c := 12) (st := [.int u_3, .ref b_4]) (bc := bc) (bs := bs) dX12_smooth_81 rfl cl_X12_310 wd_1848 wd_79 s1 (X12_arcAt_s (Q := fun r z => r = some (.int (X12_arcAt_V b_2 (u_1 + u_0) h)) ∧ z = h) s2 ⟨rfl, rfl⟩) ?_
  intro r z hrz
  rw [hrz.1, hrz.2]
  show ex_G mX12_smooth (d + 1) 84 [.ref a_0, .int v_1, .int v_2] [.int (X12_arcAt_V b_2 (u_1 + u_0) h), .int u_3, .ref b_4] (h) bc bs Q
  refine ex_aload_n (q := 85) (x := a_0) dX12_smooth_84 rfl ?_
  refine ex_iconst (q := 86) (v := 4) dX12_smooth_85 (by decide) ?_
  refine ex_iload_n (q := 87) (x := v_1) dX12_smooth_86 rfl ?_
  refine ex_imul (q := 88) dX12_smooth_87 ?_
  refine ex_iload_n (q := 89) (x := v_2) dX12_smooth_88 rfl ?_
  refine ex_if_ne (tgt := 96) (q := 92) dX12_smooth_89 (fun c3 => ?_) (fun c3 => ?_)
  · replace w := w.1 c3
    refine ex_iconst (q := 97) (v := 2) dX12_smooth_96 (by decide) ?_
    refine ex_kill 2 (ls' := [.ref a_0, .int v_1, .retAddr 0]) rfl ?_
    exact w
  · replace w := w.2 c3
    refine ex_iconst (q := 93) (v := 3) dX12_smooth_92 (by decide) ?_
    refine ex_goto (tgt := 97) dX12_smooth_93 ?_
    refine ex_kill 2 (ls' := [.ref a_0, .int v_1, .retAddr 0]) rfl ?_
    exact w

set_option maxRecDepth 100000 in
theorem X12_smooth_97 {d bc bs : Nat} {h : AH} {Q : Option Value → AH → Prop} {a_0 : Nat} {v_1 : Int32} {u_0 : Int32} {u_1 : Int32} {b_2 : Nat} {u_3 : Int32} {u_4 : Int32} {b_5 : Nat} (w : ah_o h b_2 12 ∧ X12_arcAt_C b_2 (u_1 + u_0) h ∧ ah_o h b_5 12 ∧ ex_S yX12_joinArcs mX12_joinArcs d [.ref b_5, .int u_4, .int u_3, .int (X12_arcAt_V b_2 (u_1 + u_0) h)] h 0 0 (fun r h3 => r = none ∧ ah_o h3 a_0 12 ∧ ex_S yX12_takeOut mX12_takeOut d [.ref a_0, .int 364, .int v_1] h3 0 0 (fun r h5 => r = none ∧ ah_o h5 a_0 12 ∧ X12_full_C a_0 h5 ∧ Q (some (.int (X12_full_V a_0 h5))) h5))) : ex_G mX12_smooth (d + 1) 97 [.ref a_0, .int v_1, .retAddr 0] [.int u_0, .int u_1, .ref b_2, .int u_3, .int u_4, .ref b_5] h bc bs Q := by
  refine ex_iadd (q := 98) dX12_smooth_97 ?_
  have s1 := w.1
  replace w := w.2
  have s2 := w.1
  replace w := w.2
  refine ex_callV (q := 101) (M := mX12_smooth) (hdd := Nat.le_refl _) (mc := 0) (ms := 0) (d' := d) (c := 12) (st := [.int u_3, .int u_4, .ref b_5]) (bc := bc) (bs := bs) dX12_smooth_98 rfl cl_X12_310 wd_1848 wd_79 s1 (X12_arcAt_s (Q := fun r z => r = some (.int (X12_arcAt_V b_2 (u_1 + u_0) h)) ∧ z = h) s2 ⟨rfl, rfl⟩) ?_
  intro r z hrz
  rw [hrz.1, hrz.2]
  show ex_G mX12_smooth (d + 1) 101 [.ref a_0, .int v_1, .retAddr 0] [.int (X12_arcAt_V b_2 (u_1 + u_0) h), .int u_3, .int u_4, .ref b_5] (h) bc bs Q
  have s4 := w.1
  replace w := w.2
  refine ex_callV (q := 104) (M := mX12_smooth) (hdd := Nat.le_refl _) (c := 12) (st := []) (bc := bc) (bs := bs) dX12_smooth_101 rfl cl_X12_313 wd_1853 wd_80 s4 w ?_
  rintro r h3 ⟨rfl, w⟩
  show ex_G mX12_smooth (d + 1) 104 [.ref a_0, .int v_1, .retAddr 0] [] h3 bc bs Q
  refine ex_aload_n (q := 105) (x := a_0) dX12_smooth_104 rfl ?_
  refine ex_sipush (q := 108) (v := 364) dX12_smooth_105 (by decide) ?_
  refine ex_iload_n (q := 109) (x := v_1) dX12_smooth_108 rfl ?_
  have s6 := w.1
  replace w := w.2
  refine ex_callV (q := 112) (M := mX12_smooth) (hdd := Nat.le_refl _) (c := 12) (st := []) (bc := bc) (bs := bs) dX12_smooth_109 rfl cl_X12_317 wd_1857 wd_81 s6 w ?_
  rintro r h5 ⟨rfl, w⟩
  show ex_G mX12_smooth (d + 1) 112 [.ref a_0, .int v_1, .retAddr 0] [] h5 bc bs Q
  refine ex_aload_n (q := 113) (x := a_0) dX12_smooth_112 rfl ?_
  have s7 := w.1
  replace w := w.2
  have s8 := w.1
  replace w := w.2
  refine ex_callV (q := 116) (M := mX12_smooth) (hdd := Nat.le_refl _) (mc := 0) (ms := 0) (d' := d) (c := 12) (st := []) (bc := bc) (bs := bs) dX12_smooth_113 rfl cl_X12_320 wd_1861 wd_82 s7 (X12_full_s (Q := fun r z => r = some (.int (X12_full_V a_0 h5)) ∧ z = h5) s8 ⟨rfl, rfl⟩) ?_
  intro r z hrz
  rw [hrz.1, hrz.2]
  show ex_G mX12_smooth (d + 1) 116 [.ref a_0, .int v_1, .retAddr 0] [.int (X12_full_V a_0 h5)] (h5) bc bs Q
  exact ex_ireturn dX12_smooth_116 rfl (Or.inl rfl) w

theorem X12_smooth_e {d bc bs : Nat} {h : AH} {Q : Option Value → AH → Prop} {a_0 : Nat} {v_1 : Int32} {v_2 : Int32} (w : ex_G mX12_smooth (d + 1) 0 [.ref a_0, .int v_1, .int v_2] [] h bc bs Q) : ex_S yX12_smooth mX12_smooth (d + 1) [.ref a_0, .int v_1, .int v_2] h bc bs Q :=
  ex_enter (plainFor_of_name (by decide +kernel)) ⟨rfl, rfl⟩ rfl rfl (Nat.le_of_ble_eq_true rfl) (ex_pad 0 w)

set_option maxRecDepth 100000 in
theorem X12_rotate_0 {d bc bs : Nat} {h : AH} {Q : Option Value → AH → Prop} {a_0 : Nat} {v_1 : Int32} {v_2 : Int32} {v_3 : Int32} (w : ah_o h a_0 12 ∧ ∃ a2, ah_r h a_0 2 = some a2 ∧ ld0 h a2 v_1 ∧ ((¬ (X12_in_V (Int32.toInt64 v_2) 0 (Int32.toInt64 ((ah_i h a2 (Int32.toNatClampNeg v_1)) - 1)) h) = 0 → ∀ x5, x5 = (160 * v_1) + (4 * v_2) → ex_G mX12_rotate (d + 1) 34 [.ref a_0, .retAddr 0, .retAddr 0, .int v_3, .int x5, .int 0] [] h bc bs Q) ∧ ((X12_in_V (Int32.toInt64 v_2) 0 (Int32.toInt64 ((ah_i h a2 (Int32.toNatClampNeg v_1)) - 1)) h) = 0 → Q (some (.int 5)) h))) : ex_G mX12_rotate (d + 1) 0 [.ref a_0, .int v_1, .int v_2, .int v_3, .retAddr 0, .retAddr 0] [] h bc bs Q := by
  refine ex_iload_n (q := 1) (x := v_2) dX12_rotate_0 rfl ?_
  refine ex_i2l (q := 2) dX12_rotate_1 ?_
  refine ex_lconst (q := 3) (v := 0) dX12_rotate_2 (by decide) ?_
  refine ex_aload_n (q := 4) (x := a_0) dX12_rotate_3 rfl ?_
  have s1 := w.1
  replace w := w.2
  obtain ⟨a2, ea2, w⟩ := w
  refine ex_getr (q := 7) dX12_rotate_4 fl_X12_13 s1 ea2 ?_
  refine ex_iload_n (q := 8) (x := v_1) dX12_rotate_7 rfl ?_
  have s3 := w.1
  replace w := w.2
  refine ex_iald (q := 9) dX12_rotate_8 s3 ?_
  refine ex_iconst (q := 10) (v := 1) dX12_rotate_9 (by decide) ?_
  refine ex_isub (q := 11) dX12_rotate_10 ?_
  refine ex_i2l (q := 12) dX12_rotate_11 ?_
  refine ex_callS (q := 15) (M := mX12_rotate) (hdd := Nat.le_refl _) (mc := 0) (ms := 0) (d' := d) (st := []) (bc := bc) (bs := bs) dX12_rotate_12 rfl cl_X12_172 wd_1596 (X12_in_s (Q := fun r z => r = some (.int (X12_in_V (Int32.toInt64 v_2) 0 (Int32.toInt64 ((ah_i h a2 (Int32.toNatClampNeg v_1)) - 1)) h)) ∧ z = h) ⟨rfl, rfl⟩) ?_
  intro r z hrz
  rw [hrz.1, hrz.2]
  show ex_G mX12_rotate (d + 1) 15 [.ref a_0, .int v_1, .int v_2, .int v_3, .retAddr 0, .retAddr 0] [.int (X12_in_V (Int32.toInt64 v_2) 0 (Int32.toInt64 ((ah_i h a2 (Int32.toNatClampNeg v_1)) - 1)) h)] (h) bc bs Q
  refine ex_if_ne (tgt := 20) (q := 18) dX12_rotate_15 (fun c4 => ?_) (fun c4 => ?_)
  · replace w := w.1 c4
    refine ex_sipush (q := 23) (v := 160) dX12_rotate_20 (by decide) ?_
    refine ex_iload_n (q := 24) (x := v_1) dX12_rotate_23 rfl ?_
    refine ex_imul (q := 25) dX12_rotate_24 ?_
    refine ex_iconst (q := 26) (v := 4) dX12_rotate_25 (by decide) ?_
    refine ex_iload_n (q := 27) (x := v_2) dX12_rotate_26 rfl ?_
    refine ex_imul (q := 28) dX12_rotate_27 ?_
    refine ex_iadd (q := 29) dX12_rotate_28 ?_
    refine ex_nmi (fun x5 ex5 => ?_)
    replace w := w x5 ex5
    refine ex_istore (q := 31) (ls' := [.ref a_0, .int v_1, .int v_2, .int v_3, .int x5, .retAddr 0]) dX12_rotate_29 rfl ?_
    refine ex_iconst (q := 32) (v := 0) dX12_rotate_31 (by decide) ?_
    refine ex_istore (q := 34) (ls' := [.ref a_0, .int v_1, .int v_2, .int v_3, .int x5, .int 0]) dX12_rotate_32 rfl ?_
    refine ex_kill 1 (ls' := [.ref a_0, .retAddr 0, .int v_2, .int v_3, .int x5, .int 0]) rfl ?_
    refine ex_kill 2 (ls' := [.ref a_0, .retAddr 0, .retAddr 0, .int v_3, .int x5, .int 0]) rfl ?_
    exact w
  · replace w := w.2 c4
    refine ex_iconst (q := 19) (v := 5) dX12_rotate_18 (by decide) ?_
    exact ex_ireturn dX12_rotate_19 rfl (Or.inl rfl) w

set_option maxRecDepth 100000 in
theorem X12_rotate_34 {d bc bs : Nat} {h : AH} {Q : Option Value → AH → Prop} {a_0 : Nat} {v_3 : Int32} {v_4 : Int32} {v_5 : Int32} (w : ((4 ≤ v_5 → ex_G mX12_rotate (d + 1) 66 [.ref a_0, .retAddr 0, .retAddr 0, .int v_3, .int v_4, .int 0] [] h bc bs Q) ∧ (¬ 4 ≤ v_5 → ah_o h a_0 12 ∧ ∃ a3, ah_r h a_0 8 = some a3 ∧ ∃ a4, ah_r h a_0 5 = some a4 ∧ ld0 h a4 (v_4 + v_5) ∧ st0 h a3 v_5 ∧ ∀ h6, h6 = ah_si h a3 (Int32.toNatClampNeg v_5) (ah_i h a4 (Int32.toNatClampNeg (v_4 + v_5))) → ∀ x8, x8 = v_5 + 1 → ex_G mX12_rotate (d + 1) 34 [.ref a_0, .retAddr 0, .retAddr 0, .int v_3, .int v_4, .int x8] [] h6 bc bs Q))) : ex_G mX12_rotate (d + 1) 34 [.ref a_0, .retAddr 0, .retAddr 0, .int v_3, .int v_4, .int v_5] [] h bc bs Q := by
  refine ex_iload (q := 36) (x := v_5) dX12_rotate_34 rfl ?_
  refine ex_iconst (q := 37) (v := 4) dX12_rotate_36 (by decide) ?_
  refine ex_icmp_ge (tgt := 63) (q := 40) dX12_rotate_37 (fun c1 => ?_) (fun c1 => ?_)
  · replace w := w.1 c1
    refine ex_iconst (q := 64) (v := 0) dX12_rotate_63 (by decide) ?_
    refine ex_istore (q := 66) (ls' := [.ref a_0, .retAddr 0, .retAddr 0, .int v_3, .int v_4, .int 0]) dX12_rotate_64 rfl ?_
    exact w
  · replace w := w.2 c1
    refine ex_aload_n (q := 41) (x := a_0) dX12_rotate_40 rfl ?_
    have s2 := w.1
    replace w := w.2
    obtain ⟨a3, ea3, w⟩ := w
    refine ex_getr (q := 44) dX12_rotate_41 fl_X12_29 s2 ea3 ?_
    refine ex_iload (q := 46) (x := v_5) dX12_rotate_44 rfl ?_
    refine ex_aload_n (q := 47) (x := a_0) dX12_rotate_46 rfl ?_
    obtain ⟨a4, ea4, w⟩ := w
    refine ex_getr (q := 50) dX12_rotate_47 fl_X12_23 s2 ea4 ?_
    refine ex_iload (q := 52) (x := v_4) dX12_rotate_50 rfl ?_
    refine ex_iload (q := 54) (x := v_5) dX12_rotate_52 rfl ?_
    refine ex_iadd (q := 55) dX12_rotate_54 ?_
    have s5 := w.1
    replace w := w.2
    refine ex_iald (q := 56) dX12_rotate_55 s5 ?_
    have s7 := w.1
    replace w := w.2
    refine ex_iast (q := 57) dX12_rotate_56 s7 ?_
    refine ex_nmh (fun h6 eh6 => ?_)
    replace w := w h6 eh6
    obtain ⟨x8, ex8⟩ : ∃ y : Int32, y = v_5 + 1 := ⟨_, rfl⟩
    replace w := w x8 ex8
    refine ex_iinc (q := 60) (x := v_5) (v := x8) (ls' := [.ref a_0, .retAddr 0, .retAddr 0, .int v_3, .int v_4, .int x8]) dX12_rotate_57 rfl (by rw [ex8]; rfl) rfl ?_
    refine ex_goto (tgt := 34) dX12_rotate_60 ?_
    exact w

set_option maxRecDepth 100000 in
theorem X12_rotate_66 {d bc bs : Nat} {h : AH} {Q : Option Value → AH → Prop} {a_0 : Nat} {v_3 : Int32} {v_4 : Int32} {v_5 : Int32} (w : ((4 ≤ v_5 → Q (some (.int 0)) h) ∧ (¬ 4 ≤ v_5 → ah_o h a_0 12 ∧ ∃ a3, ah_r h a_0 5 = some a3 ∧ ∃ a4, ah_r h a_0 8 = some a4 ∧ ld0 h a4 ((v_5 + v_3) &&& 3) ∧ st0 h a3 (v_4 + v_5) ∧ ∀ h6, h6 = ah_si h a3 (Int32.toNatClampNeg (v_4 + v_5)) (ah_i h a4 (Int32.toNatClampNeg ((v_5 + v_3) &&& 3))) → ∀ x8, x8 = v_5 + 1 → ex_G mX12_rotate (d + 1) 66 [.ref a_0, .retAddr 0, .retAddr 0, .int v_3, .int v_4, .int x8] [] h6 bc bs Q))) : ex_G mX12_rotate (d + 1) 66 [.ref a_0, .retAddr 0, .retAddr 0, .int v_3, .int v_4, .int v_5] [] h bc bs Q := by
  refine ex_iload (q := 68) (x := v_5) dX12_rotate_66 rfl ?_
  refine ex_iconst (q := 69) (v := 4) dX12_rotate_68 (by decide) ?_
  refine ex_icmp_ge (tgt := 99) (q := 72) dX12_rotate_69 (fun c1 => ?_) (fun c1 => ?_)
  · replace w := w.1 c1
    refine ex_iconst (q := 100) (v := 0) dX12_rotate_99 (by decide) ?_
    exact ex_ireturn dX12_rotate_100 rfl (Or.inl rfl) w
  · replace w := w.2 c1
    refine ex_aload_n (q := 73) (x := a_0) dX12_rotate_72 rfl ?_
    have s2 := w.1
    replace w := w.2
    obtain ⟨a3, ea3, w⟩ := w
    refine ex_getr (q := 76) dX12_rotate_73 fl_X12_23 s2 ea3 ?_
    refine ex_iload (q := 78) (x := v_4) dX12_rotate_76 rfl ?_
    refine ex_iload (q := 80) (x := v_5) dX12_rotate_78 rfl ?_
    refine ex_iadd (q := 81) dX12_rotate_80 ?_
    refine ex_aload_n (q := 82) (x := a_0) dX12_rotate_81 rfl ?_
    obtain ⟨a4, ea4, w⟩ := w
    refine ex_getr (q := 85) dX12_rotate_82 fl_X12_29 s2 ea4 ?_
    refine ex_iload (q := 87) (x := v_5) dX12_rotate_85 rfl ?_
    refine ex_iload_n (q := 88) (x := v_3) dX12_rotate_87 rfl ?_
    refine ex_iadd (q := 89) dX12_rotate_88 ?_
    refine ex_iconst (q := 90) (v := 3) dX12_rotate_89 (by decide) ?_
    refine ex_iand (q := 91) dX12_rotate_90 ?_
    have s5 := w.1
    replace w := w.2
    refine ex_iald (q := 92) dX12_rotate_91 s5 ?_
    have s7 := w.1
    replace w := w.2
    refine ex_iast (q := 93) dX12_rotate_92 s7 ?_
    refine ex_nmh (fun h6 eh6 => ?_)
    replace w := w h6 eh6
    obtain ⟨x8, ex8⟩ : ∃ y : Int32, y = v_5 + 1 := ⟨_, rfl⟩
    replace w := w x8 ex8
    refine ex_iinc (q := 96) (x := v_5) (v := x8) (ls' := [.ref a_0, .retAddr 0, .retAddr 0, .int v_3, .int v_4, .int x8]) dX12_rotate_93 rfl (by rw [ex8]; rfl) rfl ?_
    refine ex_goto (tgt := 66) dX12_rotate_96 ?_
    exact w

theorem X12_rotate_e {d bc bs : Nat} {h : AH} {Q : Option Value → AH → Prop} {a_0 : Nat} {v_1 : Int32} {v_2 : Int32} {v_3 : Int32} (w : ex_G mX12_rotate (d + 1) 0 [.ref a_0, .int v_1, .int v_2, .int v_3, .retAddr 0, .retAddr 0] [] h bc bs Q) : ex_S yX12_rotate mX12_rotate (d + 1) [.ref a_0, .int v_1, .int v_2, .int v_3] h bc bs Q :=
  ex_enter (plainFor_of_name (by decide +kernel)) ⟨rfl, rfl⟩ rfl rfl (Nat.le_of_ble_eq_true rfl) (ex_pad 2 w)

set_option maxRecDepth 100000 in
theorem X12_moved_0 {d bc bs : Nat} {h : AH} {Q : Option Value → AH → Prop} {a_0 : Nat} {v_1 : Int32} {v_2 : Int32} {v_3 : Int32} {v_4 : Int32} (w : ((v_1 = 0 → ah_o h a_0 12 ∧ ex_S yX12_twist mX12_twist (d + 3) [.ref a_0, .int v_2, .int v_3] h 0 0 (fun r h2 => ∃ x4, r = some (.int x4) ∧ Q (some (.int x4)) h2)) ∧ (v_1 = 1 → ah_o h a_0 12 ∧ ex_S yX12_poke mX12_poke (d + 3) [.ref a_0, .int v_2, .int v_3, .int v_4] h 0 0 (fun r h5 => ∃ x7, r = some (.int x7) ∧ Q (some (.int x7)) h5)) ∧ (v_1 = 2 → ah_o h a_0 12 ∧ ex_S yX12_slide mX12_slide (d + 3) [.ref a_0, .int v_2] h 0 0 (fun r h8 => ∃ x10, r = some (.int x10) ∧ Q (some (.int x10)) h8)) ∧ (v_1 = 3 → ah_o h a_0 12 ∧ ex_S yX12_flype mX12_flype (d + 3) [.ref a_0, .int v_2, .int v_3] h 0 0 (fun r h11 => ∃ x13, r = some (.int x13) ∧ Q (some (.int x13)) h11)) ∧ (v_1 = 4 → ah_o h a_0 12 ∧ ex_S yX12_smooth mX12_smooth (d + 3) [.ref a_0, .int v_2, .int v_3] h 0 0 (fun r h14 => ∃ x16, r = some (.int x16) ∧ Q (some (.int x16)) h14)) ∧ (¬ v_1 = 0 → ¬ v_1 = 1 → ¬ v_1 = 2 → ¬ v_1 = 3 → ¬ v_1 = 4 → ah_o h a_0 12 ∧ ex_S yX12_rotate mX12_rotate (d + 3) [.ref a_0, .int 364, .int v_2, .int 1] h 0 0 (fun r h17 => ∃ x19, r = some (.int x19) ∧ Q (some (.int x19)) h17)))) : ex_G mX12_moved (d + 4) 0 [.ref a_0, .int v_1, .int v_2, .int v_3, .int v_4] [] h bc bs Q := by
  refine ex_iload_n (q := 1) (x := v_1) dX12_moved_0 rfl ?_
  by_cases c1_0 : v_1 = 0
  · replace w := w.1 c1_0
    refine ex_tsw (tgt := 36) dX12_moved_1 (by rw [c1_0]; decide) ?_
    refine ex_aload_n (q := 37) (x := a_0) dX12_moved_36 rfl ?_
    refine ex_iload_n (q := 38) (x := v_2) dX12_moved_37 rfl ?_
    refine ex_iload_n (q := 39) (x := v_3) dX12_moved_38 rfl ?_
    have s3 := w.1
    replace w := w.2
    refine ex_callV (q := 42) (M := mX12_moved) (hdd := Nat.le_refl _) (c := 12) (st := []) (bc := bc) (bs := bs) dX12_moved_39 rfl cl_X12_341 wd_1904 wd_92 s3 w ?_
    rintro r h2 ⟨x4, rfl, w⟩
    show ex_G mX12_moved (d + 4) 42 [.ref a_0, .int v_1, .int v_2, .int v_3, .int v_4] [.int x4] h2 bc bs Q
    exact ex_ireturn dX12_moved_42 rfl (Or.inl rfl) w
  replace w := w.2
  by_cases c1_1 : v_1 = 1
  · replace w := w.1 c1_1
    refine ex_tsw (tgt := 43) dX12_moved_1 (by rw [c1_1]; decide) ?_
    refine ex_aload_n (q := 44) (x := a_0) dX12_moved_43 rfl ?_
    refine ex_iload_n (q := 45) (x := v_2) dX12_moved_44 rfl ?_
    refine ex_iload_n (q := 46) (x := v_3) dX12_moved_45 rfl ?_
    refine ex_iload (q := 48) (x := v_4) dX12_moved_46 rfl ?_
    have s6 := w.1
    replace w := w.2
    refine ex_callV (q := 51) (M := mX12_moved) (hdd := Nat.le_refl _) (c := 12) (st := []) (bc := bc) (bs := bs) dX12_moved_48 rfl cl_X12_344 wd_1913 wd_94 s6 w ?_
    rintro r h5 ⟨x7, rfl, w⟩
    show ex_G mX12_moved (d + 4) 51 [.ref a_0, .int v_1, .int v_2, .int v_3, .int v_4] [.int x7] h5 bc bs Q
    exact ex_ireturn dX12_moved_51 rfl (Or.inl rfl) w
  replace w := w.2
  by_cases c1_2 : v_1 = 2
  · replace w := w.1 c1_2
    refine ex_tsw (tgt := 52) dX12_moved_1 (by rw [c1_2]; decide) ?_
    refine ex_aload_n (q := 53) (x := a_0) dX12_moved_52 rfl ?_
    refine ex_iload_n (q := 54) (x := v_2) dX12_moved_53 rfl ?_
    have s9 := w.1
    replace w := w.2
    refine ex_callV (q := 57) (M := mX12_moved) (hdd := Nat.le_refl _) (c := 12) (st := []) (bc := bc) (bs := bs) dX12_moved_54 rfl cl_X12_347 wd_1869 wd_84 s9 w ?_
    rintro r h8 ⟨x10, rfl, w⟩
    show ex_G mX12_moved (d + 4) 57 [.ref a_0, .int v_1, .int v_2, .int v_3, .int v_4] [.int x10] h8 bc bs Q
    exact ex_ireturn dX12_moved_57 rfl (Or.inl rfl) w
  replace w := w.2
  by_cases c1_3 : v_1 = 3
  · replace w := w.1 c1_3
    refine ex_tsw (tgt := 58) dX12_moved_1 (by rw [c1_3]; decide) ?_
    refine ex_aload_n (q := 59) (x := a_0) dX12_moved_58 rfl ?_
    refine ex_iload_n (q := 60) (x := v_2) dX12_moved_59 rfl ?_
    refine ex_iload_n (q := 61) (x := v_3) dX12_moved_60 rfl ?_
    have s12 := w.1
    replace w := w.2
    refine ex_callV (q := 64) (M := mX12_moved) (hdd := Nat.le_refl _) (c := 12) (st := []) (bc := bc) (bs := bs) dX12_moved_61 rfl cl_X12_350 wd_1881 wd_87 s12 w ?_
    rintro r h11 ⟨x13, rfl, w⟩
    show ex_G mX12_moved (d + 4) 64 [.ref a_0, .int v_1, .int v_2, .int v_3, .int v_4] [.int x13] h11 bc bs Q
    exact ex_ireturn dX12_moved_64 rfl (Or.inl rfl) w
  replace w := w.2
  by_cases c1_4 : v_1 = 4
  · replace w := w.1 c1_4
    refine ex_tsw (tgt := 65) dX12_moved_1 (by rw [c1_4]; decide) ?_
    refine ex_aload_n (q := 66) (x := a_0) dX12_moved_65 rfl ?_
    refine ex_iload_n (q := 67) (x := v_2) dX12_moved_66 rfl ?_
    refine ex_iload_n (q := 68) (x := v_3) dX12_moved_67 rfl ?_
    have s15 := w.1
    replace w := w.2
    refine ex_callV (q := 71) (M := mX12_moved) (hdd := Nat.le_refl _) (c := 12) (st := []) (bc := bc) (bs := bs) dX12_moved_68 rfl cl_X12_353 wd_1921 wd_96 s15 w ?_
    rintro r h14 ⟨x16, rfl, w⟩
    show ex_G mX12_moved (d + 4) 71 [.ref a_0, .int v_1, .int v_2, .int v_3, .int v_4] [.int x16] h14 bc bs Q
    exact ex_ireturn dX12_moved_71 rfl (Or.inl rfl) w
  replace w := w.2
  replace w := w c1_0 c1_1 c1_2 c1_3 c1_4
  have hsw : v_1.toInt < 0 ∨ 4 < v_1.toInt := by
    have := i32_ne c1_0 (a := 0) (by decide)
    have := i32_ne c1_1 (a := 1) (by decide)
    have := i32_ne c1_2 (a := 2) (by decide)
    have := i32_ne c1_3 (a := 3) (by decide)
    have := i32_ne c1_4 (a := 4) (by decide)
    omega
  have hsq : sw_t 71 0 4 [35, 42, 51, 57, 64] v_1.toInt = 71 := by
    rcases hsw with z | z
    · unfold sw_t; rw [if_pos (Or.inl z)]
    · unfold sw_t; rw [if_pos (Or.inr z)]
  refine ex_tsw (tgt := 72) dX12_moved_1 (show ((1 : Nat) : Int) + sw_t 71 0 4 [35, 42, 51, 57, 64] v_1.toInt = ((72 : Nat) : Int) by rw [hsq]; decide) ?_
  refine ex_aload_n (q := 73) (x := a_0) dX12_moved_72 rfl ?_
  refine ex_sipush (q := 76) (v := 364) dX12_moved_73 (by decide) ?_
  refine ex_iload_n (q := 77) (x := v_2) dX12_moved_76 rfl ?_
  refine ex_iconst (q := 78) (v := 1) dX12_moved_77 (by decide) ?_
  have s18 := w.1
  replace w := w.2
  refine ex_callV (q := 81) (M := mX12_moved) (hdd := Nat.le_refl _) (c := 12) (st := []) (bc := bc) (bs := bs) dX12_moved_78 rfl cl_X12_356 wd_1896 wd_90 s18 w ?_
  rintro r h17 ⟨x19, rfl, w⟩
  show ex_G mX12_moved (d + 4) 81 [.ref a_0, .int v_1, .int v_2, .int v_3, .int v_4] [.int x19] h17 bc bs Q
  exact ex_ireturn dX12_moved_81 rfl (Or.inl rfl) w

theorem X12_moved_e {d bc bs : Nat} {h : AH} {Q : Option Value → AH → Prop} {a_0 : Nat} {v_1 : Int32} {v_2 : Int32} {v_3 : Int32} {v_4 : Int32} (w : ex_G mX12_moved (d + 4) 0 [.ref a_0, .int v_1, .int v_2, .int v_3, .int v_4] [] h bc bs Q) : ex_S yX12_moved mX12_moved (d + 4) [.ref a_0, .int v_1, .int v_2, .int v_3, .int v_4] h bc bs Q :=
  ex_enter (plainFor_of_name (by decide +kernel)) ⟨rfl, rfl⟩ rfl rfl (Nat.le_of_ble_eq_true rfl) (ex_pad 0 w)

set_option maxRecDepth 100000 in
theorem X12_unmoved_0 {d bc bs : Nat} {h : AH} {Q : Option Value → AH → Prop} {a_0 : Nat} {v_1 : Int32} {v_2 : Int32} {v_3 : Int32} (w : ((v_1 = 0 → ah_o h a_0 12 ∧ ex_S yX12_untwist mX12_untwist (d + 2) [.ref a_0, .int v_2] h 0 0 (fun r h2 => ∃ x4, r = some (.int x4) ∧ Q (some (.int x4)) h2)) ∧ (v_1 = 1 → ah_o h a_0 12 ∧ ex_S yX12_unpoke mX12_unpoke (d + 2) [.ref a_0, .int v_2] h 0 0 (fun r h5 => ∃ x7, r = some (.int x7) ∧ Q (some (.int x7)) h5)) ∧ (v_1 = 2 → ah_o h a_0 12 ∧ X12_isEnd_C a_0 364 v_2 h ∧ (((X12_isEnd_V a_0 364 v_2 h) = 0 → Q (some (.int 5)) h) ∧ (¬ (X12_isEnd_V a_0 364 v_2 h) = 0 → ex_S yX12_slide mX12_slide (d + 2) [.ref a_0, .int (X12_turned_V v_2 2 h)] h 0 0 (fun r h11 => ∃ x12, r = some (.int x12) ∧ Q (some (.int x12)) h11)))) ∧ (v_1 = 3 → ah_o h a_0 12 ∧ X12_isEnd_C a_0 364 v_2 h ∧ (((X12_isEnd_V a_0 364 v_2 h) = 0 → Q (some (.int 5)) h) ∧ (¬ (X12_isEnd_V a_0 364 v_2 h) = 0 → ex_S yX12_flype mX12_flype (d + 2) [.ref a_0, .int (X12_turned_V v_2 2 h), .int v_3] h 0 0 (fun r h16 => ∃ x17, r = some (.int x17) ∧ Q (some (.int x17)) h16)))) ∧ (¬ v_1 = 0 → ¬ v_1 = 1 → ¬ v_1 = 2 → ¬ v_1 = 3 → ah_o h a_0 12 ∧ ex_S yX12_rotate mX12_rotate (d + 2) [.ref a_0, .int 364, .int v_2, .int 3] h 0 0 (fun r h18 => ∃ x20, r = some (.int x20) ∧ Q (some (.int x20)) h18)))) : ex_G mX12_unmoved (d + 3) 0 [.ref a_0, .int v_1, .int v_2, .int v_3] [] h bc bs Q := by
  refine ex_iload_n (q := 1) (x := v_1) dX12_unmoved_0 rfl ?_
  by_cases c1_0 : v_1 = 0
  · replace w := w.1 c1_0
    refine ex_tsw (tgt := 32) dX12_unmoved_1 (by rw [c1_0]; decide) ?_
    refine ex_aload_n (q := 33) (x := a_0) dX12_unmoved_32 rfl ?_
    refine ex_iload_n (q := 34) (x := v_2) dX12_unmoved_33 rfl ?_
    have s3 := w.1
    replace w := w.2
    refine ex_callV (q := 37) (M := mX12_unmoved) (hdd := Nat.le_refl _) (c := 12) (st := []) (bc := bc) (bs := bs) dX12_unmoved_34 rfl cl_X12_359 wd_1840 wd_77 s3 w ?_
    rintro r h2 ⟨x4, rfl, w⟩
    show ex_G mX12_unmoved (d + 3) 37 [.ref a_0, .int v_1, .int v_2, .int v_3] [.int x4] h2 bc bs Q
    exact ex_ireturn dX12_unmoved_37 rfl (Or.inl rfl) w
  replace w := w.2
  by_cases c1_1 : v_1 = 1
  · replace w := w.1 c1_1
    refine ex_tsw (tgt := 38) dX12_unmoved_1 (by rw [c1_1]; decide) ?_
    refine ex_aload_n (q := 39) (x := a_0) dX12_unmoved_38 rfl ?_
    refine ex_iload_n (q := 40) (x := v_2) dX12_unmoved_39 rfl ?_
    have s6 := w.1
    replace w := w.2
    refine ex_callV (q := 43) (M := mX12_unmoved) (hdd := Nat.le_refl _) (c := 12) (st := []) (bc := bc) (bs := bs) dX12_unmoved_40 rfl cl_X12_362 wd_1865 wd_83 s6 w ?_
    rintro r h5 ⟨x7, rfl, w⟩
    show ex_G mX12_unmoved (d + 3) 43 [.ref a_0, .int v_1, .int v_2, .int v_3] [.int x7] h5 bc bs Q
    exact ex_ireturn dX12_unmoved_43 rfl (Or.inl rfl) w
  replace w := w.2
  by_cases c1_2 : v_1 = 2
  · replace w := w.1 c1_2
    refine ex_tsw (tgt := 44) dX12_unmoved_1 (by rw [c1_2]; decide) ?_
    refine ex_aload_n (q := 45) (x := a_0) dX12_unmoved_44 rfl ?_
    refine ex_sipush (q := 48) (v := 364) dX12_unmoved_45 (by decide) ?_
    refine ex_iload_n (q := 49) (x := v_2) dX12_unmoved_48 rfl ?_
    have s8 := w.1
    replace w := w.2
    have s9 := w.1
    replace w := w.2
    refine ex_callV (q := 52) (M := mX12_unmoved) (hdd := Nat.le_refl _) (mc := 0) (ms := 0) (d' := (d + 2)) (c := 12) (st := []) (bc := bc) (bs := bs) dX12_unmoved_49 rfl cl_X12_301 wd_1844 wd_78 s8 (X12_isEnd_s (Q := fun r z => r = some (.int (X12_isEnd_V a_0 364 v_2 h)) ∧ z = h) s9 ⟨rfl, rfl⟩) ?_
    intro r z hrz
    rw [hrz.1, hrz.2]
    show ex_G mX12_unmoved (d + 3) 52 [.ref a_0, .int v_1, .int v_2, .int v_3] [.int (X12_isEnd_V a_0 364 v_2 h)] (h) bc bs Q
    refine ex_if_eq (tgt := 67) (q := 55) dX12_unmoved_52 (fun c10 => ?_) (fun c10 => ?_)
    · replace w := w.1 c10
      refine ex_iconst (q := 68) (v := 5) dX12_unmoved_67 (by decide) ?_
      exact ex_ireturn dX12_unmoved_68 rfl (Or.inl rfl) w
    · replace w := w.2 c10
      refine ex_aload_n (q := 56) (x := a_0) dX12_unmoved_55 rfl ?_
      refine ex_iload_n (q := 57) (x := v_2) dX12_unmoved_56 rfl ?_
      refine ex_iconst (q := 58) (v := 2) dX12_unmoved_57 (by decide) ?_
      refine ex_callS (q := 61) (M := mX12_unmoved) (hdd := Nat.le_refl _) (mc := 0) (ms := 0) (d' := (d + 2)) (st := [.ref a_0]) (bc := bc) (bs := bs) dX12_unmoved_58 rfl cl_X12_209 wd_1658 (X12_turned_s (Q := fun r z => r = some (.int (X12_turned_V v_2 2 h)) ∧ z = h) ⟨rfl, rfl⟩) ?_
      intro r z hrz
      rw [hrz.1, hrz.2]
      show ex_G mX12_unmoved (d + 3) 61 [.ref a_0, .int v_1, .int v_2, .int v_3] [.int (X12_turned_V v_2 2 h), .ref a_0] (h) bc bs Q
      refine ex_callV (q := 64) (M := mX12_unmoved) (hdd := Nat.le_refl _) (c := 12) (st := []) (bc := bc) (bs := bs) dX12_unmoved_61 rfl cl_X12_347 wd_1869 wd_84 s8 w ?_
      rintro r h11 ⟨x12, rfl, w⟩
      show ex_G mX12_unmoved (d + 3) 64 [.ref a_0, .int v_1, .int v_2, .int v_3] [.int x12] h11 bc bs Q
      refine ex_goto (tgt := 68) dX12_unmoved_64 ?_
      exact ex_ireturn dX12_unmoved_68 rfl (Or.inl rfl) w
  replace w := w.2
  by_cases c1_3 : v_1 = 3
  · replace w := w.1 c1_3
    refine ex_tsw (tgt := 69) dX12_unmoved_1 (by rw [c1_3]; decide) ?_
    refine ex_aload_n (q := 70) (x := a_0) dX12_unmoved_69 rfl ?_
    refine ex_sipush (q := 73) (v := 364) dX12_unmoved_70 (by decide) ?_
    refine ex_iload_n (q := 74) (x := v_2) dX12_unmoved_73 rfl ?_
    have s13 := w.1
    replace w := w.2
    have s14 := w.1
    replace w := w.2
    refine ex_callV (q := 77) (M := mX12_unmoved) (hdd := Nat.le_refl _) (mc := 0) (ms := 0) (d' := (d + 2)) (c := 12) (st := []) (bc := bc) (bs := bs) dX12_unmoved_74 rfl cl_X12_301 wd_1844 wd_78 s13 (X12_isEnd_s (Q := fun r z => r = some (.int (X12_isEnd_V a_0 364 v_2 h)) ∧ z = h) s14 ⟨rfl, rfl⟩) ?_
    intro r z hrz
    rw [hrz.1, hrz.2]
    show ex_G mX12_unmoved (d + 3) 77 [.ref a_0, .int v_1, .int v_2, .int v_3] [.int (X12_isEnd_V a_0 364 v_2 h)] (h) bc bs Q
    refine ex_if_eq (tgt := 93) (q := 80) dX12_unmoved_77 (fun c15 => ?_) (fun c15 => ?_)
    · replace w := w.1 c15
      refine ex_iconst (q := 94) (v := 5) dX12_unmoved_93 (by decide) ?_
      exact ex_ireturn dX12_unmoved_94 rfl (Or.inl rfl) w
    · replace w := w.2 c15
      refine ex_aload_n (q := 81) (x := a_0) dX12_unmoved_80 rfl ?_
      refine ex_iload_n (q := 82) (x := v_2) dX12_unmoved_81 rfl ?_
      refine ex_iconst (q := 83) (v := 2) dX12_unmoved_82 (by decide) ?_
      refine ex_callS (q := 86) (M := mX12_unmoved) (hdd := Nat.le_refl _) (mc := 0) (ms := 0) (d' := (d + 2)) (st := [.ref a_0]) (bc := bc) (bs := bs) dX12_unmoved_83 rfl cl_X12_209 wd_1658 (X12_turned_s (Q := fun r z => r = some (.int (X12_turned_V v_2 2 h)) ∧ z = h) ⟨rfl, rfl⟩) ?_
      intro r z hrz
      rw [hrz.1, hrz.2]
      show ex_G mX12_unmoved (d + 3) 86 [.ref a_0, .int v_1, .int v_2, .int v_3] [.int (X12_turned_V v_2 2 h), .ref a_0] (h) bc bs Q
      refine ex_iload_n (q := 87) (x := v_3) dX12_unmoved_86 rfl ?_
      refine ex_callV (q := 90) (M := mX12_unmoved) (hdd := Nat.le_refl _) (c := 12) (st := []) (bc := bc) (bs := bs) dX12_unmoved_87 rfl cl_X12_350 wd_1881 wd_87 s13 w ?_
      rintro r h16 ⟨x17, rfl, w⟩
      show ex_G mX12_unmoved (d + 3) 90 [.ref a_0, .int v_1, .int v_2, .int v_3] [.int x17] h16 bc bs Q
      refine ex_goto (tgt := 94) dX12_unmoved_90 ?_
      exact ex_ireturn dX12_unmoved_94 rfl (Or.inl rfl) w
  replace w := w.2
  replace w := w c1_0 c1_1 c1_2 c1_3
  have hsw : v_1.toInt < 0 ∨ 3 < v_1.toInt := by
    have := i32_ne c1_0 (a := 0) (by decide)
    have := i32_ne c1_1 (a := 1) (by decide)
    have := i32_ne c1_2 (a := 2) (by decide)
    have := i32_ne c1_3 (a := 3) (by decide)
    omega
  have hsq : sw_t 94 0 3 [31, 37, 43, 68] v_1.toInt = 94 := by
    rcases hsw with z | z
    · unfold sw_t; rw [if_pos (Or.inl z)]
    · unfold sw_t; rw [if_pos (Or.inr z)]
  refine ex_tsw (tgt := 95) dX12_unmoved_1 (show ((1 : Nat) : Int) + sw_t 94 0 3 [31, 37, 43, 68] v_1.toInt = ((95 : Nat) : Int) by rw [hsq]; decide) ?_
  refine ex_aload_n (q := 96) (x := a_0) dX12_unmoved_95 rfl ?_
  refine ex_sipush (q := 99) (v := 364) dX12_unmoved_96 (by decide) ?_
  refine ex_iload_n (q := 100) (x := v_2) dX12_unmoved_99 rfl ?_
  refine ex_iconst (q := 101) (v := 3) dX12_unmoved_100 (by decide) ?_
  have s19 := w.1
  replace w := w.2
  refine ex_callV (q := 104) (M := mX12_unmoved) (hdd := Nat.le_refl _) (c := 12) (st := []) (bc := bc) (bs := bs) dX12_unmoved_101 rfl cl_X12_356 wd_1896 wd_90 s19 w ?_
  rintro r h18 ⟨x20, rfl, w⟩
  show ex_G mX12_unmoved (d + 3) 104 [.ref a_0, .int v_1, .int v_2, .int v_3] [.int x20] h18 bc bs Q
  exact ex_ireturn dX12_unmoved_104 rfl (Or.inl rfl) w

theorem X12_unmoved_e {d bc bs : Nat} {h : AH} {Q : Option Value → AH → Prop} {a_0 : Nat} {v_1 : Int32} {v_2 : Int32} {v_3 : Int32} (w : ex_G mX12_unmoved (d + 3) 0 [.ref a_0, .int v_1, .int v_2, .int v_3] [] h bc bs Q) : ex_S yX12_unmoved mX12_unmoved (d + 3) [.ref a_0, .int v_1, .int v_2, .int v_3] h bc bs Q :=
  ex_enter (plainFor_of_name (by decide +kernel)) ⟨rfl, rfl⟩ rfl rfl (Nat.le_of_ble_eq_true rfl) (ex_pad 0 w)

set_option maxRecDepth 100000 in
theorem X12_move_0 {d bc bs : Nat} {h : AH} {Q : Option Value → AH → Prop} {a_0 : Nat} {v_1 : Int32} {v_2 : Int32} {v_3 : Int32} {v_4 : Int32} (w : ((¬ (X12_in_V (Int32.toInt64 v_1) 0 5 h) = 0 → ah_o h a_0 12 ∧ ((¬ (ah_f h a_0 35) = 60 → ∃ a4, ah_r h a_0 36 = some a4 ∧ st0 h a4 (4 * (ah_f h a_0 35)) ∧ ∀ h5, h5 = ah_si h a4 (Int32.toNatClampNeg (4 * (ah_f h a_0 35))) v_1 → st0 h5 a4 ((4 * (ah_f h5 a_0 35)) + 1) ∧ ∀ h7, h7 = ah_si h5 a4 (Int32.toNatClampNeg ((4 * (ah_f h5 a_0 35)) + 1)) v_2 → st0 h7 a4 ((4 * (ah_f h7 a_0 35)) + 2) ∧ ∀ h9, h9 = ah_si h7 a4 (Int32.toNatClampNeg ((4 * (ah_f h7 a_0 35)) + 2)) v_3 → st0 h9 a4 ((4 * (ah_f h9 a_0 35)) + 3) ∧ ∀ h11, h11 = ah_si h9 a4 (Int32.toNatClampNeg ((4 * (ah_f h9 a_0 35)) + 3)) v_4 → ∀ h13, h13 = ah_sf h11 a_0 35 ((ah_f h11 a_0 35) + 1) → X12_well_C a_0 ((ah_f h13 a_0 35) - 1) h13 ∧ ∀ h15, h15 = X12_well_H a_0 ((ah_f h13 a_0 35) - 1) h13 → Q (some (.int (X12_well_V a_0 ((ah_f h13 a_0 35) - 1) h13))) h15) ∧ ((ah_f h a_0 35) = 60 → X12_no_C a_0 (-3) h ∧ ∀ h17, h17 = X12_no_H a_0 (-3) h → Q (some (.int (X12_no_V a_0 (-3) h))) h17))) ∧ ((X12_in_V (Int32.toInt64 v_1) 0 5 h) = 0 → ah_o h a_0 12 ∧ X12_no_C a_0 (-2) h ∧ ∀ h20, h20 = X12_no_H a_0 (-2) h → Q (some (.int (X12_no_V a_0 (-2) h))) h20))) : ex_G mX12_move (d + 1) 0 [.ref a_0, .int v_1, .int v_2, .int v_3, .int v_4] [] h bc bs Q := by
  refine ex_iload_n (q := 1) (x := v_1) dX12_move_0 rfl ?_
  refine ex_i2l (q := 2) dX12_move_1 ?_
  refine ex_lconst (q := 3) (v := 0) dX12_move_2 (by decide) ?_
  refine ex_ldc2_w (q := 6) (v := 5) dX12_move_3 wd_1672 ?_
  refine ex_callS (q := 9) (M := mX12_move) (hdd := Nat.le_refl _) (mc := 0) (ms := 0) (d' := d) (st := []) (bc := bc) (bs := bs) dX12_move_6 rfl cl_X12_172 wd_1596 (X12_in_s (Q := fun r z => r = some (.int (X12_in_V (Int32.toInt64 v_1) 0 5 h)) ∧ z = h) ⟨rfl, rfl⟩) ?_
  intro r z hrz
  rw [hrz.1, hrz.2]
  show ex_G mX12_move (d + 1) 9 [.ref a_0, .int v_1, .int v_2, .int v_3, .int v_4] [.int (X12_in_V (Int32.toInt64 v_1) 0 5 h)] (h) bc bs Q
  refine ex_if_ne (tgt := 19) (q := 12) dX12_move_9 (fun c1 => ?_) (fun c1 => ?_)
  · replace w := w.1 c1
    refine ex_aload_n (q := 20) (x := a_0) dX12_move_19 rfl ?_
    have s2 := w.1
    replace w := w.2
    refine ex_getf (q := 23) dX12_move_20 fl_X12_365 s2 ?_
    refine ex_bipush (q := 25) (v := 60) dX12_move_23 (by decide) ?_
    refine ex_icmp_ne (tgt := 35) (q := 28) dX12_move_25 (fun c3 => ?_) (fun c3 => ?_)
    · replace w := w.1 c3
      refine ex_aload_n (q := 36) (x := a_0) dX12_move_35 rfl ?_
      obtain ⟨a4, ea4, w⟩ := w
      refine ex_getr (q := 39) dX12_move_36 fl_X12_104 s2 ea4 ?_
      refine ex_iconst (q := 40) (v := 4) dX12_move_39 (by decide) ?_
      refine ex_aload_n (q := 41) (x := a_0) dX12_move_40 rfl ?_
      refine ex_getf (q := 44) dX12_move_41 fl_X12_365 s2 ?_
      refine ex_imul (q := 45) dX12_move_44 ?_
      refine ex_iload_n (q := 46) (x := v_1) dX12_move_45 rfl ?_
      have s6 := w.1
      replace w := w.2
      refine ex_iast (q := 47) dX12_move_46 s6 ?_
      refine ex_nmh (fun h5 eh5 => ?_)
      replace w := w h5 eh5
      refine ex_aload_n (q := 48) (x := a_0) dX12_move_47 rfl ?_
      refine ex_getr (q := 51) dX12_move_48 fl_X12_104 (by rw [eh5]; exact s2) (by rw [eh5]; exact ea4) ?_
      refine ex_iconst (q := 52) (v := 4) dX12_move_51 (by decide) ?_
      refine ex_aload_n (q := 53) (x := a_0) dX12_move_52 rfl ?_
      refine ex_getf (q := 56) dX12_move_53 fl_X12_365 (by rw [eh5]; exact s2) ?_
      refine ex_imul (q := 57) dX12_move_56 ?_
      refine ex_iconst (q := 58) (v := 1) dX12_move_57 (by decide) ?_
      refine ex_iadd (q := 59) dX12_move_58 ?_
      refine ex_iload_n (q := 60) (x := v_2) dX12_move_59 rfl ?_
      have s8 := w.1
      replace w := w.2
      refine ex_iast (q := 61) dX12_move_60 s8 ?_
      refine ex_nmh (fun h7 eh7 => ?_)
      replace w := w h7 eh7
      refine ex_aload_n (q := 62) (x := a_0) dX12_move_61 rfl ?_
      refine ex_getr (q := 65) dX12_move_62 fl_X12_104 (by rw [eh7]; exact (by rw [eh5]; exact s2)) (by rw [eh7]; exact (by rw [eh5]; exact ea4)) ?_
      refine ex_iconst (q := 66) (v := 4) dX12_move_65 (by decide) ?_
      refine ex_aload_n (q := 67) (x := a_0) dX12_move_66 rfl ?_
      refine ex_getf (q := 70) dX12_move_67 fl_X12_365 (by rw [eh7]; exact (by rw [eh5]; exact s2)) ?_
      refine ex_imul (q := 71) dX12_move_70 ?_
      refine ex_iconst (q := 72) (v := 2) dX12_move_71 (by decide) ?_
      refine ex_iadd (q := 73) dX12_move_72 ?_
      refine ex_iload_n (q := 74) (x := v_3) dX12_move_73 rfl ?_
      have s10 := w.1
      replace w := w.2
      refine ex_iast (q := 75) dX12_move_74 s10 ?_
      refine ex_nmh (fun h9 eh9 => ?_)
      replace w := w h9 eh9
      refine ex_aload_n (q := 76) (x := a_0) dX12_move_75 rfl ?_
      refine ex_getr (q := 79) dX12_move_76 fl_X12_104 (by rw [eh9]; exact (by rw [eh7]; exact (by rw [eh5]; exact s2))) (by rw [eh9]; exact (by rw [eh7]; exact (by rw [eh5]; exact ea4))) ?_
      refine ex_iconst (q := 80) (v := 4) dX12_move_79 (by decide) ?_
      refine ex_aload_n (q := 81) (x := a_0) dX12_move_80 rfl ?_
      refine ex_getf (q := 84) dX12_move_81 fl_X12_365 (by rw [eh9]; exact (by rw [eh7]; exact (by rw [eh5]; exact s2))) ?_
      refine ex_imul (q := 85) dX12_move_84 ?_
      refine ex_iconst (q := 86) (v := 3) dX12_move_85 (by decide) ?_
      refine ex_iadd (q := 87) dX12_move_86 ?_
      refine ex_iload (q := 89) (x := v_4) dX12_move_87 rfl ?_
      have s12 := w.1
      replace w := w.2
      refine ex_iast (q := 90) dX12_move_89 s12 ?_
      refine ex_nmh (fun h11 eh11 => ?_)
      replace w := w h11 eh11
      refine ex_aload_n (q := 91) (x := a_0) dX12_move_90 rfl ?_
      refine ex_dup (q := 92) dX12_move_91 rfl ?_
      refine ex_getf (q := 95) dX12_move_92 fl_X12_365 (by rw [eh11]; exact (by rw [eh9]; exact (by rw [eh7]; exact (by rw [eh5]; exact s2)))) ?_
      refine ex_iconst (q := 96) (v := 1) dX12_move_95 (by decide) ?_
      refine ex_iadd (q := 97) dX12_move_96 ?_
      refine ex_putf (q := 100) dX12_move_97 fl_X12_365 (Or.inl rfl) (by rw [eh11]; exact (by rw [eh9]; exact (by rw [eh7]; exact (by rw [eh5]; exact s2)))) (Or.inl rfl) ?_
      refine ex_nmh (fun h13 eh13 => ?_)
      replace w := w h13 eh13
      refine ex_aload_n (q := 101) (x := a_0) dX12_move_100 rfl ?_
      refine ex_aload_n (q := 102) (x := a_0) dX12_move_101 rfl ?_
      refine ex_getf (q := 105) dX12_move_102 fl_X12_365 (by rw [eh13]; exact (by rw [eh11]; exact (by rw [eh9]; exact (by rw [eh7]; exact (by rw [eh5]; exact s2))))) ?_
      refine ex_iconst (q := 106) (v := 1) dX12_move_105 (by decide) ?_
      refine ex_isub (q := 107) dX12_move_106 ?_
      have s14 := w.1
      replace w := w.2
      refine ex_callV (q := 110) (M := mX12_move) (hdd := Nat.le_refl _) (mc := 0) (ms := 0) (d' := d) (c := 12) (st := []) (bc := bc) (bs := bs) dX12_move_107 rfl cl_X12_180 wd_1585 wd_47 (by rw [eh13]; exact (by rw [eh11]; exact (by rw [eh9]; exact (by rw [eh7]; exact (by rw [eh5]; exact s2))))) (X12_well_s (Q := fun r z => r = some (.int (X12_well_V a_0 ((ah_f h13 a_0 35) - 1) h13)) ∧ z = X12_well_H a_0 ((ah_f h13 a_0 35) - 1) h13) s14 ⟨rfl, rfl⟩) ?_
      intro r z hrz
      rw [hrz.1, hrz.2]
      show ex_G mX12_move (d + 1) 110 [.ref a_0, .int v_1, .int v_2, .int v_3, .int v_4] [.int (X12_well_V a_0 ((ah_f h13 a_0 35) - 1) h13)] (X12_well_H a_0 ((ah_f h13 a_0 35) - 1) h13) bc bs Q
      refine ex_nmh (fun h15 eh15 => ?_)
      replace w := w h15 eh15
      exact ex_ireturn dX12_move_110 rfl (Or.inl rfl) w
    · replace w := w.2 c3
      refine ex_aload_n (q := 29) (x := a_0) dX12_move_28 rfl ?_
      refine ex_bipush (q := 31) (v := (-3)) dX12_move_29 (by decide) ?_
      have s16 := w.1
      replace w := w.2
      refine ex_callV (q := 34) (M := mX12_move) (hdd := Nat.le_refl _) (mc := 0) (ms := 0) (d' := d) (c := 12) (st := []) (bc := bc) (bs := bs) dX12_move_31 rfl cl_X12_165 wd_1581 wd_46 s2 (X12_no_s (Q := fun r z => r = some (.int (X12_no_V a_0 (-3) h)) ∧ z = X12_no_H a_0 (-3) h) s16 ⟨rfl, rfl⟩) ?_
      intro r z hrz
      rw [hrz.1, hrz.2]
      show ex_G mX12_move (d + 1) 34 [.ref a_0, .int v_1, .int v_2, .int v_3, .int v_4] [.int (X12_no_V a_0 (-3) h)] (X12_no_H a_0 (-3) h) bc bs Q
      refine ex_nmh (fun h17 eh17 => ?_)
      replace w := w h17 eh17
      exact ex_ireturn dX12_move_34 rfl (Or.inl rfl) w
  · replace w := w.2 c1
    refine ex_aload_n (q := 13) (x := a_0) dX12_move_12 rfl ?_
    refine ex_bipush (q := 15) (v := (-2)) dX12_move_13 (by decide) ?_
    have s18 := w.1
    replace w := w.2
    have s19 := w.1
    replace w := w.2
    refine ex_callV (q := 18) (M := mX12_move) (hdd := Nat.le_refl _) (mc := 0) (ms := 0) (d' := d) (c := 12) (st := []) (bc := bc) (bs := bs) dX12_move_15 rfl cl_X12_165 wd_1581 wd_46 s18 (X12_no_s (Q := fun r z => r = some (.int (X12_no_V a_0 (-2) h)) ∧ z = X12_no_H a_0 (-2) h) s19 ⟨rfl, rfl⟩) ?_
    intro r z hrz
    rw [hrz.1, hrz.2]
    show ex_G mX12_move (d + 1) 18 [.ref a_0, .int v_1, .int v_2, .int v_3, .int v_4] [.int (X12_no_V a_0 (-2) h)] (X12_no_H a_0 (-2) h) bc bs Q
    refine ex_nmh (fun h20 eh20 => ?_)
    replace w := w h20 eh20
    exact ex_ireturn dX12_move_18 rfl (Or.inl rfl) w

theorem X12_move_e {d bc bs : Nat} {h : AH} {Q : Option Value → AH → Prop} {a_0 : Nat} {v_1 : Int32} {v_2 : Int32} {v_3 : Int32} {v_4 : Int32} (w : ex_G mX12_move (d + 1) 0 [.ref a_0, .int v_1, .int v_2, .int v_3, .int v_4] [] h bc bs Q) : ex_S yX12_move mX12_move (d + 1) [.ref a_0, .int v_1, .int v_2, .int v_3, .int v_4] h bc bs Q :=
  ex_enter (plainFor_of_name (by decide +kernel)) ⟨rfl, rfl⟩ rfl rfl (Nat.le_of_ble_eq_true rfl) (ex_pad 0 w)

set_option maxRecDepth 100000 in
theorem X12_tells_0 {d bc bs : Nat} {h : AH} {Q : Option Value → AH → Prop} {a_0 : Nat} {v_1 : Int32} {v_2 : Int32} (w : ah_o h a_0 12 ∧ X12_isMove_C a_0 v_1 h ∧ (((X12_isMove_V a_0 v_1 h) = 0 → X12_no_C a_0 (-2) h ∧ ∀ h5, h5 = X12_no_H a_0 (-2) h → Q (some (.int (X12_no_V a_0 (-2) h))) h5) ∧ (¬ (X12_isMove_V a_0 v_1 h) = 0 → ((¬ (X12_in_V (Int32.toInt64 v_2) 0 5 h) = 0 → ∀ h7, h7 = ah_sf h a_0 38 0 → ((4 ≤ v_2 → ∃ a9, ah_r h7 a_0 36 = some a9 ∧ ld0 h7 a9 (4 * v_1) ∧ ex_S yX12_moreOf mX12_moreOf (d + 1) [.ref a_0, .int (ah_i h7 a9 (Int32.toNatClampNeg (4 * v_1)))] h7 0 0 (fun r h11 => ∃ x12, r = some (.int x12) ∧ ((¬ v_2 = 4 → ((¬ x12 = 0 → ah_o h11 a_0 12 ∧ X12_well_C a_0 0 h11 ∧ ∀ h17, h17 = X12_well_H a_0 0 h11 → Q (some (.int (X12_well_V a_0 0 h11))) h17) ∧ (x12 = 0 → ah_o h11 a_0 12 ∧ X12_well_C a_0 1 h11 ∧ ∀ h20, h20 = X12_well_H a_0 1 h11 → Q (some (.int (X12_well_V a_0 1 h11))) h20))) ∧ (v_2 = 4 → ah_o h11 a_0 12 ∧ X12_well_C a_0 x12 h11 ∧ ∀ h23, h23 = X12_well_H a_0 x12 h11 → Q (some (.int (X12_well_V a_0 x12 h11))) h23)))) ∧ (¬ 4 ≤ v_2 → ∃ a24, ah_r h7 a_0 36 = some a24 ∧ ld0 h7 a24 ((4 * v_1) + v_2) ∧ X12_well_C a_0 (ah_i h7 a24 (Int32.toNatClampNeg ((4 * v_1) + v_2))) h7 ∧ ∀ h27, h27 = X12_well_H a_0 (ah_i h7 a24 (Int32.toNatClampNeg ((4 * v_1) + v_2))) h7 → Q (some (.int (X12_well_V a_0 (ah_i h7 a24 (Int32.toNatClampNeg ((4 * v_1) + v_2))) h7))) h27))) ∧ ((X12_in_V (Int32.toInt64 v_2) 0 5 h) = 0 → X12_no_C a_0 (-2) h ∧ ∀ h29, h29 = X12_no_H a_0 (-2) h → Q (some (.int (X12_no_V a_0 (-2) h))) h29))))) : ex_G mX12_tells (d + 2) 0 [.ref a_0, .int v_1, .int v_2, .retAddr 0] [] h bc bs Q := by
  refine ex_aload_n (q := 1) (x := a_0) dX12_tells_0 rfl ?_
  refine ex_iload_n (q := 2) (x := v_1) dX12_tells_1 rfl ?_
  have s1 := w.1
  replace w := w.2
  have s2 := w.1
  replace w := w.2
  refine ex_callV (q := 5) (M := mX12_tells) (hdd := Nat.le_refl _) (mc := 0) (ms := 0) (d' := (d + 1)) (c := 12) (st := []) (bc := bc) (bs := bs) dX12_tells_2 rfl cl_X12_371 wd_1808 wd_72 s1 (X12_isMove_s (Q := fun r z => r = some (.int (X12_isMove_V a_0 v_1 h)) ∧ z = h) s2 ⟨rfl, rfl⟩) ?_
  intro r z hrz
  rw [hrz.1, hrz.2]
  show ex_G mX12_tells (d + 2) 5 [.ref a_0, .int v_1, .int v_2, .retAddr 0] [.int (X12_isMove_V a_0 v_1 h)] (h) bc bs Q
  refine ex_if_eq (tgt := 20) (q := 8) dX12_tells_5 (fun c3 => ?_) (fun c3 => ?_)
  · replace w := w.1 c3
    refine ex_aload_n (q := 21) (x := a_0) dX12_tells_20 rfl ?_
    refine ex_bipush (q := 23) (v := (-2)) dX12_tells_21 (by decide) ?_
    have s4 := w.1
    replace w := w.2
    refine ex_callV (q := 26) (M := mX12_tells) (hdd := Nat.le_refl _) (mc := 0) (ms := 0) (d' := (d + 1)) (c := 12) (st := []) (bc := bc) (bs := bs) dX12_tells_23 rfl cl_X12_165 wd_1581 wd_46 s1 (X12_no_s (Q := fun r z => r = some (.int (X12_no_V a_0 (-2) h)) ∧ z = X12_no_H a_0 (-2) h) s4 ⟨rfl, rfl⟩) ?_
    intro r z hrz
    rw [hrz.1, hrz.2]
    show ex_G mX12_tells (d + 2) 26 [.ref a_0, .int v_1, .int v_2, .retAddr 0] [.int (X12_no_V a_0 (-2) h)] (X12_no_H a_0 (-2) h) bc bs Q
    refine ex_nmh (fun h5 eh5 => ?_)
    replace w := w h5 eh5
    exact ex_ireturn dX12_tells_26 rfl (Or.inl rfl) w
  · replace w := w.2 c3
    refine ex_iload_n (q := 9) (x := v_2) dX12_tells_8 rfl ?_
    refine ex_i2l (q := 10) dX12_tells_9 ?_
    refine ex_lconst (q := 11) (v := 0) dX12_tells_10 (by decide) ?_
    refine ex_ldc2_w (q := 14) (v := 5) dX12_tells_11 wd_1672 ?_
    refine ex_callS (q := 17) (M := mX12_tells) (hdd := Nat.le_refl _) (mc := 0) (ms := 0) (d' := (d + 1)) (st := []) (bc := bc) (bs := bs) dX12_tells_14 rfl cl_X12_172 wd_1596 (X12_in_s (Q := fun r z => r = some (.int (X12_in_V (Int32.toInt64 v_2) 0 5 h)) ∧ z = h) ⟨rfl, rfl⟩) ?_
    intro r z hrz
    rw [hrz.1, hrz.2]
    show ex_G mX12_tells (d + 2) 17 [.ref a_0, .int v_1, .int v_2, .retAddr 0] [.int (X12_in_V (Int32.toInt64 v_2) 0 5 h)] (h) bc bs Q
    refine ex_if_ne (tgt := 27) (q := 20) dX12_tells_17 (fun c6 => ?_) (fun c6 => ?_)
    · replace w := w.1 c6
      refine ex_aload_n (q := 28) (x := a_0) dX12_tells_27 rfl ?_
      refine ex_iconst (q := 29) (v := 0) dX12_tells_28 (by decide) ?_
      refine ex_putf (q := 32) dX12_tells_29 fl_X12_368 (Or.inl rfl) s1 (Or.inl rfl) ?_
      refine ex_nmh (fun h7 eh7 => ?_)
      replace w := w h7 eh7
      refine ex_iload_n (q := 33) (x := v_2) dX12_tells_32 rfl ?_
      refine ex_iconst (q := 34) (v := 4) dX12_tells_33 (by decide) ?_
      refine ex_icmp_ge (tgt := 52) (q := 37) dX12_tells_34 (fun c8 => ?_) (fun c8 => ?_)
      · replace w := w.1 c8
        refine ex_aload_n (q := 53) (x := a_0) dX12_tells_52 rfl ?_
        refine ex_aload_n (q := 54) (x := a_0) dX12_tells_53 rfl ?_
        obtain ⟨a9, ea9, w⟩ := w
        refine ex_getr (q := 57) dX12_tells_54 fl_X12_104 (by rw [eh7]; exact s1) ea9 ?_
        refine ex_iconst (q := 58) (v := 4) dX12_tells_57 (by decide) ?_
        refine ex_iload_n (q := 59) (x := v_1) dX12_tells_58 rfl ?_
        refine ex_imul (q := 60) dX12_tells_59 ?_
        have s10 := w.1
        replace w := w.2
        refine ex_iald (q := 61) dX12_tells_60 s10 ?_
        refine ex_callV (q := 64) (M := mX12_tells) (hdd := Nat.le_refl _) (c := 12) (st := []) (bc := bc) (bs := bs) dX12_tells_61 rfl cl_X12_374 wd_1812 wd_73 (by rw [eh7]; exact s1) w ?_
        rintro r h11 ⟨x12, rfl, w⟩
        show ex_G mX12_tells (d + 2) 64 [.ref a_0, .int v_1, .int v_2, .retAddr 0] [.int x12] h11 bc bs Q
        refine ex_istore_n (q := 65) (ls' := [.ref a_0, .int v_1, .int v_2, .int x12]) dX12_tells_64 rfl ?_
        refine ex_aload_n (q := 66) (x := a_0) dX12_tells_65 rfl ?_
        refine ex_iload_n (q := 67) (x := v_2) dX12_tells_66 rfl ?_
        refine ex_iconst (q := 68) (v := 4) dX12_tells_67 (by decide) ?_
        refine ex_icmp_ne (tgt := 75) (q := 71) dX12_tells_68 (fun c13 => ?_) (fun c13 => ?_)
        · replace w := w.1 c13
          refine ex_iload_n (q := 76) (x := x12) dX12_tells_75 rfl ?_
          refine ex_if_ne (tgt := 83) (q := 79) dX12_tells_76 (fun c14 => ?_) (fun c14 => ?_)
          · replace w := w.1 c14
            refine ex_iconst (q := 84) (v := 0) dX12_tells_83 (by decide) ?_
            have s15 := w.1
            replace w := w.2
            have s16 := w.1
            replace w := w.2
            refine ex_callV (q := 87) (M := mX12_tells) (hdd := Nat.le_refl _) (mc := 0) (ms := 0) (d' := (d + 1)) (c := 12) (st := []) (bc := bc) (bs := bs) dX12_tells_84 rfl cl_X12_180 wd_1585 wd_47 s15 (X12_well_s (Q := fun r z => r = some (.int (X12_well_V a_0 0 h11)) ∧ z = X12_well_H a_0 0 h11) s16 ⟨rfl, rfl⟩) ?_
            intro r z hrz
            rw [hrz.1, hrz.2]
            show ex_G mX12_tells (d + 2) 87 [.ref a_0, .int v_1, .int v_2, .int x12] [.int (X12_well_V a_0 0 h11)] (X12_well_H a_0 0 h11) bc bs Q
            refine ex_nmh (fun h17 eh17 => ?_)
            replace w := w h17 eh17
            exact ex_ireturn dX12_tells_87 rfl (Or.inl rfl) w
          · replace w := w.2 c14
            refine ex_iconst (q := 80) (v := 1) dX12_tells_79 (by decide) ?_
            refine ex_goto (tgt := 84) dX12_tells_80 ?_
            have s18 := w.1
            replace w := w.2
            have s19 := w.1
            replace w := w.2
            refine ex_callV (q := 87) (M := mX12_tells) (hdd := Nat.le_refl _) (mc := 0) (ms := 0) (d' := (d + 1)) (c := 12) (st := []) (bc := bc) (bs := bs) dX12_tells_84 rfl cl_X12_180 wd_1585 wd_47 s18 (X12_well_s (Q := fun r z => r = some (.int (X12_well_V a_0 1 h11)) ∧ z = X12_well_H a_0 1 h11) s19 ⟨rfl, rfl⟩) ?_
            intro r z hrz
            rw [hrz.1, hrz.2]
            show ex_G mX12_tells (d + 2) 87 [.ref a_0, .int v_1, .int v_2, .int x12] [.int (X12_well_V a_0 1 h11)] (X12_well_H a_0 1 h11) bc bs Q
            refine ex_nmh (fun h20 eh20 => ?_)
            replace w := w h20 eh20
            exact ex_ireturn dX12_tells_87 rfl (Or.inl rfl) w
        · replace w := w.2 c13
          refine ex_iload_n (q := 72) (x := x12) dX12_tells_71 rfl ?_
          refine ex_goto (tgt := 84) dX12_tells_72 ?_
          have s21 := w.1
          replace w := w.2
          have s22 := w.1
          replace w := w.2
          refine ex_callV (q := 87) (M := mX12_tells) (hdd := Nat.le_refl _) (mc := 0) (ms := 0) (d' := (d + 1)) (c := 12) (st := []) (bc := bc) (bs := bs) dX12_tells_84 rfl cl_X12_180 wd_1585 wd_47 s21 (X12_well_s (Q := fun r z => r = some (.int (X12_well_V a_0 x12 h11)) ∧ z = X12_well_H a_0 x12 h11) s22 ⟨rfl, rfl⟩) ?_
          intro r z hrz
          rw [hrz.1, hrz.2]
          show ex_G mX12_tells (d + 2) 87 [.ref a_0, .int v_1, .int v_2, .int x12] [.int (X12_well_V a_0 x12 h11)] (X12_well_H a_0 x12 h11) bc bs Q
          refine ex_nmh (fun h23 eh23 => ?_)
          replace w := w h23 eh23
          exact ex_ireturn dX12_tells_87 rfl (Or.inl rfl) w
      · replace w := w.2 c8
        refine ex_aload_n (q := 38) (x := a_0) dX12_tells_37 rfl ?_
        refine ex_aload_n (q := 39) (x := a_0) dX12_tells_38 rfl ?_
        obtain ⟨a24, ea24, w⟩ := w
        refine ex_getr (q := 42) dX12_tells_39 fl_X12_104 (by rw [eh7]; exact s1) ea24 ?_
        refine ex_iconst (q := 43) (v := 4) dX12_tells_42 (by decide) ?_
        refine ex_iload_n (q := 44) (x := v_1) dX12_tells_43 rfl ?_
        refine ex_imul (q := 45) dX12_tells_44 ?_
        refine ex_iload_n (q := 46) (x := v_2) dX12_tells_45 rfl ?_
        refine ex_iadd (q := 47) dX12_tells_46 ?_
        have s25 := w.1
        replace w := w.2
        refine ex_iald (q := 48) dX12_tells_47 s25 ?_
        have s26 := w.1
        replace w := w.2
        refine ex_callV (q := 51) (M := mX12_tells) (hdd := Nat.le_refl _) (mc := 0) (ms := 0) (d' := (d + 1)) (c := 12) (st := []) (bc := bc) (bs := bs) dX12_tells_48 rfl cl_X12_180 wd_1585 wd_47 (by rw [eh7]; exact s1) (X12_well_s (Q := fun r z => r = some (.int (X12_well_V a_0 (ah_i h7 a24 (Int32.toNatClampNeg ((4 * v_1) + v_2))) h7)) ∧ z = X12_well_H a_0 (ah_i h7 a24 (Int32.toNatClampNeg ((4 * v_1) + v_2))) h7) s26 ⟨rfl, rfl⟩) ?_
        intro r z hrz
        rw [hrz.1, hrz.2]
        show ex_G mX12_tells (d + 2) 51 [.ref a_0, .int v_1, .int v_2, .retAddr 0] [.int (X12_well_V a_0 (ah_i h7 a24 (Int32.toNatClampNeg ((4 * v_1) + v_2))) h7)] (X12_well_H a_0 (ah_i h7 a24 (Int32.toNatClampNeg ((4 * v_1) + v_2))) h7) bc bs Q
        refine ex_nmh (fun h27 eh27 => ?_)
        replace w := w h27 eh27
        exact ex_ireturn dX12_tells_51 rfl (Or.inl rfl) w
    · replace w := w.2 c6
      refine ex_aload_n (q := 21) (x := a_0) dX12_tells_20 rfl ?_
      refine ex_bipush (q := 23) (v := (-2)) dX12_tells_21 (by decide) ?_
      have s28 := w.1
      replace w := w.2
      refine ex_callV (q := 26) (M := mX12_tells) (hdd := Nat.le_refl _) (mc := 0) (ms := 0) (d' := (d + 1)) (c := 12) (st := []) (bc := bc) (bs := bs) dX12_tells_23 rfl cl_X12_165 wd_1581 wd_46 s1 (X12_no_s (Q := fun r z => r = some (.int (X12_no_V a_0 (-2) h)) ∧ z = X12_no_H a_0 (-2) h) s28 ⟨rfl, rfl⟩) ?_
      intro r z hrz
      rw [hrz.1, hrz.2]
      show ex_G mX12_tells (d + 2) 26 [.ref a_0, .int v_1, .int v_2, .retAddr 0] [.int (X12_no_V a_0 (-2) h)] (X12_no_H a_0 (-2) h) bc bs Q
      refine ex_nmh (fun h29 eh29 => ?_)
      replace w := w h29 eh29
      exact ex_ireturn dX12_tells_26 rfl (Or.inl rfl) w

theorem X12_tells_e {d bc bs : Nat} {h : AH} {Q : Option Value → AH → Prop} {a_0 : Nat} {v_1 : Int32} {v_2 : Int32} (w : ex_G mX12_tells (d + 2) 0 [.ref a_0, .int v_1, .int v_2, .retAddr 0] [] h bc bs Q) : ex_S yX12_tells mX12_tells (d + 2) [.ref a_0, .int v_1, .int v_2] h bc bs Q :=
  ex_enter (plainFor_of_name (by decide +kernel)) ⟨rfl, rfl⟩ rfl rfl (Nat.le_of_ble_eq_true rfl) (ex_pad 1 w)

set_option maxRecDepth 100000 in
theorem X12_moreOf_0 {d bc bs : Nat} {h : AH} {Q : Option Value → AH → Prop} {a_0 : Nat} {v_1 : Int32} (w : ((v_1 = 0 → ah_o h a_0 12 ∧ X12_body_C a_0 1 h ∧ ∀ h4, h4 = X12_body_H a_0 1 h → Q (some (.int 1)) h4) ∧ (v_1 = 1 → ah_o h a_0 12 ∧ X12_body_C a_0 2 h ∧ ∀ h7, h7 = X12_body_H a_0 2 h → ah_o h7 a_0 12 ∧ X12_body_C a_0 1 h7 ∧ ∀ h10, h10 = X12_body_H a_0 1 h7 → ah_o h10 a_0 12 ∧ X12_body_C a_0 1 h10 ∧ ∀ h13, h13 = X12_body_H a_0 1 h10 → Q (some (.int 2)) h13) ∧ (v_1 = 2 → ah_o h a_0 12 ∧ X12_body_C a_0 3 h ∧ ∀ h16, h16 = X12_body_H a_0 3 h → Q (some (.int 0)) h16) ∧ (v_1 = 3 → ah_o h a_0 12 ∧ X12_body_C a_0 3 h ∧ ∀ h19, h19 = X12_body_H a_0 3 h → Q (some (.int 0)) h19) ∧ (v_1 = 4 → ah_o h a_0 12 ∧ X12_body_C a_0 5 h ∧ ∀ h22, h22 = X12_body_H a_0 5 h → Q (some (.int (-1))) h22) ∧ (¬ v_1 = 0 → ¬ v_1 = 1 → ¬ v_1 = 2 → ¬ v_1 = 3 → ¬ v_1 = 4 → ah_o h a_0 12 ∧ X12_body_C a_0 6 h ∧ ∀ h25, h25 = X12_body_H a_0 6 h → Q (some (.int 0)) h25))) : ex_G mX12_moreOf (d + 1) 0 [.ref a_0, .int v_1] [] h bc bs Q := by
  refine ex_iload_n (q := 1) (x := v_1) dX12_moreOf_0 rfl ?_
  by_cases c1_0 : v_1 = 0
  · replace w := w.1 c1_0
    refine ex_tsw (tgt := 36) dX12_moreOf_1 (by rw [c1_0]; decide) ?_
    refine ex_aload_n (q := 37) (x := a_0) dX12_moreOf_36 rfl ?_
    refine ex_iconst (q := 38) (v := 1) dX12_moreOf_37 (by decide) ?_
    have s2 := w.1
    replace w := w.2
    have s3 := w.1
    replace w := w.2
    refine ex_callV (q := 41) (M := mX12_moreOf) (hdd := Nat.le_refl _) (mc := 0) (ms := 0) (d' := d) (c := 12) (st := []) (bc := bc) (bs := bs) dX12_moreOf_38 rfl cl_X12_377 wd_1816 wd_74 s2 (X12_body_s (Q := fun r z => r = none ∧ z = X12_body_H a_0 1 h) s3 ⟨rfl, rfl⟩) ?_
    intro r z hrz
    rw [hrz.1, hrz.2]
    show ex_G mX12_moreOf (d + 1) 41 [.ref a_0, .int v_1] [] (X12_body_H a_0 1 h) bc bs Q
    refine ex_nmh (fun h4 eh4 => ?_)
    replace w := w h4 eh4
    refine ex_iconst (q := 42) (v := 1) dX12_moreOf_41 (by decide) ?_
    exact ex_ireturn dX12_moreOf_42 rfl (Or.inl rfl) w
  replace w := w.2
  by_cases c1_1 : v_1 = 1
  · replace w := w.1 c1_1
    refine ex_tsw (tgt := 43) dX12_moreOf_1 (by rw [c1_1]; decide) ?_
    refine ex_aload_n (q := 44) (x := a_0) dX12_moreOf_43 rfl ?_
    refine ex_iconst (q := 45) (v := 2) dX12_moreOf_44 (by decide) ?_
    have s5 := w.1
    replace w := w.2
    have s6 := w.1
    replace w := w.2
    refine ex_callV (q := 48) (M := mX12_moreOf) (hdd := Nat.le_refl _) (mc := 0) (ms := 0) (d' := d) (c := 12) (st := []) (bc := bc) (bs := bs) dX12_moreOf_45 rfl cl_X12_377 wd_1816 wd_74 s5 (X12_body_s (Q := fun r z => r = none ∧ z = X12_body_H a_0 2 h) s6 ⟨rfl, rfl⟩) ?_
    intro r z hrz
    rw [hrz.1, hrz.2]
    show ex_G mX12_moreOf (d + 1) 48 [.ref a_0, .int v_1] [] (X12_body_H a_0 2 h) bc bs Q
    refine ex_nmh (fun h7 eh7 => ?_)
    replace w := w h7 eh7
    refine ex_aload_n (q := 49) (x := a_0) dX12_moreOf_48 rfl ?_
    refine ex_iconst (q := 50) (v := 1) dX12_moreOf_49 (by decide) ?_
    have s8 := w.1
    replace w := w.2
    have s9 := w.1
    replace w := w.2
    refine ex_callV (q := 53) (M := mX12_moreOf) (hdd := Nat.le_refl _) (mc := 0) (ms := 0) (d' := d) (c := 12) (st := []) (bc := bc) (bs := bs) dX12_moreOf_50 rfl cl_X12_377 wd_1816 wd_74 s8 (X12_body_s (Q := fun r z => r = none ∧ z = X12_body_H a_0 1 h7) s9 ⟨rfl, rfl⟩) ?_
    intro r z hrz
    rw [hrz.1, hrz.2]
    show ex_G mX12_moreOf (d + 1) 53 [.ref a_0, .int v_1] [] (X12_body_H a_0 1 h7) bc bs Q
    refine ex_nmh (fun h10 eh10 => ?_)
    replace w := w h10 eh10
    refine ex_aload_n (q := 54) (x := a_0) dX12_moreOf_53 rfl ?_
    refine ex_iconst (q := 55) (v := 1) dX12_moreOf_54 (by decide) ?_
    have s11 := w.1
    replace w := w.2
    have s12 := w.1
    replace w := w.2
    refine ex_callV (q := 58) (M := mX12_moreOf) (hdd := Nat.le_refl _) (mc := 0) (ms := 0) (d' := d) (c := 12) (st := []) (bc := bc) (bs := bs) dX12_moreOf_55 rfl cl_X12_377 wd_1816 wd_74 s11 (X12_body_s (Q := fun r z => r = none ∧ z = X12_body_H a_0 1 h10) s12 ⟨rfl, rfl⟩) ?_
    intro r z hrz
    rw [hrz.1, hrz.2]
    show ex_G mX12_moreOf (d + 1) 58 [.ref a_0, .int v_1] [] (X12_body_H a_0 1 h10) bc bs Q
    refine ex_nmh (fun h13 eh13 => ?_)
    replace w := w h13 eh13
    refine ex_iconst (q := 59) (v := 2) dX12_moreOf_58 (by decide) ?_
    exact ex_ireturn dX12_moreOf_59 rfl (Or.inl rfl) w
  replace w := w.2
  by_cases c1_2 : v_1 = 2
  · replace w := w.1 c1_2
    refine ex_tsw (tgt := 60) dX12_moreOf_1 (by rw [c1_2]; decide) ?_
    refine ex_aload_n (q := 61) (x := a_0) dX12_moreOf_60 rfl ?_
    refine ex_iconst (q := 62) (v := 3) dX12_moreOf_61 (by decide) ?_
    have s14 := w.1
    replace w := w.2
    have s15 := w.1
    replace w := w.2
    refine ex_callV (q := 65) (M := mX12_moreOf) (hdd := Nat.le_refl _) (mc := 0) (ms := 0) (d' := d) (c := 12) (st := []) (bc := bc) (bs := bs) dX12_moreOf_62 rfl cl_X12_377 wd_1816 wd_74 s14 (X12_body_s (Q := fun r z => r = none ∧ z = X12_body_H a_0 3 h) s15 ⟨rfl, rfl⟩) ?_
    intro r z hrz
    rw [hrz.1, hrz.2]
    show ex_G mX12_moreOf (d + 1) 65 [.ref a_0, .int v_1] [] (X12_body_H a_0 3 h) bc bs Q
    refine ex_nmh (fun h16 eh16 => ?_)
    replace w := w h16 eh16
    refine ex_iconst (q := 66) (v := 0) dX12_moreOf_65 (by decide) ?_
    exact ex_ireturn dX12_moreOf_66 rfl (Or.inl rfl) w
  replace w := w.2
  by_cases c1_3 : v_1 = 3
  · replace w := w.1 c1_3
    refine ex_tsw (tgt := 60) dX12_moreOf_1 (by rw [c1_3]; decide) ?_
    refine ex_aload_n (q := 61) (x := a_0) dX12_moreOf_60 rfl ?_
    refine ex_iconst (q := 62) (v := 3) dX12_moreOf_61 (by decide) ?_
    have s17 := w.1
    replace w := w.2
    have s18 := w.1
    replace w := w.2
    refine ex_callV (q := 65) (M := mX12_moreOf) (hdd := Nat.le_refl _) (mc := 0) (ms := 0) (d' := d) (c := 12) (st := []) (bc := bc) (bs := bs) dX12_moreOf_62 rfl cl_X12_377 wd_1816 wd_74 s17 (X12_body_s (Q := fun r z => r = none ∧ z = X12_body_H a_0 3 h) s18 ⟨rfl, rfl⟩) ?_
    intro r z hrz
    rw [hrz.1, hrz.2]
    show ex_G mX12_moreOf (d + 1) 65 [.ref a_0, .int v_1] [] (X12_body_H a_0 3 h) bc bs Q
    refine ex_nmh (fun h19 eh19 => ?_)
    replace w := w h19 eh19
    refine ex_iconst (q := 66) (v := 0) dX12_moreOf_65 (by decide) ?_
    exact ex_ireturn dX12_moreOf_66 rfl (Or.inl rfl) w
  replace w := w.2
  by_cases c1_4 : v_1 = 4
  · replace w := w.1 c1_4
    refine ex_tsw (tgt := 67) dX12_moreOf_1 (by rw [c1_4]; decide) ?_
    refine ex_aload_n (q := 68) (x := a_0) dX12_moreOf_67 rfl ?_
    refine ex_iconst (q := 69) (v := 5) dX12_moreOf_68 (by decide) ?_
    have s20 := w.1
    replace w := w.2
    have s21 := w.1
    replace w := w.2
    refine ex_callV (q := 72) (M := mX12_moreOf) (hdd := Nat.le_refl _) (mc := 0) (ms := 0) (d' := d) (c := 12) (st := []) (bc := bc) (bs := bs) dX12_moreOf_69 rfl cl_X12_377 wd_1816 wd_74 s20 (X12_body_s (Q := fun r z => r = none ∧ z = X12_body_H a_0 5 h) s21 ⟨rfl, rfl⟩) ?_
    intro r z hrz
    rw [hrz.1, hrz.2]
    show ex_G mX12_moreOf (d + 1) 72 [.ref a_0, .int v_1] [] (X12_body_H a_0 5 h) bc bs Q
    refine ex_nmh (fun h22 eh22 => ?_)
    replace w := w h22 eh22
    refine ex_iconst (q := 73) (v := (-1)) dX12_moreOf_72 (by decide) ?_
    exact ex_ireturn dX12_moreOf_73 rfl (Or.inl rfl) w
  replace w := w.2
  replace w := w c1_0 c1_1 c1_2 c1_3 c1_4
  have hsw : v_1.toInt < 0 ∨ 4 < v_1.toInt := by
    have := i32_ne c1_0 (a := 0) (by decide)
    have := i32_ne c1_1 (a := 1) (by decide)
    have := i32_ne c1_2 (a := 2) (by decide)
    have := i32_ne c1_3 (a := 3) (by decide)
    have := i32_ne c1_4 (a := 4) (by decide)
    omega
  have hsq : sw_t 73 0 4 [35, 42, 59, 59, 66] v_1.toInt = 73 := by
    rcases hsw with z | z
    · unfold sw_t; rw [if_pos (Or.inl z)]
    · unfold sw_t; rw [if_pos (Or.inr z)]
  refine ex_tsw (tgt := 74) dX12_moreOf_1 (show ((1 : Nat) : Int) + sw_t 73 0 4 [35, 42, 59, 59, 66] v_1.toInt = ((74 : Nat) : Int) by rw [hsq]; decide) ?_
  refine ex_aload_n (q := 75) (x := a_0) dX12_moreOf_74 rfl ?_
  refine ex_bipush (q := 77) (v := 6) dX12_moreOf_75 (by decide) ?_
  have s23 := w.1
  replace w := w.2
  have s24 := w.1
  replace w := w.2
  refine ex_callV (q := 80) (M := mX12_moreOf) (hdd := Nat.le_refl _) (mc := 0) (ms := 0) (d' := d) (c := 12) (st := []) (bc := bc) (bs := bs) dX12_moreOf_77 rfl cl_X12_377 wd_1816 wd_74 s23 (X12_body_s (Q := fun r z => r = none ∧ z = X12_body_H a_0 6 h) s24 ⟨rfl, rfl⟩) ?_
  intro r z hrz
  rw [hrz.1, hrz.2]
  show ex_G mX12_moreOf (d + 1) 80 [.ref a_0, .int v_1] [] (X12_body_H a_0 6 h) bc bs Q
  refine ex_nmh (fun h25 eh25 => ?_)
  replace w := w h25 eh25
  refine ex_iconst (q := 81) (v := 0) dX12_moreOf_80 (by decide) ?_
  exact ex_ireturn dX12_moreOf_81 rfl (Or.inl rfl) w

theorem X12_moreOf_e {d bc bs : Nat} {h : AH} {Q : Option Value → AH → Prop} {a_0 : Nat} {v_1 : Int32} (w : ex_G mX12_moreOf (d + 1) 0 [.ref a_0, .int v_1] [] h bc bs Q) : ex_S yX12_moreOf mX12_moreOf (d + 1) [.ref a_0, .int v_1] h bc bs Q :=
  ex_enter (plainFor_of_name (by decide +kernel)) ⟨rfl, rfl⟩ rfl rfl (Nat.le_of_ble_eq_true rfl) (ex_pad 0 w)

set_option maxRecDepth 100000 in
theorem X12_as_0 {d bc bs : Nat} {h : AH} {Q : Option Value → AH → Prop} {a_0 : Nat} {v_1 : Int32} {v_2 : Int32} (w : ah_o h a_0 12 ∧ X12_isMove_C a_0 v_1 h ∧ (((X12_isMove_V a_0 v_1 h) = 0 → X12_no_C a_0 (-2) h ∧ ∀ h5, h5 = X12_no_H a_0 (-2) h → Q (some (.int (X12_no_V a_0 (-2) h))) h5) ∧ (¬ (X12_isMove_V a_0 v_1 h) = 0 → ((¬ (X12_in_V (Int32.toInt64 v_2) 0 5 h) = 0 → ∃ a7, ah_r h a_0 36 = some a7 ∧ ld0 h a7 (4 * v_1) ∧ ∀ x9, x9 = ah_i h a7 (Int32.toNatClampNeg (4 * v_1)) → ((x9 = v_2 → ex_G mX12_as (d + 2) 55 [.ref a_0, .retAddr 0, .retAddr 0, .retAddr 0, .retAddr 0] [] h bc bs Q) ∧ (¬ x9 = v_2 → ((¬ (im_ x9 2) = 1 → ex_G mX12_as (d + 2) 59 [.ref a_0, .retAddr 0, .retAddr 0, .retAddr 0, .retAddr 0] [] h bc bs Q) ∧ ((im_ x9 2) = 1 → ((¬ v_2 = (x9 - 1) → ex_G mX12_as (d + 2) 59 [.ref a_0, .retAddr 0, .retAddr 0, .retAddr 0, .retAddr 0] [] h bc bs Q) ∧ (v_2 = (x9 - 1) → ex_G mX12_as (d + 2) 55 [.ref a_0, .retAddr 0, .retAddr 0, .retAddr 0, .retAddr 0] [] h bc bs Q))))))) ∧ ((X12_in_V (Int32.toInt64 v_2) 0 5 h) = 0 → X12_no_C a_0 (-2) h ∧ ∀ h14, h14 = X12_no_H a_0 (-2) h → Q (some (.int (X12_no_V a_0 (-2) h))) h14))))) : ex_G mX12_as (d + 2) 0 [.ref a_0, .int v_1, .int v_2, .retAddr 0, .retAddr 0] [] h bc bs Q := by
  refine ex_aload_n (q := 1) (x := a_0) dX12_as_0 rfl ?_
  refine ex_iload_n (q := 2) (x := v_1) dX12_as_1 rfl ?_
  have s1 := w.1
  replace w := w.2
  have s2 := w.1
  replace w := w.2
  refine ex_callV (q := 5) (M := mX12_as) (hdd := Nat.le_refl _) (mc := 0) (ms := 0) (d' := (d + 1)) (c := 12) (st := []) (bc := bc) (bs := bs) dX12_as_2 rfl cl_X12_371 wd_1808 wd_72 s1 (X12_isMove_s (Q := fun r z => r = some (.int (X12_isMove_V a_0 v_1 h)) ∧ z = h) s2 ⟨rfl, rfl⟩) ?_
  intro r z hrz
  rw [hrz.1, hrz.2]
  show ex_G mX12_as (d + 2) 5 [.ref a_0, .int v_1, .int v_2, .retAddr 0, .retAddr 0] [.int (X12_isMove_V a_0 v_1 h)] (h) bc bs Q
  refine ex_if_eq (tgt := 20) (q := 8) dX12_as_5 (fun c3 => ?_) (fun c3 => ?_)
  · replace w := w.1 c3
    refine ex_aload_n (q := 21) (x := a_0) dX12_as_20 rfl ?_
    refine ex_bipush (q := 23) (v := (-2)) dX12_as_21 (by decide) ?_
    have s4 := w.1
    replace w := w.2
    refine ex_callV (q := 26) (M := mX12_as) (hdd := Nat.le_refl _) (mc := 0) (ms := 0) (d' := (d + 1)) (c := 12) (st := []) (bc := bc) (bs := bs) dX12_as_23 rfl cl_X12_165 wd_1581 wd_46 s1 (X12_no_s (Q := fun r z => r = some (.int (X12_no_V a_0 (-2) h)) ∧ z = X12_no_H a_0 (-2) h) s4 ⟨rfl, rfl⟩) ?_
    intro r z hrz
    rw [hrz.1, hrz.2]
    show ex_G mX12_as (d + 2) 26 [.ref a_0, .int v_1, .int v_2, .retAddr 0, .retAddr 0] [.int (X12_no_V a_0 (-2) h)] (X12_no_H a_0 (-2) h) bc bs Q
    refine ex_nmh (fun h5 eh5 => ?_)
    replace w := w h5 eh5
    exact ex_ireturn dX12_as_26 rfl (Or.inl rfl) w
  · replace w := w.2 c3
    refine ex_iload_n (q := 9) (x := v_2) dX12_as_8 rfl ?_
    refine ex_i2l (q := 10) dX12_as_9 ?_
    refine ex_lconst (q := 11) (v := 0) dX12_as_10 (by decide) ?_
    refine ex_ldc2_w (q := 14) (v := 5) dX12_as_11 wd_1672 ?_
    refine ex_callS (q := 17) (M := mX12_as) (hdd := Nat.le_refl _) (mc := 0) (ms := 0) (d' := (d + 1)) (st := []) (bc := bc) (bs := bs) dX12_as_14 rfl cl_X12_172 wd_1596 (X12_in_s (Q := fun r z => r = some (.int (X12_in_V (Int32.toInt64 v_2) 0 5 h)) ∧ z = h) ⟨rfl, rfl⟩) ?_
    intro r z hrz
    rw [hrz.1, hrz.2]
    show ex_G mX12_as (d + 2) 17 [.ref a_0, .int v_1, .int v_2, .retAddr 0, .retAddr 0] [.int (X12_in_V (Int32.toInt64 v_2) 0 5 h)] (h) bc bs Q
    refine ex_if_ne (tgt := 27) (q := 20) dX12_as_17 (fun c6 => ?_) (fun c6 => ?_)
    · replace w := w.1 c6
      refine ex_aload_n (q := 28) (x := a_0) dX12_as_27 rfl ?_
      obtain ⟨a7, ea7, w⟩ := w
      refine ex_getr (q := 31) dX12_as_28 fl_X12_104 s1 ea7 ?_
      refine ex_iconst (q := 32) (v := 4) dX12_as_31 (by decide) ?_
      refine ex_iload_n (q := 33) (x := v_1) dX12_as_32 rfl ?_
      refine ex_imul (q := 34) dX12_as_33 ?_
      have s8 := w.1
      replace w := w.2
      refine ex_iald (q := 35) dX12_as_34 s8 ?_
      refine ex_nmi (fun x9 ex9 => ?_)
      replace w := w x9 ex9
      refine ex_istore_n (q := 36) (ls' := [.ref a_0, .int v_1, .int v_2, .int x9, .retAddr 0]) dX12_as_35 rfl ?_
      refine ex_iload_n (q := 37) (x := x9) dX12_as_36 rfl ?_
      refine ex_iload_n (q := 38) (x := v_2) dX12_as_37 rfl ?_
      refine ex_icmp_eq (tgt := 55) (q := 41) dX12_as_38 (fun c10 => ?_) (fun c10 => ?_)
      · replace w := w.1 c10
        refine ex_kill 1 (ls' := [.ref a_0, .retAddr 0, .int v_2, .int x9, .retAddr 0]) rfl ?_
        refine ex_kill 2 (ls' := [.ref a_0, .retAddr 0, .retAddr 0, .int x9, .retAddr 0]) rfl ?_
        refine ex_kill 3 (ls' := [.ref a_0, .retAddr 0, .retAddr 0, .retAddr 0, .retAddr 0]) rfl ?_
        exact w
      · replace w := w.2 c10
        refine ex_iload_n (q := 42) (x := x9) dX12_as_41 rfl ?_
        refine ex_iconst (q := 43) (v := 2) dX12_as_42 (by decide) ?_
        refine ex_irem (q := 44) dX12_as_43 (by decide) ?_
        refine ex_iconst (q := 45) (v := 1) dX12_as_44 (by decide) ?_
        refine ex_icmp_ne (tgt := 59) (q := 48) dX12_as_45 (fun c11 => ?_) (fun c11 => ?_)
        · replace w := w.1 c11
          refine ex_kill 1 (ls' := [.ref a_0, .retAddr 0, .int v_2, .int x9, .retAddr 0]) rfl ?_
          refine ex_kill 2 (ls' := [.ref a_0, .retAddr 0, .retAddr 0, .int x9, .retAddr 0]) rfl ?_
          refine ex_kill 3 (ls' := [.ref a_0, .retAddr 0, .retAddr 0, .retAddr 0, .retAddr 0]) rfl ?_
          exact w
        · replace w := w.2 c11
          refine ex_iload_n (q := 49) (x := v_2) dX12_as_48 rfl ?_
          refine ex_iload_n (q := 50) (x := x9) dX12_as_49 rfl ?_
          refine ex_iconst (q := 51) (v := 1) dX12_as_50 (by decide) ?_
          refine ex_isub (q := 52) dX12_as_51 ?_
          refine ex_icmp_ne (tgt := 59) (q := 55) dX12_as_52 (fun c12 => ?_) (fun c12 => ?_)
          · replace w := w.1 c12
            refine ex_kill 1 (ls' := [.ref a_0, .retAddr 0, .int v_2, .int x9, .retAddr 0]) rfl ?_
            refine ex_kill 2 (ls' := [.ref a_0, .retAddr 0, .retAddr 0, .int x9, .retAddr 0]) rfl ?_
            refine ex_kill 3 (ls' := [.ref a_0, .retAddr 0, .retAddr 0, .retAddr 0, .retAddr 0]) rfl ?_
            exact w
          · replace w := w.2 c12
            refine ex_kill 1 (ls' := [.ref a_0, .retAddr 0, .int v_2, .int x9, .retAddr 0]) rfl ?_
            refine ex_kill 2 (ls' := [.ref a_0, .retAddr 0, .retAddr 0, .int x9, .retAddr 0]) rfl ?_
            refine ex_kill 3 (ls' := [.ref a_0, .retAddr 0, .retAddr 0, .retAddr 0, .retAddr 0]) rfl ?_
            exact w
    · replace w := w.2 c6
      refine ex_aload_n (q := 21) (x := a_0) dX12_as_20 rfl ?_
      refine ex_bipush (q := 23) (v := (-2)) dX12_as_21 (by decide) ?_
      have s13 := w.1
      replace w := w.2
      refine ex_callV (q := 26) (M := mX12_as) (hdd := Nat.le_refl _) (mc := 0) (ms := 0) (d' := (d + 1)) (c := 12) (st := []) (bc := bc) (bs := bs) dX12_as_23 rfl cl_X12_165 wd_1581 wd_46 s1 (X12_no_s (Q := fun r z => r = some (.int (X12_no_V a_0 (-2) h)) ∧ z = X12_no_H a_0 (-2) h) s13 ⟨rfl, rfl⟩) ?_
      intro r z hrz
      rw [hrz.1, hrz.2]
      show ex_G mX12_as (d + 2) 26 [.ref a_0, .int v_1, .int v_2, .retAddr 0, .retAddr 0] [.int (X12_no_V a_0 (-2) h)] (X12_no_H a_0 (-2) h) bc bs Q
      refine ex_nmh (fun h14 eh14 => ?_)
      replace w := w h14 eh14
      exact ex_ireturn dX12_as_26 rfl (Or.inl rfl) w

set_option maxRecDepth 100000 in
theorem X12_as_55 {d bc bs : Nat} {h : AH} {Q : Option Value → AH → Prop} {a_0 : Nat} (w : ex_G mX12_as (d + 2) 60 [.ref a_0, .retAddr 0, .retAddr 0, .retAddr 0, .retAddr 0] [.int 1] h bc bs Q) : ex_G mX12_as (d + 2) 55 [.ref a_0, .retAddr 0, .retAddr 0, .retAddr 0, .retAddr 0] [] h bc bs Q := by
  refine ex_iconst (q := 56) (v := 1) dX12_as_55 (by decide) ?_
  refine ex_goto (tgt := 60) dX12_as_56 ?_
  exact w

set_option maxRecDepth 100000 in
theorem X12_as_59 {d bc bs : Nat} {h : AH} {Q : Option Value → AH → Prop} {a_0 : Nat} (w : ex_G mX12_as (d + 2) 60 [.ref a_0, .retAddr 0, .retAddr 0, .retAddr 0, .retAddr 0] [.int 0] h bc bs Q) : ex_G mX12_as (d + 2) 59 [.ref a_0, .retAddr 0, .retAddr 0, .retAddr 0, .retAddr 0] [] h bc bs Q := by
  refine ex_iconst (q := 60) (v := 0) dX12_as_59 (by decide) ?_
  exact w

set_option maxRecDepth 100000 in
theorem X12_as_60 {d bc bs : Nat} {h : AH} {Q : Option Value → AH → Prop} {a_0 : Nat} {u_0 : Int32} (w : ((u_0 = 0 → ah_o h a_0 12 ∧ X12_meets_C a_0 4 h ∧ ∀ h4, h4 = X12_meets_H a_0 4 h → Q (some (.int (X12_meets_V a_0 4 h))) h4) ∧ (¬ u_0 = 0 → ah_o h a_0 12 ∧ X12_well_C a_0 1 h ∧ ∀ h7, h7 = X12_well_H a_0 1 h → Q (some (.int (X12_well_V a_0 1 h))) h7))) : ex_G mX12_as (d + 2) 60 [.ref a_0, .retAddr 0, .retAddr 0, .retAddr 0, .retAddr 0] [.int u_0] h bc bs Q := by
  refine ex_istore (q := 62) (ls' := [.ref a_0, .retAddr 0, .retAddr 0, .retAddr 0, .int u_0]) dX12_as_60 rfl ?_
  refine ex_iload (q := 64) (x := u_0) dX12_as_62 rfl ?_
  refine ex_if_eq (tgt := 75) (q := 67) dX12_as_64 (fun c1 => ?_) (fun c1 => ?_)
  · replace w := w.1 c1
    refine ex_aload_n (q := 76) (x := a_0) dX12_as_75 rfl ?_
    refine ex_iconst (q := 77) (v := 4) dX12_as_76 (by decide) ?_
    have s2 := w.1
    replace w := w.2
    have s3 := w.1
    replace w := w.2
    refine ex_callV (q := 80) (M := mX12_as) (hdd := Nat.le_refl _) (mc := 0) (ms := 0) (d' := (d + 1)) (c := 12) (st := []) (bc := bc) (bs := bs) dX12_as_77 rfl cl_X12_200 wd_1614 wd_50 s2 (X12_meets_s (Q := fun r z => r = some (.int (X12_meets_V a_0 4 h)) ∧ z = X12_meets_H a_0 4 h) s3 ⟨rfl, rfl⟩) ?_
    intro r z hrz
    rw [hrz.1, hrz.2]
    show ex_G mX12_as (d + 2) 80 [.ref a_0, .retAddr 0, .retAddr 0, .retAddr 0, .int u_0] [.int (X12_meets_V a_0 4 h)] (X12_meets_H a_0 4 h) bc bs Q
    refine ex_nmh (fun h4 eh4 => ?_)
    replace w := w h4 eh4
    exact ex_ireturn dX12_as_80 rfl (Or.inl rfl) w
  · replace w := w.2 c1
    refine ex_aload_n (q := 68) (x := a_0) dX12_as_67 rfl ?_
    refine ex_iconst (q := 69) (v := 1) dX12_as_68 (by decide) ?_
    have s5 := w.1
    replace w := w.2
    have s6 := w.1
    replace w := w.2
    refine ex_callV (q := 72) (M := mX12_as) (hdd := Nat.le_refl _) (mc := 0) (ms := 0) (d' := (d + 1)) (c := 12) (st := []) (bc := bc) (bs := bs) dX12_as_69 rfl cl_X12_180 wd_1585 wd_47 s5 (X12_well_s (Q := fun r z => r = some (.int (X12_well_V a_0 1 h)) ∧ z = X12_well_H a_0 1 h) s6 ⟨rfl, rfl⟩) ?_
    intro r z hrz
    rw [hrz.1, hrz.2]
    show ex_G mX12_as (d + 2) 72 [.ref a_0, .retAddr 0, .retAddr 0, .retAddr 0, .int u_0] [.int (X12_well_V a_0 1 h)] (X12_well_H a_0 1 h) bc bs Q
    refine ex_nmh (fun h7 eh7 => ?_)
    replace w := w h7 eh7
    refine ex_goto (tgt := 80) dX12_as_72 ?_
    exact ex_ireturn dX12_as_80 rfl (Or.inl rfl) w

theorem X12_as_e {d bc bs : Nat} {h : AH} {Q : Option Value → AH → Prop} {a_0 : Nat} {v_1 : Int32} {v_2 : Int32} (w : ex_G mX12_as (d + 2) 0 [.ref a_0, .int v_1, .int v_2, .retAddr 0, .retAddr 0] [] h bc bs Q) : ex_S yX12_as mX12_as (d + 2) [.ref a_0, .int v_1, .int v_2] h bc bs Q :=
  ex_enter (plainFor_of_name (by decide +kernel)) ⟨rfl, rfl⟩ rfl rfl (Nat.le_of_ble_eq_true rfl) (ex_pad 2 w)

set_option maxRecDepth 100000 in
theorem X12_tried_0 {d bc bs : Nat} {h : AH} {Q : Option Value → AH → Prop} {a_0 : Nat} {v_1 : Int32} {v_2 : Int32} {v_3 : Int32} (w : ah_o h a_0 12 ∧ X12_isPicture_C a_0 v_1 h ∧ (((X12_isPicture_V a_0 v_1 h) = 0 → X12_no_C a_0 (-2) h ∧ ∀ h5, h5 = X12_no_H a_0 (-2) h → Q (some (.int (X12_no_V a_0 (-2) h))) h5) ∧ (¬ (X12_isPicture_V a_0 v_1 h) = 0 → X12_isMove_C a_0 v_2 h ∧ ((¬ (X12_isMove_V a_0 v_2 h) = 0 → ∃ a8, ah_r h a_0 36 = some a8 ∧ ld0 h a8 (4 * v_2) ∧ ∀ x10, x10 = ah_i h a8 (Int32.toNatClampNeg (4 * v_2)) → ((v_3 = 0 → ex_G mX12_tried (d + 5) 49 [.ref a_0, .int v_1, .int v_2, .int v_3, .int x10, .retAddr 0, .retAddr 0] [] h bc bs Q) ∧ (¬ v_3 = 0 → ((¬ x10 = 4 → ex_G mX12_tried (d + 5) 49 [.ref a_0, .int v_1, .int v_2, .int v_3, .int x10, .retAddr 0, .retAddr 0] [] h bc bs Q) ∧ (x10 = 4 → X12_meets_C a_0 4 h ∧ ∀ h14, h14 = X12_meets_H a_0 4 h → Q (some (.int (X12_meets_V a_0 4 h))) h14))))) ∧ ((X12_isMove_V a_0 v_2 h) = 0 → X12_no_C a_0 (-2) h ∧ ∀ h16, h16 = X12_no_H a_0 (-2) h → Q (some (.int (X12_no_V a_0 (-2) h))) h16))))) : ex_G mX12_tried (d + 5) 0 [.ref a_0, .int v_1, .int v_2, .int v_3, .retAddr 0, .retAddr 0, .retAddr 0] [] h bc bs Q := by
  refine ex_aload_n (q := 1) (x := a_0) dX12_tried_0 rfl ?_
  refine ex_iload_n (q := 2) (x := v_1) dX12_tried_1 rfl ?_
  have s1 := w.1
  replace w := w.2
  have s2 := w.1
  replace w := w.2
  refine ex_callV (q := 5) (M := mX12_tried) (hdd := Nat.le_refl _) (mc := 0) (ms := 0) (d' := (d + 4)) (c := 12) (st := []) (bc := bc) (bs := bs) dX12_tried_2 rfl cl_X12_187 wd_1593 wd_48 s1 (X12_isPicture_s (Q := fun r z => r = some (.int (X12_isPicture_V a_0 v_1 h)) ∧ z = h) s2 ⟨rfl, rfl⟩) ?_
  intro r z hrz
  rw [hrz.1, hrz.2]
  show ex_G mX12_tried (d + 5) 5 [.ref a_0, .int v_1, .int v_2, .int v_3, .retAddr 0, .retAddr 0, .retAddr 0] [.int (X12_isPicture_V a_0 v_1 h)] (h) bc bs Q
  refine ex_if_eq (tgt := 16) (q := 8) dX12_tried_5 (fun c3 => ?_) (fun c3 => ?_)
  · replace w := w.1 c3
    refine ex_aload_n (q := 17) (x := a_0) dX12_tried_16 rfl ?_
    refine ex_bipush (q := 19) (v := (-2)) dX12_tried_17 (by decide) ?_
    have s4 := w.1
    replace w := w.2
    refine ex_callV (q := 22) (M := mX12_tried) (hdd := Nat.le_refl _) (mc := 0) (ms := 0) (d' := (d + 4)) (c := 12) (st := []) (bc := bc) (bs := bs) dX12_tried_19 rfl cl_X12_165 wd_1581 wd_46 s1 (X12_no_s (Q := fun r z => r = some (.int (X12_no_V a_0 (-2) h)) ∧ z = X12_no_H a_0 (-2) h) s4 ⟨rfl, rfl⟩) ?_
    intro r z hrz
    rw [hrz.1, hrz.2]
    show ex_G mX12_tried (d + 5) 22 [.ref a_0, .int v_1, .int v_2, .int v_3, .retAddr 0, .retAddr 0, .retAddr 0] [.int (X12_no_V a_0 (-2) h)] (X12_no_H a_0 (-2) h) bc bs Q
    refine ex_nmh (fun h5 eh5 => ?_)
    replace w := w h5 eh5
    exact ex_ireturn dX12_tried_22 rfl (Or.inl rfl) w
  · replace w := w.2 c3
    refine ex_aload_n (q := 9) (x := a_0) dX12_tried_8 rfl ?_
    refine ex_iload_n (q := 10) (x := v_2) dX12_tried_9 rfl ?_
    have s6 := w.1
    replace w := w.2
    refine ex_callV (q := 13) (M := mX12_tried) (hdd := Nat.le_refl _) (mc := 0) (ms := 0) (d' := (d + 4)) (c := 12) (st := []) (bc := bc) (bs := bs) dX12_tried_10 rfl cl_X12_371 wd_1808 wd_72 s1 (X12_isMove_s (Q := fun r z => r = some (.int (X12_isMove_V a_0 v_2 h)) ∧ z = h) s6 ⟨rfl, rfl⟩) ?_
    intro r z hrz
    rw [hrz.1, hrz.2]
    show ex_G mX12_tried (d + 5) 13 [.ref a_0, .int v_1, .int v_2, .int v_3, .retAddr 0, .retAddr 0, .retAddr 0] [.int (X12_isMove_V a_0 v_2 h)] (h) bc bs Q
    refine ex_if_ne (tgt := 23) (q := 16) dX12_tried_13 (fun c7 => ?_) (fun c7 => ?_)
    · replace w := w.1 c7
      refine ex_aload_n (q := 24) (x := a_0) dX12_tried_23 rfl ?_
      obtain ⟨a8, ea8, w⟩ := w
      refine ex_getr (q := 27) dX12_tried_24 fl_X12_104 s1 ea8 ?_
      refine ex_iconst (q := 28) (v := 4) dX12_tried_27 (by decide) ?_
      refine ex_iload_n (q := 29) (x := v_2) dX12_tried_28 rfl ?_
      refine ex_imul (q := 30) dX12_tried_29 ?_
      have s9 := w.1
      replace w := w.2
      refine ex_iald (q := 31) dX12_tried_30 s9 ?_
      refine ex_nmi (fun x10 ex10 => ?_)
      replace w := w x10 ex10
      refine ex_istore (q := 33) (ls' := [.ref a_0, .int v_1, .int v_2, .int v_3, .int x10, .retAddr 0, .retAddr 0]) dX12_tried_31 rfl ?_
      refine ex_iload_n (q := 34) (x := v_3) dX12_tried_33 rfl ?_
      refine ex_if_eq (tgt := 49) (q := 37) dX12_tried_34 (fun c11 => ?_) (fun c11 => ?_)
      · replace w := w.1 c11
        exact w
      · replace w := w.2 c11
        refine ex_iload (q := 39) (x := x10) dX12_tried_37 rfl ?_
        refine ex_iconst (q := 40) (v := 4) dX12_tried_39 (by decide) ?_
        refine ex_icmp_ne (tgt := 49) (q := 43) dX12_tried_40 (fun c12 => ?_) (fun c12 => ?_)
        · replace w := w.1 c12
          exact w
        · replace w := w.2 c12
          refine ex_aload_n (q := 44) (x := a_0) dX12_tried_43 rfl ?_
          refine ex_iconst (q := 45) (v := 4) dX12_tried_44 (by decide) ?_
          have s13 := w.1
          replace w := w.2
          refine ex_callV (q := 48) (M := mX12_tried) (hdd := Nat.le_refl _) (mc := 0) (ms := 0) (d' := (d + 4)) (c := 12) (st := []) (bc := bc) (bs := bs) dX12_tried_45 rfl cl_X12_200 wd_1614 wd_50 s1 (X12_meets_s (Q := fun r z => r = some (.int (X12_meets_V a_0 4 h)) ∧ z = X12_meets_H a_0 4 h) s13 ⟨rfl, rfl⟩) ?_
          intro r z hrz
          rw [hrz.1, hrz.2]
          show ex_G mX12_tried (d + 5) 48 [.ref a_0, .int v_1, .int v_2, .int v_3, .int x10, .retAddr 0, .retAddr 0] [.int (X12_meets_V a_0 4 h)] (X12_meets_H a_0 4 h) bc bs Q
          refine ex_nmh (fun h14 eh14 => ?_)
          replace w := w h14 eh14
          exact ex_ireturn dX12_tried_48 rfl (Or.inl rfl) w
    · replace w := w.2 c7
      refine ex_aload_n (q := 17) (x := a_0) dX12_tried_16 rfl ?_
      refine ex_bipush (q := 19) (v := (-2)) dX12_tried_17 (by decide) ?_
      have s15 := w.1
      replace w := w.2
      refine ex_callV (q := 22) (M := mX12_tried) (hdd := Nat.le_refl _) (mc := 0) (ms := 0) (d' := (d + 4)) (c := 12) (st := []) (bc := bc) (bs := bs) dX12_tried_19 rfl cl_X12_165 wd_1581 wd_46 s1 (X12_no_s (Q := fun r z => r = some (.int (X12_no_V a_0 (-2) h)) ∧ z = X12_no_H a_0 (-2) h) s15 ⟨rfl, rfl⟩) ?_
      intro r z hrz
      rw [hrz.1, hrz.2]
      show ex_G mX12_tried (d + 5) 22 [.ref a_0, .int v_1, .int v_2, .int v_3, .retAddr 0, .retAddr 0, .retAddr 0] [.int (X12_no_V a_0 (-2) h)] (X12_no_H a_0 (-2) h) bc bs Q
      refine ex_nmh (fun h16 eh16 => ?_)
      replace w := w h16 eh16
      exact ex_ireturn dX12_tried_22 rfl (Or.inl rfl) w

set_option maxRecDepth 100000 in
theorem X12_tried_49 {d bc bs : Nat} {h : AH} {Q : Option Value → AH → Prop} {a_0 : Nat} {v_1 : Int32} {v_2 : Int32} {v_3 : Int32} {v_4 : Int32} (w : ah_o h a_0 12 ∧ ex_S yX12_refusal mX12_refusal (d + 4) [.ref a_0, .int v_1] h 0 0 (fun r h1 => ∃ x3, r = some (.int x3) ∧ ((0 ≤ x3 → ah_o h1 a_0 12 ∧ ex_S yX12_copySlot mX12_copySlot (d + 4) [.ref a_0, .int v_1, .int 364] h1 0 0 (fun r h5 => r = none ∧ ((v_3 = 0 → ah_o h5 a_0 12 ∧ ∃ a9, ah_r h5 a_0 36 = some a9 ∧ ld0 h5 a9 ((4 * v_2) + 1) ∧ ld0 h5 a9 ((4 * v_2) + 2) ∧ ld0 h5 a9 ((4 * v_2) + 3) ∧ ex_S yX12_moved mX12_moved (d + 4) [.ref a_0, .int v_4, .int (ah_i h5 a9 (Int32.toNatClampNeg ((4 * v_2) + 1))), .int (ah_i h5 a9 (Int32.toNatClampNeg ((4 * v_2) + 2))), .int (ah_i h5 a9 (Int32.toNatClampNeg ((4 * v_2) + 3)))] h5 0 0 (fun r h13 => ∃ x14, r = some (.int x14) ∧ ex_G mX12_tried (d + 5) 141 [.ref a_0, .retAddr 0, .retAddr 0, .retAddr 0, .retAddr 0, .retAddr 0, .retAddr 0] [.int x14] h13 bc bs Q)) ∧ (¬ v_3 = 0 → ah_o h5 a_0 12 ∧ ∃ a16, ah_r h5 a_0 36 = some a16 ∧ ld0 h5 a16 ((4 * v_2) + 1) ∧ ld0 h5 a16 ((4 * v_2) + 2) ∧ ex_S yX12_unmoved mX12_unmoved (d + 4) [.ref a_0, .int v_4, .int (ah_i h5 a16 (Int32.toNatClampNeg ((4 * v_2) + 1))), .int (ah_i h5 a16 (Int32.toNatClampNeg ((4 * v_2) + 2)))] h5 0 0 (fun r h19 => ∃ x20, r = some (.int x20) ∧ ex_G mX12_tried (d + 5) 141 [.ref a_0, .retAddr 0, .retAddr 0, .retAddr 0, .retAddr 0, .retAddr 0, .retAddr 0] [.int x20] h19 bc bs Q))))) ∧ (¬ 0 ≤ x3 → Q (some (.int x3)) h1)))) : ex_G mX12_tried (d + 5) 49 [.ref a_0, .int v_1, .int v_2, .int v_3, .int v_4, .retAddr 0, .retAddr 0] [] h bc bs Q := by
  refine ex_aload_n (q := 50) (x := a_0) dX12_tried_49 rfl ?_
  refine ex_iload_n (q := 51) (x := v_1) dX12_tried_50 rfl ?_
  have s2 := w.1
  replace w := w.2
  refine ex_callV (q := 54) (M := mX12_tried) (hdd := Nat.le_refl _) (c := 12) (st := []) (bc := bc) (bs := bs) dX12_tried_51 rfl cl_X12_237 wd_1675 wd_57 s2 w ?_
  rintro r h1 ⟨x3, rfl, w⟩
  show ex_G mX12_tried (d + 5) 54 [.ref a_0, .int v_1, .int v_2, .int v_3, .int v_4, .retAddr 0, .retAddr 0] [.int x3] h1 bc bs Q
  refine ex_istore (q := 56) (ls' := [.ref a_0, .int v_1, .int v_2, .int v_3, .int v_4, .int x3, .retAddr 0]) dX12_tried_54 rfl ?_
  refine ex_iload (q := 58) (x := x3) dX12_tried_56 rfl ?_
  refine ex_if_ge (tgt := 64) (q := 61) dX12_tried_58 (fun c4 => ?_) (fun c4 => ?_)
  · replace w := w.1 c4
    refine ex_aload_n (q := 65) (x := a_0) dX12_tried_64 rfl ?_
    refine ex_iload_n (q := 66) (x := v_1) dX12_tried_65 rfl ?_
    refine ex_sipush (q := 69) (v := 364) dX12_tried_66 (by decide) ?_
    have s6 := w.1
    replace w := w.2
    refine ex_callV (q := 72) (M := mX12_tried) (hdd := Nat.le_refl _) (c := 12) (st := []) (bc := bc) (bs := bs) dX12_tried_69 rfl cl_X12_176 wd_1796 wd_71 s6 w ?_
    rintro r h5 ⟨rfl, w⟩
    show ex_G mX12_tried (d + 5) 72 [.ref a_0, .int v_1, .int v_2, .int v_3, .int v_4, .int x3, .retAddr 0] [] h5 bc bs Q
    refine ex_iload_n (q := 73) (x := v_3) dX12_tried_72 rfl ?_
    refine ex_if_eq (tgt := 105) (q := 76) dX12_tried_73 (fun c7 => ?_) (fun c7 => ?_)
    · replace w := w.1 c7
      refine ex_aload_n (q := 106) (x := a_0) dX12_tried_105 rfl ?_
      refine ex_iload (q := 108) (x := v_4) dX12_tried_106 rfl ?_
      refine ex_aload_n (q := 109) (x := a_0) dX12_tried_108 rfl ?_
      have s8 := w.1
      replace w := w.2
      obtain ⟨a9, ea9, w⟩ := w
      refine ex_getr (q := 112) dX12_tried_109 fl_X12_104 s8 ea9 ?_
      refine ex_iconst (q := 113) (v := 4) dX12_tried_112 (by decide) ?_
      refine ex_iload_n (q := 114) (x := v_2) dX12_tried_113 rfl ?_
      refine ex_imul (q := 115) dX12_tried_114 ?_
      refine ex_iconst (q := 116) (v := 1) dX12_tried_115 (by decide) ?_
      refine ex_iadd (q := 117) dX12_tried_116 ?_
      have s10 := w.1
      replace w := w.2
      refine ex_iald (q := 118) dX12_tried_117 s10 ?_
      refine ex_aload_n (q := 119) (x := a_0) dX12_tried_118 rfl ?_
      refine ex_getr (q := 122) dX12_tried_119 fl_X12_104 s8 ea9 ?_
      refine ex_iconst (q := 123) (v := 4) dX12_tried_122 (by decide) ?_
      refine ex_iload_n (q := 124) (x := v_2) dX12_tried_123 rfl ?_
      refine ex_imul (q := 125) dX12_tried_124 ?_
      refine ex_iconst (q := 126) (v := 2) dX12_tried_125 (by decide) ?_
      refine ex_iadd (q := 127) dX12_tried_126 ?_
      have s11 := w.1
      replace w := w.2
      refine ex_iald (q := 128) dX12_tried_127 s11 ?_
      refine ex_aload_n (q := 129) (x := a_0) dX12_tried_128 rfl ?_
      refine ex_getr (q := 132) dX12_tried_129 fl_X12_104 s8 ea9 ?_
      refine ex_iconst (q := 133) (v := 4) dX12_tried_132 (by decide) ?_
      refine ex_iload_n (q := 134) (x := v_2) dX12_tried_133 rfl ?_
      refine ex_imul (q := 135) dX12_tried_134 ?_
      refine ex_iconst (q := 136) (v := 3) dX12_tried_135 (by decide) ?_
      refine ex_iadd (q := 137) dX12_tried_136 ?_
      have s12 := w.1
      replace w := w.2
      refine ex_iald (q := 138) dX12_tried_137 s12 ?_
      refine ex_callV (q := 141) (M := mX12_tried) (hdd := Nat.le_refl _) (c := 12) (st := []) (bc := bc) (bs := bs) dX12_tried_138 rfl cl_X12_383 wd_1900 wd_91 s8 w ?_
      rintro r h13 ⟨x14, rfl, w⟩
      show ex_G mX12_tried (d + 5) 141 [.ref a_0, .int v_1, .int v_2, .int v_3, .int v_4, .int x3, .retAddr 0] [.int x14] h13 bc bs Q
      refine ex_kill 1 (ls' := [.ref a_0, .retAddr 0, .int v_2, .int v_3, .int v_4, .int x3, .retAddr 0]) rfl ?_
      refine ex_kill 2 (ls' := [.ref a_0, .retAddr 0, .retAddr 0, .int v_3, .int v_4, .int x3, .retAddr 0]) rfl ?_
      refine ex_kill 3 (ls' := [.ref a_0, .retAddr 0, .retAddr 0, .retAddr 0, .int v_4, .int x3, .retAddr 0]) rfl ?_
      refine ex_kill 4 (ls' := [.ref a_0, .retAddr 0, .retAddr 0, .retAddr 0, .retAddr 0, .int x3, .retAddr 0]) rfl ?_
      refine ex_kill 5 (ls' := [.ref a_0, .retAddr 0, .retAddr 0, .retAddr 0, .retAddr 0, .retAddr 0, .retAddr 0]) rfl ?_
      exact w
    · replace w := w.2 c7
      refine ex_aload_n (q := 77) (x := a_0) dX12_tried_76 rfl ?_
      refine ex_iload (q := 79) (x := v_4) dX12_tried_77 rfl ?_
      refine ex_aload_n (q := 80) (x := a_0) dX12_tried_79 rfl ?_
      have s15 := w.1
      replace w := w.2
      obtain ⟨a16, ea16, w⟩ := w
      refine ex_getr (q := 83) dX12_tried_80 fl_X12_104 s15 ea16 ?_
      refine ex_iconst (q := 84) (v := 4) dX12_tried_83 (by decide) ?_
      refine ex_iload_n (q := 85) (x := v_2) dX12_tried_84 rfl ?_
      refine ex_imul (q := 86) dX12_tried_85 ?_
      refine ex_iconst (q := 87) (v := 1) dX12_tried_86 (by decide) ?_
      refine ex_iadd (q := 88) dX12_tried_87 ?_
      have s17 := w.1
      replace w := w.2
      refine ex_iald (q := 89) dX12_tried_88 s17 ?_
      refine ex_aload_n (q := 90) (x := a_0) dX12_tried_89 rfl ?_
      refine ex_getr (q := 93) dX12_tried_90 fl_X12_104 s15 ea16 ?_
      refine ex_iconst (q := 94) (v := 4) dX12_tried_93 (by decide) ?_
      refine ex_iload_n (q := 95) (x := v_2) dX12_tried_94 rfl ?_
      refine ex_imul (q := 96) dX12_tried_95 ?_
      refine ex_iconst (q := 97) (v := 2) dX12_tried_96 (by decide) ?_
      refine ex_iadd (q := 98) dX12_tried_97 ?_
      have s18 := w.1
      replace w := w.2
      refine ex_iald (q := 99) dX12_tried_98 s18 ?_
      refine ex_callV (q := 102) (M := mX12_tried) (hdd := Nat.le_refl _) (c := 12) (st := []) (bc := bc) (bs := bs) dX12_tried_99 rfl cl_X12_380 wd_1836 wd_76 s15 w ?_
      rintro r h19 ⟨x20, rfl, w⟩
      show ex_G mX12_tried (d + 5) 102 [.ref a_0, .int v_1, .int v_2, .int v_3, .int v_4, .int x3, .retAddr 0] [.int x20] h19 bc bs Q
      refine ex_goto (tgt := 141) dX12_tried_102 ?_
      refine ex_kill 1 (ls' := [.ref a_0, .retAddr 0, .int v_2, .int v_3, .int v_4, .int x3, .retAddr 0]) rfl ?_
      refine ex_kill 2 (ls' := [.ref a_0, .retAddr 0, .retAddr 0, .int v_3, .int v_4, .int x3, .retAddr 0]) rfl ?_
      refine ex_kill 3 (ls' := [.ref a_0, .retAddr 0, .retAddr 0, .retAddr 0, .int v_4, .int x3, .retAddr 0]) rfl ?_
      refine ex_kill 4 (ls' := [.ref a_0, .retAddr 0, .retAddr 0, .retAddr 0, .retAddr 0, .int x3, .retAddr 0]) rfl ?_
      refine ex_kill 5 (ls' := [.ref a_0, .retAddr 0, .retAddr 0, .retAddr 0, .retAddr 0, .retAddr 0, .retAddr 0]) rfl ?_
      exact w
  · replace w := w.2 c4
    refine ex_iload (q := 63) (x := x3) dX12_tried_61 rfl ?_
    exact ex_ireturn dX12_tried_63 rfl (Or.inl rfl) w

set_option maxRecDepth 100000 in
theorem X12_tried_141 {d bc bs : Nat} {h : AH} {Q : Option Value → AH → Prop} {a_0 : Nat} {u_0 : Int32} (w : ((u_0 ≤ 0 → Q (some (.int 0)) h) ∧ (¬ u_0 ≤ 0 → ah_o h a_0 12 ∧ X12_meets_C a_0 u_0 h ∧ ∀ h4, h4 = X12_meets_H a_0 u_0 h → Q (some (.int (X12_meets_V a_0 u_0 h))) h4))) : ex_G mX12_tried (d + 5) 141 [.ref a_0, .retAddr 0, .retAddr 0, .retAddr 0, .retAddr 0, .retAddr 0, .retAddr 0] [.int u_0] h bc bs Q := by
  refine ex_istore (q := 143) (ls' := [.ref a_0, .retAddr 0, .retAddr 0, .retAddr 0, .retAddr 0, .retAddr 0, .int u_0]) dX12_tried_141 rfl ?_
  refine ex_iload (q := 145) (x := u_0) dX12_tried_143 rfl ?_
  refine ex_if_le (tgt := 157) (q := 148) dX12_tried_145 (fun c1 => ?_) (fun c1 => ?_)
  · replace w := w.1 c1
    refine ex_iconst (q := 158) (v := 0) dX12_tried_157 (by decide) ?_
    exact ex_ireturn dX12_tried_158 rfl (Or.inl rfl) w
  · replace w := w.2 c1
    refine ex_aload_n (q := 149) (x := a_0) dX12_tried_148 rfl ?_
    refine ex_iload (q := 151) (x := u_0) dX12_tried_149 rfl ?_
    have s2 := w.1
    replace w := w.2
    have s3 := w.1
    replace w := w.2
    refine ex_callV (q := 154) (M := mX12_tried) (hdd := Nat.le_refl _) (mc := 0) (ms := 0) (d' := (d + 4)) (c := 12) (st := []) (bc := bc) (bs := bs) dX12_tried_151 rfl cl_X12_200 wd_1614 wd_50 s2 (X12_meets_s (Q := fun r z => r = some (.int (X12_meets_V a_0 u_0 h)) ∧ z = X12_meets_H a_0 u_0 h) s3 ⟨rfl, rfl⟩) ?_
    intro r z hrz
    rw [hrz.1, hrz.2]
    show ex_G mX12_tried (d + 5) 154 [.ref a_0, .retAddr 0, .retAddr 0, .retAddr 0, .retAddr 0, .retAddr 0, .int u_0] [.int (X12_meets_V a_0 u_0 h)] (X12_meets_H a_0 u_0 h) bc bs Q
    refine ex_nmh (fun h4 eh4 => ?_)
    replace w := w h4 eh4
    refine ex_goto (tgt := 158) dX12_tried_154 ?_
    exact ex_ireturn dX12_tried_158 rfl (Or.inl rfl) w

theorem X12_tried_e {d bc bs : Nat} {h : AH} {Q : Option Value → AH → Prop} {a_0 : Nat} {v_1 : Int32} {v_2 : Int32} {v_3 : Int32} (w : ex_G mX12_tried (d + 5) 0 [.ref a_0, .int v_1, .int v_2, .int v_3, .retAddr 0, .retAddr 0, .retAddr 0] [] h bc bs Q) : ex_S yX12_tried mX12_tried (d + 5) [.ref a_0, .int v_1, .int v_2, .int v_3] h bc bs Q :=
  ex_enter (plainFor_of_name (by decide +kernel)) ⟨rfl, rfl⟩ rfl rfl (Nat.le_of_ble_eq_true rfl) (ex_pad 3 w)
