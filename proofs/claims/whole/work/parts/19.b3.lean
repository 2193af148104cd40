set_option maxRecDepth 100000 in
theorem X5_init_0 {d bc bs : Nat} {h : AH} {Q : Option Value → AH → Prop} {a_0 : Nat} {v_1 : Int32} {v_2 : Int32} {v_3 : Int32} {v_4 : Int32} (w : ah_o h a_0 5 ∧ ∀ h2, h2 = ah_sf h a_0 0 v_1 → ∀ h3, h3 = ah_sf h2 a_0 1 v_2 → ∀ h4, h4 = ah_sf h3 a_0 2 v_3 → ∀ h5, h5 = ah_sf h4 a_0 3 v_4 → Q none h5) : ex_G mX5_init (d + 1) 0 [.ref a_0, .int v_1, .int v_2, .int v_3, .int v_4] [] h bc bs Q := by
  refine ex_aload_n (q := 1) (x := a_0) dX5_init_0 rfl ?_
  refine ex_objInit (q := 4) (hd1 := Nat.succ_le_succ (Nat.zero_le _)) (h1 := wd_135) (h2 := wd_136) (st := []) dX5_init_1 wd_1001 ?_
  refine ex_aload_n (q := 5) (x := a_0) dX5_init_4 rfl ?_
  refine ex_iload_n (q := 6) (x := v_1) dX5_init_5 rfl ?_
  have s1 := w.1
  replace w := w.2
  refine ex_putf (q := 9) dX5_init_6 fl_X5_9 (Or.inr ⟨rfl, rfl, wd_1002, rfl⟩) s1 (Or.inl rfl) ?_
  refine ex_nmh (fun h2 eh2 => ?_)
  replace w := w h2 eh2
  refine ex_aload_n (q := 10) (x := a_0) dX5_init_9 rfl ?_
  refine ex_iload_n (q := 11) (x := v_2) dX5_init_10 rfl ?_
  refine ex_putf (q := 14) dX5_init_11 fl_X5_15 (Or.inr ⟨rfl, rfl, wd_1003, rfl⟩) (by rw [eh2]; exact s1) (Or.inl rfl) ?_
  refine ex_nmh (fun h3 eh3 => ?_)
  replace w := w h3 eh3
  refine ex_aload_n (q := 15) (x := a_0) dX5_init_14 rfl ?_
  refine ex_iload_n (q := 16) (x := v_3) dX5_init_15 rfl ?_
  refine ex_putf (q := 19) dX5_init_16 fl_X5_18 (Or.inr ⟨rfl, rfl, wd_1004, rfl⟩) (by rw [eh3]; exact (by rw [eh2]; exact s1)) (Or.inl rfl) ?_
  refine ex_nmh (fun h4 eh4 => ?_)
  replace w := w h4 eh4
  refine ex_aload_n (q := 20) (x := a_0) dX5_init_19 rfl ?_
  refine ex_iload (q := 22) (x := v_4) dX5_init_20 rfl ?_
  refine ex_putf (q := 25) dX5_init_22 fl_X5_21 (Or.inr ⟨rfl, rfl, wd_1005, rfl⟩) (by rw [eh4]; exact (by rw [eh3]; exact (by rw [eh2]; exact s1))) (Or.inl rfl) ?_
  refine ex_nmh (fun h5 eh5 => ?_)
  replace w := w h5 eh5
  exact ex_return dX5_init_25 w

theorem X5_init_e {d bc bs : Nat} {h : AH} {Q : Option Value → AH → Prop} {a_0 : Nat} {v_1 : Int32} {v_2 : Int32} {v_3 : Int32} {v_4 : Int32} (w : ex_G mX5_init (d + 1) 0 [.ref a_0, .int v_1, .int v_2, .int v_3, .int v_4] [] h bc bs Q) : ex_S yX5_init mX5_init (d + 1) [.ref a_0, .int v_1, .int v_2, .int v_3, .int v_4] h bc bs Q :=
  ex_enter (plainFor_of_name (by decide +kernel)) ⟨rfl, rfl⟩ rfl rfl (Nat.le_of_ble_eq_true rfl) (ex_pad 0 w)

set_option maxRecDepth 100000 in
theorem X5_number_0 {d bc bs : Nat} {h : AH} {Q : Option Value → AH → Prop} {a_0 : Nat} {v_1 : Int32} (w : ((v_1 = 0 → ah_o h a_0 5 ∧ Q (some (.int (ah_f h a_0 0))) h) ∧ (v_1 = 1 → ah_o h a_0 5 ∧ Q (some (.int (ah_f h a_0 1))) h) ∧ (v_1 = 2 → ah_o h a_0 5 ∧ Q (some (.int (ah_f h a_0 2))) h) ∧ (¬ v_1 = 0 → ¬ v_1 = 1 → ¬ v_1 = 2 → ah_o h a_0 5 ∧ Q (some (.int (ah_f h a_0 3))) h))) : ex_G mX5_number d 0 [.ref a_0, .int v_1] [] h bc bs Q := by
  refine ex_iload_n (q := 1) (x := v_1) dX5_number_0 rfl ?_
  by_cases c1_0 : v_1 = 0
  · replace w := w.1 c1_0
    refine ex_tsw (tgt := 28) dX5_number_1 (by rw [c1_0]; decide) ?_
    refine ex_aload_n (q := 29) (x := a_0) dX5_number_28 rfl ?_
    have s2 := w.1
    replace w := w.2
    refine ex_getf (q := 32) dX5_number_29 fl_X5_9 s2 ?_
    exact ex_ireturn dX5_number_32 rfl (Or.inl rfl) w
  replace w := w.2
  by_cases c1_1 : v_1 = 1
  · replace w := w.1 c1_1
    refine ex_tsw (tgt := 33) dX5_number_1 (by rw [c1_1]; decide) ?_
    refine ex_aload_n (q := 34) (x := a_0) dX5_number_33 rfl ?_
    have s3 := w.1
    replace w := w.2
    refine ex_getf (q := 37) dX5_number_34 fl_X5_15 s3 ?_
    exact ex_ireturn dX5_number_37 rfl (Or.inl rfl) w
  replace w := w.2
  by_cases c1_2 : v_1 = 2
  · replace w := w.1 c1_2
    refine ex_tsw (tgt := 38) dX5_number_1 (by rw [c1_2]; decide) ?_
    refine ex_aload_n (q := 39) (x := a_0) dX5_number_38 rfl ?_
    have s4 := w.1
    replace w := w.2
    refine ex_getf (q := 42) dX5_number_39 fl_X5_18 s4 ?_
    exact ex_ireturn dX5_number_42 rfl (Or.inl rfl) w
  replace w := w.2
  replace w := w c1_0 c1_1 c1_2
  have hsw : v_1.toInt < 0 ∨ 2 < v_1.toInt := by
    have := i32_ne c1_0 (a := 0) (by decide)
    have := i32_ne c1_1 (a := 1) (by decide)
    have := i32_ne c1_2 (a := 2) (by decide)
    omega
  have hsq : sw_t 42 0 2 [27, 32, 37] v_1.toInt = 42 := by
    rcases hsw with z | z
    · unfold sw_t; rw [if_pos (Or.inl z)]
    · unfold sw_t; rw [if_pos (Or.inr z)]
  refine ex_tsw (tgt := 43) dX5_number_1 (show ((1 : Nat) : Int) + sw_t 42 0 2 [27, 32, 37] v_1.toInt = ((43 : Nat) : Int) by rw [hsq]; decide) ?_
  refine ex_aload_n (q := 44) (x := a_0) dX5_number_43 rfl ?_
  have s5 := w.1
  replace w := w.2
  refine ex_getf (q := 47) dX5_number_44 fl_X5_21 s5 ?_
  exact ex_ireturn dX5_number_47 rfl (Or.inl rfl) w

theorem X5_number_e {d bc bs : Nat} {h : AH} {Q : Option Value → AH → Prop} {a_0 : Nat} {v_1 : Int32} (w : ex_G mX5_number d 0 [.ref a_0, .int v_1] [] h bc bs Q) : ex_S yX5_number mX5_number d [.ref a_0, .int v_1] h bc bs Q :=
  ex_enter (plainFor_of_name (by decide +kernel)) ⟨rfl, rfl⟩ rfl rfl (Nat.le_of_ble_eq_true rfl) (ex_pad 0 w)

set_option maxRecDepth 100000 in
theorem X5_growth_0 {d bc bs : Nat} {h : AH} {Q : Option Value → AH → Prop} {a_0 : Nat} {a_1 : Nat} (w : ah_o h a_0 5 ∧ (((ah_f h a_0 0) = 0 → ex_S yX5_twistGrowth mX5_twistGrowth (d + 1) [.ref a_1] h 0 0 (fun r h3 => ∃ x4, r = some (.int x4) ∧ Q (some (.int x4)) h3)) ∧ ((ah_f h a_0 0) = 1 → ah_o h a_1 6 ∧ ex_S yX6_add mX6_add (d + 1) [.ref a_1, .int 2] h 0 0 (fun r h5 => ∃ x7, r = some (.int x7) ∧ ex_S yX5_twistGrowth mX5_twistGrowth (d + 1) [.ref a_1] h5 0 0 (fun r h8 => ∃ x9, r = some (.int x9) ∧ ex_S yX5_twistGrowth mX5_twistGrowth (d + 1) [.ref a_1] h8 0 0 (fun r h10 => ∃ x11, r = some (.int x11) ∧ Q (some (.int (x9 + x11))) h10)))) ∧ ((ah_f h a_0 0) = 4 → ah_o h a_1 6 ∧ ex_S yX6_add mX6_add (d + 1) [.ref a_1, .int 5] h 0 0 (fun r h12 => ∃ x14, r = some (.int x14) ∧ Q (some (.int (-1))) h12)) ∧ ((ah_f h a_0 0) = 5 → ah_o h a_1 6 ∧ ex_S yX6_add mX6_add (d + 1) [.ref a_1, .int 6] h 0 0 (fun r h15 => ∃ x17, r = some (.int x17) ∧ Q (some (.int 0)) h15)) ∧ (¬ (ah_f h a_0 0) = 0 → ¬ (ah_f h a_0 0) = 1 → ¬ (ah_f h a_0 0) = 4 → ¬ (ah_f h a_0 0) = 5 → ah_o h a_1 6 ∧ ex_S yX6_add mX6_add (d + 1) [.ref a_1, .int 3] h 0 0 (fun r h18 => ∃ x20, r = some (.int x20) ∧ Q (some (.int 0)) h18)))) : ex_G mX5_growth (d + 2) 0 [.ref a_0, .ref a_1] [] h bc bs Q := by
  refine ex_aload_n (q := 1) (x := a_0) dX5_growth_0 rfl ?_
  have s1 := w.1
  replace w := w.2
  refine ex_getf (q := 4) dX5_growth_1 fl_X5_9 s1 ?_
  by_cases c2_0 : (ah_f h a_0 0) = 0
  · replace w := w.1 c2_0
    refine ex_tsw (tgt := 44) dX5_growth_4 (by rw [c2_0]; decide) ?_
    refine ex_aload_n (q := 45) (x := a_1) dX5_growth_44 rfl ?_
    refine ex_callS (q := 48) (M := mX5_growth) (hdd := Nat.le_refl _) (st := []) (bc := bc) (bs := bs) dX5_growth_45 rfl cl_X5_28 wd_1032 w ?_
    rintro r h3 ⟨x4, rfl, w⟩
    show ex_G mX5_growth (d + 2) 48 [.ref a_0, .ref a_1] [.int x4] h3 bc bs Q
    exact ex_ireturn dX5_growth_48 rfl (Or.inl rfl) w
  replace w := w.2
  by_cases c2_1 : (ah_f h a_0 0) = 1
  · replace w := w.1 c2_1
    refine ex_tsw (tgt := 49) dX5_growth_4 (by rw [c2_1]; decide) ?_
    refine ex_aload_n (q := 50) (x := a_1) dX5_growth_49 rfl ?_
    refine ex_iconst (q := 51) (v := 2) dX5_growth_50 (by decide) ?_
    have s6 := w.1
    replace w := w.2
    refine ex_callV (q := 54) (M := mX5_growth) (hdd := Nat.le_refl _) (c := 6) (st := []) (bc := bc) (bs := bs) dX5_growth_51 rfl cl_X5_32 wd_941 wd_942 s6 w ?_
    rintro r h5 ⟨x7, rfl, w⟩
    show ex_G mX5_growth (d + 2) 54 [.ref a_0, .ref a_1] [.int x7] h5 bc bs Q
    refine ex_pop (q := 55) dX5_growth_54 rfl ?_
    refine ex_aload_n (q := 56) (x := a_1) dX5_growth_55 rfl ?_
    refine ex_callS (q := 59) (M := mX5_growth) (hdd := Nat.le_refl _) (st := []) (bc := bc) (bs := bs) dX5_growth_56 rfl cl_X5_28 wd_1032 w ?_
    rintro r h8 ⟨x9, rfl, w⟩
    show ex_G mX5_growth (d + 2) 59 [.ref a_0, .ref a_1] [.int x9] h8 bc bs Q
    refine ex_aload_n (q := 60) (x := a_1) dX5_growth_59 rfl ?_
    refine ex_callS (q := 63) (M := mX5_growth) (hdd := Nat.le_refl _) (st := [.int x9]) (bc := bc) (bs := bs) dX5_growth_60 rfl cl_X5_28 wd_1032 w ?_
    rintro r h10 ⟨x11, rfl, w⟩
    show ex_G mX5_growth (d + 2) 63 [.ref a_0, .ref a_1] [.int x11, .int x9] h10 bc bs Q
    refine ex_iadd (q := 64) dX5_growth_63 ?_
    exact ex_ireturn dX5_growth_64 rfl (Or.inl rfl) w
  replace w := w.2
  by_cases c2_4 : (ah_f h a_0 0) = 4
  · replace w := w.1 c2_4
    refine ex_tsw (tgt := 65) dX5_growth_4 (by rw [c2_4]; decide) ?_
    refine ex_aload_n (q := 66) (x := a_1) dX5_growth_65 rfl ?_
    refine ex_iconst (q := 67) (v := 5) dX5_growth_66 (by decide) ?_
    have s13 := w.1
    replace w := w.2
    refine ex_callV (q := 70) (M := mX5_growth) (hdd := Nat.le_refl _) (c := 6) (st := []) (bc := bc) (bs := bs) dX5_growth_67 rfl cl_X5_32 wd_941 wd_942 s13 w ?_
    rintro r h12 ⟨x14, rfl, w⟩
    show ex_G mX5_growth (d + 2) 70 [.ref a_0, .ref a_1] [.int x14] h12 bc bs Q
    refine ex_pop (q := 71) dX5_growth_70 rfl ?_
    refine ex_iconst (q := 72) (v := (-1)) dX5_growth_71 (by decide) ?_
    exact ex_ireturn dX5_growth_72 rfl (Or.inl rfl) w
  replace w := w.2
  by_cases c2_5 : (ah_f h a_0 0) = 5
  · replace w := w.1 c2_5
    refine ex_tsw (tgt := 73) dX5_growth_4 (by rw [c2_5]; decide) ?_
    refine ex_aload_n (q := 74) (x := a_1) dX5_growth_73 rfl ?_
    refine ex_bipush (q := 76) (v := 6) dX5_growth_74 (by decide) ?_
    have s16 := w.1
    replace w := w.2
    refine ex_callV (q := 79) (M := mX5_growth) (hdd := Nat.le_refl _) (c := 6) (st := []) (bc := bc) (bs := bs) dX5_growth_76 rfl cl_X5_32 wd_941 wd_942 s16 w ?_
    rintro r h15 ⟨x17, rfl, w⟩
    show ex_G mX5_growth (d + 2) 79 [.ref a_0, .ref a_1] [.int x17] h15 bc bs Q
    refine ex_pop (q := 80) dX5_growth_79 rfl ?_
    refine ex_iconst (q := 81) (v := 0) dX5_growth_80 (by decide) ?_
    exact ex_ireturn dX5_growth_81 rfl (Or.inl rfl) w
  replace w := w.2
  replace w := w c2_0 c2_1 c2_4 c2_5
  have hsw : (ah_f h a_0 0).toInt < 0 ∨ 5 < (ah_f h a_0 0).toInt ∨ (ah_f h a_0 0).toInt = 2 ∨ (ah_f h a_0 0).toInt = 3 := by
    have := i32_ne c2_0 (a := 0) (by decide)
    have := i32_ne c2_1 (a := 1) (by decide)
    have := i32_ne c2_4 (a := 4) (by decide)
    have := i32_ne c2_5 (a := 5) (by decide)
    omega
  have hsq : sw_t 78 0 5 [40, 45, 78, 78, 61, 69] (ah_f h a_0 0).toInt = 78 := by
    rcases hsw with z | z | z | z
    · unfold sw_t; rw [if_pos (Or.inl z)]
    · unfold sw_t; rw [if_pos (Or.inr z)]
    · rw [z]; decide
    · rw [z]; decide
  refine ex_tsw (tgt := 82) dX5_growth_4 (show ((4 : Nat) : Int) + sw_t 78 0 5 [40, 45, 78, 78, 61, 69] (ah_f h a_0 0).toInt = ((82 : Nat) : Int) by rw [hsq]; decide) ?_
  refine ex_aload_n (q := 83) (x := a_1) dX5_growth_82 rfl ?_
  refine ex_iconst (q := 84) (v := 3) dX5_growth_83 (by decide) ?_
  have s19 := w.1
  replace w := w.2
  refine ex_callV (q := 87) (M := mX5_growth) (hdd := Nat.le_refl _) (c := 6) (st := []) (bc := bc) (bs := bs) dX5_growth_84 rfl cl_X5_32 wd_941 wd_942 s19 w ?_
  rintro r h18 ⟨x20, rfl, w⟩
  show ex_G mX5_growth (d + 2) 87 [.ref a_0, .ref a_1] [.int x20] h18 bc bs Q
  refine ex_pop (q := 88) dX5_growth_87 rfl ?_
  refine ex_iconst (q := 89) (v := 0) dX5_growth_88 (by decide) ?_
  exact ex_ireturn dX5_growth_89 rfl (Or.inl rfl) w

theorem X5_growth_e {d bc bs : Nat} {h : AH} {Q : Option Value → AH → Prop} {a_0 : Nat} {a_1 : Nat} (w : ex_G mX5_growth (d + 2) 0 [.ref a_0, .ref a_1] [] h bc bs Q) : ex_S yX5_growth mX5_growth (d + 2) [.ref a_0, .ref a_1] h bc bs Q :=
  ex_enter (plainFor_of_name (by decide +kernel)) ⟨rfl, rfl⟩ rfl rfl (Nat.le_of_ble_eq_true rfl) (ex_pad 0 w)

set_option maxRecDepth 100000 in
theorem X5_twistGrowth_0 {d bc bs : Nat} {h : AH} {Q : Option Value → AH → Prop} {a_0 : Nat} (w : ah_o h a_0 6 ∧ ex_S yX6_add mX6_add d [.ref a_0, .int 1] h 0 0 (fun r h1 => ∃ x3, r = some (.int x3) ∧ Q (some (.int 1)) h1)) : ex_G mX5_twistGrowth (d + 1) 0 [.ref a_0] [] h bc bs Q := by
  refine ex_aload_n (q := 1) (x := a_0) dX5_twistGrowth_0 rfl ?_
  refine ex_iconst (q := 2) (v := 1) dX5_twistGrowth_1 (by decide) ?_
  have s2 := w.1
  replace w := w.2
  refine ex_callV (q := 5) (M := mX5_twistGrowth) (hdd := Nat.le_refl _) (c := 6) (st := []) (bc := bc) (bs := bs) dX5_twistGrowth_2 rfl cl_X5_32 wd_941 wd_942 s2 w ?_
  rintro r h1 ⟨x3, rfl, w⟩
  show ex_G mX5_twistGrowth (d + 1) 5 [.ref a_0] [.int x3] h1 bc bs Q
  refine ex_pop (q := 6) dX5_twistGrowth_5 rfl ?_
  refine ex_iconst (q := 7) (v := 1) dX5_twistGrowth_6 (by decide) ?_
  exact ex_ireturn dX5_twistGrowth_7 rfl (Or.inl rfl) w

theorem X5_twistGrowth_e {d bc bs : Nat} {h : AH} {Q : Option Value → AH → Prop} {a_0 : Nat} (w : ex_G mX5_twistGrowth (d + 1) 0 [.ref a_0] [] h bc bs Q) : ex_S yX5_twistGrowth mX5_twistGrowth (d + 1) [.ref a_0] h bc bs Q :=
  ex_enter (plainFor_of_name (by decide +kernel)) ⟨rfl, rfl⟩ rfl rfl (Nat.le_of_ble_eq_true rfl) (ex_pad 0 w)

set_option maxRecDepth 100000 in
theorem X5_applyTo_0 {d bc bs : Nat} {h : AH} {Q : Option Value → AH → Prop} {a_0 : Nat} {a_1 : Nat} {a_2 : Nat} (w : ah_o h a_0 5 ∧ (((ah_f h a_0 0) = 0 → ex_S yX5_twist mX5_twist (d + 3) [.ref a_0, .ref a_1, .ref a_2] h 0 0 (fun r h3 => ∃ x4, r = some (.int x4) ∧ Q (some (.int x4)) h3)) ∧ ((ah_f h a_0 0) = 1 → ex_S yX5_poke mX5_poke (d + 3) [.ref a_0, .ref a_1, .ref a_2] h 0 0 (fun r h5 => ∃ x6, r = some (.int x6) ∧ Q (some (.int x6)) h5)) ∧ ((ah_f h a_0 0) = 2 → ex_S yX5_slide mX5_slide (d + 3) [.ref a_1, .ref a_2, .int (ah_f h a_0 1)] h 0 0 (fun r h7 => ∃ x8, r = some (.int x8) ∧ Q (some (.int x8)) h7)) ∧ ((ah_f h a_0 0) = 3 → ex_S yX5_flype mX5_flype (d + 3) [.ref a_0, .ref a_1, .ref a_2, .int (ah_f h a_0 1)] h 0 0 (fun r h9 => ∃ x10, r = some (.int x10) ∧ Q (some (.int x10)) h9)) ∧ ((ah_f h a_0 0) = 4 → ex_S yX5_smooth mX5_smooth (d + 3) [.ref a_0, .ref a_1] h 0 0 (fun r h11 => ∃ x12, r = some (.int x12) ∧ Q (some (.int x12)) h11)) ∧ (¬ (ah_f h a_0 0) = 0 → ¬ (ah_f h a_0 0) = 1 → ¬ (ah_f h a_0 0) = 2 → ¬ (ah_f h a_0 0) = 3 → ¬ (ah_f h a_0 0) = 4 → ex_S yX5_change mX5_change (d + 3) [.ref a_0, .ref a_1, .int 1] h 0 0 (fun r h13 => ∃ x14, r = some (.int x14) ∧ Q (some (.int x14)) h13)))) : ex_G mX5_applyTo (d + 4) 0 [.ref a_0, .ref a_1, .ref a_2] [] h bc bs Q := by
  refine ex_aload_n (q := 1) (x := a_0) dX5_applyTo_0 rfl ?_
  have s1 := w.1
  replace w := w.2
  refine ex_getf (q := 4) dX5_applyTo_1 fl_X5_9 s1 ?_
  by_cases c2_0 : (ah_f h a_0 0) = 0
  · replace w := w.1 c2_0
    refine ex_tsw (tgt := 40) dX5_applyTo_4 (by rw [c2_0]; decide) ?_
    refine ex_aload_n (q := 41) (x := a_0) dX5_applyTo_40 rfl ?_
    refine ex_aload_n (q := 42) (x := a_1) dX5_applyTo_41 rfl ?_
    refine ex_aload_n (q := 43) (x := a_2) dX5_applyTo_42 rfl ?_
    refine ex_callV (q := 46) (M := mX5_applyTo) (hdd := Nat.le_refl _) (c := 5) (st := []) (bc := bc) (bs := bs) dX5_applyTo_43 rfl cl_X5_38 wd_1059 wd_29 s1 w ?_
    rintro r h3 ⟨x4, rfl, w⟩
    show ex_G mX5_applyTo (d + 4) 46 [.ref a_0, .ref a_1, .ref a_2] [.int x4] h3 bc bs Q
    exact ex_ireturn dX5_applyTo_46 rfl (Or.inl rfl) w
  replace w := w.2
  by_cases c2_1 : (ah_f h a_0 0) = 1
  · replace w := w.1 c2_1
    refine ex_tsw (tgt := 47) dX5_applyTo_4 (by rw [c2_1]; decide) ?_
    refine ex_aload_n (q := 48) (x := a_0) dX5_applyTo_47 rfl ?_
    refine ex_aload_n (q := 49) (x := a_1) dX5_applyTo_48 rfl ?_
    refine ex_aload_n (q := 50) (x := a_2) dX5_applyTo_49 rfl ?_
    refine ex_callV (q := 53) (M := mX5_applyTo) (hdd := Nat.le_refl _) (c := 5) (st := []) (bc := bc) (bs := bs) dX5_applyTo_50 rfl cl_X5_42 wd_1070 wd_31 s1 w ?_
    rintro r h5 ⟨x6, rfl, w⟩
    show ex_G mX5_applyTo (d + 4) 53 [.ref a_0, .ref a_1, .ref a_2] [.int x6] h5 bc bs Q
    exact ex_ireturn dX5_applyTo_53 rfl (Or.inl rfl) w
  replace w := w.2
  by_cases c2_2 : (ah_f h a_0 0) = 2
  · replace w := w.1 c2_2
    refine ex_tsw (tgt := 54) dX5_applyTo_4 (by rw [c2_2]; decide) ?_
    refine ex_aload_n (q := 55) (x := a_1) dX5_applyTo_54 rfl ?_
    refine ex_aload_n (q := 56) (x := a_2) dX5_applyTo_55 rfl ?_
    refine ex_aload_n (q := 57) (x := a_0) dX5_applyTo_56 rfl ?_
    refine ex_getf (q := 60) dX5_applyTo_57 fl_X5_15 s1 ?_
    refine ex_callS (q := 63) (M := mX5_applyTo) (hdd := Nat.le_refl _) (st := []) (bc := bc) (bs := bs) dX5_applyTo_60 rfl cl_X5_45 wd_1073 w ?_
    rintro r h7 ⟨x8, rfl, w⟩
    show ex_G mX5_applyTo (d + 4) 63 [.ref a_0, .ref a_1, .ref a_2] [.int x8] h7 bc bs Q
    exact ex_ireturn dX5_applyTo_63 rfl (Or.inl rfl) w
  replace w := w.2
  by_cases c2_3 : (ah_f h a_0 0) = 3
  · replace w := w.1 c2_3
    refine ex_tsw (tgt := 64) dX5_applyTo_4 (by rw [c2_3]; decide) ?_
    refine ex_aload_n (q := 65) (x := a_0) dX5_applyTo_64 rfl ?_
    refine ex_aload_n (q := 66) (x := a_1) dX5_applyTo_65 rfl ?_
    refine ex_aload_n (q := 67) (x := a_2) dX5_applyTo_66 rfl ?_
    refine ex_aload_n (q := 68) (x := a_0) dX5_applyTo_67 rfl ?_
    refine ex_getf (q := 71) dX5_applyTo_68 fl_X5_15 s1 ?_
    refine ex_callV (q := 74) (M := mX5_applyTo) (hdd := Nat.le_refl _) (c := 5) (st := []) (bc := bc) (bs := bs) dX5_applyTo_71 rfl cl_X5_49 wd_1091 wd_32 s1 w ?_
    rintro r h9 ⟨x10, rfl, w⟩
    show ex_G mX5_applyTo (d + 4) 74 [.ref a_0, .ref a_1, .ref a_2] [.int x10] h9 bc bs Q
    exact ex_ireturn dX5_applyTo_74 rfl (Or.inl rfl) w
  replace w := w.2
  by_cases c2_4 : (ah_f h a_0 0) = 4
  · replace w := w.1 c2_4
    refine ex_tsw (tgt := 75) dX5_applyTo_4 (by rw [c2_4]; decide) ?_
    refine ex_aload_n (q := 76) (x := a_0) dX5_applyTo_75 rfl ?_
    refine ex_aload_n (q := 77) (x := a_1) dX5_applyTo_76 rfl ?_
    refine ex_callV (q := 80) (M := mX5_applyTo) (hdd := Nat.le_refl _) (c := 5) (st := []) (bc := bc) (bs := bs) dX5_applyTo_77 rfl cl_X5_52 wd_1111 wd_33 s1 w ?_
    rintro r h11 ⟨x12, rfl, w⟩
    show ex_G mX5_applyTo (d + 4) 80 [.ref a_0, .ref a_1, .ref a_2] [.int x12] h11 bc bs Q
    exact ex_ireturn dX5_applyTo_80 rfl (Or.inl rfl) w
  replace w := w.2
  replace w := w c2_0 c2_1 c2_2 c2_3 c2_4
  have hsw : (ah_f h a_0 0).toInt < 0 ∨ 4 < (ah_f h a_0 0).toInt := by
    have := i32_ne c2_0 (a := 0) (by decide)
    have := i32_ne c2_1 (a := 1) (by decide)
    have := i32_ne c2_2 (a := 2) (by decide)
    have := i32_ne c2_3 (a := 3) (by decide)
    have := i32_ne c2_4 (a := 4) (by decide)
    omega
  have hsq : sw_t 77 0 4 [36, 43, 50, 60, 71] (ah_f h a_0 0).toInt = 77 := by
    rcases hsw with z | z
    · unfold sw_t; rw [if_pos (Or.inl z)]
    · unfold sw_t; rw [if_pos (Or.inr z)]
  refine ex_tsw (tgt := 81) dX5_applyTo_4 (show ((4 : Nat) : Int) + sw_t 77 0 4 [36, 43, 50, 60, 71] (ah_f h a_0 0).toInt = ((81 : Nat) : Int) by rw [hsq]; decide) ?_
  refine ex_aload_n (q := 82) (x := a_0) dX5_applyTo_81 rfl ?_
  refine ex_aload_n (q := 83) (x := a_1) dX5_applyTo_82 rfl ?_
  refine ex_iconst (q := 84) (v := 1) dX5_applyTo_83 (by decide) ?_
  refine ex_callV (q := 87) (M := mX5_applyTo) (hdd := Nat.le_refl _) (c := 5) (st := []) (bc := bc) (bs := bs) dX5_applyTo_84 rfl cl_X5_56 wd_1127 wd_34 s1 w ?_
  rintro r h13 ⟨x14, rfl, w⟩
  show ex_G mX5_applyTo (d + 4) 87 [.ref a_0, .ref a_1, .ref a_2] [.int x14] h13 bc bs Q
  exact ex_ireturn dX5_applyTo_87 rfl (Or.inl rfl) w

theorem X5_applyTo_e {d bc bs : Nat} {h : AH} {Q : Option Value → AH → Prop} {a_0 : Nat} {a_1 : Nat} {a_2 : Nat} (w : ex_G mX5_applyTo (d + 4) 0 [.ref a_0, .ref a_1, .ref a_2] [] h bc bs Q) : ex_S yX5_applyTo mX5_applyTo (d + 4) [.ref a_0, .ref a_1, .ref a_2] h bc bs Q :=
  ex_enter (plainFor_of_name (by decide +kernel)) ⟨rfl, rfl⟩ rfl rfl (Nat.le_of_ble_eq_true rfl) (ex_pad 0 w)

set_option maxRecDepth 100000 in
theorem X5_withdrawFrom_0 {d bc bs : Nat} {h : AH} {Q : Option Value → AH → Prop} {a_0 : Nat} {a_1 : Nat} {a_2 : Nat} (w : ah_o h a_0 5 ∧ (((ah_f h a_0 0) = 0 → ex_S yX5_untwist mX5_untwist (d + 3) [.ref a_1, .ref a_2, .int (ah_f h a_0 1)] h 0 0 (fun r h3 => ∃ x4, r = some (.int x4) ∧ Q (some (.int x4)) h3)) ∧ ((ah_f h a_0 0) = 1 → ex_S yX5_unpoke mX5_unpoke (d + 3) [.ref a_1, .ref a_2, .int (ah_f h a_0 1)] h 0 0 (fun r h5 => ∃ x6, r = some (.int x6) ∧ Q (some (.int x6)) h5)) ∧ ((ah_f h a_0 0) = 2 → ex_S yX5_slide mX5_slide (d + 3) [.ref a_1, .ref a_2, .int (X11_corner_V (ah_f h a_0 1) 2 h)] h 0 0 (fun r h7 => ∃ x8, r = some (.int x8) ∧ Q (some (.int x8)) h7)) ∧ ((ah_f h a_0 0) = 3 → ex_S yX5_flype mX5_flype (d + 3) [.ref a_0, .ref a_1, .ref a_2, .int (X11_corner_V (ah_f h a_0 1) 2 h)] h 0 0 (fun r h9 => ∃ x10, r = some (.int x10) ∧ Q (some (.int x10)) h9)) ∧ (¬ (ah_f h a_0 0) = 0 → ¬ (ah_f h a_0 0) = 1 → ¬ (ah_f h a_0 0) = 2 → ¬ (ah_f h a_0 0) = 3 → ex_S yX5_change mX5_change (d + 3) [.ref a_0, .ref a_1, .int 3] h 0 0 (fun r h11 => ∃ x12, r = some (.int x12) ∧ Q (some (.int x12)) h11)))) : ex_G mX5_withdrawFrom (d + 4) 0 [.ref a_0, .ref a_1, .ref a_2] [] h bc bs Q := by
  refine ex_aload_n (q := 1) (x := a_0) dX5_withdrawFrom_0 rfl ?_
  have s1 := w.1
  replace w := w.2
  refine ex_getf (q := 4) dX5_withdrawFrom_1 fl_X5_9 s1 ?_
  by_cases c2_0 : (ah_f h a_0 0) = 0
  · replace w := w.1 c2_0
    refine ex_tsw (tgt := 36) dX5_withdrawFrom_4 (by rw [c2_0]; decide) ?_
    refine ex_aload_n (q := 37) (x := a_1) dX5_withdrawFrom_36 rfl ?_
    refine ex_aload_n (q := 38) (x := a_2) dX5_withdrawFrom_37 rfl ?_
    refine ex_aload_n (q := 39) (x := a_0) dX5_withdrawFrom_38 rfl ?_
    refine ex_getf (q := 42) dX5_withdrawFrom_39 fl_X5_15 s1 ?_
    refine ex_callS (q := 45) (M := mX5_withdrawFrom) (hdd := Nat.le_refl _) (st := []) (bc := bc) (bs := bs) dX5_withdrawFrom_42 rfl cl_X5_60 wd_1155 w ?_
    rintro r h3 ⟨x4, rfl, w⟩
    show ex_G mX5_withdrawFrom (d + 4) 45 [.ref a_0, .ref a_1, .ref a_2] [.int x4] h3 bc bs Q
    exact ex_ireturn dX5_withdrawFrom_45 rfl (Or.inl rfl) w
  replace w := w.2
  by_cases c2_1 : (ah_f h a_0 0) = 1
  · replace w := w.1 c2_1
    refine ex_tsw (tgt := 46) dX5_withdrawFrom_4 (by rw [c2_1]; decide) ?_
    refine ex_aload_n (q := 47) (x := a_1) dX5_withdrawFrom_46 rfl ?_
    refine ex_aload_n (q := 48) (x := a_2) dX5_withdrawFrom_47 rfl ?_
    refine ex_aload_n (q := 49) (x := a_0) dX5_withdrawFrom_48 rfl ?_
    refine ex_getf (q := 52) dX5_withdrawFrom_49 fl_X5_15 s1 ?_
    refine ex_callS (q := 55) (M := mX5_withdrawFrom) (hdd := Nat.le_refl _) (st := []) (bc := bc) (bs := bs) dX5_withdrawFrom_52 rfl cl_X5_63 wd_1161 w ?_
    rintro r h5 ⟨x6, rfl, w⟩
    show ex_G mX5_withdrawFrom (d + 4) 55 [.ref a_0, .ref a_1, .ref a_2] [.int x6] h5 bc bs Q
    exact ex_ireturn dX5_withdrawFrom_55 rfl (Or.inl rfl) w
  replace w := w.2
  by_cases c2_2 : (ah_f h a_0 0) = 2
  · replace w := w.1 c2_2
    refine ex_tsw (tgt := 56) dX5_withdrawFrom_4 (by rw [c2_2]; decide) ?_
    refine ex_aload_n (q := 57) (x := a_1) dX5_withdrawFrom_56 rfl ?_
    refine ex_aload_n (q := 58) (x := a_2) dX5_withdrawFrom_57 rfl ?_
    refine ex_aload_n (q := 59) (x := a_0) dX5_withdrawFrom_58 rfl ?_
    refine ex_getf (q := 62) dX5_withdrawFrom_59 fl_X5_15 s1 ?_
    refine ex_iconst (q := 63) (v := 2) dX5_withdrawFrom_62 (by decide) ?_
    refine ex_callS (q := 66) (M := mX5_withdrawFrom) (hdd := Nat.le_refl _) (mc := 0) (ms := 0) (d' := (d + 3)) (st := [.ref a_2, .ref a_1]) (bc := bc) (bs := bs) dX5_withdrawFrom_63 rfl cl_X5_66 wd_663 (X11_corner_s (Q := fun r z => r = some (.int (X11_corner_V (ah_f h a_0 1) 2 h)) ∧ z = h) ⟨rfl, rfl⟩) ?_
    intro r z hrz
    rw [hrz.1, hrz.2]
    show ex_G mX5_withdrawFrom (d + 4) 66 [.ref a_0, .ref a_1, .ref a_2] [.int (X11_corner_V (ah_f h a_0 1) 2 h), .ref a_2, .ref a_1] (h) bc bs Q
    refine ex_callS (q := 69) (M := mX5_withdrawFrom) (hdd := Nat.le_refl _) (st := []) (bc := bc) (bs := bs) dX5_withdrawFrom_66 rfl cl_X5_45 wd_1073 w ?_
    rintro r h7 ⟨x8, rfl, w⟩
    show ex_G mX5_withdrawFrom (d + 4) 69 [.ref a_0, .ref a_1, .ref a_2] [.int x8] h7 bc bs Q
    exact ex_ireturn dX5_withdrawFrom_69 rfl (Or.inl rfl) w
  replace w := w.2
  by_cases c2_3 : (ah_f h a_0 0) = 3
  · replace w := w.1 c2_3
    refine ex_tsw (tgt := 70) dX5_withdrawFrom_4 (by rw [c2_3]; decide) ?_
    refine ex_aload_n (q := 71) (x := a_0) dX5_withdrawFrom_70 rfl ?_
    refine ex_aload_n (q := 72) (x := a_1) dX5_withdrawFrom_71 rfl ?_
    refine ex_aload_n (q := 73) (x := a_2) dX5_withdrawFrom_72 rfl ?_
    refine ex_aload_n (q := 74) (x := a_0) dX5_withdrawFrom_73 rfl ?_
    refine ex_getf (q := 77) dX5_withdrawFrom_74 fl_X5_15 s1 ?_
    refine ex_iconst (q := 78) (v := 2) dX5_withdrawFrom_77 (by decide) ?_
    refine ex_callS (q := 81) (M := mX5_withdrawFrom) (hdd := Nat.le_refl _) (mc := 0) (ms := 0) (d' := (d + 3)) (st := [.ref a_2, .ref a_1, .ref a_0]) (bc := bc) (bs := bs) dX5_withdrawFrom_78 rfl cl_X5_66 wd_663 (X11_corner_s (Q := fun r z => r = some (.int (X11_corner_V (ah_f h a_0 1) 2 h)) ∧ z = h) ⟨rfl, rfl⟩) ?_
    intro r z hrz
    rw [hrz.1, hrz.2]
    show ex_G mX5_withdrawFrom (d + 4) 81 [.ref a_0, .ref a_1, .ref a_2] [.int (X11_corner_V (ah_f h a_0 1) 2 h), .ref a_2, .ref a_1, .ref a_0] (h) bc bs Q
    refine ex_callV (q := 84) (M := mX5_withdrawFrom) (hdd := Nat.le_refl _) (c := 5) (st := []) (bc := bc) (bs := bs) dX5_withdrawFrom_81 rfl cl_X5_49 wd_1091 wd_32 s1 w ?_
    rintro r h9 ⟨x10, rfl, w⟩
    show ex_G mX5_withdrawFrom (d + 4) 84 [.ref a_0, .ref a_1, .ref a_2] [.int x10] h9 bc bs Q
    exact ex_ireturn dX5_withdrawFrom_84 rfl (Or.inl rfl) w
  replace w := w.2
  replace w := w c2_0 c2_1 c2_2 c2_3
  have hsw : (ah_f h a_0 0).toInt < 0 ∨ 3 < (ah_f h a_0 0).toInt := by
    have := i32_ne c2_0 (a := 0) (by decide)
    have := i32_ne c2_1 (a := 1) (by decide)
    have := i32_ne c2_2 (a := 2) (by decide)
    have := i32_ne c2_3 (a := 3) (by decide)
    omega
  have hsq : sw_t 81 0 3 [32, 42, 52, 66] (ah_f h a_0 0).toInt = 81 := by
    rcases hsw with z | z
    · unfold sw_t; rw [if_pos (Or.inl z)]
    · unfold sw_t; rw [if_pos (Or.inr z)]
  refine ex_tsw (tgt := 85) dX5_withdrawFrom_4 (show ((4 : Nat) : Int) + sw_t 81 0 3 [32, 42, 52, 66] (ah_f h a_0 0).toInt = ((85 : Nat) : Int) by rw [hsq]; decide) ?_
  refine ex_aload_n (q := 86) (x := a_0) dX5_withdrawFrom_85 rfl ?_
  refine ex_aload_n (q := 87) (x := a_1) dX5_withdrawFrom_86 rfl ?_
  refine ex_iconst (q := 88) (v := 3) dX5_withdrawFrom_87 (by decide) ?_
  refine ex_callV (q := 91) (M := mX5_withdrawFrom) (hdd := Nat.le_refl _) (c := 5) (st := []) (bc := bc) (bs := bs) dX5_withdrawFrom_88 rfl cl_X5_56 wd_1127 wd_34 s1 w ?_
  rintro r h11 ⟨x12, rfl, w⟩
  show ex_G mX5_withdrawFrom (d + 4) 91 [.ref a_0, .ref a_1, .ref a_2] [.int x12] h11 bc bs Q
  exact ex_ireturn dX5_withdrawFrom_91 rfl (Or.inl rfl) w

theorem X5_withdrawFrom_e {d bc bs : Nat} {h : AH} {Q : Option Value → AH → Prop} {a_0 : Nat} {a_1 : Nat} {a_2 : Nat} (w : ex_G mX5_withdrawFrom (d + 4) 0 [.ref a_0, .ref a_1, .ref a_2] [] h bc bs Q) : ex_S yX5_withdrawFrom mX5_withdrawFrom (d + 4) [.ref a_0, .ref a_1, .ref a_2] h bc bs Q :=
  ex_enter (plainFor_of_name (by decide +kernel)) ⟨rfl, rfl⟩ rfl rfl (Nat.le_of_ble_eq_true rfl) (ex_pad 0 w)

set_option maxRecDepth 100000 in
theorem X5_takeStep_0 {d bc bs : Nat} {h : AH} {Q : Option Value → AH → Prop} {a_0 : Nat} {a_1 : Nat} {v_2 : Int32} (w : ∀ x1, x1 = v_2 / 3 → (((im_ v_2 3) = 0 → ex_S yX5_untwist mX5_untwist (d + 3) [.ref a_0, .ref a_1, .int x1] h 0 0 (fun r h3 => ∃ x4, r = some (.int x4) ∧ ((¬ x4 = 1 → Q (some (.int 0)) h3) ∧ (x4 = 1 → Q (some (.int 1)) h3)))) ∧ ((im_ v_2 3) = 1 → ex_S yX5_unpoke mX5_unpoke (d + 3) [.ref a_0, .ref a_1, .int x1] h 0 0 (fun r h6 => ∃ x7, r = some (.int x7) ∧ ((¬ x7 = 1 → Q (some (.int 0)) h6) ∧ (x7 = 1 → Q (some (.int 1)) h6)))) ∧ (¬ (im_ v_2 3) = 0 → ¬ (im_ v_2 3) = 1 → ex_S yX5_slide mX5_slide (d + 3) [.ref a_0, .ref a_1, .int x1] h 0 0 (fun r h9 => ∃ x10, r = some (.int x10) ∧ ((¬ x10 = 1 → Q (some (.int 0)) h9) ∧ (x10 = 1 → Q (some (.int 1)) h9)))))) : ex_G mX5_takeStep (d + 4) 0 [.ref a_0, .ref a_1, .int v_2, .retAddr 0] [] h bc bs Q := by
  refine ex_iload_n (q := 1) (x := v_2) dX5_takeStep_0 rfl ?_
  refine ex_iconst (q := 2) (v := 3) dX5_takeStep_1 (by decide) ?_
  refine ex_idiv (q := 3) dX5_takeStep_2 (by decide) ?_
  refine ex_nmi (fun x1 ex1 => ?_)
  replace w := w x1 ex1
  refine ex_istore_n (q := 4) (ls' := [.ref a_0, .ref a_1, .int v_2, .int x1]) dX5_takeStep_3 rfl ?_
  refine ex_iload_n (q := 5) (x := v_2) dX5_takeStep_4 rfl ?_
  refine ex_iconst (q := 6) (v := 3) dX5_takeStep_5 (by decide) ?_
  refine ex_irem (q := 7) dX5_takeStep_6 (by decide) ?_
  by_cases c2_0 : (im_ v_2 3) = 0
  · replace w := w.1 c2_0
    refine ex_lsw (tgt := 32) dX5_takeStep_7 (by rw [c2_0]; decide) ?_
    refine ex_aload_n (q := 33) (x := a_0) dX5_takeStep_32 rfl ?_
    refine ex_aload_n (q := 34) (x := a_1) dX5_takeStep_33 rfl ?_
    refine ex_iload_n (q := 35) (x := x1) dX5_takeStep_34 rfl ?_
    refine ex_callS (q := 38) (M := mX5_takeStep) (hdd := Nat.le_refl _) (st := []) (bc := bc) (bs := bs) dX5_takeStep_35 rfl cl_X5_60 wd_1155 w ?_
    rintro r h3 ⟨x4, rfl, w⟩
    show ex_G mX5_takeStep (d + 4) 38 [.ref a_0, .ref a_1, .int v_2, .int x1] [.int x4] h3 bc bs Q
    refine ex_iconst (q := 39) (v := 1) dX5_takeStep_38 (by decide) ?_
    refine ex_icmp_ne (tgt := 46) (q := 42) dX5_takeStep_39 (fun c5 => ?_) (fun c5 => ?_)
    · replace w := w.1 c5
      refine ex_iconst (q := 47) (v := 0) dX5_takeStep_46 (by decide) ?_
      exact ex_ireturn dX5_takeStep_47 rfl (Or.inr ⟨rfl, Or.inl rfl⟩) w
    · replace w := w.2 c5
      refine ex_iconst (q := 43) (v := 1) dX5_takeStep_42 (by decide) ?_
      refine ex_goto (tgt := 47) dX5_takeStep_43 ?_
      exact ex_ireturn dX5_takeStep_47 rfl (Or.inr ⟨rfl, Or.inr rfl⟩) w
  replace w := w.2
  by_cases c2_1 : (im_ v_2 3) = 1
  · replace w := w.1 c2_1
    refine ex_lsw (tgt := 48) dX5_takeStep_7 (by rw [c2_1]; decide) ?_
    refine ex_aload_n (q := 49) (x := a_0) dX5_takeStep_48 rfl ?_
    refine ex_aload_n (q := 50) (x := a_1) dX5_takeStep_49 rfl ?_
    refine ex_iload_n (q := 51) (x := x1) dX5_takeStep_50 rfl ?_
    refine ex_callS (q := 54) (M := mX5_takeStep) (hdd := Nat.le_refl _) (st := []) (bc := bc) (bs := bs) dX5_takeStep_51 rfl cl_X5_63 wd_1161 w ?_
    rintro r h6 ⟨x7, rfl, w⟩
    show ex_G mX5_takeStep (d + 4) 54 [.ref a_0, .ref a_1, .int v_2, .int x1] [.int x7] h6 bc bs Q
    refine ex_iconst (q := 55) (v := 1) dX5_takeStep_54 (by decide) ?_
    refine ex_icmp_ne (tgt := 62) (q := 58) dX5_takeStep_55 (fun c8 => ?_) (fun c8 => ?_)
    · replace w := w.1 c8
      refine ex_iconst (q := 63) (v := 0) dX5_takeStep_62 (by decide) ?_
      exact ex_ireturn dX5_takeStep_63 rfl (Or.inr ⟨rfl, Or.inl rfl⟩) w
    · replace w := w.2 c8
      refine ex_iconst (q := 59) (v := 1) dX5_takeStep_58 (by decide) ?_
      refine ex_goto (tgt := 63) dX5_takeStep_59 ?_
      exact ex_ireturn dX5_takeStep_63 rfl (Or.inr ⟨rfl, Or.inr rfl⟩) w
  replace w := w.2
  replace w := w c2_0 c2_1
  refine ex_lsw (tgt := 64) dX5_takeStep_7 (by rw [show Op.lookupswitch.offset _ _ _ = Op.lookupswitch.offset _ _ _ from lv_osw c2_0 (by decide)]; rw [show Op.lookupswitch.offset _ _ _ = Op.lookupswitch.offset _ _ _ from lv_osw c2_1 (by decide)]; exact rfl) ?_
  refine ex_aload_n (q := 65) (x := a_0) dX5_takeStep_64 rfl ?_
  refine ex_aload_n (q := 66) (x := a_1) dX5_takeStep_65 rfl ?_
  refine ex_iload_n (q := 67) (x := x1) dX5_takeStep_66 rfl ?_
  refine ex_callS (q := 70) (M := mX5_takeStep) (hdd := Nat.le_refl _) (st := []) (bc := bc) (bs := bs) dX5_takeStep_67 rfl cl_X5_45 wd_1073 w ?_
  rintro r h9 ⟨x10, rfl, w⟩
  show ex_G mX5_takeStep (d + 4) 70 [.ref a_0, .ref a_1, .int v_2, .int x1] [.int x10] h9 bc bs Q
  refine ex_iconst (q := 71) (v := 1) dX5_takeStep_70 (by decide) ?_
  refine ex_icmp_ne (tgt := 78) (q := 74) dX5_takeStep_71 (fun c11 => ?_) (fun c11 => ?_)
  · replace w := w.1 c11
    refine ex_iconst (q := 79) (v := 0) dX5_takeStep_78 (by decide) ?_
    exact ex_ireturn dX5_takeStep_79 rfl (Or.inr ⟨rfl, Or.inl rfl⟩) w
  · replace w := w.2 c11
    refine ex_iconst (q := 75) (v := 1) dX5_takeStep_74 (by decide) ?_
    refine ex_goto (tgt := 79) dX5_takeStep_75 ?_
    exact ex_ireturn dX5_takeStep_79 rfl (Or.inr ⟨rfl, Or.inr rfl⟩) w

theorem X5_takeStep_e {d bc bs : Nat} {h : AH} {Q : Option Value → AH → Prop} {a_0 : Nat} {a_1 : Nat} {v_2 : Int32} (w : ex_G mX5_takeStep (d + 4) 0 [.ref a_0, .ref a_1, .int v_2, .retAddr 0] [] h bc bs Q) : ex_S yX5_takeStep mX5_takeStep (d + 4) [.ref a_0, .ref a_1, .int v_2] h bc bs Q :=
  ex_enter (plainFor_of_name (by decide +kernel)) ⟨rfl, rfl⟩ rfl rfl (Nat.le_of_ble_eq_true rfl) (ex_pad 1 w)

set_option maxRecDepth 100000 in
theorem X5_seemsOpen_0 {d bc bs : Nat} {h : AH} {Q : Option Value → AH → Prop} {a_0 : Nat} {v_1 : Int32} (w : ∀ x1, x1 = v_1 / 3 → (((im_ v_1 3) = 0 → X5_isKink_C a_0 x1 h ∧ bo (X5_isKink_V a_0 x1 h) ∧ Q (some (.int (X5_isKink_V a_0 x1 h))) h) ∧ ((im_ v_1 3) = 1 → X5_isLens_C a_0 x1 h ∧ bo (X5_isLens_V a_0 x1 h) ∧ Q (some (.int (X5_isLens_V a_0 x1 h))) h) ∧ (¬ (im_ v_1 3) = 0 → ¬ (im_ v_1 3) = 1 → ex_S yX5_isTriangle mX5_isTriangle (d + 2) [.ref a_0, .int x1] h 0 0 (fun r h7 => ∃ x8, r = some (.int x8) ∧ bo x8 ∧ Q (some (.int x8)) h7)))) : ex_G mX5_seemsOpen (d + 3) 0 [.ref a_0, .int v_1, .retAddr 0] [] h bc bs Q := by
  refine ex_iload_n (q := 1) (x := v_1) dX5_seemsOpen_0 rfl ?_
  refine ex_iconst (q := 2) (v := 3) dX5_seemsOpen_1 (by decide) ?_
  refine ex_idiv (q := 3) dX5_seemsOpen_2 (by decide) ?_
  refine ex_nmi (fun x1 ex1 => ?_)
  replace w := w x1 ex1
  refine ex_istore_n (q := 4) (ls' := [.ref a_0, .int v_1, .int x1]) dX5_seemsOpen_3 rfl ?_
  refine ex_iload_n (q := 5) (x := v_1) dX5_seemsOpen_4 rfl ?_
  refine ex_iconst (q := 6) (v := 3) dX5_seemsOpen_5 (by decide) ?_
  refine ex_irem (q := 7) dX5_seemsOpen_6 (by decide) ?_
  by_cases c2_0 : (im_ v_1 3) = 0
  · replace w := w.1 c2_0
    refine ex_lsw (tgt := 32) dX5_seemsOpen_7 (by rw [c2_0]; decide) ?_
    refine ex_aload_n (q := 33) (x := a_0) dX5_seemsOpen_32 rfl ?_
    refine ex_iload_n (q := 34) (x := x1) dX5_seemsOpen_33 rfl ?_
    have s3 := w.1
    replace w := w.2
    refine ex_callS (q := 37) (M := mX5_seemsOpen) (hdd := Nat.le_refl _) (mc := 0) (ms := 0) (d' := (d + 2)) (st := []) (bc := bc) (bs := bs) dX5_seemsOpen_34 rfl cl_X5_70 wd_1158 (X5_isKink_s (Q := fun r z => r = some (.int (X5_isKink_V a_0 x1 h)) ∧ z = h) s3 ⟨rfl, rfl⟩) ?_
    intro r z hrz
    rw [hrz.1, hrz.2]
    show ex_G mX5_seemsOpen (d + 3) 37 [.ref a_0, .int v_1, .int x1] [.int (X5_isKink_V a_0 x1 h)] (h) bc bs Q
    have s4 := w.1
    replace w := w.2
    exact ex_ireturn dX5_seemsOpen_37 rfl (Or.inr ⟨rfl, s4⟩) w
  replace w := w.2
  by_cases c2_1 : (im_ v_1 3) = 1
  · replace w := w.1 c2_1
    refine ex_lsw (tgt := 38) dX5_seemsOpen_7 (by rw [c2_1]; decide) ?_
    refine ex_aload_n (q := 39) (x := a_0) dX5_seemsOpen_38 rfl ?_
    refine ex_iload_n (q := 40) (x := x1) dX5_seemsOpen_39 rfl ?_
    have s5 := w.1
    replace w := w.2
    refine ex_callS (q := 43) (M := mX5_seemsOpen) (hdd := Nat.le_refl _) (mc := 0) (ms := 0) (d' := (d + 2)) (st := []) (bc := bc) (bs := bs) dX5_seemsOpen_40 rfl cl_X5_74 wd_1164 (X5_isLens_s (Q := fun r z => r = some (.int (X5_isLens_V a_0 x1 h)) ∧ z = h) s5 ⟨rfl, rfl⟩) ?_
    intro r z hrz
    rw [hrz.1, hrz.2]
    show ex_G mX5_seemsOpen (d + 3) 43 [.ref a_0, .int v_1, .int x1] [.int (X5_isLens_V a_0 x1 h)] (h) bc bs Q
    have s6 := w.1
    replace w := w.2
    exact ex_ireturn dX5_seemsOpen_43 rfl (Or.inr ⟨rfl, s6⟩) w
  replace w := w.2
  replace w := w c2_0 c2_1
  refine ex_lsw (tgt := 44) dX5_seemsOpen_7 (by rw [show Op.lookupswitch.offset _ _ _ = Op.lookupswitch.offset _ _ _ from lv_osw c2_0 (by decide)]; rw [show Op.lookupswitch.offset _ _ _ = Op.lookupswitch.offset _ _ _ from lv_osw c2_1 (by decide)]; exact rfl) ?_
  refine ex_aload_n (q := 45) (x := a_0) dX5_seemsOpen_44 rfl ?_
  refine ex_iload_n (q := 46) (x := x1) dX5_seemsOpen_45 rfl ?_
  refine ex_callS (q := 49) (M := mX5_seemsOpen) (hdd := Nat.le_refl _) (st := []) (bc := bc) (bs := bs) dX5_seemsOpen_46 rfl cl_X5_77 wd_1076 w ?_
  rintro r h7 ⟨x8, rfl, w⟩
  show ex_G mX5_seemsOpen (d + 3) 49 [.ref a_0, .int v_1, .int x1] [.int x8] h7 bc bs Q
  have s9 := w.1
  replace w := w.2
  exact ex_ireturn dX5_seemsOpen_49 rfl (Or.inr ⟨rfl, s9⟩) w

theorem X5_seemsOpen_e {d bc bs : Nat} {h : AH} {Q : Option Value → AH → Prop} {a_0 : Nat} {v_1 : Int32} (w : ex_G mX5_seemsOpen (d + 3) 0 [.ref a_0, .int v_1, .retAddr 0] [] h bc bs Q) : ex_S yX5_seemsOpen mX5_seemsOpen (d + 3) [.ref a_0, .int v_1] h bc bs Q :=
  ex_enter (plainFor_of_name (by decide +kernel)) ⟨rfl, rfl⟩ rfl rfl (Nat.le_of_ble_eq_true rfl) (ex_pad 1 w)

set_option maxRecDepth 100000 in
theorem X5_twist_0 {d bc bs : Nat} {h : AH} {Q : Option Value → AH → Prop} {a_0 : Nat} {a_1 : Nat} {a_2 : Nat} (w : ah_o h a_0 5 ∧ ((¬ (ah_f h a_0 1) = (-1) → ex_G mX5_twist (d + 2) 13 [.ref a_0, .ref a_1, .ref a_2, .retAddr 0, .retAddr 0, .retAddr 0, .retAddr 0] [.int 0] h bc bs Q) ∧ ((ah_f h a_0 1) = (-1) → ex_G mX5_twist (d + 2) 13 [.ref a_0, .ref a_1, .ref a_2, .retAddr 0, .retAddr 0, .retAddr 0, .retAddr 0] [.int 1] h bc bs Q))) : ex_G mX5_twist (d + 2) 0 [.ref a_0, .ref a_1, .ref a_2, .retAddr 0, .retAddr 0, .retAddr 0, .retAddr 0] [] h bc bs Q := by
  refine ex_aload_n (q := 1) (x := a_0) dX5_twist_0 rfl ?_
  have s1 := w.1
  replace w := w.2
  refine ex_getf (q := 4) dX5_twist_1 fl_X5_15 s1 ?_
  refine ex_iconst (q := 5) (v := (-1)) dX5_twist_4 (by decide) ?_
  refine ex_icmp_ne (tgt := 12) (q := 8) dX5_twist_5 (fun c2 => ?_) (fun c2 => ?_)
  · replace w := w.1 c2
    refine ex_iconst (q := 13) (v := 0) dX5_twist_12 (by decide) ?_
    exact w
  · replace w := w.2 c2
    refine ex_iconst (q := 9) (v := 1) dX5_twist_8 (by decide) ?_
    refine ex_goto (tgt := 13) dX5_twist_9 ?_
    exact w

set_option maxRecDepth 100000 in
theorem X5_twist_13 {d bc bs : Nat} {h : AH} {Q : Option Value → AH → Prop} {a_0 : Nat} {a_1 : Nat} {a_2 : Nat} {u_0 : Int32} (w : ah_o h a_0 5 ∧ (((ah_f h a_0 2) < 0 → Q (some (.int (-15))) h) ∧ (¬ (ah_f h a_0 2) < 0 → ((3 < (ah_f h a_0 2) → Q (some (.int (-15))) h) ∧ (¬ 3 < (ah_f h a_0 2) → ((u_0 = 0 → ah_o h a_2 4 ∧ X4_hasEnd_C a_2 (ah_f h a_0 1) h ∧ ((¬ (X4_hasEnd_V a_2 (ah_f h a_0 1) h) = 0 → ex_G mX5_twist (d + 2) 58 [.ref a_0, .ref a_1, .ref a_2, .int u_0, .retAddr 0, .retAddr 0, .retAddr 0] [] h bc bs Q) ∧ ((X4_hasEnd_V a_2 (ah_f h a_0 1) h) = 0 → Q (some (.int (-15))) h))) ∧ (¬ u_0 = 0 → ah_o h a_1 7 ∧ ((1 ≤ (ah_f h a_1 3) → ex_G mX5_twist (d + 2) 58 [.ref a_0, .ref a_1, .ref a_2, .int u_0, .retAddr 0, .retAddr 0, .retAddr 0] [] h bc bs Q) ∧ (¬ 1 ≤ (ah_f h a_1 3) → Q (some (.int (-15))) h))))))))) : ex_G mX5_twist (d + 2) 13 [.ref a_0, .ref a_1, .ref a_2, .retAddr 0, .retAddr 0, .retAddr 0, .retAddr 0] [.int u_0] h bc bs Q := by
  refine ex_istore_n (q := 14) (ls' := [.ref a_0, .ref a_1, .ref a_2, .int u_0, .retAddr 0, .retAddr 0, .retAddr 0]) dX5_twist_13 rfl ?_
  refine ex_aload_n (q := 15) (x := a_0) dX5_twist_14 rfl ?_
  have s1 := w.1
  replace w := w.2
  refine ex_getf (q := 18) dX5_twist_15 fl_X5_18 s1 ?_
  refine ex_if_lt (tgt := 55) (q := 21) dX5_twist_18 (fun c2 => ?_) (fun c2 => ?_)
  · replace w := w.1 c2
    refine ex_bipush (q := 57) (v := (-15)) dX5_twist_55 (by decide) ?_
    exact ex_ireturn dX5_twist_57 rfl (Or.inl rfl) w
  · replace w := w.2 c2
    refine ex_aload_n (q := 22) (x := a_0) dX5_twist_21 rfl ?_
    refine ex_getf (q := 25) dX5_twist_22 fl_X5_18 s1 ?_
    refine ex_iconst (q := 26) (v := 3) dX5_twist_25 (by decide) ?_
    refine ex_icmp_gt (tgt := 55) (q := 29) dX5_twist_26 (fun c3 => ?_) (fun c3 => ?_)
    · replace w := w.1 c3
      refine ex_bipush (q := 57) (v := (-15)) dX5_twist_55 (by decide) ?_
      exact ex_ireturn dX5_twist_57 rfl (Or.inl rfl) w
    · replace w := w.2 c3
      refine ex_iload_n (q := 30) (x := u_0) dX5_twist_29 rfl ?_
      refine ex_if_eq (tgt := 44) (q := 33) dX5_twist_30 (fun c4 => ?_) (fun c4 => ?_)
      · replace w := w.1 c4
        refine ex_aload_n (q := 45) (x := a_2) dX5_twist_44 rfl ?_
        refine ex_aload_n (q := 46) (x := a_0) dX5_twist_45 rfl ?_
        refine ex_getf (q := 49) dX5_twist_46 fl_X5_15 s1 ?_
        have s5 := w.1
        replace w := w.2
        have s6 := w.1
        replace w := w.2
        refine ex_callV (q := 52) (M := mX5_twist) (hdd := Nat.le_refl _) (mc := 0) (ms := 0) (d' := (d + 1)) (c := 4) (st := []) (bc := bc) (bs := bs) dX5_twist_49 rfl cl_X5_85 wd_734 wd_735 s5 (X4_hasEnd_s (Q := fun r z => r = some (.int (X4_hasEnd_V a_2 (ah_f h a_0 1) h)) ∧ z = h) s6 ⟨rfl, rfl⟩) ?_
        intro r z hrz
        rw [hrz.1, hrz.2]
        show ex_G mX5_twist (d + 2) 52 [.ref a_0, .ref a_1, .ref a_2, .int u_0, .retAddr 0, .retAddr 0, .retAddr 0] [.int (X4_hasEnd_V a_2 (ah_f h a_0 1) h)] (h) bc bs Q
        refine ex_if_ne (tgt := 58) (q := 55) dX5_twist_52 (fun c7 => ?_) (fun c7 => ?_)
        · replace w := w.1 c7
          exact w
        · replace w := w.2 c7
          refine ex_bipush (q := 57) (v := (-15)) dX5_twist_55 (by decide) ?_
          exact ex_ireturn dX5_twist_57 rfl (Or.inl rfl) w
      · replace w := w.2 c4
        refine ex_aload_n (q := 34) (x := a_1) dX5_twist_33 rfl ?_
        have s8 := w.1
        replace w := w.2
        refine ex_getf (q := 37) dX5_twist_34 fl_X5_80 s8 ?_
        refine ex_iconst (q := 38) (v := 1) dX5_twist_37 (by decide) ?_
        refine ex_icmp_ge (tgt := 58) (q := 41) dX5_twist_38 (fun c9 => ?_) (fun c9 => ?_)
        · replace w := w.1 c9
          exact w
        · replace w := w.2 c9
          refine ex_goto (tgt := 55) dX5_twist_41 ?_
          refine ex_bipush (q := 57) (v := (-15)) dX5_twist_55 (by decide) ?_
          exact ex_ireturn dX5_twist_57 rfl (Or.inl rfl) w

set_option maxRecDepth 100000 in
theorem X5_twist_58 {d bc bs : Nat} {h : AH} {Q : Option Value → AH → Prop} {a_0 : Nat} {a_1 : Nat} {a_2 : Nat} {v_3 : Int32} (w : ah_o h a_1 7 ∧ (((ah_f h a_1 2) < 40 → ((v_3 = 0 → ∃ a4, ah_r h a_1 1 = some a4 ∧ ah_o h a_0 5 ∧ ld0 h a4 (ah_f h a_0 1) ∧ ∀ x7, x7 = ah_i h a4 (Int32.toNatClampNeg (ah_f h a_0 1)) → ex_S yX7_freeArc mX7_freeArc (d + 1) [.ref a_1, .int (-1)] h 0 0 (fun r h8 => ∃ x9, r = some (.int x9) ∧ ah_o h8 a_1 7 ∧ ex_S yX7_freeArc mX7_freeArc (d + 1) [.ref a_1, .int x9] h8 0 0 (fun r h10 => ∃ x12, r = some (.int x12) ∧ ah_o h10 a_1 7 ∧ ∃ a14, ah_r h10 a_1 1 = some a14 ∧ ah_o h10 a_2 4 ∧ ∃ a16, ah_r h10 a_2 0 = some a16 ∧ ah_o h10 a_0 5 ∧ ld0 h10 a16 (ah_f h10 a_0 1) ∧ st0 h10 a14 (ah_i h10 a16 (Int32.toNatClampNeg (ah_f h10 a_0 1))) ∧ ∀ h19, h19 = ah_si h10 a14 (Int32.toNatClampNeg (ah_i h10 a16 (Int32.toNatClampNeg (ah_f h10 a_0 1)))) x12 → ex_S yX5_addKink mX5_addKink (d + 1) [.ref a_0, .ref a_1, .int x7, .int x9, .int x12] h19 0 0 (fun r h21 => r = none ∧ Q (some (.int 1)) h21)))) ∧ (¬ v_3 = 0 → ex_S yX7_freeArc mX7_freeArc (d + 1) [.ref a_1, .int (-1)] h 0 0 (fun r h22 => ∃ x23, r = some (.int x23) ∧ ah_o h22 a_1 7 ∧ ∀ h25, h25 = ah_sf h22 a_1 3 ((ah_f h22 a_1 3) - 1) → ex_S yX7_freeArc mX7_freeArc (d + 1) [.ref a_1, .int x23] h25 0 0 (fun r h26 => ∃ x27, r = some (.int x27) ∧ ah_o h26 a_0 5 ∧ ex_S yX5_addKink mX5_addKink (d + 1) [.ref a_0, .ref a_1, .int x23, .int x27, .int x23] h26 0 0 (fun r h28 => r = none ∧ Q (some (.int 1)) h28)))))) ∧ (¬ (ah_f h a_1 2) < 40 → Q (some (.int (-18))) h))) : ex_G mX5_twist (d + 2) 58 [.ref a_0, .ref a_1, .ref a_2, .int v_3, .retAddr 0, .retAddr 0, .retAddr 0] [] h bc bs Q := by
  refine ex_aload_n (q := 59) (x := a_1) dX5_twist_58 rfl ?_
  have s1 := w.1
  replace w := w.2
  refine ex_getf (q := 62) dX5_twist_59 fl_X5_90 s1 ?_
  refine ex_bipush (q := 64) (v := 40) dX5_twist_62 (by decide) ?_
  refine ex_icmp_lt (tgt := 70) (q := 67) dX5_twist_64 (fun c2 => ?_) (fun c2 => ?_)
  · replace w := w.1 c2
    refine ex_iload_n (q := 71) (x := v_3) dX5_twist_70 rfl ?_
    refine ex_if_eq (tgt := 108) (q := 74) dX5_twist_71 (fun c3 => ?_) (fun c3 => ?_)
    · replace w := w.1 c3
      refine ex_aload_n (q := 109) (x := a_1) dX5_twist_108 rfl ?_
      obtain ⟨a4, ea4, w⟩ := w
      refine ex_getr (q := 112) dX5_twist_109 fl_X5_101 s1 ea4 ?_
      refine ex_aload_n (q := 113) (x := a_0) dX5_twist_112 rfl ?_
      have s5 := w.1
      replace w := w.2
      refine ex_getf (q := 116) dX5_twist_113 fl_X5_15 s5 ?_
      have s6 := w.1
      replace w := w.2
      refine ex_iald (q := 117) dX5_twist_116 s6 ?_
      refine ex_nmi (fun x7 ex7 => ?_)
      replace w := w x7 ex7
      refine ex_istore (q := 119) (ls' := [.ref a_0, .ref a_1, .ref a_2, .int v_3, .int x7, .retAddr 0, .retAddr 0]) dX5_twist_117 rfl ?_
      refine ex_aload_n (q := 120) (x := a_1) dX5_twist_119 rfl ?_
      refine ex_iconst (q := 121) (v := (-1)) dX5_twist_120 (by decide) ?_
      refine ex_callV (q := 124) (M := mX5_twist) (hdd := Nat.le_refl _) (c := 7) (st := []) (bc := bc) (bs := bs) dX5_twist_121 rfl cl_X5_93 wd_743 wd_744 s1 w ?_
      rintro r h8 ⟨x9, rfl, w⟩
      show ex_G mX5_twist (d + 2) 124 [.ref a_0, .ref a_1, .ref a_2, .int v_3, .int x7, .retAddr 0, .retAddr 0] [.int x9] h8 bc bs Q
      refine ex_istore (q := 126) (ls' := [.ref a_0, .ref a_1, .ref a_2, .int v_3, .int x7, .int x9, .retAddr 0]) dX5_twist_124 rfl ?_
      refine ex_aload_n (q := 127) (x := a_1) dX5_twist_126 rfl ?_
      refine ex_iload (q := 129) (x := x9) dX5_twist_127 rfl ?_
      have s11 := w.1
      replace w := w.2
      refine ex_callV (q := 132) (M := mX5_twist) (hdd := Nat.le_refl _) (c := 7) (st := []) (bc := bc) (bs := bs) dX5_twist_129 rfl cl_X5_93 wd_743 wd_744 s11 w ?_
      rintro r h10 ⟨x12, rfl, w⟩
      show ex_G mX5_twist (d + 2) 132 [.ref a_0, .ref a_1, .ref a_2, .int v_3, .int x7, .int x9, .retAddr 0] [.int x12] h10 bc bs Q
      refine ex_istore (q := 134) (ls' := [.ref a_0, .ref a_1, .ref a_2, .int v_3, .int x7, .int x9, .int x12]) dX5_twist_132 rfl ?_
      refine ex_aload_n (q := 135) (x := a_1) dX5_twist_134 rfl ?_
      have s13 := w.1
      replace w := w.2
      obtain ⟨a14, ea14, w⟩ := w
      refine ex_getr (q := 138) dX5_twist_135 fl_X5_101 s13 ea14 ?_
      refine ex_aload_n (q := 139) (x := a_2) dX5_twist_138 rfl ?_
      have s15 := w.1
      replace w := w.2
      obtain ⟨a16, ea16, w⟩ := w
      refine ex_getr (q := 142) dX5_twist_139 fl_X5_104 s15 ea16 ?_
      refine ex_aload_n (q := 143) (x := a_0) dX5_twist_142 rfl ?_
      have s17 := w.1
      replace w := w.2
      refine ex_getf (q := 146) dX5_twist_143 fl_X5_15 s17 ?_
      have s18 := w.1
      replace w := w.2
      refine ex_iald (q := 147) dX5_twist_146 s18 ?_
      refine ex_iload (q := 149) (x := x12) dX5_twist_147 rfl ?_
      have s20 := w.1
      replace w := w.2
      refine ex_iast (q := 150) dX5_twist_149 s20 ?_
      refine ex_nmh (fun h19 eh19 => ?_)
      replace w := w h19 eh19
      refine ex_aload_n (q := 151) (x := a_0) dX5_twist_150 rfl ?_
      refine ex_aload_n (q := 152) (x := a_1) dX5_twist_151 rfl ?_
      refine ex_iload (q := 154) (x := x7) dX5_twist_152 rfl ?_
      refine ex_iload (q := 156) (x := x9) dX5_twist_154 rfl ?_
      refine ex_iload (q := 158) (x := x12) dX5_twist_156 rfl ?_
      refine ex_callV (q := 161) (M := mX5_twist) (hdd := Nat.le_refl _) (c := 5) (st := []) (bc := bc) (bs := bs) dX5_twist_158 rfl cl_X5_97 wd_1065 wd_30 (by rw [eh19]; exact s17) w ?_
      rintro r h21 ⟨rfl, w⟩
      show ex_G mX5_twist (d + 2) 161 [.ref a_0, .ref a_1, .ref a_2, .int v_3, .int x7, .int x9, .int x12] [] h21 bc bs Q
      refine ex_iconst (q := 162) (v := 1) dX5_twist_161 (by decide) ?_
      exact ex_ireturn dX5_twist_162 rfl (Or.inl rfl) w
    · replace w := w.2 c3
      refine ex_aload_n (q := 75) (x := a_1) dX5_twist_74 rfl ?_
      refine ex_iconst (q := 76) (v := (-1)) dX5_twist_75 (by decide) ?_
      refine ex_callV (q := 79) (M := mX5_twist) (hdd := Nat.le_refl _) (c := 7) (st := []) (bc := bc) (bs := bs) dX5_twist_76 rfl cl_X5_93 wd_743 wd_744 s1 w ?_
      rintro r h22 ⟨x23, rfl, w⟩
      show ex_G mX5_twist (d + 2) 79 [.ref a_0, .ref a_1, .ref a_2, .int v_3, .retAddr 0, .retAddr 0, .retAddr 0] [.int x23] h22 bc bs Q
      refine ex_istore (q := 81) (ls' := [.ref a_0, .ref a_1, .ref a_2, .int v_3, .int x23, .retAddr 0, .retAddr 0]) dX5_twist_79 rfl ?_
      refine ex_aload_n (q := 82) (x := a_1) dX5_twist_81 rfl ?_
      refine ex_dup (q := 83) dX5_twist_82 rfl ?_
      have s24 := w.1
      replace w := w.2
      refine ex_getf (q := 86) dX5_twist_83 fl_X5_80 s24 ?_
      refine ex_iconst (q := 87) (v := 1) dX5_twist_86 (by decide) ?_
      refine ex_isub (q := 88) dX5_twist_87 ?_
      refine ex_putf (q := 91) dX5_twist_88 fl_X5_80 (Or.inl rfl) s24 (Or.inl rfl) ?_
      refine ex_nmh (fun h25 eh25 => ?_)
      replace w := w h25 eh25
      refine ex_aload_n (q := 92) (x := a_0) dX5_twist_91 rfl ?_
      refine ex_aload_n (q := 93) (x := a_1) dX5_twist_92 rfl ?_
      refine ex_iload (q := 95) (x := x23) dX5_twist_93 rfl ?_
      refine ex_aload_n (q := 96) (x := a_1) dX5_twist_95 rfl ?_
      refine ex_iload (q := 98) (x := x23) dX5_twist_96 rfl ?_
      refine ex_callV (q := 101) (M := mX5_twist) (hdd := Nat.le_refl _) (c := 7) (st := [.int x23, .ref a_1, .ref a_0]) (bc := bc) (bs := bs) dX5_twist_98 rfl cl_X5_93 wd_743 wd_744 (by rw [eh25]; exact s24) w ?_
      rintro r h26 ⟨x27, rfl, w⟩
      show ex_G mX5_twist (d + 2) 101 [.ref a_0, .ref a_1, .ref a_2, .int v_3, .int x23, .retAddr 0, .retAddr 0] [.int x27, .int x23, .ref a_1, .ref a_0] h26 bc bs Q
      refine ex_iload (q := 103) (x := x23) dX5_twist_101 rfl ?_
      have s29 := w.1
      replace w := w.2
      refine ex_callV (q := 106) (M := mX5_twist) (hdd := Nat.le_refl _) (c := 5) (st := []) (bc := bc) (bs := bs) dX5_twist_103 rfl cl_X5_97 wd_1065 wd_30 s29 w ?_
      rintro r h28 ⟨rfl, w⟩
      show ex_G mX5_twist (d + 2) 106 [.ref a_0, .ref a_1, .ref a_2, .int v_3, .int x23, .retAddr 0, .retAddr 0] [] h28 bc bs Q
      refine ex_iconst (q := 107) (v := 1) dX5_twist_106 (by decide) ?_
      exact ex_ireturn dX5_twist_107 rfl (Or.inl rfl) w
  · replace w := w.2 c2
    refine ex_bipush (q := 69) (v := (-18)) dX5_twist_67 (by decide) ?_
    exact ex_ireturn dX5_twist_69 rfl (Or.inl rfl) w

theorem X5_twist_e {d bc bs : Nat} {h : AH} {Q : Option Value → AH → Prop} {a_0 : Nat} {a_1 : Nat} {a_2 : Nat} (w : ex_G mX5_twist (d + 2) 0 [.ref a_0, .ref a_1, .ref a_2, .retAddr 0, .retAddr 0, .retAddr 0, .retAddr 0] [] h bc bs Q) : ex_S yX5_twist mX5_twist (d + 2) [.ref a_0, .ref a_1, .ref a_2] h bc bs Q :=
  ex_enter (plainFor_of_name (by decide +kernel)) ⟨rfl, rfl⟩ rfl rfl (Nat.le_of_ble_eq_true rfl) (ex_pad 4 w)

set_option maxRecDepth 100000 in
theorem X5_addKink_0 {d bc bs : Nat} {h : AH} {Q : Option Value → AH → Prop} {a_0 : Nat} {a_1 : Nat} {v_2 : Int32} {v_3 : Int32} {v_4 : Int32} (w : ah_o h a_0 5 ∧ (((ah_f h a_0 2) = 0 → ah_o h a_1 7 ∧ ex_S yX7_add mX7_add d [.ref a_1, .int v_2, .int v_3, .int v_3, .int v_4] h 0 0 (fun r h3 => r = none ∧ Q none h3)) ∧ ((ah_f h a_0 2) = 1 → ah_o h a_1 7 ∧ ex_S yX7_add mX7_add d [.ref a_1, .int v_2, .int v_4, .int v_3, .int v_3] h 0 0 (fun r h5 => r = none ∧ Q none h5)) ∧ ((ah_f h a_0 2) = 2 → ah_o h a_1 7 ∧ ex_S yX7_add mX7_add d [.ref a_1, .int v_3, .int v_3, .int v_4, .int v_2] h 0 0 (fun r h7 => r = none ∧ Q none h7)) ∧ (¬ (ah_f h a_0 2) = 0 → ¬ (ah_f h a_0 2) = 1 → ¬ (ah_f h a_0 2) = 2 → ah_o h a_1 7 ∧ ex_S yX7_add mX7_add d [.ref a_1, .int v_4, .int v_3, .int v_3, .int v_2] h 0 0 (fun r h9 => r = none ∧ Q none h9)))) : ex_G mX5_addKink (d + 1) 0 [.ref a_0, .ref a_1, .int v_2, .int v_3, .int v_4] [] h bc bs Q := by
  refine ex_aload_n (q := 1) (x := a_0) dX5_addKink_0 rfl ?_
  have s1 := w.1
  replace w := w.2
  refine ex_getf (q := 4) dX5_addKink_1 fl_X5_18 s1 ?_
  by_cases c2_0 : (ah_f h a_0 2) = 0
  · replace w := w.1 c2_0
    refine ex_tsw (tgt := 32) dX5_addKink_4 (by rw [c2_0]; decide) ?_
    refine ex_aload_n (q := 33) (x := a_1) dX5_addKink_32 rfl ?_
    refine ex_iload_n (q := 34) (x := v_2) dX5_addKink_33 rfl ?_
    refine ex_iload_n (q := 35) (x := v_3) dX5_addKink_34 rfl ?_
    refine ex_iload_n (q := 36) (x := v_3) dX5_addKink_35 rfl ?_
    refine ex_iload (q := 38) (x := v_4) dX5_addKink_36 rfl ?_
    have s4 := w.1
    replace w := w.2
    refine ex_callV (q := 41) (M := mX5_addKink) (hdd := Nat.le_refl _) (c := 7) (st := []) (bc := bc) (bs := bs) dX5_addKink_38 rfl cl_X5_107 wd_594 wd_595 s4 w ?_
    rintro r h3 ⟨rfl, w⟩
    show ex_G mX5_addKink (d + 1) 41 [.ref a_0, .ref a_1, .int v_2, .int v_3, .int v_4] [] h3 bc bs Q
    refine ex_goto (tgt := 77) dX5_addKink_41 ?_
    exact ex_return dX5_addKink_77 w
  replace w := w.2
  by_cases c2_1 : (ah_f h a_0 2) = 1
  · replace w := w.1 c2_1
    refine ex_tsw (tgt := 44) dX5_addKink_4 (by rw [c2_1]; decide) ?_
    refine ex_aload_n (q := 45) (x := a_1) dX5_addKink_44 rfl ?_
    refine ex_iload_n (q := 46) (x := v_2) dX5_addKink_45 rfl ?_
    refine ex_iload (q := 48) (x := v_4) dX5_addKink_46 rfl ?_
    refine ex_iload_n (q := 49) (x := v_3) dX5_addKink_48 rfl ?_
    refine ex_iload_n (q := 50) (x := v_3) dX5_addKink_49 rfl ?_
    have s6 := w.1
    replace w := w.2
    refine ex_callV (q := 53) (M := mX5_addKink) (hdd := Nat.le_refl _) (c := 7) (st := []) (bc := bc) (bs := bs) dX5_addKink_50 rfl cl_X5_107 wd_594 wd_595 s6 w ?_
    rintro r h5 ⟨rfl, w⟩
    show ex_G mX5_addKink (d + 1) 53 [.ref a_0, .ref a_1, .int v_2, .int v_3, .int v_4] [] h5 bc bs Q
    refine ex_goto (tgt := 77) dX5_addKink_53 ?_
    exact ex_return dX5_addKink_77 w
  replace w := w.2
  by_cases c2_2 : (ah_f h a_0 2) = 2
  · replace w := w.1 c2_2
    refine ex_tsw (tgt := 56) dX5_addKink_4 (by rw [c2_2]; decide) ?_
    refine ex_aload_n (q := 57) (x := a_1) dX5_addKink_56 rfl ?_
    refine ex_iload_n (q := 58) (x := v_3) dX5_addKink_57 rfl ?_
    refine ex_iload_n (q := 59) (x := v_3) dX5_addKink_58 rfl ?_
    refine ex_iload (q := 61) (x := v_4) dX5_addKink_59 rfl ?_
    refine ex_iload_n (q := 62) (x := v_2) dX5_addKink_61 rfl ?_
    have s8 := w.1
    replace w := w.2
    refine ex_callV (q := 65) (M := mX5_addKink) (hdd := Nat.le_refl _) (c := 7) (st := []) (bc := bc) (bs := bs) dX5_addKink_62 rfl cl_X5_107 wd_594 wd_595 s8 w ?_
    rintro r h7 ⟨rfl, w⟩
    show ex_G mX5_addKink (d + 1) 65 [.ref a_0, .ref a_1, .int v_2, .int v_3, .int v_4] [] h7 bc bs Q
    refine ex_goto (tgt := 77) dX5_addKink_65 ?_
    exact ex_return dX5_addKink_77 w
  replace w := w.2
  replace w := w c2_0 c2_1 c2_2
  have hsw : (ah_f h a_0 2).toInt < 0 ∨ 2 < (ah_f h a_0 2).toInt := by
    have := i32_ne c2_0 (a := 0) (by decide)
    have := i32_ne c2_1 (a := 1) (by decide)
    have := i32_ne c2_2 (a := 2) (by decide)
    omega
  have hsq : sw_t 64 0 2 [28, 40, 52] (ah_f h a_0 2).toInt = 64 := by
    rcases hsw with z | z
    · unfold sw_t; rw [if_pos (Or.inl z)]
    · unfold sw_t; rw [if_pos (Or.inr z)]
  refine ex_tsw (tgt := 68) dX5_addKink_4 (show ((4 : Nat) : Int) + sw_t 64 0 2 [28, 40, 52] (ah_f h a_0 2).toInt = ((68 : Nat) : Int) by rw [hsq]; decide) ?_
  refine ex_aload_n (q := 69) (x := a_1) dX5_addKink_68 rfl ?_
  refine ex_iload (q := 71) (x := v_4) dX5_addKink_69 rfl ?_
  refine ex_iload_n (q := 72) (x := v_3) dX5_addKink_71 rfl ?_
  refine ex_iload_n (q := 73) (x := v_3) dX5_addKink_72 rfl ?_
  refine ex_iload_n (q := 74) (x := v_2) dX5_addKink_73 rfl ?_
  have s10 := w.1
  replace w := w.2
  refine ex_callV (q := 77) (M := mX5_addKink) (hdd := Nat.le_refl _) (c := 7) (st := []) (bc := bc) (bs := bs) dX5_addKink_74 rfl cl_X5_107 wd_594 wd_595 s10 w ?_
  rintro r h9 ⟨rfl, w⟩
  show ex_G mX5_addKink (d + 1) 77 [.ref a_0, .ref a_1, .int v_2, .int v_3, .int v_4] [] h9 bc bs Q
  exact ex_return dX5_addKink_77 w

theorem X5_addKink_e {d bc bs : Nat} {h : AH} {Q : Option Value → AH → Prop} {a_0 : Nat} {a_1 : Nat} {v_2 : Int32} {v_3 : Int32} {v_4 : Int32} (w : ex_G mX5_addKink (d + 1) 0 [.ref a_0, .ref a_1, .int v_2, .int v_3, .int v_4] [] h bc bs Q) : ex_S yX5_addKink mX5_addKink (d + 1) [.ref a_0, .ref a_1, .int v_2, .int v_3, .int v_4] h bc bs Q :=
  ex_enter (plainFor_of_name (by decide +kernel)) ⟨rfl, rfl⟩ rfl rfl (Nat.le_of_ble_eq_true rfl) (ex_pad 0 w)

set_option maxRecDepth 100000 in
theorem X5_poke_0 {d bc bs : Nat} {h : AH} {Q : Option Value → AH → Prop} {a_0 : Nat} {a_1 : Nat} {a_2 : Nat} (w : ah_o h a_0 5 ∧ ah_o h a_2 4 ∧ X4_hasEnd_C a_2 (ah_f h a_0 1) h ∧ (((X4_hasEnd_V a_2 (ah_f h a_0 1) h) = 0 → Q (some (.int (-15))) h) ∧ (¬ (X4_hasEnd_V a_2 (ah_f h a_0 1) h) = 0 → X4_hasEnd_C a_2 (ah_f h a_0 2) h ∧ (((X4_hasEnd_V a_2 (ah_f h a_0 2) h) = 0 → Q (some (.int (-15))) h) ∧ (¬ (X4_hasEnd_V a_2 (ah_f h a_0 2) h) = 0 → (((ah_f h a_0 3) < 0 → Q (some (.int (-15))) h) ∧ (¬ (ah_f h a_0 3) < 0 → ((1 < (ah_f h a_0 3) → Q (some (.int (-15))) h) ∧ (¬ 1 < (ah_f h a_0 3) → ∃ a9, ah_r h a_2 1 = some a9 ∧ ld0 h a9 (ah_f h a_0 1) ∧ ld0 h a9 (ah_f h a_0 2) ∧ ((¬ (ah_i h a9 (Int32.toNatClampNeg (ah_f h a_0 1))) = (ah_i h a9 (Int32.toNatClampNeg (ah_f h a_0 2))) → Q (some (.int (-15))) h) ∧ ((ah_i h a9 (Int32.toNatClampNeg (ah_f h a_0 1))) = (ah_i h a9 (Int32.toNatClampNeg (ah_f h a_0 2))) → ah_o h a_1 7 ∧ ∃ a14, ah_r h a_1 1 = some a14 ∧ ld0 h a14 (ah_f h a_0 1) ∧ ld0 h a14 (ah_f h a_0 2) ∧ ((¬ (ah_i h a14 (Int32.toNatClampNeg (ah_f h a_0 1))) = (ah_i h a14 (Int32.toNatClampNeg (ah_f h a_0 2))) → ((((ah_f h a_1 2) + 2) ≤ 40 → ∀ x19, x19 = ah_i h a14 (Int32.toNatClampNeg (ah_f h a_0 1)) → ∀ x20, x20 = ah_i h a14 (Int32.toNatClampNeg (ah_f h a_0 2)) → ex_S yX7_freeArc mX7_freeArc d [.ref a_1, .int (-1)] h 0 0 (fun r h21 => ∃ x22, r = some (.int x22) ∧ ah_o h21 a_1 7 ∧ ex_S yX7_freeArc mX7_freeArc d [.ref a_1, .int x22] h21 0 0 (fun r h23 => ∃ x25, r = some (.int x25) ∧ ah_o h23 a_1 7 ∧ ex_S yX7_freeArc mX7_freeArc d [.ref a_1, .int x25] h23 0 0 (fun r h26 => ∃ x28, r = some (.int x28) ∧ ah_o h26 a_1 7 ∧ ex_S yX7_freeArc mX7_freeArc d [.ref a_1, .int x28] h26 0 0 (fun r h29 => ∃ x31, r = some (.int x31) ∧ ah_o h29 a_1 7 ∧ ∃ a33, ah_r h29 a_1 1 = some a33 ∧ ah_o h29 a_2 4 ∧ ∃ a35, ah_r h29 a_2 0 = some a35 ∧ ah_o h29 a_0 5 ∧ ld0 h29 a35 (ah_f h29 a_0 1) ∧ st0 h29 a33 (ah_i h29 a35 (Int32.toNatClampNeg (ah_f h29 a_0 1))) ∧ ∀ h38, h38 = ah_si h29 a33 (Int32.toNatClampNeg (ah_i h29 a35 (Int32.toNatClampNeg (ah_f h29 a_0 1)))) x25 → ld0 h38 a35 (ah_f h38 a_0 2) ∧ st0 h38 a33 (ah_i h38 a35 (Int32.toNatClampNeg (ah_f h38 a_0 2))) ∧ ∀ h41, h41 = ah_si h38 a33 (Int32.toNatClampNeg (ah_i h38 a35 (Int32.toNatClampNeg (ah_f h38 a_0 2)))) x31 → ((¬ (ah_f h41 a_0 3) = 0 → ex_S yX7_add mX7_add d [.ref a_1, .int x19, .int x28, .int x22, .int x31] h41 0 0 (fun r h44 => r = none ∧ ah_o h44 a_1 7 ∧ ex_S yX7_add mX7_add d [.ref a_1, .int x25, .int x20, .int x22, .int x28] h44 0 0 (fun r h45 => r = none ∧ Q (some (.int 1)) h45))) ∧ ((ah_f h41 a_0 3) = 0 → ex_S yX7_add mX7_add d [.ref a_1, .int x28, .int x22, .int x31, .int x19] h41 0 0 (fun r h47 => r = none ∧ ah_o h47 a_1 7 ∧ ex_S yX7_add mX7_add d [.ref a_1, .int x20, .int x22, .int x28, .int x25] h47 0 0 (fun r h48 => r = none ∧ Q (some (.int 1)) h48))))))))) ∧ (¬ ((ah_f h a_1 2) + 2) ≤ 40 → Q (some (.int (-18))) h))) ∧ ((ah_i h a14 (Int32.toNatClampNeg (ah_f h a_0 1))) = (ah_i h a14 (Int32.toNatClampNeg (ah_f h a_0 2))) → Q (some (.int (-15))) h))))))))))))) : ex_G mX5_poke (d + 1) 0 [.ref a_0, .ref a_1, .ref a_2, .retAddr 0, .retAddr 0, .retAddr 0, .retAddr 0, .retAddr 0, .retAddr 0] [] h bc bs Q := by
  refine ex_aload_n (q := 1) (x := a_2) dX5_poke_0 rfl ?_
  refine ex_aload_n (q := 2) (x := a_0) dX5_poke_1 rfl ?_
  have s1 := w.1
  replace w := w.2
  refine ex_getf (q := 5) dX5_poke_2 fl_X5_15 s1 ?_
  have s2 := w.1
  replace w := w.2
  have s3 := w.1
  replace w := w.2
  refine ex_callV (q := 8) (M := mX5_poke) (hdd := Nat.le_refl _) (mc := 0) (ms := 0) (d' := d) (c := 4) (st := []) (bc := bc) (bs := bs) dX5_poke_5 rfl cl_X5_85 wd_734 wd_735 s2 (X4_hasEnd_s (Q := fun r z => r = some (.int (X4_hasEnd_V a_2 (ah_f h a_0 1) h)) ∧ z = h) s3 ⟨rfl, rfl⟩) ?_
  intro r z hrz
  rw [hrz.1, hrz.2]
  show ex_G mX5_poke (d + 1) 8 [.ref a_0, .ref a_1, .ref a_2, .retAddr 0, .retAddr 0, .retAddr 0, .retAddr 0, .retAddr 0, .retAddr 0] [.int (X4_hasEnd_V a_2 (ah_f h a_0 1) h)] (h) bc bs Q
  refine ex_if_eq (tgt := 79) (q := 11) dX5_poke_8 (fun c4 => ?_) (fun c4 => ?_)
  · replace w := w.1 c4
    refine ex_bipush (q := 81) (v := (-15)) dX5_poke_79 (by decide) ?_
    exact ex_ireturn dX5_poke_81 rfl (Or.inl rfl) w
  · replace w := w.2 c4
    refine ex_aload_n (q := 12) (x := a_2) dX5_poke_11 rfl ?_
    refine ex_aload_n (q := 13) (x := a_0) dX5_poke_12 rfl ?_
    refine ex_getf (q := 16) dX5_poke_13 fl_X5_18 s1 ?_
    have s5 := w.1
    replace w := w.2
    refine ex_callV (q := 19) (M := mX5_poke) (hdd := Nat.le_refl _) (mc := 0) (ms := 0) (d' := d) (c := 4) (st := []) (bc := bc) (bs := bs) dX5_poke_16 rfl cl_X5_85 wd_734 wd_735 s2 (X4_hasEnd_s (Q := fun r z => r = some (.int (X4_hasEnd_V a_2 (ah_f h a_0 2) h)) ∧ z = h) s5 ⟨rfl, rfl⟩) ?_
    intro r z hrz
    rw [hrz.1, hrz.2]
    show ex_G mX5_poke (d + 1) 19 [.ref a_0, .ref a_1, .ref a_2, .retAddr 0, .retAddr 0, .retAddr 0, .retAddr 0, .retAddr 0, .retAddr 0] [.int (X4_hasEnd_V a_2 (ah_f h a_0 2) h)] (h) bc bs Q
    refine ex_if_eq (tgt := 79) (q := 22) dX5_poke_19 (fun c6 => ?_) (fun c6 => ?_)
    · replace w := w.1 c6
      refine ex_bipush (q := 81) (v := (-15)) dX5_poke_79 (by decide) ?_
      exact ex_ireturn dX5_poke_81 rfl (Or.inl rfl) w
    · replace w := w.2 c6
      refine ex_aload_n (q := 23) (x := a_0) dX5_poke_22 rfl ?_
      refine ex_getf (q := 26) dX5_poke_23 fl_X5_21 s1 ?_
      refine ex_if_lt (tgt := 79) (q := 29) dX5_poke_26 (fun c7 => ?_) (fun c7 => ?_)
      · replace w := w.1 c7
        refine ex_bipush (q := 81) (v := (-15)) dX5_poke_79 (by decide) ?_
        exact ex_ireturn dX5_poke_81 rfl (Or.inl rfl) w
      · replace w := w.2 c7
        refine ex_aload_n (q := 30) (x := a_0) dX5_poke_29 rfl ?_
        refine ex_getf (q := 33) dX5_poke_30 fl_X5_21 s1 ?_
        refine ex_iconst (q := 34) (v := 1) dX5_poke_33 (by decide) ?_
        refine ex_icmp_gt (tgt := 79) (q := 37) dX5_poke_34 (fun c8 => ?_) (fun c8 => ?_)
        · replace w := w.1 c8
          refine ex_bipush (q := 81) (v := (-15)) dX5_poke_79 (by decide) ?_
          exact ex_ireturn dX5_poke_81 rfl (Or.inl rfl) w
        · replace w := w.2 c8
          refine ex_aload_n (q := 38) (x := a_2) dX5_poke_37 rfl ?_
          obtain ⟨a9, ea9, w⟩ := w
          refine ex_getr (q := 41) dX5_poke_38 fl_X5_110 s2 ea9 ?_
          refine ex_aload_n (q := 42) (x := a_0) dX5_poke_41 rfl ?_
          refine ex_getf (q := 45) dX5_poke_42 fl_X5_15 s1 ?_
          have s10 := w.1
          replace w := w.2
          refine ex_iald (q := 46) dX5_poke_45 s10 ?_
          refine ex_aload_n (q := 47) (x := a_2) dX5_poke_46 rfl ?_
          refine ex_getr (q := 50) dX5_poke_47 fl_X5_110 s2 ea9 ?_
          refine ex_aload_n (q := 51) (x := a_0) dX5_poke_50 rfl ?_
          refine ex_getf (q := 54) dX5_poke_51 fl_X5_18 s1 ?_
          have s11 := w.1
          replace w := w.2
          refine ex_iald (q := 55) dX5_poke_54 s11 ?_
          refine ex_icmp_ne (tgt := 79) (q := 58) dX5_poke_55 (fun c12 => ?_) (fun c12 => ?_)
          · replace w := w.1 c12
            refine ex_bipush (q := 81) (v := (-15)) dX5_poke_79 (by decide) ?_
            exact ex_ireturn dX5_poke_81 rfl (Or.inl rfl) w
          · replace w := w.2 c12
            refine ex_aload_n (q := 59) (x := a_1) dX5_poke_58 rfl ?_
            have s13 := w.1
            replace w := w.2
            obtain ⟨a14, ea14, w⟩ := w
            refine ex_getr (q := 62) dX5_poke_59 fl_X5_101 s13 ea14 ?_
            refine ex_aload_n (q := 63) (x := a_0) dX5_poke_62 rfl ?_
            refine ex_getf (q := 66) dX5_poke_63 fl_X5_15 s1 ?_
            have s15 := w.1
            replace w := w.2
            refine ex_iald (q := 67) dX5_poke_66 s15 ?_
            refine ex_aload_n (q := 68) (x := a_1) dX5_poke_67 rfl ?_
            refine ex_getr (q := 71) dX5_poke_68 fl_X5_101 s13 ea14 ?_
            refine ex_aload_n (q := 72) (x := a_0) dX5_poke_71 rfl ?_
            refine ex_getf (q := 75) dX5_poke_72 fl_X5_18 s1 ?_
            have s16 := w.1
            replace w := w.2
            refine ex_iald (q := 76) dX5_poke_75 s16 ?_
            refine ex_icmp_ne (tgt := 82) (q := 79) dX5_poke_76 (fun c17 => ?_) (fun c17 => ?_)
            · replace w := w.1 c17
              refine ex_aload_n (q := 83) (x := a_1) dX5_poke_82 rfl ?_
              refine ex_getf (q := 86) dX5_poke_83 fl_X5_90 s13 ?_
              refine ex_iconst (q := 87) (v := 2) dX5_poke_86 (by decide) ?_
              refine ex_iadd (q := 88) dX5_poke_87 ?_
              refine ex_bipush (q := 90) (v := 40) dX5_poke_88 (by decide) ?_
              refine ex_icmp_le (tgt := 96) (q := 93) dX5_poke_90 (fun c18 => ?_) (fun c18 => ?_)
              · replace w := w.1 c18
                refine ex_aload_n (q := 97) (x := a_1) dX5_poke_96 rfl ?_
                refine ex_getr (q := 100) dX5_poke_97 fl_X5_101 s13 ea14 ?_
                refine ex_aload_n (q := 101) (x := a_0) dX5_poke_100 rfl ?_
                refine ex_getf (q := 104) dX5_poke_101 fl_X5_15 s1 ?_
                refine ex_iald (q := 105) dX5_poke_104 s15 ?_
                refine ex_nmi (fun x19 ex19 => ?_)
                replace w := w x19 ex19
                refine ex_istore_n (q := 106) (ls' := [.ref a_0, .ref a_1, .ref a_2, .int x19, .retAddr 0, .retAddr 0, .retAddr 0, .retAddr 0, .retAddr 0]) dX5_poke_105 rfl ?_
                refine ex_aload_n (q := 107) (x := a_1) dX5_poke_106 rfl ?_
                refine ex_getr (q := 110) dX5_poke_107 fl_X5_101 s13 ea14 ?_
                refine ex_aload_n (q := 111) (x := a_0) dX5_poke_110 rfl ?_
                refine ex_getf (q := 114) dX5_poke_111 fl_X5_18 s1 ?_
                refine ex_iald (q := 115) dX5_poke_114 s16 ?_
                refine ex_nmi (fun x20 ex20 => ?_)
                replace w := w x20 ex20
                refine ex_istore (q := 117) (ls' := [.ref a_0, .ref a_1, .ref a_2, .int x19, .int x20, .retAddr 0, .retAddr 0, .retAddr 0, .retAddr 0]) dX5_poke_115 rfl ?_
                refine ex_aload_n (q := 118) (x := a_1) dX5_poke_117 rfl ?_
                refine ex_iconst (q := 119) (v := (-1)) dX5_poke_118 (by decide) ?_
                refine ex_callV (q := 122) (M := mX5_poke) (hdd := Nat.le_refl _) (c := 7) (st := []) (bc := bc) (bs := bs) dX5_poke_119 rfl cl_X5_93 wd_743 wd_744 s13 w ?_
                rintro r h21 ⟨x22, rfl, w⟩
                show ex_G mX5_poke (d + 1) 122 [.ref a_0, .ref a_1, .ref a_2, .int x19, .int x20, .retAddr 0, .retAddr 0, .retAddr 0, .retAddr 0] [.int x22] h21 bc bs Q
                refine ex_istore (q := 124) (ls' := [.ref a_0, .ref a_1, .ref a_2, .int x19, .int x20, .int x22, .retAddr 0, .retAddr 0, .retAddr 0]) dX5_poke_122 rfl ?_
                refine ex_aload_n (q := 125) (x := a_1) dX5_poke_124 rfl ?_
                refine ex_iload (q := 127) (x := x22) dX5_poke_125 rfl ?_
                have s24 := w.1
                replace w := w.2
                refine ex_callV (q := 130) (M := mX5_poke) (hdd := Nat.le_refl _) (c := 7) (st := []) (bc := bc) (bs := bs) dX5_poke_127 rfl cl_X5_93 wd_743 wd_744 s24 w ?_
                rintro r h23 ⟨x25, rfl, w⟩
                show ex_G mX5_poke (d + 1) 130 [.ref a_0, .ref a_1, .ref a_2, .int x19, .int x20, .int x22, .retAddr 0, .retAddr 0, .retAddr 0] [.int x25] h23 bc bs Q
                refine ex_istore (q := 132) (ls' := [.ref a_0, .ref a_1, .ref a_2, .int x19, .int x20, .int x22, .int x25, .retAddr 0, .retAddr 0]) dX5_poke_130 rfl ?_
                refine ex_aload_n (q := 133) (x := a_1) dX5_poke_132 rfl ?_
                refine ex_iload (q := 135) (x := x25) dX5_poke_133 rfl ?_
                have s27 := w.1
                replace w := w.2
                refine ex_callV (q := 138) (M := mX5_poke) (hdd := Nat.le_refl _) (c := 7) (st := []) (bc := bc) (bs := bs) dX5_poke_135 rfl cl_X5_93 wd_743 wd_744 s27 w ?_
                rintro r h26 ⟨x28, rfl, w⟩
                show ex_G mX5_poke (d + 1) 138 [.ref a_0, .ref a_1, .ref a_2, .int x19, .int x20, .int x22, .int x25, .retAddr 0, .retAddr 0] [.int x28] h26 bc bs Q
                refine ex_istore (q := 140) (ls' := [.ref a_0, .ref a_1, .ref a_2, .int x19, .int x20, .int x22, .int x25, .int x28, .retAddr 0]) dX5_poke_138 rfl ?_
                refine ex_aload_n (q := 141) (x := a_1) dX5_poke_140 rfl ?_
                refine ex_iload (q := 143) (x := x28) dX5_poke_141 rfl ?_
                have s30 := w.1
                replace w := w.2
                refine ex_callV (q := 146) (M := mX5_poke) (hdd := Nat.le_refl _) (c := 7) (st := []) (bc := bc) (bs := bs) dX5_poke_143 rfl cl_X5_93 wd_743 wd_744 s30 w ?_
                rintro r h29 ⟨x31, rfl, w⟩
                show ex_G mX5_poke (d + 1) 146 [.ref a_0, .ref a_1, .ref a_2, .int x19, .int x20, .int x22, .int x25, .int x28, .retAddr 0] [.int x31] h29 bc bs Q
                refine ex_istore (q := 148) (ls' := [.ref a_0, .ref a_1, .ref a_2, .int x19, .int x20, .int x22, .int x25, .int x28, .int x31]) dX5_poke_146 rfl ?_
                refine ex_aload_n (q := 149) (x := a_1) dX5_poke_148 rfl ?_
                have s32 := w.1
                replace w := w.2
                obtain ⟨a33, ea33, w⟩ := w
                refine ex_getr (q := 152) dX5_poke_149 fl_X5_101 s32 ea33 ?_
                refine ex_aload_n (q := 153) (x := a_2) dX5_poke_152 rfl ?_
                have s34 := w.1
                replace w := w.2
                obtain ⟨a35, ea35, w⟩ := w
                refine ex_getr (q := 156) dX5_poke_153 fl_X5_104 s34 ea35 ?_
                refine ex_aload_n (q := 157) (x := a_0) dX5_poke_156 rfl ?_
                have s36 := w.1
                replace w := w.2
                refine ex_getf (q := 160) dX5_poke_157 fl_X5_15 s36 ?_
                have s37 := w.1
                replace w := w.2
                refine ex_iald (q := 161) dX5_poke_160 s37 ?_
                refine ex_iload (q := 163) (x := x25) dX5_poke_161 rfl ?_
                have s39 := w.1
                replace w := w.2
                refine ex_iast (q := 164) dX5_poke_163 s39 ?_
                refine ex_nmh (fun h38 eh38 => ?_)
                replace w := w h38 eh38
                refine ex_aload_n (q := 165) (x := a_1) dX5_poke_164 rfl ?_
                refine ex_getr (q := 168) dX5_poke_165 fl_X5_101 (by rw [eh38]; exact s32) (by rw [eh38]; exact ea33) ?_
                refine ex_aload_n (q := 169) (x := a_2) dX5_poke_168 rfl ?_
                refine ex_getr (q := 172) dX5_poke_169 fl_X5_104 (by rw [eh38]; exact s34) (by rw [eh38]; exact ea35) ?_
                refine ex_aload_n (q := 173) (x := a_0) dX5_poke_172 rfl ?_
                refine ex_getf (q := 176) dX5_poke_173 fl_X5_18 (by rw [eh38]; exact s36) ?_
                have s40 := w.1
                replace w := w.2
                refine ex_iald (q := 177) dX5_poke_176 s40 ?_
                refine ex_iload (q := 179) (x := x31) dX5_poke_177 rfl ?_
                have s42 := w.1
                replace w := w.2
                refine ex_iast (q := 180) dX5_poke_179 s42 ?_
                refine ex_nmh (fun h41 eh41 => ?_)
                replace w := w h41 eh41
                refine ex_aload_n (q := 181) (x := a_0) dX5_poke_180 rfl ?_
                refine ex_getf (q := 184) dX5_poke_181 fl_X5_21 (by rw [eh41]; exact (by rw [eh38]; exact s36)) ?_
                refine ex_if_ne (tgt := 213) (q := 187) dX5_poke_184 (fun c43 => ?_) (fun c43 => ?_)
                · replace w := w.1 c43
                  refine ex_aload_n (q := 214) (x := a_1) dX5_poke_213 rfl ?_
                  refine ex_iload_n (q := 215) (x := x19) dX5_poke_214 rfl ?_
                  refine ex_iload (q := 217) (x := x28) dX5_poke_215 rfl ?_
                  refine ex_iload (q := 219) (x := x22) dX5_poke_217 rfl ?_
                  refine ex_iload (q := 221) (x := x31) dX5_poke_219 rfl ?_
                  refine ex_callV (q := 224) (M := mX5_poke) (hdd := Nat.le_refl _) (c := 7) (st := []) (bc := bc) (bs := bs) dX5_poke_221 rfl cl_X5_107 wd_594 wd_595 (by rw [eh41]; exact (by rw [eh38]; exact s32)) w ?_
                  rintro r h44 ⟨rfl, w⟩
                  show ex_G mX5_poke (d + 1) 224 [.ref a_0, .ref a_1, .ref a_2, .int x19, .int x20, .int x22, .int x25, .int x28, .int x31] [] h44 bc bs Q
                  refine ex_aload_n (q := 225) (x := a_1) dX5_poke_224 rfl ?_
                  refine ex_iload (q := 227) (x := x25) dX5_poke_225 rfl ?_
                  refine ex_iload (q := 229) (x := x20) dX5_poke_227 rfl ?_
                  refine ex_iload (q := 231) (x := x22) dX5_poke_229 rfl ?_
                  refine ex_iload (q := 233) (x := x28) dX5_poke_231 rfl ?_
                  have s46 := w.1
                  replace w := w.2
                  refine ex_callV (q := 236) (M := mX5_poke) (hdd := Nat.le_refl _) (c := 7) (st := []) (bc := bc) (bs := bs) dX5_poke_233 rfl cl_X5_107 wd_594 wd_595 s46 w ?_
                  rintro r h45 ⟨rfl, w⟩
                  show ex_G mX5_poke (d + 1) 236 [.ref a_0, .ref a_1, .ref a_2, .int x19, .int x20, .int x22, .int x25, .int x28, .int x31] [] h45 bc bs Q
                  refine ex_iconst (q := 237) (v := 1) dX5_poke_236 (by decide) ?_
                  exact ex_ireturn dX5_poke_237 rfl (Or.inl rfl) w
                · replace w := w.2 c43
                  refine ex_aload_n (q := 188) (x := a_1) dX5_poke_187 rfl ?_
                  refine ex_iload (q := 190) (x := x28) dX5_poke_188 rfl ?_
                  refine ex_iload (q := 192) (x := x22) dX5_poke_190 rfl ?_
                  refine ex_iload (q := 194) (x := x31) dX5_poke_192 rfl ?_
                  refine ex_iload_n (q := 195) (x := x19) dX5_poke_194 rfl ?_
                  refine ex_callV (q := 198) (M := mX5_poke) (hdd := Nat.le_refl _) (c := 7) (st := []) (bc := bc) (bs := bs) dX5_poke_195 rfl cl_X5_107 wd_594 wd_595 (by rw [eh41]; exact (by rw [eh38]; exact s32)) w ?_
                  rintro r h47 ⟨rfl, w⟩
                  show ex_G mX5_poke (d + 1) 198 [.ref a_0, .ref a_1, .ref a_2, .int x19, .int x20, .int x22, .int x25, .int x28, .int x31] [] h47 bc bs Q
                  refine ex_aload_n (q := 199) (x := a_1) dX5_poke_198 rfl ?_
                  refine ex_iload (q := 201) (x := x20) dX5_poke_199 rfl ?_
                  refine ex_iload (q := 203) (x := x22) dX5_poke_201 rfl ?_
                  refine ex_iload (q := 205) (x := x28) dX5_poke_203 rfl ?_
                  refine ex_iload (q := 207) (x := x25) dX5_poke_205 rfl ?_
                  have s49 := w.1
                  replace w := w.2
                  refine ex_callV (q := 210) (M := mX5_poke) (hdd := Nat.le_refl _) (c := 7) (st := []) (bc := bc) (bs := bs) dX5_poke_207 rfl cl_X5_107 wd_594 wd_595 s49 w ?_
                  rintro r h48 ⟨rfl, w⟩
                  show ex_G mX5_poke (d + 1) 210 [.ref a_0, .ref a_1, .ref a_2, .int x19, .int x20, .int x22, .int x25, .int x28, .int x31] [] h48 bc bs Q
                  refine ex_goto (tgt := 236) dX5_poke_210 ?_
                  refine ex_iconst (q := 237) (v := 1) dX5_poke_236 (by decide) ?_
                  exact ex_ireturn dX5_poke_237 rfl (Or.inl rfl) w
              · replace w := w.2 c18
                refine ex_bipush (q := 95) (v := (-18)) dX5_poke_93 (by decide) ?_
                exact ex_ireturn dX5_poke_95 rfl (Or.inl rfl) w
            · replace w := w.2 c17
              refine ex_bipush (q := 81) (v := (-15)) dX5_poke_79 (by decide) ?_
              exact ex_ireturn dX5_poke_81 rfl (Or.inl rfl) w

theorem X5_poke_e {d bc bs : Nat} {h : AH} {Q : Option Value → AH → Prop} {a_0 : Nat} {a_1 : Nat} {a_2 : Nat} (w : ex_G mX5_poke (d + 1) 0 [.ref a_0, .ref a_1, .ref a_2, .retAddr 0, .retAddr 0, .retAddr 0, .retAddr 0, .retAddr 0, .retAddr 0] [] h bc bs Q) : ex_S yX5_poke mX5_poke (d + 1) [.ref a_0, .ref a_1, .ref a_2] h bc bs Q :=
  ex_enter (plainFor_of_name (by decide +kernel)) ⟨rfl, rfl⟩ rfl rfl (Nat.le_of_ble_eq_true rfl) (ex_pad 6 w)

set_option maxRecDepth 100000 in
theorem X5_untwist_0 {d bc bs : Nat} {h : AH} {Q : Option Value → AH → Prop} {a_0 : Nat} {a_1 : Nat} {v_2 : Int32} (w : X5_isKink_C a_1 v_2 h ∧ ((¬ (X5_isKink_V a_1 v_2 h) = 0 → ah_o h a_0 7 ∧ ∃ a4, ah_r h a_0 1 = some a4 ∧ ld0 h a4 (X11_corner_V v_2 2 h) ∧ ld0 h a4 (X11_corner_V v_2 3 h) ∧ ex_S yX7_fuse mX7_fuse (d + 2) [.ref a_0, .int (ah_i h a4 (Int32.toNatClampNeg (X11_corner_V v_2 2 h))), .int (ah_i h a4 (Int32.toNatClampNeg (X11_corner_V v_2 3 h)))] h 0 0 (fun r h7 => r = none ∧ ah_o h7 a_0 7 ∧ ex_S yX7_remove mX7_remove (d + 2) [.ref a_0, .int (v_2 >>> (2 &&& (31 : Int32)))] h7 0 0 (fun r h8 => r = none ∧ X5_loopsAnswer_C a_0 h8 ∧ Q (some (.int (X5_loopsAnswer_V a_0 h8))) h8))) ∧ ((X5_isKink_V a_1 v_2 h) = 0 → Q (some (.int (-15))) h))) : ex_G mX5_untwist (d + 3) 0 [.ref a_0, .ref a_1, .int v_2] [] h bc bs Q := by
  refine ex_aload_n (q := 1) (x := a_1) dX5_untwist_0 rfl ?_
  refine ex_iload_n (q := 2) (x := v_2) dX5_untwist_1 rfl ?_
  have s1 := w.1
  replace w := w.2
  refine ex_callS (q := 5) (M := mX5_untwist) (hdd := Nat.le_refl _) (mc := 0) (ms := 0) (d' := (d + 2)) (st := []) (bc := bc) (bs := bs) dX5_untwist_2 rfl cl_X5_70 wd_1158 (X5_isKink_s (Q := fun r z => r = some (.int (X5_isKink_V a_1 v_2 h)) ∧ z = h) s1 ⟨rfl, rfl⟩) ?_
  intro r z hrz
  rw [hrz.1, hrz.2]
  show ex_G mX5_untwist (d + 3) 5 [.ref a_0, .ref a_1, .int v_2] [.int (X5_isKink_V a_1 v_2 h)] (h) bc bs Q
  refine ex_if_ne (tgt := 11) (q := 8) dX5_untwist_5 (fun c2 => ?_) (fun c2 => ?_)
  · replace w := w.1 c2
    refine ex_aload_n (q := 12) (x := a_0) dX5_untwist_11 rfl ?_
    refine ex_aload_n (q := 13) (x := a_0) dX5_untwist_12 rfl ?_
    have s3 := w.1
    replace w := w.2
    obtain ⟨a4, ea4, w⟩ := w
    refine ex_getr (q := 16) dX5_untwist_13 fl_X5_101 s3 ea4 ?_
    refine ex_iload_n (q := 17) (x := v_2) dX5_untwist_16 rfl ?_
    refine ex_iconst (q := 18) (v := 2) dX5_untwist_17 (by decide) ?_
    refine ex_callS (q := 21) (M := mX5_untwist) (hdd := Nat.le_refl _) (mc := 0) (ms := 0) (d' := (d + 2)) (st := [.ref a4, .ref a_0]) (bc := bc) (bs := bs) dX5_untwist_18 rfl cl_X5_66 wd_663 (X11_corner_s (Q := fun r z => r = some (.int (X11_corner_V v_2 2 h)) ∧ z = h) ⟨rfl, rfl⟩) ?_
    intro r z hrz
    rw [hrz.1, hrz.2]
    show ex_G mX5_untwist (d + 3) 21 [.ref a_0, .ref a_1, .int v_2] [.int (X11_corner_V v_2 2 h), .ref a4, .ref a_0] (h) bc bs Q
    have s5 := w.1
    replace w := w.2
    refine ex_iald (q := 22) dX5_untwist_21 s5 ?_
    refine ex_aload_n (q := 23) (x := a_0) dX5_untwist_22 rfl ?_
    refine ex_getr (q := 26) dX5_untwist_23 fl_X5_101 s3 ea4 ?_
    refine ex_iload_n (q := 27) (x := v_2) dX5_untwist_26 rfl ?_
    refine ex_iconst (q := 28) (v := 3) dX5_untwist_27 (by decide) ?_
    refine ex_callS (q := 31) (M := mX5_untwist) (hdd := Nat.le_refl _) (mc := 0) (ms := 0) (d' := (d + 2)) (st := [.ref a4, .int (ah_i h a4 (Int32.toNatClampNeg (X11_corner_V v_2 2 h))), .ref a_0]) (bc := bc) (bs := bs) dX5_untwist_28 rfl cl_X5_66 wd_663 (X11_corner_s (Q := fun r z => r = some (.int (X11_corner_V v_2 3 h)) ∧ z = h) ⟨rfl, rfl⟩) ?_
    intro r z hrz
    rw [hrz.1, hrz.2]
    show ex_G mX5_untwist (d + 3) 31 [.ref a_0, .ref a_1, .int v_2] [.int (X11_corner_V v_2 3 h), .ref a4, .int (ah_i h a4 (Int32.toNatClampNeg (X11_corner_V v_2 2 h))), .ref a_0] (h) bc bs Q
    have s6 := w.1
    replace w := w.2
    refine ex_iald (q := 32) dX5_untwist_31 s6 ?_
    refine ex_callV (q := 35) (M := mX5_untwist) (hdd := Nat.le_refl _) (c := 7) (st := []) (bc := bc) (bs := bs) dX5_untwist_32 rfl cl_X5_113 wd_1115 wd_1116 s3 w ?_
    rintro r h7 ⟨rfl, w⟩
    show ex_G mX5_untwist (d + 3) 35 [.ref a_0, .ref a_1, .int v_2] [] h7 bc bs Q
    refine ex_aload_n (q := 36) (x := a_0) dX5_untwist_35 rfl ?_
    refine ex_iload_n (q := 37) (x := v_2) dX5_untwist_36 rfl ?_
    refine ex_iconst (q := 38) (v := 2) dX5_untwist_37 (by decide) ?_
    refine ex_ishr (q := 39) dX5_untwist_38 ?_
    have s9 := w.1
    replace w := w.2
    refine ex_callV (q := 42) (M := mX5_untwist) (hdd := Nat.le_refl _) (c := 7) (st := []) (bc := bc) (bs := bs) dX5_untwist_39 rfl cl_X5_117 wd_1119 wd_1120 s9 w ?_
    rintro r h8 ⟨rfl, w⟩
    show ex_G mX5_untwist (d + 3) 42 [.ref a_0, .ref a_1, .int v_2] [] h8 bc bs Q
    refine ex_aload_n (q := 43) (x := a_0) dX5_untwist_42 rfl ?_
    have s10 := w.1
    replace w := w.2
    refine ex_callS (q := 46) (M := mX5_untwist) (hdd := Nat.le_refl _) (mc := 0) (ms := 0) (d' := (d + 2)) (st := []) (bc := bc) (bs := bs) dX5_untwist_43 rfl cl_X5_121 wd_1123 (X5_loopsAnswer_s (Q := fun r z => r = some (.int (X5_loopsAnswer_V a_0 h8)) ∧ z = h8) s10 ⟨rfl, rfl⟩) ?_
    intro r z hrz
    rw [hrz.1, hrz.2]
    show ex_G mX5_untwist (d + 3) 46 [.ref a_0, .ref a_1, .int v_2] [.int (X5_loopsAnswer_V a_0 h8)] (h8) bc bs Q
    exact ex_ireturn dX5_untwist_46 rfl (Or.inl rfl) w
  · replace w := w.2 c2
    refine ex_bipush (q := 10) (v := (-15)) dX5_untwist_8 (by decide) ?_
    exact ex_ireturn dX5_untwist_10 rfl (Or.inl rfl) w

theorem X5_untwist_e {d bc bs : Nat} {h : AH} {Q : Option Value → AH → Prop} {a_0 : Nat} {a_1 : Nat} {v_2 : Int32} (w : ex_G mX5_untwist (d + 3) 0 [.ref a_0, .ref a_1, .int v_2] [] h bc bs Q) : ex_S yX5_untwist mX5_untwist (d + 3) [.ref a_0, .ref a_1, .int v_2] h bc bs Q :=
  ex_enter (plainFor_of_name (by decide +kernel)) ⟨rfl, rfl⟩ rfl rfl (Nat.le_of_ble_eq_true rfl) (ex_pad 0 w)

set_option maxRecDepth 100000 in
theorem X5_unpoke_0 {d bc bs : Nat} {h : AH} {Q : Option Value → AH → Prop} {a_0 : Nat} {a_1 : Nat} {v_2 : Int32} (w : X5_isLens_C a_1 v_2 h ∧ ((¬ (X5_isLens_V a_1 v_2 h) = 0 → ah_o h a_1 4 ∧ ∃ a4, ah_r h a_1 0 = some a4 ∧ ld0 h a4 v_2 ∧ ∀ x6, x6 = ah_i h a4 (Int32.toNatClampNeg v_2) → ah_o h a_0 7 ∧ ∃ a8, ah_r h a_0 1 = some a8 ∧ ld0 h a8 (X11_corner_V v_2 2 h) ∧ ld0 h a8 (X11_corner_V x6 2 h) ∧ ex_S yX7_fuse mX7_fuse (d + 2) [.ref a_0, .int (ah_i h a8 (Int32.toNatClampNeg (X11_corner_V v_2 2 h))), .int (ah_i h a8 (Int32.toNatClampNeg (X11_corner_V x6 2 h)))] h 0 0 (fun r h11 => r = none ∧ ah_o h11 a_0 7 ∧ ∃ a13, ah_r h11 a_0 1 = some a13 ∧ ld0 h11 a13 (X11_corner_V v_2 3 h11) ∧ ld0 h11 a13 (X11_corner_V x6 1 h11) ∧ ex_S yX7_fuse mX7_fuse (d + 2) [.ref a_0, .int (ah_i h11 a13 (Int32.toNatClampNeg (X11_corner_V v_2 3 h11))), .int (ah_i h11 a13 (Int32.toNatClampNeg (X11_corner_V x6 1 h11)))] h11 0 0 (fun r h16 => r = none ∧ ah_o h16 a_0 7 ∧ ex_S yX7_remove mX7_remove (d + 2) [.ref a_0, .int (J9_max_7cf53_V (v_2 >>> (2 &&& (31 : Int32))) (x6 >>> (2 &&& (31 : Int32))) h16)] h16 0 0 (fun r h17 => r = none ∧ ah_o h17 a_0 7 ∧ ex_S yX7_remove mX7_remove (d + 2) [.ref a_0, .int (J9_min_7cf53_V (v_2 >>> (2 &&& (31 : Int32))) (x6 >>> (2 &&& (31 : Int32))) h17)] h17 0 0 (fun r h19 => r = none ∧ X5_loopsAnswer_C a_0 h19 ∧ Q (some (.int (X5_loopsAnswer_V a_0 h19))) h19))))) ∧ ((X5_isLens_V a_1 v_2 h) = 0 → Q (some (.int (-15))) h))) : ex_G mX5_unpoke (d + 3) 0 [.ref a_0, .ref a_1, .int v_2, .retAddr 0] [] h bc bs Q := by
  refine ex_aload_n (q := 1) (x := a_1) dX5_unpoke_0 rfl ?_
  refine ex_iload_n (q := 2) (x := v_2) dX5_unpoke_1 rfl ?_
  have s1 := w.1
  replace w := w.2
  refine ex_callS (q := 5) (M := mX5_unpoke) (hdd := Nat.le_refl _) (mc := 0) (ms := 0) (d' := (d + 2)) (st := []) (bc := bc) (bs := bs) dX5_unpoke_2 rfl cl_X5_74 wd_1164 (X5_isLens_s (Q := fun r z => r = some (.int (X5_isLens_V a_1 v_2 h)) ∧ z = h) s1 ⟨rfl, rfl⟩) ?_
  intro r z hrz
  rw [hrz.1, hrz.2]
  show ex_G mX5_unpoke (d + 3) 5 [.ref a_0, .ref a_1, .int v_2, .retAddr 0] [.int (X5_isLens_V a_1 v_2 h)] (h) bc bs Q
  refine ex_if_ne (tgt := 11) (q := 8) dX5_unpoke_5 (fun c2 => ?_) (fun c2 => ?_)
  · replace w := w.1 c2
    refine ex_aload_n (q := 12) (x := a_1) dX5_unpoke_11 rfl ?_
    have s3 := w.1
    replace w := w.2
    obtain ⟨a4, ea4, w⟩ := w
    refine ex_getr (q := 15) dX5_unpoke_12 fl_X5_104 s3 ea4 ?_
    refine ex_iload_n (q := 16) (x := v_2) dX5_unpoke_15 rfl ?_
    have s5 := w.1
    replace w := w.2
    refine ex_iald (q := 17) dX5_unpoke_16 s5 ?_
    refine ex_nmi (fun x6 ex6 => ?_)
    replace w := w x6 ex6
    refine ex_istore_n (q := 18) (ls' := [.ref a_0, .ref a_1, .int v_2, .int x6]) dX5_unpoke_17 rfl ?_
    refine ex_aload_n (q := 19) (x := a_0) dX5_unpoke_18 rfl ?_
    refine ex_aload_n (q := 20) (x := a_0) dX5_unpoke_19 rfl ?_
    have s7 := w.1
    replace w := w.2
    obtain ⟨a8, ea8, w⟩ := w
    refine ex_getr (q := 23) dX5_unpoke_20 fl_X5_101 s7 ea8 ?_
    refine ex_iload_n (q := 24) (x := v_2) dX5_unpoke_23 rfl ?_
    refine ex_iconst (q := 25) (v := 2) dX5_unpoke_24 (by decide) ?_
    refine ex_callS (q := 28) (M := mX5_unpoke) (hdd := Nat.le_refl _) (mc := 0) (ms := 0) (d' := (d + 2)) (st := [.ref a8, .ref a_0]) (bc := bc) (bs := bs) dX5_unpoke_25 rfl cl_X5_66 wd_663 (X11_corner_s (Q := fun r z => r = some (.int (X11_corner_V v_2 2 h)) ∧ z = h) ⟨rfl, rfl⟩) ?_
    intro r z hrz
    rw [hrz.1, hrz.2]
    show ex_G mX5_unpoke (d + 3) 28 [.ref a_0, .ref a_1, .int v_2, .int x6] [.int (X11_corner_V v_2 2 h), .ref a8, .ref a_0] (h) bc bs Q
    have s9 := w.1
    replace w := w.2
    refine ex_iald (q := 29) dX5_unpoke_28 s9 ?_
    refine ex_aload_n (q := 30) (x := a_0) dX5_unpoke_29 rfl ?_
    refine ex_getr (q := 33) dX5_unpoke_30 fl_X5_101 s7 ea8 ?_
    refine ex_iload_n (q := 34) (x := x6) dX5_unpoke_33 rfl ?_
    refine ex_iconst (q := 35) (v := 2) dX5_unpoke_34 (by decide) ?_
    refine ex_callS (q := 38) (M := mX5_unpoke) (hdd := Nat.le_refl _) (mc := 0) (ms := 0) (d' := (d + 2)) (st := [.ref a8, .int (ah_i h a8 (Int32.toNatClampNeg (X11_corner_V v_2 2 h))), .ref a_0]) (bc := bc) (bs := bs) dX5_unpoke_35 rfl cl_X5_66 wd_663 (X11_corner_s (Q := fun r z => r = some (.int (X11_corner_V x6 2 h)) ∧ z = h) ⟨rfl, rfl⟩) ?_
    intro r z hrz
    rw [hrz.1, hrz.2]
    show ex_G mX5_unpoke (d + 3) 38 [.ref a_0, .ref a_1, .int v_2, .int x6] [.int (X11_corner_V x6 2 h), .ref a8, .int (ah_i h a8 (Int32.toNatClampNeg (X11_corner_V v_2 2 h))), .ref a_0] (h) bc bs Q
    have s10 := w.1
    replace w := w.2
    refine ex_iald (q := 39) dX5_unpoke_38 s10 ?_
    refine ex_callV (q := 42) (M := mX5_unpoke) (hdd := Nat.le_refl _) (c := 7) (st := []) (bc := bc) (bs := bs) dX5_unpoke_39 rfl cl_X5_113 wd_1115 wd_1116 s7 w ?_
    rintro r h11 ⟨rfl, w⟩
    show ex_G mX5_unpoke (d + 3) 42 [.ref a_0, .ref a_1, .int v_2, .int x6] [] h11 bc bs Q
    refine ex_aload_n (q := 43) (x := a_0) dX5_unpoke_42 rfl ?_
    refine ex_aload_n (q := 44) (x := a_0) dX5_unpoke_43 rfl ?_
    have s12 := w.1
    replace w := w.2
    obtain ⟨a13, ea13, w⟩ := w
    refine ex_getr (q := 47) dX5_unpoke_44 fl_X5_101 s12 ea13 ?_
    refine ex_iload_n (q := 48) (x := v_2) dX5_unpoke_47 rfl ?_
    refine ex_iconst (q := 49) (v := 3) dX5_unpoke_48 (by decide) ?_
    refine ex_callS (q := 52) (M := mX5_unpoke) (hdd := Nat.le_refl _) (mc := 0) (ms := 0) (d' := (d + 2)) (st := [.ref a13, .ref a_0]) (bc := bc) (bs := bs) dX5_unpoke_49 rfl cl_X5_66 wd_663 (X11_corner_s (Q := fun r z => r = some (.int (X11_corner_V v_2 3 h11)) ∧ z = h11) ⟨rfl, rfl⟩) ?_
    intro r z hrz
    rw [hrz.1, hrz.2]
    show ex_G mX5_unpoke (d + 3) 52 [.ref a_0, .ref a_1, .int v_2, .int x6] [.int (X11_corner_V v_2 3 h11), .ref a13, .ref a_0] (h11) bc bs Q
    have s14 := w.1
    replace w := w.2
    refine ex_iald (q := 53) dX5_unpoke_52 s14 ?_
    refine ex_aload_n (q := 54) (x := a_0) dX5_unpoke_53 rfl ?_
    refine ex_getr (q := 57) dX5_unpoke_54 fl_X5_101 s12 ea13 ?_
    refine ex_iload_n (q := 58) (x := x6) dX5_unpoke_57 rfl ?_
    refine ex_iconst (q := 59) (v := 1) dX5_unpoke_58 (by decide) ?_
    refine ex_callS (q := 62) (M := mX5_unpoke) (hdd := Nat.le_refl _) (mc := 0) (ms := 0) (d' := (d + 2)) (st := [.ref a13, .int (ah_i h11 a13 (Int32.toNatClampNeg (X11_corner_V v_2 3 h11))), .ref a_0]) (bc := bc) (bs := bs) dX5_unpoke_59 rfl cl_X5_66 wd_663 (X11_corner_s (Q := fun r z => r = some (.int (X11_corner_V x6 1 h11)) ∧ z = h11) ⟨rfl, rfl⟩) ?_
    intro r z hrz
    rw [hrz.1, hrz.2]
    show ex_G mX5_unpoke (d + 3) 62 [.ref a_0, .ref a_1, .int v_2, .int x6] [.int (X11_corner_V x6 1 h11), .ref a13, .int (ah_i h11 a13 (Int32.toNatClampNeg (X11_corner_V v_2 3 h11))), .ref a_0] (h11) bc bs Q
    have s15 := w.1
    replace w := w.2
    refine ex_iald (q := 63) dX5_unpoke_62 s15 ?_
    refine ex_callV (q := 66) (M := mX5_unpoke) (hdd := Nat.le_refl _) (c := 7) (st := []) (bc := bc) (bs := bs) dX5_unpoke_63 rfl cl_X5_113 wd_1115 wd_1116 s12 w ?_
    rintro r h16 ⟨rfl, w⟩
    show ex_G mX5_unpoke (d + 3) 66 [.ref a_0, .ref a_1, .int v_2, .int x6] [] h16 bc bs Q
    refine ex_aload_n (q := 67) (x := a_0) dX5_unpoke_66 rfl ?_
    refine ex_iload_n (q := 68) (x := v_2) dX5_unpoke_67 rfl ?_
    refine ex_iconst (q := 69) (v := 2) dX5_unpoke_68 (by decide) ?_
    refine ex_ishr (q := 70) dX5_unpoke_69 ?_
    refine ex_iload_n (q := 71) (x := x6) dX5_unpoke_70 rfl ?_
    refine ex_iconst (q := 72) (v := 2) dX5_unpoke_71 (by decide) ?_
    refine ex_ishr (q := 73) dX5_unpoke_72 ?_
    refine ex_callS (q := 76) (M := mX5_unpoke) (hdd := Nat.le_refl _) (mc := 0) (ms := 0) (d' := (d + 2)) (st := [.ref a_0]) (bc := bc) (bs := bs) dX5_unpoke_73 rfl cl_X5_127 wd_148 (J9_max_7cf53_s (Q := fun r z => r = some (.int (J9_max_7cf53_V (v_2 >>> (2 &&& (31 : Int32))) (x6 >>> (2 &&& (31 : Int32))) h16)) ∧ z = h16) ⟨rfl, rfl⟩) ?_
    intro r z hrz
    rw [hrz.1, hrz.2]
    show ex_G mX5_unpoke (d + 3) 76 [.ref a_0, .ref a_1, .int v_2, .int x6] [.int (J9_max_7cf53_V (v_2 >>> (2 &&& (31 : Int32))) (x6 >>> (2 &&& (31 : Int32))) h16), .ref a_0] (h16) bc bs Q
    have s18 := w.1
    replace w := w.2
    refine ex_callV (q := 79) (M := mX5_unpoke) (hdd := Nat.le_refl _) (c := 7) (st := []) (bc := bc) (bs := bs) dX5_unpoke_76 rfl cl_X5_117 wd_1119 wd_1120 s18 w ?_
    rintro r h17 ⟨rfl, w⟩
    show ex_G mX5_unpoke (d + 3) 79 [.ref a_0, .ref a_1, .int v_2, .int x6] [] h17 bc bs Q
    refine ex_aload_n (q := 80) (x := a_0) dX5_unpoke_79 rfl ?_
    refine ex_iload_n (q := 81) (x := v_2) dX5_unpoke_80 rfl ?_
    refine ex_iconst (q := 82) (v := 2) dX5_unpoke_81 (by decide) ?_
    refine ex_ishr (q := 83) dX5_unpoke_82 ?_
    refine ex_iload_n (q := 84) (x := x6) dX5_unpoke_83 rfl ?_
    refine ex_iconst (q := 85) (v := 2) dX5_unpoke_84 (by decide) ?_
    refine ex_ishr (q := 86) dX5_unpoke_85 ?_
    refine ex_callS (q := 89) (M := mX5_unpoke) (hdd := Nat.le_refl _) (mc := 0) (ms := 0) (d' := (d + 2)) (st := [.ref a_0]) (bc := bc) (bs := bs) dX5_unpoke_86 rfl cl_X5_132 wd_710 (J9_min_7cf53_s (Q := fun r z => r = some (.int (J9_min_7cf53_V (v_2 >>> (2 &&& (31 : Int32))) (x6 >>> (2 &&& (31 : Int32))) h17)) ∧ z = h17) ⟨rfl, rfl⟩) ?_
    intro r z hrz
    rw [hrz.1, hrz.2]
    show ex_G mX5_unpoke (d + 3) 89 [.ref a_0, .ref a_1, .int v_2, .int x6] [.int (J9_min_7cf53_V (v_2 >>> (2 &&& (31 : Int32))) (x6 >>> (2 &&& (31 : Int32))) h17), .ref a_0] (h17) bc bs Q
    have s20 := w.1
    replace w := w.2
    refine ex_callV (q := 92) (M := mX5_unpoke) (hdd := Nat.le_refl _) (c := 7) (st := []) (bc := bc) (bs := bs) dX5_unpoke_89 rfl cl_X5_117 wd_1119 wd_1120 s20 w ?_
    rintro r h19 ⟨rfl, w⟩
    show ex_G mX5_unpoke (d + 3) 92 [.ref a_0, .ref a_1, .int v_2, .int x6] [] h19 bc bs Q
    refine ex_aload_n (q := 93) (x := a_0) dX5_unpoke_92 rfl ?_
    have s21 := w.1
    replace w := w.2
    refine ex_callS (q := 96) (M := mX5_unpoke) (hdd := Nat.le_refl _) (mc := 0) (ms := 0) (d' := (d + 2)) (st := []) (bc := bc) (bs := bs) dX5_unpoke_93 rfl cl_X5_121 wd_1123 (X5_loopsAnswer_s (Q := fun r z => r = some (.int (X5_loopsAnswer_V a_0 h19)) ∧ z = h19) s21 ⟨rfl, rfl⟩) ?_
    intro r z hrz
    rw [hrz.1, hrz.2]
    show ex_G mX5_unpoke (d + 3) 96 [.ref a_0, .ref a_1, .int v_2, .int x6] [.int (X5_loopsAnswer_V a_0 h19)] (h19) bc bs Q
    exact ex_ireturn dX5_unpoke_96 rfl (Or.inl rfl) w
  · replace w := w.2 c2
    refine ex_bipush (q := 10) (v := (-15)) dX5_unpoke_8 (by decide) ?_
    exact ex_ireturn dX5_unpoke_10 rfl (Or.inl rfl) w

theorem X5_unpoke_e {d bc bs : Nat} {h : AH} {Q : Option Value → AH → Prop} {a_0 : Nat} {a_1 : Nat} {v_2 : Int32} (w : ex_G mX5_unpoke (d + 3) 0 [.ref a_0, .ref a_1, .int v_2, .retAddr 0] [] h bc bs Q) : ex_S yX5_unpoke mX5_unpoke (d + 3) [.ref a_0, .ref a_1, .int v_2] h bc bs Q :=
  ex_enter (plainFor_of_name (by decide +kernel)) ⟨rfl, rfl⟩ rfl rfl (Nat.le_of_ble_eq_true rfl) (ex_pad 1 w)

set_option maxRecDepth 100000 in
theorem X5_isTriangle_0 {d bc bs : Nat} {h : AH} {Q : Option Value → AH → Prop} {a_0 : Nat} {v_1 : Int32} (w : ah_o h a_0 4 ∧ X4_hasEnd_C a_0 v_1 h ∧ ((¬ (X4_hasEnd_V a_0 v_1 h) = 0 → X4_nextInRegion_C a_0 v_1 h ∧ ∀ x5, x5 = X4_nextInRegion_V a_0 v_1 h → X4_nextInRegion_C a_0 x5 h ∧ ∀ x7, x7 = X4_nextInRegion_V a_0 x5 h → X4_nextInRegion_C a_0 x7 h ∧ ((¬ (X4_nextInRegion_V a_0 x7 h) = v_1 → Q (some (.int 0)) h) ∧ ((X4_nextInRegion_V a_0 x7 h) = v_1 → (((v_1 >>> (2 &&& (31 : Int32))) = (x5 >>> (2 &&& (31 : Int32))) → Q (some (.int 0)) h) ∧ (¬ (v_1 >>> (2 &&& (31 : Int32))) = (x5 >>> (2 &&& (31 : Int32))) → (((x5 >>> (2 &&& (31 : Int32))) = (x7 >>> (2 &&& (31 : Int32))) → Q (some (.int 0)) h) ∧ (¬ (x5 >>> (2 &&& (31 : Int32))) = (x7 >>> (2 &&& (31 : Int32))) → (((x7 >>> (2 &&& (31 : Int32))) = (v_1 >>> (2 &&& (31 : Int32))) → Q (some (.int 0)) h) ∧ (¬ (x7 >>> (2 &&& (31 : Int32))) = (v_1 >>> (2 &&& (31 : Int32))) → X5_isOver_C a_0 v_1 h ∧ ((¬ (X5_isOver_V a_0 v_1 h) = 0 → Q (some (.int 1)) h) ∧ ((X5_isOver_V a_0 v_1 h) = 0 → X5_isOver_C a_0 x5 h ∧ ((¬ (X5_isOver_V a_0 x5 h) = 0 → Q (some (.int 1)) h) ∧ ((X5_isOver_V a_0 x5 h) = 0 → X5_isOver_C a_0 x7 h ∧ (((X5_isOver_V a_0 x7 h) = 0 → Q (some (.int 0)) h) ∧ (¬ (X5_isOver_V a_0 x7 h) = 0 → Q (some (.int 1)) h))))))))))))))) ∧ ((X4_hasEnd_V a_0 v_1 h) = 0 → Q (some (.int 0)) h))) : ex_G mX5_isTriangle (d + 2) 0 [.ref a_0, .int v_1, .retAddr 0, .retAddr 0] [] h bc bs Q := by
  refine ex_aload_n (q := 1) (x := a_0) dX5_isTriangle_0 rfl ?_
  refine ex_iload_n (q := 2) (x := v_1) dX5_isTriangle_1 rfl ?_
  have s1 := w.1
  replace w := w.2
  have s2 := w.1
  replace w := w.2
  refine ex_callV (q := 5) (M := mX5_isTriangle) (hdd := Nat.le_refl _) (mc := 0) (ms := 0) (d' := (d + 1)) (c := 4) (st := []) (bc := bc) (bs := bs) dX5_isTriangle_2 rfl cl_X5_85 wd_734 wd_735 s1 (X4_hasEnd_s (Q := fun r z => r = some (.int (X4_hasEnd_V a_0 v_1 h)) ∧ z = h) s2 ⟨rfl, rfl⟩) ?_
  intro r z hrz
  rw [hrz.1, hrz.2]
  show ex_G mX5_isTriangle (d + 2) 5 [.ref a_0, .int v_1, .retAddr 0, .retAddr 0] [.int (X4_hasEnd_V a_0 v_1 h)] (h) bc bs Q
  refine ex_if_ne (tgt := 10) (q := 8) dX5_isTriangle_5 (fun c3 => ?_) (fun c3 => ?_)
  · replace w := w.1 c3
    refine ex_aload_n (q := 11) (x := a_0) dX5_isTriangle_10 rfl ?_
    refine ex_iload_n (q := 12) (x := v_1) dX5_isTriangle_11 rfl ?_
    have s4 := w.1
    replace w := w.2
    refine ex_callV (q := 15) (M := mX5_isTriangle) (hdd := Nat.le_refl _) (mc := 0) (ms := 0) (d' := (d + 1)) (c := 4) (st := []) (bc := bc) (bs := bs) dX5_isTriangle_12 rfl cl_X5_124 wd_1079 wd_1080 s1 (X4_nextInRegion_s (Q := fun r z => r = some (.int (X4_nextInRegion_V a_0 v_1 h)) ∧ z = h) s4 ⟨rfl, rfl⟩) ?_
    intro r z hrz
    rw [hrz.1, hrz.2]
    show ex_G mX5_isTriangle (d + 2) 15 [.ref a_0, .int v_1, .retAddr 0, .retAddr 0] [.int (X4_nextInRegion_V a_0 v_1 h)] (h) bc bs Q
    refine ex_nmi (fun x5 ex5 => ?_)
    replace w := w x5 ex5
    refine ex_istore_n (q := 16) (ls' := [.ref a_0, .int v_1, .int x5, .retAddr 0]) dX5_isTriangle_15 rfl ?_
    refine ex_aload_n (q := 17) (x := a_0) dX5_isTriangle_16 rfl ?_
    refine ex_iload_n (q := 18) (x := x5) dX5_isTriangle_17 rfl ?_
    have s6 := w.1
    replace w := w.2
    refine ex_callV (q := 21) (M := mX5_isTriangle) (hdd := Nat.le_refl _) (mc := 0) (ms := 0) (d' := (d + 1)) (c := 4) (st := []) (bc := bc) (bs := bs) dX5_isTriangle_18 rfl cl_X5_124 wd_1079 wd_1080 s1 (X4_nextInRegion_s (Q := fun r z => r = some (.int (X4_nextInRegion_V a_0 x5 h)) ∧ z = h) s6 ⟨rfl, rfl⟩) ?_
    intro r z hrz
    rw [hrz.1, hrz.2]
    show ex_G mX5_isTriangle (d + 2) 21 [.ref a_0, .int v_1, .int x5, .retAddr 0] [.int (X4_nextInRegion_V a_0 x5 h)] (h) bc bs Q
    refine ex_nmi (fun x7 ex7 => ?_)
    replace w := w x7 ex7
    refine ex_istore_n (q := 22) (ls' := [.ref a_0, .int v_1, .int x5, .int x7]) dX5_isTriangle_21 rfl ?_
    refine ex_aload_n (q := 23) (x := a_0) dX5_isTriangle_22 rfl ?_
    refine ex_iload_n (q := 24) (x := x7) dX5_isTriangle_23 rfl ?_
    have s8 := w.1
    replace w := w.2
    refine ex_callV (q := 27) (M := mX5_isTriangle) (hdd := Nat.le_refl _) (mc := 0) (ms := 0) (d' := (d + 1)) (c := 4) (st := []) (bc := bc) (bs := bs) dX5_isTriangle_24 rfl cl_X5_124 wd_1079 wd_1080 s1 (X4_nextInRegion_s (Q := fun r z => r = some (.int (X4_nextInRegion_V a_0 x7 h)) ∧ z = h) s8 ⟨rfl, rfl⟩) ?_
    intro r z hrz
    rw [hrz.1, hrz.2]
    show ex_G mX5_isTriangle (d + 2) 27 [.ref a_0, .int v_1, .int x5, .int x7] [.int (X4_nextInRegion_V a_0 x7 h)] (h) bc bs Q
    refine ex_iload_n (q := 28) (x := v_1) dX5_isTriangle_27 rfl ?_
    refine ex_icmp_ne (tgt := 86) (q := 31) dX5_isTriangle_28 (fun c9 => ?_) (fun c9 => ?_)
    · replace w := w.1 c9
      refine ex_iconst (q := 87) (v := 0) dX5_isTriangle_86 (by decide) ?_
      exact ex_ireturn dX5_isTriangle_87 rfl (Or.inr ⟨rfl, Or.inl rfl⟩) w
    · replace w := w.2 c9
      refine ex_iload_n (q := 32) (x := v_1) dX5_isTriangle_31 rfl ?_
      refine ex_iconst (q := 33) (v := 2) dX5_isTriangle_32 (by decide) ?_
      refine ex_ishr (q := 34) dX5_isTriangle_33 ?_
      refine ex_iload_n (q := 35) (x := x5) dX5_isTriangle_34 rfl ?_
      refine ex_iconst (q := 36) (v := 2) dX5_isTriangle_35 (by decide) ?_
      refine ex_ishr (q := 37) dX5_isTriangle_36 ?_
      refine ex_icmp_eq (tgt := 86) (q := 40) dX5_isTriangle_37 (fun c10 => ?_) (fun c10 => ?_)
      · replace w := w.1 c10
        refine ex_iconst (q := 87) (v := 0) dX5_isTriangle_86 (by decide) ?_
        exact ex_ireturn dX5_isTriangle_87 rfl (Or.inr ⟨rfl, Or.inl rfl⟩) w
      · replace w := w.2 c10
        refine ex_iload_n (q := 41) (x := x5) dX5_isTriangle_40 rfl ?_
        refine ex_iconst (q := 42) (v := 2) dX5_isTriangle_41 (by decide) ?_
        refine ex_ishr (q := 43) dX5_isTriangle_42 ?_
        refine ex_iload_n (q := 44) (x := x7) dX5_isTriangle_43 rfl ?_
        refine ex_iconst (q := 45) (v := 2) dX5_isTriangle_44 (by decide) ?_
        refine ex_ishr (q := 46) dX5_isTriangle_45 ?_
        refine ex_icmp_eq (tgt := 86) (q := 49) dX5_isTriangle_46 (fun c11 => ?_) (fun c11 => ?_)
        · replace w := w.1 c11
          refine ex_iconst (q := 87) (v := 0) dX5_isTriangle_86 (by decide) ?_
          exact ex_ireturn dX5_isTriangle_87 rfl (Or.inr ⟨rfl, Or.inl rfl⟩) w
        · replace w := w.2 c11
          refine ex_iload_n (q := 50) (x := x7) dX5_isTriangle_49 rfl ?_
          refine ex_iconst (q := 51) (v := 2) dX5_isTriangle_50 (by decide) ?_
          refine ex_ishr (q := 52) dX5_isTriangle_51 ?_
          refine ex_iload_n (q := 53) (x := v_1) dX5_isTriangle_52 rfl ?_
          refine ex_iconst (q := 54) (v := 2) dX5_isTriangle_53 (by decide) ?_
          refine ex_ishr (q := 55) dX5_isTriangle_54 ?_
          refine ex_icmp_eq (tgt := 86) (q := 58) dX5_isTriangle_55 (fun c12 => ?_) (fun c12 => ?_)
          · replace w := w.1 c12
            refine ex_iconst (q := 87) (v := 0) dX5_isTriangle_86 (by decide) ?_
            exact ex_ireturn dX5_isTriangle_87 rfl (Or.inr ⟨rfl, Or.inl rfl⟩) w
          · replace w := w.2 c12
            refine ex_aload_n (q := 59) (x := a_0) dX5_isTriangle_58 rfl ?_
            refine ex_iload_n (q := 60) (x := v_1) dX5_isTriangle_59 rfl ?_
            have s13 := w.1
            replace w := w.2
            refine ex_callS (q := 63) (M := mX5_isTriangle) (hdd := Nat.le_refl _) (mc := 0) (ms := 0) (d' := (d + 1)) (st := []) (bc := bc) (bs := bs) dX5_isTriangle_60 rfl cl_X5_135 wd_1083 (X5_isOver_s (Q := fun r z => r = some (.int (X5_isOver_V a_0 v_1 h)) ∧ z = h) s13 ⟨rfl, rfl⟩) ?_
            intro r z hrz
            rw [hrz.1, hrz.2]
            show ex_G mX5_isTriangle (d + 2) 63 [.ref a_0, .int v_1, .int x5, .int x7] [.int (X5_isOver_V a_0 v_1 h)] (h) bc bs Q
            refine ex_if_ne (tgt := 82) (q := 66) dX5_isTriangle_63 (fun c14 => ?_) (fun c14 => ?_)
            · replace w := w.1 c14
              refine ex_iconst (q := 83) (v := 1) dX5_isTriangle_82 (by decide) ?_
              refine ex_goto (tgt := 87) dX5_isTriangle_83 ?_
              exact ex_ireturn dX5_isTriangle_87 rfl (Or.inr ⟨rfl, Or.inr rfl⟩) w
            · replace w := w.2 c14
              refine ex_aload_n (q := 67) (x := a_0) dX5_isTriangle_66 rfl ?_
              refine ex_iload_n (q := 68) (x := x5) dX5_isTriangle_67 rfl ?_
              have s15 := w.1
              replace w := w.2
              refine ex_callS (q := 71) (M := mX5_isTriangle) (hdd := Nat.le_refl _) (mc := 0) (ms := 0) (d' := (d + 1)) (st := []) (bc := bc) (bs := bs) dX5_isTriangle_68 rfl cl_X5_135 wd_1083 (X5_isOver_s (Q := fun r z => r = some (.int (X5_isOver_V a_0 x5 h)) ∧ z = h) s15 ⟨rfl, rfl⟩) ?_
              intro r z hrz
              rw [hrz.1, hrz.2]
              show ex_G mX5_isTriangle (d + 2) 71 [.ref a_0, .int v_1, .int x5, .int x7] [.int (X5_isOver_V a_0 x5 h)] (h) bc bs Q
              refine ex_if_ne (tgt := 82) (q := 74) dX5_isTriangle_71 (fun c16 => ?_) (fun c16 => ?_)
              · replace w := w.1 c16
                refine ex_iconst (q := 83) (v := 1) dX5_isTriangle_82 (by decide) ?_
                refine ex_goto (tgt := 87) dX5_isTriangle_83 ?_
                exact ex_ireturn dX5_isTriangle_87 rfl (Or.inr ⟨rfl, Or.inr rfl⟩) w
              · replace w := w.2 c16
                refine ex_aload_n (q := 75) (x := a_0) dX5_isTriangle_74 rfl ?_
                refine ex_iload_n (q := 76) (x := x7) dX5_isTriangle_75 rfl ?_
                have s17 := w.1
                replace w := w.2
                refine ex_callS (q := 79) (M := mX5_isTriangle) (hdd := Nat.le_refl _) (mc := 0) (ms := 0) (d' := (d + 1)) (st := []) (bc := bc) (bs := bs) dX5_isTriangle_76 rfl cl_X5_135 wd_1083 (X5_isOver_s (Q := fun r z => r = some (.int (X5_isOver_V a_0 x7 h)) ∧ z = h) s17 ⟨rfl, rfl⟩) ?_
                intro r z hrz
                rw [hrz.1, hrz.2]
                show ex_G mX5_isTriangle (d + 2) 79 [.ref a_0, .int v_1, .int x5, .int x7] [.int (X5_isOver_V a_0 x7 h)] (h) bc bs Q
                refine ex_if_eq (tgt := 86) (q := 82) dX5_isTriangle_79 (fun c18 => ?_) (fun c18 => ?_)
                · replace w := w.1 c18
                  refine ex_iconst (q := 87) (v := 0) dX5_isTriangle_86 (by decide) ?_
                  exact ex_ireturn dX5_isTriangle_87 rfl (Or.inr ⟨rfl, Or.inl rfl⟩) w
                · replace w := w.2 c18
                  refine ex_iconst (q := 83) (v := 1) dX5_isTriangle_82 (by decide) ?_
                  refine ex_goto (tgt := 87) dX5_isTriangle_83 ?_
                  exact ex_ireturn dX5_isTriangle_87 rfl (Or.inr ⟨rfl, Or.inr rfl⟩) w
  · replace w := w.2 c3
    refine ex_iconst (q := 9) (v := 0) dX5_isTriangle_8 (by decide) ?_
    exact ex_ireturn dX5_isTriangle_9 rfl (Or.inr ⟨rfl, Or.inl rfl⟩) w

theorem X5_isTriangle_e {d bc bs : Nat} {h : AH} {Q : Option Value → AH → Prop} {a_0 : Nat} {v_1 : Int32} (w : ex_G mX5_isTriangle (d + 2) 0 [.ref a_0, .int v_1, .retAddr 0, .retAddr 0] [] h bc bs Q) : ex_S yX5_isTriangle mX5_isTriangle (d + 2) [.ref a_0, .int v_1] h bc bs Q :=
  ex_enter (plainFor_of_name (by decide +kernel)) ⟨rfl, rfl⟩ rfl rfl (Nat.le_of_ble_eq_true rfl) (ex_pad 2 w)

set_option maxRecDepth 100000 in
theorem X5_slide_0 {d bc bs : Nat} {h : AH} {Q : Option Value → AH → Prop} {a_0 : Nat} {a_1 : Nat} {v_2 : Int32} (w : ex_S yX5_isTriangle mX5_isTriangle (d + 2) [.ref a_1, .int v_2] h 0 0 (fun r h1 => ∃ x2, r = some (.int x2) ∧ ((¬ x2 = 0 → ah_o h1 a_1 4 ∧ X4_nextInRegion_C a_1 v_2 h1 ∧ ∀ x6, x6 = X4_nextInRegion_V a_1 v_2 h1 → X4_nextInRegion_C a_1 x6 h1 ∧ ∀ x8, x8 = X4_nextInRegion_V a_1 x6 h1 → ah_o h1 a_0 7 ∧ ∃ a10, ah_r h1 a_0 1 = some a10 ∧ ld0 h1 a10 (X11_corner_V v_2 2 h1) ∧ ∀ x12, x12 = ah_i h1 a10 (Int32.toNatClampNeg (X11_corner_V v_2 2 h1)) → ld0 h1 a10 (X11_corner_V x6 2 h1) ∧ ∀ x14, x14 = ah_i h1 a10 (Int32.toNatClampNeg (X11_corner_V x6 2 h1)) → ld0 h1 a10 (X11_corner_V x8 2 h1) ∧ ∀ x16, x16 = ah_i h1 a10 (Int32.toNatClampNeg (X11_corner_V x8 2 h1)) → ∃ a17, ah_r h1 a_1 0 = some a17 ∧ ld0 h1 a17 v_2 ∧ ld0 h1 a10 (X11_corner_V (ah_i h1 a17 (Int32.toNatClampNeg v_2)) 2 h1) ∧ ∀ x20, x20 = ah_i h1 a10 (Int32.toNatClampNeg (X11_corner_V (ah_i h1 a17 (Int32.toNatClampNeg v_2)) 2 h1)) → ld0 h1 a17 x6 ∧ ld0 h1 a10 (X11_corner_V (ah_i h1 a17 (Int32.toNatClampNeg x6)) 2 h1) ∧ ∀ x23, x23 = ah_i h1 a10 (Int32.toNatClampNeg (X11_corner_V (ah_i h1 a17 (Int32.toNatClampNeg x6)) 2 h1)) → ld0 h1 a17 x8 ∧ ld0 h1 a10 (X11_corner_V (ah_i h1 a17 (Int32.toNatClampNeg x8)) 2 h1) ∧ ∀ x26, x26 = ah_i h1 a10 (Int32.toNatClampNeg (X11_corner_V (ah_i h1 a17 (Int32.toNatClampNeg x8)) 2 h1)) → X5_slideArc_C a_0 v_2 (ah_i h1 a17 (Int32.toNatClampNeg v_2)) x12 x20 h1 ∧ ∀ h28, h28 = X5_slideArc_H a_0 v_2 (ah_i h1 a17 (Int32.toNatClampNeg v_2)) x12 x20 h1 → ah_o h28 a_1 4 ∧ ∃ a30, ah_r h28 a_1 0 = some a30 ∧ ld0 h28 a30 x6 ∧ X5_slideArc_C a_0 x6 (ah_i h28 a30 (Int32.toNatClampNeg x6)) x14 x23 h28 ∧ ∀ h33, h33 = X5_slideArc_H a_0 x6 (ah_i h28 a30 (Int32.toNatClampNeg x6)) x14 x23 h28 → ah_o h33 a_1 4 ∧ ∃ a35, ah_r h33 a_1 0 = some a35 ∧ ld0 h33 a35 x8 ∧ X5_slideArc_C a_0 x8 (ah_i h33 a35 (Int32.toNatClampNeg x8)) x16 x26 h33 ∧ ∀ h38, h38 = X5_slideArc_H a_0 x8 (ah_i h33 a35 (Int32.toNatClampNeg x8)) x16 x26 h33 → Q (some (.int 1)) h38) ∧ (x2 = 0 → Q (some (.int (-15))) h1)))) : ex_G mX5_slide (d + 3) 0 [.ref a_0, .ref a_1, .int v_2, .retAddr 0, .retAddr 0, .retAddr 0, .retAddr 0, .retAddr 0, .retAddr 0, .retAddr 0, .retAddr 0] [] h bc bs Q := by
  refine ex_aload_n (q := 1) (x := a_1) dX5_slide_0 rfl ?_
  refine ex_iload_n (q := 2) (x := v_2) dX5_slide_1 rfl ?_
  refine ex_callS (q := 5) (M := mX5_slide) (hdd := Nat.le_refl _) (st := []) (bc := bc) (bs := bs) dX5_slide_2 rfl cl_X5_77 wd_1076 w ?_
  rintro r h1 ⟨x2, rfl, w⟩
  show ex_G mX5_slide (d + 3) 5 [.ref a_0, .ref a_1, .int v_2, .retAddr 0, .retAddr 0, .retAddr 0, .retAddr 0, .retAddr 0, .retAddr 0, .retAddr 0, .retAddr 0] [.int x2] h1 bc bs Q
  refine ex_if_ne (tgt := 11) (q := 8) dX5_slide_5 (fun c3 => ?_) (fun c3 => ?_)
  · replace w := w.1 c3
    refine ex_aload_n (q := 12) (x := a_1) dX5_slide_11 rfl ?_
    refine ex_iload_n (q := 13) (x := v_2) dX5_slide_12 rfl ?_
    have s4 := w.1
    replace w := w.2
    have s5 := w.1
    replace w := w.2
    refine ex_callV (q := 16) (M := mX5_slide) (hdd := Nat.le_refl _) (mc := 0) (ms := 0) (d' := (d + 2)) (c := 4) (st := []) (bc := bc) (bs := bs) dX5_slide_13 rfl cl_X5_124 wd_1079 wd_1080 s4 (X4_nextInRegion_s (Q := fun r z => r = some (.int (X4_nextInRegion_V a_1 v_2 h1)) ∧ z = h1) s5 ⟨rfl, rfl⟩) ?_
    intro r z hrz
    rw [hrz.1, hrz.2]
    show ex_G mX5_slide (d + 3) 16 [.ref a_0, .ref a_1, .int v_2, .retAddr 0, .retAddr 0, .retAddr 0, .retAddr 0, .retAddr 0, .retAddr 0, .retAddr 0, .retAddr 0] [.int (X4_nextInRegion_V a_1 v_2 h1)] (h1) bc bs Q
    refine ex_nmi (fun x6 ex6 => ?_)
    replace w := w x6 ex6
    refine ex_istore_n (q := 17) (ls' := [.ref a_0, .ref a_1, .int v_2, .int x6, .retAddr 0, .retAddr 0, .retAddr 0, .retAddr 0, .retAddr 0, .retAddr 0, .retAddr 0]) dX5_slide_16 rfl ?_
    refine ex_aload_n (q := 18) (x := a_1) dX5_slide_17 rfl ?_
    refine ex_iload_n (q := 19) (x := x6) dX5_slide_18 rfl ?_
    have s7 := w.1
    replace w := w.2
    refine ex_callV (q := 22) (M := mX5_slide) (hdd := Nat.le_refl _) (mc := 0) (ms := 0) (d' := (d + 2)) (c := 4) (st := []) (bc := bc) (bs := bs) dX5_slide_19 rfl cl_X5_124 wd_1079 wd_1080 s4 (X4_nextInRegion_s (Q := fun r z => r = some (.int (X4_nextInRegion_V a_1 x6 h1)) ∧ z = h1) s7 ⟨rfl, rfl⟩) ?_
    intro r z hrz
    rw [hrz.1, hrz.2]
    show ex_G mX5_slide (d + 3) 22 [.ref a_0, .ref a_1, .int v_2, .int x6, .retAddr 0, .retAddr 0, .retAddr 0, .retAddr 0, .retAddr 0, .retAddr 0, .retAddr 0] [.int (X4_nextInRegion_V a_1 x6 h1)] (h1) bc bs Q
    refine ex_nmi (fun x8 ex8 => ?_)
    replace w := w x8 ex8
    refine ex_istore (q := 24) (ls' := [.ref a_0, .ref a_1, .int v_2, .int x6, .int x8, .retAddr 0, .retAddr 0, .retAddr 0, .retAddr 0, .retAddr 0, .retAddr 0]) dX5_slide_22 rfl ?_
    refine ex_aload_n (q := 25) (x := a_0) dX5_slide_24 rfl ?_
    have s9 := w.1
    replace w := w.2
    obtain ⟨a10, ea10, w⟩ := w
    refine ex_getr (q := 28) dX5_slide_25 fl_X5_101 s9 ea10 ?_
    refine ex_iload_n (q := 29) (x := v_2) dX5_slide_28 rfl ?_
    refine ex_iconst (q := 30) (v := 2) dX5_slide_29 (by decide) ?_
    refine ex_callS (q := 33) (M := mX5_slide) (hdd := Nat.le_refl _) (mc := 0) (ms := 0) (d' := (d + 2)) (st := [.ref a10]) (bc := bc) (bs := bs) dX5_slide_30 rfl cl_X5_66 wd_663 (X11_corner_s (Q := fun r z => r = some (.int (X11_corner_V v_2 2 h1)) ∧ z = h1) ⟨rfl, rfl⟩) ?_
    intro r z hrz
    rw [hrz.1, hrz.2]
    show ex_G mX5_slide (d + 3) 33 [.ref a_0, .ref a_1, .int v_2, .int x6, .int x8, .retAddr 0, .retAddr 0, .retAddr 0, .retAddr 0, .retAddr 0, .retAddr 0] [.int (X11_corner_V v_2 2 h1), .ref a10] (h1) bc bs Q
    have s11 := w.1
    replace w := w.2
    refine ex_iald (q := 34) dX5_slide_33 s11 ?_
    refine ex_nmi (fun x12 ex12 => ?_)
    replace w := w x12 ex12
    refine ex_istore (q := 36) (ls' := [.ref a_0, .ref a_1, .int v_2, .int x6, .int x8, .int x12, .retAddr 0, .retAddr 0, .retAddr 0, .retAddr 0, .retAddr 0]) dX5_slide_34 rfl ?_
    refine ex_aload_n (q := 37) (x := a_0) dX5_slide_36 rfl ?_
    refine ex_getr (q := 40) dX5_slide_37 fl_X5_101 s9 ea10 ?_
    refine ex_iload_n (q := 41) (x := x6) dX5_slide_40 rfl ?_
    refine ex_iconst (q := 42) (v := 2) dX5_slide_41 (by decide) ?_
    refine ex_callS (q := 45) (M := mX5_slide) (hdd := Nat.le_refl _) (mc := 0) (ms := 0) (d' := (d + 2)) (st := [.ref a10]) (bc := bc) (bs := bs) dX5_slide_42 rfl cl_X5_66 wd_663 (X11_corner_s (Q := fun r z => r = some (.int (X11_corner_V x6 2 h1)) ∧ z = h1) ⟨rfl, rfl⟩) ?_
    intro r z hrz
    rw [hrz.1, hrz.2]
    show ex_G mX5_slide (d + 3) 45 [.ref a_0, .ref a_1, .int v_2, .int x6, .int x8, .int x12, .retAddr 0, .retAddr 0, .retAddr 0, .retAddr 0, .retAddr 0] [.int (X11_corner_V x6 2 h1), .ref a10] (h1) bc bs Q
    have s13 := w.1
    replace w := w.2
    refine ex_iald (q := 46) dX5_slide_45 s13 ?_
    refine ex_nmi (fun x14 ex14 => ?_)
    replace w := w x14 ex14
    refine ex_istore (q := 48) (ls' := [.ref a_0, .ref a_1, .int v_2, .int x6, .int x8, .int x12, .int x14, .retAddr 0, .retAddr 0, .retAddr 0, .retAddr 0]) dX5_slide_46 rfl ?_
    refine ex_aload_n (q := 49) (x := a_0) dX5_slide_48 rfl ?_
    refine ex_getr (q := 52) dX5_slide_49 fl_X5_101 s9 ea10 ?_
    refine ex_iload (q := 54) (x := x8) dX5_slide_52 rfl ?_
    refine ex_iconst (q := 55) (v := 2) dX5_slide_54 (by decide) ?_
    refine ex_callS (q := 58) (M := mX5_slide) (hdd := Nat.le_refl _) (mc := 0) (ms := 0) (d' := (d + 2)) (st := [.ref a10]) (bc := bc) (bs := bs) dX5_slide_55 rfl cl_X5_66 wd_663 (X11_corner_s (Q := fun r z => r = some (.int (X11_corner_V x8 2 h1)) ∧ z = h1) ⟨rfl, rfl⟩) ?_
    intro r z hrz
    rw [hrz.1, hrz.2]
    show ex_G mX5_slide (d + 3) 58 [.ref a_0, .ref a_1, .int v_2, .int x6, .int x8, .int x12, .int x14, .retAddr 0, .retAddr 0, .retAddr 0, .retAddr 0] [.int (X11_corner_V x8 2 h1), .ref a10] (h1) bc bs Q
    have s15 := w.1
    replace w := w.2
    refine ex_iald (q := 59) dX5_slide_58 s15 ?_
    refine ex_nmi (fun x16 ex16 => ?_)
    replace w := w x16 ex16
    refine ex_istore (q := 61) (ls' := [.ref a_0, .ref a_1, .int v_2, .int x6, .int x8, .int x12, .int x14, .int x16, .retAddr 0, .retAddr 0, .retAddr 0]) dX5_slide_59 rfl ?_
    refine ex_aload_n (q := 62) (x := a_0) dX5_slide_61 rfl ?_
    refine ex_getr (q := 65) dX5_slide_62 fl_X5_101 s9 ea10 ?_
    refine ex_aload_n (q := 66) (x := a_1) dX5_slide_65 rfl ?_
    obtain ⟨a17, ea17, w⟩ := w
    refine ex_getr (q := 69) dX5_slide_66 fl_X5_104 s4 ea17 ?_
    refine ex_iload_n (q := 70) (x := v_2) dX5_slide_69 rfl ?_
    have s18 := w.1
    replace w := w.2
    refine ex_iald (q := 71) dX5_slide_70 s18 ?_
    refine ex_iconst (q := 72) (v := 2) dX5_slide_71 (by decide) ?_
    refine ex_callS (q := 75) (M := mX5_slide) (hdd := Nat.le_refl _) (mc := 0) (ms := 0) (d' := (d + 2)) (st := [.ref a10]) (bc := bc) (bs := bs) dX5_slide_72 rfl cl_X5_66 wd_663 (X11_corner_s (Q := fun r z => r = some (.int (X11_corner_V (ah_i h1 a17 (Int32.toNatClampNeg v_2)) 2 h1)) ∧ z = h1) ⟨rfl, rfl⟩) ?_
    intro r z hrz
    rw [hrz.1, hrz.2]
    show ex_G mX5_slide (d + 3) 75 [.ref a_0, .ref a_1, .int v_2, .int x6, .int x8, .int x12, .int x14, .int x16, .retAddr 0, .retAddr 0, .retAddr 0] [.int (X11_corner_V (ah_i h1 a17 (Int32.toNatClampNeg v_2)) 2 h1), .ref a10] (h1) bc bs Q
    have s19 := w.1
    replace w := w.2
    refine ex_iald (q := 76) dX5_slide_75 s19 ?_
    refine ex_nmi (fun x20 ex20 => ?_)
    replace w := w x20 ex20
    refine ex_istore (q := 78) (ls' := [.ref a_0, .ref a_1, .int v_2, .int x6, .int x8, .int x12, .int x14, .int x16, .int x20, .retAddr 0, .retAddr 0]) dX5_slide_76 rfl ?_
    refine ex_aload_n (q := 79) (x := a_0) dX5_slide_78 rfl ?_
    refine ex_getr (q := 82) dX5_slide_79 fl_X5_101 s9 ea10 ?_
    refine ex_aload_n (q := 83) (x := a_1) dX5_slide_82 rfl ?_
    refine ex_getr (q := 86) dX5_slide_83 fl_X5_104 s4 ea17 ?_
    refine ex_iload_n (q := 87) (x := x6) dX5_slide_86 rfl ?_
    have s21 := w.1
    replace w := w.2
    refine ex_iald (q := 88) dX5_slide_87 s21 ?_
    refine ex_iconst (q := 89) (v := 2) dX5_slide_88 (by decide) ?_
    refine ex_callS (q := 92) (M := mX5_slide) (hdd := Nat.le_refl _) (mc := 0) (ms := 0) (d' := (d + 2)) (st := [.ref a10]) (bc := bc) (bs := bs) dX5_slide_89 rfl cl_X5_66 wd_663 (X11_corner_s (Q := fun r z => r = some (.int (X11_corner_V (ah_i h1 a17 (Int32.toNatClampNeg x6)) 2 h1)) ∧ z = h1) ⟨rfl, rfl⟩) ?_
    intro r z hrz
    rw [hrz.1, hrz.2]
    show ex_G mX5_slide (d + 3) 92 [.ref a_0, .ref a_1, .int v_2, .int x6, .int x8, .int x12, .int x14, .int x16, .int x20, .retAddr 0, .retAddr 0] [.int (X11_corner_V (ah_i h1 a17 (Int32.toNatClampNeg x6)) 2 h1), .ref a10] (h1) bc bs Q
    have s22 := w.1
    replace w := w.2
    refine ex_iald (q := 93) dX5_slide_92 s22 ?_
    refine ex_nmi (fun x23 ex23 => ?_)
    replace w := w x23 ex23
    refine ex_istore (q := 95) (ls' := [.ref a_0, .ref a_1, .int v_2, .int x6, .int x8, .int x12, .int x14, .int x16, .int x20, .int x23, .retAddr 0]) dX5_slide_93 rfl ?_
    refine ex_aload_n (q := 96) (x := a_0) dX5_slide_95 rfl ?_
    refine ex_getr (q := 99) dX5_slide_96 fl_X5_101 s9 ea10 ?_
    refine ex_aload_n (q := 100) (x := a_1) dX5_slide_99 rfl ?_
    refine ex_getr (q := 103) dX5_slide_100 fl_X5_104 s4 ea17 ?_
    refine ex_iload (q := 105) (x := x8) dX5_slide_103 rfl ?_
    have s24 := w.1
    replace w := w.2
    refine ex_iald (q := 106) dX5_slide_105 s24 ?_
    refine ex_iconst (q := 107) (v := 2) dX5_slide_106 (by decide) ?_
    refine ex_callS (q := 110) (M := mX5_slide) (hdd := Nat.le_refl _) (mc := 0) (ms := 0) (d' := (d + 2)) (st := [.ref a10]) (bc := bc) (bs := bs) dX5_slide_107 rfl cl_X5_66 wd_663 (X11_corner_s (Q := fun r z => r = some (.int (X11_corner_V (ah_i h1 a17 (Int32.toNatClampNeg x8)) 2 h1)) ∧ z = h1) ⟨rfl, rfl⟩) ?_
    intro r z hrz
    rw [hrz.1, hrz.2]
    show ex_G mX5_slide (d + 3) 110 [.ref a_0, .ref a_1, .int v_2, .int x6, .int x8, .int x12, .int x14, .int x16, .int x20, .int x23, .retAddr 0] [.int (X11_corner_V (ah_i h1 a17 (Int32.toNatClampNeg x8)) 2 h1), .ref a10] (h1) bc bs Q
    have s25 := w.1
    replace w := w.2
    refine ex_iald (q := 111) dX5_slide_110 s25 ?_
    refine ex_nmi (fun x26 ex26 => ?_)
    replace w := w x26 ex26
    refine ex_istore (q := 113) (ls' := [.ref a_0, .ref a_1, .int v_2, .int x6, .int x8, .int x12, .int x14, .int x16, .int x20, .int x23, .int x26]) dX5_slide_111 rfl ?_
    refine ex_aload_n (q := 114) (x := a_0) dX5_slide_113 rfl ?_
    refine ex_iload_n (q := 115) (x := v_2) dX5_slide_114 rfl ?_
    refine ex_aload_n (q := 116) (x := a_1) dX5_slide_115 rfl ?_
    refine ex_getr (q := 119) dX5_slide_116 fl_X5_104 s4 ea17 ?_
    refine ex_iload_n (q := 120) (x := v_2) dX5_slide_119 rfl ?_
    refine ex_iald (q := 121) dX5_slide_120 s18 ?_
    refine ex_iload (q := 123) (x := x12) dX5_slide_121 rfl ?_
    refine ex_iload (q := 125) (x := x20) dX5_slide_123 rfl ?_
    have s27 := w.1
    replace w := w.2
    refine ex_callS (q := 128) (M := mX5_slide) (hdd := Nat.le_refl _) (mc := 0) (ms := 0) (d' := (d + 2)) (st := []) (bc := bc) (bs := bs) dX5_slide_125 rfl cl_X5_138 wd_1087 (X5_slideArc_s (Q := fun r z => r = none ∧ z = X5_slideArc_H a_0 v_2 (ah_i h1 a17 (Int32.toNatClampNeg v_2)) x12 x20 h1) s27 ⟨rfl, rfl⟩) ?_
    intro r z hrz
    rw [hrz.1, hrz.2]
    show ex_G mX5_slide (d + 3) 128 [.ref a_0, .ref a_1, .int v_2, .int x6, .int x8, .int x12, .int x14, .int x16, .int x20, .int x23, .int x26] [] (X5_slideArc_H a_0 v_2 (ah_i h1 a17 (Int32.toNatClampNeg v_2)) x12 x20 h1) bc bs Q
    refine ex_nmh (fun h28 eh28 => ?_)
    replace w := w h28 eh28
    refine ex_aload_n (q := 129) (x := a_0) dX5_slide_128 rfl ?_
    refine ex_iload_n (q := 130) (x := x6) dX5_slide_129 rfl ?_
    refine ex_aload_n (q := 131) (x := a_1) dX5_slide_130 rfl ?_
    have s29 := w.1
    replace w := w.2
    obtain ⟨a30, ea30, w⟩ := w
    refine ex_getr (q := 134) dX5_slide_131 fl_X5_104 s29 ea30 ?_
    refine ex_iload_n (q := 135) (x := x6) dX5_slide_134 rfl ?_
    have s31 := w.1
    replace w := w.2
    refine ex_iald (q := 136) dX5_slide_135 s31 ?_
    refine ex_iload (q := 138) (x := x14) dX5_slide_136 rfl ?_
    refine ex_iload (q := 140) (x := x23) dX5_slide_138 rfl ?_
    have s32 := w.1
    replace w := w.2
    refine ex_callS (q := 143) (M := mX5_slide) (hdd := Nat.le_refl _) (mc := 0) (ms := 0) (d' := (d + 2)) (st := []) (bc := bc) (bs := bs) dX5_slide_140 rfl cl_X5_138 wd_1087 (X5_slideArc_s (Q := fun r z => r = none ∧ z = X5_slideArc_H a_0 x6 (ah_i h28 a30 (Int32.toNatClampNeg x6)) x14 x23 h28) s32 ⟨rfl, rfl⟩) ?_
    intro r z hrz
    rw [hrz.1, hrz.2]
    show ex_G mX5_slide (d + 3) 143 [.ref a_0, .ref a_1, .int v_2, .int x6, .int x8, .int x12, .int x14, .int x16, .int x20, .int x23, .int x26] [] (X5_slideArc_H a_0 x6 (ah_i h28 a30 (Int32.toNatClampNeg x6)) x14 x23 h28) bc bs Q
    refine ex_nmh (fun h33 eh33 => ?_)
    replace w := w h33 eh33
    refine ex_aload_n (q := 144) (x := a_0) dX5_slide_143 rfl ?_
    refine ex_iload (q := 146) (x := x8) dX5_slide_144 rfl ?_
    refine ex_aload_n (q := 147) (x := a_1) dX5_slide_146 rfl ?_
    have s34 := w.1
    replace w := w.2
    obtain ⟨a35, ea35, w⟩ := w
    refine ex_getr (q := 150) dX5_slide_147 fl_X5_104 s34 ea35 ?_
    refine ex_iload (q := 152) (x := x8) dX5_slide_150 rfl ?_
    have s36 := w.1
    replace w := w.2
    refine ex_iald (q := 153) dX5_slide_152 s36 ?_
    refine ex_iload (q := 155) (x := x16) dX5_slide_153 rfl ?_
    refine ex_iload (q := 157) (x := x26) dX5_slide_155 rfl ?_
    have s37 := w.1
    replace w := w.2
    refine ex_callS (q := 160) (M := mX5_slide) (hdd := Nat.le_refl _) (mc := 0) (ms := 0) (d' := (d + 2)) (st := []) (bc := bc) (bs := bs) dX5_slide_157 rfl cl_X5_138 wd_1087 (X5_slideArc_s (Q := fun r z => r = none ∧ z = X5_slideArc_H a_0 x8 (ah_i h33 a35 (Int32.toNatClampNeg x8)) x16 x26 h33) s37 ⟨rfl, rfl⟩) ?_
    intro r z hrz
    rw [hrz.1, hrz.2]
    show ex_G mX5_slide (d + 3) 160 [.ref a_0, .ref a_1, .int v_2, .int x6, .int x8, .int x12, .int x14, .int x16, .int x20, .int x23, .int x26] [] (X5_slideArc_H a_0 x8 (ah_i h33 a35 (Int32.toNatClampNeg x8)) x16 x26 h33) bc bs Q
    refine ex_nmh (fun h38 eh38 => ?_)
    replace w := w h38 eh38
    refine ex_iconst (q := 161) (v := 1) dX5_slide_160 (by decide) ?_
    exact ex_ireturn dX5_slide_161 rfl (Or.inl rfl) w
  · replace w := w.2 c3
    refine ex_bipush (q := 10) (v := (-15)) dX5_slide_8 (by decide) ?_
    exact ex_ireturn dX5_slide_10 rfl (Or.inl rfl) w

theorem X5_slide_e {d bc bs : Nat} {h : AH} {Q : Option Value → AH → Prop} {a_0 : Nat} {a_1 : Nat} {v_2 : Int32} (w : ex_G mX5_slide (d + 3) 0 [.ref a_0, .ref a_1, .int v_2, .retAddr 0, .retAddr 0, .retAddr 0, .retAddr 0, .retAddr 0, .retAddr 0, .retAddr 0, .retAddr 0] [] h bc bs Q) : ex_S yX5_slide mX5_slide (d + 3) [.ref a_0, .ref a_1, .int v_2] h bc bs Q :=
  ex_enter (plainFor_of_name (by decide +kernel)) ⟨rfl, rfl⟩ rfl rfl (Nat.le_of_ble_eq_true rfl) (ex_pad 8 w)

set_option maxRecDepth 100000 in
theorem X5_countWaysOut_0 {d bc bs : Nat} {h : AH} {Q : Option Value → AH → Prop} {a_0 : Nat} {v_1 : Int32} (w : ex_G mX5_countWaysOut (d + 1) 4 [.ref a_0, .int v_1, .int 0, .int 0] [] h bc bs Q) : ex_G mX5_countWaysOut (d + 1) 0 [.ref a_0, .int v_1, .retAddr 0, .retAddr 0] [] h bc bs Q := by
  refine ex_iconst (q := 1) (v := 0) dX5_countWaysOut_0 (by decide) ?_
  refine ex_istore_n (q := 2) (ls' := [.ref a_0, .int v_1, .int 0, .retAddr 0]) dX5_countWaysOut_1 rfl ?_
  refine ex_iconst (q := 3) (v := 0) dX5_countWaysOut_2 (by decide) ?_
  refine ex_istore_n (q := 4) (ls' := [.ref a_0, .int v_1, .int 0, .int 0]) dX5_countWaysOut_3 rfl ?_
  exact w

set_option maxRecDepth 100000 in
theorem X5_countWaysOut_4 {d bc bs : Nat} {h : AH} {Q : Option Value → AH → Prop} {a_0 : Nat} {v_1 : Int32} {v_2 : Int32} {v_3 : Int32} (w : ah_o h a_0 4 ∧ (((4 * (ah_f h a_0 10)) ≤ v_3 → Q (some (.int v_2)) h) ∧ (¬ (4 * (ah_f h a_0 10)) ≤ v_3 → (((X5_isIn_V v_1 v_3 h) = 0 → ∀ x4, x4 = v_3 + 1 → ex_G mX5_countWaysOut (d + 1) 4 [.ref a_0, .int v_1, .int v_2, .int x4] [] h bc bs Q) ∧ (¬ (X5_isIn_V v_1 v_3 h) = 0 → ∃ a5, ah_r h a_0 0 = some a5 ∧ ld0 h a5 v_3 ∧ ((¬ (X5_isIn_V v_1 (ah_i h a5 (Int32.toNatClampNeg v_3)) h) = 0 → ∀ x8, x8 = v_3 + 1 → ex_G mX5_countWaysOut (d + 1) 4 [.ref a_0, .int v_1, .int v_2, .int x8] [] h bc bs Q) ∧ ((X5_isIn_V v_1 (ah_i h a5 (Int32.toNatClampNeg v_3)) h) = 0 → ∀ x9, x9 = v_2 + 1 → ∀ x10, x10 = v_3 + 1 → ex_G mX5_countWaysOut (d + 1) 4 [.ref a_0, .int v_1, .int x9, .int x10] [] h bc bs Q))))))) : ex_G mX5_countWaysOut (d + 1) 4 [.ref a_0, .int v_1, .int v_2, .int v_3] [] h bc bs Q := by
  refine ex_iload_n (q := 5) (x := v_3) dX5_countWaysOut_4 rfl ?_
  refine ex_iconst (q := 6) (v := 4) dX5_countWaysOut_5 (by decide) ?_
  refine ex_aload_n (q := 7) (x := a_0) dX5_countWaysOut_6 rfl ?_
  have s1 := w.1
  replace w := w.2
  refine ex_getf (q := 10) dX5_countWaysOut_7 fl_X5_142 s1 ?_
  refine ex_imul (q := 11) dX5_countWaysOut_10 ?_
  refine ex_icmp_ge (tgt := 44) (q := 14) dX5_countWaysOut_11 (fun c2 => ?_) (fun c2 => ?_)
  · replace w := w.1 c2
    refine ex_iload_n (q := 45) (x := v_2) dX5_countWaysOut_44 rfl ?_
    exact ex_ireturn dX5_countWaysOut_45 rfl (Or.inl rfl) w
  · replace w := w.2 c2
    refine ex_iload_n (q := 15) (x := v_1) dX5_countWaysOut_14 rfl ?_
    refine ex_iload_n (q := 16) (x := v_3) dX5_countWaysOut_15 rfl ?_
    refine ex_callS (q := 19) (M := mX5_countWaysOut) (hdd := Nat.le_refl _) (mc := 0) (ms := 0) (d' := d) (st := []) (bc := bc) (bs := bs) dX5_countWaysOut_16 rfl cl_X5_143 wd_1097 (X5_isIn_s (Q := fun r z => r = some (.int (X5_isIn_V v_1 v_3 h)) ∧ z = h) ⟨rfl, rfl⟩) ?_
    intro r z hrz
    rw [hrz.1, hrz.2]
    show ex_G mX5_countWaysOut (d + 1) 19 [.ref a_0, .int v_1, .int v_2, .int v_3] [.int (X5_isIn_V v_1 v_3 h)] (h) bc bs Q
    refine ex_if_eq (tgt := 38) (q := 22) dX5_countWaysOut_19 (fun c3 => ?_) (fun c3 => ?_)
    · replace w := w.1 c3
      obtain ⟨x4, ex4⟩ : ∃ y : Int32, y = v_3 + 1 := ⟨_, rfl⟩
      replace w := w x4 ex4
      refine ex_iinc (q := 41) (x := v_3) (v := x4) (ls' := [.ref a_0, .int v_1, .int v_2, .int x4]) dX5_countWaysOut_38 rfl (by rw [ex4]; rfl) rfl ?_
      refine ex_goto (tgt := 4) dX5_countWaysOut_41 ?_
      exact w
    · replace w := w.2 c3
      refine ex_iload_n (q := 23) (x := v_1) dX5_countWaysOut_22 rfl ?_
      refine ex_aload_n (q := 24) (x := a_0) dX5_countWaysOut_23 rfl ?_
      obtain ⟨a5, ea5, w⟩ := w
      refine ex_getr (q := 27) dX5_countWaysOut_24 fl_X5_104 s1 ea5 ?_
      refine ex_iload_n (q := 28) (x := v_3) dX5_countWaysOut_27 rfl ?_
      have s6 := w.1
      replace w := w.2
      refine ex_iald (q := 29) dX5_countWaysOut_28 s6 ?_
      refine ex_callS (q := 32) (M := mX5_countWaysOut) (hdd := Nat.le_refl _) (mc := 0) (ms := 0) (d' := d) (st := []) (bc := bc) (bs := bs) dX5_countWaysOut_29 rfl cl_X5_143 wd_1097 (X5_isIn_s (Q := fun r z => r = some (.int (X5_isIn_V v_1 (ah_i h a5 (Int32.toNatClampNeg v_3)) h)) ∧ z = h) ⟨rfl, rfl⟩) ?_
      intro r z hrz
      rw [hrz.1, hrz.2]
      show ex_G mX5_countWaysOut (d + 1) 32 [.ref a_0, .int v_1, .int v_2, .int v_3] [.int (X5_isIn_V v_1 (ah_i h a5 (Int32.toNatClampNeg v_3)) h)] (h) bc bs Q
      refine ex_if_ne (tgt := 38) (q := 35) dX5_countWaysOut_32 (fun c7 => ?_) (fun c7 => ?_)
      · replace w := w.1 c7
        obtain ⟨x8, ex8⟩ : ∃ y : Int32, y = v_3 + 1 := ⟨_, rfl⟩
        replace w := w x8 ex8
        refine ex_iinc (q := 41) (x := v_3) (v := x8) (ls' := [.ref a_0, .int v_1, .int v_2, .int x8]) dX5_countWaysOut_38 rfl (by rw [ex8]; rfl) rfl ?_
        refine ex_goto (tgt := 4) dX5_countWaysOut_41 ?_
        exact w
      · replace w := w.2 c7
        obtain ⟨x9, ex9⟩ : ∃ y : Int32, y = v_2 + 1 := ⟨_, rfl⟩
        replace w := w x9 ex9
        refine ex_iinc (q := 38) (x := v_2) (v := x9) (ls' := [.ref a_0, .int v_1, .int x9, .int v_3]) dX5_countWaysOut_35 rfl (by rw [ex9]; rfl) rfl ?_
        obtain ⟨x10, ex10⟩ : ∃ y : Int32, y = v_3 + 1 := ⟨_, rfl⟩
        replace w := w x10 ex10
        refine ex_iinc (q := 41) (x := v_3) (v := x10) (ls' := [.ref a_0, .int v_1, .int x9, .int x10]) dX5_countWaysOut_38 rfl (by rw [ex10]; rfl) rfl ?_
        refine ex_goto (tgt := 4) dX5_countWaysOut_41 ?_
        exact w

theorem X5_countWaysOut_e {d bc bs : Nat} {h : AH} {Q : Option Value → AH → Prop} {a_0 : Nat} {v_1 : Int32} (w : ex_G mX5_countWaysOut (d + 1) 0 [.ref a_0, .int v_1, .retAddr 0, .retAddr 0] [] h bc bs Q) : ex_S yX5_countWaysOut mX5_countWaysOut (d + 1) [.ref a_0, .int v_1] h bc bs Q :=
  ex_enter (plainFor_of_name (by decide +kernel)) ⟨rfl, rfl⟩ rfl rfl (Nat.le_of_ble_eq_true rfl) (ex_pad 2 w)

set_option maxRecDepth 100000 in
theorem X5_wayOut_0 {d bc bs : Nat} {h : AH} {Q : Option Value → AH → Prop} {a_0 : Nat} {v_1 : Int32} {v_2 : Int32} {v_3 : Int32} (w : ∀ x1, x1 = X11_corner_V v_2 v_3 h → ex_G mX5_wayOut (d + 1) 10 [.ref a_0, .int v_1, .retAddr 0, .int v_3, .int x1, .int 0] [] h bc bs Q) : ex_G mX5_wayOut (d + 1) 0 [.ref a_0, .int v_1, .int v_2, .int v_3, .retAddr 0, .retAddr 0] [] h bc bs Q := by
  refine ex_iload_n (q := 1) (x := v_2) dX5_wayOut_0 rfl ?_
  refine ex_iload_n (q := 2) (x := v_3) dX5_wayOut_1 rfl ?_
  refine ex_callS (q := 5) (M := mX5_wayOut) (hdd := Nat.le_refl _) (mc := 0) (ms := 0) (d' := d) (st := []) (bc := bc) (bs := bs) dX5_wayOut_2 rfl cl_X5_66 wd_663 (X11_corner_s (Q := fun r z => r = some (.int (X11_corner_V v_2 v_3 h)) ∧ z = h) ⟨rfl, rfl⟩) ?_
  intro r z hrz
  rw [hrz.1, hrz.2]
  show ex_G mX5_wayOut (d + 1) 5 [.ref a_0, .int v_1, .int v_2, .int v_3, .retAddr 0, .retAddr 0] [.int (X11_corner_V v_2 v_3 h)] (h) bc bs Q
  refine ex_nmi (fun x1 ex1 => ?_)
  replace w := w x1 ex1
  refine ex_istore (q := 7) (ls' := [.ref a_0, .int v_1, .int v_2, .int v_3, .int x1, .retAddr 0]) dX5_wayOut_5 rfl ?_
  refine ex_iconst (q := 8) (v := 0) dX5_wayOut_7 (by decide) ?_
  refine ex_istore (q := 10) (ls' := [.ref a_0, .int v_1, .int v_2, .int v_3, .int x1, .int 0]) dX5_wayOut_8 rfl ?_
  refine ex_kill 2 (ls' := [.ref a_0, .int v_1, .retAddr 0, .int v_3, .int x1, .int 0]) rfl ?_
  exact w

set_option maxRecDepth 100000 in
theorem X5_wayOut_10 {d bc bs : Nat} {h : AH} {Q : Option Value → AH → Prop} {a_0 : Nat} {v_1 : Int32} {v_3 : Int32} {v_4 : Int32} {v_5 : Int32} (w : ((160 ≤ v_5 → Q (some (.int (-1))) h) ∧ (¬ 160 ≤ v_5 → ah_o h a_0 4 ∧ ∃ a3, ah_r h a_0 0 = some a3 ∧ ld0 h a3 v_4 ∧ ((¬ (X5_isIn_V v_1 (ah_i h a3 (Int32.toNatClampNeg v_4)) h) = 0 → ∀ x6, x6 = X11_corner_V (ah_i h a3 (Int32.toNatClampNeg v_4)) v_3 h → ∀ x7, x7 = v_5 + 1 → ex_G mX5_wayOut (d + 1) 10 [.ref a_0, .int v_1, .retAddr 0, .int v_3, .int x6, .int x7] [] h bc bs Q) ∧ ((X5_isIn_V v_1 (ah_i h a3 (Int32.toNatClampNeg v_4)) h) = 0 → Q (some (.int v_4)) h))))) : ex_G mX5_wayOut (d + 1) 10 [.ref a_0, .int v_1, .retAddr 0, .int v_3, .int v_4, .int v_5] [] h bc bs Q := by
  refine ex_iload (q := 12) (x := v_5) dX5_wayOut_10 rfl ?_
  refine ex_sipush (q := 15) (v := 160) dX5_wayOut_12 (by decide) ?_
  refine ex_icmp_ge (tgt := 54) (q := 18) dX5_wayOut_15 (fun c1 => ?_) (fun c1 => ?_)
  · replace w := w.1 c1
    refine ex_iconst (q := 55) (v := (-1)) dX5_wayOut_54 (by decide) ?_
    exact ex_ireturn dX5_wayOut_55 rfl (Or.inl rfl) w
  · replace w := w.2 c1
    refine ex_iload_n (q := 19) (x := v_1) dX5_wayOut_18 rfl ?_
    refine ex_aload_n (q := 20) (x := a_0) dX5_wayOut_19 rfl ?_
    have s2 := w.1
    replace w := w.2
    obtain ⟨a3, ea3, w⟩ := w
    refine ex_getr (q := 23) dX5_wayOut_20 fl_X5_104 s2 ea3 ?_
    refine ex_iload (q := 25) (x := v_4) dX5_wayOut_23 rfl ?_
    have s4 := w.1
    replace w := w.2
    refine ex_iald (q := 26) dX5_wayOut_25 s4 ?_
    refine ex_callS (q := 29) (M := mX5_wayOut) (hdd := Nat.le_refl _) (mc := 0) (ms := 0) (d' := d) (st := []) (bc := bc) (bs := bs) dX5_wayOut_26 rfl cl_X5_143 wd_1097 (X5_isIn_s (Q := fun r z => r = some (.int (X5_isIn_V v_1 (ah_i h a3 (Int32.toNatClampNeg v_4)) h)) ∧ z = h) ⟨rfl, rfl⟩) ?_
    intro r z hrz
    rw [hrz.1, hrz.2]
    show ex_G mX5_wayOut (d + 1) 29 [.ref a_0, .int v_1, .retAddr 0, .int v_3, .int v_4, .int v_5] [.int (X5_isIn_V v_1 (ah_i h a3 (Int32.toNatClampNeg v_4)) h)] (h) bc bs Q
    refine ex_if_ne (tgt := 35) (q := 32) dX5_wayOut_29 (fun c5 => ?_) (fun c5 => ?_)
    · replace w := w.1 c5
      refine ex_aload_n (q := 36) (x := a_0) dX5_wayOut_35 rfl ?_
      refine ex_getr (q := 39) dX5_wayOut_36 fl_X5_104 s2 ea3 ?_
      refine ex_iload (q := 41) (x := v_4) dX5_wayOut_39 rfl ?_
      refine ex_iald (q := 42) dX5_wayOut_41 s4 ?_
      refine ex_iload_n (q := 43) (x := v_3) dX5_wayOut_42 rfl ?_
      refine ex_callS (q := 46) (M := mX5_wayOut) (hdd := Nat.le_refl _) (mc := 0) (ms := 0) (d' := d) (st := []) (bc := bc) (bs := bs) dX5_wayOut_43 rfl cl_X5_66 wd_663 (X11_corner_s (Q := fun r z => r = some (.int (X11_corner_V (ah_i h a3 (Int32.toNatClampNeg v_4)) v_3 h)) ∧ z = h) ⟨rfl, rfl⟩) ?_
      intro r z hrz
      rw [hrz.1, hrz.2]
      show ex_G mX5_wayOut (d + 1) 46 [.ref a_0, .int v_1, .retAddr 0, .int v_3, .int v_4, .int v_5] [.int (X11_corner_V (ah_i h a3 (Int32.toNatClampNeg v_4)) v_3 h)] (h) bc bs Q
      refine ex_nmi (fun x6 ex6 => ?_)
      replace w := w x6 ex6
      refine ex_istore (q := 48) (ls' := [.ref a_0, .int v_1, .retAddr 0, .int v_3, .int x6, .int v_5]) dX5_wayOut_46 rfl ?_
      obtain ⟨x7, ex7⟩ : ∃ y : Int32, y = v_5 + 1 := ⟨_, rfl⟩
      replace w := w x7 ex7
      refine ex_iinc (q := 51) (x := v_5) (v := x7) (ls' := [.ref a_0, .int v_1, .retAddr 0, .int v_3, .int x6, .int x7]) dX5_wayOut_48 rfl (by rw [ex7]; rfl) rfl ?_
      refine ex_goto (tgt := 10) dX5_wayOut_51 ?_
      exact w
    · replace w := w.2 c5
      refine ex_iload (q := 34) (x := v_4) dX5_wayOut_32 rfl ?_
      exact ex_ireturn dX5_wayOut_34 rfl (Or.inl rfl) w

theorem X5_wayOut_e {d bc bs : Nat} {h : AH} {Q : Option Value → AH → Prop} {a_0 : Nat} {v_1 : Int32} {v_2 : Int32} {v_3 : Int32} (w : ex_G mX5_wayOut (d + 1) 0 [.ref a_0, .int v_1, .int v_2, .int v_3, .retAddr 0, .retAddr 0] [] h bc bs Q) : ex_S yX5_wayOut mX5_wayOut (d + 1) [.ref a_0, .int v_1, .int v_2, .int v_3] h bc bs Q :=
  ex_enter (plainFor_of_name (by decide +kernel)) ⟨rfl, rfl⟩ rfl rfl (Nat.le_of_ble_eq_true rfl) (ex_pad 2 w)

set_option maxRecDepth 100000 in
theorem X5_flype_0 {d bc bs : Nat} {h : AH} {Q : Option Value → AH → Prop} {a_0 : Nat} {a_1 : Nat} {a_2 : Nat} {v_3 : Int32} (w : ah_o h a_2 4 ∧ X4_hasEnd_C a_2 v_3 h ∧ (((X4_hasEnd_V a_2 v_3 h) = 0 → Q (some (.int (-15))) h) ∧ (¬ (X4_hasEnd_V a_2 v_3 h) = 0 → ah_o h a_0 5 ∧ (((X5_areThere_V (ah_f h a_0 2) (ah_f h a_2 10) h) = 0 → Q (some (.int (-15))) h) ∧ (¬ (X5_areThere_V (ah_f h a_0 2) (ah_f h a_2 10) h) = 0 → (((X5_isIn_V (ah_f h a_0 2) v_3 h) = 0 → ∃ a7, ah_r h a_2 0 = some a7 ∧ ld0 h a7 v_3 ∧ ∀ x9, x9 = ah_i h a7 (Int32.toNatClampNeg v_3) → ld0 h a7 (X11_corner_V v_3 1 h) ∧ ∀ x11, x11 = ah_i h a7 (Int32.toNatClampNeg (X11_corner_V v_3 1 h)) → (((X5_isIn_V (ah_f h a_0 2) x9 h) = 0 → Q (some (.int (-15))) h) ∧ (¬ (X5_isIn_V (ah_f h a_0 2) x9 h) = 0 → (((X5_isIn_V (ah_f h a_0 2) x11 h) = 0 → Q (some (.int (-15))) h) ∧ (¬ (X5_isIn_V (ah_f h a_0 2) x11 h) = 0 → ex_S yX5_countWaysOut mX5_countWaysOut (d + 1) [.ref a_2, .int (ah_f h a_0 2)] h 0 0 (fun r h14 => ∃ x15, r = some (.int x15) ∧ ((x15 = 4 → ah_o h14 a_0 5 ∧ ex_S yX5_wayOut mX5_wayOut (d + 1) [.ref a_2, .int (ah_f h14 a_0 2), .int x11, .int 3] h14 0 0 (fun r h18 => ∃ x19, r = some (.int x19) ∧ ah_o h18 a_0 5 ∧ ex_S yX5_wayOut mX5_wayOut (d + 1) [.ref a_2, .int (ah_f h18 a_0 2), .int x9, .int 1] h18 0 0 (fun r h21 => ∃ x22, r = some (.int x22) ∧ ((x19 < 0 → Q (some (.int (-15))) h21) ∧ (¬ x19 < 0 → ((x22 < 0 → Q (some (.int (-15))) h21) ∧ (¬ x22 < 0 → ((x19 = x22 → Q (some (.int (-15))) h21) ∧ (¬ x19 = x22 → ((x19 = x9 → Q (some (.int (-15))) h21) ∧ (¬ x19 = x9 → ((x19 = x11 → Q (some (.int (-15))) h21) ∧ (¬ x19 = x11 → ((x22 = x9 → Q (some (.int (-15))) h21) ∧ (¬ x22 = x9 → ((¬ x22 = x11 → ex_S yX5_passOver mX5_passOver (d + 1) [.ref a_1, .int v_3, .int x9, .int x11, .int x19, .int x22] h21 0 0 (fun r h30 => r = none ∧ ex_G mX5_flype (d + 2) 185 [.ref a_0, .ref a_1, .ref a_2, .retAddr 0, .retAddr 0, .retAddr 0, .retAddr 0, .retAddr 0, .int 0] [] h30 bc bs Q)) ∧ (x22 = x11 → Q (some (.int (-15))) h21))))))))))))))))) ∧ (¬ x15 = 4 → Q (some (.int (-15))) h14)))))))) ∧ (¬ (X5_isIn_V (ah_f h a_0 2) v_3 h) = 0 → Q (some (.int (-15))) h))))))) : ex_G mX5_flype (d + 2) 0 [.ref a_0, .ref a_1, .ref a_2, .int v_3, .retAddr 0, .retAddr 0, .retAddr 0, .retAddr 0, .retAddr 0] [] h bc bs Q := by
  refine ex_aload_n (q := 1) (x := a_2) dX5_flype_0 rfl ?_
  refine ex_iload_n (q := 2) (x := v_3) dX5_flype_1 rfl ?_
  have s1 := w.1
  replace w := w.2
  have s2 := w.1
  replace w := w.2
  refine ex_callV (q := 5) (M := mX5_flype) (hdd := Nat.le_refl _) (mc := 0) (ms := 0) (d' := (d + 1)) (c := 4) (st := []) (bc := bc) (bs := bs) dX5_flype_2 rfl cl_X5_85 wd_734 wd_735 s1 (X4_hasEnd_s (Q := fun r z => r = some (.int (X4_hasEnd_V a_2 v_3 h)) ∧ z = h) s2 ⟨rfl, rfl⟩) ?_
  intro r z hrz
  rw [hrz.1, hrz.2]
  show ex_G mX5_flype (d + 2) 5 [.ref a_0, .ref a_1, .ref a_2, .int v_3, .retAddr 0, .retAddr 0, .retAddr 0, .retAddr 0, .retAddr 0] [.int (X4_hasEnd_V a_2 v_3 h)] (h) bc bs Q
  refine ex_if_eq (tgt := 33) (q := 8) dX5_flype_5 (fun c3 => ?_) (fun c3 => ?_)
  · replace w := w.1 c3
    refine ex_bipush (q := 35) (v := (-15)) dX5_flype_33 (by decide) ?_
    exact ex_ireturn dX5_flype_35 rfl (Or.inl rfl) w
  · replace w := w.2 c3
    refine ex_aload_n (q := 9) (x := a_0) dX5_flype_8 rfl ?_
    have s4 := w.1
    replace w := w.2
    refine ex_getf (q := 12) dX5_flype_9 fl_X5_18 s4 ?_
    refine ex_aload_n (q := 13) (x := a_2) dX5_flype_12 rfl ?_
    refine ex_getf (q := 16) dX5_flype_13 fl_X5_142 s1 ?_
    refine ex_callS (q := 19) (M := mX5_flype) (hdd := Nat.le_refl _) (mc := 0) (ms := 0) (d' := (d + 1)) (st := []) (bc := bc) (bs := bs) dX5_flype_16 rfl cl_X5_147 wd_1094 (X5_areThere_s (Q := fun r z => r = some (.int (X5_areThere_V (ah_f h a_0 2) (ah_f h a_2 10) h)) ∧ z = h) ⟨rfl, rfl⟩) ?_
    intro r z hrz
    rw [hrz.1, hrz.2]
    show ex_G mX5_flype (d + 2) 19 [.ref a_0, .ref a_1, .ref a_2, .int v_3, .retAddr 0, .retAddr 0, .retAddr 0, .retAddr 0, .retAddr 0] [.int (X5_areThere_V (ah_f h a_0 2) (ah_f h a_2 10) h)] (h) bc bs Q
    refine ex_if_eq (tgt := 33) (q := 22) dX5_flype_19 (fun c5 => ?_) (fun c5 => ?_)
    · replace w := w.1 c5
      refine ex_bipush (q := 35) (v := (-15)) dX5_flype_33 (by decide) ?_
      exact ex_ireturn dX5_flype_35 rfl (Or.inl rfl) w
    · replace w := w.2 c5
      refine ex_aload_n (q := 23) (x := a_0) dX5_flype_22 rfl ?_
      refine ex_getf (q := 26) dX5_flype_23 fl_X5_18 s4 ?_
      refine ex_iload_n (q := 27) (x := v_3) dX5_flype_26 rfl ?_
      refine ex_callS (q := 30) (M := mX5_flype) (hdd := Nat.le_refl _) (mc := 0) (ms := 0) (d' := (d + 1)) (st := []) (bc := bc) (bs := bs) dX5_flype_27 rfl cl_X5_143 wd_1097 (X5_isIn_s (Q := fun r z => r = some (.int (X5_isIn_V (ah_f h a_0 2) v_3 h)) ∧ z = h) ⟨rfl, rfl⟩) ?_
      intro r z hrz
      rw [hrz.1, hrz.2]
      show ex_G mX5_flype (d + 2) 30 [.ref a_0, .ref a_1, .ref a_2, .int v_3, .retAddr 0, .retAddr 0, .retAddr 0, .retAddr 0, .retAddr 0] [.int (X5_isIn_V (ah_f h a_0 2) v_3 h)] (h) bc bs Q
      refine ex_if_eq (tgt := 36) (q := 33) dX5_flype_30 (fun c6 => ?_) (fun c6 => ?_)
      · replace w := w.1 c6
        refine ex_aload_n (q := 37) (x := a_2) dX5_flype_36 rfl ?_
        obtain ⟨a7, ea7, w⟩ := w
        refine ex_getr (q := 40) dX5_flype_37 fl_X5_104 s1 ea7 ?_
        refine ex_iload_n (q := 41) (x := v_3) dX5_flype_40 rfl ?_
        have s8 := w.1
        replace w := w.2
        refine ex_iald (q := 42) dX5_flype_41 s8 ?_
        refine ex_nmi (fun x9 ex9 => ?_)
        replace w := w x9 ex9
        refine ex_istore (q := 44) (ls' := [.ref a_0, .ref a_1, .ref a_2, .int v_3, .int x9, .retAddr 0, .retAddr 0, .retAddr 0, .retAddr 0]) dX5_flype_42 rfl ?_
        refine ex_aload_n (q := 45) (x := a_2) dX5_flype_44 rfl ?_
        refine ex_getr (q := 48) dX5_flype_45 fl_X5_104 s1 ea7 ?_
        refine ex_iload_n (q := 49) (x := v_3) dX5_flype_48 rfl ?_
        refine ex_iconst (q := 50) (v := 1) dX5_flype_49 (by decide) ?_
        refine ex_callS (q := 53) (M := mX5_flype) (hdd := Nat.le_refl _) (mc := 0) (ms := 0) (d' := (d + 1)) (st := [.ref a7]) (bc := bc) (bs := bs) dX5_flype_50 rfl cl_X5_66 wd_663 (X11_corner_s (Q := fun r z => r = some (.int (X11_corner_V v_3 1 h)) ∧ z = h) ⟨rfl, rfl⟩) ?_
        intro r z hrz
        rw [hrz.1, hrz.2]
        show ex_G mX5_flype (d + 2) 53 [.ref a_0, .ref a_1, .ref a_2, .int v_3, .int x9, .retAddr 0, .retAddr 0, .retAddr 0, .retAddr 0] [.int (X11_corner_V v_3 1 h), .ref a7] (h) bc bs Q
        have s10 := w.1
        replace w := w.2
        refine ex_iald (q := 54) dX5_flype_53 s10 ?_
        refine ex_nmi (fun x11 ex11 => ?_)
        replace w := w x11 ex11
        refine ex_istore (q := 56) (ls' := [.ref a_0, .ref a_1, .ref a_2, .int v_3, .int x9, .int x11, .retAddr 0, .retAddr 0, .retAddr 0]) dX5_flype_54 rfl ?_
        refine ex_aload_n (q := 57) (x := a_0) dX5_flype_56 rfl ?_
        refine ex_getf (q := 60) dX5_flype_57 fl_X5_18 s4 ?_
        refine ex_iload (q := 62) (x := x9) dX5_flype_60 rfl ?_
        refine ex_callS (q := 65) (M := mX5_flype) (hdd := Nat.le_refl _) (mc := 0) (ms := 0) (d' := (d + 1)) (st := []) (bc := bc) (bs := bs) dX5_flype_62 rfl cl_X5_143 wd_1097 (X5_isIn_s (Q := fun r z => r = some (.int (X5_isIn_V (ah_f h a_0 2) x9 h)) ∧ z = h) ⟨rfl, rfl⟩) ?_
        intro r z hrz
        rw [hrz.1, hrz.2]
        show ex_G mX5_flype (d + 2) 65 [.ref a_0, .ref a_1, .ref a_2, .int v_3, .int x9, .int x11, .retAddr 0, .retAddr 0, .retAddr 0] [.int (X5_isIn_V (ah_f h a_0 2) x9 h)] (h) bc bs Q
        refine ex_if_eq (tgt := 92) (q := 68) dX5_flype_65 (fun c12 => ?_) (fun c12 => ?_)
        · replace w := w.1 c12
          refine ex_bipush (q := 94) (v := (-15)) dX5_flype_92 (by decide) ?_
          exact ex_ireturn dX5_flype_94 rfl (Or.inl rfl) w
        · replace w := w.2 c12
          refine ex_aload_n (q := 69) (x := a_0) dX5_flype_68 rfl ?_
          refine ex_getf (q := 72) dX5_flype_69 fl_X5_18 s4 ?_
          refine ex_iload (q := 74) (x := x11) dX5_flype_72 rfl ?_
          refine ex_callS (q := 77) (M := mX5_flype) (hdd := Nat.le_refl _) (mc := 0) (ms := 0) (d' := (d + 1)) (st := []) (bc := bc) (bs := bs) dX5_flype_74 rfl cl_X5_143 wd_1097 (X5_isIn_s (Q := fun r z => r = some (.int (X5_isIn_V (ah_f h a_0 2) x11 h)) ∧ z = h) ⟨rfl, rfl⟩) ?_
          intro r z hrz
          rw [hrz.1, hrz.2]
          show ex_G mX5_flype (d + 2) 77 [.ref a_0, .ref a_1, .ref a_2, .int v_3, .int x9, .int x11, .retAddr 0, .retAddr 0, .retAddr 0] [.int (X5_isIn_V (ah_f h a_0 2) x11 h)] (h) bc bs Q
          refine ex_if_eq (tgt := 92) (q := 80) dX5_flype_77 (fun c13 => ?_) (fun c13 => ?_)
          · replace w := w.1 c13
            refine ex_bipush (q := 94) (v := (-15)) dX5_flype_92 (by decide) ?_
            exact ex_ireturn dX5_flype_94 rfl (Or.inl rfl) w
          · replace w := w.2 c13
            refine ex_aload_n (q := 81) (x := a_2) dX5_flype_80 rfl ?_
            refine ex_aload_n (q := 82) (x := a_0) dX5_flype_81 rfl ?_
            refine ex_getf (q := 85) dX5_flype_82 fl_X5_18 s4 ?_
            refine ex_callS (q := 88) (M := mX5_flype) (hdd := Nat.le_refl _) (st := []) (bc := bc) (bs := bs) dX5_flype_85 rfl cl_X5_150 wd_1100 w ?_
            rintro r h14 ⟨x15, rfl, w⟩
            show ex_G mX5_flype (d + 2) 88 [.ref a_0, .ref a_1, .ref a_2, .int v_3, .int x9, .int x11, .retAddr 0, .retAddr 0, .retAddr 0] [.int x15] h14 bc bs Q
            refine ex_iconst (q := 89) (v := 4) dX5_flype_88 (by decide) ?_
            refine ex_icmp_eq (tgt := 95) (q := 92) dX5_flype_89 (fun c16 => ?_) (fun c16 => ?_)
            · replace w := w.1 c16
              refine ex_aload_n (q := 96) (x := a_2) dX5_flype_95 rfl ?_
              refine ex_aload_n (q := 97) (x := a_0) dX5_flype_96 rfl ?_
              have s17 := w.1
              replace w := w.2
              refine ex_getf (q := 100) dX5_flype_97 fl_X5_18 s17 ?_
              refine ex_iload (q := 102) (x := x11) dX5_flype_100 rfl ?_
              refine ex_iconst (q := 103) (v := 3) dX5_flype_102 (by decide) ?_
              refine ex_callS (q := 106) (M := mX5_flype) (hdd := Nat.le_refl _) (st := []) (bc := bc) (bs := bs) dX5_flype_103 rfl cl_X5_154 wd_1103 w ?_
              rintro r h18 ⟨x19, rfl, w⟩
              show ex_G mX5_flype (d + 2) 106 [.ref a_0, .ref a_1, .ref a_2, .int v_3, .int x9, .int x11, .retAddr 0, .retAddr 0, .retAddr 0] [.int x19] h18 bc bs Q
              refine ex_istore (q := 108) (ls' := [.ref a_0, .ref a_1, .ref a_2, .int v_3, .int x9, .int x11, .int x19, .retAddr 0, .retAddr 0]) dX5_flype_106 rfl ?_
              refine ex_aload_n (q := 109) (x := a_2) dX5_flype_108 rfl ?_
              refine ex_aload_n (q := 110) (x := a_0) dX5_flype_109 rfl ?_
              have s20 := w.1
              replace w := w.2
              refine ex_getf (q := 113) dX5_flype_110 fl_X5_18 s20 ?_
              refine ex_iload (q := 115) (x := x9) dX5_flype_113 rfl ?_
              refine ex_iconst (q := 116) (v := 1) dX5_flype_115 (by decide) ?_
              refine ex_callS (q := 119) (M := mX5_flype) (hdd := Nat.le_refl _) (st := []) (bc := bc) (bs := bs) dX5_flype_116 rfl cl_X5_154 wd_1103 w ?_
              rintro r h21 ⟨x22, rfl, w⟩
              show ex_G mX5_flype (d + 2) 119 [.ref a_0, .ref a_1, .ref a_2, .int v_3, .int x9, .int x11, .int x19, .retAddr 0, .retAddr 0] [.int x22] h21 bc bs Q
              refine ex_istore (q := 121) (ls' := [.ref a_0, .ref a_1, .ref a_2, .int v_3, .int x9, .int x11, .int x19, .int x22, .retAddr 0]) dX5_flype_119 rfl ?_
              refine ex_iload (q := 123) (x := x19) dX5_flype_121 rfl ?_
              refine ex_if_lt (tgt := 166) (q := 126) dX5_flype_123 (fun c23 => ?_) (fun c23 => ?_)
              · replace w := w.1 c23
                refine ex_bipush (q := 168) (v := (-15)) dX5_flype_166 (by decide) ?_
                exact ex_ireturn dX5_flype_168 rfl (Or.inl rfl) w
              · replace w := w.2 c23
                refine ex_iload (q := 128) (x := x22) dX5_flype_126 rfl ?_
                refine ex_if_lt (tgt := 166) (q := 131) dX5_flype_128 (fun c24 => ?_) (fun c24 => ?_)
                · replace w := w.1 c24
                  refine ex_bipush (q := 168) (v := (-15)) dX5_flype_166 (by decide) ?_
                  exact ex_ireturn dX5_flype_168 rfl (Or.inl rfl) w
                · replace w := w.2 c24
                  refine ex_iload (q := 133) (x := x19) dX5_flype_131 rfl ?_
                  refine ex_iload (q := 135) (x := x22) dX5_flype_133 rfl ?_
                  refine ex_icmp_eq (tgt := 166) (q := 138) dX5_flype_135 (fun c25 => ?_) (fun c25 => ?_)
                  · replace w := w.1 c25
                    refine ex_bipush (q := 168) (v := (-15)) dX5_flype_166 (by decide) ?_
                    exact ex_ireturn dX5_flype_168 rfl (Or.inl rfl) w
                  · replace w := w.2 c25
                    refine ex_iload (q := 140) (x := x19) dX5_flype_138 rfl ?_
                    refine ex_iload (q := 142) (x := x9) dX5_flype_140 rfl ?_
                    refine ex_icmp_eq (tgt := 166) (q := 145) dX5_flype_142 (fun c26 => ?_) (fun c26 => ?_)
                    · replace w := w.1 c26
                      refine ex_bipush (q := 168) (v := (-15)) dX5_flype_166 (by decide) ?_
                      exact ex_ireturn dX5_flype_168 rfl (Or.inl rfl) w
                    · replace w := w.2 c26
                      refine ex_iload (q := 147) (x := x19) dX5_flype_145 rfl ?_
                      refine ex_iload (q := 149) (x := x11) dX5_flype_147 rfl ?_
                      refine ex_icmp_eq (tgt := 166) (q := 152) dX5_flype_149 (fun c27 => ?_) (fun c27 => ?_)
                      · replace w := w.1 c27
                        refine ex_bipush (q := 168) (v := (-15)) dX5_flype_166 (by decide) ?_
                        exact ex_ireturn dX5_flype_168 rfl (Or.inl rfl) w
                      · replace w := w.2 c27
                        refine ex_iload (q := 154) (x := x22) dX5_flype_152 rfl ?_
                        refine ex_iload (q := 156) (x := x9) dX5_flype_154 rfl ?_
                        refine ex_icmp_eq (tgt := 166) (q := 159) dX5_flype_156 (fun c28 => ?_) (fun c28 => ?_)
                        · replace w := w.1 c28
                          refine ex_bipush (q := 168) (v := (-15)) dX5_flype_166 (by decide) ?_
                          exact ex_ireturn dX5_flype_168 rfl (Or.inl rfl) w
                        · replace w := w.2 c28
                          refine ex_iload (q := 161) (x := x22) dX5_flype_159 rfl ?_
                          refine ex_iload (q := 163) (x := x11) dX5_flype_161 rfl ?_
                          refine ex_icmp_ne (tgt := 169) (q := 166) dX5_flype_163 (fun c29 => ?_) (fun c29 => ?_)
                          · replace w := w.1 c29
                            refine ex_aload_n (q := 170) (x := a_1) dX5_flype_169 rfl ?_
                            refine ex_iload_n (q := 171) (x := v_3) dX5_flype_170 rfl ?_
                            refine ex_iload (q := 173) (x := x9) dX5_flype_171 rfl ?_
                            refine ex_iload (q := 175) (x := x11) dX5_flype_173 rfl ?_
                            refine ex_iload (q := 177) (x := x19) dX5_flype_175 rfl ?_
                            refine ex_iload (q := 179) (x := x22) dX5_flype_177 rfl ?_
                            refine ex_callS (q := 182) (M := mX5_flype) (hdd := Nat.le_refl _) (st := []) (bc := bc) (bs := bs) dX5_flype_179 rfl cl_X5_158 wd_1106 w ?_
                            rintro r h30 ⟨rfl, w⟩
                            show ex_G mX5_flype (d + 2) 182 [.ref a_0, .ref a_1, .ref a_2, .int v_3, .int x9, .int x11, .int x19, .int x22, .retAddr 0] [] h30 bc bs Q
                            refine ex_iconst (q := 183) (v := 0) dX5_flype_182 (by decide) ?_
                            refine ex_istore (q := 185) (ls' := [.ref a_0, .ref a_1, .ref a_2, .int v_3, .int x9, .int x11, .int x19, .int x22, .int 0]) dX5_flype_183 rfl ?_
                            refine ex_kill 3 (ls' := [.ref a_0, .ref a_1, .ref a_2, .retAddr 0, .int x9, .int x11, .int x19, .int x22, .int 0]) rfl ?_
                            refine ex_kill 4 (ls' := [.ref a_0, .ref a_1, .ref a_2, .retAddr 0, .retAddr 0, .int x11, .int x19, .int x22, .int 0]) rfl ?_
                            refine ex_kill 5 (ls' := [.ref a_0, .ref a_1, .ref a_2, .retAddr 0, .retAddr 0, .retAddr 0, .int x19, .int x22, .int 0]) rfl ?_
                            refine ex_kill 6 (ls' := [.ref a_0, .ref a_1, .ref a_2, .retAddr 0, .retAddr 0, .retAddr 0, .retAddr 0, .int x22, .int 0]) rfl ?_
                            refine ex_kill 7 (ls' := [.ref a_0, .ref a_1, .ref a_2, .retAddr 0, .retAddr 0, .retAddr 0, .retAddr 0, .retAddr 0, .int 0]) rfl ?_
                            exact w
                          · replace w := w.2 c29
                            refine ex_bipush (q := 168) (v := (-15)) dX5_flype_166 (by decide) ?_
                            exact ex_ireturn dX5_flype_168 rfl (Or.inl rfl) w
            · replace w := w.2 c16
              refine ex_bipush (q := 94) (v := (-15)) dX5_flype_92 (by decide) ?_
              exact ex_ireturn dX5_flype_94 rfl (Or.inl rfl) w
      · replace w := w.2 c6
        refine ex_bipush (q := 35) (v := (-15)) dX5_flype_33 (by decide) ?_
        exact ex_ireturn dX5_flype_35 rfl (Or.inl rfl) w

set_option maxRecDepth 100000 in
theorem X5_flype_185 {d bc bs : Nat} {h : AH} {Q : Option Value → AH → Prop} {a_0 : Nat} {a_1 : Nat} {a_2 : Nat} {v_8 : Int32} (w : ah_o h a_2 4 ∧ (((ah_f h a_2 10) ≤ v_8 → Q (some (.int 1)) h) ∧ (¬ (ah_f h a_2 10) ≤ v_8 → ah_o h a_0 5 ∧ (((X5_isIn_V (ah_f h a_0 2) (4 * v_8) h) = 0 → ∀ x5, x5 = v_8 + 1 → ex_G mX5_flype (d + 2) 185 [.ref a_0, .ref a_1, .ref a_2, .retAddr 0, .retAddr 0, .retAddr 0, .retAddr 0, .retAddr 0, .int x5] [] h bc bs Q) ∧ (¬ (X5_isIn_V (ah_f h a_0 2) (4 * v_8) h) = 0 → ah_o h a_1 7 ∧ X7_flip_C a_1 v_8 h ∧ ∀ h8, h8 = X7_flip_H a_1 v_8 h → ∀ x9, x9 = v_8 + 1 → ex_G mX5_flype (d + 2) 185 [.ref a_0, .ref a_1, .ref a_2, .retAddr 0, .retAddr 0, .retAddr 0, .retAddr 0, .retAddr 0, .int x9] [] h8 bc bs Q))))) : ex_G mX5_flype (d + 2) 185 [.ref a_0, .ref a_1, .ref a_2, .retAddr 0, .retAddr 0, .retAddr 0, .retAddr 0, .retAddr 0, .int v_8] [] h bc bs Q := by
  refine ex_iload (q := 187) (x := v_8) dX5_flype_185 rfl ?_
  refine ex_aload_n (q := 188) (x := a_2) dX5_flype_187 rfl ?_
  have s1 := w.1
  replace w := w.2
  refine ex_getf (q := 191) dX5_flype_188 fl_X5_142 s1 ?_
  refine ex_icmp_ge (tgt := 220) (q := 194) dX5_flype_191 (fun c2 => ?_) (fun c2 => ?_)
  · replace w := w.1 c2
    refine ex_iconst (q := 221) (v := 1) dX5_flype_220 (by decide) ?_
    exact ex_ireturn dX5_flype_221 rfl (Or.inl rfl) w
  · replace w := w.2 c2
    refine ex_aload_n (q := 195) (x := a_0) dX5_flype_194 rfl ?_
    have s3 := w.1
    replace w := w.2
    refine ex_getf (q := 198) dX5_flype_195 fl_X5_18 s3 ?_
    refine ex_iconst (q := 199) (v := 4) dX5_flype_198 (by decide) ?_
    refine ex_iload (q := 201) (x := v_8) dX5_flype_199 rfl ?_
    refine ex_imul (q := 202) dX5_flype_201 ?_
    refine ex_callS (q := 205) (M := mX5_flype) (hdd := Nat.le_refl _) (mc := 0) (ms := 0) (d' := (d + 1)) (st := []) (bc := bc) (bs := bs) dX5_flype_202 rfl cl_X5_143 wd_1097 (X5_isIn_s (Q := fun r z => r = some (.int (X5_isIn_V (ah_f h a_0 2) (4 * v_8) h)) ∧ z = h) ⟨rfl, rfl⟩) ?_
    intro r z hrz
    rw [hrz.1, hrz.2]
    show ex_G mX5_flype (d + 2) 205 [.ref a_0, .ref a_1, .ref a_2, .retAddr 0, .retAddr 0, .retAddr 0, .retAddr 0, .retAddr 0, .int v_8] [.int (X5_isIn_V (ah_f h a_0 2) (4 * v_8) h)] (h) bc bs Q
    refine ex_if_eq (tgt := 214) (q := 208) dX5_flype_205 (fun c4 => ?_) (fun c4 => ?_)
    · replace w := w.1 c4
      obtain ⟨x5, ex5⟩ : ∃ y : Int32, y = v_8 + 1 := ⟨_, rfl⟩
      replace w := w x5 ex5
      refine ex_iinc (q := 217) (x := v_8) (v := x5) (ls' := [.ref a_0, .ref a_1, .ref a_2, .retAddr 0, .retAddr 0, .retAddr 0, .retAddr 0, .retAddr 0, .int x5]) dX5_flype_214 rfl (by rw [ex5]; rfl) rfl ?_
      refine ex_goto (tgt := 185) dX5_flype_217 ?_
      exact w
    · replace w := w.2 c4
      refine ex_aload_n (q := 209) (x := a_1) dX5_flype_208 rfl ?_
      refine ex_iload (q := 211) (x := v_8) dX5_flype_209 rfl ?_
      have s6 := w.1
      replace w := w.2
      have s7 := w.1
      replace w := w.2
      refine ex_callV (q := 214) (M := mX5_flype) (hdd := Nat.le_refl _) (mc := 0) (ms := 0) (d' := (d + 1)) (c := 7) (st := []) (bc := bc) (bs := bs) dX5_flype_211 rfl cl_X5_162 wd_722 wd_723 s6 (X7_flip_s (Q := fun r z => r = none ∧ z = X7_flip_H a_1 v_8 h) s7 ⟨rfl, rfl⟩) ?_
      intro r z hrz
      rw [hrz.1, hrz.2]
      show ex_G mX5_flype (d + 2) 214 [.ref a_0, .ref a_1, .ref a_2, .retAddr 0, .retAddr 0, .retAddr 0, .retAddr 0, .retAddr 0, .int v_8] [] (X7_flip_H a_1 v_8 h) bc bs Q
      refine ex_nmh (fun h8 eh8 => ?_)
      replace w := w h8 eh8
      obtain ⟨x9, ex9⟩ : ∃ y : Int32, y = v_8 + 1 := ⟨_, rfl⟩
      replace w := w x9 ex9
      refine ex_iinc (q := 217) (x := v_8) (v := x9) (ls' := [.ref a_0, .ref a_1, .ref a_2, .retAddr 0, .retAddr 0, .retAddr 0, .retAddr 0, .retAddr 0, .int x9]) dX5_flype_214 rfl (by rw [ex9]; rfl) rfl ?_
      refine ex_goto (tgt := 185) dX5_flype_217 ?_
      exact w

theorem X5_flype_e {d bc bs : Nat} {h : AH} {Q : Option Value → AH → Prop} {a_0 : Nat} {a_1 : Nat} {a_2 : Nat} {v_3 : Int32} (w : ex_G mX5_flype (d + 2) 0 [.ref a_0, .ref a_1, .ref a_2, .int v_3, .retAddr 0, .retAddr 0, .retAddr 0, .retAddr 0, .retAddr 0] [] h bc bs Q) : ex_S yX5_flype mX5_flype (d + 2) [.ref a_0, .ref a_1, .ref a_2, .int v_3] h bc bs Q :=
  ex_enter (plainFor_of_name (by decide +kernel)) ⟨rfl, rfl⟩ rfl rfl (Nat.le_of_ble_eq_true rfl) (ex_pad 5 w)

set_option maxRecDepth 100000 in
theorem X5_passOver_0 {d bc bs : Nat} {h : AH} {Q : Option Value → AH → Prop} {a_0 : Nat} {v_1 : Int32} {v_2 : Int32} {v_3 : Int32} {v_4 : Int32} {v_5 : Int32} (w : ah_o h a_0 7 ∧ ∃ a2, ah_r h a_0 1 = some a2 ∧ ld0 h a2 v_1 ∧ ∀ x4, x4 = ah_i h a2 (Int32.toNatClampNeg v_1) → ld0 h a2 (X11_corner_V v_1 1 h) ∧ ∀ x6, x6 = ah_i h a2 (Int32.toNatClampNeg (X11_corner_V v_1 1 h)) → ld0 h a2 (X11_corner_V v_1 2 h) ∧ ∀ x8, x8 = ah_i h a2 (Int32.toNatClampNeg (X11_corner_V v_1 2 h)) → ld0 h a2 (X11_corner_V v_1 3 h) ∧ ∀ x10, x10 = ah_i h a2 (Int32.toNatClampNeg (X11_corner_V v_1 3 h)) → ld0 h a2 v_4 ∧ ∀ x12, x12 = ah_i h a2 (Int32.toNatClampNeg v_4) → ld0 h a2 v_5 ∧ ∀ x14, x14 = ah_i h a2 (Int32.toNatClampNeg v_5) → st0 h a2 v_1 ∧ ∀ h15, h15 = ah_si h a2 (Int32.toNatClampNeg v_1) x14 → st0 h15 a2 (X11_corner_V v_1 1 h15) ∧ ∀ h17, h17 = ah_si h15 a2 (Int32.toNatClampNeg (X11_corner_V v_1 1 h15)) x12 → st0 h17 a2 (X11_corner_V v_1 2 h17) ∧ ∀ h19, h19 = ah_si h17 a2 (Int32.toNatClampNeg (X11_corner_V v_1 2 h17)) x4 → st0 h19 a2 (X11_corner_V v_1 3 h19) ∧ ∀ h21, h21 = ah_si h19 a2 (Int32.toNatClampNeg (X11_corner_V v_1 3 h19)) x6 → st0 h21 a2 v_2 ∧ ∀ h23, h23 = ah_si h21 a2 (Int32.toNatClampNeg v_2) x8 → st0 h23 a2 v_3 ∧ ∀ h25, h25 = ah_si h23 a2 (Int32.toNatClampNeg v_3) x10 → st0 h25 a2 v_5 ∧ ∀ h27, h27 = ah_si h25 a2 (Int32.toNatClampNeg v_5) x4 → st0 h27 a2 v_4 ∧ ∀ h29, h29 = ah_si h27 a2 (Int32.toNatClampNeg v_4) x6 → Q none h29) : ex_G mX5_passOver (d + 1) 0 [.ref a_0, .int v_1, .int v_2, .int v_3, .int v_4, .int v_5, .retAddr 0, .retAddr 0, .retAddr 0, .retAddr 0, .retAddr 0, .retAddr 0, .retAddr 0] [] h bc bs Q := by
  refine ex_aload_n (q := 1) (x := a_0) dX5_passOver_0 rfl ?_
  have s1 := w.1
  replace w := w.2
  obtain ⟨a2, ea2, w⟩ := w
  refine ex_getr (q := 4) dX5_passOver_1 fl_X5_101 s1 ea2 ?_
  refine ex_astore (q := 6) (ls' := [.ref a_0, .int v_1, .int v_2, .int v_3, .int v_4, .int v_5, .ref a2, .retAddr 0, .retAddr 0, .retAddr 0, .retAddr 0, .retAddr 0, .retAddr 0]) dX5_passOver_4 rfl ?_
  refine ex_aload (q := 8) (x := a2) dX5_passOver_6 rfl ?_
  refine ex_iload_n (q := 9) (x := v_1) dX5_passOver_8 rfl ?_
  have s3 := w.1
  replace w := w.2
  refine ex_iald (q := 10) dX5_passOver_9 s3 ?_
  refine ex_nmi (fun x4 ex4 => ?_)
  replace w := w x4 ex4
  refine ex_istore (q := 12) (ls' := [.ref a_0, .int v_1, .int v_2, .int v_3, .int v_4, .int v_5, .ref a2, .int x4, .retAddr 0, .retAddr 0, .retAddr 0, .retAddr 0, .retAddr 0]) dX5_passOver_10 rfl ?_
  refine ex_aload (q := 14) (x := a2) dX5_passOver_12 rfl ?_
  refine ex_iload_n (q := 15) (x := v_1) dX5_passOver_14 rfl ?_
  refine ex_iconst (q := 16) (v := 1) dX5_passOver_15 (by decide) ?_
  refine ex_callS (q := 19) (M := mX5_passOver) (hdd := Nat.le_refl _) (mc := 0) (ms := 0) (d' := d) (st := [.ref a2]) (bc := bc) (bs := bs) dX5_passOver_16 rfl cl_X5_66 wd_663 (X11_corner_s (Q := fun r z => r = some (.int (X11_corner_V v_1 1 h)) ∧ z = h) ⟨rfl, rfl⟩) ?_
  intro r z hrz
  rw [hrz.1, hrz.2]
  show ex_G mX5_passOver (d + 1) 19 [.ref a_0, .int v_1, .int v_2, .int v_3, .int v_4, .int v_5, .ref a2, .int x4, .retAddr 0, .retAddr 0, .retAddr 0, .retAddr 0, .retAddr 0] [.int (X11_corner_V v_1 1 h), .ref a2] (h) bc bs Q
  have s5 := w.1
  replace w := w.2
  refine ex_iald (q := 20) dX5_passOver_19 s5 ?_
  refine ex_nmi (fun x6 ex6 => ?_)
  replace w := w x6 ex6
  refine ex_istore (q := 22) (ls' := [.ref a_0, .int v_1, .int v_2, .int v_3, .int v_4, .int v_5, .ref a2, .int x4, .int x6, .retAddr 0, .retAddr 0, .retAddr 0, .retAddr 0]) dX5_passOver_20 rfl ?_
  refine ex_aload (q := 24) (x := a2) dX5_passOver_22 rfl ?_
  refine ex_iload_n (q := 25) (x := v_1) dX5_passOver_24 rfl ?_
  refine ex_iconst (q := 26) (v := 2) dX5_passOver_25 (by decide) ?_
  refine ex_callS (q := 29) (M := mX5_passOver) (hdd := Nat.le_refl _) (mc := 0) (ms := 0) (d' := d) (st := [.ref a2]) (bc := bc) (bs := bs) dX5_passOver_26 rfl cl_X5_66 wd_663 (X11_corner_s (Q := fun r z => r = some (.int (X11_corner_V v_1 2 h)) ∧ z = h) ⟨rfl, rfl⟩) ?_
  intro r z hrz
  rw [hrz.1, hrz.2]
  show ex_G mX5_passOver (d + 1) 29 [.ref a_0, .int v_1, .int v_2, .int v_3, .int v_4, .int v_5, .ref a2, .int x4, .int x6, .retAddr 0, .retAddr 0, .retAddr 0, .retAddr 0] [.int (X11_corner_V v_1 2 h), .ref a2] (h) bc bs Q
  have s7 := w.1
  replace w := w.2
  refine ex_iald (q := 30) dX5_passOver_29 s7 ?_
  refine ex_nmi (fun x8 ex8 => ?_)
  replace w := w x8 ex8
  refine ex_istore (q := 32) (ls' := [.ref a_0, .int v_1, .int v_2, .int v_3, .int v_4, .int v_5, .ref a2, .int x4, .int x6, .int x8, .retAddr 0, .retAddr 0, .retAddr 0]) dX5_passOver_30 rfl ?_
  refine ex_aload (q := 34) (x := a2) dX5_passOver_32 rfl ?_
  refine ex_iload_n (q := 35) (x := v_1) dX5_passOver_34 rfl ?_
  refine ex_iconst (q := 36) (v := 3) dX5_passOver_35 (by decide) ?_
  refine ex_callS (q := 39) (M := mX5_passOver) (hdd := Nat.le_refl _) (mc := 0) (ms := 0) (d' := d) (st := [.ref a2]) (bc := bc) (bs := bs) dX5_passOver_36 rfl cl_X5_66 wd_663 (X11_corner_s (Q := fun r z => r = some (.int (X11_corner_V v_1 3 h)) ∧ z = h) ⟨rfl, rfl⟩) ?_
  intro r z hrz
  rw [hrz.1, hrz.2]
  show ex_G mX5_passOver (d + 1) 39 [.ref a_0, .int v_1, .int v_2, .int v_3, .int v_4, .int v_5, .ref a2, .int x4, .int x6, .int x8, .retAddr 0, .retAddr 0, .retAddr 0] [.int (X11_corner_V v_1 3 h), .ref a2] (h) bc bs Q
  have s9 := w.1
  replace w := w.2
  refine ex_iald (q := 40) dX5_passOver_39 s9 ?_
  refine ex_nmi (fun x10 ex10 => ?_)
  replace w := w x10 ex10
  refine ex_istore (q := 42) (ls' := [.ref a_0, .int v_1, .int v_2, .int v_3, .int v_4, .int v_5, .ref a2, .int x4, .int x6, .int x8, .int x10, .retAddr 0, .retAddr 0]) dX5_passOver_40 rfl ?_
  refine ex_aload (q := 44) (x := a2) dX5_passOver_42 rfl ?_
  refine ex_iload (q := 46) (x := v_4) dX5_passOver_44 rfl ?_
  have s11 := w.1
  replace w := w.2
  refine ex_iald (q := 47) dX5_passOver_46 s11 ?_
  refine ex_nmi (fun x12 ex12 => ?_)
  replace w := w x12 ex12
  refine ex_istore (q := 49) (ls' := [.ref a_0, .int v_1, .int v_2, .int v_3, .int v_4, .int v_5, .ref a2, .int x4, .int x6, .int x8, .int x10, .int x12, .retAddr 0]) dX5_passOver_47 rfl ?_
  refine ex_aload (q := 51) (x := a2) dX5_passOver_49 rfl ?_
  refine ex_iload (q := 53) (x := v_5) dX5_passOver_51 rfl ?_
  have s13 := w.1
  replace w := w.2
  refine ex_iald (q := 54) dX5_passOver_53 s13 ?_
  refine ex_nmi (fun x14 ex14 => ?_)
  replace w := w x14 ex14
  refine ex_istore (q := 56) (ls' := [.ref a_0, .int v_1, .int v_2, .int v_3, .int v_4, .int v_5, .ref a2, .int x4, .int x6, .int x8, .int x10, .int x12, .int x14]) dX5_passOver_54 rfl ?_
  refine ex_aload (q := 58) (x := a2) dX5_passOver_56 rfl ?_
  refine ex_iload_n (q := 59) (x := v_1) dX5_passOver_58 rfl ?_
  refine ex_iload (q := 61) (x := x14) dX5_passOver_59 rfl ?_
  have s16 := w.1
  replace w := w.2
  refine ex_iast (q := 62) dX5_passOver_61 s16 ?_
  refine ex_nmh (fun h15 eh15 => ?_)
  replace w := w h15 eh15
  refine ex_aload (q := 64) (x := a2) dX5_passOver_62 rfl ?_
  refine ex_iload_n (q := 65) (x := v_1) dX5_passOver_64 rfl ?_
  refine ex_iconst (q := 66) (v := 1) dX5_passOver_65 (by decide) ?_
  refine ex_callS (q := 69) (M := mX5_passOver) (hdd := Nat.le_refl _) (mc := 0) (ms := 0) (d' := d) (st := [.ref a2]) (bc := bc) (bs := bs) dX5_passOver_66 rfl cl_X5_66 wd_663 (X11_corner_s (Q := fun r z => r = some (.int (X11_corner_V v_1 1 h15)) ∧ z = h15) ⟨rfl, rfl⟩) ?_
  intro r z hrz
  rw [hrz.1, hrz.2]
  show ex_G mX5_passOver (d + 1) 69 [.ref a_0, .int v_1, .int v_2, .int v_3, .int v_4, .int v_5, .ref a2, .int x4, .int x6, .int x8, .int x10, .int x12, .int x14] [.int (X11_corner_V v_1 1 h15), .ref a2] (h15) bc bs Q
  refine ex_iload (q := 71) (x := x12) dX5_passOver_69 rfl ?_
  have s18 := w.1
  replace w := w.2
  refine ex_iast (q := 72) dX5_passOver_71 s18 ?_
  refine ex_nmh (fun h17 eh17 => ?_)
  replace w := w h17 eh17
  refine ex_aload (q := 74) (x := a2) dX5_passOver_72 rfl ?_
  refine ex_iload_n (q := 75) (x := v_1) dX5_passOver_74 rfl ?_
  refine ex_iconst (q := 76) (v := 2) dX5_passOver_75 (by decide) ?_
  refine ex_callS (q := 79) (M := mX5_passOver) (hdd := Nat.le_refl _) (mc := 0) (ms := 0) (d' := d) (st := [.ref a2]) (bc := bc) (bs := bs) dX5_passOver_76 rfl cl_X5_66 wd_663 (X11_corner_s (Q := fun r z => r = some (.int (X11_corner_V v_1 2 h17)) ∧ z = h17) ⟨rfl, rfl⟩) ?_
  intro r z hrz
  rw [hrz.1, hrz.2]
  show ex_G mX5_passOver (d + 1) 79 [.ref a_0, .int v_1, .int v_2, .int v_3, .int v_4, .int v_5, .ref a2, .int x4, .int x6, .int x8, .int x10, .int x12, .int x14] [.int (X11_corner_V v_1 2 h17), .ref a2] (h17) bc bs Q
  refine ex_iload (q := 81) (x := x4) dX5_passOver_79 rfl ?_
  have s20 := w.1
  replace w := w.2
  refine ex_iast (q := 82) dX5_passOver_81 s20 ?_
  refine ex_nmh (fun h19 eh19 => ?_)
  replace w := w h19 eh19
  refine ex_aload (q := 84) (x := a2) dX5_passOver_82 rfl ?_
  refine ex_iload_n (q := 85) (x := v_1) dX5_passOver_84 rfl ?_
  refine ex_iconst (q := 86) (v := 3) dX5_passOver_85 (by decide) ?_
  refine ex_callS (q := 89) (M := mX5_passOver) (hdd := Nat.le_refl _) (mc := 0) (ms := 0) (d' := d) (st := [.ref a2]) (bc := bc) (bs := bs) dX5_passOver_86 rfl cl_X5_66 wd_663 (X11_corner_s (Q := fun r z => r = some (.int (X11_corner_V v_1 3 h19)) ∧ z = h19) ⟨rfl, rfl⟩) ?_
  intro r z hrz
  rw [hrz.1, hrz.2]
  show ex_G mX5_passOver (d + 1) 89 [.ref a_0, .int v_1, .int v_2, .int v_3, .int v_4, .int v_5, .ref a2, .int x4, .int x6, .int x8, .int x10, .int x12, .int x14] [.int (X11_corner_V v_1 3 h19), .ref a2] (h19) bc bs Q
  refine ex_iload (q := 91) (x := x6) dX5_passOver_89 rfl ?_
  have s22 := w.1
  replace w := w.2
  refine ex_iast (q := 92) dX5_passOver_91 s22 ?_
  refine ex_nmh (fun h21 eh21 => ?_)
  replace w := w h21 eh21
  refine ex_aload (q := 94) (x := a2) dX5_passOver_92 rfl ?_
  refine ex_iload_n (q := 95) (x := v_2) dX5_passOver_94 rfl ?_
  refine ex_iload (q := 97) (x := x8) dX5_passOver_95 rfl ?_
  have s24 := w.1
  replace w := w.2
  refine ex_iast (q := 98) dX5_passOver_97 s24 ?_
  refine ex_nmh (fun h23 eh23 => ?_)
  replace w := w h23 eh23
  refine ex_aload (q := 100) (x := a2) dX5_passOver_98 rfl ?_
  refine ex_iload_n (q := 101) (x := v_3) dX5_passOver_100 rfl ?_
  refine ex_iload (q := 103) (x := x10) dX5_passOver_101 rfl ?_
  have s26 := w.1
  replace w := w.2
  refine ex_iast (q := 104) dX5_passOver_103 s26 ?_
  refine ex_nmh (fun h25 eh25 => ?_)
  replace w := w h25 eh25
  refine ex_aload (q := 106) (x := a2) dX5_passOver_104 rfl ?_
  refine ex_iload (q := 108) (x := v_5) dX5_passOver_106 rfl ?_
  refine ex_iload (q := 110) (x := x4) dX5_passOver_108 rfl ?_
  have s28 := w.1
  replace w := w.2
  refine ex_iast (q := 111) dX5_passOver_110 s28 ?_
  refine ex_nmh (fun h27 eh27 => ?_)
  replace w := w h27 eh27
  refine ex_aload (q := 113) (x := a2) dX5_passOver_111 rfl ?_
  refine ex_iload (q := 115) (x := v_4) dX5_passOver_113 rfl ?_
  refine ex_iload (q := 117) (x := x6) dX5_passOver_115 rfl ?_
  have s30 := w.1
  replace w := w.2
  refine ex_iast (q := 118) dX5_passOver_117 s30 ?_
  refine ex_nmh (fun h29 eh29 => ?_)
  replace w := w h29 eh29
  exact ex_return dX5_passOver_118 w

theorem X5_passOver_e {d bc bs : Nat} {h : AH} {Q : Option Value → AH → Prop} {a_0 : Nat} {v_1 : Int32} {v_2 : Int32} {v_3 : Int32} {v_4 : Int32} {v_5 : Int32} (w : ex_G mX5_passOver (d + 1) 0 [.ref a_0, .int v_1, .int v_2, .int v_3, .int v_4, .int v_5, .retAddr 0, .retAddr 0, .retAddr 0, .retAddr 0, .retAddr 0, .retAddr 0, .retAddr 0] [] h bc bs Q) : ex_S yX5_passOver mX5_passOver (d + 1) [.ref a_0, .int v_1, .int v_2, .int v_3, .int v_4, .int v_5] h bc bs Q :=
  ex_enter (plainFor_of_name (by decide +kernel)) ⟨rfl, rfl⟩ rfl rfl (Nat.le_of_ble_eq_true rfl) (ex_pad 7 w)

set_option maxRecDepth 100000 in
theorem X5_smooth_0 {d bc bs : Nat} {h : AH} {Q : Option Value → AH → Prop} {a_0 : Nat} {a_1 : Nat} (w : ah_o h a_0 5 ∧ ah_o h a_1 7 ∧ X7_hasCrossing_C a_1 (ah_f h a_0 1) h ∧ (((X7_hasCrossing_V a_1 (ah_f h a_0 1) h) = 0 → Q (some (.int (-15))) h) ∧ (¬ (X7_hasCrossing_V a_1 (ah_f h a_0 1) h) = 0 → (((ah_f h a_0 2) < 0 → Q (some (.int (-15))) h) ∧ (¬ (ah_f h a_0 2) < 0 → (((ah_f h a_0 2) ≤ 1 → ∀ x7, x7 = 4 * (ah_f h a_0 1) → ((¬ (ah_f h a_0 2) = 0 → ∃ a9, ah_r h a_1 1 = some a9 ∧ ld0 h a9 x7 ∧ ld0 h a9 (x7 + 3) ∧ ex_S yX7_fuse mX7_fuse (d + 2) [.ref a_1, .int (ah_i h a9 (Int32.toNatClampNeg x7)), .int (ah_i h a9 (Int32.toNatClampNeg (x7 + 3)))] h 0 0 (fun r h12 => r = none ∧ ah_o h12 a_1 7 ∧ ∃ a14, ah_r h12 a_1 1 = some a14 ∧ ld0 h12 a14 (x7 + 1) ∧ ld0 h12 a14 (x7 + 2) ∧ ex_S yX7_fuse mX7_fuse (d + 2) [.ref a_1, .int (ah_i h12 a14 (Int32.toNatClampNeg (x7 + 1))), .int (ah_i h12 a14 (Int32.toNatClampNeg (x7 + 2)))] h12 0 0 (fun r h17 => r = none ∧ ah_o h17 a_0 5 ∧ ah_o h17 a_1 7 ∧ ex_S yX7_remove mX7_remove (d + 2) [.ref a_1, .int (ah_f h17 a_0 1)] h17 0 0 (fun r h19 => r = none ∧ X5_loopsAnswer_C a_1 h19 ∧ Q (some (.int (X5_loopsAnswer_V a_1 h19))) h19)))) ∧ ((ah_f h a_0 2) = 0 → ∃ a22, ah_r h a_1 1 = some a22 ∧ ld0 h a22 x7 ∧ ld0 h a22 (x7 + 1) ∧ ex_S yX7_fuse mX7_fuse (d + 2) [.ref a_1, .int (ah_i h a22 (Int32.toNatClampNeg x7)), .int (ah_i h a22 (Int32.toNatClampNeg (x7 + 1)))] h 0 0 (fun r h25 => r = none ∧ ah_o h25 a_1 7 ∧ ∃ a27, ah_r h25 a_1 1 = some a27 ∧ ld0 h25 a27 (x7 + 2) ∧ ld0 h25 a27 (x7 + 3) ∧ ex_S yX7_fuse mX7_fuse (d + 2) [.ref a_1, .int (ah_i h25 a27 (Int32.toNatClampNeg (x7 + 2))), .int (ah_i h25 a27 (Int32.toNatClampNeg (x7 + 3)))] h25 0 0 (fun r h30 => r = none ∧ ah_o h30 a_0 5 ∧ ah_o h30 a_1 7 ∧ ex_S yX7_remove mX7_remove (d + 2) [.ref a_1, .int (ah_f h30 a_0 1)] h30 0 0 (fun r h32 => r = none ∧ X5_loopsAnswer_C a_1 h32 ∧ Q (some (.int (X5_loopsAnswer_V a_1 h32))) h32)))))) ∧ (¬ (ah_f h a_0 2) ≤ 1 → Q (some (.int (-15))) h))))))) : ex_G mX5_smooth (d + 3) 0 [.ref a_0, .ref a_1, .retAddr 0] [] h bc bs Q := by
  refine ex_aload_n (q := 1) (x := a_1) dX5_smooth_0 rfl ?_
  refine ex_aload_n (q := 2) (x := a_0) dX5_smooth_1 rfl ?_
  have s1 := w.1
  replace w := w.2
  refine ex_getf (q := 5) dX5_smooth_2 fl_X5_15 s1 ?_
  have s2 := w.1
  replace w := w.2
  have s3 := w.1
  replace w := w.2
  refine ex_callV (q := 8) (M := mX5_smooth) (hdd := Nat.le_refl _) (mc := 0) (ms := 0) (d' := (d + 2)) (c := 7) (st := []) (bc := bc) (bs := bs) dX5_smooth_5 rfl cl_X5_165 wd_602 wd_603 s2 (X7_hasCrossing_s (Q := fun r z => r = some (.int (X7_hasCrossing_V a_1 (ah_f h a_0 1) h)) ∧ z = h) s3 ⟨rfl, rfl⟩) ?_
  intro r z hrz
  rw [hrz.1, hrz.2]
  show ex_G mX5_smooth (d + 3) 8 [.ref a_0, .ref a_1, .retAddr 0] [.int (X7_hasCrossing_V a_1 (ah_f h a_0 1) h)] (h) bc bs Q
  refine ex_if_eq (tgt := 26) (q := 11) dX5_smooth_8 (fun c4 => ?_) (fun c4 => ?_)
  · replace w := w.1 c4
    refine ex_bipush (q := 28) (v := (-15)) dX5_smooth_26 (by decide) ?_
    exact ex_ireturn dX5_smooth_28 rfl (Or.inl rfl) w
  · replace w := w.2 c4
    refine ex_aload_n (q := 12) (x := a_0) dX5_smooth_11 rfl ?_
    refine ex_getf (q := 15) dX5_smooth_12 fl_X5_18 s1 ?_
    refine ex_if_lt (tgt := 26) (q := 18) dX5_smooth_15 (fun c5 => ?_) (fun c5 => ?_)
    · replace w := w.1 c5
      refine ex_bipush (q := 28) (v := (-15)) dX5_smooth_26 (by decide) ?_
      exact ex_ireturn dX5_smooth_28 rfl (Or.inl rfl) w
    · replace w := w.2 c5
      refine ex_aload_n (q := 19) (x := a_0) dX5_smooth_18 rfl ?_
      refine ex_getf (q := 22) dX5_smooth_19 fl_X5_18 s1 ?_
      refine ex_iconst (q := 23) (v := 1) dX5_smooth_22 (by decide) ?_
      refine ex_icmp_le (tgt := 29) (q := 26) dX5_smooth_23 (fun c6 => ?_) (fun c6 => ?_)
      · replace w := w.1 c6
        refine ex_iconst (q := 30) (v := 4) dX5_smooth_29 (by decide) ?_
        refine ex_aload_n (q := 31) (x := a_0) dX5_smooth_30 rfl ?_
        refine ex_getf (q := 34) dX5_smooth_31 fl_X5_15 s1 ?_
        refine ex_imul (q := 35) dX5_smooth_34 ?_
        refine ex_nmi (fun x7 ex7 => ?_)
        replace w := w x7 ex7
        refine ex_istore_n (q := 36) (ls' := [.ref a_0, .ref a_1, .int x7]) dX5_smooth_35 rfl ?_
        refine ex_aload_n (q := 37) (x := a_0) dX5_smooth_36 rfl ?_
        refine ex_getf (q := 40) dX5_smooth_37 fl_X5_18 s1 ?_
        refine ex_if_ne (tgt := 84) (q := 43) dX5_smooth_40 (fun c8 => ?_) (fun c8 => ?_)
        · replace w := w.1 c8
          refine ex_aload_n (q := 85) (x := a_1) dX5_smooth_84 rfl ?_
          refine ex_aload_n (q := 86) (x := a_1) dX5_smooth_85 rfl ?_
          obtain ⟨a9, ea9, w⟩ := w
          refine ex_getr (q := 89) dX5_smooth_86 fl_X5_101 s2 ea9 ?_
          refine ex_iload_n (q := 90) (x := x7) dX5_smooth_89 rfl ?_
          have s10 := w.1
          replace w := w.2
          refine ex_iald (q := 91) dX5_smooth_90 s10 ?_
          refine ex_aload_n (q := 92) (x := a_1) dX5_smooth_91 rfl ?_
          refine ex_getr (q := 95) dX5_smooth_92 fl_X5_101 s2 ea9 ?_
          refine ex_iload_n (q := 96) (x := x7) dX5_smooth_95 rfl ?_
          refine ex_iconst (q := 97) (v := 3) dX5_smooth_96 (by decide) ?_
          refine ex_iadd (q := 98) dX5_smooth_97 ?_
          have s11 := w.1
          replace w := w.2
          refine ex_iald (q := 99) dX5_smooth_98 s11 ?_
          refine ex_callV (q := 102) (M := mX5_smooth) (hdd := Nat.le_refl _) (c := 7) (st := []) (bc := bc) (bs := bs) dX5_smooth_99 rfl cl_X5_113 wd_1115 wd_1116 s2 w ?_
          rintro r h12 ⟨rfl, w⟩
          show ex_G mX5_smooth (d + 3) 102 [.ref a_0, .ref a_1, .int x7] [] h12 bc bs Q
          refine ex_aload_n (q := 103) (x := a_1) dX5_smooth_102 rfl ?_
          refine ex_aload_n (q := 104) (x := a_1) dX5_smooth_103 rfl ?_
          have s13 := w.1
          replace w := w.2
          obtain ⟨a14, ea14, w⟩ := w
          refine ex_getr (q := 107) dX5_smooth_104 fl_X5_101 s13 ea14 ?_
          refine ex_iload_n (q := 108) (x := x7) dX5_smooth_107 rfl ?_
          refine ex_iconst (q := 109) (v := 1) dX5_smooth_108 (by decide) ?_
          refine ex_iadd (q := 110) dX5_smooth_109 ?_
          have s15 := w.1
          replace w := w.2
          refine ex_iald (q := 111) dX5_smooth_110 s15 ?_
          refine ex_aload_n (q := 112) (x := a_1) dX5_smooth_111 rfl ?_
          refine ex_getr (q := 115) dX5_smooth_112 fl_X5_101 s13 ea14 ?_
          refine ex_iload_n (q := 116) (x := x7) dX5_smooth_115 rfl ?_
          refine ex_iconst (q := 117) (v := 2) dX5_smooth_116 (by decide) ?_
          refine ex_iadd (q := 118) dX5_smooth_117 ?_
          have s16 := w.1
          replace w := w.2
          refine ex_iald (q := 119) dX5_smooth_118 s16 ?_
          refine ex_callV (q := 122) (M := mX5_smooth) (hdd := Nat.le_refl _) (c := 7) (st := []) (bc := bc) (bs := bs) dX5_smooth_119 rfl cl_X5_113 wd_1115 wd_1116 s13 w ?_
          rintro r h17 ⟨rfl, w⟩
          show ex_G mX5_smooth (d + 3) 122 [.ref a_0, .ref a_1, .int x7] [] h17 bc bs Q
          refine ex_aload_n (q := 123) (x := a_1) dX5_smooth_122 rfl ?_
          refine ex_aload_n (q := 124) (x := a_0) dX5_smooth_123 rfl ?_
          have s18 := w.1
          replace w := w.2
          refine ex_getf (q := 127) dX5_smooth_124 fl_X5_15 s18 ?_
          have s20 := w.1
          replace w := w.2
          refine ex_callV (q := 130) (M := mX5_smooth) (hdd := Nat.le_refl _) (c := 7) (st := []) (bc := bc) (bs := bs) dX5_smooth_127 rfl cl_X5_117 wd_1119 wd_1120 s20 w ?_
          rintro r h19 ⟨rfl, w⟩
          show ex_G mX5_smooth (d + 3) 130 [.ref a_0, .ref a_1, .int x7] [] h19 bc bs Q
          refine ex_aload_n (q := 131) (x := a_1) dX5_smooth_130 rfl ?_
          have s21 := w.1
          replace w := w.2
          refine ex_callS (q := 134) (M := mX5_smooth) (hdd := Nat.le_refl _) (mc := 0) (ms := 0) (d' := (d + 2)) (st := []) (bc := bc) (bs := bs) dX5_smooth_131 rfl cl_X5_121 wd_1123 (X5_loopsAnswer_s (Q := fun r z => r = some (.int (X5_loopsAnswer_V a_1 h19)) ∧ z = h19) s21 ⟨rfl, rfl⟩) ?_
          intro r z hrz
          rw [hrz.1, hrz.2]
          show ex_G mX5_smooth (d + 3) 134 [.ref a_0, .ref a_1, .int x7] [.int (X5_loopsAnswer_V a_1 h19)] (h19) bc bs Q
          exact ex_ireturn dX5_smooth_134 rfl (Or.inl rfl) w
        · replace w := w.2 c8
          refine ex_aload_n (q := 44) (x := a_1) dX5_smooth_43 rfl ?_
          refine ex_aload_n (q := 45) (x := a_1) dX5_smooth_44 rfl ?_
          obtain ⟨a22, ea22, w⟩ := w
          refine ex_getr (q := 48) dX5_smooth_45 fl_X5_101 s2 ea22 ?_
          refine ex_iload_n (q := 49) (x := x7) dX5_smooth_48 rfl ?_
          have s23 := w.1
          replace w := w.2
          refine ex_iald (q := 50) dX5_smooth_49 s23 ?_
          refine ex_aload_n (q := 51) (x := a_1) dX5_smooth_50 rfl ?_
          refine ex_getr (q := 54) dX5_smooth_51 fl_X5_101 s2 ea22 ?_
          refine ex_iload_n (q := 55) (x := x7) dX5_smooth_54 rfl ?_
          refine ex_iconst (q := 56) (v := 1) dX5_smooth_55 (by decide) ?_
          refine ex_iadd (q := 57) dX5_smooth_56 ?_
          have s24 := w.1
          replace w := w.2
          refine ex_iald (q := 58) dX5_smooth_57 s24 ?_
          refine ex_callV (q := 61) (M := mX5_smooth) (hdd := Nat.le_refl _) (c := 7) (st := []) (bc := bc) (bs := bs) dX5_smooth_58 rfl cl_X5_113 wd_1115 wd_1116 s2 w ?_
          rintro r h25 ⟨rfl, w⟩
          show ex_G mX5_smooth (d + 3) 61 [.ref a_0, .ref a_1, .int x7] [] h25 bc bs Q
          refine ex_aload_n (q := 62) (x := a_1) dX5_smooth_61 rfl ?_
          refine ex_aload_n (q := 63) (x := a_1) dX5_smooth_62 rfl ?_
          have s26 := w.1
          replace w := w.2
          obtain ⟨a27, ea27, w⟩ := w
          refine ex_getr (q := 66) dX5_smooth_63 fl_X5_101 s26 ea27 ?_
          refine ex_iload_n (q := 67) (x := x7) dX5_smooth_66 rfl ?_
          refine ex_iconst (q := 68) (v := 2) dX5_smooth_67 (by decide) ?_
          refine ex_iadd (q := 69) dX5_smooth_68 ?_
          have s28 := w.1
          replace w := w.2
          refine ex_iald (q := 70) dX5_smooth_69 s28 ?_
          refine ex_aload_n (q := 71) (x := a_1) dX5_smooth_70 rfl ?_
          refine ex_getr (q := 74) dX5_smooth_71 fl_X5_101 s26 ea27 ?_
          refine ex_iload_n (q := 75) (x := x7) dX5_smooth_74 rfl ?_
          refine ex_iconst (q := 76) (v := 3) dX5_smooth_75 (by decide) ?_
          refine ex_iadd (q := 77) dX5_smooth_76 ?_
          have s29 := w.1
          replace w := w.2
          refine ex_iald (q := 78) dX5_smooth_77 s29 ?_
          refine ex_callV (q := 81) (M := mX5_smooth) (hdd := Nat.le_refl _) (c := 7) (st := []) (bc := bc) (bs := bs) dX5_smooth_78 rfl cl_X5_113 wd_1115 wd_1116 s26 w ?_
          rintro r h30 ⟨rfl, w⟩
          show ex_G mX5_smooth (d + 3) 81 [.ref a_0, .ref a_1, .int x7] [] h30 bc bs Q
          refine ex_goto (tgt := 122) dX5_smooth_81 ?_
          refine ex_aload_n (q := 123) (x := a_1) dX5_smooth_122 rfl ?_
          refine ex_aload_n (q := 124) (x := a_0) dX5_smooth_123 rfl ?_
          have s31 := w.1
          replace w := w.2
          refine ex_getf (q := 127) dX5_smooth_124 fl_X5_15 s31 ?_
          have s33 := w.1
          replace w := w.2
          refine ex_callV (q := 130) (M := mX5_smooth) (hdd := Nat.le_refl _) (c := 7) (st := []) (bc := bc) (bs := bs) dX5_smooth_127 rfl cl_X5_117 wd_1119 wd_1120 s33 w ?_
          rintro r h32 ⟨rfl, w⟩
          show ex_G mX5_smooth (d + 3) 130 [.ref a_0, .ref a_1, .int x7] [] h32 bc bs Q
          refine ex_aload_n (q := 131) (x := a_1) dX5_smooth_130 rfl ?_
          have s34 := w.1
          replace w := w.2
          refine ex_callS (q := 134) (M := mX5_smooth) (hdd := Nat.le_refl _) (mc := 0) (ms := 0) (d' := (d + 2)) (st := []) (bc := bc) (bs := bs) dX5_smooth_131 rfl cl_X5_121 wd_1123 (X5_loopsAnswer_s (Q := fun r z => r = some (.int (X5_loopsAnswer_V a_1 h32)) ∧ z = h32) s34 ⟨rfl, rfl⟩) ?_
          intro r z hrz
          rw [hrz.1, hrz.2]
          show ex_G mX5_smooth (d + 3) 134 [.ref a_0, .ref a_1, .int x7] [.int (X5_loopsAnswer_V a_1 h32)] (h32) bc bs Q
          exact ex_ireturn dX5_smooth_134 rfl (Or.inl rfl) w
      · replace w := w.2 c6
        refine ex_bipush (q := 28) (v := (-15)) dX5_smooth_26 (by decide) ?_
        exact ex_ireturn dX5_smooth_28 rfl (Or.inl rfl) w

theorem X5_smooth_e {d bc bs : Nat} {h : AH} {Q : Option Value → AH → Prop} {a_0 : Nat} {a_1 : Nat} (w : ex_G mX5_smooth (d + 3) 0 [.ref a_0, .ref a_1, .retAddr 0] [] h bc bs Q) : ex_S yX5_smooth mX5_smooth (d + 3) [.ref a_0, .ref a_1] h bc bs Q :=
  ex_enter (plainFor_of_name (by decide +kernel)) ⟨rfl, rfl⟩ rfl rfl (Nat.le_of_ble_eq_true rfl) (ex_pad 1 w)

set_option maxRecDepth 100000 in
theorem X5_change_0 {d bc bs : Nat} {h : AH} {Q : Option Value → AH → Prop} {a_0 : Nat} {a_1 : Nat} {v_2 : Int32} (w : ah_o h a_0 5 ∧ ah_o h a_1 7 ∧ X7_hasCrossing_C a_1 (ah_f h a_0 1) h ∧ ((¬ (X7_hasCrossing_V a_1 (ah_f h a_0 1) h) = 0 → X7_rotate_C a_1 (ah_f h a_0 1) v_2 h ∧ ∀ h6, h6 = X7_rotate_H a_1 (ah_f h a_0 1) v_2 h → Q (some (.int 1)) h6) ∧ ((X7_hasCrossing_V a_1 (ah_f h a_0 1) h) = 0 → Q (some (.int (-15))) h))) : ex_G mX5_change (d + 2) 0 [.ref a_0, .ref a_1, .int v_2] [] h bc bs Q := by
  refine ex_aload_n (q := 1) (x := a_1) dX5_change_0 rfl ?_
  refine ex_aload_n (q := 2) (x := a_0) dX5_change_1 rfl ?_
  have s1 := w.1
  replace w := w.2
  refine ex_getf (q := 5) dX5_change_2 fl_X5_15 s1 ?_
  have s2 := w.1
  replace w := w.2
  have s3 := w.1
  replace w := w.2
  refine ex_callV (q := 8) (M := mX5_change) (hdd := Nat.le_refl _) (mc := 0) (ms := 0) (d' := (d + 1)) (c := 7) (st := []) (bc := bc) (bs := bs) dX5_change_5 rfl cl_X5_165 wd_602 wd_603 s2 (X7_hasCrossing_s (Q := fun r z => r = some (.int (X7_hasCrossing_V a_1 (ah_f h a_0 1) h)) ∧ z = h) s3 ⟨rfl, rfl⟩) ?_
  intro r z hrz
  rw [hrz.1, hrz.2]
  show ex_G mX5_change (d + 2) 8 [.ref a_0, .ref a_1, .int v_2] [.int (X7_hasCrossing_V a_1 (ah_f h a_0 1) h)] (h) bc bs Q
  refine ex_if_ne (tgt := 14) (q := 11) dX5_change_8 (fun c4 => ?_) (fun c4 => ?_)
  · replace w := w.1 c4
    refine ex_aload_n (q := 15) (x := a_1) dX5_change_14 rfl ?_
    refine ex_aload_n (q := 16) (x := a_0) dX5_change_15 rfl ?_
    refine ex_getf (q := 19) dX5_change_16 fl_X5_15 s1 ?_
    refine ex_iload_n (q := 20) (x := v_2) dX5_change_19 rfl ?_
    have s5 := w.1
    replace w := w.2
    refine ex_callV (q := 23) (M := mX5_change) (hdd := Nat.le_refl _) (mc := 0) (ms := 0) (d' := (d + 1)) (c := 7) (st := []) (bc := bc) (bs := bs) dX5_change_20 rfl cl_X5_168 wd_713 wd_714 s2 (X7_rotate_s (Q := fun r z => r = none ∧ z = X7_rotate_H a_1 (ah_f h a_0 1) v_2 h) s5 ⟨rfl, rfl⟩) ?_
    intro r z hrz
    rw [hrz.1, hrz.2]
    show ex_G mX5_change (d + 2) 23 [.ref a_0, .ref a_1, .int v_2] [] (X7_rotate_H a_1 (ah_f h a_0 1) v_2 h) bc bs Q
    refine ex_nmh (fun h6 eh6 => ?_)
    replace w := w h6 eh6
    refine ex_iconst (q := 24) (v := 1) dX5_change_23 (by decide) ?_
    exact ex_ireturn dX5_change_24 rfl (Or.inl rfl) w
  · replace w := w.2 c4
    refine ex_bipush (q := 13) (v := (-15)) dX5_change_11 (by decide) ?_
    exact ex_ireturn dX5_change_13 rfl (Or.inl rfl) w

theorem X5_change_e {d bc bs : Nat} {h : AH} {Q : Option Value → AH → Prop} {a_0 : Nat} {a_1 : Nat} {v_2 : Int32} (w : ex_G mX5_change (d + 2) 0 [.ref a_0, .ref a_1, .int v_2] [] h bc bs Q) : ex_S yX5_change mX5_change (d + 2) [.ref a_0, .ref a_1, .int v_2] h bc bs Q :=
  ex_enter (plainFor_of_name (by decide +kernel)) ⟨rfl, rfl⟩ rfl rfl (Nat.le_of_ble_eq_true rfl) (ex_pad 0 w)
