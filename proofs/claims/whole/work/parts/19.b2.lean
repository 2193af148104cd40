set_option maxRecDepth 100000 in
theorem X10_init_0 {d bc bs : Nat} {h : AH} {Q : Option Value → AH → Prop} {a_0 : Nat} (w : ah_n h < 10000000 ∧ ∀ h2, h2 = ah_na h 0 48 → ah_o h2 a_0 10 ∧ ∀ h4, h4 = ah_sr h2 a_0 0 (some (ah_n h)) → ah_n h4 < 10000000 ∧ ∀ h6, h6 = ah_na h4 0 48 → ah_o h6 a_0 10 ∧ ∀ h8, h8 = ah_sr h6 a_0 1 (some (ah_n h4)) → Q none h8) : ex_G mX10_init (d + 1) 0 [.ref a_0] [] h (bc + 2) (bs + 96) Q := by
  refine ex_aload_n (q := 1) (x := a_0) dX10_init_0 rfl ?_
  refine ex_objInit (q := 4) (hd1 := Nat.succ_le_succ (Nat.zero_le _)) (h1 := wd_135) (h2 := wd_136) (st := []) dX10_init_1 wd_360 ?_
  refine ex_aload_n (q := 5) (x := a_0) dX10_init_4 rfl ?_
  refine ex_bipush (q := 7) (v := 48) dX10_init_5 (by decide) ?_
  have s1 := w.1
  replace w := w.2
  refine ex_G.room (bc' := (bc + 1) + 1) (bs' := (bs + 48) + 48) (Nat.le_refl _) (rm_le rfl) (rm_le rfl) ?_
  refine ex_newarray (q := 9) (t := 0) (N := 48) (M := mX10_init) dX10_init_7 rfl (by decide) wd_161 rfl (by decide) s1 ?_
  refine ex_nmh (fun h2 eh2 => ?_)
  replace w := w h2 eh2
  have s3 := w.1
  replace w := w.2
  refine ex_putr (q := 12) dX10_init_9 fl_X10_11 (Or.inr ⟨rfl, rfl, wd_361, rfl⟩) s3 ?_
  refine ex_nmh (fun h4 eh4 => ?_)
  replace w := w h4 eh4
  refine ex_aload_n (q := 13) (x := a_0) dX10_init_12 rfl ?_
  refine ex_bipush (q := 15) (v := 48) dX10_init_13 (by decide) ?_
  have s5 := w.1
  replace w := w.2
  refine ex_G.room (bc' := bc + 1) (bs' := bs + 48) (Nat.le_refl _) (Nat.le_refl _) (Nat.le_refl _) ?_
  refine ex_newarray (q := 17) (t := 0) (N := 48) (M := mX10_init) dX10_init_15 rfl (by decide) wd_161 rfl (by decide) s5 ?_
  refine ex_nmh (fun h6 eh6 => ?_)
  replace w := w h6 eh6
  have s7 := w.1
  replace w := w.2
  refine ex_putr (q := 20) dX10_init_17 fl_X10_15 (Or.inr ⟨rfl, rfl, wd_362, rfl⟩) s7 ?_
  refine ex_nmh (fun h8 eh8 => ?_)
  replace w := w h8 eh8
  exact ex_return dX10_init_20 w

theorem X10_init_e {d bc bs : Nat} {h : AH} {Q : Option Value → AH → Prop} {a_0 : Nat} (w : ex_G mX10_init (d + 1) 0 [.ref a_0] [] h bc bs Q) : ex_S yX10_init mX10_init (d + 1) [.ref a_0] h bc bs Q :=
  ex_enter (plainFor_of_name (by decide +kernel)) ⟨rfl, rfl⟩ rfl rfl (Nat.le_of_ble_eq_true rfl) (ex_pad 0 w)

set_option maxRecDepth 100000 in
theorem X10_hold_0 {d bc bs : Nat} {h : AH} {Q : Option Value → AH → Prop} {a_0 : Nat} {a_1 : Nat} {a_2 : Nat} (w : ah_o h a_1 7 ∧ ah_o h a_0 10 ∧ ∀ h3, h3 = ah_sf h a_0 2 (J9_min_7cf53_V (ah_f h a_1 2) 12 h) → ∀ h4, h4 = ah_sf h3 a_0 3 (ah_f h3 a_1 3) → ah_o h4 a_2 4 ∧ ex_S yX4_likenessMark mX4_likenessMark d [.ref a_2] h4 0 0 (fun r h5 => ∃ x7, r = some (.int x7) ∧ ah_o h5 a_0 10 ∧ ∀ h9, h9 = ah_sf h5 a_0 4 x7 → ah_o h9 a_1 7 ∧ ∃ a11, ah_r h9 a_1 1 = some a11 ∧ ∃ a12, ah_r h9 a_0 0 = some a12 ∧ cp_ h9 0 a11 a12 0 0 (4 * (ah_f h9 a_0 2)) ∧ ∀ h14, h14 = ah_wi h9 a12 (va_cpy (ah_i h9 a11) (ah_i h9 a12) (Int32.toNatClampNeg 0) (Int32.toNatClampNeg 0) (Int32.toNatClampNeg (4 * (ah_f h9 a_0 2)))) → ah_o h14 a_2 4 ∧ ∃ a16, ah_r h14 a_2 0 = some a16 ∧ ∃ a17, ah_r h14 a_0 1 = some a17 ∧ cp_ h14 0 a16 a17 0 0 (4 * (ah_f h14 a_0 2)) ∧ ∀ h19, h19 = ah_wi h14 a17 (va_cpy (ah_i h14 a16) (ah_i h14 a17) (Int32.toNatClampNeg 0) (Int32.toNatClampNeg 0) (Int32.toNatClampNeg (4 * (ah_f h14 a_0 2)))) → Q none h19)) : ex_G mX10_hold (d + 1) 0 [.ref a_0, .ref a_1, .ref a_2] [] h bc bs Q := by
  refine ex_aload_n (q := 1) (x := a_0) dX10_hold_0 rfl ?_
  refine ex_aload_n (q := 2) (x := a_1) dX10_hold_1 rfl ?_
  have s1 := w.1
  replace w := w.2
  refine ex_getf (q := 5) dX10_hold_2 fl_X10_18 s1 ?_
  refine ex_bipush (q := 7) (v := 12) dX10_hold_5 (by decide) ?_
  refine ex_callS (q := 10) (M := mX10_hold) (hdd := Nat.le_refl _) (mc := 0) (ms := 0) (d' := d) (st := [.ref a_0]) (bc := bc) (bs := bs) dX10_hold_7 rfl cl_X10_24 wd_710 (J9_min_7cf53_s (Q := fun r z => r = some (.int (J9_min_7cf53_V (ah_f h a_1 2) 12 h)) ∧ z = h) ⟨rfl, rfl⟩) ?_
  intro r z hrz
  rw [hrz.1, hrz.2]
  show ex_G mX10_hold (d + 1) 10 [.ref a_0, .ref a_1, .ref a_2] [.int (J9_min_7cf53_V (ah_f h a_1 2) 12 h), .ref a_0] (h) bc bs Q
  have s2 := w.1
  replace w := w.2
  refine ex_putf (q := 13) dX10_hold_10 fl_X10_30 (Or.inl rfl) s2 (Or.inl rfl) ?_
  refine ex_nmh (fun h3 eh3 => ?_)
  replace w := w h3 eh3
  refine ex_aload_n (q := 14) (x := a_0) dX10_hold_13 rfl ?_
  refine ex_aload_n (q := 15) (x := a_1) dX10_hold_14 rfl ?_
  refine ex_getf (q := 18) dX10_hold_15 fl_X10_31 (by rw [eh3]; exact s1) ?_
  refine ex_putf (q := 21) dX10_hold_18 fl_X10_34 (Or.inl rfl) (by rw [eh3]; exact s2) (Or.inl rfl) ?_
  refine ex_nmh (fun h4 eh4 => ?_)
  replace w := w h4 eh4
  refine ex_aload_n (q := 22) (x := a_0) dX10_hold_21 rfl ?_
  refine ex_aload_n (q := 23) (x := a_2) dX10_hold_22 rfl ?_
  have s6 := w.1
  replace w := w.2
  refine ex_callV (q := 26) (M := mX10_hold) (hdd := Nat.le_refl _) (c := 4) (st := [.ref a_0]) (bc := bc) (bs := bs) dX10_hold_23 rfl cl_X10_35 wd_1222 wd_1223 s6 w ?_
  rintro r h5 ⟨x7, rfl, w⟩
  show ex_G mX10_hold (d + 1) 26 [.ref a_0, .ref a_1, .ref a_2] [.int x7, .ref a_0] h5 bc bs Q
  have s8 := w.1
  replace w := w.2
  refine ex_putf (q := 29) dX10_hold_26 fl_X10_41 (Or.inl rfl) s8 (Or.inl rfl) ?_
  refine ex_nmh (fun h9 eh9 => ?_)
  replace w := w h9 eh9
  refine ex_aload_n (q := 30) (x := a_1) dX10_hold_29 rfl ?_
  have s10 := w.1
  replace w := w.2
  obtain ⟨a11, ea11, w⟩ := w
  refine ex_getr (q := 33) dX10_hold_30 fl_X10_44 s10 ea11 ?_
  refine ex_iconst (q := 34) (v := 0) dX10_hold_33 (by decide) ?_
  refine ex_aload_n (q := 35) (x := a_0) dX10_hold_34 rfl ?_
  obtain ⟨a12, ea12, w⟩ := w
  refine ex_getr (q := 38) dX10_hold_35 fl_X10_11 (by rw [eh9]; exact s8) ea12 ?_
  refine ex_iconst (q := 39) (v := 0) dX10_hold_38 (by decide) ?_
  refine ex_iconst (q := 40) (v := 4) dX10_hold_39 (by decide) ?_
  refine ex_aload_n (q := 41) (x := a_0) dX10_hold_40 rfl ?_
  refine ex_getf (q := 44) dX10_hold_41 fl_X10_30 (by rw [eh9]; exact s8) ?_
  refine ex_imul (q := 45) dX10_hold_44 ?_
  have s13 := w.1
  replace w := w.2
  refine ex_copyip (q := 48) (hd1 := Nat.succ_le_succ (Nat.zero_le _)) dX10_hold_45 wd_1225 s13 ?_
  refine ex_nmh (fun h14 eh14 => ?_)
  replace w := w h14 eh14
  refine ex_aload_n (q := 49) (x := a_2) dX10_hold_48 rfl ?_
  have s15 := w.1
  replace w := w.2
  obtain ⟨a16, ea16, w⟩ := w
  refine ex_getr (q := 52) dX10_hold_49 fl_X10_51 s15 ea16 ?_
  refine ex_iconst (q := 53) (v := 0) dX10_hold_52 (by decide) ?_
  refine ex_aload_n (q := 54) (x := a_0) dX10_hold_53 rfl ?_
  obtain ⟨a17, ea17, w⟩ := w
  refine ex_getr (q := 57) dX10_hold_54 fl_X10_15 (by rw [eh14]; exact (by rw [eh9]; exact s8)) ea17 ?_
  refine ex_iconst (q := 58) (v := 0) dX10_hold_57 (by decide) ?_
  refine ex_iconst (q := 59) (v := 4) dX10_hold_58 (by decide) ?_
  refine ex_aload_n (q := 60) (x := a_0) dX10_hold_59 rfl ?_
  refine ex_getf (q := 63) dX10_hold_60 fl_X10_30 (by rw [eh14]; exact (by rw [eh9]; exact s8)) ?_
  refine ex_imul (q := 64) dX10_hold_63 ?_
  have s18 := w.1
  replace w := w.2
  refine ex_copyip (q := 67) (hd1 := Nat.succ_le_succ (Nat.zero_le _)) dX10_hold_64 wd_1225 s18 ?_
  refine ex_nmh (fun h19 eh19 => ?_)
  replace w := w h19 eh19
  exact ex_return dX10_hold_67 w

theorem X10_hold_e {d bc bs : Nat} {h : AH} {Q : Option Value → AH → Prop} {a_0 : Nat} {a_1 : Nat} {a_2 : Nat} (w : ex_G mX10_hold (d + 1) 0 [.ref a_0, .ref a_1, .ref a_2] [] h bc bs Q) : ex_S yX10_hold mX10_hold (d + 1) [.ref a_0, .ref a_1, .ref a_2] h bc bs Q :=
  ex_enter (plainFor_of_name (by decide +kernel)) ⟨rfl, rfl⟩ rfl rfl (Nat.le_of_ble_eq_true rfl) (ex_pad 0 w)

set_option maxRecDepth 100000 in
theorem X10_pourInto_0 {d bc bs : Nat} {h : AH} {Q : Option Value → AH → Prop} {a_0 : Nat} {a_1 : Nat} (w : ah_o h a_1 7 ∧ ex_S yX7_empty mX7_empty (d + 1) [.ref a_1] h 0 0 (fun r h1 => r = none ∧ ah_o h1 a_0 10 ∧ ah_o h1 a_1 7 ∧ ∀ h5, h5 = ah_sf h1 a_1 3 (ah_f h1 a_0 3) → ex_G mX10_pourInto (d + 2) 14 [.ref a_0, .ref a_1, .int 0] [] h5 bc bs Q)) : ex_G mX10_pourInto (d + 2) 0 [.ref a_0, .ref a_1, .retAddr 0] [] h bc bs Q := by
  refine ex_aload_n (q := 1) (x := a_1) dX10_pourInto_0 rfl ?_
  have s2 := w.1
  replace w := w.2
  refine ex_callV (q := 4) (M := mX10_pourInto) (hdd := Nat.le_refl _) (c := 7) (st := []) (bc := bc) (bs := bs) dX10_pourInto_1 rfl cl_X10_54 wd_560 wd_561 s2 w ?_
  rintro r h1 ⟨rfl, w⟩
  show ex_G mX10_pourInto (d + 2) 4 [.ref a_0, .ref a_1, .retAddr 0] [] h1 bc bs Q
  refine ex_aload_n (q := 5) (x := a_1) dX10_pourInto_4 rfl ?_
  refine ex_aload_n (q := 6) (x := a_0) dX10_pourInto_5 rfl ?_
  have s3 := w.1
  replace w := w.2
  refine ex_getf (q := 9) dX10_pourInto_6 fl_X10_34 s3 ?_
  have s4 := w.1
  replace w := w.2
  refine ex_putf (q := 12) dX10_pourInto_9 fl_X10_31 (Or.inl rfl) s4 (Or.inl rfl) ?_
  refine ex_nmh (fun h5 eh5 => ?_)
  replace w := w h5 eh5
  refine ex_iconst (q := 13) (v := 0) dX10_pourInto_12 (by decide) ?_
  refine ex_istore_n (q := 14) (ls' := [.ref a_0, .ref a_1, .int 0]) dX10_pourInto_13 rfl ?_
  exact w

set_option maxRecDepth 100000 in
theorem X10_pourInto_14 {d bc bs : Nat} {h : AH} {Q : Option Value → AH → Prop} {a_0 : Nat} {a_1 : Nat} {v_2 : Int32} (w : ah_o h a_0 10 ∧ (((ah_f h a_0 2) ≤ v_2 → Q none h) ∧ (¬ (ah_f h a_0 2) ≤ v_2 → ∃ a3, ah_r h a_0 0 = some a3 ∧ ld0 h a3 (4 * v_2) ∧ ld0 h a3 ((4 * v_2) + 1) ∧ ld0 h a3 ((4 * v_2) + 2) ∧ ld0 h a3 ((4 * v_2) + 3) ∧ ah_o h a_1 7 ∧ ex_S yX7_add mX7_add (d + 1) [.ref a_1, .int (ah_i h a3 (Int32.toNatClampNeg (4 * v_2))), .int (ah_i h a3 (Int32.toNatClampNeg ((4 * v_2) + 1))), .int (ah_i h a3 (Int32.toNatClampNeg ((4 * v_2) + 2))), .int (ah_i h a3 (Int32.toNatClampNeg ((4 * v_2) + 3)))] h 0 0 (fun r h8 => r = none ∧ ∀ x10, x10 = v_2 + 1 → ex_G mX10_pourInto (d + 2) 14 [.ref a_0, .ref a_1, .int x10] [] h8 bc bs Q)))) : ex_G mX10_pourInto (d + 2) 14 [.ref a_0, .ref a_1, .int v_2] [] h bc bs Q := by
  refine ex_iload_n (q := 15) (x := v_2) dX10_pourInto_14 rfl ?_
  refine ex_aload_n (q := 16) (x := a_0) dX10_pourInto_15 rfl ?_
  have s1 := w.1
  replace w := w.2
  refine ex_getf (q := 19) dX10_pourInto_16 fl_X10_30 s1 ?_
  refine ex_icmp_ge (tgt := 70) (q := 22) dX10_pourInto_19 (fun c2 => ?_) (fun c2 => ?_)
  · replace w := w.1 c2
    exact ex_return dX10_pourInto_70 w
  · replace w := w.2 c2
    refine ex_aload_n (q := 23) (x := a_1) dX10_pourInto_22 rfl ?_
    refine ex_aload_n (q := 24) (x := a_0) dX10_pourInto_23 rfl ?_
    obtain ⟨a3, ea3, w⟩ := w
    refine ex_getr (q := 27) dX10_pourInto_24 fl_X10_11 s1 ea3 ?_
    refine ex_iconst (q := 28) (v := 4) dX10_pourInto_27 (by decide) ?_
    refine ex_iload_n (q := 29) (x := v_2) dX10_pourInto_28 rfl ?_
    refine ex_imul (q := 30) dX10_pourInto_29 ?_
    have s4 := w.1
    replace w := w.2
    refine ex_iald (q := 31) dX10_pourInto_30 s4 ?_
    refine ex_aload_n (q := 32) (x := a_0) dX10_pourInto_31 rfl ?_
    refine ex_getr (q := 35) dX10_pourInto_32 fl_X10_11 s1 ea3 ?_
    refine ex_iconst (q := 36) (v := 4) dX10_pourInto_35 (by decide) ?_
    refine ex_iload_n (q := 37) (x := v_2) dX10_pourInto_36 rfl ?_
    refine ex_imul (q := 38) dX10_pourInto_37 ?_
    refine ex_iconst (q := 39) (v := 1) dX10_pourInto_38 (by decide) ?_
    refine ex_iadd (q := 40) dX10_pourInto_39 ?_
    have s5 := w.1
    replace w := w.2
    refine ex_iald (q := 41) dX10_pourInto_40 s5 ?_
    refine ex_aload_n (q := 42) (x := a_0) dX10_pourInto_41 rfl ?_
    refine ex_getr (q := 45) dX10_pourInto_42 fl_X10_11 s1 ea3 ?_
    refine ex_iconst (q := 46) (v := 4) dX10_pourInto_45 (by decide) ?_
    refine ex_iload_n (q := 47) (x := v_2) dX10_pourInto_46 rfl ?_
    refine ex_imul (q := 48) dX10_pourInto_47 ?_
    refine ex_iconst (q := 49) (v := 2) dX10_pourInto_48 (by decide) ?_
    refine ex_iadd (q := 50) dX10_pourInto_49 ?_
    have s6 := w.1
    replace w := w.2
    refine ex_iald (q := 51) dX10_pourInto_50 s6 ?_
    refine ex_aload_n (q := 52) (x := a_0) dX10_pourInto_51 rfl ?_
    refine ex_getr (q := 55) dX10_pourInto_52 fl_X10_11 s1 ea3 ?_
    refine ex_iconst (q := 56) (v := 4) dX10_pourInto_55 (by decide) ?_
    refine ex_iload_n (q := 57) (x := v_2) dX10_pourInto_56 rfl ?_
    refine ex_imul (q := 58) dX10_pourInto_57 ?_
    refine ex_iconst (q := 59) (v := 3) dX10_pourInto_58 (by decide) ?_
    refine ex_iadd (q := 60) dX10_pourInto_59 ?_
    have s7 := w.1
    replace w := w.2
    refine ex_iald (q := 61) dX10_pourInto_60 s7 ?_
    have s9 := w.1
    replace w := w.2
    refine ex_callV (q := 64) (M := mX10_pourInto) (hdd := Nat.le_refl _) (c := 7) (st := []) (bc := bc) (bs := bs) dX10_pourInto_61 rfl cl_X10_57 wd_594 wd_595 s9 w ?_
    rintro r h8 ⟨rfl, w⟩
    show ex_G mX10_pourInto (d + 2) 64 [.ref a_0, .ref a_1, .int v_2] [] h8 bc bs Q
    obtain ⟨x10, ex10⟩ : ∃ y : Int32, y = v_2 + 1 := ⟨_, rfl⟩
    replace w := w x10 ex10
    refine ex_iinc (q := 67) (x := v_2) (v := x10) (ls' := [.ref a_0, .ref a_1, .int x10]) dX10_pourInto_64 rfl (by rw [ex10]; rfl) rfl ?_
    refine ex_goto (tgt := 14) dX10_pourInto_67 ?_
    exact w

theorem X10_pourInto_e {d bc bs : Nat} {h : AH} {Q : Option Value → AH → Prop} {a_0 : Nat} {a_1 : Nat} (w : ex_G mX10_pourInto (d + 2) 0 [.ref a_0, .ref a_1, .retAddr 0] [] h bc bs Q) : ex_S yX10_pourInto mX10_pourInto (d + 2) [.ref a_0, .ref a_1] h bc bs Q :=
  ex_enter (plainFor_of_name (by decide +kernel)) ⟨rfl, rfl⟩ rfl rfl (Nat.le_of_ble_eq_true rfl) (ex_pad 1 w)

set_option maxRecDepth 100000 in
theorem X7_init_0 {d bc bs : Nat} {h : AH} {Q : Option Value → AH → Prop} {a_0 : Nat} (w : ah_n h < 10000000 ∧ ∀ h2, h2 = ah_na h 0 40 → ah_o h2 a_0 7 ∧ ∀ h4, h4 = ah_sr h2 a_0 0 (some (ah_n h)) → ah_n h4 < 10000000 ∧ ∀ h6, h6 = ah_na h4 0 160 → ah_o h6 a_0 7 ∧ ∀ h8, h8 = ah_sr h6 a_0 1 (some (ah_n h4)) → ∃ a9, ah_r h8 a_0 1 = some a9 ∧ ex_S yJ7_fill_53178 mJ7_fill_53178 d [.ref a9, .int (-1)] h8 0 0 (fun r h10 => r = none ∧ Q none h10)) : ex_G mX7_init (d + 1) 0 [.ref a_0] [] h (bc + 2) (bs + 200) Q := by
  refine ex_aload_n (q := 1) (x := a_0) dX7_init_0 rfl ?_
  refine ex_objInit (q := 4) (hd1 := Nat.succ_le_succ (Nat.zero_le _)) (h1 := wd_135) (h2 := wd_136) (st := []) dX7_init_1 wd_249 ?_
  refine ex_aload_n (q := 5) (x := a_0) dX7_init_4 rfl ?_
  refine ex_bipush (q := 7) (v := 40) dX7_init_5 (by decide) ?_
  have s1 := w.1
  replace w := w.2
  refine ex_G.room (bc' := (bc + 1) + 1) (bs' := (bs + 160) + 40) (Nat.le_refl _) (rm_le rfl) (rm_le rfl) ?_
  refine ex_newarray (q := 9) (t := 0) (N := 40) (M := mX7_init) dX7_init_7 rfl (by decide) wd_161 rfl (by decide) s1 ?_
  refine ex_nmh (fun h2 eh2 => ?_)
  replace w := w h2 eh2
  have s3 := w.1
  replace w := w.2
  refine ex_putr (q := 12) dX7_init_9 fl_X7_9 (Or.inr ⟨rfl, rfl, wd_253, rfl⟩) s3 ?_
  refine ex_nmh (fun h4 eh4 => ?_)
  replace w := w h4 eh4
  refine ex_aload_n (q := 13) (x := a_0) dX7_init_12 rfl ?_
  refine ex_sipush (q := 16) (v := 160) dX7_init_13 (by decide) ?_
  have s5 := w.1
  replace w := w.2
  refine ex_G.room (bc' := bc + 1) (bs' := bs + 160) (Nat.le_refl _) (Nat.le_refl _) (Nat.le_refl _) ?_
  refine ex_newarray (q := 18) (t := 0) (N := 160) (M := mX7_init) dX7_init_16 rfl (by decide) wd_161 rfl (by decide) s5 ?_
  refine ex_nmh (fun h6 eh6 => ?_)
  replace w := w h6 eh6
  have s7 := w.1
  replace w := w.2
  refine ex_putr (q := 21) dX7_init_18 fl_X7_15 (Or.inr ⟨rfl, rfl, wd_256, rfl⟩) s7 ?_
  refine ex_nmh (fun h8 eh8 => ?_)
  replace w := w h8 eh8
  refine ex_aload_n (q := 22) (x := a_0) dX7_init_21 rfl ?_
  obtain ⟨a9, ea9, w⟩ := w
  refine ex_getr (q := 25) dX7_init_22 fl_X7_15 (by rw [eh8]; exact s7) ea9 ?_
  refine ex_iconst (q := 26) (v := (-1)) dX7_init_25 (by decide) ?_
  refine ex_callS (q := 29) (M := mX7_init) (hdd := Nat.le_refl _) (st := []) (bc := bc) (bs := bs) dX7_init_26 rfl cl_X7_18 wd_251 w ?_
  rintro r h10 ⟨rfl, w⟩
  show ex_G mX7_init (d + 1) 29 [.ref a_0] [] h10 bc bs Q
  exact ex_return dX7_init_29 w

theorem X7_init_e {d bc bs : Nat} {h : AH} {Q : Option Value → AH → Prop} {a_0 : Nat} (w : ex_G mX7_init (d + 1) 0 [.ref a_0] [] h bc bs Q) : ex_S yX7_init mX7_init (d + 1) [.ref a_0] h bc bs Q :=
  ex_enter (plainFor_of_name (by decide +kernel)) ⟨rfl, rfl⟩ rfl rfl (Nat.le_of_ble_eq_true rfl) (ex_pad 0 w)

set_option maxRecDepth 100000 in
theorem X7_empty_0 {d bc bs : Nat} {h : AH} {Q : Option Value → AH → Prop} {a_0 : Nat} (w : ah_o h a_0 7 ∧ ∃ a2, ah_r h a_0 1 = some a2 ∧ ex_S yJ7_fill_53178 mJ7_fill_53178 d [.ref a2, .int (-1)] h 0 0 (fun r h3 => r = none ∧ ah_o h3 a_0 7 ∧ ∀ h5, h5 = ah_sf h3 a_0 2 0 → ∀ h6, h6 = ah_sf h5 a_0 3 0 → Q none h6)) : ex_G mX7_empty (d + 1) 0 [.ref a_0] [] h bc bs Q := by
  refine ex_aload_n (q := 1) (x := a_0) dX7_empty_0 rfl ?_
  have s1 := w.1
  replace w := w.2
  obtain ⟨a2, ea2, w⟩ := w
  refine ex_getr (q := 4) dX7_empty_1 fl_X7_15 s1 ea2 ?_
  refine ex_iconst (q := 5) (v := (-1)) dX7_empty_4 (by decide) ?_
  refine ex_callS (q := 8) (M := mX7_empty) (hdd := Nat.le_refl _) (st := []) (bc := bc) (bs := bs) dX7_empty_5 rfl cl_X7_18 wd_251 w ?_
  rintro r h3 ⟨rfl, w⟩
  show ex_G mX7_empty (d + 1) 8 [.ref a_0] [] h3 bc bs Q
  refine ex_aload_n (q := 9) (x := a_0) dX7_empty_8 rfl ?_
  refine ex_iconst (q := 10) (v := 0) dX7_empty_9 (by decide) ?_
  have s4 := w.1
  replace w := w.2
  refine ex_putf (q := 13) dX7_empty_10 fl_X7_24 (Or.inl rfl) s4 (Or.inl rfl) ?_
  refine ex_nmh (fun h5 eh5 => ?_)
  replace w := w h5 eh5
  refine ex_aload_n (q := 14) (x := a_0) dX7_empty_13 rfl ?_
  refine ex_iconst (q := 15) (v := 0) dX7_empty_14 (by decide) ?_
  refine ex_putf (q := 18) dX7_empty_15 fl_X7_28 (Or.inl rfl) (by rw [eh5]; exact s4) (Or.inl rfl) ?_
  refine ex_nmh (fun h6 eh6 => ?_)
  replace w := w h6 eh6
  exact ex_return dX7_empty_18 w

theorem X7_empty_e {d bc bs : Nat} {h : AH} {Q : Option Value → AH → Prop} {a_0 : Nat} (w : ex_G mX7_empty (d + 1) 0 [.ref a_0] [] h bc bs Q) : ex_S yX7_empty mX7_empty (d + 1) [.ref a_0] h bc bs Q :=
  ex_enter (plainFor_of_name (by decide +kernel)) ⟨rfl, rfl⟩ rfl rfl (Nat.le_of_ble_eq_true rfl) (ex_pad 0 w)

set_option maxRecDepth 100000 in
theorem X7_take_0 {d bc bs : Nat} {h : AH} {Q : Option Value → AH → Prop} {a_0 : Nat} {a_1 : Nat} (w : ah_o h a_1 7 ∧ ∃ a2, ah_r h a_1 0 = some a2 ∧ ah_o h a_0 7 ∧ ∃ a4, ah_r h a_0 0 = some a4 ∧ cp_ h 0 a2 a4 0 0 40 ∧ ∀ h6, h6 = ah_wi h a4 (va_cpy (ah_i h a2) (ah_i h a4) (Int32.toNatClampNeg 0) (Int32.toNatClampNeg 0) (Int32.toNatClampNeg 40)) → ∃ a7, ah_r h6 a_1 1 = some a7 ∧ ∃ a8, ah_r h6 a_0 1 = some a8 ∧ cp_ h6 0 a7 a8 0 0 160 ∧ ∀ h10, h10 = ah_wi h6 a8 (va_cpy (ah_i h6 a7) (ah_i h6 a8) (Int32.toNatClampNeg 0) (Int32.toNatClampNeg 0) (Int32.toNatClampNeg 160)) → ∀ h11, h11 = ah_sf h10 a_0 2 (ah_f h10 a_1 2) → ∀ h12, h12 = ah_sf h11 a_0 3 (ah_f h11 a_1 3) → Q none h12) : ex_G mX7_take (d + 1) 0 [.ref a_0, .ref a_1] [] h bc bs Q := by
  refine ex_aload_n (q := 1) (x := a_1) dX7_take_0 rfl ?_
  have s1 := w.1
  replace w := w.2
  obtain ⟨a2, ea2, w⟩ := w
  refine ex_getr (q := 4) dX7_take_1 fl_X7_9 s1 ea2 ?_
  refine ex_iconst (q := 5) (v := 0) dX7_take_4 (by decide) ?_
  refine ex_aload_n (q := 6) (x := a_0) dX7_take_5 rfl ?_
  have s3 := w.1
  replace w := w.2
  obtain ⟨a4, ea4, w⟩ := w
  refine ex_getr (q := 9) dX7_take_6 fl_X7_9 s3 ea4 ?_
  refine ex_iconst (q := 10) (v := 0) dX7_take_9 (by decide) ?_
  refine ex_bipush (q := 12) (v := 40) dX7_take_10 (by decide) ?_
  have s5 := w.1
  replace w := w.2
  refine ex_copyip (q := 15) (hd1 := Nat.succ_le_succ (Nat.zero_le _)) dX7_take_12 wd_571 s5 ?_
  refine ex_nmh (fun h6 eh6 => ?_)
  replace w := w h6 eh6
  refine ex_aload_n (q := 16) (x := a_1) dX7_take_15 rfl ?_
  obtain ⟨a7, ea7, w⟩ := w
  refine ex_getr (q := 19) dX7_take_16 fl_X7_15 (by rw [eh6]; exact s1) ea7 ?_
  refine ex_iconst (q := 20) (v := 0) dX7_take_19 (by decide) ?_
  refine ex_aload_n (q := 21) (x := a_0) dX7_take_20 rfl ?_
  obtain ⟨a8, ea8, w⟩ := w
  refine ex_getr (q := 24) dX7_take_21 fl_X7_15 (by rw [eh6]; exact s3) ea8 ?_
  refine ex_iconst (q := 25) (v := 0) dX7_take_24 (by decide) ?_
  refine ex_sipush (q := 28) (v := 160) dX7_take_25 (by decide) ?_
  have s9 := w.1
  replace w := w.2
  refine ex_copyip (q := 31) (hd1 := Nat.succ_le_succ (Nat.zero_le _)) dX7_take_28 wd_571 s9 ?_
  refine ex_nmh (fun h10 eh10 => ?_)
  replace w := w h10 eh10
  refine ex_aload_n (q := 32) (x := a_0) dX7_take_31 rfl ?_
  refine ex_aload_n (q := 33) (x := a_1) dX7_take_32 rfl ?_
  refine ex_getf (q := 36) dX7_take_33 fl_X7_24 (by rw [eh10]; exact (by rw [eh6]; exact s1)) ?_
  refine ex_putf (q := 39) dX7_take_36 fl_X7_24 (Or.inl rfl) (by rw [eh10]; exact (by rw [eh6]; exact s3)) (Or.inl rfl) ?_
  refine ex_nmh (fun h11 eh11 => ?_)
  replace w := w h11 eh11
  refine ex_aload_n (q := 40) (x := a_0) dX7_take_39 rfl ?_
  refine ex_aload_n (q := 41) (x := a_1) dX7_take_40 rfl ?_
  refine ex_getf (q := 44) dX7_take_41 fl_X7_28 (by rw [eh11]; exact (by rw [eh10]; exact (by rw [eh6]; exact s1))) ?_
  refine ex_putf (q := 47) dX7_take_44 fl_X7_28 (Or.inl rfl) (by rw [eh11]; exact (by rw [eh10]; exact (by rw [eh6]; exact s3))) (Or.inl rfl) ?_
  refine ex_nmh (fun h12 eh12 => ?_)
  replace w := w h12 eh12
  exact ex_return dX7_take_47 w

theorem X7_take_e {d bc bs : Nat} {h : AH} {Q : Option Value → AH → Prop} {a_0 : Nat} {a_1 : Nat} (w : ex_G mX7_take (d + 1) 0 [.ref a_0, .ref a_1] [] h bc bs Q) : ex_S yX7_take mX7_take (d + 1) [.ref a_0, .ref a_1] h bc bs Q :=
  ex_enter (plainFor_of_name (by decide +kernel)) ⟨rfl, rfl⟩ rfl rfl (Nat.le_of_ble_eq_true rfl) (ex_pad 0 w)

set_option maxRecDepth 100000 in
theorem X7_add_0 {d bc bs : Nat} {h : AH} {Q : Option Value → AH → Prop} {a_0 : Nat} {v_1 : Int32} {v_2 : Int32} {v_3 : Int32} {v_4 : Int32} (w : ah_o h a_0 7 ∧ (((ah_f h a_0 2) < 40 → ∃ a3, ah_r h a_0 0 = some a3 ∧ st0 h a3 (ah_f h a_0 2) ∧ ∀ h4, h4 = ah_si h a3 (Int32.toNatClampNeg (ah_f h a_0 2)) 4 → ∃ a6, ah_r h4 a_0 1 = some a6 ∧ st0 h4 a6 (4 * (ah_f h4 a_0 2)) ∧ ∀ h7, h7 = ah_si h4 a6 (Int32.toNatClampNeg (4 * (ah_f h4 a_0 2))) v_1 → st0 h7 a6 ((4 * (ah_f h7 a_0 2)) + 1) ∧ ∀ h9, h9 = ah_si h7 a6 (Int32.toNatClampNeg ((4 * (ah_f h7 a_0 2)) + 1)) v_2 → st0 h9 a6 ((4 * (ah_f h9 a_0 2)) + 2) ∧ ∀ h11, h11 = ah_si h9 a6 (Int32.toNatClampNeg ((4 * (ah_f h9 a_0 2)) + 2)) v_3 → st0 h11 a6 ((4 * (ah_f h11 a_0 2)) + 3) ∧ ∀ h13, h13 = ah_si h11 a6 (Int32.toNatClampNeg ((4 * (ah_f h11 a_0 2)) + 3)) v_4 → ∀ h15, h15 = ah_sf h13 a_0 2 ((ah_f h13 a_0 2) + 1) → Q none h15) ∧ (¬ (ah_f h a_0 2) < 40 → Q none h))) : ex_G mX7_add d 0 [.ref a_0, .int v_1, .int v_2, .int v_3, .int v_4] [] h bc bs Q := by
  refine ex_aload_n (q := 1) (x := a_0) dX7_add_0 rfl ?_
  have s1 := w.1
  replace w := w.2
  refine ex_getf (q := 4) dX7_add_1 fl_X7_24 s1 ?_
  refine ex_bipush (q := 6) (v := 40) dX7_add_4 (by decide) ?_
  refine ex_icmp_lt (tgt := 10) (q := 9) dX7_add_6 (fun c2 => ?_) (fun c2 => ?_)
  · replace w := w.1 c2
    refine ex_aload_n (q := 11) (x := a_0) dX7_add_10 rfl ?_
    obtain ⟨a3, ea3, w⟩ := w
    refine ex_getr (q := 14) dX7_add_11 fl_X7_9 s1 ea3 ?_
    refine ex_aload_n (q := 15) (x := a_0) dX7_add_14 rfl ?_
    refine ex_getf (q := 18) dX7_add_15 fl_X7_24 s1 ?_
    refine ex_iconst (q := 19) (v := 4) dX7_add_18 (by decide) ?_
    have s5 := w.1
    replace w := w.2
    refine ex_iast (q := 20) dX7_add_19 s5 ?_
    refine ex_nmh (fun h4 eh4 => ?_)
    replace w := w h4 eh4
    refine ex_aload_n (q := 21) (x := a_0) dX7_add_20 rfl ?_
    obtain ⟨a6, ea6, w⟩ := w
    refine ex_getr (q := 24) dX7_add_21 fl_X7_15 (by rw [eh4]; exact s1) ea6 ?_
    refine ex_iconst (q := 25) (v := 4) dX7_add_24 (by decide) ?_
    refine ex_aload_n (q := 26) (x := a_0) dX7_add_25 rfl ?_
    refine ex_getf (q := 29) dX7_add_26 fl_X7_24 (by rw [eh4]; exact s1) ?_
    refine ex_imul (q := 30) dX7_add_29 ?_
    refine ex_iload_n (q := 31) (x := v_1) dX7_add_30 rfl ?_
    have s8 := w.1
    replace w := w.2
    refine ex_iast (q := 32) dX7_add_31 s8 ?_
    refine ex_nmh (fun h7 eh7 => ?_)
    replace w := w h7 eh7
    refine ex_aload_n (q := 33) (x := a_0) dX7_add_32 rfl ?_
    refine ex_getr (q := 36) dX7_add_33 fl_X7_15 (by rw [eh7]; exact (by rw [eh4]; exact s1)) (by rw [eh7]; exact ea6) ?_
    refine ex_iconst (q := 37) (v := 4) dX7_add_36 (by decide) ?_
    refine ex_aload_n (q := 38) (x := a_0) dX7_add_37 rfl ?_
    refine ex_getf (q := 41) dX7_add_38 fl_X7_24 (by rw [eh7]; exact (by rw [eh4]; exact s1)) ?_
    refine ex_imul (q := 42) dX7_add_41 ?_
    refine ex_iconst (q := 43) (v := 1) dX7_add_42 (by decide) ?_
    refine ex_iadd (q := 44) dX7_add_43 ?_
    refine ex_iload_n (q := 45) (x := v_2) dX7_add_44 rfl ?_
    have s10 := w.1
    replace w := w.2
    refine ex_iast (q := 46) dX7_add_45 s10 ?_
    refine ex_nmh (fun h9 eh9 => ?_)
    replace w := w h9 eh9
    refine ex_aload_n (q := 47) (x := a_0) dX7_add_46 rfl ?_
    refine ex_getr (q := 50) dX7_add_47 fl_X7_15 (by rw [eh9]; exact (by rw [eh7]; exact (by rw [eh4]; exact s1))) (by rw [eh9]; exact (by rw [eh7]; exact ea6)) ?_
    refine ex_iconst (q := 51) (v := 4) dX7_add_50 (by decide) ?_
    refine ex_aload_n (q := 52) (x := a_0) dX7_add_51 rfl ?_
    refine ex_getf (q := 55) dX7_add_52 fl_X7_24 (by rw [eh9]; exact (by rw [eh7]; exact (by rw [eh4]; exact s1))) ?_
    refine ex_imul (q := 56) dX7_add_55 ?_
    refine ex_iconst (q := 57) (v := 2) dX7_add_56 (by decide) ?_
    refine ex_iadd (q := 58) dX7_add_57 ?_
    refine ex_iload_n (q := 59) (x := v_3) dX7_add_58 rfl ?_
    have s12 := w.1
    replace w := w.2
    refine ex_iast (q := 60) dX7_add_59 s12 ?_
    refine ex_nmh (fun h11 eh11 => ?_)
    replace w := w h11 eh11
    refine ex_aload_n (q := 61) (x := a_0) dX7_add_60 rfl ?_
    refine ex_getr (q := 64) dX7_add_61 fl_X7_15 (by rw [eh11]; exact (by rw [eh9]; exact (by rw [eh7]; exact (by rw [eh4]; exact s1)))) (by rw [eh11]; exact (by rw [eh9]; exact (by rw [eh7]; exact ea6))) ?_
    refine ex_iconst (q := 65) (v := 4) dX7_add_64 (by decide) ?_
    refine ex_aload_n (q := 66) (x := a_0) dX7_add_65 rfl ?_
    refine ex_getf (q := 69) dX7_add_66 fl_X7_24 (by rw [eh11]; exact (by rw [eh9]; exact (by rw [eh7]; exact (by rw [eh4]; exact s1)))) ?_
    refine ex_imul (q := 70) dX7_add_69 ?_
    refine ex_iconst (q := 71) (v := 3) dX7_add_70 (by decide) ?_
    refine ex_iadd (q := 72) dX7_add_71 ?_
    refine ex_iload (q := 74) (x := v_4) dX7_add_72 rfl ?_
    have s14 := w.1
    replace w := w.2
    refine ex_iast (q := 75) dX7_add_74 s14 ?_
    refine ex_nmh (fun h13 eh13 => ?_)
    replace w := w h13 eh13
    refine ex_aload_n (q := 76) (x := a_0) dX7_add_75 rfl ?_
    refine ex_dup (q := 77) dX7_add_76 rfl ?_
    refine ex_getf (q := 80) dX7_add_77 fl_X7_24 (by rw [eh13]; exact (by rw [eh11]; exact (by rw [eh9]; exact (by rw [eh7]; exact (by rw [eh4]; exact s1))))) ?_
    refine ex_iconst (q := 81) (v := 1) dX7_add_80 (by decide) ?_
    refine ex_iadd (q := 82) dX7_add_81 ?_
    refine ex_putf (q := 85) dX7_add_82 fl_X7_24 (Or.inl rfl) (by rw [eh13]; exact (by rw [eh11]; exact (by rw [eh9]; exact (by rw [eh7]; exact (by rw [eh4]; exact s1))))) (Or.inl rfl) ?_
    refine ex_nmh (fun h15 eh15 => ?_)
    replace w := w h15 eh15
    exact ex_return dX7_add_85 w
  · replace w := w.2 c2
    exact ex_return dX7_add_9 w

theorem X7_add_e {d bc bs : Nat} {h : AH} {Q : Option Value → AH → Prop} {a_0 : Nat} {v_1 : Int32} {v_2 : Int32} {v_3 : Int32} {v_4 : Int32} (w : ex_G mX7_add d 0 [.ref a_0, .int v_1, .int v_2, .int v_3, .int v_4] [] h bc bs Q) : ex_S yX7_add mX7_add d [.ref a_0, .int v_1, .int v_2, .int v_3, .int v_4] h bc bs Q :=
  ex_enter (plainFor_of_name (by decide +kernel)) ⟨rfl, rfl⟩ rfl rfl (Nat.le_of_ble_eq_true rfl) (ex_pad 0 w)

set_option maxRecDepth 100000 in
theorem X7_resize_0 {d bc bs : Nat} {h : AH} {Q : Option Value → AH → Prop} {a_0 : Nat} {v_1 : Int32} {v_2 : Int32} (w : ah_o h a_0 7 ∧ ∃ a2, ah_r h a_0 0 = some a2 ∧ st0 h a2 v_1 ∧ ∀ h3, h3 = ah_si h a2 (Int32.toNatClampNeg v_1) v_2 → ∀ x5, x5 = J9_max_7cf53_V v_2 0 h3 → ex_G mX7_resize (d + 1) 13 [.ref a_0, .int v_1, .retAddr 0, .int x5] [] h3 bc bs Q) : ex_G mX7_resize (d + 1) 0 [.ref a_0, .int v_1, .int v_2, .retAddr 0] [] h bc bs Q := by
  refine ex_aload_n (q := 1) (x := a_0) dX7_resize_0 rfl ?_
  have s1 := w.1
  replace w := w.2
  obtain ⟨a2, ea2, w⟩ := w
  refine ex_getr (q := 4) dX7_resize_1 fl_X7_9 s1 ea2 ?_
  refine ex_iload_n (q := 5) (x := v_1) dX7_resize_4 rfl ?_
  refine ex_iload_n (q := 6) (x := v_2) dX7_resize_5 rfl ?_
  have s4 := w.1
  replace w := w.2
  refine ex_iast (q := 7) dX7_resize_6 s4 ?_
  refine ex_nmh (fun h3 eh3 => ?_)
  replace w := w h3 eh3
  refine ex_iload_n (q := 8) (x := v_2) dX7_resize_7 rfl ?_
  refine ex_iconst (q := 9) (v := 0) dX7_resize_8 (by decide) ?_
  refine ex_callS (q := 12) (M := mX7_resize) (hdd := Nat.le_refl _) (mc := 0) (ms := 0) (d' := d) (st := []) (bc := bc) (bs := bs) dX7_resize_9 rfl cl_X7_37 wd_148 (J9_max_7cf53_s (Q := fun r z => r = some (.int (J9_max_7cf53_V v_2 0 h3)) ∧ z = h3) ⟨rfl, rfl⟩) ?_
  intro r z hrz
  rw [hrz.1, hrz.2]
  show ex_G mX7_resize (d + 1) 12 [.ref a_0, .int v_1, .int v_2, .retAddr 0] [.int (J9_max_7cf53_V v_2 0 h3)] (h3) bc bs Q
  refine ex_nmi (fun x5 ex5 => ?_)
  replace w := w x5 ex5
  refine ex_istore_n (q := 13) (ls' := [.ref a_0, .int v_1, .int v_2, .int x5]) dX7_resize_12 rfl ?_
  refine ex_kill 2 (ls' := [.ref a_0, .int v_1, .retAddr 0, .int x5]) rfl ?_
  exact w

set_option maxRecDepth 100000 in
theorem X7_resize_13 {d bc bs : Nat} {h : AH} {Q : Option Value → AH → Prop} {a_0 : Nat} {v_1 : Int32} {v_3 : Int32} (w : ((4 ≤ v_3 → Q none h) ∧ (¬ 4 ≤ v_3 → ah_o h a_0 7 ∧ ∃ a3, ah_r h a_0 1 = some a3 ∧ st0 h a3 ((4 * v_1) + v_3) ∧ ∀ h4, h4 = ah_si h a3 (Int32.toNatClampNeg ((4 * v_1) + v_3)) (-1) → ∀ x6, x6 = v_3 + 1 → ex_G mX7_resize (d + 1) 13 [.ref a_0, .int v_1, .retAddr 0, .int x6] [] h4 bc bs Q))) : ex_G mX7_resize (d + 1) 13 [.ref a_0, .int v_1, .retAddr 0, .int v_3] [] h bc bs Q := by
  refine ex_iload_n (q := 14) (x := v_3) dX7_resize_13 rfl ?_
  refine ex_iconst (q := 15) (v := 4) dX7_resize_14 (by decide) ?_
  refine ex_icmp_ge (tgt := 35) (q := 18) dX7_resize_15 (fun c1 => ?_) (fun c1 => ?_)
  · replace w := w.1 c1
    exact ex_return dX7_resize_35 w
  · replace w := w.2 c1
    refine ex_aload_n (q := 19) (x := a_0) dX7_resize_18 rfl ?_
    have s2 := w.1
    replace w := w.2
    obtain ⟨a3, ea3, w⟩ := w
    refine ex_getr (q := 22) dX7_resize_19 fl_X7_15 s2 ea3 ?_
    refine ex_iconst (q := 23) (v := 4) dX7_resize_22 (by decide) ?_
    refine ex_iload_n (q := 24) (x := v_1) dX7_resize_23 rfl ?_
    refine ex_imul (q := 25) dX7_resize_24 ?_
    refine ex_iload_n (q := 26) (x := v_3) dX7_resize_25 rfl ?_
    refine ex_iadd (q := 27) dX7_resize_26 ?_
    refine ex_iconst (q := 28) (v := (-1)) dX7_resize_27 (by decide) ?_
    have s5 := w.1
    replace w := w.2
    refine ex_iast (q := 29) dX7_resize_28 s5 ?_
    refine ex_nmh (fun h4 eh4 => ?_)
    replace w := w h4 eh4
    obtain ⟨x6, ex6⟩ : ∃ y : Int32, y = v_3 + 1 := ⟨_, rfl⟩
    replace w := w x6 ex6
    refine ex_iinc (q := 32) (x := v_3) (v := x6) (ls' := [.ref a_0, .int v_1, .retAddr 0, .int x6]) dX7_resize_29 rfl (by rw [ex6]; rfl) rfl ?_
    refine ex_goto (tgt := 13) dX7_resize_32 ?_
    exact w

theorem X7_resize_e {d bc bs : Nat} {h : AH} {Q : Option Value → AH → Prop} {a_0 : Nat} {v_1 : Int32} {v_2 : Int32} (w : ex_G mX7_resize (d + 1) 0 [.ref a_0, .int v_1, .int v_2, .retAddr 0] [] h bc bs Q) : ex_S yX7_resize mX7_resize (d + 1) [.ref a_0, .int v_1, .int v_2] h bc bs Q :=
  ex_enter (plainFor_of_name (by decide +kernel)) ⟨rfl, rfl⟩ rfl rfl (Nat.le_of_ble_eq_true rfl) (ex_pad 1 w)

set_option maxRecDepth 100000 in
theorem X7_freeArc_0 {d bc bs : Nat} {h : AH} {Q : Option Value → AH → Prop} {a_0 : Nat} {v_1 : Int32} (w : ex_G mX7_freeArc d 8 [.ref a_0, .int v_1, .long 0, .retAddr 0, .long 0, .retAddr 0, .int 0, .retAddr 0, .retAddr 0] [] h bc bs Q) : ex_G mX7_freeArc d 0 [.ref a_0, .int v_1, .retAddr 0, .retAddr 0, .retAddr 0, .retAddr 0, .retAddr 0, .retAddr 0, .retAddr 0] [] h bc bs Q := by
  refine ex_lconst (q := 1) (v := 0) dX7_freeArc_0 (by decide) ?_
  refine ex_lstore_n (q := 2) (ls' := [.ref a_0, .int v_1, .long 0, .retAddr 0, .retAddr 0, .retAddr 0, .retAddr 0, .retAddr 0, .retAddr 0]) dX7_freeArc_1 rfl ?_
  refine ex_lconst (q := 3) (v := 0) dX7_freeArc_2 (by decide) ?_
  refine ex_lstore (q := 5) (ls' := [.ref a_0, .int v_1, .long 0, .retAddr 0, .long 0, .retAddr 0, .retAddr 0, .retAddr 0, .retAddr 0]) dX7_freeArc_3 rfl ?_
  refine ex_iconst (q := 6) (v := 0) dX7_freeArc_5 (by decide) ?_
  refine ex_istore (q := 8) (ls' := [.ref a_0, .int v_1, .long 0, .retAddr 0, .long 0, .retAddr 0, .int 0, .retAddr 0, .retAddr 0]) dX7_freeArc_6 rfl ?_
  exact w

set_option maxRecDepth 100000 in
theorem X7_freeArc_8 {d bc bs : Nat} {h : AH} {Q : Option Value → AH → Prop} {a_0 : Nat} {v_1 : Int32} {v_2 : Int64} {v_4 : Int64} {v_6 : Int32} (w : ah_o h a_0 7 ∧ (((4 * (ah_f h a_0 2)) ≤ v_6 → ∀ x3, x3 = v_1 + 1 → ex_G mX7_freeArc d 73 [.retAddr 0, .retAddr 0, .long v_2, .retAddr 0, .long v_4, .retAddr 0, .int x3, .retAddr 0, .retAddr 0] [] h bc bs Q) ∧ (¬ (4 * (ah_f h a_0 2)) ≤ v_6 → ∃ a4, ah_r h a_0 1 = some a4 ∧ ld0 h a4 v_6 ∧ ∀ x6, x6 = ah_i h a4 (Int32.toNatClampNeg v_6) → ((x6 < 64 → ((x6 < 0 → ∀ x9, x9 = v_6 + 1 → ex_G mX7_freeArc d 8 [.ref a_0, .int v_1, .long v_2, .retAddr 0, .long v_4, .retAddr 0, .int x9, .retAddr 0, .retAddr 0] [] h bc bs Q) ∧ (¬ x6 < 0 → ∀ x10, x10 = v_2 ||| (1 <<< (x6.toInt64 &&& 63)) → ∀ x11, x11 = v_6 + 1 → ex_G mX7_freeArc d 8 [.ref a_0, .int v_1, .long x10, .retAddr 0, .long v_4, .retAddr 0, .int x11, .retAddr 0, .retAddr 0] [] h bc bs Q))) ∧ (¬ x6 < 64 → ∀ x12, x12 = v_4 ||| (1 <<< ((x6 - 64).toInt64 &&& 63)) → ∀ x13, x13 = v_6 + 1 → ex_G mX7_freeArc d 8 [.ref a_0, .int v_1, .long v_2, .retAddr 0, .long x12, .retAddr 0, .int x13, .retAddr 0, .retAddr 0] [] h bc bs Q))))) : ex_G mX7_freeArc d 8 [.ref a_0, .int v_1, .long v_2, .retAddr 0, .long v_4, .retAddr 0, .int v_6, .retAddr 0, .retAddr 0] [] h bc bs Q := by
  refine ex_iload (q := 10) (x := v_6) dX7_freeArc_8 rfl ?_
  refine ex_iconst (q := 11) (v := 4) dX7_freeArc_10 (by decide) ?_
  refine ex_aload_n (q := 12) (x := a_0) dX7_freeArc_11 rfl ?_
  have s1 := w.1
  replace w := w.2
  refine ex_getf (q := 15) dX7_freeArc_12 fl_X7_24 s1 ?_
  refine ex_imul (q := 16) dX7_freeArc_15 ?_
  refine ex_icmp_ge (tgt := 68) (q := 19) dX7_freeArc_16 (fun c2 => ?_) (fun c2 => ?_)
  · replace w := w.1 c2
    refine ex_iload_n (q := 69) (x := v_1) dX7_freeArc_68 rfl ?_
    refine ex_iconst (q := 70) (v := 1) dX7_freeArc_69 (by decide) ?_
    refine ex_iadd (q := 71) dX7_freeArc_70 ?_
    refine ex_nmi (fun x3 ex3 => ?_)
    replace w := w x3 ex3
    refine ex_istore (q := 73) (ls' := [.ref a_0, .int v_1, .long v_2, .retAddr 0, .long v_4, .retAddr 0, .int x3, .retAddr 0, .retAddr 0]) dX7_freeArc_71 rfl ?_
    refine ex_kill 0 (ls' := [.retAddr 0, .int v_1, .long v_2, .retAddr 0, .long v_4, .retAddr 0, .int x3, .retAddr 0, .retAddr 0]) rfl ?_
    refine ex_kill 1 (ls' := [.retAddr 0, .retAddr 0, .long v_2, .retAddr 0, .long v_4, .retAddr 0, .int x3, .retAddr 0, .retAddr 0]) rfl ?_
    exact w
  · replace w := w.2 c2
    refine ex_aload_n (q := 20) (x := a_0) dX7_freeArc_19 rfl ?_
    obtain ⟨a4, ea4, w⟩ := w
    refine ex_getr (q := 23) dX7_freeArc_20 fl_X7_15 s1 ea4 ?_
    refine ex_iload (q := 25) (x := v_6) dX7_freeArc_23 rfl ?_
    have s5 := w.1
    replace w := w.2
    refine ex_iald (q := 26) dX7_freeArc_25 s5 ?_
    refine ex_nmi (fun x6 ex6 => ?_)
    replace w := w x6 ex6
    refine ex_istore (q := 28) (ls' := [.ref a_0, .int v_1, .long v_2, .retAddr 0, .long v_4, .retAddr 0, .int v_6, .int x6, .retAddr 0]) dX7_freeArc_26 rfl ?_
    refine ex_iload (q := 30) (x := x6) dX7_freeArc_28 rfl ?_
    refine ex_bipush (q := 32) (v := 64) dX7_freeArc_30 (by decide) ?_
    refine ex_icmp_lt (tgt := 50) (q := 35) dX7_freeArc_32 (fun c7 => ?_) (fun c7 => ?_)
    · replace w := w.1 c7
      refine ex_iload (q := 52) (x := x6) dX7_freeArc_50 rfl ?_
      refine ex_if_lt (tgt := 62) (q := 55) dX7_freeArc_52 (fun c8 => ?_) (fun c8 => ?_)
      · replace w := w.1 c8
        obtain ⟨x9, ex9⟩ : ∃ y : Int32, y = v_6 + 1 := ⟨_, rfl⟩
        replace w := w x9 ex9
        refine ex_iinc (q := 65) (x := v_6) (v := x9) (ls' := [.ref a_0, .int v_1, .long v_2, .retAddr 0, .long v_4, .retAddr 0, .int x9, .int x6, .retAddr 0]) dX7_freeArc_62 rfl (by rw [ex9]; rfl) rfl ?_
        refine ex_goto (tgt := 8) dX7_freeArc_65 ?_
        refine ex_kill 7 (ls' := [.ref a_0, .int v_1, .long v_2, .retAddr 0, .long v_4, .retAddr 0, .int x9, .retAddr 0, .retAddr 0]) rfl ?_
        exact w
      · replace w := w.2 c8
        refine ex_lload_n (q := 56) (x := v_2) dX7_freeArc_55 rfl ?_
        refine ex_lconst (q := 57) (v := 1) dX7_freeArc_56 (by decide) ?_
        refine ex_iload (q := 59) (x := x6) dX7_freeArc_57 rfl ?_
        refine ex_lshl (q := 60) dX7_freeArc_59 ?_
        refine ex_lor (q := 61) dX7_freeArc_60 ?_
        refine ex_nml (fun x10 ex10 => ?_)
        replace w := w x10 ex10
        refine ex_lstore_n (q := 62) (ls' := [.ref a_0, .int v_1, .long x10, .retAddr 0, .long v_4, .retAddr 0, .int v_6, .int x6, .retAddr 0]) dX7_freeArc_61 rfl ?_
        obtain ⟨x11, ex11⟩ : ∃ y : Int32, y = v_6 + 1 := ⟨_, rfl⟩
        replace w := w x11 ex11
        refine ex_iinc (q := 65) (x := v_6) (v := x11) (ls' := [.ref a_0, .int v_1, .long x10, .retAddr 0, .long v_4, .retAddr 0, .int x11, .int x6, .retAddr 0]) dX7_freeArc_62 rfl (by rw [ex11]; rfl) rfl ?_
        refine ex_goto (tgt := 8) dX7_freeArc_65 ?_
        refine ex_kill 7 (ls' := [.ref a_0, .int v_1, .long x10, .retAddr 0, .long v_4, .retAddr 0, .int x11, .retAddr 0, .retAddr 0]) rfl ?_
        exact w
    · replace w := w.2 c7
      refine ex_lload (q := 37) (x := v_4) dX7_freeArc_35 rfl ?_
      refine ex_lconst (q := 38) (v := 1) dX7_freeArc_37 (by decide) ?_
      refine ex_iload (q := 40) (x := x6) dX7_freeArc_38 rfl ?_
      refine ex_bipush (q := 42) (v := 64) dX7_freeArc_40 (by decide) ?_
      refine ex_isub (q := 43) dX7_freeArc_42 ?_
      refine ex_lshl (q := 44) dX7_freeArc_43 ?_
      refine ex_lor (q := 45) dX7_freeArc_44 ?_
      refine ex_nml (fun x12 ex12 => ?_)
      replace w := w x12 ex12
      refine ex_lstore (q := 47) (ls' := [.ref a_0, .int v_1, .long v_2, .retAddr 0, .long x12, .retAddr 0, .int v_6, .int x6, .retAddr 0]) dX7_freeArc_45 rfl ?_
      refine ex_goto (tgt := 62) dX7_freeArc_47 ?_
      obtain ⟨x13, ex13⟩ : ∃ y : Int32, y = v_6 + 1 := ⟨_, rfl⟩
      replace w := w x13 ex13
      refine ex_iinc (q := 65) (x := v_6) (v := x13) (ls' := [.ref a_0, .int v_1, .long v_2, .retAddr 0, .long x12, .retAddr 0, .int x13, .int x6, .retAddr 0]) dX7_freeArc_62 rfl (by rw [ex13]; rfl) rfl ?_
      refine ex_goto (tgt := 8) dX7_freeArc_65 ?_
      refine ex_kill 7 (ls' := [.ref a_0, .int v_1, .long v_2, .retAddr 0, .long x12, .retAddr 0, .int x13, .retAddr 0, .retAddr 0]) rfl ?_
      exact w

set_option maxRecDepth 100000 in
theorem X7_freeArc_73 {d bc bs : Nat} {h : AH} {Q : Option Value → AH → Prop} {v_2 : Int64} {v_4 : Int64} {v_6 : Int32} (w : ((100 ≤ v_6 → Q (some (.int (-1))) h) ∧ (¬ 100 ≤ v_6 → ((64 ≤ v_6 → ex_G mX7_freeArc d 102 [.retAddr 0, .retAddr 0, .long v_2, .retAddr 0, .long v_4, .retAddr 0, .int v_6, .retAddr 0, .retAddr 0] [.long (v_4 >>> ((v_6 - 64).toInt64 &&& 63))] h bc bs Q) ∧ (¬ 64 ≤ v_6 → ex_G mX7_freeArc d 102 [.retAddr 0, .retAddr 0, .long v_2, .retAddr 0, .long v_4, .retAddr 0, .int v_6, .retAddr 0, .retAddr 0] [.long (v_2 >>> (v_6.toInt64 &&& 63))] h bc bs Q))))) : ex_G mX7_freeArc d 73 [.retAddr 0, .retAddr 0, .long v_2, .retAddr 0, .long v_4, .retAddr 0, .int v_6, .retAddr 0, .retAddr 0] [] h bc bs Q := by
  refine ex_iload (q := 75) (x := v_6) dX7_freeArc_73 rfl ?_
  refine ex_bipush (q := 77) (v := 100) dX7_freeArc_75 (by decide) ?_
  refine ex_icmp_ge (tgt := 122) (q := 80) dX7_freeArc_77 (fun c1 => ?_) (fun c1 => ?_)
  · replace w := w.1 c1
    refine ex_iconst (q := 123) (v := (-1)) dX7_freeArc_122 (by decide) ?_
    exact ex_ireturn dX7_freeArc_123 rfl (Or.inl rfl) w
  · replace w := w.2 c1
    refine ex_iload (q := 82) (x := v_6) dX7_freeArc_80 rfl ?_
    refine ex_bipush (q := 84) (v := 64) dX7_freeArc_82 (by decide) ?_
    refine ex_icmp_ge (tgt := 94) (q := 87) dX7_freeArc_84 (fun c2 => ?_) (fun c2 => ?_)
    · replace w := w.1 c2
      refine ex_lload (q := 96) (x := v_4) dX7_freeArc_94 rfl ?_
      refine ex_iload (q := 98) (x := v_6) dX7_freeArc_96 rfl ?_
      refine ex_bipush (q := 100) (v := 64) dX7_freeArc_98 (by decide) ?_
      refine ex_isub (q := 101) dX7_freeArc_100 ?_
      refine ex_lshr (q := 102) dX7_freeArc_101 ?_
      exact w
    · replace w := w.2 c2
      refine ex_lload_n (q := 88) (x := v_2) dX7_freeArc_87 rfl ?_
      refine ex_iload (q := 90) (x := v_6) dX7_freeArc_88 rfl ?_
      refine ex_lshr (q := 91) dX7_freeArc_90 ?_
      refine ex_goto (tgt := 102) dX7_freeArc_91 ?_
      exact w

set_option maxRecDepth 100000 in
theorem X7_freeArc_102 {d bc bs : Nat} {h : AH} {Q : Option Value → AH → Prop} {v_2 : Int64} {v_4 : Int64} {v_6 : Int32} {u_0 : Int64} (w : ((¬ (lg_cmp (u_0 &&& 1) 0) = 0 → ∀ x2, x2 = v_6 + 1 → ex_G mX7_freeArc d 73 [.retAddr 0, .retAddr 0, .long v_2, .retAddr 0, .long v_4, .retAddr 0, .int x2, .retAddr 0, .retAddr 0] [] h bc bs Q) ∧ ((lg_cmp (u_0 &&& 1) 0) = 0 → Q (some (.int v_6)) h))) : ex_G mX7_freeArc d 102 [.retAddr 0, .retAddr 0, .long v_2, .retAddr 0, .long v_4, .retAddr 0, .int v_6, .retAddr 0, .retAddr 0] [.long u_0] h bc bs Q := by
  refine ex_lstore (q := 104) (ls' := [.retAddr 0, .retAddr 0, .long v_2, .retAddr 0, .long v_4, .retAddr 0, .int v_6, .long u_0, .retAddr 0]) dX7_freeArc_102 rfl ?_
  refine ex_lload (q := 106) (x := u_0) dX7_freeArc_104 rfl ?_
  refine ex_lconst (q := 107) (v := 1) dX7_freeArc_106 (by decide) ?_
  refine ex_land (q := 108) dX7_freeArc_107 ?_
  refine ex_lconst (q := 109) (v := 0) dX7_freeArc_108 (by decide) ?_
  refine ex_lcmp (q := 110) dX7_freeArc_109 ?_
  refine ex_if_ne (tgt := 116) (q := 113) dX7_freeArc_110 (fun c1 => ?_) (fun c1 => ?_)
  · replace w := w.1 c1
    obtain ⟨x2, ex2⟩ : ∃ y : Int32, y = v_6 + 1 := ⟨_, rfl⟩
    replace w := w x2 ex2
    refine ex_iinc (q := 119) (x := v_6) (v := x2) (ls' := [.retAddr 0, .retAddr 0, .long v_2, .retAddr 0, .long v_4, .retAddr 0, .int x2, .long u_0, .retAddr 0]) dX7_freeArc_116 rfl (by rw [ex2]; rfl) rfl ?_
    refine ex_goto (tgt := 73) dX7_freeArc_119 ?_
    refine ex_kill 7 (ls' := [.retAddr 0, .retAddr 0, .long v_2, .retAddr 0, .long v_4, .retAddr 0, .int x2, .retAddr 0, .retAddr 0]) rfl ?_
    exact w
  · replace w := w.2 c1
    refine ex_iload (q := 115) (x := v_6) dX7_freeArc_113 rfl ?_
    exact ex_ireturn dX7_freeArc_115 rfl (Or.inl rfl) w

theorem X7_freeArc_e {d bc bs : Nat} {h : AH} {Q : Option Value → AH → Prop} {a_0 : Nat} {v_1 : Int32} (w : ex_G mX7_freeArc d 0 [.ref a_0, .int v_1, .retAddr 0, .retAddr 0, .retAddr 0, .retAddr 0, .retAddr 0, .retAddr 0, .retAddr 0] [] h bc bs Q) : ex_S yX7_freeArc mX7_freeArc d [.ref a_0, .int v_1] h bc bs Q :=
  ex_enter (plainFor_of_name (by decide +kernel)) ⟨rfl, rfl⟩ rfl rfl (Nat.le_of_ble_eq_true rfl) (ex_pad 7 w)

set_option maxRecDepth 100000 in
theorem X7_fuse_0 {d bc bs : Nat} {h : AH} {Q : Option Value → AH → Prop} {a_0 : Nat} {v_1 : Int32} {v_2 : Int32} (w : ((¬ v_1 = v_2 → ex_G mX7_fuse d 18 [.ref a_0, .int v_1, .int v_2, .int 0] [] h bc bs Q) ∧ (v_1 = v_2 → ah_o h a_0 7 ∧ ∀ h3, h3 = ah_sf h a_0 3 ((ah_f h a_0 3) + 1) → Q none h3))) : ex_G mX7_fuse d 0 [.ref a_0, .int v_1, .int v_2, .retAddr 0] [] h bc bs Q := by
  refine ex_iload_n (q := 1) (x := v_1) dX7_fuse_0 rfl ?_
  refine ex_iload_n (q := 2) (x := v_2) dX7_fuse_1 rfl ?_
  refine ex_icmp_ne (tgt := 16) (q := 5) dX7_fuse_2 (fun c1 => ?_) (fun c1 => ?_)
  · replace w := w.1 c1
    refine ex_iconst (q := 17) (v := 0) dX7_fuse_16 (by decide) ?_
    refine ex_istore_n (q := 18) (ls' := [.ref a_0, .int v_1, .int v_2, .int 0]) dX7_fuse_17 rfl ?_
    exact w
  · replace w := w.2 c1
    refine ex_aload_n (q := 6) (x := a_0) dX7_fuse_5 rfl ?_
    refine ex_dup (q := 7) dX7_fuse_6 rfl ?_
    have s2 := w.1
    replace w := w.2
    refine ex_getf (q := 10) dX7_fuse_7 fl_X7_28 s2 ?_
    refine ex_iconst (q := 11) (v := 1) dX7_fuse_10 (by decide) ?_
    refine ex_iadd (q := 12) dX7_fuse_11 ?_
    refine ex_putf (q := 15) dX7_fuse_12 fl_X7_28 (Or.inl rfl) s2 (Or.inl rfl) ?_
    refine ex_nmh (fun h3 eh3 => ?_)
    replace w := w h3 eh3
    exact ex_return dX7_fuse_15 w

set_option maxRecDepth 100000 in
theorem X7_fuse_18 {d bc bs : Nat} {h : AH} {Q : Option Value → AH → Prop} {a_0 : Nat} {v_1 : Int32} {v_2 : Int32} {v_3 : Int32} (w : ah_o h a_0 7 ∧ (((4 * (ah_f h a_0 2)) ≤ v_3 → Q none h) ∧ (¬ (4 * (ah_f h a_0 2)) ≤ v_3 → ∃ a3, ah_r h a_0 1 = some a3 ∧ ld0 h a3 v_3 ∧ ((¬ (ah_i h a3 (Int32.toNatClampNeg v_3)) = v_2 → ∀ x6, x6 = v_3 + 1 → ex_G mX7_fuse d 18 [.ref a_0, .int v_1, .int v_2, .int x6] [] h bc bs Q) ∧ ((ah_i h a3 (Int32.toNatClampNeg v_3)) = v_2 → st0 h a3 v_3 ∧ ∀ h7, h7 = ah_si h a3 (Int32.toNatClampNeg v_3) v_1 → ∀ x9, x9 = v_3 + 1 → ex_G mX7_fuse d 18 [.ref a_0, .int v_1, .int v_2, .int x9] [] h7 bc bs Q))))) : ex_G mX7_fuse d 18 [.ref a_0, .int v_1, .int v_2, .int v_3] [] h bc bs Q := by
  refine ex_iload_n (q := 19) (x := v_3) dX7_fuse_18 rfl ?_
  refine ex_iconst (q := 20) (v := 4) dX7_fuse_19 (by decide) ?_
  refine ex_aload_n (q := 21) (x := a_0) dX7_fuse_20 rfl ?_
  have s1 := w.1
  replace w := w.2
  refine ex_getf (q := 24) dX7_fuse_21 fl_X7_24 s1 ?_
  refine ex_imul (q := 25) dX7_fuse_24 ?_
  refine ex_icmp_ge (tgt := 51) (q := 28) dX7_fuse_25 (fun c2 => ?_) (fun c2 => ?_)
  · replace w := w.1 c2
    exact ex_return dX7_fuse_51 w
  · replace w := w.2 c2
    refine ex_aload_n (q := 29) (x := a_0) dX7_fuse_28 rfl ?_
    obtain ⟨a3, ea3, w⟩ := w
    refine ex_getr (q := 32) dX7_fuse_29 fl_X7_15 s1 ea3 ?_
    refine ex_iload_n (q := 33) (x := v_3) dX7_fuse_32 rfl ?_
    have s4 := w.1
    replace w := w.2
    refine ex_iald (q := 34) dX7_fuse_33 s4 ?_
    refine ex_iload_n (q := 35) (x := v_2) dX7_fuse_34 rfl ?_
    refine ex_icmp_ne (tgt := 45) (q := 38) dX7_fuse_35 (fun c5 => ?_) (fun c5 => ?_)
    · replace w := w.1 c5
      obtain ⟨x6, ex6⟩ : ∃ y : Int32, y = v_3 + 1 := ⟨_, rfl⟩
      replace w := w x6 ex6
      refine ex_iinc (q := 48) (x := v_3) (v := x6) (ls' := [.ref a_0, .int v_1, .int v_2, .int x6]) dX7_fuse_45 rfl (by rw [ex6]; rfl) rfl ?_
      refine ex_goto (tgt := 18) dX7_fuse_48 ?_
      exact w
    · replace w := w.2 c5
      refine ex_aload_n (q := 39) (x := a_0) dX7_fuse_38 rfl ?_
      refine ex_getr (q := 42) dX7_fuse_39 fl_X7_15 s1 ea3 ?_
      refine ex_iload_n (q := 43) (x := v_3) dX7_fuse_42 rfl ?_
      refine ex_iload_n (q := 44) (x := v_1) dX7_fuse_43 rfl ?_
      have s8 := w.1
      replace w := w.2
      refine ex_iast (q := 45) dX7_fuse_44 s8 ?_
      refine ex_nmh (fun h7 eh7 => ?_)
      replace w := w h7 eh7
      obtain ⟨x9, ex9⟩ : ∃ y : Int32, y = v_3 + 1 := ⟨_, rfl⟩
      replace w := w x9 ex9
      refine ex_iinc (q := 48) (x := v_3) (v := x9) (ls' := [.ref a_0, .int v_1, .int v_2, .int x9]) dX7_fuse_45 rfl (by rw [ex9]; rfl) rfl ?_
      refine ex_goto (tgt := 18) dX7_fuse_48 ?_
      exact w

theorem X7_fuse_e {d bc bs : Nat} {h : AH} {Q : Option Value → AH → Prop} {a_0 : Nat} {v_1 : Int32} {v_2 : Int32} (w : ex_G mX7_fuse d 0 [.ref a_0, .int v_1, .int v_2, .retAddr 0] [] h bc bs Q) : ex_S yX7_fuse mX7_fuse d [.ref a_0, .int v_1, .int v_2] h bc bs Q :=
  ex_enter (plainFor_of_name (by decide +kernel)) ⟨rfl, rfl⟩ rfl rfl (Nat.le_of_ble_eq_true rfl) (ex_pad 1 w)

set_option maxRecDepth 100000 in
theorem X7_remove_0 {d bc bs : Nat} {h : AH} {Q : Option Value → AH → Prop} {a_0 : Nat} {v_1 : Int32} (w : ah_o h a_0 7 ∧ X7_hasCrossing_C a_0 v_1 h ∧ ((¬ (X7_hasCrossing_V a_0 v_1 h) = 0 → ∀ x4, x4 = ((ah_f h a_0 2) - 1) - v_1 → ∃ a5, ah_r h a_0 1 = some a5 ∧ cp_ h 0 a5 a5 ((4 * v_1) + 4) (4 * v_1) (4 * x4) ∧ ∀ h7, h7 = ah_wi h a5 (va_cpy (ah_i h a5) (ah_i h a5) (Int32.toNatClampNeg ((4 * v_1) + 4)) (Int32.toNatClampNeg (4 * v_1)) (Int32.toNatClampNeg (4 * x4))) → ∃ a8, ah_r h7 a_0 0 = some a8 ∧ cp_ h7 0 a8 a8 (v_1 + 1) v_1 x4 ∧ ∀ h10, h10 = ah_wi h7 a8 (va_cpy (ah_i h7 a8) (ah_i h7 a8) (Int32.toNatClampNeg (v_1 + 1)) (Int32.toNatClampNeg v_1) (Int32.toNatClampNeg x4)) → ∀ h11, h11 = ah_sf h10 a_0 2 ((ah_f h10 a_0 2) - 1) → ex_S yJ7_fill_fda19 mJ7_fill_fda19 (d + 1) [.ref a5, .int (4 * (ah_f h11 a_0 2)), .int ((4 * (ah_f h11 a_0 2)) + 4), .int (-1)] h11 0 0 (fun r h12 => r = none ∧ Q none h12)) ∧ ((X7_hasCrossing_V a_0 v_1 h) = 0 → Q none h))) : ex_G mX7_remove (d + 2) 0 [.ref a_0, .int v_1, .retAddr 0] [] h bc bs Q := by
  refine ex_aload_n (q := 1) (x := a_0) dX7_remove_0 rfl ?_
  refine ex_iload_n (q := 2) (x := v_1) dX7_remove_1 rfl ?_
  have s1 := w.1
  replace w := w.2
  have s2 := w.1
  replace w := w.2
  refine ex_callV (q := 5) (M := mX7_remove) (hdd := Nat.le_refl _) (mc := 0) (ms := 0) (d' := (d + 1)) (c := 7) (st := []) (bc := bc) (bs := bs) dX7_remove_2 rfl cl_X7_50 wd_602 wd_603 s1 (X7_hasCrossing_s (Q := fun r z => r = some (.int (X7_hasCrossing_V a_0 v_1 h)) ∧ z = h) s2 ⟨rfl, rfl⟩) ?_
  intro r z hrz
  rw [hrz.1, hrz.2]
  show ex_G mX7_remove (d + 2) 5 [.ref a_0, .int v_1, .retAddr 0] [.int (X7_hasCrossing_V a_0 v_1 h)] (h) bc bs Q
  refine ex_if_ne (tgt := 9) (q := 8) dX7_remove_5 (fun c3 => ?_) (fun c3 => ?_)
  · replace w := w.1 c3
    refine ex_aload_n (q := 10) (x := a_0) dX7_remove_9 rfl ?_
    refine ex_getf (q := 13) dX7_remove_10 fl_X7_24 s1 ?_
    refine ex_iconst (q := 14) (v := 1) dX7_remove_13 (by decide) ?_
    refine ex_isub (q := 15) dX7_remove_14 ?_
    refine ex_iload_n (q := 16) (x := v_1) dX7_remove_15 rfl ?_
    refine ex_isub (q := 17) dX7_remove_16 ?_
    refine ex_nmi (fun x4 ex4 => ?_)
    replace w := w x4 ex4
    refine ex_istore_n (q := 18) (ls' := [.ref a_0, .int v_1, .int x4]) dX7_remove_17 rfl ?_
    refine ex_aload_n (q := 19) (x := a_0) dX7_remove_18 rfl ?_
    obtain ⟨a5, ea5, w⟩ := w
    refine ex_getr (q := 22) dX7_remove_19 fl_X7_15 s1 ea5 ?_
    refine ex_iconst (q := 23) (v := 4) dX7_remove_22 (by decide) ?_
    refine ex_iload_n (q := 24) (x := v_1) dX7_remove_23 rfl ?_
    refine ex_imul (q := 25) dX7_remove_24 ?_
    refine ex_iconst (q := 26) (v := 4) dX7_remove_25 (by decide) ?_
    refine ex_iadd (q := 27) dX7_remove_26 ?_
    refine ex_aload_n (q := 28) (x := a_0) dX7_remove_27 rfl ?_
    refine ex_getr (q := 31) dX7_remove_28 fl_X7_15 s1 ea5 ?_
    refine ex_iconst (q := 32) (v := 4) dX7_remove_31 (by decide) ?_
    refine ex_iload_n (q := 33) (x := v_1) dX7_remove_32 rfl ?_
    refine ex_imul (q := 34) dX7_remove_33 ?_
    refine ex_iconst (q := 35) (v := 4) dX7_remove_34 (by decide) ?_
    refine ex_iload_n (q := 36) (x := x4) dX7_remove_35 rfl ?_
    refine ex_imul (q := 37) dX7_remove_36 ?_
    have s6 := w.1
    replace w := w.2
    refine ex_copyip (q := 40) (hd1 := Nat.succ_le_succ (Nat.zero_le _)) dX7_remove_37 wd_571 s6 ?_
    refine ex_nmh (fun h7 eh7 => ?_)
    replace w := w h7 eh7
    refine ex_aload_n (q := 41) (x := a_0) dX7_remove_40 rfl ?_
    obtain ⟨a8, ea8, w⟩ := w
    refine ex_getr (q := 44) dX7_remove_41 fl_X7_9 (by rw [eh7]; exact s1) ea8 ?_
    refine ex_iload_n (q := 45) (x := v_1) dX7_remove_44 rfl ?_
    refine ex_iconst (q := 46) (v := 1) dX7_remove_45 (by decide) ?_
    refine ex_iadd (q := 47) dX7_remove_46 ?_
    refine ex_aload_n (q := 48) (x := a_0) dX7_remove_47 rfl ?_
    refine ex_getr (q := 51) dX7_remove_48 fl_X7_9 (by rw [eh7]; exact s1) ea8 ?_
    refine ex_iload_n (q := 52) (x := v_1) dX7_remove_51 rfl ?_
    refine ex_iload_n (q := 53) (x := x4) dX7_remove_52 rfl ?_
    have s9 := w.1
    replace w := w.2
    refine ex_copyip (q := 56) (hd1 := Nat.succ_le_succ (Nat.zero_le _)) dX7_remove_53 wd_571 s9 ?_
    refine ex_nmh (fun h10 eh10 => ?_)
    replace w := w h10 eh10
    refine ex_aload_n (q := 57) (x := a_0) dX7_remove_56 rfl ?_
    refine ex_dup (q := 58) dX7_remove_57 rfl ?_
    refine ex_getf (q := 61) dX7_remove_58 fl_X7_24 (by rw [eh10]; exact (by rw [eh7]; exact s1)) ?_
    refine ex_iconst (q := 62) (v := 1) dX7_remove_61 (by decide) ?_
    refine ex_isub (q := 63) dX7_remove_62 ?_
    refine ex_putf (q := 66) dX7_remove_63 fl_X7_24 (Or.inl rfl) (by rw [eh10]; exact (by rw [eh7]; exact s1)) (Or.inl rfl) ?_
    refine ex_nmh (fun h11 eh11 => ?_)
    replace w := w h11 eh11
    refine ex_aload_n (q := 67) (x := a_0) dX7_remove_66 rfl ?_
    refine ex_getr (q := 70) dX7_remove_67 fl_X7_15 (by rw [eh11]; exact (by rw [eh10]; exact (by rw [eh7]; exact s1))) (by rw [eh11]; exact (by rw [eh10]; exact (by rw [eh7]; exact ea5))) ?_
    refine ex_iconst (q := 71) (v := 4) dX7_remove_70 (by decide) ?_
    refine ex_aload_n (q := 72) (x := a_0) dX7_remove_71 rfl ?_
    refine ex_getf (q := 75) dX7_remove_72 fl_X7_24 (by rw [eh11]; exact (by rw [eh10]; exact (by rw [eh7]; exact s1))) ?_
    refine ex_imul (q := 76) dX7_remove_75 ?_
    refine ex_iconst (q := 77) (v := 4) dX7_remove_76 (by decide) ?_
    refine ex_aload_n (q := 78) (x := a_0) dX7_remove_77 rfl ?_
    refine ex_getf (q := 81) dX7_remove_78 fl_X7_24 (by rw [eh11]; exact (by rw [eh10]; exact (by rw [eh7]; exact s1))) ?_
    refine ex_imul (q := 82) dX7_remove_81 ?_
    refine ex_iconst (q := 83) (v := 4) dX7_remove_82 (by decide) ?_
    refine ex_iadd (q := 84) dX7_remove_83 ?_
    refine ex_iconst (q := 85) (v := (-1)) dX7_remove_84 (by decide) ?_
    refine ex_callS (q := 88) (M := mX7_remove) (hdd := Nat.le_refl _) (st := []) (bc := bc) (bs := bs) dX7_remove_85 rfl cl_X7_54 wd_760 w ?_
    rintro r h12 ⟨rfl, w⟩
    show ex_G mX7_remove (d + 2) 88 [.ref a_0, .int v_1, .int x4] [] h12 bc bs Q
    exact ex_return dX7_remove_88 w
  · replace w := w.2 c3
    exact ex_return dX7_remove_8 w

theorem X7_remove_e {d bc bs : Nat} {h : AH} {Q : Option Value → AH → Prop} {a_0 : Nat} {v_1 : Int32} (w : ex_G mX7_remove (d + 2) 0 [.ref a_0, .int v_1, .retAddr 0] [] h bc bs Q) : ex_S yX7_remove mX7_remove (d + 2) [.ref a_0, .int v_1] h bc bs Q :=
  ex_enter (plainFor_of_name (by decide +kernel)) ⟨rfl, rfl⟩ rfl rfl (Nat.le_of_ble_eq_true rfl) (ex_pad 1 w)

set_option maxRecDepth 100000 in
theorem X7_append_0 {d bc bs : Nat} {h : AH} {Q : Option Value → AH → Prop} {a_0 : Nat} {a_1 : Nat} {a_2 : Nat} (w : ah_o h a_0 7 ∧ ∀ x2, x2 = 4 * (ah_f h a_0 2) → ah_o h a_1 7 ∧ ∀ h4, h4 = ah_sf h a_0 3 ((ah_f h a_0 3) + (ah_f h a_1 3)) → ex_G mX7_append (d + 1) 23 [.ref a_0, .ref a_1, .ref a_2, .int x2, .int 0, .retAddr 0] [] h4 bc bs Q) : ex_G mX7_append (d + 1) 0 [.ref a_0, .ref a_1, .ref a_2, .retAddr 0, .retAddr 0, .retAddr 0] [] h bc bs Q := by
  refine ex_iconst (q := 1) (v := 4) dX7_append_0 (by decide) ?_
  refine ex_aload_n (q := 2) (x := a_0) dX7_append_1 rfl ?_
  have s1 := w.1
  replace w := w.2
  refine ex_getf (q := 5) dX7_append_2 fl_X7_24 s1 ?_
  refine ex_imul (q := 6) dX7_append_5 ?_
  refine ex_nmi (fun x2 ex2 => ?_)
  replace w := w x2 ex2
  refine ex_istore_n (q := 7) (ls' := [.ref a_0, .ref a_1, .ref a_2, .int x2, .retAddr 0, .retAddr 0]) dX7_append_6 rfl ?_
  refine ex_aload_n (q := 8) (x := a_0) dX7_append_7 rfl ?_
  refine ex_dup (q := 9) dX7_append_8 rfl ?_
  refine ex_getf (q := 12) dX7_append_9 fl_X7_28 s1 ?_
  refine ex_aload_n (q := 13) (x := a_1) dX7_append_12 rfl ?_
  have s3 := w.1
  replace w := w.2
  refine ex_getf (q := 16) dX7_append_13 fl_X7_28 s3 ?_
  refine ex_iadd (q := 17) dX7_append_16 ?_
  refine ex_putf (q := 20) dX7_append_17 fl_X7_28 (Or.inl rfl) s1 (Or.inl rfl) ?_
  refine ex_nmh (fun h4 eh4 => ?_)
  replace w := w h4 eh4
  refine ex_iconst (q := 21) (v := 0) dX7_append_20 (by decide) ?_
  refine ex_istore (q := 23) (ls' := [.ref a_0, .ref a_1, .ref a_2, .int x2, .int 0, .retAddr 0]) dX7_append_21 rfl ?_
  exact w

set_option maxRecDepth 100000 in
theorem X7_append_23 {d bc bs : Nat} {h : AH} {Q : Option Value → AH → Prop} {a_0 : Nat} {a_1 : Nat} {a_2 : Nat} {v_3 : Int32} {v_4 : Int32} (w : ah_o h a_1 7 ∧ (((ah_f h a_1 2) ≤ v_4 → ex_G mX7_append (d + 1) 49 [.ref a_0, .ref a_1, .ref a_2, .int v_3, .int 0, .retAddr 0] [] h bc bs Q) ∧ (¬ (ah_f h a_1 2) ≤ v_4 → ah_o h a_0 7 ∧ ex_S yX7_add mX7_add d [.ref a_0, .int (-1), .int (-1), .int (-1), .int (-1)] h 0 0 (fun r h3 => r = none ∧ ∀ x5, x5 = v_4 + 1 → ex_G mX7_append (d + 1) 23 [.ref a_0, .ref a_1, .ref a_2, .int v_3, .int x5, .retAddr 0] [] h3 bc bs Q)))) : ex_G mX7_append (d + 1) 23 [.ref a_0, .ref a_1, .ref a_2, .int v_3, .int v_4, .retAddr 0] [] h bc bs Q := by
  refine ex_iload (q := 25) (x := v_4) dX7_append_23 rfl ?_
  refine ex_aload_n (q := 26) (x := a_1) dX7_append_25 rfl ?_
  have s1 := w.1
  replace w := w.2
  refine ex_getf (q := 29) dX7_append_26 fl_X7_24 s1 ?_
  refine ex_icmp_ge (tgt := 46) (q := 32) dX7_append_29 (fun c2 => ?_) (fun c2 => ?_)
  · replace w := w.1 c2
    refine ex_iconst (q := 47) (v := 0) dX7_append_46 (by decide) ?_
    refine ex_istore (q := 49) (ls' := [.ref a_0, .ref a_1, .ref a_2, .int v_3, .int 0, .retAddr 0]) dX7_append_47 rfl ?_
    exact w
  · replace w := w.2 c2
    refine ex_aload_n (q := 33) (x := a_0) dX7_append_32 rfl ?_
    refine ex_iconst (q := 34) (v := (-1)) dX7_append_33 (by decide) ?_
    refine ex_iconst (q := 35) (v := (-1)) dX7_append_34 (by decide) ?_
    refine ex_iconst (q := 36) (v := (-1)) dX7_append_35 (by decide) ?_
    refine ex_iconst (q := 37) (v := (-1)) dX7_append_36 (by decide) ?_
    have s4 := w.1
    replace w := w.2
    refine ex_callV (q := 40) (M := mX7_append) (hdd := Nat.le_refl _) (c := 7) (st := []) (bc := bc) (bs := bs) dX7_append_37 rfl cl_X7_57 wd_594 wd_595 s4 w ?_
    rintro r h3 ⟨rfl, w⟩
    show ex_G mX7_append (d + 1) 40 [.ref a_0, .ref a_1, .ref a_2, .int v_3, .int v_4, .retAddr 0] [] h3 bc bs Q
    obtain ⟨x5, ex5⟩ : ∃ y : Int32, y = v_4 + 1 := ⟨_, rfl⟩
    replace w := w x5 ex5
    refine ex_iinc (q := 43) (x := v_4) (v := x5) (ls' := [.ref a_0, .ref a_1, .ref a_2, .int v_3, .int x5, .retAddr 0]) dX7_append_40 rfl (by rw [ex5]; rfl) rfl ?_
    refine ex_goto (tgt := 23) dX7_append_43 ?_
    exact w

set_option maxRecDepth 100000 in
theorem X7_append_49 {d bc bs : Nat} {h : AH} {Q : Option Value → AH → Prop} {a_0 : Nat} {a_1 : Nat} {a_2 : Nat} {v_3 : Int32} {v_4 : Int32} (w : ah_o h a_1 7 ∧ (((4 * (ah_f h a_1 2)) ≤ v_4 → Q none h) ∧ (¬ (4 * (ah_f h a_1 2)) ≤ v_4 → ah_o h a_2 4 ∧ ∃ a4, ah_r h a_2 0 = some a4 ∧ ld0 h a4 v_4 ∧ ∀ x6, x6 = ah_i h a4 (Int32.toNatClampNeg v_4) → ah_o h a_0 7 ∧ ∃ a8, ah_r h a_0 1 = some a8 ∧ ((v_4 ≤ x6 → ex_S yX7_freeArc mX7_freeArc d [.ref a_0, .int (-1)] h 0 0 (fun r h10 => ∃ x11, r = some (.int x11) ∧ st0 h10 a8 (v_3 + v_4) ∧ ∀ h12, h12 = ah_si h10 a8 (Int32.toNatClampNeg (v_3 + v_4)) x11 → ∀ x14, x14 = v_4 + 1 → ex_G mX7_append (d + 1) 49 [.ref a_0, .ref a_1, .ref a_2, .int v_3, .int x14, .retAddr 0] [] h12 bc bs Q)) ∧ (¬ v_4 ≤ x6 → ld0 h a8 (v_3 + x6) ∧ st0 h a8 (v_3 + v_4) ∧ ∀ h16, h16 = ah_si h a8 (Int32.toNatClampNeg (v_3 + v_4)) (ah_i h a8 (Int32.toNatClampNeg (v_3 + x6))) → ∀ x18, x18 = v_4 + 1 → ex_G mX7_append (d + 1) 49 [.ref a_0, .ref a_1, .ref a_2, .int v_3, .int x18, .retAddr 0] [] h16 bc bs Q))))) : ex_G mX7_append (d + 1) 49 [.ref a_0, .ref a_1, .ref a_2, .int v_3, .int v_4, .retAddr 0] [] h bc bs Q := by
  refine ex_iload (q := 51) (x := v_4) dX7_append_49 rfl ?_
  refine ex_iconst (q := 52) (v := 4) dX7_append_51 (by decide) ?_
  refine ex_aload_n (q := 53) (x := a_1) dX7_append_52 rfl ?_
  have s1 := w.1
  replace w := w.2
  refine ex_getf (q := 56) dX7_append_53 fl_X7_24 s1 ?_
  refine ex_imul (q := 57) dX7_append_56 ?_
  refine ex_icmp_ge (tgt := 108) (q := 60) dX7_append_57 (fun c2 => ?_) (fun c2 => ?_)
  · replace w := w.1 c2
    exact ex_return dX7_append_108 w
  · replace w := w.2 c2
    refine ex_aload_n (q := 61) (x := a_2) dX7_append_60 rfl ?_
    have s3 := w.1
    replace w := w.2
    obtain ⟨a4, ea4, w⟩ := w
    refine ex_getr (q := 64) dX7_append_61 fl_X7_61 s3 ea4 ?_
    refine ex_iload (q := 66) (x := v_4) dX7_append_64 rfl ?_
    have s5 := w.1
    replace w := w.2
    refine ex_iald (q := 67) dX7_append_66 s5 ?_
    refine ex_nmi (fun x6 ex6 => ?_)
    replace w := w x6 ex6
    refine ex_istore (q := 69) (ls' := [.ref a_0, .ref a_1, .ref a_2, .int v_3, .int v_4, .int x6]) dX7_append_67 rfl ?_
    refine ex_aload_n (q := 70) (x := a_0) dX7_append_69 rfl ?_
    have s7 := w.1
    replace w := w.2
    obtain ⟨a8, ea8, w⟩ := w
    refine ex_getr (q := 73) dX7_append_70 fl_X7_15 s7 ea8 ?_
    refine ex_iload_n (q := 74) (x := v_3) dX7_append_73 rfl ?_
    refine ex_iload (q := 76) (x := v_4) dX7_append_74 rfl ?_
    refine ex_iadd (q := 77) dX7_append_76 ?_
    refine ex_iload (q := 79) (x := x6) dX7_append_77 rfl ?_
    refine ex_iload (q := 81) (x := v_4) dX7_append_79 rfl ?_
    refine ex_icmp_ge (tgt := 96) (q := 84) dX7_append_81 (fun c9 => ?_) (fun c9 => ?_)
    · replace w := w.1 c9
      refine ex_aload_n (q := 97) (x := a_0) dX7_append_96 rfl ?_
      refine ex_iconst (q := 98) (v := (-1)) dX7_append_97 (by decide) ?_
      refine ex_callV (q := 101) (M := mX7_append) (hdd := Nat.le_refl _) (c := 7) (st := [.int (v_3 + v_4), .ref a8]) (bc := bc) (bs := bs) dX7_append_98 rfl cl_X7_66 wd_743 wd_744 s7 w ?_
      rintro r h10 ⟨x11, rfl, w⟩
      show ex_G mX7_append (d + 1) 101 [.ref a_0, .ref a_1, .ref a_2, .int v_3, .int v_4, .int x6] [.int x11, .int (v_3 + v_4), .ref a8] h10 bc bs Q
      have s13 := w.1
      replace w := w.2
      refine ex_iast (q := 102) dX7_append_101 s13 ?_
      refine ex_nmh (fun h12 eh12 => ?_)
      replace w := w h12 eh12
      obtain ⟨x14, ex14⟩ : ∃ y : Int32, y = v_4 + 1 := ⟨_, rfl⟩
      replace w := w x14 ex14
      refine ex_iinc (q := 105) (x := v_4) (v := x14) (ls' := [.ref a_0, .ref a_1, .ref a_2, .int v_3, .int x14, .int x6]) dX7_append_102 rfl (by rw [ex14]; rfl) rfl ?_
      refine ex_goto (tgt := 49) dX7_append_105 ?_
      refine ex_kill 5 (ls' := [.ref a_0, .ref a_1, .ref a_2, .int v_3, .int x14, .retAddr 0]) rfl ?_
      exact w
    · replace w := w.2 c9
      refine ex_aload_n (q := 85) (x := a_0) dX7_append_84 rfl ?_
      refine ex_getr (q := 88) dX7_append_85 fl_X7_15 s7 ea8 ?_
      refine ex_iload_n (q := 89) (x := v_3) dX7_append_88 rfl ?_
      refine ex_iload (q := 91) (x := x6) dX7_append_89 rfl ?_
      refine ex_iadd (q := 92) dX7_append_91 ?_
      have s15 := w.1
      replace w := w.2
      refine ex_iald (q := 93) dX7_append_92 s15 ?_
      refine ex_goto (tgt := 101) dX7_append_93 ?_
      have s17 := w.1
      replace w := w.2
      refine ex_iast (q := 102) dX7_append_101 s17 ?_
      refine ex_nmh (fun h16 eh16 => ?_)
      replace w := w h16 eh16
      obtain ⟨x18, ex18⟩ : ∃ y : Int32, y = v_4 + 1 := ⟨_, rfl⟩
      replace w := w x18 ex18
      refine ex_iinc (q := 105) (x := v_4) (v := x18) (ls' := [.ref a_0, .ref a_1, .ref a_2, .int v_3, .int x18, .int x6]) dX7_append_102 rfl (by rw [ex18]; rfl) rfl ?_
      refine ex_goto (tgt := 49) dX7_append_105 ?_
      refine ex_kill 5 (ls' := [.ref a_0, .ref a_1, .ref a_2, .int v_3, .int x18, .retAddr 0]) rfl ?_
      exact w

theorem X7_append_e {d bc bs : Nat} {h : AH} {Q : Option Value → AH → Prop} {a_0 : Nat} {a_1 : Nat} {a_2 : Nat} (w : ex_G mX7_append (d + 1) 0 [.ref a_0, .ref a_1, .ref a_2, .retAddr 0, .retAddr 0, .retAddr 0] [] h bc bs Q) : ex_S yX7_append mX7_append (d + 1) [.ref a_0, .ref a_1, .ref a_2] h bc bs Q :=
  ex_enter (plainFor_of_name (by decide +kernel)) ⟨rfl, rfl⟩ rfl rfl (Nat.le_of_ble_eq_true rfl) (ex_pad 3 w)

set_option maxRecDepth 100000 in
theorem X7_remember_0 {d bc bs : Nat} {h : AH} {Q : Option Value → AH → Prop} {a_0 : Nat} (w : ah_o h a_0 7 ∧ ((∀ a3, ah_r h a_0 4 = some a3 → ex_G mX7_remember (d + 1) 16 [.ref a_0, .retAddr 0] [] h (bc + 1) (bs + 1620) Q) ∧ (ah_r h a_0 4 = none → ah_n h < 10000000 ∧ ∀ h5, h5 = ah_na h 0 1620 → ah_o h5 a_0 7 ∧ ∀ h7, h7 = ah_sr h5 a_0 4 (some (ah_n h)) → ex_G mX7_remember (d + 1) 16 [.ref a_0, .retAddr 0] [] h7 bc bs Q))) : ex_G mX7_remember (d + 1) 0 [.ref a_0, .retAddr 0] [] h (bc + 1) (bs + 1620) Q := by
  refine ex_aload_n (q := 1) (x := a_0) dX7_remember_0 rfl ?_
  have s1 := w.1
  replace w := w.2
  refine ex_getq (q := 4) dX7_remember_1 fl_X7_70 s1 ?_
  refine ex_ifnonnull (tgt := 16) (q := 7) dX7_remember_4 (fun a3 c2 => ?_) (fun c2 => ?_)
  · replace w := w.1 a3 c2
    exact w
  · replace w := w.2 c2
    refine ex_aload_n (q := 8) (x := a_0) dX7_remember_7 rfl ?_
    refine ex_sipush (q := 11) (v := 1620) dX7_remember_8 (by decide) ?_
    have s4 := w.1
    replace w := w.2
    refine ex_G.room (bc' := bc + 1) (bs' := bs + 1620) (Nat.le_refl _) (Nat.le_refl _) (Nat.le_refl _) ?_
    refine ex_newarray (q := 13) (t := 0) (N := 1620) (M := mX7_remember) dX7_remember_11 rfl (by decide) wd_161 rfl (by decide) s4 ?_
    refine ex_nmh (fun h5 eh5 => ?_)
    replace w := w h5 eh5
    have s6 := w.1
    replace w := w.2
    refine ex_putr (q := 16) dX7_remember_13 fl_X7_70 (Or.inl rfl) s6 ?_
    refine ex_nmh (fun h7 eh7 => ?_)
    replace w := w h7 eh7
    exact w

set_option maxRecDepth 100000 in
theorem X7_remember_16 {d bc bs : Nat} {h : AH} {Q : Option Value → AH → Prop} {a_0 : Nat} (w : ah_o h a_0 7 ∧ ∀ x2, x2 = (ah_f h a_0 6) * 162 → ∃ a3, ah_r h a_0 4 = some a3 ∧ st0 h a3 x2 ∧ ∀ h4, h4 = ah_si h a3 (Int32.toNatClampNeg x2) (ah_f h a_0 2) → st0 h4 a3 (x2 + 1) ∧ ∀ h6, h6 = ah_si h4 a3 (Int32.toNatClampNeg (x2 + 1)) (ah_f h4 a_0 3) → ∃ a8, ah_r h6 a_0 1 = some a8 ∧ cp_ h6 0 a8 a3 0 (x2 + 2) 160 ∧ ∀ h10, h10 = ah_wi h6 a3 (va_cpy (ah_i h6 a8) (ah_i h6 a3) (Int32.toNatClampNeg 0) (Int32.toNatClampNeg (x2 + 2)) (Int32.toNatClampNeg 160)) → ∀ h11, h11 = ah_sf h10 a_0 6 (im_ ((ah_f h10 a_0 6) + 1) 10) → ∀ h12, h12 = ah_sf h11 a_0 5 (J9_min_7cf53_V ((ah_f h11 a_0 5) + 1) 10 h11) → Q none h12) : ex_G mX7_remember (d + 1) 16 [.ref a_0, .retAddr 0] [] h bc bs Q := by
  refine ex_aload_n (q := 17) (x := a_0) dX7_remember_16 rfl ?_
  have s1 := w.1
  replace w := w.2
  refine ex_getf (q := 20) dX7_remember_17 fl_X7_73 s1 ?_
  refine ex_sipush (q := 23) (v := 162) dX7_remember_20 (by decide) ?_
  refine ex_imul (q := 24) dX7_remember_23 ?_
  refine ex_nmi (fun x2 ex2 => ?_)
  replace w := w x2 ex2
  refine ex_istore_n (q := 25) (ls' := [.ref a_0, .int x2]) dX7_remember_24 rfl ?_
  refine ex_aload_n (q := 26) (x := a_0) dX7_remember_25 rfl ?_
  obtain ⟨a3, ea3, w⟩ := w
  refine ex_getr (q := 29) dX7_remember_26 fl_X7_70 s1 ea3 ?_
  refine ex_iload_n (q := 30) (x := x2) dX7_remember_29 rfl ?_
  refine ex_aload_n (q := 31) (x := a_0) dX7_remember_30 rfl ?_
  refine ex_getf (q := 34) dX7_remember_31 fl_X7_24 s1 ?_
  have s5 := w.1
  replace w := w.2
  refine ex_iast (q := 35) dX7_remember_34 s5 ?_
  refine ex_nmh (fun h4 eh4 => ?_)
  replace w := w h4 eh4
  refine ex_aload_n (q := 36) (x := a_0) dX7_remember_35 rfl ?_
  refine ex_getr (q := 39) dX7_remember_36 fl_X7_70 (by rw [eh4]; exact s1) (by rw [eh4]; exact ea3) ?_
  refine ex_iload_n (q := 40) (x := x2) dX7_remember_39 rfl ?_
  refine ex_iconst (q := 41) (v := 1) dX7_remember_40 (by decide) ?_
  refine ex_iadd (q := 42) dX7_remember_41 ?_
  refine ex_aload_n (q := 43) (x := a_0) dX7_remember_42 rfl ?_
  refine ex_getf (q := 46) dX7_remember_43 fl_X7_28 (by rw [eh4]; exact s1) ?_
  have s7 := w.1
  replace w := w.2
  refine ex_iast (q := 47) dX7_remember_46 s7 ?_
  refine ex_nmh (fun h6 eh6 => ?_)
  replace w := w h6 eh6
  refine ex_aload_n (q := 48) (x := a_0) dX7_remember_47 rfl ?_
  obtain ⟨a8, ea8, w⟩ := w
  refine ex_getr (q := 51) dX7_remember_48 fl_X7_15 (by rw [eh6]; exact (by rw [eh4]; exact s1)) ea8 ?_
  refine ex_iconst (q := 52) (v := 0) dX7_remember_51 (by decide) ?_
  refine ex_aload_n (q := 53) (x := a_0) dX7_remember_52 rfl ?_
  refine ex_getr (q := 56) dX7_remember_53 fl_X7_70 (by rw [eh6]; exact (by rw [eh4]; exact s1)) (by rw [eh6]; exact (by rw [eh4]; exact ea3)) ?_
  refine ex_iload_n (q := 57) (x := x2) dX7_remember_56 rfl ?_
  refine ex_iconst (q := 58) (v := 2) dX7_remember_57 (by decide) ?_
  refine ex_iadd (q := 59) dX7_remember_58 ?_
  refine ex_sipush (q := 62) (v := 160) dX7_remember_59 (by decide) ?_
  have s9 := w.1
  replace w := w.2
  refine ex_copyip (q := 65) (hd1 := Nat.succ_le_succ (Nat.zero_le _)) dX7_remember_62 wd_571 s9 ?_
  refine ex_nmh (fun h10 eh10 => ?_)
  replace w := w h10 eh10
  refine ex_aload_n (q := 66) (x := a_0) dX7_remember_65 rfl ?_
  refine ex_aload_n (q := 67) (x := a_0) dX7_remember_66 rfl ?_
  refine ex_getf (q := 70) dX7_remember_67 fl_X7_73 (by rw [eh10]; exact (by rw [eh6]; exact (by rw [eh4]; exact s1))) ?_
  refine ex_iconst (q := 71) (v := 1) dX7_remember_70 (by decide) ?_
  refine ex_iadd (q := 72) dX7_remember_71 ?_
  refine ex_bipush (q := 74) (v := 10) dX7_remember_72 (by decide) ?_
  refine ex_irem (q := 75) dX7_remember_74 (by decide) ?_
  refine ex_putf (q := 78) dX7_remember_75 fl_X7_73 (Or.inl rfl) (by rw [eh10]; exact (by rw [eh6]; exact (by rw [eh4]; exact s1))) (Or.inl rfl) ?_
  refine ex_nmh (fun h11 eh11 => ?_)
  replace w := w h11 eh11
  refine ex_aload_n (q := 79) (x := a_0) dX7_remember_78 rfl ?_
  refine ex_aload_n (q := 80) (x := a_0) dX7_remember_79 rfl ?_
  refine ex_getf (q := 83) dX7_remember_80 fl_X7_76 (by rw [eh11]; exact (by rw [eh10]; exact (by rw [eh6]; exact (by rw [eh4]; exact s1)))) ?_
  refine ex_iconst (q := 84) (v := 1) dX7_remember_83 (by decide) ?_
  refine ex_iadd (q := 85) dX7_remember_84 ?_
  refine ex_bipush (q := 87) (v := 10) dX7_remember_85 (by decide) ?_
  refine ex_callS (q := 90) (M := mX7_remember) (hdd := Nat.le_refl _) (mc := 0) (ms := 0) (d' := d) (st := [.ref a_0]) (bc := bc) (bs := bs) dX7_remember_87 rfl cl_X7_79 wd_710 (J9_min_7cf53_s (Q := fun r z => r = some (.int (J9_min_7cf53_V ((ah_f h11 a_0 5) + 1) 10 h11)) ∧ z = h11) ⟨rfl, rfl⟩) ?_
  intro r z hrz
  rw [hrz.1, hrz.2]
  show ex_G mX7_remember (d + 1) 90 [.ref a_0, .int x2] [.int (J9_min_7cf53_V ((ah_f h11 a_0 5) + 1) 10 h11), .ref a_0] (h11) bc bs Q
  refine ex_putf (q := 93) dX7_remember_90 fl_X7_76 (Or.inl rfl) (by rw [eh11]; exact (by rw [eh10]; exact (by rw [eh6]; exact (by rw [eh4]; exact s1)))) (Or.inl rfl) ?_
  refine ex_nmh (fun h12 eh12 => ?_)
  replace w := w h12 eh12
  exact ex_return dX7_remember_93 w

theorem X7_remember_e {d bc bs : Nat} {h : AH} {Q : Option Value → AH → Prop} {a_0 : Nat} (w : ex_G mX7_remember (d + 1) 0 [.ref a_0, .retAddr 0] [] h bc bs Q) : ex_S yX7_remember mX7_remember (d + 1) [.ref a_0] h bc bs Q :=
  ex_enter (plainFor_of_name (by decide +kernel)) ⟨rfl, rfl⟩ rfl rfl (Nat.le_of_ble_eq_true rfl) (ex_pad 1 w)

set_option maxRecDepth 100000 in
theorem X7_goBack_0 {d bc bs : Nat} {h : AH} {Q : Option Value → AH → Prop} {a_0 : Nat} (w : ah_o h a_0 7 ∧ ((ah_r h a_0 4 = none → Q (some (.int 0)) h) ∧ (∀ a3, ah_r h a_0 4 = some a3 → ((1 ≤ (ah_f h a_0 5) → ∀ h5, h5 = ah_sf h a_0 6 (im_ (((ah_f h a_0 6) + 10) - 1) 10) → ∀ h6, h6 = ah_sf h5 a_0 5 ((ah_f h5 a_0 5) - 1) → ∀ x7, x7 = (ah_f h6 a_0 6) * 162 → ∃ a8, ah_r h6 a_0 4 = some a8 ∧ ld0 h6 a8 x7 ∧ ∀ h10, h10 = ah_sf h6 a_0 2 (ah_i h6 a8 (Int32.toNatClampNeg x7)) → ld0 h10 a8 (x7 + 1) ∧ ∀ h12, h12 = ah_sf h10 a_0 3 (ah_i h10 a8 (Int32.toNatClampNeg (x7 + 1))) → ∃ a13, ah_r h12 a_0 1 = some a13 ∧ cp_ h12 0 a8 a13 (x7 + 2) 0 160 ∧ ∀ h15, h15 = ah_wi h12 a13 (va_cpy (ah_i h12 a8) (ah_i h12 a13) (Int32.toNatClampNeg (x7 + 2)) (Int32.toNatClampNeg 0) (Int32.toNatClampNeg 160)) → ∃ a16, ah_r h15 a_0 0 = some a16 ∧ ex_S yJ7_fill_fda19 mJ7_fill_fda19 (d + 1) [.ref a16, .int 0, .int (ah_f h15 a_0 2), .int 4] h15 0 0 (fun r h17 => r = none ∧ Q (some (.int 1)) h17)) ∧ (¬ 1 ≤ (ah_f h a_0 5) → Q (some (.int 0)) h))))) : ex_G mX7_goBack (d + 2) 0 [.ref a_0, .retAddr 0] [] h bc bs Q := by
  refine ex_aload_n (q := 1) (x := a_0) dX7_goBack_0 rfl ?_
  have s1 := w.1
  replace w := w.2
  refine ex_getq (q := 4) dX7_goBack_1 fl_X7_70 s1 ?_
  refine ex_ifnull (tgt := 15) (q := 7) dX7_goBack_4 (fun c2 => ?_) (fun a3 c2 => ?_)
  · replace w := w.1 c2
    refine ex_iconst (q := 16) (v := 0) dX7_goBack_15 (by decide) ?_
    exact ex_ireturn dX7_goBack_16 rfl (Or.inr ⟨rfl, Or.inl rfl⟩) w
  · replace w := w.2 a3 c2
    refine ex_aload_n (q := 8) (x := a_0) dX7_goBack_7 rfl ?_
    refine ex_getf (q := 11) dX7_goBack_8 fl_X7_76 s1 ?_
    refine ex_iconst (q := 12) (v := 1) dX7_goBack_11 (by decide) ?_
    refine ex_icmp_ge (tgt := 17) (q := 15) dX7_goBack_12 (fun c4 => ?_) (fun c4 => ?_)
    · replace w := w.1 c4
      refine ex_aload_n (q := 18) (x := a_0) dX7_goBack_17 rfl ?_
      refine ex_aload_n (q := 19) (x := a_0) dX7_goBack_18 rfl ?_
      refine ex_getf (q := 22) dX7_goBack_19 fl_X7_73 s1 ?_
      refine ex_bipush (q := 24) (v := 10) dX7_goBack_22 (by decide) ?_
      refine ex_iadd (q := 25) dX7_goBack_24 ?_
      refine ex_iconst (q := 26) (v := 1) dX7_goBack_25 (by decide) ?_
      refine ex_isub (q := 27) dX7_goBack_26 ?_
      refine ex_bipush (q := 29) (v := 10) dX7_goBack_27 (by decide) ?_
      refine ex_irem (q := 30) dX7_goBack_29 (by decide) ?_
      refine ex_putf (q := 33) dX7_goBack_30 fl_X7_73 (Or.inl rfl) s1 (Or.inl rfl) ?_
      refine ex_nmh (fun h5 eh5 => ?_)
      replace w := w h5 eh5
      refine ex_aload_n (q := 34) (x := a_0) dX7_goBack_33 rfl ?_
      refine ex_dup (q := 35) dX7_goBack_34 rfl ?_
      refine ex_getf (q := 38) dX7_goBack_35 fl_X7_76 (by rw [eh5]; exact s1) ?_
      refine ex_iconst (q := 39) (v := 1) dX7_goBack_38 (by decide) ?_
      refine ex_isub (q := 40) dX7_goBack_39 ?_
      refine ex_putf (q := 43) dX7_goBack_40 fl_X7_76 (Or.inl rfl) (by rw [eh5]; exact s1) (Or.inl rfl) ?_
      refine ex_nmh (fun h6 eh6 => ?_)
      replace w := w h6 eh6
      refine ex_aload_n (q := 44) (x := a_0) dX7_goBack_43 rfl ?_
      refine ex_getf (q := 47) dX7_goBack_44 fl_X7_73 (by rw [eh6]; exact (by rw [eh5]; exact s1)) ?_
      refine ex_sipush (q := 50) (v := 162) dX7_goBack_47 (by decide) ?_
      refine ex_imul (q := 51) dX7_goBack_50 ?_
      refine ex_nmi (fun x7 ex7 => ?_)
      replace w := w x7 ex7
      refine ex_istore_n (q := 52) (ls' := [.ref a_0, .int x7]) dX7_goBack_51 rfl ?_
      refine ex_aload_n (q := 53) (x := a_0) dX7_goBack_52 rfl ?_
      refine ex_aload_n (q := 54) (x := a_0) dX7_goBack_53 rfl ?_
      obtain ⟨a8, ea8, w⟩ := w
      refine ex_getr (q := 57) dX7_goBack_54 fl_X7_70 (by rw [eh6]; exact (by rw [eh5]; exact s1)) ea8 ?_
      refine ex_iload_n (q := 58) (x := x7) dX7_goBack_57 rfl ?_
      have s9 := w.1
      replace w := w.2
      refine ex_iald (q := 59) dX7_goBack_58 s9 ?_
      refine ex_putf (q := 62) dX7_goBack_59 fl_X7_24 (Or.inl rfl) (by rw [eh6]; exact (by rw [eh5]; exact s1)) (Or.inl rfl) ?_
      refine ex_nmh (fun h10 eh10 => ?_)
      replace w := w h10 eh10
      refine ex_aload_n (q := 63) (x := a_0) dX7_goBack_62 rfl ?_
      refine ex_aload_n (q := 64) (x := a_0) dX7_goBack_63 rfl ?_
      refine ex_getr (q := 67) dX7_goBack_64 fl_X7_70 (by rw [eh10]; exact (by rw [eh6]; exact (by rw [eh5]; exact s1))) (by rw [eh10]; exact ea8) ?_
      refine ex_iload_n (q := 68) (x := x7) dX7_goBack_67 rfl ?_
      refine ex_iconst (q := 69) (v := 1) dX7_goBack_68 (by decide) ?_
      refine ex_iadd (q := 70) dX7_goBack_69 ?_
      have s11 := w.1
      replace w := w.2
      refine ex_iald (q := 71) dX7_goBack_70 s11 ?_
      refine ex_putf (q := 74) dX7_goBack_71 fl_X7_28 (Or.inl rfl) (by rw [eh10]; exact (by rw [eh6]; exact (by rw [eh5]; exact s1))) (Or.inl rfl) ?_
      refine ex_nmh (fun h12 eh12 => ?_)
      replace w := w h12 eh12
      refine ex_aload_n (q := 75) (x := a_0) dX7_goBack_74 rfl ?_
      refine ex_getr (q := 78) dX7_goBack_75 fl_X7_70 (by rw [eh12]; exact (by rw [eh10]; exact (by rw [eh6]; exact (by rw [eh5]; exact s1)))) (by rw [eh12]; exact (by rw [eh10]; exact ea8)) ?_
      refine ex_iload_n (q := 79) (x := x7) dX7_goBack_78 rfl ?_
      refine ex_iconst (q := 80) (v := 2) dX7_goBack_79 (by decide) ?_
      refine ex_iadd (q := 81) dX7_goBack_80 ?_
      refine ex_aload_n (q := 82) (x := a_0) dX7_goBack_81 rfl ?_
      obtain ⟨a13, ea13, w⟩ := w
      refine ex_getr (q := 85) dX7_goBack_82 fl_X7_15 (by rw [eh12]; exact (by rw [eh10]; exact (by rw [eh6]; exact (by rw [eh5]; exact s1)))) ea13 ?_
      refine ex_iconst (q := 86) (v := 0) dX7_goBack_85 (by decide) ?_
      refine ex_sipush (q := 89) (v := 160) dX7_goBack_86 (by decide) ?_
      have s14 := w.1
      replace w := w.2
      refine ex_copyip (q := 92) (hd1 := Nat.succ_le_succ (Nat.zero_le _)) dX7_goBack_89 wd_571 s14 ?_
      refine ex_nmh (fun h15 eh15 => ?_)
      replace w := w h15 eh15
      refine ex_aload_n (q := 93) (x := a_0) dX7_goBack_92 rfl ?_
      obtain ⟨a16, ea16, w⟩ := w
      refine ex_getr (q := 96) dX7_goBack_93 fl_X7_9 (by rw [eh15]; exact (by rw [eh12]; exact (by rw [eh10]; exact (by rw [eh6]; exact (by rw [eh5]; exact s1))))) ea16 ?_
      refine ex_iconst (q := 97) (v := 0) dX7_goBack_96 (by decide) ?_
      refine ex_aload_n (q := 98) (x := a_0) dX7_goBack_97 rfl ?_
      refine ex_getf (q := 101) dX7_goBack_98 fl_X7_24 (by rw [eh15]; exact (by rw [eh12]; exact (by rw [eh10]; exact (by rw [eh6]; exact (by rw [eh5]; exact s1))))) ?_
      refine ex_iconst (q := 102) (v := 4) dX7_goBack_101 (by decide) ?_
      refine ex_callS (q := 105) (M := mX7_goBack) (hdd := Nat.le_refl _) (st := []) (bc := bc) (bs := bs) dX7_goBack_102 rfl cl_X7_54 wd_760 w ?_
      rintro r h17 ⟨rfl, w⟩
      show ex_G mX7_goBack (d + 2) 105 [.ref a_0, .int x7] [] h17 bc bs Q
      refine ex_iconst (q := 106) (v := 1) dX7_goBack_105 (by decide) ?_
      exact ex_ireturn dX7_goBack_106 rfl (Or.inr ⟨rfl, Or.inr rfl⟩) w
    · replace w := w.2 c4
      refine ex_iconst (q := 16) (v := 0) dX7_goBack_15 (by decide) ?_
      exact ex_ireturn dX7_goBack_16 rfl (Or.inr ⟨rfl, Or.inl rfl⟩) w

theorem X7_goBack_e {d bc bs : Nat} {h : AH} {Q : Option Value → AH → Prop} {a_0 : Nat} (w : ex_G mX7_goBack (d + 2) 0 [.ref a_0, .retAddr 0] [] h bc bs Q) : ex_S yX7_goBack mX7_goBack (d + 2) [.ref a_0] h bc bs Q :=
  ex_enter (plainFor_of_name (by decide +kernel)) ⟨rfl, rfl⟩ rfl rfl (Nat.le_of_ble_eq_true rfl) (ex_pad 1 w)

set_option maxRecDepth 100000 in
theorem X7_draw_0 {d bc bs : Nat} {h : AH} {Q : Option Value → AH → Prop} {a_0 : Nat} {a_1 : Nat} (w : ex_S yX7_countPasses mX7_countPasses (d + 1) [.ref a_1] h 0 0 (fun r h1 => ∃ x2, r = some (.int x2) ∧ ((x2 < 0 → Q (some (.int 0)) h1) ∧ (¬ x2 < 0 → ((x2 ≤ 80 → ah_o h1 a_0 7 ∧ ex_S yX7_empty mX7_empty (d + 1) [.ref a_0] h1 0 0 (fun r h5 => r = none ∧ ah_o h5 a_1 6 ∧ ∃ a8, ah_r h5 a_1 0 = some a8 ∧ ld0 h5 a8 ((ah_f h5 a_1 1) - 1) ∧ ah_o h5 a_0 7 ∧ ∀ h11, h11 = ah_sf h5 a_0 3 ((-2) - (ah_i h5 a8 (Int32.toNatClampNeg ((ah_f h5 a_1 1) - 1)))) → ex_G mX7_draw (d + 2) 41 [.ref a_0, .ref a_1, .int x2, .int 0, .retAddr 0, .retAddr 0, .retAddr 0] [] h11 bc bs Q)) ∧ (¬ x2 ≤ 80 → Q (some (.int 0)) h1)))))) : ex_G mX7_draw (d + 2) 0 [.ref a_0, .ref a_1, .retAddr 0, .retAddr 0, .retAddr 0, .retAddr 0, .retAddr 0] [] h bc bs Q := by
  refine ex_aload_n (q := 1) (x := a_1) dX7_draw_0 rfl ?_
  refine ex_callS (q := 4) (M := mX7_draw) (hdd := Nat.le_refl _) (st := []) (bc := bc) (bs := bs) dX7_draw_1 rfl cl_X7_82 wd_971 w ?_
  rintro r h1 ⟨x2, rfl, w⟩
  show ex_G mX7_draw (d + 2) 4 [.ref a_0, .ref a_1, .retAddr 0, .retAddr 0, .retAddr 0, .retAddr 0, .retAddr 0] [.int x2] h1 bc bs Q
  refine ex_istore_n (q := 5) (ls' := [.ref a_0, .ref a_1, .int x2, .retAddr 0, .retAddr 0, .retAddr 0, .retAddr 0]) dX7_draw_4 rfl ?_
  refine ex_iload_n (q := 6) (x := x2) dX7_draw_5 rfl ?_
  refine ex_if_lt (tgt := 15) (q := 9) dX7_draw_6 (fun c3 => ?_) (fun c3 => ?_)
  · replace w := w.1 c3
    refine ex_iconst (q := 16) (v := 0) dX7_draw_15 (by decide) ?_
    exact ex_ireturn dX7_draw_16 rfl (Or.inr ⟨rfl, Or.inl rfl⟩) w
  · replace w := w.2 c3
    refine ex_iload_n (q := 10) (x := x2) dX7_draw_9 rfl ?_
    refine ex_bipush (q := 12) (v := 80) dX7_draw_10 (by decide) ?_
    refine ex_icmp_le (tgt := 17) (q := 15) dX7_draw_12 (fun c4 => ?_) (fun c4 => ?_)
    · replace w := w.1 c4
      refine ex_aload_n (q := 18) (x := a_0) dX7_draw_17 rfl ?_
      have s6 := w.1
      replace w := w.2
      refine ex_callV (q := 21) (M := mX7_draw) (hdd := Nat.le_refl _) (c := 7) (st := []) (bc := bc) (bs := bs) dX7_draw_18 rfl cl_X7_86 wd_560 wd_561 s6 w ?_
      rintro r h5 ⟨rfl, w⟩
      show ex_G mX7_draw (d + 2) 21 [.ref a_0, .ref a_1, .int x2, .retAddr 0, .retAddr 0, .retAddr 0, .retAddr 0] [] h5 bc bs Q
      refine ex_aload_n (q := 22) (x := a_0) dX7_draw_21 rfl ?_
      refine ex_bipush (q := 24) (v := (-2)) dX7_draw_22 (by decide) ?_
      refine ex_aload_n (q := 25) (x := a_1) dX7_draw_24 rfl ?_
      have s7 := w.1
      replace w := w.2
      obtain ⟨a8, ea8, w⟩ := w
      refine ex_getr (q := 28) dX7_draw_25 fl_X7_89 s7 ea8 ?_
      refine ex_aload_n (q := 29) (x := a_1) dX7_draw_28 rfl ?_
      refine ex_getf (q := 32) dX7_draw_29 fl_X7_94 s7 ?_
      refine ex_iconst (q := 33) (v := 1) dX7_draw_32 (by decide) ?_
      refine ex_isub (q := 34) dX7_draw_33 ?_
      have s9 := w.1
      replace w := w.2
      refine ex_iald (q := 35) dX7_draw_34 s9 ?_
      refine ex_isub (q := 36) dX7_draw_35 ?_
      have s10 := w.1
      replace w := w.2
      refine ex_putf (q := 39) dX7_draw_36 fl_X7_28 (Or.inl rfl) s10 (Or.inl rfl) ?_
      refine ex_nmh (fun h11 eh11 => ?_)
      replace w := w h11 eh11
      refine ex_iconst (q := 40) (v := 0) dX7_draw_39 (by decide) ?_
      refine ex_istore_n (q := 41) (ls' := [.ref a_0, .ref a_1, .int x2, .int 0, .retAddr 0, .retAddr 0, .retAddr 0]) dX7_draw_40 rfl ?_
      exact w
    · replace w := w.2 c4
      refine ex_iconst (q := 16) (v := 0) dX7_draw_15 (by decide) ?_
      exact ex_ireturn dX7_draw_16 rfl (Or.inr ⟨rfl, Or.inl rfl⟩) w

set_option maxRecDepth 100000 in
theorem X7_draw_41 {d bc bs : Nat} {h : AH} {Q : Option Value → AH → Prop} {a_0 : Nat} {a_1 : Nat} {v_2 : Int32} {v_3 : Int32} (w : (((v_2 / 2) ≤ v_3 → ex_G mX7_draw (d + 2) 70 [.ref a_0, .ref a_1, .retAddr 0, .int 0, .int 0, .int 0, .retAddr 0] [] h bc bs Q) ∧ (¬ (v_2 / 2) ≤ v_3 → ah_o h a_0 7 ∧ ex_S yX7_add mX7_add (d + 1) [.ref a_0, .int (-1), .int (-1), .int (-1), .int (-1)] h 0 0 (fun r h2 => r = none ∧ ∀ x4, x4 = v_3 + 1 → ex_G mX7_draw (d + 2) 41 [.ref a_0, .ref a_1, .int v_2, .int x4, .retAddr 0, .retAddr 0, .retAddr 0] [] h2 bc bs Q)))) : ex_G mX7_draw (d + 2) 41 [.ref a_0, .ref a_1, .int v_2, .int v_3, .retAddr 0, .retAddr 0, .retAddr 0] [] h bc bs Q := by
  refine ex_iload_n (q := 42) (x := v_3) dX7_draw_41 rfl ?_
  refine ex_iload_n (q := 43) (x := v_2) dX7_draw_42 rfl ?_
  refine ex_iconst (q := 44) (v := 2) dX7_draw_43 (by decide) ?_
  refine ex_idiv (q := 45) dX7_draw_44 (by decide) ?_
  refine ex_icmp_ge (tgt := 62) (q := 48) dX7_draw_45 (fun c1 => ?_) (fun c1 => ?_)
  · replace w := w.1 c1
    refine ex_iconst (q := 63) (v := 0) dX7_draw_62 (by decide) ?_
    refine ex_istore_n (q := 64) (ls' := [.ref a_0, .ref a_1, .int v_2, .int 0, .retAddr 0, .retAddr 0, .retAddr 0]) dX7_draw_63 rfl ?_
    refine ex_iconst (q := 65) (v := 0) dX7_draw_64 (by decide) ?_
    refine ex_istore (q := 67) (ls' := [.ref a_0, .ref a_1, .int v_2, .int 0, .int 0, .retAddr 0, .retAddr 0]) dX7_draw_65 rfl ?_
    refine ex_iconst (q := 68) (v := 0) dX7_draw_67 (by decide) ?_
    refine ex_istore (q := 70) (ls' := [.ref a_0, .ref a_1, .int v_2, .int 0, .int 0, .int 0, .retAddr 0]) dX7_draw_68 rfl ?_
    refine ex_kill 2 (ls' := [.ref a_0, .ref a_1, .retAddr 0, .int 0, .int 0, .int 0, .retAddr 0]) rfl ?_
    exact w
  · replace w := w.2 c1
    refine ex_aload_n (q := 49) (x := a_0) dX7_draw_48 rfl ?_
    refine ex_iconst (q := 50) (v := (-1)) dX7_draw_49 (by decide) ?_
    refine ex_iconst (q := 51) (v := (-1)) dX7_draw_50 (by decide) ?_
    refine ex_iconst (q := 52) (v := (-1)) dX7_draw_51 (by decide) ?_
    refine ex_iconst (q := 53) (v := (-1)) dX7_draw_52 (by decide) ?_
    have s3 := w.1
    replace w := w.2
    refine ex_callV (q := 56) (M := mX7_draw) (hdd := Nat.le_refl _) (c := 7) (st := []) (bc := bc) (bs := bs) dX7_draw_53 rfl cl_X7_57 wd_594 wd_595 s3 w ?_
    rintro r h2 ⟨rfl, w⟩
    show ex_G mX7_draw (d + 2) 56 [.ref a_0, .ref a_1, .int v_2, .int v_3, .retAddr 0, .retAddr 0, .retAddr 0] [] h2 bc bs Q
    obtain ⟨x4, ex4⟩ : ∃ y : Int32, y = v_3 + 1 := ⟨_, rfl⟩
    replace w := w x4 ex4
    refine ex_iinc (q := 59) (x := v_3) (v := x4) (ls' := [.ref a_0, .ref a_1, .int v_2, .int x4, .retAddr 0, .retAddr 0, .retAddr 0]) dX7_draw_56 rfl (by rw [ex4]; rfl) rfl ?_
    refine ex_goto (tgt := 41) dX7_draw_59 ?_
    exact w

set_option maxRecDepth 100000 in
theorem X7_draw_70 {d bc bs : Nat} {h : AH} {Q : Option Value → AH → Prop} {a_0 : Nat} {a_1 : Nat} {v_3 : Int32} {v_4 : Int32} {v_5 : Int32} (w : ah_o h a_1 6 ∧ ((((ah_f h a_1 1) - 1) ≤ v_5 → Q (some (.int 1)) h) ∧ (¬ ((ah_f h a_1 1) - 1) ≤ v_5 → ∃ a3, ah_r h a_1 0 = some a3 ∧ ld0 h a3 v_5 ∧ ∀ x5, x5 = ah_i h a3 (Int32.toNatClampNeg v_5) → ((0 ≤ x5 → ex_S yX6_holds mX6_holds (d + 1) [.ref a_1, .int (x5 ^^^ 2)] h 0 0 (fun r h7 => ∃ x8, r = some (.int x8) ∧ ((x8 = 0 → Q (some (.int 0)) h7) ∧ (¬ x8 = 0 → ((¬ v_3 = v_4 → ex_G mX7_draw (d + 2) 150 [.ref a_0, .ref a_1, .retAddr 0, .int v_3, .int v_4, .int v_5, .retAddr 0] [.int (v_3 - 1), .int x5, .ref a_0] h7 bc bs Q) ∧ (v_3 = v_4 → ex_G mX7_draw (d + 2) 150 [.ref a_0, .ref a_1, .retAddr 0, .int v_3, .int v_4, .int v_5, .retAddr 0] [.int 100, .int x5, .ref a_0] h7 bc bs Q)))))) ∧ (¬ 0 ≤ x5 → ld0 h a3 ((v_5 - v_3) + v_4) ∧ ah_o h a_0 7 ∧ ex_S yX7_closePiece mX7_closePiece (d + 1) [.ref a_0, .int (ah_i h a3 (Int32.toNatClampNeg ((v_5 - v_3) + v_4))), .int v_4, .int (v_3 - 1)] h 0 0 (fun r h12 => r = none ∧ ∀ x14, x14 = v_5 + 1 → ex_G mX7_draw (d + 2) 70 [.ref a_0, .ref a_1, .retAddr 0, .int v_3, .int v_3, .int x14, .retAddr 0] [] h12 bc bs Q)))))) : ex_G mX7_draw (d + 2) 70 [.ref a_0, .ref a_1, .retAddr 0, .int v_3, .int v_4, .int v_5, .retAddr 0] [] h bc bs Q := by
  refine ex_iload (q := 72) (x := v_5) dX7_draw_70 rfl ?_
  refine ex_aload_n (q := 73) (x := a_1) dX7_draw_72 rfl ?_
  have s1 := w.1
  replace w := w.2
  refine ex_getf (q := 76) dX7_draw_73 fl_X7_94 s1 ?_
  refine ex_iconst (q := 77) (v := 1) dX7_draw_76 (by decide) ?_
  refine ex_isub (q := 78) dX7_draw_77 ?_
  refine ex_icmp_ge (tgt := 168) (q := 81) dX7_draw_78 (fun c2 => ?_) (fun c2 => ?_)
  · replace w := w.1 c2
    refine ex_iconst (q := 169) (v := 1) dX7_draw_168 (by decide) ?_
    exact ex_ireturn dX7_draw_169 rfl (Or.inr ⟨rfl, Or.inr rfl⟩) w
  · replace w := w.2 c2
    refine ex_aload_n (q := 82) (x := a_1) dX7_draw_81 rfl ?_
    obtain ⟨a3, ea3, w⟩ := w
    refine ex_getr (q := 85) dX7_draw_82 fl_X7_89 s1 ea3 ?_
    refine ex_iload (q := 87) (x := v_5) dX7_draw_85 rfl ?_
    have s4 := w.1
    replace w := w.2
    refine ex_iald (q := 88) dX7_draw_87 s4 ?_
    refine ex_nmi (fun x5 ex5 => ?_)
    replace w := w x5 ex5
    refine ex_istore (q := 90) (ls' := [.ref a_0, .ref a_1, .retAddr 0, .int v_3, .int v_4, .int v_5, .int x5]) dX7_draw_88 rfl ?_
    refine ex_iload (q := 92) (x := x5) dX7_draw_90 rfl ?_
    refine ex_if_ge (tgt := 122) (q := 95) dX7_draw_92 (fun c6 => ?_) (fun c6 => ?_)
    · replace w := w.1 c6
      refine ex_aload_n (q := 123) (x := a_1) dX7_draw_122 rfl ?_
      refine ex_iload (q := 125) (x := x5) dX7_draw_123 rfl ?_
      refine ex_iconst (q := 126) (v := 2) dX7_draw_125 (by decide) ?_
      refine ex_ixor (q := 127) dX7_draw_126 ?_
      refine ex_callV (q := 130) (M := mX7_draw) (hdd := Nat.le_refl _) (c := 6) (st := []) (bc := bc) (bs := bs) dX7_draw_127 rfl cl_X7_101 wd_983 wd_984 s1 w ?_
      rintro r h7 ⟨x8, rfl, w⟩
      show ex_G mX7_draw (d + 2) 130 [.ref a_0, .ref a_1, .retAddr 0, .int v_3, .int v_4, .int v_5, .int x5] [.int x8] h7 bc bs Q
      refine ex_if_eq (tgt := 157) (q := 133) dX7_draw_130 (fun c9 => ?_) (fun c9 => ?_)
      · replace w := w.1 c9
        refine ex_iconst (q := 158) (v := 0) dX7_draw_157 (by decide) ?_
        exact ex_ireturn dX7_draw_158 rfl (Or.inr ⟨rfl, Or.inl rfl⟩) w
      · replace w := w.2 c9
        refine ex_aload_n (q := 134) (x := a_0) dX7_draw_133 rfl ?_
        refine ex_iload (q := 136) (x := x5) dX7_draw_134 rfl ?_
        refine ex_iload_n (q := 137) (x := v_3) dX7_draw_136 rfl ?_
        refine ex_iload (q := 139) (x := v_4) dX7_draw_137 rfl ?_
        refine ex_icmp_ne (tgt := 147) (q := 142) dX7_draw_139 (fun c10 => ?_) (fun c10 => ?_)
        · replace w := w.1 c10
          refine ex_iload_n (q := 148) (x := v_3) dX7_draw_147 rfl ?_
          refine ex_iconst (q := 149) (v := 1) dX7_draw_148 (by decide) ?_
          refine ex_isub (q := 150) dX7_draw_149 ?_
          refine ex_kill 6 (ls' := [.ref a_0, .ref a_1, .retAddr 0, .int v_3, .int v_4, .int v_5, .retAddr 0]) rfl ?_
          exact w
        · replace w := w.2 c10
          refine ex_bipush (q := 144) (v := 100) dX7_draw_142 (by decide) ?_
          refine ex_goto (tgt := 150) dX7_draw_144 ?_
          refine ex_kill 6 (ls' := [.ref a_0, .ref a_1, .retAddr 0, .int v_3, .int v_4, .int v_5, .retAddr 0]) rfl ?_
          exact w
    · replace w := w.2 c6
      refine ex_aload_n (q := 96) (x := a_0) dX7_draw_95 rfl ?_
      refine ex_aload_n (q := 97) (x := a_1) dX7_draw_96 rfl ?_
      refine ex_getr (q := 100) dX7_draw_97 fl_X7_89 s1 ea3 ?_
      refine ex_iload (q := 102) (x := v_5) dX7_draw_100 rfl ?_
      refine ex_iload_n (q := 103) (x := v_3) dX7_draw_102 rfl ?_
      refine ex_isub (q := 104) dX7_draw_103 ?_
      refine ex_iload (q := 106) (x := v_4) dX7_draw_104 rfl ?_
      refine ex_iadd (q := 107) dX7_draw_106 ?_
      have s11 := w.1
      replace w := w.2
      refine ex_iald (q := 108) dX7_draw_107 s11 ?_
      refine ex_iload (q := 110) (x := v_4) dX7_draw_108 rfl ?_
      refine ex_iload_n (q := 111) (x := v_3) dX7_draw_110 rfl ?_
      refine ex_iconst (q := 112) (v := 1) dX7_draw_111 (by decide) ?_
      refine ex_isub (q := 113) dX7_draw_112 ?_
      have s13 := w.1
      replace w := w.2
      refine ex_callV (q := 116) (M := mX7_draw) (hdd := Nat.le_refl _) (c := 7) (st := []) (bc := bc) (bs := bs) dX7_draw_113 rfl cl_X7_97 wd_976 wd_25 s13 w ?_
      rintro r h12 ⟨rfl, w⟩
      show ex_G mX7_draw (d + 2) 116 [.ref a_0, .ref a_1, .retAddr 0, .int v_3, .int v_4, .int v_5, .int x5] [] h12 bc bs Q
      refine ex_iload_n (q := 117) (x := v_3) dX7_draw_116 rfl ?_
      refine ex_istore (q := 119) (ls' := [.ref a_0, .ref a_1, .retAddr 0, .int v_3, .int v_3, .int v_5, .int x5]) dX7_draw_117 rfl ?_
      refine ex_goto (tgt := 162) dX7_draw_119 ?_
      obtain ⟨x14, ex14⟩ : ∃ y : Int32, y = v_5 + 1 := ⟨_, rfl⟩
      replace w := w x14 ex14
      refine ex_iinc (q := 165) (x := v_5) (v := x14) (ls' := [.ref a_0, .ref a_1, .retAddr 0, .int v_3, .int v_3, .int x14, .int x5]) dX7_draw_162 rfl (by rw [ex14]; rfl) rfl ?_
      refine ex_goto (tgt := 70) dX7_draw_165 ?_
      refine ex_kill 6 (ls' := [.ref a_0, .ref a_1, .retAddr 0, .int v_3, .int v_3, .int x14, .retAddr 0]) rfl ?_
      exact w

set_option maxRecDepth 100000 in
theorem X7_draw_150 {d bc bs : Nat} {h : AH} {Q : Option Value → AH → Prop} {a_0 : Nat} {a_1 : Nat} {v_3 : Int32} {v_4 : Int32} {v_5 : Int32} {u_0 : Int32} {u_1 : Int32} {b_2 : Nat} (w : ah_o h b_2 7 ∧ ex_S yX7_drawPass mX7_drawPass (d + 1) [.ref b_2, .int u_1, .int u_0, .int v_3] h 0 0 (fun r h1 => ∃ x3, r = some (.int x3) ∧ ((¬ x3 = 0 → ∀ x5, x5 = v_3 + 1 → ∀ x6, x6 = v_5 + 1 → ex_G mX7_draw (d + 2) 70 [.ref a_0, .ref a_1, .retAddr 0, .int x5, .int v_4, .int x6, .retAddr 0] [] h1 bc bs Q) ∧ (x3 = 0 → Q (some (.int 0)) h1)))) : ex_G mX7_draw (d + 2) 150 [.ref a_0, .ref a_1, .retAddr 0, .int v_3, .int v_4, .int v_5, .retAddr 0] [.int u_0, .int u_1, .ref b_2] h bc bs Q := by
  refine ex_iload_n (q := 151) (x := v_3) dX7_draw_150 rfl ?_
  have s2 := w.1
  replace w := w.2
  refine ex_callV (q := 154) (M := mX7_draw) (hdd := Nat.le_refl _) (c := 7) (st := []) (bc := bc) (bs := bs) dX7_draw_151 rfl cl_X7_104 wd_988 wd_26 s2 w ?_
  rintro r h1 ⟨x3, rfl, w⟩
  show ex_G mX7_draw (d + 2) 154 [.ref a_0, .ref a_1, .retAddr 0, .int v_3, .int v_4, .int v_5, .retAddr 0] [.int x3] h1 bc bs Q
  refine ex_if_ne (tgt := 159) (q := 157) dX7_draw_154 (fun c4 => ?_) (fun c4 => ?_)
  · replace w := w.1 c4
    obtain ⟨x5, ex5⟩ : ∃ y : Int32, y = v_3 + 1 := ⟨_, rfl⟩
    replace w := w x5 ex5
    refine ex_iinc (q := 162) (x := v_3) (v := x5) (ls' := [.ref a_0, .ref a_1, .retAddr 0, .int x5, .int v_4, .int v_5, .retAddr 0]) dX7_draw_159 rfl (by rw [ex5]; rfl) rfl ?_
    obtain ⟨x6, ex6⟩ : ∃ y : Int32, y = v_5 + 1 := ⟨_, rfl⟩
    replace w := w x6 ex6
    refine ex_iinc (q := 165) (x := v_5) (v := x6) (ls' := [.ref a_0, .ref a_1, .retAddr 0, .int x5, .int v_4, .int x6, .retAddr 0]) dX7_draw_162 rfl (by rw [ex6]; rfl) rfl ?_
    refine ex_goto (tgt := 70) dX7_draw_165 ?_
    exact w
  · replace w := w.2 c4
    refine ex_iconst (q := 158) (v := 0) dX7_draw_157 (by decide) ?_
    exact ex_ireturn dX7_draw_158 rfl (Or.inr ⟨rfl, Or.inl rfl⟩) w

theorem X7_draw_e {d bc bs : Nat} {h : AH} {Q : Option Value → AH → Prop} {a_0 : Nat} {a_1 : Nat} (w : ex_G mX7_draw (d + 2) 0 [.ref a_0, .ref a_1, .retAddr 0, .retAddr 0, .retAddr 0, .retAddr 0, .retAddr 0] [] h bc bs Q) : ex_S yX7_draw mX7_draw (d + 2) [.ref a_0, .ref a_1] h bc bs Q :=
  ex_enter (plainFor_of_name (by decide +kernel)) ⟨rfl, rfl⟩ rfl rfl (Nat.le_of_ble_eq_true rfl) (ex_pad 5 w)

set_option maxRecDepth 100000 in
theorem X7_countPasses_0 {d bc bs : Nat} {h : AH} {Q : Option Value → AH → Prop} {a_0 : Nat} (w : ah_o h a_0 6 ∧ ∀ x2, x2 = (ah_f h a_0 1) - 1 → ((x2 < 0 → Q (some (.int (-1))) h) ∧ (¬ x2 < 0 → ∃ a4, ah_r h a_0 0 = some a4 ∧ ld0 h a4 x2 ∧ (((-2) < (ah_i h a4 (Int32.toNatClampNeg x2)) → Q (some (.int (-1))) h) ∧ (¬ (-2) < (ah_i h a4 (Int32.toNatClampNeg x2)) → (((-11) ≤ (ah_i h a4 (Int32.toNatClampNeg x2)) → ex_G mX7_countPasses d 42 [.ref a_0, .int x2, .int 0, .int 0, .int 0, .retAddr 0] [] h bc bs Q) ∧ (¬ (-11) ≤ (ah_i h a4 (Int32.toNatClampNeg x2)) → Q (some (.int (-1))) h))))))) : ex_G mX7_countPasses d 0 [.ref a_0, .retAddr 0, .retAddr 0, .retAddr 0, .retAddr 0, .retAddr 0] [] h bc bs Q := by
  refine ex_aload_n (q := 1) (x := a_0) dX7_countPasses_0 rfl ?_
  have s1 := w.1
  replace w := w.2
  refine ex_getf (q := 4) dX7_countPasses_1 fl_X7_94 s1 ?_
  refine ex_iconst (q := 5) (v := 1) dX7_countPasses_4 (by decide) ?_
  refine ex_isub (q := 6) dX7_countPasses_5 ?_
  refine ex_nmi (fun x2 ex2 => ?_)
  replace w := w x2 ex2
  refine ex_istore_n (q := 7) (ls' := [.ref a_0, .int x2, .retAddr 0, .retAddr 0, .retAddr 0, .retAddr 0]) dX7_countPasses_6 rfl ?_
  refine ex_iload_n (q := 8) (x := x2) dX7_countPasses_7 rfl ?_
  refine ex_if_lt (tgt := 33) (q := 11) dX7_countPasses_8 (fun c3 => ?_) (fun c3 => ?_)
  · replace w := w.1 c3
    refine ex_iconst (q := 34) (v := (-1)) dX7_countPasses_33 (by decide) ?_
    exact ex_ireturn dX7_countPasses_34 rfl (Or.inl rfl) w
  · replace w := w.2 c3
    refine ex_aload_n (q := 12) (x := a_0) dX7_countPasses_11 rfl ?_
    obtain ⟨a4, ea4, w⟩ := w
    refine ex_getr (q := 15) dX7_countPasses_12 fl_X7_89 s1 ea4 ?_
    refine ex_iload_n (q := 16) (x := x2) dX7_countPasses_15 rfl ?_
    have s5 := w.1
    replace w := w.2
    refine ex_iald (q := 17) dX7_countPasses_16 s5 ?_
    refine ex_bipush (q := 19) (v := (-2)) dX7_countPasses_17 (by decide) ?_
    refine ex_icmp_gt (tgt := 33) (q := 22) dX7_countPasses_19 (fun c6 => ?_) (fun c6 => ?_)
    · replace w := w.1 c6
      refine ex_iconst (q := 34) (v := (-1)) dX7_countPasses_33 (by decide) ?_
      exact ex_ireturn dX7_countPasses_34 rfl (Or.inl rfl) w
    · replace w := w.2 c6
      refine ex_aload_n (q := 23) (x := a_0) dX7_countPasses_22 rfl ?_
      refine ex_getr (q := 26) dX7_countPasses_23 fl_X7_89 s1 ea4 ?_
      refine ex_iload_n (q := 27) (x := x2) dX7_countPasses_26 rfl ?_
      refine ex_iald (q := 28) dX7_countPasses_27 s5 ?_
      refine ex_bipush (q := 30) (v := (-11)) dX7_countPasses_28 (by decide) ?_
      refine ex_icmp_ge (tgt := 35) (q := 33) dX7_countPasses_30 (fun c7 => ?_) (fun c7 => ?_)
      · replace w := w.1 c7
        refine ex_iconst (q := 36) (v := 0) dX7_countPasses_35 (by decide) ?_
        refine ex_istore_n (q := 37) (ls' := [.ref a_0, .int x2, .int 0, .retAddr 0, .retAddr 0, .retAddr 0]) dX7_countPasses_36 rfl ?_
        refine ex_iconst (q := 38) (v := 0) dX7_countPasses_37 (by decide) ?_
        refine ex_istore_n (q := 39) (ls' := [.ref a_0, .int x2, .int 0, .int 0, .retAddr 0, .retAddr 0]) dX7_countPasses_38 rfl ?_
        refine ex_iconst (q := 40) (v := 0) dX7_countPasses_39 (by decide) ?_
        refine ex_istore (q := 42) (ls' := [.ref a_0, .int x2, .int 0, .int 0, .int 0, .retAddr 0]) dX7_countPasses_40 rfl ?_
        exact w
      · replace w := w.2 c7
        refine ex_iconst (q := 34) (v := (-1)) dX7_countPasses_33 (by decide) ?_
        exact ex_ireturn dX7_countPasses_34 rfl (Or.inl rfl) w

set_option maxRecDepth 100000 in
theorem X7_countPasses_42 {d bc bs : Nat} {h : AH} {Q : Option Value → AH → Prop} {a_0 : Nat} {v_1 : Int32} {v_2 : Int32} {v_3 : Int32} {v_4 : Int32} (w : ((v_1 ≤ v_4 → ((v_3 = 0 → Q (some (.int v_2)) h) ∧ (¬ v_3 = 0 → Q (some (.int (-1))) h))) ∧ (¬ v_1 ≤ v_4 → ah_o h a_0 6 ∧ ∃ a4, ah_r h a_0 0 = some a4 ∧ ld0 h a4 v_4 ∧ ∀ x6, x6 = ah_i h a4 (Int32.toNatClampNeg v_4) → ((x6 < (-1) → Q (some (.int (-1))) h) ∧ (¬ x6 < (-1) → ((¬ x6 = (-1) → ex_G mX7_countPasses d 75 [.ref a_0, .int v_1, .int v_2, .retAddr 0, .int v_4, .int x6] [] h bc bs Q) ∧ (x6 = (-1) → ((¬ v_3 = 0 → ex_G mX7_countPasses d 75 [.ref a_0, .int v_1, .int v_2, .retAddr 0, .int v_4, .int x6] [] h bc bs Q) ∧ (v_3 = 0 → Q (some (.int (-1))) h))))))))) : ex_G mX7_countPasses d 42 [.ref a_0, .int v_1, .int v_2, .int v_3, .int v_4, .retAddr 0] [] h bc bs Q := by
  refine ex_iload (q := 44) (x := v_4) dX7_countPasses_42 rfl ?_
  refine ex_iload_n (q := 45) (x := v_1) dX7_countPasses_44 rfl ?_
  refine ex_icmp_ge (tgt := 104) (q := 48) dX7_countPasses_45 (fun c1 => ?_) (fun c1 => ?_)
  · replace w := w.1 c1
    refine ex_iload_n (q := 105) (x := v_3) dX7_countPasses_104 rfl ?_
    refine ex_if_eq (tgt := 112) (q := 108) dX7_countPasses_105 (fun c2 => ?_) (fun c2 => ?_)
    · replace w := w.1 c2
      refine ex_iload_n (q := 113) (x := v_2) dX7_countPasses_112 rfl ?_
      exact ex_ireturn dX7_countPasses_113 rfl (Or.inl rfl) w
    · replace w := w.2 c2
      refine ex_iconst (q := 109) (v := (-1)) dX7_countPasses_108 (by decide) ?_
      refine ex_goto (tgt := 113) dX7_countPasses_109 ?_
      exact ex_ireturn dX7_countPasses_113 rfl (Or.inl rfl) w
  · replace w := w.2 c1
    refine ex_aload_n (q := 49) (x := a_0) dX7_countPasses_48 rfl ?_
    have s3 := w.1
    replace w := w.2
    obtain ⟨a4, ea4, w⟩ := w
    refine ex_getr (q := 52) dX7_countPasses_49 fl_X7_89 s3 ea4 ?_
    refine ex_iload (q := 54) (x := v_4) dX7_countPasses_52 rfl ?_
    have s5 := w.1
    replace w := w.2
    refine ex_iald (q := 55) dX7_countPasses_54 s5 ?_
    refine ex_nmi (fun x6 ex6 => ?_)
    replace w := w x6 ex6
    refine ex_istore (q := 57) (ls' := [.ref a_0, .int v_1, .int v_2, .int v_3, .int v_4, .int x6]) dX7_countPasses_55 rfl ?_
    refine ex_iload (q := 59) (x := x6) dX7_countPasses_57 rfl ?_
    refine ex_iconst (q := 60) (v := (-1)) dX7_countPasses_59 (by decide) ?_
    refine ex_icmp_lt (tgt := 73) (q := 63) dX7_countPasses_60 (fun c7 => ?_) (fun c7 => ?_)
    · replace w := w.1 c7
      refine ex_iconst (q := 74) (v := (-1)) dX7_countPasses_73 (by decide) ?_
      exact ex_ireturn dX7_countPasses_74 rfl (Or.inl rfl) w
    · replace w := w.2 c7
      refine ex_iload (q := 65) (x := x6) dX7_countPasses_63 rfl ?_
      refine ex_iconst (q := 66) (v := (-1)) dX7_countPasses_65 (by decide) ?_
      refine ex_icmp_ne (tgt := 75) (q := 69) dX7_countPasses_66 (fun c8 => ?_) (fun c8 => ?_)
      · replace w := w.1 c8
        refine ex_kill 3 (ls' := [.ref a_0, .int v_1, .int v_2, .retAddr 0, .int v_4, .int x6]) rfl ?_
        exact w
      · replace w := w.2 c8
        refine ex_iload_n (q := 70) (x := v_3) dX7_countPasses_69 rfl ?_
        refine ex_if_ne (tgt := 75) (q := 73) dX7_countPasses_70 (fun c9 => ?_) (fun c9 => ?_)
        · replace w := w.1 c9
          refine ex_kill 3 (ls' := [.ref a_0, .int v_1, .int v_2, .retAddr 0, .int v_4, .int x6]) rfl ?_
          exact w
        · replace w := w.2 c9
          refine ex_iconst (q := 74) (v := (-1)) dX7_countPasses_73 (by decide) ?_
          exact ex_ireturn dX7_countPasses_74 rfl (Or.inl rfl) w

set_option maxRecDepth 100000 in
theorem X7_countPasses_75 {d bc bs : Nat} {h : AH} {Q : Option Value → AH → Prop} {a_0 : Nat} {v_1 : Int32} {v_2 : Int32} {v_4 : Int32} {v_5 : Int32} (w : ((v_5 < 0 → ex_G mX7_countPasses d 85 [.ref a_0, .int v_1, .int v_2, .retAddr 0, .int v_4, .retAddr 0] [.int 0] h bc bs Q) ∧ (¬ v_5 < 0 → ex_G mX7_countPasses d 85 [.ref a_0, .int v_1, .int v_2, .retAddr 0, .int v_4, .retAddr 0] [.int 1] h bc bs Q))) : ex_G mX7_countPasses d 75 [.ref a_0, .int v_1, .int v_2, .retAddr 0, .int v_4, .int v_5] [] h bc bs Q := by
  refine ex_iload (q := 77) (x := v_5) dX7_countPasses_75 rfl ?_
  refine ex_if_lt (tgt := 84) (q := 80) dX7_countPasses_77 (fun c1 => ?_) (fun c1 => ?_)
  · replace w := w.1 c1
    refine ex_iconst (q := 85) (v := 0) dX7_countPasses_84 (by decide) ?_
    refine ex_kill 5 (ls' := [.ref a_0, .int v_1, .int v_2, .retAddr 0, .int v_4, .retAddr 0]) rfl ?_
    exact w
  · replace w := w.2 c1
    refine ex_iconst (q := 81) (v := 1) dX7_countPasses_80 (by decide) ?_
    refine ex_goto (tgt := 85) dX7_countPasses_81 ?_
    refine ex_kill 5 (ls' := [.ref a_0, .int v_1, .int v_2, .retAddr 0, .int v_4, .retAddr 0]) rfl ?_
    exact w

set_option maxRecDepth 100000 in
theorem X7_countPasses_85 {d bc bs : Nat} {h : AH} {Q : Option Value → AH → Prop} {a_0 : Nat} {v_1 : Int32} {v_2 : Int32} {v_4 : Int32} {u_0 : Int32} (w : ((u_0 = 0 → ∀ x2, x2 = v_2 + 0 → ∀ x3, x3 = v_4 + 1 → ex_G mX7_countPasses d 42 [.ref a_0, .int v_1, .int x2, .int u_0, .int x3, .retAddr 0] [] h bc bs Q) ∧ (¬ u_0 = 0 → ∀ x4, x4 = v_2 + 1 → ∀ x5, x5 = v_4 + 1 → ex_G mX7_countPasses d 42 [.ref a_0, .int v_1, .int x4, .int u_0, .int x5, .retAddr 0] [] h bc bs Q))) : ex_G mX7_countPasses d 85 [.ref a_0, .int v_1, .int v_2, .retAddr 0, .int v_4, .retAddr 0] [.int u_0] h bc bs Q := by
  refine ex_istore_n (q := 86) (ls' := [.ref a_0, .int v_1, .int v_2, .int u_0, .int v_4, .retAddr 0]) dX7_countPasses_85 rfl ?_
  refine ex_iload_n (q := 87) (x := v_2) dX7_countPasses_86 rfl ?_
  refine ex_iload_n (q := 88) (x := u_0) dX7_countPasses_87 rfl ?_
  refine ex_if_eq (tgt := 95) (q := 91) dX7_countPasses_88 (fun c1 => ?_) (fun c1 => ?_)
  · replace w := w.1 c1
    refine ex_iconst (q := 96) (v := 0) dX7_countPasses_95 (by decide) ?_
    refine ex_iadd (q := 97) dX7_countPasses_96 ?_
    refine ex_nmi (fun x2 ex2 => ?_)
    replace w := w x2 ex2
    refine ex_istore_n (q := 98) (ls' := [.ref a_0, .int v_1, .int x2, .int u_0, .int v_4, .retAddr 0]) dX7_countPasses_97 rfl ?_
    obtain ⟨x3, ex3⟩ : ∃ y : Int32, y = v_4 + 1 := ⟨_, rfl⟩
    replace w := w x3 ex3
    refine ex_iinc (q := 101) (x := v_4) (v := x3) (ls' := [.ref a_0, .int v_1, .int x2, .int u_0, .int x3, .retAddr 0]) dX7_countPasses_98 rfl (by rw [ex3]; rfl) rfl ?_
    refine ex_goto (tgt := 42) dX7_countPasses_101 ?_
    exact w
  · replace w := w.2 c1
    refine ex_iconst (q := 92) (v := 1) dX7_countPasses_91 (by decide) ?_
    refine ex_goto (tgt := 96) dX7_countPasses_92 ?_
    refine ex_iadd (q := 97) dX7_countPasses_96 ?_
    refine ex_nmi (fun x4 ex4 => ?_)
    replace w := w x4 ex4
    refine ex_istore_n (q := 98) (ls' := [.ref a_0, .int v_1, .int x4, .int u_0, .int v_4, .retAddr 0]) dX7_countPasses_97 rfl ?_
    obtain ⟨x5, ex5⟩ : ∃ y : Int32, y = v_4 + 1 := ⟨_, rfl⟩
    replace w := w x5 ex5
    refine ex_iinc (q := 101) (x := v_4) (v := x5) (ls' := [.ref a_0, .int v_1, .int x4, .int u_0, .int x5, .retAddr 0]) dX7_countPasses_98 rfl (by rw [ex5]; rfl) rfl ?_
    refine ex_goto (tgt := 42) dX7_countPasses_101 ?_
    exact w

theorem X7_countPasses_e {d bc bs : Nat} {h : AH} {Q : Option Value → AH → Prop} {a_0 : Nat} (w : ex_G mX7_countPasses d 0 [.ref a_0, .retAddr 0, .retAddr 0, .retAddr 0, .retAddr 0, .retAddr 0] [] h bc bs Q) : ex_S yX7_countPasses mX7_countPasses d [.ref a_0] h bc bs Q :=
  ex_enter (plainFor_of_name (by decide +kernel)) ⟨rfl, rfl⟩ rfl rfl (Nat.le_of_ble_eq_true rfl) (ex_pad 5 w)

set_option maxRecDepth 100000 in
theorem X7_drawPass_0 {d bc bs : Nat} {h : AH} {Q : Option Value → AH → Prop} {a_0 : Nat} {v_1 : Int32} {v_2 : Int32} {v_3 : Int32} (w : ah_o h a_0 7 ∧ X7_hasCrossing_C a_0 (v_1 >>> (2 &&& (31 : Int32))) h ∧ ((¬ (X7_hasCrossing_V a_0 (v_1 >>> (2 &&& (31 : Int32))) h) = 0 → ∀ x4, x4 = X7_entryOf_V v_1 h → ∃ a5, ah_r h a_0 1 = some a5 ∧ ld0 h a5 x4 ∧ (((ah_i h a5 (Int32.toNatClampNeg x4)) = (-1) → st0 h a5 x4 ∧ ∀ h8, h8 = ah_si h a5 (Int32.toNatClampNeg x4) v_2 → st0 h8 a5 (X11_corner_V x4 2 h8) ∧ ∀ h10, h10 = ah_si h8 a5 (Int32.toNatClampNeg (X11_corner_V x4 2 h8)) v_3 → Q (some (.int 1)) h10) ∧ (¬ (ah_i h a5 (Int32.toNatClampNeg x4)) = (-1) → Q (some (.int 0)) h))) ∧ ((X7_hasCrossing_V a_0 (v_1 >>> (2 &&& (31 : Int32))) h) = 0 → Q (some (.int 0)) h))) : ex_G mX7_drawPass (d + 1) 0 [.ref a_0, .int v_1, .int v_2, .int v_3, .retAddr 0] [] h bc bs Q := by
  refine ex_aload_n (q := 1) (x := a_0) dX7_drawPass_0 rfl ?_
  refine ex_iload_n (q := 2) (x := v_1) dX7_drawPass_1 rfl ?_
  refine ex_iconst (q := 3) (v := 2) dX7_drawPass_2 (by decide) ?_
  refine ex_ishr (q := 4) dX7_drawPass_3 ?_
  have s1 := w.1
  replace w := w.2
  have s2 := w.1
  replace w := w.2
  refine ex_callV (q := 7) (M := mX7_drawPass) (hdd := Nat.le_refl _) (mc := 0) (ms := 0) (d' := d) (c := 7) (st := []) (bc := bc) (bs := bs) dX7_drawPass_4 rfl cl_X7_50 wd_602 wd_603 s1 (X7_hasCrossing_s (Q := fun r z => r = some (.int (X7_hasCrossing_V a_0 (v_1 >>> (2 &&& (31 : Int32))) h)) ∧ z = h) s2 ⟨rfl, rfl⟩) ?_
  intro r z hrz
  rw [hrz.1, hrz.2]
  show ex_G mX7_drawPass (d + 1) 7 [.ref a_0, .int v_1, .int v_2, .int v_3, .retAddr 0] [.int (X7_hasCrossing_V a_0 (v_1 >>> (2 &&& (31 : Int32))) h)] (h) bc bs Q
  refine ex_if_ne (tgt := 12) (q := 10) dX7_drawPass_7 (fun c3 => ?_) (fun c3 => ?_)
  · replace w := w.1 c3
    refine ex_iload_n (q := 13) (x := v_1) dX7_drawPass_12 rfl ?_
    refine ex_callS (q := 16) (M := mX7_drawPass) (hdd := Nat.le_refl _) (mc := 0) (ms := 0) (d' := d) (st := []) (bc := bc) (bs := bs) dX7_drawPass_13 rfl cl_X7_108 wd_979 (X7_entryOf_s (Q := fun r z => r = some (.int (X7_entryOf_V v_1 h)) ∧ z = h) ⟨rfl, rfl⟩) ?_
    intro r z hrz
    rw [hrz.1, hrz.2]
    show ex_G mX7_drawPass (d + 1) 16 [.ref a_0, .int v_1, .int v_2, .int v_3, .retAddr 0] [.int (X7_entryOf_V v_1 h)] (h) bc bs Q
    refine ex_nmi (fun x4 ex4 => ?_)
    replace w := w x4 ex4
    refine ex_istore (q := 18) (ls' := [.ref a_0, .int v_1, .int v_2, .int v_3, .int x4]) dX7_drawPass_16 rfl ?_
    refine ex_aload_n (q := 19) (x := a_0) dX7_drawPass_18 rfl ?_
    obtain ⟨a5, ea5, w⟩ := w
    refine ex_getr (q := 22) dX7_drawPass_19 fl_X7_15 s1 ea5 ?_
    refine ex_iload (q := 24) (x := x4) dX7_drawPass_22 rfl ?_
    have s6 := w.1
    replace w := w.2
    refine ex_iald (q := 25) dX7_drawPass_24 s6 ?_
    refine ex_iconst (q := 26) (v := (-1)) dX7_drawPass_25 (by decide) ?_
    refine ex_icmp_eq (tgt := 31) (q := 29) dX7_drawPass_26 (fun c7 => ?_) (fun c7 => ?_)
    · replace w := w.1 c7
      refine ex_aload_n (q := 32) (x := a_0) dX7_drawPass_31 rfl ?_
      refine ex_getr (q := 35) dX7_drawPass_32 fl_X7_15 s1 ea5 ?_
      refine ex_iload (q := 37) (x := x4) dX7_drawPass_35 rfl ?_
      refine ex_iload_n (q := 38) (x := v_2) dX7_drawPass_37 rfl ?_
      have s9 := w.1
      replace w := w.2
      refine ex_iast (q := 39) dX7_drawPass_38 s9 ?_
      refine ex_nmh (fun h8 eh8 => ?_)
      replace w := w h8 eh8
      refine ex_aload_n (q := 40) (x := a_0) dX7_drawPass_39 rfl ?_
      refine ex_getr (q := 43) dX7_drawPass_40 fl_X7_15 (by rw [eh8]; exact s1) (by rw [eh8]; exact ea5) ?_
      refine ex_iload (q := 45) (x := x4) dX7_drawPass_43 rfl ?_
      refine ex_iconst (q := 46) (v := 2) dX7_drawPass_45 (by decide) ?_
      refine ex_callS (q := 49) (M := mX7_drawPass) (hdd := Nat.le_refl _) (mc := 0) (ms := 0) (d' := d) (st := [.ref a5]) (bc := bc) (bs := bs) dX7_drawPass_46 rfl cl_X7_43 wd_663 (X11_corner_s (Q := fun r z => r = some (.int (X11_corner_V x4 2 h8)) ∧ z = h8) ⟨rfl, rfl⟩) ?_
      intro r z hrz
      rw [hrz.1, hrz.2]
      show ex_G mX7_drawPass (d + 1) 49 [.ref a_0, .int v_1, .int v_2, .int v_3, .int x4] [.int (X11_corner_V x4 2 h8), .ref a5] (h8) bc bs Q
      refine ex_iload_n (q := 50) (x := v_3) dX7_drawPass_49 rfl ?_
      have s11 := w.1
      replace w := w.2
      refine ex_iast (q := 51) dX7_drawPass_50 s11 ?_
      refine ex_nmh (fun h10 eh10 => ?_)
      replace w := w h10 eh10
      refine ex_iconst (q := 52) (v := 1) dX7_drawPass_51 (by decide) ?_
      exact ex_ireturn dX7_drawPass_52 rfl (Or.inr ⟨rfl, Or.inr rfl⟩) w
    · replace w := w.2 c7
      refine ex_iconst (q := 30) (v := 0) dX7_drawPass_29 (by decide) ?_
      exact ex_ireturn dX7_drawPass_30 rfl (Or.inr ⟨rfl, Or.inl rfl⟩) w
  · replace w := w.2 c3
    refine ex_iconst (q := 11) (v := 0) dX7_drawPass_10 (by decide) ?_
    exact ex_ireturn dX7_drawPass_11 rfl (Or.inr ⟨rfl, Or.inl rfl⟩) w

theorem X7_drawPass_e {d bc bs : Nat} {h : AH} {Q : Option Value → AH → Prop} {a_0 : Nat} {v_1 : Int32} {v_2 : Int32} {v_3 : Int32} (w : ex_G mX7_drawPass (d + 1) 0 [.ref a_0, .int v_1, .int v_2, .int v_3, .retAddr 0] [] h bc bs Q) : ex_S yX7_drawPass mX7_drawPass (d + 1) [.ref a_0, .int v_1, .int v_2, .int v_3] h bc bs Q :=
  ex_enter (plainFor_of_name (by decide +kernel)) ⟨rfl, rfl⟩ rfl rfl (Nat.le_of_ble_eq_true rfl) (ex_pad 1 w)

set_option maxRecDepth 100000 in
theorem X7_closePiece_0 {d bc bs : Nat} {h : AH} {Q : Option Value → AH → Prop} {a_0 : Nat} {v_1 : Int32} {v_2 : Int32} {v_3 : Int32} (w : ∀ x1, x1 = X7_entryOf_V v_1 h → ((v_3 < v_2 → Q none h) ∧ (¬ v_3 < v_2 → ah_o h a_0 7 ∧ X7_hasCrossing_C a_0 (x1 >>> (2 &&& (31 : Int32))) h ∧ (((X7_hasCrossing_V a_0 (x1 >>> (2 &&& (31 : Int32))) h) = 0 → Q none h) ∧ (¬ (X7_hasCrossing_V a_0 (x1 >>> (2 &&& (31 : Int32))) h) = 0 → ∃ a6, ah_r h a_0 1 = some a6 ∧ st0 h a6 x1 ∧ ∀ h7, h7 = ah_si h a6 (Int32.toNatClampNeg x1) v_3 → Q none h7))))) : ex_G mX7_closePiece (d + 1) 0 [.ref a_0, .int v_1, .int v_2, .int v_3, .retAddr 0] [] h bc bs Q := by
  refine ex_iload_n (q := 1) (x := v_1) dX7_closePiece_0 rfl ?_
  refine ex_callS (q := 4) (M := mX7_closePiece) (hdd := Nat.le_refl _) (mc := 0) (ms := 0) (d' := d) (st := []) (bc := bc) (bs := bs) dX7_closePiece_1 rfl cl_X7_108 wd_979 (X7_entryOf_s (Q := fun r z => r = some (.int (X7_entryOf_V v_1 h)) ∧ z = h) ⟨rfl, rfl⟩) ?_
  intro r z hrz
  rw [hrz.1, hrz.2]
  show ex_G mX7_closePiece (d + 1) 4 [.ref a_0, .int v_1, .int v_2, .int v_3, .retAddr 0] [.int (X7_entryOf_V v_1 h)] (h) bc bs Q
  refine ex_nmi (fun x1 ex1 => ?_)
  replace w := w x1 ex1
  refine ex_istore (q := 6) (ls' := [.ref a_0, .int v_1, .int v_2, .int v_3, .int x1]) dX7_closePiece_4 rfl ?_
  refine ex_iload_n (q := 7) (x := v_2) dX7_closePiece_6 rfl ?_
  refine ex_iload_n (q := 8) (x := v_3) dX7_closePiece_7 rfl ?_
  refine ex_icmp_gt (tgt := 30) (q := 11) dX7_closePiece_8 (fun c2 => ?_) (fun c2 => ?_)
  · replace w := w.1 c2
    exact ex_return dX7_closePiece_30 w
  · replace w := w.2 c2
    refine ex_aload_n (q := 12) (x := a_0) dX7_closePiece_11 rfl ?_
    refine ex_iload (q := 14) (x := x1) dX7_closePiece_12 rfl ?_
    refine ex_iconst (q := 15) (v := 2) dX7_closePiece_14 (by decide) ?_
    refine ex_ishr (q := 16) dX7_closePiece_15 ?_
    have s3 := w.1
    replace w := w.2
    have s4 := w.1
    replace w := w.2
    refine ex_callV (q := 19) (M := mX7_closePiece) (hdd := Nat.le_refl _) (mc := 0) (ms := 0) (d' := d) (c := 7) (st := []) (bc := bc) (bs := bs) dX7_closePiece_16 rfl cl_X7_50 wd_602 wd_603 s3 (X7_hasCrossing_s (Q := fun r z => r = some (.int (X7_hasCrossing_V a_0 (x1 >>> (2 &&& (31 : Int32))) h)) ∧ z = h) s4 ⟨rfl, rfl⟩) ?_
    intro r z hrz
    rw [hrz.1, hrz.2]
    show ex_G mX7_closePiece (d + 1) 19 [.ref a_0, .int v_1, .int v_2, .int v_3, .int x1] [.int (X7_hasCrossing_V a_0 (x1 >>> (2 &&& (31 : Int32))) h)] (h) bc bs Q
    refine ex_if_eq (tgt := 30) (q := 22) dX7_closePiece_19 (fun c5 => ?_) (fun c5 => ?_)
    · replace w := w.1 c5
      exact ex_return dX7_closePiece_30 w
    · replace w := w.2 c5
      refine ex_aload_n (q := 23) (x := a_0) dX7_closePiece_22 rfl ?_
      obtain ⟨a6, ea6, w⟩ := w
      refine ex_getr (q := 26) dX7_closePiece_23 fl_X7_15 s3 ea6 ?_
      refine ex_iload (q := 28) (x := x1) dX7_closePiece_26 rfl ?_
      refine ex_iload_n (q := 29) (x := v_3) dX7_closePiece_28 rfl ?_
      have s8 := w.1
      replace w := w.2
      refine ex_iast (q := 30) dX7_closePiece_29 s8 ?_
      refine ex_nmh (fun h7 eh7 => ?_)
      replace w := w h7 eh7
      exact ex_return dX7_closePiece_30 w

theorem X7_closePiece_e {d bc bs : Nat} {h : AH} {Q : Option Value → AH → Prop} {a_0 : Nat} {v_1 : Int32} {v_2 : Int32} {v_3 : Int32} (w : ex_G mX7_closePiece (d + 1) 0 [.ref a_0, .int v_1, .int v_2, .int v_3, .retAddr 0] [] h bc bs Q) : ex_S yX7_closePiece mX7_closePiece (d + 1) [.ref a_0, .int v_1, .int v_2, .int v_3] h bc bs Q :=
  ex_enter (plainFor_of_name (by decide +kernel)) ⟨rfl, rfl⟩ rfl rfl (Nat.le_of_ble_eq_true rfl) (ex_pad 1 w)

set_option maxRecDepth 100000 in
theorem X7_mixInto_0 {d bc bs : Nat} {h : AH} {Q : Option Value → AH → Prop} {a_0 : Nat} {v_1 : Int64} (w : ah_o h a_0 7 ∧ ∀ x2, x2 = (31 * v_1) + (Int32.toInt64 (ah_f h a_0 3)) → ex_G mX7_mixInto d 14 [.ref a_0, .long x2, .retAddr 0, .int 0, .retAddr 0] [] h bc bs Q) : ex_G mX7_mixInto d 0 [.ref a_0, .long v_1, .retAddr 0, .retAddr 0, .retAddr 0] [] h bc bs Q := by
  refine ex_ldc2_w (q := 3) (v := 31) dX7_mixInto_0 wd_1369 ?_
  refine ex_lload_n (q := 4) (x := v_1) dX7_mixInto_3 rfl ?_
  refine ex_lmul (q := 5) dX7_mixInto_4 ?_
  refine ex_aload_n (q := 6) (x := a_0) dX7_mixInto_5 rfl ?_
  have s1 := w.1
  replace w := w.2
  refine ex_getf (q := 9) dX7_mixInto_6 fl_X7_28 s1 ?_
  refine ex_i2l (q := 10) dX7_mixInto_9 ?_
  refine ex_ladd (q := 11) dX7_mixInto_10 ?_
  refine ex_nml (fun x2 ex2 => ?_)
  replace w := w x2 ex2
  refine ex_lstore_n (q := 12) (ls' := [.ref a_0, .long x2, .retAddr 0, .retAddr 0, .retAddr 0]) dX7_mixInto_11 rfl ?_
  refine ex_iconst (q := 13) (v := 0) dX7_mixInto_12 (by decide) ?_
  refine ex_istore_n (q := 14) (ls' := [.ref a_0, .long x2, .retAddr 0, .int 0, .retAddr 0]) dX7_mixInto_13 rfl ?_
  exact w

set_option maxRecDepth 100000 in
theorem X7_mixInto_14 {d bc bs : Nat} {h : AH} {Q : Option Value → AH → Prop} {a_0 : Nat} {v_1 : Int64} {v_3 : Int32} (w : ah_o h a_0 7 ∧ (((ah_f h a_0 2) ≤ v_3 → Q (some (.long v_1)) h) ∧ (¬ (ah_f h a_0 2) ≤ v_3 → ∃ a3, ah_r h a_0 0 = some a3 ∧ ld0 h a3 v_3 ∧ ∀ x5, x5 = (31 * v_1) + (Int32.toInt64 (ah_i h a3 (Int32.toNatClampNeg v_3))) → ex_G mX7_mixInto d 39 [.ref a_0, .long x5, .retAddr 0, .int v_3, .int 0] [] h bc bs Q))) : ex_G mX7_mixInto d 14 [.ref a_0, .long v_1, .retAddr 0, .int v_3, .retAddr 0] [] h bc bs Q := by
  refine ex_iload_n (q := 15) (x := v_3) dX7_mixInto_14 rfl ?_
  refine ex_aload_n (q := 16) (x := a_0) dX7_mixInto_15 rfl ?_
  have s1 := w.1
  replace w := w.2
  refine ex_getf (q := 19) dX7_mixInto_16 fl_X7_24 s1 ?_
  refine ex_icmp_ge (tgt := 81) (q := 22) dX7_mixInto_19 (fun c2 => ?_) (fun c2 => ?_)
  · replace w := w.1 c2
    refine ex_lload_n (q := 82) (x := v_1) dX7_mixInto_81 rfl ?_
    exact ex_lreturn dX7_mixInto_82 w
  · replace w := w.2 c2
    refine ex_ldc2_w (q := 25) (v := 31) dX7_mixInto_22 wd_1369 ?_
    refine ex_lload_n (q := 26) (x := v_1) dX7_mixInto_25 rfl ?_
    refine ex_lmul (q := 27) dX7_mixInto_26 ?_
    refine ex_aload_n (q := 28) (x := a_0) dX7_mixInto_27 rfl ?_
    obtain ⟨a3, ea3, w⟩ := w
    refine ex_getr (q := 31) dX7_mixInto_28 fl_X7_9 s1 ea3 ?_
    refine ex_iload_n (q := 32) (x := v_3) dX7_mixInto_31 rfl ?_
    have s4 := w.1
    replace w := w.2
    refine ex_iald (q := 33) dX7_mixInto_32 s4 ?_
    refine ex_i2l (q := 34) dX7_mixInto_33 ?_
    refine ex_ladd (q := 35) dX7_mixInto_34 ?_
    refine ex_nml (fun x5 ex5 => ?_)
    replace w := w x5 ex5
    refine ex_lstore_n (q := 36) (ls' := [.ref a_0, .long x5, .retAddr 0, .int v_3, .retAddr 0]) dX7_mixInto_35 rfl ?_
    refine ex_iconst (q := 37) (v := 0) dX7_mixInto_36 (by decide) ?_
    refine ex_istore (q := 39) (ls' := [.ref a_0, .long x5, .retAddr 0, .int v_3, .int 0]) dX7_mixInto_37 rfl ?_
    exact w

set_option maxRecDepth 100000 in
theorem X7_mixInto_39 {d bc bs : Nat} {h : AH} {Q : Option Value → AH → Prop} {a_0 : Nat} {v_1 : Int64} {v_3 : Int32} {v_4 : Int32} (w : ah_o h a_0 7 ∧ ∃ a2, ah_r h a_0 0 = some a2 ∧ ld0 h a2 v_3 ∧ (((ah_i h a2 (Int32.toNatClampNeg v_3)) ≤ v_4 → ∀ x5, x5 = v_3 + 1 → ex_G mX7_mixInto d 14 [.ref a_0, .long v_1, .retAddr 0, .int x5, .retAddr 0] [] h bc bs Q) ∧ (¬ (ah_i h a2 (Int32.toNatClampNeg v_3)) ≤ v_4 → ∃ a6, ah_r h a_0 1 = some a6 ∧ ld0 h a6 ((4 * v_3) + v_4) ∧ ∀ x8, x8 = (31 * v_1) + (Int32.toInt64 (ah_i h a6 (Int32.toNatClampNeg ((4 * v_3) + v_4)))) → ∀ x9, x9 = v_4 + 1 → ex_G mX7_mixInto d 39 [.ref a_0, .long x8, .retAddr 0, .int v_3, .int x9] [] h bc bs Q))) : ex_G mX7_mixInto d 39 [.ref a_0, .long v_1, .retAddr 0, .int v_3, .int v_4] [] h bc bs Q := by
  refine ex_iload (q := 41) (x := v_4) dX7_mixInto_39 rfl ?_
  refine ex_aload_n (q := 42) (x := a_0) dX7_mixInto_41 rfl ?_
  have s1 := w.1
  replace w := w.2
  obtain ⟨a2, ea2, w⟩ := w
  refine ex_getr (q := 45) dX7_mixInto_42 fl_X7_9 s1 ea2 ?_
  refine ex_iload_n (q := 46) (x := v_3) dX7_mixInto_45 rfl ?_
  have s3 := w.1
  replace w := w.2
  refine ex_iald (q := 47) dX7_mixInto_46 s3 ?_
  refine ex_icmp_ge (tgt := 75) (q := 50) dX7_mixInto_47 (fun c4 => ?_) (fun c4 => ?_)
  · replace w := w.1 c4
    obtain ⟨x5, ex5⟩ : ∃ y : Int32, y = v_3 + 1 := ⟨_, rfl⟩
    replace w := w x5 ex5
    refine ex_iinc (q := 78) (x := v_3) (v := x5) (ls' := [.ref a_0, .long v_1, .retAddr 0, .int x5, .int v_4]) dX7_mixInto_75 rfl (by rw [ex5]; rfl) rfl ?_
    refine ex_goto (tgt := 14) dX7_mixInto_78 ?_
    refine ex_kill 4 (ls' := [.ref a_0, .long v_1, .retAddr 0, .int x5, .retAddr 0]) rfl ?_
    exact w
  · replace w := w.2 c4
    refine ex_ldc2_w (q := 53) (v := 31) dX7_mixInto_50 wd_1369 ?_
    refine ex_lload_n (q := 54) (x := v_1) dX7_mixInto_53 rfl ?_
    refine ex_lmul (q := 55) dX7_mixInto_54 ?_
    refine ex_aload_n (q := 56) (x := a_0) dX7_mixInto_55 rfl ?_
    obtain ⟨a6, ea6, w⟩ := w
    refine ex_getr (q := 59) dX7_mixInto_56 fl_X7_15 s1 ea6 ?_
    refine ex_iconst (q := 60) (v := 4) dX7_mixInto_59 (by decide) ?_
    refine ex_iload_n (q := 61) (x := v_3) dX7_mixInto_60 rfl ?_
    refine ex_imul (q := 62) dX7_mixInto_61 ?_
    refine ex_iload (q := 64) (x := v_4) dX7_mixInto_62 rfl ?_
    refine ex_iadd (q := 65) dX7_mixInto_64 ?_
    have s7 := w.1
    replace w := w.2
    refine ex_iald (q := 66) dX7_mixInto_65 s7 ?_
    refine ex_i2l (q := 67) dX7_mixInto_66 ?_
    refine ex_ladd (q := 68) dX7_mixInto_67 ?_
    refine ex_nml (fun x8 ex8 => ?_)
    replace w := w x8 ex8
    refine ex_lstore_n (q := 69) (ls' := [.ref a_0, .long x8, .retAddr 0, .int v_3, .int v_4]) dX7_mixInto_68 rfl ?_
    obtain ⟨x9, ex9⟩ : ∃ y : Int32, y = v_4 + 1 := ⟨_, rfl⟩
    replace w := w x9 ex9
    refine ex_iinc (q := 72) (x := v_4) (v := x9) (ls' := [.ref a_0, .long x8, .retAddr 0, .int v_3, .int x9]) dX7_mixInto_69 rfl (by rw [ex9]; rfl) rfl ?_
    refine ex_goto (tgt := 39) dX7_mixInto_72 ?_
    exact w

theorem X7_mixInto_e {d bc bs : Nat} {h : AH} {Q : Option Value → AH → Prop} {a_0 : Nat} {v_1 : Int64} (w : ex_G mX7_mixInto d 0 [.ref a_0, .long v_1, .retAddr 0, .retAddr 0, .retAddr 0] [] h bc bs Q) : ex_S yX7_mixInto mX7_mixInto d [.ref a_0, .long v_1] h bc bs Q :=
  ex_enter (plainFor_of_name (by decide +kernel)) ⟨rfl, rfl⟩ rfl rfl (Nat.le_of_ble_eq_true rfl) (ex_pad 2 w)

set_option maxRecDepth 100000 in
theorem X8_init_0 {d bc bs : Nat} {h : AH} {Q : Option Value → AH → Prop} {a_0 : Nat} (w : ah_n h < 10000000 ∧ ∀ h2, h2 = ah_na h 14 100 → ah_o h2 a_0 8 ∧ ∀ h4, h4 = ah_sr h2 a_0 0 (some (ah_n h)) → ah_n h4 < 10000000 ∧ ∀ h6, h6 = ah_no h4 10 → ex_S yX10_init mX10_init (d + 1) [.ref (ah_n h4)] h6 2 96 (fun r h7 => r = none ∧ ah_o h7 a_0 8 ∧ ∀ h9, h9 = ah_sr h7 a_0 1 (some (ah_n h4)) → ah_n h9 < 10000000 ∧ ∀ h11, h11 = ah_no h9 3 → ex_S yX3_init mX3_init (d + 1) [.ref (ah_n h9)] h11 3 120 (fun r h12 => r = none ∧ ah_o h12 a_0 8 ∧ ∀ h14, h14 = ah_sr h12 a_0 2 (some (ah_n h9)) → ah_n h14 < 10000000 ∧ ∀ h16, h16 = ah_no h14 6 → ex_S yX6_init mX6_init (d + 1) [.ref (ah_n h14), .int 100] h16 1 100 (fun r h17 => r = none ∧ ah_o h17 a_0 8 ∧ ∀ h19, h19 = ah_sr h17 a_0 3 (some (ah_n h14)) → ah_n h19 < 10000000 ∧ ∀ h21, h21 = ah_no h19 7 → ex_S yX7_init mX7_init (d + 1) [.ref (ah_n h19)] h21 2 200 (fun r h22 => r = none ∧ ah_o h22 a_0 8 ∧ ∀ h24, h24 = ah_sr h22 a_0 4 (some (ah_n h19)) → ah_n h24 < 10000000 ∧ ∀ h26, h26 = ah_no h24 7 → ex_S yX7_init mX7_init (d + 1) [.ref (ah_n h24)] h26 2 200 (fun r h27 => r = none ∧ ah_o h27 a_0 8 ∧ ∀ h29, h29 = ah_sr h27 a_0 5 (some (ah_n h24)) → ah_n h29 < 10000000 ∧ ∀ h31, h31 = ah_no h29 4 → ex_S yX4_init mX4_init (d + 1) [.ref (ah_n h29)] h31 10 1180 (fun r h32 => r = none ∧ ah_o h32 a_0 8 ∧ ∀ h34, h34 = ah_sr h32 a_0 6 (some (ah_n h29)) → ah_n h34 < 10000000 ∧ ∀ h36, h36 = ah_no h34 4 → ex_S yX4_init mX4_init (d + 1) [.ref (ah_n h34)] h36 10 1180 (fun r h37 => r = none ∧ ah_o h37 a_0 8 ∧ ∀ h39, h39 = ah_sr h37 a_0 7 (some (ah_n h34)) → Q none h39)))))))) : ex_G mX8_init (d + 2) 0 [.ref a_0] [] h (bc + 38) (bs + 3239) Q := by
  refine ex_aload_n (q := 1) (x := a_0) dX8_init_0 rfl ?_
  refine ex_objInit (q := 4) (hd1 := Nat.succ_le_succ (Nat.zero_le _)) (h1 := wd_135) (h2 := wd_136) (st := []) dX8_init_1 wd_353 ?_
  refine ex_aload_n (q := 5) (x := a_0) dX8_init_4 rfl ?_
  refine ex_bipush (q := 7) (v := 100) dX8_init_5 (by decide) ?_
  have s1 := w.1
  replace w := w.2
  refine ex_G.room (bc' := (bc + 37) + 1) (bs' := (bs + 3139) + 100) (Nat.le_refl _) (rm_le rfl) (rm_le rfl) ?_
  refine ex_anewarray (q := 10) (c := 10) (N := 100) (M := mX8_init) dX8_init_7 wd_354 wd_355 rfl (by decide) s1 ?_
  refine ex_nmh (fun h2 eh2 => ?_)
  replace w := w h2 eh2
  have s3 := w.1
  replace w := w.2
  refine ex_putr (q := 13) dX8_init_10 fl_X8_11 (Or.inr ⟨rfl, rfl, wd_411, rfl⟩) s3 ?_
  refine ex_nmh (fun h4 eh4 => ?_)
  replace w := w h4 eh4
  refine ex_aload_n (q := 14) (x := a_0) dX8_init_13 rfl ?_
  have s5 := w.1
  replace w := w.2
  refine ex_G.room (bc' := (bc + 36) + 1) (bs' := (bs + 3132) + 7) (Nat.le_refl _) (rm_le rfl) (rm_le rfl) ?_
  refine ex_new (q := 17) (c := 10) (M := mX8_init) dX8_init_14 wd_354 wd_356 wd_123 s5 ?_
  refine ex_nmh (fun h6 eh6 => ?_)
  replace w := w h6 eh6
  refine ex_dup (q := 18) dX8_init_17 rfl ?_
  refine ex_G.room (bc' := (bc + 34) + 2) (bs' := (bs + 3036) + 96) (Nat.le_refl _) (rm_le rfl) (rm_le rfl) ?_
  refine ex_callI (q := 21) (M := mX8_init) (hdd := Nat.le_refl _) (st := [.ref (ah_n h4), .ref a_0]) (bc := (bc + 34)) (bs := (bs + 3036)) dX8_init_18 rfl cl_X8_17 wd_358 rfl rfl w ?_
  rintro r h7 ⟨rfl, w⟩
  show ex_G mX8_init (d + 2) 21 [.ref a_0] [.ref (ah_n h4), .ref a_0] h7 (bc + 34) (bs + 3036) Q
  have s8 := w.1
  replace w := w.2
  refine ex_putr (q := 24) dX8_init_21 fl_X8_18 (Or.inr ⟨rfl, rfl, wd_413, rfl⟩) s8 ?_
  refine ex_nmh (fun h9 eh9 => ?_)
  replace w := w h9 eh9
  refine ex_aload_n (q := 25) (x := a_0) dX8_init_24 rfl ?_
  have s10 := w.1
  replace w := w.2
  refine ex_G.room (bc' := (bc + 33) + 1) (bs' := (bs + 3032) + 4) (Nat.le_refl _) (rm_le rfl) (rm_le rfl) ?_
  refine ex_new (q := 28) (c := 3) (M := mX8_init) dX8_init_25 wd_386 wd_387 wd_124 s10 ?_
  refine ex_nmh (fun h11 eh11 => ?_)
  replace w := w h11 eh11
  refine ex_dup (q := 29) dX8_init_28 rfl ?_
  refine ex_G.room (bc' := (bc + 30) + 3) (bs' := (bs + 2912) + 120) (Nat.le_refl _) (rm_le rfl) (rm_le rfl) ?_
  refine ex_callI (q := 32) (M := mX8_init) (hdd := Nat.le_refl _) (st := [.ref (ah_n h9), .ref a_0]) (bc := (bc + 30)) (bs := (bs + 2912)) dX8_init_29 rfl cl_X8_24 wd_389 rfl rfl w ?_
  rintro r h12 ⟨rfl, w⟩
  show ex_G mX8_init (d + 2) 32 [.ref a_0] [.ref (ah_n h9), .ref a_0] h12 (bc + 30) (bs + 2912) Q
  have s13 := w.1
  replace w := w.2
  refine ex_putr (q := 35) dX8_init_32 fl_X8_25 (Or.inr ⟨rfl, rfl, wd_414, rfl⟩) s13 ?_
  refine ex_nmh (fun h14 eh14 => ?_)
  replace w := w h14 eh14
  refine ex_aload_n (q := 36) (x := a_0) dX8_init_35 rfl ?_
  have s15 := w.1
  replace w := w.2
  refine ex_G.room (bc' := (bc + 29) + 1) (bs' := (bs + 2910) + 2) (Nat.le_refl _) (rm_le rfl) (rm_le rfl) ?_
  refine ex_new (q := 39) (c := 6) (M := mX8_init) dX8_init_36 wd_405 wd_142 wd_114 s15 ?_
  refine ex_nmh (fun h16 eh16 => ?_)
  replace w := w h16 eh16
  refine ex_dup (q := 40) dX8_init_39 rfl ?_
  refine ex_bipush (q := 42) (v := 100) dX8_init_40 (by decide) ?_
  refine ex_G.room (bc' := (bc + 28) + 1) (bs' := (bs + 2810) + 100) (Nat.le_refl _) (rm_le rfl) (rm_le rfl) ?_
  refine ex_callI (q := 45) (M := mX8_init) (hdd := Nat.le_refl _) (st := [.ref (ah_n h14), .ref a_0]) (bc := (bc + 28)) (bs := (bs + 2810)) dX8_init_42 rfl cl_X8_31 wd_144 rfl rfl w ?_
  rintro r h17 ⟨rfl, w⟩
  show ex_G mX8_init (d + 2) 45 [.ref a_0] [.ref (ah_n h14), .ref a_0] h17 (bc + 28) (bs + 2810) Q
  have s18 := w.1
  replace w := w.2
  refine ex_putr (q := 48) dX8_init_45 fl_X8_34 (Or.inr ⟨rfl, rfl, wd_416, rfl⟩) s18 ?_
  refine ex_nmh (fun h19 eh19 => ?_)
  replace w := w h19 eh19
  refine ex_aload_n (q := 49) (x := a_0) dX8_init_48 rfl ?_
  have s20 := w.1
  replace w := w.2
  refine ex_G.room (bc' := (bc + 27) + 1) (bs' := (bs + 2803) + 7) (Nat.le_refl _) (rm_le rfl) (rm_le rfl) ?_
  refine ex_new (q := 52) (c := 7) (M := mX8_init) dX8_init_49 wd_407 wd_245 wd_117 s20 ?_
  refine ex_nmh (fun h21 eh21 => ?_)
  replace w := w h21 eh21
  refine ex_dup (q := 53) dX8_init_52 rfl ?_
  refine ex_G.room (bc' := (bc + 25) + 2) (bs' := (bs + 2603) + 200) (Nat.le_refl _) (rm_le rfl) (rm_le rfl) ?_
  refine ex_callI (q := 56) (M := mX8_init) (hdd := Nat.le_refl _) (st := [.ref (ah_n h19), .ref a_0]) (bc := (bc + 25)) (bs := (bs + 2603)) dX8_init_53 rfl cl_X8_40 wd_247 rfl rfl w ?_
  rintro r h22 ⟨rfl, w⟩
  show ex_G mX8_init (d + 2) 56 [.ref a_0] [.ref (ah_n h19), .ref a_0] h22 (bc + 25) (bs + 2603) Q
  have s23 := w.1
  replace w := w.2
  refine ex_putr (q := 59) dX8_init_56 fl_X8_41 (Or.inr ⟨rfl, rfl, wd_418, rfl⟩) s23 ?_
  refine ex_nmh (fun h24 eh24 => ?_)
  replace w := w h24 eh24
  refine ex_aload_n (q := 60) (x := a_0) dX8_init_59 rfl ?_
  have s25 := w.1
  replace w := w.2
  refine ex_G.room (bc' := (bc + 24) + 1) (bs' := (bs + 2596) + 7) (Nat.le_refl _) (rm_le rfl) (rm_le rfl) ?_
  refine ex_new (q := 63) (c := 7) (M := mX8_init) dX8_init_60 wd_407 wd_245 wd_117 s25 ?_
  refine ex_nmh (fun h26 eh26 => ?_)
  replace w := w h26 eh26
  refine ex_dup (q := 64) dX8_init_63 rfl ?_
  refine ex_G.room (bc' := (bc + 22) + 2) (bs' := (bs + 2396) + 200) (Nat.le_refl _) (rm_le rfl) (rm_le rfl) ?_
  refine ex_callI (q := 67) (M := mX8_init) (hdd := Nat.le_refl _) (st := [.ref (ah_n h24), .ref a_0]) (bc := (bc + 22)) (bs := (bs + 2396)) dX8_init_64 rfl cl_X8_40 wd_247 rfl rfl w ?_
  rintro r h27 ⟨rfl, w⟩
  show ex_G mX8_init (d + 2) 67 [.ref a_0] [.ref (ah_n h24), .ref a_0] h27 (bc + 22) (bs + 2396) Q
  have s28 := w.1
  replace w := w.2
  refine ex_putr (q := 70) dX8_init_67 fl_X8_45 (Or.inr ⟨rfl, rfl, wd_419, rfl⟩) s28 ?_
  refine ex_nmh (fun h29 eh29 => ?_)
  replace w := w h29 eh29
  refine ex_aload_n (q := 71) (x := a_0) dX8_init_70 rfl ?_
  have s30 := w.1
  replace w := w.2
  refine ex_G.room (bc' := (bc + 21) + 1) (bs' := (bs + 2378) + 18) (Nat.le_refl _) (rm_le rfl) (rm_le rfl) ?_
  refine ex_new (q := 74) (c := 4) (M := mX8_init) dX8_init_71 wd_409 wd_163 wd_116 s30 ?_
  refine ex_nmh (fun h31 eh31 => ?_)
  replace w := w h31 eh31
  refine ex_dup (q := 75) dX8_init_74 rfl ?_
  refine ex_G.room (bc' := (bc + 11) + 10) (bs' := (bs + 1198) + 1180) (Nat.le_refl _) (rm_le rfl) (rm_le rfl) ?_
  refine ex_callI (q := 78) (M := mX8_init) (hdd := Nat.le_refl _) (st := [.ref (ah_n h29), .ref a_0]) (bc := (bc + 11)) (bs := (bs + 1198)) dX8_init_75 rfl cl_X8_50 wd_165 rfl rfl w ?_
  rintro r h32 ⟨rfl, w⟩
  show ex_G mX8_init (d + 2) 78 [.ref a_0] [.ref (ah_n h29), .ref a_0] h32 (bc + 11) (bs + 1198) Q
  have s33 := w.1
  replace w := w.2
  refine ex_putr (q := 81) dX8_init_78 fl_X8_51 (Or.inr ⟨rfl, rfl, wd_420, rfl⟩) s33 ?_
  refine ex_nmh (fun h34 eh34 => ?_)
  replace w := w h34 eh34
  refine ex_aload_n (q := 82) (x := a_0) dX8_init_81 rfl ?_
  have s35 := w.1
  replace w := w.2
  refine ex_G.room (bc' := (bc + 10) + 1) (bs' := (bs + 1180) + 18) (Nat.le_refl _) (rm_le rfl) (rm_le rfl) ?_
  refine ex_new (q := 85) (c := 4) (M := mX8_init) dX8_init_82 wd_409 wd_163 wd_116 s35 ?_
  refine ex_nmh (fun h36 eh36 => ?_)
  replace w := w h36 eh36
  refine ex_dup (q := 86) dX8_init_85 rfl ?_
  refine ex_G.room (bc' := bc + 10) (bs' := bs + 1180) (Nat.le_refl _) (Nat.le_refl _) (Nat.le_refl _) ?_
  refine ex_callI (q := 89) (M := mX8_init) (hdd := Nat.le_refl _) (st := [.ref (ah_n h34), .ref a_0]) (bc := bc) (bs := bs) dX8_init_86 rfl cl_X8_50 wd_165 rfl rfl w ?_
  rintro r h37 ⟨rfl, w⟩
  show ex_G mX8_init (d + 2) 89 [.ref a_0] [.ref (ah_n h34), .ref a_0] h37 bc bs Q
  have s38 := w.1
  replace w := w.2
  refine ex_putr (q := 92) dX8_init_89 fl_X8_55 (Or.inr ⟨rfl, rfl, wd_421, rfl⟩) s38 ?_
  refine ex_nmh (fun h39 eh39 => ?_)
  replace w := w h39 eh39
  exact ex_return dX8_init_92 w

theorem X8_init_e {d bc bs : Nat} {h : AH} {Q : Option Value → AH → Prop} {a_0 : Nat} (w : ex_G mX8_init (d + 2) 0 [.ref a_0] [] h bc bs Q) : ex_S yX8_init mX8_init (d + 2) [.ref a_0] h bc bs Q :=
  ex_enter (plainFor_of_name (by decide +kernel)) ⟨rfl, rfl⟩ rfl rfl (Nat.le_of_ble_eq_true rfl) (ex_pad 0 w)

set_option maxRecDepth 100000 in
theorem X8_begin_0 {d bc bs : Nat} {h : AH} {Q : Option Value → AH → Prop} {a_0 : Nat} {a_1 : Nat} (w : ah_o h a_0 8 ∧ ∀ h2, h2 = ah_sf h a_0 8 1 → ∀ h3, h3 = ah_sf h2 a_0 9 0 → ∀ h4, h4 = ah_sf h3 a_0 10 0 → ∀ h5, h5 = ah_sf h4 a_0 15 (-1) → ∀ h6, h6 = ah_sf h5 a_0 11 0 → ∀ h7, h7 = ah_sf h6 a_0 12 0 → ∃ a8, ah_r h7 a_0 5 = some a8 ∧ ah_o h7 a8 7 ∧ ex_S yX7_take mX7_take (d + 4) [.ref a8, .ref a_1] h7 0 0 (fun r h9 => r = none ∧ ah_o h9 a_0 8 ∧ ex_S yX8_keep mX8_keep (d + 4) [.ref a_0, .int (-1), .int (-1)] h9 3 103 (fun r h11 => r = none ∧ ah_o h11 a_0 8 ∧ ex_S yX8_enter mX8_enter (d + 4) [.ref a_0, .int 0] h11 0 0 (fun r h13 => r = none ∧ Q none h13)))) : ex_G mX8_begin (d + 5) 0 [.ref a_0, .ref a_1] [] h (bc + 3) (bs + 103) Q := by
  refine ex_aload_n (q := 1) (x := a_0) dX8_begin_0 rfl ?_
  refine ex_iconst (q := 2) (v := 1) dX8_begin_1 (by decide) ?_
  have s1 := w.1
  replace w := w.2
  refine ex_putf (q := 5) dX8_begin_2 fl_X8_58 (Or.inl rfl) s1 (Or.inr ⟨rfl, Or.inr rfl⟩) ?_
  refine ex_nmh (fun h2 eh2 => ?_)
  replace w := w h2 eh2
  refine ex_aload_n (q := 6) (x := a_0) dX8_begin_5 rfl ?_
  refine ex_iconst (q := 7) (v := 0) dX8_begin_6 (by decide) ?_
  refine ex_putf (q := 10) dX8_begin_7 fl_X8_62 (Or.inl rfl) (by rw [eh2]; exact s1) (Or.inr ⟨rfl, Or.inl rfl⟩) ?_
  refine ex_nmh (fun h3 eh3 => ?_)
  replace w := w h3 eh3
  refine ex_aload_n (q := 11) (x := a_0) dX8_begin_10 rfl ?_
  refine ex_iconst (q := 12) (v := 0) dX8_begin_11 (by decide) ?_
  refine ex_putf (q := 15) dX8_begin_12 fl_X8_65 (Or.inl rfl) (by rw [eh3]; exact (by rw [eh2]; exact s1)) (Or.inr ⟨rfl, Or.inl rfl⟩) ?_
  refine ex_nmh (fun h4 eh4 => ?_)
  replace w := w h4 eh4
  refine ex_aload_n (q := 16) (x := a_0) dX8_begin_15 rfl ?_
  refine ex_iconst (q := 17) (v := (-1)) dX8_begin_16 (by decide) ?_
  refine ex_putf (q := 20) dX8_begin_17 fl_X8_68 (Or.inl rfl) (by rw [eh4]; exact (by rw [eh3]; exact (by rw [eh2]; exact s1))) (Or.inl rfl) ?_
  refine ex_nmh (fun h5 eh5 => ?_)
  replace w := w h5 eh5
  refine ex_aload_n (q := 21) (x := a_0) dX8_begin_20 rfl ?_
  refine ex_iconst (q := 22) (v := 0) dX8_begin_21 (by decide) ?_
  refine ex_putf (q := 25) dX8_begin_22 fl_X8_72 (Or.inl rfl) (by rw [eh5]; exact (by rw [eh4]; exact (by rw [eh3]; exact (by rw [eh2]; exact s1)))) (Or.inl rfl) ?_
  refine ex_nmh (fun h6 eh6 => ?_)
  replace w := w h6 eh6
  refine ex_aload_n (q := 26) (x := a_0) dX8_begin_25 rfl ?_
  refine ex_iconst (q := 27) (v := 0) dX8_begin_26 (by decide) ?_
  refine ex_putf (q := 30) dX8_begin_27 fl_X8_75 (Or.inl rfl) (by rw [eh6]; exact (by rw [eh5]; exact (by rw [eh4]; exact (by rw [eh3]; exact (by rw [eh2]; exact s1))))) (Or.inl rfl) ?_
  refine ex_nmh (fun h7 eh7 => ?_)
  replace w := w h7 eh7
  refine ex_aload_n (q := 31) (x := a_0) dX8_begin_30 rfl ?_
  obtain ⟨a8, ea8, w⟩ := w
  refine ex_getr (q := 34) dX8_begin_31 fl_X8_45 (by rw [eh7]; exact (by rw [eh6]; exact (by rw [eh5]; exact (by rw [eh4]; exact (by rw [eh3]; exact (by rw [eh2]; exact s1)))))) ea8 ?_
  refine ex_aload_n (q := 35) (x := a_1) dX8_begin_34 rfl ?_
  have s10 := w.1
  replace w := w.2
  refine ex_callV (q := 38) (M := mX8_begin) (hdd := Nat.le_refl _) (c := 7) (st := []) (bc := (bc + 3)) (bs := (bs + 103)) dX8_begin_35 rfl cl_X8_78 wd_568 wd_569 s10 w ?_
  rintro r h9 ⟨rfl, w⟩
  show ex_G mX8_begin (d + 5) 38 [.ref a_0, .ref a_1] [] h9 (bc + 3) (bs + 103) Q
  refine ex_aload_n (q := 39) (x := a_0) dX8_begin_38 rfl ?_
  refine ex_iconst (q := 40) (v := (-1)) dX8_begin_39 (by decide) ?_
  refine ex_iconst (q := 41) (v := (-1)) dX8_begin_40 (by decide) ?_
  refine ex_G.room (bc' := bc + 3) (bs' := bs + 103) (Nat.le_refl _) (Nat.le_refl _) (Nat.le_refl _) ?_
  have s12 := w.1
  replace w := w.2
  refine ex_callV (q := 44) (M := mX8_begin) (hdd := Nat.le_refl _) (c := 8) (st := []) (bc := bc) (bs := bs) dX8_begin_41 rfl cl_X8_82 wd_1212 wd_41 s12 w ?_
  rintro r h11 ⟨rfl, w⟩
  show ex_G mX8_begin (d + 5) 44 [.ref a_0, .ref a_1] [] h11 bc bs Q
  refine ex_aload_n (q := 45) (x := a_0) dX8_begin_44 rfl ?_
  refine ex_iconst (q := 46) (v := 0) dX8_begin_45 (by decide) ?_
  have s14 := w.1
  replace w := w.2
  refine ex_callV (q := 49) (M := mX8_begin) (hdd := Nat.le_refl _) (c := 8) (st := []) (bc := bc) (bs := bs) dX8_begin_46 rfl cl_X8_86 wd_1233 wd_42 s14 w ?_
  rintro r h13 ⟨rfl, w⟩
  show ex_G mX8_begin (d + 5) 49 [.ref a_0, .ref a_1] [] h13 bc bs Q
  exact ex_return dX8_begin_49 w

theorem X8_begin_e {d bc bs : Nat} {h : AH} {Q : Option Value → AH → Prop} {a_0 : Nat} {a_1 : Nat} (w : ex_G mX8_begin (d + 5) 0 [.ref a_0, .ref a_1] [] h bc bs Q) : ex_S yX8_begin mX8_begin (d + 5) [.ref a_0, .ref a_1] h bc bs Q :=
  ex_enter (plainFor_of_name (by decide +kernel)) ⟨rfl, rfl⟩ rfl rfl (Nat.le_of_ble_eq_true rfl) (ex_pad 0 w)

set_option maxRecDepth 100000 in
theorem X8_aimAt_0 {d bc bs : Nat} {h : AH} {Q : Option Value → AH → Prop} {a_0 : Nat} {a_1 : Nat} (w : ah_o h a_1 7 ∧ ((12 < (ah_f h a_1 2) → ex_G mX8_aimAt (d + 4) 15 [.ref a_0, .ref a_1] [.int 0, .ref a_0] h bc bs Q) ∧ (¬ 12 < (ah_f h a_1 2) → ex_G mX8_aimAt (d + 4) 15 [.ref a_0, .ref a_1] [.int 1, .ref a_0] h bc bs Q))) : ex_G mX8_aimAt (d + 4) 0 [.ref a_0, .ref a_1] [] h bc bs Q := by
  refine ex_aload_n (q := 1) (x := a_0) dX8_aimAt_0 rfl ?_
  refine ex_aload_n (q := 2) (x := a_1) dX8_aimAt_1 rfl ?_
  have s1 := w.1
  replace w := w.2
  refine ex_getf (q := 5) dX8_aimAt_2 fl_X8_89 s1 ?_
  refine ex_bipush (q := 7) (v := 12) dX8_aimAt_5 (by decide) ?_
  refine ex_icmp_gt (tgt := 14) (q := 10) dX8_aimAt_7 (fun c2 => ?_) (fun c2 => ?_)
  · replace w := w.1 c2
    refine ex_iconst (q := 15) (v := 0) dX8_aimAt_14 (by decide) ?_
    exact w
  · replace w := w.2 c2
    refine ex_iconst (q := 11) (v := 1) dX8_aimAt_10 (by decide) ?_
    refine ex_goto (tgt := 15) dX8_aimAt_11 ?_
    exact w

set_option maxRecDepth 100000 in
theorem X8_aimAt_15 {d bc bs : Nat} {h : AH} {Q : Option Value → AH → Prop} {a_0 : Nat} {a_1 : Nat} {u_0 : Int32} {b_1 : Nat} (w : ah_o h b_1 8 ∧ bo u_0 ∧ ∀ h2, h2 = ah_sf h b_1 10 u_0 → ah_o h2 a_0 8 ∧ ((¬ (ah_f h2 a_0 10) = 0 → ∃ a6, ah_r h2 a_0 7 = some a6 ∧ ah_o h2 a6 4 ∧ ex_S yX4_pairUp mX4_pairUp (d + 3) [.ref a6, .ref a_1] h2 0 0 (fun r h7 => r = none ∧ ah_o h7 a_0 8 ∧ ∃ a10, ah_r h7 a_0 7 = some a10 ∧ ah_o h7 a10 4 ∧ ex_S yX4_findRegions mX4_findRegions (d + 3) [.ref a10] h7 0 0 (fun r h11 => r = none ∧ ah_o h11 a_0 8 ∧ ∃ a14, ah_r h11 a_0 1 = some a14 ∧ ∃ a15, ah_r h11 a_0 7 = some a15 ∧ ah_o h11 a14 10 ∧ ex_S yX10_hold mX10_hold (d + 3) [.ref a14, .ref a_1, .ref a15] h11 0 0 (fun r h16 => r = none ∧ ah_o h16 a_0 8 ∧ ∃ a19, ah_r h16 a_0 0 = some a19 ∧ ld3 h16 14 a19 0 ∧ ∃ a21, ah_q h16 a19 (Int32.toNatClampNeg 0) = some a21 ∧ ∃ a22, ah_r h16 a_0 1 = some a22 ∧ ah_o h16 a21 10 ∧ X10_sharesMark_C a21 a22 h16 ∧ (((X10_sharesMark_V a21 a22 h16) = 0 → Q none h16) ∧ (¬ (X10_sharesMark_V a21 a22 h16) = 0 → ∃ a26, ah_r h16 a_0 2 = some a26 ∧ ∃ a27, ah_q h16 a19 (Int32.toNatClampNeg 0) = some a27 ∧ ah_o h16 a27 10 ∧ ∃ a29, ah_r h16 a27 1 = some a29 ∧ ah_o h16 a22 10 ∧ ∃ a31, ah_r h16 a22 1 = some a31 ∧ ah_o h16 a26 3 ∧ ex_S yX3_holds mX3_holds (d + 3) [.ref a26, .ref a29, .ref a31, .int (ah_f h16 a22 2)] h16 0 0 (fun r h32 => ∃ x34, r = some (.int x34) ∧ ((x34 = 0 → Q none h32) ∧ (¬ x34 = 0 → ah_o h32 a_0 8 ∧ ∀ h37, h37 = ah_sf h32 a_0 15 0 → Q none h37))))))))) ∧ ((ah_f h2 a_0 10) = 0 → Q none h2))) : ex_G mX8_aimAt (d + 4) 15 [.ref a_0, .ref a_1] [.int u_0, .ref b_1] h bc bs Q := by
  have s1 := w.1
  replace w := w.2
  have s3 := w.1
  replace w := w.2
  refine ex_putf (q := 18) dX8_aimAt_15 fl_X8_65 (Or.inl rfl) s1 (Or.inr ⟨rfl, s3⟩) ?_
  refine ex_nmh (fun h2 eh2 => ?_)
  replace w := w h2 eh2
  refine ex_aload_n (q := 19) (x := a_0) dX8_aimAt_18 rfl ?_
  have s4 := w.1
  replace w := w.2
  refine ex_getf (q := 22) dX8_aimAt_19 fl_X8_65 s4 ?_
  refine ex_if_ne (tgt := 26) (q := 25) dX8_aimAt_22 (fun c5 => ?_) (fun c5 => ?_)
  · replace w := w.1 c5
    refine ex_aload_n (q := 27) (x := a_0) dX8_aimAt_26 rfl ?_
    obtain ⟨a6, ea6, w⟩ := w
    refine ex_getr (q := 30) dX8_aimAt_27 fl_X8_55 s4 ea6 ?_
    refine ex_aload_n (q := 31) (x := a_1) dX8_aimAt_30 rfl ?_
    have s8 := w.1
    replace w := w.2
    refine ex_callV (q := 34) (M := mX8_aimAt) (hdd := Nat.le_refl _) (c := 4) (st := []) (bc := bc) (bs := bs) dX8_aimAt_31 rfl cl_X8_92 wd_651 wd_652 s8 w ?_
    rintro r h7 ⟨rfl, w⟩
    show ex_G mX8_aimAt (d + 4) 34 [.ref a_0, .ref a_1] [] h7 bc bs Q
    refine ex_aload_n (q := 35) (x := a_0) dX8_aimAt_34 rfl ?_
    have s9 := w.1
    replace w := w.2
    obtain ⟨a10, ea10, w⟩ := w
    refine ex_getr (q := 38) dX8_aimAt_35 fl_X8_55 s9 ea10 ?_
    have s12 := w.1
    replace w := w.2
    refine ex_callV (q := 41) (M := mX8_aimAt) (hdd := Nat.le_refl _) (c := 4) (st := []) (bc := bc) (bs := bs) dX8_aimAt_38 rfl cl_X8_95 wd_655 wd_656 s12 w ?_
    rintro r h11 ⟨rfl, w⟩
    show ex_G mX8_aimAt (d + 4) 41 [.ref a_0, .ref a_1] [] h11 bc bs Q
    refine ex_aload_n (q := 42) (x := a_0) dX8_aimAt_41 rfl ?_
    have s13 := w.1
    replace w := w.2
    obtain ⟨a14, ea14, w⟩ := w
    refine ex_getr (q := 45) dX8_aimAt_42 fl_X8_18 s13 ea14 ?_
    refine ex_aload_n (q := 46) (x := a_1) dX8_aimAt_45 rfl ?_
    refine ex_aload_n (q := 47) (x := a_0) dX8_aimAt_46 rfl ?_
    obtain ⟨a15, ea15, w⟩ := w
    refine ex_getr (q := 50) dX8_aimAt_47 fl_X8_55 s13 ea15 ?_
    have s17 := w.1
    replace w := w.2
    refine ex_callV (q := 53) (M := mX8_aimAt) (hdd := Nat.le_refl _) (c := 10) (st := []) (bc := bc) (bs := bs) dX8_aimAt_50 rfl cl_X8_98 wd_1217 wd_1218 s17 w ?_
    rintro r h16 ⟨rfl, w⟩
    show ex_G mX8_aimAt (d + 4) 53 [.ref a_0, .ref a_1] [] h16 bc bs Q
    refine ex_aload_n (q := 54) (x := a_0) dX8_aimAt_53 rfl ?_
    have s18 := w.1
    replace w := w.2
    obtain ⟨a19, ea19, w⟩ := w
    refine ex_getr (q := 57) dX8_aimAt_54 fl_X8_11 s18 ea19 ?_
    refine ex_iconst (q := 58) (v := 0) dX8_aimAt_57 (by decide) ?_
    have s20 := w.1
    replace w := w.2
    obtain ⟨a21, ea21, w⟩ := w
    refine ex_aald (q := 59) dX8_aimAt_58 s20 ea21 ?_
    refine ex_aload_n (q := 60) (x := a_0) dX8_aimAt_59 rfl ?_
    obtain ⟨a22, ea22, w⟩ := w
    refine ex_getr (q := 63) dX8_aimAt_60 fl_X8_18 s18 ea22 ?_
    have s23 := w.1
    replace w := w.2
    have s24 := w.1
    replace w := w.2
    refine ex_callV (q := 66) (M := mX8_aimAt) (hdd := Nat.le_refl _) (mc := 0) (ms := 0) (d' := (d + 3)) (c := 10) (st := []) (bc := bc) (bs := bs) dX8_aimAt_63 rfl cl_X8_102 wd_1227 wd_1228 s23 (X10_sharesMark_s (Q := fun r z => r = some (.int (X10_sharesMark_V a21 a22 h16)) ∧ z = h16) s24 ⟨rfl, rfl⟩) ?_
    intro r z hrz
    rw [hrz.1, hrz.2]
    show ex_G mX8_aimAt (d + 4) 66 [.ref a_0, .ref a_1] [.int (X10_sharesMark_V a21 a22 h16)] (h16) bc bs Q
    refine ex_if_eq (tgt := 107) (q := 69) dX8_aimAt_66 (fun c25 => ?_) (fun c25 => ?_)
    · replace w := w.1 c25
      exact ex_return dX8_aimAt_107 w
    · replace w := w.2 c25
      refine ex_aload_n (q := 70) (x := a_0) dX8_aimAt_69 rfl ?_
      obtain ⟨a26, ea26, w⟩ := w
      refine ex_getr (q := 73) dX8_aimAt_70 fl_X8_25 s18 ea26 ?_
      refine ex_aload_n (q := 74) (x := a_0) dX8_aimAt_73 rfl ?_
      refine ex_getr (q := 77) dX8_aimAt_74 fl_X8_11 s18 ea19 ?_
      refine ex_iconst (q := 78) (v := 0) dX8_aimAt_77 (by decide) ?_
      obtain ⟨a27, ea27, w⟩ := w
      refine ex_aald (q := 79) dX8_aimAt_78 s20 ea27 ?_
      have s28 := w.1
      replace w := w.2
      obtain ⟨a29, ea29, w⟩ := w
      refine ex_getr (q := 82) dX8_aimAt_79 fl_X8_106 s28 ea29 ?_
      refine ex_aload_n (q := 83) (x := a_0) dX8_aimAt_82 rfl ?_
      refine ex_getr (q := 86) dX8_aimAt_83 fl_X8_18 s18 ea22 ?_
      have s30 := w.1
      replace w := w.2
      obtain ⟨a31, ea31, w⟩ := w
      refine ex_getr (q := 89) dX8_aimAt_86 fl_X8_106 s30 ea31 ?_
      refine ex_aload_n (q := 90) (x := a_0) dX8_aimAt_89 rfl ?_
      refine ex_getr (q := 93) dX8_aimAt_90 fl_X8_18 s18 ea22 ?_
      refine ex_getf (q := 96) dX8_aimAt_93 fl_X8_110 s30 ?_
      have s33 := w.1
      replace w := w.2
      refine ex_callV (q := 99) (M := mX8_aimAt) (hdd := Nat.le_refl _) (c := 3) (st := []) (bc := bc) (bs := bs) dX8_aimAt_96 rfl cl_X8_111 wd_1177 wd_1178 s33 w ?_
      rintro r h32 ⟨x34, rfl, w⟩
      show ex_G mX8_aimAt (d + 4) 99 [.ref a_0, .ref a_1] [.int x34] h32 bc bs Q
      refine ex_if_eq (tgt := 107) (q := 102) dX8_aimAt_99 (fun c35 => ?_) (fun c35 => ?_)
      · replace w := w.1 c35
        exact ex_return dX8_aimAt_107 w
      · replace w := w.2 c35
        refine ex_aload_n (q := 103) (x := a_0) dX8_aimAt_102 rfl ?_
        refine ex_iconst (q := 104) (v := 0) dX8_aimAt_103 (by decide) ?_
        have s36 := w.1
        replace w := w.2
        refine ex_putf (q := 107) dX8_aimAt_104 fl_X8_68 (Or.inl rfl) s36 (Or.inl rfl) ?_
        refine ex_nmh (fun h37 eh37 => ?_)
        replace w := w h37 eh37
        exact ex_return dX8_aimAt_107 w
  · replace w := w.2 c5
    exact ex_return dX8_aimAt_25 w

theorem X8_aimAt_e {d bc bs : Nat} {h : AH} {Q : Option Value → AH → Prop} {a_0 : Nat} {a_1 : Nat} (w : ex_G mX8_aimAt (d + 4) 0 [.ref a_0, .ref a_1] [] h bc bs Q) : ex_S yX8_aimAt mX8_aimAt (d + 4) [.ref a_0, .ref a_1] h bc bs Q :=
  ex_enter (plainFor_of_name (by decide +kernel)) ⟨rfl, rfl⟩ rfl rfl (Nat.le_of_ble_eq_true rfl) (ex_pad 0 w)

set_option maxRecDepth 100000 in
theorem X8_takeAim_0 {d bc bs : Nat} {h : AH} {Q : Option Value → AH → Prop} {a_0 : Nat} (w : ah_o h a_0 8 ∧ (((ah_f h a_0 15) < 0 → ex_G mX8_takeAim (d + 2) 12 [.ref a_0, .retAddr 0] [.int 0] h bc bs Q) ∧ (¬ (ah_f h a_0 15) < 0 → ex_G mX8_takeAim (d + 2) 12 [.ref a_0, .retAddr 0] [.int 1] h bc bs Q))) : ex_G mX8_takeAim (d + 2) 0 [.ref a_0, .retAddr 0] [] h bc bs Q := by
  refine ex_aload_n (q := 1) (x := a_0) dX8_takeAim_0 rfl ?_
  have s1 := w.1
  replace w := w.2
  refine ex_getf (q := 4) dX8_takeAim_1 fl_X8_68 s1 ?_
  refine ex_if_lt (tgt := 11) (q := 7) dX8_takeAim_4 (fun c2 => ?_) (fun c2 => ?_)
  · replace w := w.1 c2
    refine ex_iconst (q := 12) (v := 0) dX8_takeAim_11 (by decide) ?_
    exact w
  · replace w := w.2 c2
    refine ex_iconst (q := 8) (v := 1) dX8_takeAim_7 (by decide) ?_
    refine ex_goto (tgt := 12) dX8_takeAim_8 ?_
    exact w

set_option maxRecDepth 100000 in
theorem X8_takeAim_12 {d bc bs : Nat} {h : AH} {Q : Option Value → AH → Prop} {a_0 : Nat} {u_0 : Int32} (w : ((u_0 = 0 → ah_o h a_0 8 ∧ ∀ h3, h3 = ah_sf h a_0 10 0 → ∀ h4, h4 = ah_sf h3 a_0 15 (-1) → bo u_0 ∧ Q (some (.int u_0)) h4) ∧ (¬ u_0 = 0 → ah_o h a_0 8 ∧ ex_S yX8_tellWays mX8_tellWays (d + 1) [.ref a_0, .int (ah_f h a_0 15)] h 0 0 (fun r h7 => r = none ∧ ah_o h7 a_0 8 ∧ ∀ h9, h9 = ah_sf h7 a_0 10 0 → ∀ h10, h10 = ah_sf h9 a_0 15 (-1) → bo u_0 ∧ Q (some (.int u_0)) h10)))) : ex_G mX8_takeAim (d + 2) 12 [.ref a_0, .retAddr 0] [.int u_0] h bc bs Q := by
  refine ex_istore_n (q := 13) (ls' := [.ref a_0, .int u_0]) dX8_takeAim_12 rfl ?_
  refine ex_iload_n (q := 14) (x := u_0) dX8_takeAim_13 rfl ?_
  refine ex_if_eq (tgt := 25) (q := 17) dX8_takeAim_14 (fun c1 => ?_) (fun c1 => ?_)
  · replace w := w.1 c1
    refine ex_aload_n (q := 26) (x := a_0) dX8_takeAim_25 rfl ?_
    refine ex_iconst (q := 27) (v := 0) dX8_takeAim_26 (by decide) ?_
    have s2 := w.1
    replace w := w.2
    refine ex_putf (q := 30) dX8_takeAim_27 fl_X8_65 (Or.inl rfl) s2 (Or.inr ⟨rfl, Or.inl rfl⟩) ?_
    refine ex_nmh (fun h3 eh3 => ?_)
    replace w := w h3 eh3
    refine ex_aload_n (q := 31) (x := a_0) dX8_takeAim_30 rfl ?_
    refine ex_iconst (q := 32) (v := (-1)) dX8_takeAim_31 (by decide) ?_
    refine ex_putf (q := 35) dX8_takeAim_32 fl_X8_68 (Or.inl rfl) (by rw [eh3]; exact s2) (Or.inl rfl) ?_
    refine ex_nmh (fun h4 eh4 => ?_)
    replace w := w h4 eh4
    refine ex_iload_n (q := 36) (x := u_0) dX8_takeAim_35 rfl ?_
    have s5 := w.1
    replace w := w.2
    exact ex_ireturn dX8_takeAim_36 rfl (Or.inr ⟨rfl, s5⟩) w
  · replace w := w.2 c1
    refine ex_aload_n (q := 18) (x := a_0) dX8_takeAim_17 rfl ?_
    refine ex_aload_n (q := 19) (x := a_0) dX8_takeAim_18 rfl ?_
    have s6 := w.1
    replace w := w.2
    refine ex_getf (q := 22) dX8_takeAim_19 fl_X8_68 s6 ?_
    refine ex_callV (q := 25) (M := mX8_takeAim) (hdd := Nat.le_refl _) (c := 8) (st := []) (bc := bc) (bs := bs) dX8_takeAim_22 rfl cl_X8_115 wd_1272 wd_1273 s6 w ?_
    rintro r h7 ⟨rfl, w⟩
    show ex_G mX8_takeAim (d + 2) 25 [.ref a_0, .int u_0] [] h7 bc bs Q
    refine ex_aload_n (q := 26) (x := a_0) dX8_takeAim_25 rfl ?_
    refine ex_iconst (q := 27) (v := 0) dX8_takeAim_26 (by decide) ?_
    have s8 := w.1
    replace w := w.2
    refine ex_putf (q := 30) dX8_takeAim_27 fl_X8_65 (Or.inl rfl) s8 (Or.inr ⟨rfl, Or.inl rfl⟩) ?_
    refine ex_nmh (fun h9 eh9 => ?_)
    replace w := w h9 eh9
    refine ex_aload_n (q := 31) (x := a_0) dX8_takeAim_30 rfl ?_
    refine ex_iconst (q := 32) (v := (-1)) dX8_takeAim_31 (by decide) ?_
    refine ex_putf (q := 35) dX8_takeAim_32 fl_X8_68 (Or.inl rfl) (by rw [eh9]; exact s8) (Or.inl rfl) ?_
    refine ex_nmh (fun h10 eh10 => ?_)
    replace w := w h10 eh10
    refine ex_iload_n (q := 36) (x := u_0) dX8_takeAim_35 rfl ?_
    have s11 := w.1
    replace w := w.2
    exact ex_ireturn dX8_takeAim_36 rfl (Or.inr ⟨rfl, s11⟩) w

theorem X8_takeAim_e {d bc bs : Nat} {h : AH} {Q : Option Value → AH → Prop} {a_0 : Nat} (w : ex_G mX8_takeAim (d + 2) 0 [.ref a_0, .retAddr 0] [] h bc bs Q) : ex_S yX8_takeAim mX8_takeAim (d + 2) [.ref a_0] h bc bs Q :=
  ex_enter (plainFor_of_name (by decide +kernel)) ⟨rfl, rfl⟩ rfl rfl (Nat.le_of_ble_eq_true rfl) (ex_pad 1 w)

set_option maxRecDepth 100000 in
theorem X8_go_0 {d bc bs : Nat} {h : AH} {Q : Option Value → AH → Prop} {a_0 : Nat} {v_1 : Int32} (w : ex_G mX8_go (d + 5) 4 [.ref a_0, .int v_1, .int 0, .int 0, .retAddr 0] [] h bc bs Q) : ex_G mX8_go (d + 5) 0 [.ref a_0, .int v_1, .retAddr 0, .retAddr 0, .retAddr 0] [] h bc bs Q := by
  refine ex_iconst (q := 1) (v := 0) dX8_go_0 (by decide) ?_
  refine ex_istore_n (q := 2) (ls' := [.ref a_0, .int v_1, .int 0, .retAddr 0, .retAddr 0]) dX8_go_1 rfl ?_
  refine ex_iconst (q := 3) (v := 0) dX8_go_2 (by decide) ?_
  refine ex_istore_n (q := 4) (ls' := [.ref a_0, .int v_1, .int 0, .int 0, .retAddr 0]) dX8_go_3 rfl ?_
  exact w

set_option maxRecDepth 100000 in
theorem X8_go_4 {d bc bs : Nat} {h : AH} {Q : Option Value → AH → Prop} {a_0 : Nat} {v_1 : Int32} {v_2 : Int32} {v_3 : Int32} (w : ((14500 < v_3 → ah_o h a_0 8 ∧ ∀ h3, h3 = ah_sf h a_0 12 ((ah_f h a_0 12) + v_2) → Q (some (.int v_2)) h3) ∧ (¬ 14500 < v_3 → ((v_1 ≤ v_2 → ah_o h a_0 8 ∧ ∀ h6, h6 = ah_sf h a_0 12 ((ah_f h a_0 12) + v_2) → Q (some (.int v_2)) h6) ∧ (¬ v_1 ≤ v_2 → ah_o h a_0 8 ∧ ((0 ≤ (ah_f h a_0 15) → ∀ h9, h9 = ah_sf h a_0 12 ((ah_f h a_0 12) + v_2) → Q (some (.int v_2)) h9) ∧ (¬ 0 ≤ (ah_f h a_0 15) → ∃ a10, ah_r h a_0 4 = some a10 ∧ ah_o h a10 7 ∧ (((ah_f h a_0 14) < (12 * (ah_f h a10 2)) → ∀ x13, x13 = ah_f h a_0 14 → ∀ h14, h14 = ah_sf h a_0 14 ((ah_f h a_0 14) + 1) → ∃ a15, ah_r h14 a_0 6 = some a15 ∧ ex_S yX5_seemsOpen mX5_seemsOpen (d + 4) [.ref a15, .int x13] h14 0 0 (fun r h16 => ∃ x17, r = some (.int x17) ∧ ((¬ x17 = 0 → ah_o h16 a_0 8 ∧ ∃ a20, ah_r h16 a_0 5 = some a20 ∧ ∃ a21, ah_r h16 a_0 4 = some a21 ∧ ah_o h16 a20 7 ∧ ex_S yX7_take mX7_take (d + 4) [.ref a20, .ref a21] h16 0 0 (fun r h22 => r = none ∧ ah_o h22 a_0 8 ∧ ∃ a25, ah_r h22 a_0 5 = some a25 ∧ ∃ a26, ah_r h22 a_0 6 = some a26 ∧ ex_S yX5_takeStep mX5_takeStep (d + 4) [.ref a25, .ref a26, .int x13] h22 0 0 (fun r h27 => ∃ x28, r = some (.int x28) ∧ ((x28 = 0 → ∀ x30, x30 = v_3 + 1 → ex_G mX8_go (d + 5) 4 [.ref a_0, .int v_1, .int v_2, .int x30, .retAddr 0] [] h27 (bc + 3) (bs + 103) Q) ∧ (¬ x28 = 0 → ∀ x31, x31 = v_2 + 1 → ah_o h27 a_0 8 ∧ ex_S yX8_keep mX8_keep (d + 4) [.ref a_0, .int (ah_f h27 a_0 13), .int x13] h27 3 103 (fun r h33 => r = none ∧ ∀ x34, x34 = v_3 + 1 → ex_G mX8_go (d + 5) 4 [.ref a_0, .int v_1, .int x31, .int x34, .retAddr 0] [] h33 bc bs Q)))))) ∧ (x17 = 0 → ∀ x35, x35 = v_3 + 1 → ex_G mX8_go (d + 5) 4 [.ref a_0, .int v_1, .int v_2, .int x35, .retAddr 0] [] h16 (bc + 3) (bs + 103) Q)))) ∧ (¬ (ah_f h a_0 14) < (12 * (ah_f h a10 2)) → ex_S yX8_enterNext mX8_enterNext (d + 4) [.ref a_0] h 0 0 (fun r h36 => ∃ x37, r = some (.int x37) ∧ ((¬ x37 = 0 → ∀ x39, x39 = v_3 + 1 → ex_G mX8_go (d + 5) 4 [.ref a_0, .int v_1, .int v_2, .int x39, .retAddr 0] [] h36 (bc + 3) (bs + 103) Q) ∧ (x37 = 0 → ah_o h36 a_0 8 ∧ ∀ h41, h41 = ah_sf h36 a_0 12 ((ah_f h36 a_0 12) + v_2) → Q (some (.int v_2)) h41)))))))))))) : ex_G mX8_go (d + 5) 4 [.ref a_0, .int v_1, .int v_2, .int v_3, .retAddr 0] [] h (bc + 3) (bs + 103) Q := by
  refine ex_iload_n (q := 5) (x := v_3) dX8_go_4 rfl ?_
  refine ex_sipush (q := 8) (v := 14500) dX8_go_5 (by decide) ?_
  refine ex_icmp_gt (tgt := 127) (q := 11) dX8_go_8 (fun c1 => ?_) (fun c1 => ?_)
  · replace w := w.1 c1
    refine ex_aload_n (q := 128) (x := a_0) dX8_go_127 rfl ?_
    refine ex_dup (q := 129) dX8_go_128 rfl ?_
    have s2 := w.1
    replace w := w.2
    refine ex_getf (q := 132) dX8_go_129 fl_X8_75 s2 ?_
    refine ex_iload_n (q := 133) (x := v_2) dX8_go_132 rfl ?_
    refine ex_iadd (q := 134) dX8_go_133 ?_
    refine ex_putf (q := 137) dX8_go_134 fl_X8_75 (Or.inl rfl) s2 (Or.inl rfl) ?_
    refine ex_nmh (fun h3 eh3 => ?_)
    replace w := w h3 eh3
    refine ex_iload_n (q := 138) (x := v_2) dX8_go_137 rfl ?_
    exact ex_ireturn dX8_go_138 rfl (Or.inl rfl) w
  · replace w := w.2 c1
    refine ex_iload_n (q := 12) (x := v_2) dX8_go_11 rfl ?_
    refine ex_iload_n (q := 13) (x := v_1) dX8_go_12 rfl ?_
    refine ex_icmp_ge (tgt := 127) (q := 16) dX8_go_13 (fun c4 => ?_) (fun c4 => ?_)
    · replace w := w.1 c4
      refine ex_aload_n (q := 128) (x := a_0) dX8_go_127 rfl ?_
      refine ex_dup (q := 129) dX8_go_128 rfl ?_
      have s5 := w.1
      replace w := w.2
      refine ex_getf (q := 132) dX8_go_129 fl_X8_75 s5 ?_
      refine ex_iload_n (q := 133) (x := v_2) dX8_go_132 rfl ?_
      refine ex_iadd (q := 134) dX8_go_133 ?_
      refine ex_putf (q := 137) dX8_go_134 fl_X8_75 (Or.inl rfl) s5 (Or.inl rfl) ?_
      refine ex_nmh (fun h6 eh6 => ?_)
      replace w := w h6 eh6
      refine ex_iload_n (q := 138) (x := v_2) dX8_go_137 rfl ?_
      exact ex_ireturn dX8_go_138 rfl (Or.inl rfl) w
    · replace w := w.2 c4
      refine ex_aload_n (q := 17) (x := a_0) dX8_go_16 rfl ?_
      have s7 := w.1
      replace w := w.2
      refine ex_getf (q := 20) dX8_go_17 fl_X8_68 s7 ?_
      refine ex_if_ge (tgt := 127) (q := 23) dX8_go_20 (fun c8 => ?_) (fun c8 => ?_)
      · replace w := w.1 c8
        refine ex_aload_n (q := 128) (x := a_0) dX8_go_127 rfl ?_
        refine ex_dup (q := 129) dX8_go_128 rfl ?_
        refine ex_getf (q := 132) dX8_go_129 fl_X8_75 s7 ?_
        refine ex_iload_n (q := 133) (x := v_2) dX8_go_132 rfl ?_
        refine ex_iadd (q := 134) dX8_go_133 ?_
        refine ex_putf (q := 137) dX8_go_134 fl_X8_75 (Or.inl rfl) s7 (Or.inl rfl) ?_
        refine ex_nmh (fun h9 eh9 => ?_)
        replace w := w h9 eh9
        refine ex_iload_n (q := 138) (x := v_2) dX8_go_137 rfl ?_
        exact ex_ireturn dX8_go_138 rfl (Or.inl rfl) w
      · replace w := w.2 c8
        refine ex_aload_n (q := 24) (x := a_0) dX8_go_23 rfl ?_
        refine ex_getf (q := 27) dX8_go_24 fl_X8_118 s7 ?_
        refine ex_bipush (q := 29) (v := 12) dX8_go_27 (by decide) ?_
        refine ex_aload_n (q := 30) (x := a_0) dX8_go_29 rfl ?_
        obtain ⟨a10, ea10, w⟩ := w
        refine ex_getr (q := 33) dX8_go_30 fl_X8_41 s7 ea10 ?_
        have s11 := w.1
        replace w := w.2
        refine ex_getf (q := 36) dX8_go_33 fl_X8_89 s11 ?_
        refine ex_imul (q := 37) dX8_go_36 ?_
        refine ex_icmp_lt (tgt := 50) (q := 40) dX8_go_37 (fun c12 => ?_) (fun c12 => ?_)
        · replace w := w.1 c12
          refine ex_aload_n (q := 51) (x := a_0) dX8_go_50 rfl ?_
          refine ex_getf (q := 54) dX8_go_51 fl_X8_118 s7 ?_
          refine ex_nmi (fun x13 ex13 => ?_)
          replace w := w x13 ex13
          refine ex_istore (q := 56) (ls' := [.ref a_0, .int v_1, .int v_2, .int v_3, .int x13]) dX8_go_54 rfl ?_
          refine ex_aload_n (q := 57) (x := a_0) dX8_go_56 rfl ?_
          refine ex_dup (q := 58) dX8_go_57 rfl ?_
          refine ex_getf (q := 61) dX8_go_58 fl_X8_118 s7 ?_
          refine ex_iconst (q := 62) (v := 1) dX8_go_61 (by decide) ?_
          refine ex_iadd (q := 63) dX8_go_62 ?_
          refine ex_putf (q := 66) dX8_go_63 fl_X8_118 (Or.inl rfl) s7 (Or.inl rfl) ?_
          refine ex_nmh (fun h14 eh14 => ?_)
          replace w := w h14 eh14
          refine ex_aload_n (q := 67) (x := a_0) dX8_go_66 rfl ?_
          obtain ⟨a15, ea15, w⟩ := w
          refine ex_getr (q := 70) dX8_go_67 fl_X8_51 (by rw [eh14]; exact s7) ea15 ?_
          refine ex_iload (q := 72) (x := x13) dX8_go_70 rfl ?_
          refine ex_callS (q := 75) (M := mX8_go) (hdd := Nat.le_refl _) (st := []) (bc := (bc + 3)) (bs := (bs + 103)) dX8_go_72 rfl cl_X8_125 wd_1250 w ?_
          rintro r h16 ⟨x17, rfl, w⟩
          show ex_G mX8_go (d + 5) 75 [.ref a_0, .int v_1, .int v_2, .int v_3, .int x13] [.int x17] h16 (bc + 3) (bs + 103) Q
          refine ex_if_ne (tgt := 81) (q := 78) dX8_go_75 (fun c18 => ?_) (fun c18 => ?_)
          · replace w := w.1 c18
            refine ex_aload_n (q := 82) (x := a_0) dX8_go_81 rfl ?_
            have s19 := w.1
            replace w := w.2
            obtain ⟨a20, ea20, w⟩ := w
            refine ex_getr (q := 85) dX8_go_82 fl_X8_45 s19 ea20 ?_
            refine ex_aload_n (q := 86) (x := a_0) dX8_go_85 rfl ?_
            obtain ⟨a21, ea21, w⟩ := w
            refine ex_getr (q := 89) dX8_go_86 fl_X8_41 s19 ea21 ?_
            have s23 := w.1
            replace w := w.2
            refine ex_callV (q := 92) (M := mX8_go) (hdd := Nat.le_refl _) (c := 7) (st := []) (bc := (bc + 3)) (bs := (bs + 103)) dX8_go_89 rfl cl_X8_78 wd_568 wd_569 s23 w ?_
            rintro r h22 ⟨rfl, w⟩
            show ex_G mX8_go (d + 5) 92 [.ref a_0, .int v_1, .int v_2, .int v_3, .int x13] [] h22 (bc + 3) (bs + 103) Q
            refine ex_aload_n (q := 93) (x := a_0) dX8_go_92 rfl ?_
            have s24 := w.1
            replace w := w.2
            obtain ⟨a25, ea25, w⟩ := w
            refine ex_getr (q := 96) dX8_go_93 fl_X8_45 s24 ea25 ?_
            refine ex_aload_n (q := 97) (x := a_0) dX8_go_96 rfl ?_
            obtain ⟨a26, ea26, w⟩ := w
            refine ex_getr (q := 100) dX8_go_97 fl_X8_51 s24 ea26 ?_
            refine ex_iload (q := 102) (x := x13) dX8_go_100 rfl ?_
            refine ex_callS (q := 105) (M := mX8_go) (hdd := Nat.le_refl _) (st := []) (bc := (bc + 3)) (bs := (bs + 103)) dX8_go_102 rfl cl_X8_131 wd_1253 w ?_
            rintro r h27 ⟨x28, rfl, w⟩
            show ex_G mX8_go (d + 5) 105 [.ref a_0, .int v_1, .int v_2, .int v_3, .int x13] [.int x28] h27 (bc + 3) (bs + 103) Q
            refine ex_if_eq (tgt := 121) (q := 108) dX8_go_105 (fun c29 => ?_) (fun c29 => ?_)
            · replace w := w.1 c29
              obtain ⟨x30, ex30⟩ : ∃ y : Int32, y = v_3 + 1 := ⟨_, rfl⟩
              replace w := w x30 ex30
              refine ex_iinc (q := 124) (x := v_3) (v := x30) (ls' := [.ref a_0, .int v_1, .int v_2, .int x30, .int x13]) dX8_go_121 rfl (by rw [ex30]; rfl) rfl ?_
              refine ex_goto (tgt := 4) dX8_go_124 ?_
              refine ex_kill 4 (ls' := [.ref a_0, .int v_1, .int v_2, .int x30, .retAddr 0]) rfl ?_
              exact w
            · replace w := w.2 c29
              obtain ⟨x31, ex31⟩ : ∃ y : Int32, y = v_2 + 1 := ⟨_, rfl⟩
              replace w := w x31 ex31
              refine ex_iinc (q := 111) (x := v_2) (v := x31) (ls' := [.ref a_0, .int v_1, .int x31, .int v_3, .int x13]) dX8_go_108 rfl (by rw [ex31]; rfl) rfl ?_
              refine ex_aload_n (q := 112) (x := a_0) dX8_go_111 rfl ?_
              refine ex_aload_n (q := 113) (x := a_0) dX8_go_112 rfl ?_
              have s32 := w.1
              replace w := w.2
              refine ex_getf (q := 116) dX8_go_113 fl_X8_135 s32 ?_
              refine ex_iload (q := 118) (x := x13) dX8_go_116 rfl ?_
              refine ex_G.room (bc' := bc + 3) (bs' := bs + 103) (Nat.le_refl _) (Nat.le_refl _) (Nat.le_refl _) ?_
              refine ex_callV (q := 121) (M := mX8_go) (hdd := Nat.le_refl _) (c := 8) (st := []) (bc := bc) (bs := bs) dX8_go_118 rfl cl_X8_82 wd_1212 wd_41 s32 w ?_
              rintro r h33 ⟨rfl, w⟩
              show ex_G mX8_go (d + 5) 121 [.ref a_0, .int v_1, .int x31, .int v_3, .int x13] [] h33 bc bs Q
              obtain ⟨x34, ex34⟩ : ∃ y : Int32, y = v_3 + 1 := ⟨_, rfl⟩
              replace w := w x34 ex34
              refine ex_iinc (q := 124) (x := v_3) (v := x34) (ls' := [.ref a_0, .int v_1, .int x31, .int x34, .int x13]) dX8_go_121 rfl (by rw [ex34]; rfl) rfl ?_
              refine ex_goto (tgt := 4) dX8_go_124 ?_
              refine ex_kill 4 (ls' := [.ref a_0, .int v_1, .int x31, .int x34, .retAddr 0]) rfl ?_
              exact w
          · replace w := w.2 c18
            refine ex_goto (tgt := 121) dX8_go_78 ?_
            obtain ⟨x35, ex35⟩ : ∃ y : Int32, y = v_3 + 1 := ⟨_, rfl⟩
            replace w := w x35 ex35
            refine ex_iinc (q := 124) (x := v_3) (v := x35) (ls' := [.ref a_0, .int v_1, .int v_2, .int x35, .int x13]) dX8_go_121 rfl (by rw [ex35]; rfl) rfl ?_
            refine ex_goto (tgt := 4) dX8_go_124 ?_
            refine ex_kill 4 (ls' := [.ref a_0, .int v_1, .int v_2, .int x35, .retAddr 0]) rfl ?_
            exact w
        · replace w := w.2 c12
          refine ex_aload_n (q := 41) (x := a_0) dX8_go_40 rfl ?_
          refine ex_callV (q := 44) (M := mX8_go) (hdd := Nat.le_refl _) (c := 8) (st := []) (bc := (bc + 3)) (bs := (bs + 103)) dX8_go_41 rfl cl_X8_121 wd_1247 wd_43 s7 w ?_
          rintro r h36 ⟨x37, rfl, w⟩
          show ex_G mX8_go (d + 5) 44 [.ref a_0, .int v_1, .int v_2, .int v_3, .retAddr 0] [.int x37] h36 (bc + 3) (bs + 103) Q
          refine ex_if_ne (tgt := 121) (q := 47) dX8_go_44 (fun c38 => ?_) (fun c38 => ?_)
          · replace w := w.1 c38
            obtain ⟨x39, ex39⟩ : ∃ y : Int32, y = v_3 + 1 := ⟨_, rfl⟩
            replace w := w x39 ex39
            refine ex_iinc (q := 124) (x := v_3) (v := x39) (ls' := [.ref a_0, .int v_1, .int v_2, .int x39, .retAddr 0]) dX8_go_121 rfl (by rw [ex39]; rfl) rfl ?_
            refine ex_goto (tgt := 4) dX8_go_124 ?_
            exact w
          · replace w := w.2 c38
            refine ex_goto (tgt := 127) dX8_go_47 ?_
            refine ex_aload_n (q := 128) (x := a_0) dX8_go_127 rfl ?_
            refine ex_dup (q := 129) dX8_go_128 rfl ?_
            have s40 := w.1
            replace w := w.2
            refine ex_getf (q := 132) dX8_go_129 fl_X8_75 s40 ?_
            refine ex_iload_n (q := 133) (x := v_2) dX8_go_132 rfl ?_
            refine ex_iadd (q := 134) dX8_go_133 ?_
            refine ex_putf (q := 137) dX8_go_134 fl_X8_75 (Or.inl rfl) s40 (Or.inl rfl) ?_
            refine ex_nmh (fun h41 eh41 => ?_)
            replace w := w h41 eh41
            refine ex_iload_n (q := 138) (x := v_2) dX8_go_137 rfl ?_
            exact ex_ireturn dX8_go_138 rfl (Or.inl rfl) w

theorem X8_go_e {d bc bs : Nat} {h : AH} {Q : Option Value → AH → Prop} {a_0 : Nat} {v_1 : Int32} (w : ex_G mX8_go (d + 5) 0 [.ref a_0, .int v_1, .retAddr 0, .retAddr 0, .retAddr 0] [] h bc bs Q) : ex_S yX8_go mX8_go (d + 5) [.ref a_0, .int v_1] h bc bs Q :=
  ex_enter (plainFor_of_name (by decide +kernel)) ⟨rfl, rfl⟩ rfl rfl (Nat.le_of_ble_eq_true rfl) (ex_pad 3 w)

set_option maxRecDepth 100000 in
theorem X8_enterNext_0 {d bc bs : Nat} {h : AH} {Q : Option Value → AH → Prop} {a_0 : Nat} (w : ah_o h a_0 8 ∧ ((((ah_f h a_0 13) + 1) < (ah_f h a_0 11) → ex_G mX8_enterNext (d + 4) 19 [.ref a_0] [.int 0, .ref a_0] h bc bs Q) ∧ (¬ ((ah_f h a_0 13) + 1) < (ah_f h a_0 11) → ex_G mX8_enterNext (d + 4) 19 [.ref a_0] [.int 1, .ref a_0] h bc bs Q))) : ex_G mX8_enterNext (d + 4) 0 [.ref a_0] [] h bc bs Q := by
  refine ex_aload_n (q := 1) (x := a_0) dX8_enterNext_0 rfl ?_
  refine ex_aload_n (q := 2) (x := a_0) dX8_enterNext_1 rfl ?_
  have s1 := w.1
  replace w := w.2
  refine ex_getf (q := 5) dX8_enterNext_2 fl_X8_135 s1 ?_
  refine ex_iconst (q := 6) (v := 1) dX8_enterNext_5 (by decide) ?_
  refine ex_iadd (q := 7) dX8_enterNext_6 ?_
  refine ex_aload_n (q := 8) (x := a_0) dX8_enterNext_7 rfl ?_
  refine ex_getf (q := 11) dX8_enterNext_8 fl_X8_72 s1 ?_
  refine ex_icmp_lt (tgt := 18) (q := 14) dX8_enterNext_11 (fun c2 => ?_) (fun c2 => ?_)
  · replace w := w.1 c2
    refine ex_iconst (q := 19) (v := 0) dX8_enterNext_18 (by decide) ?_
    exact w
  · replace w := w.2 c2
    refine ex_iconst (q := 15) (v := 1) dX8_enterNext_14 (by decide) ?_
    refine ex_goto (tgt := 19) dX8_enterNext_15 ?_
    exact w

set_option maxRecDepth 100000 in
theorem X8_enterNext_19 {d bc bs : Nat} {h : AH} {Q : Option Value → AH → Prop} {a_0 : Nat} {u_0 : Int32} {b_1 : Nat} (w : ah_o h b_1 8 ∧ bo u_0 ∧ ∀ h2, h2 = ah_sf h b_1 9 u_0 → ah_o h2 a_0 8 ∧ ((¬ (ah_f h2 a_0 9) = 0 → ex_G mX8_enterNext (d + 4) 39 [.ref a_0] [] h2 bc bs Q) ∧ ((ah_f h2 a_0 9) = 0 → ex_S yX8_enter mX8_enter (d + 3) [.ref a_0, .int ((ah_f h2 a_0 13) + 1)] h2 0 0 (fun r h6 => r = none ∧ ex_G mX8_enterNext (d + 4) 39 [.ref a_0] [] h6 bc bs Q)))) : ex_G mX8_enterNext (d + 4) 19 [.ref a_0] [.int u_0, .ref b_1] h bc bs Q := by
  have s1 := w.1
  replace w := w.2
  have s3 := w.1
  replace w := w.2
  refine ex_putf (q := 22) dX8_enterNext_19 fl_X8_62 (Or.inl rfl) s1 (Or.inr ⟨rfl, s3⟩) ?_
  refine ex_nmh (fun h2 eh2 => ?_)
  replace w := w h2 eh2
  refine ex_aload_n (q := 23) (x := a_0) dX8_enterNext_22 rfl ?_
  have s4 := w.1
  replace w := w.2
  refine ex_getf (q := 26) dX8_enterNext_23 fl_X8_62 s4 ?_
  refine ex_if_ne (tgt := 39) (q := 29) dX8_enterNext_26 (fun c5 => ?_) (fun c5 => ?_)
  · replace w := w.1 c5
    exact w
  · replace w := w.2 c5
    refine ex_aload_n (q := 30) (x := a_0) dX8_enterNext_29 rfl ?_
    refine ex_aload_n (q := 31) (x := a_0) dX8_enterNext_30 rfl ?_
    refine ex_getf (q := 34) dX8_enterNext_31 fl_X8_135 s4 ?_
    refine ex_iconst (q := 35) (v := 1) dX8_enterNext_34 (by decide) ?_
    refine ex_iadd (q := 36) dX8_enterNext_35 ?_
    refine ex_callV (q := 39) (M := mX8_enterNext) (hdd := Nat.le_refl _) (c := 8) (st := []) (bc := bc) (bs := bs) dX8_enterNext_36 rfl cl_X8_86 wd_1233 wd_42 s4 w ?_
    rintro r h6 ⟨rfl, w⟩
    show ex_G mX8_enterNext (d + 4) 39 [.ref a_0] [] h6 bc bs Q
    exact w

set_option maxRecDepth 100000 in
theorem X8_enterNext_39 {d bc bs : Nat} {h : AH} {Q : Option Value → AH → Prop} {a_0 : Nat} (w : ah_o h a_0 8 ∧ ((¬ (ah_f h a_0 9) = 0 → Q (some (.int 0)) h) ∧ ((ah_f h a_0 9) = 0 → Q (some (.int 1)) h))) : ex_G mX8_enterNext (d + 4) 39 [.ref a_0] [] h bc bs Q := by
  refine ex_aload_n (q := 40) (x := a_0) dX8_enterNext_39 rfl ?_
  have s1 := w.1
  replace w := w.2
  refine ex_getf (q := 43) dX8_enterNext_40 fl_X8_62 s1 ?_
  refine ex_if_ne (tgt := 50) (q := 46) dX8_enterNext_43 (fun c2 => ?_) (fun c2 => ?_)
  · replace w := w.1 c2
    refine ex_iconst (q := 51) (v := 0) dX8_enterNext_50 (by decide) ?_
    exact ex_ireturn dX8_enterNext_51 rfl (Or.inr ⟨rfl, Or.inl rfl⟩) w
  · replace w := w.2 c2
    refine ex_iconst (q := 47) (v := 1) dX8_enterNext_46 (by decide) ?_
    refine ex_goto (tgt := 51) dX8_enterNext_47 ?_
    exact ex_ireturn dX8_enterNext_51 rfl (Or.inr ⟨rfl, Or.inr rfl⟩) w

theorem X8_enterNext_e {d bc bs : Nat} {h : AH} {Q : Option Value → AH → Prop} {a_0 : Nat} (w : ex_G mX8_enterNext (d + 4) 0 [.ref a_0] [] h bc bs Q) : ex_S yX8_enterNext mX8_enterNext (d + 4) [.ref a_0] h bc bs Q :=
  ex_enter (plainFor_of_name (by decide +kernel)) ⟨rfl, rfl⟩ rfl rfl (Nat.le_of_ble_eq_true rfl) (ex_pad 0 w)

set_option maxRecDepth 100000 in
theorem X8_enter_0 {d bc bs : Nat} {h : AH} {Q : Option Value → AH → Prop} {a_0 : Nat} {v_1 : Int32} (w : ah_o h a_0 8 ∧ ∀ h2, h2 = ah_sf h a_0 13 v_1 → ∀ h3, h3 = ah_sf h2 a_0 14 0 → ∃ a4, ah_r h3 a_0 0 = some a4 ∧ ld3 h3 14 a4 v_1 ∧ ∃ a6, ah_q h3 a4 (Int32.toNatClampNeg v_1) = some a6 ∧ ∃ a7, ah_r h3 a_0 4 = some a7 ∧ ah_o h3 a6 10 ∧ ex_S yX10_pourInto mX10_pourInto (d + 2) [.ref a6, .ref a7] h3 0 0 (fun r h8 => r = none ∧ ah_o h8 a_0 8 ∧ ∃ a11, ah_r h8 a_0 6 = some a11 ∧ ∃ a12, ah_r h8 a_0 4 = some a12 ∧ ah_o h8 a11 4 ∧ ex_S yX4_pairUp mX4_pairUp (d + 2) [.ref a11, .ref a12] h8 0 0 (fun r h13 => r = none ∧ Q none h13))) : ex_G mX8_enter (d + 3) 0 [.ref a_0, .int v_1] [] h bc bs Q := by
  refine ex_aload_n (q := 1) (x := a_0) dX8_enter_0 rfl ?_
  refine ex_iload_n (q := 2) (x := v_1) dX8_enter_1 rfl ?_
  have s1 := w.1
  replace w := w.2
  refine ex_putf (q := 5) dX8_enter_2 fl_X8_135 (Or.inl rfl) s1 (Or.inl rfl) ?_
  refine ex_nmh (fun h2 eh2 => ?_)
  replace w := w h2 eh2
  refine ex_aload_n (q := 6) (x := a_0) dX8_enter_5 rfl ?_
  refine ex_iconst (q := 7) (v := 0) dX8_enter_6 (by decide) ?_
  refine ex_putf (q := 10) dX8_enter_7 fl_X8_118 (Or.inl rfl) (by rw [eh2]; exact s1) (Or.inl rfl) ?_
  refine ex_nmh (fun h3 eh3 => ?_)
  replace w := w h3 eh3
  refine ex_aload_n (q := 11) (x := a_0) dX8_enter_10 rfl ?_
  obtain ⟨a4, ea4, w⟩ := w
  refine ex_getr (q := 14) dX8_enter_11 fl_X8_11 (by rw [eh3]; exact (by rw [eh2]; exact s1)) ea4 ?_
  refine ex_iload_n (q := 15) (x := v_1) dX8_enter_14 rfl ?_
  have s5 := w.1
  replace w := w.2
  obtain ⟨a6, ea6, w⟩ := w
  refine ex_aald (q := 16) dX8_enter_15 s5 ea6 ?_
  refine ex_aload_n (q := 17) (x := a_0) dX8_enter_16 rfl ?_
  obtain ⟨a7, ea7, w⟩ := w
  refine ex_getr (q := 20) dX8_enter_17 fl_X8_41 (by rw [eh3]; exact (by rw [eh2]; exact s1)) ea7 ?_
  have s9 := w.1
  replace w := w.2
  refine ex_callV (q := 23) (M := mX8_enter) (hdd := Nat.le_refl _) (c := 10) (st := []) (bc := bc) (bs := bs) dX8_enter_20 rfl cl_X8_138 wd_1236 wd_1237 s9 w ?_
  rintro r h8 ⟨rfl, w⟩
  show ex_G mX8_enter (d + 3) 23 [.ref a_0, .int v_1] [] h8 bc bs Q
  refine ex_aload_n (q := 24) (x := a_0) dX8_enter_23 rfl ?_
  have s10 := w.1
  replace w := w.2
  obtain ⟨a11, ea11, w⟩ := w
  refine ex_getr (q := 27) dX8_enter_24 fl_X8_51 s10 ea11 ?_
  refine ex_aload_n (q := 28) (x := a_0) dX8_enter_27 rfl ?_
  obtain ⟨a12, ea12, w⟩ := w
  refine ex_getr (q := 31) dX8_enter_28 fl_X8_41 s10 ea12 ?_
  have s14 := w.1
  replace w := w.2
  refine ex_callV (q := 34) (M := mX8_enter) (hdd := Nat.le_refl _) (c := 4) (st := []) (bc := bc) (bs := bs) dX8_enter_31 rfl cl_X8_92 wd_651 wd_652 s14 w ?_
  rintro r h13 ⟨rfl, w⟩
  show ex_G mX8_enter (d + 3) 34 [.ref a_0, .int v_1] [] h13 bc bs Q
  exact ex_return dX8_enter_34 w

theorem X8_enter_e {d bc bs : Nat} {h : AH} {Q : Option Value → AH → Prop} {a_0 : Nat} {v_1 : Int32} (w : ex_G mX8_enter (d + 3) 0 [.ref a_0, .int v_1] [] h bc bs Q) : ex_S yX8_enter mX8_enter (d + 3) [.ref a_0, .int v_1] h bc bs Q :=
  ex_enter (plainFor_of_name (by decide +kernel)) ⟨rfl, rfl⟩ rfl rfl (Nat.le_of_ble_eq_true rfl) (ex_pad 0 w)

set_option maxRecDepth 100000 in
theorem X8_keep_0 {d bc bs : Nat} {h : AH} {Q : Option Value → AH → Prop} {a_0 : Nat} {v_1 : Int32} {v_2 : Int32} (w : ah_o h a_0 8 ∧ (((ah_f h a_0 11) < 100 → ∃ a3, ah_r h a_0 0 = some a3 ∧ ld3 h 14 a3 (ah_f h a_0 11) ∧ ((∀ a6, ah_q h a3 (Int32.toNatClampNeg (ah_f h a_0 11)) = some a6 → ex_G mX8_keep (d + 4) 38 [.ref a_0, .int v_1, .int v_2, .retAddr 0, .retAddr 0] [] h (bc + 3) (bs + 103) Q) ∧ (ah_q h a3 (Int32.toNatClampNeg (ah_f h a_0 11)) = none → ah_n h < 10000000 ∧ ∀ h8, h8 = ah_no h 10 → ex_S yX10_init mX10_init (d + 3) [.ref (ah_n h)] h8 2 96 (fun r h9 => r = none ∧ ld3 h9 14 a3 (ah_f h a_0 11) ∧ ah_o h9 (ah_n h) 10 ∧ ∀ h10, h10 = ah_sq h9 a3 (Int32.toNatClampNeg (ah_f h a_0 11)) (some (ah_n h)) → ex_G mX8_keep (d + 4) 38 [.ref a_0, .int v_1, .int v_2, .retAddr 0, .retAddr 0] [] h10 bc bs Q)))) ∧ (¬ (ah_f h a_0 11) < 100 → Q none h))) : ex_G mX8_keep (d + 4) 0 [.ref a_0, .int v_1, .int v_2, .retAddr 0, .retAddr 0] [] h (bc + 3) (bs + 103) Q := by
  refine ex_aload_n (q := 1) (x := a_0) dX8_keep_0 rfl ?_
  have s1 := w.1
  replace w := w.2
  refine ex_getf (q := 4) dX8_keep_1 fl_X8_72 s1 ?_
  refine ex_bipush (q := 6) (v := 100) dX8_keep_4 (by decide) ?_
  refine ex_icmp_lt (tgt := 10) (q := 9) dX8_keep_6 (fun c2 => ?_) (fun c2 => ?_)
  · replace w := w.1 c2
    refine ex_aload_n (q := 11) (x := a_0) dX8_keep_10 rfl ?_
    obtain ⟨a3, ea3, w⟩ := w
    refine ex_getr (q := 14) dX8_keep_11 fl_X8_11 s1 ea3 ?_
    refine ex_aload_n (q := 15) (x := a_0) dX8_keep_14 rfl ?_
    refine ex_getf (q := 18) dX8_keep_15 fl_X8_72 s1 ?_
    have s4 := w.1
    replace w := w.2
    refine ex_aaldq (q := 19) dX8_keep_18 s4 ?_
    refine ex_ifnonnull (tgt := 38) (q := 22) dX8_keep_19 (fun a6 c5 => ?_) (fun c5 => ?_)
    · replace w := w.1 a6 c5
      exact w
    · replace w := w.2 c5
      refine ex_aload_n (q := 23) (x := a_0) dX8_keep_22 rfl ?_
      refine ex_getr (q := 26) dX8_keep_23 fl_X8_11 s1 ea3 ?_
      refine ex_aload_n (q := 27) (x := a_0) dX8_keep_26 rfl ?_
      refine ex_getf (q := 30) dX8_keep_27 fl_X8_72 s1 ?_
      have s7 := w.1
      replace w := w.2
      refine ex_G.room (bc' := (bc + 2) + 1) (bs' := (bs + 96) + 7) (Nat.le_refl _) (rm_le rfl) (rm_le rfl) ?_
      refine ex_new (q := 33) (c := 10) (M := mX8_keep) dX8_keep_30 wd_354 wd_356 wd_123 s7 ?_
      refine ex_nmh (fun h8 eh8 => ?_)
      replace w := w h8 eh8
      refine ex_dup (q := 34) dX8_keep_33 rfl ?_
      refine ex_G.room (bc' := bc + 2) (bs' := bs + 96) (Nat.le_refl _) (Nat.le_refl _) (Nat.le_refl _) ?_
      refine ex_callI (q := 37) (M := mX8_keep) (hdd := Nat.le_refl _) (st := [.ref (ah_n h), .int (ah_f h a_0 11), .ref a3]) (bc := bc) (bs := bs) dX8_keep_34 rfl cl_X8_17 wd_358 rfl rfl w ?_
      rintro r h9 ⟨rfl, w⟩
      show ex_G mX8_keep (d + 4) 37 [.ref a_0, .int v_1, .int v_2, .retAddr 0, .retAddr 0] [.ref (ah_n h), .int (ah_f h a_0 11), .ref a3] h9 bc bs Q
      have s11 := w.1
      replace w := w.2
      have s12 := w.1
      replace w := w.2
      refine ex_aast (q := 38) (c := 10) dX8_keep_37 s11 s12 ?_
      refine ex_nmh (fun h10 eh10 => ?_)
      replace w := w h10 eh10
      exact w
  · replace w := w.2 c2
    exact ex_return dX8_keep_9 w

set_option maxRecDepth 100000 in
theorem X8_keep_38 {d bc bs : Nat} {h : AH} {Q : Option Value → AH → Prop} {a_0 : Nat} {v_1 : Int32} {v_2 : Int32} (w : ah_o h a_0 8 ∧ ∃ a2, ah_r h a_0 0 = some a2 ∧ ld3 h 14 a2 (ah_f h a_0 11) ∧ ∃ a4, ah_q h a2 (Int32.toNatClampNeg (ah_f h a_0 11)) = some a4 ∧ ∃ a5, ah_r h a_0 7 = some a5 ∧ ∃ a6, ah_r h a_0 5 = some a6 ∧ ah_o h a5 4 ∧ ex_S yX4_pairUp mX4_pairUp (d + 3) [.ref a5, .ref a6] h 0 0 (fun r h7 => r = none ∧ ah_o h7 a_0 8 ∧ ∃ a10, ah_r h7 a_0 7 = some a10 ∧ ah_o h7 a10 4 ∧ ex_S yX4_findRegions mX4_findRegions (d + 3) [.ref a10] h7 0 0 (fun r h11 => r = none ∧ ah_o h11 a_0 8 ∧ ∃ a14, ah_r h11 a_0 5 = some a14 ∧ ∃ a15, ah_r h11 a_0 7 = some a15 ∧ ah_o h11 a4 10 ∧ ex_S yX10_hold mX10_hold (d + 3) [.ref a4, .ref a14, .ref a15] h11 0 0 (fun r h16 => r = none ∧ ex_G mX8_keep (d + 4) 81 [.ref a_0, .int v_1, .int v_2, .ref a4, .int 0] [] h16 bc bs Q)))) : ex_G mX8_keep (d + 4) 38 [.ref a_0, .int v_1, .int v_2, .retAddr 0, .retAddr 0] [] h bc bs Q := by
  refine ex_aload_n (q := 39) (x := a_0) dX8_keep_38 rfl ?_
  have s1 := w.1
  replace w := w.2
  obtain ⟨a2, ea2, w⟩ := w
  refine ex_getr (q := 42) dX8_keep_39 fl_X8_11 s1 ea2 ?_
  refine ex_aload_n (q := 43) (x := a_0) dX8_keep_42 rfl ?_
  refine ex_getf (q := 46) dX8_keep_43 fl_X8_72 s1 ?_
  have s3 := w.1
  replace w := w.2
  obtain ⟨a4, ea4, w⟩ := w
  refine ex_aald (q := 47) dX8_keep_46 s3 ea4 ?_
  refine ex_astore_n (q := 48) (ls' := [.ref a_0, .int v_1, .int v_2, .ref a4, .retAddr 0]) dX8_keep_47 rfl ?_
  refine ex_aload_n (q := 49) (x := a_0) dX8_keep_48 rfl ?_
  obtain ⟨a5, ea5, w⟩ := w
  refine ex_getr (q := 52) dX8_keep_49 fl_X8_55 s1 ea5 ?_
  refine ex_aload_n (q := 53) (x := a_0) dX8_keep_52 rfl ?_
  obtain ⟨a6, ea6, w⟩ := w
  refine ex_getr (q := 56) dX8_keep_53 fl_X8_45 s1 ea6 ?_
  have s8 := w.1
  replace w := w.2
  refine ex_callV (q := 59) (M := mX8_keep) (hdd := Nat.le_refl _) (c := 4) (st := []) (bc := bc) (bs := bs) dX8_keep_56 rfl cl_X8_92 wd_651 wd_652 s8 w ?_
  rintro r h7 ⟨rfl, w⟩
  show ex_G mX8_keep (d + 4) 59 [.ref a_0, .int v_1, .int v_2, .ref a4, .retAddr 0] [] h7 bc bs Q
  refine ex_aload_n (q := 60) (x := a_0) dX8_keep_59 rfl ?_
  have s9 := w.1
  replace w := w.2
  obtain ⟨a10, ea10, w⟩ := w
  refine ex_getr (q := 63) dX8_keep_60 fl_X8_55 s9 ea10 ?_
  have s12 := w.1
  replace w := w.2
  refine ex_callV (q := 66) (M := mX8_keep) (hdd := Nat.le_refl _) (c := 4) (st := []) (bc := bc) (bs := bs) dX8_keep_63 rfl cl_X8_95 wd_655 wd_656 s12 w ?_
  rintro r h11 ⟨rfl, w⟩
  show ex_G mX8_keep (d + 4) 66 [.ref a_0, .int v_1, .int v_2, .ref a4, .retAddr 0] [] h11 bc bs Q
  refine ex_aload_n (q := 67) (x := a4) dX8_keep_66 rfl ?_
  refine ex_aload_n (q := 68) (x := a_0) dX8_keep_67 rfl ?_
  have s13 := w.1
  replace w := w.2
  obtain ⟨a14, ea14, w⟩ := w
  refine ex_getr (q := 71) dX8_keep_68 fl_X8_45 s13 ea14 ?_
  refine ex_aload_n (q := 72) (x := a_0) dX8_keep_71 rfl ?_
  obtain ⟨a15, ea15, w⟩ := w
  refine ex_getr (q := 75) dX8_keep_72 fl_X8_55 s13 ea15 ?_
  have s17 := w.1
  replace w := w.2
  refine ex_callV (q := 78) (M := mX8_keep) (hdd := Nat.le_refl _) (c := 10) (st := []) (bc := bc) (bs := bs) dX8_keep_75 rfl cl_X8_98 wd_1217 wd_1218 s17 w ?_
  rintro r h16 ⟨rfl, w⟩
  show ex_G mX8_keep (d + 4) 78 [.ref a_0, .int v_1, .int v_2, .ref a4, .retAddr 0] [] h16 bc bs Q
  refine ex_iconst (q := 79) (v := 0) dX8_keep_78 (by decide) ?_
  refine ex_istore (q := 81) (ls' := [.ref a_0, .int v_1, .int v_2, .ref a4, .int 0]) dX8_keep_79 rfl ?_
  exact w

set_option maxRecDepth 100000 in
theorem X8_keep_81 {d bc bs : Nat} {h : AH} {Q : Option Value → AH → Prop} {a_0 : Nat} {v_1 : Int32} {v_2 : Int32} {a_3 : Nat} {v_4 : Int32} (w : ah_o h a_0 8 ∧ (((ah_f h a_0 11) ≤ v_4 → ah_o h a_3 10 ∧ ∀ h4, h4 = ah_sf h a_3 5 v_1 → ∀ h5, h5 = ah_sf h4 a_3 6 v_2 → ∀ h6, h6 = ah_sf h5 a_0 11 ((ah_f h5 a_0 11) + 1) → (((ah_f h6 a_0 10) = 0 → Q none h6) ∧ (¬ (ah_f h6 a_0 10) = 0 → ∃ a8, ah_r h6 a_0 1 = some a8 ∧ X10_sharesMark_C a_3 a8 h6 ∧ (((X10_sharesMark_V a_3 a8 h6) = 0 → Q none h6) ∧ (¬ (X10_sharesMark_V a_3 a8 h6) = 0 → ∃ a11, ah_r h6 a_0 2 = some a11 ∧ ∃ a12, ah_r h6 a_3 1 = some a12 ∧ ah_o h6 a8 10 ∧ ∃ a14, ah_r h6 a8 1 = some a14 ∧ ah_o h6 a11 3 ∧ ex_S yX3_holds mX3_holds (d + 3) [.ref a11, .ref a12, .ref a14, .int (ah_f h6 a8 2)] h6 0 0 (fun r h15 => ∃ x17, r = some (.int x17) ∧ ((x17 = 0 → Q none h15) ∧ (¬ x17 = 0 → ah_o h15 a_0 8 ∧ ∀ h20, h20 = ah_sf h15 a_0 15 ((ah_f h15 a_0 11) - 1) → Q none h20)))))))) ∧ (¬ (ah_f h a_0 11) ≤ v_4 → ∃ a21, ah_r h a_0 0 = some a21 ∧ ld3 h 14 a21 v_4 ∧ ∃ a23, ah_q h a21 (Int32.toNatClampNeg v_4) = some a23 ∧ ah_o h a23 10 ∧ X10_sharesMark_C a23 a_3 h ∧ (((X10_sharesMark_V a23 a_3 h) = 0 → ∀ x27, x27 = v_4 + 1 → ex_G mX8_keep (d + 4) 81 [.ref a_0, .int v_1, .int v_2, .ref a_3, .int x27] [] h bc bs Q) ∧ (¬ (X10_sharesMark_V a23 a_3 h) = 0 → ∃ a28, ah_r h a_0 2 = some a28 ∧ ∃ a29, ah_q h a21 (Int32.toNatClampNeg v_4) = some a29 ∧ ah_o h a29 10 ∧ ∃ a31, ah_r h a29 1 = some a31 ∧ ah_o h a_3 10 ∧ ∃ a33, ah_r h a_3 1 = some a33 ∧ ah_o h a28 3 ∧ ex_S yX3_holds mX3_holds (d + 3) [.ref a28, .ref a31, .ref a33, .int (ah_f h a_3 2)] h 0 0 (fun r h34 => ∃ x36, r = some (.int x36) ∧ ((x36 = 0 → ∀ x38, x38 = v_4 + 1 → ex_G mX8_keep (d + 4) 81 [.ref a_0, .int v_1, .int v_2, .ref a_3, .int x38] [] h34 bc bs Q) ∧ (¬ x36 = 0 → Q none h34)))))))) : ex_G mX8_keep (d + 4) 81 [.ref a_0, .int v_1, .int v_2, .ref a_3, .int v_4] [] h bc bs Q := by
  refine ex_iload (q := 83) (x := v_4) dX8_keep_81 rfl ?_
  refine ex_aload_n (q := 84) (x := a_0) dX8_keep_83 rfl ?_
  have s1 := w.1
  replace w := w.2
  refine ex_getf (q := 87) dX8_keep_84 fl_X8_72 s1 ?_
  refine ex_icmp_ge (tgt := 139) (q := 90) dX8_keep_87 (fun c2 => ?_) (fun c2 => ?_)
  · replace w := w.1 c2
    refine ex_aload_n (q := 140) (x := a_3) dX8_keep_139 rfl ?_
    refine ex_iload_n (q := 141) (x := v_1) dX8_keep_140 rfl ?_
    have s3 := w.1
    replace w := w.2
    refine ex_putf (q := 144) dX8_keep_141 fl_X8_141 (Or.inl rfl) s3 (Or.inl rfl) ?_
    refine ex_nmh (fun h4 eh4 => ?_)
    replace w := w h4 eh4
    refine ex_aload_n (q := 145) (x := a_3) dX8_keep_144 rfl ?_
    refine ex_iload_n (q := 146) (x := v_2) dX8_keep_145 rfl ?_
    refine ex_putf (q := 149) dX8_keep_146 fl_X8_144 (Or.inl rfl) (by rw [eh4]; exact s3) (Or.inl rfl) ?_
    refine ex_nmh (fun h5 eh5 => ?_)
    replace w := w h5 eh5
    refine ex_aload_n (q := 150) (x := a_0) dX8_keep_149 rfl ?_
    refine ex_dup (q := 151) dX8_keep_150 rfl ?_
    refine ex_getf (q := 154) dX8_keep_151 fl_X8_72 (by rw [eh5]; exact (by rw [eh4]; exact s1)) ?_
    refine ex_iconst (q := 155) (v := 1) dX8_keep_154 (by decide) ?_
    refine ex_iadd (q := 156) dX8_keep_155 ?_
    refine ex_putf (q := 159) dX8_keep_156 fl_X8_72 (Or.inl rfl) (by rw [eh5]; exact (by rw [eh4]; exact s1)) (Or.inl rfl) ?_
    refine ex_nmh (fun h6 eh6 => ?_)
    replace w := w h6 eh6
    refine ex_aload_n (q := 160) (x := a_0) dX8_keep_159 rfl ?_
    refine ex_getf (q := 163) dX8_keep_160 fl_X8_65 (by rw [eh6]; exact (by rw [eh5]; exact (by rw [eh4]; exact s1))) ?_
    refine ex_if_eq (tgt := 215) (q := 166) dX8_keep_163 (fun c7 => ?_) (fun c7 => ?_)
    · replace w := w.1 c7
      exact ex_return dX8_keep_215 w
    · replace w := w.2 c7
      refine ex_aload_n (q := 167) (x := a_3) dX8_keep_166 rfl ?_
      refine ex_aload_n (q := 168) (x := a_0) dX8_keep_167 rfl ?_
      obtain ⟨a8, ea8, w⟩ := w
      refine ex_getr (q := 171) dX8_keep_168 fl_X8_18 (by rw [eh6]; exact (by rw [eh5]; exact (by rw [eh4]; exact s1))) ea8 ?_
      have s9 := w.1
      replace w := w.2
      refine ex_callV (q := 174) (M := mX8_keep) (hdd := Nat.le_refl _) (mc := 0) (ms := 0) (d' := (d + 3)) (c := 10) (st := []) (bc := bc) (bs := bs) dX8_keep_171 rfl cl_X8_102 wd_1227 wd_1228 (by rw [eh6]; exact (by rw [eh5]; exact (by rw [eh4]; exact s3))) (X10_sharesMark_s (Q := fun r z => r = some (.int (X10_sharesMark_V a_3 a8 h6)) ∧ z = h6) s9 ⟨rfl, rfl⟩) ?_
      intro r z hrz
      rw [hrz.1, hrz.2]
      show ex_G mX8_keep (d + 4) 174 [.ref a_0, .int v_1, .int v_2, .ref a_3, .int v_4] [.int (X10_sharesMark_V a_3 a8 h6)] (h6) bc bs Q
      refine ex_if_eq (tgt := 215) (q := 177) dX8_keep_174 (fun c10 => ?_) (fun c10 => ?_)
      · replace w := w.1 c10
        exact ex_return dX8_keep_215 w
      · replace w := w.2 c10
        refine ex_aload_n (q := 178) (x := a_0) dX8_keep_177 rfl ?_
        obtain ⟨a11, ea11, w⟩ := w
        refine ex_getr (q := 181) dX8_keep_178 fl_X8_25 (by rw [eh6]; exact (by rw [eh5]; exact (by rw [eh4]; exact s1))) ea11 ?_
        refine ex_aload_n (q := 182) (x := a_3) dX8_keep_181 rfl ?_
        obtain ⟨a12, ea12, w⟩ := w
        refine ex_getr (q := 185) dX8_keep_182 fl_X8_106 (by rw [eh6]; exact (by rw [eh5]; exact (by rw [eh4]; exact s3))) ea12 ?_
        refine ex_aload_n (q := 186) (x := a_0) dX8_keep_185 rfl ?_
        refine ex_getr (q := 189) dX8_keep_186 fl_X8_18 (by rw [eh6]; exact (by rw [eh5]; exact (by rw [eh4]; exact s1))) ea8 ?_
        have s13 := w.1
        replace w := w.2
        obtain ⟨a14, ea14, w⟩ := w
        refine ex_getr (q := 192) dX8_keep_189 fl_X8_106 s13 ea14 ?_
        refine ex_aload_n (q := 193) (x := a_0) dX8_keep_192 rfl ?_
        refine ex_getr (q := 196) dX8_keep_193 fl_X8_18 (by rw [eh6]; exact (by rw [eh5]; exact (by rw [eh4]; exact s1))) ea8 ?_
        refine ex_getf (q := 199) dX8_keep_196 fl_X8_110 s13 ?_
        have s16 := w.1
        replace w := w.2
        refine ex_callV (q := 202) (M := mX8_keep) (hdd := Nat.le_refl _) (c := 3) (st := []) (bc := bc) (bs := bs) dX8_keep_199 rfl cl_X8_111 wd_1177 wd_1178 s16 w ?_
        rintro r h15 ⟨x17, rfl, w⟩
        show ex_G mX8_keep (d + 4) 202 [.ref a_0, .int v_1, .int v_2, .ref a_3, .int v_4] [.int x17] h15 bc bs Q
        refine ex_if_eq (tgt := 215) (q := 205) dX8_keep_202 (fun c18 => ?_) (fun c18 => ?_)
        · replace w := w.1 c18
          exact ex_return dX8_keep_215 w
        · replace w := w.2 c18
          refine ex_aload_n (q := 206) (x := a_0) dX8_keep_205 rfl ?_
          refine ex_aload_n (q := 207) (x := a_0) dX8_keep_206 rfl ?_
          have s19 := w.1
          replace w := w.2
          refine ex_getf (q := 210) dX8_keep_207 fl_X8_72 s19 ?_
          refine ex_iconst (q := 211) (v := 1) dX8_keep_210 (by decide) ?_
          refine ex_isub (q := 212) dX8_keep_211 ?_
          refine ex_putf (q := 215) dX8_keep_212 fl_X8_68 (Or.inl rfl) s19 (Or.inl rfl) ?_
          refine ex_nmh (fun h20 eh20 => ?_)
          replace w := w h20 eh20
          exact ex_return dX8_keep_215 w
  · replace w := w.2 c2
    refine ex_aload_n (q := 91) (x := a_0) dX8_keep_90 rfl ?_
    obtain ⟨a21, ea21, w⟩ := w
    refine ex_getr (q := 94) dX8_keep_91 fl_X8_11 s1 ea21 ?_
    refine ex_iload (q := 96) (x := v_4) dX8_keep_94 rfl ?_
    have s22 := w.1
    replace w := w.2
    obtain ⟨a23, ea23, w⟩ := w
    refine ex_aald (q := 97) dX8_keep_96 s22 ea23 ?_
    refine ex_aload_n (q := 98) (x := a_3) dX8_keep_97 rfl ?_
    have s24 := w.1
    replace w := w.2
    have s25 := w.1
    replace w := w.2
    refine ex_callV (q := 101) (M := mX8_keep) (hdd := Nat.le_refl _) (mc := 0) (ms := 0) (d' := (d + 3)) (c := 10) (st := []) (bc := bc) (bs := bs) dX8_keep_98 rfl cl_X8_102 wd_1227 wd_1228 s24 (X10_sharesMark_s (Q := fun r z => r = some (.int (X10_sharesMark_V a23 a_3 h)) ∧ z = h) s25 ⟨rfl, rfl⟩) ?_
    intro r z hrz
    rw [hrz.1, hrz.2]
    show ex_G mX8_keep (d + 4) 101 [.ref a_0, .int v_1, .int v_2, .ref a_3, .int v_4] [.int (X10_sharesMark_V a23 a_3 h)] (h) bc bs Q
    refine ex_if_eq (tgt := 133) (q := 104) dX8_keep_101 (fun c26 => ?_) (fun c26 => ?_)
    · replace w := w.1 c26
      obtain ⟨x27, ex27⟩ : ∃ y : Int32, y = v_4 + 1 := ⟨_, rfl⟩
      replace w := w x27 ex27
      refine ex_iinc (q := 136) (x := v_4) (v := x27) (ls' := [.ref a_0, .int v_1, .int v_2, .ref a_3, .int x27]) dX8_keep_133 rfl (by rw [ex27]; rfl) rfl ?_
      refine ex_goto (tgt := 81) dX8_keep_136 ?_
      exact w
    · replace w := w.2 c26
      refine ex_aload_n (q := 105) (x := a_0) dX8_keep_104 rfl ?_
      obtain ⟨a28, ea28, w⟩ := w
      refine ex_getr (q := 108) dX8_keep_105 fl_X8_25 s1 ea28 ?_
      refine ex_aload_n (q := 109) (x := a_0) dX8_keep_108 rfl ?_
      refine ex_getr (q := 112) dX8_keep_109 fl_X8_11 s1 ea21 ?_
      refine ex_iload (q := 114) (x := v_4) dX8_keep_112 rfl ?_
      obtain ⟨a29, ea29, w⟩ := w
      refine ex_aald (q := 115) dX8_keep_114 s22 ea29 ?_
      have s30 := w.1
      replace w := w.2
      obtain ⟨a31, ea31, w⟩ := w
      refine ex_getr (q := 118) dX8_keep_115 fl_X8_106 s30 ea31 ?_
      refine ex_aload_n (q := 119) (x := a_3) dX8_keep_118 rfl ?_
      have s32 := w.1
      replace w := w.2
      obtain ⟨a33, ea33, w⟩ := w
      refine ex_getr (q := 122) dX8_keep_119 fl_X8_106 s32 ea33 ?_
      refine ex_aload_n (q := 123) (x := a_3) dX8_keep_122 rfl ?_
      refine ex_getf (q := 126) dX8_keep_123 fl_X8_110 s32 ?_
      have s35 := w.1
      replace w := w.2
      refine ex_callV (q := 129) (M := mX8_keep) (hdd := Nat.le_refl _) (c := 3) (st := []) (bc := bc) (bs := bs) dX8_keep_126 rfl cl_X8_111 wd_1177 wd_1178 s35 w ?_
      rintro r h34 ⟨x36, rfl, w⟩
      show ex_G mX8_keep (d + 4) 129 [.ref a_0, .int v_1, .int v_2, .ref a_3, .int v_4] [.int x36] h34 bc bs Q
      refine ex_if_eq (tgt := 133) (q := 132) dX8_keep_129 (fun c37 => ?_) (fun c37 => ?_)
      · replace w := w.1 c37
        obtain ⟨x38, ex38⟩ : ∃ y : Int32, y = v_4 + 1 := ⟨_, rfl⟩
        replace w := w x38 ex38
        refine ex_iinc (q := 136) (x := v_4) (v := x38) (ls' := [.ref a_0, .int v_1, .int v_2, .ref a_3, .int x38]) dX8_keep_133 rfl (by rw [ex38]; rfl) rfl ?_
        refine ex_goto (tgt := 81) dX8_keep_136 ?_
        exact w
      · replace w := w.2 c37
        exact ex_return dX8_keep_132 w

theorem X8_keep_e {d bc bs : Nat} {h : AH} {Q : Option Value → AH → Prop} {a_0 : Nat} {v_1 : Int32} {v_2 : Int32} (w : ex_G mX8_keep (d + 4) 0 [.ref a_0, .int v_1, .int v_2, .retAddr 0, .retAddr 0] [] h bc bs Q) : ex_S yX8_keep mX8_keep (d + 4) [.ref a_0, .int v_1, .int v_2] h bc bs Q :=
  ex_enter (plainFor_of_name (by decide +kernel)) ⟨rfl, rfl⟩ rfl rfl (Nat.le_of_ble_eq_true rfl) (ex_pad 2 w)

set_option maxRecDepth 100000 in
theorem X8_smallest_0 {d bc bs : Nat} {h : AH} {Q : Option Value → AH → Prop} {a_0 : Nat} (w : ex_G mX8_smallest d 4 [.ref a_0, .int 0, .int 1] [] h bc bs Q) : ex_G mX8_smallest d 0 [.ref a_0, .retAddr 0, .retAddr 0] [] h bc bs Q := by
  refine ex_iconst (q := 1) (v := 0) dX8_smallest_0 (by decide) ?_
  refine ex_istore_n (q := 2) (ls' := [.ref a_0, .int 0, .retAddr 0]) dX8_smallest_1 rfl ?_
  refine ex_iconst (q := 3) (v := 1) dX8_smallest_2 (by decide) ?_
  refine ex_istore_n (q := 4) (ls' := [.ref a_0, .int 0, .int 1]) dX8_smallest_3 rfl ?_
  exact w

set_option maxRecDepth 100000 in
theorem X8_smallest_4 {d bc bs : Nat} {h : AH} {Q : Option Value → AH → Prop} {a_0 : Nat} {v_1 : Int32} {v_2 : Int32} (w : ah_o h a_0 8 ∧ (((ah_f h a_0 11) ≤ v_2 → Q (some (.int v_1)) h) ∧ (¬ (ah_f h a_0 11) ≤ v_2 → ∃ a3, ah_r h a_0 0 = some a3 ∧ ld3 h 14 a3 v_2 ∧ ∃ a5, ah_q h a3 (Int32.toNatClampNeg v_2) = some a5 ∧ ah_o h a5 10 ∧ ld3 h 14 a3 v_1 ∧ ∃ a8, ah_q h a3 (Int32.toNatClampNeg v_1) = some a8 ∧ ah_o h a8 10 ∧ (((ah_f h a8 2) ≤ (ah_f h a5 2) → ∀ x11, x11 = v_2 + 1 → ex_G mX8_smallest d 4 [.ref a_0, .int v_1, .int x11] [] h bc bs Q) ∧ (¬ (ah_f h a8 2) ≤ (ah_f h a5 2) → ∀ x12, x12 = v_2 + 1 → ex_G mX8_smallest d 4 [.ref a_0, .int v_2, .int x12] [] h bc bs Q))))) : ex_G mX8_smallest d 4 [.ref a_0, .int v_1, .int v_2] [] h bc bs Q := by
  refine ex_iload_n (q := 5) (x := v_2) dX8_smallest_4 rfl ?_
  refine ex_aload_n (q := 6) (x := a_0) dX8_smallest_5 rfl ?_
  have s1 := w.1
  replace w := w.2
  refine ex_getf (q := 9) dX8_smallest_6 fl_X8_72 s1 ?_
  refine ex_icmp_ge (tgt := 41) (q := 12) dX8_smallest_9 (fun c2 => ?_) (fun c2 => ?_)
  · replace w := w.1 c2
    refine ex_iload_n (q := 42) (x := v_1) dX8_smallest_41 rfl ?_
    exact ex_ireturn dX8_smallest_42 rfl (Or.inl rfl) w
  · replace w := w.2 c2
    refine ex_aload_n (q := 13) (x := a_0) dX8_smallest_12 rfl ?_
    obtain ⟨a3, ea3, w⟩ := w
    refine ex_getr (q := 16) dX8_smallest_13 fl_X8_11 s1 ea3 ?_
    refine ex_iload_n (q := 17) (x := v_2) dX8_smallest_16 rfl ?_
    have s4 := w.1
    replace w := w.2
    obtain ⟨a5, ea5, w⟩ := w
    refine ex_aald (q := 18) dX8_smallest_17 s4 ea5 ?_
    have s6 := w.1
    replace w := w.2
    refine ex_getf (q := 21) dX8_smallest_18 fl_X8_110 s6 ?_
    refine ex_aload_n (q := 22) (x := a_0) dX8_smallest_21 rfl ?_
    refine ex_getr (q := 25) dX8_smallest_22 fl_X8_11 s1 ea3 ?_
    refine ex_iload_n (q := 26) (x := v_1) dX8_smallest_25 rfl ?_
    have s7 := w.1
    replace w := w.2
    obtain ⟨a8, ea8, w⟩ := w
    refine ex_aald (q := 27) dX8_smallest_26 s7 ea8 ?_
    have s9 := w.1
    replace w := w.2
    refine ex_getf (q := 30) dX8_smallest_27 fl_X8_110 s9 ?_
    refine ex_icmp_ge (tgt := 35) (q := 33) dX8_smallest_30 (fun c10 => ?_) (fun c10 => ?_)
    · replace w := w.1 c10
      obtain ⟨x11, ex11⟩ : ∃ y : Int32, y = v_2 + 1 := ⟨_, rfl⟩
      replace w := w x11 ex11
      refine ex_iinc (q := 38) (x := v_2) (v := x11) (ls' := [.ref a_0, .int v_1, .int x11]) dX8_smallest_35 rfl (by rw [ex11]; rfl) rfl ?_
      refine ex_goto (tgt := 4) dX8_smallest_38 ?_
      exact w
    · replace w := w.2 c10
      refine ex_iload_n (q := 34) (x := v_2) dX8_smallest_33 rfl ?_
      refine ex_istore_n (q := 35) (ls' := [.ref a_0, .int v_2, .int v_2]) dX8_smallest_34 rfl ?_
      obtain ⟨x12, ex12⟩ : ∃ y : Int32, y = v_2 + 1 := ⟨_, rfl⟩
      replace w := w x12 ex12
      refine ex_iinc (q := 38) (x := v_2) (v := x12) (ls' := [.ref a_0, .int v_2, .int x12]) dX8_smallest_35 rfl (by rw [ex12]; rfl) rfl ?_
      refine ex_goto (tgt := 4) dX8_smallest_38 ?_
      exact w

theorem X8_smallest_e {d bc bs : Nat} {h : AH} {Q : Option Value → AH → Prop} {a_0 : Nat} (w : ex_G mX8_smallest d 0 [.ref a_0, .retAddr 0, .retAddr 0] [] h bc bs Q) : ex_S yX8_smallest mX8_smallest d [.ref a_0] h bc bs Q :=
  ex_enter (plainFor_of_name (by decide +kernel)) ⟨rfl, rfl⟩ rfl rfl (Nat.le_of_ble_eq_true rfl) (ex_pad 2 w)

set_option maxRecDepth 100000 in
theorem X8_tellWays_0 {d bc bs : Nat} {h : AH} {Q : Option Value → AH → Prop} {a_0 : Nat} {v_1 : Int32} (w : ah_o h a_0 8 ∧ ∃ a2, ah_r h a_0 3 = some a2 ∧ ah_o h a2 6 ∧ X6_empty_C a2 h ∧ ∀ h5, h5 = X6_empty_H a2 h → ex_G mX8_tellWays (d + 1) 11 [.ref a_0, .retAddr 0, .int v_1, .int 0] [] h5 bc bs Q) : ex_G mX8_tellWays (d + 1) 0 [.ref a_0, .int v_1, .retAddr 0, .retAddr 0] [] h bc bs Q := by
  refine ex_aload_n (q := 1) (x := a_0) dX8_tellWays_0 rfl ?_
  have s1 := w.1
  replace w := w.2
  obtain ⟨a2, ea2, w⟩ := w
  refine ex_getr (q := 4) dX8_tellWays_1 fl_X8_34 s1 ea2 ?_
  have s3 := w.1
  replace w := w.2
  have s4 := w.1
  replace w := w.2
  refine ex_callV (q := 7) (M := mX8_tellWays) (hdd := Nat.le_refl _) (mc := 0) (ms := 0) (d' := d) (c := 6) (st := []) (bc := bc) (bs := bs) dX8_tellWays_4 rfl cl_X8_147 wd_937 wd_938 s3 (X6_empty_s (Q := fun r z => r = none ∧ z = X6_empty_H a2 h) s4 ⟨rfl, rfl⟩) ?_
  intro r z hrz
  rw [hrz.1, hrz.2]
  show ex_G mX8_tellWays (d + 1) 7 [.ref a_0, .int v_1, .retAddr 0, .retAddr 0] [] (X6_empty_H a2 h) bc bs Q
  refine ex_nmh (fun h5 eh5 => ?_)
  replace w := w h5 eh5
  refine ex_iload_n (q := 8) (x := v_1) dX8_tellWays_7 rfl ?_
  refine ex_istore_n (q := 9) (ls' := [.ref a_0, .int v_1, .int v_1, .retAddr 0]) dX8_tellWays_8 rfl ?_
  refine ex_iconst (q := 10) (v := 0) dX8_tellWays_9 (by decide) ?_
  refine ex_istore_n (q := 11) (ls' := [.ref a_0, .int v_1, .int v_1, .int 0]) dX8_tellWays_10 rfl ?_
  refine ex_kill 1 (ls' := [.ref a_0, .retAddr 0, .int v_1, .int 0]) rfl ?_
  exact w

set_option maxRecDepth 100000 in
theorem X8_tellWays_11 {d bc bs : Nat} {h : AH} {Q : Option Value → AH → Prop} {a_0 : Nat} {v_2 : Int32} {v_3 : Int32} (w : ((100 ≤ v_3 → ah_o h a_0 8 ∧ ∃ a3, ah_r h a_0 3 = some a3 ∧ ah_o h a3 6 ∧ ex_S yX6_reverse mX6_reverse d [.ref a3] h 0 0 (fun r h4 => r = none ∧ Q none h4)) ∧ (¬ 100 ≤ v_3 → ((v_2 ≤ 0 → ah_o h a_0 8 ∧ ∃ a8, ah_r h a_0 3 = some a8 ∧ ah_o h a8 6 ∧ ex_S yX6_reverse mX6_reverse d [.ref a8] h 0 0 (fun r h9 => r = none ∧ Q none h9)) ∧ (¬ v_2 ≤ 0 → ah_o h a_0 8 ∧ ∃ a12, ah_r h a_0 3 = some a12 ∧ ∃ a13, ah_r h a_0 0 = some a13 ∧ ld3 h 14 a13 v_2 ∧ ∃ a15, ah_q h a13 (Int32.toNatClampNeg v_2) = some a15 ∧ ah_o h a15 10 ∧ ah_o h a12 6 ∧ ex_S yX6_add mX6_add d [.ref a12, .int (ah_f h a15 6)] h 0 0 (fun r h17 => ∃ x19, r = some (.int x19) ∧ ah_o h17 a_0 8 ∧ ∃ a21, ah_r h17 a_0 0 = some a21 ∧ ld3 h17 14 a21 v_2 ∧ ∃ a23, ah_q h17 a21 (Int32.toNatClampNeg v_2) = some a23 ∧ ah_o h17 a23 10 ∧ ∀ x25, x25 = ah_f h17 a23 5 → ∀ x26, x26 = v_3 + 1 → ex_G mX8_tellWays (d + 1) 11 [.ref a_0, .retAddr 0, .int x25, .int x26] [] h17 bc bs Q)))))) : ex_G mX8_tellWays (d + 1) 11 [.ref a_0, .retAddr 0, .int v_2, .int v_3] [] h bc bs Q := by
  refine ex_iload_n (q := 12) (x := v_3) dX8_tellWays_11 rfl ?_
  refine ex_bipush (q := 14) (v := 100) dX8_tellWays_12 (by decide) ?_
  refine ex_icmp_ge (tgt := 54) (q := 17) dX8_tellWays_14 (fun c1 => ?_) (fun c1 => ?_)
  · replace w := w.1 c1
    refine ex_aload_n (q := 55) (x := a_0) dX8_tellWays_54 rfl ?_
    have s2 := w.1
    replace w := w.2
    obtain ⟨a3, ea3, w⟩ := w
    refine ex_getr (q := 58) dX8_tellWays_55 fl_X8_34 s2 ea3 ?_
    have s5 := w.1
    replace w := w.2
    refine ex_callV (q := 61) (M := mX8_tellWays) (hdd := Nat.le_refl _) (c := 6) (st := []) (bc := bc) (bs := bs) dX8_tellWays_58 rfl cl_X8_154 wd_1278 wd_1279 s5 w ?_
    rintro r h4 ⟨rfl, w⟩
    show ex_G mX8_tellWays (d + 1) 61 [.ref a_0, .retAddr 0, .int v_2, .int v_3] [] h4 bc bs Q
    exact ex_return dX8_tellWays_61 w
  · replace w := w.2 c1
    refine ex_iload_n (q := 18) (x := v_2) dX8_tellWays_17 rfl ?_
    refine ex_if_le (tgt := 54) (q := 21) dX8_tellWays_18 (fun c6 => ?_) (fun c6 => ?_)
    · replace w := w.1 c6
      refine ex_aload_n (q := 55) (x := a_0) dX8_tellWays_54 rfl ?_
      have s7 := w.1
      replace w := w.2
      obtain ⟨a8, ea8, w⟩ := w
      refine ex_getr (q := 58) dX8_tellWays_55 fl_X8_34 s7 ea8 ?_
      have s10 := w.1
      replace w := w.2
      refine ex_callV (q := 61) (M := mX8_tellWays) (hdd := Nat.le_refl _) (c := 6) (st := []) (bc := bc) (bs := bs) dX8_tellWays_58 rfl cl_X8_154 wd_1278 wd_1279 s10 w ?_
      rintro r h9 ⟨rfl, w⟩
      show ex_G mX8_tellWays (d + 1) 61 [.ref a_0, .retAddr 0, .int v_2, .int v_3] [] h9 bc bs Q
      exact ex_return dX8_tellWays_61 w
    · replace w := w.2 c6
      refine ex_aload_n (q := 22) (x := a_0) dX8_tellWays_21 rfl ?_
      have s11 := w.1
      replace w := w.2
      obtain ⟨a12, ea12, w⟩ := w
      refine ex_getr (q := 25) dX8_tellWays_22 fl_X8_34 s11 ea12 ?_
      refine ex_aload_n (q := 26) (x := a_0) dX8_tellWays_25 rfl ?_
      obtain ⟨a13, ea13, w⟩ := w
      refine ex_getr (q := 29) dX8_tellWays_26 fl_X8_11 s11 ea13 ?_
      refine ex_iload_n (q := 30) (x := v_2) dX8_tellWays_29 rfl ?_
      have s14 := w.1
      replace w := w.2
      obtain ⟨a15, ea15, w⟩ := w
      refine ex_aald (q := 31) dX8_tellWays_30 s14 ea15 ?_
      have s16 := w.1
      replace w := w.2
      refine ex_getf (q := 34) dX8_tellWays_31 fl_X8_144 s16 ?_
      have s18 := w.1
      replace w := w.2
      refine ex_callV (q := 37) (M := mX8_tellWays) (hdd := Nat.le_refl _) (c := 6) (st := []) (bc := bc) (bs := bs) dX8_tellWays_34 rfl cl_X8_150 wd_941 wd_942 s18 w ?_
      rintro r h17 ⟨x19, rfl, w⟩
      show ex_G mX8_tellWays (d + 1) 37 [.ref a_0, .retAddr 0, .int v_2, .int v_3] [.int x19] h17 bc bs Q
      refine ex_pop (q := 38) dX8_tellWays_37 rfl ?_
      refine ex_aload_n (q := 39) (x := a_0) dX8_tellWays_38 rfl ?_
      have s20 := w.1
      replace w := w.2
      obtain ⟨a21, ea21, w⟩ := w
      refine ex_getr (q := 42) dX8_tellWays_39 fl_X8_11 s20 ea21 ?_
      refine ex_iload_n (q := 43) (x := v_2) dX8_tellWays_42 rfl ?_
      have s22 := w.1
      replace w := w.2
      obtain ⟨a23, ea23, w⟩ := w
      refine ex_aald (q := 44) dX8_tellWays_43 s22 ea23 ?_
      have s24 := w.1
      replace w := w.2
      refine ex_getf (q := 47) dX8_tellWays_44 fl_X8_141 s24 ?_
      refine ex_nmi (fun x25 ex25 => ?_)
      replace w := w x25 ex25
      refine ex_istore_n (q := 48) (ls' := [.ref a_0, .retAddr 0, .int x25, .int v_3]) dX8_tellWays_47 rfl ?_
      obtain ⟨x26, ex26⟩ : ∃ y : Int32, y = v_3 + 1 := ⟨_, rfl⟩
      replace w := w x26 ex26
      refine ex_iinc (q := 51) (x := v_3) (v := x26) (ls' := [.ref a_0, .retAddr 0, .int x25, .int x26]) dX8_tellWays_48 rfl (by rw [ex26]; rfl) rfl ?_
      refine ex_goto (tgt := 11) dX8_tellWays_51 ?_
      exact w

theorem X8_tellWays_e {d bc bs : Nat} {h : AH} {Q : Option Value → AH → Prop} {a_0 : Nat} {v_1 : Int32} (w : ex_G mX8_tellWays (d + 1) 0 [.ref a_0, .int v_1, .retAddr 0, .retAddr 0] [] h bc bs Q) : ex_S yX8_tellWays mX8_tellWays (d + 1) [.ref a_0, .int v_1] h bc bs Q :=
  ex_enter (plainFor_of_name (by decide +kernel)) ⟨rfl, rfl⟩ rfl rfl (Nat.le_of_ble_eq_true rfl) (ex_pad 2 w)
