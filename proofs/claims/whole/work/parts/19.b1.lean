set_option maxRecDepth 100000 in
theorem X3_init_0 {d bc bs : Nat} {h : AH} {Q : Option Value → AH → Prop} {a_0 : Nat} (w : ah_n h < 10000000 ∧ ∀ h2, h2 = ah_na h 0 40 → ah_o h2 a_0 3 ∧ ∀ h4, h4 = ah_sr h2 a_0 0 (some (ah_n h)) → ah_n h4 < 10000000 ∧ ∀ h6, h6 = ah_na h4 0 40 → ah_o h6 a_0 3 ∧ ∀ h8, h8 = ah_sr h6 a_0 1 (some (ah_n h4)) → ah_n h8 < 10000000 ∧ ∀ h10, h10 = ah_na h8 0 40 → ah_o h10 a_0 3 ∧ ∀ h12, h12 = ah_sr h10 a_0 2 (some (ah_n h8)) → Q none h12) : ex_G mX3_init (d + 1) 0 [.ref a_0] [] h (bc + 3) (bs + 120) Q := by
  refine ex_aload_n (q := 1) (x := a_0) dX3_init_0 rfl ?_
  refine ex_objInit (q := 4) (hd1 := Nat.succ_le_succ (Nat.zero_le _)) (h1 := wd_135) (h2 := wd_136) (st := []) dX3_init_1 wd_391 ?_
  refine ex_aload_n (q := 5) (x := a_0) dX3_init_4 rfl ?_
  refine ex_bipush (q := 7) (v := 40) dX3_init_5 (by decide) ?_
  have s1 := w.1
  replace w := w.2
  refine ex_G.room (bc' := (bc + 2) + 1) (bs' := (bs + 80) + 40) (Nat.le_refl _) (rm_le rfl) (rm_le rfl) ?_
  refine ex_newarray (q := 9) (t := 0) (N := 40) (M := mX3_init) dX3_init_7 rfl (by decide) wd_161 rfl (by decide) s1 ?_
  refine ex_nmh (fun h2 eh2 => ?_)
  replace w := w h2 eh2
  have s3 := w.1
  replace w := w.2
  refine ex_putr (q := 12) dX3_init_9 fl_X3_9 (Or.inr ⟨rfl, rfl, wd_392, rfl⟩) s3 ?_
  refine ex_nmh (fun h4 eh4 => ?_)
  replace w := w h4 eh4
  refine ex_aload_n (q := 13) (x := a_0) dX3_init_12 rfl ?_
  refine ex_bipush (q := 15) (v := 40) dX3_init_13 (by decide) ?_
  have s5 := w.1
  replace w := w.2
  refine ex_G.room (bc' := (bc + 1) + 1) (bs' := (bs + 40) + 40) (Nat.le_refl _) (rm_le rfl) (rm_le rfl) ?_
  refine ex_newarray (q := 17) (t := 0) (N := 40) (M := mX3_init) dX3_init_15 rfl (by decide) wd_161 rfl (by decide) s5 ?_
  refine ex_nmh (fun h6 eh6 => ?_)
  replace w := w h6 eh6
  have s7 := w.1
  replace w := w.2
  refine ex_putr (q := 20) dX3_init_17 fl_X3_15 (Or.inr ⟨rfl, rfl, wd_393, rfl⟩) s7 ?_
  refine ex_nmh (fun h8 eh8 => ?_)
  replace w := w h8 eh8
  refine ex_aload_n (q := 21) (x := a_0) dX3_init_20 rfl ?_
  refine ex_bipush (q := 23) (v := 40) dX3_init_21 (by decide) ?_
  have s9 := w.1
  replace w := w.2
  refine ex_G.room (bc' := bc + 1) (bs' := bs + 40) (Nat.le_refl _) (Nat.le_refl _) (Nat.le_refl _) ?_
  refine ex_newarray (q := 25) (t := 0) (N := 40) (M := mX3_init) dX3_init_23 rfl (by decide) wd_161 rfl (by decide) s9 ?_
  refine ex_nmh (fun h10 eh10 => ?_)
  replace w := w h10 eh10
  have s11 := w.1
  replace w := w.2
  refine ex_putr (q := 28) dX3_init_25 fl_X3_18 (Or.inr ⟨rfl, rfl, wd_394, rfl⟩) s11 ?_
  refine ex_nmh (fun h12 eh12 => ?_)
  replace w := w h12 eh12
  exact ex_return dX3_init_28 w

theorem X3_init_e {d bc bs : Nat} {h : AH} {Q : Option Value → AH → Prop} {a_0 : Nat} (w : ex_G mX3_init (d + 1) 0 [.ref a_0] [] h bc bs Q) : ex_S yX3_init mX3_init (d + 1) [.ref a_0] h bc bs Q :=
  ex_enter (plainFor_of_name (by decide +kernel)) ⟨rfl, rfl⟩ rfl rfl (Nat.le_of_ble_eq_true rfl) (ex_pad 0 w)

set_option maxRecDepth 100000 in
theorem X3_holds_0 {d bc bs : Nat} {h : AH} {Q : Option Value → AH → Prop} {a_0 : Nat} {a_1 : Nat} {a_2 : Nat} {v_3 : Int32} (w : ah_o h a_0 3 ∧ ∃ a2, ah_r h a_0 0 = some a2 ∧ ex_S yJ7_fill_53178 mJ7_fill_53178 (d + 2) [.ref a2, .int (-1)] h 0 0 (fun r h3 => r = none ∧ ah_o h3 a_0 3 ∧ ∃ a5, ah_r h3 a_0 1 = some a5 ∧ ex_S yJ7_fill_53178 mJ7_fill_53178 (d + 2) [.ref a5, .int 0] h3 0 0 (fun r h6 => r = none ∧ ex_G mX3_holds (d + 3) 19 [.ref a_0, .ref a_1, .ref a_2, .int v_3, .int 0] [] h6 bc bs Q))) : ex_G mX3_holds (d + 3) 0 [.ref a_0, .ref a_1, .ref a_2, .int v_3, .retAddr 0] [] h bc bs Q := by
  refine ex_aload_n (q := 1) (x := a_0) dX3_holds_0 rfl ?_
  have s1 := w.1
  replace w := w.2
  obtain ⟨a2, ea2, w⟩ := w
  refine ex_getr (q := 4) dX3_holds_1 fl_X3_9 s1 ea2 ?_
  refine ex_iconst (q := 5) (v := (-1)) dX3_holds_4 (by decide) ?_
  refine ex_callS (q := 8) (M := mX3_holds) (hdd := Nat.le_refl _) (st := []) (bc := bc) (bs := bs) dX3_holds_5 rfl cl_X3_21 wd_251 w ?_
  rintro r h3 ⟨rfl, w⟩
  show ex_G mX3_holds (d + 3) 8 [.ref a_0, .ref a_1, .ref a_2, .int v_3, .retAddr 0] [] h3 bc bs Q
  refine ex_aload_n (q := 9) (x := a_0) dX3_holds_8 rfl ?_
  have s4 := w.1
  replace w := w.2
  obtain ⟨a5, ea5, w⟩ := w
  refine ex_getr (q := 12) dX3_holds_9 fl_X3_15 s4 ea5 ?_
  refine ex_iconst (q := 13) (v := 0) dX3_holds_12 (by decide) ?_
  refine ex_callS (q := 16) (M := mX3_holds) (hdd := Nat.le_refl _) (st := []) (bc := bc) (bs := bs) dX3_holds_13 rfl cl_X3_21 wd_251 w ?_
  rintro r h6 ⟨rfl, w⟩
  show ex_G mX3_holds (d + 3) 16 [.ref a_0, .ref a_1, .ref a_2, .int v_3, .retAddr 0] [] h6 bc bs Q
  refine ex_iconst (q := 17) (v := 0) dX3_holds_16 (by decide) ?_
  refine ex_istore (q := 19) (ls' := [.ref a_0, .ref a_1, .ref a_2, .int v_3, .int 0]) dX3_holds_17 rfl ?_
  exact w

set_option maxRecDepth 100000 in
theorem X3_holds_19 {d bc bs : Nat} {h : AH} {Q : Option Value → AH → Prop} {a_0 : Nat} {a_1 : Nat} {a_2 : Nat} {v_3 : Int32} {v_4 : Int32} (w : ((v_3 ≤ v_4 → Q (some (.int 1)) h) ∧ (¬ v_3 ≤ v_4 → ah_o h a_0 3 ∧ ∃ a3, ah_r h a_0 0 = some a3 ∧ ld0 h a3 v_4 ∧ ((0 ≤ (ah_i h a3 (Int32.toNatClampNeg v_4)) → ∀ x6, x6 = v_4 + 1 → ex_G mX3_holds (d + 3) 19 [.ref a_0, .ref a_1, .ref a_2, .int v_3, .int x6] [] h bc bs Q) ∧ (¬ 0 ≤ (ah_i h a3 (Int32.toNatClampNeg v_4)) → ex_S yX3_findsPart mX3_findsPart (d + 2) [.ref a_0, .ref a_1, .ref a_2, .int v_3, .int v_4] h 0 0 (fun r h7 => ∃ x8, r = some (.int x8) ∧ ((¬ x8 = 0 → ∀ x10, x10 = v_4 + 1 → ex_G mX3_holds (d + 3) 19 [.ref a_0, .ref a_1, .ref a_2, .int v_3, .int x10] [] h7 bc bs Q) ∧ (x8 = 0 → Q (some (.int 0)) h7)))))))) : ex_G mX3_holds (d + 3) 19 [.ref a_0, .ref a_1, .ref a_2, .int v_3, .int v_4] [] h bc bs Q := by
  refine ex_iload (q := 21) (x := v_4) dX3_holds_19 rfl ?_
  refine ex_iload_n (q := 22) (x := v_3) dX3_holds_21 rfl ?_
  refine ex_icmp_ge (tgt := 55) (q := 25) dX3_holds_22 (fun c1 => ?_) (fun c1 => ?_)
  · replace w := w.1 c1
    refine ex_iconst (q := 56) (v := 1) dX3_holds_55 (by decide) ?_
    exact ex_ireturn dX3_holds_56 rfl (Or.inr ⟨rfl, Or.inr rfl⟩) w
  · replace w := w.2 c1
    refine ex_aload_n (q := 26) (x := a_0) dX3_holds_25 rfl ?_
    have s2 := w.1
    replace w := w.2
    obtain ⟨a3, ea3, w⟩ := w
    refine ex_getr (q := 29) dX3_holds_26 fl_X3_9 s2 ea3 ?_
    refine ex_iload (q := 31) (x := v_4) dX3_holds_29 rfl ?_
    have s4 := w.1
    replace w := w.2
    refine ex_iald (q := 32) dX3_holds_31 s4 ?_
    refine ex_if_ge (tgt := 49) (q := 35) dX3_holds_32 (fun c5 => ?_) (fun c5 => ?_)
    · replace w := w.1 c5
      obtain ⟨x6, ex6⟩ : ∃ y : Int32, y = v_4 + 1 := ⟨_, rfl⟩
      replace w := w x6 ex6
      refine ex_iinc (q := 52) (x := v_4) (v := x6) (ls' := [.ref a_0, .ref a_1, .ref a_2, .int v_3, .int x6]) dX3_holds_49 rfl (by rw [ex6]; rfl) rfl ?_
      refine ex_goto (tgt := 19) dX3_holds_52 ?_
      exact w
    · replace w := w.2 c5
      refine ex_aload_n (q := 36) (x := a_0) dX3_holds_35 rfl ?_
      refine ex_aload_n (q := 37) (x := a_1) dX3_holds_36 rfl ?_
      refine ex_aload_n (q := 38) (x := a_2) dX3_holds_37 rfl ?_
      refine ex_iload_n (q := 39) (x := v_3) dX3_holds_38 rfl ?_
      refine ex_iload (q := 41) (x := v_4) dX3_holds_39 rfl ?_
      refine ex_callV (q := 44) (M := mX3_holds) (hdd := Nat.le_refl _) (c := 3) (st := []) (bc := bc) (bs := bs) dX3_holds_41 rfl cl_X3_27 wd_1183 wd_37 s2 w ?_
      rintro r h7 ⟨x8, rfl, w⟩
      show ex_G mX3_holds (d + 3) 44 [.ref a_0, .ref a_1, .ref a_2, .int v_3, .int v_4] [.int x8] h7 bc bs Q
      refine ex_if_ne (tgt := 49) (q := 47) dX3_holds_44 (fun c9 => ?_) (fun c9 => ?_)
      · replace w := w.1 c9
        obtain ⟨x10, ex10⟩ : ∃ y : Int32, y = v_4 + 1 := ⟨_, rfl⟩
        replace w := w x10 ex10
        refine ex_iinc (q := 52) (x := v_4) (v := x10) (ls' := [.ref a_0, .ref a_1, .ref a_2, .int v_3, .int x10]) dX3_holds_49 rfl (by rw [ex10]; rfl) rfl ?_
        refine ex_goto (tgt := 19) dX3_holds_52 ?_
        exact w
      · replace w := w.2 c9
        refine ex_iconst (q := 48) (v := 0) dX3_holds_47 (by decide) ?_
        exact ex_ireturn dX3_holds_48 rfl (Or.inr ⟨rfl, Or.inl rfl⟩) w

theorem X3_holds_e {d bc bs : Nat} {h : AH} {Q : Option Value → AH → Prop} {a_0 : Nat} {a_1 : Nat} {a_2 : Nat} {v_3 : Int32} (w : ex_G mX3_holds (d + 3) 0 [.ref a_0, .ref a_1, .ref a_2, .int v_3, .retAddr 0] [] h bc bs Q) : ex_S yX3_holds mX3_holds (d + 3) [.ref a_0, .ref a_1, .ref a_2, .int v_3] h bc bs Q :=
  ex_enter (plainFor_of_name (by decide +kernel)) ⟨rfl, rfl⟩ rfl rfl (Nat.le_of_ble_eq_true rfl) (ex_pad 1 w)

set_option maxRecDepth 100000 in
theorem X3_findsPart_0 {d bc bs : Nat} {h : AH} {Q : Option Value → AH → Prop} {a_0 : Nat} {a_1 : Nat} {a_2 : Nat} {v_3 : Int32} {v_4 : Int32} (w : ex_G mX3_findsPart (d + 2) 3 [.ref a_0, .ref a_1, .ref a_2, .int v_3, .int v_4, .int 0] [] h bc bs Q) : ex_G mX3_findsPart (d + 2) 0 [.ref a_0, .ref a_1, .ref a_2, .int v_3, .int v_4, .retAddr 0] [] h bc bs Q := by
  refine ex_iconst (q := 1) (v := 0) dX3_findsPart_0 (by decide) ?_
  refine ex_istore (q := 3) (ls' := [.ref a_0, .ref a_1, .ref a_2, .int v_3, .int v_4, .int 0]) dX3_findsPart_1 rfl ?_
  exact w

set_option maxRecDepth 100000 in
theorem X3_findsPart_3 {d bc bs : Nat} {h : AH} {Q : Option Value → AH → Prop} {a_0 : Nat} {a_1 : Nat} {a_2 : Nat} {v_3 : Int32} {v_4 : Int32} {v_5 : Int32} (w : (((4 * v_3) ≤ v_5 → Q (some (.int 0)) h) ∧ (¬ (4 * v_3) ≤ v_5 → ah_o h a_0 3 ∧ ∃ a3, ah_r h a_0 1 = some a3 ∧ ld0 h a3 (v_5 >>> (2 &&& (31 : Int32))) ∧ ((¬ (ah_i h a3 (Int32.toNatClampNeg (v_5 >>> (2 &&& (31 : Int32))))) = 0 → ∀ x6, x6 = v_5 + 2 → ex_G mX3_findsPart (d + 2) 3 [.ref a_0, .ref a_1, .ref a_2, .int v_3, .int v_4, .int x6] [] h bc bs Q) ∧ ((ah_i h a3 (Int32.toNatClampNeg (v_5 >>> (2 &&& (31 : Int32))))) = 0 → ∀ h7, h7 = ah_sf h a_0 3 0 → X3_assign_C a_0 v_4 v_5 h7 ∧ ∀ h9, h9 = X3_assign_H a_0 v_4 v_5 h7 → ah_o h9 a_0 3 ∧ ex_S yX3_spreads mX3_spreads (d + 1) [.ref a_0, .ref a_1, .ref a_2] h9 0 0 (fun r h10 => ∃ x12, r = some (.int x12) ∧ ((x12 = 0 → ah_o h10 a_0 3 ∧ ex_S yX3_withdraw mX3_withdraw (d + 1) [.ref a_0] h10 0 0 (fun r h14 => r = none ∧ ∀ x16, x16 = v_5 + 2 → ex_G mX3_findsPart (d + 2) 3 [.ref a_0, .ref a_1, .ref a_2, .int v_3, .int v_4, .int x16] [] h14 bc bs Q)) ∧ (¬ x12 = 0 → Q (some (.int 1)) h10)))))))) : ex_G mX3_findsPart (d + 2) 3 [.ref a_0, .ref a_1, .ref a_2, .int v_3, .int v_4, .int v_5] [] h bc bs Q := by
  refine ex_iload (q := 5) (x := v_5) dX3_findsPart_3 rfl ?_
  refine ex_iconst (q := 6) (v := 4) dX3_findsPart_5 (by decide) ?_
  refine ex_iload_n (q := 7) (x := v_3) dX3_findsPart_6 rfl ?_
  refine ex_imul (q := 8) dX3_findsPart_7 ?_
  refine ex_icmp_ge (tgt := 57) (q := 11) dX3_findsPart_8 (fun c1 => ?_) (fun c1 => ?_)
  · replace w := w.1 c1
    refine ex_iconst (q := 58) (v := 0) dX3_findsPart_57 (by decide) ?_
    exact ex_ireturn dX3_findsPart_58 rfl (Or.inr ⟨rfl, Or.inl rfl⟩) w
  · replace w := w.2 c1
    refine ex_aload_n (q := 12) (x := a_0) dX3_findsPart_11 rfl ?_
    have s2 := w.1
    replace w := w.2
    obtain ⟨a3, ea3, w⟩ := w
    refine ex_getr (q := 15) dX3_findsPart_12 fl_X3_15 s2 ea3 ?_
    refine ex_iload (q := 17) (x := v_5) dX3_findsPart_15 rfl ?_
    refine ex_iconst (q := 18) (v := 2) dX3_findsPart_17 (by decide) ?_
    refine ex_ishr (q := 19) dX3_findsPart_18 ?_
    have s4 := w.1
    replace w := w.2
    refine ex_iald (q := 20) dX3_findsPart_19 s4 ?_
    refine ex_if_ne (tgt := 51) (q := 23) dX3_findsPart_20 (fun c5 => ?_) (fun c5 => ?_)
    · replace w := w.1 c5
      obtain ⟨x6, ex6⟩ : ∃ y : Int32, y = v_5 + 2 := ⟨_, rfl⟩
      replace w := w x6 ex6
      refine ex_iinc (q := 54) (x := v_5) (v := x6) (ls' := [.ref a_0, .ref a_1, .ref a_2, .int v_3, .int v_4, .int x6]) dX3_findsPart_51 rfl (by rw [ex6]; rfl) rfl ?_
      refine ex_goto (tgt := 3) dX3_findsPart_54 ?_
      exact w
    · replace w := w.2 c5
      refine ex_aload_n (q := 24) (x := a_0) dX3_findsPart_23 rfl ?_
      refine ex_iconst (q := 25) (v := 0) dX3_findsPart_24 (by decide) ?_
      refine ex_putf (q := 28) dX3_findsPart_25 fl_X3_31 (Or.inl rfl) s2 (Or.inl rfl) ?_
      refine ex_nmh (fun h7 eh7 => ?_)
      replace w := w h7 eh7
      refine ex_aload_n (q := 29) (x := a_0) dX3_findsPart_28 rfl ?_
      refine ex_iload (q := 31) (x := v_4) dX3_findsPart_29 rfl ?_
      refine ex_iload (q := 33) (x := v_5) dX3_findsPart_31 rfl ?_
      have s8 := w.1
      replace w := w.2
      refine ex_callV (q := 36) (M := mX3_findsPart) (hdd := Nat.le_refl _) (mc := 0) (ms := 0) (d' := (d + 1)) (c := 3) (st := []) (bc := bc) (bs := bs) dX3_findsPart_33 rfl cl_X3_35 wd_1187 wd_38 (by rw [eh7]; exact s2) (X3_assign_s (Q := fun r z => r = none ∧ z = X3_assign_H a_0 v_4 v_5 h7) s8 ⟨rfl, rfl⟩) ?_
      intro r z hrz
      rw [hrz.1, hrz.2]
      show ex_G mX3_findsPart (d + 2) 36 [.ref a_0, .ref a_1, .ref a_2, .int v_3, .int v_4, .int v_5] [] (X3_assign_H a_0 v_4 v_5 h7) bc bs Q
      refine ex_nmh (fun h9 eh9 => ?_)
      replace w := w h9 eh9
      refine ex_aload_n (q := 37) (x := a_0) dX3_findsPart_36 rfl ?_
      refine ex_aload_n (q := 38) (x := a_1) dX3_findsPart_37 rfl ?_
      refine ex_aload_n (q := 39) (x := a_2) dX3_findsPart_38 rfl ?_
      have s11 := w.1
      replace w := w.2
      refine ex_callV (q := 42) (M := mX3_findsPart) (hdd := Nat.le_refl _) (c := 3) (st := []) (bc := bc) (bs := bs) dX3_findsPart_39 rfl cl_X3_39 wd_1191 wd_39 s11 w ?_
      rintro r h10 ⟨x12, rfl, w⟩
      show ex_G mX3_findsPart (d + 2) 42 [.ref a_0, .ref a_1, .ref a_2, .int v_3, .int v_4, .int v_5] [.int x12] h10 bc bs Q
      refine ex_if_eq (tgt := 47) (q := 45) dX3_findsPart_42 (fun c13 => ?_) (fun c13 => ?_)
      · replace w := w.1 c13
        refine ex_aload_n (q := 48) (x := a_0) dX3_findsPart_47 rfl ?_
        have s15 := w.1
        replace w := w.2
        refine ex_callV (q := 51) (M := mX3_findsPart) (hdd := Nat.le_refl _) (c := 3) (st := []) (bc := bc) (bs := bs) dX3_findsPart_48 rfl cl_X3_43 wd_1196 wd_40 s15 w ?_
        rintro r h14 ⟨rfl, w⟩
        show ex_G mX3_findsPart (d + 2) 51 [.ref a_0, .ref a_1, .ref a_2, .int v_3, .int v_4, .int v_5] [] h14 bc bs Q
        obtain ⟨x16, ex16⟩ : ∃ y : Int32, y = v_5 + 2 := ⟨_, rfl⟩
        replace w := w x16 ex16
        refine ex_iinc (q := 54) (x := v_5) (v := x16) (ls' := [.ref a_0, .ref a_1, .ref a_2, .int v_3, .int v_4, .int x16]) dX3_findsPart_51 rfl (by rw [ex16]; rfl) rfl ?_
        refine ex_goto (tgt := 3) dX3_findsPart_54 ?_
        exact w
      · replace w := w.2 c13
        refine ex_iconst (q := 46) (v := 1) dX3_findsPart_45 (by decide) ?_
        exact ex_ireturn dX3_findsPart_46 rfl (Or.inr ⟨rfl, Or.inr rfl⟩) w

theorem X3_findsPart_e {d bc bs : Nat} {h : AH} {Q : Option Value → AH → Prop} {a_0 : Nat} {a_1 : Nat} {a_2 : Nat} {v_3 : Int32} {v_4 : Int32} (w : ex_G mX3_findsPart (d + 2) 0 [.ref a_0, .ref a_1, .ref a_2, .int v_3, .int v_4, .retAddr 0] [] h bc bs Q) : ex_S yX3_findsPart mX3_findsPart (d + 2) [.ref a_0, .ref a_1, .ref a_2, .int v_3, .int v_4] h bc bs Q :=
  ex_enter (plainFor_of_name (by decide +kernel)) ⟨rfl, rfl⟩ rfl rfl (Nat.le_of_ble_eq_true rfl) (ex_pad 1 w)

set_option maxRecDepth 100000 in
theorem X3_withdraw_0 {d bc bs : Nat} {h : AH} {Q : Option Value → AH → Prop} {a_0 : Nat} (w : ex_G mX3_withdraw d 2 [.ref a_0, .int 0, .retAddr 0] [] h bc bs Q) : ex_G mX3_withdraw d 0 [.ref a_0, .retAddr 0, .retAddr 0] [] h bc bs Q := by
  refine ex_iconst (q := 1) (v := 0) dX3_withdraw_0 (by decide) ?_
  refine ex_istore_n (q := 2) (ls' := [.ref a_0, .int 0, .retAddr 0]) dX3_withdraw_1 rfl ?_
  exact w

set_option maxRecDepth 100000 in
theorem X3_withdraw_2 {d bc bs : Nat} {h : AH} {Q : Option Value → AH → Prop} {a_0 : Nat} {v_1 : Int32} (w : ah_o h a_0 3 ∧ (((ah_f h a_0 3) ≤ v_1 → Q none h) ∧ (¬ (ah_f h a_0 3) ≤ v_1 → ∃ a3, ah_r h a_0 2 = some a3 ∧ ld0 h a3 v_1 ∧ ∀ x5, x5 = ah_i h a3 (Int32.toNatClampNeg v_1) → ∃ a6, ah_r h a_0 1 = some a6 ∧ ∃ a7, ah_r h a_0 0 = some a7 ∧ ld0 h a7 x5 ∧ st0 h a6 ((ah_i h a7 (Int32.toNatClampNeg x5)) >>> (2 &&& (31 : Int32))) ∧ ∀ h9, h9 = ah_si h a6 (Int32.toNatClampNeg ((ah_i h a7 (Int32.toNatClampNeg x5)) >>> (2 &&& (31 : Int32)))) 0 → st0 h9 a7 x5 ∧ ∀ h11, h11 = ah_si h9 a7 (Int32.toNatClampNeg x5) (-1) → ∀ x13, x13 = v_1 + 1 → ex_G mX3_withdraw d 2 [.ref a_0, .int x13, .retAddr 0] [] h11 bc bs Q))) : ex_G mX3_withdraw d 2 [.ref a_0, .int v_1, .retAddr 0] [] h bc bs Q := by
  refine ex_iload_n (q := 3) (x := v_1) dX3_withdraw_2 rfl ?_
  refine ex_aload_n (q := 4) (x := a_0) dX3_withdraw_3 rfl ?_
  have s1 := w.1
  replace w := w.2
  refine ex_getf (q := 7) dX3_withdraw_4 fl_X3_31 s1 ?_
  refine ex_icmp_ge (tgt := 44) (q := 10) dX3_withdraw_7 (fun c2 => ?_) (fun c2 => ?_)
  · replace w := w.1 c2
    exact ex_return dX3_withdraw_44 w
  · replace w := w.2 c2
    refine ex_aload_n (q := 11) (x := a_0) dX3_withdraw_10 rfl ?_
    obtain ⟨a3, ea3, w⟩ := w
    refine ex_getr (q := 14) dX3_withdraw_11 fl_X3_18 s1 ea3 ?_
    refine ex_iload_n (q := 15) (x := v_1) dX3_withdraw_14 rfl ?_
    have s4 := w.1
    replace w := w.2
    refine ex_iald (q := 16) dX3_withdraw_15 s4 ?_
    refine ex_nmi (fun x5 ex5 => ?_)
    replace w := w x5 ex5
    refine ex_istore_n (q := 17) (ls' := [.ref a_0, .int v_1, .int x5]) dX3_withdraw_16 rfl ?_
    refine ex_aload_n (q := 18) (x := a_0) dX3_withdraw_17 rfl ?_
    obtain ⟨a6, ea6, w⟩ := w
    refine ex_getr (q := 21) dX3_withdraw_18 fl_X3_15 s1 ea6 ?_
    refine ex_aload_n (q := 22) (x := a_0) dX3_withdraw_21 rfl ?_
    obtain ⟨a7, ea7, w⟩ := w
    refine ex_getr (q := 25) dX3_withdraw_22 fl_X3_9 s1 ea7 ?_
    refine ex_iload_n (q := 26) (x := x5) dX3_withdraw_25 rfl ?_
    have s8 := w.1
    replace w := w.2
    refine ex_iald (q := 27) dX3_withdraw_26 s8 ?_
    refine ex_iconst (q := 28) (v := 2) dX3_withdraw_27 (by decide) ?_
    refine ex_ishr (q := 29) dX3_withdraw_28 ?_
    refine ex_iconst (q := 30) (v := 0) dX3_withdraw_29 (by decide) ?_
    have s10 := w.1
    replace w := w.2
    refine ex_iast (q := 31) dX3_withdraw_30 s10 ?_
    refine ex_nmh (fun h9 eh9 => ?_)
    replace w := w h9 eh9
    refine ex_aload_n (q := 32) (x := a_0) dX3_withdraw_31 rfl ?_
    refine ex_getr (q := 35) dX3_withdraw_32 fl_X3_9 (by rw [eh9]; exact s1) (by rw [eh9]; exact ea7) ?_
    refine ex_iload_n (q := 36) (x := x5) dX3_withdraw_35 rfl ?_
    refine ex_iconst (q := 37) (v := (-1)) dX3_withdraw_36 (by decide) ?_
    have s12 := w.1
    replace w := w.2
    refine ex_iast (q := 38) dX3_withdraw_37 s12 ?_
    refine ex_nmh (fun h11 eh11 => ?_)
    replace w := w h11 eh11
    obtain ⟨x13, ex13⟩ : ∃ y : Int32, y = v_1 + 1 := ⟨_, rfl⟩
    replace w := w x13 ex13
    refine ex_iinc (q := 41) (x := v_1) (v := x13) (ls' := [.ref a_0, .int x13, .int x5]) dX3_withdraw_38 rfl (by rw [ex13]; rfl) rfl ?_
    refine ex_goto (tgt := 2) dX3_withdraw_41 ?_
    refine ex_kill 2 (ls' := [.ref a_0, .int x13, .retAddr 0]) rfl ?_
    exact w

theorem X3_withdraw_e {d bc bs : Nat} {h : AH} {Q : Option Value → AH → Prop} {a_0 : Nat} (w : ex_G mX3_withdraw d 0 [.ref a_0, .retAddr 0, .retAddr 0] [] h bc bs Q) : ex_S yX3_withdraw mX3_withdraw d [.ref a_0] h bc bs Q :=
  ex_enter (plainFor_of_name (by decide +kernel)) ⟨rfl, rfl⟩ rfl rfl (Nat.le_of_ble_eq_true rfl) (ex_pad 2 w)

set_option maxRecDepth 100000 in
theorem X3_spreads_0 {d bc bs : Nat} {h : AH} {Q : Option Value → AH → Prop} {a_0 : Nat} {a_1 : Nat} {a_2 : Nat} (w : ex_G mX3_spreads (d + 1) 2 [.ref a_0, .ref a_1, .ref a_2, .int 0, .retAddr 0, .retAddr 0, .retAddr 0, .retAddr 0, .retAddr 0, .retAddr 0] [] h bc bs Q) : ex_G mX3_spreads (d + 1) 0 [.ref a_0, .ref a_1, .ref a_2, .retAddr 0, .retAddr 0, .retAddr 0, .retAddr 0, .retAddr 0, .retAddr 0, .retAddr 0] [] h bc bs Q := by
  refine ex_iconst (q := 1) (v := 0) dX3_spreads_0 (by decide) ?_
  refine ex_istore_n (q := 2) (ls' := [.ref a_0, .ref a_1, .ref a_2, .int 0, .retAddr 0, .retAddr 0, .retAddr 0, .retAddr 0, .retAddr 0, .retAddr 0]) dX3_spreads_1 rfl ?_
  exact w

set_option maxRecDepth 100000 in
theorem X3_spreads_2 {d bc bs : Nat} {h : AH} {Q : Option Value → AH → Prop} {a_0 : Nat} {a_1 : Nat} {a_2 : Nat} {v_3 : Int32} (w : ah_o h a_0 3 ∧ (((ah_f h a_0 3) ≤ v_3 → Q (some (.int 1)) h) ∧ (¬ (ah_f h a_0 3) ≤ v_3 → ((40 ≤ v_3 → Q (some (.int 1)) h) ∧ (¬ 40 ≤ v_3 → ∃ a4, ah_r h a_0 2 = some a4 ∧ ld0 h a4 v_3 ∧ ∀ x6, x6 = ah_i h a4 (Int32.toNatClampNeg v_3) → ex_G mX3_spreads (d + 1) 27 [.ref a_0, .ref a_1, .ref a_2, .int v_3, .int x6, .int 0, .retAddr 0, .retAddr 0, .retAddr 0, .retAddr 0] [] h bc bs Q))))) : ex_G mX3_spreads (d + 1) 2 [.ref a_0, .ref a_1, .ref a_2, .int v_3, .retAddr 0, .retAddr 0, .retAddr 0, .retAddr 0, .retAddr 0, .retAddr 0] [] h bc bs Q := by
  refine ex_iload_n (q := 3) (x := v_3) dX3_spreads_2 rfl ?_
  refine ex_aload_n (q := 4) (x := a_0) dX3_spreads_3 rfl ?_
  have s1 := w.1
  replace w := w.2
  refine ex_getf (q := 7) dX3_spreads_4 fl_X3_31 s1 ?_
  refine ex_icmp_ge (tgt := 148) (q := 10) dX3_spreads_7 (fun c2 => ?_) (fun c2 => ?_)
  · replace w := w.1 c2
    refine ex_iconst (q := 149) (v := 1) dX3_spreads_148 (by decide) ?_
    exact ex_ireturn dX3_spreads_149 rfl (Or.inr ⟨rfl, Or.inr rfl⟩) w
  · replace w := w.2 c2
    refine ex_iload_n (q := 11) (x := v_3) dX3_spreads_10 rfl ?_
    refine ex_bipush (q := 13) (v := 40) dX3_spreads_11 (by decide) ?_
    refine ex_icmp_ge (tgt := 148) (q := 16) dX3_spreads_13 (fun c3 => ?_) (fun c3 => ?_)
    · replace w := w.1 c3
      refine ex_iconst (q := 149) (v := 1) dX3_spreads_148 (by decide) ?_
      exact ex_ireturn dX3_spreads_149 rfl (Or.inr ⟨rfl, Or.inr rfl⟩) w
    · replace w := w.2 c3
      refine ex_aload_n (q := 17) (x := a_0) dX3_spreads_16 rfl ?_
      obtain ⟨a4, ea4, w⟩ := w
      refine ex_getr (q := 20) dX3_spreads_17 fl_X3_18 s1 ea4 ?_
      refine ex_iload_n (q := 21) (x := v_3) dX3_spreads_20 rfl ?_
      have s5 := w.1
      replace w := w.2
      refine ex_iald (q := 22) dX3_spreads_21 s5 ?_
      refine ex_nmi (fun x6 ex6 => ?_)
      replace w := w x6 ex6
      refine ex_istore (q := 24) (ls' := [.ref a_0, .ref a_1, .ref a_2, .int v_3, .int x6, .retAddr 0, .retAddr 0, .retAddr 0, .retAddr 0, .retAddr 0]) dX3_spreads_22 rfl ?_
      refine ex_iconst (q := 25) (v := 0) dX3_spreads_24 (by decide) ?_
      refine ex_istore (q := 27) (ls' := [.ref a_0, .ref a_1, .ref a_2, .int v_3, .int x6, .int 0, .retAddr 0, .retAddr 0, .retAddr 0, .retAddr 0]) dX3_spreads_25 rfl ?_
      exact w

set_option maxRecDepth 100000 in
theorem X3_spreads_27 {d bc bs : Nat} {h : AH} {Q : Option Value → AH → Prop} {a_0 : Nat} {a_1 : Nat} {a_2 : Nat} {v_3 : Int32} {v_4 : Int32} {v_5 : Int32} (w : ((4 ≤ v_5 → ∀ x2, x2 = v_3 + 1 → ex_G mX3_spreads (d + 1) 2 [.ref a_0, .ref a_1, .ref a_2, .int x2, .retAddr 0, .retAddr 0, .retAddr 0, .retAddr 0, .retAddr 0, .retAddr 0] [] h bc bs Q) ∧ (¬ 4 ≤ v_5 → ld0 h a_1 ((4 * v_4) + v_5) ∧ ∀ x4, x4 = ah_i h a_1 (Int32.toNatClampNeg ((4 * v_4) + v_5)) → ah_o h a_0 3 ∧ ∃ a6, ah_r h a_0 0 = some a6 ∧ ld0 h a6 v_4 ∧ ld0 h a_2 (X11_corner_V (ah_i h a6 (Int32.toNatClampNeg v_4)) v_5 h) ∧ ∀ x9, x9 = ah_i h a_2 (Int32.toNatClampNeg (X11_corner_V (ah_i h a6 (Int32.toNatClampNeg v_4)) v_5 h)) → ∀ x10, x10 = X11_corner_V x9 (4 - (x4 &&& 3)) h → ∀ x11, x11 = x4 >>> (2 &&& (31 : Int32)) → ((¬ (x10 &&& 1) = 1 → ld0 h a6 x11 ∧ ((0 ≤ (ah_i h a6 (Int32.toNatClampNeg x11)) → ex_G mX3_spreads (d + 1) 122 [.ref a_0, .ref a_1, .ref a_2, .int v_3, .int v_4, .int v_5, .retAddr 0, .retAddr 0, .int x10, .int x11] [] h bc bs Q) ∧ (¬ 0 ≤ (ah_i h a6 (Int32.toNatClampNeg x11)) → ∃ a15, ah_r h a_0 1 = some a15 ∧ ld0 h a15 (x9 >>> (2 &&& (31 : Int32))) ∧ ((¬ (ah_i h a15 (Int32.toNatClampNeg (x9 >>> (2 &&& (31 : Int32))))) = 0 → ex_G mX3_spreads (d + 1) 122 [.ref a_0, .ref a_1, .ref a_2, .int v_3, .int v_4, .int v_5, .retAddr 0, .retAddr 0, .int x10, .int x11] [] h bc bs Q) ∧ ((ah_i h a15 (Int32.toNatClampNeg (x9 >>> (2 &&& (31 : Int32))))) = 0 → X3_assign_C a_0 x11 x10 h ∧ ∀ h19, h19 = X3_assign_H a_0 x11 x10 h → ∀ x20, x20 = v_5 + 1 → ex_G mX3_spreads (d + 1) 27 [.ref a_0, .ref a_1, .ref a_2, .int v_3, .int v_4, .int x20, .retAddr 0, .retAddr 0, .retAddr 0, .retAddr 0] [] h19 bc bs Q))))) ∧ ((x10 &&& 1) = 1 → Q (some (.int 0)) h))))) : ex_G mX3_spreads (d + 1) 27 [.ref a_0, .ref a_1, .ref a_2, .int v_3, .int v_4, .int v_5, .retAddr 0, .retAddr 0, .retAddr 0, .retAddr 0] [] h bc bs Q := by
  refine ex_iload (q := 29) (x := v_5) dX3_spreads_27 rfl ?_
  refine ex_iconst (q := 30) (v := 4) dX3_spreads_29 (by decide) ?_
  refine ex_icmp_ge (tgt := 142) (q := 33) dX3_spreads_30 (fun c1 => ?_) (fun c1 => ?_)
  · replace w := w.1 c1
    obtain ⟨x2, ex2⟩ : ∃ y : Int32, y = v_3 + 1 := ⟨_, rfl⟩
    replace w := w x2 ex2
    refine ex_iinc (q := 145) (x := v_3) (v := x2) (ls' := [.ref a_0, .ref a_1, .ref a_2, .int x2, .int v_4, .int v_5, .retAddr 0, .retAddr 0, .retAddr 0, .retAddr 0]) dX3_spreads_142 rfl (by rw [ex2]; rfl) rfl ?_
    refine ex_goto (tgt := 2) dX3_spreads_145 ?_
    refine ex_kill 4 (ls' := [.ref a_0, .ref a_1, .ref a_2, .int x2, .retAddr 0, .int v_5, .retAddr 0, .retAddr 0, .retAddr 0, .retAddr 0]) rfl ?_
    refine ex_kill 5 (ls' := [.ref a_0, .ref a_1, .ref a_2, .int x2, .retAddr 0, .retAddr 0, .retAddr 0, .retAddr 0, .retAddr 0, .retAddr 0]) rfl ?_
    exact w
  · replace w := w.2 c1
    refine ex_aload_n (q := 34) (x := a_1) dX3_spreads_33 rfl ?_
    refine ex_iconst (q := 35) (v := 4) dX3_spreads_34 (by decide) ?_
    refine ex_iload (q := 37) (x := v_4) dX3_spreads_35 rfl ?_
    refine ex_imul (q := 38) dX3_spreads_37 ?_
    refine ex_iload (q := 40) (x := v_5) dX3_spreads_38 rfl ?_
    refine ex_iadd (q := 41) dX3_spreads_40 ?_
    have s3 := w.1
    replace w := w.2
    refine ex_iald (q := 42) dX3_spreads_41 s3 ?_
    refine ex_nmi (fun x4 ex4 => ?_)
    replace w := w x4 ex4
    refine ex_istore (q := 44) (ls' := [.ref a_0, .ref a_1, .ref a_2, .int v_3, .int v_4, .int v_5, .int x4, .retAddr 0, .retAddr 0, .retAddr 0]) dX3_spreads_42 rfl ?_
    refine ex_aload_n (q := 45) (x := a_2) dX3_spreads_44 rfl ?_
    refine ex_aload_n (q := 46) (x := a_0) dX3_spreads_45 rfl ?_
    have s5 := w.1
    replace w := w.2
    obtain ⟨a6, ea6, w⟩ := w
    refine ex_getr (q := 49) dX3_spreads_46 fl_X3_9 s5 ea6 ?_
    refine ex_iload (q := 51) (x := v_4) dX3_spreads_49 rfl ?_
    have s7 := w.1
    replace w := w.2
    refine ex_iald (q := 52) dX3_spreads_51 s7 ?_
    refine ex_iload (q := 54) (x := v_5) dX3_spreads_52 rfl ?_
    refine ex_callS (q := 57) (M := mX3_spreads) (hdd := Nat.le_refl _) (mc := 0) (ms := 0) (d' := d) (st := [.ref a_2]) (bc := bc) (bs := bs) dX3_spreads_54 rfl cl_X3_46 wd_663 (X11_corner_s (Q := fun r z => r = some (.int (X11_corner_V (ah_i h a6 (Int32.toNatClampNeg v_4)) v_5 h)) ∧ z = h) ⟨rfl, rfl⟩) ?_
    intro r z hrz
    rw [hrz.1, hrz.2]
    show ex_G mX3_spreads (d + 1) 57 [.ref a_0, .ref a_1, .ref a_2, .int v_3, .int v_4, .int v_5, .int x4, .retAddr 0, .retAddr 0, .retAddr 0] [.int (X11_corner_V (ah_i h a6 (Int32.toNatClampNeg v_4)) v_5 h), .ref a_2] (h) bc bs Q
    have s8 := w.1
    replace w := w.2
    refine ex_iald (q := 58) dX3_spreads_57 s8 ?_
    refine ex_nmi (fun x9 ex9 => ?_)
    replace w := w x9 ex9
    refine ex_istore (q := 60) (ls' := [.ref a_0, .ref a_1, .ref a_2, .int v_3, .int v_4, .int v_5, .int x4, .int x9, .retAddr 0, .retAddr 0]) dX3_spreads_58 rfl ?_
    refine ex_iload (q := 62) (x := x9) dX3_spreads_60 rfl ?_
    refine ex_iconst (q := 63) (v := 4) dX3_spreads_62 (by decide) ?_
    refine ex_iload (q := 65) (x := x4) dX3_spreads_63 rfl ?_
    refine ex_iconst (q := 66) (v := 3) dX3_spreads_65 (by decide) ?_
    refine ex_iand (q := 67) dX3_spreads_66 ?_
    refine ex_isub (q := 68) dX3_spreads_67 ?_
    refine ex_callS (q := 71) (M := mX3_spreads) (hdd := Nat.le_refl _) (mc := 0) (ms := 0) (d' := d) (st := []) (bc := bc) (bs := bs) dX3_spreads_68 rfl cl_X3_46 wd_663 (X11_corner_s (Q := fun r z => r = some (.int (X11_corner_V x9 (4 - (x4 &&& 3)) h)) ∧ z = h) ⟨rfl, rfl⟩) ?_
    intro r z hrz
    rw [hrz.1, hrz.2]
    show ex_G mX3_spreads (d + 1) 71 [.ref a_0, .ref a_1, .ref a_2, .int v_3, .int v_4, .int v_5, .int x4, .int x9, .retAddr 0, .retAddr 0] [.int (X11_corner_V x9 (4 - (x4 &&& 3)) h)] (h) bc bs Q
    refine ex_nmi (fun x10 ex10 => ?_)
    replace w := w x10 ex10
    refine ex_istore (q := 73) (ls' := [.ref a_0, .ref a_1, .ref a_2, .int v_3, .int v_4, .int v_5, .int x4, .int x9, .int x10, .retAddr 0]) dX3_spreads_71 rfl ?_
    refine ex_iload (q := 75) (x := x4) dX3_spreads_73 rfl ?_
    refine ex_iconst (q := 76) (v := 2) dX3_spreads_75 (by decide) ?_
    refine ex_ishr (q := 77) dX3_spreads_76 ?_
    refine ex_nmi (fun x11 ex11 => ?_)
    replace w := w x11 ex11
    refine ex_istore (q := 79) (ls' := [.ref a_0, .ref a_1, .ref a_2, .int v_3, .int v_4, .int v_5, .int x4, .int x9, .int x10, .int x11]) dX3_spreads_77 rfl ?_
    refine ex_iload (q := 81) (x := x10) dX3_spreads_79 rfl ?_
    refine ex_iconst (q := 82) (v := 1) dX3_spreads_81 (by decide) ?_
    refine ex_iand (q := 83) dX3_spreads_82 ?_
    refine ex_iconst (q := 84) (v := 1) dX3_spreads_83 (by decide) ?_
    refine ex_icmp_ne (tgt := 89) (q := 87) dX3_spreads_84 (fun c12 => ?_) (fun c12 => ?_)
    · replace w := w.1 c12
      refine ex_aload_n (q := 90) (x := a_0) dX3_spreads_89 rfl ?_
      refine ex_getr (q := 93) dX3_spreads_90 fl_X3_9 s5 ea6 ?_
      refine ex_iload (q := 95) (x := x11) dX3_spreads_93 rfl ?_
      have s13 := w.1
      replace w := w.2
      refine ex_iald (q := 96) dX3_spreads_95 s13 ?_
      refine ex_if_ge (tgt := 122) (q := 99) dX3_spreads_96 (fun c14 => ?_) (fun c14 => ?_)
      · replace w := w.1 c14
        refine ex_kill 6 (ls' := [.ref a_0, .ref a_1, .ref a_2, .int v_3, .int v_4, .int v_5, .retAddr 0, .int x9, .int x10, .int x11]) rfl ?_
        refine ex_kill 7 (ls' := [.ref a_0, .ref a_1, .ref a_2, .int v_3, .int v_4, .int v_5, .retAddr 0, .retAddr 0, .int x10, .int x11]) rfl ?_
        exact w
      · replace w := w.2 c14
        refine ex_aload_n (q := 100) (x := a_0) dX3_spreads_99 rfl ?_
        obtain ⟨a15, ea15, w⟩ := w
        refine ex_getr (q := 103) dX3_spreads_100 fl_X3_15 s5 ea15 ?_
        refine ex_iload (q := 105) (x := x9) dX3_spreads_103 rfl ?_
        refine ex_iconst (q := 106) (v := 2) dX3_spreads_105 (by decide) ?_
        refine ex_ishr (q := 107) dX3_spreads_106 ?_
        have s16 := w.1
        replace w := w.2
        refine ex_iald (q := 108) dX3_spreads_107 s16 ?_
        refine ex_if_ne (tgt := 122) (q := 111) dX3_spreads_108 (fun c17 => ?_) (fun c17 => ?_)
        · replace w := w.1 c17
          refine ex_kill 6 (ls' := [.ref a_0, .ref a_1, .ref a_2, .int v_3, .int v_4, .int v_5, .retAddr 0, .int x9, .int x10, .int x11]) rfl ?_
          refine ex_kill 7 (ls' := [.ref a_0, .ref a_1, .ref a_2, .int v_3, .int v_4, .int v_5, .retAddr 0, .retAddr 0, .int x10, .int x11]) rfl ?_
          exact w
        · replace w := w.2 c17
          refine ex_aload_n (q := 112) (x := a_0) dX3_spreads_111 rfl ?_
          refine ex_iload (q := 114) (x := x11) dX3_spreads_112 rfl ?_
          refine ex_iload (q := 116) (x := x10) dX3_spreads_114 rfl ?_
          have s18 := w.1
          replace w := w.2
          refine ex_callV (q := 119) (M := mX3_spreads) (hdd := Nat.le_refl _) (mc := 0) (ms := 0) (d' := d) (c := 3) (st := []) (bc := bc) (bs := bs) dX3_spreads_116 rfl cl_X3_35 wd_1187 wd_38 s5 (X3_assign_s (Q := fun r z => r = none ∧ z = X3_assign_H a_0 x11 x10 h) s18 ⟨rfl, rfl⟩) ?_
          intro r z hrz
          rw [hrz.1, hrz.2]
          show ex_G mX3_spreads (d + 1) 119 [.ref a_0, .ref a_1, .ref a_2, .int v_3, .int v_4, .int v_5, .int x4, .int x9, .int x10, .int x11] [] (X3_assign_H a_0 x11 x10 h) bc bs Q
          refine ex_nmh (fun h19 eh19 => ?_)
          replace w := w h19 eh19
          refine ex_goto (tgt := 136) dX3_spreads_119 ?_
          obtain ⟨x20, ex20⟩ : ∃ y : Int32, y = v_5 + 1 := ⟨_, rfl⟩
          replace w := w x20 ex20
          refine ex_iinc (q := 139) (x := v_5) (v := x20) (ls' := [.ref a_0, .ref a_1, .ref a_2, .int v_3, .int v_4, .int x20, .int x4, .int x9, .int x10, .int x11]) dX3_spreads_136 rfl (by rw [ex20]; rfl) rfl ?_
          refine ex_goto (tgt := 27) dX3_spreads_139 ?_
          refine ex_kill 6 (ls' := [.ref a_0, .ref a_1, .ref a_2, .int v_3, .int v_4, .int x20, .retAddr 0, .int x9, .int x10, .int x11]) rfl ?_
          refine ex_kill 7 (ls' := [.ref a_0, .ref a_1, .ref a_2, .int v_3, .int v_4, .int x20, .retAddr 0, .retAddr 0, .int x10, .int x11]) rfl ?_
          refine ex_kill 8 (ls' := [.ref a_0, .ref a_1, .ref a_2, .int v_3, .int v_4, .int x20, .retAddr 0, .retAddr 0, .retAddr 0, .int x11]) rfl ?_
          refine ex_kill 9 (ls' := [.ref a_0, .ref a_1, .ref a_2, .int v_3, .int v_4, .int x20, .retAddr 0, .retAddr 0, .retAddr 0, .retAddr 0]) rfl ?_
          exact w
    · replace w := w.2 c12
      refine ex_iconst (q := 88) (v := 0) dX3_spreads_87 (by decide) ?_
      exact ex_ireturn dX3_spreads_88 rfl (Or.inr ⟨rfl, Or.inl rfl⟩) w

set_option maxRecDepth 100000 in
theorem X3_spreads_122 {d bc bs : Nat} {h : AH} {Q : Option Value → AH → Prop} {a_0 : Nat} {a_1 : Nat} {a_2 : Nat} {v_3 : Int32} {v_4 : Int32} {v_5 : Int32} {v_8 : Int32} {v_9 : Int32} (w : ah_o h a_0 3 ∧ ∃ a2, ah_r h a_0 0 = some a2 ∧ ld0 h a2 v_9 ∧ (((ah_i h a2 (Int32.toNatClampNeg v_9)) = v_8 → ∀ x5, x5 = v_5 + 1 → ex_G mX3_spreads (d + 1) 27 [.ref a_0, .ref a_1, .ref a_2, .int v_3, .int v_4, .int x5, .retAddr 0, .retAddr 0, .retAddr 0, .retAddr 0] [] h bc bs Q) ∧ (¬ (ah_i h a2 (Int32.toNatClampNeg v_9)) = v_8 → Q (some (.int 0)) h))) : ex_G mX3_spreads (d + 1) 122 [.ref a_0, .ref a_1, .ref a_2, .int v_3, .int v_4, .int v_5, .retAddr 0, .retAddr 0, .int v_8, .int v_9] [] h bc bs Q := by
  refine ex_aload_n (q := 123) (x := a_0) dX3_spreads_122 rfl ?_
  have s1 := w.1
  replace w := w.2
  obtain ⟨a2, ea2, w⟩ := w
  refine ex_getr (q := 126) dX3_spreads_123 fl_X3_9 s1 ea2 ?_
  refine ex_iload (q := 128) (x := v_9) dX3_spreads_126 rfl ?_
  have s3 := w.1
  replace w := w.2
  refine ex_iald (q := 129) dX3_spreads_128 s3 ?_
  refine ex_iload (q := 131) (x := v_8) dX3_spreads_129 rfl ?_
  refine ex_icmp_eq (tgt := 136) (q := 134) dX3_spreads_131 (fun c4 => ?_) (fun c4 => ?_)
  · replace w := w.1 c4
    obtain ⟨x5, ex5⟩ : ∃ y : Int32, y = v_5 + 1 := ⟨_, rfl⟩
    replace w := w x5 ex5
    refine ex_iinc (q := 139) (x := v_5) (v := x5) (ls' := [.ref a_0, .ref a_1, .ref a_2, .int v_3, .int v_4, .int x5, .retAddr 0, .retAddr 0, .int v_8, .int v_9]) dX3_spreads_136 rfl (by rw [ex5]; rfl) rfl ?_
    refine ex_goto (tgt := 27) dX3_spreads_139 ?_
    refine ex_kill 8 (ls' := [.ref a_0, .ref a_1, .ref a_2, .int v_3, .int v_4, .int x5, .retAddr 0, .retAddr 0, .retAddr 0, .int v_9]) rfl ?_
    refine ex_kill 9 (ls' := [.ref a_0, .ref a_1, .ref a_2, .int v_3, .int v_4, .int x5, .retAddr 0, .retAddr 0, .retAddr 0, .retAddr 0]) rfl ?_
    exact w
  · replace w := w.2 c4
    refine ex_iconst (q := 135) (v := 0) dX3_spreads_134 (by decide) ?_
    exact ex_ireturn dX3_spreads_135 rfl (Or.inr ⟨rfl, Or.inl rfl⟩) w

theorem X3_spreads_e {d bc bs : Nat} {h : AH} {Q : Option Value → AH → Prop} {a_0 : Nat} {a_1 : Nat} {a_2 : Nat} (w : ex_G mX3_spreads (d + 1) 0 [.ref a_0, .ref a_1, .ref a_2, .retAddr 0, .retAddr 0, .retAddr 0, .retAddr 0, .retAddr 0, .retAddr 0, .retAddr 0] [] h bc bs Q) : ex_S yX3_spreads mX3_spreads (d + 1) [.ref a_0, .ref a_1, .ref a_2] h bc bs Q :=
  ex_enter (plainFor_of_name (by decide +kernel)) ⟨rfl, rfl⟩ rfl rfl (Nat.le_of_ble_eq_true rfl) (ex_pad 7 w)

set_option maxRecDepth 100000 in
theorem X1_init_0 {d bc bs : Nat} {h : AH} {Q : Option Value → AH → Prop} {a_0 : Nat} (w : ah_n h < 10000000 ∧ ∀ h2, h2 = ah_na h 0 160 → ah_o h2 a_0 1 ∧ ∀ h4, h4 = ah_sr h2 a_0 0 (some (ah_n h)) → ah_n h4 + 41 < 10000000 ∧ ∀ h6, h6 = ah_nm h4 40 80 → ah_o h6 a_0 1 ∧ ∀ h8, h8 = ah_sr h6 a_0 1 (some (ah_n h4)) → Q none h8) : ex_G mX1_init (d + 1) 0 [.ref a_0] [] h (bc + 42) (bs + 3400) Q := by
  refine ex_aload_n (q := 1) (x := a_0) dX1_init_0 rfl ?_
  refine ex_objInit (q := 4) (hd1 := Nat.succ_le_succ (Nat.zero_le _)) (h1 := wd_135) (h2 := wd_136) (st := []) dX1_init_1 wd_336 ?_
  refine ex_aload_n (q := 5) (x := a_0) dX1_init_4 rfl ?_
  refine ex_sipush (q := 8) (v := 160) dX1_init_5 (by decide) ?_
  have s1 := w.1
  replace w := w.2
  refine ex_G.room (bc' := (bc + 41) + 1) (bs' := (bs + 3240) + 160) (Nat.le_refl _) (rm_le rfl) (rm_le rfl) ?_
  refine ex_newarray (q := 10) (t := 0) (N := 160) (M := mX1_init) dX1_init_8 rfl (by decide) wd_161 rfl (by decide) s1 ?_
  refine ex_nmh (fun h2 eh2 => ?_)
  replace w := w h2 eh2
  have s3 := w.1
  replace w := w.2
  refine ex_putr (q := 13) dX1_init_10 fl_X1_9 (Or.inr ⟨rfl, rfl, wd_338, rfl⟩) s3 ?_
  refine ex_nmh (fun h4 eh4 => ?_)
  replace w := w h4 eh4
  refine ex_aload_n (q := 14) (x := a_0) dX1_init_13 rfl ?_
  refine ex_bipush (q := 16) (v := 40) dX1_init_14 (by decide) ?_
  refine ex_bipush (q := 18) (v := 80) dX1_init_16 (by decide) ?_
  have s5 := w.1
  replace w := w.2
  refine ex_G.room (bc' := bc + 41) (bs' := bs + 3240) (Nat.le_refl _) (Nat.le_refl _) (Nat.le_refl _) ?_
  refine ex_mna (q := 22) (N := 40) (K := 80) (M := mX1_init) dX1_init_18 wd_337 s5 ?_
  refine ex_nmh (fun h6 eh6 => ?_)
  replace w := w h6 eh6
  have s7 := w.1
  replace w := w.2
  refine ex_putr (q := 25) dX1_init_22 fl_X1_17 (Or.inr ⟨rfl, rfl, wd_339, rfl⟩) s7 ?_
  refine ex_nmh (fun h8 eh8 => ?_)
  replace w := w h8 eh8
  exact ex_return dX1_init_25 w

theorem X1_init_e {d bc bs : Nat} {h : AH} {Q : Option Value → AH → Prop} {a_0 : Nat} (w : ex_G mX1_init (d + 1) 0 [.ref a_0] [] h bc bs Q) : ex_S yX1_init mX1_init (d + 1) [.ref a_0] h bc bs Q :=
  ex_enter (plainFor_of_name (by decide +kernel)) ⟨rfl, rfl⟩ rfl rfl (Nat.le_of_ble_eq_true rfl) (ex_pad 0 w)

set_option maxRecDepth 100000 in
theorem X1_powerOf_0 {d bc bs : Nat} {h : AH} {Q : Option Value → AH → Prop} {a_0 : Nat} {a_1 : Nat} {v_2 : Int32} (w : ((2 ≤ v_2 → ah_o h a_0 1 ∧ ex_S yX1_findStrands mX1_findStrands (d + 2) [.ref a_0, .ref a_1] h 0 0 (fun r h2 => r = none ∧ ex_G mX1_powerOf (d + 3) 14 [.ref a_0, .ref a_1, .int v_2, .int 0, .retAddr 0, .retAddr 0] [] h2 bc bs Q)) ∧ (¬ 2 ≤ v_2 → Q (some (.int 0)) h))) : ex_G mX1_powerOf (d + 3) 0 [.ref a_0, .ref a_1, .int v_2, .retAddr 0, .retAddr 0, .retAddr 0] [] h bc bs Q := by
  refine ex_iload_n (q := 1) (x := v_2) dX1_powerOf_0 rfl ?_
  refine ex_iconst (q := 2) (v := 2) dX1_powerOf_1 (by decide) ?_
  refine ex_icmp_ge (tgt := 7) (q := 5) dX1_powerOf_2 (fun c1 => ?_) (fun c1 => ?_)
  · replace w := w.1 c1
    refine ex_aload_n (q := 8) (x := a_0) dX1_powerOf_7 rfl ?_
    refine ex_aload_n (q := 9) (x := a_1) dX1_powerOf_8 rfl ?_
    have s3 := w.1
    replace w := w.2
    refine ex_callV (q := 12) (M := mX1_powerOf) (hdd := Nat.le_refl _) (c := 1) (st := []) (bc := bc) (bs := bs) dX1_powerOf_9 rfl cl_X1_20 wd_796 wd_15 s3 w ?_
    rintro r h2 ⟨rfl, w⟩
    show ex_G mX1_powerOf (d + 3) 12 [.ref a_0, .ref a_1, .int v_2, .retAddr 0, .retAddr 0, .retAddr 0] [] h2 bc bs Q
    refine ex_iconst (q := 13) (v := 0) dX1_powerOf_12 (by decide) ?_
    refine ex_istore_n (q := 14) (ls' := [.ref a_0, .ref a_1, .int v_2, .int 0, .retAddr 0, .retAddr 0]) dX1_powerOf_13 rfl ?_
    exact w
  · replace w := w.2 c1
    refine ex_iconst (q := 6) (v := 0) dX1_powerOf_5 (by decide) ?_
    exact ex_ireturn dX1_powerOf_6 rfl (Or.inl rfl) w

set_option maxRecDepth 100000 in
theorem X1_powerOf_14 {d bc bs : Nat} {h : AH} {Q : Option Value → AH → Prop} {a_0 : Nat} {a_1 : Nat} {v_2 : Int32} {v_3 : Int32} (w : ah_o h a_1 4 ∧ (((ah_f h a_1 10) ≤ v_3 → ah_o h a_0 1 ∧ ex_S yX1_rank mX1_rank (d + 2) [.ref a_0, .int (ah_f h a_1 10), .int v_2] h 0 0 (fun r h4 => ∃ x5, r = some (.int x5) ∧ ah_o h4 a_1 4 ∧ Q (some (.int (((ah_f h a_0 2) - x5) + (ah_f h4 a_1 11)))) h4)) ∧ (¬ (ah_f h a_1 10) ≤ v_3 → ah_o h a_0 1 ∧ ∃ a8, ah_r h a_0 1 = some a8 ∧ ld3 h 3 a8 v_3 ∧ ∃ a10, ah_q h a8 (Int32.toNatClampNeg v_3) = some a10 ∧ ex_S yJ7_fill_53178 mJ7_fill_53178 (d + 2) [.ref a10, .int 0] h 0 0 (fun r h11 => r = none ∧ ah_o h11 a_0 1 ∧ ∃ a13, ah_r h11 a_0 0 = some a13 ∧ ld0 h11 a13 (4 * v_3) ∧ ld0 h11 a10 (ah_i h11 a13 (Int32.toNatClampNeg (4 * v_3))) ∧ st0 h11 a10 (ah_i h11 a13 (Int32.toNatClampNeg (4 * v_3))) ∧ ∀ h16, h16 = ah_si h11 a10 (Int32.toNatClampNeg (ah_i h11 a13 (Int32.toNatClampNeg (4 * v_3)))) ((ah_i h11 a10 (Int32.toNatClampNeg (ah_i h11 a13 (Int32.toNatClampNeg (4 * v_3))))) + 1) → ld0 h16 a13 ((4 * v_3) + 2) ∧ ld0 h16 a10 (ah_i h16 a13 (Int32.toNatClampNeg ((4 * v_3) + 2))) ∧ st0 h16 a10 (ah_i h16 a13 (Int32.toNatClampNeg ((4 * v_3) + 2))) ∧ ∀ h20, h20 = ah_si h16 a10 (Int32.toNatClampNeg (ah_i h16 a13 (Int32.toNatClampNeg ((4 * v_3) + 2)))) ((ah_i h16 a10 (Int32.toNatClampNeg (ah_i h16 a13 (Int32.toNatClampNeg ((4 * v_3) + 2))))) + 1) → ld0 h20 a13 ((4 * v_3) + 1) ∧ ∀ x23, x23 = ah_i h20 a13 (Int32.toNatClampNeg ((4 * v_3) + 1)) → ld0 h20 a10 x23 ∧ J9_floorMod_7cf53_C ((ah_i h20 a10 (Int32.toNatClampNeg x23)) - 2) v_2 h20 ∧ st0 h20 a10 x23 ∧ ∀ h26, h26 = ah_si h20 a10 (Int32.toNatClampNeg x23) (J9_floorMod_7cf53_V ((ah_i h20 a10 (Int32.toNatClampNeg x23)) - 2) v_2 h20) → ∀ x28, x28 = v_3 + 1 → ex_G mX1_powerOf (d + 3) 14 [.ref a_0, .ref a_1, .int v_2, .int x28, .retAddr 0, .retAddr 0] [] h26 bc bs Q)))) : ex_G mX1_powerOf (d + 3) 14 [.ref a_0, .ref a_1, .int v_2, .int v_3, .retAddr 0, .retAddr 0] [] h bc bs Q := by
  refine ex_iload_n (q := 15) (x := v_3) dX1_powerOf_14 rfl ?_
  refine ex_aload_n (q := 16) (x := a_1) dX1_powerOf_15 rfl ?_
  have s1 := w.1
  replace w := w.2
  refine ex_getf (q := 19) dX1_powerOf_16 fl_X1_24 s1 ?_
  refine ex_icmp_ge (tgt := 102) (q := 22) dX1_powerOf_19 (fun c2 => ?_) (fun c2 => ?_)
  · replace w := w.1 c2
    refine ex_aload_n (q := 103) (x := a_0) dX1_powerOf_102 rfl ?_
    have s3 := w.1
    replace w := w.2
    refine ex_getf (q := 106) dX1_powerOf_103 fl_X1_42 s3 ?_
    refine ex_aload_n (q := 107) (x := a_0) dX1_powerOf_106 rfl ?_
    refine ex_aload_n (q := 108) (x := a_1) dX1_powerOf_107 rfl ?_
    refine ex_getf (q := 111) dX1_powerOf_108 fl_X1_24 s1 ?_
    refine ex_iload_n (q := 112) (x := v_2) dX1_powerOf_111 rfl ?_
    refine ex_callV (q := 115) (M := mX1_powerOf) (hdd := Nat.le_refl _) (c := 1) (st := [.int (ah_f h a_0 2)]) (bc := bc) (bs := bs) dX1_powerOf_112 rfl cl_X1_45 wd_809 wd_17 s3 w ?_
    rintro r h4 ⟨x5, rfl, w⟩
    show ex_G mX1_powerOf (d + 3) 115 [.ref a_0, .ref a_1, .int v_2, .int v_3, .retAddr 0, .retAddr 0] [.int x5, .int (ah_f h a_0 2)] h4 bc bs Q
    refine ex_isub (q := 116) dX1_powerOf_115 ?_
    refine ex_aload_n (q := 117) (x := a_1) dX1_powerOf_116 rfl ?_
    have s6 := w.1
    replace w := w.2
    refine ex_getf (q := 120) dX1_powerOf_117 fl_X1_48 s6 ?_
    refine ex_iadd (q := 121) dX1_powerOf_120 ?_
    exact ex_ireturn dX1_powerOf_121 rfl (Or.inl rfl) w
  · replace w := w.2 c2
    refine ex_aload_n (q := 23) (x := a_0) dX1_powerOf_22 rfl ?_
    have s7 := w.1
    replace w := w.2
    obtain ⟨a8, ea8, w⟩ := w
    refine ex_getr (q := 26) dX1_powerOf_23 fl_X1_17 s7 ea8 ?_
    refine ex_iload_n (q := 27) (x := v_3) dX1_powerOf_26 rfl ?_
    have s9 := w.1
    replace w := w.2
    obtain ⟨a10, ea10, w⟩ := w
    refine ex_aald (q := 28) dX1_powerOf_27 s9 ea10 ?_
    refine ex_astore (q := 30) (ls' := [.ref a_0, .ref a_1, .int v_2, .int v_3, .ref a10, .retAddr 0]) dX1_powerOf_28 rfl ?_
    refine ex_aload (q := 32) (x := a10) dX1_powerOf_30 rfl ?_
    refine ex_iconst (q := 33) (v := 0) dX1_powerOf_32 (by decide) ?_
    refine ex_callS (q := 36) (M := mX1_powerOf) (hdd := Nat.le_refl _) (st := []) (bc := bc) (bs := bs) dX1_powerOf_33 rfl cl_X1_30 wd_251 w ?_
    rintro r h11 ⟨rfl, w⟩
    show ex_G mX1_powerOf (d + 3) 36 [.ref a_0, .ref a_1, .int v_2, .int v_3, .ref a10, .retAddr 0] [] h11 bc bs Q
    refine ex_aload (q := 38) (x := a10) dX1_powerOf_36 rfl ?_
    refine ex_aload_n (q := 39) (x := a_0) dX1_powerOf_38 rfl ?_
    have s12 := w.1
    replace w := w.2
    obtain ⟨a13, ea13, w⟩ := w
    refine ex_getr (q := 42) dX1_powerOf_39 fl_X1_9 s12 ea13 ?_
    refine ex_iconst (q := 43) (v := 4) dX1_powerOf_42 (by decide) ?_
    refine ex_iload_n (q := 44) (x := v_3) dX1_powerOf_43 rfl ?_
    refine ex_imul (q := 45) dX1_powerOf_44 ?_
    have s14 := w.1
    replace w := w.2
    refine ex_iald (q := 46) dX1_powerOf_45 s14 ?_
    refine ex_dup2 (q := 47) dX1_powerOf_46 rfl rfl ?_
    have s15 := w.1
    replace w := w.2
    refine ex_iald (q := 48) dX1_powerOf_47 s15 ?_
    refine ex_iconst (q := 49) (v := 1) dX1_powerOf_48 (by decide) ?_
    refine ex_iadd (q := 50) dX1_powerOf_49 ?_
    have s17 := w.1
    replace w := w.2
    refine ex_iast (q := 51) dX1_powerOf_50 s17 ?_
    refine ex_nmh (fun h16 eh16 => ?_)
    replace w := w h16 eh16
    refine ex_aload (q := 53) (x := a10) dX1_powerOf_51 rfl ?_
    refine ex_aload_n (q := 54) (x := a_0) dX1_powerOf_53 rfl ?_
    refine ex_getr (q := 57) dX1_powerOf_54 fl_X1_9 (by rw [eh16]; exact s12) (by rw [eh16]; exact ea13) ?_
    refine ex_iconst (q := 58) (v := 4) dX1_powerOf_57 (by decide) ?_
    refine ex_iload_n (q := 59) (x := v_3) dX1_powerOf_58 rfl ?_
    refine ex_imul (q := 60) dX1_powerOf_59 ?_
    refine ex_iconst (q := 61) (v := 2) dX1_powerOf_60 (by decide) ?_
    refine ex_iadd (q := 62) dX1_powerOf_61 ?_
    have s18 := w.1
    replace w := w.2
    refine ex_iald (q := 63) dX1_powerOf_62 s18 ?_
    refine ex_dup2 (q := 64) dX1_powerOf_63 rfl rfl ?_
    have s19 := w.1
    replace w := w.2
    refine ex_iald (q := 65) dX1_powerOf_64 s19 ?_
    refine ex_iconst (q := 66) (v := 1) dX1_powerOf_65 (by decide) ?_
    refine ex_iadd (q := 67) dX1_powerOf_66 ?_
    have s21 := w.1
    replace w := w.2
    refine ex_iast (q := 68) dX1_powerOf_67 s21 ?_
    refine ex_nmh (fun h20 eh20 => ?_)
    replace w := w h20 eh20
    refine ex_aload_n (q := 69) (x := a_0) dX1_powerOf_68 rfl ?_
    refine ex_getr (q := 72) dX1_powerOf_69 fl_X1_9 (by rw [eh20]; exact (by rw [eh16]; exact s12)) (by rw [eh20]; exact (by rw [eh16]; exact ea13)) ?_
    refine ex_iconst (q := 73) (v := 4) dX1_powerOf_72 (by decide) ?_
    refine ex_iload_n (q := 74) (x := v_3) dX1_powerOf_73 rfl ?_
    refine ex_imul (q := 75) dX1_powerOf_74 ?_
    refine ex_iconst (q := 76) (v := 1) dX1_powerOf_75 (by decide) ?_
    refine ex_iadd (q := 77) dX1_powerOf_76 ?_
    have s22 := w.1
    replace w := w.2
    refine ex_iald (q := 78) dX1_powerOf_77 s22 ?_
    refine ex_nmi (fun x23 ex23 => ?_)
    replace w := w x23 ex23
    refine ex_istore (q := 80) (ls' := [.ref a_0, .ref a_1, .int v_2, .int v_3, .ref a10, .int x23]) dX1_powerOf_78 rfl ?_
    refine ex_aload (q := 82) (x := a10) dX1_powerOf_80 rfl ?_
    refine ex_iload (q := 84) (x := x23) dX1_powerOf_82 rfl ?_
    refine ex_aload (q := 86) (x := a10) dX1_powerOf_84 rfl ?_
    refine ex_iload (q := 88) (x := x23) dX1_powerOf_86 rfl ?_
    have s24 := w.1
    replace w := w.2
    refine ex_iald (q := 89) dX1_powerOf_88 s24 ?_
    refine ex_iconst (q := 90) (v := 2) dX1_powerOf_89 (by decide) ?_
    refine ex_isub (q := 91) dX1_powerOf_90 ?_
    refine ex_iload_n (q := 92) (x := v_2) dX1_powerOf_91 rfl ?_
    have s25 := w.1
    replace w := w.2
    refine ex_callS (q := 95) (M := mX1_powerOf) (hdd := Nat.le_refl _) (mc := 0) (ms := 0) (d' := (d + 2)) (st := [.int x23, .ref a10]) (bc := bc) (bs := bs) dX1_powerOf_92 rfl cl_X1_36 wd_805 (J9_floorMod_7cf53_s (Q := fun r z => r = some (.int (J9_floorMod_7cf53_V ((ah_i h20 a10 (Int32.toNatClampNeg x23)) - 2) v_2 h20)) ∧ z = h20) s25 ⟨rfl, rfl⟩) ?_
    intro r z hrz
    rw [hrz.1, hrz.2]
    show ex_G mX1_powerOf (d + 3) 95 [.ref a_0, .ref a_1, .int v_2, .int v_3, .ref a10, .int x23] [.int (J9_floorMod_7cf53_V ((ah_i h20 a10 (Int32.toNatClampNeg x23)) - 2) v_2 h20), .int x23, .ref a10] (h20) bc bs Q
    have s27 := w.1
    replace w := w.2
    refine ex_iast (q := 96) dX1_powerOf_95 s27 ?_
    refine ex_nmh (fun h26 eh26 => ?_)
    replace w := w h26 eh26
    obtain ⟨x28, ex28⟩ : ∃ y : Int32, y = v_3 + 1 := ⟨_, rfl⟩
    replace w := w x28 ex28
    refine ex_iinc (q := 99) (x := v_3) (v := x28) (ls' := [.ref a_0, .ref a_1, .int v_2, .int x28, .ref a10, .int x23]) dX1_powerOf_96 rfl (by rw [ex28]; rfl) rfl ?_
    refine ex_goto (tgt := 14) dX1_powerOf_99 ?_
    refine ex_kill 4 (ls' := [.ref a_0, .ref a_1, .int v_2, .int x28, .retAddr 0, .int x23]) rfl ?_
    refine ex_kill 5 (ls' := [.ref a_0, .ref a_1, .int v_2, .int x28, .retAddr 0, .retAddr 0]) rfl ?_
    exact w

theorem X1_powerOf_e {d bc bs : Nat} {h : AH} {Q : Option Value → AH → Prop} {a_0 : Nat} {a_1 : Nat} {v_2 : Int32} (w : ex_G mX1_powerOf (d + 3) 0 [.ref a_0, .ref a_1, .int v_2, .retAddr 0, .retAddr 0, .retAddr 0] [] h bc bs Q) : ex_S yX1_powerOf mX1_powerOf (d + 3) [.ref a_0, .ref a_1, .int v_2] h bc bs Q :=
  ex_enter (plainFor_of_name (by decide +kernel)) ⟨rfl, rfl⟩ rfl rfl (Nat.le_of_ble_eq_true rfl) (ex_pad 3 w)

set_option maxRecDepth 100000 in
theorem X1_findStrands_0 {d bc bs : Nat} {h : AH} {Q : Option Value → AH → Prop} {a_0 : Nat} {a_1 : Nat} (w : ah_o h a_0 1 ∧ ∃ a2, ah_r h a_0 0 = some a2 ∧ ex_S yJ7_fill_53178 mJ7_fill_53178 (d + 1) [.ref a2, .int (-1)] h 0 0 (fun r h3 => r = none ∧ ah_o h3 a_0 1 ∧ ∀ h5, h5 = ah_sf h3 a_0 2 0 → ex_G mX1_findStrands (d + 2) 15 [.ref a_0, .ref a_1, .int 0] [] h5 bc bs Q)) : ex_G mX1_findStrands (d + 2) 0 [.ref a_0, .ref a_1, .retAddr 0] [] h bc bs Q := by
  refine ex_aload_n (q := 1) (x := a_0) dX1_findStrands_0 rfl ?_
  have s1 := w.1
  replace w := w.2
  obtain ⟨a2, ea2, w⟩ := w
  refine ex_getr (q := 4) dX1_findStrands_1 fl_X1_9 s1 ea2 ?_
  refine ex_iconst (q := 5) (v := (-1)) dX1_findStrands_4 (by decide) ?_
  refine ex_callS (q := 8) (M := mX1_findStrands) (hdd := Nat.le_refl _) (st := []) (bc := bc) (bs := bs) dX1_findStrands_5 rfl cl_X1_30 wd_251 w ?_
  rintro r h3 ⟨rfl, w⟩
  show ex_G mX1_findStrands (d + 2) 8 [.ref a_0, .ref a_1, .retAddr 0] [] h3 bc bs Q
  refine ex_aload_n (q := 9) (x := a_0) dX1_findStrands_8 rfl ?_
  refine ex_iconst (q := 10) (v := 0) dX1_findStrands_9 (by decide) ?_
  have s4 := w.1
  replace w := w.2
  refine ex_putf (q := 13) dX1_findStrands_10 fl_X1_42 (Or.inl rfl) s4 (Or.inl rfl) ?_
  refine ex_nmh (fun h5 eh5 => ?_)
  replace w := w h5 eh5
  refine ex_iconst (q := 14) (v := 0) dX1_findStrands_13 (by decide) ?_
  refine ex_istore_n (q := 15) (ls' := [.ref a_0, .ref a_1, .int 0]) dX1_findStrands_14 rfl ?_
  exact w

set_option maxRecDepth 100000 in
theorem X1_findStrands_15 {d bc bs : Nat} {h : AH} {Q : Option Value → AH → Prop} {a_0 : Nat} {a_1 : Nat} {v_2 : Int32} (w : ah_o h a_1 4 ∧ (((4 * (ah_f h a_1 10)) ≤ v_2 → Q none h) ∧ (¬ (4 * (ah_f h a_1 10)) ≤ v_2 → ah_o h a_0 1 ∧ ∃ a4, ah_r h a_0 0 = some a4 ∧ ld0 h a4 v_2 ∧ (((ah_i h a4 (Int32.toNatClampNeg v_2)) < 0 → ex_S yX1_walkStrand mX1_walkStrand (d + 1) [.ref a_0, .ref a_1, .int v_2] h 0 0 (fun r h7 => r = none ∧ ((¬ (v_2 &&& 1) = 1 → ah_o h7 a_0 1 ∧ ∀ h10, h10 = ah_sf h7 a_0 2 ((ah_f h7 a_0 2) + 1) → ∀ x11, x11 = v_2 + 1 → ex_G mX1_findStrands (d + 2) 15 [.ref a_0, .ref a_1, .int x11] [] h10 bc bs Q) ∧ ((v_2 &&& 1) = 1 → ah_o h7 a_0 1 ∧ ex_S yX1_walkStrand mX1_walkStrand (d + 1) [.ref a_0, .ref a_1, .int (X11_corner_V v_2 2 h7)] h7 0 0 (fun r h12 => r = none ∧ ah_o h12 a_0 1 ∧ ∀ h15, h15 = ah_sf h12 a_0 2 ((ah_f h12 a_0 2) + 1) → ∀ x16, x16 = v_2 + 1 → ex_G mX1_findStrands (d + 2) 15 [.ref a_0, .ref a_1, .int x16] [] h15 bc bs Q))))) ∧ (¬ (ah_i h a4 (Int32.toNatClampNeg v_2)) < 0 → ∀ x17, x17 = v_2 + 1 → ex_G mX1_findStrands (d + 2) 15 [.ref a_0, .ref a_1, .int x17] [] h bc bs Q))))) : ex_G mX1_findStrands (d + 2) 15 [.ref a_0, .ref a_1, .int v_2] [] h bc bs Q := by
  refine ex_iload_n (q := 16) (x := v_2) dX1_findStrands_15 rfl ?_
  refine ex_iconst (q := 17) (v := 4) dX1_findStrands_16 (by decide) ?_
  refine ex_aload_n (q := 18) (x := a_1) dX1_findStrands_17 rfl ?_
  have s1 := w.1
  replace w := w.2
  refine ex_getf (q := 21) dX1_findStrands_18 fl_X1_24 s1 ?_
  refine ex_imul (q := 22) dX1_findStrands_21 ?_
  refine ex_icmp_ge (tgt := 76) (q := 25) dX1_findStrands_22 (fun c2 => ?_) (fun c2 => ?_)
  · replace w := w.1 c2
    exact ex_return dX1_findStrands_76 w
  · replace w := w.2 c2
    refine ex_aload_n (q := 26) (x := a_0) dX1_findStrands_25 rfl ?_
    have s3 := w.1
    replace w := w.2
    obtain ⟨a4, ea4, w⟩ := w
    refine ex_getr (q := 29) dX1_findStrands_26 fl_X1_9 s3 ea4 ?_
    refine ex_iload_n (q := 30) (x := v_2) dX1_findStrands_29 rfl ?_
    have s5 := w.1
    replace w := w.2
    refine ex_iald (q := 31) dX1_findStrands_30 s5 ?_
    refine ex_if_lt (tgt := 37) (q := 34) dX1_findStrands_31 (fun c6 => ?_) (fun c6 => ?_)
    · replace w := w.1 c6
      refine ex_aload_n (q := 38) (x := a_0) dX1_findStrands_37 rfl ?_
      refine ex_aload_n (q := 39) (x := a_1) dX1_findStrands_38 rfl ?_
      refine ex_iload_n (q := 40) (x := v_2) dX1_findStrands_39 rfl ?_
      refine ex_callV (q := 43) (M := mX1_findStrands) (hdd := Nat.le_refl _) (c := 1) (st := []) (bc := bc) (bs := bs) dX1_findStrands_40 rfl cl_X1_51 wd_801 wd_16 s3 w ?_
      rintro r h7 ⟨rfl, w⟩
      show ex_G mX1_findStrands (d + 2) 43 [.ref a_0, .ref a_1, .int v_2] [] h7 bc bs Q
      refine ex_iload_n (q := 44) (x := v_2) dX1_findStrands_43 rfl ?_
      refine ex_iconst (q := 45) (v := 1) dX1_findStrands_44 (by decide) ?_
      refine ex_iand (q := 46) dX1_findStrands_45 ?_
      refine ex_iconst (q := 47) (v := 1) dX1_findStrands_46 (by decide) ?_
      refine ex_icmp_ne (tgt := 60) (q := 50) dX1_findStrands_47 (fun c8 => ?_) (fun c8 => ?_)
      · replace w := w.1 c8
        refine ex_aload_n (q := 61) (x := a_0) dX1_findStrands_60 rfl ?_
        refine ex_dup (q := 62) dX1_findStrands_61 rfl ?_
        have s9 := w.1
        replace w := w.2
        refine ex_getf (q := 65) dX1_findStrands_62 fl_X1_42 s9 ?_
        refine ex_iconst (q := 66) (v := 1) dX1_findStrands_65 (by decide) ?_
        refine ex_iadd (q := 67) dX1_findStrands_66 ?_
        refine ex_putf (q := 70) dX1_findStrands_67 fl_X1_42 (Or.inl rfl) s9 (Or.inl rfl) ?_
        refine ex_nmh (fun h10 eh10 => ?_)
        replace w := w h10 eh10
        obtain ⟨x11, ex11⟩ : ∃ y : Int32, y = v_2 + 1 := ⟨_, rfl⟩
        replace w := w x11 ex11
        refine ex_iinc (q := 73) (x := v_2) (v := x11) (ls' := [.ref a_0, .ref a_1, .int x11]) dX1_findStrands_70 rfl (by rw [ex11]; rfl) rfl ?_
        refine ex_goto (tgt := 15) dX1_findStrands_73 ?_
        exact w
      · replace w := w.2 c8
        refine ex_aload_n (q := 51) (x := a_0) dX1_findStrands_50 rfl ?_
        refine ex_aload_n (q := 52) (x := a_1) dX1_findStrands_51 rfl ?_
        refine ex_iload_n (q := 53) (x := v_2) dX1_findStrands_52 rfl ?_
        refine ex_iconst (q := 54) (v := 2) dX1_findStrands_53 (by decide) ?_
        refine ex_callS (q := 57) (M := mX1_findStrands) (hdd := Nat.le_refl _) (mc := 0) (ms := 0) (d' := (d + 1)) (st := [.ref a_1, .ref a_0]) (bc := bc) (bs := bs) dX1_findStrands_54 rfl cl_X1_55 wd_663 (X11_corner_s (Q := fun r z => r = some (.int (X11_corner_V v_2 2 h7)) ∧ z = h7) ⟨rfl, rfl⟩) ?_
        intro r z hrz
        rw [hrz.1, hrz.2]
        show ex_G mX1_findStrands (d + 2) 57 [.ref a_0, .ref a_1, .int v_2] [.int (X11_corner_V v_2 2 h7), .ref a_1, .ref a_0] (h7) bc bs Q
        have s13 := w.1
        replace w := w.2
        refine ex_callV (q := 60) (M := mX1_findStrands) (hdd := Nat.le_refl _) (c := 1) (st := []) (bc := bc) (bs := bs) dX1_findStrands_57 rfl cl_X1_51 wd_801 wd_16 s13 w ?_
        rintro r h12 ⟨rfl, w⟩
        show ex_G mX1_findStrands (d + 2) 60 [.ref a_0, .ref a_1, .int v_2] [] h12 bc bs Q
        refine ex_aload_n (q := 61) (x := a_0) dX1_findStrands_60 rfl ?_
        refine ex_dup (q := 62) dX1_findStrands_61 rfl ?_
        have s14 := w.1
        replace w := w.2
        refine ex_getf (q := 65) dX1_findStrands_62 fl_X1_42 s14 ?_
        refine ex_iconst (q := 66) (v := 1) dX1_findStrands_65 (by decide) ?_
        refine ex_iadd (q := 67) dX1_findStrands_66 ?_
        refine ex_putf (q := 70) dX1_findStrands_67 fl_X1_42 (Or.inl rfl) s14 (Or.inl rfl) ?_
        refine ex_nmh (fun h15 eh15 => ?_)
        replace w := w h15 eh15
        obtain ⟨x16, ex16⟩ : ∃ y : Int32, y = v_2 + 1 := ⟨_, rfl⟩
        replace w := w x16 ex16
        refine ex_iinc (q := 73) (x := v_2) (v := x16) (ls' := [.ref a_0, .ref a_1, .int x16]) dX1_findStrands_70 rfl (by rw [ex16]; rfl) rfl ?_
        refine ex_goto (tgt := 15) dX1_findStrands_73 ?_
        exact w
    · replace w := w.2 c6
      refine ex_goto (tgt := 70) dX1_findStrands_34 ?_
      obtain ⟨x17, ex17⟩ : ∃ y : Int32, y = v_2 + 1 := ⟨_, rfl⟩
      replace w := w x17 ex17
      refine ex_iinc (q := 73) (x := v_2) (v := x17) (ls' := [.ref a_0, .ref a_1, .int x17]) dX1_findStrands_70 rfl (by rw [ex17]; rfl) rfl ?_
      refine ex_goto (tgt := 15) dX1_findStrands_73 ?_
      exact w

theorem X1_findStrands_e {d bc bs : Nat} {h : AH} {Q : Option Value → AH → Prop} {a_0 : Nat} {a_1 : Nat} (w : ex_G mX1_findStrands (d + 2) 0 [.ref a_0, .ref a_1, .retAddr 0] [] h bc bs Q) : ex_S yX1_findStrands mX1_findStrands (d + 2) [.ref a_0, .ref a_1] h bc bs Q :=
  ex_enter (plainFor_of_name (by decide +kernel)) ⟨rfl, rfl⟩ rfl rfl (Nat.le_of_ble_eq_true rfl) (ex_pad 1 w)

set_option maxRecDepth 100000 in
theorem X1_walkStrand_0 {d bc bs : Nat} {h : AH} {Q : Option Value → AH → Prop} {a_0 : Nat} {a_1 : Nat} {v_2 : Int32} (w : ex_G mX1_walkStrand (d + 1) 5 [.ref a_0, .ref a_1, .retAddr 0, .int v_2, .int 0, .retAddr 0] [] h bc bs Q) : ex_G mX1_walkStrand (d + 1) 0 [.ref a_0, .ref a_1, .int v_2, .retAddr 0, .retAddr 0, .retAddr 0] [] h bc bs Q := by
  refine ex_iload_n (q := 1) (x := v_2) dX1_walkStrand_0 rfl ?_
  refine ex_istore_n (q := 2) (ls' := [.ref a_0, .ref a_1, .int v_2, .int v_2, .retAddr 0, .retAddr 0]) dX1_walkStrand_1 rfl ?_
  refine ex_iconst (q := 3) (v := 0) dX1_walkStrand_2 (by decide) ?_
  refine ex_istore (q := 5) (ls' := [.ref a_0, .ref a_1, .int v_2, .int v_2, .int 0, .retAddr 0]) dX1_walkStrand_3 rfl ?_
  refine ex_kill 2 (ls' := [.ref a_0, .ref a_1, .retAddr 0, .int v_2, .int 0, .retAddr 0]) rfl ?_
  exact w

set_option maxRecDepth 100000 in
theorem X1_walkStrand_5 {d bc bs : Nat} {h : AH} {Q : Option Value → AH → Prop} {a_0 : Nat} {a_1 : Nat} {v_3 : Int32} {v_4 : Int32} (w : ((160 ≤ v_4 → Q none h) ∧ (¬ 160 ≤ v_4 → ah_o h a_0 1 ∧ ∃ a3, ah_r h a_0 0 = some a3 ∧ ld0 h a3 v_3 ∧ ((0 ≤ (ah_i h a3 (Int32.toNatClampNeg v_3)) → Q none h) ∧ (¬ 0 ≤ (ah_i h a3 (Int32.toNatClampNeg v_3)) → ah_o h a_1 4 ∧ ∃ a7, ah_r h a_1 0 = some a7 ∧ ld0 h a7 v_3 ∧ ∀ x9, x9 = ah_i h a7 (Int32.toNatClampNeg v_3) → st0 h a3 v_3 ∧ ∀ h10, h10 = ah_si h a3 (Int32.toNatClampNeg v_3) (ah_f h a_0 2) → st0 h10 a3 x9 ∧ ∀ h12, h12 = ah_si h10 a3 (Int32.toNatClampNeg x9) (ah_f h10 a_0 2) → ((¬ (x9 &&& 1) = 0 → ∀ x15, x15 = X11_corner_V x9 2 h12 → ∀ x16, x16 = v_4 + 1 → ex_G mX1_walkStrand (d + 1) 5 [.ref a_0, .ref a_1, .retAddr 0, .int x15, .int x16, .retAddr 0] [] h12 bc bs Q) ∧ ((x9 &&& 1) = 0 → Q none h12))))))) : ex_G mX1_walkStrand (d + 1) 5 [.ref a_0, .ref a_1, .retAddr 0, .int v_3, .int v_4, .retAddr 0] [] h bc bs Q := by
  refine ex_iload (q := 7) (x := v_4) dX1_walkStrand_5 rfl ?_
  refine ex_sipush (q := 10) (v := 160) dX1_walkStrand_7 (by decide) ?_
  refine ex_icmp_ge (tgt := 72) (q := 13) dX1_walkStrand_10 (fun c1 => ?_) (fun c1 => ?_)
  · replace w := w.1 c1
    exact ex_return dX1_walkStrand_72 w
  · replace w := w.2 c1
    refine ex_aload_n (q := 14) (x := a_0) dX1_walkStrand_13 rfl ?_
    have s2 := w.1
    replace w := w.2
    obtain ⟨a3, ea3, w⟩ := w
    refine ex_getr (q := 17) dX1_walkStrand_14 fl_X1_9 s2 ea3 ?_
    refine ex_iload_n (q := 18) (x := v_3) dX1_walkStrand_17 rfl ?_
    have s4 := w.1
    replace w := w.2
    refine ex_iald (q := 19) dX1_walkStrand_18 s4 ?_
    refine ex_if_ge (tgt := 72) (q := 22) dX1_walkStrand_19 (fun c5 => ?_) (fun c5 => ?_)
    · replace w := w.1 c5
      exact ex_return dX1_walkStrand_72 w
    · replace w := w.2 c5
      refine ex_aload_n (q := 23) (x := a_1) dX1_walkStrand_22 rfl ?_
      have s6 := w.1
      replace w := w.2
      obtain ⟨a7, ea7, w⟩ := w
      refine ex_getr (q := 26) dX1_walkStrand_23 fl_X1_58 s6 ea7 ?_
      refine ex_iload_n (q := 27) (x := v_3) dX1_walkStrand_26 rfl ?_
      have s8 := w.1
      replace w := w.2
      refine ex_iald (q := 28) dX1_walkStrand_27 s8 ?_
      refine ex_nmi (fun x9 ex9 => ?_)
      replace w := w x9 ex9
      refine ex_istore (q := 30) (ls' := [.ref a_0, .ref a_1, .retAddr 0, .int v_3, .int v_4, .int x9]) dX1_walkStrand_28 rfl ?_
      refine ex_aload_n (q := 31) (x := a_0) dX1_walkStrand_30 rfl ?_
      refine ex_getr (q := 34) dX1_walkStrand_31 fl_X1_9 s2 ea3 ?_
      refine ex_iload_n (q := 35) (x := v_3) dX1_walkStrand_34 rfl ?_
      refine ex_aload_n (q := 36) (x := a_0) dX1_walkStrand_35 rfl ?_
      refine ex_getf (q := 39) dX1_walkStrand_36 fl_X1_42 s2 ?_
      have s11 := w.1
      replace w := w.2
      refine ex_iast (q := 40) dX1_walkStrand_39 s11 ?_
      refine ex_nmh (fun h10 eh10 => ?_)
      replace w := w h10 eh10
      refine ex_aload_n (q := 41) (x := a_0) dX1_walkStrand_40 rfl ?_
      refine ex_getr (q := 44) dX1_walkStrand_41 fl_X1_9 (by rw [eh10]; exact s2) (by rw [eh10]; exact ea3) ?_
      refine ex_iload (q := 46) (x := x9) dX1_walkStrand_44 rfl ?_
      refine ex_aload_n (q := 47) (x := a_0) dX1_walkStrand_46 rfl ?_
      refine ex_getf (q := 50) dX1_walkStrand_47 fl_X1_42 (by rw [eh10]; exact s2) ?_
      have s13 := w.1
      replace w := w.2
      refine ex_iast (q := 51) dX1_walkStrand_50 s13 ?_
      refine ex_nmh (fun h12 eh12 => ?_)
      replace w := w h12 eh12
      refine ex_iload (q := 53) (x := x9) dX1_walkStrand_51 rfl ?_
      refine ex_iconst (q := 54) (v := 1) dX1_walkStrand_53 (by decide) ?_
      refine ex_iand (q := 55) dX1_walkStrand_54 ?_
      refine ex_if_ne (tgt := 59) (q := 58) dX1_walkStrand_55 (fun c14 => ?_) (fun c14 => ?_)
      · replace w := w.1 c14
        refine ex_iload (q := 61) (x := x9) dX1_walkStrand_59 rfl ?_
        refine ex_iconst (q := 62) (v := 2) dX1_walkStrand_61 (by decide) ?_
        refine ex_callS (q := 65) (M := mX1_walkStrand) (hdd := Nat.le_refl _) (mc := 0) (ms := 0) (d' := d) (st := []) (bc := bc) (bs := bs) dX1_walkStrand_62 rfl cl_X1_55 wd_663 (X11_corner_s (Q := fun r z => r = some (.int (X11_corner_V x9 2 h12)) ∧ z = h12) ⟨rfl, rfl⟩) ?_
        intro r z hrz
        rw [hrz.1, hrz.2]
        show ex_G mX1_walkStrand (d + 1) 65 [.ref a_0, .ref a_1, .retAddr 0, .int v_3, .int v_4, .int x9] [.int (X11_corner_V x9 2 h12)] (h12) bc bs Q
        refine ex_nmi (fun x15 ex15 => ?_)
        replace w := w x15 ex15
        refine ex_istore_n (q := 66) (ls' := [.ref a_0, .ref a_1, .retAddr 0, .int x15, .int v_4, .int x9]) dX1_walkStrand_65 rfl ?_
        obtain ⟨x16, ex16⟩ : ∃ y : Int32, y = v_4 + 1 := ⟨_, rfl⟩
        replace w := w x16 ex16
        refine ex_iinc (q := 69) (x := v_4) (v := x16) (ls' := [.ref a_0, .ref a_1, .retAddr 0, .int x15, .int x16, .int x9]) dX1_walkStrand_66 rfl (by rw [ex16]; rfl) rfl ?_
        refine ex_goto (tgt := 5) dX1_walkStrand_69 ?_
        refine ex_kill 5 (ls' := [.ref a_0, .ref a_1, .retAddr 0, .int x15, .int x16, .retAddr 0]) rfl ?_
        exact w
      · replace w := w.2 c14
        exact ex_return dX1_walkStrand_58 w

theorem X1_walkStrand_e {d bc bs : Nat} {h : AH} {Q : Option Value → AH → Prop} {a_0 : Nat} {a_1 : Nat} {v_2 : Int32} (w : ex_G mX1_walkStrand (d + 1) 0 [.ref a_0, .ref a_1, .int v_2, .retAddr 0, .retAddr 0, .retAddr 0] [] h bc bs Q) : ex_S yX1_walkStrand mX1_walkStrand (d + 1) [.ref a_0, .ref a_1, .int v_2] h bc bs Q :=
  ex_enter (plainFor_of_name (by decide +kernel)) ⟨rfl, rfl⟩ rfl rfl (Nat.le_of_ble_eq_true rfl) (ex_pad 3 w)

set_option maxRecDepth 100000 in
theorem X1_rank_0 {d bc bs : Nat} {h : AH} {Q : Option Value → AH → Prop} {a_0 : Nat} {v_1 : Int32} {v_2 : Int32} (w : ex_G mX1_rank (d + 2) 5 [.ref a_0, .int v_1, .int v_2, .int 0, .int 0, .retAddr 0, .retAddr 0] [] h bc bs Q) : ex_G mX1_rank (d + 2) 0 [.ref a_0, .int v_1, .int v_2, .retAddr 0, .retAddr 0, .retAddr 0, .retAddr 0] [] h bc bs Q := by
  refine ex_iconst (q := 1) (v := 0) dX1_rank_0 (by decide) ?_
  refine ex_istore_n (q := 2) (ls' := [.ref a_0, .int v_1, .int v_2, .int 0, .retAddr 0, .retAddr 0, .retAddr 0]) dX1_rank_1 rfl ?_
  refine ex_iconst (q := 3) (v := 0) dX1_rank_2 (by decide) ?_
  refine ex_istore (q := 5) (ls' := [.ref a_0, .int v_1, .int v_2, .int 0, .int 0, .retAddr 0, .retAddr 0]) dX1_rank_3 rfl ?_
  exact w

set_option maxRecDepth 100000 in
theorem X1_rank_5 {d bc bs : Nat} {h : AH} {Q : Option Value → AH → Prop} {a_0 : Nat} {v_1 : Int32} {v_2 : Int32} {v_3 : Int32} {v_4 : Int32} (w : ah_o h a_0 1 ∧ (((ah_f h a_0 2) ≤ v_4 → Q (some (.int v_3)) h) ∧ (¬ (ah_f h a_0 2) ≤ v_4 → ((v_1 ≤ v_3 → Q (some (.int v_3)) h) ∧ (¬ v_1 ≤ v_3 → ex_S yX1_pivotOf mX1_pivotOf (d + 1) [.ref a_0, .int v_4, .int v_3, .int v_1] h 0 0 (fun r h4 => ∃ x5, r = some (.int x5) ∧ ((x5 < 0 → ∀ x7, x7 = v_4 + 1 → ex_G mX1_rank (d + 2) 5 [.ref a_0, .int v_1, .int v_2, .int v_3, .int x7, .retAddr 0, .retAddr 0] [] h4 bc bs Q) ∧ (¬ x5 < 0 → ah_o h4 a_0 1 ∧ ∃ a9, ah_r h4 a_0 1 = some a9 ∧ ld3 h4 3 a9 x5 ∧ ∃ a11, ah_q h4 a9 (Int32.toNatClampNeg x5) = some a11 ∧ ld3 h4 3 a9 v_3 ∧ ∃ a13, ah_q h4 a9 (Int32.toNatClampNeg v_3) = some a13 ∧ in_ h4 a13 ∧ ∀ h14, h14 = ah_sq h4 a9 (Int32.toNatClampNeg x5) (some a13) → in_ h14 a11 ∧ ∀ h16, h16 = ah_sq h14 a9 (Int32.toNatClampNeg v_3) (some a11) → ex_S yX1_clearBelow mX1_clearBelow (d + 1) [.ref a_0, .int v_4, .int v_3, .int v_1, .int v_2] h16 0 0 (fun r h18 => r = none ∧ ∀ x19, x19 = v_3 + 1 → ∀ x20, x20 = v_4 + 1 → ex_G mX1_rank (d + 2) 5 [.ref a_0, .int v_1, .int v_2, .int x19, .int x20, .retAddr 0, .retAddr 0] [] h18 bc bs Q))))))))) : ex_G mX1_rank (d + 2) 5 [.ref a_0, .int v_1, .int v_2, .int v_3, .int v_4, .retAddr 0, .retAddr 0] [] h bc bs Q := by
  refine ex_iload (q := 7) (x := v_4) dX1_rank_5 rfl ?_
  refine ex_aload_n (q := 8) (x := a_0) dX1_rank_7 rfl ?_
  have s1 := w.1
  replace w := w.2
  refine ex_getf (q := 11) dX1_rank_8 fl_X1_42 s1 ?_
  refine ex_icmp_ge (tgt := 82) (q := 14) dX1_rank_11 (fun c2 => ?_) (fun c2 => ?_)
  · replace w := w.1 c2
    refine ex_iload_n (q := 83) (x := v_3) dX1_rank_82 rfl ?_
    exact ex_ireturn dX1_rank_83 rfl (Or.inl rfl) w
  · replace w := w.2 c2
    refine ex_iload_n (q := 15) (x := v_3) dX1_rank_14 rfl ?_
    refine ex_iload_n (q := 16) (x := v_1) dX1_rank_15 rfl ?_
    refine ex_icmp_ge (tgt := 82) (q := 19) dX1_rank_16 (fun c3 => ?_) (fun c3 => ?_)
    · replace w := w.1 c3
      refine ex_iload_n (q := 83) (x := v_3) dX1_rank_82 rfl ?_
      exact ex_ireturn dX1_rank_83 rfl (Or.inl rfl) w
    · replace w := w.2 c3
      refine ex_aload_n (q := 20) (x := a_0) dX1_rank_19 rfl ?_
      refine ex_iload (q := 22) (x := v_4) dX1_rank_20 rfl ?_
      refine ex_iload_n (q := 23) (x := v_3) dX1_rank_22 rfl ?_
      refine ex_iload_n (q := 24) (x := v_1) dX1_rank_23 rfl ?_
      refine ex_callV (q := 27) (M := mX1_rank) (hdd := Nat.le_refl _) (c := 1) (st := []) (bc := bc) (bs := bs) dX1_rank_24 rfl cl_X1_61 wd_813 wd_18 s1 w ?_
      rintro r h4 ⟨x5, rfl, w⟩
      show ex_G mX1_rank (d + 2) 27 [.ref a_0, .int v_1, .int v_2, .int v_3, .int v_4, .retAddr 0, .retAddr 0] [.int x5] h4 bc bs Q
      refine ex_istore (q := 29) (ls' := [.ref a_0, .int v_1, .int v_2, .int v_3, .int v_4, .int x5, .retAddr 0]) dX1_rank_27 rfl ?_
      refine ex_iload (q := 31) (x := x5) dX1_rank_29 rfl ?_
      refine ex_if_lt (tgt := 76) (q := 34) dX1_rank_31 (fun c6 => ?_) (fun c6 => ?_)
      · replace w := w.1 c6
        obtain ⟨x7, ex7⟩ : ∃ y : Int32, y = v_4 + 1 := ⟨_, rfl⟩
        replace w := w x7 ex7
        refine ex_iinc (q := 79) (x := v_4) (v := x7) (ls' := [.ref a_0, .int v_1, .int v_2, .int v_3, .int x7, .int x5, .retAddr 0]) dX1_rank_76 rfl (by rw [ex7]; rfl) rfl ?_
        refine ex_goto (tgt := 5) dX1_rank_79 ?_
        refine ex_kill 5 (ls' := [.ref a_0, .int v_1, .int v_2, .int v_3, .int x7, .retAddr 0, .retAddr 0]) rfl ?_
        exact w
      · replace w := w.2 c6
        refine ex_aload_n (q := 35) (x := a_0) dX1_rank_34 rfl ?_
        have s8 := w.1
        replace w := w.2
        obtain ⟨a9, ea9, w⟩ := w
        refine ex_getr (q := 38) dX1_rank_35 fl_X1_17 s8 ea9 ?_
        refine ex_iload (q := 40) (x := x5) dX1_rank_38 rfl ?_
        have s10 := w.1
        replace w := w.2
        obtain ⟨a11, ea11, w⟩ := w
        refine ex_aald (q := 41) dX1_rank_40 s10 ea11 ?_
        refine ex_astore (q := 43) (ls' := [.ref a_0, .int v_1, .int v_2, .int v_3, .int v_4, .int x5, .ref a11]) dX1_rank_41 rfl ?_
        refine ex_aload_n (q := 44) (x := a_0) dX1_rank_43 rfl ?_
        refine ex_getr (q := 47) dX1_rank_44 fl_X1_17 s8 ea9 ?_
        refine ex_iload (q := 49) (x := x5) dX1_rank_47 rfl ?_
        refine ex_aload_n (q := 50) (x := a_0) dX1_rank_49 rfl ?_
        refine ex_getr (q := 53) dX1_rank_50 fl_X1_17 s8 ea9 ?_
        refine ex_iload_n (q := 54) (x := v_3) dX1_rank_53 rfl ?_
        have s12 := w.1
        replace w := w.2
        obtain ⟨a13, ea13, w⟩ := w
        refine ex_aald (q := 55) dX1_rank_54 s12 ea13 ?_
        have s15 := w.1
        replace w := w.2
        refine ex_aasti (q := 56) dX1_rank_55 s10 s15 ?_
        refine ex_nmh (fun h14 eh14 => ?_)
        replace w := w h14 eh14
        refine ex_aload_n (q := 57) (x := a_0) dX1_rank_56 rfl ?_
        refine ex_getr (q := 60) dX1_rank_57 fl_X1_17 (by rw [eh14]; exact s8) (by rw [eh14]; exact ea9) ?_
        refine ex_iload_n (q := 61) (x := v_3) dX1_rank_60 rfl ?_
        refine ex_aload (q := 63) (x := a11) dX1_rank_61 rfl ?_
        have s17 := w.1
        replace w := w.2
        refine ex_aasti (q := 64) dX1_rank_63 (by rw [eh14]; exact s12) s17 ?_
        refine ex_nmh (fun h16 eh16 => ?_)
        replace w := w h16 eh16
        refine ex_aload_n (q := 65) (x := a_0) dX1_rank_64 rfl ?_
        refine ex_iload (q := 67) (x := v_4) dX1_rank_65 rfl ?_
        refine ex_iload_n (q := 68) (x := v_3) dX1_rank_67 rfl ?_
        refine ex_iload_n (q := 69) (x := v_1) dX1_rank_68 rfl ?_
        refine ex_iload_n (q := 70) (x := v_2) dX1_rank_69 rfl ?_
        refine ex_callV (q := 73) (M := mX1_rank) (hdd := Nat.le_refl _) (c := 1) (st := []) (bc := bc) (bs := bs) dX1_rank_70 rfl cl_X1_65 wd_817 wd_19 (by rw [eh16]; exact (by rw [eh14]; exact s8)) w ?_
        rintro r h18 ⟨rfl, w⟩
        show ex_G mX1_rank (d + 2) 73 [.ref a_0, .int v_1, .int v_2, .int v_3, .int v_4, .int x5, .ref a11] [] h18 bc bs Q
        obtain ⟨x19, ex19⟩ : ∃ y : Int32, y = v_3 + 1 := ⟨_, rfl⟩
        replace w := w x19 ex19
        refine ex_iinc (q := 76) (x := v_3) (v := x19) (ls' := [.ref a_0, .int v_1, .int v_2, .int x19, .int v_4, .int x5, .ref a11]) dX1_rank_73 rfl (by rw [ex19]; rfl) rfl ?_
        obtain ⟨x20, ex20⟩ : ∃ y : Int32, y = v_4 + 1 := ⟨_, rfl⟩
        replace w := w x20 ex20
        refine ex_iinc (q := 79) (x := v_4) (v := x20) (ls' := [.ref a_0, .int v_1, .int v_2, .int x19, .int x20, .int x5, .ref a11]) dX1_rank_76 rfl (by rw [ex20]; rfl) rfl ?_
        refine ex_goto (tgt := 5) dX1_rank_79 ?_
        refine ex_kill 5 (ls' := [.ref a_0, .int v_1, .int v_2, .int x19, .int x20, .retAddr 0, .ref a11]) rfl ?_
        refine ex_kill 6 (ls' := [.ref a_0, .int v_1, .int v_2, .int x19, .int x20, .retAddr 0, .retAddr 0]) rfl ?_
        exact w

theorem X1_rank_e {d bc bs : Nat} {h : AH} {Q : Option Value → AH → Prop} {a_0 : Nat} {v_1 : Int32} {v_2 : Int32} (w : ex_G mX1_rank (d + 2) 0 [.ref a_0, .int v_1, .int v_2, .retAddr 0, .retAddr 0, .retAddr 0, .retAddr 0] [] h bc bs Q) : ex_S yX1_rank mX1_rank (d + 2) [.ref a_0, .int v_1, .int v_2] h bc bs Q :=
  ex_enter (plainFor_of_name (by decide +kernel)) ⟨rfl, rfl⟩ rfl rfl (Nat.le_of_ble_eq_true rfl) (ex_pad 4 w)

set_option maxRecDepth 100000 in
theorem X1_pivotOf_0 {d bc bs : Nat} {h : AH} {Q : Option Value → AH → Prop} {a_0 : Nat} {v_1 : Int32} {v_2 : Int32} {v_3 : Int32} (w : ex_G mX1_pivotOf d 3 [.ref a_0, .int v_1, .retAddr 0, .int v_3, .int v_2] [] h bc bs Q) : ex_G mX1_pivotOf d 0 [.ref a_0, .int v_1, .int v_2, .int v_3, .retAddr 0] [] h bc bs Q := by
  refine ex_iload_n (q := 1) (x := v_2) dX1_pivotOf_0 rfl ?_
  refine ex_istore (q := 3) (ls' := [.ref a_0, .int v_1, .int v_2, .int v_3, .int v_2]) dX1_pivotOf_1 rfl ?_
  refine ex_kill 2 (ls' := [.ref a_0, .int v_1, .retAddr 0, .int v_3, .int v_2]) rfl ?_
  exact w

set_option maxRecDepth 100000 in
theorem X1_pivotOf_3 {d bc bs : Nat} {h : AH} {Q : Option Value → AH → Prop} {a_0 : Nat} {v_1 : Int32} {v_3 : Int32} {v_4 : Int32} (w : ((v_3 ≤ v_4 → Q (some (.int (-1))) h) ∧ (¬ v_3 ≤ v_4 → ah_o h a_0 1 ∧ ∃ a3, ah_r h a_0 1 = some a3 ∧ ld3 h 3 a3 v_4 ∧ ∃ a5, ah_q h a3 (Int32.toNatClampNeg v_4) = some a5 ∧ ld0 h a5 v_1 ∧ (((ah_i h a5 (Int32.toNatClampNeg v_1)) = 0 → ∀ x8, x8 = v_4 + 1 → ex_G mX1_pivotOf d 3 [.ref a_0, .int v_1, .retAddr 0, .int v_3, .int x8] [] h bc bs Q) ∧ (¬ (ah_i h a5 (Int32.toNatClampNeg v_1)) = 0 → Q (some (.int v_4)) h))))) : ex_G mX1_pivotOf d 3 [.ref a_0, .int v_1, .retAddr 0, .int v_3, .int v_4] [] h bc bs Q := by
  refine ex_iload (q := 5) (x := v_4) dX1_pivotOf_3 rfl ?_
  refine ex_iload_n (q := 6) (x := v_3) dX1_pivotOf_5 rfl ?_
  refine ex_icmp_ge (tgt := 30) (q := 9) dX1_pivotOf_6 (fun c1 => ?_) (fun c1 => ?_)
  · replace w := w.1 c1
    refine ex_iconst (q := 31) (v := (-1)) dX1_pivotOf_30 (by decide) ?_
    exact ex_ireturn dX1_pivotOf_31 rfl (Or.inl rfl) w
  · replace w := w.2 c1
    refine ex_aload_n (q := 10) (x := a_0) dX1_pivotOf_9 rfl ?_
    have s2 := w.1
    replace w := w.2
    obtain ⟨a3, ea3, w⟩ := w
    refine ex_getr (q := 13) dX1_pivotOf_10 fl_X1_17 s2 ea3 ?_
    refine ex_iload (q := 15) (x := v_4) dX1_pivotOf_13 rfl ?_
    have s4 := w.1
    replace w := w.2
    obtain ⟨a5, ea5, w⟩ := w
    refine ex_aald (q := 16) dX1_pivotOf_15 s4 ea5 ?_
    refine ex_iload_n (q := 17) (x := v_1) dX1_pivotOf_16 rfl ?_
    have s6 := w.1
    replace w := w.2
    refine ex_iald (q := 18) dX1_pivotOf_17 s6 ?_
    refine ex_if_eq (tgt := 24) (q := 21) dX1_pivotOf_18 (fun c7 => ?_) (fun c7 => ?_)
    · replace w := w.1 c7
      obtain ⟨x8, ex8⟩ : ∃ y : Int32, y = v_4 + 1 := ⟨_, rfl⟩
      replace w := w x8 ex8
      refine ex_iinc (q := 27) (x := v_4) (v := x8) (ls' := [.ref a_0, .int v_1, .retAddr 0, .int v_3, .int x8]) dX1_pivotOf_24 rfl (by rw [ex8]; rfl) rfl ?_
      refine ex_goto (tgt := 3) dX1_pivotOf_27 ?_
      exact w
    · replace w := w.2 c7
      refine ex_iload (q := 23) (x := v_4) dX1_pivotOf_21 rfl ?_
      exact ex_ireturn dX1_pivotOf_23 rfl (Or.inl rfl) w

theorem X1_pivotOf_e {d bc bs : Nat} {h : AH} {Q : Option Value → AH → Prop} {a_0 : Nat} {v_1 : Int32} {v_2 : Int32} {v_3 : Int32} (w : ex_G mX1_pivotOf d 0 [.ref a_0, .int v_1, .int v_2, .int v_3, .retAddr 0] [] h bc bs Q) : ex_S yX1_pivotOf mX1_pivotOf d [.ref a_0, .int v_1, .int v_2, .int v_3] h bc bs Q :=
  ex_enter (plainFor_of_name (by decide +kernel)) ⟨rfl, rfl⟩ rfl rfl (Nat.le_of_ble_eq_true rfl) (ex_pad 1 w)

set_option maxRecDepth 100000 in
theorem X1_inverse_0 {d bc bs : Nat} {h : AH} {Q : Option Value → AH → Prop} {v_0 : Int32} {v_1 : Int32} (w : ex_G mX1_inverse d 2 [.int v_0, .int v_1, .int 1] [] h bc bs Q) : ex_G mX1_inverse d 0 [.int v_0, .int v_1, .retAddr 0] [] h bc bs Q := by
  refine ex_iconst (q := 1) (v := 1) dX1_inverse_0 (by decide) ?_
  refine ex_istore_n (q := 2) (ls' := [.int v_0, .int v_1, .int 1]) dX1_inverse_1 rfl ?_
  exact w

set_option maxRecDepth 100000 in
theorem X1_inverse_2 {d bc bs : Nat} {h : AH} {Q : Option Value → AH → Prop} {v_0 : Int32} {v_1 : Int32} {v_2 : Int32} (w : ((v_1 ≤ v_2 → Q (some (.int 0)) h) ∧ (¬ v_1 ≤ v_2 → ¬ v_1 = 0 ∧ ((¬ (im_ (v_2 * v_0) v_1) = 1 → ∀ x4, x4 = v_2 + 1 → ex_G mX1_inverse d 2 [.int v_0, .int v_1, .int x4] [] h bc bs Q) ∧ ((im_ (v_2 * v_0) v_1) = 1 → Q (some (.int v_2)) h))))) : ex_G mX1_inverse d 2 [.int v_0, .int v_1, .int v_2] [] h bc bs Q := by
  refine ex_iload_n (q := 3) (x := v_2) dX1_inverse_2 rfl ?_
  refine ex_iload_n (q := 4) (x := v_1) dX1_inverse_3 rfl ?_
  refine ex_icmp_ge (tgt := 24) (q := 7) dX1_inverse_4 (fun c1 => ?_) (fun c1 => ?_)
  · replace w := w.1 c1
    refine ex_iconst (q := 25) (v := 0) dX1_inverse_24 (by decide) ?_
    exact ex_ireturn dX1_inverse_25 rfl (Or.inl rfl) w
  · replace w := w.2 c1
    refine ex_iload_n (q := 8) (x := v_2) dX1_inverse_7 rfl ?_
    refine ex_iload_n (q := 9) (x := v_0) dX1_inverse_8 rfl ?_
    refine ex_imul (q := 10) dX1_inverse_9 ?_
    refine ex_iload_n (q := 11) (x := v_1) dX1_inverse_10 rfl ?_
    have s2 := w.1
    replace w := w.2
    refine ex_irem (q := 12) dX1_inverse_11 s2 ?_
    refine ex_iconst (q := 13) (v := 1) dX1_inverse_12 (by decide) ?_
    refine ex_icmp_ne (tgt := 18) (q := 16) dX1_inverse_13 (fun c3 => ?_) (fun c3 => ?_)
    · replace w := w.1 c3
      obtain ⟨x4, ex4⟩ : ∃ y : Int32, y = v_2 + 1 := ⟨_, rfl⟩
      replace w := w x4 ex4
      refine ex_iinc (q := 21) (x := v_2) (v := x4) (ls' := [.int v_0, .int v_1, .int x4]) dX1_inverse_18 rfl (by rw [ex4]; rfl) rfl ?_
      refine ex_goto (tgt := 2) dX1_inverse_21 ?_
      exact w
    · replace w := w.2 c3
      refine ex_iload_n (q := 17) (x := v_2) dX1_inverse_16 rfl ?_
      exact ex_ireturn dX1_inverse_17 rfl (Or.inl rfl) w

theorem X1_inverse_e {d bc bs : Nat} {h : AH} {Q : Option Value → AH → Prop} {v_0 : Int32} {v_1 : Int32} (w : ex_G mX1_inverse d 0 [.int v_0, .int v_1, .retAddr 0] [] h bc bs Q) : ex_S yX1_inverse mX1_inverse d [.int v_0, .int v_1] h bc bs Q :=
  ex_enter (plainFor_of_name (by decide +kernel)) ⟨rfl, rfl⟩ rfl rfl (Nat.le_of_ble_eq_true rfl) (ex_pad 1 w)

set_option maxRecDepth 100000 in
theorem X1_clearBelow_0 {d bc bs : Nat} {h : AH} {Q : Option Value → AH → Prop} {a_0 : Nat} {v_1 : Int32} {v_2 : Int32} {v_3 : Int32} {v_4 : Int32} (w : ah_o h a_0 1 ∧ ∃ a2, ah_r h a_0 1 = some a2 ∧ ld3 h 3 a2 v_2 ∧ ∃ a4, ah_q h a2 (Int32.toNatClampNeg v_2) = some a4 ∧ ld0 h a4 v_1 ∧ ex_S yX1_inverse mX1_inverse d [.int (ah_i h a4 (Int32.toNatClampNeg v_1)), .int v_4] h 0 0 (fun r h6 => ∃ x7, r = some (.int x7) ∧ ∀ x8, x8 = v_2 + 1 → ex_G mX1_clearBelow (d + 1) 24 [.ref a_0, .int v_1, .retAddr 0, .int v_3, .int v_4, .ref a4, .int x7, .int x8, .retAddr 0, .retAddr 0, .retAddr 0] [] h6 bc bs Q)) : ex_G mX1_clearBelow (d + 1) 0 [.ref a_0, .int v_1, .int v_2, .int v_3, .int v_4, .retAddr 0, .retAddr 0, .retAddr 0, .retAddr 0, .retAddr 0, .retAddr 0] [] h bc bs Q := by
  refine ex_aload_n (q := 1) (x := a_0) dX1_clearBelow_0 rfl ?_
  have s1 := w.1
  replace w := w.2
  obtain ⟨a2, ea2, w⟩ := w
  refine ex_getr (q := 4) dX1_clearBelow_1 fl_X1_17 s1 ea2 ?_
  refine ex_iload_n (q := 5) (x := v_2) dX1_clearBelow_4 rfl ?_
  have s3 := w.1
  replace w := w.2
  obtain ⟨a4, ea4, w⟩ := w
  refine ex_aald (q := 6) dX1_clearBelow_5 s3 ea4 ?_
  refine ex_astore (q := 8) (ls' := [.ref a_0, .int v_1, .int v_2, .int v_3, .int v_4, .ref a4, .retAddr 0, .retAddr 0, .retAddr 0, .retAddr 0, .retAddr 0]) dX1_clearBelow_6 rfl ?_
  refine ex_aload (q := 10) (x := a4) dX1_clearBelow_8 rfl ?_
  refine ex_iload_n (q := 11) (x := v_1) dX1_clearBelow_10 rfl ?_
  have s5 := w.1
  replace w := w.2
  refine ex_iald (q := 12) dX1_clearBelow_11 s5 ?_
  refine ex_iload (q := 14) (x := v_4) dX1_clearBelow_12 rfl ?_
  refine ex_callS (q := 17) (M := mX1_clearBelow) (hdd := Nat.le_refl _) (st := []) (bc := bc) (bs := bs) dX1_clearBelow_14 rfl cl_X1_69 wd_820 w ?_
  rintro r h6 ⟨x7, rfl, w⟩
  show ex_G mX1_clearBelow (d + 1) 17 [.ref a_0, .int v_1, .int v_2, .int v_3, .int v_4, .ref a4, .retAddr 0, .retAddr 0, .retAddr 0, .retAddr 0, .retAddr 0] [.int x7] h6 bc bs Q
  refine ex_istore (q := 19) (ls' := [.ref a_0, .int v_1, .int v_2, .int v_3, .int v_4, .ref a4, .int x7, .retAddr 0, .retAddr 0, .retAddr 0, .retAddr 0]) dX1_clearBelow_17 rfl ?_
  refine ex_iload_n (q := 20) (x := v_2) dX1_clearBelow_19 rfl ?_
  refine ex_iconst (q := 21) (v := 1) dX1_clearBelow_20 (by decide) ?_
  refine ex_iadd (q := 22) dX1_clearBelow_21 ?_
  refine ex_nmi (fun x8 ex8 => ?_)
  replace w := w x8 ex8
  refine ex_istore (q := 24) (ls' := [.ref a_0, .int v_1, .int v_2, .int v_3, .int v_4, .ref a4, .int x7, .int x8, .retAddr 0, .retAddr 0, .retAddr 0]) dX1_clearBelow_22 rfl ?_
  refine ex_kill 2 (ls' := [.ref a_0, .int v_1, .retAddr 0, .int v_3, .int v_4, .ref a4, .int x7, .int x8, .retAddr 0, .retAddr 0, .retAddr 0]) rfl ?_
  exact w

set_option maxRecDepth 100000 in
theorem X1_clearBelow_24 {d bc bs : Nat} {h : AH} {Q : Option Value → AH → Prop} {a_0 : Nat} {v_1 : Int32} {v_3 : Int32} {v_4 : Int32} {a_5 : Nat} {v_6 : Int32} {v_7 : Int32} (w : ((v_3 ≤ v_7 → Q none h) ∧ (¬ v_3 ≤ v_7 → ah_o h a_0 1 ∧ ∃ a3, ah_r h a_0 1 = some a3 ∧ ld3 h 3 a3 v_7 ∧ ∃ a5, ah_q h a3 (Int32.toNatClampNeg v_7) = some a5 ∧ ld0 h a5 v_1 ∧ ¬ v_4 = 0 ∧ ∀ x8, x8 = v_4 - (im_ ((ah_i h a5 (Int32.toNatClampNeg v_1)) * v_6) v_4) → ((¬ x8 = v_4 → ex_G mX1_clearBelow (d + 1) 67 [.ref a_0, .int v_1, .retAddr 0, .int v_3, .int v_4, .ref a_5, .int v_6, .int v_7, .ref a5, .int x8, .int v_1] [] h bc bs Q) ∧ (x8 = v_4 → ∀ x10, x10 = v_7 + 1 → ex_G mX1_clearBelow (d + 1) 24 [.ref a_0, .int v_1, .retAddr 0, .int v_3, .int v_4, .ref a_5, .int v_6, .int x10, .retAddr 0, .retAddr 0, .retAddr 0] [] h bc bs Q))))) : ex_G mX1_clearBelow (d + 1) 24 [.ref a_0, .int v_1, .retAddr 0, .int v_3, .int v_4, .ref a_5, .int v_6, .int v_7, .retAddr 0, .retAddr 0, .retAddr 0] [] h bc bs Q := by
  refine ex_iload (q := 26) (x := v_7) dX1_clearBelow_24 rfl ?_
  refine ex_iload_n (q := 27) (x := v_3) dX1_clearBelow_26 rfl ?_
  refine ex_icmp_ge (tgt := 110) (q := 30) dX1_clearBelow_27 (fun c1 => ?_) (fun c1 => ?_)
  · replace w := w.1 c1
    exact ex_return dX1_clearBelow_110 w
  · replace w := w.2 c1
    refine ex_aload_n (q := 31) (x := a_0) dX1_clearBelow_30 rfl ?_
    have s2 := w.1
    replace w := w.2
    obtain ⟨a3, ea3, w⟩ := w
    refine ex_getr (q := 34) dX1_clearBelow_31 fl_X1_17 s2 ea3 ?_
    refine ex_iload (q := 36) (x := v_7) dX1_clearBelow_34 rfl ?_
    have s4 := w.1
    replace w := w.2
    obtain ⟨a5, ea5, w⟩ := w
    refine ex_aald (q := 37) dX1_clearBelow_36 s4 ea5 ?_
    refine ex_astore (q := 39) (ls' := [.ref a_0, .int v_1, .retAddr 0, .int v_3, .int v_4, .ref a_5, .int v_6, .int v_7, .ref a5, .retAddr 0, .retAddr 0]) dX1_clearBelow_37 rfl ?_
    refine ex_iload (q := 41) (x := v_4) dX1_clearBelow_39 rfl ?_
    refine ex_aload (q := 43) (x := a5) dX1_clearBelow_41 rfl ?_
    refine ex_iload_n (q := 44) (x := v_1) dX1_clearBelow_43 rfl ?_
    have s6 := w.1
    replace w := w.2
    refine ex_iald (q := 45) dX1_clearBelow_44 s6 ?_
    refine ex_iload (q := 47) (x := v_6) dX1_clearBelow_45 rfl ?_
    refine ex_imul (q := 48) dX1_clearBelow_47 ?_
    refine ex_iload (q := 50) (x := v_4) dX1_clearBelow_48 rfl ?_
    have s7 := w.1
    replace w := w.2
    refine ex_irem (q := 51) dX1_clearBelow_50 s7 ?_
    refine ex_isub (q := 52) dX1_clearBelow_51 ?_
    refine ex_nmi (fun x8 ex8 => ?_)
    replace w := w x8 ex8
    refine ex_istore (q := 54) (ls' := [.ref a_0, .int v_1, .retAddr 0, .int v_3, .int v_4, .ref a_5, .int v_6, .int v_7, .ref a5, .int x8, .retAddr 0]) dX1_clearBelow_52 rfl ?_
    refine ex_iload (q := 56) (x := x8) dX1_clearBelow_54 rfl ?_
    refine ex_iload (q := 58) (x := v_4) dX1_clearBelow_56 rfl ?_
    refine ex_icmp_ne (tgt := 64) (q := 61) dX1_clearBelow_58 (fun c9 => ?_) (fun c9 => ?_)
    · replace w := w.1 c9
      refine ex_iload_n (q := 65) (x := v_1) dX1_clearBelow_64 rfl ?_
      refine ex_istore (q := 67) (ls' := [.ref a_0, .int v_1, .retAddr 0, .int v_3, .int v_4, .ref a_5, .int v_6, .int v_7, .ref a5, .int x8, .int v_1]) dX1_clearBelow_65 rfl ?_
      exact w
    · replace w := w.2 c9
      refine ex_goto (tgt := 104) dX1_clearBelow_61 ?_
      obtain ⟨x10, ex10⟩ : ∃ y : Int32, y = v_7 + 1 := ⟨_, rfl⟩
      replace w := w x10 ex10
      refine ex_iinc (q := 107) (x := v_7) (v := x10) (ls' := [.ref a_0, .int v_1, .retAddr 0, .int v_3, .int v_4, .ref a_5, .int v_6, .int x10, .ref a5, .int x8, .retAddr 0]) dX1_clearBelow_104 rfl (by rw [ex10]; rfl) rfl ?_
      refine ex_goto (tgt := 24) dX1_clearBelow_107 ?_
      refine ex_kill 8 (ls' := [.ref a_0, .int v_1, .retAddr 0, .int v_3, .int v_4, .ref a_5, .int v_6, .int x10, .retAddr 0, .int x8, .retAddr 0]) rfl ?_
      refine ex_kill 9 (ls' := [.ref a_0, .int v_1, .retAddr 0, .int v_3, .int v_4, .ref a_5, .int v_6, .int x10, .retAddr 0, .retAddr 0, .retAddr 0]) rfl ?_
      exact w

set_option maxRecDepth 100000 in
theorem X1_clearBelow_67 {d bc bs : Nat} {h : AH} {Q : Option Value → AH → Prop} {a_0 : Nat} {v_1 : Int32} {v_3 : Int32} {v_4 : Int32} {a_5 : Nat} {v_6 : Int32} {v_7 : Int32} {a_8 : Nat} {v_9 : Int32} {v_10 : Int32} (w : ah_o h a_0 1 ∧ (((ah_f h a_0 2) ≤ v_10 → ∀ x3, x3 = v_7 + 1 → ex_G mX1_clearBelow (d + 1) 24 [.ref a_0, .int v_1, .retAddr 0, .int v_3, .int v_4, .ref a_5, .int v_6, .int x3, .retAddr 0, .retAddr 0, .retAddr 0] [] h bc bs Q) ∧ (¬ (ah_f h a_0 2) ≤ v_10 → ld0 h a_8 v_10 ∧ ld0 h a_5 v_10 ∧ ¬ v_4 = 0 ∧ st0 h a_8 v_10 ∧ ∀ h7, h7 = ah_si h a_8 (Int32.toNatClampNeg v_10) (im_ ((ah_i h a_8 (Int32.toNatClampNeg v_10)) + (v_9 * (ah_i h a_5 (Int32.toNatClampNeg v_10)))) v_4) → ∀ x9, x9 = v_10 + 1 → ex_G mX1_clearBelow (d + 1) 67 [.ref a_0, .int v_1, .retAddr 0, .int v_3, .int v_4, .ref a_5, .int v_6, .int v_7, .ref a_8, .int v_9, .int x9] [] h7 bc bs Q))) : ex_G mX1_clearBelow (d + 1) 67 [.ref a_0, .int v_1, .retAddr 0, .int v_3, .int v_4, .ref a_5, .int v_6, .int v_7, .ref a_8, .int v_9, .int v_10] [] h bc bs Q := by
  refine ex_iload (q := 69) (x := v_10) dX1_clearBelow_67 rfl ?_
  refine ex_aload_n (q := 70) (x := a_0) dX1_clearBelow_69 rfl ?_
  have s1 := w.1
  replace w := w.2
  refine ex_getf (q := 73) dX1_clearBelow_70 fl_X1_42 s1 ?_
  refine ex_icmp_ge (tgt := 104) (q := 76) dX1_clearBelow_73 (fun c2 => ?_) (fun c2 => ?_)
  · replace w := w.1 c2
    obtain ⟨x3, ex3⟩ : ∃ y : Int32, y = v_7 + 1 := ⟨_, rfl⟩
    replace w := w x3 ex3
    refine ex_iinc (q := 107) (x := v_7) (v := x3) (ls' := [.ref a_0, .int v_1, .retAddr 0, .int v_3, .int v_4, .ref a_5, .int v_6, .int x3, .ref a_8, .int v_9, .int v_10]) dX1_clearBelow_104 rfl (by rw [ex3]; rfl) rfl ?_
    refine ex_goto (tgt := 24) dX1_clearBelow_107 ?_
    refine ex_kill 8 (ls' := [.ref a_0, .int v_1, .retAddr 0, .int v_3, .int v_4, .ref a_5, .int v_6, .int x3, .retAddr 0, .int v_9, .int v_10]) rfl ?_
    refine ex_kill 9 (ls' := [.ref a_0, .int v_1, .retAddr 0, .int v_3, .int v_4, .ref a_5, .int v_6, .int x3, .retAddr 0, .retAddr 0, .int v_10]) rfl ?_
    refine ex_kill 10 (ls' := [.ref a_0, .int v_1, .retAddr 0, .int v_3, .int v_4, .ref a_5, .int v_6, .int x3, .retAddr 0, .retAddr 0, .retAddr 0]) rfl ?_
    exact w
  · replace w := w.2 c2
    refine ex_aload (q := 78) (x := a_8) dX1_clearBelow_76 rfl ?_
    refine ex_iload (q := 80) (x := v_10) dX1_clearBelow_78 rfl ?_
    refine ex_aload (q := 82) (x := a_8) dX1_clearBelow_80 rfl ?_
    refine ex_iload (q := 84) (x := v_10) dX1_clearBelow_82 rfl ?_
    have s4 := w.1
    replace w := w.2
    refine ex_iald (q := 85) dX1_clearBelow_84 s4 ?_
    refine ex_iload (q := 87) (x := v_9) dX1_clearBelow_85 rfl ?_
    refine ex_aload (q := 89) (x := a_5) dX1_clearBelow_87 rfl ?_
    refine ex_iload (q := 91) (x := v_10) dX1_clearBelow_89 rfl ?_
    have s5 := w.1
    replace w := w.2
    refine ex_iald (q := 92) dX1_clearBelow_91 s5 ?_
    refine ex_imul (q := 93) dX1_clearBelow_92 ?_
    refine ex_iadd (q := 94) dX1_clearBelow_93 ?_
    refine ex_iload (q := 96) (x := v_4) dX1_clearBelow_94 rfl ?_
    have s6 := w.1
    replace w := w.2
    refine ex_irem (q := 97) dX1_clearBelow_96 s6 ?_
    have s8 := w.1
    replace w := w.2
    refine ex_iast (q := 98) dX1_clearBelow_97 s8 ?_
    refine ex_nmh (fun h7 eh7 => ?_)
    replace w := w h7 eh7
    obtain ⟨x9, ex9⟩ : ∃ y : Int32, y = v_10 + 1 := ⟨_, rfl⟩
    replace w := w x9 ex9
    refine ex_iinc (q := 101) (x := v_10) (v := x9) (ls' := [.ref a_0, .int v_1, .retAddr 0, .int v_3, .int v_4, .ref a_5, .int v_6, .int v_7, .ref a_8, .int v_9, .int x9]) dX1_clearBelow_98 rfl (by rw [ex9]; rfl) rfl ?_
    refine ex_goto (tgt := 67) dX1_clearBelow_101 ?_
    exact w

theorem X1_clearBelow_e {d bc bs : Nat} {h : AH} {Q : Option Value → AH → Prop} {a_0 : Nat} {v_1 : Int32} {v_2 : Int32} {v_3 : Int32} {v_4 : Int32} (w : ex_G mX1_clearBelow (d + 1) 0 [.ref a_0, .int v_1, .int v_2, .int v_3, .int v_4, .retAddr 0, .retAddr 0, .retAddr 0, .retAddr 0, .retAddr 0, .retAddr 0] [] h bc bs Q) : ex_S yX1_clearBelow mX1_clearBelow (d + 1) [.ref a_0, .int v_1, .int v_2, .int v_3, .int v_4] h bc bs Q :=
  ex_enter (plainFor_of_name (by decide +kernel)) ⟨rfl, rfl⟩ rfl rfl (Nat.le_of_ble_eq_true rfl) (ex_pad 6 w)

set_option maxRecDepth 100000 in
theorem X4_init_0 {d bc bs : Nat} {h : AH} {Q : Option Value → AH → Prop} {a_0 : Nat} (w : ah_n h < 10000000 ∧ ∀ h2, h2 = ah_na h 0 160 → ah_o h2 a_0 4 ∧ ∀ h4, h4 = ah_sr h2 a_0 0 (some (ah_n h)) → ah_n h4 < 10000000 ∧ ∀ h6, h6 = ah_na h4 0 160 → ah_o h6 a_0 4 ∧ ∀ h8, h8 = ah_sr h6 a_0 1 (some (ah_n h4)) → ah_n h8 < 10000000 ∧ ∀ h10, h10 = ah_na h8 0 160 → ah_o h10 a_0 4 ∧ ∀ h12, h12 = ah_sr h10 a_0 2 (some (ah_n h8)) → ah_n h12 < 10000000 ∧ ∀ h14, h14 = ah_na h12 0 160 → ah_o h14 a_0 4 ∧ ∀ h16, h16 = ah_sr h14 a_0 3 (some (ah_n h12)) → ah_n h16 < 10000000 ∧ ∀ h18, h18 = ah_na h16 0 160 → ah_o h18 a_0 4 ∧ ∀ h20, h20 = ah_sr h18 a_0 4 (some (ah_n h16)) → ah_n h20 < 10000000 ∧ ∀ h22, h22 = ah_na h20 0 160 → ah_o h22 a_0 4 ∧ ∀ h24, h24 = ah_sr h22 a_0 5 (some (ah_n h20)) → ah_n h24 < 10000000 ∧ ∀ h26, h26 = ah_na h24 0 40 → ah_o h26 a_0 4 ∧ ∀ h28, h28 = ah_sr h26 a_0 6 (some (ah_n h24)) → ah_n h28 < 10000000 ∧ ∀ h30, h30 = ah_na h28 0 40 → ah_o h30 a_0 4 ∧ ∀ h32, h32 = ah_sr h30 a_0 7 (some (ah_n h28)) → ah_n h32 < 10000000 ∧ ∀ h34, h34 = ah_na h32 0 40 → ah_o h34 a_0 4 ∧ ∀ h36, h36 = ah_sr h34 a_0 8 (some (ah_n h32)) → ah_n h36 < 10000000 ∧ ∀ h38, h38 = ah_na h36 0 100 → ah_o h38 a_0 4 ∧ ∀ h40, h40 = ah_sr h38 a_0 9 (some (ah_n h36)) → Q none h40) : ex_G mX4_init (d + 1) 0 [.ref a_0] [] h (bc + 10) (bs + 1180) Q := by
  refine ex_aload_n (q := 1) (x := a_0) dX4_init_0 rfl ?_
  refine ex_objInit (q := 4) (hd1 := Nat.succ_le_succ (Nat.zero_le _)) (h1 := wd_135) (h2 := wd_136) (st := []) dX4_init_1 wd_167 ?_
  refine ex_aload_n (q := 5) (x := a_0) dX4_init_4 rfl ?_
  refine ex_sipush (q := 8) (v := 160) dX4_init_5 (by decide) ?_
  have s1 := w.1
  replace w := w.2
  refine ex_G.room (bc' := (bc + 9) + 1) (bs' := (bs + 1020) + 160) (Nat.le_refl _) (rm_le rfl) (rm_le rfl) ?_
  refine ex_newarray (q := 10) (t := 0) (N := 160) (M := mX4_init) dX4_init_8 rfl (by decide) wd_161 rfl (by decide) s1 ?_
  refine ex_nmh (fun h2 eh2 => ?_)
  replace w := w h2 eh2
  have s3 := w.1
  replace w := w.2
  refine ex_putr (q := 13) dX4_init_10 fl_X4_9 (Or.inr ⟨rfl, rfl, wd_168, rfl⟩) s3 ?_
  refine ex_nmh (fun h4 eh4 => ?_)
  replace w := w h4 eh4
  refine ex_aload_n (q := 14) (x := a_0) dX4_init_13 rfl ?_
  refine ex_sipush (q := 17) (v := 160) dX4_init_14 (by decide) ?_
  have s5 := w.1
  replace w := w.2
  refine ex_G.room (bc' := (bc + 8) + 1) (bs' := (bs + 860) + 160) (Nat.le_refl _) (rm_le rfl) (rm_le rfl) ?_
  refine ex_newarray (q := 19) (t := 0) (N := 160) (M := mX4_init) dX4_init_17 rfl (by decide) wd_161 rfl (by decide) s5 ?_
  refine ex_nmh (fun h6 eh6 => ?_)
  replace w := w h6 eh6
  have s7 := w.1
  replace w := w.2
  refine ex_putr (q := 22) dX4_init_19 fl_X4_15 (Or.inr ⟨rfl, rfl, wd_175, rfl⟩) s7 ?_
  refine ex_nmh (fun h8 eh8 => ?_)
  replace w := w h8 eh8
  refine ex_aload_n (q := 23) (x := a_0) dX4_init_22 rfl ?_
  refine ex_sipush (q := 26) (v := 160) dX4_init_23 (by decide) ?_
  have s9 := w.1
  replace w := w.2
  refine ex_G.room (bc' := (bc + 7) + 1) (bs' := (bs + 700) + 160) (Nat.le_refl _) (rm_le rfl) (rm_le rfl) ?_
  refine ex_newarray (q := 28) (t := 0) (N := 160) (M := mX4_init) dX4_init_26 rfl (by decide) wd_161 rfl (by decide) s9 ?_
  refine ex_nmh (fun h10 eh10 => ?_)
  replace w := w h10 eh10
  have s11 := w.1
  replace w := w.2
  refine ex_putr (q := 31) dX4_init_28 fl_X4_18 (Or.inr ⟨rfl, rfl, wd_177, rfl⟩) s11 ?_
  refine ex_nmh (fun h12 eh12 => ?_)
  replace w := w h12 eh12
  refine ex_aload_n (q := 32) (x := a_0) dX4_init_31 rfl ?_
  refine ex_sipush (q := 35) (v := 160) dX4_init_32 (by decide) ?_
  have s13 := w.1
  replace w := w.2
  refine ex_G.room (bc' := (bc + 6) + 1) (bs' := (bs + 540) + 160) (Nat.le_refl _) (rm_le rfl) (rm_le rfl) ?_
  refine ex_newarray (q := 37) (t := 0) (N := 160) (M := mX4_init) dX4_init_35 rfl (by decide) wd_161 rfl (by decide) s13 ?_
  refine ex_nmh (fun h14 eh14 => ?_)
  replace w := w h14 eh14
  have s15 := w.1
  replace w := w.2
  refine ex_putr (q := 40) dX4_init_37 fl_X4_21 (Or.inr ⟨rfl, rfl, wd_178, rfl⟩) s15 ?_
  refine ex_nmh (fun h16 eh16 => ?_)
  replace w := w h16 eh16
  refine ex_aload_n (q := 41) (x := a_0) dX4_init_40 rfl ?_
  refine ex_sipush (q := 44) (v := 160) dX4_init_41 (by decide) ?_
  have s17 := w.1
  replace w := w.2
  refine ex_G.room (bc' := (bc + 5) + 1) (bs' := (bs + 380) + 160) (Nat.le_refl _) (rm_le rfl) (rm_le rfl) ?_
  refine ex_newarray (q := 46) (t := 0) (N := 160) (M := mX4_init) dX4_init_44 rfl (by decide) wd_161 rfl (by decide) s17 ?_
  refine ex_nmh (fun h18 eh18 => ?_)
  replace w := w h18 eh18
  have s19 := w.1
  replace w := w.2
  refine ex_putr (q := 49) dX4_init_46 fl_X4_24 (Or.inr ⟨rfl, rfl, wd_180, rfl⟩) s19 ?_
  refine ex_nmh (fun h20 eh20 => ?_)
  replace w := w h20 eh20
  refine ex_aload_n (q := 50) (x := a_0) dX4_init_49 rfl ?_
  refine ex_sipush (q := 53) (v := 160) dX4_init_50 (by decide) ?_
  have s21 := w.1
  replace w := w.2
  refine ex_G.room (bc' := (bc + 4) + 1) (bs' := (bs + 220) + 160) (Nat.le_refl _) (rm_le rfl) (rm_le rfl) ?_
  refine ex_newarray (q := 55) (t := 0) (N := 160) (M := mX4_init) dX4_init_53 rfl (by decide) wd_161 rfl (by decide) s21 ?_
  refine ex_nmh (fun h22 eh22 => ?_)
  replace w := w h22 eh22
  have s23 := w.1
  replace w := w.2
  refine ex_putr (q := 58) dX4_init_55 fl_X4_27 (Or.inr ⟨rfl, rfl, wd_181, rfl⟩) s23 ?_
  refine ex_nmh (fun h24 eh24 => ?_)
  replace w := w h24 eh24
  refine ex_aload_n (q := 59) (x := a_0) dX4_init_58 rfl ?_
  refine ex_bipush (q := 61) (v := 40) dX4_init_59 (by decide) ?_
  have s25 := w.1
  replace w := w.2
  refine ex_G.room (bc' := (bc + 3) + 1) (bs' := (bs + 180) + 40) (Nat.le_refl _) (rm_le rfl) (rm_le rfl) ?_
  refine ex_newarray (q := 63) (t := 0) (N := 40) (M := mX4_init) dX4_init_61 rfl (by decide) wd_161 rfl (by decide) s25 ?_
  refine ex_nmh (fun h26 eh26 => ?_)
  replace w := w h26 eh26
  have s27 := w.1
  replace w := w.2
  refine ex_putr (q := 66) dX4_init_63 fl_X4_30 (Or.inr ⟨rfl, rfl, wd_182, rfl⟩) s27 ?_
  refine ex_nmh (fun h28 eh28 => ?_)
  replace w := w h28 eh28
  refine ex_aload_n (q := 67) (x := a_0) dX4_init_66 rfl ?_
  refine ex_bipush (q := 69) (v := 40) dX4_init_67 (by decide) ?_
  have s29 := w.1
  replace w := w.2
  refine ex_G.room (bc' := (bc + 2) + 1) (bs' := (bs + 140) + 40) (Nat.le_refl _) (rm_le rfl) (rm_le rfl) ?_
  refine ex_newarray (q := 71) (t := 0) (N := 40) (M := mX4_init) dX4_init_69 rfl (by decide) wd_161 rfl (by decide) s29 ?_
  refine ex_nmh (fun h30 eh30 => ?_)
  replace w := w h30 eh30
  have s31 := w.1
  replace w := w.2
  refine ex_putr (q := 74) dX4_init_71 fl_X4_33 (Or.inr ⟨rfl, rfl, wd_184, rfl⟩) s31 ?_
  refine ex_nmh (fun h32 eh32 => ?_)
  replace w := w h32 eh32
  refine ex_aload_n (q := 75) (x := a_0) dX4_init_74 rfl ?_
  refine ex_bipush (q := 77) (v := 40) dX4_init_75 (by decide) ?_
  have s33 := w.1
  replace w := w.2
  refine ex_G.room (bc' := (bc + 1) + 1) (bs' := (bs + 100) + 40) (Nat.le_refl _) (rm_le rfl) (rm_le rfl) ?_
  refine ex_newarray (q := 79) (t := 0) (N := 40) (M := mX4_init) dX4_init_77 rfl (by decide) wd_161 rfl (by decide) s33 ?_
  refine ex_nmh (fun h34 eh34 => ?_)
  replace w := w h34 eh34
  have s35 := w.1
  replace w := w.2
  refine ex_putr (q := 82) dX4_init_79 fl_X4_36 (Or.inr ⟨rfl, rfl, wd_185, rfl⟩) s35 ?_
  refine ex_nmh (fun h36 eh36 => ?_)
  replace w := w h36 eh36
  refine ex_aload_n (q := 83) (x := a_0) dX4_init_82 rfl ?_
  refine ex_bipush (q := 85) (v := 100) dX4_init_83 (by decide) ?_
  have s37 := w.1
  replace w := w.2
  refine ex_G.room (bc' := bc + 1) (bs' := bs + 100) (Nat.le_refl _) (Nat.le_refl _) (Nat.le_refl _) ?_
  refine ex_newarray (q := 87) (t := 0) (N := 100) (M := mX4_init) dX4_init_85 rfl (by decide) wd_161 rfl (by decide) s37 ?_
  refine ex_nmh (fun h38 eh38 => ?_)
  replace w := w h38 eh38
  have s39 := w.1
  replace w := w.2
  refine ex_putr (q := 90) dX4_init_87 fl_X4_39 (Or.inr ⟨rfl, rfl, wd_186, rfl⟩) s39 ?_
  refine ex_nmh (fun h40 eh40 => ?_)
  replace w := w h40 eh40
  exact ex_return dX4_init_90 w

theorem X4_init_e {d bc bs : Nat} {h : AH} {Q : Option Value → AH → Prop} {a_0 : Nat} (w : ex_G mX4_init (d + 1) 0 [.ref a_0] [] h bc bs Q) : ex_S yX4_init mX4_init (d + 1) [.ref a_0] h bc bs Q :=
  ex_enter (plainFor_of_name (by decide +kernel)) ⟨rfl, rfl⟩ rfl rfl (Nat.le_of_ble_eq_true rfl) (ex_pad 0 w)

set_option maxRecDepth 100000 in
theorem X4_survey_0 {d bc bs : Nat} {h : AH} {Q : Option Value → AH → Prop} {a_0 : Nat} {a_1 : Nat} (w : ah_o h a_1 7 ∧ ah_o h a_0 4 ∧ ∀ h3, h3 = ah_sf h a_0 10 (ah_f h a_1 2) → ∀ h4, h4 = ah_sf h3 a_0 11 (ah_f h3 a_1 3) → ∀ h5, h5 = ah_sf h4 a_0 16 0 → ∀ h6, h6 = ah_sf h5 a_0 17 (-1) → ex_S yX4_findFault mX4_findFault (d + 2) [.ref a_0, .ref a_1] h6 0 0 (fun r h7 => r = none ∧ ah_o h7 a_0 4 ∧ (((ah_f h7 a_0 16) = 0 → ex_S yX4_pairUp mX4_pairUp (d + 2) [.ref a_0, .ref a_1] h7 0 0 (fun r h10 => r = none ∧ ah_o h10 a_0 4 ∧ ex_S yX4_findRegions mX4_findRegions (d + 2) [.ref a_0] h10 0 0 (fun r h11 => r = none ∧ ah_o h11 a_0 4 ∧ ex_S yX4_findParts mX4_findParts (d + 2) [.ref a_0] h11 0 0 (fun r h13 => r = none ∧ ah_o h13 a_0 4 ∧ (((ah_f h13 a_0 12) = ((ah_f h13 a_0 10) + (2 * (ah_f h13 a_0 13))) → ex_S yX4_findPieces mX4_findPieces (d + 2) [.ref a_0] h13 0 0 (fun r h17 => r = none ∧ ah_o h17 a_0 4 ∧ ex_S yX4_findSigns mX4_findSigns (d + 2) [.ref a_0] h17 0 0 (fun r h18 => r = none ∧ Q none h18))) ∧ (¬ (ah_f h13 a_0 12) = ((ah_f h13 a_0 10) + (2 * (ah_f h13 a_0 13))) → ∀ h20, h20 = ah_sf h13 a_0 16 4 → Q none h20)))))) ∧ (¬ (ah_f h7 a_0 16) = 0 → Q none h7)))) : ex_G mX4_survey (d + 3) 0 [.ref a_0, .ref a_1] [] h bc bs Q := by
  refine ex_aload_n (q := 1) (x := a_0) dX4_survey_0 rfl ?_
  refine ex_aload_n (q := 2) (x := a_1) dX4_survey_1 rfl ?_
  have s1 := w.1
  replace w := w.2
  refine ex_getf (q := 5) dX4_survey_2 fl_X4_52 s1 ?_
  have s2 := w.1
  replace w := w.2
  refine ex_putf (q := 8) dX4_survey_5 fl_X4_42 (Or.inl rfl) s2 (Or.inl rfl) ?_
  refine ex_nmh (fun h3 eh3 => ?_)
  replace w := w h3 eh3
  refine ex_aload_n (q := 9) (x := a_0) dX4_survey_8 rfl ?_
  refine ex_aload_n (q := 10) (x := a_1) dX4_survey_9 rfl ?_
  refine ex_getf (q := 13) dX4_survey_10 fl_X4_55 (by rw [eh3]; exact s1) ?_
  refine ex_putf (q := 16) dX4_survey_13 fl_X4_49 (Or.inl rfl) (by rw [eh3]; exact s2) (Or.inl rfl) ?_
  refine ex_nmh (fun h4 eh4 => ?_)
  replace w := w h4 eh4
  refine ex_aload_n (q := 17) (x := a_0) dX4_survey_16 rfl ?_
  refine ex_iconst (q := 18) (v := 0) dX4_survey_17 (by decide) ?_
  refine ex_putf (q := 21) dX4_survey_18 fl_X4_56 (Or.inl rfl) (by rw [eh4]; exact (by rw [eh3]; exact s2)) (Or.inl rfl) ?_
  refine ex_nmh (fun h5 eh5 => ?_)
  replace w := w h5 eh5
  refine ex_aload_n (q := 22) (x := a_0) dX4_survey_21 rfl ?_
  refine ex_iconst (q := 23) (v := (-1)) dX4_survey_22 (by decide) ?_
  refine ex_putf (q := 26) dX4_survey_23 fl_X4_59 (Or.inl rfl) (by rw [eh5]; exact (by rw [eh4]; exact (by rw [eh3]; exact s2))) (Or.inl rfl) ?_
  refine ex_nmh (fun h6 eh6 => ?_)
  replace w := w h6 eh6
  refine ex_aload_n (q := 27) (x := a_0) dX4_survey_26 rfl ?_
  refine ex_aload_n (q := 28) (x := a_1) dX4_survey_27 rfl ?_
  refine ex_callV (q := 31) (M := mX4_survey) (hdd := Nat.le_refl _) (c := 4) (st := []) (bc := bc) (bs := bs) dX4_survey_28 rfl cl_X4_62 wd_643 wd_5 (by rw [eh6]; exact (by rw [eh5]; exact (by rw [eh4]; exact (by rw [eh3]; exact s2)))) w ?_
  rintro r h7 ⟨rfl, w⟩
  show ex_G mX4_survey (d + 3) 31 [.ref a_0, .ref a_1] [] h7 bc bs Q
  refine ex_aload_n (q := 32) (x := a_0) dX4_survey_31 rfl ?_
  have s8 := w.1
  replace w := w.2
  refine ex_getf (q := 35) dX4_survey_32 fl_X4_56 s8 ?_
  refine ex_if_eq (tgt := 39) (q := 38) dX4_survey_35 (fun c9 => ?_) (fun c9 => ?_)
  · replace w := w.1 c9
    refine ex_aload_n (q := 40) (x := a_0) dX4_survey_39 rfl ?_
    refine ex_aload_n (q := 41) (x := a_1) dX4_survey_40 rfl ?_
    refine ex_callV (q := 44) (M := mX4_survey) (hdd := Nat.le_refl _) (c := 4) (st := []) (bc := bc) (bs := bs) dX4_survey_41 rfl cl_X4_66 wd_651 wd_652 s8 w ?_
    rintro r h10 ⟨rfl, w⟩
    show ex_G mX4_survey (d + 3) 44 [.ref a_0, .ref a_1] [] h10 bc bs Q
    refine ex_aload_n (q := 45) (x := a_0) dX4_survey_44 rfl ?_
    have s12 := w.1
    replace w := w.2
    refine ex_callV (q := 48) (M := mX4_survey) (hdd := Nat.le_refl _) (c := 4) (st := []) (bc := bc) (bs := bs) dX4_survey_45 rfl cl_X4_69 wd_655 wd_656 s12 w ?_
    rintro r h11 ⟨rfl, w⟩
    show ex_G mX4_survey (d + 3) 48 [.ref a_0, .ref a_1] [] h11 bc bs Q
    refine ex_aload_n (q := 49) (x := a_0) dX4_survey_48 rfl ?_
    have s14 := w.1
    replace w := w.2
    refine ex_callV (q := 52) (M := mX4_survey) (hdd := Nat.le_refl _) (c := 4) (st := []) (bc := bc) (bs := bs) dX4_survey_49 rfl cl_X4_72 wd_667 wd_8 s14 w ?_
    rintro r h13 ⟨rfl, w⟩
    show ex_G mX4_survey (d + 3) 52 [.ref a_0, .ref a_1] [] h13 bc bs Q
    refine ex_aload_n (q := 53) (x := a_0) dX4_survey_52 rfl ?_
    have s15 := w.1
    replace w := w.2
    refine ex_getf (q := 56) dX4_survey_53 fl_X4_75 s15 ?_
    refine ex_aload_n (q := 57) (x := a_0) dX4_survey_56 rfl ?_
    refine ex_getf (q := 60) dX4_survey_57 fl_X4_42 s15 ?_
    refine ex_iconst (q := 61) (v := 2) dX4_survey_60 (by decide) ?_
    refine ex_aload_n (q := 62) (x := a_0) dX4_survey_61 rfl ?_
    refine ex_getf (q := 65) dX4_survey_62 fl_X4_78 s15 ?_
    refine ex_imul (q := 66) dX4_survey_65 ?_
    refine ex_iadd (q := 67) dX4_survey_66 ?_
    refine ex_icmp_eq (tgt := 76) (q := 70) dX4_survey_67 (fun c16 => ?_) (fun c16 => ?_)
    · replace w := w.1 c16
      refine ex_aload_n (q := 77) (x := a_0) dX4_survey_76 rfl ?_
      refine ex_callV (q := 80) (M := mX4_survey) (hdd := Nat.le_refl _) (c := 4) (st := []) (bc := bc) (bs := bs) dX4_survey_77 rfl cl_X4_81 wd_675 wd_10 s15 w ?_
      rintro r h17 ⟨rfl, w⟩
      show ex_G mX4_survey (d + 3) 80 [.ref a_0, .ref a_1] [] h17 bc bs Q
      refine ex_aload_n (q := 81) (x := a_0) dX4_survey_80 rfl ?_
      have s19 := w.1
      replace w := w.2
      refine ex_callV (q := 84) (M := mX4_survey) (hdd := Nat.le_refl _) (c := 4) (st := []) (bc := bc) (bs := bs) dX4_survey_81 rfl cl_X4_84 wd_683 wd_12 s19 w ?_
      rintro r h18 ⟨rfl, w⟩
      show ex_G mX4_survey (d + 3) 84 [.ref a_0, .ref a_1] [] h18 bc bs Q
      exact ex_return dX4_survey_84 w
    · replace w := w.2 c16
      refine ex_aload_n (q := 71) (x := a_0) dX4_survey_70 rfl ?_
      refine ex_iconst (q := 72) (v := 4) dX4_survey_71 (by decide) ?_
      refine ex_putf (q := 75) dX4_survey_72 fl_X4_56 (Or.inl rfl) s15 (Or.inl rfl) ?_
      refine ex_nmh (fun h20 eh20 => ?_)
      replace w := w h20 eh20
      exact ex_return dX4_survey_75 w
  · replace w := w.2 c9
    exact ex_return dX4_survey_38 w

theorem X4_survey_e {d bc bs : Nat} {h : AH} {Q : Option Value → AH → Prop} {a_0 : Nat} {a_1 : Nat} (w : ex_G mX4_survey (d + 3) 0 [.ref a_0, .ref a_1] [] h bc bs Q) : ex_S yX4_survey mX4_survey (d + 3) [.ref a_0, .ref a_1] h bc bs Q :=
  ex_enter (plainFor_of_name (by decide +kernel)) ⟨rfl, rfl⟩ rfl rfl (Nat.le_of_ble_eq_true rfl) (ex_pad 0 w)

set_option maxRecDepth 100000 in
theorem X4_blame_0 {d bc bs : Nat} {h : AH} {Q : Option Value → AH → Prop} {a_0 : Nat} {v_1 : Int32} {v_2 : Int32} (w : ah_o h a_0 4 ∧ ((¬ (ah_f h a_0 16) = 0 → Q none h) ∧ ((ah_f h a_0 16) = 0 → ∀ h3, h3 = ah_sf h a_0 16 v_1 → ∀ h4, h4 = ah_sf h3 a_0 17 v_2 → Q none h4))) : ex_G mX4_blame d 0 [.ref a_0, .int v_1, .int v_2] [] h bc bs Q := by
  refine ex_aload_n (q := 1) (x := a_0) dX4_blame_0 rfl ?_
  have s1 := w.1
  replace w := w.2
  refine ex_getf (q := 4) dX4_blame_1 fl_X4_56 s1 ?_
  refine ex_if_ne (tgt := 17) (q := 7) dX4_blame_4 (fun c2 => ?_) (fun c2 => ?_)
  · replace w := w.1 c2
    exact ex_return dX4_blame_17 w
  · replace w := w.2 c2
    refine ex_aload_n (q := 8) (x := a_0) dX4_blame_7 rfl ?_
    refine ex_iload_n (q := 9) (x := v_1) dX4_blame_8 rfl ?_
    refine ex_putf (q := 12) dX4_blame_9 fl_X4_56 (Or.inl rfl) s1 (Or.inl rfl) ?_
    refine ex_nmh (fun h3 eh3 => ?_)
    replace w := w h3 eh3
    refine ex_aload_n (q := 13) (x := a_0) dX4_blame_12 rfl ?_
    refine ex_iload_n (q := 14) (x := v_2) dX4_blame_13 rfl ?_
    refine ex_putf (q := 17) dX4_blame_14 fl_X4_59 (Or.inl rfl) (by rw [eh3]; exact s1) (Or.inl rfl) ?_
    refine ex_nmh (fun h4 eh4 => ?_)
    replace w := w h4 eh4
    exact ex_return dX4_blame_17 w

theorem X4_blame_e {d bc bs : Nat} {h : AH} {Q : Option Value → AH → Prop} {a_0 : Nat} {v_1 : Int32} {v_2 : Int32} (w : ex_G mX4_blame d 0 [.ref a_0, .int v_1, .int v_2] [] h bc bs Q) : ex_S yX4_blame mX4_blame d [.ref a_0, .int v_1, .int v_2] h bc bs Q :=
  ex_enter (plainFor_of_name (by decide +kernel)) ⟨rfl, rfl⟩ rfl rfl (Nat.le_of_ble_eq_true rfl) (ex_pad 0 w)

set_option maxRecDepth 100000 in
theorem X4_findFault_0 {d bc bs : Nat} {h : AH} {Q : Option Value → AH → Prop} {a_0 : Nat} {a_1 : Nat} (w : ex_G mX4_findFault (d + 1) 2 [.ref a_0, .ref a_1, .int 0] [] h bc bs Q) : ex_G mX4_findFault (d + 1) 0 [.ref a_0, .ref a_1, .retAddr 0] [] h bc bs Q := by
  refine ex_iconst (q := 1) (v := 0) dX4_findFault_0 (by decide) ?_
  refine ex_istore_n (q := 2) (ls' := [.ref a_0, .ref a_1, .int 0]) dX4_findFault_1 rfl ?_
  exact w

set_option maxRecDepth 100000 in
theorem X4_findFault_2 {d bc bs : Nat} {h : AH} {Q : Option Value → AH → Prop} {a_0 : Nat} {a_1 : Nat} {v_2 : Int32} (w : ah_o h a_0 4 ∧ (((ah_f h a_0 10) ≤ v_2 → ex_G mX4_findFault (d + 1) 34 [.ref a_0, .ref a_1, .int 0] [] h bc bs Q) ∧ (¬ (ah_f h a_0 10) ≤ v_2 → ah_o h a_1 7 ∧ ∃ a4, ah_r h a_1 0 = some a4 ∧ ld0 h a4 v_2 ∧ (((ah_i h a4 (Int32.toNatClampNeg v_2)) = 4 → ∀ x7, x7 = v_2 + 1 → ex_G mX4_findFault (d + 1) 2 [.ref a_0, .ref a_1, .int x7] [] h bc bs Q) ∧ (¬ (ah_i h a4 (Int32.toNatClampNeg v_2)) = 4 → ex_S yX4_blame mX4_blame d [.ref a_0, .int 1, .int v_2] h 0 0 (fun r h8 => r = none ∧ ∀ x9, x9 = v_2 + 1 → ex_G mX4_findFault (d + 1) 2 [.ref a_0, .ref a_1, .int x9] [] h8 bc bs Q)))))) : ex_G mX4_findFault (d + 1) 2 [.ref a_0, .ref a_1, .int v_2] [] h bc bs Q := by
  refine ex_iload_n (q := 3) (x := v_2) dX4_findFault_2 rfl ?_
  refine ex_aload_n (q := 4) (x := a_0) dX4_findFault_3 rfl ?_
  have s1 := w.1
  replace w := w.2
  refine ex_getf (q := 7) dX4_findFault_4 fl_X4_42 s1 ?_
  refine ex_icmp_ge (tgt := 32) (q := 10) dX4_findFault_7 (fun c2 => ?_) (fun c2 => ?_)
  · replace w := w.1 c2
    refine ex_iconst (q := 33) (v := 0) dX4_findFault_32 (by decide) ?_
    refine ex_istore_n (q := 34) (ls' := [.ref a_0, .ref a_1, .int 0]) dX4_findFault_33 rfl ?_
    exact w
  · replace w := w.2 c2
    refine ex_aload_n (q := 11) (x := a_1) dX4_findFault_10 rfl ?_
    have s3 := w.1
    replace w := w.2
    obtain ⟨a4, ea4, w⟩ := w
    refine ex_getr (q := 14) dX4_findFault_11 fl_X4_87 s3 ea4 ?_
    refine ex_iload_n (q := 15) (x := v_2) dX4_findFault_14 rfl ?_
    have s5 := w.1
    replace w := w.2
    refine ex_iald (q := 16) dX4_findFault_15 s5 ?_
    refine ex_iconst (q := 17) (v := 4) dX4_findFault_16 (by decide) ?_
    refine ex_icmp_eq (tgt := 26) (q := 20) dX4_findFault_17 (fun c6 => ?_) (fun c6 => ?_)
    · replace w := w.1 c6
      obtain ⟨x7, ex7⟩ : ∃ y : Int32, y = v_2 + 1 := ⟨_, rfl⟩
      replace w := w x7 ex7
      refine ex_iinc (q := 29) (x := v_2) (v := x7) (ls' := [.ref a_0, .ref a_1, .int x7]) dX4_findFault_26 rfl (by rw [ex7]; rfl) rfl ?_
      refine ex_goto (tgt := 2) dX4_findFault_29 ?_
      exact w
    · replace w := w.2 c6
      refine ex_aload_n (q := 21) (x := a_0) dX4_findFault_20 rfl ?_
      refine ex_iconst (q := 22) (v := 1) dX4_findFault_21 (by decide) ?_
      refine ex_iload_n (q := 23) (x := v_2) dX4_findFault_22 rfl ?_
      refine ex_callV (q := 26) (M := mX4_findFault) (hdd := Nat.le_refl _) (c := 4) (st := []) (bc := bc) (bs := bs) dX4_findFault_23 rfl cl_X4_90 wd_647 wd_6 s1 w ?_
      rintro r h8 ⟨rfl, w⟩
      show ex_G mX4_findFault (d + 1) 26 [.ref a_0, .ref a_1, .int v_2] [] h8 bc bs Q
      obtain ⟨x9, ex9⟩ : ∃ y : Int32, y = v_2 + 1 := ⟨_, rfl⟩
      replace w := w x9 ex9
      refine ex_iinc (q := 29) (x := v_2) (v := x9) (ls' := [.ref a_0, .ref a_1, .int x9]) dX4_findFault_26 rfl (by rw [ex9]; rfl) rfl ?_
      refine ex_goto (tgt := 2) dX4_findFault_29 ?_
      exact w

set_option maxRecDepth 100000 in
theorem X4_findFault_34 {d bc bs : Nat} {h : AH} {Q : Option Value → AH → Prop} {a_0 : Nat} {a_1 : Nat} {v_2 : Int32} (w : ah_o h a_0 4 ∧ (((4 * (ah_f h a_0 10)) ≤ v_2 → (((ah_f h a_0 16) = 0 → ∃ a4, ah_r h a_0 9 = some a4 ∧ ex_S yJ7_fill_53178 mJ7_fill_53178 d [.ref a4, .int 0] h 0 0 (fun r h5 => r = none ∧ ex_G mX4_findFault (d + 1) 85 [.ref a_0, .ref a_1, .int 0] [] h5 bc bs Q)) ∧ (¬ (ah_f h a_0 16) = 0 → Q none h))) ∧ (¬ (4 * (ah_f h a_0 10)) ≤ v_2 → ah_o h a_1 7 ∧ ∃ a7, ah_r h a_1 1 = some a7 ∧ ld0 h a7 v_2 ∧ ((0 ≤ (ah_i h a7 (Int32.toNatClampNeg v_2)) → ∀ x10, x10 = v_2 + 1 → ex_G mX4_findFault (d + 1) 34 [.ref a_0, .ref a_1, .int x10] [] h bc bs Q) ∧ (¬ 0 ≤ (ah_i h a7 (Int32.toNatClampNeg v_2)) → ex_S yX4_blame mX4_blame d [.ref a_0, .int 2, .int (v_2 >>> (2 &&& (31 : Int32)))] h 0 0 (fun r h11 => r = none ∧ ∀ x12, x12 = v_2 + 1 → ex_G mX4_findFault (d + 1) 34 [.ref a_0, .ref a_1, .int x12] [] h11 bc bs Q)))))) : ex_G mX4_findFault (d + 1) 34 [.ref a_0, .ref a_1, .int v_2] [] h bc bs Q := by
  refine ex_iload_n (q := 35) (x := v_2) dX4_findFault_34 rfl ?_
  refine ex_iconst (q := 36) (v := 4) dX4_findFault_35 (by decide) ?_
  refine ex_aload_n (q := 37) (x := a_0) dX4_findFault_36 rfl ?_
  have s1 := w.1
  replace w := w.2
  refine ex_getf (q := 40) dX4_findFault_37 fl_X4_42 s1 ?_
  refine ex_imul (q := 41) dX4_findFault_40 ?_
  refine ex_icmp_ge (tgt := 67) (q := 44) dX4_findFault_41 (fun c2 => ?_) (fun c2 => ?_)
  · replace w := w.1 c2
    refine ex_aload_n (q := 68) (x := a_0) dX4_findFault_67 rfl ?_
    refine ex_getf (q := 71) dX4_findFault_68 fl_X4_56 s1 ?_
    refine ex_if_eq (tgt := 75) (q := 74) dX4_findFault_71 (fun c3 => ?_) (fun c3 => ?_)
    · replace w := w.1 c3
      refine ex_aload_n (q := 76) (x := a_0) dX4_findFault_75 rfl ?_
      obtain ⟨a4, ea4, w⟩ := w
      refine ex_getr (q := 79) dX4_findFault_76 fl_X4_39 s1 ea4 ?_
      refine ex_iconst (q := 80) (v := 0) dX4_findFault_79 (by decide) ?_
      refine ex_callS (q := 83) (M := mX4_findFault) (hdd := Nat.le_refl _) (st := []) (bc := bc) (bs := bs) dX4_findFault_80 rfl cl_X4_97 wd_251 w ?_
      rintro r h5 ⟨rfl, w⟩
      show ex_G mX4_findFault (d + 1) 83 [.ref a_0, .ref a_1, .int v_2] [] h5 bc bs Q
      refine ex_iconst (q := 84) (v := 0) dX4_findFault_83 (by decide) ?_
      refine ex_istore_n (q := 85) (ls' := [.ref a_0, .ref a_1, .int 0]) dX4_findFault_84 rfl ?_
      exact w
    · replace w := w.2 c3
      exact ex_return dX4_findFault_74 w
  · replace w := w.2 c2
    refine ex_aload_n (q := 45) (x := a_1) dX4_findFault_44 rfl ?_
    have s6 := w.1
    replace w := w.2
    obtain ⟨a7, ea7, w⟩ := w
    refine ex_getr (q := 48) dX4_findFault_45 fl_X4_94 s6 ea7 ?_
    refine ex_iload_n (q := 49) (x := v_2) dX4_findFault_48 rfl ?_
    have s8 := w.1
    replace w := w.2
    refine ex_iald (q := 50) dX4_findFault_49 s8 ?_
    refine ex_if_ge (tgt := 61) (q := 53) dX4_findFault_50 (fun c9 => ?_) (fun c9 => ?_)
    · replace w := w.1 c9
      obtain ⟨x10, ex10⟩ : ∃ y : Int32, y = v_2 + 1 := ⟨_, rfl⟩
      replace w := w x10 ex10
      refine ex_iinc (q := 64) (x := v_2) (v := x10) (ls' := [.ref a_0, .ref a_1, .int x10]) dX4_findFault_61 rfl (by rw [ex10]; rfl) rfl ?_
      refine ex_goto (tgt := 34) dX4_findFault_64 ?_
      exact w
    · replace w := w.2 c9
      refine ex_aload_n (q := 54) (x := a_0) dX4_findFault_53 rfl ?_
      refine ex_iconst (q := 55) (v := 2) dX4_findFault_54 (by decide) ?_
      refine ex_iload_n (q := 56) (x := v_2) dX4_findFault_55 rfl ?_
      refine ex_iconst (q := 57) (v := 2) dX4_findFault_56 (by decide) ?_
      refine ex_ishr (q := 58) dX4_findFault_57 ?_
      refine ex_callV (q := 61) (M := mX4_findFault) (hdd := Nat.le_refl _) (c := 4) (st := []) (bc := bc) (bs := bs) dX4_findFault_58 rfl cl_X4_90 wd_647 wd_6 s1 w ?_
      rintro r h11 ⟨rfl, w⟩
      show ex_G mX4_findFault (d + 1) 61 [.ref a_0, .ref a_1, .int v_2] [] h11 bc bs Q
      obtain ⟨x12, ex12⟩ : ∃ y : Int32, y = v_2 + 1 := ⟨_, rfl⟩
      replace w := w x12 ex12
      refine ex_iinc (q := 64) (x := v_2) (v := x12) (ls' := [.ref a_0, .ref a_1, .int x12]) dX4_findFault_61 rfl (by rw [ex12]; rfl) rfl ?_
      refine ex_goto (tgt := 34) dX4_findFault_64 ?_
      exact w

set_option maxRecDepth 100000 in
theorem X4_findFault_85 {d bc bs : Nat} {h : AH} {Q : Option Value → AH → Prop} {a_0 : Nat} {a_1 : Nat} {v_2 : Int32} (w : ah_o h a_0 4 ∧ (((4 * (ah_f h a_0 10)) ≤ v_2 → ex_G mX4_findFault (d + 1) 118 [.ref a_0, .ref a_1, .int 0] [] h bc bs Q) ∧ (¬ (4 * (ah_f h a_0 10)) ≤ v_2 → ∃ a3, ah_r h a_0 9 = some a3 ∧ ah_o h a_1 7 ∧ ∃ a5, ah_r h a_1 1 = some a5 ∧ ld0 h a5 v_2 ∧ ld0 h a3 (ah_i h a5 (Int32.toNatClampNeg v_2)) ∧ st0 h a3 (ah_i h a5 (Int32.toNatClampNeg v_2)) ∧ ∀ h8, h8 = ah_si h a3 (Int32.toNatClampNeg (ah_i h a5 (Int32.toNatClampNeg v_2))) ((ah_i h a3 (Int32.toNatClampNeg (ah_i h a5 (Int32.toNatClampNeg v_2)))) + 1) → ∀ x10, x10 = v_2 + 1 → ex_G mX4_findFault (d + 1) 85 [.ref a_0, .ref a_1, .int x10] [] h8 bc bs Q))) : ex_G mX4_findFault (d + 1) 85 [.ref a_0, .ref a_1, .int v_2] [] h bc bs Q := by
  refine ex_iload_n (q := 86) (x := v_2) dX4_findFault_85 rfl ?_
  refine ex_iconst (q := 87) (v := 4) dX4_findFault_86 (by decide) ?_
  refine ex_aload_n (q := 88) (x := a_0) dX4_findFault_87 rfl ?_
  have s1 := w.1
  replace w := w.2
  refine ex_getf (q := 91) dX4_findFault_88 fl_X4_42 s1 ?_
  refine ex_imul (q := 92) dX4_findFault_91 ?_
  refine ex_icmp_ge (tgt := 116) (q := 95) dX4_findFault_92 (fun c2 => ?_) (fun c2 => ?_)
  · replace w := w.1 c2
    refine ex_iconst (q := 117) (v := 0) dX4_findFault_116 (by decide) ?_
    refine ex_istore_n (q := 118) (ls' := [.ref a_0, .ref a_1, .int 0]) dX4_findFault_117 rfl ?_
    exact w
  · replace w := w.2 c2
    refine ex_aload_n (q := 96) (x := a_0) dX4_findFault_95 rfl ?_
    obtain ⟨a3, ea3, w⟩ := w
    refine ex_getr (q := 99) dX4_findFault_96 fl_X4_39 s1 ea3 ?_
    refine ex_aload_n (q := 100) (x := a_1) dX4_findFault_99 rfl ?_
    have s4 := w.1
    replace w := w.2
    obtain ⟨a5, ea5, w⟩ := w
    refine ex_getr (q := 103) dX4_findFault_100 fl_X4_94 s4 ea5 ?_
    refine ex_iload_n (q := 104) (x := v_2) dX4_findFault_103 rfl ?_
    have s6 := w.1
    replace w := w.2
    refine ex_iald (q := 105) dX4_findFault_104 s6 ?_
    refine ex_dup2 (q := 106) dX4_findFault_105 rfl rfl ?_
    have s7 := w.1
    replace w := w.2
    refine ex_iald (q := 107) dX4_findFault_106 s7 ?_
    refine ex_iconst (q := 108) (v := 1) dX4_findFault_107 (by decide) ?_
    refine ex_iadd (q := 109) dX4_findFault_108 ?_
    have s9 := w.1
    replace w := w.2
    refine ex_iast (q := 110) dX4_findFault_109 s9 ?_
    refine ex_nmh (fun h8 eh8 => ?_)
    replace w := w h8 eh8
    obtain ⟨x10, ex10⟩ : ∃ y : Int32, y = v_2 + 1 := ⟨_, rfl⟩
    replace w := w x10 ex10
    refine ex_iinc (q := 113) (x := v_2) (v := x10) (ls' := [.ref a_0, .ref a_1, .int x10]) dX4_findFault_110 rfl (by rw [ex10]; rfl) rfl ?_
    refine ex_goto (tgt := 85) dX4_findFault_113 ?_
    exact w

set_option maxRecDepth 100000 in
theorem X4_findFault_118 {d bc bs : Nat} {h : AH} {Q : Option Value → AH → Prop} {a_0 : Nat} {a_1 : Nat} {v_2 : Int32} (w : ah_o h a_0 4 ∧ (((4 * (ah_f h a_0 10)) ≤ v_2 → Q none h) ∧ (¬ (4 * (ah_f h a_0 10)) ≤ v_2 → ∃ a3, ah_r h a_0 9 = some a3 ∧ ah_o h a_1 7 ∧ ∃ a5, ah_r h a_1 1 = some a5 ∧ ld0 h a5 v_2 ∧ ld0 h a3 (ah_i h a5 (Int32.toNatClampNeg v_2)) ∧ (((ah_i h a3 (Int32.toNatClampNeg (ah_i h a5 (Int32.toNatClampNeg v_2)))) = 2 → ∀ x9, x9 = v_2 + 1 → ex_G mX4_findFault (d + 1) 118 [.ref a_0, .ref a_1, .int x9] [] h bc bs Q) ∧ (¬ (ah_i h a3 (Int32.toNatClampNeg (ah_i h a5 (Int32.toNatClampNeg v_2)))) = 2 → ex_S yX4_blame mX4_blame d [.ref a_0, .int 3, .int (v_2 >>> (2 &&& (31 : Int32)))] h 0 0 (fun r h10 => r = none ∧ ∀ x11, x11 = v_2 + 1 → ex_G mX4_findFault (d + 1) 118 [.ref a_0, .ref a_1, .int x11] [] h10 bc bs Q)))))) : ex_G mX4_findFault (d + 1) 118 [.ref a_0, .ref a_1, .int v_2] [] h bc bs Q := by
  refine ex_iload_n (q := 119) (x := v_2) dX4_findFault_118 rfl ?_
  refine ex_iconst (q := 120) (v := 4) dX4_findFault_119 (by decide) ?_
  refine ex_aload_n (q := 121) (x := a_0) dX4_findFault_120 rfl ?_
  have s1 := w.1
  replace w := w.2
  refine ex_getf (q := 124) dX4_findFault_121 fl_X4_42 s1 ?_
  refine ex_imul (q := 125) dX4_findFault_124 ?_
  refine ex_icmp_ge (tgt := 157) (q := 128) dX4_findFault_125 (fun c2 => ?_) (fun c2 => ?_)
  · replace w := w.1 c2
    exact ex_return dX4_findFault_157 w
  · replace w := w.2 c2
    refine ex_aload_n (q := 129) (x := a_0) dX4_findFault_128 rfl ?_
    obtain ⟨a3, ea3, w⟩ := w
    refine ex_getr (q := 132) dX4_findFault_129 fl_X4_39 s1 ea3 ?_
    refine ex_aload_n (q := 133) (x := a_1) dX4_findFault_132 rfl ?_
    have s4 := w.1
    replace w := w.2
    obtain ⟨a5, ea5, w⟩ := w
    refine ex_getr (q := 136) dX4_findFault_133 fl_X4_94 s4 ea5 ?_
    refine ex_iload_n (q := 137) (x := v_2) dX4_findFault_136 rfl ?_
    have s6 := w.1
    replace w := w.2
    refine ex_iald (q := 138) dX4_findFault_137 s6 ?_
    have s7 := w.1
    replace w := w.2
    refine ex_iald (q := 139) dX4_findFault_138 s7 ?_
    refine ex_iconst (q := 140) (v := 2) dX4_findFault_139 (by decide) ?_
    refine ex_icmp_eq (tgt := 151) (q := 143) dX4_findFault_140 (fun c8 => ?_) (fun c8 => ?_)
    · replace w := w.1 c8
      obtain ⟨x9, ex9⟩ : ∃ y : Int32, y = v_2 + 1 := ⟨_, rfl⟩
      replace w := w x9 ex9
      refine ex_iinc (q := 154) (x := v_2) (v := x9) (ls' := [.ref a_0, .ref a_1, .int x9]) dX4_findFault_151 rfl (by rw [ex9]; rfl) rfl ?_
      refine ex_goto (tgt := 118) dX4_findFault_154 ?_
      exact w
    · replace w := w.2 c8
      refine ex_aload_n (q := 144) (x := a_0) dX4_findFault_143 rfl ?_
      refine ex_iconst (q := 145) (v := 3) dX4_findFault_144 (by decide) ?_
      refine ex_iload_n (q := 146) (x := v_2) dX4_findFault_145 rfl ?_
      refine ex_iconst (q := 147) (v := 2) dX4_findFault_146 (by decide) ?_
      refine ex_ishr (q := 148) dX4_findFault_147 ?_
      refine ex_callV (q := 151) (M := mX4_findFault) (hdd := Nat.le_refl _) (c := 4) (st := []) (bc := bc) (bs := bs) dX4_findFault_148 rfl cl_X4_90 wd_647 wd_6 s1 w ?_
      rintro r h10 ⟨rfl, w⟩
      show ex_G mX4_findFault (d + 1) 151 [.ref a_0, .ref a_1, .int v_2] [] h10 bc bs Q
      obtain ⟨x11, ex11⟩ : ∃ y : Int32, y = v_2 + 1 := ⟨_, rfl⟩
      replace w := w x11 ex11
      refine ex_iinc (q := 154) (x := v_2) (v := x11) (ls' := [.ref a_0, .ref a_1, .int x11]) dX4_findFault_151 rfl (by rw [ex11]; rfl) rfl ?_
      refine ex_goto (tgt := 118) dX4_findFault_154 ?_
      exact w

theorem X4_findFault_e {d bc bs : Nat} {h : AH} {Q : Option Value → AH → Prop} {a_0 : Nat} {a_1 : Nat} (w : ex_G mX4_findFault (d + 1) 0 [.ref a_0, .ref a_1, .retAddr 0] [] h bc bs Q) : ex_S yX4_findFault mX4_findFault (d + 1) [.ref a_0, .ref a_1] h bc bs Q :=
  ex_enter (plainFor_of_name (by decide +kernel)) ⟨rfl, rfl⟩ rfl rfl (Nat.le_of_ble_eq_true rfl) (ex_pad 1 w)

set_option maxRecDepth 100000 in
theorem X4_pairUp_0 {d bc bs : Nat} {h : AH} {Q : Option Value → AH → Prop} {a_0 : Nat} {a_1 : Nat} (w : ah_o h a_1 7 ∧ ah_o h a_0 4 ∧ ∀ h3, h3 = ah_sf h a_0 10 (ah_f h a_1 2) → ∀ h4, h4 = ah_sf h3 a_0 11 (ah_f h3 a_1 3) → ∃ a5, ah_r h4 a_0 9 = some a5 ∧ ex_S yJ7_fill_53178 mJ7_fill_53178 d [.ref a5, .int (-1)] h4 0 0 (fun r h6 => r = none ∧ ex_G mX4_pairUp (d + 1) 26 [.ref a_0, .ref a_1, .int 0, .retAddr 0, .retAddr 0] [] h6 bc bs Q)) : ex_G mX4_pairUp (d + 1) 0 [.ref a_0, .ref a_1, .retAddr 0, .retAddr 0, .retAddr 0] [] h bc bs Q := by
  refine ex_aload_n (q := 1) (x := a_0) dX4_pairUp_0 rfl ?_
  refine ex_aload_n (q := 2) (x := a_1) dX4_pairUp_1 rfl ?_
  have s1 := w.1
  replace w := w.2
  refine ex_getf (q := 5) dX4_pairUp_2 fl_X4_52 s1 ?_
  have s2 := w.1
  replace w := w.2
  refine ex_putf (q := 8) dX4_pairUp_5 fl_X4_42 (Or.inl rfl) s2 (Or.inl rfl) ?_
  refine ex_nmh (fun h3 eh3 => ?_)
  replace w := w h3 eh3
  refine ex_aload_n (q := 9) (x := a_0) dX4_pairUp_8 rfl ?_
  refine ex_aload_n (q := 10) (x := a_1) dX4_pairUp_9 rfl ?_
  refine ex_getf (q := 13) dX4_pairUp_10 fl_X4_55 (by rw [eh3]; exact s1) ?_
  refine ex_putf (q := 16) dX4_pairUp_13 fl_X4_49 (Or.inl rfl) (by rw [eh3]; exact s2) (Or.inl rfl) ?_
  refine ex_nmh (fun h4 eh4 => ?_)
  replace w := w h4 eh4
  refine ex_aload_n (q := 17) (x := a_0) dX4_pairUp_16 rfl ?_
  obtain ⟨a5, ea5, w⟩ := w
  refine ex_getr (q := 20) dX4_pairUp_17 fl_X4_39 (by rw [eh4]; exact (by rw [eh3]; exact s2)) ea5 ?_
  refine ex_iconst (q := 21) (v := (-1)) dX4_pairUp_20 (by decide) ?_
  refine ex_callS (q := 24) (M := mX4_pairUp) (hdd := Nat.le_refl _) (st := []) (bc := bc) (bs := bs) dX4_pairUp_21 rfl cl_X4_97 wd_251 w ?_
  rintro r h6 ⟨rfl, w⟩
  show ex_G mX4_pairUp (d + 1) 24 [.ref a_0, .ref a_1, .retAddr 0, .retAddr 0, .retAddr 0] [] h6 bc bs Q
  refine ex_iconst (q := 25) (v := 0) dX4_pairUp_24 (by decide) ?_
  refine ex_istore_n (q := 26) (ls' := [.ref a_0, .ref a_1, .int 0, .retAddr 0, .retAddr 0]) dX4_pairUp_25 rfl ?_
  exact w

set_option maxRecDepth 100000 in
theorem X4_pairUp_26 {d bc bs : Nat} {h : AH} {Q : Option Value → AH → Prop} {a_0 : Nat} {a_1 : Nat} {v_2 : Int32} (w : ah_o h a_0 4 ∧ (((4 * (ah_f h a_0 10)) ≤ v_2 → Q none h) ∧ (¬ (4 * (ah_f h a_0 10)) ≤ v_2 → ah_o h a_1 7 ∧ ∃ a4, ah_r h a_1 1 = some a4 ∧ ld0 h a4 v_2 ∧ ∀ x6, x6 = ah_i h a4 (Int32.toNatClampNeg v_2) → ((x6 < 0 → ∀ x8, x8 = v_2 + 1 → ex_G mX4_pairUp (d + 1) 26 [.ref a_0, .ref a_1, .int x8, .retAddr 0, .retAddr 0] [] h bc bs Q) ∧ (¬ x6 < 0 → ((x6 < 100 → ∃ a10, ah_r h a_0 9 = some a10 ∧ ld0 h a10 x6 ∧ ∀ x12, x12 = ah_i h a10 (Int32.toNatClampNeg x6) → ((0 ≤ x12 → ∃ a14, ah_r h a_0 0 = some a14 ∧ st0 h a14 v_2 ∧ ∀ h15, h15 = ah_si h a14 (Int32.toNatClampNeg v_2) x12 → st0 h15 a14 x12 ∧ ∀ h17, h17 = ah_si h15 a14 (Int32.toNatClampNeg x12) v_2 → ∀ x19, x19 = v_2 + 1 → ex_G mX4_pairUp (d + 1) 26 [.ref a_0, .ref a_1, .int x19, .retAddr 0, .retAddr 0] [] h17 bc bs Q) ∧ (¬ 0 ≤ x12 → st0 h a10 x6 ∧ ∀ h20, h20 = ah_si h a10 (Int32.toNatClampNeg x6) v_2 → ∀ x22, x22 = v_2 + 1 → ex_G mX4_pairUp (d + 1) 26 [.ref a_0, .ref a_1, .int x22, .retAddr 0, .retAddr 0] [] h20 bc bs Q))) ∧ (¬ x6 < 100 → ∀ x23, x23 = v_2 + 1 → ex_G mX4_pairUp (d + 1) 26 [.ref a_0, .ref a_1, .int x23, .retAddr 0, .retAddr 0] [] h bc bs Q))))))) : ex_G mX4_pairUp (d + 1) 26 [.ref a_0, .ref a_1, .int v_2, .retAddr 0, .retAddr 0] [] h bc bs Q := by
  refine ex_iload_n (q := 27) (x := v_2) dX4_pairUp_26 rfl ?_
  refine ex_iconst (q := 28) (v := 4) dX4_pairUp_27 (by decide) ?_
  refine ex_aload_n (q := 29) (x := a_0) dX4_pairUp_28 rfl ?_
  have s1 := w.1
  replace w := w.2
  refine ex_getf (q := 32) dX4_pairUp_29 fl_X4_42 s1 ?_
  refine ex_imul (q := 33) dX4_pairUp_32 ?_
  refine ex_icmp_ge (tgt := 101) (q := 36) dX4_pairUp_33 (fun c2 => ?_) (fun c2 => ?_)
  · replace w := w.1 c2
    exact ex_return dX4_pairUp_101 w
  · replace w := w.2 c2
    refine ex_aload_n (q := 37) (x := a_1) dX4_pairUp_36 rfl ?_
    have s3 := w.1
    replace w := w.2
    obtain ⟨a4, ea4, w⟩ := w
    refine ex_getr (q := 40) dX4_pairUp_37 fl_X4_94 s3 ea4 ?_
    refine ex_iload_n (q := 41) (x := v_2) dX4_pairUp_40 rfl ?_
    have s5 := w.1
    replace w := w.2
    refine ex_iald (q := 42) dX4_pairUp_41 s5 ?_
    refine ex_nmi (fun x6 ex6 => ?_)
    replace w := w x6 ex6
    refine ex_istore_n (q := 43) (ls' := [.ref a_0, .ref a_1, .int v_2, .int x6, .retAddr 0]) dX4_pairUp_42 rfl ?_
    refine ex_iload_n (q := 44) (x := x6) dX4_pairUp_43 rfl ?_
    refine ex_if_lt (tgt := 95) (q := 47) dX4_pairUp_44 (fun c7 => ?_) (fun c7 => ?_)
    · replace w := w.1 c7
      obtain ⟨x8, ex8⟩ : ∃ y : Int32, y = v_2 + 1 := ⟨_, rfl⟩
      replace w := w x8 ex8
      refine ex_iinc (q := 98) (x := v_2) (v := x8) (ls' := [.ref a_0, .ref a_1, .int x8, .int x6, .retAddr 0]) dX4_pairUp_95 rfl (by rw [ex8]; rfl) rfl ?_
      refine ex_goto (tgt := 26) dX4_pairUp_98 ?_
      refine ex_kill 3 (ls' := [.ref a_0, .ref a_1, .int x8, .retAddr 0, .retAddr 0]) rfl ?_
      exact w
    · replace w := w.2 c7
      refine ex_iload_n (q := 48) (x := x6) dX4_pairUp_47 rfl ?_
      refine ex_bipush (q := 50) (v := 100) dX4_pairUp_48 (by decide) ?_
      refine ex_icmp_lt (tgt := 56) (q := 53) dX4_pairUp_50 (fun c9 => ?_) (fun c9 => ?_)
      · replace w := w.1 c9
        refine ex_aload_n (q := 57) (x := a_0) dX4_pairUp_56 rfl ?_
        obtain ⟨a10, ea10, w⟩ := w
        refine ex_getr (q := 60) dX4_pairUp_57 fl_X4_39 s1 ea10 ?_
        refine ex_iload_n (q := 61) (x := x6) dX4_pairUp_60 rfl ?_
        have s11 := w.1
        replace w := w.2
        refine ex_iald (q := 62) dX4_pairUp_61 s11 ?_
        refine ex_nmi (fun x12 ex12 => ?_)
        replace w := w x12 ex12
        refine ex_istore (q := 64) (ls' := [.ref a_0, .ref a_1, .int v_2, .int x6, .int x12]) dX4_pairUp_62 rfl ?_
        refine ex_iload (q := 66) (x := x12) dX4_pairUp_64 rfl ?_
        refine ex_if_ge (tgt := 79) (q := 69) dX4_pairUp_66 (fun c13 => ?_) (fun c13 => ?_)
        · replace w := w.1 c13
          refine ex_aload_n (q := 80) (x := a_0) dX4_pairUp_79 rfl ?_
          obtain ⟨a14, ea14, w⟩ := w
          refine ex_getr (q := 83) dX4_pairUp_80 fl_X4_9 s1 ea14 ?_
          refine ex_iload_n (q := 84) (x := v_2) dX4_pairUp_83 rfl ?_
          refine ex_iload (q := 86) (x := x12) dX4_pairUp_84 rfl ?_
          have s16 := w.1
          replace w := w.2
          refine ex_iast (q := 87) dX4_pairUp_86 s16 ?_
          refine ex_nmh (fun h15 eh15 => ?_)
          replace w := w h15 eh15
          refine ex_aload_n (q := 88) (x := a_0) dX4_pairUp_87 rfl ?_
          refine ex_getr (q := 91) dX4_pairUp_88 fl_X4_9 (by rw [eh15]; exact s1) (by rw [eh15]; exact ea14) ?_
          refine ex_iload (q := 93) (x := x12) dX4_pairUp_91 rfl ?_
          refine ex_iload_n (q := 94) (x := v_2) dX4_pairUp_93 rfl ?_
          have s18 := w.1
          replace w := w.2
          refine ex_iast (q := 95) dX4_pairUp_94 s18 ?_
          refine ex_nmh (fun h17 eh17 => ?_)
          replace w := w h17 eh17
          obtain ⟨x19, ex19⟩ : ∃ y : Int32, y = v_2 + 1 := ⟨_, rfl⟩
          replace w := w x19 ex19
          refine ex_iinc (q := 98) (x := v_2) (v := x19) (ls' := [.ref a_0, .ref a_1, .int x19, .int x6, .int x12]) dX4_pairUp_95 rfl (by rw [ex19]; rfl) rfl ?_
          refine ex_goto (tgt := 26) dX4_pairUp_98 ?_
          refine ex_kill 3 (ls' := [.ref a_0, .ref a_1, .int x19, .retAddr 0, .int x12]) rfl ?_
          refine ex_kill 4 (ls' := [.ref a_0, .ref a_1, .int x19, .retAddr 0, .retAddr 0]) rfl ?_
          exact w
        · replace w := w.2 c13
          refine ex_aload_n (q := 70) (x := a_0) dX4_pairUp_69 rfl ?_
          refine ex_getr (q := 73) dX4_pairUp_70 fl_X4_39 s1 ea10 ?_
          refine ex_iload_n (q := 74) (x := x6) dX4_pairUp_73 rfl ?_
          refine ex_iload_n (q := 75) (x := v_2) dX4_pairUp_74 rfl ?_
          have s21 := w.1
          replace w := w.2
          refine ex_iast (q := 76) dX4_pairUp_75 s21 ?_
          refine ex_nmh (fun h20 eh20 => ?_)
          replace w := w h20 eh20
          refine ex_goto (tgt := 95) dX4_pairUp_76 ?_
          obtain ⟨x22, ex22⟩ : ∃ y : Int32, y = v_2 + 1 := ⟨_, rfl⟩
          replace w := w x22 ex22
          refine ex_iinc (q := 98) (x := v_2) (v := x22) (ls' := [.ref a_0, .ref a_1, .int x22, .int x6, .int x12]) dX4_pairUp_95 rfl (by rw [ex22]; rfl) rfl ?_
          refine ex_goto (tgt := 26) dX4_pairUp_98 ?_
          refine ex_kill 3 (ls' := [.ref a_0, .ref a_1, .int x22, .retAddr 0, .int x12]) rfl ?_
          refine ex_kill 4 (ls' := [.ref a_0, .ref a_1, .int x22, .retAddr 0, .retAddr 0]) rfl ?_
          exact w
      · replace w := w.2 c9
        refine ex_goto (tgt := 95) dX4_pairUp_53 ?_
        obtain ⟨x23, ex23⟩ : ∃ y : Int32, y = v_2 + 1 := ⟨_, rfl⟩
        replace w := w x23 ex23
        refine ex_iinc (q := 98) (x := v_2) (v := x23) (ls' := [.ref a_0, .ref a_1, .int x23, .int x6, .retAddr 0]) dX4_pairUp_95 rfl (by rw [ex23]; rfl) rfl ?_
        refine ex_goto (tgt := 26) dX4_pairUp_98 ?_
        refine ex_kill 3 (ls' := [.ref a_0, .ref a_1, .int x23, .retAddr 0, .retAddr 0]) rfl ?_
        exact w

theorem X4_pairUp_e {d bc bs : Nat} {h : AH} {Q : Option Value → AH → Prop} {a_0 : Nat} {a_1 : Nat} (w : ex_G mX4_pairUp (d + 1) 0 [.ref a_0, .ref a_1, .retAddr 0, .retAddr 0, .retAddr 0] [] h bc bs Q) : ex_S yX4_pairUp mX4_pairUp (d + 1) [.ref a_0, .ref a_1] h bc bs Q :=
  ex_enter (plainFor_of_name (by decide +kernel)) ⟨rfl, rfl⟩ rfl rfl (Nat.le_of_ble_eq_true rfl) (ex_pad 3 w)

set_option maxRecDepth 100000 in
theorem X4_findRegions_0 {d bc bs : Nat} {h : AH} {Q : Option Value → AH → Prop} {a_0 : Nat} (w : ah_o h a_0 4 ∧ ∃ a2, ah_r h a_0 1 = some a2 ∧ ex_S yJ7_fill_53178 mJ7_fill_53178 (d + 1) [.ref a2, .int (-1)] h 0 0 (fun r h3 => r = none ∧ ah_o h3 a_0 4 ∧ ∀ h5, h5 = ah_sf h3 a_0 12 0 → ex_G mX4_findRegions (d + 2) 15 [.ref a_0, .int 0] [] h5 bc bs Q)) : ex_G mX4_findRegions (d + 2) 0 [.ref a_0, .retAddr 0] [] h bc bs Q := by
  refine ex_aload_n (q := 1) (x := a_0) dX4_findRegions_0 rfl ?_
  have s1 := w.1
  replace w := w.2
  obtain ⟨a2, ea2, w⟩ := w
  refine ex_getr (q := 4) dX4_findRegions_1 fl_X4_15 s1 ea2 ?_
  refine ex_iconst (q := 5) (v := (-1)) dX4_findRegions_4 (by decide) ?_
  refine ex_callS (q := 8) (M := mX4_findRegions) (hdd := Nat.le_refl _) (st := []) (bc := bc) (bs := bs) dX4_findRegions_5 rfl cl_X4_97 wd_251 w ?_
  rintro r h3 ⟨rfl, w⟩
  show ex_G mX4_findRegions (d + 2) 8 [.ref a_0, .retAddr 0] [] h3 bc bs Q
  refine ex_aload_n (q := 9) (x := a_0) dX4_findRegions_8 rfl ?_
  refine ex_iconst (q := 10) (v := 0) dX4_findRegions_9 (by decide) ?_
  have s4 := w.1
  replace w := w.2
  refine ex_putf (q := 13) dX4_findRegions_10 fl_X4_75 (Or.inl rfl) s4 (Or.inl rfl) ?_
  refine ex_nmh (fun h5 eh5 => ?_)
  replace w := w h5 eh5
  refine ex_iconst (q := 14) (v := 0) dX4_findRegions_13 (by decide) ?_
  refine ex_istore_n (q := 15) (ls' := [.ref a_0, .int 0]) dX4_findRegions_14 rfl ?_
  exact w

set_option maxRecDepth 100000 in
theorem X4_findRegions_15 {d bc bs : Nat} {h : AH} {Q : Option Value → AH → Prop} {a_0 : Nat} {v_1 : Int32} (w : ah_o h a_0 4 ∧ (((4 * (ah_f h a_0 10)) ≤ v_1 → Q none h) ∧ (¬ (4 * (ah_f h a_0 10)) ≤ v_1 → ∃ a3, ah_r h a_0 1 = some a3 ∧ ld0 h a3 v_1 ∧ ((0 ≤ (ah_i h a3 (Int32.toNatClampNeg v_1)) → ∀ x6, x6 = v_1 + 1 → ex_G mX4_findRegions (d + 2) 15 [.ref a_0, .int x6] [] h bc bs Q) ∧ (¬ 0 ≤ (ah_i h a3 (Int32.toNatClampNeg v_1)) → ex_S yX4_walkRegion mX4_walkRegion (d + 1) [.ref a_0, .int v_1] h 0 0 (fun r h7 => r = none ∧ ∀ x8, x8 = v_1 + 1 → ex_G mX4_findRegions (d + 2) 15 [.ref a_0, .int x8] [] h7 bc bs Q)))))) : ex_G mX4_findRegions (d + 2) 15 [.ref a_0, .int v_1] [] h bc bs Q := by
  refine ex_iload_n (q := 16) (x := v_1) dX4_findRegions_15 rfl ?_
  refine ex_iconst (q := 17) (v := 4) dX4_findRegions_16 (by decide) ?_
  refine ex_aload_n (q := 18) (x := a_0) dX4_findRegions_17 rfl ?_
  have s1 := w.1
  replace w := w.2
  refine ex_getf (q := 21) dX4_findRegions_18 fl_X4_42 s1 ?_
  refine ex_imul (q := 22) dX4_findRegions_21 ?_
  refine ex_icmp_ge (tgt := 45) (q := 25) dX4_findRegions_22 (fun c2 => ?_) (fun c2 => ?_)
  · replace w := w.1 c2
    exact ex_return dX4_findRegions_45 w
  · replace w := w.2 c2
    refine ex_aload_n (q := 26) (x := a_0) dX4_findRegions_25 rfl ?_
    obtain ⟨a3, ea3, w⟩ := w
    refine ex_getr (q := 29) dX4_findRegions_26 fl_X4_15 s1 ea3 ?_
    refine ex_iload_n (q := 30) (x := v_1) dX4_findRegions_29 rfl ?_
    have s4 := w.1
    replace w := w.2
    refine ex_iald (q := 31) dX4_findRegions_30 s4 ?_
    refine ex_if_ge (tgt := 39) (q := 34) dX4_findRegions_31 (fun c5 => ?_) (fun c5 => ?_)
    · replace w := w.1 c5
      obtain ⟨x6, ex6⟩ : ∃ y : Int32, y = v_1 + 1 := ⟨_, rfl⟩
      replace w := w x6 ex6
      refine ex_iinc (q := 42) (x := v_1) (v := x6) (ls' := [.ref a_0, .int x6]) dX4_findRegions_39 rfl (by rw [ex6]; rfl) rfl ?_
      refine ex_goto (tgt := 15) dX4_findRegions_42 ?_
      exact w
    · replace w := w.2 c5
      refine ex_aload_n (q := 35) (x := a_0) dX4_findRegions_34 rfl ?_
      refine ex_iload_n (q := 36) (x := v_1) dX4_findRegions_35 rfl ?_
      refine ex_callV (q := 39) (M := mX4_findRegions) (hdd := Nat.le_refl _) (c := 4) (st := []) (bc := bc) (bs := bs) dX4_findRegions_36 rfl cl_X4_107 wd_660 wd_7 s1 w ?_
      rintro r h7 ⟨rfl, w⟩
      show ex_G mX4_findRegions (d + 2) 39 [.ref a_0, .int v_1] [] h7 bc bs Q
      obtain ⟨x8, ex8⟩ : ∃ y : Int32, y = v_1 + 1 := ⟨_, rfl⟩
      replace w := w x8 ex8
      refine ex_iinc (q := 42) (x := v_1) (v := x8) (ls' := [.ref a_0, .int x8]) dX4_findRegions_39 rfl (by rw [ex8]; rfl) rfl ?_
      refine ex_goto (tgt := 15) dX4_findRegions_42 ?_
      exact w

theorem X4_findRegions_e {d bc bs : Nat} {h : AH} {Q : Option Value → AH → Prop} {a_0 : Nat} (w : ex_G mX4_findRegions (d + 2) 0 [.ref a_0, .retAddr 0] [] h bc bs Q) : ex_S yX4_findRegions mX4_findRegions (d + 2) [.ref a_0] h bc bs Q :=
  ex_enter (plainFor_of_name (by decide +kernel)) ⟨rfl, rfl⟩ rfl rfl (Nat.le_of_ble_eq_true rfl) (ex_pad 1 w)

set_option maxRecDepth 100000 in
theorem X4_walkRegion_0 {d bc bs : Nat} {h : AH} {Q : Option Value → AH → Prop} {a_0 : Nat} {v_1 : Int32} (w : ex_G mX4_walkRegion (d + 1) 7 [.ref a_0, .retAddr 0, .int 0, .int v_1, .int 0] [] h bc bs Q) : ex_G mX4_walkRegion (d + 1) 0 [.ref a_0, .int v_1, .retAddr 0, .retAddr 0, .retAddr 0] [] h bc bs Q := by
  refine ex_iconst (q := 1) (v := 0) dX4_walkRegion_0 (by decide) ?_
  refine ex_istore_n (q := 2) (ls' := [.ref a_0, .int v_1, .int 0, .retAddr 0, .retAddr 0]) dX4_walkRegion_1 rfl ?_
  refine ex_iload_n (q := 3) (x := v_1) dX4_walkRegion_2 rfl ?_
  refine ex_istore_n (q := 4) (ls' := [.ref a_0, .int v_1, .int 0, .int v_1, .retAddr 0]) dX4_walkRegion_3 rfl ?_
  refine ex_iconst (q := 5) (v := 0) dX4_walkRegion_4 (by decide) ?_
  refine ex_istore (q := 7) (ls' := [.ref a_0, .int v_1, .int 0, .int v_1, .int 0]) dX4_walkRegion_5 rfl ?_
  refine ex_kill 1 (ls' := [.ref a_0, .retAddr 0, .int 0, .int v_1, .int 0]) rfl ?_
  exact w

set_option maxRecDepth 100000 in
theorem X4_walkRegion_7 {d bc bs : Nat} {h : AH} {Q : Option Value → AH → Prop} {a_0 : Nat} {v_2 : Int32} {v_3 : Int32} {v_4 : Int32} (w : ((160 ≤ v_4 → ex_G mX4_walkRegion (d + 1) 54 [.ref a_0, .retAddr 0, .int v_2, .retAddr 0, .retAddr 0] [] h bc bs Q) ∧ (¬ 160 ≤ v_4 → ah_o h a_0 4 ∧ ∃ a3, ah_r h a_0 1 = some a3 ∧ ld0 h a3 v_3 ∧ ((0 ≤ (ah_i h a3 (Int32.toNatClampNeg v_3)) → ex_G mX4_walkRegion (d + 1) 54 [.ref a_0, .retAddr 0, .int v_2, .retAddr 0, .retAddr 0] [] h bc bs Q) ∧ (¬ 0 ≤ (ah_i h a3 (Int32.toNatClampNeg v_3)) → st0 h a3 v_3 ∧ ∀ h6, h6 = ah_si h a3 (Int32.toNatClampNeg v_3) (ah_f h a_0 12) → ∀ x8, x8 = v_2 + 1 → ∃ a9, ah_r h6 a_0 0 = some a9 ∧ ld0 h6 a9 v_3 ∧ ∀ x11, x11 = X11_corner_V (ah_i h6 a9 (Int32.toNatClampNeg v_3)) 3 h6 → ∀ x12, x12 = v_4 + 1 → ex_G mX4_walkRegion (d + 1) 7 [.ref a_0, .retAddr 0, .int x8, .int x11, .int x12] [] h6 bc bs Q))))) : ex_G mX4_walkRegion (d + 1) 7 [.ref a_0, .retAddr 0, .int v_2, .int v_3, .int v_4] [] h bc bs Q := by
  refine ex_iload (q := 9) (x := v_4) dX4_walkRegion_7 rfl ?_
  refine ex_sipush (q := 12) (v := 160) dX4_walkRegion_9 (by decide) ?_
  refine ex_icmp_ge (tgt := 54) (q := 15) dX4_walkRegion_12 (fun c1 => ?_) (fun c1 => ?_)
  · replace w := w.1 c1
    refine ex_kill 3 (ls' := [.ref a_0, .retAddr 0, .int v_2, .retAddr 0, .int v_4]) rfl ?_
    refine ex_kill 4 (ls' := [.ref a_0, .retAddr 0, .int v_2, .retAddr 0, .retAddr 0]) rfl ?_
    exact w
  · replace w := w.2 c1
    refine ex_aload_n (q := 16) (x := a_0) dX4_walkRegion_15 rfl ?_
    have s2 := w.1
    replace w := w.2
    obtain ⟨a3, ea3, w⟩ := w
    refine ex_getr (q := 19) dX4_walkRegion_16 fl_X4_15 s2 ea3 ?_
    refine ex_iload_n (q := 20) (x := v_3) dX4_walkRegion_19 rfl ?_
    have s4 := w.1
    replace w := w.2
    refine ex_iald (q := 21) dX4_walkRegion_20 s4 ?_
    refine ex_if_ge (tgt := 54) (q := 24) dX4_walkRegion_21 (fun c5 => ?_) (fun c5 => ?_)
    · replace w := w.1 c5
      refine ex_kill 3 (ls' := [.ref a_0, .retAddr 0, .int v_2, .retAddr 0, .int v_4]) rfl ?_
      refine ex_kill 4 (ls' := [.ref a_0, .retAddr 0, .int v_2, .retAddr 0, .retAddr 0]) rfl ?_
      exact w
    · replace w := w.2 c5
      refine ex_aload_n (q := 25) (x := a_0) dX4_walkRegion_24 rfl ?_
      refine ex_getr (q := 28) dX4_walkRegion_25 fl_X4_15 s2 ea3 ?_
      refine ex_iload_n (q := 29) (x := v_3) dX4_walkRegion_28 rfl ?_
      refine ex_aload_n (q := 30) (x := a_0) dX4_walkRegion_29 rfl ?_
      refine ex_getf (q := 33) dX4_walkRegion_30 fl_X4_75 s2 ?_
      have s7 := w.1
      replace w := w.2
      refine ex_iast (q := 34) dX4_walkRegion_33 s7 ?_
      refine ex_nmh (fun h6 eh6 => ?_)
      replace w := w h6 eh6
      obtain ⟨x8, ex8⟩ : ∃ y : Int32, y = v_2 + 1 := ⟨_, rfl⟩
      replace w := w x8 ex8
      refine ex_iinc (q := 37) (x := v_2) (v := x8) (ls' := [.ref a_0, .retAddr 0, .int x8, .int v_3, .int v_4]) dX4_walkRegion_34 rfl (by rw [ex8]; rfl) rfl ?_
      refine ex_aload_n (q := 38) (x := a_0) dX4_walkRegion_37 rfl ?_
      obtain ⟨a9, ea9, w⟩ := w
      refine ex_getr (q := 41) dX4_walkRegion_38 fl_X4_9 (by rw [eh6]; exact s2) ea9 ?_
      refine ex_iload_n (q := 42) (x := v_3) dX4_walkRegion_41 rfl ?_
      have s10 := w.1
      replace w := w.2
      refine ex_iald (q := 43) dX4_walkRegion_42 s10 ?_
      refine ex_iconst (q := 44) (v := 3) dX4_walkRegion_43 (by decide) ?_
      refine ex_callS (q := 47) (M := mX4_walkRegion) (hdd := Nat.le_refl _) (mc := 0) (ms := 0) (d' := d) (st := []) (bc := bc) (bs := bs) dX4_walkRegion_44 rfl cl_X4_103 wd_663 (X11_corner_s (Q := fun r z => r = some (.int (X11_corner_V (ah_i h6 a9 (Int32.toNatClampNeg v_3)) 3 h6)) ∧ z = h6) ⟨rfl, rfl⟩) ?_
      intro r z hrz
      rw [hrz.1, hrz.2]
      show ex_G mX4_walkRegion (d + 1) 47 [.ref a_0, .retAddr 0, .int x8, .int v_3, .int v_4] [.int (X11_corner_V (ah_i h6 a9 (Int32.toNatClampNeg v_3)) 3 h6)] (h6) bc bs Q
      refine ex_nmi (fun x11 ex11 => ?_)
      replace w := w x11 ex11
      refine ex_istore_n (q := 48) (ls' := [.ref a_0, .retAddr 0, .int x8, .int x11, .int v_4]) dX4_walkRegion_47 rfl ?_
      obtain ⟨x12, ex12⟩ : ∃ y : Int32, y = v_4 + 1 := ⟨_, rfl⟩
      replace w := w x12 ex12
      refine ex_iinc (q := 51) (x := v_4) (v := x12) (ls' := [.ref a_0, .retAddr 0, .int x8, .int x11, .int x12]) dX4_walkRegion_48 rfl (by rw [ex12]; rfl) rfl ?_
      refine ex_goto (tgt := 7) dX4_walkRegion_51 ?_
      exact w

set_option maxRecDepth 100000 in
theorem X4_walkRegion_54 {d bc bs : Nat} {h : AH} {Q : Option Value → AH → Prop} {a_0 : Nat} {v_2 : Int32} (w : ah_o h a_0 4 ∧ ∃ a2, ah_r h a_0 2 = some a2 ∧ st0 h a2 (ah_f h a_0 12) ∧ ∀ h3, h3 = ah_si h a2 (Int32.toNatClampNeg (ah_f h a_0 12)) v_2 → ∀ h5, h5 = ah_sf h3 a_0 12 ((ah_f h3 a_0 12) + 1) → Q none h5) : ex_G mX4_walkRegion (d + 1) 54 [.ref a_0, .retAddr 0, .int v_2, .retAddr 0, .retAddr 0] [] h bc bs Q := by
  refine ex_aload_n (q := 55) (x := a_0) dX4_walkRegion_54 rfl ?_
  have s1 := w.1
  replace w := w.2
  obtain ⟨a2, ea2, w⟩ := w
  refine ex_getr (q := 58) dX4_walkRegion_55 fl_X4_18 s1 ea2 ?_
  refine ex_aload_n (q := 59) (x := a_0) dX4_walkRegion_58 rfl ?_
  refine ex_getf (q := 62) dX4_walkRegion_59 fl_X4_75 s1 ?_
  refine ex_iload_n (q := 63) (x := v_2) dX4_walkRegion_62 rfl ?_
  have s4 := w.1
  replace w := w.2
  refine ex_iast (q := 64) dX4_walkRegion_63 s4 ?_
  refine ex_nmh (fun h3 eh3 => ?_)
  replace w := w h3 eh3
  refine ex_aload_n (q := 65) (x := a_0) dX4_walkRegion_64 rfl ?_
  refine ex_dup (q := 66) dX4_walkRegion_65 rfl ?_
  refine ex_getf (q := 69) dX4_walkRegion_66 fl_X4_75 (by rw [eh3]; exact s1) ?_
  refine ex_iconst (q := 70) (v := 1) dX4_walkRegion_69 (by decide) ?_
  refine ex_iadd (q := 71) dX4_walkRegion_70 ?_
  refine ex_putf (q := 74) dX4_walkRegion_71 fl_X4_75 (Or.inl rfl) (by rw [eh3]; exact s1) (Or.inl rfl) ?_
  refine ex_nmh (fun h5 eh5 => ?_)
  replace w := w h5 eh5
  exact ex_return dX4_walkRegion_74 w

theorem X4_walkRegion_e {d bc bs : Nat} {h : AH} {Q : Option Value → AH → Prop} {a_0 : Nat} {v_1 : Int32} (w : ex_G mX4_walkRegion (d + 1) 0 [.ref a_0, .int v_1, .retAddr 0, .retAddr 0, .retAddr 0] [] h bc bs Q) : ex_S yX4_walkRegion mX4_walkRegion (d + 1) [.ref a_0, .int v_1] h bc bs Q :=
  ex_enter (plainFor_of_name (by decide +kernel)) ⟨rfl, rfl⟩ rfl rfl (Nat.le_of_ble_eq_true rfl) (ex_pad 3 w)

set_option maxRecDepth 100000 in
theorem X4_findParts_0 {d bc bs : Nat} {h : AH} {Q : Option Value → AH → Prop} {a_0 : Nat} (w : ah_o h a_0 4 ∧ ∃ a2, ah_r h a_0 7 = some a2 ∧ ex_S yJ7_fill_53178 mJ7_fill_53178 d [.ref a2, .int (-1)] h 0 0 (fun r h3 => r = none ∧ ah_o h3 a_0 4 ∧ ∀ h5, h5 = ah_sf h3 a_0 13 0 → ex_G mX4_findParts (d + 1) 15 [.ref a_0, .int 0] [] h5 bc bs Q)) : ex_G mX4_findParts (d + 1) 0 [.ref a_0, .retAddr 0] [] h bc bs Q := by
  refine ex_aload_n (q := 1) (x := a_0) dX4_findParts_0 rfl ?_
  have s1 := w.1
  replace w := w.2
  obtain ⟨a2, ea2, w⟩ := w
  refine ex_getr (q := 4) dX4_findParts_1 fl_X4_33 s1 ea2 ?_
  refine ex_iconst (q := 5) (v := (-1)) dX4_findParts_4 (by decide) ?_
  refine ex_callS (q := 8) (M := mX4_findParts) (hdd := Nat.le_refl _) (st := []) (bc := bc) (bs := bs) dX4_findParts_5 rfl cl_X4_97 wd_251 w ?_
  rintro r h3 ⟨rfl, w⟩
  show ex_G mX4_findParts (d + 1) 8 [.ref a_0, .retAddr 0] [] h3 bc bs Q
  refine ex_aload_n (q := 9) (x := a_0) dX4_findParts_8 rfl ?_
  refine ex_iconst (q := 10) (v := 0) dX4_findParts_9 (by decide) ?_
  have s4 := w.1
  replace w := w.2
  refine ex_putf (q := 13) dX4_findParts_10 fl_X4_78 (Or.inl rfl) s4 (Or.inl rfl) ?_
  refine ex_nmh (fun h5 eh5 => ?_)
  replace w := w h5 eh5
  refine ex_iconst (q := 14) (v := 0) dX4_findParts_13 (by decide) ?_
  refine ex_istore_n (q := 15) (ls' := [.ref a_0, .int 0]) dX4_findParts_14 rfl ?_
  exact w

set_option maxRecDepth 100000 in
theorem X4_findParts_15 {d bc bs : Nat} {h : AH} {Q : Option Value → AH → Prop} {a_0 : Nat} {v_1 : Int32} (w : ah_o h a_0 4 ∧ (((ah_f h a_0 10) ≤ v_1 → Q none h) ∧ (¬ (ah_f h a_0 10) ≤ v_1 → ∃ a3, ah_r h a_0 7 = some a3 ∧ ld0 h a3 v_1 ∧ ((0 ≤ (ah_i h a3 (Int32.toNatClampNeg v_1)) → ∀ x6, x6 = v_1 + 1 → ex_G mX4_findParts (d + 1) 15 [.ref a_0, .int x6] [] h bc bs Q) ∧ (¬ 0 ≤ (ah_i h a3 (Int32.toNatClampNeg v_1)) → ex_S yX4_spreadPart mX4_spreadPart d [.ref a_0, .int v_1] h 0 0 (fun r h7 => r = none ∧ ah_o h7 a_0 4 ∧ ∀ h9, h9 = ah_sf h7 a_0 13 ((ah_f h7 a_0 13) + 1) → ∀ x10, x10 = v_1 + 1 → ex_G mX4_findParts (d + 1) 15 [.ref a_0, .int x10] [] h9 bc bs Q)))))) : ex_G mX4_findParts (d + 1) 15 [.ref a_0, .int v_1] [] h bc bs Q := by
  refine ex_iload_n (q := 16) (x := v_1) dX4_findParts_15 rfl ?_
  refine ex_aload_n (q := 17) (x := a_0) dX4_findParts_16 rfl ?_
  have s1 := w.1
  replace w := w.2
  refine ex_getf (q := 20) dX4_findParts_17 fl_X4_42 s1 ?_
  refine ex_icmp_ge (tgt := 53) (q := 23) dX4_findParts_20 (fun c2 => ?_) (fun c2 => ?_)
  · replace w := w.1 c2
    exact ex_return dX4_findParts_53 w
  · replace w := w.2 c2
    refine ex_aload_n (q := 24) (x := a_0) dX4_findParts_23 rfl ?_
    obtain ⟨a3, ea3, w⟩ := w
    refine ex_getr (q := 27) dX4_findParts_24 fl_X4_33 s1 ea3 ?_
    refine ex_iload_n (q := 28) (x := v_1) dX4_findParts_27 rfl ?_
    have s4 := w.1
    replace w := w.2
    refine ex_iald (q := 29) dX4_findParts_28 s4 ?_
    refine ex_if_ge (tgt := 47) (q := 32) dX4_findParts_29 (fun c5 => ?_) (fun c5 => ?_)
    · replace w := w.1 c5
      obtain ⟨x6, ex6⟩ : ∃ y : Int32, y = v_1 + 1 := ⟨_, rfl⟩
      replace w := w x6 ex6
      refine ex_iinc (q := 50) (x := v_1) (v := x6) (ls' := [.ref a_0, .int x6]) dX4_findParts_47 rfl (by rw [ex6]; rfl) rfl ?_
      refine ex_goto (tgt := 15) dX4_findParts_50 ?_
      exact w
    · replace w := w.2 c5
      refine ex_aload_n (q := 33) (x := a_0) dX4_findParts_32 rfl ?_
      refine ex_iload_n (q := 34) (x := v_1) dX4_findParts_33 rfl ?_
      refine ex_callV (q := 37) (M := mX4_findParts) (hdd := Nat.le_refl _) (c := 4) (st := []) (bc := bc) (bs := bs) dX4_findParts_34 rfl cl_X4_111 wd_671 wd_9 s1 w ?_
      rintro r h7 ⟨rfl, w⟩
      show ex_G mX4_findParts (d + 1) 37 [.ref a_0, .int v_1] [] h7 bc bs Q
      refine ex_aload_n (q := 38) (x := a_0) dX4_findParts_37 rfl ?_
      refine ex_dup (q := 39) dX4_findParts_38 rfl ?_
      have s8 := w.1
      replace w := w.2
      refine ex_getf (q := 42) dX4_findParts_39 fl_X4_78 s8 ?_
      refine ex_iconst (q := 43) (v := 1) dX4_findParts_42 (by decide) ?_
      refine ex_iadd (q := 44) dX4_findParts_43 ?_
      refine ex_putf (q := 47) dX4_findParts_44 fl_X4_78 (Or.inl rfl) s8 (Or.inl rfl) ?_
      refine ex_nmh (fun h9 eh9 => ?_)
      replace w := w h9 eh9
      obtain ⟨x10, ex10⟩ : ∃ y : Int32, y = v_1 + 1 := ⟨_, rfl⟩
      replace w := w x10 ex10
      refine ex_iinc (q := 50) (x := v_1) (v := x10) (ls' := [.ref a_0, .int x10]) dX4_findParts_47 rfl (by rw [ex10]; rfl) rfl ?_
      refine ex_goto (tgt := 15) dX4_findParts_50 ?_
      exact w

theorem X4_findParts_e {d bc bs : Nat} {h : AH} {Q : Option Value → AH → Prop} {a_0 : Nat} (w : ex_G mX4_findParts (d + 1) 0 [.ref a_0, .retAddr 0] [] h bc bs Q) : ex_S yX4_findParts mX4_findParts (d + 1) [.ref a_0] h bc bs Q :=
  ex_enter (plainFor_of_name (by decide +kernel)) ⟨rfl, rfl⟩ rfl rfl (Nat.le_of_ble_eq_true rfl) (ex_pad 1 w)

set_option maxRecDepth 100000 in
theorem X4_spreadPart_0 {d bc bs : Nat} {h : AH} {Q : Option Value → AH → Prop} {a_0 : Nat} {v_1 : Int32} (w : ah_o h a_0 4 ∧ ∃ a2, ah_r h a_0 8 = some a2 ∧ st0 h a2 0 ∧ ∀ h3, h3 = ah_si h a2 (Int32.toNatClampNeg 0) v_1 → ∃ a5, ah_r h3 a_0 7 = some a5 ∧ st0 h3 a5 v_1 ∧ ∀ h6, h6 = ah_si h3 a5 (Int32.toNatClampNeg v_1) (ah_f h3 a_0 13) → ex_G mX4_spreadPart d 21 [.ref a_0, .retAddr 0, .int 1, .int 0, .retAddr 0, .retAddr 0] [] h6 bc bs Q) : ex_G mX4_spreadPart d 0 [.ref a_0, .int v_1, .retAddr 0, .retAddr 0, .retAddr 0, .retAddr 0] [] h bc bs Q := by
  refine ex_iconst (q := 1) (v := 1) dX4_spreadPart_0 (by decide) ?_
  refine ex_istore_n (q := 2) (ls' := [.ref a_0, .int v_1, .int 1, .retAddr 0, .retAddr 0, .retAddr 0]) dX4_spreadPart_1 rfl ?_
  refine ex_aload_n (q := 3) (x := a_0) dX4_spreadPart_2 rfl ?_
  have s1 := w.1
  replace w := w.2
  obtain ⟨a2, ea2, w⟩ := w
  refine ex_getr (q := 6) dX4_spreadPart_3 fl_X4_36 s1 ea2 ?_
  refine ex_iconst (q := 7) (v := 0) dX4_spreadPart_6 (by decide) ?_
  refine ex_iload_n (q := 8) (x := v_1) dX4_spreadPart_7 rfl ?_
  have s4 := w.1
  replace w := w.2
  refine ex_iast (q := 9) dX4_spreadPart_8 s4 ?_
  refine ex_nmh (fun h3 eh3 => ?_)
  replace w := w h3 eh3
  refine ex_aload_n (q := 10) (x := a_0) dX4_spreadPart_9 rfl ?_
  obtain ⟨a5, ea5, w⟩ := w
  refine ex_getr (q := 13) dX4_spreadPart_10 fl_X4_33 (by rw [eh3]; exact s1) ea5 ?_
  refine ex_iload_n (q := 14) (x := v_1) dX4_spreadPart_13 rfl ?_
  refine ex_aload_n (q := 15) (x := a_0) dX4_spreadPart_14 rfl ?_
  refine ex_getf (q := 18) dX4_spreadPart_15 fl_X4_78 (by rw [eh3]; exact s1) ?_
  have s7 := w.1
  replace w := w.2
  refine ex_iast (q := 19) dX4_spreadPart_18 s7 ?_
  refine ex_nmh (fun h6 eh6 => ?_)
  replace w := w h6 eh6
  refine ex_iconst (q := 20) (v := 0) dX4_spreadPart_19 (by decide) ?_
  refine ex_istore_n (q := 21) (ls' := [.ref a_0, .int v_1, .int 1, .int 0, .retAddr 0, .retAddr 0]) dX4_spreadPart_20 rfl ?_
  refine ex_kill 1 (ls' := [.ref a_0, .retAddr 0, .int 1, .int 0, .retAddr 0, .retAddr 0]) rfl ?_
  exact w

set_option maxRecDepth 100000 in
theorem X4_spreadPart_21 {d bc bs : Nat} {h : AH} {Q : Option Value → AH → Prop} {a_0 : Nat} {v_2 : Int32} {v_3 : Int32} (w : ((v_2 ≤ v_3 → Q none h) ∧ (¬ v_2 ≤ v_3 → ((40 ≤ v_3 → Q none h) ∧ (¬ 40 ≤ v_3 → ex_G mX4_spreadPart d 35 [.ref a_0, .retAddr 0, .int v_2, .int v_3, .int 0, .retAddr 0] [] h bc bs Q))))) : ex_G mX4_spreadPart d 21 [.ref a_0, .retAddr 0, .int v_2, .int v_3, .retAddr 0, .retAddr 0] [] h bc bs Q := by
  refine ex_iload_n (q := 22) (x := v_3) dX4_spreadPart_21 rfl ?_
  refine ex_iload_n (q := 23) (x := v_2) dX4_spreadPart_22 rfl ?_
  refine ex_icmp_ge (tgt := 105) (q := 26) dX4_spreadPart_23 (fun c1 => ?_) (fun c1 => ?_)
  · replace w := w.1 c1
    exact ex_return dX4_spreadPart_105 w
  · replace w := w.2 c1
    refine ex_iload_n (q := 27) (x := v_3) dX4_spreadPart_26 rfl ?_
    refine ex_bipush (q := 29) (v := 40) dX4_spreadPart_27 (by decide) ?_
    refine ex_icmp_ge (tgt := 105) (q := 32) dX4_spreadPart_29 (fun c2 => ?_) (fun c2 => ?_)
    · replace w := w.1 c2
      exact ex_return dX4_spreadPart_105 w
    · replace w := w.2 c2
      refine ex_iconst (q := 33) (v := 0) dX4_spreadPart_32 (by decide) ?_
      refine ex_istore (q := 35) (ls' := [.ref a_0, .retAddr 0, .int v_2, .int v_3, .int 0, .retAddr 0]) dX4_spreadPart_33 rfl ?_
      exact w

set_option maxRecDepth 100000 in
theorem X4_spreadPart_35 {d bc bs : Nat} {h : AH} {Q : Option Value → AH → Prop} {a_0 : Nat} {v_2 : Int32} {v_3 : Int32} {v_4 : Int32} (w : ((4 ≤ v_4 → ∀ x2, x2 = v_3 + 1 → ex_G mX4_spreadPart d 21 [.ref a_0, .retAddr 0, .int v_2, .int x2, .retAddr 0, .retAddr 0] [] h bc bs Q) ∧ (¬ 4 ≤ v_4 → ah_o h a_0 4 ∧ ∃ a4, ah_r h a_0 0 = some a4 ∧ ∃ a5, ah_r h a_0 8 = some a5 ∧ ld0 h a5 v_3 ∧ ld0 h a4 ((4 * (ah_i h a5 (Int32.toNatClampNeg v_3))) + v_4) ∧ ∀ x8, x8 = (ah_i h a4 (Int32.toNatClampNeg ((4 * (ah_i h a5 (Int32.toNatClampNeg v_3))) + v_4))) >>> (2 &&& (31 : Int32)) → ∃ a9, ah_r h a_0 7 = some a9 ∧ ld0 h a9 x8 ∧ ((0 ≤ (ah_i h a9 (Int32.toNatClampNeg x8)) → ∀ x12, x12 = v_4 + 1 → ex_G mX4_spreadPart d 35 [.ref a_0, .retAddr 0, .int v_2, .int v_3, .int x12, .retAddr 0] [] h bc bs Q) ∧ (¬ 0 ≤ (ah_i h a9 (Int32.toNatClampNeg x8)) → st0 h a9 x8 ∧ ∀ h13, h13 = ah_si h a9 (Int32.toNatClampNeg x8) (ah_f h a_0 13) → st0 h13 a5 v_2 ∧ ∀ h15, h15 = ah_si h13 a5 (Int32.toNatClampNeg v_2) x8 → ∀ x17, x17 = v_2 + 1 → ∀ x18, x18 = v_4 + 1 → ex_G mX4_spreadPart d 35 [.ref a_0, .retAddr 0, .int x17, .int v_3, .int x18, .retAddr 0] [] h15 bc bs Q))))) : ex_G mX4_spreadPart d 35 [.ref a_0, .retAddr 0, .int v_2, .int v_3, .int v_4, .retAddr 0] [] h bc bs Q := by
  refine ex_iload (q := 37) (x := v_4) dX4_spreadPart_35 rfl ?_
  refine ex_iconst (q := 38) (v := 4) dX4_spreadPart_37 (by decide) ?_
  refine ex_icmp_ge (tgt := 99) (q := 41) dX4_spreadPart_38 (fun c1 => ?_) (fun c1 => ?_)
  · replace w := w.1 c1
    obtain ⟨x2, ex2⟩ : ∃ y : Int32, y = v_3 + 1 := ⟨_, rfl⟩
    replace w := w x2 ex2
    refine ex_iinc (q := 102) (x := v_3) (v := x2) (ls' := [.ref a_0, .retAddr 0, .int v_2, .int x2, .int v_4, .retAddr 0]) dX4_spreadPart_99 rfl (by rw [ex2]; rfl) rfl ?_
    refine ex_goto (tgt := 21) dX4_spreadPart_102 ?_
    refine ex_kill 4 (ls' := [.ref a_0, .retAddr 0, .int v_2, .int x2, .retAddr 0, .retAddr 0]) rfl ?_
    exact w
  · replace w := w.2 c1
    refine ex_aload_n (q := 42) (x := a_0) dX4_spreadPart_41 rfl ?_
    have s3 := w.1
    replace w := w.2
    obtain ⟨a4, ea4, w⟩ := w
    refine ex_getr (q := 45) dX4_spreadPart_42 fl_X4_9 s3 ea4 ?_
    refine ex_iconst (q := 46) (v := 4) dX4_spreadPart_45 (by decide) ?_
    refine ex_aload_n (q := 47) (x := a_0) dX4_spreadPart_46 rfl ?_
    obtain ⟨a5, ea5, w⟩ := w
    refine ex_getr (q := 50) dX4_spreadPart_47 fl_X4_36 s3 ea5 ?_
    refine ex_iload_n (q := 51) (x := v_3) dX4_spreadPart_50 rfl ?_
    have s6 := w.1
    replace w := w.2
    refine ex_iald (q := 52) dX4_spreadPart_51 s6 ?_
    refine ex_imul (q := 53) dX4_spreadPart_52 ?_
    refine ex_iload (q := 55) (x := v_4) dX4_spreadPart_53 rfl ?_
    refine ex_iadd (q := 56) dX4_spreadPart_55 ?_
    have s7 := w.1
    replace w := w.2
    refine ex_iald (q := 57) dX4_spreadPart_56 s7 ?_
    refine ex_iconst (q := 58) (v := 2) dX4_spreadPart_57 (by decide) ?_
    refine ex_ishr (q := 59) dX4_spreadPart_58 ?_
    refine ex_nmi (fun x8 ex8 => ?_)
    replace w := w x8 ex8
    refine ex_istore (q := 61) (ls' := [.ref a_0, .retAddr 0, .int v_2, .int v_3, .int v_4, .int x8]) dX4_spreadPart_59 rfl ?_
    refine ex_aload_n (q := 62) (x := a_0) dX4_spreadPart_61 rfl ?_
    obtain ⟨a9, ea9, w⟩ := w
    refine ex_getr (q := 65) dX4_spreadPart_62 fl_X4_33 s3 ea9 ?_
    refine ex_iload (q := 67) (x := x8) dX4_spreadPart_65 rfl ?_
    have s10 := w.1
    replace w := w.2
    refine ex_iald (q := 68) dX4_spreadPart_67 s10 ?_
    refine ex_if_ge (tgt := 93) (q := 71) dX4_spreadPart_68 (fun c11 => ?_) (fun c11 => ?_)
    · replace w := w.1 c11
      obtain ⟨x12, ex12⟩ : ∃ y : Int32, y = v_4 + 1 := ⟨_, rfl⟩
      replace w := w x12 ex12
      refine ex_iinc (q := 96) (x := v_4) (v := x12) (ls' := [.ref a_0, .retAddr 0, .int v_2, .int v_3, .int x12, .int x8]) dX4_spreadPart_93 rfl (by rw [ex12]; rfl) rfl ?_
      refine ex_goto (tgt := 35) dX4_spreadPart_96 ?_
      refine ex_kill 5 (ls' := [.ref a_0, .retAddr 0, .int v_2, .int v_3, .int x12, .retAddr 0]) rfl ?_
      exact w
    · replace w := w.2 c11
      refine ex_aload_n (q := 72) (x := a_0) dX4_spreadPart_71 rfl ?_
      refine ex_getr (q := 75) dX4_spreadPart_72 fl_X4_33 s3 ea9 ?_
      refine ex_iload (q := 77) (x := x8) dX4_spreadPart_75 rfl ?_
      refine ex_aload_n (q := 78) (x := a_0) dX4_spreadPart_77 rfl ?_
      refine ex_getf (q := 81) dX4_spreadPart_78 fl_X4_78 s3 ?_
      have s14 := w.1
      replace w := w.2
      refine ex_iast (q := 82) dX4_spreadPart_81 s14 ?_
      refine ex_nmh (fun h13 eh13 => ?_)
      replace w := w h13 eh13
      refine ex_aload_n (q := 83) (x := a_0) dX4_spreadPart_82 rfl ?_
      refine ex_getr (q := 86) dX4_spreadPart_83 fl_X4_36 (by rw [eh13]; exact s3) (by rw [eh13]; exact ea5) ?_
      refine ex_iload_n (q := 87) (x := v_2) dX4_spreadPart_86 rfl ?_
      refine ex_iload (q := 89) (x := x8) dX4_spreadPart_87 rfl ?_
      have s16 := w.1
      replace w := w.2
      refine ex_iast (q := 90) dX4_spreadPart_89 s16 ?_
      refine ex_nmh (fun h15 eh15 => ?_)
      replace w := w h15 eh15
      obtain ⟨x17, ex17⟩ : ∃ y : Int32, y = v_2 + 1 := ⟨_, rfl⟩
      replace w := w x17 ex17
      refine ex_iinc (q := 93) (x := v_2) (v := x17) (ls' := [.ref a_0, .retAddr 0, .int x17, .int v_3, .int v_4, .int x8]) dX4_spreadPart_90 rfl (by rw [ex17]; rfl) rfl ?_
      obtain ⟨x18, ex18⟩ : ∃ y : Int32, y = v_4 + 1 := ⟨_, rfl⟩
      replace w := w x18 ex18
      refine ex_iinc (q := 96) (x := v_4) (v := x18) (ls' := [.ref a_0, .retAddr 0, .int x17, .int v_3, .int x18, .int x8]) dX4_spreadPart_93 rfl (by rw [ex18]; rfl) rfl ?_
      refine ex_goto (tgt := 35) dX4_spreadPart_96 ?_
      refine ex_kill 5 (ls' := [.ref a_0, .retAddr 0, .int x17, .int v_3, .int x18, .retAddr 0]) rfl ?_
      exact w

theorem X4_spreadPart_e {d bc bs : Nat} {h : AH} {Q : Option Value → AH → Prop} {a_0 : Nat} {v_1 : Int32} (w : ex_G mX4_spreadPart d 0 [.ref a_0, .int v_1, .retAddr 0, .retAddr 0, .retAddr 0, .retAddr 0] [] h bc bs Q) : ex_S yX4_spreadPart mX4_spreadPart d [.ref a_0, .int v_1] h bc bs Q :=
  ex_enter (plainFor_of_name (by decide +kernel)) ⟨rfl, rfl⟩ rfl rfl (Nat.le_of_ble_eq_true rfl) (ex_pad 4 w)

set_option maxRecDepth 100000 in
theorem X4_findPieces_0 {d bc bs : Nat} {h : AH} {Q : Option Value → AH → Prop} {a_0 : Nat} (w : ah_o h a_0 4 ∧ ∃ a2, ah_r h a_0 3 = some a2 ∧ ex_S yJ7_fill_53178 mJ7_fill_53178 (d + 1) [.ref a2, .int (-1)] h 0 0 (fun r h3 => r = none ∧ ah_o h3 a_0 4 ∧ ∀ h5, h5 = ah_sf h3 a_0 14 0 → ex_G mX4_findPieces (d + 2) 15 [.ref a_0, .int 0] [] h5 bc bs Q)) : ex_G mX4_findPieces (d + 2) 0 [.ref a_0, .retAddr 0] [] h bc bs Q := by
  refine ex_aload_n (q := 1) (x := a_0) dX4_findPieces_0 rfl ?_
  have s1 := w.1
  replace w := w.2
  obtain ⟨a2, ea2, w⟩ := w
  refine ex_getr (q := 4) dX4_findPieces_1 fl_X4_21 s1 ea2 ?_
  refine ex_iconst (q := 5) (v := (-1)) dX4_findPieces_4 (by decide) ?_
  refine ex_callS (q := 8) (M := mX4_findPieces) (hdd := Nat.le_refl _) (st := []) (bc := bc) (bs := bs) dX4_findPieces_5 rfl cl_X4_97 wd_251 w ?_
  rintro r h3 ⟨rfl, w⟩
  show ex_G mX4_findPieces (d + 2) 8 [.ref a_0, .retAddr 0] [] h3 bc bs Q
  refine ex_aload_n (q := 9) (x := a_0) dX4_findPieces_8 rfl ?_
  refine ex_iconst (q := 10) (v := 0) dX4_findPieces_9 (by decide) ?_
  have s4 := w.1
  replace w := w.2
  refine ex_putf (q := 13) dX4_findPieces_10 fl_X4_46 (Or.inl rfl) s4 (Or.inl rfl) ?_
  refine ex_nmh (fun h5 eh5 => ?_)
  replace w := w h5 eh5
  refine ex_iconst (q := 14) (v := 0) dX4_findPieces_13 (by decide) ?_
  refine ex_istore_n (q := 15) (ls' := [.ref a_0, .int 0]) dX4_findPieces_14 rfl ?_
  exact w

set_option maxRecDepth 100000 in
theorem X4_findPieces_15 {d bc bs : Nat} {h : AH} {Q : Option Value → AH → Prop} {a_0 : Nat} {v_1 : Int32} (w : ah_o h a_0 4 ∧ (((4 * (ah_f h a_0 10)) ≤ v_1 → Q none h) ∧ (¬ (4 * (ah_f h a_0 10)) ≤ v_1 → ∃ a3, ah_r h a_0 3 = some a3 ∧ ld0 h a3 v_1 ∧ ((0 ≤ (ah_i h a3 (Int32.toNatClampNeg v_1)) → ∀ x6, x6 = v_1 + 1 → ex_G mX4_findPieces (d + 2) 15 [.ref a_0, .int x6] [] h bc bs Q) ∧ (¬ 0 ≤ (ah_i h a3 (Int32.toNatClampNeg v_1)) → ex_S yX4_walkPiece mX4_walkPiece (d + 1) [.ref a_0, .int v_1] h 0 0 (fun r h7 => r = none ∧ ∀ x8, x8 = v_1 + 1 → ex_G mX4_findPieces (d + 2) 15 [.ref a_0, .int x8] [] h7 bc bs Q)))))) : ex_G mX4_findPieces (d + 2) 15 [.ref a_0, .int v_1] [] h bc bs Q := by
  refine ex_iload_n (q := 16) (x := v_1) dX4_findPieces_15 rfl ?_
  refine ex_iconst (q := 17) (v := 4) dX4_findPieces_16 (by decide) ?_
  refine ex_aload_n (q := 18) (x := a_0) dX4_findPieces_17 rfl ?_
  have s1 := w.1
  replace w := w.2
  refine ex_getf (q := 21) dX4_findPieces_18 fl_X4_42 s1 ?_
  refine ex_imul (q := 22) dX4_findPieces_21 ?_
  refine ex_icmp_ge (tgt := 45) (q := 25) dX4_findPieces_22 (fun c2 => ?_) (fun c2 => ?_)
  · replace w := w.1 c2
    exact ex_return dX4_findPieces_45 w
  · replace w := w.2 c2
    refine ex_aload_n (q := 26) (x := a_0) dX4_findPieces_25 rfl ?_
    obtain ⟨a3, ea3, w⟩ := w
    refine ex_getr (q := 29) dX4_findPieces_26 fl_X4_21 s1 ea3 ?_
    refine ex_iload_n (q := 30) (x := v_1) dX4_findPieces_29 rfl ?_
    have s4 := w.1
    replace w := w.2
    refine ex_iald (q := 31) dX4_findPieces_30 s4 ?_
    refine ex_if_ge (tgt := 39) (q := 34) dX4_findPieces_31 (fun c5 => ?_) (fun c5 => ?_)
    · replace w := w.1 c5
      obtain ⟨x6, ex6⟩ : ∃ y : Int32, y = v_1 + 1 := ⟨_, rfl⟩
      replace w := w x6 ex6
      refine ex_iinc (q := 42) (x := v_1) (v := x6) (ls' := [.ref a_0, .int x6]) dX4_findPieces_39 rfl (by rw [ex6]; rfl) rfl ?_
      refine ex_goto (tgt := 15) dX4_findPieces_42 ?_
      exact w
    · replace w := w.2 c5
      refine ex_aload_n (q := 35) (x := a_0) dX4_findPieces_34 rfl ?_
      refine ex_iload_n (q := 36) (x := v_1) dX4_findPieces_35 rfl ?_
      refine ex_callV (q := 39) (M := mX4_findPieces) (hdd := Nat.le_refl _) (c := 4) (st := []) (bc := bc) (bs := bs) dX4_findPieces_36 rfl cl_X4_114 wd_679 wd_11 s1 w ?_
      rintro r h7 ⟨rfl, w⟩
      show ex_G mX4_findPieces (d + 2) 39 [.ref a_0, .int v_1] [] h7 bc bs Q
      obtain ⟨x8, ex8⟩ : ∃ y : Int32, y = v_1 + 1 := ⟨_, rfl⟩
      replace w := w x8 ex8
      refine ex_iinc (q := 42) (x := v_1) (v := x8) (ls' := [.ref a_0, .int x8]) dX4_findPieces_39 rfl (by rw [ex8]; rfl) rfl ?_
      refine ex_goto (tgt := 15) dX4_findPieces_42 ?_
      exact w

theorem X4_findPieces_e {d bc bs : Nat} {h : AH} {Q : Option Value → AH → Prop} {a_0 : Nat} (w : ex_G mX4_findPieces (d + 2) 0 [.ref a_0, .retAddr 0] [] h bc bs Q) : ex_S yX4_findPieces mX4_findPieces (d + 2) [.ref a_0] h bc bs Q :=
  ex_enter (plainFor_of_name (by decide +kernel)) ⟨rfl, rfl⟩ rfl rfl (Nat.le_of_ble_eq_true rfl) (ex_pad 1 w)

set_option maxRecDepth 100000 in
theorem X4_walkPiece_0 {d bc bs : Nat} {h : AH} {Q : Option Value → AH → Prop} {a_0 : Nat} {v_1 : Int32} (w : ex_G mX4_walkPiece (d + 1) 4 [.ref a_0, .int v_1, .int v_1, .int 0, .retAddr 0] [] h bc bs Q) : ex_G mX4_walkPiece (d + 1) 0 [.ref a_0, .int v_1, .retAddr 0, .retAddr 0, .retAddr 0] [] h bc bs Q := by
  refine ex_iload_n (q := 1) (x := v_1) dX4_walkPiece_0 rfl ?_
  refine ex_istore_n (q := 2) (ls' := [.ref a_0, .int v_1, .int v_1, .retAddr 0, .retAddr 0]) dX4_walkPiece_1 rfl ?_
  refine ex_iconst (q := 3) (v := 0) dX4_walkPiece_2 (by decide) ?_
  refine ex_istore_n (q := 4) (ls' := [.ref a_0, .int v_1, .int v_1, .int 0, .retAddr 0]) dX4_walkPiece_3 rfl ?_
  exact w

set_option maxRecDepth 100000 in
theorem X4_walkPiece_4 {d bc bs : Nat} {h : AH} {Q : Option Value → AH → Prop} {a_0 : Nat} {v_1 : Int32} {v_2 : Int32} {v_3 : Int32} (w : ((160 ≤ v_3 → ex_G mX4_walkPiece (d + 1) 77 [.ref a_0, .int v_1, .retAddr 0, .retAddr 0, .retAddr 0] [] h bc bs Q) ∧ (¬ 160 ≤ v_3 → ah_o h a_0 4 ∧ ∃ a3, ah_r h a_0 3 = some a3 ∧ ld0 h a3 v_2 ∧ ((0 ≤ (ah_i h a3 (Int32.toNatClampNeg v_2)) → ex_G mX4_walkPiece (d + 1) 77 [.ref a_0, .int v_1, .retAddr 0, .retAddr 0, .retAddr 0] [] h bc bs Q) ∧ (¬ 0 ≤ (ah_i h a3 (Int32.toNatClampNeg v_2)) → ∃ a6, ah_r h a_0 0 = some a6 ∧ ld0 h a6 v_2 ∧ ∀ x8, x8 = ah_i h a6 (Int32.toNatClampNeg v_2) → st0 h a3 v_2 ∧ ∀ h9, h9 = ah_si h a3 (Int32.toNatClampNeg v_2) (ah_f h a_0 14) → ∃ a11, ah_r h9 a_0 4 = some a11 ∧ st0 h9 a11 v_2 ∧ ∀ h12, h12 = ah_si h9 a11 (Int32.toNatClampNeg v_2) 1 → st0 h12 a3 x8 ∧ ∀ h14, h14 = ah_si h12 a3 (Int32.toNatClampNeg x8) (ah_f h12 a_0 14) → st0 h14 a11 x8 ∧ ∀ h16, h16 = ah_si h14 a11 (Int32.toNatClampNeg x8) 0 → ∀ x18, x18 = X11_corner_V x8 2 h16 → ∀ x19, x19 = v_3 + 1 → ex_G mX4_walkPiece (d + 1) 4 [.ref a_0, .int v_1, .int x18, .int x19, .retAddr 0] [] h16 bc bs Q))))) : ex_G mX4_walkPiece (d + 1) 4 [.ref a_0, .int v_1, .int v_2, .int v_3, .retAddr 0] [] h bc bs Q := by
  refine ex_iload_n (q := 5) (x := v_3) dX4_walkPiece_4 rfl ?_
  refine ex_sipush (q := 8) (v := 160) dX4_walkPiece_5 (by decide) ?_
  refine ex_icmp_ge (tgt := 77) (q := 11) dX4_walkPiece_8 (fun c1 => ?_) (fun c1 => ?_)
  · replace w := w.1 c1
    refine ex_kill 2 (ls' := [.ref a_0, .int v_1, .retAddr 0, .int v_3, .retAddr 0]) rfl ?_
    refine ex_kill 3 (ls' := [.ref a_0, .int v_1, .retAddr 0, .retAddr 0, .retAddr 0]) rfl ?_
    exact w
  · replace w := w.2 c1
    refine ex_aload_n (q := 12) (x := a_0) dX4_walkPiece_11 rfl ?_
    have s2 := w.1
    replace w := w.2
    obtain ⟨a3, ea3, w⟩ := w
    refine ex_getr (q := 15) dX4_walkPiece_12 fl_X4_21 s2 ea3 ?_
    refine ex_iload_n (q := 16) (x := v_2) dX4_walkPiece_15 rfl ?_
    have s4 := w.1
    replace w := w.2
    refine ex_iald (q := 17) dX4_walkPiece_16 s4 ?_
    refine ex_if_ge (tgt := 77) (q := 20) dX4_walkPiece_17 (fun c5 => ?_) (fun c5 => ?_)
    · replace w := w.1 c5
      refine ex_kill 2 (ls' := [.ref a_0, .int v_1, .retAddr 0, .int v_3, .retAddr 0]) rfl ?_
      refine ex_kill 3 (ls' := [.ref a_0, .int v_1, .retAddr 0, .retAddr 0, .retAddr 0]) rfl ?_
      exact w
    · replace w := w.2 c5
      refine ex_aload_n (q := 21) (x := a_0) dX4_walkPiece_20 rfl ?_
      obtain ⟨a6, ea6, w⟩ := w
      refine ex_getr (q := 24) dX4_walkPiece_21 fl_X4_9 s2 ea6 ?_
      refine ex_iload_n (q := 25) (x := v_2) dX4_walkPiece_24 rfl ?_
      have s7 := w.1
      replace w := w.2
      refine ex_iald (q := 26) dX4_walkPiece_25 s7 ?_
      refine ex_nmi (fun x8 ex8 => ?_)
      replace w := w x8 ex8
      refine ex_istore (q := 28) (ls' := [.ref a_0, .int v_1, .int v_2, .int v_3, .int x8]) dX4_walkPiece_26 rfl ?_
      refine ex_aload_n (q := 29) (x := a_0) dX4_walkPiece_28 rfl ?_
      refine ex_getr (q := 32) dX4_walkPiece_29 fl_X4_21 s2 ea3 ?_
      refine ex_iload_n (q := 33) (x := v_2) dX4_walkPiece_32 rfl ?_
      refine ex_aload_n (q := 34) (x := a_0) dX4_walkPiece_33 rfl ?_
      refine ex_getf (q := 37) dX4_walkPiece_34 fl_X4_46 s2 ?_
      have s10 := w.1
      replace w := w.2
      refine ex_iast (q := 38) dX4_walkPiece_37 s10 ?_
      refine ex_nmh (fun h9 eh9 => ?_)
      replace w := w h9 eh9
      refine ex_aload_n (q := 39) (x := a_0) dX4_walkPiece_38 rfl ?_
      obtain ⟨a11, ea11, w⟩ := w
      refine ex_getr (q := 42) dX4_walkPiece_39 fl_X4_24 (by rw [eh9]; exact s2) ea11 ?_
      refine ex_iload_n (q := 43) (x := v_2) dX4_walkPiece_42 rfl ?_
      refine ex_iconst (q := 44) (v := 1) dX4_walkPiece_43 (by decide) ?_
      have s13 := w.1
      replace w := w.2
      refine ex_iast (q := 45) dX4_walkPiece_44 s13 ?_
      refine ex_nmh (fun h12 eh12 => ?_)
      replace w := w h12 eh12
      refine ex_aload_n (q := 46) (x := a_0) dX4_walkPiece_45 rfl ?_
      refine ex_getr (q := 49) dX4_walkPiece_46 fl_X4_21 (by rw [eh12]; exact (by rw [eh9]; exact s2)) (by rw [eh12]; exact (by rw [eh9]; exact ea3)) ?_
      refine ex_iload (q := 51) (x := x8) dX4_walkPiece_49 rfl ?_
      refine ex_aload_n (q := 52) (x := a_0) dX4_walkPiece_51 rfl ?_
      refine ex_getf (q := 55) dX4_walkPiece_52 fl_X4_46 (by rw [eh12]; exact (by rw [eh9]; exact s2)) ?_
      have s15 := w.1
      replace w := w.2
      refine ex_iast (q := 56) dX4_walkPiece_55 s15 ?_
      refine ex_nmh (fun h14 eh14 => ?_)
      replace w := w h14 eh14
      refine ex_aload_n (q := 57) (x := a_0) dX4_walkPiece_56 rfl ?_
      refine ex_getr (q := 60) dX4_walkPiece_57 fl_X4_24 (by rw [eh14]; exact (by rw [eh12]; exact (by rw [eh9]; exact s2))) (by rw [eh14]; exact (by rw [eh12]; exact ea11)) ?_
      refine ex_iload (q := 62) (x := x8) dX4_walkPiece_60 rfl ?_
      refine ex_iconst (q := 63) (v := 0) dX4_walkPiece_62 (by decide) ?_
      have s17 := w.1
      replace w := w.2
      refine ex_iast (q := 64) dX4_walkPiece_63 s17 ?_
      refine ex_nmh (fun h16 eh16 => ?_)
      replace w := w h16 eh16
      refine ex_iload (q := 66) (x := x8) dX4_walkPiece_64 rfl ?_
      refine ex_iconst (q := 67) (v := 2) dX4_walkPiece_66 (by decide) ?_
      refine ex_callS (q := 70) (M := mX4_walkPiece) (hdd := Nat.le_refl _) (mc := 0) (ms := 0) (d' := d) (st := []) (bc := bc) (bs := bs) dX4_walkPiece_67 rfl cl_X4_103 wd_663 (X11_corner_s (Q := fun r z => r = some (.int (X11_corner_V x8 2 h16)) ∧ z = h16) ⟨rfl, rfl⟩) ?_
      intro r z hrz
      rw [hrz.1, hrz.2]
      show ex_G mX4_walkPiece (d + 1) 70 [.ref a_0, .int v_1, .int v_2, .int v_3, .int x8] [.int (X11_corner_V x8 2 h16)] (h16) bc bs Q
      refine ex_nmi (fun x18 ex18 => ?_)
      replace w := w x18 ex18
      refine ex_istore_n (q := 71) (ls' := [.ref a_0, .int v_1, .int x18, .int v_3, .int x8]) dX4_walkPiece_70 rfl ?_
      obtain ⟨x19, ex19⟩ : ∃ y : Int32, y = v_3 + 1 := ⟨_, rfl⟩
      replace w := w x19 ex19
      refine ex_iinc (q := 74) (x := v_3) (v := x19) (ls' := [.ref a_0, .int v_1, .int x18, .int x19, .int x8]) dX4_walkPiece_71 rfl (by rw [ex19]; rfl) rfl ?_
      refine ex_goto (tgt := 4) dX4_walkPiece_74 ?_
      refine ex_kill 4 (ls' := [.ref a_0, .int v_1, .int x18, .int x19, .retAddr 0]) rfl ?_
      exact w

set_option maxRecDepth 100000 in
theorem X4_walkPiece_77 {d bc bs : Nat} {h : AH} {Q : Option Value → AH → Prop} {a_0 : Nat} {v_1 : Int32} (w : ah_o h a_0 4 ∧ ∃ a2, ah_r h a_0 5 = some a2 ∧ st0 h a2 (ah_f h a_0 14) ∧ ∀ h3, h3 = ah_si h a2 (Int32.toNatClampNeg (ah_f h a_0 14)) v_1 → ∀ h5, h5 = ah_sf h3 a_0 14 ((ah_f h3 a_0 14) + 1) → Q none h5) : ex_G mX4_walkPiece (d + 1) 77 [.ref a_0, .int v_1, .retAddr 0, .retAddr 0, .retAddr 0] [] h bc bs Q := by
  refine ex_aload_n (q := 78) (x := a_0) dX4_walkPiece_77 rfl ?_
  have s1 := w.1
  replace w := w.2
  obtain ⟨a2, ea2, w⟩ := w
  refine ex_getr (q := 81) dX4_walkPiece_78 fl_X4_27 s1 ea2 ?_
  refine ex_aload_n (q := 82) (x := a_0) dX4_walkPiece_81 rfl ?_
  refine ex_getf (q := 85) dX4_walkPiece_82 fl_X4_46 s1 ?_
  refine ex_iload_n (q := 86) (x := v_1) dX4_walkPiece_85 rfl ?_
  have s4 := w.1
  replace w := w.2
  refine ex_iast (q := 87) dX4_walkPiece_86 s4 ?_
  refine ex_nmh (fun h3 eh3 => ?_)
  replace w := w h3 eh3
  refine ex_aload_n (q := 88) (x := a_0) dX4_walkPiece_87 rfl ?_
  refine ex_dup (q := 89) dX4_walkPiece_88 rfl ?_
  refine ex_getf (q := 92) dX4_walkPiece_89 fl_X4_46 (by rw [eh3]; exact s1) ?_
  refine ex_iconst (q := 93) (v := 1) dX4_walkPiece_92 (by decide) ?_
  refine ex_iadd (q := 94) dX4_walkPiece_93 ?_
  refine ex_putf (q := 97) dX4_walkPiece_94 fl_X4_46 (Or.inl rfl) (by rw [eh3]; exact s1) (Or.inl rfl) ?_
  refine ex_nmh (fun h5 eh5 => ?_)
  replace w := w h5 eh5
  exact ex_return dX4_walkPiece_97 w

theorem X4_walkPiece_e {d bc bs : Nat} {h : AH} {Q : Option Value → AH → Prop} {a_0 : Nat} {v_1 : Int32} (w : ex_G mX4_walkPiece (d + 1) 0 [.ref a_0, .int v_1, .retAddr 0, .retAddr 0, .retAddr 0] [] h bc bs Q) : ex_S yX4_walkPiece mX4_walkPiece (d + 1) [.ref a_0, .int v_1] h bc bs Q :=
  ex_enter (plainFor_of_name (by decide +kernel)) ⟨rfl, rfl⟩ rfl rfl (Nat.le_of_ble_eq_true rfl) (ex_pad 3 w)

set_option maxRecDepth 100000 in
theorem X4_findSigns_0 {d bc bs : Nat} {h : AH} {Q : Option Value → AH → Prop} {a_0 : Nat} (w : ah_o h a_0 4 ∧ ∀ h2, h2 = ah_sf h a_0 15 0 → ex_G mX4_findSigns d 7 [.ref a_0, .int 0, .retAddr 0, .retAddr 0] [] h2 bc bs Q) : ex_G mX4_findSigns d 0 [.ref a_0, .retAddr 0, .retAddr 0, .retAddr 0] [] h bc bs Q := by
  refine ex_aload_n (q := 1) (x := a_0) dX4_findSigns_0 rfl ?_
  refine ex_iconst (q := 2) (v := 0) dX4_findSigns_1 (by decide) ?_
  have s1 := w.1
  replace w := w.2
  refine ex_putf (q := 5) dX4_findSigns_2 fl_X4_117 (Or.inl rfl) s1 (Or.inl rfl) ?_
  refine ex_nmh (fun h2 eh2 => ?_)
  replace w := w h2 eh2
  refine ex_iconst (q := 6) (v := 0) dX4_findSigns_5 (by decide) ?_
  refine ex_istore_n (q := 7) (ls' := [.ref a_0, .int 0, .retAddr 0, .retAddr 0]) dX4_findSigns_6 rfl ?_
  exact w

set_option maxRecDepth 100000 in
theorem X4_findSigns_7 {d bc bs : Nat} {h : AH} {Q : Option Value → AH → Prop} {a_0 : Nat} {v_1 : Int32} (w : ah_o h a_0 4 ∧ (((ah_f h a_0 10) ≤ v_1 → Q none h) ∧ (¬ (ah_f h a_0 10) ≤ v_1 → ∃ a3, ah_r h a_0 4 = some a3 ∧ ld0 h a3 (4 * v_1) ∧ ((¬ (ah_i h a3 (Int32.toNatClampNeg (4 * v_1))) = 1 → ex_G mX4_findSigns d 32 [.ref a_0, .int v_1, .retAddr 0, .retAddr 0] [.int 0] h bc bs Q) ∧ ((ah_i h a3 (Int32.toNatClampNeg (4 * v_1))) = 1 → ex_G mX4_findSigns d 32 [.ref a_0, .int v_1, .retAddr 0, .retAddr 0] [.int 2] h bc bs Q))))) : ex_G mX4_findSigns d 7 [.ref a_0, .int v_1, .retAddr 0, .retAddr 0] [] h bc bs Q := by
  refine ex_iload_n (q := 8) (x := v_1) dX4_findSigns_7 rfl ?_
  refine ex_aload_n (q := 9) (x := a_0) dX4_findSigns_8 rfl ?_
  have s1 := w.1
  replace w := w.2
  refine ex_getf (q := 12) dX4_findSigns_9 fl_X4_42 s1 ?_
  refine ex_icmp_ge (tgt := 94) (q := 15) dX4_findSigns_12 (fun c2 => ?_) (fun c2 => ?_)
  · replace w := w.1 c2
    exact ex_return dX4_findSigns_94 w
  · replace w := w.2 c2
    refine ex_aload_n (q := 16) (x := a_0) dX4_findSigns_15 rfl ?_
    obtain ⟨a3, ea3, w⟩ := w
    refine ex_getr (q := 19) dX4_findSigns_16 fl_X4_24 s1 ea3 ?_
    refine ex_iconst (q := 20) (v := 4) dX4_findSigns_19 (by decide) ?_
    refine ex_iload_n (q := 21) (x := v_1) dX4_findSigns_20 rfl ?_
    refine ex_imul (q := 22) dX4_findSigns_21 ?_
    have s4 := w.1
    replace w := w.2
    refine ex_iald (q := 23) dX4_findSigns_22 s4 ?_
    refine ex_iconst (q := 24) (v := 1) dX4_findSigns_23 (by decide) ?_
    refine ex_icmp_ne (tgt := 31) (q := 27) dX4_findSigns_24 (fun c5 => ?_) (fun c5 => ?_)
    · replace w := w.1 c5
      refine ex_iconst (q := 32) (v := 0) dX4_findSigns_31 (by decide) ?_
      exact w
    · replace w := w.2 c5
      refine ex_iconst (q := 28) (v := 2) dX4_findSigns_27 (by decide) ?_
      refine ex_goto (tgt := 32) dX4_findSigns_28 ?_
      exact w

set_option maxRecDepth 100000 in
theorem X4_findSigns_32 {d bc bs : Nat} {h : AH} {Q : Option Value → AH → Prop} {a_0 : Nat} {v_1 : Int32} {u_0 : Int32} (w : ah_o h a_0 4 ∧ ∃ a2, ah_r h a_0 4 = some a2 ∧ ld0 h a2 ((4 * v_1) + 1) ∧ ((¬ (ah_i h a2 (Int32.toNatClampNeg ((4 * v_1) + 1))) = 1 → ex_G mX4_findSigns d 52 [.ref a_0, .int v_1, .int u_0, .retAddr 0] [.int 1] h bc bs Q) ∧ ((ah_i h a2 (Int32.toNatClampNeg ((4 * v_1) + 1))) = 1 → ex_G mX4_findSigns d 52 [.ref a_0, .int v_1, .int u_0, .retAddr 0] [.int 3] h bc bs Q))) : ex_G mX4_findSigns d 32 [.ref a_0, .int v_1, .retAddr 0, .retAddr 0] [.int u_0] h bc bs Q := by
  refine ex_istore_n (q := 33) (ls' := [.ref a_0, .int v_1, .int u_0, .retAddr 0]) dX4_findSigns_32 rfl ?_
  refine ex_aload_n (q := 34) (x := a_0) dX4_findSigns_33 rfl ?_
  have s1 := w.1
  replace w := w.2
  obtain ⟨a2, ea2, w⟩ := w
  refine ex_getr (q := 37) dX4_findSigns_34 fl_X4_24 s1 ea2 ?_
  refine ex_iconst (q := 38) (v := 4) dX4_findSigns_37 (by decide) ?_
  refine ex_iload_n (q := 39) (x := v_1) dX4_findSigns_38 rfl ?_
  refine ex_imul (q := 40) dX4_findSigns_39 ?_
  refine ex_iconst (q := 41) (v := 1) dX4_findSigns_40 (by decide) ?_
  refine ex_iadd (q := 42) dX4_findSigns_41 ?_
  have s3 := w.1
  replace w := w.2
  refine ex_iald (q := 43) dX4_findSigns_42 s3 ?_
  refine ex_iconst (q := 44) (v := 1) dX4_findSigns_43 (by decide) ?_
  refine ex_icmp_ne (tgt := 51) (q := 47) dX4_findSigns_44 (fun c4 => ?_) (fun c4 => ?_)
  · replace w := w.1 c4
    refine ex_iconst (q := 52) (v := 1) dX4_findSigns_51 (by decide) ?_
    exact w
  · replace w := w.2 c4
    refine ex_iconst (q := 48) (v := 3) dX4_findSigns_47 (by decide) ?_
    refine ex_goto (tgt := 52) dX4_findSigns_48 ?_
    exact w

set_option maxRecDepth 100000 in
theorem X4_findSigns_52 {d bc bs : Nat} {h : AH} {Q : Option Value → AH → Prop} {a_0 : Nat} {v_1 : Int32} {v_2 : Int32} {u_0 : Int32} (w : ah_o h a_0 4 ∧ ∃ a2, ah_r h a_0 6 = some a2 ∧ ((¬ u_0 = ((v_2 + 3) &&& 3) → ex_G mX4_findSigns d 72 [.ref a_0, .int v_1, .retAddr 0, .retAddr 0] [.int (-1), .int v_1, .ref a2] h bc bs Q) ∧ (u_0 = ((v_2 + 3) &&& 3) → ex_G mX4_findSigns d 72 [.ref a_0, .int v_1, .retAddr 0, .retAddr 0] [.int 1, .int v_1, .ref a2] h bc bs Q))) : ex_G mX4_findSigns d 52 [.ref a_0, .int v_1, .int v_2, .retAddr 0] [.int u_0] h bc bs Q := by
  refine ex_istore_n (q := 53) (ls' := [.ref a_0, .int v_1, .int v_2, .int u_0]) dX4_findSigns_52 rfl ?_
  refine ex_aload_n (q := 54) (x := a_0) dX4_findSigns_53 rfl ?_
  have s1 := w.1
  replace w := w.2
  obtain ⟨a2, ea2, w⟩ := w
  refine ex_getr (q := 57) dX4_findSigns_54 fl_X4_30 s1 ea2 ?_
  refine ex_iload_n (q := 58) (x := v_1) dX4_findSigns_57 rfl ?_
  refine ex_iload_n (q := 59) (x := u_0) dX4_findSigns_58 rfl ?_
  refine ex_iload_n (q := 60) (x := v_2) dX4_findSigns_59 rfl ?_
  refine ex_iconst (q := 61) (v := 3) dX4_findSigns_60 (by decide) ?_
  refine ex_iadd (q := 62) dX4_findSigns_61 ?_
  refine ex_iconst (q := 63) (v := 3) dX4_findSigns_62 (by decide) ?_
  refine ex_iand (q := 64) dX4_findSigns_63 ?_
  refine ex_icmp_ne (tgt := 71) (q := 67) dX4_findSigns_64 (fun c3 => ?_) (fun c3 => ?_)
  · replace w := w.1 c3
    refine ex_iconst (q := 72) (v := (-1)) dX4_findSigns_71 (by decide) ?_
    refine ex_kill 2 (ls' := [.ref a_0, .int v_1, .retAddr 0, .int u_0]) rfl ?_
    refine ex_kill 3 (ls' := [.ref a_0, .int v_1, .retAddr 0, .retAddr 0]) rfl ?_
    exact w
  · replace w := w.2 c3
    refine ex_iconst (q := 68) (v := 1) dX4_findSigns_67 (by decide) ?_
    refine ex_goto (tgt := 72) dX4_findSigns_68 ?_
    refine ex_kill 2 (ls' := [.ref a_0, .int v_1, .retAddr 0, .int u_0]) rfl ?_
    refine ex_kill 3 (ls' := [.ref a_0, .int v_1, .retAddr 0, .retAddr 0]) rfl ?_
    exact w

set_option maxRecDepth 100000 in
theorem X4_findSigns_72 {d bc bs : Nat} {h : AH} {Q : Option Value → AH → Prop} {a_0 : Nat} {v_1 : Int32} {u_0 : Int32} {u_1 : Int32} {b_2 : Nat} (w : st0 h b_2 u_1 ∧ ∀ h1, h1 = ah_si h b_2 (Int32.toNatClampNeg u_1) u_0 → ah_o h1 a_0 4 ∧ ∃ a4, ah_r h1 a_0 6 = some a4 ∧ ld0 h1 a4 v_1 ∧ ∀ h6, h6 = ah_sf h1 a_0 15 ((ah_f h1 a_0 15) + (ah_i h1 a4 (Int32.toNatClampNeg v_1))) → ∀ x7, x7 = v_1 + 1 → ex_G mX4_findSigns d 7 [.ref a_0, .int x7, .retAddr 0, .retAddr 0] [] h6 bc bs Q) : ex_G mX4_findSigns d 72 [.ref a_0, .int v_1, .retAddr 0, .retAddr 0] [.int u_0, .int u_1, .ref b_2] h bc bs Q := by
  have s2 := w.1
  replace w := w.2
  refine ex_iast (q := 73) dX4_findSigns_72 s2 ?_
  refine ex_nmh (fun h1 eh1 => ?_)
  replace w := w h1 eh1
  refine ex_aload_n (q := 74) (x := a_0) dX4_findSigns_73 rfl ?_
  refine ex_dup (q := 75) dX4_findSigns_74 rfl ?_
  have s3 := w.1
  replace w := w.2
  refine ex_getf (q := 78) dX4_findSigns_75 fl_X4_117 s3 ?_
  refine ex_aload_n (q := 79) (x := a_0) dX4_findSigns_78 rfl ?_
  obtain ⟨a4, ea4, w⟩ := w
  refine ex_getr (q := 82) dX4_findSigns_79 fl_X4_30 s3 ea4 ?_
  refine ex_iload_n (q := 83) (x := v_1) dX4_findSigns_82 rfl ?_
  have s5 := w.1
  replace w := w.2
  refine ex_iald (q := 84) dX4_findSigns_83 s5 ?_
  refine ex_iadd (q := 85) dX4_findSigns_84 ?_
  refine ex_putf (q := 88) dX4_findSigns_85 fl_X4_117 (Or.inl rfl) s3 (Or.inl rfl) ?_
  refine ex_nmh (fun h6 eh6 => ?_)
  replace w := w h6 eh6
  obtain ⟨x7, ex7⟩ : ∃ y : Int32, y = v_1 + 1 := ⟨_, rfl⟩
  replace w := w x7 ex7
  refine ex_iinc (q := 91) (x := v_1) (v := x7) (ls' := [.ref a_0, .int x7, .retAddr 0, .retAddr 0]) dX4_findSigns_88 rfl (by rw [ex7]; rfl) rfl ?_
  refine ex_goto (tgt := 7) dX4_findSigns_91 ?_
  exact w

theorem X4_findSigns_e {d bc bs : Nat} {h : AH} {Q : Option Value → AH → Prop} {a_0 : Nat} (w : ex_G mX4_findSigns d 0 [.ref a_0, .retAddr 0, .retAddr 0, .retAddr 0] [] h bc bs Q) : ex_S yX4_findSigns mX4_findSigns d [.ref a_0] h bc bs Q :=
  ex_enter (plainFor_of_name (by decide +kernel)) ⟨rfl, rfl⟩ rfl rfl (Nat.le_of_ble_eq_true rfl) (ex_pad 3 w)

set_option maxRecDepth 100000 in
theorem X4_linkOf_0 {d bc bs : Nat} {h : AH} {Q : Option Value → AH → Prop} {a_0 : Nat} {v_1 : Int32} {v_2 : Int32} (w : ex_G mX4_linkOf d 5 [.ref a_0, .int v_1, .int v_2, .int 0, .int 0, .retAddr 0, .retAddr 0] [] h bc bs Q) : ex_G mX4_linkOf d 0 [.ref a_0, .int v_1, .int v_2, .retAddr 0, .retAddr 0, .retAddr 0, .retAddr 0] [] h bc bs Q := by
  refine ex_iconst (q := 1) (v := 0) dX4_linkOf_0 (by decide) ?_
  refine ex_istore_n (q := 2) (ls' := [.ref a_0, .int v_1, .int v_2, .int 0, .retAddr 0, .retAddr 0, .retAddr 0]) dX4_linkOf_1 rfl ?_
  refine ex_iconst (q := 3) (v := 0) dX4_linkOf_2 (by decide) ?_
  refine ex_istore (q := 5) (ls' := [.ref a_0, .int v_1, .int v_2, .int 0, .int 0, .retAddr 0, .retAddr 0]) dX4_linkOf_3 rfl ?_
  exact w

set_option maxRecDepth 100000 in
theorem X4_linkOf_5 {d bc bs : Nat} {h : AH} {Q : Option Value → AH → Prop} {a_0 : Nat} {v_1 : Int32} {v_2 : Int32} {v_3 : Int32} {v_4 : Int32} (w : ah_o h a_0 4 ∧ (((ah_f h a_0 10) ≤ v_4 → Q (some (.int (v_3 / 2))) h) ∧ (¬ (ah_f h a_0 10) ≤ v_4 → ∃ a3, ah_r h a_0 3 = some a3 ∧ ld0 h a3 (4 * v_4) ∧ ∀ x5, x5 = ah_i h a3 (Int32.toNatClampNeg (4 * v_4)) → ld0 h a3 ((4 * v_4) + 1) ∧ ∀ x7, x7 = ah_i h a3 (Int32.toNatClampNeg ((4 * v_4) + 1)) → ((¬ x5 = v_1 → ex_G mX4_linkOf d 50 [.ref a_0, .int v_1, .int v_2, .int v_3, .int v_4, .int x5, .int x7] [] h bc bs Q) ∧ (x5 = v_1 → ((x7 = v_2 → ex_G mX4_linkOf d 62 [.ref a_0, .int v_1, .int v_2, .int v_3, .int v_4, .retAddr 0, .retAddr 0] [] h bc bs Q) ∧ (¬ x7 = v_2 → ex_G mX4_linkOf d 50 [.ref a_0, .int v_1, .int v_2, .int v_3, .int v_4, .int x5, .int x7] [] h bc bs Q))))))) : ex_G mX4_linkOf d 5 [.ref a_0, .int v_1, .int v_2, .int v_3, .int v_4, .retAddr 0, .retAddr 0] [] h bc bs Q := by
  refine ex_iload (q := 7) (x := v_4) dX4_linkOf_5 rfl ?_
  refine ex_aload_n (q := 8) (x := a_0) dX4_linkOf_7 rfl ?_
  have s1 := w.1
  replace w := w.2
  refine ex_getf (q := 11) dX4_linkOf_8 fl_X4_42 s1 ?_
  refine ex_icmp_ge (tgt := 78) (q := 14) dX4_linkOf_11 (fun c2 => ?_) (fun c2 => ?_)
  · replace w := w.1 c2
    refine ex_iload_n (q := 79) (x := v_3) dX4_linkOf_78 rfl ?_
    refine ex_iconst (q := 80) (v := 2) dX4_linkOf_79 (by decide) ?_
    refine ex_idiv (q := 81) dX4_linkOf_80 (by decide) ?_
    exact ex_ireturn dX4_linkOf_81 rfl (Or.inl rfl) w
  · replace w := w.2 c2
    refine ex_aload_n (q := 15) (x := a_0) dX4_linkOf_14 rfl ?_
    obtain ⟨a3, ea3, w⟩ := w
    refine ex_getr (q := 18) dX4_linkOf_15 fl_X4_21 s1 ea3 ?_
    refine ex_iconst (q := 19) (v := 4) dX4_linkOf_18 (by decide) ?_
    refine ex_iload (q := 21) (x := v_4) dX4_linkOf_19 rfl ?_
    refine ex_imul (q := 22) dX4_linkOf_21 ?_
    have s4 := w.1
    replace w := w.2
    refine ex_iald (q := 23) dX4_linkOf_22 s4 ?_
    refine ex_nmi (fun x5 ex5 => ?_)
    replace w := w x5 ex5
    refine ex_istore (q := 25) (ls' := [.ref a_0, .int v_1, .int v_2, .int v_3, .int v_4, .int x5, .retAddr 0]) dX4_linkOf_23 rfl ?_
    refine ex_aload_n (q := 26) (x := a_0) dX4_linkOf_25 rfl ?_
    refine ex_getr (q := 29) dX4_linkOf_26 fl_X4_21 s1 ea3 ?_
    refine ex_iconst (q := 30) (v := 4) dX4_linkOf_29 (by decide) ?_
    refine ex_iload (q := 32) (x := v_4) dX4_linkOf_30 rfl ?_
    refine ex_imul (q := 33) dX4_linkOf_32 ?_
    refine ex_iconst (q := 34) (v := 1) dX4_linkOf_33 (by decide) ?_
    refine ex_iadd (q := 35) dX4_linkOf_34 ?_
    have s6 := w.1
    replace w := w.2
    refine ex_iald (q := 36) dX4_linkOf_35 s6 ?_
    refine ex_nmi (fun x7 ex7 => ?_)
    replace w := w x7 ex7
    refine ex_istore (q := 38) (ls' := [.ref a_0, .int v_1, .int v_2, .int v_3, .int v_4, .int x5, .int x7]) dX4_linkOf_36 rfl ?_
    refine ex_iload (q := 40) (x := x5) dX4_linkOf_38 rfl ?_
    refine ex_iload_n (q := 41) (x := v_1) dX4_linkOf_40 rfl ?_
    refine ex_icmp_ne (tgt := 50) (q := 44) dX4_linkOf_41 (fun c8 => ?_) (fun c8 => ?_)
    · replace w := w.1 c8
      exact w
    · replace w := w.2 c8
      refine ex_iload (q := 46) (x := x7) dX4_linkOf_44 rfl ?_
      refine ex_iload_n (q := 47) (x := v_2) dX4_linkOf_46 rfl ?_
      refine ex_icmp_eq (tgt := 62) (q := 50) dX4_linkOf_47 (fun c9 => ?_) (fun c9 => ?_)
      · replace w := w.1 c9
        refine ex_kill 5 (ls' := [.ref a_0, .int v_1, .int v_2, .int v_3, .int v_4, .retAddr 0, .int x7]) rfl ?_
        refine ex_kill 6 (ls' := [.ref a_0, .int v_1, .int v_2, .int v_3, .int v_4, .retAddr 0, .retAddr 0]) rfl ?_
        exact w
      · replace w := w.2 c9
        exact w

set_option maxRecDepth 100000 in
theorem X4_linkOf_50 {d bc bs : Nat} {h : AH} {Q : Option Value → AH → Prop} {a_0 : Nat} {v_1 : Int32} {v_2 : Int32} {v_3 : Int32} {v_4 : Int32} {v_5 : Int32} {v_6 : Int32} (w : ((¬ v_5 = v_2 → ∀ x2, x2 = v_4 + 1 → ex_G mX4_linkOf d 5 [.ref a_0, .int v_1, .int v_2, .int v_3, .int x2, .retAddr 0, .retAddr 0] [] h bc bs Q) ∧ (v_5 = v_2 → ((¬ v_6 = v_1 → ∀ x4, x4 = v_4 + 1 → ex_G mX4_linkOf d 5 [.ref a_0, .int v_1, .int v_2, .int v_3, .int x4, .retAddr 0, .retAddr 0] [] h bc bs Q) ∧ (v_6 = v_1 → ex_G mX4_linkOf d 62 [.ref a_0, .int v_1, .int v_2, .int v_3, .int v_4, .retAddr 0, .retAddr 0] [] h bc bs Q))))) : ex_G mX4_linkOf d 50 [.ref a_0, .int v_1, .int v_2, .int v_3, .int v_4, .int v_5, .int v_6] [] h bc bs Q := by
  refine ex_iload (q := 52) (x := v_5) dX4_linkOf_50 rfl ?_
  refine ex_iload_n (q := 53) (x := v_2) dX4_linkOf_52 rfl ?_
  refine ex_icmp_ne (tgt := 72) (q := 56) dX4_linkOf_53 (fun c1 => ?_) (fun c1 => ?_)
  · replace w := w.1 c1
    obtain ⟨x2, ex2⟩ : ∃ y : Int32, y = v_4 + 1 := ⟨_, rfl⟩
    replace w := w x2 ex2
    refine ex_iinc (q := 75) (x := v_4) (v := x2) (ls' := [.ref a_0, .int v_1, .int v_2, .int v_3, .int x2, .int v_5, .int v_6]) dX4_linkOf_72 rfl (by rw [ex2]; rfl) rfl ?_
    refine ex_goto (tgt := 5) dX4_linkOf_75 ?_
    refine ex_kill 5 (ls' := [.ref a_0, .int v_1, .int v_2, .int v_3, .int x2, .retAddr 0, .int v_6]) rfl ?_
    refine ex_kill 6 (ls' := [.ref a_0, .int v_1, .int v_2, .int v_3, .int x2, .retAddr 0, .retAddr 0]) rfl ?_
    exact w
  · replace w := w.2 c1
    refine ex_iload (q := 58) (x := v_6) dX4_linkOf_56 rfl ?_
    refine ex_iload_n (q := 59) (x := v_1) dX4_linkOf_58 rfl ?_
    refine ex_icmp_ne (tgt := 72) (q := 62) dX4_linkOf_59 (fun c3 => ?_) (fun c3 => ?_)
    · replace w := w.1 c3
      obtain ⟨x4, ex4⟩ : ∃ y : Int32, y = v_4 + 1 := ⟨_, rfl⟩
      replace w := w x4 ex4
      refine ex_iinc (q := 75) (x := v_4) (v := x4) (ls' := [.ref a_0, .int v_1, .int v_2, .int v_3, .int x4, .int v_5, .int v_6]) dX4_linkOf_72 rfl (by rw [ex4]; rfl) rfl ?_
      refine ex_goto (tgt := 5) dX4_linkOf_75 ?_
      refine ex_kill 5 (ls' := [.ref a_0, .int v_1, .int v_2, .int v_3, .int x4, .retAddr 0, .int v_6]) rfl ?_
      refine ex_kill 6 (ls' := [.ref a_0, .int v_1, .int v_2, .int v_3, .int x4, .retAddr 0, .retAddr 0]) rfl ?_
      exact w
    · replace w := w.2 c3
      refine ex_kill 5 (ls' := [.ref a_0, .int v_1, .int v_2, .int v_3, .int v_4, .retAddr 0, .int v_6]) rfl ?_
      refine ex_kill 6 (ls' := [.ref a_0, .int v_1, .int v_2, .int v_3, .int v_4, .retAddr 0, .retAddr 0]) rfl ?_
      exact w

set_option maxRecDepth 100000 in
theorem X4_linkOf_62 {d bc bs : Nat} {h : AH} {Q : Option Value → AH → Prop} {a_0 : Nat} {v_1 : Int32} {v_2 : Int32} {v_3 : Int32} {v_4 : Int32} (w : ah_o h a_0 4 ∧ ∃ a2, ah_r h a_0 6 = some a2 ∧ ld0 h a2 v_4 ∧ ∀ x4, x4 = v_3 + (ah_i h a2 (Int32.toNatClampNeg v_4)) → ∀ x5, x5 = v_4 + 1 → ex_G mX4_linkOf d 5 [.ref a_0, .int v_1, .int v_2, .int x4, .int x5, .retAddr 0, .retAddr 0] [] h bc bs Q) : ex_G mX4_linkOf d 62 [.ref a_0, .int v_1, .int v_2, .int v_3, .int v_4, .retAddr 0, .retAddr 0] [] h bc bs Q := by
  refine ex_iload_n (q := 63) (x := v_3) dX4_linkOf_62 rfl ?_
  refine ex_aload_n (q := 64) (x := a_0) dX4_linkOf_63 rfl ?_
  have s1 := w.1
  replace w := w.2
  obtain ⟨a2, ea2, w⟩ := w
  refine ex_getr (q := 67) dX4_linkOf_64 fl_X4_30 s1 ea2 ?_
  refine ex_iload (q := 69) (x := v_4) dX4_linkOf_67 rfl ?_
  have s3 := w.1
  replace w := w.2
  refine ex_iald (q := 70) dX4_linkOf_69 s3 ?_
  refine ex_iadd (q := 71) dX4_linkOf_70 ?_
  refine ex_nmi (fun x4 ex4 => ?_)
  replace w := w x4 ex4
  refine ex_istore_n (q := 72) (ls' := [.ref a_0, .int v_1, .int v_2, .int x4, .int v_4, .retAddr 0, .retAddr 0]) dX4_linkOf_71 rfl ?_
  obtain ⟨x5, ex5⟩ : ∃ y : Int32, y = v_4 + 1 := ⟨_, rfl⟩
  replace w := w x5 ex5
  refine ex_iinc (q := 75) (x := v_4) (v := x5) (ls' := [.ref a_0, .int v_1, .int v_2, .int x4, .int x5, .retAddr 0, .retAddr 0]) dX4_linkOf_72 rfl (by rw [ex5]; rfl) rfl ?_
  refine ex_goto (tgt := 5) dX4_linkOf_75 ?_
  exact w

theorem X4_linkOf_e {d bc bs : Nat} {h : AH} {Q : Option Value → AH → Prop} {a_0 : Nat} {v_1 : Int32} {v_2 : Int32} (w : ex_G mX4_linkOf d 0 [.ref a_0, .int v_1, .int v_2, .retAddr 0, .retAddr 0, .retAddr 0, .retAddr 0] [] h bc bs Q) : ex_S yX4_linkOf mX4_linkOf d [.ref a_0, .int v_1, .int v_2] h bc bs Q :=
  ex_enter (plainFor_of_name (by decide +kernel)) ⟨rfl, rfl⟩ rfl rfl (Nat.le_of_ble_eq_true rfl) (ex_pad 4 w)

set_option maxRecDepth 100000 in
theorem X4_spell_0 {d bc bs : Nat} {h : AH} {Q : Option Value → AH → Prop} {a_0 : Nat} {a_1 : Nat} (w : ah_o h a_1 6 ∧ X6_empty_C a_1 h ∧ ∀ h3, h3 = X6_empty_H a_1 h → ex_G mX4_spell (d + 1) 6 [.ref a_0, .ref a_1, .int 0, .retAddr 0, .retAddr 0, .retAddr 0, .retAddr 0] [] h3 bc bs Q) : ex_G mX4_spell (d + 1) 0 [.ref a_0, .ref a_1, .retAddr 0, .retAddr 0, .retAddr 0, .retAddr 0, .retAddr 0] [] h bc bs Q := by
  refine ex_aload_n (q := 1) (x := a_1) dX4_spell_0 rfl ?_
  have s1 := w.1
  replace w := w.2
  have s2 := w.1
  replace w := w.2
  refine ex_callV (q := 4) (M := mX4_spell) (hdd := Nat.le_refl _) (mc := 0) (ms := 0) (d' := d) (c := 6) (st := []) (bc := bc) (bs := bs) dX4_spell_1 rfl cl_X4_120 wd_937 wd_938 s1 (X6_empty_s (Q := fun r z => r = none ∧ z = X6_empty_H a_1 h) s2 ⟨rfl, rfl⟩) ?_
  intro r z hrz
  rw [hrz.1, hrz.2]
  show ex_G mX4_spell (d + 1) 4 [.ref a_0, .ref a_1, .retAddr 0, .retAddr 0, .retAddr 0, .retAddr 0, .retAddr 0] [] (X6_empty_H a_1 h) bc bs Q
  refine ex_nmh (fun h3 eh3 => ?_)
  replace w := w h3 eh3
  refine ex_iconst (q := 5) (v := 0) dX4_spell_4 (by decide) ?_
  refine ex_istore_n (q := 6) (ls' := [.ref a_0, .ref a_1, .int 0, .retAddr 0, .retAddr 0, .retAddr 0, .retAddr 0]) dX4_spell_5 rfl ?_
  exact w

set_option maxRecDepth 100000 in
theorem X4_spell_6 {d bc bs : Nat} {h : AH} {Q : Option Value → AH → Prop} {a_0 : Nat} {a_1 : Nat} {v_2 : Int32} (w : ah_o h a_0 4 ∧ (((ah_f h a_0 14) ≤ v_2 → ah_o h a_1 6 ∧ ex_S yX6_add mX6_add d [.ref a_1, .int ((-2) - (ah_f h a_0 11))] h 0 0 (fun r h3 => ∃ x5, r = some (.int x5) ∧ Q none h3)) ∧ (¬ (ah_f h a_0 14) ≤ v_2 → ∃ a6, ah_r h a_0 5 = some a6 ∧ ld0 h a6 v_2 ∧ ∀ x8, x8 = ah_i h a6 (Int32.toNatClampNeg v_2) → ex_G mX4_spell (d + 1) 24 [.ref a_0, .ref a_1, .int v_2, .int x8, .int 0, .retAddr 0, .retAddr 0] [] h bc bs Q))) : ex_G mX4_spell (d + 1) 6 [.ref a_0, .ref a_1, .int v_2, .retAddr 0, .retAddr 0, .retAddr 0, .retAddr 0] [] h bc bs Q := by
  refine ex_iload_n (q := 7) (x := v_2) dX4_spell_6 rfl ?_
  refine ex_aload_n (q := 8) (x := a_0) dX4_spell_7 rfl ?_
  have s1 := w.1
  replace w := w.2
  refine ex_getf (q := 11) dX4_spell_8 fl_X4_46 s1 ?_
  refine ex_icmp_ge (tgt := 117) (q := 14) dX4_spell_11 (fun c2 => ?_) (fun c2 => ?_)
  · replace w := w.1 c2
    refine ex_aload_n (q := 118) (x := a_1) dX4_spell_117 rfl ?_
    refine ex_bipush (q := 120) (v := (-2)) dX4_spell_118 (by decide) ?_
    refine ex_aload_n (q := 121) (x := a_0) dX4_spell_120 rfl ?_
    refine ex_getf (q := 124) dX4_spell_121 fl_X4_49 s1 ?_
    refine ex_isub (q := 125) dX4_spell_124 ?_
    have s4 := w.1
    replace w := w.2
    refine ex_callV (q := 128) (M := mX4_spell) (hdd := Nat.le_refl _) (c := 6) (st := []) (bc := bc) (bs := bs) dX4_spell_125 rfl cl_X4_125 wd_941 wd_942 s4 w ?_
    rintro r h3 ⟨x5, rfl, w⟩
    show ex_G mX4_spell (d + 1) 128 [.ref a_0, .ref a_1, .int v_2, .retAddr 0, .retAddr 0, .retAddr 0, .retAddr 0] [.int x5] h3 bc bs Q
    refine ex_pop (q := 129) dX4_spell_128 rfl ?_
    exact ex_return dX4_spell_129 w
  · replace w := w.2 c2
    refine ex_aload_n (q := 15) (x := a_0) dX4_spell_14 rfl ?_
    obtain ⟨a6, ea6, w⟩ := w
    refine ex_getr (q := 18) dX4_spell_15 fl_X4_27 s1 ea6 ?_
    refine ex_iload_n (q := 19) (x := v_2) dX4_spell_18 rfl ?_
    have s7 := w.1
    replace w := w.2
    refine ex_iald (q := 20) dX4_spell_19 s7 ?_
    refine ex_nmi (fun x8 ex8 => ?_)
    replace w := w x8 ex8
    refine ex_istore_n (q := 21) (ls' := [.ref a_0, .ref a_1, .int v_2, .int x8, .retAddr 0, .retAddr 0, .retAddr 0]) dX4_spell_20 rfl ?_
    refine ex_iconst (q := 22) (v := 0) dX4_spell_21 (by decide) ?_
    refine ex_istore (q := 24) (ls' := [.ref a_0, .ref a_1, .int v_2, .int x8, .int 0, .retAddr 0, .retAddr 0]) dX4_spell_22 rfl ?_
    exact w

set_option maxRecDepth 100000 in
theorem X4_spell_24 {d bc bs : Nat} {h : AH} {Q : Option Value → AH → Prop} {a_0 : Nat} {a_1 : Nat} {v_2 : Int32} {v_3 : Int32} {v_4 : Int32} (w : ((160 ≤ v_4 → ah_o h a_1 6 ∧ ex_S yX6_add mX6_add d [.ref a_1, .int (-1)] h 0 0 (fun r h2 => ∃ x4, r = some (.int x4) ∧ ∀ x5, x5 = v_2 + 1 → ex_G mX4_spell (d + 1) 6 [.ref a_0, .ref a_1, .int x5, .retAddr 0, .retAddr 0, .retAddr 0, .retAddr 0] [] h2 bc bs Q)) ∧ (¬ 160 ≤ v_4 → ah_o h a_0 4 ∧ ∃ a7, ah_r h a_0 0 = some a7 ∧ ld0 h a7 v_3 ∧ ∀ x9, x9 = ah_i h a7 (Int32.toNatClampNeg v_3) → ∀ x10, x10 = x9 >>> (2 &&& (31 : Int32)) → ∃ a11, ah_r h a_0 6 = some a11 ∧ ld0 h a11 x10 ∧ ((¬ (ah_i h a11 (Int32.toNatClampNeg x10)) = 1 → ex_G mX4_spell (d + 1) 74 [.ref a_0, .ref a_1, .int v_2, .retAddr 0, .int v_4, .int x9, .retAddr 0] [.int 0, .int ((4 * x10) + (2 * (x9 &&& 1))), .ref a_1] h bc bs Q) ∧ ((ah_i h a11 (Int32.toNatClampNeg x10)) = 1 → ex_G mX4_spell (d + 1) 74 [.ref a_0, .ref a_1, .int v_2, .retAddr 0, .int v_4, .int x9, .retAddr 0] [.int 1, .int ((4 * x10) + (2 * (x9 &&& 1))), .ref a_1] h bc bs Q))))) : ex_G mX4_spell (d + 1) 24 [.ref a_0, .ref a_1, .int v_2, .int v_3, .int v_4, .retAddr 0, .retAddr 0] [] h bc bs Q := by
  refine ex_iload (q := 26) (x := v_4) dX4_spell_24 rfl ?_
  refine ex_sipush (q := 29) (v := 160) dX4_spell_26 (by decide) ?_
  refine ex_icmp_ge (tgt := 105) (q := 32) dX4_spell_29 (fun c1 => ?_) (fun c1 => ?_)
  · replace w := w.1 c1
    refine ex_aload_n (q := 106) (x := a_1) dX4_spell_105 rfl ?_
    refine ex_iconst (q := 107) (v := (-1)) dX4_spell_106 (by decide) ?_
    have s3 := w.1
    replace w := w.2
    refine ex_callV (q := 110) (M := mX4_spell) (hdd := Nat.le_refl _) (c := 6) (st := []) (bc := bc) (bs := bs) dX4_spell_107 rfl cl_X4_125 wd_941 wd_942 s3 w ?_
    rintro r h2 ⟨x4, rfl, w⟩
    show ex_G mX4_spell (d + 1) 110 [.ref a_0, .ref a_1, .int v_2, .int v_3, .int v_4, .retAddr 0, .retAddr 0] [.int x4] h2 bc bs Q
    refine ex_pop (q := 111) dX4_spell_110 rfl ?_
    obtain ⟨x5, ex5⟩ : ∃ y : Int32, y = v_2 + 1 := ⟨_, rfl⟩
    replace w := w x5 ex5
    refine ex_iinc (q := 114) (x := v_2) (v := x5) (ls' := [.ref a_0, .ref a_1, .int x5, .int v_3, .int v_4, .retAddr 0, .retAddr 0]) dX4_spell_111 rfl (by rw [ex5]; rfl) rfl ?_
    refine ex_goto (tgt := 6) dX4_spell_114 ?_
    refine ex_kill 3 (ls' := [.ref a_0, .ref a_1, .int x5, .retAddr 0, .int v_4, .retAddr 0, .retAddr 0]) rfl ?_
    refine ex_kill 4 (ls' := [.ref a_0, .ref a_1, .int x5, .retAddr 0, .retAddr 0, .retAddr 0, .retAddr 0]) rfl ?_
    exact w
  · replace w := w.2 c1
    refine ex_aload_n (q := 33) (x := a_0) dX4_spell_32 rfl ?_
    have s6 := w.1
    replace w := w.2
    obtain ⟨a7, ea7, w⟩ := w
    refine ex_getr (q := 36) dX4_spell_33 fl_X4_9 s6 ea7 ?_
    refine ex_iload_n (q := 37) (x := v_3) dX4_spell_36 rfl ?_
    have s8 := w.1
    replace w := w.2
    refine ex_iald (q := 38) dX4_spell_37 s8 ?_
    refine ex_nmi (fun x9 ex9 => ?_)
    replace w := w x9 ex9
    refine ex_istore (q := 40) (ls' := [.ref a_0, .ref a_1, .int v_2, .int v_3, .int v_4, .int x9, .retAddr 0]) dX4_spell_38 rfl ?_
    refine ex_iload (q := 42) (x := x9) dX4_spell_40 rfl ?_
    refine ex_iconst (q := 43) (v := 2) dX4_spell_42 (by decide) ?_
    refine ex_ishr (q := 44) dX4_spell_43 ?_
    refine ex_nmi (fun x10 ex10 => ?_)
    replace w := w x10 ex10
    refine ex_istore (q := 46) (ls' := [.ref a_0, .ref a_1, .int v_2, .int v_3, .int v_4, .int x9, .int x10]) dX4_spell_44 rfl ?_
    refine ex_aload_n (q := 47) (x := a_1) dX4_spell_46 rfl ?_
    refine ex_iconst (q := 48) (v := 4) dX4_spell_47 (by decide) ?_
    refine ex_iload (q := 50) (x := x10) dX4_spell_48 rfl ?_
    refine ex_imul (q := 51) dX4_spell_50 ?_
    refine ex_iconst (q := 52) (v := 2) dX4_spell_51 (by decide) ?_
    refine ex_iload (q := 54) (x := x9) dX4_spell_52 rfl ?_
    refine ex_iconst (q := 55) (v := 1) dX4_spell_54 (by decide) ?_
    refine ex_iand (q := 56) dX4_spell_55 ?_
    refine ex_imul (q := 57) dX4_spell_56 ?_
    refine ex_iadd (q := 58) dX4_spell_57 ?_
    refine ex_aload_n (q := 59) (x := a_0) dX4_spell_58 rfl ?_
    obtain ⟨a11, ea11, w⟩ := w
    refine ex_getr (q := 62) dX4_spell_59 fl_X4_30 s6 ea11 ?_
    refine ex_iload (q := 64) (x := x10) dX4_spell_62 rfl ?_
    have s12 := w.1
    replace w := w.2
    refine ex_iald (q := 65) dX4_spell_64 s12 ?_
    refine ex_iconst (q := 66) (v := 1) dX4_spell_65 (by decide) ?_
    refine ex_icmp_ne (tgt := 73) (q := 69) dX4_spell_66 (fun c13 => ?_) (fun c13 => ?_)
    · replace w := w.1 c13
      refine ex_iconst (q := 74) (v := 0) dX4_spell_73 (by decide) ?_
      refine ex_kill 3 (ls' := [.ref a_0, .ref a_1, .int v_2, .retAddr 0, .int v_4, .int x9, .int x10]) rfl ?_
      refine ex_kill 6 (ls' := [.ref a_0, .ref a_1, .int v_2, .retAddr 0, .int v_4, .int x9, .retAddr 0]) rfl ?_
      exact w
    · replace w := w.2 c13
      refine ex_iconst (q := 70) (v := 1) dX4_spell_69 (by decide) ?_
      refine ex_goto (tgt := 74) dX4_spell_70 ?_
      refine ex_kill 3 (ls' := [.ref a_0, .ref a_1, .int v_2, .retAddr 0, .int v_4, .int x9, .int x10]) rfl ?_
      refine ex_kill 6 (ls' := [.ref a_0, .ref a_1, .int v_2, .retAddr 0, .int v_4, .int x9, .retAddr 0]) rfl ?_
      exact w

set_option maxRecDepth 100000 in
theorem X4_spell_74 {d bc bs : Nat} {h : AH} {Q : Option Value → AH → Prop} {a_0 : Nat} {a_1 : Nat} {v_2 : Int32} {v_4 : Int32} {v_5 : Int32} {u_0 : Int32} {u_1 : Int32} {b_2 : Nat} (w : ah_o h b_2 6 ∧ ex_S yX6_add mX6_add d [.ref b_2, .int (u_1 + u_0)] h 0 0 (fun r h1 => ∃ x3, r = some (.int x3) ∧ ∀ x4, x4 = X11_corner_V v_5 2 h1 → ah_o h1 a_0 4 ∧ ∃ a6, ah_r h1 a_0 5 = some a6 ∧ ld0 h1 a6 v_2 ∧ ((¬ x4 = (ah_i h1 a6 (Int32.toNatClampNeg v_2)) → ∀ x9, x9 = v_4 + 1 → ex_G mX4_spell (d + 1) 24 [.ref a_0, .ref a_1, .int v_2, .int x4, .int x9, .retAddr 0, .retAddr 0] [] h1 bc bs Q) ∧ (x4 = (ah_i h1 a6 (Int32.toNatClampNeg v_2)) → ah_o h1 a_1 6 ∧ ex_S yX6_add mX6_add d [.ref a_1, .int (-1)] h1 0 0 (fun r h10 => ∃ x12, r = some (.int x12) ∧ ∀ x13, x13 = v_2 + 1 → ex_G mX4_spell (d + 1) 6 [.ref a_0, .ref a_1, .int x13, .retAddr 0, .retAddr 0, .retAddr 0, .retAddr 0] [] h10 bc bs Q))))) : ex_G mX4_spell (d + 1) 74 [.ref a_0, .ref a_1, .int v_2, .retAddr 0, .int v_4, .int v_5, .retAddr 0] [.int u_0, .int u_1, .ref b_2] h bc bs Q := by
  refine ex_iadd (q := 75) dX4_spell_74 ?_
  have s2 := w.1
  replace w := w.2
  refine ex_callV (q := 78) (M := mX4_spell) (hdd := Nat.le_refl _) (c := 6) (st := []) (bc := bc) (bs := bs) dX4_spell_75 rfl cl_X4_125 wd_941 wd_942 s2 w ?_
  rintro r h1 ⟨x3, rfl, w⟩
  show ex_G mX4_spell (d + 1) 78 [.ref a_0, .ref a_1, .int v_2, .retAddr 0, .int v_4, .int v_5, .retAddr 0] [.int x3] h1 bc bs Q
  refine ex_pop (q := 79) dX4_spell_78 rfl ?_
  refine ex_iload (q := 81) (x := v_5) dX4_spell_79 rfl ?_
  refine ex_iconst (q := 82) (v := 2) dX4_spell_81 (by decide) ?_
  refine ex_callS (q := 85) (M := mX4_spell) (hdd := Nat.le_refl _) (mc := 0) (ms := 0) (d' := d) (st := []) (bc := bc) (bs := bs) dX4_spell_82 rfl cl_X4_103 wd_663 (X11_corner_s (Q := fun r z => r = some (.int (X11_corner_V v_5 2 h1)) ∧ z = h1) ⟨rfl, rfl⟩) ?_
  intro r z hrz
  rw [hrz.1, hrz.2]
  show ex_G mX4_spell (d + 1) 85 [.ref a_0, .ref a_1, .int v_2, .retAddr 0, .int v_4, .int v_5, .retAddr 0] [.int (X11_corner_V v_5 2 h1)] (h1) bc bs Q
  refine ex_nmi (fun x4 ex4 => ?_)
  replace w := w x4 ex4
  refine ex_istore_n (q := 86) (ls' := [.ref a_0, .ref a_1, .int v_2, .int x4, .int v_4, .int v_5, .retAddr 0]) dX4_spell_85 rfl ?_
  refine ex_iload_n (q := 87) (x := x4) dX4_spell_86 rfl ?_
  refine ex_aload_n (q := 88) (x := a_0) dX4_spell_87 rfl ?_
  have s5 := w.1
  replace w := w.2
  obtain ⟨a6, ea6, w⟩ := w
  refine ex_getr (q := 91) dX4_spell_88 fl_X4_27 s5 ea6 ?_
  refine ex_iload_n (q := 92) (x := v_2) dX4_spell_91 rfl ?_
  have s7 := w.1
  replace w := w.2
  refine ex_iald (q := 93) dX4_spell_92 s7 ?_
  refine ex_icmp_ne (tgt := 99) (q := 96) dX4_spell_93 (fun c8 => ?_) (fun c8 => ?_)
  · replace w := w.1 c8
    obtain ⟨x9, ex9⟩ : ∃ y : Int32, y = v_4 + 1 := ⟨_, rfl⟩
    replace w := w x9 ex9
    refine ex_iinc (q := 102) (x := v_4) (v := x9) (ls' := [.ref a_0, .ref a_1, .int v_2, .int x4, .int x9, .int v_5, .retAddr 0]) dX4_spell_99 rfl (by rw [ex9]; rfl) rfl ?_
    refine ex_goto (tgt := 24) dX4_spell_102 ?_
    refine ex_kill 5 (ls' := [.ref a_0, .ref a_1, .int v_2, .int x4, .int x9, .retAddr 0, .retAddr 0]) rfl ?_
    exact w
  · replace w := w.2 c8
    refine ex_goto (tgt := 105) dX4_spell_96 ?_
    refine ex_aload_n (q := 106) (x := a_1) dX4_spell_105 rfl ?_
    refine ex_iconst (q := 107) (v := (-1)) dX4_spell_106 (by decide) ?_
    have s11 := w.1
    replace w := w.2
    refine ex_callV (q := 110) (M := mX4_spell) (hdd := Nat.le_refl _) (c := 6) (st := []) (bc := bc) (bs := bs) dX4_spell_107 rfl cl_X4_125 wd_941 wd_942 s11 w ?_
    rintro r h10 ⟨x12, rfl, w⟩
    show ex_G mX4_spell (d + 1) 110 [.ref a_0, .ref a_1, .int v_2, .int x4, .int v_4, .int v_5, .retAddr 0] [.int x12] h10 bc bs Q
    refine ex_pop (q := 111) dX4_spell_110 rfl ?_
    obtain ⟨x13, ex13⟩ : ∃ y : Int32, y = v_2 + 1 := ⟨_, rfl⟩
    replace w := w x13 ex13
    refine ex_iinc (q := 114) (x := v_2) (v := x13) (ls' := [.ref a_0, .ref a_1, .int x13, .int x4, .int v_4, .int v_5, .retAddr 0]) dX4_spell_111 rfl (by rw [ex13]; rfl) rfl ?_
    refine ex_goto (tgt := 6) dX4_spell_114 ?_
    refine ex_kill 3 (ls' := [.ref a_0, .ref a_1, .int x13, .retAddr 0, .int v_4, .int v_5, .retAddr 0]) rfl ?_
    refine ex_kill 4 (ls' := [.ref a_0, .ref a_1, .int x13, .retAddr 0, .retAddr 0, .int v_5, .retAddr 0]) rfl ?_
    refine ex_kill 5 (ls' := [.ref a_0, .ref a_1, .int x13, .retAddr 0, .retAddr 0, .retAddr 0, .retAddr 0]) rfl ?_
    exact w

theorem X4_spell_e {d bc bs : Nat} {h : AH} {Q : Option Value → AH → Prop} {a_0 : Nat} {a_1 : Nat} (w : ex_G mX4_spell (d + 1) 0 [.ref a_0, .ref a_1, .retAddr 0, .retAddr 0, .retAddr 0, .retAddr 0, .retAddr 0] [] h bc bs Q) : ex_S yX4_spell mX4_spell (d + 1) [.ref a_0, .ref a_1] h bc bs Q :=
  ex_enter (plainFor_of_name (by decide +kernel)) ⟨rfl, rfl⟩ rfl rfl (Nat.le_of_ble_eq_true rfl) (ex_pad 5 w)

set_option maxRecDepth 100000 in
theorem X4_likenessMark_0 {d bc bs : Nat} {h : AH} {Q : Option Value → AH → Prop} {a_0 : Nat} (w : ex_G mX4_likenessMark d 4 [.ref a_0, .int 0, .int 0, .retAddr 0] [] h bc bs Q) : ex_G mX4_likenessMark d 0 [.ref a_0, .retAddr 0, .retAddr 0, .retAddr 0] [] h bc bs Q := by
  refine ex_iconst (q := 1) (v := 0) dX4_likenessMark_0 (by decide) ?_
  refine ex_istore_n (q := 2) (ls' := [.ref a_0, .int 0, .retAddr 0, .retAddr 0]) dX4_likenessMark_1 rfl ?_
  refine ex_iconst (q := 3) (v := 0) dX4_likenessMark_2 (by decide) ?_
  refine ex_istore_n (q := 4) (ls' := [.ref a_0, .int 0, .int 0, .retAddr 0]) dX4_likenessMark_3 rfl ?_
  exact w

set_option maxRecDepth 100000 in
theorem X4_likenessMark_4 {d bc bs : Nat} {h : AH} {Q : Option Value → AH → Prop} {a_0 : Nat} {v_1 : Int32} {v_2 : Int32} (w : ah_o h a_0 4 ∧ (((4 * (ah_f h a_0 10)) ≤ v_2 → Q (some (.int v_1)) h) ∧ (¬ (4 * (ah_f h a_0 10)) ≤ v_2 → ∃ a3, ah_r h a_0 2 = some a3 ∧ ∃ a4, ah_r h a_0 1 = some a4 ∧ ld0 h a4 v_2 ∧ ld0 h a3 (ah_i h a4 (Int32.toNatClampNeg v_2)) ∧ ∃ a7, ah_r h a_0 0 = some a7 ∧ ld0 h a7 v_2 ∧ ∀ x9, x9 = ((4 * (ah_i h a3 (Int32.toNatClampNeg (ah_i h a4 (Int32.toNatClampNeg v_2))))) + (2 * (v_2 &&& 1))) + ((ah_i h a7 (Int32.toNatClampNeg v_2)) &&& 1) → ∀ x10, x10 = v_1 + (((x9 * x9) + 7) * x9) → ∀ x11, x11 = v_2 + 1 → ex_G mX4_likenessMark d 4 [.ref a_0, .int x10, .int x11, .retAddr 0] [] h bc bs Q))) : ex_G mX4_likenessMark d 4 [.ref a_0, .int v_1, .int v_2, .retAddr 0] [] h bc bs Q := by
  refine ex_iload_n (q := 5) (x := v_2) dX4_likenessMark_4 rfl ?_
  refine ex_iconst (q := 6) (v := 4) dX4_likenessMark_5 (by decide) ?_
  refine ex_aload_n (q := 7) (x := a_0) dX4_likenessMark_6 rfl ?_
  have s1 := w.1
  replace w := w.2
  refine ex_getf (q := 10) dX4_likenessMark_7 fl_X4_42 s1 ?_
  refine ex_imul (q := 11) dX4_likenessMark_10 ?_
  refine ex_icmp_ge (tgt := 60) (q := 14) dX4_likenessMark_11 (fun c2 => ?_) (fun c2 => ?_)
  · replace w := w.1 c2
    refine ex_iload_n (q := 61) (x := v_1) dX4_likenessMark_60 rfl ?_
    exact ex_ireturn dX4_likenessMark_61 rfl (Or.inl rfl) w
  · replace w := w.2 c2
    refine ex_iconst (q := 15) (v := 4) dX4_likenessMark_14 (by decide) ?_
    refine ex_aload_n (q := 16) (x := a_0) dX4_likenessMark_15 rfl ?_
    obtain ⟨a3, ea3, w⟩ := w
    refine ex_getr (q := 19) dX4_likenessMark_16 fl_X4_18 s1 ea3 ?_
    refine ex_aload_n (q := 20) (x := a_0) dX4_likenessMark_19 rfl ?_
    obtain ⟨a4, ea4, w⟩ := w
    refine ex_getr (q := 23) dX4_likenessMark_20 fl_X4_15 s1 ea4 ?_
    refine ex_iload_n (q := 24) (x := v_2) dX4_likenessMark_23 rfl ?_
    have s5 := w.1
    replace w := w.2
    refine ex_iald (q := 25) dX4_likenessMark_24 s5 ?_
    have s6 := w.1
    replace w := w.2
    refine ex_iald (q := 26) dX4_likenessMark_25 s6 ?_
    refine ex_imul (q := 27) dX4_likenessMark_26 ?_
    refine ex_iconst (q := 28) (v := 2) dX4_likenessMark_27 (by decide) ?_
    refine ex_iload_n (q := 29) (x := v_2) dX4_likenessMark_28 rfl ?_
    refine ex_iconst (q := 30) (v := 1) dX4_likenessMark_29 (by decide) ?_
    refine ex_iand (q := 31) dX4_likenessMark_30 ?_
    refine ex_imul (q := 32) dX4_likenessMark_31 ?_
    refine ex_iadd (q := 33) dX4_likenessMark_32 ?_
    refine ex_aload_n (q := 34) (x := a_0) dX4_likenessMark_33 rfl ?_
    obtain ⟨a7, ea7, w⟩ := w
    refine ex_getr (q := 37) dX4_likenessMark_34 fl_X4_9 s1 ea7 ?_
    refine ex_iload_n (q := 38) (x := v_2) dX4_likenessMark_37 rfl ?_
    have s8 := w.1
    replace w := w.2
    refine ex_iald (q := 39) dX4_likenessMark_38 s8 ?_
    refine ex_iconst (q := 40) (v := 1) dX4_likenessMark_39 (by decide) ?_
    refine ex_iand (q := 41) dX4_likenessMark_40 ?_
    refine ex_iadd (q := 42) dX4_likenessMark_41 ?_
    refine ex_nmi (fun x9 ex9 => ?_)
    replace w := w x9 ex9
    refine ex_istore_n (q := 43) (ls' := [.ref a_0, .int v_1, .int v_2, .int x9]) dX4_likenessMark_42 rfl ?_
    refine ex_iload_n (q := 44) (x := v_1) dX4_likenessMark_43 rfl ?_
    refine ex_iload_n (q := 45) (x := x9) dX4_likenessMark_44 rfl ?_
    refine ex_iload_n (q := 46) (x := x9) dX4_likenessMark_45 rfl ?_
    refine ex_imul (q := 47) dX4_likenessMark_46 ?_
    refine ex_bipush (q := 49) (v := 7) dX4_likenessMark_47 (by decide) ?_
    refine ex_iadd (q := 50) dX4_likenessMark_49 ?_
    refine ex_iload_n (q := 51) (x := x9) dX4_likenessMark_50 rfl ?_
    refine ex_imul (q := 52) dX4_likenessMark_51 ?_
    refine ex_iadd (q := 53) dX4_likenessMark_52 ?_
    refine ex_nmi (fun x10 ex10 => ?_)
    replace w := w x10 ex10
    refine ex_istore_n (q := 54) (ls' := [.ref a_0, .int x10, .int v_2, .int x9]) dX4_likenessMark_53 rfl ?_
    obtain ⟨x11, ex11⟩ : ∃ y : Int32, y = v_2 + 1 := ⟨_, rfl⟩
    replace w := w x11 ex11
    refine ex_iinc (q := 57) (x := v_2) (v := x11) (ls' := [.ref a_0, .int x10, .int x11, .int x9]) dX4_likenessMark_54 rfl (by rw [ex11]; rfl) rfl ?_
    refine ex_goto (tgt := 4) dX4_likenessMark_57 ?_
    refine ex_kill 3 (ls' := [.ref a_0, .int x10, .int x11, .retAddr 0]) rfl ?_
    exact w

theorem X4_likenessMark_e {d bc bs : Nat} {h : AH} {Q : Option Value → AH → Prop} {a_0 : Nat} (w : ex_G mX4_likenessMark d 0 [.ref a_0, .retAddr 0, .retAddr 0, .retAddr 0] [] h bc bs Q) : ex_S yX4_likenessMark mX4_likenessMark d [.ref a_0] h bc bs Q :=
  ex_enter (plainFor_of_name (by decide +kernel)) ⟨rfl, rfl⟩ rfl rfl (Nat.le_of_ble_eq_true rfl) (ex_pad 3 w)
