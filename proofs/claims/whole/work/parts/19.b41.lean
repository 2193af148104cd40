set_option maxRecDepth 100000 in
theorem X11_power_0 {d bc bs : Nat} {h : AH} {Q : Option Value → AH → Prop} {a_0 : Nat} {v_1 : Int32} (w : ((v_1 = 0 → ex_G mX11_power (d + 1) 16 [.ref a_0, .int v_1] [] h bc bs Q) ∧ (¬ v_1 = 0 → ((v_1 = 1 → ex_G mX11_power (d + 1) 16 [.ref a_0, .int v_1] [] h bc bs Q) ∧ (¬ v_1 = 1 → ah_o h a_0 11 ∧ ex_S yX11_refuse mX11_refuse d [.ref a_0, .int (-2)] h 0 0 (fun r h3 => ∃ x5, r = some (.int x5) ∧ Q (some (.int x5)) h3)))))) : ex_G mX11_power (d + 1) 0 [.ref a_0, .int v_1] [] h bc bs Q := by
  refine ex_iload_n (q := 1) (x := v_1) dX11_power_0 rfl ?_
  refine ex_if_eq (tgt := 16) (q := 4) dX11_power_1 (fun c1 => ?_) (fun c1 => ?_)
  · replace w := w.1 c1
    exact w
  · replace w := w.2 c1
    refine ex_iload_n (q := 5) (x := v_1) dX11_power_4 rfl ?_
    refine ex_iconst (q := 6) (v := 1) dX11_power_5 (by decide) ?_
    refine ex_icmp_eq (tgt := 16) (q := 9) dX11_power_6 (fun c2 => ?_) (fun c2 => ?_)
    · replace w := w.1 c2
      exact w
    · replace w := w.2 c2
      refine ex_aload_n (q := 10) (x := a_0) dX11_power_9 rfl ?_
      refine ex_bipush (q := 12) (v := (-2)) dX11_power_10 (by decide) ?_
      have s4 := w.1
      replace w := w.2
      refine ex_callV (q := 15) (M := mX11_power) (hdd := Nat.le_refl _) (c := 11) (st := []) (bc := bc) (bs := bs) dX11_power_12 rfl cl_X11_120 wd_557 wd_1 s4 w ?_
      rintro r h3 ⟨x5, rfl, w⟩
      show ex_G mX11_power (d + 1) 15 [.ref a_0, .int v_1] [.int x5] h3 bc bs Q
      exact ex_ireturn dX11_power_15 rfl (Or.inl rfl) w

set_option maxRecDepth 100000 in
theorem X11_power_16 {d bc bs : Nat} {h : AH} {Q : Option Value → AH → Prop} {a_0 : Nat} {v_1 : Int32} (w : ah_o h a_0 11 ∧ ∃ a2, ah_r h a_0 8 = some a2 ∧ ah_o h a2 2 ∧ ((¬ (ah_f h a2 2) = 0 → ((¬ v_1 = 0 → ex_S yX2_highest mX2_highest d [.ref a2] h 0 0 (fun r h6 => ∃ x7, r = some (.int x7) ∧ ah_o h6 a_0 11 ∧ X11_grant_C a_0 x7 h6 ∧ ∀ h10, h10 = X11_grant_H a_0 x7 h6 → Q (some (.int (X11_grant_V a_0 x7 h6))) h10)) ∧ (v_1 = 0 → ex_S yX2_lowest mX2_lowest d [.ref a2] h 0 0 (fun r h11 => ∃ x12, r = some (.int x12) ∧ ah_o h11 a_0 11 ∧ X11_grant_C a_0 x12 h11 ∧ ∀ h15, h15 = X11_grant_H a_0 x12 h11 → Q (some (.int (X11_grant_V a_0 x12 h11))) h15)))) ∧ ((ah_f h a2 2) = 0 → ex_S yX11_refuse mX11_refuse d [.ref a_0, .int (-15)] h 0 0 (fun r h16 => ∃ x17, r = some (.int x17) ∧ Q (some (.int x17)) h16)))) : ex_G mX11_power (d + 1) 16 [.ref a_0, .int v_1] [] h bc bs Q := by
  refine ex_aload_n (q := 17) (x := a_0) dX11_power_16 rfl ?_
  have s1 := w.1
  replace w := w.2
  obtain ⟨a2, ea2, w⟩ := w
  refine ex_getr (q := 20) dX11_power_17 fl_X11_58 s1 ea2 ?_
  have s3 := w.1
  replace w := w.2
  refine ex_getf (q := 23) dX11_power_20 fl_X11_274 s3 ?_
  refine ex_if_ne (tgt := 33) (q := 26) dX11_power_23 (fun c4 => ?_) (fun c4 => ?_)
  · replace w := w.1 c4
    refine ex_aload_n (q := 34) (x := a_0) dX11_power_33 rfl ?_
    refine ex_iload_n (q := 35) (x := v_1) dX11_power_34 rfl ?_
    refine ex_if_ne (tgt := 48) (q := 38) dX11_power_35 (fun c5 => ?_) (fun c5 => ?_)
    · replace w := w.1 c5
      refine ex_aload_n (q := 49) (x := a_0) dX11_power_48 rfl ?_
      refine ex_getr (q := 52) dX11_power_49 fl_X11_58 s1 ea2 ?_
      refine ex_callV (q := 55) (M := mX11_power) (hdd := Nat.le_refl _) (c := 2) (st := [.ref a_0]) (bc := bc) (bs := bs) dX11_power_52 rfl cl_X11_281 wd_913 wd_914 s3 w ?_
      rintro r h6 ⟨x7, rfl, w⟩
      show ex_G mX11_power (d + 1) 55 [.ref a_0, .int v_1] [.int x7, .ref a_0] h6 bc bs Q
      have s8 := w.1
      replace w := w.2
      have s9 := w.1
      replace w := w.2
      refine ex_callV (q := 58) (M := mX11_power) (hdd := Nat.le_refl _) (mc := 0) (ms := 0) (d' := d) (c := 11) (st := []) (bc := bc) (bs := bs) dX11_power_55 rfl cl_X11_131 wd_576 wd_3 s8 (X11_grant_s (Q := fun r z => r = some (.int (X11_grant_V a_0 x7 h6)) ∧ z = X11_grant_H a_0 x7 h6) s9 ⟨rfl, rfl⟩) ?_
      intro r z hrz
      rw [hrz.1, hrz.2]
      show ex_G mX11_power (d + 1) 58 [.ref a_0, .int v_1] [.int (X11_grant_V a_0 x7 h6)] (X11_grant_H a_0 x7 h6) bc bs Q
      refine ex_nmh (fun h10 eh10 => ?_)
      replace w := w h10 eh10
      exact ex_ireturn dX11_power_58 rfl (Or.inl rfl) w
    · replace w := w.2 c5
      refine ex_aload_n (q := 39) (x := a_0) dX11_power_38 rfl ?_
      refine ex_getr (q := 42) dX11_power_39 fl_X11_58 s1 ea2 ?_
      refine ex_callV (q := 45) (M := mX11_power) (hdd := Nat.le_refl _) (c := 2) (st := [.ref a_0]) (bc := bc) (bs := bs) dX11_power_42 rfl cl_X11_278 wd_909 wd_910 s3 w ?_
      rintro r h11 ⟨x12, rfl, w⟩
      show ex_G mX11_power (d + 1) 45 [.ref a_0, .int v_1] [.int x12, .ref a_0] h11 bc bs Q
      refine ex_goto (tgt := 55) dX11_power_45 ?_
      have s13 := w.1
      replace w := w.2
      have s14 := w.1
      replace w := w.2
      refine ex_callV (q := 58) (M := mX11_power) (hdd := Nat.le_refl _) (mc := 0) (ms := 0) (d' := d) (c := 11) (st := []) (bc := bc) (bs := bs) dX11_power_55 rfl cl_X11_131 wd_576 wd_3 s13 (X11_grant_s (Q := fun r z => r = some (.int (X11_grant_V a_0 x12 h11)) ∧ z = X11_grant_H a_0 x12 h11) s14 ⟨rfl, rfl⟩) ?_
      intro r z hrz
      rw [hrz.1, hrz.2]
      show ex_G mX11_power (d + 1) 58 [.ref a_0, .int v_1] [.int (X11_grant_V a_0 x12 h11)] (X11_grant_H a_0 x12 h11) bc bs Q
      refine ex_nmh (fun h15 eh15 => ?_)
      replace w := w h15 eh15
      exact ex_ireturn dX11_power_58 rfl (Or.inl rfl) w
  · replace w := w.2 c4
    refine ex_aload_n (q := 27) (x := a_0) dX11_power_26 rfl ?_
    refine ex_bipush (q := 29) (v := (-15)) dX11_power_27 (by decide) ?_
    refine ex_callV (q := 32) (M := mX11_power) (hdd := Nat.le_refl _) (c := 11) (st := []) (bc := bc) (bs := bs) dX11_power_29 rfl cl_X11_120 wd_557 wd_1 s1 w ?_
    rintro r h16 ⟨x17, rfl, w⟩
    show ex_G mX11_power (d + 1) 32 [.ref a_0, .int v_1] [.int x17] h16 bc bs Q
    exact ex_ireturn dX11_power_32 rfl (Or.inl rfl) w

theorem X11_power_e {d bc bs : Nat} {h : AH} {Q : Option Value → AH → Prop} {a_0 : Nat} {v_1 : Int32} (w : ex_G mX11_power (d + 1) 0 [.ref a_0, .int v_1] [] h bc bs Q) : ex_S yX11_power mX11_power (d + 1) [.ref a_0, .int v_1] h bc bs Q :=
  ex_enter (plainFor_of_name (by decide +kernel)) ⟨rfl, rfl⟩ rfl rfl (Nat.le_of_ble_eq_true rfl) (ex_pad 0 w)

set_option maxRecDepth 100000 in
theorem X11_determinant_0 {d bc bs : Nat} {h : AH} {Q : Option Value → AH → Prop} {a_0 : Nat} {v_1 : Int32} (w : ah_o h a_0 11 ∧ X11_hasPicture_C a_0 v_1 h ∧ (((X11_hasPicture_V a_0 v_1 h) = 0 → ex_G mX11_determinant (d + 18) 20 [.ref a_0, .retAddr 0, .retAddr 0] [.int (-2)] h bc bs Q) ∧ (¬ (X11_hasPicture_V a_0 v_1 h) = 0 → ex_S yX11_whyNoBracket mX11_whyNoBracket (d + 17) [.ref a_0, .int v_1, .int 14] h 0 0 (fun r h4 => ∃ x5, r = some (.int x5) ∧ ex_G mX11_determinant (d + 18) 20 [.ref a_0, .retAddr 0, .retAddr 0] [.int x5] h4 bc bs Q)))) : ex_G mX11_determinant (d + 18) 0 [.ref a_0, .int v_1, .retAddr 0] [] h bc bs Q := by
  refine ex_aload_n (q := 1) (x := a_0) dX11_determinant_0 rfl ?_
  refine ex_iload_n (q := 2) (x := v_1) dX11_determinant_1 rfl ?_
  have s1 := w.1
  replace w := w.2
  have s2 := w.1
  replace w := w.2
  refine ex_callV (q := 5) (M := mX11_determinant) (hdd := Nat.le_refl _) (mc := 0) (ms := 0) (d' := (d + 17)) (c := 11) (st := []) (bc := bc) (bs := bs) dX11_determinant_2 rfl cl_X11_134 wd_584 wd_4 s1 (X11_hasPicture_s (Q := fun r z => r = some (.int (X11_hasPicture_V a_0 v_1 h)) ∧ z = h) s2 ⟨rfl, rfl⟩) ?_
  intro r z hrz
  rw [hrz.1, hrz.2]
  show ex_G mX11_determinant (d + 18) 5 [.ref a_0, .int v_1, .retAddr 0] [.int (X11_hasPicture_V a_0 v_1 h)] (h) bc bs Q
  refine ex_if_eq (tgt := 18) (q := 8) dX11_determinant_5 (fun c3 => ?_) (fun c3 => ?_)
  · replace w := w.1 c3
    refine ex_bipush (q := 20) (v := (-2)) dX11_determinant_18 (by decide) ?_
    refine ex_kill 1 (ls' := [.ref a_0, .retAddr 0, .retAddr 0]) rfl ?_
    exact w
  · replace w := w.2 c3
    refine ex_aload_n (q := 9) (x := a_0) dX11_determinant_8 rfl ?_
    refine ex_iload_n (q := 10) (x := v_1) dX11_determinant_9 rfl ?_
    refine ex_bipush (q := 12) (v := 14) dX11_determinant_10 (by decide) ?_
    refine ex_callV (q := 15) (M := mX11_determinant) (hdd := Nat.le_refl _) (c := 11) (st := []) (bc := bc) (bs := bs) dX11_determinant_12 rfl cl_X11_257 wd_828 wd_20 s1 w ?_
    rintro r h4 ⟨x5, rfl, w⟩
    show ex_G mX11_determinant (d + 18) 15 [.ref a_0, .int v_1, .retAddr 0] [.int x5] h4 bc bs Q
    refine ex_goto (tgt := 20) dX11_determinant_15 ?_
    refine ex_kill 1 (ls' := [.ref a_0, .retAddr 0, .retAddr 0]) rfl ?_
    exact w

set_option maxRecDepth 100000 in
theorem X11_determinant_20 {d bc bs : Nat} {h : AH} {Q : Option Value → AH → Prop} {a_0 : Nat} {u_0 : Int32} (w : ((u_0 = 0 → ah_o h a_0 11 ∧ ∃ a3, ah_r h a_0 7 = some a3 ∧ ∃ a4, ah_r h a_0 4 = some a4 ∧ ∃ a5, ah_r h a_0 9 = some a5 ∧ ah_o h a3 9 ∧ ex_S yX9_makeBracket mX9_makeBracket (d + 17) [.ref a3, .ref a4, .ref a5] h 0 0 (fun r h6 => r = none ∧ ah_o h6 a_0 11 ∧ ∀ h9, h9 = ah_sf h6 a_0 19 0 → ∃ a10, ah_r h9 a_0 9 = some a10 ∧ ah_o h9 a10 2 ∧ ex_S yX2_alternatingSize mX2_alternatingSize (d + 17) [.ref a10] h9 0 0 (fun r h11 => ∃ x13, r = some (.long x13) ∧ Q (some (.long x13)) h11))) ∧ (¬ u_0 = 0 → ah_o h a_0 11 ∧ ex_S yX11_refuse mX11_refuse (d + 17) [.ref a_0, .int u_0] h 0 0 (fun r h14 => ∃ x16, r = some (.int x16) ∧ Q (some (.long (Int32.toInt64 x16))) h14)))) : ex_G mX11_determinant (d + 18) 20 [.ref a_0, .retAddr 0, .retAddr 0] [.int u_0] h bc bs Q := by
  refine ex_istore_n (q := 21) (ls' := [.ref a_0, .retAddr 0, .int u_0]) dX11_determinant_20 rfl ?_
  refine ex_iload_n (q := 22) (x := u_0) dX11_determinant_21 rfl ?_
  refine ex_if_eq (tgt := 32) (q := 25) dX11_determinant_22 (fun c1 => ?_) (fun c1 => ?_)
  · replace w := w.1 c1
    refine ex_aload_n (q := 33) (x := a_0) dX11_determinant_32 rfl ?_
    have s2 := w.1
    replace w := w.2
    obtain ⟨a3, ea3, w⟩ := w
    refine ex_getr (q := 36) dX11_determinant_33 fl_X11_51 s2 ea3 ?_
    refine ex_aload_n (q := 37) (x := a_0) dX11_determinant_36 rfl ?_
    obtain ⟨a4, ea4, w⟩ := w
    refine ex_getr (q := 40) dX11_determinant_37 fl_X11_36 s2 ea4 ?_
    refine ex_aload_n (q := 41) (x := a_0) dX11_determinant_40 rfl ?_
    obtain ⟨a5, ea5, w⟩ := w
    refine ex_getr (q := 44) dX11_determinant_41 fl_X11_62 s2 ea5 ?_
    have s7 := w.1
    replace w := w.2
    refine ex_callV (q := 47) (M := mX11_determinant) (hdd := Nat.le_refl _) (c := 9) (st := []) (bc := bc) (bs := bs) dX11_determinant_44 rfl cl_X11_260 wd_841 wd_842 s7 w ?_
    rintro r h6 ⟨rfl, w⟩
    show ex_G mX11_determinant (d + 18) 47 [.ref a_0, .retAddr 0, .int u_0] [] h6 bc bs Q
    refine ex_aload_n (q := 48) (x := a_0) dX11_determinant_47 rfl ?_
    refine ex_iconst (q := 49) (v := 0) dX11_determinant_48 (by decide) ?_
    have s8 := w.1
    replace w := w.2
    refine ex_putf (q := 52) dX11_determinant_49 fl_X11_110 (Or.inl rfl) s8 (Or.inl rfl) ?_
    refine ex_nmh (fun h9 eh9 => ?_)
    replace w := w h9 eh9
    refine ex_aload_n (q := 53) (x := a_0) dX11_determinant_52 rfl ?_
    obtain ⟨a10, ea10, w⟩ := w
    refine ex_getr (q := 56) dX11_determinant_53 fl_X11_62 (by rw [eh9]; exact s8) ea10 ?_
    have s12 := w.1
    replace w := w.2
    refine ex_callV (q := 59) (M := mX11_determinant) (hdd := Nat.le_refl _) (c := 2) (st := []) (bc := bc) (bs := bs) dX11_determinant_56 rfl cl_X11_284 wd_921 wd_922 s12 w ?_
    rintro r h11 ⟨x13, rfl, w⟩
    show ex_G mX11_determinant (d + 18) 59 [.ref a_0, .retAddr 0, .int u_0] [.long x13] h11 bc bs Q
    exact ex_lreturn dX11_determinant_59 w
  · replace w := w.2 c1
    refine ex_aload_n (q := 26) (x := a_0) dX11_determinant_25 rfl ?_
    refine ex_iload_n (q := 27) (x := u_0) dX11_determinant_26 rfl ?_
    have s15 := w.1
    replace w := w.2
    refine ex_callV (q := 30) (M := mX11_determinant) (hdd := Nat.le_refl _) (c := 11) (st := []) (bc := bc) (bs := bs) dX11_determinant_27 rfl cl_X11_120 wd_557 wd_1 s15 w ?_
    rintro r h14 ⟨x16, rfl, w⟩
    show ex_G mX11_determinant (d + 18) 30 [.ref a_0, .retAddr 0, .int u_0] [.int x16] h14 bc bs Q
    refine ex_i2l (q := 31) dX11_determinant_30 ?_
    exact ex_lreturn dX11_determinant_31 w

theorem X11_determinant_e {d bc bs : Nat} {h : AH} {Q : Option Value → AH → Prop} {a_0 : Nat} {v_1 : Int32} (w : ex_G mX11_determinant (d + 18) 0 [.ref a_0, .int v_1, .retAddr 0] [] h bc bs Q) : ex_S yX11_determinant mX11_determinant (d + 18) [.ref a_0, .int v_1] h bc bs Q :=
  ex_enter (plainFor_of_name (by decide +kernel)) ⟨rfl, rfl⟩ rfl rfl (Nat.le_of_ble_eq_true rfl) (ex_pad 1 w)

set_option maxRecDepth 100000 in
theorem X11_gauss_0 {d bc bs : Nat} {h : AH} {Q : Option Value → AH → Prop} {a_0 : Nat} {v_1 : Int32} (w : ah_o h a_0 11 ∧ X11_hasPicture_C a_0 v_1 h ∧ ((¬ (X11_hasPicture_V a_0 v_1 h) = 0 → ∃ a4, ah_r h a_0 4 = some a4 ∧ ex_S yX11_isWhole mX11_isWhole (d + 4) [.ref a_0, .int v_1, .ref a4] h 0 0 (fun r h5 => ∃ x6, r = some (.int x6) ∧ ((¬ x6 = 0 → ah_o h5 a_0 11 ∧ ∃ a9, ah_r h5 a_0 4 = some a9 ∧ ∃ a10, ah_r h5 a_0 2 = some a10 ∧ ah_o h5 a9 4 ∧ ex_S yX4_spell mX4_spell (d + 4) [.ref a9, .ref a10] h5 0 0 (fun r h11 => r = none ∧ ah_o h11 a_0 11 ∧ ∃ a14, ah_r h11 a_0 2 = some a14 ∧ ah_o h11 a14 6 ∧ X11_grant_C a_0 (ah_f h11 a14 1) h11 ∧ ∀ h17, h17 = X11_grant_H a_0 (ah_f h11 a14 1) h11 → Q (some (.int (X11_grant_V a_0 (ah_f h11 a14 1) h11))) h17)) ∧ (x6 = 0 → ah_o h5 a_0 11 ∧ ex_S yX11_refuse mX11_refuse (d + 4) [.ref a_0, .int (-13)] h5 0 0 (fun r h18 => ∃ x20, r = some (.int x20) ∧ Q (some (.int x20)) h18))))) ∧ ((X11_hasPicture_V a_0 v_1 h) = 0 → ex_S yX11_refuse mX11_refuse (d + 4) [.ref a_0, .int (-2)] h 0 0 (fun r h21 => ∃ x22, r = some (.int x22) ∧ Q (some (.int x22)) h21)))) : ex_G mX11_gauss (d + 5) 0 [.ref a_0, .int v_1] [] h bc bs Q := by
  refine ex_aload_n (q := 1) (x := a_0) dX11_gauss_0 rfl ?_
  refine ex_iload_n (q := 2) (x := v_1) dX11_gauss_1 rfl ?_
  have s1 := w.1
  replace w := w.2
  have s2 := w.1
  replace w := w.2
  refine ex_callV (q := 5) (M := mX11_gauss) (hdd := Nat.le_refl _) (mc := 0) (ms := 0) (d' := (d + 4)) (c := 11) (st := []) (bc := bc) (bs := bs) dX11_gauss_2 rfl cl_X11_134 wd_584 wd_4 s1 (X11_hasPicture_s (Q := fun r z => r = some (.int (X11_hasPicture_V a_0 v_1 h)) ∧ z = h) s2 ⟨rfl, rfl⟩) ?_
  intro r z hrz
  rw [hrz.1, hrz.2]
  show ex_G mX11_gauss (d + 5) 5 [.ref a_0, .int v_1] [.int (X11_hasPicture_V a_0 v_1 h)] (h) bc bs Q
  refine ex_if_ne (tgt := 15) (q := 8) dX11_gauss_5 (fun c3 => ?_) (fun c3 => ?_)
  · replace w := w.1 c3
    refine ex_aload_n (q := 16) (x := a_0) dX11_gauss_15 rfl ?_
    refine ex_iload_n (q := 17) (x := v_1) dX11_gauss_16 rfl ?_
    refine ex_aload_n (q := 18) (x := a_0) dX11_gauss_17 rfl ?_
    obtain ⟨a4, ea4, w⟩ := w
    refine ex_getr (q := 21) dX11_gauss_18 fl_X11_36 s1 ea4 ?_
    refine ex_callV (q := 24) (M := mX11_gauss) (hdd := Nat.le_refl _) (c := 11) (st := []) (bc := bc) (bs := bs) dX11_gauss_21 rfl cl_X11_184 wd_695 wd_13 s1 w ?_
    rintro r h5 ⟨x6, rfl, w⟩
    show ex_G mX11_gauss (d + 5) 24 [.ref a_0, .int v_1] [.int x6] h5 bc bs Q
    refine ex_if_ne (tgt := 34) (q := 27) dX11_gauss_24 (fun c7 => ?_) (fun c7 => ?_)
    · replace w := w.1 c7
      refine ex_aload_n (q := 35) (x := a_0) dX11_gauss_34 rfl ?_
      have s8 := w.1
      replace w := w.2
      obtain ⟨a9, ea9, w⟩ := w
      refine ex_getr (q := 38) dX11_gauss_35 fl_X11_36 s8 ea9 ?_
      refine ex_aload_n (q := 39) (x := a_0) dX11_gauss_38 rfl ?_
      obtain ⟨a10, ea10, w⟩ := w
      refine ex_getr (q := 42) dX11_gauss_39 fl_X11_26 s8 ea10 ?_
      have s12 := w.1
      replace w := w.2
      refine ex_callV (q := 45) (M := mX11_gauss) (hdd := Nat.le_refl _) (c := 4) (st := []) (bc := bc) (bs := bs) dX11_gauss_42 rfl cl_X11_288 wd_933 wd_934 s12 w ?_
      rintro r h11 ⟨rfl, w⟩
      show ex_G mX11_gauss (d + 5) 45 [.ref a_0, .int v_1] [] h11 bc bs Q
      refine ex_aload_n (q := 46) (x := a_0) dX11_gauss_45 rfl ?_
      refine ex_aload_n (q := 47) (x := a_0) dX11_gauss_46 rfl ?_
      have s13 := w.1
      replace w := w.2
      obtain ⟨a14, ea14, w⟩ := w
      refine ex_getr (q := 50) dX11_gauss_47 fl_X11_26 s13 ea14 ?_
      have s15 := w.1
      replace w := w.2
      refine ex_getf (q := 53) dX11_gauss_50 fl_X11_292 s15 ?_
      have s16 := w.1
      replace w := w.2
      refine ex_callV (q := 56) (M := mX11_gauss) (hdd := Nat.le_refl _) (mc := 0) (ms := 0) (d' := (d + 4)) (c := 11) (st := []) (bc := bc) (bs := bs) dX11_gauss_53 rfl cl_X11_131 wd_576 wd_3 s13 (X11_grant_s (Q := fun r z => r = some (.int (X11_grant_V a_0 (ah_f h11 a14 1) h11)) ∧ z = X11_grant_H a_0 (ah_f h11 a14 1) h11) s16 ⟨rfl, rfl⟩) ?_
      intro r z hrz
      rw [hrz.1, hrz.2]
      show ex_G mX11_gauss (d + 5) 56 [.ref a_0, .int v_1] [.int (X11_grant_V a_0 (ah_f h11 a14 1) h11)] (X11_grant_H a_0 (ah_f h11 a14 1) h11) bc bs Q
      refine ex_nmh (fun h17 eh17 => ?_)
      replace w := w h17 eh17
      exact ex_ireturn dX11_gauss_56 rfl (Or.inl rfl) w
    · replace w := w.2 c7
      refine ex_aload_n (q := 28) (x := a_0) dX11_gauss_27 rfl ?_
      refine ex_bipush (q := 30) (v := (-13)) dX11_gauss_28 (by decide) ?_
      have s19 := w.1
      replace w := w.2
      refine ex_callV (q := 33) (M := mX11_gauss) (hdd := Nat.le_refl _) (c := 11) (st := []) (bc := bc) (bs := bs) dX11_gauss_30 rfl cl_X11_120 wd_557 wd_1 s19 w ?_
      rintro r h18 ⟨x20, rfl, w⟩
      show ex_G mX11_gauss (d + 5) 33 [.ref a_0, .int v_1] [.int x20] h18 bc bs Q
      exact ex_ireturn dX11_gauss_33 rfl (Or.inl rfl) w
  · replace w := w.2 c3
    refine ex_aload_n (q := 9) (x := a_0) dX11_gauss_8 rfl ?_
    refine ex_bipush (q := 11) (v := (-2)) dX11_gauss_9 (by decide) ?_
    refine ex_callV (q := 14) (M := mX11_gauss) (hdd := Nat.le_refl _) (c := 11) (st := []) (bc := bc) (bs := bs) dX11_gauss_11 rfl cl_X11_120 wd_557 wd_1 s1 w ?_
    rintro r h21 ⟨x22, rfl, w⟩
    show ex_G mX11_gauss (d + 5) 14 [.ref a_0, .int v_1] [.int x22] h21 bc bs Q
    exact ex_ireturn dX11_gauss_14 rfl (Or.inl rfl) w

theorem X11_gauss_e {d bc bs : Nat} {h : AH} {Q : Option Value → AH → Prop} {a_0 : Nat} {v_1 : Int32} (w : ex_G mX11_gauss (d + 5) 0 [.ref a_0, .int v_1] [] h bc bs Q) : ex_S yX11_gauss mX11_gauss (d + 5) [.ref a_0, .int v_1] h bc bs Q :=
  ex_enter (plainFor_of_name (by decide +kernel)) ⟨rfl, rfl⟩ rfl rfl (Nat.le_of_ble_eq_true rfl) (ex_pad 0 w)

set_option maxRecDepth 100000 in
theorem X11_type_0 {d bc bs : Nat} {h : AH} {Q : Option Value → AH → Prop} {a_0 : Nat} {v_1 : Int32} (w : ah_o h a_0 11 ∧ ∃ a2, ah_r h a_0 2 = some a2 ∧ ah_o h a2 6 ∧ ex_S yX6_add mX6_add d [.ref a2, .int v_1] h 0 0 (fun r h3 => ∃ x5, r = some (.int x5) ∧ ((x5 = 0 → ah_o h3 a_0 11 ∧ ex_S yX11_refuse mX11_refuse d [.ref a_0, .int (-3)] h3 0 0 (fun r h7 => ∃ x9, r = some (.int x9) ∧ Q (some (.int x9)) h7)) ∧ (¬ x5 = 0 → ah_o h3 a_0 11 ∧ ∃ a11, ah_r h3 a_0 2 = some a11 ∧ ah_o h3 a11 6 ∧ X11_grant_C a_0 (ah_f h3 a11 1) h3 ∧ ∀ h14, h14 = X11_grant_H a_0 (ah_f h3 a11 1) h3 → Q (some (.int (X11_grant_V a_0 (ah_f h3 a11 1) h3))) h14)))) : ex_G mX11_type (d + 1) 0 [.ref a_0, .int v_1] [] h bc bs Q := by
  refine ex_aload_n (q := 1) (x := a_0) dX11_type_0 rfl ?_
  have s1 := w.1
  replace w := w.2
  obtain ⟨a2, ea2, w⟩ := w
  refine ex_getr (q := 4) dX11_type_1 fl_X11_26 s1 ea2 ?_
  refine ex_iload_n (q := 5) (x := v_1) dX11_type_4 rfl ?_
  have s4 := w.1
  replace w := w.2
  refine ex_callV (q := 8) (M := mX11_type) (hdd := Nat.le_refl _) (c := 6) (st := []) (bc := bc) (bs := bs) dX11_type_5 rfl cl_X11_295 wd_941 wd_942 s4 w ?_
  rintro r h3 ⟨x5, rfl, w⟩
  show ex_G mX11_type (d + 1) 8 [.ref a_0, .int v_1] [.int x5] h3 bc bs Q
  refine ex_if_eq (tgt := 25) (q := 11) dX11_type_8 (fun c6 => ?_) (fun c6 => ?_)
  · replace w := w.1 c6
    refine ex_aload_n (q := 26) (x := a_0) dX11_type_25 rfl ?_
    refine ex_bipush (q := 28) (v := (-3)) dX11_type_26 (by decide) ?_
    have s8 := w.1
    replace w := w.2
    refine ex_callV (q := 31) (M := mX11_type) (hdd := Nat.le_refl _) (c := 11) (st := []) (bc := bc) (bs := bs) dX11_type_28 rfl cl_X11_120 wd_557 wd_1 s8 w ?_
    rintro r h7 ⟨x9, rfl, w⟩
    show ex_G mX11_type (d + 1) 31 [.ref a_0, .int v_1] [.int x9] h7 bc bs Q
    exact ex_ireturn dX11_type_31 rfl (Or.inl rfl) w
  · replace w := w.2 c6
    refine ex_aload_n (q := 12) (x := a_0) dX11_type_11 rfl ?_
    refine ex_aload_n (q := 13) (x := a_0) dX11_type_12 rfl ?_
    have s10 := w.1
    replace w := w.2
    obtain ⟨a11, ea11, w⟩ := w
    refine ex_getr (q := 16) dX11_type_13 fl_X11_26 s10 ea11 ?_
    have s12 := w.1
    replace w := w.2
    refine ex_getf (q := 19) dX11_type_16 fl_X11_292 s12 ?_
    have s13 := w.1
    replace w := w.2
    refine ex_callV (q := 22) (M := mX11_type) (hdd := Nat.le_refl _) (mc := 0) (ms := 0) (d' := d) (c := 11) (st := []) (bc := bc) (bs := bs) dX11_type_19 rfl cl_X11_131 wd_576 wd_3 s10 (X11_grant_s (Q := fun r z => r = some (.int (X11_grant_V a_0 (ah_f h3 a11 1) h3)) ∧ z = X11_grant_H a_0 (ah_f h3 a11 1) h3) s13 ⟨rfl, rfl⟩) ?_
    intro r z hrz
    rw [hrz.1, hrz.2]
    show ex_G mX11_type (d + 1) 22 [.ref a_0, .int v_1] [.int (X11_grant_V a_0 (ah_f h3 a11 1) h3)] (X11_grant_H a_0 (ah_f h3 a11 1) h3) bc bs Q
    refine ex_nmh (fun h14 eh14 => ?_)
    replace w := w h14 eh14
    refine ex_goto (tgt := 31) dX11_type_22 ?_
    exact ex_ireturn dX11_type_31 rfl (Or.inl rfl) w

theorem X11_type_e {d bc bs : Nat} {h : AH} {Q : Option Value → AH → Prop} {a_0 : Nat} {v_1 : Int32} (w : ex_G mX11_type (d + 1) 0 [.ref a_0, .int v_1] [] h bc bs Q) : ex_S yX11_type mX11_type (d + 1) [.ref a_0, .int v_1] h bc bs Q :=
  ex_enter (plainFor_of_name (by decide +kernel)) ⟨rfl, rfl⟩ rfl rfl (Nat.le_of_ble_eq_true rfl) (ex_pad 0 w)

set_option maxRecDepth 100000 in
theorem X11_ofGauss_0 {d bc bs : Nat} {h : AH} {Q : Option Value → AH → Prop} {a_0 : Nat} (w : ah_o h a_0 11 ∧ X11_isFull_C a_0 h ∧ (((X11_isFull_V a_0 h) = 0 → ∃ a4, ah_r h a_0 6 = some a4 ∧ ∃ a5, ah_r h a_0 2 = some a5 ∧ ah_o h a4 7 ∧ ex_S yX7_draw mX7_draw (d + 3) [.ref a4, .ref a5] h 0 0 (fun r h6 => ∃ x8, r = some (.int x8) ∧ ((¬ x8 = 0 → ah_o h6 a_0 11 ∧ ∃ a11, ah_r h6 a_0 4 = some a11 ∧ ∃ a12, ah_r h6 a_0 6 = some a12 ∧ ah_o h6 a11 4 ∧ ex_S yX4_survey mX4_survey (d + 3) [.ref a11, .ref a12] h6 0 0 (fun r h13 => r = none ∧ ah_o h13 a_0 11 ∧ ∃ a16, ah_r h13 a_0 4 = some a16 ∧ ah_o h13 a16 4 ∧ ((¬ (ah_f h13 a16 16) = 0 → ex_S yX11_refuse mX11_refuse (d + 3) [.ref a_0, .int (-15)] h13 0 0 (fun r h19 => ∃ x20, r = some (.int x20) ∧ Q (some (.int x20)) h19)) ∧ ((ah_f h13 a16 16) = 0 → ∃ a21, ah_r h13 a_0 6 = some a21 ∧ ex_S yX11_addLike mX11_addLike (d + 3) [.ref a_0, .ref a21] h13 3 207 (fun r h22 => ∃ x23, r = some (.int x23) ∧ ah_o h22 a_0 11 ∧ X11_grant_C a_0 x23 h22 ∧ ∀ h26, h26 = X11_grant_H a_0 x23 h22 → Q (some (.int (X11_grant_V a_0 x23 h22))) h26))))) ∧ (x8 = 0 → ah_o h6 a_0 11 ∧ ex_S yX11_refuse mX11_refuse (d + 3) [.ref a_0, .int (-15)] h6 0 0 (fun r h27 => ∃ x29, r = some (.int x29) ∧ Q (some (.int x29)) h27))))) ∧ (¬ (X11_isFull_V a_0 h) = 0 → ex_S yX11_refuse mX11_refuse (d + 3) [.ref a_0, .int (-3)] h 0 0 (fun r h30 => ∃ x31, r = some (.int x31) ∧ Q (some (.int x31)) h30)))) : ex_G mX11_ofGauss (d + 4) 0 [.ref a_0] [] h (bc + 3) (bs + 207) Q := by
  refine ex_aload_n (q := 1) (x := a_0) dX11_ofGauss_0 rfl ?_
  have s1 := w.1
  replace w := w.2
  have s2 := w.1
  replace w := w.2
  refine ex_callV (q := 4) (M := mX11_ofGauss) (hdd := Nat.le_refl _) (mc := 0) (ms := 0) (d' := (d + 3)) (c := 11) (st := []) (bc := (bc + 3)) (bs := (bs + 207)) dX11_ofGauss_1 rfl cl_X11_116 wd_553 wd_0 s1 (X11_isFull_s (Q := fun r z => r = some (.int (X11_isFull_V a_0 h)) ∧ z = h) s2 ⟨rfl, rfl⟩) ?_
  intro r z hrz
  rw [hrz.1, hrz.2]
  show ex_G mX11_ofGauss (d + 4) 4 [.ref a_0] [.int (X11_isFull_V a_0 h)] (h) (bc + 3) (bs + 207) Q
  refine ex_if_eq (tgt := 14) (q := 7) dX11_ofGauss_4 (fun c3 => ?_) (fun c3 => ?_)
  · replace w := w.1 c3
    refine ex_aload_n (q := 15) (x := a_0) dX11_ofGauss_14 rfl ?_
    obtain ⟨a4, ea4, w⟩ := w
    refine ex_getr (q := 18) dX11_ofGauss_15 fl_X11_44 s1 ea4 ?_
    refine ex_aload_n (q := 19) (x := a_0) dX11_ofGauss_18 rfl ?_
    obtain ⟨a5, ea5, w⟩ := w
    refine ex_getr (q := 22) dX11_ofGauss_19 fl_X11_26 s1 ea5 ?_
    have s7 := w.1
    replace w := w.2
    refine ex_callV (q := 25) (M := mX11_ofGauss) (hdd := Nat.le_refl _) (c := 7) (st := []) (bc := (bc + 3)) (bs := (bs + 207)) dX11_ofGauss_22 rfl cl_X11_304 wd_967 wd_968 s7 w ?_
    rintro r h6 ⟨x8, rfl, w⟩
    show ex_G mX11_ofGauss (d + 4) 25 [.ref a_0] [.int x8] h6 (bc + 3) (bs + 207) Q
    refine ex_if_ne (tgt := 35) (q := 28) dX11_ofGauss_25 (fun c9 => ?_) (fun c9 => ?_)
    · replace w := w.1 c9
      refine ex_aload_n (q := 36) (x := a_0) dX11_ofGauss_35 rfl ?_
      have s10 := w.1
      replace w := w.2
      obtain ⟨a11, ea11, w⟩ := w
      refine ex_getr (q := 39) dX11_ofGauss_36 fl_X11_36 s10 ea11 ?_
      refine ex_aload_n (q := 40) (x := a_0) dX11_ofGauss_39 rfl ?_
      obtain ⟨a12, ea12, w⟩ := w
      refine ex_getr (q := 43) dX11_ofGauss_40 fl_X11_44 s10 ea12 ?_
      have s14 := w.1
      replace w := w.2
      refine ex_callV (q := 46) (M := mX11_ofGauss) (hdd := Nat.le_refl _) (c := 4) (st := []) (bc := (bc + 3)) (bs := (bs + 207)) dX11_ofGauss_43 rfl cl_X11_103 wd_638 wd_639 s14 w ?_
      rintro r h13 ⟨rfl, w⟩
      show ex_G mX11_ofGauss (d + 4) 46 [.ref a_0] [] h13 (bc + 3) (bs + 207) Q
      refine ex_aload_n (q := 47) (x := a_0) dX11_ofGauss_46 rfl ?_
      have s15 := w.1
      replace w := w.2
      obtain ⟨a16, ea16, w⟩ := w
      refine ex_getr (q := 50) dX11_ofGauss_47 fl_X11_36 s15 ea16 ?_
      have s17 := w.1
      replace w := w.2
      refine ex_getf (q := 53) dX11_ofGauss_50 fl_X11_107 s17 ?_
      refine ex_if_ne (tgt := 71) (q := 56) dX11_ofGauss_53 (fun c18 => ?_) (fun c18 => ?_)
      · replace w := w.1 c18
        refine ex_aload_n (q := 72) (x := a_0) dX11_ofGauss_71 rfl ?_
        refine ex_bipush (q := 74) (v := (-15)) dX11_ofGauss_72 (by decide) ?_
        refine ex_callV (q := 77) (M := mX11_ofGauss) (hdd := Nat.le_refl _) (c := 11) (st := []) (bc := (bc + 3)) (bs := (bs + 207)) dX11_ofGauss_74 rfl cl_X11_120 wd_557 wd_1 s15 w ?_
        rintro r h19 ⟨x20, rfl, w⟩
        show ex_G mX11_ofGauss (d + 4) 77 [.ref a_0] [.int x20] h19 (bc + 3) (bs + 207) Q
        exact ex_ireturn dX11_ofGauss_77 rfl (Or.inl rfl) w
      · replace w := w.2 c18
        refine ex_aload_n (q := 57) (x := a_0) dX11_ofGauss_56 rfl ?_
        refine ex_aload_n (q := 58) (x := a_0) dX11_ofGauss_57 rfl ?_
        refine ex_aload_n (q := 59) (x := a_0) dX11_ofGauss_58 rfl ?_
        obtain ⟨a21, ea21, w⟩ := w
        refine ex_getr (q := 62) dX11_ofGauss_59 fl_X11_44 s15 ea21 ?_
        refine ex_G.room (bc' := bc + 3) (bs' := bs + 207) (Nat.le_refl _) (Nat.le_refl _) (Nat.le_refl _) ?_
        refine ex_callV (q := 65) (M := mX11_ofGauss) (hdd := Nat.le_refl _) (c := 11) (st := [.ref a_0]) (bc := bc) (bs := bs) dX11_ofGauss_62 rfl cl_X11_127 wd_565 wd_2 s15 w ?_
        rintro r h22 ⟨x23, rfl, w⟩
        show ex_G mX11_ofGauss (d + 4) 65 [.ref a_0] [.int x23, .ref a_0] h22 bc bs Q
        have s24 := w.1
        replace w := w.2
        have s25 := w.1
        replace w := w.2
        refine ex_callV (q := 68) (M := mX11_ofGauss) (hdd := Nat.le_refl _) (mc := 0) (ms := 0) (d' := (d + 3)) (c := 11) (st := []) (bc := bc) (bs := bs) dX11_ofGauss_65 rfl cl_X11_131 wd_576 wd_3 s24 (X11_grant_s (Q := fun r z => r = some (.int (X11_grant_V a_0 x23 h22)) ∧ z = X11_grant_H a_0 x23 h22) s25 ⟨rfl, rfl⟩) ?_
        intro r z hrz
        rw [hrz.1, hrz.2]
        show ex_G mX11_ofGauss (d + 4) 68 [.ref a_0] [.int (X11_grant_V a_0 x23 h22)] (X11_grant_H a_0 x23 h22) bc bs Q
        refine ex_nmh (fun h26 eh26 => ?_)
        replace w := w h26 eh26
        refine ex_goto (tgt := 77) dX11_ofGauss_68 ?_
        exact ex_ireturn dX11_ofGauss_77 rfl (Or.inl rfl) w
    · replace w := w.2 c9
      refine ex_aload_n (q := 29) (x := a_0) dX11_ofGauss_28 rfl ?_
      refine ex_bipush (q := 31) (v := (-15)) dX11_ofGauss_29 (by decide) ?_
      have s28 := w.1
      replace w := w.2
      refine ex_callV (q := 34) (M := mX11_ofGauss) (hdd := Nat.le_refl _) (c := 11) (st := []) (bc := (bc + 3)) (bs := (bs + 207)) dX11_ofGauss_31 rfl cl_X11_120 wd_557 wd_1 s28 w ?_
      rintro r h27 ⟨x29, rfl, w⟩
      show ex_G mX11_ofGauss (d + 4) 34 [.ref a_0] [.int x29] h27 (bc + 3) (bs + 207) Q
      exact ex_ireturn dX11_ofGauss_34 rfl (Or.inl rfl) w
  · replace w := w.2 c3
    refine ex_aload_n (q := 8) (x := a_0) dX11_ofGauss_7 rfl ?_
    refine ex_bipush (q := 10) (v := (-3)) dX11_ofGauss_8 (by decide) ?_
    refine ex_callV (q := 13) (M := mX11_ofGauss) (hdd := Nat.le_refl _) (c := 11) (st := []) (bc := (bc + 3)) (bs := (bs + 207)) dX11_ofGauss_10 rfl cl_X11_120 wd_557 wd_1 s1 w ?_
    rintro r h30 ⟨x31, rfl, w⟩
    show ex_G mX11_ofGauss (d + 4) 13 [.ref a_0] [.int x31] h30 (bc + 3) (bs + 207) Q
    exact ex_ireturn dX11_ofGauss_13 rfl (Or.inl rfl) w

theorem X11_ofGauss_e {d bc bs : Nat} {h : AH} {Q : Option Value → AH → Prop} {a_0 : Nat} (w : ex_G mX11_ofGauss (d + 4) 0 [.ref a_0] [] h bc bs Q) : ex_S yX11_ofGauss mX11_ofGauss (d + 4) [.ref a_0] h bc bs Q :=
  ex_enter (plainFor_of_name (by decide +kernel)) ⟨rfl, rfl⟩ rfl rfl (Nat.le_of_ble_eq_true rfl) (ex_pad 0 w)

set_option maxRecDepth 100000 in
theorem X11_move_0 {d bc bs : Nat} {h : AH} {Q : Option Value → AH → Prop} {a_0 : Nat} {v_1 : Int32} {v_2 : Int32} {v_3 : Int32} {v_4 : Int32} (w : ((¬ (X11_isKind_V v_1 h) = 0 → ah_o h a_0 11 ∧ (((ah_f h a_0 16) < 60 → ∃ a4, ah_r h a_0 1 = some a4 ∧ ah_n h < 10000000 ∧ ∀ h6, h6 = ah_no h 5 → ex_S yX5_init mX5_init (d + 1) [.ref (ah_n h), .int v_1, .int v_2, .int v_3, .int v_4] h6 0 0 (fun r h7 => r = none ∧ ld3 h7 9 a4 (ah_f h a_0 16) ∧ ah_o h7 (ah_n h) 5 ∧ ∀ h8, h8 = ah_sq h7 a4 (Int32.toNatClampNeg (ah_f h a_0 16)) (some (ah_n h)) → ah_o h8 a_0 11 ∧ ∀ h12, h12 = ah_sf h8 a_0 16 ((ah_f h8 a_0 16) + 1) → X11_grant_C a_0 ((ah_f h12 a_0 16) - 1) h12 ∧ ∀ h14, h14 = X11_grant_H a_0 ((ah_f h12 a_0 16) - 1) h12 → Q (some (.int (X11_grant_V a_0 ((ah_f h12 a_0 16) - 1) h12))) h14)) ∧ (¬ (ah_f h a_0 16) < 60 → ex_S yX11_refuse mX11_refuse (d + 1) [.ref a_0, .int (-3)] h 0 0 (fun r h15 => ∃ x16, r = some (.int x16) ∧ Q (some (.int x16)) h15)))) ∧ ((X11_isKind_V v_1 h) = 0 → ah_o h a_0 11 ∧ ex_S yX11_refuse mX11_refuse (d + 1) [.ref a_0, .int (-2)] h 0 0 (fun r h17 => ∃ x19, r = some (.int x19) ∧ Q (some (.int x19)) h17)))) : ex_G mX11_move (d + 2) 0 [.ref a_0, .int v_1, .int v_2, .int v_3, .int v_4] [] h (bc + 1) (bs + 4) Q := by
  refine ex_iload_n (q := 1) (x := v_1) dX11_move_0 rfl ?_
  refine ex_callS (q := 4) (M := mX11_move) (hdd := Nat.le_refl _) (mc := 0) (ms := 0) (d' := (d + 1)) (st := []) (bc := (bc + 1)) (bs := (bs + 4)) dX11_move_1 rfl cl_X11_308 wd_995 (X11_isKind_s (Q := fun r z => r = some (.int (X11_isKind_V v_1 h)) ∧ z = h) ⟨rfl, rfl⟩) ?_
  intro r z hrz
  rw [hrz.1, hrz.2]
  show ex_G mX11_move (d + 2) 4 [.ref a_0, .int v_1, .int v_2, .int v_3, .int v_4] [.int (X11_isKind_V v_1 h)] (h) (bc + 1) (bs + 4) Q
  refine ex_if_ne (tgt := 14) (q := 7) dX11_move_4 (fun c1 => ?_) (fun c1 => ?_)
  · replace w := w.1 c1
    refine ex_aload_n (q := 15) (x := a_0) dX11_move_14 rfl ?_
    have s2 := w.1
    replace w := w.2
    refine ex_getf (q := 18) dX11_move_15 fl_X11_100 s2 ?_
    refine ex_bipush (q := 20) (v := 60) dX11_move_18 (by decide) ?_
    refine ex_icmp_lt (tgt := 30) (q := 23) dX11_move_20 (fun c3 => ?_) (fun c3 => ?_)
    · replace w := w.1 c3
      refine ex_aload_n (q := 31) (x := a_0) dX11_move_30 rfl ?_
      obtain ⟨a4, ea4, w⟩ := w
      refine ex_getr (q := 34) dX11_move_31 fl_X11_17 s2 ea4 ?_
      refine ex_aload_n (q := 35) (x := a_0) dX11_move_34 rfl ?_
      refine ex_getf (q := 38) dX11_move_35 fl_X11_100 s2 ?_
      have s5 := w.1
      replace w := w.2
      refine ex_G.room (bc' := bc + 1) (bs' := bs + 4) (Nat.le_refl _) (Nat.le_refl _) (Nat.le_refl _) ?_
      refine ex_new (q := 41) (c := 5) (M := mX11_move) dX11_move_38 wd_139 wd_997 wd_128 s5 ?_
      refine ex_nmh (fun h6 eh6 => ?_)
      replace w := w h6 eh6
      refine ex_dup (q := 42) dX11_move_41 rfl ?_
      refine ex_iload_n (q := 43) (x := v_1) dX11_move_42 rfl ?_
      refine ex_iload_n (q := 44) (x := v_2) dX11_move_43 rfl ?_
      refine ex_iload_n (q := 45) (x := v_3) dX11_move_44 rfl ?_
      refine ex_iload (q := 47) (x := v_4) dX11_move_45 rfl ?_
      refine ex_callI (q := 50) (M := mX11_move) (hdd := Nat.le_refl _) (st := [.ref (ah_n h), .int (ah_f h a_0 16), .ref a4]) (bc := bc) (bs := bs) dX11_move_47 rfl cl_X11_311 wd_999 rfl rfl w ?_
      rintro r h7 ⟨rfl, w⟩
      show ex_G mX11_move (d + 2) 50 [.ref a_0, .int v_1, .int v_2, .int v_3, .int v_4] [.ref (ah_n h), .int (ah_f h a_0 16), .ref a4] h7 bc bs Q
      have s9 := w.1
      replace w := w.2
      have s10 := w.1
      replace w := w.2
      refine ex_aast (q := 51) (c := 5) dX11_move_50 s9 s10 ?_
      refine ex_nmh (fun h8 eh8 => ?_)
      replace w := w h8 eh8
      refine ex_aload_n (q := 52) (x := a_0) dX11_move_51 rfl ?_
      refine ex_dup (q := 53) dX11_move_52 rfl ?_
      have s11 := w.1
      replace w := w.2
      refine ex_getf (q := 56) dX11_move_53 fl_X11_100 s11 ?_
      refine ex_iconst (q := 57) (v := 1) dX11_move_56 (by decide) ?_
      refine ex_iadd (q := 58) dX11_move_57 ?_
      refine ex_putf (q := 61) dX11_move_58 fl_X11_100 (Or.inl rfl) s11 (Or.inl rfl) ?_
      refine ex_nmh (fun h12 eh12 => ?_)
      replace w := w h12 eh12
      refine ex_aload_n (q := 62) (x := a_0) dX11_move_61 rfl ?_
      refine ex_aload_n (q := 63) (x := a_0) dX11_move_62 rfl ?_
      refine ex_getf (q := 66) dX11_move_63 fl_X11_100 (by rw [eh12]; exact s11) ?_
      refine ex_iconst (q := 67) (v := 1) dX11_move_66 (by decide) ?_
      refine ex_isub (q := 68) dX11_move_67 ?_
      have s13 := w.1
      replace w := w.2
      refine ex_callV (q := 71) (M := mX11_move) (hdd := Nat.le_refl _) (mc := 0) (ms := 0) (d' := (d + 1)) (c := 11) (st := []) (bc := bc) (bs := bs) dX11_move_68 rfl cl_X11_131 wd_576 wd_3 (by rw [eh12]; exact s11) (X11_grant_s (Q := fun r z => r = some (.int (X11_grant_V a_0 ((ah_f h12 a_0 16) - 1) h12)) ∧ z = X11_grant_H a_0 ((ah_f h12 a_0 16) - 1) h12) s13 ⟨rfl, rfl⟩) ?_
      intro r z hrz
      rw [hrz.1, hrz.2]
      show ex_G mX11_move (d + 2) 71 [.ref a_0, .int v_1, .int v_2, .int v_3, .int v_4] [.int (X11_grant_V a_0 ((ah_f h12 a_0 16) - 1) h12)] (X11_grant_H a_0 ((ah_f h12 a_0 16) - 1) h12) bc bs Q
      refine ex_nmh (fun h14 eh14 => ?_)
      replace w := w h14 eh14
      exact ex_ireturn dX11_move_71 rfl (Or.inl rfl) w
    · replace w := w.2 c3
      refine ex_aload_n (q := 24) (x := a_0) dX11_move_23 rfl ?_
      refine ex_bipush (q := 26) (v := (-3)) dX11_move_24 (by decide) ?_
      refine ex_callV (q := 29) (M := mX11_move) (hdd := Nat.le_refl _) (c := 11) (st := []) (bc := (bc + 1)) (bs := (bs + 4)) dX11_move_26 rfl cl_X11_120 wd_557 wd_1 s2 w ?_
      rintro r h15 ⟨x16, rfl, w⟩
      show ex_G mX11_move (d + 2) 29 [.ref a_0, .int v_1, .int v_2, .int v_3, .int v_4] [.int x16] h15 (bc + 1) (bs + 4) Q
      exact ex_ireturn dX11_move_29 rfl (Or.inl rfl) w
  · replace w := w.2 c1
    refine ex_aload_n (q := 8) (x := a_0) dX11_move_7 rfl ?_
    refine ex_bipush (q := 10) (v := (-2)) dX11_move_8 (by decide) ?_
    have s18 := w.1
    replace w := w.2
    refine ex_callV (q := 13) (M := mX11_move) (hdd := Nat.le_refl _) (c := 11) (st := []) (bc := (bc + 1)) (bs := (bs + 4)) dX11_move_10 rfl cl_X11_120 wd_557 wd_1 s18 w ?_
    rintro r h17 ⟨x19, rfl, w⟩
    show ex_G mX11_move (d + 2) 13 [.ref a_0, .int v_1, .int v_2, .int v_3, .int v_4] [.int x19] h17 (bc + 1) (bs + 4) Q
    exact ex_ireturn dX11_move_13 rfl (Or.inl rfl) w

theorem X11_move_e {d bc bs : Nat} {h : AH} {Q : Option Value → AH → Prop} {a_0 : Nat} {v_1 : Int32} {v_2 : Int32} {v_3 : Int32} {v_4 : Int32} (w : ex_G mX11_move (d + 2) 0 [.ref a_0, .int v_1, .int v_2, .int v_3, .int v_4] [] h bc bs Q) : ex_S yX11_move mX11_move (d + 2) [.ref a_0, .int v_1, .int v_2, .int v_3, .int v_4] h bc bs Q :=
  ex_enter (plainFor_of_name (by decide +kernel)) ⟨rfl, rfl⟩ rfl rfl (Nat.le_of_ble_eq_true rfl) (ex_pad 0 w)

set_option maxRecDepth 100000 in
theorem X11_tells_0 {d bc bs : Nat} {h : AH} {Q : Option Value → AH → Prop} {a_0 : Nat} {v_1 : Int32} {v_2 : Int32} (w : ah_o h a_0 11 ∧ X11_hasMove_C a_0 v_1 h ∧ (((X11_hasMove_V a_0 v_1 h) = 0 → ex_S yX11_refuse mX11_refuse (d + 2) [.ref a_0, .int (-2)] h 0 0 (fun r h4 => ∃ x5, r = some (.int x5) ∧ Q (some (.int x5)) h4)) ∧ (¬ (X11_hasMove_V a_0 v_1 h) = 0 → ((v_2 < 0 → ex_S yX11_refuse mX11_refuse (d + 2) [.ref a_0, .int (-2)] h 0 0 (fun r h7 => ∃ x8, r = some (.int x8) ∧ Q (some (.int x8)) h7)) ∧ (¬ v_2 < 0 → ((v_2 ≤ 5 → ∃ a10, ah_r h a_0 3 = some a10 ∧ ah_o h a10 6 ∧ X6_empty_C a10 h ∧ ∀ h13, h13 = X6_empty_H a10 h → ((4 ≤ v_2 → ah_o h13 a_0 11 ∧ ∃ a16, ah_r h13 a_0 1 = some a16 ∧ ld3 h13 9 a16 v_1 ∧ ∃ a18, ah_q h13 a16 (Int32.toNatClampNeg v_1) = some a18 ∧ ∃ a19, ah_r h13 a_0 3 = some a19 ∧ ah_o h13 a18 5 ∧ ex_S yX5_growth mX5_growth (d + 2) [.ref a18, .ref a19] h13 0 0 (fun r h20 => ∃ x22, r = some (.int x22) ∧ ((¬ v_2 = 4 → ((¬ x22 = 0 → ah_o h20 a_0 11 ∧ X11_grant_C a_0 0 h20 ∧ ∀ h27, h27 = X11_grant_H a_0 0 h20 → Q (some (.int (X11_grant_V a_0 0 h20))) h27) ∧ (x22 = 0 → ah_o h20 a_0 11 ∧ X11_grant_C a_0 1 h20 ∧ ∀ h30, h30 = X11_grant_H a_0 1 h20 → Q (some (.int (X11_grant_V a_0 1 h20))) h30))) ∧ (v_2 = 4 → ah_o h20 a_0 11 ∧ X11_grant_C a_0 x22 h20 ∧ ∀ h33, h33 = X11_grant_H a_0 x22 h20 → Q (some (.int (X11_grant_V a_0 x22 h20))) h33)))) ∧ (¬ 4 ≤ v_2 → ah_o h13 a_0 11 ∧ ∃ a35, ah_r h13 a_0 1 = some a35 ∧ ld3 h13 9 a35 v_1 ∧ ∃ a37, ah_q h13 a35 (Int32.toNatClampNeg v_1) = some a37 ∧ ah_o h13 a37 5 ∧ ex_S yX5_number mX5_number (d + 2) [.ref a37, .int v_2] h13 0 0 (fun r h38 => ∃ x40, r = some (.int x40) ∧ ah_o h38 a_0 11 ∧ X11_grant_C a_0 x40 h38 ∧ ∀ h43, h43 = X11_grant_H a_0 x40 h38 → Q (some (.int (X11_grant_V a_0 x40 h38))) h43)))) ∧ (¬ v_2 ≤ 5 → ex_S yX11_refuse mX11_refuse (d + 2) [.ref a_0, .int (-2)] h 0 0 (fun r h44 => ∃ x45, r = some (.int x45) ∧ Q (some (.int x45)) h44)))))))) : ex_G mX11_tells (d + 3) 0 [.ref a_0, .int v_1, .int v_2, .retAddr 0] [] h bc bs Q := by
  refine ex_aload_n (q := 1) (x := a_0) dX11_tells_0 rfl ?_
  refine ex_iload_n (q := 2) (x := v_1) dX11_tells_1 rfl ?_
  have s1 := w.1
  replace w := w.2
  have s2 := w.1
  replace w := w.2
  refine ex_callV (q := 5) (M := mX11_tells) (hdd := Nat.le_refl _) (mc := 0) (ms := 0) (d' := (d + 2)) (c := 11) (st := []) (bc := bc) (bs := bs) dX11_tells_2 rfl cl_X11_313 wd_1021 wd_27 s1 (X11_hasMove_s (Q := fun r z => r = some (.int (X11_hasMove_V a_0 v_1 h)) ∧ z = h) s2 ⟨rfl, rfl⟩) ?_
  intro r z hrz
  rw [hrz.1, hrz.2]
  show ex_G mX11_tells (d + 3) 5 [.ref a_0, .int v_1, .int v_2, .retAddr 0] [.int (X11_hasMove_V a_0 v_1 h)] (h) bc bs Q
  refine ex_if_eq (tgt := 17) (q := 8) dX11_tells_5 (fun c3 => ?_) (fun c3 => ?_)
  · replace w := w.1 c3
    refine ex_aload_n (q := 18) (x := a_0) dX11_tells_17 rfl ?_
    refine ex_bipush (q := 20) (v := (-2)) dX11_tells_18 (by decide) ?_
    refine ex_callV (q := 23) (M := mX11_tells) (hdd := Nat.le_refl _) (c := 11) (st := []) (bc := bc) (bs := bs) dX11_tells_20 rfl cl_X11_120 wd_557 wd_1 s1 w ?_
    rintro r h4 ⟨x5, rfl, w⟩
    show ex_G mX11_tells (d + 3) 23 [.ref a_0, .int v_1, .int v_2, .retAddr 0] [.int x5] h4 bc bs Q
    exact ex_ireturn dX11_tells_23 rfl (Or.inl rfl) w
  · replace w := w.2 c3
    refine ex_iload_n (q := 9) (x := v_2) dX11_tells_8 rfl ?_
    refine ex_if_lt (tgt := 17) (q := 12) dX11_tells_9 (fun c6 => ?_) (fun c6 => ?_)
    · replace w := w.1 c6
      refine ex_aload_n (q := 18) (x := a_0) dX11_tells_17 rfl ?_
      refine ex_bipush (q := 20) (v := (-2)) dX11_tells_18 (by decide) ?_
      refine ex_callV (q := 23) (M := mX11_tells) (hdd := Nat.le_refl _) (c := 11) (st := []) (bc := bc) (bs := bs) dX11_tells_20 rfl cl_X11_120 wd_557 wd_1 s1 w ?_
      rintro r h7 ⟨x8, rfl, w⟩
      show ex_G mX11_tells (d + 3) 23 [.ref a_0, .int v_1, .int v_2, .retAddr 0] [.int x8] h7 bc bs Q
      exact ex_ireturn dX11_tells_23 rfl (Or.inl rfl) w
    · replace w := w.2 c6
      refine ex_iload_n (q := 13) (x := v_2) dX11_tells_12 rfl ?_
      refine ex_iconst (q := 14) (v := 5) dX11_tells_13 (by decide) ?_
      refine ex_icmp_le (tgt := 24) (q := 17) dX11_tells_14 (fun c9 => ?_) (fun c9 => ?_)
      · replace w := w.1 c9
        refine ex_aload_n (q := 25) (x := a_0) dX11_tells_24 rfl ?_
        obtain ⟨a10, ea10, w⟩ := w
        refine ex_getr (q := 28) dX11_tells_25 fl_X11_30 s1 ea10 ?_
        have s11 := w.1
        replace w := w.2
        have s12 := w.1
        replace w := w.2
        refine ex_callV (q := 31) (M := mX11_tells) (hdd := Nat.le_refl _) (mc := 0) (ms := 0) (d' := (d + 2)) (c := 6) (st := []) (bc := bc) (bs := bs) dX11_tells_28 rfl cl_X11_297 wd_937 wd_938 s11 (X6_empty_s (Q := fun r z => r = none ∧ z = X6_empty_H a10 h) s12 ⟨rfl, rfl⟩) ?_
        intro r z hrz
        rw [hrz.1, hrz.2]
        show ex_G mX11_tells (d + 3) 31 [.ref a_0, .int v_1, .int v_2, .retAddr 0] [] (X6_empty_H a10 h) bc bs Q
        refine ex_nmh (fun h13 eh13 => ?_)
        replace w := w h13 eh13
        refine ex_iload_n (q := 32) (x := v_2) dX11_tells_31 rfl ?_
        refine ex_iconst (q := 33) (v := 4) dX11_tells_32 (by decide) ?_
        refine ex_icmp_ge (tgt := 51) (q := 36) dX11_tells_33 (fun c14 => ?_) (fun c14 => ?_)
        · replace w := w.1 c14
          refine ex_aload_n (q := 52) (x := a_0) dX11_tells_51 rfl ?_
          have s15 := w.1
          replace w := w.2
          obtain ⟨a16, ea16, w⟩ := w
          refine ex_getr (q := 55) dX11_tells_52 fl_X11_17 s15 ea16 ?_
          refine ex_iload_n (q := 56) (x := v_1) dX11_tells_55 rfl ?_
          have s17 := w.1
          replace w := w.2
          obtain ⟨a18, ea18, w⟩ := w
          refine ex_aald (q := 57) dX11_tells_56 s17 ea18 ?_
          refine ex_aload_n (q := 58) (x := a_0) dX11_tells_57 rfl ?_
          obtain ⟨a19, ea19, w⟩ := w
          refine ex_getr (q := 61) dX11_tells_58 fl_X11_30 s15 ea19 ?_
          have s21 := w.1
          replace w := w.2
          refine ex_callV (q := 64) (M := mX11_tells) (hdd := Nat.le_refl _) (c := 5) (st := []) (bc := bc) (bs := bs) dX11_tells_61 rfl cl_X11_319 wd_1028 wd_1029 s21 w ?_
          rintro r h20 ⟨x22, rfl, w⟩
          show ex_G mX11_tells (d + 3) 64 [.ref a_0, .int v_1, .int v_2, .retAddr 0] [.int x22] h20 bc bs Q
          refine ex_istore_n (q := 65) (ls' := [.ref a_0, .int v_1, .int v_2, .int x22]) dX11_tells_64 rfl ?_
          refine ex_iload_n (q := 66) (x := v_2) dX11_tells_65 rfl ?_
          refine ex_iconst (q := 67) (v := 4) dX11_tells_66 (by decide) ?_
          refine ex_icmp_ne (tgt := 76) (q := 70) dX11_tells_67 (fun c23 => ?_) (fun c23 => ?_)
          · replace w := w.1 c23
            refine ex_aload_n (q := 77) (x := a_0) dX11_tells_76 rfl ?_
            refine ex_iload_n (q := 78) (x := x22) dX11_tells_77 rfl ?_
            refine ex_if_ne (tgt := 85) (q := 81) dX11_tells_78 (fun c24 => ?_) (fun c24 => ?_)
            · replace w := w.1 c24
              refine ex_iconst (q := 86) (v := 0) dX11_tells_85 (by decide) ?_
              have s25 := w.1
              replace w := w.2
              have s26 := w.1
              replace w := w.2
              refine ex_callV (q := 89) (M := mX11_tells) (hdd := Nat.le_refl _) (mc := 0) (ms := 0) (d' := (d + 2)) (c := 11) (st := []) (bc := bc) (bs := bs) dX11_tells_86 rfl cl_X11_131 wd_576 wd_3 s25 (X11_grant_s (Q := fun r z => r = some (.int (X11_grant_V a_0 0 h20)) ∧ z = X11_grant_H a_0 0 h20) s26 ⟨rfl, rfl⟩) ?_
              intro r z hrz
              rw [hrz.1, hrz.2]
              show ex_G mX11_tells (d + 3) 89 [.ref a_0, .int v_1, .int v_2, .int x22] [.int (X11_grant_V a_0 0 h20)] (X11_grant_H a_0 0 h20) bc bs Q
              refine ex_nmh (fun h27 eh27 => ?_)
              replace w := w h27 eh27
              exact ex_ireturn dX11_tells_89 rfl (Or.inl rfl) w
            · replace w := w.2 c24
              refine ex_iconst (q := 82) (v := 1) dX11_tells_81 (by decide) ?_
              refine ex_goto (tgt := 86) dX11_tells_82 ?_
              have s28 := w.1
              replace w := w.2
              have s29 := w.1
              replace w := w.2
              refine ex_callV (q := 89) (M := mX11_tells) (hdd := Nat.le_refl _) (mc := 0) (ms := 0) (d' := (d + 2)) (c := 11) (st := []) (bc := bc) (bs := bs) dX11_tells_86 rfl cl_X11_131 wd_576 wd_3 s28 (X11_grant_s (Q := fun r z => r = some (.int (X11_grant_V a_0 1 h20)) ∧ z = X11_grant_H a_0 1 h20) s29 ⟨rfl, rfl⟩) ?_
              intro r z hrz
              rw [hrz.1, hrz.2]
              show ex_G mX11_tells (d + 3) 89 [.ref a_0, .int v_1, .int v_2, .int x22] [.int (X11_grant_V a_0 1 h20)] (X11_grant_H a_0 1 h20) bc bs Q
              refine ex_nmh (fun h30 eh30 => ?_)
              replace w := w h30 eh30
              exact ex_ireturn dX11_tells_89 rfl (Or.inl rfl) w
          · replace w := w.2 c23
            refine ex_aload_n (q := 71) (x := a_0) dX11_tells_70 rfl ?_
            refine ex_iload_n (q := 72) (x := x22) dX11_tells_71 rfl ?_
            have s31 := w.1
            replace w := w.2
            have s32 := w.1
            replace w := w.2
            refine ex_callV (q := 75) (M := mX11_tells) (hdd := Nat.le_refl _) (mc := 0) (ms := 0) (d' := (d + 2)) (c := 11) (st := []) (bc := bc) (bs := bs) dX11_tells_72 rfl cl_X11_131 wd_576 wd_3 s31 (X11_grant_s (Q := fun r z => r = some (.int (X11_grant_V a_0 x22 h20)) ∧ z = X11_grant_H a_0 x22 h20) s32 ⟨rfl, rfl⟩) ?_
            intro r z hrz
            rw [hrz.1, hrz.2]
            show ex_G mX11_tells (d + 3) 75 [.ref a_0, .int v_1, .int v_2, .int x22] [.int (X11_grant_V a_0 x22 h20)] (X11_grant_H a_0 x22 h20) bc bs Q
            refine ex_nmh (fun h33 eh33 => ?_)
            replace w := w h33 eh33
            exact ex_ireturn dX11_tells_75 rfl (Or.inl rfl) w
        · replace w := w.2 c14
          refine ex_aload_n (q := 37) (x := a_0) dX11_tells_36 rfl ?_
          refine ex_aload_n (q := 38) (x := a_0) dX11_tells_37 rfl ?_
          have s34 := w.1
          replace w := w.2
          obtain ⟨a35, ea35, w⟩ := w
          refine ex_getr (q := 41) dX11_tells_38 fl_X11_17 s34 ea35 ?_
          refine ex_iload_n (q := 42) (x := v_1) dX11_tells_41 rfl ?_
          have s36 := w.1
          replace w := w.2
          obtain ⟨a37, ea37, w⟩ := w
          refine ex_aald (q := 43) dX11_tells_42 s36 ea37 ?_
          refine ex_iload_n (q := 44) (x := v_2) dX11_tells_43 rfl ?_
          have s39 := w.1
          replace w := w.2
          refine ex_callV (q := 47) (M := mX11_tells) (hdd := Nat.le_refl _) (c := 5) (st := [.ref a_0]) (bc := bc) (bs := bs) dX11_tells_44 rfl cl_X11_316 wd_1024 wd_1025 s39 w ?_
          rintro r h38 ⟨x40, rfl, w⟩
          show ex_G mX11_tells (d + 3) 47 [.ref a_0, .int v_1, .int v_2, .retAddr 0] [.int x40, .ref a_0] h38 bc bs Q
          have s41 := w.1
          replace w := w.2
          have s42 := w.1
          replace w := w.2
          refine ex_callV (q := 50) (M := mX11_tells) (hdd := Nat.le_refl _) (mc := 0) (ms := 0) (d' := (d + 2)) (c := 11) (st := []) (bc := bc) (bs := bs) dX11_tells_47 rfl cl_X11_131 wd_576 wd_3 s41 (X11_grant_s (Q := fun r z => r = some (.int (X11_grant_V a_0 x40 h38)) ∧ z = X11_grant_H a_0 x40 h38) s42 ⟨rfl, rfl⟩) ?_
          intro r z hrz
          rw [hrz.1, hrz.2]
          show ex_G mX11_tells (d + 3) 50 [.ref a_0, .int v_1, .int v_2, .retAddr 0] [.int (X11_grant_V a_0 x40 h38)] (X11_grant_H a_0 x40 h38) bc bs Q
          refine ex_nmh (fun h43 eh43 => ?_)
          replace w := w h43 eh43
          exact ex_ireturn dX11_tells_50 rfl (Or.inl rfl) w
      · replace w := w.2 c9
        refine ex_aload_n (q := 18) (x := a_0) dX11_tells_17 rfl ?_
        refine ex_bipush (q := 20) (v := (-2)) dX11_tells_18 (by decide) ?_
        refine ex_callV (q := 23) (M := mX11_tells) (hdd := Nat.le_refl _) (c := 11) (st := []) (bc := bc) (bs := bs) dX11_tells_20 rfl cl_X11_120 wd_557 wd_1 s1 w ?_
        rintro r h44 ⟨x45, rfl, w⟩
        show ex_G mX11_tells (d + 3) 23 [.ref a_0, .int v_1, .int v_2, .retAddr 0] [.int x45] h44 bc bs Q
        exact ex_ireturn dX11_tells_23 rfl (Or.inl rfl) w

theorem X11_tells_e {d bc bs : Nat} {h : AH} {Q : Option Value → AH → Prop} {a_0 : Nat} {v_1 : Int32} {v_2 : Int32} (w : ex_G mX11_tells (d + 3) 0 [.ref a_0, .int v_1, .int v_2, .retAddr 0] [] h bc bs Q) : ex_S yX11_tells mX11_tells (d + 3) [.ref a_0, .int v_1, .int v_2] h bc bs Q :=
  ex_enter (plainFor_of_name (by decide +kernel)) ⟨rfl, rfl⟩ rfl rfl (Nat.le_of_ble_eq_true rfl) (ex_pad 1 w)

set_option maxRecDepth 100000 in
theorem X11_as_0 {d bc bs : Nat} {h : AH} {Q : Option Value → AH → Prop} {a_0 : Nat} {v_1 : Int32} {v_2 : Int32} (w : ah_o h a_0 11 ∧ X11_hasMove_C a_0 v_1 h ∧ (((X11_hasMove_V a_0 v_1 h) = 0 → ex_S yX11_refuse mX11_refuse d [.ref a_0, .int (-2)] h 0 0 (fun r h4 => ∃ x5, r = some (.int x5) ∧ Q (some (.int x5)) h4)) ∧ (¬ (X11_hasMove_V a_0 v_1 h) = 0 → ((¬ (X11_isKind_V v_2 h) = 0 → ∃ a7, ah_r h a_0 1 = some a7 ∧ ld3 h 9 a7 v_1 ∧ ∃ a9, ah_q h a7 (Int32.toNatClampNeg v_1) = some a9 ∧ ah_o h a9 5 ∧ X5_isA_C a9 v_2 h ∧ (((X5_isA_V a9 v_2 h) = 0 → ex_S yX11_refuse mX11_refuse d [.ref a_0, .int (-14)] h 0 0 (fun r h13 => ∃ x14, r = some (.int x14) ∧ Q (some (.int x14)) h13)) ∧ (¬ (X5_isA_V a9 v_2 h) = 0 → X11_grant_C a_0 1 h ∧ ∀ h16, h16 = X11_grant_H a_0 1 h → Q (some (.int (X11_grant_V a_0 1 h))) h16))) ∧ ((X11_isKind_V v_2 h) = 0 → ex_S yX11_refuse mX11_refuse d [.ref a_0, .int (-2)] h 0 0 (fun r h17 => ∃ x18, r = some (.int x18) ∧ Q (some (.int x18)) h17)))))) : ex_G mX11_as (d + 1) 0 [.ref a_0, .int v_1, .int v_2] [] h bc bs Q := by
  refine ex_aload_n (q := 1) (x := a_0) dX11_as_0 rfl ?_
  refine ex_iload_n (q := 2) (x := v_1) dX11_as_1 rfl ?_
  have s1 := w.1
  replace w := w.2
  have s2 := w.1
  replace w := w.2
  refine ex_callV (q := 5) (M := mX11_as) (hdd := Nat.le_refl _) (mc := 0) (ms := 0) (d' := d) (c := 11) (st := []) (bc := bc) (bs := bs) dX11_as_2 rfl cl_X11_313 wd_1021 wd_27 s1 (X11_hasMove_s (Q := fun r z => r = some (.int (X11_hasMove_V a_0 v_1 h)) ∧ z = h) s2 ⟨rfl, rfl⟩) ?_
  intro r z hrz
  rw [hrz.1, hrz.2]
  show ex_G mX11_as (d + 1) 5 [.ref a_0, .int v_1, .int v_2] [.int (X11_hasMove_V a_0 v_1 h)] (h) bc bs Q
  refine ex_if_eq (tgt := 15) (q := 8) dX11_as_5 (fun c3 => ?_) (fun c3 => ?_)
  · replace w := w.1 c3
    refine ex_aload_n (q := 16) (x := a_0) dX11_as_15 rfl ?_
    refine ex_bipush (q := 18) (v := (-2)) dX11_as_16 (by decide) ?_
    refine ex_callV (q := 21) (M := mX11_as) (hdd := Nat.le_refl _) (c := 11) (st := []) (bc := bc) (bs := bs) dX11_as_18 rfl cl_X11_120 wd_557 wd_1 s1 w ?_
    rintro r h4 ⟨x5, rfl, w⟩
    show ex_G mX11_as (d + 1) 21 [.ref a_0, .int v_1, .int v_2] [.int x5] h4 bc bs Q
    exact ex_ireturn dX11_as_21 rfl (Or.inl rfl) w
  · replace w := w.2 c3
    refine ex_iload_n (q := 9) (x := v_2) dX11_as_8 rfl ?_
    refine ex_callS (q := 12) (M := mX11_as) (hdd := Nat.le_refl _) (mc := 0) (ms := 0) (d' := d) (st := []) (bc := bc) (bs := bs) dX11_as_9 rfl cl_X11_308 wd_995 (X11_isKind_s (Q := fun r z => r = some (.int (X11_isKind_V v_2 h)) ∧ z = h) ⟨rfl, rfl⟩) ?_
    intro r z hrz
    rw [hrz.1, hrz.2]
    show ex_G mX11_as (d + 1) 12 [.ref a_0, .int v_1, .int v_2] [.int (X11_isKind_V v_2 h)] (h) bc bs Q
    refine ex_if_ne (tgt := 22) (q := 15) dX11_as_12 (fun c6 => ?_) (fun c6 => ?_)
    · replace w := w.1 c6
      refine ex_aload_n (q := 23) (x := a_0) dX11_as_22 rfl ?_
      obtain ⟨a7, ea7, w⟩ := w
      refine ex_getr (q := 26) dX11_as_23 fl_X11_17 s1 ea7 ?_
      refine ex_iload_n (q := 27) (x := v_1) dX11_as_26 rfl ?_
      have s8 := w.1
      replace w := w.2
      obtain ⟨a9, ea9, w⟩ := w
      refine ex_aald (q := 28) dX11_as_27 s8 ea9 ?_
      refine ex_iload_n (q := 29) (x := v_2) dX11_as_28 rfl ?_
      have s10 := w.1
      replace w := w.2
      have s11 := w.1
      replace w := w.2
      refine ex_callV (q := 32) (M := mX11_as) (hdd := Nat.le_refl _) (mc := 0) (ms := 0) (d' := d) (c := 5) (st := []) (bc := bc) (bs := bs) dX11_as_29 rfl cl_X11_323 wd_1040 wd_1041 s10 (X5_isA_s (Q := fun r z => r = some (.int (X5_isA_V a9 v_2 h)) ∧ z = h) s11 ⟨rfl, rfl⟩) ?_
      intro r z hrz
      rw [hrz.1, hrz.2]
      show ex_G mX11_as (d + 1) 32 [.ref a_0, .int v_1, .int v_2] [.int (X5_isA_V a9 v_2 h)] (h) bc bs Q
      refine ex_if_eq (tgt := 43) (q := 35) dX11_as_32 (fun c12 => ?_) (fun c12 => ?_)
      · replace w := w.1 c12
        refine ex_aload_n (q := 44) (x := a_0) dX11_as_43 rfl ?_
        refine ex_bipush (q := 46) (v := (-14)) dX11_as_44 (by decide) ?_
        refine ex_callV (q := 49) (M := mX11_as) (hdd := Nat.le_refl _) (c := 11) (st := []) (bc := bc) (bs := bs) dX11_as_46 rfl cl_X11_120 wd_557 wd_1 s1 w ?_
        rintro r h13 ⟨x14, rfl, w⟩
        show ex_G mX11_as (d + 1) 49 [.ref a_0, .int v_1, .int v_2] [.int x14] h13 bc bs Q
        exact ex_ireturn dX11_as_49 rfl (Or.inl rfl) w
      · replace w := w.2 c12
        refine ex_aload_n (q := 36) (x := a_0) dX11_as_35 rfl ?_
        refine ex_iconst (q := 37) (v := 1) dX11_as_36 (by decide) ?_
        have s15 := w.1
        replace w := w.2
        refine ex_callV (q := 40) (M := mX11_as) (hdd := Nat.le_refl _) (mc := 0) (ms := 0) (d' := d) (c := 11) (st := []) (bc := bc) (bs := bs) dX11_as_37 rfl cl_X11_131 wd_576 wd_3 s1 (X11_grant_s (Q := fun r z => r = some (.int (X11_grant_V a_0 1 h)) ∧ z = X11_grant_H a_0 1 h) s15 ⟨rfl, rfl⟩) ?_
        intro r z hrz
        rw [hrz.1, hrz.2]
        show ex_G mX11_as (d + 1) 40 [.ref a_0, .int v_1, .int v_2] [.int (X11_grant_V a_0 1 h)] (X11_grant_H a_0 1 h) bc bs Q
        refine ex_nmh (fun h16 eh16 => ?_)
        replace w := w h16 eh16
        refine ex_goto (tgt := 49) dX11_as_40 ?_
        exact ex_ireturn dX11_as_49 rfl (Or.inl rfl) w
    · replace w := w.2 c6
      refine ex_aload_n (q := 16) (x := a_0) dX11_as_15 rfl ?_
      refine ex_bipush (q := 18) (v := (-2)) dX11_as_16 (by decide) ?_
      refine ex_callV (q := 21) (M := mX11_as) (hdd := Nat.le_refl _) (c := 11) (st := []) (bc := bc) (bs := bs) dX11_as_18 rfl cl_X11_120 wd_557 wd_1 s1 w ?_
      rintro r h17 ⟨x18, rfl, w⟩
      show ex_G mX11_as (d + 1) 21 [.ref a_0, .int v_1, .int v_2] [.int x18] h17 bc bs Q
      exact ex_ireturn dX11_as_21 rfl (Or.inl rfl) w

theorem X11_as_e {d bc bs : Nat} {h : AH} {Q : Option Value → AH → Prop} {a_0 : Nat} {v_1 : Int32} {v_2 : Int32} (w : ex_G mX11_as (d + 1) 0 [.ref a_0, .int v_1, .int v_2] [] h bc bs Q) : ex_S yX11_as mX11_as (d + 1) [.ref a_0, .int v_1, .int v_2] h bc bs Q :=
  ex_enter (plainFor_of_name (by decide +kernel)) ⟨rfl, rfl⟩ rfl rfl (Nat.le_of_ble_eq_true rfl) (ex_pad 0 w)

set_option maxRecDepth 100000 in
theorem X11_tryMove_0 {d bc bs : Nat} {h : AH} {Q : Option Value → AH → Prop} {a_0 : Nat} {v_1 : Int32} {v_2 : Int32} (w : ah_o h a_0 11 ∧ X11_hasPicture_C a_0 v_1 h ∧ (((X11_hasPicture_V a_0 v_1 h) = 0 → Q (some (.int (-2))) h) ∧ (¬ (X11_hasPicture_V a_0 v_1 h) = 0 → X11_hasMove_C a_0 v_2 h ∧ ((¬ (X11_hasMove_V a_0 v_2 h) = 0 → ∃ a6, ah_r h a_0 4 = some a6 ∧ ex_S yX11_isWhole mX11_isWhole (d + 4) [.ref a_0, .int v_1, .ref a6] h 0 0 (fun r h7 => ∃ x8, r = some (.int x8) ∧ ((¬ x8 = 0 → ah_o h7 a_0 11 ∧ ∃ a11, ah_r h7 a_0 6 = some a11 ∧ ∃ a12, ah_r h7 a_0 0 = some a12 ∧ ld3 h7 11 a12 v_1 ∧ ∃ a14, ah_q h7 a12 (Int32.toNatClampNeg v_1) = some a14 ∧ ah_o h7 a11 7 ∧ ex_S yX7_take mX7_take (d + 4) [.ref a11, .ref a14] h7 0 0 (fun r h15 => r = none ∧ ah_o h15 a_0 11 ∧ ∃ a18, ah_r h15 a_0 1 = some a18 ∧ ld3 h15 9 a18 v_2 ∧ ∃ a20, ah_q h15 a18 (Int32.toNatClampNeg v_2) = some a20 ∧ ∃ a21, ah_r h15 a_0 6 = some a21 ∧ ∃ a22, ah_r h15 a_0 4 = some a22 ∧ ah_o h15 a20 5 ∧ ex_S yX5_applyTo mX5_applyTo (d + 4) [.ref a20, .ref a21, .ref a22] h15 0 0 (fun r h23 => ∃ x25, r = some (.int x25) ∧ Q (some (.int x25)) h23))) ∧ (x8 = 0 → Q (some (.int (-13))) h7)))) ∧ ((X11_hasMove_V a_0 v_2 h) = 0 → Q (some (.int (-2))) h))))) : ex_G mX11_tryMove (d + 5) 0 [.ref a_0, .int v_1, .int v_2] [] h bc bs Q := by
  refine ex_aload_n (q := 1) (x := a_0) dX11_tryMove_0 rfl ?_
  refine ex_iload_n (q := 2) (x := v_1) dX11_tryMove_1 rfl ?_
  have s1 := w.1
  replace w := w.2
  have s2 := w.1
  replace w := w.2
  refine ex_callV (q := 5) (M := mX11_tryMove) (hdd := Nat.le_refl _) (mc := 0) (ms := 0) (d' := (d + 4)) (c := 11) (st := []) (bc := bc) (bs := bs) dX11_tryMove_2 rfl cl_X11_134 wd_584 wd_4 s1 (X11_hasPicture_s (Q := fun r z => r = some (.int (X11_hasPicture_V a_0 v_1 h)) ∧ z = h) s2 ⟨rfl, rfl⟩) ?_
  intro r z hrz
  rw [hrz.1, hrz.2]
  show ex_G mX11_tryMove (d + 5) 5 [.ref a_0, .int v_1, .int v_2] [.int (X11_hasPicture_V a_0 v_1 h)] (h) bc bs Q
  refine ex_if_eq (tgt := 16) (q := 8) dX11_tryMove_5 (fun c3 => ?_) (fun c3 => ?_)
  · replace w := w.1 c3
    refine ex_bipush (q := 18) (v := (-2)) dX11_tryMove_16 (by decide) ?_
    exact ex_ireturn dX11_tryMove_18 rfl (Or.inl rfl) w
  · replace w := w.2 c3
    refine ex_aload_n (q := 9) (x := a_0) dX11_tryMove_8 rfl ?_
    refine ex_iload_n (q := 10) (x := v_2) dX11_tryMove_9 rfl ?_
    have s4 := w.1
    replace w := w.2
    refine ex_callV (q := 13) (M := mX11_tryMove) (hdd := Nat.le_refl _) (mc := 0) (ms := 0) (d' := (d + 4)) (c := 11) (st := []) (bc := bc) (bs := bs) dX11_tryMove_10 rfl cl_X11_313 wd_1021 wd_27 s1 (X11_hasMove_s (Q := fun r z => r = some (.int (X11_hasMove_V a_0 v_2 h)) ∧ z = h) s4 ⟨rfl, rfl⟩) ?_
    intro r z hrz
    rw [hrz.1, hrz.2]
    show ex_G mX11_tryMove (d + 5) 13 [.ref a_0, .int v_1, .int v_2] [.int (X11_hasMove_V a_0 v_2 h)] (h) bc bs Q
    refine ex_if_ne (tgt := 19) (q := 16) dX11_tryMove_13 (fun c5 => ?_) (fun c5 => ?_)
    · replace w := w.1 c5
      refine ex_aload_n (q := 20) (x := a_0) dX11_tryMove_19 rfl ?_
      refine ex_iload_n (q := 21) (x := v_1) dX11_tryMove_20 rfl ?_
      refine ex_aload_n (q := 22) (x := a_0) dX11_tryMove_21 rfl ?_
      obtain ⟨a6, ea6, w⟩ := w
      refine ex_getr (q := 25) dX11_tryMove_22 fl_X11_36 s1 ea6 ?_
      refine ex_callV (q := 28) (M := mX11_tryMove) (hdd := Nat.le_refl _) (c := 11) (st := []) (bc := bc) (bs := bs) dX11_tryMove_25 rfl cl_X11_184 wd_695 wd_13 s1 w ?_
      rintro r h7 ⟨x8, rfl, w⟩
      show ex_G mX11_tryMove (d + 5) 28 [.ref a_0, .int v_1, .int v_2] [.int x8] h7 bc bs Q
      refine ex_if_ne (tgt := 34) (q := 31) dX11_tryMove_28 (fun c9 => ?_) (fun c9 => ?_)
      · replace w := w.1 c9
        refine ex_aload_n (q := 35) (x := a_0) dX11_tryMove_34 rfl ?_
        have s10 := w.1
        replace w := w.2
        obtain ⟨a11, ea11, w⟩ := w
        refine ex_getr (q := 38) dX11_tryMove_35 fl_X11_44 s10 ea11 ?_
        refine ex_aload_n (q := 39) (x := a_0) dX11_tryMove_38 rfl ?_
        obtain ⟨a12, ea12, w⟩ := w
        refine ex_getr (q := 42) dX11_tryMove_39 fl_X11_11 s10 ea12 ?_
        refine ex_iload_n (q := 43) (x := v_1) dX11_tryMove_42 rfl ?_
        have s13 := w.1
        replace w := w.2
        obtain ⟨a14, ea14, w⟩ := w
        refine ex_aald (q := 44) dX11_tryMove_43 s13 ea14 ?_
        have s16 := w.1
        replace w := w.2
        refine ex_callV (q := 47) (M := mX11_tryMove) (hdd := Nat.le_refl _) (c := 7) (st := []) (bc := bc) (bs := bs) dX11_tryMove_44 rfl cl_X11_113 wd_568 wd_569 s16 w ?_
        rintro r h15 ⟨rfl, w⟩
        show ex_G mX11_tryMove (d + 5) 47 [.ref a_0, .int v_1, .int v_2] [] h15 bc bs Q
        refine ex_aload_n (q := 48) (x := a_0) dX11_tryMove_47 rfl ?_
        have s17 := w.1
        replace w := w.2
        obtain ⟨a18, ea18, w⟩ := w
        refine ex_getr (q := 51) dX11_tryMove_48 fl_X11_17 s17 ea18 ?_
        refine ex_iload_n (q := 52) (x := v_2) dX11_tryMove_51 rfl ?_
        have s19 := w.1
        replace w := w.2
        obtain ⟨a20, ea20, w⟩ := w
        refine ex_aald (q := 53) dX11_tryMove_52 s19 ea20 ?_
        refine ex_aload_n (q := 54) (x := a_0) dX11_tryMove_53 rfl ?_
        obtain ⟨a21, ea21, w⟩ := w
        refine ex_getr (q := 57) dX11_tryMove_54 fl_X11_44 s17 ea21 ?_
        refine ex_aload_n (q := 58) (x := a_0) dX11_tryMove_57 rfl ?_
        obtain ⟨a22, ea22, w⟩ := w
        refine ex_getr (q := 61) dX11_tryMove_58 fl_X11_36 s17 ea22 ?_
        have s24 := w.1
        replace w := w.2
        refine ex_callV (q := 64) (M := mX11_tryMove) (hdd := Nat.le_refl _) (c := 5) (st := []) (bc := bc) (bs := bs) dX11_tryMove_61 rfl cl_X11_326 wd_1054 wd_1055 s24 w ?_
        rintro r h23 ⟨x25, rfl, w⟩
        show ex_G mX11_tryMove (d + 5) 64 [.ref a_0, .int v_1, .int v_2] [.int x25] h23 bc bs Q
        exact ex_ireturn dX11_tryMove_64 rfl (Or.inl rfl) w
      · replace w := w.2 c9
        refine ex_bipush (q := 33) (v := (-13)) dX11_tryMove_31 (by decide) ?_
        exact ex_ireturn dX11_tryMove_33 rfl (Or.inl rfl) w
    · replace w := w.2 c5
      refine ex_bipush (q := 18) (v := (-2)) dX11_tryMove_16 (by decide) ?_
      exact ex_ireturn dX11_tryMove_18 rfl (Or.inl rfl) w

theorem X11_tryMove_e {d bc bs : Nat} {h : AH} {Q : Option Value → AH → Prop} {a_0 : Nat} {v_1 : Int32} {v_2 : Int32} (w : ex_G mX11_tryMove (d + 5) 0 [.ref a_0, .int v_1, .int v_2] [] h bc bs Q) : ex_S yX11_tryMove mX11_tryMove (d + 5) [.ref a_0, .int v_1, .int v_2] h bc bs Q :=
  ex_enter (plainFor_of_name (by decide +kernel)) ⟨rfl, rfl⟩ rfl rfl (Nat.le_of_ble_eq_true rfl) (ex_pad 0 w)

set_option maxRecDepth 100000 in
theorem X11_tryUndoing_0 {d bc bs : Nat} {h : AH} {Q : Option Value → AH → Prop} {a_0 : Nat} {v_1 : Int32} {v_2 : Int32} (w : ah_o h a_0 11 ∧ X11_hasPicture_C a_0 v_1 h ∧ (((X11_hasPicture_V a_0 v_1 h) = 0 → Q (some (.int (-2))) h) ∧ (¬ (X11_hasPicture_V a_0 v_1 h) = 0 → X11_hasMove_C a_0 v_2 h ∧ ((¬ (X11_hasMove_V a_0 v_2 h) = 0 → ∃ a6, ah_r h a_0 1 = some a6 ∧ ld3 h 9 a6 v_2 ∧ ∃ a8, ah_q h a6 (Int32.toNatClampNeg v_2) = some a8 ∧ ah_o h a8 5 ∧ X5_canBeUndone_C a8 h ∧ ((¬ (X5_canBeUndone_V a8 h) = 0 → ∃ a12, ah_r h a_0 4 = some a12 ∧ ex_S yX11_isWhole mX11_isWhole (d + 4) [.ref a_0, .int v_1, .ref a12] h 0 0 (fun r h13 => ∃ x14, r = some (.int x14) ∧ ((¬ x14 = 0 → ah_o h13 a_0 11 ∧ ∃ a17, ah_r h13 a_0 6 = some a17 ∧ ∃ a18, ah_r h13 a_0 0 = some a18 ∧ ld3 h13 11 a18 v_1 ∧ ∃ a20, ah_q h13 a18 (Int32.toNatClampNeg v_1) = some a20 ∧ ah_o h13 a17 7 ∧ ex_S yX7_take mX7_take (d + 4) [.ref a17, .ref a20] h13 0 0 (fun r h21 => r = none ∧ ah_o h21 a_0 11 ∧ ∃ a24, ah_r h21 a_0 1 = some a24 ∧ ld3 h21 9 a24 v_2 ∧ ∃ a26, ah_q h21 a24 (Int32.toNatClampNeg v_2) = some a26 ∧ ∃ a27, ah_r h21 a_0 6 = some a27 ∧ ∃ a28, ah_r h21 a_0 4 = some a28 ∧ ah_o h21 a26 5 ∧ ex_S yX5_withdrawFrom mX5_withdrawFrom (d + 4) [.ref a26, .ref a27, .ref a28] h21 0 0 (fun r h29 => ∃ x31, r = some (.int x31) ∧ Q (some (.int x31)) h29))) ∧ (x14 = 0 → Q (some (.int (-13))) h13)))) ∧ ((X5_canBeUndone_V a8 h) = 0 → Q (some (.int (-14))) h))) ∧ ((X11_hasMove_V a_0 v_2 h) = 0 → Q (some (.int (-2))) h))))) : ex_G mX11_tryUndoing (d + 5) 0 [.ref a_0, .int v_1, .int v_2] [] h bc bs Q := by
  refine ex_aload_n (q := 1) (x := a_0) dX11_tryUndoing_0 rfl ?_
  refine ex_iload_n (q := 2) (x := v_1) dX11_tryUndoing_1 rfl ?_
  have s1 := w.1
  replace w := w.2
  have s2 := w.1
  replace w := w.2
  refine ex_callV (q := 5) (M := mX11_tryUndoing) (hdd := Nat.le_refl _) (mc := 0) (ms := 0) (d' := (d + 4)) (c := 11) (st := []) (bc := bc) (bs := bs) dX11_tryUndoing_2 rfl cl_X11_134 wd_584 wd_4 s1 (X11_hasPicture_s (Q := fun r z => r = some (.int (X11_hasPicture_V a_0 v_1 h)) ∧ z = h) s2 ⟨rfl, rfl⟩) ?_
  intro r z hrz
  rw [hrz.1, hrz.2]
  show ex_G mX11_tryUndoing (d + 5) 5 [.ref a_0, .int v_1, .int v_2] [.int (X11_hasPicture_V a_0 v_1 h)] (h) bc bs Q
  refine ex_if_eq (tgt := 16) (q := 8) dX11_tryUndoing_5 (fun c3 => ?_) (fun c3 => ?_)
  · replace w := w.1 c3
    refine ex_bipush (q := 18) (v := (-2)) dX11_tryUndoing_16 (by decide) ?_
    exact ex_ireturn dX11_tryUndoing_18 rfl (Or.inl rfl) w
  · replace w := w.2 c3
    refine ex_aload_n (q := 9) (x := a_0) dX11_tryUndoing_8 rfl ?_
    refine ex_iload_n (q := 10) (x := v_2) dX11_tryUndoing_9 rfl ?_
    have s4 := w.1
    replace w := w.2
    refine ex_callV (q := 13) (M := mX11_tryUndoing) (hdd := Nat.le_refl _) (mc := 0) (ms := 0) (d' := (d + 4)) (c := 11) (st := []) (bc := bc) (bs := bs) dX11_tryUndoing_10 rfl cl_X11_313 wd_1021 wd_27 s1 (X11_hasMove_s (Q := fun r z => r = some (.int (X11_hasMove_V a_0 v_2 h)) ∧ z = h) s4 ⟨rfl, rfl⟩) ?_
    intro r z hrz
    rw [hrz.1, hrz.2]
    show ex_G mX11_tryUndoing (d + 5) 13 [.ref a_0, .int v_1, .int v_2] [.int (X11_hasMove_V a_0 v_2 h)] (h) bc bs Q
    refine ex_if_ne (tgt := 19) (q := 16) dX11_tryUndoing_13 (fun c5 => ?_) (fun c5 => ?_)
    · replace w := w.1 c5
      refine ex_aload_n (q := 20) (x := a_0) dX11_tryUndoing_19 rfl ?_
      obtain ⟨a6, ea6, w⟩ := w
      refine ex_getr (q := 23) dX11_tryUndoing_20 fl_X11_17 s1 ea6 ?_
      refine ex_iload_n (q := 24) (x := v_2) dX11_tryUndoing_23 rfl ?_
      have s7 := w.1
      replace w := w.2
      obtain ⟨a8, ea8, w⟩ := w
      refine ex_aald (q := 25) dX11_tryUndoing_24 s7 ea8 ?_
      have s9 := w.1
      replace w := w.2
      have s10 := w.1
      replace w := w.2
      refine ex_callV (q := 28) (M := mX11_tryUndoing) (hdd := Nat.le_refl _) (mc := 0) (ms := 0) (d' := (d + 4)) (c := 5) (st := []) (bc := bc) (bs := bs) dX11_tryUndoing_25 rfl cl_X11_330 wd_1147 wd_1148 s9 (X5_canBeUndone_s (Q := fun r z => r = some (.int (X5_canBeUndone_V a8 h)) ∧ z = h) s10 ⟨rfl, rfl⟩) ?_
      intro r z hrz
      rw [hrz.1, hrz.2]
      show ex_G mX11_tryUndoing (d + 5) 28 [.ref a_0, .int v_1, .int v_2] [.int (X5_canBeUndone_V a8 h)] (h) bc bs Q
      refine ex_if_ne (tgt := 34) (q := 31) dX11_tryUndoing_28 (fun c11 => ?_) (fun c11 => ?_)
      · replace w := w.1 c11
        refine ex_aload_n (q := 35) (x := a_0) dX11_tryUndoing_34 rfl ?_
        refine ex_iload_n (q := 36) (x := v_1) dX11_tryUndoing_35 rfl ?_
        refine ex_aload_n (q := 37) (x := a_0) dX11_tryUndoing_36 rfl ?_
        obtain ⟨a12, ea12, w⟩ := w
        refine ex_getr (q := 40) dX11_tryUndoing_37 fl_X11_36 s1 ea12 ?_
        refine ex_callV (q := 43) (M := mX11_tryUndoing) (hdd := Nat.le_refl _) (c := 11) (st := []) (bc := bc) (bs := bs) dX11_tryUndoing_40 rfl cl_X11_184 wd_695 wd_13 s1 w ?_
        rintro r h13 ⟨x14, rfl, w⟩
        show ex_G mX11_tryUndoing (d + 5) 43 [.ref a_0, .int v_1, .int v_2] [.int x14] h13 bc bs Q
        refine ex_if_ne (tgt := 49) (q := 46) dX11_tryUndoing_43 (fun c15 => ?_) (fun c15 => ?_)
        · replace w := w.1 c15
          refine ex_aload_n (q := 50) (x := a_0) dX11_tryUndoing_49 rfl ?_
          have s16 := w.1
          replace w := w.2
          obtain ⟨a17, ea17, w⟩ := w
          refine ex_getr (q := 53) dX11_tryUndoing_50 fl_X11_44 s16 ea17 ?_
          refine ex_aload_n (q := 54) (x := a_0) dX11_tryUndoing_53 rfl ?_
          obtain ⟨a18, ea18, w⟩ := w
          refine ex_getr (q := 57) dX11_tryUndoing_54 fl_X11_11 s16 ea18 ?_
          refine ex_iload_n (q := 58) (x := v_1) dX11_tryUndoing_57 rfl ?_
          have s19 := w.1
          replace w := w.2
          obtain ⟨a20, ea20, w⟩ := w
          refine ex_aald (q := 59) dX11_tryUndoing_58 s19 ea20 ?_
          have s22 := w.1
          replace w := w.2
          refine ex_callV (q := 62) (M := mX11_tryUndoing) (hdd := Nat.le_refl _) (c := 7) (st := []) (bc := bc) (bs := bs) dX11_tryUndoing_59 rfl cl_X11_113 wd_568 wd_569 s22 w ?_
          rintro r h21 ⟨rfl, w⟩
          show ex_G mX11_tryUndoing (d + 5) 62 [.ref a_0, .int v_1, .int v_2] [] h21 bc bs Q
          refine ex_aload_n (q := 63) (x := a_0) dX11_tryUndoing_62 rfl ?_
          have s23 := w.1
          replace w := w.2
          obtain ⟨a24, ea24, w⟩ := w
          refine ex_getr (q := 66) dX11_tryUndoing_63 fl_X11_17 s23 ea24 ?_
          refine ex_iload_n (q := 67) (x := v_2) dX11_tryUndoing_66 rfl ?_
          have s25 := w.1
          replace w := w.2
          obtain ⟨a26, ea26, w⟩ := w
          refine ex_aald (q := 68) dX11_tryUndoing_67 s25 ea26 ?_
          refine ex_aload_n (q := 69) (x := a_0) dX11_tryUndoing_68 rfl ?_
          obtain ⟨a27, ea27, w⟩ := w
          refine ex_getr (q := 72) dX11_tryUndoing_69 fl_X11_44 s23 ea27 ?_
          refine ex_aload_n (q := 73) (x := a_0) dX11_tryUndoing_72 rfl ?_
          obtain ⟨a28, ea28, w⟩ := w
          refine ex_getr (q := 76) dX11_tryUndoing_73 fl_X11_36 s23 ea28 ?_
          have s30 := w.1
          replace w := w.2
          refine ex_callV (q := 79) (M := mX11_tryUndoing) (hdd := Nat.le_refl _) (c := 5) (st := []) (bc := bc) (bs := bs) dX11_tryUndoing_76 rfl cl_X11_333 wd_1151 wd_1152 s30 w ?_
          rintro r h29 ⟨x31, rfl, w⟩
          show ex_G mX11_tryUndoing (d + 5) 79 [.ref a_0, .int v_1, .int v_2] [.int x31] h29 bc bs Q
          exact ex_ireturn dX11_tryUndoing_79 rfl (Or.inl rfl) w
        · replace w := w.2 c15
          refine ex_bipush (q := 48) (v := (-13)) dX11_tryUndoing_46 (by decide) ?_
          exact ex_ireturn dX11_tryUndoing_48 rfl (Or.inl rfl) w
      · replace w := w.2 c11
        refine ex_bipush (q := 33) (v := (-14)) dX11_tryUndoing_31 (by decide) ?_
        exact ex_ireturn dX11_tryUndoing_33 rfl (Or.inl rfl) w
    · replace w := w.2 c5
      refine ex_bipush (q := 18) (v := (-2)) dX11_tryUndoing_16 (by decide) ?_
      exact ex_ireturn dX11_tryUndoing_18 rfl (Or.inl rfl) w

theorem X11_tryUndoing_e {d bc bs : Nat} {h : AH} {Q : Option Value → AH → Prop} {a_0 : Nat} {v_1 : Int32} {v_2 : Int32} (w : ex_G mX11_tryUndoing (d + 5) 0 [.ref a_0, .int v_1, .int v_2] [] h bc bs Q) : ex_S yX11_tryUndoing mX11_tryUndoing (d + 5) [.ref a_0, .int v_1, .int v_2] h bc bs Q :=
  ex_enter (plainFor_of_name (by decide +kernel)) ⟨rfl, rfl⟩ rfl rfl (Nat.le_of_ble_eq_true rfl) (ex_pad 0 w)

set_option maxRecDepth 100000 in
theorem X11_settle_0 {d bc bs : Nat} {h : AH} {Q : Option Value → AH → Prop} {a_0 : Nat} {v_1 : Int32} {v_2 : Int32} (w : ((v_2 = 1 → ah_o h a_0 11 ∧ ∃ a3, ah_r h a_0 0 = some a3 ∧ ld3 h 11 a3 v_1 ∧ ∃ a5, ah_q h a3 (Int32.toNatClampNeg v_1) = some a5 ∧ ah_o h a5 7 ∧ ex_S yX7_remember mX7_remember (d + 1) [.ref a5] h 1 1620 (fun r h6 => r = none ∧ ah_o h6 a_0 11 ∧ ∃ a9, ah_r h6 a_0 0 = some a9 ∧ ld3 h6 11 a9 v_1 ∧ ∃ a11, ah_q h6 a9 (Int32.toNatClampNeg v_1) = some a11 ∧ ∃ a12, ah_r h6 a_0 6 = some a12 ∧ ah_o h6 a11 7 ∧ ex_S yX7_take mX7_take (d + 1) [.ref a11, .ref a12] h6 0 0 (fun r h13 => r = none ∧ ah_o h13 a_0 11 ∧ X11_grant_C a_0 1 h13 ∧ ∀ h17, h17 = X11_grant_H a_0 1 h13 → Q (some (.int (X11_grant_V a_0 1 h13))) h17))) ∧ (¬ v_2 = 1 → ah_o h a_0 11 ∧ ex_S yX11_refuse mX11_refuse (d + 1) [.ref a_0, .int v_2] h 0 0 (fun r h18 => ∃ x20, r = some (.int x20) ∧ Q (some (.int x20)) h18)))) : ex_G mX11_settle (d + 2) 0 [.ref a_0, .int v_1, .int v_2] [] h (bc + 1) (bs + 1620) Q := by
  refine ex_iload_n (q := 1) (x := v_2) dX11_settle_0 rfl ?_
  refine ex_iconst (q := 2) (v := 1) dX11_settle_1 (by decide) ?_
  refine ex_icmp_eq (tgt := 11) (q := 5) dX11_settle_2 (fun c1 => ?_) (fun c1 => ?_)
  · replace w := w.1 c1
    refine ex_aload_n (q := 12) (x := a_0) dX11_settle_11 rfl ?_
    have s2 := w.1
    replace w := w.2
    obtain ⟨a3, ea3, w⟩ := w
    refine ex_getr (q := 15) dX11_settle_12 fl_X11_11 s2 ea3 ?_
    refine ex_iload_n (q := 16) (x := v_1) dX11_settle_15 rfl ?_
    have s4 := w.1
    replace w := w.2
    obtain ⟨a5, ea5, w⟩ := w
    refine ex_aald (q := 17) dX11_settle_16 s4 ea5 ?_
    refine ex_G.room (bc' := bc + 1) (bs' := bs + 1620) (Nat.le_refl _) (Nat.le_refl _) (Nat.le_refl _) ?_
    have s7 := w.1
    replace w := w.2
    refine ex_callV (q := 20) (M := mX11_settle) (hdd := Nat.le_refl _) (c := 7) (st := []) (bc := bc) (bs := bs) dX11_settle_17 rfl cl_X11_201 wd_706 wd_707 s7 w ?_
    rintro r h6 ⟨rfl, w⟩
    show ex_G mX11_settle (d + 2) 20 [.ref a_0, .int v_1, .int v_2] [] h6 bc bs Q
    refine ex_aload_n (q := 21) (x := a_0) dX11_settle_20 rfl ?_
    have s8 := w.1
    replace w := w.2
    obtain ⟨a9, ea9, w⟩ := w
    refine ex_getr (q := 24) dX11_settle_21 fl_X11_11 s8 ea9 ?_
    refine ex_iload_n (q := 25) (x := v_1) dX11_settle_24 rfl ?_
    have s10 := w.1
    replace w := w.2
    obtain ⟨a11, ea11, w⟩ := w
    refine ex_aald (q := 26) dX11_settle_25 s10 ea11 ?_
    refine ex_aload_n (q := 27) (x := a_0) dX11_settle_26 rfl ?_
    obtain ⟨a12, ea12, w⟩ := w
    refine ex_getr (q := 30) dX11_settle_27 fl_X11_44 s8 ea12 ?_
    have s14 := w.1
    replace w := w.2
    refine ex_callV (q := 33) (M := mX11_settle) (hdd := Nat.le_refl _) (c := 7) (st := []) (bc := bc) (bs := bs) dX11_settle_30 rfl cl_X11_113 wd_568 wd_569 s14 w ?_
    rintro r h13 ⟨rfl, w⟩
    show ex_G mX11_settle (d + 2) 33 [.ref a_0, .int v_1, .int v_2] [] h13 bc bs Q
    refine ex_aload_n (q := 34) (x := a_0) dX11_settle_33 rfl ?_
    refine ex_iconst (q := 35) (v := 1) dX11_settle_34 (by decide) ?_
    have s15 := w.1
    replace w := w.2
    have s16 := w.1
    replace w := w.2
    refine ex_callV (q := 38) (M := mX11_settle) (hdd := Nat.le_refl _) (mc := 0) (ms := 0) (d' := (d + 1)) (c := 11) (st := []) (bc := bc) (bs := bs) dX11_settle_35 rfl cl_X11_131 wd_576 wd_3 s15 (X11_grant_s (Q := fun r z => r = some (.int (X11_grant_V a_0 1 h13)) ∧ z = X11_grant_H a_0 1 h13) s16 ⟨rfl, rfl⟩) ?_
    intro r z hrz
    rw [hrz.1, hrz.2]
    show ex_G mX11_settle (d + 2) 38 [.ref a_0, .int v_1, .int v_2] [.int (X11_grant_V a_0 1 h13)] (X11_grant_H a_0 1 h13) bc bs Q
    refine ex_nmh (fun h17 eh17 => ?_)
    replace w := w h17 eh17
    exact ex_ireturn dX11_settle_38 rfl (Or.inl rfl) w
  · replace w := w.2 c1
    refine ex_aload_n (q := 6) (x := a_0) dX11_settle_5 rfl ?_
    refine ex_iload_n (q := 7) (x := v_2) dX11_settle_6 rfl ?_
    have s19 := w.1
    replace w := w.2
    refine ex_callV (q := 10) (M := mX11_settle) (hdd := Nat.le_refl _) (c := 11) (st := []) (bc := (bc + 1)) (bs := (bs + 1620)) dX11_settle_7 rfl cl_X11_120 wd_557 wd_1 s19 w ?_
    rintro r h18 ⟨x20, rfl, w⟩
    show ex_G mX11_settle (d + 2) 10 [.ref a_0, .int v_1, .int v_2] [.int x20] h18 (bc + 1) (bs + 1620) Q
    exact ex_ireturn dX11_settle_10 rfl (Or.inl rfl) w

theorem X11_settle_e {d bc bs : Nat} {h : AH} {Q : Option Value → AH → Prop} {a_0 : Nat} {v_1 : Int32} {v_2 : Int32} (w : ex_G mX11_settle (d + 2) 0 [.ref a_0, .int v_1, .int v_2] [] h bc bs Q) : ex_S yX11_settle mX11_settle (d + 2) [.ref a_0, .int v_1, .int v_2] h bc bs Q :=
  ex_enter (plainFor_of_name (by decide +kernel)) ⟨rfl, rfl⟩ rfl rfl (Nat.le_of_ble_eq_true rfl) (ex_pad 0 w)

set_option maxRecDepth 100000 in
theorem X11_may_0 {d bc bs : Nat} {h : AH} {Q : Option Value → AH → Prop} {a_0 : Nat} {v_1 : Int32} {v_2 : Int32} (w : ah_o h a_0 11 ∧ ex_S yX11_tryMove mX11_tryMove (d + 5) [.ref a_0, .int v_1, .int v_2] h 0 0 (fun r h1 => ∃ x3, r = some (.int x3) ∧ ((¬ x3 = 1 → ah_o h1 a_0 11 ∧ ex_S yX11_refuse mX11_refuse (d + 5) [.ref a_0, .int x3] h1 0 0 (fun r h5 => ∃ x7, r = some (.int x7) ∧ Q (some (.int x7)) h5)) ∧ (x3 = 1 → ah_o h1 a_0 11 ∧ X11_grant_C a_0 1 h1 ∧ ∀ h10, h10 = X11_grant_H a_0 1 h1 → Q (some (.int (X11_grant_V a_0 1 h1))) h10)))) : ex_G mX11_may (d + 6) 0 [.ref a_0, .int v_1, .int v_2, .retAddr 0] [] h bc bs Q := by
  refine ex_aload_n (q := 1) (x := a_0) dX11_may_0 rfl ?_
  refine ex_iload_n (q := 2) (x := v_1) dX11_may_1 rfl ?_
  refine ex_iload_n (q := 3) (x := v_2) dX11_may_2 rfl ?_
  have s2 := w.1
  replace w := w.2
  refine ex_callV (q := 6) (M := mX11_may) (hdd := Nat.le_refl _) (c := 11) (st := []) (bc := bc) (bs := bs) dX11_may_3 rfl cl_X11_336 wd_1051 wd_28 s2 w ?_
  rintro r h1 ⟨x3, rfl, w⟩
  show ex_G mX11_may (d + 6) 6 [.ref a_0, .int v_1, .int v_2, .retAddr 0] [.int x3] h1 bc bs Q
  refine ex_istore_n (q := 7) (ls' := [.ref a_0, .int v_1, .int v_2, .int x3]) dX11_may_6 rfl ?_
  refine ex_iload_n (q := 8) (x := x3) dX11_may_7 rfl ?_
  refine ex_iconst (q := 9) (v := 1) dX11_may_8 (by decide) ?_
  refine ex_icmp_ne (tgt := 20) (q := 12) dX11_may_9 (fun c4 => ?_) (fun c4 => ?_)
  · replace w := w.1 c4
    refine ex_aload_n (q := 21) (x := a_0) dX11_may_20 rfl ?_
    refine ex_iload_n (q := 22) (x := x3) dX11_may_21 rfl ?_
    have s6 := w.1
    replace w := w.2
    refine ex_callV (q := 25) (M := mX11_may) (hdd := Nat.le_refl _) (c := 11) (st := []) (bc := bc) (bs := bs) dX11_may_22 rfl cl_X11_120 wd_557 wd_1 s6 w ?_
    rintro r h5 ⟨x7, rfl, w⟩
    show ex_G mX11_may (d + 6) 25 [.ref a_0, .int v_1, .int v_2, .int x3] [.int x7] h5 bc bs Q
    exact ex_ireturn dX11_may_25 rfl (Or.inl rfl) w
  · replace w := w.2 c4
    refine ex_aload_n (q := 13) (x := a_0) dX11_may_12 rfl ?_
    refine ex_iconst (q := 14) (v := 1) dX11_may_13 (by decide) ?_
    have s8 := w.1
    replace w := w.2
    have s9 := w.1
    replace w := w.2
    refine ex_callV (q := 17) (M := mX11_may) (hdd := Nat.le_refl _) (mc := 0) (ms := 0) (d' := (d + 5)) (c := 11) (st := []) (bc := bc) (bs := bs) dX11_may_14 rfl cl_X11_131 wd_576 wd_3 s8 (X11_grant_s (Q := fun r z => r = some (.int (X11_grant_V a_0 1 h1)) ∧ z = X11_grant_H a_0 1 h1) s9 ⟨rfl, rfl⟩) ?_
    intro r z hrz
    rw [hrz.1, hrz.2]
    show ex_G mX11_may (d + 6) 17 [.ref a_0, .int v_1, .int v_2, .int x3] [.int (X11_grant_V a_0 1 h1)] (X11_grant_H a_0 1 h1) bc bs Q
    refine ex_nmh (fun h10 eh10 => ?_)
    replace w := w h10 eh10
    refine ex_goto (tgt := 25) dX11_may_17 ?_
    exact ex_ireturn dX11_may_25 rfl (Or.inl rfl) w

theorem X11_may_e {d bc bs : Nat} {h : AH} {Q : Option Value → AH → Prop} {a_0 : Nat} {v_1 : Int32} {v_2 : Int32} (w : ex_G mX11_may (d + 6) 0 [.ref a_0, .int v_1, .int v_2, .retAddr 0] [] h bc bs Q) : ex_S yX11_may mX11_may (d + 6) [.ref a_0, .int v_1, .int v_2] h bc bs Q :=
  ex_enter (plainFor_of_name (by decide +kernel)) ⟨rfl, rfl⟩ rfl rfl (Nat.le_of_ble_eq_true rfl) (ex_pad 1 w)

set_option maxRecDepth 100000 in
theorem X11_does_0 {d bc bs : Nat} {h : AH} {Q : Option Value → AH → Prop} {a_0 : Nat} {v_1 : Int32} {v_2 : Int32} (w : ah_o h a_0 11 ∧ ex_S yX11_tryMove mX11_tryMove (d + 5) [.ref a_0, .int v_1, .int v_2] h 0 0 (fun r h1 => ∃ x3, r = some (.int x3) ∧ ah_o h1 a_0 11 ∧ ex_S yX11_settle mX11_settle (d + 5) [.ref a_0, .int v_1, .int x3] h1 1 1620 (fun r h4 => ∃ x6, r = some (.int x6) ∧ Q (some (.int x6)) h4))) : ex_G mX11_does (d + 6) 0 [.ref a_0, .int v_1, .int v_2] [] h (bc + 1) (bs + 1620) Q := by
  refine ex_aload_n (q := 1) (x := a_0) dX11_does_0 rfl ?_
  refine ex_iload_n (q := 2) (x := v_1) dX11_does_1 rfl ?_
  refine ex_aload_n (q := 3) (x := a_0) dX11_does_2 rfl ?_
  refine ex_iload_n (q := 4) (x := v_1) dX11_does_3 rfl ?_
  refine ex_iload_n (q := 5) (x := v_2) dX11_does_4 rfl ?_
  have s2 := w.1
  replace w := w.2
  refine ex_callV (q := 8) (M := mX11_does) (hdd := Nat.le_refl _) (c := 11) (st := [.int v_1, .ref a_0]) (bc := (bc + 1)) (bs := (bs + 1620)) dX11_does_5 rfl cl_X11_336 wd_1051 wd_28 s2 w ?_
  rintro r h1 ⟨x3, rfl, w⟩
  show ex_G mX11_does (d + 6) 8 [.ref a_0, .int v_1, .int v_2] [.int x3, .int v_1, .ref a_0] h1 (bc + 1) (bs + 1620) Q
  refine ex_G.room (bc' := bc + 1) (bs' := bs + 1620) (Nat.le_refl _) (Nat.le_refl _) (Nat.le_refl _) ?_
  have s5 := w.1
  replace w := w.2
  refine ex_callV (q := 11) (M := mX11_does) (hdd := Nat.le_refl _) (c := 11) (st := []) (bc := bc) (bs := bs) dX11_does_8 rfl cl_X11_339 wd_1136 wd_35 s5 w ?_
  rintro r h4 ⟨x6, rfl, w⟩
  show ex_G mX11_does (d + 6) 11 [.ref a_0, .int v_1, .int v_2] [.int x6] h4 bc bs Q
  exact ex_ireturn dX11_does_11 rfl (Or.inl rfl) w

theorem X11_does_e {d bc bs : Nat} {h : AH} {Q : Option Value → AH → Prop} {a_0 : Nat} {v_1 : Int32} {v_2 : Int32} (w : ex_G mX11_does (d + 6) 0 [.ref a_0, .int v_1, .int v_2] [] h bc bs Q) : ex_S yX11_does mX11_does (d + 6) [.ref a_0, .int v_1, .int v_2] h bc bs Q :=
  ex_enter (plainFor_of_name (by decide +kernel)) ⟨rfl, rfl⟩ rfl rfl (Nat.le_of_ble_eq_true rfl) (ex_pad 0 w)

set_option maxRecDepth 100000 in
theorem X11_undoes_0 {d bc bs : Nat} {h : AH} {Q : Option Value → AH → Prop} {a_0 : Nat} {v_1 : Int32} {v_2 : Int32} (w : ah_o h a_0 11 ∧ ex_S yX11_tryUndoing mX11_tryUndoing (d + 5) [.ref a_0, .int v_1, .int v_2] h 0 0 (fun r h1 => ∃ x3, r = some (.int x3) ∧ ah_o h1 a_0 11 ∧ ex_S yX11_settle mX11_settle (d + 5) [.ref a_0, .int v_1, .int x3] h1 1 1620 (fun r h4 => ∃ x6, r = some (.int x6) ∧ Q (some (.int x6)) h4))) : ex_G mX11_undoes (d + 6) 0 [.ref a_0, .int v_1, .int v_2] [] h (bc + 1) (bs + 1620) Q := by
  refine ex_aload_n (q := 1) (x := a_0) dX11_undoes_0 rfl ?_
  refine ex_iload_n (q := 2) (x := v_1) dX11_undoes_1 rfl ?_
  refine ex_aload_n (q := 3) (x := a_0) dX11_undoes_2 rfl ?_
  refine ex_iload_n (q := 4) (x := v_1) dX11_undoes_3 rfl ?_
  refine ex_iload_n (q := 5) (x := v_2) dX11_undoes_4 rfl ?_
  have s2 := w.1
  replace w := w.2
  refine ex_callV (q := 8) (M := mX11_undoes) (hdd := Nat.le_refl _) (c := 11) (st := [.int v_1, .ref a_0]) (bc := (bc + 1)) (bs := (bs + 1620)) dX11_undoes_5 rfl cl_X11_342 wd_1144 wd_36 s2 w ?_
  rintro r h1 ⟨x3, rfl, w⟩
  show ex_G mX11_undoes (d + 6) 8 [.ref a_0, .int v_1, .int v_2] [.int x3, .int v_1, .ref a_0] h1 (bc + 1) (bs + 1620) Q
  refine ex_G.room (bc' := bc + 1) (bs' := bs + 1620) (Nat.le_refl _) (Nat.le_refl _) (Nat.le_refl _) ?_
  have s5 := w.1
  replace w := w.2
  refine ex_callV (q := 11) (M := mX11_undoes) (hdd := Nat.le_refl _) (c := 11) (st := []) (bc := bc) (bs := bs) dX11_undoes_8 rfl cl_X11_339 wd_1136 wd_35 s5 w ?_
  rintro r h4 ⟨x6, rfl, w⟩
  show ex_G mX11_undoes (d + 6) 11 [.ref a_0, .int v_1, .int v_2] [.int x6] h4 bc bs Q
  exact ex_ireturn dX11_undoes_11 rfl (Or.inl rfl) w

theorem X11_undoes_e {d bc bs : Nat} {h : AH} {Q : Option Value → AH → Prop} {a_0 : Nat} {v_1 : Int32} {v_2 : Int32} (w : ex_G mX11_undoes (d + 6) 0 [.ref a_0, .int v_1, .int v_2] [] h bc bs Q) : ex_S yX11_undoes mX11_undoes (d + 6) [.ref a_0, .int v_1, .int v_2] h bc bs Q :=
  ex_enter (plainFor_of_name (by decide +kernel)) ⟨rfl, rfl⟩ rfl rfl (Nat.le_of_ble_eq_true rfl) (ex_pad 0 w)

set_option maxRecDepth 100000 in
theorem X11_like_0 {d bc bs : Nat} {h : AH} {Q : Option Value → AH → Prop} {a_0 : Nat} {v_1 : Int32} {v_2 : Int32} (w : ah_o h a_0 11 ∧ X11_hasPicture_C a_0 v_1 h ∧ (((X11_hasPicture_V a_0 v_1 h) = 0 → ex_S yX11_refuse mX11_refuse (d + 4) [.ref a_0, .int (-2)] h 0 0 (fun r h4 => ∃ x5, r = some (.int x5) ∧ Q (some (.int x5)) h4)) ∧ (¬ (X11_hasPicture_V a_0 v_1 h) = 0 → X11_hasPicture_C a_0 v_2 h ∧ ((¬ (X11_hasPicture_V a_0 v_2 h) = 0 → ∃ a8, ah_r h a_0 4 = some a8 ∧ ex_S yX11_isWhole mX11_isWhole (d + 4) [.ref a_0, .int v_1, .ref a8] h 0 0 (fun r h9 => ∃ x10, r = some (.int x10) ∧ ((x10 = 0 → ah_o h9 a_0 11 ∧ ex_S yX11_refuse mX11_refuse (d + 4) [.ref a_0, .int (-13)] h9 0 0 (fun r h12 => ∃ x14, r = some (.int x14) ∧ Q (some (.int x14)) h12)) ∧ (¬ x10 = 0 → ah_o h9 a_0 11 ∧ ∃ a16, ah_r h9 a_0 5 = some a16 ∧ ex_S yX11_isWhole mX11_isWhole (d + 4) [.ref a_0, .int v_2, .ref a16] h9 0 0 (fun r h17 => ∃ x18, r = some (.int x18) ∧ ((¬ x18 = 0 → ah_o h17 a_0 11 ∧ ∃ a21, ah_r h17 a_0 4 = some a21 ∧ ah_o h17 a21 4 ∧ ∃ a23, ah_r h17 a_0 5 = some a23 ∧ ah_o h17 a23 4 ∧ ((¬ (ah_f h17 a21 10) = (ah_f h17 a23 10) → X11_grant_C a_0 0 h17 ∧ ∀ h27, h27 = X11_grant_H a_0 0 h17 → Q (some (.int (X11_grant_V a_0 0 h17))) h27) ∧ ((ah_f h17 a21 10) = (ah_f h17 a23 10) → (((ah_f h17 a21 11) = (ah_f h17 a23 11) → ∃ a29, ah_r h17 a_0 12 = some a29 ∧ ah_o h17 a29 8 ∧ ∃ a31, ah_r h17 a29 2 = some a31 ∧ ∃ a32, ah_r h17 a21 0 = some a32 ∧ ∃ a33, ah_r h17 a23 0 = some a33 ∧ ah_o h17 a31 3 ∧ ex_S yX3_holds mX3_holds (d + 4) [.ref a31, .ref a32, .ref a33, .int (ah_f h17 a21 10)] h17 0 0 (fun r h34 => ∃ x36, r = some (.int x36) ∧ ((x36 = 0 → ah_o h34 a_0 11 ∧ X11_grant_C a_0 0 h34 ∧ ∀ h40, h40 = X11_grant_H a_0 0 h34 → Q (some (.int (X11_grant_V a_0 0 h34))) h40) ∧ (¬ x36 = 0 → ah_o h34 a_0 11 ∧ X11_grant_C a_0 1 h34 ∧ ∀ h43, h43 = X11_grant_H a_0 1 h34 → Q (some (.int (X11_grant_V a_0 1 h34))) h43)))) ∧ (¬ (ah_f h17 a21 11) = (ah_f h17 a23 11) → X11_grant_C a_0 0 h17 ∧ ∀ h45, h45 = X11_grant_H a_0 0 h17 → Q (some (.int (X11_grant_V a_0 0 h17))) h45))))) ∧ (x18 = 0 → ah_o h17 a_0 11 ∧ ex_S yX11_refuse mX11_refuse (d + 4) [.ref a_0, .int (-13)] h17 0 0 (fun r h46 => ∃ x48, r = some (.int x48) ∧ Q (some (.int x48)) h46)))))))) ∧ ((X11_hasPicture_V a_0 v_2 h) = 0 → ex_S yX11_refuse mX11_refuse (d + 4) [.ref a_0, .int (-2)] h 0 0 (fun r h49 => ∃ x50, r = some (.int x50) ∧ Q (some (.int x50)) h49)))))) : ex_G mX11_like (d + 5) 0 [.ref a_0, .int v_1, .int v_2] [] h bc bs Q := by
  refine ex_aload_n (q := 1) (x := a_0) dX11_like_0 rfl ?_
  refine ex_iload_n (q := 2) (x := v_1) dX11_like_1 rfl ?_
  have s1 := w.1
  replace w := w.2
  have s2 := w.1
  replace w := w.2
  refine ex_callV (q := 5) (M := mX11_like) (hdd := Nat.le_refl _) (mc := 0) (ms := 0) (d' := (d + 4)) (c := 11) (st := []) (bc := bc) (bs := bs) dX11_like_2 rfl cl_X11_134 wd_584 wd_4 s1 (X11_hasPicture_s (Q := fun r z => r = some (.int (X11_hasPicture_V a_0 v_1 h)) ∧ z = h) s2 ⟨rfl, rfl⟩) ?_
  intro r z hrz
  rw [hrz.1, hrz.2]
  show ex_G mX11_like (d + 5) 5 [.ref a_0, .int v_1, .int v_2] [.int (X11_hasPicture_V a_0 v_1 h)] (h) bc bs Q
  refine ex_if_eq (tgt := 16) (q := 8) dX11_like_5 (fun c3 => ?_) (fun c3 => ?_)
  · replace w := w.1 c3
    refine ex_aload_n (q := 17) (x := a_0) dX11_like_16 rfl ?_
    refine ex_bipush (q := 19) (v := (-2)) dX11_like_17 (by decide) ?_
    refine ex_callV (q := 22) (M := mX11_like) (hdd := Nat.le_refl _) (c := 11) (st := []) (bc := bc) (bs := bs) dX11_like_19 rfl cl_X11_120 wd_557 wd_1 s1 w ?_
    rintro r h4 ⟨x5, rfl, w⟩
    show ex_G mX11_like (d + 5) 22 [.ref a_0, .int v_1, .int v_2] [.int x5] h4 bc bs Q
    exact ex_ireturn dX11_like_22 rfl (Or.inl rfl) w
  · replace w := w.2 c3
    refine ex_aload_n (q := 9) (x := a_0) dX11_like_8 rfl ?_
    refine ex_iload_n (q := 10) (x := v_2) dX11_like_9 rfl ?_
    have s6 := w.1
    replace w := w.2
    refine ex_callV (q := 13) (M := mX11_like) (hdd := Nat.le_refl _) (mc := 0) (ms := 0) (d' := (d + 4)) (c := 11) (st := []) (bc := bc) (bs := bs) dX11_like_10 rfl cl_X11_134 wd_584 wd_4 s1 (X11_hasPicture_s (Q := fun r z => r = some (.int (X11_hasPicture_V a_0 v_2 h)) ∧ z = h) s6 ⟨rfl, rfl⟩) ?_
    intro r z hrz
    rw [hrz.1, hrz.2]
    show ex_G mX11_like (d + 5) 13 [.ref a_0, .int v_1, .int v_2] [.int (X11_hasPicture_V a_0 v_2 h)] (h) bc bs Q
    refine ex_if_ne (tgt := 23) (q := 16) dX11_like_13 (fun c7 => ?_) (fun c7 => ?_)
    · replace w := w.1 c7
      refine ex_aload_n (q := 24) (x := a_0) dX11_like_23 rfl ?_
      refine ex_iload_n (q := 25) (x := v_1) dX11_like_24 rfl ?_
      refine ex_aload_n (q := 26) (x := a_0) dX11_like_25 rfl ?_
      obtain ⟨a8, ea8, w⟩ := w
      refine ex_getr (q := 29) dX11_like_26 fl_X11_36 s1 ea8 ?_
      refine ex_callV (q := 32) (M := mX11_like) (hdd := Nat.le_refl _) (c := 11) (st := []) (bc := bc) (bs := bs) dX11_like_29 rfl cl_X11_184 wd_695 wd_13 s1 w ?_
      rintro r h9 ⟨x10, rfl, w⟩
      show ex_G mX11_like (d + 5) 32 [.ref a_0, .int v_1, .int v_2] [.int x10] h9 bc bs Q
      refine ex_if_eq (tgt := 47) (q := 35) dX11_like_32 (fun c11 => ?_) (fun c11 => ?_)
      · replace w := w.1 c11
        refine ex_aload_n (q := 48) (x := a_0) dX11_like_47 rfl ?_
        refine ex_bipush (q := 50) (v := (-13)) dX11_like_48 (by decide) ?_
        have s13 := w.1
        replace w := w.2
        refine ex_callV (q := 53) (M := mX11_like) (hdd := Nat.le_refl _) (c := 11) (st := []) (bc := bc) (bs := bs) dX11_like_50 rfl cl_X11_120 wd_557 wd_1 s13 w ?_
        rintro r h12 ⟨x14, rfl, w⟩
        show ex_G mX11_like (d + 5) 53 [.ref a_0, .int v_1, .int v_2] [.int x14] h12 bc bs Q
        exact ex_ireturn dX11_like_53 rfl (Or.inl rfl) w
      · replace w := w.2 c11
        refine ex_aload_n (q := 36) (x := a_0) dX11_like_35 rfl ?_
        refine ex_iload_n (q := 37) (x := v_2) dX11_like_36 rfl ?_
        refine ex_aload_n (q := 38) (x := a_0) dX11_like_37 rfl ?_
        have s15 := w.1
        replace w := w.2
        obtain ⟨a16, ea16, w⟩ := w
        refine ex_getr (q := 41) dX11_like_38 fl_X11_40 s15 ea16 ?_
        refine ex_callV (q := 44) (M := mX11_like) (hdd := Nat.le_refl _) (c := 11) (st := []) (bc := bc) (bs := bs) dX11_like_41 rfl cl_X11_184 wd_695 wd_13 s15 w ?_
        rintro r h17 ⟨x18, rfl, w⟩
        show ex_G mX11_like (d + 5) 44 [.ref a_0, .int v_1, .int v_2] [.int x18] h17 bc bs Q
        refine ex_if_ne (tgt := 54) (q := 47) dX11_like_44 (fun c19 => ?_) (fun c19 => ?_)
        · replace w := w.1 c19
          refine ex_aload_n (q := 55) (x := a_0) dX11_like_54 rfl ?_
          have s20 := w.1
          replace w := w.2
          obtain ⟨a21, ea21, w⟩ := w
          refine ex_getr (q := 58) dX11_like_55 fl_X11_36 s20 ea21 ?_
          have s22 := w.1
          replace w := w.2
          refine ex_getf (q := 61) dX11_like_58 fl_X11_213 s22 ?_
          refine ex_aload_n (q := 62) (x := a_0) dX11_like_61 rfl ?_
          obtain ⟨a23, ea23, w⟩ := w
          refine ex_getr (q := 65) dX11_like_62 fl_X11_40 s20 ea23 ?_
          have s24 := w.1
          replace w := w.2
          refine ex_getf (q := 68) dX11_like_65 fl_X11_213 s24 ?_
          refine ex_icmp_ne (tgt := 88) (q := 71) dX11_like_68 (fun c25 => ?_) (fun c25 => ?_)
          · replace w := w.1 c25
            refine ex_aload_n (q := 89) (x := a_0) dX11_like_88 rfl ?_
            refine ex_iconst (q := 90) (v := 0) dX11_like_89 (by decide) ?_
            have s26 := w.1
            replace w := w.2
            refine ex_callV (q := 93) (M := mX11_like) (hdd := Nat.le_refl _) (mc := 0) (ms := 0) (d' := (d + 4)) (c := 11) (st := []) (bc := bc) (bs := bs) dX11_like_90 rfl cl_X11_131 wd_576 wd_3 s20 (X11_grant_s (Q := fun r z => r = some (.int (X11_grant_V a_0 0 h17)) ∧ z = X11_grant_H a_0 0 h17) s26 ⟨rfl, rfl⟩) ?_
            intro r z hrz
            rw [hrz.1, hrz.2]
            show ex_G mX11_like (d + 5) 93 [.ref a_0, .int v_1, .int v_2] [.int (X11_grant_V a_0 0 h17)] (X11_grant_H a_0 0 h17) bc bs Q
            refine ex_nmh (fun h27 eh27 => ?_)
            replace w := w h27 eh27
            exact ex_ireturn dX11_like_93 rfl (Or.inl rfl) w
          · replace w := w.2 c25
            refine ex_aload_n (q := 72) (x := a_0) dX11_like_71 rfl ?_
            refine ex_getr (q := 75) dX11_like_72 fl_X11_36 s20 ea21 ?_
            refine ex_getf (q := 78) dX11_like_75 fl_X11_214 s22 ?_
            refine ex_aload_n (q := 79) (x := a_0) dX11_like_78 rfl ?_
            refine ex_getr (q := 82) dX11_like_79 fl_X11_40 s20 ea23 ?_
            refine ex_getf (q := 85) dX11_like_82 fl_X11_214 s24 ?_
            refine ex_icmp_eq (tgt := 94) (q := 88) dX11_like_85 (fun c28 => ?_) (fun c28 => ?_)
            · replace w := w.1 c28
              refine ex_aload_n (q := 95) (x := a_0) dX11_like_94 rfl ?_
              refine ex_aload_n (q := 96) (x := a_0) dX11_like_95 rfl ?_
              obtain ⟨a29, ea29, w⟩ := w
              refine ex_getr (q := 99) dX11_like_96 fl_X11_78 s20 ea29 ?_
              have s30 := w.1
              replace w := w.2
              obtain ⟨a31, ea31, w⟩ := w
              refine ex_getr (q := 102) dX11_like_99 fl_X11_345 s30 ea31 ?_
              refine ex_aload_n (q := 103) (x := a_0) dX11_like_102 rfl ?_
              refine ex_getr (q := 106) dX11_like_103 fl_X11_36 s20 ea21 ?_
              obtain ⟨a32, ea32, w⟩ := w
              refine ex_getr (q := 109) dX11_like_106 fl_X11_222 s22 ea32 ?_
              refine ex_aload_n (q := 110) (x := a_0) dX11_like_109 rfl ?_
              refine ex_getr (q := 113) dX11_like_110 fl_X11_40 s20 ea23 ?_
              obtain ⟨a33, ea33, w⟩ := w
              refine ex_getr (q := 116) dX11_like_113 fl_X11_222 s24 ea33 ?_
              refine ex_aload_n (q := 117) (x := a_0) dX11_like_116 rfl ?_
              refine ex_getr (q := 120) dX11_like_117 fl_X11_36 s20 ea21 ?_
              refine ex_getf (q := 123) dX11_like_120 fl_X11_213 s22 ?_
              have s35 := w.1
              replace w := w.2
              refine ex_callV (q := 126) (M := mX11_like) (hdd := Nat.le_refl _) (c := 3) (st := [.ref a_0]) (bc := bc) (bs := bs) dX11_like_123 rfl cl_X11_349 wd_1177 wd_1178 s35 w ?_
              rintro r h34 ⟨x36, rfl, w⟩
              show ex_G mX11_like (d + 5) 126 [.ref a_0, .int v_1, .int v_2] [.int x36, .ref a_0] h34 bc bs Q
              refine ex_if_eq (tgt := 133) (q := 129) dX11_like_126 (fun c37 => ?_) (fun c37 => ?_)
              · replace w := w.1 c37
                refine ex_iconst (q := 134) (v := 0) dX11_like_133 (by decide) ?_
                have s38 := w.1
                replace w := w.2
                have s39 := w.1
                replace w := w.2
                refine ex_callV (q := 137) (M := mX11_like) (hdd := Nat.le_refl _) (mc := 0) (ms := 0) (d' := (d + 4)) (c := 11) (st := []) (bc := bc) (bs := bs) dX11_like_134 rfl cl_X11_131 wd_576 wd_3 s38 (X11_grant_s (Q := fun r z => r = some (.int (X11_grant_V a_0 0 h34)) ∧ z = X11_grant_H a_0 0 h34) s39 ⟨rfl, rfl⟩) ?_
                intro r z hrz
                rw [hrz.1, hrz.2]
                show ex_G mX11_like (d + 5) 137 [.ref a_0, .int v_1, .int v_2] [.int (X11_grant_V a_0 0 h34)] (X11_grant_H a_0 0 h34) bc bs Q
                refine ex_nmh (fun h40 eh40 => ?_)
                replace w := w h40 eh40
                exact ex_ireturn dX11_like_137 rfl (Or.inl rfl) w
              · replace w := w.2 c37
                refine ex_iconst (q := 130) (v := 1) dX11_like_129 (by decide) ?_
                refine ex_goto (tgt := 134) dX11_like_130 ?_
                have s41 := w.1
                replace w := w.2
                have s42 := w.1
                replace w := w.2
                refine ex_callV (q := 137) (M := mX11_like) (hdd := Nat.le_refl _) (mc := 0) (ms := 0) (d' := (d + 4)) (c := 11) (st := []) (bc := bc) (bs := bs) dX11_like_134 rfl cl_X11_131 wd_576 wd_3 s41 (X11_grant_s (Q := fun r z => r = some (.int (X11_grant_V a_0 1 h34)) ∧ z = X11_grant_H a_0 1 h34) s42 ⟨rfl, rfl⟩) ?_
                intro r z hrz
                rw [hrz.1, hrz.2]
                show ex_G mX11_like (d + 5) 137 [.ref a_0, .int v_1, .int v_2] [.int (X11_grant_V a_0 1 h34)] (X11_grant_H a_0 1 h34) bc bs Q
                refine ex_nmh (fun h43 eh43 => ?_)
                replace w := w h43 eh43
                exact ex_ireturn dX11_like_137 rfl (Or.inl rfl) w
            · replace w := w.2 c28
              refine ex_aload_n (q := 89) (x := a_0) dX11_like_88 rfl ?_
              refine ex_iconst (q := 90) (v := 0) dX11_like_89 (by decide) ?_
              have s44 := w.1
              replace w := w.2
              refine ex_callV (q := 93) (M := mX11_like) (hdd := Nat.le_refl _) (mc := 0) (ms := 0) (d' := (d + 4)) (c := 11) (st := []) (bc := bc) (bs := bs) dX11_like_90 rfl cl_X11_131 wd_576 wd_3 s20 (X11_grant_s (Q := fun r z => r = some (.int (X11_grant_V a_0 0 h17)) ∧ z = X11_grant_H a_0 0 h17) s44 ⟨rfl, rfl⟩) ?_
              intro r z hrz
              rw [hrz.1, hrz.2]
              show ex_G mX11_like (d + 5) 93 [.ref a_0, .int v_1, .int v_2] [.int (X11_grant_V a_0 0 h17)] (X11_grant_H a_0 0 h17) bc bs Q
              refine ex_nmh (fun h45 eh45 => ?_)
              replace w := w h45 eh45
              exact ex_ireturn dX11_like_93 rfl (Or.inl rfl) w
        · replace w := w.2 c19
          refine ex_aload_n (q := 48) (x := a_0) dX11_like_47 rfl ?_
          refine ex_bipush (q := 50) (v := (-13)) dX11_like_48 (by decide) ?_
          have s47 := w.1
          replace w := w.2
          refine ex_callV (q := 53) (M := mX11_like) (hdd := Nat.le_refl _) (c := 11) (st := []) (bc := bc) (bs := bs) dX11_like_50 rfl cl_X11_120 wd_557 wd_1 s47 w ?_
          rintro r h46 ⟨x48, rfl, w⟩
          show ex_G mX11_like (d + 5) 53 [.ref a_0, .int v_1, .int v_2] [.int x48] h46 bc bs Q
          exact ex_ireturn dX11_like_53 rfl (Or.inl rfl) w
    · replace w := w.2 c7
      refine ex_aload_n (q := 17) (x := a_0) dX11_like_16 rfl ?_
      refine ex_bipush (q := 19) (v := (-2)) dX11_like_17 (by decide) ?_
      refine ex_callV (q := 22) (M := mX11_like) (hdd := Nat.le_refl _) (c := 11) (st := []) (bc := bc) (bs := bs) dX11_like_19 rfl cl_X11_120 wd_557 wd_1 s1 w ?_
      rintro r h49 ⟨x50, rfl, w⟩
      show ex_G mX11_like (d + 5) 22 [.ref a_0, .int v_1, .int v_2] [.int x50] h49 bc bs Q
      exact ex_ireturn dX11_like_22 rfl (Or.inl rfl) w

theorem X11_like_e {d bc bs : Nat} {h : AH} {Q : Option Value → AH → Prop} {a_0 : Nat} {v_1 : Int32} {v_2 : Int32} (w : ex_G mX11_like (d + 5) 0 [.ref a_0, .int v_1, .int v_2] [] h bc bs Q) : ex_S yX11_like mX11_like (d + 5) [.ref a_0, .int v_1, .int v_2] h bc bs Q :=
  ex_enter (plainFor_of_name (by decide +kernel)) ⟨rfl, rfl⟩ rfl rfl (Nat.le_of_ble_eq_true rfl) (ex_pad 0 w)

set_option maxRecDepth 100000 in
theorem X11_search_0 {d bc bs : Nat} {h : AH} {Q : Option Value → AH → Prop} {a_0 : Nat} {v_1 : Int32} {v_2 : Int32} (w : ah_o h a_0 11 ∧ X11_hasPicture_C a_0 v_1 h ∧ (((X11_hasPicture_V a_0 v_1 h) = 0 → ex_S yX11_refuse mX11_refuse (d + 5) [.ref a_0, .int (-2)] h 0 0 (fun r h4 => ∃ x5, r = some (.int x5) ∧ Q (some (.int x5)) h4)) ∧ (¬ (X11_hasPicture_V a_0 v_1 h) = 0 → ((¬ (X11_isStepCount_V v_2 h) = 0 → ∃ a7, ah_r h a_0 4 = some a7 ∧ ex_S yX11_isWhole mX11_isWhole (d + 5) [.ref a_0, .int v_1, .ref a7] h 0 0 (fun r h8 => ∃ x9, r = some (.int x9) ∧ ((¬ x9 = 0 → ah_o h8 a_0 11 ∧ ∃ a12, ah_r h8 a_0 4 = some a12 ∧ ah_o h8 a12 4 ∧ (((ah_f h8 a12 10) ≤ 12 → ∃ a15, ah_r h8 a_0 12 = some a15 ∧ ∃ a16, ah_r h8 a_0 0 = some a16 ∧ ld3 h8 11 a16 v_1 ∧ ∃ a18, ah_q h8 a16 (Int32.toNatClampNeg v_1) = some a18 ∧ ah_o h8 a15 8 ∧ ex_S yX8_begin mX8_begin (d + 5) [.ref a15, .ref a18] h8 3 103 (fun r h19 => r = none ∧ ah_o h19 a_0 11 ∧ ∃ a22, ah_r h19 a_0 12 = some a22 ∧ ah_o h19 a22 8 ∧ ex_S yX8_go mX8_go (d + 5) [.ref a22, .int v_2] h19 300 10300 (fun r h23 => ∃ x25, r = some (.int x25) ∧ ah_o h23 a_0 11 ∧ X11_grant_C a_0 x25 h23 ∧ ∀ h28, h28 = X11_grant_H a_0 x25 h23 → Q (some (.int (X11_grant_V a_0 x25 h23))) h28))) ∧ (¬ (ah_f h8 a12 10) ≤ 12 → ex_S yX11_refuse mX11_refuse (d + 5) [.ref a_0, .int (-17)] h8 0 0 (fun r h29 => ∃ x30, r = some (.int x30) ∧ Q (some (.int x30)) h29)))) ∧ (x9 = 0 → ah_o h8 a_0 11 ∧ ex_S yX11_refuse mX11_refuse (d + 5) [.ref a_0, .int (-13)] h8 0 0 (fun r h31 => ∃ x33, r = some (.int x33) ∧ Q (some (.int x33)) h31))))) ∧ ((X11_isStepCount_V v_2 h) = 0 → ex_S yX11_refuse mX11_refuse (d + 5) [.ref a_0, .int (-2)] h 0 0 (fun r h34 => ∃ x35, r = some (.int x35) ∧ Q (some (.int x35)) h34)))))) : ex_G mX11_search (d + 6) 0 [.ref a_0, .int v_1, .int v_2] [] h (bc + 303) (bs + 10403) Q := by
  refine ex_aload_n (q := 1) (x := a_0) dX11_search_0 rfl ?_
  refine ex_iload_n (q := 2) (x := v_1) dX11_search_1 rfl ?_
  have s1 := w.1
  replace w := w.2
  have s2 := w.1
  replace w := w.2
  refine ex_callV (q := 5) (M := mX11_search) (hdd := Nat.le_refl _) (mc := 0) (ms := 0) (d' := (d + 5)) (c := 11) (st := []) (bc := (bc + 303)) (bs := (bs + 10403)) dX11_search_2 rfl cl_X11_134 wd_584 wd_4 s1 (X11_hasPicture_s (Q := fun r z => r = some (.int (X11_hasPicture_V a_0 v_1 h)) ∧ z = h) s2 ⟨rfl, rfl⟩) ?_
  intro r z hrz
  rw [hrz.1, hrz.2]
  show ex_G mX11_search (d + 6) 5 [.ref a_0, .int v_1, .int v_2] [.int (X11_hasPicture_V a_0 v_1 h)] (h) (bc + 303) (bs + 10403) Q
  refine ex_if_eq (tgt := 15) (q := 8) dX11_search_5 (fun c3 => ?_) (fun c3 => ?_)
  · replace w := w.1 c3
    refine ex_aload_n (q := 16) (x := a_0) dX11_search_15 rfl ?_
    refine ex_bipush (q := 18) (v := (-2)) dX11_search_16 (by decide) ?_
    refine ex_callV (q := 21) (M := mX11_search) (hdd := Nat.le_refl _) (c := 11) (st := []) (bc := (bc + 303)) (bs := (bs + 10403)) dX11_search_18 rfl cl_X11_120 wd_557 wd_1 s1 w ?_
    rintro r h4 ⟨x5, rfl, w⟩
    show ex_G mX11_search (d + 6) 21 [.ref a_0, .int v_1, .int v_2] [.int x5] h4 (bc + 303) (bs + 10403) Q
    exact ex_ireturn dX11_search_21 rfl (Or.inl rfl) w
  · replace w := w.2 c3
    refine ex_iload_n (q := 9) (x := v_2) dX11_search_8 rfl ?_
    refine ex_callS (q := 12) (M := mX11_search) (hdd := Nat.le_refl _) (mc := 0) (ms := 0) (d' := (d + 5)) (st := []) (bc := (bc + 303)) (bs := (bs + 10403)) dX11_search_9 rfl cl_X11_355 wd_1203 (X11_isStepCount_s (Q := fun r z => r = some (.int (X11_isStepCount_V v_2 h)) ∧ z = h) ⟨rfl, rfl⟩) ?_
    intro r z hrz
    rw [hrz.1, hrz.2]
    show ex_G mX11_search (d + 6) 12 [.ref a_0, .int v_1, .int v_2] [.int (X11_isStepCount_V v_2 h)] (h) (bc + 303) (bs + 10403) Q
    refine ex_if_ne (tgt := 22) (q := 15) dX11_search_12 (fun c6 => ?_) (fun c6 => ?_)
    · replace w := w.1 c6
      refine ex_aload_n (q := 23) (x := a_0) dX11_search_22 rfl ?_
      refine ex_iload_n (q := 24) (x := v_1) dX11_search_23 rfl ?_
      refine ex_aload_n (q := 25) (x := a_0) dX11_search_24 rfl ?_
      obtain ⟨a7, ea7, w⟩ := w
      refine ex_getr (q := 28) dX11_search_25 fl_X11_36 s1 ea7 ?_
      refine ex_callV (q := 31) (M := mX11_search) (hdd := Nat.le_refl _) (c := 11) (st := []) (bc := (bc + 303)) (bs := (bs + 10403)) dX11_search_28 rfl cl_X11_184 wd_695 wd_13 s1 w ?_
      rintro r h8 ⟨x9, rfl, w⟩
      show ex_G mX11_search (d + 6) 31 [.ref a_0, .int v_1, .int v_2] [.int x9] h8 (bc + 303) (bs + 10403) Q
      refine ex_if_ne (tgt := 41) (q := 34) dX11_search_31 (fun c10 => ?_) (fun c10 => ?_)
      · replace w := w.1 c10
        refine ex_aload_n (q := 42) (x := a_0) dX11_search_41 rfl ?_
        have s11 := w.1
        replace w := w.2
        obtain ⟨a12, ea12, w⟩ := w
        refine ex_getr (q := 45) dX11_search_42 fl_X11_36 s11 ea12 ?_
        have s13 := w.1
        replace w := w.2
        refine ex_getf (q := 48) dX11_search_45 fl_X11_213 s13 ?_
        refine ex_bipush (q := 50) (v := 12) dX11_search_48 (by decide) ?_
        refine ex_icmp_le (tgt := 60) (q := 53) dX11_search_50 (fun c14 => ?_) (fun c14 => ?_)
        · replace w := w.1 c14
          refine ex_aload_n (q := 61) (x := a_0) dX11_search_60 rfl ?_
          obtain ⟨a15, ea15, w⟩ := w
          refine ex_getr (q := 64) dX11_search_61 fl_X11_78 s11 ea15 ?_
          refine ex_aload_n (q := 65) (x := a_0) dX11_search_64 rfl ?_
          obtain ⟨a16, ea16, w⟩ := w
          refine ex_getr (q := 68) dX11_search_65 fl_X11_11 s11 ea16 ?_
          refine ex_iload_n (q := 69) (x := v_1) dX11_search_68 rfl ?_
          have s17 := w.1
          replace w := w.2
          obtain ⟨a18, ea18, w⟩ := w
          refine ex_aald (q := 70) dX11_search_69 s17 ea18 ?_
          refine ex_G.room (bc' := (bc + 300) + 3) (bs' := (bs + 10300) + 103) (Nat.le_refl _) (rm_le rfl) (rm_le rfl) ?_
          have s20 := w.1
          replace w := w.2
          refine ex_callV (q := 73) (M := mX11_search) (hdd := Nat.le_refl _) (c := 8) (st := []) (bc := (bc + 300)) (bs := (bs + 10300)) dX11_search_70 rfl cl_X11_358 wd_1206 wd_1207 s20 w ?_
          rintro r h19 ⟨rfl, w⟩
          show ex_G mX11_search (d + 6) 73 [.ref a_0, .int v_1, .int v_2] [] h19 (bc + 300) (bs + 10300) Q
          refine ex_aload_n (q := 74) (x := a_0) dX11_search_73 rfl ?_
          refine ex_aload_n (q := 75) (x := a_0) dX11_search_74 rfl ?_
          have s21 := w.1
          replace w := w.2
          obtain ⟨a22, ea22, w⟩ := w
          refine ex_getr (q := 78) dX11_search_75 fl_X11_78 s21 ea22 ?_
          refine ex_iload_n (q := 79) (x := v_2) dX11_search_78 rfl ?_
          refine ex_G.room (bc' := bc + 300) (bs' := bs + 10300) (Nat.le_refl _) (Nat.le_refl _) (Nat.le_refl _) ?_
          have s24 := w.1
          replace w := w.2
          refine ex_callV (q := 82) (M := mX11_search) (hdd := Nat.le_refl _) (c := 8) (st := [.ref a_0]) (bc := bc) (bs := bs) dX11_search_79 rfl cl_X11_361 wd_1242 wd_1243 s24 w ?_
          rintro r h23 ⟨x25, rfl, w⟩
          show ex_G mX11_search (d + 6) 82 [.ref a_0, .int v_1, .int v_2] [.int x25, .ref a_0] h23 bc bs Q
          have s26 := w.1
          replace w := w.2
          have s27 := w.1
          replace w := w.2
          refine ex_callV (q := 85) (M := mX11_search) (hdd := Nat.le_refl _) (mc := 0) (ms := 0) (d' := (d + 5)) (c := 11) (st := []) (bc := bc) (bs := bs) dX11_search_82 rfl cl_X11_131 wd_576 wd_3 s26 (X11_grant_s (Q := fun r z => r = some (.int (X11_grant_V a_0 x25 h23)) ∧ z = X11_grant_H a_0 x25 h23) s27 ⟨rfl, rfl⟩) ?_
          intro r z hrz
          rw [hrz.1, hrz.2]
          show ex_G mX11_search (d + 6) 85 [.ref a_0, .int v_1, .int v_2] [.int (X11_grant_V a_0 x25 h23)] (X11_grant_H a_0 x25 h23) bc bs Q
          refine ex_nmh (fun h28 eh28 => ?_)
          replace w := w h28 eh28
          exact ex_ireturn dX11_search_85 rfl (Or.inl rfl) w
        · replace w := w.2 c14
          refine ex_aload_n (q := 54) (x := a_0) dX11_search_53 rfl ?_
          refine ex_bipush (q := 56) (v := (-17)) dX11_search_54 (by decide) ?_
          refine ex_callV (q := 59) (M := mX11_search) (hdd := Nat.le_refl _) (c := 11) (st := []) (bc := (bc + 303)) (bs := (bs + 10403)) dX11_search_56 rfl cl_X11_120 wd_557 wd_1 s11 w ?_
          rintro r h29 ⟨x30, rfl, w⟩
          show ex_G mX11_search (d + 6) 59 [.ref a_0, .int v_1, .int v_2] [.int x30] h29 (bc + 303) (bs + 10403) Q
          exact ex_ireturn dX11_search_59 rfl (Or.inl rfl) w
      · replace w := w.2 c10
        refine ex_aload_n (q := 35) (x := a_0) dX11_search_34 rfl ?_
        refine ex_bipush (q := 37) (v := (-13)) dX11_search_35 (by decide) ?_
        have s32 := w.1
        replace w := w.2
        refine ex_callV (q := 40) (M := mX11_search) (hdd := Nat.le_refl _) (c := 11) (st := []) (bc := (bc + 303)) (bs := (bs + 10403)) dX11_search_37 rfl cl_X11_120 wd_557 wd_1 s32 w ?_
        rintro r h31 ⟨x33, rfl, w⟩
        show ex_G mX11_search (d + 6) 40 [.ref a_0, .int v_1, .int v_2] [.int x33] h31 (bc + 303) (bs + 10403) Q
        exact ex_ireturn dX11_search_40 rfl (Or.inl rfl) w
    · replace w := w.2 c6
      refine ex_aload_n (q := 16) (x := a_0) dX11_search_15 rfl ?_
      refine ex_bipush (q := 18) (v := (-2)) dX11_search_16 (by decide) ?_
      refine ex_callV (q := 21) (M := mX11_search) (hdd := Nat.le_refl _) (c := 11) (st := []) (bc := (bc + 303)) (bs := (bs + 10403)) dX11_search_18 rfl cl_X11_120 wd_557 wd_1 s1 w ?_
      rintro r h34 ⟨x35, rfl, w⟩
      show ex_G mX11_search (d + 6) 21 [.ref a_0, .int v_1, .int v_2] [.int x35] h34 (bc + 303) (bs + 10403) Q
      exact ex_ireturn dX11_search_21 rfl (Or.inl rfl) w

theorem X11_search_e {d bc bs : Nat} {h : AH} {Q : Option Value → AH → Prop} {a_0 : Nat} {v_1 : Int32} {v_2 : Int32} (w : ex_G mX11_search (d + 6) 0 [.ref a_0, .int v_1, .int v_2] [] h bc bs Q) : ex_S yX11_search mX11_search (d + 6) [.ref a_0, .int v_1, .int v_2] h bc bs Q :=
  ex_enter (plainFor_of_name (by decide +kernel)) ⟨rfl, rfl⟩ rfl rfl (Nat.le_of_ble_eq_true rfl) (ex_pad 0 w)

set_option maxRecDepth 100000 in
theorem X11_goOn_0 {d bc bs : Nat} {h : AH} {Q : Option Value → AH → Prop} {a_0 : Nat} {v_1 : Int32} (w : ((¬ (X11_isStepCount_V v_1 h) = 0 → ah_o h a_0 11 ∧ ∃ a3, ah_r h a_0 12 = some a3 ∧ ah_o h a3 8 ∧ (((ah_f h a3 8) = 0 → ex_S yX11_refuse mX11_refuse (d + 5) [.ref a_0, .int (-15)] h 0 0 (fun r h6 => ∃ x7, r = some (.int x7) ∧ Q (some (.int x7)) h6)) ∧ (¬ (ah_f h a3 8) = 0 → ex_S yX8_go mX8_go (d + 5) [.ref a3, .int v_1] h 300 10300 (fun r h8 => ∃ x9, r = some (.int x9) ∧ ah_o h8 a_0 11 ∧ X11_grant_C a_0 x9 h8 ∧ ∀ h12, h12 = X11_grant_H a_0 x9 h8 → Q (some (.int (X11_grant_V a_0 x9 h8))) h12)))) ∧ ((X11_isStepCount_V v_1 h) = 0 → ah_o h a_0 11 ∧ ex_S yX11_refuse mX11_refuse (d + 5) [.ref a_0, .int (-2)] h 0 0 (fun r h13 => ∃ x15, r = some (.int x15) ∧ Q (some (.int x15)) h13)))) : ex_G mX11_goOn (d + 6) 0 [.ref a_0, .int v_1] [] h (bc + 300) (bs + 10300) Q := by
  refine ex_iload_n (q := 1) (x := v_1) dX11_goOn_0 rfl ?_
  refine ex_callS (q := 4) (M := mX11_goOn) (hdd := Nat.le_refl _) (mc := 0) (ms := 0) (d' := (d + 5)) (st := []) (bc := (bc + 300)) (bs := (bs + 10300)) dX11_goOn_1 rfl cl_X11_355 wd_1203 (X11_isStepCount_s (Q := fun r z => r = some (.int (X11_isStepCount_V v_1 h)) ∧ z = h) ⟨rfl, rfl⟩) ?_
  intro r z hrz
  rw [hrz.1, hrz.2]
  show ex_G mX11_goOn (d + 6) 4 [.ref a_0, .int v_1] [.int (X11_isStepCount_V v_1 h)] (h) (bc + 300) (bs + 10300) Q
  refine ex_if_ne (tgt := 14) (q := 7) dX11_goOn_4 (fun c1 => ?_) (fun c1 => ?_)
  · replace w := w.1 c1
    refine ex_aload_n (q := 15) (x := a_0) dX11_goOn_14 rfl ?_
    have s2 := w.1
    replace w := w.2
    obtain ⟨a3, ea3, w⟩ := w
    refine ex_getr (q := 18) dX11_goOn_15 fl_X11_78 s2 ea3 ?_
    have s4 := w.1
    replace w := w.2
    refine ex_getf (q := 21) dX11_goOn_18 fl_X11_364 s4 ?_
    refine ex_if_eq (tgt := 39) (q := 24) dX11_goOn_21 (fun c5 => ?_) (fun c5 => ?_)
    · replace w := w.1 c5
      refine ex_aload_n (q := 40) (x := a_0) dX11_goOn_39 rfl ?_
      refine ex_bipush (q := 42) (v := (-15)) dX11_goOn_40 (by decide) ?_
      refine ex_callV (q := 45) (M := mX11_goOn) (hdd := Nat.le_refl _) (c := 11) (st := []) (bc := (bc + 300)) (bs := (bs + 10300)) dX11_goOn_42 rfl cl_X11_120 wd_557 wd_1 s2 w ?_
      rintro r h6 ⟨x7, rfl, w⟩
      show ex_G mX11_goOn (d + 6) 45 [.ref a_0, .int v_1] [.int x7] h6 (bc + 300) (bs + 10300) Q
      exact ex_ireturn dX11_goOn_45 rfl (Or.inl rfl) w
    · replace w := w.2 c5
      refine ex_aload_n (q := 25) (x := a_0) dX11_goOn_24 rfl ?_
      refine ex_aload_n (q := 26) (x := a_0) dX11_goOn_25 rfl ?_
      refine ex_getr (q := 29) dX11_goOn_26 fl_X11_78 s2 ea3 ?_
      refine ex_iload_n (q := 30) (x := v_1) dX11_goOn_29 rfl ?_
      refine ex_G.room (bc' := bc + 300) (bs' := bs + 10300) (Nat.le_refl _) (Nat.le_refl _) (Nat.le_refl _) ?_
      refine ex_callV (q := 33) (M := mX11_goOn) (hdd := Nat.le_refl _) (c := 8) (st := [.ref a_0]) (bc := bc) (bs := bs) dX11_goOn_30 rfl cl_X11_361 wd_1242 wd_1243 s4 w ?_
      rintro r h8 ⟨x9, rfl, w⟩
      show ex_G mX11_goOn (d + 6) 33 [.ref a_0, .int v_1] [.int x9, .ref a_0] h8 bc bs Q
      have s10 := w.1
      replace w := w.2
      have s11 := w.1
      replace w := w.2
      refine ex_callV (q := 36) (M := mX11_goOn) (hdd := Nat.le_refl _) (mc := 0) (ms := 0) (d' := (d + 5)) (c := 11) (st := []) (bc := bc) (bs := bs) dX11_goOn_33 rfl cl_X11_131 wd_576 wd_3 s10 (X11_grant_s (Q := fun r z => r = some (.int (X11_grant_V a_0 x9 h8)) ∧ z = X11_grant_H a_0 x9 h8) s11 ⟨rfl, rfl⟩) ?_
      intro r z hrz
      rw [hrz.1, hrz.2]
      show ex_G mX11_goOn (d + 6) 36 [.ref a_0, .int v_1] [.int (X11_grant_V a_0 x9 h8)] (X11_grant_H a_0 x9 h8) bc bs Q
      refine ex_nmh (fun h12 eh12 => ?_)
      replace w := w h12 eh12
      refine ex_goto (tgt := 45) dX11_goOn_36 ?_
      exact ex_ireturn dX11_goOn_45 rfl (Or.inl rfl) w
  · replace w := w.2 c1
    refine ex_aload_n (q := 8) (x := a_0) dX11_goOn_7 rfl ?_
    refine ex_bipush (q := 10) (v := (-2)) dX11_goOn_8 (by decide) ?_
    have s14 := w.1
    replace w := w.2
    refine ex_callV (q := 13) (M := mX11_goOn) (hdd := Nat.le_refl _) (c := 11) (st := []) (bc := (bc + 300)) (bs := (bs + 10300)) dX11_goOn_10 rfl cl_X11_120 wd_557 wd_1 s14 w ?_
    rintro r h13 ⟨x15, rfl, w⟩
    show ex_G mX11_goOn (d + 6) 13 [.ref a_0, .int v_1] [.int x15] h13 (bc + 300) (bs + 10300) Q
    exact ex_ireturn dX11_goOn_13 rfl (Or.inl rfl) w

theorem X11_goOn_e {d bc bs : Nat} {h : AH} {Q : Option Value → AH → Prop} {a_0 : Nat} {v_1 : Int32} (w : ex_G mX11_goOn (d + 6) 0 [.ref a_0, .int v_1] [] h bc bs Q) : ex_S yX11_goOn mX11_goOn (d + 6) [.ref a_0, .int v_1] h bc bs Q :=
  ex_enter (plainFor_of_name (by decide +kernel)) ⟨rfl, rfl⟩ rfl rfl (Nat.le_of_ble_eq_true rfl) (ex_pad 0 w)

set_option maxRecDepth 100000 in
theorem X11_searched_0 {d bc bs : Nat} {h : AH} {Q : Option Value → AH → Prop} {a_0 : Nat} {v_1 : Int32} (w : ((v_1 < 0 → ah_o h a_0 11 ∧ ex_S yX11_refuse mX11_refuse d [.ref a_0, .int (-2)] h 0 0 (fun r h2 => ∃ x4, r = some (.int x4) ∧ Q (some (.int x4)) h2)) ∧ (¬ v_1 < 0 → ((v_1 ≤ 3 → ah_o h a_0 11 ∧ ∃ a7, ah_r h a_0 12 = some a7 ∧ ah_o h a7 8 ∧ ((¬ (ah_f h a7 8) = 0 → ((v_1 = 0 → (((ah_f h a7 9) = 0 → X11_grant_C a_0 0 h ∧ ∀ h13, h13 = X11_grant_H a_0 0 h → Q (some (.int (X11_grant_V a_0 0 h))) h13) ∧ (¬ (ah_f h a7 9) = 0 → X11_grant_C a_0 1 h ∧ ∀ h15, h15 = X11_grant_H a_0 1 h → Q (some (.int (X11_grant_V a_0 1 h))) h15))) ∧ (v_1 = 1 → X11_grant_C a_0 (ah_f h a7 11) h ∧ ∀ h17, h17 = X11_grant_H a_0 (ah_f h a7 11) h → Q (some (.int (X11_grant_V a_0 (ah_f h a7 11) h))) h17) ∧ (v_1 = 2 → ∃ a18, ah_r h a7 0 = some a18 ∧ ex_S yX8_smallest mX8_smallest d [.ref a7] h 0 0 (fun r h19 => ∃ x20, r = some (.int x20) ∧ ld3 h19 14 a18 x20 ∧ ∃ a22, ah_q h19 a18 (Int32.toNatClampNeg x20) = some a22 ∧ ah_o h19 a22 10 ∧ ah_o h19 a_0 11 ∧ X11_grant_C a_0 (ah_f h19 a22 2) h19 ∧ ∀ h26, h26 = X11_grant_H a_0 (ah_f h19 a22 2) h19 → Q (some (.int (X11_grant_V a_0 (ah_f h19 a22 2) h19))) h26)) ∧ (¬ v_1 = 0 → ¬ v_1 = 1 → ¬ v_1 = 2 → X11_grant_C a_0 (ah_f h a7 12) h ∧ ∀ h28, h28 = X11_grant_H a_0 (ah_f h a7 12) h → Q (some (.int (X11_grant_V a_0 (ah_f h a7 12) h))) h28))) ∧ ((ah_f h a7 8) = 0 → ex_S yX11_refuse mX11_refuse d [.ref a_0, .int (-15)] h 0 0 (fun r h29 => ∃ x30, r = some (.int x30) ∧ Q (some (.int x30)) h29)))) ∧ (¬ v_1 ≤ 3 → ah_o h a_0 11 ∧ ex_S yX11_refuse mX11_refuse d [.ref a_0, .int (-2)] h 0 0 (fun r h31 => ∃ x33, r = some (.int x33) ∧ Q (some (.int x33)) h31)))))) : ex_G mX11_searched (d + 1) 0 [.ref a_0, .int v_1] [] h bc bs Q := by
  refine ex_iload_n (q := 1) (x := v_1) dX11_searched_0 rfl ?_
  refine ex_if_lt (tgt := 9) (q := 4) dX11_searched_1 (fun c1 => ?_) (fun c1 => ?_)
  · replace w := w.1 c1
    refine ex_aload_n (q := 10) (x := a_0) dX11_searched_9 rfl ?_
    refine ex_bipush (q := 12) (v := (-2)) dX11_searched_10 (by decide) ?_
    have s3 := w.1
    replace w := w.2
    refine ex_callV (q := 15) (M := mX11_searched) (hdd := Nat.le_refl _) (c := 11) (st := []) (bc := bc) (bs := bs) dX11_searched_12 rfl cl_X11_120 wd_557 wd_1 s3 w ?_
    rintro r h2 ⟨x4, rfl, w⟩
    show ex_G mX11_searched (d + 1) 15 [.ref a_0, .int v_1] [.int x4] h2 bc bs Q
    exact ex_ireturn dX11_searched_15 rfl (Or.inl rfl) w
  · replace w := w.2 c1
    refine ex_iload_n (q := 5) (x := v_1) dX11_searched_4 rfl ?_
    refine ex_iconst (q := 6) (v := 3) dX11_searched_5 (by decide) ?_
    refine ex_icmp_le (tgt := 16) (q := 9) dX11_searched_6 (fun c5 => ?_) (fun c5 => ?_)
    · replace w := w.1 c5
      refine ex_aload_n (q := 17) (x := a_0) dX11_searched_16 rfl ?_
      have s6 := w.1
      replace w := w.2
      obtain ⟨a7, ea7, w⟩ := w
      refine ex_getr (q := 20) dX11_searched_17 fl_X11_78 s6 ea7 ?_
      have s8 := w.1
      replace w := w.2
      refine ex_getf (q := 23) dX11_searched_20 fl_X11_364 s8 ?_
      refine ex_if_ne (tgt := 33) (q := 26) dX11_searched_23 (fun c9 => ?_) (fun c9 => ?_)
      · replace w := w.1 c9
        refine ex_iload_n (q := 34) (x := v_1) dX11_searched_33 rfl ?_
        by_cases c10_0 : v_1 = 0
        · replace w := w.1 c10_0
          refine ex_tsw (tgt := 60) dX11_searched_34 (by rw [c10_0]; decide) ?_
          refine ex_aload_n (q := 61) (x := a_0) dX11_searched_60 rfl ?_
          refine ex_aload_n (q := 62) (x := a_0) dX11_searched_61 rfl ?_
          refine ex_getr (q := 65) dX11_searched_62 fl_X11_78 s6 ea7 ?_
          refine ex_getf (q := 68) dX11_searched_65 fl_X11_367 s8 ?_
          refine ex_if_eq (tgt := 75) (q := 71) dX11_searched_68 (fun c11 => ?_) (fun c11 => ?_)
          · replace w := w.1 c11
            refine ex_iconst (q := 76) (v := 0) dX11_searched_75 (by decide) ?_
            have s12 := w.1
            replace w := w.2
            refine ex_callV (q := 79) (M := mX11_searched) (hdd := Nat.le_refl _) (mc := 0) (ms := 0) (d' := d) (c := 11) (st := []) (bc := bc) (bs := bs) dX11_searched_76 rfl cl_X11_131 wd_576 wd_3 s6 (X11_grant_s (Q := fun r z => r = some (.int (X11_grant_V a_0 0 h)) ∧ z = X11_grant_H a_0 0 h) s12 ⟨rfl, rfl⟩) ?_
            intro r z hrz
            rw [hrz.1, hrz.2]
            show ex_G mX11_searched (d + 1) 79 [.ref a_0, .int v_1] [.int (X11_grant_V a_0 0 h)] (X11_grant_H a_0 0 h) bc bs Q
            refine ex_nmh (fun h13 eh13 => ?_)
            replace w := w h13 eh13
            exact ex_ireturn dX11_searched_79 rfl (Or.inl rfl) w
          · replace w := w.2 c11
            refine ex_iconst (q := 72) (v := 1) dX11_searched_71 (by decide) ?_
            refine ex_goto (tgt := 76) dX11_searched_72 ?_
            have s14 := w.1
            replace w := w.2
            refine ex_callV (q := 79) (M := mX11_searched) (hdd := Nat.le_refl _) (mc := 0) (ms := 0) (d' := d) (c := 11) (st := []) (bc := bc) (bs := bs) dX11_searched_76 rfl cl_X11_131 wd_576 wd_3 s6 (X11_grant_s (Q := fun r z => r = some (.int (X11_grant_V a_0 1 h)) ∧ z = X11_grant_H a_0 1 h) s14 ⟨rfl, rfl⟩) ?_
            intro r z hrz
            rw [hrz.1, hrz.2]
            show ex_G mX11_searched (d + 1) 79 [.ref a_0, .int v_1] [.int (X11_grant_V a_0 1 h)] (X11_grant_H a_0 1 h) bc bs Q
            refine ex_nmh (fun h15 eh15 => ?_)
            replace w := w h15 eh15
            exact ex_ireturn dX11_searched_79 rfl (Or.inl rfl) w
        replace w := w.2
        by_cases c10_1 : v_1 = 1
        · replace w := w.1 c10_1
          refine ex_tsw (tgt := 80) dX11_searched_34 (by rw [c10_1]; decide) ?_
          refine ex_aload_n (q := 81) (x := a_0) dX11_searched_80 rfl ?_
          refine ex_aload_n (q := 82) (x := a_0) dX11_searched_81 rfl ?_
          refine ex_getr (q := 85) dX11_searched_82 fl_X11_78 s6 ea7 ?_
          refine ex_getf (q := 88) dX11_searched_85 fl_X11_370 s8 ?_
          have s16 := w.1
          replace w := w.2
          refine ex_callV (q := 91) (M := mX11_searched) (hdd := Nat.le_refl _) (mc := 0) (ms := 0) (d' := d) (c := 11) (st := []) (bc := bc) (bs := bs) dX11_searched_88 rfl cl_X11_131 wd_576 wd_3 s6 (X11_grant_s (Q := fun r z => r = some (.int (X11_grant_V a_0 (ah_f h a7 11) h)) ∧ z = X11_grant_H a_0 (ah_f h a7 11) h) s16 ⟨rfl, rfl⟩) ?_
          intro r z hrz
          rw [hrz.1, hrz.2]
          show ex_G mX11_searched (d + 1) 91 [.ref a_0, .int v_1] [.int (X11_grant_V a_0 (ah_f h a7 11) h)] (X11_grant_H a_0 (ah_f h a7 11) h) bc bs Q
          refine ex_nmh (fun h17 eh17 => ?_)
          replace w := w h17 eh17
          exact ex_ireturn dX11_searched_91 rfl (Or.inl rfl) w
        replace w := w.2
        by_cases c10_2 : v_1 = 2
        · replace w := w.1 c10_2
          refine ex_tsw (tgt := 92) dX11_searched_34 (by rw [c10_2]; decide) ?_
          refine ex_aload_n (q := 93) (x := a_0) dX11_searched_92 rfl ?_
          refine ex_aload_n (q := 94) (x := a_0) dX11_searched_93 rfl ?_
          refine ex_getr (q := 97) dX11_searched_94 fl_X11_78 s6 ea7 ?_
          obtain ⟨a18, ea18, w⟩ := w
          refine ex_getr (q := 100) dX11_searched_97 fl_X11_373 s8 ea18 ?_
          refine ex_aload_n (q := 101) (x := a_0) dX11_searched_100 rfl ?_
          refine ex_getr (q := 104) dX11_searched_101 fl_X11_78 s6 ea7 ?_
          refine ex_callV (q := 107) (M := mX11_searched) (hdd := Nat.le_refl _) (c := 8) (st := [.ref a18, .ref a_0]) (bc := bc) (bs := bs) dX11_searched_104 rfl cl_X11_377 wd_1264 wd_1265 s8 w ?_
          rintro r h19 ⟨x20, rfl, w⟩
          show ex_G mX11_searched (d + 1) 107 [.ref a_0, .int v_1] [.int x20, .ref a18, .ref a_0] h19 bc bs Q
          have s21 := w.1
          replace w := w.2
          obtain ⟨a22, ea22, w⟩ := w
          refine ex_aald (q := 108) dX11_searched_107 s21 ea22 ?_
          have s23 := w.1
          replace w := w.2
          refine ex_getf (q := 111) dX11_searched_108 fl_X11_380 s23 ?_
          have s24 := w.1
          replace w := w.2
          have s25 := w.1
          replace w := w.2
          refine ex_callV (q := 114) (M := mX11_searched) (hdd := Nat.le_refl _) (mc := 0) (ms := 0) (d' := d) (c := 11) (st := []) (bc := bc) (bs := bs) dX11_searched_111 rfl cl_X11_131 wd_576 wd_3 s24 (X11_grant_s (Q := fun r z => r = some (.int (X11_grant_V a_0 (ah_f h19 a22 2) h19)) ∧ z = X11_grant_H a_0 (ah_f h19 a22 2) h19) s25 ⟨rfl, rfl⟩) ?_
          intro r z hrz
          rw [hrz.1, hrz.2]
          show ex_G mX11_searched (d + 1) 114 [.ref a_0, .int v_1] [.int (X11_grant_V a_0 (ah_f h19 a22 2) h19)] (X11_grant_H a_0 (ah_f h19 a22 2) h19) bc bs Q
          refine ex_nmh (fun h26 eh26 => ?_)
          replace w := w h26 eh26
          exact ex_ireturn dX11_searched_114 rfl (Or.inl rfl) w
        replace w := w.2
        replace w := w c10_0 c10_1 c10_2
        have hsw : v_1.toInt < 0 ∨ 2 < v_1.toInt := by
          have := i32_ne c10_0 (a := 0) (by decide)
          have := i32_ne c10_1 (a := 1) (by decide)
          have := i32_ne c10_2 (a := 2) (by decide)
          omega
        have hsq : sw_t 81 0 2 [26, 46, 58] v_1.toInt = 81 := by
          rcases hsw with z | z
          · unfold sw_t; rw [if_pos (Or.inl z)]
          · unfold sw_t; rw [if_pos (Or.inr z)]
        refine ex_tsw (tgt := 115) dX11_searched_34 (show ((34 : Nat) : Int) + sw_t 81 0 2 [26, 46, 58] v_1.toInt = ((115 : Nat) : Int) by rw [hsq]; decide) ?_
        refine ex_aload_n (q := 116) (x := a_0) dX11_searched_115 rfl ?_
        refine ex_aload_n (q := 117) (x := a_0) dX11_searched_116 rfl ?_
        refine ex_getr (q := 120) dX11_searched_117 fl_X11_78 s6 ea7 ?_
        refine ex_getf (q := 123) dX11_searched_120 fl_X11_383 s8 ?_
        have s27 := w.1
        replace w := w.2
        refine ex_callV (q := 126) (M := mX11_searched) (hdd := Nat.le_refl _) (mc := 0) (ms := 0) (d' := d) (c := 11) (st := []) (bc := bc) (bs := bs) dX11_searched_123 rfl cl_X11_131 wd_576 wd_3 s6 (X11_grant_s (Q := fun r z => r = some (.int (X11_grant_V a_0 (ah_f h a7 12) h)) ∧ z = X11_grant_H a_0 (ah_f h a7 12) h) s27 ⟨rfl, rfl⟩) ?_
        intro r z hrz
        rw [hrz.1, hrz.2]
        show ex_G mX11_searched (d + 1) 126 [.ref a_0, .int v_1] [.int (X11_grant_V a_0 (ah_f h a7 12) h)] (X11_grant_H a_0 (ah_f h a7 12) h) bc bs Q
        refine ex_nmh (fun h28 eh28 => ?_)
        replace w := w h28 eh28
        exact ex_ireturn dX11_searched_126 rfl (Or.inl rfl) w
      · replace w := w.2 c9
        refine ex_aload_n (q := 27) (x := a_0) dX11_searched_26 rfl ?_
        refine ex_bipush (q := 29) (v := (-15)) dX11_searched_27 (by decide) ?_
        refine ex_callV (q := 32) (M := mX11_searched) (hdd := Nat.le_refl _) (c := 11) (st := []) (bc := bc) (bs := bs) dX11_searched_29 rfl cl_X11_120 wd_557 wd_1 s6 w ?_
        rintro r h29 ⟨x30, rfl, w⟩
        show ex_G mX11_searched (d + 1) 32 [.ref a_0, .int v_1] [.int x30] h29 bc bs Q
        exact ex_ireturn dX11_searched_32 rfl (Or.inl rfl) w
    · replace w := w.2 c5
      refine ex_aload_n (q := 10) (x := a_0) dX11_searched_9 rfl ?_
      refine ex_bipush (q := 12) (v := (-2)) dX11_searched_10 (by decide) ?_
      have s32 := w.1
      replace w := w.2
      refine ex_callV (q := 15) (M := mX11_searched) (hdd := Nat.le_refl _) (c := 11) (st := []) (bc := bc) (bs := bs) dX11_searched_12 rfl cl_X11_120 wd_557 wd_1 s32 w ?_
      rintro r h31 ⟨x33, rfl, w⟩
      show ex_G mX11_searched (d + 1) 15 [.ref a_0, .int v_1] [.int x33] h31 bc bs Q
      exact ex_ireturn dX11_searched_15 rfl (Or.inl rfl) w

theorem X11_searched_e {d bc bs : Nat} {h : AH} {Q : Option Value → AH → Prop} {a_0 : Nat} {v_1 : Int32} (w : ex_G mX11_searched (d + 1) 0 [.ref a_0, .int v_1] [] h bc bs Q) : ex_S yX11_searched mX11_searched (d + 1) [.ref a_0, .int v_1] h bc bs Q :=
  ex_enter (plainFor_of_name (by decide +kernel)) ⟨rfl, rfl⟩ rfl rfl (Nat.le_of_ble_eq_true rfl) (ex_pad 0 w)

set_option maxRecDepth 100000 in
theorem X11_fewer_0 {d bc bs : Nat} {h : AH} {Q : Option Value → AH → Prop} {a_0 : Nat} (w : ah_o h a_0 11 ∧ X11_isFull_C a_0 h ∧ (((X11_isFull_V a_0 h) = 0 → ∃ a4, ah_r h a_0 12 = some a4 ∧ ah_o h a4 8 ∧ ((¬ (ah_f h a4 8) = 0 → ex_S yX8_smallest mX8_smallest (d + 2) [.ref a4] h 0 0 (fun r h7 => ∃ x8, r = some (.int x8) ∧ ah_o h7 a_0 11 ∧ ∃ a10, ah_r h7 a_0 12 = some a10 ∧ ah_o h7 a10 8 ∧ ex_S yX8_tellWays mX8_tellWays (d + 2) [.ref a10, .int x8] h7 0 0 (fun r h11 => r = none ∧ ah_o h11 a_0 11 ∧ ∃ a14, ah_r h11 a_0 12 = some a14 ∧ ah_o h11 a14 8 ∧ ∃ a16, ah_r h11 a14 0 = some a16 ∧ ld3 h11 14 a16 x8 ∧ ∃ a18, ah_q h11 a16 (Int32.toNatClampNeg x8) = some a18 ∧ ∃ a19, ah_r h11 a_0 6 = some a19 ∧ ah_o h11 a18 10 ∧ ex_S yX10_pourInto mX10_pourInto (d + 2) [.ref a18, .ref a19] h11 0 0 (fun r h20 => r = none ∧ ah_o h20 a_0 11 ∧ ∃ a23, ah_r h20 a_0 6 = some a23 ∧ ex_S yX11_addLike mX11_addLike (d + 2) [.ref a_0, .ref a23] h20 3 207 (fun r h24 => ∃ x25, r = some (.int x25) ∧ ah_o h24 a_0 11 ∧ X11_grant_C a_0 x25 h24 ∧ ∀ h28, h28 = X11_grant_H a_0 x25 h24 → Q (some (.int (X11_grant_V a_0 x25 h24))) h28))))) ∧ ((ah_f h a4 8) = 0 → ex_S yX11_refuse mX11_refuse (d + 2) [.ref a_0, .int (-15)] h 0 0 (fun r h29 => ∃ x30, r = some (.int x30) ∧ Q (some (.int x30)) h29)))) ∧ (¬ (X11_isFull_V a_0 h) = 0 → ex_S yX11_refuse mX11_refuse (d + 2) [.ref a_0, .int (-3)] h 0 0 (fun r h31 => ∃ x32, r = some (.int x32) ∧ Q (some (.int x32)) h31)))) : ex_G mX11_fewer (d + 3) 0 [.ref a_0, .retAddr 0] [] h (bc + 3) (bs + 207) Q := by
  refine ex_aload_n (q := 1) (x := a_0) dX11_fewer_0 rfl ?_
  have s1 := w.1
  replace w := w.2
  have s2 := w.1
  replace w := w.2
  refine ex_callV (q := 4) (M := mX11_fewer) (hdd := Nat.le_refl _) (mc := 0) (ms := 0) (d' := (d + 2)) (c := 11) (st := []) (bc := (bc + 3)) (bs := (bs + 207)) dX11_fewer_1 rfl cl_X11_116 wd_553 wd_0 s1 (X11_isFull_s (Q := fun r z => r = some (.int (X11_isFull_V a_0 h)) ∧ z = h) s2 ⟨rfl, rfl⟩) ?_
  intro r z hrz
  rw [hrz.1, hrz.2]
  show ex_G mX11_fewer (d + 3) 4 [.ref a_0, .retAddr 0] [.int (X11_isFull_V a_0 h)] (h) (bc + 3) (bs + 207) Q
  refine ex_if_eq (tgt := 14) (q := 7) dX11_fewer_4 (fun c3 => ?_) (fun c3 => ?_)
  · replace w := w.1 c3
    refine ex_aload_n (q := 15) (x := a_0) dX11_fewer_14 rfl ?_
    obtain ⟨a4, ea4, w⟩ := w
    refine ex_getr (q := 18) dX11_fewer_15 fl_X11_78 s1 ea4 ?_
    have s5 := w.1
    replace w := w.2
    refine ex_getf (q := 21) dX11_fewer_18 fl_X11_364 s5 ?_
    refine ex_if_ne (tgt := 31) (q := 24) dX11_fewer_21 (fun c6 => ?_) (fun c6 => ?_)
    · replace w := w.1 c6
      refine ex_aload_n (q := 32) (x := a_0) dX11_fewer_31 rfl ?_
      refine ex_getr (q := 35) dX11_fewer_32 fl_X11_78 s1 ea4 ?_
      refine ex_callV (q := 38) (M := mX11_fewer) (hdd := Nat.le_refl _) (c := 8) (st := []) (bc := (bc + 3)) (bs := (bs + 207)) dX11_fewer_35 rfl cl_X11_377 wd_1264 wd_1265 s5 w ?_
      rintro r h7 ⟨x8, rfl, w⟩
      show ex_G mX11_fewer (d + 3) 38 [.ref a_0, .retAddr 0] [.int x8] h7 (bc + 3) (bs + 207) Q
      refine ex_istore_n (q := 39) (ls' := [.ref a_0, .int x8]) dX11_fewer_38 rfl ?_
      refine ex_aload_n (q := 40) (x := a_0) dX11_fewer_39 rfl ?_
      have s9 := w.1
      replace w := w.2
      obtain ⟨a10, ea10, w⟩ := w
      refine ex_getr (q := 43) dX11_fewer_40 fl_X11_78 s9 ea10 ?_
      refine ex_iload_n (q := 44) (x := x8) dX11_fewer_43 rfl ?_
      have s12 := w.1
      replace w := w.2
      refine ex_callV (q := 47) (M := mX11_fewer) (hdd := Nat.le_refl _) (c := 8) (st := []) (bc := (bc + 3)) (bs := (bs + 207)) dX11_fewer_44 rfl cl_X11_386 wd_1272 wd_1273 s12 w ?_
      rintro r h11 ⟨rfl, w⟩
      show ex_G mX11_fewer (d + 3) 47 [.ref a_0, .int x8] [] h11 (bc + 3) (bs + 207) Q
      refine ex_aload_n (q := 48) (x := a_0) dX11_fewer_47 rfl ?_
      have s13 := w.1
      replace w := w.2
      obtain ⟨a14, ea14, w⟩ := w
      refine ex_getr (q := 51) dX11_fewer_48 fl_X11_78 s13 ea14 ?_
      have s15 := w.1
      replace w := w.2
      obtain ⟨a16, ea16, w⟩ := w
      refine ex_getr (q := 54) dX11_fewer_51 fl_X11_373 s15 ea16 ?_
      refine ex_iload_n (q := 55) (x := x8) dX11_fewer_54 rfl ?_
      have s17 := w.1
      replace w := w.2
      obtain ⟨a18, ea18, w⟩ := w
      refine ex_aald (q := 56) dX11_fewer_55 s17 ea18 ?_
      refine ex_aload_n (q := 57) (x := a_0) dX11_fewer_56 rfl ?_
      obtain ⟨a19, ea19, w⟩ := w
      refine ex_getr (q := 60) dX11_fewer_57 fl_X11_44 s13 ea19 ?_
      have s21 := w.1
      replace w := w.2
      refine ex_callV (q := 63) (M := mX11_fewer) (hdd := Nat.le_refl _) (c := 10) (st := []) (bc := (bc + 3)) (bs := (bs + 207)) dX11_fewer_60 rfl cl_X11_389 wd_1236 wd_1237 s21 w ?_
      rintro r h20 ⟨rfl, w⟩
      show ex_G mX11_fewer (d + 3) 63 [.ref a_0, .int x8] [] h20 (bc + 3) (bs + 207) Q
      refine ex_aload_n (q := 64) (x := a_0) dX11_fewer_63 rfl ?_
      refine ex_aload_n (q := 65) (x := a_0) dX11_fewer_64 rfl ?_
      refine ex_aload_n (q := 66) (x := a_0) dX11_fewer_65 rfl ?_
      have s22 := w.1
      replace w := w.2
      obtain ⟨a23, ea23, w⟩ := w
      refine ex_getr (q := 69) dX11_fewer_66 fl_X11_44 s22 ea23 ?_
      refine ex_G.room (bc' := bc + 3) (bs' := bs + 207) (Nat.le_refl _) (Nat.le_refl _) (Nat.le_refl _) ?_
      refine ex_callV (q := 72) (M := mX11_fewer) (hdd := Nat.le_refl _) (c := 11) (st := [.ref a_0]) (bc := bc) (bs := bs) dX11_fewer_69 rfl cl_X11_127 wd_565 wd_2 s22 w ?_
      rintro r h24 ⟨x25, rfl, w⟩
      show ex_G mX11_fewer (d + 3) 72 [.ref a_0, .int x8] [.int x25, .ref a_0] h24 bc bs Q
      have s26 := w.1
      replace w := w.2
      have s27 := w.1
      replace w := w.2
      refine ex_callV (q := 75) (M := mX11_fewer) (hdd := Nat.le_refl _) (mc := 0) (ms := 0) (d' := (d + 2)) (c := 11) (st := []) (bc := bc) (bs := bs) dX11_fewer_72 rfl cl_X11_131 wd_576 wd_3 s26 (X11_grant_s (Q := fun r z => r = some (.int (X11_grant_V a_0 x25 h24)) ∧ z = X11_grant_H a_0 x25 h24) s27 ⟨rfl, rfl⟩) ?_
      intro r z hrz
      rw [hrz.1, hrz.2]
      show ex_G mX11_fewer (d + 3) 75 [.ref a_0, .int x8] [.int (X11_grant_V a_0 x25 h24)] (X11_grant_H a_0 x25 h24) bc bs Q
      refine ex_nmh (fun h28 eh28 => ?_)
      replace w := w h28 eh28
      exact ex_ireturn dX11_fewer_75 rfl (Or.inl rfl) w
    · replace w := w.2 c6
      refine ex_aload_n (q := 25) (x := a_0) dX11_fewer_24 rfl ?_
      refine ex_bipush (q := 27) (v := (-15)) dX11_fewer_25 (by decide) ?_
      refine ex_callV (q := 30) (M := mX11_fewer) (hdd := Nat.le_refl _) (c := 11) (st := []) (bc := (bc + 3)) (bs := (bs + 207)) dX11_fewer_27 rfl cl_X11_120 wd_557 wd_1 s1 w ?_
      rintro r h29 ⟨x30, rfl, w⟩
      show ex_G mX11_fewer (d + 3) 30 [.ref a_0, .retAddr 0] [.int x30] h29 (bc + 3) (bs + 207) Q
      exact ex_ireturn dX11_fewer_30 rfl (Or.inl rfl) w
  · replace w := w.2 c3
    refine ex_aload_n (q := 8) (x := a_0) dX11_fewer_7 rfl ?_
    refine ex_bipush (q := 10) (v := (-3)) dX11_fewer_8 (by decide) ?_
    refine ex_callV (q := 13) (M := mX11_fewer) (hdd := Nat.le_refl _) (c := 11) (st := []) (bc := (bc + 3)) (bs := (bs + 207)) dX11_fewer_10 rfl cl_X11_120 wd_557 wd_1 s1 w ?_
    rintro r h31 ⟨x32, rfl, w⟩
    show ex_G mX11_fewer (d + 3) 13 [.ref a_0, .retAddr 0] [.int x32] h31 (bc + 3) (bs + 207) Q
    exact ex_ireturn dX11_fewer_13 rfl (Or.inl rfl) w

theorem X11_fewer_e {d bc bs : Nat} {h : AH} {Q : Option Value → AH → Prop} {a_0 : Nat} (w : ex_G mX11_fewer (d + 3) 0 [.ref a_0, .retAddr 0] [] h bc bs Q) : ex_S yX11_fewer mX11_fewer (d + 3) [.ref a_0] h bc bs Q :=
  ex_enter (plainFor_of_name (by decide +kernel)) ⟨rfl, rfl⟩ rfl rfl (Nat.le_of_ble_eq_true rfl) (ex_pad 1 w)

set_option maxRecDepth 100000 in
theorem X11_partingNumber_0 {d bc bs : Nat} {h : AH} {Q : Option Value → AH → Prop} {a_0 : Nat} (w : ah_o h a_0 11 ∧ ∃ a2, ah_r h a_0 4 = some a2 ∧ ah_o h a2 4 ∧ X4_allPieces_C a2 h ∧ ∃ a5, ah_r h a_0 5 = some a5 ∧ ah_o h a5 4 ∧ X4_allPieces_C a5 h ∧ (((X4_allPieces_V a2 h) = (X4_allPieces_V a5 h) → ex_G mX11_partingNumber (d + 19) 21 [.ref a_0, .int 0, .retAddr 0] [] h bc bs Q) ∧ (¬ (X4_allPieces_V a2 h) = (X4_allPieces_V a5 h) → Q (some (.int 1)) h))) : ex_G mX11_partingNumber (d + 19) 0 [.ref a_0, .retAddr 0, .retAddr 0] [] h bc bs Q := by
  refine ex_aload_n (q := 1) (x := a_0) dX11_partingNumber_0 rfl ?_
  have s1 := w.1
  replace w := w.2
  obtain ⟨a2, ea2, w⟩ := w
  refine ex_getr (q := 4) dX11_partingNumber_1 fl_X11_36 s1 ea2 ?_
  have s3 := w.1
  replace w := w.2
  have s4 := w.1
  replace w := w.2
  refine ex_callV (q := 7) (M := mX11_partingNumber) (hdd := Nat.le_refl _) (mc := 0) (ms := 0) (d' := (d + 18)) (c := 4) (st := []) (bc := bc) (bs := bs) dX11_partingNumber_4 rfl cl_X11_188 wd_698 wd_699 s3 (X4_allPieces_s (Q := fun r z => r = some (.int (X4_allPieces_V a2 h)) ∧ z = h) s4 ⟨rfl, rfl⟩) ?_
  intro r z hrz
  rw [hrz.1, hrz.2]
  show ex_G mX11_partingNumber (d + 19) 7 [.ref a_0, .retAddr 0, .retAddr 0] [.int (X4_allPieces_V a2 h)] (h) bc bs Q
  refine ex_aload_n (q := 8) (x := a_0) dX11_partingNumber_7 rfl ?_
  obtain ⟨a5, ea5, w⟩ := w
  refine ex_getr (q := 11) dX11_partingNumber_8 fl_X11_40 s1 ea5 ?_
  have s6 := w.1
  replace w := w.2
  have s7 := w.1
  replace w := w.2
  refine ex_callV (q := 14) (M := mX11_partingNumber) (hdd := Nat.le_refl _) (mc := 0) (ms := 0) (d' := (d + 18)) (c := 4) (st := [.int (X4_allPieces_V a2 h)]) (bc := bc) (bs := bs) dX11_partingNumber_11 rfl cl_X11_188 wd_698 wd_699 s6 (X4_allPieces_s (Q := fun r z => r = some (.int (X4_allPieces_V a5 h)) ∧ z = h) s7 ⟨rfl, rfl⟩) ?_
  intro r z hrz
  rw [hrz.1, hrz.2]
  show ex_G mX11_partingNumber (d + 19) 14 [.ref a_0, .retAddr 0, .retAddr 0] [.int (X4_allPieces_V a5 h), .int (X4_allPieces_V a2 h)] (h) bc bs Q
  refine ex_icmp_eq (tgt := 19) (q := 17) dX11_partingNumber_14 (fun c8 => ?_) (fun c8 => ?_)
  · replace w := w.1 c8
    refine ex_iconst (q := 20) (v := 0) dX11_partingNumber_19 (by decide) ?_
    refine ex_istore_n (q := 21) (ls' := [.ref a_0, .int 0, .retAddr 0]) dX11_partingNumber_20 rfl ?_
    exact w
  · replace w := w.2 c8
    refine ex_iconst (q := 18) (v := 1) dX11_partingNumber_17 (by decide) ?_
    exact ex_ireturn dX11_partingNumber_18 rfl (Or.inl rfl) w

set_option maxRecDepth 100000 in
theorem X11_partingNumber_21 {d bc bs : Nat} {h : AH} {Q : Option Value → AH → Prop} {a_0 : Nat} {v_1 : Int32} (w : ∃ n1, (ah_ra h 10000001 n1 ∨ ah_x h 10000001 2 n1) ∧ (((Int32.ofNat n1) ≤ v_1 → ah_o h a_0 11 ∧ ∃ a5, ah_r h a_0 4 = some a5 ∧ ah_o h a5 4 ∧ X4_allPieces_C a5 h ∧ ((¬ (X4_allPieces_V a5 h) = 1 → Q (some (.int 0)) h) ∧ ((X4_allPieces_V a5 h) = 1 → ((14 < (ah_f h a5 10) → Q (some (.int 0)) h) ∧ (¬ 14 < (ah_f h a5 10) → ∃ a10, ah_r h a_0 5 = some a10 ∧ ah_o h a10 4 ∧ (((ah_f h a10 10) ≤ 14 → ∃ a13, ah_r h a_0 7 = some a13 ∧ ah_o h a13 9 ∧ X9_affords_C a13 ((X9_costOf_V (ah_f h a5 10) h) + (X9_costOf_V (ah_f h a10 10) h)) h ∧ ((¬ (X9_affords_V a13 ((X9_costOf_V (ah_f h a5 10) h) + (X9_costOf_V (ah_f h a10 10) h)) h) = 0 → ∃ a17, ah_r h a_0 9 = some a17 ∧ ex_S yX9_makePolynomial mX9_makePolynomial (d + 18) [.ref a13, .ref a5, .ref a17] h 0 0 (fun r h18 => r = none ∧ ah_o h18 a_0 11 ∧ ∃ a20, ah_r h18 a_0 7 = some a20 ∧ ∃ a21, ah_r h18 a_0 5 = some a21 ∧ ∃ a22, ah_r h18 a_0 10 = some a22 ∧ ah_o h18 a20 9 ∧ ex_S yX9_makePolynomial mX9_makePolynomial (d + 18) [.ref a20, .ref a21, .ref a22] h18 0 0 (fun r h23 => r = none ∧ ah_o h23 a_0 11 ∧ ∃ a26, ah_r h23 a_0 9 = some a26 ∧ ∃ a27, ah_r h23 a_0 10 = some a27 ∧ ah_o h23 a26 2 ∧ ex_S yX2_isAs mX2_isAs (d + 18) [.ref a26, .ref a27] h23 0 0 (fun r h28 => ∃ x30, r = some (.int x30) ∧ ((x30 = 0 → Q (some (.int 6)) h28) ∧ (¬ x30 = 0 → Q (some (.int 0)) h28)))))) ∧ ((X9_affords_V a13 ((X9_costOf_V (ah_f h a5 10) h) + (X9_costOf_V (ah_f h a10 10) h)) h) = 0 → Q (some (.int (-19))) h))) ∧ (¬ (ah_f h a10 10) ≤ 14 → Q (some (.int 0)) h))))))) ∧ (¬ (Int32.ofNat n1) ≤ v_1 → ld0 h 10000001 v_1 ∧ ∀ x33, x33 = ah_i h 10000001 (Int32.toNatClampNeg v_1) → ah_o h a_0 11 ∧ ∃ a35, ah_r h a_0 11 = some a35 ∧ ∃ a36, ah_r h a_0 4 = some a36 ∧ ah_o h a35 1 ∧ ex_S yX1_powerOf mX1_powerOf (d + 18) [.ref a35, .ref a36, .int x33] h 0 0 (fun r h37 => ∃ x39, r = some (.int x39) ∧ ah_o h37 a_0 11 ∧ ∃ a41, ah_r h37 a_0 11 = some a41 ∧ ∃ a42, ah_r h37 a_0 5 = some a42 ∧ ah_o h37 a41 1 ∧ ex_S yX1_powerOf mX1_powerOf (d + 18) [.ref a41, .ref a42, .int x33] h37 0 0 (fun r h43 => ∃ x45, r = some (.int x45) ∧ ((x39 = x45 → ∀ x47, x47 = v_1 + 1 → ex_G mX11_partingNumber (d + 19) 21 [.ref a_0, .int x47, .retAddr 0] [] h43 bc bs Q) ∧ (¬ x39 = x45 → Q (some (.int (2 + v_1))) h43))))))) : ex_G mX11_partingNumber (d + 19) 21 [.ref a_0, .int v_1, .retAddr 0] [] h bc bs Q := by
  refine ex_iload_n (q := 22) (x := v_1) dX11_partingNumber_21 rfl ?_
  refine ex_gets1 (q := 25) dX11_partingNumber_22 wd_788 ?_
  obtain ⟨n1, s2, w⟩ := w
  refine ex_alen (q := 26) dX11_partingNumber_25 s2 ?_
  refine ex_icmp_ge (tgt := 72) (q := 29) dX11_partingNumber_26 (fun c3 => ?_) (fun c3 => ?_)
  · replace w := w.1 c3
    refine ex_aload_n (q := 73) (x := a_0) dX11_partingNumber_72 rfl ?_
    have s4 := w.1
    replace w := w.2
    obtain ⟨a5, ea5, w⟩ := w
    refine ex_getr (q := 76) dX11_partingNumber_73 fl_X11_36 s4 ea5 ?_
    have s6 := w.1
    replace w := w.2
    have s7 := w.1
    replace w := w.2
    refine ex_callV (q := 79) (M := mX11_partingNumber) (hdd := Nat.le_refl _) (mc := 0) (ms := 0) (d' := (d + 18)) (c := 4) (st := []) (bc := bc) (bs := bs) dX11_partingNumber_76 rfl cl_X11_188 wd_698 wd_699 s6 (X4_allPieces_s (Q := fun r z => r = some (.int (X4_allPieces_V a5 h)) ∧ z = h) s7 ⟨rfl, rfl⟩) ?_
    intro r z hrz
    rw [hrz.1, hrz.2]
    show ex_G mX11_partingNumber (d + 19) 79 [.ref a_0, .int v_1, .retAddr 0] [.int (X4_allPieces_V a5 h)] (h) bc bs Q
    refine ex_iconst (q := 80) (v := 1) dX11_partingNumber_79 (by decide) ?_
    refine ex_icmp_ne (tgt := 107) (q := 83) dX11_partingNumber_80 (fun c8 => ?_) (fun c8 => ?_)
    · replace w := w.1 c8
      refine ex_iconst (q := 108) (v := 0) dX11_partingNumber_107 (by decide) ?_
      exact ex_ireturn dX11_partingNumber_108 rfl (Or.inl rfl) w
    · replace w := w.2 c8
      refine ex_aload_n (q := 84) (x := a_0) dX11_partingNumber_83 rfl ?_
      refine ex_getr (q := 87) dX11_partingNumber_84 fl_X11_36 s4 ea5 ?_
      refine ex_getf (q := 90) dX11_partingNumber_87 fl_X11_213 s6 ?_
      refine ex_bipush (q := 92) (v := 14) dX11_partingNumber_90 (by decide) ?_
      refine ex_icmp_gt (tgt := 107) (q := 95) dX11_partingNumber_92 (fun c9 => ?_) (fun c9 => ?_)
      · replace w := w.1 c9
        refine ex_iconst (q := 108) (v := 0) dX11_partingNumber_107 (by decide) ?_
        exact ex_ireturn dX11_partingNumber_108 rfl (Or.inl rfl) w
      · replace w := w.2 c9
        refine ex_aload_n (q := 96) (x := a_0) dX11_partingNumber_95 rfl ?_
        obtain ⟨a10, ea10, w⟩ := w
        refine ex_getr (q := 99) dX11_partingNumber_96 fl_X11_40 s4 ea10 ?_
        have s11 := w.1
        replace w := w.2
        refine ex_getf (q := 102) dX11_partingNumber_99 fl_X11_213 s11 ?_
        refine ex_bipush (q := 104) (v := 14) dX11_partingNumber_102 (by decide) ?_
        refine ex_icmp_le (tgt := 109) (q := 107) dX11_partingNumber_104 (fun c12 => ?_) (fun c12 => ?_)
        · replace w := w.1 c12
          refine ex_aload_n (q := 110) (x := a_0) dX11_partingNumber_109 rfl ?_
          obtain ⟨a13, ea13, w⟩ := w
          refine ex_getr (q := 113) dX11_partingNumber_110 fl_X11_51 s4 ea13 ?_
          refine ex_aload_n (q := 114) (x := a_0) dX11_partingNumber_113 rfl ?_
          refine ex_getr (q := 117) dX11_partingNumber_114 fl_X11_36 s4 ea5 ?_
          refine ex_getf (q := 120) dX11_partingNumber_117 fl_X11_213 s6 ?_
          refine ex_callS (q := 123) (M := mX11_partingNumber) (hdd := Nat.le_refl _) (mc := 0) (ms := 0) (d' := (d + 18)) (st := [.ref a13]) (bc := bc) (bs := bs) dX11_partingNumber_120 rfl cl_X11_251 wd_831 (X9_costOf_s (Q := fun r z => r = some (.int (X9_costOf_V (ah_f h a5 10) h)) ∧ z = h) ⟨rfl, rfl⟩) ?_
          intro r z hrz
          rw [hrz.1, hrz.2]
          show ex_G mX11_partingNumber (d + 19) 123 [.ref a_0, .int v_1, .retAddr 0] [.int (X9_costOf_V (ah_f h a5 10) h), .ref a13] (h) bc bs Q
          refine ex_aload_n (q := 124) (x := a_0) dX11_partingNumber_123 rfl ?_
          refine ex_getr (q := 127) dX11_partingNumber_124 fl_X11_40 s4 ea10 ?_
          refine ex_getf (q := 130) dX11_partingNumber_127 fl_X11_213 s11 ?_
          refine ex_callS (q := 133) (M := mX11_partingNumber) (hdd := Nat.le_refl _) (mc := 0) (ms := 0) (d' := (d + 18)) (st := [.int (X9_costOf_V (ah_f h a5 10) h), .ref a13]) (bc := bc) (bs := bs) dX11_partingNumber_130 rfl cl_X11_251 wd_831 (X9_costOf_s (Q := fun r z => r = some (.int (X9_costOf_V (ah_f h a10 10) h)) ∧ z = h) ⟨rfl, rfl⟩) ?_
          intro r z hrz
          rw [hrz.1, hrz.2]
          show ex_G mX11_partingNumber (d + 19) 133 [.ref a_0, .int v_1, .retAddr 0] [.int (X9_costOf_V (ah_f h a10 10) h), .int (X9_costOf_V (ah_f h a5 10) h), .ref a13] (h) bc bs Q
          refine ex_iadd (q := 134) dX11_partingNumber_133 ?_
          have s14 := w.1
          replace w := w.2
          have s15 := w.1
          replace w := w.2
          refine ex_callV (q := 137) (M := mX11_partingNumber) (hdd := Nat.le_refl _) (mc := 0) (ms := 0) (d' := (d + 18)) (c := 9) (st := []) (bc := bc) (bs := bs) dX11_partingNumber_134 rfl cl_X11_254 wd_836 wd_837 s14 (X9_affords_s (Q := fun r z => r = some (.int (X9_affords_V a13 ((X9_costOf_V (ah_f h a5 10) h) + (X9_costOf_V (ah_f h a10 10) h)) h)) ∧ z = h) s15 ⟨rfl, rfl⟩) ?_
          intro r z hrz
          rw [hrz.1, hrz.2]
          show ex_G mX11_partingNumber (d + 19) 137 [.ref a_0, .int v_1, .retAddr 0] [.int (X9_affords_V a13 ((X9_costOf_V (ah_f h a5 10) h) + (X9_costOf_V (ah_f h a10 10) h)) h)] (h) bc bs Q
          refine ex_if_ne (tgt := 143) (q := 140) dX11_partingNumber_137 (fun c16 => ?_) (fun c16 => ?_)
          · replace w := w.1 c16
            refine ex_aload_n (q := 144) (x := a_0) dX11_partingNumber_143 rfl ?_
            refine ex_getr (q := 147) dX11_partingNumber_144 fl_X11_51 s4 ea13 ?_
            refine ex_aload_n (q := 148) (x := a_0) dX11_partingNumber_147 rfl ?_
            refine ex_getr (q := 151) dX11_partingNumber_148 fl_X11_36 s4 ea5 ?_
            refine ex_aload_n (q := 152) (x := a_0) dX11_partingNumber_151 rfl ?_
            obtain ⟨a17, ea17, w⟩ := w
            refine ex_getr (q := 155) dX11_partingNumber_152 fl_X11_62 s4 ea17 ?_
            refine ex_callV (q := 158) (M := mX11_partingNumber) (hdd := Nat.le_refl _) (c := 9) (st := []) (bc := bc) (bs := bs) dX11_partingNumber_155 rfl cl_X11_267 wd_891 wd_892 s14 w ?_
            rintro r h18 ⟨rfl, w⟩
            show ex_G mX11_partingNumber (d + 19) 158 [.ref a_0, .int v_1, .retAddr 0] [] h18 bc bs Q
            refine ex_aload_n (q := 159) (x := a_0) dX11_partingNumber_158 rfl ?_
            have s19 := w.1
            replace w := w.2
            obtain ⟨a20, ea20, w⟩ := w
            refine ex_getr (q := 162) dX11_partingNumber_159 fl_X11_51 s19 ea20 ?_
            refine ex_aload_n (q := 163) (x := a_0) dX11_partingNumber_162 rfl ?_
            obtain ⟨a21, ea21, w⟩ := w
            refine ex_getr (q := 166) dX11_partingNumber_163 fl_X11_40 s19 ea21 ?_
            refine ex_aload_n (q := 167) (x := a_0) dX11_partingNumber_166 rfl ?_
            obtain ⟨a22, ea22, w⟩ := w
            refine ex_getr (q := 170) dX11_partingNumber_167 fl_X11_65 s19 ea22 ?_
            have s24 := w.1
            replace w := w.2
            refine ex_callV (q := 173) (M := mX11_partingNumber) (hdd := Nat.le_refl _) (c := 9) (st := []) (bc := bc) (bs := bs) dX11_partingNumber_170 rfl cl_X11_267 wd_891 wd_892 s24 w ?_
            rintro r h23 ⟨rfl, w⟩
            show ex_G mX11_partingNumber (d + 19) 173 [.ref a_0, .int v_1, .retAddr 0] [] h23 bc bs Q
            refine ex_aload_n (q := 174) (x := a_0) dX11_partingNumber_173 rfl ?_
            have s25 := w.1
            replace w := w.2
            obtain ⟨a26, ea26, w⟩ := w
            refine ex_getr (q := 177) dX11_partingNumber_174 fl_X11_62 s25 ea26 ?_
            refine ex_aload_n (q := 178) (x := a_0) dX11_partingNumber_177 rfl ?_
            obtain ⟨a27, ea27, w⟩ := w
            refine ex_getr (q := 181) dX11_partingNumber_178 fl_X11_65 s25 ea27 ?_
            have s29 := w.1
            replace w := w.2
            refine ex_callV (q := 184) (M := mX11_partingNumber) (hdd := Nat.le_refl _) (c := 2) (st := []) (bc := bc) (bs := bs) dX11_partingNumber_181 rfl cl_X11_392 wd_1291 wd_1292 s29 w ?_
            rintro r h28 ⟨x30, rfl, w⟩
            show ex_G mX11_partingNumber (d + 19) 184 [.ref a_0, .int v_1, .retAddr 0] [.int x30] h28 bc bs Q
            refine ex_if_eq (tgt := 191) (q := 187) dX11_partingNumber_184 (fun c31 => ?_) (fun c31 => ?_)
            · replace w := w.1 c31
              refine ex_bipush (q := 193) (v := 6) dX11_partingNumber_191 (by decide) ?_
              exact ex_ireturn dX11_partingNumber_193 rfl (Or.inl rfl) w
            · replace w := w.2 c31
              refine ex_iconst (q := 188) (v := 0) dX11_partingNumber_187 (by decide) ?_
              refine ex_goto (tgt := 193) dX11_partingNumber_188 ?_
              exact ex_ireturn dX11_partingNumber_193 rfl (Or.inl rfl) w
          · replace w := w.2 c16
            refine ex_bipush (q := 142) (v := (-19)) dX11_partingNumber_140 (by decide) ?_
            exact ex_ireturn dX11_partingNumber_142 rfl (Or.inl rfl) w
        · replace w := w.2 c12
          refine ex_iconst (q := 108) (v := 0) dX11_partingNumber_107 (by decide) ?_
          exact ex_ireturn dX11_partingNumber_108 rfl (Or.inl rfl) w
  · replace w := w.2 c3
    refine ex_gets1 (q := 32) dX11_partingNumber_29 wd_788 ?_
    refine ex_iload_n (q := 33) (x := v_1) dX11_partingNumber_32 rfl ?_
    have s32 := w.1
    replace w := w.2
    refine ex_iald (q := 34) dX11_partingNumber_33 s32 ?_
    refine ex_nmi (fun x33 ex33 => ?_)
    replace w := w x33 ex33
    refine ex_istore_n (q := 35) (ls' := [.ref a_0, .int v_1, .int x33]) dX11_partingNumber_34 rfl ?_
    refine ex_aload_n (q := 36) (x := a_0) dX11_partingNumber_35 rfl ?_
    have s34 := w.1
    replace w := w.2
    obtain ⟨a35, ea35, w⟩ := w
    refine ex_getr (q := 39) dX11_partingNumber_36 fl_X11_71 s34 ea35 ?_
    refine ex_aload_n (q := 40) (x := a_0) dX11_partingNumber_39 rfl ?_
    obtain ⟨a36, ea36, w⟩ := w
    refine ex_getr (q := 43) dX11_partingNumber_40 fl_X11_36 s34 ea36 ?_
    refine ex_iload_n (q := 44) (x := x33) dX11_partingNumber_43 rfl ?_
    have s38 := w.1
    replace w := w.2
    refine ex_callV (q := 47) (M := mX11_partingNumber) (hdd := Nat.le_refl _) (c := 1) (st := []) (bc := bc) (bs := bs) dX11_partingNumber_44 rfl cl_X11_247 wd_791 wd_792 s38 w ?_
    rintro r h37 ⟨x39, rfl, w⟩
    show ex_G mX11_partingNumber (d + 19) 47 [.ref a_0, .int v_1, .int x33] [.int x39] h37 bc bs Q
    refine ex_aload_n (q := 48) (x := a_0) dX11_partingNumber_47 rfl ?_
    have s40 := w.1
    replace w := w.2
    obtain ⟨a41, ea41, w⟩ := w
    refine ex_getr (q := 51) dX11_partingNumber_48 fl_X11_71 s40 ea41 ?_
    refine ex_aload_n (q := 52) (x := a_0) dX11_partingNumber_51 rfl ?_
    obtain ⟨a42, ea42, w⟩ := w
    refine ex_getr (q := 55) dX11_partingNumber_52 fl_X11_40 s40 ea42 ?_
    refine ex_iload_n (q := 56) (x := x33) dX11_partingNumber_55 rfl ?_
    have s44 := w.1
    replace w := w.2
    refine ex_callV (q := 59) (M := mX11_partingNumber) (hdd := Nat.le_refl _) (c := 1) (st := [.int x39]) (bc := bc) (bs := bs) dX11_partingNumber_56 rfl cl_X11_247 wd_791 wd_792 s44 w ?_
    rintro r h43 ⟨x45, rfl, w⟩
    show ex_G mX11_partingNumber (d + 19) 59 [.ref a_0, .int v_1, .int x33] [.int x45, .int x39] h43 bc bs Q
    refine ex_icmp_eq (tgt := 66) (q := 62) dX11_partingNumber_59 (fun c46 => ?_) (fun c46 => ?_)
    · replace w := w.1 c46
      obtain ⟨x47, ex47⟩ : ∃ y : Int32, y = v_1 + 1 := ⟨_, rfl⟩
      replace w := w x47 ex47
      refine ex_iinc (q := 69) (x := v_1) (v := x47) (ls' := [.ref a_0, .int x47, .int x33]) dX11_partingNumber_66 rfl (by rw [ex47]; rfl) rfl ?_
      refine ex_goto (tgt := 21) dX11_partingNumber_69 ?_
      refine ex_kill 2 (ls' := [.ref a_0, .int x47, .retAddr 0]) rfl ?_
      exact w
    · replace w := w.2 c46
      refine ex_iconst (q := 63) (v := 2) dX11_partingNumber_62 (by decide) ?_
      refine ex_iload_n (q := 64) (x := v_1) dX11_partingNumber_63 rfl ?_
      refine ex_iadd (q := 65) dX11_partingNumber_64 ?_
      exact ex_ireturn dX11_partingNumber_65 rfl (Or.inl rfl) w

theorem X11_partingNumber_e {d bc bs : Nat} {h : AH} {Q : Option Value → AH → Prop} {a_0 : Nat} (w : ex_G mX11_partingNumber (d + 19) 0 [.ref a_0, .retAddr 0, .retAddr 0] [] h bc bs Q) : ex_S yX11_partingNumber mX11_partingNumber (d + 19) [.ref a_0] h bc bs Q :=
  ex_enter (plainFor_of_name (by decide +kernel)) ⟨rfl, rfl⟩ rfl rfl (Nat.le_of_ble_eq_true rfl) (ex_pad 2 w)

set_option maxRecDepth 100000 in
theorem X11_same_0 {d bc bs : Nat} {h : AH} {Q : Option Value → AH → Prop} {a_0 : Nat} {v_1 : Int32} {v_2 : Int32} {v_3 : Int32} (w : ah_o h a_0 11 ∧ X11_hasPicture_C a_0 v_1 h ∧ (((X11_hasPicture_V a_0 v_1 h) = 0 → ex_S yX11_refuse mX11_refuse (d + 19) [.ref a_0, .int (-2)] h 0 0 (fun r h4 => ∃ x5, r = some (.int x5) ∧ Q (some (.int x5)) h4)) ∧ (¬ (X11_hasPicture_V a_0 v_1 h) = 0 → X11_hasPicture_C a_0 v_2 h ∧ (((X11_hasPicture_V a_0 v_2 h) = 0 → ex_S yX11_refuse mX11_refuse (d + 19) [.ref a_0, .int (-2)] h 0 0 (fun r h8 => ∃ x9, r = some (.int x9) ∧ Q (some (.int x9)) h8)) ∧ (¬ (X11_hasPicture_V a_0 v_2 h) = 0 → ((¬ (X11_isStepCount_V v_3 h) = 0 → ∃ a11, ah_r h a_0 4 = some a11 ∧ ex_S yX11_isWhole mX11_isWhole (d + 19) [.ref a_0, .int v_1, .ref a11] h 0 0 (fun r h12 => ∃ x13, r = some (.int x13) ∧ ((x13 = 0 → ah_o h12 a_0 11 ∧ ex_S yX11_refuse mX11_refuse (d + 19) [.ref a_0, .int (-13)] h12 0 0 (fun r h15 => ∃ x17, r = some (.int x17) ∧ Q (some (.int x17)) h15)) ∧ (¬ x13 = 0 → ah_o h12 a_0 11 ∧ ∃ a19, ah_r h12 a_0 5 = some a19 ∧ ex_S yX11_isWhole mX11_isWhole (d + 19) [.ref a_0, .int v_2, .ref a19] h12 0 0 (fun r h20 => ∃ x21, r = some (.int x21) ∧ ((¬ x21 = 0 → ah_o h20 a_0 11 ∧ ∃ a24, ah_r h20 a_0 4 = some a24 ∧ ah_o h20 a24 4 ∧ (((ah_f h20 a24 10) ≤ 12 → ex_S yX11_partingNumber mX11_partingNumber (d + 19) [.ref a_0] h20 0 0 (fun r h27 => ∃ x28, r = some (.int x28) ∧ ((0 ≤ x28 → ah_o h27 a_0 11 ∧ ∀ h31, h31 = ah_sf h27 a_0 18 x28 → ((x28 = 0 → ∃ a33, ah_r h31 a_0 12 = some a33 ∧ ∃ a34, ah_r h31 a_0 0 = some a34 ∧ ld3 h31 11 a34 v_1 ∧ ∃ a36, ah_q h31 a34 (Int32.toNatClampNeg v_1) = some a36 ∧ ah_o h31 a33 8 ∧ ex_S yX8_begin mX8_begin (d + 19) [.ref a33, .ref a36] h31 3 103 (fun r h37 => r = none ∧ ah_o h37 a_0 11 ∧ ∃ a40, ah_r h37 a_0 12 = some a40 ∧ ∃ a41, ah_r h37 a_0 0 = some a41 ∧ ld3 h37 11 a41 v_2 ∧ ∃ a43, ah_q h37 a41 (Int32.toNatClampNeg v_2) = some a43 ∧ ah_o h37 a40 8 ∧ ex_S yX8_aimAt mX8_aimAt (d + 19) [.ref a40, .ref a43] h37 0 0 (fun r h44 => r = none ∧ ah_o h44 a_0 11 ∧ ∃ a47, ah_r h44 a_0 12 = some a47 ∧ ah_o h44 a47 8 ∧ ex_S yX8_go mX8_go (d + 19) [.ref a47, .int v_3] h44 300 10300 (fun r h48 => ∃ x50, r = some (.int x50) ∧ ah_o h48 a_0 11 ∧ ∃ a52, ah_r h48 a_0 12 = some a52 ∧ ah_o h48 a52 8 ∧ ex_S yX8_takeAim mX8_takeAim (d + 19) [.ref a52] h48 0 0 (fun r h53 => ∃ x55, r = some (.int x55) ∧ ((x55 = 0 → ah_o h53 a_0 11 ∧ X11_grant_C a_0 (-1) h53 ∧ ∀ h59, h59 = X11_grant_H a_0 (-1) h53 → Q (some (.int (X11_grant_V a_0 (-1) h53))) h59) ∧ (¬ x55 = 0 → ah_o h53 a_0 11 ∧ X11_grant_C a_0 1 h53 ∧ ∀ h62, h62 = X11_grant_H a_0 1 h53 → Q (some (.int (X11_grant_V a_0 1 h53))) h62))))))) ∧ (¬ x28 = 0 → X11_grant_C a_0 0 h31 ∧ ∀ h64, h64 = X11_grant_H a_0 0 h31 → Q (some (.int (X11_grant_V a_0 0 h31))) h64))) ∧ (¬ 0 ≤ x28 → ah_o h27 a_0 11 ∧ ex_S yX11_refuse mX11_refuse (d + 19) [.ref a_0, .int x28] h27 0 0 (fun r h65 => ∃ x67, r = some (.int x67) ∧ Q (some (.int x67)) h65))))) ∧ (¬ (ah_f h20 a24 10) ≤ 12 → ex_S yX11_refuse mX11_refuse (d + 19) [.ref a_0, .int (-17)] h20 0 0 (fun r h68 => ∃ x69, r = some (.int x69) ∧ Q (some (.int x69)) h68)))) ∧ (x21 = 0 → ah_o h20 a_0 11 ∧ ex_S yX11_refuse mX11_refuse (d + 19) [.ref a_0, .int (-13)] h20 0 0 (fun r h70 => ∃ x72, r = some (.int x72) ∧ Q (some (.int x72)) h70)))))))) ∧ ((X11_isStepCount_V v_3 h) = 0 → ex_S yX11_refuse mX11_refuse (d + 19) [.ref a_0, .int (-2)] h 0 0 (fun r h73 => ∃ x74, r = some (.int x74) ∧ Q (some (.int x74)) h73)))))))) : ex_G mX11_same (d + 20) 0 [.ref a_0, .int v_1, .int v_2, .int v_3, .retAddr 0] [] h (bc + 303) (bs + 10403) Q := by
  refine ex_aload_n (q := 1) (x := a_0) dX11_same_0 rfl ?_
  refine ex_iload_n (q := 2) (x := v_1) dX11_same_1 rfl ?_
  have s1 := w.1
  replace w := w.2
  have s2 := w.1
  replace w := w.2
  refine ex_callV (q := 5) (M := mX11_same) (hdd := Nat.le_refl _) (mc := 0) (ms := 0) (d' := (d + 19)) (c := 11) (st := []) (bc := (bc + 303)) (bs := (bs + 10403)) dX11_same_2 rfl cl_X11_134 wd_584 wd_4 s1 (X11_hasPicture_s (Q := fun r z => r = some (.int (X11_hasPicture_V a_0 v_1 h)) ∧ z = h) s2 ⟨rfl, rfl⟩) ?_
  intro r z hrz
  rw [hrz.1, hrz.2]
  show ex_G mX11_same (d + 20) 5 [.ref a_0, .int v_1, .int v_2, .int v_3, .retAddr 0] [.int (X11_hasPicture_V a_0 v_1 h)] (h) (bc + 303) (bs + 10403) Q
  refine ex_if_eq (tgt := 23) (q := 8) dX11_same_5 (fun c3 => ?_) (fun c3 => ?_)
  · replace w := w.1 c3
    refine ex_aload_n (q := 24) (x := a_0) dX11_same_23 rfl ?_
    refine ex_bipush (q := 26) (v := (-2)) dX11_same_24 (by decide) ?_
    refine ex_callV (q := 29) (M := mX11_same) (hdd := Nat.le_refl _) (c := 11) (st := []) (bc := (bc + 303)) (bs := (bs + 10403)) dX11_same_26 rfl cl_X11_120 wd_557 wd_1 s1 w ?_
    rintro r h4 ⟨x5, rfl, w⟩
    show ex_G mX11_same (d + 20) 29 [.ref a_0, .int v_1, .int v_2, .int v_3, .retAddr 0] [.int x5] h4 (bc + 303) (bs + 10403) Q
    exact ex_ireturn dX11_same_29 rfl (Or.inl rfl) w
  · replace w := w.2 c3
    refine ex_aload_n (q := 9) (x := a_0) dX11_same_8 rfl ?_
    refine ex_iload_n (q := 10) (x := v_2) dX11_same_9 rfl ?_
    have s6 := w.1
    replace w := w.2
    refine ex_callV (q := 13) (M := mX11_same) (hdd := Nat.le_refl _) (mc := 0) (ms := 0) (d' := (d + 19)) (c := 11) (st := []) (bc := (bc + 303)) (bs := (bs + 10403)) dX11_same_10 rfl cl_X11_134 wd_584 wd_4 s1 (X11_hasPicture_s (Q := fun r z => r = some (.int (X11_hasPicture_V a_0 v_2 h)) ∧ z = h) s6 ⟨rfl, rfl⟩) ?_
    intro r z hrz
    rw [hrz.1, hrz.2]
    show ex_G mX11_same (d + 20) 13 [.ref a_0, .int v_1, .int v_2, .int v_3, .retAddr 0] [.int (X11_hasPicture_V a_0 v_2 h)] (h) (bc + 303) (bs + 10403) Q
    refine ex_if_eq (tgt := 23) (q := 16) dX11_same_13 (fun c7 => ?_) (fun c7 => ?_)
    · replace w := w.1 c7
      refine ex_aload_n (q := 24) (x := a_0) dX11_same_23 rfl ?_
      refine ex_bipush (q := 26) (v := (-2)) dX11_same_24 (by decide) ?_
      refine ex_callV (q := 29) (M := mX11_same) (hdd := Nat.le_refl _) (c := 11) (st := []) (bc := (bc + 303)) (bs := (bs + 10403)) dX11_same_26 rfl cl_X11_120 wd_557 wd_1 s1 w ?_
      rintro r h8 ⟨x9, rfl, w⟩
      show ex_G mX11_same (d + 20) 29 [.ref a_0, .int v_1, .int v_2, .int v_3, .retAddr 0] [.int x9] h8 (bc + 303) (bs + 10403) Q
      exact ex_ireturn dX11_same_29 rfl (Or.inl rfl) w
    · replace w := w.2 c7
      refine ex_iload_n (q := 17) (x := v_3) dX11_same_16 rfl ?_
      refine ex_callS (q := 20) (M := mX11_same) (hdd := Nat.le_refl _) (mc := 0) (ms := 0) (d' := (d + 19)) (st := []) (bc := (bc + 303)) (bs := (bs + 10403)) dX11_same_17 rfl cl_X11_355 wd_1203 (X11_isStepCount_s (Q := fun r z => r = some (.int (X11_isStepCount_V v_3 h)) ∧ z = h) ⟨rfl, rfl⟩) ?_
      intro r z hrz
      rw [hrz.1, hrz.2]
      show ex_G mX11_same (d + 20) 20 [.ref a_0, .int v_1, .int v_2, .int v_3, .retAddr 0] [.int (X11_isStepCount_V v_3 h)] (h) (bc + 303) (bs + 10403) Q
      refine ex_if_ne (tgt := 30) (q := 23) dX11_same_20 (fun c10 => ?_) (fun c10 => ?_)
      · replace w := w.1 c10
        refine ex_aload_n (q := 31) (x := a_0) dX11_same_30 rfl ?_
        refine ex_iload_n (q := 32) (x := v_1) dX11_same_31 rfl ?_
        refine ex_aload_n (q := 33) (x := a_0) dX11_same_32 rfl ?_
        obtain ⟨a11, ea11, w⟩ := w
        refine ex_getr (q := 36) dX11_same_33 fl_X11_36 s1 ea11 ?_
        refine ex_callV (q := 39) (M := mX11_same) (hdd := Nat.le_refl _) (c := 11) (st := []) (bc := (bc + 303)) (bs := (bs + 10403)) dX11_same_36 rfl cl_X11_184 wd_695 wd_13 s1 w ?_
        rintro r h12 ⟨x13, rfl, w⟩
        show ex_G mX11_same (d + 20) 39 [.ref a_0, .int v_1, .int v_2, .int v_3, .retAddr 0] [.int x13] h12 (bc + 303) (bs + 10403) Q
        refine ex_if_eq (tgt := 54) (q := 42) dX11_same_39 (fun c14 => ?_) (fun c14 => ?_)
        · replace w := w.1 c14
          refine ex_aload_n (q := 55) (x := a_0) dX11_same_54 rfl ?_
          refine ex_bipush (q := 57) (v := (-13)) dX11_same_55 (by decide) ?_
          have s16 := w.1
          replace w := w.2
          refine ex_callV (q := 60) (M := mX11_same) (hdd := Nat.le_refl _) (c := 11) (st := []) (bc := (bc + 303)) (bs := (bs + 10403)) dX11_same_57 rfl cl_X11_120 wd_557 wd_1 s16 w ?_
          rintro r h15 ⟨x17, rfl, w⟩
          show ex_G mX11_same (d + 20) 60 [.ref a_0, .int v_1, .int v_2, .int v_3, .retAddr 0] [.int x17] h15 (bc + 303) (bs + 10403) Q
          exact ex_ireturn dX11_same_60 rfl (Or.inl rfl) w
        · replace w := w.2 c14
          refine ex_aload_n (q := 43) (x := a_0) dX11_same_42 rfl ?_
          refine ex_iload_n (q := 44) (x := v_2) dX11_same_43 rfl ?_
          refine ex_aload_n (q := 45) (x := a_0) dX11_same_44 rfl ?_
          have s18 := w.1
          replace w := w.2
          obtain ⟨a19, ea19, w⟩ := w
          refine ex_getr (q := 48) dX11_same_45 fl_X11_40 s18 ea19 ?_
          refine ex_callV (q := 51) (M := mX11_same) (hdd := Nat.le_refl _) (c := 11) (st := []) (bc := (bc + 303)) (bs := (bs + 10403)) dX11_same_48 rfl cl_X11_184 wd_695 wd_13 s18 w ?_
          rintro r h20 ⟨x21, rfl, w⟩
          show ex_G mX11_same (d + 20) 51 [.ref a_0, .int v_1, .int v_2, .int v_3, .retAddr 0] [.int x21] h20 (bc + 303) (bs + 10403) Q
          refine ex_if_ne (tgt := 61) (q := 54) dX11_same_51 (fun c22 => ?_) (fun c22 => ?_)
          · replace w := w.1 c22
            refine ex_aload_n (q := 62) (x := a_0) dX11_same_61 rfl ?_
            have s23 := w.1
            replace w := w.2
            obtain ⟨a24, ea24, w⟩ := w
            refine ex_getr (q := 65) dX11_same_62 fl_X11_36 s23 ea24 ?_
            have s25 := w.1
            replace w := w.2
            refine ex_getf (q := 68) dX11_same_65 fl_X11_213 s25 ?_
            refine ex_bipush (q := 70) (v := 12) dX11_same_68 (by decide) ?_
            refine ex_icmp_le (tgt := 80) (q := 73) dX11_same_70 (fun c26 => ?_) (fun c26 => ?_)
            · replace w := w.1 c26
              refine ex_aload_n (q := 81) (x := a_0) dX11_same_80 rfl ?_
              refine ex_callV (q := 84) (M := mX11_same) (hdd := Nat.le_refl _) (c := 11) (st := []) (bc := (bc + 303)) (bs := (bs + 10403)) dX11_same_81 rfl cl_X11_396 wd_1288 wd_44 s23 w ?_
              rintro r h27 ⟨x28, rfl, w⟩
              show ex_G mX11_same (d + 20) 84 [.ref a_0, .int v_1, .int v_2, .int v_3, .retAddr 0] [.int x28] h27 (bc + 303) (bs + 10403) Q
              refine ex_istore (q := 86) (ls' := [.ref a_0, .int v_1, .int v_2, .int v_3, .int x28]) dX11_same_84 rfl ?_
              refine ex_iload (q := 88) (x := x28) dX11_same_86 rfl ?_
              refine ex_if_ge (tgt := 98) (q := 91) dX11_same_88 (fun c29 => ?_) (fun c29 => ?_)
              · replace w := w.1 c29
                refine ex_aload_n (q := 99) (x := a_0) dX11_same_98 rfl ?_
                refine ex_iload (q := 101) (x := x28) dX11_same_99 rfl ?_
                have s30 := w.1
                replace w := w.2
                refine ex_putf (q := 104) dX11_same_101 fl_X11_399 (Or.inl rfl) s30 (Or.inl rfl) ?_
                refine ex_nmh (fun h31 eh31 => ?_)
                replace w := w h31 eh31
                refine ex_iload (q := 106) (x := x28) dX11_same_104 rfl ?_
                refine ex_if_eq (tgt := 115) (q := 109) dX11_same_106 (fun c32 => ?_) (fun c32 => ?_)
                · replace w := w.1 c32
                  refine ex_aload_n (q := 116) (x := a_0) dX11_same_115 rfl ?_
                  obtain ⟨a33, ea33, w⟩ := w
                  refine ex_getr (q := 119) dX11_same_116 fl_X11_78 (by rw [eh31]; exact s30) ea33 ?_
                  refine ex_aload_n (q := 120) (x := a_0) dX11_same_119 rfl ?_
                  obtain ⟨a34, ea34, w⟩ := w
                  refine ex_getr (q := 123) dX11_same_120 fl_X11_11 (by rw [eh31]; exact s30) ea34 ?_
                  refine ex_iload_n (q := 124) (x := v_1) dX11_same_123 rfl ?_
                  have s35 := w.1
                  replace w := w.2
                  obtain ⟨a36, ea36, w⟩ := w
                  refine ex_aald (q := 125) dX11_same_124 s35 ea36 ?_
                  refine ex_G.room (bc' := (bc + 300) + 3) (bs' := (bs + 10300) + 103) (Nat.le_refl _) (rm_le rfl) (rm_le rfl) ?_
                  have s38 := w.1
                  replace w := w.2
                  refine ex_callV (q := 128) (M := mX11_same) (hdd := Nat.le_refl _) (c := 8) (st := []) (bc := (bc + 300)) (bs := (bs + 10300)) dX11_same_125 rfl cl_X11_358 wd_1206 wd_1207 s38 w ?_
                  rintro r h37 ⟨rfl, w⟩
                  show ex_G mX11_same (d + 20) 128 [.ref a_0, .int v_1, .int v_2, .int v_3, .int x28] [] h37 (bc + 300) (bs + 10300) Q
                  refine ex_aload_n (q := 129) (x := a_0) dX11_same_128 rfl ?_
                  have s39 := w.1
                  replace w := w.2
                  obtain ⟨a40, ea40, w⟩ := w
                  refine ex_getr (q := 132) dX11_same_129 fl_X11_78 s39 ea40 ?_
                  refine ex_aload_n (q := 133) (x := a_0) dX11_same_132 rfl ?_
                  obtain ⟨a41, ea41, w⟩ := w
                  refine ex_getr (q := 136) dX11_same_133 fl_X11_11 s39 ea41 ?_
                  refine ex_iload_n (q := 137) (x := v_2) dX11_same_136 rfl ?_
                  have s42 := w.1
                  replace w := w.2
                  obtain ⟨a43, ea43, w⟩ := w
                  refine ex_aald (q := 138) dX11_same_137 s42 ea43 ?_
                  have s45 := w.1
                  replace w := w.2
                  refine ex_callV (q := 141) (M := mX11_same) (hdd := Nat.le_refl _) (c := 8) (st := []) (bc := (bc + 300)) (bs := (bs + 10300)) dX11_same_138 rfl cl_X11_402 wd_1295 wd_1296 s45 w ?_
                  rintro r h44 ⟨rfl, w⟩
                  show ex_G mX11_same (d + 20) 141 [.ref a_0, .int v_1, .int v_2, .int v_3, .int x28] [] h44 (bc + 300) (bs + 10300) Q
                  refine ex_aload_n (q := 142) (x := a_0) dX11_same_141 rfl ?_
                  have s46 := w.1
                  replace w := w.2
                  obtain ⟨a47, ea47, w⟩ := w
                  refine ex_getr (q := 145) dX11_same_142 fl_X11_78 s46 ea47 ?_
                  refine ex_iload_n (q := 146) (x := v_3) dX11_same_145 rfl ?_
                  refine ex_G.room (bc' := bc + 300) (bs' := bs + 10300) (Nat.le_refl _) (Nat.le_refl _) (Nat.le_refl _) ?_
                  have s49 := w.1
                  replace w := w.2
                  refine ex_callV (q := 149) (M := mX11_same) (hdd := Nat.le_refl _) (c := 8) (st := []) (bc := bc) (bs := bs) dX11_same_146 rfl cl_X11_361 wd_1242 wd_1243 s49 w ?_
                  rintro r h48 ⟨x50, rfl, w⟩
                  show ex_G mX11_same (d + 20) 149 [.ref a_0, .int v_1, .int v_2, .int v_3, .int x28] [.int x50] h48 bc bs Q
                  refine ex_pop (q := 150) dX11_same_149 rfl ?_
                  refine ex_aload_n (q := 151) (x := a_0) dX11_same_150 rfl ?_
                  refine ex_aload_n (q := 152) (x := a_0) dX11_same_151 rfl ?_
                  have s51 := w.1
                  replace w := w.2
                  obtain ⟨a52, ea52, w⟩ := w
                  refine ex_getr (q := 155) dX11_same_152 fl_X11_78 s51 ea52 ?_
                  have s54 := w.1
                  replace w := w.2
                  refine ex_callV (q := 158) (M := mX11_same) (hdd := Nat.le_refl _) (c := 8) (st := [.ref a_0]) (bc := bc) (bs := bs) dX11_same_155 rfl cl_X11_405 wd_1299 wd_1300 s54 w ?_
                  rintro r h53 ⟨x55, rfl, w⟩
                  show ex_G mX11_same (d + 20) 158 [.ref a_0, .int v_1, .int v_2, .int v_3, .int x28] [.int x55, .ref a_0] h53 bc bs Q
                  refine ex_if_eq (tgt := 165) (q := 161) dX11_same_158 (fun c56 => ?_) (fun c56 => ?_)
                  · replace w := w.1 c56
                    refine ex_iconst (q := 166) (v := (-1)) dX11_same_165 (by decide) ?_
                    have s57 := w.1
                    replace w := w.2
                    have s58 := w.1
                    replace w := w.2
                    refine ex_callV (q := 169) (M := mX11_same) (hdd := Nat.le_refl _) (mc := 0) (ms := 0) (d' := (d + 19)) (c := 11) (st := []) (bc := bc) (bs := bs) dX11_same_166 rfl cl_X11_131 wd_576 wd_3 s57 (X11_grant_s (Q := fun r z => r = some (.int (X11_grant_V a_0 (-1) h53)) ∧ z = X11_grant_H a_0 (-1) h53) s58 ⟨rfl, rfl⟩) ?_
                    intro r z hrz
                    rw [hrz.1, hrz.2]
                    show ex_G mX11_same (d + 20) 169 [.ref a_0, .int v_1, .int v_2, .int v_3, .int x28] [.int (X11_grant_V a_0 (-1) h53)] (X11_grant_H a_0 (-1) h53) bc bs Q
                    refine ex_nmh (fun h59 eh59 => ?_)
                    replace w := w h59 eh59
                    exact ex_ireturn dX11_same_169 rfl (Or.inl rfl) w
                  · replace w := w.2 c56
                    refine ex_iconst (q := 162) (v := 1) dX11_same_161 (by decide) ?_
                    refine ex_goto (tgt := 166) dX11_same_162 ?_
                    have s60 := w.1
                    replace w := w.2
                    have s61 := w.1
                    replace w := w.2
                    refine ex_callV (q := 169) (M := mX11_same) (hdd := Nat.le_refl _) (mc := 0) (ms := 0) (d' := (d + 19)) (c := 11) (st := []) (bc := bc) (bs := bs) dX11_same_166 rfl cl_X11_131 wd_576 wd_3 s60 (X11_grant_s (Q := fun r z => r = some (.int (X11_grant_V a_0 1 h53)) ∧ z = X11_grant_H a_0 1 h53) s61 ⟨rfl, rfl⟩) ?_
                    intro r z hrz
                    rw [hrz.1, hrz.2]
                    show ex_G mX11_same (d + 20) 169 [.ref a_0, .int v_1, .int v_2, .int v_3, .int x28] [.int (X11_grant_V a_0 1 h53)] (X11_grant_H a_0 1 h53) bc bs Q
                    refine ex_nmh (fun h62 eh62 => ?_)
                    replace w := w h62 eh62
                    exact ex_ireturn dX11_same_169 rfl (Or.inl rfl) w
                · replace w := w.2 c32
                  refine ex_aload_n (q := 110) (x := a_0) dX11_same_109 rfl ?_
                  refine ex_iconst (q := 111) (v := 0) dX11_same_110 (by decide) ?_
                  have s63 := w.1
                  replace w := w.2
                  refine ex_callV (q := 114) (M := mX11_same) (hdd := Nat.le_refl _) (mc := 0) (ms := 0) (d' := (d + 19)) (c := 11) (st := []) (bc := (bc + 303)) (bs := (bs + 10403)) dX11_same_111 rfl cl_X11_131 wd_576 wd_3 (by rw [eh31]; exact s30) (X11_grant_s (Q := fun r z => r = some (.int (X11_grant_V a_0 0 h31)) ∧ z = X11_grant_H a_0 0 h31) s63 ⟨rfl, rfl⟩) ?_
                  intro r z hrz
                  rw [hrz.1, hrz.2]
                  show ex_G mX11_same (d + 20) 114 [.ref a_0, .int v_1, .int v_2, .int v_3, .int x28] [.int (X11_grant_V a_0 0 h31)] (X11_grant_H a_0 0 h31) (bc + 303) (bs + 10403) Q
                  refine ex_nmh (fun h64 eh64 => ?_)
                  replace w := w h64 eh64
                  exact ex_ireturn dX11_same_114 rfl (Or.inl rfl) w
              · replace w := w.2 c29
                refine ex_aload_n (q := 92) (x := a_0) dX11_same_91 rfl ?_
                refine ex_iload (q := 94) (x := x28) dX11_same_92 rfl ?_
                have s66 := w.1
                replace w := w.2
                refine ex_callV (q := 97) (M := mX11_same) (hdd := Nat.le_refl _) (c := 11) (st := []) (bc := (bc + 303)) (bs := (bs + 10403)) dX11_same_94 rfl cl_X11_120 wd_557 wd_1 s66 w ?_
                rintro r h65 ⟨x67, rfl, w⟩
                show ex_G mX11_same (d + 20) 97 [.ref a_0, .int v_1, .int v_2, .int v_3, .int x28] [.int x67] h65 (bc + 303) (bs + 10403) Q
                exact ex_ireturn dX11_same_97 rfl (Or.inl rfl) w
            · replace w := w.2 c26
              refine ex_aload_n (q := 74) (x := a_0) dX11_same_73 rfl ?_
              refine ex_bipush (q := 76) (v := (-17)) dX11_same_74 (by decide) ?_
              refine ex_callV (q := 79) (M := mX11_same) (hdd := Nat.le_refl _) (c := 11) (st := []) (bc := (bc + 303)) (bs := (bs + 10403)) dX11_same_76 rfl cl_X11_120 wd_557 wd_1 s23 w ?_
              rintro r h68 ⟨x69, rfl, w⟩
              show ex_G mX11_same (d + 20) 79 [.ref a_0, .int v_1, .int v_2, .int v_3, .retAddr 0] [.int x69] h68 (bc + 303) (bs + 10403) Q
              exact ex_ireturn dX11_same_79 rfl (Or.inl rfl) w
          · replace w := w.2 c22
            refine ex_aload_n (q := 55) (x := a_0) dX11_same_54 rfl ?_
            refine ex_bipush (q := 57) (v := (-13)) dX11_same_55 (by decide) ?_
            have s71 := w.1
            replace w := w.2
            refine ex_callV (q := 60) (M := mX11_same) (hdd := Nat.le_refl _) (c := 11) (st := []) (bc := (bc + 303)) (bs := (bs + 10403)) dX11_same_57 rfl cl_X11_120 wd_557 wd_1 s71 w ?_
            rintro r h70 ⟨x72, rfl, w⟩
            show ex_G mX11_same (d + 20) 60 [.ref a_0, .int v_1, .int v_2, .int v_3, .retAddr 0] [.int x72] h70 (bc + 303) (bs + 10403) Q
            exact ex_ireturn dX11_same_60 rfl (Or.inl rfl) w
      · replace w := w.2 c10
        refine ex_aload_n (q := 24) (x := a_0) dX11_same_23 rfl ?_
        refine ex_bipush (q := 26) (v := (-2)) dX11_same_24 (by decide) ?_
        refine ex_callV (q := 29) (M := mX11_same) (hdd := Nat.le_refl _) (c := 11) (st := []) (bc := (bc + 303)) (bs := (bs + 10403)) dX11_same_26 rfl cl_X11_120 wd_557 wd_1 s1 w ?_
        rintro r h73 ⟨x74, rfl, w⟩
        show ex_G mX11_same (d + 20) 29 [.ref a_0, .int v_1, .int v_2, .int v_3, .retAddr 0] [.int x74] h73 (bc + 303) (bs + 10403) Q
        exact ex_ireturn dX11_same_29 rfl (Or.inl rfl) w

theorem X11_same_e {d bc bs : Nat} {h : AH} {Q : Option Value → AH → Prop} {a_0 : Nat} {v_1 : Int32} {v_2 : Int32} {v_3 : Int32} (w : ex_G mX11_same (d + 20) 0 [.ref a_0, .int v_1, .int v_2, .int v_3, .retAddr 0] [] h bc bs Q) : ex_S yX11_same mX11_same (d + 20) [.ref a_0, .int v_1, .int v_2, .int v_3] h bc bs Q :=
  ex_enter (plainFor_of_name (by decide +kernel)) ⟨rfl, rfl⟩ rfl rfl (Nat.le_of_ble_eq_true rfl) (ex_pad 1 w)

set_option maxRecDepth 100000 in
theorem X11_goWays_0 {d bc bs : Nat} {h : AH} {Q : Option Value → AH → Prop} {a_0 : Nat} (w : ex_G mX11_goWays (d + 5) 2 [.ref a_0, .int 0] [] h bc bs Q) : ex_G mX11_goWays (d + 5) 0 [.ref a_0, .retAddr 0] [] h bc bs Q := by
  refine ex_iconst (q := 1) (v := 0) dX11_goWays_0 (by decide) ?_
  refine ex_istore_n (q := 2) (ls' := [.ref a_0, .int 0]) dX11_goWays_1 rfl ?_
  exact w

set_option maxRecDepth 100000 in
theorem X11_goWays_2 {d bc bs : Nat} {h : AH} {Q : Option Value → AH → Prop} {a_0 : Nat} {v_1 : Int32} (w : ah_o h a_0 11 ∧ ∃ a2, ah_r h a_0 12 = some a2 ∧ ah_o h a2 8 ∧ ∃ a4, ah_r h a2 3 = some a4 ∧ ah_o h a4 6 ∧ (((ah_f h a4 1) ≤ v_1 → Q (some (.int 1)) h) ∧ (¬ (ah_f h a4 1) ≤ v_1 → ∃ a7, ah_r h a_0 4 = some a7 ∧ ∃ a8, ah_r h a_0 6 = some a8 ∧ ah_o h a7 4 ∧ ex_S yX4_pairUp mX4_pairUp (d + 4) [.ref a7, .ref a8] h 0 0 (fun r h9 => r = none ∧ ah_o h9 a_0 11 ∧ ∃ a12, ah_r h9 a_0 6 = some a12 ∧ ∃ a13, ah_r h9 a_0 4 = some a13 ∧ ∃ a14, ah_r h9 a_0 12 = some a14 ∧ ah_o h9 a14 8 ∧ ∃ a16, ah_r h9 a14 3 = some a16 ∧ ah_o h9 a16 6 ∧ ∃ a18, ah_r h9 a16 0 = some a18 ∧ ld0 h9 a18 v_1 ∧ ex_S yX5_takeStep mX5_takeStep (d + 4) [.ref a12, .ref a13, .int (ah_i h9 a18 (Int32.toNatClampNeg v_1))] h9 0 0 (fun r h20 => ∃ x21, r = some (.int x21) ∧ ((¬ x21 = 0 → ∀ x23, x23 = v_1 + 1 → ex_G mX11_goWays (d + 5) 2 [.ref a_0, .int x23] [] h20 bc bs Q) ∧ (x21 = 0 → Q (some (.int 0)) h20))))))) : ex_G mX11_goWays (d + 5) 2 [.ref a_0, .int v_1] [] h bc bs Q := by
  refine ex_iload_n (q := 3) (x := v_1) dX11_goWays_2 rfl ?_
  refine ex_aload_n (q := 4) (x := a_0) dX11_goWays_3 rfl ?_
  have s1 := w.1
  replace w := w.2
  obtain ⟨a2, ea2, w⟩ := w
  refine ex_getr (q := 7) dX11_goWays_4 fl_X11_78 s1 ea2 ?_
  have s3 := w.1
  replace w := w.2
  obtain ⟨a4, ea4, w⟩ := w
  refine ex_getr (q := 10) dX11_goWays_7 fl_X11_408 s3 ea4 ?_
  have s5 := w.1
  replace w := w.2
  refine ex_getf (q := 13) dX11_goWays_10 fl_X11_292 s5 ?_
  refine ex_icmp_ge (tgt := 61) (q := 16) dX11_goWays_13 (fun c6 => ?_) (fun c6 => ?_)
  · replace w := w.1 c6
    refine ex_iconst (q := 62) (v := 1) dX11_goWays_61 (by decide) ?_
    exact ex_ireturn dX11_goWays_62 rfl (Or.inr ⟨rfl, Or.inr rfl⟩) w
  · replace w := w.2 c6
    refine ex_aload_n (q := 17) (x := a_0) dX11_goWays_16 rfl ?_
    obtain ⟨a7, ea7, w⟩ := w
    refine ex_getr (q := 20) dX11_goWays_17 fl_X11_36 s1 ea7 ?_
    refine ex_aload_n (q := 21) (x := a_0) dX11_goWays_20 rfl ?_
    obtain ⟨a8, ea8, w⟩ := w
    refine ex_getr (q := 24) dX11_goWays_21 fl_X11_44 s1 ea8 ?_
    have s10 := w.1
    replace w := w.2
    refine ex_callV (q := 27) (M := mX11_goWays) (hdd := Nat.le_refl _) (c := 4) (st := []) (bc := bc) (bs := bs) dX11_goWays_24 rfl cl_X11_411 wd_651 wd_652 s10 w ?_
    rintro r h9 ⟨rfl, w⟩
    show ex_G mX11_goWays (d + 5) 27 [.ref a_0, .int v_1] [] h9 bc bs Q
    refine ex_aload_n (q := 28) (x := a_0) dX11_goWays_27 rfl ?_
    have s11 := w.1
    replace w := w.2
    obtain ⟨a12, ea12, w⟩ := w
    refine ex_getr (q := 31) dX11_goWays_28 fl_X11_44 s11 ea12 ?_
    refine ex_aload_n (q := 32) (x := a_0) dX11_goWays_31 rfl ?_
    obtain ⟨a13, ea13, w⟩ := w
    refine ex_getr (q := 35) dX11_goWays_32 fl_X11_36 s11 ea13 ?_
    refine ex_aload_n (q := 36) (x := a_0) dX11_goWays_35 rfl ?_
    obtain ⟨a14, ea14, w⟩ := w
    refine ex_getr (q := 39) dX11_goWays_36 fl_X11_78 s11 ea14 ?_
    have s15 := w.1
    replace w := w.2
    obtain ⟨a16, ea16, w⟩ := w
    refine ex_getr (q := 42) dX11_goWays_39 fl_X11_408 s15 ea16 ?_
    have s17 := w.1
    replace w := w.2
    obtain ⟨a18, ea18, w⟩ := w
    refine ex_getr (q := 45) dX11_goWays_42 fl_X11_301 s17 ea18 ?_
    refine ex_iload_n (q := 46) (x := v_1) dX11_goWays_45 rfl ?_
    have s19 := w.1
    replace w := w.2
    refine ex_iald (q := 47) dX11_goWays_46 s19 ?_
    refine ex_callS (q := 50) (M := mX11_goWays) (hdd := Nat.le_refl _) (st := []) (bc := bc) (bs := bs) dX11_goWays_47 rfl cl_X11_414 wd_1253 w ?_
    rintro r h20 ⟨x21, rfl, w⟩
    show ex_G mX11_goWays (d + 5) 50 [.ref a_0, .int v_1] [.int x21] h20 bc bs Q
    refine ex_if_ne (tgt := 55) (q := 53) dX11_goWays_50 (fun c22 => ?_) (fun c22 => ?_)
    · replace w := w.1 c22
      obtain ⟨x23, ex23⟩ : ∃ y : Int32, y = v_1 + 1 := ⟨_, rfl⟩
      replace w := w x23 ex23
      refine ex_iinc (q := 58) (x := v_1) (v := x23) (ls' := [.ref a_0, .int x23]) dX11_goWays_55 rfl (by rw [ex23]; rfl) rfl ?_
      refine ex_goto (tgt := 2) dX11_goWays_58 ?_
      exact w
    · replace w := w.2 c22
      refine ex_iconst (q := 54) (v := 0) dX11_goWays_53 (by decide) ?_
      exact ex_ireturn dX11_goWays_54 rfl (Or.inr ⟨rfl, Or.inl rfl⟩) w

theorem X11_goWays_e {d bc bs : Nat} {h : AH} {Q : Option Value → AH → Prop} {a_0 : Nat} (w : ex_G mX11_goWays (d + 5) 0 [.ref a_0, .retAddr 0] [] h bc bs Q) : ex_S yX11_goWays mX11_goWays (d + 5) [.ref a_0] h bc bs Q :=
  ex_enter (plainFor_of_name (by decide +kernel)) ⟨rfl, rfl⟩ rfl rfl (Nat.le_of_ble_eq_true rfl) (ex_pad 1 w)

set_option maxRecDepth 100000 in
theorem X11_check_0 {d bc bs : Nat} {h : AH} {Q : Option Value → AH → Prop} {a_0 : Nat} {v_1 : Int32} (w : ah_o h a_0 11 ∧ X11_hasPicture_C a_0 v_1 h ∧ ((¬ (X11_hasPicture_V a_0 v_1 h) = 0 → X11_isFull_C a_0 h ∧ (((X11_isFull_V a_0 h) = 0 → ∃ a6, ah_r h a_0 4 = some a6 ∧ ex_S yX11_isWhole mX11_isWhole (d + 5) [.ref a_0, .int v_1, .ref a6] h 0 0 (fun r h7 => ∃ x8, r = some (.int x8) ∧ ((¬ x8 = 0 → ah_o h7 a_0 11 ∧ ∃ a11, ah_r h7 a_0 6 = some a11 ∧ ∃ a12, ah_r h7 a_0 0 = some a12 ∧ ld3 h7 11 a12 v_1 ∧ ∃ a14, ah_q h7 a12 (Int32.toNatClampNeg v_1) = some a14 ∧ ah_o h7 a11 7 ∧ ex_S yX7_take mX7_take (d + 5) [.ref a11, .ref a14] h7 0 0 (fun r h15 => r = none ∧ ah_o h15 a_0 11 ∧ ex_S yX11_goWays mX11_goWays (d + 5) [.ref a_0] h15 0 0 (fun r h17 => ∃ x19, r = some (.int x19) ∧ ((x19 = 0 → ah_o h17 a_0 11 ∧ ex_S yX11_refuse mX11_refuse (d + 5) [.ref a_0, .int (-15)] h17 0 0 (fun r h21 => ∃ x23, r = some (.int x23) ∧ Q (some (.int x23)) h21)) ∧ (¬ x19 = 0 → ah_o h17 a_0 11 ∧ ∃ a25, ah_r h17 a_0 6 = some a25 ∧ ex_S yX11_addLike mX11_addLike (d + 5) [.ref a_0, .ref a25] h17 3 207 (fun r h26 => ∃ x27, r = some (.int x27) ∧ ah_o h26 a_0 11 ∧ X11_grant_C a_0 x27 h26 ∧ ∀ h30, h30 = X11_grant_H a_0 x27 h26 → Q (some (.int (X11_grant_V a_0 x27 h26))) h30)))))) ∧ (x8 = 0 → ah_o h7 a_0 11 ∧ ex_S yX11_refuse mX11_refuse (d + 5) [.ref a_0, .int (-13)] h7 0 0 (fun r h31 => ∃ x33, r = some (.int x33) ∧ Q (some (.int x33)) h31))))) ∧ (¬ (X11_isFull_V a_0 h) = 0 → ex_S yX11_refuse mX11_refuse (d + 5) [.ref a_0, .int (-3)] h 0 0 (fun r h34 => ∃ x35, r = some (.int x35) ∧ Q (some (.int x35)) h34)))) ∧ ((X11_hasPicture_V a_0 v_1 h) = 0 → ex_S yX11_refuse mX11_refuse (d + 5) [.ref a_0, .int (-2)] h 0 0 (fun r h36 => ∃ x37, r = some (.int x37) ∧ Q (some (.int x37)) h36)))) : ex_G mX11_check (d + 6) 0 [.ref a_0, .int v_1] [] h (bc + 3) (bs + 207) Q := by
  refine ex_aload_n (q := 1) (x := a_0) dX11_check_0 rfl ?_
  refine ex_iload_n (q := 2) (x := v_1) dX11_check_1 rfl ?_
  have s1 := w.1
  replace w := w.2
  have s2 := w.1
  replace w := w.2
  refine ex_callV (q := 5) (M := mX11_check) (hdd := Nat.le_refl _) (mc := 0) (ms := 0) (d' := (d + 5)) (c := 11) (st := []) (bc := (bc + 3)) (bs := (bs + 207)) dX11_check_2 rfl cl_X11_134 wd_584 wd_4 s1 (X11_hasPicture_s (Q := fun r z => r = some (.int (X11_hasPicture_V a_0 v_1 h)) ∧ z = h) s2 ⟨rfl, rfl⟩) ?_
  intro r z hrz
  rw [hrz.1, hrz.2]
  show ex_G mX11_check (d + 6) 5 [.ref a_0, .int v_1] [.int (X11_hasPicture_V a_0 v_1 h)] (h) (bc + 3) (bs + 207) Q
  refine ex_if_ne (tgt := 15) (q := 8) dX11_check_5 (fun c3 => ?_) (fun c3 => ?_)
  · replace w := w.1 c3
    refine ex_aload_n (q := 16) (x := a_0) dX11_check_15 rfl ?_
    have s4 := w.1
    replace w := w.2
    refine ex_callV (q := 19) (M := mX11_check) (hdd := Nat.le_refl _) (mc := 0) (ms := 0) (d' := (d + 5)) (c := 11) (st := []) (bc := (bc + 3)) (bs := (bs + 207)) dX11_check_16 rfl cl_X11_116 wd_553 wd_0 s1 (X11_isFull_s (Q := fun r z => r = some (.int (X11_isFull_V a_0 h)) ∧ z = h) s4 ⟨rfl, rfl⟩) ?_
    intro r z hrz
    rw [hrz.1, hrz.2]
    show ex_G mX11_check (d + 6) 19 [.ref a_0, .int v_1] [.int (X11_isFull_V a_0 h)] (h) (bc + 3) (bs + 207) Q
    refine ex_if_eq (tgt := 29) (q := 22) dX11_check_19 (fun c5 => ?_) (fun c5 => ?_)
    · replace w := w.1 c5
      refine ex_aload_n (q := 30) (x := a_0) dX11_check_29 rfl ?_
      refine ex_iload_n (q := 31) (x := v_1) dX11_check_30 rfl ?_
      refine ex_aload_n (q := 32) (x := a_0) dX11_check_31 rfl ?_
      obtain ⟨a6, ea6, w⟩ := w
      refine ex_getr (q := 35) dX11_check_32 fl_X11_36 s1 ea6 ?_
      refine ex_callV (q := 38) (M := mX11_check) (hdd := Nat.le_refl _) (c := 11) (st := []) (bc := (bc + 3)) (bs := (bs + 207)) dX11_check_35 rfl cl_X11_184 wd_695 wd_13 s1 w ?_
      rintro r h7 ⟨x8, rfl, w⟩
      show ex_G mX11_check (d + 6) 38 [.ref a_0, .int v_1] [.int x8] h7 (bc + 3) (bs + 207) Q
      refine ex_if_ne (tgt := 48) (q := 41) dX11_check_38 (fun c9 => ?_) (fun c9 => ?_)
      · replace w := w.1 c9
        refine ex_aload_n (q := 49) (x := a_0) dX11_check_48 rfl ?_
        have s10 := w.1
        replace w := w.2
        obtain ⟨a11, ea11, w⟩ := w
        refine ex_getr (q := 52) dX11_check_49 fl_X11_44 s10 ea11 ?_
        refine ex_aload_n (q := 53) (x := a_0) dX11_check_52 rfl ?_
        obtain ⟨a12, ea12, w⟩ := w
        refine ex_getr (q := 56) dX11_check_53 fl_X11_11 s10 ea12 ?_
        refine ex_iload_n (q := 57) (x := v_1) dX11_check_56 rfl ?_
        have s13 := w.1
        replace w := w.2
        obtain ⟨a14, ea14, w⟩ := w
        refine ex_aald (q := 58) dX11_check_57 s13 ea14 ?_
        have s16 := w.1
        replace w := w.2
        refine ex_callV (q := 61) (M := mX11_check) (hdd := Nat.le_refl _) (c := 7) (st := []) (bc := (bc + 3)) (bs := (bs + 207)) dX11_check_58 rfl cl_X11_113 wd_568 wd_569 s16 w ?_
        rintro r h15 ⟨rfl, w⟩
        show ex_G mX11_check (d + 6) 61 [.ref a_0, .int v_1] [] h15 (bc + 3) (bs + 207) Q
        refine ex_aload_n (q := 62) (x := a_0) dX11_check_61 rfl ?_
        have s18 := w.1
        replace w := w.2
        refine ex_callV (q := 65) (M := mX11_check) (hdd := Nat.le_refl _) (c := 11) (st := []) (bc := (bc + 3)) (bs := (bs + 207)) dX11_check_62 rfl cl_X11_418 wd_1317 wd_45 s18 w ?_
        rintro r h17 ⟨x19, rfl, w⟩
        show ex_G mX11_check (d + 6) 65 [.ref a_0, .int v_1] [.int x19] h17 (bc + 3) (bs + 207) Q
        refine ex_if_eq (tgt := 83) (q := 68) dX11_check_65 (fun c20 => ?_) (fun c20 => ?_)
        · replace w := w.1 c20
          refine ex_aload_n (q := 84) (x := a_0) dX11_check_83 rfl ?_
          refine ex_bipush (q := 86) (v := (-15)) dX11_check_84 (by decide) ?_
          have s22 := w.1
          replace w := w.2
          refine ex_callV (q := 89) (M := mX11_check) (hdd := Nat.le_refl _) (c := 11) (st := []) (bc := (bc + 3)) (bs := (bs + 207)) dX11_check_86 rfl cl_X11_120 wd_557 wd_1 s22 w ?_
          rintro r h21 ⟨x23, rfl, w⟩
          show ex_G mX11_check (d + 6) 89 [.ref a_0, .int v_1] [.int x23] h21 (bc + 3) (bs + 207) Q
          exact ex_ireturn dX11_check_89 rfl (Or.inl rfl) w
        · replace w := w.2 c20
          refine ex_aload_n (q := 69) (x := a_0) dX11_check_68 rfl ?_
          refine ex_aload_n (q := 70) (x := a_0) dX11_check_69 rfl ?_
          refine ex_aload_n (q := 71) (x := a_0) dX11_check_70 rfl ?_
          have s24 := w.1
          replace w := w.2
          obtain ⟨a25, ea25, w⟩ := w
          refine ex_getr (q := 74) dX11_check_71 fl_X11_44 s24 ea25 ?_
          refine ex_G.room (bc' := bc + 3) (bs' := bs + 207) (Nat.le_refl _) (Nat.le_refl _) (Nat.le_refl _) ?_
          refine ex_callV (q := 77) (M := mX11_check) (hdd := Nat.le_refl _) (c := 11) (st := [.ref a_0]) (bc := bc) (bs := bs) dX11_check_74 rfl cl_X11_127 wd_565 wd_2 s24 w ?_
          rintro r h26 ⟨x27, rfl, w⟩
          show ex_G mX11_check (d + 6) 77 [.ref a_0, .int v_1] [.int x27, .ref a_0] h26 bc bs Q
          have s28 := w.1
          replace w := w.2
          have s29 := w.1
          replace w := w.2
          refine ex_callV (q := 80) (M := mX11_check) (hdd := Nat.le_refl _) (mc := 0) (ms := 0) (d' := (d + 5)) (c := 11) (st := []) (bc := bc) (bs := bs) dX11_check_77 rfl cl_X11_131 wd_576 wd_3 s28 (X11_grant_s (Q := fun r z => r = some (.int (X11_grant_V a_0 x27 h26)) ∧ z = X11_grant_H a_0 x27 h26) s29 ⟨rfl, rfl⟩) ?_
          intro r z hrz
          rw [hrz.1, hrz.2]
          show ex_G mX11_check (d + 6) 80 [.ref a_0, .int v_1] [.int (X11_grant_V a_0 x27 h26)] (X11_grant_H a_0 x27 h26) bc bs Q
          refine ex_nmh (fun h30 eh30 => ?_)
          replace w := w h30 eh30
          refine ex_goto (tgt := 89) dX11_check_80 ?_
          exact ex_ireturn dX11_check_89 rfl (Or.inl rfl) w
      · replace w := w.2 c9
        refine ex_aload_n (q := 42) (x := a_0) dX11_check_41 rfl ?_
        refine ex_bipush (q := 44) (v := (-13)) dX11_check_42 (by decide) ?_
        have s32 := w.1
        replace w := w.2
        refine ex_callV (q := 47) (M := mX11_check) (hdd := Nat.le_refl _) (c := 11) (st := []) (bc := (bc + 3)) (bs := (bs + 207)) dX11_check_44 rfl cl_X11_120 wd_557 wd_1 s32 w ?_
        rintro r h31 ⟨x33, rfl, w⟩
        show ex_G mX11_check (d + 6) 47 [.ref a_0, .int v_1] [.int x33] h31 (bc + 3) (bs + 207) Q
        exact ex_ireturn dX11_check_47 rfl (Or.inl rfl) w
    · replace w := w.2 c5
      refine ex_aload_n (q := 23) (x := a_0) dX11_check_22 rfl ?_
      refine ex_bipush (q := 25) (v := (-3)) dX11_check_23 (by decide) ?_
      refine ex_callV (q := 28) (M := mX11_check) (hdd := Nat.le_refl _) (c := 11) (st := []) (bc := (bc + 3)) (bs := (bs + 207)) dX11_check_25 rfl cl_X11_120 wd_557 wd_1 s1 w ?_
      rintro r h34 ⟨x35, rfl, w⟩
      show ex_G mX11_check (d + 6) 28 [.ref a_0, .int v_1] [.int x35] h34 (bc + 3) (bs + 207) Q
      exact ex_ireturn dX11_check_28 rfl (Or.inl rfl) w
  · replace w := w.2 c3
    refine ex_aload_n (q := 9) (x := a_0) dX11_check_8 rfl ?_
    refine ex_bipush (q := 11) (v := (-2)) dX11_check_9 (by decide) ?_
    refine ex_callV (q := 14) (M := mX11_check) (hdd := Nat.le_refl _) (c := 11) (st := []) (bc := (bc + 3)) (bs := (bs + 207)) dX11_check_11 rfl cl_X11_120 wd_557 wd_1 s1 w ?_
    rintro r h36 ⟨x37, rfl, w⟩
    show ex_G mX11_check (d + 6) 14 [.ref a_0, .int v_1] [.int x37] h36 (bc + 3) (bs + 207) Q
    exact ex_ireturn dX11_check_14 rfl (Or.inl rfl) w

theorem X11_check_e {d bc bs : Nat} {h : AH} {Q : Option Value → AH → Prop} {a_0 : Nat} {v_1 : Int32} (w : ex_G mX11_check (d + 6) 0 [.ref a_0, .int v_1] [] h bc bs Q) : ex_S yX11_check mX11_check (d + 6) [.ref a_0, .int v_1] h bc bs Q :=
  ex_enter (plainFor_of_name (by decide +kernel)) ⟨rfl, rfl⟩ rfl rfl (Nat.le_of_ble_eq_true rfl) (ex_pad 0 w)

set_option maxRecDepth 100000 in
theorem X11_book_0 {d bc bs : Nat} {h : AH} {Q : Option Value → AH → Prop} {a_0 : Nat} {v_1 : Int32} {v_2 : Int64} (w : ah_o h a_0 11 ∧ X11_hasPicture_C a_0 v_1 h ∧ (((X11_hasPicture_V a_0 v_1 h) = 0 → ex_S yX11_refuse mX11_refuse (d + 18) [.ref a_0, .int (-2)] h 0 0 (fun r h4 => ∃ x5, r = some (.int x5) ∧ Q (some (.int x5)) h4)) ∧ (¬ (X11_hasPicture_V a_0 v_1 h) = 0 → ((¬ (lg_cmp v_2 0) = 0 → ∃ a7, ah_r h a_0 13 = some a7 ∧ ah_o h a7 0 ∧ (((ah_f h a7 2) < 200 → ex_S yX11_whyNoBracket mX11_whyNoBracket (d + 18) [.ref a_0, .int v_1, .int 10] h 0 0 (fun r h10 => ∃ x11, r = some (.int x11) ∧ ((x11 = 0 → ah_o h10 a_0 11 ∧ ∃ a14, ah_r h10 a_0 13 = some a14 ∧ ah_o h10 a14 0 ∧ ex_S yX0_has mX0_has (d + 18) [.ref a14, .long v_2] h10 0 0 (fun r h15 => ∃ x17, r = some (.int x17) ∧ ((x17 = 0 → ah_o h15 a_0 11 ∧ ∃ a20, ah_r h15 a_0 7 = some a20 ∧ ∃ a21, ah_r h15 a_0 4 = some a21 ∧ ∃ a22, ah_r h15 a_0 9 = some a22 ∧ ah_o h15 a20 9 ∧ ex_S yX9_makePolynomial mX9_makePolynomial (d + 18) [.ref a20, .ref a21, .ref a22] h15 0 0 (fun r h23 => r = none ∧ ah_o h23 a_0 11 ∧ ∃ a26, ah_r h23 a_0 13 = some a26 ∧ ∃ a27, ah_r h23 a_0 9 = some a27 ∧ ah_o h23 a26 0 ∧ ex_S yX0_add mX0_add (d + 18) [.ref a26, .long v_2, .ref a27] h23 3 565 (fun r h28 => r = none ∧ ah_o h28 a_0 11 ∧ ∃ a31, ah_r h28 a_0 13 = some a31 ∧ ah_o h28 a31 0 ∧ X11_grant_C a_0 (ah_f h28 a31 2) h28 ∧ ∀ h34, h34 = X11_grant_H a_0 (ah_f h28 a31 2) h28 → Q (some (.int (X11_grant_V a_0 (ah_f h28 a31 2) h28))) h34))) ∧ (¬ x17 = 0 → ah_o h15 a_0 11 ∧ ex_S yX11_refuse mX11_refuse (d + 18) [.ref a_0, .int (-15)] h15 0 0 (fun r h35 => ∃ x37, r = some (.int x37) ∧ Q (some (.int x37)) h35))))) ∧ (¬ x11 = 0 → ah_o h10 a_0 11 ∧ ex_S yX11_refuse mX11_refuse (d + 18) [.ref a_0, .int x11] h10 0 0 (fun r h38 => ∃ x40, r = some (.int x40) ∧ Q (some (.int x40)) h38))))) ∧ (¬ (ah_f h a7 2) < 200 → ex_S yX11_refuse mX11_refuse (d + 18) [.ref a_0, .int (-3)] h 0 0 (fun r h41 => ∃ x42, r = some (.int x42) ∧ Q (some (.int x42)) h41)))) ∧ ((lg_cmp v_2 0) = 0 → ex_S yX11_refuse mX11_refuse (d + 18) [.ref a_0, .int (-2)] h 0 0 (fun r h43 => ∃ x44, r = some (.int x44) ∧ Q (some (.int x44)) h43)))))) : ex_G mX11_book (d + 19) 0 [.ref a_0, .int v_1, .long v_2, .retAddr 0, .retAddr 0] [] h (bc + 3) (bs + 565) Q := by
  refine ex_aload_n (q := 1) (x := a_0) dX11_book_0 rfl ?_
  refine ex_iload_n (q := 2) (x := v_1) dX11_book_1 rfl ?_
  have s1 := w.1
  replace w := w.2
  have s2 := w.1
  replace w := w.2
  refine ex_callV (q := 5) (M := mX11_book) (hdd := Nat.le_refl _) (mc := 0) (ms := 0) (d' := (d + 18)) (c := 11) (st := []) (bc := (bc + 3)) (bs := (bs + 565)) dX11_book_2 rfl cl_X11_134 wd_584 wd_4 s1 (X11_hasPicture_s (Q := fun r z => r = some (.int (X11_hasPicture_V a_0 v_1 h)) ∧ z = h) s2 ⟨rfl, rfl⟩) ?_
  intro r z hrz
  rw [hrz.1, hrz.2]
  show ex_G mX11_book (d + 19) 5 [.ref a_0, .int v_1, .long v_2, .retAddr 0, .retAddr 0] [.int (X11_hasPicture_V a_0 v_1 h)] (h) (bc + 3) (bs + 565) Q
  refine ex_if_eq (tgt := 14) (q := 8) dX11_book_5 (fun c3 => ?_) (fun c3 => ?_)
  · replace w := w.1 c3
    refine ex_aload_n (q := 15) (x := a_0) dX11_book_14 rfl ?_
    refine ex_bipush (q := 17) (v := (-2)) dX11_book_15 (by decide) ?_
    refine ex_callV (q := 20) (M := mX11_book) (hdd := Nat.le_refl _) (c := 11) (st := []) (bc := (bc + 3)) (bs := (bs + 565)) dX11_book_17 rfl cl_X11_120 wd_557 wd_1 s1 w ?_
    rintro r h4 ⟨x5, rfl, w⟩
    show ex_G mX11_book (d + 19) 20 [.ref a_0, .int v_1, .long v_2, .retAddr 0, .retAddr 0] [.int x5] h4 (bc + 3) (bs + 565) Q
    exact ex_ireturn dX11_book_20 rfl (Or.inl rfl) w
  · replace w := w.2 c3
    refine ex_lload_n (q := 9) (x := v_2) dX11_book_8 rfl ?_
    refine ex_lconst (q := 10) (v := 0) dX11_book_9 (by decide) ?_
    refine ex_lcmp (q := 11) dX11_book_10 ?_
    refine ex_if_ne (tgt := 21) (q := 14) dX11_book_11 (fun c6 => ?_) (fun c6 => ?_)
    · replace w := w.1 c6
      refine ex_aload_n (q := 22) (x := a_0) dX11_book_21 rfl ?_
      obtain ⟨a7, ea7, w⟩ := w
      refine ex_getr (q := 25) dX11_book_22 fl_X11_85 s1 ea7 ?_
      have s8 := w.1
      replace w := w.2
      refine ex_getf (q := 28) dX11_book_25 fl_X11_421 s8 ?_
      refine ex_sipush (q := 31) (v := 200) dX11_book_28 (by decide) ?_
      refine ex_icmp_lt (tgt := 41) (q := 34) dX11_book_31 (fun c9 => ?_) (fun c9 => ?_)
      · replace w := w.1 c9
        refine ex_aload_n (q := 42) (x := a_0) dX11_book_41 rfl ?_
        refine ex_iload_n (q := 43) (x := v_1) dX11_book_42 rfl ?_
        refine ex_bipush (q := 45) (v := 10) dX11_book_43 (by decide) ?_
        refine ex_callV (q := 48) (M := mX11_book) (hdd := Nat.le_refl _) (c := 11) (st := []) (bc := (bc + 3)) (bs := (bs + 565)) dX11_book_45 rfl cl_X11_257 wd_828 wd_20 s1 w ?_
        rintro r h10 ⟨x11, rfl, w⟩
        show ex_G mX11_book (d + 19) 48 [.ref a_0, .int v_1, .long v_2, .retAddr 0, .retAddr 0] [.int x11] h10 (bc + 3) (bs + 565) Q
        refine ex_istore (q := 50) (ls' := [.ref a_0, .int v_1, .long v_2, .retAddr 0, .int x11]) dX11_book_48 rfl ?_
        refine ex_iload (q := 52) (x := x11) dX11_book_50 rfl ?_
        refine ex_if_eq (tgt := 62) (q := 55) dX11_book_52 (fun c12 => ?_) (fun c12 => ?_)
        · replace w := w.1 c12
          refine ex_aload_n (q := 63) (x := a_0) dX11_book_62 rfl ?_
          have s13 := w.1
          replace w := w.2
          obtain ⟨a14, ea14, w⟩ := w
          refine ex_getr (q := 66) dX11_book_63 fl_X11_85 s13 ea14 ?_
          refine ex_lload_n (q := 67) (x := v_2) dX11_book_66 rfl ?_
          have s16 := w.1
          replace w := w.2
          refine ex_callV (q := 70) (M := mX11_book) (hdd := Nat.le_refl _) (c := 0) (st := []) (bc := (bc + 3)) (bs := (bs + 565)) dX11_book_67 rfl cl_X11_422 wd_1326 wd_1327 s16 w ?_
          rintro r h15 ⟨x17, rfl, w⟩
          show ex_G mX11_book (d + 19) 70 [.ref a_0, .int v_1, .long v_2, .retAddr 0, .int x11] [.int x17] h15 (bc + 3) (bs + 565) Q
          refine ex_if_eq (tgt := 80) (q := 73) dX11_book_70 (fun c18 => ?_) (fun c18 => ?_)
          · replace w := w.1 c18
            refine ex_aload_n (q := 81) (x := a_0) dX11_book_80 rfl ?_
            have s19 := w.1
            replace w := w.2
            obtain ⟨a20, ea20, w⟩ := w
            refine ex_getr (q := 84) dX11_book_81 fl_X11_51 s19 ea20 ?_
            refine ex_aload_n (q := 85) (x := a_0) dX11_book_84 rfl ?_
            obtain ⟨a21, ea21, w⟩ := w
            refine ex_getr (q := 88) dX11_book_85 fl_X11_36 s19 ea21 ?_
            refine ex_aload_n (q := 89) (x := a_0) dX11_book_88 rfl ?_
            obtain ⟨a22, ea22, w⟩ := w
            refine ex_getr (q := 92) dX11_book_89 fl_X11_62 s19 ea22 ?_
            have s24 := w.1
            replace w := w.2
            refine ex_callV (q := 95) (M := mX11_book) (hdd := Nat.le_refl _) (c := 9) (st := []) (bc := (bc + 3)) (bs := (bs + 565)) dX11_book_92 rfl cl_X11_267 wd_891 wd_892 s24 w ?_
            rintro r h23 ⟨rfl, w⟩
            show ex_G mX11_book (d + 19) 95 [.ref a_0, .int v_1, .long v_2, .retAddr 0, .int x11] [] h23 (bc + 3) (bs + 565) Q
            refine ex_aload_n (q := 96) (x := a_0) dX11_book_95 rfl ?_
            have s25 := w.1
            replace w := w.2
            obtain ⟨a26, ea26, w⟩ := w
            refine ex_getr (q := 99) dX11_book_96 fl_X11_85 s25 ea26 ?_
            refine ex_lload_n (q := 100) (x := v_2) dX11_book_99 rfl ?_
            refine ex_aload_n (q := 101) (x := a_0) dX11_book_100 rfl ?_
            obtain ⟨a27, ea27, w⟩ := w
            refine ex_getr (q := 104) dX11_book_101 fl_X11_62 s25 ea27 ?_
            refine ex_G.room (bc' := bc + 3) (bs' := bs + 565) (Nat.le_refl _) (Nat.le_refl _) (Nat.le_refl _) ?_
            have s29 := w.1
            replace w := w.2
            refine ex_callV (q := 107) (M := mX11_book) (hdd := Nat.le_refl _) (c := 0) (st := []) (bc := bc) (bs := bs) dX11_book_104 rfl cl_X11_425 wd_1330 wd_1331 s29 w ?_
            rintro r h28 ⟨rfl, w⟩
            show ex_G mX11_book (d + 19) 107 [.ref a_0, .int v_1, .long v_2, .retAddr 0, .int x11] [] h28 bc bs Q
            refine ex_aload_n (q := 108) (x := a_0) dX11_book_107 rfl ?_
            refine ex_aload_n (q := 109) (x := a_0) dX11_book_108 rfl ?_
            have s30 := w.1
            replace w := w.2
            obtain ⟨a31, ea31, w⟩ := w
            refine ex_getr (q := 112) dX11_book_109 fl_X11_85 s30 ea31 ?_
            have s32 := w.1
            replace w := w.2
            refine ex_getf (q := 115) dX11_book_112 fl_X11_421 s32 ?_
            have s33 := w.1
            replace w := w.2
            refine ex_callV (q := 118) (M := mX11_book) (hdd := Nat.le_refl _) (mc := 0) (ms := 0) (d' := (d + 18)) (c := 11) (st := []) (bc := bc) (bs := bs) dX11_book_115 rfl cl_X11_131 wd_576 wd_3 s30 (X11_grant_s (Q := fun r z => r = some (.int (X11_grant_V a_0 (ah_f h28 a31 2) h28)) ∧ z = X11_grant_H a_0 (ah_f h28 a31 2) h28) s33 ⟨rfl, rfl⟩) ?_
            intro r z hrz
            rw [hrz.1, hrz.2]
            show ex_G mX11_book (d + 19) 118 [.ref a_0, .int v_1, .long v_2, .retAddr 0, .int x11] [.int (X11_grant_V a_0 (ah_f h28 a31 2) h28)] (X11_grant_H a_0 (ah_f h28 a31 2) h28) bc bs Q
            refine ex_nmh (fun h34 eh34 => ?_)
            replace w := w h34 eh34
            exact ex_ireturn dX11_book_118 rfl (Or.inl rfl) w
          · replace w := w.2 c18
            refine ex_aload_n (q := 74) (x := a_0) dX11_book_73 rfl ?_
            refine ex_bipush (q := 76) (v := (-15)) dX11_book_74 (by decide) ?_
            have s36 := w.1
            replace w := w.2
            refine ex_callV (q := 79) (M := mX11_book) (hdd := Nat.le_refl _) (c := 11) (st := []) (bc := (bc + 3)) (bs := (bs + 565)) dX11_book_76 rfl cl_X11_120 wd_557 wd_1 s36 w ?_
            rintro r h35 ⟨x37, rfl, w⟩
            show ex_G mX11_book (d + 19) 79 [.ref a_0, .int v_1, .long v_2, .retAddr 0, .int x11] [.int x37] h35 (bc + 3) (bs + 565) Q
            exact ex_ireturn dX11_book_79 rfl (Or.inl rfl) w
        · replace w := w.2 c12
          refine ex_aload_n (q := 56) (x := a_0) dX11_book_55 rfl ?_
          refine ex_iload (q := 58) (x := x11) dX11_book_56 rfl ?_
          have s39 := w.1
          replace w := w.2
          refine ex_callV (q := 61) (M := mX11_book) (hdd := Nat.le_refl _) (c := 11) (st := []) (bc := (bc + 3)) (bs := (bs + 565)) dX11_book_58 rfl cl_X11_120 wd_557 wd_1 s39 w ?_
          rintro r h38 ⟨x40, rfl, w⟩
          show ex_G mX11_book (d + 19) 61 [.ref a_0, .int v_1, .long v_2, .retAddr 0, .int x11] [.int x40] h38 (bc + 3) (bs + 565) Q
          exact ex_ireturn dX11_book_61 rfl (Or.inl rfl) w
      · replace w := w.2 c9
        refine ex_aload_n (q := 35) (x := a_0) dX11_book_34 rfl ?_
        refine ex_bipush (q := 37) (v := (-3)) dX11_book_35 (by decide) ?_
        refine ex_callV (q := 40) (M := mX11_book) (hdd := Nat.le_refl _) (c := 11) (st := []) (bc := (bc + 3)) (bs := (bs + 565)) dX11_book_37 rfl cl_X11_120 wd_557 wd_1 s1 w ?_
        rintro r h41 ⟨x42, rfl, w⟩
        show ex_G mX11_book (d + 19) 40 [.ref a_0, .int v_1, .long v_2, .retAddr 0, .retAddr 0] [.int x42] h41 (bc + 3) (bs + 565) Q
        exact ex_ireturn dX11_book_40 rfl (Or.inl rfl) w
    · replace w := w.2 c6
      refine ex_aload_n (q := 15) (x := a_0) dX11_book_14 rfl ?_
      refine ex_bipush (q := 17) (v := (-2)) dX11_book_15 (by decide) ?_
      refine ex_callV (q := 20) (M := mX11_book) (hdd := Nat.le_refl _) (c := 11) (st := []) (bc := (bc + 3)) (bs := (bs + 565)) dX11_book_17 rfl cl_X11_120 wd_557 wd_1 s1 w ?_
      rintro r h43 ⟨x44, rfl, w⟩
      show ex_G mX11_book (d + 19) 20 [.ref a_0, .int v_1, .long v_2, .retAddr 0, .retAddr 0] [.int x44] h43 (bc + 3) (bs + 565) Q
      exact ex_ireturn dX11_book_20 rfl (Or.inl rfl) w

theorem X11_book_e {d bc bs : Nat} {h : AH} {Q : Option Value → AH → Prop} {a_0 : Nat} {v_1 : Int32} {v_2 : Int64} (w : ex_G mX11_book (d + 19) 0 [.ref a_0, .int v_1, .long v_2, .retAddr 0, .retAddr 0] [] h bc bs Q) : ex_S yX11_book mX11_book (d + 19) [.ref a_0, .int v_1, .long v_2] h bc bs Q :=
  ex_enter (plainFor_of_name (by decide +kernel)) ⟨rfl, rfl⟩ rfl rfl (Nat.le_of_ble_eq_true rfl) (ex_pad 1 w)

set_option maxRecDepth 100000 in
theorem X11_name_0 {d bc bs : Nat} {h : AH} {Q : Option Value → AH → Prop} {a_0 : Nat} {v_1 : Int32} (w : ah_o h a_0 11 ∧ X11_hasPicture_C a_0 v_1 h ∧ (((X11_hasPicture_V a_0 v_1 h) = 0 → ex_G mX11_name (d + 19) 20 [.ref a_0, .retAddr 0, .retAddr 0] [.int (-2)] h bc bs Q) ∧ (¬ (X11_hasPicture_V a_0 v_1 h) = 0 → ex_S yX11_whyNoBracket mX11_whyNoBracket (d + 18) [.ref a_0, .int v_1, .int 10] h 0 0 (fun r h4 => ∃ x5, r = some (.int x5) ∧ ex_G mX11_name (d + 19) 20 [.ref a_0, .retAddr 0, .retAddr 0] [.int x5] h4 bc bs Q)))) : ex_G mX11_name (d + 19) 0 [.ref a_0, .int v_1, .retAddr 0] [] h bc bs Q := by
  refine ex_aload_n (q := 1) (x := a_0) dX11_name_0 rfl ?_
  refine ex_iload_n (q := 2) (x := v_1) dX11_name_1 rfl ?_
  have s1 := w.1
  replace w := w.2
  have s2 := w.1
  replace w := w.2
  refine ex_callV (q := 5) (M := mX11_name) (hdd := Nat.le_refl _) (mc := 0) (ms := 0) (d' := (d + 18)) (c := 11) (st := []) (bc := bc) (bs := bs) dX11_name_2 rfl cl_X11_134 wd_584 wd_4 s1 (X11_hasPicture_s (Q := fun r z => r = some (.int (X11_hasPicture_V a_0 v_1 h)) ∧ z = h) s2 ⟨rfl, rfl⟩) ?_
  intro r z hrz
  rw [hrz.1, hrz.2]
  show ex_G mX11_name (d + 19) 5 [.ref a_0, .int v_1, .retAddr 0] [.int (X11_hasPicture_V a_0 v_1 h)] (h) bc bs Q
  refine ex_if_eq (tgt := 18) (q := 8) dX11_name_5 (fun c3 => ?_) (fun c3 => ?_)
  · replace w := w.1 c3
    refine ex_bipush (q := 20) (v := (-2)) dX11_name_18 (by decide) ?_
    refine ex_kill 1 (ls' := [.ref a_0, .retAddr 0, .retAddr 0]) rfl ?_
    exact w
  · replace w := w.2 c3
    refine ex_aload_n (q := 9) (x := a_0) dX11_name_8 rfl ?_
    refine ex_iload_n (q := 10) (x := v_1) dX11_name_9 rfl ?_
    refine ex_bipush (q := 12) (v := 10) dX11_name_10 (by decide) ?_
    refine ex_callV (q := 15) (M := mX11_name) (hdd := Nat.le_refl _) (c := 11) (st := []) (bc := bc) (bs := bs) dX11_name_12 rfl cl_X11_257 wd_828 wd_20 s1 w ?_
    rintro r h4 ⟨x5, rfl, w⟩
    show ex_G mX11_name (d + 19) 15 [.ref a_0, .int v_1, .retAddr 0] [.int x5] h4 bc bs Q
    refine ex_goto (tgt := 20) dX11_name_15 ?_
    refine ex_kill 1 (ls' := [.ref a_0, .retAddr 0, .retAddr 0]) rfl ?_
    exact w

set_option maxRecDepth 100000 in
theorem X11_name_20 {d bc bs : Nat} {h : AH} {Q : Option Value → AH → Prop} {a_0 : Nat} {u_0 : Int32} (w : ((u_0 = 0 → ah_o h a_0 11 ∧ ∃ a3, ah_r h a_0 7 = some a3 ∧ ∃ a4, ah_r h a_0 4 = some a4 ∧ ∃ a5, ah_r h a_0 9 = some a5 ∧ ah_o h a3 9 ∧ ex_S yX9_makePolynomial mX9_makePolynomial (d + 18) [.ref a3, .ref a4, .ref a5] h 0 0 (fun r h6 => r = none ∧ ah_o h6 a_0 11 ∧ ∀ h9, h9 = ah_sf h6 a_0 19 0 → ∃ a10, ah_r h9 a_0 13 = some a10 ∧ ∃ a11, ah_r h9 a_0 9 = some a11 ∧ ah_o h9 a10 0 ∧ ex_S yX0_firstFor mX0_firstFor (d + 18) [.ref a10, .ref a11] h9 0 0 (fun r h12 => ∃ x14, r = some (.long x14) ∧ Q (some (.long x14)) h12))) ∧ (¬ u_0 = 0 → ah_o h a_0 11 ∧ ex_S yX11_refuse mX11_refuse (d + 18) [.ref a_0, .int u_0] h 0 0 (fun r h15 => ∃ x17, r = some (.int x17) ∧ Q (some (.long (Int32.toInt64 x17))) h15)))) : ex_G mX11_name (d + 19) 20 [.ref a_0, .retAddr 0, .retAddr 0] [.int u_0] h bc bs Q := by
  refine ex_istore_n (q := 21) (ls' := [.ref a_0, .retAddr 0, .int u_0]) dX11_name_20 rfl ?_
  refine ex_iload_n (q := 22) (x := u_0) dX11_name_21 rfl ?_
  refine ex_if_eq (tgt := 32) (q := 25) dX11_name_22 (fun c1 => ?_) (fun c1 => ?_)
  · replace w := w.1 c1
    refine ex_aload_n (q := 33) (x := a_0) dX11_name_32 rfl ?_
    have s2 := w.1
    replace w := w.2
    obtain ⟨a3, ea3, w⟩ := w
    refine ex_getr (q := 36) dX11_name_33 fl_X11_51 s2 ea3 ?_
    refine ex_aload_n (q := 37) (x := a_0) dX11_name_36 rfl ?_
    obtain ⟨a4, ea4, w⟩ := w
    refine ex_getr (q := 40) dX11_name_37 fl_X11_36 s2 ea4 ?_
    refine ex_aload_n (q := 41) (x := a_0) dX11_name_40 rfl ?_
    obtain ⟨a5, ea5, w⟩ := w
    refine ex_getr (q := 44) dX11_name_41 fl_X11_62 s2 ea5 ?_
    have s7 := w.1
    replace w := w.2
    refine ex_callV (q := 47) (M := mX11_name) (hdd := Nat.le_refl _) (c := 9) (st := []) (bc := bc) (bs := bs) dX11_name_44 rfl cl_X11_267 wd_891 wd_892 s7 w ?_
    rintro r h6 ⟨rfl, w⟩
    show ex_G mX11_name (d + 19) 47 [.ref a_0, .retAddr 0, .int u_0] [] h6 bc bs Q
    refine ex_aload_n (q := 48) (x := a_0) dX11_name_47 rfl ?_
    refine ex_iconst (q := 49) (v := 0) dX11_name_48 (by decide) ?_
    have s8 := w.1
    replace w := w.2
    refine ex_putf (q := 52) dX11_name_49 fl_X11_110 (Or.inl rfl) s8 (Or.inl rfl) ?_
    refine ex_nmh (fun h9 eh9 => ?_)
    replace w := w h9 eh9
    refine ex_aload_n (q := 53) (x := a_0) dX11_name_52 rfl ?_
    obtain ⟨a10, ea10, w⟩ := w
    refine ex_getr (q := 56) dX11_name_53 fl_X11_85 (by rw [eh9]; exact s8) ea10 ?_
    refine ex_aload_n (q := 57) (x := a_0) dX11_name_56 rfl ?_
    obtain ⟨a11, ea11, w⟩ := w
    refine ex_getr (q := 60) dX11_name_57 fl_X11_62 (by rw [eh9]; exact s8) ea11 ?_
    have s13 := w.1
    replace w := w.2
    refine ex_callV (q := 63) (M := mX11_name) (hdd := Nat.le_refl _) (c := 0) (st := []) (bc := bc) (bs := bs) dX11_name_60 rfl cl_X11_428 wd_1344 wd_1345 s13 w ?_
    rintro r h12 ⟨x14, rfl, w⟩
    show ex_G mX11_name (d + 19) 63 [.ref a_0, .retAddr 0, .int u_0] [.long x14] h12 bc bs Q
    exact ex_lreturn dX11_name_63 w
  · replace w := w.2 c1
    refine ex_aload_n (q := 26) (x := a_0) dX11_name_25 rfl ?_
    refine ex_iload_n (q := 27) (x := u_0) dX11_name_26 rfl ?_
    have s16 := w.1
    replace w := w.2
    refine ex_callV (q := 30) (M := mX11_name) (hdd := Nat.le_refl _) (c := 11) (st := []) (bc := bc) (bs := bs) dX11_name_27 rfl cl_X11_120 wd_557 wd_1 s16 w ?_
    rintro r h15 ⟨x17, rfl, w⟩
    show ex_G mX11_name (d + 19) 30 [.ref a_0, .retAddr 0, .int u_0] [.int x17] h15 bc bs Q
    refine ex_i2l (q := 31) dX11_name_30 ?_
    exact ex_lreturn dX11_name_31 w

theorem X11_name_e {d bc bs : Nat} {h : AH} {Q : Option Value → AH → Prop} {a_0 : Nat} {v_1 : Int32} (w : ex_G mX11_name (d + 19) 0 [.ref a_0, .int v_1, .retAddr 0] [] h bc bs Q) : ex_S yX11_name mX11_name (d + 19) [.ref a_0, .int v_1] h bc bs Q :=
  ex_enter (plainFor_of_name (by decide +kernel)) ⟨rfl, rfl⟩ rfl rfl (Nat.le_of_ble_eq_true rfl) (ex_pad 1 w)

set_option maxRecDepth 100000 in
theorem X11_count_0 {d bc bs : Nat} {h : AH} {Q : Option Value → AH → Prop} {a_0 : Nat} {v_1 : Int32} (w : ((v_1 = 0 → ah_o h a_0 11 ∧ Q (some (.int (ah_f h a_0 15))) h) ∧ (v_1 = 1 → ah_o h a_0 11 ∧ Q (some (.int (ah_f h a_0 16))) h) ∧ (v_1 = 2 → ah_o h a_0 11 ∧ ∃ a5, ah_r h a_0 13 = some a5 ∧ ah_o h a5 0 ∧ Q (some (.int (ah_f h a5 2))) h) ∧ (v_1 = 3 → ah_o h a_0 11 ∧ ∃ a8, ah_r h a_0 2 = some a8 ∧ ah_o h a8 6 ∧ Q (some (.int (ah_f h a8 1))) h) ∧ (v_1 = 4 → ah_o h a_0 11 ∧ ∃ a11, ah_r h a_0 7 = some a11 ∧ ah_o h a11 9 ∧ Q (some (.int (ah_f h a11 3))) h) ∧ (¬ v_1 = 0 → ¬ v_1 = 1 → ¬ v_1 = 2 → ¬ v_1 = 3 → ¬ v_1 = 4 → Q (some (.int (-2))) h))) : ex_G mX11_count d 0 [.ref a_0, .int v_1] [] h bc bs Q := by
  refine ex_iload_n (q := 1) (x := v_1) dX11_count_0 rfl ?_
  by_cases c1_0 : v_1 = 0
  · replace w := w.1 c1_0
    refine ex_tsw (tgt := 36) dX11_count_1 (by rw [c1_0]; decide) ?_
    refine ex_aload_n (q := 37) (x := a_0) dX11_count_36 rfl ?_
    have s2 := w.1
    replace w := w.2
    refine ex_getf (q := 40) dX11_count_37 fl_X11_97 s2 ?_
    exact ex_ireturn dX11_count_40 rfl (Or.inl rfl) w
  replace w := w.2
  by_cases c1_1 : v_1 = 1
  · replace w := w.1 c1_1
    refine ex_tsw (tgt := 41) dX11_count_1 (by rw [c1_1]; decide) ?_
    refine ex_aload_n (q := 42) (x := a_0) dX11_count_41 rfl ?_
    have s3 := w.1
    replace w := w.2
    refine ex_getf (q := 45) dX11_count_42 fl_X11_100 s3 ?_
    exact ex_ireturn dX11_count_45 rfl (Or.inl rfl) w
  replace w := w.2
  by_cases c1_2 : v_1 = 2
  · replace w := w.1 c1_2
    refine ex_tsw (tgt := 46) dX11_count_1 (by rw [c1_2]; decide) ?_
    refine ex_aload_n (q := 47) (x := a_0) dX11_count_46 rfl ?_
    have s4 := w.1
    replace w := w.2
    obtain ⟨a5, ea5, w⟩ := w
    refine ex_getr (q := 50) dX11_count_47 fl_X11_85 s4 ea5 ?_
    have s6 := w.1
    replace w := w.2
    refine ex_getf (q := 53) dX11_count_50 fl_X11_421 s6 ?_
    exact ex_ireturn dX11_count_53 rfl (Or.inl rfl) w
  replace w := w.2
  by_cases c1_3 : v_1 = 3
  · replace w := w.1 c1_3
    refine ex_tsw (tgt := 54) dX11_count_1 (by rw [c1_3]; decide) ?_
    refine ex_aload_n (q := 55) (x := a_0) dX11_count_54 rfl ?_
    have s7 := w.1
    replace w := w.2
    obtain ⟨a8, ea8, w⟩ := w
    refine ex_getr (q := 58) dX11_count_55 fl_X11_26 s7 ea8 ?_
    have s9 := w.1
    replace w := w.2
    refine ex_getf (q := 61) dX11_count_58 fl_X11_292 s9 ?_
    exact ex_ireturn dX11_count_61 rfl (Or.inl rfl) w
  replace w := w.2
  by_cases c1_4 : v_1 = 4
  · replace w := w.1 c1_4
    refine ex_tsw (tgt := 62) dX11_count_1 (by rw [c1_4]; decide) ?_
    refine ex_aload_n (q := 63) (x := a_0) dX11_count_62 rfl ?_
    have s10 := w.1
    replace w := w.2
    obtain ⟨a11, ea11, w⟩ := w
    refine ex_getr (q := 66) dX11_count_63 fl_X11_51 s10 ea11 ?_
    have s12 := w.1
    replace w := w.2
    refine ex_getf (q := 69) dX11_count_66 fl_X11_432 s12 ?_
    exact ex_ireturn dX11_count_69 rfl (Or.inl rfl) w
  replace w := w.2
  replace w := w c1_0 c1_1 c1_2 c1_3 c1_4
  have hsw : v_1.toInt < 0 ∨ 4 < v_1.toInt := by
    have := i32_ne c1_0 (a := 0) (by decide)
    have := i32_ne c1_1 (a := 1) (by decide)
    have := i32_ne c1_2 (a := 2) (by decide)
    have := i32_ne c1_3 (a := 3) (by decide)
    have := i32_ne c1_4 (a := 4) (by decide)
    omega
  have hsq : sw_t 69 0 4 [35, 40, 45, 53, 61] v_1.toInt = 69 := by
    rcases hsw with z | z
    · unfold sw_t; rw [if_pos (Or.inl z)]
    · unfold sw_t; rw [if_pos (Or.inr z)]
  refine ex_tsw (tgt := 70) dX11_count_1 (show ((1 : Nat) : Int) + sw_t 69 0 4 [35, 40, 45, 53, 61] v_1.toInt = ((70 : Nat) : Int) by rw [hsq]; decide) ?_
  refine ex_bipush (q := 72) (v := (-2)) dX11_count_70 (by decide) ?_
  exact ex_ireturn dX11_count_72 rfl (Or.inl rfl) w

theorem X11_count_e {d bc bs : Nat} {h : AH} {Q : Option Value → AH → Prop} {a_0 : Nat} {v_1 : Int32} (w : ex_G mX11_count d 0 [.ref a_0, .int v_1] [] h bc bs Q) : ex_S yX11_count mX11_count d [.ref a_0, .int v_1] h bc bs Q :=
  ex_enter (plainFor_of_name (by decide +kernel)) ⟨rfl, rfl⟩ rfl rfl (Nat.le_of_ble_eq_true rfl) (ex_pad 0 w)

set_option maxRecDepth 100000 in
theorem X11_digest_0 {d bc bs : Nat} {h : AH} {Q : Option Value → AH → Prop} {a_0 : Nat} (w : ex_G mX11_digest (d + 1) 6 [.ref a_0, .long 17, .retAddr 0, .int 0] [] h bc bs Q) : ex_G mX11_digest (d + 1) 0 [.ref a_0, .retAddr 0, .retAddr 0, .retAddr 0] [] h bc bs Q := by
  refine ex_ldc2_w (q := 3) (v := 17) dX11_digest_0 wd_1364 ?_
  refine ex_lstore_n (q := 4) (ls' := [.ref a_0, .long 17, .retAddr 0, .retAddr 0]) dX11_digest_3 rfl ?_
  refine ex_iconst (q := 5) (v := 0) dX11_digest_4 (by decide) ?_
  refine ex_istore_n (q := 6) (ls' := [.ref a_0, .long 17, .retAddr 0, .int 0]) dX11_digest_5 rfl ?_
  exact w

set_option maxRecDepth 100000 in
theorem X11_digest_6 {d bc bs : Nat} {h : AH} {Q : Option Value → AH → Prop} {a_0 : Nat} {v_1 : Int64} {v_3 : Int32} (w : ah_o h a_0 11 ∧ (((ah_f h a_0 15) ≤ v_3 → ∀ h3, h3 = ah_sf h a_0 19 0 → Q (some (.long v_1)) h3) ∧ (¬ (ah_f h a_0 15) ≤ v_3 → ∃ a4, ah_r h a_0 0 = some a4 ∧ ld3 h 11 a4 v_3 ∧ ∃ a6, ah_q h a4 (Int32.toNatClampNeg v_3) = some a6 ∧ ah_o h a6 7 ∧ ex_S yX7_mixInto mX7_mixInto d [.ref a6, .long v_1] h 0 0 (fun r h7 => ∃ x9, r = some (.long x9) ∧ ∀ x10, x10 = v_3 + 1 → ex_G mX11_digest (d + 1) 6 [.ref a_0, .long x9, .retAddr 0, .int x10] [] h7 bc bs Q)))) : ex_G mX11_digest (d + 1) 6 [.ref a_0, .long v_1, .retAddr 0, .int v_3] [] h bc bs Q := by
  refine ex_iload_n (q := 7) (x := v_3) dX11_digest_6 rfl ?_
  refine ex_aload_n (q := 8) (x := a_0) dX11_digest_7 rfl ?_
  have s1 := w.1
  replace w := w.2
  refine ex_getf (q := 11) dX11_digest_8 fl_X11_97 s1 ?_
  refine ex_icmp_ge (tgt := 31) (q := 14) dX11_digest_11 (fun c2 => ?_) (fun c2 => ?_)
  · replace w := w.1 c2
    refine ex_aload_n (q := 32) (x := a_0) dX11_digest_31 rfl ?_
    refine ex_iconst (q := 33) (v := 0) dX11_digest_32 (by decide) ?_
    refine ex_putf (q := 36) dX11_digest_33 fl_X11_110 (Or.inl rfl) s1 (Or.inl rfl) ?_
    refine ex_nmh (fun h3 eh3 => ?_)
    replace w := w h3 eh3
    refine ex_lload_n (q := 37) (x := v_1) dX11_digest_36 rfl ?_
    exact ex_lreturn dX11_digest_37 w
  · replace w := w.2 c2
    refine ex_aload_n (q := 15) (x := a_0) dX11_digest_14 rfl ?_
    obtain ⟨a4, ea4, w⟩ := w
    refine ex_getr (q := 18) dX11_digest_15 fl_X11_11 s1 ea4 ?_
    refine ex_iload_n (q := 19) (x := v_3) dX11_digest_18 rfl ?_
    have s5 := w.1
    replace w := w.2
    obtain ⟨a6, ea6, w⟩ := w
    refine ex_aald (q := 20) dX11_digest_19 s5 ea6 ?_
    refine ex_lload_n (q := 21) (x := v_1) dX11_digest_20 rfl ?_
    have s8 := w.1
    replace w := w.2
    refine ex_callV (q := 24) (M := mX11_digest) (hdd := Nat.le_refl _) (c := 7) (st := []) (bc := bc) (bs := bs) dX11_digest_21 rfl cl_X11_437 wd_1366 wd_1367 s8 w ?_
    rintro r h7 ⟨x9, rfl, w⟩
    show ex_G mX11_digest (d + 1) 24 [.ref a_0, .long v_1, .retAddr 0, .int v_3] [.long x9] h7 bc bs Q
    refine ex_lstore_n (q := 25) (ls' := [.ref a_0, .long x9, .retAddr 0, .int v_3]) dX11_digest_24 rfl ?_
    obtain ⟨x10, ex10⟩ : ∃ y : Int32, y = v_3 + 1 := ⟨_, rfl⟩
    replace w := w x10 ex10
    refine ex_iinc (q := 28) (x := v_3) (v := x10) (ls' := [.ref a_0, .long x9, .retAddr 0, .int x10]) dX11_digest_25 rfl (by rw [ex10]; rfl) rfl ?_
    refine ex_goto (tgt := 6) dX11_digest_28 ?_
    exact w

theorem X11_digest_e {d bc bs : Nat} {h : AH} {Q : Option Value → AH → Prop} {a_0 : Nat} (w : ex_G mX11_digest (d + 1) 0 [.ref a_0, .retAddr 0, .retAddr 0, .retAddr 0] [] h bc bs Q) : ex_S yX11_digest mX11_digest (d + 1) [.ref a_0] h bc bs Q :=
  ex_enter (plainFor_of_name (by decide +kernel)) ⟨rfl, rfl⟩ rfl rfl (Nat.le_of_ble_eq_true rfl) (ex_pad 3 w)
