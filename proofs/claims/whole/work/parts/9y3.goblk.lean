/-! Blocks of the search that count new cells by need. -/
set_option maxRecDepth 100000 in
theorem X8_keepS_0 {d bc bs : Nat} {h : AH} {Q : Option Value → AH → Prop} {a_0 : Nat} {v_1 : Int32} {v_2 : Int32} (w : ah_o h a_0 8 ∧ (((ah_f h a_0 11) < 100 → ∃ a3, ah_r h a_0 0 = some a3 ∧ ld3 h 14 a3 (ah_f h a_0 11) ∧ ∃ a6, ah_q h a3 (Int32.toNatClampNeg (ah_f h a_0 11)) = some a6 ∧ ex_G mX8_keep (d + 4) 38 [.ref a_0, .int v_1, .int v_2, .retAddr 0, .retAddr 0] [] h bc bs Q) ∧ (¬ (ah_f h a_0 11) < 100 → Q none h))) : ex_G mX8_keep (d + 4) 0 [.ref a_0, .int v_1, .int v_2, .retAddr 0, .retAddr 0] [] h bc bs Q := by
  refine ex_aload_n (q := 1) (x := a_0) dX8_keep_0 rfl ?_
  have s1 := w.1
  replace w := w.2
  refine ex_getf (q := 4) dX8_keep_1 fl_X8_72 s1 ?_
  refine ex_bipush (q := 6) (v := 100) dX8_keep_4 (by decide) ?_
  refine ex_icmp_lt (tgt := 10) (q := 9) dX8_keep_6 (fun c2 => ?_) (fun c2 => ?_)
  · replace w := w.1 c2
    refine ex_aload_n (q := 11) (x := a_0) dX8_keep_10 rfl ?_
    obtain ⟨a3, ea3, w⟩ := w
    refine ex_getr (q := 14) dX8_keep_11 fl_X8_11 s1 ea3 ?_
    refine ex_aload_n (q := 15) (x := a_0) dX8_keep_14 rfl ?_
    refine ex_getf (q := 18) dX8_keep_15 fl_X8_72 s1 ?_
    have s4 := w.1
    replace w := w.2
    refine ex_aaldq (q := 19) dX8_keep_18 s4 ?_
    refine ex_ifnonnull (tgt := 38) (q := 22) dX8_keep_19 (fun a6 c5 => ?_) (fun c5 => ?_)
    · obtain ⟨a7, e7, w⟩ := w
      exact w
    · obtain ⟨a7, e7, w⟩ := w
      rw [e7] at c5
      exact absurd c5 (by simp)
  · replace w := w.2 c2
    exact ex_return dX8_keep_9 w

set_option maxRecDepth 100000 in
theorem X8_goL_4 {d bc bs : Nat} {h : AH} {Q : Option Value → AH → Prop} {a_0 : Nat} {v_1 : Int32} {v_2 : Int32} {v_3 : Int32} (w : ((14500 < v_3 → ah_o h a_0 8 ∧ ∀ h3, h3 = ah_sf h a_0 12 ((ah_f h a_0 12) + v_2) → Q (some (.int v_2)) h3) ∧ (¬ 14500 < v_3 → ((v_1 ≤ v_2 → ah_o h a_0 8 ∧ ∀ h6, h6 = ah_sf h a_0 12 ((ah_f h a_0 12) + v_2) → Q (some (.int v_2)) h6) ∧ (¬ v_1 ≤ v_2 → ah_o h a_0 8 ∧ ((0 ≤ (ah_f h a_0 15) → ∀ h9, h9 = ah_sf h a_0 12 ((ah_f h a_0 12) + v_2) → Q (some (.int v_2)) h9) ∧ (¬ 0 ≤ (ah_f h a_0 15) → ∃ a10, ah_r h a_0 4 = some a10 ∧ ah_o h a10 7 ∧ (((ah_f h a_0 14) < (12 * (ah_f h a10 2)) → ∀ x13, x13 = ah_f h a_0 14 → ∀ h14, h14 = ah_sf h a_0 14 ((ah_f h a_0 14) + 1) → ∃ a15, ah_r h14 a_0 6 = some a15 ∧ ex_S yX5_seemsOpen mX5_seemsOpen (d + 4) [.ref a15, .int x13] h14 0 0 (fun r h16 => ∃ x17, r = some (.int x17) ∧ ((¬ x17 = 0 → ah_o h16 a_0 8 ∧ ∃ a20, ah_r h16 a_0 5 = some a20 ∧ ∃ a21, ah_r h16 a_0 4 = some a21 ∧ ah_o h16 a20 7 ∧ ex_S yX7_take mX7_take (d + 4) [.ref a20, .ref a21] h16 0 0 (fun r h22 => r = none ∧ ah_o h22 a_0 8 ∧ ∃ a25, ah_r h22 a_0 5 = some a25 ∧ ∃ a26, ah_r h22 a_0 6 = some a26 ∧ ex_S yX5_takeStep mX5_takeStep (d + 4) [.ref a25, .ref a26, .int x13] h22 0 0 (fun r h27 => ∃ x28, r = some (.int x28) ∧ ((x28 = 0 → ∀ x30, x30 = v_3 + 1 → ex_G mX8_go (d + 5) 4 [.ref a_0, .int v_1, .int v_2, .int x30, .retAddr 0] [] h27 bc bs Q) ∧ (¬ x28 = 0 → ∀ x31, x31 = v_2 + 1 → ah_o h27 a_0 8 ∧ ∃ mc ms bc' bs', bc' + mc ≤ bc ∧ bs' + ms ≤ bs ∧ ex_S yX8_keep mX8_keep (d + 4) [.ref a_0, .int (ah_f h27 a_0 13), .int x13] h27 mc ms (fun r h33 => r = none ∧ ∀ x34, x34 = v_3 + 1 → ex_G mX8_go (d + 5) 4 [.ref a_0, .int v_1, .int x31, .int x34, .retAddr 0] [] h33 bc' bs' Q)))))) ∧ (x17 = 0 → ∀ x35, x35 = v_3 + 1 → ex_G mX8_go (d + 5) 4 [.ref a_0, .int v_1, .int v_2, .int x35, .retAddr 0] [] h16 bc bs Q)))) ∧ (¬ (ah_f h a_0 14) < (12 * (ah_f h a10 2)) → ex_S yX8_enterNext mX8_enterNext (d + 4) [.ref a_0] h 0 0 (fun r h36 => ∃ x37, r = some (.int x37) ∧ ((¬ x37 = 0 → ∀ x39, x39 = v_3 + 1 → ex_G mX8_go (d + 5) 4 [.ref a_0, .int v_1, .int v_2, .int x39, .retAddr 0] [] h36 bc bs Q) ∧ (x37 = 0 → ah_o h36 a_0 8 ∧ ∀ h41, h41 = ah_sf h36 a_0 12 ((ah_f h36 a_0 12) + v_2) → Q (some (.int v_2)) h41)))))))))))) : ex_G mX8_go (d + 5) 4 [.ref a_0, .int v_1, .int v_2, .int v_3, .retAddr 0] [] h bc bs Q := by
  refine ex_iload_n (q := 5) (x := v_3) dX8_go_4 rfl ?_
  refine ex_sipush (q := 8) (v := 14500) dX8_go_5 (by decide) ?_
  refine ex_icmp_gt (tgt := 127) (q := 11) dX8_go_8 (fun c1 => ?_) (fun c1 => ?_)
  · replace w := w.1 c1
    refine ex_aload_n (q := 128) (x := a_0) dX8_go_127 rfl ?_
    refine ex_dup (q := 129) dX8_go_128 rfl ?_
    have s2 := w.1
    replace w := w.2
    refine ex_getf (q := 132) dX8_go_129 fl_X8_75 s2 ?_
    refine ex_iload_n (q := 133) (x := v_2) dX8_go_132 rfl ?_
    refine ex_iadd (q := 134) dX8_go_133 ?_
    refine ex_putf (q := 137) dX8_go_134 fl_X8_75 (Or.inl rfl) s2 (Or.inl rfl) ?_
    refine ex_nmh (fun h3 eh3 => ?_)
    replace w := w h3 eh3
    refine ex_iload_n (q := 138) (x := v_2) dX8_go_137 rfl ?_
    exact ex_ireturn dX8_go_138 rfl (Or.inl rfl) w
  · replace w := w.2 c1
    refine ex_iload_n (q := 12) (x := v_2) dX8_go_11 rfl ?_
    refine ex_iload_n (q := 13) (x := v_1) dX8_go_12 rfl ?_
    refine ex_icmp_ge (tgt := 127) (q := 16) dX8_go_13 (fun c4 => ?_) (fun c4 => ?_)
    · replace w := w.1 c4
      refine ex_aload_n (q := 128) (x := a_0) dX8_go_127 rfl ?_
      refine ex_dup (q := 129) dX8_go_128 rfl ?_
      have s5 := w.1
      replace w := w.2
      refine ex_getf (q := 132) dX8_go_129 fl_X8_75 s5 ?_
      refine ex_iload_n (q := 133) (x := v_2) dX8_go_132 rfl ?_
      refine ex_iadd (q := 134) dX8_go_133 ?_
      refine ex_putf (q := 137) dX8_go_134 fl_X8_75 (Or.inl rfl) s5 (Or.inl rfl) ?_
      refine ex_nmh (fun h6 eh6 => ?_)
      replace w := w h6 eh6
      refine ex_iload_n (q := 138) (x := v_2) dX8_go_137 rfl ?_
      exact ex_ireturn dX8_go_138 rfl (Or.inl rfl) w
    · replace w := w.2 c4
      refine ex_aload_n (q := 17) (x := a_0) dX8_go_16 rfl ?_
      have s7 := w.1
      replace w := w.2
      refine ex_getf (q := 20) dX8_go_17 fl_X8_68 s7 ?_
      refine ex_if_ge (tgt := 127) (q := 23) dX8_go_20 (fun c8 => ?_) (fun c8 => ?_)
      · replace w := w.1 c8
        refine ex_aload_n (q := 128) (x := a_0) dX8_go_127 rfl ?_
        refine ex_dup (q := 129) dX8_go_128 rfl ?_
        refine ex_getf (q := 132) dX8_go_129 fl_X8_75 s7 ?_
        refine ex_iload_n (q := 133) (x := v_2) dX8_go_132 rfl ?_
        refine ex_iadd (q := 134) dX8_go_133 ?_
        refine ex_putf (q := 137) dX8_go_134 fl_X8_75 (Or.inl rfl) s7 (Or.inl rfl) ?_
        refine ex_nmh (fun h9 eh9 => ?_)
        replace w := w h9 eh9
        refine ex_iload_n (q := 138) (x := v_2) dX8_go_137 rfl ?_
        exact ex_ireturn dX8_go_138 rfl (Or.inl rfl) w
      · replace w := w.2 c8
        refine ex_aload_n (q := 24) (x := a_0) dX8_go_23 rfl ?_
        refine ex_getf (q := 27) dX8_go_24 fl_X8_118 s7 ?_
        refine ex_bipush (q := 29) (v := 12) dX8_go_27 (by decide) ?_
        refine ex_aload_n (q := 30) (x := a_0) dX8_go_29 rfl ?_
        obtain ⟨a10, ea10, w⟩ := w
        refine ex_getr (q := 33) dX8_go_30 fl_X8_41 s7 ea10 ?_
        have s11 := w.1
        replace w := w.2
        refine ex_getf (q := 36) dX8_go_33 fl_X8_89 s11 ?_
        refine ex_imul (q := 37) dX8_go_36 ?_
        refine ex_icmp_lt (tgt := 50) (q := 40) dX8_go_37 (fun c12 => ?_) (fun c12 => ?_)
        · replace w := w.1 c12
          refine ex_aload_n (q := 51) (x := a_0) dX8_go_50 rfl ?_
          refine ex_getf (q := 54) dX8_go_51 fl_X8_118 s7 ?_
          refine ex_nmi (fun x13 ex13 => ?_)
          replace w := w x13 ex13
          refine ex_istore (q := 56) (ls' := [.ref a_0, .int v_1, .int v_2, .int v_3, .int x13]) dX8_go_54 rfl ?_
          refine ex_aload_n (q := 57) (x := a_0) dX8_go_56 rfl ?_
          refine ex_dup (q := 58) dX8_go_57 rfl ?_
          refine ex_getf (q := 61) dX8_go_58 fl_X8_118 s7 ?_
          refine ex_iconst (q := 62) (v := 1) dX8_go_61 (by decide) ?_
          refine ex_iadd (q := 63) dX8_go_62 ?_
          refine ex_putf (q := 66) dX8_go_63 fl_X8_118 (Or.inl rfl) s7 (Or.inl rfl) ?_
          refine ex_nmh (fun h14 eh14 => ?_)
          replace w := w h14 eh14
          refine ex_aload_n (q := 67) (x := a_0) dX8_go_66 rfl ?_
          obtain ⟨a15, ea15, w⟩ := w
          refine ex_getr (q := 70) dX8_go_67 fl_X8_51 (by rw [eh14]; exact s7) ea15 ?_
          refine ex_iload (q := 72) (x := x13) dX8_go_70 rfl ?_
          refine ex_callS (q := 75) (M := mX8_go) (hdd := Nat.le_refl _) (st := []) (bc := bc) (bs := bs) dX8_go_72 rfl cl_X8_125 wd_1250 w ?_
          rintro r h16 ⟨x17, rfl, w⟩
          show ex_G mX8_go (d + 5) 75 [.ref a_0, .int v_1, .int v_2, .int v_3, .int x13] [.int x17] h16 bc bs Q
          refine ex_if_ne (tgt := 81) (q := 78) dX8_go_75 (fun c18 => ?_) (fun c18 => ?_)
          · replace w := w.1 c18
            refine ex_aload_n (q := 82) (x := a_0) dX8_go_81 rfl ?_
            have s19 := w.1
            replace w := w.2
            obtain ⟨a20, ea20, w⟩ := w
            refine ex_getr (q := 85) dX8_go_82 fl_X8_45 s19 ea20 ?_
            refine ex_aload_n (q := 86) (x := a_0) dX8_go_85 rfl ?_
            obtain ⟨a21, ea21, w⟩ := w
            refine ex_getr (q := 89) dX8_go_86 fl_X8_41 s19 ea21 ?_
            have s23 := w.1
            replace w := w.2
            refine ex_callV (q := 92) (M := mX8_go) (hdd := Nat.le_refl _) (c := 7) (st := []) (bc := bc) (bs := bs) dX8_go_89 rfl cl_X8_78 wd_568 wd_569 s23 w ?_
            rintro r h22 ⟨rfl, w⟩
            show ex_G mX8_go (d + 5) 92 [.ref a_0, .int v_1, .int v_2, .int v_3, .int x13] [] h22 bc bs Q
            refine ex_aload_n (q := 93) (x := a_0) dX8_go_92 rfl ?_
            have s24 := w.1
            replace w := w.2
            obtain ⟨a25, ea25, w⟩ := w
            refine ex_getr (q := 96) dX8_go_93 fl_X8_45 s24 ea25 ?_
            refine ex_aload_n (q := 97) (x := a_0) dX8_go_96 rfl ?_
            obtain ⟨a26, ea26, w⟩ := w
            refine ex_getr (q := 100) dX8_go_97 fl_X8_51 s24 ea26 ?_
            refine ex_iload (q := 102) (x := x13) dX8_go_100 rfl ?_
            refine ex_callS (q := 105) (M := mX8_go) (hdd := Nat.le_refl _) (st := []) (bc := bc) (bs := bs) dX8_go_102 rfl cl_X8_131 wd_1253 w ?_
            rintro r h27 ⟨x28, rfl, w⟩
            show ex_G mX8_go (d + 5) 105 [.ref a_0, .int v_1, .int v_2, .int v_3, .int x13] [.int x28] h27 bc bs Q
            refine ex_if_eq (tgt := 121) (q := 108) dX8_go_105 (fun c29 => ?_) (fun c29 => ?_)
            · replace w := w.1 c29
              obtain ⟨x30, ex30⟩ : ∃ y : Int32, y = v_3 + 1 := ⟨_, rfl⟩
              replace w := w x30 ex30
              refine ex_iinc (q := 124) (x := v_3) (v := x30) (ls' := [.ref a_0, .int v_1, .int v_2, .int x30, .int x13]) dX8_go_121 rfl (by rw [ex30]; rfl) rfl ?_
              refine ex_goto (tgt := 4) dX8_go_124 ?_
              refine ex_kill 4 (ls' := [.ref a_0, .int v_1, .int v_2, .int x30, .retAddr 0]) rfl ?_
              exact w
            · replace w := w.2 c29
              obtain ⟨x31, ex31⟩ : ∃ y : Int32, y = v_2 + 1 := ⟨_, rfl⟩
              replace w := w x31 ex31
              refine ex_iinc (q := 111) (x := v_2) (v := x31) (ls' := [.ref a_0, .int v_1, .int x31, .int v_3, .int x13]) dX8_go_108 rfl (by rw [ex31]; rfl) rfl ?_
              refine ex_aload_n (q := 112) (x := a_0) dX8_go_111 rfl ?_
              refine ex_aload_n (q := 113) (x := a_0) dX8_go_112 rfl ?_
              have s32 := w.1
              replace w := w.2
              refine ex_getf (q := 116) dX8_go_113 fl_X8_135 s32 ?_
              refine ex_iload (q := 118) (x := x13) dX8_go_116 rfl ?_
              obtain ⟨mc, ms, bc', bs', rc, rs, w⟩ := w
              refine ex_G.room (bc' := bc' + mc) (bs' := bs' + ms) (Nat.le_refl _) rc rs ?_
              refine ex_callV (q := 121) (M := mX8_go) (hdd := Nat.le_refl _) (c := 8) (st := []) (bc := bc') (bs := bs') dX8_go_118 rfl cl_X8_82 wd_1212 wd_41 s32 w ?_
              rintro r h33 ⟨rfl, w⟩
              show ex_G mX8_go (d + 5) 121 [.ref a_0, .int v_1, .int x31, .int v_3, .int x13] [] h33 bc' bs' Q
              obtain ⟨x34, ex34⟩ : ∃ y : Int32, y = v_3 + 1 := ⟨_, rfl⟩
              replace w := w x34 ex34
              refine ex_iinc (q := 124) (x := v_3) (v := x34) (ls' := [.ref a_0, .int v_1, .int x31, .int x34, .int x13]) dX8_go_121 rfl (by rw [ex34]; rfl) rfl ?_
              refine ex_goto (tgt := 4) dX8_go_124 ?_
              refine ex_kill 4 (ls' := [.ref a_0, .int v_1, .int x31, .int x34, .retAddr 0]) rfl ?_
              exact w
          · replace w := w.2 c18
            refine ex_goto (tgt := 121) dX8_go_78 ?_
            obtain ⟨x35, ex35⟩ : ∃ y : Int32, y = v_3 + 1 := ⟨_, rfl⟩
            replace w := w x35 ex35
            refine ex_iinc (q := 124) (x := v_3) (v := x35) (ls' := [.ref a_0, .int v_1, .int v_2, .int x35, .int x13]) dX8_go_121 rfl (by rw [ex35]; rfl) rfl ?_
            refine ex_goto (tgt := 4) dX8_go_124 ?_
            refine ex_kill 4 (ls' := [.ref a_0, .int v_1, .int v_2, .int x35, .retAddr 0]) rfl ?_
            exact w
        · replace w := w.2 c12
          refine ex_aload_n (q := 41) (x := a_0) dX8_go_40 rfl ?_
          refine ex_callV (q := 44) (M := mX8_go) (hdd := Nat.le_refl _) (c := 8) (st := []) (bc := bc) (bs := bs) dX8_go_41 rfl cl_X8_121 wd_1247 wd_43 s7 w ?_
          rintro r h36 ⟨x37, rfl, w⟩
          show ex_G mX8_go (d + 5) 44 [.ref a_0, .int v_1, .int v_2, .int v_3, .retAddr 0] [.int x37] h36 bc bs Q
          refine ex_if_ne (tgt := 121) (q := 47) dX8_go_44 (fun c38 => ?_) (fun c38 => ?_)
          · replace w := w.1 c38
            obtain ⟨x39, ex39⟩ : ∃ y : Int32, y = v_3 + 1 := ⟨_, rfl⟩
            replace w := w x39 ex39
            refine ex_iinc (q := 124) (x := v_3) (v := x39) (ls' := [.ref a_0, .int v_1, .int v_2, .int x39, .retAddr 0]) dX8_go_121 rfl (by rw [ex39]; rfl) rfl ?_
            refine ex_goto (tgt := 4) dX8_go_124 ?_
            exact w
          · replace w := w.2 c38
            refine ex_goto (tgt := 127) dX8_go_47 ?_
            refine ex_aload_n (q := 128) (x := a_0) dX8_go_127 rfl ?_
            refine ex_dup (q := 129) dX8_go_128 rfl ?_
            have s40 := w.1
            replace w := w.2
            refine ex_getf (q := 132) dX8_go_129 fl_X8_75 s40 ?_
            refine ex_iload_n (q := 133) (x := v_2) dX8_go_132 rfl ?_
            refine ex_iadd (q := 134) dX8_go_133 ?_
            refine ex_putf (q := 137) dX8_go_134 fl_X8_75 (Or.inl rfl) s40 (Or.inl rfl) ?_
            refine ex_nmh (fun h41 eh41 => ?_)
            replace w := w h41 eh41
            refine ex_iload_n (q := 138) (x := v_2) dX8_go_137 rfl ?_
            exact ex_ireturn dX8_go_138 rfl (Or.inl rfl) w
