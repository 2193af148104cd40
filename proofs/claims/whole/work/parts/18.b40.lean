set_option maxRecDepth 100000 in
theorem X11_init_0 {d bc bs : Nat} {h : AH} {Q : Option Value → AH → Prop} {a_0 : Nat} (w : ah_n h < 10000000 ∧ ∀ h2, h2 = ah_na h 11 24 → ah_o h2 a_0 11 ∧ ∀ h4, h4 = ah_sr h2 a_0 0 (some (ah_n h)) → ah_n h4 < 10000000 ∧ ∀ h6, h6 = ah_na h4 9 60 → ah_o h6 a_0 11 ∧ ∀ h8, h8 = ah_sr h6 a_0 1 (some (ah_n h4)) → ah_n h8 < 10000000 ∧ ∀ h10, h10 = ah_no h8 6 → ex_S yX6_init mX6_init (d + 2) [.ref (ah_n h8), .int 130] h10 1 130 (fun r h11 => r = none ∧ ah_o h11 a_0 11 ∧ ∀ h13, h13 = ah_sr h11 a_0 2 (some (ah_n h8)) → ah_n h13 < 10000000 ∧ ∀ h15, h15 = ah_no h13 6 → ex_S yX6_init mX6_init (d + 2) [.ref (ah_n h13), .int 3] h15 1 3 (fun r h16 => r = none ∧ ah_o h16 a_0 11 ∧ ∀ h18, h18 = ah_sr h16 a_0 3 (some (ah_n h13)) → ah_n h18 < 10000000 ∧ ∀ h20, h20 = ah_no h18 4 → ex_S yX4_init mX4_init (d + 2) [.ref (ah_n h18)] h20 10 1180 (fun r h21 => r = none ∧ ah_o h21 a_0 11 ∧ ∀ h23, h23 = ah_sr h21 a_0 4 (some (ah_n h18)) → ah_n h23 < 10000000 ∧ ∀ h25, h25 = ah_no h23 4 → ex_S yX4_init mX4_init (d + 2) [.ref (ah_n h23)] h25 10 1180 (fun r h26 => r = none ∧ ah_o h26 a_0 11 ∧ ∀ h28, h28 = ah_sr h26 a_0 5 (some (ah_n h23)) → ah_n h28 < 10000000 ∧ ∀ h30, h30 = ah_no h28 7 → ex_S yX7_init mX7_init (d + 2) [.ref (ah_n h28)] h30 2 200 (fun r h31 => r = none ∧ ah_o h31 a_0 11 ∧ ∀ h33, h33 = ah_sr h31 a_0 6 (some (ah_n h28)) → ah_n h33 < 10000000 ∧ ∀ h35, h35 = ah_no h33 9 → ex_S yX9_init mX9_init (d + 2) [.ref (ah_n h33)] h35 40 664 (fun r h36 => r = none ∧ ah_o h36 a_0 11 ∧ ∀ h38, h38 = ah_sr h36 a_0 7 (some (ah_n h33)) → ah_n h38 < 10000000 ∧ ∀ h40, h40 = ah_no h38 2 → ex_S yX2_init mX2_init (d + 2) [.ref (ah_n h38)] h40 2 562 (fun r h41 => r = none ∧ ah_o h41 a_0 11 ∧ ∀ h43, h43 = ah_sr h41 a_0 8 (some (ah_n h38)) → ah_n h43 < 10000000 ∧ ∀ h45, h45 = ah_no h43 2 → ex_S yX2_init mX2_init (d + 2) [.ref (ah_n h43)] h45 2 562 (fun r h46 => r = none ∧ ah_o h46 a_0 11 ∧ ∀ h48, h48 = ah_sr h46 a_0 9 (some (ah_n h43)) → ah_n h48 < 10000000 ∧ ∀ h50, h50 = ah_no h48 2 → ex_S yX2_init mX2_init (d + 2) [.ref (ah_n h48)] h50 2 562 (fun r h51 => r = none ∧ ah_o h51 a_0 11 ∧ ∀ h53, h53 = ah_sr h51 a_0 10 (some (ah_n h48)) → ah_n h53 < 10000000 ∧ ∀ h55, h55 = ah_no h53 1 → ex_S yX1_init mX1_init (d + 2) [.ref (ah_n h53)] h55 42 3400 (fun r h56 => r = none ∧ ah_o h56 a_0 11 ∧ ∀ h58, h58 = ah_sr h56 a_0 11 (some (ah_n h53)) → ah_n h58 < 10000000 ∧ ∀ h60, h60 = ah_no h58 8 → ex_S yX8_init mX8_init (d + 2) [.ref (ah_n h58)] h60 38 3239 (fun r h61 => r = none ∧ ah_o h61 a_0 11 ∧ ∀ h63, h63 = ah_sr h61 a_0 12 (some (ah_n h58)) → ah_n h63 < 10000000 ∧ ∀ h65, h65 = ah_no h63 0 → ex_S yX0_init mX0_init (d + 2) [.ref (ah_n h63)] h65 2 400 (fun r h66 => r = none ∧ ah_o h66 a_0 11 ∧ ∀ h68, h68 = ah_sr h66 a_0 13 (some (ah_n h63)) → ah_n h68 < 10000000 ∧ ∀ h70, h70 = ah_na h68 0 10 → ah_o h70 a_0 11 ∧ ∀ h72, h72 = ah_sr h70 a_0 14 (some (ah_n h68)) → ∀ h73, h73 = ah_sf h72 a_0 17 (-1) → Q none h73))))))))))))) : ex_G mX11_init (d + 3) 0 [.ref a_0] [] h (bc + 167) (bs + 12258) Q := by
  refine ex_aload_n (q := 1) (x := a_0) dX11_init_0 rfl ?_
  refine ex_objInit (q := 4) (hd1 := Nat.succ_le_succ (Nat.zero_le _)) (h1 := wd_135) (h2 := wd_136) (st := []) dX11_init_1 wd_134 ?_
  refine ex_aload_n (q := 5) (x := a_0) dX11_init_4 rfl ?_
  refine ex_bipush (q := 7) (v := 24) dX11_init_5 (by decide) ?_
  have s1 := w.1
  replace w := w.2
  refine ex_G.room (bc' := (bc + 166) + 1) (bs' := (bs + 12234) + 24) (Nat.le_refl _) (rm_le rfl) (rm_le rfl) ?_
  refine ex_anewarray (q := 10) (c := 7) (N := 24) (M := mX11_init) dX11_init_7 wd_137 wd_138 rfl (by decide) s1 ?_
  refine ex_nmh (fun h2 eh2 => ?_)
  replace w := w h2 eh2
  have s3 := w.1
  replace w := w.2
  refine ex_putr (q := 13) dX11_init_10 fl_X11_11 (Or.inr ⟨rfl, rfl, wd_486, rfl⟩) s3 ?_
  refine ex_nmh (fun h4 eh4 => ?_)
  replace w := w h4 eh4
  refine ex_aload_n (q := 14) (x := a_0) dX11_init_13 rfl ?_
  refine ex_bipush (q := 16) (v := 60) dX11_init_14 (by decide) ?_
  have s5 := w.1
  replace w := w.2
  refine ex_G.room (bc' := (bc + 165) + 1) (bs' := (bs + 12174) + 60) (Nat.le_refl _) (rm_le rfl) (rm_le rfl) ?_
  refine ex_anewarray (q := 19) (c := 5) (N := 60) (M := mX11_init) dX11_init_16 wd_139 wd_140 rfl (by decide) s5 ?_
  refine ex_nmh (fun h6 eh6 => ?_)
  replace w := w h6 eh6
  have s7 := w.1
  replace w := w.2
  refine ex_putr (q := 22) dX11_init_19 fl_X11_17 (Or.inr ⟨rfl, rfl, wd_487, rfl⟩) s7 ?_
  refine ex_nmh (fun h8 eh8 => ?_)
  replace w := w h8 eh8
  refine ex_aload_n (q := 23) (x := a_0) dX11_init_22 rfl ?_
  have s9 := w.1
  replace w := w.2
  refine ex_G.room (bc' := (bc + 164) + 1) (bs' := (bs + 12172) + 2) (Nat.le_refl _) (rm_le rfl) (rm_le rfl) ?_
  refine ex_new (q := 26) (c := 6) (M := mX11_init) dX11_init_23 wd_141 wd_142 wd_114 s9 ?_
  refine ex_nmh (fun h10 eh10 => ?_)
  replace w := w h10 eh10
  refine ex_dup (q := 27) dX11_init_26 rfl ?_
  refine ex_sipush (q := 30) (v := 130) dX11_init_27 (by decide) ?_
  refine ex_G.room (bc' := (bc + 163) + 1) (bs' := (bs + 12042) + 130) (Nat.le_refl _) (rm_le rfl) (rm_le rfl) ?_
  refine ex_callI (q := 33) (M := mX11_init) (hdd := Nat.le_refl _) (st := [.ref (ah_n h8), .ref a_0]) (bc := (bc + 163)) (bs := (bs + 12042)) dX11_init_30 rfl cl_X11_23 wd_144 rfl rfl w ?_
  rintro r h11 ⟨rfl, w⟩
  show ex_G mX11_init (d + 3) 33 [.ref a_0] [.ref (ah_n h8), .ref a_0] h11 (bc + 163) (bs + 12042) Q
  have s12 := w.1
  replace w := w.2
  refine ex_putr (q := 36) dX11_init_33 fl_X11_26 (Or.inr ⟨rfl, rfl, wd_488, rfl⟩) s12 ?_
  refine ex_nmh (fun h13 eh13 => ?_)
  replace w := w h13 eh13
  refine ex_aload_n (q := 37) (x := a_0) dX11_init_36 rfl ?_
  have s14 := w.1
  replace w := w.2
  refine ex_G.room (bc' := (bc + 162) + 1) (bs' := (bs + 12040) + 2) (Nat.le_refl _) (rm_le rfl) (rm_le rfl) ?_
  refine ex_new (q := 40) (c := 6) (M := mX11_init) dX11_init_37 wd_141 wd_142 wd_114 s14 ?_
  refine ex_nmh (fun h15 eh15 => ?_)
  replace w := w h15 eh15
  refine ex_dup (q := 41) dX11_init_40 rfl ?_
  refine ex_iconst (q := 42) (v := 3) dX11_init_41 (by decide) ?_
  refine ex_G.room (bc' := (bc + 161) + 1) (bs' := (bs + 12037) + 3) (Nat.le_refl _) (rm_le rfl) (rm_le rfl) ?_
  refine ex_callI (q := 45) (M := mX11_init) (hdd := Nat.le_refl _) (st := [.ref (ah_n h13), .ref a_0]) (bc := (bc + 161)) (bs := (bs + 12037)) dX11_init_42 rfl cl_X11_23 wd_144 rfl rfl w ?_
  rintro r h16 ⟨rfl, w⟩
  show ex_G mX11_init (d + 3) 45 [.ref a_0] [.ref (ah_n h13), .ref a_0] h16 (bc + 161) (bs + 12037) Q
  have s17 := w.1
  replace w := w.2
  refine ex_putr (q := 48) dX11_init_45 fl_X11_30 (Or.inr ⟨rfl, rfl, wd_489, rfl⟩) s17 ?_
  refine ex_nmh (fun h18 eh18 => ?_)
  replace w := w h18 eh18
  refine ex_aload_n (q := 49) (x := a_0) dX11_init_48 rfl ?_
  have s19 := w.1
  replace w := w.2
  refine ex_G.room (bc' := (bc + 160) + 1) (bs' := (bs + 12019) + 18) (Nat.le_refl _) (rm_le rfl) (rm_le rfl) ?_
  refine ex_new (q := 52) (c := 4) (M := mX11_init) dX11_init_49 wd_162 wd_163 wd_116 s19 ?_
  refine ex_nmh (fun h20 eh20 => ?_)
  replace w := w h20 eh20
  refine ex_dup (q := 53) dX11_init_52 rfl ?_
  refine ex_G.room (bc' := (bc + 150) + 10) (bs' := (bs + 10839) + 1180) (Nat.le_refl _) (rm_le rfl) (rm_le rfl) ?_
  refine ex_callI (q := 56) (M := mX11_init) (hdd := Nat.le_refl _) (st := [.ref (ah_n h18), .ref a_0]) (bc := (bc + 150)) (bs := (bs + 10839)) dX11_init_53 rfl cl_X11_35 wd_165 rfl rfl w ?_
  rintro r h21 ⟨rfl, w⟩
  show ex_G mX11_init (d + 3) 56 [.ref a_0] [.ref (ah_n h18), .ref a_0] h21 (bc + 150) (bs + 10839) Q
  have s22 := w.1
  replace w := w.2
  refine ex_putr (q := 59) dX11_init_56 fl_X11_36 (Or.inr ⟨rfl, rfl, wd_490, rfl⟩) s22 ?_
  refine ex_nmh (fun h23 eh23 => ?_)
  replace w := w h23 eh23
  refine ex_aload_n (q := 60) (x := a_0) dX11_init_59 rfl ?_
  have s24 := w.1
  replace w := w.2
  refine ex_G.room (bc' := (bc + 149) + 1) (bs' := (bs + 10821) + 18) (Nat.le_refl _) (rm_le rfl) (rm_le rfl) ?_
  refine ex_new (q := 63) (c := 4) (M := mX11_init) dX11_init_60 wd_162 wd_163 wd_116 s24 ?_
  refine ex_nmh (fun h25 eh25 => ?_)
  replace w := w h25 eh25
  refine ex_dup (q := 64) dX11_init_63 rfl ?_
  refine ex_G.room (bc' := (bc + 139) + 10) (bs' := (bs + 9641) + 1180) (Nat.le_refl _) (rm_le rfl) (rm_le rfl) ?_
  refine ex_callI (q := 67) (M := mX11_init) (hdd := Nat.le_refl _) (st := [.ref (ah_n h23), .ref a_0]) (bc := (bc + 139)) (bs := (bs + 9641)) dX11_init_64 rfl cl_X11_35 wd_165 rfl rfl w ?_
  rintro r h26 ⟨rfl, w⟩
  show ex_G mX11_init (d + 3) 67 [.ref a_0] [.ref (ah_n h23), .ref a_0] h26 (bc + 139) (bs + 9641) Q
  have s27 := w.1
  replace w := w.2
  refine ex_putr (q := 70) dX11_init_67 fl_X11_40 (Or.inr ⟨rfl, rfl, wd_491, rfl⟩) s27 ?_
  refine ex_nmh (fun h28 eh28 => ?_)
  replace w := w h28 eh28
  refine ex_aload_n (q := 71) (x := a_0) dX11_init_70 rfl ?_
  have s29 := w.1
  replace w := w.2
  refine ex_G.room (bc' := (bc + 138) + 1) (bs' := (bs + 9634) + 7) (Nat.le_refl _) (rm_le rfl) (rm_le rfl) ?_
  refine ex_new (q := 74) (c := 7) (M := mX11_init) dX11_init_71 wd_137 wd_245 wd_117 s29 ?_
  refine ex_nmh (fun h30 eh30 => ?_)
  replace w := w h30 eh30
  refine ex_dup (q := 75) dX11_init_74 rfl ?_
  refine ex_G.room (bc' := (bc + 136) + 2) (bs' := (bs + 9434) + 200) (Nat.le_refl _) (rm_le rfl) (rm_le rfl) ?_
  refine ex_callI (q := 78) (M := mX11_init) (hdd := Nat.le_refl _) (st := [.ref (ah_n h28), .ref a_0]) (bc := (bc + 136)) (bs := (bs + 9434)) dX11_init_75 rfl cl_X11_43 wd_247 rfl rfl w ?_
  rintro r h31 ⟨rfl, w⟩
  show ex_G mX11_init (d + 3) 78 [.ref a_0] [.ref (ah_n h28), .ref a_0] h31 (bc + 136) (bs + 9434) Q
  have s32 := w.1
  replace w := w.2
  refine ex_putr (q := 81) dX11_init_78 fl_X11_44 (Or.inr ⟨rfl, rfl, wd_492, rfl⟩) s32 ?_
  refine ex_nmh (fun h33 eh33 => ?_)
  replace w := w h33 eh33
  refine ex_aload_n (q := 82) (x := a_0) dX11_init_81 rfl ?_
  have s34 := w.1
  replace w := w.2
  refine ex_G.room (bc' := (bc + 135) + 1) (bs' := (bs + 9430) + 4) (Nat.le_refl _) (rm_le rfl) (rm_le rfl) ?_
  refine ex_new (q := 85) (c := 9) (M := mX11_init) dX11_init_82 wd_291 wd_292 wd_119 s34 ?_
  refine ex_nmh (fun h35 eh35 => ?_)
  replace w := w h35 eh35
  refine ex_dup (q := 86) dX11_init_85 rfl ?_
  refine ex_G.room (bc' := (bc + 95) + 40) (bs' := (bs + 8766) + 664) (Nat.le_refl _) (rm_le rfl) (rm_le rfl) ?_
  refine ex_callI (q := 89) (M := mX11_init) (hdd := Nat.le_refl _) (st := [.ref (ah_n h33), .ref a_0]) (bc := (bc + 95)) (bs := (bs + 8766)) dX11_init_86 rfl cl_X11_50 wd_294 rfl rfl w ?_
  rintro r h36 ⟨rfl, w⟩
  show ex_G mX11_init (d + 3) 89 [.ref a_0] [.ref (ah_n h33), .ref a_0] h36 (bc + 95) (bs + 8766) Q
  have s37 := w.1
  replace w := w.2
  refine ex_putr (q := 92) dX11_init_89 fl_X11_51 (Or.inr ⟨rfl, rfl, wd_493, rfl⟩) s37 ?_
  refine ex_nmh (fun h38 eh38 => ?_)
  replace w := w h38 eh38
  refine ex_aload_n (q := 93) (x := a_0) dX11_init_92 rfl ?_
  have s39 := w.1
  replace w := w.2
  refine ex_G.room (bc' := (bc + 94) + 1) (bs' := (bs + 8763) + 3) (Nat.le_refl _) (rm_le rfl) (rm_le rfl) ?_
  refine ex_new (q := 96) (c := 2) (M := mX11_init) dX11_init_93 wd_313 wd_314 wd_120 s39 ?_
  refine ex_nmh (fun h40 eh40 => ?_)
  replace w := w h40 eh40
  refine ex_dup (q := 97) dX11_init_96 rfl ?_
  refine ex_G.room (bc' := (bc + 92) + 2) (bs' := (bs + 8201) + 562) (Nat.le_refl _) (rm_le rfl) (rm_le rfl) ?_
  refine ex_callI (q := 100) (M := mX11_init) (hdd := Nat.le_refl _) (st := [.ref (ah_n h38), .ref a_0]) (bc := (bc + 92)) (bs := (bs + 8201)) dX11_init_97 rfl cl_X11_57 wd_316 rfl rfl w ?_
  rintro r h41 ⟨rfl, w⟩
  show ex_G mX11_init (d + 3) 100 [.ref a_0] [.ref (ah_n h38), .ref a_0] h41 (bc + 92) (bs + 8201) Q
  have s42 := w.1
  replace w := w.2
  refine ex_putr (q := 103) dX11_init_100 fl_X11_58 (Or.inr ⟨rfl, rfl, wd_494, rfl⟩) s42 ?_
  refine ex_nmh (fun h43 eh43 => ?_)
  replace w := w h43 eh43
  refine ex_aload_n (q := 104) (x := a_0) dX11_init_103 rfl ?_
  have s44 := w.1
  replace w := w.2
  refine ex_G.room (bc' := (bc + 91) + 1) (bs' := (bs + 8198) + 3) (Nat.le_refl _) (rm_le rfl) (rm_le rfl) ?_
  refine ex_new (q := 107) (c := 2) (M := mX11_init) dX11_init_104 wd_313 wd_314 wd_120 s44 ?_
  refine ex_nmh (fun h45 eh45 => ?_)
  replace w := w h45 eh45
  refine ex_dup (q := 108) dX11_init_107 rfl ?_
  refine ex_G.room (bc' := (bc + 89) + 2) (bs' := (bs + 7636) + 562) (Nat.le_refl _) (rm_le rfl) (rm_le rfl) ?_
  refine ex_callI (q := 111) (M := mX11_init) (hdd := Nat.le_refl _) (st := [.ref (ah_n h43), .ref a_0]) (bc := (bc + 89)) (bs := (bs + 7636)) dX11_init_108 rfl cl_X11_57 wd_316 rfl rfl w ?_
  rintro r h46 ⟨rfl, w⟩
  show ex_G mX11_init (d + 3) 111 [.ref a_0] [.ref (ah_n h43), .ref a_0] h46 (bc + 89) (bs + 7636) Q
  have s47 := w.1
  replace w := w.2
  refine ex_putr (q := 114) dX11_init_111 fl_X11_62 (Or.inr ⟨rfl, rfl, wd_495, rfl⟩) s47 ?_
  refine ex_nmh (fun h48 eh48 => ?_)
  replace w := w h48 eh48
  refine ex_aload_n (q := 115) (x := a_0) dX11_init_114 rfl ?_
  have s49 := w.1
  replace w := w.2
  refine ex_G.room (bc' := (bc + 88) + 1) (bs' := (bs + 7633) + 3) (Nat.le_refl _) (rm_le rfl) (rm_le rfl) ?_
  refine ex_new (q := 118) (c := 2) (M := mX11_init) dX11_init_115 wd_313 wd_314 wd_120 s49 ?_
  refine ex_nmh (fun h50 eh50 => ?_)
  replace w := w h50 eh50
  refine ex_dup (q := 119) dX11_init_118 rfl ?_
  refine ex_G.room (bc' := (bc + 86) + 2) (bs' := (bs + 7071) + 562) (Nat.le_refl _) (rm_le rfl) (rm_le rfl) ?_
  refine ex_callI (q := 122) (M := mX11_init) (hdd := Nat.le_refl _) (st := [.ref (ah_n h48), .ref a_0]) (bc := (bc + 86)) (bs := (bs + 7071)) dX11_init_119 rfl cl_X11_57 wd_316 rfl rfl w ?_
  rintro r h51 ⟨rfl, w⟩
  show ex_G mX11_init (d + 3) 122 [.ref a_0] [.ref (ah_n h48), .ref a_0] h51 (bc + 86) (bs + 7071) Q
  have s52 := w.1
  replace w := w.2
  refine ex_putr (q := 125) dX11_init_122 fl_X11_65 (Or.inr ⟨rfl, rfl, wd_496, rfl⟩) s52 ?_
  refine ex_nmh (fun h53 eh53 => ?_)
  replace w := w h53 eh53
  refine ex_aload_n (q := 126) (x := a_0) dX11_init_125 rfl ?_
  have s54 := w.1
  replace w := w.2
  refine ex_G.room (bc' := (bc + 85) + 1) (bs' := (bs + 7068) + 3) (Nat.le_refl _) (rm_le rfl) (rm_le rfl) ?_
  refine ex_new (q := 129) (c := 1) (M := mX11_init) dX11_init_126 wd_331 wd_332 wd_121 s54 ?_
  refine ex_nmh (fun h55 eh55 => ?_)
  replace w := w h55 eh55
  refine ex_dup (q := 130) dX11_init_129 rfl ?_
  refine ex_G.room (bc' := (bc + 43) + 42) (bs' := (bs + 3668) + 3400) (Nat.le_refl _) (rm_le rfl) (rm_le rfl) ?_
  refine ex_callI (q := 133) (M := mX11_init) (hdd := Nat.le_refl _) (st := [.ref (ah_n h53), .ref a_0]) (bc := (bc + 43)) (bs := (bs + 3668)) dX11_init_130 rfl cl_X11_70 wd_334 rfl rfl w ?_
  rintro r h56 ⟨rfl, w⟩
  show ex_G mX11_init (d + 3) 133 [.ref a_0] [.ref (ah_n h53), .ref a_0] h56 (bc + 43) (bs + 3668) Q
  have s57 := w.1
  replace w := w.2
  refine ex_putr (q := 136) dX11_init_133 fl_X11_71 (Or.inr ⟨rfl, rfl, wd_497, rfl⟩) s57 ?_
  refine ex_nmh (fun h58 eh58 => ?_)
  replace w := w h58 eh58
  refine ex_aload_n (q := 137) (x := a_0) dX11_init_136 rfl ?_
  have s59 := w.1
  replace w := w.2
  refine ex_G.room (bc' := (bc + 42) + 1) (bs' := (bs + 3652) + 16) (Nat.le_refl _) (rm_le rfl) (rm_le rfl) ?_
  refine ex_new (q := 140) (c := 8) (M := mX11_init) dX11_init_137 wd_348 wd_349 wd_122 s59 ?_
  refine ex_nmh (fun h60 eh60 => ?_)
  replace w := w h60 eh60
  refine ex_dup (q := 141) dX11_init_140 rfl ?_
  refine ex_G.room (bc' := (bc + 4) + 38) (bs' := (bs + 413) + 3239) (Nat.le_refl _) (rm_le rfl) (rm_le rfl) ?_
  refine ex_callI (q := 144) (M := mX11_init) (hdd := Nat.le_refl _) (st := [.ref (ah_n h58), .ref a_0]) (bc := (bc + 4)) (bs := (bs + 413)) dX11_init_141 rfl cl_X11_77 wd_351 rfl rfl w ?_
  rintro r h61 ⟨rfl, w⟩
  show ex_G mX11_init (d + 3) 144 [.ref a_0] [.ref (ah_n h58), .ref a_0] h61 (bc + 4) (bs + 413) Q
  have s62 := w.1
  replace w := w.2
  refine ex_putr (q := 147) dX11_init_144 fl_X11_78 (Or.inr ⟨rfl, rfl, wd_498, rfl⟩) s62 ?_
  refine ex_nmh (fun h63 eh63 => ?_)
  replace w := w h63 eh63
  refine ex_aload_n (q := 148) (x := a_0) dX11_init_147 rfl ?_
  have s64 := w.1
  replace w := w.2
  refine ex_G.room (bc' := (bc + 3) + 1) (bs' := (bs + 410) + 3) (Nat.le_refl _) (rm_le rfl) (rm_le rfl) ?_
  refine ex_new (q := 151) (c := 0) (M := mX11_init) dX11_init_148 wd_467 wd_468 wd_125 s64 ?_
  refine ex_nmh (fun h65 eh65 => ?_)
  replace w := w h65 eh65
  refine ex_dup (q := 152) dX11_init_151 rfl ?_
  refine ex_G.room (bc' := (bc + 1) + 2) (bs' := (bs + 10) + 400) (Nat.le_refl _) (rm_le rfl) (rm_le rfl) ?_
  refine ex_callI (q := 155) (M := mX11_init) (hdd := Nat.le_refl _) (st := [.ref (ah_n h63), .ref a_0]) (bc := (bc + 1)) (bs := (bs + 10)) dX11_init_152 rfl cl_X11_84 wd_470 rfl rfl w ?_
  rintro r h66 ⟨rfl, w⟩
  show ex_G mX11_init (d + 3) 155 [.ref a_0] [.ref (ah_n h63), .ref a_0] h66 (bc + 1) (bs + 10) Q
  have s67 := w.1
  replace w := w.2
  refine ex_putr (q := 158) dX11_init_155 fl_X11_85 (Or.inr ⟨rfl, rfl, wd_499, rfl⟩) s67 ?_
  refine ex_nmh (fun h68 eh68 => ?_)
  replace w := w h68 eh68
  refine ex_aload_n (q := 159) (x := a_0) dX11_init_158 rfl ?_
  refine ex_bipush (q := 161) (v := 10) dX11_init_159 (by decide) ?_
  have s69 := w.1
  replace w := w.2
  refine ex_G.room (bc' := bc + 1) (bs' := bs + 10) (Nat.le_refl _) (Nat.le_refl _) (Nat.le_refl _) ?_
  refine ex_newarray (q := 163) (t := 0) (N := 10) (M := mX11_init) dX11_init_161 rfl (by decide) wd_161 rfl (by decide) s69 ?_
  refine ex_nmh (fun h70 eh70 => ?_)
  replace w := w h70 eh70
  have s71 := w.1
  replace w := w.2
  refine ex_putr (q := 166) dX11_init_163 fl_X11_89 (Or.inr ⟨rfl, rfl, wd_500, rfl⟩) s71 ?_
  refine ex_nmh (fun h72 eh72 => ?_)
  replace w := w h72 eh72
  refine ex_aload_n (q := 167) (x := a_0) dX11_init_166 rfl ?_
  refine ex_iconst (q := 168) (v := (-1)) dX11_init_167 (by decide) ?_
  refine ex_putf (q := 171) dX11_init_168 fl_X11_93 (Or.inl rfl) (by rw [eh72]; exact s71) (Or.inl rfl) ?_
  refine ex_nmh (fun h73 eh73 => ?_)
  replace w := w h73 eh73
  exact ex_return dX11_init_171 w

theorem X11_init_e {d bc bs : Nat} {h : AH} {Q : Option Value → AH → Prop} {a_0 : Nat} (w : ex_G mX11_init (d + 3) 0 [.ref a_0] [] h bc bs Q) : ex_S yX11_init mX11_init (d + 3) [.ref a_0] h bc bs Q :=
  ex_enter (plainFor_of_name (by decide +kernel)) ⟨rfl, rfl⟩ rfl rfl (Nat.le_of_ble_eq_true rfl) (ex_pad 0 w)

set_option maxRecDepth 100000 in
theorem X11_hasPicture_0 {d bc bs : Nat} {h : AH} {Q : Option Value → AH → Prop} {a_0 : Nat} {v_1 : Int32} (w : ((v_1 < 0 → Q (some (.int 0)) h) ∧ (¬ v_1 < 0 → ah_o h a_0 11 ∧ (((ah_f h a_0 15) ≤ v_1 → Q (some (.int 0)) h) ∧ (¬ (ah_f h a_0 15) ≤ v_1 → Q (some (.int 1)) h))))) : ex_G mX11_hasPicture d 0 [.ref a_0, .int v_1] [] h bc bs Q := by
  refine ex_iload_n (q := 1) (x := v_1) dX11_hasPicture_0 rfl ?_
  refine ex_if_lt (tgt := 16) (q := 4) dX11_hasPicture_1 (fun c1 => ?_) (fun c1 => ?_)
  · replace w := w.1 c1
    refine ex_iconst (q := 17) (v := 0) dX11_hasPicture_16 (by decide) ?_
    exact ex_ireturn dX11_hasPicture_17 rfl (Or.inr ⟨rfl, Or.inl rfl⟩) w
  · replace w := w.2 c1
    refine ex_iload_n (q := 5) (x := v_1) dX11_hasPicture_4 rfl ?_
    refine ex_aload_n (q := 6) (x := a_0) dX11_hasPicture_5 rfl ?_
    have s2 := w.1
    replace w := w.2
    refine ex_getf (q := 9) dX11_hasPicture_6 fl_X11_97 s2 ?_
    refine ex_icmp_ge (tgt := 16) (q := 12) dX11_hasPicture_9 (fun c3 => ?_) (fun c3 => ?_)
    · replace w := w.1 c3
      refine ex_iconst (q := 17) (v := 0) dX11_hasPicture_16 (by decide) ?_
      exact ex_ireturn dX11_hasPicture_17 rfl (Or.inr ⟨rfl, Or.inl rfl⟩) w
    · replace w := w.2 c3
      refine ex_iconst (q := 13) (v := 1) dX11_hasPicture_12 (by decide) ?_
      refine ex_goto (tgt := 17) dX11_hasPicture_13 ?_
      exact ex_ireturn dX11_hasPicture_17 rfl (Or.inr ⟨rfl, Or.inr rfl⟩) w

theorem X11_hasPicture_e {d bc bs : Nat} {h : AH} {Q : Option Value → AH → Prop} {a_0 : Nat} {v_1 : Int32} (w : ex_G mX11_hasPicture d 0 [.ref a_0, .int v_1] [] h bc bs Q) : ex_S yX11_hasPicture mX11_hasPicture d [.ref a_0, .int v_1] h bc bs Q :=
  ex_enter (plainFor_of_name (by decide +kernel)) ⟨rfl, rfl⟩ rfl rfl (Nat.le_of_ble_eq_true rfl) (ex_pad 0 w)

set_option maxRecDepth 100000 in
theorem X11_hasMove_0 {d bc bs : Nat} {h : AH} {Q : Option Value → AH → Prop} {a_0 : Nat} {v_1 : Int32} (w : ((v_1 < 0 → Q (some (.int 0)) h) ∧ (¬ v_1 < 0 → ah_o h a_0 11 ∧ (((ah_f h a_0 16) ≤ v_1 → Q (some (.int 0)) h) ∧ (¬ (ah_f h a_0 16) ≤ v_1 → Q (some (.int 1)) h))))) : ex_G mX11_hasMove d 0 [.ref a_0, .int v_1] [] h bc bs Q := by
  refine ex_iload_n (q := 1) (x := v_1) dX11_hasMove_0 rfl ?_
  refine ex_if_lt (tgt := 16) (q := 4) dX11_hasMove_1 (fun c1 => ?_) (fun c1 => ?_)
  · replace w := w.1 c1
    refine ex_iconst (q := 17) (v := 0) dX11_hasMove_16 (by decide) ?_
    exact ex_ireturn dX11_hasMove_17 rfl (Or.inr ⟨rfl, Or.inl rfl⟩) w
  · replace w := w.2 c1
    refine ex_iload_n (q := 5) (x := v_1) dX11_hasMove_4 rfl ?_
    refine ex_aload_n (q := 6) (x := a_0) dX11_hasMove_5 rfl ?_
    have s2 := w.1
    replace w := w.2
    refine ex_getf (q := 9) dX11_hasMove_6 fl_X11_100 s2 ?_
    refine ex_icmp_ge (tgt := 16) (q := 12) dX11_hasMove_9 (fun c3 => ?_) (fun c3 => ?_)
    · replace w := w.1 c3
      refine ex_iconst (q := 17) (v := 0) dX11_hasMove_16 (by decide) ?_
      exact ex_ireturn dX11_hasMove_17 rfl (Or.inr ⟨rfl, Or.inl rfl⟩) w
    · replace w := w.2 c3
      refine ex_iconst (q := 13) (v := 1) dX11_hasMove_12 (by decide) ?_
      refine ex_goto (tgt := 17) dX11_hasMove_13 ?_
      exact ex_ireturn dX11_hasMove_17 rfl (Or.inr ⟨rfl, Or.inr rfl⟩) w

theorem X11_hasMove_e {d bc bs : Nat} {h : AH} {Q : Option Value → AH → Prop} {a_0 : Nat} {v_1 : Int32} (w : ex_G mX11_hasMove d 0 [.ref a_0, .int v_1] [] h bc bs Q) : ex_S yX11_hasMove mX11_hasMove d [.ref a_0, .int v_1] h bc bs Q :=
  ex_enter (plainFor_of_name (by decide +kernel)) ⟨rfl, rfl⟩ rfl rfl (Nat.le_of_ble_eq_true rfl) (ex_pad 0 w)

set_option maxRecDepth 100000 in
theorem X11_isWhole_0 {d bc bs : Nat} {h : AH} {Q : Option Value → AH → Prop} {a_0 : Nat} {v_1 : Int32} {a_2 : Nat} (w : ah_o h a_0 11 ∧ ∃ a2, ah_r h a_0 0 = some a2 ∧ ld3 h 11 a2 v_1 ∧ ∃ a4, ah_q h a2 (Int32.toNatClampNeg v_1) = some a4 ∧ ah_o h a_2 4 ∧ ex_S yX4_survey mX4_survey (d + 3) [.ref a_2, .ref a4] h 0 0 (fun r h5 => r = none ∧ ah_o h5 a_2 4 ∧ ((¬ (ah_f h5 a_2 16) = 0 → Q (some (.int 0)) h5) ∧ ((ah_f h5 a_2 16) = 0 → Q (some (.int 1)) h5)))) : ex_G mX11_isWhole (d + 4) 0 [.ref a_0, .int v_1, .ref a_2] [] h bc bs Q := by
  refine ex_aload_n (q := 1) (x := a_2) dX11_isWhole_0 rfl ?_
  refine ex_aload_n (q := 2) (x := a_0) dX11_isWhole_1 rfl ?_
  have s1 := w.1
  replace w := w.2
  obtain ⟨a2, ea2, w⟩ := w
  refine ex_getr (q := 5) dX11_isWhole_2 fl_X11_11 s1 ea2 ?_
  refine ex_iload_n (q := 6) (x := v_1) dX11_isWhole_5 rfl ?_
  have s3 := w.1
  replace w := w.2
  obtain ⟨a4, ea4, w⟩ := w
  refine ex_aald (q := 7) dX11_isWhole_6 s3 ea4 ?_
  have s6 := w.1
  replace w := w.2
  refine ex_callV (q := 10) (M := mX11_isWhole) (hdd := Nat.le_refl _) (c := 4) (st := []) (bc := bc) (bs := bs) dX11_isWhole_7 rfl cl_X11_103 wd_638 wd_639 s6 w ?_
  rintro r h5 ⟨rfl, w⟩
  show ex_G mX11_isWhole (d + 4) 10 [.ref a_0, .int v_1, .ref a_2] [] h5 bc bs Q
  refine ex_aload_n (q := 11) (x := a_2) dX11_isWhole_10 rfl ?_
  have s7 := w.1
  replace w := w.2
  refine ex_getf (q := 14) dX11_isWhole_11 fl_X11_107 s7 ?_
  refine ex_if_ne (tgt := 21) (q := 17) dX11_isWhole_14 (fun c8 => ?_) (fun c8 => ?_)
  · replace w := w.1 c8
    refine ex_iconst (q := 22) (v := 0) dX11_isWhole_21 (by decide) ?_
    exact ex_ireturn dX11_isWhole_22 rfl (Or.inr ⟨rfl, Or.inl rfl⟩) w
  · replace w := w.2 c8
    refine ex_iconst (q := 18) (v := 1) dX11_isWhole_17 (by decide) ?_
    refine ex_goto (tgt := 22) dX11_isWhole_18 ?_
    exact ex_ireturn dX11_isWhole_22 rfl (Or.inr ⟨rfl, Or.inr rfl⟩) w

theorem X11_isWhole_e {d bc bs : Nat} {h : AH} {Q : Option Value → AH → Prop} {a_0 : Nat} {v_1 : Int32} {a_2 : Nat} (w : ex_G mX11_isWhole (d + 4) 0 [.ref a_0, .int v_1, .ref a_2] [] h bc bs Q) : ex_S yX11_isWhole mX11_isWhole (d + 4) [.ref a_0, .int v_1, .ref a_2] h bc bs Q :=
  ex_enter (plainFor_of_name (by decide +kernel)) ⟨rfl, rfl⟩ rfl rfl (Nat.le_of_ble_eq_true rfl) (ex_pad 0 w)

set_option maxRecDepth 100000 in
theorem X11_refuse_0 {d bc bs : Nat} {h : AH} {Q : Option Value → AH → Prop} {a_0 : Nat} {v_1 : Int32} (w : ah_o h a_0 11 ∧ ∀ h2, h2 = ah_sf h a_0 19 v_1 → ∀ x3, x3 = (-10) - v_1 → ((x3 < 1 → Q (some (.int v_1)) h2) ∧ (¬ x3 < 1 → ((9 < x3 → Q (some (.int v_1)) h2) ∧ (¬ 9 < x3 → ∃ a6, ah_r h2 a_0 14 = some a6 ∧ ld0 h2 a6 x3 ∧ st0 h2 a6 x3 ∧ ∀ h8, h8 = ah_si h2 a6 (Int32.toNatClampNeg x3) ((ah_i h2 a6 (Int32.toNatClampNeg x3)) + 1) → Q (some (.int v_1)) h8))))) : ex_G mX11_refuse d 0 [.ref a_0, .int v_1, .retAddr 0] [] h bc bs Q := by
  refine ex_aload_n (q := 1) (x := a_0) dX11_refuse_0 rfl ?_
  refine ex_iload_n (q := 2) (x := v_1) dX11_refuse_1 rfl ?_
  have s1 := w.1
  replace w := w.2
  refine ex_putf (q := 5) dX11_refuse_2 fl_X11_110 (Or.inl rfl) s1 (Or.inl rfl) ?_
  refine ex_nmh (fun h2 eh2 => ?_)
  replace w := w h2 eh2
  refine ex_bipush (q := 7) (v := (-10)) dX11_refuse_5 (by decide) ?_
  refine ex_iload_n (q := 8) (x := v_1) dX11_refuse_7 rfl ?_
  refine ex_isub (q := 9) dX11_refuse_8 ?_
  refine ex_nmi (fun x3 ex3 => ?_)
  replace w := w x3 ex3
  refine ex_istore_n (q := 10) (ls' := [.ref a_0, .int v_1, .int x3]) dX11_refuse_9 rfl ?_
  refine ex_iload_n (q := 11) (x := x3) dX11_refuse_10 rfl ?_
  refine ex_iconst (q := 12) (v := 1) dX11_refuse_11 (by decide) ?_
  refine ex_icmp_lt (tgt := 31) (q := 15) dX11_refuse_12 (fun c4 => ?_) (fun c4 => ?_)
  · replace w := w.1 c4
    refine ex_iload_n (q := 32) (x := v_1) dX11_refuse_31 rfl ?_
    exact ex_ireturn dX11_refuse_32 rfl (Or.inl rfl) w
  · replace w := w.2 c4
    refine ex_iload_n (q := 16) (x := x3) dX11_refuse_15 rfl ?_
    refine ex_bipush (q := 18) (v := 9) dX11_refuse_16 (by decide) ?_
    refine ex_icmp_gt (tgt := 31) (q := 21) dX11_refuse_18 (fun c5 => ?_) (fun c5 => ?_)
    · replace w := w.1 c5
      refine ex_iload_n (q := 32) (x := v_1) dX11_refuse_31 rfl ?_
      exact ex_ireturn dX11_refuse_32 rfl (Or.inl rfl) w
    · replace w := w.2 c5
      refine ex_aload_n (q := 22) (x := a_0) dX11_refuse_21 rfl ?_
      obtain ⟨a6, ea6, w⟩ := w
      refine ex_getr (q := 25) dX11_refuse_22 fl_X11_89 (by rw [eh2]; exact s1) ea6 ?_
      refine ex_iload_n (q := 26) (x := x3) dX11_refuse_25 rfl ?_
      refine ex_dup2 (q := 27) dX11_refuse_26 rfl rfl ?_
      have s7 := w.1
      replace w := w.2
      refine ex_iald (q := 28) dX11_refuse_27 s7 ?_
      refine ex_iconst (q := 29) (v := 1) dX11_refuse_28 (by decide) ?_
      refine ex_iadd (q := 30) dX11_refuse_29 ?_
      have s9 := w.1
      replace w := w.2
      refine ex_iast (q := 31) dX11_refuse_30 s9 ?_
      refine ex_nmh (fun h8 eh8 => ?_)
      replace w := w h8 eh8
      refine ex_iload_n (q := 32) (x := v_1) dX11_refuse_31 rfl ?_
      exact ex_ireturn dX11_refuse_32 rfl (Or.inl rfl) w

theorem X11_refuse_e {d bc bs : Nat} {h : AH} {Q : Option Value → AH → Prop} {a_0 : Nat} {v_1 : Int32} (w : ex_G mX11_refuse d 0 [.ref a_0, .int v_1, .retAddr 0] [] h bc bs Q) : ex_S yX11_refuse mX11_refuse d [.ref a_0, .int v_1] h bc bs Q :=
  ex_enter (plainFor_of_name (by decide +kernel)) ⟨rfl, rfl⟩ rfl rfl (Nat.le_of_ble_eq_true rfl) (ex_pad 1 w)

set_option maxRecDepth 100000 in
theorem X11_grant_0 {d bc bs : Nat} {h : AH} {Q : Option Value → AH → Prop} {a_0 : Nat} {v_1 : Int32} (w : ah_o h a_0 11 ∧ ∀ h2, h2 = ah_sf h a_0 19 0 → Q (some (.int v_1)) h2) : ex_G mX11_grant d 0 [.ref a_0, .int v_1] [] h bc bs Q := by
  refine ex_aload_n (q := 1) (x := a_0) dX11_grant_0 rfl ?_
  refine ex_iconst (q := 2) (v := 0) dX11_grant_1 (by decide) ?_
  have s1 := w.1
  replace w := w.2
  refine ex_putf (q := 5) dX11_grant_2 fl_X11_110 (Or.inl rfl) s1 (Or.inl rfl) ?_
  refine ex_nmh (fun h2 eh2 => ?_)
  replace w := w h2 eh2
  refine ex_iload_n (q := 6) (x := v_1) dX11_grant_5 rfl ?_
  exact ex_ireturn dX11_grant_6 rfl (Or.inl rfl) w

theorem X11_grant_e {d bc bs : Nat} {h : AH} {Q : Option Value → AH → Prop} {a_0 : Nat} {v_1 : Int32} (w : ex_G mX11_grant d 0 [.ref a_0, .int v_1] [] h bc bs Q) : ex_S yX11_grant mX11_grant d [.ref a_0, .int v_1] h bc bs Q :=
  ex_enter (plainFor_of_name (by decide +kernel)) ⟨rfl, rfl⟩ rfl rfl (Nat.le_of_ble_eq_true rfl) (ex_pad 0 w)

set_option maxRecDepth 100000 in
theorem X11_isFull_0 {d bc bs : Nat} {h : AH} {Q : Option Value → AH → Prop} {a_0 : Nat} (w : ah_o h a_0 11 ∧ (((ah_f h a_0 15) < 24 → Q (some (.int 0)) h) ∧ (¬ (ah_f h a_0 15) < 24 → Q (some (.int 1)) h))) : ex_G mX11_isFull d 0 [.ref a_0] [] h bc bs Q := by
  refine ex_aload_n (q := 1) (x := a_0) dX11_isFull_0 rfl ?_
  have s1 := w.1
  replace w := w.2
  refine ex_getf (q := 4) dX11_isFull_1 fl_X11_97 s1 ?_
  refine ex_bipush (q := 6) (v := 24) dX11_isFull_4 (by decide) ?_
  refine ex_icmp_lt (tgt := 13) (q := 9) dX11_isFull_6 (fun c2 => ?_) (fun c2 => ?_)
  · replace w := w.1 c2
    refine ex_iconst (q := 14) (v := 0) dX11_isFull_13 (by decide) ?_
    exact ex_ireturn dX11_isFull_14 rfl (Or.inr ⟨rfl, Or.inl rfl⟩) w
  · replace w := w.2 c2
    refine ex_iconst (q := 10) (v := 1) dX11_isFull_9 (by decide) ?_
    refine ex_goto (tgt := 14) dX11_isFull_10 ?_
    exact ex_ireturn dX11_isFull_14 rfl (Or.inr ⟨rfl, Or.inr rfl⟩) w

theorem X11_isFull_e {d bc bs : Nat} {h : AH} {Q : Option Value → AH → Prop} {a_0 : Nat} (w : ex_G mX11_isFull d 0 [.ref a_0] [] h bc bs Q) : ex_S yX11_isFull mX11_isFull d [.ref a_0] h bc bs Q :=
  ex_enter (plainFor_of_name (by decide +kernel)) ⟨rfl, rfl⟩ rfl rfl (Nat.le_of_ble_eq_true rfl) (ex_pad 0 w)

set_option maxRecDepth 100000 in
theorem X11_addLike_0 {d bc bs : Nat} {h : AH} {Q : Option Value → AH → Prop} {a_0 : Nat} {a_1 : Nat} (w : ah_n h < 10000000 ∧ ∀ h2, h2 = ah_no h 7 → ex_S yX7_init mX7_init (d + 1) [.ref (ah_n h)] h2 2 200 (fun r h3 => r = none ∧ ah_o h3 (ah_n h) 7 ∧ ex_S yX7_take mX7_take (d + 1) [.ref (ah_n h), .ref a_1] h3 0 0 (fun r h4 => r = none ∧ ah_o h4 a_0 11 ∧ ∃ a7, ah_r h4 a_0 0 = some a7 ∧ ld3 h4 11 a7 (ah_f h4 a_0 15) ∧ ah_o h4 (ah_n h) 7 ∧ ∀ h8, h8 = ah_sq h4 a7 (Int32.toNatClampNeg (ah_f h4 a_0 15)) (some (ah_n h)) → ∀ h11, h11 = ah_sf h8 a_0 15 ((ah_f h8 a_0 15) + 1) → Q (some (.int ((ah_f h11 a_0 15) - 1))) h11))) : ex_G mX11_addLike (d + 2) 0 [.ref a_0, .ref a_1, .retAddr 0] [] h (bc + 3) (bs + 207) Q := by
  have s1 := w.1
  replace w := w.2
  refine ex_G.room (bc' := (bc + 2) + 1) (bs' := (bs + 200) + 7) (Nat.le_refl _) (rm_le rfl) (rm_le rfl) ?_
  refine ex_new (q := 3) (c := 7) (M := mX11_addLike) dX11_addLike_0 wd_137 wd_245 wd_117 s1 ?_
  refine ex_nmh (fun h2 eh2 => ?_)
  replace w := w h2 eh2
  refine ex_dup (q := 4) dX11_addLike_3 rfl ?_
  refine ex_G.room (bc' := bc + 2) (bs' := bs + 200) (Nat.le_refl _) (Nat.le_refl _) (Nat.le_refl _) ?_
  refine ex_callI (q := 7) (M := mX11_addLike) (hdd := Nat.le_refl _) (st := [.ref (ah_n h)]) (bc := bc) (bs := bs) dX11_addLike_4 rfl cl_X11_43 wd_247 rfl rfl w ?_
  rintro r h3 ⟨rfl, w⟩
  show ex_G mX11_addLike (d + 2) 7 [.ref a_0, .ref a_1, .retAddr 0] [.ref (ah_n h)] h3 bc bs Q
  refine ex_astore_n (q := 8) (ls' := [.ref a_0, .ref a_1, .ref (ah_n h)]) dX11_addLike_7 rfl ?_
  refine ex_aload_n (q := 9) (x := ah_n h) dX11_addLike_8 rfl ?_
  refine ex_aload_n (q := 10) (x := a_1) dX11_addLike_9 rfl ?_
  have s5 := w.1
  replace w := w.2
  refine ex_callV (q := 13) (M := mX11_addLike) (hdd := Nat.le_refl _) (c := 7) (st := []) (bc := bc) (bs := bs) dX11_addLike_10 rfl cl_X11_113 wd_568 wd_569 s5 w ?_
  rintro r h4 ⟨rfl, w⟩
  show ex_G mX11_addLike (d + 2) 13 [.ref a_0, .ref a_1, .ref (ah_n h)] [] h4 bc bs Q
  refine ex_aload_n (q := 14) (x := a_0) dX11_addLike_13 rfl ?_
  have s6 := w.1
  replace w := w.2
  obtain ⟨a7, ea7, w⟩ := w
  refine ex_getr (q := 17) dX11_addLike_14 fl_X11_11 s6 ea7 ?_
  refine ex_aload_n (q := 18) (x := a_0) dX11_addLike_17 rfl ?_
  refine ex_getf (q := 21) dX11_addLike_18 fl_X11_97 s6 ?_
  refine ex_aload_n (q := 22) (x := ah_n h) dX11_addLike_21 rfl ?_
  have s9 := w.1
  replace w := w.2
  have s10 := w.1
  replace w := w.2
  refine ex_aast (q := 23) (c := 7) dX11_addLike_22 s9 s10 ?_
  refine ex_nmh (fun h8 eh8 => ?_)
  replace w := w h8 eh8
  refine ex_aload_n (q := 24) (x := a_0) dX11_addLike_23 rfl ?_
  refine ex_dup (q := 25) dX11_addLike_24 rfl ?_
  refine ex_getf (q := 28) dX11_addLike_25 fl_X11_97 (by rw [eh8]; exact s6) ?_
  refine ex_iconst (q := 29) (v := 1) dX11_addLike_28 (by decide) ?_
  refine ex_iadd (q := 30) dX11_addLike_29 ?_
  refine ex_putf (q := 33) dX11_addLike_30 fl_X11_97 (Or.inl rfl) (by rw [eh8]; exact s6) (Or.inl rfl) ?_
  refine ex_nmh (fun h11 eh11 => ?_)
  replace w := w h11 eh11
  refine ex_aload_n (q := 34) (x := a_0) dX11_addLike_33 rfl ?_
  refine ex_getf (q := 37) dX11_addLike_34 fl_X11_97 (by rw [eh11]; exact (by rw [eh8]; exact s6)) ?_
  refine ex_iconst (q := 38) (v := 1) dX11_addLike_37 (by decide) ?_
  refine ex_isub (q := 39) dX11_addLike_38 ?_
  exact ex_ireturn dX11_addLike_39 rfl (Or.inl rfl) w

theorem X11_addLike_e {d bc bs : Nat} {h : AH} {Q : Option Value → AH → Prop} {a_0 : Nat} {a_1 : Nat} (w : ex_G mX11_addLike (d + 2) 0 [.ref a_0, .ref a_1, .retAddr 0] [] h bc bs Q) : ex_S yX11_addLike mX11_addLike (d + 2) [.ref a_0, .ref a_1] h bc bs Q :=
  ex_enter (plainFor_of_name (by decide +kernel)) ⟨rfl, rfl⟩ rfl rfl (Nat.le_of_ble_eq_true rfl) (ex_pad 1 w)

set_option maxRecDepth 100000 in
theorem X11_picture_0 {d bc bs : Nat} {h : AH} {Q : Option Value → AH → Prop} {a_0 : Nat} (w : ah_o h a_0 11 ∧ ex_S yX11_isFull mX11_isFull (d + 2) [.ref a_0] h 0 0 (fun r h1 => ∃ x3, r = some (.int x3) ∧ ((x3 = 0 → ah_o h1 a_0 11 ∧ ∃ a6, ah_r h1 a_0 6 = some a6 ∧ ah_o h1 a6 7 ∧ ex_S yX7_empty mX7_empty (d + 2) [.ref a6] h1 0 0 (fun r h7 => r = none ∧ ah_o h7 a_0 11 ∧ ∃ a10, ah_r h7 a_0 6 = some a10 ∧ ex_S yX11_addLike mX11_addLike (d + 2) [.ref a_0, .ref a10] h7 3 207 (fun r h11 => ∃ x12, r = some (.int x12) ∧ ah_o h11 a_0 11 ∧ ex_S yX11_grant mX11_grant (d + 2) [.ref a_0, .int x12] h11 0 0 (fun r h13 => ∃ x15, r = some (.int x15) ∧ Q (some (.int x15)) h13)))) ∧ (¬ x3 = 0 → ah_o h1 a_0 11 ∧ ex_S yX11_refuse mX11_refuse (d + 2) [.ref a_0, .int (-3)] h1 0 0 (fun r h16 => ∃ x18, r = some (.int x18) ∧ Q (some (.int x18)) h16))))) : ex_G mX11_picture (d + 3) 0 [.ref a_0] [] h (bc + 3) (bs + 207) Q := by
  refine ex_aload_n (q := 1) (x := a_0) dX11_picture_0 rfl ?_
  have s2 := w.1
  replace w := w.2
  refine ex_callV (q := 4) (M := mX11_picture) (hdd := Nat.le_refl _) (c := 11) (st := []) (bc := (bc + 3)) (bs := (bs + 207)) dX11_picture_1 rfl cl_X11_116 wd_553 wd_0 s2 w ?_
  rintro r h1 ⟨x3, rfl, w⟩
  show ex_G mX11_picture (d + 3) 4 [.ref a_0] [.int x3] h1 (bc + 3) (bs + 207) Q
  refine ex_if_eq (tgt := 14) (q := 7) dX11_picture_4 (fun c4 => ?_) (fun c4 => ?_)
  · replace w := w.1 c4
    refine ex_aload_n (q := 15) (x := a_0) dX11_picture_14 rfl ?_
    have s5 := w.1
    replace w := w.2
    obtain ⟨a6, ea6, w⟩ := w
    refine ex_getr (q := 18) dX11_picture_15 fl_X11_44 s5 ea6 ?_
    have s8 := w.1
    replace w := w.2
    refine ex_callV (q := 21) (M := mX11_picture) (hdd := Nat.le_refl _) (c := 7) (st := []) (bc := (bc + 3)) (bs := (bs + 207)) dX11_picture_18 rfl cl_X11_124 wd_560 wd_561 s8 w ?_
    rintro r h7 ⟨rfl, w⟩
    show ex_G mX11_picture (d + 3) 21 [.ref a_0] [] h7 (bc + 3) (bs + 207) Q
    refine ex_aload_n (q := 22) (x := a_0) dX11_picture_21 rfl ?_
    refine ex_aload_n (q := 23) (x := a_0) dX11_picture_22 rfl ?_
    refine ex_aload_n (q := 24) (x := a_0) dX11_picture_23 rfl ?_
    have s9 := w.1
    replace w := w.2
    obtain ⟨a10, ea10, w⟩ := w
    refine ex_getr (q := 27) dX11_picture_24 fl_X11_44 s9 ea10 ?_
    refine ex_G.room (bc' := bc + 3) (bs' := bs + 207) (Nat.le_refl _) (Nat.le_refl _) (Nat.le_refl _) ?_
    refine ex_callV (q := 30) (M := mX11_picture) (hdd := Nat.le_refl _) (c := 11) (st := [.ref a_0]) (bc := bc) (bs := bs) dX11_picture_27 rfl cl_X11_127 wd_565 wd_2 s9 w ?_
    rintro r h11 ⟨x12, rfl, w⟩
    show ex_G mX11_picture (d + 3) 30 [.ref a_0] [.int x12, .ref a_0] h11 bc bs Q
    have s14 := w.1
    replace w := w.2
    refine ex_callV (q := 33) (M := mX11_picture) (hdd := Nat.le_refl _) (c := 11) (st := []) (bc := bc) (bs := bs) dX11_picture_30 rfl cl_X11_131 wd_576 wd_3 s14 w ?_
    rintro r h13 ⟨x15, rfl, w⟩
    show ex_G mX11_picture (d + 3) 33 [.ref a_0] [.int x15] h13 bc bs Q
    exact ex_ireturn dX11_picture_33 rfl (Or.inl rfl) w
  · replace w := w.2 c4
    refine ex_aload_n (q := 8) (x := a_0) dX11_picture_7 rfl ?_
    refine ex_bipush (q := 10) (v := (-3)) dX11_picture_8 (by decide) ?_
    have s17 := w.1
    replace w := w.2
    refine ex_callV (q := 13) (M := mX11_picture) (hdd := Nat.le_refl _) (c := 11) (st := []) (bc := (bc + 3)) (bs := (bs + 207)) dX11_picture_10 rfl cl_X11_120 wd_557 wd_1 s17 w ?_
    rintro r h16 ⟨x18, rfl, w⟩
    show ex_G mX11_picture (d + 3) 13 [.ref a_0] [.int x18] h16 (bc + 3) (bs + 207) Q
    exact ex_ireturn dX11_picture_13 rfl (Or.inl rfl) w

theorem X11_picture_e {d bc bs : Nat} {h : AH} {Q : Option Value → AH → Prop} {a_0 : Nat} (w : ex_G mX11_picture (d + 3) 0 [.ref a_0] [] h bc bs Q) : ex_S yX11_picture mX11_picture (d + 3) [.ref a_0] h bc bs Q :=
  ex_enter (plainFor_of_name (by decide +kernel)) ⟨rfl, rfl⟩ rfl rfl (Nat.le_of_ble_eq_true rfl) (ex_pad 0 w)

set_option maxRecDepth 100000 in
theorem X11_isArc_0 {d bc bs : Nat} {h : AH} {Q : Option Value → AH → Prop} {v_0 : Int32} (w : ((v_0 < (-1) → Q (some (.int 0)) h) ∧ (¬ v_0 < (-1) → ((100 ≤ v_0 → Q (some (.int 0)) h) ∧ (¬ 100 ≤ v_0 → Q (some (.int 1)) h))))) : ex_G mX11_isArc d 0 [.int v_0] [] h bc bs Q := by
  refine ex_iload_n (q := 1) (x := v_0) dX11_isArc_0 rfl ?_
  refine ex_iconst (q := 2) (v := (-1)) dX11_isArc_1 (by decide) ?_
  refine ex_icmp_lt (tgt := 15) (q := 5) dX11_isArc_2 (fun c1 => ?_) (fun c1 => ?_)
  · replace w := w.1 c1
    refine ex_iconst (q := 16) (v := 0) dX11_isArc_15 (by decide) ?_
    exact ex_ireturn dX11_isArc_16 rfl (Or.inr ⟨rfl, Or.inl rfl⟩) w
  · replace w := w.2 c1
    refine ex_iload_n (q := 6) (x := v_0) dX11_isArc_5 rfl ?_
    refine ex_bipush (q := 8) (v := 100) dX11_isArc_6 (by decide) ?_
    refine ex_icmp_ge (tgt := 15) (q := 11) dX11_isArc_8 (fun c2 => ?_) (fun c2 => ?_)
    · replace w := w.1 c2
      refine ex_iconst (q := 16) (v := 0) dX11_isArc_15 (by decide) ?_
      exact ex_ireturn dX11_isArc_16 rfl (Or.inr ⟨rfl, Or.inl rfl⟩) w
    · replace w := w.2 c2
      refine ex_iconst (q := 12) (v := 1) dX11_isArc_11 (by decide) ?_
      refine ex_goto (tgt := 16) dX11_isArc_12 ?_
      exact ex_ireturn dX11_isArc_16 rfl (Or.inr ⟨rfl, Or.inr rfl⟩) w

theorem X11_isArc_e {d bc bs : Nat} {h : AH} {Q : Option Value → AH → Prop} {v_0 : Int32} (w : ex_G mX11_isArc d 0 [.int v_0] [] h bc bs Q) : ex_S yX11_isArc mX11_isArc d [.int v_0] h bc bs Q :=
  ex_enter (plainFor_of_name (by decide +kernel)) ⟨rfl, rfl⟩ rfl rfl (Nat.le_of_ble_eq_true rfl) (ex_pad 0 w)

set_option maxRecDepth 100000 in
theorem X11_crossing_0 {d bc bs : Nat} {h : AH} {Q : Option Value → AH → Prop} {a_0 : Nat} {v_1 : Int32} {v_2 : Int32} {v_3 : Int32} {v_4 : Int32} {v_5 : Int32} (w : ah_o h a_0 11 ∧ ex_S yX11_hasPicture mX11_hasPicture d [.ref a_0, .int v_1] h 0 0 (fun r h1 => ∃ x3, r = some (.int x3) ∧ ((x3 = 0 → ah_o h1 a_0 11 ∧ ex_S yX11_refuse mX11_refuse d [.ref a_0, .int (-2)] h1 0 0 (fun r h5 => ∃ x7, r = some (.int x7) ∧ Q (some (.int x7)) h5)) ∧ (¬ x3 = 0 → ex_S yX11_isArc mX11_isArc d [.int v_2] h1 0 0 (fun r h8 => ∃ x9, r = some (.int x9) ∧ ((x9 = 0 → ah_o h8 a_0 11 ∧ ex_S yX11_refuse mX11_refuse d [.ref a_0, .int (-2)] h8 0 0 (fun r h11 => ∃ x13, r = some (.int x13) ∧ Q (some (.int x13)) h11)) ∧ (¬ x9 = 0 → ex_S yX11_isArc mX11_isArc d [.int v_3] h8 0 0 (fun r h14 => ∃ x15, r = some (.int x15) ∧ ((x15 = 0 → ah_o h14 a_0 11 ∧ ex_S yX11_refuse mX11_refuse d [.ref a_0, .int (-2)] h14 0 0 (fun r h17 => ∃ x19, r = some (.int x19) ∧ Q (some (.int x19)) h17)) ∧ (¬ x15 = 0 → ex_S yX11_isArc mX11_isArc d [.int v_4] h14 0 0 (fun r h20 => ∃ x21, r = some (.int x21) ∧ ((x21 = 0 → ah_o h20 a_0 11 ∧ ex_S yX11_refuse mX11_refuse d [.ref a_0, .int (-2)] h20 0 0 (fun r h23 => ∃ x25, r = some (.int x25) ∧ Q (some (.int x25)) h23)) ∧ (¬ x21 = 0 → ex_S yX11_isArc mX11_isArc d [.int v_5] h20 0 0 (fun r h26 => ∃ x27, r = some (.int x27) ∧ ((¬ x27 = 0 → ah_o h26 a_0 11 ∧ ∃ a30, ah_r h26 a_0 0 = some a30 ∧ ld3 h26 11 a30 v_1 ∧ ∃ a32, ah_q h26 a30 (Int32.toNatClampNeg v_1) = some a32 ∧ ah_o h26 a32 7 ∧ (((ah_f h26 a32 2) < 40 → ex_S yX7_forget mX7_forget d [.ref a32] h26 0 0 (fun r h35 => r = none ∧ ah_o h35 a32 7 ∧ ex_S yX7_add mX7_add d [.ref a32, .int v_2, .int v_3, .int v_4, .int v_5] h35 0 0 (fun r h36 => r = none ∧ ah_o h36 a32 7 ∧ ah_o h36 a_0 11 ∧ ex_S yX11_grant mX11_grant d [.ref a_0, .int ((ah_f h36 a32 2) - 1)] h36 0 0 (fun r h39 => ∃ x41, r = some (.int x41) ∧ Q (some (.int x41)) h39)))) ∧ (¬ (ah_f h26 a32 2) < 40 → ex_S yX11_refuse mX11_refuse d [.ref a_0, .int (-3)] h26 0 0 (fun r h42 => ∃ x43, r = some (.int x43) ∧ Q (some (.int x43)) h42)))) ∧ (x27 = 0 → ah_o h26 a_0 11 ∧ ex_S yX11_refuse mX11_refuse d [.ref a_0, .int (-2)] h26 0 0 (fun r h44 => ∃ x46, r = some (.int x46) ∧ Q (some (.int x46)) h44))))))))))))))))) : ex_G mX11_crossing (d + 1) 0 [.ref a_0, .int v_1, .int v_2, .int v_3, .int v_4, .int v_5, .retAddr 0] [] h bc bs Q := by
  refine ex_aload_n (q := 1) (x := a_0) dX11_crossing_0 rfl ?_
  refine ex_iload_n (q := 2) (x := v_1) dX11_crossing_1 rfl ?_
  have s2 := w.1
  replace w := w.2
  refine ex_callV (q := 5) (M := mX11_crossing) (hdd := Nat.le_refl _) (c := 11) (st := []) (bc := bc) (bs := bs) dX11_crossing_2 rfl cl_X11_134 wd_584 wd_4 s2 w ?_
  rintro r h1 ⟨x3, rfl, w⟩
  show ex_G mX11_crossing (d + 1) 5 [.ref a_0, .int v_1, .int v_2, .int v_3, .int v_4, .int v_5, .retAddr 0] [.int x3] h1 bc bs Q
  refine ex_if_eq (tgt := 38) (q := 8) dX11_crossing_5 (fun c4 => ?_) (fun c4 => ?_)
  · replace w := w.1 c4
    refine ex_aload_n (q := 39) (x := a_0) dX11_crossing_38 rfl ?_
    refine ex_bipush (q := 41) (v := (-2)) dX11_crossing_39 (by decide) ?_
    have s6 := w.1
    replace w := w.2
    refine ex_callV (q := 44) (M := mX11_crossing) (hdd := Nat.le_refl _) (c := 11) (st := []) (bc := bc) (bs := bs) dX11_crossing_41 rfl cl_X11_120 wd_557 wd_1 s6 w ?_
    rintro r h5 ⟨x7, rfl, w⟩
    show ex_G mX11_crossing (d + 1) 44 [.ref a_0, .int v_1, .int v_2, .int v_3, .int v_4, .int v_5, .retAddr 0] [.int x7] h5 bc bs Q
    exact ex_ireturn dX11_crossing_44 rfl (Or.inl rfl) w
  · replace w := w.2 c4
    refine ex_iload_n (q := 9) (x := v_2) dX11_crossing_8 rfl ?_
    refine ex_callS (q := 12) (M := mX11_crossing) (hdd := Nat.le_refl _) (st := []) (bc := bc) (bs := bs) dX11_crossing_9 rfl cl_X11_138 wd_587 w ?_
    rintro r h8 ⟨x9, rfl, w⟩
    show ex_G mX11_crossing (d + 1) 12 [.ref a_0, .int v_1, .int v_2, .int v_3, .int v_4, .int v_5, .retAddr 0] [.int x9] h8 bc bs Q
    refine ex_if_eq (tgt := 38) (q := 15) dX11_crossing_12 (fun c10 => ?_) (fun c10 => ?_)
    · replace w := w.1 c10
      refine ex_aload_n (q := 39) (x := a_0) dX11_crossing_38 rfl ?_
      refine ex_bipush (q := 41) (v := (-2)) dX11_crossing_39 (by decide) ?_
      have s12 := w.1
      replace w := w.2
      refine ex_callV (q := 44) (M := mX11_crossing) (hdd := Nat.le_refl _) (c := 11) (st := []) (bc := bc) (bs := bs) dX11_crossing_41 rfl cl_X11_120 wd_557 wd_1 s12 w ?_
      rintro r h11 ⟨x13, rfl, w⟩
      show ex_G mX11_crossing (d + 1) 44 [.ref a_0, .int v_1, .int v_2, .int v_3, .int v_4, .int v_5, .retAddr 0] [.int x13] h11 bc bs Q
      exact ex_ireturn dX11_crossing_44 rfl (Or.inl rfl) w
    · replace w := w.2 c10
      refine ex_iload_n (q := 16) (x := v_3) dX11_crossing_15 rfl ?_
      refine ex_callS (q := 19) (M := mX11_crossing) (hdd := Nat.le_refl _) (st := []) (bc := bc) (bs := bs) dX11_crossing_16 rfl cl_X11_138 wd_587 w ?_
      rintro r h14 ⟨x15, rfl, w⟩
      show ex_G mX11_crossing (d + 1) 19 [.ref a_0, .int v_1, .int v_2, .int v_3, .int v_4, .int v_5, .retAddr 0] [.int x15] h14 bc bs Q
      refine ex_if_eq (tgt := 38) (q := 22) dX11_crossing_19 (fun c16 => ?_) (fun c16 => ?_)
      · replace w := w.1 c16
        refine ex_aload_n (q := 39) (x := a_0) dX11_crossing_38 rfl ?_
        refine ex_bipush (q := 41) (v := (-2)) dX11_crossing_39 (by decide) ?_
        have s18 := w.1
        replace w := w.2
        refine ex_callV (q := 44) (M := mX11_crossing) (hdd := Nat.le_refl _) (c := 11) (st := []) (bc := bc) (bs := bs) dX11_crossing_41 rfl cl_X11_120 wd_557 wd_1 s18 w ?_
        rintro r h17 ⟨x19, rfl, w⟩
        show ex_G mX11_crossing (d + 1) 44 [.ref a_0, .int v_1, .int v_2, .int v_3, .int v_4, .int v_5, .retAddr 0] [.int x19] h17 bc bs Q
        exact ex_ireturn dX11_crossing_44 rfl (Or.inl rfl) w
      · replace w := w.2 c16
        refine ex_iload (q := 24) (x := v_4) dX11_crossing_22 rfl ?_
        refine ex_callS (q := 27) (M := mX11_crossing) (hdd := Nat.le_refl _) (st := []) (bc := bc) (bs := bs) dX11_crossing_24 rfl cl_X11_138 wd_587 w ?_
        rintro r h20 ⟨x21, rfl, w⟩
        show ex_G mX11_crossing (d + 1) 27 [.ref a_0, .int v_1, .int v_2, .int v_3, .int v_4, .int v_5, .retAddr 0] [.int x21] h20 bc bs Q
        refine ex_if_eq (tgt := 38) (q := 30) dX11_crossing_27 (fun c22 => ?_) (fun c22 => ?_)
        · replace w := w.1 c22
          refine ex_aload_n (q := 39) (x := a_0) dX11_crossing_38 rfl ?_
          refine ex_bipush (q := 41) (v := (-2)) dX11_crossing_39 (by decide) ?_
          have s24 := w.1
          replace w := w.2
          refine ex_callV (q := 44) (M := mX11_crossing) (hdd := Nat.le_refl _) (c := 11) (st := []) (bc := bc) (bs := bs) dX11_crossing_41 rfl cl_X11_120 wd_557 wd_1 s24 w ?_
          rintro r h23 ⟨x25, rfl, w⟩
          show ex_G mX11_crossing (d + 1) 44 [.ref a_0, .int v_1, .int v_2, .int v_3, .int v_4, .int v_5, .retAddr 0] [.int x25] h23 bc bs Q
          exact ex_ireturn dX11_crossing_44 rfl (Or.inl rfl) w
        · replace w := w.2 c22
          refine ex_iload (q := 32) (x := v_5) dX11_crossing_30 rfl ?_
          refine ex_callS (q := 35) (M := mX11_crossing) (hdd := Nat.le_refl _) (st := []) (bc := bc) (bs := bs) dX11_crossing_32 rfl cl_X11_138 wd_587 w ?_
          rintro r h26 ⟨x27, rfl, w⟩
          show ex_G mX11_crossing (d + 1) 35 [.ref a_0, .int v_1, .int v_2, .int v_3, .int v_4, .int v_5, .retAddr 0] [.int x27] h26 bc bs Q
          refine ex_if_ne (tgt := 45) (q := 38) dX11_crossing_35 (fun c28 => ?_) (fun c28 => ?_)
          · replace w := w.1 c28
            refine ex_aload_n (q := 46) (x := a_0) dX11_crossing_45 rfl ?_
            have s29 := w.1
            replace w := w.2
            obtain ⟨a30, ea30, w⟩ := w
            refine ex_getr (q := 49) dX11_crossing_46 fl_X11_11 s29 ea30 ?_
            refine ex_iload_n (q := 50) (x := v_1) dX11_crossing_49 rfl ?_
            have s31 := w.1
            replace w := w.2
            obtain ⟨a32, ea32, w⟩ := w
            refine ex_aald (q := 51) dX11_crossing_50 s31 ea32 ?_
            refine ex_astore (q := 53) (ls' := [.ref a_0, .int v_1, .int v_2, .int v_3, .int v_4, .int v_5, .ref a32]) dX11_crossing_51 rfl ?_
            refine ex_aload (q := 55) (x := a32) dX11_crossing_53 rfl ?_
            have s33 := w.1
            replace w := w.2
            refine ex_getf (q := 58) dX11_crossing_55 fl_X11_141 s33 ?_
            refine ex_bipush (q := 60) (v := 40) dX11_crossing_58 (by decide) ?_
            refine ex_icmp_lt (tgt := 70) (q := 63) dX11_crossing_60 (fun c34 => ?_) (fun c34 => ?_)
            · replace w := w.1 c34
              refine ex_aload (q := 72) (x := a32) dX11_crossing_70 rfl ?_
              refine ex_callV (q := 75) (M := mX11_crossing) (hdd := Nat.le_refl _) (c := 7) (st := []) (bc := bc) (bs := bs) dX11_crossing_72 rfl cl_X11_144 wd_590 wd_591 s33 w ?_
              rintro r h35 ⟨rfl, w⟩
              show ex_G mX11_crossing (d + 1) 75 [.ref a_0, .int v_1, .int v_2, .int v_3, .int v_4, .int v_5, .ref a32] [] h35 bc bs Q
              refine ex_aload (q := 77) (x := a32) dX11_crossing_75 rfl ?_
              refine ex_iload_n (q := 78) (x := v_2) dX11_crossing_77 rfl ?_
              refine ex_iload_n (q := 79) (x := v_3) dX11_crossing_78 rfl ?_
              refine ex_iload (q := 81) (x := v_4) dX11_crossing_79 rfl ?_
              refine ex_iload (q := 83) (x := v_5) dX11_crossing_81 rfl ?_
              have s37 := w.1
              replace w := w.2
              refine ex_callV (q := 86) (M := mX11_crossing) (hdd := Nat.le_refl _) (c := 7) (st := []) (bc := bc) (bs := bs) dX11_crossing_83 rfl cl_X11_147 wd_594 wd_595 s37 w ?_
              rintro r h36 ⟨rfl, w⟩
              show ex_G mX11_crossing (d + 1) 86 [.ref a_0, .int v_1, .int v_2, .int v_3, .int v_4, .int v_5, .ref a32] [] h36 bc bs Q
              refine ex_aload_n (q := 87) (x := a_0) dX11_crossing_86 rfl ?_
              refine ex_aload (q := 89) (x := a32) dX11_crossing_87 rfl ?_
              have s38 := w.1
              replace w := w.2
              refine ex_getf (q := 92) dX11_crossing_89 fl_X11_141 s38 ?_
              refine ex_iconst (q := 93) (v := 1) dX11_crossing_92 (by decide) ?_
              refine ex_isub (q := 94) dX11_crossing_93 ?_
              have s40 := w.1
              replace w := w.2
              refine ex_callV (q := 97) (M := mX11_crossing) (hdd := Nat.le_refl _) (c := 11) (st := []) (bc := bc) (bs := bs) dX11_crossing_94 rfl cl_X11_131 wd_576 wd_3 s40 w ?_
              rintro r h39 ⟨x41, rfl, w⟩
              show ex_G mX11_crossing (d + 1) 97 [.ref a_0, .int v_1, .int v_2, .int v_3, .int v_4, .int v_5, .ref a32] [.int x41] h39 bc bs Q
              exact ex_ireturn dX11_crossing_97 rfl (Or.inl rfl) w
            · replace w := w.2 c34
              refine ex_aload_n (q := 64) (x := a_0) dX11_crossing_63 rfl ?_
              refine ex_bipush (q := 66) (v := (-3)) dX11_crossing_64 (by decide) ?_
              refine ex_callV (q := 69) (M := mX11_crossing) (hdd := Nat.le_refl _) (c := 11) (st := []) (bc := bc) (bs := bs) dX11_crossing_66 rfl cl_X11_120 wd_557 wd_1 s29 w ?_
              rintro r h42 ⟨x43, rfl, w⟩
              show ex_G mX11_crossing (d + 1) 69 [.ref a_0, .int v_1, .int v_2, .int v_3, .int v_4, .int v_5, .ref a32] [.int x43] h42 bc bs Q
              exact ex_ireturn dX11_crossing_69 rfl (Or.inl rfl) w
          · replace w := w.2 c28
            refine ex_aload_n (q := 39) (x := a_0) dX11_crossing_38 rfl ?_
            refine ex_bipush (q := 41) (v := (-2)) dX11_crossing_39 (by decide) ?_
            have s45 := w.1
            replace w := w.2
            refine ex_callV (q := 44) (M := mX11_crossing) (hdd := Nat.le_refl _) (c := 11) (st := []) (bc := bc) (bs := bs) dX11_crossing_41 rfl cl_X11_120 wd_557 wd_1 s45 w ?_
            rintro r h44 ⟨x46, rfl, w⟩
            show ex_G mX11_crossing (d + 1) 44 [.ref a_0, .int v_1, .int v_2, .int v_3, .int v_4, .int v_5, .retAddr 0] [.int x46] h44 bc bs Q
            exact ex_ireturn dX11_crossing_44 rfl (Or.inl rfl) w

theorem X11_crossing_e {d bc bs : Nat} {h : AH} {Q : Option Value → AH → Prop} {a_0 : Nat} {v_1 : Int32} {v_2 : Int32} {v_3 : Int32} {v_4 : Int32} {v_5 : Int32} (w : ex_G mX11_crossing (d + 1) 0 [.ref a_0, .int v_1, .int v_2, .int v_3, .int v_4, .int v_5, .retAddr 0] [] h bc bs Q) : ex_S yX11_crossing mX11_crossing (d + 1) [.ref a_0, .int v_1, .int v_2, .int v_3, .int v_4, .int v_5] h bc bs Q :=
  ex_enter (plainFor_of_name (by decide +kernel)) ⟨rfl, rfl⟩ rfl rfl (Nat.le_of_ble_eq_true rfl) (ex_pad 1 w)

set_option maxRecDepth 100000 in
theorem X11_row_0 {d bc bs : Nat} {h : AH} {Q : Option Value → AH → Prop} {a_0 : Nat} {v_1 : Int32} {v_2 : Int32} {v_3 : Int32} (w : ah_o h a_0 11 ∧ ex_S yX11_hasPicture mX11_hasPicture (d + 1) [.ref a_0, .int v_1] h 0 0 (fun r h1 => ∃ x3, r = some (.int x3) ∧ ((x3 = 0 → ah_o h1 a_0 11 ∧ ex_S yX11_refuse mX11_refuse (d + 1) [.ref a_0, .int (-2)] h1 0 0 (fun r h5 => ∃ x7, r = some (.int x7) ∧ Q (some (.int x7)) h5)) ∧ (¬ x3 = 0 → ((v_3 < (-1) → ah_o h1 a_0 11 ∧ ex_S yX11_refuse mX11_refuse (d + 1) [.ref a_0, .int (-2)] h1 0 0 (fun r h9 => ∃ x11, r = some (.int x11) ∧ Q (some (.int x11)) h9)) ∧ (¬ v_3 < (-1) → ((v_3 ≤ 4 → ah_o h1 a_0 11 ∧ ∃ a14, ah_r h1 a_0 0 = some a14 ∧ ld3 h1 11 a14 v_1 ∧ ∃ a16, ah_q h1 a14 (Int32.toNatClampNeg v_1) = some a16 ∧ ah_o h1 a16 7 ∧ ex_S yX7_hasCrossing mX7_hasCrossing (d + 1) [.ref a16, .int v_2] h1 0 0 (fun r h17 => ∃ x19, r = some (.int x19) ∧ ((¬ x19 = 0 → ah_o h17 a16 7 ∧ ex_S yX7_forget mX7_forget (d + 1) [.ref a16] h17 0 0 (fun r h21 => r = none ∧ ah_o h21 a16 7 ∧ ex_S yX7_resize mX7_resize (d + 1) [.ref a16, .int v_2, .int v_3] h21 0 0 (fun r h23 => r = none ∧ ah_o h23 a_0 11 ∧ ex_S yX11_grant mX11_grant (d + 1) [.ref a_0, .int 1] h23 0 0 (fun r h25 => ∃ x27, r = some (.int x27) ∧ Q (some (.int x27)) h25)))) ∧ (x19 = 0 → ah_o h17 a_0 11 ∧ ex_S yX11_refuse mX11_refuse (d + 1) [.ref a_0, .int (-12)] h17 0 0 (fun r h28 => ∃ x30, r = some (.int x30) ∧ Q (some (.int x30)) h28))))) ∧ (¬ v_3 ≤ 4 → ah_o h1 a_0 11 ∧ ex_S yX11_refuse mX11_refuse (d + 1) [.ref a_0, .int (-2)] h1 0 0 (fun r h31 => ∃ x33, r = some (.int x33) ∧ Q (some (.int x33)) h31))))))))) : ex_G mX11_row (d + 2) 0 [.ref a_0, .int v_1, .int v_2, .int v_3, .retAddr 0] [] h bc bs Q := by
  refine ex_aload_n (q := 1) (x := a_0) dX11_row_0 rfl ?_
  refine ex_iload_n (q := 2) (x := v_1) dX11_row_1 rfl ?_
  have s2 := w.1
  replace w := w.2
  refine ex_callV (q := 5) (M := mX11_row) (hdd := Nat.le_refl _) (c := 11) (st := []) (bc := bc) (bs := bs) dX11_row_2 rfl cl_X11_134 wd_584 wd_4 s2 w ?_
  rintro r h1 ⟨x3, rfl, w⟩
  show ex_G mX11_row (d + 2) 5 [.ref a_0, .int v_1, .int v_2, .int v_3, .retAddr 0] [.int x3] h1 bc bs Q
  refine ex_if_eq (tgt := 18) (q := 8) dX11_row_5 (fun c4 => ?_) (fun c4 => ?_)
  · replace w := w.1 c4
    refine ex_aload_n (q := 19) (x := a_0) dX11_row_18 rfl ?_
    refine ex_bipush (q := 21) (v := (-2)) dX11_row_19 (by decide) ?_
    have s6 := w.1
    replace w := w.2
    refine ex_callV (q := 24) (M := mX11_row) (hdd := Nat.le_refl _) (c := 11) (st := []) (bc := bc) (bs := bs) dX11_row_21 rfl cl_X11_120 wd_557 wd_1 s6 w ?_
    rintro r h5 ⟨x7, rfl, w⟩
    show ex_G mX11_row (d + 2) 24 [.ref a_0, .int v_1, .int v_2, .int v_3, .retAddr 0] [.int x7] h5 bc bs Q
    exact ex_ireturn dX11_row_24 rfl (Or.inl rfl) w
  · replace w := w.2 c4
    refine ex_iload_n (q := 9) (x := v_3) dX11_row_8 rfl ?_
    refine ex_iconst (q := 10) (v := (-1)) dX11_row_9 (by decide) ?_
    refine ex_icmp_lt (tgt := 18) (q := 13) dX11_row_10 (fun c8 => ?_) (fun c8 => ?_)
    · replace w := w.1 c8
      refine ex_aload_n (q := 19) (x := a_0) dX11_row_18 rfl ?_
      refine ex_bipush (q := 21) (v := (-2)) dX11_row_19 (by decide) ?_
      have s10 := w.1
      replace w := w.2
      refine ex_callV (q := 24) (M := mX11_row) (hdd := Nat.le_refl _) (c := 11) (st := []) (bc := bc) (bs := bs) dX11_row_21 rfl cl_X11_120 wd_557 wd_1 s10 w ?_
      rintro r h9 ⟨x11, rfl, w⟩
      show ex_G mX11_row (d + 2) 24 [.ref a_0, .int v_1, .int v_2, .int v_3, .retAddr 0] [.int x11] h9 bc bs Q
      exact ex_ireturn dX11_row_24 rfl (Or.inl rfl) w
    · replace w := w.2 c8
      refine ex_iload_n (q := 14) (x := v_3) dX11_row_13 rfl ?_
      refine ex_iconst (q := 15) (v := 4) dX11_row_14 (by decide) ?_
      refine ex_icmp_le (tgt := 25) (q := 18) dX11_row_15 (fun c12 => ?_) (fun c12 => ?_)
      · replace w := w.1 c12
        refine ex_aload_n (q := 26) (x := a_0) dX11_row_25 rfl ?_
        have s13 := w.1
        replace w := w.2
        obtain ⟨a14, ea14, w⟩ := w
        refine ex_getr (q := 29) dX11_row_26 fl_X11_11 s13 ea14 ?_
        refine ex_iload_n (q := 30) (x := v_1) dX11_row_29 rfl ?_
        have s15 := w.1
        replace w := w.2
        obtain ⟨a16, ea16, w⟩ := w
        refine ex_aald (q := 31) dX11_row_30 s15 ea16 ?_
        refine ex_astore (q := 33) (ls' := [.ref a_0, .int v_1, .int v_2, .int v_3, .ref a16]) dX11_row_31 rfl ?_
        refine ex_aload (q := 35) (x := a16) dX11_row_33 rfl ?_
        refine ex_iload_n (q := 36) (x := v_2) dX11_row_35 rfl ?_
        have s18 := w.1
        replace w := w.2
        refine ex_callV (q := 39) (M := mX11_row) (hdd := Nat.le_refl _) (c := 7) (st := []) (bc := bc) (bs := bs) dX11_row_36 rfl cl_X11_151 wd_602 wd_603 s18 w ?_
        rintro r h17 ⟨x19, rfl, w⟩
        show ex_G mX11_row (d + 2) 39 [.ref a_0, .int v_1, .int v_2, .int v_3, .ref a16] [.int x19] h17 bc bs Q
        refine ex_if_ne (tgt := 49) (q := 42) dX11_row_39 (fun c20 => ?_) (fun c20 => ?_)
        · replace w := w.1 c20
          refine ex_aload (q := 51) (x := a16) dX11_row_49 rfl ?_
          have s22 := w.1
          replace w := w.2
          refine ex_callV (q := 54) (M := mX11_row) (hdd := Nat.le_refl _) (c := 7) (st := []) (bc := bc) (bs := bs) dX11_row_51 rfl cl_X11_144 wd_590 wd_591 s22 w ?_
          rintro r h21 ⟨rfl, w⟩
          show ex_G mX11_row (d + 2) 54 [.ref a_0, .int v_1, .int v_2, .int v_3, .ref a16] [] h21 bc bs Q
          refine ex_aload (q := 56) (x := a16) dX11_row_54 rfl ?_
          refine ex_iload_n (q := 57) (x := v_2) dX11_row_56 rfl ?_
          refine ex_iload_n (q := 58) (x := v_3) dX11_row_57 rfl ?_
          have s24 := w.1
          replace w := w.2
          refine ex_callV (q := 61) (M := mX11_row) (hdd := Nat.le_refl _) (c := 7) (st := []) (bc := bc) (bs := bs) dX11_row_58 rfl cl_X11_154 wd_606 wd_607 s24 w ?_
          rintro r h23 ⟨rfl, w⟩
          show ex_G mX11_row (d + 2) 61 [.ref a_0, .int v_1, .int v_2, .int v_3, .ref a16] [] h23 bc bs Q
          refine ex_aload_n (q := 62) (x := a_0) dX11_row_61 rfl ?_
          refine ex_iconst (q := 63) (v := 1) dX11_row_62 (by decide) ?_
          have s26 := w.1
          replace w := w.2
          refine ex_callV (q := 66) (M := mX11_row) (hdd := Nat.le_refl _) (c := 11) (st := []) (bc := bc) (bs := bs) dX11_row_63 rfl cl_X11_131 wd_576 wd_3 s26 w ?_
          rintro r h25 ⟨x27, rfl, w⟩
          show ex_G mX11_row (d + 2) 66 [.ref a_0, .int v_1, .int v_2, .int v_3, .ref a16] [.int x27] h25 bc bs Q
          exact ex_ireturn dX11_row_66 rfl (Or.inl rfl) w
        · replace w := w.2 c20
          refine ex_aload_n (q := 43) (x := a_0) dX11_row_42 rfl ?_
          refine ex_bipush (q := 45) (v := (-12)) dX11_row_43 (by decide) ?_
          have s29 := w.1
          replace w := w.2
          refine ex_callV (q := 48) (M := mX11_row) (hdd := Nat.le_refl _) (c := 11) (st := []) (bc := bc) (bs := bs) dX11_row_45 rfl cl_X11_120 wd_557 wd_1 s29 w ?_
          rintro r h28 ⟨x30, rfl, w⟩
          show ex_G mX11_row (d + 2) 48 [.ref a_0, .int v_1, .int v_2, .int v_3, .ref a16] [.int x30] h28 bc bs Q
          exact ex_ireturn dX11_row_48 rfl (Or.inl rfl) w
      · replace w := w.2 c12
        refine ex_aload_n (q := 19) (x := a_0) dX11_row_18 rfl ?_
        refine ex_bipush (q := 21) (v := (-2)) dX11_row_19 (by decide) ?_
        have s32 := w.1
        replace w := w.2
        refine ex_callV (q := 24) (M := mX11_row) (hdd := Nat.le_refl _) (c := 11) (st := []) (bc := bc) (bs := bs) dX11_row_21 rfl cl_X11_120 wd_557 wd_1 s32 w ?_
        rintro r h31 ⟨x33, rfl, w⟩
        show ex_G mX11_row (d + 2) 24 [.ref a_0, .int v_1, .int v_2, .int v_3, .retAddr 0] [.int x33] h31 bc bs Q
        exact ex_ireturn dX11_row_24 rfl (Or.inl rfl) w

theorem X11_row_e {d bc bs : Nat} {h : AH} {Q : Option Value → AH → Prop} {a_0 : Nat} {v_1 : Int32} {v_2 : Int32} {v_3 : Int32} (w : ex_G mX11_row (d + 2) 0 [.ref a_0, .int v_1, .int v_2, .int v_3, .retAddr 0] [] h bc bs Q) : ex_S yX11_row mX11_row (d + 2) [.ref a_0, .int v_1, .int v_2, .int v_3] h bc bs Q :=
  ex_enter (plainFor_of_name (by decide +kernel)) ⟨rfl, rfl⟩ rfl rfl (Nat.le_of_ble_eq_true rfl) (ex_pad 1 w)

set_option maxRecDepth 100000 in
theorem X11_whyOutOfReach_0 {d bc bs : Nat} {h : AH} {Q : Option Value → AH → Prop} {a_0 : Nat} {v_1 : Int32} {v_2 : Int32} (w : ah_o h a_0 7 ∧ ex_S yX7_hasCrossing mX7_hasCrossing d [.ref a_0, .int v_1] h 0 0 (fun r h1 => ∃ x3, r = some (.int x3) ∧ ((¬ x3 = 0 → ah_o h1 a_0 7 ∧ ∃ a6, ah_r h1 a_0 0 = some a6 ∧ ld0 h1 a6 v_1 ∧ ((0 ≤ (ah_i h1 a6 (Int32.toNatClampNeg v_1)) → ((v_2 < 0 → Q (some (.int (-12))) h1) ∧ (¬ v_2 < 0 → ((v_2 < (ah_i h1 a6 (Int32.toNatClampNeg v_1)) → Q (some (.int 0)) h1) ∧ (¬ v_2 < (ah_i h1 a6 (Int32.toNatClampNeg v_1)) → Q (some (.int (-12))) h1))))) ∧ (¬ 0 ≤ (ah_i h1 a6 (Int32.toNatClampNeg v_1)) → Q (some (.int (-11))) h1))) ∧ (x3 = 0 → Q (some (.int (-12))) h1)))) : ex_G mX11_whyOutOfReach (d + 1) 0 [.ref a_0, .int v_1, .int v_2] [] h bc bs Q := by
  refine ex_aload_n (q := 1) (x := a_0) dX11_whyOutOfReach_0 rfl ?_
  refine ex_iload_n (q := 2) (x := v_1) dX11_whyOutOfReach_1 rfl ?_
  have s2 := w.1
  replace w := w.2
  refine ex_callV (q := 5) (M := mX11_whyOutOfReach) (hdd := Nat.le_refl _) (c := 7) (st := []) (bc := bc) (bs := bs) dX11_whyOutOfReach_2 rfl cl_X11_151 wd_602 wd_603 s2 w ?_
  rintro r h1 ⟨x3, rfl, w⟩
  show ex_G mX11_whyOutOfReach (d + 1) 5 [.ref a_0, .int v_1, .int v_2] [.int x3] h1 bc bs Q
  refine ex_if_ne (tgt := 11) (q := 8) dX11_whyOutOfReach_5 (fun c4 => ?_) (fun c4 => ?_)
  · replace w := w.1 c4
    refine ex_aload_n (q := 12) (x := a_0) dX11_whyOutOfReach_11 rfl ?_
    have s5 := w.1
    replace w := w.2
    obtain ⟨a6, ea6, w⟩ := w
    refine ex_getr (q := 15) dX11_whyOutOfReach_12 fl_X11_158 s5 ea6 ?_
    refine ex_iload_n (q := 16) (x := v_1) dX11_whyOutOfReach_15 rfl ?_
    have s7 := w.1
    replace w := w.2
    refine ex_iald (q := 17) dX11_whyOutOfReach_16 s7 ?_
    refine ex_if_ge (tgt := 23) (q := 20) dX11_whyOutOfReach_17 (fun c8 => ?_) (fun c8 => ?_)
    · replace w := w.1 c8
      refine ex_iload_n (q := 24) (x := v_2) dX11_whyOutOfReach_23 rfl ?_
      refine ex_if_lt (tgt := 37) (q := 27) dX11_whyOutOfReach_24 (fun c9 => ?_) (fun c9 => ?_)
      · replace w := w.1 c9
        refine ex_bipush (q := 39) (v := (-12)) dX11_whyOutOfReach_37 (by decide) ?_
        refine ex_goto (tgt := 43) dX11_whyOutOfReach_39 ?_
        exact ex_ireturn dX11_whyOutOfReach_43 rfl (Or.inl rfl) w
      · replace w := w.2 c9
        refine ex_iload_n (q := 28) (x := v_2) dX11_whyOutOfReach_27 rfl ?_
        refine ex_aload_n (q := 29) (x := a_0) dX11_whyOutOfReach_28 rfl ?_
        refine ex_getr (q := 32) dX11_whyOutOfReach_29 fl_X11_158 s5 ea6 ?_
        refine ex_iload_n (q := 33) (x := v_1) dX11_whyOutOfReach_32 rfl ?_
        refine ex_iald (q := 34) dX11_whyOutOfReach_33 s7 ?_
        refine ex_icmp_lt (tgt := 42) (q := 37) dX11_whyOutOfReach_34 (fun c10 => ?_) (fun c10 => ?_)
        · replace w := w.1 c10
          refine ex_iconst (q := 43) (v := 0) dX11_whyOutOfReach_42 (by decide) ?_
          exact ex_ireturn dX11_whyOutOfReach_43 rfl (Or.inl rfl) w
        · replace w := w.2 c10
          refine ex_bipush (q := 39) (v := (-12)) dX11_whyOutOfReach_37 (by decide) ?_
          refine ex_goto (tgt := 43) dX11_whyOutOfReach_39 ?_
          exact ex_ireturn dX11_whyOutOfReach_43 rfl (Or.inl rfl) w
    · replace w := w.2 c8
      refine ex_bipush (q := 22) (v := (-11)) dX11_whyOutOfReach_20 (by decide) ?_
      exact ex_ireturn dX11_whyOutOfReach_22 rfl (Or.inl rfl) w
  · replace w := w.2 c4
    refine ex_bipush (q := 10) (v := (-12)) dX11_whyOutOfReach_8 (by decide) ?_
    exact ex_ireturn dX11_whyOutOfReach_10 rfl (Or.inl rfl) w

theorem X11_whyOutOfReach_e {d bc bs : Nat} {h : AH} {Q : Option Value → AH → Prop} {a_0 : Nat} {v_1 : Int32} {v_2 : Int32} (w : ex_G mX11_whyOutOfReach (d + 1) 0 [.ref a_0, .int v_1, .int v_2] [] h bc bs Q) : ex_S yX11_whyOutOfReach mX11_whyOutOfReach (d + 1) [.ref a_0, .int v_1, .int v_2] h bc bs Q :=
  ex_enter (plainFor_of_name (by decide +kernel)) ⟨rfl, rfl⟩ rfl rfl (Nat.le_of_ble_eq_true rfl) (ex_pad 0 w)

set_option maxRecDepth 100000 in
theorem X11_end_0 {d bc bs : Nat} {h : AH} {Q : Option Value → AH → Prop} {a_0 : Nat} {v_1 : Int32} {v_2 : Int32} {v_3 : Int32} (w : ah_o h a_0 11 ∧ ex_S yX11_hasPicture mX11_hasPicture (d + 1) [.ref a_0, .int v_1] h 0 0 (fun r h1 => ∃ x3, r = some (.int x3) ∧ ((¬ x3 = 0 → ah_o h1 a_0 11 ∧ ∃ a6, ah_r h1 a_0 0 = some a6 ∧ ld3 h1 11 a6 v_1 ∧ ∃ a8, ah_q h1 a6 (Int32.toNatClampNeg v_1) = some a8 ∧ ex_S yX11_whyOutOfReach mX11_whyOutOfReach (d + 1) [.ref a8, .int v_2, .int v_3] h1 0 0 (fun r h9 => ∃ x10, r = some (.int x10) ∧ ((x10 = 0 → ah_o h9 a_0 11 ∧ ∃ a13, ah_r h9 a_0 0 = some a13 ∧ ld3 h9 11 a13 v_1 ∧ ∃ a15, ah_q h9 a13 (Int32.toNatClampNeg v_1) = some a15 ∧ ah_o h9 a15 7 ∧ ∃ a17, ah_r h9 a15 1 = some a17 ∧ ld0 h9 a17 ((4 * v_2) + v_3) ∧ ex_S yX11_grant mX11_grant (d + 1) [.ref a_0, .int (ah_i h9 a17 (Int32.toNatClampNeg ((4 * v_2) + v_3)))] h9 0 0 (fun r h19 => ∃ x20, r = some (.int x20) ∧ Q (some (.int x20)) h19)) ∧ (¬ x10 = 0 → ah_o h9 a_0 11 ∧ ex_S yX11_refuse mX11_refuse (d + 1) [.ref a_0, .int x10] h9 0 0 (fun r h21 => ∃ x23, r = some (.int x23) ∧ Q (some (.int x23)) h21))))) ∧ (x3 = 0 → ah_o h1 a_0 11 ∧ ex_S yX11_refuse mX11_refuse (d + 1) [.ref a_0, .int (-2)] h1 0 0 (fun r h24 => ∃ x26, r = some (.int x26) ∧ Q (some (.int x26)) h24))))) : ex_G mX11_end (d + 2) 0 [.ref a_0, .int v_1, .int v_2, .int v_3, .retAddr 0] [] h bc bs Q := by
  refine ex_aload_n (q := 1) (x := a_0) dX11_end_0 rfl ?_
  refine ex_iload_n (q := 2) (x := v_1) dX11_end_1 rfl ?_
  have s2 := w.1
  replace w := w.2
  refine ex_callV (q := 5) (M := mX11_end) (hdd := Nat.le_refl _) (c := 11) (st := []) (bc := bc) (bs := bs) dX11_end_2 rfl cl_X11_134 wd_584 wd_4 s2 w ?_
  rintro r h1 ⟨x3, rfl, w⟩
  show ex_G mX11_end (d + 2) 5 [.ref a_0, .int v_1, .int v_2, .int v_3, .retAddr 0] [.int x3] h1 bc bs Q
  refine ex_if_ne (tgt := 15) (q := 8) dX11_end_5 (fun c4 => ?_) (fun c4 => ?_)
  · replace w := w.1 c4
    refine ex_aload_n (q := 16) (x := a_0) dX11_end_15 rfl ?_
    have s5 := w.1
    replace w := w.2
    obtain ⟨a6, ea6, w⟩ := w
    refine ex_getr (q := 19) dX11_end_16 fl_X11_11 s5 ea6 ?_
    refine ex_iload_n (q := 20) (x := v_1) dX11_end_19 rfl ?_
    have s7 := w.1
    replace w := w.2
    obtain ⟨a8, ea8, w⟩ := w
    refine ex_aald (q := 21) dX11_end_20 s7 ea8 ?_
    refine ex_iload_n (q := 22) (x := v_2) dX11_end_21 rfl ?_
    refine ex_iload_n (q := 23) (x := v_3) dX11_end_22 rfl ?_
    refine ex_callS (q := 26) (M := mX11_end) (hdd := Nat.le_refl _) (st := []) (bc := bc) (bs := bs) dX11_end_23 rfl cl_X11_161 wd_615 w ?_
    rintro r h9 ⟨x10, rfl, w⟩
    show ex_G mX11_end (d + 2) 26 [.ref a_0, .int v_1, .int v_2, .int v_3, .retAddr 0] [.int x10] h9 bc bs Q
    refine ex_istore (q := 28) (ls' := [.ref a_0, .int v_1, .int v_2, .int v_3, .int x10]) dX11_end_26 rfl ?_
    refine ex_iload (q := 30) (x := x10) dX11_end_28 rfl ?_
    refine ex_if_eq (tgt := 42) (q := 33) dX11_end_30 (fun c11 => ?_) (fun c11 => ?_)
    · replace w := w.1 c11
      refine ex_aload_n (q := 43) (x := a_0) dX11_end_42 rfl ?_
      refine ex_aload_n (q := 44) (x := a_0) dX11_end_43 rfl ?_
      have s12 := w.1
      replace w := w.2
      obtain ⟨a13, ea13, w⟩ := w
      refine ex_getr (q := 47) dX11_end_44 fl_X11_11 s12 ea13 ?_
      refine ex_iload_n (q := 48) (x := v_1) dX11_end_47 rfl ?_
      have s14 := w.1
      replace w := w.2
      obtain ⟨a15, ea15, w⟩ := w
      refine ex_aald (q := 49) dX11_end_48 s14 ea15 ?_
      have s16 := w.1
      replace w := w.2
      obtain ⟨a17, ea17, w⟩ := w
      refine ex_getr (q := 52) dX11_end_49 fl_X11_165 s16 ea17 ?_
      refine ex_iconst (q := 53) (v := 4) dX11_end_52 (by decide) ?_
      refine ex_iload_n (q := 54) (x := v_2) dX11_end_53 rfl ?_
      refine ex_imul (q := 55) dX11_end_54 ?_
      refine ex_iload_n (q := 56) (x := v_3) dX11_end_55 rfl ?_
      refine ex_iadd (q := 57) dX11_end_56 ?_
      have s18 := w.1
      replace w := w.2
      refine ex_iald (q := 58) dX11_end_57 s18 ?_
      refine ex_callV (q := 61) (M := mX11_end) (hdd := Nat.le_refl _) (c := 11) (st := []) (bc := bc) (bs := bs) dX11_end_58 rfl cl_X11_131 wd_576 wd_3 s12 w ?_
      rintro r h19 ⟨x20, rfl, w⟩
      show ex_G mX11_end (d + 2) 61 [.ref a_0, .int v_1, .int v_2, .int v_3, .int x10] [.int x20] h19 bc bs Q
      exact ex_ireturn dX11_end_61 rfl (Or.inl rfl) w
    · replace w := w.2 c11
      refine ex_aload_n (q := 34) (x := a_0) dX11_end_33 rfl ?_
      refine ex_iload (q := 36) (x := x10) dX11_end_34 rfl ?_
      have s22 := w.1
      replace w := w.2
      refine ex_callV (q := 39) (M := mX11_end) (hdd := Nat.le_refl _) (c := 11) (st := []) (bc := bc) (bs := bs) dX11_end_36 rfl cl_X11_120 wd_557 wd_1 s22 w ?_
      rintro r h21 ⟨x23, rfl, w⟩
      show ex_G mX11_end (d + 2) 39 [.ref a_0, .int v_1, .int v_2, .int v_3, .int x10] [.int x23] h21 bc bs Q
      refine ex_goto (tgt := 61) dX11_end_39 ?_
      exact ex_ireturn dX11_end_61 rfl (Or.inl rfl) w
  · replace w := w.2 c4
    refine ex_aload_n (q := 9) (x := a_0) dX11_end_8 rfl ?_
    refine ex_bipush (q := 11) (v := (-2)) dX11_end_9 (by decide) ?_
    have s25 := w.1
    replace w := w.2
    refine ex_callV (q := 14) (M := mX11_end) (hdd := Nat.le_refl _) (c := 11) (st := []) (bc := bc) (bs := bs) dX11_end_11 rfl cl_X11_120 wd_557 wd_1 s25 w ?_
    rintro r h24 ⟨x26, rfl, w⟩
    show ex_G mX11_end (d + 2) 14 [.ref a_0, .int v_1, .int v_2, .int v_3, .retAddr 0] [.int x26] h24 bc bs Q
    exact ex_ireturn dX11_end_14 rfl (Or.inl rfl) w

theorem X11_end_e {d bc bs : Nat} {h : AH} {Q : Option Value → AH → Prop} {a_0 : Nat} {v_1 : Int32} {v_2 : Int32} {v_3 : Int32} (w : ex_G mX11_end (d + 2) 0 [.ref a_0, .int v_1, .int v_2, .int v_3, .retAddr 0] [] h bc bs Q) : ex_S yX11_end mX11_end (d + 2) [.ref a_0, .int v_1, .int v_2, .int v_3] h bc bs Q :=
  ex_enter (plainFor_of_name (by decide +kernel)) ⟨rfl, rfl⟩ rfl rfl (Nat.le_of_ble_eq_true rfl) (ex_pad 1 w)

set_option maxRecDepth 100000 in
theorem X11_put_0 {d bc bs : Nat} {h : AH} {Q : Option Value → AH → Prop} {a_0 : Nat} {v_1 : Int32} {v_2 : Int32} {v_3 : Int32} {v_4 : Int32} (w : ah_o h a_0 11 ∧ ex_S yX11_hasPicture mX11_hasPicture (d + 1) [.ref a_0, .int v_1] h 0 0 (fun r h1 => ∃ x3, r = some (.int x3) ∧ ((x3 = 0 → ah_o h1 a_0 11 ∧ ex_S yX11_refuse mX11_refuse (d + 1) [.ref a_0, .int (-2)] h1 0 0 (fun r h5 => ∃ x7, r = some (.int x7) ∧ Q (some (.int x7)) h5)) ∧ (¬ x3 = 0 → ex_S yX11_isArc mX11_isArc (d + 1) [.int v_4] h1 0 0 (fun r h8 => ∃ x9, r = some (.int x9) ∧ ((¬ x9 = 0 → ah_o h8 a_0 11 ∧ ∃ a12, ah_r h8 a_0 0 = some a12 ∧ ld3 h8 11 a12 v_1 ∧ ∃ a14, ah_q h8 a12 (Int32.toNatClampNeg v_1) = some a14 ∧ ex_S yX11_whyOutOfReach mX11_whyOutOfReach (d + 1) [.ref a14, .int v_2, .int v_3] h8 0 0 (fun r h15 => ∃ x16, r = some (.int x16) ∧ ((x16 = 0 → ah_o h15 a_0 11 ∧ ∃ a19, ah_r h15 a_0 0 = some a19 ∧ ld3 h15 11 a19 v_1 ∧ ∃ a21, ah_q h15 a19 (Int32.toNatClampNeg v_1) = some a21 ∧ ah_o h15 a21 7 ∧ ex_S yX7_forget mX7_forget (d + 1) [.ref a21] h15 0 0 (fun r h22 => r = none ∧ ah_o h22 a_0 11 ∧ ∃ a25, ah_r h22 a_0 0 = some a25 ∧ ld3 h22 11 a25 v_1 ∧ ∃ a27, ah_q h22 a25 (Int32.toNatClampNeg v_1) = some a27 ∧ ah_o h22 a27 7 ∧ ∃ a29, ah_r h22 a27 1 = some a29 ∧ st0 h22 a29 ((4 * v_2) + v_3) ∧ ∀ h30, h30 = ah_si h22 a29 (Int32.toNatClampNeg ((4 * v_2) + v_3)) v_4 → ex_S yX11_grant mX11_grant (d + 1) [.ref a_0, .int 1] h30 0 0 (fun r h32 => ∃ x33, r = some (.int x33) ∧ Q (some (.int x33)) h32))) ∧ (¬ x16 = 0 → ah_o h15 a_0 11 ∧ ex_S yX11_refuse mX11_refuse (d + 1) [.ref a_0, .int x16] h15 0 0 (fun r h34 => ∃ x36, r = some (.int x36) ∧ Q (some (.int x36)) h34))))) ∧ (x9 = 0 → ah_o h8 a_0 11 ∧ ex_S yX11_refuse mX11_refuse (d + 1) [.ref a_0, .int (-2)] h8 0 0 (fun r h37 => ∃ x39, r = some (.int x39) ∧ Q (some (.int x39)) h37)))))))) : ex_G mX11_put (d + 2) 0 [.ref a_0, .int v_1, .int v_2, .int v_3, .int v_4, .retAddr 0] [] h bc bs Q := by
  refine ex_aload_n (q := 1) (x := a_0) dX11_put_0 rfl ?_
  refine ex_iload_n (q := 2) (x := v_1) dX11_put_1 rfl ?_
  have s2 := w.1
  replace w := w.2
  refine ex_callV (q := 5) (M := mX11_put) (hdd := Nat.le_refl _) (c := 11) (st := []) (bc := bc) (bs := bs) dX11_put_2 rfl cl_X11_134 wd_584 wd_4 s2 w ?_
  rintro r h1 ⟨x3, rfl, w⟩
  show ex_G mX11_put (d + 2) 5 [.ref a_0, .int v_1, .int v_2, .int v_3, .int v_4, .retAddr 0] [.int x3] h1 bc bs Q
  refine ex_if_eq (tgt := 16) (q := 8) dX11_put_5 (fun c4 => ?_) (fun c4 => ?_)
  · replace w := w.1 c4
    refine ex_aload_n (q := 17) (x := a_0) dX11_put_16 rfl ?_
    refine ex_bipush (q := 19) (v := (-2)) dX11_put_17 (by decide) ?_
    have s6 := w.1
    replace w := w.2
    refine ex_callV (q := 22) (M := mX11_put) (hdd := Nat.le_refl _) (c := 11) (st := []) (bc := bc) (bs := bs) dX11_put_19 rfl cl_X11_120 wd_557 wd_1 s6 w ?_
    rintro r h5 ⟨x7, rfl, w⟩
    show ex_G mX11_put (d + 2) 22 [.ref a_0, .int v_1, .int v_2, .int v_3, .int v_4, .retAddr 0] [.int x7] h5 bc bs Q
    exact ex_ireturn dX11_put_22 rfl (Or.inl rfl) w
  · replace w := w.2 c4
    refine ex_iload (q := 10) (x := v_4) dX11_put_8 rfl ?_
    refine ex_callS (q := 13) (M := mX11_put) (hdd := Nat.le_refl _) (st := []) (bc := bc) (bs := bs) dX11_put_10 rfl cl_X11_138 wd_587 w ?_
    rintro r h8 ⟨x9, rfl, w⟩
    show ex_G mX11_put (d + 2) 13 [.ref a_0, .int v_1, .int v_2, .int v_3, .int v_4, .retAddr 0] [.int x9] h8 bc bs Q
    refine ex_if_ne (tgt := 23) (q := 16) dX11_put_13 (fun c10 => ?_) (fun c10 => ?_)
    · replace w := w.1 c10
      refine ex_aload_n (q := 24) (x := a_0) dX11_put_23 rfl ?_
      have s11 := w.1
      replace w := w.2
      obtain ⟨a12, ea12, w⟩ := w
      refine ex_getr (q := 27) dX11_put_24 fl_X11_11 s11 ea12 ?_
      refine ex_iload_n (q := 28) (x := v_1) dX11_put_27 rfl ?_
      have s13 := w.1
      replace w := w.2
      obtain ⟨a14, ea14, w⟩ := w
      refine ex_aald (q := 29) dX11_put_28 s13 ea14 ?_
      refine ex_iload_n (q := 30) (x := v_2) dX11_put_29 rfl ?_
      refine ex_iload_n (q := 31) (x := v_3) dX11_put_30 rfl ?_
      refine ex_callS (q := 34) (M := mX11_put) (hdd := Nat.le_refl _) (st := []) (bc := bc) (bs := bs) dX11_put_31 rfl cl_X11_161 wd_615 w ?_
      rintro r h15 ⟨x16, rfl, w⟩
      show ex_G mX11_put (d + 2) 34 [.ref a_0, .int v_1, .int v_2, .int v_3, .int v_4, .retAddr 0] [.int x16] h15 bc bs Q
      refine ex_istore (q := 36) (ls' := [.ref a_0, .int v_1, .int v_2, .int v_3, .int v_4, .int x16]) dX11_put_34 rfl ?_
      refine ex_iload (q := 38) (x := x16) dX11_put_36 rfl ?_
      refine ex_if_eq (tgt := 48) (q := 41) dX11_put_38 (fun c17 => ?_) (fun c17 => ?_)
      · replace w := w.1 c17
        refine ex_aload_n (q := 49) (x := a_0) dX11_put_48 rfl ?_
        have s18 := w.1
        replace w := w.2
        obtain ⟨a19, ea19, w⟩ := w
        refine ex_getr (q := 52) dX11_put_49 fl_X11_11 s18 ea19 ?_
        refine ex_iload_n (q := 53) (x := v_1) dX11_put_52 rfl ?_
        have s20 := w.1
        replace w := w.2
        obtain ⟨a21, ea21, w⟩ := w
        refine ex_aald (q := 54) dX11_put_53 s20 ea21 ?_
        have s23 := w.1
        replace w := w.2
        refine ex_callV (q := 57) (M := mX11_put) (hdd := Nat.le_refl _) (c := 7) (st := []) (bc := bc) (bs := bs) dX11_put_54 rfl cl_X11_144 wd_590 wd_591 s23 w ?_
        rintro r h22 ⟨rfl, w⟩
        show ex_G mX11_put (d + 2) 57 [.ref a_0, .int v_1, .int v_2, .int v_3, .int v_4, .int x16] [] h22 bc bs Q
        refine ex_aload_n (q := 58) (x := a_0) dX11_put_57 rfl ?_
        have s24 := w.1
        replace w := w.2
        obtain ⟨a25, ea25, w⟩ := w
        refine ex_getr (q := 61) dX11_put_58 fl_X11_11 s24 ea25 ?_
        refine ex_iload_n (q := 62) (x := v_1) dX11_put_61 rfl ?_
        have s26 := w.1
        replace w := w.2
        obtain ⟨a27, ea27, w⟩ := w
        refine ex_aald (q := 63) dX11_put_62 s26 ea27 ?_
        have s28 := w.1
        replace w := w.2
        obtain ⟨a29, ea29, w⟩ := w
        refine ex_getr (q := 66) dX11_put_63 fl_X11_165 s28 ea29 ?_
        refine ex_iconst (q := 67) (v := 4) dX11_put_66 (by decide) ?_
        refine ex_iload_n (q := 68) (x := v_2) dX11_put_67 rfl ?_
        refine ex_imul (q := 69) dX11_put_68 ?_
        refine ex_iload_n (q := 70) (x := v_3) dX11_put_69 rfl ?_
        refine ex_iadd (q := 71) dX11_put_70 ?_
        refine ex_iload (q := 73) (x := v_4) dX11_put_71 rfl ?_
        have s31 := w.1
        replace w := w.2
        refine ex_iast (q := 74) dX11_put_73 s31 ?_
        refine ex_nmh (fun h30 eh30 => ?_)
        replace w := w h30 eh30
        refine ex_aload_n (q := 75) (x := a_0) dX11_put_74 rfl ?_
        refine ex_iconst (q := 76) (v := 1) dX11_put_75 (by decide) ?_
        refine ex_callV (q := 79) (M := mX11_put) (hdd := Nat.le_refl _) (c := 11) (st := []) (bc := bc) (bs := bs) dX11_put_76 rfl cl_X11_131 wd_576 wd_3 (by rw [eh30]; exact s24) w ?_
        rintro r h32 ⟨x33, rfl, w⟩
        show ex_G mX11_put (d + 2) 79 [.ref a_0, .int v_1, .int v_2, .int v_3, .int v_4, .int x16] [.int x33] h32 bc bs Q
        exact ex_ireturn dX11_put_79 rfl (Or.inl rfl) w
      · replace w := w.2 c17
        refine ex_aload_n (q := 42) (x := a_0) dX11_put_41 rfl ?_
        refine ex_iload (q := 44) (x := x16) dX11_put_42 rfl ?_
        have s35 := w.1
        replace w := w.2
        refine ex_callV (q := 47) (M := mX11_put) (hdd := Nat.le_refl _) (c := 11) (st := []) (bc := bc) (bs := bs) dX11_put_44 rfl cl_X11_120 wd_557 wd_1 s35 w ?_
        rintro r h34 ⟨x36, rfl, w⟩
        show ex_G mX11_put (d + 2) 47 [.ref a_0, .int v_1, .int v_2, .int v_3, .int v_4, .int x16] [.int x36] h34 bc bs Q
        exact ex_ireturn dX11_put_47 rfl (Or.inl rfl) w
    · replace w := w.2 c10
      refine ex_aload_n (q := 17) (x := a_0) dX11_put_16 rfl ?_
      refine ex_bipush (q := 19) (v := (-2)) dX11_put_17 (by decide) ?_
      have s38 := w.1
      replace w := w.2
      refine ex_callV (q := 22) (M := mX11_put) (hdd := Nat.le_refl _) (c := 11) (st := []) (bc := bc) (bs := bs) dX11_put_19 rfl cl_X11_120 wd_557 wd_1 s38 w ?_
      rintro r h37 ⟨x39, rfl, w⟩
      show ex_G mX11_put (d + 2) 22 [.ref a_0, .int v_1, .int v_2, .int v_3, .int v_4, .retAddr 0] [.int x39] h37 bc bs Q
      exact ex_ireturn dX11_put_22 rfl (Or.inl rfl) w

theorem X11_put_e {d bc bs : Nat} {h : AH} {Q : Option Value → AH → Prop} {a_0 : Nat} {v_1 : Int32} {v_2 : Int32} {v_3 : Int32} {v_4 : Int32} (w : ex_G mX11_put (d + 2) 0 [.ref a_0, .int v_1, .int v_2, .int v_3, .int v_4, .retAddr 0] [] h bc bs Q) : ex_S yX11_put mX11_put (d + 2) [.ref a_0, .int v_1, .int v_2, .int v_3, .int v_4] h bc bs Q :=
  ex_enter (plainFor_of_name (by decide +kernel)) ⟨rfl, rfl⟩ rfl rfl (Nat.le_of_ble_eq_true rfl) (ex_pad 1 w)

set_option maxRecDepth 100000 in
theorem X11_reaches_0 {d bc bs : Nat} {h : AH} {Q : Option Value → AH → Prop} {v_0 : Int32} {v_1 : Int32} {v_2 : Int32} (w : ((v_1 < 0 → Q (some (.int 0)) h) ∧ (¬ v_1 < 0 → ((v_2 < 0 → Q (some (.int 0)) h) ∧ (¬ v_2 < 0 → ((v_0 < v_1 → Q (some (.int 0)) h) ∧ (¬ v_0 < v_1 → (((v_0 - v_1) < v_2 → Q (some (.int 0)) h) ∧ (¬ (v_0 - v_1) < v_2 → Q (some (.int 1)) h))))))))) : ex_G mX11_reaches d 0 [.int v_0, .int v_1, .int v_2] [] h bc bs Q := by
  refine ex_iload_n (q := 1) (x := v_1) dX11_reaches_0 rfl ?_
  refine ex_if_lt (tgt := 24) (q := 4) dX11_reaches_1 (fun c1 => ?_) (fun c1 => ?_)
  · replace w := w.1 c1
    refine ex_iconst (q := 25) (v := 0) dX11_reaches_24 (by decide) ?_
    exact ex_ireturn dX11_reaches_25 rfl (Or.inr ⟨rfl, Or.inl rfl⟩) w
  · replace w := w.2 c1
    refine ex_iload_n (q := 5) (x := v_2) dX11_reaches_4 rfl ?_
    refine ex_if_lt (tgt := 24) (q := 8) dX11_reaches_5 (fun c2 => ?_) (fun c2 => ?_)
    · replace w := w.1 c2
      refine ex_iconst (q := 25) (v := 0) dX11_reaches_24 (by decide) ?_
      exact ex_ireturn dX11_reaches_25 rfl (Or.inr ⟨rfl, Or.inl rfl⟩) w
    · replace w := w.2 c2
      refine ex_iload_n (q := 9) (x := v_1) dX11_reaches_8 rfl ?_
      refine ex_iload_n (q := 10) (x := v_0) dX11_reaches_9 rfl ?_
      refine ex_icmp_gt (tgt := 24) (q := 13) dX11_reaches_10 (fun c3 => ?_) (fun c3 => ?_)
      · replace w := w.1 c3
        refine ex_iconst (q := 25) (v := 0) dX11_reaches_24 (by decide) ?_
        exact ex_ireturn dX11_reaches_25 rfl (Or.inr ⟨rfl, Or.inl rfl⟩) w
      · replace w := w.2 c3
        refine ex_iload_n (q := 14) (x := v_2) dX11_reaches_13 rfl ?_
        refine ex_iload_n (q := 15) (x := v_0) dX11_reaches_14 rfl ?_
        refine ex_iload_n (q := 16) (x := v_1) dX11_reaches_15 rfl ?_
        refine ex_isub (q := 17) dX11_reaches_16 ?_
        refine ex_icmp_gt (tgt := 24) (q := 20) dX11_reaches_17 (fun c4 => ?_) (fun c4 => ?_)
        · replace w := w.1 c4
          refine ex_iconst (q := 25) (v := 0) dX11_reaches_24 (by decide) ?_
          exact ex_ireturn dX11_reaches_25 rfl (Or.inr ⟨rfl, Or.inl rfl⟩) w
        · replace w := w.2 c4
          refine ex_iconst (q := 21) (v := 1) dX11_reaches_20 (by decide) ?_
          refine ex_goto (tgt := 25) dX11_reaches_21 ?_
          exact ex_ireturn dX11_reaches_25 rfl (Or.inr ⟨rfl, Or.inr rfl⟩) w

theorem X11_reaches_e {d bc bs : Nat} {h : AH} {Q : Option Value → AH → Prop} {v_0 : Int32} {v_1 : Int32} {v_2 : Int32} (w : ex_G mX11_reaches d 0 [.int v_0, .int v_1, .int v_2] [] h bc bs Q) : ex_S yX11_reaches mX11_reaches d [.int v_0, .int v_1, .int v_2] h bc bs Q :=
  ex_enter (plainFor_of_name (by decide +kernel)) ⟨rfl, rfl⟩ rfl rfl (Nat.le_of_ble_eq_true rfl) (ex_pad 0 w)

set_option maxRecDepth 100000 in
theorem X11_copy_0 {d bc bs : Nat} {h : AH} {Q : Option Value → AH → Prop} {a_0 : Nat} {v_1 : Int32} {v_2 : Int32} {v_3 : Int32} {v_4 : Int32} {v_5 : Int32} {v_6 : Int32} {v_7 : Int32} (w : ah_o h a_0 11 ∧ ex_S yX11_hasPicture mX11_hasPicture d [.ref a_0, .int v_1] h 0 0 (fun r h1 => ∃ x3, r = some (.int x3) ∧ ((x3 = 0 → ah_o h1 a_0 11 ∧ ex_S yX11_refuse mX11_refuse d [.ref a_0, .int (-2)] h1 0 0 (fun r h5 => ∃ x7, r = some (.int x7) ∧ Q (some (.int x7)) h5)) ∧ (¬ x3 = 0 → ah_o h1 a_0 11 ∧ ex_S yX11_hasPicture mX11_hasPicture d [.ref a_0, .int v_4] h1 0 0 (fun r h8 => ∃ x10, r = some (.int x10) ∧ ((¬ x10 = 0 → ah_o h8 a_0 11 ∧ ∃ a13, ah_r h8 a_0 0 = some a13 ∧ ld3 h8 11 a13 v_1 ∧ ∃ a15, ah_q h8 a13 (Int32.toNatClampNeg v_1) = some a15 ∧ ld3 h8 11 a13 v_4 ∧ ∃ a17, ah_q h8 a13 (Int32.toNatClampNeg v_4) = some a17 ∧ ah_o h8 a15 7 ∧ ex_S yX7_hasCrossing mX7_hasCrossing d [.ref a15, .int v_2] h8 0 0 (fun r h18 => ∃ x20, r = some (.int x20) ∧ ((x20 = 0 → ah_o h18 a_0 11 ∧ ex_S yX11_refuse mX11_refuse d [.ref a_0, .int (-12)] h18 0 0 (fun r h22 => ∃ x24, r = some (.int x24) ∧ Q (some (.int x24)) h22)) ∧ (¬ x20 = 0 → ah_o h18 a17 7 ∧ ex_S yX7_hasCrossing mX7_hasCrossing d [.ref a17, .int v_5] h18 0 0 (fun r h25 => ∃ x27, r = some (.int x27) ∧ ((¬ x27 = 0 → ah_o h25 a15 7 ∧ ∃ a30, ah_r h25 a15 0 = some a30 ∧ ld0 h25 a30 v_2 ∧ (((ah_i h25 a30 (Int32.toNatClampNeg v_2)) < 0 → ah_o h25 a_0 11 ∧ ex_S yX11_refuse mX11_refuse d [.ref a_0, .int (-11)] h25 0 0 (fun r h33 => ∃ x35, r = some (.int x35) ∧ Q (some (.int x35)) h33)) ∧ (¬ (ah_i h25 a30 (Int32.toNatClampNeg v_2)) < 0 → ah_o h25 a17 7 ∧ ∃ a37, ah_r h25 a17 0 = some a37 ∧ ld0 h25 a37 v_5 ∧ ((0 ≤ (ah_i h25 a37 (Int32.toNatClampNeg v_5)) → ex_S yX11_reaches mX11_reaches d [.int (ah_i h25 a30 (Int32.toNatClampNeg v_2)), .int v_3, .int v_7] h25 0 0 (fun r h40 => ∃ x41, r = some (.int x41) ∧ ((x41 = 0 → ah_o h40 a_0 11 ∧ ex_S yX11_refuse mX11_refuse d [.ref a_0, .int (-12)] h40 0 0 (fun r h43 => ∃ x45, r = some (.int x45) ∧ Q (some (.int x45)) h43)) ∧ (¬ x41 = 0 → ah_o h40 a17 7 ∧ ∃ a47, ah_r h40 a17 0 = some a47 ∧ ld0 h40 a47 v_5 ∧ ex_S yX11_reaches mX11_reaches d [.int (ah_i h40 a47 (Int32.toNatClampNeg v_5)), .int v_6, .int v_7] h40 0 0 (fun r h49 => ∃ x50, r = some (.int x50) ∧ ((¬ x50 = 0 → ah_o h49 a17 7 ∧ ex_S yX7_forget mX7_forget d [.ref a17] h49 0 0 (fun r h52 => r = none ∧ ah_o h52 a15 7 ∧ ∃ a55, ah_r h52 a15 1 = some a55 ∧ ah_o h52 a17 7 ∧ ∃ a57, ah_r h52 a17 1 = some a57 ∧ cp_ h52 0 a55 a57 ((4 * v_2) + v_3) ((4 * v_5) + v_6) v_7 ∧ ∀ h59, h59 = ah_wi h52 a57 (va_cpy (ah_i h52 a55) (ah_i h52 a57) (Int32.toNatClampNeg ((4 * v_2) + v_3)) (Int32.toNatClampNeg ((4 * v_5) + v_6)) (Int32.toNatClampNeg v_7)) → ah_o h59 a_0 11 ∧ ex_S yX11_grant mX11_grant d [.ref a_0, .int 1] h59 0 0 (fun r h60 => ∃ x62, r = some (.int x62) ∧ Q (some (.int x62)) h60))) ∧ (x50 = 0 → ah_o h49 a_0 11 ∧ ex_S yX11_refuse mX11_refuse d [.ref a_0, .int (-12)] h49 0 0 (fun r h63 => ∃ x65, r = some (.int x65) ∧ Q (some (.int x65)) h63)))))))) ∧ (¬ 0 ≤ (ah_i h25 a37 (Int32.toNatClampNeg v_5)) → ah_o h25 a_0 11 ∧ ex_S yX11_refuse mX11_refuse d [.ref a_0, .int (-11)] h25 0 0 (fun r h66 => ∃ x68, r = some (.int x68) ∧ Q (some (.int x68)) h66)))))) ∧ (x27 = 0 → ah_o h25 a_0 11 ∧ ex_S yX11_refuse mX11_refuse d [.ref a_0, .int (-12)] h25 0 0 (fun r h69 => ∃ x71, r = some (.int x71) ∧ Q (some (.int x71)) h69)))))))) ∧ (x10 = 0 → ah_o h8 a_0 11 ∧ ex_S yX11_refuse mX11_refuse d [.ref a_0, .int (-2)] h8 0 0 (fun r h72 => ∃ x74, r = some (.int x74) ∧ Q (some (.int x74)) h72)))))))) : ex_G mX11_copy (d + 1) 0 [.ref a_0, .int v_1, .int v_2, .int v_3, .int v_4, .int v_5, .int v_6, .int v_7, .retAddr 0, .retAddr 0] [] h bc bs Q := by
  refine ex_aload_n (q := 1) (x := a_0) dX11_copy_0 rfl ?_
  refine ex_iload_n (q := 2) (x := v_1) dX11_copy_1 rfl ?_
  have s2 := w.1
  replace w := w.2
  refine ex_callV (q := 5) (M := mX11_copy) (hdd := Nat.le_refl _) (c := 11) (st := []) (bc := bc) (bs := bs) dX11_copy_2 rfl cl_X11_134 wd_584 wd_4 s2 w ?_
  rintro r h1 ⟨x3, rfl, w⟩
  show ex_G mX11_copy (d + 1) 5 [.ref a_0, .int v_1, .int v_2, .int v_3, .int v_4, .int v_5, .int v_6, .int v_7, .retAddr 0, .retAddr 0] [.int x3] h1 bc bs Q
  refine ex_if_eq (tgt := 17) (q := 8) dX11_copy_5 (fun c4 => ?_) (fun c4 => ?_)
  · replace w := w.1 c4
    refine ex_aload_n (q := 18) (x := a_0) dX11_copy_17 rfl ?_
    refine ex_bipush (q := 20) (v := (-2)) dX11_copy_18 (by decide) ?_
    have s6 := w.1
    replace w := w.2
    refine ex_callV (q := 23) (M := mX11_copy) (hdd := Nat.le_refl _) (c := 11) (st := []) (bc := bc) (bs := bs) dX11_copy_20 rfl cl_X11_120 wd_557 wd_1 s6 w ?_
    rintro r h5 ⟨x7, rfl, w⟩
    show ex_G mX11_copy (d + 1) 23 [.ref a_0, .int v_1, .int v_2, .int v_3, .int v_4, .int v_5, .int v_6, .int v_7, .retAddr 0, .retAddr 0] [.int x7] h5 bc bs Q
    exact ex_ireturn dX11_copy_23 rfl (Or.inl rfl) w
  · replace w := w.2 c4
    refine ex_aload_n (q := 9) (x := a_0) dX11_copy_8 rfl ?_
    refine ex_iload (q := 11) (x := v_4) dX11_copy_9 rfl ?_
    have s9 := w.1
    replace w := w.2
    refine ex_callV (q := 14) (M := mX11_copy) (hdd := Nat.le_refl _) (c := 11) (st := []) (bc := bc) (bs := bs) dX11_copy_11 rfl cl_X11_134 wd_584 wd_4 s9 w ?_
    rintro r h8 ⟨x10, rfl, w⟩
    show ex_G mX11_copy (d + 1) 14 [.ref a_0, .int v_1, .int v_2, .int v_3, .int v_4, .int v_5, .int v_6, .int v_7, .retAddr 0, .retAddr 0] [.int x10] h8 bc bs Q
    refine ex_if_ne (tgt := 24) (q := 17) dX11_copy_14 (fun c11 => ?_) (fun c11 => ?_)
    · replace w := w.1 c11
      refine ex_aload_n (q := 25) (x := a_0) dX11_copy_24 rfl ?_
      have s12 := w.1
      replace w := w.2
      obtain ⟨a13, ea13, w⟩ := w
      refine ex_getr (q := 28) dX11_copy_25 fl_X11_11 s12 ea13 ?_
      refine ex_iload_n (q := 29) (x := v_1) dX11_copy_28 rfl ?_
      have s14 := w.1
      replace w := w.2
      obtain ⟨a15, ea15, w⟩ := w
      refine ex_aald (q := 30) dX11_copy_29 s14 ea15 ?_
      refine ex_astore (q := 32) (ls' := [.ref a_0, .int v_1, .int v_2, .int v_3, .int v_4, .int v_5, .int v_6, .int v_7, .ref a15, .retAddr 0]) dX11_copy_30 rfl ?_
      refine ex_aload_n (q := 33) (x := a_0) dX11_copy_32 rfl ?_
      refine ex_getr (q := 36) dX11_copy_33 fl_X11_11 s12 ea13 ?_
      refine ex_iload (q := 38) (x := v_4) dX11_copy_36 rfl ?_
      have s16 := w.1
      replace w := w.2
      obtain ⟨a17, ea17, w⟩ := w
      refine ex_aald (q := 39) dX11_copy_38 s16 ea17 ?_
      refine ex_astore (q := 41) (ls' := [.ref a_0, .int v_1, .int v_2, .int v_3, .int v_4, .int v_5, .int v_6, .int v_7, .ref a15, .ref a17]) dX11_copy_39 rfl ?_
      refine ex_aload (q := 43) (x := a15) dX11_copy_41 rfl ?_
      refine ex_iload_n (q := 44) (x := v_2) dX11_copy_43 rfl ?_
      have s19 := w.1
      replace w := w.2
      refine ex_callV (q := 47) (M := mX11_copy) (hdd := Nat.le_refl _) (c := 7) (st := []) (bc := bc) (bs := bs) dX11_copy_44 rfl cl_X11_151 wd_602 wd_603 s19 w ?_
      rintro r h18 ⟨x20, rfl, w⟩
      show ex_G mX11_copy (d + 1) 47 [.ref a_0, .int v_1, .int v_2, .int v_3, .int v_4, .int v_5, .int v_6, .int v_7, .ref a15, .ref a17] [.int x20] h18 bc bs Q
      refine ex_if_eq (tgt := 60) (q := 50) dX11_copy_47 (fun c21 => ?_) (fun c21 => ?_)
      · replace w := w.1 c21
        refine ex_aload_n (q := 61) (x := a_0) dX11_copy_60 rfl ?_
        refine ex_bipush (q := 63) (v := (-12)) dX11_copy_61 (by decide) ?_
        have s23 := w.1
        replace w := w.2
        refine ex_callV (q := 66) (M := mX11_copy) (hdd := Nat.le_refl _) (c := 11) (st := []) (bc := bc) (bs := bs) dX11_copy_63 rfl cl_X11_120 wd_557 wd_1 s23 w ?_
        rintro r h22 ⟨x24, rfl, w⟩
        show ex_G mX11_copy (d + 1) 66 [.ref a_0, .int v_1, .int v_2, .int v_3, .int v_4, .int v_5, .int v_6, .int v_7, .ref a15, .ref a17] [.int x24] h22 bc bs Q
        exact ex_ireturn dX11_copy_66 rfl (Or.inl rfl) w
      · replace w := w.2 c21
        refine ex_aload (q := 52) (x := a17) dX11_copy_50 rfl ?_
        refine ex_iload (q := 54) (x := v_5) dX11_copy_52 rfl ?_
        have s26 := w.1
        replace w := w.2
        refine ex_callV (q := 57) (M := mX11_copy) (hdd := Nat.le_refl _) (c := 7) (st := []) (bc := bc) (bs := bs) dX11_copy_54 rfl cl_X11_151 wd_602 wd_603 s26 w ?_
        rintro r h25 ⟨x27, rfl, w⟩
        show ex_G mX11_copy (d + 1) 57 [.ref a_0, .int v_1, .int v_2, .int v_3, .int v_4, .int v_5, .int v_6, .int v_7, .ref a15, .ref a17] [.int x27] h25 bc bs Q
        refine ex_if_ne (tgt := 67) (q := 60) dX11_copy_57 (fun c28 => ?_) (fun c28 => ?_)
        · replace w := w.1 c28
          refine ex_aload (q := 69) (x := a15) dX11_copy_67 rfl ?_
          have s29 := w.1
          replace w := w.2
          obtain ⟨a30, ea30, w⟩ := w
          refine ex_getr (q := 72) dX11_copy_69 fl_X11_158 s29 ea30 ?_
          refine ex_iload_n (q := 73) (x := v_2) dX11_copy_72 rfl ?_
          have s31 := w.1
          replace w := w.2
          refine ex_iald (q := 74) dX11_copy_73 s31 ?_
          refine ex_if_lt (tgt := 88) (q := 77) dX11_copy_74 (fun c32 => ?_) (fun c32 => ?_)
          · replace w := w.1 c32
            refine ex_aload_n (q := 89) (x := a_0) dX11_copy_88 rfl ?_
            refine ex_bipush (q := 91) (v := (-11)) dX11_copy_89 (by decide) ?_
            have s34 := w.1
            replace w := w.2
            refine ex_callV (q := 94) (M := mX11_copy) (hdd := Nat.le_refl _) (c := 11) (st := []) (bc := bc) (bs := bs) dX11_copy_91 rfl cl_X11_120 wd_557 wd_1 s34 w ?_
            rintro r h33 ⟨x35, rfl, w⟩
            show ex_G mX11_copy (d + 1) 94 [.ref a_0, .int v_1, .int v_2, .int v_3, .int v_4, .int v_5, .int v_6, .int v_7, .ref a15, .ref a17] [.int x35] h33 bc bs Q
            exact ex_ireturn dX11_copy_94 rfl (Or.inl rfl) w
          · replace w := w.2 c32
            refine ex_aload (q := 79) (x := a17) dX11_copy_77 rfl ?_
            have s36 := w.1
            replace w := w.2
            obtain ⟨a37, ea37, w⟩ := w
            refine ex_getr (q := 82) dX11_copy_79 fl_X11_158 s36 ea37 ?_
            refine ex_iload (q := 84) (x := v_5) dX11_copy_82 rfl ?_
            have s38 := w.1
            replace w := w.2
            refine ex_iald (q := 85) dX11_copy_84 s38 ?_
            refine ex_if_ge (tgt := 95) (q := 88) dX11_copy_85 (fun c39 => ?_) (fun c39 => ?_)
            · replace w := w.1 c39
              refine ex_aload (q := 97) (x := a15) dX11_copy_95 rfl ?_
              refine ex_getr (q := 100) dX11_copy_97 fl_X11_158 s29 ea30 ?_
              refine ex_iload_n (q := 101) (x := v_2) dX11_copy_100 rfl ?_
              refine ex_iald (q := 102) dX11_copy_101 s31 ?_
              refine ex_iload_n (q := 103) (x := v_3) dX11_copy_102 rfl ?_
              refine ex_iload (q := 105) (x := v_7) dX11_copy_103 rfl ?_
              refine ex_callS (q := 108) (M := mX11_copy) (hdd := Nat.le_refl _) (st := []) (bc := bc) (bs := bs) dX11_copy_105 rfl cl_X11_168 wd_626 w ?_
              rintro r h40 ⟨x41, rfl, w⟩
              show ex_G mX11_copy (d + 1) 108 [.ref a_0, .int v_1, .int v_2, .int v_3, .int v_4, .int v_5, .int v_6, .int v_7, .ref a15, .ref a17] [.int x41] h40 bc bs Q
              refine ex_if_eq (tgt := 129) (q := 111) dX11_copy_108 (fun c42 => ?_) (fun c42 => ?_)
              · replace w := w.1 c42
                refine ex_aload_n (q := 130) (x := a_0) dX11_copy_129 rfl ?_
                refine ex_bipush (q := 132) (v := (-12)) dX11_copy_130 (by decide) ?_
                have s44 := w.1
                replace w := w.2
                refine ex_callV (q := 135) (M := mX11_copy) (hdd := Nat.le_refl _) (c := 11) (st := []) (bc := bc) (bs := bs) dX11_copy_132 rfl cl_X11_120 wd_557 wd_1 s44 w ?_
                rintro r h43 ⟨x45, rfl, w⟩
                show ex_G mX11_copy (d + 1) 135 [.ref a_0, .int v_1, .int v_2, .int v_3, .int v_4, .int v_5, .int v_6, .int v_7, .ref a15, .ref a17] [.int x45] h43 bc bs Q
                exact ex_ireturn dX11_copy_135 rfl (Or.inl rfl) w
              · replace w := w.2 c42
                refine ex_aload (q := 113) (x := a17) dX11_copy_111 rfl ?_
                have s46 := w.1
                replace w := w.2
                obtain ⟨a47, ea47, w⟩ := w
                refine ex_getr (q := 116) dX11_copy_113 fl_X11_158 s46 ea47 ?_
                refine ex_iload (q := 118) (x := v_5) dX11_copy_116 rfl ?_
                have s48 := w.1
                replace w := w.2
                refine ex_iald (q := 119) dX11_copy_118 s48 ?_
                refine ex_iload (q := 121) (x := v_6) dX11_copy_119 rfl ?_
                refine ex_iload (q := 123) (x := v_7) dX11_copy_121 rfl ?_
                refine ex_callS (q := 126) (M := mX11_copy) (hdd := Nat.le_refl _) (st := []) (bc := bc) (bs := bs) dX11_copy_123 rfl cl_X11_168 wd_626 w ?_
                rintro r h49 ⟨x50, rfl, w⟩
                show ex_G mX11_copy (d + 1) 126 [.ref a_0, .int v_1, .int v_2, .int v_3, .int v_4, .int v_5, .int v_6, .int v_7, .ref a15, .ref a17] [.int x50] h49 bc bs Q
                refine ex_if_ne (tgt := 136) (q := 129) dX11_copy_126 (fun c51 => ?_) (fun c51 => ?_)
                · replace w := w.1 c51
                  refine ex_aload (q := 138) (x := a17) dX11_copy_136 rfl ?_
                  have s53 := w.1
                  replace w := w.2
                  refine ex_callV (q := 141) (M := mX11_copy) (hdd := Nat.le_refl _) (c := 7) (st := []) (bc := bc) (bs := bs) dX11_copy_138 rfl cl_X11_144 wd_590 wd_591 s53 w ?_
                  rintro r h52 ⟨rfl, w⟩
                  show ex_G mX11_copy (d + 1) 141 [.ref a_0, .int v_1, .int v_2, .int v_3, .int v_4, .int v_5, .int v_6, .int v_7, .ref a15, .ref a17] [] h52 bc bs Q
                  refine ex_aload (q := 143) (x := a15) dX11_copy_141 rfl ?_
                  have s54 := w.1
                  replace w := w.2
                  obtain ⟨a55, ea55, w⟩ := w
                  refine ex_getr (q := 146) dX11_copy_143 fl_X11_165 s54 ea55 ?_
                  refine ex_iconst (q := 147) (v := 4) dX11_copy_146 (by decide) ?_
                  refine ex_iload_n (q := 148) (x := v_2) dX11_copy_147 rfl ?_
                  refine ex_imul (q := 149) dX11_copy_148 ?_
                  refine ex_iload_n (q := 150) (x := v_3) dX11_copy_149 rfl ?_
                  refine ex_iadd (q := 151) dX11_copy_150 ?_
                  refine ex_aload (q := 153) (x := a17) dX11_copy_151 rfl ?_
                  have s56 := w.1
                  replace w := w.2
                  obtain ⟨a57, ea57, w⟩ := w
                  refine ex_getr (q := 156) dX11_copy_153 fl_X11_165 s56 ea57 ?_
                  refine ex_iconst (q := 157) (v := 4) dX11_copy_156 (by decide) ?_
                  refine ex_iload (q := 159) (x := v_5) dX11_copy_157 rfl ?_
                  refine ex_imul (q := 160) dX11_copy_159 ?_
                  refine ex_iload (q := 162) (x := v_6) dX11_copy_160 rfl ?_
                  refine ex_iadd (q := 163) dX11_copy_162 ?_
                  refine ex_iload (q := 165) (x := v_7) dX11_copy_163 rfl ?_
                  have s58 := w.1
                  replace w := w.2
                  refine ex_copyip (q := 168) (hd1 := Nat.succ_le_succ (Nat.zero_le _)) dX11_copy_165 wd_628 s58 ?_
                  refine ex_nmh (fun h59 eh59 => ?_)
                  replace w := w h59 eh59
                  refine ex_aload_n (q := 169) (x := a_0) dX11_copy_168 rfl ?_
                  refine ex_iconst (q := 170) (v := 1) dX11_copy_169 (by decide) ?_
                  have s61 := w.1
                  replace w := w.2
                  refine ex_callV (q := 173) (M := mX11_copy) (hdd := Nat.le_refl _) (c := 11) (st := []) (bc := bc) (bs := bs) dX11_copy_170 rfl cl_X11_131 wd_576 wd_3 s61 w ?_
                  rintro r h60 ⟨x62, rfl, w⟩
                  show ex_G mX11_copy (d + 1) 173 [.ref a_0, .int v_1, .int v_2, .int v_3, .int v_4, .int v_5, .int v_6, .int v_7, .ref a15, .ref a17] [.int x62] h60 bc bs Q
                  exact ex_ireturn dX11_copy_173 rfl (Or.inl rfl) w
                · replace w := w.2 c51
                  refine ex_aload_n (q := 130) (x := a_0) dX11_copy_129 rfl ?_
                  refine ex_bipush (q := 132) (v := (-12)) dX11_copy_130 (by decide) ?_
                  have s64 := w.1
                  replace w := w.2
                  refine ex_callV (q := 135) (M := mX11_copy) (hdd := Nat.le_refl _) (c := 11) (st := []) (bc := bc) (bs := bs) dX11_copy_132 rfl cl_X11_120 wd_557 wd_1 s64 w ?_
                  rintro r h63 ⟨x65, rfl, w⟩
                  show ex_G mX11_copy (d + 1) 135 [.ref a_0, .int v_1, .int v_2, .int v_3, .int v_4, .int v_5, .int v_6, .int v_7, .ref a15, .ref a17] [.int x65] h63 bc bs Q
                  exact ex_ireturn dX11_copy_135 rfl (Or.inl rfl) w
            · replace w := w.2 c39
              refine ex_aload_n (q := 89) (x := a_0) dX11_copy_88 rfl ?_
              refine ex_bipush (q := 91) (v := (-11)) dX11_copy_89 (by decide) ?_
              have s67 := w.1
              replace w := w.2
              refine ex_callV (q := 94) (M := mX11_copy) (hdd := Nat.le_refl _) (c := 11) (st := []) (bc := bc) (bs := bs) dX11_copy_91 rfl cl_X11_120 wd_557 wd_1 s67 w ?_
              rintro r h66 ⟨x68, rfl, w⟩
              show ex_G mX11_copy (d + 1) 94 [.ref a_0, .int v_1, .int v_2, .int v_3, .int v_4, .int v_5, .int v_6, .int v_7, .ref a15, .ref a17] [.int x68] h66 bc bs Q
              exact ex_ireturn dX11_copy_94 rfl (Or.inl rfl) w
        · replace w := w.2 c28
          refine ex_aload_n (q := 61) (x := a_0) dX11_copy_60 rfl ?_
          refine ex_bipush (q := 63) (v := (-12)) dX11_copy_61 (by decide) ?_
          have s70 := w.1
          replace w := w.2
          refine ex_callV (q := 66) (M := mX11_copy) (hdd := Nat.le_refl _) (c := 11) (st := []) (bc := bc) (bs := bs) dX11_copy_63 rfl cl_X11_120 wd_557 wd_1 s70 w ?_
          rintro r h69 ⟨x71, rfl, w⟩
          show ex_G mX11_copy (d + 1) 66 [.ref a_0, .int v_1, .int v_2, .int v_3, .int v_4, .int v_5, .int v_6, .int v_7, .ref a15, .ref a17] [.int x71] h69 bc bs Q
          exact ex_ireturn dX11_copy_66 rfl (Or.inl rfl) w
    · replace w := w.2 c11
      refine ex_aload_n (q := 18) (x := a_0) dX11_copy_17 rfl ?_
      refine ex_bipush (q := 20) (v := (-2)) dX11_copy_18 (by decide) ?_
      have s73 := w.1
      replace w := w.2
      refine ex_callV (q := 23) (M := mX11_copy) (hdd := Nat.le_refl _) (c := 11) (st := []) (bc := bc) (bs := bs) dX11_copy_20 rfl cl_X11_120 wd_557 wd_1 s73 w ?_
      rintro r h72 ⟨x74, rfl, w⟩
      show ex_G mX11_copy (d + 1) 23 [.ref a_0, .int v_1, .int v_2, .int v_3, .int v_4, .int v_5, .int v_6, .int v_7, .retAddr 0, .retAddr 0] [.int x74] h72 bc bs Q
      exact ex_ireturn dX11_copy_23 rfl (Or.inl rfl) w

theorem X11_copy_e {d bc bs : Nat} {h : AH} {Q : Option Value → AH → Prop} {a_0 : Nat} {v_1 : Int32} {v_2 : Int32} {v_3 : Int32} {v_4 : Int32} {v_5 : Int32} {v_6 : Int32} {v_7 : Int32} (w : ex_G mX11_copy (d + 1) 0 [.ref a_0, .int v_1, .int v_2, .int v_3, .int v_4, .int v_5, .int v_6, .int v_7, .retAddr 0, .retAddr 0] [] h bc bs Q) : ex_S yX11_copy mX11_copy (d + 1) [.ref a_0, .int v_1, .int v_2, .int v_3, .int v_4, .int v_5, .int v_6, .int v_7] h bc bs Q :=
  ex_enter (plainFor_of_name (by decide +kernel)) ⟨rfl, rfl⟩ rfl rfl (Nat.le_of_ble_eq_true rfl) (ex_pad 2 w)

set_option maxRecDepth 100000 in
theorem X11_loose_0 {d bc bs : Nat} {h : AH} {Q : Option Value → AH → Prop} {a_0 : Nat} {v_1 : Int32} {v_2 : Int32} (w : ah_o h a_0 11 ∧ ex_S yX11_hasPicture mX11_hasPicture d [.ref a_0, .int v_1] h 0 0 (fun r h1 => ∃ x3, r = some (.int x3) ∧ ((x3 = 0 → ah_o h1 a_0 11 ∧ ex_S yX11_refuse mX11_refuse d [.ref a_0, .int (-2)] h1 0 0 (fun r h5 => ∃ x7, r = some (.int x7) ∧ Q (some (.int x7)) h5)) ∧ (¬ x3 = 0 → ((v_2 < 0 → ah_o h1 a_0 11 ∧ ex_S yX11_refuse mX11_refuse d [.ref a_0, .int (-2)] h1 0 0 (fun r h9 => ∃ x11, r = some (.int x11) ∧ Q (some (.int x11)) h9)) ∧ (¬ v_2 < 0 → ((v_2 ≤ 9 → ah_o h1 a_0 11 ∧ ∃ a14, ah_r h1 a_0 0 = some a14 ∧ ld3 h1 11 a14 v_1 ∧ ∃ a16, ah_q h1 a14 (Int32.toNatClampNeg v_1) = some a16 ∧ ah_o h1 a16 7 ∧ ∀ x18, x18 = ah_f h1 a16 3 → ex_S yX7_forget mX7_forget d [.ref a16] h1 0 0 (fun r h19 => r = none ∧ ah_o h19 a16 7 ∧ ∀ h21, h21 = ah_sf h19 a16 3 v_2 → ah_o h21 a_0 11 ∧ ex_S yX11_grant mX11_grant d [.ref a_0, .int x18] h21 0 0 (fun r h22 => ∃ x24, r = some (.int x24) ∧ Q (some (.int x24)) h22))) ∧ (¬ v_2 ≤ 9 → ah_o h1 a_0 11 ∧ ex_S yX11_refuse mX11_refuse d [.ref a_0, .int (-2)] h1 0 0 (fun r h25 => ∃ x27, r = some (.int x27) ∧ Q (some (.int x27)) h25))))))))) : ex_G mX11_loose (d + 1) 0 [.ref a_0, .int v_1, .int v_2, .retAddr 0, .retAddr 0] [] h bc bs Q := by
  refine ex_aload_n (q := 1) (x := a_0) dX11_loose_0 rfl ?_
  refine ex_iload_n (q := 2) (x := v_1) dX11_loose_1 rfl ?_
  have s2 := w.1
  replace w := w.2
  refine ex_callV (q := 5) (M := mX11_loose) (hdd := Nat.le_refl _) (c := 11) (st := []) (bc := bc) (bs := bs) dX11_loose_2 rfl cl_X11_134 wd_584 wd_4 s2 w ?_
  rintro r h1 ⟨x3, rfl, w⟩
  show ex_G mX11_loose (d + 1) 5 [.ref a_0, .int v_1, .int v_2, .retAddr 0, .retAddr 0] [.int x3] h1 bc bs Q
  refine ex_if_eq (tgt := 18) (q := 8) dX11_loose_5 (fun c4 => ?_) (fun c4 => ?_)
  · replace w := w.1 c4
    refine ex_aload_n (q := 19) (x := a_0) dX11_loose_18 rfl ?_
    refine ex_bipush (q := 21) (v := (-2)) dX11_loose_19 (by decide) ?_
    have s6 := w.1
    replace w := w.2
    refine ex_callV (q := 24) (M := mX11_loose) (hdd := Nat.le_refl _) (c := 11) (st := []) (bc := bc) (bs := bs) dX11_loose_21 rfl cl_X11_120 wd_557 wd_1 s6 w ?_
    rintro r h5 ⟨x7, rfl, w⟩
    show ex_G mX11_loose (d + 1) 24 [.ref a_0, .int v_1, .int v_2, .retAddr 0, .retAddr 0] [.int x7] h5 bc bs Q
    exact ex_ireturn dX11_loose_24 rfl (Or.inl rfl) w
  · replace w := w.2 c4
    refine ex_iload_n (q := 9) (x := v_2) dX11_loose_8 rfl ?_
    refine ex_if_lt (tgt := 18) (q := 12) dX11_loose_9 (fun c8 => ?_) (fun c8 => ?_)
    · replace w := w.1 c8
      refine ex_aload_n (q := 19) (x := a_0) dX11_loose_18 rfl ?_
      refine ex_bipush (q := 21) (v := (-2)) dX11_loose_19 (by decide) ?_
      have s10 := w.1
      replace w := w.2
      refine ex_callV (q := 24) (M := mX11_loose) (hdd := Nat.le_refl _) (c := 11) (st := []) (bc := bc) (bs := bs) dX11_loose_21 rfl cl_X11_120 wd_557 wd_1 s10 w ?_
      rintro r h9 ⟨x11, rfl, w⟩
      show ex_G mX11_loose (d + 1) 24 [.ref a_0, .int v_1, .int v_2, .retAddr 0, .retAddr 0] [.int x11] h9 bc bs Q
      exact ex_ireturn dX11_loose_24 rfl (Or.inl rfl) w
    · replace w := w.2 c8
      refine ex_iload_n (q := 13) (x := v_2) dX11_loose_12 rfl ?_
      refine ex_bipush (q := 15) (v := 9) dX11_loose_13 (by decide) ?_
      refine ex_icmp_le (tgt := 25) (q := 18) dX11_loose_15 (fun c12 => ?_) (fun c12 => ?_)
      · replace w := w.1 c12
        refine ex_aload_n (q := 26) (x := a_0) dX11_loose_25 rfl ?_
        have s13 := w.1
        replace w := w.2
        obtain ⟨a14, ea14, w⟩ := w
        refine ex_getr (q := 29) dX11_loose_26 fl_X11_11 s13 ea14 ?_
        refine ex_iload_n (q := 30) (x := v_1) dX11_loose_29 rfl ?_
        have s15 := w.1
        replace w := w.2
        obtain ⟨a16, ea16, w⟩ := w
        refine ex_aald (q := 31) dX11_loose_30 s15 ea16 ?_
        refine ex_astore_n (q := 32) (ls' := [.ref a_0, .int v_1, .int v_2, .ref a16, .retAddr 0]) dX11_loose_31 rfl ?_
        refine ex_aload_n (q := 33) (x := a16) dX11_loose_32 rfl ?_
        have s17 := w.1
        replace w := w.2
        refine ex_getf (q := 36) dX11_loose_33 fl_X11_178 s17 ?_
        refine ex_nmi (fun x18 ex18 => ?_)
        replace w := w x18 ex18
        refine ex_istore (q := 38) (ls' := [.ref a_0, .int v_1, .int v_2, .ref a16, .int x18]) dX11_loose_36 rfl ?_
        refine ex_aload_n (q := 39) (x := a16) dX11_loose_38 rfl ?_
        refine ex_callV (q := 42) (M := mX11_loose) (hdd := Nat.le_refl _) (c := 7) (st := []) (bc := bc) (bs := bs) dX11_loose_39 rfl cl_X11_144 wd_590 wd_591 s17 w ?_
        rintro r h19 ⟨rfl, w⟩
        show ex_G mX11_loose (d + 1) 42 [.ref a_0, .int v_1, .int v_2, .ref a16, .int x18] [] h19 bc bs Q
        refine ex_aload_n (q := 43) (x := a16) dX11_loose_42 rfl ?_
        refine ex_iload_n (q := 44) (x := v_2) dX11_loose_43 rfl ?_
        have s20 := w.1
        replace w := w.2
        refine ex_putf (q := 47) dX11_loose_44 fl_X11_178 (Or.inl rfl) s20 (Or.inl rfl) ?_
        refine ex_nmh (fun h21 eh21 => ?_)
        replace w := w h21 eh21
        refine ex_aload_n (q := 48) (x := a_0) dX11_loose_47 rfl ?_
        refine ex_iload (q := 50) (x := x18) dX11_loose_48 rfl ?_
        have s23 := w.1
        replace w := w.2
        refine ex_callV (q := 53) (M := mX11_loose) (hdd := Nat.le_refl _) (c := 11) (st := []) (bc := bc) (bs := bs) dX11_loose_50 rfl cl_X11_131 wd_576 wd_3 s23 w ?_
        rintro r h22 ⟨x24, rfl, w⟩
        show ex_G mX11_loose (d + 1) 53 [.ref a_0, .int v_1, .int v_2, .ref a16, .int x18] [.int x24] h22 bc bs Q
        exact ex_ireturn dX11_loose_53 rfl (Or.inl rfl) w
      · replace w := w.2 c12
        refine ex_aload_n (q := 19) (x := a_0) dX11_loose_18 rfl ?_
        refine ex_bipush (q := 21) (v := (-2)) dX11_loose_19 (by decide) ?_
        have s26 := w.1
        replace w := w.2
        refine ex_callV (q := 24) (M := mX11_loose) (hdd := Nat.le_refl _) (c := 11) (st := []) (bc := bc) (bs := bs) dX11_loose_21 rfl cl_X11_120 wd_557 wd_1 s26 w ?_
        rintro r h25 ⟨x27, rfl, w⟩
        show ex_G mX11_loose (d + 1) 24 [.ref a_0, .int v_1, .int v_2, .retAddr 0, .retAddr 0] [.int x27] h25 bc bs Q
        exact ex_ireturn dX11_loose_24 rfl (Or.inl rfl) w

theorem X11_loose_e {d bc bs : Nat} {h : AH} {Q : Option Value → AH → Prop} {a_0 : Nat} {v_1 : Int32} {v_2 : Int32} (w : ex_G mX11_loose (d + 1) 0 [.ref a_0, .int v_1, .int v_2, .retAddr 0, .retAddr 0] [] h bc bs Q) : ex_S yX11_loose mX11_loose (d + 1) [.ref a_0, .int v_1, .int v_2] h bc bs Q :=
  ex_enter (plainFor_of_name (by decide +kernel)) ⟨rfl, rfl⟩ rfl rfl (Nat.le_of_ble_eq_true rfl) (ex_pad 2 w)

set_option maxRecDepth 100000 in
theorem X11_open_0 {d bc bs : Nat} {h : AH} {Q : Option Value → AH → Prop} {a_0 : Nat} {v_1 : Int32} (w : ah_o h a_0 11 ∧ ex_S yX11_hasPicture mX11_hasPicture (d + 3) [.ref a_0, .int v_1] h 0 0 (fun r h1 => ∃ x3, r = some (.int x3) ∧ ((¬ x3 = 0 → ah_o h1 a_0 11 ∧ ∃ a6, ah_r h1 a_0 4 = some a6 ∧ ∃ a7, ah_r h1 a_0 0 = some a7 ∧ ld3 h1 11 a7 v_1 ∧ ∃ a9, ah_q h1 a7 (Int32.toNatClampNeg v_1) = some a9 ∧ ah_o h1 a6 4 ∧ ex_S yX4_survey mX4_survey (d + 3) [.ref a6, .ref a9] h1 0 0 (fun r h10 => r = none ∧ ah_o h10 a_0 11 ∧ ∃ a13, ah_r h10 a_0 4 = some a13 ∧ ah_o h10 a13 4 ∧ ∀ h15, h15 = ah_sf h10 a_0 17 (ah_f h10 a13 17) → ex_S yX11_grant mX11_grant (d + 3) [.ref a_0, .int (ah_f h15 a13 16)] h15 0 0 (fun r h16 => ∃ x17, r = some (.int x17) ∧ Q (some (.int x17)) h16))) ∧ (x3 = 0 → ah_o h1 a_0 11 ∧ ex_S yX11_refuse mX11_refuse (d + 3) [.ref a_0, .int (-2)] h1 0 0 (fun r h18 => ∃ x20, r = some (.int x20) ∧ Q (some (.int x20)) h18))))) : ex_G mX11_open (d + 4) 0 [.ref a_0, .int v_1] [] h bc bs Q := by
  refine ex_aload_n (q := 1) (x := a_0) dX11_open_0 rfl ?_
  refine ex_iload_n (q := 2) (x := v_1) dX11_open_1 rfl ?_
  have s2 := w.1
  replace w := w.2
  refine ex_callV (q := 5) (M := mX11_open) (hdd := Nat.le_refl _) (c := 11) (st := []) (bc := bc) (bs := bs) dX11_open_2 rfl cl_X11_134 wd_584 wd_4 s2 w ?_
  rintro r h1 ⟨x3, rfl, w⟩
  show ex_G mX11_open (d + 4) 5 [.ref a_0, .int v_1] [.int x3] h1 bc bs Q
  refine ex_if_ne (tgt := 15) (q := 8) dX11_open_5 (fun c4 => ?_) (fun c4 => ?_)
  · replace w := w.1 c4
    refine ex_aload_n (q := 16) (x := a_0) dX11_open_15 rfl ?_
    have s5 := w.1
    replace w := w.2
    obtain ⟨a6, ea6, w⟩ := w
    refine ex_getr (q := 19) dX11_open_16 fl_X11_36 s5 ea6 ?_
    refine ex_aload_n (q := 20) (x := a_0) dX11_open_19 rfl ?_
    obtain ⟨a7, ea7, w⟩ := w
    refine ex_getr (q := 23) dX11_open_20 fl_X11_11 s5 ea7 ?_
    refine ex_iload_n (q := 24) (x := v_1) dX11_open_23 rfl ?_
    have s8 := w.1
    replace w := w.2
    obtain ⟨a9, ea9, w⟩ := w
    refine ex_aald (q := 25) dX11_open_24 s8 ea9 ?_
    have s11 := w.1
    replace w := w.2
    refine ex_callV (q := 28) (M := mX11_open) (hdd := Nat.le_refl _) (c := 4) (st := []) (bc := bc) (bs := bs) dX11_open_25 rfl cl_X11_103 wd_638 wd_639 s11 w ?_
    rintro r h10 ⟨rfl, w⟩
    show ex_G mX11_open (d + 4) 28 [.ref a_0, .int v_1] [] h10 bc bs Q
    refine ex_aload_n (q := 29) (x := a_0) dX11_open_28 rfl ?_
    refine ex_aload_n (q := 30) (x := a_0) dX11_open_29 rfl ?_
    have s12 := w.1
    replace w := w.2
    obtain ⟨a13, ea13, w⟩ := w
    refine ex_getr (q := 33) dX11_open_30 fl_X11_36 s12 ea13 ?_
    have s14 := w.1
    replace w := w.2
    refine ex_getf (q := 36) dX11_open_33 fl_X11_181 s14 ?_
    refine ex_putf (q := 39) dX11_open_36 fl_X11_93 (Or.inl rfl) s12 (Or.inl rfl) ?_
    refine ex_nmh (fun h15 eh15 => ?_)
    replace w := w h15 eh15
    refine ex_aload_n (q := 40) (x := a_0) dX11_open_39 rfl ?_
    refine ex_aload_n (q := 41) (x := a_0) dX11_open_40 rfl ?_
    refine ex_getr (q := 44) dX11_open_41 fl_X11_36 (by rw [eh15]; exact s12) (by rw [eh15]; exact ea13) ?_
    refine ex_getf (q := 47) dX11_open_44 fl_X11_107 (by rw [eh15]; exact s14) ?_
    refine ex_callV (q := 50) (M := mX11_open) (hdd := Nat.le_refl _) (c := 11) (st := []) (bc := bc) (bs := bs) dX11_open_47 rfl cl_X11_131 wd_576 wd_3 (by rw [eh15]; exact s12) w ?_
    rintro r h16 ⟨x17, rfl, w⟩
    show ex_G mX11_open (d + 4) 50 [.ref a_0, .int v_1] [.int x17] h16 bc bs Q
    exact ex_ireturn dX11_open_50 rfl (Or.inl rfl) w
  · replace w := w.2 c4
    refine ex_aload_n (q := 9) (x := a_0) dX11_open_8 rfl ?_
    refine ex_bipush (q := 11) (v := (-2)) dX11_open_9 (by decide) ?_
    have s19 := w.1
    replace w := w.2
    refine ex_callV (q := 14) (M := mX11_open) (hdd := Nat.le_refl _) (c := 11) (st := []) (bc := bc) (bs := bs) dX11_open_11 rfl cl_X11_120 wd_557 wd_1 s19 w ?_
    rintro r h18 ⟨x20, rfl, w⟩
    show ex_G mX11_open (d + 4) 14 [.ref a_0, .int v_1] [.int x20] h18 bc bs Q
    exact ex_ireturn dX11_open_14 rfl (Or.inl rfl) w

theorem X11_open_e {d bc bs : Nat} {h : AH} {Q : Option Value → AH → Prop} {a_0 : Nat} {v_1 : Int32} (w : ex_G mX11_open (d + 4) 0 [.ref a_0, .int v_1] [] h bc bs Q) : ex_S yX11_open mX11_open (d + 4) [.ref a_0, .int v_1] h bc bs Q :=
  ex_enter (plainFor_of_name (by decide +kernel)) ⟨rfl, rfl⟩ rfl rfl (Nat.le_of_ble_eq_true rfl) (ex_pad 0 w)

set_option maxRecDepth 100000 in
theorem X11_where_0 {d bc bs : Nat} {h : AH} {Q : Option Value → AH → Prop} {a_0 : Nat} (w : ah_o h a_0 11 ∧ Q (some (.int (ah_f h a_0 17))) h) : ex_G mX11_where d 0 [.ref a_0] [] h bc bs Q := by
  refine ex_aload_n (q := 1) (x := a_0) dX11_where_0 rfl ?_
  have s1 := w.1
  replace w := w.2
  refine ex_getf (q := 4) dX11_where_1 fl_X11_93 s1 ?_
  exact ex_ireturn dX11_where_4 rfl (Or.inl rfl) w

theorem X11_where_e {d bc bs : Nat} {h : AH} {Q : Option Value → AH → Prop} {a_0 : Nat} (w : ex_G mX11_where d 0 [.ref a_0] [] h bc bs Q) : ex_S yX11_where mX11_where d [.ref a_0] h bc bs Q :=
  ex_enter (plainFor_of_name (by decide +kernel)) ⟨rfl, rfl⟩ rfl rfl (Nat.le_of_ble_eq_true rfl) (ex_pad 0 w)

set_option maxRecDepth 100000 in
theorem X11_told_0 {d bc bs : Nat} {h : AH} {Q : Option Value → AH → Prop} {a_0 : Nat} {v_1 : Int32} {v_2 : Int32} (w : ah_o h a_0 11 ∧ ex_S yX11_hasPicture mX11_hasPicture (d + 4) [.ref a_0, .int v_1] h 0 0 (fun r h1 => ∃ x3, r = some (.int x3) ∧ ((x3 = 0 → ah_o h1 a_0 11 ∧ ex_S yX11_refuse mX11_refuse (d + 4) [.ref a_0, .int (-2)] h1 0 0 (fun r h5 => ∃ x7, r = some (.int x7) ∧ Q (some (.int x7)) h5)) ∧ (¬ x3 = 0 → ((v_2 < 0 → ah_o h1 a_0 11 ∧ ex_S yX11_refuse mX11_refuse (d + 4) [.ref a_0, .int (-2)] h1 0 0 (fun r h9 => ∃ x11, r = some (.int x11) ∧ Q (some (.int x11)) h9)) ∧ (¬ v_2 < 0 → ((v_2 ≤ 5 → ((¬ v_2 = 0 → ((¬ v_2 = 1 → ah_o h1 a_0 11 ∧ ∃ a16, ah_r h1 a_0 4 = some a16 ∧ ex_S yX11_isWhole mX11_isWhole (d + 4) [.ref a_0, .int v_1, .ref a16] h1 0 0 (fun r h17 => ∃ x18, r = some (.int x18) ∧ ((¬ x18 = 0 → ((v_2 = 2 → ah_o h17 a_0 11 ∧ ∃ a22, ah_r h17 a_0 4 = some a22 ∧ ah_o h17 a22 4 ∧ ex_S yX4_allPieces mX4_allPieces (d + 4) [.ref a22] h17 0 0 (fun r h23 => ∃ x25, r = some (.int x25) ∧ ah_o h23 a_0 11 ∧ ex_S yX11_grant mX11_grant (d + 4) [.ref a_0, .int x25] h23 0 0 (fun r h26 => ∃ x28, r = some (.int x28) ∧ Q (some (.int x28)) h26))) ∧ (v_2 = 3 → ah_o h17 a_0 11 ∧ ∃ a30, ah_r h17 a_0 4 = some a30 ∧ ah_o h17 a30 4 ∧ ex_S yX11_grant mX11_grant (d + 4) [.ref a_0, .int (ah_f h17 a30 12)] h17 0 0 (fun r h32 => ∃ x33, r = some (.int x33) ∧ Q (some (.int x33)) h32)) ∧ (v_2 = 4 → ah_o h17 a_0 11 ∧ ∃ a35, ah_r h17 a_0 4 = some a35 ∧ ah_o h17 a35 4 ∧ ex_S yX11_grant mX11_grant (d + 4) [.ref a_0, .int (ah_f h17 a35 13)] h17 0 0 (fun r h37 => ∃ x38, r = some (.int x38) ∧ Q (some (.int x38)) h37)) ∧ (¬ v_2 = 2 → ¬ v_2 = 3 → ¬ v_2 = 4 → ah_o h17 a_0 11 ∧ ∃ a40, ah_r h17 a_0 4 = some a40 ∧ ah_o h17 a40 4 ∧ ex_S yX11_grant mX11_grant (d + 4) [.ref a_0, .int (ah_f h17 a40 15)] h17 0 0 (fun r h42 => ∃ x43, r = some (.int x43) ∧ Q (some (.int x43)) h42)))) ∧ (x18 = 0 → ah_o h17 a_0 11 ∧ ex_S yX11_refuse mX11_refuse (d + 4) [.ref a_0, .int (-13)] h17 0 0 (fun r h44 => ∃ x46, r = some (.int x46) ∧ Q (some (.int x46)) h44))))) ∧ (v_2 = 1 → ah_o h1 a_0 11 ∧ ∃ a48, ah_r h1 a_0 0 = some a48 ∧ ld3 h1 11 a48 v_1 ∧ ∃ a50, ah_q h1 a48 (Int32.toNatClampNeg v_1) = some a50 ∧ ah_o h1 a50 7 ∧ ex_S yX11_grant mX11_grant (d + 4) [.ref a_0, .int (ah_f h1 a50 3)] h1 0 0 (fun r h52 => ∃ x53, r = some (.int x53) ∧ Q (some (.int x53)) h52)))) ∧ (v_2 = 0 → ah_o h1 a_0 11 ∧ ∃ a55, ah_r h1 a_0 0 = some a55 ∧ ld3 h1 11 a55 v_1 ∧ ∃ a57, ah_q h1 a55 (Int32.toNatClampNeg v_1) = some a57 ∧ ah_o h1 a57 7 ∧ ex_S yX11_grant mX11_grant (d + 4) [.ref a_0, .int (ah_f h1 a57 2)] h1 0 0 (fun r h59 => ∃ x60, r = some (.int x60) ∧ Q (some (.int x60)) h59)))) ∧ (¬ v_2 ≤ 5 → ah_o h1 a_0 11 ∧ ex_S yX11_refuse mX11_refuse (d + 4) [.ref a_0, .int (-2)] h1 0 0 (fun r h61 => ∃ x63, r = some (.int x63) ∧ Q (some (.int x63)) h61))))))))) : ex_G mX11_told (d + 5) 0 [.ref a_0, .int v_1, .int v_2] [] h bc bs Q := by
  refine ex_aload_n (q := 1) (x := a_0) dX11_told_0 rfl ?_
  refine ex_iload_n (q := 2) (x := v_1) dX11_told_1 rfl ?_
  have s2 := w.1
  replace w := w.2
  refine ex_callV (q := 5) (M := mX11_told) (hdd := Nat.le_refl _) (c := 11) (st := []) (bc := bc) (bs := bs) dX11_told_2 rfl cl_X11_134 wd_584 wd_4 s2 w ?_
  rintro r h1 ⟨x3, rfl, w⟩
  show ex_G mX11_told (d + 5) 5 [.ref a_0, .int v_1, .int v_2] [.int x3] h1 bc bs Q
  refine ex_if_eq (tgt := 17) (q := 8) dX11_told_5 (fun c4 => ?_) (fun c4 => ?_)
  · replace w := w.1 c4
    refine ex_aload_n (q := 18) (x := a_0) dX11_told_17 rfl ?_
    refine ex_bipush (q := 20) (v := (-2)) dX11_told_18 (by decide) ?_
    have s6 := w.1
    replace w := w.2
    refine ex_callV (q := 23) (M := mX11_told) (hdd := Nat.le_refl _) (c := 11) (st := []) (bc := bc) (bs := bs) dX11_told_20 rfl cl_X11_120 wd_557 wd_1 s6 w ?_
    rintro r h5 ⟨x7, rfl, w⟩
    show ex_G mX11_told (d + 5) 23 [.ref a_0, .int v_1, .int v_2] [.int x7] h5 bc bs Q
    exact ex_ireturn dX11_told_23 rfl (Or.inl rfl) w
  · replace w := w.2 c4
    refine ex_iload_n (q := 9) (x := v_2) dX11_told_8 rfl ?_
    refine ex_if_lt (tgt := 17) (q := 12) dX11_told_9 (fun c8 => ?_) (fun c8 => ?_)
    · replace w := w.1 c8
      refine ex_aload_n (q := 18) (x := a_0) dX11_told_17 rfl ?_
      refine ex_bipush (q := 20) (v := (-2)) dX11_told_18 (by decide) ?_
      have s10 := w.1
      replace w := w.2
      refine ex_callV (q := 23) (M := mX11_told) (hdd := Nat.le_refl _) (c := 11) (st := []) (bc := bc) (bs := bs) dX11_told_20 rfl cl_X11_120 wd_557 wd_1 s10 w ?_
      rintro r h9 ⟨x11, rfl, w⟩
      show ex_G mX11_told (d + 5) 23 [.ref a_0, .int v_1, .int v_2] [.int x11] h9 bc bs Q
      exact ex_ireturn dX11_told_23 rfl (Or.inl rfl) w
    · replace w := w.2 c8
      refine ex_iload_n (q := 13) (x := v_2) dX11_told_12 rfl ?_
      refine ex_iconst (q := 14) (v := 5) dX11_told_13 (by decide) ?_
      refine ex_icmp_le (tgt := 24) (q := 17) dX11_told_14 (fun c12 => ?_) (fun c12 => ?_)
      · replace w := w.1 c12
        refine ex_iload_n (q := 25) (x := v_2) dX11_told_24 rfl ?_
        refine ex_if_ne (tgt := 42) (q := 28) dX11_told_25 (fun c13 => ?_) (fun c13 => ?_)
        · replace w := w.1 c13
          refine ex_iload_n (q := 43) (x := v_2) dX11_told_42 rfl ?_
          refine ex_iconst (q := 44) (v := 1) dX11_told_43 (by decide) ?_
          refine ex_icmp_ne (tgt := 61) (q := 47) dX11_told_44 (fun c14 => ?_) (fun c14 => ?_)
          · replace w := w.1 c14
            refine ex_aload_n (q := 62) (x := a_0) dX11_told_61 rfl ?_
            refine ex_iload_n (q := 63) (x := v_1) dX11_told_62 rfl ?_
            refine ex_aload_n (q := 64) (x := a_0) dX11_told_63 rfl ?_
            have s15 := w.1
            replace w := w.2
            obtain ⟨a16, ea16, w⟩ := w
            refine ex_getr (q := 67) dX11_told_64 fl_X11_36 s15 ea16 ?_
            refine ex_callV (q := 70) (M := mX11_told) (hdd := Nat.le_refl _) (c := 11) (st := []) (bc := bc) (bs := bs) dX11_told_67 rfl cl_X11_184 wd_695 wd_13 s15 w ?_
            rintro r h17 ⟨x18, rfl, w⟩
            show ex_G mX11_told (d + 5) 70 [.ref a_0, .int v_1, .int v_2] [.int x18] h17 bc bs Q
            refine ex_if_ne (tgt := 80) (q := 73) dX11_told_70 (fun c19 => ?_) (fun c19 => ?_)
            · replace w := w.1 c19
              refine ex_iload_n (q := 81) (x := v_2) dX11_told_80 rfl ?_
              by_cases c20_2 : v_2 = 2
              · replace w := w.1 c20_2
                refine ex_tsw (tgt := 108) dX11_told_81 (by rw [c20_2]; decide) ?_
                refine ex_aload_n (q := 109) (x := a_0) dX11_told_108 rfl ?_
                refine ex_aload_n (q := 110) (x := a_0) dX11_told_109 rfl ?_
                have s21 := w.1
                replace w := w.2
                obtain ⟨a22, ea22, w⟩ := w
                refine ex_getr (q := 113) dX11_told_110 fl_X11_36 s21 ea22 ?_
                have s24 := w.1
                replace w := w.2
                refine ex_callV (q := 116) (M := mX11_told) (hdd := Nat.le_refl _) (c := 4) (st := [.ref a_0]) (bc := bc) (bs := bs) dX11_told_113 rfl cl_X11_188 wd_698 wd_699 s24 w ?_
                rintro r h23 ⟨x25, rfl, w⟩
                show ex_G mX11_told (d + 5) 116 [.ref a_0, .int v_1, .int v_2] [.int x25, .ref a_0] h23 bc bs Q
                have s27 := w.1
                replace w := w.2
                refine ex_callV (q := 119) (M := mX11_told) (hdd := Nat.le_refl _) (c := 11) (st := []) (bc := bc) (bs := bs) dX11_told_116 rfl cl_X11_131 wd_576 wd_3 s27 w ?_
                rintro r h26 ⟨x28, rfl, w⟩
                show ex_G mX11_told (d + 5) 119 [.ref a_0, .int v_1, .int v_2] [.int x28] h26 bc bs Q
                exact ex_ireturn dX11_told_119 rfl (Or.inl rfl) w
              replace w := w.2
              by_cases c20_3 : v_2 = 3
              · replace w := w.1 c20_3
                refine ex_tsw (tgt := 120) dX11_told_81 (by rw [c20_3]; decide) ?_
                refine ex_aload_n (q := 121) (x := a_0) dX11_told_120 rfl ?_
                refine ex_aload_n (q := 122) (x := a_0) dX11_told_121 rfl ?_
                have s29 := w.1
                replace w := w.2
                obtain ⟨a30, ea30, w⟩ := w
                refine ex_getr (q := 125) dX11_told_122 fl_X11_36 s29 ea30 ?_
                have s31 := w.1
                replace w := w.2
                refine ex_getf (q := 128) dX11_told_125 fl_X11_192 s31 ?_
                refine ex_callV (q := 131) (M := mX11_told) (hdd := Nat.le_refl _) (c := 11) (st := []) (bc := bc) (bs := bs) dX11_told_128 rfl cl_X11_131 wd_576 wd_3 s29 w ?_
                rintro r h32 ⟨x33, rfl, w⟩
                show ex_G mX11_told (d + 5) 131 [.ref a_0, .int v_1, .int v_2] [.int x33] h32 bc bs Q
                exact ex_ireturn dX11_told_131 rfl (Or.inl rfl) w
              replace w := w.2
              by_cases c20_4 : v_2 = 4
              · replace w := w.1 c20_4
                refine ex_tsw (tgt := 132) dX11_told_81 (by rw [c20_4]; decide) ?_
                refine ex_aload_n (q := 133) (x := a_0) dX11_told_132 rfl ?_
                refine ex_aload_n (q := 134) (x := a_0) dX11_told_133 rfl ?_
                have s34 := w.1
                replace w := w.2
                obtain ⟨a35, ea35, w⟩ := w
                refine ex_getr (q := 137) dX11_told_134 fl_X11_36 s34 ea35 ?_
                have s36 := w.1
                replace w := w.2
                refine ex_getf (q := 140) dX11_told_137 fl_X11_195 s36 ?_
                refine ex_callV (q := 143) (M := mX11_told) (hdd := Nat.le_refl _) (c := 11) (st := []) (bc := bc) (bs := bs) dX11_told_140 rfl cl_X11_131 wd_576 wd_3 s34 w ?_
                rintro r h37 ⟨x38, rfl, w⟩
                show ex_G mX11_told (d + 5) 143 [.ref a_0, .int v_1, .int v_2] [.int x38] h37 bc bs Q
                exact ex_ireturn dX11_told_143 rfl (Or.inl rfl) w
              replace w := w.2
              replace w := w c20_2 c20_3 c20_4
              have hsw : v_2.toInt < 2 ∨ 4 < v_2.toInt := by
                have := i32_ne c20_2 (a := 2) (by decide)
                have := i32_ne c20_3 (a := 3) (by decide)
                have := i32_ne c20_4 (a := 4) (by decide)
                omega
              have hsq : sw_t 63 2 4 [27, 39, 51] v_2.toInt = 63 := by
                rcases hsw with z | z
                · unfold sw_t; rw [if_pos (Or.inl z)]
                · unfold sw_t; rw [if_pos (Or.inr z)]
              refine ex_tsw (tgt := 144) dX11_told_81 (show ((81 : Nat) : Int) + sw_t 63 2 4 [27, 39, 51] v_2.toInt = ((144 : Nat) : Int) by rw [hsq]; decide) ?_
              refine ex_aload_n (q := 145) (x := a_0) dX11_told_144 rfl ?_
              refine ex_aload_n (q := 146) (x := a_0) dX11_told_145 rfl ?_
              have s39 := w.1
              replace w := w.2
              obtain ⟨a40, ea40, w⟩ := w
              refine ex_getr (q := 149) dX11_told_146 fl_X11_36 s39 ea40 ?_
              have s41 := w.1
              replace w := w.2
              refine ex_getf (q := 152) dX11_told_149 fl_X11_198 s41 ?_
              refine ex_callV (q := 155) (M := mX11_told) (hdd := Nat.le_refl _) (c := 11) (st := []) (bc := bc) (bs := bs) dX11_told_152 rfl cl_X11_131 wd_576 wd_3 s39 w ?_
              rintro r h42 ⟨x43, rfl, w⟩
              show ex_G mX11_told (d + 5) 155 [.ref a_0, .int v_1, .int v_2] [.int x43] h42 bc bs Q
              exact ex_ireturn dX11_told_155 rfl (Or.inl rfl) w
            · replace w := w.2 c19
              refine ex_aload_n (q := 74) (x := a_0) dX11_told_73 rfl ?_
              refine ex_bipush (q := 76) (v := (-13)) dX11_told_74 (by decide) ?_
              have s45 := w.1
              replace w := w.2
              refine ex_callV (q := 79) (M := mX11_told) (hdd := Nat.le_refl _) (c := 11) (st := []) (bc := bc) (bs := bs) dX11_told_76 rfl cl_X11_120 wd_557 wd_1 s45 w ?_
              rintro r h44 ⟨x46, rfl, w⟩
              show ex_G mX11_told (d + 5) 79 [.ref a_0, .int v_1, .int v_2] [.int x46] h44 bc bs Q
              exact ex_ireturn dX11_told_79 rfl (Or.inl rfl) w
          · replace w := w.2 c14
            refine ex_aload_n (q := 48) (x := a_0) dX11_told_47 rfl ?_
            refine ex_aload_n (q := 49) (x := a_0) dX11_told_48 rfl ?_
            have s47 := w.1
            replace w := w.2
            obtain ⟨a48, ea48, w⟩ := w
            refine ex_getr (q := 52) dX11_told_49 fl_X11_11 s47 ea48 ?_
            refine ex_iload_n (q := 53) (x := v_1) dX11_told_52 rfl ?_
            have s49 := w.1
            replace w := w.2
            obtain ⟨a50, ea50, w⟩ := w
            refine ex_aald (q := 54) dX11_told_53 s49 ea50 ?_
            have s51 := w.1
            replace w := w.2
            refine ex_getf (q := 57) dX11_told_54 fl_X11_178 s51 ?_
            refine ex_callV (q := 60) (M := mX11_told) (hdd := Nat.le_refl _) (c := 11) (st := []) (bc := bc) (bs := bs) dX11_told_57 rfl cl_X11_131 wd_576 wd_3 s47 w ?_
            rintro r h52 ⟨x53, rfl, w⟩
            show ex_G mX11_told (d + 5) 60 [.ref a_0, .int v_1, .int v_2] [.int x53] h52 bc bs Q
            exact ex_ireturn dX11_told_60 rfl (Or.inl rfl) w
        · replace w := w.2 c13
          refine ex_aload_n (q := 29) (x := a_0) dX11_told_28 rfl ?_
          refine ex_aload_n (q := 30) (x := a_0) dX11_told_29 rfl ?_
          have s54 := w.1
          replace w := w.2
          obtain ⟨a55, ea55, w⟩ := w
          refine ex_getr (q := 33) dX11_told_30 fl_X11_11 s54 ea55 ?_
          refine ex_iload_n (q := 34) (x := v_1) dX11_told_33 rfl ?_
          have s56 := w.1
          replace w := w.2
          obtain ⟨a57, ea57, w⟩ := w
          refine ex_aald (q := 35) dX11_told_34 s56 ea57 ?_
          have s58 := w.1
          replace w := w.2
          refine ex_getf (q := 38) dX11_told_35 fl_X11_141 s58 ?_
          refine ex_callV (q := 41) (M := mX11_told) (hdd := Nat.le_refl _) (c := 11) (st := []) (bc := bc) (bs := bs) dX11_told_38 rfl cl_X11_131 wd_576 wd_3 s54 w ?_
          rintro r h59 ⟨x60, rfl, w⟩
          show ex_G mX11_told (d + 5) 41 [.ref a_0, .int v_1, .int v_2] [.int x60] h59 bc bs Q
          exact ex_ireturn dX11_told_41 rfl (Or.inl rfl) w
      · replace w := w.2 c12
        refine ex_aload_n (q := 18) (x := a_0) dX11_told_17 rfl ?_
        refine ex_bipush (q := 20) (v := (-2)) dX11_told_18 (by decide) ?_
        have s62 := w.1
        replace w := w.2
        refine ex_callV (q := 23) (M := mX11_told) (hdd := Nat.le_refl _) (c := 11) (st := []) (bc := bc) (bs := bs) dX11_told_20 rfl cl_X11_120 wd_557 wd_1 s62 w ?_
        rintro r h61 ⟨x63, rfl, w⟩
        show ex_G mX11_told (d + 5) 23 [.ref a_0, .int v_1, .int v_2] [.int x63] h61 bc bs Q
        exact ex_ireturn dX11_told_23 rfl (Or.inl rfl) w

theorem X11_told_e {d bc bs : Nat} {h : AH} {Q : Option Value → AH → Prop} {a_0 : Nat} {v_1 : Int32} {v_2 : Int32} (w : ex_G mX11_told (d + 5) 0 [.ref a_0, .int v_1, .int v_2] [] h bc bs Q) : ex_S yX11_told mX11_told (d + 5) [.ref a_0, .int v_1, .int v_2] h bc bs Q :=
  ex_enter (plainFor_of_name (by decide +kernel)) ⟨rfl, rfl⟩ rfl rfl (Nat.le_of_ble_eq_true rfl) (ex_pad 0 w)

set_option maxRecDepth 100000 in
theorem X11_mirror_0 {d bc bs : Nat} {h : AH} {Q : Option Value → AH → Prop} {a_0 : Nat} {v_1 : Int32} (w : ah_o h a_0 11 ∧ ex_S yX11_hasPicture mX11_hasPicture (d + 4) [.ref a_0, .int v_1] h 0 0 (fun r h1 => ∃ x3, r = some (.int x3) ∧ ((¬ x3 = 0 → ah_o h1 a_0 11 ∧ ∃ a6, ah_r h1 a_0 4 = some a6 ∧ ex_S yX11_isWhole mX11_isWhole (d + 4) [.ref a_0, .int v_1, .ref a6] h1 0 0 (fun r h7 => ∃ x8, r = some (.int x8) ∧ ((¬ x8 = 0 → ah_o h7 a_0 11 ∧ ∃ a11, ah_r h7 a_0 0 = some a11 ∧ ld3 h7 11 a11 v_1 ∧ ∃ a13, ah_q h7 a11 (Int32.toNatClampNeg v_1) = some a13 ∧ ah_o h7 a13 7 ∧ ex_S yX7_remember mX7_remember (d + 4) [.ref a13] h7 1 1620 (fun r h14 => r = none ∧ ex_G mX11_mirror (d + 5) 47 [.ref a_0, .retAddr 0, .ref a13, .int 0] [] h14 bc bs Q)) ∧ (x8 = 0 → ah_o h7 a_0 11 ∧ ex_S yX11_refuse mX11_refuse (d + 4) [.ref a_0, .int (-13)] h7 0 0 (fun r h16 => ∃ x18, r = some (.int x18) ∧ Q (some (.int x18)) h16))))) ∧ (x3 = 0 → ah_o h1 a_0 11 ∧ ex_S yX11_refuse mX11_refuse (d + 4) [.ref a_0, .int (-2)] h1 0 0 (fun r h19 => ∃ x21, r = some (.int x21) ∧ Q (some (.int x21)) h19))))) : ex_G mX11_mirror (d + 5) 0 [.ref a_0, .int v_1, .retAddr 0, .retAddr 0] [] h (bc + 1) (bs + 1620) Q := by
  refine ex_aload_n (q := 1) (x := a_0) dX11_mirror_0 rfl ?_
  refine ex_iload_n (q := 2) (x := v_1) dX11_mirror_1 rfl ?_
  have s2 := w.1
  replace w := w.2
  refine ex_callV (q := 5) (M := mX11_mirror) (hdd := Nat.le_refl _) (c := 11) (st := []) (bc := (bc + 1)) (bs := (bs + 1620)) dX11_mirror_2 rfl cl_X11_134 wd_584 wd_4 s2 w ?_
  rintro r h1 ⟨x3, rfl, w⟩
  show ex_G mX11_mirror (d + 5) 5 [.ref a_0, .int v_1, .retAddr 0, .retAddr 0] [.int x3] h1 (bc + 1) (bs + 1620) Q
  refine ex_if_ne (tgt := 15) (q := 8) dX11_mirror_5 (fun c4 => ?_) (fun c4 => ?_)
  · replace w := w.1 c4
    refine ex_aload_n (q := 16) (x := a_0) dX11_mirror_15 rfl ?_
    refine ex_iload_n (q := 17) (x := v_1) dX11_mirror_16 rfl ?_
    refine ex_aload_n (q := 18) (x := a_0) dX11_mirror_17 rfl ?_
    have s5 := w.1
    replace w := w.2
    obtain ⟨a6, ea6, w⟩ := w
    refine ex_getr (q := 21) dX11_mirror_18 fl_X11_36 s5 ea6 ?_
    refine ex_callV (q := 24) (M := mX11_mirror) (hdd := Nat.le_refl _) (c := 11) (st := []) (bc := (bc + 1)) (bs := (bs + 1620)) dX11_mirror_21 rfl cl_X11_184 wd_695 wd_13 s5 w ?_
    rintro r h7 ⟨x8, rfl, w⟩
    show ex_G mX11_mirror (d + 5) 24 [.ref a_0, .int v_1, .retAddr 0, .retAddr 0] [.int x8] h7 (bc + 1) (bs + 1620) Q
    refine ex_if_ne (tgt := 34) (q := 27) dX11_mirror_24 (fun c9 => ?_) (fun c9 => ?_)
    · replace w := w.1 c9
      refine ex_aload_n (q := 35) (x := a_0) dX11_mirror_34 rfl ?_
      have s10 := w.1
      replace w := w.2
      obtain ⟨a11, ea11, w⟩ := w
      refine ex_getr (q := 38) dX11_mirror_35 fl_X11_11 s10 ea11 ?_
      refine ex_iload_n (q := 39) (x := v_1) dX11_mirror_38 rfl ?_
      have s12 := w.1
      replace w := w.2
      obtain ⟨a13, ea13, w⟩ := w
      refine ex_aald (q := 40) dX11_mirror_39 s12 ea13 ?_
      refine ex_astore_n (q := 41) (ls' := [.ref a_0, .int v_1, .ref a13, .retAddr 0]) dX11_mirror_40 rfl ?_
      refine ex_aload_n (q := 42) (x := a13) dX11_mirror_41 rfl ?_
      refine ex_G.room (bc' := bc + 1) (bs' := bs + 1620) (Nat.le_refl _) (Nat.le_refl _) (Nat.le_refl _) ?_
      have s15 := w.1
      replace w := w.2
      refine ex_callV (q := 45) (M := mX11_mirror) (hdd := Nat.le_refl _) (c := 7) (st := []) (bc := bc) (bs := bs) dX11_mirror_42 rfl cl_X11_201 wd_706 wd_707 s15 w ?_
      rintro r h14 ⟨rfl, w⟩
      show ex_G mX11_mirror (d + 5) 45 [.ref a_0, .int v_1, .ref a13, .retAddr 0] [] h14 bc bs Q
      refine ex_iconst (q := 46) (v := 0) dX11_mirror_45 (by decide) ?_
      refine ex_istore_n (q := 47) (ls' := [.ref a_0, .int v_1, .ref a13, .int 0]) dX11_mirror_46 rfl ?_
      refine ex_kill 1 (ls' := [.ref a_0, .retAddr 0, .ref a13, .int 0]) rfl ?_
      exact w
    · replace w := w.2 c9
      refine ex_aload_n (q := 28) (x := a_0) dX11_mirror_27 rfl ?_
      refine ex_bipush (q := 30) (v := (-13)) dX11_mirror_28 (by decide) ?_
      have s17 := w.1
      replace w := w.2
      refine ex_callV (q := 33) (M := mX11_mirror) (hdd := Nat.le_refl _) (c := 11) (st := []) (bc := (bc + 1)) (bs := (bs + 1620)) dX11_mirror_30 rfl cl_X11_120 wd_557 wd_1 s17 w ?_
      rintro r h16 ⟨x18, rfl, w⟩
      show ex_G mX11_mirror (d + 5) 33 [.ref a_0, .int v_1, .retAddr 0, .retAddr 0] [.int x18] h16 (bc + 1) (bs + 1620) Q
      exact ex_ireturn dX11_mirror_33 rfl (Or.inl rfl) w
  · replace w := w.2 c4
    refine ex_aload_n (q := 9) (x := a_0) dX11_mirror_8 rfl ?_
    refine ex_bipush (q := 11) (v := (-2)) dX11_mirror_9 (by decide) ?_
    have s20 := w.1
    replace w := w.2
    refine ex_callV (q := 14) (M := mX11_mirror) (hdd := Nat.le_refl _) (c := 11) (st := []) (bc := (bc + 1)) (bs := (bs + 1620)) dX11_mirror_11 rfl cl_X11_120 wd_557 wd_1 s20 w ?_
    rintro r h19 ⟨x21, rfl, w⟩
    show ex_G mX11_mirror (d + 5) 14 [.ref a_0, .int v_1, .retAddr 0, .retAddr 0] [.int x21] h19 (bc + 1) (bs + 1620) Q
    exact ex_ireturn dX11_mirror_14 rfl (Or.inl rfl) w

set_option maxRecDepth 100000 in
theorem X11_mirror_47 {d bc bs : Nat} {h : AH} {Q : Option Value → AH → Prop} {a_0 : Nat} {a_2 : Nat} {v_3 : Int32} (w : ah_o h a_2 7 ∧ (((ah_f h a_2 2) ≤ v_3 → ah_o h a_0 11 ∧ ex_S yX11_grant mX11_grant (d + 4) [.ref a_0, .int 1] h 0 0 (fun r h3 => ∃ x5, r = some (.int x5) ∧ Q (some (.int x5)) h3)) ∧ (¬ (ah_f h a_2 2) ≤ v_3 → ex_S yX7_rotate mX7_rotate (d + 4) [.ref a_2, .int v_3, .int 1] h 0 0 (fun r h6 => r = none ∧ ∀ x7, x7 = v_3 + 1 → ex_G mX11_mirror (d + 5) 47 [.ref a_0, .retAddr 0, .ref a_2, .int x7] [] h6 bc bs Q)))) : ex_G mX11_mirror (d + 5) 47 [.ref a_0, .retAddr 0, .ref a_2, .int v_3] [] h bc bs Q := by
  refine ex_iload_n (q := 48) (x := v_3) dX11_mirror_47 rfl ?_
  refine ex_aload_n (q := 49) (x := a_2) dX11_mirror_48 rfl ?_
  have s1 := w.1
  replace w := w.2
  refine ex_getf (q := 52) dX11_mirror_49 fl_X11_141 s1 ?_
  refine ex_icmp_ge (tgt := 67) (q := 55) dX11_mirror_52 (fun c2 => ?_) (fun c2 => ?_)
  · replace w := w.1 c2
    refine ex_aload_n (q := 68) (x := a_0) dX11_mirror_67 rfl ?_
    refine ex_iconst (q := 69) (v := 1) dX11_mirror_68 (by decide) ?_
    have s4 := w.1
    replace w := w.2
    refine ex_callV (q := 72) (M := mX11_mirror) (hdd := Nat.le_refl _) (c := 11) (st := []) (bc := bc) (bs := bs) dX11_mirror_69 rfl cl_X11_131 wd_576 wd_3 s4 w ?_
    rintro r h3 ⟨x5, rfl, w⟩
    show ex_G mX11_mirror (d + 5) 72 [.ref a_0, .retAddr 0, .ref a_2, .int v_3] [.int x5] h3 bc bs Q
    exact ex_ireturn dX11_mirror_72 rfl (Or.inl rfl) w
  · replace w := w.2 c2
    refine ex_aload_n (q := 56) (x := a_2) dX11_mirror_55 rfl ?_
    refine ex_iload_n (q := 57) (x := v_3) dX11_mirror_56 rfl ?_
    refine ex_iconst (q := 58) (v := 1) dX11_mirror_57 (by decide) ?_
    refine ex_callV (q := 61) (M := mX11_mirror) (hdd := Nat.le_refl _) (c := 7) (st := []) (bc := bc) (bs := bs) dX11_mirror_58 rfl cl_X11_204 wd_713 wd_714 s1 w ?_
    rintro r h6 ⟨rfl, w⟩
    show ex_G mX11_mirror (d + 5) 61 [.ref a_0, .retAddr 0, .ref a_2, .int v_3] [] h6 bc bs Q
    obtain ⟨x7, ex7⟩ : ∃ y : Int32, y = v_3 + 1 := ⟨_, rfl⟩
    replace w := w x7 ex7
    refine ex_iinc (q := 64) (x := v_3) (v := x7) (ls' := [.ref a_0, .retAddr 0, .ref a_2, .int x7]) dX11_mirror_61 rfl (by rw [ex7]; rfl) rfl ?_
    refine ex_goto (tgt := 47) dX11_mirror_64 ?_
    exact w

theorem X11_mirror_e {d bc bs : Nat} {h : AH} {Q : Option Value → AH → Prop} {a_0 : Nat} {v_1 : Int32} (w : ex_G mX11_mirror (d + 5) 0 [.ref a_0, .int v_1, .retAddr 0, .retAddr 0] [] h bc bs Q) : ex_S yX11_mirror mX11_mirror (d + 5) [.ref a_0, .int v_1] h bc bs Q :=
  ex_enter (plainFor_of_name (by decide +kernel)) ⟨rfl, rfl⟩ rfl rfl (Nat.le_of_ble_eq_true rfl) (ex_pad 2 w)

set_option maxRecDepth 100000 in
theorem X11_turn_0 {d bc bs : Nat} {h : AH} {Q : Option Value → AH → Prop} {a_0 : Nat} {v_1 : Int32} (w : ah_o h a_0 11 ∧ ex_S yX11_hasPicture mX11_hasPicture (d + 4) [.ref a_0, .int v_1] h 0 0 (fun r h1 => ∃ x3, r = some (.int x3) ∧ ((¬ x3 = 0 → ah_o h1 a_0 11 ∧ ∃ a6, ah_r h1 a_0 4 = some a6 ∧ ex_S yX11_isWhole mX11_isWhole (d + 4) [.ref a_0, .int v_1, .ref a6] h1 0 0 (fun r h7 => ∃ x8, r = some (.int x8) ∧ ((¬ x8 = 0 → ah_o h7 a_0 11 ∧ ∃ a11, ah_r h7 a_0 0 = some a11 ∧ ld3 h7 11 a11 v_1 ∧ ∃ a13, ah_q h7 a11 (Int32.toNatClampNeg v_1) = some a13 ∧ ah_o h7 a13 7 ∧ ex_S yX7_remember mX7_remember (d + 4) [.ref a13] h7 1 1620 (fun r h14 => r = none ∧ ex_G mX11_turn (d + 5) 47 [.ref a_0, .retAddr 0, .ref a13, .int 0] [] h14 bc bs Q)) ∧ (x8 = 0 → ah_o h7 a_0 11 ∧ ex_S yX11_refuse mX11_refuse (d + 4) [.ref a_0, .int (-13)] h7 0 0 (fun r h16 => ∃ x18, r = some (.int x18) ∧ Q (some (.int x18)) h16))))) ∧ (x3 = 0 → ah_o h1 a_0 11 ∧ ex_S yX11_refuse mX11_refuse (d + 4) [.ref a_0, .int (-2)] h1 0 0 (fun r h19 => ∃ x21, r = some (.int x21) ∧ Q (some (.int x21)) h19))))) : ex_G mX11_turn (d + 5) 0 [.ref a_0, .int v_1, .retAddr 0, .retAddr 0] [] h (bc + 1) (bs + 1620) Q := by
  refine ex_aload_n (q := 1) (x := a_0) dX11_turn_0 rfl ?_
  refine ex_iload_n (q := 2) (x := v_1) dX11_turn_1 rfl ?_
  have s2 := w.1
  replace w := w.2
  refine ex_callV (q := 5) (M := mX11_turn) (hdd := Nat.le_refl _) (c := 11) (st := []) (bc := (bc + 1)) (bs := (bs + 1620)) dX11_turn_2 rfl cl_X11_134 wd_584 wd_4 s2 w ?_
  rintro r h1 ⟨x3, rfl, w⟩
  show ex_G mX11_turn (d + 5) 5 [.ref a_0, .int v_1, .retAddr 0, .retAddr 0] [.int x3] h1 (bc + 1) (bs + 1620) Q
  refine ex_if_ne (tgt := 15) (q := 8) dX11_turn_5 (fun c4 => ?_) (fun c4 => ?_)
  · replace w := w.1 c4
    refine ex_aload_n (q := 16) (x := a_0) dX11_turn_15 rfl ?_
    refine ex_iload_n (q := 17) (x := v_1) dX11_turn_16 rfl ?_
    refine ex_aload_n (q := 18) (x := a_0) dX11_turn_17 rfl ?_
    have s5 := w.1
    replace w := w.2
    obtain ⟨a6, ea6, w⟩ := w
    refine ex_getr (q := 21) dX11_turn_18 fl_X11_36 s5 ea6 ?_
    refine ex_callV (q := 24) (M := mX11_turn) (hdd := Nat.le_refl _) (c := 11) (st := []) (bc := (bc + 1)) (bs := (bs + 1620)) dX11_turn_21 rfl cl_X11_184 wd_695 wd_13 s5 w ?_
    rintro r h7 ⟨x8, rfl, w⟩
    show ex_G mX11_turn (d + 5) 24 [.ref a_0, .int v_1, .retAddr 0, .retAddr 0] [.int x8] h7 (bc + 1) (bs + 1620) Q
    refine ex_if_ne (tgt := 34) (q := 27) dX11_turn_24 (fun c9 => ?_) (fun c9 => ?_)
    · replace w := w.1 c9
      refine ex_aload_n (q := 35) (x := a_0) dX11_turn_34 rfl ?_
      have s10 := w.1
      replace w := w.2
      obtain ⟨a11, ea11, w⟩ := w
      refine ex_getr (q := 38) dX11_turn_35 fl_X11_11 s10 ea11 ?_
      refine ex_iload_n (q := 39) (x := v_1) dX11_turn_38 rfl ?_
      have s12 := w.1
      replace w := w.2
      obtain ⟨a13, ea13, w⟩ := w
      refine ex_aald (q := 40) dX11_turn_39 s12 ea13 ?_
      refine ex_astore_n (q := 41) (ls' := [.ref a_0, .int v_1, .ref a13, .retAddr 0]) dX11_turn_40 rfl ?_
      refine ex_aload_n (q := 42) (x := a13) dX11_turn_41 rfl ?_
      refine ex_G.room (bc' := bc + 1) (bs' := bs + 1620) (Nat.le_refl _) (Nat.le_refl _) (Nat.le_refl _) ?_
      have s15 := w.1
      replace w := w.2
      refine ex_callV (q := 45) (M := mX11_turn) (hdd := Nat.le_refl _) (c := 7) (st := []) (bc := bc) (bs := bs) dX11_turn_42 rfl cl_X11_201 wd_706 wd_707 s15 w ?_
      rintro r h14 ⟨rfl, w⟩
      show ex_G mX11_turn (d + 5) 45 [.ref a_0, .int v_1, .ref a13, .retAddr 0] [] h14 bc bs Q
      refine ex_iconst (q := 46) (v := 0) dX11_turn_45 (by decide) ?_
      refine ex_istore_n (q := 47) (ls' := [.ref a_0, .int v_1, .ref a13, .int 0]) dX11_turn_46 rfl ?_
      refine ex_kill 1 (ls' := [.ref a_0, .retAddr 0, .ref a13, .int 0]) rfl ?_
      exact w
    · replace w := w.2 c9
      refine ex_aload_n (q := 28) (x := a_0) dX11_turn_27 rfl ?_
      refine ex_bipush (q := 30) (v := (-13)) dX11_turn_28 (by decide) ?_
      have s17 := w.1
      replace w := w.2
      refine ex_callV (q := 33) (M := mX11_turn) (hdd := Nat.le_refl _) (c := 11) (st := []) (bc := (bc + 1)) (bs := (bs + 1620)) dX11_turn_30 rfl cl_X11_120 wd_557 wd_1 s17 w ?_
      rintro r h16 ⟨x18, rfl, w⟩
      show ex_G mX11_turn (d + 5) 33 [.ref a_0, .int v_1, .retAddr 0, .retAddr 0] [.int x18] h16 (bc + 1) (bs + 1620) Q
      exact ex_ireturn dX11_turn_33 rfl (Or.inl rfl) w
  · replace w := w.2 c4
    refine ex_aload_n (q := 9) (x := a_0) dX11_turn_8 rfl ?_
    refine ex_bipush (q := 11) (v := (-2)) dX11_turn_9 (by decide) ?_
    have s20 := w.1
    replace w := w.2
    refine ex_callV (q := 14) (M := mX11_turn) (hdd := Nat.le_refl _) (c := 11) (st := []) (bc := (bc + 1)) (bs := (bs + 1620)) dX11_turn_11 rfl cl_X11_120 wd_557 wd_1 s20 w ?_
    rintro r h19 ⟨x21, rfl, w⟩
    show ex_G mX11_turn (d + 5) 14 [.ref a_0, .int v_1, .retAddr 0, .retAddr 0] [.int x21] h19 (bc + 1) (bs + 1620) Q
    exact ex_ireturn dX11_turn_14 rfl (Or.inl rfl) w

set_option maxRecDepth 100000 in
theorem X11_turn_47 {d bc bs : Nat} {h : AH} {Q : Option Value → AH → Prop} {a_0 : Nat} {a_2 : Nat} {v_3 : Int32} (w : ah_o h a_2 7 ∧ (((ah_f h a_2 2) ≤ v_3 → ah_o h a_0 11 ∧ ex_S yX11_grant mX11_grant (d + 4) [.ref a_0, .int 1] h 0 0 (fun r h3 => ∃ x5, r = some (.int x5) ∧ Q (some (.int x5)) h3)) ∧ (¬ (ah_f h a_2 2) ≤ v_3 → ex_S yX7_flip mX7_flip (d + 4) [.ref a_2, .int v_3] h 0 0 (fun r h6 => r = none ∧ ∀ x7, x7 = v_3 + 1 → ex_G mX11_turn (d + 5) 47 [.ref a_0, .retAddr 0, .ref a_2, .int x7] [] h6 bc bs Q)))) : ex_G mX11_turn (d + 5) 47 [.ref a_0, .retAddr 0, .ref a_2, .int v_3] [] h bc bs Q := by
  refine ex_iload_n (q := 48) (x := v_3) dX11_turn_47 rfl ?_
  refine ex_aload_n (q := 49) (x := a_2) dX11_turn_48 rfl ?_
  have s1 := w.1
  replace w := w.2
  refine ex_getf (q := 52) dX11_turn_49 fl_X11_141 s1 ?_
  refine ex_icmp_ge (tgt := 66) (q := 55) dX11_turn_52 (fun c2 => ?_) (fun c2 => ?_)
  · replace w := w.1 c2
    refine ex_aload_n (q := 67) (x := a_0) dX11_turn_66 rfl ?_
    refine ex_iconst (q := 68) (v := 1) dX11_turn_67 (by decide) ?_
    have s4 := w.1
    replace w := w.2
    refine ex_callV (q := 71) (M := mX11_turn) (hdd := Nat.le_refl _) (c := 11) (st := []) (bc := bc) (bs := bs) dX11_turn_68 rfl cl_X11_131 wd_576 wd_3 s4 w ?_
    rintro r h3 ⟨x5, rfl, w⟩
    show ex_G mX11_turn (d + 5) 71 [.ref a_0, .retAddr 0, .ref a_2, .int v_3] [.int x5] h3 bc bs Q
    exact ex_ireturn dX11_turn_71 rfl (Or.inl rfl) w
  · replace w := w.2 c2
    refine ex_aload_n (q := 56) (x := a_2) dX11_turn_55 rfl ?_
    refine ex_iload_n (q := 57) (x := v_3) dX11_turn_56 rfl ?_
    refine ex_callV (q := 60) (M := mX11_turn) (hdd := Nat.le_refl _) (c := 7) (st := []) (bc := bc) (bs := bs) dX11_turn_57 rfl cl_X11_207 wd_722 wd_723 s1 w ?_
    rintro r h6 ⟨rfl, w⟩
    show ex_G mX11_turn (d + 5) 60 [.ref a_0, .retAddr 0, .ref a_2, .int v_3] [] h6 bc bs Q
    obtain ⟨x7, ex7⟩ : ∃ y : Int32, y = v_3 + 1 := ⟨_, rfl⟩
    replace w := w x7 ex7
    refine ex_iinc (q := 63) (x := v_3) (v := x7) (ls' := [.ref a_0, .retAddr 0, .ref a_2, .int x7]) dX11_turn_60 rfl (by rw [ex7]; rfl) rfl ?_
    refine ex_goto (tgt := 47) dX11_turn_63 ?_
    exact w

theorem X11_turn_e {d bc bs : Nat} {h : AH} {Q : Option Value → AH → Prop} {a_0 : Nat} {v_1 : Int32} (w : ex_G mX11_turn (d + 5) 0 [.ref a_0, .int v_1, .retAddr 0, .retAddr 0] [] h bc bs Q) : ex_S yX11_turn mX11_turn (d + 5) [.ref a_0, .int v_1] h bc bs Q :=
  ex_enter (plainFor_of_name (by decide +kernel)) ⟨rfl, rfl⟩ rfl rfl (Nat.le_of_ble_eq_true rfl) (ex_pad 2 w)

set_option maxRecDepth 100000 in
theorem X11_join_0 {d bc bs : Nat} {h : AH} {Q : Option Value → AH → Prop} {a_0 : Nat} {v_1 : Int32} {v_2 : Int32} {v_3 : Int32} {v_4 : Int32} (w : ah_o h a_0 11 ∧ ex_S yX11_hasPicture mX11_hasPicture (d + 4) [.ref a_0, .int v_1] h 0 0 (fun r h1 => ∃ x3, r = some (.int x3) ∧ ((x3 = 0 → ah_o h1 a_0 11 ∧ ex_S yX11_refuse mX11_refuse (d + 4) [.ref a_0, .int (-2)] h1 0 0 (fun r h5 => ∃ x7, r = some (.int x7) ∧ Q (some (.int x7)) h5)) ∧ (¬ x3 = 0 → ah_o h1 a_0 11 ∧ ex_S yX11_hasPicture mX11_hasPicture (d + 4) [.ref a_0, .int v_3] h1 0 0 (fun r h8 => ∃ x10, r = some (.int x10) ∧ ((¬ x10 = 0 → ah_o h8 a_0 11 ∧ ex_S yX11_isFull mX11_isFull (d + 4) [.ref a_0] h8 0 0 (fun r h12 => ∃ x14, r = some (.int x14) ∧ ((x14 = 0 → ah_o h12 a_0 11 ∧ ∃ a17, ah_r h12 a_0 4 = some a17 ∧ ex_S yX11_isWhole mX11_isWhole (d + 4) [.ref a_0, .int v_1, .ref a17] h12 0 0 (fun r h18 => ∃ x19, r = some (.int x19) ∧ ((x19 = 0 → ah_o h18 a_0 11 ∧ ex_S yX11_refuse mX11_refuse (d + 4) [.ref a_0, .int (-13)] h18 0 0 (fun r h21 => ∃ x23, r = some (.int x23) ∧ Q (some (.int x23)) h21)) ∧ (¬ x19 = 0 → ah_o h18 a_0 11 ∧ ∃ a25, ah_r h18 a_0 5 = some a25 ∧ ex_S yX11_isWhole mX11_isWhole (d + 4) [.ref a_0, .int v_3, .ref a25] h18 0 0 (fun r h26 => ∃ x27, r = some (.int x27) ∧ ((¬ x27 = 0 → ah_o h26 a_0 11 ∧ ∃ a30, ah_r h26 a_0 4 = some a30 ∧ ah_o h26 a30 4 ∧ ex_S yX4_hasEnd mX4_hasEnd (d + 4) [.ref a30, .int v_2] h26 0 0 (fun r h31 => ∃ x33, r = some (.int x33) ∧ ((x33 = 0 → ah_o h31 a_0 11 ∧ ex_S yX11_refuse mX11_refuse (d + 4) [.ref a_0, .int (-15)] h31 0 0 (fun r h35 => ∃ x37, r = some (.int x37) ∧ Q (some (.int x37)) h35)) ∧ (¬ x33 = 0 → ah_o h31 a_0 11 ∧ ∃ a39, ah_r h31 a_0 5 = some a39 ∧ ah_o h31 a39 4 ∧ ex_S yX4_hasEnd mX4_hasEnd (d + 4) [.ref a39, .int v_4] h31 0 0 (fun r h40 => ∃ x42, r = some (.int x42) ∧ ((¬ x42 = 0 → ah_o h40 a_0 11 ∧ ∃ a45, ah_r h40 a_0 4 = some a45 ∧ ah_o h40 a45 4 ∧ ∃ a47, ah_r h40 a_0 5 = some a47 ∧ ah_o h40 a47 4 ∧ ((40 < ((ah_f h40 a45 10) + (ah_f h40 a47 10)) → ex_S yX11_refuse mX11_refuse (d + 4) [.ref a_0, .int (-18)] h40 0 0 (fun r h50 => ∃ x51, r = some (.int x51) ∧ Q (some (.int x51)) h50)) ∧ (¬ 40 < ((ah_f h40 a45 10) + (ah_f h40 a47 10)) → ((((ah_f h40 a45 11) + (ah_f h40 a47 11)) ≤ 9 → ∃ a53, ah_r h40 a_0 6 = some a53 ∧ ∃ a54, ah_r h40 a_0 0 = some a54 ∧ ld3 h40 11 a54 v_1 ∧ ∃ a56, ah_q h40 a54 (Int32.toNatClampNeg v_1) = some a56 ∧ ah_o h40 a53 7 ∧ ex_S yX7_take mX7_take (d + 4) [.ref a53, .ref a56] h40 0 0 (fun r h57 => r = none ∧ ah_o h57 a_0 11 ∧ ∃ a60, ah_r h57 a_0 6 = some a60 ∧ ∃ a61, ah_r h57 a_0 0 = some a61 ∧ ld3 h57 11 a61 v_3 ∧ ∃ a63, ah_q h57 a61 (Int32.toNatClampNeg v_3) = some a63 ∧ ∃ a64, ah_r h57 a_0 5 = some a64 ∧ ah_o h57 a60 7 ∧ ex_S yX7_append mX7_append (d + 4) [.ref a60, .ref a63, .ref a64] h57 0 0 (fun r h65 => r = none ∧ ah_o h65 a_0 11 ∧ ∃ a68, ah_r h65 a_0 4 = some a68 ∧ ah_o h65 a68 4 ∧ ∀ x70, x70 = 4 * (ah_f h65 a68 10) → ∃ a71, ah_r h65 a_0 6 = some a71 ∧ ah_o h65 a71 7 ∧ ∃ a73, ah_r h65 a71 1 = some a73 ∧ ld0 h65 a73 v_2 ∧ st0 h65 a73 (x70 + v_4) ∧ ∀ h75, h75 = ah_si h65 a73 (Int32.toNatClampNeg (x70 + v_4)) (ah_i h65 a73 (Int32.toNatClampNeg v_2)) → ex_S yX7_freeArc mX7_freeArc (d + 4) [.ref a71, .int (-1)] h75 0 0 (fun r h77 => ∃ x78, r = some (.int x78) ∧ ah_o h77 a_0 11 ∧ ∃ a80, ah_r h77 a_0 6 = some a80 ∧ ah_o h77 a80 7 ∧ ∃ a82, ah_r h77 a80 1 = some a82 ∧ ∃ a83, ah_r h77 a_0 4 = some a83 ∧ ah_o h77 a83 4 ∧ ∃ a85, ah_r h77 a83 0 = some a85 ∧ ld0 h77 a85 v_2 ∧ st0 h77 a82 (ah_i h77 a85 (Int32.toNatClampNeg v_2)) ∧ ∀ h87, h87 = ah_si h77 a82 (Int32.toNatClampNeg (ah_i h77 a85 (Int32.toNatClampNeg v_2))) x78 → ∃ a89, ah_r h87 a_0 5 = some a89 ∧ ah_o h87 a89 4 ∧ ∃ a91, ah_r h87 a89 0 = some a91 ∧ ld0 h87 a91 v_4 ∧ st0 h87 a82 (x70 + (ah_i h87 a91 (Int32.toNatClampNeg v_4))) ∧ ∀ h93, h93 = ah_si h87 a82 (Int32.toNatClampNeg (x70 + (ah_i h87 a91 (Int32.toNatClampNeg v_4)))) x78 → ex_S yX11_addLike mX11_addLike (d + 4) [.ref a_0, .ref a80] h93 3 207 (fun r h95 => ∃ x96, r = some (.int x96) ∧ ah_o h95 a_0 11 ∧ ex_S yX11_grant mX11_grant (d + 4) [.ref a_0, .int x96] h95 0 0 (fun r h97 => ∃ x99, r = some (.int x99) ∧ Q (some (.int x99)) h97)))))) ∧ (¬ ((ah_f h40 a45 11) + (ah_f h40 a47 11)) ≤ 9 → ex_S yX11_refuse mX11_refuse (d + 4) [.ref a_0, .int (-18)] h40 0 0 (fun r h100 => ∃ x101, r = some (.int x101) ∧ Q (some (.int x101)) h100)))))) ∧ (x42 = 0 → ah_o h40 a_0 11 ∧ ex_S yX11_refuse mX11_refuse (d + 4) [.ref a_0, .int (-15)] h40 0 0 (fun r h102 => ∃ x104, r = some (.int x104) ∧ Q (some (.int x104)) h102)))))))) ∧ (x27 = 0 → ah_o h26 a_0 11 ∧ ex_S yX11_refuse mX11_refuse (d + 4) [.ref a_0, .int (-13)] h26 0 0 (fun r h105 => ∃ x107, r = some (.int x107) ∧ Q (some (.int x107)) h105)))))))) ∧ (¬ x14 = 0 → ah_o h12 a_0 11 ∧ ex_S yX11_refuse mX11_refuse (d + 4) [.ref a_0, .int (-3)] h12 0 0 (fun r h108 => ∃ x110, r = some (.int x110) ∧ Q (some (.int x110)) h108))))) ∧ (x10 = 0 → ah_o h8 a_0 11 ∧ ex_S yX11_refuse mX11_refuse (d + 4) [.ref a_0, .int (-2)] h8 0 0 (fun r h111 => ∃ x113, r = some (.int x113) ∧ Q (some (.int x113)) h111)))))))) : ex_G mX11_join (d + 5) 0 [.ref a_0, .int v_1, .int v_2, .int v_3, .int v_4, .retAddr 0, .retAddr 0] [] h (bc + 3) (bs + 207) Q := by
  refine ex_aload_n (q := 1) (x := a_0) dX11_join_0 rfl ?_
  refine ex_iload_n (q := 2) (x := v_1) dX11_join_1 rfl ?_
  have s2 := w.1
  replace w := w.2
  refine ex_callV (q := 5) (M := mX11_join) (hdd := Nat.le_refl _) (c := 11) (st := []) (bc := (bc + 3)) (bs := (bs + 207)) dX11_join_2 rfl cl_X11_134 wd_584 wd_4 s2 w ?_
  rintro r h1 ⟨x3, rfl, w⟩
  show ex_G mX11_join (d + 5) 5 [.ref a_0, .int v_1, .int v_2, .int v_3, .int v_4, .retAddr 0, .retAddr 0] [.int x3] h1 (bc + 3) (bs + 207) Q
  refine ex_if_eq (tgt := 16) (q := 8) dX11_join_5 (fun c4 => ?_) (fun c4 => ?_)
  · replace w := w.1 c4
    refine ex_aload_n (q := 17) (x := a_0) dX11_join_16 rfl ?_
    refine ex_bipush (q := 19) (v := (-2)) dX11_join_17 (by decide) ?_
    have s6 := w.1
    replace w := w.2
    refine ex_callV (q := 22) (M := mX11_join) (hdd := Nat.le_refl _) (c := 11) (st := []) (bc := (bc + 3)) (bs := (bs + 207)) dX11_join_19 rfl cl_X11_120 wd_557 wd_1 s6 w ?_
    rintro r h5 ⟨x7, rfl, w⟩
    show ex_G mX11_join (d + 5) 22 [.ref a_0, .int v_1, .int v_2, .int v_3, .int v_4, .retAddr 0, .retAddr 0] [.int x7] h5 (bc + 3) (bs + 207) Q
    exact ex_ireturn dX11_join_22 rfl (Or.inl rfl) w
  · replace w := w.2 c4
    refine ex_aload_n (q := 9) (x := a_0) dX11_join_8 rfl ?_
    refine ex_iload_n (q := 10) (x := v_3) dX11_join_9 rfl ?_
    have s9 := w.1
    replace w := w.2
    refine ex_callV (q := 13) (M := mX11_join) (hdd := Nat.le_refl _) (c := 11) (st := []) (bc := (bc + 3)) (bs := (bs + 207)) dX11_join_10 rfl cl_X11_134 wd_584 wd_4 s9 w ?_
    rintro r h8 ⟨x10, rfl, w⟩
    show ex_G mX11_join (d + 5) 13 [.ref a_0, .int v_1, .int v_2, .int v_3, .int v_4, .retAddr 0, .retAddr 0] [.int x10] h8 (bc + 3) (bs + 207) Q
    refine ex_if_ne (tgt := 23) (q := 16) dX11_join_13 (fun c11 => ?_) (fun c11 => ?_)
    · replace w := w.1 c11
      refine ex_aload_n (q := 24) (x := a_0) dX11_join_23 rfl ?_
      have s13 := w.1
      replace w := w.2
      refine ex_callV (q := 27) (M := mX11_join) (hdd := Nat.le_refl _) (c := 11) (st := []) (bc := (bc + 3)) (bs := (bs + 207)) dX11_join_24 rfl cl_X11_116 wd_553 wd_0 s13 w ?_
      rintro r h12 ⟨x14, rfl, w⟩
      show ex_G mX11_join (d + 5) 27 [.ref a_0, .int v_1, .int v_2, .int v_3, .int v_4, .retAddr 0, .retAddr 0] [.int x14] h12 (bc + 3) (bs + 207) Q
      refine ex_if_eq (tgt := 37) (q := 30) dX11_join_27 (fun c15 => ?_) (fun c15 => ?_)
      · replace w := w.1 c15
        refine ex_aload_n (q := 38) (x := a_0) dX11_join_37 rfl ?_
        refine ex_iload_n (q := 39) (x := v_1) dX11_join_38 rfl ?_
        refine ex_aload_n (q := 40) (x := a_0) dX11_join_39 rfl ?_
        have s16 := w.1
        replace w := w.2
        obtain ⟨a17, ea17, w⟩ := w
        refine ex_getr (q := 43) dX11_join_40 fl_X11_36 s16 ea17 ?_
        refine ex_callV (q := 46) (M := mX11_join) (hdd := Nat.le_refl _) (c := 11) (st := []) (bc := (bc + 3)) (bs := (bs + 207)) dX11_join_43 rfl cl_X11_184 wd_695 wd_13 s16 w ?_
        rintro r h18 ⟨x19, rfl, w⟩
        show ex_G mX11_join (d + 5) 46 [.ref a_0, .int v_1, .int v_2, .int v_3, .int v_4, .retAddr 0, .retAddr 0] [.int x19] h18 (bc + 3) (bs + 207) Q
        refine ex_if_eq (tgt := 61) (q := 49) dX11_join_46 (fun c20 => ?_) (fun c20 => ?_)
        · replace w := w.1 c20
          refine ex_aload_n (q := 62) (x := a_0) dX11_join_61 rfl ?_
          refine ex_bipush (q := 64) (v := (-13)) dX11_join_62 (by decide) ?_
          have s22 := w.1
          replace w := w.2
          refine ex_callV (q := 67) (M := mX11_join) (hdd := Nat.le_refl _) (c := 11) (st := []) (bc := (bc + 3)) (bs := (bs + 207)) dX11_join_64 rfl cl_X11_120 wd_557 wd_1 s22 w ?_
          rintro r h21 ⟨x23, rfl, w⟩
          show ex_G mX11_join (d + 5) 67 [.ref a_0, .int v_1, .int v_2, .int v_3, .int v_4, .retAddr 0, .retAddr 0] [.int x23] h21 (bc + 3) (bs + 207) Q
          exact ex_ireturn dX11_join_67 rfl (Or.inl rfl) w
        · replace w := w.2 c20
          refine ex_aload_n (q := 50) (x := a_0) dX11_join_49 rfl ?_
          refine ex_iload_n (q := 51) (x := v_3) dX11_join_50 rfl ?_
          refine ex_aload_n (q := 52) (x := a_0) dX11_join_51 rfl ?_
          have s24 := w.1
          replace w := w.2
          obtain ⟨a25, ea25, w⟩ := w
          refine ex_getr (q := 55) dX11_join_52 fl_X11_40 s24 ea25 ?_
          refine ex_callV (q := 58) (M := mX11_join) (hdd := Nat.le_refl _) (c := 11) (st := []) (bc := (bc + 3)) (bs := (bs + 207)) dX11_join_55 rfl cl_X11_184 wd_695 wd_13 s24 w ?_
          rintro r h26 ⟨x27, rfl, w⟩
          show ex_G mX11_join (d + 5) 58 [.ref a_0, .int v_1, .int v_2, .int v_3, .int v_4, .retAddr 0, .retAddr 0] [.int x27] h26 (bc + 3) (bs + 207) Q
          refine ex_if_ne (tgt := 68) (q := 61) dX11_join_58 (fun c28 => ?_) (fun c28 => ?_)
          · replace w := w.1 c28
            refine ex_aload_n (q := 69) (x := a_0) dX11_join_68 rfl ?_
            have s29 := w.1
            replace w := w.2
            obtain ⟨a30, ea30, w⟩ := w
            refine ex_getr (q := 72) dX11_join_69 fl_X11_36 s29 ea30 ?_
            refine ex_iload_n (q := 73) (x := v_2) dX11_join_72 rfl ?_
            have s32 := w.1
            replace w := w.2
            refine ex_callV (q := 76) (M := mX11_join) (hdd := Nat.le_refl _) (c := 4) (st := []) (bc := (bc + 3)) (bs := (bs + 207)) dX11_join_73 rfl cl_X11_210 wd_734 wd_735 s32 w ?_
            rintro r h31 ⟨x33, rfl, w⟩
            show ex_G mX11_join (d + 5) 76 [.ref a_0, .int v_1, .int v_2, .int v_3, .int v_4, .retAddr 0, .retAddr 0] [.int x33] h31 (bc + 3) (bs + 207) Q
            refine ex_if_eq (tgt := 91) (q := 79) dX11_join_76 (fun c34 => ?_) (fun c34 => ?_)
            · replace w := w.1 c34
              refine ex_aload_n (q := 92) (x := a_0) dX11_join_91 rfl ?_
              refine ex_bipush (q := 94) (v := (-15)) dX11_join_92 (by decide) ?_
              have s36 := w.1
              replace w := w.2
              refine ex_callV (q := 97) (M := mX11_join) (hdd := Nat.le_refl _) (c := 11) (st := []) (bc := (bc + 3)) (bs := (bs + 207)) dX11_join_94 rfl cl_X11_120 wd_557 wd_1 s36 w ?_
              rintro r h35 ⟨x37, rfl, w⟩
              show ex_G mX11_join (d + 5) 97 [.ref a_0, .int v_1, .int v_2, .int v_3, .int v_4, .retAddr 0, .retAddr 0] [.int x37] h35 (bc + 3) (bs + 207) Q
              exact ex_ireturn dX11_join_97 rfl (Or.inl rfl) w
            · replace w := w.2 c34
              refine ex_aload_n (q := 80) (x := a_0) dX11_join_79 rfl ?_
              have s38 := w.1
              replace w := w.2
              obtain ⟨a39, ea39, w⟩ := w
              refine ex_getr (q := 83) dX11_join_80 fl_X11_40 s38 ea39 ?_
              refine ex_iload (q := 85) (x := v_4) dX11_join_83 rfl ?_
              have s41 := w.1
              replace w := w.2
              refine ex_callV (q := 88) (M := mX11_join) (hdd := Nat.le_refl _) (c := 4) (st := []) (bc := (bc + 3)) (bs := (bs + 207)) dX11_join_85 rfl cl_X11_210 wd_734 wd_735 s41 w ?_
              rintro r h40 ⟨x42, rfl, w⟩
              show ex_G mX11_join (d + 5) 88 [.ref a_0, .int v_1, .int v_2, .int v_3, .int v_4, .retAddr 0, .retAddr 0] [.int x42] h40 (bc + 3) (bs + 207) Q
              refine ex_if_ne (tgt := 98) (q := 91) dX11_join_88 (fun c43 => ?_) (fun c43 => ?_)
              · replace w := w.1 c43
                refine ex_aload_n (q := 99) (x := a_0) dX11_join_98 rfl ?_
                have s44 := w.1
                replace w := w.2
                obtain ⟨a45, ea45, w⟩ := w
                refine ex_getr (q := 102) dX11_join_99 fl_X11_36 s44 ea45 ?_
                have s46 := w.1
                replace w := w.2
                refine ex_getf (q := 105) dX11_join_102 fl_X11_213 s46 ?_
                refine ex_aload_n (q := 106) (x := a_0) dX11_join_105 rfl ?_
                obtain ⟨a47, ea47, w⟩ := w
                refine ex_getr (q := 109) dX11_join_106 fl_X11_40 s44 ea47 ?_
                have s48 := w.1
                replace w := w.2
                refine ex_getf (q := 112) dX11_join_109 fl_X11_213 s48 ?_
                refine ex_iadd (q := 113) dX11_join_112 ?_
                refine ex_bipush (q := 115) (v := 40) dX11_join_113 (by decide) ?_
                refine ex_icmp_gt (tgt := 138) (q := 118) dX11_join_115 (fun c49 => ?_) (fun c49 => ?_)
                · replace w := w.1 c49
                  refine ex_aload_n (q := 139) (x := a_0) dX11_join_138 rfl ?_
                  refine ex_bipush (q := 141) (v := (-18)) dX11_join_139 (by decide) ?_
                  refine ex_callV (q := 144) (M := mX11_join) (hdd := Nat.le_refl _) (c := 11) (st := []) (bc := (bc + 3)) (bs := (bs + 207)) dX11_join_141 rfl cl_X11_120 wd_557 wd_1 s44 w ?_
                  rintro r h50 ⟨x51, rfl, w⟩
                  show ex_G mX11_join (d + 5) 144 [.ref a_0, .int v_1, .int v_2, .int v_3, .int v_4, .retAddr 0, .retAddr 0] [.int x51] h50 (bc + 3) (bs + 207) Q
                  exact ex_ireturn dX11_join_144 rfl (Or.inl rfl) w
                · replace w := w.2 c49
                  refine ex_aload_n (q := 119) (x := a_0) dX11_join_118 rfl ?_
                  refine ex_getr (q := 122) dX11_join_119 fl_X11_36 s44 ea45 ?_
                  refine ex_getf (q := 125) dX11_join_122 fl_X11_214 s46 ?_
                  refine ex_aload_n (q := 126) (x := a_0) dX11_join_125 rfl ?_
                  refine ex_getr (q := 129) dX11_join_126 fl_X11_40 s44 ea47 ?_
                  refine ex_getf (q := 132) dX11_join_129 fl_X11_214 s48 ?_
                  refine ex_iadd (q := 133) dX11_join_132 ?_
                  refine ex_bipush (q := 135) (v := 9) dX11_join_133 (by decide) ?_
                  refine ex_icmp_le (tgt := 145) (q := 138) dX11_join_135 (fun c52 => ?_) (fun c52 => ?_)
                  · replace w := w.1 c52
                    refine ex_aload_n (q := 146) (x := a_0) dX11_join_145 rfl ?_
                    obtain ⟨a53, ea53, w⟩ := w
                    refine ex_getr (q := 149) dX11_join_146 fl_X11_44 s44 ea53 ?_
                    refine ex_aload_n (q := 150) (x := a_0) dX11_join_149 rfl ?_
                    obtain ⟨a54, ea54, w⟩ := w
                    refine ex_getr (q := 153) dX11_join_150 fl_X11_11 s44 ea54 ?_
                    refine ex_iload_n (q := 154) (x := v_1) dX11_join_153 rfl ?_
                    have s55 := w.1
                    replace w := w.2
                    obtain ⟨a56, ea56, w⟩ := w
                    refine ex_aald (q := 155) dX11_join_154 s55 ea56 ?_
                    have s58 := w.1
                    replace w := w.2
                    refine ex_callV (q := 158) (M := mX11_join) (hdd := Nat.le_refl _) (c := 7) (st := []) (bc := (bc + 3)) (bs := (bs + 207)) dX11_join_155 rfl cl_X11_113 wd_568 wd_569 s58 w ?_
                    rintro r h57 ⟨rfl, w⟩
                    show ex_G mX11_join (d + 5) 158 [.ref a_0, .int v_1, .int v_2, .int v_3, .int v_4, .retAddr 0, .retAddr 0] [] h57 (bc + 3) (bs + 207) Q
                    refine ex_aload_n (q := 159) (x := a_0) dX11_join_158 rfl ?_
                    have s59 := w.1
                    replace w := w.2
                    obtain ⟨a60, ea60, w⟩ := w
                    refine ex_getr (q := 162) dX11_join_159 fl_X11_44 s59 ea60 ?_
                    refine ex_aload_n (q := 163) (x := a_0) dX11_join_162 rfl ?_
                    obtain ⟨a61, ea61, w⟩ := w
                    refine ex_getr (q := 166) dX11_join_163 fl_X11_11 s59 ea61 ?_
                    refine ex_iload_n (q := 167) (x := v_3) dX11_join_166 rfl ?_
                    have s62 := w.1
                    replace w := w.2
                    obtain ⟨a63, ea63, w⟩ := w
                    refine ex_aald (q := 168) dX11_join_167 s62 ea63 ?_
                    refine ex_aload_n (q := 169) (x := a_0) dX11_join_168 rfl ?_
                    obtain ⟨a64, ea64, w⟩ := w
                    refine ex_getr (q := 172) dX11_join_169 fl_X11_40 s59 ea64 ?_
                    have s66 := w.1
                    replace w := w.2
                    refine ex_callV (q := 175) (M := mX11_join) (hdd := Nat.le_refl _) (c := 7) (st := []) (bc := (bc + 3)) (bs := (bs + 207)) dX11_join_172 rfl cl_X11_215 wd_738 wd_739 s66 w ?_
                    rintro r h65 ⟨rfl, w⟩
                    show ex_G mX11_join (d + 5) 175 [.ref a_0, .int v_1, .int v_2, .int v_3, .int v_4, .retAddr 0, .retAddr 0] [] h65 (bc + 3) (bs + 207) Q
                    refine ex_iconst (q := 176) (v := 4) dX11_join_175 (by decide) ?_
                    refine ex_aload_n (q := 177) (x := a_0) dX11_join_176 rfl ?_
                    have s67 := w.1
                    replace w := w.2
                    obtain ⟨a68, ea68, w⟩ := w
                    refine ex_getr (q := 180) dX11_join_177 fl_X11_36 s67 ea68 ?_
                    have s69 := w.1
                    replace w := w.2
                    refine ex_getf (q := 183) dX11_join_180 fl_X11_213 s69 ?_
                    refine ex_imul (q := 184) dX11_join_183 ?_
                    refine ex_nmi (fun x70 ex70 => ?_)
                    replace w := w x70 ex70
                    refine ex_istore (q := 186) (ls' := [.ref a_0, .int v_1, .int v_2, .int v_3, .int v_4, .int x70, .retAddr 0]) dX11_join_184 rfl ?_
                    refine ex_aload_n (q := 187) (x := a_0) dX11_join_186 rfl ?_
                    obtain ⟨a71, ea71, w⟩ := w
                    refine ex_getr (q := 190) dX11_join_187 fl_X11_44 s67 ea71 ?_
                    have s72 := w.1
                    replace w := w.2
                    obtain ⟨a73, ea73, w⟩ := w
                    refine ex_getr (q := 193) dX11_join_190 fl_X11_165 s72 ea73 ?_
                    refine ex_iload (q := 195) (x := x70) dX11_join_193 rfl ?_
                    refine ex_iload (q := 197) (x := v_4) dX11_join_195 rfl ?_
                    refine ex_iadd (q := 198) dX11_join_197 ?_
                    refine ex_aload_n (q := 199) (x := a_0) dX11_join_198 rfl ?_
                    refine ex_getr (q := 202) dX11_join_199 fl_X11_44 s67 ea71 ?_
                    refine ex_getr (q := 205) dX11_join_202 fl_X11_165 s72 ea73 ?_
                    refine ex_iload_n (q := 206) (x := v_2) dX11_join_205 rfl ?_
                    have s74 := w.1
                    replace w := w.2
                    refine ex_iald (q := 207) dX11_join_206 s74 ?_
                    have s76 := w.1
                    replace w := w.2
                    refine ex_iast (q := 208) dX11_join_207 s76 ?_
                    refine ex_nmh (fun h75 eh75 => ?_)
                    replace w := w h75 eh75
                    refine ex_aload_n (q := 209) (x := a_0) dX11_join_208 rfl ?_
                    refine ex_getr (q := 212) dX11_join_209 fl_X11_44 (by rw [eh75]; exact s67) (by rw [eh75]; exact ea71) ?_
                    refine ex_iconst (q := 213) (v := (-1)) dX11_join_212 (by decide) ?_
                    refine ex_callV (q := 216) (M := mX11_join) (hdd := Nat.le_refl _) (c := 7) (st := []) (bc := (bc + 3)) (bs := (bs + 207)) dX11_join_213 rfl cl_X11_219 wd_743 wd_744 (by rw [eh75]; exact s72) w ?_
                    rintro r h77 ⟨x78, rfl, w⟩
                    show ex_G mX11_join (d + 5) 216 [.ref a_0, .int v_1, .int v_2, .int v_3, .int v_4, .int x70, .retAddr 0] [.int x78] h77 (bc + 3) (bs + 207) Q
                    refine ex_istore (q := 218) (ls' := [.ref a_0, .int v_1, .int v_2, .int v_3, .int v_4, .int x70, .int x78]) dX11_join_216 rfl ?_
                    refine ex_aload_n (q := 219) (x := a_0) dX11_join_218 rfl ?_
                    have s79 := w.1
                    replace w := w.2
                    obtain ⟨a80, ea80, w⟩ := w
                    refine ex_getr (q := 222) dX11_join_219 fl_X11_44 s79 ea80 ?_
                    have s81 := w.1
                    replace w := w.2
                    obtain ⟨a82, ea82, w⟩ := w
                    refine ex_getr (q := 225) dX11_join_222 fl_X11_165 s81 ea82 ?_
                    refine ex_aload_n (q := 226) (x := a_0) dX11_join_225 rfl ?_
                    obtain ⟨a83, ea83, w⟩ := w
                    refine ex_getr (q := 229) dX11_join_226 fl_X11_36 s79 ea83 ?_
                    have s84 := w.1
                    replace w := w.2
                    obtain ⟨a85, ea85, w⟩ := w
                    refine ex_getr (q := 232) dX11_join_229 fl_X11_222 s84 ea85 ?_
                    refine ex_iload_n (q := 233) (x := v_2) dX11_join_232 rfl ?_
                    have s86 := w.1
                    replace w := w.2
                    refine ex_iald (q := 234) dX11_join_233 s86 ?_
                    refine ex_iload (q := 236) (x := x78) dX11_join_234 rfl ?_
                    have s88 := w.1
                    replace w := w.2
                    refine ex_iast (q := 237) dX11_join_236 s88 ?_
                    refine ex_nmh (fun h87 eh87 => ?_)
                    replace w := w h87 eh87
                    refine ex_aload_n (q := 238) (x := a_0) dX11_join_237 rfl ?_
                    refine ex_getr (q := 241) dX11_join_238 fl_X11_44 (by rw [eh87]; exact s79) (by rw [eh87]; exact ea80) ?_
                    refine ex_getr (q := 244) dX11_join_241 fl_X11_165 (by rw [eh87]; exact s81) (by rw [eh87]; exact ea82) ?_
                    refine ex_iload (q := 246) (x := x70) dX11_join_244 rfl ?_
                    refine ex_aload_n (q := 247) (x := a_0) dX11_join_246 rfl ?_
                    obtain ⟨a89, ea89, w⟩ := w
                    refine ex_getr (q := 250) dX11_join_247 fl_X11_40 (by rw [eh87]; exact s79) ea89 ?_
                    have s90 := w.1
                    replace w := w.2
                    obtain ⟨a91, ea91, w⟩ := w
                    refine ex_getr (q := 253) dX11_join_250 fl_X11_222 s90 ea91 ?_
                    refine ex_iload (q := 255) (x := v_4) dX11_join_253 rfl ?_
                    have s92 := w.1
                    replace w := w.2
                    refine ex_iald (q := 256) dX11_join_255 s92 ?_
                    refine ex_iadd (q := 257) dX11_join_256 ?_
                    refine ex_iload (q := 259) (x := x78) dX11_join_257 rfl ?_
                    have s94 := w.1
                    replace w := w.2
                    refine ex_iast (q := 260) dX11_join_259 s94 ?_
                    refine ex_nmh (fun h93 eh93 => ?_)
                    replace w := w h93 eh93
                    refine ex_aload_n (q := 261) (x := a_0) dX11_join_260 rfl ?_
                    refine ex_aload_n (q := 262) (x := a_0) dX11_join_261 rfl ?_
                    refine ex_aload_n (q := 263) (x := a_0) dX11_join_262 rfl ?_
                    refine ex_getr (q := 266) dX11_join_263 fl_X11_44 (by rw [eh93]; exact (by rw [eh87]; exact s79)) (by rw [eh93]; exact (by rw [eh87]; exact ea80)) ?_
                    refine ex_G.room (bc' := bc + 3) (bs' := bs + 207) (Nat.le_refl _) (Nat.le_refl _) (Nat.le_refl _) ?_
                    refine ex_callV (q := 269) (M := mX11_join) (hdd := Nat.le_refl _) (c := 11) (st := [.ref a_0]) (bc := bc) (bs := bs) dX11_join_266 rfl cl_X11_127 wd_565 wd_2 (by rw [eh93]; exact (by rw [eh87]; exact s79)) w ?_
                    rintro r h95 ⟨x96, rfl, w⟩
                    show ex_G mX11_join (d + 5) 269 [.ref a_0, .int v_1, .int v_2, .int v_3, .int v_4, .int x70, .int x78] [.int x96, .ref a_0] h95 bc bs Q
                    have s98 := w.1
                    replace w := w.2
                    refine ex_callV (q := 272) (M := mX11_join) (hdd := Nat.le_refl _) (c := 11) (st := []) (bc := bc) (bs := bs) dX11_join_269 rfl cl_X11_131 wd_576 wd_3 s98 w ?_
                    rintro r h97 ⟨x99, rfl, w⟩
                    show ex_G mX11_join (d + 5) 272 [.ref a_0, .int v_1, .int v_2, .int v_3, .int v_4, .int x70, .int x78] [.int x99] h97 bc bs Q
                    exact ex_ireturn dX11_join_272 rfl (Or.inl rfl) w
                  · replace w := w.2 c52
                    refine ex_aload_n (q := 139) (x := a_0) dX11_join_138 rfl ?_
                    refine ex_bipush (q := 141) (v := (-18)) dX11_join_139 (by decide) ?_
                    refine ex_callV (q := 144) (M := mX11_join) (hdd := Nat.le_refl _) (c := 11) (st := []) (bc := (bc + 3)) (bs := (bs + 207)) dX11_join_141 rfl cl_X11_120 wd_557 wd_1 s44 w ?_
                    rintro r h100 ⟨x101, rfl, w⟩
                    show ex_G mX11_join (d + 5) 144 [.ref a_0, .int v_1, .int v_2, .int v_3, .int v_4, .retAddr 0, .retAddr 0] [.int x101] h100 (bc + 3) (bs + 207) Q
                    exact ex_ireturn dX11_join_144 rfl (Or.inl rfl) w
              · replace w := w.2 c43
                refine ex_aload_n (q := 92) (x := a_0) dX11_join_91 rfl ?_
                refine ex_bipush (q := 94) (v := (-15)) dX11_join_92 (by decide) ?_
                have s103 := w.1
                replace w := w.2
                refine ex_callV (q := 97) (M := mX11_join) (hdd := Nat.le_refl _) (c := 11) (st := []) (bc := (bc + 3)) (bs := (bs + 207)) dX11_join_94 rfl cl_X11_120 wd_557 wd_1 s103 w ?_
                rintro r h102 ⟨x104, rfl, w⟩
                show ex_G mX11_join (d + 5) 97 [.ref a_0, .int v_1, .int v_2, .int v_3, .int v_4, .retAddr 0, .retAddr 0] [.int x104] h102 (bc + 3) (bs + 207) Q
                exact ex_ireturn dX11_join_97 rfl (Or.inl rfl) w
          · replace w := w.2 c28
            refine ex_aload_n (q := 62) (x := a_0) dX11_join_61 rfl ?_
            refine ex_bipush (q := 64) (v := (-13)) dX11_join_62 (by decide) ?_
            have s106 := w.1
            replace w := w.2
            refine ex_callV (q := 67) (M := mX11_join) (hdd := Nat.le_refl _) (c := 11) (st := []) (bc := (bc + 3)) (bs := (bs + 207)) dX11_join_64 rfl cl_X11_120 wd_557 wd_1 s106 w ?_
            rintro r h105 ⟨x107, rfl, w⟩
            show ex_G mX11_join (d + 5) 67 [.ref a_0, .int v_1, .int v_2, .int v_3, .int v_4, .retAddr 0, .retAddr 0] [.int x107] h105 (bc + 3) (bs + 207) Q
            exact ex_ireturn dX11_join_67 rfl (Or.inl rfl) w
      · replace w := w.2 c15
        refine ex_aload_n (q := 31) (x := a_0) dX11_join_30 rfl ?_
        refine ex_bipush (q := 33) (v := (-3)) dX11_join_31 (by decide) ?_
        have s109 := w.1
        replace w := w.2
        refine ex_callV (q := 36) (M := mX11_join) (hdd := Nat.le_refl _) (c := 11) (st := []) (bc := (bc + 3)) (bs := (bs + 207)) dX11_join_33 rfl cl_X11_120 wd_557 wd_1 s109 w ?_
        rintro r h108 ⟨x110, rfl, w⟩
        show ex_G mX11_join (d + 5) 36 [.ref a_0, .int v_1, .int v_2, .int v_3, .int v_4, .retAddr 0, .retAddr 0] [.int x110] h108 (bc + 3) (bs + 207) Q
        exact ex_ireturn dX11_join_36 rfl (Or.inl rfl) w
    · replace w := w.2 c11
      refine ex_aload_n (q := 17) (x := a_0) dX11_join_16 rfl ?_
      refine ex_bipush (q := 19) (v := (-2)) dX11_join_17 (by decide) ?_
      have s112 := w.1
      replace w := w.2
      refine ex_callV (q := 22) (M := mX11_join) (hdd := Nat.le_refl _) (c := 11) (st := []) (bc := (bc + 3)) (bs := (bs + 207)) dX11_join_19 rfl cl_X11_120 wd_557 wd_1 s112 w ?_
      rintro r h111 ⟨x113, rfl, w⟩
      show ex_G mX11_join (d + 5) 22 [.ref a_0, .int v_1, .int v_2, .int v_3, .int v_4, .retAddr 0, .retAddr 0] [.int x113] h111 (bc + 3) (bs + 207) Q
      exact ex_ireturn dX11_join_22 rfl (Or.inl rfl) w

theorem X11_join_e {d bc bs : Nat} {h : AH} {Q : Option Value → AH → Prop} {a_0 : Nat} {v_1 : Int32} {v_2 : Int32} {v_3 : Int32} {v_4 : Int32} (w : ex_G mX11_join (d + 5) 0 [.ref a_0, .int v_1, .int v_2, .int v_3, .int v_4, .retAddr 0, .retAddr 0] [] h bc bs Q) : ex_S yX11_join mX11_join (d + 5) [.ref a_0, .int v_1, .int v_2, .int v_3, .int v_4] h bc bs Q :=
  ex_enter (plainFor_of_name (by decide +kernel)) ⟨rfl, rfl⟩ rfl rfl (Nat.le_of_ble_eq_true rfl) (ex_pad 2 w)

set_option maxRecDepth 100000 in
theorem X11_twin_0 {d bc bs : Nat} {h : AH} {Q : Option Value → AH → Prop} {a_0 : Nat} {v_1 : Int32} (w : ah_o h a_0 11 ∧ ex_S yX11_hasPicture mX11_hasPicture (d + 2) [.ref a_0, .int v_1] h 0 0 (fun r h1 => ∃ x3, r = some (.int x3) ∧ ((¬ x3 = 0 → ah_o h1 a_0 11 ∧ ex_S yX11_isFull mX11_isFull (d + 2) [.ref a_0] h1 0 0 (fun r h5 => ∃ x7, r = some (.int x7) ∧ ((x7 = 0 → ah_o h5 a_0 11 ∧ ∃ a10, ah_r h5 a_0 0 = some a10 ∧ ld3 h5 11 a10 v_1 ∧ ∃ a12, ah_q h5 a10 (Int32.toNatClampNeg v_1) = some a12 ∧ ex_S yX11_addLike mX11_addLike (d + 2) [.ref a_0, .ref a12] h5 3 207 (fun r h13 => ∃ x14, r = some (.int x14) ∧ ah_o h13 a_0 11 ∧ ex_S yX11_grant mX11_grant (d + 2) [.ref a_0, .int x14] h13 0 0 (fun r h15 => ∃ x17, r = some (.int x17) ∧ Q (some (.int x17)) h15))) ∧ (¬ x7 = 0 → ah_o h5 a_0 11 ∧ ex_S yX11_refuse mX11_refuse (d + 2) [.ref a_0, .int (-3)] h5 0 0 (fun r h18 => ∃ x20, r = some (.int x20) ∧ Q (some (.int x20)) h18))))) ∧ (x3 = 0 → ah_o h1 a_0 11 ∧ ex_S yX11_refuse mX11_refuse (d + 2) [.ref a_0, .int (-2)] h1 0 0 (fun r h21 => ∃ x23, r = some (.int x23) ∧ Q (some (.int x23)) h21))))) : ex_G mX11_twin (d + 3) 0 [.ref a_0, .int v_1] [] h (bc + 3) (bs + 207) Q := by
  refine ex_aload_n (q := 1) (x := a_0) dX11_twin_0 rfl ?_
  refine ex_iload_n (q := 2) (x := v_1) dX11_twin_1 rfl ?_
  have s2 := w.1
  replace w := w.2
  refine ex_callV (q := 5) (M := mX11_twin) (hdd := Nat.le_refl _) (c := 11) (st := []) (bc := (bc + 3)) (bs := (bs + 207)) dX11_twin_2 rfl cl_X11_134 wd_584 wd_4 s2 w ?_
  rintro r h1 ⟨x3, rfl, w⟩
  show ex_G mX11_twin (d + 3) 5 [.ref a_0, .int v_1] [.int x3] h1 (bc + 3) (bs + 207) Q
  refine ex_if_ne (tgt := 15) (q := 8) dX11_twin_5 (fun c4 => ?_) (fun c4 => ?_)
  · replace w := w.1 c4
    refine ex_aload_n (q := 16) (x := a_0) dX11_twin_15 rfl ?_
    have s6 := w.1
    replace w := w.2
    refine ex_callV (q := 19) (M := mX11_twin) (hdd := Nat.le_refl _) (c := 11) (st := []) (bc := (bc + 3)) (bs := (bs + 207)) dX11_twin_16 rfl cl_X11_116 wd_553 wd_0 s6 w ?_
    rintro r h5 ⟨x7, rfl, w⟩
    show ex_G mX11_twin (d + 3) 19 [.ref a_0, .int v_1] [.int x7] h5 (bc + 3) (bs + 207) Q
    refine ex_if_eq (tgt := 31) (q := 22) dX11_twin_19 (fun c8 => ?_) (fun c8 => ?_)
    · replace w := w.1 c8
      refine ex_aload_n (q := 32) (x := a_0) dX11_twin_31 rfl ?_
      refine ex_aload_n (q := 33) (x := a_0) dX11_twin_32 rfl ?_
      refine ex_aload_n (q := 34) (x := a_0) dX11_twin_33 rfl ?_
      have s9 := w.1
      replace w := w.2
      obtain ⟨a10, ea10, w⟩ := w
      refine ex_getr (q := 37) dX11_twin_34 fl_X11_11 s9 ea10 ?_
      refine ex_iload_n (q := 38) (x := v_1) dX11_twin_37 rfl ?_
      have s11 := w.1
      replace w := w.2
      obtain ⟨a12, ea12, w⟩ := w
      refine ex_aald (q := 39) dX11_twin_38 s11 ea12 ?_
      refine ex_G.room (bc' := bc + 3) (bs' := bs + 207) (Nat.le_refl _) (Nat.le_refl _) (Nat.le_refl _) ?_
      refine ex_callV (q := 42) (M := mX11_twin) (hdd := Nat.le_refl _) (c := 11) (st := [.ref a_0]) (bc := bc) (bs := bs) dX11_twin_39 rfl cl_X11_127 wd_565 wd_2 s9 w ?_
      rintro r h13 ⟨x14, rfl, w⟩
      show ex_G mX11_twin (d + 3) 42 [.ref a_0, .int v_1] [.int x14, .ref a_0] h13 bc bs Q
      have s16 := w.1
      replace w := w.2
      refine ex_callV (q := 45) (M := mX11_twin) (hdd := Nat.le_refl _) (c := 11) (st := []) (bc := bc) (bs := bs) dX11_twin_42 rfl cl_X11_131 wd_576 wd_3 s16 w ?_
      rintro r h15 ⟨x17, rfl, w⟩
      show ex_G mX11_twin (d + 3) 45 [.ref a_0, .int v_1] [.int x17] h15 bc bs Q
      exact ex_ireturn dX11_twin_45 rfl (Or.inl rfl) w
    · replace w := w.2 c8
      refine ex_aload_n (q := 23) (x := a_0) dX11_twin_22 rfl ?_
      refine ex_bipush (q := 25) (v := (-3)) dX11_twin_23 (by decide) ?_
      have s19 := w.1
      replace w := w.2
      refine ex_callV (q := 28) (M := mX11_twin) (hdd := Nat.le_refl _) (c := 11) (st := []) (bc := (bc + 3)) (bs := (bs + 207)) dX11_twin_25 rfl cl_X11_120 wd_557 wd_1 s19 w ?_
      rintro r h18 ⟨x20, rfl, w⟩
      show ex_G mX11_twin (d + 3) 28 [.ref a_0, .int v_1] [.int x20] h18 (bc + 3) (bs + 207) Q
      refine ex_goto (tgt := 45) dX11_twin_28 ?_
      exact ex_ireturn dX11_twin_45 rfl (Or.inl rfl) w
  · replace w := w.2 c4
    refine ex_aload_n (q := 9) (x := a_0) dX11_twin_8 rfl ?_
    refine ex_bipush (q := 11) (v := (-2)) dX11_twin_9 (by decide) ?_
    have s22 := w.1
    replace w := w.2
    refine ex_callV (q := 14) (M := mX11_twin) (hdd := Nat.le_refl _) (c := 11) (st := []) (bc := (bc + 3)) (bs := (bs + 207)) dX11_twin_11 rfl cl_X11_120 wd_557 wd_1 s22 w ?_
    rintro r h21 ⟨x23, rfl, w⟩
    show ex_G mX11_twin (d + 3) 14 [.ref a_0, .int v_1] [.int x23] h21 (bc + 3) (bs + 207) Q
    exact ex_ireturn dX11_twin_14 rfl (Or.inl rfl) w

theorem X11_twin_e {d bc bs : Nat} {h : AH} {Q : Option Value → AH → Prop} {a_0 : Nat} {v_1 : Int32} (w : ex_G mX11_twin (d + 3) 0 [.ref a_0, .int v_1] [] h bc bs Q) : ex_S yX11_twin mX11_twin (d + 3) [.ref a_0, .int v_1] h bc bs Q :=
  ex_enter (plainFor_of_name (by decide +kernel)) ⟨rfl, rfl⟩ rfl rfl (Nat.le_of_ble_eq_true rfl) (ex_pad 0 w)

set_option maxRecDepth 100000 in
theorem X11_undo_0 {d bc bs : Nat} {h : AH} {Q : Option Value → AH → Prop} {a_0 : Nat} {v_1 : Int32} (w : ah_o h a_0 11 ∧ ex_S yX11_hasPicture mX11_hasPicture (d + 2) [.ref a_0, .int v_1] h 0 0 (fun r h1 => ∃ x3, r = some (.int x3) ∧ ((¬ x3 = 0 → ah_o h1 a_0 11 ∧ ∃ a6, ah_r h1 a_0 0 = some a6 ∧ ld3 h1 11 a6 v_1 ∧ ∃ a8, ah_q h1 a6 (Int32.toNatClampNeg v_1) = some a8 ∧ ah_o h1 a8 7 ∧ ex_S yX7_goBack mX7_goBack (d + 2) [.ref a8] h1 0 0 (fun r h9 => ∃ x11, r = some (.int x11) ∧ ((x11 = 0 → ah_o h9 a_0 11 ∧ ex_S yX11_refuse mX11_refuse (d + 2) [.ref a_0, .int (-15)] h9 0 0 (fun r h13 => ∃ x15, r = some (.int x15) ∧ Q (some (.int x15)) h13)) ∧ (¬ x11 = 0 → ah_o h9 a_0 11 ∧ ∃ a17, ah_r h9 a_0 0 = some a17 ∧ ld3 h9 11 a17 v_1 ∧ ∃ a19, ah_q h9 a17 (Int32.toNatClampNeg v_1) = some a19 ∧ ah_o h9 a19 7 ∧ ex_S yX11_grant mX11_grant (d + 2) [.ref a_0, .int (ah_f h9 a19 5)] h9 0 0 (fun r h21 => ∃ x22, r = some (.int x22) ∧ Q (some (.int x22)) h21))))) ∧ (x3 = 0 → ah_o h1 a_0 11 ∧ ex_S yX11_refuse mX11_refuse (d + 2) [.ref a_0, .int (-2)] h1 0 0 (fun r h23 => ∃ x25, r = some (.int x25) ∧ Q (some (.int x25)) h23))))) : ex_G mX11_undo (d + 3) 0 [.ref a_0, .int v_1] [] h bc bs Q := by
  refine ex_aload_n (q := 1) (x := a_0) dX11_undo_0 rfl ?_
  refine ex_iload_n (q := 2) (x := v_1) dX11_undo_1 rfl ?_
  have s2 := w.1
  replace w := w.2
  refine ex_callV (q := 5) (M := mX11_undo) (hdd := Nat.le_refl _) (c := 11) (st := []) (bc := bc) (bs := bs) dX11_undo_2 rfl cl_X11_134 wd_584 wd_4 s2 w ?_
  rintro r h1 ⟨x3, rfl, w⟩
  show ex_G mX11_undo (d + 3) 5 [.ref a_0, .int v_1] [.int x3] h1 bc bs Q
  refine ex_if_ne (tgt := 15) (q := 8) dX11_undo_5 (fun c4 => ?_) (fun c4 => ?_)
  · replace w := w.1 c4
    refine ex_aload_n (q := 16) (x := a_0) dX11_undo_15 rfl ?_
    have s5 := w.1
    replace w := w.2
    obtain ⟨a6, ea6, w⟩ := w
    refine ex_getr (q := 19) dX11_undo_16 fl_X11_11 s5 ea6 ?_
    refine ex_iload_n (q := 20) (x := v_1) dX11_undo_19 rfl ?_
    have s7 := w.1
    replace w := w.2
    obtain ⟨a8, ea8, w⟩ := w
    refine ex_aald (q := 21) dX11_undo_20 s7 ea8 ?_
    have s10 := w.1
    replace w := w.2
    refine ex_callV (q := 24) (M := mX11_undo) (hdd := Nat.le_refl _) (c := 7) (st := []) (bc := bc) (bs := bs) dX11_undo_21 rfl cl_X11_225 wd_756 wd_757 s10 w ?_
    rintro r h9 ⟨x11, rfl, w⟩
    show ex_G mX11_undo (d + 3) 24 [.ref a_0, .int v_1] [.int x11] h9 bc bs Q
    refine ex_if_eq (tgt := 43) (q := 27) dX11_undo_24 (fun c12 => ?_) (fun c12 => ?_)
    · replace w := w.1 c12
      refine ex_aload_n (q := 44) (x := a_0) dX11_undo_43 rfl ?_
      refine ex_bipush (q := 46) (v := (-15)) dX11_undo_44 (by decide) ?_
      have s14 := w.1
      replace w := w.2
      refine ex_callV (q := 49) (M := mX11_undo) (hdd := Nat.le_refl _) (c := 11) (st := []) (bc := bc) (bs := bs) dX11_undo_46 rfl cl_X11_120 wd_557 wd_1 s14 w ?_
      rintro r h13 ⟨x15, rfl, w⟩
      show ex_G mX11_undo (d + 3) 49 [.ref a_0, .int v_1] [.int x15] h13 bc bs Q
      exact ex_ireturn dX11_undo_49 rfl (Or.inl rfl) w
    · replace w := w.2 c12
      refine ex_aload_n (q := 28) (x := a_0) dX11_undo_27 rfl ?_
      refine ex_aload_n (q := 29) (x := a_0) dX11_undo_28 rfl ?_
      have s16 := w.1
      replace w := w.2
      obtain ⟨a17, ea17, w⟩ := w
      refine ex_getr (q := 32) dX11_undo_29 fl_X11_11 s16 ea17 ?_
      refine ex_iload_n (q := 33) (x := v_1) dX11_undo_32 rfl ?_
      have s18 := w.1
      replace w := w.2
      obtain ⟨a19, ea19, w⟩ := w
      refine ex_aald (q := 34) dX11_undo_33 s18 ea19 ?_
      have s20 := w.1
      replace w := w.2
      refine ex_getf (q := 37) dX11_undo_34 fl_X11_228 s20 ?_
      refine ex_callV (q := 40) (M := mX11_undo) (hdd := Nat.le_refl _) (c := 11) (st := []) (bc := bc) (bs := bs) dX11_undo_37 rfl cl_X11_131 wd_576 wd_3 s16 w ?_
      rintro r h21 ⟨x22, rfl, w⟩
      show ex_G mX11_undo (d + 3) 40 [.ref a_0, .int v_1] [.int x22] h21 bc bs Q
      refine ex_goto (tgt := 49) dX11_undo_40 ?_
      exact ex_ireturn dX11_undo_49 rfl (Or.inl rfl) w
  · replace w := w.2 c4
    refine ex_aload_n (q := 9) (x := a_0) dX11_undo_8 rfl ?_
    refine ex_bipush (q := 11) (v := (-2)) dX11_undo_9 (by decide) ?_
    have s24 := w.1
    replace w := w.2
    refine ex_callV (q := 14) (M := mX11_undo) (hdd := Nat.le_refl _) (c := 11) (st := []) (bc := bc) (bs := bs) dX11_undo_11 rfl cl_X11_120 wd_557 wd_1 s24 w ?_
    rintro r h23 ⟨x25, rfl, w⟩
    show ex_G mX11_undo (d + 3) 14 [.ref a_0, .int v_1] [.int x25] h23 bc bs Q
    exact ex_ireturn dX11_undo_14 rfl (Or.inl rfl) w

theorem X11_undo_e {d bc bs : Nat} {h : AH} {Q : Option Value → AH → Prop} {a_0 : Nat} {v_1 : Int32} (w : ex_G mX11_undo (d + 3) 0 [.ref a_0, .int v_1] [] h bc bs Q) : ex_S yX11_undo mX11_undo (d + 3) [.ref a_0, .int v_1] h bc bs Q :=
  ex_enter (plainFor_of_name (by decide +kernel)) ⟨rfl, rfl⟩ rfl rfl (Nat.le_of_ble_eq_true rfl) (ex_pad 0 w)

set_option maxRecDepth 100000 in
theorem X11_sign_0 {d bc bs : Nat} {h : AH} {Q : Option Value → AH → Prop} {a_0 : Nat} {v_1 : Int32} {v_2 : Int32} (w : ah_o h a_0 11 ∧ ex_S yX11_hasPicture mX11_hasPicture (d + 4) [.ref a_0, .int v_1] h 0 0 (fun r h1 => ∃ x3, r = some (.int x3) ∧ ((¬ x3 = 0 → ah_o h1 a_0 11 ∧ ∃ a6, ah_r h1 a_0 4 = some a6 ∧ ex_S yX11_isWhole mX11_isWhole (d + 4) [.ref a_0, .int v_1, .ref a6] h1 0 0 (fun r h7 => ∃ x8, r = some (.int x8) ∧ ((¬ x8 = 0 → ah_o h7 a_0 11 ∧ ∃ a11, ah_r h7 a_0 0 = some a11 ∧ ld3 h7 11 a11 v_1 ∧ ∃ a13, ah_q h7 a11 (Int32.toNatClampNeg v_1) = some a13 ∧ ah_o h7 a13 7 ∧ ex_S yX7_hasCrossing mX7_hasCrossing (d + 4) [.ref a13, .int v_2] h7 0 0 (fun r h14 => ∃ x16, r = some (.int x16) ∧ ((x16 = 0 → ah_o h14 a_0 11 ∧ ex_S yX11_refuse mX11_refuse (d + 4) [.ref a_0, .int (-12)] h14 0 0 (fun r h18 => ∃ x20, r = some (.int x20) ∧ Q (some (.int x20)) h18)) ∧ (¬ x16 = 0 → ah_o h14 a_0 11 ∧ ∃ a22, ah_r h14 a_0 4 = some a22 ∧ ah_o h14 a22 4 ∧ ∃ a24, ah_r h14 a22 6 = some a24 ∧ ld0 h14 a24 v_2 ∧ ex_S yX11_grant mX11_grant (d + 4) [.ref a_0, .int (ah_i h14 a24 (Int32.toNatClampNeg v_2))] h14 0 0 (fun r h26 => ∃ x27, r = some (.int x27) ∧ Q (some (.int x27)) h26))))) ∧ (x8 = 0 → ah_o h7 a_0 11 ∧ ex_S yX11_refuse mX11_refuse (d + 4) [.ref a_0, .int (-13)] h7 0 0 (fun r h28 => ∃ x30, r = some (.int x30) ∧ Q (some (.int x30)) h28))))) ∧ (x3 = 0 → ah_o h1 a_0 11 ∧ ex_S yX11_refuse mX11_refuse (d + 4) [.ref a_0, .int (-2)] h1 0 0 (fun r h31 => ∃ x33, r = some (.int x33) ∧ Q (some (.int x33)) h31))))) : ex_G mX11_sign (d + 5) 0 [.ref a_0, .int v_1, .int v_2] [] h bc bs Q := by
  refine ex_aload_n (q := 1) (x := a_0) dX11_sign_0 rfl ?_
  refine ex_iload_n (q := 2) (x := v_1) dX11_sign_1 rfl ?_
  have s2 := w.1
  replace w := w.2
  refine ex_callV (q := 5) (M := mX11_sign) (hdd := Nat.le_refl _) (c := 11) (st := []) (bc := bc) (bs := bs) dX11_sign_2 rfl cl_X11_134 wd_584 wd_4 s2 w ?_
  rintro r h1 ⟨x3, rfl, w⟩
  show ex_G mX11_sign (d + 5) 5 [.ref a_0, .int v_1, .int v_2] [.int x3] h1 bc bs Q
  refine ex_if_ne (tgt := 15) (q := 8) dX11_sign_5 (fun c4 => ?_) (fun c4 => ?_)
  · replace w := w.1 c4
    refine ex_aload_n (q := 16) (x := a_0) dX11_sign_15 rfl ?_
    refine ex_iload_n (q := 17) (x := v_1) dX11_sign_16 rfl ?_
    refine ex_aload_n (q := 18) (x := a_0) dX11_sign_17 rfl ?_
    have s5 := w.1
    replace w := w.2
    obtain ⟨a6, ea6, w⟩ := w
    refine ex_getr (q := 21) dX11_sign_18 fl_X11_36 s5 ea6 ?_
    refine ex_callV (q := 24) (M := mX11_sign) (hdd := Nat.le_refl _) (c := 11) (st := []) (bc := bc) (bs := bs) dX11_sign_21 rfl cl_X11_184 wd_695 wd_13 s5 w ?_
    rintro r h7 ⟨x8, rfl, w⟩
    show ex_G mX11_sign (d + 5) 24 [.ref a_0, .int v_1, .int v_2] [.int x8] h7 bc bs Q
    refine ex_if_ne (tgt := 34) (q := 27) dX11_sign_24 (fun c9 => ?_) (fun c9 => ?_)
    · replace w := w.1 c9
      refine ex_aload_n (q := 35) (x := a_0) dX11_sign_34 rfl ?_
      have s10 := w.1
      replace w := w.2
      obtain ⟨a11, ea11, w⟩ := w
      refine ex_getr (q := 38) dX11_sign_35 fl_X11_11 s10 ea11 ?_
      refine ex_iload_n (q := 39) (x := v_1) dX11_sign_38 rfl ?_
      have s12 := w.1
      replace w := w.2
      obtain ⟨a13, ea13, w⟩ := w
      refine ex_aald (q := 40) dX11_sign_39 s12 ea13 ?_
      refine ex_iload_n (q := 41) (x := v_2) dX11_sign_40 rfl ?_
      have s15 := w.1
      replace w := w.2
      refine ex_callV (q := 44) (M := mX11_sign) (hdd := Nat.le_refl _) (c := 7) (st := []) (bc := bc) (bs := bs) dX11_sign_41 rfl cl_X11_151 wd_602 wd_603 s15 w ?_
      rintro r h14 ⟨x16, rfl, w⟩
      show ex_G mX11_sign (d + 5) 44 [.ref a_0, .int v_1, .int v_2] [.int x16] h14 bc bs Q
      refine ex_if_eq (tgt := 63) (q := 47) dX11_sign_44 (fun c17 => ?_) (fun c17 => ?_)
      · replace w := w.1 c17
        refine ex_aload_n (q := 64) (x := a_0) dX11_sign_63 rfl ?_
        refine ex_bipush (q := 66) (v := (-12)) dX11_sign_64 (by decide) ?_
        have s19 := w.1
        replace w := w.2
        refine ex_callV (q := 69) (M := mX11_sign) (hdd := Nat.le_refl _) (c := 11) (st := []) (bc := bc) (bs := bs) dX11_sign_66 rfl cl_X11_120 wd_557 wd_1 s19 w ?_
        rintro r h18 ⟨x20, rfl, w⟩
        show ex_G mX11_sign (d + 5) 69 [.ref a_0, .int v_1, .int v_2] [.int x20] h18 bc bs Q
        exact ex_ireturn dX11_sign_69 rfl (Or.inl rfl) w
      · replace w := w.2 c17
        refine ex_aload_n (q := 48) (x := a_0) dX11_sign_47 rfl ?_
        refine ex_aload_n (q := 49) (x := a_0) dX11_sign_48 rfl ?_
        have s21 := w.1
        replace w := w.2
        obtain ⟨a22, ea22, w⟩ := w
        refine ex_getr (q := 52) dX11_sign_49 fl_X11_36 s21 ea22 ?_
        have s23 := w.1
        replace w := w.2
        obtain ⟨a24, ea24, w⟩ := w
        refine ex_getr (q := 55) dX11_sign_52 fl_X11_231 s23 ea24 ?_
        refine ex_iload_n (q := 56) (x := v_2) dX11_sign_55 rfl ?_
        have s25 := w.1
        replace w := w.2
        refine ex_iald (q := 57) dX11_sign_56 s25 ?_
        refine ex_callV (q := 60) (M := mX11_sign) (hdd := Nat.le_refl _) (c := 11) (st := []) (bc := bc) (bs := bs) dX11_sign_57 rfl cl_X11_131 wd_576 wd_3 s21 w ?_
        rintro r h26 ⟨x27, rfl, w⟩
        show ex_G mX11_sign (d + 5) 60 [.ref a_0, .int v_1, .int v_2] [.int x27] h26 bc bs Q
        refine ex_goto (tgt := 69) dX11_sign_60 ?_
        exact ex_ireturn dX11_sign_69 rfl (Or.inl rfl) w
    · replace w := w.2 c9
      refine ex_aload_n (q := 28) (x := a_0) dX11_sign_27 rfl ?_
      refine ex_bipush (q := 30) (v := (-13)) dX11_sign_28 (by decide) ?_
      have s29 := w.1
      replace w := w.2
      refine ex_callV (q := 33) (M := mX11_sign) (hdd := Nat.le_refl _) (c := 11) (st := []) (bc := bc) (bs := bs) dX11_sign_30 rfl cl_X11_120 wd_557 wd_1 s29 w ?_
      rintro r h28 ⟨x30, rfl, w⟩
      show ex_G mX11_sign (d + 5) 33 [.ref a_0, .int v_1, .int v_2] [.int x30] h28 bc bs Q
      exact ex_ireturn dX11_sign_33 rfl (Or.inl rfl) w
  · replace w := w.2 c4
    refine ex_aload_n (q := 9) (x := a_0) dX11_sign_8 rfl ?_
    refine ex_bipush (q := 11) (v := (-2)) dX11_sign_9 (by decide) ?_
    have s32 := w.1
    replace w := w.2
    refine ex_callV (q := 14) (M := mX11_sign) (hdd := Nat.le_refl _) (c := 11) (st := []) (bc := bc) (bs := bs) dX11_sign_11 rfl cl_X11_120 wd_557 wd_1 s32 w ?_
    rintro r h31 ⟨x33, rfl, w⟩
    show ex_G mX11_sign (d + 5) 14 [.ref a_0, .int v_1, .int v_2] [.int x33] h31 bc bs Q
    exact ex_ireturn dX11_sign_14 rfl (Or.inl rfl) w

theorem X11_sign_e {d bc bs : Nat} {h : AH} {Q : Option Value → AH → Prop} {a_0 : Nat} {v_1 : Int32} {v_2 : Int32} (w : ex_G mX11_sign (d + 5) 0 [.ref a_0, .int v_1, .int v_2] [] h bc bs Q) : ex_S yX11_sign mX11_sign (d + 5) [.ref a_0, .int v_1, .int v_2] h bc bs Q :=
  ex_enter (plainFor_of_name (by decide +kernel)) ⟨rfl, rfl⟩ rfl rfl (Nat.le_of_ble_eq_true rfl) (ex_pad 0 w)

set_option maxRecDepth 100000 in
theorem X11_pieceOf_0 {d bc bs : Nat} {h : AH} {Q : Option Value → AH → Prop} {a_0 : Nat} {v_1 : Int32} {v_2 : Int32} (w : ah_o h a_0 11 ∧ ex_S yX11_hasPicture mX11_hasPicture (d + 4) [.ref a_0, .int v_1] h 0 0 (fun r h1 => ∃ x3, r = some (.int x3) ∧ ((¬ x3 = 0 → ah_o h1 a_0 11 ∧ ∃ a6, ah_r h1 a_0 4 = some a6 ∧ ex_S yX11_isWhole mX11_isWhole (d + 4) [.ref a_0, .int v_1, .ref a6] h1 0 0 (fun r h7 => ∃ x8, r = some (.int x8) ∧ ((¬ x8 = 0 → ah_o h7 a_0 11 ∧ ∃ a11, ah_r h7 a_0 4 = some a11 ∧ ah_o h7 a11 4 ∧ ex_S yX4_hasEnd mX4_hasEnd (d + 4) [.ref a11, .int v_2] h7 0 0 (fun r h12 => ∃ x14, r = some (.int x14) ∧ ((x14 = 0 → ah_o h12 a_0 11 ∧ ex_S yX11_refuse mX11_refuse (d + 4) [.ref a_0, .int (-12)] h12 0 0 (fun r h16 => ∃ x18, r = some (.int x18) ∧ Q (some (.int x18)) h16)) ∧ (¬ x14 = 0 → ah_o h12 a_0 11 ∧ ∃ a20, ah_r h12 a_0 4 = some a20 ∧ ah_o h12 a20 4 ∧ ∃ a22, ah_r h12 a20 3 = some a22 ∧ ld0 h12 a22 v_2 ∧ ex_S yX11_grant mX11_grant (d + 4) [.ref a_0, .int (ah_i h12 a22 (Int32.toNatClampNeg v_2))] h12 0 0 (fun r h24 => ∃ x25, r = some (.int x25) ∧ Q (some (.int x25)) h24))))) ∧ (x8 = 0 → ah_o h7 a_0 11 ∧ ex_S yX11_refuse mX11_refuse (d + 4) [.ref a_0, .int (-13)] h7 0 0 (fun r h26 => ∃ x28, r = some (.int x28) ∧ Q (some (.int x28)) h26))))) ∧ (x3 = 0 → ah_o h1 a_0 11 ∧ ex_S yX11_refuse mX11_refuse (d + 4) [.ref a_0, .int (-2)] h1 0 0 (fun r h29 => ∃ x31, r = some (.int x31) ∧ Q (some (.int x31)) h29))))) : ex_G mX11_pieceOf (d + 5) 0 [.ref a_0, .int v_1, .int v_2] [] h bc bs Q := by
  refine ex_aload_n (q := 1) (x := a_0) dX11_pieceOf_0 rfl ?_
  refine ex_iload_n (q := 2) (x := v_1) dX11_pieceOf_1 rfl ?_
  have s2 := w.1
  replace w := w.2
  refine ex_callV (q := 5) (M := mX11_pieceOf) (hdd := Nat.le_refl _) (c := 11) (st := []) (bc := bc) (bs := bs) dX11_pieceOf_2 rfl cl_X11_134 wd_584 wd_4 s2 w ?_
  rintro r h1 ⟨x3, rfl, w⟩
  show ex_G mX11_pieceOf (d + 5) 5 [.ref a_0, .int v_1, .int v_2] [.int x3] h1 bc bs Q
  refine ex_if_ne (tgt := 15) (q := 8) dX11_pieceOf_5 (fun c4 => ?_) (fun c4 => ?_)
  · replace w := w.1 c4
    refine ex_aload_n (q := 16) (x := a_0) dX11_pieceOf_15 rfl ?_
    refine ex_iload_n (q := 17) (x := v_1) dX11_pieceOf_16 rfl ?_
    refine ex_aload_n (q := 18) (x := a_0) dX11_pieceOf_17 rfl ?_
    have s5 := w.1
    replace w := w.2
    obtain ⟨a6, ea6, w⟩ := w
    refine ex_getr (q := 21) dX11_pieceOf_18 fl_X11_36 s5 ea6 ?_
    refine ex_callV (q := 24) (M := mX11_pieceOf) (hdd := Nat.le_refl _) (c := 11) (st := []) (bc := bc) (bs := bs) dX11_pieceOf_21 rfl cl_X11_184 wd_695 wd_13 s5 w ?_
    rintro r h7 ⟨x8, rfl, w⟩
    show ex_G mX11_pieceOf (d + 5) 24 [.ref a_0, .int v_1, .int v_2] [.int x8] h7 bc bs Q
    refine ex_if_ne (tgt := 34) (q := 27) dX11_pieceOf_24 (fun c9 => ?_) (fun c9 => ?_)
    · replace w := w.1 c9
      refine ex_aload_n (q := 35) (x := a_0) dX11_pieceOf_34 rfl ?_
      have s10 := w.1
      replace w := w.2
      obtain ⟨a11, ea11, w⟩ := w
      refine ex_getr (q := 38) dX11_pieceOf_35 fl_X11_36 s10 ea11 ?_
      refine ex_iload_n (q := 39) (x := v_2) dX11_pieceOf_38 rfl ?_
      have s13 := w.1
      replace w := w.2
      refine ex_callV (q := 42) (M := mX11_pieceOf) (hdd := Nat.le_refl _) (c := 4) (st := []) (bc := bc) (bs := bs) dX11_pieceOf_39 rfl cl_X11_210 wd_734 wd_735 s13 w ?_
      rintro r h12 ⟨x14, rfl, w⟩
      show ex_G mX11_pieceOf (d + 5) 42 [.ref a_0, .int v_1, .int v_2] [.int x14] h12 bc bs Q
      refine ex_if_eq (tgt := 61) (q := 45) dX11_pieceOf_42 (fun c15 => ?_) (fun c15 => ?_)
      · replace w := w.1 c15
        refine ex_aload_n (q := 62) (x := a_0) dX11_pieceOf_61 rfl ?_
        refine ex_bipush (q := 64) (v := (-12)) dX11_pieceOf_62 (by decide) ?_
        have s17 := w.1
        replace w := w.2
        refine ex_callV (q := 67) (M := mX11_pieceOf) (hdd := Nat.le_refl _) (c := 11) (st := []) (bc := bc) (bs := bs) dX11_pieceOf_64 rfl cl_X11_120 wd_557 wd_1 s17 w ?_
        rintro r h16 ⟨x18, rfl, w⟩
        show ex_G mX11_pieceOf (d + 5) 67 [.ref a_0, .int v_1, .int v_2] [.int x18] h16 bc bs Q
        exact ex_ireturn dX11_pieceOf_67 rfl (Or.inl rfl) w
      · replace w := w.2 c15
        refine ex_aload_n (q := 46) (x := a_0) dX11_pieceOf_45 rfl ?_
        refine ex_aload_n (q := 47) (x := a_0) dX11_pieceOf_46 rfl ?_
        have s19 := w.1
        replace w := w.2
        obtain ⟨a20, ea20, w⟩ := w
        refine ex_getr (q := 50) dX11_pieceOf_47 fl_X11_36 s19 ea20 ?_
        have s21 := w.1
        replace w := w.2
        obtain ⟨a22, ea22, w⟩ := w
        refine ex_getr (q := 53) dX11_pieceOf_50 fl_X11_234 s21 ea22 ?_
        refine ex_iload_n (q := 54) (x := v_2) dX11_pieceOf_53 rfl ?_
        have s23 := w.1
        replace w := w.2
        refine ex_iald (q := 55) dX11_pieceOf_54 s23 ?_
        refine ex_callV (q := 58) (M := mX11_pieceOf) (hdd := Nat.le_refl _) (c := 11) (st := []) (bc := bc) (bs := bs) dX11_pieceOf_55 rfl cl_X11_131 wd_576 wd_3 s19 w ?_
        rintro r h24 ⟨x25, rfl, w⟩
        show ex_G mX11_pieceOf (d + 5) 58 [.ref a_0, .int v_1, .int v_2] [.int x25] h24 bc bs Q
        refine ex_goto (tgt := 67) dX11_pieceOf_58 ?_
        exact ex_ireturn dX11_pieceOf_67 rfl (Or.inl rfl) w
    · replace w := w.2 c9
      refine ex_aload_n (q := 28) (x := a_0) dX11_pieceOf_27 rfl ?_
      refine ex_bipush (q := 30) (v := (-13)) dX11_pieceOf_28 (by decide) ?_
      have s27 := w.1
      replace w := w.2
      refine ex_callV (q := 33) (M := mX11_pieceOf) (hdd := Nat.le_refl _) (c := 11) (st := []) (bc := bc) (bs := bs) dX11_pieceOf_30 rfl cl_X11_120 wd_557 wd_1 s27 w ?_
      rintro r h26 ⟨x28, rfl, w⟩
      show ex_G mX11_pieceOf (d + 5) 33 [.ref a_0, .int v_1, .int v_2] [.int x28] h26 bc bs Q
      exact ex_ireturn dX11_pieceOf_33 rfl (Or.inl rfl) w
  · replace w := w.2 c4
    refine ex_aload_n (q := 9) (x := a_0) dX11_pieceOf_8 rfl ?_
    refine ex_bipush (q := 11) (v := (-2)) dX11_pieceOf_9 (by decide) ?_
    have s30 := w.1
    replace w := w.2
    refine ex_callV (q := 14) (M := mX11_pieceOf) (hdd := Nat.le_refl _) (c := 11) (st := []) (bc := bc) (bs := bs) dX11_pieceOf_11 rfl cl_X11_120 wd_557 wd_1 s30 w ?_
    rintro r h29 ⟨x31, rfl, w⟩
    show ex_G mX11_pieceOf (d + 5) 14 [.ref a_0, .int v_1, .int v_2] [.int x31] h29 bc bs Q
    exact ex_ireturn dX11_pieceOf_14 rfl (Or.inl rfl) w

theorem X11_pieceOf_e {d bc bs : Nat} {h : AH} {Q : Option Value → AH → Prop} {a_0 : Nat} {v_1 : Int32} {v_2 : Int32} (w : ex_G mX11_pieceOf (d + 5) 0 [.ref a_0, .int v_1, .int v_2] [] h bc bs Q) : ex_S yX11_pieceOf mX11_pieceOf (d + 5) [.ref a_0, .int v_1, .int v_2] h bc bs Q :=
  ex_enter (plainFor_of_name (by decide +kernel)) ⟨rfl, rfl⟩ rfl rfl (Nat.le_of_ble_eq_true rfl) (ex_pad 0 w)

set_option maxRecDepth 100000 in
theorem X11_linking_0 {d bc bs : Nat} {h : AH} {Q : Option Value → AH → Prop} {a_0 : Nat} {v_1 : Int32} {v_2 : Int32} {v_3 : Int32} (w : ah_o h a_0 11 ∧ ex_S yX11_hasPicture mX11_hasPicture (d + 4) [.ref a_0, .int v_1] h 0 0 (fun r h1 => ∃ x3, r = some (.int x3) ∧ ((¬ x3 = 0 → ah_o h1 a_0 11 ∧ ∃ a6, ah_r h1 a_0 4 = some a6 ∧ ex_S yX11_isWhole mX11_isWhole (d + 4) [.ref a_0, .int v_1, .ref a6] h1 0 0 (fun r h7 => ∃ x8, r = some (.int x8) ∧ ((¬ x8 = 0 → ah_o h7 a_0 11 ∧ ∃ a11, ah_r h7 a_0 4 = some a11 ∧ ah_o h7 a11 4 ∧ ex_S yX4_allPieces mX4_allPieces (d + 4) [.ref a11] h7 0 0 (fun r h12 => ∃ x14, r = some (.int x14) ∧ ((v_2 < 0 → ah_o h12 a_0 11 ∧ ex_S yX11_refuse mX11_refuse (d + 4) [.ref a_0, .int (-15)] h12 0 0 (fun r h16 => ∃ x18, r = some (.int x18) ∧ Q (some (.int x18)) h16)) ∧ (¬ v_2 < 0 → ((x14 ≤ v_2 → ah_o h12 a_0 11 ∧ ex_S yX11_refuse mX11_refuse (d + 4) [.ref a_0, .int (-15)] h12 0 0 (fun r h20 => ∃ x22, r = some (.int x22) ∧ Q (some (.int x22)) h20)) ∧ (¬ x14 ≤ v_2 → ((v_3 < 0 → ah_o h12 a_0 11 ∧ ex_S yX11_refuse mX11_refuse (d + 4) [.ref a_0, .int (-15)] h12 0 0 (fun r h24 => ∃ x26, r = some (.int x26) ∧ Q (some (.int x26)) h24)) ∧ (¬ v_3 < 0 → ((x14 ≤ v_3 → ah_o h12 a_0 11 ∧ ex_S yX11_refuse mX11_refuse (d + 4) [.ref a_0, .int (-15)] h12 0 0 (fun r h28 => ∃ x30, r = some (.int x30) ∧ Q (some (.int x30)) h28)) ∧ (¬ x14 ≤ v_3 → ((¬ v_2 = v_3 → ah_o h12 a_0 11 ∧ ∃ a33, ah_r h12 a_0 4 = some a33 ∧ ah_o h12 a33 4 ∧ ex_S yX4_linkOf mX4_linkOf (d + 4) [.ref a33, .int v_2, .int v_3] h12 0 0 (fun r h34 => ∃ x36, r = some (.int x36) ∧ ah_o h34 a_0 11 ∧ ex_S yX11_grant mX11_grant (d + 4) [.ref a_0, .int x36] h34 0 0 (fun r h37 => ∃ x39, r = some (.int x39) ∧ Q (some (.int x39)) h37))) ∧ (v_2 = v_3 → ah_o h12 a_0 11 ∧ ex_S yX11_refuse mX11_refuse (d + 4) [.ref a_0, .int (-15)] h12 0 0 (fun r h40 => ∃ x42, r = some (.int x42) ∧ Q (some (.int x42)) h40))))))))))))) ∧ (x8 = 0 → ah_o h7 a_0 11 ∧ ex_S yX11_refuse mX11_refuse (d + 4) [.ref a_0, .int (-13)] h7 0 0 (fun r h43 => ∃ x45, r = some (.int x45) ∧ Q (some (.int x45)) h43))))) ∧ (x3 = 0 → ah_o h1 a_0 11 ∧ ex_S yX11_refuse mX11_refuse (d + 4) [.ref a_0, .int (-2)] h1 0 0 (fun r h46 => ∃ x48, r = some (.int x48) ∧ Q (some (.int x48)) h46))))) : ex_G mX11_linking (d + 5) 0 [.ref a_0, .int v_1, .int v_2, .int v_3, .retAddr 0] [] h bc bs Q := by
  refine ex_aload_n (q := 1) (x := a_0) dX11_linking_0 rfl ?_
  refine ex_iload_n (q := 2) (x := v_1) dX11_linking_1 rfl ?_
  have s2 := w.1
  replace w := w.2
  refine ex_callV (q := 5) (M := mX11_linking) (hdd := Nat.le_refl _) (c := 11) (st := []) (bc := bc) (bs := bs) dX11_linking_2 rfl cl_X11_134 wd_584 wd_4 s2 w ?_
  rintro r h1 ⟨x3, rfl, w⟩
  show ex_G mX11_linking (d + 5) 5 [.ref a_0, .int v_1, .int v_2, .int v_3, .retAddr 0] [.int x3] h1 bc bs Q
  refine ex_if_ne (tgt := 15) (q := 8) dX11_linking_5 (fun c4 => ?_) (fun c4 => ?_)
  · replace w := w.1 c4
    refine ex_aload_n (q := 16) (x := a_0) dX11_linking_15 rfl ?_
    refine ex_iload_n (q := 17) (x := v_1) dX11_linking_16 rfl ?_
    refine ex_aload_n (q := 18) (x := a_0) dX11_linking_17 rfl ?_
    have s5 := w.1
    replace w := w.2
    obtain ⟨a6, ea6, w⟩ := w
    refine ex_getr (q := 21) dX11_linking_18 fl_X11_36 s5 ea6 ?_
    refine ex_callV (q := 24) (M := mX11_linking) (hdd := Nat.le_refl _) (c := 11) (st := []) (bc := bc) (bs := bs) dX11_linking_21 rfl cl_X11_184 wd_695 wd_13 s5 w ?_
    rintro r h7 ⟨x8, rfl, w⟩
    show ex_G mX11_linking (d + 5) 24 [.ref a_0, .int v_1, .int v_2, .int v_3, .retAddr 0] [.int x8] h7 bc bs Q
    refine ex_if_ne (tgt := 34) (q := 27) dX11_linking_24 (fun c9 => ?_) (fun c9 => ?_)
    · replace w := w.1 c9
      refine ex_aload_n (q := 35) (x := a_0) dX11_linking_34 rfl ?_
      have s10 := w.1
      replace w := w.2
      obtain ⟨a11, ea11, w⟩ := w
      refine ex_getr (q := 38) dX11_linking_35 fl_X11_36 s10 ea11 ?_
      have s13 := w.1
      replace w := w.2
      refine ex_callV (q := 41) (M := mX11_linking) (hdd := Nat.le_refl _) (c := 4) (st := []) (bc := bc) (bs := bs) dX11_linking_38 rfl cl_X11_188 wd_698 wd_699 s13 w ?_
      rintro r h12 ⟨x14, rfl, w⟩
      show ex_G mX11_linking (d + 5) 41 [.ref a_0, .int v_1, .int v_2, .int v_3, .retAddr 0] [.int x14] h12 bc bs Q
      refine ex_istore (q := 43) (ls' := [.ref a_0, .int v_1, .int v_2, .int v_3, .int x14]) dX11_linking_41 rfl ?_
      refine ex_iload_n (q := 44) (x := v_2) dX11_linking_43 rfl ?_
      refine ex_if_lt (tgt := 68) (q := 47) dX11_linking_44 (fun c15 => ?_) (fun c15 => ?_)
      · replace w := w.1 c15
        refine ex_aload_n (q := 69) (x := a_0) dX11_linking_68 rfl ?_
        refine ex_bipush (q := 71) (v := (-15)) dX11_linking_69 (by decide) ?_
        have s17 := w.1
        replace w := w.2
        refine ex_callV (q := 74) (M := mX11_linking) (hdd := Nat.le_refl _) (c := 11) (st := []) (bc := bc) (bs := bs) dX11_linking_71 rfl cl_X11_120 wd_557 wd_1 s17 w ?_
        rintro r h16 ⟨x18, rfl, w⟩
        show ex_G mX11_linking (d + 5) 74 [.ref a_0, .int v_1, .int v_2, .int v_3, .int x14] [.int x18] h16 bc bs Q
        exact ex_ireturn dX11_linking_74 rfl (Or.inl rfl) w
      · replace w := w.2 c15
        refine ex_iload_n (q := 48) (x := v_2) dX11_linking_47 rfl ?_
        refine ex_iload (q := 50) (x := x14) dX11_linking_48 rfl ?_
        refine ex_icmp_ge (tgt := 68) (q := 53) dX11_linking_50 (fun c19 => ?_) (fun c19 => ?_)
        · replace w := w.1 c19
          refine ex_aload_n (q := 69) (x := a_0) dX11_linking_68 rfl ?_
          refine ex_bipush (q := 71) (v := (-15)) dX11_linking_69 (by decide) ?_
          have s21 := w.1
          replace w := w.2
          refine ex_callV (q := 74) (M := mX11_linking) (hdd := Nat.le_refl _) (c := 11) (st := []) (bc := bc) (bs := bs) dX11_linking_71 rfl cl_X11_120 wd_557 wd_1 s21 w ?_
          rintro r h20 ⟨x22, rfl, w⟩
          show ex_G mX11_linking (d + 5) 74 [.ref a_0, .int v_1, .int v_2, .int v_3, .int x14] [.int x22] h20 bc bs Q
          exact ex_ireturn dX11_linking_74 rfl (Or.inl rfl) w
        · replace w := w.2 c19
          refine ex_iload_n (q := 54) (x := v_3) dX11_linking_53 rfl ?_
          refine ex_if_lt (tgt := 68) (q := 57) dX11_linking_54 (fun c23 => ?_) (fun c23 => ?_)
          · replace w := w.1 c23
            refine ex_aload_n (q := 69) (x := a_0) dX11_linking_68 rfl ?_
            refine ex_bipush (q := 71) (v := (-15)) dX11_linking_69 (by decide) ?_
            have s25 := w.1
            replace w := w.2
            refine ex_callV (q := 74) (M := mX11_linking) (hdd := Nat.le_refl _) (c := 11) (st := []) (bc := bc) (bs := bs) dX11_linking_71 rfl cl_X11_120 wd_557 wd_1 s25 w ?_
            rintro r h24 ⟨x26, rfl, w⟩
            show ex_G mX11_linking (d + 5) 74 [.ref a_0, .int v_1, .int v_2, .int v_3, .int x14] [.int x26] h24 bc bs Q
            exact ex_ireturn dX11_linking_74 rfl (Or.inl rfl) w
          · replace w := w.2 c23
            refine ex_iload_n (q := 58) (x := v_3) dX11_linking_57 rfl ?_
            refine ex_iload (q := 60) (x := x14) dX11_linking_58 rfl ?_
            refine ex_icmp_ge (tgt := 68) (q := 63) dX11_linking_60 (fun c27 => ?_) (fun c27 => ?_)
            · replace w := w.1 c27
              refine ex_aload_n (q := 69) (x := a_0) dX11_linking_68 rfl ?_
              refine ex_bipush (q := 71) (v := (-15)) dX11_linking_69 (by decide) ?_
              have s29 := w.1
              replace w := w.2
              refine ex_callV (q := 74) (M := mX11_linking) (hdd := Nat.le_refl _) (c := 11) (st := []) (bc := bc) (bs := bs) dX11_linking_71 rfl cl_X11_120 wd_557 wd_1 s29 w ?_
              rintro r h28 ⟨x30, rfl, w⟩
              show ex_G mX11_linking (d + 5) 74 [.ref a_0, .int v_1, .int v_2, .int v_3, .int x14] [.int x30] h28 bc bs Q
              exact ex_ireturn dX11_linking_74 rfl (Or.inl rfl) w
            · replace w := w.2 c27
              refine ex_iload_n (q := 64) (x := v_2) dX11_linking_63 rfl ?_
              refine ex_iload_n (q := 65) (x := v_3) dX11_linking_64 rfl ?_
              refine ex_icmp_ne (tgt := 75) (q := 68) dX11_linking_65 (fun c31 => ?_) (fun c31 => ?_)
              · replace w := w.1 c31
                refine ex_aload_n (q := 76) (x := a_0) dX11_linking_75 rfl ?_
                refine ex_aload_n (q := 77) (x := a_0) dX11_linking_76 rfl ?_
                have s32 := w.1
                replace w := w.2
                obtain ⟨a33, ea33, w⟩ := w
                refine ex_getr (q := 80) dX11_linking_77 fl_X11_36 s32 ea33 ?_
                refine ex_iload_n (q := 81) (x := v_2) dX11_linking_80 rfl ?_
                refine ex_iload_n (q := 82) (x := v_3) dX11_linking_81 rfl ?_
                have s35 := w.1
                replace w := w.2
                refine ex_callV (q := 85) (M := mX11_linking) (hdd := Nat.le_refl _) (c := 4) (st := [.ref a_0]) (bc := bc) (bs := bs) dX11_linking_82 rfl cl_X11_237 wd_778 wd_779 s35 w ?_
                rintro r h34 ⟨x36, rfl, w⟩
                show ex_G mX11_linking (d + 5) 85 [.ref a_0, .int v_1, .int v_2, .int v_3, .int x14] [.int x36, .ref a_0] h34 bc bs Q
                have s38 := w.1
                replace w := w.2
                refine ex_callV (q := 88) (M := mX11_linking) (hdd := Nat.le_refl _) (c := 11) (st := []) (bc := bc) (bs := bs) dX11_linking_85 rfl cl_X11_131 wd_576 wd_3 s38 w ?_
                rintro r h37 ⟨x39, rfl, w⟩
                show ex_G mX11_linking (d + 5) 88 [.ref a_0, .int v_1, .int v_2, .int v_3, .int x14] [.int x39] h37 bc bs Q
                exact ex_ireturn dX11_linking_88 rfl (Or.inl rfl) w
              · replace w := w.2 c31
                refine ex_aload_n (q := 69) (x := a_0) dX11_linking_68 rfl ?_
                refine ex_bipush (q := 71) (v := (-15)) dX11_linking_69 (by decide) ?_
                have s41 := w.1
                replace w := w.2
                refine ex_callV (q := 74) (M := mX11_linking) (hdd := Nat.le_refl _) (c := 11) (st := []) (bc := bc) (bs := bs) dX11_linking_71 rfl cl_X11_120 wd_557 wd_1 s41 w ?_
                rintro r h40 ⟨x42, rfl, w⟩
                show ex_G mX11_linking (d + 5) 74 [.ref a_0, .int v_1, .int v_2, .int v_3, .int x14] [.int x42] h40 bc bs Q
                exact ex_ireturn dX11_linking_74 rfl (Or.inl rfl) w
    · replace w := w.2 c9
      refine ex_aload_n (q := 28) (x := a_0) dX11_linking_27 rfl ?_
      refine ex_bipush (q := 30) (v := (-13)) dX11_linking_28 (by decide) ?_
      have s44 := w.1
      replace w := w.2
      refine ex_callV (q := 33) (M := mX11_linking) (hdd := Nat.le_refl _) (c := 11) (st := []) (bc := bc) (bs := bs) dX11_linking_30 rfl cl_X11_120 wd_557 wd_1 s44 w ?_
      rintro r h43 ⟨x45, rfl, w⟩
      show ex_G mX11_linking (d + 5) 33 [.ref a_0, .int v_1, .int v_2, .int v_3, .retAddr 0] [.int x45] h43 bc bs Q
      exact ex_ireturn dX11_linking_33 rfl (Or.inl rfl) w
  · replace w := w.2 c4
    refine ex_aload_n (q := 9) (x := a_0) dX11_linking_8 rfl ?_
    refine ex_bipush (q := 11) (v := (-2)) dX11_linking_9 (by decide) ?_
    have s47 := w.1
    replace w := w.2
    refine ex_callV (q := 14) (M := mX11_linking) (hdd := Nat.le_refl _) (c := 11) (st := []) (bc := bc) (bs := bs) dX11_linking_11 rfl cl_X11_120 wd_557 wd_1 s47 w ?_
    rintro r h46 ⟨x48, rfl, w⟩
    show ex_G mX11_linking (d + 5) 14 [.ref a_0, .int v_1, .int v_2, .int v_3, .retAddr 0] [.int x48] h46 bc bs Q
    exact ex_ireturn dX11_linking_14 rfl (Or.inl rfl) w

theorem X11_linking_e {d bc bs : Nat} {h : AH} {Q : Option Value → AH → Prop} {a_0 : Nat} {v_1 : Int32} {v_2 : Int32} {v_3 : Int32} (w : ex_G mX11_linking (d + 5) 0 [.ref a_0, .int v_1, .int v_2, .int v_3, .retAddr 0] [] h bc bs Q) : ex_S yX11_linking mX11_linking (d + 5) [.ref a_0, .int v_1, .int v_2, .int v_3] h bc bs Q :=
  ex_enter (plainFor_of_name (by decide +kernel)) ⟨rfl, rfl⟩ rfl rfl (Nat.le_of_ble_eq_true rfl) (ex_pad 1 w)

set_option maxRecDepth 100000 in
theorem X11_isColourCount_0 {d bc bs : Nat} {h : AH} {Q : Option Value → AH → Prop} {v_0 : Int32} (w : ex_G mX11_isColourCount d 2 [.int v_0, .int 0] [] h bc bs Q) : ex_G mX11_isColourCount d 0 [.int v_0, .retAddr 0] [] h bc bs Q := by
  refine ex_iconst (q := 1) (v := 0) dX11_isColourCount_0 (by decide) ?_
  refine ex_istore_n (q := 2) (ls' := [.int v_0, .int 0]) dX11_isColourCount_1 rfl ?_
  exact w

set_option maxRecDepth 100000 in
theorem X11_isColourCount_2 {d bc bs : Nat} {h : AH} {Q : Option Value → AH → Prop} {v_0 : Int32} {v_1 : Int32} (w : ∃ n1, (ah_ra h 10000001 n1 ∨ ah_x h 10000001 2 n1) ∧ (((Int32.ofNat n1) ≤ v_1 → Q (some (.int 0)) h) ∧ (¬ (Int32.ofNat n1) ≤ v_1 → ld0 h 10000001 v_1 ∧ ((¬ (ah_i h 10000001 (Int32.toNatClampNeg v_1)) = v_0 → ∀ x6, x6 = v_1 + 1 → ex_G mX11_isColourCount d 2 [.int v_0, .int x6] [] h bc bs Q) ∧ ((ah_i h 10000001 (Int32.toNatClampNeg v_1)) = v_0 → Q (some (.int 1)) h))))) : ex_G mX11_isColourCount d 2 [.int v_0, .int v_1] [] h bc bs Q := by
  refine ex_iload_n (q := 3) (x := v_1) dX11_isColourCount_2 rfl ?_
  refine ex_gets1 (q := 6) dX11_isColourCount_3 wd_788 ?_
  obtain ⟨n1, s2, w⟩ := w
  refine ex_alen (q := 7) dX11_isColourCount_6 s2 ?_
  refine ex_icmp_ge (tgt := 27) (q := 10) dX11_isColourCount_7 (fun c3 => ?_) (fun c3 => ?_)
  · replace w := w.1 c3
    refine ex_iconst (q := 28) (v := 0) dX11_isColourCount_27 (by decide) ?_
    exact ex_ireturn dX11_isColourCount_28 rfl (Or.inr ⟨rfl, Or.inl rfl⟩) w
  · replace w := w.2 c3
    refine ex_gets1 (q := 13) dX11_isColourCount_10 wd_788 ?_
    refine ex_iload_n (q := 14) (x := v_1) dX11_isColourCount_13 rfl ?_
    have s4 := w.1
    replace w := w.2
    refine ex_iald (q := 15) dX11_isColourCount_14 s4 ?_
    refine ex_iload_n (q := 16) (x := v_0) dX11_isColourCount_15 rfl ?_
    refine ex_icmp_ne (tgt := 21) (q := 19) dX11_isColourCount_16 (fun c5 => ?_) (fun c5 => ?_)
    · replace w := w.1 c5
      obtain ⟨x6, ex6⟩ : ∃ y : Int32, y = v_1 + 1 := ⟨_, rfl⟩
      replace w := w x6 ex6
      refine ex_iinc (q := 24) (x := v_1) (v := x6) (ls' := [.int v_0, .int x6]) dX11_isColourCount_21 rfl (by rw [ex6]; rfl) rfl ?_
      refine ex_goto (tgt := 2) dX11_isColourCount_24 ?_
      exact w
    · replace w := w.2 c5
      refine ex_iconst (q := 20) (v := 1) dX11_isColourCount_19 (by decide) ?_
      exact ex_ireturn dX11_isColourCount_20 rfl (Or.inr ⟨rfl, Or.inr rfl⟩) w

theorem X11_isColourCount_e {d bc bs : Nat} {h : AH} {Q : Option Value → AH → Prop} {v_0 : Int32} (w : ex_G mX11_isColourCount d 0 [.int v_0, .retAddr 0] [] h bc bs Q) : ex_S yX11_isColourCount mX11_isColourCount d [.int v_0] h bc bs Q :=
  ex_enter (plainFor_of_name (by decide +kernel)) ⟨rfl, rfl⟩ rfl rfl (Nat.le_of_ble_eq_true rfl) (ex_pad 1 w)

set_option maxRecDepth 100000 in
theorem X11_colours_0 {d bc bs : Nat} {h : AH} {Q : Option Value → AH → Prop} {a_0 : Nat} {v_1 : Int32} {v_2 : Int32} (w : ah_o h a_0 11 ∧ ex_S yX11_hasPicture mX11_hasPicture (d + 4) [.ref a_0, .int v_1] h 0 0 (fun r h1 => ∃ x3, r = some (.int x3) ∧ ((x3 = 0 → ah_o h1 a_0 11 ∧ ex_S yX11_refuse mX11_refuse (d + 4) [.ref a_0, .int (-2)] h1 0 0 (fun r h5 => ∃ x7, r = some (.int x7) ∧ Q (some (.int x7)) h5)) ∧ (¬ x3 = 0 → ex_S yX11_isColourCount mX11_isColourCount (d + 4) [.int v_2] h1 0 0 (fun r h8 => ∃ x9, r = some (.int x9) ∧ ((¬ x9 = 0 → ah_o h8 a_0 11 ∧ ∃ a12, ah_r h8 a_0 4 = some a12 ∧ ex_S yX11_isWhole mX11_isWhole (d + 4) [.ref a_0, .int v_1, .ref a12] h8 0 0 (fun r h13 => ∃ x14, r = some (.int x14) ∧ ((x14 = 0 → ah_o h13 a_0 11 ∧ ex_S yX11_refuse mX11_refuse (d + 4) [.ref a_0, .int (-13)] h13 0 0 (fun r h16 => ∃ x18, r = some (.int x18) ∧ Q (some (.int x18)) h16)) ∧ (¬ x14 = 0 → ah_o h13 a_0 11 ∧ ∃ a20, ah_r h13 a_0 11 = some a20 ∧ ∃ a21, ah_r h13 a_0 4 = some a21 ∧ ah_o h13 a20 1 ∧ ex_S yX1_powerOf mX1_powerOf (d + 4) [.ref a20, .ref a21, .int v_2] h13 0 0 (fun r h22 => ∃ x24, r = some (.int x24) ∧ ah_o h22 a_0 11 ∧ ex_S yX11_grant mX11_grant (d + 4) [.ref a_0, .int x24] h22 0 0 (fun r h25 => ∃ x27, r = some (.int x27) ∧ Q (some (.int x27)) h25)))))) ∧ (x9 = 0 → ah_o h8 a_0 11 ∧ ex_S yX11_refuse mX11_refuse (d + 4) [.ref a_0, .int (-2)] h8 0 0 (fun r h28 => ∃ x30, r = some (.int x30) ∧ Q (some (.int x30)) h28)))))))) : ex_G mX11_colours (d + 5) 0 [.ref a_0, .int v_1, .int v_2] [] h bc bs Q := by
  refine ex_aload_n (q := 1) (x := a_0) dX11_colours_0 rfl ?_
  refine ex_iload_n (q := 2) (x := v_1) dX11_colours_1 rfl ?_
  have s2 := w.1
  replace w := w.2
  refine ex_callV (q := 5) (M := mX11_colours) (hdd := Nat.le_refl _) (c := 11) (st := []) (bc := bc) (bs := bs) dX11_colours_2 rfl cl_X11_134 wd_584 wd_4 s2 w ?_
  rintro r h1 ⟨x3, rfl, w⟩
  show ex_G mX11_colours (d + 5) 5 [.ref a_0, .int v_1, .int v_2] [.int x3] h1 bc bs Q
  refine ex_if_eq (tgt := 15) (q := 8) dX11_colours_5 (fun c4 => ?_) (fun c4 => ?_)
  · replace w := w.1 c4
    refine ex_aload_n (q := 16) (x := a_0) dX11_colours_15 rfl ?_
    refine ex_bipush (q := 18) (v := (-2)) dX11_colours_16 (by decide) ?_
    have s6 := w.1
    replace w := w.2
    refine ex_callV (q := 21) (M := mX11_colours) (hdd := Nat.le_refl _) (c := 11) (st := []) (bc := bc) (bs := bs) dX11_colours_18 rfl cl_X11_120 wd_557 wd_1 s6 w ?_
    rintro r h5 ⟨x7, rfl, w⟩
    show ex_G mX11_colours (d + 5) 21 [.ref a_0, .int v_1, .int v_2] [.int x7] h5 bc bs Q
    exact ex_ireturn dX11_colours_21 rfl (Or.inl rfl) w
  · replace w := w.2 c4
    refine ex_iload_n (q := 9) (x := v_2) dX11_colours_8 rfl ?_
    refine ex_callS (q := 12) (M := mX11_colours) (hdd := Nat.le_refl _) (st := []) (bc := bc) (bs := bs) dX11_colours_9 rfl cl_X11_244 wd_786 w ?_
    rintro r h8 ⟨x9, rfl, w⟩
    show ex_G mX11_colours (d + 5) 12 [.ref a_0, .int v_1, .int v_2] [.int x9] h8 bc bs Q
    refine ex_if_ne (tgt := 22) (q := 15) dX11_colours_12 (fun c10 => ?_) (fun c10 => ?_)
    · replace w := w.1 c10
      refine ex_aload_n (q := 23) (x := a_0) dX11_colours_22 rfl ?_
      refine ex_iload_n (q := 24) (x := v_1) dX11_colours_23 rfl ?_
      refine ex_aload_n (q := 25) (x := a_0) dX11_colours_24 rfl ?_
      have s11 := w.1
      replace w := w.2
      obtain ⟨a12, ea12, w⟩ := w
      refine ex_getr (q := 28) dX11_colours_25 fl_X11_36 s11 ea12 ?_
      refine ex_callV (q := 31) (M := mX11_colours) (hdd := Nat.le_refl _) (c := 11) (st := []) (bc := bc) (bs := bs) dX11_colours_28 rfl cl_X11_184 wd_695 wd_13 s11 w ?_
      rintro r h13 ⟨x14, rfl, w⟩
      show ex_G mX11_colours (d + 5) 31 [.ref a_0, .int v_1, .int v_2] [.int x14] h13 bc bs Q
      refine ex_if_eq (tgt := 53) (q := 34) dX11_colours_31 (fun c15 => ?_) (fun c15 => ?_)
      · replace w := w.1 c15
        refine ex_aload_n (q := 54) (x := a_0) dX11_colours_53 rfl ?_
        refine ex_bipush (q := 56) (v := (-13)) dX11_colours_54 (by decide) ?_
        have s17 := w.1
        replace w := w.2
        refine ex_callV (q := 59) (M := mX11_colours) (hdd := Nat.le_refl _) (c := 11) (st := []) (bc := bc) (bs := bs) dX11_colours_56 rfl cl_X11_120 wd_557 wd_1 s17 w ?_
        rintro r h16 ⟨x18, rfl, w⟩
        show ex_G mX11_colours (d + 5) 59 [.ref a_0, .int v_1, .int v_2] [.int x18] h16 bc bs Q
        exact ex_ireturn dX11_colours_59 rfl (Or.inl rfl) w
      · replace w := w.2 c15
        refine ex_aload_n (q := 35) (x := a_0) dX11_colours_34 rfl ?_
        refine ex_aload_n (q := 36) (x := a_0) dX11_colours_35 rfl ?_
        have s19 := w.1
        replace w := w.2
        obtain ⟨a20, ea20, w⟩ := w
        refine ex_getr (q := 39) dX11_colours_36 fl_X11_71 s19 ea20 ?_
        refine ex_aload_n (q := 40) (x := a_0) dX11_colours_39 rfl ?_
        obtain ⟨a21, ea21, w⟩ := w
        refine ex_getr (q := 43) dX11_colours_40 fl_X11_36 s19 ea21 ?_
        refine ex_iload_n (q := 44) (x := v_2) dX11_colours_43 rfl ?_
        have s23 := w.1
        replace w := w.2
        refine ex_callV (q := 47) (M := mX11_colours) (hdd := Nat.le_refl _) (c := 1) (st := [.ref a_0]) (bc := bc) (bs := bs) dX11_colours_44 rfl cl_X11_247 wd_791 wd_792 s23 w ?_
        rintro r h22 ⟨x24, rfl, w⟩
        show ex_G mX11_colours (d + 5) 47 [.ref a_0, .int v_1, .int v_2] [.int x24, .ref a_0] h22 bc bs Q
        have s26 := w.1
        replace w := w.2
        refine ex_callV (q := 50) (M := mX11_colours) (hdd := Nat.le_refl _) (c := 11) (st := []) (bc := bc) (bs := bs) dX11_colours_47 rfl cl_X11_131 wd_576 wd_3 s26 w ?_
        rintro r h25 ⟨x27, rfl, w⟩
        show ex_G mX11_colours (d + 5) 50 [.ref a_0, .int v_1, .int v_2] [.int x27] h25 bc bs Q
        refine ex_goto (tgt := 59) dX11_colours_50 ?_
        exact ex_ireturn dX11_colours_59 rfl (Or.inl rfl) w
    · replace w := w.2 c10
      refine ex_aload_n (q := 16) (x := a_0) dX11_colours_15 rfl ?_
      refine ex_bipush (q := 18) (v := (-2)) dX11_colours_16 (by decide) ?_
      have s29 := w.1
      replace w := w.2
      refine ex_callV (q := 21) (M := mX11_colours) (hdd := Nat.le_refl _) (c := 11) (st := []) (bc := bc) (bs := bs) dX11_colours_18 rfl cl_X11_120 wd_557 wd_1 s29 w ?_
      rintro r h28 ⟨x30, rfl, w⟩
      show ex_G mX11_colours (d + 5) 21 [.ref a_0, .int v_1, .int v_2] [.int x30] h28 bc bs Q
      exact ex_ireturn dX11_colours_21 rfl (Or.inl rfl) w

theorem X11_colours_e {d bc bs : Nat} {h : AH} {Q : Option Value → AH → Prop} {a_0 : Nat} {v_1 : Int32} {v_2 : Int32} (w : ex_G mX11_colours (d + 5) 0 [.ref a_0, .int v_1, .int v_2] [] h bc bs Q) : ex_S yX11_colours mX11_colours (d + 5) [.ref a_0, .int v_1, .int v_2] h bc bs Q :=
  ex_enter (plainFor_of_name (by decide +kernel)) ⟨rfl, rfl⟩ rfl rfl (Nat.le_of_ble_eq_true rfl) (ex_pad 0 w)

set_option maxRecDepth 100000 in
theorem X11_whyNoBracket_0 {d bc bs : Nat} {h : AH} {Q : Option Value → AH → Prop} {a_0 : Nat} {v_1 : Int32} {v_2 : Int32} (w : ah_o h a_0 11 ∧ ∃ a2, ah_r h a_0 4 = some a2 ∧ ex_S yX11_isWhole mX11_isWhole (d + 4) [.ref a_0, .int v_1, .ref a2] h 0 0 (fun r h3 => ∃ x4, r = some (.int x4) ∧ ((¬ x4 = 0 → ah_o h3 a_0 11 ∧ ∃ a7, ah_r h3 a_0 4 = some a7 ∧ ah_o h3 a7 4 ∧ ((¬ (ah_f h3 a7 10) = 0 → ex_G mX11_whyNoBracket (d + 5) 38 [.ref a_0, .retAddr 0, .int v_2] [] h3 bc bs Q) ∧ ((ah_f h3 a7 10) = 0 → ((¬ (ah_f h3 a7 11) = 0 → ex_G mX11_whyNoBracket (d + 5) 38 [.ref a_0, .retAddr 0, .int v_2] [] h3 bc bs Q) ∧ ((ah_f h3 a7 11) = 0 → Q (some (.int (-16))) h3))))) ∧ (x4 = 0 → Q (some (.int (-13))) h3)))) : ex_G mX11_whyNoBracket (d + 5) 0 [.ref a_0, .int v_1, .int v_2] [] h bc bs Q := by
  refine ex_aload_n (q := 1) (x := a_0) dX11_whyNoBracket_0 rfl ?_
  refine ex_iload_n (q := 2) (x := v_1) dX11_whyNoBracket_1 rfl ?_
  refine ex_aload_n (q := 3) (x := a_0) dX11_whyNoBracket_2 rfl ?_
  have s1 := w.1
  replace w := w.2
  obtain ⟨a2, ea2, w⟩ := w
  refine ex_getr (q := 6) dX11_whyNoBracket_3 fl_X11_36 s1 ea2 ?_
  refine ex_callV (q := 9) (M := mX11_whyNoBracket) (hdd := Nat.le_refl _) (c := 11) (st := []) (bc := bc) (bs := bs) dX11_whyNoBracket_6 rfl cl_X11_184 wd_695 wd_13 s1 w ?_
  rintro r h3 ⟨x4, rfl, w⟩
  show ex_G mX11_whyNoBracket (d + 5) 9 [.ref a_0, .int v_1, .int v_2] [.int x4] h3 bc bs Q
  refine ex_if_ne (tgt := 15) (q := 12) dX11_whyNoBracket_9 (fun c5 => ?_) (fun c5 => ?_)
  · replace w := w.1 c5
    refine ex_aload_n (q := 16) (x := a_0) dX11_whyNoBracket_15 rfl ?_
    have s6 := w.1
    replace w := w.2
    obtain ⟨a7, ea7, w⟩ := w
    refine ex_getr (q := 19) dX11_whyNoBracket_16 fl_X11_36 s6 ea7 ?_
    have s8 := w.1
    replace w := w.2
    refine ex_getf (q := 22) dX11_whyNoBracket_19 fl_X11_213 s8 ?_
    refine ex_if_ne (tgt := 38) (q := 25) dX11_whyNoBracket_22 (fun c9 => ?_) (fun c9 => ?_)
    · replace w := w.1 c9
      refine ex_kill 1 (ls' := [.ref a_0, .retAddr 0, .int v_2]) rfl ?_
      exact w
    · replace w := w.2 c9
      refine ex_aload_n (q := 26) (x := a_0) dX11_whyNoBracket_25 rfl ?_
      refine ex_getr (q := 29) dX11_whyNoBracket_26 fl_X11_36 s6 ea7 ?_
      refine ex_getf (q := 32) dX11_whyNoBracket_29 fl_X11_214 s8 ?_
      refine ex_if_ne (tgt := 38) (q := 35) dX11_whyNoBracket_32 (fun c10 => ?_) (fun c10 => ?_)
      · replace w := w.1 c10
        refine ex_kill 1 (ls' := [.ref a_0, .retAddr 0, .int v_2]) rfl ?_
        exact w
      · replace w := w.2 c10
        refine ex_bipush (q := 37) (v := (-16)) dX11_whyNoBracket_35 (by decide) ?_
        exact ex_ireturn dX11_whyNoBracket_37 rfl (Or.inl rfl) w
  · replace w := w.2 c5
    refine ex_bipush (q := 14) (v := (-13)) dX11_whyNoBracket_12 (by decide) ?_
    exact ex_ireturn dX11_whyNoBracket_14 rfl (Or.inl rfl) w

set_option maxRecDepth 100000 in
theorem X11_whyNoBracket_38 {d bc bs : Nat} {h : AH} {Q : Option Value → AH → Prop} {a_0 : Nat} {v_2 : Int32} (w : ah_o h a_0 11 ∧ ∃ a2, ah_r h a_0 4 = some a2 ∧ ah_o h a2 4 ∧ (((ah_f h a2 10) ≤ v_2 → ∃ a5, ah_r h a_0 7 = some a5 ∧ ex_S yX9_costOf mX9_costOf (d + 4) [.int (ah_f h a2 10)] h 0 0 (fun r h6 => ∃ x7, r = some (.int x7) ∧ ah_o h6 a5 9 ∧ ex_S yX9_affords mX9_affords (d + 4) [.ref a5, .int x7] h6 0 0 (fun r h8 => ∃ x10, r = some (.int x10) ∧ ((x10 = 0 → Q (some (.int (-19))) h8) ∧ (¬ x10 = 0 → Q (some (.int 0)) h8))))) ∧ (¬ (ah_f h a2 10) ≤ v_2 → Q (some (.int (-17))) h))) : ex_G mX11_whyNoBracket (d + 5) 38 [.ref a_0, .retAddr 0, .int v_2] [] h bc bs Q := by
  refine ex_aload_n (q := 39) (x := a_0) dX11_whyNoBracket_38 rfl ?_
  have s1 := w.1
  replace w := w.2
  obtain ⟨a2, ea2, w⟩ := w
  refine ex_getr (q := 42) dX11_whyNoBracket_39 fl_X11_36 s1 ea2 ?_
  have s3 := w.1
  replace w := w.2
  refine ex_getf (q := 45) dX11_whyNoBracket_42 fl_X11_213 s3 ?_
  refine ex_iload_n (q := 46) (x := v_2) dX11_whyNoBracket_45 rfl ?_
  refine ex_icmp_le (tgt := 52) (q := 49) dX11_whyNoBracket_46 (fun c4 => ?_) (fun c4 => ?_)
  · replace w := w.1 c4
    refine ex_aload_n (q := 53) (x := a_0) dX11_whyNoBracket_52 rfl ?_
    obtain ⟨a5, ea5, w⟩ := w
    refine ex_getr (q := 56) dX11_whyNoBracket_53 fl_X11_51 s1 ea5 ?_
    refine ex_aload_n (q := 57) (x := a_0) dX11_whyNoBracket_56 rfl ?_
    refine ex_getr (q := 60) dX11_whyNoBracket_57 fl_X11_36 s1 ea2 ?_
    refine ex_getf (q := 63) dX11_whyNoBracket_60 fl_X11_213 s3 ?_
    refine ex_callS (q := 66) (M := mX11_whyNoBracket) (hdd := Nat.le_refl _) (st := [.ref a5]) (bc := bc) (bs := bs) dX11_whyNoBracket_63 rfl cl_X11_251 wd_831 w ?_
    rintro r h6 ⟨x7, rfl, w⟩
    show ex_G mX11_whyNoBracket (d + 5) 66 [.ref a_0, .retAddr 0, .int v_2] [.int x7, .ref a5] h6 bc bs Q
    have s9 := w.1
    replace w := w.2
    refine ex_callV (q := 69) (M := mX11_whyNoBracket) (hdd := Nat.le_refl _) (c := 9) (st := []) (bc := bc) (bs := bs) dX11_whyNoBracket_66 rfl cl_X11_254 wd_836 wd_837 s9 w ?_
    rintro r h8 ⟨x10, rfl, w⟩
    show ex_G mX11_whyNoBracket (d + 5) 69 [.ref a_0, .retAddr 0, .int v_2] [.int x10] h8 bc bs Q
    refine ex_if_eq (tgt := 76) (q := 72) dX11_whyNoBracket_69 (fun c11 => ?_) (fun c11 => ?_)
    · replace w := w.1 c11
      refine ex_bipush (q := 78) (v := (-19)) dX11_whyNoBracket_76 (by decide) ?_
      exact ex_ireturn dX11_whyNoBracket_78 rfl (Or.inl rfl) w
    · replace w := w.2 c11
      refine ex_iconst (q := 73) (v := 0) dX11_whyNoBracket_72 (by decide) ?_
      refine ex_goto (tgt := 78) dX11_whyNoBracket_73 ?_
      exact ex_ireturn dX11_whyNoBracket_78 rfl (Or.inl rfl) w
  · replace w := w.2 c4
    refine ex_bipush (q := 51) (v := (-17)) dX11_whyNoBracket_49 (by decide) ?_
    exact ex_ireturn dX11_whyNoBracket_51 rfl (Or.inl rfl) w

theorem X11_whyNoBracket_e {d bc bs : Nat} {h : AH} {Q : Option Value → AH → Prop} {a_0 : Nat} {v_1 : Int32} {v_2 : Int32} (w : ex_G mX11_whyNoBracket (d + 5) 0 [.ref a_0, .int v_1, .int v_2] [] h bc bs Q) : ex_S yX11_whyNoBracket mX11_whyNoBracket (d + 5) [.ref a_0, .int v_1, .int v_2] h bc bs Q :=
  ex_enter (plainFor_of_name (by decide +kernel)) ⟨rfl, rfl⟩ rfl rfl (Nat.le_of_ble_eq_true rfl) (ex_pad 0 w)

set_option maxRecDepth 100000 in
theorem X11_bracket_0 {d bc bs : Nat} {h : AH} {Q : Option Value → AH → Prop} {a_0 : Nat} {v_1 : Int32} (w : ah_o h a_0 11 ∧ ex_S yX11_hasPicture mX11_hasPicture (d + 17) [.ref a_0, .int v_1] h 0 0 (fun r h1 => ∃ x3, r = some (.int x3) ∧ ((x3 = 0 → ex_G mX11_bracket (d + 18) 20 [.ref a_0, .retAddr 0, .retAddr 0] [.int (-2)] h1 bc bs Q) ∧ (¬ x3 = 0 → ah_o h1 a_0 11 ∧ ex_S yX11_whyNoBracket mX11_whyNoBracket (d + 17) [.ref a_0, .int v_1, .int 14] h1 0 0 (fun r h5 => ∃ x7, r = some (.int x7) ∧ ex_G mX11_bracket (d + 18) 20 [.ref a_0, .retAddr 0, .retAddr 0] [.int x7] h5 bc bs Q))))) : ex_G mX11_bracket (d + 18) 0 [.ref a_0, .int v_1, .retAddr 0] [] h bc bs Q := by
  refine ex_aload_n (q := 1) (x := a_0) dX11_bracket_0 rfl ?_
  refine ex_iload_n (q := 2) (x := v_1) dX11_bracket_1 rfl ?_
  have s2 := w.1
  replace w := w.2
  refine ex_callV (q := 5) (M := mX11_bracket) (hdd := Nat.le_refl _) (c := 11) (st := []) (bc := bc) (bs := bs) dX11_bracket_2 rfl cl_X11_134 wd_584 wd_4 s2 w ?_
  rintro r h1 ⟨x3, rfl, w⟩
  show ex_G mX11_bracket (d + 18) 5 [.ref a_0, .int v_1, .retAddr 0] [.int x3] h1 bc bs Q
  refine ex_if_eq (tgt := 18) (q := 8) dX11_bracket_5 (fun c4 => ?_) (fun c4 => ?_)
  · replace w := w.1 c4
    refine ex_bipush (q := 20) (v := (-2)) dX11_bracket_18 (by decide) ?_
    refine ex_kill 1 (ls' := [.ref a_0, .retAddr 0, .retAddr 0]) rfl ?_
    exact w
  · replace w := w.2 c4
    refine ex_aload_n (q := 9) (x := a_0) dX11_bracket_8 rfl ?_
    refine ex_iload_n (q := 10) (x := v_1) dX11_bracket_9 rfl ?_
    refine ex_bipush (q := 12) (v := 14) dX11_bracket_10 (by decide) ?_
    have s6 := w.1
    replace w := w.2
    refine ex_callV (q := 15) (M := mX11_bracket) (hdd := Nat.le_refl _) (c := 11) (st := []) (bc := bc) (bs := bs) dX11_bracket_12 rfl cl_X11_257 wd_828 wd_20 s6 w ?_
    rintro r h5 ⟨x7, rfl, w⟩
    show ex_G mX11_bracket (d + 18) 15 [.ref a_0, .int v_1, .retAddr 0] [.int x7] h5 bc bs Q
    refine ex_goto (tgt := 20) dX11_bracket_15 ?_
    refine ex_kill 1 (ls' := [.ref a_0, .retAddr 0, .retAddr 0]) rfl ?_
    exact w

set_option maxRecDepth 100000 in
theorem X11_bracket_20 {d bc bs : Nat} {h : AH} {Q : Option Value → AH → Prop} {a_0 : Nat} {u_0 : Int32} (w : ((u_0 = 0 → ah_o h a_0 11 ∧ ∃ a3, ah_r h a_0 7 = some a3 ∧ ∃ a4, ah_r h a_0 4 = some a4 ∧ ∃ a5, ah_r h a_0 8 = some a5 ∧ ah_o h a3 9 ∧ ex_S yX9_makeBracket mX9_makeBracket (d + 17) [.ref a3, .ref a4, .ref a5] h 0 0 (fun r h6 => r = none ∧ ah_o h6 a_0 11 ∧ ∃ a9, ah_r h6 a_0 8 = some a9 ∧ ah_o h6 a9 2 ∧ ex_S yX2_countNumbers mX2_countNumbers (d + 17) [.ref a9] h6 0 0 (fun r h10 => ∃ x12, r = some (.int x12) ∧ ah_o h10 a_0 11 ∧ ex_S yX11_grant mX11_grant (d + 17) [.ref a_0, .int x12] h10 0 0 (fun r h13 => ∃ x15, r = some (.int x15) ∧ Q (some (.int x15)) h13)))) ∧ (¬ u_0 = 0 → ah_o h a_0 11 ∧ ex_S yX11_refuse mX11_refuse (d + 17) [.ref a_0, .int u_0] h 0 0 (fun r h16 => ∃ x18, r = some (.int x18) ∧ Q (some (.int x18)) h16)))) : ex_G mX11_bracket (d + 18) 20 [.ref a_0, .retAddr 0, .retAddr 0] [.int u_0] h bc bs Q := by
  refine ex_istore_n (q := 21) (ls' := [.ref a_0, .retAddr 0, .int u_0]) dX11_bracket_20 rfl ?_
  refine ex_iload_n (q := 22) (x := u_0) dX11_bracket_21 rfl ?_
  refine ex_if_eq (tgt := 31) (q := 25) dX11_bracket_22 (fun c1 => ?_) (fun c1 => ?_)
  · replace w := w.1 c1
    refine ex_aload_n (q := 32) (x := a_0) dX11_bracket_31 rfl ?_
    have s2 := w.1
    replace w := w.2
    obtain ⟨a3, ea3, w⟩ := w
    refine ex_getr (q := 35) dX11_bracket_32 fl_X11_51 s2 ea3 ?_
    refine ex_aload_n (q := 36) (x := a_0) dX11_bracket_35 rfl ?_
    obtain ⟨a4, ea4, w⟩ := w
    refine ex_getr (q := 39) dX11_bracket_36 fl_X11_36 s2 ea4 ?_
    refine ex_aload_n (q := 40) (x := a_0) dX11_bracket_39 rfl ?_
    obtain ⟨a5, ea5, w⟩ := w
    refine ex_getr (q := 43) dX11_bracket_40 fl_X11_58 s2 ea5 ?_
    have s7 := w.1
    replace w := w.2
    refine ex_callV (q := 46) (M := mX11_bracket) (hdd := Nat.le_refl _) (c := 9) (st := []) (bc := bc) (bs := bs) dX11_bracket_43 rfl cl_X11_260 wd_841 wd_842 s7 w ?_
    rintro r h6 ⟨rfl, w⟩
    show ex_G mX11_bracket (d + 18) 46 [.ref a_0, .retAddr 0, .int u_0] [] h6 bc bs Q
    refine ex_aload_n (q := 47) (x := a_0) dX11_bracket_46 rfl ?_
    refine ex_aload_n (q := 48) (x := a_0) dX11_bracket_47 rfl ?_
    have s8 := w.1
    replace w := w.2
    obtain ⟨a9, ea9, w⟩ := w
    refine ex_getr (q := 51) dX11_bracket_48 fl_X11_58 s8 ea9 ?_
    have s11 := w.1
    replace w := w.2
    refine ex_callV (q := 54) (M := mX11_bracket) (hdd := Nat.le_refl _) (c := 2) (st := [.ref a_0]) (bc := bc) (bs := bs) dX11_bracket_51 rfl cl_X11_264 wd_883 wd_884 s11 w ?_
    rintro r h10 ⟨x12, rfl, w⟩
    show ex_G mX11_bracket (d + 18) 54 [.ref a_0, .retAddr 0, .int u_0] [.int x12, .ref a_0] h10 bc bs Q
    have s14 := w.1
    replace w := w.2
    refine ex_callV (q := 57) (M := mX11_bracket) (hdd := Nat.le_refl _) (c := 11) (st := []) (bc := bc) (bs := bs) dX11_bracket_54 rfl cl_X11_131 wd_576 wd_3 s14 w ?_
    rintro r h13 ⟨x15, rfl, w⟩
    show ex_G mX11_bracket (d + 18) 57 [.ref a_0, .retAddr 0, .int u_0] [.int x15] h13 bc bs Q
    exact ex_ireturn dX11_bracket_57 rfl (Or.inl rfl) w
  · replace w := w.2 c1
    refine ex_aload_n (q := 26) (x := a_0) dX11_bracket_25 rfl ?_
    refine ex_iload_n (q := 27) (x := u_0) dX11_bracket_26 rfl ?_
    have s17 := w.1
    replace w := w.2
    refine ex_callV (q := 30) (M := mX11_bracket) (hdd := Nat.le_refl _) (c := 11) (st := []) (bc := bc) (bs := bs) dX11_bracket_27 rfl cl_X11_120 wd_557 wd_1 s17 w ?_
    rintro r h16 ⟨x18, rfl, w⟩
    show ex_G mX11_bracket (d + 18) 30 [.ref a_0, .retAddr 0, .int u_0] [.int x18] h16 bc bs Q
    exact ex_ireturn dX11_bracket_30 rfl (Or.inl rfl) w

theorem X11_bracket_e {d bc bs : Nat} {h : AH} {Q : Option Value → AH → Prop} {a_0 : Nat} {v_1 : Int32} (w : ex_G mX11_bracket (d + 18) 0 [.ref a_0, .int v_1, .retAddr 0] [] h bc bs Q) : ex_S yX11_bracket mX11_bracket (d + 18) [.ref a_0, .int v_1] h bc bs Q :=
  ex_enter (plainFor_of_name (by decide +kernel)) ⟨rfl, rfl⟩ rfl rfl (Nat.le_of_ble_eq_true rfl) (ex_pad 1 w)

set_option maxRecDepth 100000 in
theorem X11_polynomial_0 {d bc bs : Nat} {h : AH} {Q : Option Value → AH → Prop} {a_0 : Nat} {v_1 : Int32} (w : ah_o h a_0 11 ∧ ex_S yX11_hasPicture mX11_hasPicture (d + 18) [.ref a_0, .int v_1] h 0 0 (fun r h1 => ∃ x3, r = some (.int x3) ∧ ((x3 = 0 → ex_G mX11_polynomial (d + 19) 20 [.ref a_0, .retAddr 0, .retAddr 0] [.int (-2)] h1 bc bs Q) ∧ (¬ x3 = 0 → ah_o h1 a_0 11 ∧ ex_S yX11_whyNoBracket mX11_whyNoBracket (d + 18) [.ref a_0, .int v_1, .int 14] h1 0 0 (fun r h5 => ∃ x7, r = some (.int x7) ∧ ex_G mX11_polynomial (d + 19) 20 [.ref a_0, .retAddr 0, .retAddr 0] [.int x7] h5 bc bs Q))))) : ex_G mX11_polynomial (d + 19) 0 [.ref a_0, .int v_1, .retAddr 0] [] h bc bs Q := by
  refine ex_aload_n (q := 1) (x := a_0) dX11_polynomial_0 rfl ?_
  refine ex_iload_n (q := 2) (x := v_1) dX11_polynomial_1 rfl ?_
  have s2 := w.1
  replace w := w.2
  refine ex_callV (q := 5) (M := mX11_polynomial) (hdd := Nat.le_refl _) (c := 11) (st := []) (bc := bc) (bs := bs) dX11_polynomial_2 rfl cl_X11_134 wd_584 wd_4 s2 w ?_
  rintro r h1 ⟨x3, rfl, w⟩
  show ex_G mX11_polynomial (d + 19) 5 [.ref a_0, .int v_1, .retAddr 0] [.int x3] h1 bc bs Q
  refine ex_if_eq (tgt := 18) (q := 8) dX11_polynomial_5 (fun c4 => ?_) (fun c4 => ?_)
  · replace w := w.1 c4
    refine ex_bipush (q := 20) (v := (-2)) dX11_polynomial_18 (by decide) ?_
    refine ex_kill 1 (ls' := [.ref a_0, .retAddr 0, .retAddr 0]) rfl ?_
    exact w
  · replace w := w.2 c4
    refine ex_aload_n (q := 9) (x := a_0) dX11_polynomial_8 rfl ?_
    refine ex_iload_n (q := 10) (x := v_1) dX11_polynomial_9 rfl ?_
    refine ex_bipush (q := 12) (v := 14) dX11_polynomial_10 (by decide) ?_
    have s6 := w.1
    replace w := w.2
    refine ex_callV (q := 15) (M := mX11_polynomial) (hdd := Nat.le_refl _) (c := 11) (st := []) (bc := bc) (bs := bs) dX11_polynomial_12 rfl cl_X11_257 wd_828 wd_20 s6 w ?_
    rintro r h5 ⟨x7, rfl, w⟩
    show ex_G mX11_polynomial (d + 19) 15 [.ref a_0, .int v_1, .retAddr 0] [.int x7] h5 bc bs Q
    refine ex_goto (tgt := 20) dX11_polynomial_15 ?_
    refine ex_kill 1 (ls' := [.ref a_0, .retAddr 0, .retAddr 0]) rfl ?_
    exact w

set_option maxRecDepth 100000 in
theorem X11_polynomial_20 {d bc bs : Nat} {h : AH} {Q : Option Value → AH → Prop} {a_0 : Nat} {u_0 : Int32} (w : ((u_0 = 0 → ah_o h a_0 11 ∧ ∃ a3, ah_r h a_0 7 = some a3 ∧ ∃ a4, ah_r h a_0 4 = some a4 ∧ ∃ a5, ah_r h a_0 8 = some a5 ∧ ah_o h a3 9 ∧ ex_S yX9_makePolynomial mX9_makePolynomial (d + 18) [.ref a3, .ref a4, .ref a5] h 0 0 (fun r h6 => r = none ∧ ah_o h6 a_0 11 ∧ ∃ a9, ah_r h6 a_0 8 = some a9 ∧ ah_o h6 a9 2 ∧ ex_S yX2_countNumbers mX2_countNumbers (d + 18) [.ref a9] h6 0 0 (fun r h10 => ∃ x12, r = some (.int x12) ∧ ah_o h10 a_0 11 ∧ ex_S yX11_grant mX11_grant (d + 18) [.ref a_0, .int x12] h10 0 0 (fun r h13 => ∃ x15, r = some (.int x15) ∧ Q (some (.int x15)) h13)))) ∧ (¬ u_0 = 0 → ah_o h a_0 11 ∧ ex_S yX11_refuse mX11_refuse (d + 18) [.ref a_0, .int u_0] h 0 0 (fun r h16 => ∃ x18, r = some (.int x18) ∧ Q (some (.int x18)) h16)))) : ex_G mX11_polynomial (d + 19) 20 [.ref a_0, .retAddr 0, .retAddr 0] [.int u_0] h bc bs Q := by
  refine ex_istore_n (q := 21) (ls' := [.ref a_0, .retAddr 0, .int u_0]) dX11_polynomial_20 rfl ?_
  refine ex_iload_n (q := 22) (x := u_0) dX11_polynomial_21 rfl ?_
  refine ex_if_eq (tgt := 31) (q := 25) dX11_polynomial_22 (fun c1 => ?_) (fun c1 => ?_)
  · replace w := w.1 c1
    refine ex_aload_n (q := 32) (x := a_0) dX11_polynomial_31 rfl ?_
    have s2 := w.1
    replace w := w.2
    obtain ⟨a3, ea3, w⟩ := w
    refine ex_getr (q := 35) dX11_polynomial_32 fl_X11_51 s2 ea3 ?_
    refine ex_aload_n (q := 36) (x := a_0) dX11_polynomial_35 rfl ?_
    obtain ⟨a4, ea4, w⟩ := w
    refine ex_getr (q := 39) dX11_polynomial_36 fl_X11_36 s2 ea4 ?_
    refine ex_aload_n (q := 40) (x := a_0) dX11_polynomial_39 rfl ?_
    obtain ⟨a5, ea5, w⟩ := w
    refine ex_getr (q := 43) dX11_polynomial_40 fl_X11_58 s2 ea5 ?_
    have s7 := w.1
    replace w := w.2
    refine ex_callV (q := 46) (M := mX11_polynomial) (hdd := Nat.le_refl _) (c := 9) (st := []) (bc := bc) (bs := bs) dX11_polynomial_43 rfl cl_X11_267 wd_891 wd_892 s7 w ?_
    rintro r h6 ⟨rfl, w⟩
    show ex_G mX11_polynomial (d + 19) 46 [.ref a_0, .retAddr 0, .int u_0] [] h6 bc bs Q
    refine ex_aload_n (q := 47) (x := a_0) dX11_polynomial_46 rfl ?_
    refine ex_aload_n (q := 48) (x := a_0) dX11_polynomial_47 rfl ?_
    have s8 := w.1
    replace w := w.2
    obtain ⟨a9, ea9, w⟩ := w
    refine ex_getr (q := 51) dX11_polynomial_48 fl_X11_58 s8 ea9 ?_
    have s11 := w.1
    replace w := w.2
    refine ex_callV (q := 54) (M := mX11_polynomial) (hdd := Nat.le_refl _) (c := 2) (st := [.ref a_0]) (bc := bc) (bs := bs) dX11_polynomial_51 rfl cl_X11_264 wd_883 wd_884 s11 w ?_
    rintro r h10 ⟨x12, rfl, w⟩
    show ex_G mX11_polynomial (d + 19) 54 [.ref a_0, .retAddr 0, .int u_0] [.int x12, .ref a_0] h10 bc bs Q
    have s14 := w.1
    replace w := w.2
    refine ex_callV (q := 57) (M := mX11_polynomial) (hdd := Nat.le_refl _) (c := 11) (st := []) (bc := bc) (bs := bs) dX11_polynomial_54 rfl cl_X11_131 wd_576 wd_3 s14 w ?_
    rintro r h13 ⟨x15, rfl, w⟩
    show ex_G mX11_polynomial (d + 19) 57 [.ref a_0, .retAddr 0, .int u_0] [.int x15] h13 bc bs Q
    exact ex_ireturn dX11_polynomial_57 rfl (Or.inl rfl) w
  · replace w := w.2 c1
    refine ex_aload_n (q := 26) (x := a_0) dX11_polynomial_25 rfl ?_
    refine ex_iload_n (q := 27) (x := u_0) dX11_polynomial_26 rfl ?_
    have s17 := w.1
    replace w := w.2
    refine ex_callV (q := 30) (M := mX11_polynomial) (hdd := Nat.le_refl _) (c := 11) (st := []) (bc := bc) (bs := bs) dX11_polynomial_27 rfl cl_X11_120 wd_557 wd_1 s17 w ?_
    rintro r h16 ⟨x18, rfl, w⟩
    show ex_G mX11_polynomial (d + 19) 30 [.ref a_0, .retAddr 0, .int u_0] [.int x18] h16 bc bs Q
    exact ex_ireturn dX11_polynomial_30 rfl (Or.inl rfl) w

theorem X11_polynomial_e {d bc bs : Nat} {h : AH} {Q : Option Value → AH → Prop} {a_0 : Nat} {v_1 : Int32} (w : ex_G mX11_polynomial (d + 19) 0 [.ref a_0, .int v_1, .retAddr 0] [] h bc bs Q) : ex_S yX11_polynomial mX11_polynomial (d + 19) [.ref a_0, .int v_1] h bc bs Q :=
  ex_enter (plainFor_of_name (by decide +kernel)) ⟨rfl, rfl⟩ rfl rfl (Nat.le_of_ble_eq_true rfl) (ex_pad 1 w)

set_option maxRecDepth 100000 in
theorem X11_at_0 {d bc bs : Nat} {h : AH} {Q : Option Value → AH → Prop} {a_0 : Nat} {v_1 : Int32} (w : ah_o h a_0 11 ∧ ∃ a2, ah_r h a_0 8 = some a2 ∧ ah_o h a2 2 ∧ ex_S yX2_numberAt mX2_numberAt d [.ref a2, .int v_1] h 0 0 (fun r h3 => ∃ x5, r = some (.long x5) ∧ Q (some (.long x5)) h3)) : ex_G mX11_at (d + 1) 0 [.ref a_0, .int v_1] [] h bc bs Q := by
  refine ex_aload_n (q := 1) (x := a_0) dX11_at_0 rfl ?_
  have s1 := w.1
  replace w := w.2
  obtain ⟨a2, ea2, w⟩ := w
  refine ex_getr (q := 4) dX11_at_1 fl_X11_58 s1 ea2 ?_
  refine ex_iload_n (q := 5) (x := v_1) dX11_at_4 rfl ?_
  have s4 := w.1
  replace w := w.2
  refine ex_callV (q := 8) (M := mX11_at) (hdd := Nat.le_refl _) (c := 2) (st := []) (bc := bc) (bs := bs) dX11_at_5 rfl cl_X11_270 wd_871 wd_872 s4 w ?_
  rintro r h3 ⟨x5, rfl, w⟩
  show ex_G mX11_at (d + 1) 8 [.ref a_0, .int v_1] [.long x5] h3 bc bs Q
  exact ex_lreturn dX11_at_8 w

theorem X11_at_e {d bc bs : Nat} {h : AH} {Q : Option Value → AH → Prop} {a_0 : Nat} {v_1 : Int32} (w : ex_G mX11_at (d + 1) 0 [.ref a_0, .int v_1] [] h bc bs Q) : ex_S yX11_at mX11_at (d + 1) [.ref a_0, .int v_1] h bc bs Q :=
  ex_enter (plainFor_of_name (by decide +kernel)) ⟨rfl, rfl⟩ rfl rfl (Nat.le_of_ble_eq_true rfl) (ex_pad 0 w)

set_option maxRecDepth 100000 in
theorem X11_power_0 {d bc bs : Nat} {h : AH} {Q : Option Value → AH → Prop} {a_0 : Nat} {v_1 : Int32} (w : ((v_1 = 0 → ex_G mX11_power (d + 1) 16 [.ref a_0, .int v_1] [] h bc bs Q) ∧ (¬ v_1 = 0 → ((v_1 = 1 → ex_G mX11_power (d + 1) 16 [.ref a_0, .int v_1] [] h bc bs Q) ∧ (¬ v_1 = 1 → ah_o h a_0 11 ∧ ex_S yX11_refuse mX11_refuse d [.ref a_0, .int (-2)] h 0 0 (fun r h3 => ∃ x5, r = some (.int x5) ∧ Q (some (.int x5)) h3)))))) : ex_G mX11_power (d + 1) 0 [.ref a_0, .int v_1] [] h bc bs Q := by
  refine ex_iload_n (q := 1) (x := v_1) dX11_power_0 rfl ?_
  refine ex_if_eq (tgt := 16) (q := 4) dX11_power_1 (fun c1 => ?_) (fun c1 => ?_)
  · replace w := w.1 c1
    exact w
  · replace w := w.2 c1
    refine ex_iload_n (q := 5) (x := v_1) dX11_power_4 rfl ?_
    refine ex_iconst (q := 6) (v := 1) dX11_power_5 (by decide) ?_
    refine ex_icmp_eq (tgt := 16) (q := 9) dX11_power_6 (fun c2 => ?_) (fun c2 => ?_)
    · replace w := w.1 c2
      exact w
    · replace w := w.2 c2
      refine ex_aload_n (q := 10) (x := a_0) dX11_power_9 rfl ?_
      refine ex_bipush (q := 12) (v := (-2)) dX11_power_10 (by decide) ?_
      have s4 := w.1
      replace w := w.2
      refine ex_callV (q := 15) (M := mX11_power) (hdd := Nat.le_refl _) (c := 11) (st := []) (bc := bc) (bs := bs) dX11_power_12 rfl cl_X11_120 wd_557 wd_1 s4 w ?_
      rintro r h3 ⟨x5, rfl, w⟩
      show ex_G mX11_power (d + 1) 15 [.ref a_0, .int v_1] [.int x5] h3 bc bs Q
      exact ex_ireturn dX11_power_15 rfl (Or.inl rfl) w

set_option maxRecDepth 100000 in
theorem X11_power_16 {d bc bs : Nat} {h : AH} {Q : Option Value → AH → Prop} {a_0 : Nat} {v_1 : Int32} (w : ah_o h a_0 11 ∧ ∃ a2, ah_r h a_0 8 = some a2 ∧ ah_o h a2 2 ∧ ((¬ (ah_f h a2 2) = 0 → ((¬ v_1 = 0 → ex_S yX2_highest mX2_highest d [.ref a2] h 0 0 (fun r h6 => ∃ x7, r = some (.int x7) ∧ ah_o h6 a_0 11 ∧ ex_S yX11_grant mX11_grant d [.ref a_0, .int x7] h6 0 0 (fun r h8 => ∃ x10, r = some (.int x10) ∧ Q (some (.int x10)) h8))) ∧ (v_1 = 0 → ex_S yX2_lowest mX2_lowest d [.ref a2] h 0 0 (fun r h11 => ∃ x12, r = some (.int x12) ∧ ah_o h11 a_0 11 ∧ ex_S yX11_grant mX11_grant d [.ref a_0, .int x12] h11 0 0 (fun r h13 => ∃ x15, r = some (.int x15) ∧ Q (some (.int x15)) h13))))) ∧ ((ah_f h a2 2) = 0 → ex_S yX11_refuse mX11_refuse d [.ref a_0, .int (-15)] h 0 0 (fun r h16 => ∃ x17, r = some (.int x17) ∧ Q (some (.int x17)) h16)))) : ex_G mX11_power (d + 1) 16 [.ref a_0, .int v_1] [] h bc bs Q := by
  refine ex_aload_n (q := 17) (x := a_0) dX11_power_16 rfl ?_
  have s1 := w.1
  replace w := w.2
  obtain ⟨a2, ea2, w⟩ := w
  refine ex_getr (q := 20) dX11_power_17 fl_X11_58 s1 ea2 ?_
  have s3 := w.1
  replace w := w.2
  refine ex_getf (q := 23) dX11_power_20 fl_X11_274 s3 ?_
  refine ex_if_ne (tgt := 33) (q := 26) dX11_power_23 (fun c4 => ?_) (fun c4 => ?_)
  · replace w := w.1 c4
    refine ex_aload_n (q := 34) (x := a_0) dX11_power_33 rfl ?_
    refine ex_iload_n (q := 35) (x := v_1) dX11_power_34 rfl ?_
    refine ex_if_ne (tgt := 48) (q := 38) dX11_power_35 (fun c5 => ?_) (fun c5 => ?_)
    · replace w := w.1 c5
      refine ex_aload_n (q := 49) (x := a_0) dX11_power_48 rfl ?_
      refine ex_getr (q := 52) dX11_power_49 fl_X11_58 s1 ea2 ?_
      refine ex_callV (q := 55) (M := mX11_power) (hdd := Nat.le_refl _) (c := 2) (st := [.ref a_0]) (bc := bc) (bs := bs) dX11_power_52 rfl cl_X11_281 wd_913 wd_914 s3 w ?_
      rintro r h6 ⟨x7, rfl, w⟩
      show ex_G mX11_power (d + 1) 55 [.ref a_0, .int v_1] [.int x7, .ref a_0] h6 bc bs Q
      have s9 := w.1
      replace w := w.2
      refine ex_callV (q := 58) (M := mX11_power) (hdd := Nat.le_refl _) (c := 11) (st := []) (bc := bc) (bs := bs) dX11_power_55 rfl cl_X11_131 wd_576 wd_3 s9 w ?_
      rintro r h8 ⟨x10, rfl, w⟩
      show ex_G mX11_power (d + 1) 58 [.ref a_0, .int v_1] [.int x10] h8 bc bs Q
      exact ex_ireturn dX11_power_58 rfl (Or.inl rfl) w
    · replace w := w.2 c5
      refine ex_aload_n (q := 39) (x := a_0) dX11_power_38 rfl ?_
      refine ex_getr (q := 42) dX11_power_39 fl_X11_58 s1 ea2 ?_
      refine ex_callV (q := 45) (M := mX11_power) (hdd := Nat.le_refl _) (c := 2) (st := [.ref a_0]) (bc := bc) (bs := bs) dX11_power_42 rfl cl_X11_278 wd_909 wd_910 s3 w ?_
      rintro r h11 ⟨x12, rfl, w⟩
      show ex_G mX11_power (d + 1) 45 [.ref a_0, .int v_1] [.int x12, .ref a_0] h11 bc bs Q
      refine ex_goto (tgt := 55) dX11_power_45 ?_
      have s14 := w.1
      replace w := w.2
      refine ex_callV (q := 58) (M := mX11_power) (hdd := Nat.le_refl _) (c := 11) (st := []) (bc := bc) (bs := bs) dX11_power_55 rfl cl_X11_131 wd_576 wd_3 s14 w ?_
      rintro r h13 ⟨x15, rfl, w⟩
      show ex_G mX11_power (d + 1) 58 [.ref a_0, .int v_1] [.int x15] h13 bc bs Q
      exact ex_ireturn dX11_power_58 rfl (Or.inl rfl) w
  · replace w := w.2 c4
    refine ex_aload_n (q := 27) (x := a_0) dX11_power_26 rfl ?_
    refine ex_bipush (q := 29) (v := (-15)) dX11_power_27 (by decide) ?_
    refine ex_callV (q := 32) (M := mX11_power) (hdd := Nat.le_refl _) (c := 11) (st := []) (bc := bc) (bs := bs) dX11_power_29 rfl cl_X11_120 wd_557 wd_1 s1 w ?_
    rintro r h16 ⟨x17, rfl, w⟩
    show ex_G mX11_power (d + 1) 32 [.ref a_0, .int v_1] [.int x17] h16 bc bs Q
    exact ex_ireturn dX11_power_32 rfl (Or.inl rfl) w

theorem X11_power_e {d bc bs : Nat} {h : AH} {Q : Option Value → AH → Prop} {a_0 : Nat} {v_1 : Int32} (w : ex_G mX11_power (d + 1) 0 [.ref a_0, .int v_1] [] h bc bs Q) : ex_S yX11_power mX11_power (d + 1) [.ref a_0, .int v_1] h bc bs Q :=
  ex_enter (plainFor_of_name (by decide +kernel)) ⟨rfl, rfl⟩ rfl rfl (Nat.le_of_ble_eq_true rfl) (ex_pad 0 w)
