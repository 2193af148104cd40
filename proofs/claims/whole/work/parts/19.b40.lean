set_option maxRecDepth 100000 in
theorem X11_init_0 {d bc bs : Nat} {h : AH} {Q : Option Value → AH → Prop} {a_0 : Nat} (w : ah_n h < 10000000 ∧ ∀ h2, h2 = ah_na h 11 24 → ah_o h2 a_0 11 ∧ ∀ h4, h4 = ah_sr h2 a_0 0 (some (ah_n h)) → ah_n h4 < 10000000 ∧ ∀ h6, h6 = ah_na h4 9 60 → ah_o h6 a_0 11 ∧ ∀ h8, h8 = ah_sr h6 a_0 1 (some (ah_n h4)) → ah_n h8 < 10000000 ∧ ∀ h10, h10 = ah_no h8 6 → ex_S yX6_init mX6_init (d + 2) [.ref (ah_n h8), .int 130] h10 1 130 (fun r h11 => r = none ∧ ah_o h11 a_0 11 ∧ ∀ h13, h13 = ah_sr h11 a_0 2 (some (ah_n h8)) → ah_n h13 < 10000000 ∧ ∀ h15, h15 = ah_no h13 6 → ex_S yX6_init mX6_init (d + 2) [.ref (ah_n h13), .int 3] h15 1 3 (fun r h16 => r = none ∧ ah_o h16 a_0 11 ∧ ∀ h18, h18 = ah_sr h16 a_0 3 (some (ah_n h13)) → ah_n h18 < 10000000 ∧ ∀ h20, h20 = ah_no h18 4 → ex_S yX4_init mX4_init (d + 2) [.ref (ah_n h18)] h20 10 1180 (fun r h21 => r = none ∧ ah_o h21 a_0 11 ∧ ∀ h23, h23 = ah_sr h21 a_0 4 (some (ah_n h18)) → ah_n h23 < 10000000 ∧ ∀ h25, h25 = ah_no h23 4 → ex_S yX4_init mX4_init (d + 2) [.ref (ah_n h23)] h25 10 1180 (fun r h26 => r = none ∧ ah_o h26 a_0 11 ∧ ∀ h28, h28 = ah_sr h26 a_0 5 (some (ah_n h23)) → ah_n h28 < 10000000 ∧ ∀ h30, h30 = ah_no h28 7 → ex_S yX7_init mX7_init (d + 2) [.ref (ah_n h28)] h30 2 200 (fun r h31 => r = none ∧ ah_o h31 a_0 11 ∧ ∀ h33, h33 = ah_sr h31 a_0 6 (some (ah_n h28)) → ah_n h33 < 10000000 ∧ ∀ h35, h35 = ah_no h33 9 → ex_S yX9_init mX9_init (d + 2) [.ref (ah_n h33)] h35 40 664 (fun r h36 => r = none ∧ ah_o h36 a_0 11 ∧ ∀ h38, h38 = ah_sr h36 a_0 7 (some (ah_n h33)) → ah_n h38 < 10000000 ∧ ∀ h40, h40 = ah_no h38 2 → ex_S yX2_init mX2_init (d + 2) [.ref (ah_n h38)] h40 2 562 (fun r h41 => r = none ∧ ah_o h41 a_0 11 ∧ ∀ h43, h43 = ah_sr h41 a_0 8 (some (ah_n h38)) → ah_n h43 < 10000000 ∧ ∀ h45, h45 = ah_no h43 2 → ex_S yX2_init mX2_init (d + 2) [.ref (ah_n h43)] h45 2 562 (fun r h46 => r = none ∧ ah_o h46 a_0 11 ∧ ∀ h48, h48 = ah_sr h46 a_0 9 (some (ah_n h43)) → ah_n h48 < 10000000 ∧ ∀ h50, h50 = ah_no h48 2 → ex_S yX2_init mX2_init (d + 2) [.ref (ah_n h48)] h50 2 562 (fun r h51 => r = none ∧ ah_o h51 a_0 11 ∧ ∀ h53, h53 = ah_sr h51 a_0 10 (some (ah_n h48)) → ah_n h53 < 10000000 ∧ ∀ h55, h55 = ah_no h53 1 → ex_S yX1_init mX1_init (d + 2) [.ref (ah_n h53)] h55 42 3400 (fun r h56 => r = none ∧ ah_o h56 a_0 11 ∧ ∀ h58, h58 = ah_sr h56 a_0 11 (some (ah_n h53)) → ah_n h58 < 10000000 ∧ ∀ h60, h60 = ah_no h58 8 → ex_S yX8_init mX8_init (d + 2) [.ref (ah_n h58)] h60 38 3239 (fun r h61 => r = none ∧ ah_o h61 a_0 11 ∧ ∀ h63, h63 = ah_sr h61 a_0 12 (some (ah_n h58)) → ah_n h63 < 10000000 ∧ ∀ h65, h65 = ah_no h63 0 → ex_S yX0_init mX0_init (d + 2) [.ref (ah_n h63)] h65 2 400 (fun r h66 => r = none ∧ ah_o h66 a_0 11 ∧ ∀ h68, h68 = ah_sr h66 a_0 13 (some (ah_n h63)) → ah_n h68 < 10000000 ∧ ∀ h70, h70 = ah_na h68 0 10 → ah_o h70 a_0 11 ∧ ∀ h72, h72 = ah_sr h70 a_0 14 (some (ah_n h68)) → ∀ h73, h73 = ah_sf h72 a_0 17 (-1) → Q none h73))))))))))))) : ex_G mX11_init (d + 3) 0 [.ref a_0] [] h (bc + 167) (bs + 12258) Q := by
  refine ex_aload_n (q := 1) (x := a_0) dX11_init_0 rfl ?_
  refine ex_objInit (q := 4) (hd1 := Nat.succ_le_succ (Nat.zero_le _)) (h1 := wd_135) (h2 := wd_136) (st := []) dX11_init_1 wd_134 ?_
  refine ex_aload_n (q := 5) (x := a_0) dX11_init_4 rfl ?_
  refine ex_bipush (q := 7) (v := 24) dX11_init_5 (by decide) ?_
  have s1 := w.1
  replace w := w.2
  refine ex_G.room (bc' := (bc + 166) + 1) (bs' := (bs + 12234) + 24) (Nat.le_refl _) (rm_le rfl) (rm_le rfl) ?_
  refine ex_anewarray (q := 10) (c := 7) (N := 24) (M := mX11_init) dX11_init_7 wd_137 wd_138 rfl (by decide) s1 ?_
  refine ex_nmh (fun h2 eh2 => ?_)
  replace w := w h2 eh2
  have s3 := w.1
  replace w := w.2
  refine ex_putr (q := 13) dX11_init_10 fl_X11_11 (Or.inr ⟨rfl, rfl, wd_486, rfl⟩) s3 ?_
  refine ex_nmh (fun h4 eh4 => ?_)
  replace w := w h4 eh4
  refine ex_aload_n (q := 14) (x := a_0) dX11_init_13 rfl ?_
  refine ex_bipush (q := 16) (v := 60) dX11_init_14 (by decide) ?_
  have s5 := w.1
  replace w := w.2
  refine ex_G.room (bc' := (bc + 165) + 1) (bs' := (bs + 12174) + 60) (Nat.le_refl _) (rm_le rfl) (rm_le rfl) ?_
  refine ex_anewarray (q := 19) (c := 5) (N := 60) (M := mX11_init) dX11_init_16 wd_139 wd_140 rfl (by decide) s5 ?_
  refine ex_nmh (fun h6 eh6 => ?_)
  replace w := w h6 eh6
  have s7 := w.1
  replace w := w.2
  refine ex_putr (q := 22) dX11_init_19 fl_X11_17 (Or.inr ⟨rfl, rfl, wd_487, rfl⟩) s7 ?_
  refine ex_nmh (fun h8 eh8 => ?_)
  replace w := w h8 eh8
  refine ex_aload_n (q := 23) (x := a_0) dX11_init_22 rfl ?_
  have s9 := w.1
  replace w := w.2
  refine ex_G.room (bc' := (bc + 164) + 1) (bs' := (bs + 12172) + 2) (Nat.le_refl _) (rm_le rfl) (rm_le rfl) ?_
  refine ex_new (q := 26) (c := 6) (M := mX11_init) dX11_init_23 wd_141 wd_142 wd_114 s9 ?_
  refine ex_nmh (fun h10 eh10 => ?_)
  replace w := w h10 eh10
  refine ex_dup (q := 27) dX11_init_26 rfl ?_
  refine ex_sipush (q := 30) (v := 130) dX11_init_27 (by decide) ?_
  refine ex_G.room (bc' := (bc + 163) + 1) (bs' := (bs + 12042) + 130) (Nat.le_refl _) (rm_le rfl) (rm_le rfl) ?_
  refine ex_callI (q := 33) (M := mX11_init) (hdd := Nat.le_refl _) (st := [.ref (ah_n h8), .ref a_0]) (bc := (bc + 163)) (bs := (bs + 12042)) dX11_init_30 rfl cl_X11_23 wd_144 rfl rfl w ?_
  rintro r h11 ⟨rfl, w⟩
  show ex_G mX11_init (d + 3) 33 [.ref a_0] [.ref (ah_n h8), .ref a_0] h11 (bc + 163) (bs + 12042) Q
  have s12 := w.1
  replace w := w.2
  refine ex_putr (q := 36) dX11_init_33 fl_X11_26 (Or.inr ⟨rfl, rfl, wd_488, rfl⟩) s12 ?_
  refine ex_nmh (fun h13 eh13 => ?_)
  replace w := w h13 eh13
  refine ex_aload_n (q := 37) (x := a_0) dX11_init_36 rfl ?_
  have s14 := w.1
  replace w := w.2
  refine ex_G.room (bc' := (bc + 162) + 1) (bs' := (bs + 12040) + 2) (Nat.le_refl _) (rm_le rfl) (rm_le rfl) ?_
  refine ex_new (q := 40) (c := 6) (M := mX11_init) dX11_init_37 wd_141 wd_142 wd_114 s14 ?_
  refine ex_nmh (fun h15 eh15 => ?_)
  replace w := w h15 eh15
  refine ex_dup (q := 41) dX11_init_40 rfl ?_
  refine ex_iconst (q := 42) (v := 3) dX11_init_41 (by decide) ?_
  refine ex_G.room (bc' := (bc + 161) + 1) (bs' := (bs + 12037) + 3) (Nat.le_refl _) (rm_le rfl) (rm_le rfl) ?_
  refine ex_callI (q := 45) (M := mX11_init) (hdd := Nat.le_refl _) (st := [.ref (ah_n h13), .ref a_0]) (bc := (bc + 161)) (bs := (bs + 12037)) dX11_init_42 rfl cl_X11_23 wd_144 rfl rfl w ?_
  rintro r h16 ⟨rfl, w⟩
  show ex_G mX11_init (d + 3) 45 [.ref a_0] [.ref (ah_n h13), .ref a_0] h16 (bc + 161) (bs + 12037) Q
  have s17 := w.1
  replace w := w.2
  refine ex_putr (q := 48) dX11_init_45 fl_X11_30 (Or.inr ⟨rfl, rfl, wd_489, rfl⟩) s17 ?_
  refine ex_nmh (fun h18 eh18 => ?_)
  replace w := w h18 eh18
  refine ex_aload_n (q := 49) (x := a_0) dX11_init_48 rfl ?_
  have s19 := w.1
  replace w := w.2
  refine ex_G.room (bc' := (bc + 160) + 1) (bs' := (bs + 12019) + 18) (Nat.le_refl _) (rm_le rfl) (rm_le rfl) ?_
  refine ex_new (q := 52) (c := 4) (M := mX11_init) dX11_init_49 wd_162 wd_163 wd_116 s19 ?_
  refine ex_nmh (fun h20 eh20 => ?_)
  replace w := w h20 eh20
  refine ex_dup (q := 53) dX11_init_52 rfl ?_
  refine ex_G.room (bc' := (bc + 150) + 10) (bs' := (bs + 10839) + 1180) (Nat.le_refl _) (rm_le rfl) (rm_le rfl) ?_
  refine ex_callI (q := 56) (M := mX11_init) (hdd := Nat.le_refl _) (st := [.ref (ah_n h18), .ref a_0]) (bc := (bc + 150)) (bs := (bs + 10839)) dX11_init_53 rfl cl_X11_35 wd_165 rfl rfl w ?_
  rintro r h21 ⟨rfl, w⟩
  show ex_G mX11_init (d + 3) 56 [.ref a_0] [.ref (ah_n h18), .ref a_0] h21 (bc + 150) (bs + 10839) Q
  have s22 := w.1
  replace w := w.2
  refine ex_putr (q := 59) dX11_init_56 fl_X11_36 (Or.inr ⟨rfl, rfl, wd_490, rfl⟩) s22 ?_
  refine ex_nmh (fun h23 eh23 => ?_)
  replace w := w h23 eh23
  refine ex_aload_n (q := 60) (x := a_0) dX11_init_59 rfl ?_
  have s24 := w.1
  replace w := w.2
  refine ex_G.room (bc' := (bc + 149) + 1) (bs' := (bs + 10821) + 18) (Nat.le_refl _) (rm_le rfl) (rm_le rfl) ?_
  refine ex_new (q := 63) (c := 4) (M := mX11_init) dX11_init_60 wd_162 wd_163 wd_116 s24 ?_
  refine ex_nmh (fun h25 eh25 => ?_)
  replace w := w h25 eh25
  refine ex_dup (q := 64) dX11_init_63 rfl ?_
  refine ex_G.room (bc' := (bc + 139) + 10) (bs' := (bs + 9641) + 1180) (Nat.le_refl _) (rm_le rfl) (rm_le rfl) ?_
  refine ex_callI (q := 67) (M := mX11_init) (hdd := Nat.le_refl _) (st := [.ref (ah_n h23), .ref a_0]) (bc := (bc + 139)) (bs := (bs + 9641)) dX11_init_64 rfl cl_X11_35 wd_165 rfl rfl w ?_
  rintro r h26 ⟨rfl, w⟩
  show ex_G mX11_init (d + 3) 67 [.ref a_0] [.ref (ah_n h23), .ref a_0] h26 (bc + 139) (bs + 9641) Q
  have s27 := w.1
  replace w := w.2
  refine ex_putr (q := 70) dX11_init_67 fl_X11_40 (Or.inr ⟨rfl, rfl, wd_491, rfl⟩) s27 ?_
  refine ex_nmh (fun h28 eh28 => ?_)
  replace w := w h28 eh28
  refine ex_aload_n (q := 71) (x := a_0) dX11_init_70 rfl ?_
  have s29 := w.1
  replace w := w.2
  refine ex_G.room (bc' := (bc + 138) + 1) (bs' := (bs + 9634) + 7) (Nat.le_refl _) (rm_le rfl) (rm_le rfl) ?_
  refine ex_new (q := 74) (c := 7) (M := mX11_init) dX11_init_71 wd_137 wd_245 wd_117 s29 ?_
  refine ex_nmh (fun h30 eh30 => ?_)
  replace w := w h30 eh30
  refine ex_dup (q := 75) dX11_init_74 rfl ?_
  refine ex_G.room (bc' := (bc + 136) + 2) (bs' := (bs + 9434) + 200) (Nat.le_refl _) (rm_le rfl) (rm_le rfl) ?_
  refine ex_callI (q := 78) (M := mX11_init) (hdd := Nat.le_refl _) (st := [.ref (ah_n h28), .ref a_0]) (bc := (bc + 136)) (bs := (bs + 9434)) dX11_init_75 rfl cl_X11_43 wd_247 rfl rfl w ?_
  rintro r h31 ⟨rfl, w⟩
  show ex_G mX11_init (d + 3) 78 [.ref a_0] [.ref (ah_n h28), .ref a_0] h31 (bc + 136) (bs + 9434) Q
  have s32 := w.1
  replace w := w.2
  refine ex_putr (q := 81) dX11_init_78 fl_X11_44 (Or.inr ⟨rfl, rfl, wd_492, rfl⟩) s32 ?_
  refine ex_nmh (fun h33 eh33 => ?_)
  replace w := w h33 eh33
  refine ex_aload_n (q := 82) (x := a_0) dX11_init_81 rfl ?_
  have s34 := w.1
  replace w := w.2
  refine ex_G.room (bc' := (bc + 135) + 1) (bs' := (bs + 9430) + 4) (Nat.le_refl _) (rm_le rfl) (rm_le rfl) ?_
  refine ex_new (q := 85) (c := 9) (M := mX11_init) dX11_init_82 wd_291 wd_292 wd_119 s34 ?_
  refine ex_nmh (fun h35 eh35 => ?_)
  replace w := w h35 eh35
  refine ex_dup (q := 86) dX11_init_85 rfl ?_
  refine ex_G.room (bc' := (bc + 95) + 40) (bs' := (bs + 8766) + 664) (Nat.le_refl _) (rm_le rfl) (rm_le rfl) ?_
  refine ex_callI (q := 89) (M := mX11_init) (hdd := Nat.le_refl _) (st := [.ref (ah_n h33), .ref a_0]) (bc := (bc + 95)) (bs := (bs + 8766)) dX11_init_86 rfl cl_X11_50 wd_294 rfl rfl w ?_
  rintro r h36 ⟨rfl, w⟩
  show ex_G mX11_init (d + 3) 89 [.ref a_0] [.ref (ah_n h33), .ref a_0] h36 (bc + 95) (bs + 8766) Q
  have s37 := w.1
  replace w := w.2
  refine ex_putr (q := 92) dX11_init_89 fl_X11_51 (Or.inr ⟨rfl, rfl, wd_493, rfl⟩) s37 ?_
  refine ex_nmh (fun h38 eh38 => ?_)
  replace w := w h38 eh38
  refine ex_aload_n (q := 93) (x := a_0) dX11_init_92 rfl ?_
  have s39 := w.1
  replace w := w.2
  refine ex_G.room (bc' := (bc + 94) + 1) (bs' := (bs + 8763) + 3) (Nat.le_refl _) (rm_le rfl) (rm_le rfl) ?_
  refine ex_new (q := 96) (c := 2) (M := mX11_init) dX11_init_93 wd_313 wd_314 wd_120 s39 ?_
  refine ex_nmh (fun h40 eh40 => ?_)
  replace w := w h40 eh40
  refine ex_dup (q := 97) dX11_init_96 rfl ?_
  refine ex_G.room (bc' := (bc + 92) + 2) (bs' := (bs + 8201) + 562) (Nat.le_refl _) (rm_le rfl) (rm_le rfl) ?_
  refine ex_callI (q := 100) (M := mX11_init) (hdd := Nat.le_refl _) (st := [.ref (ah_n h38), .ref a_0]) (bc := (bc + 92)) (bs := (bs + 8201)) dX11_init_97 rfl cl_X11_57 wd_316 rfl rfl w ?_
  rintro r h41 ⟨rfl, w⟩
  show ex_G mX11_init (d + 3) 100 [.ref a_0] [.ref (ah_n h38), .ref a_0] h41 (bc + 92) (bs + 8201) Q
  have s42 := w.1
  replace w := w.2
  refine ex_putr (q := 103) dX11_init_100 fl_X11_58 (Or.inr ⟨rfl, rfl, wd_494, rfl⟩) s42 ?_
  refine ex_nmh (fun h43 eh43 => ?_)
  replace w := w h43 eh43
  refine ex_aload_n (q := 104) (x := a_0) dX11_init_103 rfl ?_
  have s44 := w.1
  replace w := w.2
  refine ex_G.room (bc' := (bc + 91) + 1) (bs' := (bs + 8198) + 3) (Nat.le_refl _) (rm_le rfl) (rm_le rfl) ?_
  refine ex_new (q := 107) (c := 2) (M := mX11_init) dX11_init_104 wd_313 wd_314 wd_120 s44 ?_
  refine ex_nmh (fun h45 eh45 => ?_)
  replace w := w h45 eh45
  refine ex_dup (q := 108) dX11_init_107 rfl ?_
  refine ex_G.room (bc' := (bc + 89) + 2) (bs' := (bs + 7636) + 562) (Nat.le_refl _) (rm_le rfl) (rm_le rfl) ?_
  refine ex_callI (q := 111) (M := mX11_init) (hdd := Nat.le_refl _) (st := [.ref (ah_n h43), .ref a_0]) (bc := (bc + 89)) (bs := (bs + 7636)) dX11_init_108 rfl cl_X11_57 wd_316 rfl rfl w ?_
  rintro r h46 ⟨rfl, w⟩
  show ex_G mX11_init (d + 3) 111 [.ref a_0] [.ref (ah_n h43), .ref a_0] h46 (bc + 89) (bs + 7636) Q
  have s47 := w.1
  replace w := w.2
  refine ex_putr (q := 114) dX11_init_111 fl_X11_62 (Or.inr ⟨rfl, rfl, wd_495, rfl⟩) s47 ?_
  refine ex_nmh (fun h48 eh48 => ?_)
  replace w := w h48 eh48
  refine ex_aload_n (q := 115) (x := a_0) dX11_init_114 rfl ?_
  have s49 := w.1
  replace w := w.2
  refine ex_G.room (bc' := (bc + 88) + 1) (bs' := (bs + 7633) + 3) (Nat.le_refl _) (rm_le rfl) (rm_le rfl) ?_
  refine ex_new (q := 118) (c := 2) (M := mX11_init) dX11_init_115 wd_313 wd_314 wd_120 s49 ?_
  refine ex_nmh (fun h50 eh50 => ?_)
  replace w := w h50 eh50
  refine ex_dup (q := 119) dX11_init_118 rfl ?_
  refine ex_G.room (bc' := (bc + 86) + 2) (bs' := (bs + 7071) + 562) (Nat.le_refl _) (rm_le rfl) (rm_le rfl) ?_
  refine ex_callI (q := 122) (M := mX11_init) (hdd := Nat.le_refl _) (st := [.ref (ah_n h48), .ref a_0]) (bc := (bc + 86)) (bs := (bs + 7071)) dX11_init_119 rfl cl_X11_57 wd_316 rfl rfl w ?_
  rintro r h51 ⟨rfl, w⟩
  show ex_G mX11_init (d + 3) 122 [.ref a_0] [.ref (ah_n h48), .ref a_0] h51 (bc + 86) (bs + 7071) Q
  have s52 := w.1
  replace w := w.2
  refine ex_putr (q := 125) dX11_init_122 fl_X11_65 (Or.inr ⟨rfl, rfl, wd_496, rfl⟩) s52 ?_
  refine ex_nmh (fun h53 eh53 => ?_)
  replace w := w h53 eh53
  refine ex_aload_n (q := 126) (x := a_0) dX11_init_125 rfl ?_
  have s54 := w.1
  replace w := w.2
  refine ex_G.room (bc' := (bc + 85) + 1) (bs' := (bs + 7068) + 3) (Nat.le_refl _) (rm_le rfl) (rm_le rfl) ?_
  refine ex_new (q := 129) (c := 1) (M := mX11_init) dX11_init_126 wd_331 wd_332 wd_121 s54 ?_
  refine ex_nmh (fun h55 eh55 => ?_)
  replace w := w h55 eh55
  refine ex_dup (q := 130) dX11_init_129 rfl ?_
  refine ex_G.room (bc' := (bc + 43) + 42) (bs' := (bs + 3668) + 3400) (Nat.le_refl _) (rm_le rfl) (rm_le rfl) ?_
  refine ex_callI (q := 133) (M := mX11_init) (hdd := Nat.le_refl _) (st := [.ref (ah_n h53), .ref a_0]) (bc := (bc + 43)) (bs := (bs + 3668)) dX11_init_130 rfl cl_X11_70 wd_334 rfl rfl w ?_
  rintro r h56 ⟨rfl, w⟩
  show ex_G mX11_init (d + 3) 133 [.ref a_0] [.ref (ah_n h53), .ref a_0] h56 (bc + 43) (bs + 3668) Q
  have s57 := w.1
  replace w := w.2
  refine ex_putr (q := 136) dX11_init_133 fl_X11_71 (Or.inr ⟨rfl, rfl, wd_497, rfl⟩) s57 ?_
  refine ex_nmh (fun h58 eh58 => ?_)
  replace w := w h58 eh58
  refine ex_aload_n (q := 137) (x := a_0) dX11_init_136 rfl ?_
  have s59 := w.1
  replace w := w.2
  refine ex_G.room (bc' := (bc + 42) + 1) (bs' := (bs + 3652) + 16) (Nat.le_refl _) (rm_le rfl) (rm_le rfl) ?_
  refine ex_new (q := 140) (c := 8) (M := mX11_init) dX11_init_137 wd_348 wd_349 wd_122 s59 ?_
  refine ex_nmh (fun h60 eh60 => ?_)
  replace w := w h60 eh60
  refine ex_dup (q := 141) dX11_init_140 rfl ?_
  refine ex_G.room (bc' := (bc + 4) + 38) (bs' := (bs + 413) + 3239) (Nat.le_refl _) (rm_le rfl) (rm_le rfl) ?_
  refine ex_callI (q := 144) (M := mX11_init) (hdd := Nat.le_refl _) (st := [.ref (ah_n h58), .ref a_0]) (bc := (bc + 4)) (bs := (bs + 413)) dX11_init_141 rfl cl_X11_77 wd_351 rfl rfl w ?_
  rintro r h61 ⟨rfl, w⟩
  show ex_G mX11_init (d + 3) 144 [.ref a_0] [.ref (ah_n h58), .ref a_0] h61 (bc + 4) (bs + 413) Q
  have s62 := w.1
  replace w := w.2
  refine ex_putr (q := 147) dX11_init_144 fl_X11_78 (Or.inr ⟨rfl, rfl, wd_498, rfl⟩) s62 ?_
  refine ex_nmh (fun h63 eh63 => ?_)
  replace w := w h63 eh63
  refine ex_aload_n (q := 148) (x := a_0) dX11_init_147 rfl ?_
  have s64 := w.1
  replace w := w.2
  refine ex_G.room (bc' := (bc + 3) + 1) (bs' := (bs + 410) + 3) (Nat.le_refl _) (rm_le rfl) (rm_le rfl) ?_
  refine ex_new (q := 151) (c := 0) (M := mX11_init) dX11_init_148 wd_467 wd_468 wd_125 s64 ?_
  refine ex_nmh (fun h65 eh65 => ?_)
  replace w := w h65 eh65
  refine ex_dup (q := 152) dX11_init_151 rfl ?_
  refine ex_G.room (bc' := (bc + 1) + 2) (bs' := (bs + 10) + 400) (Nat.le_refl _) (rm_le rfl) (rm_le rfl) ?_
  refine ex_callI (q := 155) (M := mX11_init) (hdd := Nat.le_refl _) (st := [.ref (ah_n h63), .ref a_0]) (bc := (bc + 1)) (bs := (bs + 10)) dX11_init_152 rfl cl_X11_84 wd_470 rfl rfl w ?_
  rintro r h66 ⟨rfl, w⟩
  show ex_G mX11_init (d + 3) 155 [.ref a_0] [.ref (ah_n h63), .ref a_0] h66 (bc + 1) (bs + 10) Q
  have s67 := w.1
  replace w := w.2
  refine ex_putr (q := 158) dX11_init_155 fl_X11_85 (Or.inr ⟨rfl, rfl, wd_499, rfl⟩) s67 ?_
  refine ex_nmh (fun h68 eh68 => ?_)
  replace w := w h68 eh68
  refine ex_aload_n (q := 159) (x := a_0) dX11_init_158 rfl ?_
  refine ex_bipush (q := 161) (v := 10) dX11_init_159 (by decide) ?_
  have s69 := w.1
  replace w := w.2
  refine ex_G.room (bc' := bc + 1) (bs' := bs + 10) (Nat.le_refl _) (Nat.le_refl _) (Nat.le_refl _) ?_
  refine ex_newarray (q := 163) (t := 0) (N := 10) (M := mX11_init) dX11_init_161 rfl (by decide) wd_161 rfl (by decide) s69 ?_
  refine ex_nmh (fun h70 eh70 => ?_)
  replace w := w h70 eh70
  have s71 := w.1
  replace w := w.2
  refine ex_putr (q := 166) dX11_init_163 fl_X11_89 (Or.inr ⟨rfl, rfl, wd_500, rfl⟩) s71 ?_
  refine ex_nmh (fun h72 eh72 => ?_)
  replace w := w h72 eh72
  refine ex_aload_n (q := 167) (x := a_0) dX11_init_166 rfl ?_
  refine ex_iconst (q := 168) (v := (-1)) dX11_init_167 (by decide) ?_
  refine ex_putf (q := 171) dX11_init_168 fl_X11_93 (Or.inl rfl) (by rw [eh72]; exact s71) (Or.inl rfl) ?_
  refine ex_nmh (fun h73 eh73 => ?_)
  replace w := w h73 eh73
  exact ex_return dX11_init_171 w

theorem X11_init_e {d bc bs : Nat} {h : AH} {Q : Option Value → AH → Prop} {a_0 : Nat} (w : ex_G mX11_init (d + 3) 0 [.ref a_0] [] h bc bs Q) : ex_S yX11_init mX11_init (d + 3) [.ref a_0] h bc bs Q :=
  ex_enter (plainFor_of_name (by decide +kernel)) ⟨rfl, rfl⟩ rfl rfl (Nat.le_of_ble_eq_true rfl) (ex_pad 0 w)

set_option maxRecDepth 100000 in
theorem X11_isWhole_0 {d bc bs : Nat} {h : AH} {Q : Option Value → AH → Prop} {a_0 : Nat} {v_1 : Int32} {a_2 : Nat} (w : ah_o h a_0 11 ∧ ∃ a2, ah_r h a_0 0 = some a2 ∧ ld3 h 11 a2 v_1 ∧ ∃ a4, ah_q h a2 (Int32.toNatClampNeg v_1) = some a4 ∧ ah_o h a_2 4 ∧ ex_S yX4_survey mX4_survey (d + 3) [.ref a_2, .ref a4] h 0 0 (fun r h5 => r = none ∧ ah_o h5 a_2 4 ∧ ((¬ (ah_f h5 a_2 16) = 0 → Q (some (.int 0)) h5) ∧ ((ah_f h5 a_2 16) = 0 → Q (some (.int 1)) h5)))) : ex_G mX11_isWhole (d + 4) 0 [.ref a_0, .int v_1, .ref a_2] [] h bc bs Q := by
  refine ex_aload_n (q := 1) (x := a_2) dX11_isWhole_0 rfl ?_
  refine ex_aload_n (q := 2) (x := a_0) dX11_isWhole_1 rfl ?_
  have s1 := w.1
  replace w := w.2
  obtain ⟨a2, ea2, w⟩ := w
  refine ex_getr (q := 5) dX11_isWhole_2 fl_X11_11 s1 ea2 ?_
  refine ex_iload_n (q := 6) (x := v_1) dX11_isWhole_5 rfl ?_
  have s3 := w.1
  replace w := w.2
  obtain ⟨a4, ea4, w⟩ := w
  refine ex_aald (q := 7) dX11_isWhole_6 s3 ea4 ?_
  have s6 := w.1
  replace w := w.2
  refine ex_callV (q := 10) (M := mX11_isWhole) (hdd := Nat.le_refl _) (c := 4) (st := []) (bc := bc) (bs := bs) dX11_isWhole_7 rfl cl_X11_103 wd_638 wd_639 s6 w ?_
  rintro r h5 ⟨rfl, w⟩
  show ex_G mX11_isWhole (d + 4) 10 [.ref a_0, .int v_1, .ref a_2] [] h5 bc bs Q
  refine ex_aload_n (q := 11) (x := a_2) dX11_isWhole_10 rfl ?_
  have s7 := w.1
  replace w := w.2
  refine ex_getf (q := 14) dX11_isWhole_11 fl_X11_107 s7 ?_
  refine ex_if_ne (tgt := 21) (q := 17) dX11_isWhole_14 (fun c8 => ?_) (fun c8 => ?_)
  · replace w := w.1 c8
    refine ex_iconst (q := 22) (v := 0) dX11_isWhole_21 (by decide) ?_
    exact ex_ireturn dX11_isWhole_22 rfl (Or.inr ⟨rfl, Or.inl rfl⟩) w
  · replace w := w.2 c8
    refine ex_iconst (q := 18) (v := 1) dX11_isWhole_17 (by decide) ?_
    refine ex_goto (tgt := 22) dX11_isWhole_18 ?_
    exact ex_ireturn dX11_isWhole_22 rfl (Or.inr ⟨rfl, Or.inr rfl⟩) w

theorem X11_isWhole_e {d bc bs : Nat} {h : AH} {Q : Option Value → AH → Prop} {a_0 : Nat} {v_1 : Int32} {a_2 : Nat} (w : ex_G mX11_isWhole (d + 4) 0 [.ref a_0, .int v_1, .ref a_2] [] h bc bs Q) : ex_S yX11_isWhole mX11_isWhole (d + 4) [.ref a_0, .int v_1, .ref a_2] h bc bs Q :=
  ex_enter (plainFor_of_name (by decide +kernel)) ⟨rfl, rfl⟩ rfl rfl (Nat.le_of_ble_eq_true rfl) (ex_pad 0 w)

set_option maxRecDepth 100000 in
theorem X11_refuse_0 {d bc bs : Nat} {h : AH} {Q : Option Value → AH → Prop} {a_0 : Nat} {v_1 : Int32} (w : ah_o h a_0 11 ∧ ∀ h2, h2 = ah_sf h a_0 19 v_1 → ∀ x3, x3 = (-10) - v_1 → ((x3 < 1 → Q (some (.int v_1)) h2) ∧ (¬ x3 < 1 → ((9 < x3 → Q (some (.int v_1)) h2) ∧ (¬ 9 < x3 → ∃ a6, ah_r h2 a_0 14 = some a6 ∧ ld0 h2 a6 x3 ∧ st0 h2 a6 x3 ∧ ∀ h8, h8 = ah_si h2 a6 (Int32.toNatClampNeg x3) ((ah_i h2 a6 (Int32.toNatClampNeg x3)) + 1) → Q (some (.int v_1)) h8))))) : ex_G mX11_refuse d 0 [.ref a_0, .int v_1, .retAddr 0] [] h bc bs Q := by
  refine ex_aload_n (q := 1) (x := a_0) dX11_refuse_0 rfl ?_
  refine ex_iload_n (q := 2) (x := v_1) dX11_refuse_1 rfl ?_
  have s1 := w.1
  replace w := w.2
  refine ex_putf (q := 5) dX11_refuse_2 fl_X11_110 (Or.inl rfl) s1 (Or.inl rfl) ?_
  refine ex_nmh (fun h2 eh2 => ?_)
  replace w := w h2 eh2
  refine ex_bipush (q := 7) (v := (-10)) dX11_refuse_5 (by decide) ?_
  refine ex_iload_n (q := 8) (x := v_1) dX11_refuse_7 rfl ?_
  refine ex_isub (q := 9) dX11_refuse_8 ?_
  refine ex_nmi (fun x3 ex3 => ?_)
  replace w := w x3 ex3
  refine ex_istore_n (q := 10) (ls' := [.ref a_0, .int v_1, .int x3]) dX11_refuse_9 rfl ?_
  refine ex_iload_n (q := 11) (x := x3) dX11_refuse_10 rfl ?_
  refine ex_iconst (q := 12) (v := 1) dX11_refuse_11 (by decide) ?_
  refine ex_icmp_lt (tgt := 31) (q := 15) dX11_refuse_12 (fun c4 => ?_) (fun c4 => ?_)
  · replace w := w.1 c4
    refine ex_iload_n (q := 32) (x := v_1) dX11_refuse_31 rfl ?_
    exact ex_ireturn dX11_refuse_32 rfl (Or.inl rfl) w
  · replace w := w.2 c4
    refine ex_iload_n (q := 16) (x := x3) dX11_refuse_15 rfl ?_
    refine ex_bipush (q := 18) (v := 9) dX11_refuse_16 (by decide) ?_
    refine ex_icmp_gt (tgt := 31) (q := 21) dX11_refuse_18 (fun c5 => ?_) (fun c5 => ?_)
    · replace w := w.1 c5
      refine ex_iload_n (q := 32) (x := v_1) dX11_refuse_31 rfl ?_
      exact ex_ireturn dX11_refuse_32 rfl (Or.inl rfl) w
    · replace w := w.2 c5
      refine ex_aload_n (q := 22) (x := a_0) dX11_refuse_21 rfl ?_
      obtain ⟨a6, ea6, w⟩ := w
      refine ex_getr (q := 25) dX11_refuse_22 fl_X11_89 (by rw [eh2]; exact s1) ea6 ?_
      refine ex_iload_n (q := 26) (x := x3) dX11_refuse_25 rfl ?_
      refine ex_dup2 (q := 27) dX11_refuse_26 rfl rfl ?_
      have s7 := w.1
      replace w := w.2
      refine ex_iald (q := 28) dX11_refuse_27 s7 ?_
      refine ex_iconst (q := 29) (v := 1) dX11_refuse_28 (by decide) ?_
      refine ex_iadd (q := 30) dX11_refuse_29 ?_
      have s9 := w.1
      replace w := w.2
      refine ex_iast (q := 31) dX11_refuse_30 s9 ?_
      refine ex_nmh (fun h8 eh8 => ?_)
      replace w := w h8 eh8
      refine ex_iload_n (q := 32) (x := v_1) dX11_refuse_31 rfl ?_
      exact ex_ireturn dX11_refuse_32 rfl (Or.inl rfl) w

theorem X11_refuse_e {d bc bs : Nat} {h : AH} {Q : Option Value → AH → Prop} {a_0 : Nat} {v_1 : Int32} (w : ex_G mX11_refuse d 0 [.ref a_0, .int v_1, .retAddr 0] [] h bc bs Q) : ex_S yX11_refuse mX11_refuse d [.ref a_0, .int v_1] h bc bs Q :=
  ex_enter (plainFor_of_name (by decide +kernel)) ⟨rfl, rfl⟩ rfl rfl (Nat.le_of_ble_eq_true rfl) (ex_pad 1 w)

set_option maxRecDepth 100000 in
theorem X11_addLike_0 {d bc bs : Nat} {h : AH} {Q : Option Value → AH → Prop} {a_0 : Nat} {a_1 : Nat} (w : ah_n h < 10000000 ∧ ∀ h2, h2 = ah_no h 7 → ex_S yX7_init mX7_init (d + 1) [.ref (ah_n h)] h2 2 200 (fun r h3 => r = none ∧ ah_o h3 (ah_n h) 7 ∧ ex_S yX7_take mX7_take (d + 1) [.ref (ah_n h), .ref a_1] h3 0 0 (fun r h4 => r = none ∧ ah_o h4 a_0 11 ∧ ∃ a7, ah_r h4 a_0 0 = some a7 ∧ ld3 h4 11 a7 (ah_f h4 a_0 15) ∧ ah_o h4 (ah_n h) 7 ∧ ∀ h8, h8 = ah_sq h4 a7 (Int32.toNatClampNeg (ah_f h4 a_0 15)) (some (ah_n h)) → ∀ h11, h11 = ah_sf h8 a_0 15 ((ah_f h8 a_0 15) + 1) → Q (some (.int ((ah_f h11 a_0 15) - 1))) h11))) : ex_G mX11_addLike (d + 2) 0 [.ref a_0, .ref a_1, .retAddr 0] [] h (bc + 3) (bs + 207) Q := by
  have s1 := w.1
  replace w := w.2
  refine ex_G.room (bc' := (bc + 2) + 1) (bs' := (bs + 200) + 7) (Nat.le_refl _) (rm_le rfl) (rm_le rfl) ?_
  refine ex_new (q := 3) (c := 7) (M := mX11_addLike) dX11_addLike_0 wd_137 wd_245 wd_117 s1 ?_
  refine ex_nmh (fun h2 eh2 => ?_)
  replace w := w h2 eh2
  refine ex_dup (q := 4) dX11_addLike_3 rfl ?_
  refine ex_G.room (bc' := bc + 2) (bs' := bs + 200) (Nat.le_refl _) (Nat.le_refl _) (Nat.le_refl _) ?_
  refine ex_callI (q := 7) (M := mX11_addLike) (hdd := Nat.le_refl _) (st := [.ref (ah_n h)]) (bc := bc) (bs := bs) dX11_addLike_4 rfl cl_X11_43 wd_247 rfl rfl w ?_
  rintro r h3 ⟨rfl, w⟩
  show ex_G mX11_addLike (d + 2) 7 [.ref a_0, .ref a_1, .retAddr 0] [.ref (ah_n h)] h3 bc bs Q
  refine ex_astore_n (q := 8) (ls' := [.ref a_0, .ref a_1, .ref (ah_n h)]) dX11_addLike_7 rfl ?_
  refine ex_aload_n (q := 9) (x := ah_n h) dX11_addLike_8 rfl ?_
  refine ex_aload_n (q := 10) (x := a_1) dX11_addLike_9 rfl ?_
  have s5 := w.1
  replace w := w.2
  refine ex_callV (q := 13) (M := mX11_addLike) (hdd := Nat.le_refl _) (c := 7) (st := []) (bc := bc) (bs := bs) dX11_addLike_10 rfl cl_X11_113 wd_568 wd_569 s5 w ?_
  rintro r h4 ⟨rfl, w⟩
  show ex_G mX11_addLike (d + 2) 13 [.ref a_0, .ref a_1, .ref (ah_n h)] [] h4 bc bs Q
  refine ex_aload_n (q := 14) (x := a_0) dX11_addLike_13 rfl ?_
  have s6 := w.1
  replace w := w.2
  obtain ⟨a7, ea7, w⟩ := w
  refine ex_getr (q := 17) dX11_addLike_14 fl_X11_11 s6 ea7 ?_
  refine ex_aload_n (q := 18) (x := a_0) dX11_addLike_17 rfl ?_
  refine ex_getf (q := 21) dX11_addLike_18 fl_X11_97 s6 ?_
  refine ex_aload_n (q := 22) (x := ah_n h) dX11_addLike_21 rfl ?_
  have s9 := w.1
  replace w := w.2
  have s10 := w.1
  replace w := w.2
  refine ex_aast (q := 23) (c := 7) dX11_addLike_22 s9 s10 ?_
  refine ex_nmh (fun h8 eh8 => ?_)
  replace w := w h8 eh8
  refine ex_aload_n (q := 24) (x := a_0) dX11_addLike_23 rfl ?_
  refine ex_dup (q := 25) dX11_addLike_24 rfl ?_
  refine ex_getf (q := 28) dX11_addLike_25 fl_X11_97 (by rw [eh8]; exact s6) ?_
  refine ex_iconst (q := 29) (v := 1) dX11_addLike_28 (by decide) ?_
  refine ex_iadd (q := 30) dX11_addLike_29 ?_
  refine ex_putf (q := 33) dX11_addLike_30 fl_X11_97 (Or.inl rfl) (by rw [eh8]; exact s6) (Or.inl rfl) ?_
  refine ex_nmh (fun h11 eh11 => ?_)
  replace w := w h11 eh11
  refine ex_aload_n (q := 34) (x := a_0) dX11_addLike_33 rfl ?_
  refine ex_getf (q := 37) dX11_addLike_34 fl_X11_97 (by rw [eh11]; exact (by rw [eh8]; exact s6)) ?_
  refine ex_iconst (q := 38) (v := 1) dX11_addLike_37 (by decide) ?_
  refine ex_isub (q := 39) dX11_addLike_38 ?_
  exact ex_ireturn dX11_addLike_39 rfl (Or.inl rfl) w

theorem X11_addLike_e {d bc bs : Nat} {h : AH} {Q : Option Value → AH → Prop} {a_0 : Nat} {a_1 : Nat} (w : ex_G mX11_addLike (d + 2) 0 [.ref a_0, .ref a_1, .retAddr 0] [] h bc bs Q) : ex_S yX11_addLike mX11_addLike (d + 2) [.ref a_0, .ref a_1] h bc bs Q :=
  ex_enter (plainFor_of_name (by decide +kernel)) ⟨rfl, rfl⟩ rfl rfl (Nat.le_of_ble_eq_true rfl) (ex_pad 1 w)

set_option maxRecDepth 100000 in
theorem X11_picture_0 {d bc bs : Nat} {h : AH} {Q : Option Value → AH → Prop} {a_0 : Nat} (w : ah_o h a_0 11 ∧ X11_isFull_C a_0 h ∧ (((X11_isFull_V a_0 h) = 0 → ∃ a4, ah_r h a_0 6 = some a4 ∧ ah_o h a4 7 ∧ ex_S yX7_empty mX7_empty (d + 2) [.ref a4] h 0 0 (fun r h5 => r = none ∧ ah_o h5 a_0 11 ∧ ∃ a8, ah_r h5 a_0 6 = some a8 ∧ ex_S yX11_addLike mX11_addLike (d + 2) [.ref a_0, .ref a8] h5 3 207 (fun r h9 => ∃ x10, r = some (.int x10) ∧ ah_o h9 a_0 11 ∧ X11_grant_C a_0 x10 h9 ∧ ∀ h13, h13 = X11_grant_H a_0 x10 h9 → Q (some (.int (X11_grant_V a_0 x10 h9))) h13))) ∧ (¬ (X11_isFull_V a_0 h) = 0 → ex_S yX11_refuse mX11_refuse (d + 2) [.ref a_0, .int (-3)] h 0 0 (fun r h14 => ∃ x15, r = some (.int x15) ∧ Q (some (.int x15)) h14)))) : ex_G mX11_picture (d + 3) 0 [.ref a_0] [] h (bc + 3) (bs + 207) Q := by
  refine ex_aload_n (q := 1) (x := a_0) dX11_picture_0 rfl ?_
  have s1 := w.1
  replace w := w.2
  have s2 := w.1
  replace w := w.2
  refine ex_callV (q := 4) (M := mX11_picture) (hdd := Nat.le_refl _) (mc := 0) (ms := 0) (d' := (d + 2)) (c := 11) (st := []) (bc := (bc + 3)) (bs := (bs + 207)) dX11_picture_1 rfl cl_X11_116 wd_553 wd_0 s1 (X11_isFull_s (Q := fun r z => r = some (.int (X11_isFull_V a_0 h)) ∧ z = h) s2 ⟨rfl, rfl⟩) ?_
  intro r z hrz
  rw [hrz.1, hrz.2]
  show ex_G mX11_picture (d + 3) 4 [.ref a_0] [.int (X11_isFull_V a_0 h)] (h) (bc + 3) (bs + 207) Q
  refine ex_if_eq (tgt := 14) (q := 7) dX11_picture_4 (fun c3 => ?_) (fun c3 => ?_)
  · replace w := w.1 c3
    refine ex_aload_n (q := 15) (x := a_0) dX11_picture_14 rfl ?_
    obtain ⟨a4, ea4, w⟩ := w
    refine ex_getr (q := 18) dX11_picture_15 fl_X11_44 s1 ea4 ?_
    have s6 := w.1
    replace w := w.2
    refine ex_callV (q := 21) (M := mX11_picture) (hdd := Nat.le_refl _) (c := 7) (st := []) (bc := (bc + 3)) (bs := (bs + 207)) dX11_picture_18 rfl cl_X11_124 wd_560 wd_561 s6 w ?_
    rintro r h5 ⟨rfl, w⟩
    show ex_G mX11_picture (d + 3) 21 [.ref a_0] [] h5 (bc + 3) (bs + 207) Q
    refine ex_aload_n (q := 22) (x := a_0) dX11_picture_21 rfl ?_
    refine ex_aload_n (q := 23) (x := a_0) dX11_picture_22 rfl ?_
    refine ex_aload_n (q := 24) (x := a_0) dX11_picture_23 rfl ?_
    have s7 := w.1
    replace w := w.2
    obtain ⟨a8, ea8, w⟩ := w
    refine ex_getr (q := 27) dX11_picture_24 fl_X11_44 s7 ea8 ?_
    refine ex_G.room (bc' := bc + 3) (bs' := bs + 207) (Nat.le_refl _) (Nat.le_refl _) (Nat.le_refl _) ?_
    refine ex_callV (q := 30) (M := mX11_picture) (hdd := Nat.le_refl _) (c := 11) (st := [.ref a_0]) (bc := bc) (bs := bs) dX11_picture_27 rfl cl_X11_127 wd_565 wd_2 s7 w ?_
    rintro r h9 ⟨x10, rfl, w⟩
    show ex_G mX11_picture (d + 3) 30 [.ref a_0] [.int x10, .ref a_0] h9 bc bs Q
    have s11 := w.1
    replace w := w.2
    have s12 := w.1
    replace w := w.2
    refine ex_callV (q := 33) (M := mX11_picture) (hdd := Nat.le_refl _) (mc := 0) (ms := 0) (d' := (d + 2)) (c := 11) (st := []) (bc := bc) (bs := bs) dX11_picture_30 rfl cl_X11_131 wd_576 wd_3 s11 (X11_grant_s (Q := fun r z => r = some (.int (X11_grant_V a_0 x10 h9)) ∧ z = X11_grant_H a_0 x10 h9) s12 ⟨rfl, rfl⟩) ?_
    intro r z hrz
    rw [hrz.1, hrz.2]
    show ex_G mX11_picture (d + 3) 33 [.ref a_0] [.int (X11_grant_V a_0 x10 h9)] (X11_grant_H a_0 x10 h9) bc bs Q
    refine ex_nmh (fun h13 eh13 => ?_)
    replace w := w h13 eh13
    exact ex_ireturn dX11_picture_33 rfl (Or.inl rfl) w
  · replace w := w.2 c3
    refine ex_aload_n (q := 8) (x := a_0) dX11_picture_7 rfl ?_
    refine ex_bipush (q := 10) (v := (-3)) dX11_picture_8 (by decide) ?_
    refine ex_callV (q := 13) (M := mX11_picture) (hdd := Nat.le_refl _) (c := 11) (st := []) (bc := (bc + 3)) (bs := (bs + 207)) dX11_picture_10 rfl cl_X11_120 wd_557 wd_1 s1 w ?_
    rintro r h14 ⟨x15, rfl, w⟩
    show ex_G mX11_picture (d + 3) 13 [.ref a_0] [.int x15] h14 (bc + 3) (bs + 207) Q
    exact ex_ireturn dX11_picture_13 rfl (Or.inl rfl) w

theorem X11_picture_e {d bc bs : Nat} {h : AH} {Q : Option Value → AH → Prop} {a_0 : Nat} (w : ex_G mX11_picture (d + 3) 0 [.ref a_0] [] h bc bs Q) : ex_S yX11_picture mX11_picture (d + 3) [.ref a_0] h bc bs Q :=
  ex_enter (plainFor_of_name (by decide +kernel)) ⟨rfl, rfl⟩ rfl rfl (Nat.le_of_ble_eq_true rfl) (ex_pad 0 w)

set_option maxRecDepth 100000 in
theorem X11_crossing_0 {d bc bs : Nat} {h : AH} {Q : Option Value → AH → Prop} {a_0 : Nat} {v_1 : Int32} {v_2 : Int32} {v_3 : Int32} {v_4 : Int32} {v_5 : Int32} (w : ah_o h a_0 11 ∧ X11_hasPicture_C a_0 v_1 h ∧ (((X11_hasPicture_V a_0 v_1 h) = 0 → ex_S yX11_refuse mX11_refuse d [.ref a_0, .int (-2)] h 0 0 (fun r h4 => ∃ x5, r = some (.int x5) ∧ Q (some (.int x5)) h4)) ∧ (¬ (X11_hasPicture_V a_0 v_1 h) = 0 → (((X11_isArc_V v_2 h) = 0 → ex_S yX11_refuse mX11_refuse d [.ref a_0, .int (-2)] h 0 0 (fun r h7 => ∃ x8, r = some (.int x8) ∧ Q (some (.int x8)) h7)) ∧ (¬ (X11_isArc_V v_2 h) = 0 → (((X11_isArc_V v_3 h) = 0 → ex_S yX11_refuse mX11_refuse d [.ref a_0, .int (-2)] h 0 0 (fun r h10 => ∃ x11, r = some (.int x11) ∧ Q (some (.int x11)) h10)) ∧ (¬ (X11_isArc_V v_3 h) = 0 → (((X11_isArc_V v_4 h) = 0 → ex_S yX11_refuse mX11_refuse d [.ref a_0, .int (-2)] h 0 0 (fun r h13 => ∃ x14, r = some (.int x14) ∧ Q (some (.int x14)) h13)) ∧ (¬ (X11_isArc_V v_4 h) = 0 → ((¬ (X11_isArc_V v_5 h) = 0 → ∃ a16, ah_r h a_0 0 = some a16 ∧ ld3 h 11 a16 v_1 ∧ ∃ a18, ah_q h a16 (Int32.toNatClampNeg v_1) = some a18 ∧ ah_o h a18 7 ∧ (((ah_f h a18 2) < 40 → X7_forget_C a18 h ∧ ∀ h22, h22 = X7_forget_H a18 h → ah_o h22 a18 7 ∧ ex_S yX7_add mX7_add d [.ref a18, .int v_2, .int v_3, .int v_4, .int v_5] h22 0 0 (fun r h23 => r = none ∧ ah_o h23 a18 7 ∧ ah_o h23 a_0 11 ∧ X11_grant_C a_0 ((ah_f h23 a18 2) - 1) h23 ∧ ∀ h28, h28 = X11_grant_H a_0 ((ah_f h23 a18 2) - 1) h23 → Q (some (.int (X11_grant_V a_0 ((ah_f h23 a18 2) - 1) h23))) h28)) ∧ (¬ (ah_f h a18 2) < 40 → ex_S yX11_refuse mX11_refuse d [.ref a_0, .int (-3)] h 0 0 (fun r h29 => ∃ x30, r = some (.int x30) ∧ Q (some (.int x30)) h29)))) ∧ ((X11_isArc_V v_5 h) = 0 → ex_S yX11_refuse mX11_refuse d [.ref a_0, .int (-2)] h 0 0 (fun r h31 => ∃ x32, r = some (.int x32) ∧ Q (some (.int x32)) h31)))))))))))) : ex_G mX11_crossing (d + 1) 0 [.ref a_0, .int v_1, .int v_2, .int v_3, .int v_4, .int v_5, .retAddr 0] [] h bc bs Q := by
  refine ex_aload_n (q := 1) (x := a_0) dX11_crossing_0 rfl ?_
  refine ex_iload_n (q := 2) (x := v_1) dX11_crossing_1 rfl ?_
  have s1 := w.1
  replace w := w.2
  have s2 := w.1
  replace w := w.2
  refine ex_callV (q := 5) (M := mX11_crossing) (hdd := Nat.le_refl _) (mc := 0) (ms := 0) (d' := d) (c := 11) (st := []) (bc := bc) (bs := bs) dX11_crossing_2 rfl cl_X11_134 wd_584 wd_4 s1 (X11_hasPicture_s (Q := fun r z => r = some (.int (X11_hasPicture_V a_0 v_1 h)) ∧ z = h) s2 ⟨rfl, rfl⟩) ?_
  intro r z hrz
  rw [hrz.1, hrz.2]
  show ex_G mX11_crossing (d + 1) 5 [.ref a_0, .int v_1, .int v_2, .int v_3, .int v_4, .int v_5, .retAddr 0] [.int (X11_hasPicture_V a_0 v_1 h)] (h) bc bs Q
  refine ex_if_eq (tgt := 38) (q := 8) dX11_crossing_5 (fun c3 => ?_) (fun c3 => ?_)
  · replace w := w.1 c3
    refine ex_aload_n (q := 39) (x := a_0) dX11_crossing_38 rfl ?_
    refine ex_bipush (q := 41) (v := (-2)) dX11_crossing_39 (by decide) ?_
    refine ex_callV (q := 44) (M := mX11_crossing) (hdd := Nat.le_refl _) (c := 11) (st := []) (bc := bc) (bs := bs) dX11_crossing_41 rfl cl_X11_120 wd_557 wd_1 s1 w ?_
    rintro r h4 ⟨x5, rfl, w⟩
    show ex_G mX11_crossing (d + 1) 44 [.ref a_0, .int v_1, .int v_2, .int v_3, .int v_4, .int v_5, .retAddr 0] [.int x5] h4 bc bs Q
    exact ex_ireturn dX11_crossing_44 rfl (Or.inl rfl) w
  · replace w := w.2 c3
    refine ex_iload_n (q := 9) (x := v_2) dX11_crossing_8 rfl ?_
    refine ex_callS (q := 12) (M := mX11_crossing) (hdd := Nat.le_refl _) (mc := 0) (ms := 0) (d' := d) (st := []) (bc := bc) (bs := bs) dX11_crossing_9 rfl cl_X11_138 wd_587 (X11_isArc_s (Q := fun r z => r = some (.int (X11_isArc_V v_2 h)) ∧ z = h) ⟨rfl, rfl⟩) ?_
    intro r z hrz
    rw [hrz.1, hrz.2]
    show ex_G mX11_crossing (d + 1) 12 [.ref a_0, .int v_1, .int v_2, .int v_3, .int v_4, .int v_5, .retAddr 0] [.int (X11_isArc_V v_2 h)] (h) bc bs Q
    refine ex_if_eq (tgt := 38) (q := 15) dX11_crossing_12 (fun c6 => ?_) (fun c6 => ?_)
    · replace w := w.1 c6
      refine ex_aload_n (q := 39) (x := a_0) dX11_crossing_38 rfl ?_
      refine ex_bipush (q := 41) (v := (-2)) dX11_crossing_39 (by decide) ?_
      refine ex_callV (q := 44) (M := mX11_crossing) (hdd := Nat.le_refl _) (c := 11) (st := []) (bc := bc) (bs := bs) dX11_crossing_41 rfl cl_X11_120 wd_557 wd_1 s1 w ?_
      rintro r h7 ⟨x8, rfl, w⟩
      show ex_G mX11_crossing (d + 1) 44 [.ref a_0, .int v_1, .int v_2, .int v_3, .int v_4, .int v_5, .retAddr 0] [.int x8] h7 bc bs Q
      exact ex_ireturn dX11_crossing_44 rfl (Or.inl rfl) w
    · replace w := w.2 c6
      refine ex_iload_n (q := 16) (x := v_3) dX11_crossing_15 rfl ?_
      refine ex_callS (q := 19) (M := mX11_crossing) (hdd := Nat.le_refl _) (mc := 0) (ms := 0) (d' := d) (st := []) (bc := bc) (bs := bs) dX11_crossing_16 rfl cl_X11_138 wd_587 (X11_isArc_s (Q := fun r z => r = some (.int (X11_isArc_V v_3 h)) ∧ z = h) ⟨rfl, rfl⟩) ?_
      intro r z hrz
      rw [hrz.1, hrz.2]
      show ex_G mX11_crossing (d + 1) 19 [.ref a_0, .int v_1, .int v_2, .int v_3, .int v_4, .int v_5, .retAddr 0] [.int (X11_isArc_V v_3 h)] (h) bc bs Q
      refine ex_if_eq (tgt := 38) (q := 22) dX11_crossing_19 (fun c9 => ?_) (fun c9 => ?_)
      · replace w := w.1 c9
        refine ex_aload_n (q := 39) (x := a_0) dX11_crossing_38 rfl ?_
        refine ex_bipush (q := 41) (v := (-2)) dX11_crossing_39 (by decide) ?_
        refine ex_callV (q := 44) (M := mX11_crossing) (hdd := Nat.le_refl _) (c := 11) (st := []) (bc := bc) (bs := bs) dX11_crossing_41 rfl cl_X11_120 wd_557 wd_1 s1 w ?_
        rintro r h10 ⟨x11, rfl, w⟩
        show ex_G mX11_crossing (d + 1) 44 [.ref a_0, .int v_1, .int v_2, .int v_3, .int v_4, .int v_5, .retAddr 0] [.int x11] h10 bc bs Q
        exact ex_ireturn dX11_crossing_44 rfl (Or.inl rfl) w
      · replace w := w.2 c9
        refine ex_iload (q := 24) (x := v_4) dX11_crossing_22 rfl ?_
        refine ex_callS (q := 27) (M := mX11_crossing) (hdd := Nat.le_refl _) (mc := 0) (ms := 0) (d' := d) (st := []) (bc := bc) (bs := bs) dX11_crossing_24 rfl cl_X11_138 wd_587 (X11_isArc_s (Q := fun r z => r = some (.int (X11_isArc_V v_4 h)) ∧ z = h) ⟨rfl, rfl⟩) ?_
        intro r z hrz
        rw [hrz.1, hrz.2]
        show ex_G mX11_crossing (d + 1) 27 [.ref a_0, .int v_1, .int v_2, .int v_3, .int v_4, .int v_5, .retAddr 0] [.int (X11_isArc_V v_4 h)] (h) bc bs Q
        refine ex_if_eq (tgt := 38) (q := 30) dX11_crossing_27 (fun c12 => ?_) (fun c12 => ?_)
        · replace w := w.1 c12
          refine ex_aload_n (q := 39) (x := a_0) dX11_crossing_38 rfl ?_
          refine ex_bipush (q := 41) (v := (-2)) dX11_crossing_39 (by decide) ?_
          refine ex_callV (q := 44) (M := mX11_crossing) (hdd := Nat.le_refl _) (c := 11) (st := []) (bc := bc) (bs := bs) dX11_crossing_41 rfl cl_X11_120 wd_557 wd_1 s1 w ?_
          rintro r h13 ⟨x14, rfl, w⟩
          show ex_G mX11_crossing (d + 1) 44 [.ref a_0, .int v_1, .int v_2, .int v_3, .int v_4, .int v_5, .retAddr 0] [.int x14] h13 bc bs Q
          exact ex_ireturn dX11_crossing_44 rfl (Or.inl rfl) w
        · replace w := w.2 c12
          refine ex_iload (q := 32) (x := v_5) dX11_crossing_30 rfl ?_
          refine ex_callS (q := 35) (M := mX11_crossing) (hdd := Nat.le_refl _) (mc := 0) (ms := 0) (d' := d) (st := []) (bc := bc) (bs := bs) dX11_crossing_32 rfl cl_X11_138 wd_587 (X11_isArc_s (Q := fun r z => r = some (.int (X11_isArc_V v_5 h)) ∧ z = h) ⟨rfl, rfl⟩) ?_
          intro r z hrz
          rw [hrz.1, hrz.2]
          show ex_G mX11_crossing (d + 1) 35 [.ref a_0, .int v_1, .int v_2, .int v_3, .int v_4, .int v_5, .retAddr 0] [.int (X11_isArc_V v_5 h)] (h) bc bs Q
          refine ex_if_ne (tgt := 45) (q := 38) dX11_crossing_35 (fun c15 => ?_) (fun c15 => ?_)
          · replace w := w.1 c15
            refine ex_aload_n (q := 46) (x := a_0) dX11_crossing_45 rfl ?_
            obtain ⟨a16, ea16, w⟩ := w
            refine ex_getr (q := 49) dX11_crossing_46 fl_X11_11 s1 ea16 ?_
            refine ex_iload_n (q := 50) (x := v_1) dX11_crossing_49 rfl ?_
            have s17 := w.1
            replace w := w.2
            obtain ⟨a18, ea18, w⟩ := w
            refine ex_aald (q := 51) dX11_crossing_50 s17 ea18 ?_
            refine ex_astore (q := 53) (ls' := [.ref a_0, .int v_1, .int v_2, .int v_3, .int v_4, .int v_5, .ref a18]) dX11_crossing_51 rfl ?_
            refine ex_aload (q := 55) (x := a18) dX11_crossing_53 rfl ?_
            have s19 := w.1
            replace w := w.2
            refine ex_getf (q := 58) dX11_crossing_55 fl_X11_141 s19 ?_
            refine ex_bipush (q := 60) (v := 40) dX11_crossing_58 (by decide) ?_
            refine ex_icmp_lt (tgt := 70) (q := 63) dX11_crossing_60 (fun c20 => ?_) (fun c20 => ?_)
            · replace w := w.1 c20
              refine ex_aload (q := 72) (x := a18) dX11_crossing_70 rfl ?_
              have s21 := w.1
              replace w := w.2
              refine ex_callV (q := 75) (M := mX11_crossing) (hdd := Nat.le_refl _) (mc := 0) (ms := 0) (d' := d) (c := 7) (st := []) (bc := bc) (bs := bs) dX11_crossing_72 rfl cl_X11_144 wd_590 wd_591 s19 (X7_forget_s (Q := fun r z => r = none ∧ z = X7_forget_H a18 h) s21 ⟨rfl, rfl⟩) ?_
              intro r z hrz
              rw [hrz.1, hrz.2]
              show ex_G mX11_crossing (d + 1) 75 [.ref a_0, .int v_1, .int v_2, .int v_3, .int v_4, .int v_5, .ref a18] [] (X7_forget_H a18 h) bc bs Q
              refine ex_nmh (fun h22 eh22 => ?_)
              replace w := w h22 eh22
              refine ex_aload (q := 77) (x := a18) dX11_crossing_75 rfl ?_
              refine ex_iload_n (q := 78) (x := v_2) dX11_crossing_77 rfl ?_
              refine ex_iload_n (q := 79) (x := v_3) dX11_crossing_78 rfl ?_
              refine ex_iload (q := 81) (x := v_4) dX11_crossing_79 rfl ?_
              refine ex_iload (q := 83) (x := v_5) dX11_crossing_81 rfl ?_
              have s24 := w.1
              replace w := w.2
              refine ex_callV (q := 86) (M := mX11_crossing) (hdd := Nat.le_refl _) (c := 7) (st := []) (bc := bc) (bs := bs) dX11_crossing_83 rfl cl_X11_147 wd_594 wd_595 s24 w ?_
              rintro r h23 ⟨rfl, w⟩
              show ex_G mX11_crossing (d + 1) 86 [.ref a_0, .int v_1, .int v_2, .int v_3, .int v_4, .int v_5, .ref a18] [] h23 bc bs Q
              refine ex_aload_n (q := 87) (x := a_0) dX11_crossing_86 rfl ?_
              refine ex_aload (q := 89) (x := a18) dX11_crossing_87 rfl ?_
              have s25 := w.1
              replace w := w.2
              refine ex_getf (q := 92) dX11_crossing_89 fl_X11_141 s25 ?_
              refine ex_iconst (q := 93) (v := 1) dX11_crossing_92 (by decide) ?_
              refine ex_isub (q := 94) dX11_crossing_93 ?_
              have s26 := w.1
              replace w := w.2
              have s27 := w.1
              replace w := w.2
              refine ex_callV (q := 97) (M := mX11_crossing) (hdd := Nat.le_refl _) (mc := 0) (ms := 0) (d' := d) (c := 11) (st := []) (bc := bc) (bs := bs) dX11_crossing_94 rfl cl_X11_131 wd_576 wd_3 s26 (X11_grant_s (Q := fun r z => r = some (.int (X11_grant_V a_0 ((ah_f h23 a18 2) - 1) h23)) ∧ z = X11_grant_H a_0 ((ah_f h23 a18 2) - 1) h23) s27 ⟨rfl, rfl⟩) ?_
              intro r z hrz
              rw [hrz.1, hrz.2]
              show ex_G mX11_crossing (d + 1) 97 [.ref a_0, .int v_1, .int v_2, .int v_3, .int v_4, .int v_5, .ref a18] [.int (X11_grant_V a_0 ((ah_f h23 a18 2) - 1) h23)] (X11_grant_H a_0 ((ah_f h23 a18 2) - 1) h23) bc bs Q
              refine ex_nmh (fun h28 eh28 => ?_)
              replace w := w h28 eh28
              exact ex_ireturn dX11_crossing_97 rfl (Or.inl rfl) w
            · replace w := w.2 c20
              refine ex_aload_n (q := 64) (x := a_0) dX11_crossing_63 rfl ?_
              refine ex_bipush (q := 66) (v := (-3)) dX11_crossing_64 (by decide) ?_
              refine ex_callV (q := 69) (M := mX11_crossing) (hdd := Nat.le_refl _) (c := 11) (st := []) (bc := bc) (bs := bs) dX11_crossing_66 rfl cl_X11_120 wd_557 wd_1 s1 w ?_
              rintro r h29 ⟨x30, rfl, w⟩
              show ex_G mX11_crossing (d + 1) 69 [.ref a_0, .int v_1, .int v_2, .int v_3, .int v_4, .int v_5, .ref a18] [.int x30] h29 bc bs Q
              exact ex_ireturn dX11_crossing_69 rfl (Or.inl rfl) w
          · replace w := w.2 c15
            refine ex_aload_n (q := 39) (x := a_0) dX11_crossing_38 rfl ?_
            refine ex_bipush (q := 41) (v := (-2)) dX11_crossing_39 (by decide) ?_
            refine ex_callV (q := 44) (M := mX11_crossing) (hdd := Nat.le_refl _) (c := 11) (st := []) (bc := bc) (bs := bs) dX11_crossing_41 rfl cl_X11_120 wd_557 wd_1 s1 w ?_
            rintro r h31 ⟨x32, rfl, w⟩
            show ex_G mX11_crossing (d + 1) 44 [.ref a_0, .int v_1, .int v_2, .int v_3, .int v_4, .int v_5, .retAddr 0] [.int x32] h31 bc bs Q
            exact ex_ireturn dX11_crossing_44 rfl (Or.inl rfl) w

theorem X11_crossing_e {d bc bs : Nat} {h : AH} {Q : Option Value → AH → Prop} {a_0 : Nat} {v_1 : Int32} {v_2 : Int32} {v_3 : Int32} {v_4 : Int32} {v_5 : Int32} (w : ex_G mX11_crossing (d + 1) 0 [.ref a_0, .int v_1, .int v_2, .int v_3, .int v_4, .int v_5, .retAddr 0] [] h bc bs Q) : ex_S yX11_crossing mX11_crossing (d + 1) [.ref a_0, .int v_1, .int v_2, .int v_3, .int v_4, .int v_5] h bc bs Q :=
  ex_enter (plainFor_of_name (by decide +kernel)) ⟨rfl, rfl⟩ rfl rfl (Nat.le_of_ble_eq_true rfl) (ex_pad 1 w)

set_option maxRecDepth 100000 in
theorem X11_row_0 {d bc bs : Nat} {h : AH} {Q : Option Value → AH → Prop} {a_0 : Nat} {v_1 : Int32} {v_2 : Int32} {v_3 : Int32} (w : ah_o h a_0 11 ∧ X11_hasPicture_C a_0 v_1 h ∧ (((X11_hasPicture_V a_0 v_1 h) = 0 → ex_S yX11_refuse mX11_refuse (d + 1) [.ref a_0, .int (-2)] h 0 0 (fun r h4 => ∃ x5, r = some (.int x5) ∧ Q (some (.int x5)) h4)) ∧ (¬ (X11_hasPicture_V a_0 v_1 h) = 0 → ((v_3 < (-1) → ex_S yX11_refuse mX11_refuse (d + 1) [.ref a_0, .int (-2)] h 0 0 (fun r h7 => ∃ x8, r = some (.int x8) ∧ Q (some (.int x8)) h7)) ∧ (¬ v_3 < (-1) → ((v_3 ≤ 4 → ∃ a10, ah_r h a_0 0 = some a10 ∧ ld3 h 11 a10 v_1 ∧ ∃ a12, ah_q h a10 (Int32.toNatClampNeg v_1) = some a12 ∧ ah_o h a12 7 ∧ X7_hasCrossing_C a12 v_2 h ∧ ((¬ (X7_hasCrossing_V a12 v_2 h) = 0 → X7_forget_C a12 h ∧ ∀ h17, h17 = X7_forget_H a12 h → ah_o h17 a12 7 ∧ ex_S yX7_resize mX7_resize (d + 1) [.ref a12, .int v_2, .int v_3] h17 0 0 (fun r h18 => r = none ∧ ah_o h18 a_0 11 ∧ X11_grant_C a_0 1 h18 ∧ ∀ h22, h22 = X11_grant_H a_0 1 h18 → Q (some (.int (X11_grant_V a_0 1 h18))) h22)) ∧ ((X7_hasCrossing_V a12 v_2 h) = 0 → ex_S yX11_refuse mX11_refuse (d + 1) [.ref a_0, .int (-12)] h 0 0 (fun r h23 => ∃ x24, r = some (.int x24) ∧ Q (some (.int x24)) h23)))) ∧ (¬ v_3 ≤ 4 → ex_S yX11_refuse mX11_refuse (d + 1) [.ref a_0, .int (-2)] h 0 0 (fun r h25 => ∃ x26, r = some (.int x26) ∧ Q (some (.int x26)) h25)))))))) : ex_G mX11_row (d + 2) 0 [.ref a_0, .int v_1, .int v_2, .int v_3, .retAddr 0] [] h bc bs Q := by
  refine ex_aload_n (q := 1) (x := a_0) dX11_row_0 rfl ?_
  refine ex_iload_n (q := 2) (x := v_1) dX11_row_1 rfl ?_
  have s1 := w.1
  replace w := w.2
  have s2 := w.1
  replace w := w.2
  refine ex_callV (q := 5) (M := mX11_row) (hdd := Nat.le_refl _) (mc := 0) (ms := 0) (d' := (d + 1)) (c := 11) (st := []) (bc := bc) (bs := bs) dX11_row_2 rfl cl_X11_134 wd_584 wd_4 s1 (X11_hasPicture_s (Q := fun r z => r = some (.int (X11_hasPicture_V a_0 v_1 h)) ∧ z = h) s2 ⟨rfl, rfl⟩) ?_
  intro r z hrz
  rw [hrz.1, hrz.2]
  show ex_G mX11_row (d + 2) 5 [.ref a_0, .int v_1, .int v_2, .int v_3, .retAddr 0] [.int (X11_hasPicture_V a_0 v_1 h)] (h) bc bs Q
  refine ex_if_eq (tgt := 18) (q := 8) dX11_row_5 (fun c3 => ?_) (fun c3 => ?_)
  · replace w := w.1 c3
    refine ex_aload_n (q := 19) (x := a_0) dX11_row_18 rfl ?_
    refine ex_bipush (q := 21) (v := (-2)) dX11_row_19 (by decide) ?_
    refine ex_callV (q := 24) (M := mX11_row) (hdd := Nat.le_refl _) (c := 11) (st := []) (bc := bc) (bs := bs) dX11_row_21 rfl cl_X11_120 wd_557 wd_1 s1 w ?_
    rintro r h4 ⟨x5, rfl, w⟩
    show ex_G mX11_row (d + 2) 24 [.ref a_0, .int v_1, .int v_2, .int v_3, .retAddr 0] [.int x5] h4 bc bs Q
    exact ex_ireturn dX11_row_24 rfl (Or.inl rfl) w
  · replace w := w.2 c3
    refine ex_iload_n (q := 9) (x := v_3) dX11_row_8 rfl ?_
    refine ex_iconst (q := 10) (v := (-1)) dX11_row_9 (by decide) ?_
    refine ex_icmp_lt (tgt := 18) (q := 13) dX11_row_10 (fun c6 => ?_) (fun c6 => ?_)
    · replace w := w.1 c6
      refine ex_aload_n (q := 19) (x := a_0) dX11_row_18 rfl ?_
      refine ex_bipush (q := 21) (v := (-2)) dX11_row_19 (by decide) ?_
      refine ex_callV (q := 24) (M := mX11_row) (hdd := Nat.le_refl _) (c := 11) (st := []) (bc := bc) (bs := bs) dX11_row_21 rfl cl_X11_120 wd_557 wd_1 s1 w ?_
      rintro r h7 ⟨x8, rfl, w⟩
      show ex_G mX11_row (d + 2) 24 [.ref a_0, .int v_1, .int v_2, .int v_3, .retAddr 0] [.int x8] h7 bc bs Q
      exact ex_ireturn dX11_row_24 rfl (Or.inl rfl) w
    · replace w := w.2 c6
      refine ex_iload_n (q := 14) (x := v_3) dX11_row_13 rfl ?_
      refine ex_iconst (q := 15) (v := 4) dX11_row_14 (by decide) ?_
      refine ex_icmp_le (tgt := 25) (q := 18) dX11_row_15 (fun c9 => ?_) (fun c9 => ?_)
      · replace w := w.1 c9
        refine ex_aload_n (q := 26) (x := a_0) dX11_row_25 rfl ?_
        obtain ⟨a10, ea10, w⟩ := w
        refine ex_getr (q := 29) dX11_row_26 fl_X11_11 s1 ea10 ?_
        refine ex_iload_n (q := 30) (x := v_1) dX11_row_29 rfl ?_
        have s11 := w.1
        replace w := w.2
        obtain ⟨a12, ea12, w⟩ := w
        refine ex_aald (q := 31) dX11_row_30 s11 ea12 ?_
        refine ex_astore (q := 33) (ls' := [.ref a_0, .int v_1, .int v_2, .int v_3, .ref a12]) dX11_row_31 rfl ?_
        refine ex_aload (q := 35) (x := a12) dX11_row_33 rfl ?_
        refine ex_iload_n (q := 36) (x := v_2) dX11_row_35 rfl ?_
        have s13 := w.1
        replace w := w.2
        have s14 := w.1
        replace w := w.2
        refine ex_callV (q := 39) (M := mX11_row) (hdd := Nat.le_refl _) (mc := 0) (ms := 0) (d' := (d + 1)) (c := 7) (st := []) (bc := bc) (bs := bs) dX11_row_36 rfl cl_X11_151 wd_602 wd_603 s13 (X7_hasCrossing_s (Q := fun r z => r = some (.int (X7_hasCrossing_V a12 v_2 h)) ∧ z = h) s14 ⟨rfl, rfl⟩) ?_
        intro r z hrz
        rw [hrz.1, hrz.2]
        show ex_G mX11_row (d + 2) 39 [.ref a_0, .int v_1, .int v_2, .int v_3, .ref a12] [.int (X7_hasCrossing_V a12 v_2 h)] (h) bc bs Q
        refine ex_if_ne (tgt := 49) (q := 42) dX11_row_39 (fun c15 => ?_) (fun c15 => ?_)
        · replace w := w.1 c15
          refine ex_aload (q := 51) (x := a12) dX11_row_49 rfl ?_
          have s16 := w.1
          replace w := w.2
          refine ex_callV (q := 54) (M := mX11_row) (hdd := Nat.le_refl _) (mc := 0) (ms := 0) (d' := (d + 1)) (c := 7) (st := []) (bc := bc) (bs := bs) dX11_row_51 rfl cl_X11_144 wd_590 wd_591 s13 (X7_forget_s (Q := fun r z => r = none ∧ z = X7_forget_H a12 h) s16 ⟨rfl, rfl⟩) ?_
          intro r z hrz
          rw [hrz.1, hrz.2]
          show ex_G mX11_row (d + 2) 54 [.ref a_0, .int v_1, .int v_2, .int v_3, .ref a12] [] (X7_forget_H a12 h) bc bs Q
          refine ex_nmh (fun h17 eh17 => ?_)
          replace w := w h17 eh17
          refine ex_aload (q := 56) (x := a12) dX11_row_54 rfl ?_
          refine ex_iload_n (q := 57) (x := v_2) dX11_row_56 rfl ?_
          refine ex_iload_n (q := 58) (x := v_3) dX11_row_57 rfl ?_
          have s19 := w.1
          replace w := w.2
          refine ex_callV (q := 61) (M := mX11_row) (hdd := Nat.le_refl _) (c := 7) (st := []) (bc := bc) (bs := bs) dX11_row_58 rfl cl_X11_154 wd_606 wd_607 s19 w ?_
          rintro r h18 ⟨rfl, w⟩
          show ex_G mX11_row (d + 2) 61 [.ref a_0, .int v_1, .int v_2, .int v_3, .ref a12] [] h18 bc bs Q
          refine ex_aload_n (q := 62) (x := a_0) dX11_row_61 rfl ?_
          refine ex_iconst (q := 63) (v := 1) dX11_row_62 (by decide) ?_
          have s20 := w.1
          replace w := w.2
          have s21 := w.1
          replace w := w.2
          refine ex_callV (q := 66) (M := mX11_row) (hdd := Nat.le_refl _) (mc := 0) (ms := 0) (d' := (d + 1)) (c := 11) (st := []) (bc := bc) (bs := bs) dX11_row_63 rfl cl_X11_131 wd_576 wd_3 s20 (X11_grant_s (Q := fun r z => r = some (.int (X11_grant_V a_0 1 h18)) ∧ z = X11_grant_H a_0 1 h18) s21 ⟨rfl, rfl⟩) ?_
          intro r z hrz
          rw [hrz.1, hrz.2]
          show ex_G mX11_row (d + 2) 66 [.ref a_0, .int v_1, .int v_2, .int v_3, .ref a12] [.int (X11_grant_V a_0 1 h18)] (X11_grant_H a_0 1 h18) bc bs Q
          refine ex_nmh (fun h22 eh22 => ?_)
          replace w := w h22 eh22
          exact ex_ireturn dX11_row_66 rfl (Or.inl rfl) w
        · replace w := w.2 c15
          refine ex_aload_n (q := 43) (x := a_0) dX11_row_42 rfl ?_
          refine ex_bipush (q := 45) (v := (-12)) dX11_row_43 (by decide) ?_
          refine ex_callV (q := 48) (M := mX11_row) (hdd := Nat.le_refl _) (c := 11) (st := []) (bc := bc) (bs := bs) dX11_row_45 rfl cl_X11_120 wd_557 wd_1 s1 w ?_
          rintro r h23 ⟨x24, rfl, w⟩
          show ex_G mX11_row (d + 2) 48 [.ref a_0, .int v_1, .int v_2, .int v_3, .ref a12] [.int x24] h23 bc bs Q
          exact ex_ireturn dX11_row_48 rfl (Or.inl rfl) w
      · replace w := w.2 c9
        refine ex_aload_n (q := 19) (x := a_0) dX11_row_18 rfl ?_
        refine ex_bipush (q := 21) (v := (-2)) dX11_row_19 (by decide) ?_
        refine ex_callV (q := 24) (M := mX11_row) (hdd := Nat.le_refl _) (c := 11) (st := []) (bc := bc) (bs := bs) dX11_row_21 rfl cl_X11_120 wd_557 wd_1 s1 w ?_
        rintro r h25 ⟨x26, rfl, w⟩
        show ex_G mX11_row (d + 2) 24 [.ref a_0, .int v_1, .int v_2, .int v_3, .retAddr 0] [.int x26] h25 bc bs Q
        exact ex_ireturn dX11_row_24 rfl (Or.inl rfl) w

theorem X11_row_e {d bc bs : Nat} {h : AH} {Q : Option Value → AH → Prop} {a_0 : Nat} {v_1 : Int32} {v_2 : Int32} {v_3 : Int32} (w : ex_G mX11_row (d + 2) 0 [.ref a_0, .int v_1, .int v_2, .int v_3, .retAddr 0] [] h bc bs Q) : ex_S yX11_row mX11_row (d + 2) [.ref a_0, .int v_1, .int v_2, .int v_3] h bc bs Q :=
  ex_enter (plainFor_of_name (by decide +kernel)) ⟨rfl, rfl⟩ rfl rfl (Nat.le_of_ble_eq_true rfl) (ex_pad 1 w)

set_option maxRecDepth 100000 in
theorem X11_end_0 {d bc bs : Nat} {h : AH} {Q : Option Value → AH → Prop} {a_0 : Nat} {v_1 : Int32} {v_2 : Int32} {v_3 : Int32} (w : ah_o h a_0 11 ∧ X11_hasPicture_C a_0 v_1 h ∧ ((¬ (X11_hasPicture_V a_0 v_1 h) = 0 → ∃ a4, ah_r h a_0 0 = some a4 ∧ ld3 h 11 a4 v_1 ∧ ∃ a6, ah_q h a4 (Int32.toNatClampNeg v_1) = some a6 ∧ X11_whyOutOfReach_C a6 v_2 v_3 h ∧ ∀ x8, x8 = X11_whyOutOfReach_V a6 v_2 v_3 h → ((x8 = 0 → ∃ a10, ah_q h a4 (Int32.toNatClampNeg v_1) = some a10 ∧ ah_o h a10 7 ∧ ∃ a12, ah_r h a10 1 = some a12 ∧ ld0 h a12 ((4 * v_2) + v_3) ∧ X11_grant_C a_0 (ah_i h a12 (Int32.toNatClampNeg ((4 * v_2) + v_3))) h ∧ ∀ h15, h15 = X11_grant_H a_0 (ah_i h a12 (Int32.toNatClampNeg ((4 * v_2) + v_3))) h → Q (some (.int (X11_grant_V a_0 (ah_i h a12 (Int32.toNatClampNeg ((4 * v_2) + v_3))) h))) h15) ∧ (¬ x8 = 0 → ex_S yX11_refuse mX11_refuse (d + 1) [.ref a_0, .int x8] h 0 0 (fun r h16 => ∃ x17, r = some (.int x17) ∧ Q (some (.int x17)) h16)))) ∧ ((X11_hasPicture_V a_0 v_1 h) = 0 → ex_S yX11_refuse mX11_refuse (d + 1) [.ref a_0, .int (-2)] h 0 0 (fun r h18 => ∃ x19, r = some (.int x19) ∧ Q (some (.int x19)) h18)))) : ex_G mX11_end (d + 2) 0 [.ref a_0, .int v_1, .int v_2, .int v_3, .retAddr 0] [] h bc bs Q := by
  refine ex_aload_n (q := 1) (x := a_0) dX11_end_0 rfl ?_
  refine ex_iload_n (q := 2) (x := v_1) dX11_end_1 rfl ?_
  have s1 := w.1
  replace w := w.2
  have s2 := w.1
  replace w := w.2
  refine ex_callV (q := 5) (M := mX11_end) (hdd := Nat.le_refl _) (mc := 0) (ms := 0) (d' := (d + 1)) (c := 11) (st := []) (bc := bc) (bs := bs) dX11_end_2 rfl cl_X11_134 wd_584 wd_4 s1 (X11_hasPicture_s (Q := fun r z => r = some (.int (X11_hasPicture_V a_0 v_1 h)) ∧ z = h) s2 ⟨rfl, rfl⟩) ?_
  intro r z hrz
  rw [hrz.1, hrz.2]
  show ex_G mX11_end (d + 2) 5 [.ref a_0, .int v_1, .int v_2, .int v_3, .retAddr 0] [.int (X11_hasPicture_V a_0 v_1 h)] (h) bc bs Q
  refine ex_if_ne (tgt := 15) (q := 8) dX11_end_5 (fun c3 => ?_) (fun c3 => ?_)
  · replace w := w.1 c3
    refine ex_aload_n (q := 16) (x := a_0) dX11_end_15 rfl ?_
    obtain ⟨a4, ea4, w⟩ := w
    refine ex_getr (q := 19) dX11_end_16 fl_X11_11 s1 ea4 ?_
    refine ex_iload_n (q := 20) (x := v_1) dX11_end_19 rfl ?_
    have s5 := w.1
    replace w := w.2
    obtain ⟨a6, ea6, w⟩ := w
    refine ex_aald (q := 21) dX11_end_20 s5 ea6 ?_
    refine ex_iload_n (q := 22) (x := v_2) dX11_end_21 rfl ?_
    refine ex_iload_n (q := 23) (x := v_3) dX11_end_22 rfl ?_
    have s7 := w.1
    replace w := w.2
    refine ex_callS (q := 26) (M := mX11_end) (hdd := Nat.le_refl _) (mc := 0) (ms := 0) (d' := (d + 1)) (st := []) (bc := bc) (bs := bs) dX11_end_23 rfl cl_X11_161 wd_615 (X11_whyOutOfReach_s (Q := fun r z => r = some (.int (X11_whyOutOfReach_V a6 v_2 v_3 h)) ∧ z = h) s7 ⟨rfl, rfl⟩) ?_
    intro r z hrz
    rw [hrz.1, hrz.2]
    show ex_G mX11_end (d + 2) 26 [.ref a_0, .int v_1, .int v_2, .int v_3, .retAddr 0] [.int (X11_whyOutOfReach_V a6 v_2 v_3 h)] (h) bc bs Q
    refine ex_nmi (fun x8 ex8 => ?_)
    replace w := w x8 ex8
    refine ex_istore (q := 28) (ls' := [.ref a_0, .int v_1, .int v_2, .int v_3, .int x8]) dX11_end_26 rfl ?_
    refine ex_iload (q := 30) (x := x8) dX11_end_28 rfl ?_
    refine ex_if_eq (tgt := 42) (q := 33) dX11_end_30 (fun c9 => ?_) (fun c9 => ?_)
    · replace w := w.1 c9
      refine ex_aload_n (q := 43) (x := a_0) dX11_end_42 rfl ?_
      refine ex_aload_n (q := 44) (x := a_0) dX11_end_43 rfl ?_
      refine ex_getr (q := 47) dX11_end_44 fl_X11_11 s1 ea4 ?_
      refine ex_iload_n (q := 48) (x := v_1) dX11_end_47 rfl ?_
      obtain ⟨a10, ea10, w⟩ := w
      refine ex_aald (q := 49) dX11_end_48 s5 ea10 ?_
      have s11 := w.1
      replace w := w.2
      obtain ⟨a12, ea12, w⟩ := w
      refine ex_getr (q := 52) dX11_end_49 fl_X11_165 s11 ea12 ?_
      refine ex_iconst (q := 53) (v := 4) dX11_end_52 (by decide) ?_
      refine ex_iload_n (q := 54) (x := v_2) dX11_end_53 rfl ?_
      refine ex_imul (q := 55) dX11_end_54 ?_
      refine ex_iload_n (q := 56) (x := v_3) dX11_end_55 rfl ?_
      refine ex_iadd (q := 57) dX11_end_56 ?_
      have s13 := w.1
      replace w := w.2
      refine ex_iald (q := 58) dX11_end_57 s13 ?_
      have s14 := w.1
      replace w := w.2
      refine ex_callV (q := 61) (M := mX11_end) (hdd := Nat.le_refl _) (mc := 0) (ms := 0) (d' := (d + 1)) (c := 11) (st := []) (bc := bc) (bs := bs) dX11_end_58 rfl cl_X11_131 wd_576 wd_3 s1 (X11_grant_s (Q := fun r z => r = some (.int (X11_grant_V a_0 (ah_i h a12 (Int32.toNatClampNeg ((4 * v_2) + v_3))) h)) ∧ z = X11_grant_H a_0 (ah_i h a12 (Int32.toNatClampNeg ((4 * v_2) + v_3))) h) s14 ⟨rfl, rfl⟩) ?_
      intro r z hrz
      rw [hrz.1, hrz.2]
      show ex_G mX11_end (d + 2) 61 [.ref a_0, .int v_1, .int v_2, .int v_3, .int x8] [.int (X11_grant_V a_0 (ah_i h a12 (Int32.toNatClampNeg ((4 * v_2) + v_3))) h)] (X11_grant_H a_0 (ah_i h a12 (Int32.toNatClampNeg ((4 * v_2) + v_3))) h) bc bs Q
      refine ex_nmh (fun h15 eh15 => ?_)
      replace w := w h15 eh15
      exact ex_ireturn dX11_end_61 rfl (Or.inl rfl) w
    · replace w := w.2 c9
      refine ex_aload_n (q := 34) (x := a_0) dX11_end_33 rfl ?_
      refine ex_iload (q := 36) (x := x8) dX11_end_34 rfl ?_
      refine ex_callV (q := 39) (M := mX11_end) (hdd := Nat.le_refl _) (c := 11) (st := []) (bc := bc) (bs := bs) dX11_end_36 rfl cl_X11_120 wd_557 wd_1 s1 w ?_
      rintro r h16 ⟨x17, rfl, w⟩
      show ex_G mX11_end (d + 2) 39 [.ref a_0, .int v_1, .int v_2, .int v_3, .int x8] [.int x17] h16 bc bs Q
      refine ex_goto (tgt := 61) dX11_end_39 ?_
      exact ex_ireturn dX11_end_61 rfl (Or.inl rfl) w
  · replace w := w.2 c3
    refine ex_aload_n (q := 9) (x := a_0) dX11_end_8 rfl ?_
    refine ex_bipush (q := 11) (v := (-2)) dX11_end_9 (by decide) ?_
    refine ex_callV (q := 14) (M := mX11_end) (hdd := Nat.le_refl _) (c := 11) (st := []) (bc := bc) (bs := bs) dX11_end_11 rfl cl_X11_120 wd_557 wd_1 s1 w ?_
    rintro r h18 ⟨x19, rfl, w⟩
    show ex_G mX11_end (d + 2) 14 [.ref a_0, .int v_1, .int v_2, .int v_3, .retAddr 0] [.int x19] h18 bc bs Q
    exact ex_ireturn dX11_end_14 rfl (Or.inl rfl) w

theorem X11_end_e {d bc bs : Nat} {h : AH} {Q : Option Value → AH → Prop} {a_0 : Nat} {v_1 : Int32} {v_2 : Int32} {v_3 : Int32} (w : ex_G mX11_end (d + 2) 0 [.ref a_0, .int v_1, .int v_2, .int v_3, .retAddr 0] [] h bc bs Q) : ex_S yX11_end mX11_end (d + 2) [.ref a_0, .int v_1, .int v_2, .int v_3] h bc bs Q :=
  ex_enter (plainFor_of_name (by decide +kernel)) ⟨rfl, rfl⟩ rfl rfl (Nat.le_of_ble_eq_true rfl) (ex_pad 1 w)

set_option maxRecDepth 100000 in
theorem X11_put_0 {d bc bs : Nat} {h : AH} {Q : Option Value → AH → Prop} {a_0 : Nat} {v_1 : Int32} {v_2 : Int32} {v_3 : Int32} {v_4 : Int32} (w : ah_o h a_0 11 ∧ X11_hasPicture_C a_0 v_1 h ∧ (((X11_hasPicture_V a_0 v_1 h) = 0 → ex_S yX11_refuse mX11_refuse (d + 1) [.ref a_0, .int (-2)] h 0 0 (fun r h4 => ∃ x5, r = some (.int x5) ∧ Q (some (.int x5)) h4)) ∧ (¬ (X11_hasPicture_V a_0 v_1 h) = 0 → ((¬ (X11_isArc_V v_4 h) = 0 → ∃ a7, ah_r h a_0 0 = some a7 ∧ ld3 h 11 a7 v_1 ∧ ∃ a9, ah_q h a7 (Int32.toNatClampNeg v_1) = some a9 ∧ X11_whyOutOfReach_C a9 v_2 v_3 h ∧ ∀ x11, x11 = X11_whyOutOfReach_V a9 v_2 v_3 h → ((x11 = 0 → ∃ a13, ah_q h a7 (Int32.toNatClampNeg v_1) = some a13 ∧ ah_o h a13 7 ∧ X7_forget_C a13 h ∧ ∀ h16, h16 = X7_forget_H a13 h → ah_o h16 a_0 11 ∧ ∃ a18, ah_r h16 a_0 0 = some a18 ∧ ld3 h16 11 a18 v_1 ∧ ∃ a20, ah_q h16 a18 (Int32.toNatClampNeg v_1) = some a20 ∧ ah_o h16 a20 7 ∧ ∃ a22, ah_r h16 a20 1 = some a22 ∧ st0 h16 a22 ((4 * v_2) + v_3) ∧ ∀ h23, h23 = ah_si h16 a22 (Int32.toNatClampNeg ((4 * v_2) + v_3)) v_4 → X11_grant_C a_0 1 h23 ∧ ∀ h26, h26 = X11_grant_H a_0 1 h23 → Q (some (.int (X11_grant_V a_0 1 h23))) h26) ∧ (¬ x11 = 0 → ex_S yX11_refuse mX11_refuse (d + 1) [.ref a_0, .int x11] h 0 0 (fun r h27 => ∃ x28, r = some (.int x28) ∧ Q (some (.int x28)) h27)))) ∧ ((X11_isArc_V v_4 h) = 0 → ex_S yX11_refuse mX11_refuse (d + 1) [.ref a_0, .int (-2)] h 0 0 (fun r h29 => ∃ x30, r = some (.int x30) ∧ Q (some (.int x30)) h29)))))) : ex_G mX11_put (d + 2) 0 [.ref a_0, .int v_1, .int v_2, .int v_3, .int v_4, .retAddr 0] [] h bc bs Q := by
  refine ex_aload_n (q := 1) (x := a_0) dX11_put_0 rfl ?_
  refine ex_iload_n (q := 2) (x := v_1) dX11_put_1 rfl ?_
  have s1 := w.1
  replace w := w.2
  have s2 := w.1
  replace w := w.2
  refine ex_callV (q := 5) (M := mX11_put) (hdd := Nat.le_refl _) (mc := 0) (ms := 0) (d' := (d + 1)) (c := 11) (st := []) (bc := bc) (bs := bs) dX11_put_2 rfl cl_X11_134 wd_584 wd_4 s1 (X11_hasPicture_s (Q := fun r z => r = some (.int (X11_hasPicture_V a_0 v_1 h)) ∧ z = h) s2 ⟨rfl, rfl⟩) ?_
  intro r z hrz
  rw [hrz.1, hrz.2]
  show ex_G mX11_put (d + 2) 5 [.ref a_0, .int v_1, .int v_2, .int v_3, .int v_4, .retAddr 0] [.int (X11_hasPicture_V a_0 v_1 h)] (h) bc bs Q
  refine ex_if_eq (tgt := 16) (q := 8) dX11_put_5 (fun c3 => ?_) (fun c3 => ?_)
  · replace w := w.1 c3
    refine ex_aload_n (q := 17) (x := a_0) dX11_put_16 rfl ?_
    refine ex_bipush (q := 19) (v := (-2)) dX11_put_17 (by decide) ?_
    refine ex_callV (q := 22) (M := mX11_put) (hdd := Nat.le_refl _) (c := 11) (st := []) (bc := bc) (bs := bs) dX11_put_19 rfl cl_X11_120 wd_557 wd_1 s1 w ?_
    rintro r h4 ⟨x5, rfl, w⟩
    show ex_G mX11_put (d + 2) 22 [.ref a_0, .int v_1, .int v_2, .int v_3, .int v_4, .retAddr 0] [.int x5] h4 bc bs Q
    exact ex_ireturn dX11_put_22 rfl (Or.inl rfl) w
  · replace w := w.2 c3
    refine ex_iload (q := 10) (x := v_4) dX11_put_8 rfl ?_
    refine ex_callS (q := 13) (M := mX11_put) (hdd := Nat.le_refl _) (mc := 0) (ms := 0) (d' := (d + 1)) (st := []) (bc := bc) (bs := bs) dX11_put_10 rfl cl_X11_138 wd_587 (X11_isArc_s (Q := fun r z => r = some (.int (X11_isArc_V v_4 h)) ∧ z = h) ⟨rfl, rfl⟩) ?_
    intro r z hrz
    rw [hrz.1, hrz.2]
    show ex_G mX11_put (d + 2) 13 [.ref a_0, .int v_1, .int v_2, .int v_3, .int v_4, .retAddr 0] [.int (X11_isArc_V v_4 h)] (h) bc bs Q
    refine ex_if_ne (tgt := 23) (q := 16) dX11_put_13 (fun c6 => ?_) (fun c6 => ?_)
    · replace w := w.1 c6
      refine ex_aload_n (q := 24) (x := a_0) dX11_put_23 rfl ?_
      obtain ⟨a7, ea7, w⟩ := w
      refine ex_getr (q := 27) dX11_put_24 fl_X11_11 s1 ea7 ?_
      refine ex_iload_n (q := 28) (x := v_1) dX11_put_27 rfl ?_
      have s8 := w.1
      replace w := w.2
      obtain ⟨a9, ea9, w⟩ := w
      refine ex_aald (q := 29) dX11_put_28 s8 ea9 ?_
      refine ex_iload_n (q := 30) (x := v_2) dX11_put_29 rfl ?_
      refine ex_iload_n (q := 31) (x := v_3) dX11_put_30 rfl ?_
      have s10 := w.1
      replace w := w.2
      refine ex_callS (q := 34) (M := mX11_put) (hdd := Nat.le_refl _) (mc := 0) (ms := 0) (d' := (d + 1)) (st := []) (bc := bc) (bs := bs) dX11_put_31 rfl cl_X11_161 wd_615 (X11_whyOutOfReach_s (Q := fun r z => r = some (.int (X11_whyOutOfReach_V a9 v_2 v_3 h)) ∧ z = h) s10 ⟨rfl, rfl⟩) ?_
      intro r z hrz
      rw [hrz.1, hrz.2]
      show ex_G mX11_put (d + 2) 34 [.ref a_0, .int v_1, .int v_2, .int v_3, .int v_4, .retAddr 0] [.int (X11_whyOutOfReach_V a9 v_2 v_3 h)] (h) bc bs Q
      refine ex_nmi (fun x11 ex11 => ?_)
      replace w := w x11 ex11
      refine ex_istore (q := 36) (ls' := [.ref a_0, .int v_1, .int v_2, .int v_3, .int v_4, .int x11]) dX11_put_34 rfl ?_
      refine ex_iload (q := 38) (x := x11) dX11_put_36 rfl ?_
      refine ex_if_eq (tgt := 48) (q := 41) dX11_put_38 (fun c12 => ?_) (fun c12 => ?_)
      · replace w := w.1 c12
        refine ex_aload_n (q := 49) (x := a_0) dX11_put_48 rfl ?_
        refine ex_getr (q := 52) dX11_put_49 fl_X11_11 s1 ea7 ?_
        refine ex_iload_n (q := 53) (x := v_1) dX11_put_52 rfl ?_
        obtain ⟨a13, ea13, w⟩ := w
        refine ex_aald (q := 54) dX11_put_53 s8 ea13 ?_
        have s14 := w.1
        replace w := w.2
        have s15 := w.1
        replace w := w.2
        refine ex_callV (q := 57) (M := mX11_put) (hdd := Nat.le_refl _) (mc := 0) (ms := 0) (d' := (d + 1)) (c := 7) (st := []) (bc := bc) (bs := bs) dX11_put_54 rfl cl_X11_144 wd_590 wd_591 s14 (X7_forget_s (Q := fun r z => r = none ∧ z = X7_forget_H a13 h) s15 ⟨rfl, rfl⟩) ?_
        intro r z hrz
        rw [hrz.1, hrz.2]
        show ex_G mX11_put (d + 2) 57 [.ref a_0, .int v_1, .int v_2, .int v_3, .int v_4, .int x11] [] (X7_forget_H a13 h) bc bs Q
        refine ex_nmh (fun h16 eh16 => ?_)
        replace w := w h16 eh16
        refine ex_aload_n (q := 58) (x := a_0) dX11_put_57 rfl ?_
        have s17 := w.1
        replace w := w.2
        obtain ⟨a18, ea18, w⟩ := w
        refine ex_getr (q := 61) dX11_put_58 fl_X11_11 s17 ea18 ?_
        refine ex_iload_n (q := 62) (x := v_1) dX11_put_61 rfl ?_
        have s19 := w.1
        replace w := w.2
        obtain ⟨a20, ea20, w⟩ := w
        refine ex_aald (q := 63) dX11_put_62 s19 ea20 ?_
        have s21 := w.1
        replace w := w.2
        obtain ⟨a22, ea22, w⟩ := w
        refine ex_getr (q := 66) dX11_put_63 fl_X11_165 s21 ea22 ?_
        refine ex_iconst (q := 67) (v := 4) dX11_put_66 (by decide) ?_
        refine ex_iload_n (q := 68) (x := v_2) dX11_put_67 rfl ?_
        refine ex_imul (q := 69) dX11_put_68 ?_
        refine ex_iload_n (q := 70) (x := v_3) dX11_put_69 rfl ?_
        refine ex_iadd (q := 71) dX11_put_70 ?_
        refine ex_iload (q := 73) (x := v_4) dX11_put_71 rfl ?_
        have s24 := w.1
        replace w := w.2
        refine ex_iast (q := 74) dX11_put_73 s24 ?_
        refine ex_nmh (fun h23 eh23 => ?_)
        replace w := w h23 eh23
        refine ex_aload_n (q := 75) (x := a_0) dX11_put_74 rfl ?_
        refine ex_iconst (q := 76) (v := 1) dX11_put_75 (by decide) ?_
        have s25 := w.1
        replace w := w.2
        refine ex_callV (q := 79) (M := mX11_put) (hdd := Nat.le_refl _) (mc := 0) (ms := 0) (d' := (d + 1)) (c := 11) (st := []) (bc := bc) (bs := bs) dX11_put_76 rfl cl_X11_131 wd_576 wd_3 (by rw [eh23]; exact s17) (X11_grant_s (Q := fun r z => r = some (.int (X11_grant_V a_0 1 h23)) ∧ z = X11_grant_H a_0 1 h23) s25 ⟨rfl, rfl⟩) ?_
        intro r z hrz
        rw [hrz.1, hrz.2]
        show ex_G mX11_put (d + 2) 79 [.ref a_0, .int v_1, .int v_2, .int v_3, .int v_4, .int x11] [.int (X11_grant_V a_0 1 h23)] (X11_grant_H a_0 1 h23) bc bs Q
        refine ex_nmh (fun h26 eh26 => ?_)
        replace w := w h26 eh26
        exact ex_ireturn dX11_put_79 rfl (Or.inl rfl) w
      · replace w := w.2 c12
        refine ex_aload_n (q := 42) (x := a_0) dX11_put_41 rfl ?_
        refine ex_iload (q := 44) (x := x11) dX11_put_42 rfl ?_
        refine ex_callV (q := 47) (M := mX11_put) (hdd := Nat.le_refl _) (c := 11) (st := []) (bc := bc) (bs := bs) dX11_put_44 rfl cl_X11_120 wd_557 wd_1 s1 w ?_
        rintro r h27 ⟨x28, rfl, w⟩
        show ex_G mX11_put (d + 2) 47 [.ref a_0, .int v_1, .int v_2, .int v_3, .int v_4, .int x11] [.int x28] h27 bc bs Q
        exact ex_ireturn dX11_put_47 rfl (Or.inl rfl) w
    · replace w := w.2 c6
      refine ex_aload_n (q := 17) (x := a_0) dX11_put_16 rfl ?_
      refine ex_bipush (q := 19) (v := (-2)) dX11_put_17 (by decide) ?_
      refine ex_callV (q := 22) (M := mX11_put) (hdd := Nat.le_refl _) (c := 11) (st := []) (bc := bc) (bs := bs) dX11_put_19 rfl cl_X11_120 wd_557 wd_1 s1 w ?_
      rintro r h29 ⟨x30, rfl, w⟩
      show ex_G mX11_put (d + 2) 22 [.ref a_0, .int v_1, .int v_2, .int v_3, .int v_4, .retAddr 0] [.int x30] h29 bc bs Q
      exact ex_ireturn dX11_put_22 rfl (Or.inl rfl) w

theorem X11_put_e {d bc bs : Nat} {h : AH} {Q : Option Value → AH → Prop} {a_0 : Nat} {v_1 : Int32} {v_2 : Int32} {v_3 : Int32} {v_4 : Int32} (w : ex_G mX11_put (d + 2) 0 [.ref a_0, .int v_1, .int v_2, .int v_3, .int v_4, .retAddr 0] [] h bc bs Q) : ex_S yX11_put mX11_put (d + 2) [.ref a_0, .int v_1, .int v_2, .int v_3, .int v_4] h bc bs Q :=
  ex_enter (plainFor_of_name (by decide +kernel)) ⟨rfl, rfl⟩ rfl rfl (Nat.le_of_ble_eq_true rfl) (ex_pad 1 w)

set_option maxRecDepth 100000 in
theorem X11_copy_0 {d bc bs : Nat} {h : AH} {Q : Option Value → AH → Prop} {a_0 : Nat} {v_1 : Int32} {v_2 : Int32} {v_3 : Int32} {v_4 : Int32} {v_5 : Int32} {v_6 : Int32} {v_7 : Int32} (w : ah_o h a_0 11 ∧ X11_hasPicture_C a_0 v_1 h ∧ (((X11_hasPicture_V a_0 v_1 h) = 0 → ex_S yX11_refuse mX11_refuse d [.ref a_0, .int (-2)] h 0 0 (fun r h4 => ∃ x5, r = some (.int x5) ∧ Q (some (.int x5)) h4)) ∧ (¬ (X11_hasPicture_V a_0 v_1 h) = 0 → X11_hasPicture_C a_0 v_4 h ∧ ((¬ (X11_hasPicture_V a_0 v_4 h) = 0 → ∃ a8, ah_r h a_0 0 = some a8 ∧ ld3 h 11 a8 v_1 ∧ ∃ a10, ah_q h a8 (Int32.toNatClampNeg v_1) = some a10 ∧ ld3 h 11 a8 v_4 ∧ ∃ a12, ah_q h a8 (Int32.toNatClampNeg v_4) = some a12 ∧ ah_o h a10 7 ∧ X7_hasCrossing_C a10 v_2 h ∧ (((X7_hasCrossing_V a10 v_2 h) = 0 → ex_S yX11_refuse mX11_refuse d [.ref a_0, .int (-12)] h 0 0 (fun r h16 => ∃ x17, r = some (.int x17) ∧ Q (some (.int x17)) h16)) ∧ (¬ (X7_hasCrossing_V a10 v_2 h) = 0 → ah_o h a12 7 ∧ X7_hasCrossing_C a12 v_5 h ∧ ((¬ (X7_hasCrossing_V a12 v_5 h) = 0 → ∃ a21, ah_r h a10 0 = some a21 ∧ ld0 h a21 v_2 ∧ (((ah_i h a21 (Int32.toNatClampNeg v_2)) < 0 → ex_S yX11_refuse mX11_refuse d [.ref a_0, .int (-11)] h 0 0 (fun r h24 => ∃ x25, r = some (.int x25) ∧ Q (some (.int x25)) h24)) ∧ (¬ (ah_i h a21 (Int32.toNatClampNeg v_2)) < 0 → ∃ a26, ah_r h a12 0 = some a26 ∧ ld0 h a26 v_5 ∧ ((0 ≤ (ah_i h a26 (Int32.toNatClampNeg v_5)) → (((X11_reaches_V (ah_i h a21 (Int32.toNatClampNeg v_2)) v_3 v_7 h) = 0 → ex_S yX11_refuse mX11_refuse d [.ref a_0, .int (-12)] h 0 0 (fun r h30 => ∃ x31, r = some (.int x31) ∧ Q (some (.int x31)) h30)) ∧ (¬ (X11_reaches_V (ah_i h a21 (Int32.toNatClampNeg v_2)) v_3 v_7 h) = 0 → ((¬ (X11_reaches_V (ah_i h a26 (Int32.toNatClampNeg v_5)) v_6 v_7 h) = 0 → X7_forget_C a12 h ∧ ∀ h34, h34 = X7_forget_H a12 h → ah_o h34 a10 7 ∧ ∃ a36, ah_r h34 a10 1 = some a36 ∧ ah_o h34 a12 7 ∧ ∃ a38, ah_r h34 a12 1 = some a38 ∧ cp_ h34 0 a36 a38 ((4 * v_2) + v_3) ((4 * v_5) + v_6) v_7 ∧ ∀ h40, h40 = ah_wi h34 a38 (va_cpy (ah_i h34 a36) (ah_i h34 a38) (Int32.toNatClampNeg ((4 * v_2) + v_3)) (Int32.toNatClampNeg ((4 * v_5) + v_6)) (Int32.toNatClampNeg v_7)) → ah_o h40 a_0 11 ∧ X11_grant_C a_0 1 h40 ∧ ∀ h43, h43 = X11_grant_H a_0 1 h40 → Q (some (.int (X11_grant_V a_0 1 h40))) h43) ∧ ((X11_reaches_V (ah_i h a26 (Int32.toNatClampNeg v_5)) v_6 v_7 h) = 0 → ex_S yX11_refuse mX11_refuse d [.ref a_0, .int (-12)] h 0 0 (fun r h44 => ∃ x45, r = some (.int x45) ∧ Q (some (.int x45)) h44)))))) ∧ (¬ 0 ≤ (ah_i h a26 (Int32.toNatClampNeg v_5)) → ex_S yX11_refuse mX11_refuse d [.ref a_0, .int (-11)] h 0 0 (fun r h46 => ∃ x47, r = some (.int x47) ∧ Q (some (.int x47)) h46)))))) ∧ ((X7_hasCrossing_V a12 v_5 h) = 0 → ex_S yX11_refuse mX11_refuse d [.ref a_0, .int (-12)] h 0 0 (fun r h48 => ∃ x49, r = some (.int x49) ∧ Q (some (.int x49)) h48)))))) ∧ ((X11_hasPicture_V a_0 v_4 h) = 0 → ex_S yX11_refuse mX11_refuse d [.ref a_0, .int (-2)] h 0 0 (fun r h50 => ∃ x51, r = some (.int x51) ∧ Q (some (.int x51)) h50)))))) : ex_G mX11_copy (d + 1) 0 [.ref a_0, .int v_1, .int v_2, .int v_3, .int v_4, .int v_5, .int v_6, .int v_7, .retAddr 0, .retAddr 0] [] h bc bs Q := by
  refine ex_aload_n (q := 1) (x := a_0) dX11_copy_0 rfl ?_
  refine ex_iload_n (q := 2) (x := v_1) dX11_copy_1 rfl ?_
  have s1 := w.1
  replace w := w.2
  have s2 := w.1
  replace w := w.2
  refine ex_callV (q := 5) (M := mX11_copy) (hdd := Nat.le_refl _) (mc := 0) (ms := 0) (d' := d) (c := 11) (st := []) (bc := bc) (bs := bs) dX11_copy_2 rfl cl_X11_134 wd_584 wd_4 s1 (X11_hasPicture_s (Q := fun r z => r = some (.int (X11_hasPicture_V a_0 v_1 h)) ∧ z = h) s2 ⟨rfl, rfl⟩) ?_
  intro r z hrz
  rw [hrz.1, hrz.2]
  show ex_G mX11_copy (d + 1) 5 [.ref a_0, .int v_1, .int v_2, .int v_3, .int v_4, .int v_5, .int v_6, .int v_7, .retAddr 0, .retAddr 0] [.int (X11_hasPicture_V a_0 v_1 h)] (h) bc bs Q
  refine ex_if_eq (tgt := 17) (q := 8) dX11_copy_5 (fun c3 => ?_) (fun c3 => ?_)
  · replace w := w.1 c3
    refine ex_aload_n (q := 18) (x := a_0) dX11_copy_17 rfl ?_
    refine ex_bipush (q := 20) (v := (-2)) dX11_copy_18 (by decide) ?_
    refine ex_callV (q := 23) (M := mX11_copy) (hdd := Nat.le_refl _) (c := 11) (st := []) (bc := bc) (bs := bs) dX11_copy_20 rfl cl_X11_120 wd_557 wd_1 s1 w ?_
    rintro r h4 ⟨x5, rfl, w⟩
    show ex_G mX11_copy (d + 1) 23 [.ref a_0, .int v_1, .int v_2, .int v_3, .int v_4, .int v_5, .int v_6, .int v_7, .retAddr 0, .retAddr 0] [.int x5] h4 bc bs Q
    exact ex_ireturn dX11_copy_23 rfl (Or.inl rfl) w
  · replace w := w.2 c3
    refine ex_aload_n (q := 9) (x := a_0) dX11_copy_8 rfl ?_
    refine ex_iload (q := 11) (x := v_4) dX11_copy_9 rfl ?_
    have s6 := w.1
    replace w := w.2
    refine ex_callV (q := 14) (M := mX11_copy) (hdd := Nat.le_refl _) (mc := 0) (ms := 0) (d' := d) (c := 11) (st := []) (bc := bc) (bs := bs) dX11_copy_11 rfl cl_X11_134 wd_584 wd_4 s1 (X11_hasPicture_s (Q := fun r z => r = some (.int (X11_hasPicture_V a_0 v_4 h)) ∧ z = h) s6 ⟨rfl, rfl⟩) ?_
    intro r z hrz
    rw [hrz.1, hrz.2]
    show ex_G mX11_copy (d + 1) 14 [.ref a_0, .int v_1, .int v_2, .int v_3, .int v_4, .int v_5, .int v_6, .int v_7, .retAddr 0, .retAddr 0] [.int (X11_hasPicture_V a_0 v_4 h)] (h) bc bs Q
    refine ex_if_ne (tgt := 24) (q := 17) dX11_copy_14 (fun c7 => ?_) (fun c7 => ?_)
    · replace w := w.1 c7
      refine ex_aload_n (q := 25) (x := a_0) dX11_copy_24 rfl ?_
      obtain ⟨a8, ea8, w⟩ := w
      refine ex_getr (q := 28) dX11_copy_25 fl_X11_11 s1 ea8 ?_
      refine ex_iload_n (q := 29) (x := v_1) dX11_copy_28 rfl ?_
      have s9 := w.1
      replace w := w.2
      obtain ⟨a10, ea10, w⟩ := w
      refine ex_aald (q := 30) dX11_copy_29 s9 ea10 ?_
      refine ex_astore (q := 32) (ls' := [.ref a_0, .int v_1, .int v_2, .int v_3, .int v_4, .int v_5, .int v_6, .int v_7, .ref a10, .retAddr 0]) dX11_copy_30 rfl ?_
      refine ex_aload_n (q := 33) (x := a_0) dX11_copy_32 rfl ?_
      refine ex_getr (q := 36) dX11_copy_33 fl_X11_11 s1 ea8 ?_
      refine ex_iload (q := 38) (x := v_4) dX11_copy_36 rfl ?_
      have s11 := w.1
      replace w := w.2
      obtain ⟨a12, ea12, w⟩ := w
      refine ex_aald (q := 39) dX11_copy_38 s11 ea12 ?_
      refine ex_astore (q := 41) (ls' := [.ref a_0, .int v_1, .int v_2, .int v_3, .int v_4, .int v_5, .int v_6, .int v_7, .ref a10, .ref a12]) dX11_copy_39 rfl ?_
      refine ex_aload (q := 43) (x := a10) dX11_copy_41 rfl ?_
      refine ex_iload_n (q := 44) (x := v_2) dX11_copy_43 rfl ?_
      have s13 := w.1
      replace w := w.2
      have s14 := w.1
      replace w := w.2
      refine ex_callV (q := 47) (M := mX11_copy) (hdd := Nat.le_refl _) (mc := 0) (ms := 0) (d' := d) (c := 7) (st := []) (bc := bc) (bs := bs) dX11_copy_44 rfl cl_X11_151 wd_602 wd_603 s13 (X7_hasCrossing_s (Q := fun r z => r = some (.int (X7_hasCrossing_V a10 v_2 h)) ∧ z = h) s14 ⟨rfl, rfl⟩) ?_
      intro r z hrz
      rw [hrz.1, hrz.2]
      show ex_G mX11_copy (d + 1) 47 [.ref a_0, .int v_1, .int v_2, .int v_3, .int v_4, .int v_5, .int v_6, .int v_7, .ref a10, .ref a12] [.int (X7_hasCrossing_V a10 v_2 h)] (h) bc bs Q
      refine ex_if_eq (tgt := 60) (q := 50) dX11_copy_47 (fun c15 => ?_) (fun c15 => ?_)
      · replace w := w.1 c15
        refine ex_aload_n (q := 61) (x := a_0) dX11_copy_60 rfl ?_
        refine ex_bipush (q := 63) (v := (-12)) dX11_copy_61 (by decide) ?_
        refine ex_callV (q := 66) (M := mX11_copy) (hdd := Nat.le_refl _) (c := 11) (st := []) (bc := bc) (bs := bs) dX11_copy_63 rfl cl_X11_120 wd_557 wd_1 s1 w ?_
        rintro r h16 ⟨x17, rfl, w⟩
        show ex_G mX11_copy (d + 1) 66 [.ref a_0, .int v_1, .int v_2, .int v_3, .int v_4, .int v_5, .int v_6, .int v_7, .ref a10, .ref a12] [.int x17] h16 bc bs Q
        exact ex_ireturn dX11_copy_66 rfl (Or.inl rfl) w
      · replace w := w.2 c15
        refine ex_aload (q := 52) (x := a12) dX11_copy_50 rfl ?_
        refine ex_iload (q := 54) (x := v_5) dX11_copy_52 rfl ?_
        have s18 := w.1
        replace w := w.2
        have s19 := w.1
        replace w := w.2
        refine ex_callV (q := 57) (M := mX11_copy) (hdd := Nat.le_refl _) (mc := 0) (ms := 0) (d' := d) (c := 7) (st := []) (bc := bc) (bs := bs) dX11_copy_54 rfl cl_X11_151 wd_602 wd_603 s18 (X7_hasCrossing_s (Q := fun r z => r = some (.int (X7_hasCrossing_V a12 v_5 h)) ∧ z = h) s19 ⟨rfl, rfl⟩) ?_
        intro r z hrz
        rw [hrz.1, hrz.2]
        show ex_G mX11_copy (d + 1) 57 [.ref a_0, .int v_1, .int v_2, .int v_3, .int v_4, .int v_5, .int v_6, .int v_7, .ref a10, .ref a12] [.int (X7_hasCrossing_V a12 v_5 h)] (h) bc bs Q
        refine ex_if_ne (tgt := 67) (q := 60) dX11_copy_57 (fun c20 => ?_) (fun c20 => ?_)
        · replace w := w.1 c20
          refine ex_aload (q := 69) (x := a10) dX11_copy_67 rfl ?_
          obtain ⟨a21, ea21, w⟩ := w
          refine ex_getr (q := 72) dX11_copy_69 fl_X11_158 s13 ea21 ?_
          refine ex_iload_n (q := 73) (x := v_2) dX11_copy_72 rfl ?_
          have s22 := w.1
          replace w := w.2
          refine ex_iald (q := 74) dX11_copy_73 s22 ?_
          refine ex_if_lt (tgt := 88) (q := 77) dX11_copy_74 (fun c23 => ?_) (fun c23 => ?_)
          · replace w := w.1 c23
            refine ex_aload_n (q := 89) (x := a_0) dX11_copy_88 rfl ?_
            refine ex_bipush (q := 91) (v := (-11)) dX11_copy_89 (by decide) ?_
            refine ex_callV (q := 94) (M := mX11_copy) (hdd := Nat.le_refl _) (c := 11) (st := []) (bc := bc) (bs := bs) dX11_copy_91 rfl cl_X11_120 wd_557 wd_1 s1 w ?_
            rintro r h24 ⟨x25, rfl, w⟩
            show ex_G mX11_copy (d + 1) 94 [.ref a_0, .int v_1, .int v_2, .int v_3, .int v_4, .int v_5, .int v_6, .int v_7, .ref a10, .ref a12] [.int x25] h24 bc bs Q
            exact ex_ireturn dX11_copy_94 rfl (Or.inl rfl) w
          · replace w := w.2 c23
            refine ex_aload (q := 79) (x := a12) dX11_copy_77 rfl ?_
            obtain ⟨a26, ea26, w⟩ := w
            refine ex_getr (q := 82) dX11_copy_79 fl_X11_158 s18 ea26 ?_
            refine ex_iload (q := 84) (x := v_5) dX11_copy_82 rfl ?_
            have s27 := w.1
            replace w := w.2
            refine ex_iald (q := 85) dX11_copy_84 s27 ?_
            refine ex_if_ge (tgt := 95) (q := 88) dX11_copy_85 (fun c28 => ?_) (fun c28 => ?_)
            · replace w := w.1 c28
              refine ex_aload (q := 97) (x := a10) dX11_copy_95 rfl ?_
              refine ex_getr (q := 100) dX11_copy_97 fl_X11_158 s13 ea21 ?_
              refine ex_iload_n (q := 101) (x := v_2) dX11_copy_100 rfl ?_
              refine ex_iald (q := 102) dX11_copy_101 s22 ?_
              refine ex_iload_n (q := 103) (x := v_3) dX11_copy_102 rfl ?_
              refine ex_iload (q := 105) (x := v_7) dX11_copy_103 rfl ?_
              refine ex_callS (q := 108) (M := mX11_copy) (hdd := Nat.le_refl _) (mc := 0) (ms := 0) (d' := d) (st := []) (bc := bc) (bs := bs) dX11_copy_105 rfl cl_X11_168 wd_626 (X11_reaches_s (Q := fun r z => r = some (.int (X11_reaches_V (ah_i h a21 (Int32.toNatClampNeg v_2)) v_3 v_7 h)) ∧ z = h) ⟨rfl, rfl⟩) ?_
              intro r z hrz
              rw [hrz.1, hrz.2]
              show ex_G mX11_copy (d + 1) 108 [.ref a_0, .int v_1, .int v_2, .int v_3, .int v_4, .int v_5, .int v_6, .int v_7, .ref a10, .ref a12] [.int (X11_reaches_V (ah_i h a21 (Int32.toNatClampNeg v_2)) v_3 v_7 h)] (h) bc bs Q
              refine ex_if_eq (tgt := 129) (q := 111) dX11_copy_108 (fun c29 => ?_) (fun c29 => ?_)
              · replace w := w.1 c29
                refine ex_aload_n (q := 130) (x := a_0) dX11_copy_129 rfl ?_
                refine ex_bipush (q := 132) (v := (-12)) dX11_copy_130 (by decide) ?_
                refine ex_callV (q := 135) (M := mX11_copy) (hdd := Nat.le_refl _) (c := 11) (st := []) (bc := bc) (bs := bs) dX11_copy_132 rfl cl_X11_120 wd_557 wd_1 s1 w ?_
                rintro r h30 ⟨x31, rfl, w⟩
                show ex_G mX11_copy (d + 1) 135 [.ref a_0, .int v_1, .int v_2, .int v_3, .int v_4, .int v_5, .int v_6, .int v_7, .ref a10, .ref a12] [.int x31] h30 bc bs Q
                exact ex_ireturn dX11_copy_135 rfl (Or.inl rfl) w
              · replace w := w.2 c29
                refine ex_aload (q := 113) (x := a12) dX11_copy_111 rfl ?_
                refine ex_getr (q := 116) dX11_copy_113 fl_X11_158 s18 ea26 ?_
                refine ex_iload (q := 118) (x := v_5) dX11_copy_116 rfl ?_
                refine ex_iald (q := 119) dX11_copy_118 s27 ?_
                refine ex_iload (q := 121) (x := v_6) dX11_copy_119 rfl ?_
                refine ex_iload (q := 123) (x := v_7) dX11_copy_121 rfl ?_
                refine ex_callS (q := 126) (M := mX11_copy) (hdd := Nat.le_refl _) (mc := 0) (ms := 0) (d' := d) (st := []) (bc := bc) (bs := bs) dX11_copy_123 rfl cl_X11_168 wd_626 (X11_reaches_s (Q := fun r z => r = some (.int (X11_reaches_V (ah_i h a26 (Int32.toNatClampNeg v_5)) v_6 v_7 h)) ∧ z = h) ⟨rfl, rfl⟩) ?_
                intro r z hrz
                rw [hrz.1, hrz.2]
                show ex_G mX11_copy (d + 1) 126 [.ref a_0, .int v_1, .int v_2, .int v_3, .int v_4, .int v_5, .int v_6, .int v_7, .ref a10, .ref a12] [.int (X11_reaches_V (ah_i h a26 (Int32.toNatClampNeg v_5)) v_6 v_7 h)] (h) bc bs Q
                refine ex_if_ne (tgt := 136) (q := 129) dX11_copy_126 (fun c32 => ?_) (fun c32 => ?_)
                · replace w := w.1 c32
                  refine ex_aload (q := 138) (x := a12) dX11_copy_136 rfl ?_
                  have s33 := w.1
                  replace w := w.2
                  refine ex_callV (q := 141) (M := mX11_copy) (hdd := Nat.le_refl _) (mc := 0) (ms := 0) (d' := d) (c := 7) (st := []) (bc := bc) (bs := bs) dX11_copy_138 rfl cl_X11_144 wd_590 wd_591 s18 (X7_forget_s (Q := fun r z => r = none ∧ z = X7_forget_H a12 h) s33 ⟨rfl, rfl⟩) ?_
                  intro r z hrz
                  rw [hrz.1, hrz.2]
                  show ex_G mX11_copy (d + 1) 141 [.ref a_0, .int v_1, .int v_2, .int v_3, .int v_4, .int v_5, .int v_6, .int v_7, .ref a10, .ref a12] [] (X7_forget_H a12 h) bc bs Q
                  refine ex_nmh (fun h34 eh34 => ?_)
                  replace w := w h34 eh34
                  refine ex_aload (q := 143) (x := a10) dX11_copy_141 rfl ?_
                  have s35 := w.1
                  replace w := w.2
                  obtain ⟨a36, ea36, w⟩ := w
                  refine ex_getr (q := 146) dX11_copy_143 fl_X11_165 s35 ea36 ?_
                  refine ex_iconst (q := 147) (v := 4) dX11_copy_146 (by decide) ?_
                  refine ex_iload_n (q := 148) (x := v_2) dX11_copy_147 rfl ?_
                  refine ex_imul (q := 149) dX11_copy_148 ?_
                  refine ex_iload_n (q := 150) (x := v_3) dX11_copy_149 rfl ?_
                  refine ex_iadd (q := 151) dX11_copy_150 ?_
                  refine ex_aload (q := 153) (x := a12) dX11_copy_151 rfl ?_
                  have s37 := w.1
                  replace w := w.2
                  obtain ⟨a38, ea38, w⟩ := w
                  refine ex_getr (q := 156) dX11_copy_153 fl_X11_165 s37 ea38 ?_
                  refine ex_iconst (q := 157) (v := 4) dX11_copy_156 (by decide) ?_
                  refine ex_iload (q := 159) (x := v_5) dX11_copy_157 rfl ?_
                  refine ex_imul (q := 160) dX11_copy_159 ?_
                  refine ex_iload (q := 162) (x := v_6) dX11_copy_160 rfl ?_
                  refine ex_iadd (q := 163) dX11_copy_162 ?_
                  refine ex_iload (q := 165) (x := v_7) dX11_copy_163 rfl ?_
                  have s39 := w.1
                  replace w := w.2
                  refine ex_copyip (q := 168) (hd1 := Nat.succ_le_succ (Nat.zero_le _)) dX11_copy_165 wd_628 s39 ?_
                  refine ex_nmh (fun h40 eh40 => ?_)
                  replace w := w h40 eh40
                  refine ex_aload_n (q := 169) (x := a_0) dX11_copy_168 rfl ?_
                  refine ex_iconst (q := 170) (v := 1) dX11_copy_169 (by decide) ?_
                  have s41 := w.1
                  replace w := w.2
                  have s42 := w.1
                  replace w := w.2
                  refine ex_callV (q := 173) (M := mX11_copy) (hdd := Nat.le_refl _) (mc := 0) (ms := 0) (d' := d) (c := 11) (st := []) (bc := bc) (bs := bs) dX11_copy_170 rfl cl_X11_131 wd_576 wd_3 s41 (X11_grant_s (Q := fun r z => r = some (.int (X11_grant_V a_0 1 h40)) ∧ z = X11_grant_H a_0 1 h40) s42 ⟨rfl, rfl⟩) ?_
                  intro r z hrz
                  rw [hrz.1, hrz.2]
                  show ex_G mX11_copy (d + 1) 173 [.ref a_0, .int v_1, .int v_2, .int v_3, .int v_4, .int v_5, .int v_6, .int v_7, .ref a10, .ref a12] [.int (X11_grant_V a_0 1 h40)] (X11_grant_H a_0 1 h40) bc bs Q
                  refine ex_nmh (fun h43 eh43 => ?_)
                  replace w := w h43 eh43
                  exact ex_ireturn dX11_copy_173 rfl (Or.inl rfl) w
                · replace w := w.2 c32
                  refine ex_aload_n (q := 130) (x := a_0) dX11_copy_129 rfl ?_
                  refine ex_bipush (q := 132) (v := (-12)) dX11_copy_130 (by decide) ?_
                  refine ex_callV (q := 135) (M := mX11_copy) (hdd := Nat.le_refl _) (c := 11) (st := []) (bc := bc) (bs := bs) dX11_copy_132 rfl cl_X11_120 wd_557 wd_1 s1 w ?_
                  rintro r h44 ⟨x45, rfl, w⟩
                  show ex_G mX11_copy (d + 1) 135 [.ref a_0, .int v_1, .int v_2, .int v_3, .int v_4, .int v_5, .int v_6, .int v_7, .ref a10, .ref a12] [.int x45] h44 bc bs Q
                  exact ex_ireturn dX11_copy_135 rfl (Or.inl rfl) w
            · replace w := w.2 c28
              refine ex_aload_n (q := 89) (x := a_0) dX11_copy_88 rfl ?_
              refine ex_bipush (q := 91) (v := (-11)) dX11_copy_89 (by decide) ?_
              refine ex_callV (q := 94) (M := mX11_copy) (hdd := Nat.le_refl _) (c := 11) (st := []) (bc := bc) (bs := bs) dX11_copy_91 rfl cl_X11_120 wd_557 wd_1 s1 w ?_
              rintro r h46 ⟨x47, rfl, w⟩
              show ex_G mX11_copy (d + 1) 94 [.ref a_0, .int v_1, .int v_2, .int v_3, .int v_4, .int v_5, .int v_6, .int v_7, .ref a10, .ref a12] [.int x47] h46 bc bs Q
              exact ex_ireturn dX11_copy_94 rfl (Or.inl rfl) w
        · replace w := w.2 c20
          refine ex_aload_n (q := 61) (x := a_0) dX11_copy_60 rfl ?_
          refine ex_bipush (q := 63) (v := (-12)) dX11_copy_61 (by decide) ?_
          refine ex_callV (q := 66) (M := mX11_copy) (hdd := Nat.le_refl _) (c := 11) (st := []) (bc := bc) (bs := bs) dX11_copy_63 rfl cl_X11_120 wd_557 wd_1 s1 w ?_
          rintro r h48 ⟨x49, rfl, w⟩
          show ex_G mX11_copy (d + 1) 66 [.ref a_0, .int v_1, .int v_2, .int v_3, .int v_4, .int v_5, .int v_6, .int v_7, .ref a10, .ref a12] [.int x49] h48 bc bs Q
          exact ex_ireturn dX11_copy_66 rfl (Or.inl rfl) w
    · replace w := w.2 c7
      refine ex_aload_n (q := 18) (x := a_0) dX11_copy_17 rfl ?_
      refine ex_bipush (q := 20) (v := (-2)) dX11_copy_18 (by decide) ?_
      refine ex_callV (q := 23) (M := mX11_copy) (hdd := Nat.le_refl _) (c := 11) (st := []) (bc := bc) (bs := bs) dX11_copy_20 rfl cl_X11_120 wd_557 wd_1 s1 w ?_
      rintro r h50 ⟨x51, rfl, w⟩
      show ex_G mX11_copy (d + 1) 23 [.ref a_0, .int v_1, .int v_2, .int v_3, .int v_4, .int v_5, .int v_6, .int v_7, .retAddr 0, .retAddr 0] [.int x51] h50 bc bs Q
      exact ex_ireturn dX11_copy_23 rfl (Or.inl rfl) w

theorem X11_copy_e {d bc bs : Nat} {h : AH} {Q : Option Value → AH → Prop} {a_0 : Nat} {v_1 : Int32} {v_2 : Int32} {v_3 : Int32} {v_4 : Int32} {v_5 : Int32} {v_6 : Int32} {v_7 : Int32} (w : ex_G mX11_copy (d + 1) 0 [.ref a_0, .int v_1, .int v_2, .int v_3, .int v_4, .int v_5, .int v_6, .int v_7, .retAddr 0, .retAddr 0] [] h bc bs Q) : ex_S yX11_copy mX11_copy (d + 1) [.ref a_0, .int v_1, .int v_2, .int v_3, .int v_4, .int v_5, .int v_6, .int v_7] h bc bs Q :=
  ex_enter (plainFor_of_name (by decide +kernel)) ⟨rfl, rfl⟩ rfl rfl (Nat.le_of_ble_eq_true rfl) (ex_pad 2 w)

set_option maxRecDepth 100000 in
theorem X11_loose_0 {d bc bs : Nat} {h : AH} {Q : Option Value → AH → Prop} {a_0 : Nat} {v_1 : Int32} {v_2 : Int32} (w : ah_o h a_0 11 ∧ X11_hasPicture_C a_0 v_1 h ∧ (((X11_hasPicture_V a_0 v_1 h) = 0 → ex_S yX11_refuse mX11_refuse d [.ref a_0, .int (-2)] h 0 0 (fun r h4 => ∃ x5, r = some (.int x5) ∧ Q (some (.int x5)) h4)) ∧ (¬ (X11_hasPicture_V a_0 v_1 h) = 0 → ((v_2 < 0 → ex_S yX11_refuse mX11_refuse d [.ref a_0, .int (-2)] h 0 0 (fun r h7 => ∃ x8, r = some (.int x8) ∧ Q (some (.int x8)) h7)) ∧ (¬ v_2 < 0 → ((v_2 ≤ 9 → ∃ a10, ah_r h a_0 0 = some a10 ∧ ld3 h 11 a10 v_1 ∧ ∃ a12, ah_q h a10 (Int32.toNatClampNeg v_1) = some a12 ∧ ah_o h a12 7 ∧ ∀ x14, x14 = ah_f h a12 3 → X7_forget_C a12 h ∧ ∀ h16, h16 = X7_forget_H a12 h → ah_o h16 a12 7 ∧ ∀ h18, h18 = ah_sf h16 a12 3 v_2 → ah_o h18 a_0 11 ∧ X11_grant_C a_0 x14 h18 ∧ ∀ h21, h21 = X11_grant_H a_0 x14 h18 → Q (some (.int (X11_grant_V a_0 x14 h18))) h21) ∧ (¬ v_2 ≤ 9 → ex_S yX11_refuse mX11_refuse d [.ref a_0, .int (-2)] h 0 0 (fun r h22 => ∃ x23, r = some (.int x23) ∧ Q (some (.int x23)) h22)))))))) : ex_G mX11_loose (d + 1) 0 [.ref a_0, .int v_1, .int v_2, .retAddr 0, .retAddr 0] [] h bc bs Q := by
  refine ex_aload_n (q := 1) (x := a_0) dX11_loose_0 rfl ?_
  refine ex_iload_n (q := 2) (x := v_1) dX11_loose_1 rfl ?_
  have s1 := w.1
  replace w := w.2
  have s2 := w.1
  replace w := w.2
  refine ex_callV (q := 5) (M := mX11_loose) (hdd := Nat.le_refl _) (mc := 0) (ms := 0) (d' := d) (c := 11) (st := []) (bc := bc) (bs := bs) dX11_loose_2 rfl cl_X11_134 wd_584 wd_4 s1 (X11_hasPicture_s (Q := fun r z => r = some (.int (X11_hasPicture_V a_0 v_1 h)) ∧ z = h) s2 ⟨rfl, rfl⟩) ?_
  intro r z hrz
  rw [hrz.1, hrz.2]
  show ex_G mX11_loose (d + 1) 5 [.ref a_0, .int v_1, .int v_2, .retAddr 0, .retAddr 0] [.int (X11_hasPicture_V a_0 v_1 h)] (h) bc bs Q
  refine ex_if_eq (tgt := 18) (q := 8) dX11_loose_5 (fun c3 => ?_) (fun c3 => ?_)
  · replace w := w.1 c3
    refine ex_aload_n (q := 19) (x := a_0) dX11_loose_18 rfl ?_
    refine ex_bipush (q := 21) (v := (-2)) dX11_loose_19 (by decide) ?_
    refine ex_callV (q := 24) (M := mX11_loose) (hdd := Nat.le_refl _) (c := 11) (st := []) (bc := bc) (bs := bs) dX11_loose_21 rfl cl_X11_120 wd_557 wd_1 s1 w ?_
    rintro r h4 ⟨x5, rfl, w⟩
    show ex_G mX11_loose (d + 1) 24 [.ref a_0, .int v_1, .int v_2, .retAddr 0, .retAddr 0] [.int x5] h4 bc bs Q
    exact ex_ireturn dX11_loose_24 rfl (Or.inl rfl) w
  · replace w := w.2 c3
    refine ex_iload_n (q := 9) (x := v_2) dX11_loose_8 rfl ?_
    refine ex_if_lt (tgt := 18) (q := 12) dX11_loose_9 (fun c6 => ?_) (fun c6 => ?_)
    · replace w := w.1 c6
      refine ex_aload_n (q := 19) (x := a_0) dX11_loose_18 rfl ?_
      refine ex_bipush (q := 21) (v := (-2)) dX11_loose_19 (by decide) ?_
      refine ex_callV (q := 24) (M := mX11_loose) (hdd := Nat.le_refl _) (c := 11) (st := []) (bc := bc) (bs := bs) dX11_loose_21 rfl cl_X11_120 wd_557 wd_1 s1 w ?_
      rintro r h7 ⟨x8, rfl, w⟩
      show ex_G mX11_loose (d + 1) 24 [.ref a_0, .int v_1, .int v_2, .retAddr 0, .retAddr 0] [.int x8] h7 bc bs Q
      exact ex_ireturn dX11_loose_24 rfl (Or.inl rfl) w
    · replace w := w.2 c6
      refine ex_iload_n (q := 13) (x := v_2) dX11_loose_12 rfl ?_
      refine ex_bipush (q := 15) (v := 9) dX11_loose_13 (by decide) ?_
      refine ex_icmp_le (tgt := 25) (q := 18) dX11_loose_15 (fun c9 => ?_) (fun c9 => ?_)
      · replace w := w.1 c9
        refine ex_aload_n (q := 26) (x := a_0) dX11_loose_25 rfl ?_
        obtain ⟨a10, ea10, w⟩ := w
        refine ex_getr (q := 29) dX11_loose_26 fl_X11_11 s1 ea10 ?_
        refine ex_iload_n (q := 30) (x := v_1) dX11_loose_29 rfl ?_
        have s11 := w.1
        replace w := w.2
        obtain ⟨a12, ea12, w⟩ := w
        refine ex_aald (q := 31) dX11_loose_30 s11 ea12 ?_
        refine ex_astore_n (q := 32) (ls' := [.ref a_0, .int v_1, .int v_2, .ref a12, .retAddr 0]) dX11_loose_31 rfl ?_
        refine ex_aload_n (q := 33) (x := a12) dX11_loose_32 rfl ?_
        have s13 := w.1
        replace w := w.2
        refine ex_getf (q := 36) dX11_loose_33 fl_X11_178 s13 ?_
        refine ex_nmi (fun x14 ex14 => ?_)
        replace w := w x14 ex14
        refine ex_istore (q := 38) (ls' := [.ref a_0, .int v_1, .int v_2, .ref a12, .int x14]) dX11_loose_36 rfl ?_
        refine ex_aload_n (q := 39) (x := a12) dX11_loose_38 rfl ?_
        have s15 := w.1
        replace w := w.2
        refine ex_callV (q := 42) (M := mX11_loose) (hdd := Nat.le_refl _) (mc := 0) (ms := 0) (d' := d) (c := 7) (st := []) (bc := bc) (bs := bs) dX11_loose_39 rfl cl_X11_144 wd_590 wd_591 s13 (X7_forget_s (Q := fun r z => r = none ∧ z = X7_forget_H a12 h) s15 ⟨rfl, rfl⟩) ?_
        intro r z hrz
        rw [hrz.1, hrz.2]
        show ex_G mX11_loose (d + 1) 42 [.ref a_0, .int v_1, .int v_2, .ref a12, .int x14] [] (X7_forget_H a12 h) bc bs Q
        refine ex_nmh (fun h16 eh16 => ?_)
        replace w := w h16 eh16
        refine ex_aload_n (q := 43) (x := a12) dX11_loose_42 rfl ?_
        refine ex_iload_n (q := 44) (x := v_2) dX11_loose_43 rfl ?_
        have s17 := w.1
        replace w := w.2
        refine ex_putf (q := 47) dX11_loose_44 fl_X11_178 (Or.inl rfl) s17 (Or.inl rfl) ?_
        refine ex_nmh (fun h18 eh18 => ?_)
        replace w := w h18 eh18
        refine ex_aload_n (q := 48) (x := a_0) dX11_loose_47 rfl ?_
        refine ex_iload (q := 50) (x := x14) dX11_loose_48 rfl ?_
        have s19 := w.1
        replace w := w.2
        have s20 := w.1
        replace w := w.2
        refine ex_callV (q := 53) (M := mX11_loose) (hdd := Nat.le_refl _) (mc := 0) (ms := 0) (d' := d) (c := 11) (st := []) (bc := bc) (bs := bs) dX11_loose_50 rfl cl_X11_131 wd_576 wd_3 s19 (X11_grant_s (Q := fun r z => r = some (.int (X11_grant_V a_0 x14 h18)) ∧ z = X11_grant_H a_0 x14 h18) s20 ⟨rfl, rfl⟩) ?_
        intro r z hrz
        rw [hrz.1, hrz.2]
        show ex_G mX11_loose (d + 1) 53 [.ref a_0, .int v_1, .int v_2, .ref a12, .int x14] [.int (X11_grant_V a_0 x14 h18)] (X11_grant_H a_0 x14 h18) bc bs Q
        refine ex_nmh (fun h21 eh21 => ?_)
        replace w := w h21 eh21
        exact ex_ireturn dX11_loose_53 rfl (Or.inl rfl) w
      · replace w := w.2 c9
        refine ex_aload_n (q := 19) (x := a_0) dX11_loose_18 rfl ?_
        refine ex_bipush (q := 21) (v := (-2)) dX11_loose_19 (by decide) ?_
        refine ex_callV (q := 24) (M := mX11_loose) (hdd := Nat.le_refl _) (c := 11) (st := []) (bc := bc) (bs := bs) dX11_loose_21 rfl cl_X11_120 wd_557 wd_1 s1 w ?_
        rintro r h22 ⟨x23, rfl, w⟩
        show ex_G mX11_loose (d + 1) 24 [.ref a_0, .int v_1, .int v_2, .retAddr 0, .retAddr 0] [.int x23] h22 bc bs Q
        exact ex_ireturn dX11_loose_24 rfl (Or.inl rfl) w

theorem X11_loose_e {d bc bs : Nat} {h : AH} {Q : Option Value → AH → Prop} {a_0 : Nat} {v_1 : Int32} {v_2 : Int32} (w : ex_G mX11_loose (d + 1) 0 [.ref a_0, .int v_1, .int v_2, .retAddr 0, .retAddr 0] [] h bc bs Q) : ex_S yX11_loose mX11_loose (d + 1) [.ref a_0, .int v_1, .int v_2] h bc bs Q :=
  ex_enter (plainFor_of_name (by decide +kernel)) ⟨rfl, rfl⟩ rfl rfl (Nat.le_of_ble_eq_true rfl) (ex_pad 2 w)

set_option maxRecDepth 100000 in
theorem X11_open_0 {d bc bs : Nat} {h : AH} {Q : Option Value → AH → Prop} {a_0 : Nat} {v_1 : Int32} (w : ah_o h a_0 11 ∧ X11_hasPicture_C a_0 v_1 h ∧ ((¬ (X11_hasPicture_V a_0 v_1 h) = 0 → ∃ a4, ah_r h a_0 4 = some a4 ∧ ∃ a5, ah_r h a_0 0 = some a5 ∧ ld3 h 11 a5 v_1 ∧ ∃ a7, ah_q h a5 (Int32.toNatClampNeg v_1) = some a7 ∧ ah_o h a4 4 ∧ ex_S yX4_survey mX4_survey (d + 3) [.ref a4, .ref a7] h 0 0 (fun r h8 => r = none ∧ ah_o h8 a_0 11 ∧ ∃ a11, ah_r h8 a_0 4 = some a11 ∧ ah_o h8 a11 4 ∧ ∀ h13, h13 = ah_sf h8 a_0 17 (ah_f h8 a11 17) → X11_grant_C a_0 (ah_f h13 a11 16) h13 ∧ ∀ h15, h15 = X11_grant_H a_0 (ah_f h13 a11 16) h13 → Q (some (.int (X11_grant_V a_0 (ah_f h13 a11 16) h13))) h15)) ∧ ((X11_hasPicture_V a_0 v_1 h) = 0 → ex_S yX11_refuse mX11_refuse (d + 3) [.ref a_0, .int (-2)] h 0 0 (fun r h16 => ∃ x17, r = some (.int x17) ∧ Q (some (.int x17)) h16)))) : ex_G mX11_open (d + 4) 0 [.ref a_0, .int v_1] [] h bc bs Q := by
  refine ex_aload_n (q := 1) (x := a_0) dX11_open_0 rfl ?_
  refine ex_iload_n (q := 2) (x := v_1) dX11_open_1 rfl ?_
  have s1 := w.1
  replace w := w.2
  have s2 := w.1
  replace w := w.2
  refine ex_callV (q := 5) (M := mX11_open) (hdd := Nat.le_refl _) (mc := 0) (ms := 0) (d' := (d + 3)) (c := 11) (st := []) (bc := bc) (bs := bs) dX11_open_2 rfl cl_X11_134 wd_584 wd_4 s1 (X11_hasPicture_s (Q := fun r z => r = some (.int (X11_hasPicture_V a_0 v_1 h)) ∧ z = h) s2 ⟨rfl, rfl⟩) ?_
  intro r z hrz
  rw [hrz.1, hrz.2]
  show ex_G mX11_open (d + 4) 5 [.ref a_0, .int v_1] [.int (X11_hasPicture_V a_0 v_1 h)] (h) bc bs Q
  refine ex_if_ne (tgt := 15) (q := 8) dX11_open_5 (fun c3 => ?_) (fun c3 => ?_)
  · replace w := w.1 c3
    refine ex_aload_n (q := 16) (x := a_0) dX11_open_15 rfl ?_
    obtain ⟨a4, ea4, w⟩ := w
    refine ex_getr (q := 19) dX11_open_16 fl_X11_36 s1 ea4 ?_
    refine ex_aload_n (q := 20) (x := a_0) dX11_open_19 rfl ?_
    obtain ⟨a5, ea5, w⟩ := w
    refine ex_getr (q := 23) dX11_open_20 fl_X11_11 s1 ea5 ?_
    refine ex_iload_n (q := 24) (x := v_1) dX11_open_23 rfl ?_
    have s6 := w.1
    replace w := w.2
    obtain ⟨a7, ea7, w⟩ := w
    refine ex_aald (q := 25) dX11_open_24 s6 ea7 ?_
    have s9 := w.1
    replace w := w.2
    refine ex_callV (q := 28) (M := mX11_open) (hdd := Nat.le_refl _) (c := 4) (st := []) (bc := bc) (bs := bs) dX11_open_25 rfl cl_X11_103 wd_638 wd_639 s9 w ?_
    rintro r h8 ⟨rfl, w⟩
    show ex_G mX11_open (d + 4) 28 [.ref a_0, .int v_1] [] h8 bc bs Q
    refine ex_aload_n (q := 29) (x := a_0) dX11_open_28 rfl ?_
    refine ex_aload_n (q := 30) (x := a_0) dX11_open_29 rfl ?_
    have s10 := w.1
    replace w := w.2
    obtain ⟨a11, ea11, w⟩ := w
    refine ex_getr (q := 33) dX11_open_30 fl_X11_36 s10 ea11 ?_
    have s12 := w.1
    replace w := w.2
    refine ex_getf (q := 36) dX11_open_33 fl_X11_181 s12 ?_
    refine ex_putf (q := 39) dX11_open_36 fl_X11_93 (Or.inl rfl) s10 (Or.inl rfl) ?_
    refine ex_nmh (fun h13 eh13 => ?_)
    replace w := w h13 eh13
    refine ex_aload_n (q := 40) (x := a_0) dX11_open_39 rfl ?_
    refine ex_aload_n (q := 41) (x := a_0) dX11_open_40 rfl ?_
    refine ex_getr (q := 44) dX11_open_41 fl_X11_36 (by rw [eh13]; exact s10) (by rw [eh13]; exact ea11) ?_
    refine ex_getf (q := 47) dX11_open_44 fl_X11_107 (by rw [eh13]; exact s12) ?_
    have s14 := w.1
    replace w := w.2
    refine ex_callV (q := 50) (M := mX11_open) (hdd := Nat.le_refl _) (mc := 0) (ms := 0) (d' := (d + 3)) (c := 11) (st := []) (bc := bc) (bs := bs) dX11_open_47 rfl cl_X11_131 wd_576 wd_3 (by rw [eh13]; exact s10) (X11_grant_s (Q := fun r z => r = some (.int (X11_grant_V a_0 (ah_f h13 a11 16) h13)) ∧ z = X11_grant_H a_0 (ah_f h13 a11 16) h13) s14 ⟨rfl, rfl⟩) ?_
    intro r z hrz
    rw [hrz.1, hrz.2]
    show ex_G mX11_open (d + 4) 50 [.ref a_0, .int v_1] [.int (X11_grant_V a_0 (ah_f h13 a11 16) h13)] (X11_grant_H a_0 (ah_f h13 a11 16) h13) bc bs Q
    refine ex_nmh (fun h15 eh15 => ?_)
    replace w := w h15 eh15
    exact ex_ireturn dX11_open_50 rfl (Or.inl rfl) w
  · replace w := w.2 c3
    refine ex_aload_n (q := 9) (x := a_0) dX11_open_8 rfl ?_
    refine ex_bipush (q := 11) (v := (-2)) dX11_open_9 (by decide) ?_
    refine ex_callV (q := 14) (M := mX11_open) (hdd := Nat.le_refl _) (c := 11) (st := []) (bc := bc) (bs := bs) dX11_open_11 rfl cl_X11_120 wd_557 wd_1 s1 w ?_
    rintro r h16 ⟨x17, rfl, w⟩
    show ex_G mX11_open (d + 4) 14 [.ref a_0, .int v_1] [.int x17] h16 bc bs Q
    exact ex_ireturn dX11_open_14 rfl (Or.inl rfl) w

theorem X11_open_e {d bc bs : Nat} {h : AH} {Q : Option Value → AH → Prop} {a_0 : Nat} {v_1 : Int32} (w : ex_G mX11_open (d + 4) 0 [.ref a_0, .int v_1] [] h bc bs Q) : ex_S yX11_open mX11_open (d + 4) [.ref a_0, .int v_1] h bc bs Q :=
  ex_enter (plainFor_of_name (by decide +kernel)) ⟨rfl, rfl⟩ rfl rfl (Nat.le_of_ble_eq_true rfl) (ex_pad 0 w)

set_option maxRecDepth 100000 in
theorem X11_told_0 {d bc bs : Nat} {h : AH} {Q : Option Value → AH → Prop} {a_0 : Nat} {v_1 : Int32} {v_2 : Int32} (w : ah_o h a_0 11 ∧ X11_hasPicture_C a_0 v_1 h ∧ (((X11_hasPicture_V a_0 v_1 h) = 0 → ex_S yX11_refuse mX11_refuse (d + 4) [.ref a_0, .int (-2)] h 0 0 (fun r h4 => ∃ x5, r = some (.int x5) ∧ Q (some (.int x5)) h4)) ∧ (¬ (X11_hasPicture_V a_0 v_1 h) = 0 → ((v_2 < 0 → ex_S yX11_refuse mX11_refuse (d + 4) [.ref a_0, .int (-2)] h 0 0 (fun r h7 => ∃ x8, r = some (.int x8) ∧ Q (some (.int x8)) h7)) ∧ (¬ v_2 < 0 → ((v_2 ≤ 5 → ((¬ v_2 = 0 → ((¬ v_2 = 1 → ∃ a12, ah_r h a_0 4 = some a12 ∧ ex_S yX11_isWhole mX11_isWhole (d + 4) [.ref a_0, .int v_1, .ref a12] h 0 0 (fun r h13 => ∃ x14, r = some (.int x14) ∧ ((¬ x14 = 0 → ((v_2 = 2 → ah_o h13 a_0 11 ∧ ∃ a18, ah_r h13 a_0 4 = some a18 ∧ ah_o h13 a18 4 ∧ X4_allPieces_C a18 h13 ∧ X11_grant_C a_0 (X4_allPieces_V a18 h13) h13 ∧ ∀ h22, h22 = X11_grant_H a_0 (X4_allPieces_V a18 h13) h13 → Q (some (.int (X11_grant_V a_0 (X4_allPieces_V a18 h13) h13))) h22) ∧ (v_2 = 3 → ah_o h13 a_0 11 ∧ ∃ a24, ah_r h13 a_0 4 = some a24 ∧ ah_o h13 a24 4 ∧ X11_grant_C a_0 (ah_f h13 a24 12) h13 ∧ ∀ h27, h27 = X11_grant_H a_0 (ah_f h13 a24 12) h13 → Q (some (.int (X11_grant_V a_0 (ah_f h13 a24 12) h13))) h27) ∧ (v_2 = 4 → ah_o h13 a_0 11 ∧ ∃ a29, ah_r h13 a_0 4 = some a29 ∧ ah_o h13 a29 4 ∧ X11_grant_C a_0 (ah_f h13 a29 13) h13 ∧ ∀ h32, h32 = X11_grant_H a_0 (ah_f h13 a29 13) h13 → Q (some (.int (X11_grant_V a_0 (ah_f h13 a29 13) h13))) h32) ∧ (¬ v_2 = 2 → ¬ v_2 = 3 → ¬ v_2 = 4 → ah_o h13 a_0 11 ∧ ∃ a34, ah_r h13 a_0 4 = some a34 ∧ ah_o h13 a34 4 ∧ X11_grant_C a_0 (ah_f h13 a34 15) h13 ∧ ∀ h37, h37 = X11_grant_H a_0 (ah_f h13 a34 15) h13 → Q (some (.int (X11_grant_V a_0 (ah_f h13 a34 15) h13))) h37))) ∧ (x14 = 0 → ah_o h13 a_0 11 ∧ ex_S yX11_refuse mX11_refuse (d + 4) [.ref a_0, .int (-13)] h13 0 0 (fun r h38 => ∃ x40, r = some (.int x40) ∧ Q (some (.int x40)) h38))))) ∧ (v_2 = 1 → ∃ a41, ah_r h a_0 0 = some a41 ∧ ld3 h 11 a41 v_1 ∧ ∃ a43, ah_q h a41 (Int32.toNatClampNeg v_1) = some a43 ∧ ah_o h a43 7 ∧ X11_grant_C a_0 (ah_f h a43 3) h ∧ ∀ h46, h46 = X11_grant_H a_0 (ah_f h a43 3) h → Q (some (.int (X11_grant_V a_0 (ah_f h a43 3) h))) h46))) ∧ (v_2 = 0 → ∃ a47, ah_r h a_0 0 = some a47 ∧ ld3 h 11 a47 v_1 ∧ ∃ a49, ah_q h a47 (Int32.toNatClampNeg v_1) = some a49 ∧ ah_o h a49 7 ∧ X11_grant_C a_0 (ah_f h a49 2) h ∧ ∀ h52, h52 = X11_grant_H a_0 (ah_f h a49 2) h → Q (some (.int (X11_grant_V a_0 (ah_f h a49 2) h))) h52))) ∧ (¬ v_2 ≤ 5 → ex_S yX11_refuse mX11_refuse (d + 4) [.ref a_0, .int (-2)] h 0 0 (fun r h53 => ∃ x54, r = some (.int x54) ∧ Q (some (.int x54)) h53)))))))) : ex_G mX11_told (d + 5) 0 [.ref a_0, .int v_1, .int v_2] [] h bc bs Q := by
  refine ex_aload_n (q := 1) (x := a_0) dX11_told_0 rfl ?_
  refine ex_iload_n (q := 2) (x := v_1) dX11_told_1 rfl ?_
  have s1 := w.1
  replace w := w.2
  have s2 := w.1
  replace w := w.2
  refine ex_callV (q := 5) (M := mX11_told) (hdd := Nat.le_refl _) (mc := 0) (ms := 0) (d' := (d + 4)) (c := 11) (st := []) (bc := bc) (bs := bs) dX11_told_2 rfl cl_X11_134 wd_584 wd_4 s1 (X11_hasPicture_s (Q := fun r z => r = some (.int (X11_hasPicture_V a_0 v_1 h)) ∧ z = h) s2 ⟨rfl, rfl⟩) ?_
  intro r z hrz
  rw [hrz.1, hrz.2]
  show ex_G mX11_told (d + 5) 5 [.ref a_0, .int v_1, .int v_2] [.int (X11_hasPicture_V a_0 v_1 h)] (h) bc bs Q
  refine ex_if_eq (tgt := 17) (q := 8) dX11_told_5 (fun c3 => ?_) (fun c3 => ?_)
  · replace w := w.1 c3
    refine ex_aload_n (q := 18) (x := a_0) dX11_told_17 rfl ?_
    refine ex_bipush (q := 20) (v := (-2)) dX11_told_18 (by decide) ?_
    refine ex_callV (q := 23) (M := mX11_told) (hdd := Nat.le_refl _) (c := 11) (st := []) (bc := bc) (bs := bs) dX11_told_20 rfl cl_X11_120 wd_557 wd_1 s1 w ?_
    rintro r h4 ⟨x5, rfl, w⟩
    show ex_G mX11_told (d + 5) 23 [.ref a_0, .int v_1, .int v_2] [.int x5] h4 bc bs Q
    exact ex_ireturn dX11_told_23 rfl (Or.inl rfl) w
  · replace w := w.2 c3
    refine ex_iload_n (q := 9) (x := v_2) dX11_told_8 rfl ?_
    refine ex_if_lt (tgt := 17) (q := 12) dX11_told_9 (fun c6 => ?_) (fun c6 => ?_)
    · replace w := w.1 c6
      refine ex_aload_n (q := 18) (x := a_0) dX11_told_17 rfl ?_
      refine ex_bipush (q := 20) (v := (-2)) dX11_told_18 (by decide) ?_
      refine ex_callV (q := 23) (M := mX11_told) (hdd := Nat.le_refl _) (c := 11) (st := []) (bc := bc) (bs := bs) dX11_told_20 rfl cl_X11_120 wd_557 wd_1 s1 w ?_
      rintro r h7 ⟨x8, rfl, w⟩
      show ex_G mX11_told (d + 5) 23 [.ref a_0, .int v_1, .int v_2] [.int x8] h7 bc bs Q
      exact ex_ireturn dX11_told_23 rfl (Or.inl rfl) w
    · replace w := w.2 c6
      refine ex_iload_n (q := 13) (x := v_2) dX11_told_12 rfl ?_
      refine ex_iconst (q := 14) (v := 5) dX11_told_13 (by decide) ?_
      refine ex_icmp_le (tgt := 24) (q := 17) dX11_told_14 (fun c9 => ?_) (fun c9 => ?_)
      · replace w := w.1 c9
        refine ex_iload_n (q := 25) (x := v_2) dX11_told_24 rfl ?_
        refine ex_if_ne (tgt := 42) (q := 28) dX11_told_25 (fun c10 => ?_) (fun c10 => ?_)
        · replace w := w.1 c10
          refine ex_iload_n (q := 43) (x := v_2) dX11_told_42 rfl ?_
          refine ex_iconst (q := 44) (v := 1) dX11_told_43 (by decide) ?_
          refine ex_icmp_ne (tgt := 61) (q := 47) dX11_told_44 (fun c11 => ?_) (fun c11 => ?_)
          · replace w := w.1 c11
            refine ex_aload_n (q := 62) (x := a_0) dX11_told_61 rfl ?_
            refine ex_iload_n (q := 63) (x := v_1) dX11_told_62 rfl ?_
            refine ex_aload_n (q := 64) (x := a_0) dX11_told_63 rfl ?_
            obtain ⟨a12, ea12, w⟩ := w
            refine ex_getr (q := 67) dX11_told_64 fl_X11_36 s1 ea12 ?_
            refine ex_callV (q := 70) (M := mX11_told) (hdd := Nat.le_refl _) (c := 11) (st := []) (bc := bc) (bs := bs) dX11_told_67 rfl cl_X11_184 wd_695 wd_13 s1 w ?_
            rintro r h13 ⟨x14, rfl, w⟩
            show ex_G mX11_told (d + 5) 70 [.ref a_0, .int v_1, .int v_2] [.int x14] h13 bc bs Q
            refine ex_if_ne (tgt := 80) (q := 73) dX11_told_70 (fun c15 => ?_) (fun c15 => ?_)
            · replace w := w.1 c15
              refine ex_iload_n (q := 81) (x := v_2) dX11_told_80 rfl ?_
              by_cases c16_2 : v_2 = 2
              · replace w := w.1 c16_2
                refine ex_tsw (tgt := 108) dX11_told_81 (by rw [c16_2]; decide) ?_
                refine ex_aload_n (q := 109) (x := a_0) dX11_told_108 rfl ?_
                refine ex_aload_n (q := 110) (x := a_0) dX11_told_109 rfl ?_
                have s17 := w.1
                replace w := w.2
                obtain ⟨a18, ea18, w⟩ := w
                refine ex_getr (q := 113) dX11_told_110 fl_X11_36 s17 ea18 ?_
                have s19 := w.1
                replace w := w.2
                have s20 := w.1
                replace w := w.2
                refine ex_callV (q := 116) (M := mX11_told) (hdd := Nat.le_refl _) (mc := 0) (ms := 0) (d' := (d + 4)) (c := 4) (st := [.ref a_0]) (bc := bc) (bs := bs) dX11_told_113 rfl cl_X11_188 wd_698 wd_699 s19 (X4_allPieces_s (Q := fun r z => r = some (.int (X4_allPieces_V a18 h13)) ∧ z = h13) s20 ⟨rfl, rfl⟩) ?_
                intro r z hrz
                rw [hrz.1, hrz.2]
                show ex_G mX11_told (d + 5) 116 [.ref a_0, .int v_1, .int v_2] [.int (X4_allPieces_V a18 h13), .ref a_0] (h13) bc bs Q
                have s21 := w.1
                replace w := w.2
                refine ex_callV (q := 119) (M := mX11_told) (hdd := Nat.le_refl _) (mc := 0) (ms := 0) (d' := (d + 4)) (c := 11) (st := []) (bc := bc) (bs := bs) dX11_told_116 rfl cl_X11_131 wd_576 wd_3 s17 (X11_grant_s (Q := fun r z => r = some (.int (X11_grant_V a_0 (X4_allPieces_V a18 h13) h13)) ∧ z = X11_grant_H a_0 (X4_allPieces_V a18 h13) h13) s21 ⟨rfl, rfl⟩) ?_
                intro r z hrz
                rw [hrz.1, hrz.2]
                show ex_G mX11_told (d + 5) 119 [.ref a_0, .int v_1, .int v_2] [.int (X11_grant_V a_0 (X4_allPieces_V a18 h13) h13)] (X11_grant_H a_0 (X4_allPieces_V a18 h13) h13) bc bs Q
                refine ex_nmh (fun h22 eh22 => ?_)
                replace w := w h22 eh22
                exact ex_ireturn dX11_told_119 rfl (Or.inl rfl) w
              replace w := w.2
              by_cases c16_3 : v_2 = 3
              · replace w := w.1 c16_3
                refine ex_tsw (tgt := 120) dX11_told_81 (by rw [c16_3]; decide) ?_
                refine ex_aload_n (q := 121) (x := a_0) dX11_told_120 rfl ?_
                refine ex_aload_n (q := 122) (x := a_0) dX11_told_121 rfl ?_
                have s23 := w.1
                replace w := w.2
                obtain ⟨a24, ea24, w⟩ := w
                refine ex_getr (q := 125) dX11_told_122 fl_X11_36 s23 ea24 ?_
                have s25 := w.1
                replace w := w.2
                refine ex_getf (q := 128) dX11_told_125 fl_X11_192 s25 ?_
                have s26 := w.1
                replace w := w.2
                refine ex_callV (q := 131) (M := mX11_told) (hdd := Nat.le_refl _) (mc := 0) (ms := 0) (d' := (d + 4)) (c := 11) (st := []) (bc := bc) (bs := bs) dX11_told_128 rfl cl_X11_131 wd_576 wd_3 s23 (X11_grant_s (Q := fun r z => r = some (.int (X11_grant_V a_0 (ah_f h13 a24 12) h13)) ∧ z = X11_grant_H a_0 (ah_f h13 a24 12) h13) s26 ⟨rfl, rfl⟩) ?_
                intro r z hrz
                rw [hrz.1, hrz.2]
                show ex_G mX11_told (d + 5) 131 [.ref a_0, .int v_1, .int v_2] [.int (X11_grant_V a_0 (ah_f h13 a24 12) h13)] (X11_grant_H a_0 (ah_f h13 a24 12) h13) bc bs Q
                refine ex_nmh (fun h27 eh27 => ?_)
                replace w := w h27 eh27
                exact ex_ireturn dX11_told_131 rfl (Or.inl rfl) w
              replace w := w.2
              by_cases c16_4 : v_2 = 4
              · replace w := w.1 c16_4
                refine ex_tsw (tgt := 132) dX11_told_81 (by rw [c16_4]; decide) ?_
                refine ex_aload_n (q := 133) (x := a_0) dX11_told_132 rfl ?_
                refine ex_aload_n (q := 134) (x := a_0) dX11_told_133 rfl ?_
                have s28 := w.1
                replace w := w.2
                obtain ⟨a29, ea29, w⟩ := w
                refine ex_getr (q := 137) dX11_told_134 fl_X11_36 s28 ea29 ?_
                have s30 := w.1
                replace w := w.2
                refine ex_getf (q := 140) dX11_told_137 fl_X11_195 s30 ?_
                have s31 := w.1
                replace w := w.2
                refine ex_callV (q := 143) (M := mX11_told) (hdd := Nat.le_refl _) (mc := 0) (ms := 0) (d' := (d + 4)) (c := 11) (st := []) (bc := bc) (bs := bs) dX11_told_140 rfl cl_X11_131 wd_576 wd_3 s28 (X11_grant_s (Q := fun r z => r = some (.int (X11_grant_V a_0 (ah_f h13 a29 13) h13)) ∧ z = X11_grant_H a_0 (ah_f h13 a29 13) h13) s31 ⟨rfl, rfl⟩) ?_
                intro r z hrz
                rw [hrz.1, hrz.2]
                show ex_G mX11_told (d + 5) 143 [.ref a_0, .int v_1, .int v_2] [.int (X11_grant_V a_0 (ah_f h13 a29 13) h13)] (X11_grant_H a_0 (ah_f h13 a29 13) h13) bc bs Q
                refine ex_nmh (fun h32 eh32 => ?_)
                replace w := w h32 eh32
                exact ex_ireturn dX11_told_143 rfl (Or.inl rfl) w
              replace w := w.2
              replace w := w c16_2 c16_3 c16_4
              have hsw : v_2.toInt < 2 ∨ 4 < v_2.toInt := by
                have := i32_ne c16_2 (a := 2) (by decide)
                have := i32_ne c16_3 (a := 3) (by decide)
                have := i32_ne c16_4 (a := 4) (by decide)
                omega
              have hsq : sw_t 63 2 4 [27, 39, 51] v_2.toInt = 63 := by
                rcases hsw with z | z
                · unfold sw_t; rw [if_pos (Or.inl z)]
                · unfold sw_t; rw [if_pos (Or.inr z)]
              refine ex_tsw (tgt := 144) dX11_told_81 (show ((81 : Nat) : Int) + sw_t 63 2 4 [27, 39, 51] v_2.toInt = ((144 : Nat) : Int) by rw [hsq]; decide) ?_
              refine ex_aload_n (q := 145) (x := a_0) dX11_told_144 rfl ?_
              refine ex_aload_n (q := 146) (x := a_0) dX11_told_145 rfl ?_
              have s33 := w.1
              replace w := w.2
              obtain ⟨a34, ea34, w⟩ := w
              refine ex_getr (q := 149) dX11_told_146 fl_X11_36 s33 ea34 ?_
              have s35 := w.1
              replace w := w.2
              refine ex_getf (q := 152) dX11_told_149 fl_X11_198 s35 ?_
              have s36 := w.1
              replace w := w.2
              refine ex_callV (q := 155) (M := mX11_told) (hdd := Nat.le_refl _) (mc := 0) (ms := 0) (d' := (d + 4)) (c := 11) (st := []) (bc := bc) (bs := bs) dX11_told_152 rfl cl_X11_131 wd_576 wd_3 s33 (X11_grant_s (Q := fun r z => r = some (.int (X11_grant_V a_0 (ah_f h13 a34 15) h13)) ∧ z = X11_grant_H a_0 (ah_f h13 a34 15) h13) s36 ⟨rfl, rfl⟩) ?_
              intro r z hrz
              rw [hrz.1, hrz.2]
              show ex_G mX11_told (d + 5) 155 [.ref a_0, .int v_1, .int v_2] [.int (X11_grant_V a_0 (ah_f h13 a34 15) h13)] (X11_grant_H a_0 (ah_f h13 a34 15) h13) bc bs Q
              refine ex_nmh (fun h37 eh37 => ?_)
              replace w := w h37 eh37
              exact ex_ireturn dX11_told_155 rfl (Or.inl rfl) w
            · replace w := w.2 c15
              refine ex_aload_n (q := 74) (x := a_0) dX11_told_73 rfl ?_
              refine ex_bipush (q := 76) (v := (-13)) dX11_told_74 (by decide) ?_
              have s39 := w.1
              replace w := w.2
              refine ex_callV (q := 79) (M := mX11_told) (hdd := Nat.le_refl _) (c := 11) (st := []) (bc := bc) (bs := bs) dX11_told_76 rfl cl_X11_120 wd_557 wd_1 s39 w ?_
              rintro r h38 ⟨x40, rfl, w⟩
              show ex_G mX11_told (d + 5) 79 [.ref a_0, .int v_1, .int v_2] [.int x40] h38 bc bs Q
              exact ex_ireturn dX11_told_79 rfl (Or.inl rfl) w
          · replace w := w.2 c11
            refine ex_aload_n (q := 48) (x := a_0) dX11_told_47 rfl ?_
            refine ex_aload_n (q := 49) (x := a_0) dX11_told_48 rfl ?_
            obtain ⟨a41, ea41, w⟩ := w
            refine ex_getr (q := 52) dX11_told_49 fl_X11_11 s1 ea41 ?_
            refine ex_iload_n (q := 53) (x := v_1) dX11_told_52 rfl ?_
            have s42 := w.1
            replace w := w.2
            obtain ⟨a43, ea43, w⟩ := w
            refine ex_aald (q := 54) dX11_told_53 s42 ea43 ?_
            have s44 := w.1
            replace w := w.2
            refine ex_getf (q := 57) dX11_told_54 fl_X11_178 s44 ?_
            have s45 := w.1
            replace w := w.2
            refine ex_callV (q := 60) (M := mX11_told) (hdd := Nat.le_refl _) (mc := 0) (ms := 0) (d' := (d + 4)) (c := 11) (st := []) (bc := bc) (bs := bs) dX11_told_57 rfl cl_X11_131 wd_576 wd_3 s1 (X11_grant_s (Q := fun r z => r = some (.int (X11_grant_V a_0 (ah_f h a43 3) h)) ∧ z = X11_grant_H a_0 (ah_f h a43 3) h) s45 ⟨rfl, rfl⟩) ?_
            intro r z hrz
            rw [hrz.1, hrz.2]
            show ex_G mX11_told (d + 5) 60 [.ref a_0, .int v_1, .int v_2] [.int (X11_grant_V a_0 (ah_f h a43 3) h)] (X11_grant_H a_0 (ah_f h a43 3) h) bc bs Q
            refine ex_nmh (fun h46 eh46 => ?_)
            replace w := w h46 eh46
            exact ex_ireturn dX11_told_60 rfl (Or.inl rfl) w
        · replace w := w.2 c10
          refine ex_aload_n (q := 29) (x := a_0) dX11_told_28 rfl ?_
          refine ex_aload_n (q := 30) (x := a_0) dX11_told_29 rfl ?_
          obtain ⟨a47, ea47, w⟩ := w
          refine ex_getr (q := 33) dX11_told_30 fl_X11_11 s1 ea47 ?_
          refine ex_iload_n (q := 34) (x := v_1) dX11_told_33 rfl ?_
          have s48 := w.1
          replace w := w.2
          obtain ⟨a49, ea49, w⟩ := w
          refine ex_aald (q := 35) dX11_told_34 s48 ea49 ?_
          have s50 := w.1
          replace w := w.2
          refine ex_getf (q := 38) dX11_told_35 fl_X11_141 s50 ?_
          have s51 := w.1
          replace w := w.2
          refine ex_callV (q := 41) (M := mX11_told) (hdd := Nat.le_refl _) (mc := 0) (ms := 0) (d' := (d + 4)) (c := 11) (st := []) (bc := bc) (bs := bs) dX11_told_38 rfl cl_X11_131 wd_576 wd_3 s1 (X11_grant_s (Q := fun r z => r = some (.int (X11_grant_V a_0 (ah_f h a49 2) h)) ∧ z = X11_grant_H a_0 (ah_f h a49 2) h) s51 ⟨rfl, rfl⟩) ?_
          intro r z hrz
          rw [hrz.1, hrz.2]
          show ex_G mX11_told (d + 5) 41 [.ref a_0, .int v_1, .int v_2] [.int (X11_grant_V a_0 (ah_f h a49 2) h)] (X11_grant_H a_0 (ah_f h a49 2) h) bc bs Q
          refine ex_nmh (fun h52 eh52 => ?_)
          replace w := w h52 eh52
          exact ex_ireturn dX11_told_41 rfl (Or.inl rfl) w
      · replace w := w.2 c9
        refine ex_aload_n (q := 18) (x := a_0) dX11_told_17 rfl ?_
        refine ex_bipush (q := 20) (v := (-2)) dX11_told_18 (by decide) ?_
        refine ex_callV (q := 23) (M := mX11_told) (hdd := Nat.le_refl _) (c := 11) (st := []) (bc := bc) (bs := bs) dX11_told_20 rfl cl_X11_120 wd_557 wd_1 s1 w ?_
        rintro r h53 ⟨x54, rfl, w⟩
        show ex_G mX11_told (d + 5) 23 [.ref a_0, .int v_1, .int v_2] [.int x54] h53 bc bs Q
        exact ex_ireturn dX11_told_23 rfl (Or.inl rfl) w

theorem X11_told_e {d bc bs : Nat} {h : AH} {Q : Option Value → AH → Prop} {a_0 : Nat} {v_1 : Int32} {v_2 : Int32} (w : ex_G mX11_told (d + 5) 0 [.ref a_0, .int v_1, .int v_2] [] h bc bs Q) : ex_S yX11_told mX11_told (d + 5) [.ref a_0, .int v_1, .int v_2] h bc bs Q :=
  ex_enter (plainFor_of_name (by decide +kernel)) ⟨rfl, rfl⟩ rfl rfl (Nat.le_of_ble_eq_true rfl) (ex_pad 0 w)

set_option maxRecDepth 100000 in
theorem X11_mirror_0 {d bc bs : Nat} {h : AH} {Q : Option Value → AH → Prop} {a_0 : Nat} {v_1 : Int32} (w : ah_o h a_0 11 ∧ X11_hasPicture_C a_0 v_1 h ∧ ((¬ (X11_hasPicture_V a_0 v_1 h) = 0 → ∃ a4, ah_r h a_0 4 = some a4 ∧ ex_S yX11_isWhole mX11_isWhole (d + 4) [.ref a_0, .int v_1, .ref a4] h 0 0 (fun r h5 => ∃ x6, r = some (.int x6) ∧ ((¬ x6 = 0 → ah_o h5 a_0 11 ∧ ∃ a9, ah_r h5 a_0 0 = some a9 ∧ ld3 h5 11 a9 v_1 ∧ ∃ a11, ah_q h5 a9 (Int32.toNatClampNeg v_1) = some a11 ∧ ah_o h5 a11 7 ∧ ex_S yX7_remember mX7_remember (d + 4) [.ref a11] h5 1 1620 (fun r h12 => r = none ∧ ex_G mX11_mirror (d + 5) 47 [.ref a_0, .retAddr 0, .ref a11, .int 0] [] h12 bc bs Q)) ∧ (x6 = 0 → ah_o h5 a_0 11 ∧ ex_S yX11_refuse mX11_refuse (d + 4) [.ref a_0, .int (-13)] h5 0 0 (fun r h14 => ∃ x16, r = some (.int x16) ∧ Q (some (.int x16)) h14))))) ∧ ((X11_hasPicture_V a_0 v_1 h) = 0 → ex_S yX11_refuse mX11_refuse (d + 4) [.ref a_0, .int (-2)] h 0 0 (fun r h17 => ∃ x18, r = some (.int x18) ∧ Q (some (.int x18)) h17)))) : ex_G mX11_mirror (d + 5) 0 [.ref a_0, .int v_1, .retAddr 0, .retAddr 0] [] h (bc + 1) (bs + 1620) Q := by
  refine ex_aload_n (q := 1) (x := a_0) dX11_mirror_0 rfl ?_
  refine ex_iload_n (q := 2) (x := v_1) dX11_mirror_1 rfl ?_
  have s1 := w.1
  replace w := w.2
  have s2 := w.1
  replace w := w.2
  refine ex_callV (q := 5) (M := mX11_mirror) (hdd := Nat.le_refl _) (mc := 0) (ms := 0) (d' := (d + 4)) (c := 11) (st := []) (bc := (bc + 1)) (bs := (bs + 1620)) dX11_mirror_2 rfl cl_X11_134 wd_584 wd_4 s1 (X11_hasPicture_s (Q := fun r z => r = some (.int (X11_hasPicture_V a_0 v_1 h)) ∧ z = h) s2 ⟨rfl, rfl⟩) ?_
  intro r z hrz
  rw [hrz.1, hrz.2]
  show ex_G mX11_mirror (d + 5) 5 [.ref a_0, .int v_1, .retAddr 0, .retAddr 0] [.int (X11_hasPicture_V a_0 v_1 h)] (h) (bc + 1) (bs + 1620) Q
  refine ex_if_ne (tgt := 15) (q := 8) dX11_mirror_5 (fun c3 => ?_) (fun c3 => ?_)
  · replace w := w.1 c3
    refine ex_aload_n (q := 16) (x := a_0) dX11_mirror_15 rfl ?_
    refine ex_iload_n (q := 17) (x := v_1) dX11_mirror_16 rfl ?_
    refine ex_aload_n (q := 18) (x := a_0) dX11_mirror_17 rfl ?_
    obtain ⟨a4, ea4, w⟩ := w
    refine ex_getr (q := 21) dX11_mirror_18 fl_X11_36 s1 ea4 ?_
    refine ex_callV (q := 24) (M := mX11_mirror) (hdd := Nat.le_refl _) (c := 11) (st := []) (bc := (bc + 1)) (bs := (bs + 1620)) dX11_mirror_21 rfl cl_X11_184 wd_695 wd_13 s1 w ?_
    rintro r h5 ⟨x6, rfl, w⟩
    show ex_G mX11_mirror (d + 5) 24 [.ref a_0, .int v_1, .retAddr 0, .retAddr 0] [.int x6] h5 (bc + 1) (bs + 1620) Q
    refine ex_if_ne (tgt := 34) (q := 27) dX11_mirror_24 (fun c7 => ?_) (fun c7 => ?_)
    · replace w := w.1 c7
      refine ex_aload_n (q := 35) (x := a_0) dX11_mirror_34 rfl ?_
      have s8 := w.1
      replace w := w.2
      obtain ⟨a9, ea9, w⟩ := w
      refine ex_getr (q := 38) dX11_mirror_35 fl_X11_11 s8 ea9 ?_
      refine ex_iload_n (q := 39) (x := v_1) dX11_mirror_38 rfl ?_
      have s10 := w.1
      replace w := w.2
      obtain ⟨a11, ea11, w⟩ := w
      refine ex_aald (q := 40) dX11_mirror_39 s10 ea11 ?_
      refine ex_astore_n (q := 41) (ls' := [.ref a_0, .int v_1, .ref a11, .retAddr 0]) dX11_mirror_40 rfl ?_
      refine ex_aload_n (q := 42) (x := a11) dX11_mirror_41 rfl ?_
      refine ex_G.room (bc' := bc + 1) (bs' := bs + 1620) (Nat.le_refl _) (Nat.le_refl _) (Nat.le_refl _) ?_
      have s13 := w.1
      replace w := w.2
      refine ex_callV (q := 45) (M := mX11_mirror) (hdd := Nat.le_refl _) (c := 7) (st := []) (bc := bc) (bs := bs) dX11_mirror_42 rfl cl_X11_201 wd_706 wd_707 s13 w ?_
      rintro r h12 ⟨rfl, w⟩
      show ex_G mX11_mirror (d + 5) 45 [.ref a_0, .int v_1, .ref a11, .retAddr 0] [] h12 bc bs Q
      refine ex_iconst (q := 46) (v := 0) dX11_mirror_45 (by decide) ?_
      refine ex_istore_n (q := 47) (ls' := [.ref a_0, .int v_1, .ref a11, .int 0]) dX11_mirror_46 rfl ?_
      refine ex_kill 1 (ls' := [.ref a_0, .retAddr 0, .ref a11, .int 0]) rfl ?_
      exact w
    · replace w := w.2 c7
      refine ex_aload_n (q := 28) (x := a_0) dX11_mirror_27 rfl ?_
      refine ex_bipush (q := 30) (v := (-13)) dX11_mirror_28 (by decide) ?_
      have s15 := w.1
      replace w := w.2
      refine ex_callV (q := 33) (M := mX11_mirror) (hdd := Nat.le_refl _) (c := 11) (st := []) (bc := (bc + 1)) (bs := (bs + 1620)) dX11_mirror_30 rfl cl_X11_120 wd_557 wd_1 s15 w ?_
      rintro r h14 ⟨x16, rfl, w⟩
      show ex_G mX11_mirror (d + 5) 33 [.ref a_0, .int v_1, .retAddr 0, .retAddr 0] [.int x16] h14 (bc + 1) (bs + 1620) Q
      exact ex_ireturn dX11_mirror_33 rfl (Or.inl rfl) w
  · replace w := w.2 c3
    refine ex_aload_n (q := 9) (x := a_0) dX11_mirror_8 rfl ?_
    refine ex_bipush (q := 11) (v := (-2)) dX11_mirror_9 (by decide) ?_
    refine ex_callV (q := 14) (M := mX11_mirror) (hdd := Nat.le_refl _) (c := 11) (st := []) (bc := (bc + 1)) (bs := (bs + 1620)) dX11_mirror_11 rfl cl_X11_120 wd_557 wd_1 s1 w ?_
    rintro r h17 ⟨x18, rfl, w⟩
    show ex_G mX11_mirror (d + 5) 14 [.ref a_0, .int v_1, .retAddr 0, .retAddr 0] [.int x18] h17 (bc + 1) (bs + 1620) Q
    exact ex_ireturn dX11_mirror_14 rfl (Or.inl rfl) w

set_option maxRecDepth 100000 in
theorem X11_mirror_47 {d bc bs : Nat} {h : AH} {Q : Option Value → AH → Prop} {a_0 : Nat} {a_2 : Nat} {v_3 : Int32} (w : ah_o h a_2 7 ∧ (((ah_f h a_2 2) ≤ v_3 → ah_o h a_0 11 ∧ X11_grant_C a_0 1 h ∧ ∀ h5, h5 = X11_grant_H a_0 1 h → Q (some (.int (X11_grant_V a_0 1 h))) h5) ∧ (¬ (ah_f h a_2 2) ≤ v_3 → X7_rotate_C a_2 v_3 1 h ∧ ∀ h7, h7 = X7_rotate_H a_2 v_3 1 h → ∀ x8, x8 = v_3 + 1 → ex_G mX11_mirror (d + 5) 47 [.ref a_0, .retAddr 0, .ref a_2, .int x8] [] h7 bc bs Q))) : ex_G mX11_mirror (d + 5) 47 [.ref a_0, .retAddr 0, .ref a_2, .int v_3] [] h bc bs Q := by
  refine ex_iload_n (q := 48) (x := v_3) dX11_mirror_47 rfl ?_
  refine ex_aload_n (q := 49) (x := a_2) dX11_mirror_48 rfl ?_
  have s1 := w.1
  replace w := w.2
  refine ex_getf (q := 52) dX11_mirror_49 fl_X11_141 s1 ?_
  refine ex_icmp_ge (tgt := 67) (q := 55) dX11_mirror_52 (fun c2 => ?_) (fun c2 => ?_)
  · replace w := w.1 c2
    refine ex_aload_n (q := 68) (x := a_0) dX11_mirror_67 rfl ?_
    refine ex_iconst (q := 69) (v := 1) dX11_mirror_68 (by decide) ?_
    have s3 := w.1
    replace w := w.2
    have s4 := w.1
    replace w := w.2
    refine ex_callV (q := 72) (M := mX11_mirror) (hdd := Nat.le_refl _) (mc := 0) (ms := 0) (d' := (d + 4)) (c := 11) (st := []) (bc := bc) (bs := bs) dX11_mirror_69 rfl cl_X11_131 wd_576 wd_3 s3 (X11_grant_s (Q := fun r z => r = some (.int (X11_grant_V a_0 1 h)) ∧ z = X11_grant_H a_0 1 h) s4 ⟨rfl, rfl⟩) ?_
    intro r z hrz
    rw [hrz.1, hrz.2]
    show ex_G mX11_mirror (d + 5) 72 [.ref a_0, .retAddr 0, .ref a_2, .int v_3] [.int (X11_grant_V a_0 1 h)] (X11_grant_H a_0 1 h) bc bs Q
    refine ex_nmh (fun h5 eh5 => ?_)
    replace w := w h5 eh5
    exact ex_ireturn dX11_mirror_72 rfl (Or.inl rfl) w
  · replace w := w.2 c2
    refine ex_aload_n (q := 56) (x := a_2) dX11_mirror_55 rfl ?_
    refine ex_iload_n (q := 57) (x := v_3) dX11_mirror_56 rfl ?_
    refine ex_iconst (q := 58) (v := 1) dX11_mirror_57 (by decide) ?_
    have s6 := w.1
    replace w := w.2
    refine ex_callV (q := 61) (M := mX11_mirror) (hdd := Nat.le_refl _) (mc := 0) (ms := 0) (d' := (d + 4)) (c := 7) (st := []) (bc := bc) (bs := bs) dX11_mirror_58 rfl cl_X11_204 wd_713 wd_714 s1 (X7_rotate_s (Q := fun r z => r = none ∧ z = X7_rotate_H a_2 v_3 1 h) s6 ⟨rfl, rfl⟩) ?_
    intro r z hrz
    rw [hrz.1, hrz.2]
    show ex_G mX11_mirror (d + 5) 61 [.ref a_0, .retAddr 0, .ref a_2, .int v_3] [] (X7_rotate_H a_2 v_3 1 h) bc bs Q
    refine ex_nmh (fun h7 eh7 => ?_)
    replace w := w h7 eh7
    obtain ⟨x8, ex8⟩ : ∃ y : Int32, y = v_3 + 1 := ⟨_, rfl⟩
    replace w := w x8 ex8
    refine ex_iinc (q := 64) (x := v_3) (v := x8) (ls' := [.ref a_0, .retAddr 0, .ref a_2, .int x8]) dX11_mirror_61 rfl (by rw [ex8]; rfl) rfl ?_
    refine ex_goto (tgt := 47) dX11_mirror_64 ?_
    exact w

theorem X11_mirror_e {d bc bs : Nat} {h : AH} {Q : Option Value → AH → Prop} {a_0 : Nat} {v_1 : Int32} (w : ex_G mX11_mirror (d + 5) 0 [.ref a_0, .int v_1, .retAddr 0, .retAddr 0] [] h bc bs Q) : ex_S yX11_mirror mX11_mirror (d + 5) [.ref a_0, .int v_1] h bc bs Q :=
  ex_enter (plainFor_of_name (by decide +kernel)) ⟨rfl, rfl⟩ rfl rfl (Nat.le_of_ble_eq_true rfl) (ex_pad 2 w)

set_option maxRecDepth 100000 in
theorem X11_turn_0 {d bc bs : Nat} {h : AH} {Q : Option Value → AH → Prop} {a_0 : Nat} {v_1 : Int32} (w : ah_o h a_0 11 ∧ X11_hasPicture_C a_0 v_1 h ∧ ((¬ (X11_hasPicture_V a_0 v_1 h) = 0 → ∃ a4, ah_r h a_0 4 = some a4 ∧ ex_S yX11_isWhole mX11_isWhole (d + 4) [.ref a_0, .int v_1, .ref a4] h 0 0 (fun r h5 => ∃ x6, r = some (.int x6) ∧ ((¬ x6 = 0 → ah_o h5 a_0 11 ∧ ∃ a9, ah_r h5 a_0 0 = some a9 ∧ ld3 h5 11 a9 v_1 ∧ ∃ a11, ah_q h5 a9 (Int32.toNatClampNeg v_1) = some a11 ∧ ah_o h5 a11 7 ∧ ex_S yX7_remember mX7_remember (d + 4) [.ref a11] h5 1 1620 (fun r h12 => r = none ∧ ex_G mX11_turn (d + 5) 47 [.ref a_0, .retAddr 0, .ref a11, .int 0] [] h12 bc bs Q)) ∧ (x6 = 0 → ah_o h5 a_0 11 ∧ ex_S yX11_refuse mX11_refuse (d + 4) [.ref a_0, .int (-13)] h5 0 0 (fun r h14 => ∃ x16, r = some (.int x16) ∧ Q (some (.int x16)) h14))))) ∧ ((X11_hasPicture_V a_0 v_1 h) = 0 → ex_S yX11_refuse mX11_refuse (d + 4) [.ref a_0, .int (-2)] h 0 0 (fun r h17 => ∃ x18, r = some (.int x18) ∧ Q (some (.int x18)) h17)))) : ex_G mX11_turn (d + 5) 0 [.ref a_0, .int v_1, .retAddr 0, .retAddr 0] [] h (bc + 1) (bs + 1620) Q := by
  refine ex_aload_n (q := 1) (x := a_0) dX11_turn_0 rfl ?_
  refine ex_iload_n (q := 2) (x := v_1) dX11_turn_1 rfl ?_
  have s1 := w.1
  replace w := w.2
  have s2 := w.1
  replace w := w.2
  refine ex_callV (q := 5) (M := mX11_turn) (hdd := Nat.le_refl _) (mc := 0) (ms := 0) (d' := (d + 4)) (c := 11) (st := []) (bc := (bc + 1)) (bs := (bs + 1620)) dX11_turn_2 rfl cl_X11_134 wd_584 wd_4 s1 (X11_hasPicture_s (Q := fun r z => r = some (.int (X11_hasPicture_V a_0 v_1 h)) ∧ z = h) s2 ⟨rfl, rfl⟩) ?_
  intro r z hrz
  rw [hrz.1, hrz.2]
  show ex_G mX11_turn (d + 5) 5 [.ref a_0, .int v_1, .retAddr 0, .retAddr 0] [.int (X11_hasPicture_V a_0 v_1 h)] (h) (bc + 1) (bs + 1620) Q
  refine ex_if_ne (tgt := 15) (q := 8) dX11_turn_5 (fun c3 => ?_) (fun c3 => ?_)
  · replace w := w.1 c3
    refine ex_aload_n (q := 16) (x := a_0) dX11_turn_15 rfl ?_
    refine ex_iload_n (q := 17) (x := v_1) dX11_turn_16 rfl ?_
    refine ex_aload_n (q := 18) (x := a_0) dX11_turn_17 rfl ?_
    obtain ⟨a4, ea4, w⟩ := w
    refine ex_getr (q := 21) dX11_turn_18 fl_X11_36 s1 ea4 ?_
    refine ex_callV (q := 24) (M := mX11_turn) (hdd := Nat.le_refl _) (c := 11) (st := []) (bc := (bc + 1)) (bs := (bs + 1620)) dX11_turn_21 rfl cl_X11_184 wd_695 wd_13 s1 w ?_
    rintro r h5 ⟨x6, rfl, w⟩
    show ex_G mX11_turn (d + 5) 24 [.ref a_0, .int v_1, .retAddr 0, .retAddr 0] [.int x6] h5 (bc + 1) (bs + 1620) Q
    refine ex_if_ne (tgt := 34) (q := 27) dX11_turn_24 (fun c7 => ?_) (fun c7 => ?_)
    · replace w := w.1 c7
      refine ex_aload_n (q := 35) (x := a_0) dX11_turn_34 rfl ?_
      have s8 := w.1
      replace w := w.2
      obtain ⟨a9, ea9, w⟩ := w
      refine ex_getr (q := 38) dX11_turn_35 fl_X11_11 s8 ea9 ?_
      refine ex_iload_n (q := 39) (x := v_1) dX11_turn_38 rfl ?_
      have s10 := w.1
      replace w := w.2
      obtain ⟨a11, ea11, w⟩ := w
      refine ex_aald (q := 40) dX11_turn_39 s10 ea11 ?_
      refine ex_astore_n (q := 41) (ls' := [.ref a_0, .int v_1, .ref a11, .retAddr 0]) dX11_turn_40 rfl ?_
      refine ex_aload_n (q := 42) (x := a11) dX11_turn_41 rfl ?_
      refine ex_G.room (bc' := bc + 1) (bs' := bs + 1620) (Nat.le_refl _) (Nat.le_refl _) (Nat.le_refl _) ?_
      have s13 := w.1
      replace w := w.2
      refine ex_callV (q := 45) (M := mX11_turn) (hdd := Nat.le_refl _) (c := 7) (st := []) (bc := bc) (bs := bs) dX11_turn_42 rfl cl_X11_201 wd_706 wd_707 s13 w ?_
      rintro r h12 ⟨rfl, w⟩
      show ex_G mX11_turn (d + 5) 45 [.ref a_0, .int v_1, .ref a11, .retAddr 0] [] h12 bc bs Q
      refine ex_iconst (q := 46) (v := 0) dX11_turn_45 (by decide) ?_
      refine ex_istore_n (q := 47) (ls' := [.ref a_0, .int v_1, .ref a11, .int 0]) dX11_turn_46 rfl ?_
      refine ex_kill 1 (ls' := [.ref a_0, .retAddr 0, .ref a11, .int 0]) rfl ?_
      exact w
    · replace w := w.2 c7
      refine ex_aload_n (q := 28) (x := a_0) dX11_turn_27 rfl ?_
      refine ex_bipush (q := 30) (v := (-13)) dX11_turn_28 (by decide) ?_
      have s15 := w.1
      replace w := w.2
      refine ex_callV (q := 33) (M := mX11_turn) (hdd := Nat.le_refl _) (c := 11) (st := []) (bc := (bc + 1)) (bs := (bs + 1620)) dX11_turn_30 rfl cl_X11_120 wd_557 wd_1 s15 w ?_
      rintro r h14 ⟨x16, rfl, w⟩
      show ex_G mX11_turn (d + 5) 33 [.ref a_0, .int v_1, .retAddr 0, .retAddr 0] [.int x16] h14 (bc + 1) (bs + 1620) Q
      exact ex_ireturn dX11_turn_33 rfl (Or.inl rfl) w
  · replace w := w.2 c3
    refine ex_aload_n (q := 9) (x := a_0) dX11_turn_8 rfl ?_
    refine ex_bipush (q := 11) (v := (-2)) dX11_turn_9 (by decide) ?_
    refine ex_callV (q := 14) (M := mX11_turn) (hdd := Nat.le_refl _) (c := 11) (st := []) (bc := (bc + 1)) (bs := (bs + 1620)) dX11_turn_11 rfl cl_X11_120 wd_557 wd_1 s1 w ?_
    rintro r h17 ⟨x18, rfl, w⟩
    show ex_G mX11_turn (d + 5) 14 [.ref a_0, .int v_1, .retAddr 0, .retAddr 0] [.int x18] h17 (bc + 1) (bs + 1620) Q
    exact ex_ireturn dX11_turn_14 rfl (Or.inl rfl) w

set_option maxRecDepth 100000 in
theorem X11_turn_47 {d bc bs : Nat} {h : AH} {Q : Option Value → AH → Prop} {a_0 : Nat} {a_2 : Nat} {v_3 : Int32} (w : ah_o h a_2 7 ∧ (((ah_f h a_2 2) ≤ v_3 → ah_o h a_0 11 ∧ X11_grant_C a_0 1 h ∧ ∀ h5, h5 = X11_grant_H a_0 1 h → Q (some (.int (X11_grant_V a_0 1 h))) h5) ∧ (¬ (ah_f h a_2 2) ≤ v_3 → X7_flip_C a_2 v_3 h ∧ ∀ h7, h7 = X7_flip_H a_2 v_3 h → ∀ x8, x8 = v_3 + 1 → ex_G mX11_turn (d + 5) 47 [.ref a_0, .retAddr 0, .ref a_2, .int x8] [] h7 bc bs Q))) : ex_G mX11_turn (d + 5) 47 [.ref a_0, .retAddr 0, .ref a_2, .int v_3] [] h bc bs Q := by
  refine ex_iload_n (q := 48) (x := v_3) dX11_turn_47 rfl ?_
  refine ex_aload_n (q := 49) (x := a_2) dX11_turn_48 rfl ?_
  have s1 := w.1
  replace w := w.2
  refine ex_getf (q := 52) dX11_turn_49 fl_X11_141 s1 ?_
  refine ex_icmp_ge (tgt := 66) (q := 55) dX11_turn_52 (fun c2 => ?_) (fun c2 => ?_)
  · replace w := w.1 c2
    refine ex_aload_n (q := 67) (x := a_0) dX11_turn_66 rfl ?_
    refine ex_iconst (q := 68) (v := 1) dX11_turn_67 (by decide) ?_
    have s3 := w.1
    replace w := w.2
    have s4 := w.1
    replace w := w.2
    refine ex_callV (q := 71) (M := mX11_turn) (hdd := Nat.le_refl _) (mc := 0) (ms := 0) (d' := (d + 4)) (c := 11) (st := []) (bc := bc) (bs := bs) dX11_turn_68 rfl cl_X11_131 wd_576 wd_3 s3 (X11_grant_s (Q := fun r z => r = some (.int (X11_grant_V a_0 1 h)) ∧ z = X11_grant_H a_0 1 h) s4 ⟨rfl, rfl⟩) ?_
    intro r z hrz
    rw [hrz.1, hrz.2]
    show ex_G mX11_turn (d + 5) 71 [.ref a_0, .retAddr 0, .ref a_2, .int v_3] [.int (X11_grant_V a_0 1 h)] (X11_grant_H a_0 1 h) bc bs Q
    refine ex_nmh (fun h5 eh5 => ?_)
    replace w := w h5 eh5
    exact ex_ireturn dX11_turn_71 rfl (Or.inl rfl) w
  · replace w := w.2 c2
    refine ex_aload_n (q := 56) (x := a_2) dX11_turn_55 rfl ?_
    refine ex_iload_n (q := 57) (x := v_3) dX11_turn_56 rfl ?_
    have s6 := w.1
    replace w := w.2
    refine ex_callV (q := 60) (M := mX11_turn) (hdd := Nat.le_refl _) (mc := 0) (ms := 0) (d' := (d + 4)) (c := 7) (st := []) (bc := bc) (bs := bs) dX11_turn_57 rfl cl_X11_207 wd_722 wd_723 s1 (X7_flip_s (Q := fun r z => r = none ∧ z = X7_flip_H a_2 v_3 h) s6 ⟨rfl, rfl⟩) ?_
    intro r z hrz
    rw [hrz.1, hrz.2]
    show ex_G mX11_turn (d + 5) 60 [.ref a_0, .retAddr 0, .ref a_2, .int v_3] [] (X7_flip_H a_2 v_3 h) bc bs Q
    refine ex_nmh (fun h7 eh7 => ?_)
    replace w := w h7 eh7
    obtain ⟨x8, ex8⟩ : ∃ y : Int32, y = v_3 + 1 := ⟨_, rfl⟩
    replace w := w x8 ex8
    refine ex_iinc (q := 63) (x := v_3) (v := x8) (ls' := [.ref a_0, .retAddr 0, .ref a_2, .int x8]) dX11_turn_60 rfl (by rw [ex8]; rfl) rfl ?_
    refine ex_goto (tgt := 47) dX11_turn_63 ?_
    exact w

theorem X11_turn_e {d bc bs : Nat} {h : AH} {Q : Option Value → AH → Prop} {a_0 : Nat} {v_1 : Int32} (w : ex_G mX11_turn (d + 5) 0 [.ref a_0, .int v_1, .retAddr 0, .retAddr 0] [] h bc bs Q) : ex_S yX11_turn mX11_turn (d + 5) [.ref a_0, .int v_1] h bc bs Q :=
  ex_enter (plainFor_of_name (by decide +kernel)) ⟨rfl, rfl⟩ rfl rfl (Nat.le_of_ble_eq_true rfl) (ex_pad 2 w)

set_option maxRecDepth 100000 in
theorem X11_join_0 {d bc bs : Nat} {h : AH} {Q : Option Value → AH → Prop} {a_0 : Nat} {v_1 : Int32} {v_2 : Int32} {v_3 : Int32} {v_4 : Int32} (w : ah_o h a_0 11 ∧ X11_hasPicture_C a_0 v_1 h ∧ (((X11_hasPicture_V a_0 v_1 h) = 0 → ex_S yX11_refuse mX11_refuse (d + 4) [.ref a_0, .int (-2)] h 0 0 (fun r h4 => ∃ x5, r = some (.int x5) ∧ Q (some (.int x5)) h4)) ∧ (¬ (X11_hasPicture_V a_0 v_1 h) = 0 → X11_hasPicture_C a_0 v_3 h ∧ ((¬ (X11_hasPicture_V a_0 v_3 h) = 0 → X11_isFull_C a_0 h ∧ (((X11_isFull_V a_0 h) = 0 → ∃ a10, ah_r h a_0 4 = some a10 ∧ ex_S yX11_isWhole mX11_isWhole (d + 4) [.ref a_0, .int v_1, .ref a10] h 0 0 (fun r h11 => ∃ x12, r = some (.int x12) ∧ ((x12 = 0 → ah_o h11 a_0 11 ∧ ex_S yX11_refuse mX11_refuse (d + 4) [.ref a_0, .int (-13)] h11 0 0 (fun r h14 => ∃ x16, r = some (.int x16) ∧ Q (some (.int x16)) h14)) ∧ (¬ x12 = 0 → ah_o h11 a_0 11 ∧ ∃ a18, ah_r h11 a_0 5 = some a18 ∧ ex_S yX11_isWhole mX11_isWhole (d + 4) [.ref a_0, .int v_3, .ref a18] h11 0 0 (fun r h19 => ∃ x20, r = some (.int x20) ∧ ((¬ x20 = 0 → ah_o h19 a_0 11 ∧ ∃ a23, ah_r h19 a_0 4 = some a23 ∧ ah_o h19 a23 4 ∧ X4_hasEnd_C a23 v_2 h19 ∧ (((X4_hasEnd_V a23 v_2 h19) = 0 → ex_S yX11_refuse mX11_refuse (d + 4) [.ref a_0, .int (-15)] h19 0 0 (fun r h27 => ∃ x28, r = some (.int x28) ∧ Q (some (.int x28)) h27)) ∧ (¬ (X4_hasEnd_V a23 v_2 h19) = 0 → ∃ a29, ah_r h19 a_0 5 = some a29 ∧ ah_o h19 a29 4 ∧ X4_hasEnd_C a29 v_4 h19 ∧ ((¬ (X4_hasEnd_V a29 v_4 h19) = 0 → ((40 < ((ah_f h19 a23 10) + (ah_f h19 a29 10)) → ex_S yX11_refuse mX11_refuse (d + 4) [.ref a_0, .int (-18)] h19 0 0 (fun r h34 => ∃ x35, r = some (.int x35) ∧ Q (some (.int x35)) h34)) ∧ (¬ 40 < ((ah_f h19 a23 10) + (ah_f h19 a29 10)) → ((((ah_f h19 a23 11) + (ah_f h19 a29 11)) ≤ 9 → ∃ a37, ah_r h19 a_0 6 = some a37 ∧ ∃ a38, ah_r h19 a_0 0 = some a38 ∧ ld3 h19 11 a38 v_1 ∧ ∃ a40, ah_q h19 a38 (Int32.toNatClampNeg v_1) = some a40 ∧ ah_o h19 a37 7 ∧ ex_S yX7_take mX7_take (d + 4) [.ref a37, .ref a40] h19 0 0 (fun r h41 => r = none ∧ ah_o h41 a_0 11 ∧ ∃ a44, ah_r h41 a_0 6 = some a44 ∧ ∃ a45, ah_r h41 a_0 0 = some a45 ∧ ld3 h41 11 a45 v_3 ∧ ∃ a47, ah_q h41 a45 (Int32.toNatClampNeg v_3) = some a47 ∧ ∃ a48, ah_r h41 a_0 5 = some a48 ∧ ah_o h41 a44 7 ∧ ex_S yX7_append mX7_append (d + 4) [.ref a44, .ref a47, .ref a48] h41 0 0 (fun r h49 => r = none ∧ ah_o h49 a_0 11 ∧ ∃ a52, ah_r h49 a_0 4 = some a52 ∧ ah_o h49 a52 4 ∧ ∀ x54, x54 = 4 * (ah_f h49 a52 10) → ∃ a55, ah_r h49 a_0 6 = some a55 ∧ ah_o h49 a55 7 ∧ ∃ a57, ah_r h49 a55 1 = some a57 ∧ ld0 h49 a57 v_2 ∧ st0 h49 a57 (x54 + v_4) ∧ ∀ h59, h59 = ah_si h49 a57 (Int32.toNatClampNeg (x54 + v_4)) (ah_i h49 a57 (Int32.toNatClampNeg v_2)) → ex_S yX7_freeArc mX7_freeArc (d + 4) [.ref a55, .int (-1)] h59 0 0 (fun r h61 => ∃ x62, r = some (.int x62) ∧ ah_o h61 a_0 11 ∧ ∃ a64, ah_r h61 a_0 6 = some a64 ∧ ah_o h61 a64 7 ∧ ∃ a66, ah_r h61 a64 1 = some a66 ∧ ∃ a67, ah_r h61 a_0 4 = some a67 ∧ ah_o h61 a67 4 ∧ ∃ a69, ah_r h61 a67 0 = some a69 ∧ ld0 h61 a69 v_2 ∧ st0 h61 a66 (ah_i h61 a69 (Int32.toNatClampNeg v_2)) ∧ ∀ h71, h71 = ah_si h61 a66 (Int32.toNatClampNeg (ah_i h61 a69 (Int32.toNatClampNeg v_2))) x62 → ∃ a73, ah_r h71 a_0 5 = some a73 ∧ ah_o h71 a73 4 ∧ ∃ a75, ah_r h71 a73 0 = some a75 ∧ ld0 h71 a75 v_4 ∧ st0 h71 a66 (x54 + (ah_i h71 a75 (Int32.toNatClampNeg v_4))) ∧ ∀ h77, h77 = ah_si h71 a66 (Int32.toNatClampNeg (x54 + (ah_i h71 a75 (Int32.toNatClampNeg v_4)))) x62 → ex_S yX11_addLike mX11_addLike (d + 4) [.ref a_0, .ref a64] h77 3 207 (fun r h79 => ∃ x80, r = some (.int x80) ∧ ah_o h79 a_0 11 ∧ X11_grant_C a_0 x80 h79 ∧ ∀ h83, h83 = X11_grant_H a_0 x80 h79 → Q (some (.int (X11_grant_V a_0 x80 h79))) h83))))) ∧ (¬ ((ah_f h19 a23 11) + (ah_f h19 a29 11)) ≤ 9 → ex_S yX11_refuse mX11_refuse (d + 4) [.ref a_0, .int (-18)] h19 0 0 (fun r h84 => ∃ x85, r = some (.int x85) ∧ Q (some (.int x85)) h84)))))) ∧ ((X4_hasEnd_V a29 v_4 h19) = 0 → ex_S yX11_refuse mX11_refuse (d + 4) [.ref a_0, .int (-15)] h19 0 0 (fun r h86 => ∃ x87, r = some (.int x87) ∧ Q (some (.int x87)) h86)))))) ∧ (x20 = 0 → ah_o h19 a_0 11 ∧ ex_S yX11_refuse mX11_refuse (d + 4) [.ref a_0, .int (-13)] h19 0 0 (fun r h88 => ∃ x90, r = some (.int x90) ∧ Q (some (.int x90)) h88)))))))) ∧ (¬ (X11_isFull_V a_0 h) = 0 → ex_S yX11_refuse mX11_refuse (d + 4) [.ref a_0, .int (-3)] h 0 0 (fun r h91 => ∃ x92, r = some (.int x92) ∧ Q (some (.int x92)) h91)))) ∧ ((X11_hasPicture_V a_0 v_3 h) = 0 → ex_S yX11_refuse mX11_refuse (d + 4) [.ref a_0, .int (-2)] h 0 0 (fun r h93 => ∃ x94, r = some (.int x94) ∧ Q (some (.int x94)) h93)))))) : ex_G mX11_join (d + 5) 0 [.ref a_0, .int v_1, .int v_2, .int v_3, .int v_4, .retAddr 0, .retAddr 0] [] h (bc + 3) (bs + 207) Q := by
  refine ex_aload_n (q := 1) (x := a_0) dX11_join_0 rfl ?_
  refine ex_iload_n (q := 2) (x := v_1) dX11_join_1 rfl ?_
  have s1 := w.1
  replace w := w.2
  have s2 := w.1
  replace w := w.2
  refine ex_callV (q := 5) (M := mX11_join) (hdd := Nat.le_refl _) (mc := 0) (ms := 0) (d' := (d + 4)) (c := 11) (st := []) (bc := (bc + 3)) (bs := (bs + 207)) dX11_join_2 rfl cl_X11_134 wd_584 wd_4 s1 (X11_hasPicture_s (Q := fun r z => r = some (.int (X11_hasPicture_V a_0 v_1 h)) ∧ z = h) s2 ⟨rfl, rfl⟩) ?_
  intro r z hrz
  rw [hrz.1, hrz.2]
  show ex_G mX11_join (d + 5) 5 [.ref a_0, .int v_1, .int v_2, .int v_3, .int v_4, .retAddr 0, .retAddr 0] [.int (X11_hasPicture_V a_0 v_1 h)] (h) (bc + 3) (bs + 207) Q
  refine ex_if_eq (tgt := 16) (q := 8) dX11_join_5 (fun c3 => ?_) (fun c3 => ?_)
  · replace w := w.1 c3
    refine ex_aload_n (q := 17) (x := a_0) dX11_join_16 rfl ?_
    refine ex_bipush (q := 19) (v := (-2)) dX11_join_17 (by decide) ?_
    refine ex_callV (q := 22) (M := mX11_join) (hdd := Nat.le_refl _) (c := 11) (st := []) (bc := (bc + 3)) (bs := (bs + 207)) dX11_join_19 rfl cl_X11_120 wd_557 wd_1 s1 w ?_
    rintro r h4 ⟨x5, rfl, w⟩
    show ex_G mX11_join (d + 5) 22 [.ref a_0, .int v_1, .int v_2, .int v_3, .int v_4, .retAddr 0, .retAddr 0] [.int x5] h4 (bc + 3) (bs + 207) Q
    exact ex_ireturn dX11_join_22 rfl (Or.inl rfl) w
  · replace w := w.2 c3
    refine ex_aload_n (q := 9) (x := a_0) dX11_join_8 rfl ?_
    refine ex_iload_n (q := 10) (x := v_3) dX11_join_9 rfl ?_
    have s6 := w.1
    replace w := w.2
    refine ex_callV (q := 13) (M := mX11_join) (hdd := Nat.le_refl _) (mc := 0) (ms := 0) (d' := (d + 4)) (c := 11) (st := []) (bc := (bc + 3)) (bs := (bs + 207)) dX11_join_10 rfl cl_X11_134 wd_584 wd_4 s1 (X11_hasPicture_s (Q := fun r z => r = some (.int (X11_hasPicture_V a_0 v_3 h)) ∧ z = h) s6 ⟨rfl, rfl⟩) ?_
    intro r z hrz
    rw [hrz.1, hrz.2]
    show ex_G mX11_join (d + 5) 13 [.ref a_0, .int v_1, .int v_2, .int v_3, .int v_4, .retAddr 0, .retAddr 0] [.int (X11_hasPicture_V a_0 v_3 h)] (h) (bc + 3) (bs + 207) Q
    refine ex_if_ne (tgt := 23) (q := 16) dX11_join_13 (fun c7 => ?_) (fun c7 => ?_)
    · replace w := w.1 c7
      refine ex_aload_n (q := 24) (x := a_0) dX11_join_23 rfl ?_
      have s8 := w.1
      replace w := w.2
      refine ex_callV (q := 27) (M := mX11_join) (hdd := Nat.le_refl _) (mc := 0) (ms := 0) (d' := (d + 4)) (c := 11) (st := []) (bc := (bc + 3)) (bs := (bs + 207)) dX11_join_24 rfl cl_X11_116 wd_553 wd_0 s1 (X11_isFull_s (Q := fun r z => r = some (.int (X11_isFull_V a_0 h)) ∧ z = h) s8 ⟨rfl, rfl⟩) ?_
      intro r z hrz
      rw [hrz.1, hrz.2]
      show ex_G mX11_join (d + 5) 27 [.ref a_0, .int v_1, .int v_2, .int v_3, .int v_4, .retAddr 0, .retAddr 0] [.int (X11_isFull_V a_0 h)] (h) (bc + 3) (bs + 207) Q
      refine ex_if_eq (tgt := 37) (q := 30) dX11_join_27 (fun c9 => ?_) (fun c9 => ?_)
      · replace w := w.1 c9
        refine ex_aload_n (q := 38) (x := a_0) dX11_join_37 rfl ?_
        refine ex_iload_n (q := 39) (x := v_1) dX11_join_38 rfl ?_
        refine ex_aload_n (q := 40) (x := a_0) dX11_join_39 rfl ?_
        obtain ⟨a10, ea10, w⟩ := w
        refine ex_getr (q := 43) dX11_join_40 fl_X11_36 s1 ea10 ?_
        refine ex_callV (q := 46) (M := mX11_join) (hdd := Nat.le_refl _) (c := 11) (st := []) (bc := (bc + 3)) (bs := (bs + 207)) dX11_join_43 rfl cl_X11_184 wd_695 wd_13 s1 w ?_
        rintro r h11 ⟨x12, rfl, w⟩
        show ex_G mX11_join (d + 5) 46 [.ref a_0, .int v_1, .int v_2, .int v_3, .int v_4, .retAddr 0, .retAddr 0] [.int x12] h11 (bc + 3) (bs + 207) Q
        refine ex_if_eq (tgt := 61) (q := 49) dX11_join_46 (fun c13 => ?_) (fun c13 => ?_)
        · replace w := w.1 c13
          refine ex_aload_n (q := 62) (x := a_0) dX11_join_61 rfl ?_
          refine ex_bipush (q := 64) (v := (-13)) dX11_join_62 (by decide) ?_
          have s15 := w.1
          replace w := w.2
          refine ex_callV (q := 67) (M := mX11_join) (hdd := Nat.le_refl _) (c := 11) (st := []) (bc := (bc + 3)) (bs := (bs + 207)) dX11_join_64 rfl cl_X11_120 wd_557 wd_1 s15 w ?_
          rintro r h14 ⟨x16, rfl, w⟩
          show ex_G mX11_join (d + 5) 67 [.ref a_0, .int v_1, .int v_2, .int v_3, .int v_4, .retAddr 0, .retAddr 0] [.int x16] h14 (bc + 3) (bs + 207) Q
          exact ex_ireturn dX11_join_67 rfl (Or.inl rfl) w
        · replace w := w.2 c13
          refine ex_aload_n (q := 50) (x := a_0) dX11_join_49 rfl ?_
          refine ex_iload_n (q := 51) (x := v_3) dX11_join_50 rfl ?_
          refine ex_aload_n (q := 52) (x := a_0) dX11_join_51 rfl ?_
          have s17 := w.1
          replace w := w.2
          obtain ⟨a18, ea18, w⟩ := w
          refine ex_getr (q := 55) dX11_join_52 fl_X11_40 s17 ea18 ?_
          refine ex_callV (q := 58) (M := mX11_join) (hdd := Nat.le_refl _) (c := 11) (st := []) (bc := (bc + 3)) (bs := (bs + 207)) dX11_join_55 rfl cl_X11_184 wd_695 wd_13 s17 w ?_
          rintro r h19 ⟨x20, rfl, w⟩
          show ex_G mX11_join (d + 5) 58 [.ref a_0, .int v_1, .int v_2, .int v_3, .int v_4, .retAddr 0, .retAddr 0] [.int x20] h19 (bc + 3) (bs + 207) Q
          refine ex_if_ne (tgt := 68) (q := 61) dX11_join_58 (fun c21 => ?_) (fun c21 => ?_)
          · replace w := w.1 c21
            refine ex_aload_n (q := 69) (x := a_0) dX11_join_68 rfl ?_
            have s22 := w.1
            replace w := w.2
            obtain ⟨a23, ea23, w⟩ := w
            refine ex_getr (q := 72) dX11_join_69 fl_X11_36 s22 ea23 ?_
            refine ex_iload_n (q := 73) (x := v_2) dX11_join_72 rfl ?_
            have s24 := w.1
            replace w := w.2
            have s25 := w.1
            replace w := w.2
            refine ex_callV (q := 76) (M := mX11_join) (hdd := Nat.le_refl _) (mc := 0) (ms := 0) (d' := (d + 4)) (c := 4) (st := []) (bc := (bc + 3)) (bs := (bs + 207)) dX11_join_73 rfl cl_X11_210 wd_734 wd_735 s24 (X4_hasEnd_s (Q := fun r z => r = some (.int (X4_hasEnd_V a23 v_2 h19)) ∧ z = h19) s25 ⟨rfl, rfl⟩) ?_
            intro r z hrz
            rw [hrz.1, hrz.2]
            show ex_G mX11_join (d + 5) 76 [.ref a_0, .int v_1, .int v_2, .int v_3, .int v_4, .retAddr 0, .retAddr 0] [.int (X4_hasEnd_V a23 v_2 h19)] (h19) (bc + 3) (bs + 207) Q
            refine ex_if_eq (tgt := 91) (q := 79) dX11_join_76 (fun c26 => ?_) (fun c26 => ?_)
            · replace w := w.1 c26
              refine ex_aload_n (q := 92) (x := a_0) dX11_join_91 rfl ?_
              refine ex_bipush (q := 94) (v := (-15)) dX11_join_92 (by decide) ?_
              refine ex_callV (q := 97) (M := mX11_join) (hdd := Nat.le_refl _) (c := 11) (st := []) (bc := (bc + 3)) (bs := (bs + 207)) dX11_join_94 rfl cl_X11_120 wd_557 wd_1 s22 w ?_
              rintro r h27 ⟨x28, rfl, w⟩
              show ex_G mX11_join (d + 5) 97 [.ref a_0, .int v_1, .int v_2, .int v_3, .int v_4, .retAddr 0, .retAddr 0] [.int x28] h27 (bc + 3) (bs + 207) Q
              exact ex_ireturn dX11_join_97 rfl (Or.inl rfl) w
            · replace w := w.2 c26
              refine ex_aload_n (q := 80) (x := a_0) dX11_join_79 rfl ?_
              obtain ⟨a29, ea29, w⟩ := w
              refine ex_getr (q := 83) dX11_join_80 fl_X11_40 s22 ea29 ?_
              refine ex_iload (q := 85) (x := v_4) dX11_join_83 rfl ?_
              have s30 := w.1
              replace w := w.2
              have s31 := w.1
              replace w := w.2
              refine ex_callV (q := 88) (M := mX11_join) (hdd := Nat.le_refl _) (mc := 0) (ms := 0) (d' := (d + 4)) (c := 4) (st := []) (bc := (bc + 3)) (bs := (bs + 207)) dX11_join_85 rfl cl_X11_210 wd_734 wd_735 s30 (X4_hasEnd_s (Q := fun r z => r = some (.int (X4_hasEnd_V a29 v_4 h19)) ∧ z = h19) s31 ⟨rfl, rfl⟩) ?_
              intro r z hrz
              rw [hrz.1, hrz.2]
              show ex_G mX11_join (d + 5) 88 [.ref a_0, .int v_1, .int v_2, .int v_3, .int v_4, .retAddr 0, .retAddr 0] [.int (X4_hasEnd_V a29 v_4 h19)] (h19) (bc + 3) (bs + 207) Q
              refine ex_if_ne (tgt := 98) (q := 91) dX11_join_88 (fun c32 => ?_) (fun c32 => ?_)
              · replace w := w.1 c32
                refine ex_aload_n (q := 99) (x := a_0) dX11_join_98 rfl ?_
                refine ex_getr (q := 102) dX11_join_99 fl_X11_36 s22 ea23 ?_
                refine ex_getf (q := 105) dX11_join_102 fl_X11_213 s24 ?_
                refine ex_aload_n (q := 106) (x := a_0) dX11_join_105 rfl ?_
                refine ex_getr (q := 109) dX11_join_106 fl_X11_40 s22 ea29 ?_
                refine ex_getf (q := 112) dX11_join_109 fl_X11_213 s30 ?_
                refine ex_iadd (q := 113) dX11_join_112 ?_
                refine ex_bipush (q := 115) (v := 40) dX11_join_113 (by decide) ?_
                refine ex_icmp_gt (tgt := 138) (q := 118) dX11_join_115 (fun c33 => ?_) (fun c33 => ?_)
                · replace w := w.1 c33
                  refine ex_aload_n (q := 139) (x := a_0) dX11_join_138 rfl ?_
                  refine ex_bipush (q := 141) (v := (-18)) dX11_join_139 (by decide) ?_
                  refine ex_callV (q := 144) (M := mX11_join) (hdd := Nat.le_refl _) (c := 11) (st := []) (bc := (bc + 3)) (bs := (bs + 207)) dX11_join_141 rfl cl_X11_120 wd_557 wd_1 s22 w ?_
                  rintro r h34 ⟨x35, rfl, w⟩
                  show ex_G mX11_join (d + 5) 144 [.ref a_0, .int v_1, .int v_2, .int v_3, .int v_4, .retAddr 0, .retAddr 0] [.int x35] h34 (bc + 3) (bs + 207) Q
                  exact ex_ireturn dX11_join_144 rfl (Or.inl rfl) w
                · replace w := w.2 c33
                  refine ex_aload_n (q := 119) (x := a_0) dX11_join_118 rfl ?_
                  refine ex_getr (q := 122) dX11_join_119 fl_X11_36 s22 ea23 ?_
                  refine ex_getf (q := 125) dX11_join_122 fl_X11_214 s24 ?_
                  refine ex_aload_n (q := 126) (x := a_0) dX11_join_125 rfl ?_
                  refine ex_getr (q := 129) dX11_join_126 fl_X11_40 s22 ea29 ?_
                  refine ex_getf (q := 132) dX11_join_129 fl_X11_214 s30 ?_
                  refine ex_iadd (q := 133) dX11_join_132 ?_
                  refine ex_bipush (q := 135) (v := 9) dX11_join_133 (by decide) ?_
                  refine ex_icmp_le (tgt := 145) (q := 138) dX11_join_135 (fun c36 => ?_) (fun c36 => ?_)
                  · replace w := w.1 c36
                    refine ex_aload_n (q := 146) (x := a_0) dX11_join_145 rfl ?_
                    obtain ⟨a37, ea37, w⟩ := w
                    refine ex_getr (q := 149) dX11_join_146 fl_X11_44 s22 ea37 ?_
                    refine ex_aload_n (q := 150) (x := a_0) dX11_join_149 rfl ?_
                    obtain ⟨a38, ea38, w⟩ := w
                    refine ex_getr (q := 153) dX11_join_150 fl_X11_11 s22 ea38 ?_
                    refine ex_iload_n (q := 154) (x := v_1) dX11_join_153 rfl ?_
                    have s39 := w.1
                    replace w := w.2
                    obtain ⟨a40, ea40, w⟩ := w
                    refine ex_aald (q := 155) dX11_join_154 s39 ea40 ?_
                    have s42 := w.1
                    replace w := w.2
                    refine ex_callV (q := 158) (M := mX11_join) (hdd := Nat.le_refl _) (c := 7) (st := []) (bc := (bc + 3)) (bs := (bs + 207)) dX11_join_155 rfl cl_X11_113 wd_568 wd_569 s42 w ?_
                    rintro r h41 ⟨rfl, w⟩
                    show ex_G mX11_join (d + 5) 158 [.ref a_0, .int v_1, .int v_2, .int v_3, .int v_4, .retAddr 0, .retAddr 0] [] h41 (bc + 3) (bs + 207) Q
                    refine ex_aload_n (q := 159) (x := a_0) dX11_join_158 rfl ?_
                    have s43 := w.1
                    replace w := w.2
                    obtain ⟨a44, ea44, w⟩ := w
                    refine ex_getr (q := 162) dX11_join_159 fl_X11_44 s43 ea44 ?_
                    refine ex_aload_n (q := 163) (x := a_0) dX11_join_162 rfl ?_
                    obtain ⟨a45, ea45, w⟩ := w
                    refine ex_getr (q := 166) dX11_join_163 fl_X11_11 s43 ea45 ?_
                    refine ex_iload_n (q := 167) (x := v_3) dX11_join_166 rfl ?_
                    have s46 := w.1
                    replace w := w.2
                    obtain ⟨a47, ea47, w⟩ := w
                    refine ex_aald (q := 168) dX11_join_167 s46 ea47 ?_
                    refine ex_aload_n (q := 169) (x := a_0) dX11_join_168 rfl ?_
                    obtain ⟨a48, ea48, w⟩ := w
                    refine ex_getr (q := 172) dX11_join_169 fl_X11_40 s43 ea48 ?_
                    have s50 := w.1
                    replace w := w.2
                    refine ex_callV (q := 175) (M := mX11_join) (hdd := Nat.le_refl _) (c := 7) (st := []) (bc := (bc + 3)) (bs := (bs + 207)) dX11_join_172 rfl cl_X11_215 wd_738 wd_739 s50 w ?_
                    rintro r h49 ⟨rfl, w⟩
                    show ex_G mX11_join (d + 5) 175 [.ref a_0, .int v_1, .int v_2, .int v_3, .int v_4, .retAddr 0, .retAddr 0] [] h49 (bc + 3) (bs + 207) Q
                    refine ex_iconst (q := 176) (v := 4) dX11_join_175 (by decide) ?_
                    refine ex_aload_n (q := 177) (x := a_0) dX11_join_176 rfl ?_
                    have s51 := w.1
                    replace w := w.2
                    obtain ⟨a52, ea52, w⟩ := w
                    refine ex_getr (q := 180) dX11_join_177 fl_X11_36 s51 ea52 ?_
                    have s53 := w.1
                    replace w := w.2
                    refine ex_getf (q := 183) dX11_join_180 fl_X11_213 s53 ?_
                    refine ex_imul (q := 184) dX11_join_183 ?_
                    refine ex_nmi (fun x54 ex54 => ?_)
                    replace w := w x54 ex54
                    refine ex_istore (q := 186) (ls' := [.ref a_0, .int v_1, .int v_2, .int v_3, .int v_4, .int x54, .retAddr 0]) dX11_join_184 rfl ?_
                    refine ex_aload_n (q := 187) (x := a_0) dX11_join_186 rfl ?_
                    obtain ⟨a55, ea55, w⟩ := w
                    refine ex_getr (q := 190) dX11_join_187 fl_X11_44 s51 ea55 ?_
                    have s56 := w.1
                    replace w := w.2
                    obtain ⟨a57, ea57, w⟩ := w
                    refine ex_getr (q := 193) dX11_join_190 fl_X11_165 s56 ea57 ?_
                    refine ex_iload (q := 195) (x := x54) dX11_join_193 rfl ?_
                    refine ex_iload (q := 197) (x := v_4) dX11_join_195 rfl ?_
                    refine ex_iadd (q := 198) dX11_join_197 ?_
                    refine ex_aload_n (q := 199) (x := a_0) dX11_join_198 rfl ?_
                    refine ex_getr (q := 202) dX11_join_199 fl_X11_44 s51 ea55 ?_
                    refine ex_getr (q := 205) dX11_join_202 fl_X11_165 s56 ea57 ?_
                    refine ex_iload_n (q := 206) (x := v_2) dX11_join_205 rfl ?_
                    have s58 := w.1
                    replace w := w.2
                    refine ex_iald (q := 207) dX11_join_206 s58 ?_
                    have s60 := w.1
                    replace w := w.2
                    refine ex_iast (q := 208) dX11_join_207 s60 ?_
                    refine ex_nmh (fun h59 eh59 => ?_)
                    replace w := w h59 eh59
                    refine ex_aload_n (q := 209) (x := a_0) dX11_join_208 rfl ?_
                    refine ex_getr (q := 212) dX11_join_209 fl_X11_44 (by rw [eh59]; exact s51) (by rw [eh59]; exact ea55) ?_
                    refine ex_iconst (q := 213) (v := (-1)) dX11_join_212 (by decide) ?_
                    refine ex_callV (q := 216) (M := mX11_join) (hdd := Nat.le_refl _) (c := 7) (st := []) (bc := (bc + 3)) (bs := (bs + 207)) dX11_join_213 rfl cl_X11_219 wd_743 wd_744 (by rw [eh59]; exact s56) w ?_
                    rintro r h61 ⟨x62, rfl, w⟩
                    show ex_G mX11_join (d + 5) 216 [.ref a_0, .int v_1, .int v_2, .int v_3, .int v_4, .int x54, .retAddr 0] [.int x62] h61 (bc + 3) (bs + 207) Q
                    refine ex_istore (q := 218) (ls' := [.ref a_0, .int v_1, .int v_2, .int v_3, .int v_4, .int x54, .int x62]) dX11_join_216 rfl ?_
                    refine ex_aload_n (q := 219) (x := a_0) dX11_join_218 rfl ?_
                    have s63 := w.1
                    replace w := w.2
                    obtain ⟨a64, ea64, w⟩ := w
                    refine ex_getr (q := 222) dX11_join_219 fl_X11_44 s63 ea64 ?_
                    have s65 := w.1
                    replace w := w.2
                    obtain ⟨a66, ea66, w⟩ := w
                    refine ex_getr (q := 225) dX11_join_222 fl_X11_165 s65 ea66 ?_
                    refine ex_aload_n (q := 226) (x := a_0) dX11_join_225 rfl ?_
                    obtain ⟨a67, ea67, w⟩ := w
                    refine ex_getr (q := 229) dX11_join_226 fl_X11_36 s63 ea67 ?_
                    have s68 := w.1
                    replace w := w.2
                    obtain ⟨a69, ea69, w⟩ := w
                    refine ex_getr (q := 232) dX11_join_229 fl_X11_222 s68 ea69 ?_
                    refine ex_iload_n (q := 233) (x := v_2) dX11_join_232 rfl ?_
                    have s70 := w.1
                    replace w := w.2
                    refine ex_iald (q := 234) dX11_join_233 s70 ?_
                    refine ex_iload (q := 236) (x := x62) dX11_join_234 rfl ?_
                    have s72 := w.1
                    replace w := w.2
                    refine ex_iast (q := 237) dX11_join_236 s72 ?_
                    refine ex_nmh (fun h71 eh71 => ?_)
                    replace w := w h71 eh71
                    refine ex_aload_n (q := 238) (x := a_0) dX11_join_237 rfl ?_
                    refine ex_getr (q := 241) dX11_join_238 fl_X11_44 (by rw [eh71]; exact s63) (by rw [eh71]; exact ea64) ?_
                    refine ex_getr (q := 244) dX11_join_241 fl_X11_165 (by rw [eh71]; exact s65) (by rw [eh71]; exact ea66) ?_
                    refine ex_iload (q := 246) (x := x54) dX11_join_244 rfl ?_
                    refine ex_aload_n (q := 247) (x := a_0) dX11_join_246 rfl ?_
                    obtain ⟨a73, ea73, w⟩ := w
                    refine ex_getr (q := 250) dX11_join_247 fl_X11_40 (by rw [eh71]; exact s63) ea73 ?_
                    have s74 := w.1
                    replace w := w.2
                    obtain ⟨a75, ea75, w⟩ := w
                    refine ex_getr (q := 253) dX11_join_250 fl_X11_222 s74 ea75 ?_
                    refine ex_iload (q := 255) (x := v_4) dX11_join_253 rfl ?_
                    have s76 := w.1
                    replace w := w.2
                    refine ex_iald (q := 256) dX11_join_255 s76 ?_
                    refine ex_iadd (q := 257) dX11_join_256 ?_
                    refine ex_iload (q := 259) (x := x62) dX11_join_257 rfl ?_
                    have s78 := w.1
                    replace w := w.2
                    refine ex_iast (q := 260) dX11_join_259 s78 ?_
                    refine ex_nmh (fun h77 eh77 => ?_)
                    replace w := w h77 eh77
                    refine ex_aload_n (q := 261) (x := a_0) dX11_join_260 rfl ?_
                    refine ex_aload_n (q := 262) (x := a_0) dX11_join_261 rfl ?_
                    refine ex_aload_n (q := 263) (x := a_0) dX11_join_262 rfl ?_
                    refine ex_getr (q := 266) dX11_join_263 fl_X11_44 (by rw [eh77]; exact (by rw [eh71]; exact s63)) (by rw [eh77]; exact (by rw [eh71]; exact ea64)) ?_
                    refine ex_G.room (bc' := bc + 3) (bs' := bs + 207) (Nat.le_refl _) (Nat.le_refl _) (Nat.le_refl _) ?_
                    refine ex_callV (q := 269) (M := mX11_join) (hdd := Nat.le_refl _) (c := 11) (st := [.ref a_0]) (bc := bc) (bs := bs) dX11_join_266 rfl cl_X11_127 wd_565 wd_2 (by rw [eh77]; exact (by rw [eh71]; exact s63)) w ?_
                    rintro r h79 ⟨x80, rfl, w⟩
                    show ex_G mX11_join (d + 5) 269 [.ref a_0, .int v_1, .int v_2, .int v_3, .int v_4, .int x54, .int x62] [.int x80, .ref a_0] h79 bc bs Q
                    have s81 := w.1
                    replace w := w.2
                    have s82 := w.1
                    replace w := w.2
                    refine ex_callV (q := 272) (M := mX11_join) (hdd := Nat.le_refl _) (mc := 0) (ms := 0) (d' := (d + 4)) (c := 11) (st := []) (bc := bc) (bs := bs) dX11_join_269 rfl cl_X11_131 wd_576 wd_3 s81 (X11_grant_s (Q := fun r z => r = some (.int (X11_grant_V a_0 x80 h79)) ∧ z = X11_grant_H a_0 x80 h79) s82 ⟨rfl, rfl⟩) ?_
                    intro r z hrz
                    rw [hrz.1, hrz.2]
                    show ex_G mX11_join (d + 5) 272 [.ref a_0, .int v_1, .int v_2, .int v_3, .int v_4, .int x54, .int x62] [.int (X11_grant_V a_0 x80 h79)] (X11_grant_H a_0 x80 h79) bc bs Q
                    refine ex_nmh (fun h83 eh83 => ?_)
                    replace w := w h83 eh83
                    exact ex_ireturn dX11_join_272 rfl (Or.inl rfl) w
                  · replace w := w.2 c36
                    refine ex_aload_n (q := 139) (x := a_0) dX11_join_138 rfl ?_
                    refine ex_bipush (q := 141) (v := (-18)) dX11_join_139 (by decide) ?_
                    refine ex_callV (q := 144) (M := mX11_join) (hdd := Nat.le_refl _) (c := 11) (st := []) (bc := (bc + 3)) (bs := (bs + 207)) dX11_join_141 rfl cl_X11_120 wd_557 wd_1 s22 w ?_
                    rintro r h84 ⟨x85, rfl, w⟩
                    show ex_G mX11_join (d + 5) 144 [.ref a_0, .int v_1, .int v_2, .int v_3, .int v_4, .retAddr 0, .retAddr 0] [.int x85] h84 (bc + 3) (bs + 207) Q
                    exact ex_ireturn dX11_join_144 rfl (Or.inl rfl) w
              · replace w := w.2 c32
                refine ex_aload_n (q := 92) (x := a_0) dX11_join_91 rfl ?_
                refine ex_bipush (q := 94) (v := (-15)) dX11_join_92 (by decide) ?_
                refine ex_callV (q := 97) (M := mX11_join) (hdd := Nat.le_refl _) (c := 11) (st := []) (bc := (bc + 3)) (bs := (bs + 207)) dX11_join_94 rfl cl_X11_120 wd_557 wd_1 s22 w ?_
                rintro r h86 ⟨x87, rfl, w⟩
                show ex_G mX11_join (d + 5) 97 [.ref a_0, .int v_1, .int v_2, .int v_3, .int v_4, .retAddr 0, .retAddr 0] [.int x87] h86 (bc + 3) (bs + 207) Q
                exact ex_ireturn dX11_join_97 rfl (Or.inl rfl) w
          · replace w := w.2 c21
            refine ex_aload_n (q := 62) (x := a_0) dX11_join_61 rfl ?_
            refine ex_bipush (q := 64) (v := (-13)) dX11_join_62 (by decide) ?_
            have s89 := w.1
            replace w := w.2
            refine ex_callV (q := 67) (M := mX11_join) (hdd := Nat.le_refl _) (c := 11) (st := []) (bc := (bc + 3)) (bs := (bs + 207)) dX11_join_64 rfl cl_X11_120 wd_557 wd_1 s89 w ?_
            rintro r h88 ⟨x90, rfl, w⟩
            show ex_G mX11_join (d + 5) 67 [.ref a_0, .int v_1, .int v_2, .int v_3, .int v_4, .retAddr 0, .retAddr 0] [.int x90] h88 (bc + 3) (bs + 207) Q
            exact ex_ireturn dX11_join_67 rfl (Or.inl rfl) w
      · replace w := w.2 c9
        refine ex_aload_n (q := 31) (x := a_0) dX11_join_30 rfl ?_
        refine ex_bipush (q := 33) (v := (-3)) dX11_join_31 (by decide) ?_
        refine ex_callV (q := 36) (M := mX11_join) (hdd := Nat.le_refl _) (c := 11) (st := []) (bc := (bc + 3)) (bs := (bs + 207)) dX11_join_33 rfl cl_X11_120 wd_557 wd_1 s1 w ?_
        rintro r h91 ⟨x92, rfl, w⟩
        show ex_G mX11_join (d + 5) 36 [.ref a_0, .int v_1, .int v_2, .int v_3, .int v_4, .retAddr 0, .retAddr 0] [.int x92] h91 (bc + 3) (bs + 207) Q
        exact ex_ireturn dX11_join_36 rfl (Or.inl rfl) w
    · replace w := w.2 c7
      refine ex_aload_n (q := 17) (x := a_0) dX11_join_16 rfl ?_
      refine ex_bipush (q := 19) (v := (-2)) dX11_join_17 (by decide) ?_
      refine ex_callV (q := 22) (M := mX11_join) (hdd := Nat.le_refl _) (c := 11) (st := []) (bc := (bc + 3)) (bs := (bs + 207)) dX11_join_19 rfl cl_X11_120 wd_557 wd_1 s1 w ?_
      rintro r h93 ⟨x94, rfl, w⟩
      show ex_G mX11_join (d + 5) 22 [.ref a_0, .int v_1, .int v_2, .int v_3, .int v_4, .retAddr 0, .retAddr 0] [.int x94] h93 (bc + 3) (bs + 207) Q
      exact ex_ireturn dX11_join_22 rfl (Or.inl rfl) w

theorem X11_join_e {d bc bs : Nat} {h : AH} {Q : Option Value → AH → Prop} {a_0 : Nat} {v_1 : Int32} {v_2 : Int32} {v_3 : Int32} {v_4 : Int32} (w : ex_G mX11_join (d + 5) 0 [.ref a_0, .int v_1, .int v_2, .int v_3, .int v_4, .retAddr 0, .retAddr 0] [] h bc bs Q) : ex_S yX11_join mX11_join (d + 5) [.ref a_0, .int v_1, .int v_2, .int v_3, .int v_4] h bc bs Q :=
  ex_enter (plainFor_of_name (by decide +kernel)) ⟨rfl, rfl⟩ rfl rfl (Nat.le_of_ble_eq_true rfl) (ex_pad 2 w)

set_option maxRecDepth 100000 in
theorem X11_twin_0 {d bc bs : Nat} {h : AH} {Q : Option Value → AH → Prop} {a_0 : Nat} {v_1 : Int32} (w : ah_o h a_0 11 ∧ X11_hasPicture_C a_0 v_1 h ∧ ((¬ (X11_hasPicture_V a_0 v_1 h) = 0 → X11_isFull_C a_0 h ∧ (((X11_isFull_V a_0 h) = 0 → ∃ a6, ah_r h a_0 0 = some a6 ∧ ld3 h 11 a6 v_1 ∧ ∃ a8, ah_q h a6 (Int32.toNatClampNeg v_1) = some a8 ∧ ex_S yX11_addLike mX11_addLike (d + 2) [.ref a_0, .ref a8] h 3 207 (fun r h9 => ∃ x10, r = some (.int x10) ∧ ah_o h9 a_0 11 ∧ X11_grant_C a_0 x10 h9 ∧ ∀ h13, h13 = X11_grant_H a_0 x10 h9 → Q (some (.int (X11_grant_V a_0 x10 h9))) h13)) ∧ (¬ (X11_isFull_V a_0 h) = 0 → ex_S yX11_refuse mX11_refuse (d + 2) [.ref a_0, .int (-3)] h 0 0 (fun r h14 => ∃ x15, r = some (.int x15) ∧ Q (some (.int x15)) h14)))) ∧ ((X11_hasPicture_V a_0 v_1 h) = 0 → ex_S yX11_refuse mX11_refuse (d + 2) [.ref a_0, .int (-2)] h 0 0 (fun r h16 => ∃ x17, r = some (.int x17) ∧ Q (some (.int x17)) h16)))) : ex_G mX11_twin (d + 3) 0 [.ref a_0, .int v_1] [] h (bc + 3) (bs + 207) Q := by
  refine ex_aload_n (q := 1) (x := a_0) dX11_twin_0 rfl ?_
  refine ex_iload_n (q := 2) (x := v_1) dX11_twin_1 rfl ?_
  have s1 := w.1
  replace w := w.2
  have s2 := w.1
  replace w := w.2
  refine ex_callV (q := 5) (M := mX11_twin) (hdd := Nat.le_refl _) (mc := 0) (ms := 0) (d' := (d + 2)) (c := 11) (st := []) (bc := (bc + 3)) (bs := (bs + 207)) dX11_twin_2 rfl cl_X11_134 wd_584 wd_4 s1 (X11_hasPicture_s (Q := fun r z => r = some (.int (X11_hasPicture_V a_0 v_1 h)) ∧ z = h) s2 ⟨rfl, rfl⟩) ?_
  intro r z hrz
  rw [hrz.1, hrz.2]
  show ex_G mX11_twin (d + 3) 5 [.ref a_0, .int v_1] [.int (X11_hasPicture_V a_0 v_1 h)] (h) (bc + 3) (bs + 207) Q
  refine ex_if_ne (tgt := 15) (q := 8) dX11_twin_5 (fun c3 => ?_) (fun c3 => ?_)
  · replace w := w.1 c3
    refine ex_aload_n (q := 16) (x := a_0) dX11_twin_15 rfl ?_
    have s4 := w.1
    replace w := w.2
    refine ex_callV (q := 19) (M := mX11_twin) (hdd := Nat.le_refl _) (mc := 0) (ms := 0) (d' := (d + 2)) (c := 11) (st := []) (bc := (bc + 3)) (bs := (bs + 207)) dX11_twin_16 rfl cl_X11_116 wd_553 wd_0 s1 (X11_isFull_s (Q := fun r z => r = some (.int (X11_isFull_V a_0 h)) ∧ z = h) s4 ⟨rfl, rfl⟩) ?_
    intro r z hrz
    rw [hrz.1, hrz.2]
    show ex_G mX11_twin (d + 3) 19 [.ref a_0, .int v_1] [.int (X11_isFull_V a_0 h)] (h) (bc + 3) (bs + 207) Q
    refine ex_if_eq (tgt := 31) (q := 22) dX11_twin_19 (fun c5 => ?_) (fun c5 => ?_)
    · replace w := w.1 c5
      refine ex_aload_n (q := 32) (x := a_0) dX11_twin_31 rfl ?_
      refine ex_aload_n (q := 33) (x := a_0) dX11_twin_32 rfl ?_
      refine ex_aload_n (q := 34) (x := a_0) dX11_twin_33 rfl ?_
      obtain ⟨a6, ea6, w⟩ := w
      refine ex_getr (q := 37) dX11_twin_34 fl_X11_11 s1 ea6 ?_
      refine ex_iload_n (q := 38) (x := v_1) dX11_twin_37 rfl ?_
      have s7 := w.1
      replace w := w.2
      obtain ⟨a8, ea8, w⟩ := w
      refine ex_aald (q := 39) dX11_twin_38 s7 ea8 ?_
      refine ex_G.room (bc' := bc + 3) (bs' := bs + 207) (Nat.le_refl _) (Nat.le_refl _) (Nat.le_refl _) ?_
      refine ex_callV (q := 42) (M := mX11_twin) (hdd := Nat.le_refl _) (c := 11) (st := [.ref a_0]) (bc := bc) (bs := bs) dX11_twin_39 rfl cl_X11_127 wd_565 wd_2 s1 w ?_
      rintro r h9 ⟨x10, rfl, w⟩
      show ex_G mX11_twin (d + 3) 42 [.ref a_0, .int v_1] [.int x10, .ref a_0] h9 bc bs Q
      have s11 := w.1
      replace w := w.2
      have s12 := w.1
      replace w := w.2
      refine ex_callV (q := 45) (M := mX11_twin) (hdd := Nat.le_refl _) (mc := 0) (ms := 0) (d' := (d + 2)) (c := 11) (st := []) (bc := bc) (bs := bs) dX11_twin_42 rfl cl_X11_131 wd_576 wd_3 s11 (X11_grant_s (Q := fun r z => r = some (.int (X11_grant_V a_0 x10 h9)) ∧ z = X11_grant_H a_0 x10 h9) s12 ⟨rfl, rfl⟩) ?_
      intro r z hrz
      rw [hrz.1, hrz.2]
      show ex_G mX11_twin (d + 3) 45 [.ref a_0, .int v_1] [.int (X11_grant_V a_0 x10 h9)] (X11_grant_H a_0 x10 h9) bc bs Q
      refine ex_nmh (fun h13 eh13 => ?_)
      replace w := w h13 eh13
      exact ex_ireturn dX11_twin_45 rfl (Or.inl rfl) w
    · replace w := w.2 c5
      refine ex_aload_n (q := 23) (x := a_0) dX11_twin_22 rfl ?_
      refine ex_bipush (q := 25) (v := (-3)) dX11_twin_23 (by decide) ?_
      refine ex_callV (q := 28) (M := mX11_twin) (hdd := Nat.le_refl _) (c := 11) (st := []) (bc := (bc + 3)) (bs := (bs + 207)) dX11_twin_25 rfl cl_X11_120 wd_557 wd_1 s1 w ?_
      rintro r h14 ⟨x15, rfl, w⟩
      show ex_G mX11_twin (d + 3) 28 [.ref a_0, .int v_1] [.int x15] h14 (bc + 3) (bs + 207) Q
      refine ex_goto (tgt := 45) dX11_twin_28 ?_
      exact ex_ireturn dX11_twin_45 rfl (Or.inl rfl) w
  · replace w := w.2 c3
    refine ex_aload_n (q := 9) (x := a_0) dX11_twin_8 rfl ?_
    refine ex_bipush (q := 11) (v := (-2)) dX11_twin_9 (by decide) ?_
    refine ex_callV (q := 14) (M := mX11_twin) (hdd := Nat.le_refl _) (c := 11) (st := []) (bc := (bc + 3)) (bs := (bs + 207)) dX11_twin_11 rfl cl_X11_120 wd_557 wd_1 s1 w ?_
    rintro r h16 ⟨x17, rfl, w⟩
    show ex_G mX11_twin (d + 3) 14 [.ref a_0, .int v_1] [.int x17] h16 (bc + 3) (bs + 207) Q
    exact ex_ireturn dX11_twin_14 rfl (Or.inl rfl) w

theorem X11_twin_e {d bc bs : Nat} {h : AH} {Q : Option Value → AH → Prop} {a_0 : Nat} {v_1 : Int32} (w : ex_G mX11_twin (d + 3) 0 [.ref a_0, .int v_1] [] h bc bs Q) : ex_S yX11_twin mX11_twin (d + 3) [.ref a_0, .int v_1] h bc bs Q :=
  ex_enter (plainFor_of_name (by decide +kernel)) ⟨rfl, rfl⟩ rfl rfl (Nat.le_of_ble_eq_true rfl) (ex_pad 0 w)

set_option maxRecDepth 100000 in
theorem X11_undo_0 {d bc bs : Nat} {h : AH} {Q : Option Value → AH → Prop} {a_0 : Nat} {v_1 : Int32} (w : ah_o h a_0 11 ∧ X11_hasPicture_C a_0 v_1 h ∧ ((¬ (X11_hasPicture_V a_0 v_1 h) = 0 → ∃ a4, ah_r h a_0 0 = some a4 ∧ ld3 h 11 a4 v_1 ∧ ∃ a6, ah_q h a4 (Int32.toNatClampNeg v_1) = some a6 ∧ ah_o h a6 7 ∧ ex_S yX7_goBack mX7_goBack (d + 2) [.ref a6] h 0 0 (fun r h7 => ∃ x9, r = some (.int x9) ∧ ((x9 = 0 → ah_o h7 a_0 11 ∧ ex_S yX11_refuse mX11_refuse (d + 2) [.ref a_0, .int (-15)] h7 0 0 (fun r h11 => ∃ x13, r = some (.int x13) ∧ Q (some (.int x13)) h11)) ∧ (¬ x9 = 0 → ah_o h7 a_0 11 ∧ ∃ a15, ah_r h7 a_0 0 = some a15 ∧ ld3 h7 11 a15 v_1 ∧ ∃ a17, ah_q h7 a15 (Int32.toNatClampNeg v_1) = some a17 ∧ ah_o h7 a17 7 ∧ X11_grant_C a_0 (ah_f h7 a17 5) h7 ∧ ∀ h20, h20 = X11_grant_H a_0 (ah_f h7 a17 5) h7 → Q (some (.int (X11_grant_V a_0 (ah_f h7 a17 5) h7))) h20)))) ∧ ((X11_hasPicture_V a_0 v_1 h) = 0 → ex_S yX11_refuse mX11_refuse (d + 2) [.ref a_0, .int (-2)] h 0 0 (fun r h21 => ∃ x22, r = some (.int x22) ∧ Q (some (.int x22)) h21)))) : ex_G mX11_undo (d + 3) 0 [.ref a_0, .int v_1] [] h bc bs Q := by
  refine ex_aload_n (q := 1) (x := a_0) dX11_undo_0 rfl ?_
  refine ex_iload_n (q := 2) (x := v_1) dX11_undo_1 rfl ?_
  have s1 := w.1
  replace w := w.2
  have s2 := w.1
  replace w := w.2
  refine ex_callV (q := 5) (M := mX11_undo) (hdd := Nat.le_refl _) (mc := 0) (ms := 0) (d' := (d + 2)) (c := 11) (st := []) (bc := bc) (bs := bs) dX11_undo_2 rfl cl_X11_134 wd_584 wd_4 s1 (X11_hasPicture_s (Q := fun r z => r = some (.int (X11_hasPicture_V a_0 v_1 h)) ∧ z = h) s2 ⟨rfl, rfl⟩) ?_
  intro r z hrz
  rw [hrz.1, hrz.2]
  show ex_G mX11_undo (d + 3) 5 [.ref a_0, .int v_1] [.int (X11_hasPicture_V a_0 v_1 h)] (h) bc bs Q
  refine ex_if_ne (tgt := 15) (q := 8) dX11_undo_5 (fun c3 => ?_) (fun c3 => ?_)
  · replace w := w.1 c3
    refine ex_aload_n (q := 16) (x := a_0) dX11_undo_15 rfl ?_
    obtain ⟨a4, ea4, w⟩ := w
    refine ex_getr (q := 19) dX11_undo_16 fl_X11_11 s1 ea4 ?_
    refine ex_iload_n (q := 20) (x := v_1) dX11_undo_19 rfl ?_
    have s5 := w.1
    replace w := w.2
    obtain ⟨a6, ea6, w⟩ := w
    refine ex_aald (q := 21) dX11_undo_20 s5 ea6 ?_
    have s8 := w.1
    replace w := w.2
    refine ex_callV (q := 24) (M := mX11_undo) (hdd := Nat.le_refl _) (c := 7) (st := []) (bc := bc) (bs := bs) dX11_undo_21 rfl cl_X11_225 wd_756 wd_757 s8 w ?_
    rintro r h7 ⟨x9, rfl, w⟩
    show ex_G mX11_undo (d + 3) 24 [.ref a_0, .int v_1] [.int x9] h7 bc bs Q
    refine ex_if_eq (tgt := 43) (q := 27) dX11_undo_24 (fun c10 => ?_) (fun c10 => ?_)
    · replace w := w.1 c10
      refine ex_aload_n (q := 44) (x := a_0) dX11_undo_43 rfl ?_
      refine ex_bipush (q := 46) (v := (-15)) dX11_undo_44 (by decide) ?_
      have s12 := w.1
      replace w := w.2
      refine ex_callV (q := 49) (M := mX11_undo) (hdd := Nat.le_refl _) (c := 11) (st := []) (bc := bc) (bs := bs) dX11_undo_46 rfl cl_X11_120 wd_557 wd_1 s12 w ?_
      rintro r h11 ⟨x13, rfl, w⟩
      show ex_G mX11_undo (d + 3) 49 [.ref a_0, .int v_1] [.int x13] h11 bc bs Q
      exact ex_ireturn dX11_undo_49 rfl (Or.inl rfl) w
    · replace w := w.2 c10
      refine ex_aload_n (q := 28) (x := a_0) dX11_undo_27 rfl ?_
      refine ex_aload_n (q := 29) (x := a_0) dX11_undo_28 rfl ?_
      have s14 := w.1
      replace w := w.2
      obtain ⟨a15, ea15, w⟩ := w
      refine ex_getr (q := 32) dX11_undo_29 fl_X11_11 s14 ea15 ?_
      refine ex_iload_n (q := 33) (x := v_1) dX11_undo_32 rfl ?_
      have s16 := w.1
      replace w := w.2
      obtain ⟨a17, ea17, w⟩ := w
      refine ex_aald (q := 34) dX11_undo_33 s16 ea17 ?_
      have s18 := w.1
      replace w := w.2
      refine ex_getf (q := 37) dX11_undo_34 fl_X11_228 s18 ?_
      have s19 := w.1
      replace w := w.2
      refine ex_callV (q := 40) (M := mX11_undo) (hdd := Nat.le_refl _) (mc := 0) (ms := 0) (d' := (d + 2)) (c := 11) (st := []) (bc := bc) (bs := bs) dX11_undo_37 rfl cl_X11_131 wd_576 wd_3 s14 (X11_grant_s (Q := fun r z => r = some (.int (X11_grant_V a_0 (ah_f h7 a17 5) h7)) ∧ z = X11_grant_H a_0 (ah_f h7 a17 5) h7) s19 ⟨rfl, rfl⟩) ?_
      intro r z hrz
      rw [hrz.1, hrz.2]
      show ex_G mX11_undo (d + 3) 40 [.ref a_0, .int v_1] [.int (X11_grant_V a_0 (ah_f h7 a17 5) h7)] (X11_grant_H a_0 (ah_f h7 a17 5) h7) bc bs Q
      refine ex_nmh (fun h20 eh20 => ?_)
      replace w := w h20 eh20
      refine ex_goto (tgt := 49) dX11_undo_40 ?_
      exact ex_ireturn dX11_undo_49 rfl (Or.inl rfl) w
  · replace w := w.2 c3
    refine ex_aload_n (q := 9) (x := a_0) dX11_undo_8 rfl ?_
    refine ex_bipush (q := 11) (v := (-2)) dX11_undo_9 (by decide) ?_
    refine ex_callV (q := 14) (M := mX11_undo) (hdd := Nat.le_refl _) (c := 11) (st := []) (bc := bc) (bs := bs) dX11_undo_11 rfl cl_X11_120 wd_557 wd_1 s1 w ?_
    rintro r h21 ⟨x22, rfl, w⟩
    show ex_G mX11_undo (d + 3) 14 [.ref a_0, .int v_1] [.int x22] h21 bc bs Q
    exact ex_ireturn dX11_undo_14 rfl (Or.inl rfl) w

theorem X11_undo_e {d bc bs : Nat} {h : AH} {Q : Option Value → AH → Prop} {a_0 : Nat} {v_1 : Int32} (w : ex_G mX11_undo (d + 3) 0 [.ref a_0, .int v_1] [] h bc bs Q) : ex_S yX11_undo mX11_undo (d + 3) [.ref a_0, .int v_1] h bc bs Q :=
  ex_enter (plainFor_of_name (by decide +kernel)) ⟨rfl, rfl⟩ rfl rfl (Nat.le_of_ble_eq_true rfl) (ex_pad 0 w)

set_option maxRecDepth 100000 in
theorem X11_sign_0 {d bc bs : Nat} {h : AH} {Q : Option Value → AH → Prop} {a_0 : Nat} {v_1 : Int32} {v_2 : Int32} (w : ah_o h a_0 11 ∧ X11_hasPicture_C a_0 v_1 h ∧ ((¬ (X11_hasPicture_V a_0 v_1 h) = 0 → ∃ a4, ah_r h a_0 4 = some a4 ∧ ex_S yX11_isWhole mX11_isWhole (d + 4) [.ref a_0, .int v_1, .ref a4] h 0 0 (fun r h5 => ∃ x6, r = some (.int x6) ∧ ((¬ x6 = 0 → ah_o h5 a_0 11 ∧ ∃ a9, ah_r h5 a_0 0 = some a9 ∧ ld3 h5 11 a9 v_1 ∧ ∃ a11, ah_q h5 a9 (Int32.toNatClampNeg v_1) = some a11 ∧ ah_o h5 a11 7 ∧ X7_hasCrossing_C a11 v_2 h5 ∧ (((X7_hasCrossing_V a11 v_2 h5) = 0 → ex_S yX11_refuse mX11_refuse (d + 4) [.ref a_0, .int (-12)] h5 0 0 (fun r h15 => ∃ x16, r = some (.int x16) ∧ Q (some (.int x16)) h15)) ∧ (¬ (X7_hasCrossing_V a11 v_2 h5) = 0 → ∃ a17, ah_r h5 a_0 4 = some a17 ∧ ah_o h5 a17 4 ∧ ∃ a19, ah_r h5 a17 6 = some a19 ∧ ld0 h5 a19 v_2 ∧ X11_grant_C a_0 (ah_i h5 a19 (Int32.toNatClampNeg v_2)) h5 ∧ ∀ h22, h22 = X11_grant_H a_0 (ah_i h5 a19 (Int32.toNatClampNeg v_2)) h5 → Q (some (.int (X11_grant_V a_0 (ah_i h5 a19 (Int32.toNatClampNeg v_2)) h5))) h22))) ∧ (x6 = 0 → ah_o h5 a_0 11 ∧ ex_S yX11_refuse mX11_refuse (d + 4) [.ref a_0, .int (-13)] h5 0 0 (fun r h23 => ∃ x25, r = some (.int x25) ∧ Q (some (.int x25)) h23))))) ∧ ((X11_hasPicture_V a_0 v_1 h) = 0 → ex_S yX11_refuse mX11_refuse (d + 4) [.ref a_0, .int (-2)] h 0 0 (fun r h26 => ∃ x27, r = some (.int x27) ∧ Q (some (.int x27)) h26)))) : ex_G mX11_sign (d + 5) 0 [.ref a_0, .int v_1, .int v_2] [] h bc bs Q := by
  refine ex_aload_n (q := 1) (x := a_0) dX11_sign_0 rfl ?_
  refine ex_iload_n (q := 2) (x := v_1) dX11_sign_1 rfl ?_
  have s1 := w.1
  replace w := w.2
  have s2 := w.1
  replace w := w.2
  refine ex_callV (q := 5) (M := mX11_sign) (hdd := Nat.le_refl _) (mc := 0) (ms := 0) (d' := (d + 4)) (c := 11) (st := []) (bc := bc) (bs := bs) dX11_sign_2 rfl cl_X11_134 wd_584 wd_4 s1 (X11_hasPicture_s (Q := fun r z => r = some (.int (X11_hasPicture_V a_0 v_1 h)) ∧ z = h) s2 ⟨rfl, rfl⟩) ?_
  intro r z hrz
  rw [hrz.1, hrz.2]
  show ex_G mX11_sign (d + 5) 5 [.ref a_0, .int v_1, .int v_2] [.int (X11_hasPicture_V a_0 v_1 h)] (h) bc bs Q
  refine ex_if_ne (tgt := 15) (q := 8) dX11_sign_5 (fun c3 => ?_) (fun c3 => ?_)
  · replace w := w.1 c3
    refine ex_aload_n (q := 16) (x := a_0) dX11_sign_15 rfl ?_
    refine ex_iload_n (q := 17) (x := v_1) dX11_sign_16 rfl ?_
    refine ex_aload_n (q := 18) (x := a_0) dX11_sign_17 rfl ?_
    obtain ⟨a4, ea4, w⟩ := w
    refine ex_getr (q := 21) dX11_sign_18 fl_X11_36 s1 ea4 ?_
    refine ex_callV (q := 24) (M := mX11_sign) (hdd := Nat.le_refl _) (c := 11) (st := []) (bc := bc) (bs := bs) dX11_sign_21 rfl cl_X11_184 wd_695 wd_13 s1 w ?_
    rintro r h5 ⟨x6, rfl, w⟩
    show ex_G mX11_sign (d + 5) 24 [.ref a_0, .int v_1, .int v_2] [.int x6] h5 bc bs Q
    refine ex_if_ne (tgt := 34) (q := 27) dX11_sign_24 (fun c7 => ?_) (fun c7 => ?_)
    · replace w := w.1 c7
      refine ex_aload_n (q := 35) (x := a_0) dX11_sign_34 rfl ?_
      have s8 := w.1
      replace w := w.2
      obtain ⟨a9, ea9, w⟩ := w
      refine ex_getr (q := 38) dX11_sign_35 fl_X11_11 s8 ea9 ?_
      refine ex_iload_n (q := 39) (x := v_1) dX11_sign_38 rfl ?_
      have s10 := w.1
      replace w := w.2
      obtain ⟨a11, ea11, w⟩ := w
      refine ex_aald (q := 40) dX11_sign_39 s10 ea11 ?_
      refine ex_iload_n (q := 41) (x := v_2) dX11_sign_40 rfl ?_
      have s12 := w.1
      replace w := w.2
      have s13 := w.1
      replace w := w.2
      refine ex_callV (q := 44) (M := mX11_sign) (hdd := Nat.le_refl _) (mc := 0) (ms := 0) (d' := (d + 4)) (c := 7) (st := []) (bc := bc) (bs := bs) dX11_sign_41 rfl cl_X11_151 wd_602 wd_603 s12 (X7_hasCrossing_s (Q := fun r z => r = some (.int (X7_hasCrossing_V a11 v_2 h5)) ∧ z = h5) s13 ⟨rfl, rfl⟩) ?_
      intro r z hrz
      rw [hrz.1, hrz.2]
      show ex_G mX11_sign (d + 5) 44 [.ref a_0, .int v_1, .int v_2] [.int (X7_hasCrossing_V a11 v_2 h5)] (h5) bc bs Q
      refine ex_if_eq (tgt := 63) (q := 47) dX11_sign_44 (fun c14 => ?_) (fun c14 => ?_)
      · replace w := w.1 c14
        refine ex_aload_n (q := 64) (x := a_0) dX11_sign_63 rfl ?_
        refine ex_bipush (q := 66) (v := (-12)) dX11_sign_64 (by decide) ?_
        refine ex_callV (q := 69) (M := mX11_sign) (hdd := Nat.le_refl _) (c := 11) (st := []) (bc := bc) (bs := bs) dX11_sign_66 rfl cl_X11_120 wd_557 wd_1 s8 w ?_
        rintro r h15 ⟨x16, rfl, w⟩
        show ex_G mX11_sign (d + 5) 69 [.ref a_0, .int v_1, .int v_2] [.int x16] h15 bc bs Q
        exact ex_ireturn dX11_sign_69 rfl (Or.inl rfl) w
      · replace w := w.2 c14
        refine ex_aload_n (q := 48) (x := a_0) dX11_sign_47 rfl ?_
        refine ex_aload_n (q := 49) (x := a_0) dX11_sign_48 rfl ?_
        obtain ⟨a17, ea17, w⟩ := w
        refine ex_getr (q := 52) dX11_sign_49 fl_X11_36 s8 ea17 ?_
        have s18 := w.1
        replace w := w.2
        obtain ⟨a19, ea19, w⟩ := w
        refine ex_getr (q := 55) dX11_sign_52 fl_X11_231 s18 ea19 ?_
        refine ex_iload_n (q := 56) (x := v_2) dX11_sign_55 rfl ?_
        have s20 := w.1
        replace w := w.2
        refine ex_iald (q := 57) dX11_sign_56 s20 ?_
        have s21 := w.1
        replace w := w.2
        refine ex_callV (q := 60) (M := mX11_sign) (hdd := Nat.le_refl _) (mc := 0) (ms := 0) (d' := (d + 4)) (c := 11) (st := []) (bc := bc) (bs := bs) dX11_sign_57 rfl cl_X11_131 wd_576 wd_3 s8 (X11_grant_s (Q := fun r z => r = some (.int (X11_grant_V a_0 (ah_i h5 a19 (Int32.toNatClampNeg v_2)) h5)) ∧ z = X11_grant_H a_0 (ah_i h5 a19 (Int32.toNatClampNeg v_2)) h5) s21 ⟨rfl, rfl⟩) ?_
        intro r z hrz
        rw [hrz.1, hrz.2]
        show ex_G mX11_sign (d + 5) 60 [.ref a_0, .int v_1, .int v_2] [.int (X11_grant_V a_0 (ah_i h5 a19 (Int32.toNatClampNeg v_2)) h5)] (X11_grant_H a_0 (ah_i h5 a19 (Int32.toNatClampNeg v_2)) h5) bc bs Q
        refine ex_nmh (fun h22 eh22 => ?_)
        replace w := w h22 eh22
        refine ex_goto (tgt := 69) dX11_sign_60 ?_
        exact ex_ireturn dX11_sign_69 rfl (Or.inl rfl) w
    · replace w := w.2 c7
      refine ex_aload_n (q := 28) (x := a_0) dX11_sign_27 rfl ?_
      refine ex_bipush (q := 30) (v := (-13)) dX11_sign_28 (by decide) ?_
      have s24 := w.1
      replace w := w.2
      refine ex_callV (q := 33) (M := mX11_sign) (hdd := Nat.le_refl _) (c := 11) (st := []) (bc := bc) (bs := bs) dX11_sign_30 rfl cl_X11_120 wd_557 wd_1 s24 w ?_
      rintro r h23 ⟨x25, rfl, w⟩
      show ex_G mX11_sign (d + 5) 33 [.ref a_0, .int v_1, .int v_2] [.int x25] h23 bc bs Q
      exact ex_ireturn dX11_sign_33 rfl (Or.inl rfl) w
  · replace w := w.2 c3
    refine ex_aload_n (q := 9) (x := a_0) dX11_sign_8 rfl ?_
    refine ex_bipush (q := 11) (v := (-2)) dX11_sign_9 (by decide) ?_
    refine ex_callV (q := 14) (M := mX11_sign) (hdd := Nat.le_refl _) (c := 11) (st := []) (bc := bc) (bs := bs) dX11_sign_11 rfl cl_X11_120 wd_557 wd_1 s1 w ?_
    rintro r h26 ⟨x27, rfl, w⟩
    show ex_G mX11_sign (d + 5) 14 [.ref a_0, .int v_1, .int v_2] [.int x27] h26 bc bs Q
    exact ex_ireturn dX11_sign_14 rfl (Or.inl rfl) w

theorem X11_sign_e {d bc bs : Nat} {h : AH} {Q : Option Value → AH → Prop} {a_0 : Nat} {v_1 : Int32} {v_2 : Int32} (w : ex_G mX11_sign (d + 5) 0 [.ref a_0, .int v_1, .int v_2] [] h bc bs Q) : ex_S yX11_sign mX11_sign (d + 5) [.ref a_0, .int v_1, .int v_2] h bc bs Q :=
  ex_enter (plainFor_of_name (by decide +kernel)) ⟨rfl, rfl⟩ rfl rfl (Nat.le_of_ble_eq_true rfl) (ex_pad 0 w)

set_option maxRecDepth 100000 in
theorem X11_pieceOf_0 {d bc bs : Nat} {h : AH} {Q : Option Value → AH → Prop} {a_0 : Nat} {v_1 : Int32} {v_2 : Int32} (w : ah_o h a_0 11 ∧ X11_hasPicture_C a_0 v_1 h ∧ ((¬ (X11_hasPicture_V a_0 v_1 h) = 0 → ∃ a4, ah_r h a_0 4 = some a4 ∧ ex_S yX11_isWhole mX11_isWhole (d + 4) [.ref a_0, .int v_1, .ref a4] h 0 0 (fun r h5 => ∃ x6, r = some (.int x6) ∧ ((¬ x6 = 0 → ah_o h5 a_0 11 ∧ ∃ a9, ah_r h5 a_0 4 = some a9 ∧ ah_o h5 a9 4 ∧ X4_hasEnd_C a9 v_2 h5 ∧ (((X4_hasEnd_V a9 v_2 h5) = 0 → ex_S yX11_refuse mX11_refuse (d + 4) [.ref a_0, .int (-12)] h5 0 0 (fun r h13 => ∃ x14, r = some (.int x14) ∧ Q (some (.int x14)) h13)) ∧ (¬ (X4_hasEnd_V a9 v_2 h5) = 0 → ∃ a15, ah_r h5 a9 3 = some a15 ∧ ld0 h5 a15 v_2 ∧ X11_grant_C a_0 (ah_i h5 a15 (Int32.toNatClampNeg v_2)) h5 ∧ ∀ h18, h18 = X11_grant_H a_0 (ah_i h5 a15 (Int32.toNatClampNeg v_2)) h5 → Q (some (.int (X11_grant_V a_0 (ah_i h5 a15 (Int32.toNatClampNeg v_2)) h5))) h18))) ∧ (x6 = 0 → ah_o h5 a_0 11 ∧ ex_S yX11_refuse mX11_refuse (d + 4) [.ref a_0, .int (-13)] h5 0 0 (fun r h19 => ∃ x21, r = some (.int x21) ∧ Q (some (.int x21)) h19))))) ∧ ((X11_hasPicture_V a_0 v_1 h) = 0 → ex_S yX11_refuse mX11_refuse (d + 4) [.ref a_0, .int (-2)] h 0 0 (fun r h22 => ∃ x23, r = some (.int x23) ∧ Q (some (.int x23)) h22)))) : ex_G mX11_pieceOf (d + 5) 0 [.ref a_0, .int v_1, .int v_2] [] h bc bs Q := by
  refine ex_aload_n (q := 1) (x := a_0) dX11_pieceOf_0 rfl ?_
  refine ex_iload_n (q := 2) (x := v_1) dX11_pieceOf_1 rfl ?_
  have s1 := w.1
  replace w := w.2
  have s2 := w.1
  replace w := w.2
  refine ex_callV (q := 5) (M := mX11_pieceOf) (hdd := Nat.le_refl _) (mc := 0) (ms := 0) (d' := (d + 4)) (c := 11) (st := []) (bc := bc) (bs := bs) dX11_pieceOf_2 rfl cl_X11_134 wd_584 wd_4 s1 (X11_hasPicture_s (Q := fun r z => r = some (.int (X11_hasPicture_V a_0 v_1 h)) ∧ z = h) s2 ⟨rfl, rfl⟩) ?_
  intro r z hrz
  rw [hrz.1, hrz.2]
  show ex_G mX11_pieceOf (d + 5) 5 [.ref a_0, .int v_1, .int v_2] [.int (X11_hasPicture_V a_0 v_1 h)] (h) bc bs Q
  refine ex_if_ne (tgt := 15) (q := 8) dX11_pieceOf_5 (fun c3 => ?_) (fun c3 => ?_)
  · replace w := w.1 c3
    refine ex_aload_n (q := 16) (x := a_0) dX11_pieceOf_15 rfl ?_
    refine ex_iload_n (q := 17) (x := v_1) dX11_pieceOf_16 rfl ?_
    refine ex_aload_n (q := 18) (x := a_0) dX11_pieceOf_17 rfl ?_
    obtain ⟨a4, ea4, w⟩ := w
    refine ex_getr (q := 21) dX11_pieceOf_18 fl_X11_36 s1 ea4 ?_
    refine ex_callV (q := 24) (M := mX11_pieceOf) (hdd := Nat.le_refl _) (c := 11) (st := []) (bc := bc) (bs := bs) dX11_pieceOf_21 rfl cl_X11_184 wd_695 wd_13 s1 w ?_
    rintro r h5 ⟨x6, rfl, w⟩
    show ex_G mX11_pieceOf (d + 5) 24 [.ref a_0, .int v_1, .int v_2] [.int x6] h5 bc bs Q
    refine ex_if_ne (tgt := 34) (q := 27) dX11_pieceOf_24 (fun c7 => ?_) (fun c7 => ?_)
    · replace w := w.1 c7
      refine ex_aload_n (q := 35) (x := a_0) dX11_pieceOf_34 rfl ?_
      have s8 := w.1
      replace w := w.2
      obtain ⟨a9, ea9, w⟩ := w
      refine ex_getr (q := 38) dX11_pieceOf_35 fl_X11_36 s8 ea9 ?_
      refine ex_iload_n (q := 39) (x := v_2) dX11_pieceOf_38 rfl ?_
      have s10 := w.1
      replace w := w.2
      have s11 := w.1
      replace w := w.2
      refine ex_callV (q := 42) (M := mX11_pieceOf) (hdd := Nat.le_refl _) (mc := 0) (ms := 0) (d' := (d + 4)) (c := 4) (st := []) (bc := bc) (bs := bs) dX11_pieceOf_39 rfl cl_X11_210 wd_734 wd_735 s10 (X4_hasEnd_s (Q := fun r z => r = some (.int (X4_hasEnd_V a9 v_2 h5)) ∧ z = h5) s11 ⟨rfl, rfl⟩) ?_
      intro r z hrz
      rw [hrz.1, hrz.2]
      show ex_G mX11_pieceOf (d + 5) 42 [.ref a_0, .int v_1, .int v_2] [.int (X4_hasEnd_V a9 v_2 h5)] (h5) bc bs Q
      refine ex_if_eq (tgt := 61) (q := 45) dX11_pieceOf_42 (fun c12 => ?_) (fun c12 => ?_)
      · replace w := w.1 c12
        refine ex_aload_n (q := 62) (x := a_0) dX11_pieceOf_61 rfl ?_
        refine ex_bipush (q := 64) (v := (-12)) dX11_pieceOf_62 (by decide) ?_
        refine ex_callV (q := 67) (M := mX11_pieceOf) (hdd := Nat.le_refl _) (c := 11) (st := []) (bc := bc) (bs := bs) dX11_pieceOf_64 rfl cl_X11_120 wd_557 wd_1 s8 w ?_
        rintro r h13 ⟨x14, rfl, w⟩
        show ex_G mX11_pieceOf (d + 5) 67 [.ref a_0, .int v_1, .int v_2] [.int x14] h13 bc bs Q
        exact ex_ireturn dX11_pieceOf_67 rfl (Or.inl rfl) w
      · replace w := w.2 c12
        refine ex_aload_n (q := 46) (x := a_0) dX11_pieceOf_45 rfl ?_
        refine ex_aload_n (q := 47) (x := a_0) dX11_pieceOf_46 rfl ?_
        refine ex_getr (q := 50) dX11_pieceOf_47 fl_X11_36 s8 ea9 ?_
        obtain ⟨a15, ea15, w⟩ := w
        refine ex_getr (q := 53) dX11_pieceOf_50 fl_X11_234 s10 ea15 ?_
        refine ex_iload_n (q := 54) (x := v_2) dX11_pieceOf_53 rfl ?_
        have s16 := w.1
        replace w := w.2
        refine ex_iald (q := 55) dX11_pieceOf_54 s16 ?_
        have s17 := w.1
        replace w := w.2
        refine ex_callV (q := 58) (M := mX11_pieceOf) (hdd := Nat.le_refl _) (mc := 0) (ms := 0) (d' := (d + 4)) (c := 11) (st := []) (bc := bc) (bs := bs) dX11_pieceOf_55 rfl cl_X11_131 wd_576 wd_3 s8 (X11_grant_s (Q := fun r z => r = some (.int (X11_grant_V a_0 (ah_i h5 a15 (Int32.toNatClampNeg v_2)) h5)) ∧ z = X11_grant_H a_0 (ah_i h5 a15 (Int32.toNatClampNeg v_2)) h5) s17 ⟨rfl, rfl⟩) ?_
        intro r z hrz
        rw [hrz.1, hrz.2]
        show ex_G mX11_pieceOf (d + 5) 58 [.ref a_0, .int v_1, .int v_2] [.int (X11_grant_V a_0 (ah_i h5 a15 (Int32.toNatClampNeg v_2)) h5)] (X11_grant_H a_0 (ah_i h5 a15 (Int32.toNatClampNeg v_2)) h5) bc bs Q
        refine ex_nmh (fun h18 eh18 => ?_)
        replace w := w h18 eh18
        refine ex_goto (tgt := 67) dX11_pieceOf_58 ?_
        exact ex_ireturn dX11_pieceOf_67 rfl (Or.inl rfl) w
    · replace w := w.2 c7
      refine ex_aload_n (q := 28) (x := a_0) dX11_pieceOf_27 rfl ?_
      refine ex_bipush (q := 30) (v := (-13)) dX11_pieceOf_28 (by decide) ?_
      have s20 := w.1
      replace w := w.2
      refine ex_callV (q := 33) (M := mX11_pieceOf) (hdd := Nat.le_refl _) (c := 11) (st := []) (bc := bc) (bs := bs) dX11_pieceOf_30 rfl cl_X11_120 wd_557 wd_1 s20 w ?_
      rintro r h19 ⟨x21, rfl, w⟩
      show ex_G mX11_pieceOf (d + 5) 33 [.ref a_0, .int v_1, .int v_2] [.int x21] h19 bc bs Q
      exact ex_ireturn dX11_pieceOf_33 rfl (Or.inl rfl) w
  · replace w := w.2 c3
    refine ex_aload_n (q := 9) (x := a_0) dX11_pieceOf_8 rfl ?_
    refine ex_bipush (q := 11) (v := (-2)) dX11_pieceOf_9 (by decide) ?_
    refine ex_callV (q := 14) (M := mX11_pieceOf) (hdd := Nat.le_refl _) (c := 11) (st := []) (bc := bc) (bs := bs) dX11_pieceOf_11 rfl cl_X11_120 wd_557 wd_1 s1 w ?_
    rintro r h22 ⟨x23, rfl, w⟩
    show ex_G mX11_pieceOf (d + 5) 14 [.ref a_0, .int v_1, .int v_2] [.int x23] h22 bc bs Q
    exact ex_ireturn dX11_pieceOf_14 rfl (Or.inl rfl) w

theorem X11_pieceOf_e {d bc bs : Nat} {h : AH} {Q : Option Value → AH → Prop} {a_0 : Nat} {v_1 : Int32} {v_2 : Int32} (w : ex_G mX11_pieceOf (d + 5) 0 [.ref a_0, .int v_1, .int v_2] [] h bc bs Q) : ex_S yX11_pieceOf mX11_pieceOf (d + 5) [.ref a_0, .int v_1, .int v_2] h bc bs Q :=
  ex_enter (plainFor_of_name (by decide +kernel)) ⟨rfl, rfl⟩ rfl rfl (Nat.le_of_ble_eq_true rfl) (ex_pad 0 w)

set_option maxRecDepth 100000 in
theorem X11_linking_0 {d bc bs : Nat} {h : AH} {Q : Option Value → AH → Prop} {a_0 : Nat} {v_1 : Int32} {v_2 : Int32} {v_3 : Int32} (w : ah_o h a_0 11 ∧ X11_hasPicture_C a_0 v_1 h ∧ ((¬ (X11_hasPicture_V a_0 v_1 h) = 0 → ∃ a4, ah_r h a_0 4 = some a4 ∧ ex_S yX11_isWhole mX11_isWhole (d + 4) [.ref a_0, .int v_1, .ref a4] h 0 0 (fun r h5 => ∃ x6, r = some (.int x6) ∧ ((¬ x6 = 0 → ah_o h5 a_0 11 ∧ ∃ a9, ah_r h5 a_0 4 = some a9 ∧ ah_o h5 a9 4 ∧ X4_allPieces_C a9 h5 ∧ ∀ x12, x12 = X4_allPieces_V a9 h5 → ((v_2 < 0 → ex_S yX11_refuse mX11_refuse (d + 4) [.ref a_0, .int (-15)] h5 0 0 (fun r h14 => ∃ x15, r = some (.int x15) ∧ Q (some (.int x15)) h14)) ∧ (¬ v_2 < 0 → ((x12 ≤ v_2 → ex_S yX11_refuse mX11_refuse (d + 4) [.ref a_0, .int (-15)] h5 0 0 (fun r h17 => ∃ x18, r = some (.int x18) ∧ Q (some (.int x18)) h17)) ∧ (¬ x12 ≤ v_2 → ((v_3 < 0 → ex_S yX11_refuse mX11_refuse (d + 4) [.ref a_0, .int (-15)] h5 0 0 (fun r h20 => ∃ x21, r = some (.int x21) ∧ Q (some (.int x21)) h20)) ∧ (¬ v_3 < 0 → ((x12 ≤ v_3 → ex_S yX11_refuse mX11_refuse (d + 4) [.ref a_0, .int (-15)] h5 0 0 (fun r h23 => ∃ x24, r = some (.int x24) ∧ Q (some (.int x24)) h23)) ∧ (¬ x12 ≤ v_3 → ((¬ v_2 = v_3 → ex_S yX4_linkOf mX4_linkOf (d + 4) [.ref a9, .int v_2, .int v_3] h5 0 0 (fun r h26 => ∃ x27, r = some (.int x27) ∧ ah_o h26 a_0 11 ∧ X11_grant_C a_0 x27 h26 ∧ ∀ h30, h30 = X11_grant_H a_0 x27 h26 → Q (some (.int (X11_grant_V a_0 x27 h26))) h30)) ∧ (v_2 = v_3 → ex_S yX11_refuse mX11_refuse (d + 4) [.ref a_0, .int (-15)] h5 0 0 (fun r h31 => ∃ x32, r = some (.int x32) ∧ Q (some (.int x32)) h31)))))))))))) ∧ (x6 = 0 → ah_o h5 a_0 11 ∧ ex_S yX11_refuse mX11_refuse (d + 4) [.ref a_0, .int (-13)] h5 0 0 (fun r h33 => ∃ x35, r = some (.int x35) ∧ Q (some (.int x35)) h33))))) ∧ ((X11_hasPicture_V a_0 v_1 h) = 0 → ex_S yX11_refuse mX11_refuse (d + 4) [.ref a_0, .int (-2)] h 0 0 (fun r h36 => ∃ x37, r = some (.int x37) ∧ Q (some (.int x37)) h36)))) : ex_G mX11_linking (d + 5) 0 [.ref a_0, .int v_1, .int v_2, .int v_3, .retAddr 0] [] h bc bs Q := by
  refine ex_aload_n (q := 1) (x := a_0) dX11_linking_0 rfl ?_
  refine ex_iload_n (q := 2) (x := v_1) dX11_linking_1 rfl ?_
  have s1 := w.1
  replace w := w.2
  have s2 := w.1
  replace w := w.2
  refine ex_callV (q := 5) (M := mX11_linking) (hdd := Nat.le_refl _) (mc := 0) (ms := 0) (d' := (d + 4)) (c := 11) (st := []) (bc := bc) (bs := bs) dX11_linking_2 rfl cl_X11_134 wd_584 wd_4 s1 (X11_hasPicture_s (Q := fun r z => r = some (.int (X11_hasPicture_V a_0 v_1 h)) ∧ z = h) s2 ⟨rfl, rfl⟩) ?_
  intro r z hrz
  rw [hrz.1, hrz.2]
  show ex_G mX11_linking (d + 5) 5 [.ref a_0, .int v_1, .int v_2, .int v_3, .retAddr 0] [.int (X11_hasPicture_V a_0 v_1 h)] (h) bc bs Q
  refine ex_if_ne (tgt := 15) (q := 8) dX11_linking_5 (fun c3 => ?_) (fun c3 => ?_)
  · replace w := w.1 c3
    refine ex_aload_n (q := 16) (x := a_0) dX11_linking_15 rfl ?_
    refine ex_iload_n (q := 17) (x := v_1) dX11_linking_16 rfl ?_
    refine ex_aload_n (q := 18) (x := a_0) dX11_linking_17 rfl ?_
    obtain ⟨a4, ea4, w⟩ := w
    refine ex_getr (q := 21) dX11_linking_18 fl_X11_36 s1 ea4 ?_
    refine ex_callV (q := 24) (M := mX11_linking) (hdd := Nat.le_refl _) (c := 11) (st := []) (bc := bc) (bs := bs) dX11_linking_21 rfl cl_X11_184 wd_695 wd_13 s1 w ?_
    rintro r h5 ⟨x6, rfl, w⟩
    show ex_G mX11_linking (d + 5) 24 [.ref a_0, .int v_1, .int v_2, .int v_3, .retAddr 0] [.int x6] h5 bc bs Q
    refine ex_if_ne (tgt := 34) (q := 27) dX11_linking_24 (fun c7 => ?_) (fun c7 => ?_)
    · replace w := w.1 c7
      refine ex_aload_n (q := 35) (x := a_0) dX11_linking_34 rfl ?_
      have s8 := w.1
      replace w := w.2
      obtain ⟨a9, ea9, w⟩ := w
      refine ex_getr (q := 38) dX11_linking_35 fl_X11_36 s8 ea9 ?_
      have s10 := w.1
      replace w := w.2
      have s11 := w.1
      replace w := w.2
      refine ex_callV (q := 41) (M := mX11_linking) (hdd := Nat.le_refl _) (mc := 0) (ms := 0) (d' := (d + 4)) (c := 4) (st := []) (bc := bc) (bs := bs) dX11_linking_38 rfl cl_X11_188 wd_698 wd_699 s10 (X4_allPieces_s (Q := fun r z => r = some (.int (X4_allPieces_V a9 h5)) ∧ z = h5) s11 ⟨rfl, rfl⟩) ?_
      intro r z hrz
      rw [hrz.1, hrz.2]
      show ex_G mX11_linking (d + 5) 41 [.ref a_0, .int v_1, .int v_2, .int v_3, .retAddr 0] [.int (X4_allPieces_V a9 h5)] (h5) bc bs Q
      refine ex_nmi (fun x12 ex12 => ?_)
      replace w := w x12 ex12
      refine ex_istore (q := 43) (ls' := [.ref a_0, .int v_1, .int v_2, .int v_3, .int x12]) dX11_linking_41 rfl ?_
      refine ex_iload_n (q := 44) (x := v_2) dX11_linking_43 rfl ?_
      refine ex_if_lt (tgt := 68) (q := 47) dX11_linking_44 (fun c13 => ?_) (fun c13 => ?_)
      · replace w := w.1 c13
        refine ex_aload_n (q := 69) (x := a_0) dX11_linking_68 rfl ?_
        refine ex_bipush (q := 71) (v := (-15)) dX11_linking_69 (by decide) ?_
        refine ex_callV (q := 74) (M := mX11_linking) (hdd := Nat.le_refl _) (c := 11) (st := []) (bc := bc) (bs := bs) dX11_linking_71 rfl cl_X11_120 wd_557 wd_1 s8 w ?_
        rintro r h14 ⟨x15, rfl, w⟩
        show ex_G mX11_linking (d + 5) 74 [.ref a_0, .int v_1, .int v_2, .int v_3, .int x12] [.int x15] h14 bc bs Q
        exact ex_ireturn dX11_linking_74 rfl (Or.inl rfl) w
      · replace w := w.2 c13
        refine ex_iload_n (q := 48) (x := v_2) dX11_linking_47 rfl ?_
        refine ex_iload (q := 50) (x := x12) dX11_linking_48 rfl ?_
        refine ex_icmp_ge (tgt := 68) (q := 53) dX11_linking_50 (fun c16 => ?_) (fun c16 => ?_)
        · replace w := w.1 c16
          refine ex_aload_n (q := 69) (x := a_0) dX11_linking_68 rfl ?_
          refine ex_bipush (q := 71) (v := (-15)) dX11_linking_69 (by decide) ?_
          refine ex_callV (q := 74) (M := mX11_linking) (hdd := Nat.le_refl _) (c := 11) (st := []) (bc := bc) (bs := bs) dX11_linking_71 rfl cl_X11_120 wd_557 wd_1 s8 w ?_
          rintro r h17 ⟨x18, rfl, w⟩
          show ex_G mX11_linking (d + 5) 74 [.ref a_0, .int v_1, .int v_2, .int v_3, .int x12] [.int x18] h17 bc bs Q
          exact ex_ireturn dX11_linking_74 rfl (Or.inl rfl) w
        · replace w := w.2 c16
          refine ex_iload_n (q := 54) (x := v_3) dX11_linking_53 rfl ?_
          refine ex_if_lt (tgt := 68) (q := 57) dX11_linking_54 (fun c19 => ?_) (fun c19 => ?_)
          · replace w := w.1 c19
            refine ex_aload_n (q := 69) (x := a_0) dX11_linking_68 rfl ?_
            refine ex_bipush (q := 71) (v := (-15)) dX11_linking_69 (by decide) ?_
            refine ex_callV (q := 74) (M := mX11_linking) (hdd := Nat.le_refl _) (c := 11) (st := []) (bc := bc) (bs := bs) dX11_linking_71 rfl cl_X11_120 wd_557 wd_1 s8 w ?_
            rintro r h20 ⟨x21, rfl, w⟩
            show ex_G mX11_linking (d + 5) 74 [.ref a_0, .int v_1, .int v_2, .int v_3, .int x12] [.int x21] h20 bc bs Q
            exact ex_ireturn dX11_linking_74 rfl (Or.inl rfl) w
          · replace w := w.2 c19
            refine ex_iload_n (q := 58) (x := v_3) dX11_linking_57 rfl ?_
            refine ex_iload (q := 60) (x := x12) dX11_linking_58 rfl ?_
            refine ex_icmp_ge (tgt := 68) (q := 63) dX11_linking_60 (fun c22 => ?_) (fun c22 => ?_)
            · replace w := w.1 c22
              refine ex_aload_n (q := 69) (x := a_0) dX11_linking_68 rfl ?_
              refine ex_bipush (q := 71) (v := (-15)) dX11_linking_69 (by decide) ?_
              refine ex_callV (q := 74) (M := mX11_linking) (hdd := Nat.le_refl _) (c := 11) (st := []) (bc := bc) (bs := bs) dX11_linking_71 rfl cl_X11_120 wd_557 wd_1 s8 w ?_
              rintro r h23 ⟨x24, rfl, w⟩
              show ex_G mX11_linking (d + 5) 74 [.ref a_0, .int v_1, .int v_2, .int v_3, .int x12] [.int x24] h23 bc bs Q
              exact ex_ireturn dX11_linking_74 rfl (Or.inl rfl) w
            · replace w := w.2 c22
              refine ex_iload_n (q := 64) (x := v_2) dX11_linking_63 rfl ?_
              refine ex_iload_n (q := 65) (x := v_3) dX11_linking_64 rfl ?_
              refine ex_icmp_ne (tgt := 75) (q := 68) dX11_linking_65 (fun c25 => ?_) (fun c25 => ?_)
              · replace w := w.1 c25
                refine ex_aload_n (q := 76) (x := a_0) dX11_linking_75 rfl ?_
                refine ex_aload_n (q := 77) (x := a_0) dX11_linking_76 rfl ?_
                refine ex_getr (q := 80) dX11_linking_77 fl_X11_36 s8 ea9 ?_
                refine ex_iload_n (q := 81) (x := v_2) dX11_linking_80 rfl ?_
                refine ex_iload_n (q := 82) (x := v_3) dX11_linking_81 rfl ?_
                refine ex_callV (q := 85) (M := mX11_linking) (hdd := Nat.le_refl _) (c := 4) (st := [.ref a_0]) (bc := bc) (bs := bs) dX11_linking_82 rfl cl_X11_237 wd_778 wd_779 s10 w ?_
                rintro r h26 ⟨x27, rfl, w⟩
                show ex_G mX11_linking (d + 5) 85 [.ref a_0, .int v_1, .int v_2, .int v_3, .int x12] [.int x27, .ref a_0] h26 bc bs Q
                have s28 := w.1
                replace w := w.2
                have s29 := w.1
                replace w := w.2
                refine ex_callV (q := 88) (M := mX11_linking) (hdd := Nat.le_refl _) (mc := 0) (ms := 0) (d' := (d + 4)) (c := 11) (st := []) (bc := bc) (bs := bs) dX11_linking_85 rfl cl_X11_131 wd_576 wd_3 s28 (X11_grant_s (Q := fun r z => r = some (.int (X11_grant_V a_0 x27 h26)) ∧ z = X11_grant_H a_0 x27 h26) s29 ⟨rfl, rfl⟩) ?_
                intro r z hrz
                rw [hrz.1, hrz.2]
                show ex_G mX11_linking (d + 5) 88 [.ref a_0, .int v_1, .int v_2, .int v_3, .int x12] [.int (X11_grant_V a_0 x27 h26)] (X11_grant_H a_0 x27 h26) bc bs Q
                refine ex_nmh (fun h30 eh30 => ?_)
                replace w := w h30 eh30
                exact ex_ireturn dX11_linking_88 rfl (Or.inl rfl) w
              · replace w := w.2 c25
                refine ex_aload_n (q := 69) (x := a_0) dX11_linking_68 rfl ?_
                refine ex_bipush (q := 71) (v := (-15)) dX11_linking_69 (by decide) ?_
                refine ex_callV (q := 74) (M := mX11_linking) (hdd := Nat.le_refl _) (c := 11) (st := []) (bc := bc) (bs := bs) dX11_linking_71 rfl cl_X11_120 wd_557 wd_1 s8 w ?_
                rintro r h31 ⟨x32, rfl, w⟩
                show ex_G mX11_linking (d + 5) 74 [.ref a_0, .int v_1, .int v_2, .int v_3, .int x12] [.int x32] h31 bc bs Q
                exact ex_ireturn dX11_linking_74 rfl (Or.inl rfl) w
    · replace w := w.2 c7
      refine ex_aload_n (q := 28) (x := a_0) dX11_linking_27 rfl ?_
      refine ex_bipush (q := 30) (v := (-13)) dX11_linking_28 (by decide) ?_
      have s34 := w.1
      replace w := w.2
      refine ex_callV (q := 33) (M := mX11_linking) (hdd := Nat.le_refl _) (c := 11) (st := []) (bc := bc) (bs := bs) dX11_linking_30 rfl cl_X11_120 wd_557 wd_1 s34 w ?_
      rintro r h33 ⟨x35, rfl, w⟩
      show ex_G mX11_linking (d + 5) 33 [.ref a_0, .int v_1, .int v_2, .int v_3, .retAddr 0] [.int x35] h33 bc bs Q
      exact ex_ireturn dX11_linking_33 rfl (Or.inl rfl) w
  · replace w := w.2 c3
    refine ex_aload_n (q := 9) (x := a_0) dX11_linking_8 rfl ?_
    refine ex_bipush (q := 11) (v := (-2)) dX11_linking_9 (by decide) ?_
    refine ex_callV (q := 14) (M := mX11_linking) (hdd := Nat.le_refl _) (c := 11) (st := []) (bc := bc) (bs := bs) dX11_linking_11 rfl cl_X11_120 wd_557 wd_1 s1 w ?_
    rintro r h36 ⟨x37, rfl, w⟩
    show ex_G mX11_linking (d + 5) 14 [.ref a_0, .int v_1, .int v_2, .int v_3, .retAddr 0] [.int x37] h36 bc bs Q
    exact ex_ireturn dX11_linking_14 rfl (Or.inl rfl) w

theorem X11_linking_e {d bc bs : Nat} {h : AH} {Q : Option Value → AH → Prop} {a_0 : Nat} {v_1 : Int32} {v_2 : Int32} {v_3 : Int32} (w : ex_G mX11_linking (d + 5) 0 [.ref a_0, .int v_1, .int v_2, .int v_3, .retAddr 0] [] h bc bs Q) : ex_S yX11_linking mX11_linking (d + 5) [.ref a_0, .int v_1, .int v_2, .int v_3] h bc bs Q :=
  ex_enter (plainFor_of_name (by decide +kernel)) ⟨rfl, rfl⟩ rfl rfl (Nat.le_of_ble_eq_true rfl) (ex_pad 1 w)

set_option maxRecDepth 100000 in
theorem X11_isColourCount_0 {d bc bs : Nat} {h : AH} {Q : Option Value → AH → Prop} {v_0 : Int32} (w : ex_G mX11_isColourCount d 2 [.int v_0, .int 0] [] h bc bs Q) : ex_G mX11_isColourCount d 0 [.int v_0, .retAddr 0] [] h bc bs Q := by
  refine ex_iconst (q := 1) (v := 0) dX11_isColourCount_0 (by decide) ?_
  refine ex_istore_n (q := 2) (ls' := [.int v_0, .int 0]) dX11_isColourCount_1 rfl ?_
  exact w

set_option maxRecDepth 100000 in
theorem X11_isColourCount_2 {d bc bs : Nat} {h : AH} {Q : Option Value → AH → Prop} {v_0 : Int32} {v_1 : Int32} (w : ∃ n1, (ah_ra h 10000001 n1 ∨ ah_x h 10000001 2 n1) ∧ (((Int32.ofNat n1) ≤ v_1 → Q (some (.int 0)) h) ∧ (¬ (Int32.ofNat n1) ≤ v_1 → ld0 h 10000001 v_1 ∧ ((¬ (ah_i h 10000001 (Int32.toNatClampNeg v_1)) = v_0 → ∀ x6, x6 = v_1 + 1 → ex_G mX11_isColourCount d 2 [.int v_0, .int x6] [] h bc bs Q) ∧ ((ah_i h 10000001 (Int32.toNatClampNeg v_1)) = v_0 → Q (some (.int 1)) h))))) : ex_G mX11_isColourCount d 2 [.int v_0, .int v_1] [] h bc bs Q := by
  refine ex_iload_n (q := 3) (x := v_1) dX11_isColourCount_2 rfl ?_
  refine ex_gets1 (q := 6) dX11_isColourCount_3 wd_788 ?_
  obtain ⟨n1, s2, w⟩ := w
  refine ex_alen (q := 7) dX11_isColourCount_6 s2 ?_
  refine ex_icmp_ge (tgt := 27) (q := 10) dX11_isColourCount_7 (fun c3 => ?_) (fun c3 => ?_)
  · replace w := w.1 c3
    refine ex_iconst (q := 28) (v := 0) dX11_isColourCount_27 (by decide) ?_
    exact ex_ireturn dX11_isColourCount_28 rfl (Or.inr ⟨rfl, Or.inl rfl⟩) w
  · replace w := w.2 c3
    refine ex_gets1 (q := 13) dX11_isColourCount_10 wd_788 ?_
    refine ex_iload_n (q := 14) (x := v_1) dX11_isColourCount_13 rfl ?_
    have s4 := w.1
    replace w := w.2
    refine ex_iald (q := 15) dX11_isColourCount_14 s4 ?_
    refine ex_iload_n (q := 16) (x := v_0) dX11_isColourCount_15 rfl ?_
    refine ex_icmp_ne (tgt := 21) (q := 19) dX11_isColourCount_16 (fun c5 => ?_) (fun c5 => ?_)
    · replace w := w.1 c5
      obtain ⟨x6, ex6⟩ : ∃ y : Int32, y = v_1 + 1 := ⟨_, rfl⟩
      replace w := w x6 ex6
      refine ex_iinc (q := 24) (x := v_1) (v := x6) (ls' := [.int v_0, .int x6]) dX11_isColourCount_21 rfl (by rw [ex6]; rfl) rfl ?_
      refine ex_goto (tgt := 2) dX11_isColourCount_24 ?_
      exact w
    · replace w := w.2 c5
      refine ex_iconst (q := 20) (v := 1) dX11_isColourCount_19 (by decide) ?_
      exact ex_ireturn dX11_isColourCount_20 rfl (Or.inr ⟨rfl, Or.inr rfl⟩) w

theorem X11_isColourCount_e {d bc bs : Nat} {h : AH} {Q : Option Value → AH → Prop} {v_0 : Int32} (w : ex_G mX11_isColourCount d 0 [.int v_0, .retAddr 0] [] h bc bs Q) : ex_S yX11_isColourCount mX11_isColourCount d [.int v_0] h bc bs Q :=
  ex_enter (plainFor_of_name (by decide +kernel)) ⟨rfl, rfl⟩ rfl rfl (Nat.le_of_ble_eq_true rfl) (ex_pad 1 w)

set_option maxRecDepth 100000 in
theorem X11_colours_0 {d bc bs : Nat} {h : AH} {Q : Option Value → AH → Prop} {a_0 : Nat} {v_1 : Int32} {v_2 : Int32} (w : ah_o h a_0 11 ∧ X11_hasPicture_C a_0 v_1 h ∧ (((X11_hasPicture_V a_0 v_1 h) = 0 → ex_S yX11_refuse mX11_refuse (d + 4) [.ref a_0, .int (-2)] h 0 0 (fun r h4 => ∃ x5, r = some (.int x5) ∧ Q (some (.int x5)) h4)) ∧ (¬ (X11_hasPicture_V a_0 v_1 h) = 0 → ex_S yX11_isColourCount mX11_isColourCount (d + 4) [.int v_2] h 0 0 (fun r h6 => ∃ x7, r = some (.int x7) ∧ ((¬ x7 = 0 → ah_o h6 a_0 11 ∧ ∃ a10, ah_r h6 a_0 4 = some a10 ∧ ex_S yX11_isWhole mX11_isWhole (d + 4) [.ref a_0, .int v_1, .ref a10] h6 0 0 (fun r h11 => ∃ x12, r = some (.int x12) ∧ ((x12 = 0 → ah_o h11 a_0 11 ∧ ex_S yX11_refuse mX11_refuse (d + 4) [.ref a_0, .int (-13)] h11 0 0 (fun r h14 => ∃ x16, r = some (.int x16) ∧ Q (some (.int x16)) h14)) ∧ (¬ x12 = 0 → ah_o h11 a_0 11 ∧ ∃ a18, ah_r h11 a_0 11 = some a18 ∧ ∃ a19, ah_r h11 a_0 4 = some a19 ∧ ah_o h11 a18 1 ∧ ex_S yX1_powerOf mX1_powerOf (d + 4) [.ref a18, .ref a19, .int v_2] h11 0 0 (fun r h20 => ∃ x22, r = some (.int x22) ∧ ah_o h20 a_0 11 ∧ X11_grant_C a_0 x22 h20 ∧ ∀ h25, h25 = X11_grant_H a_0 x22 h20 → Q (some (.int (X11_grant_V a_0 x22 h20))) h25))))) ∧ (x7 = 0 → ah_o h6 a_0 11 ∧ ex_S yX11_refuse mX11_refuse (d + 4) [.ref a_0, .int (-2)] h6 0 0 (fun r h26 => ∃ x28, r = some (.int x28) ∧ Q (some (.int x28)) h26))))))) : ex_G mX11_colours (d + 5) 0 [.ref a_0, .int v_1, .int v_2] [] h bc bs Q := by
  refine ex_aload_n (q := 1) (x := a_0) dX11_colours_0 rfl ?_
  refine ex_iload_n (q := 2) (x := v_1) dX11_colours_1 rfl ?_
  have s1 := w.1
  replace w := w.2
  have s2 := w.1
  replace w := w.2
  refine ex_callV (q := 5) (M := mX11_colours) (hdd := Nat.le_refl _) (mc := 0) (ms := 0) (d' := (d + 4)) (c := 11) (st := []) (bc := bc) (bs := bs) dX11_colours_2 rfl cl_X11_134 wd_584 wd_4 s1 (X11_hasPicture_s (Q := fun r z => r = some (.int (X11_hasPicture_V a_0 v_1 h)) ∧ z = h) s2 ⟨rfl, rfl⟩) ?_
  intro r z hrz
  rw [hrz.1, hrz.2]
  show ex_G mX11_colours (d + 5) 5 [.ref a_0, .int v_1, .int v_2] [.int (X11_hasPicture_V a_0 v_1 h)] (h) bc bs Q
  refine ex_if_eq (tgt := 15) (q := 8) dX11_colours_5 (fun c3 => ?_) (fun c3 => ?_)
  · replace w := w.1 c3
    refine ex_aload_n (q := 16) (x := a_0) dX11_colours_15 rfl ?_
    refine ex_bipush (q := 18) (v := (-2)) dX11_colours_16 (by decide) ?_
    refine ex_callV (q := 21) (M := mX11_colours) (hdd := Nat.le_refl _) (c := 11) (st := []) (bc := bc) (bs := bs) dX11_colours_18 rfl cl_X11_120 wd_557 wd_1 s1 w ?_
    rintro r h4 ⟨x5, rfl, w⟩
    show ex_G mX11_colours (d + 5) 21 [.ref a_0, .int v_1, .int v_2] [.int x5] h4 bc bs Q
    exact ex_ireturn dX11_colours_21 rfl (Or.inl rfl) w
  · replace w := w.2 c3
    refine ex_iload_n (q := 9) (x := v_2) dX11_colours_8 rfl ?_
    refine ex_callS (q := 12) (M := mX11_colours) (hdd := Nat.le_refl _) (st := []) (bc := bc) (bs := bs) dX11_colours_9 rfl cl_X11_244 wd_786 w ?_
    rintro r h6 ⟨x7, rfl, w⟩
    show ex_G mX11_colours (d + 5) 12 [.ref a_0, .int v_1, .int v_2] [.int x7] h6 bc bs Q
    refine ex_if_ne (tgt := 22) (q := 15) dX11_colours_12 (fun c8 => ?_) (fun c8 => ?_)
    · replace w := w.1 c8
      refine ex_aload_n (q := 23) (x := a_0) dX11_colours_22 rfl ?_
      refine ex_iload_n (q := 24) (x := v_1) dX11_colours_23 rfl ?_
      refine ex_aload_n (q := 25) (x := a_0) dX11_colours_24 rfl ?_
      have s9 := w.1
      replace w := w.2
      obtain ⟨a10, ea10, w⟩ := w
      refine ex_getr (q := 28) dX11_colours_25 fl_X11_36 s9 ea10 ?_
      refine ex_callV (q := 31) (M := mX11_colours) (hdd := Nat.le_refl _) (c := 11) (st := []) (bc := bc) (bs := bs) dX11_colours_28 rfl cl_X11_184 wd_695 wd_13 s9 w ?_
      rintro r h11 ⟨x12, rfl, w⟩
      show ex_G mX11_colours (d + 5) 31 [.ref a_0, .int v_1, .int v_2] [.int x12] h11 bc bs Q
      refine ex_if_eq (tgt := 53) (q := 34) dX11_colours_31 (fun c13 => ?_) (fun c13 => ?_)
      · replace w := w.1 c13
        refine ex_aload_n (q := 54) (x := a_0) dX11_colours_53 rfl ?_
        refine ex_bipush (q := 56) (v := (-13)) dX11_colours_54 (by decide) ?_
        have s15 := w.1
        replace w := w.2
        refine ex_callV (q := 59) (M := mX11_colours) (hdd := Nat.le_refl _) (c := 11) (st := []) (bc := bc) (bs := bs) dX11_colours_56 rfl cl_X11_120 wd_557 wd_1 s15 w ?_
        rintro r h14 ⟨x16, rfl, w⟩
        show ex_G mX11_colours (d + 5) 59 [.ref a_0, .int v_1, .int v_2] [.int x16] h14 bc bs Q
        exact ex_ireturn dX11_colours_59 rfl (Or.inl rfl) w
      · replace w := w.2 c13
        refine ex_aload_n (q := 35) (x := a_0) dX11_colours_34 rfl ?_
        refine ex_aload_n (q := 36) (x := a_0) dX11_colours_35 rfl ?_
        have s17 := w.1
        replace w := w.2
        obtain ⟨a18, ea18, w⟩ := w
        refine ex_getr (q := 39) dX11_colours_36 fl_X11_71 s17 ea18 ?_
        refine ex_aload_n (q := 40) (x := a_0) dX11_colours_39 rfl ?_
        obtain ⟨a19, ea19, w⟩ := w
        refine ex_getr (q := 43) dX11_colours_40 fl_X11_36 s17 ea19 ?_
        refine ex_iload_n (q := 44) (x := v_2) dX11_colours_43 rfl ?_
        have s21 := w.1
        replace w := w.2
        refine ex_callV (q := 47) (M := mX11_colours) (hdd := Nat.le_refl _) (c := 1) (st := [.ref a_0]) (bc := bc) (bs := bs) dX11_colours_44 rfl cl_X11_247 wd_791 wd_792 s21 w ?_
        rintro r h20 ⟨x22, rfl, w⟩
        show ex_G mX11_colours (d + 5) 47 [.ref a_0, .int v_1, .int v_2] [.int x22, .ref a_0] h20 bc bs Q
        have s23 := w.1
        replace w := w.2
        have s24 := w.1
        replace w := w.2
        refine ex_callV (q := 50) (M := mX11_colours) (hdd := Nat.le_refl _) (mc := 0) (ms := 0) (d' := (d + 4)) (c := 11) (st := []) (bc := bc) (bs := bs) dX11_colours_47 rfl cl_X11_131 wd_576 wd_3 s23 (X11_grant_s (Q := fun r z => r = some (.int (X11_grant_V a_0 x22 h20)) ∧ z = X11_grant_H a_0 x22 h20) s24 ⟨rfl, rfl⟩) ?_
        intro r z hrz
        rw [hrz.1, hrz.2]
        show ex_G mX11_colours (d + 5) 50 [.ref a_0, .int v_1, .int v_2] [.int (X11_grant_V a_0 x22 h20)] (X11_grant_H a_0 x22 h20) bc bs Q
        refine ex_nmh (fun h25 eh25 => ?_)
        replace w := w h25 eh25
        refine ex_goto (tgt := 59) dX11_colours_50 ?_
        exact ex_ireturn dX11_colours_59 rfl (Or.inl rfl) w
    · replace w := w.2 c8
      refine ex_aload_n (q := 16) (x := a_0) dX11_colours_15 rfl ?_
      refine ex_bipush (q := 18) (v := (-2)) dX11_colours_16 (by decide) ?_
      have s27 := w.1
      replace w := w.2
      refine ex_callV (q := 21) (M := mX11_colours) (hdd := Nat.le_refl _) (c := 11) (st := []) (bc := bc) (bs := bs) dX11_colours_18 rfl cl_X11_120 wd_557 wd_1 s27 w ?_
      rintro r h26 ⟨x28, rfl, w⟩
      show ex_G mX11_colours (d + 5) 21 [.ref a_0, .int v_1, .int v_2] [.int x28] h26 bc bs Q
      exact ex_ireturn dX11_colours_21 rfl (Or.inl rfl) w

theorem X11_colours_e {d bc bs : Nat} {h : AH} {Q : Option Value → AH → Prop} {a_0 : Nat} {v_1 : Int32} {v_2 : Int32} (w : ex_G mX11_colours (d + 5) 0 [.ref a_0, .int v_1, .int v_2] [] h bc bs Q) : ex_S yX11_colours mX11_colours (d + 5) [.ref a_0, .int v_1, .int v_2] h bc bs Q :=
  ex_enter (plainFor_of_name (by decide +kernel)) ⟨rfl, rfl⟩ rfl rfl (Nat.le_of_ble_eq_true rfl) (ex_pad 0 w)

set_option maxRecDepth 100000 in
theorem X11_whyNoBracket_0 {d bc bs : Nat} {h : AH} {Q : Option Value → AH → Prop} {a_0 : Nat} {v_1 : Int32} {v_2 : Int32} (w : ah_o h a_0 11 ∧ ∃ a2, ah_r h a_0 4 = some a2 ∧ ex_S yX11_isWhole mX11_isWhole (d + 4) [.ref a_0, .int v_1, .ref a2] h 0 0 (fun r h3 => ∃ x4, r = some (.int x4) ∧ ((¬ x4 = 0 → ah_o h3 a_0 11 ∧ ∃ a7, ah_r h3 a_0 4 = some a7 ∧ ah_o h3 a7 4 ∧ ((¬ (ah_f h3 a7 10) = 0 → ex_G mX11_whyNoBracket (d + 5) 38 [.ref a_0, .retAddr 0, .int v_2] [] h3 bc bs Q) ∧ ((ah_f h3 a7 10) = 0 → ((¬ (ah_f h3 a7 11) = 0 → ex_G mX11_whyNoBracket (d + 5) 38 [.ref a_0, .retAddr 0, .int v_2] [] h3 bc bs Q) ∧ ((ah_f h3 a7 11) = 0 → Q (some (.int (-16))) h3))))) ∧ (x4 = 0 → Q (some (.int (-13))) h3)))) : ex_G mX11_whyNoBracket (d + 5) 0 [.ref a_0, .int v_1, .int v_2] [] h bc bs Q := by
  refine ex_aload_n (q := 1) (x := a_0) dX11_whyNoBracket_0 rfl ?_
  refine ex_iload_n (q := 2) (x := v_1) dX11_whyNoBracket_1 rfl ?_
  refine ex_aload_n (q := 3) (x := a_0) dX11_whyNoBracket_2 rfl ?_
  have s1 := w.1
  replace w := w.2
  obtain ⟨a2, ea2, w⟩ := w
  refine ex_getr (q := 6) dX11_whyNoBracket_3 fl_X11_36 s1 ea2 ?_
  refine ex_callV (q := 9) (M := mX11_whyNoBracket) (hdd := Nat.le_refl _) (c := 11) (st := []) (bc := bc) (bs := bs) dX11_whyNoBracket_6 rfl cl_X11_184 wd_695 wd_13 s1 w ?_
  rintro r h3 ⟨x4, rfl, w⟩
  show ex_G mX11_whyNoBracket (d + 5) 9 [.ref a_0, .int v_1, .int v_2] [.int x4] h3 bc bs Q
  refine ex_if_ne (tgt := 15) (q := 12) dX11_whyNoBracket_9 (fun c5 => ?_) (fun c5 => ?_)
  · replace w := w.1 c5
    refine ex_aload_n (q := 16) (x := a_0) dX11_whyNoBracket_15 rfl ?_
    have s6 := w.1
    replace w := w.2
    obtain ⟨a7, ea7, w⟩ := w
    refine ex_getr (q := 19) dX11_whyNoBracket_16 fl_X11_36 s6 ea7 ?_
    have s8 := w.1
    replace w := w.2
    refine ex_getf (q := 22) dX11_whyNoBracket_19 fl_X11_213 s8 ?_
    refine ex_if_ne (tgt := 38) (q := 25) dX11_whyNoBracket_22 (fun c9 => ?_) (fun c9 => ?_)
    · replace w := w.1 c9
      refine ex_kill 1 (ls' := [.ref a_0, .retAddr 0, .int v_2]) rfl ?_
      exact w
    · replace w := w.2 c9
      refine ex_aload_n (q := 26) (x := a_0) dX11_whyNoBracket_25 rfl ?_
      refine ex_getr (q := 29) dX11_whyNoBracket_26 fl_X11_36 s6 ea7 ?_
      refine ex_getf (q := 32) dX11_whyNoBracket_29 fl_X11_214 s8 ?_
      refine ex_if_ne (tgt := 38) (q := 35) dX11_whyNoBracket_32 (fun c10 => ?_) (fun c10 => ?_)
      · replace w := w.1 c10
        refine ex_kill 1 (ls' := [.ref a_0, .retAddr 0, .int v_2]) rfl ?_
        exact w
      · replace w := w.2 c10
        refine ex_bipush (q := 37) (v := (-16)) dX11_whyNoBracket_35 (by decide) ?_
        exact ex_ireturn dX11_whyNoBracket_37 rfl (Or.inl rfl) w
  · replace w := w.2 c5
    refine ex_bipush (q := 14) (v := (-13)) dX11_whyNoBracket_12 (by decide) ?_
    exact ex_ireturn dX11_whyNoBracket_14 rfl (Or.inl rfl) w

set_option maxRecDepth 100000 in
theorem X11_whyNoBracket_38 {d bc bs : Nat} {h : AH} {Q : Option Value → AH → Prop} {a_0 : Nat} {v_2 : Int32} (w : ah_o h a_0 11 ∧ ∃ a2, ah_r h a_0 4 = some a2 ∧ ah_o h a2 4 ∧ (((ah_f h a2 10) ≤ v_2 → ∃ a5, ah_r h a_0 7 = some a5 ∧ ah_o h a5 9 ∧ X9_affords_C a5 (X9_costOf_V (ah_f h a2 10) h) h ∧ (((X9_affords_V a5 (X9_costOf_V (ah_f h a2 10) h) h) = 0 → Q (some (.int (-19))) h) ∧ (¬ (X9_affords_V a5 (X9_costOf_V (ah_f h a2 10) h) h) = 0 → Q (some (.int 0)) h))) ∧ (¬ (ah_f h a2 10) ≤ v_2 → Q (some (.int (-17))) h))) : ex_G mX11_whyNoBracket (d + 5) 38 [.ref a_0, .retAddr 0, .int v_2] [] h bc bs Q := by
  refine ex_aload_n (q := 39) (x := a_0) dX11_whyNoBracket_38 rfl ?_
  have s1 := w.1
  replace w := w.2
  obtain ⟨a2, ea2, w⟩ := w
  refine ex_getr (q := 42) dX11_whyNoBracket_39 fl_X11_36 s1 ea2 ?_
  have s3 := w.1
  replace w := w.2
  refine ex_getf (q := 45) dX11_whyNoBracket_42 fl_X11_213 s3 ?_
  refine ex_iload_n (q := 46) (x := v_2) dX11_whyNoBracket_45 rfl ?_
  refine ex_icmp_le (tgt := 52) (q := 49) dX11_whyNoBracket_46 (fun c4 => ?_) (fun c4 => ?_)
  · replace w := w.1 c4
    refine ex_aload_n (q := 53) (x := a_0) dX11_whyNoBracket_52 rfl ?_
    obtain ⟨a5, ea5, w⟩ := w
    refine ex_getr (q := 56) dX11_whyNoBracket_53 fl_X11_51 s1 ea5 ?_
    refine ex_aload_n (q := 57) (x := a_0) dX11_whyNoBracket_56 rfl ?_
    refine ex_getr (q := 60) dX11_whyNoBracket_57 fl_X11_36 s1 ea2 ?_
    refine ex_getf (q := 63) dX11_whyNoBracket_60 fl_X11_213 s3 ?_
    refine ex_callS (q := 66) (M := mX11_whyNoBracket) (hdd := Nat.le_refl _) (mc := 0) (ms := 0) (d' := (d + 4)) (st := [.ref a5]) (bc := bc) (bs := bs) dX11_whyNoBracket_63 rfl cl_X11_251 wd_831 (X9_costOf_s (Q := fun r z => r = some (.int (X9_costOf_V (ah_f h a2 10) h)) ∧ z = h) ⟨rfl, rfl⟩) ?_
    intro r z hrz
    rw [hrz.1, hrz.2]
    show ex_G mX11_whyNoBracket (d + 5) 66 [.ref a_0, .retAddr 0, .int v_2] [.int (X9_costOf_V (ah_f h a2 10) h), .ref a5] (h) bc bs Q
    have s6 := w.1
    replace w := w.2
    have s7 := w.1
    replace w := w.2
    refine ex_callV (q := 69) (M := mX11_whyNoBracket) (hdd := Nat.le_refl _) (mc := 0) (ms := 0) (d' := (d + 4)) (c := 9) (st := []) (bc := bc) (bs := bs) dX11_whyNoBracket_66 rfl cl_X11_254 wd_836 wd_837 s6 (X9_affords_s (Q := fun r z => r = some (.int (X9_affords_V a5 (X9_costOf_V (ah_f h a2 10) h) h)) ∧ z = h) s7 ⟨rfl, rfl⟩) ?_
    intro r z hrz
    rw [hrz.1, hrz.2]
    show ex_G mX11_whyNoBracket (d + 5) 69 [.ref a_0, .retAddr 0, .int v_2] [.int (X9_affords_V a5 (X9_costOf_V (ah_f h a2 10) h) h)] (h) bc bs Q
    refine ex_if_eq (tgt := 76) (q := 72) dX11_whyNoBracket_69 (fun c8 => ?_) (fun c8 => ?_)
    · replace w := w.1 c8
      refine ex_bipush (q := 78) (v := (-19)) dX11_whyNoBracket_76 (by decide) ?_
      exact ex_ireturn dX11_whyNoBracket_78 rfl (Or.inl rfl) w
    · replace w := w.2 c8
      refine ex_iconst (q := 73) (v := 0) dX11_whyNoBracket_72 (by decide) ?_
      refine ex_goto (tgt := 78) dX11_whyNoBracket_73 ?_
      exact ex_ireturn dX11_whyNoBracket_78 rfl (Or.inl rfl) w
  · replace w := w.2 c4
    refine ex_bipush (q := 51) (v := (-17)) dX11_whyNoBracket_49 (by decide) ?_
    exact ex_ireturn dX11_whyNoBracket_51 rfl (Or.inl rfl) w

theorem X11_whyNoBracket_e {d bc bs : Nat} {h : AH} {Q : Option Value → AH → Prop} {a_0 : Nat} {v_1 : Int32} {v_2 : Int32} (w : ex_G mX11_whyNoBracket (d + 5) 0 [.ref a_0, .int v_1, .int v_2] [] h bc bs Q) : ex_S yX11_whyNoBracket mX11_whyNoBracket (d + 5) [.ref a_0, .int v_1, .int v_2] h bc bs Q :=
  ex_enter (plainFor_of_name (by decide +kernel)) ⟨rfl, rfl⟩ rfl rfl (Nat.le_of_ble_eq_true rfl) (ex_pad 0 w)

set_option maxRecDepth 100000 in
theorem X11_bracket_0 {d bc bs : Nat} {h : AH} {Q : Option Value → AH → Prop} {a_0 : Nat} {v_1 : Int32} (w : ah_o h a_0 11 ∧ X11_hasPicture_C a_0 v_1 h ∧ (((X11_hasPicture_V a_0 v_1 h) = 0 → ex_G mX11_bracket (d + 18) 20 [.ref a_0, .retAddr 0, .retAddr 0] [.int (-2)] h bc bs Q) ∧ (¬ (X11_hasPicture_V a_0 v_1 h) = 0 → ex_S yX11_whyNoBracket mX11_whyNoBracket (d + 17) [.ref a_0, .int v_1, .int 14] h 0 0 (fun r h4 => ∃ x5, r = some (.int x5) ∧ ex_G mX11_bracket (d + 18) 20 [.ref a_0, .retAddr 0, .retAddr 0] [.int x5] h4 bc bs Q)))) : ex_G mX11_bracket (d + 18) 0 [.ref a_0, .int v_1, .retAddr 0] [] h bc bs Q := by
  refine ex_aload_n (q := 1) (x := a_0) dX11_bracket_0 rfl ?_
  refine ex_iload_n (q := 2) (x := v_1) dX11_bracket_1 rfl ?_
  have s1 := w.1
  replace w := w.2
  have s2 := w.1
  replace w := w.2
  refine ex_callV (q := 5) (M := mX11_bracket) (hdd := Nat.le_refl _) (mc := 0) (ms := 0) (d' := (d + 17)) (c := 11) (st := []) (bc := bc) (bs := bs) dX11_bracket_2 rfl cl_X11_134 wd_584 wd_4 s1 (X11_hasPicture_s (Q := fun r z => r = some (.int (X11_hasPicture_V a_0 v_1 h)) ∧ z = h) s2 ⟨rfl, rfl⟩) ?_
  intro r z hrz
  rw [hrz.1, hrz.2]
  show ex_G mX11_bracket (d + 18) 5 [.ref a_0, .int v_1, .retAddr 0] [.int (X11_hasPicture_V a_0 v_1 h)] (h) bc bs Q
  refine ex_if_eq (tgt := 18) (q := 8) dX11_bracket_5 (fun c3 => ?_) (fun c3 => ?_)
  · replace w := w.1 c3
    refine ex_bipush (q := 20) (v := (-2)) dX11_bracket_18 (by decide) ?_
    refine ex_kill 1 (ls' := [.ref a_0, .retAddr 0, .retAddr 0]) rfl ?_
    exact w
  · replace w := w.2 c3
    refine ex_aload_n (q := 9) (x := a_0) dX11_bracket_8 rfl ?_
    refine ex_iload_n (q := 10) (x := v_1) dX11_bracket_9 rfl ?_
    refine ex_bipush (q := 12) (v := 14) dX11_bracket_10 (by decide) ?_
    refine ex_callV (q := 15) (M := mX11_bracket) (hdd := Nat.le_refl _) (c := 11) (st := []) (bc := bc) (bs := bs) dX11_bracket_12 rfl cl_X11_257 wd_828 wd_20 s1 w ?_
    rintro r h4 ⟨x5, rfl, w⟩
    show ex_G mX11_bracket (d + 18) 15 [.ref a_0, .int v_1, .retAddr 0] [.int x5] h4 bc bs Q
    refine ex_goto (tgt := 20) dX11_bracket_15 ?_
    refine ex_kill 1 (ls' := [.ref a_0, .retAddr 0, .retAddr 0]) rfl ?_
    exact w

set_option maxRecDepth 100000 in
theorem X11_bracket_20 {d bc bs : Nat} {h : AH} {Q : Option Value → AH → Prop} {a_0 : Nat} {u_0 : Int32} (w : ((u_0 = 0 → ah_o h a_0 11 ∧ ∃ a3, ah_r h a_0 7 = some a3 ∧ ∃ a4, ah_r h a_0 4 = some a4 ∧ ∃ a5, ah_r h a_0 8 = some a5 ∧ ah_o h a3 9 ∧ ex_S yX9_makeBracket mX9_makeBracket (d + 17) [.ref a3, .ref a4, .ref a5] h 0 0 (fun r h6 => r = none ∧ ah_o h6 a_0 11 ∧ ∃ a9, ah_r h6 a_0 8 = some a9 ∧ ah_o h6 a9 2 ∧ ex_S yX2_countNumbers mX2_countNumbers (d + 17) [.ref a9] h6 0 0 (fun r h10 => ∃ x12, r = some (.int x12) ∧ ah_o h10 a_0 11 ∧ X11_grant_C a_0 x12 h10 ∧ ∀ h15, h15 = X11_grant_H a_0 x12 h10 → Q (some (.int (X11_grant_V a_0 x12 h10))) h15))) ∧ (¬ u_0 = 0 → ah_o h a_0 11 ∧ ex_S yX11_refuse mX11_refuse (d + 17) [.ref a_0, .int u_0] h 0 0 (fun r h16 => ∃ x18, r = some (.int x18) ∧ Q (some (.int x18)) h16)))) : ex_G mX11_bracket (d + 18) 20 [.ref a_0, .retAddr 0, .retAddr 0] [.int u_0] h bc bs Q := by
  refine ex_istore_n (q := 21) (ls' := [.ref a_0, .retAddr 0, .int u_0]) dX11_bracket_20 rfl ?_
  refine ex_iload_n (q := 22) (x := u_0) dX11_bracket_21 rfl ?_
  refine ex_if_eq (tgt := 31) (q := 25) dX11_bracket_22 (fun c1 => ?_) (fun c1 => ?_)
  · replace w := w.1 c1
    refine ex_aload_n (q := 32) (x := a_0) dX11_bracket_31 rfl ?_
    have s2 := w.1
    replace w := w.2
    obtain ⟨a3, ea3, w⟩ := w
    refine ex_getr (q := 35) dX11_bracket_32 fl_X11_51 s2 ea3 ?_
    refine ex_aload_n (q := 36) (x := a_0) dX11_bracket_35 rfl ?_
    obtain ⟨a4, ea4, w⟩ := w
    refine ex_getr (q := 39) dX11_bracket_36 fl_X11_36 s2 ea4 ?_
    refine ex_aload_n (q := 40) (x := a_0) dX11_bracket_39 rfl ?_
    obtain ⟨a5, ea5, w⟩ := w
    refine ex_getr (q := 43) dX11_bracket_40 fl_X11_58 s2 ea5 ?_
    have s7 := w.1
    replace w := w.2
    refine ex_callV (q := 46) (M := mX11_bracket) (hdd := Nat.le_refl _) (c := 9) (st := []) (bc := bc) (bs := bs) dX11_bracket_43 rfl cl_X11_260 wd_841 wd_842 s7 w ?_
    rintro r h6 ⟨rfl, w⟩
    show ex_G mX11_bracket (d + 18) 46 [.ref a_0, .retAddr 0, .int u_0] [] h6 bc bs Q
    refine ex_aload_n (q := 47) (x := a_0) dX11_bracket_46 rfl ?_
    refine ex_aload_n (q := 48) (x := a_0) dX11_bracket_47 rfl ?_
    have s8 := w.1
    replace w := w.2
    obtain ⟨a9, ea9, w⟩ := w
    refine ex_getr (q := 51) dX11_bracket_48 fl_X11_58 s8 ea9 ?_
    have s11 := w.1
    replace w := w.2
    refine ex_callV (q := 54) (M := mX11_bracket) (hdd := Nat.le_refl _) (c := 2) (st := [.ref a_0]) (bc := bc) (bs := bs) dX11_bracket_51 rfl cl_X11_264 wd_883 wd_884 s11 w ?_
    rintro r h10 ⟨x12, rfl, w⟩
    show ex_G mX11_bracket (d + 18) 54 [.ref a_0, .retAddr 0, .int u_0] [.int x12, .ref a_0] h10 bc bs Q
    have s13 := w.1
    replace w := w.2
    have s14 := w.1
    replace w := w.2
    refine ex_callV (q := 57) (M := mX11_bracket) (hdd := Nat.le_refl _) (mc := 0) (ms := 0) (d' := (d + 17)) (c := 11) (st := []) (bc := bc) (bs := bs) dX11_bracket_54 rfl cl_X11_131 wd_576 wd_3 s13 (X11_grant_s (Q := fun r z => r = some (.int (X11_grant_V a_0 x12 h10)) ∧ z = X11_grant_H a_0 x12 h10) s14 ⟨rfl, rfl⟩) ?_
    intro r z hrz
    rw [hrz.1, hrz.2]
    show ex_G mX11_bracket (d + 18) 57 [.ref a_0, .retAddr 0, .int u_0] [.int (X11_grant_V a_0 x12 h10)] (X11_grant_H a_0 x12 h10) bc bs Q
    refine ex_nmh (fun h15 eh15 => ?_)
    replace w := w h15 eh15
    exact ex_ireturn dX11_bracket_57 rfl (Or.inl rfl) w
  · replace w := w.2 c1
    refine ex_aload_n (q := 26) (x := a_0) dX11_bracket_25 rfl ?_
    refine ex_iload_n (q := 27) (x := u_0) dX11_bracket_26 rfl ?_
    have s17 := w.1
    replace w := w.2
    refine ex_callV (q := 30) (M := mX11_bracket) (hdd := Nat.le_refl _) (c := 11) (st := []) (bc := bc) (bs := bs) dX11_bracket_27 rfl cl_X11_120 wd_557 wd_1 s17 w ?_
    rintro r h16 ⟨x18, rfl, w⟩
    show ex_G mX11_bracket (d + 18) 30 [.ref a_0, .retAddr 0, .int u_0] [.int x18] h16 bc bs Q
    exact ex_ireturn dX11_bracket_30 rfl (Or.inl rfl) w

theorem X11_bracket_e {d bc bs : Nat} {h : AH} {Q : Option Value → AH → Prop} {a_0 : Nat} {v_1 : Int32} (w : ex_G mX11_bracket (d + 18) 0 [.ref a_0, .int v_1, .retAddr 0] [] h bc bs Q) : ex_S yX11_bracket mX11_bracket (d + 18) [.ref a_0, .int v_1] h bc bs Q :=
  ex_enter (plainFor_of_name (by decide +kernel)) ⟨rfl, rfl⟩ rfl rfl (Nat.le_of_ble_eq_true rfl) (ex_pad 1 w)

set_option maxRecDepth 100000 in
theorem X11_polynomial_0 {d bc bs : Nat} {h : AH} {Q : Option Value → AH → Prop} {a_0 : Nat} {v_1 : Int32} (w : ah_o h a_0 11 ∧ X11_hasPicture_C a_0 v_1 h ∧ (((X11_hasPicture_V a_0 v_1 h) = 0 → ex_G mX11_polynomial (d + 19) 20 [.ref a_0, .retAddr 0, .retAddr 0] [.int (-2)] h bc bs Q) ∧ (¬ (X11_hasPicture_V a_0 v_1 h) = 0 → ex_S yX11_whyNoBracket mX11_whyNoBracket (d + 18) [.ref a_0, .int v_1, .int 14] h 0 0 (fun r h4 => ∃ x5, r = some (.int x5) ∧ ex_G mX11_polynomial (d + 19) 20 [.ref a_0, .retAddr 0, .retAddr 0] [.int x5] h4 bc bs Q)))) : ex_G mX11_polynomial (d + 19) 0 [.ref a_0, .int v_1, .retAddr 0] [] h bc bs Q := by
  refine ex_aload_n (q := 1) (x := a_0) dX11_polynomial_0 rfl ?_
  refine ex_iload_n (q := 2) (x := v_1) dX11_polynomial_1 rfl ?_
  have s1 := w.1
  replace w := w.2
  have s2 := w.1
  replace w := w.2
  refine ex_callV (q := 5) (M := mX11_polynomial) (hdd := Nat.le_refl _) (mc := 0) (ms := 0) (d' := (d + 18)) (c := 11) (st := []) (bc := bc) (bs := bs) dX11_polynomial_2 rfl cl_X11_134 wd_584 wd_4 s1 (X11_hasPicture_s (Q := fun r z => r = some (.int (X11_hasPicture_V a_0 v_1 h)) ∧ z = h) s2 ⟨rfl, rfl⟩) ?_
  intro r z hrz
  rw [hrz.1, hrz.2]
  show ex_G mX11_polynomial (d + 19) 5 [.ref a_0, .int v_1, .retAddr 0] [.int (X11_hasPicture_V a_0 v_1 h)] (h) bc bs Q
  refine ex_if_eq (tgt := 18) (q := 8) dX11_polynomial_5 (fun c3 => ?_) (fun c3 => ?_)
  · replace w := w.1 c3
    refine ex_bipush (q := 20) (v := (-2)) dX11_polynomial_18 (by decide) ?_
    refine ex_kill 1 (ls' := [.ref a_0, .retAddr 0, .retAddr 0]) rfl ?_
    exact w
  · replace w := w.2 c3
    refine ex_aload_n (q := 9) (x := a_0) dX11_polynomial_8 rfl ?_
    refine ex_iload_n (q := 10) (x := v_1) dX11_polynomial_9 rfl ?_
    refine ex_bipush (q := 12) (v := 14) dX11_polynomial_10 (by decide) ?_
    refine ex_callV (q := 15) (M := mX11_polynomial) (hdd := Nat.le_refl _) (c := 11) (st := []) (bc := bc) (bs := bs) dX11_polynomial_12 rfl cl_X11_257 wd_828 wd_20 s1 w ?_
    rintro r h4 ⟨x5, rfl, w⟩
    show ex_G mX11_polynomial (d + 19) 15 [.ref a_0, .int v_1, .retAddr 0] [.int x5] h4 bc bs Q
    refine ex_goto (tgt := 20) dX11_polynomial_15 ?_
    refine ex_kill 1 (ls' := [.ref a_0, .retAddr 0, .retAddr 0]) rfl ?_
    exact w

set_option maxRecDepth 100000 in
theorem X11_polynomial_20 {d bc bs : Nat} {h : AH} {Q : Option Value → AH → Prop} {a_0 : Nat} {u_0 : Int32} (w : ((u_0 = 0 → ah_o h a_0 11 ∧ ∃ a3, ah_r h a_0 7 = some a3 ∧ ∃ a4, ah_r h a_0 4 = some a4 ∧ ∃ a5, ah_r h a_0 8 = some a5 ∧ ah_o h a3 9 ∧ ex_S yX9_makePolynomial mX9_makePolynomial (d + 18) [.ref a3, .ref a4, .ref a5] h 0 0 (fun r h6 => r = none ∧ ah_o h6 a_0 11 ∧ ∃ a9, ah_r h6 a_0 8 = some a9 ∧ ah_o h6 a9 2 ∧ ex_S yX2_countNumbers mX2_countNumbers (d + 18) [.ref a9] h6 0 0 (fun r h10 => ∃ x12, r = some (.int x12) ∧ ah_o h10 a_0 11 ∧ X11_grant_C a_0 x12 h10 ∧ ∀ h15, h15 = X11_grant_H a_0 x12 h10 → Q (some (.int (X11_grant_V a_0 x12 h10))) h15))) ∧ (¬ u_0 = 0 → ah_o h a_0 11 ∧ ex_S yX11_refuse mX11_refuse (d + 18) [.ref a_0, .int u_0] h 0 0 (fun r h16 => ∃ x18, r = some (.int x18) ∧ Q (some (.int x18)) h16)))) : ex_G mX11_polynomial (d + 19) 20 [.ref a_0, .retAddr 0, .retAddr 0] [.int u_0] h bc bs Q := by
  refine ex_istore_n (q := 21) (ls' := [.ref a_0, .retAddr 0, .int u_0]) dX11_polynomial_20 rfl ?_
  refine ex_iload_n (q := 22) (x := u_0) dX11_polynomial_21 rfl ?_
  refine ex_if_eq (tgt := 31) (q := 25) dX11_polynomial_22 (fun c1 => ?_) (fun c1 => ?_)
  · replace w := w.1 c1
    refine ex_aload_n (q := 32) (x := a_0) dX11_polynomial_31 rfl ?_
    have s2 := w.1
    replace w := w.2
    obtain ⟨a3, ea3, w⟩ := w
    refine ex_getr (q := 35) dX11_polynomial_32 fl_X11_51 s2 ea3 ?_
    refine ex_aload_n (q := 36) (x := a_0) dX11_polynomial_35 rfl ?_
    obtain ⟨a4, ea4, w⟩ := w
    refine ex_getr (q := 39) dX11_polynomial_36 fl_X11_36 s2 ea4 ?_
    refine ex_aload_n (q := 40) (x := a_0) dX11_polynomial_39 rfl ?_
    obtain ⟨a5, ea5, w⟩ := w
    refine ex_getr (q := 43) dX11_polynomial_40 fl_X11_58 s2 ea5 ?_
    have s7 := w.1
    replace w := w.2
    refine ex_callV (q := 46) (M := mX11_polynomial) (hdd := Nat.le_refl _) (c := 9) (st := []) (bc := bc) (bs := bs) dX11_polynomial_43 rfl cl_X11_267 wd_891 wd_892 s7 w ?_
    rintro r h6 ⟨rfl, w⟩
    show ex_G mX11_polynomial (d + 19) 46 [.ref a_0, .retAddr 0, .int u_0] [] h6 bc bs Q
    refine ex_aload_n (q := 47) (x := a_0) dX11_polynomial_46 rfl ?_
    refine ex_aload_n (q := 48) (x := a_0) dX11_polynomial_47 rfl ?_
    have s8 := w.1
    replace w := w.2
    obtain ⟨a9, ea9, w⟩ := w
    refine ex_getr (q := 51) dX11_polynomial_48 fl_X11_58 s8 ea9 ?_
    have s11 := w.1
    replace w := w.2
    refine ex_callV (q := 54) (M := mX11_polynomial) (hdd := Nat.le_refl _) (c := 2) (st := [.ref a_0]) (bc := bc) (bs := bs) dX11_polynomial_51 rfl cl_X11_264 wd_883 wd_884 s11 w ?_
    rintro r h10 ⟨x12, rfl, w⟩
    show ex_G mX11_polynomial (d + 19) 54 [.ref a_0, .retAddr 0, .int u_0] [.int x12, .ref a_0] h10 bc bs Q
    have s13 := w.1
    replace w := w.2
    have s14 := w.1
    replace w := w.2
    refine ex_callV (q := 57) (M := mX11_polynomial) (hdd := Nat.le_refl _) (mc := 0) (ms := 0) (d' := (d + 18)) (c := 11) (st := []) (bc := bc) (bs := bs) dX11_polynomial_54 rfl cl_X11_131 wd_576 wd_3 s13 (X11_grant_s (Q := fun r z => r = some (.int (X11_grant_V a_0 x12 h10)) ∧ z = X11_grant_H a_0 x12 h10) s14 ⟨rfl, rfl⟩) ?_
    intro r z hrz
    rw [hrz.1, hrz.2]
    show ex_G mX11_polynomial (d + 19) 57 [.ref a_0, .retAddr 0, .int u_0] [.int (X11_grant_V a_0 x12 h10)] (X11_grant_H a_0 x12 h10) bc bs Q
    refine ex_nmh (fun h15 eh15 => ?_)
    replace w := w h15 eh15
    exact ex_ireturn dX11_polynomial_57 rfl (Or.inl rfl) w
  · replace w := w.2 c1
    refine ex_aload_n (q := 26) (x := a_0) dX11_polynomial_25 rfl ?_
    refine ex_iload_n (q := 27) (x := u_0) dX11_polynomial_26 rfl ?_
    have s17 := w.1
    replace w := w.2
    refine ex_callV (q := 30) (M := mX11_polynomial) (hdd := Nat.le_refl _) (c := 11) (st := []) (bc := bc) (bs := bs) dX11_polynomial_27 rfl cl_X11_120 wd_557 wd_1 s17 w ?_
    rintro r h16 ⟨x18, rfl, w⟩
    show ex_G mX11_polynomial (d + 19) 30 [.ref a_0, .retAddr 0, .int u_0] [.int x18] h16 bc bs Q
    exact ex_ireturn dX11_polynomial_30 rfl (Or.inl rfl) w

theorem X11_polynomial_e {d bc bs : Nat} {h : AH} {Q : Option Value → AH → Prop} {a_0 : Nat} {v_1 : Int32} (w : ex_G mX11_polynomial (d + 19) 0 [.ref a_0, .int v_1, .retAddr 0] [] h bc bs Q) : ex_S yX11_polynomial mX11_polynomial (d + 19) [.ref a_0, .int v_1] h bc bs Q :=
  ex_enter (plainFor_of_name (by decide +kernel)) ⟨rfl, rfl⟩ rfl rfl (Nat.le_of_ble_eq_true rfl) (ex_pad 1 w)
