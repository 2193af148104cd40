set_option maxRecDepth 100000 in
theorem X12_init_0 {d bc bs : Nat} {h : AH} {Q : Option Value → AH → Prop} {a_0 : Nat} (w : ah_n h < 10000000 ∧ ∀ h2, h2 = ah_na h 0 10 → ah_o h2 a_0 12 ∧ ∀ h4, h4 = ah_sr h2 a_0 1 (some (ah_n h)) → ah_n h4 < 10000000 ∧ ∀ h6, h6 = ah_na h4 0 368 → ah_o h6 a_0 12 ∧ ∀ h8, h8 = ah_sr h6 a_0 2 (some (ah_n h4)) → ah_n h8 < 10000000 ∧ ∀ h10, h10 = ah_na h8 0 368 → ah_o h10 a_0 12 ∧ ∀ h12, h12 = ah_sr h10 a_0 3 (some (ah_n h8)) → ah_n h12 < 10000000 ∧ ∀ h14, h14 = ah_na h12 0 14720 → ah_o h14 a_0 12 ∧ ∀ h16, h16 = ah_sr h14 a_0 4 (some (ah_n h12)) → ah_n h16 < 10000000 ∧ ∀ h18, h18 = ah_na h16 0 58880 → ah_o h18 a_0 12 ∧ ∀ h20, h20 = ah_sr h18 a_0 5 (some (ah_n h16)) → ah_n h20 < 10000000 ∧ ∀ h22, h22 = ah_na h20 0 24 → ah_o h22 a_0 12 ∧ ∀ h24, h24 = ah_sr h22 a_0 7 (some (ah_n h20)) → ah_n h24 < 10000000 ∧ ∀ h26, h26 = ah_na h24 0 4 → ah_o h26 a_0 12 ∧ ∀ h28, h28 = ah_sr h26 a_0 8 (some (ah_n h24)) → ∀ h29, h29 = ah_sf h28 a_0 9 (-1) → ah_n h29 < 10000000 ∧ ∀ h31, h31 = ah_na h29 0 160 → ah_o h31 a_0 12 ∧ ∀ h33, h33 = ah_sr h31 a_0 10 (some (ah_n h29)) → ah_n h33 < 10000000 ∧ ∀ h35, h35 = ah_na h33 0 160 → ah_o h35 a_0 12 ∧ ∀ h37, h37 = ah_sr h35 a_0 11 (some (ah_n h33)) → ah_n h37 < 10000000 ∧ ∀ h39, h39 = ah_na h37 1 160 → ah_o h39 a_0 12 ∧ ∀ h41, h41 = ah_sr h39 a_0 12 (some (ah_n h37)) → ah_n h41 < 10000000 ∧ ∀ h43, h43 = ah_na h41 0 100 → ah_o h43 a_0 12 ∧ ∀ h45, h45 = ah_sr h43 a_0 13 (some (ah_n h41)) → ah_n h45 < 10000000 ∧ ∀ h47, h47 = ah_na h45 0 100 → ah_o h47 a_0 12 ∧ ∀ h49, h49 = ah_sr h47 a_0 14 (some (ah_n h45)) → ∀ h50, h50 = ah_sf h49 a_0 15 (-1) → ah_n h50 < 10000000 ∧ ∀ h52, h52 = ah_na h50 0 160 → ah_o h52 a_0 12 ∧ ∀ h54, h54 = ah_sr h52 a_0 16 (some (ah_n h50)) → ah_n h54 < 10000000 ∧ ∀ h56, h56 = ah_na h54 1 160 → ah_o h56 a_0 12 ∧ ∀ h58, h58 = ah_sr h56 a_0 17 (some (ah_n h54)) → ah_n h58 < 10000000 ∧ ∀ h60, h60 = ah_na h58 0 100 → ah_o h60 a_0 12 ∧ ∀ h62, h62 = ah_sr h60 a_0 18 (some (ah_n h58)) → ah_n h62 < 10000000 ∧ ∀ h64, h64 = ah_na h62 0 4000 → ah_o h64 a_0 12 ∧ ∀ h66, h66 = ah_sr h64 a_0 19 (some (ah_n h62)) → ah_n h66 < 10000000 ∧ ∀ h68, h68 = ah_na h66 2 601 → ah_o h68 a_0 12 ∧ ∀ h70, h70 = ah_sr h68 a_0 20 (some (ah_n h66)) → ah_n h70 < 10000000 ∧ ∀ h72, h72 = ah_na h70 2 601 → ah_o h72 a_0 12 ∧ ∀ h74, h74 = ah_sr h72 a_0 21 (some (ah_n h70)) → ah_n h74 < 10000000 ∧ ∀ h76, h76 = ah_na h74 0 160 → ah_o h76 a_0 12 ∧ ∀ h78, h78 = ah_sr h76 a_0 24 (some (ah_n h74)) → ah_n h78 < 10000000 ∧ ∀ h80, h80 = ah_na h78 2 1800 → ah_o h80 a_0 12 ∧ ∀ h82, h82 = ah_sr h80 a_0 25 (some (ah_n h78)) → ah_n h82 < 10000000 ∧ ∀ h84, h84 = ah_na h82 2 601 → ah_o h84 a_0 12 ∧ ∀ h86, h86 = ah_sr h84 a_0 26 (some (ah_n h82)) → ah_n h86 < 10000000 ∧ ∀ h88, h88 = ah_na h86 2 601 → ah_o h88 a_0 12 ∧ ∀ h90, h90 = ah_sr h88 a_0 27 (some (ah_n h86)) → ah_n h90 < 10000000 ∧ ∀ h92, h92 = ah_na h90 0 130 → ah_o h92 a_0 12 ∧ ∀ h94, h94 = ah_sr h92 a_0 28 (some (ah_n h90)) → ah_n h94 < 10000000 ∧ ∀ h96, h96 = ah_na h94 0 40 → ah_o h96 a_0 12 ∧ ∀ h98, h98 = ah_sr h96 a_0 30 (some (ah_n h94)) → ah_n h98 < 10000000 ∧ ∀ h100, h100 = ah_na h98 0 40 → ah_o h100 a_0 12 ∧ ∀ h102, h102 = ah_sr h100 a_0 31 (some (ah_n h98)) → ah_n h102 < 10000000 ∧ ∀ h104, h104 = ah_na h102 0 160 → ah_o h104 a_0 12 ∧ ∀ h106, h106 = ah_sr h104 a_0 32 (some (ah_n h102)) → ah_n h106 < 10000000 ∧ ∀ h108, h108 = ah_na h106 1 100 → ah_o h108 a_0 12 ∧ ∀ h110, h110 = ah_sr h108 a_0 33 (some (ah_n h106)) → ah_n h110 < 10000000 ∧ ∀ h112, h112 = ah_na h110 0 160 → ah_o h112 a_0 12 ∧ ∀ h114, h114 = ah_sr h112 a_0 34 (some (ah_n h110)) → ah_n h114 < 10000000 ∧ ∀ h116, h116 = ah_na h114 0 240 → ah_o h116 a_0 12 ∧ ∀ h118, h118 = ah_sr h116 a_0 36 (some (ah_n h114)) → ah_n h118 < 10000000 ∧ ∀ h120, h120 = ah_na h118 0 3 → ah_o h120 a_0 12 ∧ ∀ h122, h122 = ah_sr h120 a_0 37 (some (ah_n h118)) → ah_n h122 < 10000000 ∧ ∀ h124, h124 = ah_na h122 0 40 → ah_o h124 a_0 12 ∧ ∀ h126, h126 = ah_sr h124 a_0 39 (some (ah_n h122)) → ah_n h126 < 10000000 ∧ ∀ h128, h128 = ah_na h126 0 40 → ah_o h128 a_0 12 ∧ ∀ h130, h130 = ah_sr h128 a_0 40 (some (ah_n h126)) → ah_n h130 < 10000000 ∧ ∀ h132, h132 = ah_na h130 0 40 → ah_o h132 a_0 12 ∧ ∀ h134, h134 = ah_sr h132 a_0 41 (some (ah_n h130)) → ah_n h134 < 10000000 ∧ ∀ h136, h136 = ah_na h134 0 160 → ah_o h136 a_0 12 ∧ ∀ h138, h138 = ah_sr h136 a_0 42 (some (ah_n h134)) → ah_n h138 < 10000000 ∧ ∀ h140, h140 = ah_na h138 0 160 → ah_o h140 a_0 12 ∧ ∀ h142, h142 = ah_sr h140 a_0 43 (some (ah_n h138)) → ah_n h142 < 10000000 ∧ ∀ h144, h144 = ah_na h142 0 41 → ah_o h144 a_0 12 ∧ ∀ h146, h146 = ah_sr h144 a_0 44 (some (ah_n h142)) → ah_n h146 < 10000000 ∧ ∀ h148, h148 = ah_na h146 0 160 → ah_o h148 a_0 12 ∧ ∀ h150, h150 = ah_sr h148 a_0 45 (some (ah_n h146)) → ah_n h150 < 10000000 ∧ ∀ h152, h152 = ah_na h150 1 40 → ah_o h152 a_0 12 ∧ ∀ h154, h154 = ah_sr h152 a_0 46 (some (ah_n h150)) → ah_n h154 < 10000000 ∧ ∀ h156, h156 = ah_na h154 0 210 → ah_o h156 a_0 12 ∧ ∀ h158, h158 = ah_sr h156 a_0 47 (some (ah_n h154)) → ah_n h158 < 10000000 ∧ ∀ h160, h160 = ah_na h158 0 210 → ah_o h160 a_0 12 ∧ ∀ h162, h162 = ah_sr h160 a_0 48 (some (ah_n h158)) → ah_n h162 < 10000000 ∧ ∀ h164, h164 = ah_na h162 0 100 → ah_o h164 a_0 12 ∧ ∀ h166, h166 = ah_sr h164 a_0 55 (some (ah_n h162)) → ah_n h166 < 10000000 ∧ ∀ h168, h168 = ah_na h166 0 100 → ah_o h168 a_0 12 ∧ ∀ h170, h170 = ah_sr h168 a_0 56 (some (ah_n h166)) → ah_n h170 < 10000000 ∧ ∀ h172, h172 = ah_na h170 0 7000 → ah_o h172 a_0 12 ∧ ∀ h174, h174 = ah_sr h172 a_0 57 (some (ah_n h170)) → ah_n h174 < 10000000 ∧ ∀ h176, h176 = ah_na h174 0 100 → ah_o h176 a_0 12 ∧ ∀ h178, h178 = ah_sr h176 a_0 58 (some (ah_n h174)) → ah_n h178 < 10000000 ∧ ∀ h180, h180 = ah_na h178 2 601 → ah_o h180 a_0 12 ∧ ∀ h182, h182 = ah_sr h180 a_0 61 (some (ah_n h178)) → ah_n h182 < 10000000 ∧ ∀ h184, h184 = ah_na h182 2 200 → ah_o h184 a_0 12 ∧ ∀ h186, h186 = ah_sr h184 a_0 63 (some (ah_n h182)) → ah_n h186 < 10000000 ∧ ∀ h188, h188 = ah_na h186 2 120200 → ah_o h188 a_0 12 ∧ ∀ h190, h190 = ah_sr h188 a_0 64 (some (ah_n h186)) → ex_G mX12_init (d + 1) 417 [.ref a_0, .int 0] [] h190 bc bs Q) : ex_G mX12_init (d + 1) 0 [.ref a_0, .retAddr 0] [] h (bc + 47) (bs + 214113) Q := by
  refine ex_aload_n (q := 1) (x := a_0) dX12_init_0 rfl ?_
  refine ex_objInit (q := 4) (hd1 := Nat.succ_le_succ (Nat.zero_le _)) (h1 := wd_135) (h2 := wd_136) (st := []) dX12_init_1 wd_1375 ?_
  refine ex_aload_n (q := 5) (x := a_0) dX12_init_4 rfl ?_
  refine ex_bipush (q := 7) (v := 10) dX12_init_5 (by decide) ?_
  have s1 := w.1
  replace w := w.2
  refine ex_G.room (bc' := (bc + 46) + 1) (bs' := (bs + 214103) + 10) (Nat.le_refl _) (rm_le rfl) (rm_le rfl) ?_
  refine ex_newarray (q := 9) (t := 0) (N := 10) (M := mX12_init) dX12_init_7 rfl (by decide) wd_161 rfl (by decide) s1 ?_
  refine ex_nmh (fun h2 eh2 => ?_)
  replace w := w h2 eh2
  have s3 := w.1
  replace w := w.2
  refine ex_putr (q := 12) dX12_init_9 fl_X12_7 (Or.inr ⟨rfl, rfl, wd_1379, rfl⟩) s3 ?_
  refine ex_nmh (fun h4 eh4 => ?_)
  replace w := w h4 eh4
  refine ex_aload_n (q := 13) (x := a_0) dX12_init_12 rfl ?_
  refine ex_sipush (q := 16) (v := 368) dX12_init_13 (by decide) ?_
  have s5 := w.1
  replace w := w.2
  refine ex_G.room (bc' := (bc + 45) + 1) (bs' := (bs + 213735) + 368) (Nat.le_refl _) (rm_le rfl) (rm_le rfl) ?_
  refine ex_newarray (q := 18) (t := 0) (N := 368) (M := mX12_init) dX12_init_16 rfl (by decide) wd_161 rfl (by decide) s5 ?_
  refine ex_nmh (fun h6 eh6 => ?_)
  replace w := w h6 eh6
  have s7 := w.1
  replace w := w.2
  refine ex_putr (q := 21) dX12_init_18 fl_X12_13 (Or.inr ⟨rfl, rfl, wd_1380, rfl⟩) s7 ?_
  refine ex_nmh (fun h8 eh8 => ?_)
  replace w := w h8 eh8
  refine ex_aload_n (q := 22) (x := a_0) dX12_init_21 rfl ?_
  refine ex_sipush (q := 25) (v := 368) dX12_init_22 (by decide) ?_
  have s9 := w.1
  replace w := w.2
  refine ex_G.room (bc' := (bc + 44) + 1) (bs' := (bs + 213367) + 368) (Nat.le_refl _) (rm_le rfl) (rm_le rfl) ?_
  refine ex_newarray (q := 27) (t := 0) (N := 368) (M := mX12_init) dX12_init_25 rfl (by decide) wd_161 rfl (by decide) s9 ?_
  refine ex_nmh (fun h10 eh10 => ?_)
  replace w := w h10 eh10
  have s11 := w.1
  replace w := w.2
  refine ex_putr (q := 30) dX12_init_27 fl_X12_16 (Or.inr ⟨rfl, rfl, wd_1381, rfl⟩) s11 ?_
  refine ex_nmh (fun h12 eh12 => ?_)
  replace w := w h12 eh12
  refine ex_aload_n (q := 31) (x := a_0) dX12_init_30 rfl ?_
  refine ex_sipush (q := 34) (v := 14720) dX12_init_31 (by decide) ?_
  have s13 := w.1
  replace w := w.2
  refine ex_G.room (bc' := (bc + 43) + 1) (bs' := (bs + 198647) + 14720) (Nat.le_refl _) (rm_le rfl) (rm_le rfl) ?_
  refine ex_newarray (q := 36) (t := 0) (N := 14720) (M := mX12_init) dX12_init_34 rfl (by decide) wd_161 rfl (by decide) s13 ?_
  refine ex_nmh (fun h14 eh14 => ?_)
  replace w := w h14 eh14
  have s15 := w.1
  replace w := w.2
  refine ex_putr (q := 39) dX12_init_36 fl_X12_19 (Or.inr ⟨rfl, rfl, wd_1382, rfl⟩) s15 ?_
  refine ex_nmh (fun h16 eh16 => ?_)
  replace w := w h16 eh16
  refine ex_aload_n (q := 40) (x := a_0) dX12_init_39 rfl ?_
  refine ex_ldc (q := 42) (v := 58880) dX12_init_40 wd_1376 ?_
  have s17 := w.1
  replace w := w.2
  refine ex_G.room (bc' := (bc + 42) + 1) (bs' := (bs + 139767) + 58880) (Nat.le_refl _) (rm_le rfl) (rm_le rfl) ?_
  refine ex_newarray (q := 44) (t := 0) (N := 58880) (M := mX12_init) dX12_init_42 rfl (by decide) wd_161 rfl (by decide) s17 ?_
  refine ex_nmh (fun h18 eh18 => ?_)
  replace w := w h18 eh18
  have s19 := w.1
  replace w := w.2
  refine ex_putr (q := 47) dX12_init_44 fl_X12_23 (Or.inr ⟨rfl, rfl, wd_1383, rfl⟩) s19 ?_
  refine ex_nmh (fun h20 eh20 => ?_)
  replace w := w h20 eh20
  refine ex_aload_n (q := 48) (x := a_0) dX12_init_47 rfl ?_
  refine ex_bipush (q := 50) (v := 24) dX12_init_48 (by decide) ?_
  have s21 := w.1
  replace w := w.2
  refine ex_G.room (bc' := (bc + 41) + 1) (bs' := (bs + 139743) + 24) (Nat.le_refl _) (rm_le rfl) (rm_le rfl) ?_
  refine ex_newarray (q := 52) (t := 0) (N := 24) (M := mX12_init) dX12_init_50 rfl (by decide) wd_161 rfl (by decide) s21 ?_
  refine ex_nmh (fun h22 eh22 => ?_)
  replace w := w h22 eh22
  have s23 := w.1
  replace w := w.2
  refine ex_putr (q := 55) dX12_init_52 fl_X12_26 (Or.inr ⟨rfl, rfl, wd_1385, rfl⟩) s23 ?_
  refine ex_nmh (fun h24 eh24 => ?_)
  replace w := w h24 eh24
  refine ex_aload_n (q := 56) (x := a_0) dX12_init_55 rfl ?_
  refine ex_iconst (q := 57) (v := 4) dX12_init_56 (by decide) ?_
  have s25 := w.1
  replace w := w.2
  refine ex_G.room (bc' := (bc + 40) + 1) (bs' := (bs + 139739) + 4) (Nat.le_refl _) (rm_le rfl) (rm_le rfl) ?_
  refine ex_newarray (q := 59) (t := 0) (N := 4) (M := mX12_init) dX12_init_57 rfl (by decide) wd_161 rfl (by decide) s25 ?_
  refine ex_nmh (fun h26 eh26 => ?_)
  replace w := w h26 eh26
  have s27 := w.1
  replace w := w.2
  refine ex_putr (q := 62) dX12_init_59 fl_X12_29 (Or.inr ⟨rfl, rfl, wd_1386, rfl⟩) s27 ?_
  refine ex_nmh (fun h28 eh28 => ?_)
  replace w := w h28 eh28
  refine ex_aload_n (q := 63) (x := a_0) dX12_init_62 rfl ?_
  refine ex_iconst (q := 64) (v := (-1)) dX12_init_63 (by decide) ?_
  refine ex_putf (q := 67) dX12_init_64 fl_X12_32 (Or.inl rfl) (by rw [eh28]; exact s27) (Or.inl rfl) ?_
  refine ex_nmh (fun h29 eh29 => ?_)
  replace w := w h29 eh29
  refine ex_aload_n (q := 68) (x := a_0) dX12_init_67 rfl ?_
  refine ex_sipush (q := 71) (v := 160) dX12_init_68 (by decide) ?_
  have s30 := w.1
  replace w := w.2
  refine ex_G.room (bc' := (bc + 39) + 1) (bs' := (bs + 139579) + 160) (Nat.le_refl _) (rm_le rfl) (rm_le rfl) ?_
  refine ex_newarray (q := 73) (t := 0) (N := 160) (M := mX12_init) dX12_init_71 rfl (by decide) wd_161 rfl (by decide) s30 ?_
  refine ex_nmh (fun h31 eh31 => ?_)
  replace w := w h31 eh31
  have s32 := w.1
  replace w := w.2
  refine ex_putr (q := 76) dX12_init_73 fl_X12_36 (Or.inr ⟨rfl, rfl, wd_1388, rfl⟩) s32 ?_
  refine ex_nmh (fun h33 eh33 => ?_)
  replace w := w h33 eh33
  refine ex_aload_n (q := 77) (x := a_0) dX12_init_76 rfl ?_
  refine ex_sipush (q := 80) (v := 160) dX12_init_77 (by decide) ?_
  have s34 := w.1
  replace w := w.2
  refine ex_G.room (bc' := (bc + 38) + 1) (bs' := (bs + 139419) + 160) (Nat.le_refl _) (rm_le rfl) (rm_le rfl) ?_
  refine ex_newarray (q := 82) (t := 0) (N := 160) (M := mX12_init) dX12_init_80 rfl (by decide) wd_161 rfl (by decide) s34 ?_
  refine ex_nmh (fun h35 eh35 => ?_)
  replace w := w h35 eh35
  have s36 := w.1
  replace w := w.2
  refine ex_putr (q := 85) dX12_init_82 fl_X12_39 (Or.inr ⟨rfl, rfl, wd_1389, rfl⟩) s36 ?_
  refine ex_nmh (fun h37 eh37 => ?_)
  replace w := w h37 eh37
  refine ex_aload_n (q := 86) (x := a_0) dX12_init_85 rfl ?_
  refine ex_sipush (q := 89) (v := 160) dX12_init_86 (by decide) ?_
  have s38 := w.1
  replace w := w.2
  refine ex_G.room (bc' := (bc + 37) + 1) (bs' := (bs + 139259) + 160) (Nat.le_refl _) (rm_le rfl) (rm_le rfl) ?_
  refine ex_newarray (q := 91) (t := 1) (N := 160) (M := mX12_init) dX12_init_89 rfl (by decide) wd_1574 rfl (by decide) s38 ?_
  refine ex_nmh (fun h39 eh39 => ?_)
  replace w := w h39 eh39
  have s40 := w.1
  replace w := w.2
  refine ex_putr (q := 94) dX12_init_91 fl_X12_42 (Or.inr ⟨rfl, rfl, wd_1390, rfl⟩) s40 ?_
  refine ex_nmh (fun h41 eh41 => ?_)
  replace w := w h41 eh41
  refine ex_aload_n (q := 95) (x := a_0) dX12_init_94 rfl ?_
  refine ex_bipush (q := 97) (v := 100) dX12_init_95 (by decide) ?_
  have s42 := w.1
  replace w := w.2
  refine ex_G.room (bc' := (bc + 36) + 1) (bs' := (bs + 139159) + 100) (Nat.le_refl _) (rm_le rfl) (rm_le rfl) ?_
  refine ex_newarray (q := 99) (t := 0) (N := 100) (M := mX12_init) dX12_init_97 rfl (by decide) wd_161 rfl (by decide) s42 ?_
  refine ex_nmh (fun h43 eh43 => ?_)
  replace w := w h43 eh43
  have s44 := w.1
  replace w := w.2
  refine ex_putr (q := 102) dX12_init_99 fl_X12_46 (Or.inr ⟨rfl, rfl, wd_1391, rfl⟩) s44 ?_
  refine ex_nmh (fun h45 eh45 => ?_)
  replace w := w h45 eh45
  refine ex_aload_n (q := 103) (x := a_0) dX12_init_102 rfl ?_
  refine ex_bipush (q := 105) (v := 100) dX12_init_103 (by decide) ?_
  have s46 := w.1
  replace w := w.2
  refine ex_G.room (bc' := (bc + 35) + 1) (bs' := (bs + 139059) + 100) (Nat.le_refl _) (rm_le rfl) (rm_le rfl) ?_
  refine ex_newarray (q := 107) (t := 0) (N := 100) (M := mX12_init) dX12_init_105 rfl (by decide) wd_161 rfl (by decide) s46 ?_
  refine ex_nmh (fun h47 eh47 => ?_)
  replace w := w h47 eh47
  have s48 := w.1
  replace w := w.2
  refine ex_putr (q := 110) dX12_init_107 fl_X12_49 (Or.inr ⟨rfl, rfl, wd_1392, rfl⟩) s48 ?_
  refine ex_nmh (fun h49 eh49 => ?_)
  replace w := w h49 eh49
  refine ex_aload_n (q := 111) (x := a_0) dX12_init_110 rfl ?_
  refine ex_iconst (q := 112) (v := (-1)) dX12_init_111 (by decide) ?_
  refine ex_putf (q := 115) dX12_init_112 fl_X12_52 (Or.inl rfl) (by rw [eh49]; exact s48) (Or.inl rfl) ?_
  refine ex_nmh (fun h50 eh50 => ?_)
  replace w := w h50 eh50
  refine ex_aload_n (q := 116) (x := a_0) dX12_init_115 rfl ?_
  refine ex_sipush (q := 119) (v := 160) dX12_init_116 (by decide) ?_
  have s51 := w.1
  replace w := w.2
  refine ex_G.room (bc' := (bc + 34) + 1) (bs' := (bs + 138899) + 160) (Nat.le_refl _) (rm_le rfl) (rm_le rfl) ?_
  refine ex_newarray (q := 121) (t := 0) (N := 160) (M := mX12_init) dX12_init_119 rfl (by decide) wd_161 rfl (by decide) s51 ?_
  refine ex_nmh (fun h52 eh52 => ?_)
  replace w := w h52 eh52
  have s53 := w.1
  replace w := w.2
  refine ex_putr (q := 124) dX12_init_121 fl_X12_55 (Or.inr ⟨rfl, rfl, wd_1394, rfl⟩) s53 ?_
  refine ex_nmh (fun h54 eh54 => ?_)
  replace w := w h54 eh54
  refine ex_aload_n (q := 125) (x := a_0) dX12_init_124 rfl ?_
  refine ex_sipush (q := 128) (v := 160) dX12_init_125 (by decide) ?_
  have s55 := w.1
  replace w := w.2
  refine ex_G.room (bc' := (bc + 33) + 1) (bs' := (bs + 138739) + 160) (Nat.le_refl _) (rm_le rfl) (rm_le rfl) ?_
  refine ex_newarray (q := 130) (t := 1) (N := 160) (M := mX12_init) dX12_init_128 rfl (by decide) wd_1574 rfl (by decide) s55 ?_
  refine ex_nmh (fun h56 eh56 => ?_)
  replace w := w h56 eh56
  have s57 := w.1
  replace w := w.2
  refine ex_putr (q := 133) dX12_init_130 fl_X12_58 (Or.inr ⟨rfl, rfl, wd_1395, rfl⟩) s57 ?_
  refine ex_nmh (fun h58 eh58 => ?_)
  replace w := w h58 eh58
  refine ex_aload_n (q := 134) (x := a_0) dX12_init_133 rfl ?_
  refine ex_bipush (q := 136) (v := 100) dX12_init_134 (by decide) ?_
  have s59 := w.1
  replace w := w.2
  refine ex_G.room (bc' := (bc + 32) + 1) (bs' := (bs + 138639) + 100) (Nat.le_refl _) (rm_le rfl) (rm_le rfl) ?_
  refine ex_newarray (q := 138) (t := 0) (N := 100) (M := mX12_init) dX12_init_136 rfl (by decide) wd_161 rfl (by decide) s59 ?_
  refine ex_nmh (fun h60 eh60 => ?_)
  replace w := w h60 eh60
  have s61 := w.1
  replace w := w.2
  refine ex_putr (q := 141) dX12_init_138 fl_X12_61 (Or.inr ⟨rfl, rfl, wd_1396, rfl⟩) s61 ?_
  refine ex_nmh (fun h62 eh62 => ?_)
  replace w := w h62 eh62
  refine ex_aload_n (q := 142) (x := a_0) dX12_init_141 rfl ?_
  refine ex_sipush (q := 145) (v := 4000) dX12_init_142 (by decide) ?_
  have s63 := w.1
  replace w := w.2
  refine ex_G.room (bc' := (bc + 31) + 1) (bs' := (bs + 134639) + 4000) (Nat.le_refl _) (rm_le rfl) (rm_le rfl) ?_
  refine ex_newarray (q := 147) (t := 0) (N := 4000) (M := mX12_init) dX12_init_145 rfl (by decide) wd_161 rfl (by decide) s63 ?_
  refine ex_nmh (fun h64 eh64 => ?_)
  replace w := w h64 eh64
  have s65 := w.1
  replace w := w.2
  refine ex_putr (q := 150) dX12_init_147 fl_X12_64 (Or.inr ⟨rfl, rfl, wd_1397, rfl⟩) s65 ?_
  refine ex_nmh (fun h66 eh66 => ?_)
  replace w := w h66 eh66
  refine ex_aload_n (q := 151) (x := a_0) dX12_init_150 rfl ?_
  refine ex_sipush (q := 154) (v := 601) dX12_init_151 (by decide) ?_
  have s67 := w.1
  replace w := w.2
  refine ex_G.room (bc' := (bc + 30) + 1) (bs' := (bs + 134038) + 601) (Nat.le_refl _) (rm_le rfl) (rm_le rfl) ?_
  refine ex_newarray (q := 156) (t := 2) (N := 601) (M := mX12_init) dX12_init_154 rfl (by decide) wd_330 rfl (by decide) s67 ?_
  refine ex_nmh (fun h68 eh68 => ?_)
  replace w := w h68 eh68
  have s69 := w.1
  replace w := w.2
  refine ex_putr (q := 159) dX12_init_156 fl_X12_67 (Or.inr ⟨rfl, rfl, wd_1398, rfl⟩) s69 ?_
  refine ex_nmh (fun h70 eh70 => ?_)
  replace w := w h70 eh70
  refine ex_aload_n (q := 160) (x := a_0) dX12_init_159 rfl ?_
  refine ex_sipush (q := 163) (v := 601) dX12_init_160 (by decide) ?_
  have s71 := w.1
  replace w := w.2
  refine ex_G.room (bc' := (bc + 29) + 1) (bs' := (bs + 133437) + 601) (Nat.le_refl _) (rm_le rfl) (rm_le rfl) ?_
  refine ex_newarray (q := 165) (t := 2) (N := 601) (M := mX12_init) dX12_init_163 rfl (by decide) wd_330 rfl (by decide) s71 ?_
  refine ex_nmh (fun h72 eh72 => ?_)
  replace w := w h72 eh72
  have s73 := w.1
  replace w := w.2
  refine ex_putr (q := 168) dX12_init_165 fl_X12_71 (Or.inr ⟨rfl, rfl, wd_1399, rfl⟩) s73 ?_
  refine ex_nmh (fun h74 eh74 => ?_)
  replace w := w h74 eh74
  refine ex_aload_n (q := 169) (x := a_0) dX12_init_168 rfl ?_
  refine ex_sipush (q := 172) (v := 160) dX12_init_169 (by decide) ?_
  have s75 := w.1
  replace w := w.2
  refine ex_G.room (bc' := (bc + 28) + 1) (bs' := (bs + 133277) + 160) (Nat.le_refl _) (rm_le rfl) (rm_le rfl) ?_
  refine ex_newarray (q := 174) (t := 0) (N := 160) (M := mX12_init) dX12_init_172 rfl (by decide) wd_161 rfl (by decide) s75 ?_
  refine ex_nmh (fun h76 eh76 => ?_)
  replace w := w h76 eh76
  have s77 := w.1
  replace w := w.2
  refine ex_putr (q := 177) dX12_init_174 fl_X12_74 (Or.inr ⟨rfl, rfl, wd_1402, rfl⟩) s77 ?_
  refine ex_nmh (fun h78 eh78 => ?_)
  replace w := w h78 eh78
  refine ex_aload_n (q := 178) (x := a_0) dX12_init_177 rfl ?_
  refine ex_sipush (q := 181) (v := 1800) dX12_init_178 (by decide) ?_
  have s79 := w.1
  replace w := w.2
  refine ex_G.room (bc' := (bc + 27) + 1) (bs' := (bs + 131477) + 1800) (Nat.le_refl _) (rm_le rfl) (rm_le rfl) ?_
  refine ex_newarray (q := 183) (t := 2) (N := 1800) (M := mX12_init) dX12_init_181 rfl (by decide) wd_330 rfl (by decide) s79 ?_
  refine ex_nmh (fun h80 eh80 => ?_)
  replace w := w h80 eh80
  have s81 := w.1
  replace w := w.2
  refine ex_putr (q := 186) dX12_init_183 fl_X12_77 (Or.inr ⟨rfl, rfl, wd_1403, rfl⟩) s81 ?_
  refine ex_nmh (fun h82 eh82 => ?_)
  replace w := w h82 eh82
  refine ex_aload_n (q := 187) (x := a_0) dX12_init_186 rfl ?_
  refine ex_sipush (q := 190) (v := 601) dX12_init_187 (by decide) ?_
  have s83 := w.1
  replace w := w.2
  refine ex_G.room (bc' := (bc + 26) + 1) (bs' := (bs + 130876) + 601) (Nat.le_refl _) (rm_le rfl) (rm_le rfl) ?_
  refine ex_newarray (q := 192) (t := 2) (N := 601) (M := mX12_init) dX12_init_190 rfl (by decide) wd_330 rfl (by decide) s83 ?_
  refine ex_nmh (fun h84 eh84 => ?_)
  replace w := w h84 eh84
  have s85 := w.1
  replace w := w.2
  refine ex_putr (q := 195) dX12_init_192 fl_X12_80 (Or.inr ⟨rfl, rfl, wd_1404, rfl⟩) s85 ?_
  refine ex_nmh (fun h86 eh86 => ?_)
  replace w := w h86 eh86
  refine ex_aload_n (q := 196) (x := a_0) dX12_init_195 rfl ?_
  refine ex_sipush (q := 199) (v := 601) dX12_init_196 (by decide) ?_
  have s87 := w.1
  replace w := w.2
  refine ex_G.room (bc' := (bc + 25) + 1) (bs' := (bs + 130275) + 601) (Nat.le_refl _) (rm_le rfl) (rm_le rfl) ?_
  refine ex_newarray (q := 201) (t := 2) (N := 601) (M := mX12_init) dX12_init_199 rfl (by decide) wd_330 rfl (by decide) s87 ?_
  refine ex_nmh (fun h88 eh88 => ?_)
  replace w := w h88 eh88
  have s89 := w.1
  replace w := w.2
  refine ex_putr (q := 204) dX12_init_201 fl_X12_83 (Or.inr ⟨rfl, rfl, wd_1405, rfl⟩) s89 ?_
  refine ex_nmh (fun h90 eh90 => ?_)
  replace w := w h90 eh90
  refine ex_aload_n (q := 205) (x := a_0) dX12_init_204 rfl ?_
  refine ex_sipush (q := 208) (v := 130) dX12_init_205 (by decide) ?_
  have s91 := w.1
  replace w := w.2
  refine ex_G.room (bc' := (bc + 24) + 1) (bs' := (bs + 130145) + 130) (Nat.le_refl _) (rm_le rfl) (rm_le rfl) ?_
  refine ex_newarray (q := 210) (t := 0) (N := 130) (M := mX12_init) dX12_init_208 rfl (by decide) wd_161 rfl (by decide) s91 ?_
  refine ex_nmh (fun h92 eh92 => ?_)
  replace w := w h92 eh92
  have s93 := w.1
  replace w := w.2
  refine ex_putr (q := 213) dX12_init_210 fl_X12_86 (Or.inr ⟨rfl, rfl, wd_1406, rfl⟩) s93 ?_
  refine ex_nmh (fun h94 eh94 => ?_)
  replace w := w h94 eh94
  refine ex_aload_n (q := 214) (x := a_0) dX12_init_213 rfl ?_
  refine ex_bipush (q := 216) (v := 40) dX12_init_214 (by decide) ?_
  have s95 := w.1
  replace w := w.2
  refine ex_G.room (bc' := (bc + 23) + 1) (bs' := (bs + 130105) + 40) (Nat.le_refl _) (rm_le rfl) (rm_le rfl) ?_
  refine ex_newarray (q := 218) (t := 0) (N := 40) (M := mX12_init) dX12_init_216 rfl (by decide) wd_161 rfl (by decide) s95 ?_
  refine ex_nmh (fun h96 eh96 => ?_)
  replace w := w h96 eh96
  have s97 := w.1
  replace w := w.2
  refine ex_putr (q := 221) dX12_init_218 fl_X12_89 (Or.inr ⟨rfl, rfl, wd_1408, rfl⟩) s97 ?_
  refine ex_nmh (fun h98 eh98 => ?_)
  replace w := w h98 eh98
  refine ex_aload_n (q := 222) (x := a_0) dX12_init_221 rfl ?_
  refine ex_bipush (q := 224) (v := 40) dX12_init_222 (by decide) ?_
  have s99 := w.1
  replace w := w.2
  refine ex_G.room (bc' := (bc + 22) + 1) (bs' := (bs + 130065) + 40) (Nat.le_refl _) (rm_le rfl) (rm_le rfl) ?_
  refine ex_newarray (q := 226) (t := 0) (N := 40) (M := mX12_init) dX12_init_224 rfl (by decide) wd_161 rfl (by decide) s99 ?_
  refine ex_nmh (fun h100 eh100 => ?_)
  replace w := w h100 eh100
  have s101 := w.1
  replace w := w.2
  refine ex_putr (q := 229) dX12_init_226 fl_X12_92 (Or.inr ⟨rfl, rfl, wd_1409, rfl⟩) s101 ?_
  refine ex_nmh (fun h102 eh102 => ?_)
  replace w := w h102 eh102
  refine ex_aload_n (q := 230) (x := a_0) dX12_init_229 rfl ?_
  refine ex_sipush (q := 233) (v := 160) dX12_init_230 (by decide) ?_
  have s103 := w.1
  replace w := w.2
  refine ex_G.room (bc' := (bc + 21) + 1) (bs' := (bs + 129905) + 160) (Nat.le_refl _) (rm_le rfl) (rm_le rfl) ?_
  refine ex_newarray (q := 235) (t := 0) (N := 160) (M := mX12_init) dX12_init_233 rfl (by decide) wd_161 rfl (by decide) s103 ?_
  refine ex_nmh (fun h104 eh104 => ?_)
  replace w := w h104 eh104
  have s105 := w.1
  replace w := w.2
  refine ex_putr (q := 238) dX12_init_235 fl_X12_95 (Or.inr ⟨rfl, rfl, wd_1410, rfl⟩) s105 ?_
  refine ex_nmh (fun h106 eh106 => ?_)
  replace w := w h106 eh106
  refine ex_aload_n (q := 239) (x := a_0) dX12_init_238 rfl ?_
  refine ex_bipush (q := 241) (v := 100) dX12_init_239 (by decide) ?_
  have s107 := w.1
  replace w := w.2
  refine ex_G.room (bc' := (bc + 20) + 1) (bs' := (bs + 129805) + 100) (Nat.le_refl _) (rm_le rfl) (rm_le rfl) ?_
  refine ex_newarray (q := 243) (t := 1) (N := 100) (M := mX12_init) dX12_init_241 rfl (by decide) wd_1574 rfl (by decide) s107 ?_
  refine ex_nmh (fun h108 eh108 => ?_)
  replace w := w h108 eh108
  have s109 := w.1
  replace w := w.2
  refine ex_putr (q := 246) dX12_init_243 fl_X12_98 (Or.inr ⟨rfl, rfl, wd_1411, rfl⟩) s109 ?_
  refine ex_nmh (fun h110 eh110 => ?_)
  replace w := w h110 eh110
  refine ex_aload_n (q := 247) (x := a_0) dX12_init_246 rfl ?_
  refine ex_sipush (q := 250) (v := 160) dX12_init_247 (by decide) ?_
  have s111 := w.1
  replace w := w.2
  refine ex_G.room (bc' := (bc + 19) + 1) (bs' := (bs + 129645) + 160) (Nat.le_refl _) (rm_le rfl) (rm_le rfl) ?_
  refine ex_newarray (q := 252) (t := 0) (N := 160) (M := mX12_init) dX12_init_250 rfl (by decide) wd_161 rfl (by decide) s111 ?_
  refine ex_nmh (fun h112 eh112 => ?_)
  replace w := w h112 eh112
  have s113 := w.1
  replace w := w.2
  refine ex_putr (q := 255) dX12_init_252 fl_X12_101 (Or.inr ⟨rfl, rfl, wd_1412, rfl⟩) s113 ?_
  refine ex_nmh (fun h114 eh114 => ?_)
  replace w := w h114 eh114
  refine ex_aload_n (q := 256) (x := a_0) dX12_init_255 rfl ?_
  refine ex_sipush (q := 259) (v := 240) dX12_init_256 (by decide) ?_
  have s115 := w.1
  replace w := w.2
  refine ex_G.room (bc' := (bc + 18) + 1) (bs' := (bs + 129405) + 240) (Nat.le_refl _) (rm_le rfl) (rm_le rfl) ?_
  refine ex_newarray (q := 261) (t := 0) (N := 240) (M := mX12_init) dX12_init_259 rfl (by decide) wd_161 rfl (by decide) s115 ?_
  refine ex_nmh (fun h116 eh116 => ?_)
  replace w := w h116 eh116
  have s117 := w.1
  replace w := w.2
  refine ex_putr (q := 264) dX12_init_261 fl_X12_104 (Or.inr ⟨rfl, rfl, wd_1414, rfl⟩) s117 ?_
  refine ex_nmh (fun h118 eh118 => ?_)
  replace w := w h118 eh118
  refine ex_aload_n (q := 265) (x := a_0) dX12_init_264 rfl ?_
  refine ex_iconst (q := 266) (v := 3) dX12_init_265 (by decide) ?_
  have s119 := w.1
  replace w := w.2
  refine ex_G.room (bc' := (bc + 17) + 1) (bs' := (bs + 129402) + 3) (Nat.le_refl _) (rm_le rfl) (rm_le rfl) ?_
  refine ex_newarray (q := 268) (t := 0) (N := 3) (M := mX12_init) dX12_init_266 rfl (by decide) wd_161 rfl (by decide) s119 ?_
  refine ex_nmh (fun h120 eh120 => ?_)
  replace w := w h120 eh120
  have s121 := w.1
  replace w := w.2
  refine ex_putr (q := 271) dX12_init_268 fl_X12_107 (Or.inr ⟨rfl, rfl, wd_1415, rfl⟩) s121 ?_
  refine ex_nmh (fun h122 eh122 => ?_)
  replace w := w h122 eh122
  refine ex_aload_n (q := 272) (x := a_0) dX12_init_271 rfl ?_
  refine ex_bipush (q := 274) (v := 40) dX12_init_272 (by decide) ?_
  have s123 := w.1
  replace w := w.2
  refine ex_G.room (bc' := (bc + 16) + 1) (bs' := (bs + 129362) + 40) (Nat.le_refl _) (rm_le rfl) (rm_le rfl) ?_
  refine ex_newarray (q := 276) (t := 0) (N := 40) (M := mX12_init) dX12_init_274 rfl (by decide) wd_161 rfl (by decide) s123 ?_
  refine ex_nmh (fun h124 eh124 => ?_)
  replace w := w h124 eh124
  have s125 := w.1
  replace w := w.2
  refine ex_putr (q := 279) dX12_init_276 fl_X12_110 (Or.inr ⟨rfl, rfl, wd_1417, rfl⟩) s125 ?_
  refine ex_nmh (fun h126 eh126 => ?_)
  replace w := w h126 eh126
  refine ex_aload_n (q := 280) (x := a_0) dX12_init_279 rfl ?_
  refine ex_bipush (q := 282) (v := 40) dX12_init_280 (by decide) ?_
  have s127 := w.1
  replace w := w.2
  refine ex_G.room (bc' := (bc + 15) + 1) (bs' := (bs + 129322) + 40) (Nat.le_refl _) (rm_le rfl) (rm_le rfl) ?_
  refine ex_newarray (q := 284) (t := 0) (N := 40) (M := mX12_init) dX12_init_282 rfl (by decide) wd_161 rfl (by decide) s127 ?_
  refine ex_nmh (fun h128 eh128 => ?_)
  replace w := w h128 eh128
  have s129 := w.1
  replace w := w.2
  refine ex_putr (q := 287) dX12_init_284 fl_X12_113 (Or.inr ⟨rfl, rfl, wd_1418, rfl⟩) s129 ?_
  refine ex_nmh (fun h130 eh130 => ?_)
  replace w := w h130 eh130
  refine ex_aload_n (q := 288) (x := a_0) dX12_init_287 rfl ?_
  refine ex_bipush (q := 290) (v := 40) dX12_init_288 (by decide) ?_
  have s131 := w.1
  replace w := w.2
  refine ex_G.room (bc' := (bc + 14) + 1) (bs' := (bs + 129282) + 40) (Nat.le_refl _) (rm_le rfl) (rm_le rfl) ?_
  refine ex_newarray (q := 292) (t := 0) (N := 40) (M := mX12_init) dX12_init_290 rfl (by decide) wd_161 rfl (by decide) s131 ?_
  refine ex_nmh (fun h132 eh132 => ?_)
  replace w := w h132 eh132
  have s133 := w.1
  replace w := w.2
  refine ex_putr (q := 295) dX12_init_292 fl_X12_116 (Or.inr ⟨rfl, rfl, wd_1419, rfl⟩) s133 ?_
  refine ex_nmh (fun h134 eh134 => ?_)
  replace w := w h134 eh134
  refine ex_aload_n (q := 296) (x := a_0) dX12_init_295 rfl ?_
  refine ex_sipush (q := 299) (v := 160) dX12_init_296 (by decide) ?_
  have s135 := w.1
  replace w := w.2
  refine ex_G.room (bc' := (bc + 13) + 1) (bs' := (bs + 129122) + 160) (Nat.le_refl _) (rm_le rfl) (rm_le rfl) ?_
  refine ex_newarray (q := 301) (t := 0) (N := 160) (M := mX12_init) dX12_init_299 rfl (by decide) wd_161 rfl (by decide) s135 ?_
  refine ex_nmh (fun h136 eh136 => ?_)
  replace w := w h136 eh136
  have s137 := w.1
  replace w := w.2
  refine ex_putr (q := 304) dX12_init_301 fl_X12_119 (Or.inr ⟨rfl, rfl, wd_1420, rfl⟩) s137 ?_
  refine ex_nmh (fun h138 eh138 => ?_)
  replace w := w h138 eh138
  refine ex_aload_n (q := 305) (x := a_0) dX12_init_304 rfl ?_
  refine ex_sipush (q := 308) (v := 160) dX12_init_305 (by decide) ?_
  have s139 := w.1
  replace w := w.2
  refine ex_G.room (bc' := (bc + 12) + 1) (bs' := (bs + 128962) + 160) (Nat.le_refl _) (rm_le rfl) (rm_le rfl) ?_
  refine ex_newarray (q := 310) (t := 0) (N := 160) (M := mX12_init) dX12_init_308 rfl (by decide) wd_161 rfl (by decide) s139 ?_
  refine ex_nmh (fun h140 eh140 => ?_)
  replace w := w h140 eh140
  have s141 := w.1
  replace w := w.2
  refine ex_putr (q := 313) dX12_init_310 fl_X12_122 (Or.inr ⟨rfl, rfl, wd_1421, rfl⟩) s141 ?_
  refine ex_nmh (fun h142 eh142 => ?_)
  replace w := w h142 eh142
  refine ex_aload_n (q := 314) (x := a_0) dX12_init_313 rfl ?_
  refine ex_bipush (q := 316) (v := 41) dX12_init_314 (by decide) ?_
  have s143 := w.1
  replace w := w.2
  refine ex_G.room (bc' := (bc + 11) + 1) (bs' := (bs + 128921) + 41) (Nat.le_refl _) (rm_le rfl) (rm_le rfl) ?_
  refine ex_newarray (q := 318) (t := 0) (N := 41) (M := mX12_init) dX12_init_316 rfl (by decide) wd_161 rfl (by decide) s143 ?_
  refine ex_nmh (fun h144 eh144 => ?_)
  replace w := w h144 eh144
  have s145 := w.1
  replace w := w.2
  refine ex_putr (q := 321) dX12_init_318 fl_X12_125 (Or.inr ⟨rfl, rfl, wd_1422, rfl⟩) s145 ?_
  refine ex_nmh (fun h146 eh146 => ?_)
  replace w := w h146 eh146
  refine ex_aload_n (q := 322) (x := a_0) dX12_init_321 rfl ?_
  refine ex_sipush (q := 325) (v := 160) dX12_init_322 (by decide) ?_
  have s147 := w.1
  replace w := w.2
  refine ex_G.room (bc' := (bc + 10) + 1) (bs' := (bs + 128761) + 160) (Nat.le_refl _) (rm_le rfl) (rm_le rfl) ?_
  refine ex_newarray (q := 327) (t := 0) (N := 160) (M := mX12_init) dX12_init_325 rfl (by decide) wd_161 rfl (by decide) s147 ?_
  refine ex_nmh (fun h148 eh148 => ?_)
  replace w := w h148 eh148
  have s149 := w.1
  replace w := w.2
  refine ex_putr (q := 330) dX12_init_327 fl_X12_128 (Or.inr ⟨rfl, rfl, wd_1423, rfl⟩) s149 ?_
  refine ex_nmh (fun h150 eh150 => ?_)
  replace w := w h150 eh150
  refine ex_aload_n (q := 331) (x := a_0) dX12_init_330 rfl ?_
  refine ex_bipush (q := 333) (v := 40) dX12_init_331 (by decide) ?_
  have s151 := w.1
  replace w := w.2
  refine ex_G.room (bc' := (bc + 9) + 1) (bs' := (bs + 128721) + 40) (Nat.le_refl _) (rm_le rfl) (rm_le rfl) ?_
  refine ex_newarray (q := 335) (t := 1) (N := 40) (M := mX12_init) dX12_init_333 rfl (by decide) wd_1574 rfl (by decide) s151 ?_
  refine ex_nmh (fun h152 eh152 => ?_)
  replace w := w h152 eh152
  have s153 := w.1
  replace w := w.2
  refine ex_putr (q := 338) dX12_init_335 fl_X12_131 (Or.inr ⟨rfl, rfl, wd_1424, rfl⟩) s153 ?_
  refine ex_nmh (fun h154 eh154 => ?_)
  replace w := w h154 eh154
  refine ex_aload_n (q := 339) (x := a_0) dX12_init_338 rfl ?_
  refine ex_sipush (q := 342) (v := 210) dX12_init_339 (by decide) ?_
  have s155 := w.1
  replace w := w.2
  refine ex_G.room (bc' := (bc + 8) + 1) (bs' := (bs + 128511) + 210) (Nat.le_refl _) (rm_le rfl) (rm_le rfl) ?_
  refine ex_newarray (q := 344) (t := 0) (N := 210) (M := mX12_init) dX12_init_342 rfl (by decide) wd_161 rfl (by decide) s155 ?_
  refine ex_nmh (fun h156 eh156 => ?_)
  replace w := w h156 eh156
  have s157 := w.1
  replace w := w.2
  refine ex_putr (q := 347) dX12_init_344 fl_X12_134 (Or.inr ⟨rfl, rfl, wd_1425, rfl⟩) s157 ?_
  refine ex_nmh (fun h158 eh158 => ?_)
  replace w := w h158 eh158
  refine ex_aload_n (q := 348) (x := a_0) dX12_init_347 rfl ?_
  refine ex_sipush (q := 351) (v := 210) dX12_init_348 (by decide) ?_
  have s159 := w.1
  replace w := w.2
  refine ex_G.room (bc' := (bc + 7) + 1) (bs' := (bs + 128301) + 210) (Nat.le_refl _) (rm_le rfl) (rm_le rfl) ?_
  refine ex_newarray (q := 353) (t := 0) (N := 210) (M := mX12_init) dX12_init_351 rfl (by decide) wd_161 rfl (by decide) s159 ?_
  refine ex_nmh (fun h160 eh160 => ?_)
  replace w := w h160 eh160
  have s161 := w.1
  replace w := w.2
  refine ex_putr (q := 356) dX12_init_353 fl_X12_137 (Or.inr ⟨rfl, rfl, wd_1426, rfl⟩) s161 ?_
  refine ex_nmh (fun h162 eh162 => ?_)
  replace w := w h162 eh162
  refine ex_aload_n (q := 357) (x := a_0) dX12_init_356 rfl ?_
  refine ex_bipush (q := 359) (v := 100) dX12_init_357 (by decide) ?_
  have s163 := w.1
  replace w := w.2
  refine ex_G.room (bc' := (bc + 6) + 1) (bs' := (bs + 128201) + 100) (Nat.le_refl _) (rm_le rfl) (rm_le rfl) ?_
  refine ex_newarray (q := 361) (t := 0) (N := 100) (M := mX12_init) dX12_init_359 rfl (by decide) wd_161 rfl (by decide) s163 ?_
  refine ex_nmh (fun h164 eh164 => ?_)
  replace w := w h164 eh164
  have s165 := w.1
  replace w := w.2
  refine ex_putr (q := 364) dX12_init_361 fl_X12_140 (Or.inr ⟨rfl, rfl, wd_1433, rfl⟩) s165 ?_
  refine ex_nmh (fun h166 eh166 => ?_)
  replace w := w h166 eh166
  refine ex_aload_n (q := 365) (x := a_0) dX12_init_364 rfl ?_
  refine ex_bipush (q := 367) (v := 100) dX12_init_365 (by decide) ?_
  have s167 := w.1
  replace w := w.2
  refine ex_G.room (bc' := (bc + 5) + 1) (bs' := (bs + 128101) + 100) (Nat.le_refl _) (rm_le rfl) (rm_le rfl) ?_
  refine ex_newarray (q := 369) (t := 0) (N := 100) (M := mX12_init) dX12_init_367 rfl (by decide) wd_161 rfl (by decide) s167 ?_
  refine ex_nmh (fun h168 eh168 => ?_)
  replace w := w h168 eh168
  have s169 := w.1
  replace w := w.2
  refine ex_putr (q := 372) dX12_init_369 fl_X12_143 (Or.inr ⟨rfl, rfl, wd_1434, rfl⟩) s169 ?_
  refine ex_nmh (fun h170 eh170 => ?_)
  replace w := w h170 eh170
  refine ex_aload_n (q := 373) (x := a_0) dX12_init_372 rfl ?_
  refine ex_sipush (q := 376) (v := 7000) dX12_init_373 (by decide) ?_
  have s171 := w.1
  replace w := w.2
  refine ex_G.room (bc' := (bc + 4) + 1) (bs' := (bs + 121101) + 7000) (Nat.le_refl _) (rm_le rfl) (rm_le rfl) ?_
  refine ex_newarray (q := 378) (t := 0) (N := 7000) (M := mX12_init) dX12_init_376 rfl (by decide) wd_161 rfl (by decide) s171 ?_
  refine ex_nmh (fun h172 eh172 => ?_)
  replace w := w h172 eh172
  have s173 := w.1
  replace w := w.2
  refine ex_putr (q := 381) dX12_init_378 fl_X12_146 (Or.inr ⟨rfl, rfl, wd_1435, rfl⟩) s173 ?_
  refine ex_nmh (fun h174 eh174 => ?_)
  replace w := w h174 eh174
  refine ex_aload_n (q := 382) (x := a_0) dX12_init_381 rfl ?_
  refine ex_bipush (q := 384) (v := 100) dX12_init_382 (by decide) ?_
  have s175 := w.1
  replace w := w.2
  refine ex_G.room (bc' := (bc + 3) + 1) (bs' := (bs + 121001) + 100) (Nat.le_refl _) (rm_le rfl) (rm_le rfl) ?_
  refine ex_newarray (q := 386) (t := 0) (N := 100) (M := mX12_init) dX12_init_384 rfl (by decide) wd_161 rfl (by decide) s175 ?_
  refine ex_nmh (fun h176 eh176 => ?_)
  replace w := w h176 eh176
  have s177 := w.1
  replace w := w.2
  refine ex_putr (q := 389) dX12_init_386 fl_X12_149 (Or.inr ⟨rfl, rfl, wd_1436, rfl⟩) s177 ?_
  refine ex_nmh (fun h178 eh178 => ?_)
  replace w := w h178 eh178
  refine ex_aload_n (q := 390) (x := a_0) dX12_init_389 rfl ?_
  refine ex_sipush (q := 393) (v := 601) dX12_init_390 (by decide) ?_
  have s179 := w.1
  replace w := w.2
  refine ex_G.room (bc' := (bc + 2) + 1) (bs' := (bs + 120400) + 601) (Nat.le_refl _) (rm_le rfl) (rm_le rfl) ?_
  refine ex_newarray (q := 395) (t := 2) (N := 601) (M := mX12_init) dX12_init_393 rfl (by decide) wd_330 rfl (by decide) s179 ?_
  refine ex_nmh (fun h180 eh180 => ?_)
  replace w := w h180 eh180
  have s181 := w.1
  replace w := w.2
  refine ex_putr (q := 398) dX12_init_395 fl_X12_152 (Or.inr ⟨rfl, rfl, wd_1439, rfl⟩) s181 ?_
  refine ex_nmh (fun h182 eh182 => ?_)
  replace w := w h182 eh182
  refine ex_aload_n (q := 399) (x := a_0) dX12_init_398 rfl ?_
  refine ex_sipush (q := 402) (v := 200) dX12_init_399 (by decide) ?_
  have s183 := w.1
  replace w := w.2
  refine ex_G.room (bc' := (bc + 1) + 1) (bs' := (bs + 120200) + 200) (Nat.le_refl _) (rm_le rfl) (rm_le rfl) ?_
  refine ex_newarray (q := 404) (t := 2) (N := 200) (M := mX12_init) dX12_init_402 rfl (by decide) wd_330 rfl (by decide) s183 ?_
  refine ex_nmh (fun h184 eh184 => ?_)
  replace w := w h184 eh184
  have s185 := w.1
  replace w := w.2
  refine ex_putr (q := 407) dX12_init_404 fl_X12_155 (Or.inr ⟨rfl, rfl, wd_1441, rfl⟩) s185 ?_
  refine ex_nmh (fun h186 eh186 => ?_)
  replace w := w h186 eh186
  refine ex_aload_n (q := 408) (x := a_0) dX12_init_407 rfl ?_
  refine ex_ldc (q := 410) (v := 120200) dX12_init_408 wd_1377 ?_
  have s187 := w.1
  replace w := w.2
  refine ex_G.room (bc' := bc + 1) (bs' := bs + 120200) (Nat.le_refl _) (Nat.le_refl _) (Nat.le_refl _) ?_
  refine ex_newarray (q := 412) (t := 2) (N := 120200) (M := mX12_init) dX12_init_410 rfl (by decide) wd_330 rfl (by decide) s187 ?_
  refine ex_nmh (fun h188 eh188 => ?_)
  replace w := w h188 eh188
  have s189 := w.1
  replace w := w.2
  refine ex_putr (q := 415) dX12_init_412 fl_X12_159 (Or.inr ⟨rfl, rfl, wd_1442, rfl⟩) s189 ?_
  refine ex_nmh (fun h190 eh190 => ?_)
  replace w := w h190 eh190
  refine ex_iconst (q := 416) (v := 0) dX12_init_415 (by decide) ?_
  refine ex_istore_n (q := 417) (ls' := [.ref a_0, .int 0]) dX12_init_416 rfl ?_
  exact w

set_option maxRecDepth 100000 in
theorem X12_init_417 {d bc bs : Nat} {h : AH} {Q : Option Value → AH → Prop} {a_0 : Nat} {v_1 : Int32} (w : ((24 ≤ v_1 → Q none h) ∧ (¬ 24 ≤ v_1 → ah_o h a_0 12 ∧ ∃ a3, ah_r h a_0 7 = some a3 ∧ st0 h a3 v_1 ∧ ∀ h4, h4 = ah_si h a3 (Int32.toNatClampNeg v_1) 0 → ∀ x6, x6 = v_1 + 1 → ex_G mX12_init (d + 1) 417 [.ref a_0, .int x6] [] h4 bc bs Q))) : ex_G mX12_init (d + 1) 417 [.ref a_0, .int v_1] [] h bc bs Q := by
  refine ex_iload_n (q := 418) (x := v_1) dX12_init_417 rfl ?_
  refine ex_bipush (q := 420) (v := 24) dX12_init_418 (by decide) ?_
  refine ex_icmp_ge (tgt := 436) (q := 423) dX12_init_420 (fun c1 => ?_) (fun c1 => ?_)
  · replace w := w.1 c1
    exact ex_return dX12_init_436 w
  · replace w := w.2 c1
    refine ex_aload_n (q := 424) (x := a_0) dX12_init_423 rfl ?_
    have s2 := w.1
    replace w := w.2
    obtain ⟨a3, ea3, w⟩ := w
    refine ex_getr (q := 427) dX12_init_424 fl_X12_26 s2 ea3 ?_
    refine ex_iload_n (q := 428) (x := v_1) dX12_init_427 rfl ?_
    refine ex_iconst (q := 429) (v := 0) dX12_init_428 (by decide) ?_
    have s5 := w.1
    replace w := w.2
    refine ex_iast (q := 430) dX12_init_429 s5 ?_
    refine ex_nmh (fun h4 eh4 => ?_)
    replace w := w h4 eh4
    obtain ⟨x6, ex6⟩ : ∃ y : Int32, y = v_1 + 1 := ⟨_, rfl⟩
    replace w := w x6 ex6
    refine ex_iinc (q := 433) (x := v_1) (v := x6) (ls' := [.ref a_0, .int x6]) dX12_init_430 rfl (by rw [ex6]; rfl) rfl ?_
    refine ex_goto (tgt := 417) dX12_init_433 ?_
    exact w

theorem X12_init_e {d bc bs : Nat} {h : AH} {Q : Option Value → AH → Prop} {a_0 : Nat} (w : ex_G mX12_init (d + 1) 0 [.ref a_0, .retAddr 0] [] h bc bs Q) : ex_S yX12_init mX12_init (d + 1) [.ref a_0] h bc bs Q :=
  ex_enter (plainFor_of_name (by decide +kernel)) ⟨rfl, rfl⟩ rfl rfl (Nat.le_of_ble_eq_true rfl) (ex_pad 1 w)

set_option maxRecDepth 100000 in
theorem X12_copySlot_0 {d bc bs : Nat} {h : AH} {Q : Option Value → AH → Prop} {a_0 : Nat} {v_1 : Int32} {v_2 : Int32} (w : ah_o h a_0 12 ∧ ∃ a2, ah_r h a_0 2 = some a2 ∧ ld0 h a2 v_1 ∧ st0 h a2 v_2 ∧ ∀ h4, h4 = ah_si h a2 (Int32.toNatClampNeg v_2) (ah_i h a2 (Int32.toNatClampNeg v_1)) → ∃ a6, ah_r h4 a_0 3 = some a6 ∧ ld0 h4 a6 v_1 ∧ st0 h4 a6 v_2 ∧ ∀ h8, h8 = ah_si h4 a6 (Int32.toNatClampNeg v_2) (ah_i h4 a6 (Int32.toNatClampNeg v_1)) → ex_G mX12_copySlot d 26 [.ref a_0, .int v_1, .int v_2, .int 0] [] h8 bc bs Q) : ex_G mX12_copySlot d 0 [.ref a_0, .int v_1, .int v_2, .retAddr 0] [] h bc bs Q := by
  refine ex_aload_n (q := 1) (x := a_0) dX12_copySlot_0 rfl ?_
  have s1 := w.1
  replace w := w.2
  obtain ⟨a2, ea2, w⟩ := w
  refine ex_getr (q := 4) dX12_copySlot_1 fl_X12_13 s1 ea2 ?_
  refine ex_iload_n (q := 5) (x := v_2) dX12_copySlot_4 rfl ?_
  refine ex_aload_n (q := 6) (x := a_0) dX12_copySlot_5 rfl ?_
  refine ex_getr (q := 9) dX12_copySlot_6 fl_X12_13 s1 ea2 ?_
  refine ex_iload_n (q := 10) (x := v_1) dX12_copySlot_9 rfl ?_
  have s3 := w.1
  replace w := w.2
  refine ex_iald (q := 11) dX12_copySlot_10 s3 ?_
  have s5 := w.1
  replace w := w.2
  refine ex_iast (q := 12) dX12_copySlot_11 s5 ?_
  refine ex_nmh (fun h4 eh4 => ?_)
  replace w := w h4 eh4
  refine ex_aload_n (q := 13) (x := a_0) dX12_copySlot_12 rfl ?_
  obtain ⟨a6, ea6, w⟩ := w
  refine ex_getr (q := 16) dX12_copySlot_13 fl_X12_16 (by rw [eh4]; exact s1) ea6 ?_
  refine ex_iload_n (q := 17) (x := v_2) dX12_copySlot_16 rfl ?_
  refine ex_aload_n (q := 18) (x := a_0) dX12_copySlot_17 rfl ?_
  refine ex_getr (q := 21) dX12_copySlot_18 fl_X12_16 (by rw [eh4]; exact s1) ea6 ?_
  refine ex_iload_n (q := 22) (x := v_1) dX12_copySlot_21 rfl ?_
  have s7 := w.1
  replace w := w.2
  refine ex_iald (q := 23) dX12_copySlot_22 s7 ?_
  have s9 := w.1
  replace w := w.2
  refine ex_iast (q := 24) dX12_copySlot_23 s9 ?_
  refine ex_nmh (fun h8 eh8 => ?_)
  replace w := w h8 eh8
  refine ex_iconst (q := 25) (v := 0) dX12_copySlot_24 (by decide) ?_
  refine ex_istore_n (q := 26) (ls' := [.ref a_0, .int v_1, .int v_2, .int 0]) dX12_copySlot_25 rfl ?_
  exact w

set_option maxRecDepth 100000 in
theorem X12_copySlot_26 {d bc bs : Nat} {h : AH} {Q : Option Value → AH → Prop} {a_0 : Nat} {v_1 : Int32} {v_2 : Int32} {v_3 : Int32} (w : ah_o h a_0 12 ∧ ∃ a2, ah_r h a_0 2 = some a2 ∧ ld0 h a2 v_1 ∧ (((ah_i h a2 (Int32.toNatClampNeg v_1)) ≤ v_3 → ex_G mX12_copySlot d 66 [.ref a_0, .int v_1, .int v_2, .int 0] [] h bc bs Q) ∧ (¬ (ah_i h a2 (Int32.toNatClampNeg v_1)) ≤ v_3 → ∃ a5, ah_r h a_0 4 = some a5 ∧ ld0 h a5 ((40 * v_1) + v_3) ∧ st0 h a5 ((40 * v_2) + v_3) ∧ ∀ h7, h7 = ah_si h a5 (Int32.toNatClampNeg ((40 * v_2) + v_3)) (ah_i h a5 (Int32.toNatClampNeg ((40 * v_1) + v_3))) → ∀ x9, x9 = v_3 + 1 → ex_G mX12_copySlot d 26 [.ref a_0, .int v_1, .int v_2, .int x9] [] h7 bc bs Q))) : ex_G mX12_copySlot d 26 [.ref a_0, .int v_1, .int v_2, .int v_3] [] h bc bs Q := by
  refine ex_iload_n (q := 27) (x := v_3) dX12_copySlot_26 rfl ?_
  refine ex_aload_n (q := 28) (x := a_0) dX12_copySlot_27 rfl ?_
  have s1 := w.1
  replace w := w.2
  obtain ⟨a2, ea2, w⟩ := w
  refine ex_getr (q := 31) dX12_copySlot_28 fl_X12_13 s1 ea2 ?_
  refine ex_iload_n (q := 32) (x := v_1) dX12_copySlot_31 rfl ?_
  have s3 := w.1
  replace w := w.2
  refine ex_iald (q := 33) dX12_copySlot_32 s3 ?_
  refine ex_icmp_ge (tgt := 64) (q := 36) dX12_copySlot_33 (fun c4 => ?_) (fun c4 => ?_)
  · replace w := w.1 c4
    refine ex_iconst (q := 65) (v := 0) dX12_copySlot_64 (by decide) ?_
    refine ex_istore_n (q := 66) (ls' := [.ref a_0, .int v_1, .int v_2, .int 0]) dX12_copySlot_65 rfl ?_
    exact w
  · replace w := w.2 c4
    refine ex_aload_n (q := 37) (x := a_0) dX12_copySlot_36 rfl ?_
    obtain ⟨a5, ea5, w⟩ := w
    refine ex_getr (q := 40) dX12_copySlot_37 fl_X12_19 s1 ea5 ?_
    refine ex_bipush (q := 42) (v := 40) dX12_copySlot_40 (by decide) ?_
    refine ex_iload_n (q := 43) (x := v_2) dX12_copySlot_42 rfl ?_
    refine ex_imul (q := 44) dX12_copySlot_43 ?_
    refine ex_iload_n (q := 45) (x := v_3) dX12_copySlot_44 rfl ?_
    refine ex_iadd (q := 46) dX12_copySlot_45 ?_
    refine ex_aload_n (q := 47) (x := a_0) dX12_copySlot_46 rfl ?_
    refine ex_getr (q := 50) dX12_copySlot_47 fl_X12_19 s1 ea5 ?_
    refine ex_bipush (q := 52) (v := 40) dX12_copySlot_50 (by decide) ?_
    refine ex_iload_n (q := 53) (x := v_1) dX12_copySlot_52 rfl ?_
    refine ex_imul (q := 54) dX12_copySlot_53 ?_
    refine ex_iload_n (q := 55) (x := v_3) dX12_copySlot_54 rfl ?_
    refine ex_iadd (q := 56) dX12_copySlot_55 ?_
    have s6 := w.1
    replace w := w.2
    refine ex_iald (q := 57) dX12_copySlot_56 s6 ?_
    have s8 := w.1
    replace w := w.2
    refine ex_iast (q := 58) dX12_copySlot_57 s8 ?_
    refine ex_nmh (fun h7 eh7 => ?_)
    replace w := w h7 eh7
    obtain ⟨x9, ex9⟩ : ∃ y : Int32, y = v_3 + 1 := ⟨_, rfl⟩
    replace w := w x9 ex9
    refine ex_iinc (q := 61) (x := v_3) (v := x9) (ls' := [.ref a_0, .int v_1, .int v_2, .int x9]) dX12_copySlot_58 rfl (by rw [ex9]; rfl) rfl ?_
    refine ex_goto (tgt := 26) dX12_copySlot_61 ?_
    exact w

set_option maxRecDepth 100000 in
theorem X12_copySlot_66 {d bc bs : Nat} {h : AH} {Q : Option Value → AH → Prop} {a_0 : Nat} {v_1 : Int32} {v_2 : Int32} {v_3 : Int32} (w : ah_o h a_0 12 ∧ ∃ a2, ah_r h a_0 2 = some a2 ∧ ld0 h a2 v_1 ∧ (((4 * (ah_i h a2 (Int32.toNatClampNeg v_1))) ≤ v_3 → Q none h) ∧ (¬ (4 * (ah_i h a2 (Int32.toNatClampNeg v_1))) ≤ v_3 → ∃ a5, ah_r h a_0 5 = some a5 ∧ ld0 h a5 ((160 * v_1) + v_3) ∧ st0 h a5 ((160 * v_2) + v_3) ∧ ∀ h7, h7 = ah_si h a5 (Int32.toNatClampNeg ((160 * v_2) + v_3)) (ah_i h a5 (Int32.toNatClampNeg ((160 * v_1) + v_3))) → ∀ x9, x9 = v_3 + 1 → ex_G mX12_copySlot d 66 [.ref a_0, .int v_1, .int v_2, .int x9] [] h7 bc bs Q))) : ex_G mX12_copySlot d 66 [.ref a_0, .int v_1, .int v_2, .int v_3] [] h bc bs Q := by
  refine ex_iload_n (q := 67) (x := v_3) dX12_copySlot_66 rfl ?_
  refine ex_iconst (q := 68) (v := 4) dX12_copySlot_67 (by decide) ?_
  refine ex_aload_n (q := 69) (x := a_0) dX12_copySlot_68 rfl ?_
  have s1 := w.1
  replace w := w.2
  obtain ⟨a2, ea2, w⟩ := w
  refine ex_getr (q := 72) dX12_copySlot_69 fl_X12_13 s1 ea2 ?_
  refine ex_iload_n (q := 73) (x := v_1) dX12_copySlot_72 rfl ?_
  have s3 := w.1
  replace w := w.2
  refine ex_iald (q := 74) dX12_copySlot_73 s3 ?_
  refine ex_imul (q := 75) dX12_copySlot_74 ?_
  refine ex_icmp_ge (tgt := 108) (q := 78) dX12_copySlot_75 (fun c4 => ?_) (fun c4 => ?_)
  · replace w := w.1 c4
    exact ex_return dX12_copySlot_108 w
  · replace w := w.2 c4
    refine ex_aload_n (q := 79) (x := a_0) dX12_copySlot_78 rfl ?_
    obtain ⟨a5, ea5, w⟩ := w
    refine ex_getr (q := 82) dX12_copySlot_79 fl_X12_23 s1 ea5 ?_
    refine ex_sipush (q := 85) (v := 160) dX12_copySlot_82 (by decide) ?_
    refine ex_iload_n (q := 86) (x := v_2) dX12_copySlot_85 rfl ?_
    refine ex_imul (q := 87) dX12_copySlot_86 ?_
    refine ex_iload_n (q := 88) (x := v_3) dX12_copySlot_87 rfl ?_
    refine ex_iadd (q := 89) dX12_copySlot_88 ?_
    refine ex_aload_n (q := 90) (x := a_0) dX12_copySlot_89 rfl ?_
    refine ex_getr (q := 93) dX12_copySlot_90 fl_X12_23 s1 ea5 ?_
    refine ex_sipush (q := 96) (v := 160) dX12_copySlot_93 (by decide) ?_
    refine ex_iload_n (q := 97) (x := v_1) dX12_copySlot_96 rfl ?_
    refine ex_imul (q := 98) dX12_copySlot_97 ?_
    refine ex_iload_n (q := 99) (x := v_3) dX12_copySlot_98 rfl ?_
    refine ex_iadd (q := 100) dX12_copySlot_99 ?_
    have s6 := w.1
    replace w := w.2
    refine ex_iald (q := 101) dX12_copySlot_100 s6 ?_
    have s8 := w.1
    replace w := w.2
    refine ex_iast (q := 102) dX12_copySlot_101 s8 ?_
    refine ex_nmh (fun h7 eh7 => ?_)
    replace w := w h7 eh7
    obtain ⟨x9, ex9⟩ : ∃ y : Int32, y = v_3 + 1 := ⟨_, rfl⟩
    replace w := w x9 ex9
    refine ex_iinc (q := 105) (x := v_3) (v := x9) (ls' := [.ref a_0, .int v_1, .int v_2, .int x9]) dX12_copySlot_102 rfl (by rw [ex9]; rfl) rfl ?_
    refine ex_goto (tgt := 66) dX12_copySlot_105 ?_
    exact w

theorem X12_copySlot_e {d bc bs : Nat} {h : AH} {Q : Option Value → AH → Prop} {a_0 : Nat} {v_1 : Int32} {v_2 : Int32} (w : ex_G mX12_copySlot d 0 [.ref a_0, .int v_1, .int v_2, .retAddr 0] [] h bc bs Q) : ex_S yX12_copySlot mX12_copySlot d [.ref a_0, .int v_1, .int v_2] h bc bs Q :=
  ex_enter (plainFor_of_name (by decide +kernel)) ⟨rfl, rfl⟩ rfl rfl (Nat.le_of_ble_eq_true rfl) (ex_pad 1 w)

set_option maxRecDepth 100000 in
theorem X12_added_0 {d bc bs : Nat} {h : AH} {Q : Option Value → AH → Prop} {a_0 : Nat} {v_1 : Int32} (w : ah_o h a_0 12 ∧ ex_S yX12_copySlot mX12_copySlot d [.ref a_0, .int v_1, .int (ah_f h a_0 6)] h 0 0 (fun r h2 => r = none ∧ ah_o h2 a_0 12 ∧ ∃ a4, ah_r h2 a_0 7 = some a4 ∧ st0 h2 a4 (ah_f h2 a_0 6) ∧ ∀ h5, h5 = ah_si h2 a4 (Int32.toNatClampNeg (ah_f h2 a_0 6)) 0 → ∀ h7, h7 = ah_sf h5 a_0 6 ((ah_f h5 a_0 6) + 1) → X12_well_C a_0 ((ah_f h7 a_0 6) - 1) h7 ∧ ∀ h9, h9 = X12_well_H a_0 ((ah_f h7 a_0 6) - 1) h7 → Q (some (.int (X12_well_V a_0 ((ah_f h7 a_0 6) - 1) h7))) h9)) : ex_G mX12_added (d + 1) 0 [.ref a_0, .int v_1] [] h bc bs Q := by
  refine ex_aload_n (q := 1) (x := a_0) dX12_added_0 rfl ?_
  refine ex_iload_n (q := 2) (x := v_1) dX12_added_1 rfl ?_
  refine ex_aload_n (q := 3) (x := a_0) dX12_added_2 rfl ?_
  have s1 := w.1
  replace w := w.2
  refine ex_getf (q := 6) dX12_added_3 fl_X12_169 s1 ?_
  refine ex_callV (q := 9) (M := mX12_added) (hdd := Nat.le_refl _) (c := 12) (st := []) (bc := bc) (bs := bs) dX12_added_6 rfl cl_X12_176 wd_1796 wd_71 s1 w ?_
  rintro r h2 ⟨rfl, w⟩
  show ex_G mX12_added (d + 1) 9 [.ref a_0, .int v_1] [] h2 bc bs Q
  refine ex_aload_n (q := 10) (x := a_0) dX12_added_9 rfl ?_
  have s3 := w.1
  replace w := w.2
  obtain ⟨a4, ea4, w⟩ := w
  refine ex_getr (q := 13) dX12_added_10 fl_X12_26 s3 ea4 ?_
  refine ex_aload_n (q := 14) (x := a_0) dX12_added_13 rfl ?_
  refine ex_getf (q := 17) dX12_added_14 fl_X12_169 s3 ?_
  refine ex_iconst (q := 18) (v := 0) dX12_added_17 (by decide) ?_
  have s6 := w.1
  replace w := w.2
  refine ex_iast (q := 19) dX12_added_18 s6 ?_
  refine ex_nmh (fun h5 eh5 => ?_)
  replace w := w h5 eh5
  refine ex_aload_n (q := 20) (x := a_0) dX12_added_19 rfl ?_
  refine ex_dup (q := 21) dX12_added_20 rfl ?_
  refine ex_getf (q := 24) dX12_added_21 fl_X12_169 (by rw [eh5]; exact s3) ?_
  refine ex_iconst (q := 25) (v := 1) dX12_added_24 (by decide) ?_
  refine ex_iadd (q := 26) dX12_added_25 ?_
  refine ex_putf (q := 29) dX12_added_26 fl_X12_169 (Or.inl rfl) (by rw [eh5]; exact s3) (Or.inl rfl) ?_
  refine ex_nmh (fun h7 eh7 => ?_)
  replace w := w h7 eh7
  refine ex_aload_n (q := 30) (x := a_0) dX12_added_29 rfl ?_
  refine ex_aload_n (q := 31) (x := a_0) dX12_added_30 rfl ?_
  refine ex_getf (q := 34) dX12_added_31 fl_X12_169 (by rw [eh7]; exact (by rw [eh5]; exact s3)) ?_
  refine ex_iconst (q := 35) (v := 1) dX12_added_34 (by decide) ?_
  refine ex_isub (q := 36) dX12_added_35 ?_
  have s8 := w.1
  replace w := w.2
  refine ex_callV (q := 39) (M := mX12_added) (hdd := Nat.le_refl _) (mc := 0) (ms := 0) (d' := d) (c := 12) (st := []) (bc := bc) (bs := bs) dX12_added_36 rfl cl_X12_180 wd_1585 wd_47 (by rw [eh7]; exact (by rw [eh5]; exact s3)) (X12_well_s (Q := fun r z => r = some (.int (X12_well_V a_0 ((ah_f h7 a_0 6) - 1) h7)) ∧ z = X12_well_H a_0 ((ah_f h7 a_0 6) - 1) h7) s8 ⟨rfl, rfl⟩) ?_
  intro r z hrz
  rw [hrz.1, hrz.2]
  show ex_G mX12_added (d + 1) 39 [.ref a_0, .int v_1] [.int (X12_well_V a_0 ((ah_f h7 a_0 6) - 1) h7)] (X12_well_H a_0 ((ah_f h7 a_0 6) - 1) h7) bc bs Q
  refine ex_nmh (fun h9 eh9 => ?_)
  replace w := w h9 eh9
  exact ex_ireturn dX12_added_39 rfl (Or.inl rfl) w

theorem X12_added_e {d bc bs : Nat} {h : AH} {Q : Option Value → AH → Prop} {a_0 : Nat} {v_1 : Int32} (w : ex_G mX12_added (d + 1) 0 [.ref a_0, .int v_1] [] h bc bs Q) : ex_S yX12_added mX12_added (d + 1) [.ref a_0, .int v_1] h bc bs Q :=
  ex_enter (plainFor_of_name (by decide +kernel)) ⟨rfl, rfl⟩ rfl rfl (Nat.le_of_ble_eq_true rfl) (ex_pad 0 w)

set_option maxRecDepth 100000 in
theorem X12_replaced_0 {d bc bs : Nat} {h : AH} {Q : Option Value → AH → Prop} {a_0 : Nat} {v_1 : Int32} {v_2 : Int32} (w : ah_o h a_0 12 ∧ ∃ a2, ah_r h a_0 7 = some a2 ∧ ld0 h a2 v_1 ∧ ((¬ (ah_i h a2 (Int32.toNatClampNeg v_1)) = 10 → ex_G mX12_replaced (d + 1) 57 [.ref a_0, .int v_1, .int v_2, .retAddr 0] [] h bc bs Q) ∧ ((ah_i h a2 (Int32.toNatClampNeg v_1)) = 10 → ex_G mX12_replaced (d + 1) 13 [.ref a_0, .int v_1, .int v_2, .int 0] [] h bc bs Q))) : ex_G mX12_replaced (d + 1) 0 [.ref a_0, .int v_1, .int v_2, .retAddr 0] [] h bc bs Q := by
  refine ex_aload_n (q := 1) (x := a_0) dX12_replaced_0 rfl ?_
  have s1 := w.1
  replace w := w.2
  obtain ⟨a2, ea2, w⟩ := w
  refine ex_getr (q := 4) dX12_replaced_1 fl_X12_26 s1 ea2 ?_
  refine ex_iload_n (q := 5) (x := v_1) dX12_replaced_4 rfl ?_
  have s3 := w.1
  replace w := w.2
  refine ex_iald (q := 6) dX12_replaced_5 s3 ?_
  refine ex_bipush (q := 8) (v := 10) dX12_replaced_6 (by decide) ?_
  refine ex_icmp_ne (tgt := 57) (q := 11) dX12_replaced_8 (fun c4 => ?_) (fun c4 => ?_)
  · replace w := w.1 c4
    exact w
  · replace w := w.2 c4
    refine ex_iconst (q := 12) (v := 0) dX12_replaced_11 (by decide) ?_
    refine ex_istore_n (q := 13) (ls' := [.ref a_0, .int v_1, .int v_2, .int 0]) dX12_replaced_12 rfl ?_
    exact w

set_option maxRecDepth 100000 in
theorem X12_replaced_13 {d bc bs : Nat} {h : AH} {Q : Option Value → AH → Prop} {a_0 : Nat} {v_1 : Int32} {v_2 : Int32} {v_3 : Int32} (w : ((9 ≤ v_3 → ah_o h a_0 12 ∧ ∃ a3, ah_r h a_0 7 = some a3 ∧ st0 h a3 v_1 ∧ ∀ h4, h4 = ah_si h a3 (Int32.toNatClampNeg v_1) 9 → ex_G mX12_replaced (d + 1) 57 [.ref a_0, .int v_1, .int v_2, .retAddr 0] [] h4 bc bs Q) ∧ (¬ 9 ≤ v_3 → ah_o h a_0 12 ∧ ex_S yX12_copySlot mX12_copySlot d [.ref a_0, .int (((24 + (10 * v_1)) + v_3) + 1), .int ((24 + (10 * v_1)) + v_3)] h 0 0 (fun r h6 => r = none ∧ ∀ x8, x8 = v_3 + 1 → ex_G mX12_replaced (d + 1) 13 [.ref a_0, .int v_1, .int v_2, .int x8] [] h6 bc bs Q)))) : ex_G mX12_replaced (d + 1) 13 [.ref a_0, .int v_1, .int v_2, .int v_3] [] h bc bs Q := by
  refine ex_iload_n (q := 14) (x := v_3) dX12_replaced_13 rfl ?_
  refine ex_bipush (q := 16) (v := 9) dX12_replaced_14 (by decide) ?_
  refine ex_icmp_ge (tgt := 49) (q := 19) dX12_replaced_16 (fun c1 => ?_) (fun c1 => ?_)
  · replace w := w.1 c1
    refine ex_aload_n (q := 50) (x := a_0) dX12_replaced_49 rfl ?_
    have s2 := w.1
    replace w := w.2
    obtain ⟨a3, ea3, w⟩ := w
    refine ex_getr (q := 53) dX12_replaced_50 fl_X12_26 s2 ea3 ?_
    refine ex_iload_n (q := 54) (x := v_1) dX12_replaced_53 rfl ?_
    refine ex_bipush (q := 56) (v := 9) dX12_replaced_54 (by decide) ?_
    have s5 := w.1
    replace w := w.2
    refine ex_iast (q := 57) dX12_replaced_56 s5 ?_
    refine ex_nmh (fun h4 eh4 => ?_)
    replace w := w h4 eh4
    refine ex_kill 3 (ls' := [.ref a_0, .int v_1, .int v_2, .retAddr 0]) rfl ?_
    exact w
  · replace w := w.2 c1
    refine ex_aload_n (q := 20) (x := a_0) dX12_replaced_19 rfl ?_
    refine ex_bipush (q := 22) (v := 24) dX12_replaced_20 (by decide) ?_
    refine ex_bipush (q := 24) (v := 10) dX12_replaced_22 (by decide) ?_
    refine ex_iload_n (q := 25) (x := v_1) dX12_replaced_24 rfl ?_
    refine ex_imul (q := 26) dX12_replaced_25 ?_
    refine ex_iadd (q := 27) dX12_replaced_26 ?_
    refine ex_iload_n (q := 28) (x := v_3) dX12_replaced_27 rfl ?_
    refine ex_iadd (q := 29) dX12_replaced_28 ?_
    refine ex_iconst (q := 30) (v := 1) dX12_replaced_29 (by decide) ?_
    refine ex_iadd (q := 31) dX12_replaced_30 ?_
    refine ex_bipush (q := 33) (v := 24) dX12_replaced_31 (by decide) ?_
    refine ex_bipush (q := 35) (v := 10) dX12_replaced_33 (by decide) ?_
    refine ex_iload_n (q := 36) (x := v_1) dX12_replaced_35 rfl ?_
    refine ex_imul (q := 37) dX12_replaced_36 ?_
    refine ex_iadd (q := 38) dX12_replaced_37 ?_
    refine ex_iload_n (q := 39) (x := v_3) dX12_replaced_38 rfl ?_
    refine ex_iadd (q := 40) dX12_replaced_39 ?_
    have s7 := w.1
    replace w := w.2
    refine ex_callV (q := 43) (M := mX12_replaced) (hdd := Nat.le_refl _) (c := 12) (st := []) (bc := bc) (bs := bs) dX12_replaced_40 rfl cl_X12_176 wd_1796 wd_71 s7 w ?_
    rintro r h6 ⟨rfl, w⟩
    show ex_G mX12_replaced (d + 1) 43 [.ref a_0, .int v_1, .int v_2, .int v_3] [] h6 bc bs Q
    obtain ⟨x8, ex8⟩ : ∃ y : Int32, y = v_3 + 1 := ⟨_, rfl⟩
    replace w := w x8 ex8
    refine ex_iinc (q := 46) (x := v_3) (v := x8) (ls' := [.ref a_0, .int v_1, .int v_2, .int x8]) dX12_replaced_43 rfl (by rw [ex8]; rfl) rfl ?_
    refine ex_goto (tgt := 13) dX12_replaced_46 ?_
    exact w

set_option maxRecDepth 100000 in
theorem X12_replaced_57 {d bc bs : Nat} {h : AH} {Q : Option Value → AH → Prop} {a_0 : Nat} {v_1 : Int32} {v_2 : Int32} (w : ah_o h a_0 12 ∧ ∃ a2, ah_r h a_0 7 = some a2 ∧ ld0 h a2 v_1 ∧ ex_S yX12_copySlot mX12_copySlot d [.ref a_0, .int v_1, .int ((24 + (10 * v_1)) + (ah_i h a2 (Int32.toNatClampNeg v_1)))] h 0 0 (fun r h4 => r = none ∧ ah_o h4 a_0 12 ∧ ∃ a6, ah_r h4 a_0 7 = some a6 ∧ ld0 h4 a6 v_1 ∧ st0 h4 a6 v_1 ∧ ∀ h8, h8 = ah_si h4 a6 (Int32.toNatClampNeg v_1) ((ah_i h4 a6 (Int32.toNatClampNeg v_1)) + 1) → ex_S yX12_copySlot mX12_copySlot d [.ref a_0, .int v_2, .int v_1] h8 0 0 (fun r h10 => r = none ∧ Q none h10))) : ex_G mX12_replaced (d + 1) 57 [.ref a_0, .int v_1, .int v_2, .retAddr 0] [] h bc bs Q := by
  refine ex_aload_n (q := 58) (x := a_0) dX12_replaced_57 rfl ?_
  refine ex_iload_n (q := 59) (x := v_1) dX12_replaced_58 rfl ?_
  refine ex_bipush (q := 61) (v := 24) dX12_replaced_59 (by decide) ?_
  refine ex_bipush (q := 63) (v := 10) dX12_replaced_61 (by decide) ?_
  refine ex_iload_n (q := 64) (x := v_1) dX12_replaced_63 rfl ?_
  refine ex_imul (q := 65) dX12_replaced_64 ?_
  refine ex_iadd (q := 66) dX12_replaced_65 ?_
  refine ex_aload_n (q := 67) (x := a_0) dX12_replaced_66 rfl ?_
  have s1 := w.1
  replace w := w.2
  obtain ⟨a2, ea2, w⟩ := w
  refine ex_getr (q := 70) dX12_replaced_67 fl_X12_26 s1 ea2 ?_
  refine ex_iload_n (q := 71) (x := v_1) dX12_replaced_70 rfl ?_
  have s3 := w.1
  replace w := w.2
  refine ex_iald (q := 72) dX12_replaced_71 s3 ?_
  refine ex_iadd (q := 73) dX12_replaced_72 ?_
  refine ex_callV (q := 76) (M := mX12_replaced) (hdd := Nat.le_refl _) (c := 12) (st := []) (bc := bc) (bs := bs) dX12_replaced_73 rfl cl_X12_176 wd_1796 wd_71 s1 w ?_
  rintro r h4 ⟨rfl, w⟩
  show ex_G mX12_replaced (d + 1) 76 [.ref a_0, .int v_1, .int v_2, .retAddr 0] [] h4 bc bs Q
  refine ex_aload_n (q := 77) (x := a_0) dX12_replaced_76 rfl ?_
  have s5 := w.1
  replace w := w.2
  obtain ⟨a6, ea6, w⟩ := w
  refine ex_getr (q := 80) dX12_replaced_77 fl_X12_26 s5 ea6 ?_
  refine ex_iload_n (q := 81) (x := v_1) dX12_replaced_80 rfl ?_
  refine ex_dup2 (q := 82) dX12_replaced_81 rfl rfl ?_
  have s7 := w.1
  replace w := w.2
  refine ex_iald (q := 83) dX12_replaced_82 s7 ?_
  refine ex_iconst (q := 84) (v := 1) dX12_replaced_83 (by decide) ?_
  refine ex_iadd (q := 85) dX12_replaced_84 ?_
  have s9 := w.1
  replace w := w.2
  refine ex_iast (q := 86) dX12_replaced_85 s9 ?_
  refine ex_nmh (fun h8 eh8 => ?_)
  replace w := w h8 eh8
  refine ex_aload_n (q := 87) (x := a_0) dX12_replaced_86 rfl ?_
  refine ex_iload_n (q := 88) (x := v_2) dX12_replaced_87 rfl ?_
  refine ex_iload_n (q := 89) (x := v_1) dX12_replaced_88 rfl ?_
  refine ex_callV (q := 92) (M := mX12_replaced) (hdd := Nat.le_refl _) (c := 12) (st := []) (bc := bc) (bs := bs) dX12_replaced_89 rfl cl_X12_176 wd_1796 wd_71 (by rw [eh8]; exact s5) w ?_
  rintro r h10 ⟨rfl, w⟩
  show ex_G mX12_replaced (d + 1) 92 [.ref a_0, .int v_1, .int v_2, .retAddr 0] [] h10 bc bs Q
  exact ex_return dX12_replaced_92 w

theorem X12_replaced_e {d bc bs : Nat} {h : AH} {Q : Option Value → AH → Prop} {a_0 : Nat} {v_1 : Int32} {v_2 : Int32} (w : ex_G mX12_replaced (d + 1) 0 [.ref a_0, .int v_1, .int v_2, .retAddr 0] [] h bc bs Q) : ex_S yX12_replaced mX12_replaced (d + 1) [.ref a_0, .int v_1, .int v_2] h bc bs Q :=
  ex_enter (plainFor_of_name (by decide +kernel)) ⟨rfl, rfl⟩ rfl rfl (Nat.le_of_ble_eq_true rfl) (ex_pad 1 w)

set_option maxRecDepth 100000 in
theorem X12_picture_0 {d bc bs : Nat} {h : AH} {Q : Option Value → AH → Prop} {a_0 : Nat} (w : ah_o h a_0 12 ∧ ((¬ (ah_f h a_0 6) = 24 → ∃ a3, ah_r h a_0 2 = some a3 ∧ st0 h a3 (ah_f h a_0 6) ∧ ∀ h4, h4 = ah_si h a3 (Int32.toNatClampNeg (ah_f h a_0 6)) 0 → ∃ a6, ah_r h4 a_0 3 = some a6 ∧ st0 h4 a6 (ah_f h4 a_0 6) ∧ ∀ h7, h7 = ah_si h4 a6 (Int32.toNatClampNeg (ah_f h4 a_0 6)) 0 → ∃ a9, ah_r h7 a_0 7 = some a9 ∧ st0 h7 a9 (ah_f h7 a_0 6) ∧ ∀ h10, h10 = ah_si h7 a9 (Int32.toNatClampNeg (ah_f h7 a_0 6)) 0 → ∀ h12, h12 = ah_sf h10 a_0 6 ((ah_f h10 a_0 6) + 1) → X12_well_C a_0 ((ah_f h12 a_0 6) - 1) h12 ∧ ∀ h14, h14 = X12_well_H a_0 ((ah_f h12 a_0 6) - 1) h12 → Q (some (.int (X12_well_V a_0 ((ah_f h12 a_0 6) - 1) h12))) h14) ∧ ((ah_f h a_0 6) = 24 → X12_no_C a_0 (-3) h ∧ ∀ h16, h16 = X12_no_H a_0 (-3) h → Q (some (.int (X12_no_V a_0 (-3) h))) h16))) : ex_G mX12_picture (d + 1) 0 [.ref a_0] [] h bc bs Q := by
  refine ex_aload_n (q := 1) (x := a_0) dX12_picture_0 rfl ?_
  have s1 := w.1
  replace w := w.2
  refine ex_getf (q := 4) dX12_picture_1 fl_X12_169 s1 ?_
  refine ex_bipush (q := 6) (v := 24) dX12_picture_4 (by decide) ?_
  refine ex_icmp_ne (tgt := 16) (q := 9) dX12_picture_6 (fun c2 => ?_) (fun c2 => ?_)
  · replace w := w.1 c2
    refine ex_aload_n (q := 17) (x := a_0) dX12_picture_16 rfl ?_
    obtain ⟨a3, ea3, w⟩ := w
    refine ex_getr (q := 20) dX12_picture_17 fl_X12_13 s1 ea3 ?_
    refine ex_aload_n (q := 21) (x := a_0) dX12_picture_20 rfl ?_
    refine ex_getf (q := 24) dX12_picture_21 fl_X12_169 s1 ?_
    refine ex_iconst (q := 25) (v := 0) dX12_picture_24 (by decide) ?_
    have s5 := w.1
    replace w := w.2
    refine ex_iast (q := 26) dX12_picture_25 s5 ?_
    refine ex_nmh (fun h4 eh4 => ?_)
    replace w := w h4 eh4
    refine ex_aload_n (q := 27) (x := a_0) dX12_picture_26 rfl ?_
    obtain ⟨a6, ea6, w⟩ := w
    refine ex_getr (q := 30) dX12_picture_27 fl_X12_16 (by rw [eh4]; exact s1) ea6 ?_
    refine ex_aload_n (q := 31) (x := a_0) dX12_picture_30 rfl ?_
    refine ex_getf (q := 34) dX12_picture_31 fl_X12_169 (by rw [eh4]; exact s1) ?_
    refine ex_iconst (q := 35) (v := 0) dX12_picture_34 (by decide) ?_
    have s8 := w.1
    replace w := w.2
    refine ex_iast (q := 36) dX12_picture_35 s8 ?_
    refine ex_nmh (fun h7 eh7 => ?_)
    replace w := w h7 eh7
    refine ex_aload_n (q := 37) (x := a_0) dX12_picture_36 rfl ?_
    obtain ⟨a9, ea9, w⟩ := w
    refine ex_getr (q := 40) dX12_picture_37 fl_X12_26 (by rw [eh7]; exact (by rw [eh4]; exact s1)) ea9 ?_
    refine ex_aload_n (q := 41) (x := a_0) dX12_picture_40 rfl ?_
    refine ex_getf (q := 44) dX12_picture_41 fl_X12_169 (by rw [eh7]; exact (by rw [eh4]; exact s1)) ?_
    refine ex_iconst (q := 45) (v := 0) dX12_picture_44 (by decide) ?_
    have s11 := w.1
    replace w := w.2
    refine ex_iast (q := 46) dX12_picture_45 s11 ?_
    refine ex_nmh (fun h10 eh10 => ?_)
    replace w := w h10 eh10
    refine ex_aload_n (q := 47) (x := a_0) dX12_picture_46 rfl ?_
    refine ex_dup (q := 48) dX12_picture_47 rfl ?_
    refine ex_getf (q := 51) dX12_picture_48 fl_X12_169 (by rw [eh10]; exact (by rw [eh7]; exact (by rw [eh4]; exact s1))) ?_
    refine ex_iconst (q := 52) (v := 1) dX12_picture_51 (by decide) ?_
    refine ex_iadd (q := 53) dX12_picture_52 ?_
    refine ex_putf (q := 56) dX12_picture_53 fl_X12_169 (Or.inl rfl) (by rw [eh10]; exact (by rw [eh7]; exact (by rw [eh4]; exact s1))) (Or.inl rfl) ?_
    refine ex_nmh (fun h12 eh12 => ?_)
    replace w := w h12 eh12
    refine ex_aload_n (q := 57) (x := a_0) dX12_picture_56 rfl ?_
    refine ex_aload_n (q := 58) (x := a_0) dX12_picture_57 rfl ?_
    refine ex_getf (q := 61) dX12_picture_58 fl_X12_169 (by rw [eh12]; exact (by rw [eh10]; exact (by rw [eh7]; exact (by rw [eh4]; exact s1)))) ?_
    refine ex_iconst (q := 62) (v := 1) dX12_picture_61 (by decide) ?_
    refine ex_isub (q := 63) dX12_picture_62 ?_
    have s13 := w.1
    replace w := w.2
    refine ex_callV (q := 66) (M := mX12_picture) (hdd := Nat.le_refl _) (mc := 0) (ms := 0) (d' := d) (c := 12) (st := []) (bc := bc) (bs := bs) dX12_picture_63 rfl cl_X12_180 wd_1585 wd_47 (by rw [eh12]; exact (by rw [eh10]; exact (by rw [eh7]; exact (by rw [eh4]; exact s1)))) (X12_well_s (Q := fun r z => r = some (.int (X12_well_V a_0 ((ah_f h12 a_0 6) - 1) h12)) ∧ z = X12_well_H a_0 ((ah_f h12 a_0 6) - 1) h12) s13 ⟨rfl, rfl⟩) ?_
    intro r z hrz
    rw [hrz.1, hrz.2]
    show ex_G mX12_picture (d + 1) 66 [.ref a_0] [.int (X12_well_V a_0 ((ah_f h12 a_0 6) - 1) h12)] (X12_well_H a_0 ((ah_f h12 a_0 6) - 1) h12) bc bs Q
    refine ex_nmh (fun h14 eh14 => ?_)
    replace w := w h14 eh14
    exact ex_ireturn dX12_picture_66 rfl (Or.inl rfl) w
  · replace w := w.2 c2
    refine ex_aload_n (q := 10) (x := a_0) dX12_picture_9 rfl ?_
    refine ex_bipush (q := 12) (v := (-3)) dX12_picture_10 (by decide) ?_
    have s15 := w.1
    replace w := w.2
    refine ex_callV (q := 15) (M := mX12_picture) (hdd := Nat.le_refl _) (mc := 0) (ms := 0) (d' := d) (c := 12) (st := []) (bc := bc) (bs := bs) dX12_picture_12 rfl cl_X12_165 wd_1581 wd_46 s1 (X12_no_s (Q := fun r z => r = some (.int (X12_no_V a_0 (-3) h)) ∧ z = X12_no_H a_0 (-3) h) s15 ⟨rfl, rfl⟩) ?_
    intro r z hrz
    rw [hrz.1, hrz.2]
    show ex_G mX12_picture (d + 1) 15 [.ref a_0] [.int (X12_no_V a_0 (-3) h)] (X12_no_H a_0 (-3) h) bc bs Q
    refine ex_nmh (fun h16 eh16 => ?_)
    replace w := w h16 eh16
    exact ex_ireturn dX12_picture_15 rfl (Or.inl rfl) w

theorem X12_picture_e {d bc bs : Nat} {h : AH} {Q : Option Value → AH → Prop} {a_0 : Nat} (w : ex_G mX12_picture (d + 1) 0 [.ref a_0] [] h bc bs Q) : ex_S yX12_picture mX12_picture (d + 1) [.ref a_0] h bc bs Q :=
  ex_enter (plainFor_of_name (by decide +kernel)) ⟨rfl, rfl⟩ rfl rfl (Nat.le_of_ble_eq_true rfl) (ex_pad 0 w)

set_option maxRecDepth 100000 in
theorem X12_append_0 {d bc bs : Nat} {h : AH} {Q : Option Value → AH → Prop} {a_0 : Nat} {v_1 : Int32} {v_2 : Int32} {v_3 : Int32} {v_4 : Int32} {v_5 : Int32} (w : ah_o h a_0 12 ∧ ∃ a2, ah_r h a_0 2 = some a2 ∧ ld0 h a2 v_1 ∧ ∀ x4, x4 = (160 * v_1) + (4 * (ah_i h a2 (Int32.toNatClampNeg v_1))) → ∃ a5, ah_r h a_0 4 = some a5 ∧ st0 h a5 ((40 * v_1) + (ah_i h a2 (Int32.toNatClampNeg v_1))) ∧ ∀ h6, h6 = ah_si h a5 (Int32.toNatClampNeg ((40 * v_1) + (ah_i h a2 (Int32.toNatClampNeg v_1)))) 4 → ∃ a8, ah_r h6 a_0 5 = some a8 ∧ st0 h6 a8 x4 ∧ ∀ h9, h9 = ah_si h6 a8 (Int32.toNatClampNeg x4) v_2 → st0 h9 a8 (x4 + 1) ∧ ∀ h11, h11 = ah_si h9 a8 (Int32.toNatClampNeg (x4 + 1)) v_3 → st0 h11 a8 (x4 + 2) ∧ ∀ h13, h13 = ah_si h11 a8 (Int32.toNatClampNeg (x4 + 2)) v_4 → st0 h13 a8 (x4 + 3) ∧ ∀ h15, h15 = ah_si h13 a8 (Int32.toNatClampNeg (x4 + 3)) v_5 → st0 h15 a2 v_1 ∧ ∀ h17, h17 = ah_si h15 a2 (Int32.toNatClampNeg v_1) ((ah_i h15 a2 (Int32.toNatClampNeg v_1)) + 1) → Q none h17) : ex_G mX12_append d 0 [.ref a_0, .int v_1, .int v_2, .int v_3, .int v_4, .int v_5, .retAddr 0] [] h bc bs Q := by
  refine ex_sipush (q := 3) (v := 160) dX12_append_0 (by decide) ?_
  refine ex_iload_n (q := 4) (x := v_1) dX12_append_3 rfl ?_
  refine ex_imul (q := 5) dX12_append_4 ?_
  refine ex_iconst (q := 6) (v := 4) dX12_append_5 (by decide) ?_
  refine ex_aload_n (q := 7) (x := a_0) dX12_append_6 rfl ?_
  have s1 := w.1
  replace w := w.2
  obtain ⟨a2, ea2, w⟩ := w
  refine ex_getr (q := 10) dX12_append_7 fl_X12_13 s1 ea2 ?_
  refine ex_iload_n (q := 11) (x := v_1) dX12_append_10 rfl ?_
  have s3 := w.1
  replace w := w.2
  refine ex_iald (q := 12) dX12_append_11 s3 ?_
  refine ex_imul (q := 13) dX12_append_12 ?_
  refine ex_iadd (q := 14) dX12_append_13 ?_
  refine ex_nmi (fun x4 ex4 => ?_)
  replace w := w x4 ex4
  refine ex_istore (q := 16) (ls' := [.ref a_0, .int v_1, .int v_2, .int v_3, .int v_4, .int v_5, .int x4]) dX12_append_14 rfl ?_
  refine ex_aload_n (q := 17) (x := a_0) dX12_append_16 rfl ?_
  obtain ⟨a5, ea5, w⟩ := w
  refine ex_getr (q := 20) dX12_append_17 fl_X12_19 s1 ea5 ?_
  refine ex_bipush (q := 22) (v := 40) dX12_append_20 (by decide) ?_
  refine ex_iload_n (q := 23) (x := v_1) dX12_append_22 rfl ?_
  refine ex_imul (q := 24) dX12_append_23 ?_
  refine ex_aload_n (q := 25) (x := a_0) dX12_append_24 rfl ?_
  refine ex_getr (q := 28) dX12_append_25 fl_X12_13 s1 ea2 ?_
  refine ex_iload_n (q := 29) (x := v_1) dX12_append_28 rfl ?_
  refine ex_iald (q := 30) dX12_append_29 s3 ?_
  refine ex_iadd (q := 31) dX12_append_30 ?_
  refine ex_iconst (q := 32) (v := 4) dX12_append_31 (by decide) ?_
  have s7 := w.1
  replace w := w.2
  refine ex_iast (q := 33) dX12_append_32 s7 ?_
  refine ex_nmh (fun h6 eh6 => ?_)
  replace w := w h6 eh6
  refine ex_aload_n (q := 34) (x := a_0) dX12_append_33 rfl ?_
  obtain ⟨a8, ea8, w⟩ := w
  refine ex_getr (q := 37) dX12_append_34 fl_X12_23 (by rw [eh6]; exact s1) ea8 ?_
  refine ex_iload (q := 39) (x := x4) dX12_append_37 rfl ?_
  refine ex_iload_n (q := 40) (x := v_2) dX12_append_39 rfl ?_
  have s10 := w.1
  replace w := w.2
  refine ex_iast (q := 41) dX12_append_40 s10 ?_
  refine ex_nmh (fun h9 eh9 => ?_)
  replace w := w h9 eh9
  refine ex_aload_n (q := 42) (x := a_0) dX12_append_41 rfl ?_
  refine ex_getr (q := 45) dX12_append_42 fl_X12_23 (by rw [eh9]; exact (by rw [eh6]; exact s1)) (by rw [eh9]; exact ea8) ?_
  refine ex_iload (q := 47) (x := x4) dX12_append_45 rfl ?_
  refine ex_iconst (q := 48) (v := 1) dX12_append_47 (by decide) ?_
  refine ex_iadd (q := 49) dX12_append_48 ?_
  refine ex_iload_n (q := 50) (x := v_3) dX12_append_49 rfl ?_
  have s12 := w.1
  replace w := w.2
  refine ex_iast (q := 51) dX12_append_50 s12 ?_
  refine ex_nmh (fun h11 eh11 => ?_)
  replace w := w h11 eh11
  refine ex_aload_n (q := 52) (x := a_0) dX12_append_51 rfl ?_
  refine ex_getr (q := 55) dX12_append_52 fl_X12_23 (by rw [eh11]; exact (by rw [eh9]; exact (by rw [eh6]; exact s1))) (by rw [eh11]; exact (by rw [eh9]; exact ea8)) ?_
  refine ex_iload (q := 57) (x := x4) dX12_append_55 rfl ?_
  refine ex_iconst (q := 58) (v := 2) dX12_append_57 (by decide) ?_
  refine ex_iadd (q := 59) dX12_append_58 ?_
  refine ex_iload (q := 61) (x := v_4) dX12_append_59 rfl ?_
  have s14 := w.1
  replace w := w.2
  refine ex_iast (q := 62) dX12_append_61 s14 ?_
  refine ex_nmh (fun h13 eh13 => ?_)
  replace w := w h13 eh13
  refine ex_aload_n (q := 63) (x := a_0) dX12_append_62 rfl ?_
  refine ex_getr (q := 66) dX12_append_63 fl_X12_23 (by rw [eh13]; exact (by rw [eh11]; exact (by rw [eh9]; exact (by rw [eh6]; exact s1)))) (by rw [eh13]; exact (by rw [eh11]; exact (by rw [eh9]; exact ea8))) ?_
  refine ex_iload (q := 68) (x := x4) dX12_append_66 rfl ?_
  refine ex_iconst (q := 69) (v := 3) dX12_append_68 (by decide) ?_
  refine ex_iadd (q := 70) dX12_append_69 ?_
  refine ex_iload (q := 72) (x := v_5) dX12_append_70 rfl ?_
  have s16 := w.1
  replace w := w.2
  refine ex_iast (q := 73) dX12_append_72 s16 ?_
  refine ex_nmh (fun h15 eh15 => ?_)
  replace w := w h15 eh15
  refine ex_aload_n (q := 74) (x := a_0) dX12_append_73 rfl ?_
  refine ex_getr (q := 77) dX12_append_74 fl_X12_13 (by rw [eh15]; exact (by rw [eh13]; exact (by rw [eh11]; exact (by rw [eh9]; exact (by rw [eh6]; exact s1))))) (by rw [eh15]; exact (by rw [eh13]; exact (by rw [eh11]; exact (by rw [eh9]; exact (by rw [eh6]; exact ea2))))) ?_
  refine ex_iload_n (q := 78) (x := v_1) dX12_append_77 rfl ?_
  refine ex_dup2 (q := 79) dX12_append_78 rfl rfl ?_
  refine ex_iald (q := 80) dX12_append_79 (by rw [eh15]; exact (by rw [eh13]; exact (by rw [eh11]; exact (by rw [eh9]; exact (by rw [eh6]; exact s3))))) ?_
  refine ex_iconst (q := 81) (v := 1) dX12_append_80 (by decide) ?_
  refine ex_iadd (q := 82) dX12_append_81 ?_
  have s18 := w.1
  replace w := w.2
  refine ex_iast (q := 83) dX12_append_82 s18 ?_
  refine ex_nmh (fun h17 eh17 => ?_)
  replace w := w h17 eh17
  exact ex_return dX12_append_83 w

theorem X12_append_e {d bc bs : Nat} {h : AH} {Q : Option Value → AH → Prop} {a_0 : Nat} {v_1 : Int32} {v_2 : Int32} {v_3 : Int32} {v_4 : Int32} {v_5 : Int32} (w : ex_G mX12_append d 0 [.ref a_0, .int v_1, .int v_2, .int v_3, .int v_4, .int v_5, .retAddr 0] [] h bc bs Q) : ex_S yX12_append mX12_append d [.ref a_0, .int v_1, .int v_2, .int v_3, .int v_4, .int v_5] h bc bs Q :=
  ex_enter (plainFor_of_name (by decide +kernel)) ⟨rfl, rfl⟩ rfl rfl (Nat.le_of_ble_eq_true rfl) (ex_pad 1 w)

set_option maxRecDepth 100000 in
theorem X12_crossing_0 {d bc bs : Nat} {h : AH} {Q : Option Value → AH → Prop} {a_0 : Nat} {v_1 : Int32} {v_2 : Int32} {v_3 : Int32} {v_4 : Int32} {v_5 : Int32} (w : ah_o h a_0 12 ∧ X12_isPicture_C a_0 v_1 h ∧ (((X12_isPicture_V a_0 v_1 h) = 0 → X12_no_C a_0 (-2) h ∧ ∀ h5, h5 = X12_no_H a_0 (-2) h → Q (some (.int (X12_no_V a_0 (-2) h))) h5) ∧ (¬ (X12_isPicture_V a_0 v_1 h) = 0 → X12_isArc_C v_2 h ∧ (((X12_isArc_V v_2 h) = 0 → X12_no_C a_0 (-2) h ∧ ∀ h9, h9 = X12_no_H a_0 (-2) h → Q (some (.int (X12_no_V a_0 (-2) h))) h9) ∧ (¬ (X12_isArc_V v_2 h) = 0 → X12_isArc_C v_3 h ∧ (((X12_isArc_V v_3 h) = 0 → X12_no_C a_0 (-2) h ∧ ∀ h13, h13 = X12_no_H a_0 (-2) h → Q (some (.int (X12_no_V a_0 (-2) h))) h13) ∧ (¬ (X12_isArc_V v_3 h) = 0 → X12_isArc_C v_4 h ∧ (((X12_isArc_V v_4 h) = 0 → X12_no_C a_0 (-2) h ∧ ∀ h17, h17 = X12_no_H a_0 (-2) h → Q (some (.int (X12_no_V a_0 (-2) h))) h17) ∧ (¬ (X12_isArc_V v_4 h) = 0 → X12_isArc_C v_5 h ∧ ((¬ (X12_isArc_V v_5 h) = 0 → ∃ a20, ah_r h a_0 2 = some a20 ∧ ld0 h a20 v_1 ∧ ((¬ (ah_i h a20 (Int32.toNatClampNeg v_1)) = 40 → ex_S yX12_append mX12_append (d + 1) [.ref a_0, .int v_1, .int v_2, .int v_3, .int v_4, .int v_5] h 0 0 (fun r h23 => r = none ∧ ah_o h23 a_0 12 ∧ ∃ a25, ah_r h23 a_0 7 = some a25 ∧ st0 h23 a25 v_1 ∧ ∀ h26, h26 = ah_si h23 a25 (Int32.toNatClampNeg v_1) 0 → ∃ a28, ah_r h26 a_0 2 = some a28 ∧ ld0 h26 a28 v_1 ∧ X12_well_C a_0 ((ah_i h26 a28 (Int32.toNatClampNeg v_1)) - 1) h26 ∧ ∀ h31, h31 = X12_well_H a_0 ((ah_i h26 a28 (Int32.toNatClampNeg v_1)) - 1) h26 → Q (some (.int (X12_well_V a_0 ((ah_i h26 a28 (Int32.toNatClampNeg v_1)) - 1) h26))) h31)) ∧ ((ah_i h a20 (Int32.toNatClampNeg v_1)) = 40 → X12_no_C a_0 (-3) h ∧ ∀ h33, h33 = X12_no_H a_0 (-3) h → Q (some (.int (X12_no_V a_0 (-3) h))) h33))) ∧ ((X12_isArc_V v_5 h) = 0 → X12_no_C a_0 (-2) h ∧ ∀ h35, h35 = X12_no_H a_0 (-2) h → Q (some (.int (X12_no_V a_0 (-2) h))) h35))))))))))) : ex_G mX12_crossing (d + 2) 0 [.ref a_0, .int v_1, .int v_2, .int v_3, .int v_4, .int v_5] [] h bc bs Q := by
  refine ex_aload_n (q := 1) (x := a_0) dX12_crossing_0 rfl ?_
  refine ex_iload_n (q := 2) (x := v_1) dX12_crossing_1 rfl ?_
  have s1 := w.1
  replace w := w.2
  have s2 := w.1
  replace w := w.2
  refine ex_callV (q := 5) (M := mX12_crossing) (hdd := Nat.le_refl _) (mc := 0) (ms := 0) (d' := (d + 1)) (c := 12) (st := []) (bc := bc) (bs := bs) dX12_crossing_2 rfl cl_X12_187 wd_1593 wd_48 s1 (X12_isPicture_s (Q := fun r z => r = some (.int (X12_isPicture_V a_0 v_1 h)) ∧ z = h) s2 ⟨rfl, rfl⟩) ?_
  intro r z hrz
  rw [hrz.1, hrz.2]
  show ex_G mX12_crossing (d + 2) 5 [.ref a_0, .int v_1, .int v_2, .int v_3, .int v_4, .int v_5] [.int (X12_isPicture_V a_0 v_1 h)] (h) bc bs Q
  refine ex_if_eq (tgt := 38) (q := 8) dX12_crossing_5 (fun c3 => ?_) (fun c3 => ?_)
  · replace w := w.1 c3
    refine ex_aload_n (q := 39) (x := a_0) dX12_crossing_38 rfl ?_
    refine ex_bipush (q := 41) (v := (-2)) dX12_crossing_39 (by decide) ?_
    have s4 := w.1
    replace w := w.2
    refine ex_callV (q := 44) (M := mX12_crossing) (hdd := Nat.le_refl _) (mc := 0) (ms := 0) (d' := (d + 1)) (c := 12) (st := []) (bc := bc) (bs := bs) dX12_crossing_41 rfl cl_X12_165 wd_1581 wd_46 s1 (X12_no_s (Q := fun r z => r = some (.int (X12_no_V a_0 (-2) h)) ∧ z = X12_no_H a_0 (-2) h) s4 ⟨rfl, rfl⟩) ?_
    intro r z hrz
    rw [hrz.1, hrz.2]
    show ex_G mX12_crossing (d + 2) 44 [.ref a_0, .int v_1, .int v_2, .int v_3, .int v_4, .int v_5] [.int (X12_no_V a_0 (-2) h)] (X12_no_H a_0 (-2) h) bc bs Q
    refine ex_nmh (fun h5 eh5 => ?_)
    replace w := w h5 eh5
    exact ex_ireturn dX12_crossing_44 rfl (Or.inl rfl) w
  · replace w := w.2 c3
    refine ex_iload_n (q := 9) (x := v_2) dX12_crossing_8 rfl ?_
    have s6 := w.1
    replace w := w.2
    refine ex_callS (q := 12) (M := mX12_crossing) (hdd := Nat.le_refl _) (mc := 0) (ms := 0) (d' := (d + 1)) (st := []) (bc := bc) (bs := bs) dX12_crossing_9 rfl cl_X12_191 wd_1599 (X12_isArc_s (Q := fun r z => r = some (.int (X12_isArc_V v_2 h)) ∧ z = h) s6 ⟨rfl, rfl⟩) ?_
    intro r z hrz
    rw [hrz.1, hrz.2]
    show ex_G mX12_crossing (d + 2) 12 [.ref a_0, .int v_1, .int v_2, .int v_3, .int v_4, .int v_5] [.int (X12_isArc_V v_2 h)] (h) bc bs Q
    refine ex_if_eq (tgt := 38) (q := 15) dX12_crossing_12 (fun c7 => ?_) (fun c7 => ?_)
    · replace w := w.1 c7
      refine ex_aload_n (q := 39) (x := a_0) dX12_crossing_38 rfl ?_
      refine ex_bipush (q := 41) (v := (-2)) dX12_crossing_39 (by decide) ?_
      have s8 := w.1
      replace w := w.2
      refine ex_callV (q := 44) (M := mX12_crossing) (hdd := Nat.le_refl _) (mc := 0) (ms := 0) (d' := (d + 1)) (c := 12) (st := []) (bc := bc) (bs := bs) dX12_crossing_41 rfl cl_X12_165 wd_1581 wd_46 s1 (X12_no_s (Q := fun r z => r = some (.int (X12_no_V a_0 (-2) h)) ∧ z = X12_no_H a_0 (-2) h) s8 ⟨rfl, rfl⟩) ?_
      intro r z hrz
      rw [hrz.1, hrz.2]
      show ex_G mX12_crossing (d + 2) 44 [.ref a_0, .int v_1, .int v_2, .int v_3, .int v_4, .int v_5] [.int (X12_no_V a_0 (-2) h)] (X12_no_H a_0 (-2) h) bc bs Q
      refine ex_nmh (fun h9 eh9 => ?_)
      replace w := w h9 eh9
      exact ex_ireturn dX12_crossing_44 rfl (Or.inl rfl) w
    · replace w := w.2 c7
      refine ex_iload_n (q := 16) (x := v_3) dX12_crossing_15 rfl ?_
      have s10 := w.1
      replace w := w.2
      refine ex_callS (q := 19) (M := mX12_crossing) (hdd := Nat.le_refl _) (mc := 0) (ms := 0) (d' := (d + 1)) (st := []) (bc := bc) (bs := bs) dX12_crossing_16 rfl cl_X12_191 wd_1599 (X12_isArc_s (Q := fun r z => r = some (.int (X12_isArc_V v_3 h)) ∧ z = h) s10 ⟨rfl, rfl⟩) ?_
      intro r z hrz
      rw [hrz.1, hrz.2]
      show ex_G mX12_crossing (d + 2) 19 [.ref a_0, .int v_1, .int v_2, .int v_3, .int v_4, .int v_5] [.int (X12_isArc_V v_3 h)] (h) bc bs Q
      refine ex_if_eq (tgt := 38) (q := 22) dX12_crossing_19 (fun c11 => ?_) (fun c11 => ?_)
      · replace w := w.1 c11
        refine ex_aload_n (q := 39) (x := a_0) dX12_crossing_38 rfl ?_
        refine ex_bipush (q := 41) (v := (-2)) dX12_crossing_39 (by decide) ?_
        have s12 := w.1
        replace w := w.2
        refine ex_callV (q := 44) (M := mX12_crossing) (hdd := Nat.le_refl _) (mc := 0) (ms := 0) (d' := (d + 1)) (c := 12) (st := []) (bc := bc) (bs := bs) dX12_crossing_41 rfl cl_X12_165 wd_1581 wd_46 s1 (X12_no_s (Q := fun r z => r = some (.int (X12_no_V a_0 (-2) h)) ∧ z = X12_no_H a_0 (-2) h) s12 ⟨rfl, rfl⟩) ?_
        intro r z hrz
        rw [hrz.1, hrz.2]
        show ex_G mX12_crossing (d + 2) 44 [.ref a_0, .int v_1, .int v_2, .int v_3, .int v_4, .int v_5] [.int (X12_no_V a_0 (-2) h)] (X12_no_H a_0 (-2) h) bc bs Q
        refine ex_nmh (fun h13 eh13 => ?_)
        replace w := w h13 eh13
        exact ex_ireturn dX12_crossing_44 rfl (Or.inl rfl) w
      · replace w := w.2 c11
        refine ex_iload (q := 24) (x := v_4) dX12_crossing_22 rfl ?_
        have s14 := w.1
        replace w := w.2
        refine ex_callS (q := 27) (M := mX12_crossing) (hdd := Nat.le_refl _) (mc := 0) (ms := 0) (d' := (d + 1)) (st := []) (bc := bc) (bs := bs) dX12_crossing_24 rfl cl_X12_191 wd_1599 (X12_isArc_s (Q := fun r z => r = some (.int (X12_isArc_V v_4 h)) ∧ z = h) s14 ⟨rfl, rfl⟩) ?_
        intro r z hrz
        rw [hrz.1, hrz.2]
        show ex_G mX12_crossing (d + 2) 27 [.ref a_0, .int v_1, .int v_2, .int v_3, .int v_4, .int v_5] [.int (X12_isArc_V v_4 h)] (h) bc bs Q
        refine ex_if_eq (tgt := 38) (q := 30) dX12_crossing_27 (fun c15 => ?_) (fun c15 => ?_)
        · replace w := w.1 c15
          refine ex_aload_n (q := 39) (x := a_0) dX12_crossing_38 rfl ?_
          refine ex_bipush (q := 41) (v := (-2)) dX12_crossing_39 (by decide) ?_
          have s16 := w.1
          replace w := w.2
          refine ex_callV (q := 44) (M := mX12_crossing) (hdd := Nat.le_refl _) (mc := 0) (ms := 0) (d' := (d + 1)) (c := 12) (st := []) (bc := bc) (bs := bs) dX12_crossing_41 rfl cl_X12_165 wd_1581 wd_46 s1 (X12_no_s (Q := fun r z => r = some (.int (X12_no_V a_0 (-2) h)) ∧ z = X12_no_H a_0 (-2) h) s16 ⟨rfl, rfl⟩) ?_
          intro r z hrz
          rw [hrz.1, hrz.2]
          show ex_G mX12_crossing (d + 2) 44 [.ref a_0, .int v_1, .int v_2, .int v_3, .int v_4, .int v_5] [.int (X12_no_V a_0 (-2) h)] (X12_no_H a_0 (-2) h) bc bs Q
          refine ex_nmh (fun h17 eh17 => ?_)
          replace w := w h17 eh17
          exact ex_ireturn dX12_crossing_44 rfl (Or.inl rfl) w
        · replace w := w.2 c15
          refine ex_iload (q := 32) (x := v_5) dX12_crossing_30 rfl ?_
          have s18 := w.1
          replace w := w.2
          refine ex_callS (q := 35) (M := mX12_crossing) (hdd := Nat.le_refl _) (mc := 0) (ms := 0) (d' := (d + 1)) (st := []) (bc := bc) (bs := bs) dX12_crossing_32 rfl cl_X12_191 wd_1599 (X12_isArc_s (Q := fun r z => r = some (.int (X12_isArc_V v_5 h)) ∧ z = h) s18 ⟨rfl, rfl⟩) ?_
          intro r z hrz
          rw [hrz.1, hrz.2]
          show ex_G mX12_crossing (d + 2) 35 [.ref a_0, .int v_1, .int v_2, .int v_3, .int v_4, .int v_5] [.int (X12_isArc_V v_5 h)] (h) bc bs Q
          refine ex_if_ne (tgt := 45) (q := 38) dX12_crossing_35 (fun c19 => ?_) (fun c19 => ?_)
          · replace w := w.1 c19
            refine ex_aload_n (q := 46) (x := a_0) dX12_crossing_45 rfl ?_
            obtain ⟨a20, ea20, w⟩ := w
            refine ex_getr (q := 49) dX12_crossing_46 fl_X12_13 s1 ea20 ?_
            refine ex_iload_n (q := 50) (x := v_1) dX12_crossing_49 rfl ?_
            have s21 := w.1
            replace w := w.2
            refine ex_iald (q := 51) dX12_crossing_50 s21 ?_
            refine ex_bipush (q := 53) (v := 40) dX12_crossing_51 (by decide) ?_
            refine ex_icmp_ne (tgt := 63) (q := 56) dX12_crossing_53 (fun c22 => ?_) (fun c22 => ?_)
            · replace w := w.1 c22
              refine ex_aload_n (q := 64) (x := a_0) dX12_crossing_63 rfl ?_
              refine ex_iload_n (q := 65) (x := v_1) dX12_crossing_64 rfl ?_
              refine ex_iload_n (q := 66) (x := v_2) dX12_crossing_65 rfl ?_
              refine ex_iload_n (q := 67) (x := v_3) dX12_crossing_66 rfl ?_
              refine ex_iload (q := 69) (x := v_4) dX12_crossing_67 rfl ?_
              refine ex_iload (q := 71) (x := v_5) dX12_crossing_69 rfl ?_
              refine ex_callV (q := 74) (M := mX12_crossing) (hdd := Nat.le_refl _) (c := 12) (st := []) (bc := bc) (bs := bs) dX12_crossing_71 rfl cl_X12_194 wd_1605 wd_49 s1 w ?_
              rintro r h23 ⟨rfl, w⟩
              show ex_G mX12_crossing (d + 2) 74 [.ref a_0, .int v_1, .int v_2, .int v_3, .int v_4, .int v_5] [] h23 bc bs Q
              refine ex_aload_n (q := 75) (x := a_0) dX12_crossing_74 rfl ?_
              have s24 := w.1
              replace w := w.2
              obtain ⟨a25, ea25, w⟩ := w
              refine ex_getr (q := 78) dX12_crossing_75 fl_X12_26 s24 ea25 ?_
              refine ex_iload_n (q := 79) (x := v_1) dX12_crossing_78 rfl ?_
              refine ex_iconst (q := 80) (v := 0) dX12_crossing_79 (by decide) ?_
              have s27 := w.1
              replace w := w.2
              refine ex_iast (q := 81) dX12_crossing_80 s27 ?_
              refine ex_nmh (fun h26 eh26 => ?_)
              replace w := w h26 eh26
              refine ex_aload_n (q := 82) (x := a_0) dX12_crossing_81 rfl ?_
              refine ex_aload_n (q := 83) (x := a_0) dX12_crossing_82 rfl ?_
              obtain ⟨a28, ea28, w⟩ := w
              refine ex_getr (q := 86) dX12_crossing_83 fl_X12_13 (by rw [eh26]; exact s24) ea28 ?_
              refine ex_iload_n (q := 87) (x := v_1) dX12_crossing_86 rfl ?_
              have s29 := w.1
              replace w := w.2
              refine ex_iald (q := 88) dX12_crossing_87 s29 ?_
              refine ex_iconst (q := 89) (v := 1) dX12_crossing_88 (by decide) ?_
              refine ex_isub (q := 90) dX12_crossing_89 ?_
              have s30 := w.1
              replace w := w.2
              refine ex_callV (q := 93) (M := mX12_crossing) (hdd := Nat.le_refl _) (mc := 0) (ms := 0) (d' := (d + 1)) (c := 12) (st := []) (bc := bc) (bs := bs) dX12_crossing_90 rfl cl_X12_180 wd_1585 wd_47 (by rw [eh26]; exact s24) (X12_well_s (Q := fun r z => r = some (.int (X12_well_V a_0 ((ah_i h26 a28 (Int32.toNatClampNeg v_1)) - 1) h26)) ∧ z = X12_well_H a_0 ((ah_i h26 a28 (Int32.toNatClampNeg v_1)) - 1) h26) s30 ⟨rfl, rfl⟩) ?_
              intro r z hrz
              rw [hrz.1, hrz.2]
              show ex_G mX12_crossing (d + 2) 93 [.ref a_0, .int v_1, .int v_2, .int v_3, .int v_4, .int v_5] [.int (X12_well_V a_0 ((ah_i h26 a28 (Int32.toNatClampNeg v_1)) - 1) h26)] (X12_well_H a_0 ((ah_i h26 a28 (Int32.toNatClampNeg v_1)) - 1) h26) bc bs Q
              refine ex_nmh (fun h31 eh31 => ?_)
              replace w := w h31 eh31
              exact ex_ireturn dX12_crossing_93 rfl (Or.inl rfl) w
            · replace w := w.2 c22
              refine ex_aload_n (q := 57) (x := a_0) dX12_crossing_56 rfl ?_
              refine ex_bipush (q := 59) (v := (-3)) dX12_crossing_57 (by decide) ?_
              have s32 := w.1
              replace w := w.2
              refine ex_callV (q := 62) (M := mX12_crossing) (hdd := Nat.le_refl _) (mc := 0) (ms := 0) (d' := (d + 1)) (c := 12) (st := []) (bc := bc) (bs := bs) dX12_crossing_59 rfl cl_X12_165 wd_1581 wd_46 s1 (X12_no_s (Q := fun r z => r = some (.int (X12_no_V a_0 (-3) h)) ∧ z = X12_no_H a_0 (-3) h) s32 ⟨rfl, rfl⟩) ?_
              intro r z hrz
              rw [hrz.1, hrz.2]
              show ex_G mX12_crossing (d + 2) 62 [.ref a_0, .int v_1, .int v_2, .int v_3, .int v_4, .int v_5] [.int (X12_no_V a_0 (-3) h)] (X12_no_H a_0 (-3) h) bc bs Q
              refine ex_nmh (fun h33 eh33 => ?_)
              replace w := w h33 eh33
              exact ex_ireturn dX12_crossing_62 rfl (Or.inl rfl) w
          · replace w := w.2 c19
            refine ex_aload_n (q := 39) (x := a_0) dX12_crossing_38 rfl ?_
            refine ex_bipush (q := 41) (v := (-2)) dX12_crossing_39 (by decide) ?_
            have s34 := w.1
            replace w := w.2
            refine ex_callV (q := 44) (M := mX12_crossing) (hdd := Nat.le_refl _) (mc := 0) (ms := 0) (d' := (d + 1)) (c := 12) (st := []) (bc := bc) (bs := bs) dX12_crossing_41 rfl cl_X12_165 wd_1581 wd_46 s1 (X12_no_s (Q := fun r z => r = some (.int (X12_no_V a_0 (-2) h)) ∧ z = X12_no_H a_0 (-2) h) s34 ⟨rfl, rfl⟩) ?_
            intro r z hrz
            rw [hrz.1, hrz.2]
            show ex_G mX12_crossing (d + 2) 44 [.ref a_0, .int v_1, .int v_2, .int v_3, .int v_4, .int v_5] [.int (X12_no_V a_0 (-2) h)] (X12_no_H a_0 (-2) h) bc bs Q
            refine ex_nmh (fun h35 eh35 => ?_)
            replace w := w h35 eh35
            exact ex_ireturn dX12_crossing_44 rfl (Or.inl rfl) w

theorem X12_crossing_e {d bc bs : Nat} {h : AH} {Q : Option Value → AH → Prop} {a_0 : Nat} {v_1 : Int32} {v_2 : Int32} {v_3 : Int32} {v_4 : Int32} {v_5 : Int32} (w : ex_G mX12_crossing (d + 2) 0 [.ref a_0, .int v_1, .int v_2, .int v_3, .int v_4, .int v_5] [] h bc bs Q) : ex_S yX12_crossing mX12_crossing (d + 2) [.ref a_0, .int v_1, .int v_2, .int v_3, .int v_4, .int v_5] h bc bs Q :=
  ex_enter (plainFor_of_name (by decide +kernel)) ⟨rfl, rfl⟩ rfl rfl (Nat.le_of_ble_eq_true rfl) (ex_pad 0 w)

set_option maxRecDepth 100000 in
theorem X12_row_0 {d bc bs : Nat} {h : AH} {Q : Option Value → AH → Prop} {a_0 : Nat} {v_1 : Int32} {v_2 : Int32} {v_3 : Int32} (w : ah_o h a_0 12 ∧ X12_isPicture_C a_0 v_1 h ∧ (((X12_isPicture_V a_0 v_1 h) = 0 → X12_no_C a_0 (-2) h ∧ ∀ h5, h5 = X12_no_H a_0 (-2) h → Q (some (.int (X12_no_V a_0 (-2) h))) h5) ∧ (¬ (X12_isPicture_V a_0 v_1 h) = 0 → ((¬ (X12_in_V (Int32.toInt64 v_3) (-1) 4 h) = 0 → ∃ a7, ah_r h a_0 2 = some a7 ∧ ld0 h a7 v_1 ∧ ((¬ (X12_in_V (Int32.toInt64 v_2) 0 (Int32.toInt64 ((ah_i h a7 (Int32.toNatClampNeg v_1)) - 1)) h) = 0 → ∃ a10, ah_r h a_0 4 = some a10 ∧ ld0 h a10 ((40 * v_1) + v_2) ∧ ∀ x12, x12 = ah_i h a10 (Int32.toNatClampNeg ((40 * v_1) + v_2)) → ex_G mX12_row (d + 2) 69 [.ref a_0, .int v_1, .int v_2, .int v_3, .int x12, .int 0, .retAddr 0] [] h bc bs Q) ∧ ((X12_in_V (Int32.toInt64 v_2) 0 (Int32.toInt64 ((ah_i h a7 (Int32.toNatClampNeg v_1)) - 1)) h) = 0 → X12_meets_C a_0 2 h ∧ ∀ h14, h14 = X12_meets_H a_0 2 h → Q (some (.int (X12_meets_V a_0 2 h))) h14))) ∧ ((X12_in_V (Int32.toInt64 v_3) (-1) 4 h) = 0 → X12_no_C a_0 (-2) h ∧ ∀ h16, h16 = X12_no_H a_0 (-2) h → Q (some (.int (X12_no_V a_0 (-2) h))) h16))))) : ex_G mX12_row (d + 2) 0 [.ref a_0, .int v_1, .int v_2, .int v_3, .retAddr 0, .retAddr 0, .retAddr 0] [] h bc bs Q := by
  refine ex_aload_n (q := 1) (x := a_0) dX12_row_0 rfl ?_
  refine ex_iload_n (q := 2) (x := v_1) dX12_row_1 rfl ?_
  have s1 := w.1
  replace w := w.2
  have s2 := w.1
  replace w := w.2
  refine ex_callV (q := 5) (M := mX12_row) (hdd := Nat.le_refl _) (mc := 0) (ms := 0) (d' := (d + 1)) (c := 12) (st := []) (bc := bc) (bs := bs) dX12_row_2 rfl cl_X12_187 wd_1593 wd_48 s1 (X12_isPicture_s (Q := fun r z => r = some (.int (X12_isPicture_V a_0 v_1 h)) ∧ z = h) s2 ⟨rfl, rfl⟩) ?_
  intro r z hrz
  rw [hrz.1, hrz.2]
  show ex_G mX12_row (d + 2) 5 [.ref a_0, .int v_1, .int v_2, .int v_3, .retAddr 0, .retAddr 0, .retAddr 0] [.int (X12_isPicture_V a_0 v_1 h)] (h) bc bs Q
  refine ex_if_eq (tgt := 22) (q := 8) dX12_row_5 (fun c3 => ?_) (fun c3 => ?_)
  · replace w := w.1 c3
    refine ex_aload_n (q := 23) (x := a_0) dX12_row_22 rfl ?_
    refine ex_bipush (q := 25) (v := (-2)) dX12_row_23 (by decide) ?_
    have s4 := w.1
    replace w := w.2
    refine ex_callV (q := 28) (M := mX12_row) (hdd := Nat.le_refl _) (mc := 0) (ms := 0) (d' := (d + 1)) (c := 12) (st := []) (bc := bc) (bs := bs) dX12_row_25 rfl cl_X12_165 wd_1581 wd_46 s1 (X12_no_s (Q := fun r z => r = some (.int (X12_no_V a_0 (-2) h)) ∧ z = X12_no_H a_0 (-2) h) s4 ⟨rfl, rfl⟩) ?_
    intro r z hrz
    rw [hrz.1, hrz.2]
    show ex_G mX12_row (d + 2) 28 [.ref a_0, .int v_1, .int v_2, .int v_3, .retAddr 0, .retAddr 0, .retAddr 0] [.int (X12_no_V a_0 (-2) h)] (X12_no_H a_0 (-2) h) bc bs Q
    refine ex_nmh (fun h5 eh5 => ?_)
    replace w := w h5 eh5
    exact ex_ireturn dX12_row_28 rfl (Or.inl rfl) w
  · replace w := w.2 c3
    refine ex_iload_n (q := 9) (x := v_3) dX12_row_8 rfl ?_
    refine ex_i2l (q := 10) dX12_row_9 ?_
    refine ex_ldc2_w (q := 13) (v := (-1)) dX12_row_10 wd_1601 ?_
    refine ex_ldc2_w (q := 16) (v := 4) dX12_row_13 wd_1611 ?_
    refine ex_callS (q := 19) (M := mX12_row) (hdd := Nat.le_refl _) (mc := 0) (ms := 0) (d' := (d + 1)) (st := []) (bc := bc) (bs := bs) dX12_row_16 rfl cl_X12_172 wd_1596 (X12_in_s (Q := fun r z => r = some (.int (X12_in_V (Int32.toInt64 v_3) (-1) 4 h)) ∧ z = h) ⟨rfl, rfl⟩) ?_
    intro r z hrz
    rw [hrz.1, hrz.2]
    show ex_G mX12_row (d + 2) 19 [.ref a_0, .int v_1, .int v_2, .int v_3, .retAddr 0, .retAddr 0, .retAddr 0] [.int (X12_in_V (Int32.toInt64 v_3) (-1) 4 h)] (h) bc bs Q
    refine ex_if_ne (tgt := 29) (q := 22) dX12_row_19 (fun c6 => ?_) (fun c6 => ?_)
    · replace w := w.1 c6
      refine ex_iload_n (q := 30) (x := v_2) dX12_row_29 rfl ?_
      refine ex_i2l (q := 31) dX12_row_30 ?_
      refine ex_lconst (q := 32) (v := 0) dX12_row_31 (by decide) ?_
      refine ex_aload_n (q := 33) (x := a_0) dX12_row_32 rfl ?_
      obtain ⟨a7, ea7, w⟩ := w
      refine ex_getr (q := 36) dX12_row_33 fl_X12_13 s1 ea7 ?_
      refine ex_iload_n (q := 37) (x := v_1) dX12_row_36 rfl ?_
      have s8 := w.1
      replace w := w.2
      refine ex_iald (q := 38) dX12_row_37 s8 ?_
      refine ex_iconst (q := 39) (v := 1) dX12_row_38 (by decide) ?_
      refine ex_isub (q := 40) dX12_row_39 ?_
      refine ex_i2l (q := 41) dX12_row_40 ?_
      refine ex_callS (q := 44) (M := mX12_row) (hdd := Nat.le_refl _) (mc := 0) (ms := 0) (d' := (d + 1)) (st := []) (bc := bc) (bs := bs) dX12_row_41 rfl cl_X12_172 wd_1596 (X12_in_s (Q := fun r z => r = some (.int (X12_in_V (Int32.toInt64 v_2) 0 (Int32.toInt64 ((ah_i h a7 (Int32.toNatClampNeg v_1)) - 1)) h)) ∧ z = h) ⟨rfl, rfl⟩) ?_
      intro r z hrz
      rw [hrz.1, hrz.2]
      show ex_G mX12_row (d + 2) 44 [.ref a_0, .int v_1, .int v_2, .int v_3, .retAddr 0, .retAddr 0, .retAddr 0] [.int (X12_in_V (Int32.toInt64 v_2) 0 (Int32.toInt64 ((ah_i h a7 (Int32.toNatClampNeg v_1)) - 1)) h)] (h) bc bs Q
      refine ex_if_ne (tgt := 53) (q := 47) dX12_row_44 (fun c9 => ?_) (fun c9 => ?_)
      · replace w := w.1 c9
        refine ex_aload_n (q := 54) (x := a_0) dX12_row_53 rfl ?_
        obtain ⟨a10, ea10, w⟩ := w
        refine ex_getr (q := 57) dX12_row_54 fl_X12_19 s1 ea10 ?_
        refine ex_bipush (q := 59) (v := 40) dX12_row_57 (by decide) ?_
        refine ex_iload_n (q := 60) (x := v_1) dX12_row_59 rfl ?_
        refine ex_imul (q := 61) dX12_row_60 ?_
        refine ex_iload_n (q := 62) (x := v_2) dX12_row_61 rfl ?_
        refine ex_iadd (q := 63) dX12_row_62 ?_
        have s11 := w.1
        replace w := w.2
        refine ex_iald (q := 64) dX12_row_63 s11 ?_
        refine ex_nmi (fun x12 ex12 => ?_)
        replace w := w x12 ex12
        refine ex_istore (q := 66) (ls' := [.ref a_0, .int v_1, .int v_2, .int v_3, .int x12, .retAddr 0, .retAddr 0]) dX12_row_64 rfl ?_
        refine ex_iconst (q := 67) (v := 0) dX12_row_66 (by decide) ?_
        refine ex_istore (q := 69) (ls' := [.ref a_0, .int v_1, .int v_2, .int v_3, .int x12, .int 0, .retAddr 0]) dX12_row_67 rfl ?_
        exact w
      · replace w := w.2 c9
        refine ex_aload_n (q := 48) (x := a_0) dX12_row_47 rfl ?_
        refine ex_iconst (q := 49) (v := 2) dX12_row_48 (by decide) ?_
        have s13 := w.1
        replace w := w.2
        refine ex_callV (q := 52) (M := mX12_row) (hdd := Nat.le_refl _) (mc := 0) (ms := 0) (d' := (d + 1)) (c := 12) (st := []) (bc := bc) (bs := bs) dX12_row_49 rfl cl_X12_200 wd_1614 wd_50 s1 (X12_meets_s (Q := fun r z => r = some (.int (X12_meets_V a_0 2 h)) ∧ z = X12_meets_H a_0 2 h) s13 ⟨rfl, rfl⟩) ?_
        intro r z hrz
        rw [hrz.1, hrz.2]
        show ex_G mX12_row (d + 2) 52 [.ref a_0, .int v_1, .int v_2, .int v_3, .retAddr 0, .retAddr 0, .retAddr 0] [.int (X12_meets_V a_0 2 h)] (X12_meets_H a_0 2 h) bc bs Q
        refine ex_nmh (fun h14 eh14 => ?_)
        replace w := w h14 eh14
        exact ex_ireturn dX12_row_52 rfl (Or.inl rfl) w
    · replace w := w.2 c6
      refine ex_aload_n (q := 23) (x := a_0) dX12_row_22 rfl ?_
      refine ex_bipush (q := 25) (v := (-2)) dX12_row_23 (by decide) ?_
      have s15 := w.1
      replace w := w.2
      refine ex_callV (q := 28) (M := mX12_row) (hdd := Nat.le_refl _) (mc := 0) (ms := 0) (d' := (d + 1)) (c := 12) (st := []) (bc := bc) (bs := bs) dX12_row_25 rfl cl_X12_165 wd_1581 wd_46 s1 (X12_no_s (Q := fun r z => r = some (.int (X12_no_V a_0 (-2) h)) ∧ z = X12_no_H a_0 (-2) h) s15 ⟨rfl, rfl⟩) ?_
      intro r z hrz
      rw [hrz.1, hrz.2]
      show ex_G mX12_row (d + 2) 28 [.ref a_0, .int v_1, .int v_2, .int v_3, .retAddr 0, .retAddr 0, .retAddr 0] [.int (X12_no_V a_0 (-2) h)] (X12_no_H a_0 (-2) h) bc bs Q
      refine ex_nmh (fun h16 eh16 => ?_)
      replace w := w h16 eh16
      exact ex_ireturn dX12_row_28 rfl (Or.inl rfl) w

set_option maxRecDepth 100000 in
theorem X12_row_69 {d bc bs : Nat} {h : AH} {Q : Option Value → AH → Prop} {a_0 : Nat} {v_1 : Int32} {v_2 : Int32} {v_3 : Int32} {v_4 : Int32} {v_5 : Int32} (w : ((4 ≤ v_5 → ah_o h a_0 12 ∧ ∃ a3, ah_r h a_0 4 = some a3 ∧ st0 h a3 ((40 * v_1) + v_2) ∧ ∀ h4, h4 = ah_si h a3 (Int32.toNatClampNeg ((40 * v_1) + v_2)) v_3 → ∃ a6, ah_r h4 a_0 7 = some a6 ∧ st0 h4 a6 v_1 ∧ ∀ h7, h7 = ah_si h4 a6 (Int32.toNatClampNeg v_1) 0 → X12_well_C a_0 1 h7 ∧ ∀ h10, h10 = X12_well_H a_0 1 h7 → Q (some (.int (X12_well_V a_0 1 h7))) h10) ∧ (¬ 4 ≤ v_5 → ∀ x11, x11 = ((160 * v_1) + (4 * v_2)) + v_5 → ah_o h a_0 12 ∧ ∃ a13, ah_r h a_0 5 = some a13 ∧ ((v_4 ≤ v_5 → st0 h a13 x11 ∧ ∀ h15, h15 = ah_si h a13 (Int32.toNatClampNeg x11) (-1) → ∀ x17, x17 = v_5 + 1 → ex_G mX12_row (d + 2) 69 [.ref a_0, .int v_1, .int v_2, .int v_3, .int v_4, .int x17, .retAddr 0] [] h15 bc bs Q) ∧ (¬ v_4 ≤ v_5 → ((v_3 ≤ v_5 → st0 h a13 x11 ∧ ∀ h19, h19 = ah_si h a13 (Int32.toNatClampNeg x11) (-1) → ∀ x21, x21 = v_5 + 1 → ex_G mX12_row (d + 2) 69 [.ref a_0, .int v_1, .int v_2, .int v_3, .int v_4, .int x21, .retAddr 0] [] h19 bc bs Q) ∧ (¬ v_3 ≤ v_5 → ld0 h a13 x11 ∧ st0 h a13 x11 ∧ ∀ h23, h23 = ah_si h a13 (Int32.toNatClampNeg x11) (ah_i h a13 (Int32.toNatClampNeg x11)) → ∀ x25, x25 = v_5 + 1 → ex_G mX12_row (d + 2) 69 [.ref a_0, .int v_1, .int v_2, .int v_3, .int v_4, .int x25, .retAddr 0] [] h23 bc bs Q))))))) : ex_G mX12_row (d + 2) 69 [.ref a_0, .int v_1, .int v_2, .int v_3, .int v_4, .int v_5, .retAddr 0] [] h bc bs Q := by
  refine ex_iload (q := 71) (x := v_5) dX12_row_69 rfl ?_
  refine ex_iconst (q := 72) (v := 4) dX12_row_71 (by decide) ?_
  refine ex_icmp_ge (tgt := 126) (q := 75) dX12_row_72 (fun c1 => ?_) (fun c1 => ?_)
  · replace w := w.1 c1
    refine ex_aload_n (q := 127) (x := a_0) dX12_row_126 rfl ?_
    have s2 := w.1
    replace w := w.2
    obtain ⟨a3, ea3, w⟩ := w
    refine ex_getr (q := 130) dX12_row_127 fl_X12_19 s2 ea3 ?_
    refine ex_bipush (q := 132) (v := 40) dX12_row_130 (by decide) ?_
    refine ex_iload_n (q := 133) (x := v_1) dX12_row_132 rfl ?_
    refine ex_imul (q := 134) dX12_row_133 ?_
    refine ex_iload_n (q := 135) (x := v_2) dX12_row_134 rfl ?_
    refine ex_iadd (q := 136) dX12_row_135 ?_
    refine ex_iload_n (q := 137) (x := v_3) dX12_row_136 rfl ?_
    have s5 := w.1
    replace w := w.2
    refine ex_iast (q := 138) dX12_row_137 s5 ?_
    refine ex_nmh (fun h4 eh4 => ?_)
    replace w := w h4 eh4
    refine ex_aload_n (q := 139) (x := a_0) dX12_row_138 rfl ?_
    obtain ⟨a6, ea6, w⟩ := w
    refine ex_getr (q := 142) dX12_row_139 fl_X12_26 (by rw [eh4]; exact s2) ea6 ?_
    refine ex_iload_n (q := 143) (x := v_1) dX12_row_142 rfl ?_
    refine ex_iconst (q := 144) (v := 0) dX12_row_143 (by decide) ?_
    have s8 := w.1
    replace w := w.2
    refine ex_iast (q := 145) dX12_row_144 s8 ?_
    refine ex_nmh (fun h7 eh7 => ?_)
    replace w := w h7 eh7
    refine ex_aload_n (q := 146) (x := a_0) dX12_row_145 rfl ?_
    refine ex_iconst (q := 147) (v := 1) dX12_row_146 (by decide) ?_
    have s9 := w.1
    replace w := w.2
    refine ex_callV (q := 150) (M := mX12_row) (hdd := Nat.le_refl _) (mc := 0) (ms := 0) (d' := (d + 1)) (c := 12) (st := []) (bc := bc) (bs := bs) dX12_row_147 rfl cl_X12_180 wd_1585 wd_47 (by rw [eh7]; exact (by rw [eh4]; exact s2)) (X12_well_s (Q := fun r z => r = some (.int (X12_well_V a_0 1 h7)) ∧ z = X12_well_H a_0 1 h7) s9 ⟨rfl, rfl⟩) ?_
    intro r z hrz
    rw [hrz.1, hrz.2]
    show ex_G mX12_row (d + 2) 150 [.ref a_0, .int v_1, .int v_2, .int v_3, .int v_4, .int v_5, .retAddr 0] [.int (X12_well_V a_0 1 h7)] (X12_well_H a_0 1 h7) bc bs Q
    refine ex_nmh (fun h10 eh10 => ?_)
    replace w := w h10 eh10
    exact ex_ireturn dX12_row_150 rfl (Or.inl rfl) w
  · replace w := w.2 c1
    refine ex_sipush (q := 78) (v := 160) dX12_row_75 (by decide) ?_
    refine ex_iload_n (q := 79) (x := v_1) dX12_row_78 rfl ?_
    refine ex_imul (q := 80) dX12_row_79 ?_
    refine ex_iconst (q := 81) (v := 4) dX12_row_80 (by decide) ?_
    refine ex_iload_n (q := 82) (x := v_2) dX12_row_81 rfl ?_
    refine ex_imul (q := 83) dX12_row_82 ?_
    refine ex_iadd (q := 84) dX12_row_83 ?_
    refine ex_iload (q := 86) (x := v_5) dX12_row_84 rfl ?_
    refine ex_iadd (q := 87) dX12_row_86 ?_
    refine ex_nmi (fun x11 ex11 => ?_)
    replace w := w x11 ex11
    refine ex_istore (q := 89) (ls' := [.ref a_0, .int v_1, .int v_2, .int v_3, .int v_4, .int v_5, .int x11]) dX12_row_87 rfl ?_
    refine ex_aload_n (q := 90) (x := a_0) dX12_row_89 rfl ?_
    have s12 := w.1
    replace w := w.2
    obtain ⟨a13, ea13, w⟩ := w
    refine ex_getr (q := 93) dX12_row_90 fl_X12_23 s12 ea13 ?_
    refine ex_iload (q := 95) (x := x11) dX12_row_93 rfl ?_
    refine ex_iload (q := 97) (x := v_5) dX12_row_95 rfl ?_
    refine ex_iload (q := 99) (x := v_4) dX12_row_97 rfl ?_
    refine ex_icmp_ge (tgt := 118) (q := 102) dX12_row_99 (fun c14 => ?_) (fun c14 => ?_)
    · replace w := w.1 c14
      refine ex_iconst (q := 119) (v := (-1)) dX12_row_118 (by decide) ?_
      have s16 := w.1
      replace w := w.2
      refine ex_iast (q := 120) dX12_row_119 s16 ?_
      refine ex_nmh (fun h15 eh15 => ?_)
      replace w := w h15 eh15
      obtain ⟨x17, ex17⟩ : ∃ y : Int32, y = v_5 + 1 := ⟨_, rfl⟩
      replace w := w x17 ex17
      refine ex_iinc (q := 123) (x := v_5) (v := x17) (ls' := [.ref a_0, .int v_1, .int v_2, .int v_3, .int v_4, .int x17, .int x11]) dX12_row_120 rfl (by rw [ex17]; rfl) rfl ?_
      refine ex_goto (tgt := 69) dX12_row_123 ?_
      refine ex_kill 6 (ls' := [.ref a_0, .int v_1, .int v_2, .int v_3, .int v_4, .int x17, .retAddr 0]) rfl ?_
      exact w
    · replace w := w.2 c14
      refine ex_iload (q := 104) (x := v_5) dX12_row_102 rfl ?_
      refine ex_iload_n (q := 105) (x := v_3) dX12_row_104 rfl ?_
      refine ex_icmp_ge (tgt := 118) (q := 108) dX12_row_105 (fun c18 => ?_) (fun c18 => ?_)
      · replace w := w.1 c18
        refine ex_iconst (q := 119) (v := (-1)) dX12_row_118 (by decide) ?_
        have s20 := w.1
        replace w := w.2
        refine ex_iast (q := 120) dX12_row_119 s20 ?_
        refine ex_nmh (fun h19 eh19 => ?_)
        replace w := w h19 eh19
        obtain ⟨x21, ex21⟩ : ∃ y : Int32, y = v_5 + 1 := ⟨_, rfl⟩
        replace w := w x21 ex21
        refine ex_iinc (q := 123) (x := v_5) (v := x21) (ls' := [.ref a_0, .int v_1, .int v_2, .int v_3, .int v_4, .int x21, .int x11]) dX12_row_120 rfl (by rw [ex21]; rfl) rfl ?_
        refine ex_goto (tgt := 69) dX12_row_123 ?_
        refine ex_kill 6 (ls' := [.ref a_0, .int v_1, .int v_2, .int v_3, .int v_4, .int x21, .retAddr 0]) rfl ?_
        exact w
      · replace w := w.2 c18
        refine ex_aload_n (q := 109) (x := a_0) dX12_row_108 rfl ?_
        refine ex_getr (q := 112) dX12_row_109 fl_X12_23 s12 ea13 ?_
        refine ex_iload (q := 114) (x := x11) dX12_row_112 rfl ?_
        have s22 := w.1
        replace w := w.2
        refine ex_iald (q := 115) dX12_row_114 s22 ?_
        refine ex_goto (tgt := 119) dX12_row_115 ?_
        have s24 := w.1
        replace w := w.2
        refine ex_iast (q := 120) dX12_row_119 s24 ?_
        refine ex_nmh (fun h23 eh23 => ?_)
        replace w := w h23 eh23
        obtain ⟨x25, ex25⟩ : ∃ y : Int32, y = v_5 + 1 := ⟨_, rfl⟩
        replace w := w x25 ex25
        refine ex_iinc (q := 123) (x := v_5) (v := x25) (ls' := [.ref a_0, .int v_1, .int v_2, .int v_3, .int v_4, .int x25, .int x11]) dX12_row_120 rfl (by rw [ex25]; rfl) rfl ?_
        refine ex_goto (tgt := 69) dX12_row_123 ?_
        refine ex_kill 6 (ls' := [.ref a_0, .int v_1, .int v_2, .int v_3, .int v_4, .int x25, .retAddr 0]) rfl ?_
        exact w

theorem X12_row_e {d bc bs : Nat} {h : AH} {Q : Option Value → AH → Prop} {a_0 : Nat} {v_1 : Int32} {v_2 : Int32} {v_3 : Int32} (w : ex_G mX12_row (d + 2) 0 [.ref a_0, .int v_1, .int v_2, .int v_3, .retAddr 0, .retAddr 0, .retAddr 0] [] h bc bs Q) : ex_S yX12_row mX12_row (d + 2) [.ref a_0, .int v_1, .int v_2, .int v_3] h bc bs Q :=
  ex_enter (plainFor_of_name (by decide +kernel)) ⟨rfl, rfl⟩ rfl rfl (Nat.le_of_ble_eq_true rfl) (ex_pad 3 w)

set_option maxRecDepth 100000 in
theorem X12_end_0 {d bc bs : Nat} {h : AH} {Q : Option Value → AH → Prop} {a_0 : Nat} {v_1 : Int32} {v_2 : Int32} {v_3 : Int32} (w : ah_o h a_0 12 ∧ X12_isPicture_C a_0 v_1 h ∧ ((¬ (X12_isPicture_V a_0 v_1 h) = 0 → X12_lacks_C a_0 v_1 v_2 v_3 h ∧ ∀ x5, x5 = X12_lacks_V a_0 v_1 v_2 v_3 h → ((x5 ≤ 0 → ∃ a7, ah_r h a_0 5 = some a7 ∧ ld0 h a7 (((160 * v_1) + (4 * v_2)) + v_3) ∧ X12_well_C a_0 (ah_i h a7 (Int32.toNatClampNeg (((160 * v_1) + (4 * v_2)) + v_3))) h ∧ ∀ h10, h10 = X12_well_H a_0 (ah_i h a7 (Int32.toNatClampNeg (((160 * v_1) + (4 * v_2)) + v_3))) h → Q (some (.int (X12_well_V a_0 (ah_i h a7 (Int32.toNatClampNeg (((160 * v_1) + (4 * v_2)) + v_3))) h))) h10) ∧ (¬ x5 ≤ 0 → X12_meets_C a_0 x5 h ∧ ∀ h12, h12 = X12_meets_H a_0 x5 h → Q (some (.int (X12_meets_V a_0 x5 h))) h12))) ∧ ((X12_isPicture_V a_0 v_1 h) = 0 → X12_no_C a_0 (-2) h ∧ ∀ h14, h14 = X12_no_H a_0 (-2) h → Q (some (.int (X12_no_V a_0 (-2) h))) h14))) : ex_G mX12_end (d + 2) 0 [.ref a_0, .int v_1, .int v_2, .int v_3, .retAddr 0] [] h bc bs Q := by
  refine ex_aload_n (q := 1) (x := a_0) dX12_end_0 rfl ?_
  refine ex_iload_n (q := 2) (x := v_1) dX12_end_1 rfl ?_
  have s1 := w.1
  replace w := w.2
  have s2 := w.1
  replace w := w.2
  refine ex_callV (q := 5) (M := mX12_end) (hdd := Nat.le_refl _) (mc := 0) (ms := 0) (d' := (d + 1)) (c := 12) (st := []) (bc := bc) (bs := bs) dX12_end_2 rfl cl_X12_187 wd_1593 wd_48 s1 (X12_isPicture_s (Q := fun r z => r = some (.int (X12_isPicture_V a_0 v_1 h)) ∧ z = h) s2 ⟨rfl, rfl⟩) ?_
  intro r z hrz
  rw [hrz.1, hrz.2]
  show ex_G mX12_end (d + 2) 5 [.ref a_0, .int v_1, .int v_2, .int v_3, .retAddr 0] [.int (X12_isPicture_V a_0 v_1 h)] (h) bc bs Q
  refine ex_if_ne (tgt := 15) (q := 8) dX12_end_5 (fun c3 => ?_) (fun c3 => ?_)
  · replace w := w.1 c3
    refine ex_aload_n (q := 16) (x := a_0) dX12_end_15 rfl ?_
    refine ex_iload_n (q := 17) (x := v_1) dX12_end_16 rfl ?_
    refine ex_iload_n (q := 18) (x := v_2) dX12_end_17 rfl ?_
    refine ex_iload_n (q := 19) (x := v_3) dX12_end_18 rfl ?_
    have s4 := w.1
    replace w := w.2
    refine ex_callV (q := 22) (M := mX12_end) (hdd := Nat.le_refl _) (mc := 0) (ms := 0) (d' := (d + 1)) (c := 12) (st := []) (bc := bc) (bs := bs) dX12_end_19 rfl cl_X12_203 wd_1622 wd_51 s1 (X12_lacks_s (Q := fun r z => r = some (.int (X12_lacks_V a_0 v_1 v_2 v_3 h)) ∧ z = h) s4 ⟨rfl, rfl⟩) ?_
    intro r z hrz
    rw [hrz.1, hrz.2]
    show ex_G mX12_end (d + 2) 22 [.ref a_0, .int v_1, .int v_2, .int v_3, .retAddr 0] [.int (X12_lacks_V a_0 v_1 v_2 v_3 h)] (h) bc bs Q
    refine ex_nmi (fun x5 ex5 => ?_)
    replace w := w x5 ex5
    refine ex_istore (q := 24) (ls' := [.ref a_0, .int v_1, .int v_2, .int v_3, .int x5]) dX12_end_22 rfl ?_
    refine ex_iload (q := 26) (x := x5) dX12_end_24 rfl ?_
    refine ex_if_le (tgt := 38) (q := 29) dX12_end_26 (fun c6 => ?_) (fun c6 => ?_)
    · replace w := w.1 c6
      refine ex_aload_n (q := 39) (x := a_0) dX12_end_38 rfl ?_
      refine ex_aload_n (q := 40) (x := a_0) dX12_end_39 rfl ?_
      obtain ⟨a7, ea7, w⟩ := w
      refine ex_getr (q := 43) dX12_end_40 fl_X12_23 s1 ea7 ?_
      refine ex_sipush (q := 46) (v := 160) dX12_end_43 (by decide) ?_
      refine ex_iload_n (q := 47) (x := v_1) dX12_end_46 rfl ?_
      refine ex_imul (q := 48) dX12_end_47 ?_
      refine ex_iconst (q := 49) (v := 4) dX12_end_48 (by decide) ?_
      refine ex_iload_n (q := 50) (x := v_2) dX12_end_49 rfl ?_
      refine ex_imul (q := 51) dX12_end_50 ?_
      refine ex_iadd (q := 52) dX12_end_51 ?_
      refine ex_iload_n (q := 53) (x := v_3) dX12_end_52 rfl ?_
      refine ex_iadd (q := 54) dX12_end_53 ?_
      have s8 := w.1
      replace w := w.2
      refine ex_iald (q := 55) dX12_end_54 s8 ?_
      have s9 := w.1
      replace w := w.2
      refine ex_callV (q := 58) (M := mX12_end) (hdd := Nat.le_refl _) (mc := 0) (ms := 0) (d' := (d + 1)) (c := 12) (st := []) (bc := bc) (bs := bs) dX12_end_55 rfl cl_X12_180 wd_1585 wd_47 s1 (X12_well_s (Q := fun r z => r = some (.int (X12_well_V a_0 (ah_i h a7 (Int32.toNatClampNeg (((160 * v_1) + (4 * v_2)) + v_3))) h)) ∧ z = X12_well_H a_0 (ah_i h a7 (Int32.toNatClampNeg (((160 * v_1) + (4 * v_2)) + v_3))) h) s9 ⟨rfl, rfl⟩) ?_
      intro r z hrz
      rw [hrz.1, hrz.2]
      show ex_G mX12_end (d + 2) 58 [.ref a_0, .int v_1, .int v_2, .int v_3, .int x5] [.int (X12_well_V a_0 (ah_i h a7 (Int32.toNatClampNeg (((160 * v_1) + (4 * v_2)) + v_3))) h)] (X12_well_H a_0 (ah_i h a7 (Int32.toNatClampNeg (((160 * v_1) + (4 * v_2)) + v_3))) h) bc bs Q
      refine ex_nmh (fun h10 eh10 => ?_)
      replace w := w h10 eh10
      exact ex_ireturn dX12_end_58 rfl (Or.inl rfl) w
    · replace w := w.2 c6
      refine ex_aload_n (q := 30) (x := a_0) dX12_end_29 rfl ?_
      refine ex_iload (q := 32) (x := x5) dX12_end_30 rfl ?_
      have s11 := w.1
      replace w := w.2
      refine ex_callV (q := 35) (M := mX12_end) (hdd := Nat.le_refl _) (mc := 0) (ms := 0) (d' := (d + 1)) (c := 12) (st := []) (bc := bc) (bs := bs) dX12_end_32 rfl cl_X12_200 wd_1614 wd_50 s1 (X12_meets_s (Q := fun r z => r = some (.int (X12_meets_V a_0 x5 h)) ∧ z = X12_meets_H a_0 x5 h) s11 ⟨rfl, rfl⟩) ?_
      intro r z hrz
      rw [hrz.1, hrz.2]
      show ex_G mX12_end (d + 2) 35 [.ref a_0, .int v_1, .int v_2, .int v_3, .int x5] [.int (X12_meets_V a_0 x5 h)] (X12_meets_H a_0 x5 h) bc bs Q
      refine ex_nmh (fun h12 eh12 => ?_)
      replace w := w h12 eh12
      refine ex_goto (tgt := 58) dX12_end_35 ?_
      exact ex_ireturn dX12_end_58 rfl (Or.inl rfl) w
  · replace w := w.2 c3
    refine ex_aload_n (q := 9) (x := a_0) dX12_end_8 rfl ?_
    refine ex_bipush (q := 11) (v := (-2)) dX12_end_9 (by decide) ?_
    have s13 := w.1
    replace w := w.2
    refine ex_callV (q := 14) (M := mX12_end) (hdd := Nat.le_refl _) (mc := 0) (ms := 0) (d' := (d + 1)) (c := 12) (st := []) (bc := bc) (bs := bs) dX12_end_11 rfl cl_X12_165 wd_1581 wd_46 s1 (X12_no_s (Q := fun r z => r = some (.int (X12_no_V a_0 (-2) h)) ∧ z = X12_no_H a_0 (-2) h) s13 ⟨rfl, rfl⟩) ?_
    intro r z hrz
    rw [hrz.1, hrz.2]
    show ex_G mX12_end (d + 2) 14 [.ref a_0, .int v_1, .int v_2, .int v_3, .retAddr 0] [.int (X12_no_V a_0 (-2) h)] (X12_no_H a_0 (-2) h) bc bs Q
    refine ex_nmh (fun h14 eh14 => ?_)
    replace w := w h14 eh14
    exact ex_ireturn dX12_end_14 rfl (Or.inl rfl) w

theorem X12_end_e {d bc bs : Nat} {h : AH} {Q : Option Value → AH → Prop} {a_0 : Nat} {v_1 : Int32} {v_2 : Int32} {v_3 : Int32} (w : ex_G mX12_end (d + 2) 0 [.ref a_0, .int v_1, .int v_2, .int v_3, .retAddr 0] [] h bc bs Q) : ex_S yX12_end mX12_end (d + 2) [.ref a_0, .int v_1, .int v_2, .int v_3] h bc bs Q :=
  ex_enter (plainFor_of_name (by decide +kernel)) ⟨rfl, rfl⟩ rfl rfl (Nat.le_of_ble_eq_true rfl) (ex_pad 1 w)

set_option maxRecDepth 100000 in
theorem X12_put_0 {d bc bs : Nat} {h : AH} {Q : Option Value → AH → Prop} {a_0 : Nat} {v_1 : Int32} {v_2 : Int32} {v_3 : Int32} {v_4 : Int32} (w : ah_o h a_0 12 ∧ X12_isPicture_C a_0 v_1 h ∧ (((X12_isPicture_V a_0 v_1 h) = 0 → X12_no_C a_0 (-2) h ∧ ∀ h5, h5 = X12_no_H a_0 (-2) h → Q (some (.int (X12_no_V a_0 (-2) h))) h5) ∧ (¬ (X12_isPicture_V a_0 v_1 h) = 0 → X12_isArc_C v_4 h ∧ ((¬ (X12_isArc_V v_4 h) = 0 → X12_lacks_C a_0 v_1 v_2 v_3 h ∧ ∀ x9, x9 = X12_lacks_V a_0 v_1 v_2 v_3 h → ((x9 ≤ 0 → ∃ a11, ah_r h a_0 5 = some a11 ∧ st0 h a11 (((160 * v_1) + (4 * v_2)) + v_3) ∧ ∀ h12, h12 = ah_si h a11 (Int32.toNatClampNeg (((160 * v_1) + (4 * v_2)) + v_3)) v_4 → ∃ a14, ah_r h12 a_0 7 = some a14 ∧ st0 h12 a14 v_1 ∧ ∀ h15, h15 = ah_si h12 a14 (Int32.toNatClampNeg v_1) 0 → X12_well_C a_0 1 h15 ∧ ∀ h18, h18 = X12_well_H a_0 1 h15 → Q (some (.int (X12_well_V a_0 1 h15))) h18) ∧ (¬ x9 ≤ 0 → X12_meets_C a_0 x9 h ∧ ∀ h20, h20 = X12_meets_H a_0 x9 h → Q (some (.int (X12_meets_V a_0 x9 h))) h20))) ∧ ((X12_isArc_V v_4 h) = 0 → X12_no_C a_0 (-2) h ∧ ∀ h22, h22 = X12_no_H a_0 (-2) h → Q (some (.int (X12_no_V a_0 (-2) h))) h22))))) : ex_G mX12_put (d + 2) 0 [.ref a_0, .int v_1, .int v_2, .int v_3, .int v_4, .retAddr 0] [] h bc bs Q := by
  refine ex_aload_n (q := 1) (x := a_0) dX12_put_0 rfl ?_
  refine ex_iload_n (q := 2) (x := v_1) dX12_put_1 rfl ?_
  have s1 := w.1
  replace w := w.2
  have s2 := w.1
  replace w := w.2
  refine ex_callV (q := 5) (M := mX12_put) (hdd := Nat.le_refl _) (mc := 0) (ms := 0) (d' := (d + 1)) (c := 12) (st := []) (bc := bc) (bs := bs) dX12_put_2 rfl cl_X12_187 wd_1593 wd_48 s1 (X12_isPicture_s (Q := fun r z => r = some (.int (X12_isPicture_V a_0 v_1 h)) ∧ z = h) s2 ⟨rfl, rfl⟩) ?_
  intro r z hrz
  rw [hrz.1, hrz.2]
  show ex_G mX12_put (d + 2) 5 [.ref a_0, .int v_1, .int v_2, .int v_3, .int v_4, .retAddr 0] [.int (X12_isPicture_V a_0 v_1 h)] (h) bc bs Q
  refine ex_if_eq (tgt := 16) (q := 8) dX12_put_5 (fun c3 => ?_) (fun c3 => ?_)
  · replace w := w.1 c3
    refine ex_aload_n (q := 17) (x := a_0) dX12_put_16 rfl ?_
    refine ex_bipush (q := 19) (v := (-2)) dX12_put_17 (by decide) ?_
    have s4 := w.1
    replace w := w.2
    refine ex_callV (q := 22) (M := mX12_put) (hdd := Nat.le_refl _) (mc := 0) (ms := 0) (d' := (d + 1)) (c := 12) (st := []) (bc := bc) (bs := bs) dX12_put_19 rfl cl_X12_165 wd_1581 wd_46 s1 (X12_no_s (Q := fun r z => r = some (.int (X12_no_V a_0 (-2) h)) ∧ z = X12_no_H a_0 (-2) h) s4 ⟨rfl, rfl⟩) ?_
    intro r z hrz
    rw [hrz.1, hrz.2]
    show ex_G mX12_put (d + 2) 22 [.ref a_0, .int v_1, .int v_2, .int v_3, .int v_4, .retAddr 0] [.int (X12_no_V a_0 (-2) h)] (X12_no_H a_0 (-2) h) bc bs Q
    refine ex_nmh (fun h5 eh5 => ?_)
    replace w := w h5 eh5
    exact ex_ireturn dX12_put_22 rfl (Or.inl rfl) w
  · replace w := w.2 c3
    refine ex_iload (q := 10) (x := v_4) dX12_put_8 rfl ?_
    have s6 := w.1
    replace w := w.2
    refine ex_callS (q := 13) (M := mX12_put) (hdd := Nat.le_refl _) (mc := 0) (ms := 0) (d' := (d + 1)) (st := []) (bc := bc) (bs := bs) dX12_put_10 rfl cl_X12_191 wd_1599 (X12_isArc_s (Q := fun r z => r = some (.int (X12_isArc_V v_4 h)) ∧ z = h) s6 ⟨rfl, rfl⟩) ?_
    intro r z hrz
    rw [hrz.1, hrz.2]
    show ex_G mX12_put (d + 2) 13 [.ref a_0, .int v_1, .int v_2, .int v_3, .int v_4, .retAddr 0] [.int (X12_isArc_V v_4 h)] (h) bc bs Q
    refine ex_if_ne (tgt := 23) (q := 16) dX12_put_13 (fun c7 => ?_) (fun c7 => ?_)
    · replace w := w.1 c7
      refine ex_aload_n (q := 24) (x := a_0) dX12_put_23 rfl ?_
      refine ex_iload_n (q := 25) (x := v_1) dX12_put_24 rfl ?_
      refine ex_iload_n (q := 26) (x := v_2) dX12_put_25 rfl ?_
      refine ex_iload_n (q := 27) (x := v_3) dX12_put_26 rfl ?_
      have s8 := w.1
      replace w := w.2
      refine ex_callV (q := 30) (M := mX12_put) (hdd := Nat.le_refl _) (mc := 0) (ms := 0) (d' := (d + 1)) (c := 12) (st := []) (bc := bc) (bs := bs) dX12_put_27 rfl cl_X12_203 wd_1622 wd_51 s1 (X12_lacks_s (Q := fun r z => r = some (.int (X12_lacks_V a_0 v_1 v_2 v_3 h)) ∧ z = h) s8 ⟨rfl, rfl⟩) ?_
      intro r z hrz
      rw [hrz.1, hrz.2]
      show ex_G mX12_put (d + 2) 30 [.ref a_0, .int v_1, .int v_2, .int v_3, .int v_4, .retAddr 0] [.int (X12_lacks_V a_0 v_1 v_2 v_3 h)] (h) bc bs Q
      refine ex_nmi (fun x9 ex9 => ?_)
      replace w := w x9 ex9
      refine ex_istore (q := 32) (ls' := [.ref a_0, .int v_1, .int v_2, .int v_3, .int v_4, .int x9]) dX12_put_30 rfl ?_
      refine ex_iload (q := 34) (x := x9) dX12_put_32 rfl ?_
      refine ex_if_le (tgt := 44) (q := 37) dX12_put_34 (fun c10 => ?_) (fun c10 => ?_)
      · replace w := w.1 c10
        refine ex_aload_n (q := 45) (x := a_0) dX12_put_44 rfl ?_
        obtain ⟨a11, ea11, w⟩ := w
        refine ex_getr (q := 48) dX12_put_45 fl_X12_23 s1 ea11 ?_
        refine ex_sipush (q := 51) (v := 160) dX12_put_48 (by decide) ?_
        refine ex_iload_n (q := 52) (x := v_1) dX12_put_51 rfl ?_
        refine ex_imul (q := 53) dX12_put_52 ?_
        refine ex_iconst (q := 54) (v := 4) dX12_put_53 (by decide) ?_
        refine ex_iload_n (q := 55) (x := v_2) dX12_put_54 rfl ?_
        refine ex_imul (q := 56) dX12_put_55 ?_
        refine ex_iadd (q := 57) dX12_put_56 ?_
        refine ex_iload_n (q := 58) (x := v_3) dX12_put_57 rfl ?_
        refine ex_iadd (q := 59) dX12_put_58 ?_
        refine ex_iload (q := 61) (x := v_4) dX12_put_59 rfl ?_
        have s13 := w.1
        replace w := w.2
        refine ex_iast (q := 62) dX12_put_61 s13 ?_
        refine ex_nmh (fun h12 eh12 => ?_)
        replace w := w h12 eh12
        refine ex_aload_n (q := 63) (x := a_0) dX12_put_62 rfl ?_
        obtain ⟨a14, ea14, w⟩ := w
        refine ex_getr (q := 66) dX12_put_63 fl_X12_26 (by rw [eh12]; exact s1) ea14 ?_
        refine ex_iload_n (q := 67) (x := v_1) dX12_put_66 rfl ?_
        refine ex_iconst (q := 68) (v := 0) dX12_put_67 (by decide) ?_
        have s16 := w.1
        replace w := w.2
        refine ex_iast (q := 69) dX12_put_68 s16 ?_
        refine ex_nmh (fun h15 eh15 => ?_)
        replace w := w h15 eh15
        refine ex_aload_n (q := 70) (x := a_0) dX12_put_69 rfl ?_
        refine ex_iconst (q := 71) (v := 1) dX12_put_70 (by decide) ?_
        have s17 := w.1
        replace w := w.2
        refine ex_callV (q := 74) (M := mX12_put) (hdd := Nat.le_refl _) (mc := 0) (ms := 0) (d' := (d + 1)) (c := 12) (st := []) (bc := bc) (bs := bs) dX12_put_71 rfl cl_X12_180 wd_1585 wd_47 (by rw [eh15]; exact (by rw [eh12]; exact s1)) (X12_well_s (Q := fun r z => r = some (.int (X12_well_V a_0 1 h15)) ∧ z = X12_well_H a_0 1 h15) s17 ⟨rfl, rfl⟩) ?_
        intro r z hrz
        rw [hrz.1, hrz.2]
        show ex_G mX12_put (d + 2) 74 [.ref a_0, .int v_1, .int v_2, .int v_3, .int v_4, .int x9] [.int (X12_well_V a_0 1 h15)] (X12_well_H a_0 1 h15) bc bs Q
        refine ex_nmh (fun h18 eh18 => ?_)
        replace w := w h18 eh18
        exact ex_ireturn dX12_put_74 rfl (Or.inl rfl) w
      · replace w := w.2 c10
        refine ex_aload_n (q := 38) (x := a_0) dX12_put_37 rfl ?_
        refine ex_iload (q := 40) (x := x9) dX12_put_38 rfl ?_
        have s19 := w.1
        replace w := w.2
        refine ex_callV (q := 43) (M := mX12_put) (hdd := Nat.le_refl _) (mc := 0) (ms := 0) (d' := (d + 1)) (c := 12) (st := []) (bc := bc) (bs := bs) dX12_put_40 rfl cl_X12_200 wd_1614 wd_50 s1 (X12_meets_s (Q := fun r z => r = some (.int (X12_meets_V a_0 x9 h)) ∧ z = X12_meets_H a_0 x9 h) s19 ⟨rfl, rfl⟩) ?_
        intro r z hrz
        rw [hrz.1, hrz.2]
        show ex_G mX12_put (d + 2) 43 [.ref a_0, .int v_1, .int v_2, .int v_3, .int v_4, .int x9] [.int (X12_meets_V a_0 x9 h)] (X12_meets_H a_0 x9 h) bc bs Q
        refine ex_nmh (fun h20 eh20 => ?_)
        replace w := w h20 eh20
        exact ex_ireturn dX12_put_43 rfl (Or.inl rfl) w
    · replace w := w.2 c7
      refine ex_aload_n (q := 17) (x := a_0) dX12_put_16 rfl ?_
      refine ex_bipush (q := 19) (v := (-2)) dX12_put_17 (by decide) ?_
      have s21 := w.1
      replace w := w.2
      refine ex_callV (q := 22) (M := mX12_put) (hdd := Nat.le_refl _) (mc := 0) (ms := 0) (d' := (d + 1)) (c := 12) (st := []) (bc := bc) (bs := bs) dX12_put_19 rfl cl_X12_165 wd_1581 wd_46 s1 (X12_no_s (Q := fun r z => r = some (.int (X12_no_V a_0 (-2) h)) ∧ z = X12_no_H a_0 (-2) h) s21 ⟨rfl, rfl⟩) ?_
      intro r z hrz
      rw [hrz.1, hrz.2]
      show ex_G mX12_put (d + 2) 22 [.ref a_0, .int v_1, .int v_2, .int v_3, .int v_4, .retAddr 0] [.int (X12_no_V a_0 (-2) h)] (X12_no_H a_0 (-2) h) bc bs Q
      refine ex_nmh (fun h22 eh22 => ?_)
      replace w := w h22 eh22
      exact ex_ireturn dX12_put_22 rfl (Or.inl rfl) w

theorem X12_put_e {d bc bs : Nat} {h : AH} {Q : Option Value → AH → Prop} {a_0 : Nat} {v_1 : Int32} {v_2 : Int32} {v_3 : Int32} {v_4 : Int32} (w : ex_G mX12_put (d + 2) 0 [.ref a_0, .int v_1, .int v_2, .int v_3, .int v_4, .retAddr 0] [] h bc bs Q) : ex_S yX12_put mX12_put (d + 2) [.ref a_0, .int v_1, .int v_2, .int v_3, .int v_4] h bc bs Q :=
  ex_enter (plainFor_of_name (by decide +kernel)) ⟨rfl, rfl⟩ rfl rfl (Nat.le_of_ble_eq_true rfl) (ex_pad 1 w)

set_option maxRecDepth 100000 in
theorem X12_copy_0 {d bc bs : Nat} {h : AH} {Q : Option Value → AH → Prop} {a_0 : Nat} {v_1 : Int32} {v_2 : Int32} {v_3 : Int32} {v_4 : Int32} {v_5 : Int32} {v_6 : Int32} {v_7 : Int32} (w : ah_o h a_0 12 ∧ X12_isPicture_C a_0 v_1 h ∧ (((X12_isPicture_V a_0 v_1 h) = 0 → X12_no_C a_0 (-2) h ∧ ∀ h5, h5 = X12_no_H a_0 (-2) h → Q (some (.int (X12_no_V a_0 (-2) h))) h5) ∧ (¬ (X12_isPicture_V a_0 v_1 h) = 0 → X12_isPicture_C a_0 v_4 h ∧ ((¬ (X12_isPicture_V a_0 v_4 h) = 0 → ∃ a8, ah_r h a_0 2 = some a8 ∧ ld0 h a8 v_1 ∧ (((X12_in_V (Int32.toInt64 v_2) 0 (Int32.toInt64 ((ah_i h a8 (Int32.toNatClampNeg v_1)) - 1)) h) = 0 → X12_meets_C a_0 2 h ∧ ∀ h12, h12 = X12_meets_H a_0 2 h → Q (some (.int (X12_meets_V a_0 2 h))) h12) ∧ (¬ (X12_in_V (Int32.toInt64 v_2) 0 (Int32.toInt64 ((ah_i h a8 (Int32.toNatClampNeg v_1)) - 1)) h) = 0 → ld0 h a8 v_4 ∧ ((¬ (X12_in_V (Int32.toInt64 v_5) 0 (Int32.toInt64 ((ah_i h a8 (Int32.toNatClampNeg v_4)) - 1)) h) = 0 → ∃ a15, ah_r h a_0 4 = some a15 ∧ ld0 h a15 ((40 * v_1) + v_2) ∧ ∀ x17, x17 = ah_i h a15 (Int32.toNatClampNeg ((40 * v_1) + v_2)) → ld0 h a15 ((40 * v_4) + v_5) ∧ ∀ x19, x19 = ah_i h a15 (Int32.toNatClampNeg ((40 * v_4) + v_5)) → ((x17 < 0 → X12_meets_C a_0 1 h ∧ ∀ h22, h22 = X12_meets_H a_0 1 h → Q (some (.int (X12_meets_V a_0 1 h))) h22) ∧ (¬ x17 < 0 → ((0 ≤ x19 → ((v_3 < 0 → X12_meets_C a_0 2 h ∧ ∀ h26, h26 = X12_meets_H a_0 2 h → Q (some (.int (X12_meets_V a_0 2 h))) h26) ∧ (¬ v_3 < 0 → ((v_6 < 0 → X12_meets_C a_0 2 h ∧ ∀ h29, h29 = X12_meets_H a_0 2 h → Q (some (.int (X12_meets_V a_0 2 h))) h29) ∧ (¬ v_6 < 0 → ((v_7 < 0 → X12_meets_C a_0 2 h ∧ ∀ h32, h32 = X12_meets_H a_0 2 h → Q (some (.int (X12_meets_V a_0 2 h))) h32) ∧ (¬ v_7 < 0 → ((0 < (lg_cmp ((Int32.toInt64 v_3) + (Int32.toInt64 v_7)) (Int32.toInt64 x17)) → X12_meets_C a_0 2 h ∧ ∀ h35, h35 = X12_meets_H a_0 2 h → Q (some (.int (X12_meets_V a_0 2 h))) h35) ∧ (¬ 0 < (lg_cmp ((Int32.toInt64 v_3) + (Int32.toInt64 v_7)) (Int32.toInt64 x17)) → (((lg_cmp ((Int32.toInt64 v_6) + (Int32.toInt64 v_7)) (Int32.toInt64 x19)) ≤ 0 → ex_G mX12_copy (d + 2) 162 [.ref a_0, .int v_1, .int v_2, .int v_3, .int v_4, .int v_5, .int v_6, .int v_7, .retAddr 0, .retAddr 0, .int 0] [] h bc bs Q) ∧ (¬ (lg_cmp ((Int32.toInt64 v_6) + (Int32.toInt64 v_7)) (Int32.toInt64 x19)) ≤ 0 → X12_meets_C a_0 2 h ∧ ∀ h38, h38 = X12_meets_H a_0 2 h → Q (some (.int (X12_meets_V a_0 2 h))) h38))))))))))) ∧ (¬ 0 ≤ x19 → X12_meets_C a_0 1 h ∧ ∀ h40, h40 = X12_meets_H a_0 1 h → Q (some (.int (X12_meets_V a_0 1 h))) h40))))) ∧ ((X12_in_V (Int32.toInt64 v_5) 0 (Int32.toInt64 ((ah_i h a8 (Int32.toNatClampNeg v_4)) - 1)) h) = 0 → X12_meets_C a_0 2 h ∧ ∀ h42, h42 = X12_meets_H a_0 2 h → Q (some (.int (X12_meets_V a_0 2 h))) h42))))) ∧ ((X12_isPicture_V a_0 v_4 h) = 0 → X12_no_C a_0 (-2) h ∧ ∀ h44, h44 = X12_no_H a_0 (-2) h → Q (some (.int (X12_no_V a_0 (-2) h))) h44))))) : ex_G mX12_copy (d + 2) 0 [.ref a_0, .int v_1, .int v_2, .int v_3, .int v_4, .int v_5, .int v_6, .int v_7, .retAddr 0, .retAddr 0, .retAddr 0] [] h bc bs Q := by
  refine ex_aload_n (q := 1) (x := a_0) dX12_copy_0 rfl ?_
  refine ex_iload_n (q := 2) (x := v_1) dX12_copy_1 rfl ?_
  have s1 := w.1
  replace w := w.2
  have s2 := w.1
  replace w := w.2
  refine ex_callV (q := 5) (M := mX12_copy) (hdd := Nat.le_refl _) (mc := 0) (ms := 0) (d' := (d + 1)) (c := 12) (st := []) (bc := bc) (bs := bs) dX12_copy_2 rfl cl_X12_187 wd_1593 wd_48 s1 (X12_isPicture_s (Q := fun r z => r = some (.int (X12_isPicture_V a_0 v_1 h)) ∧ z = h) s2 ⟨rfl, rfl⟩) ?_
  intro r z hrz
  rw [hrz.1, hrz.2]
  show ex_G mX12_copy (d + 2) 5 [.ref a_0, .int v_1, .int v_2, .int v_3, .int v_4, .int v_5, .int v_6, .int v_7, .retAddr 0, .retAddr 0, .retAddr 0] [.int (X12_isPicture_V a_0 v_1 h)] (h) bc bs Q
  refine ex_if_eq (tgt := 17) (q := 8) dX12_copy_5 (fun c3 => ?_) (fun c3 => ?_)
  · replace w := w.1 c3
    refine ex_aload_n (q := 18) (x := a_0) dX12_copy_17 rfl ?_
    refine ex_bipush (q := 20) (v := (-2)) dX12_copy_18 (by decide) ?_
    have s4 := w.1
    replace w := w.2
    refine ex_callV (q := 23) (M := mX12_copy) (hdd := Nat.le_refl _) (mc := 0) (ms := 0) (d' := (d + 1)) (c := 12) (st := []) (bc := bc) (bs := bs) dX12_copy_20 rfl cl_X12_165 wd_1581 wd_46 s1 (X12_no_s (Q := fun r z => r = some (.int (X12_no_V a_0 (-2) h)) ∧ z = X12_no_H a_0 (-2) h) s4 ⟨rfl, rfl⟩) ?_
    intro r z hrz
    rw [hrz.1, hrz.2]
    show ex_G mX12_copy (d + 2) 23 [.ref a_0, .int v_1, .int v_2, .int v_3, .int v_4, .int v_5, .int v_6, .int v_7, .retAddr 0, .retAddr 0, .retAddr 0] [.int (X12_no_V a_0 (-2) h)] (X12_no_H a_0 (-2) h) bc bs Q
    refine ex_nmh (fun h5 eh5 => ?_)
    replace w := w h5 eh5
    exact ex_ireturn dX12_copy_23 rfl (Or.inl rfl) w
  · replace w := w.2 c3
    refine ex_aload_n (q := 9) (x := a_0) dX12_copy_8 rfl ?_
    refine ex_iload (q := 11) (x := v_4) dX12_copy_9 rfl ?_
    have s6 := w.1
    replace w := w.2
    refine ex_callV (q := 14) (M := mX12_copy) (hdd := Nat.le_refl _) (mc := 0) (ms := 0) (d' := (d + 1)) (c := 12) (st := []) (bc := bc) (bs := bs) dX12_copy_11 rfl cl_X12_187 wd_1593 wd_48 s1 (X12_isPicture_s (Q := fun r z => r = some (.int (X12_isPicture_V a_0 v_4 h)) ∧ z = h) s6 ⟨rfl, rfl⟩) ?_
    intro r z hrz
    rw [hrz.1, hrz.2]
    show ex_G mX12_copy (d + 2) 14 [.ref a_0, .int v_1, .int v_2, .int v_3, .int v_4, .int v_5, .int v_6, .int v_7, .retAddr 0, .retAddr 0, .retAddr 0] [.int (X12_isPicture_V a_0 v_4 h)] (h) bc bs Q
    refine ex_if_ne (tgt := 24) (q := 17) dX12_copy_14 (fun c7 => ?_) (fun c7 => ?_)
    · replace w := w.1 c7
      refine ex_iload_n (q := 25) (x := v_2) dX12_copy_24 rfl ?_
      refine ex_i2l (q := 26) dX12_copy_25 ?_
      refine ex_lconst (q := 27) (v := 0) dX12_copy_26 (by decide) ?_
      refine ex_aload_n (q := 28) (x := a_0) dX12_copy_27 rfl ?_
      obtain ⟨a8, ea8, w⟩ := w
      refine ex_getr (q := 31) dX12_copy_28 fl_X12_13 s1 ea8 ?_
      refine ex_iload_n (q := 32) (x := v_1) dX12_copy_31 rfl ?_
      have s9 := w.1
      replace w := w.2
      refine ex_iald (q := 33) dX12_copy_32 s9 ?_
      refine ex_iconst (q := 34) (v := 1) dX12_copy_33 (by decide) ?_
      refine ex_isub (q := 35) dX12_copy_34 ?_
      refine ex_i2l (q := 36) dX12_copy_35 ?_
      refine ex_callS (q := 39) (M := mX12_copy) (hdd := Nat.le_refl _) (mc := 0) (ms := 0) (d' := (d + 1)) (st := []) (bc := bc) (bs := bs) dX12_copy_36 rfl cl_X12_172 wd_1596 (X12_in_s (Q := fun r z => r = some (.int (X12_in_V (Int32.toInt64 v_2) 0 (Int32.toInt64 ((ah_i h a8 (Int32.toNatClampNeg v_1)) - 1)) h)) ∧ z = h) ⟨rfl, rfl⟩) ?_
      intro r z hrz
      rw [hrz.1, hrz.2]
      show ex_G mX12_copy (d + 2) 39 [.ref a_0, .int v_1, .int v_2, .int v_3, .int v_4, .int v_5, .int v_6, .int v_7, .retAddr 0, .retAddr 0, .retAddr 0] [.int (X12_in_V (Int32.toInt64 v_2) 0 (Int32.toInt64 ((ah_i h a8 (Int32.toNatClampNeg v_1)) - 1)) h)] (h) bc bs Q
      refine ex_if_eq (tgt := 62) (q := 42) dX12_copy_39 (fun c10 => ?_) (fun c10 => ?_)
      · replace w := w.1 c10
        refine ex_aload_n (q := 63) (x := a_0) dX12_copy_62 rfl ?_
        refine ex_iconst (q := 64) (v := 2) dX12_copy_63 (by decide) ?_
        have s11 := w.1
        replace w := w.2
        refine ex_callV (q := 67) (M := mX12_copy) (hdd := Nat.le_refl _) (mc := 0) (ms := 0) (d' := (d + 1)) (c := 12) (st := []) (bc := bc) (bs := bs) dX12_copy_64 rfl cl_X12_200 wd_1614 wd_50 s1 (X12_meets_s (Q := fun r z => r = some (.int (X12_meets_V a_0 2 h)) ∧ z = X12_meets_H a_0 2 h) s11 ⟨rfl, rfl⟩) ?_
        intro r z hrz
        rw [hrz.1, hrz.2]
        show ex_G mX12_copy (d + 2) 67 [.ref a_0, .int v_1, .int v_2, .int v_3, .int v_4, .int v_5, .int v_6, .int v_7, .retAddr 0, .retAddr 0, .retAddr 0] [.int (X12_meets_V a_0 2 h)] (X12_meets_H a_0 2 h) bc bs Q
        refine ex_nmh (fun h12 eh12 => ?_)
        replace w := w h12 eh12
        exact ex_ireturn dX12_copy_67 rfl (Or.inl rfl) w
      · replace w := w.2 c10
        refine ex_iload (q := 44) (x := v_5) dX12_copy_42 rfl ?_
        refine ex_i2l (q := 45) dX12_copy_44 ?_
        refine ex_lconst (q := 46) (v := 0) dX12_copy_45 (by decide) ?_
        refine ex_aload_n (q := 47) (x := a_0) dX12_copy_46 rfl ?_
        refine ex_getr (q := 50) dX12_copy_47 fl_X12_13 s1 ea8 ?_
        refine ex_iload (q := 52) (x := v_4) dX12_copy_50 rfl ?_
        have s13 := w.1
        replace w := w.2
        refine ex_iald (q := 53) dX12_copy_52 s13 ?_
        refine ex_iconst (q := 54) (v := 1) dX12_copy_53 (by decide) ?_
        refine ex_isub (q := 55) dX12_copy_54 ?_
        refine ex_i2l (q := 56) dX12_copy_55 ?_
        refine ex_callS (q := 59) (M := mX12_copy) (hdd := Nat.le_refl _) (mc := 0) (ms := 0) (d' := (d + 1)) (st := []) (bc := bc) (bs := bs) dX12_copy_56 rfl cl_X12_172 wd_1596 (X12_in_s (Q := fun r z => r = some (.int (X12_in_V (Int32.toInt64 v_5) 0 (Int32.toInt64 ((ah_i h a8 (Int32.toNatClampNeg v_4)) - 1)) h)) ∧ z = h) ⟨rfl, rfl⟩) ?_
        intro r z hrz
        rw [hrz.1, hrz.2]
        show ex_G mX12_copy (d + 2) 59 [.ref a_0, .int v_1, .int v_2, .int v_3, .int v_4, .int v_5, .int v_6, .int v_7, .retAddr 0, .retAddr 0, .retAddr 0] [.int (X12_in_V (Int32.toInt64 v_5) 0 (Int32.toInt64 ((ah_i h a8 (Int32.toNatClampNeg v_4)) - 1)) h)] (h) bc bs Q
        refine ex_if_ne (tgt := 68) (q := 62) dX12_copy_59 (fun c14 => ?_) (fun c14 => ?_)
        · replace w := w.1 c14
          refine ex_aload_n (q := 69) (x := a_0) dX12_copy_68 rfl ?_
          obtain ⟨a15, ea15, w⟩ := w
          refine ex_getr (q := 72) dX12_copy_69 fl_X12_19 s1 ea15 ?_
          refine ex_bipush (q := 74) (v := 40) dX12_copy_72 (by decide) ?_
          refine ex_iload_n (q := 75) (x := v_1) dX12_copy_74 rfl ?_
          refine ex_imul (q := 76) dX12_copy_75 ?_
          refine ex_iload_n (q := 77) (x := v_2) dX12_copy_76 rfl ?_
          refine ex_iadd (q := 78) dX12_copy_77 ?_
          have s16 := w.1
          replace w := w.2
          refine ex_iald (q := 79) dX12_copy_78 s16 ?_
          refine ex_nmi (fun x17 ex17 => ?_)
          replace w := w x17 ex17
          refine ex_istore (q := 81) (ls' := [.ref a_0, .int v_1, .int v_2, .int v_3, .int v_4, .int v_5, .int v_6, .int v_7, .int x17, .retAddr 0, .retAddr 0]) dX12_copy_79 rfl ?_
          refine ex_aload_n (q := 82) (x := a_0) dX12_copy_81 rfl ?_
          refine ex_getr (q := 85) dX12_copy_82 fl_X12_19 s1 ea15 ?_
          refine ex_bipush (q := 87) (v := 40) dX12_copy_85 (by decide) ?_
          refine ex_iload (q := 89) (x := v_4) dX12_copy_87 rfl ?_
          refine ex_imul (q := 90) dX12_copy_89 ?_
          refine ex_iload (q := 92) (x := v_5) dX12_copy_90 rfl ?_
          refine ex_iadd (q := 93) dX12_copy_92 ?_
          have s18 := w.1
          replace w := w.2
          refine ex_iald (q := 94) dX12_copy_93 s18 ?_
          refine ex_nmi (fun x19 ex19 => ?_)
          replace w := w x19 ex19
          refine ex_istore (q := 96) (ls' := [.ref a_0, .int v_1, .int v_2, .int v_3, .int v_4, .int v_5, .int v_6, .int v_7, .int x17, .int x19, .retAddr 0]) dX12_copy_94 rfl ?_
          refine ex_iload (q := 98) (x := x17) dX12_copy_96 rfl ?_
          refine ex_if_lt (tgt := 106) (q := 101) dX12_copy_98 (fun c20 => ?_) (fun c20 => ?_)
          · replace w := w.1 c20
            refine ex_aload_n (q := 107) (x := a_0) dX12_copy_106 rfl ?_
            refine ex_iconst (q := 108) (v := 1) dX12_copy_107 (by decide) ?_
            have s21 := w.1
            replace w := w.2
            refine ex_callV (q := 111) (M := mX12_copy) (hdd := Nat.le_refl _) (mc := 0) (ms := 0) (d' := (d + 1)) (c := 12) (st := []) (bc := bc) (bs := bs) dX12_copy_108 rfl cl_X12_200 wd_1614 wd_50 s1 (X12_meets_s (Q := fun r z => r = some (.int (X12_meets_V a_0 1 h)) ∧ z = X12_meets_H a_0 1 h) s21 ⟨rfl, rfl⟩) ?_
            intro r z hrz
            rw [hrz.1, hrz.2]
            show ex_G mX12_copy (d + 2) 111 [.ref a_0, .int v_1, .int v_2, .int v_3, .int v_4, .int v_5, .int v_6, .int v_7, .int x17, .int x19, .retAddr 0] [.int (X12_meets_V a_0 1 h)] (X12_meets_H a_0 1 h) bc bs Q
            refine ex_nmh (fun h22 eh22 => ?_)
            replace w := w h22 eh22
            exact ex_ireturn dX12_copy_111 rfl (Or.inl rfl) w
          · replace w := w.2 c20
            refine ex_iload (q := 103) (x := x19) dX12_copy_101 rfl ?_
            refine ex_if_ge (tgt := 112) (q := 106) dX12_copy_103 (fun c23 => ?_) (fun c23 => ?_)
            · replace w := w.1 c23
              refine ex_iload_n (q := 113) (x := v_3) dX12_copy_112 rfl ?_
              refine ex_if_lt (tgt := 153) (q := 116) dX12_copy_113 (fun c24 => ?_) (fun c24 => ?_)
              · replace w := w.1 c24
                refine ex_aload_n (q := 154) (x := a_0) dX12_copy_153 rfl ?_
                refine ex_iconst (q := 155) (v := 2) dX12_copy_154 (by decide) ?_
                have s25 := w.1
                replace w := w.2
                refine ex_callV (q := 158) (M := mX12_copy) (hdd := Nat.le_refl _) (mc := 0) (ms := 0) (d' := (d + 1)) (c := 12) (st := []) (bc := bc) (bs := bs) dX12_copy_155 rfl cl_X12_200 wd_1614 wd_50 s1 (X12_meets_s (Q := fun r z => r = some (.int (X12_meets_V a_0 2 h)) ∧ z = X12_meets_H a_0 2 h) s25 ⟨rfl, rfl⟩) ?_
                intro r z hrz
                rw [hrz.1, hrz.2]
                show ex_G mX12_copy (d + 2) 158 [.ref a_0, .int v_1, .int v_2, .int v_3, .int v_4, .int v_5, .int v_6, .int v_7, .int x17, .int x19, .retAddr 0] [.int (X12_meets_V a_0 2 h)] (X12_meets_H a_0 2 h) bc bs Q
                refine ex_nmh (fun h26 eh26 => ?_)
                replace w := w h26 eh26
                exact ex_ireturn dX12_copy_158 rfl (Or.inl rfl) w
              · replace w := w.2 c24
                refine ex_iload (q := 118) (x := v_6) dX12_copy_116 rfl ?_
                refine ex_if_lt (tgt := 153) (q := 121) dX12_copy_118 (fun c27 => ?_) (fun c27 => ?_)
                · replace w := w.1 c27
                  refine ex_aload_n (q := 154) (x := a_0) dX12_copy_153 rfl ?_
                  refine ex_iconst (q := 155) (v := 2) dX12_copy_154 (by decide) ?_
                  have s28 := w.1
                  replace w := w.2
                  refine ex_callV (q := 158) (M := mX12_copy) (hdd := Nat.le_refl _) (mc := 0) (ms := 0) (d' := (d + 1)) (c := 12) (st := []) (bc := bc) (bs := bs) dX12_copy_155 rfl cl_X12_200 wd_1614 wd_50 s1 (X12_meets_s (Q := fun r z => r = some (.int (X12_meets_V a_0 2 h)) ∧ z = X12_meets_H a_0 2 h) s28 ⟨rfl, rfl⟩) ?_
                  intro r z hrz
                  rw [hrz.1, hrz.2]
                  show ex_G mX12_copy (d + 2) 158 [.ref a_0, .int v_1, .int v_2, .int v_3, .int v_4, .int v_5, .int v_6, .int v_7, .int x17, .int x19, .retAddr 0] [.int (X12_meets_V a_0 2 h)] (X12_meets_H a_0 2 h) bc bs Q
                  refine ex_nmh (fun h29 eh29 => ?_)
                  replace w := w h29 eh29
                  exact ex_ireturn dX12_copy_158 rfl (Or.inl rfl) w
                · replace w := w.2 c27
                  refine ex_iload (q := 123) (x := v_7) dX12_copy_121 rfl ?_
                  refine ex_if_lt (tgt := 153) (q := 126) dX12_copy_123 (fun c30 => ?_) (fun c30 => ?_)
                  · replace w := w.1 c30
                    refine ex_aload_n (q := 154) (x := a_0) dX12_copy_153 rfl ?_
                    refine ex_iconst (q := 155) (v := 2) dX12_copy_154 (by decide) ?_
                    have s31 := w.1
                    replace w := w.2
                    refine ex_callV (q := 158) (M := mX12_copy) (hdd := Nat.le_refl _) (mc := 0) (ms := 0) (d' := (d + 1)) (c := 12) (st := []) (bc := bc) (bs := bs) dX12_copy_155 rfl cl_X12_200 wd_1614 wd_50 s1 (X12_meets_s (Q := fun r z => r = some (.int (X12_meets_V a_0 2 h)) ∧ z = X12_meets_H a_0 2 h) s31 ⟨rfl, rfl⟩) ?_
                    intro r z hrz
                    rw [hrz.1, hrz.2]
                    show ex_G mX12_copy (d + 2) 158 [.ref a_0, .int v_1, .int v_2, .int v_3, .int v_4, .int v_5, .int v_6, .int v_7, .int x17, .int x19, .retAddr 0] [.int (X12_meets_V a_0 2 h)] (X12_meets_H a_0 2 h) bc bs Q
                    refine ex_nmh (fun h32 eh32 => ?_)
                    replace w := w h32 eh32
                    exact ex_ireturn dX12_copy_158 rfl (Or.inl rfl) w
                  · replace w := w.2 c30
                    refine ex_iload_n (q := 127) (x := v_3) dX12_copy_126 rfl ?_
                    refine ex_i2l (q := 128) dX12_copy_127 ?_
                    refine ex_iload (q := 130) (x := v_7) dX12_copy_128 rfl ?_
                    refine ex_i2l (q := 131) dX12_copy_130 ?_
                    refine ex_ladd (q := 132) dX12_copy_131 ?_
                    refine ex_iload (q := 134) (x := x17) dX12_copy_132 rfl ?_
                    refine ex_i2l (q := 135) dX12_copy_134 ?_
                    refine ex_lcmp (q := 136) dX12_copy_135 ?_
                    refine ex_if_gt (tgt := 153) (q := 139) dX12_copy_136 (fun c33 => ?_) (fun c33 => ?_)
                    · replace w := w.1 c33
                      refine ex_aload_n (q := 154) (x := a_0) dX12_copy_153 rfl ?_
                      refine ex_iconst (q := 155) (v := 2) dX12_copy_154 (by decide) ?_
                      have s34 := w.1
                      replace w := w.2
                      refine ex_callV (q := 158) (M := mX12_copy) (hdd := Nat.le_refl _) (mc := 0) (ms := 0) (d' := (d + 1)) (c := 12) (st := []) (bc := bc) (bs := bs) dX12_copy_155 rfl cl_X12_200 wd_1614 wd_50 s1 (X12_meets_s (Q := fun r z => r = some (.int (X12_meets_V a_0 2 h)) ∧ z = X12_meets_H a_0 2 h) s34 ⟨rfl, rfl⟩) ?_
                      intro r z hrz
                      rw [hrz.1, hrz.2]
                      show ex_G mX12_copy (d + 2) 158 [.ref a_0, .int v_1, .int v_2, .int v_3, .int v_4, .int v_5, .int v_6, .int v_7, .int x17, .int x19, .retAddr 0] [.int (X12_meets_V a_0 2 h)] (X12_meets_H a_0 2 h) bc bs Q
                      refine ex_nmh (fun h35 eh35 => ?_)
                      replace w := w h35 eh35
                      exact ex_ireturn dX12_copy_158 rfl (Or.inl rfl) w
                    · replace w := w.2 c33
                      refine ex_iload (q := 141) (x := v_6) dX12_copy_139 rfl ?_
                      refine ex_i2l (q := 142) dX12_copy_141 ?_
                      refine ex_iload (q := 144) (x := v_7) dX12_copy_142 rfl ?_
                      refine ex_i2l (q := 145) dX12_copy_144 ?_
                      refine ex_ladd (q := 146) dX12_copy_145 ?_
                      refine ex_iload (q := 148) (x := x19) dX12_copy_146 rfl ?_
                      refine ex_i2l (q := 149) dX12_copy_148 ?_
                      refine ex_lcmp (q := 150) dX12_copy_149 ?_
                      refine ex_if_le (tgt := 159) (q := 153) dX12_copy_150 (fun c36 => ?_) (fun c36 => ?_)
                      · replace w := w.1 c36
                        refine ex_iconst (q := 160) (v := 0) dX12_copy_159 (by decide) ?_
                        refine ex_istore (q := 162) (ls' := [.ref a_0, .int v_1, .int v_2, .int v_3, .int v_4, .int v_5, .int v_6, .int v_7, .int x17, .int x19, .int 0]) dX12_copy_160 rfl ?_
                        refine ex_kill 8 (ls' := [.ref a_0, .int v_1, .int v_2, .int v_3, .int v_4, .int v_5, .int v_6, .int v_7, .retAddr 0, .int x19, .int 0]) rfl ?_
                        refine ex_kill 9 (ls' := [.ref a_0, .int v_1, .int v_2, .int v_3, .int v_4, .int v_5, .int v_6, .int v_7, .retAddr 0, .retAddr 0, .int 0]) rfl ?_
                        exact w
                      · replace w := w.2 c36
                        refine ex_aload_n (q := 154) (x := a_0) dX12_copy_153 rfl ?_
                        refine ex_iconst (q := 155) (v := 2) dX12_copy_154 (by decide) ?_
                        have s37 := w.1
                        replace w := w.2
                        refine ex_callV (q := 158) (M := mX12_copy) (hdd := Nat.le_refl _) (mc := 0) (ms := 0) (d' := (d + 1)) (c := 12) (st := []) (bc := bc) (bs := bs) dX12_copy_155 rfl cl_X12_200 wd_1614 wd_50 s1 (X12_meets_s (Q := fun r z => r = some (.int (X12_meets_V a_0 2 h)) ∧ z = X12_meets_H a_0 2 h) s37 ⟨rfl, rfl⟩) ?_
                        intro r z hrz
                        rw [hrz.1, hrz.2]
                        show ex_G mX12_copy (d + 2) 158 [.ref a_0, .int v_1, .int v_2, .int v_3, .int v_4, .int v_5, .int v_6, .int v_7, .int x17, .int x19, .retAddr 0] [.int (X12_meets_V a_0 2 h)] (X12_meets_H a_0 2 h) bc bs Q
                        refine ex_nmh (fun h38 eh38 => ?_)
                        replace w := w h38 eh38
                        exact ex_ireturn dX12_copy_158 rfl (Or.inl rfl) w
            · replace w := w.2 c23
              refine ex_aload_n (q := 107) (x := a_0) dX12_copy_106 rfl ?_
              refine ex_iconst (q := 108) (v := 1) dX12_copy_107 (by decide) ?_
              have s39 := w.1
              replace w := w.2
              refine ex_callV (q := 111) (M := mX12_copy) (hdd := Nat.le_refl _) (mc := 0) (ms := 0) (d' := (d + 1)) (c := 12) (st := []) (bc := bc) (bs := bs) dX12_copy_108 rfl cl_X12_200 wd_1614 wd_50 s1 (X12_meets_s (Q := fun r z => r = some (.int (X12_meets_V a_0 1 h)) ∧ z = X12_meets_H a_0 1 h) s39 ⟨rfl, rfl⟩) ?_
              intro r z hrz
              rw [hrz.1, hrz.2]
              show ex_G mX12_copy (d + 2) 111 [.ref a_0, .int v_1, .int v_2, .int v_3, .int v_4, .int v_5, .int v_6, .int v_7, .int x17, .int x19, .retAddr 0] [.int (X12_meets_V a_0 1 h)] (X12_meets_H a_0 1 h) bc bs Q
              refine ex_nmh (fun h40 eh40 => ?_)
              replace w := w h40 eh40
              exact ex_ireturn dX12_copy_111 rfl (Or.inl rfl) w
        · replace w := w.2 c14
          refine ex_aload_n (q := 63) (x := a_0) dX12_copy_62 rfl ?_
          refine ex_iconst (q := 64) (v := 2) dX12_copy_63 (by decide) ?_
          have s41 := w.1
          replace w := w.2
          refine ex_callV (q := 67) (M := mX12_copy) (hdd := Nat.le_refl _) (mc := 0) (ms := 0) (d' := (d + 1)) (c := 12) (st := []) (bc := bc) (bs := bs) dX12_copy_64 rfl cl_X12_200 wd_1614 wd_50 s1 (X12_meets_s (Q := fun r z => r = some (.int (X12_meets_V a_0 2 h)) ∧ z = X12_meets_H a_0 2 h) s41 ⟨rfl, rfl⟩) ?_
          intro r z hrz
          rw [hrz.1, hrz.2]
          show ex_G mX12_copy (d + 2) 67 [.ref a_0, .int v_1, .int v_2, .int v_3, .int v_4, .int v_5, .int v_6, .int v_7, .retAddr 0, .retAddr 0, .retAddr 0] [.int (X12_meets_V a_0 2 h)] (X12_meets_H a_0 2 h) bc bs Q
          refine ex_nmh (fun h42 eh42 => ?_)
          replace w := w h42 eh42
          exact ex_ireturn dX12_copy_67 rfl (Or.inl rfl) w
    · replace w := w.2 c7
      refine ex_aload_n (q := 18) (x := a_0) dX12_copy_17 rfl ?_
      refine ex_bipush (q := 20) (v := (-2)) dX12_copy_18 (by decide) ?_
      have s43 := w.1
      replace w := w.2
      refine ex_callV (q := 23) (M := mX12_copy) (hdd := Nat.le_refl _) (mc := 0) (ms := 0) (d' := (d + 1)) (c := 12) (st := []) (bc := bc) (bs := bs) dX12_copy_20 rfl cl_X12_165 wd_1581 wd_46 s1 (X12_no_s (Q := fun r z => r = some (.int (X12_no_V a_0 (-2) h)) ∧ z = X12_no_H a_0 (-2) h) s43 ⟨rfl, rfl⟩) ?_
      intro r z hrz
      rw [hrz.1, hrz.2]
      show ex_G mX12_copy (d + 2) 23 [.ref a_0, .int v_1, .int v_2, .int v_3, .int v_4, .int v_5, .int v_6, .int v_7, .retAddr 0, .retAddr 0, .retAddr 0] [.int (X12_no_V a_0 (-2) h)] (X12_no_H a_0 (-2) h) bc bs Q
      refine ex_nmh (fun h44 eh44 => ?_)
      replace w := w h44 eh44
      exact ex_ireturn dX12_copy_23 rfl (Or.inl rfl) w

set_option maxRecDepth 100000 in
theorem X12_copy_162 {d bc bs : Nat} {h : AH} {Q : Option Value → AH → Prop} {a_0 : Nat} {v_1 : Int32} {v_2 : Int32} {v_3 : Int32} {v_4 : Int32} {v_5 : Int32} {v_6 : Int32} {v_7 : Int32} {v_10 : Int32} (w : ((v_7 ≤ v_10 → ex_G mX12_copy (d + 2) 204 [.ref a_0, .retAddr 0, .retAddr 0, .retAddr 0, .int v_4, .int v_5, .int v_6, .int v_7, .retAddr 0, .retAddr 0, .int 0] [] h bc bs Q) ∧ (¬ v_7 ≤ v_10 → ah_o h a_0 12 ∧ ∃ a3, ah_r h a_0 8 = some a3 ∧ ∃ a4, ah_r h a_0 5 = some a4 ∧ ld0 h a4 ((((160 * v_1) + (4 * v_2)) + v_3) + v_10) ∧ st0 h a3 v_10 ∧ ∀ h6, h6 = ah_si h a3 (Int32.toNatClampNeg v_10) (ah_i h a4 (Int32.toNatClampNeg ((((160 * v_1) + (4 * v_2)) + v_3) + v_10))) → ∀ x8, x8 = v_10 + 1 → ex_G mX12_copy (d + 2) 162 [.ref a_0, .int v_1, .int v_2, .int v_3, .int v_4, .int v_5, .int v_6, .int v_7, .retAddr 0, .retAddr 0, .int x8] [] h6 bc bs Q))) : ex_G mX12_copy (d + 2) 162 [.ref a_0, .int v_1, .int v_2, .int v_3, .int v_4, .int v_5, .int v_6, .int v_7, .retAddr 0, .retAddr 0, .int v_10] [] h bc bs Q := by
  refine ex_iload (q := 164) (x := v_10) dX12_copy_162 rfl ?_
  refine ex_iload (q := 166) (x := v_7) dX12_copy_164 rfl ?_
  refine ex_icmp_ge (tgt := 201) (q := 169) dX12_copy_166 (fun c1 => ?_) (fun c1 => ?_)
  · replace w := w.1 c1
    refine ex_iconst (q := 202) (v := 0) dX12_copy_201 (by decide) ?_
    refine ex_istore (q := 204) (ls' := [.ref a_0, .int v_1, .int v_2, .int v_3, .int v_4, .int v_5, .int v_6, .int v_7, .retAddr 0, .retAddr 0, .int 0]) dX12_copy_202 rfl ?_
    refine ex_kill 1 (ls' := [.ref a_0, .retAddr 0, .int v_2, .int v_3, .int v_4, .int v_5, .int v_6, .int v_7, .retAddr 0, .retAddr 0, .int 0]) rfl ?_
    refine ex_kill 2 (ls' := [.ref a_0, .retAddr 0, .retAddr 0, .int v_3, .int v_4, .int v_5, .int v_6, .int v_7, .retAddr 0, .retAddr 0, .int 0]) rfl ?_
    refine ex_kill 3 (ls' := [.ref a_0, .retAddr 0, .retAddr 0, .retAddr 0, .int v_4, .int v_5, .int v_6, .int v_7, .retAddr 0, .retAddr 0, .int 0]) rfl ?_
    exact w
  · replace w := w.2 c1
    refine ex_aload_n (q := 170) (x := a_0) dX12_copy_169 rfl ?_
    have s2 := w.1
    replace w := w.2
    obtain ⟨a3, ea3, w⟩ := w
    refine ex_getr (q := 173) dX12_copy_170 fl_X12_29 s2 ea3 ?_
    refine ex_iload (q := 175) (x := v_10) dX12_copy_173 rfl ?_
    refine ex_aload_n (q := 176) (x := a_0) dX12_copy_175 rfl ?_
    obtain ⟨a4, ea4, w⟩ := w
    refine ex_getr (q := 179) dX12_copy_176 fl_X12_23 s2 ea4 ?_
    refine ex_sipush (q := 182) (v := 160) dX12_copy_179 (by decide) ?_
    refine ex_iload_n (q := 183) (x := v_1) dX12_copy_182 rfl ?_
    refine ex_imul (q := 184) dX12_copy_183 ?_
    refine ex_iconst (q := 185) (v := 4) dX12_copy_184 (by decide) ?_
    refine ex_iload_n (q := 186) (x := v_2) dX12_copy_185 rfl ?_
    refine ex_imul (q := 187) dX12_copy_186 ?_
    refine ex_iadd (q := 188) dX12_copy_187 ?_
    refine ex_iload_n (q := 189) (x := v_3) dX12_copy_188 rfl ?_
    refine ex_iadd (q := 190) dX12_copy_189 ?_
    refine ex_iload (q := 192) (x := v_10) dX12_copy_190 rfl ?_
    refine ex_iadd (q := 193) dX12_copy_192 ?_
    have s5 := w.1
    replace w := w.2
    refine ex_iald (q := 194) dX12_copy_193 s5 ?_
    have s7 := w.1
    replace w := w.2
    refine ex_iast (q := 195) dX12_copy_194 s7 ?_
    refine ex_nmh (fun h6 eh6 => ?_)
    replace w := w h6 eh6
    obtain ⟨x8, ex8⟩ : ∃ y : Int32, y = v_10 + 1 := ⟨_, rfl⟩
    replace w := w x8 ex8
    refine ex_iinc (q := 198) (x := v_10) (v := x8) (ls' := [.ref a_0, .int v_1, .int v_2, .int v_3, .int v_4, .int v_5, .int v_6, .int v_7, .retAddr 0, .retAddr 0, .int x8]) dX12_copy_195 rfl (by rw [ex8]; rfl) rfl ?_
    refine ex_goto (tgt := 162) dX12_copy_198 ?_
    exact w

set_option maxRecDepth 100000 in
theorem X12_copy_204 {d bc bs : Nat} {h : AH} {Q : Option Value → AH → Prop} {a_0 : Nat} {v_4 : Int32} {v_5 : Int32} {v_6 : Int32} {v_7 : Int32} {v_10 : Int32} (w : ((v_7 ≤ v_10 → ah_o h a_0 12 ∧ ∃ a3, ah_r h a_0 7 = some a3 ∧ st0 h a3 v_4 ∧ ∀ h4, h4 = ah_si h a3 (Int32.toNatClampNeg v_4) 0 → X12_well_C a_0 1 h4 ∧ ∀ h7, h7 = X12_well_H a_0 1 h4 → Q (some (.int (X12_well_V a_0 1 h4))) h7) ∧ (¬ v_7 ≤ v_10 → ah_o h a_0 12 ∧ ∃ a9, ah_r h a_0 5 = some a9 ∧ ∃ a10, ah_r h a_0 8 = some a10 ∧ ld0 h a10 v_10 ∧ st0 h a9 ((((160 * v_4) + (4 * v_5)) + v_6) + v_10) ∧ ∀ h12, h12 = ah_si h a9 (Int32.toNatClampNeg ((((160 * v_4) + (4 * v_5)) + v_6) + v_10)) (ah_i h a10 (Int32.toNatClampNeg v_10)) → ∀ x14, x14 = v_10 + 1 → ex_G mX12_copy (d + 2) 204 [.ref a_0, .retAddr 0, .retAddr 0, .retAddr 0, .int v_4, .int v_5, .int v_6, .int v_7, .retAddr 0, .retAddr 0, .int x14] [] h12 bc bs Q))) : ex_G mX12_copy (d + 2) 204 [.ref a_0, .retAddr 0, .retAddr 0, .retAddr 0, .int v_4, .int v_5, .int v_6, .int v_7, .retAddr 0, .retAddr 0, .int v_10] [] h bc bs Q := by
  refine ex_iload (q := 206) (x := v_10) dX12_copy_204 rfl ?_
  refine ex_iload (q := 208) (x := v_7) dX12_copy_206 rfl ?_
  refine ex_icmp_ge (tgt := 246) (q := 211) dX12_copy_208 (fun c1 => ?_) (fun c1 => ?_)
  · replace w := w.1 c1
    refine ex_aload_n (q := 247) (x := a_0) dX12_copy_246 rfl ?_
    have s2 := w.1
    replace w := w.2
    obtain ⟨a3, ea3, w⟩ := w
    refine ex_getr (q := 250) dX12_copy_247 fl_X12_26 s2 ea3 ?_
    refine ex_iload (q := 252) (x := v_4) dX12_copy_250 rfl ?_
    refine ex_iconst (q := 253) (v := 0) dX12_copy_252 (by decide) ?_
    have s5 := w.1
    replace w := w.2
    refine ex_iast (q := 254) dX12_copy_253 s5 ?_
    refine ex_nmh (fun h4 eh4 => ?_)
    replace w := w h4 eh4
    refine ex_aload_n (q := 255) (x := a_0) dX12_copy_254 rfl ?_
    refine ex_iconst (q := 256) (v := 1) dX12_copy_255 (by decide) ?_
    have s6 := w.1
    replace w := w.2
    refine ex_callV (q := 259) (M := mX12_copy) (hdd := Nat.le_refl _) (mc := 0) (ms := 0) (d' := (d + 1)) (c := 12) (st := []) (bc := bc) (bs := bs) dX12_copy_256 rfl cl_X12_180 wd_1585 wd_47 (by rw [eh4]; exact s2) (X12_well_s (Q := fun r z => r = some (.int (X12_well_V a_0 1 h4)) ∧ z = X12_well_H a_0 1 h4) s6 ⟨rfl, rfl⟩) ?_
    intro r z hrz
    rw [hrz.1, hrz.2]
    show ex_G mX12_copy (d + 2) 259 [.ref a_0, .retAddr 0, .retAddr 0, .retAddr 0, .int v_4, .int v_5, .int v_6, .int v_7, .retAddr 0, .retAddr 0, .int v_10] [.int (X12_well_V a_0 1 h4)] (X12_well_H a_0 1 h4) bc bs Q
    refine ex_nmh (fun h7 eh7 => ?_)
    replace w := w h7 eh7
    exact ex_ireturn dX12_copy_259 rfl (Or.inl rfl) w
  · replace w := w.2 c1
    refine ex_aload_n (q := 212) (x := a_0) dX12_copy_211 rfl ?_
    have s8 := w.1
    replace w := w.2
    obtain ⟨a9, ea9, w⟩ := w
    refine ex_getr (q := 215) dX12_copy_212 fl_X12_23 s8 ea9 ?_
    refine ex_sipush (q := 218) (v := 160) dX12_copy_215 (by decide) ?_
    refine ex_iload (q := 220) (x := v_4) dX12_copy_218 rfl ?_
    refine ex_imul (q := 221) dX12_copy_220 ?_
    refine ex_iconst (q := 222) (v := 4) dX12_copy_221 (by decide) ?_
    refine ex_iload (q := 224) (x := v_5) dX12_copy_222 rfl ?_
    refine ex_imul (q := 225) dX12_copy_224 ?_
    refine ex_iadd (q := 226) dX12_copy_225 ?_
    refine ex_iload (q := 228) (x := v_6) dX12_copy_226 rfl ?_
    refine ex_iadd (q := 229) dX12_copy_228 ?_
    refine ex_iload (q := 231) (x := v_10) dX12_copy_229 rfl ?_
    refine ex_iadd (q := 232) dX12_copy_231 ?_
    refine ex_aload_n (q := 233) (x := a_0) dX12_copy_232 rfl ?_
    obtain ⟨a10, ea10, w⟩ := w
    refine ex_getr (q := 236) dX12_copy_233 fl_X12_29 s8 ea10 ?_
    refine ex_iload (q := 238) (x := v_10) dX12_copy_236 rfl ?_
    have s11 := w.1
    replace w := w.2
    refine ex_iald (q := 239) dX12_copy_238 s11 ?_
    have s13 := w.1
    replace w := w.2
    refine ex_iast (q := 240) dX12_copy_239 s13 ?_
    refine ex_nmh (fun h12 eh12 => ?_)
    replace w := w h12 eh12
    obtain ⟨x14, ex14⟩ : ∃ y : Int32, y = v_10 + 1 := ⟨_, rfl⟩
    replace w := w x14 ex14
    refine ex_iinc (q := 243) (x := v_10) (v := x14) (ls' := [.ref a_0, .retAddr 0, .retAddr 0, .retAddr 0, .int v_4, .int v_5, .int v_6, .int v_7, .retAddr 0, .retAddr 0, .int x14]) dX12_copy_240 rfl (by rw [ex14]; rfl) rfl ?_
    refine ex_goto (tgt := 204) dX12_copy_243 ?_
    exact w

theorem X12_copy_e {d bc bs : Nat} {h : AH} {Q : Option Value → AH → Prop} {a_0 : Nat} {v_1 : Int32} {v_2 : Int32} {v_3 : Int32} {v_4 : Int32} {v_5 : Int32} {v_6 : Int32} {v_7 : Int32} (w : ex_G mX12_copy (d + 2) 0 [.ref a_0, .int v_1, .int v_2, .int v_3, .int v_4, .int v_5, .int v_6, .int v_7, .retAddr 0, .retAddr 0, .retAddr 0] [] h bc bs Q) : ex_S yX12_copy mX12_copy (d + 2) [.ref a_0, .int v_1, .int v_2, .int v_3, .int v_4, .int v_5, .int v_6, .int v_7] h bc bs Q :=
  ex_enter (plainFor_of_name (by decide +kernel)) ⟨rfl, rfl⟩ rfl rfl (Nat.le_of_ble_eq_true rfl) (ex_pad 3 w)

set_option maxRecDepth 100000 in
theorem X12_loose_0 {d bc bs : Nat} {h : AH} {Q : Option Value → AH → Prop} {a_0 : Nat} {v_1 : Int32} {v_2 : Int32} (w : ah_o h a_0 12 ∧ X12_isPicture_C a_0 v_1 h ∧ (((X12_isPicture_V a_0 v_1 h) = 0 → X12_no_C a_0 (-2) h ∧ ∀ h5, h5 = X12_no_H a_0 (-2) h → Q (some (.int (X12_no_V a_0 (-2) h))) h5) ∧ (¬ (X12_isPicture_V a_0 v_1 h) = 0 → ((¬ (X12_in_V (Int32.toInt64 v_2) 0 9 h) = 0 → ∃ a7, ah_r h a_0 3 = some a7 ∧ ld0 h a7 v_1 ∧ ∀ x9, x9 = ah_i h a7 (Int32.toNatClampNeg v_1) → st0 h a7 v_1 ∧ ∀ h10, h10 = ah_si h a7 (Int32.toNatClampNeg v_1) v_2 → ∃ a12, ah_r h10 a_0 7 = some a12 ∧ st0 h10 a12 v_1 ∧ ∀ h13, h13 = ah_si h10 a12 (Int32.toNatClampNeg v_1) 0 → X12_well_C a_0 x9 h13 ∧ ∀ h16, h16 = X12_well_H a_0 x9 h13 → Q (some (.int (X12_well_V a_0 x9 h13))) h16) ∧ ((X12_in_V (Int32.toInt64 v_2) 0 9 h) = 0 → X12_no_C a_0 (-2) h ∧ ∀ h18, h18 = X12_no_H a_0 (-2) h → Q (some (.int (X12_no_V a_0 (-2) h))) h18))))) : ex_G mX12_loose (d + 2) 0 [.ref a_0, .int v_1, .int v_2, .retAddr 0] [] h bc bs Q := by
  refine ex_aload_n (q := 1) (x := a_0) dX12_loose_0 rfl ?_
  refine ex_iload_n (q := 2) (x := v_1) dX12_loose_1 rfl ?_
  have s1 := w.1
  replace w := w.2
  have s2 := w.1
  replace w := w.2
  refine ex_callV (q := 5) (M := mX12_loose) (hdd := Nat.le_refl _) (mc := 0) (ms := 0) (d' := (d + 1)) (c := 12) (st := []) (bc := bc) (bs := bs) dX12_loose_2 rfl cl_X12_187 wd_1593 wd_48 s1 (X12_isPicture_s (Q := fun r z => r = some (.int (X12_isPicture_V a_0 v_1 h)) ∧ z = h) s2 ⟨rfl, rfl⟩) ?_
  intro r z hrz
  rw [hrz.1, hrz.2]
  show ex_G mX12_loose (d + 2) 5 [.ref a_0, .int v_1, .int v_2, .retAddr 0] [.int (X12_isPicture_V a_0 v_1 h)] (h) bc bs Q
  refine ex_if_eq (tgt := 20) (q := 8) dX12_loose_5 (fun c3 => ?_) (fun c3 => ?_)
  · replace w := w.1 c3
    refine ex_aload_n (q := 21) (x := a_0) dX12_loose_20 rfl ?_
    refine ex_bipush (q := 23) (v := (-2)) dX12_loose_21 (by decide) ?_
    have s4 := w.1
    replace w := w.2
    refine ex_callV (q := 26) (M := mX12_loose) (hdd := Nat.le_refl _) (mc := 0) (ms := 0) (d' := (d + 1)) (c := 12) (st := []) (bc := bc) (bs := bs) dX12_loose_23 rfl cl_X12_165 wd_1581 wd_46 s1 (X12_no_s (Q := fun r z => r = some (.int (X12_no_V a_0 (-2) h)) ∧ z = X12_no_H a_0 (-2) h) s4 ⟨rfl, rfl⟩) ?_
    intro r z hrz
    rw [hrz.1, hrz.2]
    show ex_G mX12_loose (d + 2) 26 [.ref a_0, .int v_1, .int v_2, .retAddr 0] [.int (X12_no_V a_0 (-2) h)] (X12_no_H a_0 (-2) h) bc bs Q
    refine ex_nmh (fun h5 eh5 => ?_)
    replace w := w h5 eh5
    exact ex_ireturn dX12_loose_26 rfl (Or.inl rfl) w
  · replace w := w.2 c3
    refine ex_iload_n (q := 9) (x := v_2) dX12_loose_8 rfl ?_
    refine ex_i2l (q := 10) dX12_loose_9 ?_
    refine ex_lconst (q := 11) (v := 0) dX12_loose_10 (by decide) ?_
    refine ex_ldc2_w (q := 14) (v := 9) dX12_loose_11 wd_1636 ?_
    refine ex_callS (q := 17) (M := mX12_loose) (hdd := Nat.le_refl _) (mc := 0) (ms := 0) (d' := (d + 1)) (st := []) (bc := bc) (bs := bs) dX12_loose_14 rfl cl_X12_172 wd_1596 (X12_in_s (Q := fun r z => r = some (.int (X12_in_V (Int32.toInt64 v_2) 0 9 h)) ∧ z = h) ⟨rfl, rfl⟩) ?_
    intro r z hrz
    rw [hrz.1, hrz.2]
    show ex_G mX12_loose (d + 2) 17 [.ref a_0, .int v_1, .int v_2, .retAddr 0] [.int (X12_in_V (Int32.toInt64 v_2) 0 9 h)] (h) bc bs Q
    refine ex_if_ne (tgt := 27) (q := 20) dX12_loose_17 (fun c6 => ?_) (fun c6 => ?_)
    · replace w := w.1 c6
      refine ex_aload_n (q := 28) (x := a_0) dX12_loose_27 rfl ?_
      obtain ⟨a7, ea7, w⟩ := w
      refine ex_getr (q := 31) dX12_loose_28 fl_X12_16 s1 ea7 ?_
      refine ex_iload_n (q := 32) (x := v_1) dX12_loose_31 rfl ?_
      have s8 := w.1
      replace w := w.2
      refine ex_iald (q := 33) dX12_loose_32 s8 ?_
      refine ex_nmi (fun x9 ex9 => ?_)
      replace w := w x9 ex9
      refine ex_istore_n (q := 34) (ls' := [.ref a_0, .int v_1, .int v_2, .int x9]) dX12_loose_33 rfl ?_
      refine ex_aload_n (q := 35) (x := a_0) dX12_loose_34 rfl ?_
      refine ex_getr (q := 38) dX12_loose_35 fl_X12_16 s1 ea7 ?_
      refine ex_iload_n (q := 39) (x := v_1) dX12_loose_38 rfl ?_
      refine ex_iload_n (q := 40) (x := v_2) dX12_loose_39 rfl ?_
      have s11 := w.1
      replace w := w.2
      refine ex_iast (q := 41) dX12_loose_40 s11 ?_
      refine ex_nmh (fun h10 eh10 => ?_)
      replace w := w h10 eh10
      refine ex_aload_n (q := 42) (x := a_0) dX12_loose_41 rfl ?_
      obtain ⟨a12, ea12, w⟩ := w
      refine ex_getr (q := 45) dX12_loose_42 fl_X12_26 (by rw [eh10]; exact s1) ea12 ?_
      refine ex_iload_n (q := 46) (x := v_1) dX12_loose_45 rfl ?_
      refine ex_iconst (q := 47) (v := 0) dX12_loose_46 (by decide) ?_
      have s14 := w.1
      replace w := w.2
      refine ex_iast (q := 48) dX12_loose_47 s14 ?_
      refine ex_nmh (fun h13 eh13 => ?_)
      replace w := w h13 eh13
      refine ex_aload_n (q := 49) (x := a_0) dX12_loose_48 rfl ?_
      refine ex_iload_n (q := 50) (x := x9) dX12_loose_49 rfl ?_
      have s15 := w.1
      replace w := w.2
      refine ex_callV (q := 53) (M := mX12_loose) (hdd := Nat.le_refl _) (mc := 0) (ms := 0) (d' := (d + 1)) (c := 12) (st := []) (bc := bc) (bs := bs) dX12_loose_50 rfl cl_X12_180 wd_1585 wd_47 (by rw [eh13]; exact (by rw [eh10]; exact s1)) (X12_well_s (Q := fun r z => r = some (.int (X12_well_V a_0 x9 h13)) ∧ z = X12_well_H a_0 x9 h13) s15 ⟨rfl, rfl⟩) ?_
      intro r z hrz
      rw [hrz.1, hrz.2]
      show ex_G mX12_loose (d + 2) 53 [.ref a_0, .int v_1, .int v_2, .int x9] [.int (X12_well_V a_0 x9 h13)] (X12_well_H a_0 x9 h13) bc bs Q
      refine ex_nmh (fun h16 eh16 => ?_)
      replace w := w h16 eh16
      exact ex_ireturn dX12_loose_53 rfl (Or.inl rfl) w
    · replace w := w.2 c6
      refine ex_aload_n (q := 21) (x := a_0) dX12_loose_20 rfl ?_
      refine ex_bipush (q := 23) (v := (-2)) dX12_loose_21 (by decide) ?_
      have s17 := w.1
      replace w := w.2
      refine ex_callV (q := 26) (M := mX12_loose) (hdd := Nat.le_refl _) (mc := 0) (ms := 0) (d' := (d + 1)) (c := 12) (st := []) (bc := bc) (bs := bs) dX12_loose_23 rfl cl_X12_165 wd_1581 wd_46 s1 (X12_no_s (Q := fun r z => r = some (.int (X12_no_V a_0 (-2) h)) ∧ z = X12_no_H a_0 (-2) h) s17 ⟨rfl, rfl⟩) ?_
      intro r z hrz
      rw [hrz.1, hrz.2]
      show ex_G mX12_loose (d + 2) 26 [.ref a_0, .int v_1, .int v_2, .retAddr 0] [.int (X12_no_V a_0 (-2) h)] (X12_no_H a_0 (-2) h) bc bs Q
      refine ex_nmh (fun h18 eh18 => ?_)
      replace w := w h18 eh18
      exact ex_ireturn dX12_loose_26 rfl (Or.inl rfl) w

theorem X12_loose_e {d bc bs : Nat} {h : AH} {Q : Option Value → AH → Prop} {a_0 : Nat} {v_1 : Int32} {v_2 : Int32} (w : ex_G mX12_loose (d + 2) 0 [.ref a_0, .int v_1, .int v_2, .retAddr 0] [] h bc bs Q) : ex_S yX12_loose mX12_loose (d + 2) [.ref a_0, .int v_1, .int v_2] h bc bs Q :=
  ex_enter (plainFor_of_name (by decide +kernel)) ⟨rfl, rfl⟩ rfl rfl (Nat.le_of_ble_eq_true rfl) (ex_pad 1 w)

set_option maxRecDepth 100000 in
theorem X12_link_0 {d bc bs : Nat} {h : AH} {Q : Option Value → AH → Prop} {a_0 : Nat} {v_1 : Int32} (w : ex_G mX12_link d 2 [.ref a_0, .int v_1, .int 0, .retAddr 0] [] h bc bs Q) : ex_G mX12_link d 0 [.ref a_0, .int v_1, .retAddr 0, .retAddr 0] [] h bc bs Q := by
  refine ex_iconst (q := 1) (v := 0) dX12_link_0 (by decide) ?_
  refine ex_istore_n (q := 2) (ls' := [.ref a_0, .int v_1, .int 0, .retAddr 0]) dX12_link_1 rfl ?_
  exact w

set_option maxRecDepth 100000 in
theorem X12_link_2 {d bc bs : Nat} {h : AH} {Q : Option Value → AH → Prop} {a_0 : Nat} {v_1 : Int32} {v_2 : Int32} (w : ((100 ≤ v_2 → ex_G mX12_link d 23 [.ref a_0, .int v_1, .int 0, .retAddr 0] [] h bc bs Q) ∧ (¬ 100 ≤ v_2 → ah_o h a_0 12 ∧ ∃ a3, ah_r h a_0 13 = some a3 ∧ st0 h a3 v_2 ∧ ∀ h4, h4 = ah_si h a3 (Int32.toNatClampNeg v_2) (-1) → ∀ x6, x6 = v_2 + 1 → ex_G mX12_link d 2 [.ref a_0, .int v_1, .int x6, .retAddr 0] [] h4 bc bs Q))) : ex_G mX12_link d 2 [.ref a_0, .int v_1, .int v_2, .retAddr 0] [] h bc bs Q := by
  refine ex_iload_n (q := 3) (x := v_2) dX12_link_2 rfl ?_
  refine ex_bipush (q := 5) (v := 100) dX12_link_3 (by decide) ?_
  refine ex_icmp_ge (tgt := 21) (q := 8) dX12_link_5 (fun c1 => ?_) (fun c1 => ?_)
  · replace w := w.1 c1
    refine ex_iconst (q := 22) (v := 0) dX12_link_21 (by decide) ?_
    refine ex_istore_n (q := 23) (ls' := [.ref a_0, .int v_1, .int 0, .retAddr 0]) dX12_link_22 rfl ?_
    exact w
  · replace w := w.2 c1
    refine ex_aload_n (q := 9) (x := a_0) dX12_link_8 rfl ?_
    have s2 := w.1
    replace w := w.2
    obtain ⟨a3, ea3, w⟩ := w
    refine ex_getr (q := 12) dX12_link_9 fl_X12_46 s2 ea3 ?_
    refine ex_iload_n (q := 13) (x := v_2) dX12_link_12 rfl ?_
    refine ex_iconst (q := 14) (v := (-1)) dX12_link_13 (by decide) ?_
    have s5 := w.1
    replace w := w.2
    refine ex_iast (q := 15) dX12_link_14 s5 ?_
    refine ex_nmh (fun h4 eh4 => ?_)
    replace w := w h4 eh4
    obtain ⟨x6, ex6⟩ : ∃ y : Int32, y = v_2 + 1 := ⟨_, rfl⟩
    replace w := w x6 ex6
    refine ex_iinc (q := 18) (x := v_2) (v := x6) (ls' := [.ref a_0, .int v_1, .int x6, .retAddr 0]) dX12_link_15 rfl (by rw [ex6]; rfl) rfl ?_
    refine ex_goto (tgt := 2) dX12_link_18 ?_
    exact w

set_option maxRecDepth 100000 in
theorem X12_link_23 {d bc bs : Nat} {h : AH} {Q : Option Value → AH → Prop} {a_0 : Nat} {v_1 : Int32} {v_2 : Int32} (w : ah_o h a_0 12 ∧ ∃ a2, ah_r h a_0 2 = some a2 ∧ ld0 h a2 v_1 ∧ (((4 * (ah_i h a2 (Int32.toNatClampNeg v_1))) ≤ v_2 → Q none h) ∧ (¬ (4 * (ah_i h a2 (Int32.toNatClampNeg v_1))) ≤ v_2 → ∃ a5, ah_r h a_0 5 = some a5 ∧ ld0 h a5 ((160 * v_1) + v_2) ∧ ∀ x7, x7 = ah_i h a5 (Int32.toNatClampNeg ((160 * v_1) + v_2)) → ∃ a8, ah_r h a_0 13 = some a8 ∧ ld0 h a8 x7 ∧ ((¬ (ah_i h a8 (Int32.toNatClampNeg x7)) = (-1) → ∃ a11, ah_r h a_0 10 = some a11 ∧ st0 h a11 v_2 ∧ ∀ h12, h12 = ah_si h a11 (Int32.toNatClampNeg v_2) (ah_i h a8 (Int32.toNatClampNeg x7)) → st0 h12 a11 (ah_i h12 a8 (Int32.toNatClampNeg x7)) ∧ ∀ h14, h14 = ah_si h12 a11 (Int32.toNatClampNeg (ah_i h12 a8 (Int32.toNatClampNeg x7))) v_2 → ∀ x16, x16 = v_2 + 1 → ex_G mX12_link d 23 [.ref a_0, .int v_1, .int x16, .retAddr 0] [] h14 bc bs Q) ∧ ((ah_i h a8 (Int32.toNatClampNeg x7)) = (-1) → st0 h a8 x7 ∧ ∀ h17, h17 = ah_si h a8 (Int32.toNatClampNeg x7) v_2 → ∀ x19, x19 = v_2 + 1 → ex_G mX12_link d 23 [.ref a_0, .int v_1, .int x19, .retAddr 0] [] h17 bc bs Q))))) : ex_G mX12_link d 23 [.ref a_0, .int v_1, .int v_2, .retAddr 0] [] h bc bs Q := by
  refine ex_iload_n (q := 24) (x := v_2) dX12_link_23 rfl ?_
  refine ex_iconst (q := 25) (v := 4) dX12_link_24 (by decide) ?_
  refine ex_aload_n (q := 26) (x := a_0) dX12_link_25 rfl ?_
  have s1 := w.1
  replace w := w.2
  obtain ⟨a2, ea2, w⟩ := w
  refine ex_getr (q := 29) dX12_link_26 fl_X12_13 s1 ea2 ?_
  refine ex_iload_n (q := 30) (x := v_1) dX12_link_29 rfl ?_
  have s3 := w.1
  replace w := w.2
  refine ex_iald (q := 31) dX12_link_30 s3 ?_
  refine ex_imul (q := 32) dX12_link_31 ?_
  refine ex_icmp_ge (tgt := 98) (q := 35) dX12_link_32 (fun c4 => ?_) (fun c4 => ?_)
  · replace w := w.1 c4
    exact ex_return dX12_link_98 w
  · replace w := w.2 c4
    refine ex_aload_n (q := 36) (x := a_0) dX12_link_35 rfl ?_
    obtain ⟨a5, ea5, w⟩ := w
    refine ex_getr (q := 39) dX12_link_36 fl_X12_23 s1 ea5 ?_
    refine ex_sipush (q := 42) (v := 160) dX12_link_39 (by decide) ?_
    refine ex_iload_n (q := 43) (x := v_1) dX12_link_42 rfl ?_
    refine ex_imul (q := 44) dX12_link_43 ?_
    refine ex_iload_n (q := 45) (x := v_2) dX12_link_44 rfl ?_
    refine ex_iadd (q := 46) dX12_link_45 ?_
    have s6 := w.1
    replace w := w.2
    refine ex_iald (q := 47) dX12_link_46 s6 ?_
    refine ex_nmi (fun x7 ex7 => ?_)
    replace w := w x7 ex7
    refine ex_istore_n (q := 48) (ls' := [.ref a_0, .int v_1, .int v_2, .int x7]) dX12_link_47 rfl ?_
    refine ex_aload_n (q := 49) (x := a_0) dX12_link_48 rfl ?_
    obtain ⟨a8, ea8, w⟩ := w
    refine ex_getr (q := 52) dX12_link_49 fl_X12_46 s1 ea8 ?_
    refine ex_iload_n (q := 53) (x := x7) dX12_link_52 rfl ?_
    have s9 := w.1
    replace w := w.2
    refine ex_iald (q := 54) dX12_link_53 s9 ?_
    refine ex_iconst (q := 55) (v := (-1)) dX12_link_54 (by decide) ?_
    refine ex_icmp_ne (tgt := 68) (q := 58) dX12_link_55 (fun c10 => ?_) (fun c10 => ?_)
    · replace w := w.1 c10
      refine ex_aload_n (q := 69) (x := a_0) dX12_link_68 rfl ?_
      obtain ⟨a11, ea11, w⟩ := w
      refine ex_getr (q := 72) dX12_link_69 fl_X12_36 s1 ea11 ?_
      refine ex_iload_n (q := 73) (x := v_2) dX12_link_72 rfl ?_
      refine ex_aload_n (q := 74) (x := a_0) dX12_link_73 rfl ?_
      refine ex_getr (q := 77) dX12_link_74 fl_X12_46 s1 ea8 ?_
      refine ex_iload_n (q := 78) (x := x7) dX12_link_77 rfl ?_
      refine ex_iald (q := 79) dX12_link_78 s9 ?_
      have s13 := w.1
      replace w := w.2
      refine ex_iast (q := 80) dX12_link_79 s13 ?_
      refine ex_nmh (fun h12 eh12 => ?_)
      replace w := w h12 eh12
      refine ex_aload_n (q := 81) (x := a_0) dX12_link_80 rfl ?_
      refine ex_getr (q := 84) dX12_link_81 fl_X12_36 (by rw [eh12]; exact s1) (by rw [eh12]; exact ea11) ?_
      refine ex_aload_n (q := 85) (x := a_0) dX12_link_84 rfl ?_
      refine ex_getr (q := 88) dX12_link_85 fl_X12_46 (by rw [eh12]; exact s1) (by rw [eh12]; exact ea8) ?_
      refine ex_iload_n (q := 89) (x := x7) dX12_link_88 rfl ?_
      refine ex_iald (q := 90) dX12_link_89 (by rw [eh12]; exact s9) ?_
      refine ex_iload_n (q := 91) (x := v_2) dX12_link_90 rfl ?_
      have s15 := w.1
      replace w := w.2
      refine ex_iast (q := 92) dX12_link_91 s15 ?_
      refine ex_nmh (fun h14 eh14 => ?_)
      replace w := w h14 eh14
      obtain ⟨x16, ex16⟩ : ∃ y : Int32, y = v_2 + 1 := ⟨_, rfl⟩
      replace w := w x16 ex16
      refine ex_iinc (q := 95) (x := v_2) (v := x16) (ls' := [.ref a_0, .int v_1, .int x16, .int x7]) dX12_link_92 rfl (by rw [ex16]; rfl) rfl ?_
      refine ex_goto (tgt := 23) dX12_link_95 ?_
      refine ex_kill 3 (ls' := [.ref a_0, .int v_1, .int x16, .retAddr 0]) rfl ?_
      exact w
    · replace w := w.2 c10
      refine ex_aload_n (q := 59) (x := a_0) dX12_link_58 rfl ?_
      refine ex_getr (q := 62) dX12_link_59 fl_X12_46 s1 ea8 ?_
      refine ex_iload_n (q := 63) (x := x7) dX12_link_62 rfl ?_
      refine ex_iload_n (q := 64) (x := v_2) dX12_link_63 rfl ?_
      have s18 := w.1
      replace w := w.2
      refine ex_iast (q := 65) dX12_link_64 s18 ?_
      refine ex_nmh (fun h17 eh17 => ?_)
      replace w := w h17 eh17
      refine ex_goto (tgt := 92) dX12_link_65 ?_
      obtain ⟨x19, ex19⟩ : ∃ y : Int32, y = v_2 + 1 := ⟨_, rfl⟩
      replace w := w x19 ex19
      refine ex_iinc (q := 95) (x := v_2) (v := x19) (ls' := [.ref a_0, .int v_1, .int x19, .int x7]) dX12_link_92 rfl (by rw [ex19]; rfl) rfl ?_
      refine ex_goto (tgt := 23) dX12_link_95 ?_
      refine ex_kill 3 (ls' := [.ref a_0, .int v_1, .int x19, .retAddr 0]) rfl ?_
      exact w

theorem X12_link_e {d bc bs : Nat} {h : AH} {Q : Option Value → AH → Prop} {a_0 : Nat} {v_1 : Int32} (w : ex_G mX12_link d 0 [.ref a_0, .int v_1, .retAddr 0, .retAddr 0] [] h bc bs Q) : ex_S yX12_link mX12_link d [.ref a_0, .int v_1] h bc bs Q :=
  ex_enter (plainFor_of_name (by decide +kernel)) ⟨rfl, rfl⟩ rfl rfl (Nat.le_of_ble_eq_true rfl) (ex_pad 2 w)

set_option maxRecDepth 100000 in
theorem X12_facesOf_0 {d bc bs : Nat} {h : AH} {Q : Option Value → AH → Prop} {a_0 : Nat} {v_1 : Int32} (w : ex_G mX12_facesOf (d + 2) 4 [.ref a_0, .int v_1, .int 0, .int 0, .retAddr 0] [] h bc bs Q) : ex_G mX12_facesOf (d + 2) 0 [.ref a_0, .int v_1, .retAddr 0, .retAddr 0, .retAddr 0] [] h bc bs Q := by
  refine ex_iconst (q := 1) (v := 0) dX12_facesOf_0 (by decide) ?_
  refine ex_istore_n (q := 2) (ls' := [.ref a_0, .int v_1, .int 0, .retAddr 0, .retAddr 0]) dX12_facesOf_1 rfl ?_
  refine ex_iconst (q := 3) (v := 0) dX12_facesOf_2 (by decide) ?_
  refine ex_istore_n (q := 4) (ls' := [.ref a_0, .int v_1, .int 0, .int 0, .retAddr 0]) dX12_facesOf_3 rfl ?_
  exact w

set_option maxRecDepth 100000 in
theorem X12_facesOf_4 {d bc bs : Nat} {h : AH} {Q : Option Value → AH → Prop} {a_0 : Nat} {v_1 : Int32} {v_2 : Int32} {v_3 : Int32} (w : ah_o h a_0 12 ∧ ∃ a2, ah_r h a_0 2 = some a2 ∧ ld0 h a2 v_1 ∧ (((4 * (ah_i h a2 (Int32.toNatClampNeg v_1))) ≤ v_3 → ex_G mX12_facesOf (d + 2) 31 [.ref a_0, .int v_1, .int v_2, .int 0, .retAddr 0] [] h bc bs Q) ∧ (¬ (4 * (ah_i h a2 (Int32.toNatClampNeg v_1))) ≤ v_3 → ∃ a5, ah_r h a_0 12 = some a5 ∧ ld1 h a5 v_3 ∧ ∀ h6, h6 = ah_si h a5 (Int32.toNatClampNeg v_3) 0 → ∀ x8, x8 = v_3 + 1 → ex_G mX12_facesOf (d + 2) 4 [.ref a_0, .int v_1, .int v_2, .int x8, .retAddr 0] [] h6 bc bs Q))) : ex_G mX12_facesOf (d + 2) 4 [.ref a_0, .int v_1, .int v_2, .int v_3, .retAddr 0] [] h bc bs Q := by
  refine ex_iload_n (q := 5) (x := v_3) dX12_facesOf_4 rfl ?_
  refine ex_iconst (q := 6) (v := 4) dX12_facesOf_5 (by decide) ?_
  refine ex_aload_n (q := 7) (x := a_0) dX12_facesOf_6 rfl ?_
  have s1 := w.1
  replace w := w.2
  obtain ⟨a2, ea2, w⟩ := w
  refine ex_getr (q := 10) dX12_facesOf_7 fl_X12_13 s1 ea2 ?_
  refine ex_iload_n (q := 11) (x := v_1) dX12_facesOf_10 rfl ?_
  have s3 := w.1
  replace w := w.2
  refine ex_iald (q := 12) dX12_facesOf_11 s3 ?_
  refine ex_imul (q := 13) dX12_facesOf_12 ?_
  refine ex_icmp_ge (tgt := 29) (q := 16) dX12_facesOf_13 (fun c4 => ?_) (fun c4 => ?_)
  · replace w := w.1 c4
    refine ex_iconst (q := 30) (v := 0) dX12_facesOf_29 (by decide) ?_
    refine ex_istore_n (q := 31) (ls' := [.ref a_0, .int v_1, .int v_2, .int 0, .retAddr 0]) dX12_facesOf_30 rfl ?_
    exact w
  · replace w := w.2 c4
    refine ex_aload_n (q := 17) (x := a_0) dX12_facesOf_16 rfl ?_
    obtain ⟨a5, ea5, w⟩ := w
    refine ex_getr (q := 20) dX12_facesOf_17 fl_X12_42 s1 ea5 ?_
    refine ex_iload_n (q := 21) (x := v_3) dX12_facesOf_20 rfl ?_
    refine ex_iconst (q := 22) (v := 0) dX12_facesOf_21 (by decide) ?_
    have s7 := w.1
    replace w := w.2
    refine ex_bast (q := 23) dX12_facesOf_22 s7 (Or.inl rfl) ?_
    refine ex_nmh (fun h6 eh6 => ?_)
    replace w := w h6 eh6
    obtain ⟨x8, ex8⟩ : ∃ y : Int32, y = v_3 + 1 := ⟨_, rfl⟩
    replace w := w x8 ex8
    refine ex_iinc (q := 26) (x := v_3) (v := x8) (ls' := [.ref a_0, .int v_1, .int v_2, .int x8, .retAddr 0]) dX12_facesOf_23 rfl (by rw [ex8]; rfl) rfl ?_
    refine ex_goto (tgt := 4) dX12_facesOf_26 ?_
    exact w

set_option maxRecDepth 100000 in
theorem X12_facesOf_31 {d bc bs : Nat} {h : AH} {Q : Option Value → AH → Prop} {a_0 : Nat} {v_1 : Int32} {v_2 : Int32} {v_3 : Int32} (w : ah_o h a_0 12 ∧ ∃ a2, ah_r h a_0 2 = some a2 ∧ ld0 h a2 v_1 ∧ (((4 * (ah_i h a2 (Int32.toNatClampNeg v_1))) ≤ v_3 → Q (some (.int v_2)) h) ∧ (¬ (4 * (ah_i h a2 (Int32.toNatClampNeg v_1))) ≤ v_3 → ∃ a5, ah_r h a_0 12 = some a5 ∧ ld1 h a5 v_3 ∧ (((ah_i h a5 (Int32.toNatClampNeg v_3)) = 0 → ∀ x8, x8 = v_2 + 1 → ex_G mX12_facesOf (d + 2) 63 [.ref a_0, .int v_1, .int x8, .int v_3, .int v_3] [] h bc bs Q) ∧ (¬ (ah_i h a5 (Int32.toNatClampNeg v_3)) = 0 → ∀ x9, x9 = v_2 + 0 → ex_G mX12_facesOf (d + 2) 63 [.ref a_0, .int v_1, .int x9, .int v_3, .int v_3] [] h bc bs Q))))) : ex_G mX12_facesOf (d + 2) 31 [.ref a_0, .int v_1, .int v_2, .int v_3, .retAddr 0] [] h bc bs Q := by
  refine ex_iload_n (q := 32) (x := v_3) dX12_facesOf_31 rfl ?_
  refine ex_iconst (q := 33) (v := 4) dX12_facesOf_32 (by decide) ?_
  refine ex_aload_n (q := 34) (x := a_0) dX12_facesOf_33 rfl ?_
  have s1 := w.1
  replace w := w.2
  obtain ⟨a2, ea2, w⟩ := w
  refine ex_getr (q := 37) dX12_facesOf_34 fl_X12_13 s1 ea2 ?_
  refine ex_iload_n (q := 38) (x := v_1) dX12_facesOf_37 rfl ?_
  have s3 := w.1
  replace w := w.2
  refine ex_iald (q := 39) dX12_facesOf_38 s3 ?_
  refine ex_imul (q := 40) dX12_facesOf_39 ?_
  refine ex_icmp_ge (tgt := 98) (q := 43) dX12_facesOf_40 (fun c4 => ?_) (fun c4 => ?_)
  · replace w := w.1 c4
    refine ex_iload_n (q := 99) (x := v_2) dX12_facesOf_98 rfl ?_
    exact ex_ireturn dX12_facesOf_99 rfl (Or.inl rfl) w
  · replace w := w.2 c4
    refine ex_iload_n (q := 44) (x := v_2) dX12_facesOf_43 rfl ?_
    refine ex_aload_n (q := 45) (x := a_0) dX12_facesOf_44 rfl ?_
    obtain ⟨a5, ea5, w⟩ := w
    refine ex_getr (q := 48) dX12_facesOf_45 fl_X12_42 s1 ea5 ?_
    refine ex_iload_n (q := 49) (x := v_3) dX12_facesOf_48 rfl ?_
    have s6 := w.1
    replace w := w.2
    refine ex_bald (q := 50) dX12_facesOf_49 s6 ?_
    refine ex_if_eq (tgt := 57) (q := 53) dX12_facesOf_50 (fun c7 => ?_) (fun c7 => ?_)
    · replace w := w.1 c7
      refine ex_iconst (q := 58) (v := 1) dX12_facesOf_57 (by decide) ?_
      refine ex_iadd (q := 59) dX12_facesOf_58 ?_
      refine ex_nmi (fun x8 ex8 => ?_)
      replace w := w x8 ex8
      refine ex_istore_n (q := 60) (ls' := [.ref a_0, .int v_1, .int x8, .int v_3, .retAddr 0]) dX12_facesOf_59 rfl ?_
      refine ex_iload_n (q := 61) (x := v_3) dX12_facesOf_60 rfl ?_
      refine ex_istore (q := 63) (ls' := [.ref a_0, .int v_1, .int x8, .int v_3, .int v_3]) dX12_facesOf_61 rfl ?_
      exact w
    · replace w := w.2 c7
      refine ex_iconst (q := 54) (v := 0) dX12_facesOf_53 (by decide) ?_
      refine ex_goto (tgt := 58) dX12_facesOf_54 ?_
      refine ex_iadd (q := 59) dX12_facesOf_58 ?_
      refine ex_nmi (fun x9 ex9 => ?_)
      replace w := w x9 ex9
      refine ex_istore_n (q := 60) (ls' := [.ref a_0, .int v_1, .int x9, .int v_3, .retAddr 0]) dX12_facesOf_59 rfl ?_
      refine ex_iload_n (q := 61) (x := v_3) dX12_facesOf_60 rfl ?_
      refine ex_istore (q := 63) (ls' := [.ref a_0, .int v_1, .int x9, .int v_3, .int v_3]) dX12_facesOf_61 rfl ?_
      exact w

set_option maxRecDepth 100000 in
theorem X12_facesOf_63 {d bc bs : Nat} {h : AH} {Q : Option Value → AH → Prop} {a_0 : Nat} {v_1 : Int32} {v_2 : Int32} {v_3 : Int32} {v_4 : Int32} (w : ah_o h a_0 12 ∧ ∃ a2, ah_r h a_0 12 = some a2 ∧ ld1 h a2 v_4 ∧ ((¬ (ah_i h a2 (Int32.toNatClampNeg v_4)) = 0 → ∀ x5, x5 = v_3 + 1 → ex_G mX12_facesOf (d + 2) 31 [.ref a_0, .int v_1, .int v_2, .int x5, .retAddr 0] [] h bc bs Q) ∧ ((ah_i h a2 (Int32.toNatClampNeg v_4)) = 0 → ∀ h6, h6 = ah_si h a2 (Int32.toNatClampNeg v_4) 1 → X12_nextOfFace_C a_0 v_4 h6 ∧ ∀ x8, x8 = X12_nextOfFace_V a_0 v_4 h6 → ex_G mX12_facesOf (d + 2) 63 [.ref a_0, .int v_1, .int v_2, .int v_3, .int x8] [] h6 bc bs Q))) : ex_G mX12_facesOf (d + 2) 63 [.ref a_0, .int v_1, .int v_2, .int v_3, .int v_4] [] h bc bs Q := by
  refine ex_aload_n (q := 64) (x := a_0) dX12_facesOf_63 rfl ?_
  have s1 := w.1
  replace w := w.2
  obtain ⟨a2, ea2, w⟩ := w
  refine ex_getr (q := 67) dX12_facesOf_64 fl_X12_42 s1 ea2 ?_
  refine ex_iload (q := 69) (x := v_4) dX12_facesOf_67 rfl ?_
  have s3 := w.1
  replace w := w.2
  refine ex_bald (q := 70) dX12_facesOf_69 s3 ?_
  refine ex_if_ne (tgt := 92) (q := 73) dX12_facesOf_70 (fun c4 => ?_) (fun c4 => ?_)
  · replace w := w.1 c4
    obtain ⟨x5, ex5⟩ : ∃ y : Int32, y = v_3 + 1 := ⟨_, rfl⟩
    replace w := w x5 ex5
    refine ex_iinc (q := 95) (x := v_3) (v := x5) (ls' := [.ref a_0, .int v_1, .int v_2, .int x5, .int v_4]) dX12_facesOf_92 rfl (by rw [ex5]; rfl) rfl ?_
    refine ex_goto (tgt := 31) dX12_facesOf_95 ?_
    refine ex_kill 4 (ls' := [.ref a_0, .int v_1, .int v_2, .int x5, .retAddr 0]) rfl ?_
    exact w
  · replace w := w.2 c4
    refine ex_aload_n (q := 74) (x := a_0) dX12_facesOf_73 rfl ?_
    refine ex_getr (q := 77) dX12_facesOf_74 fl_X12_42 s1 ea2 ?_
    refine ex_iload (q := 79) (x := v_4) dX12_facesOf_77 rfl ?_
    refine ex_iconst (q := 80) (v := 1) dX12_facesOf_79 (by decide) ?_
    refine ex_bast (q := 81) dX12_facesOf_80 s3 (Or.inr rfl) ?_
    refine ex_nmh (fun h6 eh6 => ?_)
    replace w := w h6 eh6
    refine ex_aload_n (q := 82) (x := a_0) dX12_facesOf_81 rfl ?_
    refine ex_iload (q := 84) (x := v_4) dX12_facesOf_82 rfl ?_
    have s7 := w.1
    replace w := w.2
    refine ex_callV (q := 87) (M := mX12_facesOf) (hdd := Nat.le_refl _) (mc := 0) (ms := 0) (d' := (d + 1)) (c := 12) (st := []) (bc := bc) (bs := bs) dX12_facesOf_84 rfl cl_X12_213 wd_1655 wd_55 (by rw [eh6]; exact s1) (X12_nextOfFace_s (Q := fun r z => r = some (.int (X12_nextOfFace_V a_0 v_4 h6)) ∧ z = h6) s7 ⟨rfl, rfl⟩) ?_
    intro r z hrz
    rw [hrz.1, hrz.2]
    show ex_G mX12_facesOf (d + 2) 87 [.ref a_0, .int v_1, .int v_2, .int v_3, .int v_4] [.int (X12_nextOfFace_V a_0 v_4 h6)] (h6) bc bs Q
    refine ex_nmi (fun x8 ex8 => ?_)
    replace w := w x8 ex8
    refine ex_istore (q := 89) (ls' := [.ref a_0, .int v_1, .int v_2, .int v_3, .int x8]) dX12_facesOf_87 rfl ?_
    refine ex_goto (tgt := 63) dX12_facesOf_89 ?_
    exact w

theorem X12_facesOf_e {d bc bs : Nat} {h : AH} {Q : Option Value → AH → Prop} {a_0 : Nat} {v_1 : Int32} (w : ex_G mX12_facesOf (d + 2) 0 [.ref a_0, .int v_1, .retAddr 0, .retAddr 0, .retAddr 0] [] h bc bs Q) : ex_S yX12_facesOf mX12_facesOf (d + 2) [.ref a_0, .int v_1] h bc bs Q :=
  ex_enter (plainFor_of_name (by decide +kernel)) ⟨rfl, rfl⟩ rfl rfl (Nat.le_of_ble_eq_true rfl) (ex_pad 3 w)

set_option maxRecDepth 100000 in
theorem X12_partsOf_0 {d bc bs : Nat} {h : AH} {Q : Option Value → AH → Prop} {a_0 : Nat} {v_1 : Int32} (w : ex_G mX12_partsOf d 2 [.ref a_0, .int v_1, .int 0, .retAddr 0, .retAddr 0] [] h bc bs Q) : ex_G mX12_partsOf d 0 [.ref a_0, .int v_1, .retAddr 0, .retAddr 0, .retAddr 0] [] h bc bs Q := by
  refine ex_iconst (q := 1) (v := 0) dX12_partsOf_0 (by decide) ?_
  refine ex_istore_n (q := 2) (ls' := [.ref a_0, .int v_1, .int 0, .retAddr 0, .retAddr 0]) dX12_partsOf_1 rfl ?_
  exact w

set_option maxRecDepth 100000 in
theorem X12_partsOf_2 {d bc bs : Nat} {h : AH} {Q : Option Value → AH → Prop} {a_0 : Nat} {v_1 : Int32} {v_2 : Int32} (w : ah_o h a_0 12 ∧ ∃ a2, ah_r h a_0 2 = some a2 ∧ ld0 h a2 v_1 ∧ (((ah_i h a2 (Int32.toNatClampNeg v_1)) ≤ v_2 → ex_G mX12_partsOf d 27 [.ref a_0, .int v_1, .int 1, .retAddr 0, .retAddr 0] [] h bc bs Q) ∧ (¬ (ah_i h a2 (Int32.toNatClampNeg v_1)) ≤ v_2 → ∃ a5, ah_r h a_0 11 = some a5 ∧ st0 h a5 v_2 ∧ ∀ h6, h6 = ah_si h a5 (Int32.toNatClampNeg v_2) v_2 → ∀ x8, x8 = v_2 + 1 → ex_G mX12_partsOf d 2 [.ref a_0, .int v_1, .int x8, .retAddr 0, .retAddr 0] [] h6 bc bs Q))) : ex_G mX12_partsOf d 2 [.ref a_0, .int v_1, .int v_2, .retAddr 0, .retAddr 0] [] h bc bs Q := by
  refine ex_iload_n (q := 3) (x := v_2) dX12_partsOf_2 rfl ?_
  refine ex_aload_n (q := 4) (x := a_0) dX12_partsOf_3 rfl ?_
  have s1 := w.1
  replace w := w.2
  obtain ⟨a2, ea2, w⟩ := w
  refine ex_getr (q := 7) dX12_partsOf_4 fl_X12_13 s1 ea2 ?_
  refine ex_iload_n (q := 8) (x := v_1) dX12_partsOf_7 rfl ?_
  have s3 := w.1
  replace w := w.2
  refine ex_iald (q := 9) dX12_partsOf_8 s3 ?_
  refine ex_icmp_ge (tgt := 25) (q := 12) dX12_partsOf_9 (fun c4 => ?_) (fun c4 => ?_)
  · replace w := w.1 c4
    refine ex_iconst (q := 26) (v := 1) dX12_partsOf_25 (by decide) ?_
    refine ex_istore_n (q := 27) (ls' := [.ref a_0, .int v_1, .int 1, .retAddr 0, .retAddr 0]) dX12_partsOf_26 rfl ?_
    exact w
  · replace w := w.2 c4
    refine ex_aload_n (q := 13) (x := a_0) dX12_partsOf_12 rfl ?_
    obtain ⟨a5, ea5, w⟩ := w
    refine ex_getr (q := 16) dX12_partsOf_13 fl_X12_39 s1 ea5 ?_
    refine ex_iload_n (q := 17) (x := v_2) dX12_partsOf_16 rfl ?_
    refine ex_iload_n (q := 18) (x := v_2) dX12_partsOf_17 rfl ?_
    have s7 := w.1
    replace w := w.2
    refine ex_iast (q := 19) dX12_partsOf_18 s7 ?_
    refine ex_nmh (fun h6 eh6 => ?_)
    replace w := w h6 eh6
    obtain ⟨x8, ex8⟩ : ∃ y : Int32, y = v_2 + 1 := ⟨_, rfl⟩
    replace w := w x8 ex8
    refine ex_iinc (q := 22) (x := v_2) (v := x8) (ls' := [.ref a_0, .int v_1, .int x8, .retAddr 0, .retAddr 0]) dX12_partsOf_19 rfl (by rw [ex8]; rfl) rfl ?_
    refine ex_goto (tgt := 2) dX12_partsOf_22 ?_
    exact w

set_option maxRecDepth 100000 in
theorem X12_partsOf_27 {d bc bs : Nat} {h : AH} {Q : Option Value → AH → Prop} {a_0 : Nat} {v_1 : Int32} {v_2 : Int32} (w : ((v_2 = 0 → ex_G mX12_partsOf d 101 [.ref a_0, .int v_1, .retAddr 0, .int 0, .int 0] [] h bc bs Q) ∧ (¬ v_2 = 0 → ex_G mX12_partsOf d 35 [.ref a_0, .int v_1, .int 0, .int 0, .retAddr 0] [] h bc bs Q))) : ex_G mX12_partsOf d 27 [.ref a_0, .int v_1, .int v_2, .retAddr 0, .retAddr 0] [] h bc bs Q := by
  refine ex_iload_n (q := 28) (x := v_2) dX12_partsOf_27 rfl ?_
  refine ex_if_eq (tgt := 96) (q := 31) dX12_partsOf_28 (fun c1 => ?_) (fun c1 => ?_)
  · replace w := w.1 c1
    refine ex_iconst (q := 97) (v := 0) dX12_partsOf_96 (by decide) ?_
    refine ex_istore_n (q := 98) (ls' := [.ref a_0, .int v_1, .int v_2, .int 0, .retAddr 0]) dX12_partsOf_97 rfl ?_
    refine ex_iconst (q := 99) (v := 0) dX12_partsOf_98 (by decide) ?_
    refine ex_istore (q := 101) (ls' := [.ref a_0, .int v_1, .int v_2, .int 0, .int 0]) dX12_partsOf_99 rfl ?_
    refine ex_kill 2 (ls' := [.ref a_0, .int v_1, .retAddr 0, .int 0, .int 0]) rfl ?_
    exact w
  · replace w := w.2 c1
    refine ex_iconst (q := 32) (v := 0) dX12_partsOf_31 (by decide) ?_
    refine ex_istore_n (q := 33) (ls' := [.ref a_0, .int v_1, .int 0, .retAddr 0, .retAddr 0]) dX12_partsOf_32 rfl ?_
    refine ex_iconst (q := 34) (v := 0) dX12_partsOf_33 (by decide) ?_
    refine ex_istore_n (q := 35) (ls' := [.ref a_0, .int v_1, .int 0, .int 0, .retAddr 0]) dX12_partsOf_34 rfl ?_
    exact w

set_option maxRecDepth 100000 in
theorem X12_partsOf_35 {d bc bs : Nat} {h : AH} {Q : Option Value → AH → Prop} {a_0 : Nat} {v_1 : Int32} {v_2 : Int32} {v_3 : Int32} (w : ah_o h a_0 12 ∧ ∃ a2, ah_r h a_0 2 = some a2 ∧ ld0 h a2 v_1 ∧ (((4 * (ah_i h a2 (Int32.toNatClampNeg v_1))) ≤ v_3 → ex_G mX12_partsOf d 27 [.ref a_0, .int v_1, .int v_2, .retAddr 0, .retAddr 0] [] h bc bs Q) ∧ (¬ (4 * (ah_i h a2 (Int32.toNatClampNeg v_1))) ≤ v_3 → ∃ a5, ah_r h a_0 11 = some a5 ∧ ∃ a6, ah_r h a_0 10 = some a6 ∧ ld0 h a6 v_3 ∧ ld0 h a5 ((ah_i h a6 (Int32.toNatClampNeg v_3)) / 4) ∧ ∀ x9, x9 = ah_i h a5 (Int32.toNatClampNeg ((ah_i h a6 (Int32.toNatClampNeg v_3)) / 4)) → ld0 h a5 (v_3 / 4) ∧ (((ah_i h a5 (Int32.toNatClampNeg (v_3 / 4))) ≤ x9 → ∀ x12, x12 = v_3 + 1 → ex_G mX12_partsOf d 35 [.ref a_0, .int v_1, .int v_2, .int x12, .retAddr 0] [] h bc bs Q) ∧ (¬ (ah_i h a5 (Int32.toNatClampNeg (v_3 / 4))) ≤ x9 → st0 h a5 (v_3 / 4) ∧ ∀ h13, h13 = ah_si h a5 (Int32.toNatClampNeg (v_3 / 4)) x9 → ∀ x15, x15 = v_3 + 1 → ex_G mX12_partsOf d 35 [.ref a_0, .int v_1, .int 1, .int x15, .retAddr 0] [] h13 bc bs Q))))) : ex_G mX12_partsOf d 35 [.ref a_0, .int v_1, .int v_2, .int v_3, .retAddr 0] [] h bc bs Q := by
  refine ex_iload_n (q := 36) (x := v_3) dX12_partsOf_35 rfl ?_
  refine ex_iconst (q := 37) (v := 4) dX12_partsOf_36 (by decide) ?_
  refine ex_aload_n (q := 38) (x := a_0) dX12_partsOf_37 rfl ?_
  have s1 := w.1
  replace w := w.2
  obtain ⟨a2, ea2, w⟩ := w
  refine ex_getr (q := 41) dX12_partsOf_38 fl_X12_13 s1 ea2 ?_
  refine ex_iload_n (q := 42) (x := v_1) dX12_partsOf_41 rfl ?_
  have s3 := w.1
  replace w := w.2
  refine ex_iald (q := 43) dX12_partsOf_42 s3 ?_
  refine ex_imul (q := 44) dX12_partsOf_43 ?_
  refine ex_icmp_ge (tgt := 93) (q := 47) dX12_partsOf_44 (fun c4 => ?_) (fun c4 => ?_)
  · replace w := w.1 c4
    refine ex_goto (tgt := 27) dX12_partsOf_93 ?_
    refine ex_kill 3 (ls' := [.ref a_0, .int v_1, .int v_2, .retAddr 0, .retAddr 0]) rfl ?_
    exact w
  · replace w := w.2 c4
    refine ex_aload_n (q := 48) (x := a_0) dX12_partsOf_47 rfl ?_
    obtain ⟨a5, ea5, w⟩ := w
    refine ex_getr (q := 51) dX12_partsOf_48 fl_X12_39 s1 ea5 ?_
    refine ex_aload_n (q := 52) (x := a_0) dX12_partsOf_51 rfl ?_
    obtain ⟨a6, ea6, w⟩ := w
    refine ex_getr (q := 55) dX12_partsOf_52 fl_X12_36 s1 ea6 ?_
    refine ex_iload_n (q := 56) (x := v_3) dX12_partsOf_55 rfl ?_
    have s7 := w.1
    replace w := w.2
    refine ex_iald (q := 57) dX12_partsOf_56 s7 ?_
    refine ex_iconst (q := 58) (v := 4) dX12_partsOf_57 (by decide) ?_
    refine ex_idiv (q := 59) dX12_partsOf_58 (by decide) ?_
    have s8 := w.1
    replace w := w.2
    refine ex_iald (q := 60) dX12_partsOf_59 s8 ?_
    refine ex_nmi (fun x9 ex9 => ?_)
    replace w := w x9 ex9
    refine ex_istore (q := 62) (ls' := [.ref a_0, .int v_1, .int v_2, .int v_3, .int x9]) dX12_partsOf_60 rfl ?_
    refine ex_iload (q := 64) (x := x9) dX12_partsOf_62 rfl ?_
    refine ex_aload_n (q := 65) (x := a_0) dX12_partsOf_64 rfl ?_
    refine ex_getr (q := 68) dX12_partsOf_65 fl_X12_39 s1 ea5 ?_
    refine ex_iload_n (q := 69) (x := v_3) dX12_partsOf_68 rfl ?_
    refine ex_iconst (q := 70) (v := 4) dX12_partsOf_69 (by decide) ?_
    refine ex_idiv (q := 71) dX12_partsOf_70 (by decide) ?_
    have s10 := w.1
    replace w := w.2
    refine ex_iald (q := 72) dX12_partsOf_71 s10 ?_
    refine ex_icmp_ge (tgt := 87) (q := 75) dX12_partsOf_72 (fun c11 => ?_) (fun c11 => ?_)
    · replace w := w.1 c11
      obtain ⟨x12, ex12⟩ : ∃ y : Int32, y = v_3 + 1 := ⟨_, rfl⟩
      replace w := w x12 ex12
      refine ex_iinc (q := 90) (x := v_3) (v := x12) (ls' := [.ref a_0, .int v_1, .int v_2, .int x12, .int x9]) dX12_partsOf_87 rfl (by rw [ex12]; rfl) rfl ?_
      refine ex_goto (tgt := 35) dX12_partsOf_90 ?_
      refine ex_kill 4 (ls' := [.ref a_0, .int v_1, .int v_2, .int x12, .retAddr 0]) rfl ?_
      exact w
    · replace w := w.2 c11
      refine ex_aload_n (q := 76) (x := a_0) dX12_partsOf_75 rfl ?_
      refine ex_getr (q := 79) dX12_partsOf_76 fl_X12_39 s1 ea5 ?_
      refine ex_iload_n (q := 80) (x := v_3) dX12_partsOf_79 rfl ?_
      refine ex_iconst (q := 81) (v := 4) dX12_partsOf_80 (by decide) ?_
      refine ex_idiv (q := 82) dX12_partsOf_81 (by decide) ?_
      refine ex_iload (q := 84) (x := x9) dX12_partsOf_82 rfl ?_
      have s14 := w.1
      replace w := w.2
      refine ex_iast (q := 85) dX12_partsOf_84 s14 ?_
      refine ex_nmh (fun h13 eh13 => ?_)
      replace w := w h13 eh13
      refine ex_iconst (q := 86) (v := 1) dX12_partsOf_85 (by decide) ?_
      refine ex_istore_n (q := 87) (ls' := [.ref a_0, .int v_1, .int 1, .int v_3, .int x9]) dX12_partsOf_86 rfl ?_
      obtain ⟨x15, ex15⟩ : ∃ y : Int32, y = v_3 + 1 := ⟨_, rfl⟩
      replace w := w x15 ex15
      refine ex_iinc (q := 90) (x := v_3) (v := x15) (ls' := [.ref a_0, .int v_1, .int 1, .int x15, .int x9]) dX12_partsOf_87 rfl (by rw [ex15]; rfl) rfl ?_
      refine ex_goto (tgt := 35) dX12_partsOf_90 ?_
      refine ex_kill 4 (ls' := [.ref a_0, .int v_1, .int 1, .int x15, .retAddr 0]) rfl ?_
      exact w

set_option maxRecDepth 100000 in
theorem X12_partsOf_101 {d bc bs : Nat} {h : AH} {Q : Option Value → AH → Prop} {a_0 : Nat} {v_1 : Int32} {v_3 : Int32} {v_4 : Int32} (w : ah_o h a_0 12 ∧ ∃ a2, ah_r h a_0 2 = some a2 ∧ ld0 h a2 v_1 ∧ (((ah_i h a2 (Int32.toNatClampNeg v_1)) ≤ v_4 → Q (some (.int v_3)) h) ∧ (¬ (ah_i h a2 (Int32.toNatClampNeg v_1)) ≤ v_4 → ∃ a5, ah_r h a_0 11 = some a5 ∧ ld0 h a5 v_4 ∧ ((¬ (ah_i h a5 (Int32.toNatClampNeg v_4)) = v_4 → ∀ x8, x8 = v_3 + 0 → ∀ x9, x9 = v_4 + 1 → ex_G mX12_partsOf d 101 [.ref a_0, .int v_1, .retAddr 0, .int x8, .int x9] [] h bc bs Q) ∧ ((ah_i h a5 (Int32.toNatClampNeg v_4)) = v_4 → ∀ x10, x10 = v_3 + 1 → ∀ x11, x11 = v_4 + 1 → ex_G mX12_partsOf d 101 [.ref a_0, .int v_1, .retAddr 0, .int x10, .int x11] [] h bc bs Q))))) : ex_G mX12_partsOf d 101 [.ref a_0, .int v_1, .retAddr 0, .int v_3, .int v_4] [] h bc bs Q := by
  refine ex_iload (q := 103) (x := v_4) dX12_partsOf_101 rfl ?_
  refine ex_aload_n (q := 104) (x := a_0) dX12_partsOf_103 rfl ?_
  have s1 := w.1
  replace w := w.2
  obtain ⟨a2, ea2, w⟩ := w
  refine ex_getr (q := 107) dX12_partsOf_104 fl_X12_13 s1 ea2 ?_
  refine ex_iload_n (q := 108) (x := v_1) dX12_partsOf_107 rfl ?_
  have s3 := w.1
  replace w := w.2
  refine ex_iald (q := 109) dX12_partsOf_108 s3 ?_
  refine ex_icmp_ge (tgt := 138) (q := 112) dX12_partsOf_109 (fun c4 => ?_) (fun c4 => ?_)
  · replace w := w.1 c4
    refine ex_iload_n (q := 139) (x := v_3) dX12_partsOf_138 rfl ?_
    exact ex_ireturn dX12_partsOf_139 rfl (Or.inl rfl) w
  · replace w := w.2 c4
    refine ex_iload_n (q := 113) (x := v_3) dX12_partsOf_112 rfl ?_
    refine ex_aload_n (q := 114) (x := a_0) dX12_partsOf_113 rfl ?_
    obtain ⟨a5, ea5, w⟩ := w
    refine ex_getr (q := 117) dX12_partsOf_114 fl_X12_39 s1 ea5 ?_
    refine ex_iload (q := 119) (x := v_4) dX12_partsOf_117 rfl ?_
    have s6 := w.1
    replace w := w.2
    refine ex_iald (q := 120) dX12_partsOf_119 s6 ?_
    refine ex_iload (q := 122) (x := v_4) dX12_partsOf_120 rfl ?_
    refine ex_icmp_ne (tgt := 129) (q := 125) dX12_partsOf_122 (fun c7 => ?_) (fun c7 => ?_)
    · replace w := w.1 c7
      refine ex_iconst (q := 130) (v := 0) dX12_partsOf_129 (by decide) ?_
      refine ex_iadd (q := 131) dX12_partsOf_130 ?_
      refine ex_nmi (fun x8 ex8 => ?_)
      replace w := w x8 ex8
      refine ex_istore_n (q := 132) (ls' := [.ref a_0, .int v_1, .retAddr 0, .int x8, .int v_4]) dX12_partsOf_131 rfl ?_
      obtain ⟨x9, ex9⟩ : ∃ y : Int32, y = v_4 + 1 := ⟨_, rfl⟩
      replace w := w x9 ex9
      refine ex_iinc (q := 135) (x := v_4) (v := x9) (ls' := [.ref a_0, .int v_1, .retAddr 0, .int x8, .int x9]) dX12_partsOf_132 rfl (by rw [ex9]; rfl) rfl ?_
      refine ex_goto (tgt := 101) dX12_partsOf_135 ?_
      exact w
    · replace w := w.2 c7
      refine ex_iconst (q := 126) (v := 1) dX12_partsOf_125 (by decide) ?_
      refine ex_goto (tgt := 130) dX12_partsOf_126 ?_
      refine ex_iadd (q := 131) dX12_partsOf_130 ?_
      refine ex_nmi (fun x10 ex10 => ?_)
      replace w := w x10 ex10
      refine ex_istore_n (q := 132) (ls' := [.ref a_0, .int v_1, .retAddr 0, .int x10, .int v_4]) dX12_partsOf_131 rfl ?_
      obtain ⟨x11, ex11⟩ : ∃ y : Int32, y = v_4 + 1 := ⟨_, rfl⟩
      replace w := w x11 ex11
      refine ex_iinc (q := 135) (x := v_4) (v := x11) (ls' := [.ref a_0, .int v_1, .retAddr 0, .int x10, .int x11]) dX12_partsOf_132 rfl (by rw [ex11]; rfl) rfl ?_
      refine ex_goto (tgt := 101) dX12_partsOf_135 ?_
      exact w

theorem X12_partsOf_e {d bc bs : Nat} {h : AH} {Q : Option Value → AH → Prop} {a_0 : Nat} {v_1 : Int32} (w : ex_G mX12_partsOf d 0 [.ref a_0, .int v_1, .retAddr 0, .retAddr 0, .retAddr 0] [] h bc bs Q) : ex_S yX12_partsOf mX12_partsOf d [.ref a_0, .int v_1] h bc bs Q :=
  ex_enter (plainFor_of_name (by decide +kernel)) ⟨rfl, rfl⟩ rfl rfl (Nat.le_of_ble_eq_true rfl) (ex_pad 3 w)

set_option maxRecDepth 100000 in
theorem X12_openOf_0 {d bc bs : Nat} {h : AH} {Q : Option Value → AH → Prop} {a_0 : Nat} {v_1 : Int32} (w : ah_o h a_0 12 ∧ ∀ h2, h2 = ah_sf h a_0 9 (-1) → ex_G mX12_openOf (d + 3) 7 [.ref a_0, .int v_1, .int 0, .retAddr 0] [] h2 bc bs Q) : ex_G mX12_openOf (d + 3) 0 [.ref a_0, .int v_1, .retAddr 0, .retAddr 0] [] h bc bs Q := by
  refine ex_aload_n (q := 1) (x := a_0) dX12_openOf_0 rfl ?_
  refine ex_iconst (q := 2) (v := (-1)) dX12_openOf_1 (by decide) ?_
  have s1 := w.1
  replace w := w.2
  refine ex_putf (q := 5) dX12_openOf_2 fl_X12_32 (Or.inl rfl) s1 (Or.inl rfl) ?_
  refine ex_nmh (fun h2 eh2 => ?_)
  replace w := w h2 eh2
  refine ex_iconst (q := 6) (v := 0) dX12_openOf_5 (by decide) ?_
  refine ex_istore_n (q := 7) (ls' := [.ref a_0, .int v_1, .int 0, .retAddr 0]) dX12_openOf_6 rfl ?_
  exact w

set_option maxRecDepth 100000 in
theorem X12_openOf_7 {d bc bs : Nat} {h : AH} {Q : Option Value → AH → Prop} {a_0 : Nat} {v_1 : Int32} {v_2 : Int32} (w : ah_o h a_0 12 ∧ ∃ a2, ah_r h a_0 2 = some a2 ∧ ld0 h a2 v_1 ∧ (((ah_i h a2 (Int32.toNatClampNeg v_1)) ≤ v_2 → ex_G mX12_openOf (d + 3) 47 [.ref a_0, .int v_1, .int 0, .retAddr 0] [] h bc bs Q) ∧ (¬ (ah_i h a2 (Int32.toNatClampNeg v_1)) ≤ v_2 → ∃ a5, ah_r h a_0 4 = some a5 ∧ ld0 h a5 ((40 * v_1) + v_2) ∧ ((4 ≤ (ah_i h a5 (Int32.toNatClampNeg ((40 * v_1) + v_2))) → ∀ x8, x8 = v_2 + 1 → ex_G mX12_openOf (d + 3) 7 [.ref a_0, .int v_1, .int x8, .retAddr 0] [] h bc bs Q) ∧ (¬ 4 ≤ (ah_i h a5 (Int32.toNatClampNeg ((40 * v_1) + v_2))) → ∀ h9, h9 = ah_sf h a_0 9 v_2 → Q (some (.int 1)) h9))))) : ex_G mX12_openOf (d + 3) 7 [.ref a_0, .int v_1, .int v_2, .retAddr 0] [] h bc bs Q := by
  refine ex_iload_n (q := 8) (x := v_2) dX12_openOf_7 rfl ?_
  refine ex_aload_n (q := 9) (x := a_0) dX12_openOf_8 rfl ?_
  have s1 := w.1
  replace w := w.2
  obtain ⟨a2, ea2, w⟩ := w
  refine ex_getr (q := 12) dX12_openOf_9 fl_X12_13 s1 ea2 ?_
  refine ex_iload_n (q := 13) (x := v_1) dX12_openOf_12 rfl ?_
  have s3 := w.1
  replace w := w.2
  refine ex_iald (q := 14) dX12_openOf_13 s3 ?_
  refine ex_icmp_ge (tgt := 45) (q := 17) dX12_openOf_14 (fun c4 => ?_) (fun c4 => ?_)
  · replace w := w.1 c4
    refine ex_iconst (q := 46) (v := 0) dX12_openOf_45 (by decide) ?_
    refine ex_istore_n (q := 47) (ls' := [.ref a_0, .int v_1, .int 0, .retAddr 0]) dX12_openOf_46 rfl ?_
    exact w
  · replace w := w.2 c4
    refine ex_aload_n (q := 18) (x := a_0) dX12_openOf_17 rfl ?_
    obtain ⟨a5, ea5, w⟩ := w
    refine ex_getr (q := 21) dX12_openOf_18 fl_X12_19 s1 ea5 ?_
    refine ex_bipush (q := 23) (v := 40) dX12_openOf_21 (by decide) ?_
    refine ex_iload_n (q := 24) (x := v_1) dX12_openOf_23 rfl ?_
    refine ex_imul (q := 25) dX12_openOf_24 ?_
    refine ex_iload_n (q := 26) (x := v_2) dX12_openOf_25 rfl ?_
    refine ex_iadd (q := 27) dX12_openOf_26 ?_
    have s6 := w.1
    replace w := w.2
    refine ex_iald (q := 28) dX12_openOf_27 s6 ?_
    refine ex_iconst (q := 29) (v := 4) dX12_openOf_28 (by decide) ?_
    refine ex_icmp_ge (tgt := 39) (q := 32) dX12_openOf_29 (fun c7 => ?_) (fun c7 => ?_)
    · replace w := w.1 c7
      obtain ⟨x8, ex8⟩ : ∃ y : Int32, y = v_2 + 1 := ⟨_, rfl⟩
      replace w := w x8 ex8
      refine ex_iinc (q := 42) (x := v_2) (v := x8) (ls' := [.ref a_0, .int v_1, .int x8, .retAddr 0]) dX12_openOf_39 rfl (by rw [ex8]; rfl) rfl ?_
      refine ex_goto (tgt := 7) dX12_openOf_42 ?_
      exact w
    · replace w := w.2 c7
      refine ex_aload_n (q := 33) (x := a_0) dX12_openOf_32 rfl ?_
      refine ex_iload_n (q := 34) (x := v_2) dX12_openOf_33 rfl ?_
      refine ex_putf (q := 37) dX12_openOf_34 fl_X12_32 (Or.inl rfl) s1 (Or.inl rfl) ?_
      refine ex_nmh (fun h9 eh9 => ?_)
      replace w := w h9 eh9
      refine ex_iconst (q := 38) (v := 1) dX12_openOf_37 (by decide) ?_
      exact ex_ireturn dX12_openOf_38 rfl (Or.inl rfl) w

set_option maxRecDepth 100000 in
theorem X12_openOf_47 {d bc bs : Nat} {h : AH} {Q : Option Value → AH → Prop} {a_0 : Nat} {v_1 : Int32} {v_2 : Int32} (w : ((100 ≤ v_2 → ex_G mX12_openOf (d + 3) 68 [.ref a_0, .int v_1, .int 0, .retAddr 0] [] h bc bs Q) ∧ (¬ 100 ≤ v_2 → ah_o h a_0 12 ∧ ∃ a3, ah_r h a_0 14 = some a3 ∧ st0 h a3 v_2 ∧ ∀ h4, h4 = ah_si h a3 (Int32.toNatClampNeg v_2) 0 → ∀ x6, x6 = v_2 + 1 → ex_G mX12_openOf (d + 3) 47 [.ref a_0, .int v_1, .int x6, .retAddr 0] [] h4 bc bs Q))) : ex_G mX12_openOf (d + 3) 47 [.ref a_0, .int v_1, .int v_2, .retAddr 0] [] h bc bs Q := by
  refine ex_iload_n (q := 48) (x := v_2) dX12_openOf_47 rfl ?_
  refine ex_bipush (q := 50) (v := 100) dX12_openOf_48 (by decide) ?_
  refine ex_icmp_ge (tgt := 66) (q := 53) dX12_openOf_50 (fun c1 => ?_) (fun c1 => ?_)
  · replace w := w.1 c1
    refine ex_iconst (q := 67) (v := 0) dX12_openOf_66 (by decide) ?_
    refine ex_istore_n (q := 68) (ls' := [.ref a_0, .int v_1, .int 0, .retAddr 0]) dX12_openOf_67 rfl ?_
    exact w
  · replace w := w.2 c1
    refine ex_aload_n (q := 54) (x := a_0) dX12_openOf_53 rfl ?_
    have s2 := w.1
    replace w := w.2
    obtain ⟨a3, ea3, w⟩ := w
    refine ex_getr (q := 57) dX12_openOf_54 fl_X12_49 s2 ea3 ?_
    refine ex_iload_n (q := 58) (x := v_2) dX12_openOf_57 rfl ?_
    refine ex_iconst (q := 59) (v := 0) dX12_openOf_58 (by decide) ?_
    have s5 := w.1
    replace w := w.2
    refine ex_iast (q := 60) dX12_openOf_59 s5 ?_
    refine ex_nmh (fun h4 eh4 => ?_)
    replace w := w h4 eh4
    obtain ⟨x6, ex6⟩ : ∃ y : Int32, y = v_2 + 1 := ⟨_, rfl⟩
    replace w := w x6 ex6
    refine ex_iinc (q := 63) (x := v_2) (v := x6) (ls' := [.ref a_0, .int v_1, .int x6, .retAddr 0]) dX12_openOf_60 rfl (by rw [ex6]; rfl) rfl ?_
    refine ex_goto (tgt := 47) dX12_openOf_63 ?_
    exact w

set_option maxRecDepth 100000 in
theorem X12_openOf_68 {d bc bs : Nat} {h : AH} {Q : Option Value → AH → Prop} {a_0 : Nat} {v_1 : Int32} {v_2 : Int32} (w : ah_o h a_0 12 ∧ ∃ a2, ah_r h a_0 2 = some a2 ∧ ld0 h a2 v_1 ∧ (((4 * (ah_i h a2 (Int32.toNatClampNeg v_1))) ≤ v_2 → ex_G mX12_openOf (d + 3) 124 [.ref a_0, .int v_1, .int 0, .retAddr 0] [] h bc bs Q) ∧ (¬ (4 * (ah_i h a2 (Int32.toNatClampNeg v_1))) ≤ v_2 → ∃ a5, ah_r h a_0 5 = some a5 ∧ ld0 h a5 ((160 * v_1) + v_2) ∧ ∀ x7, x7 = ah_i h a5 (Int32.toNatClampNeg ((160 * v_1) + v_2)) → ((0 ≤ x7 → ∃ a9, ah_r h a_0 14 = some a9 ∧ ld0 h a9 x7 ∧ st0 h a9 x7 ∧ ∀ h11, h11 = ah_si h a9 (Int32.toNatClampNeg x7) ((ah_i h a9 (Int32.toNatClampNeg x7)) + 1) → ∀ x13, x13 = v_2 + 1 → ex_G mX12_openOf (d + 3) 68 [.ref a_0, .int v_1, .int x13, .retAddr 0] [] h11 bc bs Q) ∧ (¬ 0 ≤ x7 → ∀ h14, h14 = ah_sf h a_0 9 (v_2 / 4) → Q (some (.int 2)) h14))))) : ex_G mX12_openOf (d + 3) 68 [.ref a_0, .int v_1, .int v_2, .retAddr 0] [] h bc bs Q := by
  refine ex_iload_n (q := 69) (x := v_2) dX12_openOf_68 rfl ?_
  refine ex_iconst (q := 70) (v := 4) dX12_openOf_69 (by decide) ?_
  refine ex_aload_n (q := 71) (x := a_0) dX12_openOf_70 rfl ?_
  have s1 := w.1
  replace w := w.2
  obtain ⟨a2, ea2, w⟩ := w
  refine ex_getr (q := 74) dX12_openOf_71 fl_X12_13 s1 ea2 ?_
  refine ex_iload_n (q := 75) (x := v_1) dX12_openOf_74 rfl ?_
  have s3 := w.1
  replace w := w.2
  refine ex_iald (q := 76) dX12_openOf_75 s3 ?_
  refine ex_imul (q := 77) dX12_openOf_76 ?_
  refine ex_icmp_ge (tgt := 122) (q := 80) dX12_openOf_77 (fun c4 => ?_) (fun c4 => ?_)
  · replace w := w.1 c4
    refine ex_iconst (q := 123) (v := 0) dX12_openOf_122 (by decide) ?_
    refine ex_istore_n (q := 124) (ls' := [.ref a_0, .int v_1, .int 0, .retAddr 0]) dX12_openOf_123 rfl ?_
    exact w
  · replace w := w.2 c4
    refine ex_aload_n (q := 81) (x := a_0) dX12_openOf_80 rfl ?_
    obtain ⟨a5, ea5, w⟩ := w
    refine ex_getr (q := 84) dX12_openOf_81 fl_X12_23 s1 ea5 ?_
    refine ex_sipush (q := 87) (v := 160) dX12_openOf_84 (by decide) ?_
    refine ex_iload_n (q := 88) (x := v_1) dX12_openOf_87 rfl ?_
    refine ex_imul (q := 89) dX12_openOf_88 ?_
    refine ex_iload_n (q := 90) (x := v_2) dX12_openOf_89 rfl ?_
    refine ex_iadd (q := 91) dX12_openOf_90 ?_
    have s6 := w.1
    replace w := w.2
    refine ex_iald (q := 92) dX12_openOf_91 s6 ?_
    refine ex_nmi (fun x7 ex7 => ?_)
    replace w := w x7 ex7
    refine ex_istore_n (q := 93) (ls' := [.ref a_0, .int v_1, .int v_2, .int x7]) dX12_openOf_92 rfl ?_
    refine ex_iload_n (q := 94) (x := x7) dX12_openOf_93 rfl ?_
    refine ex_if_ge (tgt := 106) (q := 97) dX12_openOf_94 (fun c8 => ?_) (fun c8 => ?_)
    · replace w := w.1 c8
      refine ex_aload_n (q := 107) (x := a_0) dX12_openOf_106 rfl ?_
      obtain ⟨a9, ea9, w⟩ := w
      refine ex_getr (q := 110) dX12_openOf_107 fl_X12_49 s1 ea9 ?_
      refine ex_iload_n (q := 111) (x := x7) dX12_openOf_110 rfl ?_
      refine ex_dup2 (q := 112) dX12_openOf_111 rfl rfl ?_
      have s10 := w.1
      replace w := w.2
      refine ex_iald (q := 113) dX12_openOf_112 s10 ?_
      refine ex_iconst (q := 114) (v := 1) dX12_openOf_113 (by decide) ?_
      refine ex_iadd (q := 115) dX12_openOf_114 ?_
      have s12 := w.1
      replace w := w.2
      refine ex_iast (q := 116) dX12_openOf_115 s12 ?_
      refine ex_nmh (fun h11 eh11 => ?_)
      replace w := w h11 eh11
      obtain ⟨x13, ex13⟩ : ∃ y : Int32, y = v_2 + 1 := ⟨_, rfl⟩
      replace w := w x13 ex13
      refine ex_iinc (q := 119) (x := v_2) (v := x13) (ls' := [.ref a_0, .int v_1, .int x13, .int x7]) dX12_openOf_116 rfl (by rw [ex13]; rfl) rfl ?_
      refine ex_goto (tgt := 68) dX12_openOf_119 ?_
      refine ex_kill 3 (ls' := [.ref a_0, .int v_1, .int x13, .retAddr 0]) rfl ?_
      exact w
    · replace w := w.2 c8
      refine ex_aload_n (q := 98) (x := a_0) dX12_openOf_97 rfl ?_
      refine ex_iload_n (q := 99) (x := v_2) dX12_openOf_98 rfl ?_
      refine ex_iconst (q := 100) (v := 4) dX12_openOf_99 (by decide) ?_
      refine ex_idiv (q := 101) dX12_openOf_100 (by decide) ?_
      refine ex_putf (q := 104) dX12_openOf_101 fl_X12_32 (Or.inl rfl) s1 (Or.inl rfl) ?_
      refine ex_nmh (fun h14 eh14 => ?_)
      replace w := w h14 eh14
      refine ex_iconst (q := 105) (v := 2) dX12_openOf_104 (by decide) ?_
      exact ex_ireturn dX12_openOf_105 rfl (Or.inl rfl) w

set_option maxRecDepth 100000 in
theorem X12_openOf_124 {d bc bs : Nat} {h : AH} {Q : Option Value → AH → Prop} {a_0 : Nat} {v_1 : Int32} {v_2 : Int32} (w : ah_o h a_0 12 ∧ ∃ a2, ah_r h a_0 2 = some a2 ∧ ld0 h a2 v_1 ∧ (((4 * (ah_i h a2 (Int32.toNatClampNeg v_1))) ≤ v_2 → ex_S yX12_link mX12_link (d + 2) [.ref a_0, .int v_1] h 0 0 (fun r h5 => r = none ∧ ah_o h5 a_0 12 ∧ ex_S yX12_facesOf mX12_facesOf (d + 2) [.ref a_0, .int v_1] h5 0 0 (fun r h6 => ∃ x8, r = some (.int x8) ∧ ah_o h6 a_0 12 ∧ ∃ a10, ah_r h6 a_0 2 = some a10 ∧ ld0 h6 a10 v_1 ∧ ex_S yX12_partsOf mX12_partsOf (d + 2) [.ref a_0, .int v_1] h6 0 0 (fun r h12 => ∃ x13, r = some (.int x13) ∧ ((¬ x8 = ((ah_i h6 a10 (Int32.toNatClampNeg v_1)) + (2 * x13)) → Q (some (.int 4)) h12) ∧ (x8 = ((ah_i h6 a10 (Int32.toNatClampNeg v_1)) + (2 * x13)) → Q (some (.int 0)) h12)))))) ∧ (¬ (4 * (ah_i h a2 (Int32.toNatClampNeg v_1))) ≤ v_2 → ∃ a15, ah_r h a_0 14 = some a15 ∧ ∃ a16, ah_r h a_0 5 = some a16 ∧ ld0 h a16 ((160 * v_1) + v_2) ∧ ld0 h a15 (ah_i h a16 (Int32.toNatClampNeg ((160 * v_1) + v_2))) ∧ (((ah_i h a15 (Int32.toNatClampNeg (ah_i h a16 (Int32.toNatClampNeg ((160 * v_1) + v_2))))) = 2 → ∀ x20, x20 = v_2 + 1 → ex_G mX12_openOf (d + 3) 124 [.ref a_0, .int v_1, .int x20, .retAddr 0] [] h bc bs Q) ∧ (¬ (ah_i h a15 (Int32.toNatClampNeg (ah_i h a16 (Int32.toNatClampNeg ((160 * v_1) + v_2))))) = 2 → ∀ h21, h21 = ah_sf h a_0 9 (v_2 / 4) → Q (some (.int 3)) h21))))) : ex_G mX12_openOf (d + 3) 124 [.ref a_0, .int v_1, .int v_2, .retAddr 0] [] h bc bs Q := by
  refine ex_iload_n (q := 125) (x := v_2) dX12_openOf_124 rfl ?_
  refine ex_iconst (q := 126) (v := 4) dX12_openOf_125 (by decide) ?_
  refine ex_aload_n (q := 127) (x := a_0) dX12_openOf_126 rfl ?_
  have s1 := w.1
  replace w := w.2
  obtain ⟨a2, ea2, w⟩ := w
  refine ex_getr (q := 130) dX12_openOf_127 fl_X12_13 s1 ea2 ?_
  refine ex_iload_n (q := 131) (x := v_1) dX12_openOf_130 rfl ?_
  have s3 := w.1
  replace w := w.2
  refine ex_iald (q := 132) dX12_openOf_131 s3 ?_
  refine ex_imul (q := 133) dX12_openOf_132 ?_
  refine ex_icmp_ge (tgt := 172) (q := 136) dX12_openOf_133 (fun c4 => ?_) (fun c4 => ?_)
  · replace w := w.1 c4
    refine ex_aload_n (q := 173) (x := a_0) dX12_openOf_172 rfl ?_
    refine ex_iload_n (q := 174) (x := v_1) dX12_openOf_173 rfl ?_
    refine ex_callV (q := 177) (M := mX12_openOf) (hdd := Nat.le_refl _) (c := 12) (st := []) (bc := bc) (bs := bs) dX12_openOf_174 rfl cl_X12_216 wd_1647 wd_53 s1 w ?_
    rintro r h5 ⟨rfl, w⟩
    show ex_G mX12_openOf (d + 3) 177 [.ref a_0, .int v_1, .int v_2, .retAddr 0] [] h5 bc bs Q
    refine ex_aload_n (q := 178) (x := a_0) dX12_openOf_177 rfl ?_
    refine ex_iload_n (q := 179) (x := v_1) dX12_openOf_178 rfl ?_
    have s7 := w.1
    replace w := w.2
    refine ex_callV (q := 182) (M := mX12_openOf) (hdd := Nat.le_refl _) (c := 12) (st := []) (bc := bc) (bs := bs) dX12_openOf_179 rfl cl_X12_220 wd_1651 wd_54 s7 w ?_
    rintro r h6 ⟨x8, rfl, w⟩
    show ex_G mX12_openOf (d + 3) 182 [.ref a_0, .int v_1, .int v_2, .retAddr 0] [.int x8] h6 bc bs Q
    refine ex_aload_n (q := 183) (x := a_0) dX12_openOf_182 rfl ?_
    have s9 := w.1
    replace w := w.2
    obtain ⟨a10, ea10, w⟩ := w
    refine ex_getr (q := 186) dX12_openOf_183 fl_X12_13 s9 ea10 ?_
    refine ex_iload_n (q := 187) (x := v_1) dX12_openOf_186 rfl ?_
    have s11 := w.1
    replace w := w.2
    refine ex_iald (q := 188) dX12_openOf_187 s11 ?_
    refine ex_iconst (q := 189) (v := 2) dX12_openOf_188 (by decide) ?_
    refine ex_aload_n (q := 190) (x := a_0) dX12_openOf_189 rfl ?_
    refine ex_iload_n (q := 191) (x := v_1) dX12_openOf_190 rfl ?_
    refine ex_callV (q := 194) (M := mX12_openOf) (hdd := Nat.le_refl _) (c := 12) (st := [.int 2, .int (ah_i h6 a10 (Int32.toNatClampNeg v_1)), .int x8]) (bc := bc) (bs := bs) dX12_openOf_191 rfl cl_X12_223 wd_1662 wd_56 s9 w ?_
    rintro r h12 ⟨x13, rfl, w⟩
    show ex_G mX12_openOf (d + 3) 194 [.ref a_0, .int v_1, .int v_2, .retAddr 0] [.int x13, .int 2, .int (ah_i h6 a10 (Int32.toNatClampNeg v_1)), .int x8] h12 bc bs Q
    refine ex_imul (q := 195) dX12_openOf_194 ?_
    refine ex_iadd (q := 196) dX12_openOf_195 ?_
    refine ex_icmp_ne (tgt := 203) (q := 199) dX12_openOf_196 (fun c14 => ?_) (fun c14 => ?_)
    · replace w := w.1 c14
      refine ex_iconst (q := 204) (v := 4) dX12_openOf_203 (by decide) ?_
      exact ex_ireturn dX12_openOf_204 rfl (Or.inl rfl) w
    · replace w := w.2 c14
      refine ex_iconst (q := 200) (v := 0) dX12_openOf_199 (by decide) ?_
      refine ex_goto (tgt := 204) dX12_openOf_200 ?_
      exact ex_ireturn dX12_openOf_204 rfl (Or.inl rfl) w
  · replace w := w.2 c4
    refine ex_aload_n (q := 137) (x := a_0) dX12_openOf_136 rfl ?_
    obtain ⟨a15, ea15, w⟩ := w
    refine ex_getr (q := 140) dX12_openOf_137 fl_X12_49 s1 ea15 ?_
    refine ex_aload_n (q := 141) (x := a_0) dX12_openOf_140 rfl ?_
    obtain ⟨a16, ea16, w⟩ := w
    refine ex_getr (q := 144) dX12_openOf_141 fl_X12_23 s1 ea16 ?_
    refine ex_sipush (q := 147) (v := 160) dX12_openOf_144 (by decide) ?_
    refine ex_iload_n (q := 148) (x := v_1) dX12_openOf_147 rfl ?_
    refine ex_imul (q := 149) dX12_openOf_148 ?_
    refine ex_iload_n (q := 150) (x := v_2) dX12_openOf_149 rfl ?_
    refine ex_iadd (q := 151) dX12_openOf_150 ?_
    have s17 := w.1
    replace w := w.2
    refine ex_iald (q := 152) dX12_openOf_151 s17 ?_
    have s18 := w.1
    replace w := w.2
    refine ex_iald (q := 153) dX12_openOf_152 s18 ?_
    refine ex_iconst (q := 154) (v := 2) dX12_openOf_153 (by decide) ?_
    refine ex_icmp_eq (tgt := 166) (q := 157) dX12_openOf_154 (fun c19 => ?_) (fun c19 => ?_)
    · replace w := w.1 c19
      obtain ⟨x20, ex20⟩ : ∃ y : Int32, y = v_2 + 1 := ⟨_, rfl⟩
      replace w := w x20 ex20
      refine ex_iinc (q := 169) (x := v_2) (v := x20) (ls' := [.ref a_0, .int v_1, .int x20, .retAddr 0]) dX12_openOf_166 rfl (by rw [ex20]; rfl) rfl ?_
      refine ex_goto (tgt := 124) dX12_openOf_169 ?_
      exact w
    · replace w := w.2 c19
      refine ex_aload_n (q := 158) (x := a_0) dX12_openOf_157 rfl ?_
      refine ex_iload_n (q := 159) (x := v_2) dX12_openOf_158 rfl ?_
      refine ex_iconst (q := 160) (v := 4) dX12_openOf_159 (by decide) ?_
      refine ex_idiv (q := 161) dX12_openOf_160 (by decide) ?_
      refine ex_putf (q := 164) dX12_openOf_161 fl_X12_32 (Or.inl rfl) s1 (Or.inl rfl) ?_
      refine ex_nmh (fun h21 eh21 => ?_)
      replace w := w h21 eh21
      refine ex_iconst (q := 165) (v := 3) dX12_openOf_164 (by decide) ?_
      exact ex_ireturn dX12_openOf_165 rfl (Or.inl rfl) w

theorem X12_openOf_e {d bc bs : Nat} {h : AH} {Q : Option Value → AH → Prop} {a_0 : Nat} {v_1 : Int32} (w : ex_G mX12_openOf (d + 3) 0 [.ref a_0, .int v_1, .retAddr 0, .retAddr 0] [] h bc bs Q) : ex_S yX12_openOf mX12_openOf (d + 3) [.ref a_0, .int v_1] h bc bs Q :=
  ex_enter (plainFor_of_name (by decide +kernel)) ⟨rfl, rfl⟩ rfl rfl (Nat.le_of_ble_eq_true rfl) (ex_pad 2 w)

set_option maxRecDepth 100000 in
theorem X12_open_0 {d bc bs : Nat} {h : AH} {Q : Option Value → AH → Prop} {a_0 : Nat} {v_1 : Int32} (w : ah_o h a_0 12 ∧ X12_isPicture_C a_0 v_1 h ∧ ((¬ (X12_isPicture_V a_0 v_1 h) = 0 → ex_S yX12_openOf mX12_openOf (d + 3) [.ref a_0, .int v_1] h 0 0 (fun r h4 => ∃ x5, r = some (.int x5) ∧ ah_o h4 a_0 12 ∧ ∀ h7, h7 = ah_sf h4 a_0 15 (ah_f h4 a_0 9) → X12_well_C a_0 x5 h7 ∧ ∀ h9, h9 = X12_well_H a_0 x5 h7 → Q (some (.int (X12_well_V a_0 x5 h7))) h9)) ∧ ((X12_isPicture_V a_0 v_1 h) = 0 → X12_no_C a_0 (-2) h ∧ ∀ h11, h11 = X12_no_H a_0 (-2) h → Q (some (.int (X12_no_V a_0 (-2) h))) h11))) : ex_G mX12_open (d + 4) 0 [.ref a_0, .int v_1, .retAddr 0] [] h bc bs Q := by
  refine ex_aload_n (q := 1) (x := a_0) dX12_open_0 rfl ?_
  refine ex_iload_n (q := 2) (x := v_1) dX12_open_1 rfl ?_
  have s1 := w.1
  replace w := w.2
  have s2 := w.1
  replace w := w.2
  refine ex_callV (q := 5) (M := mX12_open) (hdd := Nat.le_refl _) (mc := 0) (ms := 0) (d' := (d + 3)) (c := 12) (st := []) (bc := bc) (bs := bs) dX12_open_2 rfl cl_X12_187 wd_1593 wd_48 s1 (X12_isPicture_s (Q := fun r z => r = some (.int (X12_isPicture_V a_0 v_1 h)) ∧ z = h) s2 ⟨rfl, rfl⟩) ?_
  intro r z hrz
  rw [hrz.1, hrz.2]
  show ex_G mX12_open (d + 4) 5 [.ref a_0, .int v_1, .retAddr 0] [.int (X12_isPicture_V a_0 v_1 h)] (h) bc bs Q
  refine ex_if_ne (tgt := 15) (q := 8) dX12_open_5 (fun c3 => ?_) (fun c3 => ?_)
  · replace w := w.1 c3
    refine ex_aload_n (q := 16) (x := a_0) dX12_open_15 rfl ?_
    refine ex_iload_n (q := 17) (x := v_1) dX12_open_16 rfl ?_
    refine ex_callV (q := 20) (M := mX12_open) (hdd := Nat.le_refl _) (c := 12) (st := []) (bc := bc) (bs := bs) dX12_open_17 rfl cl_X12_226 wd_1643 wd_52 s1 w ?_
    rintro r h4 ⟨x5, rfl, w⟩
    show ex_G mX12_open (d + 4) 20 [.ref a_0, .int v_1, .retAddr 0] [.int x5] h4 bc bs Q
    refine ex_istore_n (q := 21) (ls' := [.ref a_0, .int v_1, .int x5]) dX12_open_20 rfl ?_
    refine ex_aload_n (q := 22) (x := a_0) dX12_open_21 rfl ?_
    refine ex_aload_n (q := 23) (x := a_0) dX12_open_22 rfl ?_
    have s6 := w.1
    replace w := w.2
    refine ex_getf (q := 26) dX12_open_23 fl_X12_32 s6 ?_
    refine ex_putf (q := 29) dX12_open_26 fl_X12_52 (Or.inl rfl) s6 (Or.inl rfl) ?_
    refine ex_nmh (fun h7 eh7 => ?_)
    replace w := w h7 eh7
    refine ex_aload_n (q := 30) (x := a_0) dX12_open_29 rfl ?_
    refine ex_iload_n (q := 31) (x := x5) dX12_open_30 rfl ?_
    have s8 := w.1
    replace w := w.2
    refine ex_callV (q := 34) (M := mX12_open) (hdd := Nat.le_refl _) (mc := 0) (ms := 0) (d' := (d + 3)) (c := 12) (st := []) (bc := bc) (bs := bs) dX12_open_31 rfl cl_X12_180 wd_1585 wd_47 (by rw [eh7]; exact s6) (X12_well_s (Q := fun r z => r = some (.int (X12_well_V a_0 x5 h7)) ∧ z = X12_well_H a_0 x5 h7) s8 ⟨rfl, rfl⟩) ?_
    intro r z hrz
    rw [hrz.1, hrz.2]
    show ex_G mX12_open (d + 4) 34 [.ref a_0, .int v_1, .int x5] [.int (X12_well_V a_0 x5 h7)] (X12_well_H a_0 x5 h7) bc bs Q
    refine ex_nmh (fun h9 eh9 => ?_)
    replace w := w h9 eh9
    exact ex_ireturn dX12_open_34 rfl (Or.inl rfl) w
  · replace w := w.2 c3
    refine ex_aload_n (q := 9) (x := a_0) dX12_open_8 rfl ?_
    refine ex_bipush (q := 11) (v := (-2)) dX12_open_9 (by decide) ?_
    have s10 := w.1
    replace w := w.2
    refine ex_callV (q := 14) (M := mX12_open) (hdd := Nat.le_refl _) (mc := 0) (ms := 0) (d' := (d + 3)) (c := 12) (st := []) (bc := bc) (bs := bs) dX12_open_11 rfl cl_X12_165 wd_1581 wd_46 s1 (X12_no_s (Q := fun r z => r = some (.int (X12_no_V a_0 (-2) h)) ∧ z = X12_no_H a_0 (-2) h) s10 ⟨rfl, rfl⟩) ?_
    intro r z hrz
    rw [hrz.1, hrz.2]
    show ex_G mX12_open (d + 4) 14 [.ref a_0, .int v_1, .retAddr 0] [.int (X12_no_V a_0 (-2) h)] (X12_no_H a_0 (-2) h) bc bs Q
    refine ex_nmh (fun h11 eh11 => ?_)
    replace w := w h11 eh11
    exact ex_ireturn dX12_open_14 rfl (Or.inl rfl) w

theorem X12_open_e {d bc bs : Nat} {h : AH} {Q : Option Value → AH → Prop} {a_0 : Nat} {v_1 : Int32} (w : ex_G mX12_open (d + 4) 0 [.ref a_0, .int v_1, .retAddr 0] [] h bc bs Q) : ex_S yX12_open mX12_open (d + 4) [.ref a_0, .int v_1] h bc bs Q :=
  ex_enter (plainFor_of_name (by decide +kernel)) ⟨rfl, rfl⟩ rfl rfl (Nat.le_of_ble_eq_true rfl) (ex_pad 1 w)

set_option maxRecDepth 100000 in
theorem X12_refusal_0 {d bc bs : Nat} {h : AH} {Q : Option Value → AH → Prop} {a_0 : Nat} {v_1 : Int32} (w : ah_o h a_0 12 ∧ X12_isPicture_C a_0 v_1 h ∧ ((¬ (X12_isPicture_V a_0 v_1 h) = 0 → ex_S yX12_openOf mX12_openOf (d + 3) [.ref a_0, .int v_1] h 0 0 (fun r h4 => ∃ x5, r = some (.int x5) ∧ ((x5 ≤ 0 → Q (some (.int 0)) h4) ∧ (¬ x5 ≤ 0 → ah_o h4 a_0 12 ∧ X12_meets_C a_0 3 h4 ∧ ∀ h9, h9 = X12_meets_H a_0 3 h4 → Q (some (.int (X12_meets_V a_0 3 h4))) h9)))) ∧ ((X12_isPicture_V a_0 v_1 h) = 0 → X12_no_C a_0 (-2) h ∧ ∀ h11, h11 = X12_no_H a_0 (-2) h → Q (some (.int (X12_no_V a_0 (-2) h))) h11))) : ex_G mX12_refusal (d + 4) 0 [.ref a_0, .int v_1] [] h bc bs Q := by
  refine ex_aload_n (q := 1) (x := a_0) dX12_refusal_0 rfl ?_
  refine ex_iload_n (q := 2) (x := v_1) dX12_refusal_1 rfl ?_
  have s1 := w.1
  replace w := w.2
  have s2 := w.1
  replace w := w.2
  refine ex_callV (q := 5) (M := mX12_refusal) (hdd := Nat.le_refl _) (mc := 0) (ms := 0) (d' := (d + 3)) (c := 12) (st := []) (bc := bc) (bs := bs) dX12_refusal_2 rfl cl_X12_187 wd_1593 wd_48 s1 (X12_isPicture_s (Q := fun r z => r = some (.int (X12_isPicture_V a_0 v_1 h)) ∧ z = h) s2 ⟨rfl, rfl⟩) ?_
  intro r z hrz
  rw [hrz.1, hrz.2]
  show ex_G mX12_refusal (d + 4) 5 [.ref a_0, .int v_1] [.int (X12_isPicture_V a_0 v_1 h)] (h) bc bs Q
  refine ex_if_ne (tgt := 17) (q := 8) dX12_refusal_5 (fun c3 => ?_) (fun c3 => ?_)
  · replace w := w.1 c3
    refine ex_aload_n (q := 18) (x := a_0) dX12_refusal_17 rfl ?_
    refine ex_iload_n (q := 19) (x := v_1) dX12_refusal_18 rfl ?_
    refine ex_callV (q := 22) (M := mX12_refusal) (hdd := Nat.le_refl _) (c := 12) (st := []) (bc := bc) (bs := bs) dX12_refusal_19 rfl cl_X12_226 wd_1643 wd_52 s1 w ?_
    rintro r h4 ⟨x5, rfl, w⟩
    show ex_G mX12_refusal (d + 4) 22 [.ref a_0, .int v_1] [.int x5] h4 bc bs Q
    refine ex_if_le (tgt := 33) (q := 25) dX12_refusal_22 (fun c6 => ?_) (fun c6 => ?_)
    · replace w := w.1 c6
      refine ex_iconst (q := 34) (v := 0) dX12_refusal_33 (by decide) ?_
      exact ex_ireturn dX12_refusal_34 rfl (Or.inl rfl) w
    · replace w := w.2 c6
      refine ex_aload_n (q := 26) (x := a_0) dX12_refusal_25 rfl ?_
      refine ex_iconst (q := 27) (v := 3) dX12_refusal_26 (by decide) ?_
      have s7 := w.1
      replace w := w.2
      have s8 := w.1
      replace w := w.2
      refine ex_callV (q := 30) (M := mX12_refusal) (hdd := Nat.le_refl _) (mc := 0) (ms := 0) (d' := (d + 3)) (c := 12) (st := []) (bc := bc) (bs := bs) dX12_refusal_27 rfl cl_X12_200 wd_1614 wd_50 s7 (X12_meets_s (Q := fun r z => r = some (.int (X12_meets_V a_0 3 h4)) ∧ z = X12_meets_H a_0 3 h4) s8 ⟨rfl, rfl⟩) ?_
      intro r z hrz
      rw [hrz.1, hrz.2]
      show ex_G mX12_refusal (d + 4) 30 [.ref a_0, .int v_1] [.int (X12_meets_V a_0 3 h4)] (X12_meets_H a_0 3 h4) bc bs Q
      refine ex_nmh (fun h9 eh9 => ?_)
      replace w := w h9 eh9
      refine ex_goto (tgt := 34) dX12_refusal_30 ?_
      exact ex_ireturn dX12_refusal_34 rfl (Or.inl rfl) w
  · replace w := w.2 c3
    refine ex_aload_n (q := 9) (x := a_0) dX12_refusal_8 rfl ?_
    refine ex_bipush (q := 11) (v := (-2)) dX12_refusal_9 (by decide) ?_
    have s10 := w.1
    replace w := w.2
    refine ex_callV (q := 14) (M := mX12_refusal) (hdd := Nat.le_refl _) (mc := 0) (ms := 0) (d' := (d + 3)) (c := 12) (st := []) (bc := bc) (bs := bs) dX12_refusal_11 rfl cl_X12_165 wd_1581 wd_46 s1 (X12_no_s (Q := fun r z => r = some (.int (X12_no_V a_0 (-2) h)) ∧ z = X12_no_H a_0 (-2) h) s10 ⟨rfl, rfl⟩) ?_
    intro r z hrz
    rw [hrz.1, hrz.2]
    show ex_G mX12_refusal (d + 4) 14 [.ref a_0, .int v_1] [.int (X12_no_V a_0 (-2) h)] (X12_no_H a_0 (-2) h) bc bs Q
    refine ex_nmh (fun h11 eh11 => ?_)
    replace w := w h11 eh11
    refine ex_goto (tgt := 34) dX12_refusal_14 ?_
    exact ex_ireturn dX12_refusal_34 rfl (Or.inl rfl) w

theorem X12_refusal_e {d bc bs : Nat} {h : AH} {Q : Option Value → AH → Prop} {a_0 : Nat} {v_1 : Int32} (w : ex_G mX12_refusal (d + 4) 0 [.ref a_0, .int v_1] [] h bc bs Q) : ex_S yX12_refusal mX12_refusal (d + 4) [.ref a_0, .int v_1] h bc bs Q :=
  ex_enter (plainFor_of_name (by decide +kernel)) ⟨rfl, rfl⟩ rfl rfl (Nat.le_of_ble_eq_true rfl) (ex_pad 0 w)

set_option maxRecDepth 100000 in
theorem X12_piecesOf_0 {d bc bs : Nat} {h : AH} {Q : Option Value → AH → Prop} {a_0 : Nat} {v_1 : Int32} (w : ex_G mX12_piecesOf (d + 1) 4 [.ref a_0, .int v_1, .int 0, .int 0, .retAddr 0] [] h bc bs Q) : ex_G mX12_piecesOf (d + 1) 0 [.ref a_0, .int v_1, .retAddr 0, .retAddr 0, .retAddr 0] [] h bc bs Q := by
  refine ex_iconst (q := 1) (v := 0) dX12_piecesOf_0 (by decide) ?_
  refine ex_istore_n (q := 2) (ls' := [.ref a_0, .int v_1, .int 0, .retAddr 0, .retAddr 0]) dX12_piecesOf_1 rfl ?_
  refine ex_iconst (q := 3) (v := 0) dX12_piecesOf_2 (by decide) ?_
  refine ex_istore_n (q := 4) (ls' := [.ref a_0, .int v_1, .int 0, .int 0, .retAddr 0]) dX12_piecesOf_3 rfl ?_
  exact w

set_option maxRecDepth 100000 in
theorem X12_piecesOf_4 {d bc bs : Nat} {h : AH} {Q : Option Value → AH → Prop} {a_0 : Nat} {v_1 : Int32} {v_2 : Int32} {v_3 : Int32} (w : ah_o h a_0 12 ∧ ∃ a2, ah_r h a_0 2 = some a2 ∧ ld0 h a2 v_1 ∧ (((4 * (ah_i h a2 (Int32.toNatClampNeg v_1))) ≤ v_3 → ex_G mX12_piecesOf (d + 1) 31 [.ref a_0, .int v_1, .int v_2, .int 0, .retAddr 0] [] h bc bs Q) ∧ (¬ (4 * (ah_i h a2 (Int32.toNatClampNeg v_1))) ≤ v_3 → ∃ a5, ah_r h a_0 16 = some a5 ∧ st0 h a5 v_3 ∧ ∀ h6, h6 = ah_si h a5 (Int32.toNatClampNeg v_3) (-1) → ∀ x8, x8 = v_3 + 1 → ex_G mX12_piecesOf (d + 1) 4 [.ref a_0, .int v_1, .int v_2, .int x8, .retAddr 0] [] h6 bc bs Q))) : ex_G mX12_piecesOf (d + 1) 4 [.ref a_0, .int v_1, .int v_2, .int v_3, .retAddr 0] [] h bc bs Q := by
  refine ex_iload_n (q := 5) (x := v_3) dX12_piecesOf_4 rfl ?_
  refine ex_iconst (q := 6) (v := 4) dX12_piecesOf_5 (by decide) ?_
  refine ex_aload_n (q := 7) (x := a_0) dX12_piecesOf_6 rfl ?_
  have s1 := w.1
  replace w := w.2
  obtain ⟨a2, ea2, w⟩ := w
  refine ex_getr (q := 10) dX12_piecesOf_7 fl_X12_13 s1 ea2 ?_
  refine ex_iload_n (q := 11) (x := v_1) dX12_piecesOf_10 rfl ?_
  have s3 := w.1
  replace w := w.2
  refine ex_iald (q := 12) dX12_piecesOf_11 s3 ?_
  refine ex_imul (q := 13) dX12_piecesOf_12 ?_
  refine ex_icmp_ge (tgt := 29) (q := 16) dX12_piecesOf_13 (fun c4 => ?_) (fun c4 => ?_)
  · replace w := w.1 c4
    refine ex_iconst (q := 30) (v := 0) dX12_piecesOf_29 (by decide) ?_
    refine ex_istore_n (q := 31) (ls' := [.ref a_0, .int v_1, .int v_2, .int 0, .retAddr 0]) dX12_piecesOf_30 rfl ?_
    exact w
  · replace w := w.2 c4
    refine ex_aload_n (q := 17) (x := a_0) dX12_piecesOf_16 rfl ?_
    obtain ⟨a5, ea5, w⟩ := w
    refine ex_getr (q := 20) dX12_piecesOf_17 fl_X12_55 s1 ea5 ?_
    refine ex_iload_n (q := 21) (x := v_3) dX12_piecesOf_20 rfl ?_
    refine ex_iconst (q := 22) (v := (-1)) dX12_piecesOf_21 (by decide) ?_
    have s7 := w.1
    replace w := w.2
    refine ex_iast (q := 23) dX12_piecesOf_22 s7 ?_
    refine ex_nmh (fun h6 eh6 => ?_)
    replace w := w h6 eh6
    obtain ⟨x8, ex8⟩ : ∃ y : Int32, y = v_3 + 1 := ⟨_, rfl⟩
    replace w := w x8 ex8
    refine ex_iinc (q := 26) (x := v_3) (v := x8) (ls' := [.ref a_0, .int v_1, .int v_2, .int x8, .retAddr 0]) dX12_piecesOf_23 rfl (by rw [ex8]; rfl) rfl ?_
    refine ex_goto (tgt := 4) dX12_piecesOf_26 ?_
    exact w

set_option maxRecDepth 100000 in
theorem X12_piecesOf_31 {d bc bs : Nat} {h : AH} {Q : Option Value → AH → Prop} {a_0 : Nat} {v_1 : Int32} {v_2 : Int32} {v_3 : Int32} (w : ah_o h a_0 12 ∧ ∃ a2, ah_r h a_0 2 = some a2 ∧ ld0 h a2 v_1 ∧ (((4 * (ah_i h a2 (Int32.toNatClampNeg v_1))) ≤ v_3 → Q (some (.int v_2)) h) ∧ (¬ (4 * (ah_i h a2 (Int32.toNatClampNeg v_1))) ≤ v_3 → ∃ a5, ah_r h a_0 16 = some a5 ∧ ld0 h a5 v_3 ∧ ((¬ (ah_i h a5 (Int32.toNatClampNeg v_3)) = (-1) → ∀ x8, x8 = v_3 + 1 → ex_G mX12_piecesOf (d + 1) 31 [.ref a_0, .int v_1, .int v_2, .int x8, .retAddr 0] [] h bc bs Q) ∧ ((ah_i h a5 (Int32.toNatClampNeg v_3)) = (-1) → ex_G mX12_piecesOf (d + 1) 56 [.ref a_0, .int v_1, .int v_2, .int v_3, .int v_3] [] h bc bs Q))))) : ex_G mX12_piecesOf (d + 1) 31 [.ref a_0, .int v_1, .int v_2, .int v_3, .retAddr 0] [] h bc bs Q := by
  refine ex_iload_n (q := 32) (x := v_3) dX12_piecesOf_31 rfl ?_
  refine ex_iconst (q := 33) (v := 4) dX12_piecesOf_32 (by decide) ?_
  refine ex_aload_n (q := 34) (x := a_0) dX12_piecesOf_33 rfl ?_
  have s1 := w.1
  replace w := w.2
  obtain ⟨a2, ea2, w⟩ := w
  refine ex_getr (q := 37) dX12_piecesOf_34 fl_X12_13 s1 ea2 ?_
  refine ex_iload_n (q := 38) (x := v_1) dX12_piecesOf_37 rfl ?_
  have s3 := w.1
  replace w := w.2
  refine ex_iald (q := 39) dX12_piecesOf_38 s3 ?_
  refine ex_imul (q := 40) dX12_piecesOf_39 ?_
  refine ex_icmp_ge (tgt := 134) (q := 43) dX12_piecesOf_40 (fun c4 => ?_) (fun c4 => ?_)
  · replace w := w.1 c4
    refine ex_iload_n (q := 135) (x := v_2) dX12_piecesOf_134 rfl ?_
    exact ex_ireturn dX12_piecesOf_135 rfl (Or.inl rfl) w
  · replace w := w.2 c4
    refine ex_aload_n (q := 44) (x := a_0) dX12_piecesOf_43 rfl ?_
    obtain ⟨a5, ea5, w⟩ := w
    refine ex_getr (q := 47) dX12_piecesOf_44 fl_X12_55 s1 ea5 ?_
    refine ex_iload_n (q := 48) (x := v_3) dX12_piecesOf_47 rfl ?_
    have s6 := w.1
    replace w := w.2
    refine ex_iald (q := 49) dX12_piecesOf_48 s6 ?_
    refine ex_iconst (q := 50) (v := (-1)) dX12_piecesOf_49 (by decide) ?_
    refine ex_icmp_ne (tgt := 128) (q := 53) dX12_piecesOf_50 (fun c7 => ?_) (fun c7 => ?_)
    · replace w := w.1 c7
      obtain ⟨x8, ex8⟩ : ∃ y : Int32, y = v_3 + 1 := ⟨_, rfl⟩
      replace w := w x8 ex8
      refine ex_iinc (q := 131) (x := v_3) (v := x8) (ls' := [.ref a_0, .int v_1, .int v_2, .int x8, .retAddr 0]) dX12_piecesOf_128 rfl (by rw [ex8]; rfl) rfl ?_
      refine ex_goto (tgt := 31) dX12_piecesOf_131 ?_
      exact w
    · replace w := w.2 c7
      refine ex_iload_n (q := 54) (x := v_3) dX12_piecesOf_53 rfl ?_
      refine ex_istore (q := 56) (ls' := [.ref a_0, .int v_1, .int v_2, .int v_3, .int v_3]) dX12_piecesOf_54 rfl ?_
      exact w

set_option maxRecDepth 100000 in
theorem X12_piecesOf_56 {d bc bs : Nat} {h : AH} {Q : Option Value → AH → Prop} {a_0 : Nat} {v_1 : Int32} {v_2 : Int32} {v_3 : Int32} {v_4 : Int32} (w : ah_o h a_0 12 ∧ ∃ a2, ah_r h a_0 16 = some a2 ∧ ld0 h a2 v_4 ∧ ((¬ (ah_i h a2 (Int32.toNatClampNeg v_4)) = (-1) → ∀ x5, x5 = v_2 + 1 → ∀ x6, x6 = v_3 + 1 → ex_G mX12_piecesOf (d + 1) 31 [.ref a_0, .int v_1, .int x5, .int x6, .retAddr 0] [] h bc bs Q) ∧ ((ah_i h a2 (Int32.toNatClampNeg v_4)) = (-1) → st0 h a2 v_4 ∧ ∀ h7, h7 = ah_si h a2 (Int32.toNatClampNeg v_4) v_2 → ∃ a9, ah_r h7 a_0 17 = some a9 ∧ ld1 h7 a9 v_4 ∧ ∀ h10, h10 = ah_si h7 a9 (Int32.toNatClampNeg v_4) 0 → ∃ a12, ah_r h10 a_0 10 = some a12 ∧ ld0 h10 a12 v_4 ∧ st0 h10 a2 (ah_i h10 a12 (Int32.toNatClampNeg v_4)) ∧ ∀ h14, h14 = ah_si h10 a2 (Int32.toNatClampNeg (ah_i h10 a12 (Int32.toNatClampNeg v_4))) v_2 → ld1 h14 a9 (ah_i h14 a12 (Int32.toNatClampNeg v_4)) ∧ ∀ h16, h16 = ah_si h14 a9 (Int32.toNatClampNeg (ah_i h14 a12 (Int32.toNatClampNeg v_4))) 1 → ∀ x18, x18 = X12_turned_V (ah_i h16 a12 (Int32.toNatClampNeg v_4)) 2 h16 → ex_G mX12_piecesOf (d + 1) 56 [.ref a_0, .int v_1, .int v_2, .int v_3, .int x18] [] h16 bc bs Q))) : ex_G mX12_piecesOf (d + 1) 56 [.ref a_0, .int v_1, .int v_2, .int v_3, .int v_4] [] h bc bs Q := by
  refine ex_aload_n (q := 57) (x := a_0) dX12_piecesOf_56 rfl ?_
  have s1 := w.1
  replace w := w.2
  obtain ⟨a2, ea2, w⟩ := w
  refine ex_getr (q := 60) dX12_piecesOf_57 fl_X12_55 s1 ea2 ?_
  refine ex_iload (q := 62) (x := v_4) dX12_piecesOf_60 rfl ?_
  have s3 := w.1
  replace w := w.2
  refine ex_iald (q := 63) dX12_piecesOf_62 s3 ?_
  refine ex_iconst (q := 64) (v := (-1)) dX12_piecesOf_63 (by decide) ?_
  refine ex_icmp_ne (tgt := 125) (q := 67) dX12_piecesOf_64 (fun c4 => ?_) (fun c4 => ?_)
  · replace w := w.1 c4
    obtain ⟨x5, ex5⟩ : ∃ y : Int32, y = v_2 + 1 := ⟨_, rfl⟩
    replace w := w x5 ex5
    refine ex_iinc (q := 128) (x := v_2) (v := x5) (ls' := [.ref a_0, .int v_1, .int x5, .int v_3, .int v_4]) dX12_piecesOf_125 rfl (by rw [ex5]; rfl) rfl ?_
    obtain ⟨x6, ex6⟩ : ∃ y : Int32, y = v_3 + 1 := ⟨_, rfl⟩
    replace w := w x6 ex6
    refine ex_iinc (q := 131) (x := v_3) (v := x6) (ls' := [.ref a_0, .int v_1, .int x5, .int x6, .int v_4]) dX12_piecesOf_128 rfl (by rw [ex6]; rfl) rfl ?_
    refine ex_goto (tgt := 31) dX12_piecesOf_131 ?_
    refine ex_kill 4 (ls' := [.ref a_0, .int v_1, .int x5, .int x6, .retAddr 0]) rfl ?_
    exact w
  · replace w := w.2 c4
    refine ex_aload_n (q := 68) (x := a_0) dX12_piecesOf_67 rfl ?_
    refine ex_getr (q := 71) dX12_piecesOf_68 fl_X12_55 s1 ea2 ?_
    refine ex_iload (q := 73) (x := v_4) dX12_piecesOf_71 rfl ?_
    refine ex_iload_n (q := 74) (x := v_2) dX12_piecesOf_73 rfl ?_
    have s8 := w.1
    replace w := w.2
    refine ex_iast (q := 75) dX12_piecesOf_74 s8 ?_
    refine ex_nmh (fun h7 eh7 => ?_)
    replace w := w h7 eh7
    refine ex_aload_n (q := 76) (x := a_0) dX12_piecesOf_75 rfl ?_
    obtain ⟨a9, ea9, w⟩ := w
    refine ex_getr (q := 79) dX12_piecesOf_76 fl_X12_58 (by rw [eh7]; exact s1) ea9 ?_
    refine ex_iload (q := 81) (x := v_4) dX12_piecesOf_79 rfl ?_
    refine ex_iconst (q := 82) (v := 0) dX12_piecesOf_81 (by decide) ?_
    have s11 := w.1
    replace w := w.2
    refine ex_bast (q := 83) dX12_piecesOf_82 s11 (Or.inl rfl) ?_
    refine ex_nmh (fun h10 eh10 => ?_)
    replace w := w h10 eh10
    refine ex_aload_n (q := 84) (x := a_0) dX12_piecesOf_83 rfl ?_
    refine ex_getr (q := 87) dX12_piecesOf_84 fl_X12_55 (by rw [eh10]; exact (by rw [eh7]; exact s1)) (by rw [eh10]; exact (by rw [eh7]; exact ea2)) ?_
    refine ex_aload_n (q := 88) (x := a_0) dX12_piecesOf_87 rfl ?_
    obtain ⟨a12, ea12, w⟩ := w
    refine ex_getr (q := 91) dX12_piecesOf_88 fl_X12_36 (by rw [eh10]; exact (by rw [eh7]; exact s1)) ea12 ?_
    refine ex_iload (q := 93) (x := v_4) dX12_piecesOf_91 rfl ?_
    have s13 := w.1
    replace w := w.2
    refine ex_iald (q := 94) dX12_piecesOf_93 s13 ?_
    refine ex_iload_n (q := 95) (x := v_2) dX12_piecesOf_94 rfl ?_
    have s15 := w.1
    replace w := w.2
    refine ex_iast (q := 96) dX12_piecesOf_95 s15 ?_
    refine ex_nmh (fun h14 eh14 => ?_)
    replace w := w h14 eh14
    refine ex_aload_n (q := 97) (x := a_0) dX12_piecesOf_96 rfl ?_
    refine ex_getr (q := 100) dX12_piecesOf_97 fl_X12_58 (by rw [eh14]; exact (by rw [eh10]; exact (by rw [eh7]; exact s1))) (by rw [eh14]; exact (by rw [eh10]; exact ea9)) ?_
    refine ex_aload_n (q := 101) (x := a_0) dX12_piecesOf_100 rfl ?_
    refine ex_getr (q := 104) dX12_piecesOf_101 fl_X12_36 (by rw [eh14]; exact (by rw [eh10]; exact (by rw [eh7]; exact s1))) (by rw [eh14]; exact ea12) ?_
    refine ex_iload (q := 106) (x := v_4) dX12_piecesOf_104 rfl ?_
    refine ex_iald (q := 107) dX12_piecesOf_106 (by rw [eh14]; exact s13) ?_
    refine ex_iconst (q := 108) (v := 1) dX12_piecesOf_107 (by decide) ?_
    have s17 := w.1
    replace w := w.2
    refine ex_bast (q := 109) dX12_piecesOf_108 s17 (Or.inr rfl) ?_
    refine ex_nmh (fun h16 eh16 => ?_)
    replace w := w h16 eh16
    refine ex_aload_n (q := 110) (x := a_0) dX12_piecesOf_109 rfl ?_
    refine ex_getr (q := 113) dX12_piecesOf_110 fl_X12_36 (by rw [eh16]; exact (by rw [eh14]; exact (by rw [eh10]; exact (by rw [eh7]; exact s1)))) (by rw [eh16]; exact (by rw [eh14]; exact ea12)) ?_
    refine ex_iload (q := 115) (x := v_4) dX12_piecesOf_113 rfl ?_
    refine ex_iald (q := 116) dX12_piecesOf_115 (by rw [eh16]; exact (by rw [eh14]; exact s13)) ?_
    refine ex_iconst (q := 117) (v := 2) dX12_piecesOf_116 (by decide) ?_
    refine ex_callS (q := 120) (M := mX12_piecesOf) (hdd := Nat.le_refl _) (mc := 0) (ms := 0) (d' := d) (st := []) (bc := bc) (bs := bs) dX12_piecesOf_117 rfl cl_X12_209 wd_1658 (X12_turned_s (Q := fun r z => r = some (.int (X12_turned_V (ah_i h16 a12 (Int32.toNatClampNeg v_4)) 2 h16)) ∧ z = h16) ⟨rfl, rfl⟩) ?_
    intro r z hrz
    rw [hrz.1, hrz.2]
    show ex_G mX12_piecesOf (d + 1) 120 [.ref a_0, .int v_1, .int v_2, .int v_3, .int v_4] [.int (X12_turned_V (ah_i h16 a12 (Int32.toNatClampNeg v_4)) 2 h16)] (h16) bc bs Q
    refine ex_nmi (fun x18 ex18 => ?_)
    replace w := w x18 ex18
    refine ex_istore (q := 122) (ls' := [.ref a_0, .int v_1, .int v_2, .int v_3, .int x18]) dX12_piecesOf_120 rfl ?_
    refine ex_goto (tgt := 56) dX12_piecesOf_122 ?_
    exact w

theorem X12_piecesOf_e {d bc bs : Nat} {h : AH} {Q : Option Value → AH → Prop} {a_0 : Nat} {v_1 : Int32} (w : ex_G mX12_piecesOf (d + 1) 0 [.ref a_0, .int v_1, .retAddr 0, .retAddr 0, .retAddr 0] [] h bc bs Q) : ex_S yX12_piecesOf mX12_piecesOf (d + 1) [.ref a_0, .int v_1] h bc bs Q :=
  ex_enter (plainFor_of_name (by decide +kernel)) ⟨rfl, rfl⟩ rfl rfl (Nat.le_of_ble_eq_true rfl) (ex_pad 3 w)

set_option maxRecDepth 100000 in
theorem X12_signAt_0 {d bc bs : Nat} {h : AH} {Q : Option Value → AH → Prop} {a_0 : Nat} {v_1 : Int32} (w : ah_o h a_0 12 ∧ ∃ a2, ah_r h a_0 17 = some a2 ∧ ld1 h a2 (4 * v_1) ∧ (((ah_i h a2 (Int32.toNatClampNeg (4 * v_1))) = 0 → ex_G mX12_signAt (d + 1) 16 [.ref a_0, .int v_1, .retAddr 0] [.int 2] h bc bs Q) ∧ (¬ (ah_i h a2 (Int32.toNatClampNeg (4 * v_1))) = 0 → ex_G mX12_signAt (d + 1) 16 [.ref a_0, .int v_1, .retAddr 0] [.int 0] h bc bs Q))) : ex_G mX12_signAt (d + 1) 0 [.ref a_0, .int v_1, .retAddr 0] [] h bc bs Q := by
  refine ex_aload_n (q := 1) (x := a_0) dX12_signAt_0 rfl ?_
  have s1 := w.1
  replace w := w.2
  obtain ⟨a2, ea2, w⟩ := w
  refine ex_getr (q := 4) dX12_signAt_1 fl_X12_58 s1 ea2 ?_
  refine ex_iconst (q := 5) (v := 4) dX12_signAt_4 (by decide) ?_
  refine ex_iload_n (q := 6) (x := v_1) dX12_signAt_5 rfl ?_
  refine ex_imul (q := 7) dX12_signAt_6 ?_
  have s3 := w.1
  replace w := w.2
  refine ex_bald (q := 8) dX12_signAt_7 s3 ?_
  refine ex_if_eq (tgt := 15) (q := 11) dX12_signAt_8 (fun c4 => ?_) (fun c4 => ?_)
  · replace w := w.1 c4
    refine ex_iconst (q := 16) (v := 2) dX12_signAt_15 (by decide) ?_
    exact w
  · replace w := w.2 c4
    refine ex_iconst (q := 12) (v := 0) dX12_signAt_11 (by decide) ?_
    refine ex_goto (tgt := 16) dX12_signAt_12 ?_
    exact w

set_option maxRecDepth 100000 in
theorem X12_signAt_16 {d bc bs : Nat} {h : AH} {Q : Option Value → AH → Prop} {a_0 : Nat} {v_1 : Int32} {u_0 : Int32} (w : ah_o h a_0 12 ∧ ∃ a2, ah_r h a_0 17 = some a2 ∧ ld1 h a2 (X12_turned_V ((4 * v_1) + u_0) 3 h) ∧ (((ah_i h a2 (Int32.toNatClampNeg (X12_turned_V ((4 * v_1) + u_0) 3 h))) = 0 → Q (some (.int (-1))) h) ∧ (¬ (ah_i h a2 (Int32.toNatClampNeg (X12_turned_V ((4 * v_1) + u_0) 3 h))) = 0 → Q (some (.int 1)) h))) : ex_G mX12_signAt (d + 1) 16 [.ref a_0, .int v_1, .retAddr 0] [.int u_0] h bc bs Q := by
  refine ex_istore_n (q := 17) (ls' := [.ref a_0, .int v_1, .int u_0]) dX12_signAt_16 rfl ?_
  refine ex_aload_n (q := 18) (x := a_0) dX12_signAt_17 rfl ?_
  have s1 := w.1
  replace w := w.2
  obtain ⟨a2, ea2, w⟩ := w
  refine ex_getr (q := 21) dX12_signAt_18 fl_X12_58 s1 ea2 ?_
  refine ex_iconst (q := 22) (v := 4) dX12_signAt_21 (by decide) ?_
  refine ex_iload_n (q := 23) (x := v_1) dX12_signAt_22 rfl ?_
  refine ex_imul (q := 24) dX12_signAt_23 ?_
  refine ex_iload_n (q := 25) (x := u_0) dX12_signAt_24 rfl ?_
  refine ex_iadd (q := 26) dX12_signAt_25 ?_
  refine ex_iconst (q := 27) (v := 3) dX12_signAt_26 (by decide) ?_
  refine ex_callS (q := 30) (M := mX12_signAt) (hdd := Nat.le_refl _) (mc := 0) (ms := 0) (d' := d) (st := [.ref a2]) (bc := bc) (bs := bs) dX12_signAt_27 rfl cl_X12_209 wd_1658 (X12_turned_s (Q := fun r z => r = some (.int (X12_turned_V ((4 * v_1) + u_0) 3 h)) ∧ z = h) ⟨rfl, rfl⟩) ?_
  intro r z hrz
  rw [hrz.1, hrz.2]
  show ex_G mX12_signAt (d + 1) 30 [.ref a_0, .int v_1, .int u_0] [.int (X12_turned_V ((4 * v_1) + u_0) 3 h), .ref a2] (h) bc bs Q
  have s3 := w.1
  replace w := w.2
  refine ex_bald (q := 31) dX12_signAt_30 s3 ?_
  refine ex_if_eq (tgt := 38) (q := 34) dX12_signAt_31 (fun c4 => ?_) (fun c4 => ?_)
  · replace w := w.1 c4
    refine ex_iconst (q := 39) (v := (-1)) dX12_signAt_38 (by decide) ?_
    exact ex_ireturn dX12_signAt_39 rfl (Or.inl rfl) w
  · replace w := w.2 c4
    refine ex_iconst (q := 35) (v := 1) dX12_signAt_34 (by decide) ?_
    refine ex_goto (tgt := 39) dX12_signAt_35 ?_
    exact ex_ireturn dX12_signAt_39 rfl (Or.inl rfl) w

theorem X12_signAt_e {d bc bs : Nat} {h : AH} {Q : Option Value → AH → Prop} {a_0 : Nat} {v_1 : Int32} (w : ex_G mX12_signAt (d + 1) 0 [.ref a_0, .int v_1, .retAddr 0] [] h bc bs Q) : ex_S yX12_signAt mX12_signAt (d + 1) [.ref a_0, .int v_1] h bc bs Q :=
  ex_enter (plainFor_of_name (by decide +kernel)) ⟨rfl, rfl⟩ rfl rfl (Nat.le_of_ble_eq_true rfl) (ex_pad 1 w)

set_option maxRecDepth 100000 in
theorem X12_writheOf_0 {d bc bs : Nat} {h : AH} {Q : Option Value → AH → Prop} {a_0 : Nat} {v_1 : Int32} (w : ah_o h a_0 12 ∧ ex_S yX12_piecesOf mX12_piecesOf (d + 1) [.ref a_0, .int v_1] h 0 0 (fun r h1 => ∃ x3, r = some (.int x3) ∧ ex_G mX12_writheOf (d + 2) 11 [.ref a_0, .int v_1, .retAddr 0, .int 0, .int 0] [] h1 bc bs Q)) : ex_G mX12_writheOf (d + 2) 0 [.ref a_0, .int v_1, .retAddr 0, .retAddr 0, .retAddr 0] [] h bc bs Q := by
  refine ex_aload_n (q := 1) (x := a_0) dX12_writheOf_0 rfl ?_
  refine ex_iload_n (q := 2) (x := v_1) dX12_writheOf_1 rfl ?_
  have s2 := w.1
  replace w := w.2
  refine ex_callV (q := 5) (M := mX12_writheOf) (hdd := Nat.le_refl _) (c := 12) (st := []) (bc := bc) (bs := bs) dX12_writheOf_2 rfl cl_X12_229 wd_1679 wd_58 s2 w ?_
  rintro r h1 ⟨x3, rfl, w⟩
  show ex_G mX12_writheOf (d + 2) 5 [.ref a_0, .int v_1, .retAddr 0, .retAddr 0, .retAddr 0] [.int x3] h1 bc bs Q
  refine ex_istore_n (q := 6) (ls' := [.ref a_0, .int v_1, .int x3, .retAddr 0, .retAddr 0]) dX12_writheOf_5 rfl ?_
  refine ex_iconst (q := 7) (v := 0) dX12_writheOf_6 (by decide) ?_
  refine ex_istore_n (q := 8) (ls' := [.ref a_0, .int v_1, .int x3, .int 0, .retAddr 0]) dX12_writheOf_7 rfl ?_
  refine ex_iconst (q := 9) (v := 0) dX12_writheOf_8 (by decide) ?_
  refine ex_istore (q := 11) (ls' := [.ref a_0, .int v_1, .int x3, .int 0, .int 0]) dX12_writheOf_9 rfl ?_
  refine ex_kill 2 (ls' := [.ref a_0, .int v_1, .retAddr 0, .int 0, .int 0]) rfl ?_
  exact w

set_option maxRecDepth 100000 in
theorem X12_writheOf_11 {d bc bs : Nat} {h : AH} {Q : Option Value → AH → Prop} {a_0 : Nat} {v_1 : Int32} {v_3 : Int32} {v_4 : Int32} (w : ah_o h a_0 12 ∧ ∃ a2, ah_r h a_0 2 = some a2 ∧ ld0 h a2 v_1 ∧ (((ah_i h a2 (Int32.toNatClampNeg v_1)) ≤ v_4 → Q (some (.int v_3)) h) ∧ (¬ (ah_i h a2 (Int32.toNatClampNeg v_1)) ≤ v_4 → ex_S yX12_signAt mX12_signAt (d + 1) [.ref a_0, .int v_4] h 0 0 (fun r h5 => ∃ x6, r = some (.int x6) ∧ ∀ x7, x7 = v_3 + x6 → ∀ x8, x8 = v_4 + 1 → ex_G mX12_writheOf (d + 2) 11 [.ref a_0, .int v_1, .retAddr 0, .int x7, .int x8] [] h5 bc bs Q)))) : ex_G mX12_writheOf (d + 2) 11 [.ref a_0, .int v_1, .retAddr 0, .int v_3, .int v_4] [] h bc bs Q := by
  refine ex_iload (q := 13) (x := v_4) dX12_writheOf_11 rfl ?_
  refine ex_aload_n (q := 14) (x := a_0) dX12_writheOf_13 rfl ?_
  have s1 := w.1
  replace w := w.2
  obtain ⟨a2, ea2, w⟩ := w
  refine ex_getr (q := 17) dX12_writheOf_14 fl_X12_13 s1 ea2 ?_
  refine ex_iload_n (q := 18) (x := v_1) dX12_writheOf_17 rfl ?_
  have s3 := w.1
  replace w := w.2
  refine ex_iald (q := 19) dX12_writheOf_18 s3 ?_
  refine ex_icmp_ge (tgt := 37) (q := 22) dX12_writheOf_19 (fun c4 => ?_) (fun c4 => ?_)
  · replace w := w.1 c4
    refine ex_iload_n (q := 38) (x := v_3) dX12_writheOf_37 rfl ?_
    exact ex_ireturn dX12_writheOf_38 rfl (Or.inl rfl) w
  · replace w := w.2 c4
    refine ex_iload_n (q := 23) (x := v_3) dX12_writheOf_22 rfl ?_
    refine ex_aload_n (q := 24) (x := a_0) dX12_writheOf_23 rfl ?_
    refine ex_iload (q := 26) (x := v_4) dX12_writheOf_24 rfl ?_
    refine ex_callV (q := 29) (M := mX12_writheOf) (hdd := Nat.le_refl _) (c := 12) (st := [.int v_3]) (bc := bc) (bs := bs) dX12_writheOf_26 rfl cl_X12_232 wd_1687 wd_60 s1 w ?_
    rintro r h5 ⟨x6, rfl, w⟩
    show ex_G mX12_writheOf (d + 2) 29 [.ref a_0, .int v_1, .retAddr 0, .int v_3, .int v_4] [.int x6, .int v_3] h5 bc bs Q
    refine ex_iadd (q := 30) dX12_writheOf_29 ?_
    refine ex_nmi (fun x7 ex7 => ?_)
    replace w := w x7 ex7
    refine ex_istore_n (q := 31) (ls' := [.ref a_0, .int v_1, .retAddr 0, .int x7, .int v_4]) dX12_writheOf_30 rfl ?_
    obtain ⟨x8, ex8⟩ : ∃ y : Int32, y = v_4 + 1 := ⟨_, rfl⟩
    replace w := w x8 ex8
    refine ex_iinc (q := 34) (x := v_4) (v := x8) (ls' := [.ref a_0, .int v_1, .retAddr 0, .int x7, .int x8]) dX12_writheOf_31 rfl (by rw [ex8]; rfl) rfl ?_
    refine ex_goto (tgt := 11) dX12_writheOf_34 ?_
    exact w

theorem X12_writheOf_e {d bc bs : Nat} {h : AH} {Q : Option Value → AH → Prop} {a_0 : Nat} {v_1 : Int32} (w : ex_G mX12_writheOf (d + 2) 0 [.ref a_0, .int v_1, .retAddr 0, .retAddr 0, .retAddr 0] [] h bc bs Q) : ex_S yX12_writheOf mX12_writheOf (d + 2) [.ref a_0, .int v_1] h bc bs Q :=
  ex_enter (plainFor_of_name (by decide +kernel)) ⟨rfl, rfl⟩ rfl rfl (Nat.le_of_ble_eq_true rfl) (ex_pad 3 w)

set_option maxRecDepth 100000 in
theorem X12_told_0 {d bc bs : Nat} {h : AH} {Q : Option Value → AH → Prop} {a_0 : Nat} {v_1 : Int32} {v_2 : Int32} (w : ah_o h a_0 12 ∧ X12_isPicture_C a_0 v_1 h ∧ (((X12_isPicture_V a_0 v_1 h) = 0 → X12_no_C a_0 (-2) h ∧ ∀ h5, h5 = X12_no_H a_0 (-2) h → Q (some (.int (X12_no_V a_0 (-2) h))) h5) ∧ (¬ (X12_isPicture_V a_0 v_1 h) = 0 → ((¬ (X12_in_V (Int32.toInt64 v_2) 0 5 h) = 0 → ((2 ≤ v_2 → ex_S yX12_refusal mX12_refusal (d + 4) [.ref a_0, .int v_1] h 0 0 (fun r h8 => ∃ x9, r = some (.int x9) ∧ ((0 ≤ x9 → ((¬ v_2 = 2 → ((¬ v_2 = 3 → ((¬ v_2 = 4 → ah_o h8 a_0 12 ∧ ex_S yX12_writheOf mX12_writheOf (d + 4) [.ref a_0, .int v_1] h8 0 0 (fun r h14 => ∃ x16, r = some (.int x16) ∧ ah_o h14 a_0 12 ∧ X12_well_C a_0 x16 h14 ∧ ∀ h19, h19 = X12_well_H a_0 x16 h14 → Q (some (.int (X12_well_V a_0 x16 h14))) h19)) ∧ (v_2 = 4 → ah_o h8 a_0 12 ∧ ex_S yX12_partsOf mX12_partsOf (d + 4) [.ref a_0, .int v_1] h8 0 0 (fun r h20 => ∃ x22, r = some (.int x22) ∧ ah_o h20 a_0 12 ∧ X12_well_C a_0 x22 h20 ∧ ∀ h25, h25 = X12_well_H a_0 x22 h20 → Q (some (.int (X12_well_V a_0 x22 h20))) h25)))) ∧ (v_2 = 3 → ah_o h8 a_0 12 ∧ ex_S yX12_facesOf mX12_facesOf (d + 4) [.ref a_0, .int v_1] h8 0 0 (fun r h26 => ∃ x28, r = some (.int x28) ∧ ah_o h26 a_0 12 ∧ X12_well_C a_0 x28 h26 ∧ ∀ h31, h31 = X12_well_H a_0 x28 h26 → Q (some (.int (X12_well_V a_0 x28 h26))) h31)))) ∧ (v_2 = 2 → ah_o h8 a_0 12 ∧ ex_S yX12_piecesOf mX12_piecesOf (d + 4) [.ref a_0, .int v_1] h8 0 0 (fun r h32 => ∃ x34, r = some (.int x34) ∧ ah_o h32 a_0 12 ∧ ∃ a36, ah_r h32 a_0 3 = some a36 ∧ ld0 h32 a36 v_1 ∧ X12_well_C a_0 (x34 + (ah_i h32 a36 (Int32.toNatClampNeg v_1))) h32 ∧ ∀ h39, h39 = X12_well_H a_0 (x34 + (ah_i h32 a36 (Int32.toNatClampNeg v_1))) h32 → Q (some (.int (X12_well_V a_0 (x34 + (ah_i h32 a36 (Int32.toNatClampNeg v_1))) h32))) h39)))) ∧ (¬ 0 ≤ x9 → Q (some (.int x9)) h8)))) ∧ (¬ 2 ≤ v_2 → ((¬ v_2 = 0 → ∃ a41, ah_r h a_0 3 = some a41 ∧ ld0 h a41 v_1 ∧ X12_well_C a_0 (ah_i h a41 (Int32.toNatClampNeg v_1)) h ∧ ∀ h44, h44 = X12_well_H a_0 (ah_i h a41 (Int32.toNatClampNeg v_1)) h → Q (some (.int (X12_well_V a_0 (ah_i h a41 (Int32.toNatClampNeg v_1)) h))) h44) ∧ (v_2 = 0 → ∃ a45, ah_r h a_0 2 = some a45 ∧ ld0 h a45 v_1 ∧ X12_well_C a_0 (ah_i h a45 (Int32.toNatClampNeg v_1)) h ∧ ∀ h48, h48 = X12_well_H a_0 (ah_i h a45 (Int32.toNatClampNeg v_1)) h → Q (some (.int (X12_well_V a_0 (ah_i h a45 (Int32.toNatClampNeg v_1)) h))) h48))))) ∧ ((X12_in_V (Int32.toInt64 v_2) 0 5 h) = 0 → X12_no_C a_0 (-2) h ∧ ∀ h50, h50 = X12_no_H a_0 (-2) h → Q (some (.int (X12_no_V a_0 (-2) h))) h50))))) : ex_G mX12_told (d + 5) 0 [.ref a_0, .int v_1, .int v_2, .retAddr 0] [] h bc bs Q := by
  refine ex_aload_n (q := 1) (x := a_0) dX12_told_0 rfl ?_
  refine ex_iload_n (q := 2) (x := v_1) dX12_told_1 rfl ?_
  have s1 := w.1
  replace w := w.2
  have s2 := w.1
  replace w := w.2
  refine ex_callV (q := 5) (M := mX12_told) (hdd := Nat.le_refl _) (mc := 0) (ms := 0) (d' := (d + 4)) (c := 12) (st := []) (bc := bc) (bs := bs) dX12_told_2 rfl cl_X12_187 wd_1593 wd_48 s1 (X12_isPicture_s (Q := fun r z => r = some (.int (X12_isPicture_V a_0 v_1 h)) ∧ z = h) s2 ⟨rfl, rfl⟩) ?_
  intro r z hrz
  rw [hrz.1, hrz.2]
  show ex_G mX12_told (d + 5) 5 [.ref a_0, .int v_1, .int v_2, .retAddr 0] [.int (X12_isPicture_V a_0 v_1 h)] (h) bc bs Q
  refine ex_if_eq (tgt := 20) (q := 8) dX12_told_5 (fun c3 => ?_) (fun c3 => ?_)
  · replace w := w.1 c3
    refine ex_aload_n (q := 21) (x := a_0) dX12_told_20 rfl ?_
    refine ex_bipush (q := 23) (v := (-2)) dX12_told_21 (by decide) ?_
    have s4 := w.1
    replace w := w.2
    refine ex_callV (q := 26) (M := mX12_told) (hdd := Nat.le_refl _) (mc := 0) (ms := 0) (d' := (d + 4)) (c := 12) (st := []) (bc := bc) (bs := bs) dX12_told_23 rfl cl_X12_165 wd_1581 wd_46 s1 (X12_no_s (Q := fun r z => r = some (.int (X12_no_V a_0 (-2) h)) ∧ z = X12_no_H a_0 (-2) h) s4 ⟨rfl, rfl⟩) ?_
    intro r z hrz
    rw [hrz.1, hrz.2]
    show ex_G mX12_told (d + 5) 26 [.ref a_0, .int v_1, .int v_2, .retAddr 0] [.int (X12_no_V a_0 (-2) h)] (X12_no_H a_0 (-2) h) bc bs Q
    refine ex_nmh (fun h5 eh5 => ?_)
    replace w := w h5 eh5
    exact ex_ireturn dX12_told_26 rfl (Or.inl rfl) w
  · replace w := w.2 c3
    refine ex_iload_n (q := 9) (x := v_2) dX12_told_8 rfl ?_
    refine ex_i2l (q := 10) dX12_told_9 ?_
    refine ex_lconst (q := 11) (v := 0) dX12_told_10 (by decide) ?_
    refine ex_ldc2_w (q := 14) (v := 5) dX12_told_11 wd_1672 ?_
    refine ex_callS (q := 17) (M := mX12_told) (hdd := Nat.le_refl _) (mc := 0) (ms := 0) (d' := (d + 4)) (st := []) (bc := bc) (bs := bs) dX12_told_14 rfl cl_X12_172 wd_1596 (X12_in_s (Q := fun r z => r = some (.int (X12_in_V (Int32.toInt64 v_2) 0 5 h)) ∧ z = h) ⟨rfl, rfl⟩) ?_
    intro r z hrz
    rw [hrz.1, hrz.2]
    show ex_G mX12_told (d + 5) 17 [.ref a_0, .int v_1, .int v_2, .retAddr 0] [.int (X12_in_V (Int32.toInt64 v_2) 0 5 h)] (h) bc bs Q
    refine ex_if_ne (tgt := 27) (q := 20) dX12_told_17 (fun c6 => ?_) (fun c6 => ?_)
    · replace w := w.1 c6
      refine ex_iload_n (q := 28) (x := v_2) dX12_told_27 rfl ?_
      refine ex_iconst (q := 29) (v := 2) dX12_told_28 (by decide) ?_
      refine ex_icmp_ge (tgt := 56) (q := 32) dX12_told_29 (fun c7 => ?_) (fun c7 => ?_)
      · replace w := w.1 c7
        refine ex_aload_n (q := 57) (x := a_0) dX12_told_56 rfl ?_
        refine ex_iload_n (q := 58) (x := v_1) dX12_told_57 rfl ?_
        refine ex_callV (q := 61) (M := mX12_told) (hdd := Nat.le_refl _) (c := 12) (st := []) (bc := bc) (bs := bs) dX12_told_58 rfl cl_X12_237 wd_1675 wd_57 s1 w ?_
        rintro r h8 ⟨x9, rfl, w⟩
        show ex_G mX12_told (d + 5) 61 [.ref a_0, .int v_1, .int v_2, .retAddr 0] [.int x9] h8 bc bs Q
        refine ex_istore_n (q := 62) (ls' := [.ref a_0, .int v_1, .int v_2, .int x9]) dX12_told_61 rfl ?_
        refine ex_iload_n (q := 63) (x := x9) dX12_told_62 rfl ?_
        refine ex_if_ge (tgt := 68) (q := 66) dX12_told_63 (fun c10 => ?_) (fun c10 => ?_)
        · replace w := w.1 c10
          refine ex_aload_n (q := 69) (x := a_0) dX12_told_68 rfl ?_
          refine ex_iload_n (q := 70) (x := v_2) dX12_told_69 rfl ?_
          refine ex_iconst (q := 71) (v := 2) dX12_told_70 (by decide) ?_
          refine ex_icmp_ne (tgt := 89) (q := 74) dX12_told_71 (fun c11 => ?_) (fun c11 => ?_)
          · replace w := w.1 c11
            refine ex_iload_n (q := 90) (x := v_2) dX12_told_89 rfl ?_
            refine ex_iconst (q := 91) (v := 3) dX12_told_90 (by decide) ?_
            refine ex_icmp_ne (tgt := 102) (q := 94) dX12_told_91 (fun c12 => ?_) (fun c12 => ?_)
            · replace w := w.1 c12
              refine ex_iload_n (q := 103) (x := v_2) dX12_told_102 rfl ?_
              refine ex_iconst (q := 104) (v := 4) dX12_told_103 (by decide) ?_
              refine ex_icmp_ne (tgt := 115) (q := 107) dX12_told_104 (fun c13 => ?_) (fun c13 => ?_)
              · replace w := w.1 c13
                refine ex_aload_n (q := 116) (x := a_0) dX12_told_115 rfl ?_
                refine ex_iload_n (q := 117) (x := v_1) dX12_told_116 rfl ?_
                have s15 := w.1
                replace w := w.2
                refine ex_callV (q := 120) (M := mX12_told) (hdd := Nat.le_refl _) (c := 12) (st := [.ref a_0]) (bc := bc) (bs := bs) dX12_told_117 rfl cl_X12_240 wd_1683 wd_59 s15 w ?_
                rintro r h14 ⟨x16, rfl, w⟩
                show ex_G mX12_told (d + 5) 120 [.ref a_0, .int v_1, .int v_2, .int x9] [.int x16, .ref a_0] h14 bc bs Q
                have s17 := w.1
                replace w := w.2
                have s18 := w.1
                replace w := w.2
                refine ex_callV (q := 123) (M := mX12_told) (hdd := Nat.le_refl _) (mc := 0) (ms := 0) (d' := (d + 4)) (c := 12) (st := []) (bc := bc) (bs := bs) dX12_told_120 rfl cl_X12_180 wd_1585 wd_47 s17 (X12_well_s (Q := fun r z => r = some (.int (X12_well_V a_0 x16 h14)) ∧ z = X12_well_H a_0 x16 h14) s18 ⟨rfl, rfl⟩) ?_
                intro r z hrz
                rw [hrz.1, hrz.2]
                show ex_G mX12_told (d + 5) 123 [.ref a_0, .int v_1, .int v_2, .int x9] [.int (X12_well_V a_0 x16 h14)] (X12_well_H a_0 x16 h14) bc bs Q
                refine ex_nmh (fun h19 eh19 => ?_)
                replace w := w h19 eh19
                exact ex_ireturn dX12_told_123 rfl (Or.inl rfl) w
              · replace w := w.2 c13
                refine ex_aload_n (q := 108) (x := a_0) dX12_told_107 rfl ?_
                refine ex_iload_n (q := 109) (x := v_1) dX12_told_108 rfl ?_
                have s21 := w.1
                replace w := w.2
                refine ex_callV (q := 112) (M := mX12_told) (hdd := Nat.le_refl _) (c := 12) (st := [.ref a_0]) (bc := bc) (bs := bs) dX12_told_109 rfl cl_X12_223 wd_1662 wd_56 s21 w ?_
                rintro r h20 ⟨x22, rfl, w⟩
                show ex_G mX12_told (d + 5) 112 [.ref a_0, .int v_1, .int v_2, .int x9] [.int x22, .ref a_0] h20 bc bs Q
                refine ex_goto (tgt := 120) dX12_told_112 ?_
                have s23 := w.1
                replace w := w.2
                have s24 := w.1
                replace w := w.2
                refine ex_callV (q := 123) (M := mX12_told) (hdd := Nat.le_refl _) (mc := 0) (ms := 0) (d' := (d + 4)) (c := 12) (st := []) (bc := bc) (bs := bs) dX12_told_120 rfl cl_X12_180 wd_1585 wd_47 s23 (X12_well_s (Q := fun r z => r = some (.int (X12_well_V a_0 x22 h20)) ∧ z = X12_well_H a_0 x22 h20) s24 ⟨rfl, rfl⟩) ?_
                intro r z hrz
                rw [hrz.1, hrz.2]
                show ex_G mX12_told (d + 5) 123 [.ref a_0, .int v_1, .int v_2, .int x9] [.int (X12_well_V a_0 x22 h20)] (X12_well_H a_0 x22 h20) bc bs Q
                refine ex_nmh (fun h25 eh25 => ?_)
                replace w := w h25 eh25
                exact ex_ireturn dX12_told_123 rfl (Or.inl rfl) w
            · replace w := w.2 c12
              refine ex_aload_n (q := 95) (x := a_0) dX12_told_94 rfl ?_
              refine ex_iload_n (q := 96) (x := v_1) dX12_told_95 rfl ?_
              have s27 := w.1
              replace w := w.2
              refine ex_callV (q := 99) (M := mX12_told) (hdd := Nat.le_refl _) (c := 12) (st := [.ref a_0]) (bc := bc) (bs := bs) dX12_told_96 rfl cl_X12_220 wd_1651 wd_54 s27 w ?_
              rintro r h26 ⟨x28, rfl, w⟩
              show ex_G mX12_told (d + 5) 99 [.ref a_0, .int v_1, .int v_2, .int x9] [.int x28, .ref a_0] h26 bc bs Q
              refine ex_goto (tgt := 120) dX12_told_99 ?_
              have s29 := w.1
              replace w := w.2
              have s30 := w.1
              replace w := w.2
              refine ex_callV (q := 123) (M := mX12_told) (hdd := Nat.le_refl _) (mc := 0) (ms := 0) (d' := (d + 4)) (c := 12) (st := []) (bc := bc) (bs := bs) dX12_told_120 rfl cl_X12_180 wd_1585 wd_47 s29 (X12_well_s (Q := fun r z => r = some (.int (X12_well_V a_0 x28 h26)) ∧ z = X12_well_H a_0 x28 h26) s30 ⟨rfl, rfl⟩) ?_
              intro r z hrz
              rw [hrz.1, hrz.2]
              show ex_G mX12_told (d + 5) 123 [.ref a_0, .int v_1, .int v_2, .int x9] [.int (X12_well_V a_0 x28 h26)] (X12_well_H a_0 x28 h26) bc bs Q
              refine ex_nmh (fun h31 eh31 => ?_)
              replace w := w h31 eh31
              exact ex_ireturn dX12_told_123 rfl (Or.inl rfl) w
          · replace w := w.2 c11
            refine ex_aload_n (q := 75) (x := a_0) dX12_told_74 rfl ?_
            refine ex_iload_n (q := 76) (x := v_1) dX12_told_75 rfl ?_
            have s33 := w.1
            replace w := w.2
            refine ex_callV (q := 79) (M := mX12_told) (hdd := Nat.le_refl _) (c := 12) (st := [.ref a_0]) (bc := bc) (bs := bs) dX12_told_76 rfl cl_X12_229 wd_1679 wd_58 s33 w ?_
            rintro r h32 ⟨x34, rfl, w⟩
            show ex_G mX12_told (d + 5) 79 [.ref a_0, .int v_1, .int v_2, .int x9] [.int x34, .ref a_0] h32 bc bs Q
            refine ex_aload_n (q := 80) (x := a_0) dX12_told_79 rfl ?_
            have s35 := w.1
            replace w := w.2
            obtain ⟨a36, ea36, w⟩ := w
            refine ex_getr (q := 83) dX12_told_80 fl_X12_16 s35 ea36 ?_
            refine ex_iload_n (q := 84) (x := v_1) dX12_told_83 rfl ?_
            have s37 := w.1
            replace w := w.2
            refine ex_iald (q := 85) dX12_told_84 s37 ?_
            refine ex_iadd (q := 86) dX12_told_85 ?_
            refine ex_goto (tgt := 120) dX12_told_86 ?_
            have s38 := w.1
            replace w := w.2
            refine ex_callV (q := 123) (M := mX12_told) (hdd := Nat.le_refl _) (mc := 0) (ms := 0) (d' := (d + 4)) (c := 12) (st := []) (bc := bc) (bs := bs) dX12_told_120 rfl cl_X12_180 wd_1585 wd_47 s35 (X12_well_s (Q := fun r z => r = some (.int (X12_well_V a_0 (x34 + (ah_i h32 a36 (Int32.toNatClampNeg v_1))) h32)) ∧ z = X12_well_H a_0 (x34 + (ah_i h32 a36 (Int32.toNatClampNeg v_1))) h32) s38 ⟨rfl, rfl⟩) ?_
            intro r z hrz
            rw [hrz.1, hrz.2]
            show ex_G mX12_told (d + 5) 123 [.ref a_0, .int v_1, .int v_2, .int x9] [.int (X12_well_V a_0 (x34 + (ah_i h32 a36 (Int32.toNatClampNeg v_1))) h32)] (X12_well_H a_0 (x34 + (ah_i h32 a36 (Int32.toNatClampNeg v_1))) h32) bc bs Q
            refine ex_nmh (fun h39 eh39 => ?_)
            replace w := w h39 eh39
            exact ex_ireturn dX12_told_123 rfl (Or.inl rfl) w
        · replace w := w.2 c10
          refine ex_iload_n (q := 67) (x := x9) dX12_told_66 rfl ?_
          exact ex_ireturn dX12_told_67 rfl (Or.inl rfl) w
      · replace w := w.2 c7
        refine ex_aload_n (q := 33) (x := a_0) dX12_told_32 rfl ?_
        refine ex_iload_n (q := 34) (x := v_2) dX12_told_33 rfl ?_
        refine ex_if_ne (tgt := 46) (q := 37) dX12_told_34 (fun c40 => ?_) (fun c40 => ?_)
        · replace w := w.1 c40
          refine ex_aload_n (q := 47) (x := a_0) dX12_told_46 rfl ?_
          obtain ⟨a41, ea41, w⟩ := w
          refine ex_getr (q := 50) dX12_told_47 fl_X12_16 s1 ea41 ?_
          refine ex_iload_n (q := 51) (x := v_1) dX12_told_50 rfl ?_
          have s42 := w.1
          replace w := w.2
          refine ex_iald (q := 52) dX12_told_51 s42 ?_
          have s43 := w.1
          replace w := w.2
          refine ex_callV (q := 55) (M := mX12_told) (hdd := Nat.le_refl _) (mc := 0) (ms := 0) (d' := (d + 4)) (c := 12) (st := []) (bc := bc) (bs := bs) dX12_told_52 rfl cl_X12_180 wd_1585 wd_47 s1 (X12_well_s (Q := fun r z => r = some (.int (X12_well_V a_0 (ah_i h a41 (Int32.toNatClampNeg v_1)) h)) ∧ z = X12_well_H a_0 (ah_i h a41 (Int32.toNatClampNeg v_1)) h) s43 ⟨rfl, rfl⟩) ?_
          intro r z hrz
          rw [hrz.1, hrz.2]
          show ex_G mX12_told (d + 5) 55 [.ref a_0, .int v_1, .int v_2, .retAddr 0] [.int (X12_well_V a_0 (ah_i h a41 (Int32.toNatClampNeg v_1)) h)] (X12_well_H a_0 (ah_i h a41 (Int32.toNatClampNeg v_1)) h) bc bs Q
          refine ex_nmh (fun h44 eh44 => ?_)
          replace w := w h44 eh44
          exact ex_ireturn dX12_told_55 rfl (Or.inl rfl) w
        · replace w := w.2 c40
          refine ex_aload_n (q := 38) (x := a_0) dX12_told_37 rfl ?_
          obtain ⟨a45, ea45, w⟩ := w
          refine ex_getr (q := 41) dX12_told_38 fl_X12_13 s1 ea45 ?_
          refine ex_iload_n (q := 42) (x := v_1) dX12_told_41 rfl ?_
          have s46 := w.1
          replace w := w.2
          refine ex_iald (q := 43) dX12_told_42 s46 ?_
          refine ex_goto (tgt := 52) dX12_told_43 ?_
          have s47 := w.1
          replace w := w.2
          refine ex_callV (q := 55) (M := mX12_told) (hdd := Nat.le_refl _) (mc := 0) (ms := 0) (d' := (d + 4)) (c := 12) (st := []) (bc := bc) (bs := bs) dX12_told_52 rfl cl_X12_180 wd_1585 wd_47 s1 (X12_well_s (Q := fun r z => r = some (.int (X12_well_V a_0 (ah_i h a45 (Int32.toNatClampNeg v_1)) h)) ∧ z = X12_well_H a_0 (ah_i h a45 (Int32.toNatClampNeg v_1)) h) s47 ⟨rfl, rfl⟩) ?_
          intro r z hrz
          rw [hrz.1, hrz.2]
          show ex_G mX12_told (d + 5) 55 [.ref a_0, .int v_1, .int v_2, .retAddr 0] [.int (X12_well_V a_0 (ah_i h a45 (Int32.toNatClampNeg v_1)) h)] (X12_well_H a_0 (ah_i h a45 (Int32.toNatClampNeg v_1)) h) bc bs Q
          refine ex_nmh (fun h48 eh48 => ?_)
          replace w := w h48 eh48
          exact ex_ireturn dX12_told_55 rfl (Or.inl rfl) w
    · replace w := w.2 c6
      refine ex_aload_n (q := 21) (x := a_0) dX12_told_20 rfl ?_
      refine ex_bipush (q := 23) (v := (-2)) dX12_told_21 (by decide) ?_
      have s49 := w.1
      replace w := w.2
      refine ex_callV (q := 26) (M := mX12_told) (hdd := Nat.le_refl _) (mc := 0) (ms := 0) (d' := (d + 4)) (c := 12) (st := []) (bc := bc) (bs := bs) dX12_told_23 rfl cl_X12_165 wd_1581 wd_46 s1 (X12_no_s (Q := fun r z => r = some (.int (X12_no_V a_0 (-2) h)) ∧ z = X12_no_H a_0 (-2) h) s49 ⟨rfl, rfl⟩) ?_
      intro r z hrz
      rw [hrz.1, hrz.2]
      show ex_G mX12_told (d + 5) 26 [.ref a_0, .int v_1, .int v_2, .retAddr 0] [.int (X12_no_V a_0 (-2) h)] (X12_no_H a_0 (-2) h) bc bs Q
      refine ex_nmh (fun h50 eh50 => ?_)
      replace w := w h50 eh50
      exact ex_ireturn dX12_told_26 rfl (Or.inl rfl) w

theorem X12_told_e {d bc bs : Nat} {h : AH} {Q : Option Value → AH → Prop} {a_0 : Nat} {v_1 : Int32} {v_2 : Int32} (w : ex_G mX12_told (d + 5) 0 [.ref a_0, .int v_1, .int v_2, .retAddr 0] [] h bc bs Q) : ex_S yX12_told mX12_told (d + 5) [.ref a_0, .int v_1, .int v_2] h bc bs Q :=
  ex_enter (plainFor_of_name (by decide +kernel)) ⟨rfl, rfl⟩ rfl rfl (Nat.le_of_ble_eq_true rfl) (ex_pad 1 w)

set_option maxRecDepth 100000 in
theorem X12_sign_0 {d bc bs : Nat} {h : AH} {Q : Option Value → AH → Prop} {a_0 : Nat} {v_1 : Int32} {v_2 : Int32} (w : ah_o h a_0 12 ∧ ex_S yX12_refusal mX12_refusal (d + 4) [.ref a_0, .int v_1] h 0 0 (fun r h1 => ∃ x3, r = some (.int x3) ∧ ((0 ≤ x3 → ah_o h1 a_0 12 ∧ ∃ a6, ah_r h1 a_0 2 = some a6 ∧ ld0 h1 a6 v_1 ∧ ((¬ (X12_in_V (Int32.toInt64 v_2) 0 (Int32.toInt64 ((ah_i h1 a6 (Int32.toNatClampNeg v_1)) - 1)) h1) = 0 → ex_S yX12_piecesOf mX12_piecesOf (d + 4) [.ref a_0, .int v_1] h1 0 0 (fun r h9 => ∃ x10, r = some (.int x10) ∧ ah_o h9 a_0 12 ∧ ex_S yX12_signAt mX12_signAt (d + 4) [.ref a_0, .int v_2] h9 0 0 (fun r h11 => ∃ x13, r = some (.int x13) ∧ ah_o h11 a_0 12 ∧ X12_well_C a_0 x13 h11 ∧ ∀ h16, h16 = X12_well_H a_0 x13 h11 → Q (some (.int (X12_well_V a_0 x13 h11))) h16))) ∧ ((X12_in_V (Int32.toInt64 v_2) 0 (Int32.toInt64 ((ah_i h1 a6 (Int32.toNatClampNeg v_1)) - 1)) h1) = 0 → X12_meets_C a_0 2 h1 ∧ ∀ h18, h18 = X12_meets_H a_0 2 h1 → Q (some (.int (X12_meets_V a_0 2 h1))) h18))) ∧ (¬ 0 ≤ x3 → Q (some (.int x3)) h1)))) : ex_G mX12_sign (d + 5) 0 [.ref a_0, .int v_1, .int v_2, .retAddr 0, .retAddr 0] [] h bc bs Q := by
  refine ex_aload_n (q := 1) (x := a_0) dX12_sign_0 rfl ?_
  refine ex_iload_n (q := 2) (x := v_1) dX12_sign_1 rfl ?_
  have s2 := w.1
  replace w := w.2
  refine ex_callV (q := 5) (M := mX12_sign) (hdd := Nat.le_refl _) (c := 12) (st := []) (bc := bc) (bs := bs) dX12_sign_2 rfl cl_X12_237 wd_1675 wd_57 s2 w ?_
  rintro r h1 ⟨x3, rfl, w⟩
  show ex_G mX12_sign (d + 5) 5 [.ref a_0, .int v_1, .int v_2, .retAddr 0, .retAddr 0] [.int x3] h1 bc bs Q
  refine ex_istore_n (q := 6) (ls' := [.ref a_0, .int v_1, .int v_2, .int x3, .retAddr 0]) dX12_sign_5 rfl ?_
  refine ex_iload_n (q := 7) (x := x3) dX12_sign_6 rfl ?_
  refine ex_if_ge (tgt := 12) (q := 10) dX12_sign_7 (fun c4 => ?_) (fun c4 => ?_)
  · replace w := w.1 c4
    refine ex_iload_n (q := 13) (x := v_2) dX12_sign_12 rfl ?_
    refine ex_i2l (q := 14) dX12_sign_13 ?_
    refine ex_lconst (q := 15) (v := 0) dX12_sign_14 (by decide) ?_
    refine ex_aload_n (q := 16) (x := a_0) dX12_sign_15 rfl ?_
    have s5 := w.1
    replace w := w.2
    obtain ⟨a6, ea6, w⟩ := w
    refine ex_getr (q := 19) dX12_sign_16 fl_X12_13 s5 ea6 ?_
    refine ex_iload_n (q := 20) (x := v_1) dX12_sign_19 rfl ?_
    have s7 := w.1
    replace w := w.2
    refine ex_iald (q := 21) dX12_sign_20 s7 ?_
    refine ex_iconst (q := 22) (v := 1) dX12_sign_21 (by decide) ?_
    refine ex_isub (q := 23) dX12_sign_22 ?_
    refine ex_i2l (q := 24) dX12_sign_23 ?_
    refine ex_callS (q := 27) (M := mX12_sign) (hdd := Nat.le_refl _) (mc := 0) (ms := 0) (d' := (d + 4)) (st := []) (bc := bc) (bs := bs) dX12_sign_24 rfl cl_X12_172 wd_1596 (X12_in_s (Q := fun r z => r = some (.int (X12_in_V (Int32.toInt64 v_2) 0 (Int32.toInt64 ((ah_i h1 a6 (Int32.toNatClampNeg v_1)) - 1)) h1)) ∧ z = h1) ⟨rfl, rfl⟩) ?_
    intro r z hrz
    rw [hrz.1, hrz.2]
    show ex_G mX12_sign (d + 5) 27 [.ref a_0, .int v_1, .int v_2, .int x3, .retAddr 0] [.int (X12_in_V (Int32.toInt64 v_2) 0 (Int32.toInt64 ((ah_i h1 a6 (Int32.toNatClampNeg v_1)) - 1)) h1)] (h1) bc bs Q
    refine ex_if_ne (tgt := 36) (q := 30) dX12_sign_27 (fun c8 => ?_) (fun c8 => ?_)
    · replace w := w.1 c8
      refine ex_aload_n (q := 37) (x := a_0) dX12_sign_36 rfl ?_
      refine ex_iload_n (q := 38) (x := v_1) dX12_sign_37 rfl ?_
      refine ex_callV (q := 41) (M := mX12_sign) (hdd := Nat.le_refl _) (c := 12) (st := []) (bc := bc) (bs := bs) dX12_sign_38 rfl cl_X12_229 wd_1679 wd_58 s5 w ?_
      rintro r h9 ⟨x10, rfl, w⟩
      show ex_G mX12_sign (d + 5) 41 [.ref a_0, .int v_1, .int v_2, .int x3, .retAddr 0] [.int x10] h9 bc bs Q
      refine ex_istore (q := 43) (ls' := [.ref a_0, .int v_1, .int v_2, .int x3, .int x10]) dX12_sign_41 rfl ?_
      refine ex_aload_n (q := 44) (x := a_0) dX12_sign_43 rfl ?_
      refine ex_aload_n (q := 45) (x := a_0) dX12_sign_44 rfl ?_
      refine ex_iload_n (q := 46) (x := v_2) dX12_sign_45 rfl ?_
      have s12 := w.1
      replace w := w.2
      refine ex_callV (q := 49) (M := mX12_sign) (hdd := Nat.le_refl _) (c := 12) (st := [.ref a_0]) (bc := bc) (bs := bs) dX12_sign_46 rfl cl_X12_232 wd_1687 wd_60 s12 w ?_
      rintro r h11 ⟨x13, rfl, w⟩
      show ex_G mX12_sign (d + 5) 49 [.ref a_0, .int v_1, .int v_2, .int x3, .int x10] [.int x13, .ref a_0] h11 bc bs Q
      have s14 := w.1
      replace w := w.2
      have s15 := w.1
      replace w := w.2
      refine ex_callV (q := 52) (M := mX12_sign) (hdd := Nat.le_refl _) (mc := 0) (ms := 0) (d' := (d + 4)) (c := 12) (st := []) (bc := bc) (bs := bs) dX12_sign_49 rfl cl_X12_180 wd_1585 wd_47 s14 (X12_well_s (Q := fun r z => r = some (.int (X12_well_V a_0 x13 h11)) ∧ z = X12_well_H a_0 x13 h11) s15 ⟨rfl, rfl⟩) ?_
      intro r z hrz
      rw [hrz.1, hrz.2]
      show ex_G mX12_sign (d + 5) 52 [.ref a_0, .int v_1, .int v_2, .int x3, .int x10] [.int (X12_well_V a_0 x13 h11)] (X12_well_H a_0 x13 h11) bc bs Q
      refine ex_nmh (fun h16 eh16 => ?_)
      replace w := w h16 eh16
      exact ex_ireturn dX12_sign_52 rfl (Or.inl rfl) w
    · replace w := w.2 c8
      refine ex_aload_n (q := 31) (x := a_0) dX12_sign_30 rfl ?_
      refine ex_iconst (q := 32) (v := 2) dX12_sign_31 (by decide) ?_
      have s17 := w.1
      replace w := w.2
      refine ex_callV (q := 35) (M := mX12_sign) (hdd := Nat.le_refl _) (mc := 0) (ms := 0) (d' := (d + 4)) (c := 12) (st := []) (bc := bc) (bs := bs) dX12_sign_32 rfl cl_X12_200 wd_1614 wd_50 s5 (X12_meets_s (Q := fun r z => r = some (.int (X12_meets_V a_0 2 h1)) ∧ z = X12_meets_H a_0 2 h1) s17 ⟨rfl, rfl⟩) ?_
      intro r z hrz
      rw [hrz.1, hrz.2]
      show ex_G mX12_sign (d + 5) 35 [.ref a_0, .int v_1, .int v_2, .int x3, .retAddr 0] [.int (X12_meets_V a_0 2 h1)] (X12_meets_H a_0 2 h1) bc bs Q
      refine ex_nmh (fun h18 eh18 => ?_)
      replace w := w h18 eh18
      exact ex_ireturn dX12_sign_35 rfl (Or.inl rfl) w
  · replace w := w.2 c4
    refine ex_iload_n (q := 11) (x := x3) dX12_sign_10 rfl ?_
    exact ex_ireturn dX12_sign_11 rfl (Or.inl rfl) w

theorem X12_sign_e {d bc bs : Nat} {h : AH} {Q : Option Value → AH → Prop} {a_0 : Nat} {v_1 : Int32} {v_2 : Int32} (w : ex_G mX12_sign (d + 5) 0 [.ref a_0, .int v_1, .int v_2, .retAddr 0, .retAddr 0] [] h bc bs Q) : ex_S yX12_sign mX12_sign (d + 5) [.ref a_0, .int v_1, .int v_2] h bc bs Q :=
  ex_enter (plainFor_of_name (by decide +kernel)) ⟨rfl, rfl⟩ rfl rfl (Nat.le_of_ble_eq_true rfl) (ex_pad 2 w)

set_option maxRecDepth 100000 in
theorem X12_pieceOf_0 {d bc bs : Nat} {h : AH} {Q : Option Value → AH → Prop} {a_0 : Nat} {v_1 : Int32} {v_2 : Int32} (w : ah_o h a_0 12 ∧ ex_S yX12_refusal mX12_refusal (d + 4) [.ref a_0, .int v_1] h 0 0 (fun r h1 => ∃ x3, r = some (.int x3) ∧ ((0 ≤ x3 → ah_o h1 a_0 12 ∧ ∃ a6, ah_r h1 a_0 2 = some a6 ∧ ld0 h1 a6 v_1 ∧ ((¬ (X12_in_V (Int32.toInt64 v_2) 0 (Int32.toInt64 ((4 * (ah_i h1 a6 (Int32.toNatClampNeg v_1))) - 1)) h1) = 0 → ex_S yX12_piecesOf mX12_piecesOf (d + 4) [.ref a_0, .int v_1] h1 0 0 (fun r h9 => ∃ x10, r = some (.int x10) ∧ ah_o h9 a_0 12 ∧ ∃ a12, ah_r h9 a_0 16 = some a12 ∧ ld0 h9 a12 v_2 ∧ X12_well_C a_0 (ah_i h9 a12 (Int32.toNatClampNeg v_2)) h9 ∧ ∀ h15, h15 = X12_well_H a_0 (ah_i h9 a12 (Int32.toNatClampNeg v_2)) h9 → Q (some (.int (X12_well_V a_0 (ah_i h9 a12 (Int32.toNatClampNeg v_2)) h9))) h15)) ∧ ((X12_in_V (Int32.toInt64 v_2) 0 (Int32.toInt64 ((4 * (ah_i h1 a6 (Int32.toNatClampNeg v_1))) - 1)) h1) = 0 → X12_meets_C a_0 2 h1 ∧ ∀ h17, h17 = X12_meets_H a_0 2 h1 → Q (some (.int (X12_meets_V a_0 2 h1))) h17))) ∧ (¬ 0 ≤ x3 → Q (some (.int x3)) h1)))) : ex_G mX12_pieceOf (d + 5) 0 [.ref a_0, .int v_1, .int v_2, .retAddr 0, .retAddr 0] [] h bc bs Q := by
  refine ex_aload_n (q := 1) (x := a_0) dX12_pieceOf_0 rfl ?_
  refine ex_iload_n (q := 2) (x := v_1) dX12_pieceOf_1 rfl ?_
  have s2 := w.1
  replace w := w.2
  refine ex_callV (q := 5) (M := mX12_pieceOf) (hdd := Nat.le_refl _) (c := 12) (st := []) (bc := bc) (bs := bs) dX12_pieceOf_2 rfl cl_X12_237 wd_1675 wd_57 s2 w ?_
  rintro r h1 ⟨x3, rfl, w⟩
  show ex_G mX12_pieceOf (d + 5) 5 [.ref a_0, .int v_1, .int v_2, .retAddr 0, .retAddr 0] [.int x3] h1 bc bs Q
  refine ex_istore_n (q := 6) (ls' := [.ref a_0, .int v_1, .int v_2, .int x3, .retAddr 0]) dX12_pieceOf_5 rfl ?_
  refine ex_iload_n (q := 7) (x := x3) dX12_pieceOf_6 rfl ?_
  refine ex_if_ge (tgt := 12) (q := 10) dX12_pieceOf_7 (fun c4 => ?_) (fun c4 => ?_)
  · replace w := w.1 c4
    refine ex_iload_n (q := 13) (x := v_2) dX12_pieceOf_12 rfl ?_
    refine ex_i2l (q := 14) dX12_pieceOf_13 ?_
    refine ex_lconst (q := 15) (v := 0) dX12_pieceOf_14 (by decide) ?_
    refine ex_iconst (q := 16) (v := 4) dX12_pieceOf_15 (by decide) ?_
    refine ex_aload_n (q := 17) (x := a_0) dX12_pieceOf_16 rfl ?_
    have s5 := w.1
    replace w := w.2
    obtain ⟨a6, ea6, w⟩ := w
    refine ex_getr (q := 20) dX12_pieceOf_17 fl_X12_13 s5 ea6 ?_
    refine ex_iload_n (q := 21) (x := v_1) dX12_pieceOf_20 rfl ?_
    have s7 := w.1
    replace w := w.2
    refine ex_iald (q := 22) dX12_pieceOf_21 s7 ?_
    refine ex_imul (q := 23) dX12_pieceOf_22 ?_
    refine ex_iconst (q := 24) (v := 1) dX12_pieceOf_23 (by decide) ?_
    refine ex_isub (q := 25) dX12_pieceOf_24 ?_
    refine ex_i2l (q := 26) dX12_pieceOf_25 ?_
    refine ex_callS (q := 29) (M := mX12_pieceOf) (hdd := Nat.le_refl _) (mc := 0) (ms := 0) (d' := (d + 4)) (st := []) (bc := bc) (bs := bs) dX12_pieceOf_26 rfl cl_X12_172 wd_1596 (X12_in_s (Q := fun r z => r = some (.int (X12_in_V (Int32.toInt64 v_2) 0 (Int32.toInt64 ((4 * (ah_i h1 a6 (Int32.toNatClampNeg v_1))) - 1)) h1)) ∧ z = h1) ⟨rfl, rfl⟩) ?_
    intro r z hrz
    rw [hrz.1, hrz.2]
    show ex_G mX12_pieceOf (d + 5) 29 [.ref a_0, .int v_1, .int v_2, .int x3, .retAddr 0] [.int (X12_in_V (Int32.toInt64 v_2) 0 (Int32.toInt64 ((4 * (ah_i h1 a6 (Int32.toNatClampNeg v_1))) - 1)) h1)] (h1) bc bs Q
    refine ex_if_ne (tgt := 38) (q := 32) dX12_pieceOf_29 (fun c8 => ?_) (fun c8 => ?_)
    · replace w := w.1 c8
      refine ex_aload_n (q := 39) (x := a_0) dX12_pieceOf_38 rfl ?_
      refine ex_iload_n (q := 40) (x := v_1) dX12_pieceOf_39 rfl ?_
      refine ex_callV (q := 43) (M := mX12_pieceOf) (hdd := Nat.le_refl _) (c := 12) (st := []) (bc := bc) (bs := bs) dX12_pieceOf_40 rfl cl_X12_229 wd_1679 wd_58 s5 w ?_
      rintro r h9 ⟨x10, rfl, w⟩
      show ex_G mX12_pieceOf (d + 5) 43 [.ref a_0, .int v_1, .int v_2, .int x3, .retAddr 0] [.int x10] h9 bc bs Q
      refine ex_istore (q := 45) (ls' := [.ref a_0, .int v_1, .int v_2, .int x3, .int x10]) dX12_pieceOf_43 rfl ?_
      refine ex_aload_n (q := 46) (x := a_0) dX12_pieceOf_45 rfl ?_
      refine ex_aload_n (q := 47) (x := a_0) dX12_pieceOf_46 rfl ?_
      have s11 := w.1
      replace w := w.2
      obtain ⟨a12, ea12, w⟩ := w
      refine ex_getr (q := 50) dX12_pieceOf_47 fl_X12_55 s11 ea12 ?_
      refine ex_iload_n (q := 51) (x := v_2) dX12_pieceOf_50 rfl ?_
      have s13 := w.1
      replace w := w.2
      refine ex_iald (q := 52) dX12_pieceOf_51 s13 ?_
      have s14 := w.1
      replace w := w.2
      refine ex_callV (q := 55) (M := mX12_pieceOf) (hdd := Nat.le_refl _) (mc := 0) (ms := 0) (d' := (d + 4)) (c := 12) (st := []) (bc := bc) (bs := bs) dX12_pieceOf_52 rfl cl_X12_180 wd_1585 wd_47 s11 (X12_well_s (Q := fun r z => r = some (.int (X12_well_V a_0 (ah_i h9 a12 (Int32.toNatClampNeg v_2)) h9)) ∧ z = X12_well_H a_0 (ah_i h9 a12 (Int32.toNatClampNeg v_2)) h9) s14 ⟨rfl, rfl⟩) ?_
      intro r z hrz
      rw [hrz.1, hrz.2]
      show ex_G mX12_pieceOf (d + 5) 55 [.ref a_0, .int v_1, .int v_2, .int x3, .int x10] [.int (X12_well_V a_0 (ah_i h9 a12 (Int32.toNatClampNeg v_2)) h9)] (X12_well_H a_0 (ah_i h9 a12 (Int32.toNatClampNeg v_2)) h9) bc bs Q
      refine ex_nmh (fun h15 eh15 => ?_)
      replace w := w h15 eh15
      exact ex_ireturn dX12_pieceOf_55 rfl (Or.inl rfl) w
    · replace w := w.2 c8
      refine ex_aload_n (q := 33) (x := a_0) dX12_pieceOf_32 rfl ?_
      refine ex_iconst (q := 34) (v := 2) dX12_pieceOf_33 (by decide) ?_
      have s16 := w.1
      replace w := w.2
      refine ex_callV (q := 37) (M := mX12_pieceOf) (hdd := Nat.le_refl _) (mc := 0) (ms := 0) (d' := (d + 4)) (c := 12) (st := []) (bc := bc) (bs := bs) dX12_pieceOf_34 rfl cl_X12_200 wd_1614 wd_50 s5 (X12_meets_s (Q := fun r z => r = some (.int (X12_meets_V a_0 2 h1)) ∧ z = X12_meets_H a_0 2 h1) s16 ⟨rfl, rfl⟩) ?_
      intro r z hrz
      rw [hrz.1, hrz.2]
      show ex_G mX12_pieceOf (d + 5) 37 [.ref a_0, .int v_1, .int v_2, .int x3, .retAddr 0] [.int (X12_meets_V a_0 2 h1)] (X12_meets_H a_0 2 h1) bc bs Q
      refine ex_nmh (fun h17 eh17 => ?_)
      replace w := w h17 eh17
      exact ex_ireturn dX12_pieceOf_37 rfl (Or.inl rfl) w
  · replace w := w.2 c4
    refine ex_iload_n (q := 11) (x := x3) dX12_pieceOf_10 rfl ?_
    exact ex_ireturn dX12_pieceOf_11 rfl (Or.inl rfl) w

theorem X12_pieceOf_e {d bc bs : Nat} {h : AH} {Q : Option Value → AH → Prop} {a_0 : Nat} {v_1 : Int32} {v_2 : Int32} (w : ex_G mX12_pieceOf (d + 5) 0 [.ref a_0, .int v_1, .int v_2, .retAddr 0, .retAddr 0] [] h bc bs Q) : ex_S yX12_pieceOf mX12_pieceOf (d + 5) [.ref a_0, .int v_1, .int v_2] h bc bs Q :=
  ex_enter (plainFor_of_name (by decide +kernel)) ⟨rfl, rfl⟩ rfl rfl (Nat.le_of_ble_eq_true rfl) (ex_pad 2 w)

set_option maxRecDepth 100000 in
theorem X12_linking_0 {d bc bs : Nat} {h : AH} {Q : Option Value → AH → Prop} {a_0 : Nat} {v_1 : Int32} {v_2 : Int32} {v_3 : Int32} (w : ah_o h a_0 12 ∧ ex_S yX12_refusal mX12_refusal (d + 4) [.ref a_0, .int v_1] h 0 0 (fun r h1 => ∃ x3, r = some (.int x3) ∧ ((0 ≤ x3 → ah_o h1 a_0 12 ∧ ex_S yX12_piecesOf mX12_piecesOf (d + 4) [.ref a_0, .int v_1] h1 0 0 (fun r h5 => ∃ x7, r = some (.int x7) ∧ ah_o h5 a_0 12 ∧ ∃ a9, ah_r h5 a_0 3 = some a9 ∧ ld0 h5 a9 v_1 ∧ ∀ x11, x11 = x7 + (ah_i h5 a9 (Int32.toNatClampNeg v_1)) → (((X12_in_V (Int32.toInt64 v_2) 0 (Int32.toInt64 (x11 - 1)) h5) = 0 → X12_meets_C a_0 5 h5 ∧ ∀ h14, h14 = X12_meets_H a_0 5 h5 → Q (some (.int (X12_meets_V a_0 5 h5))) h14) ∧ (¬ (X12_in_V (Int32.toInt64 v_2) 0 (Int32.toInt64 (x11 - 1)) h5) = 0 → (((X12_in_V (Int32.toInt64 v_3) 0 (Int32.toInt64 (x11 - 1)) h5) = 0 → X12_meets_C a_0 5 h5 ∧ ∀ h17, h17 = X12_meets_H a_0 5 h5 → Q (some (.int (X12_meets_V a_0 5 h5))) h17) ∧ (¬ (X12_in_V (Int32.toInt64 v_3) 0 (Int32.toInt64 (x11 - 1)) h5) = 0 → ((¬ v_2 = v_3 → ex_G mX12_linking (d + 5) 74 [.ref a_0, .int v_1, .int v_2, .int v_3, .retAddr 0, .retAddr 0, .int 0, .int 0, .retAddr 0, .retAddr 0] [] h5 bc bs Q) ∧ (v_2 = v_3 → X12_meets_C a_0 5 h5 ∧ ∀ h20, h20 = X12_meets_H a_0 5 h5 → Q (some (.int (X12_meets_V a_0 5 h5))) h20)))))))) ∧ (¬ 0 ≤ x3 → Q (some (.int x3)) h1)))) : ex_G mX12_linking (d + 5) 0 [.ref a_0, .int v_1, .int v_2, .int v_3, .retAddr 0, .retAddr 0, .retAddr 0, .retAddr 0, .retAddr 0, .retAddr 0] [] h bc bs Q := by
  refine ex_aload_n (q := 1) (x := a_0) dX12_linking_0 rfl ?_
  refine ex_iload_n (q := 2) (x := v_1) dX12_linking_1 rfl ?_
  have s2 := w.1
  replace w := w.2
  refine ex_callV (q := 5) (M := mX12_linking) (hdd := Nat.le_refl _) (c := 12) (st := []) (bc := bc) (bs := bs) dX12_linking_2 rfl cl_X12_237 wd_1675 wd_57 s2 w ?_
  rintro r h1 ⟨x3, rfl, w⟩
  show ex_G mX12_linking (d + 5) 5 [.ref a_0, .int v_1, .int v_2, .int v_3, .retAddr 0, .retAddr 0, .retAddr 0, .retAddr 0, .retAddr 0, .retAddr 0] [.int x3] h1 bc bs Q
  refine ex_istore (q := 7) (ls' := [.ref a_0, .int v_1, .int v_2, .int v_3, .int x3, .retAddr 0, .retAddr 0, .retAddr 0, .retAddr 0, .retAddr 0]) dX12_linking_5 rfl ?_
  refine ex_iload (q := 9) (x := x3) dX12_linking_7 rfl ?_
  refine ex_if_ge (tgt := 15) (q := 12) dX12_linking_9 (fun c4 => ?_) (fun c4 => ?_)
  · replace w := w.1 c4
    refine ex_aload_n (q := 16) (x := a_0) dX12_linking_15 rfl ?_
    refine ex_iload_n (q := 17) (x := v_1) dX12_linking_16 rfl ?_
    have s6 := w.1
    replace w := w.2
    refine ex_callV (q := 20) (M := mX12_linking) (hdd := Nat.le_refl _) (c := 12) (st := []) (bc := bc) (bs := bs) dX12_linking_17 rfl cl_X12_229 wd_1679 wd_58 s6 w ?_
    rintro r h5 ⟨x7, rfl, w⟩
    show ex_G mX12_linking (d + 5) 20 [.ref a_0, .int v_1, .int v_2, .int v_3, .int x3, .retAddr 0, .retAddr 0, .retAddr 0, .retAddr 0, .retAddr 0] [.int x7] h5 bc bs Q
    refine ex_aload_n (q := 21) (x := a_0) dX12_linking_20 rfl ?_
    have s8 := w.1
    replace w := w.2
    obtain ⟨a9, ea9, w⟩ := w
    refine ex_getr (q := 24) dX12_linking_21 fl_X12_16 s8 ea9 ?_
    refine ex_iload_n (q := 25) (x := v_1) dX12_linking_24 rfl ?_
    have s10 := w.1
    replace w := w.2
    refine ex_iald (q := 26) dX12_linking_25 s10 ?_
    refine ex_iadd (q := 27) dX12_linking_26 ?_
    refine ex_nmi (fun x11 ex11 => ?_)
    replace w := w x11 ex11
    refine ex_istore (q := 29) (ls' := [.ref a_0, .int v_1, .int v_2, .int v_3, .int x3, .int x11, .retAddr 0, .retAddr 0, .retAddr 0, .retAddr 0]) dX12_linking_27 rfl ?_
    refine ex_iload_n (q := 30) (x := v_2) dX12_linking_29 rfl ?_
    refine ex_i2l (q := 31) dX12_linking_30 ?_
    refine ex_lconst (q := 32) (v := 0) dX12_linking_31 (by decide) ?_
    refine ex_iload (q := 34) (x := x11) dX12_linking_32 rfl ?_
    refine ex_iconst (q := 35) (v := 1) dX12_linking_34 (by decide) ?_
    refine ex_isub (q := 36) dX12_linking_35 ?_
    refine ex_i2l (q := 37) dX12_linking_36 ?_
    refine ex_callS (q := 40) (M := mX12_linking) (hdd := Nat.le_refl _) (mc := 0) (ms := 0) (d' := (d + 4)) (st := []) (bc := bc) (bs := bs) dX12_linking_37 rfl cl_X12_172 wd_1596 (X12_in_s (Q := fun r z => r = some (.int (X12_in_V (Int32.toInt64 v_2) 0 (Int32.toInt64 (x11 - 1)) h5)) ∧ z = h5) ⟨rfl, rfl⟩) ?_
    intro r z hrz
    rw [hrz.1, hrz.2]
    show ex_G mX12_linking (d + 5) 40 [.ref a_0, .int v_1, .int v_2, .int v_3, .int x3, .int x11, .retAddr 0, .retAddr 0, .retAddr 0, .retAddr 0] [.int (X12_in_V (Int32.toInt64 v_2) 0 (Int32.toInt64 (x11 - 1)) h5)] (h5) bc bs Q
    refine ex_if_eq (tgt := 62) (q := 43) dX12_linking_40 (fun c12 => ?_) (fun c12 => ?_)
    · replace w := w.1 c12
      refine ex_aload_n (q := 63) (x := a_0) dX12_linking_62 rfl ?_
      refine ex_iconst (q := 64) (v := 5) dX12_linking_63 (by decide) ?_
      have s13 := w.1
      replace w := w.2
      refine ex_callV (q := 67) (M := mX12_linking) (hdd := Nat.le_refl _) (mc := 0) (ms := 0) (d' := (d + 4)) (c := 12) (st := []) (bc := bc) (bs := bs) dX12_linking_64 rfl cl_X12_200 wd_1614 wd_50 s8 (X12_meets_s (Q := fun r z => r = some (.int (X12_meets_V a_0 5 h5)) ∧ z = X12_meets_H a_0 5 h5) s13 ⟨rfl, rfl⟩) ?_
      intro r z hrz
      rw [hrz.1, hrz.2]
      show ex_G mX12_linking (d + 5) 67 [.ref a_0, .int v_1, .int v_2, .int v_3, .int x3, .int x11, .retAddr 0, .retAddr 0, .retAddr 0, .retAddr 0] [.int (X12_meets_V a_0 5 h5)] (X12_meets_H a_0 5 h5) bc bs Q
      refine ex_nmh (fun h14 eh14 => ?_)
      replace w := w h14 eh14
      exact ex_ireturn dX12_linking_67 rfl (Or.inl rfl) w
    · replace w := w.2 c12
      refine ex_iload_n (q := 44) (x := v_3) dX12_linking_43 rfl ?_
      refine ex_i2l (q := 45) dX12_linking_44 ?_
      refine ex_lconst (q := 46) (v := 0) dX12_linking_45 (by decide) ?_
      refine ex_iload (q := 48) (x := x11) dX12_linking_46 rfl ?_
      refine ex_iconst (q := 49) (v := 1) dX12_linking_48 (by decide) ?_
      refine ex_isub (q := 50) dX12_linking_49 ?_
      refine ex_i2l (q := 51) dX12_linking_50 ?_
      refine ex_callS (q := 54) (M := mX12_linking) (hdd := Nat.le_refl _) (mc := 0) (ms := 0) (d' := (d + 4)) (st := []) (bc := bc) (bs := bs) dX12_linking_51 rfl cl_X12_172 wd_1596 (X12_in_s (Q := fun r z => r = some (.int (X12_in_V (Int32.toInt64 v_3) 0 (Int32.toInt64 (x11 - 1)) h5)) ∧ z = h5) ⟨rfl, rfl⟩) ?_
      intro r z hrz
      rw [hrz.1, hrz.2]
      show ex_G mX12_linking (d + 5) 54 [.ref a_0, .int v_1, .int v_2, .int v_3, .int x3, .int x11, .retAddr 0, .retAddr 0, .retAddr 0, .retAddr 0] [.int (X12_in_V (Int32.toInt64 v_3) 0 (Int32.toInt64 (x11 - 1)) h5)] (h5) bc bs Q
      refine ex_if_eq (tgt := 62) (q := 57) dX12_linking_54 (fun c15 => ?_) (fun c15 => ?_)
      · replace w := w.1 c15
        refine ex_aload_n (q := 63) (x := a_0) dX12_linking_62 rfl ?_
        refine ex_iconst (q := 64) (v := 5) dX12_linking_63 (by decide) ?_
        have s16 := w.1
        replace w := w.2
        refine ex_callV (q := 67) (M := mX12_linking) (hdd := Nat.le_refl _) (mc := 0) (ms := 0) (d' := (d + 4)) (c := 12) (st := []) (bc := bc) (bs := bs) dX12_linking_64 rfl cl_X12_200 wd_1614 wd_50 s8 (X12_meets_s (Q := fun r z => r = some (.int (X12_meets_V a_0 5 h5)) ∧ z = X12_meets_H a_0 5 h5) s16 ⟨rfl, rfl⟩) ?_
        intro r z hrz
        rw [hrz.1, hrz.2]
        show ex_G mX12_linking (d + 5) 67 [.ref a_0, .int v_1, .int v_2, .int v_3, .int x3, .int x11, .retAddr 0, .retAddr 0, .retAddr 0, .retAddr 0] [.int (X12_meets_V a_0 5 h5)] (X12_meets_H a_0 5 h5) bc bs Q
        refine ex_nmh (fun h17 eh17 => ?_)
        replace w := w h17 eh17
        exact ex_ireturn dX12_linking_67 rfl (Or.inl rfl) w
      · replace w := w.2 c15
        refine ex_iload_n (q := 58) (x := v_2) dX12_linking_57 rfl ?_
        refine ex_iload_n (q := 59) (x := v_3) dX12_linking_58 rfl ?_
        refine ex_icmp_ne (tgt := 68) (q := 62) dX12_linking_59 (fun c18 => ?_) (fun c18 => ?_)
        · replace w := w.1 c18
          refine ex_iconst (q := 69) (v := 0) dX12_linking_68 (by decide) ?_
          refine ex_istore (q := 71) (ls' := [.ref a_0, .int v_1, .int v_2, .int v_3, .int x3, .int x11, .int 0, .retAddr 0, .retAddr 0, .retAddr 0]) dX12_linking_69 rfl ?_
          refine ex_iconst (q := 72) (v := 0) dX12_linking_71 (by decide) ?_
          refine ex_istore (q := 74) (ls' := [.ref a_0, .int v_1, .int v_2, .int v_3, .int x3, .int x11, .int 0, .int 0, .retAddr 0, .retAddr 0]) dX12_linking_72 rfl ?_
          refine ex_kill 4 (ls' := [.ref a_0, .int v_1, .int v_2, .int v_3, .retAddr 0, .int x11, .int 0, .int 0, .retAddr 0, .retAddr 0]) rfl ?_
          refine ex_kill 5 (ls' := [.ref a_0, .int v_1, .int v_2, .int v_3, .retAddr 0, .retAddr 0, .int 0, .int 0, .retAddr 0, .retAddr 0]) rfl ?_
          exact w
        · replace w := w.2 c18
          refine ex_aload_n (q := 63) (x := a_0) dX12_linking_62 rfl ?_
          refine ex_iconst (q := 64) (v := 5) dX12_linking_63 (by decide) ?_
          have s19 := w.1
          replace w := w.2
          refine ex_callV (q := 67) (M := mX12_linking) (hdd := Nat.le_refl _) (mc := 0) (ms := 0) (d' := (d + 4)) (c := 12) (st := []) (bc := bc) (bs := bs) dX12_linking_64 rfl cl_X12_200 wd_1614 wd_50 s8 (X12_meets_s (Q := fun r z => r = some (.int (X12_meets_V a_0 5 h5)) ∧ z = X12_meets_H a_0 5 h5) s19 ⟨rfl, rfl⟩) ?_
          intro r z hrz
          rw [hrz.1, hrz.2]
          show ex_G mX12_linking (d + 5) 67 [.ref a_0, .int v_1, .int v_2, .int v_3, .int x3, .int x11, .retAddr 0, .retAddr 0, .retAddr 0, .retAddr 0] [.int (X12_meets_V a_0 5 h5)] (X12_meets_H a_0 5 h5) bc bs Q
          refine ex_nmh (fun h20 eh20 => ?_)
          replace w := w h20 eh20
          exact ex_ireturn dX12_linking_67 rfl (Or.inl rfl) w
  · replace w := w.2 c4
    refine ex_iload (q := 14) (x := x3) dX12_linking_12 rfl ?_
    exact ex_ireturn dX12_linking_14 rfl (Or.inl rfl) w

set_option maxRecDepth 100000 in
theorem X12_linking_74 {d bc bs : Nat} {h : AH} {Q : Option Value → AH → Prop} {a_0 : Nat} {v_1 : Int32} {v_2 : Int32} {v_3 : Int32} {v_6 : Int32} {v_7 : Int32} (w : ah_o h a_0 12 ∧ ∃ a2, ah_r h a_0 2 = some a2 ∧ ld0 h a2 v_1 ∧ (((ah_i h a2 (Int32.toNatClampNeg v_1)) ≤ v_7 → X12_well_C a_0 (v_6 / 2) h ∧ ∀ h6, h6 = X12_well_H a_0 (v_6 / 2) h → Q (some (.int (X12_well_V a_0 (v_6 / 2) h))) h6) ∧ (¬ (ah_i h a2 (Int32.toNatClampNeg v_1)) ≤ v_7 → ∃ a7, ah_r h a_0 16 = some a7 ∧ ld0 h a7 (4 * v_7) ∧ ∀ x9, x9 = ah_i h a7 (Int32.toNatClampNeg (4 * v_7)) → ld0 h a7 ((4 * v_7) + 1) ∧ ∀ x11, x11 = ah_i h a7 (Int32.toNatClampNeg ((4 * v_7) + 1)) → ((¬ x9 = v_2 → ex_G mX12_linking (d + 5) 123 [.ref a_0, .int v_1, .int v_2, .int v_3, .retAddr 0, .retAddr 0, .retAddr 0, .int v_7, .int x9, .int x11] [.int v_6] h bc bs Q) ∧ (x9 = v_2 → ((x11 = v_3 → ex_S yX12_signAt mX12_signAt (d + 4) [.ref a_0, .int v_7] h 0 0 (fun r h14 => ∃ x15, r = some (.int x15) ∧ ∀ x16, x16 = v_6 + x15 → ∀ x17, x17 = v_7 + 1 → ex_G mX12_linking (d + 5) 74 [.ref a_0, .int v_1, .int v_2, .int v_3, .retAddr 0, .retAddr 0, .int x16, .int x17, .retAddr 0, .retAddr 0] [] h14 bc bs Q)) ∧ (¬ x11 = v_3 → ex_G mX12_linking (d + 5) 123 [.ref a_0, .int v_1, .int v_2, .int v_3, .retAddr 0, .retAddr 0, .retAddr 0, .int v_7, .int x9, .int x11] [.int v_6] h bc bs Q))))))) : ex_G mX12_linking (d + 5) 74 [.ref a_0, .int v_1, .int v_2, .int v_3, .retAddr 0, .retAddr 0, .int v_6, .int v_7, .retAddr 0, .retAddr 0] [] h bc bs Q := by
  refine ex_iload (q := 76) (x := v_7) dX12_linking_74 rfl ?_
  refine ex_aload_n (q := 77) (x := a_0) dX12_linking_76 rfl ?_
  have s1 := w.1
  replace w := w.2
  obtain ⟨a2, ea2, w⟩ := w
  refine ex_getr (q := 80) dX12_linking_77 fl_X12_13 s1 ea2 ?_
  refine ex_iload_n (q := 81) (x := v_1) dX12_linking_80 rfl ?_
  have s3 := w.1
  replace w := w.2
  refine ex_iald (q := 82) dX12_linking_81 s3 ?_
  refine ex_icmp_ge (tgt := 154) (q := 85) dX12_linking_82 (fun c4 => ?_) (fun c4 => ?_)
  · replace w := w.1 c4
    refine ex_aload_n (q := 155) (x := a_0) dX12_linking_154 rfl ?_
    refine ex_iload (q := 157) (x := v_6) dX12_linking_155 rfl ?_
    refine ex_iconst (q := 158) (v := 2) dX12_linking_157 (by decide) ?_
    refine ex_idiv (q := 159) dX12_linking_158 (by decide) ?_
    have s5 := w.1
    replace w := w.2
    refine ex_callV (q := 162) (M := mX12_linking) (hdd := Nat.le_refl _) (mc := 0) (ms := 0) (d' := (d + 4)) (c := 12) (st := []) (bc := bc) (bs := bs) dX12_linking_159 rfl cl_X12_180 wd_1585 wd_47 s1 (X12_well_s (Q := fun r z => r = some (.int (X12_well_V a_0 (v_6 / 2) h)) ∧ z = X12_well_H a_0 (v_6 / 2) h) s5 ⟨rfl, rfl⟩) ?_
    intro r z hrz
    rw [hrz.1, hrz.2]
    show ex_G mX12_linking (d + 5) 162 [.ref a_0, .int v_1, .int v_2, .int v_3, .retAddr 0, .retAddr 0, .int v_6, .int v_7, .retAddr 0, .retAddr 0] [.int (X12_well_V a_0 (v_6 / 2) h)] (X12_well_H a_0 (v_6 / 2) h) bc bs Q
    refine ex_nmh (fun h6 eh6 => ?_)
    replace w := w h6 eh6
    exact ex_ireturn dX12_linking_162 rfl (Or.inl rfl) w
  · replace w := w.2 c4
    refine ex_aload_n (q := 86) (x := a_0) dX12_linking_85 rfl ?_
    obtain ⟨a7, ea7, w⟩ := w
    refine ex_getr (q := 89) dX12_linking_86 fl_X12_55 s1 ea7 ?_
    refine ex_iconst (q := 90) (v := 4) dX12_linking_89 (by decide) ?_
    refine ex_iload (q := 92) (x := v_7) dX12_linking_90 rfl ?_
    refine ex_imul (q := 93) dX12_linking_92 ?_
    have s8 := w.1
    replace w := w.2
    refine ex_iald (q := 94) dX12_linking_93 s8 ?_
    refine ex_nmi (fun x9 ex9 => ?_)
    replace w := w x9 ex9
    refine ex_istore (q := 96) (ls' := [.ref a_0, .int v_1, .int v_2, .int v_3, .retAddr 0, .retAddr 0, .int v_6, .int v_7, .int x9, .retAddr 0]) dX12_linking_94 rfl ?_
    refine ex_aload_n (q := 97) (x := a_0) dX12_linking_96 rfl ?_
    refine ex_getr (q := 100) dX12_linking_97 fl_X12_55 s1 ea7 ?_
    refine ex_iconst (q := 101) (v := 4) dX12_linking_100 (by decide) ?_
    refine ex_iload (q := 103) (x := v_7) dX12_linking_101 rfl ?_
    refine ex_imul (q := 104) dX12_linking_103 ?_
    refine ex_iconst (q := 105) (v := 1) dX12_linking_104 (by decide) ?_
    refine ex_iadd (q := 106) dX12_linking_105 ?_
    have s10 := w.1
    replace w := w.2
    refine ex_iald (q := 107) dX12_linking_106 s10 ?_
    refine ex_nmi (fun x11 ex11 => ?_)
    replace w := w x11 ex11
    refine ex_istore (q := 109) (ls' := [.ref a_0, .int v_1, .int v_2, .int v_3, .retAddr 0, .retAddr 0, .int v_6, .int v_7, .int x9, .int x11]) dX12_linking_107 rfl ?_
    refine ex_iload (q := 111) (x := v_6) dX12_linking_109 rfl ?_
    refine ex_iload (q := 113) (x := x9) dX12_linking_111 rfl ?_
    refine ex_iload_n (q := 114) (x := v_2) dX12_linking_113 rfl ?_
    refine ex_icmp_ne (tgt := 123) (q := 117) dX12_linking_114 (fun c12 => ?_) (fun c12 => ?_)
    · replace w := w.1 c12
      refine ex_kill 6 (ls' := [.ref a_0, .int v_1, .int v_2, .int v_3, .retAddr 0, .retAddr 0, .retAddr 0, .int v_7, .int x9, .int x11]) rfl ?_
      exact w
    · replace w := w.2 c12
      refine ex_iload (q := 119) (x := x11) dX12_linking_117 rfl ?_
      refine ex_iload_n (q := 120) (x := v_3) dX12_linking_119 rfl ?_
      refine ex_icmp_eq (tgt := 135) (q := 123) dX12_linking_120 (fun c13 => ?_) (fun c13 => ?_)
      · replace w := w.1 c13
        refine ex_aload_n (q := 136) (x := a_0) dX12_linking_135 rfl ?_
        refine ex_iload (q := 138) (x := v_7) dX12_linking_136 rfl ?_
        refine ex_callV (q := 141) (M := mX12_linking) (hdd := Nat.le_refl _) (c := 12) (st := [.int v_6]) (bc := bc) (bs := bs) dX12_linking_138 rfl cl_X12_232 wd_1687 wd_60 s1 w ?_
        rintro r h14 ⟨x15, rfl, w⟩
        show ex_G mX12_linking (d + 5) 141 [.ref a_0, .int v_1, .int v_2, .int v_3, .retAddr 0, .retAddr 0, .int v_6, .int v_7, .int x9, .int x11] [.int x15, .int v_6] h14 bc bs Q
        refine ex_goto (tgt := 145) dX12_linking_141 ?_
        refine ex_iadd (q := 146) dX12_linking_145 ?_
        refine ex_nmi (fun x16 ex16 => ?_)
        replace w := w x16 ex16
        refine ex_istore (q := 148) (ls' := [.ref a_0, .int v_1, .int v_2, .int v_3, .retAddr 0, .retAddr 0, .int x16, .int v_7, .int x9, .int x11]) dX12_linking_146 rfl ?_
        obtain ⟨x17, ex17⟩ : ∃ y : Int32, y = v_7 + 1 := ⟨_, rfl⟩
        replace w := w x17 ex17
        refine ex_iinc (q := 151) (x := v_7) (v := x17) (ls' := [.ref a_0, .int v_1, .int v_2, .int v_3, .retAddr 0, .retAddr 0, .int x16, .int x17, .int x9, .int x11]) dX12_linking_148 rfl (by rw [ex17]; rfl) rfl ?_
        refine ex_goto (tgt := 74) dX12_linking_151 ?_
        refine ex_kill 8 (ls' := [.ref a_0, .int v_1, .int v_2, .int v_3, .retAddr 0, .retAddr 0, .int x16, .int x17, .retAddr 0, .int x11]) rfl ?_
        refine ex_kill 9 (ls' := [.ref a_0, .int v_1, .int v_2, .int v_3, .retAddr 0, .retAddr 0, .int x16, .int x17, .retAddr 0, .retAddr 0]) rfl ?_
        exact w
      · replace w := w.2 c13
        refine ex_kill 6 (ls' := [.ref a_0, .int v_1, .int v_2, .int v_3, .retAddr 0, .retAddr 0, .retAddr 0, .int v_7, .int x9, .int x11]) rfl ?_
        exact w

set_option maxRecDepth 100000 in
theorem X12_linking_123 {d bc bs : Nat} {h : AH} {Q : Option Value → AH → Prop} {a_0 : Nat} {v_1 : Int32} {v_2 : Int32} {v_3 : Int32} {v_7 : Int32} {v_8 : Int32} {v_9 : Int32} {u_0 : Int32} (w : ((¬ v_8 = v_3 → ∀ x2, x2 = u_0 + 0 → ∀ x3, x3 = v_7 + 1 → ex_G mX12_linking (d + 5) 74 [.ref a_0, .int v_1, .int v_2, .int v_3, .retAddr 0, .retAddr 0, .int x2, .int x3, .retAddr 0, .retAddr 0] [] h bc bs Q) ∧ (v_8 = v_3 → ((¬ v_9 = v_2 → ∀ x5, x5 = u_0 + 0 → ∀ x6, x6 = v_7 + 1 → ex_G mX12_linking (d + 5) 74 [.ref a_0, .int v_1, .int v_2, .int v_3, .retAddr 0, .retAddr 0, .int x5, .int x6, .retAddr 0, .retAddr 0] [] h bc bs Q) ∧ (v_9 = v_2 → ah_o h a_0 12 ∧ ex_S yX12_signAt mX12_signAt (d + 4) [.ref a_0, .int v_7] h 0 0 (fun r h7 => ∃ x9, r = some (.int x9) ∧ ∀ x10, x10 = u_0 + x9 → ∀ x11, x11 = v_7 + 1 → ex_G mX12_linking (d + 5) 74 [.ref a_0, .int v_1, .int v_2, .int v_3, .retAddr 0, .retAddr 0, .int x10, .int x11, .retAddr 0, .retAddr 0] [] h7 bc bs Q)))))) : ex_G mX12_linking (d + 5) 123 [.ref a_0, .int v_1, .int v_2, .int v_3, .retAddr 0, .retAddr 0, .retAddr 0, .int v_7, .int v_8, .int v_9] [.int u_0] h bc bs Q := by
  refine ex_iload (q := 125) (x := v_8) dX12_linking_123 rfl ?_
  refine ex_iload_n (q := 126) (x := v_3) dX12_linking_125 rfl ?_
  refine ex_icmp_ne (tgt := 144) (q := 129) dX12_linking_126 (fun c1 => ?_) (fun c1 => ?_)
  · replace w := w.1 c1
    refine ex_iconst (q := 145) (v := 0) dX12_linking_144 (by decide) ?_
    refine ex_iadd (q := 146) dX12_linking_145 ?_
    refine ex_nmi (fun x2 ex2 => ?_)
    replace w := w x2 ex2
    refine ex_istore (q := 148) (ls' := [.ref a_0, .int v_1, .int v_2, .int v_3, .retAddr 0, .retAddr 0, .int x2, .int v_7, .int v_8, .int v_9]) dX12_linking_146 rfl ?_
    obtain ⟨x3, ex3⟩ : ∃ y : Int32, y = v_7 + 1 := ⟨_, rfl⟩
    replace w := w x3 ex3
    refine ex_iinc (q := 151) (x := v_7) (v := x3) (ls' := [.ref a_0, .int v_1, .int v_2, .int v_3, .retAddr 0, .retAddr 0, .int x2, .int x3, .int v_8, .int v_9]) dX12_linking_148 rfl (by rw [ex3]; rfl) rfl ?_
    refine ex_goto (tgt := 74) dX12_linking_151 ?_
    refine ex_kill 8 (ls' := [.ref a_0, .int v_1, .int v_2, .int v_3, .retAddr 0, .retAddr 0, .int x2, .int x3, .retAddr 0, .int v_9]) rfl ?_
    refine ex_kill 9 (ls' := [.ref a_0, .int v_1, .int v_2, .int v_3, .retAddr 0, .retAddr 0, .int x2, .int x3, .retAddr 0, .retAddr 0]) rfl ?_
    exact w
  · replace w := w.2 c1
    refine ex_iload (q := 131) (x := v_9) dX12_linking_129 rfl ?_
    refine ex_iload_n (q := 132) (x := v_2) dX12_linking_131 rfl ?_
    refine ex_icmp_ne (tgt := 144) (q := 135) dX12_linking_132 (fun c4 => ?_) (fun c4 => ?_)
    · replace w := w.1 c4
      refine ex_iconst (q := 145) (v := 0) dX12_linking_144 (by decide) ?_
      refine ex_iadd (q := 146) dX12_linking_145 ?_
      refine ex_nmi (fun x5 ex5 => ?_)
      replace w := w x5 ex5
      refine ex_istore (q := 148) (ls' := [.ref a_0, .int v_1, .int v_2, .int v_3, .retAddr 0, .retAddr 0, .int x5, .int v_7, .int v_8, .int v_9]) dX12_linking_146 rfl ?_
      obtain ⟨x6, ex6⟩ : ∃ y : Int32, y = v_7 + 1 := ⟨_, rfl⟩
      replace w := w x6 ex6
      refine ex_iinc (q := 151) (x := v_7) (v := x6) (ls' := [.ref a_0, .int v_1, .int v_2, .int v_3, .retAddr 0, .retAddr 0, .int x5, .int x6, .int v_8, .int v_9]) dX12_linking_148 rfl (by rw [ex6]; rfl) rfl ?_
      refine ex_goto (tgt := 74) dX12_linking_151 ?_
      refine ex_kill 8 (ls' := [.ref a_0, .int v_1, .int v_2, .int v_3, .retAddr 0, .retAddr 0, .int x5, .int x6, .retAddr 0, .int v_9]) rfl ?_
      refine ex_kill 9 (ls' := [.ref a_0, .int v_1, .int v_2, .int v_3, .retAddr 0, .retAddr 0, .int x5, .int x6, .retAddr 0, .retAddr 0]) rfl ?_
      exact w
    · replace w := w.2 c4
      refine ex_aload_n (q := 136) (x := a_0) dX12_linking_135 rfl ?_
      refine ex_iload (q := 138) (x := v_7) dX12_linking_136 rfl ?_
      have s8 := w.1
      replace w := w.2
      refine ex_callV (q := 141) (M := mX12_linking) (hdd := Nat.le_refl _) (c := 12) (st := [.int u_0]) (bc := bc) (bs := bs) dX12_linking_138 rfl cl_X12_232 wd_1687 wd_60 s8 w ?_
      rintro r h7 ⟨x9, rfl, w⟩
      show ex_G mX12_linking (d + 5) 141 [.ref a_0, .int v_1, .int v_2, .int v_3, .retAddr 0, .retAddr 0, .retAddr 0, .int v_7, .int v_8, .int v_9] [.int x9, .int u_0] h7 bc bs Q
      refine ex_goto (tgt := 145) dX12_linking_141 ?_
      refine ex_iadd (q := 146) dX12_linking_145 ?_
      refine ex_nmi (fun x10 ex10 => ?_)
      replace w := w x10 ex10
      refine ex_istore (q := 148) (ls' := [.ref a_0, .int v_1, .int v_2, .int v_3, .retAddr 0, .retAddr 0, .int x10, .int v_7, .int v_8, .int v_9]) dX12_linking_146 rfl ?_
      obtain ⟨x11, ex11⟩ : ∃ y : Int32, y = v_7 + 1 := ⟨_, rfl⟩
      replace w := w x11 ex11
      refine ex_iinc (q := 151) (x := v_7) (v := x11) (ls' := [.ref a_0, .int v_1, .int v_2, .int v_3, .retAddr 0, .retAddr 0, .int x10, .int x11, .int v_8, .int v_9]) dX12_linking_148 rfl (by rw [ex11]; rfl) rfl ?_
      refine ex_goto (tgt := 74) dX12_linking_151 ?_
      refine ex_kill 8 (ls' := [.ref a_0, .int v_1, .int v_2, .int v_3, .retAddr 0, .retAddr 0, .int x10, .int x11, .retAddr 0, .int v_9]) rfl ?_
      refine ex_kill 9 (ls' := [.ref a_0, .int v_1, .int v_2, .int v_3, .retAddr 0, .retAddr 0, .int x10, .int x11, .retAddr 0, .retAddr 0]) rfl ?_
      exact w

theorem X12_linking_e {d bc bs : Nat} {h : AH} {Q : Option Value → AH → Prop} {a_0 : Nat} {v_1 : Int32} {v_2 : Int32} {v_3 : Int32} (w : ex_G mX12_linking (d + 5) 0 [.ref a_0, .int v_1, .int v_2, .int v_3, .retAddr 0, .retAddr 0, .retAddr 0, .retAddr 0, .retAddr 0, .retAddr 0] [] h bc bs Q) : ex_S yX12_linking mX12_linking (d + 5) [.ref a_0, .int v_1, .int v_2, .int v_3] h bc bs Q :=
  ex_enter (plainFor_of_name (by decide +kernel)) ⟨rfl, rfl⟩ rfl rfl (Nat.le_of_ble_eq_true rfl) (ex_pad 6 w)

set_option maxRecDepth 100000 in
theorem X12_coloursOf_0 {d bc bs : Nat} {h : AH} {Q : Option Value → AH → Prop} {a_0 : Nat} {v_1 : Int32} {v_2 : Int32} (w : ex_G mX12_coloursOf (d + 1) 2 [.ref a_0, .int v_1, .int v_2, .int 0, .retAddr 0, .retAddr 0, .retAddr 0, .retAddr 0] [] h bc bs Q) : ex_G mX12_coloursOf (d + 1) 0 [.ref a_0, .int v_1, .int v_2, .retAddr 0, .retAddr 0, .retAddr 0, .retAddr 0, .retAddr 0] [] h bc bs Q := by
  refine ex_iconst (q := 1) (v := 0) dX12_coloursOf_0 (by decide) ?_
  refine ex_istore_n (q := 2) (ls' := [.ref a_0, .int v_1, .int v_2, .int 0, .retAddr 0, .retAddr 0, .retAddr 0, .retAddr 0]) dX12_coloursOf_1 rfl ?_
  exact w

set_option maxRecDepth 100000 in
theorem X12_coloursOf_2 {d bc bs : Nat} {h : AH} {Q : Option Value → AH → Prop} {a_0 : Nat} {v_1 : Int32} {v_2 : Int32} {v_3 : Int32} (w : ((100 ≤ v_3 → ex_G mX12_coloursOf (d + 1) 23 [.ref a_0, .int v_1, .int v_2, .int 0, .retAddr 0, .retAddr 0, .retAddr 0, .retAddr 0] [] h bc bs Q) ∧ (¬ 100 ≤ v_3 → ah_o h a_0 12 ∧ ∃ a3, ah_r h a_0 18 = some a3 ∧ st0 h a3 v_3 ∧ ∀ h4, h4 = ah_si h a3 (Int32.toNatClampNeg v_3) (-1) → ∀ x6, x6 = v_3 + 1 → ex_G mX12_coloursOf (d + 1) 2 [.ref a_0, .int v_1, .int v_2, .int x6, .retAddr 0, .retAddr 0, .retAddr 0, .retAddr 0] [] h4 bc bs Q))) : ex_G mX12_coloursOf (d + 1) 2 [.ref a_0, .int v_1, .int v_2, .int v_3, .retAddr 0, .retAddr 0, .retAddr 0, .retAddr 0] [] h bc bs Q := by
  refine ex_iload_n (q := 3) (x := v_3) dX12_coloursOf_2 rfl ?_
  refine ex_bipush (q := 5) (v := 100) dX12_coloursOf_3 (by decide) ?_
  refine ex_icmp_ge (tgt := 21) (q := 8) dX12_coloursOf_5 (fun c1 => ?_) (fun c1 => ?_)
  · replace w := w.1 c1
    refine ex_iconst (q := 22) (v := 0) dX12_coloursOf_21 (by decide) ?_
    refine ex_istore_n (q := 23) (ls' := [.ref a_0, .int v_1, .int v_2, .int 0, .retAddr 0, .retAddr 0, .retAddr 0, .retAddr 0]) dX12_coloursOf_22 rfl ?_
    exact w
  · replace w := w.2 c1
    refine ex_aload_n (q := 9) (x := a_0) dX12_coloursOf_8 rfl ?_
    have s2 := w.1
    replace w := w.2
    obtain ⟨a3, ea3, w⟩ := w
    refine ex_getr (q := 12) dX12_coloursOf_9 fl_X12_61 s2 ea3 ?_
    refine ex_iload_n (q := 13) (x := v_3) dX12_coloursOf_12 rfl ?_
    refine ex_iconst (q := 14) (v := (-1)) dX12_coloursOf_13 (by decide) ?_
    have s5 := w.1
    replace w := w.2
    refine ex_iast (q := 15) dX12_coloursOf_14 s5 ?_
    refine ex_nmh (fun h4 eh4 => ?_)
    replace w := w h4 eh4
    obtain ⟨x6, ex6⟩ : ∃ y : Int32, y = v_3 + 1 := ⟨_, rfl⟩
    replace w := w x6 ex6
    refine ex_iinc (q := 18) (x := v_3) (v := x6) (ls' := [.ref a_0, .int v_1, .int v_2, .int x6, .retAddr 0, .retAddr 0, .retAddr 0, .retAddr 0]) dX12_coloursOf_15 rfl (by rw [ex6]; rfl) rfl ?_
    refine ex_goto (tgt := 2) dX12_coloursOf_18 ?_
    exact w

set_option maxRecDepth 100000 in
theorem X12_coloursOf_23 {d bc bs : Nat} {h : AH} {Q : Option Value → AH → Prop} {a_0 : Nat} {v_1 : Int32} {v_2 : Int32} {v_3 : Int32} (w : ah_o h a_0 12 ∧ ∃ a2, ah_r h a_0 2 = some a2 ∧ ld0 h a2 v_1 ∧ (((4 * (ah_i h a2 (Int32.toNatClampNeg v_1))) ≤ v_3 → ex_G mX12_coloursOf (d + 1) 66 [.ref a_0, .int v_1, .int v_2, .int 0, .retAddr 0, .retAddr 0, .retAddr 0, .retAddr 0] [] h bc bs Q) ∧ (¬ (4 * (ah_i h a2 (Int32.toNatClampNeg v_1))) ≤ v_3 → ∃ a5, ah_r h a_0 5 = some a5 ∧ ld0 h a5 ((160 * v_1) + v_3) ∧ ∀ x7, x7 = ah_i h a5 (Int32.toNatClampNeg ((160 * v_1) + v_3)) → ∃ a8, ah_r h a_0 18 = some a8 ∧ st0 h a8 x7 ∧ ∀ h9, h9 = ah_si h a8 (Int32.toNatClampNeg x7) x7 → ∀ x11, x11 = v_3 + 1 → ex_G mX12_coloursOf (d + 1) 23 [.ref a_0, .int v_1, .int v_2, .int x11, .retAddr 0, .retAddr 0, .retAddr 0, .retAddr 0] [] h9 bc bs Q))) : ex_G mX12_coloursOf (d + 1) 23 [.ref a_0, .int v_1, .int v_2, .int v_3, .retAddr 0, .retAddr 0, .retAddr 0, .retAddr 0] [] h bc bs Q := by
  refine ex_iload_n (q := 24) (x := v_3) dX12_coloursOf_23 rfl ?_
  refine ex_iconst (q := 25) (v := 4) dX12_coloursOf_24 (by decide) ?_
  refine ex_aload_n (q := 26) (x := a_0) dX12_coloursOf_25 rfl ?_
  have s1 := w.1
  replace w := w.2
  obtain ⟨a2, ea2, w⟩ := w
  refine ex_getr (q := 29) dX12_coloursOf_26 fl_X12_13 s1 ea2 ?_
  refine ex_iload_n (q := 30) (x := v_1) dX12_coloursOf_29 rfl ?_
  have s3 := w.1
  replace w := w.2
  refine ex_iald (q := 31) dX12_coloursOf_30 s3 ?_
  refine ex_imul (q := 32) dX12_coloursOf_31 ?_
  refine ex_icmp_ge (tgt := 64) (q := 35) dX12_coloursOf_32 (fun c4 => ?_) (fun c4 => ?_)
  · replace w := w.1 c4
    refine ex_iconst (q := 65) (v := 0) dX12_coloursOf_64 (by decide) ?_
    refine ex_istore_n (q := 66) (ls' := [.ref a_0, .int v_1, .int v_2, .int 0, .retAddr 0, .retAddr 0, .retAddr 0, .retAddr 0]) dX12_coloursOf_65 rfl ?_
    exact w
  · replace w := w.2 c4
    refine ex_aload_n (q := 36) (x := a_0) dX12_coloursOf_35 rfl ?_
    obtain ⟨a5, ea5, w⟩ := w
    refine ex_getr (q := 39) dX12_coloursOf_36 fl_X12_23 s1 ea5 ?_
    refine ex_sipush (q := 42) (v := 160) dX12_coloursOf_39 (by decide) ?_
    refine ex_iload_n (q := 43) (x := v_1) dX12_coloursOf_42 rfl ?_
    refine ex_imul (q := 44) dX12_coloursOf_43 ?_
    refine ex_iload_n (q := 45) (x := v_3) dX12_coloursOf_44 rfl ?_
    refine ex_iadd (q := 46) dX12_coloursOf_45 ?_
    have s6 := w.1
    replace w := w.2
    refine ex_iald (q := 47) dX12_coloursOf_46 s6 ?_
    refine ex_nmi (fun x7 ex7 => ?_)
    replace w := w x7 ex7
    refine ex_istore (q := 49) (ls' := [.ref a_0, .int v_1, .int v_2, .int v_3, .int x7, .retAddr 0, .retAddr 0, .retAddr 0]) dX12_coloursOf_47 rfl ?_
    refine ex_aload_n (q := 50) (x := a_0) dX12_coloursOf_49 rfl ?_
    obtain ⟨a8, ea8, w⟩ := w
    refine ex_getr (q := 53) dX12_coloursOf_50 fl_X12_61 s1 ea8 ?_
    refine ex_iload (q := 55) (x := x7) dX12_coloursOf_53 rfl ?_
    refine ex_iload (q := 57) (x := x7) dX12_coloursOf_55 rfl ?_
    have s10 := w.1
    replace w := w.2
    refine ex_iast (q := 58) dX12_coloursOf_57 s10 ?_
    refine ex_nmh (fun h9 eh9 => ?_)
    replace w := w h9 eh9
    obtain ⟨x11, ex11⟩ : ∃ y : Int32, y = v_3 + 1 := ⟨_, rfl⟩
    replace w := w x11 ex11
    refine ex_iinc (q := 61) (x := v_3) (v := x11) (ls' := [.ref a_0, .int v_1, .int v_2, .int x11, .int x7, .retAddr 0, .retAddr 0, .retAddr 0]) dX12_coloursOf_58 rfl (by rw [ex11]; rfl) rfl ?_
    refine ex_goto (tgt := 23) dX12_coloursOf_61 ?_
    refine ex_kill 4 (ls' := [.ref a_0, .int v_1, .int v_2, .int x11, .retAddr 0, .retAddr 0, .retAddr 0, .retAddr 0]) rfl ?_
    exact w

set_option maxRecDepth 100000 in
theorem X12_coloursOf_66 {d bc bs : Nat} {h : AH} {Q : Option Value → AH → Prop} {a_0 : Nat} {v_1 : Int32} {v_2 : Int32} {v_3 : Int32} (w : ah_o h a_0 12 ∧ ∃ a2, ah_r h a_0 2 = some a2 ∧ ld0 h a2 v_1 ∧ (((ah_i h a2 (Int32.toNatClampNeg v_1)) ≤ v_3 → ex_G mX12_coloursOf (d + 1) 180 [.ref a_0, .int v_1, .int v_2, .int 0, .int 0, .retAddr 0, .retAddr 0, .retAddr 0] [] h bc bs Q) ∧ (¬ (ah_i h a2 (Int32.toNatClampNeg v_1)) ≤ v_3 → ∃ a5, ah_r h a_0 18 = some a5 ∧ ∃ a6, ah_r h a_0 5 = some a6 ∧ ld0 h a6 (((160 * v_1) + (4 * v_3)) + 1) ∧ ld0 h a5 (ah_i h a6 (Int32.toNatClampNeg (((160 * v_1) + (4 * v_3)) + 1))) ∧ ∀ x9, x9 = ah_i h a5 (Int32.toNatClampNeg (ah_i h a6 (Int32.toNatClampNeg (((160 * v_1) + (4 * v_3)) + 1)))) → ld0 h a6 (((160 * v_1) + (4 * v_3)) + 3) ∧ ld0 h a5 (ah_i h a6 (Int32.toNatClampNeg (((160 * v_1) + (4 * v_3)) + 3))) ∧ ∀ x12, x12 = ah_i h a5 (Int32.toNatClampNeg (ah_i h a6 (Int32.toNatClampNeg (((160 * v_1) + (4 * v_3)) + 3)))) → ex_G mX12_coloursOf (d + 1) 125 [.ref a_0, .int v_1, .int v_2, .int v_3, .int x9, .int x12, .int 0, .retAddr 0] [] h bc bs Q))) : ex_G mX12_coloursOf (d + 1) 66 [.ref a_0, .int v_1, .int v_2, .int v_3, .retAddr 0, .retAddr 0, .retAddr 0, .retAddr 0] [] h bc bs Q := by
  refine ex_iload_n (q := 67) (x := v_3) dX12_coloursOf_66 rfl ?_
  refine ex_aload_n (q := 68) (x := a_0) dX12_coloursOf_67 rfl ?_
  have s1 := w.1
  replace w := w.2
  obtain ⟨a2, ea2, w⟩ := w
  refine ex_getr (q := 71) dX12_coloursOf_68 fl_X12_13 s1 ea2 ?_
  refine ex_iload_n (q := 72) (x := v_1) dX12_coloursOf_71 rfl ?_
  have s3 := w.1
  replace w := w.2
  refine ex_iald (q := 73) dX12_coloursOf_72 s3 ?_
  refine ex_icmp_ge (tgt := 175) (q := 76) dX12_coloursOf_73 (fun c4 => ?_) (fun c4 => ?_)
  · replace w := w.1 c4
    refine ex_iconst (q := 176) (v := 0) dX12_coloursOf_175 (by decide) ?_
    refine ex_istore_n (q := 177) (ls' := [.ref a_0, .int v_1, .int v_2, .int 0, .retAddr 0, .retAddr 0, .retAddr 0, .retAddr 0]) dX12_coloursOf_176 rfl ?_
    refine ex_iconst (q := 178) (v := 0) dX12_coloursOf_177 (by decide) ?_
    refine ex_istore (q := 180) (ls' := [.ref a_0, .int v_1, .int v_2, .int 0, .int 0, .retAddr 0, .retAddr 0, .retAddr 0]) dX12_coloursOf_178 rfl ?_
    exact w
  · replace w := w.2 c4
    refine ex_aload_n (q := 77) (x := a_0) dX12_coloursOf_76 rfl ?_
    obtain ⟨a5, ea5, w⟩ := w
    refine ex_getr (q := 80) dX12_coloursOf_77 fl_X12_61 s1 ea5 ?_
    refine ex_aload_n (q := 81) (x := a_0) dX12_coloursOf_80 rfl ?_
    obtain ⟨a6, ea6, w⟩ := w
    refine ex_getr (q := 84) dX12_coloursOf_81 fl_X12_23 s1 ea6 ?_
    refine ex_sipush (q := 87) (v := 160) dX12_coloursOf_84 (by decide) ?_
    refine ex_iload_n (q := 88) (x := v_1) dX12_coloursOf_87 rfl ?_
    refine ex_imul (q := 89) dX12_coloursOf_88 ?_
    refine ex_iconst (q := 90) (v := 4) dX12_coloursOf_89 (by decide) ?_
    refine ex_iload_n (q := 91) (x := v_3) dX12_coloursOf_90 rfl ?_
    refine ex_imul (q := 92) dX12_coloursOf_91 ?_
    refine ex_iadd (q := 93) dX12_coloursOf_92 ?_
    refine ex_iconst (q := 94) (v := 1) dX12_coloursOf_93 (by decide) ?_
    refine ex_iadd (q := 95) dX12_coloursOf_94 ?_
    have s7 := w.1
    replace w := w.2
    refine ex_iald (q := 96) dX12_coloursOf_95 s7 ?_
    have s8 := w.1
    replace w := w.2
    refine ex_iald (q := 97) dX12_coloursOf_96 s8 ?_
    refine ex_nmi (fun x9 ex9 => ?_)
    replace w := w x9 ex9
    refine ex_istore (q := 99) (ls' := [.ref a_0, .int v_1, .int v_2, .int v_3, .int x9, .retAddr 0, .retAddr 0, .retAddr 0]) dX12_coloursOf_97 rfl ?_
    refine ex_aload_n (q := 100) (x := a_0) dX12_coloursOf_99 rfl ?_
    refine ex_getr (q := 103) dX12_coloursOf_100 fl_X12_61 s1 ea5 ?_
    refine ex_aload_n (q := 104) (x := a_0) dX12_coloursOf_103 rfl ?_
    refine ex_getr (q := 107) dX12_coloursOf_104 fl_X12_23 s1 ea6 ?_
    refine ex_sipush (q := 110) (v := 160) dX12_coloursOf_107 (by decide) ?_
    refine ex_iload_n (q := 111) (x := v_1) dX12_coloursOf_110 rfl ?_
    refine ex_imul (q := 112) dX12_coloursOf_111 ?_
    refine ex_iconst (q := 113) (v := 4) dX12_coloursOf_112 (by decide) ?_
    refine ex_iload_n (q := 114) (x := v_3) dX12_coloursOf_113 rfl ?_
    refine ex_imul (q := 115) dX12_coloursOf_114 ?_
    refine ex_iadd (q := 116) dX12_coloursOf_115 ?_
    refine ex_iconst (q := 117) (v := 3) dX12_coloursOf_116 (by decide) ?_
    refine ex_iadd (q := 118) dX12_coloursOf_117 ?_
    have s10 := w.1
    replace w := w.2
    refine ex_iald (q := 119) dX12_coloursOf_118 s10 ?_
    have s11 := w.1
    replace w := w.2
    refine ex_iald (q := 120) dX12_coloursOf_119 s11 ?_
    refine ex_nmi (fun x12 ex12 => ?_)
    replace w := w x12 ex12
    refine ex_istore (q := 122) (ls' := [.ref a_0, .int v_1, .int v_2, .int v_3, .int x9, .int x12, .retAddr 0, .retAddr 0]) dX12_coloursOf_120 rfl ?_
    refine ex_iconst (q := 123) (v := 0) dX12_coloursOf_122 (by decide) ?_
    refine ex_istore (q := 125) (ls' := [.ref a_0, .int v_1, .int v_2, .int v_3, .int x9, .int x12, .int 0, .retAddr 0]) dX12_coloursOf_123 rfl ?_
    exact w

set_option maxRecDepth 100000 in
theorem X12_coloursOf_125 {d bc bs : Nat} {h : AH} {Q : Option Value → AH → Prop} {a_0 : Nat} {v_1 : Int32} {v_2 : Int32} {v_3 : Int32} {v_4 : Int32} {v_5 : Int32} {v_6 : Int32} (w : ((100 ≤ v_6 → ∀ x2, x2 = v_3 + 1 → ex_G mX12_coloursOf (d + 1) 66 [.ref a_0, .int v_1, .int v_2, .int x2, .retAddr 0, .retAddr 0, .retAddr 0, .retAddr 0] [] h bc bs Q) ∧ (¬ 100 ≤ v_6 → ah_o h a_0 12 ∧ ∃ a4, ah_r h a_0 18 = some a4 ∧ ld0 h a4 v_6 ∧ ((¬ (ah_i h a4 (Int32.toNatClampNeg v_6)) = v_5 → st0 h a4 v_6 ∧ ∀ h7, h7 = ah_si h a4 (Int32.toNatClampNeg v_6) (ah_i h a4 (Int32.toNatClampNeg v_6)) → ∀ x9, x9 = v_6 + 1 → ex_G mX12_coloursOf (d + 1) 125 [.ref a_0, .int v_1, .int v_2, .int v_3, .int v_4, .int v_5, .int x9, .retAddr 0] [] h7 bc bs Q) ∧ ((ah_i h a4 (Int32.toNatClampNeg v_6)) = v_5 → st0 h a4 v_6 ∧ ∀ h10, h10 = ah_si h a4 (Int32.toNatClampNeg v_6) v_4 → ∀ x12, x12 = v_6 + 1 → ex_G mX12_coloursOf (d + 1) 125 [.ref a_0, .int v_1, .int v_2, .int v_3, .int v_4, .int v_5, .int x12, .retAddr 0] [] h10 bc bs Q))))) : ex_G mX12_coloursOf (d + 1) 125 [.ref a_0, .int v_1, .int v_2, .int v_3, .int v_4, .int v_5, .int v_6, .retAddr 0] [] h bc bs Q := by
  refine ex_iload (q := 127) (x := v_6) dX12_coloursOf_125 rfl ?_
  refine ex_bipush (q := 129) (v := 100) dX12_coloursOf_127 (by decide) ?_
  refine ex_icmp_ge (tgt := 169) (q := 132) dX12_coloursOf_129 (fun c1 => ?_) (fun c1 => ?_)
  · replace w := w.1 c1
    obtain ⟨x2, ex2⟩ : ∃ y : Int32, y = v_3 + 1 := ⟨_, rfl⟩
    replace w := w x2 ex2
    refine ex_iinc (q := 172) (x := v_3) (v := x2) (ls' := [.ref a_0, .int v_1, .int v_2, .int x2, .int v_4, .int v_5, .int v_6, .retAddr 0]) dX12_coloursOf_169 rfl (by rw [ex2]; rfl) rfl ?_
    refine ex_goto (tgt := 66) dX12_coloursOf_172 ?_
    refine ex_kill 4 (ls' := [.ref a_0, .int v_1, .int v_2, .int x2, .retAddr 0, .int v_5, .int v_6, .retAddr 0]) rfl ?_
    refine ex_kill 5 (ls' := [.ref a_0, .int v_1, .int v_2, .int x2, .retAddr 0, .retAddr 0, .int v_6, .retAddr 0]) rfl ?_
    refine ex_kill 6 (ls' := [.ref a_0, .int v_1, .int v_2, .int x2, .retAddr 0, .retAddr 0, .retAddr 0, .retAddr 0]) rfl ?_
    exact w
  · replace w := w.2 c1
    refine ex_aload_n (q := 133) (x := a_0) dX12_coloursOf_132 rfl ?_
    have s3 := w.1
    replace w := w.2
    obtain ⟨a4, ea4, w⟩ := w
    refine ex_getr (q := 136) dX12_coloursOf_133 fl_X12_61 s3 ea4 ?_
    refine ex_iload (q := 138) (x := v_6) dX12_coloursOf_136 rfl ?_
    refine ex_aload_n (q := 139) (x := a_0) dX12_coloursOf_138 rfl ?_
    refine ex_getr (q := 142) dX12_coloursOf_139 fl_X12_61 s3 ea4 ?_
    refine ex_iload (q := 144) (x := v_6) dX12_coloursOf_142 rfl ?_
    have s5 := w.1
    replace w := w.2
    refine ex_iald (q := 145) dX12_coloursOf_144 s5 ?_
    refine ex_iload (q := 147) (x := v_5) dX12_coloursOf_145 rfl ?_
    refine ex_icmp_ne (tgt := 155) (q := 150) dX12_coloursOf_147 (fun c6 => ?_) (fun c6 => ?_)
    · replace w := w.1 c6
      refine ex_aload_n (q := 156) (x := a_0) dX12_coloursOf_155 rfl ?_
      refine ex_getr (q := 159) dX12_coloursOf_156 fl_X12_61 s3 ea4 ?_
      refine ex_iload (q := 161) (x := v_6) dX12_coloursOf_159 rfl ?_
      refine ex_iald (q := 162) dX12_coloursOf_161 s5 ?_
      have s8 := w.1
      replace w := w.2
      refine ex_iast (q := 163) dX12_coloursOf_162 s8 ?_
      refine ex_nmh (fun h7 eh7 => ?_)
      replace w := w h7 eh7
      obtain ⟨x9, ex9⟩ : ∃ y : Int32, y = v_6 + 1 := ⟨_, rfl⟩
      replace w := w x9 ex9
      refine ex_iinc (q := 166) (x := v_6) (v := x9) (ls' := [.ref a_0, .int v_1, .int v_2, .int v_3, .int v_4, .int v_5, .int x9, .retAddr 0]) dX12_coloursOf_163 rfl (by rw [ex9]; rfl) rfl ?_
      refine ex_goto (tgt := 125) dX12_coloursOf_166 ?_
      exact w
    · replace w := w.2 c6
      refine ex_iload (q := 152) (x := v_4) dX12_coloursOf_150 rfl ?_
      refine ex_goto (tgt := 162) dX12_coloursOf_152 ?_
      have s11 := w.1
      replace w := w.2
      refine ex_iast (q := 163) dX12_coloursOf_162 s11 ?_
      refine ex_nmh (fun h10 eh10 => ?_)
      replace w := w h10 eh10
      obtain ⟨x12, ex12⟩ : ∃ y : Int32, y = v_6 + 1 := ⟨_, rfl⟩
      replace w := w x12 ex12
      refine ex_iinc (q := 166) (x := v_6) (v := x12) (ls' := [.ref a_0, .int v_1, .int v_2, .int v_3, .int v_4, .int v_5, .int x12, .retAddr 0]) dX12_coloursOf_163 rfl (by rw [ex12]; rfl) rfl ?_
      refine ex_goto (tgt := 125) dX12_coloursOf_166 ?_
      exact w

set_option maxRecDepth 100000 in
theorem X12_coloursOf_180 {d bc bs : Nat} {h : AH} {Q : Option Value → AH → Prop} {a_0 : Nat} {v_1 : Int32} {v_2 : Int32} {v_3 : Int32} {v_4 : Int32} (w : ((100 ≤ v_4 → ex_G mX12_coloursOf (d + 1) 216 [.ref a_0, .int v_1, .int v_2, .int v_3, .int 0, .retAddr 0, .retAddr 0, .retAddr 0] [] h bc bs Q) ∧ (¬ 100 ≤ v_4 → ah_o h a_0 12 ∧ ∃ a3, ah_r h a_0 18 = some a3 ∧ ld0 h a3 v_4 ∧ ((¬ (ah_i h a3 (Int32.toNatClampNeg v_4)) = v_4 → ∀ x6, x6 = v_3 + 0 → ∀ x7, x7 = v_4 + 1 → ex_G mX12_coloursOf (d + 1) 180 [.ref a_0, .int v_1, .int v_2, .int x6, .int x7, .retAddr 0, .retAddr 0, .retAddr 0] [] h bc bs Q) ∧ ((ah_i h a3 (Int32.toNatClampNeg v_4)) = v_4 → ∀ x8, x8 = v_3 + 1 → ∀ x9, x9 = v_4 + 1 → ex_G mX12_coloursOf (d + 1) 180 [.ref a_0, .int v_1, .int v_2, .int x8, .int x9, .retAddr 0, .retAddr 0, .retAddr 0] [] h bc bs Q))))) : ex_G mX12_coloursOf (d + 1) 180 [.ref a_0, .int v_1, .int v_2, .int v_3, .int v_4, .retAddr 0, .retAddr 0, .retAddr 0] [] h bc bs Q := by
  refine ex_iload (q := 182) (x := v_4) dX12_coloursOf_180 rfl ?_
  refine ex_bipush (q := 184) (v := 100) dX12_coloursOf_182 (by decide) ?_
  refine ex_icmp_ge (tgt := 213) (q := 187) dX12_coloursOf_184 (fun c1 => ?_) (fun c1 => ?_)
  · replace w := w.1 c1
    refine ex_iconst (q := 214) (v := 0) dX12_coloursOf_213 (by decide) ?_
    refine ex_istore (q := 216) (ls' := [.ref a_0, .int v_1, .int v_2, .int v_3, .int 0, .retAddr 0, .retAddr 0, .retAddr 0]) dX12_coloursOf_214 rfl ?_
    exact w
  · replace w := w.2 c1
    refine ex_iload_n (q := 188) (x := v_3) dX12_coloursOf_187 rfl ?_
    refine ex_aload_n (q := 189) (x := a_0) dX12_coloursOf_188 rfl ?_
    have s2 := w.1
    replace w := w.2
    obtain ⟨a3, ea3, w⟩ := w
    refine ex_getr (q := 192) dX12_coloursOf_189 fl_X12_61 s2 ea3 ?_
    refine ex_iload (q := 194) (x := v_4) dX12_coloursOf_192 rfl ?_
    have s4 := w.1
    replace w := w.2
    refine ex_iald (q := 195) dX12_coloursOf_194 s4 ?_
    refine ex_iload (q := 197) (x := v_4) dX12_coloursOf_195 rfl ?_
    refine ex_icmp_ne (tgt := 204) (q := 200) dX12_coloursOf_197 (fun c5 => ?_) (fun c5 => ?_)
    · replace w := w.1 c5
      refine ex_iconst (q := 205) (v := 0) dX12_coloursOf_204 (by decide) ?_
      refine ex_iadd (q := 206) dX12_coloursOf_205 ?_
      refine ex_nmi (fun x6 ex6 => ?_)
      replace w := w x6 ex6
      refine ex_istore_n (q := 207) (ls' := [.ref a_0, .int v_1, .int v_2, .int x6, .int v_4, .retAddr 0, .retAddr 0, .retAddr 0]) dX12_coloursOf_206 rfl ?_
      obtain ⟨x7, ex7⟩ : ∃ y : Int32, y = v_4 + 1 := ⟨_, rfl⟩
      replace w := w x7 ex7
      refine ex_iinc (q := 210) (x := v_4) (v := x7) (ls' := [.ref a_0, .int v_1, .int v_2, .int x6, .int x7, .retAddr 0, .retAddr 0, .retAddr 0]) dX12_coloursOf_207 rfl (by rw [ex7]; rfl) rfl ?_
      refine ex_goto (tgt := 180) dX12_coloursOf_210 ?_
      exact w
    · replace w := w.2 c5
      refine ex_iconst (q := 201) (v := 1) dX12_coloursOf_200 (by decide) ?_
      refine ex_goto (tgt := 205) dX12_coloursOf_201 ?_
      refine ex_iadd (q := 206) dX12_coloursOf_205 ?_
      refine ex_nmi (fun x8 ex8 => ?_)
      replace w := w x8 ex8
      refine ex_istore_n (q := 207) (ls' := [.ref a_0, .int v_1, .int v_2, .int x8, .int v_4, .retAddr 0, .retAddr 0, .retAddr 0]) dX12_coloursOf_206 rfl ?_
      obtain ⟨x9, ex9⟩ : ∃ y : Int32, y = v_4 + 1 := ⟨_, rfl⟩
      replace w := w x9 ex9
      refine ex_iinc (q := 210) (x := v_4) (v := x9) (ls' := [.ref a_0, .int v_1, .int v_2, .int x8, .int x9, .retAddr 0, .retAddr 0, .retAddr 0]) dX12_coloursOf_207 rfl (by rw [ex9]; rfl) rfl ?_
      refine ex_goto (tgt := 180) dX12_coloursOf_210 ?_
      exact w

set_option maxRecDepth 100000 in
theorem X12_coloursOf_216 {d bc bs : Nat} {h : AH} {Q : Option Value → AH → Prop} {a_0 : Nat} {v_1 : Int32} {v_2 : Int32} {v_3 : Int32} {v_4 : Int32} (w : ah_o h a_0 12 ∧ ∃ a2, ah_r h a_0 2 = some a2 ∧ ld0 h a2 v_1 ∧ (((100 * (ah_i h a2 (Int32.toNatClampNeg v_1))) ≤ v_4 → ex_G mX12_coloursOf (d + 1) 247 [.ref a_0, .int v_1, .int v_2, .int v_3, .int 0, .retAddr 0, .retAddr 0, .retAddr 0] [] h bc bs Q) ∧ (¬ (100 * (ah_i h a2 (Int32.toNatClampNeg v_1))) ≤ v_4 → ∃ a5, ah_r h a_0 19 = some a5 ∧ st0 h a5 v_4 ∧ ∀ h6, h6 = ah_si h a5 (Int32.toNatClampNeg v_4) 0 → ∀ x8, x8 = v_4 + 1 → ex_G mX12_coloursOf (d + 1) 216 [.ref a_0, .int v_1, .int v_2, .int v_3, .int x8, .retAddr 0, .retAddr 0, .retAddr 0] [] h6 bc bs Q))) : ex_G mX12_coloursOf (d + 1) 216 [.ref a_0, .int v_1, .int v_2, .int v_3, .int v_4, .retAddr 0, .retAddr 0, .retAddr 0] [] h bc bs Q := by
  refine ex_iload (q := 218) (x := v_4) dX12_coloursOf_216 rfl ?_
  refine ex_bipush (q := 220) (v := 100) dX12_coloursOf_218 (by decide) ?_
  refine ex_aload_n (q := 221) (x := a_0) dX12_coloursOf_220 rfl ?_
  have s1 := w.1
  replace w := w.2
  obtain ⟨a2, ea2, w⟩ := w
  refine ex_getr (q := 224) dX12_coloursOf_221 fl_X12_13 s1 ea2 ?_
  refine ex_iload_n (q := 225) (x := v_1) dX12_coloursOf_224 rfl ?_
  have s3 := w.1
  replace w := w.2
  refine ex_iald (q := 226) dX12_coloursOf_225 s3 ?_
  refine ex_imul (q := 227) dX12_coloursOf_226 ?_
  refine ex_icmp_ge (tgt := 244) (q := 230) dX12_coloursOf_227 (fun c4 => ?_) (fun c4 => ?_)
  · replace w := w.1 c4
    refine ex_iconst (q := 245) (v := 0) dX12_coloursOf_244 (by decide) ?_
    refine ex_istore (q := 247) (ls' := [.ref a_0, .int v_1, .int v_2, .int v_3, .int 0, .retAddr 0, .retAddr 0, .retAddr 0]) dX12_coloursOf_245 rfl ?_
    exact w
  · replace w := w.2 c4
    refine ex_aload_n (q := 231) (x := a_0) dX12_coloursOf_230 rfl ?_
    obtain ⟨a5, ea5, w⟩ := w
    refine ex_getr (q := 234) dX12_coloursOf_231 fl_X12_64 s1 ea5 ?_
    refine ex_iload (q := 236) (x := v_4) dX12_coloursOf_234 rfl ?_
    refine ex_iconst (q := 237) (v := 0) dX12_coloursOf_236 (by decide) ?_
    have s7 := w.1
    replace w := w.2
    refine ex_iast (q := 238) dX12_coloursOf_237 s7 ?_
    refine ex_nmh (fun h6 eh6 => ?_)
    replace w := w h6 eh6
    obtain ⟨x8, ex8⟩ : ∃ y : Int32, y = v_4 + 1 := ⟨_, rfl⟩
    replace w := w x8 ex8
    refine ex_iinc (q := 241) (x := v_4) (v := x8) (ls' := [.ref a_0, .int v_1, .int v_2, .int v_3, .int x8, .retAddr 0, .retAddr 0, .retAddr 0]) dX12_coloursOf_238 rfl (by rw [ex8]; rfl) rfl ?_
    refine ex_goto (tgt := 216) dX12_coloursOf_241 ?_
    exact w

set_option maxRecDepth 100000 in
theorem X12_coloursOf_247 {d bc bs : Nat} {h : AH} {Q : Option Value → AH → Prop} {a_0 : Nat} {v_1 : Int32} {v_2 : Int32} {v_3 : Int32} {v_4 : Int32} (w : ah_o h a_0 12 ∧ ∃ a2, ah_r h a_0 2 = some a2 ∧ ld0 h a2 v_1 ∧ (((ah_i h a2 (Int32.toNatClampNeg v_1)) ≤ v_4 → ex_G mX12_coloursOf (d + 1) 369 [.ref a_0, .int v_1, .int v_2, .int v_3, .int 0, .int 0, .retAddr 0, .retAddr 0] [] h bc bs Q) ∧ (¬ (ah_i h a2 (Int32.toNatClampNeg v_1)) ≤ v_4 → ∀ x5, x5 = (160 * v_1) + (4 * v_4) → ∃ a6, ah_r h a_0 19 = some a6 ∧ ∃ a7, ah_r h a_0 18 = some a7 ∧ ∃ a8, ah_r h a_0 5 = some a8 ∧ ld0 h a8 x5 ∧ ld0 h a7 (ah_i h a8 (Int32.toNatClampNeg x5)) ∧ ld0 h a6 ((100 * v_4) + (ah_i h a7 (Int32.toNatClampNeg (ah_i h a8 (Int32.toNatClampNeg x5))))) ∧ st0 h a6 ((100 * v_4) + (ah_i h a7 (Int32.toNatClampNeg (ah_i h a8 (Int32.toNatClampNeg x5))))) ∧ ∀ h12, h12 = ah_si h a6 (Int32.toNatClampNeg ((100 * v_4) + (ah_i h a7 (Int32.toNatClampNeg (ah_i h a8 (Int32.toNatClampNeg x5)))))) ((ah_i h a6 (Int32.toNatClampNeg ((100 * v_4) + (ah_i h a7 (Int32.toNatClampNeg (ah_i h a8 (Int32.toNatClampNeg x5))))))) + 1) → ld0 h12 a8 (x5 + 2) ∧ ld0 h12 a7 (ah_i h12 a8 (Int32.toNatClampNeg (x5 + 2))) ∧ ld0 h12 a6 ((100 * v_4) + (ah_i h12 a7 (Int32.toNatClampNeg (ah_i h12 a8 (Int32.toNatClampNeg (x5 + 2)))))) ∧ st0 h12 a6 ((100 * v_4) + (ah_i h12 a7 (Int32.toNatClampNeg (ah_i h12 a8 (Int32.toNatClampNeg (x5 + 2)))))) ∧ ∀ h17, h17 = ah_si h12 a6 (Int32.toNatClampNeg ((100 * v_4) + (ah_i h12 a7 (Int32.toNatClampNeg (ah_i h12 a8 (Int32.toNatClampNeg (x5 + 2))))))) ((ah_i h12 a6 (Int32.toNatClampNeg ((100 * v_4) + (ah_i h12 a7 (Int32.toNatClampNeg (ah_i h12 a8 (Int32.toNatClampNeg (x5 + 2)))))))) + 1) → ld0 h17 a8 (x5 + 1) ∧ ld0 h17 a7 (ah_i h17 a8 (Int32.toNatClampNeg (x5 + 1))) ∧ ld0 h17 a6 ((100 * v_4) + (ah_i h17 a7 (Int32.toNatClampNeg (ah_i h17 a8 (Int32.toNatClampNeg (x5 + 1)))))) ∧ st0 h17 a6 ((100 * v_4) + (ah_i h17 a7 (Int32.toNatClampNeg (ah_i h17 a8 (Int32.toNatClampNeg (x5 + 1)))))) ∧ ∀ h22, h22 = ah_si h17 a6 (Int32.toNatClampNeg ((100 * v_4) + (ah_i h17 a7 (Int32.toNatClampNeg (ah_i h17 a8 (Int32.toNatClampNeg (x5 + 1))))))) ((ah_i h17 a6 (Int32.toNatClampNeg ((100 * v_4) + (ah_i h17 a7 (Int32.toNatClampNeg (ah_i h17 a8 (Int32.toNatClampNeg (x5 + 1)))))))) + (v_2 - 2)) → ∀ x24, x24 = v_4 + 1 → ex_G mX12_coloursOf (d + 1) 247 [.ref a_0, .int v_1, .int v_2, .int v_3, .int x24, .retAddr 0, .retAddr 0, .retAddr 0] [] h22 bc bs Q))) : ex_G mX12_coloursOf (d + 1) 247 [.ref a_0, .int v_1, .int v_2, .int v_3, .int v_4, .retAddr 0, .retAddr 0, .retAddr 0] [] h bc bs Q := by
  refine ex_iload (q := 249) (x := v_4) dX12_coloursOf_247 rfl ?_
  refine ex_aload_n (q := 250) (x := a_0) dX12_coloursOf_249 rfl ?_
  have s1 := w.1
  replace w := w.2
  obtain ⟨a2, ea2, w⟩ := w
  refine ex_getr (q := 253) dX12_coloursOf_250 fl_X12_13 s1 ea2 ?_
  refine ex_iload_n (q := 254) (x := v_1) dX12_coloursOf_253 rfl ?_
  have s3 := w.1
  replace w := w.2
  refine ex_iald (q := 255) dX12_coloursOf_254 s3 ?_
  refine ex_icmp_ge (tgt := 363) (q := 258) dX12_coloursOf_255 (fun c4 => ?_) (fun c4 => ?_)
  · replace w := w.1 c4
    refine ex_iconst (q := 364) (v := 0) dX12_coloursOf_363 (by decide) ?_
    refine ex_istore (q := 366) (ls' := [.ref a_0, .int v_1, .int v_2, .int v_3, .int 0, .retAddr 0, .retAddr 0, .retAddr 0]) dX12_coloursOf_364 rfl ?_
    refine ex_iconst (q := 367) (v := 0) dX12_coloursOf_366 (by decide) ?_
    refine ex_istore (q := 369) (ls' := [.ref a_0, .int v_1, .int v_2, .int v_3, .int 0, .int 0, .retAddr 0, .retAddr 0]) dX12_coloursOf_367 rfl ?_
    exact w
  · replace w := w.2 c4
    refine ex_sipush (q := 261) (v := 160) dX12_coloursOf_258 (by decide) ?_
    refine ex_iload_n (q := 262) (x := v_1) dX12_coloursOf_261 rfl ?_
    refine ex_imul (q := 263) dX12_coloursOf_262 ?_
    refine ex_iconst (q := 264) (v := 4) dX12_coloursOf_263 (by decide) ?_
    refine ex_iload (q := 266) (x := v_4) dX12_coloursOf_264 rfl ?_
    refine ex_imul (q := 267) dX12_coloursOf_266 ?_
    refine ex_iadd (q := 268) dX12_coloursOf_267 ?_
    refine ex_nmi (fun x5 ex5 => ?_)
    replace w := w x5 ex5
    refine ex_istore (q := 270) (ls' := [.ref a_0, .int v_1, .int v_2, .int v_3, .int v_4, .int x5, .retAddr 0, .retAddr 0]) dX12_coloursOf_268 rfl ?_
    refine ex_aload_n (q := 271) (x := a_0) dX12_coloursOf_270 rfl ?_
    obtain ⟨a6, ea6, w⟩ := w
    refine ex_getr (q := 274) dX12_coloursOf_271 fl_X12_64 s1 ea6 ?_
    refine ex_bipush (q := 276) (v := 100) dX12_coloursOf_274 (by decide) ?_
    refine ex_iload (q := 278) (x := v_4) dX12_coloursOf_276 rfl ?_
    refine ex_imul (q := 279) dX12_coloursOf_278 ?_
    refine ex_aload_n (q := 280) (x := a_0) dX12_coloursOf_279 rfl ?_
    obtain ⟨a7, ea7, w⟩ := w
    refine ex_getr (q := 283) dX12_coloursOf_280 fl_X12_61 s1 ea7 ?_
    refine ex_aload_n (q := 284) (x := a_0) dX12_coloursOf_283 rfl ?_
    obtain ⟨a8, ea8, w⟩ := w
    refine ex_getr (q := 287) dX12_coloursOf_284 fl_X12_23 s1 ea8 ?_
    refine ex_iload (q := 289) (x := x5) dX12_coloursOf_287 rfl ?_
    have s9 := w.1
    replace w := w.2
    refine ex_iald (q := 290) dX12_coloursOf_289 s9 ?_
    have s10 := w.1
    replace w := w.2
    refine ex_iald (q := 291) dX12_coloursOf_290 s10 ?_
    refine ex_iadd (q := 292) dX12_coloursOf_291 ?_
    refine ex_dup2 (q := 293) dX12_coloursOf_292 rfl rfl ?_
    have s11 := w.1
    replace w := w.2
    refine ex_iald (q := 294) dX12_coloursOf_293 s11 ?_
    refine ex_iconst (q := 295) (v := 1) dX12_coloursOf_294 (by decide) ?_
    refine ex_iadd (q := 296) dX12_coloursOf_295 ?_
    have s13 := w.1
    replace w := w.2
    refine ex_iast (q := 297) dX12_coloursOf_296 s13 ?_
    refine ex_nmh (fun h12 eh12 => ?_)
    replace w := w h12 eh12
    refine ex_aload_n (q := 298) (x := a_0) dX12_coloursOf_297 rfl ?_
    refine ex_getr (q := 301) dX12_coloursOf_298 fl_X12_64 (by rw [eh12]; exact s1) (by rw [eh12]; exact ea6) ?_
    refine ex_bipush (q := 303) (v := 100) dX12_coloursOf_301 (by decide) ?_
    refine ex_iload (q := 305) (x := v_4) dX12_coloursOf_303 rfl ?_
    refine ex_imul (q := 306) dX12_coloursOf_305 ?_
    refine ex_aload_n (q := 307) (x := a_0) dX12_coloursOf_306 rfl ?_
    refine ex_getr (q := 310) dX12_coloursOf_307 fl_X12_61 (by rw [eh12]; exact s1) (by rw [eh12]; exact ea7) ?_
    refine ex_aload_n (q := 311) (x := a_0) dX12_coloursOf_310 rfl ?_
    refine ex_getr (q := 314) dX12_coloursOf_311 fl_X12_23 (by rw [eh12]; exact s1) (by rw [eh12]; exact ea8) ?_
    refine ex_iload (q := 316) (x := x5) dX12_coloursOf_314 rfl ?_
    refine ex_iconst (q := 317) (v := 2) dX12_coloursOf_316 (by decide) ?_
    refine ex_iadd (q := 318) dX12_coloursOf_317 ?_
    have s14 := w.1
    replace w := w.2
    refine ex_iald (q := 319) dX12_coloursOf_318 s14 ?_
    have s15 := w.1
    replace w := w.2
    refine ex_iald (q := 320) dX12_coloursOf_319 s15 ?_
    refine ex_iadd (q := 321) dX12_coloursOf_320 ?_
    refine ex_dup2 (q := 322) dX12_coloursOf_321 rfl rfl ?_
    have s16 := w.1
    replace w := w.2
    refine ex_iald (q := 323) dX12_coloursOf_322 s16 ?_
    refine ex_iconst (q := 324) (v := 1) dX12_coloursOf_323 (by decide) ?_
    refine ex_iadd (q := 325) dX12_coloursOf_324 ?_
    have s18 := w.1
    replace w := w.2
    refine ex_iast (q := 326) dX12_coloursOf_325 s18 ?_
    refine ex_nmh (fun h17 eh17 => ?_)
    replace w := w h17 eh17
    refine ex_aload_n (q := 327) (x := a_0) dX12_coloursOf_326 rfl ?_
    refine ex_getr (q := 330) dX12_coloursOf_327 fl_X12_64 (by rw [eh17]; exact (by rw [eh12]; exact s1)) (by rw [eh17]; exact (by rw [eh12]; exact ea6)) ?_
    refine ex_bipush (q := 332) (v := 100) dX12_coloursOf_330 (by decide) ?_
    refine ex_iload (q := 334) (x := v_4) dX12_coloursOf_332 rfl ?_
    refine ex_imul (q := 335) dX12_coloursOf_334 ?_
    refine ex_aload_n (q := 336) (x := a_0) dX12_coloursOf_335 rfl ?_
    refine ex_getr (q := 339) dX12_coloursOf_336 fl_X12_61 (by rw [eh17]; exact (by rw [eh12]; exact s1)) (by rw [eh17]; exact (by rw [eh12]; exact ea7)) ?_
    refine ex_aload_n (q := 340) (x := a_0) dX12_coloursOf_339 rfl ?_
    refine ex_getr (q := 343) dX12_coloursOf_340 fl_X12_23 (by rw [eh17]; exact (by rw [eh12]; exact s1)) (by rw [eh17]; exact (by rw [eh12]; exact ea8)) ?_
    refine ex_iload (q := 345) (x := x5) dX12_coloursOf_343 rfl ?_
    refine ex_iconst (q := 346) (v := 1) dX12_coloursOf_345 (by decide) ?_
    refine ex_iadd (q := 347) dX12_coloursOf_346 ?_
    have s19 := w.1
    replace w := w.2
    refine ex_iald (q := 348) dX12_coloursOf_347 s19 ?_
    have s20 := w.1
    replace w := w.2
    refine ex_iald (q := 349) dX12_coloursOf_348 s20 ?_
    refine ex_iadd (q := 350) dX12_coloursOf_349 ?_
    refine ex_dup2 (q := 351) dX12_coloursOf_350 rfl rfl ?_
    have s21 := w.1
    replace w := w.2
    refine ex_iald (q := 352) dX12_coloursOf_351 s21 ?_
    refine ex_iload_n (q := 353) (x := v_2) dX12_coloursOf_352 rfl ?_
    refine ex_iconst (q := 354) (v := 2) dX12_coloursOf_353 (by decide) ?_
    refine ex_isub (q := 355) dX12_coloursOf_354 ?_
    refine ex_iadd (q := 356) dX12_coloursOf_355 ?_
    have s23 := w.1
    replace w := w.2
    refine ex_iast (q := 357) dX12_coloursOf_356 s23 ?_
    refine ex_nmh (fun h22 eh22 => ?_)
    replace w := w h22 eh22
    obtain ⟨x24, ex24⟩ : ∃ y : Int32, y = v_4 + 1 := ⟨_, rfl⟩
    replace w := w x24 ex24
    refine ex_iinc (q := 360) (x := v_4) (v := x24) (ls' := [.ref a_0, .int v_1, .int v_2, .int v_3, .int x24, .int x5, .retAddr 0, .retAddr 0]) dX12_coloursOf_357 rfl (by rw [ex24]; rfl) rfl ?_
    refine ex_goto (tgt := 247) dX12_coloursOf_360 ?_
    refine ex_kill 5 (ls' := [.ref a_0, .int v_1, .int v_2, .int v_3, .int x24, .retAddr 0, .retAddr 0, .retAddr 0]) rfl ?_
    exact w

set_option maxRecDepth 100000 in
theorem X12_coloursOf_369 {d bc bs : Nat} {h : AH} {Q : Option Value → AH → Prop} {a_0 : Nat} {v_1 : Int32} {v_2 : Int32} {v_3 : Int32} {v_4 : Int32} {v_5 : Int32} (w : ((100 ≤ v_5 → ah_o h a_0 12 ∧ ∃ a3, ah_r h a_0 3 = some a3 ∧ ld0 h a3 v_1 ∧ Q (some (.int ((v_3 + (ah_i h a3 (Int32.toNatClampNeg v_1))) - v_4))) h) ∧ (¬ 100 ≤ v_5 → ah_o h a_0 12 ∧ ∃ a6, ah_r h a_0 2 = some a6 ∧ ld0 h a6 v_1 ∧ ∀ x8, x8 = (ah_i h a6 (Int32.toNatClampNeg v_1)) - 1 → ex_G mX12_coloursOf (d + 1) 389 [.ref a_0, .int v_1, .int v_2, .int v_3, .int v_4, .int v_5, .int (-1), .int x8] [] h bc bs Q))) : ex_G mX12_coloursOf (d + 1) 369 [.ref a_0, .int v_1, .int v_2, .int v_3, .int v_4, .int v_5, .retAddr 0, .retAddr 0] [] h bc bs Q := by
  refine ex_iload (q := 371) (x := v_5) dX12_coloursOf_369 rfl ?_
  refine ex_bipush (q := 373) (v := 100) dX12_coloursOf_371 (by decide) ?_
  refine ex_icmp_ge (tgt := 464) (q := 376) dX12_coloursOf_373 (fun c1 => ?_) (fun c1 => ?_)
  · replace w := w.1 c1
    refine ex_iload_n (q := 465) (x := v_3) dX12_coloursOf_464 rfl ?_
    refine ex_aload_n (q := 466) (x := a_0) dX12_coloursOf_465 rfl ?_
    have s2 := w.1
    replace w := w.2
    obtain ⟨a3, ea3, w⟩ := w
    refine ex_getr (q := 469) dX12_coloursOf_466 fl_X12_16 s2 ea3 ?_
    refine ex_iload_n (q := 470) (x := v_1) dX12_coloursOf_469 rfl ?_
    have s4 := w.1
    replace w := w.2
    refine ex_iald (q := 471) dX12_coloursOf_470 s4 ?_
    refine ex_iadd (q := 472) dX12_coloursOf_471 ?_
    refine ex_iload (q := 474) (x := v_4) dX12_coloursOf_472 rfl ?_
    refine ex_isub (q := 475) dX12_coloursOf_474 ?_
    exact ex_ireturn dX12_coloursOf_475 rfl (Or.inl rfl) w
  · replace w := w.2 c1
    refine ex_iconst (q := 377) (v := (-1)) dX12_coloursOf_376 (by decide) ?_
    refine ex_istore (q := 379) (ls' := [.ref a_0, .int v_1, .int v_2, .int v_3, .int v_4, .int v_5, .int (-1), .retAddr 0]) dX12_coloursOf_377 rfl ?_
    refine ex_aload_n (q := 380) (x := a_0) dX12_coloursOf_379 rfl ?_
    have s5 := w.1
    replace w := w.2
    obtain ⟨a6, ea6, w⟩ := w
    refine ex_getr (q := 383) dX12_coloursOf_380 fl_X12_13 s5 ea6 ?_
    refine ex_iload_n (q := 384) (x := v_1) dX12_coloursOf_383 rfl ?_
    have s7 := w.1
    replace w := w.2
    refine ex_iald (q := 385) dX12_coloursOf_384 s7 ?_
    refine ex_iconst (q := 386) (v := 1) dX12_coloursOf_385 (by decide) ?_
    refine ex_isub (q := 387) dX12_coloursOf_386 ?_
    refine ex_nmi (fun x8 ex8 => ?_)
    replace w := w x8 ex8
    refine ex_istore (q := 389) (ls' := [.ref a_0, .int v_1, .int v_2, .int v_3, .int v_4, .int v_5, .int (-1), .int x8]) dX12_coloursOf_387 rfl ?_
    exact w

set_option maxRecDepth 100000 in
theorem X12_coloursOf_389 {d bc bs : Nat} {h : AH} {Q : Option Value → AH → Prop} {a_0 : Nat} {v_1 : Int32} {v_2 : Int32} {v_3 : Int32} {v_4 : Int32} {v_5 : Int32} {v_6 : Int32} {v_7 : Int32} (w : ((v_7 < v_4 → ((v_6 = (-1) → ∀ x3, x3 = v_5 + 1 → ex_G mX12_coloursOf (d + 1) 369 [.ref a_0, .int v_1, .int v_2, .int v_3, .int v_4, .int x3, .retAddr 0, .retAddr 0] [] h bc bs Q) ∧ (¬ v_6 = (-1) → ah_o h a_0 12 ∧ ∃ a5, ah_r h a_0 19 = some a5 ∧ ∃ a6, ah_r h a_0 2 = some a6 ∧ ld0 h a6 v_1 ∧ ex_S yX12_clears mX12_clears d [.ref a5, .int (ah_i h a6 (Int32.toNatClampNeg v_1)), .int v_4, .int v_6, .int v_5, .int v_2] h 0 0 (fun r h8 => r = none ∧ ∀ x9, x9 = v_4 + 1 → ∀ x10, x10 = v_5 + 1 → ex_G mX12_coloursOf (d + 1) 369 [.ref a_0, .int v_1, .int v_2, .int v_3, .int x9, .int x10, .retAddr 0, .retAddr 0] [] h8 bc bs Q)))) ∧ (¬ v_7 < v_4 → ah_o h a_0 12 ∧ ∃ a12, ah_r h a_0 19 = some a12 ∧ ld0 h a12 ((100 * v_7) + v_5) ∧ ¬ v_2 = 0 ∧ (((im_ (ah_i h a12 (Int32.toNatClampNeg ((100 * v_7) + v_5))) v_2) = 0 → ∀ x16, x16 = v_7 + (-1) → ex_G mX12_coloursOf (d + 1) 389 [.ref a_0, .int v_1, .int v_2, .int v_3, .int v_4, .int v_5, .int v_6, .int x16] [] h bc bs Q) ∧ (¬ (im_ (ah_i h a12 (Int32.toNatClampNeg ((100 * v_7) + v_5))) v_2) = 0 → ∀ x17, x17 = v_7 + (-1) → ex_G mX12_coloursOf (d + 1) 389 [.ref a_0, .int v_1, .int v_2, .int v_3, .int v_4, .int v_5, .int v_7, .int x17] [] h bc bs Q))))) : ex_G mX12_coloursOf (d + 1) 389 [.ref a_0, .int v_1, .int v_2, .int v_3, .int v_4, .int v_5, .int v_6, .int v_7] [] h bc bs Q := by
  refine ex_iload (q := 391) (x := v_7) dX12_coloursOf_389 rfl ?_
  refine ex_iload (q := 393) (x := v_4) dX12_coloursOf_391 rfl ?_
  refine ex_icmp_lt (tgt := 429) (q := 396) dX12_coloursOf_393 (fun c1 => ?_) (fun c1 => ?_)
  · replace w := w.1 c1
    refine ex_iload (q := 431) (x := v_6) dX12_coloursOf_429 rfl ?_
    refine ex_iconst (q := 432) (v := (-1)) dX12_coloursOf_431 (by decide) ?_
    refine ex_icmp_eq (tgt := 458) (q := 435) dX12_coloursOf_432 (fun c2 => ?_) (fun c2 => ?_)
    · replace w := w.1 c2
      obtain ⟨x3, ex3⟩ : ∃ y : Int32, y = v_5 + 1 := ⟨_, rfl⟩
      replace w := w x3 ex3
      refine ex_iinc (q := 461) (x := v_5) (v := x3) (ls' := [.ref a_0, .int v_1, .int v_2, .int v_3, .int v_4, .int x3, .int v_6, .int v_7]) dX12_coloursOf_458 rfl (by rw [ex3]; rfl) rfl ?_
      refine ex_goto (tgt := 369) dX12_coloursOf_461 ?_
      refine ex_kill 6 (ls' := [.ref a_0, .int v_1, .int v_2, .int v_3, .int v_4, .int x3, .retAddr 0, .int v_7]) rfl ?_
      refine ex_kill 7 (ls' := [.ref a_0, .int v_1, .int v_2, .int v_3, .int v_4, .int x3, .retAddr 0, .retAddr 0]) rfl ?_
      exact w
    · replace w := w.2 c2
      refine ex_aload_n (q := 436) (x := a_0) dX12_coloursOf_435 rfl ?_
      have s4 := w.1
      replace w := w.2
      obtain ⟨a5, ea5, w⟩ := w
      refine ex_getr (q := 439) dX12_coloursOf_436 fl_X12_64 s4 ea5 ?_
      refine ex_aload_n (q := 440) (x := a_0) dX12_coloursOf_439 rfl ?_
      obtain ⟨a6, ea6, w⟩ := w
      refine ex_getr (q := 443) dX12_coloursOf_440 fl_X12_13 s4 ea6 ?_
      refine ex_iload_n (q := 444) (x := v_1) dX12_coloursOf_443 rfl ?_
      have s7 := w.1
      replace w := w.2
      refine ex_iald (q := 445) dX12_coloursOf_444 s7 ?_
      refine ex_iload (q := 447) (x := v_4) dX12_coloursOf_445 rfl ?_
      refine ex_iload (q := 449) (x := v_6) dX12_coloursOf_447 rfl ?_
      refine ex_iload (q := 451) (x := v_5) dX12_coloursOf_449 rfl ?_
      refine ex_iload_n (q := 452) (x := v_2) dX12_coloursOf_451 rfl ?_
      refine ex_callS (q := 455) (M := mX12_coloursOf) (hdd := Nat.le_refl _) (st := []) (bc := bc) (bs := bs) dX12_coloursOf_452 rfl cl_X12_243 wd_1710 w ?_
      rintro r h8 ⟨rfl, w⟩
      show ex_G mX12_coloursOf (d + 1) 455 [.ref a_0, .int v_1, .int v_2, .int v_3, .int v_4, .int v_5, .int v_6, .int v_7] [] h8 bc bs Q
      obtain ⟨x9, ex9⟩ : ∃ y : Int32, y = v_4 + 1 := ⟨_, rfl⟩
      replace w := w x9 ex9
      refine ex_iinc (q := 458) (x := v_4) (v := x9) (ls' := [.ref a_0, .int v_1, .int v_2, .int v_3, .int x9, .int v_5, .int v_6, .int v_7]) dX12_coloursOf_455 rfl (by rw [ex9]; rfl) rfl ?_
      obtain ⟨x10, ex10⟩ : ∃ y : Int32, y = v_5 + 1 := ⟨_, rfl⟩
      replace w := w x10 ex10
      refine ex_iinc (q := 461) (x := v_5) (v := x10) (ls' := [.ref a_0, .int v_1, .int v_2, .int v_3, .int x9, .int x10, .int v_6, .int v_7]) dX12_coloursOf_458 rfl (by rw [ex10]; rfl) rfl ?_
      refine ex_goto (tgt := 369) dX12_coloursOf_461 ?_
      refine ex_kill 6 (ls' := [.ref a_0, .int v_1, .int v_2, .int v_3, .int x9, .int x10, .retAddr 0, .int v_7]) rfl ?_
      refine ex_kill 7 (ls' := [.ref a_0, .int v_1, .int v_2, .int v_3, .int x9, .int x10, .retAddr 0, .retAddr 0]) rfl ?_
      exact w
  · replace w := w.2 c1
    refine ex_aload_n (q := 397) (x := a_0) dX12_coloursOf_396 rfl ?_
    have s11 := w.1
    replace w := w.2
    obtain ⟨a12, ea12, w⟩ := w
    refine ex_getr (q := 400) dX12_coloursOf_397 fl_X12_64 s11 ea12 ?_
    refine ex_bipush (q := 402) (v := 100) dX12_coloursOf_400 (by decide) ?_
    refine ex_iload (q := 404) (x := v_7) dX12_coloursOf_402 rfl ?_
    refine ex_imul (q := 405) dX12_coloursOf_404 ?_
    refine ex_iload (q := 407) (x := v_5) dX12_coloursOf_405 rfl ?_
    refine ex_iadd (q := 408) dX12_coloursOf_407 ?_
    have s13 := w.1
    replace w := w.2
    refine ex_iald (q := 409) dX12_coloursOf_408 s13 ?_
    refine ex_iload_n (q := 410) (x := v_2) dX12_coloursOf_409 rfl ?_
    have s14 := w.1
    replace w := w.2
    refine ex_irem (q := 411) dX12_coloursOf_410 s14 ?_
    refine ex_if_eq (tgt := 419) (q := 414) dX12_coloursOf_411 (fun c15 => ?_) (fun c15 => ?_)
    · replace w := w.1 c15
      refine ex_iload (q := 421) (x := v_6) dX12_coloursOf_419 rfl ?_
      refine ex_istore (q := 423) (ls' := [.ref a_0, .int v_1, .int v_2, .int v_3, .int v_4, .int v_5, .int v_6, .int v_7]) dX12_coloursOf_421 rfl ?_
      obtain ⟨x16, ex16⟩ : ∃ y : Int32, y = v_7 + (-1) := ⟨_, rfl⟩
      replace w := w x16 ex16
      refine ex_iinc (q := 426) (x := v_7) (v := x16) (ls' := [.ref a_0, .int v_1, .int v_2, .int v_3, .int v_4, .int v_5, .int v_6, .int x16]) dX12_coloursOf_423 rfl (by rw [ex16]; rfl) rfl ?_
      refine ex_goto (tgt := 389) dX12_coloursOf_426 ?_
      exact w
    · replace w := w.2 c15
      refine ex_iload (q := 416) (x := v_7) dX12_coloursOf_414 rfl ?_
      refine ex_goto (tgt := 421) dX12_coloursOf_416 ?_
      refine ex_istore (q := 423) (ls' := [.ref a_0, .int v_1, .int v_2, .int v_3, .int v_4, .int v_5, .int v_7, .int v_7]) dX12_coloursOf_421 rfl ?_
      obtain ⟨x17, ex17⟩ : ∃ y : Int32, y = v_7 + (-1) := ⟨_, rfl⟩
      replace w := w x17 ex17
      refine ex_iinc (q := 426) (x := v_7) (v := x17) (ls' := [.ref a_0, .int v_1, .int v_2, .int v_3, .int v_4, .int v_5, .int v_7, .int x17]) dX12_coloursOf_423 rfl (by rw [ex17]; rfl) rfl ?_
      refine ex_goto (tgt := 389) dX12_coloursOf_426 ?_
      exact w

theorem X12_coloursOf_e {d bc bs : Nat} {h : AH} {Q : Option Value → AH → Prop} {a_0 : Nat} {v_1 : Int32} {v_2 : Int32} (w : ex_G mX12_coloursOf (d + 1) 0 [.ref a_0, .int v_1, .int v_2, .retAddr 0, .retAddr 0, .retAddr 0, .retAddr 0, .retAddr 0] [] h bc bs Q) : ex_S yX12_coloursOf mX12_coloursOf (d + 1) [.ref a_0, .int v_1, .int v_2] h bc bs Q :=
  ex_enter (plainFor_of_name (by decide +kernel)) ⟨rfl, rfl⟩ rfl rfl (Nat.le_of_ble_eq_true rfl) (ex_pad 5 w)

set_option maxRecDepth 100000 in
theorem X12_clears_0 {d bc bs : Nat} {h : AH} {Q : Option Value → AH → Prop} {a_0 : Nat} {v_1 : Int32} {v_2 : Int32} {v_3 : Int32} {v_4 : Int32} {v_5 : Int32} (w : ex_G mX12_clears d 3 [.ref a_0, .int v_1, .int v_2, .int v_3, .int v_4, .int v_5, .int 0, .retAddr 0, .retAddr 0, .retAddr 0] [] h bc bs Q) : ex_G mX12_clears d 0 [.ref a_0, .int v_1, .int v_2, .int v_3, .int v_4, .int v_5, .retAddr 0, .retAddr 0, .retAddr 0, .retAddr 0] [] h bc bs Q := by
  refine ex_iconst (q := 1) (v := 0) dX12_clears_0 (by decide) ?_
  refine ex_istore (q := 3) (ls' := [.ref a_0, .int v_1, .int v_2, .int v_3, .int v_4, .int v_5, .int 0, .retAddr 0, .retAddr 0, .retAddr 0]) dX12_clears_1 rfl ?_
  exact w

set_option maxRecDepth 100000 in
theorem X12_clears_3 {d bc bs : Nat} {h : AH} {Q : Option Value → AH → Prop} {a_0 : Nat} {v_1 : Int32} {v_2 : Int32} {v_3 : Int32} {v_4 : Int32} {v_5 : Int32} {v_6 : Int32} (w : ((100 ≤ v_6 → ld0 h a_0 ((100 * v_2) + v_4) ∧ ∀ x3, x3 = ah_i h a_0 (Int32.toNatClampNeg ((100 * v_2) + v_4)) → ∀ x4, x4 = v_2 + 1 → ex_G mX12_clears d 75 [.ref a_0, .int v_1, .int v_2, .retAddr 0, .int v_4, .int v_5, .int x3, .int x4, .retAddr 0, .retAddr 0] [] h bc bs Q) ∧ (¬ 100 ≤ v_6 → ld0 h a_0 ((100 * v_3) + v_6) ∧ ∀ x6, x6 = ah_i h a_0 (Int32.toNatClampNeg ((100 * v_3) + v_6)) → ld0 h a_0 ((100 * v_2) + v_6) ∧ st0 h a_0 ((100 * v_3) + v_6) ∧ ∀ h8, h8 = ah_si h a_0 (Int32.toNatClampNeg ((100 * v_3) + v_6)) (ah_i h a_0 (Int32.toNatClampNeg ((100 * v_2) + v_6))) → ¬ v_5 = 0 ∧ st0 h8 a_0 ((100 * v_2) + v_6) ∧ ∀ h11, h11 = ah_si h8 a_0 (Int32.toNatClampNeg ((100 * v_2) + v_6)) (im_ x6 v_5) → ∀ x13, x13 = v_6 + 1 → ex_G mX12_clears d 3 [.ref a_0, .int v_1, .int v_2, .int v_3, .int v_4, .int v_5, .int x13, .retAddr 0, .retAddr 0, .retAddr 0] [] h11 bc bs Q))) : ex_G mX12_clears d 3 [.ref a_0, .int v_1, .int v_2, .int v_3, .int v_4, .int v_5, .int v_6, .retAddr 0, .retAddr 0, .retAddr 0] [] h bc bs Q := by
  refine ex_iload (q := 5) (x := v_6) dX12_clears_3 rfl ?_
  refine ex_bipush (q := 7) (v := 100) dX12_clears_5 (by decide) ?_
  refine ex_icmp_ge (tgt := 59) (q := 10) dX12_clears_7 (fun c1 => ?_) (fun c1 => ?_)
  · replace w := w.1 c1
    refine ex_aload_n (q := 60) (x := a_0) dX12_clears_59 rfl ?_
    refine ex_bipush (q := 62) (v := 100) dX12_clears_60 (by decide) ?_
    refine ex_iload_n (q := 63) (x := v_2) dX12_clears_62 rfl ?_
    refine ex_imul (q := 64) dX12_clears_63 ?_
    refine ex_iload (q := 66) (x := v_4) dX12_clears_64 rfl ?_
    refine ex_iadd (q := 67) dX12_clears_66 ?_
    have s2 := w.1
    replace w := w.2
    refine ex_iald (q := 68) dX12_clears_67 s2 ?_
    refine ex_nmi (fun x3 ex3 => ?_)
    replace w := w x3 ex3
    refine ex_istore (q := 70) (ls' := [.ref a_0, .int v_1, .int v_2, .int v_3, .int v_4, .int v_5, .int x3, .retAddr 0, .retAddr 0, .retAddr 0]) dX12_clears_68 rfl ?_
    refine ex_iload_n (q := 71) (x := v_2) dX12_clears_70 rfl ?_
    refine ex_iconst (q := 72) (v := 1) dX12_clears_71 (by decide) ?_
    refine ex_iadd (q := 73) dX12_clears_72 ?_
    refine ex_nmi (fun x4 ex4 => ?_)
    replace w := w x4 ex4
    refine ex_istore (q := 75) (ls' := [.ref a_0, .int v_1, .int v_2, .int v_3, .int v_4, .int v_5, .int x3, .int x4, .retAddr 0, .retAddr 0]) dX12_clears_73 rfl ?_
    refine ex_kill 3 (ls' := [.ref a_0, .int v_1, .int v_2, .retAddr 0, .int v_4, .int v_5, .int x3, .int x4, .retAddr 0, .retAddr 0]) rfl ?_
    exact w
  · replace w := w.2 c1
    refine ex_aload_n (q := 11) (x := a_0) dX12_clears_10 rfl ?_
    refine ex_bipush (q := 13) (v := 100) dX12_clears_11 (by decide) ?_
    refine ex_iload_n (q := 14) (x := v_3) dX12_clears_13 rfl ?_
    refine ex_imul (q := 15) dX12_clears_14 ?_
    refine ex_iload (q := 17) (x := v_6) dX12_clears_15 rfl ?_
    refine ex_iadd (q := 18) dX12_clears_17 ?_
    have s5 := w.1
    replace w := w.2
    refine ex_iald (q := 19) dX12_clears_18 s5 ?_
    refine ex_nmi (fun x6 ex6 => ?_)
    replace w := w x6 ex6
    refine ex_istore (q := 21) (ls' := [.ref a_0, .int v_1, .int v_2, .int v_3, .int v_4, .int v_5, .int v_6, .int x6, .retAddr 0, .retAddr 0]) dX12_clears_19 rfl ?_
    refine ex_aload_n (q := 22) (x := a_0) dX12_clears_21 rfl ?_
    refine ex_bipush (q := 24) (v := 100) dX12_clears_22 (by decide) ?_
    refine ex_iload_n (q := 25) (x := v_3) dX12_clears_24 rfl ?_
    refine ex_imul (q := 26) dX12_clears_25 ?_
    refine ex_iload (q := 28) (x := v_6) dX12_clears_26 rfl ?_
    refine ex_iadd (q := 29) dX12_clears_28 ?_
    refine ex_aload_n (q := 30) (x := a_0) dX12_clears_29 rfl ?_
    refine ex_bipush (q := 32) (v := 100) dX12_clears_30 (by decide) ?_
    refine ex_iload_n (q := 33) (x := v_2) dX12_clears_32 rfl ?_
    refine ex_imul (q := 34) dX12_clears_33 ?_
    refine ex_iload (q := 36) (x := v_6) dX12_clears_34 rfl ?_
    refine ex_iadd (q := 37) dX12_clears_36 ?_
    have s7 := w.1
    replace w := w.2
    refine ex_iald (q := 38) dX12_clears_37 s7 ?_
    have s9 := w.1
    replace w := w.2
    refine ex_iast (q := 39) dX12_clears_38 s9 ?_
    refine ex_nmh (fun h8 eh8 => ?_)
    replace w := w h8 eh8
    refine ex_aload_n (q := 40) (x := a_0) dX12_clears_39 rfl ?_
    refine ex_bipush (q := 42) (v := 100) dX12_clears_40 (by decide) ?_
    refine ex_iload_n (q := 43) (x := v_2) dX12_clears_42 rfl ?_
    refine ex_imul (q := 44) dX12_clears_43 ?_
    refine ex_iload (q := 46) (x := v_6) dX12_clears_44 rfl ?_
    refine ex_iadd (q := 47) dX12_clears_46 ?_
    refine ex_iload (q := 49) (x := x6) dX12_clears_47 rfl ?_
    refine ex_iload (q := 51) (x := v_5) dX12_clears_49 rfl ?_
    have s10 := w.1
    replace w := w.2
    refine ex_irem (q := 52) dX12_clears_51 s10 ?_
    have s12 := w.1
    replace w := w.2
    refine ex_iast (q := 53) dX12_clears_52 s12 ?_
    refine ex_nmh (fun h11 eh11 => ?_)
    replace w := w h11 eh11
    obtain ⟨x13, ex13⟩ : ∃ y : Int32, y = v_6 + 1 := ⟨_, rfl⟩
    replace w := w x13 ex13
    refine ex_iinc (q := 56) (x := v_6) (v := x13) (ls' := [.ref a_0, .int v_1, .int v_2, .int v_3, .int v_4, .int v_5, .int x13, .int x6, .retAddr 0, .retAddr 0]) dX12_clears_53 rfl (by rw [ex13]; rfl) rfl ?_
    refine ex_goto (tgt := 3) dX12_clears_56 ?_
    refine ex_kill 7 (ls' := [.ref a_0, .int v_1, .int v_2, .int v_3, .int v_4, .int v_5, .int x13, .retAddr 0, .retAddr 0, .retAddr 0]) rfl ?_
    exact w

set_option maxRecDepth 100000 in
theorem X12_clears_75 {d bc bs : Nat} {h : AH} {Q : Option Value → AH → Prop} {a_0 : Nat} {v_1 : Int32} {v_2 : Int32} {v_4 : Int32} {v_5 : Int32} {v_6 : Int32} {v_7 : Int32} (w : ((v_1 ≤ v_7 → Q none h) ∧ (¬ v_1 ≤ v_7 → ld0 h a_0 ((100 * v_7) + v_4) ∧ ¬ v_5 = 0 ∧ ∀ x4, x4 = im_ (ah_i h a_0 (Int32.toNatClampNeg ((100 * v_7) + v_4))) v_5 → ex_G mX12_clears d 99 [.ref a_0, .int v_1, .int v_2, .retAddr 0, .int v_4, .int v_5, .int v_6, .int v_7, .int x4, .int 0] [] h bc bs Q))) : ex_G mX12_clears d 75 [.ref a_0, .int v_1, .int v_2, .retAddr 0, .int v_4, .int v_5, .int v_6, .int v_7, .retAddr 0, .retAddr 0] [] h bc bs Q := by
  refine ex_iload (q := 77) (x := v_7) dX12_clears_75 rfl ?_
  refine ex_iload_n (q := 78) (x := v_1) dX12_clears_77 rfl ?_
  refine ex_icmp_ge (tgt := 168) (q := 81) dX12_clears_78 (fun c1 => ?_) (fun c1 => ?_)
  · replace w := w.1 c1
    exact ex_return dX12_clears_168 w
  · replace w := w.2 c1
    refine ex_aload_n (q := 82) (x := a_0) dX12_clears_81 rfl ?_
    refine ex_bipush (q := 84) (v := 100) dX12_clears_82 (by decide) ?_
    refine ex_iload (q := 86) (x := v_7) dX12_clears_84 rfl ?_
    refine ex_imul (q := 87) dX12_clears_86 ?_
    refine ex_iload (q := 89) (x := v_4) dX12_clears_87 rfl ?_
    refine ex_iadd (q := 90) dX12_clears_89 ?_
    have s2 := w.1
    replace w := w.2
    refine ex_iald (q := 91) dX12_clears_90 s2 ?_
    refine ex_iload (q := 93) (x := v_5) dX12_clears_91 rfl ?_
    have s3 := w.1
    replace w := w.2
    refine ex_irem (q := 94) dX12_clears_93 s3 ?_
    refine ex_nmi (fun x4 ex4 => ?_)
    replace w := w x4 ex4
    refine ex_istore (q := 96) (ls' := [.ref a_0, .int v_1, .int v_2, .retAddr 0, .int v_4, .int v_5, .int v_6, .int v_7, .int x4, .retAddr 0]) dX12_clears_94 rfl ?_
    refine ex_iconst (q := 97) (v := 0) dX12_clears_96 (by decide) ?_
    refine ex_istore (q := 99) (ls' := [.ref a_0, .int v_1, .int v_2, .retAddr 0, .int v_4, .int v_5, .int v_6, .int v_7, .int x4, .int 0]) dX12_clears_97 rfl ?_
    exact w

set_option maxRecDepth 100000 in
theorem X12_clears_99 {d bc bs : Nat} {h : AH} {Q : Option Value → AH → Prop} {a_0 : Nat} {v_1 : Int32} {v_2 : Int32} {v_4 : Int32} {v_5 : Int32} {v_6 : Int32} {v_7 : Int32} {v_8 : Int32} {v_9 : Int32} (w : ((100 ≤ v_9 → ∀ x2, x2 = v_7 + 1 → ex_G mX12_clears d 75 [.ref a_0, .int v_1, .int v_2, .retAddr 0, .int v_4, .int v_5, .int v_6, .int x2, .retAddr 0, .retAddr 0] [] h bc bs Q) ∧ (¬ 100 ≤ v_9 → ((v_8 = 0 → ∀ x4, x4 = v_7 + 1 → ex_G mX12_clears d 75 [.ref a_0, .int v_1, .int v_2, .retAddr 0, .int v_4, .int v_5, .int v_6, .int x4, .retAddr 0, .retAddr 0] [] h bc bs Q) ∧ (¬ v_8 = 0 → ld0 h a_0 ((100 * v_7) + v_9) ∧ ¬ v_5 = 0 ∧ ld0 h a_0 ((100 * v_2) + v_9) ∧ st0 h a_0 ((100 * v_7) + v_9) ∧ ∀ h8, h8 = ah_si h a_0 (Int32.toNatClampNeg ((100 * v_7) + v_9)) (im_ (((im_ (ah_i h a_0 (Int32.toNatClampNeg ((100 * v_7) + v_9))) v_5) * v_6) + ((v_5 - v_8) * (ah_i h a_0 (Int32.toNatClampNeg ((100 * v_2) + v_9))))) v_5) → ∀ x10, x10 = v_9 + 1 → ex_G mX12_clears d 99 [.ref a_0, .int v_1, .int v_2, .retAddr 0, .int v_4, .int v_5, .int v_6, .int v_7, .int v_8, .int x10] [] h8 bc bs Q))))) : ex_G mX12_clears d 99 [.ref a_0, .int v_1, .int v_2, .retAddr 0, .int v_4, .int v_5, .int v_6, .int v_7, .int v_8, .int v_9] [] h bc bs Q := by
  refine ex_iload (q := 101) (x := v_9) dX12_clears_99 rfl ?_
  refine ex_bipush (q := 103) (v := 100) dX12_clears_101 (by decide) ?_
  refine ex_icmp_ge (tgt := 162) (q := 106) dX12_clears_103 (fun c1 => ?_) (fun c1 => ?_)
  · replace w := w.1 c1
    obtain ⟨x2, ex2⟩ : ∃ y : Int32, y = v_7 + 1 := ⟨_, rfl⟩
    replace w := w x2 ex2
    refine ex_iinc (q := 165) (x := v_7) (v := x2) (ls' := [.ref a_0, .int v_1, .int v_2, .retAddr 0, .int v_4, .int v_5, .int v_6, .int x2, .int v_8, .int v_9]) dX12_clears_162 rfl (by rw [ex2]; rfl) rfl ?_
    refine ex_goto (tgt := 75) dX12_clears_165 ?_
    refine ex_kill 8 (ls' := [.ref a_0, .int v_1, .int v_2, .retAddr 0, .int v_4, .int v_5, .int v_6, .int x2, .retAddr 0, .int v_9]) rfl ?_
    refine ex_kill 9 (ls' := [.ref a_0, .int v_1, .int v_2, .retAddr 0, .int v_4, .int v_5, .int v_6, .int x2, .retAddr 0, .retAddr 0]) rfl ?_
    exact w
  · replace w := w.2 c1
    refine ex_iload (q := 108) (x := v_8) dX12_clears_106 rfl ?_
    refine ex_if_eq (tgt := 162) (q := 111) dX12_clears_108 (fun c3 => ?_) (fun c3 => ?_)
    · replace w := w.1 c3
      obtain ⟨x4, ex4⟩ : ∃ y : Int32, y = v_7 + 1 := ⟨_, rfl⟩
      replace w := w x4 ex4
      refine ex_iinc (q := 165) (x := v_7) (v := x4) (ls' := [.ref a_0, .int v_1, .int v_2, .retAddr 0, .int v_4, .int v_5, .int v_6, .int x4, .int v_8, .int v_9]) dX12_clears_162 rfl (by rw [ex4]; rfl) rfl ?_
      refine ex_goto (tgt := 75) dX12_clears_165 ?_
      refine ex_kill 8 (ls' := [.ref a_0, .int v_1, .int v_2, .retAddr 0, .int v_4, .int v_5, .int v_6, .int x4, .retAddr 0, .int v_9]) rfl ?_
      refine ex_kill 9 (ls' := [.ref a_0, .int v_1, .int v_2, .retAddr 0, .int v_4, .int v_5, .int v_6, .int x4, .retAddr 0, .retAddr 0]) rfl ?_
      exact w
    · replace w := w.2 c3
      refine ex_aload_n (q := 112) (x := a_0) dX12_clears_111 rfl ?_
      refine ex_bipush (q := 114) (v := 100) dX12_clears_112 (by decide) ?_
      refine ex_iload (q := 116) (x := v_7) dX12_clears_114 rfl ?_
      refine ex_imul (q := 117) dX12_clears_116 ?_
      refine ex_iload (q := 119) (x := v_9) dX12_clears_117 rfl ?_
      refine ex_iadd (q := 120) dX12_clears_119 ?_
      refine ex_aload_n (q := 121) (x := a_0) dX12_clears_120 rfl ?_
      refine ex_bipush (q := 123) (v := 100) dX12_clears_121 (by decide) ?_
      refine ex_iload (q := 125) (x := v_7) dX12_clears_123 rfl ?_
      refine ex_imul (q := 126) dX12_clears_125 ?_
      refine ex_iload (q := 128) (x := v_9) dX12_clears_126 rfl ?_
      refine ex_iadd (q := 129) dX12_clears_128 ?_
      have s5 := w.1
      replace w := w.2
      refine ex_iald (q := 130) dX12_clears_129 s5 ?_
      refine ex_iload (q := 132) (x := v_5) dX12_clears_130 rfl ?_
      have s6 := w.1
      replace w := w.2
      refine ex_irem (q := 133) dX12_clears_132 s6 ?_
      refine ex_iload (q := 135) (x := v_6) dX12_clears_133 rfl ?_
      refine ex_imul (q := 136) dX12_clears_135 ?_
      refine ex_iload (q := 138) (x := v_5) dX12_clears_136 rfl ?_
      refine ex_iload (q := 140) (x := v_8) dX12_clears_138 rfl ?_
      refine ex_isub (q := 141) dX12_clears_140 ?_
      refine ex_aload_n (q := 142) (x := a_0) dX12_clears_141 rfl ?_
      refine ex_bipush (q := 144) (v := 100) dX12_clears_142 (by decide) ?_
      refine ex_iload_n (q := 145) (x := v_2) dX12_clears_144 rfl ?_
      refine ex_imul (q := 146) dX12_clears_145 ?_
      refine ex_iload (q := 148) (x := v_9) dX12_clears_146 rfl ?_
      refine ex_iadd (q := 149) dX12_clears_148 ?_
      have s7 := w.1
      replace w := w.2
      refine ex_iald (q := 150) dX12_clears_149 s7 ?_
      refine ex_imul (q := 151) dX12_clears_150 ?_
      refine ex_iadd (q := 152) dX12_clears_151 ?_
      refine ex_iload (q := 154) (x := v_5) dX12_clears_152 rfl ?_
      refine ex_irem (q := 155) dX12_clears_154 s6 ?_
      have s9 := w.1
      replace w := w.2
      refine ex_iast (q := 156) dX12_clears_155 s9 ?_
      refine ex_nmh (fun h8 eh8 => ?_)
      replace w := w h8 eh8
      obtain ⟨x10, ex10⟩ : ∃ y : Int32, y = v_9 + 1 := ⟨_, rfl⟩
      replace w := w x10 ex10
      refine ex_iinc (q := 159) (x := v_9) (v := x10) (ls' := [.ref a_0, .int v_1, .int v_2, .retAddr 0, .int v_4, .int v_5, .int v_6, .int v_7, .int v_8, .int x10]) dX12_clears_156 rfl (by rw [ex10]; rfl) rfl ?_
      refine ex_goto (tgt := 99) dX12_clears_159 ?_
      exact w

theorem X12_clears_e {d bc bs : Nat} {h : AH} {Q : Option Value → AH → Prop} {a_0 : Nat} {v_1 : Int32} {v_2 : Int32} {v_3 : Int32} {v_4 : Int32} {v_5 : Int32} (w : ex_G mX12_clears d 0 [.ref a_0, .int v_1, .int v_2, .int v_3, .int v_4, .int v_5, .retAddr 0, .retAddr 0, .retAddr 0, .retAddr 0] [] h bc bs Q) : ex_S yX12_clears mX12_clears d [.ref a_0, .int v_1, .int v_2, .int v_3, .int v_4, .int v_5] h bc bs Q :=
  ex_enter (plainFor_of_name (by decide +kernel)) ⟨rfl, rfl⟩ rfl rfl (Nat.le_of_ble_eq_true rfl) (ex_pad 4 w)

set_option maxRecDepth 100000 in
theorem X12_colours_0 {d bc bs : Nat} {h : AH} {Q : Option Value → AH → Prop} {a_0 : Nat} {v_1 : Int32} {v_2 : Int32} (w : ah_o h a_0 12 ∧ X12_isPicture_C a_0 v_1 h ∧ (((X12_isPicture_V a_0 v_1 h) = 0 → X12_no_C a_0 (-2) h ∧ ∀ h5, h5 = X12_no_H a_0 (-2) h → Q (some (.int (X12_no_V a_0 (-2) h))) h5) ∧ (¬ (X12_isPicture_V a_0 v_1 h) = 0 → ((v_2 = 3 → ex_G mX12_colours (d + 5) 37 [.ref a_0, .int v_1, .int v_2, .retAddr 0] [] h bc bs Q) ∧ (¬ v_2 = 3 → ((v_2 = 5 → ex_G mX12_colours (d + 5) 37 [.ref a_0, .int v_1, .int v_2, .retAddr 0] [] h bc bs Q) ∧ (¬ v_2 = 5 → ((v_2 = 7 → ex_G mX12_colours (d + 5) 37 [.ref a_0, .int v_1, .int v_2, .retAddr 0] [] h bc bs Q) ∧ (¬ v_2 = 7 → ((v_2 = 11 → ex_G mX12_colours (d + 5) 37 [.ref a_0, .int v_1, .int v_2, .retAddr 0] [] h bc bs Q) ∧ (¬ v_2 = 11 → X12_no_C a_0 (-2) h ∧ ∀ h11, h11 = X12_no_H a_0 (-2) h → Q (some (.int (X12_no_V a_0 (-2) h))) h11))))))))))) : ex_G mX12_colours (d + 5) 0 [.ref a_0, .int v_1, .int v_2, .retAddr 0] [] h bc bs Q := by
  refine ex_aload_n (q := 1) (x := a_0) dX12_colours_0 rfl ?_
  refine ex_iload_n (q := 2) (x := v_1) dX12_colours_1 rfl ?_
  have s1 := w.1
  replace w := w.2
  have s2 := w.1
  replace w := w.2
  refine ex_callV (q := 5) (M := mX12_colours) (hdd := Nat.le_refl _) (mc := 0) (ms := 0) (d' := (d + 4)) (c := 12) (st := []) (bc := bc) (bs := bs) dX12_colours_2 rfl cl_X12_187 wd_1593 wd_48 s1 (X12_isPicture_s (Q := fun r z => r = some (.int (X12_isPicture_V a_0 v_1 h)) ∧ z = h) s2 ⟨rfl, rfl⟩) ?_
  intro r z hrz
  rw [hrz.1, hrz.2]
  show ex_G mX12_colours (d + 5) 5 [.ref a_0, .int v_1, .int v_2, .retAddr 0] [.int (X12_isPicture_V a_0 v_1 h)] (h) bc bs Q
  refine ex_if_eq (tgt := 30) (q := 8) dX12_colours_5 (fun c3 => ?_) (fun c3 => ?_)
  · replace w := w.1 c3
    refine ex_aload_n (q := 31) (x := a_0) dX12_colours_30 rfl ?_
    refine ex_bipush (q := 33) (v := (-2)) dX12_colours_31 (by decide) ?_
    have s4 := w.1
    replace w := w.2
    refine ex_callV (q := 36) (M := mX12_colours) (hdd := Nat.le_refl _) (mc := 0) (ms := 0) (d' := (d + 4)) (c := 12) (st := []) (bc := bc) (bs := bs) dX12_colours_33 rfl cl_X12_165 wd_1581 wd_46 s1 (X12_no_s (Q := fun r z => r = some (.int (X12_no_V a_0 (-2) h)) ∧ z = X12_no_H a_0 (-2) h) s4 ⟨rfl, rfl⟩) ?_
    intro r z hrz
    rw [hrz.1, hrz.2]
    show ex_G mX12_colours (d + 5) 36 [.ref a_0, .int v_1, .int v_2, .retAddr 0] [.int (X12_no_V a_0 (-2) h)] (X12_no_H a_0 (-2) h) bc bs Q
    refine ex_nmh (fun h5 eh5 => ?_)
    replace w := w h5 eh5
    exact ex_ireturn dX12_colours_36 rfl (Or.inl rfl) w
  · replace w := w.2 c3
    refine ex_iload_n (q := 9) (x := v_2) dX12_colours_8 rfl ?_
    refine ex_iconst (q := 10) (v := 3) dX12_colours_9 (by decide) ?_
    refine ex_icmp_eq (tgt := 37) (q := 13) dX12_colours_10 (fun c6 => ?_) (fun c6 => ?_)
    · replace w := w.1 c6
      exact w
    · replace w := w.2 c6
      refine ex_iload_n (q := 14) (x := v_2) dX12_colours_13 rfl ?_
      refine ex_iconst (q := 15) (v := 5) dX12_colours_14 (by decide) ?_
      refine ex_icmp_eq (tgt := 37) (q := 18) dX12_colours_15 (fun c7 => ?_) (fun c7 => ?_)
      · replace w := w.1 c7
        exact w
      · replace w := w.2 c7
        refine ex_iload_n (q := 19) (x := v_2) dX12_colours_18 rfl ?_
        refine ex_bipush (q := 21) (v := 7) dX12_colours_19 (by decide) ?_
        refine ex_icmp_eq (tgt := 37) (q := 24) dX12_colours_21 (fun c8 => ?_) (fun c8 => ?_)
        · replace w := w.1 c8
          exact w
        · replace w := w.2 c8
          refine ex_iload_n (q := 25) (x := v_2) dX12_colours_24 rfl ?_
          refine ex_bipush (q := 27) (v := 11) dX12_colours_25 (by decide) ?_
          refine ex_icmp_eq (tgt := 37) (q := 30) dX12_colours_27 (fun c9 => ?_) (fun c9 => ?_)
          · replace w := w.1 c9
            exact w
          · replace w := w.2 c9
            refine ex_aload_n (q := 31) (x := a_0) dX12_colours_30 rfl ?_
            refine ex_bipush (q := 33) (v := (-2)) dX12_colours_31 (by decide) ?_
            have s10 := w.1
            replace w := w.2
            refine ex_callV (q := 36) (M := mX12_colours) (hdd := Nat.le_refl _) (mc := 0) (ms := 0) (d' := (d + 4)) (c := 12) (st := []) (bc := bc) (bs := bs) dX12_colours_33 rfl cl_X12_165 wd_1581 wd_46 s1 (X12_no_s (Q := fun r z => r = some (.int (X12_no_V a_0 (-2) h)) ∧ z = X12_no_H a_0 (-2) h) s10 ⟨rfl, rfl⟩) ?_
            intro r z hrz
            rw [hrz.1, hrz.2]
            show ex_G mX12_colours (d + 5) 36 [.ref a_0, .int v_1, .int v_2, .retAddr 0] [.int (X12_no_V a_0 (-2) h)] (X12_no_H a_0 (-2) h) bc bs Q
            refine ex_nmh (fun h11 eh11 => ?_)
            replace w := w h11 eh11
            exact ex_ireturn dX12_colours_36 rfl (Or.inl rfl) w

set_option maxRecDepth 100000 in
theorem X12_colours_37 {d bc bs : Nat} {h : AH} {Q : Option Value → AH → Prop} {a_0 : Nat} {v_1 : Int32} {v_2 : Int32} (w : ah_o h a_0 12 ∧ ex_S yX12_refusal mX12_refusal (d + 4) [.ref a_0, .int v_1] h 0 0 (fun r h1 => ∃ x3, r = some (.int x3) ∧ ((0 ≤ x3 → ah_o h1 a_0 12 ∧ ex_S yX12_coloursOf mX12_coloursOf (d + 4) [.ref a_0, .int v_1, .int v_2] h1 0 0 (fun r h5 => ∃ x7, r = some (.int x7) ∧ ah_o h5 a_0 12 ∧ X12_well_C a_0 x7 h5 ∧ ∀ h10, h10 = X12_well_H a_0 x7 h5 → Q (some (.int (X12_well_V a_0 x7 h5))) h10)) ∧ (¬ 0 ≤ x3 → Q (some (.int x3)) h1)))) : ex_G mX12_colours (d + 5) 37 [.ref a_0, .int v_1, .int v_2, .retAddr 0] [] h bc bs Q := by
  refine ex_aload_n (q := 38) (x := a_0) dX12_colours_37 rfl ?_
  refine ex_iload_n (q := 39) (x := v_1) dX12_colours_38 rfl ?_
  have s2 := w.1
  replace w := w.2
  refine ex_callV (q := 42) (M := mX12_colours) (hdd := Nat.le_refl _) (c := 12) (st := []) (bc := bc) (bs := bs) dX12_colours_39 rfl cl_X12_237 wd_1675 wd_57 s2 w ?_
  rintro r h1 ⟨x3, rfl, w⟩
  show ex_G mX12_colours (d + 5) 42 [.ref a_0, .int v_1, .int v_2, .retAddr 0] [.int x3] h1 bc bs Q
  refine ex_istore_n (q := 43) (ls' := [.ref a_0, .int v_1, .int v_2, .int x3]) dX12_colours_42 rfl ?_
  refine ex_iload_n (q := 44) (x := x3) dX12_colours_43 rfl ?_
  refine ex_if_ge (tgt := 51) (q := 47) dX12_colours_44 (fun c4 => ?_) (fun c4 => ?_)
  · replace w := w.1 c4
    refine ex_aload_n (q := 52) (x := a_0) dX12_colours_51 rfl ?_
    refine ex_aload_n (q := 53) (x := a_0) dX12_colours_52 rfl ?_
    refine ex_iload_n (q := 54) (x := v_1) dX12_colours_53 rfl ?_
    refine ex_iload_n (q := 55) (x := v_2) dX12_colours_54 rfl ?_
    have s6 := w.1
    replace w := w.2
    refine ex_callV (q := 58) (M := mX12_colours) (hdd := Nat.le_refl _) (c := 12) (st := [.ref a_0]) (bc := bc) (bs := bs) dX12_colours_55 rfl cl_X12_247 wd_1707 wd_61 s6 w ?_
    rintro r h5 ⟨x7, rfl, w⟩
    show ex_G mX12_colours (d + 5) 58 [.ref a_0, .int v_1, .int v_2, .int x3] [.int x7, .ref a_0] h5 bc bs Q
    have s8 := w.1
    replace w := w.2
    have s9 := w.1
    replace w := w.2
    refine ex_callV (q := 61) (M := mX12_colours) (hdd := Nat.le_refl _) (mc := 0) (ms := 0) (d' := (d + 4)) (c := 12) (st := []) (bc := bc) (bs := bs) dX12_colours_58 rfl cl_X12_180 wd_1585 wd_47 s8 (X12_well_s (Q := fun r z => r = some (.int (X12_well_V a_0 x7 h5)) ∧ z = X12_well_H a_0 x7 h5) s9 ⟨rfl, rfl⟩) ?_
    intro r z hrz
    rw [hrz.1, hrz.2]
    show ex_G mX12_colours (d + 5) 61 [.ref a_0, .int v_1, .int v_2, .int x3] [.int (X12_well_V a_0 x7 h5)] (X12_well_H a_0 x7 h5) bc bs Q
    refine ex_nmh (fun h10 eh10 => ?_)
    replace w := w h10 eh10
    exact ex_ireturn dX12_colours_61 rfl (Or.inl rfl) w
  · replace w := w.2 c4
    refine ex_iload_n (q := 48) (x := x3) dX12_colours_47 rfl ?_
    refine ex_goto (tgt := 61) dX12_colours_48 ?_
    exact ex_ireturn dX12_colours_61 rfl (Or.inl rfl) w

theorem X12_colours_e {d bc bs : Nat} {h : AH} {Q : Option Value → AH → Prop} {a_0 : Nat} {v_1 : Int32} {v_2 : Int32} (w : ex_G mX12_colours (d + 5) 0 [.ref a_0, .int v_1, .int v_2, .retAddr 0] [] h bc bs Q) : ex_S yX12_colours mX12_colours (d + 5) [.ref a_0, .int v_1, .int v_2] h bc bs Q :=
  ex_enter (plainFor_of_name (by decide +kernel)) ⟨rfl, rfl⟩ rfl rfl (Nat.le_of_ble_eq_true rfl) (ex_pad 1 w)

set_option maxRecDepth 100000 in
theorem X12_circlesOf_0 {d bc bs : Nat} {h : AH} {Q : Option Value → AH → Prop} {a_0 : Nat} {v_1 : Int32} {v_2 : Int32} (w : ah_o h a_0 12 ∧ ∃ a2, ah_r h a_0 2 = some a2 ∧ ld0 h a2 v_1 ∧ ∀ x4, x4 = 4 * (ah_i h a2 (Int32.toNatClampNeg v_1)) → ex_G mX12_circlesOf d 12 [.ref a_0, .int v_1, .int v_2, .int x4, .int 0, .retAddr 0, .retAddr 0, .retAddr 0] [] h bc bs Q) : ex_G mX12_circlesOf d 0 [.ref a_0, .int v_1, .int v_2, .retAddr 0, .retAddr 0, .retAddr 0, .retAddr 0, .retAddr 0] [] h bc bs Q := by
  refine ex_iconst (q := 1) (v := 4) dX12_circlesOf_0 (by decide) ?_
  refine ex_aload_n (q := 2) (x := a_0) dX12_circlesOf_1 rfl ?_
  have s1 := w.1
  replace w := w.2
  obtain ⟨a2, ea2, w⟩ := w
  refine ex_getr (q := 5) dX12_circlesOf_2 fl_X12_13 s1 ea2 ?_
  refine ex_iload_n (q := 6) (x := v_1) dX12_circlesOf_5 rfl ?_
  have s3 := w.1
  replace w := w.2
  refine ex_iald (q := 7) dX12_circlesOf_6 s3 ?_
  refine ex_imul (q := 8) dX12_circlesOf_7 ?_
  refine ex_nmi (fun x4 ex4 => ?_)
  replace w := w x4 ex4
  refine ex_istore_n (q := 9) (ls' := [.ref a_0, .int v_1, .int v_2, .int x4, .retAddr 0, .retAddr 0, .retAddr 0, .retAddr 0]) dX12_circlesOf_8 rfl ?_
  refine ex_iconst (q := 10) (v := 0) dX12_circlesOf_9 (by decide) ?_
  refine ex_istore (q := 12) (ls' := [.ref a_0, .int v_1, .int v_2, .int x4, .int 0, .retAddr 0, .retAddr 0, .retAddr 0]) dX12_circlesOf_10 rfl ?_
  exact w

set_option maxRecDepth 100000 in
theorem X12_circlesOf_12 {d bc bs : Nat} {h : AH} {Q : Option Value → AH → Prop} {a_0 : Nat} {v_1 : Int32} {v_2 : Int32} {v_3 : Int32} {v_4 : Int32} (w : ah_o h a_0 12 ∧ ∃ a2, ah_r h a_0 2 = some a2 ∧ ld0 h a2 v_1 ∧ (((ah_i h a2 (Int32.toNatClampNeg v_1)) ≤ v_4 → ex_G mX12_circlesOf d 143 [.ref a_0, .int v_1, .retAddr 0, .int v_3, .int 0, .int 0, .retAddr 0, .retAddr 0] [] h bc bs Q) ∧ (¬ (ah_i h a2 (Int32.toNatClampNeg v_1)) ≤ v_4 → ∀ x5, x5 = 4 * v_4 → ((¬ ((v_2 >>> (v_4 &&& (31 : Int32))) &&& 1) = 0 → ex_G mX12_circlesOf d 43 [.ref a_0, .int v_1, .int v_2, .int v_3, .int v_4, .int x5, .retAddr 0, .retAddr 0] [.int 0] h bc bs Q) ∧ (((v_2 >>> (v_4 &&& (31 : Int32))) &&& 1) = 0 → ex_G mX12_circlesOf d 43 [.ref a_0, .int v_1, .int v_2, .int v_3, .int v_4, .int x5, .retAddr 0, .retAddr 0] [.int 1] h bc bs Q))))) : ex_G mX12_circlesOf d 12 [.ref a_0, .int v_1, .int v_2, .int v_3, .int v_4, .retAddr 0, .retAddr 0, .retAddr 0] [] h bc bs Q := by
  refine ex_iload (q := 14) (x := v_4) dX12_circlesOf_12 rfl ?_
  refine ex_aload_n (q := 15) (x := a_0) dX12_circlesOf_14 rfl ?_
  have s1 := w.1
  replace w := w.2
  obtain ⟨a2, ea2, w⟩ := w
  refine ex_getr (q := 18) dX12_circlesOf_15 fl_X12_13 s1 ea2 ?_
  refine ex_iload_n (q := 19) (x := v_1) dX12_circlesOf_18 rfl ?_
  have s3 := w.1
  replace w := w.2
  refine ex_iald (q := 20) dX12_circlesOf_19 s3 ?_
  refine ex_icmp_ge (tgt := 137) (q := 23) dX12_circlesOf_20 (fun c4 => ?_) (fun c4 => ?_)
  · replace w := w.1 c4
    refine ex_iconst (q := 138) (v := 0) dX12_circlesOf_137 (by decide) ?_
    refine ex_istore (q := 140) (ls' := [.ref a_0, .int v_1, .int v_2, .int v_3, .int 0, .retAddr 0, .retAddr 0, .retAddr 0]) dX12_circlesOf_138 rfl ?_
    refine ex_iconst (q := 141) (v := 0) dX12_circlesOf_140 (by decide) ?_
    refine ex_istore (q := 143) (ls' := [.ref a_0, .int v_1, .int v_2, .int v_3, .int 0, .int 0, .retAddr 0, .retAddr 0]) dX12_circlesOf_141 rfl ?_
    refine ex_kill 2 (ls' := [.ref a_0, .int v_1, .retAddr 0, .int v_3, .int 0, .int 0, .retAddr 0, .retAddr 0]) rfl ?_
    exact w
  · replace w := w.2 c4
    refine ex_iconst (q := 24) (v := 4) dX12_circlesOf_23 (by decide) ?_
    refine ex_iload (q := 26) (x := v_4) dX12_circlesOf_24 rfl ?_
    refine ex_imul (q := 27) dX12_circlesOf_26 ?_
    refine ex_nmi (fun x5 ex5 => ?_)
    replace w := w x5 ex5
    refine ex_istore (q := 29) (ls' := [.ref a_0, .int v_1, .int v_2, .int v_3, .int v_4, .int x5, .retAddr 0, .retAddr 0]) dX12_circlesOf_27 rfl ?_
    refine ex_iload_n (q := 30) (x := v_2) dX12_circlesOf_29 rfl ?_
    refine ex_iload (q := 32) (x := v_4) dX12_circlesOf_30 rfl ?_
    refine ex_ishr (q := 33) dX12_circlesOf_32 ?_
    refine ex_iconst (q := 34) (v := 1) dX12_circlesOf_33 (by decide) ?_
    refine ex_iand (q := 35) dX12_circlesOf_34 ?_
    refine ex_if_ne (tgt := 42) (q := 38) dX12_circlesOf_35 (fun c6 => ?_) (fun c6 => ?_)
    · replace w := w.1 c6
      refine ex_iconst (q := 43) (v := 0) dX12_circlesOf_42 (by decide) ?_
      exact w
    · replace w := w.2 c6
      refine ex_iconst (q := 39) (v := 1) dX12_circlesOf_38 (by decide) ?_
      refine ex_goto (tgt := 43) dX12_circlesOf_39 ?_
      exact w

set_option maxRecDepth 100000 in
theorem X12_circlesOf_43 {d bc bs : Nat} {h : AH} {Q : Option Value → AH → Prop} {a_0 : Nat} {v_1 : Int32} {v_2 : Int32} {v_3 : Int32} {v_4 : Int32} {v_5 : Int32} {u_0 : Int32} (w : ah_o h a_0 12 ∧ ∃ a2, ah_r h a_0 24 = some a2 ∧ ((u_0 = 0 → ex_G mX12_circlesOf d 63 [.ref a_0, .int v_1, .int v_2, .int v_3, .int v_4, .int v_5, .int u_0, .retAddr 0] [.int 3, .int v_5, .int v_5, .ref a2] h bc bs Q) ∧ (¬ u_0 = 0 → ex_G mX12_circlesOf d 63 [.ref a_0, .int v_1, .int v_2, .int v_3, .int v_4, .int v_5, .int u_0, .retAddr 0] [.int 1, .int v_5, .int v_5, .ref a2] h bc bs Q))) : ex_G mX12_circlesOf d 43 [.ref a_0, .int v_1, .int v_2, .int v_3, .int v_4, .int v_5, .retAddr 0, .retAddr 0] [.int u_0] h bc bs Q := by
  refine ex_istore (q := 45) (ls' := [.ref a_0, .int v_1, .int v_2, .int v_3, .int v_4, .int v_5, .int u_0, .retAddr 0]) dX12_circlesOf_43 rfl ?_
  refine ex_aload_n (q := 46) (x := a_0) dX12_circlesOf_45 rfl ?_
  have s1 := w.1
  replace w := w.2
  obtain ⟨a2, ea2, w⟩ := w
  refine ex_getr (q := 49) dX12_circlesOf_46 fl_X12_74 s1 ea2 ?_
  refine ex_iload (q := 51) (x := v_5) dX12_circlesOf_49 rfl ?_
  refine ex_iload (q := 53) (x := v_5) dX12_circlesOf_51 rfl ?_
  refine ex_iload (q := 55) (x := u_0) dX12_circlesOf_53 rfl ?_
  refine ex_if_eq (tgt := 62) (q := 58) dX12_circlesOf_55 (fun c3 => ?_) (fun c3 => ?_)
  · replace w := w.1 c3
    refine ex_iconst (q := 63) (v := 3) dX12_circlesOf_62 (by decide) ?_
    exact w
  · replace w := w.2 c3
    refine ex_iconst (q := 59) (v := 1) dX12_circlesOf_58 (by decide) ?_
    refine ex_goto (tgt := 63) dX12_circlesOf_59 ?_
    exact w

set_option maxRecDepth 100000 in
theorem X12_circlesOf_63 {d bc bs : Nat} {h : AH} {Q : Option Value → AH → Prop} {a_0 : Nat} {v_1 : Int32} {v_2 : Int32} {v_3 : Int32} {v_4 : Int32} {v_5 : Int32} {v_6 : Int32} {u_0 : Int32} {u_1 : Int32} {u_2 : Int32} {b_3 : Nat} (w : st0 h b_3 u_2 ∧ ∀ h1, h1 = ah_si h b_3 (Int32.toNatClampNeg u_2) (u_1 + u_0) → ah_o h1 a_0 12 ∧ ∃ a4, ah_r h1 a_0 24 = some a4 ∧ ((v_6 = 0 → ex_G mX12_circlesOf d 85 [.ref a_0, .int v_1, .int v_2, .int v_3, .int v_4, .int v_5, .int v_6, .retAddr 0] [.int 2, .int v_5, .int (v_5 + 1), .ref a4] h1 bc bs Q) ∧ (¬ v_6 = 0 → ex_G mX12_circlesOf d 85 [.ref a_0, .int v_1, .int v_2, .int v_3, .int v_4, .int v_5, .int v_6, .retAddr 0] [.int 0, .int v_5, .int (v_5 + 1), .ref a4] h1 bc bs Q))) : ex_G mX12_circlesOf d 63 [.ref a_0, .int v_1, .int v_2, .int v_3, .int v_4, .int v_5, .int v_6, .retAddr 0] [.int u_0, .int u_1, .int u_2, .ref b_3] h bc bs Q := by
  refine ex_iadd (q := 64) dX12_circlesOf_63 ?_
  have s2 := w.1
  replace w := w.2
  refine ex_iast (q := 65) dX12_circlesOf_64 s2 ?_
  refine ex_nmh (fun h1 eh1 => ?_)
  replace w := w h1 eh1
  refine ex_aload_n (q := 66) (x := a_0) dX12_circlesOf_65 rfl ?_
  have s3 := w.1
  replace w := w.2
  obtain ⟨a4, ea4, w⟩ := w
  refine ex_getr (q := 69) dX12_circlesOf_66 fl_X12_74 s3 ea4 ?_
  refine ex_iload (q := 71) (x := v_5) dX12_circlesOf_69 rfl ?_
  refine ex_iconst (q := 72) (v := 1) dX12_circlesOf_71 (by decide) ?_
  refine ex_iadd (q := 73) dX12_circlesOf_72 ?_
  refine ex_iload (q := 75) (x := v_5) dX12_circlesOf_73 rfl ?_
  refine ex_iload (q := 77) (x := v_6) dX12_circlesOf_75 rfl ?_
  refine ex_if_eq (tgt := 84) (q := 80) dX12_circlesOf_77 (fun c5 => ?_) (fun c5 => ?_)
  · replace w := w.1 c5
    refine ex_iconst (q := 85) (v := 2) dX12_circlesOf_84 (by decide) ?_
    exact w
  · replace w := w.2 c5
    refine ex_iconst (q := 81) (v := 0) dX12_circlesOf_80 (by decide) ?_
    refine ex_goto (tgt := 85) dX12_circlesOf_81 ?_
    exact w

set_option maxRecDepth 100000 in
theorem X12_circlesOf_85 {d bc bs : Nat} {h : AH} {Q : Option Value → AH → Prop} {a_0 : Nat} {v_1 : Int32} {v_2 : Int32} {v_3 : Int32} {v_4 : Int32} {v_5 : Int32} {v_6 : Int32} {u_0 : Int32} {u_1 : Int32} {u_2 : Int32} {b_3 : Nat} (w : st0 h b_3 u_2 ∧ ∀ h1, h1 = ah_si h b_3 (Int32.toNatClampNeg u_2) (u_1 + u_0) → ah_o h1 a_0 12 ∧ ∃ a4, ah_r h1 a_0 24 = some a4 ∧ ((v_6 = 0 → ex_G mX12_circlesOf d 107 [.ref a_0, .int v_1, .int v_2, .int v_3, .int v_4, .int v_5, .int v_6, .retAddr 0] [.int 1, .int v_5, .int (v_5 + 2), .ref a4] h1 bc bs Q) ∧ (¬ v_6 = 0 → ex_G mX12_circlesOf d 107 [.ref a_0, .int v_1, .int v_2, .int v_3, .int v_4, .int v_5, .int v_6, .retAddr 0] [.int 3, .int v_5, .int (v_5 + 2), .ref a4] h1 bc bs Q))) : ex_G mX12_circlesOf d 85 [.ref a_0, .int v_1, .int v_2, .int v_3, .int v_4, .int v_5, .int v_6, .retAddr 0] [.int u_0, .int u_1, .int u_2, .ref b_3] h bc bs Q := by
  refine ex_iadd (q := 86) dX12_circlesOf_85 ?_
  have s2 := w.1
  replace w := w.2
  refine ex_iast (q := 87) dX12_circlesOf_86 s2 ?_
  refine ex_nmh (fun h1 eh1 => ?_)
  replace w := w h1 eh1
  refine ex_aload_n (q := 88) (x := a_0) dX12_circlesOf_87 rfl ?_
  have s3 := w.1
  replace w := w.2
  obtain ⟨a4, ea4, w⟩ := w
  refine ex_getr (q := 91) dX12_circlesOf_88 fl_X12_74 s3 ea4 ?_
  refine ex_iload (q := 93) (x := v_5) dX12_circlesOf_91 rfl ?_
  refine ex_iconst (q := 94) (v := 2) dX12_circlesOf_93 (by decide) ?_
  refine ex_iadd (q := 95) dX12_circlesOf_94 ?_
  refine ex_iload (q := 97) (x := v_5) dX12_circlesOf_95 rfl ?_
  refine ex_iload (q := 99) (x := v_6) dX12_circlesOf_97 rfl ?_
  refine ex_if_eq (tgt := 106) (q := 102) dX12_circlesOf_99 (fun c5 => ?_) (fun c5 => ?_)
  · replace w := w.1 c5
    refine ex_iconst (q := 107) (v := 1) dX12_circlesOf_106 (by decide) ?_
    exact w
  · replace w := w.2 c5
    refine ex_iconst (q := 103) (v := 3) dX12_circlesOf_102 (by decide) ?_
    refine ex_goto (tgt := 107) dX12_circlesOf_103 ?_
    exact w

set_option maxRecDepth 100000 in
theorem X12_circlesOf_107 {d bc bs : Nat} {h : AH} {Q : Option Value → AH → Prop} {a_0 : Nat} {v_1 : Int32} {v_2 : Int32} {v_3 : Int32} {v_4 : Int32} {v_5 : Int32} {v_6 : Int32} {u_0 : Int32} {u_1 : Int32} {u_2 : Int32} {b_3 : Nat} (w : st0 h b_3 u_2 ∧ ∀ h1, h1 = ah_si h b_3 (Int32.toNatClampNeg u_2) (u_1 + u_0) → ah_o h1 a_0 12 ∧ ∃ a4, ah_r h1 a_0 24 = some a4 ∧ ((v_6 = 0 → st0 h1 a4 (v_5 + 3) ∧ ∀ h6, h6 = ah_si h1 a4 (Int32.toNatClampNeg (v_5 + 3)) (v_5 + 0) → ∀ x8, x8 = v_4 + 1 → ex_G mX12_circlesOf d 12 [.ref a_0, .int v_1, .int v_2, .int v_3, .int x8, .retAddr 0, .retAddr 0, .retAddr 0] [] h6 bc bs Q) ∧ (¬ v_6 = 0 → st0 h1 a4 (v_5 + 3) ∧ ∀ h9, h9 = ah_si h1 a4 (Int32.toNatClampNeg (v_5 + 3)) (v_5 + 2) → ∀ x11, x11 = v_4 + 1 → ex_G mX12_circlesOf d 12 [.ref a_0, .int v_1, .int v_2, .int v_3, .int x11, .retAddr 0, .retAddr 0, .retAddr 0] [] h9 bc bs Q))) : ex_G mX12_circlesOf d 107 [.ref a_0, .int v_1, .int v_2, .int v_3, .int v_4, .int v_5, .int v_6, .retAddr 0] [.int u_0, .int u_1, .int u_2, .ref b_3] h bc bs Q := by
  refine ex_iadd (q := 108) dX12_circlesOf_107 ?_
  have s2 := w.1
  replace w := w.2
  refine ex_iast (q := 109) dX12_circlesOf_108 s2 ?_
  refine ex_nmh (fun h1 eh1 => ?_)
  replace w := w h1 eh1
  refine ex_aload_n (q := 110) (x := a_0) dX12_circlesOf_109 rfl ?_
  have s3 := w.1
  replace w := w.2
  obtain ⟨a4, ea4, w⟩ := w
  refine ex_getr (q := 113) dX12_circlesOf_110 fl_X12_74 s3 ea4 ?_
  refine ex_iload (q := 115) (x := v_5) dX12_circlesOf_113 rfl ?_
  refine ex_iconst (q := 116) (v := 3) dX12_circlesOf_115 (by decide) ?_
  refine ex_iadd (q := 117) dX12_circlesOf_116 ?_
  refine ex_iload (q := 119) (x := v_5) dX12_circlesOf_117 rfl ?_
  refine ex_iload (q := 121) (x := v_6) dX12_circlesOf_119 rfl ?_
  refine ex_if_eq (tgt := 128) (q := 124) dX12_circlesOf_121 (fun c5 => ?_) (fun c5 => ?_)
  · replace w := w.1 c5
    refine ex_iconst (q := 129) (v := 0) dX12_circlesOf_128 (by decide) ?_
    refine ex_iadd (q := 130) dX12_circlesOf_129 ?_
    have s7 := w.1
    replace w := w.2
    refine ex_iast (q := 131) dX12_circlesOf_130 s7 ?_
    refine ex_nmh (fun h6 eh6 => ?_)
    replace w := w h6 eh6
    obtain ⟨x8, ex8⟩ : ∃ y : Int32, y = v_4 + 1 := ⟨_, rfl⟩
    replace w := w x8 ex8
    refine ex_iinc (q := 134) (x := v_4) (v := x8) (ls' := [.ref a_0, .int v_1, .int v_2, .int v_3, .int x8, .int v_5, .int v_6, .retAddr 0]) dX12_circlesOf_131 rfl (by rw [ex8]; rfl) rfl ?_
    refine ex_goto (tgt := 12) dX12_circlesOf_134 ?_
    refine ex_kill 5 (ls' := [.ref a_0, .int v_1, .int v_2, .int v_3, .int x8, .retAddr 0, .int v_6, .retAddr 0]) rfl ?_
    refine ex_kill 6 (ls' := [.ref a_0, .int v_1, .int v_2, .int v_3, .int x8, .retAddr 0, .retAddr 0, .retAddr 0]) rfl ?_
    exact w
  · replace w := w.2 c5
    refine ex_iconst (q := 125) (v := 2) dX12_circlesOf_124 (by decide) ?_
    refine ex_goto (tgt := 129) dX12_circlesOf_125 ?_
    refine ex_iadd (q := 130) dX12_circlesOf_129 ?_
    have s10 := w.1
    replace w := w.2
    refine ex_iast (q := 131) dX12_circlesOf_130 s10 ?_
    refine ex_nmh (fun h9 eh9 => ?_)
    replace w := w h9 eh9
    obtain ⟨x11, ex11⟩ : ∃ y : Int32, y = v_4 + 1 := ⟨_, rfl⟩
    replace w := w x11 ex11
    refine ex_iinc (q := 134) (x := v_4) (v := x11) (ls' := [.ref a_0, .int v_1, .int v_2, .int v_3, .int x11, .int v_5, .int v_6, .retAddr 0]) dX12_circlesOf_131 rfl (by rw [ex11]; rfl) rfl ?_
    refine ex_goto (tgt := 12) dX12_circlesOf_134 ?_
    refine ex_kill 5 (ls' := [.ref a_0, .int v_1, .int v_2, .int v_3, .int x11, .retAddr 0, .int v_6, .retAddr 0]) rfl ?_
    refine ex_kill 6 (ls' := [.ref a_0, .int v_1, .int v_2, .int v_3, .int x11, .retAddr 0, .retAddr 0, .retAddr 0]) rfl ?_
    exact w

set_option maxRecDepth 100000 in
theorem X12_circlesOf_143 {d bc bs : Nat} {h : AH} {Q : Option Value → AH → Prop} {a_0 : Nat} {v_1 : Int32} {v_3 : Int32} {v_4 : Int32} {v_5 : Int32} (w : ((v_3 ≤ v_5 → ex_G mX12_circlesOf d 166 [.ref a_0, .int v_1, .retAddr 0, .int v_3, .int v_4, .int 0, .retAddr 0, .retAddr 0] [] h bc bs Q) ∧ (¬ v_3 ≤ v_5 → ah_o h a_0 12 ∧ ∃ a3, ah_r h a_0 12 = some a3 ∧ ld1 h a3 v_5 ∧ ∀ h4, h4 = ah_si h a3 (Int32.toNatClampNeg v_5) 0 → ∀ x6, x6 = v_5 + 1 → ex_G mX12_circlesOf d 143 [.ref a_0, .int v_1, .retAddr 0, .int v_3, .int v_4, .int x6, .retAddr 0, .retAddr 0] [] h4 bc bs Q))) : ex_G mX12_circlesOf d 143 [.ref a_0, .int v_1, .retAddr 0, .int v_3, .int v_4, .int v_5, .retAddr 0, .retAddr 0] [] h bc bs Q := by
  refine ex_iload (q := 145) (x := v_5) dX12_circlesOf_143 rfl ?_
  refine ex_iload_n (q := 146) (x := v_3) dX12_circlesOf_145 rfl ?_
  refine ex_icmp_ge (tgt := 163) (q := 149) dX12_circlesOf_146 (fun c1 => ?_) (fun c1 => ?_)
  · replace w := w.1 c1
    refine ex_iconst (q := 164) (v := 0) dX12_circlesOf_163 (by decide) ?_
    refine ex_istore (q := 166) (ls' := [.ref a_0, .int v_1, .retAddr 0, .int v_3, .int v_4, .int 0, .retAddr 0, .retAddr 0]) dX12_circlesOf_164 rfl ?_
    exact w
  · replace w := w.2 c1
    refine ex_aload_n (q := 150) (x := a_0) dX12_circlesOf_149 rfl ?_
    have s2 := w.1
    replace w := w.2
    obtain ⟨a3, ea3, w⟩ := w
    refine ex_getr (q := 153) dX12_circlesOf_150 fl_X12_42 s2 ea3 ?_
    refine ex_iload (q := 155) (x := v_5) dX12_circlesOf_153 rfl ?_
    refine ex_iconst (q := 156) (v := 0) dX12_circlesOf_155 (by decide) ?_
    have s5 := w.1
    replace w := w.2
    refine ex_bast (q := 157) dX12_circlesOf_156 s5 (Or.inl rfl) ?_
    refine ex_nmh (fun h4 eh4 => ?_)
    replace w := w h4 eh4
    obtain ⟨x6, ex6⟩ : ∃ y : Int32, y = v_5 + 1 := ⟨_, rfl⟩
    replace w := w x6 ex6
    refine ex_iinc (q := 160) (x := v_5) (v := x6) (ls' := [.ref a_0, .int v_1, .retAddr 0, .int v_3, .int v_4, .int x6, .retAddr 0, .retAddr 0]) dX12_circlesOf_157 rfl (by rw [ex6]; rfl) rfl ?_
    refine ex_goto (tgt := 143) dX12_circlesOf_160 ?_
    exact w

set_option maxRecDepth 100000 in
theorem X12_circlesOf_166 {d bc bs : Nat} {h : AH} {Q : Option Value → AH → Prop} {a_0 : Nat} {v_1 : Int32} {v_3 : Int32} {v_4 : Int32} {v_5 : Int32} (w : ((v_3 ≤ v_5 → ah_o h a_0 12 ∧ ∃ a3, ah_r h a_0 3 = some a3 ∧ ld0 h a3 v_1 ∧ Q (some (.int (v_4 + (ah_i h a3 (Int32.toNatClampNeg v_1))))) h) ∧ (¬ v_3 ≤ v_5 → ah_o h a_0 12 ∧ ∃ a6, ah_r h a_0 12 = some a6 ∧ ld1 h a6 v_5 ∧ (((ah_i h a6 (Int32.toNatClampNeg v_5)) = 0 → ∀ x9, x9 = v_4 + 1 → ex_G mX12_circlesOf d 196 [.ref a_0, .int v_1, .retAddr 0, .int v_3, .int x9, .int v_5, .int v_5, .retAddr 0] [] h bc bs Q) ∧ (¬ (ah_i h a6 (Int32.toNatClampNeg v_5)) = 0 → ∀ x10, x10 = v_4 + 0 → ex_G mX12_circlesOf d 196 [.ref a_0, .int v_1, .retAddr 0, .int v_3, .int x10, .int v_5, .int v_5, .retAddr 0] [] h bc bs Q))))) : ex_G mX12_circlesOf d 166 [.ref a_0, .int v_1, .retAddr 0, .int v_3, .int v_4, .int v_5, .retAddr 0, .retAddr 0] [] h bc bs Q := by
  refine ex_iload (q := 168) (x := v_5) dX12_circlesOf_166 rfl ?_
  refine ex_iload_n (q := 169) (x := v_3) dX12_circlesOf_168 rfl ?_
  refine ex_icmp_ge (tgt := 249) (q := 172) dX12_circlesOf_169 (fun c1 => ?_) (fun c1 => ?_)
  · replace w := w.1 c1
    refine ex_iload (q := 251) (x := v_4) dX12_circlesOf_249 rfl ?_
    refine ex_aload_n (q := 252) (x := a_0) dX12_circlesOf_251 rfl ?_
    have s2 := w.1
    replace w := w.2
    obtain ⟨a3, ea3, w⟩ := w
    refine ex_getr (q := 255) dX12_circlesOf_252 fl_X12_16 s2 ea3 ?_
    refine ex_iload_n (q := 256) (x := v_1) dX12_circlesOf_255 rfl ?_
    have s4 := w.1
    replace w := w.2
    refine ex_iald (q := 257) dX12_circlesOf_256 s4 ?_
    refine ex_iadd (q := 258) dX12_circlesOf_257 ?_
    exact ex_ireturn dX12_circlesOf_258 rfl (Or.inl rfl) w
  · replace w := w.2 c1
    refine ex_iload (q := 174) (x := v_4) dX12_circlesOf_172 rfl ?_
    refine ex_aload_n (q := 175) (x := a_0) dX12_circlesOf_174 rfl ?_
    have s5 := w.1
    replace w := w.2
    obtain ⟨a6, ea6, w⟩ := w
    refine ex_getr (q := 178) dX12_circlesOf_175 fl_X12_42 s5 ea6 ?_
    refine ex_iload (q := 180) (x := v_5) dX12_circlesOf_178 rfl ?_
    have s7 := w.1
    replace w := w.2
    refine ex_bald (q := 181) dX12_circlesOf_180 s7 ?_
    refine ex_if_eq (tgt := 188) (q := 184) dX12_circlesOf_181 (fun c8 => ?_) (fun c8 => ?_)
    · replace w := w.1 c8
      refine ex_iconst (q := 189) (v := 1) dX12_circlesOf_188 (by decide) ?_
      refine ex_iadd (q := 190) dX12_circlesOf_189 ?_
      refine ex_nmi (fun x9 ex9 => ?_)
      replace w := w x9 ex9
      refine ex_istore (q := 192) (ls' := [.ref a_0, .int v_1, .retAddr 0, .int v_3, .int x9, .int v_5, .retAddr 0, .retAddr 0]) dX12_circlesOf_190 rfl ?_
      refine ex_iload (q := 194) (x := v_5) dX12_circlesOf_192 rfl ?_
      refine ex_istore (q := 196) (ls' := [.ref a_0, .int v_1, .retAddr 0, .int v_3, .int x9, .int v_5, .int v_5, .retAddr 0]) dX12_circlesOf_194 rfl ?_
      exact w
    · replace w := w.2 c8
      refine ex_iconst (q := 185) (v := 0) dX12_circlesOf_184 (by decide) ?_
      refine ex_goto (tgt := 189) dX12_circlesOf_185 ?_
      refine ex_iadd (q := 190) dX12_circlesOf_189 ?_
      refine ex_nmi (fun x10 ex10 => ?_)
      replace w := w x10 ex10
      refine ex_istore (q := 192) (ls' := [.ref a_0, .int v_1, .retAddr 0, .int v_3, .int x10, .int v_5, .retAddr 0, .retAddr 0]) dX12_circlesOf_190 rfl ?_
      refine ex_iload (q := 194) (x := v_5) dX12_circlesOf_192 rfl ?_
      refine ex_istore (q := 196) (ls' := [.ref a_0, .int v_1, .retAddr 0, .int v_3, .int x10, .int v_5, .int v_5, .retAddr 0]) dX12_circlesOf_194 rfl ?_
      exact w

set_option maxRecDepth 100000 in
theorem X12_circlesOf_196 {d bc bs : Nat} {h : AH} {Q : Option Value → AH → Prop} {a_0 : Nat} {v_1 : Int32} {v_3 : Int32} {v_4 : Int32} {v_5 : Int32} {v_6 : Int32} (w : ah_o h a_0 12 ∧ ∃ a2, ah_r h a_0 12 = some a2 ∧ ld1 h a2 v_6 ∧ ((¬ (ah_i h a2 (Int32.toNatClampNeg v_6)) = 0 → ∀ x5, x5 = v_5 + 1 → ex_G mX12_circlesOf d 166 [.ref a_0, .int v_1, .retAddr 0, .int v_3, .int v_4, .int x5, .retAddr 0, .retAddr 0] [] h bc bs Q) ∧ ((ah_i h a2 (Int32.toNatClampNeg v_6)) = 0 → ∀ h6, h6 = ah_si h a2 (Int32.toNatClampNeg v_6) 1 → ∃ a7, ah_r h6 a_0 10 = some a7 ∧ ld0 h6 a7 v_6 ∧ ∀ x9, x9 = ah_i h6 a7 (Int32.toNatClampNeg v_6) → ld1 h6 a2 x9 ∧ ∀ h10, h10 = ah_si h6 a2 (Int32.toNatClampNeg x9) 1 → ∃ a12, ah_r h10 a_0 24 = some a12 ∧ ld0 h10 a12 x9 ∧ ∀ x14, x14 = ah_i h10 a12 (Int32.toNatClampNeg x9) → ex_G mX12_circlesOf d 196 [.ref a_0, .int v_1, .retAddr 0, .int v_3, .int v_4, .int v_5, .int x14, .retAddr 0] [] h10 bc bs Q))) : ex_G mX12_circlesOf d 196 [.ref a_0, .int v_1, .retAddr 0, .int v_3, .int v_4, .int v_5, .int v_6, .retAddr 0] [] h bc bs Q := by
  refine ex_aload_n (q := 197) (x := a_0) dX12_circlesOf_196 rfl ?_
  have s1 := w.1
  replace w := w.2
  obtain ⟨a2, ea2, w⟩ := w
  refine ex_getr (q := 200) dX12_circlesOf_197 fl_X12_42 s1 ea2 ?_
  refine ex_iload (q := 202) (x := v_6) dX12_circlesOf_200 rfl ?_
  have s3 := w.1
  replace w := w.2
  refine ex_bald (q := 203) dX12_circlesOf_202 s3 ?_
  refine ex_if_ne (tgt := 243) (q := 206) dX12_circlesOf_203 (fun c4 => ?_) (fun c4 => ?_)
  · replace w := w.1 c4
    obtain ⟨x5, ex5⟩ : ∃ y : Int32, y = v_5 + 1 := ⟨_, rfl⟩
    replace w := w x5 ex5
    refine ex_iinc (q := 246) (x := v_5) (v := x5) (ls' := [.ref a_0, .int v_1, .retAddr 0, .int v_3, .int v_4, .int x5, .int v_6, .retAddr 0]) dX12_circlesOf_243 rfl (by rw [ex5]; rfl) rfl ?_
    refine ex_goto (tgt := 166) dX12_circlesOf_246 ?_
    refine ex_kill 6 (ls' := [.ref a_0, .int v_1, .retAddr 0, .int v_3, .int v_4, .int x5, .retAddr 0, .retAddr 0]) rfl ?_
    exact w
  · replace w := w.2 c4
    refine ex_aload_n (q := 207) (x := a_0) dX12_circlesOf_206 rfl ?_
    refine ex_getr (q := 210) dX12_circlesOf_207 fl_X12_42 s1 ea2 ?_
    refine ex_iload (q := 212) (x := v_6) dX12_circlesOf_210 rfl ?_
    refine ex_iconst (q := 213) (v := 1) dX12_circlesOf_212 (by decide) ?_
    refine ex_bast (q := 214) dX12_circlesOf_213 s3 (Or.inr rfl) ?_
    refine ex_nmh (fun h6 eh6 => ?_)
    replace w := w h6 eh6
    refine ex_aload_n (q := 215) (x := a_0) dX12_circlesOf_214 rfl ?_
    obtain ⟨a7, ea7, w⟩ := w
    refine ex_getr (q := 218) dX12_circlesOf_215 fl_X12_36 (by rw [eh6]; exact s1) ea7 ?_
    refine ex_iload (q := 220) (x := v_6) dX12_circlesOf_218 rfl ?_
    have s8 := w.1
    replace w := w.2
    refine ex_iald (q := 221) dX12_circlesOf_220 s8 ?_
    refine ex_nmi (fun x9 ex9 => ?_)
    replace w := w x9 ex9
    refine ex_istore (q := 223) (ls' := [.ref a_0, .int v_1, .retAddr 0, .int v_3, .int v_4, .int v_5, .int v_6, .int x9]) dX12_circlesOf_221 rfl ?_
    refine ex_aload_n (q := 224) (x := a_0) dX12_circlesOf_223 rfl ?_
    refine ex_getr (q := 227) dX12_circlesOf_224 fl_X12_42 (by rw [eh6]; exact s1) (by rw [eh6]; exact ea2) ?_
    refine ex_iload (q := 229) (x := x9) dX12_circlesOf_227 rfl ?_
    refine ex_iconst (q := 230) (v := 1) dX12_circlesOf_229 (by decide) ?_
    have s11 := w.1
    replace w := w.2
    refine ex_bast (q := 231) dX12_circlesOf_230 s11 (Or.inr rfl) ?_
    refine ex_nmh (fun h10 eh10 => ?_)
    replace w := w h10 eh10
    refine ex_aload_n (q := 232) (x := a_0) dX12_circlesOf_231 rfl ?_
    obtain ⟨a12, ea12, w⟩ := w
    refine ex_getr (q := 235) dX12_circlesOf_232 fl_X12_74 (by rw [eh10]; exact (by rw [eh6]; exact s1)) ea12 ?_
    refine ex_iload (q := 237) (x := x9) dX12_circlesOf_235 rfl ?_
    have s13 := w.1
    replace w := w.2
    refine ex_iald (q := 238) dX12_circlesOf_237 s13 ?_
    refine ex_nmi (fun x14 ex14 => ?_)
    replace w := w x14 ex14
    refine ex_istore (q := 240) (ls' := [.ref a_0, .int v_1, .retAddr 0, .int v_3, .int v_4, .int v_5, .int x14, .int x9]) dX12_circlesOf_238 rfl ?_
    refine ex_goto (tgt := 196) dX12_circlesOf_240 ?_
    refine ex_kill 7 (ls' := [.ref a_0, .int v_1, .retAddr 0, .int v_3, .int v_4, .int v_5, .int x14, .retAddr 0]) rfl ?_
    exact w

theorem X12_circlesOf_e {d bc bs : Nat} {h : AH} {Q : Option Value → AH → Prop} {a_0 : Nat} {v_1 : Int32} {v_2 : Int32} (w : ex_G mX12_circlesOf d 0 [.ref a_0, .int v_1, .int v_2, .retAddr 0, .retAddr 0, .retAddr 0, .retAddr 0, .retAddr 0] [] h bc bs Q) : ex_S yX12_circlesOf mX12_circlesOf d [.ref a_0, .int v_1, .int v_2] h bc bs Q :=
  ex_enter (plainFor_of_name (by decide +kernel)) ⟨rfl, rfl⟩ rfl rfl (Nat.le_of_ble_eq_true rfl) (ex_pad 5 w)

set_option maxRecDepth 100000 in
theorem X12_bracketOf_0 {d bc bs : Nat} {h : AH} {Q : Option Value → AH → Prop} {a_0 : Nat} {v_1 : Int32} (w : ah_o h a_0 12 ∧ ex_S yX12_link mX12_link d [.ref a_0, .int v_1] h 0 0 (fun r h1 => r = none ∧ ah_o h1 a_0 12 ∧ ∃ a4, ah_r h1 a_0 2 = some a4 ∧ ld0 h1 a4 v_1 ∧ ∀ h6, h6 = ah_sf h1 a_0 23 ((ah_f h1 a_0 23) + (1 <<< ((ah_i h1 a4 (Int32.toNatClampNeg v_1)) &&& (31 : Int32)))) → ex_G mX12_bracketOf (d + 1) 24 [.ref a_0, .int v_1, .int 0, .retAddr 0, .retAddr 0, .retAddr 0, .retAddr 0, .retAddr 0, .retAddr 0] [] h6 bc bs Q)) : ex_G mX12_bracketOf (d + 1) 0 [.ref a_0, .int v_1, .retAddr 0, .retAddr 0, .retAddr 0, .retAddr 0, .retAddr 0, .retAddr 0, .retAddr 0] [] h bc bs Q := by
  refine ex_aload_n (q := 1) (x := a_0) dX12_bracketOf_0 rfl ?_
  refine ex_iload_n (q := 2) (x := v_1) dX12_bracketOf_1 rfl ?_
  have s2 := w.1
  replace w := w.2
  refine ex_callV (q := 5) (M := mX12_bracketOf) (hdd := Nat.le_refl _) (c := 12) (st := []) (bc := bc) (bs := bs) dX12_bracketOf_2 rfl cl_X12_216 wd_1647 wd_53 s2 w ?_
  rintro r h1 ⟨rfl, w⟩
  show ex_G mX12_bracketOf (d + 1) 5 [.ref a_0, .int v_1, .retAddr 0, .retAddr 0, .retAddr 0, .retAddr 0, .retAddr 0, .retAddr 0, .retAddr 0] [] h1 bc bs Q
  refine ex_aload_n (q := 6) (x := a_0) dX12_bracketOf_5 rfl ?_
  refine ex_dup (q := 7) dX12_bracketOf_6 rfl ?_
  have s3 := w.1
  replace w := w.2
  refine ex_getf (q := 10) dX12_bracketOf_7 fl_X12_250 s3 ?_
  refine ex_iconst (q := 11) (v := 1) dX12_bracketOf_10 (by decide) ?_
  refine ex_aload_n (q := 12) (x := a_0) dX12_bracketOf_11 rfl ?_
  obtain ⟨a4, ea4, w⟩ := w
  refine ex_getr (q := 15) dX12_bracketOf_12 fl_X12_13 s3 ea4 ?_
  refine ex_iload_n (q := 16) (x := v_1) dX12_bracketOf_15 rfl ?_
  have s5 := w.1
  replace w := w.2
  refine ex_iald (q := 17) dX12_bracketOf_16 s5 ?_
  refine ex_ishl (q := 18) dX12_bracketOf_17 ?_
  refine ex_iadd (q := 19) dX12_bracketOf_18 ?_
  refine ex_putf (q := 22) dX12_bracketOf_19 fl_X12_250 (Or.inl rfl) s3 (Or.inl rfl) ?_
  refine ex_nmh (fun h6 eh6 => ?_)
  replace w := w h6 eh6
  refine ex_iconst (q := 23) (v := 0) dX12_bracketOf_22 (by decide) ?_
  refine ex_istore_n (q := 24) (ls' := [.ref a_0, .int v_1, .int 0, .retAddr 0, .retAddr 0, .retAddr 0, .retAddr 0, .retAddr 0, .retAddr 0]) dX12_bracketOf_23 rfl ?_
  exact w

set_option maxRecDepth 100000 in
theorem X12_bracketOf_24 {d bc bs : Nat} {h : AH} {Q : Option Value → AH → Prop} {a_0 : Nat} {v_1 : Int32} {v_2 : Int32} (w : ((1800 ≤ v_2 → ex_G mX12_bracketOf (d + 1) 48 [.ref a_0, .int v_1, .int 0, .int 0, .retAddr 0, .retAddr 0, .retAddr 0, .retAddr 0, .retAddr 0] [] h bc bs Q) ∧ (¬ 1800 ≤ v_2 → ah_o h a_0 12 ∧ ∃ a3, ah_r h a_0 25 = some a3 ∧ ld2 h a3 v_2 ∧ ∀ h4, h4 = ah_sl h a3 (Int32.toNatClampNeg v_2) 0 → ∀ x6, x6 = v_2 + 1 → ex_G mX12_bracketOf (d + 1) 24 [.ref a_0, .int v_1, .int x6, .retAddr 0, .retAddr 0, .retAddr 0, .retAddr 0, .retAddr 0, .retAddr 0] [] h4 bc bs Q))) : ex_G mX12_bracketOf (d + 1) 24 [.ref a_0, .int v_1, .int v_2, .retAddr 0, .retAddr 0, .retAddr 0, .retAddr 0, .retAddr 0, .retAddr 0] [] h bc bs Q := by
  refine ex_iload_n (q := 25) (x := v_2) dX12_bracketOf_24 rfl ?_
  refine ex_sipush (q := 28) (v := 1800) dX12_bracketOf_25 (by decide) ?_
  refine ex_icmp_ge (tgt := 44) (q := 31) dX12_bracketOf_28 (fun c1 => ?_) (fun c1 => ?_)
  · replace w := w.1 c1
    refine ex_iconst (q := 45) (v := 0) dX12_bracketOf_44 (by decide) ?_
    refine ex_istore_n (q := 46) (ls' := [.ref a_0, .int v_1, .int 0, .retAddr 0, .retAddr 0, .retAddr 0, .retAddr 0, .retAddr 0, .retAddr 0]) dX12_bracketOf_45 rfl ?_
    refine ex_iconst (q := 47) (v := 0) dX12_bracketOf_46 (by decide) ?_
    refine ex_istore_n (q := 48) (ls' := [.ref a_0, .int v_1, .int 0, .int 0, .retAddr 0, .retAddr 0, .retAddr 0, .retAddr 0, .retAddr 0]) dX12_bracketOf_47 rfl ?_
    exact w
  · replace w := w.2 c1
    refine ex_aload_n (q := 32) (x := a_0) dX12_bracketOf_31 rfl ?_
    have s2 := w.1
    replace w := w.2
    obtain ⟨a3, ea3, w⟩ := w
    refine ex_getr (q := 35) dX12_bracketOf_32 fl_X12_77 s2 ea3 ?_
    refine ex_iload_n (q := 36) (x := v_2) dX12_bracketOf_35 rfl ?_
    refine ex_lconst (q := 37) (v := 0) dX12_bracketOf_36 (by decide) ?_
    have s5 := w.1
    replace w := w.2
    refine ex_last (q := 38) dX12_bracketOf_37 s5 ?_
    refine ex_nmh (fun h4 eh4 => ?_)
    replace w := w h4 eh4
    obtain ⟨x6, ex6⟩ : ∃ y : Int32, y = v_2 + 1 := ⟨_, rfl⟩
    replace w := w x6 ex6
    refine ex_iinc (q := 41) (x := v_2) (v := x6) (ls' := [.ref a_0, .int v_1, .int x6, .retAddr 0, .retAddr 0, .retAddr 0, .retAddr 0, .retAddr 0, .retAddr 0]) dX12_bracketOf_38 rfl (by rw [ex6]; rfl) rfl ?_
    refine ex_goto (tgt := 24) dX12_bracketOf_41 ?_
    exact w

set_option maxRecDepth 100000 in
theorem X12_bracketOf_48 {d bc bs : Nat} {h : AH} {Q : Option Value → AH → Prop} {a_0 : Nat} {v_1 : Int32} {v_2 : Int32} {v_3 : Int32} (w : ah_o h a_0 12 ∧ ∃ a2, ah_r h a_0 2 = some a2 ∧ ld0 h a2 v_1 ∧ (((1 <<< ((ah_i h a2 (Int32.toNatClampNeg v_1)) &&& (31 : Int32))) ≤ v_3 → ex_G mX12_bracketOf (d + 1) 140 [.ref a_0, .int v_1, .int v_2, .int 0, .retAddr 0, .retAddr 0, .retAddr 0, .retAddr 0, .retAddr 0] [] h bc bs Q) ∧ (¬ (1 <<< ((ah_i h a2 (Int32.toNatClampNeg v_1)) &&& (31 : Int32))) ≤ v_3 → ex_G mX12_bracketOf (d + 1) 66 [.ref a_0, .int v_1, .int v_2, .int v_3, .int 0, .int 0, .retAddr 0, .retAddr 0, .retAddr 0] [] h bc bs Q))) : ex_G mX12_bracketOf (d + 1) 48 [.ref a_0, .int v_1, .int v_2, .int v_3, .retAddr 0, .retAddr 0, .retAddr 0, .retAddr 0, .retAddr 0] [] h bc bs Q := by
  refine ex_iload_n (q := 49) (x := v_3) dX12_bracketOf_48 rfl ?_
  refine ex_iconst (q := 50) (v := 1) dX12_bracketOf_49 (by decide) ?_
  refine ex_aload_n (q := 51) (x := a_0) dX12_bracketOf_50 rfl ?_
  have s1 := w.1
  replace w := w.2
  obtain ⟨a2, ea2, w⟩ := w
  refine ex_getr (q := 54) dX12_bracketOf_51 fl_X12_13 s1 ea2 ?_
  refine ex_iload_n (q := 55) (x := v_1) dX12_bracketOf_54 rfl ?_
  have s3 := w.1
  replace w := w.2
  refine ex_iald (q := 56) dX12_bracketOf_55 s3 ?_
  refine ex_ishl (q := 57) dX12_bracketOf_56 ?_
  refine ex_icmp_ge (tgt := 138) (q := 60) dX12_bracketOf_57 (fun c4 => ?_) (fun c4 => ?_)
  · replace w := w.1 c4
    refine ex_iconst (q := 139) (v := 0) dX12_bracketOf_138 (by decide) ?_
    refine ex_istore_n (q := 140) (ls' := [.ref a_0, .int v_1, .int v_2, .int 0, .retAddr 0, .retAddr 0, .retAddr 0, .retAddr 0, .retAddr 0]) dX12_bracketOf_139 rfl ?_
    exact w
  · replace w := w.2 c4
    refine ex_iconst (q := 61) (v := 0) dX12_bracketOf_60 (by decide) ?_
    refine ex_istore (q := 63) (ls' := [.ref a_0, .int v_1, .int v_2, .int v_3, .int 0, .retAddr 0, .retAddr 0, .retAddr 0, .retAddr 0]) dX12_bracketOf_61 rfl ?_
    refine ex_iconst (q := 64) (v := 0) dX12_bracketOf_63 (by decide) ?_
    refine ex_istore (q := 66) (ls' := [.ref a_0, .int v_1, .int v_2, .int v_3, .int 0, .int 0, .retAddr 0, .retAddr 0, .retAddr 0]) dX12_bracketOf_64 rfl ?_
    exact w

set_option maxRecDepth 100000 in
theorem X12_bracketOf_66 {d bc bs : Nat} {h : AH} {Q : Option Value → AH → Prop} {a_0 : Nat} {v_1 : Int32} {v_2 : Int32} {v_3 : Int32} {v_4 : Int32} {v_5 : Int32} (w : ah_o h a_0 12 ∧ ∃ a2, ah_r h a_0 2 = some a2 ∧ ld0 h a2 v_1 ∧ (((ah_i h a2 (Int32.toNatClampNeg v_1)) ≤ v_5 → ex_S yX12_circlesOf mX12_circlesOf d [.ref a_0, .int v_1, .int v_3] h 0 0 (fun r h5 => ∃ x6, r = some (.int x6) ∧ ah_o h5 a_0 12 ∧ ∃ a8, ah_r h5 a_0 25 = some a8 ∧ ld2 h5 a8 ((30 * x6) + v_4) ∧ ∀ h10, h10 = ah_sl h5 a8 (Int32.toNatClampNeg ((30 * x6) + v_4)) ((ah_l h5 a8 (Int32.toNatClampNeg ((30 * x6) + v_4))) + 1) → ((x6 ≤ v_2 → ∀ x12, x12 = v_3 + 1 → ex_G mX12_bracketOf (d + 1) 48 [.ref a_0, .int v_1, .int v_2, .int x12, .retAddr 0, .retAddr 0, .retAddr 0, .retAddr 0, .retAddr 0] [] h10 bc bs Q) ∧ (¬ x6 ≤ v_2 → ∀ x13, x13 = v_3 + 1 → ex_G mX12_bracketOf (d + 1) 48 [.ref a_0, .int v_1, .int x6, .int x13, .retAddr 0, .retAddr 0, .retAddr 0, .retAddr 0, .retAddr 0] [] h10 bc bs Q)))) ∧ (¬ (ah_i h a2 (Int32.toNatClampNeg v_1)) ≤ v_5 → ∀ x14, x14 = v_4 + ((v_3 >>> (v_5 &&& (31 : Int32))) &&& 1) → ∀ x15, x15 = v_5 + 1 → ex_G mX12_bracketOf (d + 1) 66 [.ref a_0, .int v_1, .int v_2, .int v_3, .int x14, .int x15, .retAddr 0, .retAddr 0, .retAddr 0] [] h bc bs Q))) : ex_G mX12_bracketOf (d + 1) 66 [.ref a_0, .int v_1, .int v_2, .int v_3, .int v_4, .int v_5, .retAddr 0, .retAddr 0, .retAddr 0] [] h bc bs Q := by
  refine ex_iload (q := 68) (x := v_5) dX12_bracketOf_66 rfl ?_
  refine ex_aload_n (q := 69) (x := a_0) dX12_bracketOf_68 rfl ?_
  have s1 := w.1
  replace w := w.2
  obtain ⟨a2, ea2, w⟩ := w
  refine ex_getr (q := 72) dX12_bracketOf_69 fl_X12_13 s1 ea2 ?_
  refine ex_iload_n (q := 73) (x := v_1) dX12_bracketOf_72 rfl ?_
  have s3 := w.1
  replace w := w.2
  refine ex_iald (q := 74) dX12_bracketOf_73 s3 ?_
  refine ex_icmp_ge (tgt := 94) (q := 77) dX12_bracketOf_74 (fun c4 => ?_) (fun c4 => ?_)
  · replace w := w.1 c4
    refine ex_aload_n (q := 95) (x := a_0) dX12_bracketOf_94 rfl ?_
    refine ex_iload_n (q := 96) (x := v_1) dX12_bracketOf_95 rfl ?_
    refine ex_iload_n (q := 97) (x := v_3) dX12_bracketOf_96 rfl ?_
    refine ex_callV (q := 100) (M := mX12_bracketOf) (hdd := Nat.le_refl _) (c := 12) (st := []) (bc := bc) (bs := bs) dX12_bracketOf_97 rfl cl_X12_253 wd_1727 wd_64 s1 w ?_
    rintro r h5 ⟨x6, rfl, w⟩
    show ex_G mX12_bracketOf (d + 1) 100 [.ref a_0, .int v_1, .int v_2, .int v_3, .int v_4, .int v_5, .retAddr 0, .retAddr 0, .retAddr 0] [.int x6] h5 bc bs Q
    refine ex_istore (q := 102) (ls' := [.ref a_0, .int v_1, .int v_2, .int v_3, .int v_4, .int x6, .retAddr 0, .retAddr 0, .retAddr 0]) dX12_bracketOf_100 rfl ?_
    refine ex_aload_n (q := 103) (x := a_0) dX12_bracketOf_102 rfl ?_
    have s7 := w.1
    replace w := w.2
    obtain ⟨a8, ea8, w⟩ := w
    refine ex_getr (q := 106) dX12_bracketOf_103 fl_X12_77 s7 ea8 ?_
    refine ex_bipush (q := 108) (v := 30) dX12_bracketOf_106 (by decide) ?_
    refine ex_iload (q := 110) (x := x6) dX12_bracketOf_108 rfl ?_
    refine ex_imul (q := 111) dX12_bracketOf_110 ?_
    refine ex_iload (q := 113) (x := v_4) dX12_bracketOf_111 rfl ?_
    refine ex_iadd (q := 114) dX12_bracketOf_113 ?_
    refine ex_dup2 (q := 115) dX12_bracketOf_114 rfl rfl ?_
    have s9 := w.1
    replace w := w.2
    refine ex_lald (q := 116) dX12_bracketOf_115 s9 ?_
    refine ex_lconst (q := 117) (v := 1) dX12_bracketOf_116 (by decide) ?_
    refine ex_ladd (q := 118) dX12_bracketOf_117 ?_
    refine ex_last (q := 119) dX12_bracketOf_118 s9 ?_
    refine ex_nmh (fun h10 eh10 => ?_)
    replace w := w h10 eh10
    refine ex_iload (q := 121) (x := x6) dX12_bracketOf_119 rfl ?_
    refine ex_iload_n (q := 122) (x := v_2) dX12_bracketOf_121 rfl ?_
    refine ex_icmp_le (tgt := 130) (q := 125) dX12_bracketOf_122 (fun c11 => ?_) (fun c11 => ?_)
    · replace w := w.1 c11
      refine ex_iload_n (q := 131) (x := v_2) dX12_bracketOf_130 rfl ?_
      refine ex_istore_n (q := 132) (ls' := [.ref a_0, .int v_1, .int v_2, .int v_3, .int v_4, .int x6, .retAddr 0, .retAddr 0, .retAddr 0]) dX12_bracketOf_131 rfl ?_
      obtain ⟨x12, ex12⟩ : ∃ y : Int32, y = v_3 + 1 := ⟨_, rfl⟩
      replace w := w x12 ex12
      refine ex_iinc (q := 135) (x := v_3) (v := x12) (ls' := [.ref a_0, .int v_1, .int v_2, .int x12, .int v_4, .int x6, .retAddr 0, .retAddr 0, .retAddr 0]) dX12_bracketOf_132 rfl (by rw [ex12]; rfl) rfl ?_
      refine ex_goto (tgt := 48) dX12_bracketOf_135 ?_
      refine ex_kill 4 (ls' := [.ref a_0, .int v_1, .int v_2, .int x12, .retAddr 0, .int x6, .retAddr 0, .retAddr 0, .retAddr 0]) rfl ?_
      refine ex_kill 5 (ls' := [.ref a_0, .int v_1, .int v_2, .int x12, .retAddr 0, .retAddr 0, .retAddr 0, .retAddr 0, .retAddr 0]) rfl ?_
      exact w
    · replace w := w.2 c11
      refine ex_iload (q := 127) (x := x6) dX12_bracketOf_125 rfl ?_
      refine ex_goto (tgt := 131) dX12_bracketOf_127 ?_
      refine ex_istore_n (q := 132) (ls' := [.ref a_0, .int v_1, .int x6, .int v_3, .int v_4, .int x6, .retAddr 0, .retAddr 0, .retAddr 0]) dX12_bracketOf_131 rfl ?_
      obtain ⟨x13, ex13⟩ : ∃ y : Int32, y = v_3 + 1 := ⟨_, rfl⟩
      replace w := w x13 ex13
      refine ex_iinc (q := 135) (x := v_3) (v := x13) (ls' := [.ref a_0, .int v_1, .int x6, .int x13, .int v_4, .int x6, .retAddr 0, .retAddr 0, .retAddr 0]) dX12_bracketOf_132 rfl (by rw [ex13]; rfl) rfl ?_
      refine ex_goto (tgt := 48) dX12_bracketOf_135 ?_
      refine ex_kill 4 (ls' := [.ref a_0, .int v_1, .int x6, .int x13, .retAddr 0, .int x6, .retAddr 0, .retAddr 0, .retAddr 0]) rfl ?_
      refine ex_kill 5 (ls' := [.ref a_0, .int v_1, .int x6, .int x13, .retAddr 0, .retAddr 0, .retAddr 0, .retAddr 0, .retAddr 0]) rfl ?_
      exact w
  · replace w := w.2 c4
    refine ex_iload (q := 79) (x := v_4) dX12_bracketOf_77 rfl ?_
    refine ex_iload_n (q := 80) (x := v_3) dX12_bracketOf_79 rfl ?_
    refine ex_iload (q := 82) (x := v_5) dX12_bracketOf_80 rfl ?_
    refine ex_ishr (q := 83) dX12_bracketOf_82 ?_
    refine ex_iconst (q := 84) (v := 1) dX12_bracketOf_83 (by decide) ?_
    refine ex_iand (q := 85) dX12_bracketOf_84 ?_
    refine ex_iadd (q := 86) dX12_bracketOf_85 ?_
    refine ex_nmi (fun x14 ex14 => ?_)
    replace w := w x14 ex14
    refine ex_istore (q := 88) (ls' := [.ref a_0, .int v_1, .int v_2, .int v_3, .int x14, .int v_5, .retAddr 0, .retAddr 0, .retAddr 0]) dX12_bracketOf_86 rfl ?_
    obtain ⟨x15, ex15⟩ : ∃ y : Int32, y = v_5 + 1 := ⟨_, rfl⟩
    replace w := w x15 ex15
    refine ex_iinc (q := 91) (x := v_5) (v := x15) (ls' := [.ref a_0, .int v_1, .int v_2, .int v_3, .int x14, .int x15, .retAddr 0, .retAddr 0, .retAddr 0]) dX12_bracketOf_88 rfl (by rw [ex15]; rfl) rfl ?_
    refine ex_goto (tgt := 66) dX12_bracketOf_91 ?_
    exact w

set_option maxRecDepth 100000 in
theorem X12_bracketOf_140 {d bc bs : Nat} {h : AH} {Q : Option Value → AH → Prop} {a_0 : Nat} {v_1 : Int32} {v_2 : Int32} {v_3 : Int32} (w : ((601 ≤ v_3 → ex_G mX12_bracketOf (d + 1) 180 [.ref a_0, .int v_1, .int v_2, .int 1, .retAddr 0, .retAddr 0, .retAddr 0, .retAddr 0, .retAddr 0] [] h bc bs Q) ∧ (¬ 601 ≤ v_3 → ah_o h a_0 12 ∧ ∃ a3, ah_r h a_0 20 = some a3 ∧ ld2 h a3 v_3 ∧ ∀ h4, h4 = ah_sl h a3 (Int32.toNatClampNeg v_3) 0 → ∃ a6, ah_r h4 a_0 26 = some a6 ∧ ((¬ v_3 = 300 → ld2 h4 a6 v_3 ∧ ∀ h8, h8 = ah_sl h4 a6 (Int32.toNatClampNeg v_3) 0 → ∀ x10, x10 = v_3 + 1 → ex_G mX12_bracketOf (d + 1) 140 [.ref a_0, .int v_1, .int v_2, .int x10, .retAddr 0, .retAddr 0, .retAddr 0, .retAddr 0, .retAddr 0] [] h8 bc bs Q) ∧ (v_3 = 300 → ld2 h4 a6 v_3 ∧ ∀ h11, h11 = ah_sl h4 a6 (Int32.toNatClampNeg v_3) 1 → ∀ x13, x13 = v_3 + 1 → ex_G mX12_bracketOf (d + 1) 140 [.ref a_0, .int v_1, .int v_2, .int x13, .retAddr 0, .retAddr 0, .retAddr 0, .retAddr 0, .retAddr 0] [] h11 bc bs Q))))) : ex_G mX12_bracketOf (d + 1) 140 [.ref a_0, .int v_1, .int v_2, .int v_3, .retAddr 0, .retAddr 0, .retAddr 0, .retAddr 0, .retAddr 0] [] h bc bs Q := by
  refine ex_iload_n (q := 141) (x := v_3) dX12_bracketOf_140 rfl ?_
  refine ex_sipush (q := 144) (v := 601) dX12_bracketOf_141 (by decide) ?_
  refine ex_icmp_ge (tgt := 178) (q := 147) dX12_bracketOf_144 (fun c1 => ?_) (fun c1 => ?_)
  · replace w := w.1 c1
    refine ex_iconst (q := 179) (v := 1) dX12_bracketOf_178 (by decide) ?_
    refine ex_istore_n (q := 180) (ls' := [.ref a_0, .int v_1, .int v_2, .int 1, .retAddr 0, .retAddr 0, .retAddr 0, .retAddr 0, .retAddr 0]) dX12_bracketOf_179 rfl ?_
    exact w
  · replace w := w.2 c1
    refine ex_aload_n (q := 148) (x := a_0) dX12_bracketOf_147 rfl ?_
    have s2 := w.1
    replace w := w.2
    obtain ⟨a3, ea3, w⟩ := w
    refine ex_getr (q := 151) dX12_bracketOf_148 fl_X12_67 s2 ea3 ?_
    refine ex_iload_n (q := 152) (x := v_3) dX12_bracketOf_151 rfl ?_
    refine ex_lconst (q := 153) (v := 0) dX12_bracketOf_152 (by decide) ?_
    have s5 := w.1
    replace w := w.2
    refine ex_last (q := 154) dX12_bracketOf_153 s5 ?_
    refine ex_nmh (fun h4 eh4 => ?_)
    replace w := w h4 eh4
    refine ex_aload_n (q := 155) (x := a_0) dX12_bracketOf_154 rfl ?_
    obtain ⟨a6, ea6, w⟩ := w
    refine ex_getr (q := 158) dX12_bracketOf_155 fl_X12_80 (by rw [eh4]; exact s2) ea6 ?_
    refine ex_iload_n (q := 159) (x := v_3) dX12_bracketOf_158 rfl ?_
    refine ex_iload_n (q := 160) (x := v_3) dX12_bracketOf_159 rfl ?_
    refine ex_sipush (q := 163) (v := 300) dX12_bracketOf_160 (by decide) ?_
    refine ex_icmp_ne (tgt := 170) (q := 166) dX12_bracketOf_163 (fun c7 => ?_) (fun c7 => ?_)
    · replace w := w.1 c7
      refine ex_lconst (q := 171) (v := 0) dX12_bracketOf_170 (by decide) ?_
      have s9 := w.1
      replace w := w.2
      refine ex_last (q := 172) dX12_bracketOf_171 s9 ?_
      refine ex_nmh (fun h8 eh8 => ?_)
      replace w := w h8 eh8
      obtain ⟨x10, ex10⟩ : ∃ y : Int32, y = v_3 + 1 := ⟨_, rfl⟩
      replace w := w x10 ex10
      refine ex_iinc (q := 175) (x := v_3) (v := x10) (ls' := [.ref a_0, .int v_1, .int v_2, .int x10, .retAddr 0, .retAddr 0, .retAddr 0, .retAddr 0, .retAddr 0]) dX12_bracketOf_172 rfl (by rw [ex10]; rfl) rfl ?_
      refine ex_goto (tgt := 140) dX12_bracketOf_175 ?_
      exact w
    · replace w := w.2 c7
      refine ex_lconst (q := 167) (v := 1) dX12_bracketOf_166 (by decide) ?_
      refine ex_goto (tgt := 171) dX12_bracketOf_167 ?_
      have s12 := w.1
      replace w := w.2
      refine ex_last (q := 172) dX12_bracketOf_171 s12 ?_
      refine ex_nmh (fun h11 eh11 => ?_)
      replace w := w h11 eh11
      obtain ⟨x13, ex13⟩ : ∃ y : Int32, y = v_3 + 1 := ⟨_, rfl⟩
      replace w := w x13 ex13
      refine ex_iinc (q := 175) (x := v_3) (v := x13) (ls' := [.ref a_0, .int v_1, .int v_2, .int x13, .retAddr 0, .retAddr 0, .retAddr 0, .retAddr 0, .retAddr 0]) dX12_bracketOf_172 rfl (by rw [ex13]; rfl) rfl ?_
      refine ex_goto (tgt := 140) dX12_bracketOf_175 ?_
      exact w

set_option maxRecDepth 100000 in
theorem X12_bracketOf_180 {d bc bs : Nat} {h : AH} {Q : Option Value → AH → Prop} {a_0 : Nat} {v_1 : Int32} {v_2 : Int32} {v_3 : Int32} (w : ((v_2 < v_3 → Q none h) ∧ (¬ v_2 < v_3 → ex_G mX12_bracketOf (d + 1) 188 [.ref a_0, .int v_1, .int v_2, .int v_3, .int 0, .retAddr 0, .retAddr 0, .retAddr 0, .retAddr 0] [] h bc bs Q))) : ex_G mX12_bracketOf (d + 1) 180 [.ref a_0, .int v_1, .int v_2, .int v_3, .retAddr 0, .retAddr 0, .retAddr 0, .retAddr 0, .retAddr 0] [] h bc bs Q := by
  refine ex_iload_n (q := 181) (x := v_3) dX12_bracketOf_180 rfl ?_
  refine ex_iload_n (q := 182) (x := v_2) dX12_bracketOf_181 rfl ?_
  refine ex_icmp_gt (tgt := 301) (q := 185) dX12_bracketOf_182 (fun c1 => ?_) (fun c1 => ?_)
  · replace w := w.1 c1
    exact ex_return dX12_bracketOf_301 w
  · replace w := w.2 c1
    refine ex_iconst (q := 186) (v := 0) dX12_bracketOf_185 (by decide) ?_
    refine ex_istore (q := 188) (ls' := [.ref a_0, .int v_1, .int v_2, .int v_3, .int 0, .retAddr 0, .retAddr 0, .retAddr 0, .retAddr 0]) dX12_bracketOf_186 rfl ?_
    exact w

set_option maxRecDepth 100000 in
theorem X12_bracketOf_188 {d bc bs : Nat} {h : AH} {Q : Option Value → AH → Prop} {a_0 : Nat} {v_1 : Int32} {v_2 : Int32} {v_3 : Int32} {v_4 : Int32} (w : ah_o h a_0 12 ∧ ∃ a2, ah_r h a_0 2 = some a2 ∧ ld0 h a2 v_1 ∧ (((ah_i h a2 (Int32.toNatClampNeg v_1)) < v_4 → ex_S yX12_timesCircle mX12_timesCircle d [.ref a_0] h 0 0 (fun r h5 => r = none ∧ ∀ x6, x6 = v_3 + 1 → ex_G mX12_bracketOf (d + 1) 180 [.ref a_0, .int v_1, .int v_2, .int x6, .retAddr 0, .retAddr 0, .retAddr 0, .retAddr 0, .retAddr 0] [] h5 bc bs Q)) ∧ (¬ (ah_i h a2 (Int32.toNatClampNeg v_1)) < v_4 → ∃ a7, ah_r h a_0 25 = some a7 ∧ ld2 h a7 ((30 * v_3) + v_4) ∧ ∀ x9, x9 = ah_l h a7 (Int32.toNatClampNeg ((30 * v_3) + v_4)) → ∀ x10, x10 = (ah_i h a2 (Int32.toNatClampNeg v_1)) - (2 * v_4) → ex_G mX12_bracketOf (d + 1) 229 [.ref a_0, .int v_1, .int v_2, .int v_3, .int v_4, .long x9, .retAddr 0, .int x10, .int 0] [] h bc bs Q))) : ex_G mX12_bracketOf (d + 1) 188 [.ref a_0, .int v_1, .int v_2, .int v_3, .int v_4, .retAddr 0, .retAddr 0, .retAddr 0, .retAddr 0] [] h bc bs Q := by
  refine ex_iload (q := 190) (x := v_4) dX12_bracketOf_188 rfl ?_
  refine ex_aload_n (q := 191) (x := a_0) dX12_bracketOf_190 rfl ?_
  have s1 := w.1
  replace w := w.2
  obtain ⟨a2, ea2, w⟩ := w
  refine ex_getr (q := 194) dX12_bracketOf_191 fl_X12_13 s1 ea2 ?_
  refine ex_iload_n (q := 195) (x := v_1) dX12_bracketOf_194 rfl ?_
  have s3 := w.1
  replace w := w.2
  refine ex_iald (q := 196) dX12_bracketOf_195 s3 ?_
  refine ex_icmp_gt (tgt := 291) (q := 199) dX12_bracketOf_196 (fun c4 => ?_) (fun c4 => ?_)
  · replace w := w.1 c4
    refine ex_aload_n (q := 292) (x := a_0) dX12_bracketOf_291 rfl ?_
    refine ex_callV (q := 295) (M := mX12_bracketOf) (hdd := Nat.le_refl _) (c := 12) (st := []) (bc := bc) (bs := bs) dX12_bracketOf_292 rfl cl_X12_256 wd_1731 wd_65 s1 w ?_
    rintro r h5 ⟨rfl, w⟩
    show ex_G mX12_bracketOf (d + 1) 295 [.ref a_0, .int v_1, .int v_2, .int v_3, .int v_4, .retAddr 0, .retAddr 0, .retAddr 0, .retAddr 0] [] h5 bc bs Q
    obtain ⟨x6, ex6⟩ : ∃ y : Int32, y = v_3 + 1 := ⟨_, rfl⟩
    replace w := w x6 ex6
    refine ex_iinc (q := 298) (x := v_3) (v := x6) (ls' := [.ref a_0, .int v_1, .int v_2, .int x6, .int v_4, .retAddr 0, .retAddr 0, .retAddr 0, .retAddr 0]) dX12_bracketOf_295 rfl (by rw [ex6]; rfl) rfl ?_
    refine ex_goto (tgt := 180) dX12_bracketOf_298 ?_
    refine ex_kill 4 (ls' := [.ref a_0, .int v_1, .int v_2, .int x6, .retAddr 0, .retAddr 0, .retAddr 0, .retAddr 0, .retAddr 0]) rfl ?_
    exact w
  · replace w := w.2 c4
    refine ex_aload_n (q := 200) (x := a_0) dX12_bracketOf_199 rfl ?_
    obtain ⟨a7, ea7, w⟩ := w
    refine ex_getr (q := 203) dX12_bracketOf_200 fl_X12_77 s1 ea7 ?_
    refine ex_bipush (q := 205) (v := 30) dX12_bracketOf_203 (by decide) ?_
    refine ex_iload_n (q := 206) (x := v_3) dX12_bracketOf_205 rfl ?_
    refine ex_imul (q := 207) dX12_bracketOf_206 ?_
    refine ex_iload (q := 209) (x := v_4) dX12_bracketOf_207 rfl ?_
    refine ex_iadd (q := 210) dX12_bracketOf_209 ?_
    have s8 := w.1
    replace w := w.2
    refine ex_lald (q := 211) dX12_bracketOf_210 s8 ?_
    refine ex_nml (fun x9 ex9 => ?_)
    replace w := w x9 ex9
    refine ex_lstore (q := 213) (ls' := [.ref a_0, .int v_1, .int v_2, .int v_3, .int v_4, .long x9, .retAddr 0, .retAddr 0, .retAddr 0]) dX12_bracketOf_211 rfl ?_
    refine ex_aload_n (q := 214) (x := a_0) dX12_bracketOf_213 rfl ?_
    refine ex_getr (q := 217) dX12_bracketOf_214 fl_X12_13 s1 ea2 ?_
    refine ex_iload_n (q := 218) (x := v_1) dX12_bracketOf_217 rfl ?_
    refine ex_iald (q := 219) dX12_bracketOf_218 s3 ?_
    refine ex_iconst (q := 220) (v := 2) dX12_bracketOf_219 (by decide) ?_
    refine ex_iload (q := 222) (x := v_4) dX12_bracketOf_220 rfl ?_
    refine ex_imul (q := 223) dX12_bracketOf_222 ?_
    refine ex_isub (q := 224) dX12_bracketOf_223 ?_
    refine ex_nmi (fun x10 ex10 => ?_)
    replace w := w x10 ex10
    refine ex_istore (q := 226) (ls' := [.ref a_0, .int v_1, .int v_2, .int v_3, .int v_4, .long x9, .retAddr 0, .int x10, .retAddr 0]) dX12_bracketOf_224 rfl ?_
    refine ex_iconst (q := 227) (v := 0) dX12_bracketOf_226 (by decide) ?_
    refine ex_istore (q := 229) (ls' := [.ref a_0, .int v_1, .int v_2, .int v_3, .int v_4, .long x9, .retAddr 0, .int x10, .int 0]) dX12_bracketOf_227 rfl ?_
    exact w

set_option maxRecDepth 100000 in
theorem X12_bracketOf_229 {d bc bs : Nat} {h : AH} {Q : Option Value → AH → Prop} {a_0 : Nat} {v_1 : Int32} {v_2 : Int32} {v_3 : Int32} {v_4 : Int32} {v_5 : Int64} {v_7 : Int32} {v_8 : Int32} (w : ((601 ≤ v_8 → ∀ x2, x2 = v_4 + 1 → ex_G mX12_bracketOf (d + 1) 188 [.ref a_0, .int v_1, .int v_2, .int v_3, .int x2, .retAddr 0, .retAddr 0, .retAddr 0, .retAddr 0] [] h bc bs Q) ∧ (¬ 601 ≤ v_8 → (((lg_cmp v_5 0) = 0 → ∀ x4, x4 = v_4 + 1 → ex_G mX12_bracketOf (d + 1) 188 [.ref a_0, .int v_1, .int v_2, .int v_3, .int x4, .retAddr 0, .retAddr 0, .retAddr 0, .retAddr 0] [] h bc bs Q) ∧ (¬ (lg_cmp v_5 0) = 0 → ah_o h a_0 12 ∧ ∃ a6, ah_r h a_0 26 = some a6 ∧ ld2 h a6 v_8 ∧ (((lg_cmp (ah_l h a6 (Int32.toNatClampNeg v_8)) 0) = 0 → ∀ x9, x9 = v_8 + 1 → ex_G mX12_bracketOf (d + 1) 229 [.ref a_0, .int v_1, .int v_2, .int v_3, .int v_4, .long v_5, .retAddr 0, .int v_7, .int x9] [] h bc bs Q) ∧ (¬ (lg_cmp (ah_l h a6 (Int32.toNatClampNeg v_8)) 0) = 0 → ∃ a10, ah_r h a_0 20 = some a10 ∧ ld2 h a10 (v_8 + v_7) ∧ ∀ h12, h12 = ah_sl h a10 (Int32.toNatClampNeg (v_8 + v_7)) ((ah_l h a10 (Int32.toNatClampNeg (v_8 + v_7))) + (v_5 * (ah_l h a6 (Int32.toNatClampNeg v_8)))) → ∀ x13, x13 = v_8 + 1 → ex_G mX12_bracketOf (d + 1) 229 [.ref a_0, .int v_1, .int v_2, .int v_3, .int v_4, .long v_5, .retAddr 0, .int v_7, .int x13] [] h12 bc bs Q))))))) : ex_G mX12_bracketOf (d + 1) 229 [.ref a_0, .int v_1, .int v_2, .int v_3, .int v_4, .long v_5, .retAddr 0, .int v_7, .int v_8] [] h bc bs Q := by
  refine ex_iload (q := 231) (x := v_8) dX12_bracketOf_229 rfl ?_
  refine ex_sipush (q := 234) (v := 601) dX12_bracketOf_231 (by decide) ?_
  refine ex_icmp_ge (tgt := 285) (q := 237) dX12_bracketOf_234 (fun c1 => ?_) (fun c1 => ?_)
  · replace w := w.1 c1
    obtain ⟨x2, ex2⟩ : ∃ y : Int32, y = v_4 + 1 := ⟨_, rfl⟩
    replace w := w x2 ex2
    refine ex_iinc (q := 288) (x := v_4) (v := x2) (ls' := [.ref a_0, .int v_1, .int v_2, .int v_3, .int x2, .long v_5, .retAddr 0, .int v_7, .int v_8]) dX12_bracketOf_285 rfl (by rw [ex2]; rfl) rfl ?_
    refine ex_goto (tgt := 188) dX12_bracketOf_288 ?_
    refine ex_kill 5 (ls' := [.ref a_0, .int v_1, .int v_2, .int v_3, .int x2, .retAddr 0, .retAddr 0, .int v_7, .int v_8]) rfl ?_
    refine ex_kill 7 (ls' := [.ref a_0, .int v_1, .int v_2, .int v_3, .int x2, .retAddr 0, .retAddr 0, .retAddr 0, .int v_8]) rfl ?_
    refine ex_kill 8 (ls' := [.ref a_0, .int v_1, .int v_2, .int v_3, .int x2, .retAddr 0, .retAddr 0, .retAddr 0, .retAddr 0]) rfl ?_
    exact w
  · replace w := w.2 c1
    refine ex_lload (q := 239) (x := v_5) dX12_bracketOf_237 rfl ?_
    refine ex_lconst (q := 240) (v := 0) dX12_bracketOf_239 (by decide) ?_
    refine ex_lcmp (q := 241) dX12_bracketOf_240 ?_
    refine ex_if_eq (tgt := 285) (q := 244) dX12_bracketOf_241 (fun c3 => ?_) (fun c3 => ?_)
    · replace w := w.1 c3
      obtain ⟨x4, ex4⟩ : ∃ y : Int32, y = v_4 + 1 := ⟨_, rfl⟩
      replace w := w x4 ex4
      refine ex_iinc (q := 288) (x := v_4) (v := x4) (ls' := [.ref a_0, .int v_1, .int v_2, .int v_3, .int x4, .long v_5, .retAddr 0, .int v_7, .int v_8]) dX12_bracketOf_285 rfl (by rw [ex4]; rfl) rfl ?_
      refine ex_goto (tgt := 188) dX12_bracketOf_288 ?_
      refine ex_kill 5 (ls' := [.ref a_0, .int v_1, .int v_2, .int v_3, .int x4, .retAddr 0, .retAddr 0, .int v_7, .int v_8]) rfl ?_
      refine ex_kill 7 (ls' := [.ref a_0, .int v_1, .int v_2, .int v_3, .int x4, .retAddr 0, .retAddr 0, .retAddr 0, .int v_8]) rfl ?_
      refine ex_kill 8 (ls' := [.ref a_0, .int v_1, .int v_2, .int v_3, .int x4, .retAddr 0, .retAddr 0, .retAddr 0, .retAddr 0]) rfl ?_
      exact w
    · replace w := w.2 c3
      refine ex_aload_n (q := 245) (x := a_0) dX12_bracketOf_244 rfl ?_
      have s5 := w.1
      replace w := w.2
      obtain ⟨a6, ea6, w⟩ := w
      refine ex_getr (q := 248) dX12_bracketOf_245 fl_X12_80 s5 ea6 ?_
      refine ex_iload (q := 250) (x := v_8) dX12_bracketOf_248 rfl ?_
      have s7 := w.1
      replace w := w.2
      refine ex_lald (q := 251) dX12_bracketOf_250 s7 ?_
      refine ex_lconst (q := 252) (v := 0) dX12_bracketOf_251 (by decide) ?_
      refine ex_lcmp (q := 253) dX12_bracketOf_252 ?_
      refine ex_if_eq (tgt := 279) (q := 256) dX12_bracketOf_253 (fun c8 => ?_) (fun c8 => ?_)
      · replace w := w.1 c8
        obtain ⟨x9, ex9⟩ : ∃ y : Int32, y = v_8 + 1 := ⟨_, rfl⟩
        replace w := w x9 ex9
        refine ex_iinc (q := 282) (x := v_8) (v := x9) (ls' := [.ref a_0, .int v_1, .int v_2, .int v_3, .int v_4, .long v_5, .retAddr 0, .int v_7, .int x9]) dX12_bracketOf_279 rfl (by rw [ex9]; rfl) rfl ?_
        refine ex_goto (tgt := 229) dX12_bracketOf_282 ?_
        exact w
      · replace w := w.2 c8
        refine ex_aload_n (q := 257) (x := a_0) dX12_bracketOf_256 rfl ?_
        obtain ⟨a10, ea10, w⟩ := w
        refine ex_getr (q := 260) dX12_bracketOf_257 fl_X12_67 s5 ea10 ?_
        refine ex_iload (q := 262) (x := v_8) dX12_bracketOf_260 rfl ?_
        refine ex_iload (q := 264) (x := v_7) dX12_bracketOf_262 rfl ?_
        refine ex_iadd (q := 265) dX12_bracketOf_264 ?_
        refine ex_dup2 (q := 266) dX12_bracketOf_265 rfl rfl ?_
        have s11 := w.1
        replace w := w.2
        refine ex_lald (q := 267) dX12_bracketOf_266 s11 ?_
        refine ex_lload (q := 269) (x := v_5) dX12_bracketOf_267 rfl ?_
        refine ex_aload_n (q := 270) (x := a_0) dX12_bracketOf_269 rfl ?_
        refine ex_getr (q := 273) dX12_bracketOf_270 fl_X12_80 s5 ea6 ?_
        refine ex_iload (q := 275) (x := v_8) dX12_bracketOf_273 rfl ?_
        refine ex_lald (q := 276) dX12_bracketOf_275 s7 ?_
        refine ex_lmul (q := 277) dX12_bracketOf_276 ?_
        refine ex_ladd (q := 278) dX12_bracketOf_277 ?_
        refine ex_last (q := 279) dX12_bracketOf_278 s11 ?_
        refine ex_nmh (fun h12 eh12 => ?_)
        replace w := w h12 eh12
        obtain ⟨x13, ex13⟩ : ∃ y : Int32, y = v_8 + 1 := ⟨_, rfl⟩
        replace w := w x13 ex13
        refine ex_iinc (q := 282) (x := v_8) (v := x13) (ls' := [.ref a_0, .int v_1, .int v_2, .int v_3, .int v_4, .long v_5, .retAddr 0, .int v_7, .int x13]) dX12_bracketOf_279 rfl (by rw [ex13]; rfl) rfl ?_
        refine ex_goto (tgt := 229) dX12_bracketOf_282 ?_
        exact w

theorem X12_bracketOf_e {d bc bs : Nat} {h : AH} {Q : Option Value → AH → Prop} {a_0 : Nat} {v_1 : Int32} (w : ex_G mX12_bracketOf (d + 1) 0 [.ref a_0, .int v_1, .retAddr 0, .retAddr 0, .retAddr 0, .retAddr 0, .retAddr 0, .retAddr 0, .retAddr 0] [] h bc bs Q) : ex_S yX12_bracketOf mX12_bracketOf (d + 1) [.ref a_0, .int v_1] h bc bs Q :=
  ex_enter (plainFor_of_name (by decide +kernel)) ⟨rfl, rfl⟩ rfl rfl (Nat.le_of_ble_eq_true rfl) (ex_pad 7 w)

set_option maxRecDepth 100000 in
theorem X12_timesCircle_0 {d bc bs : Nat} {h : AH} {Q : Option Value → AH → Prop} {a_0 : Nat} (w : ex_G mX12_timesCircle d 2 [.ref a_0, .int 0] [] h bc bs Q) : ex_G mX12_timesCircle d 0 [.ref a_0, .retAddr 0] [] h bc bs Q := by
  refine ex_iconst (q := 1) (v := 0) dX12_timesCircle_0 (by decide) ?_
  refine ex_istore_n (q := 2) (ls' := [.ref a_0, .int 0]) dX12_timesCircle_1 rfl ?_
  exact w

set_option maxRecDepth 100000 in
theorem X12_timesCircle_2 {d bc bs : Nat} {h : AH} {Q : Option Value → AH → Prop} {a_0 : Nat} {v_1 : Int32} (w : ((601 ≤ v_1 → ex_G mX12_timesCircle d 36 [.ref a_0, .int 2] [] h bc bs Q) ∧ (¬ 601 ≤ v_1 → ah_o h a_0 12 ∧ ∃ a3, ah_r h a_0 27 = some a3 ∧ ∃ a4, ah_r h a_0 26 = some a4 ∧ ld2 h a4 v_1 ∧ ld2 h a3 v_1 ∧ ∀ h6, h6 = ah_sl h a3 (Int32.toNatClampNeg v_1) (ah_l h a4 (Int32.toNatClampNeg v_1)) → ∀ h8, h8 = ah_sl h6 a4 (Int32.toNatClampNeg v_1) 0 → ∀ x9, x9 = v_1 + 1 → ex_G mX12_timesCircle d 2 [.ref a_0, .int x9] [] h8 bc bs Q))) : ex_G mX12_timesCircle d 2 [.ref a_0, .int v_1] [] h bc bs Q := by
  refine ex_iload_n (q := 3) (x := v_1) dX12_timesCircle_2 rfl ?_
  refine ex_sipush (q := 6) (v := 601) dX12_timesCircle_3 (by decide) ?_
  refine ex_icmp_ge (tgt := 34) (q := 9) dX12_timesCircle_6 (fun c1 => ?_) (fun c1 => ?_)
  · replace w := w.1 c1
    refine ex_iconst (q := 35) (v := 2) dX12_timesCircle_34 (by decide) ?_
    refine ex_istore_n (q := 36) (ls' := [.ref a_0, .int 2]) dX12_timesCircle_35 rfl ?_
    exact w
  · replace w := w.2 c1
    refine ex_aload_n (q := 10) (x := a_0) dX12_timesCircle_9 rfl ?_
    have s2 := w.1
    replace w := w.2
    obtain ⟨a3, ea3, w⟩ := w
    refine ex_getr (q := 13) dX12_timesCircle_10 fl_X12_83 s2 ea3 ?_
    refine ex_iload_n (q := 14) (x := v_1) dX12_timesCircle_13 rfl ?_
    refine ex_aload_n (q := 15) (x := a_0) dX12_timesCircle_14 rfl ?_
    obtain ⟨a4, ea4, w⟩ := w
    refine ex_getr (q := 18) dX12_timesCircle_15 fl_X12_80 s2 ea4 ?_
    refine ex_iload_n (q := 19) (x := v_1) dX12_timesCircle_18 rfl ?_
    have s5 := w.1
    replace w := w.2
    refine ex_lald (q := 20) dX12_timesCircle_19 s5 ?_
    have s7 := w.1
    replace w := w.2
    refine ex_last (q := 21) dX12_timesCircle_20 s7 ?_
    refine ex_nmh (fun h6 eh6 => ?_)
    replace w := w h6 eh6
    refine ex_aload_n (q := 22) (x := a_0) dX12_timesCircle_21 rfl ?_
    refine ex_getr (q := 25) dX12_timesCircle_22 fl_X12_80 (by rw [eh6]; exact s2) (by rw [eh6]; exact ea4) ?_
    refine ex_iload_n (q := 26) (x := v_1) dX12_timesCircle_25 rfl ?_
    refine ex_lconst (q := 27) (v := 0) dX12_timesCircle_26 (by decide) ?_
    refine ex_last (q := 28) dX12_timesCircle_27 (by rw [eh6]; exact s5) ?_
    refine ex_nmh (fun h8 eh8 => ?_)
    replace w := w h8 eh8
    obtain ⟨x9, ex9⟩ : ∃ y : Int32, y = v_1 + 1 := ⟨_, rfl⟩
    replace w := w x9 ex9
    refine ex_iinc (q := 31) (x := v_1) (v := x9) (ls' := [.ref a_0, .int x9]) dX12_timesCircle_28 rfl (by rw [ex9]; rfl) rfl ?_
    refine ex_goto (tgt := 2) dX12_timesCircle_31 ?_
    exact w

set_option maxRecDepth 100000 in
theorem X12_timesCircle_36 {d bc bs : Nat} {h : AH} {Q : Option Value → AH → Prop} {a_0 : Nat} {v_1 : Int32} (w : ((599 ≤ v_1 → Q none h) ∧ (¬ 599 ≤ v_1 → ah_o h a_0 12 ∧ ∃ a3, ah_r h a_0 26 = some a3 ∧ ld2 h a3 (v_1 + 2) ∧ ∃ a5, ah_r h a_0 27 = some a5 ∧ ld2 h a5 v_1 ∧ ∀ h7, h7 = ah_sl h a3 (Int32.toNatClampNeg (v_1 + 2)) ((ah_l h a3 (Int32.toNatClampNeg (v_1 + 2))) - (ah_l h a5 (Int32.toNatClampNeg v_1))) → ld2 h7 a3 (v_1 - 2) ∧ ∀ h9, h9 = ah_sl h7 a3 (Int32.toNatClampNeg (v_1 - 2)) ((ah_l h7 a3 (Int32.toNatClampNeg (v_1 - 2))) - (ah_l h7 a5 (Int32.toNatClampNeg v_1))) → ∀ x10, x10 = v_1 + 1 → ex_G mX12_timesCircle d 36 [.ref a_0, .int x10] [] h9 bc bs Q))) : ex_G mX12_timesCircle d 36 [.ref a_0, .int v_1] [] h bc bs Q := by
  refine ex_iload_n (q := 37) (x := v_1) dX12_timesCircle_36 rfl ?_
  refine ex_sipush (q := 40) (v := 599) dX12_timesCircle_37 (by decide) ?_
  refine ex_icmp_ge (tgt := 83) (q := 43) dX12_timesCircle_40 (fun c1 => ?_) (fun c1 => ?_)
  · replace w := w.1 c1
    exact ex_return dX12_timesCircle_83 w
  · replace w := w.2 c1
    refine ex_aload_n (q := 44) (x := a_0) dX12_timesCircle_43 rfl ?_
    have s2 := w.1
    replace w := w.2
    obtain ⟨a3, ea3, w⟩ := w
    refine ex_getr (q := 47) dX12_timesCircle_44 fl_X12_80 s2 ea3 ?_
    refine ex_iload_n (q := 48) (x := v_1) dX12_timesCircle_47 rfl ?_
    refine ex_iconst (q := 49) (v := 2) dX12_timesCircle_48 (by decide) ?_
    refine ex_iadd (q := 50) dX12_timesCircle_49 ?_
    refine ex_dup2 (q := 51) dX12_timesCircle_50 rfl rfl ?_
    have s4 := w.1
    replace w := w.2
    refine ex_lald (q := 52) dX12_timesCircle_51 s4 ?_
    refine ex_aload_n (q := 53) (x := a_0) dX12_timesCircle_52 rfl ?_
    obtain ⟨a5, ea5, w⟩ := w
    refine ex_getr (q := 56) dX12_timesCircle_53 fl_X12_83 s2 ea5 ?_
    refine ex_iload_n (q := 57) (x := v_1) dX12_timesCircle_56 rfl ?_
    have s6 := w.1
    replace w := w.2
    refine ex_lald (q := 58) dX12_timesCircle_57 s6 ?_
    refine ex_lsub (q := 59) dX12_timesCircle_58 ?_
    refine ex_last (q := 60) dX12_timesCircle_59 s4 ?_
    refine ex_nmh (fun h7 eh7 => ?_)
    replace w := w h7 eh7
    refine ex_aload_n (q := 61) (x := a_0) dX12_timesCircle_60 rfl ?_
    refine ex_getr (q := 64) dX12_timesCircle_61 fl_X12_80 (by rw [eh7]; exact s2) (by rw [eh7]; exact ea3) ?_
    refine ex_iload_n (q := 65) (x := v_1) dX12_timesCircle_64 rfl ?_
    refine ex_iconst (q := 66) (v := 2) dX12_timesCircle_65 (by decide) ?_
    refine ex_isub (q := 67) dX12_timesCircle_66 ?_
    refine ex_dup2 (q := 68) dX12_timesCircle_67 rfl rfl ?_
    have s8 := w.1
    replace w := w.2
    refine ex_lald (q := 69) dX12_timesCircle_68 s8 ?_
    refine ex_aload_n (q := 70) (x := a_0) dX12_timesCircle_69 rfl ?_
    refine ex_getr (q := 73) dX12_timesCircle_70 fl_X12_83 (by rw [eh7]; exact s2) (by rw [eh7]; exact ea5) ?_
    refine ex_iload_n (q := 74) (x := v_1) dX12_timesCircle_73 rfl ?_
    refine ex_lald (q := 75) dX12_timesCircle_74 (by rw [eh7]; exact s6) ?_
    refine ex_lsub (q := 76) dX12_timesCircle_75 ?_
    refine ex_last (q := 77) dX12_timesCircle_76 s8 ?_
    refine ex_nmh (fun h9 eh9 => ?_)
    replace w := w h9 eh9
    obtain ⟨x10, ex10⟩ : ∃ y : Int32, y = v_1 + 1 := ⟨_, rfl⟩
    replace w := w x10 ex10
    refine ex_iinc (q := 80) (x := v_1) (v := x10) (ls' := [.ref a_0, .int x10]) dX12_timesCircle_77 rfl (by rw [ex10]; rfl) rfl ?_
    refine ex_goto (tgt := 36) dX12_timesCircle_80 ?_
    exact w

theorem X12_timesCircle_e {d bc bs : Nat} {h : AH} {Q : Option Value → AH → Prop} {a_0 : Nat} (w : ex_G mX12_timesCircle d 0 [.ref a_0, .retAddr 0] [] h bc bs Q) : ex_S yX12_timesCircle mX12_timesCircle d [.ref a_0] h bc bs Q :=
  ex_enter (plainFor_of_name (by decide +kernel)) ⟨rfl, rfl⟩ rfl rfl (Nat.le_of_ble_eq_true rfl) (ex_pad 1 w)

set_option maxRecDepth 100000 in
theorem X12_polynomialOf_0 {d bc bs : Nat} {h : AH} {Q : Option Value → AH → Prop} {a_0 : Nat} {v_1 : Int32} (w : ah_o h a_0 12 ∧ ex_S yX12_link mX12_link (d + 2) [.ref a_0, .int v_1] h 0 0 (fun r h1 => r = none ∧ ah_o h1 a_0 12 ∧ ex_S yX12_writheOf mX12_writheOf (d + 2) [.ref a_0, .int v_1] h1 0 0 (fun r h3 => ∃ x5, r = some (.int x5) ∧ ah_o h3 a_0 12 ∧ ex_S yX12_bracketOf mX12_bracketOf (d + 2) [.ref a_0, .int v_1] h3 0 0 (fun r h6 => r = none ∧ ex_G mX12_polynomialOf (d + 3) 18 [.ref a_0, .retAddr 0, .int x5, .int 0] [] h6 bc bs Q)))) : ex_G mX12_polynomialOf (d + 3) 0 [.ref a_0, .int v_1, .retAddr 0, .retAddr 0] [] h bc bs Q := by
  refine ex_aload_n (q := 1) (x := a_0) dX12_polynomialOf_0 rfl ?_
  refine ex_iload_n (q := 2) (x := v_1) dX12_polynomialOf_1 rfl ?_
  have s2 := w.1
  replace w := w.2
  refine ex_callV (q := 5) (M := mX12_polynomialOf) (hdd := Nat.le_refl _) (c := 12) (st := []) (bc := bc) (bs := bs) dX12_polynomialOf_2 rfl cl_X12_216 wd_1647 wd_53 s2 w ?_
  rintro r h1 ⟨rfl, w⟩
  show ex_G mX12_polynomialOf (d + 3) 5 [.ref a_0, .int v_1, .retAddr 0, .retAddr 0] [] h1 bc bs Q
  refine ex_aload_n (q := 6) (x := a_0) dX12_polynomialOf_5 rfl ?_
  refine ex_iload_n (q := 7) (x := v_1) dX12_polynomialOf_6 rfl ?_
  have s4 := w.1
  replace w := w.2
  refine ex_callV (q := 10) (M := mX12_polynomialOf) (hdd := Nat.le_refl _) (c := 12) (st := []) (bc := bc) (bs := bs) dX12_polynomialOf_7 rfl cl_X12_240 wd_1683 wd_59 s4 w ?_
  rintro r h3 ⟨x5, rfl, w⟩
  show ex_G mX12_polynomialOf (d + 3) 10 [.ref a_0, .int v_1, .retAddr 0, .retAddr 0] [.int x5] h3 bc bs Q
  refine ex_istore_n (q := 11) (ls' := [.ref a_0, .int v_1, .int x5, .retAddr 0]) dX12_polynomialOf_10 rfl ?_
  refine ex_aload_n (q := 12) (x := a_0) dX12_polynomialOf_11 rfl ?_
  refine ex_iload_n (q := 13) (x := v_1) dX12_polynomialOf_12 rfl ?_
  have s7 := w.1
  replace w := w.2
  refine ex_callV (q := 16) (M := mX12_polynomialOf) (hdd := Nat.le_refl _) (c := 12) (st := []) (bc := bc) (bs := bs) dX12_polynomialOf_13 rfl cl_X12_259 wd_1723 wd_63 s7 w ?_
  rintro r h6 ⟨rfl, w⟩
  show ex_G mX12_polynomialOf (d + 3) 16 [.ref a_0, .int v_1, .int x5, .retAddr 0] [] h6 bc bs Q
  refine ex_iconst (q := 17) (v := 0) dX12_polynomialOf_16 (by decide) ?_
  refine ex_istore_n (q := 18) (ls' := [.ref a_0, .int v_1, .int x5, .int 0]) dX12_polynomialOf_17 rfl ?_
  refine ex_kill 1 (ls' := [.ref a_0, .retAddr 0, .int x5, .int 0]) rfl ?_
  exact w

set_option maxRecDepth 100000 in
theorem X12_polynomialOf_18 {d bc bs : Nat} {h : AH} {Q : Option Value → AH → Prop} {a_0 : Nat} {v_2 : Int32} {v_3 : Int32} (w : ((601 ≤ v_3 → ex_G mX12_polynomialOf (d + 3) 52 [.ref a_0, .retAddr 0, .int v_2, .int 0] [] h bc bs Q) ∧ (¬ 601 ≤ v_3 → ah_o h a_0 12 ∧ ∃ a3, ah_r h a_0 27 = some a3 ∧ ∃ a4, ah_r h a_0 20 = some a4 ∧ ld2 h a4 v_3 ∧ ld2 h a3 v_3 ∧ ∀ h6, h6 = ah_sl h a3 (Int32.toNatClampNeg v_3) (ah_l h a4 (Int32.toNatClampNeg v_3)) → ∀ h8, h8 = ah_sl h6 a4 (Int32.toNatClampNeg v_3) 0 → ∀ x9, x9 = v_3 + 1 → ex_G mX12_polynomialOf (d + 3) 18 [.ref a_0, .retAddr 0, .int v_2, .int x9] [] h8 bc bs Q))) : ex_G mX12_polynomialOf (d + 3) 18 [.ref a_0, .retAddr 0, .int v_2, .int v_3] [] h bc bs Q := by
  refine ex_iload_n (q := 19) (x := v_3) dX12_polynomialOf_18 rfl ?_
  refine ex_sipush (q := 22) (v := 601) dX12_polynomialOf_19 (by decide) ?_
  refine ex_icmp_ge (tgt := 50) (q := 25) dX12_polynomialOf_22 (fun c1 => ?_) (fun c1 => ?_)
  · replace w := w.1 c1
    refine ex_iconst (q := 51) (v := 0) dX12_polynomialOf_50 (by decide) ?_
    refine ex_istore_n (q := 52) (ls' := [.ref a_0, .retAddr 0, .int v_2, .int 0]) dX12_polynomialOf_51 rfl ?_
    exact w
  · replace w := w.2 c1
    refine ex_aload_n (q := 26) (x := a_0) dX12_polynomialOf_25 rfl ?_
    have s2 := w.1
    replace w := w.2
    obtain ⟨a3, ea3, w⟩ := w
    refine ex_getr (q := 29) dX12_polynomialOf_26 fl_X12_83 s2 ea3 ?_
    refine ex_iload_n (q := 30) (x := v_3) dX12_polynomialOf_29 rfl ?_
    refine ex_aload_n (q := 31) (x := a_0) dX12_polynomialOf_30 rfl ?_
    obtain ⟨a4, ea4, w⟩ := w
    refine ex_getr (q := 34) dX12_polynomialOf_31 fl_X12_67 s2 ea4 ?_
    refine ex_iload_n (q := 35) (x := v_3) dX12_polynomialOf_34 rfl ?_
    have s5 := w.1
    replace w := w.2
    refine ex_lald (q := 36) dX12_polynomialOf_35 s5 ?_
    have s7 := w.1
    replace w := w.2
    refine ex_last (q := 37) dX12_polynomialOf_36 s7 ?_
    refine ex_nmh (fun h6 eh6 => ?_)
    replace w := w h6 eh6
    refine ex_aload_n (q := 38) (x := a_0) dX12_polynomialOf_37 rfl ?_
    refine ex_getr (q := 41) dX12_polynomialOf_38 fl_X12_67 (by rw [eh6]; exact s2) (by rw [eh6]; exact ea4) ?_
    refine ex_iload_n (q := 42) (x := v_3) dX12_polynomialOf_41 rfl ?_
    refine ex_lconst (q := 43) (v := 0) dX12_polynomialOf_42 (by decide) ?_
    refine ex_last (q := 44) dX12_polynomialOf_43 (by rw [eh6]; exact s5) ?_
    refine ex_nmh (fun h8 eh8 => ?_)
    replace w := w h8 eh8
    obtain ⟨x9, ex9⟩ : ∃ y : Int32, y = v_3 + 1 := ⟨_, rfl⟩
    replace w := w x9 ex9
    refine ex_iinc (q := 47) (x := v_3) (v := x9) (ls' := [.ref a_0, .retAddr 0, .int v_2, .int x9]) dX12_polynomialOf_44 rfl (by rw [ex9]; rfl) rfl ?_
    refine ex_goto (tgt := 18) dX12_polynomialOf_47 ?_
    exact w

set_option maxRecDepth 100000 in
theorem X12_polynomialOf_52 {d bc bs : Nat} {h : AH} {Q : Option Value → AH → Prop} {a_0 : Nat} {v_2 : Int32} {v_3 : Int32} (w : ((601 ≤ v_3 → Q none h) ∧ (¬ 601 ≤ v_3 → ah_o h a_0 12 ∧ ∃ a3, ah_r h a_0 27 = some a3 ∧ ld2 h a3 v_3 ∧ (((lg_cmp (ah_l h a3 (Int32.toNatClampNeg v_3)) 0) = 0 → ∀ x6, x6 = v_3 + 1 → ex_G mX12_polynomialOf (d + 3) 52 [.ref a_0, .retAddr 0, .int v_2, .int x6] [] h bc bs Q) ∧ (¬ (lg_cmp (ah_l h a3 (Int32.toNatClampNeg v_3)) 0) = 0 → ∃ a7, ah_r h a_0 20 = some a7 ∧ ((¬ (im_ v_2 2) = 0 → ld2 h a7 (v_3 - (3 * v_2)) ∧ ∀ h9, h9 = ah_sl h a7 (Int32.toNatClampNeg (v_3 - (3 * v_2))) (-(ah_l h a3 (Int32.toNatClampNeg v_3))) → ∀ x11, x11 = v_3 + 1 → ex_G mX12_polynomialOf (d + 3) 52 [.ref a_0, .retAddr 0, .int v_2, .int x11] [] h9 bc bs Q) ∧ ((im_ v_2 2) = 0 → ld2 h a7 (v_3 - (3 * v_2)) ∧ ∀ h12, h12 = ah_sl h a7 (Int32.toNatClampNeg (v_3 - (3 * v_2))) (ah_l h a3 (Int32.toNatClampNeg v_3)) → ∀ x14, x14 = v_3 + 1 → ex_G mX12_polynomialOf (d + 3) 52 [.ref a_0, .retAddr 0, .int v_2, .int x14] [] h12 bc bs Q))))))) : ex_G mX12_polynomialOf (d + 3) 52 [.ref a_0, .retAddr 0, .int v_2, .int v_3] [] h bc bs Q := by
  refine ex_iload_n (q := 53) (x := v_3) dX12_polynomialOf_52 rfl ?_
  refine ex_sipush (q := 56) (v := 601) dX12_polynomialOf_53 (by decide) ?_
  refine ex_icmp_ge (tgt := 108) (q := 59) dX12_polynomialOf_56 (fun c1 => ?_) (fun c1 => ?_)
  · replace w := w.1 c1
    exact ex_return dX12_polynomialOf_108 w
  · replace w := w.2 c1
    refine ex_aload_n (q := 60) (x := a_0) dX12_polynomialOf_59 rfl ?_
    have s2 := w.1
    replace w := w.2
    obtain ⟨a3, ea3, w⟩ := w
    refine ex_getr (q := 63) dX12_polynomialOf_60 fl_X12_83 s2 ea3 ?_
    refine ex_iload_n (q := 64) (x := v_3) dX12_polynomialOf_63 rfl ?_
    have s4 := w.1
    replace w := w.2
    refine ex_lald (q := 65) dX12_polynomialOf_64 s4 ?_
    refine ex_lconst (q := 66) (v := 0) dX12_polynomialOf_65 (by decide) ?_
    refine ex_lcmp (q := 67) dX12_polynomialOf_66 ?_
    refine ex_if_eq (tgt := 102) (q := 70) dX12_polynomialOf_67 (fun c5 => ?_) (fun c5 => ?_)
    · replace w := w.1 c5
      obtain ⟨x6, ex6⟩ : ∃ y : Int32, y = v_3 + 1 := ⟨_, rfl⟩
      replace w := w x6 ex6
      refine ex_iinc (q := 105) (x := v_3) (v := x6) (ls' := [.ref a_0, .retAddr 0, .int v_2, .int x6]) dX12_polynomialOf_102 rfl (by rw [ex6]; rfl) rfl ?_
      refine ex_goto (tgt := 52) dX12_polynomialOf_105 ?_
      exact w
    · replace w := w.2 c5
      refine ex_aload_n (q := 71) (x := a_0) dX12_polynomialOf_70 rfl ?_
      obtain ⟨a7, ea7, w⟩ := w
      refine ex_getr (q := 74) dX12_polynomialOf_71 fl_X12_67 s2 ea7 ?_
      refine ex_iload_n (q := 75) (x := v_3) dX12_polynomialOf_74 rfl ?_
      refine ex_iconst (q := 76) (v := 3) dX12_polynomialOf_75 (by decide) ?_
      refine ex_iload_n (q := 77) (x := v_2) dX12_polynomialOf_76 rfl ?_
      refine ex_imul (q := 78) dX12_polynomialOf_77 ?_
      refine ex_isub (q := 79) dX12_polynomialOf_78 ?_
      refine ex_iload_n (q := 80) (x := v_2) dX12_polynomialOf_79 rfl ?_
      refine ex_iconst (q := 81) (v := 2) dX12_polynomialOf_80 (by decide) ?_
      refine ex_irem (q := 82) dX12_polynomialOf_81 (by decide) ?_
      refine ex_if_ne (tgt := 94) (q := 85) dX12_polynomialOf_82 (fun c8 => ?_) (fun c8 => ?_)
      · replace w := w.1 c8
        refine ex_aload_n (q := 95) (x := a_0) dX12_polynomialOf_94 rfl ?_
        refine ex_getr (q := 98) dX12_polynomialOf_95 fl_X12_83 s2 ea3 ?_
        refine ex_iload_n (q := 99) (x := v_3) dX12_polynomialOf_98 rfl ?_
        refine ex_lald (q := 100) dX12_polynomialOf_99 s4 ?_
        refine ex_lneg (q := 101) dX12_polynomialOf_100 ?_
        have s10 := w.1
        replace w := w.2
        refine ex_last (q := 102) dX12_polynomialOf_101 s10 ?_
        refine ex_nmh (fun h9 eh9 => ?_)
        replace w := w h9 eh9
        obtain ⟨x11, ex11⟩ : ∃ y : Int32, y = v_3 + 1 := ⟨_, rfl⟩
        replace w := w x11 ex11
        refine ex_iinc (q := 105) (x := v_3) (v := x11) (ls' := [.ref a_0, .retAddr 0, .int v_2, .int x11]) dX12_polynomialOf_102 rfl (by rw [ex11]; rfl) rfl ?_
        refine ex_goto (tgt := 52) dX12_polynomialOf_105 ?_
        exact w
      · replace w := w.2 c8
        refine ex_aload_n (q := 86) (x := a_0) dX12_polynomialOf_85 rfl ?_
        refine ex_getr (q := 89) dX12_polynomialOf_86 fl_X12_83 s2 ea3 ?_
        refine ex_iload_n (q := 90) (x := v_3) dX12_polynomialOf_89 rfl ?_
        refine ex_lald (q := 91) dX12_polynomialOf_90 s4 ?_
        refine ex_goto (tgt := 101) dX12_polynomialOf_91 ?_
        have s13 := w.1
        replace w := w.2
        refine ex_last (q := 102) dX12_polynomialOf_101 s13 ?_
        refine ex_nmh (fun h12 eh12 => ?_)
        replace w := w h12 eh12
        obtain ⟨x14, ex14⟩ : ∃ y : Int32, y = v_3 + 1 := ⟨_, rfl⟩
        replace w := w x14 ex14
        refine ex_iinc (q := 105) (x := v_3) (v := x14) (ls' := [.ref a_0, .retAddr 0, .int v_2, .int x14]) dX12_polynomialOf_102 rfl (by rw [ex14]; rfl) rfl ?_
        refine ex_goto (tgt := 52) dX12_polynomialOf_105 ?_
        exact w

theorem X12_polynomialOf_e {d bc bs : Nat} {h : AH} {Q : Option Value → AH → Prop} {a_0 : Nat} {v_1 : Int32} (w : ex_G mX12_polynomialOf (d + 3) 0 [.ref a_0, .int v_1, .retAddr 0, .retAddr 0] [] h bc bs Q) : ex_S yX12_polynomialOf mX12_polynomialOf (d + 3) [.ref a_0, .int v_1] h bc bs Q :=
  ex_enter (plainFor_of_name (by decide +kernel)) ⟨rfl, rfl⟩ rfl rfl (Nat.le_of_ble_eq_true rfl) (ex_pad 2 w)

set_option maxRecDepth 100000 in
theorem X12_spends_0 {d bc bs : Nat} {h : AH} {Q : Option Value → AH → Prop} {a_0 : Nat} {v_1 : Int32} {v_2 : Int32} (w : ah_o h a_0 12 ∧ ex_S yX12_refusal mX12_refusal (d + 4) [.ref a_0, .int v_1] h 0 0 (fun r h1 => ∃ x3, r = some (.int x3) ∧ ((0 ≤ x3 → ah_o h1 a_0 12 ∧ ∃ a6, ah_r h1 a_0 2 = some a6 ∧ ld0 h1 a6 v_1 ∧ ((¬ (ah_i h1 a6 (Int32.toNatClampNeg v_1)) = 0 → ex_G mX12_spends (d + 5) 39 [.ref a_0, .int v_1, .int v_2, .retAddr 0] [] h1 bc bs Q) ∧ ((ah_i h1 a6 (Int32.toNatClampNeg v_1)) = 0 → ∃ a9, ah_r h1 a_0 3 = some a9 ∧ ld0 h1 a9 v_1 ∧ ((¬ (ah_i h1 a9 (Int32.toNatClampNeg v_1)) = 0 → ex_G mX12_spends (d + 5) 39 [.ref a_0, .int v_1, .int v_2, .retAddr 0] [] h1 bc bs Q) ∧ ((ah_i h1 a9 (Int32.toNatClampNeg v_1)) = 0 → X12_meets_C a_0 6 h1 ∧ ∀ h13, h13 = X12_meets_H a_0 6 h1 → Q (some (.int (X12_meets_V a_0 6 h1))) h13))))) ∧ (¬ 0 ≤ x3 → Q (some (.int x3)) h1)))) : ex_G mX12_spends (d + 5) 0 [.ref a_0, .int v_1, .int v_2, .retAddr 0] [] h bc bs Q := by
  refine ex_aload_n (q := 1) (x := a_0) dX12_spends_0 rfl ?_
  refine ex_iload_n (q := 2) (x := v_1) dX12_spends_1 rfl ?_
  have s2 := w.1
  replace w := w.2
  refine ex_callV (q := 5) (M := mX12_spends) (hdd := Nat.le_refl _) (c := 12) (st := []) (bc := bc) (bs := bs) dX12_spends_2 rfl cl_X12_237 wd_1675 wd_57 s2 w ?_
  rintro r h1 ⟨x3, rfl, w⟩
  show ex_G mX12_spends (d + 5) 5 [.ref a_0, .int v_1, .int v_2, .retAddr 0] [.int x3] h1 bc bs Q
  refine ex_istore_n (q := 6) (ls' := [.ref a_0, .int v_1, .int v_2, .int x3]) dX12_spends_5 rfl ?_
  refine ex_iload_n (q := 7) (x := x3) dX12_spends_6 rfl ?_
  refine ex_if_ge (tgt := 12) (q := 10) dX12_spends_7 (fun c4 => ?_) (fun c4 => ?_)
  · replace w := w.1 c4
    refine ex_aload_n (q := 13) (x := a_0) dX12_spends_12 rfl ?_
    have s5 := w.1
    replace w := w.2
    obtain ⟨a6, ea6, w⟩ := w
    refine ex_getr (q := 16) dX12_spends_13 fl_X12_13 s5 ea6 ?_
    refine ex_iload_n (q := 17) (x := v_1) dX12_spends_16 rfl ?_
    have s7 := w.1
    replace w := w.2
    refine ex_iald (q := 18) dX12_spends_17 s7 ?_
    refine ex_if_ne (tgt := 39) (q := 21) dX12_spends_18 (fun c8 => ?_) (fun c8 => ?_)
    · replace w := w.1 c8
      refine ex_kill 3 (ls' := [.ref a_0, .int v_1, .int v_2, .retAddr 0]) rfl ?_
      exact w
    · replace w := w.2 c8
      refine ex_aload_n (q := 22) (x := a_0) dX12_spends_21 rfl ?_
      obtain ⟨a9, ea9, w⟩ := w
      refine ex_getr (q := 25) dX12_spends_22 fl_X12_16 s5 ea9 ?_
      refine ex_iload_n (q := 26) (x := v_1) dX12_spends_25 rfl ?_
      have s10 := w.1
      replace w := w.2
      refine ex_iald (q := 27) dX12_spends_26 s10 ?_
      refine ex_if_ne (tgt := 39) (q := 30) dX12_spends_27 (fun c11 => ?_) (fun c11 => ?_)
      · replace w := w.1 c11
        refine ex_kill 3 (ls' := [.ref a_0, .int v_1, .int v_2, .retAddr 0]) rfl ?_
        exact w
      · replace w := w.2 c11
        refine ex_aload_n (q := 31) (x := a_0) dX12_spends_30 rfl ?_
        refine ex_bipush (q := 33) (v := 6) dX12_spends_31 (by decide) ?_
        have s12 := w.1
        replace w := w.2
        refine ex_callV (q := 36) (M := mX12_spends) (hdd := Nat.le_refl _) (mc := 0) (ms := 0) (d' := (d + 4)) (c := 12) (st := []) (bc := bc) (bs := bs) dX12_spends_33 rfl cl_X12_200 wd_1614 wd_50 s5 (X12_meets_s (Q := fun r z => r = some (.int (X12_meets_V a_0 6 h1)) ∧ z = X12_meets_H a_0 6 h1) s12 ⟨rfl, rfl⟩) ?_
        intro r z hrz
        rw [hrz.1, hrz.2]
        show ex_G mX12_spends (d + 5) 36 [.ref a_0, .int v_1, .int v_2, .int x3] [.int (X12_meets_V a_0 6 h1)] (X12_meets_H a_0 6 h1) bc bs Q
        refine ex_nmh (fun h13 eh13 => ?_)
        replace w := w h13 eh13
        refine ex_goto (tgt := 87) dX12_spends_36 ?_
        exact ex_ireturn dX12_spends_87 rfl (Or.inl rfl) w
  · replace w := w.2 c4
    refine ex_iload_n (q := 11) (x := x3) dX12_spends_10 rfl ?_
    exact ex_ireturn dX12_spends_11 rfl (Or.inl rfl) w

set_option maxRecDepth 100000 in
theorem X12_spends_39 {d bc bs : Nat} {h : AH} {Q : Option Value → AH → Prop} {a_0 : Nat} {v_1 : Int32} {v_2 : Int32} (w : ah_o h a_0 12 ∧ ∃ a2, ah_r h a_0 2 = some a2 ∧ ld0 h a2 v_1 ∧ (((ah_i h a2 (Int32.toNatClampNeg v_1)) ≤ v_2 → ((((ah_f h a_0 23) + (1 <<< ((ah_i h a2 (Int32.toNatClampNeg v_1)) &&& (31 : Int32)))) ≤ 1000000 → Q (some (.int 0)) h) ∧ (¬ ((ah_f h a_0 23) + (1 <<< ((ah_i h a2 (Int32.toNatClampNeg v_1)) &&& (31 : Int32)))) ≤ 1000000 → X12_meets_C a_0 9 h ∧ ∀ h7, h7 = X12_meets_H a_0 9 h → Q (some (.int (X12_meets_V a_0 9 h))) h7))) ∧ (¬ (ah_i h a2 (Int32.toNatClampNeg v_1)) ≤ v_2 → X12_meets_C a_0 7 h ∧ ∀ h9, h9 = X12_meets_H a_0 7 h → Q (some (.int (X12_meets_V a_0 7 h))) h9))) : ex_G mX12_spends (d + 5) 39 [.ref a_0, .int v_1, .int v_2, .retAddr 0] [] h bc bs Q := by
  refine ex_aload_n (q := 40) (x := a_0) dX12_spends_39 rfl ?_
  have s1 := w.1
  replace w := w.2
  obtain ⟨a2, ea2, w⟩ := w
  refine ex_getr (q := 43) dX12_spends_40 fl_X12_13 s1 ea2 ?_
  refine ex_iload_n (q := 44) (x := v_1) dX12_spends_43 rfl ?_
  have s3 := w.1
  replace w := w.2
  refine ex_iald (q := 45) dX12_spends_44 s3 ?_
  refine ex_iload_n (q := 46) (x := v_2) dX12_spends_45 rfl ?_
  refine ex_icmp_le (tgt := 58) (q := 49) dX12_spends_46 (fun c4 => ?_) (fun c4 => ?_)
  · replace w := w.1 c4
    refine ex_aload_n (q := 59) (x := a_0) dX12_spends_58 rfl ?_
    refine ex_getf (q := 62) dX12_spends_59 fl_X12_250 s1 ?_
    refine ex_iconst (q := 63) (v := 1) dX12_spends_62 (by decide) ?_
    refine ex_aload_n (q := 64) (x := a_0) dX12_spends_63 rfl ?_
    refine ex_getr (q := 67) dX12_spends_64 fl_X12_13 s1 ea2 ?_
    refine ex_iload_n (q := 68) (x := v_1) dX12_spends_67 rfl ?_
    refine ex_iald (q := 69) dX12_spends_68 s3 ?_
    refine ex_ishl (q := 70) dX12_spends_69 ?_
    refine ex_iadd (q := 71) dX12_spends_70 ?_
    refine ex_ldc_w (q := 74) (v := 1000000) dX12_spends_71 wd_1720 ?_
    refine ex_icmp_le (tgt := 86) (q := 77) dX12_spends_74 (fun c5 => ?_) (fun c5 => ?_)
    · replace w := w.1 c5
      refine ex_iconst (q := 87) (v := 0) dX12_spends_86 (by decide) ?_
      exact ex_ireturn dX12_spends_87 rfl (Or.inl rfl) w
    · replace w := w.2 c5
      refine ex_aload_n (q := 78) (x := a_0) dX12_spends_77 rfl ?_
      refine ex_bipush (q := 80) (v := 9) dX12_spends_78 (by decide) ?_
      have s6 := w.1
      replace w := w.2
      refine ex_callV (q := 83) (M := mX12_spends) (hdd := Nat.le_refl _) (mc := 0) (ms := 0) (d' := (d + 4)) (c := 12) (st := []) (bc := bc) (bs := bs) dX12_spends_80 rfl cl_X12_200 wd_1614 wd_50 s1 (X12_meets_s (Q := fun r z => r = some (.int (X12_meets_V a_0 9 h)) ∧ z = X12_meets_H a_0 9 h) s6 ⟨rfl, rfl⟩) ?_
      intro r z hrz
      rw [hrz.1, hrz.2]
      show ex_G mX12_spends (d + 5) 83 [.ref a_0, .int v_1, .int v_2, .retAddr 0] [.int (X12_meets_V a_0 9 h)] (X12_meets_H a_0 9 h) bc bs Q
      refine ex_nmh (fun h7 eh7 => ?_)
      replace w := w h7 eh7
      refine ex_goto (tgt := 87) dX12_spends_83 ?_
      exact ex_ireturn dX12_spends_87 rfl (Or.inl rfl) w
  · replace w := w.2 c4
    refine ex_aload_n (q := 50) (x := a_0) dX12_spends_49 rfl ?_
    refine ex_bipush (q := 52) (v := 7) dX12_spends_50 (by decide) ?_
    have s8 := w.1
    replace w := w.2
    refine ex_callV (q := 55) (M := mX12_spends) (hdd := Nat.le_refl _) (mc := 0) (ms := 0) (d' := (d + 4)) (c := 12) (st := []) (bc := bc) (bs := bs) dX12_spends_52 rfl cl_X12_200 wd_1614 wd_50 s1 (X12_meets_s (Q := fun r z => r = some (.int (X12_meets_V a_0 7 h)) ∧ z = X12_meets_H a_0 7 h) s8 ⟨rfl, rfl⟩) ?_
    intro r z hrz
    rw [hrz.1, hrz.2]
    show ex_G mX12_spends (d + 5) 55 [.ref a_0, .int v_1, .int v_2, .retAddr 0] [.int (X12_meets_V a_0 7 h)] (X12_meets_H a_0 7 h) bc bs Q
    refine ex_nmh (fun h9 eh9 => ?_)
    replace w := w h9 eh9
    refine ex_goto (tgt := 87) dX12_spends_55 ?_
    exact ex_ireturn dX12_spends_87 rfl (Or.inl rfl) w

theorem X12_spends_e {d bc bs : Nat} {h : AH} {Q : Option Value → AH → Prop} {a_0 : Nat} {v_1 : Int32} {v_2 : Int32} (w : ex_G mX12_spends (d + 5) 0 [.ref a_0, .int v_1, .int v_2, .retAddr 0] [] h bc bs Q) : ex_S yX12_spends mX12_spends (d + 5) [.ref a_0, .int v_1, .int v_2] h bc bs Q :=
  ex_enter (plainFor_of_name (by decide +kernel)) ⟨rfl, rfl⟩ rfl rfl (Nat.le_of_ble_eq_true rfl) (ex_pad 1 w)

set_option maxRecDepth 100000 in
theorem X12_shown_0 {d bc bs : Nat} {h : AH} {Q : Option Value → AH → Prop} {a_0 : Nat} (w : ex_G mX12_shown (d + 1) 4 [.ref a_0, .int 0, .int 0] [] h bc bs Q) : ex_G mX12_shown (d + 1) 0 [.ref a_0, .retAddr 0, .retAddr 0] [] h bc bs Q := by
  refine ex_iconst (q := 1) (v := 0) dX12_shown_0 (by decide) ?_
  refine ex_istore_n (q := 2) (ls' := [.ref a_0, .int 0, .retAddr 0]) dX12_shown_1 rfl ?_
  refine ex_iconst (q := 3) (v := 0) dX12_shown_2 (by decide) ?_
  refine ex_istore_n (q := 4) (ls' := [.ref a_0, .int 0, .int 0]) dX12_shown_3 rfl ?_
  exact w

set_option maxRecDepth 100000 in
theorem X12_shown_4 {d bc bs : Nat} {h : AH} {Q : Option Value → AH → Prop} {a_0 : Nat} {v_1 : Int32} {v_2 : Int32} (w : ((601 ≤ v_2 → ah_o h a_0 12 ∧ ∀ h3, h3 = ah_sf h a_0 22 1 → X12_well_C a_0 v_1 h3 ∧ ∀ h5, h5 = X12_well_H a_0 v_1 h3 → Q (some (.int (X12_well_V a_0 v_1 h3))) h5) ∧ (¬ 601 ≤ v_2 → ah_o h a_0 12 ∧ ∃ a7, ah_r h a_0 21 = some a7 ∧ ∃ a8, ah_r h a_0 20 = some a8 ∧ ld2 h a8 v_2 ∧ ld2 h a7 v_2 ∧ ∀ h10, h10 = ah_sl h a7 (Int32.toNatClampNeg v_2) (ah_l h a8 (Int32.toNatClampNeg v_2)) → (((lg_cmp (ah_l h10 a8 (Int32.toNatClampNeg v_2)) 0) = 0 → ∀ x13, x13 = v_1 + 0 → ∀ x14, x14 = v_2 + 1 → ex_G mX12_shown (d + 1) 4 [.ref a_0, .int x13, .int x14] [] h10 bc bs Q) ∧ (¬ (lg_cmp (ah_l h10 a8 (Int32.toNatClampNeg v_2)) 0) = 0 → ∀ x15, x15 = v_1 + 1 → ∀ x16, x16 = v_2 + 1 → ex_G mX12_shown (d + 1) 4 [.ref a_0, .int x15, .int x16] [] h10 bc bs Q))))) : ex_G mX12_shown (d + 1) 4 [.ref a_0, .int v_1, .int v_2] [] h bc bs Q := by
  refine ex_iload_n (q := 5) (x := v_2) dX12_shown_4 rfl ?_
  refine ex_sipush (q := 8) (v := 601) dX12_shown_5 (by decide) ?_
  refine ex_icmp_ge (tgt := 48) (q := 11) dX12_shown_8 (fun c1 => ?_) (fun c1 => ?_)
  · replace w := w.1 c1
    refine ex_aload_n (q := 49) (x := a_0) dX12_shown_48 rfl ?_
    refine ex_iconst (q := 50) (v := 1) dX12_shown_49 (by decide) ?_
    have s2 := w.1
    replace w := w.2
    refine ex_putf (q := 53) dX12_shown_50 fl_X12_263 (Or.inl rfl) s2 (Or.inr ⟨rfl, Or.inr rfl⟩) ?_
    refine ex_nmh (fun h3 eh3 => ?_)
    replace w := w h3 eh3
    refine ex_aload_n (q := 54) (x := a_0) dX12_shown_53 rfl ?_
    refine ex_iload_n (q := 55) (x := v_1) dX12_shown_54 rfl ?_
    have s4 := w.1
    replace w := w.2
    refine ex_callV (q := 58) (M := mX12_shown) (hdd := Nat.le_refl _) (mc := 0) (ms := 0) (d' := d) (c := 12) (st := []) (bc := bc) (bs := bs) dX12_shown_55 rfl cl_X12_180 wd_1585 wd_47 (by rw [eh3]; exact s2) (X12_well_s (Q := fun r z => r = some (.int (X12_well_V a_0 v_1 h3)) ∧ z = X12_well_H a_0 v_1 h3) s4 ⟨rfl, rfl⟩) ?_
    intro r z hrz
    rw [hrz.1, hrz.2]
    show ex_G mX12_shown (d + 1) 58 [.ref a_0, .int v_1, .int v_2] [.int (X12_well_V a_0 v_1 h3)] (X12_well_H a_0 v_1 h3) bc bs Q
    refine ex_nmh (fun h5 eh5 => ?_)
    replace w := w h5 eh5
    exact ex_ireturn dX12_shown_58 rfl (Or.inl rfl) w
  · replace w := w.2 c1
    refine ex_aload_n (q := 12) (x := a_0) dX12_shown_11 rfl ?_
    have s6 := w.1
    replace w := w.2
    obtain ⟨a7, ea7, w⟩ := w
    refine ex_getr (q := 15) dX12_shown_12 fl_X12_71 s6 ea7 ?_
    refine ex_iload_n (q := 16) (x := v_2) dX12_shown_15 rfl ?_
    refine ex_aload_n (q := 17) (x := a_0) dX12_shown_16 rfl ?_
    obtain ⟨a8, ea8, w⟩ := w
    refine ex_getr (q := 20) dX12_shown_17 fl_X12_67 s6 ea8 ?_
    refine ex_iload_n (q := 21) (x := v_2) dX12_shown_20 rfl ?_
    have s9 := w.1
    replace w := w.2
    refine ex_lald (q := 22) dX12_shown_21 s9 ?_
    have s11 := w.1
    replace w := w.2
    refine ex_last (q := 23) dX12_shown_22 s11 ?_
    refine ex_nmh (fun h10 eh10 => ?_)
    replace w := w h10 eh10
    refine ex_iload_n (q := 24) (x := v_1) dX12_shown_23 rfl ?_
    refine ex_aload_n (q := 25) (x := a_0) dX12_shown_24 rfl ?_
    refine ex_getr (q := 28) dX12_shown_25 fl_X12_67 (by rw [eh10]; exact s6) (by rw [eh10]; exact ea8) ?_
    refine ex_iload_n (q := 29) (x := v_2) dX12_shown_28 rfl ?_
    refine ex_lald (q := 30) dX12_shown_29 (by rw [eh10]; exact s9) ?_
    refine ex_lconst (q := 31) (v := 0) dX12_shown_30 (by decide) ?_
    refine ex_lcmp (q := 32) dX12_shown_31 ?_
    refine ex_if_eq (tgt := 39) (q := 35) dX12_shown_32 (fun c12 => ?_) (fun c12 => ?_)
    · replace w := w.1 c12
      refine ex_iconst (q := 40) (v := 0) dX12_shown_39 (by decide) ?_
      refine ex_iadd (q := 41) dX12_shown_40 ?_
      refine ex_nmi (fun x13 ex13 => ?_)
      replace w := w x13 ex13
      refine ex_istore_n (q := 42) (ls' := [.ref a_0, .int x13, .int v_2]) dX12_shown_41 rfl ?_
      obtain ⟨x14, ex14⟩ : ∃ y : Int32, y = v_2 + 1 := ⟨_, rfl⟩
      replace w := w x14 ex14
      refine ex_iinc (q := 45) (x := v_2) (v := x14) (ls' := [.ref a_0, .int x13, .int x14]) dX12_shown_42 rfl (by rw [ex14]; rfl) rfl ?_
      refine ex_goto (tgt := 4) dX12_shown_45 ?_
      exact w
    · replace w := w.2 c12
      refine ex_iconst (q := 36) (v := 1) dX12_shown_35 (by decide) ?_
      refine ex_goto (tgt := 40) dX12_shown_36 ?_
      refine ex_iadd (q := 41) dX12_shown_40 ?_
      refine ex_nmi (fun x15 ex15 => ?_)
      replace w := w x15 ex15
      refine ex_istore_n (q := 42) (ls' := [.ref a_0, .int x15, .int v_2]) dX12_shown_41 rfl ?_
      obtain ⟨x16, ex16⟩ : ∃ y : Int32, y = v_2 + 1 := ⟨_, rfl⟩
      replace w := w x16 ex16
      refine ex_iinc (q := 45) (x := v_2) (v := x16) (ls' := [.ref a_0, .int x15, .int x16]) dX12_shown_42 rfl (by rw [ex16]; rfl) rfl ?_
      refine ex_goto (tgt := 4) dX12_shown_45 ?_
      exact w

theorem X12_shown_e {d bc bs : Nat} {h : AH} {Q : Option Value → AH → Prop} {a_0 : Nat} (w : ex_G mX12_shown (d + 1) 0 [.ref a_0, .retAddr 0, .retAddr 0] [] h bc bs Q) : ex_S yX12_shown mX12_shown (d + 1) [.ref a_0] h bc bs Q :=
  ex_enter (plainFor_of_name (by decide +kernel)) ⟨rfl, rfl⟩ rfl rfl (Nat.le_of_ble_eq_true rfl) (ex_pad 2 w)

set_option maxRecDepth 100000 in
theorem X12_bracket_0 {d bc bs : Nat} {h : AH} {Q : Option Value → AH → Prop} {a_0 : Nat} {v_1 : Int32} (w : ah_o h a_0 12 ∧ ex_S yX12_spends mX12_spends (d + 5) [.ref a_0, .int v_1, .int 14] h 0 0 (fun r h1 => ∃ x3, r = some (.int x3) ∧ ((0 ≤ x3 → ah_o h1 a_0 12 ∧ ex_S yX12_bracketOf mX12_bracketOf (d + 5) [.ref a_0, .int v_1] h1 0 0 (fun r h5 => r = none ∧ ah_o h5 a_0 12 ∧ ex_S yX12_shown mX12_shown (d + 5) [.ref a_0] h5 0 0 (fun r h7 => ∃ x9, r = some (.int x9) ∧ Q (some (.int x9)) h7))) ∧ (¬ 0 ≤ x3 → Q (some (.int x3)) h1)))) : ex_G mX12_bracket (d + 6) 0 [.ref a_0, .int v_1, .retAddr 0] [] h bc bs Q := by
  refine ex_aload_n (q := 1) (x := a_0) dX12_bracket_0 rfl ?_
  refine ex_iload_n (q := 2) (x := v_1) dX12_bracket_1 rfl ?_
  refine ex_bipush (q := 4) (v := 14) dX12_bracket_2 (by decide) ?_
  have s2 := w.1
  replace w := w.2
  refine ex_callV (q := 7) (M := mX12_bracket) (hdd := Nat.le_refl _) (c := 12) (st := []) (bc := bc) (bs := bs) dX12_bracket_4 rfl cl_X12_267 wd_1718 wd_62 s2 w ?_
  rintro r h1 ⟨x3, rfl, w⟩
  show ex_G mX12_bracket (d + 6) 7 [.ref a_0, .int v_1, .retAddr 0] [.int x3] h1 bc bs Q
  refine ex_istore_n (q := 8) (ls' := [.ref a_0, .int v_1, .int x3]) dX12_bracket_7 rfl ?_
  refine ex_iload_n (q := 9) (x := x3) dX12_bracket_8 rfl ?_
  refine ex_if_ge (tgt := 14) (q := 12) dX12_bracket_9 (fun c4 => ?_) (fun c4 => ?_)
  · replace w := w.1 c4
    refine ex_aload_n (q := 15) (x := a_0) dX12_bracket_14 rfl ?_
    refine ex_iload_n (q := 16) (x := v_1) dX12_bracket_15 rfl ?_
    have s6 := w.1
    replace w := w.2
    refine ex_callV (q := 19) (M := mX12_bracket) (hdd := Nat.le_refl _) (c := 12) (st := []) (bc := bc) (bs := bs) dX12_bracket_16 rfl cl_X12_259 wd_1723 wd_63 s6 w ?_
    rintro r h5 ⟨rfl, w⟩
    show ex_G mX12_bracket (d + 6) 19 [.ref a_0, .int v_1, .int x3] [] h5 bc bs Q
    refine ex_aload_n (q := 20) (x := a_0) dX12_bracket_19 rfl ?_
    have s8 := w.1
    replace w := w.2
    refine ex_callV (q := 23) (M := mX12_bracket) (hdd := Nat.le_refl _) (c := 12) (st := []) (bc := bc) (bs := bs) dX12_bracket_20 rfl cl_X12_270 wd_1735 wd_66 s8 w ?_
    rintro r h7 ⟨x9, rfl, w⟩
    show ex_G mX12_bracket (d + 6) 23 [.ref a_0, .int v_1, .int x3] [.int x9] h7 bc bs Q
    exact ex_ireturn dX12_bracket_23 rfl (Or.inl rfl) w
  · replace w := w.2 c4
    refine ex_iload_n (q := 13) (x := x3) dX12_bracket_12 rfl ?_
    exact ex_ireturn dX12_bracket_13 rfl (Or.inl rfl) w

theorem X12_bracket_e {d bc bs : Nat} {h : AH} {Q : Option Value → AH → Prop} {a_0 : Nat} {v_1 : Int32} (w : ex_G mX12_bracket (d + 6) 0 [.ref a_0, .int v_1, .retAddr 0] [] h bc bs Q) : ex_S yX12_bracket mX12_bracket (d + 6) [.ref a_0, .int v_1] h bc bs Q :=
  ex_enter (plainFor_of_name (by decide +kernel)) ⟨rfl, rfl⟩ rfl rfl (Nat.le_of_ble_eq_true rfl) (ex_pad 1 w)
