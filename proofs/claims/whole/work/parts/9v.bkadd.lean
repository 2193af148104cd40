/-! book: a name more in the class's book. -/
set_option maxRecDepth 100000 in
theorem X2_takeL_0 {d bc bs : Nat} {h : AH} {Q : Option Value → AH → Prop} {a_0 : Nat} {a_1 : Nat} (w : ah_o h a_1 2 ∧ ∃ a2, ah_r h a_1 0 = some a2 ∧ ah_o h a_0 2 ∧ ∃ a4, ah_r h a_0 0 = some a4 ∧ cp_ h 2 a2 a4 0 0 281 ∧ ∀ h6, h6 = ah_wl h a4 (va_cpy (ah_l h a2) (ah_l h a4) (Int32.toNatClampNeg 0) (Int32.toNatClampNeg 0) (Int32.toNatClampNeg 281)) → bo (ah_f h6 a_1 2) ∧ ∀ h7, h7 = ah_sf h6 a_0 2 (ah_f h6 a_1 2) → Q none h7) : ex_G mX2_take (d + 1) 0 [.ref a_0, .ref a_1] [] h bc bs Q := by
  refine ex_aload_n (q := 1) (x := a_1) dX2_take_0 rfl ?_
  have s1 := w.1
  replace w := w.2
  obtain ⟨a2, ea2, w⟩ := w
  refine ex_getr (q := 4) dX2_take_1 fl_X2_9 s1 ea2 ?_
  refine ex_iconst (q := 5) (v := 0) dX2_take_4 (by decide) ?_
  refine ex_aload_n (q := 6) (x := a_0) dX2_take_5 rfl ?_
  have s3 := w.1
  replace w := w.2
  obtain ⟨a4, ea4, w⟩ := w
  refine ex_getr (q := 9) dX2_take_6 fl_X2_9 s3 ea4 ?_
  refine ex_iconst (q := 10) (v := 0) dX2_take_9 (by decide) ?_
  refine ex_sipush (q := 13) (v := 281) dX2_take_10 (by decide) ?_
  have s5 := w.1
  replace w := w.2
  refine ex_copylp (q := 16) (hd1 := Nat.succ_le_succ (Nat.zero_le _)) dX2_take_13 wd_1338 s5 ?_
  refine ex_nmh (fun h6 eh6 => ?_)
  replace w := w h6 eh6
  refine ex_aload_n (q := 17) (x := a_0) dX2_take_16 rfl ?_
  refine ex_aload_n (q := 18) (x := a_1) dX2_take_17 rfl ?_
  refine ex_getf (q := 21) dX2_take_18 fl_X2_22 (by rw [eh6]; exact s1) ?_
  have s8 := w.1
  replace w := w.2
  refine ex_putf (q := 24) dX2_take_21 fl_X2_22 (Or.inl rfl) (by rw [eh6]; exact s3) (Or.inr ⟨rfl, s8⟩) ?_
  refine ex_nmh (fun h7 eh7 => ?_)
  replace w := w h7 eh7
  exact ex_return dX2_take_24 w

set_option maxRecDepth 100000 in
theorem X0_addL_0 {d bc bs : Nat} {h : AH} {Q : Option Value → AH → Prop} {a_0 : Nat} {v_1 : Int64} {a_3 : Nat} (w : ah_o h a_0 0 ∧ (((ah_f h a_0 2) < 200 → ∃ a3, ah_r h a_0 0 = some a3 ∧ ld2 h a3 (ah_f h a_0 2) ∧ ∀ h4, h4 = ah_sl h a3 (Int32.toNatClampNeg (ah_f h a_0 2)) v_1 → ∃ a6, ah_r h4 a_0 1 = some a6 ∧ ah_n h4 < 10000000 ∧ ∀ h8, h8 = ah_no h4 2 → ex_S yX2_init mX2_init (d + 1) [.ref (ah_n h4)] h8 2 562 (fun r h9 => r = none ∧ ld3 h9 6 a6 (ah_f h4 a_0 2) ∧ ah_o h9 (ah_n h4) 2 ∧ ∀ h10, h10 = ah_sq h9 a6 (Int32.toNatClampNeg (ah_f h4 a_0 2)) (some (ah_n h4)) → ah_o h10 a_0 0 ∧ ∃ a14, ah_r h10 a_0 1 = some a14 ∧ ld3 h10 6 a14 (ah_f h10 a_0 2) ∧ ∃ a16, ah_q h10 a14 (Int32.toNatClampNeg (ah_f h10 a_0 2)) = some a16 ∧ ah_o h10 a16 2 ∧ ex_S yX2_take mX2_take (d + 1) [.ref a16, .ref a_3] h10 0 0 (fun r h19 => r = none ∧ ah_o h19 a_0 0 ∧ ∀ h21, h21 = ah_sf h19 a_0 2 ((ah_f h19 a_0 2) + 1) → Q none h21))) ∧ (¬ (ah_f h a_0 2) < 200 → Q none h))) : ex_G mX0_add (d + 2) 0 [.ref a_0, .long v_1, .retAddr 0, .ref a_3] [] h (bc + 3) (bs + 565) Q := by
  refine ex_aload_n (q := 1) (x := a_0) dX0_add_0 rfl ?_
  have s1 := w.1
  replace w := w.2
  refine ex_getf (q := 4) dX0_add_1 fl_X0_21 s1 ?_
  refine ex_sipush (q := 7) (v := 200) dX0_add_4 (by decide) ?_
  refine ex_icmp_lt (tgt := 11) (q := 10) dX0_add_7 (fun c2 => ?_) (fun c2 => ?_)
  · replace w := w.1 c2
    refine ex_aload_n (q := 12) (x := a_0) dX0_add_11 rfl ?_
    obtain ⟨a3, ea3, w⟩ := w
    refine ex_getr (q := 15) dX0_add_12 fl_X0_9 s1 ea3 ?_
    refine ex_aload_n (q := 16) (x := a_0) dX0_add_15 rfl ?_
    refine ex_getf (q := 19) dX0_add_16 fl_X0_21 s1 ?_
    refine ex_lload_n (q := 20) (x := v_1) dX0_add_19 rfl ?_
    have s5 := w.1
    replace w := w.2
    refine ex_last (q := 21) dX0_add_20 s5 ?_
    refine ex_nmh (fun h4 eh4 => ?_)
    replace w := w h4 eh4
    refine ex_aload_n (q := 22) (x := a_0) dX0_add_21 rfl ?_
    obtain ⟨a6, ea6, w⟩ := w
    refine ex_getr (q := 25) dX0_add_22 fl_X0_17 (by rw [eh4]; exact s1) ea6 ?_
    refine ex_aload_n (q := 26) (x := a_0) dX0_add_25 rfl ?_
    refine ex_getf (q := 29) dX0_add_26 fl_X0_21 (by rw [eh4]; exact s1) ?_
    have s7 := w.1
    replace w := w.2
    refine ex_G.room (bc' := (bc + 2) + 1) (bs' := (bs + 562) + 3) (Nat.le_refl _) (rm_le rfl) (rm_le rfl) ?_
    refine ex_new (q := 32) (c := 2) (M := mX0_add) dX0_add_29 wd_473 wd_314 wd_120 s7 ?_
    refine ex_nmh (fun h8 eh8 => ?_)
    replace w := w h8 eh8
    refine ex_dup (q := 33) dX0_add_32 rfl ?_
    refine ex_G.room (bc' := bc + 2) (bs' := bs + 562) (Nat.le_refl _) (Nat.le_refl _) (Nat.le_refl _) ?_
    refine ex_callI (q := 36) (M := mX0_add) (hdd := Nat.le_refl _) (st := [.ref (ah_n h4), .int (ah_f h4 a_0 2), .ref a6]) (bc := bc) (bs := bs) dX0_add_33 rfl cl_X0_25 wd_316 rfl rfl w ?_
    rintro r h9 ⟨rfl, w⟩
    show ex_G mX0_add (d + 2) 36 [.ref a_0, .long v_1, .retAddr 0, .ref a_3] [.ref (ah_n h4), .int (ah_f h4 a_0 2), .ref a6] h9 bc bs Q
    have s11 := w.1
    replace w := w.2
    have s12 := w.1
    replace w := w.2
    refine ex_aast (q := 37) (c := 2) dX0_add_36 s11 s12 ?_
    refine ex_nmh (fun h10 eh10 => ?_)
    replace w := w h10 eh10
    refine ex_aload_n (q := 38) (x := a_0) dX0_add_37 rfl ?_
    have s13 := w.1
    replace w := w.2
    obtain ⟨a14, ea14, w⟩ := w
    refine ex_getr (q := 41) dX0_add_38 fl_X0_17 s13 ea14 ?_
    refine ex_aload_n (q := 42) (x := a_0) dX0_add_41 rfl ?_
    refine ex_getf (q := 45) dX0_add_42 fl_X0_21 s13 ?_
    have s15 := w.1
    replace w := w.2
    obtain ⟨a16, ea16, w⟩ := w
    refine ex_aald (q := 46) dX0_add_45 s15 ea16 ?_
    refine ex_aload_n (q := 47) (x := a_3) dX0_add_46 rfl ?_
    have s17 := w.1
    replace w := w.2
    refine ex_callV (q := 50) (M := mX0_add) (hdd := Nat.le_refl _) (mc := 0) (ms := 0) (d' := (d + 1)) (c := 2) (st := []) (bc := bc) (bs := bs) dX0_add_47 rfl cl_X0_26 wd_1335 wd_1336 s17 w ?_
    rintro r h19 ⟨rfl, w⟩
    show ex_G mX0_add (d + 2) 50 [.ref a_0, .long v_1, .retAddr 0, .ref a_3] [] h19 bc bs Q
    refine ex_aload_n (q := 51) (x := a_0) dX0_add_50 rfl ?_
    refine ex_dup (q := 52) dX0_add_51 rfl ?_
    have s20 := w.1
    replace w := w.2
    refine ex_getf (q := 55) dX0_add_52 fl_X0_21 s20 ?_
    refine ex_iconst (q := 56) (v := 1) dX0_add_55 (by decide) ?_
    refine ex_iadd (q := 57) dX0_add_56 ?_
    refine ex_putf (q := 60) dX0_add_57 fl_X0_21 (Or.inl rfl) s20 (Or.inl rfl) ?_
    refine ex_nmh (fun h21 eh21 => ?_)
    replace w := w h21 eh21
    exact ex_return dX0_add_60 w
  · replace w := w.2 c2
    exact ex_return dX0_add_10 w


section BKADD
variable {h h' : AH} {d bc bs : Nat} {Q : Option Value → AH → Prop}
/-- a Laurent made just now, at b -/
def NL (h h' : AH) (b : Nat) : Prop := ah_n h' = ah_n h + 3 ∧ b = ah_n h ∧ (∀ a, a ≠ b → a ≠ b + 1 → a ≠ b + 2 → eqc h h' a) ∧ ah_o h' b 2 ∧ ah_x h' (b + 1) 2 281 ∧ ah_r h' b 0 = some (b + 1)
theorem c_linit {h2 : AH} (e2 : h2 = ah_no h 2) (hmax : ah_n h + 3 ≤ 10000000) (k : ∀ h', NL h h' (ah_n h) → Q none h') : ex_S yX2_init mX2_init (d + 1) [.ref (ah_n h)] h2 (bc + 2) (bs + 562) Q := by
  have n2 : ah_n h2 = ah_n h + 1 := by rw [e2]; exact n_no _ _
  have k2 : ah_k h2 (ah_n h) = (22, 0) := by rw [e2]; exact k_no_s _ _
  have q2 : ∀ a, a ≠ ah_n h → eqc h h2 a := fun a ha => by rw [e2]; exact eqc_no h 2 ha
  clear e2
  refine X2_init_e (X2_init_0 ⟨by omega, fun h3 e3 => ?_⟩)
  have n3 : ah_n h3 = ah_n h + 2 := by rw [e3, n_na, n2]
  have k3 : ah_k h3 (ah_n h + 1) = (2, 281) := by
    have := k_na_s h2 2 281
    rw [n2] at this
    rw [e3]
    exact this
  have q3 : ∀ a, a ≠ ah_n h + 1 → eqc h2 h3 a := fun a ha => by rw [e3]; exact eqc_na h2 _ _ (by rw [n2]; exact ha)
  clear e3
  have o3 : ah_o h3 (ah_n h) 2 := ⟨by omega, by rw [(q3 _ (by omega)).1, k2]⟩
  refine ⟨o3, fun h4 e4 => ?_⟩
  have n4 : ah_n h4 = ah_n h + 2 := by rw [e4, n_sr, n3]
  have q4 : ∀ a, a ≠ ah_n h → eqc h3 h4 a := fun a ha => by rw [e4]; exact eqc_sr _ _ _ _ ha
  have r4 : ah_r h4 (ah_n h) 0 = some (ah_n h + 1) := by rw [e4, r_sr_s, n2, u1_s]
  have k4 : ah_k h4 (ah_n h) = (22, 0) := by rw [e4, k_sr, (q3 _ (by omega)).1, k2]
  clear e4
  refine ⟨by omega, fun h6 e6 => ?_⟩
  have n6 : ah_n h6 = ah_n h + 3 := by rw [e6, n_na, n4]
  have q6 : ∀ a, a ≠ ah_n h + 2 → eqc h4 h6 a := fun a ha => by rw [e6]; exact eqc_na h4 _ _ (by rw [n4]; exact ha)
  clear e6
  have o6 : ah_o h6 (ah_n h) 2 := ⟨by omega, by rw [(q6 _ (by omega)).1, k4]⟩
  refine ⟨o6, fun h8 e8 => ?_⟩
  have n8 : ah_n h8 = ah_n h + 3 := by rw [e8, n_sr, n6]
  have q8 : ∀ a, a ≠ ah_n h → eqc h6 h8 a := fun a ha => by rw [e8]; exact eqc_sr _ _ _ _ ha
  have r8 : ah_r h8 (ah_n h) 0 = some (ah_n h + 1) := by rw [e8, r_sr_s, u1_n _ _ (by decide), (q6 _ (by omega)).2.2.2.2.1, r4]
  have k8 : ah_k h8 (ah_n h) = (22, 0) := by rw [e8, k_sr, (q6 _ (by omega)).1, k4]
  clear e8
  refine k h8 ⟨n8, rfl, fun a a1 a2 a3 => eqc_trans (q2 a a1) (eqc_trans (q3 a a2) (eqc_trans (q4 a a1) (eqc_trans (q6 a a3) (q8 a a1)))), ⟨by omega, by rw [k8]⟩, ⟨by omega, ?_⟩, r8⟩
  rw [(q8 _ (by omega)).1, (q6 _ (by omega)).1, (q4 _ (by omega)).1]
  exact k3
theorem c_ltake {a x b y : Nat} (oa : ah_o h a 2) (ra : ah_r h a 0 = some x) (xa : ah_x h x 2 281) (ob_ : ah_o h b 2) (rb : ah_r h b 0 = some y) (xb : ah_x h y 2 281) (fb : ah_f h b 2 = nI 1) (k : ∀ h', fr [a, x] h h' → (∀ j, j < 281 → ah_l h' x j = ah_l h y j) → Q none h') : ex_S yX2_take mX2_take (d + 1) [.ref a, .ref b] h bc bs Q := by
  have cl0 : Int32.toNatClampNeg 0 = 0 := nI_clamp (n := 0) (by decide)
  have cl281 : Int32.toNatClampNeg 281 = 281 := nI_clamp (n := 281) (by decide)
  have i0 : (0 : Int32).toInt = 0 := by decide
  have i281 : (281 : Int32).toInt = 281 := by decide
  refine X2_take_e (X2_takeL_0 ⟨ob_, y, rb, oa, x, ra, ⟨281, 281, xb, xa, by rw [i0]; omega, by rw [i0]; omega, by rw [i281]; omega, by rw [i0, i281]; omega, by rw [i0, i281]; omega⟩, ?_⟩)
  rw [cl0, cl281]
  intro h6 e6
  have f6 : ah_f h6 b 2 = nI 1 := by rw [e6, f_wl]; exact fb
  refine ⟨by rw [f6]; exact Or.inr rfl, fun h7 e7 => k h7 (by rw [e7, e6]; exact fr_sf (fr_wl (fr_refl _ h) (by simp only [List.mem_cons, List.not_mem_nil, or_false, or_true])) (by simp only [List.mem_cons, List.not_mem_nil, or_false, true_or])) (fun j hj => ?_)⟩
  rw [e7, l_sf, e6, l_wl_s, pk_cpy_in (by omega) (by omega), Nat.sub_zero, Nat.zero_add]
/-- what add leaves in the book -/
def BA (h h' : AH) (Nn x : Nat) (v : Int64) : Prop := ah_n h' = ah_n h + 3 ∧ (∀ a, a ≠ ah_n h → a ≠ ah_n h + 1 → a ≠ ah_n h + 2 → a ≠ 164 → a ≠ 165 → a ≠ 166 → eqc h h' a) ∧ ah_f h' 164 2 = nI (Nn + 1) ∧ ah_l h' 165 = u1 (ah_l h 165) Nn v ∧ ah_q h' 166 = u1 (ah_q h 166) Nn (some (ah_n h)) ∧ ah_o h' (ah_n h) 2 ∧ ah_x h' (ah_n h + 1) 2 281 ∧ ah_r h' (ah_n h) 0 = some (ah_n h + 1) ∧ ∀ j, j < 281 → ah_l h' (ah_n h + 1) j = ah_l h x j
theorem c_bkadd {Nn x y : Nat} {v : Int64} {P : Int → Int} (K : sp h) (h200 : Nn < 200) (hN : ah_f h 164 2 = nI Nn) (L : LA h 76 x y P) (m6 : ah_f h 76 2 = nI 1) (hmax : ah_n h + 3 ≤ 10000000) (k : ∀ h', BA h h' Nn x v → sp h' → Q none h') : ex_S yX0_add mX0_add (d + 2) [.ref 164, .long v, .ref 76] h (bc + 3) (bs + 565) Q := by
  have h216 := K.1
  have hb : hb3 76 := Or.inr (Or.inl rfl)
  obtain ⟨x1, x2, x3⟩ := LA_xb L
  have c2 : nI Nn < (200 : Int32) ↔ Nn < 200 := nI_ltI (b := 200) (by omega) (by omega)
  have i2 : ix (nI Nn) 200 := (ix_nI (by omega)).mpr h200
  refine X0_add_e (X0_addL_0 ⟨o164 K, fun _ => ?_, fun w => absurd (by rw [hN]; exact c2.mpr h200) w⟩)
  refine ⟨165, r164_0 K, by rw [hN]; exact (s165 K _).mpr i2, fun h4 e4 => ?_⟩
  rw [hN, nI_clamp (by omega)] at e4
  have F4 : fr [165] h h4 := by rw [e4]; exact fr_sl (fr_refl _ h) (by decide)
  have g4 : ah_l h4 165 = u1 (ah_l h 165) Nn v := by rw [e4, l_sl_s]
  clear e4
  have K4 := sp_fr K F4
  have n4 : ah_n h4 = ah_n h := F4.1.1
  have N4 : ah_f h4 164 2 = nI Nn := by rw [fr_f F4 164 (by decide)]; exact hN
  refine ⟨166, r164_1 K4, by omega, fun h8 e8 => c_linit e8 (by omega) (fun h9 nl => ⟨rfl, ?_⟩)⟩
  obtain ⟨n9, -, q9, o9, t9, r9⟩ := nl
  rw [n4] at n9 q9 o9 t9 r9 ⊢
  have lo9 : ∀ a, a < 216 → eqc h4 h9 a := fun a ha => q9 a (by omega) (by omega) (by omega)
  have K9 : sp h9 := sp_lo K4 (by omega) lo9
  rw [N4, nI_clamp (by omega)]
  refine ⟨(s166 K9 _).mpr i2, o9, fun h10 e10 => ?_⟩
  have q10 : ∀ a, a ≠ 166 → eqc h9 h10 a := fun a ha => by rw [e10]; exact ⟨by rw [k_sq], by rw [f_sq], by rw [i_sq], by rw [l_sq], by rw [r_sq], q_sq_n _ _ _ _ _ ha⟩
  have g10 : ah_q h10 166 = u1 (ah_q h9 166) Nn (some (ah_n h)) := by rw [e10, q_sq_s]
  have n10 : ah_n h10 = ah_n h + 3 := by rw [e10, n_sq]; omega
  have k10 : ah_k h10 = ah_k h9 := by rw [e10, k_sq]
  have r10 : ah_r h10 = ah_r h9 := by rw [e10, r_sq]
  have l10 : ah_l h10 = ah_l h9 := by rw [e10, l_sq]
  clear e10
  have K10 : sp h10 := ⟨by omega, by rw [k10]; exact K9.2.1, by rw [r10]; exact K9.2.2⟩
  have N10 : ah_f h10 164 2 = nI Nn := by rw [(q10 164 (by decide)).2.1, (lo9 164 (by decide)).2.1]; exact N4
  have o10 : ah_o h10 (ah_n h) 2 := ⟨by omega, by rw [k10]; exact o9.2⟩
  have t10 : ah_x h10 (ah_n h + 1) 2 281 := ⟨by omega, by rw [k10]; exact t9.2⟩
  have c7 : ∀ a, a = 76 ∨ a = 77 ∨ a = 78 → eqc h h10 a := fun a ha => eqc_trans (eqc_fr F4 (by simp only [List.mem_cons, List.not_mem_nil, or_false]; omega)) (eqc_trans (lo9 a (by omega)) (q10 a (by omega)))
  have ex : eqc h h10 x := c7 x (by omega)
  refine ⟨o164 K10, 166, r164_1 K10, by rw [N10]; exact (s166 K10 _).mpr i2, ah_n h, by rw [N10, nI_clamp (by omega), g10, u1_s], o10, ?_⟩
  refine c_ltake (d := d) o10 (by rw [r10]; exact r9) t10 (la_o K10 hb) (by rw [(c7 76 (by omega)).2.2.2.2.1]; exact L.2.1) (la_x K10 hb x1) (by rw [(c7 76 (by omega)).2.1]; exact m6) (fun h19 F19 g19 => ⟨rfl, ?_⟩)
  have K19 := sp_fr K10 F19
  have nm : ∀ a, a ≠ ah_n h → a ≠ ah_n h + 1 → a ∉ [ah_n h, ah_n h + 1] := fun a a1 a2 => by simp only [List.mem_cons, List.not_mem_nil, or_false]; omega
  have N19 : ah_f h19 164 2 = nI Nn := by rw [fr_f F19 164 (nm _ (by omega) (by omega))]; exact N10
  refine ⟨o164 K19, fun h21 e21 => ?_⟩
  have e1 : nI Nn + 1 = nI (Nn + 1) := nI_add _ 1
  rw [N19, e1] at e21
  have F21 : fr [164] h19 h21 := by rw [e21]; exact fr_sf (fr_refl _ h19) (by decide)
  have n21 : ah_n h21 = ah_n h + 3 := by rw [F21.1.1, F19.1.1]; exact n10
  have gen : ∀ a, a ≠ ah_n h → a ≠ ah_n h + 1 → a ≠ 164 → eqc h10 h21 a := fun a a1 a2 a3 => eqc_trans (eqc_fr F19 (nm a a1 a2)) (eqc_fr F21 (by simp only [List.mem_cons, List.not_mem_nil, or_false]; omega))
  refine k h21 ⟨n21, fun a a1 a2 a3 a4 a5 a6 => eqc_trans (eqc_fr F4 (by simp only [List.mem_cons, List.not_mem_nil, or_false]; omega)) (eqc_trans (q9 a a1 a2 a3) (eqc_trans (q10 a a6) (gen a a1 a2 a4))), by rw [e21, f_sf_s, u1_s], ?_, ?_, ⟨by omega, ?_⟩, ⟨by omega, ?_⟩, ?_, fun j hj => ?_⟩ (sp_fr K19 F21)
  · rw [(gen 165 (by omega) (by omega) (by decide)).2.2.2.1, l10, (lo9 165 (by decide)).2.2.2.1, g4]
  · rw [(gen 166 (by omega) (by omega) (by decide)).2.2.2.2.2, g10, (lo9 166 (by decide)).2.2.2.2.2, F4.1.2.2.2]
  · rw [F21.1.2.1, F19.1.2.1]; exact o10.2
  · rw [F21.1.2.1, F19.1.2.1]; exact t10.2
  · rw [F21.1.2.2.1, F19.1.2.2.1, r10]; exact r9
  · rw [fr_l F21 _ (by simp only [List.mem_cons, List.not_mem_nil, or_false]; omega), g19 j hj, ex.2.2.2.1]
end BKADD
