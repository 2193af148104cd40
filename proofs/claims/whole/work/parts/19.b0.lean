set_option maxRecDepth 100000 in
theorem J7_rangeCheck_23922_0 {d bc bs : Nat} {h : AH} {Q : Option Value → AH → Prop} {v_0 : Int32} {v_1 : Int32} {v_2 : Int32} (w : ((v_1 ≤ v_2 → ((0 ≤ v_1 → ((v_2 ≤ v_0 → Q none h) ∧ (¬ v_2 ≤ v_0 → False))) ∧ (¬ 0 ≤ v_1 → False))) ∧ (¬ v_1 ≤ v_2 → False))) : ex_G mJ7_rangeCheck_23922 d 0 [.int v_0, .int v_1, .int v_2] [] h bc bs Q := by
  refine ex_iload_n (q := 1) (x := v_1) dJ7_rangeCheck_23922_0 rfl ?_
  refine ex_iload_n (q := 2) (x := v_2) dJ7_rangeCheck_23922_1 rfl ?_
  refine ex_icmp_le (tgt := 46) (q := 5) dJ7_rangeCheck_23922_2 (fun c1 => ?_) (fun c1 => ?_)
  · replace w := w.1 c1
    refine ex_iload_n (q := 47) (x := v_1) dJ7_rangeCheck_23922_46 rfl ?_
    refine ex_if_ge (tgt := 59) (q := 50) dJ7_rangeCheck_23922_47 (fun c2 => ?_) (fun c2 => ?_)
    · replace w := w.1 c2
      refine ex_iload_n (q := 60) (x := v_2) dJ7_rangeCheck_23922_59 rfl ?_
      refine ex_iload_n (q := 61) (x := v_0) dJ7_rangeCheck_23922_60 rfl ?_
      refine ex_icmp_le (tgt := 73) (q := 64) dJ7_rangeCheck_23922_61 (fun c3 => ?_) (fun c3 => ?_)
      · replace w := w.1 c3
        exact ex_return dJ7_rangeCheck_23922_73 w
      · replace w := w.2 c3
        exact w.elim
    · replace w := w.2 c2
      exact w.elim
  · replace w := w.2 c1
    exact w.elim

theorem J7_rangeCheck_23922_e {d bc bs : Nat} {h : AH} {Q : Option Value → AH → Prop} {v_0 : Int32} {v_1 : Int32} {v_2 : Int32} (w : ex_G mJ7_rangeCheck_23922 d 0 [.int v_0, .int v_1, .int v_2] [] h bc bs Q) : ex_S yJ7_rangeCheck_23922 mJ7_rangeCheck_23922 d [.int v_0, .int v_1, .int v_2] h bc bs Q :=
  ex_enter (plainFor_of_name (by decide +kernel)) ⟨rfl, rfl⟩ rfl rfl (Nat.le_of_ble_eq_true rfl) (ex_pad 0 w)

set_option maxRecDepth 100000 in
theorem J7_fill_d0a16_0 {d bc bs : Nat} {h : AH} {Q : Option Value → AH → Prop} {a_0 : Nat} {v_1 : Int64} (w : ∃ n1, (ah_ra h a_0 n1 ∨ ah_x h a_0 2 n1) ∧ ∀ x3, x3 = Int32.ofNat n1 → ex_G mJ7_fill_d0a16 d 6 [.ref a_0, .long v_1, .retAddr 0, .int 0, .int x3] [] h bc bs Q) : ex_G mJ7_fill_d0a16 d 0 [.ref a_0, .long v_1, .retAddr 0, .retAddr 0, .retAddr 0] [] h bc bs Q := by
  refine ex_iconst (q := 1) (v := 0) dJ7_fill_d0a16_0 (by decide) ?_
  refine ex_istore_n (q := 2) (ls' := [.ref a_0, .long v_1, .retAddr 0, .int 0, .retAddr 0]) dJ7_fill_d0a16_1 rfl ?_
  refine ex_aload_n (q := 3) (x := a_0) dJ7_fill_d0a16_2 rfl ?_
  obtain ⟨n1, s2, w⟩ := w
  refine ex_alen (q := 4) dJ7_fill_d0a16_3 s2 ?_
  refine ex_nmi (fun x3 ex3 => ?_)
  replace w := w x3 ex3
  refine ex_istore (q := 6) (ls' := [.ref a_0, .long v_1, .retAddr 0, .int 0, .int x3]) dJ7_fill_d0a16_4 rfl ?_
  exact w

set_option maxRecDepth 100000 in
theorem J7_fill_d0a16_6 {d bc bs : Nat} {h : AH} {Q : Option Value → AH → Prop} {a_0 : Nat} {v_1 : Int64} {v_3 : Int32} {v_4 : Int32} (w : ((v_4 ≤ v_3 → Q none h) ∧ (¬ v_4 ≤ v_3 → ld2 h a_0 v_3 ∧ ∀ h2, h2 = ah_sl h a_0 (Int32.toNatClampNeg v_3) v_1 → ∀ x4, x4 = v_3 + 1 → ex_G mJ7_fill_d0a16 d 6 [.ref a_0, .long v_1, .retAddr 0, .int x4, .int v_4] [] h2 bc bs Q))) : ex_G mJ7_fill_d0a16 d 6 [.ref a_0, .long v_1, .retAddr 0, .int v_3, .int v_4] [] h bc bs Q := by
  refine ex_iload_n (q := 7) (x := v_3) dJ7_fill_d0a16_6 rfl ?_
  refine ex_iload (q := 9) (x := v_4) dJ7_fill_d0a16_7 rfl ?_
  refine ex_icmp_ge (tgt := 22) (q := 12) dJ7_fill_d0a16_9 (fun c1 => ?_) (fun c1 => ?_)
  · replace w := w.1 c1
    exact ex_return dJ7_fill_d0a16_22 w
  · replace w := w.2 c1
    refine ex_aload_n (q := 13) (x := a_0) dJ7_fill_d0a16_12 rfl ?_
    refine ex_iload_n (q := 14) (x := v_3) dJ7_fill_d0a16_13 rfl ?_
    refine ex_lload_n (q := 15) (x := v_1) dJ7_fill_d0a16_14 rfl ?_
    have s3 := w.1
    replace w := w.2
    refine ex_last (q := 16) dJ7_fill_d0a16_15 s3 ?_
    refine ex_nmh (fun h2 eh2 => ?_)
    replace w := w h2 eh2
    obtain ⟨x4, ex4⟩ : ∃ y : Int32, y = v_3 + 1 := ⟨_, rfl⟩
    replace w := w x4 ex4
    refine ex_iinc (q := 19) (x := v_3) (v := x4) (ls' := [.ref a_0, .long v_1, .retAddr 0, .int x4, .int v_4]) dJ7_fill_d0a16_16 rfl (by rw [ex4]; rfl) rfl ?_
    refine ex_goto (tgt := 6) dJ7_fill_d0a16_19 ?_
    exact w

theorem J7_fill_d0a16_e {d bc bs : Nat} {h : AH} {Q : Option Value → AH → Prop} {a_0 : Nat} {v_1 : Int64} (w : ex_G mJ7_fill_d0a16 d 0 [.ref a_0, .long v_1, .retAddr 0, .retAddr 0, .retAddr 0] [] h bc bs Q) : ex_S yJ7_fill_d0a16 mJ7_fill_d0a16 d [.ref a_0, .long v_1] h bc bs Q :=
  ex_enter (plainFor_of_name (by decide +kernel)) ⟨rfl, rfl⟩ rfl rfl (Nat.le_of_ble_eq_true rfl) (ex_pad 2 w)

set_option maxRecDepth 100000 in
theorem J7_fill_53178_0 {d bc bs : Nat} {h : AH} {Q : Option Value → AH → Prop} {a_0 : Nat} {v_1 : Int32} (w : ∃ n1, (ah_ra h a_0 n1 ∨ ah_x h a_0 2 n1) ∧ ∀ x3, x3 = Int32.ofNat n1 → ex_G mJ7_fill_53178 d 5 [.ref a_0, .int v_1, .int 0, .int x3] [] h bc bs Q) : ex_G mJ7_fill_53178 d 0 [.ref a_0, .int v_1, .retAddr 0, .retAddr 0] [] h bc bs Q := by
  refine ex_iconst (q := 1) (v := 0) dJ7_fill_53178_0 (by decide) ?_
  refine ex_istore_n (q := 2) (ls' := [.ref a_0, .int v_1, .int 0, .retAddr 0]) dJ7_fill_53178_1 rfl ?_
  refine ex_aload_n (q := 3) (x := a_0) dJ7_fill_53178_2 rfl ?_
  obtain ⟨n1, s2, w⟩ := w
  refine ex_alen (q := 4) dJ7_fill_53178_3 s2 ?_
  refine ex_nmi (fun x3 ex3 => ?_)
  replace w := w x3 ex3
  refine ex_istore_n (q := 5) (ls' := [.ref a_0, .int v_1, .int 0, .int x3]) dJ7_fill_53178_4 rfl ?_
  exact w

set_option maxRecDepth 100000 in
theorem J7_fill_53178_5 {d bc bs : Nat} {h : AH} {Q : Option Value → AH → Prop} {a_0 : Nat} {v_1 : Int32} {v_2 : Int32} {v_3 : Int32} (w : ((v_3 ≤ v_2 → Q none h) ∧ (¬ v_3 ≤ v_2 → st0 h a_0 v_2 ∧ ∀ h2, h2 = ah_si h a_0 (Int32.toNatClampNeg v_2) v_1 → ∀ x4, x4 = v_2 + 1 → ex_G mJ7_fill_53178 d 5 [.ref a_0, .int v_1, .int x4, .int v_3] [] h2 bc bs Q))) : ex_G mJ7_fill_53178 d 5 [.ref a_0, .int v_1, .int v_2, .int v_3] [] h bc bs Q := by
  refine ex_iload_n (q := 6) (x := v_2) dJ7_fill_53178_5 rfl ?_
  refine ex_iload_n (q := 7) (x := v_3) dJ7_fill_53178_6 rfl ?_
  refine ex_icmp_ge (tgt := 20) (q := 10) dJ7_fill_53178_7 (fun c1 => ?_) (fun c1 => ?_)
  · replace w := w.1 c1
    exact ex_return dJ7_fill_53178_20 w
  · replace w := w.2 c1
    refine ex_aload_n (q := 11) (x := a_0) dJ7_fill_53178_10 rfl ?_
    refine ex_iload_n (q := 12) (x := v_2) dJ7_fill_53178_11 rfl ?_
    refine ex_iload_n (q := 13) (x := v_1) dJ7_fill_53178_12 rfl ?_
    have s3 := w.1
    replace w := w.2
    refine ex_iast (q := 14) dJ7_fill_53178_13 s3 ?_
    refine ex_nmh (fun h2 eh2 => ?_)
    replace w := w h2 eh2
    obtain ⟨x4, ex4⟩ : ∃ y : Int32, y = v_2 + 1 := ⟨_, rfl⟩
    replace w := w x4 ex4
    refine ex_iinc (q := 17) (x := v_2) (v := x4) (ls' := [.ref a_0, .int v_1, .int x4, .int v_3]) dJ7_fill_53178_14 rfl (by rw [ex4]; rfl) rfl ?_
    refine ex_goto (tgt := 5) dJ7_fill_53178_17 ?_
    exact w

theorem J7_fill_53178_e {d bc bs : Nat} {h : AH} {Q : Option Value → AH → Prop} {a_0 : Nat} {v_1 : Int32} (w : ex_G mJ7_fill_53178 d 0 [.ref a_0, .int v_1, .retAddr 0, .retAddr 0] [] h bc bs Q) : ex_S yJ7_fill_53178 mJ7_fill_53178 d [.ref a_0, .int v_1] h bc bs Q :=
  ex_enter (plainFor_of_name (by decide +kernel)) ⟨rfl, rfl⟩ rfl rfl (Nat.le_of_ble_eq_true rfl) (ex_pad 2 w)

set_option maxRecDepth 100000 in
theorem J7_fill_fda19_0 {d bc bs : Nat} {h : AH} {Q : Option Value → AH → Prop} {a_0 : Nat} {v_1 : Int32} {v_2 : Int32} {v_3 : Int32} (w : ∃ n1, (ah_ra h a_0 n1 ∨ ah_x h a_0 2 n1) ∧ ex_S yJ7_rangeCheck_23922 mJ7_rangeCheck_23922 d [.int (Int32.ofNat n1), .int v_1, .int v_2] h 0 0 (fun r h3 => r = none ∧ ex_G mJ7_fill_fda19 (d + 1) 10 [.ref a_0, .retAddr 0, .int v_2, .int v_3, .int v_1] [] h3 bc bs Q)) : ex_G mJ7_fill_fda19 (d + 1) 0 [.ref a_0, .int v_1, .int v_2, .int v_3, .retAddr 0] [] h bc bs Q := by
  refine ex_aload_n (q := 1) (x := a_0) dJ7_fill_fda19_0 rfl ?_
  obtain ⟨n1, s2, w⟩ := w
  refine ex_alen (q := 2) dJ7_fill_fda19_1 s2 ?_
  refine ex_iload_n (q := 3) (x := v_1) dJ7_fill_fda19_2 rfl ?_
  refine ex_iload_n (q := 4) (x := v_2) dJ7_fill_fda19_3 rfl ?_
  refine ex_callS (q := 7) (M := mJ7_fill_fda19) (hdd := Nat.le_refl _) (st := []) (bc := bc) (bs := bs) dJ7_fill_fda19_4 rfl cl_J7_13 wd_763 w ?_
  rintro r h3 ⟨rfl, w⟩
  show ex_G mJ7_fill_fda19 (d + 1) 7 [.ref a_0, .int v_1, .int v_2, .int v_3, .retAddr 0] [] h3 bc bs Q
  refine ex_iload_n (q := 8) (x := v_1) dJ7_fill_fda19_7 rfl ?_
  refine ex_istore (q := 10) (ls' := [.ref a_0, .int v_1, .int v_2, .int v_3, .int v_1]) dJ7_fill_fda19_8 rfl ?_
  refine ex_kill 1 (ls' := [.ref a_0, .retAddr 0, .int v_2, .int v_3, .int v_1]) rfl ?_
  exact w

set_option maxRecDepth 100000 in
theorem J7_fill_fda19_10 {d bc bs : Nat} {h : AH} {Q : Option Value → AH → Prop} {a_0 : Nat} {v_2 : Int32} {v_3 : Int32} {v_4 : Int32} (w : ((v_2 ≤ v_4 → Q none h) ∧ (¬ v_2 ≤ v_4 → st0 h a_0 v_4 ∧ ∀ h2, h2 = ah_si h a_0 (Int32.toNatClampNeg v_4) v_3 → ∀ x4, x4 = v_4 + 1 → ex_G mJ7_fill_fda19 (d + 1) 10 [.ref a_0, .retAddr 0, .int v_2, .int v_3, .int x4] [] h2 bc bs Q))) : ex_G mJ7_fill_fda19 (d + 1) 10 [.ref a_0, .retAddr 0, .int v_2, .int v_3, .int v_4] [] h bc bs Q := by
  refine ex_iload (q := 12) (x := v_4) dJ7_fill_fda19_10 rfl ?_
  refine ex_iload_n (q := 13) (x := v_2) dJ7_fill_fda19_12 rfl ?_
  refine ex_icmp_ge (tgt := 27) (q := 16) dJ7_fill_fda19_13 (fun c1 => ?_) (fun c1 => ?_)
  · replace w := w.1 c1
    exact ex_return dJ7_fill_fda19_27 w
  · replace w := w.2 c1
    refine ex_aload_n (q := 17) (x := a_0) dJ7_fill_fda19_16 rfl ?_
    refine ex_iload (q := 19) (x := v_4) dJ7_fill_fda19_17 rfl ?_
    refine ex_iload_n (q := 20) (x := v_3) dJ7_fill_fda19_19 rfl ?_
    have s3 := w.1
    replace w := w.2
    refine ex_iast (q := 21) dJ7_fill_fda19_20 s3 ?_
    refine ex_nmh (fun h2 eh2 => ?_)
    replace w := w h2 eh2
    obtain ⟨x4, ex4⟩ : ∃ y : Int32, y = v_4 + 1 := ⟨_, rfl⟩
    replace w := w x4 ex4
    refine ex_iinc (q := 24) (x := v_4) (v := x4) (ls' := [.ref a_0, .retAddr 0, .int v_2, .int v_3, .int x4]) dJ7_fill_fda19_21 rfl (by rw [ex4]; rfl) rfl ?_
    refine ex_goto (tgt := 10) dJ7_fill_fda19_24 ?_
    exact w

theorem J7_fill_fda19_e {d bc bs : Nat} {h : AH} {Q : Option Value → AH → Prop} {a_0 : Nat} {v_1 : Int32} {v_2 : Int32} {v_3 : Int32} (w : ex_G mJ7_fill_fda19 (d + 1) 0 [.ref a_0, .int v_1, .int v_2, .int v_3, .retAddr 0] [] h bc bs Q) : ex_S yJ7_fill_fda19 mJ7_fill_fda19 (d + 1) [.ref a_0, .int v_1, .int v_2, .int v_3] h bc bs Q :=
  ex_enter (plainFor_of_name (by decide +kernel)) ⟨rfl, rfl⟩ rfl rfl (Nat.le_of_ble_eq_true rfl) (ex_pad 1 w)

set_option maxRecDepth 100000 in
theorem X6_init_0 {d bc bs : Nat} {h : AH} {Q : Option Value → AH → Prop} {a_0 : Nat} {v_1 : Int32} {N : Nat} (w : ah_n h < 10000000 ∧ J9_max_7cf53_V v_1 0 h = Int32.ofNat N ∧ N ≤ 1000000 ∧ ∀ h2, h2 = ah_na h 0 N → ah_o h2 a_0 6 ∧ ∀ h4, h4 = ah_sr h2 a_0 0 (some (ah_n h)) → Q none h4) : ex_G mX6_init (d + 1) 0 [.ref a_0, .int v_1] [] h (bc + 1) (bs + N) Q := by
  refine ex_aload_n (q := 1) (x := a_0) dX6_init_0 rfl ?_
  refine ex_objInit (q := 4) (hd1 := Nat.succ_le_succ (Nat.zero_le _)) (h1 := wd_135) (h2 := wd_136) (st := []) dX6_init_1 wd_146 ?_
  refine ex_aload_n (q := 5) (x := a_0) dX6_init_4 rfl ?_
  refine ex_iload_n (q := 6) (x := v_1) dX6_init_5 rfl ?_
  refine ex_iconst (q := 7) (v := 0) dX6_init_6 (by decide) ?_
  refine ex_callS (q := 10) (M := mX6_init) (hdd := Nat.le_refl _) (mc := 0) (ms := 0) (d' := d) (st := [.ref a_0]) (bc := (bc + 1)) (bs := (bs + N)) dX6_init_7 rfl cl_X6_7 wd_148 (J9_max_7cf53_s (Q := fun r z => r = some (.int (J9_max_7cf53_V v_1 0 h)) ∧ z = h) ⟨rfl, rfl⟩) ?_
  intro r z hrz
  rw [hrz.1, hrz.2]
  show ex_G mX6_init (d + 1) 10 [.ref a_0, .int v_1] [.int (J9_max_7cf53_V v_1 0 h), .ref a_0] (h) (bc + 1) (bs + N) Q
  have s1 := w.1
  replace w := w.2
  obtain ⟨eN, sN, w⟩ := w
  refine ex_G.room (bc' := bc + 1) (bs' := bs + N) (Nat.le_refl _) (Nat.le_refl _) (Nat.le_refl _) ?_
  refine ex_newarray (q := 12) (t := 0) (N := N) (M := mX6_init) dX6_init_10 rfl (by decide) wd_161 eN sN s1 ?_
  refine ex_nmh (fun h2 eh2 => ?_)
  replace w := w h2 eh2
  have s3 := w.1
  replace w := w.2
  refine ex_putr (q := 15) dX6_init_12 fl_X6_13 (Or.inr ⟨rfl, rfl, wd_150, rfl⟩) s3 ?_
  refine ex_nmh (fun h4 eh4 => ?_)
  replace w := w h4 eh4
  exact ex_return dX6_init_15 w

theorem X6_init_e {d bc bs : Nat} {h : AH} {Q : Option Value → AH → Prop} {a_0 : Nat} {v_1 : Int32} (w : ex_G mX6_init (d + 1) 0 [.ref a_0, .int v_1] [] h bc bs Q) : ex_S yX6_init mX6_init (d + 1) [.ref a_0, .int v_1] h bc bs Q :=
  ex_enter (plainFor_of_name (by decide +kernel)) ⟨rfl, rfl⟩ rfl rfl (Nat.le_of_ble_eq_true rfl) (ex_pad 0 w)

set_option maxRecDepth 100000 in
theorem X6_add_0 {d bc bs : Nat} {h : AH} {Q : Option Value → AH → Prop} {a_0 : Nat} {v_1 : Int32} (w : ah_o h a_0 6 ∧ ∃ a2, ah_r h a_0 0 = some a2 ∧ ∃ n3, (ah_ra h a2 n3 ∨ ah_x h a2 2 n3) ∧ (((ah_f h a_0 1) < (Int32.ofNat n3) → st0 h a2 (ah_f h a_0 1) ∧ ∀ h6, h6 = ah_si h a2 (Int32.toNatClampNeg (ah_f h a_0 1)) v_1 → ∀ h8, h8 = ah_sf h6 a_0 1 ((ah_f h6 a_0 1) + 1) → Q (some (.int 1)) h8) ∧ (¬ (ah_f h a_0 1) < (Int32.ofNat n3) → Q (some (.int 0)) h))) : ex_G mX6_add d 0 [.ref a_0, .int v_1] [] h bc bs Q := by
  refine ex_aload_n (q := 1) (x := a_0) dX6_add_0 rfl ?_
  have s1 := w.1
  replace w := w.2
  refine ex_getf (q := 4) dX6_add_1 fl_X6_19 s1 ?_
  refine ex_aload_n (q := 5) (x := a_0) dX6_add_4 rfl ?_
  obtain ⟨a2, ea2, w⟩ := w
  refine ex_getr (q := 8) dX6_add_5 fl_X6_13 s1 ea2 ?_
  obtain ⟨n3, s4, w⟩ := w
  refine ex_alen (q := 9) dX6_add_8 s4 ?_
  refine ex_icmp_lt (tgt := 14) (q := 12) dX6_add_9 (fun c5 => ?_) (fun c5 => ?_)
  · replace w := w.1 c5
    refine ex_aload_n (q := 15) (x := a_0) dX6_add_14 rfl ?_
    refine ex_getr (q := 18) dX6_add_15 fl_X6_13 s1 ea2 ?_
    refine ex_aload_n (q := 19) (x := a_0) dX6_add_18 rfl ?_
    refine ex_getf (q := 22) dX6_add_19 fl_X6_19 s1 ?_
    refine ex_iload_n (q := 23) (x := v_1) dX6_add_22 rfl ?_
    have s7 := w.1
    replace w := w.2
    refine ex_iast (q := 24) dX6_add_23 s7 ?_
    refine ex_nmh (fun h6 eh6 => ?_)
    replace w := w h6 eh6
    refine ex_aload_n (q := 25) (x := a_0) dX6_add_24 rfl ?_
    refine ex_dup (q := 26) dX6_add_25 rfl ?_
    refine ex_getf (q := 29) dX6_add_26 fl_X6_19 (by rw [eh6]; exact s1) ?_
    refine ex_iconst (q := 30) (v := 1) dX6_add_29 (by decide) ?_
    refine ex_iadd (q := 31) dX6_add_30 ?_
    refine ex_putf (q := 34) dX6_add_31 fl_X6_19 (Or.inl rfl) (by rw [eh6]; exact s1) (Or.inl rfl) ?_
    refine ex_nmh (fun h8 eh8 => ?_)
    replace w := w h8 eh8
    refine ex_iconst (q := 35) (v := 1) dX6_add_34 (by decide) ?_
    exact ex_ireturn dX6_add_35 rfl (Or.inr ⟨rfl, Or.inr rfl⟩) w
  · replace w := w.2 c5
    refine ex_iconst (q := 13) (v := 0) dX6_add_12 (by decide) ?_
    exact ex_ireturn dX6_add_13 rfl (Or.inr ⟨rfl, Or.inl rfl⟩) w

theorem X6_add_e {d bc bs : Nat} {h : AH} {Q : Option Value → AH → Prop} {a_0 : Nat} {v_1 : Int32} (w : ex_G mX6_add d 0 [.ref a_0, .int v_1] [] h bc bs Q) : ex_S yX6_add mX6_add d [.ref a_0, .int v_1] h bc bs Q :=
  ex_enter (plainFor_of_name (by decide +kernel)) ⟨rfl, rfl⟩ rfl rfl (Nat.le_of_ble_eq_true rfl) (ex_pad 0 w)

set_option maxRecDepth 100000 in
theorem X6_holds_0 {d bc bs : Nat} {h : AH} {Q : Option Value → AH → Prop} {a_0 : Nat} {v_1 : Int32} (w : ex_G mX6_holds d 2 [.ref a_0, .int v_1, .int 0] [] h bc bs Q) : ex_G mX6_holds d 0 [.ref a_0, .int v_1, .retAddr 0] [] h bc bs Q := by
  refine ex_iconst (q := 1) (v := 0) dX6_holds_0 (by decide) ?_
  refine ex_istore_n (q := 2) (ls' := [.ref a_0, .int v_1, .int 0]) dX6_holds_1 rfl ?_
  exact w

set_option maxRecDepth 100000 in
theorem X6_holds_2 {d bc bs : Nat} {h : AH} {Q : Option Value → AH → Prop} {a_0 : Nat} {v_1 : Int32} {v_2 : Int32} (w : ah_o h a_0 6 ∧ (((ah_f h a_0 1) ≤ v_2 → Q (some (.int 0)) h) ∧ (¬ (ah_f h a_0 1) ≤ v_2 → ∃ a3, ah_r h a_0 0 = some a3 ∧ ld0 h a3 v_2 ∧ ((¬ (ah_i h a3 (Int32.toNatClampNeg v_2)) = v_1 → ∀ x6, x6 = v_2 + 1 → ex_G mX6_holds d 2 [.ref a_0, .int v_1, .int x6] [] h bc bs Q) ∧ ((ah_i h a3 (Int32.toNatClampNeg v_2)) = v_1 → Q (some (.int 1)) h))))) : ex_G mX6_holds d 2 [.ref a_0, .int v_1, .int v_2] [] h bc bs Q := by
  refine ex_iload_n (q := 3) (x := v_2) dX6_holds_2 rfl ?_
  refine ex_aload_n (q := 4) (x := a_0) dX6_holds_3 rfl ?_
  have s1 := w.1
  replace w := w.2
  refine ex_getf (q := 7) dX6_holds_4 fl_X6_19 s1 ?_
  refine ex_icmp_ge (tgt := 28) (q := 10) dX6_holds_7 (fun c2 => ?_) (fun c2 => ?_)
  · replace w := w.1 c2
    refine ex_iconst (q := 29) (v := 0) dX6_holds_28 (by decide) ?_
    exact ex_ireturn dX6_holds_29 rfl (Or.inr ⟨rfl, Or.inl rfl⟩) w
  · replace w := w.2 c2
    refine ex_aload_n (q := 11) (x := a_0) dX6_holds_10 rfl ?_
    obtain ⟨a3, ea3, w⟩ := w
    refine ex_getr (q := 14) dX6_holds_11 fl_X6_13 s1 ea3 ?_
    refine ex_iload_n (q := 15) (x := v_2) dX6_holds_14 rfl ?_
    have s4 := w.1
    replace w := w.2
    refine ex_iald (q := 16) dX6_holds_15 s4 ?_
    refine ex_iload_n (q := 17) (x := v_1) dX6_holds_16 rfl ?_
    refine ex_icmp_ne (tgt := 22) (q := 20) dX6_holds_17 (fun c5 => ?_) (fun c5 => ?_)
    · replace w := w.1 c5
      obtain ⟨x6, ex6⟩ : ∃ y : Int32, y = v_2 + 1 := ⟨_, rfl⟩
      replace w := w x6 ex6
      refine ex_iinc (q := 25) (x := v_2) (v := x6) (ls' := [.ref a_0, .int v_1, .int x6]) dX6_holds_22 rfl (by rw [ex6]; rfl) rfl ?_
      refine ex_goto (tgt := 2) dX6_holds_25 ?_
      exact w
    · replace w := w.2 c5
      refine ex_iconst (q := 21) (v := 1) dX6_holds_20 (by decide) ?_
      exact ex_ireturn dX6_holds_21 rfl (Or.inr ⟨rfl, Or.inr rfl⟩) w

theorem X6_holds_e {d bc bs : Nat} {h : AH} {Q : Option Value → AH → Prop} {a_0 : Nat} {v_1 : Int32} (w : ex_G mX6_holds d 0 [.ref a_0, .int v_1, .retAddr 0] [] h bc bs Q) : ex_S yX6_holds mX6_holds d [.ref a_0, .int v_1] h bc bs Q :=
  ex_enter (plainFor_of_name (by decide +kernel)) ⟨rfl, rfl⟩ rfl rfl (Nat.le_of_ble_eq_true rfl) (ex_pad 1 w)

set_option maxRecDepth 100000 in
theorem X6_reverse_0 {d bc bs : Nat} {h : AH} {Q : Option Value → AH → Prop} {a_0 : Nat} (w : ex_G mX6_reverse d 2 [.ref a_0, .int 0, .retAddr 0] [] h bc bs Q) : ex_G mX6_reverse d 0 [.ref a_0, .retAddr 0, .retAddr 0] [] h bc bs Q := by
  refine ex_iconst (q := 1) (v := 0) dX6_reverse_0 (by decide) ?_
  refine ex_istore_n (q := 2) (ls' := [.ref a_0, .int 0, .retAddr 0]) dX6_reverse_1 rfl ?_
  exact w

set_option maxRecDepth 100000 in
theorem X6_reverse_2 {d bc bs : Nat} {h : AH} {Q : Option Value → AH → Prop} {a_0 : Nat} {v_1 : Int32} (w : ah_o h a_0 6 ∧ ((((ah_f h a_0 1) / 2) ≤ v_1 → Q none h) ∧ (¬ ((ah_f h a_0 1) / 2) ≤ v_1 → ∃ a3, ah_r h a_0 0 = some a3 ∧ ld0 h a3 v_1 ∧ ∀ x5, x5 = ah_i h a3 (Int32.toNatClampNeg v_1) → ld0 h a3 (((ah_f h a_0 1) - 1) - v_1) ∧ st0 h a3 v_1 ∧ ∀ h7, h7 = ah_si h a3 (Int32.toNatClampNeg v_1) (ah_i h a3 (Int32.toNatClampNeg (((ah_f h a_0 1) - 1) - v_1))) → st0 h7 a3 (((ah_f h7 a_0 1) - 1) - v_1) ∧ ∀ h9, h9 = ah_si h7 a3 (Int32.toNatClampNeg (((ah_f h7 a_0 1) - 1) - v_1)) x5 → ∀ x11, x11 = v_1 + 1 → ex_G mX6_reverse d 2 [.ref a_0, .int x11, .retAddr 0] [] h9 bc bs Q))) : ex_G mX6_reverse d 2 [.ref a_0, .int v_1, .retAddr 0] [] h bc bs Q := by
  refine ex_iload_n (q := 3) (x := v_1) dX6_reverse_2 rfl ?_
  refine ex_aload_n (q := 4) (x := a_0) dX6_reverse_3 rfl ?_
  have s1 := w.1
  replace w := w.2
  refine ex_getf (q := 7) dX6_reverse_4 fl_X6_19 s1 ?_
  refine ex_iconst (q := 8) (v := 2) dX6_reverse_7 (by decide) ?_
  refine ex_idiv (q := 9) dX6_reverse_8 (by decide) ?_
  refine ex_icmp_ge (tgt := 58) (q := 12) dX6_reverse_9 (fun c2 => ?_) (fun c2 => ?_)
  · replace w := w.1 c2
    exact ex_return dX6_reverse_58 w
  · replace w := w.2 c2
    refine ex_aload_n (q := 13) (x := a_0) dX6_reverse_12 rfl ?_
    obtain ⟨a3, ea3, w⟩ := w
    refine ex_getr (q := 16) dX6_reverse_13 fl_X6_13 s1 ea3 ?_
    refine ex_iload_n (q := 17) (x := v_1) dX6_reverse_16 rfl ?_
    have s4 := w.1
    replace w := w.2
    refine ex_iald (q := 18) dX6_reverse_17 s4 ?_
    refine ex_nmi (fun x5 ex5 => ?_)
    replace w := w x5 ex5
    refine ex_istore_n (q := 19) (ls' := [.ref a_0, .int v_1, .int x5]) dX6_reverse_18 rfl ?_
    refine ex_aload_n (q := 20) (x := a_0) dX6_reverse_19 rfl ?_
    refine ex_getr (q := 23) dX6_reverse_20 fl_X6_13 s1 ea3 ?_
    refine ex_iload_n (q := 24) (x := v_1) dX6_reverse_23 rfl ?_
    refine ex_aload_n (q := 25) (x := a_0) dX6_reverse_24 rfl ?_
    refine ex_getr (q := 28) dX6_reverse_25 fl_X6_13 s1 ea3 ?_
    refine ex_aload_n (q := 29) (x := a_0) dX6_reverse_28 rfl ?_
    refine ex_getf (q := 32) dX6_reverse_29 fl_X6_19 s1 ?_
    refine ex_iconst (q := 33) (v := 1) dX6_reverse_32 (by decide) ?_
    refine ex_isub (q := 34) dX6_reverse_33 ?_
    refine ex_iload_n (q := 35) (x := v_1) dX6_reverse_34 rfl ?_
    refine ex_isub (q := 36) dX6_reverse_35 ?_
    have s6 := w.1
    replace w := w.2
    refine ex_iald (q := 37) dX6_reverse_36 s6 ?_
    have s8 := w.1
    replace w := w.2
    refine ex_iast (q := 38) dX6_reverse_37 s8 ?_
    refine ex_nmh (fun h7 eh7 => ?_)
    replace w := w h7 eh7
    refine ex_aload_n (q := 39) (x := a_0) dX6_reverse_38 rfl ?_
    refine ex_getr (q := 42) dX6_reverse_39 fl_X6_13 (by rw [eh7]; exact s1) (by rw [eh7]; exact ea3) ?_
    refine ex_aload_n (q := 43) (x := a_0) dX6_reverse_42 rfl ?_
    refine ex_getf (q := 46) dX6_reverse_43 fl_X6_19 (by rw [eh7]; exact s1) ?_
    refine ex_iconst (q := 47) (v := 1) dX6_reverse_46 (by decide) ?_
    refine ex_isub (q := 48) dX6_reverse_47 ?_
    refine ex_iload_n (q := 49) (x := v_1) dX6_reverse_48 rfl ?_
    refine ex_isub (q := 50) dX6_reverse_49 ?_
    refine ex_iload_n (q := 51) (x := x5) dX6_reverse_50 rfl ?_
    have s10 := w.1
    replace w := w.2
    refine ex_iast (q := 52) dX6_reverse_51 s10 ?_
    refine ex_nmh (fun h9 eh9 => ?_)
    replace w := w h9 eh9
    obtain ⟨x11, ex11⟩ : ∃ y : Int32, y = v_1 + 1 := ⟨_, rfl⟩
    replace w := w x11 ex11
    refine ex_iinc (q := 55) (x := v_1) (v := x11) (ls' := [.ref a_0, .int x11, .int x5]) dX6_reverse_52 rfl (by rw [ex11]; rfl) rfl ?_
    refine ex_goto (tgt := 2) dX6_reverse_55 ?_
    refine ex_kill 2 (ls' := [.ref a_0, .int x11, .retAddr 0]) rfl ?_
    exact w

theorem X6_reverse_e {d bc bs : Nat} {h : AH} {Q : Option Value → AH → Prop} {a_0 : Nat} (w : ex_G mX6_reverse d 0 [.ref a_0, .retAddr 0, .retAddr 0] [] h bc bs Q) : ex_S yX6_reverse mX6_reverse d [.ref a_0] h bc bs Q :=
  ex_enter (plainFor_of_name (by decide +kernel)) ⟨rfl, rfl⟩ rfl rfl (Nat.le_of_ble_eq_true rfl) (ex_pad 2 w)

set_option maxRecDepth 100000 in
theorem X2_init_0 {d bc bs : Nat} {h : AH} {Q : Option Value → AH → Prop} {a_0 : Nat} (w : ah_n h < 10000000 ∧ ∀ h2, h2 = ah_na h 2 281 → ah_o h2 a_0 2 ∧ ∀ h4, h4 = ah_sr h2 a_0 0 (some (ah_n h)) → ah_n h4 < 10000000 ∧ ∀ h6, h6 = ah_na h4 2 281 → ah_o h6 a_0 2 ∧ ∀ h8, h8 = ah_sr h6 a_0 1 (some (ah_n h4)) → Q none h8) : ex_G mX2_init (d + 1) 0 [.ref a_0] [] h (bc + 2) (bs + 562) Q := by
  refine ex_aload_n (q := 1) (x := a_0) dX2_init_0 rfl ?_
  refine ex_objInit (q := 4) (hd1 := Nat.succ_le_succ (Nat.zero_le _)) (h1 := wd_135) (h2 := wd_136) (st := []) dX2_init_1 wd_318 ?_
  refine ex_aload_n (q := 5) (x := a_0) dX2_init_4 rfl ?_
  refine ex_sipush (q := 8) (v := 281) dX2_init_5 (by decide) ?_
  have s1 := w.1
  replace w := w.2
  refine ex_G.room (bc' := (bc + 1) + 1) (bs' := (bs + 281) + 281) (Nat.le_refl _) (rm_le rfl) (rm_le rfl) ?_
  refine ex_newarray (q := 10) (t := 2) (N := 281) (M := mX2_init) dX2_init_8 rfl (by decide) wd_330 rfl (by decide) s1 ?_
  refine ex_nmh (fun h2 eh2 => ?_)
  replace w := w h2 eh2
  have s3 := w.1
  replace w := w.2
  refine ex_putr (q := 13) dX2_init_10 fl_X2_9 (Or.inl rfl) s3 ?_
  refine ex_nmh (fun h4 eh4 => ?_)
  replace w := w h4 eh4
  refine ex_aload_n (q := 14) (x := a_0) dX2_init_13 rfl ?_
  refine ex_sipush (q := 17) (v := 281) dX2_init_14 (by decide) ?_
  have s5 := w.1
  replace w := w.2
  refine ex_G.room (bc' := bc + 1) (bs' := bs + 281) (Nat.le_refl _) (Nat.le_refl _) (Nat.le_refl _) ?_
  refine ex_newarray (q := 19) (t := 2) (N := 281) (M := mX2_init) dX2_init_17 rfl (by decide) wd_330 rfl (by decide) s5 ?_
  refine ex_nmh (fun h6 eh6 => ?_)
  replace w := w h6 eh6
  have s7 := w.1
  replace w := w.2
  refine ex_putr (q := 22) dX2_init_19 fl_X2_13 (Or.inl rfl) s7 ?_
  refine ex_nmh (fun h8 eh8 => ?_)
  replace w := w h8 eh8
  exact ex_return dX2_init_22 w

theorem X2_init_e {d bc bs : Nat} {h : AH} {Q : Option Value → AH → Prop} {a_0 : Nat} (w : ex_G mX2_init (d + 1) 0 [.ref a_0] [] h bc bs Q) : ex_S yX2_init mX2_init (d + 1) [.ref a_0] h bc bs Q :=
  ex_enter (plainFor_of_name (by decide +kernel)) ⟨rfl, rfl⟩ rfl rfl (Nat.le_of_ble_eq_true rfl) (ex_pad 0 w)

set_option maxRecDepth 100000 in
theorem X2_empty_0 {d bc bs : Nat} {h : AH} {Q : Option Value → AH → Prop} {a_0 : Nat} (w : ah_o h a_0 2 ∧ ∃ a2, ah_r h a_0 0 = some a2 ∧ ex_S yJ7_fill_d0a16 mJ7_fill_d0a16 d [.ref a2, .long 0] h 0 0 (fun r h3 => r = none ∧ ah_o h3 a_0 2 ∧ ∀ h5, h5 = ah_sf h3 a_0 2 1 → Q none h5)) : ex_G mX2_empty (d + 1) 0 [.ref a_0] [] h bc bs Q := by
  refine ex_aload_n (q := 1) (x := a_0) dX2_empty_0 rfl ?_
  have s1 := w.1
  replace w := w.2
  obtain ⟨a2, ea2, w⟩ := w
  refine ex_getr (q := 4) dX2_empty_1 fl_X2_9 s1 ea2 ?_
  refine ex_lconst (q := 5) (v := 0) dX2_empty_4 (by decide) ?_
  refine ex_callS (q := 8) (M := mX2_empty) (hdd := Nat.le_refl _) (st := []) (bc := bc) (bs := bs) dX2_empty_5 rfl cl_X2_16 wd_864 w ?_
  rintro r h3 ⟨rfl, w⟩
  show ex_G mX2_empty (d + 1) 8 [.ref a_0] [] h3 bc bs Q
  refine ex_aload_n (q := 9) (x := a_0) dX2_empty_8 rfl ?_
  refine ex_iconst (q := 10) (v := 1) dX2_empty_9 (by decide) ?_
  have s4 := w.1
  replace w := w.2
  refine ex_putf (q := 13) dX2_empty_10 fl_X2_22 (Or.inl rfl) s4 (Or.inr ⟨rfl, Or.inr rfl⟩) ?_
  refine ex_nmh (fun h5 eh5 => ?_)
  replace w := w h5 eh5
  exact ex_return dX2_empty_13 w

theorem X2_empty_e {d bc bs : Nat} {h : AH} {Q : Option Value → AH → Prop} {a_0 : Nat} (w : ex_G mX2_empty (d + 1) 0 [.ref a_0] [] h bc bs Q) : ex_S yX2_empty mX2_empty (d + 1) [.ref a_0] h bc bs Q :=
  ex_enter (plainFor_of_name (by decide +kernel)) ⟨rfl, rfl⟩ rfl rfl (Nat.le_of_ble_eq_true rfl) (ex_pad 0 w)

set_option maxRecDepth 100000 in
theorem X2_add_0 {d bc bs : Nat} {h : AH} {Q : Option Value → AH → Prop} {a_0 : Nat} {v_1 : Int32} {v_2 : Int64} (w : ((v_1 < (-140) → Q none h) ∧ (¬ v_1 < (-140) → ((140 < v_1 → Q none h) ∧ (¬ 140 < v_1 → ah_o h a_0 2 ∧ ∃ a4, ah_r h a_0 0 = some a4 ∧ ld2 h a4 (v_1 + 140) ∧ ∀ h6, h6 = ah_sl h a4 (Int32.toNatClampNeg (v_1 + 140)) ((ah_l h a4 (Int32.toNatClampNeg (v_1 + 140))) + v_2) → Q none h6))))) : ex_G mX2_add d 0 [.ref a_0, .int v_1, .long v_2, .retAddr 0] [] h bc bs Q := by
  refine ex_iload_n (q := 1) (x := v_1) dX2_add_0 rfl ?_
  refine ex_sipush (q := 4) (v := (-140)) dX2_add_1 (by decide) ?_
  refine ex_icmp_lt (tgt := 28) (q := 7) dX2_add_4 (fun c1 => ?_) (fun c1 => ?_)
  · replace w := w.1 c1
    exact ex_return dX2_add_28 w
  · replace w := w.2 c1
    refine ex_iload_n (q := 8) (x := v_1) dX2_add_7 rfl ?_
    refine ex_sipush (q := 11) (v := 140) dX2_add_8 (by decide) ?_
    refine ex_icmp_gt (tgt := 28) (q := 14) dX2_add_11 (fun c2 => ?_) (fun c2 => ?_)
    · replace w := w.1 c2
      exact ex_return dX2_add_28 w
    · replace w := w.2 c2
      refine ex_aload_n (q := 15) (x := a_0) dX2_add_14 rfl ?_
      have s3 := w.1
      replace w := w.2
      obtain ⟨a4, ea4, w⟩ := w
      refine ex_getr (q := 18) dX2_add_15 fl_X2_9 s3 ea4 ?_
      refine ex_iload_n (q := 19) (x := v_1) dX2_add_18 rfl ?_
      refine ex_sipush (q := 22) (v := 140) dX2_add_19 (by decide) ?_
      refine ex_iadd (q := 23) dX2_add_22 ?_
      refine ex_dup2 (q := 24) dX2_add_23 rfl rfl ?_
      have s5 := w.1
      replace w := w.2
      refine ex_lald (q := 25) dX2_add_24 s5 ?_
      refine ex_lload_n (q := 26) (x := v_2) dX2_add_25 rfl ?_
      refine ex_ladd (q := 27) dX2_add_26 ?_
      refine ex_last (q := 28) dX2_add_27 s5 ?_
      refine ex_nmh (fun h6 eh6 => ?_)
      replace w := w h6 eh6
      exact ex_return dX2_add_28 w

theorem X2_add_e {d bc bs : Nat} {h : AH} {Q : Option Value → AH → Prop} {a_0 : Nat} {v_1 : Int32} {v_2 : Int64} (w : ex_G mX2_add d 0 [.ref a_0, .int v_1, .long v_2, .retAddr 0] [] h bc bs Q) : ex_S yX2_add mX2_add d [.ref a_0, .int v_1, .long v_2] h bc bs Q :=
  ex_enter (plainFor_of_name (by decide +kernel)) ⟨rfl, rfl⟩ rfl rfl (Nat.le_of_ble_eq_true rfl) (ex_pad 0 w)

set_option maxRecDepth 100000 in
theorem X2_multiplyByCircle_0 {d bc bs : Nat} {h : AH} {Q : Option Value → AH → Prop} {a_0 : Nat} (w : ex_G mX2_multiplyByCircle (d + 1) 4 [.ref a_0, .int (-140)] [] h bc bs Q) : ex_G mX2_multiplyByCircle (d + 1) 0 [.ref a_0, .retAddr 0] [] h bc bs Q := by
  refine ex_sipush (q := 3) (v := (-140)) dX2_multiplyByCircle_0 (by decide) ?_
  refine ex_istore_n (q := 4) (ls' := [.ref a_0, .int (-140)]) dX2_multiplyByCircle_3 rfl ?_
  exact w

set_option maxRecDepth 100000 in
theorem X2_multiplyByCircle_4 {d bc bs : Nat} {h : AH} {Q : Option Value → AH → Prop} {a_0 : Nat} {v_1 : Int32} (w : ((140 < v_1 → ah_o h a_0 2 ∧ X2_swapRows_C a_0 h ∧ ∀ h4, h4 = X2_swapRows_H a_0 h → Q none h4) ∧ (¬ 140 < v_1 → ah_o h a_0 2 ∧ ∃ a6, ah_r h a_0 1 = some a6 ∧ X2_numberAt_C a_0 (v_1 - 2) h ∧ X2_numberAt_C a_0 (v_1 + 2) h ∧ ld2 h a6 (v_1 + 140) ∧ ∀ h9, h9 = ah_sl h a6 (Int32.toNatClampNeg (v_1 + 140)) ((-(X2_numberAt_V a_0 (v_1 - 2) h)) - (X2_numberAt_V a_0 (v_1 + 2) h)) → ∀ x11, x11 = v_1 + 1 → ex_G mX2_multiplyByCircle (d + 1) 4 [.ref a_0, .int x11] [] h9 bc bs Q))) : ex_G mX2_multiplyByCircle (d + 1) 4 [.ref a_0, .int v_1] [] h bc bs Q := by
  refine ex_iload_n (q := 5) (x := v_1) dX2_multiplyByCircle_4 rfl ?_
  refine ex_sipush (q := 8) (v := 140) dX2_multiplyByCircle_5 (by decide) ?_
  refine ex_icmp_gt (tgt := 43) (q := 11) dX2_multiplyByCircle_8 (fun c1 => ?_) (fun c1 => ?_)
  · replace w := w.1 c1
    refine ex_aload_n (q := 44) (x := a_0) dX2_multiplyByCircle_43 rfl ?_
    have s2 := w.1
    replace w := w.2
    have s3 := w.1
    replace w := w.2
    refine ex_callV (q := 47) (M := mX2_multiplyByCircle) (hdd := Nat.le_refl _) (mc := 0) (ms := 0) (d' := d) (c := 2) (st := []) (bc := bc) (bs := bs) dX2_multiplyByCircle_44 rfl cl_X2_30 wd_876 wd_24 s2 (X2_swapRows_s (Q := fun r z => r = none ∧ z = X2_swapRows_H a_0 h) s3 ⟨rfl, rfl⟩) ?_
    intro r z hrz
    rw [hrz.1, hrz.2]
    show ex_G mX2_multiplyByCircle (d + 1) 47 [.ref a_0, .int v_1] [] (X2_swapRows_H a_0 h) bc bs Q
    refine ex_nmh (fun h4 eh4 => ?_)
    replace w := w h4 eh4
    exact ex_return dX2_multiplyByCircle_47 w
  · replace w := w.2 c1
    refine ex_aload_n (q := 12) (x := a_0) dX2_multiplyByCircle_11 rfl ?_
    have s5 := w.1
    replace w := w.2
    obtain ⟨a6, ea6, w⟩ := w
    refine ex_getr (q := 15) dX2_multiplyByCircle_12 fl_X2_13 s5 ea6 ?_
    refine ex_iload_n (q := 16) (x := v_1) dX2_multiplyByCircle_15 rfl ?_
    refine ex_sipush (q := 19) (v := 140) dX2_multiplyByCircle_16 (by decide) ?_
    refine ex_iadd (q := 20) dX2_multiplyByCircle_19 ?_
    refine ex_aload_n (q := 21) (x := a_0) dX2_multiplyByCircle_20 rfl ?_
    refine ex_iload_n (q := 22) (x := v_1) dX2_multiplyByCircle_21 rfl ?_
    refine ex_iconst (q := 23) (v := 2) dX2_multiplyByCircle_22 (by decide) ?_
    refine ex_isub (q := 24) dX2_multiplyByCircle_23 ?_
    have s7 := w.1
    replace w := w.2
    refine ex_callV (q := 27) (M := mX2_multiplyByCircle) (hdd := Nat.le_refl _) (mc := 0) (ms := 0) (d' := d) (c := 2) (st := [.int (v_1 + 140), .ref a6]) (bc := bc) (bs := bs) dX2_multiplyByCircle_24 rfl cl_X2_26 wd_871 wd_872 s5 (X2_numberAt_s (Q := fun r z => r = some (.long (X2_numberAt_V a_0 (v_1 - 2) h)) ∧ z = h) s7 ⟨rfl, rfl⟩) ?_
    intro r z hrz
    rw [hrz.1, hrz.2]
    show ex_G mX2_multiplyByCircle (d + 1) 27 [.ref a_0, .int v_1] [.long (X2_numberAt_V a_0 (v_1 - 2) h), .int (v_1 + 140), .ref a6] (h) bc bs Q
    refine ex_lneg (q := 28) dX2_multiplyByCircle_27 ?_
    refine ex_aload_n (q := 29) (x := a_0) dX2_multiplyByCircle_28 rfl ?_
    refine ex_iload_n (q := 30) (x := v_1) dX2_multiplyByCircle_29 rfl ?_
    refine ex_iconst (q := 31) (v := 2) dX2_multiplyByCircle_30 (by decide) ?_
    refine ex_iadd (q := 32) dX2_multiplyByCircle_31 ?_
    have s8 := w.1
    replace w := w.2
    refine ex_callV (q := 35) (M := mX2_multiplyByCircle) (hdd := Nat.le_refl _) (mc := 0) (ms := 0) (d' := d) (c := 2) (st := [.long (-(X2_numberAt_V a_0 (v_1 - 2) h)), .int (v_1 + 140), .ref a6]) (bc := bc) (bs := bs) dX2_multiplyByCircle_32 rfl cl_X2_26 wd_871 wd_872 s5 (X2_numberAt_s (Q := fun r z => r = some (.long (X2_numberAt_V a_0 (v_1 + 2) h)) ∧ z = h) s8 ⟨rfl, rfl⟩) ?_
    intro r z hrz
    rw [hrz.1, hrz.2]
    show ex_G mX2_multiplyByCircle (d + 1) 35 [.ref a_0, .int v_1] [.long (X2_numberAt_V a_0 (v_1 + 2) h), .long (-(X2_numberAt_V a_0 (v_1 - 2) h)), .int (v_1 + 140), .ref a6] (h) bc bs Q
    refine ex_lsub (q := 36) dX2_multiplyByCircle_35 ?_
    have s10 := w.1
    replace w := w.2
    refine ex_last (q := 37) dX2_multiplyByCircle_36 s10 ?_
    refine ex_nmh (fun h9 eh9 => ?_)
    replace w := w h9 eh9
    obtain ⟨x11, ex11⟩ : ∃ y : Int32, y = v_1 + 1 := ⟨_, rfl⟩
    replace w := w x11 ex11
    refine ex_iinc (q := 40) (x := v_1) (v := x11) (ls' := [.ref a_0, .int x11]) dX2_multiplyByCircle_37 rfl (by rw [ex11]; rfl) rfl ?_
    refine ex_goto (tgt := 4) dX2_multiplyByCircle_40 ?_
    exact w

theorem X2_multiplyByCircle_e {d bc bs : Nat} {h : AH} {Q : Option Value → AH → Prop} {a_0 : Nat} (w : ex_G mX2_multiplyByCircle (d + 1) 0 [.ref a_0, .retAddr 0] [] h bc bs Q) : ex_S yX2_multiplyByCircle mX2_multiplyByCircle (d + 1) [.ref a_0] h bc bs Q :=
  ex_enter (plainFor_of_name (by decide +kernel)) ⟨rfl, rfl⟩ rfl rfl (Nat.le_of_ble_eq_true rfl) (ex_pad 1 w)

set_option maxRecDepth 100000 in
theorem X2_levelOut_0 {d bc bs : Nat} {h : AH} {Q : Option Value → AH → Prop} {a_0 : Nat} {v_1 : Int32} (w : ((¬ (v_1 &&& 1) = 1 → ex_G mX2_levelOut (d + 1) 17 [.ref a_0, .int v_1, .int 1, .int (-140)] [] h bc bs Q) ∧ ((v_1 &&& 1) = 1 → ex_G mX2_levelOut (d + 1) 17 [.ref a_0, .int v_1, .int (-1), .int (-140)] [] h bc bs Q))) : ex_G mX2_levelOut (d + 1) 0 [.ref a_0, .int v_1, .retAddr 0, .retAddr 0] [] h bc bs Q := by
  refine ex_iload_n (q := 1) (x := v_1) dX2_levelOut_0 rfl ?_
  refine ex_iconst (q := 2) (v := 1) dX2_levelOut_1 (by decide) ?_
  refine ex_iand (q := 3) dX2_levelOut_2 ?_
  refine ex_iconst (q := 4) (v := 1) dX2_levelOut_3 (by decide) ?_
  refine ex_icmp_ne (tgt := 11) (q := 7) dX2_levelOut_4 (fun c1 => ?_) (fun c1 => ?_)
  · replace w := w.1 c1
    refine ex_iconst (q := 12) (v := 1) dX2_levelOut_11 (by decide) ?_
    refine ex_istore_n (q := 13) (ls' := [.ref a_0, .int v_1, .int 1, .retAddr 0]) dX2_levelOut_12 rfl ?_
    refine ex_sipush (q := 16) (v := (-140)) dX2_levelOut_13 (by decide) ?_
    refine ex_istore_n (q := 17) (ls' := [.ref a_0, .int v_1, .int 1, .int (-140)]) dX2_levelOut_16 rfl ?_
    exact w
  · replace w := w.2 c1
    refine ex_iconst (q := 8) (v := (-1)) dX2_levelOut_7 (by decide) ?_
    refine ex_goto (tgt := 12) dX2_levelOut_8 ?_
    refine ex_istore_n (q := 13) (ls' := [.ref a_0, .int v_1, .int (-1), .retAddr 0]) dX2_levelOut_12 rfl ?_
    refine ex_sipush (q := 16) (v := (-140)) dX2_levelOut_13 (by decide) ?_
    refine ex_istore_n (q := 17) (ls' := [.ref a_0, .int v_1, .int (-1), .int (-140)]) dX2_levelOut_16 rfl ?_
    exact w

set_option maxRecDepth 100000 in
theorem X2_levelOut_17 {d bc bs : Nat} {h : AH} {Q : Option Value → AH → Prop} {a_0 : Nat} {v_1 : Int32} {v_2 : Int32} {v_3 : Int32} (w : ((140 < v_3 → ah_o h a_0 2 ∧ X2_swapRows_C a_0 h ∧ ∀ h4, h4 = X2_swapRows_H a_0 h → Q none h4) ∧ (¬ 140 < v_3 → ah_o h a_0 2 ∧ ∃ a6, ah_r h a_0 1 = some a6 ∧ X2_numberAt_C a_0 (v_3 + (3 * v_1)) h ∧ ld2 h a6 (v_3 + 140) ∧ ∀ h8, h8 = ah_sl h a6 (Int32.toNatClampNeg (v_3 + 140)) ((Int32.toInt64 v_2) * (X2_numberAt_V a_0 (v_3 + (3 * v_1)) h)) → ∀ x10, x10 = v_3 + 1 → ex_G mX2_levelOut (d + 1) 17 [.ref a_0, .int v_1, .int v_2, .int x10] [] h8 bc bs Q))) : ex_G mX2_levelOut (d + 1) 17 [.ref a_0, .int v_1, .int v_2, .int v_3] [] h bc bs Q := by
  refine ex_iload_n (q := 18) (x := v_3) dX2_levelOut_17 rfl ?_
  refine ex_sipush (q := 21) (v := 140) dX2_levelOut_18 (by decide) ?_
  refine ex_icmp_gt (tgt := 52) (q := 24) dX2_levelOut_21 (fun c1 => ?_) (fun c1 => ?_)
  · replace w := w.1 c1
    refine ex_aload_n (q := 53) (x := a_0) dX2_levelOut_52 rfl ?_
    have s2 := w.1
    replace w := w.2
    have s3 := w.1
    replace w := w.2
    refine ex_callV (q := 56) (M := mX2_levelOut) (hdd := Nat.le_refl _) (mc := 0) (ms := 0) (d' := d) (c := 2) (st := []) (bc := bc) (bs := bs) dX2_levelOut_53 rfl cl_X2_30 wd_876 wd_24 s2 (X2_swapRows_s (Q := fun r z => r = none ∧ z = X2_swapRows_H a_0 h) s3 ⟨rfl, rfl⟩) ?_
    intro r z hrz
    rw [hrz.1, hrz.2]
    show ex_G mX2_levelOut (d + 1) 56 [.ref a_0, .int v_1, .int v_2, .int v_3] [] (X2_swapRows_H a_0 h) bc bs Q
    refine ex_nmh (fun h4 eh4 => ?_)
    replace w := w h4 eh4
    exact ex_return dX2_levelOut_56 w
  · replace w := w.2 c1
    refine ex_aload_n (q := 25) (x := a_0) dX2_levelOut_24 rfl ?_
    have s5 := w.1
    replace w := w.2
    obtain ⟨a6, ea6, w⟩ := w
    refine ex_getr (q := 28) dX2_levelOut_25 fl_X2_13 s5 ea6 ?_
    refine ex_iload_n (q := 29) (x := v_3) dX2_levelOut_28 rfl ?_
    refine ex_sipush (q := 32) (v := 140) dX2_levelOut_29 (by decide) ?_
    refine ex_iadd (q := 33) dX2_levelOut_32 ?_
    refine ex_iload_n (q := 34) (x := v_2) dX2_levelOut_33 rfl ?_
    refine ex_i2l (q := 35) dX2_levelOut_34 ?_
    refine ex_aload_n (q := 36) (x := a_0) dX2_levelOut_35 rfl ?_
    refine ex_iload_n (q := 37) (x := v_3) dX2_levelOut_36 rfl ?_
    refine ex_iconst (q := 38) (v := 3) dX2_levelOut_37 (by decide) ?_
    refine ex_iload_n (q := 39) (x := v_1) dX2_levelOut_38 rfl ?_
    refine ex_imul (q := 40) dX2_levelOut_39 ?_
    refine ex_iadd (q := 41) dX2_levelOut_40 ?_
    have s7 := w.1
    replace w := w.2
    refine ex_callV (q := 44) (M := mX2_levelOut) (hdd := Nat.le_refl _) (mc := 0) (ms := 0) (d' := d) (c := 2) (st := [.long (Int32.toInt64 v_2), .int (v_3 + 140), .ref a6]) (bc := bc) (bs := bs) dX2_levelOut_41 rfl cl_X2_26 wd_871 wd_872 s5 (X2_numberAt_s (Q := fun r z => r = some (.long (X2_numberAt_V a_0 (v_3 + (3 * v_1)) h)) ∧ z = h) s7 ⟨rfl, rfl⟩) ?_
    intro r z hrz
    rw [hrz.1, hrz.2]
    show ex_G mX2_levelOut (d + 1) 44 [.ref a_0, .int v_1, .int v_2, .int v_3] [.long (X2_numberAt_V a_0 (v_3 + (3 * v_1)) h), .long (Int32.toInt64 v_2), .int (v_3 + 140), .ref a6] (h) bc bs Q
    refine ex_lmul (q := 45) dX2_levelOut_44 ?_
    have s9 := w.1
    replace w := w.2
    refine ex_last (q := 46) dX2_levelOut_45 s9 ?_
    refine ex_nmh (fun h8 eh8 => ?_)
    replace w := w h8 eh8
    obtain ⟨x10, ex10⟩ : ∃ y : Int32, y = v_3 + 1 := ⟨_, rfl⟩
    replace w := w x10 ex10
    refine ex_iinc (q := 49) (x := v_3) (v := x10) (ls' := [.ref a_0, .int v_1, .int v_2, .int x10]) dX2_levelOut_46 rfl (by rw [ex10]; rfl) rfl ?_
    refine ex_goto (tgt := 17) dX2_levelOut_49 ?_
    exact w

theorem X2_levelOut_e {d bc bs : Nat} {h : AH} {Q : Option Value → AH → Prop} {a_0 : Nat} {v_1 : Int32} (w : ex_G mX2_levelOut (d + 1) 0 [.ref a_0, .int v_1, .retAddr 0, .retAddr 0] [] h bc bs Q) : ex_S yX2_levelOut mX2_levelOut (d + 1) [.ref a_0, .int v_1] h bc bs Q :=
  ex_enter (plainFor_of_name (by decide +kernel)) ⟨rfl, rfl⟩ rfl rfl (Nat.le_of_ble_eq_true rfl) (ex_pad 2 w)

set_option maxRecDepth 100000 in
theorem X2_countNumbers_0 {d bc bs : Nat} {h : AH} {Q : Option Value → AH → Prop} {a_0 : Nat} (w : ex_G mX2_countNumbers d 4 [.ref a_0, .int 0, .int 0] [] h bc bs Q) : ex_G mX2_countNumbers d 0 [.ref a_0, .retAddr 0, .retAddr 0] [] h bc bs Q := by
  refine ex_iconst (q := 1) (v := 0) dX2_countNumbers_0 (by decide) ?_
  refine ex_istore_n (q := 2) (ls' := [.ref a_0, .int 0, .retAddr 0]) dX2_countNumbers_1 rfl ?_
  refine ex_iconst (q := 3) (v := 0) dX2_countNumbers_2 (by decide) ?_
  refine ex_istore_n (q := 4) (ls' := [.ref a_0, .int 0, .int 0]) dX2_countNumbers_3 rfl ?_
  exact w

set_option maxRecDepth 100000 in
theorem X2_countNumbers_4 {d bc bs : Nat} {h : AH} {Q : Option Value → AH → Prop} {a_0 : Nat} {v_1 : Int32} {v_2 : Int32} (w : ((281 ≤ v_2 → Q (some (.int v_1)) h) ∧ (¬ 281 ≤ v_2 → ah_o h a_0 2 ∧ ∃ a3, ah_r h a_0 0 = some a3 ∧ ld2 h a3 v_2 ∧ (((lg_cmp (ah_l h a3 (Int32.toNatClampNeg v_2)) 0) = 0 → ∀ x6, x6 = v_2 + 1 → ex_G mX2_countNumbers d 4 [.ref a_0, .int v_1, .int x6] [] h bc bs Q) ∧ (¬ (lg_cmp (ah_l h a3 (Int32.toNatClampNeg v_2)) 0) = 0 → ∀ x7, x7 = v_1 + 1 → ∀ x8, x8 = v_2 + 1 → ex_G mX2_countNumbers d 4 [.ref a_0, .int x7, .int x8] [] h bc bs Q))))) : ex_G mX2_countNumbers d 4 [.ref a_0, .int v_1, .int v_2] [] h bc bs Q := by
  refine ex_iload_n (q := 5) (x := v_2) dX2_countNumbers_4 rfl ?_
  refine ex_sipush (q := 8) (v := 281) dX2_countNumbers_5 (by decide) ?_
  refine ex_icmp_ge (tgt := 31) (q := 11) dX2_countNumbers_8 (fun c1 => ?_) (fun c1 => ?_)
  · replace w := w.1 c1
    refine ex_iload_n (q := 32) (x := v_1) dX2_countNumbers_31 rfl ?_
    exact ex_ireturn dX2_countNumbers_32 rfl (Or.inl rfl) w
  · replace w := w.2 c1
    refine ex_aload_n (q := 12) (x := a_0) dX2_countNumbers_11 rfl ?_
    have s2 := w.1
    replace w := w.2
    obtain ⟨a3, ea3, w⟩ := w
    refine ex_getr (q := 15) dX2_countNumbers_12 fl_X2_9 s2 ea3 ?_
    refine ex_iload_n (q := 16) (x := v_2) dX2_countNumbers_15 rfl ?_
    have s4 := w.1
    replace w := w.2
    refine ex_lald (q := 17) dX2_countNumbers_16 s4 ?_
    refine ex_lconst (q := 18) (v := 0) dX2_countNumbers_17 (by decide) ?_
    refine ex_lcmp (q := 19) dX2_countNumbers_18 ?_
    refine ex_if_eq (tgt := 25) (q := 22) dX2_countNumbers_19 (fun c5 => ?_) (fun c5 => ?_)
    · replace w := w.1 c5
      obtain ⟨x6, ex6⟩ : ∃ y : Int32, y = v_2 + 1 := ⟨_, rfl⟩
      replace w := w x6 ex6
      refine ex_iinc (q := 28) (x := v_2) (v := x6) (ls' := [.ref a_0, .int v_1, .int x6]) dX2_countNumbers_25 rfl (by rw [ex6]; rfl) rfl ?_
      refine ex_goto (tgt := 4) dX2_countNumbers_28 ?_
      exact w
    · replace w := w.2 c5
      obtain ⟨x7, ex7⟩ : ∃ y : Int32, y = v_1 + 1 := ⟨_, rfl⟩
      replace w := w x7 ex7
      refine ex_iinc (q := 25) (x := v_1) (v := x7) (ls' := [.ref a_0, .int x7, .int v_2]) dX2_countNumbers_22 rfl (by rw [ex7]; rfl) rfl ?_
      obtain ⟨x8, ex8⟩ : ∃ y : Int32, y = v_2 + 1 := ⟨_, rfl⟩
      replace w := w x8 ex8
      refine ex_iinc (q := 28) (x := v_2) (v := x8) (ls' := [.ref a_0, .int x7, .int x8]) dX2_countNumbers_25 rfl (by rw [ex8]; rfl) rfl ?_
      refine ex_goto (tgt := 4) dX2_countNumbers_28 ?_
      exact w

theorem X2_countNumbers_e {d bc bs : Nat} {h : AH} {Q : Option Value → AH → Prop} {a_0 : Nat} (w : ex_G mX2_countNumbers d 0 [.ref a_0, .retAddr 0, .retAddr 0] [] h bc bs Q) : ex_S yX2_countNumbers mX2_countNumbers d [.ref a_0] h bc bs Q :=
  ex_enter (plainFor_of_name (by decide +kernel)) ⟨rfl, rfl⟩ rfl rfl (Nat.le_of_ble_eq_true rfl) (ex_pad 2 w)

set_option maxRecDepth 100000 in
theorem X2_lowest_0 {d bc bs : Nat} {h : AH} {Q : Option Value → AH → Prop} {a_0 : Nat} (w : ex_G mX2_lowest d 2 [.ref a_0, .int 0] [] h bc bs Q) : ex_G mX2_lowest d 0 [.ref a_0, .retAddr 0] [] h bc bs Q := by
  refine ex_iconst (q := 1) (v := 0) dX2_lowest_0 (by decide) ?_
  refine ex_istore_n (q := 2) (ls' := [.ref a_0, .int 0]) dX2_lowest_1 rfl ?_
  exact w

set_option maxRecDepth 100000 in
theorem X2_lowest_2 {d bc bs : Nat} {h : AH} {Q : Option Value → AH → Prop} {a_0 : Nat} {v_1 : Int32} (w : ((281 ≤ v_1 → Q (some (.int 0)) h) ∧ (¬ 281 ≤ v_1 → ah_o h a_0 2 ∧ ∃ a3, ah_r h a_0 0 = some a3 ∧ ld2 h a3 v_1 ∧ (((lg_cmp (ah_l h a3 (Int32.toNatClampNeg v_1)) 0) = 0 → ∀ x6, x6 = v_1 + 1 → ex_G mX2_lowest d 2 [.ref a_0, .int x6] [] h bc bs Q) ∧ (¬ (lg_cmp (ah_l h a3 (Int32.toNatClampNeg v_1)) 0) = 0 → Q (some (.int (v_1 - 140))) h))))) : ex_G mX2_lowest d 2 [.ref a_0, .int v_1] [] h bc bs Q := by
  refine ex_iload_n (q := 3) (x := v_1) dX2_lowest_2 rfl ?_
  refine ex_sipush (q := 6) (v := 281) dX2_lowest_3 (by decide) ?_
  refine ex_icmp_ge (tgt := 32) (q := 9) dX2_lowest_6 (fun c1 => ?_) (fun c1 => ?_)
  · replace w := w.1 c1
    refine ex_iconst (q := 33) (v := 0) dX2_lowest_32 (by decide) ?_
    exact ex_ireturn dX2_lowest_33 rfl (Or.inl rfl) w
  · replace w := w.2 c1
    refine ex_aload_n (q := 10) (x := a_0) dX2_lowest_9 rfl ?_
    have s2 := w.1
    replace w := w.2
    obtain ⟨a3, ea3, w⟩ := w
    refine ex_getr (q := 13) dX2_lowest_10 fl_X2_9 s2 ea3 ?_
    refine ex_iload_n (q := 14) (x := v_1) dX2_lowest_13 rfl ?_
    have s4 := w.1
    replace w := w.2
    refine ex_lald (q := 15) dX2_lowest_14 s4 ?_
    refine ex_lconst (q := 16) (v := 0) dX2_lowest_15 (by decide) ?_
    refine ex_lcmp (q := 17) dX2_lowest_16 ?_
    refine ex_if_eq (tgt := 26) (q := 20) dX2_lowest_17 (fun c5 => ?_) (fun c5 => ?_)
    · replace w := w.1 c5
      obtain ⟨x6, ex6⟩ : ∃ y : Int32, y = v_1 + 1 := ⟨_, rfl⟩
      replace w := w x6 ex6
      refine ex_iinc (q := 29) (x := v_1) (v := x6) (ls' := [.ref a_0, .int x6]) dX2_lowest_26 rfl (by rw [ex6]; rfl) rfl ?_
      refine ex_goto (tgt := 2) dX2_lowest_29 ?_
      exact w
    · replace w := w.2 c5
      refine ex_iload_n (q := 21) (x := v_1) dX2_lowest_20 rfl ?_
      refine ex_sipush (q := 24) (v := 140) dX2_lowest_21 (by decide) ?_
      refine ex_isub (q := 25) dX2_lowest_24 ?_
      exact ex_ireturn dX2_lowest_25 rfl (Or.inl rfl) w

theorem X2_lowest_e {d bc bs : Nat} {h : AH} {Q : Option Value → AH → Prop} {a_0 : Nat} (w : ex_G mX2_lowest d 0 [.ref a_0, .retAddr 0] [] h bc bs Q) : ex_S yX2_lowest mX2_lowest d [.ref a_0] h bc bs Q :=
  ex_enter (plainFor_of_name (by decide +kernel)) ⟨rfl, rfl⟩ rfl rfl (Nat.le_of_ble_eq_true rfl) (ex_pad 1 w)

set_option maxRecDepth 100000 in
theorem X2_highest_0 {d bc bs : Nat} {h : AH} {Q : Option Value → AH → Prop} {a_0 : Nat} (w : ex_G mX2_highest d 4 [.ref a_0, .int 280] [] h bc bs Q) : ex_G mX2_highest d 0 [.ref a_0, .retAddr 0] [] h bc bs Q := by
  refine ex_sipush (q := 3) (v := 280) dX2_highest_0 (by decide) ?_
  refine ex_istore_n (q := 4) (ls' := [.ref a_0, .int 280]) dX2_highest_3 rfl ?_
  exact w

set_option maxRecDepth 100000 in
theorem X2_highest_4 {d bc bs : Nat} {h : AH} {Q : Option Value → AH → Prop} {a_0 : Nat} {v_1 : Int32} (w : ((v_1 < 0 → Q (some (.int 0)) h) ∧ (¬ v_1 < 0 → ah_o h a_0 2 ∧ ∃ a3, ah_r h a_0 0 = some a3 ∧ ld2 h a3 v_1 ∧ (((lg_cmp (ah_l h a3 (Int32.toNatClampNeg v_1)) 0) = 0 → ∀ x6, x6 = v_1 + (-1) → ex_G mX2_highest d 4 [.ref a_0, .int x6] [] h bc bs Q) ∧ (¬ (lg_cmp (ah_l h a3 (Int32.toNatClampNeg v_1)) 0) = 0 → Q (some (.int (v_1 - 140))) h))))) : ex_G mX2_highest d 4 [.ref a_0, .int v_1] [] h bc bs Q := by
  refine ex_iload_n (q := 5) (x := v_1) dX2_highest_4 rfl ?_
  refine ex_if_lt (tgt := 31) (q := 8) dX2_highest_5 (fun c1 => ?_) (fun c1 => ?_)
  · replace w := w.1 c1
    refine ex_iconst (q := 32) (v := 0) dX2_highest_31 (by decide) ?_
    exact ex_ireturn dX2_highest_32 rfl (Or.inl rfl) w
  · replace w := w.2 c1
    refine ex_aload_n (q := 9) (x := a_0) dX2_highest_8 rfl ?_
    have s2 := w.1
    replace w := w.2
    obtain ⟨a3, ea3, w⟩ := w
    refine ex_getr (q := 12) dX2_highest_9 fl_X2_9 s2 ea3 ?_
    refine ex_iload_n (q := 13) (x := v_1) dX2_highest_12 rfl ?_
    have s4 := w.1
    replace w := w.2
    refine ex_lald (q := 14) dX2_highest_13 s4 ?_
    refine ex_lconst (q := 15) (v := 0) dX2_highest_14 (by decide) ?_
    refine ex_lcmp (q := 16) dX2_highest_15 ?_
    refine ex_if_eq (tgt := 25) (q := 19) dX2_highest_16 (fun c5 => ?_) (fun c5 => ?_)
    · replace w := w.1 c5
      obtain ⟨x6, ex6⟩ : ∃ y : Int32, y = v_1 + (-1) := ⟨_, rfl⟩
      replace w := w x6 ex6
      refine ex_iinc (q := 28) (x := v_1) (v := x6) (ls' := [.ref a_0, .int x6]) dX2_highest_25 rfl (by rw [ex6]; rfl) rfl ?_
      refine ex_goto (tgt := 4) dX2_highest_28 ?_
      exact w
    · replace w := w.2 c5
      refine ex_iload_n (q := 20) (x := v_1) dX2_highest_19 rfl ?_
      refine ex_sipush (q := 23) (v := 140) dX2_highest_20 (by decide) ?_
      refine ex_isub (q := 24) dX2_highest_23 ?_
      exact ex_ireturn dX2_highest_24 rfl (Or.inl rfl) w

theorem X2_highest_e {d bc bs : Nat} {h : AH} {Q : Option Value → AH → Prop} {a_0 : Nat} (w : ex_G mX2_highest d 0 [.ref a_0, .retAddr 0] [] h bc bs Q) : ex_S yX2_highest mX2_highest d [.ref a_0] h bc bs Q :=
  ex_enter (plainFor_of_name (by decide +kernel)) ⟨rfl, rfl⟩ rfl rfl (Nat.le_of_ble_eq_true rfl) (ex_pad 1 w)

set_option maxRecDepth 100000 in
theorem X2_alternatingSize_0 {d bc bs : Nat} {h : AH} {Q : Option Value → AH → Prop} {a_0 : Nat} (w : ah_o h a_0 2 ∧ ex_S yX2_lowest mX2_lowest d [.ref a_0] h 0 0 (fun r h1 => ∃ x3, r = some (.int x3) ∧ ex_G mX2_alternatingSize (d + 1) 10 [.ref a_0, .long 0, .retAddr 0, .int 1, .int x3] [] h1 bc bs Q)) : ex_G mX2_alternatingSize (d + 1) 0 [.ref a_0, .retAddr 0, .retAddr 0, .retAddr 0, .retAddr 0] [] h bc bs Q := by
  refine ex_lconst (q := 1) (v := 0) dX2_alternatingSize_0 (by decide) ?_
  refine ex_lstore_n (q := 2) (ls' := [.ref a_0, .long 0, .retAddr 0, .retAddr 0, .retAddr 0]) dX2_alternatingSize_1 rfl ?_
  refine ex_iconst (q := 3) (v := 1) dX2_alternatingSize_2 (by decide) ?_
  refine ex_istore_n (q := 4) (ls' := [.ref a_0, .long 0, .retAddr 0, .int 1, .retAddr 0]) dX2_alternatingSize_3 rfl ?_
  refine ex_aload_n (q := 5) (x := a_0) dX2_alternatingSize_4 rfl ?_
  have s2 := w.1
  replace w := w.2
  refine ex_callV (q := 8) (M := mX2_alternatingSize) (hdd := Nat.le_refl _) (c := 2) (st := []) (bc := bc) (bs := bs) dX2_alternatingSize_5 rfl cl_X2_33 wd_909 wd_910 s2 w ?_
  rintro r h1 ⟨x3, rfl, w⟩
  show ex_G mX2_alternatingSize (d + 1) 8 [.ref a_0, .long 0, .retAddr 0, .int 1, .retAddr 0] [.int x3] h1 bc bs Q
  refine ex_istore (q := 10) (ls' := [.ref a_0, .long 0, .retAddr 0, .int 1, .int x3]) dX2_alternatingSize_8 rfl ?_
  exact w

set_option maxRecDepth 100000 in
theorem X2_alternatingSize_10 {d bc bs : Nat} {h : AH} {Q : Option Value → AH → Prop} {a_0 : Nat} {v_1 : Int64} {v_3 : Int32} {v_4 : Int32} (w : ((140 < v_4 → Q (some (.long (J9_abs_067f4_V v_1 h))) h) ∧ (¬ 140 < v_4 → ah_o h a_0 2 ∧ X2_numberAt_C a_0 v_4 h ∧ ∀ x4, x4 = v_1 + ((Int32.toInt64 v_3) * (X2_numberAt_V a_0 v_4 h)) → ∀ x5, x5 = -v_3 → ∀ x6, x6 = v_4 + 4 → ex_G mX2_alternatingSize (d + 1) 10 [.ref a_0, .long x4, .retAddr 0, .int x5, .int x6] [] h bc bs Q))) : ex_G mX2_alternatingSize (d + 1) 10 [.ref a_0, .long v_1, .retAddr 0, .int v_3, .int v_4] [] h bc bs Q := by
  refine ex_iload (q := 12) (x := v_4) dX2_alternatingSize_10 rfl ?_
  refine ex_sipush (q := 15) (v := 140) dX2_alternatingSize_12 (by decide) ?_
  refine ex_icmp_gt (tgt := 39) (q := 18) dX2_alternatingSize_15 (fun c1 => ?_) (fun c1 => ?_)
  · replace w := w.1 c1
    refine ex_lload_n (q := 40) (x := v_1) dX2_alternatingSize_39 rfl ?_
    refine ex_callS (q := 43) (M := mX2_alternatingSize) (hdd := Nat.le_refl _) (mc := 0) (ms := 0) (d' := d) (st := []) (bc := bc) (bs := bs) dX2_alternatingSize_40 rfl cl_X2_37 wd_926 (J9_abs_067f4_s (Q := fun r z => r = some (.long (J9_abs_067f4_V v_1 h)) ∧ z = h) ⟨rfl, rfl⟩) ?_
    intro r z hrz
    rw [hrz.1, hrz.2]
    show ex_G mX2_alternatingSize (d + 1) 43 [.ref a_0, .long v_1, .retAddr 0, .int v_3, .int v_4] [.long (J9_abs_067f4_V v_1 h)] (h) bc bs Q
    exact ex_lreturn dX2_alternatingSize_43 w
  · replace w := w.2 c1
    refine ex_lload_n (q := 19) (x := v_1) dX2_alternatingSize_18 rfl ?_
    refine ex_iload_n (q := 20) (x := v_3) dX2_alternatingSize_19 rfl ?_
    refine ex_i2l (q := 21) dX2_alternatingSize_20 ?_
    refine ex_aload_n (q := 22) (x := a_0) dX2_alternatingSize_21 rfl ?_
    refine ex_iload (q := 24) (x := v_4) dX2_alternatingSize_22 rfl ?_
    have s2 := w.1
    replace w := w.2
    have s3 := w.1
    replace w := w.2
    refine ex_callV (q := 27) (M := mX2_alternatingSize) (hdd := Nat.le_refl _) (mc := 0) (ms := 0) (d' := d) (c := 2) (st := [.long (Int32.toInt64 v_3), .long v_1]) (bc := bc) (bs := bs) dX2_alternatingSize_24 rfl cl_X2_26 wd_871 wd_872 s2 (X2_numberAt_s (Q := fun r z => r = some (.long (X2_numberAt_V a_0 v_4 h)) ∧ z = h) s3 ⟨rfl, rfl⟩) ?_
    intro r z hrz
    rw [hrz.1, hrz.2]
    show ex_G mX2_alternatingSize (d + 1) 27 [.ref a_0, .long v_1, .retAddr 0, .int v_3, .int v_4] [.long (X2_numberAt_V a_0 v_4 h), .long (Int32.toInt64 v_3), .long v_1] (h) bc bs Q
    refine ex_lmul (q := 28) dX2_alternatingSize_27 ?_
    refine ex_ladd (q := 29) dX2_alternatingSize_28 ?_
    refine ex_nml (fun x4 ex4 => ?_)
    replace w := w x4 ex4
    refine ex_lstore_n (q := 30) (ls' := [.ref a_0, .long x4, .retAddr 0, .int v_3, .int v_4]) dX2_alternatingSize_29 rfl ?_
    refine ex_iload_n (q := 31) (x := v_3) dX2_alternatingSize_30 rfl ?_
    refine ex_ineg (q := 32) dX2_alternatingSize_31 ?_
    refine ex_nmi (fun x5 ex5 => ?_)
    replace w := w x5 ex5
    refine ex_istore_n (q := 33) (ls' := [.ref a_0, .long x4, .retAddr 0, .int x5, .int v_4]) dX2_alternatingSize_32 rfl ?_
    obtain ⟨x6, ex6⟩ : ∃ y : Int32, y = v_4 + 4 := ⟨_, rfl⟩
    replace w := w x6 ex6
    refine ex_iinc (q := 36) (x := v_4) (v := x6) (ls' := [.ref a_0, .long x4, .retAddr 0, .int x5, .int x6]) dX2_alternatingSize_33 rfl (by rw [ex6]; rfl) rfl ?_
    refine ex_goto (tgt := 10) dX2_alternatingSize_36 ?_
    exact w

theorem X2_alternatingSize_e {d bc bs : Nat} {h : AH} {Q : Option Value → AH → Prop} {a_0 : Nat} (w : ex_G mX2_alternatingSize (d + 1) 0 [.ref a_0, .retAddr 0, .retAddr 0, .retAddr 0, .retAddr 0] [] h bc bs Q) : ex_S yX2_alternatingSize mX2_alternatingSize (d + 1) [.ref a_0] h bc bs Q :=
  ex_enter (plainFor_of_name (by decide +kernel)) ⟨rfl, rfl⟩ rfl rfl (Nat.le_of_ble_eq_true rfl) (ex_pad 4 w)

set_option maxRecDepth 100000 in
theorem X2_isAs_0 {d bc bs : Nat} {h : AH} {Q : Option Value → AH → Prop} {a_0 : Nat} {a_1 : Nat} (w : ex_G mX2_isAs d 2 [.ref a_0, .ref a_1, .int 0] [] h bc bs Q) : ex_G mX2_isAs d 0 [.ref a_0, .ref a_1, .retAddr 0] [] h bc bs Q := by
  refine ex_iconst (q := 1) (v := 0) dX2_isAs_0 (by decide) ?_
  refine ex_istore_n (q := 2) (ls' := [.ref a_0, .ref a_1, .int 0]) dX2_isAs_1 rfl ?_
  exact w

set_option maxRecDepth 100000 in
theorem X2_isAs_2 {d bc bs : Nat} {h : AH} {Q : Option Value → AH → Prop} {a_0 : Nat} {a_1 : Nat} {v_2 : Int32} (w : ((281 ≤ v_2 → Q (some (.int 1)) h) ∧ (¬ 281 ≤ v_2 → ah_o h a_0 2 ∧ ∃ a3, ah_r h a_0 0 = some a3 ∧ ld2 h a3 v_2 ∧ ah_o h a_1 2 ∧ ∃ a6, ah_r h a_1 0 = some a6 ∧ ld2 h a6 v_2 ∧ (((lg_cmp (ah_l h a3 (Int32.toNatClampNeg v_2)) (ah_l h a6 (Int32.toNatClampNeg v_2))) = 0 → ∀ x9, x9 = v_2 + 1 → ex_G mX2_isAs d 2 [.ref a_0, .ref a_1, .int x9] [] h bc bs Q) ∧ (¬ (lg_cmp (ah_l h a3 (Int32.toNatClampNeg v_2)) (ah_l h a6 (Int32.toNatClampNeg v_2))) = 0 → Q (some (.int 0)) h))))) : ex_G mX2_isAs d 2 [.ref a_0, .ref a_1, .int v_2] [] h bc bs Q := by
  refine ex_iload_n (q := 3) (x := v_2) dX2_isAs_2 rfl ?_
  refine ex_sipush (q := 6) (v := 281) dX2_isAs_3 (by decide) ?_
  refine ex_icmp_ge (tgt := 33) (q := 9) dX2_isAs_6 (fun c1 => ?_) (fun c1 => ?_)
  · replace w := w.1 c1
    refine ex_iconst (q := 34) (v := 1) dX2_isAs_33 (by decide) ?_
    exact ex_ireturn dX2_isAs_34 rfl (Or.inr ⟨rfl, Or.inr rfl⟩) w
  · replace w := w.2 c1
    refine ex_aload_n (q := 10) (x := a_0) dX2_isAs_9 rfl ?_
    have s2 := w.1
    replace w := w.2
    obtain ⟨a3, ea3, w⟩ := w
    refine ex_getr (q := 13) dX2_isAs_10 fl_X2_9 s2 ea3 ?_
    refine ex_iload_n (q := 14) (x := v_2) dX2_isAs_13 rfl ?_
    have s4 := w.1
    replace w := w.2
    refine ex_lald (q := 15) dX2_isAs_14 s4 ?_
    refine ex_aload_n (q := 16) (x := a_1) dX2_isAs_15 rfl ?_
    have s5 := w.1
    replace w := w.2
    obtain ⟨a6, ea6, w⟩ := w
    refine ex_getr (q := 19) dX2_isAs_16 fl_X2_9 s5 ea6 ?_
    refine ex_iload_n (q := 20) (x := v_2) dX2_isAs_19 rfl ?_
    have s7 := w.1
    replace w := w.2
    refine ex_lald (q := 21) dX2_isAs_20 s7 ?_
    refine ex_lcmp (q := 22) dX2_isAs_21 ?_
    refine ex_if_eq (tgt := 27) (q := 25) dX2_isAs_22 (fun c8 => ?_) (fun c8 => ?_)
    · replace w := w.1 c8
      obtain ⟨x9, ex9⟩ : ∃ y : Int32, y = v_2 + 1 := ⟨_, rfl⟩
      replace w := w x9 ex9
      refine ex_iinc (q := 30) (x := v_2) (v := x9) (ls' := [.ref a_0, .ref a_1, .int x9]) dX2_isAs_27 rfl (by rw [ex9]; rfl) rfl ?_
      refine ex_goto (tgt := 2) dX2_isAs_30 ?_
      exact w
    · replace w := w.2 c8
      refine ex_iconst (q := 26) (v := 0) dX2_isAs_25 (by decide) ?_
      exact ex_ireturn dX2_isAs_26 rfl (Or.inr ⟨rfl, Or.inl rfl⟩) w

theorem X2_isAs_e {d bc bs : Nat} {h : AH} {Q : Option Value → AH → Prop} {a_0 : Nat} {a_1 : Nat} (w : ex_G mX2_isAs d 0 [.ref a_0, .ref a_1, .retAddr 0] [] h bc bs Q) : ex_S yX2_isAs mX2_isAs d [.ref a_0, .ref a_1] h bc bs Q :=
  ex_enter (plainFor_of_name (by decide +kernel)) ⟨rfl, rfl⟩ rfl rfl (Nat.le_of_ble_eq_true rfl) (ex_pad 1 w)

set_option maxRecDepth 100000 in
theorem X0_init_0 {d bc bs : Nat} {h : AH} {Q : Option Value → AH → Prop} {a_0 : Nat} (w : ah_n h < 10000000 ∧ ∀ h2, h2 = ah_na h 2 200 → ah_o h2 a_0 0 ∧ ∀ h4, h4 = ah_sr h2 a_0 0 (some (ah_n h)) → ah_n h4 < 10000000 ∧ ∀ h6, h6 = ah_na h4 6 200 → ah_o h6 a_0 0 ∧ ∀ h8, h8 = ah_sr h6 a_0 1 (some (ah_n h4)) → Q none h8) : ex_G mX0_init (d + 1) 0 [.ref a_0] [] h (bc + 2) (bs + 400) Q := by
  refine ex_aload_n (q := 1) (x := a_0) dX0_init_0 rfl ?_
  refine ex_objInit (q := 4) (hd1 := Nat.succ_le_succ (Nat.zero_le _)) (h1 := wd_135) (h2 := wd_136) (st := []) dX0_init_1 wd_472 ?_
  refine ex_aload_n (q := 5) (x := a_0) dX0_init_4 rfl ?_
  refine ex_sipush (q := 8) (v := 200) dX0_init_5 (by decide) ?_
  have s1 := w.1
  replace w := w.2
  refine ex_G.room (bc' := (bc + 1) + 1) (bs' := (bs + 200) + 200) (Nat.le_refl _) (rm_le rfl) (rm_le rfl) ?_
  refine ex_newarray (q := 10) (t := 2) (N := 200) (M := mX0_init) dX0_init_8 rfl (by decide) wd_330 rfl (by decide) s1 ?_
  refine ex_nmh (fun h2 eh2 => ?_)
  replace w := w h2 eh2
  have s3 := w.1
  replace w := w.2
  refine ex_putr (q := 13) dX0_init_10 fl_X0_9 (Or.inr ⟨rfl, rfl, wd_475, rfl⟩) s3 ?_
  refine ex_nmh (fun h4 eh4 => ?_)
  replace w := w h4 eh4
  refine ex_aload_n (q := 14) (x := a_0) dX0_init_13 rfl ?_
  refine ex_sipush (q := 17) (v := 200) dX0_init_14 (by decide) ?_
  have s5 := w.1
  replace w := w.2
  refine ex_G.room (bc' := bc + 1) (bs' := bs + 200) (Nat.le_refl _) (Nat.le_refl _) (Nat.le_refl _) ?_
  refine ex_anewarray (q := 20) (c := 2) (N := 200) (M := mX0_init) dX0_init_17 wd_473 wd_474 rfl (by decide) s5 ?_
  refine ex_nmh (fun h6 eh6 => ?_)
  replace w := w h6 eh6
  have s7 := w.1
  replace w := w.2
  refine ex_putr (q := 23) dX0_init_20 fl_X0_17 (Or.inr ⟨rfl, rfl, wd_476, rfl⟩) s7 ?_
  refine ex_nmh (fun h8 eh8 => ?_)
  replace w := w h8 eh8
  exact ex_return dX0_init_23 w

theorem X0_init_e {d bc bs : Nat} {h : AH} {Q : Option Value → AH → Prop} {a_0 : Nat} (w : ex_G mX0_init (d + 1) 0 [.ref a_0] [] h bc bs Q) : ex_S yX0_init mX0_init (d + 1) [.ref a_0] h bc bs Q :=
  ex_enter (plainFor_of_name (by decide +kernel)) ⟨rfl, rfl⟩ rfl rfl (Nat.le_of_ble_eq_true rfl) (ex_pad 0 w)

set_option maxRecDepth 100000 in
theorem X0_has_0 {d bc bs : Nat} {h : AH} {Q : Option Value → AH → Prop} {a_0 : Nat} {v_1 : Int64} (w : ex_G mX0_has d 2 [.ref a_0, .long v_1, .retAddr 0, .int 0] [] h bc bs Q) : ex_G mX0_has d 0 [.ref a_0, .long v_1, .retAddr 0, .retAddr 0] [] h bc bs Q := by
  refine ex_iconst (q := 1) (v := 0) dX0_has_0 (by decide) ?_
  refine ex_istore_n (q := 2) (ls' := [.ref a_0, .long v_1, .retAddr 0, .int 0]) dX0_has_1 rfl ?_
  exact w

set_option maxRecDepth 100000 in
theorem X0_has_2 {d bc bs : Nat} {h : AH} {Q : Option Value → AH → Prop} {a_0 : Nat} {v_1 : Int64} {v_3 : Int32} (w : ah_o h a_0 0 ∧ (((ah_f h a_0 2) ≤ v_3 → Q (some (.int 0)) h) ∧ (¬ (ah_f h a_0 2) ≤ v_3 → ∃ a3, ah_r h a_0 0 = some a3 ∧ ld2 h a3 v_3 ∧ ((¬ (lg_cmp (ah_l h a3 (Int32.toNatClampNeg v_3)) v_1) = 0 → ∀ x6, x6 = v_3 + 1 → ex_G mX0_has d 2 [.ref a_0, .long v_1, .retAddr 0, .int x6] [] h bc bs Q) ∧ ((lg_cmp (ah_l h a3 (Int32.toNatClampNeg v_3)) v_1) = 0 → Q (some (.int 1)) h))))) : ex_G mX0_has d 2 [.ref a_0, .long v_1, .retAddr 0, .int v_3] [] h bc bs Q := by
  refine ex_iload_n (q := 3) (x := v_3) dX0_has_2 rfl ?_
  refine ex_aload_n (q := 4) (x := a_0) dX0_has_3 rfl ?_
  have s1 := w.1
  replace w := w.2
  refine ex_getf (q := 7) dX0_has_4 fl_X0_21 s1 ?_
  refine ex_icmp_ge (tgt := 29) (q := 10) dX0_has_7 (fun c2 => ?_) (fun c2 => ?_)
  · replace w := w.1 c2
    refine ex_iconst (q := 30) (v := 0) dX0_has_29 (by decide) ?_
    exact ex_ireturn dX0_has_30 rfl (Or.inr ⟨rfl, Or.inl rfl⟩) w
  · replace w := w.2 c2
    refine ex_aload_n (q := 11) (x := a_0) dX0_has_10 rfl ?_
    obtain ⟨a3, ea3, w⟩ := w
    refine ex_getr (q := 14) dX0_has_11 fl_X0_9 s1 ea3 ?_
    refine ex_iload_n (q := 15) (x := v_3) dX0_has_14 rfl ?_
    have s4 := w.1
    replace w := w.2
    refine ex_lald (q := 16) dX0_has_15 s4 ?_
    refine ex_lload_n (q := 17) (x := v_1) dX0_has_16 rfl ?_
    refine ex_lcmp (q := 18) dX0_has_17 ?_
    refine ex_if_ne (tgt := 23) (q := 21) dX0_has_18 (fun c5 => ?_) (fun c5 => ?_)
    · replace w := w.1 c5
      obtain ⟨x6, ex6⟩ : ∃ y : Int32, y = v_3 + 1 := ⟨_, rfl⟩
      replace w := w x6 ex6
      refine ex_iinc (q := 26) (x := v_3) (v := x6) (ls' := [.ref a_0, .long v_1, .retAddr 0, .int x6]) dX0_has_23 rfl (by rw [ex6]; rfl) rfl ?_
      refine ex_goto (tgt := 2) dX0_has_26 ?_
      exact w
    · replace w := w.2 c5
      refine ex_iconst (q := 22) (v := 1) dX0_has_21 (by decide) ?_
      exact ex_ireturn dX0_has_22 rfl (Or.inr ⟨rfl, Or.inr rfl⟩) w

theorem X0_has_e {d bc bs : Nat} {h : AH} {Q : Option Value → AH → Prop} {a_0 : Nat} {v_1 : Int64} (w : ex_G mX0_has d 0 [.ref a_0, .long v_1, .retAddr 0, .retAddr 0] [] h bc bs Q) : ex_S yX0_has mX0_has d [.ref a_0, .long v_1] h bc bs Q :=
  ex_enter (plainFor_of_name (by decide +kernel)) ⟨rfl, rfl⟩ rfl rfl (Nat.le_of_ble_eq_true rfl) (ex_pad 1 w)

set_option maxRecDepth 100000 in
theorem X0_add_0 {d bc bs : Nat} {h : AH} {Q : Option Value → AH → Prop} {a_0 : Nat} {v_1 : Int64} {a_3 : Nat} (w : ah_o h a_0 0 ∧ (((ah_f h a_0 2) < 200 → ∃ a3, ah_r h a_0 0 = some a3 ∧ ld2 h a3 (ah_f h a_0 2) ∧ ∀ h4, h4 = ah_sl h a3 (Int32.toNatClampNeg (ah_f h a_0 2)) v_1 → ∃ a6, ah_r h4 a_0 1 = some a6 ∧ ah_n h4 < 10000000 ∧ ∀ h8, h8 = ah_no h4 2 → ex_S yX2_init mX2_init (d + 1) [.ref (ah_n h4)] h8 2 562 (fun r h9 => r = none ∧ ld3 h9 6 a6 (ah_f h4 a_0 2) ∧ ah_o h9 (ah_n h4) 2 ∧ ∀ h10, h10 = ah_sq h9 a6 (Int32.toNatClampNeg (ah_f h4 a_0 2)) (some (ah_n h4)) → ah_o h10 a_0 0 ∧ ∃ a14, ah_r h10 a_0 1 = some a14 ∧ ld3 h10 6 a14 (ah_f h10 a_0 2) ∧ ∃ a16, ah_q h10 a14 (Int32.toNatClampNeg (ah_f h10 a_0 2)) = some a16 ∧ ah_o h10 a16 2 ∧ X2_take_C a16 a_3 h10 ∧ ∀ h19, h19 = X2_take_H a16 a_3 h10 → ah_o h19 a_0 0 ∧ ∀ h21, h21 = ah_sf h19 a_0 2 ((ah_f h19 a_0 2) + 1) → Q none h21)) ∧ (¬ (ah_f h a_0 2) < 200 → Q none h))) : ex_G mX0_add (d + 2) 0 [.ref a_0, .long v_1, .retAddr 0, .ref a_3] [] h (bc + 3) (bs + 565) Q := by
  refine ex_aload_n (q := 1) (x := a_0) dX0_add_0 rfl ?_
  have s1 := w.1
  replace w := w.2
  refine ex_getf (q := 4) dX0_add_1 fl_X0_21 s1 ?_
  refine ex_sipush (q := 7) (v := 200) dX0_add_4 (by decide) ?_
  refine ex_icmp_lt (tgt := 11) (q := 10) dX0_add_7 (fun c2 => ?_) (fun c2 => ?_)
  · replace w := w.1 c2
    refine ex_aload_n (q := 12) (x := a_0) dX0_add_11 rfl ?_
    obtain ⟨a3, ea3, w⟩ := w
    refine ex_getr (q := 15) dX0_add_12 fl_X0_9 s1 ea3 ?_
    refine ex_aload_n (q := 16) (x := a_0) dX0_add_15 rfl ?_
    refine ex_getf (q := 19) dX0_add_16 fl_X0_21 s1 ?_
    refine ex_lload_n (q := 20) (x := v_1) dX0_add_19 rfl ?_
    have s5 := w.1
    replace w := w.2
    refine ex_last (q := 21) dX0_add_20 s5 ?_
    refine ex_nmh (fun h4 eh4 => ?_)
    replace w := w h4 eh4
    refine ex_aload_n (q := 22) (x := a_0) dX0_add_21 rfl ?_
    obtain ⟨a6, ea6, w⟩ := w
    refine ex_getr (q := 25) dX0_add_22 fl_X0_17 (by rw [eh4]; exact s1) ea6 ?_
    refine ex_aload_n (q := 26) (x := a_0) dX0_add_25 rfl ?_
    refine ex_getf (q := 29) dX0_add_26 fl_X0_21 (by rw [eh4]; exact s1) ?_
    have s7 := w.1
    replace w := w.2
    refine ex_G.room (bc' := (bc + 2) + 1) (bs' := (bs + 562) + 3) (Nat.le_refl _) (rm_le rfl) (rm_le rfl) ?_
    refine ex_new (q := 32) (c := 2) (M := mX0_add) dX0_add_29 wd_473 wd_314 wd_120 s7 ?_
    refine ex_nmh (fun h8 eh8 => ?_)
    replace w := w h8 eh8
    refine ex_dup (q := 33) dX0_add_32 rfl ?_
    refine ex_G.room (bc' := bc + 2) (bs' := bs + 562) (Nat.le_refl _) (Nat.le_refl _) (Nat.le_refl _) ?_
    refine ex_callI (q := 36) (M := mX0_add) (hdd := Nat.le_refl _) (st := [.ref (ah_n h4), .int (ah_f h4 a_0 2), .ref a6]) (bc := bc) (bs := bs) dX0_add_33 rfl cl_X0_25 wd_316 rfl rfl w ?_
    rintro r h9 ⟨rfl, w⟩
    show ex_G mX0_add (d + 2) 36 [.ref a_0, .long v_1, .retAddr 0, .ref a_3] [.ref (ah_n h4), .int (ah_f h4 a_0 2), .ref a6] h9 bc bs Q
    have s11 := w.1
    replace w := w.2
    have s12 := w.1
    replace w := w.2
    refine ex_aast (q := 37) (c := 2) dX0_add_36 s11 s12 ?_
    refine ex_nmh (fun h10 eh10 => ?_)
    replace w := w h10 eh10
    refine ex_aload_n (q := 38) (x := a_0) dX0_add_37 rfl ?_
    have s13 := w.1
    replace w := w.2
    obtain ⟨a14, ea14, w⟩ := w
    refine ex_getr (q := 41) dX0_add_38 fl_X0_17 s13 ea14 ?_
    refine ex_aload_n (q := 42) (x := a_0) dX0_add_41 rfl ?_
    refine ex_getf (q := 45) dX0_add_42 fl_X0_21 s13 ?_
    have s15 := w.1
    replace w := w.2
    obtain ⟨a16, ea16, w⟩ := w
    refine ex_aald (q := 46) dX0_add_45 s15 ea16 ?_
    refine ex_aload_n (q := 47) (x := a_3) dX0_add_46 rfl ?_
    have s17 := w.1
    replace w := w.2
    have s18 := w.1
    replace w := w.2
    refine ex_callV (q := 50) (M := mX0_add) (hdd := Nat.le_refl _) (mc := 0) (ms := 0) (d' := (d + 1)) (c := 2) (st := []) (bc := bc) (bs := bs) dX0_add_47 rfl cl_X0_26 wd_1335 wd_1336 s17 (X2_take_s (Q := fun r z => r = none ∧ z = X2_take_H a16 a_3 h10) s18 ⟨rfl, rfl⟩) ?_
    intro r z hrz
    rw [hrz.1, hrz.2]
    show ex_G mX0_add (d + 2) 50 [.ref a_0, .long v_1, .retAddr 0, .ref a_3] [] (X2_take_H a16 a_3 h10) bc bs Q
    refine ex_nmh (fun h19 eh19 => ?_)
    replace w := w h19 eh19
    refine ex_aload_n (q := 51) (x := a_0) dX0_add_50 rfl ?_
    refine ex_dup (q := 52) dX0_add_51 rfl ?_
    have s20 := w.1
    replace w := w.2
    refine ex_getf (q := 55) dX0_add_52 fl_X0_21 s20 ?_
    refine ex_iconst (q := 56) (v := 1) dX0_add_55 (by decide) ?_
    refine ex_iadd (q := 57) dX0_add_56 ?_
    refine ex_putf (q := 60) dX0_add_57 fl_X0_21 (Or.inl rfl) s20 (Or.inl rfl) ?_
    refine ex_nmh (fun h21 eh21 => ?_)
    replace w := w h21 eh21
    exact ex_return dX0_add_60 w
  · replace w := w.2 c2
    exact ex_return dX0_add_10 w

theorem X0_add_e {d bc bs : Nat} {h : AH} {Q : Option Value → AH → Prop} {a_0 : Nat} {v_1 : Int64} {a_3 : Nat} (w : ex_G mX0_add (d + 2) 0 [.ref a_0, .long v_1, .retAddr 0, .ref a_3] [] h bc bs Q) : ex_S yX0_add mX0_add (d + 2) [.ref a_0, .long v_1, .ref a_3] h bc bs Q :=
  ex_enter (plainFor_of_name (by decide +kernel)) ⟨rfl, rfl⟩ rfl rfl (Nat.le_of_ble_eq_true rfl) (ex_pad 0 w)

set_option maxRecDepth 100000 in
theorem X0_firstFor_0 {d bc bs : Nat} {h : AH} {Q : Option Value → AH → Prop} {a_0 : Nat} {a_1 : Nat} (w : ex_G mX0_firstFor (d + 1) 2 [.ref a_0, .ref a_1, .int 0] [] h bc bs Q) : ex_G mX0_firstFor (d + 1) 0 [.ref a_0, .ref a_1, .retAddr 0] [] h bc bs Q := by
  refine ex_iconst (q := 1) (v := 0) dX0_firstFor_0 (by decide) ?_
  refine ex_istore_n (q := 2) (ls' := [.ref a_0, .ref a_1, .int 0]) dX0_firstFor_1 rfl ?_
  exact w

set_option maxRecDepth 100000 in
theorem X0_firstFor_2 {d bc bs : Nat} {h : AH} {Q : Option Value → AH → Prop} {a_0 : Nat} {a_1 : Nat} {v_2 : Int32} (w : ah_o h a_0 0 ∧ (((ah_f h a_0 2) ≤ v_2 → Q (some (.long 0)) h) ∧ (¬ (ah_f h a_0 2) ≤ v_2 → ∃ a3, ah_r h a_0 1 = some a3 ∧ ld3 h 6 a3 v_2 ∧ ∃ a5, ah_q h a3 (Int32.toNatClampNeg v_2) = some a5 ∧ ah_o h a5 2 ∧ ex_S yX2_isAs mX2_isAs d [.ref a5, .ref a_1] h 0 0 (fun r h6 => ∃ x8, r = some (.int x8) ∧ ((x8 = 0 → ∀ x10, x10 = v_2 + 1 → ex_G mX0_firstFor (d + 1) 2 [.ref a_0, .ref a_1, .int x10] [] h6 bc bs Q) ∧ (¬ x8 = 0 → ah_o h6 a_0 0 ∧ ∃ a12, ah_r h6 a_0 0 = some a12 ∧ ld2 h6 a12 v_2 ∧ Q (some (.long (ah_l h6 a12 (Int32.toNatClampNeg v_2)))) h6)))))) : ex_G mX0_firstFor (d + 1) 2 [.ref a_0, .ref a_1, .int v_2] [] h bc bs Q := by
  refine ex_iload_n (q := 3) (x := v_2) dX0_firstFor_2 rfl ?_
  refine ex_aload_n (q := 4) (x := a_0) dX0_firstFor_3 rfl ?_
  have s1 := w.1
  replace w := w.2
  refine ex_getf (q := 7) dX0_firstFor_4 fl_X0_21 s1 ?_
  refine ex_icmp_ge (tgt := 36) (q := 10) dX0_firstFor_7 (fun c2 => ?_) (fun c2 => ?_)
  · replace w := w.1 c2
    refine ex_lconst (q := 37) (v := 0) dX0_firstFor_36 (by decide) ?_
    exact ex_lreturn dX0_firstFor_37 w
  · replace w := w.2 c2
    refine ex_aload_n (q := 11) (x := a_0) dX0_firstFor_10 rfl ?_
    obtain ⟨a3, ea3, w⟩ := w
    refine ex_getr (q := 14) dX0_firstFor_11 fl_X0_17 s1 ea3 ?_
    refine ex_iload_n (q := 15) (x := v_2) dX0_firstFor_14 rfl ?_
    have s4 := w.1
    replace w := w.2
    obtain ⟨a5, ea5, w⟩ := w
    refine ex_aald (q := 16) dX0_firstFor_15 s4 ea5 ?_
    refine ex_aload_n (q := 17) (x := a_1) dX0_firstFor_16 rfl ?_
    have s7 := w.1
    replace w := w.2
    refine ex_callV (q := 20) (M := mX0_firstFor) (hdd := Nat.le_refl _) (c := 2) (st := []) (bc := bc) (bs := bs) dX0_firstFor_17 rfl cl_X0_30 wd_1291 wd_1292 s7 w ?_
    rintro r h6 ⟨x8, rfl, w⟩
    show ex_G mX0_firstFor (d + 1) 20 [.ref a_0, .ref a_1, .int v_2] [.int x8] h6 bc bs Q
    refine ex_if_eq (tgt := 30) (q := 23) dX0_firstFor_20 (fun c9 => ?_) (fun c9 => ?_)
    · replace w := w.1 c9
      obtain ⟨x10, ex10⟩ : ∃ y : Int32, y = v_2 + 1 := ⟨_, rfl⟩
      replace w := w x10 ex10
      refine ex_iinc (q := 33) (x := v_2) (v := x10) (ls' := [.ref a_0, .ref a_1, .int x10]) dX0_firstFor_30 rfl (by rw [ex10]; rfl) rfl ?_
      refine ex_goto (tgt := 2) dX0_firstFor_33 ?_
      exact w
    · replace w := w.2 c9
      refine ex_aload_n (q := 24) (x := a_0) dX0_firstFor_23 rfl ?_
      have s11 := w.1
      replace w := w.2
      obtain ⟨a12, ea12, w⟩ := w
      refine ex_getr (q := 27) dX0_firstFor_24 fl_X0_9 s11 ea12 ?_
      refine ex_iload_n (q := 28) (x := v_2) dX0_firstFor_27 rfl ?_
      have s13 := w.1
      replace w := w.2
      refine ex_lald (q := 29) dX0_firstFor_28 s13 ?_
      exact ex_lreturn dX0_firstFor_29 w

theorem X0_firstFor_e {d bc bs : Nat} {h : AH} {Q : Option Value → AH → Prop} {a_0 : Nat} {a_1 : Nat} (w : ex_G mX0_firstFor (d + 1) 0 [.ref a_0, .ref a_1, .retAddr 0] [] h bc bs Q) : ex_S yX0_firstFor mX0_firstFor (d + 1) [.ref a_0, .ref a_1] h bc bs Q :=
  ex_enter (plainFor_of_name (by decide +kernel)) ⟨rfl, rfl⟩ rfl rfl (Nat.le_of_ble_eq_true rfl) (ex_pad 1 w)

set_option maxRecDepth 100000 in
theorem X9_init_0 {d bc bs : Nat} {h : AH} {Q : Option Value → AH → Prop} {a_0 : Nat} (w : ah_n h < 10000000 ∧ ∀ h2, h2 = ah_na h 0 56 → ah_o h2 a_0 9 ∧ ∀ h4, h4 = ah_sr h2 a_0 0 (some (ah_n h)) → ah_n h4 + 39 < 10000000 ∧ ∀ h6, h6 = ah_nm h4 38 15 → ah_o h6 a_0 9 ∧ ∀ h8, h8 = ah_sr h6 a_0 1 (some (ah_n h4)) → Q none h8) : ex_G mX9_init (d + 1) 0 [.ref a_0] [] h (bc + 40) (bs + 664) Q := by
  refine ex_aload_n (q := 1) (x := a_0) dX9_init_0 rfl ?_
  refine ex_objInit (q := 4) (hd1 := Nat.succ_le_succ (Nat.zero_le _)) (h1 := wd_135) (h2 := wd_136) (st := []) dX9_init_1 wd_296 ?_
  refine ex_aload_n (q := 5) (x := a_0) dX9_init_4 rfl ?_
  refine ex_bipush (q := 7) (v := 56) dX9_init_5 (by decide) ?_
  have s1 := w.1
  replace w := w.2
  refine ex_G.room (bc' := (bc + 39) + 1) (bs' := (bs + 608) + 56) (Nat.le_refl _) (rm_le rfl) (rm_le rfl) ?_
  refine ex_newarray (q := 9) (t := 0) (N := 56) (M := mX9_init) dX9_init_7 rfl (by decide) wd_161 rfl (by decide) s1 ?_
  refine ex_nmh (fun h2 eh2 => ?_)
  replace w := w h2 eh2
  have s3 := w.1
  replace w := w.2
  refine ex_putr (q := 12) dX9_init_9 fl_X9_9 (Or.inr ⟨rfl, rfl, wd_299, rfl⟩) s3 ?_
  refine ex_nmh (fun h4 eh4 => ?_)
  replace w := w h4 eh4
  refine ex_aload_n (q := 13) (x := a_0) dX9_init_12 rfl ?_
  refine ex_bipush (q := 15) (v := 38) dX9_init_13 (by decide) ?_
  refine ex_bipush (q := 17) (v := 15) dX9_init_15 (by decide) ?_
  have s5 := w.1
  replace w := w.2
  refine ex_G.room (bc' := bc + 39) (bs' := bs + 608) (Nat.le_refl _) (Nat.le_refl _) (Nat.le_refl _) ?_
  refine ex_mna (q := 21) (N := 38) (K := 15) (M := mX9_init) dX9_init_17 wd_297 s5 ?_
  refine ex_nmh (fun h6 eh6 => ?_)
  replace w := w h6 eh6
  have s7 := w.1
  replace w := w.2
  refine ex_putr (q := 24) dX9_init_21 fl_X9_17 (Or.inr ⟨rfl, rfl, wd_300, rfl⟩) s7 ?_
  refine ex_nmh (fun h8 eh8 => ?_)
  replace w := w h8 eh8
  exact ex_return dX9_init_24 w

theorem X9_init_e {d bc bs : Nat} {h : AH} {Q : Option Value → AH → Prop} {a_0 : Nat} (w : ex_G mX9_init (d + 1) 0 [.ref a_0] [] h bc bs Q) : ex_S yX9_init mX9_init (d + 1) [.ref a_0] h bc bs Q :=
  ex_enter (plainFor_of_name (by decide +kernel)) ⟨rfl, rfl⟩ rfl rfl (Nat.le_of_ble_eq_true rfl) (ex_pad 0 w)

set_option maxRecDepth 100000 in
theorem X9_makeBracket_0 {d bc bs : Nat} {h : AH} {Q : Option Value → AH → Prop} {a_0 : Nat} {a_1 : Nat} {a_2 : Nat} (w : ah_o h a_1 4 ∧ ah_o h a_0 9 ∧ ∀ h3, h3 = ah_sf h a_0 2 (J9_min_7cf53_V (ah_f h a_1 10) 14 h) → ∀ h4, h4 = ah_sf h3 a_0 3 ((ah_f h3 a_0 3) + (X9_costOf_V (ah_f h3 a_0 2) h3)) → ∀ x5, x5 = J9_min_7cf53_V ((2 * (ah_f h4 a_0 2)) + (ah_f h4 a_1 11)) 37 h4 → ex_G mX9_makeBracket (d + 17) 49 [.ref a_0, .ref a_1, .ref a_2, .int x5, .int 0, .retAddr 0] [] h4 bc bs Q) : ex_G mX9_makeBracket (d + 17) 0 [.ref a_0, .ref a_1, .ref a_2, .retAddr 0, .retAddr 0, .retAddr 0] [] h bc bs Q := by
  refine ex_aload_n (q := 1) (x := a_0) dX9_makeBracket_0 rfl ?_
  refine ex_aload_n (q := 2) (x := a_1) dX9_makeBracket_1 rfl ?_
  have s1 := w.1
  replace w := w.2
  refine ex_getf (q := 5) dX9_makeBracket_2 fl_X9_34 s1 ?_
  refine ex_bipush (q := 7) (v := 14) dX9_makeBracket_5 (by decide) ?_
  refine ex_callS (q := 10) (M := mX9_makeBracket) (hdd := Nat.le_refl _) (mc := 0) (ms := 0) (d' := (d + 16)) (st := [.ref a_0]) (bc := bc) (bs := bs) dX9_makeBracket_7 rfl cl_X9_26 wd_710 (J9_min_7cf53_s (Q := fun r z => r = some (.int (J9_min_7cf53_V (ah_f h a_1 10) 14 h)) ∧ z = h) ⟨rfl, rfl⟩) ?_
  intro r z hrz
  rw [hrz.1, hrz.2]
  show ex_G mX9_makeBracket (d + 17) 10 [.ref a_0, .ref a_1, .ref a_2, .retAddr 0, .retAddr 0, .retAddr 0] [.int (J9_min_7cf53_V (ah_f h a_1 10) 14 h), .ref a_0] (h) bc bs Q
  have s2 := w.1
  replace w := w.2
  refine ex_putf (q := 13) dX9_makeBracket_10 fl_X9_39 (Or.inl rfl) s2 (Or.inl rfl) ?_
  refine ex_nmh (fun h3 eh3 => ?_)
  replace w := w h3 eh3
  refine ex_aload_n (q := 14) (x := a_0) dX9_makeBracket_13 rfl ?_
  refine ex_dup (q := 15) dX9_makeBracket_14 rfl ?_
  refine ex_getf (q := 18) dX9_makeBracket_15 fl_X9_29 (by rw [eh3]; exact s2) ?_
  refine ex_aload_n (q := 19) (x := a_0) dX9_makeBracket_18 rfl ?_
  refine ex_getf (q := 22) dX9_makeBracket_19 fl_X9_39 (by rw [eh3]; exact s2) ?_
  refine ex_callS (q := 25) (M := mX9_makeBracket) (hdd := Nat.le_refl _) (mc := 0) (ms := 0) (d' := (d + 16)) (st := [.int (ah_f h3 a_0 3), .ref a_0]) (bc := bc) (bs := bs) dX9_makeBracket_22 rfl cl_X9_40 wd_831 (X9_costOf_s (Q := fun r z => r = some (.int (X9_costOf_V (ah_f h3 a_0 2) h3)) ∧ z = h3) ⟨rfl, rfl⟩) ?_
  intro r z hrz
  rw [hrz.1, hrz.2]
  show ex_G mX9_makeBracket (d + 17) 25 [.ref a_0, .ref a_1, .ref a_2, .retAddr 0, .retAddr 0, .retAddr 0] [.int (X9_costOf_V (ah_f h3 a_0 2) h3), .int (ah_f h3 a_0 3), .ref a_0] (h3) bc bs Q
  refine ex_iadd (q := 26) dX9_makeBracket_25 ?_
  refine ex_putf (q := 29) dX9_makeBracket_26 fl_X9_29 (Or.inl rfl) (by rw [eh3]; exact s2) (Or.inl rfl) ?_
  refine ex_nmh (fun h4 eh4 => ?_)
  replace w := w h4 eh4
  refine ex_iconst (q := 30) (v := 2) dX9_makeBracket_29 (by decide) ?_
  refine ex_aload_n (q := 31) (x := a_0) dX9_makeBracket_30 rfl ?_
  refine ex_getf (q := 34) dX9_makeBracket_31 fl_X9_39 (by rw [eh4]; exact (by rw [eh3]; exact s2)) ?_
  refine ex_imul (q := 35) dX9_makeBracket_34 ?_
  refine ex_aload_n (q := 36) (x := a_1) dX9_makeBracket_35 rfl ?_
  refine ex_getf (q := 39) dX9_makeBracket_36 fl_X9_44 (by rw [eh4]; exact (by rw [eh3]; exact s1)) ?_
  refine ex_iadd (q := 40) dX9_makeBracket_39 ?_
  refine ex_bipush (q := 42) (v := 37) dX9_makeBracket_40 (by decide) ?_
  refine ex_callS (q := 45) (M := mX9_makeBracket) (hdd := Nat.le_refl _) (mc := 0) (ms := 0) (d' := (d + 16)) (st := []) (bc := bc) (bs := bs) dX9_makeBracket_42 rfl cl_X9_26 wd_710 (J9_min_7cf53_s (Q := fun r z => r = some (.int (J9_min_7cf53_V ((2 * (ah_f h4 a_0 2)) + (ah_f h4 a_1 11)) 37 h4)) ∧ z = h4) ⟨rfl, rfl⟩) ?_
  intro r z hrz
  rw [hrz.1, hrz.2]
  show ex_G mX9_makeBracket (d + 17) 45 [.ref a_0, .ref a_1, .ref a_2, .retAddr 0, .retAddr 0, .retAddr 0] [.int (J9_min_7cf53_V ((2 * (ah_f h4 a_0 2)) + (ah_f h4 a_1 11)) 37 h4)] (h4) bc bs Q
  refine ex_nmi (fun x5 ex5 => ?_)
  replace w := w x5 ex5
  refine ex_istore_n (q := 46) (ls' := [.ref a_0, .ref a_1, .ref a_2, .int x5, .retAddr 0, .retAddr 0]) dX9_makeBracket_45 rfl ?_
  refine ex_iconst (q := 47) (v := 0) dX9_makeBracket_46 (by decide) ?_
  refine ex_istore (q := 49) (ls' := [.ref a_0, .ref a_1, .ref a_2, .int x5, .int 0, .retAddr 0]) dX9_makeBracket_47 rfl ?_
  exact w

set_option maxRecDepth 100000 in
theorem X9_makeBracket_49 {d bc bs : Nat} {h : AH} {Q : Option Value → AH → Prop} {a_0 : Nat} {a_1 : Nat} {a_2 : Nat} {v_3 : Int32} {v_4 : Int32} (w : ((v_3 < v_4 → ah_o h a_1 4 ∧ ∃ a3, ah_r h a_1 0 = some a3 ∧ ah_o h a_0 9 ∧ ∃ a5, ah_r h a_0 0 = some a5 ∧ cp_ h 0 a3 a5 0 0 (4 * (ah_f h a_0 2)) ∧ ∀ h7, h7 = ah_wi h a5 (va_cpy (ah_i h a3) (ah_i h a5) (Int32.toNatClampNeg 0) (Int32.toNatClampNeg 0) (Int32.toNatClampNeg (4 * (ah_f h a_0 2)))) → ex_S yX9_smoothFrom mX9_smoothFrom (d + 16) [.ref a_0, .int 0, .int 0, .int (ah_f h7 a_1 11)] h7 0 0 (fun r h8 => r = none ∧ ah_o h8 a_2 2 ∧ ex_S yX2_empty mX2_empty (d + 16) [.ref a_2] h8 0 0 (fun r h9 => r = none ∧ ex_G mX9_makeBracket (d + 17) 108 [.ref a_0, .retAddr 0, .ref a_2, .retAddr 0, .int v_3, .retAddr 0] [] h9 bc bs Q))) ∧ (¬ v_3 < v_4 → ah_o h a_0 9 ∧ ∃ a12, ah_r h a_0 1 = some a12 ∧ ld3 h 3 a12 v_4 ∧ ∃ a14, ah_q h a12 (Int32.toNatClampNeg v_4) = some a14 ∧ ex_S yJ7_fill_53178 mJ7_fill_53178 (d + 16) [.ref a14, .int 0] h 0 0 (fun r h15 => r = none ∧ ∀ x16, x16 = v_4 + 1 → ex_G mX9_makeBracket (d + 17) 49 [.ref a_0, .ref a_1, .ref a_2, .int v_3, .int x16, .retAddr 0] [] h15 bc bs Q)))) : ex_G mX9_makeBracket (d + 17) 49 [.ref a_0, .ref a_1, .ref a_2, .int v_3, .int v_4, .retAddr 0] [] h bc bs Q := by
  refine ex_iload (q := 51) (x := v_4) dX9_makeBracket_49 rfl ?_
  refine ex_iload_n (q := 52) (x := v_3) dX9_makeBracket_51 rfl ?_
  refine ex_icmp_gt (tgt := 72) (q := 55) dX9_makeBracket_52 (fun c1 => ?_) (fun c1 => ?_)
  · replace w := w.1 c1
    refine ex_aload_n (q := 73) (x := a_1) dX9_makeBracket_72 rfl ?_
    have s2 := w.1
    replace w := w.2
    obtain ⟨a3, ea3, w⟩ := w
    refine ex_getr (q := 76) dX9_makeBracket_73 fl_X9_53 s2 ea3 ?_
    refine ex_iconst (q := 77) (v := 0) dX9_makeBracket_76 (by decide) ?_
    refine ex_aload_n (q := 78) (x := a_0) dX9_makeBracket_77 rfl ?_
    have s4 := w.1
    replace w := w.2
    obtain ⟨a5, ea5, w⟩ := w
    refine ex_getr (q := 81) dX9_makeBracket_78 fl_X9_9 s4 ea5 ?_
    refine ex_iconst (q := 82) (v := 0) dX9_makeBracket_81 (by decide) ?_
    refine ex_iconst (q := 83) (v := 4) dX9_makeBracket_82 (by decide) ?_
    refine ex_aload_n (q := 84) (x := a_0) dX9_makeBracket_83 rfl ?_
    refine ex_getf (q := 87) dX9_makeBracket_84 fl_X9_39 s4 ?_
    refine ex_imul (q := 88) dX9_makeBracket_87 ?_
    have s6 := w.1
    replace w := w.2
    refine ex_copyip (q := 91) (hd1 := Nat.succ_le_succ (Nat.zero_le _)) dX9_makeBracket_88 wd_846 s6 ?_
    refine ex_nmh (fun h7 eh7 => ?_)
    replace w := w h7 eh7
    refine ex_aload_n (q := 92) (x := a_0) dX9_makeBracket_91 rfl ?_
    refine ex_iconst (q := 93) (v := 0) dX9_makeBracket_92 (by decide) ?_
    refine ex_iconst (q := 94) (v := 0) dX9_makeBracket_93 (by decide) ?_
    refine ex_aload_n (q := 95) (x := a_1) dX9_makeBracket_94 rfl ?_
    refine ex_getf (q := 98) dX9_makeBracket_95 fl_X9_44 (by rw [eh7]; exact s2) ?_
    refine ex_callV (q := 101) (M := mX9_makeBracket) (hdd := Nat.le_refl _) (c := 9) (st := []) (bc := bc) (bs := bs) dX9_makeBracket_98 rfl cl_X9_62 wd_849 wd_21 (by rw [eh7]; exact s4) w ?_
    rintro r h8 ⟨rfl, w⟩
    show ex_G mX9_makeBracket (d + 17) 101 [.ref a_0, .ref a_1, .ref a_2, .int v_3, .int v_4, .retAddr 0] [] h8 bc bs Q
    refine ex_aload_n (q := 102) (x := a_2) dX9_makeBracket_101 rfl ?_
    have s10 := w.1
    replace w := w.2
    refine ex_callV (q := 105) (M := mX9_makeBracket) (hdd := Nat.le_refl _) (c := 2) (st := []) (bc := bc) (bs := bs) dX9_makeBracket_102 rfl cl_X9_66 wd_860 wd_861 s10 w ?_
    rintro r h9 ⟨rfl, w⟩
    show ex_G mX9_makeBracket (d + 17) 105 [.ref a_0, .ref a_1, .ref a_2, .int v_3, .int v_4, .retAddr 0] [] h9 bc bs Q
    refine ex_iload_n (q := 106) (x := v_3) dX9_makeBracket_105 rfl ?_
    refine ex_istore (q := 108) (ls' := [.ref a_0, .ref a_1, .ref a_2, .int v_3, .int v_3, .retAddr 0]) dX9_makeBracket_106 rfl ?_
    refine ex_kill 1 (ls' := [.ref a_0, .retAddr 0, .ref a_2, .int v_3, .int v_3, .retAddr 0]) rfl ?_
    refine ex_kill 3 (ls' := [.ref a_0, .retAddr 0, .ref a_2, .retAddr 0, .int v_3, .retAddr 0]) rfl ?_
    exact w
  · replace w := w.2 c1
    refine ex_aload_n (q := 56) (x := a_0) dX9_makeBracket_55 rfl ?_
    have s11 := w.1
    replace w := w.2
    obtain ⟨a12, ea12, w⟩ := w
    refine ex_getr (q := 59) dX9_makeBracket_56 fl_X9_17 s11 ea12 ?_
    refine ex_iload (q := 61) (x := v_4) dX9_makeBracket_59 rfl ?_
    have s13 := w.1
    replace w := w.2
    obtain ⟨a14, ea14, w⟩ := w
    refine ex_aald (q := 62) dX9_makeBracket_61 s13 ea14 ?_
    refine ex_iconst (q := 63) (v := 0) dX9_makeBracket_62 (by decide) ?_
    refine ex_callS (q := 66) (M := mX9_makeBracket) (hdd := Nat.le_refl _) (st := []) (bc := bc) (bs := bs) dX9_makeBracket_63 rfl cl_X9_47 wd_251 w ?_
    rintro r h15 ⟨rfl, w⟩
    show ex_G mX9_makeBracket (d + 17) 66 [.ref a_0, .ref a_1, .ref a_2, .int v_3, .int v_4, .retAddr 0] [] h15 bc bs Q
    obtain ⟨x16, ex16⟩ : ∃ y : Int32, y = v_4 + 1 := ⟨_, rfl⟩
    replace w := w x16 ex16
    refine ex_iinc (q := 69) (x := v_4) (v := x16) (ls' := [.ref a_0, .ref a_1, .ref a_2, .int v_3, .int x16, .retAddr 0]) dX9_makeBracket_66 rfl (by rw [ex16]; rfl) rfl ?_
    refine ex_goto (tgt := 49) dX9_makeBracket_69 ?_
    exact w

set_option maxRecDepth 100000 in
theorem X9_makeBracket_108 {d bc bs : Nat} {h : AH} {Q : Option Value → AH → Prop} {a_0 : Nat} {a_2 : Nat} {v_4 : Int32} (w : ((v_4 < 1 → Q none h) ∧ (¬ v_4 < 1 → ah_o h a_2 2 ∧ ex_S yX2_multiplyByCircle mX2_multiplyByCircle (d + 16) [.ref a_2] h 0 0 (fun r h2 => r = none ∧ ex_G mX9_makeBracket (d + 17) 121 [.ref a_0, .retAddr 0, .ref a_2, .retAddr 0, .int v_4, .int 0] [] h2 bc bs Q)))) : ex_G mX9_makeBracket (d + 17) 108 [.ref a_0, .retAddr 0, .ref a_2, .retAddr 0, .int v_4, .retAddr 0] [] h bc bs Q := by
  refine ex_iload (q := 110) (x := v_4) dX9_makeBracket_108 rfl ?_
  refine ex_iconst (q := 111) (v := 1) dX9_makeBracket_110 (by decide) ?_
  refine ex_icmp_lt (tgt := 166) (q := 114) dX9_makeBracket_111 (fun c1 => ?_) (fun c1 => ?_)
  · replace w := w.1 c1
    exact ex_return dX9_makeBracket_166 w
  · replace w := w.2 c1
    refine ex_aload_n (q := 115) (x := a_2) dX9_makeBracket_114 rfl ?_
    have s3 := w.1
    replace w := w.2
    refine ex_callV (q := 118) (M := mX9_makeBracket) (hdd := Nat.le_refl _) (c := 2) (st := []) (bc := bc) (bs := bs) dX9_makeBracket_115 rfl cl_X9_71 wd_867 wd_868 s3 w ?_
    rintro r h2 ⟨rfl, w⟩
    show ex_G mX9_makeBracket (d + 17) 118 [.ref a_0, .retAddr 0, .ref a_2, .retAddr 0, .int v_4, .retAddr 0] [] h2 bc bs Q
    refine ex_iconst (q := 119) (v := 0) dX9_makeBracket_118 (by decide) ?_
    refine ex_istore (q := 121) (ls' := [.ref a_0, .retAddr 0, .ref a_2, .retAddr 0, .int v_4, .int 0]) dX9_makeBracket_119 rfl ?_
    exact w

set_option maxRecDepth 100000 in
theorem X9_makeBracket_121 {d bc bs : Nat} {h : AH} {Q : Option Value → AH → Prop} {a_0 : Nat} {a_2 : Nat} {v_4 : Int32} {v_5 : Int32} (w : ah_o h a_0 9 ∧ (((ah_f h a_0 2) < v_5 → ∀ x3, x3 = v_4 + (-1) → ex_G mX9_makeBracket (d + 17) 108 [.ref a_0, .retAddr 0, .ref a_2, .retAddr 0, .int x3, .retAddr 0] [] h bc bs Q) ∧ (¬ (ah_f h a_0 2) < v_5 → ∃ a4, ah_r h a_0 1 = some a4 ∧ ld3 h 3 a4 v_4 ∧ ∃ a6, ah_q h a4 (Int32.toNatClampNeg v_4) = some a6 ∧ ld0 h a6 v_5 ∧ ah_o h a_2 2 ∧ ex_S yX2_add mX2_add (d + 16) [.ref a_2, .int ((2 * v_5) - (ah_f h a_0 2)), .long (Int32.toInt64 (ah_i h a6 (Int32.toNatClampNeg v_5)))] h 0 0 (fun r h8 => r = none ∧ ∀ x10, x10 = v_5 + 1 → ex_G mX9_makeBracket (d + 17) 121 [.ref a_0, .retAddr 0, .ref a_2, .retAddr 0, .int v_4, .int x10] [] h8 bc bs Q)))) : ex_G mX9_makeBracket (d + 17) 121 [.ref a_0, .retAddr 0, .ref a_2, .retAddr 0, .int v_4, .int v_5] [] h bc bs Q := by
  refine ex_iload (q := 123) (x := v_5) dX9_makeBracket_121 rfl ?_
  refine ex_aload_n (q := 124) (x := a_0) dX9_makeBracket_123 rfl ?_
  have s1 := w.1
  replace w := w.2
  refine ex_getf (q := 127) dX9_makeBracket_124 fl_X9_39 s1 ?_
  refine ex_icmp_gt (tgt := 160) (q := 130) dX9_makeBracket_127 (fun c2 => ?_) (fun c2 => ?_)
  · replace w := w.1 c2
    obtain ⟨x3, ex3⟩ : ∃ y : Int32, y = v_4 + (-1) := ⟨_, rfl⟩
    replace w := w x3 ex3
    refine ex_iinc (q := 163) (x := v_4) (v := x3) (ls' := [.ref a_0, .retAddr 0, .ref a_2, .retAddr 0, .int x3, .int v_5]) dX9_makeBracket_160 rfl (by rw [ex3]; rfl) rfl ?_
    refine ex_goto (tgt := 108) dX9_makeBracket_163 ?_
    refine ex_kill 5 (ls' := [.ref a_0, .retAddr 0, .ref a_2, .retAddr 0, .int x3, .retAddr 0]) rfl ?_
    exact w
  · replace w := w.2 c2
    refine ex_aload_n (q := 131) (x := a_2) dX9_makeBracket_130 rfl ?_
    refine ex_iconst (q := 132) (v := 2) dX9_makeBracket_131 (by decide) ?_
    refine ex_iload (q := 134) (x := v_5) dX9_makeBracket_132 rfl ?_
    refine ex_imul (q := 135) dX9_makeBracket_134 ?_
    refine ex_aload_n (q := 136) (x := a_0) dX9_makeBracket_135 rfl ?_
    refine ex_getf (q := 139) dX9_makeBracket_136 fl_X9_39 s1 ?_
    refine ex_isub (q := 140) dX9_makeBracket_139 ?_
    refine ex_aload_n (q := 141) (x := a_0) dX9_makeBracket_140 rfl ?_
    obtain ⟨a4, ea4, w⟩ := w
    refine ex_getr (q := 144) dX9_makeBracket_141 fl_X9_17 s1 ea4 ?_
    refine ex_iload (q := 146) (x := v_4) dX9_makeBracket_144 rfl ?_
    have s5 := w.1
    replace w := w.2
    obtain ⟨a6, ea6, w⟩ := w
    refine ex_aald (q := 147) dX9_makeBracket_146 s5 ea6 ?_
    refine ex_iload (q := 149) (x := v_5) dX9_makeBracket_147 rfl ?_
    have s7 := w.1
    replace w := w.2
    refine ex_iald (q := 150) dX9_makeBracket_149 s7 ?_
    refine ex_i2l (q := 151) dX9_makeBracket_150 ?_
    have s9 := w.1
    replace w := w.2
    refine ex_callV (q := 154) (M := mX9_makeBracket) (hdd := Nat.le_refl _) (c := 2) (st := []) (bc := bc) (bs := bs) dX9_makeBracket_151 rfl cl_X9_74 wd_879 wd_880 s9 w ?_
    rintro r h8 ⟨rfl, w⟩
    show ex_G mX9_makeBracket (d + 17) 154 [.ref a_0, .retAddr 0, .ref a_2, .retAddr 0, .int v_4, .int v_5] [] h8 bc bs Q
    obtain ⟨x10, ex10⟩ : ∃ y : Int32, y = v_5 + 1 := ⟨_, rfl⟩
    replace w := w x10 ex10
    refine ex_iinc (q := 157) (x := v_5) (v := x10) (ls' := [.ref a_0, .retAddr 0, .ref a_2, .retAddr 0, .int v_4, .int x10]) dX9_makeBracket_154 rfl (by rw [ex10]; rfl) rfl ?_
    refine ex_goto (tgt := 121) dX9_makeBracket_157 ?_
    exact w

theorem X9_makeBracket_e {d bc bs : Nat} {h : AH} {Q : Option Value → AH → Prop} {a_0 : Nat} {a_1 : Nat} {a_2 : Nat} (w : ex_G mX9_makeBracket (d + 17) 0 [.ref a_0, .ref a_1, .ref a_2, .retAddr 0, .retAddr 0, .retAddr 0] [] h bc bs Q) : ex_S yX9_makeBracket mX9_makeBracket (d + 17) [.ref a_0, .ref a_1, .ref a_2] h bc bs Q :=
  ex_enter (plainFor_of_name (by decide +kernel)) ⟨rfl, rfl⟩ rfl rfl (Nat.le_of_ble_eq_true rfl) (ex_pad 3 w)

set_option maxRecDepth 100000 in
theorem X9_makePolynomial_0 {d bc bs : Nat} {h : AH} {Q : Option Value → AH → Prop} {a_0 : Nat} {a_1 : Nat} {a_2 : Nat} (w : ah_o h a_0 9 ∧ ex_S yX9_makeBracket mX9_makeBracket (d + 17) [.ref a_0, .ref a_1, .ref a_2] h 0 0 (fun r h1 => r = none ∧ ah_o h1 a_1 4 ∧ ah_o h1 a_2 2 ∧ ex_S yX2_levelOut mX2_levelOut (d + 17) [.ref a_2, .int (ah_f h1 a_1 15)] h1 0 0 (fun r h4 => r = none ∧ Q none h4))) : ex_G mX9_makePolynomial (d + 18) 0 [.ref a_0, .ref a_1, .ref a_2] [] h bc bs Q := by
  refine ex_aload_n (q := 1) (x := a_0) dX9_makePolynomial_0 rfl ?_
  refine ex_aload_n (q := 2) (x := a_1) dX9_makePolynomial_1 rfl ?_
  refine ex_aload_n (q := 3) (x := a_2) dX9_makePolynomial_2 rfl ?_
  have s2 := w.1
  replace w := w.2
  refine ex_callV (q := 6) (M := mX9_makePolynomial) (hdd := Nat.le_refl _) (c := 9) (st := []) (bc := bc) (bs := bs) dX9_makePolynomial_3 rfl cl_X9_78 wd_841 wd_842 s2 w ?_
  rintro r h1 ⟨rfl, w⟩
  show ex_G mX9_makePolynomial (d + 18) 6 [.ref a_0, .ref a_1, .ref a_2] [] h1 bc bs Q
  refine ex_aload_n (q := 7) (x := a_2) dX9_makePolynomial_6 rfl ?_
  refine ex_aload_n (q := 8) (x := a_1) dX9_makePolynomial_7 rfl ?_
  have s3 := w.1
  replace w := w.2
  refine ex_getf (q := 11) dX9_makePolynomial_8 fl_X9_82 s3 ?_
  have s5 := w.1
  replace w := w.2
  refine ex_callV (q := 14) (M := mX9_makePolynomial) (hdd := Nat.le_refl _) (c := 2) (st := []) (bc := bc) (bs := bs) dX9_makePolynomial_11 rfl cl_X9_85 wd_896 wd_897 s5 w ?_
  rintro r h4 ⟨rfl, w⟩
  show ex_G mX9_makePolynomial (d + 18) 14 [.ref a_0, .ref a_1, .ref a_2] [] h4 bc bs Q
  exact ex_return dX9_makePolynomial_14 w

theorem X9_makePolynomial_e {d bc bs : Nat} {h : AH} {Q : Option Value → AH → Prop} {a_0 : Nat} {a_1 : Nat} {a_2 : Nat} (w : ex_G mX9_makePolynomial (d + 18) 0 [.ref a_0, .ref a_1, .ref a_2] [] h bc bs Q) : ex_S yX9_makePolynomial mX9_makePolynomial (d + 18) [.ref a_0, .ref a_1, .ref a_2] h bc bs Q :=
  ex_enter (plainFor_of_name (by decide +kernel)) ⟨rfl, rfl⟩ rfl rfl (Nat.le_of_ble_eq_true rfl) (ex_pad 0 w)

set_option maxRecDepth 100000 in
theorem X9_smoothFrom_0 {d bc bs : Nat} {h : AH} {Q : Option Value → AH → Prop} {a_0 : Nat} {v_1 : Int32} {v_2 : Int32} {v_3 : Int32} (w : ah_o h a_0 9 ∧ ((v_1 < (ah_f h a_0 2) → ∀ x3, x3 = 4 * v_1 → ex_S yX9_tie mX9_tie d [.ref a_0, .int x3, .int (x3 + 1)] h 0 0 (fun r h4 => ∃ x5, r = some (.int x5) ∧ ah_o h4 a_0 9 ∧ ex_S yX9_tie mX9_tie d [.ref a_0, .int (x3 + 2), .int (x3 + 3)] h4 0 0 (fun r h6 => ∃ x8, r = some (.int x8) ∧ ∀ x9, x9 = x5 + x8 → ah_o h6 a_0 9 ∧ ex_S yX9_smoothFrom mX9_smoothFrom d [.ref a_0, .int (v_1 + 1), .int (v_2 + 1), .int (v_3 + x9)] h6 0 0 (fun r h10 => r = none ∧ ah_o h10 a_0 9 ∧ ex_S yX9_untie mX9_untie d [.ref a_0, .int (x3 + 2), .int (x3 + 3)] h10 0 0 (fun r h12 => r = none ∧ ah_o h12 a_0 9 ∧ ex_S yX9_untie mX9_untie d [.ref a_0, .int x3, .int (x3 + 1)] h12 0 0 (fun r h14 => r = none ∧ ah_o h14 a_0 9 ∧ ex_S yX9_tie mX9_tie d [.ref a_0, .int x3, .int (x3 + 3)] h14 0 0 (fun r h16 => ∃ x18, r = some (.int x18) ∧ ah_o h16 a_0 9 ∧ ex_S yX9_tie mX9_tie d [.ref a_0, .int (x3 + 1), .int (x3 + 2)] h16 0 0 (fun r h19 => ∃ x21, r = some (.int x21) ∧ ∀ x22, x22 = x18 + x21 → ah_o h19 a_0 9 ∧ ex_S yX9_smoothFrom mX9_smoothFrom d [.ref a_0, .int (v_1 + 1), .int v_2, .int (v_3 + x22)] h19 0 0 (fun r h23 => r = none ∧ ah_o h23 a_0 9 ∧ ex_S yX9_untie mX9_untie d [.ref a_0, .int (x3 + 1), .int (x3 + 2)] h23 0 0 (fun r h25 => r = none ∧ ah_o h25 a_0 9 ∧ ex_S yX9_untie mX9_untie d [.ref a_0, .int x3, .int (x3 + 3)] h25 0 0 (fun r h27 => r = none ∧ Q none h27))))))))))) ∧ (¬ v_1 < (ah_f h a_0 2) → ((v_3 < 0 → Q none h) ∧ (¬ v_3 < 0 → ((37 < v_3 → Q none h) ∧ (¬ 37 < v_3 → ((14 < v_2 → Q none h) ∧ (¬ 14 < v_2 → ∃ a32, ah_r h a_0 1 = some a32 ∧ ld3 h 3 a32 v_3 ∧ ∃ a34, ah_q h a32 (Int32.toNatClampNeg v_3) = some a34 ∧ ld0 h a34 v_2 ∧ st0 h a34 v_2 ∧ ∀ h36, h36 = ah_si h a34 (Int32.toNatClampNeg v_2) ((ah_i h a34 (Int32.toNatClampNeg v_2)) + 1) → Q none h36))))))))) : ex_G mX9_smoothFrom (d + 1) 0 [.ref a_0, .int v_1, .int v_2, .int v_3, .retAddr 0, .retAddr 0] [] h bc bs Q := by
  refine ex_iload_n (q := 1) (x := v_1) dX9_smoothFrom_0 rfl ?_
  refine ex_aload_n (q := 2) (x := a_0) dX9_smoothFrom_1 rfl ?_
  have s1 := w.1
  replace w := w.2
  refine ex_getf (q := 5) dX9_smoothFrom_2 fl_X9_39 s1 ?_
  refine ex_icmp_lt (tgt := 37) (q := 8) dX9_smoothFrom_5 (fun c2 => ?_) (fun c2 => ?_)
  · replace w := w.1 c2
    refine ex_iconst (q := 38) (v := 4) dX9_smoothFrom_37 (by decide) ?_
    refine ex_iload_n (q := 39) (x := v_1) dX9_smoothFrom_38 rfl ?_
    refine ex_imul (q := 40) dX9_smoothFrom_39 ?_
    refine ex_nmi (fun x3 ex3 => ?_)
    replace w := w x3 ex3
    refine ex_istore (q := 42) (ls' := [.ref a_0, .int v_1, .int v_2, .int v_3, .int x3, .retAddr 0]) dX9_smoothFrom_40 rfl ?_
    refine ex_aload_n (q := 43) (x := a_0) dX9_smoothFrom_42 rfl ?_
    refine ex_iload (q := 45) (x := x3) dX9_smoothFrom_43 rfl ?_
    refine ex_iload (q := 47) (x := x3) dX9_smoothFrom_45 rfl ?_
    refine ex_iconst (q := 48) (v := 1) dX9_smoothFrom_47 (by decide) ?_
    refine ex_iadd (q := 49) dX9_smoothFrom_48 ?_
    refine ex_callV (q := 52) (M := mX9_smoothFrom) (hdd := Nat.le_refl _) (c := 9) (st := []) (bc := bc) (bs := bs) dX9_smoothFrom_49 rfl cl_X9_89 wd_853 wd_22 s1 w ?_
    rintro r h4 ⟨x5, rfl, w⟩
    show ex_G mX9_smoothFrom (d + 1) 52 [.ref a_0, .int v_1, .int v_2, .int v_3, .int x3, .retAddr 0] [.int x5] h4 bc bs Q
    refine ex_aload_n (q := 53) (x := a_0) dX9_smoothFrom_52 rfl ?_
    refine ex_iload (q := 55) (x := x3) dX9_smoothFrom_53 rfl ?_
    refine ex_iconst (q := 56) (v := 2) dX9_smoothFrom_55 (by decide) ?_
    refine ex_iadd (q := 57) dX9_smoothFrom_56 ?_
    refine ex_iload (q := 59) (x := x3) dX9_smoothFrom_57 rfl ?_
    refine ex_iconst (q := 60) (v := 3) dX9_smoothFrom_59 (by decide) ?_
    refine ex_iadd (q := 61) dX9_smoothFrom_60 ?_
    have s7 := w.1
    replace w := w.2
    refine ex_callV (q := 64) (M := mX9_smoothFrom) (hdd := Nat.le_refl _) (c := 9) (st := [.int x5]) (bc := bc) (bs := bs) dX9_smoothFrom_61 rfl cl_X9_89 wd_853 wd_22 s7 w ?_
    rintro r h6 ⟨x8, rfl, w⟩
    show ex_G mX9_smoothFrom (d + 1) 64 [.ref a_0, .int v_1, .int v_2, .int v_3, .int x3, .retAddr 0] [.int x8, .int x5] h6 bc bs Q
    refine ex_iadd (q := 65) dX9_smoothFrom_64 ?_
    refine ex_nmi (fun x9 ex9 => ?_)
    replace w := w x9 ex9
    refine ex_istore (q := 67) (ls' := [.ref a_0, .int v_1, .int v_2, .int v_3, .int x3, .int x9]) dX9_smoothFrom_65 rfl ?_
    refine ex_aload_n (q := 68) (x := a_0) dX9_smoothFrom_67 rfl ?_
    refine ex_iload_n (q := 69) (x := v_1) dX9_smoothFrom_68 rfl ?_
    refine ex_iconst (q := 70) (v := 1) dX9_smoothFrom_69 (by decide) ?_
    refine ex_iadd (q := 71) dX9_smoothFrom_70 ?_
    refine ex_iload_n (q := 72) (x := v_2) dX9_smoothFrom_71 rfl ?_
    refine ex_iconst (q := 73) (v := 1) dX9_smoothFrom_72 (by decide) ?_
    refine ex_iadd (q := 74) dX9_smoothFrom_73 ?_
    refine ex_iload_n (q := 75) (x := v_3) dX9_smoothFrom_74 rfl ?_
    refine ex_iload (q := 77) (x := x9) dX9_smoothFrom_75 rfl ?_
    refine ex_iadd (q := 78) dX9_smoothFrom_77 ?_
    have s11 := w.1
    replace w := w.2
    refine ex_callV (q := 81) (M := mX9_smoothFrom) (hdd := Nat.le_refl _) (c := 9) (st := []) (bc := bc) (bs := bs) dX9_smoothFrom_78 rfl cl_X9_62 wd_849 wd_21 s11 w ?_
    rintro r h10 ⟨rfl, w⟩
    show ex_G mX9_smoothFrom (d + 1) 81 [.ref a_0, .int v_1, .int v_2, .int v_3, .int x3, .int x9] [] h10 bc bs Q
    refine ex_aload_n (q := 82) (x := a_0) dX9_smoothFrom_81 rfl ?_
    refine ex_iload (q := 84) (x := x3) dX9_smoothFrom_82 rfl ?_
    refine ex_iconst (q := 85) (v := 2) dX9_smoothFrom_84 (by decide) ?_
    refine ex_iadd (q := 86) dX9_smoothFrom_85 ?_
    refine ex_iload (q := 88) (x := x3) dX9_smoothFrom_86 rfl ?_
    refine ex_iconst (q := 89) (v := 3) dX9_smoothFrom_88 (by decide) ?_
    refine ex_iadd (q := 90) dX9_smoothFrom_89 ?_
    have s13 := w.1
    replace w := w.2
    refine ex_callV (q := 93) (M := mX9_smoothFrom) (hdd := Nat.le_refl _) (c := 9) (st := []) (bc := bc) (bs := bs) dX9_smoothFrom_90 rfl cl_X9_92 wd_857 wd_23 s13 w ?_
    rintro r h12 ⟨rfl, w⟩
    show ex_G mX9_smoothFrom (d + 1) 93 [.ref a_0, .int v_1, .int v_2, .int v_3, .int x3, .int x9] [] h12 bc bs Q
    refine ex_aload_n (q := 94) (x := a_0) dX9_smoothFrom_93 rfl ?_
    refine ex_iload (q := 96) (x := x3) dX9_smoothFrom_94 rfl ?_
    refine ex_iload (q := 98) (x := x3) dX9_smoothFrom_96 rfl ?_
    refine ex_iconst (q := 99) (v := 1) dX9_smoothFrom_98 (by decide) ?_
    refine ex_iadd (q := 100) dX9_smoothFrom_99 ?_
    have s15 := w.1
    replace w := w.2
    refine ex_callV (q := 103) (M := mX9_smoothFrom) (hdd := Nat.le_refl _) (c := 9) (st := []) (bc := bc) (bs := bs) dX9_smoothFrom_100 rfl cl_X9_92 wd_857 wd_23 s15 w ?_
    rintro r h14 ⟨rfl, w⟩
    show ex_G mX9_smoothFrom (d + 1) 103 [.ref a_0, .int v_1, .int v_2, .int v_3, .int x3, .int x9] [] h14 bc bs Q
    refine ex_aload_n (q := 104) (x := a_0) dX9_smoothFrom_103 rfl ?_
    refine ex_iload (q := 106) (x := x3) dX9_smoothFrom_104 rfl ?_
    refine ex_iload (q := 108) (x := x3) dX9_smoothFrom_106 rfl ?_
    refine ex_iconst (q := 109) (v := 3) dX9_smoothFrom_108 (by decide) ?_
    refine ex_iadd (q := 110) dX9_smoothFrom_109 ?_
    have s17 := w.1
    replace w := w.2
    refine ex_callV (q := 113) (M := mX9_smoothFrom) (hdd := Nat.le_refl _) (c := 9) (st := []) (bc := bc) (bs := bs) dX9_smoothFrom_110 rfl cl_X9_89 wd_853 wd_22 s17 w ?_
    rintro r h16 ⟨x18, rfl, w⟩
    show ex_G mX9_smoothFrom (d + 1) 113 [.ref a_0, .int v_1, .int v_2, .int v_3, .int x3, .int x9] [.int x18] h16 bc bs Q
    refine ex_aload_n (q := 114) (x := a_0) dX9_smoothFrom_113 rfl ?_
    refine ex_iload (q := 116) (x := x3) dX9_smoothFrom_114 rfl ?_
    refine ex_iconst (q := 117) (v := 1) dX9_smoothFrom_116 (by decide) ?_
    refine ex_iadd (q := 118) dX9_smoothFrom_117 ?_
    refine ex_iload (q := 120) (x := x3) dX9_smoothFrom_118 rfl ?_
    refine ex_iconst (q := 121) (v := 2) dX9_smoothFrom_120 (by decide) ?_
    refine ex_iadd (q := 122) dX9_smoothFrom_121 ?_
    have s20 := w.1
    replace w := w.2
    refine ex_callV (q := 125) (M := mX9_smoothFrom) (hdd := Nat.le_refl _) (c := 9) (st := [.int x18]) (bc := bc) (bs := bs) dX9_smoothFrom_122 rfl cl_X9_89 wd_853 wd_22 s20 w ?_
    rintro r h19 ⟨x21, rfl, w⟩
    show ex_G mX9_smoothFrom (d + 1) 125 [.ref a_0, .int v_1, .int v_2, .int v_3, .int x3, .int x9] [.int x21, .int x18] h19 bc bs Q
    refine ex_iadd (q := 126) dX9_smoothFrom_125 ?_
    refine ex_nmi (fun x22 ex22 => ?_)
    replace w := w x22 ex22
    refine ex_istore (q := 128) (ls' := [.ref a_0, .int v_1, .int v_2, .int v_3, .int x3, .int x22]) dX9_smoothFrom_126 rfl ?_
    refine ex_aload_n (q := 129) (x := a_0) dX9_smoothFrom_128 rfl ?_
    refine ex_iload_n (q := 130) (x := v_1) dX9_smoothFrom_129 rfl ?_
    refine ex_iconst (q := 131) (v := 1) dX9_smoothFrom_130 (by decide) ?_
    refine ex_iadd (q := 132) dX9_smoothFrom_131 ?_
    refine ex_iload_n (q := 133) (x := v_2) dX9_smoothFrom_132 rfl ?_
    refine ex_iload_n (q := 134) (x := v_3) dX9_smoothFrom_133 rfl ?_
    refine ex_iload (q := 136) (x := x22) dX9_smoothFrom_134 rfl ?_
    refine ex_iadd (q := 137) dX9_smoothFrom_136 ?_
    have s24 := w.1
    replace w := w.2
    refine ex_callV (q := 140) (M := mX9_smoothFrom) (hdd := Nat.le_refl _) (c := 9) (st := []) (bc := bc) (bs := bs) dX9_smoothFrom_137 rfl cl_X9_62 wd_849 wd_21 s24 w ?_
    rintro r h23 ⟨rfl, w⟩
    show ex_G mX9_smoothFrom (d + 1) 140 [.ref a_0, .int v_1, .int v_2, .int v_3, .int x3, .int x22] [] h23 bc bs Q
    refine ex_aload_n (q := 141) (x := a_0) dX9_smoothFrom_140 rfl ?_
    refine ex_iload (q := 143) (x := x3) dX9_smoothFrom_141 rfl ?_
    refine ex_iconst (q := 144) (v := 1) dX9_smoothFrom_143 (by decide) ?_
    refine ex_iadd (q := 145) dX9_smoothFrom_144 ?_
    refine ex_iload (q := 147) (x := x3) dX9_smoothFrom_145 rfl ?_
    refine ex_iconst (q := 148) (v := 2) dX9_smoothFrom_147 (by decide) ?_
    refine ex_iadd (q := 149) dX9_smoothFrom_148 ?_
    have s26 := w.1
    replace w := w.2
    refine ex_callV (q := 152) (M := mX9_smoothFrom) (hdd := Nat.le_refl _) (c := 9) (st := []) (bc := bc) (bs := bs) dX9_smoothFrom_149 rfl cl_X9_92 wd_857 wd_23 s26 w ?_
    rintro r h25 ⟨rfl, w⟩
    show ex_G mX9_smoothFrom (d + 1) 152 [.ref a_0, .int v_1, .int v_2, .int v_3, .int x3, .int x22] [] h25 bc bs Q
    refine ex_aload_n (q := 153) (x := a_0) dX9_smoothFrom_152 rfl ?_
    refine ex_iload (q := 155) (x := x3) dX9_smoothFrom_153 rfl ?_
    refine ex_iload (q := 157) (x := x3) dX9_smoothFrom_155 rfl ?_
    refine ex_iconst (q := 158) (v := 3) dX9_smoothFrom_157 (by decide) ?_
    refine ex_iadd (q := 159) dX9_smoothFrom_158 ?_
    have s28 := w.1
    replace w := w.2
    refine ex_callV (q := 162) (M := mX9_smoothFrom) (hdd := Nat.le_refl _) (c := 9) (st := []) (bc := bc) (bs := bs) dX9_smoothFrom_159 rfl cl_X9_92 wd_857 wd_23 s28 w ?_
    rintro r h27 ⟨rfl, w⟩
    show ex_G mX9_smoothFrom (d + 1) 162 [.ref a_0, .int v_1, .int v_2, .int v_3, .int x3, .int x22] [] h27 bc bs Q
    exact ex_return dX9_smoothFrom_162 w
  · replace w := w.2 c2
    refine ex_iload_n (q := 9) (x := v_3) dX9_smoothFrom_8 rfl ?_
    refine ex_if_lt (tgt := 36) (q := 12) dX9_smoothFrom_9 (fun c29 => ?_) (fun c29 => ?_)
    · replace w := w.1 c29
      exact ex_return dX9_smoothFrom_36 w
    · replace w := w.2 c29
      refine ex_iload_n (q := 13) (x := v_3) dX9_smoothFrom_12 rfl ?_
      refine ex_bipush (q := 15) (v := 37) dX9_smoothFrom_13 (by decide) ?_
      refine ex_icmp_gt (tgt := 36) (q := 18) dX9_smoothFrom_15 (fun c30 => ?_) (fun c30 => ?_)
      · replace w := w.1 c30
        exact ex_return dX9_smoothFrom_36 w
      · replace w := w.2 c30
        refine ex_iload_n (q := 19) (x := v_2) dX9_smoothFrom_18 rfl ?_
        refine ex_bipush (q := 21) (v := 14) dX9_smoothFrom_19 (by decide) ?_
        refine ex_icmp_gt (tgt := 36) (q := 24) dX9_smoothFrom_21 (fun c31 => ?_) (fun c31 => ?_)
        · replace w := w.1 c31
          exact ex_return dX9_smoothFrom_36 w
        · replace w := w.2 c31
          refine ex_aload_n (q := 25) (x := a_0) dX9_smoothFrom_24 rfl ?_
          obtain ⟨a32, ea32, w⟩ := w
          refine ex_getr (q := 28) dX9_smoothFrom_25 fl_X9_17 s1 ea32 ?_
          refine ex_iload_n (q := 29) (x := v_3) dX9_smoothFrom_28 rfl ?_
          have s33 := w.1
          replace w := w.2
          obtain ⟨a34, ea34, w⟩ := w
          refine ex_aald (q := 30) dX9_smoothFrom_29 s33 ea34 ?_
          refine ex_iload_n (q := 31) (x := v_2) dX9_smoothFrom_30 rfl ?_
          refine ex_dup2 (q := 32) dX9_smoothFrom_31 rfl rfl ?_
          have s35 := w.1
          replace w := w.2
          refine ex_iald (q := 33) dX9_smoothFrom_32 s35 ?_
          refine ex_iconst (q := 34) (v := 1) dX9_smoothFrom_33 (by decide) ?_
          refine ex_iadd (q := 35) dX9_smoothFrom_34 ?_
          have s37 := w.1
          replace w := w.2
          refine ex_iast (q := 36) dX9_smoothFrom_35 s37 ?_
          refine ex_nmh (fun h36 eh36 => ?_)
          replace w := w h36 eh36
          exact ex_return dX9_smoothFrom_36 w

theorem X9_smoothFrom_e {d bc bs : Nat} {h : AH} {Q : Option Value → AH → Prop} {a_0 : Nat} {v_1 : Int32} {v_2 : Int32} {v_3 : Int32} (w : ex_G mX9_smoothFrom (d + 1) 0 [.ref a_0, .int v_1, .int v_2, .int v_3, .retAddr 0, .retAddr 0] [] h bc bs Q) : ex_S yX9_smoothFrom mX9_smoothFrom (d + 1) [.ref a_0, .int v_1, .int v_2, .int v_3] h bc bs Q :=
  ex_enter (plainFor_of_name (by decide +kernel)) ⟨rfl, rfl⟩ rfl rfl (Nat.le_of_ble_eq_true rfl) (ex_pad 2 w)

set_option maxRecDepth 100000 in
theorem X9_tie_0 {d bc bs : Nat} {h : AH} {Q : Option Value → AH → Prop} {a_0 : Nat} {v_1 : Int32} {v_2 : Int32} (w : ah_o h a_0 9 ∧ ∃ a2, ah_r h a_0 0 = some a2 ∧ ld0 h a2 v_1 ∧ ((¬ (ah_i h a2 (Int32.toNatClampNeg v_1)) = v_2 → ld0 h a2 v_2 ∧ st0 h a2 (ah_i h a2 (Int32.toNatClampNeg v_1)) ∧ ∀ h6, h6 = ah_si h a2 (Int32.toNatClampNeg (ah_i h a2 (Int32.toNatClampNeg v_1))) (ah_i h a2 (Int32.toNatClampNeg v_2)) → st0 h6 a2 (ah_i h6 a2 (Int32.toNatClampNeg v_2)) ∧ ∀ h8, h8 = ah_si h6 a2 (Int32.toNatClampNeg (ah_i h6 a2 (Int32.toNatClampNeg v_2))) (ah_i h6 a2 (Int32.toNatClampNeg v_1)) → Q (some (.int 0)) h8) ∧ ((ah_i h a2 (Int32.toNatClampNeg v_1)) = v_2 → Q (some (.int 1)) h))) : ex_G mX9_tie d 0 [.ref a_0, .int v_1, .int v_2] [] h bc bs Q := by
  refine ex_aload_n (q := 1) (x := a_0) dX9_tie_0 rfl ?_
  have s1 := w.1
  replace w := w.2
  obtain ⟨a2, ea2, w⟩ := w
  refine ex_getr (q := 4) dX9_tie_1 fl_X9_9 s1 ea2 ?_
  refine ex_iload_n (q := 5) (x := v_1) dX9_tie_4 rfl ?_
  have s3 := w.1
  replace w := w.2
  refine ex_iald (q := 6) dX9_tie_5 s3 ?_
  refine ex_iload_n (q := 7) (x := v_2) dX9_tie_6 rfl ?_
  refine ex_icmp_ne (tgt := 12) (q := 10) dX9_tie_7 (fun c4 => ?_) (fun c4 => ?_)
  · replace w := w.1 c4
    refine ex_aload_n (q := 13) (x := a_0) dX9_tie_12 rfl ?_
    refine ex_getr (q := 16) dX9_tie_13 fl_X9_9 s1 ea2 ?_
    refine ex_aload_n (q := 17) (x := a_0) dX9_tie_16 rfl ?_
    refine ex_getr (q := 20) dX9_tie_17 fl_X9_9 s1 ea2 ?_
    refine ex_iload_n (q := 21) (x := v_1) dX9_tie_20 rfl ?_
    refine ex_iald (q := 22) dX9_tie_21 s3 ?_
    refine ex_aload_n (q := 23) (x := a_0) dX9_tie_22 rfl ?_
    refine ex_getr (q := 26) dX9_tie_23 fl_X9_9 s1 ea2 ?_
    refine ex_iload_n (q := 27) (x := v_2) dX9_tie_26 rfl ?_
    have s5 := w.1
    replace w := w.2
    refine ex_iald (q := 28) dX9_tie_27 s5 ?_
    have s7 := w.1
    replace w := w.2
    refine ex_iast (q := 29) dX9_tie_28 s7 ?_
    refine ex_nmh (fun h6 eh6 => ?_)
    replace w := w h6 eh6
    refine ex_aload_n (q := 30) (x := a_0) dX9_tie_29 rfl ?_
    refine ex_getr (q := 33) dX9_tie_30 fl_X9_9 (by rw [eh6]; exact s1) (by rw [eh6]; exact ea2) ?_
    refine ex_aload_n (q := 34) (x := a_0) dX9_tie_33 rfl ?_
    refine ex_getr (q := 37) dX9_tie_34 fl_X9_9 (by rw [eh6]; exact s1) (by rw [eh6]; exact ea2) ?_
    refine ex_iload_n (q := 38) (x := v_2) dX9_tie_37 rfl ?_
    refine ex_iald (q := 39) dX9_tie_38 (by rw [eh6]; exact s5) ?_
    refine ex_aload_n (q := 40) (x := a_0) dX9_tie_39 rfl ?_
    refine ex_getr (q := 43) dX9_tie_40 fl_X9_9 (by rw [eh6]; exact s1) (by rw [eh6]; exact ea2) ?_
    refine ex_iload_n (q := 44) (x := v_1) dX9_tie_43 rfl ?_
    refine ex_iald (q := 45) dX9_tie_44 (by rw [eh6]; exact s3) ?_
    have s9 := w.1
    replace w := w.2
    refine ex_iast (q := 46) dX9_tie_45 s9 ?_
    refine ex_nmh (fun h8 eh8 => ?_)
    replace w := w h8 eh8
    refine ex_iconst (q := 47) (v := 0) dX9_tie_46 (by decide) ?_
    exact ex_ireturn dX9_tie_47 rfl (Or.inl rfl) w
  · replace w := w.2 c4
    refine ex_iconst (q := 11) (v := 1) dX9_tie_10 (by decide) ?_
    exact ex_ireturn dX9_tie_11 rfl (Or.inl rfl) w

theorem X9_tie_e {d bc bs : Nat} {h : AH} {Q : Option Value → AH → Prop} {a_0 : Nat} {v_1 : Int32} {v_2 : Int32} (w : ex_G mX9_tie d 0 [.ref a_0, .int v_1, .int v_2] [] h bc bs Q) : ex_S yX9_tie mX9_tie d [.ref a_0, .int v_1, .int v_2] h bc bs Q :=
  ex_enter (plainFor_of_name (by decide +kernel)) ⟨rfl, rfl⟩ rfl rfl (Nat.le_of_ble_eq_true rfl) (ex_pad 0 w)

set_option maxRecDepth 100000 in
theorem X9_untie_0 {d bc bs : Nat} {h : AH} {Q : Option Value → AH → Prop} {a_0 : Nat} {v_1 : Int32} {v_2 : Int32} (w : ah_o h a_0 9 ∧ ∃ a2, ah_r h a_0 0 = some a2 ∧ ld0 h a2 v_1 ∧ (((ah_i h a2 (Int32.toNatClampNeg v_1)) = v_2 → Q none h) ∧ (¬ (ah_i h a2 (Int32.toNatClampNeg v_1)) = v_2 → st0 h a2 (ah_i h a2 (Int32.toNatClampNeg v_1)) ∧ ∀ h5, h5 = ah_si h a2 (Int32.toNatClampNeg (ah_i h a2 (Int32.toNatClampNeg v_1))) v_1 → ld0 h5 a2 v_2 ∧ st0 h5 a2 (ah_i h5 a2 (Int32.toNatClampNeg v_2)) ∧ ∀ h8, h8 = ah_si h5 a2 (Int32.toNatClampNeg (ah_i h5 a2 (Int32.toNatClampNeg v_2))) v_2 → Q none h8))) : ex_G mX9_untie d 0 [.ref a_0, .int v_1, .int v_2] [] h bc bs Q := by
  refine ex_aload_n (q := 1) (x := a_0) dX9_untie_0 rfl ?_
  have s1 := w.1
  replace w := w.2
  obtain ⟨a2, ea2, w⟩ := w
  refine ex_getr (q := 4) dX9_untie_1 fl_X9_9 s1 ea2 ?_
  refine ex_iload_n (q := 5) (x := v_1) dX9_untie_4 rfl ?_
  have s3 := w.1
  replace w := w.2
  refine ex_iald (q := 6) dX9_untie_5 s3 ?_
  refine ex_iload_n (q := 7) (x := v_2) dX9_untie_6 rfl ?_
  refine ex_icmp_eq (tgt := 34) (q := 10) dX9_untie_7 (fun c4 => ?_) (fun c4 => ?_)
  · replace w := w.1 c4
    exact ex_return dX9_untie_34 w
  · replace w := w.2 c4
    refine ex_aload_n (q := 11) (x := a_0) dX9_untie_10 rfl ?_
    refine ex_getr (q := 14) dX9_untie_11 fl_X9_9 s1 ea2 ?_
    refine ex_aload_n (q := 15) (x := a_0) dX9_untie_14 rfl ?_
    refine ex_getr (q := 18) dX9_untie_15 fl_X9_9 s1 ea2 ?_
    refine ex_iload_n (q := 19) (x := v_1) dX9_untie_18 rfl ?_
    refine ex_iald (q := 20) dX9_untie_19 s3 ?_
    refine ex_iload_n (q := 21) (x := v_1) dX9_untie_20 rfl ?_
    have s6 := w.1
    replace w := w.2
    refine ex_iast (q := 22) dX9_untie_21 s6 ?_
    refine ex_nmh (fun h5 eh5 => ?_)
    replace w := w h5 eh5
    refine ex_aload_n (q := 23) (x := a_0) dX9_untie_22 rfl ?_
    refine ex_getr (q := 26) dX9_untie_23 fl_X9_9 (by rw [eh5]; exact s1) (by rw [eh5]; exact ea2) ?_
    refine ex_aload_n (q := 27) (x := a_0) dX9_untie_26 rfl ?_
    refine ex_getr (q := 30) dX9_untie_27 fl_X9_9 (by rw [eh5]; exact s1) (by rw [eh5]; exact ea2) ?_
    refine ex_iload_n (q := 31) (x := v_2) dX9_untie_30 rfl ?_
    have s7 := w.1
    replace w := w.2
    refine ex_iald (q := 32) dX9_untie_31 s7 ?_
    refine ex_iload_n (q := 33) (x := v_2) dX9_untie_32 rfl ?_
    have s9 := w.1
    replace w := w.2
    refine ex_iast (q := 34) dX9_untie_33 s9 ?_
    refine ex_nmh (fun h8 eh8 => ?_)
    replace w := w h8 eh8
    exact ex_return dX9_untie_34 w

theorem X9_untie_e {d bc bs : Nat} {h : AH} {Q : Option Value → AH → Prop} {a_0 : Nat} {v_1 : Int32} {v_2 : Int32} (w : ex_G mX9_untie d 0 [.ref a_0, .int v_1, .int v_2] [] h bc bs Q) : ex_S yX9_untie mX9_untie d [.ref a_0, .int v_1, .int v_2] h bc bs Q :=
  ex_enter (plainFor_of_name (by decide +kernel)) ⟨rfl, rfl⟩ rfl rfl (Nat.le_of_ble_eq_true rfl) (ex_pad 0 w)
