/-! The law's loop (its cases written by wip/genlaw.py). -/
section LAWL
variable {d t len : Nat} {h : AH} {S : Nat → Int32}
theorem law_end (hl : len ≤ 4096) (ht : t ≤ 4096) : (Int32.ofNat len) - 8 < nI (8 * t) ↔ ¬ 8 * t + 8 ≤ len := by
  by_cases q : 8 ≤ len
  · have e : (Int32.ofNat len) - 8 = nI (len - 8) := pk_sub (a := len) (b := 8) q
    rw [e, nI_ltI (by omega) (by omega)]
    omega
  · have e0 : ∀ n, n < 8 → ((Int32.ofNat n) - 8).toInt < 0 := by decide
    have e1 := e0 len (by omega)
    refine ⟨fun _ => by omega, fun _ => ?_⟩
    rw [Int32.lt_iff_toInt_lt, nI_toInt (by omega)]
    omega
set_option maxRecDepth 100000 in
theorem L18 {bc bs : Nat} {Q : Option Value → AH → Prop} (hk : ah_k h 10000000 = (0, len)) (hS : ah_i h 10000000 = S) (hl : len ≤ 4096) (ht : t ≤ 4096) (kend : ¬ 8 * t + 8 ≤ len → Q (some (.int 1)) h)
    (k0 : 8 * t + 8 ≤ len → ex_G mL_law (d + 21) 252 [.ref 10000000, .ref 0, .ref 168, .int (nI (8 * t))] [] h bc bs Q)
    (k1 : 8 * t + 8 ≤ len → ex_G mL_law (d + 21) 265 [.ref 10000000, .ref 0, .ref 168, .int (nI (8 * t))] [] h bc bs Q)
    (k2 : 8 * t + 8 ≤ len → ex_G mL_law (d + 21) 328 [.ref 10000000, .ref 0, .ref 168, .int (nI (8 * t))] [] h bc bs Q)
    (k3 : 8 * t + 8 ≤ len → ex_G mL_law (d + 21) 371 [.ref 10000000, .ref 0, .ref 168, .int (nI (8 * t))] [] h bc bs Q)
    (k4 : 8 * t + 8 ≤ len → ex_G mL_law (d + 21) 414 [.ref 10000000, .ref 0, .ref 168, .int (nI (8 * t))] [] h bc bs Q)
    (k5 : 8 * t + 8 ≤ len → ex_G mL_law (d + 21) 467 [.ref 10000000, .ref 0, .ref 168, .int (nI (8 * t))] [] h bc bs Q)
    (k6 : 8 * t + 8 ≤ len → ex_G mL_law (d + 21) 554 [.ref 10000000, .ref 0, .ref 168, .int (nI (8 * t))] [] h bc bs Q)
    (k7 : 8 * t + 8 ≤ len → ex_G mL_law (d + 21) 587 [.ref 10000000, .ref 0, .ref 168, .int (nI (8 * t))] [] h bc bs Q)
    (k8 : 8 * t + 8 ≤ len → ex_G mL_law (d + 21) 610 [.ref 10000000, .ref 0, .ref 168, .int (nI (8 * t))] [] h bc bs Q)
    (k9 : 8 * t + 8 ≤ len → ex_G mL_law (d + 21) 623 [.ref 10000000, .ref 0, .ref 168, .int (nI (8 * t))] [] h bc bs Q)
    (k10 : 8 * t + 8 ≤ len → ex_G mL_law (d + 21) 656 [.ref 10000000, .ref 0, .ref 168, .int (nI (8 * t))] [] h bc bs Q)
    (k11 : 8 * t + 8 ≤ len → ex_G mL_law (d + 21) 679 [.ref 10000000, .ref 0, .ref 168, .int (nI (8 * t))] [] h bc bs Q)
    (k12 : 8 * t + 8 ≤ len → ex_G mL_law (d + 21) 702 [.ref 10000000, .ref 0, .ref 168, .int (nI (8 * t))] [] h bc bs Q)
    (k13 : 8 * t + 8 ≤ len → ex_G mL_law (d + 21) 755 [.ref 10000000, .ref 0, .ref 168, .int (nI (8 * t))] [] h bc bs Q)
    (k14 : 8 * t + 8 ≤ len → ex_G mL_law (d + 21) 778 [.ref 10000000, .ref 0, .ref 168, .int (nI (8 * t))] [] h bc bs Q)
    (k15 : 8 * t + 8 ≤ len → ex_G mL_law (d + 21) 801 [.ref 10000000, .ref 0, .ref 168, .int (nI (8 * t))] [] h bc bs Q)
    (k16 : 8 * t + 8 ≤ len → ex_G mL_law (d + 21) 834 [.ref 10000000, .ref 0, .ref 168, .int (nI (8 * t))] [] h bc bs Q)
    (k17 : 8 * t + 8 ≤ len → ex_G mL_law (d + 21) 867 [.ref 10000000, .ref 0, .ref 168, .int (nI (8 * t))] [] h bc bs Q)
    (k18 : 8 * t + 8 ≤ len → ex_G mL_law (d + 21) 910 [.ref 10000000, .ref 0, .ref 168, .int (nI (8 * t))] [] h bc bs Q)
    (k19 : 8 * t + 8 ≤ len → ex_G mL_law (d + 21) 943 [.ref 10000000, .ref 0, .ref 168, .int (nI (8 * t))] [] h bc bs Q)
    (k20 : 8 * t + 8 ≤ len → ex_G mL_law (d + 21) 966 [.ref 10000000, .ref 0, .ref 168, .int (nI (8 * t))] [] h bc bs Q)
    (k21 : 8 * t + 8 ≤ len → ex_G mL_law (d + 21) 989 [.ref 10000000, .ref 0, .ref 168, .int (nI (8 * t))] [] h bc bs Q)
    (k22 : 8 * t + 8 ≤ len → ex_G mL_law (d + 21) 1013 [.ref 10000000, .ref 0, .ref 168, .int (nI (8 * t))] [] h bc bs Q)
    (k23 : 8 * t + 8 ≤ len → ex_G mL_law (d + 21) 1036 [.ref 10000000, .ref 0, .ref 168, .int (nI (8 * t))] [] h bc bs Q)
    (k24 : 8 * t + 8 ≤ len → ex_G mL_law (d + 21) 1060 [.ref 10000000, .ref 0, .ref 168, .int (nI (8 * t))] [] h bc bs Q)
    (k25 : 8 * t + 8 ≤ len → ex_G mL_law (d + 21) 1083 [.ref 10000000, .ref 0, .ref 168, .int (nI (8 * t))] [] h bc bs Q)
    (k26 : 8 * t + 8 ≤ len → ex_G mL_law (d + 21) 1106 [.ref 10000000, .ref 0, .ref 168, .int (nI (8 * t))] [] h bc bs Q)
    (k27 : 8 * t + 8 ≤ len → ex_G mL_law (d + 21) 1119 [.ref 10000000, .ref 0, .ref 168, .int (nI (8 * t))] [] h bc bs Q)
    (k28 : 8 * t + 8 ≤ len → ex_G mL_law (d + 21) 1142 [.ref 10000000, .ref 0, .ref 168, .int (nI (8 * t))] [] h bc bs Q)
    (k29 : 8 * t + 8 ≤ len → ex_G mL_law (d + 21) 1155 [.ref 10000000, .ref 0, .ref 168, .int (nI (8 * t))] [] h bc bs Q)
    (k30 : 8 * t + 8 ≤ len → ex_G mL_law (d + 21) 1208 [.ref 10000000, .ref 0, .ref 168, .int (nI (8 * t))] [] h bc bs Q)
    (k31 : 8 * t + 8 ≤ len → ex_G mL_law (d + 21) 1241 [.ref 10000000, .ref 0, .ref 168, .int (nI (8 * t))] [] h bc bs Q)
    (k32 : 8 * t + 8 ≤ len → ex_G mL_law (d + 21) 1274 [.ref 10000000, .ref 0, .ref 168, .int (nI (8 * t))] [] h bc bs Q)
    (k33 : 8 * t + 8 ≤ len → ex_G mL_law (d + 21) 1307 [.ref 10000000, .ref 0, .ref 168, .int (nI (8 * t))] [] h bc bs Q)
    (k34 : 8 * t + 8 ≤ len → ex_G mL_law (d + 21) 1340 [.ref 10000000, .ref 0, .ref 168, .int (nI (8 * t))] [] h bc bs Q)
    (k35 : 8 * t + 8 ≤ len → ex_G mL_law (d + 21) 1373 [.ref 10000000, .ref 0, .ref 168, .int (nI (8 * t))] [] h bc bs Q)
    (k36 : 8 * t + 8 ≤ len → ex_G mL_law (d + 21) 1396 [.ref 10000000, .ref 0, .ref 168, .int (nI (8 * t))] [] h bc bs Q)
    (k37 : 8 * t + 8 ≤ len → ex_G mL_law (d + 21) 1429 [.ref 10000000, .ref 0, .ref 168, .int (nI (8 * t))] [] h bc bs Q)
    (k38 : 8 * t + 8 ≤ len → ex_G mL_law (d + 21) 1462 [.ref 10000000, .ref 0, .ref 168, .int (nI (8 * t))] [] h bc bs Q)
    (k39 : 8 * t + 8 ≤ len → ex_G mL_law (d + 21) 1485 [.ref 10000000, .ref 0, .ref 168, .int (nI (8 * t))] [] h bc bs Q)
    (k40 : 8 * t + 8 ≤ len → ex_G mL_law (d + 21) 1508 [.ref 10000000, .ref 0, .ref 168, .int (nI (8 * t))] [] h bc bs Q)
    (k41 : 8 * t + 8 ≤ len → ex_G mL_law (d + 21) 1521 [.ref 10000000, .ref 0, .ref 168, .int (nI (8 * t))] [] h bc bs Q)
    (k42 : 8 * t + 8 ≤ len → ex_G mL_law (d + 21) 1564 [.ref 10000000, .ref 0, .ref 168, .int (nI (8 * t))] [] h bc bs Q)
    (k43 : 8 * t + 8 ≤ len → ex_G mL_law (d + 21) 1577 [.ref 10000000, .ref 0, .ref 168, .int (nI (8 * t))] [] h bc bs Q)
    (k44 : 8 * t + 8 ≤ len → ex_G mL_law (d + 21) 1600 [.ref 10000000, .ref 0, .ref 168, .int (nI (8 * t))] [] h bc bs Q)
    (k45 : 8 * t + 8 ≤ len → ex_G mL_law (d + 21) 1623 [.ref 10000000, .ref 0, .ref 168, .int (nI (8 * t))] [] h bc bs Q)
    (k46 : 8 * t + 8 ≤ len → ex_G mL_law (d + 21) 1686 [.ref 10000000, .ref 0, .ref 168, .int (nI (8 * t))] [] h bc bs Q)
    (k47 : 8 * t + 8 ≤ len → ex_G mL_law (d + 21) 1710 [.ref 10000000, .ref 0, .ref 168, .int (nI (8 * t))] [] h bc bs Q)
    (k48 : 8 * t + 8 ≤ len → ex_G mL_law (d + 21) 1733 [.ref 10000000, .ref 0, .ref 168, .int (nI (8 * t))] [] h bc bs Q)
    (k49 : 8 * t + 8 ≤ len → ex_G mL_law (d + 21) 1756 [.ref 10000000, .ref 0, .ref 168, .int (nI (8 * t))] [] h bc bs Q)
    (k50 : 8 * t + 8 ≤ len → ex_G mL_law (d + 21) 1769 [.ref 10000000, .ref 0, .ref 168, .int (nI (8 * t))] [] h bc bs Q)
    (kd : 8 * t + 8 ≤ len → ex_G mL_law (d + 21) 1783 [.ref 10000000, .ref 0, .ref 168, .int (nI (8 * t))] [] h bc bs Q) : ex_G mL_law (d + 21) 18 [.ref 10000000, .ref 0, .ref 168, .int (nI (8 * t))] [] h bc bs Q := by
  have ra : ah_ra h 10000000 len := Or.inr ⟨0, by decide, rfl, by rw [hk]⟩
  have le_ := law_end hl ht
  refine ex_iload_n (q := 19) (x := nI (8 * t)) dL_law_18 rfl ?_
  refine ex_aload_n (q := 20) (x := 10000000) dL_law_19 rfl ?_
  refine ex_alen (q := 21) dL_law_20 (Or.inl ra) ?_
  refine ex_bipush (q := 23) (v := 8) dL_law_21 (by decide) ?_
  refine ex_isub (q := 24) dL_law_23 ?_
  refine ex_icmp_gt (tgt := 1789) (q := 27) dL_law_24 (fun c3 => ?_) (fun c3 => ?_)
  · refine ex_iconst (q := 1790) (v := 1) dL_law_1789 (by decide) ?_
    exact ex_ireturn dL_law_1790 rfl (Or.inr ⟨rfl, Or.inr rfl⟩) (kend (le_.mp c3))
  · have c8 : 8 * t + 8 ≤ len := Classical.not_not.mp (fun w => c3 (le_.mpr w))
    refine ex_aload_n (q := 28) (x := 10000000) dL_law_27 rfl ?_
    refine ex_iload_n (q := 29) (x := nI (8 * t)) dL_law_28 rfl ?_
    refine ex_ialdV (q := 30) (x := S (8 * t)) dL_law_29 ⟨len, ra, (ix_nI (by omega)).mpr (by omega)⟩ (by rw [nI_clamp (by omega), hS]) ?_
    refine ex_bipush (q := 32) (v := 63) dL_law_30 (by decide) ?_
    refine ex_iand (q := 33) dL_law_32 ?_
    generalize S (8 * t) &&& 63 = x
    by_cases c5_0 : x = 0
    · exact ex_tsw (tgt := 252) dL_law_33 (by rw [c5_0]; decide) (k0 c8)
    by_cases c5_1 : x = 1
    · exact ex_tsw (tgt := 265) dL_law_33 (by rw [c5_1]; decide) (k1 c8)
    by_cases c5_2 : x = 2
    · exact ex_tsw (tgt := 328) dL_law_33 (by rw [c5_2]; decide) (k2 c8)
    by_cases c5_3 : x = 3
    · exact ex_tsw (tgt := 371) dL_law_33 (by rw [c5_3]; decide) (k3 c8)
    by_cases c5_4 : x = 4
    · exact ex_tsw (tgt := 414) dL_law_33 (by rw [c5_4]; decide) (k4 c8)
    by_cases c5_5 : x = 5
    · exact ex_tsw (tgt := 467) dL_law_33 (by rw [c5_5]; decide) (k5 c8)
    by_cases c5_6 : x = 6
    · exact ex_tsw (tgt := 554) dL_law_33 (by rw [c5_6]; decide) (k6 c8)
    by_cases c5_7 : x = 7
    · exact ex_tsw (tgt := 587) dL_law_33 (by rw [c5_7]; decide) (k7 c8)
    by_cases c5_8 : x = 8
    · exact ex_tsw (tgt := 610) dL_law_33 (by rw [c5_8]; decide) (k8 c8)
    by_cases c5_9 : x = 9
    · exact ex_tsw (tgt := 623) dL_law_33 (by rw [c5_9]; decide) (k9 c8)
    by_cases c5_10 : x = 10
    · exact ex_tsw (tgt := 656) dL_law_33 (by rw [c5_10]; decide) (k10 c8)
    by_cases c5_11 : x = 11
    · exact ex_tsw (tgt := 679) dL_law_33 (by rw [c5_11]; decide) (k11 c8)
    by_cases c5_12 : x = 12
    · exact ex_tsw (tgt := 702) dL_law_33 (by rw [c5_12]; decide) (k12 c8)
    by_cases c5_13 : x = 13
    · exact ex_tsw (tgt := 755) dL_law_33 (by rw [c5_13]; decide) (k13 c8)
    by_cases c5_14 : x = 14
    · exact ex_tsw (tgt := 778) dL_law_33 (by rw [c5_14]; decide) (k14 c8)
    by_cases c5_15 : x = 15
    · exact ex_tsw (tgt := 801) dL_law_33 (by rw [c5_15]; decide) (k15 c8)
    by_cases c5_16 : x = 16
    · exact ex_tsw (tgt := 834) dL_law_33 (by rw [c5_16]; decide) (k16 c8)
    by_cases c5_17 : x = 17
    · exact ex_tsw (tgt := 867) dL_law_33 (by rw [c5_17]; decide) (k17 c8)
    by_cases c5_18 : x = 18
    · exact ex_tsw (tgt := 910) dL_law_33 (by rw [c5_18]; decide) (k18 c8)
    by_cases c5_19 : x = 19
    · exact ex_tsw (tgt := 943) dL_law_33 (by rw [c5_19]; decide) (k19 c8)
    by_cases c5_20 : x = 20
    · exact ex_tsw (tgt := 966) dL_law_33 (by rw [c5_20]; decide) (k20 c8)
    by_cases c5_21 : x = 21
    · exact ex_tsw (tgt := 989) dL_law_33 (by rw [c5_21]; decide) (k21 c8)
    by_cases c5_22 : x = 22
    · exact ex_tsw (tgt := 1013) dL_law_33 (by rw [c5_22]; decide) (k22 c8)
    by_cases c5_23 : x = 23
    · exact ex_tsw (tgt := 1036) dL_law_33 (by rw [c5_23]; decide) (k23 c8)
    by_cases c5_24 : x = 24
    · exact ex_tsw (tgt := 1060) dL_law_33 (by rw [c5_24]; decide) (k24 c8)
    by_cases c5_25 : x = 25
    · exact ex_tsw (tgt := 1083) dL_law_33 (by rw [c5_25]; decide) (k25 c8)
    by_cases c5_26 : x = 26
    · exact ex_tsw (tgt := 1106) dL_law_33 (by rw [c5_26]; decide) (k26 c8)
    by_cases c5_27 : x = 27
    · exact ex_tsw (tgt := 1119) dL_law_33 (by rw [c5_27]; decide) (k27 c8)
    by_cases c5_28 : x = 28
    · exact ex_tsw (tgt := 1142) dL_law_33 (by rw [c5_28]; decide) (k28 c8)
    by_cases c5_29 : x = 29
    · exact ex_tsw (tgt := 1155) dL_law_33 (by rw [c5_29]; decide) (k29 c8)
    by_cases c5_30 : x = 30
    · exact ex_tsw (tgt := 1208) dL_law_33 (by rw [c5_30]; decide) (k30 c8)
    by_cases c5_31 : x = 31
    · exact ex_tsw (tgt := 1241) dL_law_33 (by rw [c5_31]; decide) (k31 c8)
    by_cases c5_32 : x = 32
    · exact ex_tsw (tgt := 1274) dL_law_33 (by rw [c5_32]; decide) (k32 c8)
    by_cases c5_33 : x = 33
    · exact ex_tsw (tgt := 1307) dL_law_33 (by rw [c5_33]; decide) (k33 c8)
    by_cases c5_34 : x = 34
    · exact ex_tsw (tgt := 1340) dL_law_33 (by rw [c5_34]; decide) (k34 c8)
    by_cases c5_35 : x = 35
    · exact ex_tsw (tgt := 1373) dL_law_33 (by rw [c5_35]; decide) (k35 c8)
    by_cases c5_36 : x = 36
    · exact ex_tsw (tgt := 1396) dL_law_33 (by rw [c5_36]; decide) (k36 c8)
    by_cases c5_37 : x = 37
    · exact ex_tsw (tgt := 1429) dL_law_33 (by rw [c5_37]; decide) (k37 c8)
    by_cases c5_38 : x = 38
    · exact ex_tsw (tgt := 1462) dL_law_33 (by rw [c5_38]; decide) (k38 c8)
    by_cases c5_39 : x = 39
    · exact ex_tsw (tgt := 1485) dL_law_33 (by rw [c5_39]; decide) (k39 c8)
    by_cases c5_40 : x = 40
    · exact ex_tsw (tgt := 1508) dL_law_33 (by rw [c5_40]; decide) (k40 c8)
    by_cases c5_41 : x = 41
    · exact ex_tsw (tgt := 1521) dL_law_33 (by rw [c5_41]; decide) (k41 c8)
    by_cases c5_42 : x = 42
    · exact ex_tsw (tgt := 1564) dL_law_33 (by rw [c5_42]; decide) (k42 c8)
    by_cases c5_43 : x = 43
    · exact ex_tsw (tgt := 1577) dL_law_33 (by rw [c5_43]; decide) (k43 c8)
    by_cases c5_44 : x = 44
    · exact ex_tsw (tgt := 1600) dL_law_33 (by rw [c5_44]; decide) (k44 c8)
    by_cases c5_45 : x = 45
    · exact ex_tsw (tgt := 1623) dL_law_33 (by rw [c5_45]; decide) (k45 c8)
    by_cases c5_46 : x = 46
    · exact ex_tsw (tgt := 1686) dL_law_33 (by rw [c5_46]; decide) (k46 c8)
    by_cases c5_47 : x = 47
    · exact ex_tsw (tgt := 1710) dL_law_33 (by rw [c5_47]; decide) (k47 c8)
    by_cases c5_48 : x = 48
    · exact ex_tsw (tgt := 1733) dL_law_33 (by rw [c5_48]; decide) (k48 c8)
    by_cases c5_49 : x = 49
    · exact ex_tsw (tgt := 1756) dL_law_33 (by rw [c5_49]; decide) (k49 c8)
    by_cases c5_50 : x = 50
    · exact ex_tsw (tgt := 1769) dL_law_33 (by rw [c5_50]; decide) (k50 c8)
    have hsw : x.toInt < 0 ∨ 50 < x.toInt := by
      have := i32_ne c5_0 (a := 0) (by decide)
      have := i32_ne c5_1 (a := 1) (by decide)
      have := i32_ne c5_2 (a := 2) (by decide)
      have := i32_ne c5_3 (a := 3) (by decide)
      have := i32_ne c5_4 (a := 4) (by decide)
      have := i32_ne c5_5 (a := 5) (by decide)
      have := i32_ne c5_6 (a := 6) (by decide)
      have := i32_ne c5_7 (a := 7) (by decide)
      have := i32_ne c5_8 (a := 8) (by decide)
      have := i32_ne c5_9 (a := 9) (by decide)
      have := i32_ne c5_10 (a := 10) (by decide)
      have := i32_ne c5_11 (a := 11) (by decide)
      have := i32_ne c5_12 (a := 12) (by decide)
      have := i32_ne c5_13 (a := 13) (by decide)
      have := i32_ne c5_14 (a := 14) (by decide)
      have := i32_ne c5_15 (a := 15) (by decide)
      have := i32_ne c5_16 (a := 16) (by decide)
      have := i32_ne c5_17 (a := 17) (by decide)
      have := i32_ne c5_18 (a := 18) (by decide)
      have := i32_ne c5_19 (a := 19) (by decide)
      have := i32_ne c5_20 (a := 20) (by decide)
      have := i32_ne c5_21 (a := 21) (by decide)
      have := i32_ne c5_22 (a := 22) (by decide)
      have := i32_ne c5_23 (a := 23) (by decide)
      have := i32_ne c5_24 (a := 24) (by decide)
      have := i32_ne c5_25 (a := 25) (by decide)
      have := i32_ne c5_26 (a := 26) (by decide)
      have := i32_ne c5_27 (a := 27) (by decide)
      have := i32_ne c5_28 (a := 28) (by decide)
      have := i32_ne c5_29 (a := 29) (by decide)
      have := i32_ne c5_30 (a := 30) (by decide)
      have := i32_ne c5_31 (a := 31) (by decide)
      have := i32_ne c5_32 (a := 32) (by decide)
      have := i32_ne c5_33 (a := 33) (by decide)
      have := i32_ne c5_34 (a := 34) (by decide)
      have := i32_ne c5_35 (a := 35) (by decide)
      have := i32_ne c5_36 (a := 36) (by decide)
      have := i32_ne c5_37 (a := 37) (by decide)
      have := i32_ne c5_38 (a := 38) (by decide)
      have := i32_ne c5_39 (a := 39) (by decide)
      have := i32_ne c5_40 (a := 40) (by decide)
      have := i32_ne c5_41 (a := 41) (by decide)
      have := i32_ne c5_42 (a := 42) (by decide)
      have := i32_ne c5_43 (a := 43) (by decide)
      have := i32_ne c5_44 (a := 44) (by decide)
      have := i32_ne c5_45 (a := 45) (by decide)
      have := i32_ne c5_46 (a := 46) (by decide)
      have := i32_ne c5_47 (a := 47) (by decide)
      have := i32_ne c5_48 (a := 48) (by decide)
      have := i32_ne c5_49 (a := 49) (by decide)
      have := i32_ne c5_50 (a := 50) (by decide)
      omega
    have hsq : sw_t 1750 0 50 [219, 232, 295, 338, 381, 434, 521, 554, 577, 590, 623, 646, 669, 722, 745, 768, 801, 834, 877, 910, 933, 956, 980, 1003, 1027, 1050, 1073, 1086, 1109, 1122, 1175, 1208, 1241, 1274, 1307, 1340, 1363, 1396, 1429, 1452, 1475, 1488, 1531, 1544, 1567, 1590, 1653, 1677, 1700, 1723, 1736] x.toInt = 1750 := by
      rcases hsw with z | z
      · unfold sw_t; rw [if_pos (Or.inl z)]
      · unfold sw_t; rw [if_pos (Or.inr z)]
    refine ex_tsw (tgt := 1783) dL_law_33 (show ((33 : Nat) : Int) + sw_t 1750 0 50 [219, 232, 295, 338, 381, 434, 521, 554, 577, 590, 623, 646, 669, 722, 745, 768, 801, 834, 877, 910, 933, 956, 980, 1003, 1027, 1050, 1073, 1086, 1109, 1122, 1175, 1208, 1241, 1274, 1307, 1340, 1363, 1396, 1429, 1452, 1475, 1488, 1531, 1544, 1567, 1590, 1653, 1677, 1700, 1723, 1736] x.toInt = ((1783 : Nat) : Int) by rw [hsq]; decide) ?_
    exact kd c8
set_option maxRecDepth 100000 in
theorem law_loop (hl : len ≤ 4096) : ∀ (n t : Nat) (h : AH) (W : Nat → Nat) (N : Nat) (B : Nat → Nat), len / 8 ≤ t + n → t ≤ 512 → R0 h W N B S len → SC h W → ah_n h + 303 * n + 1000 ≤ 10000000 → ex_G mL_law (d + 21) 18 [.ref 10000000, .ref 0, .ref 168, .int (nI (8 * t))] [] h (303 * n) (10403 * n) (fun r _ => r = some (.int 1)) := by
  intro n
  induction n with
  | zero =>
    intro t h W N B hn ht x y hb
    obtain ⟨⟨hk, hS⟩, -⟩ := x.2.2.2.1
    have no : ¬ 8 * t + 8 ≤ len := by omega
    exact L18 (len := len) (S := S) hk hS hl (by omega) (fun _ => rfl) (fun z => absurd z no) (fun z => absurd z no) (fun z => absurd z no) (fun z => absurd z no) (fun z => absurd z no) (fun z => absurd z no) (fun z => absurd z no) (fun z => absurd z no) (fun z => absurd z no) (fun z => absurd z no) (fun z => absurd z no) (fun z => absurd z no) (fun z => absurd z no) (fun z => absurd z no) (fun z => absurd z no) (fun z => absurd z no) (fun z => absurd z no) (fun z => absurd z no) (fun z => absurd z no) (fun z => absurd z no) (fun z => absurd z no) (fun z => absurd z no) (fun z => absurd z no) (fun z => absurd z no) (fun z => absurd z no) (fun z => absurd z no) (fun z => absurd z no) (fun z => absurd z no) (fun z => absurd z no) (fun z => absurd z no) (fun z => absurd z no) (fun z => absurd z no) (fun z => absurd z no) (fun z => absurd z no) (fun z => absurd z no) (fun z => absurd z no) (fun z => absurd z no) (fun z => absurd z no) (fun z => absurd z no) (fun z => absurd z no) (fun z => absurd z no) (fun z => absurd z no) (fun z => absurd z no) (fun z => absurd z no) (fun z => absurd z no) (fun z => absurd z no) (fun z => absurd z no) (fun z => absurd z no) (fun z => absurd z no) (fun z => absurd z no) (fun z => absurd z no) (fun z => absurd z no)
  | succ n ih =>
    intro t h W N B hn ht x y hb
    obtain ⟨⟨hk, hS⟩, -⟩ := x.2.2.2.1
    have K := x.2.1
    have loop : ∀ h2, 8 * t + 8 ≤ len → DONE3 h h2 S len → ex_G mL_law (d + 21) 18 [.ref 10000000, .ref 0, .ref 168, .int (nI (8 * (t + 1)))] [] h2 (303 * n) (10403 * n) (fun r _ => r = some (.int 1)) := fun h2 c8 dn => by
      obtain ⟨W', N', B', x', y', n1, n2⟩ := dn
      exact ih (t + 1) h2 W' N' B' (by omega) (by omega) x' y' (by omega)
    have sc : 8 * t + 8 ≤ len → SCR h S len t := fun c8 => ⟨hk, hS, c8, hl⟩
    have f0 : 8 * t + 8 ≤ len → ex_G mL_law (d + 21) 252 [.ref 10000000, .ref 0, .ref 168, .int (nI (8 * t))] [] h (303 * (n + 1)) (10403 * (n + 1)) (fun r _ => r = some (.int 1)) := fun c8 => ex_G.room (bc' := 303 * n + 3) (bs' := 10403 * n + 207) (Nat.le_refl _) (by omega) (by omega) (LW_picture (P := fun h2 => DONE3 h h2 S len) (o0 K) (o168 K) (sc c8) (ST_3 y (st_picture (d := d) (bc := 0) (bs := 0) x (by omega))) (fun h2 dn => loop h2 c8 dn))
    have f1 : 8 * t + 8 ≤ len → ex_G mL_law (d + 21) 265 [.ref 10000000, .ref 0, .ref 168, .int (nI (8 * t))] [] h (303 * (n + 1)) (10403 * (n + 1)) (fun r _ => r = some (.int 1)) := fun c8 => ex_G.room (bc' := 303 * n + 0) (bs' := 10403 * n + 0) (Nat.le_refl _) (by omega) (by omega) (LW_crossing (P := fun h2 => DONE3 h h2 S len) (o0 K) (o168 K) (sc c8) (ST_3 y (st_crossing (d := d) (bc := 0) (bs := 0) x (S (8 * t + 1)) (S (8 * t + 2)) (S (8 * t + 3)) (S (8 * t + 4)) (S (8 * t + 5)))) (fun h2 dn => loop h2 c8 dn))
    have f2 : 8 * t + 8 ≤ len → ex_G mL_law (d + 21) 328 [.ref 10000000, .ref 0, .ref 168, .int (nI (8 * t))] [] h (303 * (n + 1)) (10403 * (n + 1)) (fun r _ => r = some (.int 1)) := fun c8 => ex_G.room (bc' := 303 * n + 0) (bs' := 10403 * n + 0) (Nat.le_refl _) (by omega) (by omega) (LW_row (P := fun h2 => DONE3 h h2 S len) (o0 K) (o168 K) (sc c8) (ST_3 y (st_row (d := d) (bc := 0) (bs := 0) x (S (8 * t + 1)) (S (8 * t + 2)) (S (8 * t + 3)))) (fun h2 dn => loop h2 c8 dn))
    have f3 : 8 * t + 8 ≤ len → ex_G mL_law (d + 21) 371 [.ref 10000000, .ref 0, .ref 168, .int (nI (8 * t))] [] h (303 * (n + 1)) (10403 * (n + 1)) (fun r _ => r = some (.int 1)) := fun c8 => ex_G.room (bc' := 303 * n + 0) (bs' := 10403 * n + 0) (Nat.le_refl _) (by omega) (by omega) (LW_end (P := fun h2 => DONE3 h h2 S len) (o0 K) (o168 K) (sc c8) (ST_3 y (st_end (d := d) (bc := 0) (bs := 0) x (S (8 * t + 1)) (S (8 * t + 2)) (S (8 * t + 3)))) (fun h2 dn => loop h2 c8 dn))
    have f4 : 8 * t + 8 ≤ len → ex_G mL_law (d + 21) 414 [.ref 10000000, .ref 0, .ref 168, .int (nI (8 * t))] [] h (303 * (n + 1)) (10403 * (n + 1)) (fun r _ => r = some (.int 1)) := fun c8 => ex_G.room (bc' := 303 * n + 0) (bs' := 10403 * n + 0) (Nat.le_refl _) (by omega) (by omega) (LW_put (P := fun h2 => DONE3 h h2 S len) (o0 K) (o168 K) (sc c8) (ST_3 y (st_put (d := d) (bc := 0) (bs := 0) x (S (8 * t + 1)) (S (8 * t + 2)) (S (8 * t + 3)) (S (8 * t + 4)))) (fun h2 dn => loop h2 c8 dn))
    have f5 : 8 * t + 8 ≤ len → ex_G mL_law (d + 21) 467 [.ref 10000000, .ref 0, .ref 168, .int (nI (8 * t))] [] h (303 * (n + 1)) (10403 * (n + 1)) (fun r _ => r = some (.int 1)) := fun c8 => ex_G.room (bc' := 303 * n + 0) (bs' := 10403 * n + 0) (Nat.le_refl _) (by omega) (by omega) (LW_copy (P := fun h2 => DONE3 h h2 S len) (o0 K) (o168 K) (sc c8) (ST_3 y (st_copy (d := d) (bc := 0) (bs := 0) x (S (8 * t + 1)) (S (8 * t + 2)) (S (8 * t + 3)) (S (8 * t + 4)) (S (8 * t + 5)) (S (8 * t + 6)) (S (8 * t + 7)))) (fun h2 dn => loop h2 c8 dn))
    have f6 : 8 * t + 8 ≤ len → ex_G mL_law (d + 21) 554 [.ref 10000000, .ref 0, .ref 168, .int (nI (8 * t))] [] h (303 * (n + 1)) (10403 * (n + 1)) (fun r _ => r = some (.int 1)) := fun c8 => ex_G.room (bc' := 303 * n + 0) (bs' := 10403 * n + 0) (Nat.le_refl _) (by omega) (by omega) (LW_loose (P := fun h2 => DONE3 h h2 S len) (o0 K) (o168 K) (sc c8) (ST_3 y (st_loose (d := d) (bc := 0) (bs := 0) x (S (8 * t + 1)) (S (8 * t + 2)))) (fun h2 dn => loop h2 c8 dn))
    have f7 : 8 * t + 8 ≤ len → ex_G mL_law (d + 21) 587 [.ref 10000000, .ref 0, .ref 168, .int (nI (8 * t))] [] h (303 * (n + 1)) (10403 * (n + 1)) (fun r _ => r = some (.int 1)) := fun c8 => ex_G.room (bc' := 303 * n + 0) (bs' := 10403 * n + 0) (Nat.le_refl _) (by omega) (by omega) (LW_open (P := fun h2 => DONE3 h h2 S len) (o0 K) (o168 K) (sc c8) (ST_3 y (st_open (d := d) (bc := 0) (bs := 0) x (S (8 * t + 1)))) (fun h2 dn => loop h2 c8 dn))
    have f8 : 8 * t + 8 ≤ len → ex_G mL_law (d + 21) 610 [.ref 10000000, .ref 0, .ref 168, .int (nI (8 * t))] [] h (303 * (n + 1)) (10403 * (n + 1)) (fun r _ => r = some (.int 1)) := fun c8 => ex_G.room (bc' := 303 * n + 0) (bs' := 10403 * n + 0) (Nat.le_refl _) (by omega) (by omega) (LW_where (P := fun h2 => DONE3 h h2 S len) (o0 K) (o168 K) (sc c8) (ST_3 y (st_where (d := d) (bc := 0) (bs := 0) x)) (fun h2 dn => loop h2 c8 dn))
    have f9 : 8 * t + 8 ≤ len → ex_G mL_law (d + 21) 623 [.ref 10000000, .ref 0, .ref 168, .int (nI (8 * t))] [] h (303 * (n + 1)) (10403 * (n + 1)) (fun r _ => r = some (.int 1)) := fun c8 => ex_G.room (bc' := 303 * n + 0) (bs' := 10403 * n + 0) (Nat.le_refl _) (by omega) (by omega) (LW_told (P := fun h2 => DONE3 h h2 S len) (o0 K) (o168 K) (sc c8) (ST_3 y (st_told (d := d) (bc := 0) (bs := 0) x (S (8 * t + 1)) (S (8 * t + 2)))) (fun h2 dn => loop h2 c8 dn))
    have f10 : 8 * t + 8 ≤ len → ex_G mL_law (d + 21) 656 [.ref 10000000, .ref 0, .ref 168, .int (nI (8 * t))] [] h (303 * (n + 1)) (10403 * (n + 1)) (fun r _ => r = some (.int 1)) := fun c8 => ex_G.room (bc' := 303 * n + 1) (bs' := 10403 * n + 1620) (Nat.le_refl _) (by omega) (by omega) (LW_mirror (P := fun h2 => DONE3 h h2 S len) (o0 K) (o168 K) (sc c8) (ST_3 y (st_mirror (d := d) (bc := 0) (bs := 0) x (by omega) (S (8 * t + 1)))) (fun h2 dn => loop h2 c8 dn))
    have f11 : 8 * t + 8 ≤ len → ex_G mL_law (d + 21) 679 [.ref 10000000, .ref 0, .ref 168, .int (nI (8 * t))] [] h (303 * (n + 1)) (10403 * (n + 1)) (fun r _ => r = some (.int 1)) := fun c8 => ex_G.room (bc' := 303 * n + 1) (bs' := 10403 * n + 1620) (Nat.le_refl _) (by omega) (by omega) (LW_turn (P := fun h2 => DONE3 h h2 S len) (o0 K) (o168 K) (sc c8) (ST_3 y (st_turn (d := d) (bc := 0) (bs := 0) x (by omega) (S (8 * t + 1)))) (fun h2 dn => loop h2 c8 dn))
    have f12 : 8 * t + 8 ≤ len → ex_G mL_law (d + 21) 702 [.ref 10000000, .ref 0, .ref 168, .int (nI (8 * t))] [] h (303 * (n + 1)) (10403 * (n + 1)) (fun r _ => r = some (.int 1)) := fun c8 => ex_G.room (bc' := 303 * n + 3) (bs' := 10403 * n + 207) (Nat.le_refl _) (by omega) (by omega) (LW_join (P := fun h2 => DONE3 h h2 S len) (o0 K) (o168 K) (sc c8) (ST_3 y (st_join (d := d) (bc := 0) (bs := 0) x (by omega) (S (8 * t + 1)) (S (8 * t + 2)) (S (8 * t + 3)) (S (8 * t + 4)))) (fun h2 dn => loop h2 c8 dn))
    have f13 : 8 * t + 8 ≤ len → ex_G mL_law (d + 21) 755 [.ref 10000000, .ref 0, .ref 168, .int (nI (8 * t))] [] h (303 * (n + 1)) (10403 * (n + 1)) (fun r _ => r = some (.int 1)) := fun c8 => ex_G.room (bc' := 303 * n + 3) (bs' := 10403 * n + 207) (Nat.le_refl _) (by omega) (by omega) (LW_twin (P := fun h2 => DONE3 h h2 S len) (o0 K) (o168 K) (sc c8) (ST_3 y (st_twin (d := d) (bc := 0) (bs := 0) x (by omega) (S (8 * t + 1)))) (fun h2 dn => loop h2 c8 dn))
    have f14 : 8 * t + 8 ≤ len → ex_G mL_law (d + 21) 778 [.ref 10000000, .ref 0, .ref 168, .int (nI (8 * t))] [] h (303 * (n + 1)) (10403 * (n + 1)) (fun r _ => r = some (.int 1)) := fun c8 => ex_G.room (bc' := 303 * n + 0) (bs' := 10403 * n + 0) (Nat.le_refl _) (by omega) (by omega) (LW_undo (P := fun h2 => DONE3 h h2 S len) (o0 K) (o168 K) (sc c8) (ST_3 y (st_undo (d := d) (bc := 0) (bs := 0) x (by omega) (S (8 * t + 1)))) (fun h2 dn => loop h2 c8 dn))
    have f15 : 8 * t + 8 ≤ len → ex_G mL_law (d + 21) 801 [.ref 10000000, .ref 0, .ref 168, .int (nI (8 * t))] [] h (303 * (n + 1)) (10403 * (n + 1)) (fun r _ => r = some (.int 1)) := fun c8 => ex_G.room (bc' := 303 * n + 0) (bs' := 10403 * n + 0) (Nat.le_refl _) (by omega) (by omega) (LW_sign (P := fun h2 => DONE3 h h2 S len) (o0 K) (o168 K) (sc c8) (ST_3 y (st_sign (d := d) (bc := 0) (bs := 0) x (S (8 * t + 1)) (S (8 * t + 2)))) (fun h2 dn => loop h2 c8 dn))
    have f16 : 8 * t + 8 ≤ len → ex_G mL_law (d + 21) 834 [.ref 10000000, .ref 0, .ref 168, .int (nI (8 * t))] [] h (303 * (n + 1)) (10403 * (n + 1)) (fun r _ => r = some (.int 1)) := fun c8 => ex_G.room (bc' := 303 * n + 0) (bs' := 10403 * n + 0) (Nat.le_refl _) (by omega) (by omega) (LW_pieceOf (P := fun h2 => DONE3 h h2 S len) (o0 K) (o168 K) (sc c8) (ST_3 y (st_pieceOf (d := d) (bc := 0) (bs := 0) x (S (8 * t + 1)) (S (8 * t + 2)))) (fun h2 dn => loop h2 c8 dn))
    have f17 : 8 * t + 8 ≤ len → ex_G mL_law (d + 21) 867 [.ref 10000000, .ref 0, .ref 168, .int (nI (8 * t))] [] h (303 * (n + 1)) (10403 * (n + 1)) (fun r _ => r = some (.int 1)) := fun c8 => ex_G.room (bc' := 303 * n + 0) (bs' := 10403 * n + 0) (Nat.le_refl _) (by omega) (by omega) (LW_linking (P := fun h2 => DONE3 h h2 S len) (o0 K) (o168 K) (sc c8) (ST_3 y (st_linking (d := d) (bc := 0) (bs := 0) x (S (8 * t + 1)) (S (8 * t + 2)) (S (8 * t + 3)))) (fun h2 dn => loop h2 c8 dn))
    have f18 : 8 * t + 8 ≤ len → ex_G mL_law (d + 21) 910 [.ref 10000000, .ref 0, .ref 168, .int (nI (8 * t))] [] h (303 * (n + 1)) (10403 * (n + 1)) (fun r _ => r = some (.int 1)) := fun c8 => ex_G.room (bc' := 303 * n + 0) (bs' := 10403 * n + 0) (Nat.le_refl _) (by omega) (by omega) (LW_colours (P := fun h2 => DONE3 h h2 S len) (o0 K) (o168 K) (sc c8) (ST_3 y (st_colours (d := d) (bc := 0) (bs := 0) x (S (8 * t + 1)) (S (8 * t + 2)))) (fun h2 dn => loop h2 c8 dn))
    have f19 : 8 * t + 8 ≤ len → ex_G mL_law (d + 21) 943 [.ref 10000000, .ref 0, .ref 168, .int (nI (8 * t))] [] h (303 * (n + 1)) (10403 * (n + 1)) (fun r _ => r = some (.int 1)) := fun c8 => ex_G.room (bc' := 303 * n + 0) (bs' := 10403 * n + 0) (Nat.le_refl _) (by omega) (by omega) (LW_bracket (P := fun h2 => DONE3 h h2 S len) (o0 K) (o168 K) (sc c8) (ST_3 y (st_bracket (d := d) (bc := 0) (bs := 0) x (S (8 * t + 1)))) (fun h2 dn => loop h2 c8 dn))
    have f20 : 8 * t + 8 ≤ len → ex_G mL_law (d + 21) 966 [.ref 10000000, .ref 0, .ref 168, .int (nI (8 * t))] [] h (303 * (n + 1)) (10403 * (n + 1)) (fun r _ => r = some (.int 1)) := fun c8 => ex_G.room (bc' := 303 * n + 0) (bs' := 10403 * n + 0) (Nat.le_refl _) (by omega) (by omega) (LW_polynomial (P := fun h2 => DONE3 h h2 S len) (o0 K) (o168 K) (sc c8) (ST_3 y (st_polynomial (d := d) (bc := 0) (bs := 0) x (S (8 * t + 1)))) (fun h2 dn => loop h2 c8 dn))
    have f21 : 8 * t + 8 ≤ len → ex_G mL_law (d + 21) 989 [.ref 10000000, .ref 0, .ref 168, .int (nI (8 * t))] [] h (303 * (n + 1)) (10403 * (n + 1)) (fun r _ => r = some (.int 1)) := fun c8 => ex_G.room (bc' := 303 * n + 0) (bs' := 10403 * n + 0) (Nat.le_refl _) (by omega) (by omega) (LW_at (P := fun h2 => DONE3 h h2 S len) (o0 K) (o168 K) (sc c8) (ST_3L y (st_at (d := d) (bc := 0) (bs := 0) x (S (8 * t + 1)))) (fun h2 dn => loop h2 c8 dn))
    have f22 : 8 * t + 8 ≤ len → ex_G mL_law (d + 21) 1013 [.ref 10000000, .ref 0, .ref 168, .int (nI (8 * t))] [] h (303 * (n + 1)) (10403 * (n + 1)) (fun r _ => r = some (.int 1)) := fun c8 => ex_G.room (bc' := 303 * n + 0) (bs' := 10403 * n + 0) (Nat.le_refl _) (by omega) (by omega) (LW_power (P := fun h2 => DONE3 h h2 S len) (o0 K) (o168 K) (sc c8) (ST_3 y (st_power (d := d) (bc := 0) (bs := 0) x (S (8 * t + 1)))) (fun h2 dn => loop h2 c8 dn))
    have f23 : 8 * t + 8 ≤ len → ex_G mL_law (d + 21) 1036 [.ref 10000000, .ref 0, .ref 168, .int (nI (8 * t))] [] h (303 * (n + 1)) (10403 * (n + 1)) (fun r _ => r = some (.int 1)) := fun c8 => ex_G.room (bc' := 303 * n + 0) (bs' := 10403 * n + 0) (Nat.le_refl _) (by omega) (by omega) (LW_determinant (P := fun h2 => DONE3 h h2 S len) (o0 K) (o168 K) (sc c8) (ST_3L y (st_determinant (d := d) (bc := 0) (bs := 0) x (S (8 * t + 1)))) (fun h2 dn => loop h2 c8 dn))
    have f24 : 8 * t + 8 ≤ len → ex_G mL_law (d + 21) 1060 [.ref 10000000, .ref 0, .ref 168, .int (nI (8 * t))] [] h (303 * (n + 1)) (10403 * (n + 1)) (fun r _ => r = some (.int 1)) := fun c8 => ex_G.room (bc' := 303 * n + 0) (bs' := 10403 * n + 0) (Nat.le_refl _) (by omega) (by omega) (LW_gauss (P := fun h2 => DONE3 h h2 S len) (o0 K) (o168 K) (sc c8) (ST_3 y (st_gauss (d := d) (bc := 0) (bs := 0) x (S (8 * t + 1)))) (fun h2 dn => loop h2 c8 dn))
    have f25 : 8 * t + 8 ≤ len → ex_G mL_law (d + 21) 1083 [.ref 10000000, .ref 0, .ref 168, .int (nI (8 * t))] [] h (303 * (n + 1)) (10403 * (n + 1)) (fun r _ => r = some (.int 1)) := fun c8 => ex_G.room (bc' := 303 * n + 0) (bs' := 10403 * n + 0) (Nat.le_refl _) (by omega) (by omega) (LW_type (P := fun h2 => DONE3 h h2 S len) (o0 K) (o168 K) (sc c8) (ST_3 y (st_type (d := d) (bc := 0) (bs := 0) x (S (8 * t + 1)))) (fun h2 dn => loop h2 c8 dn))
    have f26 : 8 * t + 8 ≤ len → ex_G mL_law (d + 21) 1106 [.ref 10000000, .ref 0, .ref 168, .int (nI (8 * t))] [] h (303 * (n + 1)) (10403 * (n + 1)) (fun r _ => r = some (.int 1)) := fun c8 => ex_G.room (bc' := 303 * n + 0) (bs' := 10403 * n + 0) (Nat.le_refl _) (by omega) (by omega) (LW_clear (P := fun h2 => DONE3 h h2 S len) (o0 K) (o168 K) (sc c8) (ST_3 y (st_clear (d := d) (bc := 0) (bs := 0) x)) (fun h2 dn => loop h2 c8 dn))
    have f27 : 8 * t + 8 ≤ len → ex_G mL_law (d + 21) 1119 [.ref 10000000, .ref 0, .ref 168, .int (nI (8 * t))] [] h (303 * (n + 1)) (10403 * (n + 1)) (fun r _ => r = some (.int 1)) := fun c8 => ex_G.room (bc' := 303 * n + 0) (bs' := 10403 * n + 0) (Nat.le_refl _) (by omega) (by omega) (LW_item (P := fun h2 => DONE3 h h2 S len) (o0 K) (o168 K) (sc c8) (ST_3 y (st_item (d := d) (bc := 0) (bs := 0) x (S (8 * t + 1)))) (fun h2 dn => loop h2 c8 dn))
    have f28 : 8 * t + 8 ≤ len → ex_G mL_law (d + 21) 1142 [.ref 10000000, .ref 0, .ref 168, .int (nI (8 * t))] [] h (303 * (n + 1)) (10403 * (n + 1)) (fun r _ => r = some (.int 1)) := fun c8 => ex_G.room (bc' := 303 * n + 3) (bs' := 10403 * n + 207) (Nat.le_refl _) (by omega) (by omega) (LW_ofGauss (P := fun h2 => DONE3 h h2 S len) (o0 K) (o168 K) (sc c8) (ST_3 y (st_ofGauss (d := d) (bc := 0) (bs := 0) x (by omega))) (fun h2 dn => loop h2 c8 dn))
    have f29 : 8 * t + 8 ≤ len → ex_G mL_law (d + 21) 1155 [.ref 10000000, .ref 0, .ref 168, .int (nI (8 * t))] [] h (303 * (n + 1)) (10403 * (n + 1)) (fun r _ => r = some (.int 1)) := fun c8 => ex_G.room (bc' := 303 * n + 1) (bs' := 10403 * n + 4) (Nat.le_refl _) (by omega) (by omega) (LW_move (P := fun h2 => DONE3 h h2 S len) (o0 K) (o168 K) (sc c8) (ST_3 y (st_move (d := d) (bc := 0) (bs := 0) x (by omega) (S (8 * t + 1)) (S (8 * t + 2)) (S (8 * t + 3)) (S (8 * t + 4)))) (fun h2 dn => loop h2 c8 dn))
    have f30 : 8 * t + 8 ≤ len → ex_G mL_law (d + 21) 1208 [.ref 10000000, .ref 0, .ref 168, .int (nI (8 * t))] [] h (303 * (n + 1)) (10403 * (n + 1)) (fun r _ => r = some (.int 1)) := fun c8 => ex_G.room (bc' := 303 * n + 0) (bs' := 10403 * n + 0) (Nat.le_refl _) (by omega) (by omega) (LW_tells (P := fun h2 => DONE3 h h2 S len) (o0 K) (o168 K) (sc c8) (ST_3 y (st_tells (d := d) (bc := 0) (bs := 0) x (S (8 * t + 1)) (S (8 * t + 2)))) (fun h2 dn => loop h2 c8 dn))
    have f31 : 8 * t + 8 ≤ len → ex_G mL_law (d + 21) 1241 [.ref 10000000, .ref 0, .ref 168, .int (nI (8 * t))] [] h (303 * (n + 1)) (10403 * (n + 1)) (fun r _ => r = some (.int 1)) := fun c8 => ex_G.room (bc' := 303 * n + 0) (bs' := 10403 * n + 0) (Nat.le_refl _) (by omega) (by omega) (LW_as (P := fun h2 => DONE3 h h2 S len) (o0 K) (o168 K) (sc c8) (ST_3 y (st_as (d := d) (bc := 0) (bs := 0) x (S (8 * t + 1)) (S (8 * t + 2)))) (fun h2 dn => loop h2 c8 dn))
    have f32 : 8 * t + 8 ≤ len → ex_G mL_law (d + 21) 1274 [.ref 10000000, .ref 0, .ref 168, .int (nI (8 * t))] [] h (303 * (n + 1)) (10403 * (n + 1)) (fun r _ => r = some (.int 1)) := fun c8 => ex_G.room (bc' := 303 * n + 0) (bs' := 10403 * n + 0) (Nat.le_refl _) (by omega) (by omega) (LW_may (P := fun h2 => DONE3 h h2 S len) (o0 K) (o168 K) (sc c8) (ST_3 y (st_may (d := d) (bc := 0) (bs := 0) x (S (8 * t + 1)) (S (8 * t + 2)))) (fun h2 dn => loop h2 c8 dn))
    have f33 : 8 * t + 8 ≤ len → ex_G mL_law (d + 21) 1307 [.ref 10000000, .ref 0, .ref 168, .int (nI (8 * t))] [] h (303 * (n + 1)) (10403 * (n + 1)) (fun r _ => r = some (.int 1)) := fun c8 => ex_G.room (bc' := 303 * n + 1) (bs' := 10403 * n + 1620) (Nat.le_refl _) (by omega) (by omega) (LW_does (P := fun h2 => DONE3 h h2 S len) (o0 K) (o168 K) (sc c8) (ST_3 y (st_does (d := d) (bc := 0) (bs := 0) x (by omega) (S (8 * t + 1)) (S (8 * t + 2)))) (fun h2 dn => loop h2 c8 dn))
    have f34 : 8 * t + 8 ≤ len → ex_G mL_law (d + 21) 1340 [.ref 10000000, .ref 0, .ref 168, .int (nI (8 * t))] [] h (303 * (n + 1)) (10403 * (n + 1)) (fun r _ => r = some (.int 1)) := fun c8 => ex_G.room (bc' := 303 * n + 1) (bs' := 10403 * n + 1620) (Nat.le_refl _) (by omega) (by omega) (LW_undoes (P := fun h2 => DONE3 h h2 S len) (o0 K) (o168 K) (sc c8) (ST_3 y (st_undoes (d := d) (bc := 0) (bs := 0) x (by omega) (S (8 * t + 1)) (S (8 * t + 2)))) (fun h2 dn => loop h2 c8 dn))
    have f35 : 8 * t + 8 ≤ len → ex_G mL_law (d + 21) 1373 [.ref 10000000, .ref 0, .ref 168, .int (nI (8 * t))] [] h (303 * (n + 1)) (10403 * (n + 1)) (fun r _ => r = some (.int 1)) := fun c8 => ex_G.room (bc' := 303 * n + 0) (bs' := 10403 * n + 0) (Nat.le_refl _) (by omega) (by omega) (LW_trace (P := fun h2 => DONE3 h h2 S len) (o0 K) (o168 K) (sc c8) (ST_3 y (st_trace (d := d) (bc := 0) (bs := 0) x (S (8 * t + 1)))) (fun h2 dn => loop h2 c8 dn))
    have f36 : 8 * t + 8 ≤ len → ex_G mL_law (d + 21) 1396 [.ref 10000000, .ref 0, .ref 168, .int (nI (8 * t))] [] h (303 * (n + 1)) (10403 * (n + 1)) (fun r _ => r = some (.int 1)) := fun c8 => ex_G.room (bc' := 303 * n + 0) (bs' := 10403 * n + 0) (Nat.le_refl _) (by omega) (by omega) (LW_like (P := fun h2 => DONE3 h h2 S len) (o0 K) (o168 K) (sc c8) (ST2_3 y (st_like (d := d) (bc := 0) (bs := 0) x (S (8 * t + 1)) (S (8 * t + 2)))) (fun h2 dn => loop h2 c8 dn))
    have f37 : 8 * t + 8 ≤ len → ex_G mL_law (d + 21) 1429 [.ref 10000000, .ref 0, .ref 168, .int (nI (8 * t))] [] h (303 * (n + 1)) (10403 * (n + 1)) (fun r _ => r = some (.int 1)) := fun c8 => ex_G.room (bc' := 303 * n + 303) (bs' := 10403 * n + 10403) (Nat.le_refl _) (by omega) (by omega) (LW_search (P := fun h2 => DONE3 h h2 S len) (o0 K) (o168 K) (sc c8) (st_search (d := d) (bc := 0) (bs := 0) x y (by omega) (S (8 * t + 1)) (S (8 * t + 2))) (fun h2 dn => loop h2 c8 dn))
    have f38 : 8 * t + 8 ≤ len → ex_G mL_law (d + 21) 1462 [.ref 10000000, .ref 0, .ref 168, .int (nI (8 * t))] [] h (303 * (n + 1)) (10403 * (n + 1)) (fun r _ => r = some (.int 1)) := fun c8 => ex_G.room (bc' := 303 * n + 300) (bs' := 10403 * n + 10300) (Nat.le_refl _) (by omega) (by omega) (LW_goOn (P := fun h2 => DONE3 h h2 S len) (o0 K) (o168 K) (sc c8) (st_goOn (d := d) (bc := 0) (bs := 0) x y (by omega) (S (8 * t + 1))) (fun h2 dn => loop h2 c8 dn))
    have f39 : 8 * t + 8 ≤ len → ex_G mL_law (d + 21) 1485 [.ref 10000000, .ref 0, .ref 168, .int (nI (8 * t))] [] h (303 * (n + 1)) (10403 * (n + 1)) (fun r _ => r = some (.int 1)) := fun c8 => ex_G.room (bc' := 303 * n + 0) (bs' := 10403 * n + 0) (Nat.le_refl _) (by omega) (by omega) (LW_searched (P := fun h2 => DONE3 h h2 S len) (o0 K) (o168 K) (sc c8) (st_searched (d := d) (bc := 0) (bs := 0) x y (S (8 * t + 1))) (fun h2 dn => loop h2 c8 dn))
    have f40 : 8 * t + 8 ≤ len → ex_G mL_law (d + 21) 1508 [.ref 10000000, .ref 0, .ref 168, .int (nI (8 * t))] [] h (303 * (n + 1)) (10403 * (n + 1)) (fun r _ => r = some (.int 1)) := fun c8 => ex_G.room (bc' := 303 * n + 3) (bs' := 10403 * n + 207) (Nat.le_refl _) (by omega) (by omega) (LW_fewer (P := fun h2 => DONE3 h h2 S len) (o0 K) (o168 K) (sc c8) (st_fewer (d := d) (bc := 0) (bs := 0) x y (by omega)) (fun h2 dn => loop h2 c8 dn))
    have f41 : 8 * t + 8 ≤ len → ex_G mL_law (d + 21) 1521 [.ref 10000000, .ref 0, .ref 168, .int (nI (8 * t))] [] h (303 * (n + 1)) (10403 * (n + 1)) (fun r _ => r = some (.int 1)) := fun c8 => ex_G.room (bc' := 303 * n + 303) (bs' := 10403 * n + 10403) (Nat.le_refl _) (by omega) (by omega) (LW_same (P := fun h2 => DONE3 h h2 S len) (o0 K) (o168 K) (sc c8) (st_same (d := d) (bc := 0) (bs := 0) x y (by omega) (S (8 * t + 1)) (S (8 * t + 2)) (S (8 * t + 3))) (fun h2 dn => loop h2 c8 dn))
    have f42 : 8 * t + 8 ≤ len → ex_G mL_law (d + 21) 1564 [.ref 10000000, .ref 0, .ref 168, .int (nI (8 * t))] [] h (303 * (n + 1)) (10403 * (n + 1)) (fun r _ => r = some (.int 1)) := fun c8 => ex_G.room (bc' := 303 * n + 0) (bs' := 10403 * n + 0) (Nat.le_refl _) (by omega) (by omega) (LW_parted (P := fun h2 => DONE3 h h2 S len) (o0 K) (o168 K) (sc c8) (ST_3 y (st_parted (d := d) (bc := 0) (bs := 0) x)) (fun h2 dn => loop h2 c8 dn))
    have f43 : 8 * t + 8 ≤ len → ex_G mL_law (d + 21) 1577 [.ref 10000000, .ref 0, .ref 168, .int (nI (8 * t))] [] h (303 * (n + 1)) (10403 * (n + 1)) (fun r _ => r = some (.int 1)) := fun c8 => ex_G.room (bc' := 303 * n + 0) (bs' := 10403 * n + 0) (Nat.le_refl _) (by omega) (by omega) (LW_way (P := fun h2 => DONE3 h h2 S len) (o0 K) (o168 K) (sc c8) (ST_3 y (st_way (d := d) (bc := 0) (bs := 0) x (S (8 * t + 1)))) (fun h2 dn => loop h2 c8 dn))
    have f44 : 8 * t + 8 ≤ len → ex_G mL_law (d + 21) 1600 [.ref 10000000, .ref 0, .ref 168, .int (nI (8 * t))] [] h (303 * (n + 1)) (10403 * (n + 1)) (fun r _ => r = some (.int 1)) := fun c8 => ex_G.room (bc' := 303 * n + 3) (bs' := 10403 * n + 207) (Nat.le_refl _) (by omega) (by omega) (LW_check (P := fun h2 => DONE3 h h2 S len) (o0 K) (o168 K) (sc c8) (ST_3 y (st_check (d := d) (bc := 0) (bs := 0) x (by omega) (S (8 * t + 1)))) (fun h2 dn => loop h2 c8 dn))
    have f45 : 8 * t + 8 ≤ len → ex_G mL_law (d + 21) 1623 [.ref 10000000, .ref 0, .ref 168, .int (nI (8 * t))] [] h (303 * (n + 1)) (10403 * (n + 1)) (fun r _ => r = some (.int 1)) := fun c8 => ex_G.room (bc' := 303 * n + 3) (bs' := 10403 * n + 565) (Nat.le_refl _) (by omega) (by omega) (LW_book (P := fun h2 => DONE3 h h2 S len) (o0 K) (o168 K) (sc c8) (ST_3 y (st_book (d := d) (bc := 0) (bs := 0) x (by omega) (S (8 * t + 1)) (((Int32.toInt64 (S (8 * t + 2))) <<< (Int32.toInt64 32 &&& 63)) ||| ((Int32.toInt64 (S (8 * t + 3))) &&& 4294967295)))) (fun h2 dn => loop h2 c8 dn))
    have f46 : 8 * t + 8 ≤ len → ex_G mL_law (d + 21) 1686 [.ref 10000000, .ref 0, .ref 168, .int (nI (8 * t))] [] h (303 * (n + 1)) (10403 * (n + 1)) (fun r _ => r = some (.int 1)) := fun c8 => ex_G.room (bc' := 303 * n + 0) (bs' := 10403 * n + 0) (Nat.le_refl _) (by omega) (by omega) (LW_name (P := fun h2 => DONE3 h h2 S len) (o0 K) (o168 K) (sc c8) (ST_3L y (st_name (d := d) (bc := 0) (bs := 0) x (S (8 * t + 1)))) (fun h2 dn => loop h2 c8 dn))
    have f47 : 8 * t + 8 ≤ len → ex_G mL_law (d + 21) 1710 [.ref 10000000, .ref 0, .ref 168, .int (nI (8 * t))] [] h (303 * (n + 1)) (10403 * (n + 1)) (fun r _ => r = some (.int 1)) := fun c8 => ex_G.room (bc' := 303 * n + 0) (bs' := 10403 * n + 0) (Nat.le_refl _) (by omega) (by omega) (LW_count (P := fun h2 => DONE3 h h2 S len) (o0 K) (o168 K) (sc c8) (ST_3 y (st_count (d := d) (bc := 0) (bs := 0) x (S (8 * t + 1)))) (fun h2 dn => loop h2 c8 dn))
    have f48 : 8 * t + 8 ≤ len → ex_G mL_law (d + 21) 1733 [.ref 10000000, .ref 0, .ref 168, .int (nI (8 * t))] [] h (303 * (n + 1)) (10403 * (n + 1)) (fun r _ => r = some (.int 1)) := fun c8 => ex_G.room (bc' := 303 * n + 0) (bs' := 10403 * n + 0) (Nat.le_refl _) (by omega) (by omega) (LW_findings (P := fun h2 => DONE3 h h2 S len) (o0 K) (o168 K) (sc c8) (ST_3 y (st_findings (d := d) (bc := 0) (bs := 0) x (S (8 * t + 1)))) (fun h2 dn => loop h2 c8 dn))
    have f49 : 8 * t + 8 ≤ len → ex_G mL_law (d + 21) 1756 [.ref 10000000, .ref 0, .ref 168, .int (nI (8 * t))] [] h (303 * (n + 1)) (10403 * (n + 1)) (fun r _ => r = some (.int 1)) := fun c8 => ex_G.room (bc' := 303 * n + 0) (bs' := 10403 * n + 0) (Nat.le_refl _) (by omega) (by omega) (LW_status (P := fun h2 => DONE3 h h2 S len) (o0 K) (o168 K) (sc c8) (ST_3 y (st_status (d := d) (bc := 0) (bs := 0) x)) (fun h2 dn => loop h2 c8 dn))
    have f50 : 8 * t + 8 ≤ len → ex_G mL_law (d + 21) 1769 [.ref 10000000, .ref 0, .ref 168, .int (nI (8 * t))] [] h (303 * (n + 1)) (10403 * (n + 1)) (fun r _ => r = some (.int 1)) := fun c8 => ex_G.room (bc' := 303 * n + 0) (bs' := 10403 * n + 0) (Nat.le_refl _) (by omega) (by omega) (LW_digest (P := fun h2 => DONE3 h h2 S len) (o0 K) (o168 K) (sc c8) (ST_3L y (st_digest (d := d) (bc := 0) (bs := 0) x)) (fun h2 dn => loop h2 c8 dn))
    have fd : 8 * t + 8 ≤ len → ex_G mL_law (d + 21) 1783 [.ref 10000000, .ref 0, .ref 168, .int (nI (8 * t))] [] h (303 * (n + 1)) (10403 * (n + 1)) (fun r _ => r = some (.int 1)) := fun c8 => by
      refine ex_iinc (q := 1786) (x := nI (8 * t)) (v := nI (8 * (t + 1))) (ls' := [.ref 10000000, .ref 0, .ref 168, .int (nI (8 * (t + 1)))]) dL_law_1783 rfl (law_i8 t) rfl ?_
      exact ex_goto (tgt := 18) dL_law_1786 (ex_G.room (bc' := 303 * n) (bs' := 10403 * n) (Nat.le_refl _) (by omega) (by omega) (loop h c8 ⟨W, N, B, x, y, Nat.le_refl _, by omega⟩))
    exact L18 (len := len) (S := S) hk hS hl (by omega) (fun _ => rfl) f0 f1 f2 f3 f4 f5 f6 f7 f8 f9 f10 f11 f12 f13 f14 f15 f16 f17 f18 f19 f20 f21 f22 f23 f24 f25 f26 f27 f28 f29 f30 f31 f32 f33 f34 f35 f36 f37 f38 f39 f40 f41 f42 f43 f44 f45 f46 f47 f48 f49 f50 fd
end LAWL
