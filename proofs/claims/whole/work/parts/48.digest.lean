/-! digest. -/
def mxr (A : Nat → Int32) (off : Nat) (g : Int64) : Nat → Int64
  | 0 => g
  | i + 1 => 31 * mxr A off g i + (A (off + i)).toInt64
def mxc (L A : Nat → Int32) (g : Int64) : Nat → Int64
  | 0 => g
  | c + 1 => mxr A (4 * c) (31 * mxc L A g c + (L c).toInt64) (L c).toNatClampNeg
theorem mxr_congr {A A' : Nat → Int32} {off off' : Nat} {g : Int64} {n : Nat} (h : ∀ i, i < n → A (off + i) = A' (off' + i)) : mxr A off g n = mxr A' off' g n := by
  induction n with
  | zero => rfl
  | succ n ih => show 31 * mxr A off g n + _ = 31 * mxr A' off' g n + _; rw [ih (fun i hi => h i (by omega)), h n (by omega)]
section DIGEST
variable {h h' : AH} {d bc bs : Nat} {Q : Option Value → AH → Prop} {W : Nat → Nat} {N : Nat} {B : Nat → Nat} {S : Nat → Int32} {len : Nat}
theorem PO_len {n : Nat} {L A : Nat → Int32} (O : PO n L A) {c : Nat} (hc : c < n) : (L c).toNatClampNeg ≤ 4 ∧ ∀ i, i < 2 ^ 31 → (L c ≤ nI i ↔ (L c).toNatClampNeg ≤ i) := by
  rcases O.2.1 c hc with q | ⟨l, hl, q⟩
  · rw [q]
    have e : m1.toNatClampNeg = 0 := by decide
    rw [e]
    exact ⟨by omega, fun i hi => ⟨fun _ => Nat.zero_le i, fun _ => m1_le hi⟩⟩
  · rw [q, nI_clamp (by omega)]
    exact ⟨hl, fun i hi => nI_leI (by omega) hi⟩
theorem c_mixInto {b n : Nat} (P : pt h b) (hn : ah_f h b 2 = nI n) (O : PO n (ah_i h (b + 1)) (ah_i h (b + 2))) (g : Int64) (k : Q (some (.long (mxc (ah_i h (b + 1)) (ah_i h (b + 2)) (31 * g + (ah_f h b 3).toInt64) n))) h) : ex_S yX7_mixInto mX7_mixInto d [.ref b, .long g] h bc bs Q := by
  have h40 := O.1
  refine X7_mixInto_e (X7_mixInto_0 ⟨pt_o P, ?_⟩)
  intro x2 e2
  subst e2
  refine lp n (fun c h' => h' = h) (fun c h' => ex_G mX7_mixInto d 14 [.ref b, .long (mxc (ah_i h (b + 1)) (ah_i h (b + 2)) (31 * g + (ah_f h b 3).toInt64) c), .retAddr 0, .int (nI c), .retAddr 0] [] h' bc bs Q) rfl ?_ ?_
  · rintro c h1 hc e nx
    subst e
    refine X7_mixInto_14 ?_
    obtain ⟨l4, lle⟩ := PO_len O hc
    simp (disch := omega) only [pt_o P, pt_r0 P, pt_r1 P, pt_s0 P, pt_s1 P, pt_t0 P, pt_t1 P, hn, forall_eq, Option.some.injEq, exists_eq_left', Option.getD_some, Value.int.injEq, Value.long.injEq, il_0, il_1, il_2, il_3, il_4, il_5, il_6, il_7, il_8, il_9, il_10, il_11, il_12, il_13, il_14, il_15, il_16, il_17, il_18, il_19, il_20, il_24, il_30, il_31, il_38, il_39, il_40, il_41, il_48, il_50, il_59, il_60, il_63, il_64, il_70, il_80, il_99, il_100, il_120, il_130, il_140, il_144, il_159, il_160, il_162, il_200, il_210, il_240, il_264, il_280, il_281, il_300, il_364, il_368, il_599, il_600, il_601, il_999, il_1610, il_1620, il_1800, il_4000, il_5000, il_7000, il_14500, il_58240, il_1000000, m1_e, nI_1, nI_add, pk_mul, pk_div, pk_sub, nI_clamp, nI_leI, nI_ltI, nI_eq, m1_lt, m1_le, m1_gt, m1_ge, m1_ne, m1_en, ix_nI, im_nI, and1, and3, sh2_, shr2, corner_nI, turned_nI]
    refine ⟨trivial, fun z => by omega, fun _ => ⟨by omega, ?_⟩⟩
    refine lp (ah_i h1 (b + 1) c).toNatClampNeg (fun i h' => h' = h1) (fun i h' => ex_G mX7_mixInto d 39 [.ref b, .long (mxr (ah_i h1 (b + 2)) (4 * c) (31 * mxc (ah_i h1 (b + 1)) (ah_i h1 (b + 2)) (31 * g + (ah_f h1 b 3).toInt64) c + (ah_i h1 (b + 1) c).toInt64) i), .retAddr 0, .int (nI c), .int (nI i)] [] h' bc bs Q) rfl ?_ ?_
    · rintro i h2 hi e nx2
      subst e
      refine X7_mixInto_39 ?_
      have hle := lle i (by omega)
      simp (disch := omega) only [pt_o P, pt_r0 P, pt_r1 P, pt_s0 P, pt_s1 P, pt_t0 P, pt_t1 P, hle, forall_eq, Option.some.injEq, exists_eq_left', Option.getD_some, Value.int.injEq, Value.long.injEq, il_0, il_1, il_2, il_3, il_4, il_5, il_6, il_7, il_8, il_9, il_10, il_11, il_12, il_13, il_14, il_15, il_16, il_17, il_18, il_19, il_20, il_24, il_30, il_31, il_38, il_39, il_40, il_41, il_48, il_50, il_59, il_60, il_63, il_64, il_70, il_80, il_99, il_100, il_120, il_130, il_140, il_144, il_159, il_160, il_162, il_200, il_210, il_240, il_264, il_280, il_281, il_300, il_364, il_368, il_599, il_600, il_601, il_999, il_1610, il_1620, il_1800, il_4000, il_5000, il_7000, il_14500, il_58240, il_1000000, m1_e, nI_1, nI_add, pk_mul, pk_div, pk_sub, nI_clamp, nI_leI, nI_ltI, nI_eq, m1_lt, m1_le, m1_gt, m1_ge, m1_ne, m1_en, ix_nI, im_nI, and1, and3, sh2_, shr2, corner_nI, turned_nI]
      exact ⟨trivial, by omega, fun z => by omega, fun _ => ⟨by omega, nx2 _ rfl⟩⟩
    · rintro h2 e
      subst e
      refine X7_mixInto_39 ?_
      have hle := lle (ah_i h2 (b + 1) c).toNatClampNeg (by omega)
      simp (disch := omega) only [pt_o P, pt_r0 P, pt_r1 P, pt_s0 P, pt_s1 P, pt_t0 P, pt_t1 P, hle, forall_eq, Option.some.injEq, exists_eq_left', Option.getD_some, Value.int.injEq, Value.long.injEq, il_0, il_1, il_2, il_3, il_4, il_5, il_6, il_7, il_8, il_9, il_10, il_11, il_12, il_13, il_14, il_15, il_16, il_17, il_18, il_19, il_20, il_24, il_30, il_31, il_38, il_39, il_40, il_41, il_48, il_50, il_59, il_60, il_63, il_64, il_70, il_80, il_99, il_100, il_120, il_130, il_140, il_144, il_159, il_160, il_162, il_200, il_210, il_240, il_264, il_280, il_281, il_300, il_364, il_368, il_599, il_600, il_601, il_999, il_1610, il_1620, il_1800, il_4000, il_5000, il_7000, il_14500, il_58240, il_1000000, m1_e, nI_1, nI_add, pk_mul, pk_div, pk_sub, nI_clamp, nI_leI, nI_ltI, nI_eq, m1_lt, m1_le, m1_gt, m1_ge, m1_ne, m1_en, ix_nI, im_nI, and1, and3, sh2_, shr2, corner_nI, turned_nI]
      exact ⟨trivial, by omega, fun _ => nx _ rfl, fun z => (by first | omega | exact absurd trivial z | exact z.elim | exact absurd rfl z)⟩
  · rintro h1 e
    subst e
    refine X7_mixInto_14 ?_
    simp (disch := omega) only [pt_o P, pt_r0 P, pt_r1 P, pt_s0 P, pt_s1 P, pt_t0 P, pt_t1 P, hn, forall_eq, Option.some.injEq, exists_eq_left', Option.getD_some, Value.int.injEq, Value.long.injEq, il_0, il_1, il_2, il_3, il_4, il_5, il_6, il_7, il_8, il_9, il_10, il_11, il_12, il_13, il_14, il_15, il_16, il_17, il_18, il_19, il_20, il_24, il_30, il_31, il_38, il_39, il_40, il_41, il_48, il_50, il_59, il_60, il_63, il_64, il_70, il_80, il_99, il_100, il_120, il_130, il_140, il_144, il_159, il_160, il_162, il_200, il_210, il_240, il_264, il_280, il_281, il_300, il_364, il_368, il_599, il_600, il_601, il_999, il_1610, il_1620, il_1800, il_4000, il_5000, il_7000, il_14500, il_58240, il_1000000, m1_e, nI_1, nI_add, pk_mul, pk_div, pk_sub, nI_clamp, nI_leI, nI_ltI, nI_eq, m1_lt, m1_le, m1_gt, m1_ge, m1_ne, m1_en, ix_nI, im_nI, and1, and3, sh2_, shr2, corner_nI, turned_nI]
    exact ⟨trivial, fun _ => k, fun z => (by first | omega | exact absurd trivial z | exact z.elim | exact absurd rfl z)⟩
/-- the digest of the class's pictures -/
def dgr (h : AH) (B : Nat → Nat) : Nat → Int64
  | 0 => 17
  | p + 1 => mxc (ah_i h (B p + 1)) (ah_i h (B p + 2)) (31 * dgr h B p + (ah_f h (B p) 3).toInt64) (ah_f h (B p) 2).toNatClampNeg
theorem st_digest (x : R0 h W N B S len) : STL yX11_digest mX11_digest yX12_digest mX12_digest (d + 1) d [] h bc bs W S len := by
  have K := x.2.1
  obtain ⟨h24, hN, hN2, hP⟩ := x.2.2.2.2.1
  refine X11_digest_e (X11_digest_0 ?_)
  refine lp N (fun p h' => h' = h) (fun p h' => ex_G mX11_digest (d + 1) 6 [.ref 0, .long (dgr h B p), .retAddr 0, .int (nI p)] [] h' bc bs _) rfl ?_ ?_
  · rintro p h1 hp e nx
    subst e
    obtain ⟨x1, x2, pt1, ww, ⟨n, l, y1, y2, y3, y4, y5, y6, y7, y8, y9⟩, hh⟩ := (hP p hp).2
    have hq := (hP p hp).1
    have hp24 : p < 24 := by omega
    have h40 := y6.1
    refine X11_digest_6 ?_
    simp (disch := omega) only [o0 K, hN, r0_0 K, s1 K, hq, hp24, pt_o pt1, forall_eq, Option.some.injEq, exists_eq_left', Option.getD_some, Value.int.injEq, Value.long.injEq, not_true_eq_false, not_false_eq_true, false_implies, true_implies, forall_const, implies_true, and_true, true_and, Classical.not_not, il_0, il_1, il_2, il_3, il_4, il_5, il_6, il_7, il_8, il_9, il_10, il_11, il_12, il_13, il_14, il_15, il_16, il_17, il_18, il_19, il_20, il_24, il_30, il_31, il_38, il_39, il_40, il_41, il_48, il_50, il_59, il_60, il_63, il_64, il_70, il_80, il_99, il_100, il_120, il_130, il_140, il_144, il_159, il_160, il_162, il_200, il_210, il_240, il_264, il_280, il_281, il_300, il_364, il_368, il_599, il_600, il_601, il_999, il_1610, il_1620, il_1800, il_4000, il_5000, il_7000, il_14500, il_58240, il_1000000, m1_e, nI_1, nI_add, pk_mul, pk_div, pk_sub, nI_clamp, nI_leI, nI_ltI, nI_eq, m1_lt, m1_le, m1_gt, m1_ge, m1_ne, m1_en, ix_nI, im_nI, and1, and3, sh2_, shr2, corner_nI, turned_nI]
    refine ⟨fun z => by omega, fun _ => c_mixInto pt1 y1 y6 _ ⟨_, rfl, ?_⟩⟩
    have := nx h1 rfl
    have e : dgr h1 B (p + 1) = mxc (ah_i h1 (B p + 1)) (ah_i h1 (B p + 2)) (31 * dgr h1 B p + (ah_f h1 (B p) 3).toInt64) n := by
      show mxc _ _ _ (ah_f h1 (B p) 2).toNatClampNeg = _
      rw [y1, nI_clamp (by omega)]
    rw [e] at this
    exact this
  · rintro h1 e
    subst e
    refine X11_digest_6 ?_
    simp (disch := omega) only [o0 K, hN, forall_eq, Option.some.injEq, exists_eq_left', Option.getD_some, Value.int.injEq, Value.long.injEq, not_true_eq_false, not_false_eq_true, false_implies, true_implies, forall_const, implies_true, and_true, true_and, Classical.not_not, il_0, il_1, il_2, il_3, il_4, il_5, il_6, il_7, il_8, il_9, il_10, il_11, il_12, il_13, il_14, il_15, il_16, il_17, il_18, il_19, il_20, il_24, il_30, il_31, il_38, il_39, il_40, il_41, il_48, il_50, il_59, il_60, il_63, il_64, il_70, il_80, il_99, il_100, il_120, il_130, il_140, il_144, il_159, il_160, il_162, il_200, il_210, il_240, il_264, il_280, il_281, il_300, il_364, il_368, il_599, il_600, il_601, il_999, il_1610, il_1620, il_1800, il_4000, il_5000, il_7000, il_14500, il_58240, il_1000000, m1_e, nI_1, nI_add, pk_mul, pk_div, pk_sub, nI_clamp, nI_leI, nI_ltI, nI_eq, m1_lt, m1_le, m1_gt, m1_ge, m1_ne, m1_en, ix_nI, im_nI, and1, and3, sh2_, shr2, corner_nI, turned_nI]
    refine ⟨fun _ => ?_, fun z => (by first | omega | exact absurd trivial z | exact z.elim | exact absurd rfl z)⟩
    have Kc : sp (cNo h1 (nI 0)) := K
    have q6 : ah_f (cNo h1 (nI 0)) 168 6 = nI N := by unfold cNo; rw [f_sf_n _ _ _ _ _ (by decide)]; exact hN2
    have ci : ah_i (cNo h1 (nI 0)) = ah_i h1 := i_cNo _ _
    have fin := D_no x (fcs_refl h1) (nI 0) (fms_refl _)
    change ex_S yX12_digest mX12_digest d [.ref 168] (cNo h1 (nI 0)) 0 0 _
    generalize cNo h1 (nI 0) = ha at Kc q6 ci fin ⊢
    refine X12_digest_e (X12_digest_0 ?_)
    refine lp N (fun p h' => h' = ha) (fun p h' => ex_G mX12_digest d 6 [.ref 168, .long (dgr h1 B p), .retAddr 0, .int (nI p), .retAddr 0, .retAddr 0] [] h' 0 0 _) rfl ?_ ?_
    · rintro p h2 hp e nx
      subst e
      obtain ⟨x1, x2, pt1, ww, ⟨n, l, y1, y2, y3, y4, y5, y6, y7, y8, y9⟩, hh⟩ := (hP p hp).2
      have hp36 : p < 368 := by omega
      have h40 := y6.1
      have z1 : ah_i h2 171 p = ah_f h1 (B p) 3 := by rw [ci, y5, y4]
      have z2 : ah_i h2 170 p = nI n := by rw [ci]; exact y2
      refine X12_digest_6 ?_
      simp (disch := omega) only [o168 Kc, q6, r168_3 Kc, s171 Kc, z1, hp36, forall_eq, Option.some.injEq, exists_eq_left', Option.getD_some, Value.int.injEq, Value.long.injEq, not_true_eq_false, not_false_eq_true, false_implies, true_implies, forall_const, implies_true, and_true, true_and, Classical.not_not, il_0, il_1, il_2, il_3, il_4, il_5, il_6, il_7, il_8, il_9, il_10, il_11, il_12, il_13, il_14, il_15, il_16, il_17, il_18, il_19, il_20, il_24, il_30, il_31, il_38, il_39, il_40, il_41, il_48, il_50, il_59, il_60, il_63, il_64, il_70, il_80, il_99, il_100, il_120, il_130, il_140, il_144, il_159, il_160, il_162, il_200, il_210, il_240, il_264, il_280, il_281, il_300, il_364, il_368, il_599, il_600, il_601, il_999, il_1610, il_1620, il_1800, il_4000, il_5000, il_7000, il_14500, il_58240, il_1000000, m1_e, nI_1, nI_add, pk_mul, pk_div, pk_sub, nI_clamp, nI_leI, nI_ltI, nI_eq, m1_lt, m1_le, m1_gt, m1_ge, m1_ne, m1_en, ix_nI, im_nI, and1, and3, sh2_, shr2, corner_nI, turned_nI]
      refine ⟨fun z => by omega, fun _ => ?_⟩
      refine lp n (fun c h' => h' = h2) (fun c h' => ex_G mX12_digest d 31 [.ref 168, .long (mxc (ah_i h1 (B p + 1)) (ah_i h1 (B p + 2)) (31 * dgr h1 B p + (ah_f h1 (B p) 3).toInt64) c), .retAddr 0, .int (nI p), .int (nI c), .retAddr 0] [] h' 0 0 _) rfl ?_ ?_
      · rintro c h3 hc e nx2
        subst e
        obtain ⟨l4, lle⟩ := PO_len y6 hc
        have zL : ah_i h3 172 (40 * p + c) = ah_i h1 (B p + 1) c := by rw [ci]; exact y7 c hc
        refine X12_digest_31 ?_
        simp (disch := omega) only [o168 Kc, r168_2 Kc, s170 Kc, z2, hp36, r168_4 Kc, s172 Kc, zL, forall_eq, Option.some.injEq, exists_eq_left', Option.getD_some, Value.int.injEq, Value.long.injEq, not_true_eq_false, not_false_eq_true, false_implies, true_implies, forall_const, implies_true, and_true, true_and, Classical.not_not, il_0, il_1, il_2, il_3, il_4, il_5, il_6, il_7, il_8, il_9, il_10, il_11, il_12, il_13, il_14, il_15, il_16, il_17, il_18, il_19, il_20, il_24, il_30, il_31, il_38, il_39, il_40, il_41, il_48, il_50, il_59, il_60, il_63, il_64, il_70, il_80, il_99, il_100, il_120, il_130, il_140, il_144, il_159, il_160, il_162, il_200, il_210, il_240, il_264, il_280, il_281, il_300, il_364, il_368, il_599, il_600, il_601, il_999, il_1610, il_1620, il_1800, il_4000, il_5000, il_7000, il_14500, il_58240, il_1000000, m1_e, nI_1, nI_add, pk_mul, pk_div, pk_sub, nI_clamp, nI_leI, nI_ltI, nI_eq, m1_lt, m1_le, m1_gt, m1_ge, m1_ne, m1_en, ix_nI, im_nI, and1, and3, sh2_, shr2, corner_nI, turned_nI]
        refine ⟨fun z => by omega, fun _ => ⟨by omega, ?_⟩⟩
        refine lp (ah_i h1 (B p + 1) c).toNatClampNeg (fun i h' => h' = h3) (fun i h' => ex_G mX12_digest d 65 [.ref 168, .long (mxr (ah_i h1 (B p + 2)) (4 * c) (31 * mxc (ah_i h1 (B p + 1)) (ah_i h1 (B p + 2)) (31 * dgr h1 B p + (ah_f h1 (B p) 3).toInt64) c + (ah_i h1 (B p + 1) c).toInt64) i), .retAddr 0, .int (nI p), .int (nI c), .int (nI i)] [] h' 0 0 _) rfl ?_ ?_
        · rintro i h4 hi e nx3
          subst e
          have hle := lle i (by omega)
          have zA : ah_i h4 173 (160 * p + 4 * c + i) = ah_i h1 (B p + 2) (4 * c + i) := by
            rw [ci, Nat.add_assoc]
            exact y8 _ (by omega)
          refine X12_digest_65 ?_
          simp (disch := omega) only [o168 Kc, r168_4 Kc, s172 Kc, zL, hle, r168_5 Kc, s173 Kc, zA, forall_eq, Option.some.injEq, exists_eq_left', Option.getD_some, Value.int.injEq, Value.long.injEq, not_true_eq_false, not_false_eq_true, false_implies, true_implies, forall_const, implies_true, and_true, true_and, Classical.not_not, il_0, il_1, il_2, il_3, il_4, il_5, il_6, il_7, il_8, il_9, il_10, il_11, il_12, il_13, il_14, il_15, il_16, il_17, il_18, il_19, il_20, il_24, il_30, il_31, il_38, il_39, il_40, il_41, il_48, il_50, il_59, il_60, il_63, il_64, il_70, il_80, il_99, il_100, il_120, il_130, il_140, il_144, il_159, il_160, il_162, il_200, il_210, il_240, il_264, il_280, il_281, il_300, il_364, il_368, il_599, il_600, il_601, il_999, il_1610, il_1620, il_1800, il_4000, il_5000, il_7000, il_14500, il_58240, il_1000000, m1_e, nI_1, nI_add, pk_mul, pk_div, pk_sub, nI_clamp, nI_leI, nI_ltI, nI_eq, m1_lt, m1_le, m1_gt, m1_ge, m1_ne, m1_en, ix_nI, im_nI, and1, and3, sh2_, shr2, corner_nI, turned_nI]
          exact ⟨by omega, fun z => by omega, fun _ => ⟨by omega, nx3 _ rfl⟩⟩
        · rintro h4 e
          subst e
          have hle := lle (ah_i h1 (B p + 1) c).toNatClampNeg (by omega)
          refine X12_digest_65 ?_
          simp (disch := omega) only [o168 Kc, r168_4 Kc, s172 Kc, zL, hle, forall_eq, Option.some.injEq, exists_eq_left', Option.getD_some, Value.int.injEq, Value.long.injEq, not_true_eq_false, not_false_eq_true, false_implies, true_implies, forall_const, implies_true, and_true, true_and, Classical.not_not, il_0, il_1, il_2, il_3, il_4, il_5, il_6, il_7, il_8, il_9, il_10, il_11, il_12, il_13, il_14, il_15, il_16, il_17, il_18, il_19, il_20, il_24, il_30, il_31, il_38, il_39, il_40, il_41, il_48, il_50, il_59, il_60, il_63, il_64, il_70, il_80, il_99, il_100, il_120, il_130, il_140, il_144, il_159, il_160, il_162, il_200, il_210, il_240, il_264, il_280, il_281, il_300, il_364, il_368, il_599, il_600, il_601, il_999, il_1610, il_1620, il_1800, il_4000, il_5000, il_7000, il_14500, il_58240, il_1000000, m1_e, nI_1, nI_add, pk_mul, pk_div, pk_sub, nI_clamp, nI_leI, nI_ltI, nI_eq, m1_lt, m1_le, m1_gt, m1_ge, m1_ne, m1_en, ix_nI, im_nI, and1, and3, sh2_, shr2, corner_nI, turned_nI]
          exact ⟨by omega, fun _ => nx2 _ rfl, fun z => (by first | omega | exact absurd trivial z | exact z.elim | exact absurd rfl z)⟩
      · rintro h3 e
        subst e
        refine X12_digest_31 ?_
        simp (disch := omega) only [o168 Kc, r168_2 Kc, s170 Kc, z2, hp36, forall_eq, Option.some.injEq, exists_eq_left', Option.getD_some, Value.int.injEq, Value.long.injEq, not_true_eq_false, not_false_eq_true, false_implies, true_implies, forall_const, implies_true, and_true, true_and, Classical.not_not, il_0, il_1, il_2, il_3, il_4, il_5, il_6, il_7, il_8, il_9, il_10, il_11, il_12, il_13, il_14, il_15, il_16, il_17, il_18, il_19, il_20, il_24, il_30, il_31, il_38, il_39, il_40, il_41, il_48, il_50, il_59, il_60, il_63, il_64, il_70, il_80, il_99, il_100, il_120, il_130, il_140, il_144, il_159, il_160, il_162, il_200, il_210, il_240, il_264, il_280, il_281, il_300, il_364, il_368, il_599, il_600, il_601, il_999, il_1610, il_1620, il_1800, il_4000, il_5000, il_7000, il_14500, il_58240, il_1000000, m1_e, nI_1, nI_add, pk_mul, pk_div, pk_sub, nI_clamp, nI_leI, nI_ltI, nI_eq, m1_lt, m1_le, m1_gt, m1_ge, m1_ne, m1_en, ix_nI, im_nI, and1, and3, sh2_, shr2, corner_nI, turned_nI]
        refine ⟨fun _ => ?_, fun z => (by first | omega | exact absurd trivial z | exact z.elim | exact absurd rfl z)⟩
        have := nx h3 rfl
        have e : dgr h1 B (p + 1) = mxc (ah_i h1 (B p + 1)) (ah_i h1 (B p + 2)) (31 * dgr h1 B p + (ah_f h1 (B p) 3).toInt64) n := by
          show mxc _ _ _ (ah_f h1 (B p) 2).toNatClampNeg = _
          rw [y1, nI_clamp (by omega)]
        rw [e] at this
        exact this
    · rintro h2 e
      subst e
      refine X12_digest_6 ?_
      simp (disch := omega) only [o168 Kc, q6, forall_eq, Option.some.injEq, exists_eq_left', Option.getD_some, Value.int.injEq, Value.long.injEq, not_true_eq_false, not_false_eq_true, false_implies, true_implies, forall_const, implies_true, and_true, true_and, Classical.not_not, il_0, il_1, il_2, il_3, il_4, il_5, il_6, il_7, il_8, il_9, il_10, il_11, il_12, il_13, il_14, il_15, il_16, il_17, il_18, il_19, il_20, il_24, il_30, il_31, il_38, il_39, il_40, il_41, il_48, il_50, il_59, il_60, il_63, il_64, il_70, il_80, il_99, il_100, il_120, il_130, il_140, il_144, il_159, il_160, il_162, il_200, il_210, il_240, il_264, il_280, il_281, il_300, il_364, il_368, il_599, il_600, il_601, il_999, il_1610, il_1620, il_1800, il_4000, il_5000, il_7000, il_14500, il_58240, il_1000000, m1_e, nI_1, nI_add, pk_mul, pk_div, pk_sub, nI_clamp, nI_leI, nI_ltI, nI_eq, m1_lt, m1_le, m1_gt, m1_ge, m1_ne, m1_en, ix_nI, im_nI, and1, and3, sh2_, shr2, corner_nI, turned_nI]
      exact ⟨fun _ => fin, fun z => (by first | omega | exact absurd trivial z | exact z.elim | exact absurd rfl z)⟩
end DIGEST
