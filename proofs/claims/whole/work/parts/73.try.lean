/-! Trying a move, on both sides. -/
/-- picture p0 is whole: n crossings, l loose circles -/
def WH (h : AH) (N : Nat) (B : Nat → Nat) (p0 n l : Nat) : Prop := p0 < N ∧ ah_f h (B p0) 2 = nI n ∧ n ≤ 40 ∧ l ≤ 9 ∧ (∃ pl, opn n (ah_i h (B p0 + 1)) (ah_i h (B p0 + 2)) 0 pl) ∧ cD h (B p0) n l (AN (ah_i h (B p0 + 2))) ∧ mD h p0 n l (AN (ah_i h (B p0 + 2))) ∧ Pr n (AN (ah_i h (B p0 + 2))) (mt n (AN (ah_i h (B p0 + 2))))
/-- picture p0 is open -/
def OP (h : AH) (N : Nat) (B : Nat → Nat) (p0 n : Nat) : Prop := p0 < N ∧ ah_f h (B p0) 2 = nI n ∧ n ≤ 40 ∧ ∃ r pl, r ≠ 0 ∧ opn n (ah_i h (B p0 + 1)) (ah_i h (B p0 + 2)) r pl
/-- move k0 -/
def MI (h : AH) (M k0 kd : Nat) (x1 x2 x3 : Int32) : Prop := k0 < M ∧ kd < 6 ∧ (∃ a, ah_q h 2 k0 = some a ∧ 216 ≤ a ∧ mo_ h a kd x1 x2 x3) ∧ ah_i h 197 (4 * k0) = nI kd ∧ ah_i h 197 (4 * k0 + 1) = x1 ∧ ah_i h 197 (4 * k0 + 2) = x2 ∧ ah_i h 197 (4 * k0 + 3) = x3
section TRY
variable {h h1 hz : AH} {d bc bs : Nat} {Q : Option Value → AH → Prop} {W : Nat → Nat} {N : Nat} {B : Nat → Nat} {S : Nat → Int32} {len : Nat}
theorem MI_ex (x : MV h W) : ∃ M, M ≤ 60 ∧ ah_f h 0 16 = nI M ∧ ah_f h 168 35 = nI M ∧ ∀ k0, k0 < M → ∃ kd x1 x2 x3, MI h M k0 kd x1 x2 x3 := by
  obtain ⟨M, h60, hM, hM2, hMv⟩ := x
  refine ⟨M, h60, hM, hM2, fun k0 hk => ?_⟩
  obtain ⟨a, kd, y1, y2, y3, y4, y5, y6, y7, y8, y9, y10⟩ := hMv k0 hk
  exact ⟨kd, ah_f h a 1, ah_f h a 2, ah_f h a 3, hk, y5, ⟨a, y1, y2, y3, y6, rfl, rfl, rfl⟩, y7, y8, y9, y10⟩
/-- a look at picture p0 by Look b: open, or whole -/
theorem c_look (x : R1 h W N B S len) {p0 b : Nat} (hp : p0 < N) (hb : b = 7 ∨ b = 18)
    (k0 : ∀ h1 n, OP h N B p0 n → fr (lkc b) h h1 → Q (some (.int (nI 0))) h1)
    (k1 : ∀ h1 n l, WH h N B p0 n l → fr (lkc b) h h1 → ah_f h1 b 10 = nI n → ah_f h1 b 11 = nI l → LF h1 b n (mt n (AN (ah_i h (B p0 + 2)))) → Q (some (.int (nI 1))) h1) : ex_S yX11_isWhole mX11_isWhole (d + 4) [.ref 0, .int (nI p0), .ref b] h bc bs Q := by
  refine c_isWhole x hp hb (fun h1 n r pl hn h40 Lp => ?_)
  obtain ⟨F, l1, l2, l3, l4, O, LFh⟩ := Lp
  by_cases r0 : r = 0
  · rw [if_pos r0]
    obtain ⟨l, hl9, hl, C, M⟩ := rp_whole ((x.2.2.2.1.2.2.2 p0 hp).2.2.2.2.2.1) hn h40 O r0
    subst r0
    exact k1 h1 n l ⟨hp, hn, h40, hl9, ⟨pl, O⟩, C, M, (opn_0 O).2.2.1.mt⟩ F l1 (by rw [l2]; exact hl) (LFh rfl)
  · rw [if_neg r0]
    exact k0 h1 n ⟨hp, hn, h40, r, pl, r0, O⟩ F
theorem lk7' {b : Nat} (hb : b = 7 ∨ b = 18) (K : sp h) : lk h b := by
  rcases hb with z | z
  · rw [z]; exact lk7 K
  · rw [z]; exact lk18 K
theorem pt29 (K : sp h) : pt h 29 := ⟨by decide, o29 K, r29_0 K, r29_1 K, sp_x K 30 (by decide) rfl, sp_x K 31 (by decide) rfl⟩
/-- the draft takes a picture that is whole; the context in which moves are done -/
theorem c_draft (x : R1 h W N B S len) {p0 n l : Nat} (wh : WH h N B p0 n l) (F : fr (lkc 7) h h1) (l1 : ah_f h1 7 10 = nI n) (LFh : LF h1 7 n (mt n (AN (ah_i h (B p0 + 2))))) (k : ∀ h2, fr [29, 30, 31] h1 h2 → DC h2 29 7 n l (AN (ah_i h (B p0 + 2))) (mt n (AN (ah_i h (B p0 + 2)))) → RG n (mt n (AN (ah_i h (B p0 + 2)))) (ah_i h2 9) (ah_i h2 10) → Q none h2) : ex_S yX7_take mX7_take (d + 1) [.ref 29, .ref (B p0)] h1 bc bs Q := by
  obtain ⟨hp, hn, h40, h9, -, C, -, R⟩ := wh
  obtain ⟨h24, hN, hN2, hP⟩ := x.2.2.2.1
  obtain ⟨x1, x2, pt1, -, -, -⟩ := (hP p0 hp).2
  have K1 := sp_fr x.1 F
  refine c_take (pt29 K1) (pt_fr pt1 F) (by omega) (fun h2 F2 g0 g1 g2 => ?_)
  have C1 : cD h1 (B p0) n l (AN (ah_i h (B p0 + 2))) := cD_sc C F ⟨lkc_no (by omega), lkc_no (by omega), lkc_no (by omega)⟩
  obtain ⟨d0, d1, d2, d3⟩ := C1
  have K2 := sp_fr K1 F2
  refine k h2 F2 ⟨pt29 K2, lk7 K2, Or.inr (by omega), ⟨?_, ?_, fun c hc => ?_, fun e he => ?_⟩, ?_, fun e he => ?_, h40, h9, R⟩ ?_
  · rw [g0, u1_n _ _ (by decide), u1_s]; exact d0
  · rw [g0, u1_s]; exact d1
  · rw [g1, pk_cpy_in (by omega) (by omega), Nat.sub_zero, Nat.zero_add]; exact d2 c hc
  · rw [g2, pk_cpy_in (by omega) (by omega), Nat.sub_zero, Nat.zero_add]; exact d3 e he
  · rw [fr_f F2 7 (by decide)]; exact l1
  · rw [fr_i F2 8 (by decide)]; exact LFh.1 e he
  · rw [fr_i F2 9 (by decide), fr_i F2 10 (by decide)]; exact LFh.2.2.1
theorem c_tryMove (x : R1 h W N B S len) {M : Nat} (h60 : M ≤ 60) (hM : ah_f h 0 16 = nI M) (hMI : ∀ k0, k0 < M → ∃ kd x1 x2 x3, MI h M k0 kd x1 x2 x3) (p m : Int32)
    (kbad : (¬ ix p N ∨ ¬ ix m M) → Q (some (.int (-nI 2))) h)
    (kopen : ∀ p0 m0 n h1, p = nI p0 → m = nI m0 → m0 < M → OP h N B p0 n → fcs h h1 → Q (some (.int (-nI 13))) h1)
    (kyes : ∀ p0 m0 n l kd x1 x2 x3 f n' l' A' h1, p = nI p0 → m = nI m0 → WH h N B p0 n l → MI h M m0 kd x1 x2 x3 → mvr n l (AN (ah_i h (B p0 + 2))) (mt n (AN (ah_i h (B p0 + 2)))) kd x1 x2 x3 f n' l' A' → OK f n' l' A' → fcs h h1 → (f = 0 → cD h1 29 n' l' A') → Q (some (.int (ans f))) h1) : ex_S yX11_tryMove mX11_tryMove (d + 5) [.ref 0, .int p, .int m] h bc bs Q := by
  have K := x.1
  obtain ⟨h24, hN, hN2, hP⟩ := x.2.2.2.1
  have hv := hasP (p := p) hN h24
  have hw := hasM (p := m) hM h60
  refine X11_tryMove_e (X11_tryMove_0 ⟨o0 K, hasPC K p, fun z => kbad (Or.inl (hv.mp z)), fun z => ⟨hasMC K m, fun y => ⟨7, r0_4 K, ?_⟩, fun y => kbad (Or.inr (hw.mp y))⟩⟩)
  obtain ⟨p0, hp0, ep⟩ := ix_of (Classical.not_not.mp (fun w => z (hv.mpr w))) (by omega)
  obtain ⟨m0, hm0, em⟩ := ix_of (Classical.not_not.mp (fun w => y (hw.mpr w))) (by omega)
  rw [ep, em]
  refine c_look x hp0 (Or.inl rfl) (fun h1 n op F => ⟨_, rfl, fun w => absurd rfl w, fun _ => kopen p0 m0 n h1 ep em hm0 op (fcs_fr F lkc7)⟩) (fun h1 n l wh F l1 l2 LFh => ⟨_, rfl, fun _ => ?_, fun w => absurd w (by decide)⟩)
  have K1 := sp_fr K F
  have hq1 : ah_q h1 1 p0 = some (B p0) := by rw [F.1.2.2.2]; exact (hP p0 hp0).1
  refine ⟨o0 K1, 29, r0_6 K1, 1, r0_0 K1, (s1 K1 _).mpr ((ix_nI (by omega)).mpr (by omega)), B p0, by rw [nI_clamp (by omega)]; exact hq1, o29 K1, c_draft (d := d + 3) x wh F l1 LFh (fun h2 F2 X G => ⟨rfl, ?_⟩)⟩
  obtain ⟨kd, x1, x2, x3, mi⟩ := hMI m0 hm0
  obtain ⟨-, hkd, ⟨a, qa, a216, mo⟩, -⟩ := id mi
  have K2 := sp_fr K1 F2
  have mo2 : mo_ h2 a kd x1 x2 x3 := mo_fr (mo_fr mo F (lkc_no (by omega))) F2 (by simp only [List.mem_cons, List.not_mem_nil, or_false]; omega)
  have qa2 : ah_q h2 2 m0 = some a := by rw [F2.1.2.2.2, F.1.2.2.2]; exact qa
  obtain ⟨f, n', l', A', MM, ok⟩ := mvr_ex (kd := kd) wh.2.2.2.2.2.2.2 wh.2.2.1 wh.2.2.2.1 hkd x1 x2 x3
  refine ⟨o0 K2, 2, r0_1 K2, (s2 K2 _).mpr ((ix_nI (by omega)).mpr (by omega)), a, by rw [nI_clamp (by omega)]; exact qa2, 29, r0_6 K2, 7, r0_4 K2, mo2.1, c_applyTo X G mo2 (by simp only [List.mem_cons, List.not_mem_nil, or_false]; omega) MM (fun h3 F3 D3 => ⟨_, rfl, ?_⟩)⟩
  exact kyes p0 m0 n l kd x1 x2 x3 f n' l' A' h3 ep em wh mi MM ok (fcs_trans (fcs_fr F lkc7) (fcs_trans (fcs_fr F2 (by decide)) (fcs_fr F3 (by decide)))) D3
theorem c_tryUndoing (x : R1 h W N B S len) {M : Nat} (h60 : M ≤ 60) (hM : ah_f h 0 16 = nI M) (hMI : ∀ k0, k0 < M → ∃ kd x1 x2 x3, MI h M k0 kd x1 x2 x3) (p m : Int32)
    (kbad : (¬ ix p N ∨ ¬ ix m M) → Q (some (.int (-nI 2))) h)
    (kunf : ∀ p0 m0 x1 x2 x3, p = nI p0 → p0 < N → m = nI m0 → MI h M m0 4 x1 x2 x3 → Q (some (.int (-nI 14))) h)
    (kopen : ∀ p0 m0 n kd x1 x2 x3 h1, p = nI p0 → m = nI m0 → MI h M m0 kd x1 x2 x3 → kd ≠ 4 → OP h N B p0 n → fcs h h1 → Q (some (.int (-nI 13))) h1)
    (kyes : ∀ p0 m0 n l kd x1 x2 x3 f n' l' A' h1, p = nI p0 → m = nI m0 → WH h N B p0 n l → MI h M m0 kd x1 x2 x3 → kd ≠ 4 → mvw n l (AN (ah_i h (B p0 + 2))) (mt n (AN (ah_i h (B p0 + 2)))) kd x1 x2 f n' l' A' → OK f n' l' A' → fcs h h1 → (f = 0 → cD h1 29 n' l' A') → Q (some (.int (ans f))) h1) : ex_S yX11_tryUndoing mX11_tryUndoing (d + 5) [.ref 0, .int p, .int m] h bc bs Q := by
  have K := x.1
  obtain ⟨h24, hN, hN2, hP⟩ := x.2.2.2.1
  have hv := hasP (p := p) hN h24
  have hw := hasM (p := m) hM h60
  refine X11_tryUndoing_e (X11_tryUndoing_0 ⟨o0 K, hasPC K p, fun z => kbad (Or.inl (hv.mp z)), fun z => ⟨hasMC K m, fun y => ⟨2, r0_1 K, ?_⟩, fun y => kbad (Or.inr (hw.mp y))⟩⟩)
  obtain ⟨p0, hp0, ep⟩ := ix_of (Classical.not_not.mp (fun w => z (hv.mpr w))) (by omega)
  obtain ⟨m0, hm0, em⟩ := ix_of (Classical.not_not.mp (fun w => y (hw.mpr w))) (by omega)
  rw [ep, em]
  obtain ⟨kd, x1, x2, x3, mi⟩ := hMI m0 hm0
  obtain ⟨-, hkd, ⟨a, qa, a216, mo⟩, -⟩ := id mi
  refine ⟨(s2 K _).mpr ((ix_nI (by omega)).mpr (by omega)), a, by rw [nI_clamp (by omega)]; exact qa, mo.1, ⟨mo.1, trivial⟩, ?_⟩
  have cu : X5_canBeUndone_V a h = 0 ↔ kd = 4 := by
    unfold X5_canBeUndone_V
    rw [mo.2.1]
    have c4 : nI kd = 4 ↔ kd = 4 := nI_eq (b := 4) (by omega) (by omega)
    by_cases q : kd = 4
    · rw [if_pos (c4.mpr q)]; exact ⟨fun _ => q, fun _ => rfl⟩
    · rw [if_neg (fun w => q (c4.mp w))]; exact ⟨fun w => absurd w (by decide), fun w => absurd w q⟩
  rw [cu]
  refine ⟨fun k4 => ⟨7, r0_4 K, ?_⟩, fun k4 => ?_⟩
  · refine c_look x hp0 (Or.inl rfl) (fun h1 n op F => ⟨_, rfl, fun w => absurd rfl w, fun _ => kopen p0 m0 n kd x1 x2 x3 h1 ep em mi k4 op (fcs_fr F lkc7)⟩) (fun h1 n l wh F l1 l2 LFh => ⟨_, rfl, fun _ => ?_, fun w => absurd w (by decide)⟩)
    have K1 := sp_fr K F
    have hq1 : ah_q h1 1 p0 = some (B p0) := by rw [F.1.2.2.2]; exact (hP p0 hp0).1
    refine ⟨o0 K1, 29, r0_6 K1, 1, r0_0 K1, (s1 K1 _).mpr ((ix_nI (by omega)).mpr (by omega)), B p0, by rw [nI_clamp (by omega)]; exact hq1, o29 K1, c_draft (d := d + 3) x wh F l1 LFh (fun h2 F2 X G => ⟨rfl, ?_⟩)⟩
    have K2 := sp_fr K1 F2
    have mo2 : mo_ h2 a kd x1 x2 x3 := mo_fr (mo_fr mo F (lkc_no (by omega))) F2 (by simp only [List.mem_cons, List.not_mem_nil, or_false]; omega)
    have qa2 : ah_q h2 2 m0 = some a := by rw [F2.1.2.2.2, F.1.2.2.2]; exact qa
    obtain ⟨f, n', l', A', MM, ok⟩ := mvw_ex (kd := kd) wh.2.2.2.2.2.2.2 wh.2.2.1 wh.2.2.2.1 hkd k4 x1 x2
    refine ⟨o0 K2, 2, r0_1 K2, (s2 K2 _).mpr ((ix_nI (by omega)).mpr (by omega)), a, by rw [nI_clamp (by omega)]; exact qa2, 29, r0_6 K2, 7, r0_4 K2, mo2.1, c_withdraw X mo2 (by simp only [List.mem_cons, List.not_mem_nil, or_false]; omega) MM (fun h3 F3 D3 => ⟨_, rfl, ?_⟩)⟩
    exact kyes p0 m0 n l kd x1 x2 x3 f n' l' A' h3 ep em wh mi k4 MM ok (fcs_trans (fcs_fr F lkc7) (fcs_trans (fcs_fr F2 (by decide)) (fcs_fr F3 (by decide)))) D3
  · subst k4
    exact kunf p0 m0 x1 x2 x3 ep hp0 em mi
/-! the reference's -/
theorem m_refusalS {p n r : Nat} {pl : Int32} {L A : Nat → Int32} (K : sp h) (hN2 : ah_f h 168 6 = nI N) (h24 : N ≤ 24) (hp : p < N) (hn : ah_i h 170 p = nI n) (O : PO n L A) (hL : ∀ c, c < n → ah_i h 172 (40 * p + c) = L c) (hA : ∀ e, e < 4 * n → ah_i h 173 (160 * p + e) = A e) (o : opn n L A r pl)
    (k0 : r = 0 → ∀ h', fms h h' → fr [168, 176, 177, 178, 179, 180] h h' → (∀ e, e < 4 * n → ah_i h' 176 e = nI (mt n (AN A) e)) → Q (some (.int (nI 0))) h')
    (k1 : r ≠ 0 → ∀ h', fms h h' → Q (some (.int (-nI 13))) (mF h' 3)) : ex_S yX12_refusal mX12_refusal (d + 4) [.ref 168, .int (nI p)] h bc bs Q := by
  have hip : ix (nI p) N := (ix_nI (by omega)).mpr hp
  refine X12_refusal_e (X12_refusal_0 ?_)
  simp only [o168 K, isPC K, isP_ hN2 h24, hip, not_true_eq_false, not_false_eq_true, false_implies, true_implies, forall_const, implies_true, and_true, true_and, Classical.not_not, il_0, il_1, il_2, il_3, il_4, il_5, il_6, il_7, il_8, il_9, il_10, il_11, il_12, il_13, il_14, il_15, il_16, il_17, il_18, il_19, il_20, il_24, il_30, il_31, il_38, il_39, il_40, il_41, il_48, il_50, il_59, il_60, il_63, il_64, il_70, il_80, il_99, il_100, il_120, il_130, il_140, il_144, il_159, il_160, il_162, il_200, il_210, il_240, il_264, il_280, il_281, il_300, il_364, il_368, il_599, il_600, il_601, il_999, il_1610, il_1620, il_1800, il_4000, il_5000, il_7000, il_14500, il_58240, il_1000000]
  refine m_openOf K (by omega) hn O hL hA (fun h' r2 pl2 F f1 f2 f3 f4 => ⟨_, rfl, ?_⟩)
  have hr := (opn_u o f3).1
  subst hr
  have hrl := opn_le o
  have K' := sp_fr K F
  by_cases z : r = 0
  · subst z
    exact ⟨fun _ => k0 rfl h' (fms_open F f1) F (f4 rfl), fun w => absurd ((nI_leI (a := 0) (b := 0) (by omega) (by omega)).mpr (Nat.le_refl 0)) w⟩
  · refine ⟨fun w => ?_, fun _ => ⟨o168 K', meC K' (f := 3) (by decide), fun h9 e9 => ?_⟩⟩
    · have w' : nI r ≤ nI 0 := w
      rw [nI_leI (by omega) (by omega)] at w'
      omega
    · have e10 : h9 = mF h' 3 := e9.trans (meH K' (f := 3) (by decide))
      rw [e10]
      exact k1 z h' (fms_open F f1)
end TRY
