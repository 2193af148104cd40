/-! tried; may, does, undoes. -/
theorem fp_repl {h h1 : AH} {p : Nat} {W : Nat → Nat} (F : fr [170, 171, 172, 173, 174] h h1) (s : ∀ s, s ≠ p → ¬ (24 + 10 * p ≤ s ∧ s < 34 + 10 * p) → sl h h1 s) (q : ∀ q, q ≠ p → ah_i h1 174 q = ah_i h 174 q) : fp p W h h1 := ⟨⟨by rw [F.1.1]; exact Nat.le_refl _, fun a ha => eqc_fr F (fun q => by have := (by decide : ∀ a, a ∈ [170, 171, 172, 173, 174] → a < 216) a q; omega)⟩, fun a _ _ z _ z4 _ _ _ => eqc_fr F (fun q => by
  have := (by decide : ∀ a, a ∈ [170, 171, 172, 173, 174] → a ∈ Mscr ∨ a = 174) a q
  rcases this with w | w
  · exact z w
  · exact z4 w), fun k _ _ _ => by rw [fr_f F 0 (by decide)], fun k _ _ _ _ => by rw [fr_f F 168 (by decide)], fun K => sp_fr K F, fun x => LAC_q x F.1.2.2.1 F.1.2.2.2, fun t _ t2 t3 => s t t2 t3, q⟩
section TRIED
variable {h h1 h4 hz : AH} {d bc bs : Nat} {Q : Option Value → AH → Prop} {W : Nat → Nat} {N : Nat} {B : Nat → Nat} {S : Nat → Int32} {len : Nat} {M : Nat}
theorem fms_copy {h h' : AH} (F : fr [170, 171, 172, 173] h h') (s : ∀ u, u ≠ 364 → sl h h' u) : fms h h' := fms_fr F (by decide) (fun k _ => by rw [fr_f F 168 (by decide)]) (fun u hu => s u (by omega))
theorem m_ref_whole {p0 n l : Nat} (wh : WH h N B p0 n l) (K : sp hz) (hN2 : ah_f hz 168 6 = nI N) (h24 : N ≤ 24) (sl_ : sl h hz p0) (k : ∀ h', fms hz h' → (∀ e, e < 4 * n → ah_i h' 176 e = nI (mt n (AN (ah_i h (B p0 + 2))) e)) → Q (some (.int (nI 0))) h') : ex_S yX12_refusal mX12_refusal (d + 4) [.ref 168, .int (nI p0)] hz bc bs Q := by
  obtain ⟨hp, hn, h40, h9, ⟨pl, O⟩, C, M, R⟩ := wh
  have D := mD_sl M h40 sl_
  refine m_refusalS (L := ah_i h (B p0 + 1)) (A := ah_i h (B p0 + 2)) K hN2 h24 hp D.1 ⟨h40, fun c hc => Or.inr ⟨4, by omega, C.2.2.1 c hc⟩, fun e he => Or.inr ⟨_, R.A100 he, C.2.2.2 e he⟩⟩ (fun c hc => by rw [D.2.2.1 c hc, C.2.2.1 c hc]) (fun e he => by rw [D.2.2.2 e he, C.2.2.2 e he]) O (fun _ h' G _ g => k h' G g) (fun w => absurd rfl w)
theorem m_ref_open {p0 n : Nat} (x : R1 h W N B S len) (op : OP h N B p0 n) (K : sp hz) (hN2 : ah_f hz 168 6 = nI N) (sl_ : sl h hz p0) (k : ∀ h', fms hz h' → Q (some (.int (-nI 13))) (mF h' 3)) : ex_S yX12_refusal mX12_refusal (d + 4) [.ref 168, .int (nI p0)] hz bc bs Q := by
  obtain ⟨hp, hn, h40, r, pl, r0, O⟩ := op
  obtain ⟨h24, hN, -, hP⟩ := x.2.2.2.1
  obtain ⟨-, -, -, -, ⟨n', l, y1, y2, y3, y4, y5, y6, y7, y8, y9⟩, -⟩ := (hP p0 hp).2
  have en : n' = n := by
    have := y6.1
    rw [y1, nI_eq (by omega) (by omega)] at hn
    exact hn
  subst en
  exact m_refusalS K hN2 h24 hp (by rw [sl_.1]; exact y2) y6 (fun c hc => by rw [sl_.2.2.1 c (by omega)]; exact y7 c hc) (fun e he => by rw [sl_.2.2.2 e (by omega)]; exact y8 e he) O (fun w => absurd w r0) (fun _ h' G => k h' G)
theorem m_tried_bad {p m : Int32} (K : sp hz) (hN2 : ah_f hz 168 6 = nI N) (h24 : N ≤ 24) (hM2 : ah_f hz 168 35 = nI M) (h60 : M ≤ 60) (u : Int32) (bad : ¬ ix p N ∨ ¬ ix m M) (k : Q (some (.int (-nI 2))) (mNo hz (-nI 2))) : ex_S yX12_tried mX12_tried (d + 5) [.ref 168, .int p, .int m, .int u] hz bc bs Q := by
  have hv := isP_ (p := p) hN2 h24
  have hw := isM_ (p := m) hM2 h60
  have fin : X12_no_C 168 (-2) hz ∧ ∀ h5, h5 = X12_no_H 168 (-2) hz → Q (some (.int (X12_no_V 168 (-2) hz))) h5 := ⟨noC K _, fun h5 e5 => by rw [e5]; exact k⟩
  refine X12_tried_e (X12_tried_0 ⟨o168 K, isPC K p, fun _ => fin, fun z => ⟨isMC K m, fun y => ?_, fun _ => fin⟩⟩)
  rcases bad with q | q
  · exact absurd (hv.mpr q) z
  · exact absurd (hw.mpr q) y
theorem m_tried_go {p0 m0 kd u : Nat} (K : sp hz) (hN2 : ah_f hz 168 6 = nI N) (h24 : N ≤ 24) (hM2 : ah_f hz 168 35 = nI M) (h60 : M ≤ 60) (hp : p0 < N) (hm : m0 < M) (hu : u < 2) (ek : ah_i hz 197 (4 * m0) = nI kd) (hk : kd < 6) (k1 : u = 1 → kd = 4 → Q (some (.int (-nI 14))) (mF hz 4)) (k : (u = 1 → kd ≠ 4) → ex_G mX12_tried (d + 5) 49 [.ref 168, .int (nI p0), .int (nI m0), .int (nI u), .int (nI kd), .retAddr 0, .retAddr 0] [] hz bc bs Q) : ex_S yX12_tried mX12_tried (d + 5) [.ref 168, .int (nI p0), .int (nI m0), .int (nI u)] hz bc bs Q := by
  have hv := isP_ (p := nI p0) hN2 h24
  have hw := isM_ (p := nI m0) hM2 h60
  have ip : ix (nI p0) N := (ix_nI (by omega)).mpr hp
  have im : ix (nI m0) M := (ix_nI (by omega)).mpr hm
  have u0 : nI u = 0 ↔ u = 0 := nI_eq (b := 0) (by omega) (by omega)
  have k4 : nI kd = 4 ↔ kd = 4 := nI_eq (b := 4) (by omega) (by omega)
  have e4 : (4 : Int32) * nI m0 = nI (4 * m0) := pk_mul 4 m0
  refine X12_tried_e (X12_tried_0 ⟨o168 K, isPC K _, fun z => absurd ip (hv.mp z), fun z => ⟨isMC K _, fun y => ⟨197, r168_36 K, ?_⟩, fun y => absurd im (hw.mp y)⟩⟩)
  rw [e4, s197 K, ix_nI (by omega), nI_clamp (by omega), ek]
  refine ⟨by omega, fun x10 e10 => ?_⟩
  subst e10
  rw [u0, k4]
  refine ⟨fun w => k (fun z => by omega), fun w => ⟨fun w4 => k (fun _ => w4), fun w4 => ⟨meC K (f := 4) (by decide), fun h14 e14 => ?_⟩⟩⟩
  rw [e14.trans (meH K (f := 4) (by decide))]
  exact k1 (by omega) w4
/-- behind the look: the move on the spare slot -/
theorem m_tried_yes {p0 m0 kd u n l f n' l' : Nat} {x1 x2 x3 : Int32} {A' : Nat → Nat} (wh : WH h N B p0 n l) (K : sp hz) (hN2 : ah_f hz 168 6 = nI N) (h24 : N ≤ 24) (hm : m0 < 60) (hu : u < 2) (sl_ : sl h hz p0) (e1 : ah_i hz 197 (4 * m0 + 1) = x1) (e2 : ah_i hz 197 (4 * m0 + 2) = x2) (e3 : ah_i hz 197 (4 * m0 + 3) = x3)
    (MM : (u = 0 ∧ mvr n l (AN (ah_i h (B p0 + 2))) (mt n (AN (ah_i h (B p0 + 2)))) kd x1 x2 x3 f n' l' A') ∨ (u = 1 ∧ mvw n l (AN (ah_i h (B p0 + 2))) (mt n (AN (ah_i h (B p0 + 2)))) kd x1 x2 f n' l' A')) (ok : OK f n' l' A')
    (k0 : f = 0 → ∀ h', fms hz h' → mD h' 364 n' l' A' → Q (some (.int (nI 0))) h') (k1 : f ≠ 0 → ∀ h', fms hz h' → Q (some (.int (-nI (10 + f)))) (mF h' f)) : ex_G mX12_tried (d + 5) 49 [.ref 168, .int (nI p0), .int (nI m0), .int (nI u), .int (nI kd), .retAddr 0, .retAddr 0] [] hz bc bs Q := by
  have u0 : nI u = 0 ↔ u = 0 := nI_eq (b := 0) (by omega) (by omega)
  have f9 : f ≤ 9 := by rcases ok.1 with q | q | q <;> omega
  refine X12_tried_49 ⟨o168 K, m_ref_whole wh K hN2 h24 sl_ (fun h1 G1 g1 => ⟨_, rfl, fun _ => ⟨o168 (G1.2.2.1 K), ?_⟩, fun w => absurd (show (0 : Int32) ≤ nI 0 by decide) w⟩)⟩
  have K1 := G1.2.2.1 K
  have D1 := mD_sl (mD_sl wh.2.2.2.2.2.2.1 wh.2.2.1 sl_) wh.2.2.1 (G1.2.2.2.2 p0 (by have := wh.1; omega))
  have hp36 : p0 < 368 := by have := wh.1; omega
  refine m_copyS K1 hp36 (t := 364) (by decide) (by have := wh.1; omega) D1.1 wh.2.2.1 (fun h5 F5 s5 c5 => ⟨rfl, ?_⟩)
  have K5 := sp_fr K1 F5
  have X : MC h5 n l (AN (ah_i h (B p0 + 2))) (mt n (AN (ah_i h (B p0 + 2)))) := ⟨K5, mD_sC D1 wh.2.2.1 c5, fun e he => by rw [fr_i F5 176 (by decide)]; exact g1 e he, wh.2.2.1, wh.2.2.2.1, wh.2.2.2.2.2.2.2⟩
  have G5 : fms hz h5 := fms_trans G1 (fms_copy F5 s5)
  have r5 : ah_i h5 197 = ah_i hz 197 := (G5.2.1 197 (by decide)).2.2.1
  have e4 : (4 : Int32) * nI m0 = nI (4 * m0) := pk_mul 4 m0
  have t1 : nI (4 * m0) + 1 = nI (4 * m0 + 1) := nI_add _ 1
  have t2 : nI (4 * m0) + 2 = nI (4 * m0 + 2) := nI_add _ 2
  have t3 : nI (4 * m0) + 3 = nI (4 * m0 + 3) := nI_add _ 3
  have fin : ∀ h', fS 364 h5 h' → (f = 0 → mD h' 364 n' l' A') → ex_G mX12_tried (d + 5) 141 [.ref 168, .retAddr 0, .retAddr 0, .retAddr 0, .retAddr 0, .retAddr 0, .retAddr 0] [.int (nI f)] h' bc bs Q := by
    intro h' F D
    have G' := fms_trans G5 (fS_fms F)
    have K' := fS_sp K5 F
    have l0 : nI f ≤ 0 ↔ f ≤ 0 := nI_leI (b := 0) (by omega) (by omega)
    refine X12_tried_141 ?_
    rw [l0]
    refine ⟨fun w => k0 (by omega) h' G' (D (by omega)), fun w => ⟨o168 K', meC K' f9, fun h4 e4 => ?_⟩⟩
    rw [e4.trans (meH K' f9), meV]
    exact k1 (by omega) h' G'
  rw [u0, e4, t1, t2, t3]
  rcases MM with ⟨eu, MM⟩ | ⟨eu, MM⟩
  · refine ⟨fun _ => ⟨o168 K5, 197, r168_36 K5, ?_⟩, fun w => absurd eu w⟩
    rw [s197 K5, s197 K5, s197 K5, ix_nI (by omega), ix_nI (by omega), ix_nI (by omega), nI_clamp (by omega), nI_clamp (by omega), nI_clamp (by omega), r5, e1, e2, e3]
    exact ⟨by omega, by omega, by omega, m_moved X MM (fun h' F D => ⟨_, rfl, fin h' F D⟩)⟩
  · refine ⟨fun w => by omega, fun _ => ⟨o168 K5, 197, r168_36 K5, ?_⟩⟩
    rw [s197 K5, s197 K5, ix_nI (by omega), ix_nI (by omega), nI_clamp (by omega), nI_clamp (by omega), r5, e1, e2]
    exact ⟨by omega, by omega, m_unmoved (d := d + 1) X MM (fun h' F D => ⟨_, rfl, fin h' F D⟩)⟩
theorem m_tried_open {p0 m0 kd u n : Nat} (x : R1 h W N B S len) (op : OP h N B p0 n) (K : sp hz) (hN2 : ah_f hz 168 6 = nI N) (sl_ : sl h hz p0) (k : ∀ h', fms hz h' → Q (some (.int (-nI 13))) (mF h' 3)) : ex_G mX12_tried (d + 5) 49 [.ref 168, .int (nI p0), .int (nI m0), .int (nI u), .int (nI kd), .retAddr 0, .retAddr 0] [] hz bc bs Q :=
  X12_tried_49 ⟨o168 K, m_ref_open x op K hN2 sl_ (fun h1 G1 => ⟨_, rfl, fun w => absurd w (show ¬ (0 : Int32) ≤ -nI 13 by decide), fun _ => k h1 G1⟩)⟩
/-- replaced, behind scratch work, and the call's end -/
theorem m_replW {p n l n' l' hc nx T : Nat} {A A' : Nat → Nat} {h13 : AH} (x : R0 h W N B S len) (hp0 : p < N) (h40 : n ≤ 40) (h40' : n' ≤ 40) (Mold : mD h p n l A) (C : CS h h4 W p (B p) n l n' l' A A' hc nx T) (G : fms h4 h13) (D13 : mD h13 364 n' l' A') (k : ∀ h9, RP W h4 (mNo h9 (nI 0)) p n l n' l' A A' hc → sp h9 → Q none h9) : ex_S yX12_replaced mX12_replaced (d + 1) [.ref 168, .int (nI p), .int 364] h13 bc bs Q := by
  obtain ⟨h24, hN, hN2, hP⟩ := x.2.2.2.2.1
  obtain ⟨x1, x2, pt1, ⟨w0, w1, w2⟩, -, hh⟩ := (hP p hp0).2
  obtain ⟨C1, C2, -, ⟨C5, C6, C7, C8⟩, -, -, -, -, -, C22⟩ := C
  obtain ⟨hc', nx', a1, a2, a3, a4, a5, a6⟩ := hh
  have eh : hc' = hc := by
    have := a4.symm.trans C7
    rw [nI_eq (by omega) (by omega)] at this
    exact this
  subst eh
  have K4 : sp h4 := C1.2.2.2.2.1 x.2.1
  have K13 := G.2.2.1 K4
  have e4 : ∀ a, 167 ≤ a → a < 216 → eqc h h4 a := C22
  have s13 : ∀ s, s < 364 → sl h h13 s := fun s hs => sl_trans (sl_of s (e4 170 (by decide) (by decide)).2.2.1 (e4 171 (by decide) (by decide)).2.2.1 (e4 172 (by decide) (by decide)).2.2.1 (e4 173 (by decide) (by decide)).2.2.1) (G.2.2.2.2 s hs)
  have p174 : ah_i h13 174 = ah_i h 174 := by rw [(G.2.1 174 (by decide)).2.2.1, (e4 174 (by decide) (by decide)).2.2.1]
  refine m_replaced K13 (by omega) (by rw [p174]; exact a3) a1 (mD_sl Mold h40 (s13 p (by omega))) h40 D13 h40' (fun k hk => ?_) (fun h9 F s9 q9 v9 d9 d9' c9 => k h9 ⟨fp_trans (fp_fms G) (fp_trans (fp_repl F s9 q9) (fp_f168 (by omega))), ?_, fun a ha => ?_, fun k hk => ?_, ?_, ?_, ?_, fun j hj => ?_⟩ (sp_fr K13 F))
  · rcases a6 with a6 | ⟨T, t1, t2, t3, t4, t5, t6⟩
    · omega
    · obtain ⟨nk, lk_, y1, y2, y3, y4, -⟩ := t6 k hk
      exact ⟨nk, y1, by rw [(s13 _ (by omega)).1]; exact y4⟩
  · rw [n_mNo, F.1.1, G.1]
  · have z : eqc h4 h13 a := G.2.1 a (by
      rcases ha with q | q | q | q
      · exact mscr_no q
      · rw [q]; decide
      · rw [q]; decide
      · rw [q]; decide)
    have z2 : eqc h13 h9 a := eqc_fr F (by simp only [List.mem_cons, List.not_mem_nil, or_false]; omega)
    have z3 : eqc h9 (mNo h9 (nI 0)) a := ⟨by rw [k_mNo], by unfold mNo; rw [f_sf_n _ _ _ _ _ (by omega)], by rw [i_mNo], by unfold mNo; rw [l_sf], by rw [r_mNo], by unfold mNo; rw [q_sf]⟩
    exact eqc_trans z (eqc_trans z2 z3)
  · unfold mNo
    rw [f_sf_s, fr_f F 168 (by decide)]
    by_cases q : k = 0
    · rw [q, u1_s, u1_s]
    · rw [u1_n _ _ q, u1_n _ _ q]
      exact G.2.2.2.1 k hk
  · rw [i_mNo]; exact v9
  · unfold mD
    rw [i_mNo]
    exact d9
  · unfold mD
    rw [i_mNo]
    exact d9'
  · have y : sC h13 (24 + 10 * p + j + (if hc' = 10 then 1 else 0)) h9 (24 + 10 * p + j) := c9 j hj
    have y2 : sC h4 (24 + 10 * p + j + (if hc' = 10 then 1 else 0)) h9 (24 + 10 * p + j) := sl_sC (G.2.2.2.2 _ (by
      have : (if hc' = 10 then 1 else 0) ≤ 1 := by split <;> omega
      omega)) y
    unfold sC
    rw [i_mNo]
    exact y2
theorem st_may (x : R0 h W N B S len) (p m : Int32) : ST yX11_may mX11_may yX12_may mX12_may (d + 6) (d + 6) [.int p, .int m] h bc bs W S len := by
  have K := x.2.1
  obtain ⟨h24, hN, hN2, hP⟩ := x.2.2.2.2.1
  obtain ⟨M, h60, hM, hM2, hMI⟩ := MI_ex x.2.2.2.2.2.1
  have n13 : ¬ (0 : Int32) ≤ -nI 13 := by decide
  have n2 : ¬ (0 : Int32) ≤ -nI 2 := by decide
  have c6 : ∀ hx v, fcs h hx → ah_f (cNo hx v) 168 6 = nI N ∧ ah_f (cNo hx v) 168 35 = nI M ∧ ah_i (cNo hx v) 197 = ah_i h 197 ∧ sp (cNo hx v) := fun hx v F => by
    refine ⟨?_, ?_, ?_, (R1_cNo x.2 F v).1⟩
    · unfold cNo; rw [f_sf_n _ _ _ _ _ (by decide), (F.2.1 168 (by decide)).2.1]; exact hN2
    · unfold cNo; rw [f_sf_n _ _ _ _ _ (by decide), (F.2.1 168 (by decide)).2.1]; exact hM2
    · rw [i_cNo]; exact (F.2.1 197 (by decide)).2.2.1
  have c7 : ∀ hx f, fcs h hx → ah_f (cF hx f) 168 6 = nI N ∧ ah_f (cF hx f) 168 35 = nI M ∧ ah_i (cF hx f) 197 = ah_i h 197 ∧ sp (cF hx f) := fun hx f F => by
    refine ⟨?_, ?_, ?_, (R1_cF x.2 F f).1⟩
    · unfold cF; rw [f_si, f_sf_n _ _ _ _ _ (by decide), (F.2.1 168 (by decide)).2.1]; exact hN2
    · unfold cF; rw [f_si, f_sf_n _ _ _ _ _ (by decide), (F.2.1 168 (by decide)).2.1]; exact hM2
    · unfold cF; rw [i_si_n _ _ _ _ _ (by decide), i_sf]; exact (F.2.1 197 (by decide)).2.2.1
  have s6 : ∀ hx v t, fcs h hx → sl h (cNo hx v) t := fun hx v t F => sl_of t (by rw [i_cNo]; exact (F.2.1 170 (by decide)).2.2.1) (by rw [i_cNo]; exact (F.2.1 171 (by decide)).2.2.1) (by rw [i_cNo]; exact (F.2.1 172 (by decide)).2.2.1) (by rw [i_cNo]; exact (F.2.1 173 (by decide)).2.2.1)
  have s7 : ∀ hx f t, fcs h hx → sl h (cF hx f) t := fun hx f t F => sl_of t (by unfold cF; rw [i_si_n _ _ _ _ _ (by decide), i_sf]; exact (F.2.1 170 (by decide)).2.2.1) (by unfold cF; rw [i_si_n _ _ _ _ _ (by decide), i_sf]; exact (F.2.1 171 (by decide)).2.2.1) (by unfold cF; rw [i_si_n _ _ _ _ _ (by decide), i_sf]; exact (F.2.1 172 (by decide)).2.2.1) (by unfold cF; rw [i_si_n _ _ _ _ _ (by decide), i_sf]; exact (F.2.1 173 (by decide)).2.2.1)
  refine X11_may_e (X11_may_0 ⟨o0 K, c_tryMove x.2 h60 hM hMI p m (fun bad => ⟨_, rfl, fun _ => ⟨o0 K, c_no K 2 (by decide) ⟨_, rfl, _, rfl, ?_⟩⟩, fun w => absurd w (by decide)⟩) (fun p0 m0 n h1 ep em hm0 op F => ⟨_, rfl, fun _ => ⟨o0 (F.2.2.1 K), c_f (F.2.2.1 K) 3 (by decide) (by decide) ⟨_, rfl, _, rfl, ?_⟩⟩, fun w => absurd w (by decide)⟩) (fun p0 m0 n l kd x1 x2 x3 f n' l' A' h1 ep em wh mi MM ok F D1 => ⟨_, rfl, fun w => ⟨o0 (F.2.2.1 K), ?_⟩, fun w => ⟨o0 (F.2.2.1 K), grC (F.2.2.1 K) _, fun h10 e10 => ⟨_, rfl, ?_⟩⟩⟩)⟩)
  · obtain ⟨q1, q2, q3, q4⟩ := c6 h (-nI 2) (fcs_refl h)
    refine X12_may_e (X12_may_0 ⟨o168 q4, m_tried_bad q4 q1 h24 q2 h60 _ bad ⟨_, rfl, fun w => absurd w n2, fun _ => ⟨rfl, D_no x (fcs_refl h) _ (fms_refl _)⟩⟩⟩)
  · obtain ⟨q1, q2, q3, q4⟩ := c7 h1 3 F
    obtain ⟨kd, x1, x2, x3, mi⟩ := hMI m0 hm0
    rw [ep, em]
    refine X12_may_e (X12_may_0 ⟨o168 q4, m_tried_go (u := 0) q4 q1 h24 q2 h60 op.1 hm0 (by decide) (by rw [q3]; exact mi.2.2.2.1) mi.2.1 (fun w => absurd w (by decide)) (fun _ => m_tried_open x.2 op q4 q1 (s7 h1 3 _ F) (fun h' G => ⟨_, rfl, fun w => absurd w n13, fun _ => ⟨rfl, D_f x F (by decide) (by decide) G⟩⟩))⟩)
  · have f0 : f ≠ 0 := fun z => w (by rw [z]; decide)
    have f9 : f ≤ 9 := by rcases ok.1 with q | q | q <;> omega
    have ea : ans f = -nI (10 + f) := if_neg f0
    rw [ea]
    refine c_f (F.2.2.1 K) f (by omega) f9 ⟨_, rfl, _, rfl, ?_⟩
    obtain ⟨q1, q2, q3, q4⟩ := c7 h1 f F
    have nf : ¬ (0 : Int32) ≤ -nI (10 + f) := ng_nle (b := 0) (by omega) (by omega) (by omega)
    rw [ep, em]
    exact X12_may_e (X12_may_0 ⟨o168 q4, m_tried_go (u := 0) q4 q1 h24 q2 h60 wh.1 mi.1 (by decide) (by rw [q3]; exact mi.2.2.2.1) mi.2.1 (fun w => absurd w (by decide)) (fun _ => m_tried_yes wh q4 q1 h24 (by have := mi.1; omega) (by decide) (s7 h1 f _ F) (by rw [q3]; exact mi.2.2.2.2.1) (by rw [q3]; exact mi.2.2.2.2.2.1) (by rw [q3]; exact mi.2.2.2.2.2.2) (Or.inl ⟨rfl, MM⟩) ok (fun z => absurd z f0) (fun _ h' G => ⟨_, rfl, fun w => absurd w nf, fun _ => ⟨rfl, D_f x F (by omega) f9 G⟩⟩))⟩)
  · have f0 : f = 0 := by
      by_cases z : f = 0
      · exact z
      · have ea : ans f = -nI (10 + f) := if_neg z
        have f9 : f ≤ 9 := by rcases ok.1 with q | q | q <;> omega
        rw [ea] at w
        have := congrArg Int32.toInt w
        rw [ng_i (by omega)] at this
        have h1 : (1 : Int32).toInt = 1 := by decide
        omega
    have e10' : h10 = cNo h1 (nI 0) := e10.trans (grH 1)
    rw [e10']
    obtain ⟨q1, q2, q3, q4⟩ := c6 h1 (nI 0) F
    rw [ep, em]
    exact X12_may_e (X12_may_0 ⟨o168 q4, m_tried_go (u := 0) q4 q1 h24 q2 h60 wh.1 mi.1 (by decide) (by rw [q3]; exact mi.2.2.2.1) mi.2.1 (fun w => absurd w (by decide)) (fun _ => m_tried_yes wh q4 q1 h24 (by have := mi.1; omega) (by decide) (s6 h1 _ _ F) (by rw [q3]; exact mi.2.2.2.2.1) (by rw [q3]; exact mi.2.2.2.2.2.1) (by rw [q3]; exact mi.2.2.2.2.2.2) (Or.inl ⟨rfl, MM⟩) ok (fun _ h' G D => ⟨_, rfl, fun _ => ⟨o168 (G.2.2.1 q4), weC (G.2.2.1 q4) _, fun h7 e7 => ⟨rfl, by rw [e7.trans (weH 1)]; exact D_no x F (nI 0) G⟩⟩, fun w => absurd (show (0 : Int32) ≤ nI 0 by decide) w⟩) (fun z => absurd f0 z))⟩)
end TRIED
