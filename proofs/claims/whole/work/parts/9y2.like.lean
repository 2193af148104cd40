/-! like. -/
theorem lkS_no {a : Nat} (h : 216 ≤ a) : a ∉ lkS := fun q => by have := (by decide : ∀ a, a ∈ lkS → a < 216) a q; omega
/-- the class's scratch, and Likeness -/
def fcl (h h' : AH) : Prop := ah_n h' = ah_n h ∧ (∀ a, a ∉ Cscr → a ∉ lkS → eqc h h' a) ∧ (sp h → sp h') ∧ (LAC h → LAC h')
/-- the search's cells are untouched, but for Likeness -/
def FS2 (W : Nat → Nat) (h h' : AH) : Prop := (∀ a, (125 ≤ a ∧ a ≤ 163 ∧ (a < 130 ∨ 133 < a) ∨ 209 ≤ a ∧ a ≤ 211 ∨ 216 ≤ a ∧ a < ah_n h ∧ 1000 ≤ W a) → eqc h h' a) ∧ (∀ k, 49 ≤ k → k ≤ 54 → ah_f h' 168 k = ah_f h 168 k) ∧ ∀ s, 264 ≤ s → s < 364 → sl h h' s
def DONE2 (h h' : AH) (W : Nat → Nat) (S : Nat → Int32) (len : Nat) : Prop := ∃ W' N' B', R0 h' W' N' B' S len ∧ FS2 W h h' ∧ (∀ a, a < ah_n h → W' a = W a) ∧ ah_n h ≤ ah_n h' ∧ ah_n h' ≤ ah_n h + 303
def ST2 (yc : MethodName) (mc : MM) (ym : MethodName) (mm : MM) (dc dm : Nat) (args : List Value) (h : AH) (bc bs : Nat) (W : Nat → Nat) (S : Nat → Int32) (len : Nat) : Prop :=
  ex_S yc mc dc (.ref 0 :: args) h bc bs (fun r h1 => ∃ v : Int32, r = some (.int v) ∧ ex_S ym mm dm (.ref 168 :: args) h1 0 0 (fun r' h2 => r' = some (.int v) ∧ DONE2 h h2 W S len))
section LIKE
variable {h h' h1 hx hy hz : AH} {d bc bs : Nat} {Q : Option Value → AH → Prop} {W : Nat → Nat} {N : Nat} {B : Nat → Nat} {S : Nat → Int32} {len : Nat}
theorem FS2_of (x : FS W h h') : FS2 W h h' := ⟨fun a ha => x.1 a (by omega), x.2.1, x.2.2⟩
theorem DONE_2 (x : DONE h h' W S len) : DONE2 h h' W S len := by
  obtain ⟨W', N', B', a, b, c⟩ := x
  exact ⟨W', N', B', a, FS2_of b, c⟩
theorem FS2_trans (hn : ah_n hx = ah_n h) (x : FS2 W h hx) (y : FS2 W hx hy) : FS2 W h hy := ⟨fun a ha => eqc_trans (x.1 a ha) (y.1 a (by rw [hn]; exact ha)), fun k k1 k2 => (y.2.1 k k1 k2).trans (x.2.1 k k1 k2), fun s s1 s2 => sl_trans (x.2.2 s s1 s2) (y.2.2 s s1 s2)⟩
theorem fcl_of (F : fcs h hx) : fcl h hx := ⟨F.1, fun a ha _ => F.2.1 a ha, F.2.2⟩
theorem fcl_lk (F : fcs h hx) (G : fr lkS hx hy) : fcl h hy := ⟨G.1.1.trans F.1, fun a a1 a2 => eqc_trans (F.2.1 a a1) (eqc_fr G a2), fun K => sp_fr (F.2.2.1 K) G, fun L => LAC_q (F.2.2.2 L) G.1.2.2.1 G.1.2.2.2⟩
theorem FS2_fcl (F : fcl h hx) : FS2 W h hx := by
  have e : ∀ a, a ∉ Cscr → a ∉ lkS → eqc h hx a := F.2.1
  refine ⟨fun a ha => e a (fun q => ?_) (fun q => ?_), fun k _ _ => by rw [(e 168 (by decide) (by decide)).2.1], fun s _ _ => sl_of s (e 170 (by decide) (by decide)).2.2.1 (e 171 (by decide) (by decide)).2.2.1 (e 172 (by decide) (by decide)).2.2.1 (e 173 (by decide) (by decide)).2.2.1⟩
  · have := (by decide : ∀ a, a ∈ Cscr → a < 125) a q
    omega
  · have := (by decide : ∀ a, a ∈ lkS → 130 ≤ a ∧ a ≤ 133) a q
    omega
theorem FC_fcl (x : FC h) (F : fcl h hx) : FC hx := by
  have e : ∀ a, a ∉ Cscr → a ∉ lkS → eqc h hx a := F.2.1
  unfold FC
  rw [(e 0 (by decide) (by decide)).2.1, (e 168 (by decide) (by decide)).2.1, (e 167 (by decide) (by decide)).2.2.1, (e 169 (by decide) (by decide)).2.2.1]
  exact x
theorem R1_fcl (x : R1 h W N B S len) (F : fcl h h') : R1 h' W N B S len := by
  obtain ⟨x0, x1, x2, x3, x4, ⟨x5, x6, x7⟩, x8, x9, x10⟩ := x
  obtain ⟨f0, f1, f2, f3⟩ := F
  have e : ∀ a, a ∉ Cscr → a ∉ lkS → eqc h h' a := f1
  have big : ∀ a, 216 ≤ a → eqc h h' a := fun a ha => f1 a (cscr_no ha) (lkS_no ha)
  have c0 := e 0 (by decide) (by decide)
  have c168 := e 168 (by decide) (by decide)
  have hn : ah_n h ≤ ah_n h' := by omega
  have hsl : ∀ s, sl h h' s := fun s => sl_of s (e 170 (by decide) (by decide)).2.2.1 (e 171 (by decide) (by decide)).2.2.1 (e 172 (by decide) (by decide)).2.2.1 (e 173 (by decide) (by decide)).2.2.1
  refine ⟨f2 x0, f3 x1, OLD_eq x2 (fun a ha => big a (by omega)), PS_eq x3 (fun _ _ => rfl) (by rw [c0.2.1]) (by rw [c168.2.1]) (e 1 (by decide) (by decide)).2.2.2.2.2 (e 174 (by decide) (by decide)).2.2.1 (fun a a1 _ _ => big a a1) (fun s _ => hsl s) hn, MV_eq x4 (fun _ _ => rfl) (by rw [c0.2.1]) (by rw [c168.2.1]) (e 2 (by decide) (by decide)).2.2.2.2.2 (e 197 (by decide) (by decide)).2.2.1 (fun a a1 _ _ _ => big a a1) hn, ⟨NU_eq x5 (e 3 (by decide) (by decide)).2.1 (by rw [c168.2.1]) (e 4 (by decide) (by decide)).2.2.1 (e 191 (by decide) (by decide)).2.2.1, NU_eq x6 (e 5 (by decide) (by decide)).2.1 (by rw [c168.2.1]) (e 6 (by decide) (by decide)).2.2.1 (e 198 (by decide) (by decide)).2.2.1, NU_eq x7 (e 134 (by decide) (by decide)).2.1 (by rw [c168.2.1]) (e 135 (by decide) (by decide)).2.2.1 (e 212 (by decide) (by decide)).2.2.1⟩, RS_eq x8 (e 73 (by decide) (by decide)) (by rw [c168.2.1]) (e 74 (by decide) (by decide)).2.2.2.1 (e 75 (by decide) (by decide)).2.2.2.1 (e 186 (by decide) (by decide)).2.2.2.1, SPn_eq x9 (e 32 (by decide) (by decide)).2.1 (by rw [c168.2.1]), BK_eq x10 (fun _ _ => rfl) (e 164 (by decide) (by decide)).2.1 (by rw [c168.2.1]) (e 165 (by decide) (by decide)).2.2.2.1 (e 166 (by decide) (by decide)).2.2.2.2.2 (e 214 (by decide) (by decide)).2.2.2.1 (e 215 (by decide) (by decide)).2.2.2.1 (fun a a1 _ _ _ => big a a1) hn⟩
theorem D_no2 (x : R0 h W N B S len) (F : fcl h hx) (v : Int32) (G : fms (cNo hx v) hy) : DONE2 h (mNo hy v) W S len := by
  have y := FC_fcl x.1 F
  have e : ∀ a, a ∉ Mscr → eqc (cNo hx v) hy a := G.2.1
  refine ⟨W, N, B, ⟨⟨?_, ?_, ?_, ?_⟩, R1_f168 (R1_fms (R1_f0 (R1_fcl x.2 F) 19 v (by omega)) G) 0 v (by omega)⟩, ?_, fun _ _ => rfl, ?_, ?_⟩
  · unfold mNo
    rw [f_sf_n _ _ _ _ _ (by decide), (e 0 (by decide)).2.1, f_sf_s, u1_s]
    unfold cNo
    rw [f_sf_s, u1_s]
  · unfold mNo
    rw [f_sf_n _ _ _ _ _ (by decide), (e 0 (by decide)).2.1, f_sf_s, u1_n _ _ (by decide), G.2.2.2.1 15 (by decide)]
    unfold cNo
    rw [f_sf_s, u1_n _ _ (by decide), f_sf_n _ _ _ _ _ (by decide)]
    exact y.2.1
  · unfold mNo
    rw [f_sf_n _ _ _ _ _ (by decide), (e 0 (by decide)).2.1, f_sf_s, u1_n _ _ (by decide), G.2.2.2.1 60 (by decide)]
    unfold cNo
    rw [f_sf_s, u1_n _ _ (by decide), f_sf_n _ _ _ _ _ (by decide)]
    exact y.2.2.1
  · intro k k1 k2
    show ah_i hy 167 k = ah_i hy 169 k
    rw [(e 167 (by decide)).2.2.1, (e 169 (by decide)).2.2.1]
    exact y.2.2.2 k k1 k2
  · have n1 : ah_n hy = ah_n h := G.1.trans F.1
    exact FS2_trans n1 (FS2_trans (hx := cNo hx v) F.1 (FS2_trans F.1 (FS2_fcl F) (FS2_of (FS_f0 19 v))) (FS2_of (FS_fms G))) (FS2_of (FS_f168 0 v (by omega)))
  · show ah_n h ≤ ah_n hy
    rw [G.1]
    show ah_n h ≤ ah_n hx
    rw [F.1]
    exact Nat.le_refl _
  · show ah_n hy ≤ _
    rw [G.1]
    show ah_n hx ≤ _
    rw [F.1]
    omega
theorem m_open_wholeF {p0 n l : Nat} (wh : WH h N B p0 n l) (h24 : N ≤ 24) (K : sp hz) (sl_ : sl h hz p0) (k : ∀ h', fms hz h' → fr [168, 176, 177, 178, 179, 180] hz h' → (∀ e, e < 4 * n → ah_i h' 176 e = nI (mt n (AN (ah_i h (B p0 + 2))) e)) → Q (some (.int (nI 0))) h') : ex_S yX12_openOf mX12_openOf (d + 3) [.ref 168, .int (nI p0)] hz bc bs Q := by
  obtain ⟨hp, hn, h40, h9, ⟨pl, O⟩, C, M, R⟩ := wh
  have D := mD_sl M h40 sl_
  refine m_openOf (L := ah_i h (B p0 + 1)) (A := ah_i h (B p0 + 2)) K (by omega) D.1 ⟨h40, fun c hc => Or.inr ⟨4, by omega, C.2.2.1 c hc⟩, fun e he => Or.inr ⟨_, R.A100 he, C.2.2.2 e he⟩⟩ (fun c hc => by rw [D.2.2.1 c hc, C.2.2.1 c hc]) (fun e he => by rw [D.2.2.2 e he, C.2.2.2 e he]) (fun h' r pl' F f1 f2 f3 f4 => ?_)
  have hr := (opn_u f3 O).1
  subst hr
  exact k h' (fms_open F f1) F (f4 rfl)
theorem see_no2 (x : R0 h W N B S len) (F : fcl h hx) (v : Int32) : ah_f (cNo hx v) 168 = ah_f h 168 ∧ sp (cNo hx v) ∧ ∀ s, sl h (cNo hx v) s := by
  have e : ∀ a, a ∉ Cscr → a ∉ lkS → eqc h hx a := F.2.1
  refine ⟨?_, sp_fr (L := [0]) (F.2.2.1 x.2.1) (fr_sf (fr_refl _ hx) (by decide)), fun s => ?_⟩
  · unfold cNo
    rw [f_sf_n _ _ _ _ _ (by decide)]
    exact (e 168 (by decide) (by decide)).2.1
  · have i_ : ∀ a, a ∉ Cscr → a ∉ lkS → ah_i (cNo hx v) a = ah_i h a := fun a a1 a2 => by rw [i_cNo]; exact (e a a1 a2).2.2.1
    exact sl_of s (i_ 170 (by decide) (by decide)) (i_ 171 (by decide) (by decide)) (i_ 172 (by decide) (by decide)) (i_ 173 (by decide) (by decide))
def ciL (a : Nat) : List Nat := [177, 199, 200, 201, 202, 203, 204, 205, 206, a]
theorem m_codeInto {s n a2 o L2 l : Nat} {A m : Nat → Nat} (K : sp h) (P : Pr n A m) (h40 : n ≤ 40) (h9 : l ≤ 9) (hs : s < 368) (M : mD h s n l A) (hm : ∀ e, e < 4 * n → ah_i h 176 e = nI (m e)) (x2 : ah_x h a2 0 L2) (ha : a2 = 207 ∨ a2 = 208 ∨ a2 = 211) (room : o + 3 + 5 * n ≤ L2) (big : L2 < 100000)
    (k : ∀ h' P Nk fk, fr (ciL a2) h h' → CD n m P Nk fk → OB l n P Nk fk → OUT (ah_i h' a2) o l n P Nk fk → qp Nk P < 3 + 5 * n → (∀ i, i < o → ah_i h' a2 i = ah_i h a2 i) → Q none h') : ex_S yX12_codeInto mX12_codeInto (d + 2) [.ref 168, .int (nI s), .ref a2, .int (nI o)] h bc bs Q := by
  refine m_codeParts K P h40 hs M.1 hm (fun h1 Ns fs F1 T1 => ?_)
  have c1' : ∀ a, a ∈ cdL → a ∈ ciL a2 := fun a q => by
    have := (by decide : ∀ a, a ∈ cdL → a ∈ ciL 207 ∧ a ≠ 207 ∧ a ≠ 208 ∧ a ≠ 211) a q
    unfold ciL at this ⊢
    simp only [List.mem_cons, List.not_mem_nil, or_false] at this ⊢
    omega
  have nc : a2 ∉ cdL := fun q => by have := (by decide : ∀ a, a ∈ cdL → a ≠ 207 ∧ a ≠ 208 ∧ a ≠ 211) a2 q; omega
  refine m_sort (sp_fr K F1) P.iv h40 h9 hs (by rw [fr_i F1 170 (by decide)]; exact M.1) (by rw [fr_i F1 171 (by decide)]; exact M.2.1) T1 ⟨by rw [F1.1.1]; exact x2.1, by rw [F1.1.2.1]; exact x2.2⟩ ha room big (fun h2 P' Nk fk F2 cd ob X q lo => ⟨rfl, k h2 P' Nk fk (fr_trans (fr_mono F1 c1') (fr_mono F2 (fun a q => ?_))) cd ob X q (fun i hi => by rw [lo i hi, fr_i F1 a2 nc])⟩)
  unfold ciL
  simp only [List.mem_cons, List.not_mem_nil, or_false] at q ⊢
  omega
theorem st_like (x : R0 h W N B S len) (p q : Int32) : ST2 yX11_like mX11_like yX12_like mX12_like (d + 5) (d + 4) [.int p, .int q] h bc bs W S len := by
  have K := x.2.1
  obtain ⟨h24, hN, hN2, hP⟩ := x.2.2.2.2.1
  have hv := hasP (p := p) hN h24
  have hw := hasP (p := q) hN h24
  have bad : (¬ ix p N ∨ ¬ ix q N) → ex_S yX12_like mX12_like (d + 4) [.ref 168, .int p, .int q] (cNo h (-nI 2)) 0 0 (fun r' h2 => r' = some (.int (-nI 2)) ∧ DONE2 h h2 W S len) := by
    intro nb
    obtain ⟨q1, q3, q4, q5⟩ := see_no x (fcs_refl h) (-nI 2)
    have iv := isP_ (h := cNo h (-nI 2)) (p := p) (N := N) (by rw [q1]; exact hN2) h24
    have iv2 := isP_ (h := cNo h (-nI 2)) (p := q) (N := N) (by rw [q1]; exact hN2) h24
    have fin : X12_no_C 168 (-2) (cNo h (-nI 2)) ∧ ∀ h5, h5 = X12_no_H 168 (-2) (cNo h (-nI 2)) → (some (Value.int (X12_no_V 168 (-2) (cNo h (-nI 2)))) = some (.int (-nI 2)) ∧ DONE2 h h5 W S len) := ⟨noC q4 _, fun h8 e8 => ⟨rfl, by rw [e8]; exact DONE_2 (D_no x (fcs_refl h) (-nI 2) (fms_refl _))⟩⟩
    refine X12_like_e (X12_like_0 ⟨o168 q4, isPC q4 _, fun _ => fin, fun w => ⟨isPC q4 _, fun w2 => ?_, fun _ => fin⟩⟩)
    rcases nb with z | z
    · exact absurd (iv.mpr z) w
    · exact absurd (iv2.mpr z) w2
  refine X11_like_e (X11_like_0 ⟨o0 K, hasPC K p, fun z => c_no K 2 (by decide) ⟨_, rfl, _, rfl, bad (Or.inl (hv.mp z))⟩, fun z => ⟨hasPC K q, fun y => ⟨7, r0_4 K, ?_⟩, fun y => c_no K 2 (by decide) ⟨_, rfl, _, rfl, bad (Or.inr (hw.mp y))⟩⟩⟩)
  have ip : ix p N := Classical.not_not.mp (fun w => z (hv.mpr w))
  have iq : ix q N := Classical.not_not.mp (fun w => y (hw.mpr w))
  obtain ⟨p0, hp0, ep⟩ := ix_of ip (by omega)
  obtain ⟨q0, hq0, eq⟩ := ix_of iq (by omega)
  subst ep
  subst eq
  have z00 : (nI 0 : Int32) ≤ 0 := by decide
  -- the reference refuses open pictures
  have mopen : ∀ hx, fcs h hx → ((∃ n, OP h N B p0 n) ∨ ((∃ n l, WH h N B p0 n l) ∧ ∃ n, OP h N B q0 n)) → ex_S yX12_like mX12_like (d + 4) [.ref 168, .int (nI p0), .int (nI q0)] (cF hx 3) 0 0 (fun r' h2 => r' = some (.int (-nI 13)) ∧ DONE2 h h2 W S len) := by
    intro hx F why
    obtain ⟨q1, q3, q4, q5⟩ := see_f x F 3
    have hN6 : ah_f (cF hx 3) 168 6 = nI N := by rw [q1]; exact hN2
    have iv := isP_ (h := cF hx 3) (p := nI p0) (N := N) hN6 h24
    have iv2 := isP_ (h := cF hx 3) (p := nI q0) (N := N) hN6 h24
    have meet : ∀ h', fms (cF hx 3) h' → X12_meets_C 168 3 h' ∧ ∀ h12, h12 = X12_meets_H 168 3 h' → (some (Value.int (X12_meets_V 168 3 h')) = some (.int (-nI 13)) ∧ DONE2 h h12 W S len) := fun h' G => ⟨meC (f := 3) (G.2.2.1 q4) (by decide), fun h12 e12 => ⟨rfl, by rw [e12.trans (meH (f := 3) (G.2.2.1 q4) (by decide))]; exact DONE_2 (D_f x F (by decide) (by decide) G)⟩⟩
    refine X12_like_e (X12_like_0 ⟨o168 q4, isPC q4 _, fun w => absurd ip (iv.mp w), fun _ => ⟨isPC q4 _, fun _ => ?_, fun w => absurd iq (iv2.mp w)⟩⟩)
    have gt0 : ∀ r : Nat, r ≠ 0 → r ≤ 4 → ¬ nI r ≤ (0 : Int32) := fun r r0 r4 w => by
      have := (nI_leI (a := r) (b := 0) (by omega) (by omega)).mp w
      omega
    rcases why with ⟨n, op⟩ | ⟨⟨n, l, wh⟩, n', op⟩
    · exact m_open_open x.2 op q4 (q5 p0) (fun h' r r0 r4 G => ⟨_, rfl, fun w => absurd w (gt0 r r0 r4), fun _ => ⟨o168 (G.2.2.1 q4), meet h' G⟩⟩)
    · refine m_open_whole wh h24 q4 (q5 p0) (fun h' G g => ⟨_, rfl, fun _ => ⟨o168 (G.2.2.1 q4), 207, r168_47 (G.2.2.1 q4), ?_⟩, fun w => absurd z00 w⟩)
      have Kg := G.2.2.1 q4
      obtain ⟨-, hn, h40, h9, ⟨pl, O⟩, C, M, R⟩ := wh
      refine m_codeInto (d := d + 1) (o := 0) (l := l) Kg R h40 h9 (by omega) (mD_sl (mD_sl M h40 (q5 p0)) h40 (G.2.2.2.2 p0 (by omega))) g (sp_x Kg 207 (by decide) rfl) (Or.inl rfl) (by omega) (by decide) (fun h13 P' Nk fk F13 _ _ _ _ _ => ⟨rfl, ?_⟩)
      have G13 : fms (cF hx 3) h13 := fms_trans G (fms_sc F13 (by decide))
      have K13 := G13.2.2.1 q4
      refine ⟨o168 K13, m_open_open x.2 op K13 (sl_trans (q5 q0) (G13.2.2.2.2 q0 (by omega))) (fun h'' r r0 r4 G' => ⟨_, rfl, fun w => absurd w (gt0 r r0 r4), fun _ => ⟨o168 (G'.2.2.1 K13), meet h'' (fms_trans G13 G')⟩⟩)⟩
  refine c_look x.2 hp0 (Or.inl rfl) (fun h1 n op F => ⟨_, rfl, fun _ => ⟨o0 (sp_fr K F), c_f (sp_fr K F) 3 (by decide) (by decide) ⟨_, rfl, _, rfl, mopen h1 (fcs_fr F lkc7) (Or.inl ⟨n, op⟩)⟩⟩, fun w => absurd rfl w⟩) (fun h1 n1 l1 wh1 F1 k1 k1' LF1 => ⟨_, rfl, fun w => absurd w (by decide), fun _ => ⟨o0 (sp_fr K F1), 18, r0_5 (sp_fr K F1), ?_⟩⟩)
  have K1 := sp_fr K F1
  have Fc1 := fcs_fr F1 lkc7
  have xr1 := R1_fcs x.2 Fc1
  refine c_look xr1 hq0 (Or.inr rfl) (fun h2 n op F => ⟨_, rfl, fun w => absurd rfl w, fun _ => ⟨o0 (sp_fr K1 F), c_f (sp_fr K1 F) 3 (by decide) (by decide) ⟨_, rfl, _, rfl, mopen h2 (fcs_trans Fc1 (fcs_fr F lkc18)) (Or.inr ⟨⟨n1, l1, wh1⟩, n, OP_back x.2 Fc1 op⟩)⟩⟩⟩) (fun h2 n2 l2 wh2' F2 k2 k2' LF2 => ⟨_, rfl, fun _ => ?_, fun w => absurd w (by decide)⟩)
  have K2 := sp_fr K1 F2
  have Fc2 := fcs_trans Fc1 (fcs_fr F2 lkc18)
  obtain ⟨wh2, eA2⟩ := WH_back x.2 Fc1 wh2'
  rw [eA2] at LF2
  have h41 := wh1.2.2.1
  have h42 := wh2.2.2.1
  have l9 := wh1.2.2.2.1
  have l9' := wh2.2.2.2.1
  -- the reference
  have mlike : ∀ hx, fcl h hx → ∀ v : Nat, ((v = 1 ∧ l1 = l2 ∧ n1 = n2 ∧ ISO n1 (mt n1 (AN (ah_i h (B p0 + 2)))) (mt n2 (AN (ah_i h (B q0 + 2))))) ∨ (v = 0 ∧ ¬ (l1 = l2 ∧ n1 = n2 ∧ ISO n1 (mt n1 (AN (ah_i h (B p0 + 2)))) (mt n2 (AN (ah_i h (B q0 + 2))))))) → ex_S yX12_like mX12_like (d + 4) [.ref 168, .int (nI p0), .int (nI q0)] (cNo hx (nI 0)) 0 0 (fun r' h2 => r' = some (.int (nI v)) ∧ DONE2 h h2 W S len) := by
    intro hx F v hv_
    obtain ⟨q1, q4, q5⟩ := see_no2 x F (nI 0)
    have hN6 : ah_f (cNo hx (nI 0)) 168 6 = nI N := by rw [q1]; exact hN2
    have iv := isP_ (h := cNo hx (nI 0)) (p := nI p0) (N := N) hN6 h24
    have iv2 := isP_ (h := cNo hx (nI 0)) (p := nI q0) (N := N) hN6 h24
    refine X12_like_e (X12_like_0 ⟨o168 q4, isPC q4 _, fun w => absurd ip (iv.mp w), fun _ => ⟨isPC q4 _, fun _ => ?_, fun w => absurd iq (iv2.mp w)⟩⟩)
    have w1 := wh1
    have w2 := wh2
    refine m_open_whole wh1 h24 q4 (q5 p0) (fun h8 G8 g8 => ⟨_, rfl, fun _ => ⟨o168 (G8.2.2.1 q4), 207, r168_47 (G8.2.2.1 q4), ?_⟩, fun w => absurd z00 w⟩)
    have K8 := G8.2.2.1 q4
    obtain ⟨-, hn1, -, -, ⟨pl1, O1⟩, C1, M1, R1_⟩ := w1
    obtain ⟨-, hn2, -, -, ⟨pl2, O2⟩, C2, M2, R2⟩ := w2
    refine m_codeInto (d := d + 1) (o := 0) (l := l1) K8 R1_ h41 l9 (by omega) (mD_sl (mD_sl M1 h41 (q5 p0)) h41 (G8.2.2.2.2 p0 (by omega))) g8 (sp_x K8 207 (by decide) rfl) (Or.inl rfl) (by omega) (by decide) (fun h13 P1 Nk1 fk1 F13 cd1 ob1 X1 b1 _ => ⟨rfl, ?_⟩)
    have G13 : fms (cNo hx (nI 0)) h13 := fms_trans G8 (fms_sc F13 (by decide))
    have K13 := G13.2.2.1 q4
    refine ⟨o168 K13, m_open_wholeF wh2 h24 K13 (sl_trans (q5 q0) (G13.2.2.2.2 q0 (by omega))) (fun h14 G14 F14 g14 => ⟨_, rfl, fun _ => ⟨o168 (G14.2.2.1 K13), 208, r168_48 (G14.2.2.1 K13), ?_⟩, fun w => absurd z00 w⟩)⟩
    have K14 := G14.2.2.1 K13
    have i207 : ah_i h14 207 = ah_i h13 207 := fr_i F14 207 (by decide)
    refine m_codeInto (d := d + 1) (o := 0) (l := l2) K14 R2 h42 l9' (by omega) (mD_sl (mD_sl (mD_sl M2 h42 (q5 q0)) h42 (G13.2.2.2.2 q0 (by omega))) h42 (G14.2.2.2.2 q0 (by omega))) g14 (sp_x K14 208 (by decide) rfl) (Or.inr (Or.inl rfl)) (by omega) (by decide) (fun h20 P2 Nk2 fk2 F20 cd2 ob2 X2 b2 _ => ⟨rfl, ?_⟩)
    have G20 : fms (cNo hx (nI 0)) h20 := fms_trans G13 (fms_trans G14 (fms_sc F20 (by decide)))
    have K20 := G20.2.2.1 q4
    have X1' : OUT (ah_i h20 207) 0 l1 n1 P1 Nk1 fk1 := by rw [fr_i F20 207 (by decide), i207]; exact X1
    have fin : ∀ u : Nat, u = v → ∀ h29, h29 = X12_well_H 168 (nI u) h20 → (some (Value.int (X12_well_V 168 (nI u) h20)) = some (.int (nI v)) ∧ DONE2 h h29 W S len) := fun u e h29 e29 => by
      subst e
      exact ⟨rfl, by rw [e29, weH]; exact D_no2 x F (nI 0) G20⟩
    have cond : (l1 = l2 ∧ n1 = n2 ∧ P1 = P2 ∧ ∀ j, j < P1 → ceq (Nk1 j) (fk1 j) (Nk2 j) (fk2 j)) ↔ (l1 = l2 ∧ n1 = n2 ∧ ISO n1 (mt n1 (AN (ah_i h (B p0 + 2)))) (mt n2 (AN (ah_i h (B q0 + 2))))) := by
      constructor
      · rintro ⟨e1, e2, e3⟩
        subst e2
        exact ⟨e1, rfl, (sq_iff R1_.iv R2.iv cd1 cd2).mpr e3⟩
      · rintro ⟨e1, e2, e3⟩
        subst e2
        exact ⟨e1, rfl, (sq_iff R1_.iv R2.iv cd1 cd2).mp e3⟩
    refine ⟨o168 K20, 207, r168_47 K20, 208, r168_48 K20, m_alike (o1 := 0) (o2 := 0) (sp_x K20 207 (by decide) rfl) (sp_x K20 208 (by decide) rfl) (by decide) (by decide) X1' X2 ob1 ob2 (by omega) (by omega) (by decide) (by decide) (fun yes => ⟨_, rfl, fun w => absurd w (by decide), fun _ => ⟨o168 K20, weC K20 _, fin 1 ?_⟩⟩) (fun no => ⟨_, rfl, fun _ => ⟨o168 K20, weC K20 _, fin 0 ?_⟩, fun w => absurd rfl w⟩)⟩
    · rcases hv_ with ⟨a, -⟩ | ⟨-, b⟩
      · exact a.symm
      · exact absurd (cond.mp yes) b
    · rcases hv_ with ⟨-, b⟩ | ⟨a, -⟩
      · exact absurd (cond.mpr b) no
      · exact a.symm
  have k17 : ah_f h2 7 10 = nI n1 := by rw [fr_f F2 7 (by decide)]; exact k1
  have k17' : ah_f h2 7 11 = nI l1 := by rw [fr_f F2 7 (by decide)]; exact k1'
  refine ⟨o0 K2, 7, r0_4 K2, o7 K2, 18, r0_5 K2, o18 K2, ?_⟩
  rw [k17, k2, k17', k2', nI_eq (by omega) (by omega), nI_eq (by omega) (by omega)]
  have no_ : ¬ (l1 = l2 ∧ n1 = n2 ∧ ISO n1 (mt n1 (AN (ah_i h (B p0 + 2)))) (mt n2 (AN (ah_i h (B q0 + 2))))) → ∀ h27, h27 = X11_grant_H 0 0 h2 → ∃ v : Int32, some (Value.int (X11_grant_V 0 0 h2)) = some (.int v) ∧ ex_S yX12_like mX12_like (d + 4) [.ref 168, .int (nI p0), .int (nI q0)] h27 0 0 (fun r' h3 => r' = some (.int v) ∧ DONE2 h h3 W S len) := fun ne h27 e27 => ⟨_, rfl, by
    have e27' : h27 = cNo h2 (nI 0) := e27
    rw [e27']
    exact mlike h2 (fcl_of Fc2) 0 (Or.inr ⟨rfl, ne⟩)⟩
  refine ⟨fun ne => ⟨grC K2 _, no_ (fun w => ne w.2.1)⟩, fun en => ⟨fun el => ⟨125, r0_12 K2, o125 K2, 130, r125_2 K2, 8, r7_0 K2, 19, r18_0 K2, o130 K2, ?_⟩, fun nl => ⟨grC K2 _, no_ (fun w => nl w.1)⟩⟩⟩
  subst en
  subst el
  have R1_ := wh1.2.2.2.2.2.2.2
  have R2 := wh2.2.2.2.2.2.2.2
  have Ma : MA h2 n1 8 (mt n1 (AN (ah_i h (B p0 + 2)))) := ⟨⟨160, sp_x K2 8 (by decide) rfl, by omega⟩, by decide, by decide, fun e he => by rw [fr_i F2 8 (by decide)]; exact LF1.1 e he⟩
  have Mb : MA h2 n1 19 (mt n1 (AN (ah_i h (B q0 + 2)))) := ⟨⟨160, sp_x K2 19 (by decide) rfl, by omega⟩, by decide, by decide, fun e he => LF2.1 e he⟩
  refine c_likeH (d := d + 1) K2 h41 R1_.iv R2.iv Ma Mb (fun iso h34 F34 => ⟨_, rfl, fun w => absurd w (by decide), fun _ => ?_⟩) (fun ni h34 F34 => ⟨_, rfl, fun _ => ?_, fun w => absurd rfl w⟩)
  · have K34 := sp_fr K2 F34
    refine ⟨o0 K34, grC K34 _, fun h43 e43 => ⟨_, rfl, ?_⟩⟩
    have e43' : h43 = cNo h34 (nI 0) := e43
    rw [e43']
    exact mlike h34 (fcl_lk Fc2 F34) 1 (Or.inl ⟨rfl, rfl, rfl, iso⟩)
  · have K34 := sp_fr K2 F34
    refine ⟨o0 K34, grC K34 _, fun h40 e40 => ⟨_, rfl, ?_⟩⟩
    have e40' : h40 = cNo h34 (nI 0) := e40
    rw [e40']
    exact mlike h34 (fcl_lk Fc2 F34) 0 (Or.inr ⟨rfl, fun w => ni w.2.2⟩)
end LIKE
