/-! Colours: the two ranks are one; the step. -/
section SAME
variable {n md : Nat} {A m : Nat → Nat} {lab so : Nat → Nat} {T : Nat → Int32}
theorem key_same (P : Pr n A m) (L : LB n A m n lab T) (h2 : 2 ≤ md) (hso : ∀ x, x < 4 * n → so x < ct (lm (sg n m)) (4 * n) ∧ (∀ y, y < 4 * n → lm (sg n m) y → sg n m y x → so x = ct (lm (sg n m)) y) ∧ ∀ x', x' < 4 * n → (so x = so x' ↔ sg n m x x')) {e i : Nat} (he : e < 4 * n) (hi : i < n) : (md : Int) ∣ (cV so md i (so e) : Int) - (rV A lab md i (lab (A e)) : Int) := by
  obtain ⟨t, ht⟩ := cV_cm so h2 i (so e)
  have iff_ : ∀ f, f < 4 * n → (so e = so f ↔ lab (A e) = lab (A f)) := fun f hf => ((hso e he).2.2 f hf).trans ((L.2.2 e f he hf).trans (sgb_n he P)).symm
  have c1 : ∀ f, f < 4 * n → (if so e = so f then (1 : Int) else 0) = ((if lab (A e) = lab (A f) then 1 else 0 : Nat) : Int) := fun f hf => by
    by_cases z : lab (A e) = lab (A f)
    · rw [if_pos z, if_pos ((iff_ f hf).mpr z)]; rfl
    · rw [if_neg z, if_neg (fun q => z ((iff_ f hf).mp q))]; rfl
  unfold cm at ht
  rw [c1 _ (by omega), c1 _ (by omega), c1 _ (by omega)] at ht
  unfold rV
  generalize (if lab (A e) = lab (A (4 * i)) then 1 else 0 : Nat) = a at ht ⊢
  generalize (if lab (A e) = lab (A (4 * i + 2)) then 1 else 0 : Nat) = b at ht ⊢
  by_cases z : lab (A e) = lab (A (4 * i + 1))
  · rw [if_pos z] at ht ⊢
    refine ⟨t - 1, ?_⟩
    rw [Int.mul_sub, Int.mul_one]
    omega
  · rw [if_neg z] at ht ⊢
    refine ⟨t, ?_⟩
    omega
theorem rank_same (P : Pr n A m) (L : LB n A m n lab T) (pm : prm md) (hso : ∀ x, x < 4 * n → so x < ct (lm (sg n m)) (4 * n) ∧ (∀ y, y < 4 * n → lm (sg n m) y → sg n m y x → so x = ct (lm (sg n m)) y) ∧ ∀ x', x' < 4 * n → (so x = so x' ↔ sg n m x x')) {r1 r2 : Nat} (E1 : EL md (fun i c => (cV so md i c : Int)) n (ct (lm (sg n m)) (4 * n)) r1) (E2 : EL md (fun i c => (rV A lab md i c : Int)) n 100 r2) : r1 = r2 := by
  have us100 : ∀ a, us n A a → a < 100 := fun a ⟨e, he, q⟩ => by rw [← q]; exact P.A100 he
  have iff_ : ∀ e f, e < 4 * n → f < 4 * n → (so e = so f ↔ lab (A e) = lab (A f)) := fun e f he hf => ((hso e he).2.2 f hf).trans ((L.2.2 e f he hf).trans (sgb_n he P)).symm
  have key : ∀ e i, e < 4 * n → i < n → (md : Int) ∣ (cV so md i (so e) : Int) - (rV A lab md i (lab (A e)) : Int) := fun e i he hi => key_same P L pm.1 hso he hi
  refine Nat.le_antisymm ?_ ?_
  · obtain ⟨Y, hY⟩ := chs (n := ct (lm (sg n m)) (4 * n)) (R := fun j y => y < 4 * n ∧ lm (sg n m) y ∧ ct (lm (sg n m)) y = j) (fun j hj => ct_ex (4 * n) j hj)
    have soY : ∀ j, j < ct (lm (sg n m)) (4 * n) → so (Y j) = j := fun j hj => by
      obtain ⟨a, b, c⟩ := hY j hj
      rw [(hso _ a).2.1 _ a b (sg_refl _)]
      exact c
    refine rank_le pm E2 E1 (fun j => lab (A (Y j))) (fun j hj _ => ?_) (fun j j' hj hj' _ _ e => ?_)
    · obtain ⟨a, b, c⟩ := hY j hj
      obtain ⟨t1, t2, t3⟩ := L.1 (A (Y j)) ⟨Y j, a, rfl⟩
      refine ⟨us100 _ t2, fun i hi => ?_⟩
      obtain ⟨t, ht⟩ := key (Y j) i a hi
      rw [soY j hj] at ht
      refine ⟨-t, ?_⟩
      show (rV A lab md i (lab (A (Y j))) : Int) - (cV so md i j : Int) = md * -t
      rw [Int.mul_neg, ← ht]
      omega
    · have q := (iff_ _ _ (hY j hj).1 (hY j' hj').1).mpr e
      rw [soY j hj, soY j' hj'] at q
      exact q
  · obtain ⟨E, hE⟩ := chs (n := 100) (R := fun a e => (∃ e', e' < 4 * n ∧ lab (A e') = a) → e < 4 * n ∧ lab (A e) = a) (fun a _ => by
      by_cases u : ∃ e', e' < 4 * n ∧ lab (A e') = a
      · obtain ⟨e, he, q⟩ := u
        exact ⟨e, fun _ => ⟨he, q⟩⟩
      · exact ⟨0, fun z => absurd z u⟩)
    have live : ∀ a, (∃ i, i < n ∧ ¬ (md : Int) ∣ (rV A lab md i a : Int)) → ∃ e', e' < 4 * n ∧ lab (A e') = a := by
      rintro a ⟨i, hi, nd⟩
      by_cases z1 : a = lab (A (4 * i))
      · exact ⟨_, by omega, z1.symm⟩
      by_cases z2 : a = lab (A (4 * i + 2))
      · exact ⟨_, by omega, z2.symm⟩
      by_cases z3 : a = lab (A (4 * i + 1))
      · exact ⟨_, by omega, z3.symm⟩
      refine absurd ?_ nd
      unfold rV
      rw [if_neg z1, if_neg z2, if_neg z3]
      exact Int.dvd_zero _
    refine rank_le pm E1 E2 (fun a => so (E a)) (fun a ha lv => ?_) (fun a a' ha ha' lv lv' e => ?_)
    · obtain ⟨e1, e2⟩ := hE a ha (live a lv)
      refine ⟨(hso _ e1).1, fun i hi => ?_⟩
      have := key (E a) i e1 hi
      rw [e2] at this
      exact this
    · obtain ⟨e1, e2⟩ := hE a ha (live a lv)
      obtain ⟨f1, f2⟩ := hE a' ha' (live a' lv')
      have := (iff_ _ _ e1 f1).mp e
      rw [e2, f2] at this
      exact this
end SAME
theorem i3_comm (a b c : Int32) : a - b + c = a + c - b := by rw [Int32.sub_eq_add_neg, Int32.sub_eq_add_neg, Int32.add_assoc, Int32.add_comm (-b), ← Int32.add_assoc]
section COLOURS
variable {h : AH} {d bc bs : Nat} {W : Nat → Nat} {N : Nat} {B : Nat → Nat} {S : Nat → Int32} {len : Nat} {Q : Option Value → AH → Prop}
theorem c_isCC {v : Int32} (O : OLD h S len) (k : ∀ x : Int32, (x = nI 1 ∧ (v = nI 3 ∨ v = nI 5 ∨ v = nI 7 ∨ v = nI 11)) ∨ (x = nI 0 ∧ ¬ (v = nI 3 ∨ v = nI 5 ∨ v = nI 7 ∨ v = nI 11)) → Q (some (.int x)) h) : ex_S yX11_isColourCount mX11_isColourCount d [.int v] h bc bs Q := by
  have ra : ah_ra h 10000001 4 := Or.inr ⟨1, by decide, rfl, by rw [O.2.1.1]⟩
  have stp_ : ∀ (i w : Nat), i < 4 → ah_i h 10000001 i = nI w → (v = nI w → Q (some (.int (nI 1))) h) → (¬ v = nI w → ex_G mX11_isColourCount d 2 [.int v, .int (nI (i + 1))] [] h bc bs Q) → ex_G mX11_isColourCount d 2 [.int v, .int (nI i)] [] h bc bs Q := fun i w hi hw k1 k2 => by
    have c4 : (Int32.ofNat 4) ≤ nI i ↔ 4 ≤ i := nI_leI (a := 4) (by omega) (by omega)
    refine X11_isColourCount_2 ⟨4, Or.inl ra, fun w => by have := c4.mp w; omega, fun _ => ⟨⟨4, ra, (ix_nI (by omega)).mpr hi⟩, ?_⟩⟩
    rw [nI_clamp (by omega), hw]
    refine ⟨fun z x6 e6 => ?_, fun z => k1 z.symm⟩
    have e6' : x6 = nI (i + 1) := by rw [e6]; exact nI_add _ 1
    rw [e6']
    exact k2 (fun q => z q.symm)
  obtain ⟨-, o0, o1, o2, o3⟩ := O.2.1
  refine X11_isColourCount_e (X11_isColourCount_0 ?_)
  refine stp_ 0 3 (by decide) o0 (fun z => k _ (Or.inl ⟨rfl, Or.inl z⟩)) (fun z0 => ?_)
  refine stp_ 1 5 (by decide) o1 (fun z => k _ (Or.inl ⟨rfl, Or.inr (Or.inl z)⟩)) (fun z1 => ?_)
  refine stp_ 2 7 (by decide) o2 (fun z => k _ (Or.inl ⟨rfl, Or.inr (Or.inr (Or.inl z))⟩)) (fun z2 => ?_)
  refine stp_ 3 11 (by decide) o3 (fun z => k _ (Or.inl ⟨rfl, Or.inr (Or.inr (Or.inr z))⟩)) (fun z3 => ?_)
  refine X11_isColourCount_2 ⟨4, Or.inl ra, fun _ => k _ (Or.inr ⟨rfl, fun w => ?_⟩), fun w => absurd (show (Int32.ofNat 4) ≤ nI (3 + 1) by decide) w⟩
  rcases w with w | w | w | w
  · exact z0 w
  · exact z1 w
  · exact z2 w
  · exact z3 w
theorem mds {v : Int32} (w : v = nI 3 ∨ v = nI 5 ∨ v = nI 7 ∨ v = nI 11) : ∃ md : Nat, v = nI md ∧ inv_ md ∧ prm md ∧ (md = 3 ∨ md = 5 ∨ md = 7 ∨ md = 11) := by
  rcases w with w | w | w | w
  · exact ⟨3, w, inv_3, prm_3, Or.inl rfl⟩
  · exact ⟨5, w, inv_5, prm_5, Or.inr (Or.inl rfl)⟩
  · exact ⟨7, w, inv_7, prm_7, Or.inr (Or.inr (Or.inl rfl))⟩
  · exact ⟨11, w, inv_11, prm_11, Or.inr (Or.inr (Or.inr rfl))⟩
theorem fcs_rank {h2 h' : AH} {g' : Nat → Nat} (F2 : fr [82, 83] h h2) (F : fP h2 h') (g1 : ∀ i, i < 40 → ah_q h' 84 i = some (85 + g' i) ∧ g' i < 40) (g2 : ∀ i j, i < 40 → j < 40 → g' i = g' j → i = j) : fcs h h' := by
  refine fcs_trans (fcs_fr F2 (by decide)) ⟨F.1, fun a ha => ?_, fun K => fP_sp K F, fun L => ?_⟩
  · have r := (by decide : ∀ a, a ∈ rwc → a ∈ Cscr)
    obtain ⟨t1, t2, t3⟩ := F.2.2.2.1 a (fun q => ha (r a q))
    refine ⟨by rw [F.2.1], t1, t2, t3, by rw [F.2.2.1], F.2.2.2.2 a (fun q => ?_)⟩
    subst q
    exact ha (by decide)
  · obtain ⟨l1, l2, -⟩ := L
    exact ⟨by rw [F.2.2.1]; exact l1, by rw [F.2.2.2.2 34 (by decide)]; exact l2, g', g1, g2⟩
theorem m_colours {p n md r l : Nat} {A m so : Nat → Nat} (K : sp h) (P : Pr n A m) (h40 : n ≤ 40) (hp : p < 368) (hmd : 2 ≤ md ∧ md ≤ 11) (pm : prm md) (M : mD h p n l A) (hso : ∀ x, x < 4 * n → so x < ct (lm (sg n m)) (4 * n) ∧ (∀ y, y < 4 * n → lm (sg n m) y → sg n m y x → so x = ct (lm (sg n m)) y) ∧ ∀ x', x' < 4 * n → (so x = so x' ↔ sg n m x x')) (E : EL md (fun i c => (cV so md i c : Int)) n (ct (lm (sg n m)) (4 * n)) r)
    (k : ∀ h', fms h h' → Q (some (.int (nI (ct (lm (sg n m)) (4 * n)) - nI r + nI l))) h') : ex_S yX12_coloursOf mX12_coloursOf (d + 1) [.ref 168, .int (nI p), .int (nI md)] h bc bs Q := by
  refine X12_coloursOf_e (X12_coloursOf_0 ?_)
  refine m_strands K P h40 hp M.1 M.2.2.2 (fun h1 lab F1 L => ?_)
  have K1 := sp_fr K F1
  refine m_sums K1 P h40 hp hmd (by rw [fr_i F1 170 (by decide)]; exact M.1) (fun e he => by rw [fr_i F1 173 (by decide)]; exact M.2.2.2 e he) L (fun h2 F2 Sv => ?_)
  have K2 := sp_fr K1 F2
  refine m_cols (l := l) K2 hmd pm Sv h40 hp (by rw [fr_i F2 170 (by decide), fr_i F1 170 (by decide)]; exact M.1) (by rw [fr_i F2 171 (by decide), fr_i F1 171 (by decide)]; exact M.2.1) (fun h3 r2 F3 E2 _ => ?_)
  rw [← rank_same P L pm hso E E2, ← i3_comm]
  exact k h3 (fms_trans (fms_sc F1 (by decide)) (fms_trans (fms_sc F2 (by decide)) (fms_sc F3 (by decide))))
theorem st_colours (x : R0 h W N B S len) (p v : Int32) : ST yX11_colours mX11_colours yX12_colours mX12_colours (d + 5) (d + 5) [.int p, .int v] h bc bs W S len := by
  have K := x.2.1
  obtain ⟨h24, hN, hN2, hP⟩ := x.2.2.2.2.1
  have hv := hasP (p := p) hN h24
  have ref2 : (¬ ix p N ∨ ¬ (v = nI 3 ∨ v = nI 5 ∨ v = nI 7 ∨ v = nI 11)) → ex_S yX12_colours mX12_colours (d + 5) [.ref 168, .int p, .int v] (cNo h (-nI 2)) 0 0 (fun r' h2 => r' = some (.int (-nI 2)) ∧ DONE h h2 W S len) := fun w => by
    have Kc := (R1_cNo x.2 (fcs_refl h) (-nI 2)).1
    have q6 : ah_f (cNo h (-nI 2)) 168 6 = nI N := by unfold cNo; rw [f_sf_n _ _ _ _ _ (by decide)]; exact hN2
    have iv := isP_ (p := p) q6 h24
    have fin : ∀ h5, h5 = X12_no_H 168 (-2) (cNo h (-nI 2)) → (some (Value.int (X12_no_V 168 (-2) (cNo h (-nI 2)))) = some (.int (-nI 2)) ∧ DONE h h5 W S len) := fun h5 e5 => ⟨rfl, by rw [e5]; exact D_no x (fcs_refl h) (-nI 2) (fms_refl _)⟩
    refine X12_colours_e (X12_colours_0 ⟨o168 Kc, isPC Kc p, fun _ => ⟨noC Kc _, fin⟩, fun z => ?_⟩)
    rcases w with w | w
    · exact absurd (iv.mpr w) z
    · exact ⟨fun q => absurd (Or.inl q) w, fun _ => ⟨fun q => absurd (Or.inr (Or.inl q)) w, fun _ => ⟨fun q => absurd (Or.inr (Or.inr (Or.inl q))) w, fun _ => ⟨fun q => absurd (Or.inr (Or.inr (Or.inr q))) w, fun _ => ⟨noC Kc _, fin⟩⟩⟩⟩⟩
  refine X11_colours_e (X11_colours_0 ⟨o0 K, hasPC K p, fun z => c_no K 2 (by decide) ⟨_, rfl, _, rfl, ref2 (Or.inl (hv.mp z))⟩, fun z => ?_⟩)
  have ip : ix p N := Classical.not_not.mp (fun w => z (hv.mpr w))
  obtain ⟨p0, hp0, ep⟩ := ix_of ip (by omega)
  subst ep
  refine c_isCC x.2.2.2.1 (fun xc hc => ⟨_, rfl, fun w1 => ⟨o0 K, 7, r0_4 K, ?_⟩, fun w0 => ⟨o0 K, c_no K 2 (by decide) ⟨_, rfl, _, rfl, ref2 (Or.inr ?_)⟩⟩⟩)
  · have hcc : v = nI 3 ∨ v = nI 5 ∨ v = nI 7 ∨ v = nI 11 := by
      rcases hc with q | q
      · exact q.2
      · exact absurd q.1 w1
    obtain ⟨md, e, im, pm, hmd⟩ := mds hcc
    subst e
    have to37 : ∀ hz, sp hz → ah_f hz 168 6 = nI N → ∀ Q, ex_G mX12_colours (d + 5) 37 [.ref 168, .int (nI p0), .int (nI md), .retAddr 0] [] hz 0 0 Q → ex_S yX12_colours mX12_colours (d + 5) [.ref 168, .int (nI p0), .int (nI md)] hz 0 0 Q := fun hz Kz q6 Q k => by
      have iv := isP_ (p := nI p0) q6 h24
      refine X12_colours_e (X12_colours_0 ⟨o168 Kz, isPC Kz _, fun w => absurd ip (iv.mp w), fun _ => ⟨fun _ => k, fun a => ⟨fun _ => k, fun b => ⟨fun _ => k, fun c => ⟨fun _ => k, fun e => ?_⟩⟩⟩⟩⟩)
      rcases hcc with q | q | q | q
      · exact absurd q a
      · exact absurd q b
      · exact absurd q c
      · exact absurd q e
    refine c_look x.2 hp0 (Or.inl rfl) (fun h1 n op F => ⟨_, rfl, fun _ => ⟨o0 (sp_fr K F), c_f (sp_fr K F) 3 (by decide) (by decide) ⟨_, rfl, _, rfl, ?_⟩⟩, fun w => absurd rfl w⟩) (fun h1 n l wh F l1 l2 LFh => ⟨_, rfl, fun w => absurd w (by decide), fun _ => ?_⟩)
    · have Fc := fcs_fr F lkc7
      obtain ⟨-, hn, h40, r, pl, r0, O⟩ := op
      have Rf := R1_cF x.2 Fc 3
      refine to37 _ Rf.1 Rf.2.2.2.1.2.2.1 _ (X12_colours_37 ⟨o168 Rf.1, m_refusal Rf (kc_f Fc 3) hp0 hn h40 O (fun w => absurd w r0) (fun _ h3 G3 => ⟨_, rfl, fun w => absurd w (by decide), fun _ => ⟨rfl, ?_⟩⟩)⟩)
      exact D_f x Fc (by decide) (by decide) G3
    · have K1 := sp_fr K F
      obtain ⟨-, hn, h40, h9, ⟨pl, O⟩, C, M, R⟩ := wh
      obtain ⟨-, -, g, g1, g2⟩ := LAC_q x.2.2.1 F.1.2.2.1 F.1.2.2.2
      obtain ⟨so, hso⟩ := so_ex R
      refine ⟨o0 K1, 82, r0_11 K1, 7, r0_4 K1, o82 K1, c_powerOf (d := d + 1) (lb := 7) (l := l) K1 (lk7 K1) (by decide) R h40 l1 l2 LFh.1 im pm hmd hso g1 g2 (fun h2 h3 g' r F2 F3 q1 q2 E _ => ⟨_, rfl, ?_⟩)⟩
      have Fc := fcs_trans (fcs_fr F lkc7) (fcs_rank F2 F3 q1 q2)
      have K3 := fP_sp (sp_fr K1 F2) F3
      refine ⟨o0 K3, grC K3 _, fun h25 e25 => ⟨_, rfl, ?_⟩⟩
      rw [grV]
      rw [grH] at e25
      rw [e25]
      have Rf := R1_cNo x.2 Fc (nI 0)
      have sl0 : sl h (cNo h3 (nI 0)) p0 := by
        have i_ : ∀ a, a ∉ Cscr → ah_i (cNo h3 (nI 0)) a = ah_i h a := fun a ha => by rw [i_cNo]; exact (Fc.2.1 a ha).2.2.1
        exact sl_of p0 (i_ 170 (by decide)) (i_ 171 (by decide)) (i_ 172 (by decide)) (i_ 173 (by decide))
      refine to37 _ Rf.1 Rf.2.2.2.1.2.2.1 _ (X12_colours_37 ⟨o168 Rf.1, m_refusal Rf (kc_no Fc (nI 0)) hp0 hn h40 O (fun _ h4 G4 G4' z4 g4 => ⟨_, rfl, fun _ => ?_, fun w => absurd (show (0 : Int32) ≤ nI 0 by decide) w⟩) (fun w => absurd rfl w)⟩)
      have K4 := G4.2.2.1 Rf.1
      have M4 := mD_sl M h40 (sl_trans sl0 (G4.2.2.2.2 p0 (by omega)))
      refine ⟨o168 K4, m_colours (d := d + 3) K4 R h40 (by omega) (by omega) pm M4 hso E (fun h5 G5 => ⟨_, rfl, o168 (G5.2.2.1 K4), weC (G5.2.2.1 K4) _, fun h10 e10 => ⟨rfl, ?_⟩⟩)⟩
      rw [e10]
      exact D_no x Fc (nI 0) (fms_trans G4 G5)
  · rcases hc with q | q
    · rw [q.1] at w0
      exact absurd w0 (by decide)
    · exact q.2
end COLOURS
