/-! searched, fewer. -/
section FEWER
variable {h h0 h1 h2 h3 h9 hx h' : AH} {d bc bs : Nat} {Q : Option Value → AH → Prop} {W W' : Nat → Nat} {N : Nat} {B : Nat → Nat} {S : Nat → Int32} {len : Nat} {u c cu s e f n l : Nat} {A : Nat → Nat} {D : SD} {G : Nat → Nat → (Nat → Nat) → Prop} {st : Int32}
theorem in03s {v : Int32} (h : AH) : X12_in_V v.toInt64 0 3 h = 0 ↔ ¬ ix v 4 := by
  refine (in_rg (v := v) 0 3 (by decide) (by decide) h).trans ?_
  unfold ix
  constructor <;> intro q p <;> exact q ⟨by omega, by omega⟩
theorem st_searched (x : R0 h W N B S len) (y : SC h W) (v : Int32) : ST3 yX11_searched mX11_searched yX12_searched mX12_searched (d + 1) (d + 2) [.int v] h bc bs S len := by
  have K := x.2.1
  have bad : ¬ ix v 4 → ex_S yX12_searched mX12_searched (d + 2) [.ref 168, .int v] (cNo h (-nI 2)) 0 0 (fun r' h2 => r' = some (.int (-nI 2)) ∧ DONE3 h h2 S len) := by
    intro nb
    obtain ⟨q1, q3, q4, q5⟩ := see_no x (fcs_refl h) (-nI 2)
    have iv := in03s (v := v) (cNo h (-nI 2))
    exact X12_searched_e (X12_searched_0 ⟨fun w => absurd (iv.mpr nb) w, fun _ => ⟨o168 q4, noC q4 _, fun h8 e8 => ⟨rfl, by rw [e8]; exact DONE_3 y (DONE_2 (D_no x (fcs_refl h) (-nI 2) (fms_refl _)))⟩⟩⟩)
  have e0 : (0 : Int32).toInt = 0 := by decide
  have e3 : (3 : Int32).toInt = 3 := by decide
  refine X11_searched_e (X11_searched_0 ⟨fun z => ⟨o0 K, c_no K 2 (by decide) ⟨_, rfl, _, rfl, bad (fun q => ?_)⟩⟩, fun z => ⟨fun z3 => ⟨o0 K, 125, r0_12 K, o125 K, fun b1 => ?_, fun b0 => ?_⟩, fun z3 => ⟨o0 K, c_no K 2 (by decide) ⟨_, rfl, _, rfl, bad (fun q => ?_)⟩⟩⟩⟩)
  · rw [Int32.lt_iff_toInt_lt, e0] at z
    have := q.1
    omega
  · have iv : ix v 4 := by
      rw [Int32.lt_iff_toInt_lt, e0] at z
      rw [Int32.le_iff_toInt_le, e3] at z3
      exact ⟨by omega, by omega⟩
    obtain ⟨i, hi, rfl⟩ := ix_of iv (by decide)
    obtain ⟨u, su, ⟨w, -⟩ | ⟨w8, w49, c, D, cu, s, e, st, P, ci, mi⟩⟩ := y
    · exact absurd w b1
    have y' : SC h W := ⟨u, su, Or.inr ⟨w8, w49, c, D, cu, s, e, st, P, ci, mi⟩⟩
    obtain ⟨q1, q3, q4, q5⟩ := see_no x (fcs_refl h) (nI 0)
    have iv2 := in03s (v := nI i) (cNo h (nI 0))
    have n49 : ah_f (cNo h (nI 0)) 168 49 = 1 := by rw [q1]; exact w49
    have ecz : ∀ a, a ≠ 0 → eqc h (cNo h (nI 0)) a := fun a ha => ⟨rfl, f_sf_n _ _ _ _ _ ha, rfl, rfl, rfl, rfl⟩
    have mi2 : MSI (cNo h (nI 0)) c D cu s e st := MSI_eq mi (PVI_12 P).1 (PVI_12 P).2 q4 (fun k _ _ => by rw [q1]) (fun a a1 a2 => (ecz a (by omega)).2.2.1) (fun t _ _ => q5 t)
    have P12 := PVI_12 P
    have c0 := P.1.1
    have el := P.2.1.1
    have blt := bst_lt (fun k => (D k).1) (c - 1)
    rw [show c - 1 + 1 = c by omega] at blt
    -- the class grants w, the reference the same
    have gr : ∀ w : Int32, ex_S yX12_searched mX12_searched (d + 2) [.ref 168, .int (nI i)] (cNo h (nI 0)) 0 0 (fun r' h2 => r' = some (.int w) ∧ DONE3 h h2 S len) → X11_grant_C 0 w h ∧ ∀ h13, h13 = X11_grant_H 0 w h → ∃ v : Int32, some (Value.int (X11_grant_V 0 w h)) = some (.int v) ∧ ex_S yX12_searched mX12_searched (d + 2) [.ref 168, .int (nI i)] h13 0 0 (fun r' h2 => r' = some (.int v) ∧ DONE3 h h2 S len) := fun w q => ⟨grC K _, fun h13 e13 => ⟨_, rfl, by
      have e13' : h13 = cNo h (nI 0) := e13
      rw [e13']
      exact q⟩⟩
    have we : ∀ w : Int32, X12_well_C 168 w (cNo h (nI 0)) ∧ ∀ h8, h8 = X12_well_H 168 w (cNo h (nI 0)) → (some (Value.int (X12_well_V 168 w (cNo h (nI 0)))) = some (.int w) ∧ DONE3 h h8 S len) := fun w => ⟨weC q4 _, fun h8 e8 => ⟨rfl, by rw [e8, weH]; exact DONE_3 y' (DONE_2 (D_no x (fcs_refl h) (nI 0) (fms_refl _)))⟩⟩
    have ne49 : ¬ ah_f (cNo h (nI 0)) 168 49 = 0 := fun w => absurd (n49.symm.trans w) (by decide)
    refine ⟨fun v0 => ⟨fun e0_ => gr _ ?_, fun e1_ => gr _ ?_⟩, fun v1 => gr _ ?_, fun v2 => ⟨126, r125_0 K, ?_⟩, fun v0 v1 v2 => gr _ ?_⟩
    · rw [ci.2.2.2.2.2.1] at e0_
      exact X12_searched_e (X12_searched_0 ⟨fun _ => ⟨o168 q4, fun _ => ⟨fun w => absurd v0 w, fun _ => ⟨fun _ => we 0, fun w => absurd (mi2.2.1.trans e0_) w⟩⟩, fun w => absurd w ne49⟩, fun w => absurd iv (iv2.mp w)⟩)
    · rw [ci.2.2.2.2.2.1] at e1_
      exact X12_searched_e (X12_searched_0 ⟨fun _ => ⟨o168 q4, fun _ => ⟨fun w => absurd v0 w, fun _ => ⟨fun w => absurd (mi2.2.1.symm.trans w) e1_, fun _ => we 1⟩⟩, fun w => absurd w ne49⟩, fun w => absurd iv (iv2.mp w)⟩)
    · have ew := we (ah_f (cNo h (nI 0)) 168 51)
      rw [ci.2.1.2.2.1, ← mi2.2.2.1]
      exact X12_searched_e (X12_searched_0 ⟨fun _ => ⟨o168 q4, fun _ => ⟨fun _ => ⟨fun w => absurd v1 w, fun _ => ew⟩, fun w => absurd (v1.symm.trans w) (by decide)⟩, fun w => absurd w ne49⟩, fun w => absurd iv (iv2.mp w)⟩)
    · refine c_smallest (W := W) (u := u) (D := D) K ci.2.1 c0 P12.2 ⟨_, rfl, ?_⟩
      obtain ⟨a, ya⟩ := ci.2.1.2.2.2 (bst (fun k => (D k).1) c) blt
      refine ⟨(s126 K _).mpr ((ix_nI (by omega)).mpr (by omega)), a, by rw [nI_clamp (by omega)]; exact ya.1, ya.2.1.2.1.2.1, o0 K, ?_⟩
      rw [ya.2.2.1.1]
      refine gr _ ?_
      have v2n : ¬ nI i = (0 : Int32) := fun w => absurd (v2.symm.trans w) (by decide)
      have v1n : ¬ nI i = (1 : Int32) := fun w => absurd (v2.symm.trans w) (by decide)
      refine X12_searched_e (X12_searched_0 ⟨fun _ => ⟨o168 q4, fun _ => ⟨fun _ => ⟨fun _ => ⟨fun w => absurd v2 w, fun _ => ⟨170, r168_2 q4, ?_⟩⟩, fun w => absurd w v1n⟩, fun w => absurd w v2n⟩, fun w => absurd w ne49⟩, fun w => absurd iv (iv2.mp w)⟩)
      refine m_fewest mi2 c0 P12.1 P12.2 ⟨_, rfl, ?_⟩
      have e264 : (264 : Int32) + nI (bst (fun k => (D k).1) c) = nI (264 + bst (fun k => (D k).1) c) := nI_add 264 _
      rw [e264, nI_clamp (by omega), (mi2.2.2.2.2.2.2 _ blt).1.1]
      exact ⟨(s170 q4 _).mpr ((ix_nI (by omega)).mpr (by omega)), o168 q4, we _⟩
    · have ew := we (ah_f (cNo h (nI 0)) 168 54)
      rw [ci.2.2.2.2.2.2.1, ← mi2.2.2.2.2.2.1]
      exact X12_searched_e (X12_searched_0 ⟨fun _ => ⟨o168 q4, fun _ => ⟨fun _ => ⟨fun _ => ⟨fun _ => ew, fun w => absurd w v2⟩, fun w => absurd w v1⟩, fun w => absurd w v0⟩, fun w => absurd w ne49⟩, fun w => absurd iv (iv2.mp w)⟩)
  · have iv : ix v 4 := by
      rw [Int32.lt_iff_toInt_lt, e0] at z
      rw [Int32.le_iff_toInt_le, e3] at z3
      exact ⟨by omega, by omega⟩
    refine c_f K 5 (by decide) (by decide) ⟨_, rfl, _, rfl, ?_⟩
    obtain ⟨q1, q3, q4, q5⟩ := see_f x (fcs_refl h) 5
    have iv2 := in03s (v := v) (cF h 5)
    have b0' : ah_f (cF h 5) 168 49 = 0 := by
      rw [q1]
      obtain ⟨u, -, ⟨-, w⟩ | ⟨w, -⟩⟩ := y
      · exact w
      · rw [b0] at w
        exact absurd w (by decide)
    refine X12_searched_e (X12_searched_0 ⟨fun _ => ⟨o168 q4, fun w => absurd b0' w, fun _ => ⟨meC (f := 5) q4 (by decide), fun h5 e5 => ⟨rfl, ?_⟩⟩⟩, fun w => absurd iv (iv2.mp w)⟩)
    rw [e5.trans (meH (f := 5) q4 (by decide))]
    exact DONE_3 y (DONE_2 (D_f x (fcs_refl h) (by decide) (by decide) (fms_refl _)))
  · refine z3 ?_
    rw [Int32.le_iff_toInt_le, e3]
    have := q.2
    omega
theorem D_addW {c L : Nat} (x : R0 h W N B S len) (y : SC h W) (h24 : N < 24) (hmax : ah_n h + 3 ≤ 10000000) (nx : ah_n hx = ah_n h) (Fx : ∀ a, a ∉ Cscr → a ≠ 134 → a ≠ 135 → eqc h hx a) (Lx : LAC hx) (A : AL hx h2 N (ah_n hx) c) (K2 : sp h2) (G : fr [168, 212] (cNo h2 (nI 0)) h3) (g3 : ah_f h3 168 = u1 (ah_f (cNo h2 (nI 0)) 168) 59 (nI L)) (F9 : fr [168, 170, 171, 172, 173, 174] h3 h9) (s9 : ∀ u, u ≠ N → sl h3 h9 u) (q9 : ∀ q, q ≠ N → ah_i h9 174 q = ah_i h3 174 q) (v9 : ah_i h9 174 N = nI 0) (f9 : ah_f h9 168 = u1 (u1 (ah_f h3 168) 6 (nI (N + 1))) 0 (nI 0)) (NW : NU h9 134 135 59 212 100) (r : rp h9 (ah_n h) N) : DONE3 h h9 S len := by
  have h216 := x.2.1.1
  have n2 : ah_n h2 = ah_n h + 3 := by rw [A.1, nx]
  have n3 : ah_n h3 = ah_n h + 3 := by rw [G.1.1, n_cNo, n2]
  have n9 : ah_n h9 = ah_n h + 3 := by rw [F9.1.1, n3]
  have c2 : ∀ a, a ≠ 0 → eqc h2 (cNo h2 (nI 0)) a := fun a ha => ⟨by rw [k_cNo], by unfold cNo; rw [f_sf_n _ _ _ _ _ ha], by rw [i_cNo], by unfold cNo; rw [l_sf], by rw [r_cNo], by unfold cNo; rw [q_sf]⟩
  have g2 : ∀ a, a ≠ 168 → a ≠ 212 → eqc (cNo h2 (nI 0)) h3 a := fun a a1 a2 => eqc_fr G (by simp only [List.mem_cons, List.not_mem_nil, or_false]; omega)
  have all : ∀ a, a ∉ Cscr → a ≠ 0 → a ≠ 1 → (a < ah_n h ∨ ah_n h + 3 ≤ a) → a ∉ Mscr → a ≠ 174 → a ≠ 134 → a ≠ 135 → a ≠ 212 → eqc h h9 a := fun a a1 a2 a3 a4 a5 a6 a7 a8 a9 => eqc_trans (Fx a a1 a7 a8) (eqc_trans (AL_eq A a2 a3 (by omega)) (eqc_trans (c2 a a2) (eqc_trans (g2 a (fun q => a5 (by rw [q]; decide)) a9) (eqc_fr F9 (fun q => by
    have := (by decide : ∀ a, a ∈ [168, 170, 171, 172, 173, 174] → a ∈ Mscr ∨ a = 174) a q
    rcases this with w | w
    · exact a5 w
    · exact a6 w)))))
  have m2 : ∀ a, 168 ≤ a → a < 216 → eqc h (cNo h2 (nI 0)) a := fun a a1 a2 => eqc_trans (Fx a (fun q => by have := (by decide +kernel : ∀ a, a ∈ Cscr → a < 125) a q; omega) (by omega) (by omega)) (eqc_trans (AL_eq A (by omega) (by omega) (by omega)) (c2 a (by omega)))
  have sl3 : ∀ s, sl h h3 s := fun s => sl_trans (sl_of s (m2 170 (by decide) (by decide)).2.2.1 (m2 171 (by decide) (by decide)).2.2.1 (m2 172 (by decide) (by decide)).2.2.1 (m2 173 (by decide) (by decide)).2.2.1) (sl_of s (g2 170 (by decide) (by decide)).2.2.1 (g2 171 (by decide) (by decide)).2.2.1 (g2 172 (by decide) (by decide)).2.2.1 (g2 173 (by decide) (by decide)).2.2.1)
  have z0 : ∀ a, a = 0 ∨ a = 1 → eqc (cNo h2 (nI 0)) h9 a := fun a ha => eqc_trans (g2 a (by omega) (by omega)) (eqc_fr F9 (by rcases ha with e | e <;> rw [e] <;> decide))
  have e0 : ah_f h9 0 = u1 (u1 (ah_f h 0) 15 (nI (N + 1))) 19 (nI 0) := by
    rw [(z0 0 (by omega)).2.1]
    unfold cNo
    rw [f_sf_s, A.2.2.2.1.2.2, (Fx 0 (by decide) (by decide) (by decide)).2.1]
  have e1 : ah_q h9 1 = u1 (ah_q h 1) N (some (ah_n h)) := by
    rw [(z0 1 (by omega)).2.2.2.2.2]
    unfold cNo
    rw [q_sf, A.2.2.2.2.1.2.2, (Fx 1 (by decide) (by decide) (by decide)).2.2.2.2.2, nx]
  have e168 : ∀ k, k ≠ 0 → k ≠ 6 → k ≠ 59 → ah_f h9 168 k = ah_f h 168 k := fun k k1 k2 k3 => by
    rw [f9, u1_n _ _ k1, u1_n _ _ k2, g3, u1_n _ _ k3, (m2 168 (by decide) (by decide)).2.1]
  have bg : ∀ a, ah_n h ≤ a → a < ah_n h + 3 → eqc h2 h9 a := fun a a1 a2 => eqc_trans (c2 a (by omega)) (eqc_trans (g2 a (by omega) (by omega)) (eqc_fr F9 (fun q => by have := (by decide : ∀ a, a ∈ [168, 170, 171, 172, 173, 174] → a < 216) a q; omega)))
  have i174 : ah_i h3 174 = ah_i h 174 := by rw [(g2 174 (by decide) (by decide)).2.2.1, (m2 174 (by decide) (by decide)).2.2.1]
  have K3 : sp h3 := sp_fr (sp_fr (L := [0]) K2 (fr_sf (fr_refl _ h2) (by decide))) G
  have K9 := sp_fr K3 F9
  have L9 : LAC h9 := LAC_eq Lx (fun a q => by
    have z := (by decide : ∀ a, a ∈ [73, 76, 79, 34, 84] → a ≠ 0 ∧ a ≠ 1 ∧ a < 125) a q
    exact eqc_trans (AL_eq A z.1 z.2.1 (by omega)) (eqc_trans (c2 a z.1) (eqc_trans (g2 a (by omega) (by omega)) (eqc_fr F9 (fun q => by have := (by decide : ∀ a, a ∈ [168, 170, 171, 172, 173, 174] → 168 ≤ a) a q; omega)))))
  have hW : ∀ a, a < ah_n h → (fun a => if ah_n h ≤ a then N else W a) a = W a := fun a ha => if_neg (by omega)
  refine ⟨fun a => if ah_n h ≤ a then N else W a, N + 1, u1 B N (ah_n h), R_add x h24 rfl n9 K9 L9 (fun a ha => all a (cscr_no (by omega)) (by omega) (by omega) (by omega) (mscr_no (by omega)) (by omega) (by omega) (by omega) (by omega)) (fun a a1 a2 a3 a4 a5 a6 a7 a8 a9 => all a a2 a4 a5 (by omega) a3 a6 a7 a8 a9) e1 (fun k k1 k2 => by rw [e0, u1_n _ _ k2, u1_n _ _ k1]) (by rw [e0, u1_n _ _ (by decide), u1_s]) (fun k k1 k2 _ k4 => e168 k k1 k2 k4) (by rw [f9, u1_n _ _ (by decide), u1_s]) (by rw [e0, u1_s, f9, u1_s]) (fun s hs hsN => sl_trans (sl3 s) (s9 s hsN)) (fun q hq => by rw [q9 q hq, i174]) v9 NW ?_ r ?_ ?_ ?_, SC_e y K9 (by omega) hW (fun a a1 a2 a3 => ?_) (fun a a1 a2 a3 => ?_) (fun k k1 k2 => e168 k (by omega) (by omega) (by omega)) (fun a a1 a2 => ?_) (fun s s1 s2 => sl_trans (sl3 s) (s9 s (by omega))), by omega, by omega⟩
  · have P2 := A.2.2.2.2.2.1
    rw [nx] at P2
    exact pt_eq P2 (bg _ (by omega) (by omega)) (bg _ (by omega) (by omega)) (bg _ (by omega) (by omega)) (by omega)
  · rw [(bg _ (by omega) (by omega)).2.1, ← nx]; exact A.2.2.2.2.2.2.1.2.2.1
  · rw [(bg _ (by omega) (by omega)).2.1, ← nx]; exact A.2.2.2.2.2.2.1.2.2.2.1
  · rw [(bg _ (by omega) (by omega)).2.2.2.2.1, ← nx]; exact A.2.2.2.2.2.2.1.2.2.2.2
  · exact all a (fun q => by have := (by decide +kernel : ∀ a, a ∈ Cscr → a < 125) a q; omega) (by omega) (by omega) (by omega) (mscr168 (by omega)) (by omega) (by omega) (by omega) (by omega)
  · exact all a (cscr_no a1) (by omega) (by omega) (by omega) (mscr_no a1) (by omega) (by omega) (by omega) (by omega)
  · exact (all a (fun q => by have := (by decide +kernel : ∀ a, a ∈ Cscr → a < 125) a q; omega) (by omega) (by omega) (by omega) (fun q => by have := (by decide +kernel : ∀ a, a ∈ Mscr → ¬ (209 ≤ a ∧ a ≤ 211)) a q; omega) (by omega) (by omega) (by omega) (by omega)).2.2.1
theorem st_fewer (x : R0 h W N B S len) (y : SC h W) (hmax : ah_n h + 3 ≤ 10000000) : ST3 yX11_fewer mX11_fewer yX12_fewer mX12_fewer (d + 3) (d + 2) [] h (bc + 3) (bs + 207) S len := by
  have K := x.2.1
  have h216 := K.1
  obtain ⟨h24, hN, hN2, hP⟩ := x.2.2.2.2.1
  have fq := fullQ hN h24
  refine X11_fewer_e (X11_fewer_0 ⟨o0 K, ⟨o0 K, trivial⟩, fun nf => ⟨125, r0_12 K, o125 K, fun b1 => ?_, fun b0 => c_f K 5 (by decide) (by decide) ⟨_, rfl, _, rfl, ?_⟩⟩, fun nf => c_no K 3 (by decide) ⟨_, rfl, _, rfl, ?_⟩⟩)
  · have hlt := fq.mp nf
    have y0 := y
    obtain ⟨u, su, ⟨w, -⟩ | ⟨w8, w49, c, D, cu, s, e, st, P, ci, mi⟩⟩ := y
    · exact absurd w b1
    have P12 := PVI_12 P
    have c0 := P.1.1
    have blt := bst_lt (fun k => (D k).1) (c - 1)
    rw [show c - 1 + 1 = c by omega] at blt
    obtain ⟨L, l1, l2, l3⟩ := chn_len (F := fun k => (D k).2.2.2.1) (c := c) (fun k k0 k1 => (P.1.2.2.2.2.2 k k0 k1).1) _ blt
    refine c_smallest (W := W) (u := u) (D := D) K ci.2.1 c0 P12.2 ⟨_, rfl, o0 K, 125, r0_12 K, o125 K, ?_⟩
    generalize hb : bst (fun k => (D k).1) c = b at blt l1 l2 l3 ⊢
    have gb := P.1.2.2.2.2.1 b blt
    have gb12 := gb.1
    refine c_tellWays (d := d + 1) (L := L) rfl rfl K ci.2.1 l1 blt l2 l3 (fun h11 F11 f11 w11 => ⟨rfl, ?_⟩)
    have K11 := sp_fr K F11
    obtain ⟨a, ya⟩ := ci.2.1.2.2.2 b blt
    have ya0 := ya.2.1.1
    have ya' := SKk_fr ya F11 (fun j _ => by simp only [List.mem_cons, List.not_mem_nil, or_false]; omega)
    refine ⟨o0 K11, 125, r0_12 K11, o125 K11, 126, r125_0 K11, (s126 K11 _).mpr ((ix_nI (by omega)).mpr (by omega)), a, by rw [nI_clamp (by omega)]; exact ya'.1, 29, r0_6 K11, ya'.2.1.2.1.2.1, ?_⟩
    refine c_pour (d := d) (A := (D b).2.2.1) ya'.2.1.2.1 (pt29 K11) (Or.inr (by omega)) gb12 ya'.2.2.1.1 ya'.2.2.1.2.1 ya'.2.2.1.2.2.2.1 (fun h20 F20 D20 => ⟨rfl, ?_⟩)
    have K20 := sp_fr K11 F20
    have n20 : ah_n h20 = ah_n h := F20.1.1.trans F11.1.1
    have FF : fr [134, 135, 29, 30, 31] h h20 := fr_trans (fr_mono F11 (by decide)) (fr_mono F20 (by decide))
    refine ⟨o0 K20, 29, r0_6 K20, ?_⟩
    refine c_addLike (d := d) K20 (by rw [fr_f FF 0 (by decide)]; exact hN) hlt (pt29 K20) (by omega) (by decide) (by omega) (fun h24_ A24 K24 => ⟨_, rfl, o0 K24, grC K24 _, fun h28 e28 => ⟨_, rfl, ?_⟩⟩)
    have e28' : h28 = cNo h24_ (nI 0) := e28
    rw [e28']
    have Fx : ∀ a, a ∉ Cscr → a ≠ 134 → a ≠ 135 → eqc h h20 a := fun a a1 a2 a3 => eqc_fr FF (fun q => by
      simp only [List.mem_cons, List.not_mem_nil, or_false] at q
      have : a = 29 ∨ a = 30 ∨ a = 31 := by omega
      exact a1 (by rcases this with z | z | z <;> rw [z] <;> decide))
    have c2 : ∀ a, a ≠ 0 → eqc h24_ (cNo h24_ (nI 0)) a := fun a ha => ⟨by rw [k_cNo], by unfold cNo; rw [f_sf_n _ _ _ _ _ ha], by rw [i_cNo], by unfold cNo; rw [l_sf], by rw [r_cNo], by unfold cNo; rw [q_sf]⟩
    have c1 : ∀ a, a ≠ 0 → a ≠ 1 → a < ah_n h → eqc h20 (cNo h24_ (nI 0)) a := fun a a1 a2 a3 => eqc_trans (AL_eq A24 a1 a2 (by omega)) (c2 a a1)
    have m2 : ∀ a, 168 ≤ a → a < 216 → eqc h (cNo h24_ (nI 0)) a := fun a a1 a2 => eqc_trans (Fx a (fun q => by have := (by decide +kernel : ∀ a, a ∈ Cscr → a < 125) a q; omega) (by omega) (by omega)) (c1 a (by omega) (by omega) (by omega))
    have Kz : sp (cNo h24_ (nI 0)) := sp_fr (L := [0]) K24 (fr_sf (fr_refl _ h24_) (by decide))
    have f168 := (m2 168 (by decide) (by decide)).2.1
    have mi2 : MSI (cNo h24_ (nI 0)) c D cu s e st := MSI_eq mi P12.1 P12.2 Kz (fun k _ _ => by rw [f168]) (fun a a1 a2 => (m2 a (by omega) (by omega)).2.2.1) (fun t _ _ => sl_of t (m2 170 (by decide) (by decide)).2.2.1 (m2 171 (by decide) (by decide)).2.2.1 (m2 172 (by decide) (by decide)).2.2.1 (m2 173 (by decide) (by decide)).2.2.1)
    have n49 : ah_f (cNo h24_ (nI 0)) 168 49 = 1 := by rw [f168]; exact w49
    have hN6 : ah_f (cNo h24_ (nI 0)) 168 6 = nI N := by rw [f168]; exact hN2
    have c24 : ¬ ah_f (cNo h24_ (nI 0)) 168 6 = 24 := fun w => by
      rw [hN6] at w
      have := (nI_eq (b := 24) (by omega) (by omega)).mp w
      omega
    refine X12_fewer_e (X12_fewer_0 ⟨o168 Kz, fun _ => ⟨fun _ => ?_, fun w => absurd (n49.symm.trans w) (by decide)⟩, fun w => absurd w c24⟩)
    refine m_fewest mi2 c0 P12.1 P12.2 ⟨_, rfl, o168 Kz, ?_⟩
    rw [hb]
    refine m_waysTo (L := L) rfl rfl mi2 P12.1 l1 blt l2 l3 (fun h6 F6 f6 w6 => ⟨rfl, ?_⟩)
    have K6 := sp_fr Kz F6
    have e264 : (264 : Int32) + nI b = nI (264 + b) := nI_add 264 b
    rw [e264]
    have M6 : mD h6 (264 + b) (D b).1 (D b).2.1 (D b).2.2.1 := mD_sc (mi2.2.2.2.2.2.2 b blt).1 F6 (by decide)
    have b100 := P12.1
    refine ⟨o168 K6, m_added (d := d) (N := N) (s := 264 + b) K6 (by rw [f6, u1_n _ _ (by decide)]; exact hN6) hlt (by omega) (by omega) M6.1 (by omega) (fun h9 F9 s9 c9 q9 v9 f9 => ⟨_, rfl, rfl, ?_⟩)⟩
    -- the end
    have e6 : ∀ a, a ≠ 168 → a ≠ 212 → eqc (cNo h24_ (nI 0)) h6 a := fun a a1 a2 => eqc_fr F6 (by simp only [List.mem_cons, List.not_mem_nil, or_false]; omega)
    have bg : ∀ a, ah_n h ≤ a → eqc h24_ h9 a := fun a a1 => eqc_trans (c2 a (by omega)) (eqc_trans (e6 a (by omega) (by omega)) (eqc_fr F9 (fun q => by have := (by decide : ∀ a, a ∈ [168, 170, 171, 172, 173, 174] → a < 216) a q; omega)))
    have wz : ∀ a, a = 134 ∨ a = 135 → eqc h11 h9 a := fun a ha => eqc_trans (eqc_fr F20 (by simp only [List.mem_cons, List.not_mem_nil, or_false]; omega)) (eqc_trans (c1 a (by omega) (by omega) (by omega)) (eqc_trans (e6 a (by omega) (by omega)) (eqc_fr F9 (by simp only [List.mem_cons, List.not_mem_nil, or_false]; omega))))
    have nw : NU h9 134 135 59 212 100 := by
      refine ⟨L, by omega, ?_, ?_, fun k hk => ?_⟩
      · rw [(wz 134 (by omega)).2.1]; exact f11
      · rw [f9, u1_n _ _ (by decide), u1_n _ _ (by decide), f6, u1_s]
      · rw [(wz 135 (by omega)).2.2.1, fr_i F9 212 (by decide), w11 k hk, w6 k hk]
    obtain ⟨-, -, -, -, -, -, ⟨A1, A2, -⟩, A3, A4⟩ := id A24
    rw [n20] at A1 A2 A3 A4
    have r : rp h9 (ah_n h) N := rp_of (n := (D b).1) (l := (D b).2.1) (A := (D b).2.2.1) ⟨by rw [(bg _ (Nat.le_refl _)).2.1, A1]; exact D20.1, by rw [(bg _ (Nat.le_refl _)).2.1, A2]; exact D20.2.1, fun c hc => by rw [(bg _ (by omega)).2.2.1, A3 c (by omega)]; exact D20.2.2.1 c hc, fun e he => by rw [(bg _ (by omega)).2.2.1, A4 e (by omega)]; exact D20.2.2.2 e he⟩ (mD_sC M6 (by omega) c9) (by omega) gb.2.1 (fun e he => gb.2.2.A100 he)
    exact D_addW (L := L) x y0 hlt hmax n20 Fx (LAC_q x.2.2.1 FF.1.2.2.1 FF.1.2.2.2) A24 K24 F6 f6 F9 s9 q9 v9 f9 nw r
  · have hlt := fq.mp nf
    obtain ⟨q1, q3, q4, q5⟩ := see_f x (fcs_refl h) 5
    have hN6 : ah_f (cF h 5) 168 6 = nI N := by rw [q1]; exact hN2
    have c24 : ¬ ah_f (cF h 5) 168 6 = 24 := fun w => by
      rw [hN6] at w
      have := (nI_eq (b := 24) (by omega) (by omega)).mp w
      omega
    have b0' : ah_f (cF h 5) 168 49 = 0 := by
      rw [q1]
      obtain ⟨u, -, ⟨-, w⟩ | ⟨w, -⟩⟩ := y
      · exact w
      · rw [b0] at w
        exact absurd w (by decide)
    refine X12_fewer_e (X12_fewer_0 ⟨o168 q4, fun _ => ⟨fun w => absurd b0' w, fun _ => ⟨meC (f := 5) q4 (by decide), fun h5 e5 => ⟨rfl, ?_⟩⟩⟩, fun w => absurd w c24⟩)
    rw [e5.trans (meH (f := 5) q4 (by decide))]
    exact DONE_3 y (DONE_2 (D_f x (fcs_refl h) (by decide) (by decide) (fms_refl _)))
  · have hfull : ¬ N < 24 := fun q => nf (fq.mpr q)
    have eN : N = 24 := by omega
    obtain ⟨q1, q3, q4, q5⟩ := see_no x (fcs_refl h) (-nI 3)
    have w24 : ah_f (cNo h (-nI 3)) 168 6 = 24 := by rw [q1, hN2, eN]; rfl
    exact X12_fewer_e (X12_fewer_0 ⟨o168 q4, fun w => absurd w24 w, fun _ => ⟨noC q4 _, fun h8 e8 => ⟨rfl, by rw [e8]; exact DONE_3 y (DONE_2 (D_no x (fcs_refl h) (-nI 3) (fms_refl _)))⟩⟩⟩)
end FEWER
