/-! picture, twin; how a call that makes a picture ends. -/
section PICT
variable {h h2 h3 h9 hx : AH} {d bc bs : Nat} {Q : Option Value → AH → Prop} {W : Nat → Nat} {N : Nat} {B : Nat → Nat} {S : Nat → Int32} {len : Nat}
theorem AL_eq {c a : Nat} (A : AL hx h2 N (ah_n hx) c) (h1 : a ≠ 0) (h2' : a ≠ 1) (h3' : a < ah_n hx ∨ ah_n hx + 3 ≤ a) : eqc hx h2 a := A.2.2.1 a (by omega) (by omega) (by omega) h1 h2'
theorem D_add {c : Nat} (x : R0 h W N B S len) (h24 : N < 24) (hmax : ah_n h + 3 ≤ 10000000) (F : fcs h hx) (A : AL hx h2 N (ah_n hx) c) (K2 : sp h2) (G : fms (cNo h2 (nI 0)) h3) (F9 : fr [168, 170, 171, 172, 173, 174] h3 h9) (s9 : ∀ u, u ≠ N → sl h3 h9 u) (q9 : ∀ q, q ≠ N → ah_i h9 174 q = ah_i h3 174 q) (v9 : ah_i h9 174 N = nI 0) (f9 : ah_f h9 168 = u1 (u1 (ah_f h3 168) 6 (nI (N + 1))) 0 (nI 0)) (r : rp h9 (ah_n h) N) : DONE h h9 W S len := by
  have nx : ah_n hx = ah_n h := F.1
  have h216 := x.2.1.1
  have n2 : ah_n h2 = ah_n h + 3 := by rw [A.1, nx]
  have n3 : ah_n h3 = ah_n h + 3 := by rw [G.1, n_cNo, n2]
  have n9 : ah_n h9 = ah_n h + 3 := by rw [F9.1.1, n3]
  have c2 : ∀ a, a ≠ 0 → eqc h2 (cNo h2 (nI 0)) a := fun a ha => ⟨by rw [k_cNo], by unfold cNo; rw [f_sf_n _ _ _ _ _ ha], by rw [i_cNo], by unfold cNo; rw [l_sf], by rw [r_cNo], by unfold cNo; rw [q_sf]⟩
  have all : ∀ a, a ∉ Cscr → a ≠ 0 → a ≠ 1 → (a < ah_n h ∨ ah_n h + 3 ≤ a) → a ∉ Mscr → a ≠ 174 → eqc h h9 a := fun a a1 a2 a3 a4 a5 a6 => eqc_trans (F.2.1 a a1) (eqc_trans (AL_eq A a2 a3 (by omega)) (eqc_trans (c2 a a2) (eqc_trans (G.2.1 a a5) (eqc_fr F9 (fun q => by
    have := (by decide : ∀ a, a ∈ [168, 170, 171, 172, 173, 174] → a ∈ Mscr ∨ a = 174) a q
    rcases this with w | w
    · exact a5 w
    · exact a6 w)))))
  have m2 : ∀ a, 168 ≤ a → a < 216 → eqc h (cNo h2 (nI 0)) a := fun a a1 a2 => eqc_trans (F.2.1 a (fun q => by have := (by decide : ∀ a, a ∈ Cscr → a < 125) a q; omega)) (eqc_trans (AL_eq A (by omega) (by omega) (by omega)) (c2 a (by omega)))
  have sl3 : ∀ s, s < 364 → sl h h3 s := fun s hs => sl_trans (sl_of s (m2 170 (by decide) (by decide)).2.2.1 (m2 171 (by decide) (by decide)).2.2.1 (m2 172 (by decide) (by decide)).2.2.1 (m2 173 (by decide) (by decide)).2.2.1) (G.2.2.2.2 s hs)
  have z0 : ∀ a, a = 0 ∨ a = 1 → eqc (cNo h2 (nI 0)) h9 a := fun a ha => eqc_trans (G.2.1 a (by rcases ha with e | e <;> rw [e] <;> decide)) (eqc_fr F9 (by rcases ha with e | e <;> rw [e] <;> decide))
  have e0 : ah_f h9 0 = u1 (u1 (ah_f h 0) 15 (nI (N + 1))) 19 (nI 0) := by
    rw [(z0 0 (by omega)).2.1]
    unfold cNo
    rw [f_sf_s, A.2.2.2.1.2.2, (F.2.1 0 (by decide)).2.1]
  have e1 : ah_q h9 1 = u1 (ah_q h 1) N (some (ah_n h)) := by
    rw [(z0 1 (by omega)).2.2.2.2.2]
    unfold cNo
    rw [q_sf, A.2.2.2.2.1.2.2, (F.2.1 1 (by decide)).2.2.2.2.2, nx]
  have e168 : ∀ k, k ≠ 0 → k ≠ 6 → k ≠ 9 → ah_f h9 168 k = ah_f h 168 k := fun k k1 k2 k3 => by
    rw [f9, u1_n _ _ k1, u1_n _ _ k2, G.2.2.2.1 k k3, (m2 168 (by decide) (by decide)).2.1]
  have bg : ∀ a, ah_n h ≤ a → a < ah_n h + 3 → eqc h2 h9 a := fun a a1 a2 => eqc_trans (c2 a (by omega)) (eqc_trans (G.2.1 a (mscr_no (by omega))) (eqc_fr F9 (fun q => by have := (by decide : ∀ a, a ∈ [168, 170, 171, 172, 173, 174] → a < 216) a q; omega)))
  have i174 : ah_i h3 174 = ah_i h 174 := by rw [(G.2.1 174 (by decide)).2.2.1, (m2 174 (by decide) (by decide)).2.2.1]
  have K3 : sp h3 := G.2.2.1 (sp_fr (L := [0]) K2 (fr_sf (fr_refl _ h2) (by decide)))
  have K9 := sp_fr K3 F9
  have L9 : LAC h9 := by
    have La := F.2.2.2 x.2.2.1
    obtain ⟨y1, y2, y3⟩ := La
    have ee : ∀ a, a ≠ 0 → a ≠ 1 → a < 125 → eqc hx h9 a := fun a a1 a2 a3 => eqc_trans (AL_eq A a1 a2 (by omega)) (eqc_trans (c2 a a1) (eqc_trans (G.2.1 a (fun q => by have := (by decide : ∀ a, a ∈ Mscr → 168 ≤ a) a q; omega)) (eqc_fr F9 (fun q => by have := (by decide : ∀ a, a ∈ [168, 170, 171, 172, 173, 174] → 168 ≤ a) a q; omega))))
    refine ⟨fun b hb => ?_, fun i hi => ?_, ?_⟩
    · rw [(ee b (by omega) (by omega) (by omega)).2.2.2.2.1]; exact y1 b hb
    · rw [(ee 34 (by decide) (by decide) (by decide)).2.2.2.2.2]; exact y2 i hi
    · rw [(ee 84 (by decide) (by decide) (by decide)).2.2.2.2.2]; exact y3
  have lo : ∀ a, a ∉ Cscr → a ∉ Mscr → a ≠ 0 ∧ a ≠ 1 ∧ a ≠ 174 → a < 216 → eqc h h9 a := fun a a1 a2 a3 a4 => all a a1 a3.1 a3.2.1 (by omega) a2 a3.2.2
  refine ⟨fun a => if ah_n h ≤ a then N else W a, N + 1, u1 B N (ah_n h), R_add x h24 rfl n9 K9 L9 (fun a ha => all a (cscr_no (by omega)) (by omega) (by omega) (by omega) (mscr_no (by omega)) (by omega)) (fun a a1 a2 a3 a4 a5 a6 _ _ _ => all a a2 a4 a5 (by omega) a3 a6) e1 (fun k k1 k2 => by rw [e0, u1_n _ _ k2, u1_n _ _ k1]) (by rw [e0, u1_n _ _ (by decide), u1_s]) (fun k k1 k2 k3 _ => e168 k k1 k2 k3) (by rw [f9, u1_n _ _ (by decide), u1_s]) (by rw [e0, u1_s, f9, u1_s]) (fun s hs hsN => sl_trans (sl3 s (by omega)) (s9 s hsN)) (fun q hq => by rw [q9 q hq, i174]) v9 ?_ ?_ r ?_ ?_ ?_, ⟨fun a ha => ?_, fun k k1 k2 => e168 k (by omega) (by omega) (by omega), fun s s1 s2 => sl_trans (sl3 s s2) (s9 s (by omega))⟩, fun a ha => if_neg (by omega), by omega, by omega⟩
  · exact NU_eq x.2.2.2.2.2.2.1.2.2 (lo 134 (by decide) (by decide) (by decide) (by decide)).2.1 (e168 59 (by decide) (by decide) (by decide)) (lo 135 (by decide) (by decide) (by decide) (by decide)).2.2.1 (lo 212 (by decide) (by decide) (by decide) (by decide)).2.2.1
  · have P2 := A.2.2.2.2.2.1
    rw [nx] at P2
    exact pt_eq P2 (bg _ (by omega) (by omega)) (bg _ (by omega) (by omega)) (bg _ (by omega) (by omega)) (by omega)
  · rw [(bg _ (by omega) (by omega)).2.1, ← nx]; exact A.2.2.2.2.2.2.1.2.2.1
  · rw [(bg _ (by omega) (by omega)).2.1, ← nx]; exact A.2.2.2.2.2.2.1.2.2.2.1
  · rw [(bg _ (by omega) (by omega)).2.2.2.2.1, ← nx]; exact A.2.2.2.2.2.2.1.2.2.2.2
  · refine all a (fun q => ?_) (by omega) (by omega) (by omega) (fun q => ?_) (by omega)
    · have := (by decide : ∀ a, a ∈ Cscr → a < 125) a q
      omega
    · have := (by decide : ∀ a, a ∈ Mscr → 168 ≤ a ∧ a < 216 ∧ ¬ (209 ≤ a ∧ a ≤ 211)) a q
      omega
/-- what is at the new picture's cells, at the end -/
theorem AL_end {c : Nat} (h216 : 216 ≤ ah_n h) (F : fcs h hx) (A : AL hx h2 N (ah_n hx) c) (G : fms (cNo h2 (nI 0)) h3) (F9 : fr [168, 170, 171, 172, 173, 174] h3 h9) : ah_f h9 (ah_n h) 2 = ah_f hx c 2 ∧ ah_f h9 (ah_n h) 3 = ah_f hx c 3 ∧ (∀ i, i < 40 → ah_i h9 (ah_n h + 1) i = ah_i hx (c + 1) i) ∧ ∀ e, e < 160 → ah_i h9 (ah_n h + 2) e = ah_i hx (c + 2) e := by
  have nx : ah_n hx = ah_n h := F.1
  have c2 : ∀ a, a ≠ 0 → eqc h2 (cNo h2 (nI 0)) a := fun a ha => ⟨by rw [k_cNo], by unfold cNo; rw [f_sf_n _ _ _ _ _ ha], by rw [i_cNo], by unfold cNo; rw [l_sf], by rw [r_cNo], by unfold cNo; rw [q_sf]⟩
  have bg : ∀ a, ah_n h ≤ a → eqc h2 h9 a := fun a a1 => eqc_trans (c2 a (by omega)) (eqc_trans (G.2.1 a (mscr_no (by omega))) (eqc_fr F9 (fun q => by have := (by decide : ∀ a, a ∈ [168, 170, 171, 172, 173, 174] → a < 216) a q; omega)))
  obtain ⟨-, -, -, -, -, -, ⟨A1, A2, -⟩, A3, A4⟩ := A
  rw [nx] at A1 A2 A3 A4
  exact ⟨by rw [(bg _ (Nat.le_refl _)).2.1]; exact A1, by rw [(bg _ (Nat.le_refl _)).2.1]; exact A2, fun i hi => by rw [(bg _ (by omega)).2.2.1]; exact A3 i hi, fun e he => by rw [(bg _ (by omega)).2.2.1]; exact A4 e he⟩
theorem fullQ (hN : ah_f h 0 15 = nI N) (h24 : N ≤ 24) : X11_isFull_V 0 h = 0 ↔ N < 24 := by
  unfold X11_isFull_V
  rw [hN]
  have c : nI N < 24 ↔ N < 24 := nI_ltI (b := 24) (by omega) (by omega)
  by_cases q : N < 24
  · rw [if_pos (c.mpr q)]; exact ⟨fun _ => q, fun _ => rfl⟩
  · rw [if_neg (fun z => q (c.mp z))]; exact ⟨fun z => absurd z (by decide), fun z => absurd z q⟩
/-- on heaps that the class's grant or refusal left: what added and the like see -/
theorem see_add (x : R0 h W N B S len) {c : Nat} (F : fcs h hx) (A : AL hx h2 N (ah_n hx) c) (K2 : sp h2) : ah_f (cNo h2 (nI 0)) 168 = ah_f h 168 ∧ sp (cNo h2 (nI 0)) ∧ (∀ t, sl h (cNo h2 (nI 0)) t) ∧ ∀ a, 168 ≤ a → a < 216 → eqc h (cNo h2 (nI 0)) a := by
  have h216 := x.2.1.1
  have nx : ah_n hx = ah_n h := F.1
  have c2 : ∀ a, a ≠ 0 → eqc h2 (cNo h2 (nI 0)) a := fun a ha => ⟨by rw [k_cNo], by unfold cNo; rw [f_sf_n _ _ _ _ _ ha], by rw [i_cNo], by unfold cNo; rw [l_sf], by rw [r_cNo], by unfold cNo; rw [q_sf]⟩
  have m2 : ∀ a, 168 ≤ a → a < 216 → eqc h (cNo h2 (nI 0)) a := fun a a1 a2 => eqc_trans (F.2.1 a (fun q => by have := (by decide : ∀ a, a ∈ Cscr → a < 125) a q; omega)) (eqc_trans (AL_eq A (by omega) (by omega) (by omega)) (c2 a (by omega)))
  exact ⟨(m2 168 (by decide) (by decide)).2.1, sp_fr (L := [0]) K2 (fr_sf (fr_refl _ h2) (by decide)), fun t => sl_of t (m2 170 (by decide) (by decide)).2.2.1 (m2 171 (by decide) (by decide)).2.2.1 (m2 172 (by decide) (by decide)).2.2.1 (m2 173 (by decide) (by decide)).2.2.1, m2⟩
theorem rp_copy {c s b : Nat} (r : rp h c s) (e2 : ah_f h9 b 2 = ah_f h c 2) (e3 : ah_f h9 b 3 = ah_f h c 3) (eL : ∀ i, i < 40 → ah_i h9 (b + 1) i = ah_i h (c + 1) i) (eA : ∀ e, e < 160 → ah_i h9 (b + 2) e = ah_i h (c + 2) e) (z : sC h s h9 N) : rp h9 b N := by
  obtain ⟨n, l, y1, y2, y3, y4, y5, y6, y7, y8, y9⟩ := r
  have h40 := y6.1
  have z2 := z.2.2 n h40 y2
  refine ⟨n, l, e2.trans y1, z.1.trans y2, y3, e3.trans y4, z.2.1.trans y5, ⟨h40, fun c hc => ?_, fun e he => ?_⟩, fun c hc => ?_, fun e he => ?_, fun c i hc hi w => ?_⟩
  · rw [eL c (by omega)]; exact y6.2.1 c hc
  · rw [eA e (by omega)]; exact y6.2.2 e he
  · rw [z2.1 c hc, eL c (by omega)]; exact y7 c hc
  · rw [z2.2 e he, eA e (by omega)]; exact y8 e he
  · rw [eA _ (by omega)]
    refine y9 c i hc hi (fun l' hl' q => w l' hl' ?_)
    rw [eL c (by omega)]
    exact q
theorem st_twin (x : R0 h W N B S len) (hmax : ah_n h + 3 ≤ 10000000) (p : Int32) : ST yX11_twin mX11_twin yX12_twin mX12_twin (d + 3) (d + 2) [.int p] h (bc + 3) (bs + 207) W S len := by
  have K := x.2.1
  obtain ⟨h24, hN, hN2, hP⟩ := x.2.2.2.2.1
  have hv := hasP (p := p) hN h24
  have fq := fullQ hN h24
  refine X11_twin_e (X11_twin_0 ⟨o0 K, hasPC K p, fun z => ⟨⟨o0 K, trivial⟩, fun w => ⟨1, r0_0 K, ?_⟩, fun w => c_no K 3 (by decide) ⟨_, rfl, _, rfl, ?_⟩⟩, fun z => c_no K 2 (by decide) ⟨_, rfl, _, rfl, ?_⟩⟩)
  · obtain ⟨p0, hp0, ep⟩ := ix_of (Classical.not_not.mp (fun w => z (hv.mpr w))) (by omega)
    have hlt := fq.mp w
    obtain ⟨x1, x2, pt1, -, r1, -⟩ := (hP p0 hp0).2
    subst ep
    refine ⟨(s1 K _).mpr ((ix_nI (by omega)).mpr (by omega)), B p0, by rw [nI_clamp (by omega)]; exact (hP p0 hp0).1, c_addLike K hN hlt pt1 x2 (by omega) hmax (fun h2 A K2 => ⟨_, rfl, o0 K2, grC K2 _, fun h13 e13 => ⟨_, rfl, ?_⟩⟩)⟩
    have e13' : h13 = cNo h2 (nI 0) := e13
    rw [e13']
    obtain ⟨v1, v2, v3, v4⟩ := see_add x (fcs_refl h) A K2
    obtain ⟨n, l, y1, y2, y3, y4, y5, y6, -⟩ := id r1
    have ip : ix (nI p0) N := (ix_nI (by omega)).mpr hp0
    have iv := isP_ (h := cNo h2 (nI 0)) (p := nI p0) (N := N) (by rw [v1]; exact hN2) h24
    have c24 : nI N = 24 ↔ N = 24 := nI_eq (b := 24) (by omega) (by omega)
    refine X12_twin_e (X12_twin_0 ⟨o168 v2, isPC v2 _, fun _ => ⟨fun _ => m_added (N := N) (s := p0) v2 (by rw [v1]; exact hN2) hlt (by omega) (by omega) (by rw [(v3 p0).1]; exact y2) y6.1 (fun h9 F9 s9 c9 q9 g9 f9 => ⟨_, rfl, rfl, ?_⟩), fun w => ?_⟩, fun w => absurd ip (iv.mp w)⟩)
    · have ae := AL_end K.1 (fcs_refl h) A (fms_refl _) F9
      exact D_add x hlt hmax (fcs_refl h) A K2 (fms_refl _) F9 s9 q9 g9 f9 (rp_copy r1 ae.1 ae.2.1 ae.2.2.1 ae.2.2.2 (sl_sC (v3 p0) c9))
    · rw [v1, hN2, c24] at w
      omega
  · have hfull : ¬ N < 24 := fun q => w (fq.mpr q)
    have eN : N = 24 := by omega
    obtain ⟨q1, q3, q4, q5⟩ := see_no x (fcs_refl h) (-nI 3)
    have iv := isP_ (h := cNo h (-nI 3)) (p := p) (N := N) (by rw [q1]; exact hN2) h24
    have ip : ix p N := Classical.not_not.mp (fun w => z (hv.mpr w))
    have w24 : ah_f (cNo h (-nI 3)) 168 6 = 24 := by rw [q1, hN2, eN]; rfl
    exact X12_twin_e (X12_twin_0 ⟨o168 q4, isPC q4 _, fun _ => ⟨fun w => absurd w24 w, fun _ => ⟨noC q4 _, fun h8 e8 => ⟨rfl, by rw [e8]; exact D_no x (fcs_refl h) (-nI 3) (fms_refl _)⟩⟩⟩, fun w => absurd ip (iv.mp w)⟩)
  · obtain ⟨q1, q3, q4, q5⟩ := see_no x (fcs_refl h) (-nI 2)
    have iv := isP_ (h := cNo h (-nI 2)) (p := p) (N := N) (by rw [q1]; exact hN2) h24
    exact X12_twin_e (X12_twin_0 ⟨o168 q4, isPC q4 _, fun w => absurd (iv.mpr (hv.mp z)) w, fun _ => ⟨noC q4 _, fun h8 e8 => ⟨rfl, by rw [e8]; exact D_no x (fcs_refl h) (-nI 2) (fms_refl _)⟩⟩⟩)
theorem st_picture (x : R0 h W N B S len) (hmax : ah_n h + 3 ≤ 10000000) : ST yX11_picture mX11_picture yX12_picture mX12_picture (d + 3) (d + 1) [] h (bc + 3) (bs + 207) W S len := by
  have K := x.2.1
  obtain ⟨h24, hN, hN2, hP⟩ := x.2.2.2.2.1
  have fq := fullQ hN h24
  have P29 := pt29 K
  have h216 := K.1
  refine X11_picture_e (X11_picture_0 ⟨o0 K, ⟨o0 K, trivial⟩, fun w => ⟨29, r0_6 K, o29 K, c_empty (d := d + 1) P29 (fun h5 F5 g0 g2 g1 => ⟨rfl, o0 (sp_fr K F5), 29, r0_6 (sp_fr K F5), ?_⟩)⟩, fun w => c_no K 3 (by decide) ⟨_, rfl, _, rfl, ?_⟩⟩)
  · have hlt := fq.mp w
    have K5 := sp_fr K F5
    have Fc : fcs h h5 := fcs_fr F5 (by decide)
    have n5 : ah_n h5 = ah_n h := F5.1.1
    refine c_addLike K5 (by rw [fr_f F5 0 (by decide)]; exact hN) hlt (pt_fr P29 F5) (by omega) (by decide) (by omega) (fun h2 A K2 => ⟨_, rfl, o0 K2, grC K2 _, fun h13 e13 => ⟨_, rfl, ?_⟩⟩)
    have e13' : h13 = cNo h2 (nI 0) := e13
    rw [e13']
    obtain ⟨v1, v2, v3, v4⟩ := see_add x Fc A K2
    have c24 : ¬ nI N = 24 := fun z => by
      have := (nI_eq (b := 24) (by omega) (by omega)).mp z
      omega
    have hN4 : ah_f (cNo h2 (nI 0)) 168 6 = nI N := by rw [v1]; exact hN2
    have key : ∀ h9, h9 = mNo (ah_sf (ah_si (ah_si (ah_si (cNo h2 (nI 0)) 170 N (nI 0)) 171 N (nI 0)) 174 N (nI 0)) 168 6 (nI (N + 1))) (nI 0) → DONE h h9 W S len := by
      intro h9 e9
      have F9 : fr [168, 170, 171, 172, 173, 174] (cNo h2 (nI 0)) h9 := by rw [e9]; exact fr_sf (fr_sf (fr_si (fr_si (fr_si (fr_refl _ _) (by decide)) (by decide)) (by decide)) (by decide)) (by decide)
      have i0 : ah_i h9 170 = u1 (ah_i (cNo h2 (nI 0)) 170) N (nI 0) := by rw [e9, i_mNo, i_sf, i_si_n _ _ _ _ _ (by decide), i_si_n _ _ _ _ _ (by decide), i_si_s]
      have i1 : ah_i h9 171 = u1 (ah_i (cNo h2 (nI 0)) 171) N (nI 0) := by rw [e9, i_mNo, i_sf, i_si_n _ _ _ _ _ (by decide), i_si_s, i_si_n _ _ _ _ _ (by decide)]
      have i4 : ah_i h9 174 = u1 (ah_i (cNo h2 (nI 0)) 174) N (nI 0) := by rw [e9, i_mNo, i_sf, i_si_s, i_si_n _ _ _ _ _ (by decide), i_si_n _ _ _ _ _ (by decide)]
      have i2 : ah_i h9 172 = ah_i (cNo h2 (nI 0)) 172 := by rw [e9, i_mNo, i_sf, i_si_n _ _ _ _ _ (by decide), i_si_n _ _ _ _ _ (by decide), i_si_n _ _ _ _ _ (by decide)]
      have i3 : ah_i h9 173 = ah_i (cNo h2 (nI 0)) 173 := by rw [e9, i_mNo, i_sf, i_si_n _ _ _ _ _ (by decide), i_si_n _ _ _ _ _ (by decide), i_si_n _ _ _ _ _ (by decide)]
      have f9 : ah_f h9 168 = u1 (u1 (ah_f (cNo h2 (nI 0)) 168) 6 (nI (N + 1))) 0 (nI 0) := by rw [e9]; unfold mNo; rw [f_sf_s, f_sf_s, f_si, f_si, f_si]
      have ae := AL_end h216 Fc A (fms_refl _) F9
      refine D_add x hlt hmax Fc A K2 (fms_refl _) F9 (fun u hu => ⟨by rw [i0, u1_n _ _ hu], by rw [i1, u1_n _ _ hu], fun _ _ => by rw [i2], fun _ _ => by rw [i3]⟩) (fun q hq => by rw [i4, u1_n _ _ hq]) (by rw [i4, u1_s]) f9 (rp_of (n := 0) (l := 0) (A := fun _ => 0) ⟨?_, ?_, fun c hc => absurd hc (Nat.not_lt_zero c), fun e he => absurd he (Nat.not_lt_zero e)⟩ ⟨by rw [i0, u1_s], by rw [i1, u1_s], fun c hc => absurd hc (Nat.not_lt_zero c), fun e he => absurd he (Nat.not_lt_zero e)⟩ (by decide) (by decide) (fun e he => absurd he (Nat.not_lt_zero e)))
      · rw [ae.1, g0, u1_n _ _ (by decide), u1_s]
      · rw [ae.2.1, g0, u1_s]
    refine X12_picture_e (X12_picture_0 ⟨o168 v2, fun _ => ?_, fun w => ?_⟩)
    · have nd : ∀ k, k < 24 → ix (nI k) 368 := fun k hk => (ix_nI (by omega)).mpr (by omega)
      have ev : nI (N + 1) - nI 1 = nI N := pk_sub (a := N + 1) (b := 1) (by omega)
      simp (disch := omega) only [o168 v2, r168_2 v2, s170 v2, t170 v2, r168_3 v2, s171 v2, t171 v2, r168_7 v2, s174 v2, t174 v2, hN4, u1_s, forall_eq, Option.some.injEq, exists_eq_left', Option.getD_some, n_sf, k_sf, f_sf_s, f_sf_n, r_sf, i_sf, l_sf, q_sf, ld0_sf, st0_sf, ld1_sf, ld2_sf, ld3_sf, ah_o_sf, in__sf, cp__sf, ah_x_sf, ah_ra_sf, n_si, k_si, f_si, r_si, i_si_s, i_si_n, l_si, q_si, ld0_si, st0_si, ld1_si, ld2_si, ld3_si, ah_o_si, in__si, cp__si, ah_x_si, ah_ra_si, n_sl, k_sl, f_sl, r_sl, i_sl, l_sl_s, l_sl_n, q_sl, ld0_sl, st0_sl, ld1_sl, ld2_sl, ld3_sl, ah_o_sl, in__sl, cp__sl, ah_x_sl, ah_ra_sl, n_wi, k_wi, f_wi, r_wi, i_wi_s, i_wi_n, l_wi, q_wi, ld0_wi, st0_wi, ld1_wi, ld2_wi, ld3_wi, ah_o_wi, in__wi, cp__wi, ah_x_wi, ah_ra_wi, n_wl, k_wl, f_wl, r_wl, i_wl, l_wl_s, l_wl_n, q_wl, ld0_wl, st0_wl, ld1_wl, ld2_wl, ld3_wl, ah_o_wl, in__wl, cp__wl, ah_x_wl, ah_ra_wl, n_sr, k_sr, f_sr, r_sr_s, r_sr_n, i_sr, l_sr, q_sr, n_sq, k_sq, f_sq, r_sq, i_sq, l_sq, q_sq_s, q_sq_n, il_0, il_1, il_2, il_3, il_4, il_5, il_6, il_7, il_8, il_9, il_10, il_11, il_12, il_13, il_14, il_15, il_16, il_17, il_18, il_19, il_20, il_24, il_30, il_31, il_38, il_39, il_40, il_41, il_48, il_50, il_59, il_60, il_63, il_64, il_70, il_80, il_99, il_100, il_120, il_130, il_140, il_144, il_159, il_160, il_162, il_200, il_210, il_240, il_264, il_280, il_281, il_300, il_364, il_368, il_599, il_600, il_601, il_999, il_1610, il_1620, il_1800, il_4000, il_5000, il_7000, il_14500, il_58240, il_1000000, nI_clamp, ix_nI, nI_add, ev, weV, weH]
      refine ⟨by omega, by omega, hlt, weC (sp_fr (L := [168, 170, 171, 174]) v2 (fr_sf (fr_si (fr_si (fr_si (fr_refl _ _) (by decide)) (by decide)) (by decide)) (by decide))) _, rfl, key _ rfl⟩
    · rw [hN4] at w
      exact absurd w c24
  · have hfull : ¬ N < 24 := fun q => w (fq.mpr q)
    have eN : N = 24 := by omega
    obtain ⟨q1, q3, q4, q5⟩ := see_no x (fcs_refl h) (-nI 3)
    have w24 : ah_f (cNo h (-nI 3)) 168 6 = 24 := by rw [q1, hN2, eN]; rfl
    exact X12_picture_e (X12_picture_0 ⟨o168 q4, fun w => absurd w24 w, fun _ => ⟨noC q4 _, fun h8 e8 => ⟨rfl, by rw [e8]; exact D_no x (fcs_refl h) (-nI 3) (fms_refl _)⟩⟩⟩)
end PICT
