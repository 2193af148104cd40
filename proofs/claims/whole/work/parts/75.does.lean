/-! does, undoes. -/
section DOES
variable {h h1 h4 hz : AH} {d bc bs : Nat} {Q : Option Value → AH → Prop} {W : Nat → Nat} {N : Nat} {B : Nat → Nat} {S : Nat → Int32} {len : Nat} {M : Nat}
theorem settle_no {p v : Int32} (K : sp h1) (hv : ¬ v = 1) (k : ex_S yX11_refuse mX11_refuse (d + 1) [.ref 0, .int v] h1 0 0 (fun r h18 => ∃ x20, r = some (.int x20) ∧ Q (some (.int x20)) h18)) : ex_S yX11_settle mX11_settle (d + 2) [.ref 0, .int p, .int v] h1 (bc + 1) (bs + 1620) Q := X11_settle_e (X11_settle_0 ⟨fun w => absurd w hv, fun _ => ⟨o0 K, k⟩⟩)
/-- what the reference sees behind the class's refusal or grant -/
theorem see_no (x : R0 h W N B S len) {hx : AH} (F : fcs h hx) (v : Int32) : ah_f (cNo hx v) 168 = ah_f h 168 ∧ ah_i (cNo hx v) 197 = ah_i h 197 ∧ sp (cNo hx v) ∧ ∀ t, sl h (cNo hx v) t := by
  refine ⟨?_, ?_, (R1_cNo x.2 F v).1, fun t => sl_of t ?_ ?_ ?_ ?_⟩
  · unfold cNo; rw [f_sf_n _ _ _ _ _ (by decide), (F.2.1 168 (by decide)).2.1]
  · rw [i_cNo]; exact (F.2.1 197 (by decide)).2.2.1
  · rw [i_cNo]; exact (F.2.1 170 (by decide)).2.2.1
  · rw [i_cNo]; exact (F.2.1 171 (by decide)).2.2.1
  · rw [i_cNo]; exact (F.2.1 172 (by decide)).2.2.1
  · rw [i_cNo]; exact (F.2.1 173 (by decide)).2.2.1
theorem see_f (x : R0 h W N B S len) {hx : AH} (F : fcs h hx) (f : Nat) : ah_f (cF hx f) 168 = ah_f h 168 ∧ ah_i (cF hx f) 197 = ah_i h 197 ∧ sp (cF hx f) ∧ ∀ t, sl h (cF hx f) t := by
  refine ⟨?_, ?_, (R1_cF x.2 F f).1, fun t => sl_of t ?_ ?_ ?_ ?_⟩
  · unfold cF; rw [f_si, f_sf_n _ _ _ _ _ (by decide), (F.2.1 168 (by decide)).2.1]
  · unfold cF; rw [i_si_n _ _ _ _ _ (by decide), i_sf]; exact (F.2.1 197 (by decide)).2.2.1
  · unfold cF; rw [i_si_n _ _ _ _ _ (by decide), i_sf]; exact (F.2.1 170 (by decide)).2.2.1
  · unfold cF; rw [i_si_n _ _ _ _ _ (by decide), i_sf]; exact (F.2.1 171 (by decide)).2.2.1
  · unfold cF; rw [i_si_n _ _ _ _ _ (by decide), i_sf]; exact (F.2.1 172 (by decide)).2.2.1
  · unfold cF; rw [i_si_n _ _ _ _ _ (by decide), i_sf]; exact (F.2.1 173 (by decide)).2.2.1
theorem ans_1 {f : Nat} {n' l' : Nat} {A' : Nat → Nat} (ok : OK f n' l' A') : ans f = 1 ↔ f = 0 := by
  constructor
  · intro w
    by_cases z : f = 0
    · exact z
    · have ea : ans f = -nI (10 + f) := if_neg z
      have f9 : f ≤ 9 := by rcases ok.1 with q | q | q <;> omega
      rw [ea] at w
      have := congrArg Int32.toInt w
      rw [ng_i (by omega)] at this
      have h1 : (1 : Int32).toInt = 1 := by decide
      omega
  · intro z
    rw [z]
    decide
theorem st_does (x : R0 h W N B S len) (hmax : ah_n h < 10000000) (p m : Int32) : ST yX11_does mX11_does yX12_does mX12_does (d + 6) (d + 6) [.int p, .int m] h (bc + 1) (bs + 1620) W S len := by
  have K := x.2.1
  obtain ⟨h24, hN, hN2, hP⟩ := x.2.2.2.2.1
  obtain ⟨M, h60, hM, hM2, hMI⟩ := MI_ex x.2.2.2.2.2.1
  have n14 : ¬ (0 : Int32) ≤ -nI 14 := by decide
  have n13 : ¬ (0 : Int32) ≤ -nI 13 := by decide
  have n2 : ¬ (0 : Int32) ≤ -nI 2 := by decide
  have fin : ∀ (v : Int32) (h' : AH), ¬ v = 0 → ¬ (0 : Int32) ≤ v → DONE h h' W S len → (¬ v = 0 → ex_G mX12_does (d + 6) 20 [.ref 168, .retAddr 0, .retAddr 0, .int v] [] h' 0 0 (fun r' h2 => r' = some (.int v) ∧ DONE h h2 W S len)) ∧ (v = 0 → ah_o h' 168 12 ∧ ex_S yX12_replaced mX12_replaced (d + 5) [.ref 168, .int p, .int 364] h' 0 0 (fun r h5 => r = none ∧ ex_G mX12_does (d + 6) 20 [.ref 168, .retAddr 0, .retAddr 0, .int v] [] h5 0 0 (fun r' h2 => r' = some (.int v) ∧ DONE h h2 W S len))) := fun v h' v0 v1 D => ⟨fun _ => X12_does_20 ⟨fun w => absurd w v1, fun _ => ⟨rfl, D⟩⟩, fun w => absurd w v0⟩
  refine X11_does_e (X11_does_0 ⟨o0 K, c_tryMove x.2 h60 hM hMI p m (fun bad => ⟨_, rfl, o0 K, settle_no (d := d + 3) K (by decide) (c_no K 2 (by decide) ⟨_, rfl, _, rfl, _, rfl, ?_⟩)⟩) (fun p0 m0 n h1 ep em hm0 op F => ⟨_, rfl, o0 (F.2.2.1 K), settle_no (d := d + 3) (F.2.2.1 K) (by decide) (c_f (F.2.2.1 K) 3 (by decide) (by decide) ⟨_, rfl, _, rfl, _, rfl, ?_⟩)⟩) (fun p0 m0 n l kd x1 x2 x3 f n' l' A' h1 ep em wh mi MM ok F D1 => ⟨_, rfl, o0 (F.2.2.1 K), ?_⟩)⟩)
  · obtain ⟨q1, q3, q4, q5⟩ := see_no x (fcs_refl h) (-nI 2)
    exact X12_does_e (X12_does_0 ⟨o168 q4, m_tried_bad q4 (by rw [q1]; exact hN2) h24 (by rw [q1]; exact hM2) h60 _ bad ⟨_, rfl, fin _ _ (by decide) n2 (D_no x (fcs_refl h) _ (fms_refl _))⟩⟩)
  · obtain ⟨q1, q3, q4, q5⟩ := see_f x F 3
    obtain ⟨kd, x1, x2, x3, mi⟩ := hMI m0 hm0
    rw [ep, em]
    refine X12_does_e (X12_does_0 ⟨o168 q4, m_tried_go (u := 0) q4 (by rw [q1]; exact hN2) h24 (by rw [q1]; exact hM2) h60 op.1 mi.1 (by decide) (by rw [q3]; exact mi.2.2.2.1) mi.2.1 (fun w => absurd w (by decide)) (fun _ => m_tried_open x.2 op q4 (by rw [q1]; exact hN2) (q5 _) (fun h' G => ⟨_, rfl, ?_⟩))⟩)
    rw [ep] at fin
    exact fin _ _ (by decide) n13 (D_f x F (by decide) (by decide) G)
  · have f9 : f ≤ 9 := by rcases ok.1 with q | q | q <;> omega
    by_cases f0 : f = 0
    · have ea : ans f = 1 := (ans_1 ok).mpr f0
      obtain ⟨ok1, ok2, ok3⟩ := ok.2 f0
      have hA := fun e he => wh.2.2.2.2.2.2.2.A100 (e := e) he
      rw [ea, ep]
      refine c_settle (d := d + 3) x hmax wh.1 F wh.2.2.2.2.2.1 wh.2.2.1 (D1 f0) ok1 (fun h4 hc nx T C => ⟨_, rfl, _, rfl, ?_⟩)
      have K4 : sp h4 := C.1.2.2.2.2.1 K
      have e4 : ∀ a, 167 ≤ a → a < 216 → eqc h h4 a := C.2.2.2.2.2.2.2.2.2
      have c168 := (e4 168 (by decide) (by decide)).2.1
      have c197 := (e4 197 (by decide) (by decide)).2.2.1
      have s4 : ∀ t, sl h h4 t := fun t => sl_of t (e4 170 (by decide) (by decide)).2.2.1 (e4 171 (by decide) (by decide)).2.2.1 (e4 172 (by decide) (by decide)).2.2.1 (e4 173 (by decide) (by decide)).2.2.1
      rw [em]
      refine X12_does_e (X12_does_0 ⟨o168 K4, m_tried_go (u := 0) K4 (by rw [c168]; exact hN2) h24 (by rw [c168]; exact hM2) h60 wh.1 mi.1 (by decide) (by rw [c197]; exact mi.2.2.2.1) mi.2.1 (fun w => absurd w (by decide)) (fun _ => m_tried_yes (x3 := x3) wh K4 (by rw [c168]; exact hN2) h24 (by have := mi.1; omega) (by decide) (s4 _) (by rw [c197]; exact mi.2.2.2.2.1) (by rw [c197]; exact mi.2.2.2.2.2.1) (by rw [c197]; exact mi.2.2.2.2.2.2) (Or.inl ⟨rfl, MM⟩) ok (fun _ h13 G D13 => ⟨_, rfl, fun w => absurd rfl w, fun _ => ⟨o168 (G.2.2.1 K4), ?_⟩⟩) (fun z => absurd f0 z))⟩)
      refine m_replW (d := d + 4) x wh.1 wh.2.2.1 ok1 wh.2.2.2.2.2.2.1 C G D13 (fun h9 rp9 K9 => ⟨rfl, X12_does_20 ⟨fun _ => ⟨o168 K9, weC K9 _, fun h10 e10 => ⟨rfl, ?_⟩⟩, fun w => absurd (show (0 : Int32) ≤ nI 0 by decide) w⟩⟩)
      rw [e10.trans (weH 1)]
      exact D_repl x wh.1 wh.2.2.1 wh.2.2.2.1 hA ok1 ok2 ok3 C rp9
    · have ea : ans f = -nI (10 + f) := if_neg f0
      have nf : ¬ (0 : Int32) ≤ -nI (10 + f) := ng_nle (b := 0) (by omega) (by omega) (by omega)
      have nz : ¬ (-nI (10 + f) : Int32) = 0 := fun z => nf (by rw [z]; decide)
      refine settle_no (d := d + 3) (F.2.2.1 K) (fun w => f0 ((ans_1 ok).mp w)) ?_
      rw [ea]
      refine c_f (F.2.2.1 K) f (by omega) f9 ⟨_, rfl, _, rfl, _, rfl, ?_⟩
      obtain ⟨q1, q3, q4, q5⟩ := see_f x F f
      rw [ep] at fin
      rw [ep, em]
      exact X12_does_e (X12_does_0 ⟨o168 q4, m_tried_go (u := 0) q4 (by rw [q1]; exact hN2) h24 (by rw [q1]; exact hM2) h60 wh.1 mi.1 (by decide) (by rw [q3]; exact mi.2.2.2.1) mi.2.1 (fun w => absurd w (by decide)) (fun _ => m_tried_yes (x3 := x3) wh q4 (by rw [q1]; exact hN2) h24 (by have := mi.1; omega) (by decide) (q5 _) (by rw [q3]; exact mi.2.2.2.2.1) (by rw [q3]; exact mi.2.2.2.2.2.1) (by rw [q3]; exact mi.2.2.2.2.2.2) (Or.inl ⟨rfl, MM⟩) ok (fun z => absurd z f0) (fun _ h' G => ⟨_, rfl, fin _ _ nz nf (D_f x F (by omega) f9 G)⟩))⟩)
theorem st_undoes (x : R0 h W N B S len) (hmax : ah_n h < 10000000) (p m : Int32) : ST yX11_undoes mX11_undoes yX12_undoes mX12_undoes (d + 6) (d + 6) [.int p, .int m] h (bc + 1) (bs + 1620) W S len := by
  have K := x.2.1
  obtain ⟨h24, hN, hN2, hP⟩ := x.2.2.2.2.1
  obtain ⟨M, h60, hM, hM2, hMI⟩ := MI_ex x.2.2.2.2.2.1
  have n14 : ¬ (0 : Int32) ≤ -nI 14 := by decide
  have n13 : ¬ (0 : Int32) ≤ -nI 13 := by decide
  have n2 : ¬ (0 : Int32) ≤ -nI 2 := by decide
  have fin : ∀ (v : Int32) (h' : AH), ¬ v = 0 → ¬ (0 : Int32) ≤ v → DONE h h' W S len → (¬ v = 0 → ex_G mX12_undoes (d + 6) 20 [.ref 168, .retAddr 0, .retAddr 0, .int v] [] h' 0 0 (fun r' h2 => r' = some (.int v) ∧ DONE h h2 W S len)) ∧ (v = 0 → ah_o h' 168 12 ∧ ex_S yX12_replaced mX12_replaced (d + 5) [.ref 168, .int p, .int 364] h' 0 0 (fun r h5 => r = none ∧ ex_G mX12_undoes (d + 6) 20 [.ref 168, .retAddr 0, .retAddr 0, .int v] [] h5 0 0 (fun r' h2 => r' = some (.int v) ∧ DONE h h2 W S len))) := fun v h' v0 v1 D => ⟨fun _ => X12_undoes_20 ⟨fun w => absurd w v1, fun _ => ⟨rfl, D⟩⟩, fun w => absurd w v0⟩
  refine X11_undoes_e (X11_undoes_0 ⟨o0 K, c_tryUndoing x.2 h60 hM hMI p m (fun bad => ⟨_, rfl, o0 K, settle_no (d := d + 3) K (by decide) (c_no K 2 (by decide) ⟨_, rfl, _, rfl, _, rfl, ?_⟩)⟩) (fun p0 m0 x1 x2 x3 ep hp0 em mi => ⟨_, rfl, o0 K, settle_no (d := d + 3) K (by decide) (c_f K 4 (by decide) (by decide) ⟨_, rfl, _, rfl, _, rfl, ?_⟩)⟩) (fun p0 m0 n kd x1 x2 x3 h1 ep em mi k4 op F => ⟨_, rfl, o0 (F.2.2.1 K), settle_no (d := d + 3) (F.2.2.1 K) (by decide) (c_f (F.2.2.1 K) 3 (by decide) (by decide) ⟨_, rfl, _, rfl, _, rfl, ?_⟩)⟩) (fun p0 m0 n l kd x1 x2 x3 f n' l' A' h1 ep em wh mi k4 MM ok F D1 => ⟨_, rfl, o0 (F.2.2.1 K), ?_⟩)⟩)
  · obtain ⟨q1, q3, q4, q5⟩ := see_no x (fcs_refl h) (-nI 2)
    exact X12_undoes_e (X12_undoes_0 ⟨o168 q4, m_tried_bad q4 (by rw [q1]; exact hN2) h24 (by rw [q1]; exact hM2) h60 _ bad ⟨_, rfl, fin _ _ (by decide) n2 (D_no x (fcs_refl h) _ (fms_refl _))⟩⟩)
  · obtain ⟨q1, q3, q4, q5⟩ := see_f x (fcs_refl h) 4
    rw [ep, em]
    refine X12_undoes_e (X12_undoes_0 ⟨o168 q4, m_tried_go (u := 1) q4 (by rw [q1]; exact hN2) h24 (by rw [q1]; exact hM2) h60 hp0 mi.1 (by decide) (by rw [q3]; exact mi.2.2.2.1) mi.2.1 (fun _ _ => ⟨_, rfl, ?_⟩) (fun w => absurd rfl (w rfl))⟩)
    rw [ep] at fin
    exact fin _ _ (by decide) n14 (D_f x (fcs_refl h) (by decide) (by decide) (fms_refl _))
  · obtain ⟨q1, q3, q4, q5⟩ := see_f x F 3
    have mi := mi
    rw [ep, em]
    refine X12_undoes_e (X12_undoes_0 ⟨o168 q4, m_tried_go (u := 1) q4 (by rw [q1]; exact hN2) h24 (by rw [q1]; exact hM2) h60 op.1 mi.1 (by decide) (by rw [q3]; exact mi.2.2.2.1) mi.2.1 (fun _ w => absurd w k4) (fun _ => m_tried_open x.2 op q4 (by rw [q1]; exact hN2) (q5 _) (fun h' G => ⟨_, rfl, ?_⟩))⟩)
    rw [ep] at fin
    exact fin _ _ (by decide) n13 (D_f x F (by decide) (by decide) G)
  · have f9 : f ≤ 9 := by rcases ok.1 with q | q | q <;> omega
    by_cases f0 : f = 0
    · have ea : ans f = 1 := (ans_1 ok).mpr f0
      obtain ⟨ok1, ok2, ok3⟩ := ok.2 f0
      have hA := fun e he => wh.2.2.2.2.2.2.2.A100 (e := e) he
      rw [ea, ep]
      refine c_settle (d := d + 3) x hmax wh.1 F wh.2.2.2.2.2.1 wh.2.2.1 (D1 f0) ok1 (fun h4 hc nx T C => ⟨_, rfl, _, rfl, ?_⟩)
      have K4 : sp h4 := C.1.2.2.2.2.1 K
      have e4 : ∀ a, 167 ≤ a → a < 216 → eqc h h4 a := C.2.2.2.2.2.2.2.2.2
      have c168 := (e4 168 (by decide) (by decide)).2.1
      have c197 := (e4 197 (by decide) (by decide)).2.2.1
      have s4 : ∀ t, sl h h4 t := fun t => sl_of t (e4 170 (by decide) (by decide)).2.2.1 (e4 171 (by decide) (by decide)).2.2.1 (e4 172 (by decide) (by decide)).2.2.1 (e4 173 (by decide) (by decide)).2.2.1
      rw [em]
      refine X12_undoes_e (X12_undoes_0 ⟨o168 K4, m_tried_go (u := 1) K4 (by rw [c168]; exact hN2) h24 (by rw [c168]; exact hM2) h60 wh.1 mi.1 (by decide) (by rw [c197]; exact mi.2.2.2.1) mi.2.1 (fun _ w => absurd w k4) (fun _ => m_tried_yes (x3 := x3) wh K4 (by rw [c168]; exact hN2) h24 (by have := mi.1; omega) (by decide) (s4 _) (by rw [c197]; exact mi.2.2.2.2.1) (by rw [c197]; exact mi.2.2.2.2.2.1) (by rw [c197]; exact mi.2.2.2.2.2.2) (Or.inr ⟨rfl, MM⟩) ok (fun _ h13 G D13 => ⟨_, rfl, fun w => absurd rfl w, fun _ => ⟨o168 (G.2.2.1 K4), ?_⟩⟩) (fun z => absurd f0 z))⟩)
      refine m_replW (d := d + 4) x wh.1 wh.2.2.1 ok1 wh.2.2.2.2.2.2.1 C G D13 (fun h9 rp9 K9 => ⟨rfl, X12_undoes_20 ⟨fun _ => ⟨o168 K9, weC K9 _, fun h10 e10 => ⟨rfl, ?_⟩⟩, fun w => absurd (show (0 : Int32) ≤ nI 0 by decide) w⟩⟩)
      rw [e10.trans (weH 1)]
      exact D_repl x wh.1 wh.2.2.1 wh.2.2.2.1 hA ok1 ok2 ok3 C rp9
    · have ea : ans f = -nI (10 + f) := if_neg f0
      have nf : ¬ (0 : Int32) ≤ -nI (10 + f) := ng_nle (b := 0) (by omega) (by omega) (by omega)
      have nz : ¬ (-nI (10 + f) : Int32) = 0 := fun z => nf (by rw [z]; decide)
      refine settle_no (d := d + 3) (F.2.2.1 K) (fun w => f0 ((ans_1 ok).mp w)) ?_
      rw [ea]
      refine c_f (F.2.2.1 K) f (by omega) f9 ⟨_, rfl, _, rfl, _, rfl, ?_⟩
      obtain ⟨q1, q3, q4, q5⟩ := see_f x F f
      rw [ep] at fin
      rw [ep, em]
      exact X12_undoes_e (X12_undoes_0 ⟨o168 q4, m_tried_go (u := 1) q4 (by rw [q1]; exact hN2) h24 (by rw [q1]; exact hM2) h60 wh.1 mi.1 (by decide) (by rw [q3]; exact mi.2.2.2.1) mi.2.1 (fun _ w => absurd w k4) (fun _ => m_tried_yes (x3 := x3) wh q4 (by rw [q1]; exact hN2) h24 (by have := mi.1; omega) (by decide) (q5 _) (by rw [q3]; exact mi.2.2.2.2.1) (by rw [q3]; exact mi.2.2.2.2.2.1) (by rw [q3]; exact mi.2.2.2.2.2.2) (Or.inr ⟨rfl, MM⟩) ok (fun z => absurd z f0) (fun _ h' G => ⟨_, rfl, fin _ _ nz nf (D_f x F (by omega) f9 G)⟩))⟩)
end DOES
