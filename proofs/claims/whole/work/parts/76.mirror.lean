/-! mirror, turn. -/
def mir (j : Nat) (A : Nat → Nat) : Nat → Nat := fun e => if e / 4 < j then A (4 * (e / 4) + (e + 1) % 4) else A e
def tua (j : Nat) (A : Nat → Nat) : Nat → Nat := fun e => if e / 4 < j then (if e % 2 = 0 then A (e + 1) else A (e - 1)) else A e
theorem mir_0 (A : Nat → Nat) : mir 0 A = A := by
  funext e
  exact if_neg (by omega)
theorem tua_0 (A : Nat → Nat) : tua 0 A = A := by
  funext e
  exact if_neg (by omega)
theorem mir_s (j : Nat) (A : Nat → Nat) : rot j 1 (mir j A) = mir (j + 1) A := by
  funext e
  unfold rot mir
  by_cases q : e / 4 = j
  · rw [if_pos q, if_neg (by omega), if_pos (by omega), q]
  · rw [if_neg q]
    by_cases w : e / 4 < j
    · rw [if_pos w, if_pos (by omega)]
    · rw [if_neg w, if_neg (by omega)]
theorem tua_s (j : Nat) (A : Nat → Nat) : tov j (tua j A) = tua (j + 1) A := by
  funext e
  unfold tov tua
  by_cases q : e / 4 = j
  · rw [if_pos q, if_pos (show e / 4 < j + 1 by omega)]
    by_cases w : e % 2 = 0
    · rw [if_pos w, if_pos w, if_neg (by omega)]
    · rw [if_neg w, if_neg w, if_neg (by omega)]
  · rw [if_neg q]
    by_cases w : e / 4 < j
    · rw [if_pos w, if_pos (show e / 4 < j + 1 by omega)]
    · rw [if_neg w, if_neg (by omega)]
theorem mir_lt {n j : Nat} {A : Nat → Nat} (hA : ∀ e, e < 4 * n → A e < 100) : ∀ e, e < 4 * n → mir j A e < 100 := fun e he => by
  unfold mir
  split
  · exact hA _ (by omega)
  · exact hA e he
theorem tua_lt {n j : Nat} {A : Nat → Nat} (hA : ∀ e, e < 4 * n → A e < 100) : ∀ e, e < 4 * n → tua j A e < 100 := fun e he => by
  unfold tua
  split
  · split
    · exact hA _ (by omega)
    · exact hA _ (by omega)
  · exact hA e he
section MIRR
variable {h h1 h4 hz : AH} {d bc bs : Nat} {Q : Option Value → AH → Prop} {W : Nat → Nat} {N : Nat} {B : Nat → Nat} {S : Nat → Int32} {len : Nat}
theorem rot_F (b c k : Nat) (h : AH) : ah_f (X7_rotate_H b (nI c) (nI k) h) = ah_f h := by
  unfold X7_rotate_H
  rw [f_si, f_si, f_si, f_si]
theorem flip_F (b c : Nat) (h : AH) : ah_f (X7_flip_H b (nI c) h) = ah_f h := by
  unfold X7_flip_H X7_swap_H
  rw [f_si, f_si, f_si, f_si]
theorem st_mirror (x : R0 h W N B S len) (hmax : ah_n h < 10000000) (p : Int32) : ST yX11_mirror mX11_mirror yX12_mirror mX12_mirror (d + 5) (d + 6) [.int p] h (bc + 1) (bs + 1620) W S len := by
  have K := x.2.1
  obtain ⟨h24, hN, hN2, hP⟩ := x.2.2.2.2.1
  have hv := hasP (p := p) hN h24
  refine X11_mirror_e (X11_mirror_0 ⟨o0 K, hasPC K p, fun z => ⟨7, r0_4 K, ?_⟩, fun z => c_no K 2 (by decide) ⟨_, rfl, _, rfl, ?_⟩⟩)
  · obtain ⟨p0, hp0, ep⟩ := ix_of (Classical.not_not.mp (fun w => z (hv.mpr w))) (by omega)
    rw [ep]
    refine c_look x.2 hp0 (Or.inl rfl) (fun h1 n op F => ⟨_, rfl, fun w => absurd rfl w, fun _ => ⟨o0 (sp_fr K F), c_f (sp_fr K F) 3 (by decide) (by decide) ⟨_, rfl, _, rfl, ?_⟩⟩⟩) (fun h1 n l wh F l1 l2 LFh => ⟨_, rfl, fun _ => ?_, fun w => absurd w (by decide)⟩)
    · obtain ⟨q1, q3, q4, q5⟩ := see_f x (fcs_fr F lkc7) 3
      exact X12_mirror_e (X12_mirror_0 ⟨o168 q4, X12_allTurned_e (X12_allTurned_0 ⟨o168 q4, m_ref_open x.2 op q4 (by rw [q1]; exact hN2) (q5 _) (fun h' G => ⟨_, rfl, fun w => absurd w (show ¬ (0 : Int32) ≤ -nI 13 by decide), fun _ => ⟨_, rfl, rfl, D_f x (fcs_fr F lkc7) (by decide) (by decide) G⟩⟩)⟩)⟩)
    · obtain ⟨x1, x2, pt1, ⟨w0, w1, w2⟩, -, hh⟩ := (hP p0 hp0).2
      have bx := pt1.1
      have K1 := sp_fr K F
      have Fc := fcs_fr F lkc7
      have e1 : ∀ a, 216 ≤ a → eqc h h1 a := fun a ha => Fc.2.1 a (cscr_no ha)
      have n1 : ah_n h1 = ah_n h := F.1.1
      have P1 : pt h1 (B p0) := pt_fr pt1 F
      have hq1 : ah_q h1 1 p0 = some (B p0) := by rw [F.1.2.2.2]; exact (hP p0 hp0).1
      have hh1 : hp h1 W (B p0) p0 := hp_eq hh (fun _ _ => rfl) (e1 _ x1).2.1 (e1 _ x1).2.2.2.2.1 (by rw [(Fc.2.1 174 (by decide)).2.2.1]) (fun T t1 _ _ _ => e1 T t1) (fun k _ => sl_of _ (Fc.2.1 170 (by decide)).2.2.1 (Fc.2.1 171 (by decide)).2.2.1 (Fc.2.1 172 (by decide)).2.2.1 (Fc.2.1 173 (by decide)).2.2.1) (by omega)
      have Cold := wh.2.2.2.2.2.1
      have h40 := wh.2.2.1
      have hA := fun e he => wh.2.2.2.2.2.2.2.A100 (e := e) he
      refine ⟨o0 K1, 1, r0_0 K1, (s1 K1 _).mpr ((ix_nI (by omega)).mpr (by omega)), B p0, by rw [nI_clamp (by omega)]; exact hq1, pt_o P1, c_remember (d := d + 3) (n0 := n) (l0 := l) P1 (by omega) K1.1 (by omega) hh1 (by rw [(e1 _ x1).2.1]; exact Cold.1) (by rw [(e1 _ x1).2.1]; exact Cold.2.1) (fun h2 hc nx T c5 c6 c7 c8 R => ⟨rfl, ?_⟩)⟩
      have R' := R
      obtain ⟨R1, ⟨R3, R4, R5, R6, R7, R7a, R7b, R7c⟩, R8, R9, ⟨R10, R11, R12⟩, -, -⟩ := R
      have lo : ∀ a, a < 216 → eqc h1 h2 a := fun a ha => R9 a (by omega) (by omega)
      have hn2 : ah_n h1 ≤ ah_n h2 := by rcases R1 with q | q <;> omega
      have K2 : sp h2 := sp_lo K1 hn2 lo
      have P2 : pt h2 (B p0) := by
        refine ⟨P1.1, ⟨by have := P1.2.1.1; omega, by rw [R10]; exact P1.2.1.2⟩, ?_, ?_, ah_x_eq P1.2.2.2.2.1 (R9 _ (by omega) (fun e => R7b e.symm)) hn2, ah_x_eq P1.2.2.2.2.2 (R9 _ (by omega) (fun e => R7c e.symm)) hn2⟩
        · rw [R12 0 (by decide)]; exact P1.2.2.1
        · rw [R12 1 (by decide)]; exact P1.2.2.2.1
      have D2 : cD h2 (B p0) n l (AN (ah_i h (B p0 + 2))) := by
        refine ⟨?_, ?_, ?_, ?_⟩
        · rw [R11, u1_n _ _ (by decide), u1_n _ _ (by decide), (e1 _ x1).2.1]; exact Cold.1
        · rw [R11, u1_n _ _ (by decide), u1_n _ _ (by decide), (e1 _ x1).2.1]; exact Cold.2.1
        · rw [(R9 (B p0 + 1) (by omega) (fun e => R7b e.symm)).2.2.1, (e1 (B p0 + 1) (by omega)).2.2.1]; exact Cold.2.2.1
        · rw [(R9 (B p0 + 2) (by omega) (fun e => R7c e.symm)).2.2.1, (e1 (B p0 + 2) (by omega)).2.2.1]; exact Cold.2.2.2
      refine lp n (fun j h' => fr [B p0, B p0 + 1, B p0 + 2] h2 h' ∧ ah_f h' = ah_f h2 ∧ cD h' (B p0) n l (mir j (AN (ah_i h (B p0 + 2))))) (fun j h' => ex_G mX11_mirror (d + 5) 47 [.ref 0, .retAddr 0, .ref (B p0), .int (nI j)] [] h' bc bs (fun r h1 => ∃ v : Int32, r = some (.int v) ∧ ex_S yX12_mirror mX12_mirror (d + 6) [.ref 168, .int (nI p0)] h1 0 0 (fun r' h2 => r' = some (.int v) ∧ DONE h h2 W S len))) ⟨fr_refl _ h2, rfl, by rw [mir_0]; exact D2⟩ ?_ ?_
      · rintro j h3 hj ⟨F3, g3, D3⟩ nx
        have P3 := pt_fr P2 F3
        refine X11_mirror_47 ⟨pt_o P3, ?_⟩
        rw [D3.1, nI_leI (by omega) (by omega)]
        refine ⟨fun w => by omega, fun _ => ⟨c_rotC (k := 1) P3 (by omega) (by decide), fun h7 e7 x8 e8 => ?_⟩⟩
        have e7 : h7 = X7_rotate_H (B p0) (nI j) (nI 1) h3 := e7
        obtain ⟨F7, D7⟩ := c_rotH (k := 1) P3 D3 hj h40 (by decide)
        have g7 : ah_f h7 = ah_f h3 := by rw [e7]; exact rot_F _ _ 1 _
        rw [← e7] at F7 D7
        rw [nI_1] at e8
        subst e8
        exact nx h7 ⟨fr_trans F3 F7, g7.trans g3, by rw [← mir_s]; exact D7⟩
      · rintro h3 ⟨F3, g3, D3⟩
        have P3 := pt_fr P2 F3
        have K3 := sp_fr K2 F3
        refine X11_mirror_47 ⟨pt_o P3, ?_⟩
        rw [D3.1]
        refine ⟨fun _ => ⟨o0 K3, grC K3 _, fun h5 e5 => ⟨_, rfl, ?_⟩⟩, fun w => absurd ((nI_leI (by omega) (by omega)).mpr (Nat.le_refl n)) w⟩
        have e5' : h5 = cNo h3 (nI 0) := e5.trans (grH 1)
        rw [e5']
        have C := CS_of (h2 := h2) x hp0 Fc Cold h40 c5 c6 c7 c8 R' F3 D3 (by rw [g3]) (by rw [g3])
        generalize cNo h3 (nI 0) = h4 at C ⊢
        have K4 : sp h4 := C.1.2.2.2.2.1 K
        have e4 : ∀ a, 167 ≤ a → a < 216 → eqc h h4 a := C.2.2.2.2.2.2.2.2.2
        have c168 := (e4 168 (by decide) (by decide)).2.1
        have s4 : ∀ t, sl h h4 t := fun t => sl_of t (e4 170 (by decide) (by decide)).2.2.1 (e4 171 (by decide) (by decide)).2.2.1 (e4 172 (by decide) (by decide)).2.2.1 (e4 173 (by decide) (by decide)).2.2.1
        refine X12_mirror_e (X12_mirror_0 ⟨o168 K4, X12_allTurned_e (X12_allTurned_0 ⟨o168 K4, m_ref_whole wh K4 (by rw [c168]; exact hN2) h24 (s4 _) (fun h6 G6 g6 => ⟨_, rfl, fun _ => ⟨o168 (G6.2.2.1 K4), ?_⟩, fun w => absurd (show (0 : Int32) ≤ nI 0 by decide) w⟩)⟩)⟩)
        have K6 := G6.2.2.1 K4
        have D6 := mD_sl (mD_sl wh.2.2.2.2.2.2.1 h40 (s4 p0)) h40 (G6.2.2.2.2 p0 (by omega))
        refine m_copyS K6 (s := p0) (t := 364) (by omega) (by decide) (by omega) D6.1 h40 (fun h7 F7 s7 c7_ => ⟨rfl, ?_⟩)
        have K7 := sp_fr K6 F7
        have G7 : fms h4 h7 := fms_trans G6 (fms_copy F7 s7)
        refine lp n (fun j h' => fS 364 h7 h' ∧ mD h' 364 n l (mir j (AN (ah_i h (B p0 + 2))))) (fun j h' => ex_G mX12_allTurned (d + 5) 23 [.ref 168, .int (nI p0), .int 1, .retAddr 0, .int (nI j), .retAddr 0] [] h' 0 0 (fun r h1 => ∃ x3, r = some (Value.int x3) ∧ some (Value.int x3) = some (Value.int 1) ∧ DONE h h1 W S len)) ⟨fS_refl _ h7, by rw [mir_0]; exact mD_sC D6 h40 c7_⟩ ?_ ?_
        · rintro j h8 hj ⟨F8, D8⟩ nx
          have K8 := fS_sp K7 F8
          have m8 : ah_i h8 170 p0 = nI n := by rw [(F8.2 p0 (by omega)).1, (s7 p0 (by omega)).1]; exact D6.1
          refine X12_allTurned_23 ⟨o168 K8, 170, r168_2 K8, (s170 K8 _).mpr ((ix_nI (by omega)).mpr (by omega)), ?_⟩
          rw [nI_clamp (by omega), m8, nI_leI (by omega) (by omega)]
          refine ⟨fun w => by omega, fun _ => ⟨fun w => absurd w (by decide), fun _ => m_rotateD (d := d + 3) (s := 364) (k := 1) K8 (by decide) D8 h40 hj (by decide) (fun h10 F10 D10 => ⟨_, rfl, fun x11 e11 => ?_⟩)⟩⟩
          rw [nI_1] at e11
          subst e11
          exact nx h10 ⟨fS_trans F8 F10, by rw [← mir_s]; exact D10⟩
        · rintro h8 ⟨F8, D8⟩
          have K8 := fS_sp K7 F8
          have m8 : ah_i h8 170 p0 = nI n := by rw [(F8.2 p0 (by omega)).1, (s7 p0 (by omega)).1]; exact D6.1
          refine X12_allTurned_23 ⟨o168 K8, 170, r168_2 K8, (s170 K8 _).mpr ((ix_nI (by omega)).mpr (by omega)), ?_⟩
          rw [nI_clamp (by omega), m8]
          refine ⟨fun _ => m_replW (d := d + 3) x hp0 h40 h40 wh.2.2.2.2.2.2.1 C (fms_trans G7 (fS_fms F8)) D8 (fun h9 rp9 K9 => ⟨rfl, o168 K9, weC K9 _, fun h10 e10 => ⟨_, rfl, rfl, ?_⟩⟩), fun w => absurd ((nI_leI (by omega) (by omega)).mpr (Nat.le_refl n)) w⟩
          rw [e10.trans (weH 1)]
          exact D_repl x hp0 h40 wh.2.2.2.1 hA h40 wh.2.2.2.1 (mir_lt hA) C rp9
  · obtain ⟨q1, q3, q4, q5⟩ := see_no x (fcs_refl h) (-nI 2)
    exact X12_mirror_e (X12_mirror_0 ⟨o168 q4, X12_allTurned_e (X12_allTurned_0 ⟨o168 q4, m_refusal_no (R1_cNo x.2 (fcs_refl h) (-nI 2)) (hv.mp z) ⟨_, rfl, fun w => absurd w (show ¬ (0 : Int32) ≤ -nI 2 by decide), fun _ => ⟨_, rfl, rfl, D_no x (fcs_refl h) _ (fms_refl _)⟩⟩⟩)⟩)
theorem st_turn (x : R0 h W N B S len) (hmax : ah_n h < 10000000) (p : Int32) : ST yX11_turn mX11_turn yX12_turn mX12_turn (d + 5) (d + 6) [.int p] h (bc + 1) (bs + 1620) W S len := by
  have K := x.2.1
  obtain ⟨h24, hN, hN2, hP⟩ := x.2.2.2.2.1
  have hv := hasP (p := p) hN h24
  refine X11_turn_e (X11_turn_0 ⟨o0 K, hasPC K p, fun z => ⟨7, r0_4 K, ?_⟩, fun z => c_no K 2 (by decide) ⟨_, rfl, _, rfl, ?_⟩⟩)
  · obtain ⟨p0, hp0, ep⟩ := ix_of (Classical.not_not.mp (fun w => z (hv.mpr w))) (by omega)
    rw [ep]
    refine c_look x.2 hp0 (Or.inl rfl) (fun h1 n op F => ⟨_, rfl, fun w => absurd rfl w, fun _ => ⟨o0 (sp_fr K F), c_f (sp_fr K F) 3 (by decide) (by decide) ⟨_, rfl, _, rfl, ?_⟩⟩⟩) (fun h1 n l wh F l1 l2 LFh => ⟨_, rfl, fun _ => ?_, fun w => absurd w (by decide)⟩)
    · obtain ⟨q1, q3, q4, q5⟩ := see_f x (fcs_fr F lkc7) 3
      exact X12_turn_e (X12_turn_0 ⟨o168 q4, X12_allTurned_e (X12_allTurned_0 ⟨o168 q4, m_ref_open x.2 op q4 (by rw [q1]; exact hN2) (q5 _) (fun h' G => ⟨_, rfl, fun w => absurd w (show ¬ (0 : Int32) ≤ -nI 13 by decide), fun _ => ⟨_, rfl, rfl, D_f x (fcs_fr F lkc7) (by decide) (by decide) G⟩⟩)⟩)⟩)
    · obtain ⟨x1, x2, pt1, ⟨w0, w1, w2⟩, -, hh⟩ := (hP p0 hp0).2
      have bx := pt1.1
      have K1 := sp_fr K F
      have Fc := fcs_fr F lkc7
      have e1 : ∀ a, 216 ≤ a → eqc h h1 a := fun a ha => Fc.2.1 a (cscr_no ha)
      have n1 : ah_n h1 = ah_n h := F.1.1
      have P1 : pt h1 (B p0) := pt_fr pt1 F
      have hq1 : ah_q h1 1 p0 = some (B p0) := by rw [F.1.2.2.2]; exact (hP p0 hp0).1
      have hh1 : hp h1 W (B p0) p0 := hp_eq hh (fun _ _ => rfl) (e1 _ x1).2.1 (e1 _ x1).2.2.2.2.1 (by rw [(Fc.2.1 174 (by decide)).2.2.1]) (fun T t1 _ _ _ => e1 T t1) (fun k _ => sl_of _ (Fc.2.1 170 (by decide)).2.2.1 (Fc.2.1 171 (by decide)).2.2.1 (Fc.2.1 172 (by decide)).2.2.1 (Fc.2.1 173 (by decide)).2.2.1) (by omega)
      have Cold := wh.2.2.2.2.2.1
      have h40 := wh.2.2.1
      have hA := fun e he => wh.2.2.2.2.2.2.2.A100 (e := e) he
      refine ⟨o0 K1, 1, r0_0 K1, (s1 K1 _).mpr ((ix_nI (by omega)).mpr (by omega)), B p0, by rw [nI_clamp (by omega)]; exact hq1, pt_o P1, c_remember (d := d + 3) (n0 := n) (l0 := l) P1 (by omega) K1.1 (by omega) hh1 (by rw [(e1 _ x1).2.1]; exact Cold.1) (by rw [(e1 _ x1).2.1]; exact Cold.2.1) (fun h2 hc nx T c5 c6 c7 c8 R => ⟨rfl, ?_⟩)⟩
      have R' := R
      obtain ⟨R1, ⟨R3, R4, R5, R6, R7, R7a, R7b, R7c⟩, R8, R9, ⟨R10, R11, R12⟩, -, -⟩ := R
      have lo : ∀ a, a < 216 → eqc h1 h2 a := fun a ha => R9 a (by omega) (by omega)
      have hn2 : ah_n h1 ≤ ah_n h2 := by rcases R1 with q | q <;> omega
      have K2 : sp h2 := sp_lo K1 hn2 lo
      have P2 : pt h2 (B p0) := by
        refine ⟨P1.1, ⟨by have := P1.2.1.1; omega, by rw [R10]; exact P1.2.1.2⟩, ?_, ?_, ah_x_eq P1.2.2.2.2.1 (R9 _ (by omega) (fun e => R7b e.symm)) hn2, ah_x_eq P1.2.2.2.2.2 (R9 _ (by omega) (fun e => R7c e.symm)) hn2⟩
        · rw [R12 0 (by decide)]; exact P1.2.2.1
        · rw [R12 1 (by decide)]; exact P1.2.2.2.1
      have D2 : cD h2 (B p0) n l (AN (ah_i h (B p0 + 2))) := by
        refine ⟨?_, ?_, ?_, ?_⟩
        · rw [R11, u1_n _ _ (by decide), u1_n _ _ (by decide), (e1 _ x1).2.1]; exact Cold.1
        · rw [R11, u1_n _ _ (by decide), u1_n _ _ (by decide), (e1 _ x1).2.1]; exact Cold.2.1
        · rw [(R9 (B p0 + 1) (by omega) (fun e => R7b e.symm)).2.2.1, (e1 (B p0 + 1) (by omega)).2.2.1]; exact Cold.2.2.1
        · rw [(R9 (B p0 + 2) (by omega) (fun e => R7c e.symm)).2.2.1, (e1 (B p0 + 2) (by omega)).2.2.1]; exact Cold.2.2.2
      refine lp n (fun j h' => fr [B p0, B p0 + 1, B p0 + 2] h2 h' ∧ ah_f h' = ah_f h2 ∧ cD h' (B p0) n l (tua j (AN (ah_i h (B p0 + 2))))) (fun j h' => ex_G mX11_turn (d + 5) 47 [.ref 0, .retAddr 0, .ref (B p0), .int (nI j)] [] h' bc bs (fun r h1 => ∃ v : Int32, r = some (.int v) ∧ ex_S yX12_turn mX12_turn (d + 6) [.ref 168, .int (nI p0)] h1 0 0 (fun r' h2 => r' = some (.int v) ∧ DONE h h2 W S len))) ⟨fr_refl _ h2, rfl, by rw [tua_0]; exact D2⟩ ?_ ?_
      · rintro j h3 hj ⟨F3, g3, D3⟩ nx
        have P3 := pt_fr P2 F3
        refine X11_turn_47 ⟨pt_o P3, ?_⟩
        rw [D3.1, nI_leI (by omega) (by omega)]
        refine ⟨fun w => by omega, fun _ => ⟨c_flipC P3 (by omega), fun h7 e7 x8 e8 => ?_⟩⟩
        have e7 : h7 = X7_flip_H (B p0) (nI j) h3 := e7
        obtain ⟨F7, D7⟩ := c_flipH P3 D3 hj h40
        have g7 : ah_f h7 = ah_f h3 := by rw [e7]; exact flip_F _ _ _
        rw [← e7] at F7 D7
        rw [nI_1] at e8
        subst e8
        exact nx h7 ⟨fr_trans F3 F7, g7.trans g3, by rw [← tua_s]; exact D7⟩
      · rintro h3 ⟨F3, g3, D3⟩
        have P3 := pt_fr P2 F3
        have K3 := sp_fr K2 F3
        refine X11_turn_47 ⟨pt_o P3, ?_⟩
        rw [D3.1]
        refine ⟨fun _ => ⟨o0 K3, grC K3 _, fun h5 e5 => ⟨_, rfl, ?_⟩⟩, fun w => absurd ((nI_leI (by omega) (by omega)).mpr (Nat.le_refl n)) w⟩
        have e5' : h5 = cNo h3 (nI 0) := e5.trans (grH 1)
        rw [e5']
        have C := CS_of (h2 := h2) x hp0 Fc Cold h40 c5 c6 c7 c8 R' F3 D3 (by rw [g3]) (by rw [g3])
        generalize cNo h3 (nI 0) = h4 at C ⊢
        have K4 : sp h4 := C.1.2.2.2.2.1 K
        have e4 : ∀ a, 167 ≤ a → a < 216 → eqc h h4 a := C.2.2.2.2.2.2.2.2.2
        have c168 := (e4 168 (by decide) (by decide)).2.1
        have s4 : ∀ t, sl h h4 t := fun t => sl_of t (e4 170 (by decide) (by decide)).2.2.1 (e4 171 (by decide) (by decide)).2.2.1 (e4 172 (by decide) (by decide)).2.2.1 (e4 173 (by decide) (by decide)).2.2.1
        refine X12_turn_e (X12_turn_0 ⟨o168 K4, X12_allTurned_e (X12_allTurned_0 ⟨o168 K4, m_ref_whole wh K4 (by rw [c168]; exact hN2) h24 (s4 _) (fun h6 G6 g6 => ⟨_, rfl, fun _ => ⟨o168 (G6.2.2.1 K4), ?_⟩, fun w => absurd (show (0 : Int32) ≤ nI 0 by decide) w⟩)⟩)⟩)
        have K6 := G6.2.2.1 K4
        have D6 := mD_sl (mD_sl wh.2.2.2.2.2.2.1 h40 (s4 p0)) h40 (G6.2.2.2.2 p0 (by omega))
        refine m_copyS K6 (s := p0) (t := 364) (by omega) (by decide) (by omega) D6.1 h40 (fun h7 F7 s7 c7_ => ⟨rfl, ?_⟩)
        have K7 := sp_fr K6 F7
        have G7 : fms h4 h7 := fms_trans G6 (fms_copy F7 s7)
        refine lp n (fun j h' => fS 364 h7 h' ∧ mD h' 364 n l (tua j (AN (ah_i h (B p0 + 2))))) (fun j h' => ex_G mX12_allTurned (d + 5) 23 [.ref 168, .int (nI p0), .int 0, .retAddr 0, .int (nI j), .retAddr 0] [] h' 0 0 (fun r h1 => ∃ x3, r = some (Value.int x3) ∧ some (Value.int x3) = some (Value.int 1) ∧ DONE h h1 W S len)) ⟨fS_refl _ h7, by rw [tua_0]; exact mD_sC D6 h40 c7_⟩ ?_ ?_
        · rintro j h8 hj ⟨F8, D8⟩ nx
          have K8 := fS_sp K7 F8
          have m8 : ah_i h8 170 p0 = nI n := by rw [(F8.2 p0 (by omega)).1, (s7 p0 (by omega)).1]; exact D6.1
          refine X12_allTurned_23 ⟨o168 K8, 170, r168_2 K8, (s170 K8 _).mpr ((ix_nI (by omega)).mpr (by omega)), ?_⟩
          rw [nI_clamp (by omega), m8, nI_leI (by omega) (by omega)]
          refine ⟨fun w => by omega, fun _ => ⟨fun _ => m_turnOverD (s := 364) K8 (by decide) D8 h40 hj (fun h10 F10 D10 => ⟨rfl, fun x11 e11 => ?_⟩), fun w => absurd rfl w⟩⟩
          rw [nI_1] at e11
          subst e11
          exact nx h10 ⟨fS_trans F8 F10, by rw [← tua_s]; exact D10⟩
        · rintro h8 ⟨F8, D8⟩
          have K8 := fS_sp K7 F8
          have m8 : ah_i h8 170 p0 = nI n := by rw [(F8.2 p0 (by omega)).1, (s7 p0 (by omega)).1]; exact D6.1
          refine X12_allTurned_23 ⟨o168 K8, 170, r168_2 K8, (s170 K8 _).mpr ((ix_nI (by omega)).mpr (by omega)), ?_⟩
          rw [nI_clamp (by omega), m8]
          refine ⟨fun _ => m_replW (d := d + 3) x hp0 h40 h40 wh.2.2.2.2.2.2.1 C (fms_trans G7 (fS_fms F8)) D8 (fun h9 rp9 K9 => ⟨rfl, o168 K9, weC K9 _, fun h10 e10 => ⟨_, rfl, rfl, ?_⟩⟩), fun w => absurd ((nI_leI (by omega) (by omega)).mpr (Nat.le_refl n)) w⟩
          rw [e10.trans (weH 1)]
          exact D_repl x hp0 h40 wh.2.2.2.1 hA h40 wh.2.2.2.1 (tua_lt hA) C rp9
  · obtain ⟨q1, q3, q4, q5⟩ := see_no x (fcs_refl h) (-nI 2)
    exact X12_turn_e (X12_turn_0 ⟨o168 q4, X12_allTurned_e (X12_allTurned_0 ⟨o168 q4, m_refusal_no (R1_cNo x.2 (fcs_refl h) (-nI 2)) (hv.mp z) ⟨_, rfl, fun w => absurd w (show ¬ (0 : Int32) ≤ -nI 2 by decide), fun _ => ⟨_, rfl, rfl, D_no x (fcs_refl h) _ (fms_refl _)⟩⟩⟩)⟩)
end MIRR
