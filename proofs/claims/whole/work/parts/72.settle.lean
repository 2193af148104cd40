/-! A change of a picture that is remembered: both sides, and the relation behind it. -/
theorem sp_lo {h h' : AH} (K : sp h) (hn : ah_n h ≤ ah_n h') (e : ∀ a, a < 216 → eqc h h' a) : sp h' := by
  refine ⟨by have := K.1; omega, fun a ha => (e a ha).1.trans (K.2.1 a ha), fun t ht => ?_⟩
  have lt : ∀ t ∈ R0L, t.1 < 216 := by decide +kernel
  rw [(e t.1 (lt t ht)).2.2.2.2.1]
  exact K.2.2 t ht
theorem LAC_lo {h h' : AH} (x : LAC h) (e : ∀ a, a < 216 → eqc h h' a) : LAC h' := by
  obtain ⟨y1, y2, y3⟩ := x
  refine ⟨fun b hb => ?_, fun i hi => ?_, ?_⟩
  · rw [(e b (by omega)).2.2.2.2.1]
    exact y1 b hb
  · rw [(e 34 (by decide)).2.2.2.2.2]
    exact y2 i hi
  · rw [(e 84 (by decide)).2.2.2.2.2]
    exact y3
/-- the class's part of it is done: picture p, which was n l A, is n' l' A', and remembers -/
def CS (h h4 : AH) (W : Nat → Nat) (p b n l n' l' : Nat) (A A' : Nat → Nat) (hc nx T : Nat) : Prop :=
  fp p W h h4 ∧ (ah_n h4 = ah_n h ∨ (ah_n h4 = ah_n h + 1 ∧ T = ah_n h)) ∧ (pt h4 b ∧ cD h4 b n' l' A') ∧ (hc ≤ 10 ∧ nx < 10 ∧ ah_f h b 5 = nI hc ∧ ah_f h b 6 = nI nx) ∧ (ah_f h4 b 5 = nI (min (hc + 1) 10) ∧ ah_f h4 b 6 = nI ((nx + 1) % 10)) ∧ (216 ≤ T ∧ T < ah_n h4 ∧ T < 10000000 ∧ ah_x h4 T 0 1620 ∧ ah_r h4 b 4 = some T ∧ (T < ah_n h → W T = p)) ∧ (ah_i h4 T (162 * nx) = nI n ∧ ah_i h4 T (162 * nx + 1) = nI l ∧ ∀ e, e < 4 * n → ah_i h4 T (162 * nx + 2 + e) = nI (A e)) ∧ (0 < hc → ah_r h b 4 = some T ∧ ∀ i, i < 10 → i ≠ nx → ∀ j, j < 162 → ah_i h4 T (162 * i + j) = ah_i h T (162 * i + j)) ∧ (∀ k, ah_f h4 0 k = u1 (ah_f h 0) 19 (nI 0) k) ∧ ∀ a, 167 ≤ a → a < 216 → eqc h h4 a
/-- the reference's part -/
def RP (W : Nat → Nat) (h4 h9 : AH) (p n l n' l' : Nat) (A A' : Nat → Nat) (hc : Nat) : Prop :=
  fp p W h4 h9 ∧ ah_n h9 = ah_n h4 ∧ (∀ a, 216 ≤ a ∨ a = 0 ∨ a = 167 ∨ a = 169 → eqc h4 h9 a) ∧ (∀ k, k ≠ 9 → ah_f h9 168 k = u1 (ah_f h4 168) 0 (nI 0) k) ∧ ah_i h9 174 p = nI (min (hc + 1) 10) ∧ mD h9 p n' l' A' ∧ mD h9 (24 + 10 * p + min hc 9) n l A ∧ ∀ j, j < min hc 9 → sC h4 (24 + 10 * p + j + (if hc = 10 then 1 else 0)) h9 (24 + 10 * p + j)
section SETTLE
variable {h h1 h4 h9 : AH} {d bc bs : Nat} {Q : Option Value → AH → Prop} {W : Nat → Nat} {N : Nat} {B : Nat → Nat} {S : Nat → Int32} {len : Nat} {p n l n' l' hc nx T : Nat} {A A' : Nat → Nat}
theorem D_repl (x : R0 h W N B S len) (hp0 : p < N) (h40 : n ≤ 40) (h9_ : l ≤ 9) (hA : ∀ e, e < 4 * n → A e < 100) (h40' : n' ≤ 40) (h9' : l' ≤ 9) (hA' : ∀ e, e < 4 * n' → A' e < 100) (C : CS h h4 W p (B p) n l n' l' A A' hc nx T) (G : RP W h4 h9 p n l n' l' A A' hc) : DONE h h9 W S len := by
  obtain ⟨h24, hN, hN2, hP⟩ := x.2.2.2.2.1
  obtain ⟨x1, x2, pt1, ⟨w0, w1, w2⟩, -, hh⟩ := (hP p hp0).2
  obtain ⟨C1, C2, ⟨C3, C4⟩, ⟨C5, C6, C7, C8⟩, ⟨C9, C10⟩, ⟨C11, C12, C13, C14, C15, C16⟩, ⟨C17, C18, C19⟩, C20, C21, C22⟩ := C
  obtain ⟨G1, G2, G3, G4, G5, G6, G7, G8⟩ := G
  have eb := G3 (B p) (Or.inl x1)
  have eT := G3 T (Or.inl C11)
  have bx := pt1.1
  have n4 : ah_n h ≤ ah_n h4 ∧ ah_n h4 ≤ ah_n h + 1 := by
    rcases C2 with q | q <;> omega
  have sl4 : ∀ t, sl h h4 t := fun t => sl_of t (C22 170 (by decide) (by decide)).2.2.1 (C22 171 (by decide) (by decide)).2.2.1 (C22 172 (by decide) (by decide)).2.2.1 (C22 173 (by decide) (by decide)).2.2.1
  refine D_pic (W' := fun a => if a = T then p else W a) x hp0 (fp_trans C1 G1) (fun a ha => ?_) (FC_of x.1 ?_ ?_ ?_ ?_ ?_ ?_ ?_) ⟨x1, by omega, ?_, ⟨?_, ?_, ?_⟩, ?_, ?_⟩ (by omega)
  · show (if a = T then p else W a) = W a
    by_cases q : a = T
    · rw [if_pos q, q]
      exact (C16 (by omega)).symm
    · rw [if_neg q]
  · rw [(G3 0 (by omega)).2.1, C21, u1_s, G4 0 (by decide), u1_s]
  · rw [(G3 0 (by omega)).2.1, C21, u1_n _ _ (by decide)]
  · rw [(G3 0 (by omega)).2.1, C21, u1_n _ _ (by decide)]
  · rw [G4 15 (by decide), u1_n _ _ (by decide), (C22 168 (by decide) (by decide)).2.1]
  · rw [G4 60 (by decide), u1_n _ _ (by decide), (C22 168 (by decide) (by decide)).2.1]
  · rw [(G3 167 (by omega)).2.2.1, (C22 167 (by decide) (by decide)).2.2.1]
  · rw [(G3 169 (by omega)).2.2.1, (C22 169 (by decide) (by decide)).2.2.1]
  · exact pt_eq C3 eb (G3 _ (Or.inl (by omega))) (G3 _ (Or.inl (by omega))) (by omega)
  · show (if B p = T then p else W (B p)) = p
    split
    · rfl
    · exact w0
  · show (if B p + 1 = T then p else W (B p + 1)) = p
    split
    · rfl
    · exact w1
  · show (if B p + 2 = T then p else W (B p + 2)) = p
    split
    · rfl
    · exact w2
  · refine rp_of (n := n') (l := l') (A := A') ⟨?_, ?_, ?_, ?_⟩ G6 h40' h9' hA'
    · rw [eb.2.1]; exact C4.1
    · rw [eb.2.1]; exact C4.2.1
    · rw [(G3 _ (Or.inl (by omega))).2.2.1]; exact C4.2.2.1
    · rw [(G3 _ (Or.inl (by omega))).2.2.1]; exact C4.2.2.2
  · refine hp_new (T := T) hh C7 C8 C5 C6 h40 h9_ hA (by rw [eb.2.1]; exact C9) (by rw [eb.2.1]; exact C10) G5 (by rw [eb.2.2.2.2.1]; exact C15) C11 (by omega) (ah_x_eq C14 eT (by omega)) (if_pos rfl) (by rw [eT.2.2.1]; exact C17) (by rw [eT.2.2.1]; exact C18) (by rw [eT.2.2.1]; exact C19) (fun z => ⟨(C20 z).1, by rw [eT.2.2.1]; exact (C20 z).2⟩) G7 (fun j hj => sl_sC (sl4 _) (G8 j hj))
theorem fp_RM {b : Nat} (hb : 216 ≤ b) (hb2 : b < 10000000) (hW : W b = p) (R : RM h h1 W b p n l hc nx T) : fp p W h h1 := by
  obtain ⟨R1, ⟨R3, R4, R5, R6, R7⟩, R8, R9, -⟩ := R
  have lo : ∀ a, a < 216 → eqc h h1 a := fun a ha => R9 a (by omega) (by omega)
  have hn : ah_n h ≤ ah_n h1 := by rcases R1 with q | q <;> omega
  refine ⟨⟨hn, fun a ha => R9 a (by omega) (by omega)⟩, fun a a1 _ _ _ _ _ _ z => ?_, fun k _ _ _ => by rw [(lo 0 (by decide)).2.1], fun k _ _ _ _ => by rw [(lo 168 (by decide)).2.1], fun K => sp_lo K hn lo, fun K => LAC_lo K lo, fun s _ _ _ => sl_of s (lo 170 (by decide)).2.2.1 (lo 171 (by decide)).2.2.1 (lo 172 (by decide)).2.2.1 (lo 173 (by decide)).2.2.1, fun q _ => by rw [(lo 174 (by decide)).2.2.1]⟩
  refine R9 a (fun e => z (by rw [e]; exact ⟨hb, hW⟩)) (fun e => z ?_)
  rw [e]
  exact ⟨R3, R8 (by omega)⟩
/-- from a heap behind remember and changes to the picture's own three cells to CS -/
theorem CS_of {h2 h3 : AH} (x : R0 h W N B S len) (hp0 : p < N) (F1 : fcs h h1) (Cold : cD h (B p) n l A) (h40 : n ≤ 40) (c5 : hc ≤ 10) (c6 : nx < 10) (c7 : ah_f h1 (B p) 5 = nI hc) (c8 : ah_f h1 (B p) 6 = nI nx) (R : RM h1 h2 W (B p) p n l hc nx T) (F3 : fr [B p, B p + 1, B p + 2] h2 h3) (D3 : cD h3 (B p) n' l' A') (k5 : ah_f h3 (B p) 5 = ah_f h2 (B p) 5) (k6 : ah_f h3 (B p) 6 = ah_f h2 (B p) 6) : CS h (cNo h3 (nI 0)) W p (B p) n l n' l' A A' hc nx T := by
  obtain ⟨h24, hN, hN2, hP⟩ := x.2.2.2.2.1
  obtain ⟨x1, x2, pt1, ⟨w0, w1, w2⟩, -, hh⟩ := (hP p hp0).2
  have bx := pt1.1
  have R' := R
  obtain ⟨R1, ⟨R3, R4, R5, R6, R7, R7a, R7b, R7c⟩, R8, R9, ⟨R10, R11, R12⟩, ⟨R13, R14, R15⟩, R16⟩ := R
  have e1 : ∀ a, 216 ≤ a → eqc h h1 a := fun a ha => F1.2.1 a (cscr_no ha)
  have eb := e1 (B p) x1
  have n1 : ah_n h1 = ah_n h := F1.1
  have mm : ∀ a, a ∉ [B p, B p + 1, B p + 2] ↔ a ≠ B p ∧ a ≠ B p + 1 ∧ a ≠ B p + 2 := fun a => by
    simp only [List.mem_cons, List.not_mem_nil, or_false]
    omega
  have e23 : ∀ a, a ≠ B p → a ≠ B p + 1 → a ≠ B p + 2 → eqc h2 h3 a := fun a a1 a2 a3 => eqc_fr F3 ((mm a).mpr ⟨a1, a2, a3⟩)
  have eT := e23 T R7a R7b R7c
  have cf : ∀ a, a ≠ 0 → ah_f (cNo h3 (nI 0)) a = ah_f h3 a := fun a ha => by unfold cNo; rw [f_sf_n _ _ _ _ _ ha]
  have ci : ah_i (cNo h3 (nI 0)) = ah_i h3 := i_cNo _ _
  have cn_ : ah_n (cNo h3 (nI 0)) = ah_n h2 := (n_cNo _ _).trans F3.1.1
  have ck : ah_k (cNo h3 (nI 0)) = ah_k h3 := k_cNo _ _
  have cr : ah_r (cNo h3 (nI 0)) = ah_r h3 := r_cNo _ _
  have fpx : fp p W h1 h2 := fp_RM x1 (by omega) w0 R'
  have P2 : pt h2 (B p) := by
    have P1 : pt h1 (B p) := pt_eq pt1 (e1 _ x1) (e1 _ (by omega)) (e1 _ (by omega)) (by omega)
    have hn2 : ah_n h1 ≤ ah_n h2 := fpx.1.1
    refine ⟨P1.1, ⟨by have := P1.2.1.1; omega, by rw [R10]; exact P1.2.1.2⟩, ?_, ?_, ah_x_eq P1.2.2.2.2.1 (R9 _ (by omega) (fun e => R7b e.symm)) hn2, ah_x_eq P1.2.2.2.2.2 (R9 _ (by omega) (fun e => R7c e.symm)) hn2⟩
    · rw [R12 0 (by decide)]; exact P1.2.2.1
    · rw [R12 1 (by decide)]; exact P1.2.2.2.1
  have e0 : ∀ a, 167 ≤ a → a < 216 → eqc h h3 a := fun a a1 a2 => eqc_trans (F1.2.1 a (fun q => by have := (by decide : ∀ a, a ∈ Cscr → a < 125) a q; omega)) (eqc_trans (R9 a (by omega) (by omega)) (e23 a (by omega) (by omega) (by omega)))
  have z0 : ah_f h3 0 = ah_f h 0 := by
    rw [(e23 0 (by omega) (by omega) (by omega)).2.1, (R9 0 (by omega) (by omega)).2.1, (F1.2.1 0 (by decide)).2.1]
  refine ⟨fp_trans (fp_fcs F1) (fp_trans fpx (fp_trans (fp_fr F3 (fun a ha => ?_)) (fp_f0 (by omega)))), ?_, ⟨pt_q (pt_fr P2 F3) (n_cNo _ _) ck cr, ?_⟩, ⟨c5, c6, by rw [← eb.2.1]; exact c7, by rw [← eb.2.1]; exact c8⟩, ⟨?_, ?_⟩, ⟨R3, by omega, R5, ?_, ?_, fun z => R8 (by omega)⟩, ⟨?_, ?_, fun e he => ?_⟩, fun z => ⟨?_, fun i hi hin j hj => ?_⟩, fun k => ?_, fun a a1 a2 => ?_⟩
  · simp only [List.mem_cons, List.not_mem_nil, or_false] at ha
    rcases ha with e | e | e
    · rw [e]; exact ⟨x1, by omega, w0⟩
    · rw [e]; exact ⟨by omega, by omega, w1⟩
    · rw [e]; exact ⟨by omega, by omega, w2⟩
  · rcases R1 with q | q
    · exact Or.inl (by omega)
    · exact Or.inr ⟨by omega, by omega⟩
  · unfold cD
    rw [cf _ (by omega), ci]
    exact D3
  · rw [cf _ (by omega), k5, R11, u1_s]
  · rw [cf _ (by omega), k6, R11, u1_n _ _ (by decide), u1_s]
  · unfold ah_x
    rw [cn_, ck, eT.1]
    exact R6
  · rw [cr, F3.1.2.2.1]; exact R7
  · rw [ci, eT.2.2.1]; exact R13
  · rw [ci, eT.2.2.1]; exact R14
  · rw [ci, eT.2.2.1, R15 e (by omega), (e1 (B p + 2) (by omega)).2.2.1]
    exact Cold.2.2.2 e he
  · rw [← eb.2.2.2.2.1]; exact (R16 z).1
  · rw [ci, eT.2.2.1, (R16 z).2 i hi hin j hj, (e1 T R3).2.2.1]
  · unfold cNo
    rw [f_sf_s, z0]
  · have e := e0 a a1 a2
    exact ⟨by rw [ck]; exact e.1, by rw [cf a (by omega)]; exact e.2.1, by rw [ci]; exact e.2.2.1, by unfold cNo; rw [l_sf]; exact e.2.2.2.1, by rw [cr]; exact e.2.2.2.2.1, by unfold cNo; rw [q_sf]; exact e.2.2.2.2.2⟩
theorem c_settle (x : R0 h W N B S len) (hmax : ah_n h < 10000000) (hp0 : p < N) (F1 : fcs h h1) (Cold : cD h (B p) n l A) (h40 : n ≤ 40) (D1 : cD h1 29 n' l' A') (h40' : n' ≤ 40) (k : ∀ h4 hc nx T, CS h h4 W p (B p) n l n' l' A A' hc nx T → Q (some (.int (nI 1))) h4) : ex_S yX11_settle mX11_settle (d + 2) [.ref 0, .int (nI p), .int 1] h1 (bc + 1) (bs + 1620) Q := by
  obtain ⟨h24, hN, hN2, hP⟩ := x.2.2.2.2.1
  obtain ⟨x1, x2, pt1, ⟨w0, w1, w2⟩, -, hh⟩ := (hP p hp0).2
  have hq := (hP p hp0).1
  have bx := pt1.1
  have K := x.2.1
  have K1 := F1.2.2.1 K
  have e1 : ∀ a, 216 ≤ a → eqc h h1 a := fun a ha => F1.2.1 a (cscr_no ha)
  have n1 : ah_n h1 = ah_n h := F1.1
  have P1 : pt h1 (B p) := pt_eq pt1 (e1 _ x1) (e1 _ (by omega)) (e1 _ (by omega)) (by omega)
  have hq1 : ah_q h1 1 p = some (B p) := by rw [(F1.2.1 1 (by decide)).2.2.2.2.2]; exact hq
  have hp24 : p < 24 := by omega
  have hh1 : hp h1 W (B p) p := hp_eq hh (fun _ _ => rfl) (e1 _ x1).2.1 (e1 _ x1).2.2.2.2.1 (by rw [(F1.2.1 174 (by decide)).2.2.1]) (fun T t1 _ _ _ => e1 T t1) (fun k _ => sl_of _ (F1.2.1 170 (by decide)).2.2.1 (F1.2.1 171 (by decide)).2.2.1 (F1.2.1 172 (by decide)).2.2.1 (F1.2.1 173 (by decide)).2.2.1) (by omega)
  refine X11_settle_e (X11_settle_0 ⟨fun _ => ⟨o0 K1, 1, r0_0 K1, (s1 K1 _).mpr ((ix_nI (by omega)).mpr hp24), B p, by rw [nI_clamp (by omega)]; exact hq1, pt_o P1, ?_⟩, fun z => absurd rfl z⟩)
  refine c_remember (n0 := n) (l0 := l) P1 (by omega) K1.1 (by omega) hh1 (by rw [(e1 _ x1).2.1]; exact Cold.1) (by rw [(e1 _ x1).2.1]; exact Cold.2.1) (fun h2 hc nx T c5 c6 c7 c8 R => ⟨rfl, ?_⟩)
  have R' := R
  obtain ⟨R1, ⟨R3, R4, R5, R6, R7, R7a, R7b, R7c⟩, R8, R9, ⟨R10, R11, R12⟩, ⟨R13, R14, R15⟩, R16⟩ := R
  have lo : ∀ a, a < 216 → eqc h1 h2 a := fun a ha => R9 a (by omega) (by omega)
  have hn2 : ah_n h1 ≤ ah_n h2 := by rcases R1 with q | q <;> omega
  have K2 : sp h2 := sp_lo K1 hn2 lo
  have P2 : pt h2 (B p) := by
    refine ⟨P1.1, ⟨by have := P1.2.1.1; omega, by rw [R10]; exact P1.2.1.2⟩, ?_, ?_, ah_x_eq P1.2.2.2.2.1 (R9 _ (by omega) (fun e => R7b e.symm)) hn2, ah_x_eq P1.2.2.2.2.2 (R9 _ (by omega) (fun e => R7c e.symm)) hn2⟩
    · rw [R12 0 (by decide)]; exact P1.2.2.1
    · rw [R12 1 (by decide)]; exact P1.2.2.2.1
  have P29 : pt h2 29 := ⟨by decide, o29 K2, r29_0 K2, r29_1 K2, sp_x K2 30 (by decide) rfl, sp_x K2 31 (by decide) rfl⟩
  have hq2 : ah_q h2 1 p = some (B p) := by rw [(lo 1 (by decide)).2.2.2.2.2]; exact hq1
  have D2 : cD h2 29 n' l' A' := by
    unfold cD
    rw [(lo 29 (by decide)).2.1, (lo 30 (by decide)).2.2.1, (lo 31 (by decide)).2.2.1]
    exact D1
  refine ⟨o0 K2, 1, r0_0 K2, (s1 K2 _).mpr ((ix_nI (by omega)).mpr hp24), B p, by rw [nI_clamp (by omega)]; exact hq2, 29, r0_6 K2, pt_o P2, c_take P2 P29 (by omega) (fun h3 F3 g0 g1 g2 => ⟨rfl, o0 (sp_fr K2 F3), grC (sp_fr K2 F3) _, fun h17 e17 => ?_⟩)⟩
  have D3 : cD h3 (B p) n' l' A' := by
    obtain ⟨d0, d1, d2, d3⟩ := D2
    refine ⟨?_, ?_, fun c hc => ?_, fun e he => ?_⟩
    · rw [g0, u1_n _ _ (by decide), u1_s]; exact d0
    · rw [g0, u1_s]; exact d1
    · rw [g1, pk_cpy_in (by omega) (by omega), Nat.sub_zero, Nat.zero_add]; exact d2 c hc
    · rw [g2, pk_cpy_in (by omega) (by omega), Nat.sub_zero, Nat.zero_add]; exact d3 e he
  have C := CS_of x hp0 F1 Cold h40 c5 c6 c7 c8 R' F3 D3 (by rw [g0, u1_n _ _ (by decide), u1_n _ _ (by decide)]) (by rw [g0, u1_n _ _ (by decide), u1_n _ _ (by decide)])
  have e17' : h17 = cNo h3 (nI 0) := e17.trans (grH 1)
  rw [e17']
  exact k _ hc nx T C
end SETTLE
