/-! Gauss rows: the class. -/
theorem nat_and2 (v : Nat) : v &&& 2 = if v % 4 < 2 then 0 else 2 := by
  have h1 : (v &&& 2) % 4 = (v % 4) &&& 2 := Nat.and_mod_two_pow (n := 2)
  have h2 : v &&& 2 ≤ 2 := Nat.and_le_right
  have h3 := (by decide : ∀ r, r < 4 → r &&& 2 = if r < 2 then 0 else 2) (v % 4) (Nat.mod_lt _ (by decide))
  rw [h3] at h1
  rw [← h1]
  omega
theorem and2_0 {v : Nat} (h : v < 2 ^ 31) : (nI v &&& 2 : Int32) = 0 ↔ v % 4 < 2 := by
  have e : (nI v &&& 2 : Int32) = nI (v &&& 2) := by
    apply i32_nat
    have e2 : ((2 : Int32).toBitVec).toNat = 2 := by decide
    have b : v &&& 2 ≤ 2 := Nat.and_le_right
    rw [Int32.toBitVec_and, BitVec.toNat_and, pk_tn (by omega), pk_tn (by omega), e2]
  rw [e, nat_and2]
  split
  · exact ⟨fun _ => by assumption, fun _ => rfl⟩
  · exact ⟨fun q => absurd q (by decide), fun q => absurd q (by assumption)⟩
theorem and_m4 {v : Nat} (h : v < 2 ^ 31) : (nI v &&& (-4) : Int32) = nI (v / 4 * 4) := by
  apply i32_nat
  have e2 : ((-4 : Int32).toBitVec).toNat = 2 ^ 32 - 4 := by decide
  rw [Int32.toBitVec_and, BitVec.toNat_and, pk_tn (by omega), pk_tn (by omega), e2, nat_and4 v (by omega)]
theorem entV {v : Nat} (hv : v < 2 ^ 31 - 8) (h : AH) : X7_entryOf_V (nI v) h = nI (en v) := by
  unfold X7_entryOf_V en
  have a1 : (nI v &&& 1 : Int32) = nI (v % 2) := and1 (by omega)
  have c1 : nI (v % 2) = 1 ↔ v % 2 = 1 := nI_eq (b := 1) (by omega) (by omega)
  have e3 : nI (v / 4 * 4) + 3 = nI (v / 4 * 4 + 3) := nI_add _ 3
  have e1 : nI (v / 4 * 4) + 1 = nI (v / 4 * 4 + 1) := nI_add _ 1
  rw [and_m4 (by omega), a1, e3, e1]
  by_cases q : v % 4 < 2
  · rw [if_pos ((and2_0 (by omega)).mpr q), if_pos q]
  · rw [if_neg (fun z => q ((and2_0 (by omega)).mp z)), if_neg q]
    by_cases w : v % 2 = 1
    · rw [if_pos (c1.mpr w), if_pos w]
    · rw [if_neg (fun z => w (c1.mp z)), if_neg w]
theorem i32_m (x : Int32) : (x < (-1) ↔ x.toInt < -1) ∧ (x = (-1) ↔ x.toInt = -1) ∧ (x < 0 ↔ x.toInt < 0) ∧ (0 ≤ x ↔ 0 ≤ x.toInt) := by
  have e1 : ((-1 : Int32)).toInt = -1 := by decide
  have e0 : ((0 : Int32)).toInt = 0 := by decide
  refine ⟨?_, ?_, ?_, ?_⟩
  · rw [Int32.lt_iff_toInt_lt, e1]
  · rw [← e1]; exact Int32.toInt_inj.symm
  · rw [Int32.lt_iff_toInt_lt, e0]
  · rw [Int32.le_iff_toInt_le, e0]
theorem nI_m1 {n : Nat} (h : 1 ≤ n) : nI n - 1 = nI (n - 1) := pk_sub (b := 1) h
section CG
variable {h : AH} {d bc bs L : Nat} {Q : Option Value → AH → Prop}
theorem MK_last (L : Nat) (T : Nat → Int32) : fs T (L - 1) = np T (L - 1) ↔ ¬ fs T (L - 1) < np T (L - 1) := by
  have := fs_le T (L - 1)
  omega
theorem c_countPasses (K : sp h) (hL : ah_f h 3 1 = nI L) (h130 : L ≤ 130) (k1 : MK (ah_i h 4) L → Q (some (.int (nI (np (ah_i h 4) (L - 1))))) h) (k0 : ¬ MK (ah_i h 4) L → Q (some (.int (-1))) h) : ex_S yX7_countPasses mX7_countPasses d [.ref 3] h bc bs Q := by
  refine X7_countPasses_e (X7_countPasses_0 ⟨o3 K, fun x2 e2 => ?_⟩)
  rw [hL] at e2
  by_cases z : L = 0
  · have e : x2 = -1 := by rw [e2, z]; decide
    refine ⟨fun _ => k0 (fun q => by have := q.1; omega), fun w => absurd ?_ w⟩
    rw [e]
    decide
  · have e : x2 = nI (L - 1) := by rw [e2]; exact nI_m1 (by omega)
    clear e2
    subst e
    refine ⟨fun w => absurd w ?_, fun _ => ⟨4, r3_0 K, (s4 K _).mpr ((ix_nI (by omega)).mpr (by omega)), ?_⟩⟩
    · exact fun q => by
        have := (nI_ltI (b := 0) (by omega) (by omega)).mp q
        omega
    rw [nI_clamp (by omega)]
    have e2_ : ((-2 : Int32)).toInt = -2 := by decide
    have e11 : ((-11 : Int32)).toInt = -11 := by decide
    rw [Int32.lt_iff_toInt_lt, Int32.le_iff_toInt_le, e2_, e11]
    refine ⟨fun w => k0 (fun q => by have := q.2.1.2; omega), fun w2 => ⟨fun w11 => ?_, fun w => k0 (fun q => by have := q.2.1.1; omega)⟩⟩
    refine lp (L - 1) (fun k h' => h' = h ∧ ∀ i, i < k → ps (ah_i h 4) i ∨ (ah_i h 4 i = m1 ∧ fs (ah_i h 4) i < np (ah_i h 4) i)) (fun k h' => ex_G mX7_countPasses d 42 [.ref 3, .int (nI (L - 1)), .int (nI (np (ah_i h 4) k)), .int (if fs (ah_i h 4) k < np (ah_i h 4) k then 1 else 0), .int (nI k), .retAddr 0] [] h' bc bs Q) ⟨rfl, fun i hi => absurd hi (Nat.not_lt_zero i)⟩ ?_ ?_
    · rintro k h1 hk ⟨rfl, I⟩ nx
      have fl := fs_le (ah_i h1 4) k
      have nl := np_le (ah_i h1 4) k
      obtain ⟨i1, i2, i3, i4⟩ := i32_m (ah_i h1 4 k)
      refine X7_countPasses_42 ⟨fun w => ?_, fun _ => ⟨o3 K, 4, r3_0 K, (s4 K _).mpr ((ix_nI (by omega)).mpr (by omega)), fun x6 e6 => ?_⟩⟩
      · rw [nI_leI (by omega) (by omega)] at w
        omega
      rw [nI_clamp (by omega)] at e6
      subst e6
      have bad : ¬ (ps (ah_i h1 4) k ∨ (ah_i h1 4 k = m1 ∧ fs (ah_i h1 4) k < np (ah_i h1 4) k)) → Q (some (.int (-1))) h1 := fun nb => k0 (fun q => nb (q.2.2.1 k hk))
      have go : (ps (ah_i h1 4) k ∨ (ah_i h1 4 k = m1 ∧ fs (ah_i h1 4) k < np (ah_i h1 4) k)) → ex_G mX7_countPasses d 75 [.ref 3, .int (nI (L - 1)), .int (nI (np (ah_i h1 4) k)), .retAddr 0, .int (nI k), .int (ah_i h1 4 k)] [] h1 bc bs Q := by
        intro ok
        have st := nx h1 ⟨rfl, fun i hi => by
          by_cases q : i = k
          · rw [q]; exact ok
          · exact I i (by omega)⟩
        refine X7_countPasses_75 ⟨fun w => ?_, fun w => ?_⟩
        · have np_ : ¬ ps (ah_i h1 4) k := fun q => by
            have a := i3.mp w
            have b := i4.mp q
            omega
          rw [np_n np_, fs_n np_, if_neg (Nat.lt_irrefl _)] at st
          refine X7_countPasses_85 ⟨fun _ x2 e2 x3 e3 => ?_, fun w => absurd rfl w⟩
          have g2 : x2 = nI (np (ah_i h1 4) k) := by rw [e2]; exact nI_add _ 0
          have g3 : x3 = nI (k + 1) := by rw [e3]; exact nI_add _ 1
          rw [g2, g3]
          exact st
        · have p_ : ps (ah_i h1 4) k := i4.mpr (by
            have : ¬ (ah_i h1 4 k).toInt < 0 := fun q => w (i3.mpr q)
            omega)
          rw [np_y p_, fs_y p_, if_pos (by omega)] at st
          refine X7_countPasses_85 ⟨fun w => absurd w (by decide), fun _ x2 e2 x3 e3 => ?_⟩
          have g2 : x2 = nI (np (ah_i h1 4) k + 1) := by rw [e2]; exact nI_add _ 1
          have g3 : x3 = nI (k + 1) := by rw [e3]; exact nI_add _ 1
          rw [g2, g3]
          exact st
      refine ⟨fun w => bad ?_, fun w => ⟨fun w1 => go (Or.inl (i4.mpr ?_)), fun w1 => ⟨fun wf => go (Or.inr ⟨w1, ?_⟩), fun wf => bad ?_⟩⟩⟩
      · rintro (q | ⟨q, -⟩)
        · have a := i1.mp w
          have b := i4.mp q
          omega
        · have a := i1.mp w
          have b := i2.mp q
          omega
      · have a : ¬ (ah_i h1 4 k).toInt < -1 := fun q => w (i1.mpr q)
        have b : ¬ (ah_i h1 4 k).toInt = -1 := fun q => w1 (i2.mpr q)
        omega
      · by_cases q : fs (ah_i h1 4) k < np (ah_i h1 4) k
        · exact q
        · rw [if_neg q] at wf
          exact absurd rfl wf
      · by_cases q : fs (ah_i h1 4) k < np (ah_i h1 4) k
        · rw [if_pos q] at wf
          exact absurd wf (by decide)
        · rintro (q' | ⟨-, q'⟩)
          · have a := i2.mp w1
            have b := i4.mp q'
            omega
          · exact q q'
    · rintro h1 ⟨rfl, I⟩
      refine X7_countPasses_42 ⟨fun _ => ?_, fun w => absurd ((nI_leI (by omega) (by omega)).mpr (Nat.le_refl _)) w⟩
      by_cases q : fs (ah_i h1 4) (L - 1) < np (ah_i h1 4) (L - 1)
      · rw [if_pos q]
        exact ⟨fun w => absurd w (by decide), fun _ => k0 (fun M => by have := M.2.2.2; omega)⟩
      · rw [if_neg q]
        exact ⟨fun _ => k1 ⟨by omega, ⟨by omega, by omega⟩, I, (MK_last L _).mpr q⟩, fun w => absurd rfl w⟩
theorem c_holds (K : sp h) (hL : ah_f h 3 1 = nI L) (h130 : L ≤ 130) (v : Int32) (k1 : (∃ j, j < L ∧ ah_i h 4 j = v) → Q (some (.int 1)) h) (k0 : (¬ ∃ j, j < L ∧ ah_i h 4 j = v) → Q (some (.int 0)) h) : ex_S yX6_holds mX6_holds d [.ref 3, .int v] h bc bs Q := by
  refine X6_holds_e (X6_holds_0 ?_)
  refine lp L (fun k h' => h' = h ∧ ∀ j, j < k → ah_i h 4 j ≠ v) (fun k h' => ex_G mX6_holds d 2 [.ref 3, .int v, .int (nI k)] [] h' bc bs Q) ⟨rfl, fun i hi => absurd hi (Nat.not_lt_zero i)⟩ ?_ ?_
  · rintro k h1 hk ⟨rfl, I⟩ nx
    refine X6_holds_2 ⟨o3 K, fun w => ?_, fun _ => ⟨4, r3_0 K, (s4 K _).mpr ((ix_nI (by omega)).mpr (by omega)), ?_⟩⟩
    · rw [hL, nI_leI (by omega) (by omega)] at w
      omega
    rw [nI_clamp (by omega)]
    refine ⟨fun w x6 e6 => ?_, fun w => k1 ⟨k, hk, w⟩⟩
    have g : x6 = nI (k + 1) := by rw [e6]; exact nI_add _ 1
    rw [g]
    refine nx h1 ⟨rfl, fun j hj => ?_⟩
    by_cases q : j = k
    · rw [q]; exact w
    · exact I j (by omega)
  · rintro h1 ⟨rfl, I⟩
    refine X6_holds_2 ⟨o3 K, fun _ => k0 ?_, fun w => absurd ?_ w⟩
    · rintro ⟨j, hj, e⟩
      exact I j hj e
    · rw [hL]
      exact (nI_leI (by omega) (by omega)).mpr (Nat.le_refl _)
/-- the draft while it is drawn -/
def DI (T : Nat → Int32) (L N2 k : Nat) (lo : Int32) (h h' : AH) : Prop := fr [29, 29 + 1, 29 + 2] h h' ∧ (ah_f h' 29 2 = nI N2 ∧ ah_f h' 29 3 = lo ∧ ∀ c, c < N2 → ah_i h' 30 c = nI 4) ∧ (∀ i, i < k → ps T i → ah_i h' 31 (en (tv T i)) = (if np T i = fs T k then nI 100 else nI (cb T k (np T i))) ∧ ah_i h' 31 (xt (tv T i)) = nI (np T i)) ∧ (∀ e, e < 4 * N2 → (∀ i, i < k → ps T i → e ≠ en (tv T i) ∧ e ≠ xt (tv T i)) → ah_i h' 31 e = m1) ∧ ∀ i, i < k → ps T i → tv T i / 4 < N2 ∧ (∃ j, j < L ∧ T j = T i ^^^ 2) ∧ ∀ i', i' < i → ps T i' → tv T i' / 2 ≠ tv T i / 2
theorem c_drawloop {N2 : Nat} {lo : Int32} {T : Nat → Int32} (K : sp h) (hL : ah_f h 3 1 = nI L) (h130 : L ≤ 130) (eT : T = ah_i h 4) (M : MK T L) (h80 : np T (L - 1) ≤ 80) (eN : N2 = np T (L - 1) / 2) {h0 : AH} (D0 : DI T L N2 0 lo h h0)
    (kF : ¬ GC T L → ∀ h', fr [29, 29 + 1, 29 + 2] h h' → Q (some (.int 0)) h') (kT : ∀ h', DI T L N2 (L - 1) lo h h' → Q (some (.int 1)) h') : ex_G mX7_draw (d + 2) 70 [.ref 29, .ref 3, .retAddr 0, .int (nI 0), .int (nI 0), .int (nI 0), .retAddr 0] [] h0 bc bs Q := by
  have L1 := M.1
  have n40 : N2 ≤ 40 := by omega
  refine lp (L - 1) (fun k h' => DI T L N2 k lo h h') (fun k h' => ex_G mX7_draw (d + 2) 70 [.ref 29, .ref 3, .retAddr 0, .int (nI (np T k)), .int (nI (fs T k)), .int (nI k), .retAddr 0] [] h' bc bs Q) D0 ?_ ?_
  · rintro k h1 hk ⟨F, ⟨g2, g3, g4⟩, I1, I2, I3⟩ nx
    have K1 := sp_fr K F
    have P := pt29 K1
    have fl := fs_le T k
    have nl := np_le T k
    have nm : np T k ≤ np T (L - 1) := ct_mono _ (by omega)
    have T1 : ah_i h1 4 = T := by rw [fr_i F 4 (by decide)]; exact eT.symm
    have L2 : ah_f h1 3 1 = nI L := by rw [fr_f F 3 (by decide)]; exact hL
    have eL : nI L - 1 = nI (L - 1) := pk_sub (by omega)
    refine X7_draw_70 ⟨o3 K1, fun w => ?_, fun _ => ⟨4, r3_0 K1, (s4 K1 _).mpr ((ix_nI (by omega)).mpr (by omega)), fun x5 e5 => ?_⟩⟩
    · rw [L2, eL, nI_leI (by omega) (by omega)] at w
      omega
    rw [nI_clamp (by omega), T1] at e5
    subst e5
    refine ⟨fun p => ?_, fun np_ => ?_⟩
    · -- a pass
      have p_ : ps T k := p
      obtain ⟨ev, hv⟩ := ps_v p_
      refine c_holds K1 L2 h130 _ (fun hol => ⟨_, rfl, fun w => absurd w (by decide), fun _ => ?_⟩) (fun nh => ⟨_, rfl, fun _ => ?_, fun w => absurd rfl w⟩)
      · rw [T1] at hol
        have key : ∀ u : Int32, (u = if np T k = fs T k then nI 100 else nI (np T k - 1)) → ex_G mX7_draw (d + 2) 150 [.ref 29, .ref 3, .retAddr 0, .int (nI (np T k)), .int (nI (fs T k)), .int (nI k), .retAddr 0] [.int u, .int (T k), .ref 29] h1 bc bs Q := by
          intro u eu
          refine X7_draw_150 ⟨pt_o P, X7_drawPass_e (X7_drawPass_0 ⟨pt_o P, ⟨fun _ => trivial, fun _ => ⟨pt_o P, trivial⟩⟩, ?_⟩)⟩
          have sh : (T k) >>> (2 &&& (31 : Int32)) = nI (tv T k / 4) := by
            rw [ev]
            exact shr2 hv
          have hc := hasC g2 n40 (nI (tv T k / 4))
          rw [sh, hc, ix_nI (by omega)]
          refine ⟨fun w => ?_, fun w => ⟨_, rfl, fun z => absurd rfl z, fun _ => kF (fun G => w ?_) _ F⟩⟩
          · have hlt : tv T k / 4 < N2 := Classical.not_not.mp w
            have eE : X7_entryOf_V (T k) h1 = nI (en (tv T k)) := by
              rw [ev]
              exact entV (by omega) h1
            have eX : ∀ g : AH, X11_corner_V (nI (en (tv T k))) 2 g = nI (xt (tv T k)) := fun g => corner_nI (k := 2) (by have := en_div (tv T k); omega) (by omega)
            have d1 := en_div (tv T k)
            have d2 := xt_div (tv T k)
            refine fun x4 e4 => ⟨31, pt_r1 P, ?_⟩
            rw [eE] at e4
            subst e4
            refine ⟨(s31 K1 _).mpr ((ix_nI (by omega)).mpr (by omega)), ?_⟩
            rw [nI_clamp (by omega)]
            refine ⟨fun un => ⟨(t31 K1 _).mpr ((ix_nI (by omega)).mpr (by omega)), fun h8 e8 => ?_⟩, fun us_ => ⟨_, rfl, fun z => absurd rfl z, fun _ => kF (fun G => us_ ?_) _ F⟩⟩
            · have F8 : fr [29, 29 + 1, 29 + 2] h h8 := by rw [e8]; exact fr_si F (by decide)
              rw [eX]
              refine ⟨(t31 (sp_fr K F8) _).mpr ((ix_nI (by omega)).mpr (by omega)), fun h10 e10 => ⟨_, rfl, fun _ x5 e5 x6 e6 => ?_, fun w => absurd w (by decide)⟩⟩
              rw [nI_clamp (by omega)] at e10
              have F10 : fr [29, 29 + 1, 29 + 2] h h10 := by rw [e10]; exact fr_si F8 (by decide)
              have i10 : ah_i h10 31 = u1 (u1 (ah_i h1 31) (en (tv T k)) u) (xt (tv T k)) (nI (np T k)) := by rw [e10, i_si_s, e8, i_si_s]
              have i30 : ah_i h10 30 = ah_i h1 30 := by rw [e10, i_si_n _ _ _ _ _ (by decide), e8, i_si_n _ _ _ _ _ (by decide)]
              have f29 : ah_f h10 29 = ah_f h1 29 := by rw [e10, f_si, e8, f_si]
              have q5 : x5 = nI (np T k + 1) := by rw [e5]; exact nI_add _ 1
              have q6 : x6 = nI (k + 1) := by rw [e6]; exact nI_add _ 1
              -- strands differ
              have dif : ∀ i, i < k → ps T i → tv T i / 2 ≠ tv T k / 2 := fun i hi pi e => by
                obtain ⟨j1, j2⟩ := I1 i hi pi
                have lt1 := np_lt hi pi
                have cl_ := cb_lt T k (np T i)
                rcases en_or (v := tv T i) (e := en (tv T k)) (by rw [d1]; omega) (by rw [en_par, e]) with q | q
                · rw [q, j1] at un
                  split at un
                  · exact absurd un (by decide)
                  · exact m1_ne (by omega) un
                · rw [q, j2] at un
                  exact m1_ne (by omega) un
              have st := nx h10 ⟨F10, ⟨by rw [f29]; exact g2, by rw [f29]; exact g3, fun c hc => by rw [i30]; exact g4 c hc⟩, fun i hi pi => ?_, fun e he un_ => ?_, fun i hi pi => ?_⟩
              · rw [np_y p_, fs_y p_] at st
                rw [q5, q6]
                exact st
              · rw [fs_y p_, cb_y p_, i10]
                by_cases q : i = k
                · subst q
                  rw [u1_n _ _ (en_xt _), u1_s, u1_s, u1_s]
                  exact ⟨eu, rfl⟩
                · have hi' : i < k := by omega
                  have df := dif i hi' pi
                  obtain ⟨j1, j2⟩ := I1 i hi' pi
                  have n1 := np_lt hi' pi
                  rw [u1_n _ _ (st_ne df (en_div _) (en_par _) (xt_div _) (xt_par _)), u1_n _ _ (st_ne df (en_div _) (en_par _) (en_div _) (en_par _)), u1_n _ _ (st_ne df (xt_div _) (xt_par _) (xt_div _) (xt_par _)), u1_n _ _ (st_ne df (xt_div _) (xt_par _) (en_div _) (en_par _)), u1_n _ _ (by omega)]
                  exact ⟨j1, j2⟩
              · obtain ⟨a1, a2⟩ := un_ k (by omega) p_
                rw [i10, u1_n _ _ a2, u1_n _ _ a1]
                exact I2 e he (fun i hi pi => un_ i (by omega) pi)
              · by_cases q : i = k
                · subst q
                  exact ⟨hlt, hol, fun i' hi' pi' => dif i' hi' pi'⟩
                · exact I3 i (by omega) pi
            · refine I2 _ (by omega) (fun i hi pi => ?_)
              have df := (G.2.2 k hk p_).2.2 i hi pi
              exact ⟨st_ne (Ne.symm df) (en_div _) (en_par _) (en_div _) (en_par _), st_ne (Ne.symm df) (en_div _) (en_par _) (xt_div _) (xt_par _)⟩
          · rw [eN]
            exact (G.2.2 k hk p_).1
        refine ⟨fun w => key _ ?_, fun w => key _ ?_⟩
        · rw [nI_eq (by omega) (by omega)] at w
          rw [if_neg w]
          exact nI_m1 (by omega)
        · rw [nI_eq (by omega) (by omega)] at w
          rw [if_pos w]
          rfl
      · refine kF (fun G => nh ?_) _ F
        obtain ⟨j, hj, e⟩ := (G.2.2 k hk p_).2.1
        exact ⟨j, hj, by rw [T1]; exact e⟩
    · -- a mark
      have n_ : ¬ ps T k := np_
      rcases M.2.2.1 k hk with q | ⟨em, hfn⟩
      · exact absurd q n_
      obtain ⟨r1, r2, r3⟩ := np_run T k (np T k - fs T k) (Nat.le_refl _)
      have pf := r3 (by omega)
      obtain ⟨ev, hv⟩ := ps_v pf
      have hfp : k - (np T k - fs T k) < k := by omega
      have e1 : (nI k - nI (np T k)) + nI (fs T k) = nI (k - (np T k - fs T k)) := by
        rw [pk_sub (by omega), nI_add]
        congr 1
        omega
      obtain ⟨c1, c2, c3⟩ := I3 _ hfp pf
      obtain ⟨j1, j2⟩ := I1 _ hfp pf
      rw [r2] at j1 j2
      have d1 := en_div (tv T (k - (np T k - fs T k)))
      rw [e1, nI_clamp (by omega), T1]
      refine ⟨(s4 K1 _).mpr ((ix_nI (by omega)).mpr (by omega)), pt_o P, X7_closePiece_e (X7_closePiece_0 (fun x1 e1' => ?_))⟩
      rw [ev, entV (by omega)] at e1'
      subst e1'
      have em1 : nI (np T k) - 1 = nI (np T k - 1) := nI_m1 (by omega)
      rw [em1, nI_ltI (by omega) (by omega)]
      refine ⟨fun w => by omega, fun _ => ⟨pt_o P, ⟨fun _ => trivial, fun _ => ⟨pt_o P, trivial⟩⟩, ?_⟩⟩
      have sh : nI (en (tv T (k - (np T k - fs T k)))) >>> (2 &&& (31 : Int32)) = nI (tv T (k - (np T k - fs T k)) / 4) := by
        rw [← d1]
        exact shr2 (by omega)
      have hc := hasC g2 n40 (nI (tv T (k - (np T k - fs T k)) / 4))
      rw [sh, hc, ix_nI (by omega)]
      refine ⟨fun w => absurd c1 w, fun _ => ⟨31, pt_r1 P, (t31 K1 _).mpr ((ix_nI (by omega)).mpr (by omega)), fun h7 e7 => ⟨rfl, fun x14 e14 => ?_⟩⟩⟩
      rw [nI_clamp (by omega)] at e7
      have F7 : fr [29, 29 + 1, 29 + 2] h h7 := by rw [e7]; exact fr_si F (by decide)
      have i31 : ah_i h7 31 = u1 (ah_i h1 31) (en (tv T (k - (np T k - fs T k)))) (nI (np T k - 1)) := by rw [e7, i_si_s]
      have i30 : ah_i h7 30 = ah_i h1 30 := by rw [e7, i_si_n _ _ _ _ _ (by decide)]
      have f29 : ah_f h7 29 = ah_f h1 29 := by rw [e7, f_si]
      have q14 : x14 = nI (k + 1) := by rw [e14]; exact nI_add _ 1
      have st := nx h7 ⟨F7, ⟨by rw [f29]; exact g2, by rw [f29]; exact g3, fun c hc => by rw [i30]; exact g4 c hc⟩, fun i hi pi => ?_, fun e he un_ => ?_, fun i hi pi => ?_⟩
      · rw [np_n n_, fs_n n_] at st
        rw [q14]
        exact st
      · have hi' : i < k := by
          by_cases q : i = k
          · subst q; exact absurd pi n_
          · omega
        have n1 := np_lt hi' pi
        rw [fs_n n_, cb_n n_, i31, if_neg (by omega)]
        obtain ⟨j1', j2'⟩ := I1 i hi' pi
        by_cases q : i = k - (np T k - fs T k)
        · subst q
          rw [r2, show np T k - (np T k - fs T k) = fs T k by omega, u1_s, u1_s, u1_n _ _ (Ne.symm (en_xt _))]
          rw [r2, show np T k - (np T k - fs T k) = fs T k by omega] at j2'
          exact ⟨rfl, j2'⟩
        · have nf : np T i ≠ fs T k := fun e => q (np_inj pi pf (by rw [r2, e]; omega))
          have df : tv T i / 2 ≠ tv T (k - (np T k - fs T k)) / 2 := by
            rcases Nat.lt_or_gt_of_ne q with w | w
            · exact c3 i w pi
            · exact Ne.symm ((I3 i hi' pi).2.2 _ w pf)
          rw [if_neg nf] at j1'
          rw [u1_n _ _ (st_ne df (en_div _) (en_par _) (en_div _) (en_par _)), u1_n _ _ (st_ne df (xt_div _) (xt_par _) (en_div _) (en_par _)), u1_n _ _ nf]
          exact ⟨j1', j2'⟩
      · rw [i31, u1_n _ _ (un_ _ (by omega) pf).1]
        exact I2 e he (fun i hi pi => un_ i (by omega) pi)
      · have hi' : i < k := by
          by_cases q : i = k
          · subst q; exact absurd pi n_
          · omega
        exact I3 i hi' pi
  · rintro h1 D
    have F := D.1
    have K1 := sp_fr K F
    have L2 : ah_f h1 3 1 = nI L := by rw [fr_f F 3 (by decide)]; exact hL
    have eL : nI L - 1 = nI (L - 1) := pk_sub (by omega)
    refine X7_draw_70 ⟨o3 K1, fun _ => kT h1 D, fun w => absurd ?_ w⟩
    rw [L2, eL]
    exact (nI_leI (by omega) (by omega)).mpr (Nat.le_refl _)
end CG
