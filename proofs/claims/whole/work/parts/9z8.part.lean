/-! same: the number that parts two pictures. -/
def SOx (n : Nat) (m so : Nat → Nat) : Prop := ∀ x, x < 4 * n → so x < ct (lm (sg n m)) (4 * n) ∧ (∀ y, y < 4 * n → lm (sg n m) y → sg n m y x → so x = ct (lm (sg n m)) y) ∧ ∀ x', x' < 4 * n → (so x = so x' ↔ sg n m x x')
noncomputable def clv (n l : Nat) (m : Nat → Nat) (r : Nat) : Int32 := nI (ct (lm (sg n m)) (4 * n)) - nI r + nI l
def clE (md n : Nat) (m so : Nat → Nat) (r : Nat) : Prop := EL md (fun i c => (cV so md i c : Int)) n (ct (lm (sg n m)) (4 * n)) r
def mdk : Nat → Nat
  | 0 => 3
  | 1 => 5
  | 2 => 7
  | 3 => 11
  | _ => 13
def CEq (na la : Nat) (ma sa : Nat → Nat) (nb lb : Nat) (mb sb : Nat → Nat) (k : Nat) : Prop := ∃ r1 r2, clE (mdk k) na ma sa r1 ∧ clE (mdk k) nb mb sb r2 ∧ clv na la ma r1 = clv nb lb mb r2
def CNe (na la : Nat) (ma sa : Nat → Nat) (nb lb : Nat) (mb sb : Nat → Nat) (k : Nat) : Prop := ∃ r1 r2, clE (mdk k) na ma sa r1 ∧ clE (mdk k) nb mb sb r2 ∧ clv na la ma r1 ≠ clv nb lb mb r2
/-- which number parts them: 1 pieces, 2 to 5 colours, 6 the polynomials have to tell, 0 none -/
def PBo (na la : Nat) (ma sa : Nat → Nat) (nb lb : Nat) (mb sb : Nat → Nat) (v : Nat) : Prop := (nQ na ma + la ≠ nQ nb mb + lb ∧ v = 1) ∨ (nQ na ma + la = nQ nb mb + lb ∧ ((∃ k, k < 4 ∧ (∀ j, j < k → CEq na la ma sa nb lb mb sb j) ∧ CNe na la ma sa nb lb mb sb k ∧ v = 2 + k) ∨ ((∀ j, j < 4 → CEq na la ma sa nb lb mb sb j) ∧ ((nQ na ma + la = 1 ∧ nb ≤ 14 ∧ v = 6) ∨ (¬ (nQ na ma + la = 1 ∧ nb ≤ 14) ∧ v = 0)))))
def POL (na la : Nat) (ma : Nat → Nat) (wa : Int) (nb lb : Nat) (mb : Nat → Nat) (wb : Int) : Prop := ∀ k : Nat, k < 281 → Int64.ofInt (lev wa (brk (TY na la ma) na (2 * na + la)) ((k : Int) - 140)) = Int64.ofInt (lev wb (brk (TY nb lb mb) nb (2 * nb + lb)) ((k : Int) - 140))
/-- a surveyed Look -/
def LKd (h : AH) (b n l : Nat) (m : Nat → Nat) : Prop := ah_f h b 10 = nI n ∧ ah_f h b 11 = nI l ∧ (∀ e, e < 4 * n → ah_i h (b + 1) e = nI (m e)) ∧ ah_f h b 14 = nI (nQ n m) ∧ ah_f h b 15 = wr n m n
/-- the class behind it: scratch, and the work spent -/
def CNf (w : Nat) (h h' : AH) : Prop := ah_n h' = ah_n h ∧ (∀ a, a ∉ Cscr → a ≠ 32 → eqc h h' a) ∧ sp h' ∧ LAC h' ∧ ah_f h' 32 3 = nI w ∧ w ≤ 1000000
section PART
variable {h h1 h2 h' : AH} {d bc bs : Nat} {Q : Option Value → AH → Prop} {S : Nat → Int32} {len : Nat} {na la nb lb w : Nat} {A Ab ma sa mb sb : Nat → Nat}
theorem LKd_eq {b n l : Nat} {m : Nat → Nat} (x : LKd h b n l m) (e0 : eqc h h' b) (e1 : eqc h h' (b + 1)) : LKd h' b n l m := by
  unfold LKd
  rw [e0.2.1, e1.2.2.1]
  exact x
theorem mdk_ok (k : Nat) (hk : k < 4) : inv_ (mdk k) ∧ prm (mdk k) ∧ (mdk k = 3 ∨ mdk k = 5 ∨ mdk k = 7 ∨ mdk k = 11) := by
  have : k = 0 ∨ k = 1 ∨ k = 2 ∨ k = 3 := by omega
  rcases this with e | e | e | e
  · subst e; exact ⟨inv_3, prm_3, Or.inl rfl⟩
  · subst e; exact ⟨inv_5, prm_5, Or.inr (Or.inl rfl)⟩
  · subst e; exact ⟨inv_7, prm_7, Or.inr (Or.inr (Or.inl rfl))⟩
  · subst e; exact ⟨inv_11, prm_11, Or.inr (Or.inr (Or.inr rfl))⟩
theorem OLD_mdk (O : OLD h S len) (k : Nat) (hk : k < 4) : ah_i h 10000001 k = nI (mdk k) := by
  obtain ⟨-, o0, o1, o2, o3⟩ := O.2.1
  have : k = 0 ∨ k = 1 ∨ k = 2 ∨ k = 3 := by omega
  rcases this with e | e | e | e
  · subst e; exact o0
  · subst e; exact o1
  · subst e; exact o2
  · subst e; exact o3
/-- a rank leaves the Looks -/
theorem low_rank {h2 h' : AH} (F2 : fr [82, 83] h h2) (F : fP h2 h') : ∀ a, a < 82 → eqc h h' a := fun a ha => by
  obtain ⟨t1, t2, t3⟩ := F.2.2.2.1 a (fun q => by have := (by decide +kernel : ∀ a, a ∈ rwc → 85 ≤ a) a q; omega)
  exact eqc_trans (eqc_fr F2 (by simp only [List.mem_cons, List.not_mem_nil, or_false]; omega)) ⟨by rw [F.2.1], t1, t2, t3, by rw [F.2.2.1], F.2.2.2.2 a (by omega)⟩
theorem c_parting {wa wb : Int} (K : sp h) (L : LAC h) (O : OLD h S len) (Ra : Pr na A ma) (Rb : Pr nb Ab mb) (n12 : na ≤ 12) (n40 : nb ≤ 40) (la9 : la ≤ 9) (lb9 : lb ≤ 9) (xa : LKd h 7 na la ma) (xb : LKd h 18 nb lb mb) (ha : SOx na ma sa) (hb : SOx nb mb sb) (hw : ah_f h 32 3 = nI w) (w6 : w ≤ 1000000) (ea : wr na ma na = iI wa) (eb : wr nb mb nb = iI wb) (va : -(na : Int) ≤ wa ∧ wa ≤ na) (vb : -(nb : Int) ≤ wb ∧ wb ≤ nb)
    (kA : ∀ v h', PBo na la ma sa nb lb mb sb v → v < 6 → fcs h h' → Q (some (.int (nI v))) h')
    (k9 : PBo na la ma sa nb lb mb sb 6 → nb ≤ 14 → 1000000 < w + 2 ^ na + 2 ^ nb → ∀ h', fcs h h' → Q (some (.int (-nI 19))) h')
    (k6 : PBo na la ma sa nb lb mb sb 6 → nb ≤ 14 → w + 2 ^ na + 2 ^ nb ≤ 1000000 → ∀ h' v, CNf (w + 2 ^ na + 2 ^ nb) h h' → ((v = 0 ∧ POL na la ma wa nb lb mb wb) ∨ (v = 6 ∧ ¬ POL na la ma wa nb lb mb wb)) → Q (some (.int (nI v))) h') : ex_S yX11_partingNumber mX11_partingNumber (d + 19) [.ref 0] h bc bs Q := by
  have qa := nQ_le na ma
  have qb := nQ_le nb mb
  have pa : X4_allPieces_V 7 h = nI (nQ na ma + la) := by
    unfold X4_allPieces_V
    rw [xa.2.2.2.1, xa.2.1, nI_add]
  have pb : X4_allPieces_V 18 h = nI (nQ nb mb + lb) := by
    unfold X4_allPieces_V
    rw [xb.2.2.2.1, xb.2.1, nI_add]
  refine X11_partingNumber_e (X11_partingNumber_0 ⟨o0 K, 7, r0_4 K, o7 K, ⟨o7 K, trivial⟩, 18, r0_5 K, o18 K, ⟨o18 K, trivial⟩, ?_⟩)
  rw [pa, pb, nI_eq (by omega) (by omega)]
  refine ⟨fun eqp => ?_, fun nep => kA 1 h (Or.inl ⟨nep, rfl⟩) (by decide) (fcs_refl h)⟩
  refine lp 4 (fun k h' => (fcs h h' ∧ ∀ a, a < 82 → eqc h h' a) ∧ ∀ j, j < k → CEq na la ma sa nb lb mb sb j) (fun k h' => ex_G mX11_partingNumber (d + 19) 21 [.ref 0, .int (nI k), .retAddr 0] [] h' bc bs Q) ⟨⟨fcs_refl h, fun a _ => eqc_refl h a⟩, fun j hj => absurd hj (Nat.not_lt_zero j)⟩ ?_ ?_
  · rintro k h' hk ⟨⟨F, lo⟩, I⟩ next
    have K' := F.2.2.1 K
    have O' : OLD h' S len := OLD_eq O (fun a q => F.2.1 a (cscr_no (by omega)))
    have ra : ah_ra h' 10000001 4 := Or.inr ⟨1, by decide, rfl, by rw [O'.2.1.1]⟩
    have c4 : (Int32.ofNat 4) ≤ nI k ↔ 4 ≤ k := nI_leI (a := 4) (by omega) (by omega)
    obtain ⟨im, pm, hmd⟩ := mdk_ok k hk
    refine X11_partingNumber_21 ⟨4, Or.inl ra, fun z => absurd (c4.mp z) (by omega), fun _ => ⟨⟨4, ra, (ix_nI (by omega)).mpr hk⟩, fun x33 e33 => ⟨o0 K', 82, r0_11 K', 7, r0_4 K', o82 K', ?_⟩⟩⟩
    rw [nI_clamp (by omega), OLD_mdk O' k hk] at e33
    subst e33
    have xa' := LKd_eq xa (lo 7 (by decide)) (lo 8 (by decide))
    obtain ⟨-, -, g, g1, g2⟩ := F.2.2.2 L
    refine c_powerOf (d := d + 15) (lb := 7) (l := la) K' (lk7 K') (by decide) Ra (by omega) xa'.1 xa'.2.1 xa'.2.2.1 im pm hmd ha g1 g2 (fun h2 h3 g' r F2 F3 q1 q2 E _ => ⟨_, rfl, ?_⟩)
    have Fc := fcs_trans F (fcs_rank F2 F3 q1 q2)
    have lo3 : ∀ a, a < 82 → eqc h h3 a := fun a q => eqc_trans (lo a q) (low_rank F2 F3 a q)
    have K3 := Fc.2.2.1 K
    have xb' := LKd_eq xb (lo3 18 (by decide)) (lo3 19 (by decide))
    refine ⟨o0 K3, 82, r0_11 K3, 18, r0_5 K3, o82 K3, c_powerOf (d := d + 15) (lb := 18) (l := lb) K3 (lk18 K3) (by decide) Rb n40 xb'.1 xb'.2.1 xb'.2.2.1 im pm hmd hb q1 q2 (fun h4 h5 g5 r5 F4 F5 q3 q4 E5 _ => ⟨_, rfl, ?_⟩)⟩
    have Fc5 := fcs_trans Fc (fcs_rank F4 F5 q3 q4)
    have lo5 : ∀ a, a < 82 → eqc h h5 a := fun a q => eqc_trans (lo3 a q) (low_rank F4 F5 a q)
    refine ⟨fun eqc_ x47 e47 => ?_, fun nec => ?_⟩
    · rw [e47, show nI k + 1 = nI (k + 1) from nI_add k 1]
      refine next h5 ⟨⟨Fc5, lo5⟩, fun j hj => ?_⟩
      by_cases q : j < k
      · exact I j q
      · have : j = k := by omega
        rw [this]
        exact ⟨r, r5, E, E5, eqc_⟩
    · have e2 : (2 : Int32) + nI k = nI (2 + k) := nI_add 2 k
      rw [e2]
      exact kA (2 + k) h5 (Or.inr ⟨eqp, Or.inl ⟨k, hk, I, ⟨r, r5, E, E5, nec⟩, rfl⟩⟩) (by omega) Fc5
  · rintro h' ⟨⟨F, lo⟩, I⟩
    have K' := F.2.2.1 K
    have O' : OLD h' S len := OLD_eq O (fun a q => F.2.1 a (cscr_no (by omega)))
    have ra : ah_ra h' 10000001 4 := Or.inr ⟨1, by decide, rfl, by rw [O'.2.1.1]⟩
    have xa' := LKd_eq xa (lo 7 (by decide)) (lo 8 (by decide))
    have xb' := LKd_eq xb (lo 18 (by decide)) (lo 19 (by decide))
    have pa' : X4_allPieces_V 7 h' = nI (nQ na ma + la) := by
      unfold X4_allPieces_V
      rw [xa'.2.2.2.1, xa'.2.1, nI_add]
    refine X11_partingNumber_21 ⟨4, Or.inl ra, fun _ => ⟨o0 K', 7, r0_4 K', o7 K', ⟨o7 K', trivial⟩, ?_⟩, fun z => absurd (show (Int32.ofNat 4) ≤ nI 4 by decide) z⟩
    have c14 : (14 : Int32) < nI na ↔ 14 < na := nI_ltI (a := 14) (by omega) (by omega)
    have d14 : nI nb ≤ (14 : Int32) ↔ nb ≤ 14 := nI_leI (b := 14) (by omega) (by omega)
    have c1_ : nI (nQ na ma + la) = (1 : Int32) ↔ nQ na ma + la = 1 := nI_eq (b := 1) (by omega) (by omega)
    rw [pa', xa'.1, c14, c1_]
    refine ⟨fun z => kA 0 h' (Or.inr ⟨eqp, Or.inr ⟨I, Or.inr ⟨fun q => z q.1, rfl⟩⟩⟩) (by decide) F, fun z => ⟨fun q => absurd q (by omega), fun _ => ⟨18, r0_5 K', o18 K', ?_⟩⟩⟩
    rw [xb'.1, d14]
    refine ⟨fun le => ⟨32, r0_7 K', o32 K', ⟨o32 K', trivial⟩, ?_⟩, fun gt => kA 0 h' (Or.inr ⟨eqp, Or.inr ⟨I, Or.inr ⟨fun q => gt q.2, rfl⟩⟩⟩) (by decide) F⟩
    have po : PBo na la ma sa nb lb mb sb 6 := Or.inr ⟨eqp, Or.inr ⟨I, Or.inl ⟨z, le, rfl⟩⟩⟩
    have e32 : eqc h h' 32 := F.2.1 32 (by decide)
    have w1 : ah_f h' 32 3 = nI w := by rw [e32.2.1]; exact hw
    have pa14 : 2 ^ na ≤ 2 ^ 14 := Nat.pow_le_pow_right (by decide) (by omega)
    have pb14 : 2 ^ nb ≤ 2 ^ 14 := Nat.pow_le_pow_right (by decide) le
    rw [costV (by omega), costV le, nI_add]
    have av : X9_affords_V 32 (nI (2 ^ na + 2 ^ nb)) h' = if 1000000 < w + (2 ^ na + 2 ^ nb) then 0 else 1 := by
      unfold X9_affords_V
      rw [w1, nI_add]
      have c : (1000000 : Int32) < nI (w + (2 ^ na + 2 ^ nb)) ↔ 1000000 < w + (2 ^ na + 2 ^ nb) := nI_ltI (a := 1000000) (by omega) (by omega)
      by_cases q : 1000000 < w + (2 ^ na + 2 ^ nb)
      · rw [if_pos q, if_pos (c.mpr q)]
      · rw [if_neg q, if_neg (fun w => q (c.mp w))]
    rw [av]
    by_cases q : 1000000 < w + (2 ^ na + 2 ^ nb)
    · rw [if_pos q]
      exact ⟨fun w => absurd rfl w, fun _ => k9 po le (by omega) h' F⟩
    · rw [if_neg q]
      refine ⟨fun _ => ⟨76, r0_9 K', ?_⟩, fun w => absurd w (by decide)⟩
      have L' := F.2.2.2 L
      have h76 : hb3 76 := Or.inr (Or.inl rfl)
      have h79 : hb3 79 := Or.inr (Or.inr rfl)
      obtain ⟨x0, y0, e0, r0, r1⟩ := LA_ex L' h76
      refine c_makePolynomial (d := d) (l := la) (w := w) (wv := wa) K' h76 (Or.inl rfl) Ra (by omega) la9 xa'.1 xa'.2.1 xa'.2.2.1 L'.2.1 w1 (LA_any e0 r0 r1) (xa'.2.2.2.2.trans ea) (by omega) (by omega) (fun h18 x1 y1 F18 L18 m18 w18 => ⟨rfl, ?_⟩)
      have K18 := sp_fB K' h76 F18
      have La18 := LAC_fB h76 F18 L18 L'
      obtain ⟨x2, y2, e2, r2, r3⟩ := LA_ex La18 h79
      have e18 : ∀ a, a = 18 ∨ a = 19 → eqc h' h18 a := fun a ha => eqc_fB F18 (fun q => by
        have := (by decide +kernel : ∀ a, a ∈ smb → a ≠ 18 ∧ a ≠ 19) a q
        omega) (by omega) (by omega) (by omega)
      have xb18 := LKd_eq xb' (e18 18 (Or.inl rfl)) (e18 19 (Or.inr rfl))
      refine ⟨o0 K18, 32, r0_7 K18, 18, r0_5 K18, 79, r0_10 K18, o32 K18, c_makePolynomial (d := d) (l := lb) (w := w + 2 ^ na) (wv := wb) K18 h79 (Or.inr rfl) Rb le lb9 xb18.1 xb18.2.1 xb18.2.2.1 La18.2.1 w18 (LA_any e2 r2 r3) (xb18.2.2.2.2.trans eb) (by omega) (by omega) (fun h23 x3 y3 F23 L23 m23 w23 => ⟨rfl, ?_⟩)⟩
      have K23 := sp_fB K18 h79 F23
      have La23 := LAC_fB h79 F23 L23 La18
      have x1b := (LA_xb L18).1
      have l1_ : ah_l h23 x1 = ah_l h18 x1 := (F23.2.2.2.2 x1 (fun q => by
        have := (by decide +kernel : ∀ a, a ∈ smb → a < 73) x1 q
        omega)).2.2 (by omega) (by omega)
      have r76 : ah_r h23 76 0 = some x1 := by rw [F23.2.2.2.1 76 (by decide)]; exact L18.2.1
      have cn : CNf (w + 2 ^ na + 2 ^ nb) h h23 := by
        refine ⟨by rw [F23.1, F18.1, F.1], fun a a1 a2 => eqc_trans (F.2.1 a a1) (eqc_trans (eqc_fB F18 ?_ ?_ ?_ ?_) (eqc_fB F23 ?_ ?_ ?_ ?_)), K23, La23, w23, by omega⟩
        · intro q
          rcases smb_C a q with e | e
          · exact a2 e
          · exact a1 e
        · intro e; subst e; exact a1 (by decide)
        · intro e; subst e; exact a1 (by decide)
        · intro e; subst e; exact a1 (by decide)
        · intro q
          rcases smb_C a q with e | e
          · exact a2 e
          · exact a1 e
        · intro e; subst e; exact a1 (by decide)
        · intro e; subst e; exact a1 (by decide)
        · intro e; subst e; exact a1 (by decide)
      refine ⟨o0 K23, 76, r0_9 K23, 79, r0_10 K23, o76 K23, c_isAs (o76 K23) r76 (la_x K23 h76 x1b) (o79 K23) L23.2.1 (la_x K23 h79 (LA_xb L23).1) (fun eq => ⟨_, rfl, fun w => absurd w (by decide), fun _ => k6 po le (by omega) h23 0 cn (Or.inl ⟨rfl, fun k hk => ?_⟩)⟩) (fun ne => ⟨_, rfl, fun _ => k6 po le (by omega) h23 6 cn (Or.inr ⟨rfl, fun p => ne (fun k hk => ?_)⟩), fun w => absurd rfl w⟩)⟩
      · have := eq k hk
        rw [l1_, L18.2.2.2 k hk, L23.2.2.2 k hk] at this
        exact this
      · rw [l1_, L18.2.2.2 k hk, L23.2.2.2 k hk]
        exact p k hk
theorem m_partsBy {p q v : Nat} (K : sp h) (hp : p < 24) (hq : q < 24) (M1 : mD h p na la A) (M2 : mD h q nb lb Ab) (Ra : Pr na A ma) (Rb : Pr nb Ab mb) (n12 : na ≤ 12) (n40 : nb ≤ 40) (la9 : la ≤ 9) (lb9 : lb ≤ 9) (ha : SOx na ma sa) (hb : SOx nb mb sb) (po : PBo na la ma sa nb lb mb sb v) (kk : ∀ h', fms h h' → Q (some (.int (nI v))) h') : ex_S yX12_partsBy mX12_partsBy (d + 2) [.ref 168, .int (nI p), .int (nI q)] h bc bs Q := by
  have qa := nQ_le na ma
  have qb := nQ_le nb mb
  refine X12_partsBy_e (X12_partsBy_0 ⟨o168 K, m_link (s := p) (A := A) K (by omega) M1.1 (by omega) M1.2.2.2 Ra (fun h1 F1 g1 => ⟨rfl, ?_⟩)⟩)
  have K1 := sp_fr K F1
  have G1 : fms h h1 := fms_sc F1 (by decide)
  have M1' : mD h1 p na la A := mD_sc M1 F1 (by decide)
  refine ⟨o168 K1, m_piecesOf (d := d) (s := p) (A := A) K1 (by omega) M1'.1 (by omega) g1 Ra (fun h3 F3 _ => ⟨_, rfl, ?_⟩)⟩
  have K3 := sp_fr K1 F3
  have G3 : fms h h3 := fms_trans G1 (fms_sc F3 (by decide))
  have M3 : mD h3 p na la A := mD_sc M1' F3 (by decide)
  have M3b : mD h3 q nb lb Ab := mD_sl M2 n40 (G3.2.2.2.2 q (by omega))
  refine ⟨o168 K3, 171, r168_3 K3, (s171 K3 _).mpr ((ix_nI (by omega)).mpr (by omega)), fun x9 e9 => ?_⟩
  rw [nI_clamp (by omega), M3.2.1, nI_add] at e9
  subst e9
  have c1_ : nI (nQ na ma + la) = (1 : Int32) ↔ nQ na ma + la = 1 := nI_eq (b := 1) (by omega) (by omega)
  -- the rest, isKnot = i
  have rest : ∀ i : Nat, ((i = 1 ∧ nQ na ma + la = 1) ∨ (i = 0 ∧ nQ na ma + la ≠ 1)) → ex_G mX12_partsBy (d + 2) 39 [.ref 168, .int (nI p), .int (nI q), .int (nI (nQ na ma + la)), .retAddr 0, .retAddr 0, .retAddr 0] [.int (nI i)] h3 bc bs Q := by
    intro i hi
    refine X12_partsBy_39 ⟨o168 K3, m_link (s := q) (A := Ab) K3 (by omega) M3b.1 n40 M3b.2.2.2 Rb (fun h5 F5 g5 => ⟨rfl, ?_⟩)⟩
    have K5 := sp_fr K3 F5
    have M5 : mD h5 q nb lb Ab := mD_sc M3b F5 (by decide)
    refine ⟨o168 K5, m_piecesOf (d := d) (s := q) (A := Ab) K5 (by omega) M5.1 n40 g5 Rb (fun h6 F6 _ => ⟨_, rfl, ?_⟩)⟩
    have K6 := sp_fr K5 F6
    have G6 : fms h h6 := fms_trans G3 (fms_trans (fms_sc F5 (by decide)) (fms_sc F6 (by decide)))
    have M6 : mD h6 q nb lb Ab := mD_sc M5 F6 (by decide)
    refine ⟨o168 K6, 171, r168_3 K6, (s171 K6 _).mpr ((ix_nI (by omega)).mpr (by omega)), ?_⟩
    rw [nI_clamp (by omega), M6.2.1, nI_add, nI_eq (by omega) (by omega)]
    refine ⟨fun eqp => ?_, fun nep => ?_⟩
    · -- colours
      have turn : ∀ k h', k < 4 → fms h h' → ∀ r1 r2, clE (mdk k) na ma sa r1 → clE (mdk k) nb mb sb r2 → (clv na la ma r1 = clv nb lb mb r2 → ∀ h'', fms h h'' → ex_G mX12_partsBy (d + 2) 70 [.ref 168, .int (nI p), .int (nI q), .retAddr 0, .int (nI i), .int (nI (2 + (k + 1))), .int (nI (mdk (k + 1)))] [] h'' bc bs Q) → (clv na la ma r1 ≠ clv nb lb mb r2 → ∀ h'', fms h h'' → Q (some (.int (nI (2 + k)))) h'') → ex_G mX12_partsBy (d + 2) 70 [.ref 168, .int (nI p), .int (nI q), .retAddr 0, .int (nI i), .int (nI (2 + k)), .int (nI (mdk k))] [] h' bc bs Q := by
        intro k h' k4 G' r1 r2 E1 E2 keq kne
        obtain ⟨im, pm, hmd⟩ := mdk_ok k k4
        have K' := G'.2.2.1 K
        have Ma : mD h' p na la A := mD_sl M1 (by omega) (G'.2.2.2.2 p (by omega))
        have c12 : (12 : Int32) ≤ nI (mdk k) ↔ 12 ≤ mdk k := nI_leI (a := 12) (by omega) (by omega)
        refine X12_partsBy_70 ⟨fun w => absurd (c12.mp w) (by omega), fun _ => ⟨o168 K', m_colours (d := d) (so := sa) K' Ra (by omega) (by omega) (by omega) pm Ma ha E1 (fun h7 G7 => ⟨_, rfl, ?_⟩)⟩⟩
        have G7' := fms_trans G' G7
        have K7 := G7'.2.2.1 K
        have Mb : mD h7 q nb lb Ab := mD_sl M2 n40 (G7'.2.2.2.2 q (by omega))
        refine ⟨o168 K7, m_colours (d := d) (so := sb) K7 Rb n40 (by omega) (by omega) pm Mb hb E2 (fun h10 G10 => ⟨_, rfl, fun eq x14 e14 => ?_, fun ne => kne ne h10 (fms_trans G7' G10)⟩)⟩
        have nx := keq eq h10 (fms_trans G7' G10)
        have e5 : x14 = nI (2 + (k + 1)) := by rw [e14]; exact nI_add (2 + k) 1
        rw [e5]
        have kc : k = 0 ∨ k = 1 ∨ k = 2 ∨ k = 3 := by omega
        refine ⟨fun n7 x16 e16 => ?_, fun y7 x17 e17 => ?_⟩
        · have e6 : x16 = nI (mdk (k + 1)) := by
            rw [e16]
            rcases kc with e | e | e | e
            · subst e; rfl
            · subst e; rfl
            · subst e; exact absurd rfl n7
            · subst e; rfl
          rw [e6]
          exact nx
        · have e6 : x17 = nI (mdk (k + 1)) := by
            rw [e17]
            rcases kc with e | e | e | e
            · subst e; exact absurd y7 (by decide)
            · subst e; exact absurd y7 (by decide)
            · subst e; rfl
            · subst e; exact absurd y7 (by decide)
          rw [e6]
          exact nx
      rcases po with ⟨ne, -⟩ | ⟨-, ⟨k0, k4, below, ⟨c1, c2, C1, C2, cne⟩, ev⟩ | ⟨allc, fin⟩⟩
      · exact absurd eqp.symm ne
      · have loop : ∀ t k h', k + t = k0 → fms h h' → ex_G mX12_partsBy (d + 2) 70 [.ref 168, .int (nI p), .int (nI q), .retAddr 0, .int (nI i), .int (nI (2 + k)), .int (nI (mdk k))] [] h' bc bs Q := by
          intro t
          induction t with
          | zero =>
            intro k h' hk G'
            have ek : k = k0 := by omega
            subst ek
            exact turn k h' k4 G' c1 c2 C1 C2 (fun z => absurd z cne) (fun _ h'' G'' => by rw [← ev]; exact kk h'' G'')
          | succ t ih =>
            intro k h' hk G'
            obtain ⟨r1, r2, E1, E2, eq⟩ := below k (by omega)
            exact turn k h' (by omega) G' r1 r2 E1 E2 (fun _ h'' G'' => ih (k + 1) h'' (by omega) G'') (fun z => absurd eq z)
        exact loop k0 0 h6 (by omega) G6
      · have loop : ∀ t k h', k + t = 4 → fms h h' → ex_G mX12_partsBy (d + 2) 70 [.ref 168, .int (nI p), .int (nI q), .retAddr 0, .int (nI i), .int (nI (2 + k)), .int (nI (mdk k))] [] h' bc bs Q := by
          intro t
          induction t with
          | zero =>
            intro k h' hk G'
            have ek : k = 4 := by omega
            subst ek
            have K' := G'.2.2.1 K
            have M' : mD h' q nb lb Ab := mD_sl M2 n40 (G'.2.2.2.2 q (by omega))
            have d14 : (14 : Int32) < nI nb ↔ 14 < nb := nI_ltI (a := 14) (by omega) (by omega)
            have i0 : nI i = (0 : Int32) ↔ i = 0 := nI_eq (b := 0) (by omega) (by omega)
            have fin' := kk h' G'
            refine X12_partsBy_70 ⟨fun _ => ?_, fun w => absurd (show (12 : Int32) ≤ nI (mdk 4) by decide) w⟩
            rw [i0]
            refine ⟨fun z0 => ?_, fun z1 => ⟨o168 K', 170, r168_2 K', (s170 K' _).mpr ((ix_nI (by omega)).mpr (by omega)), ?_⟩⟩
            · have hv : v = 0 := by omega
              rw [hv] at fin'
              exact fin'
            · rw [nI_clamp (by omega), M'.1, d14]
              refine ⟨fun gt => ?_, fun le => ?_⟩
              · have hv : v = 0 := by omega
                rw [hv] at fin'
                exact fin'
              · have hv : v = 6 := by omega
                rw [hv] at fin'
                exact fin'
          | succ t ih =>
            intro k h' hk G'
            obtain ⟨r1, r2, E1, E2, eq⟩ := allc k (by omega)
            exact turn k h' (by omega) G' r1 r2 E1 E2 (fun _ h'' G'' => ih (k + 1) h'' (by omega) G'') (fun z => absurd eq z)
        exact loop 4 0 h6 (by omega) G6
    · rcases po with ⟨-, ev⟩ | ⟨eqp, -⟩
      · have := kk h6 G6
        rw [ev] at this
        exact this
      · exact absurd eqp.symm nep
  rw [c1_]
  refine ⟨fun ne => X12_partsBy_38 (rest 0 (Or.inr ⟨rfl, ne⟩)), fun eq => ⟨170, r168_2 K3, (s170 K3 _).mpr ((ix_nI (by omega)).mpr (by omega)), ?_⟩⟩
  have c14 : (14 : Int32) < nI na ↔ 14 < na := nI_ltI (a := 14) (by omega) (by omega)
  rw [nI_clamp (by omega), M3.1, c14]
  exact ⟨fun w => absurd w (by omega), fun _ => rest 1 (Or.inl ⟨rfl, eq⟩)⟩
theorem POL_601 {wa wb : Int} (a14 : na ≤ 14) (b14 : nb ≤ 14) (la9 : la ≤ 9) (lb9 : lb ≤ 9) (va : -14 ≤ wa ∧ wa ≤ 14) (vb : -14 ≤ wb ∧ wb ≤ 14) : POL na la ma wa nb lb mb wb ↔ ∀ k : Nat, k < 601 → Int64.ofInt (lev wa (brk (TY na la ma) na (2 * na + la)) ((k : Int) - 300)) = Int64.ofInt (lev wb (brk (TY nb lb mb) nb (2 * nb + lb)) ((k : Int) - 300)) := by
  have sa_ := sup140_lev (T := TY na la ma) a14 la9 va.1 va.2
  have sb_ := sup140_lev (T := TY nb lb mb) b14 lb9 vb.1 vb.2
  constructor
  · intro p k hk
    by_cases q : k < 160 ∨ 440 < k
    · rw [sa_ _ (by omega), sb_ _ (by omega)]
    · have := p (k - 160) (by omega)
      rw [show ((k - 160 : Nat) : Int) - 140 = (k : Int) - 300 by omega] at this
      exact this
  · intro p k hk
    have := p (k + 160) (by omega)
    rw [show ((k + 160 : Nat) : Int) - 300 = (k : Int) - 140 by omega] at this
    exact this
def mpL : List Nat := [168, 176, 178, 179, 181, 182, 185, 187, 188, 189, 190, 213]
theorem m_polyPart {p q : Nat} {wa wb : Int} (K : sp h) (hp : p < 24) (hq : q < 24) (M1 : mD h p na la A) (M2 : mD h q nb lb Ab) (Ra : Pr na A ma) (Rb : Pr nb Ab mb) (a14 : na ≤ 14) (b14 : nb ≤ 14) (la9 : la ≤ 9) (lb9 : lb ≤ 9) (hw : ah_f h 168 23 = nI w) (ea : wr na ma na = iI wa) (eb : wr nb mb nb = iI wb) (va : -14 ≤ wa ∧ wa ≤ 14) (vb : -14 ≤ wb ∧ wb ≤ 14) (k1 : POL na la ma wa nb lb mb wb → ∀ h', fr mpL h h' → ah_f h' 168 = u1 (u1 (ah_f h 168) 23 (nI (w + 2 ^ na))) 23 (nI (w + 2 ^ na + 2 ^ nb)) → Q (some (.int 0)) h') (k0 : ¬ POL na la ma wa nb lb mb wb → ∀ h', fr mpL h h' → ah_f h' 168 = u1 (u1 (ah_f h 168) 23 (nI (w + 2 ^ na))) 23 (nI (w + 2 ^ na + 2 ^ nb)) → Q (some (.int 1)) h') : ex_S yX12_polynomialsPart mX12_polynomialsPart (d + 4) [.ref 168, .int (nI p), .int (nI q)] h bc bs Q := by
  have iff6 := POL_601 (ma := ma) (mb := mb) a14 b14 la9 lb9 va vb
  refine X12_polynomialsPart_e (X12_polynomialsPart_0 ⟨o168 K, m_polynomialOf (d := d) (w := w) (wv := wa) K Ra (by omega) M1 a14 la9 hw ea va.1 va.2 (fun h1 F1 f1 L1 => ⟨rfl, ?_⟩)⟩)
  have F1' : fr mpL h h1 := fr_mono F1 (by decide)
  have K1 := sp_fr K F1
  refine lp 601 (fun j h' => fr [213] h1 h' ∧ ∀ k, k < j → ah_l h' 213 k = ah_l h1 185 k) (fun j h' => ex_G mX12_polynomialsPart (d + 4) 7 [.ref 168, .retAddr 0, .int (nI q), .int (nI j), .retAddr 0] [] h' bc bs Q) ⟨fr_refl _ h1, fun k hk => absurd hk (Nat.not_lt_zero k)⟩ ?_ ?_
  · rintro j h' hj ⟨F, I⟩ next
    have K' := sp_fr K1 F
    have ij : ix (nI j) 601 := (ix_nI (by omega)).mpr hj
    refine X12_polynomialsPart_7 ⟨fun w => absurd ((nI_leI (a := 601) (by omega) (by omega)).mp w) (by omega), fun _ => ⟨o168 K', 213, r168_61 K', 185, r168_20 K', (s185 K' _).mpr ij, (s213 K' _).mpr ij, fun h8 e8 x10 e10 => ?_⟩⟩
    rw [nI_clamp (by omega)] at e8
    have F8 : fr [213] h1 h8 := by rw [e8]; exact fr_sl F (by decide)
    have l8 : ah_l h8 213 = u1 (ah_l h' 213) j (ah_l h' 185 j) := by rw [e8, l_sl_s]
    clear e8
    rw [e10, show nI j + 1 = nI (j + 1) from nI_add j 1]
    refine next h8 ⟨F8, fun k hk => ?_⟩
    rw [l8]
    by_cases z : k = j
    · rw [z, u1_s, fr_l F 185 (by decide)]
    · rw [u1_n _ _ z]
      exact I k (by omega)
  · rintro h' ⟨F, I⟩
    have K' := sp_fr K1 F
    have M2' : mD h' q nb lb Ab := mD_sc (mD_sc M2 F1 (by decide)) F (by decide)
    have f' : ah_f h' 168 = u1 (ah_f h 168) 23 (nI (w + 2 ^ na)) := by rw [fr_f F 168 (by decide)]; exact f1
    refine X12_polynomialsPart_7 ⟨fun _ => ⟨o168 K', m_polynomialOf (d := d) (w := w + 2 ^ na) (wv := wb) K' Rb (by omega) M2' b14 lb9 (by rw [f', u1_s]) eb vb.1 vb.2 (fun h2 F2 f2 L2 => ⟨rfl, ?_⟩)⟩, fun w => absurd (show (601 : Int32) ≤ nI 601 by decide) w⟩
    have K2 := sp_fr K' F2
    have FF : fr mpL h h2 := fr_trans F1' (fr_trans (fr_mono F (by decide)) (fr_mono F2 (by decide)))
    have ff : ah_f h2 168 = u1 (u1 (ah_f h 168) 23 (nI (w + 2 ^ na))) 23 (nI (w + 2 ^ na + 2 ^ nb)) := by rw [f2, f']
    have la_ : ∀ k, k < 601 → ah_l h2 213 k = Int64.ofInt (lev wa (brk (TY na la ma) na (2 * na + la)) ((k : Int) - 300)) := fun k hk => by rw [fr_l F2 213 (by decide), I k hk, L1 k hk]
    have lb_ : ∀ k, k < 601 → ah_l h2 185 k = Int64.ofInt (lev wb (brk (TY nb lb mb) nb (2 * nb + lb)) ((k : Int) - 300)) := fun k hk => L2 k hk
    have cmp : ∀ a b : Int64, lg_cmp a b = 0 ↔ a = b := fun a b => lg_cmp_eq a b
    have loop : ∀ t j i, j + t = 601 → ((i = 0 ∧ ∀ k, k < j → ah_l h2 213 k = ah_l h2 185 k) ∨ (i = 1 ∧ ¬ ∀ k, k < 601 → ah_l h2 213 k = ah_l h2 185 k)) → ex_G mX12_polynomialsPart (d + 4) 42 [.ref 168, .retAddr 0, .retAddr 0, .int (nI i), .int (nI j)] [] h2 bc bs Q := by
      intro t
      induction t with
      | zero =>
        intro j i hj ii
        have ej : j = 601 := by omega
        subst ej
        refine X12_polynomialsPart_42 ⟨fun _ => ?_, fun w => absurd (show (601 : Int32) ≤ nI 601 by decide) w⟩
        rcases ii with ⟨e, all⟩ | ⟨e, ne⟩
        · subst e
          exact ⟨Or.inl rfl, k1 (iff6.mpr (fun k hk => by rw [← la_ k hk, ← lb_ k hk]; exact all k hk)) h2 FF ff⟩
        · subst e
          exact ⟨Or.inr rfl, k0 (fun p => ne (fun k hk => by rw [la_ k hk, lb_ k hk]; exact iff6.mp p k hk)) h2 FF ff⟩
      | succ t ih =>
        intro j i hj ii
        have ij : ix (nI j) 601 := (ix_nI (by omega)).mpr (by omega)
        refine X12_polynomialsPart_42 ⟨fun w => absurd ((nI_leI (a := 601) (by omega) (by omega)).mp w) (by omega), fun _ => ⟨o168 K2, 213, r168_61 K2, (s213 K2 _).mpr ij, 185, r168_20 K2, (s185 K2 _).mpr ij, ?_⟩⟩
        rw [nI_clamp (by omega), cmp]
        refine ⟨fun eq x9 e9 x10 e10 => ?_, fun ne x11 e11 x12 e12 => ?_⟩
        · have e9' : x9 = nI i := by
            rw [e9]
            rcases ii with ⟨e, -⟩ | ⟨e, -⟩
            · subst e; rfl
            · subst e; rfl
          rw [e9', e10, show nI j + 1 = nI (j + 1) from nI_add j 1]
          refine ih (j + 1) i (by omega) ?_
          rcases ii with ⟨e, all⟩ | z
          · refine Or.inl ⟨e, fun k hk => ?_⟩
            by_cases q : k < j
            · exact all k q
            · have : k = j := by omega
              rw [this]
              exact eq
          · exact Or.inr z
        · have e11' : x11 = nI 1 := by
            rw [e11]
            rcases ii with ⟨e, -⟩ | ⟨e, -⟩
            · subst e; rfl
            · subst e; rfl
          rw [e11', e12, show nI j + 1 = nI (j + 1) from nI_add j 1]
          exact ih (j + 1) 1 (by omega) (Or.inr ⟨rfl, fun all => ne (all j (by omega))⟩)
    exact loop 601 0 0 (by omega) (Or.inl ⟨rfl, fun k hk => absurd hk (Nat.not_lt_zero k)⟩)
end PART
