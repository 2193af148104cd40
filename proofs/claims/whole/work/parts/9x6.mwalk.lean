/-! The reference walks through a part, and compares codes. -/
theorem bw_stop {m : Nat → Nat} {c b t : Nat} (h : (bw m c b t).1 ≤ t / 4) : ∀ s, bw m c b (t + s) = bw m c b t := by
  intro s
  induction s with
  | zero => rfl
  | succ s ih =>
    have S := bw_s m c b (t + s)
    rw [ih] at S
    rcases S with ⟨s1, -⟩ | ⟨-, s2, s3, s4⟩
    · omega
    · show bw m c b (t + s + 1) = bw m c b t
      exact Prod.ext s2 (Prod.ext s3 s4)
def TRI (m : Nat → Nat) (t N : Nat) (line rot : Nat → Nat) (T : Nat → Int32) : Prop := ∀ s, s < t → ∃ j, j < N ∧ line j = wp m line rot s / 4 ∧ T s = nI (4 * j + (wp m line rot s + 4 - rot (wp m line rot s / 4)) % 4)
theorem TRI_s {m : Nat → Nat} {t N N' : Nat} {line rot line' rot' : Nat → Nat} {T : Nat → Int32} (X : TRI m t N line rot T) (S : WS m t N line rot N' line' rot') (tl : t / 4 < N) : TRI m t N' line' rot' T := by
  rcases S with ⟨s1, s2, s3, s4, s5⟩ | ⟨-, s2, s3, s4⟩
  · intro s hs
    obtain ⟨j, j1, j2, j3⟩ := X s hs
    have lo : ∀ j, j < N → line' j = line j := fun j hj => by rw [s4, u1_n _ _ (by omega)]
    have ro : ∀ j, j < N → rot' (line j) = rot (line j) := fun j hj => by rw [s5, u1_n _ _ (fun q => s2 ⟨j, hj, q⟩)]
    have wpo : wp m line' rot' s = wp m line rot s := by unfold wp; rw [lo _ (by omega), ro _ (by omega)]
    refine ⟨j, by omega, by rw [lo j j1, wpo]; exact j2, ?_⟩
    rw [wpo, ← j2, ro j j1, j2]
    exact j3
  · subst s2
    subst s3
    subst s4
    exact X
/-- what the walk keeps -/
def WL (h : AH) (n N : Nat) (line rot : Nat → Nat) : Prop := (∀ y, y < n → (∀ j, j < N → line j = y → ah_i h 199 y = nI j) ∧ ((¬ ∃ j, j < N ∧ line j = y) → ah_i h 199 y = m1)) ∧ (∀ j, j < N → ah_i h 200 (line j) = nI (rot (line j))) ∧ ∀ j, j < N → ah_i h 201 j = nI (line j)
theorem and2 {o : Nat} (h : o < 160) : nI o &&& (2 : Int32) = nI (o % 4 / 2 * 2) := (by decide +kernel : ∀ o, o < 160 → nI o &&& (2 : Int32) = nI (o % 4 / 2 * 2)) o h
theorem sub3 {o r : Nat} (h : o < 160) (hr : r = 0 ∨ r = 2) : (nI o - nI r) &&& (3 : Int32) = nI ((o + 4 - r) % 4) := by
  rcases hr with e | e
  · subst e
    have : nI o - nI 0 = nI o := by rw [pk_sub (by omega)]; rfl
    rw [this]
    have a3 : nI o &&& (3 : Int32) = nI (o % 4) := and3 (by omega)
    rw [a3, show (o + 4 - 0) % 4 = o % 4 by omega]
  · subst e
    exact (by decide +kernel : ∀ o, o < 160 → (nI o - nI 2) &&& (3 : Int32) = nI ((o + 4 - 2) % 4)) o h
def wkL : List Nat := [199, 200, 201, 202]
section MWALK
variable {h : AH} {d bc bs : Nat} {Q : Option Value → AH → Prop}
theorem m_walk {s n c b : Nat} {m : Nat → Nat} (K : sp h) (iv : IV n m) (h40 : n ≤ 40) (hs : s < 368) (hn : ah_i h 170 s = nI n) (hm : ∀ e, e < 4 * n → ah_i h 176 e = nI (m e)) (hc : c < n) (hb : b = 0 ∨ b = 2)
    (k : ∀ h' N f, fr wkL h h' → WC n m c b N f → 0 < N → N ≤ n → (∀ t, t < 4 * N → ah_i h' 202 t = nI (f t) ∧ f t < 4 * N) → Q (some (.int (nI N))) h') : ex_S yX12_walk mX12_walk d [.ref 168, .int (nI s), .int (nI c), .int (nI b)] h bc bs Q := by
  refine X12_walk_e (X12_walk_0 ?_)
  refine lp n (fun j h' => fr wkL h h' ∧ ∀ y, y < j → ah_i h' 199 y = m1) (fun j h' => ex_G mX12_walk d 3 [.ref 168, .int (nI s), .int (nI c), .int (nI b), .int (nI j), .retAddr 0, .retAddr 0, .retAddr 0, .retAddr 0, .retAddr 0] [] h' bc bs Q) ⟨fr_refl _ h, fun y hy => absurd hy (Nat.not_lt_zero y)⟩ ?_ ?_
  · rintro j h1 hj ⟨F1, I1⟩ nx
    have K1 := sp_fr K F1
    have e1 : nI j + 1 = nI (j + 1) := nI_add _ 1
    have n1 : ah_i h1 170 s = nI n := by rw [fr_i F1 170 (by decide)]; exact hn
    refine X12_walk_3 ⟨o168 K1, 170, r168_2 K1, (s170 K1 _).mpr ((ix_nI (by omega)).mpr (by omega)), ?_⟩
    rw [nI_clamp (show s < 2 ^ 31 by omega), n1, nI_leI (by omega) (by omega)]
    refine ⟨fun w => by omega, fun _ => ⟨199, r168_39 K1, (t199 K1 _).mpr ((ix_nI (by omega)).mpr (by omega)), fun h15 e15 x17 e17 => ?_⟩⟩
    rw [nI_clamp (by omega)] at e15
    rw [e17, e1]
    refine nx h15 ⟨by rw [e15]; exact fr_si F1 (by decide), fun y hy => ?_⟩
    rw [e15, i_si_s]
    by_cases z : y = j
    · rw [z, u1_s]; rfl
    · rw [u1_n _ _ z]; exact I1 y (by omega)
  rintro h1 ⟨F1, I1⟩
  have K1 := sp_fr K F1
  have n1 : ah_i h1 170 s = nI n := by rw [fr_i F1 170 (by decide)]; exact hn
  have cl0 : Int32.toNatClampNeg 0 = 0 := nI_clamp (n := 0) (by decide)
  refine X12_walk_3 ⟨o168 K1, 170, r168_2 K1, (s170 K1 _).mpr ((ix_nI (by omega)).mpr (by omega)), ?_⟩
  rw [nI_clamp (show s < 2 ^ 31 by omega), n1, nI_leI (by omega) (by omega), nI_clamp (show c < 2 ^ 31 by omega), cl0]
  refine ⟨fun _ => ⟨199, r168_39 K1, (t199 K1 _).mpr ((ix_nI (by omega)).mpr (by omega)), fun h6 e6 => ?_⟩, fun w => absurd (Nat.le_refl _) w⟩
  have F6 : fr wkL h h6 := by rw [e6]; exact fr_si F1 (by decide)
  have K6 := sp_fr K F6
  refine ⟨200, r168_40 K6, (t200 K6 _).mpr ((ix_nI (by omega)).mpr (by omega)), fun h9 e9 => ?_⟩
  have F9 : fr wkL h h9 := by rw [e9]; exact fr_si F6 (by decide)
  have K9 := sp_fr K F9
  refine ⟨201, r168_41 K9, (t201 K9 _).mpr (show ix (nI 0) 40 from (ix_nI (by omega)).mpr (by omega)), fun h12 e12 => ?_⟩
  have F12 : fr wkL h h12 := by rw [e12]; exact fr_si F9 (by decide)
  have L12 : WL h12 n (bw m c b 0).1 (bw m c b 0).2.1 (bw m c b 0).2.2 := by
    rw [bw_0]
    have g1 : ah_i h12 199 = u1 (ah_i h1 199) c 0 := by rw [e12, i_si_n _ _ _ _ _ (by decide), e9, i_si_n _ _ _ _ _ (by decide), e6, i_si_s]
    have g2 : ah_i h12 200 c = nI b := by rw [e12, i_si_n _ _ _ _ _ (by decide), e9, i_si_s, u1_s]
    have g3 : ah_i h12 201 0 = nI c := by rw [e12, i_si_s, u1_s]
    refine ⟨fun y hy => ⟨fun j hj q => ?_, fun no => ?_⟩, fun j hj => g2, fun j hj => ?_⟩
    · have hj : j < 1 := hj
      have q : c = y := q
      rw [g1, q, u1_s, show j = 0 by omega]
      rfl
    · rw [g1, u1_n _ _ (fun q => no ⟨0, Nat.one_pos, q.symm⟩)]
      exact I1 y hy
    · have hj : j < 1 := hj
      rw [show j = 0 by omega]
      exact g3
  clear e6 e9 e12 F6 F9 K6 K9 I1 F1 K1 n1
  -- the crossings in line, one by one
  have fin : ∀ q h', q ≤ n → fr wkL h h' → TRI m (4 * q) (bw m c b (4 * q)).1 (bw m c b (4 * q)).2.1 (bw m c b (4 * q)).2.2 (ah_i h' 202) → (bw m c b (4 * q)).1 = q → Q (some (.int (nI (bw m c b (4 * q)).1))) h' := fun q h' qn F T e => by
    have st : bw m c b (4 * n) = bw m c b (4 * q) := by
      have := bw_stop (m := m) (c := c) (b := b) (t := 4 * q) (by omega) (4 * n - 4 * q)
      rw [show 4 * q + (4 * n - 4 * q) = 4 * n by omega] at this
      exact this
    have W := WI_bw iv hc hb (4 * q)
    have f_ := chs (n := 4 * q) (R := fun t v => ∃ j, j < (bw m c b (4 * q)).1 ∧ (bw m c b (4 * q)).2.1 j = wp m (bw m c b (4 * q)).2.1 (bw m c b (4 * q)).2.2 t / 4 ∧ v = 4 * j + (wp m (bw m c b (4 * q)).2.1 (bw m c b (4 * q)).2.2 t + 4 - (bw m c b (4 * q)).2.2 (wp m (bw m c b (4 * q)).2.1 (bw m c b (4 * q)).2.2 t / 4)) % 4 ∧ ah_i h' 202 t = nI v) (fun t ht => by
      obtain ⟨j, j1, j2, j3⟩ := T t ht
      exact ⟨_, j, j1, j2, rfl, j3⟩)
    obtain ⟨f, hf⟩ := f_
    refine k h' _ f F ⟨by rw [st], fun t ht => ?_⟩ W.1 (WI_le W) (fun t ht => ?_)
    · rw [st]
      obtain ⟨j, j1, j2, j3, -⟩ := hf t (by omega)
      exact ⟨j, j1, j2, j3⟩
    · obtain ⟨j, j1, j2, j3, j4⟩ := hf t (by omega)
      exact ⟨j4, by omega⟩
  refine lp n (fun q h' => fr wkL h h' ∧ WL h' n (bw m c b (4 * q)).1 (bw m c b (4 * q)).2.1 (bw m c b (4 * q)).2.2 ∧ TRI m (4 * q) (bw m c b (4 * q)).1 (bw m c b (4 * q)).2.1 (bw m c b (4 * q)).2.2 (ah_i h' 202) ∧ q ≤ (bw m c b (4 * q)).1) (fun q h' => ex_G mX12_walk d 55 [.ref 168, .retAddr 0, .retAddr 0, .retAddr 0, .int (nI (bw m c b (4 * q)).1), .int (nI q), .retAddr 0, .retAddr 0, .retAddr 0, .retAddr 0] [] h' bc bs Q) ⟨F12, L12, fun s hs => absurd hs (Nat.not_lt_zero s), Nat.zero_le _⟩ ?_ ?_
  · rintro q h1 hq ⟨F1, L1, T1, ql⟩ nx
    have K1 := sp_fr K F1
    have W := WI_bw iv hc hb (4 * q)
    have Nn := WI_le W
    refine X12_walk_55 ⟨fun w => ?_, fun w => ⟨o168 K1, 201, r168_41 K1, (s201 K1 _).mpr ((ix_nI (by omega)).mpr (by omega)), fun x5 e5 => ?_⟩⟩
    · rw [nI_leI (by omega) (by omega)] at w
      exact fin q h1 (by omega) F1 T1 (by omega)
    rw [nI_leI (by omega) (by omega)] at w
    have qN : q < (bw m c b (4 * q)).1 := by omega
    rw [nI_clamp (by omega), L1.2.2 q qN] at e5
    rw [e5]
    clear e5
    -- its four ends
    have mono : ∀ i, i ≤ 4 → q < (bw m c b (4 * q + i)).1 ∧ (bw m c b (4 * q + i)).2.1 q = (bw m c b (4 * q)).2.1 q := fun i => by
      induction i with
      | zero => intro _; exact ⟨qN, rfl⟩
      | succ i ih =>
        intro hi
        obtain ⟨a1, a2⟩ := ih (by omega)
        rcases bw_s m c b (4 * q + i) with ⟨-, -, s3, s4, -⟩ | ⟨-, s2, s3, -⟩
        · refine ⟨by show q < (bw m c b (4 * q + i + 1)).1; omega, ?_⟩
          show (bw m c b (4 * q + i + 1)).2.1 q = _
          rw [s4, u1_n _ _ (by omega)]
          exact a2
        · refine ⟨by show q < (bw m c b (4 * q + i + 1)).1; omega, ?_⟩
          show (bw m c b (4 * q + i + 1)).2.1 q = _
          rw [s3]
          exact a2
    refine lp 4 (fun i h' => fr wkL h h' ∧ WL h' n (bw m c b (4 * q + i)).1 (bw m c b (4 * q + i)).2.1 (bw m c b (4 * q + i)).2.2 ∧ TRI m (4 * q + i) (bw m c b (4 * q + i)).1 (bw m c b (4 * q + i)).2.1 (bw m c b (4 * q + i)).2.2 (ah_i h' 202)) (fun i h' => ex_G mX12_walk d 74 [.ref 168, .retAddr 0, .retAddr 0, .retAddr 0, .int (nI (bw m c b (4 * q + i)).1), .int (nI q), .int (nI ((bw m c b (4 * q)).2.1 q)), .int (nI i), .retAddr 0, .retAddr 0] [] h' bc bs Q) ⟨F1, L1, T1⟩ ?_ ?_
    · rintro i h2 hi ⟨F2, L2, T2⟩ nx2
      have K2 := sp_fr K F2
      obtain ⟨m1_, m2⟩ := mono i (by omega)
      have W2 := WI_bw iv hc hb (4 * q + i)
      have S2 := bw_s m c b (4 * q + i)
      have N2 := WI_le W2
      have W3 := WI_bw iv hc hb (4 * q + i + 1)
      have N3 := WI_le W3
      rw [← m2]
      have nx3 : ∀ h', fr wkL h h' → WL h' n (bw m c b (4 * q + i + 1)).1 (bw m c b (4 * q + i + 1)).2.1 (bw m c b (4 * q + i + 1)).2.2 → TRI m (4 * q + i + 1) (bw m c b (4 * q + i + 1)).1 (bw m c b (4 * q + i + 1)).2.1 (bw m c b (4 * q + i + 1)).2.2 (ah_i h' 202) → ex_G mX12_walk d 74 [.ref 168, .retAddr 0, .retAddr 0, .retAddr 0, .int (nI (bw m c b (4 * q + i + 1)).1), .int (nI q), .int (nI ((bw m c b (4 * q + i)).2.1 q)), .int (nI (i + 1)), .retAddr 0, .retAddr 0] [] h' bc bs Q := fun h' a1 a2 a3 => by rw [m2]; exact nx2 h' ⟨a1, a2, a3⟩
      have T3 := TRI_s T2 S2 (show (4 * q + i) / 4 < _ by omega)
      generalize (bw m c b (4 * q + i + 1)).1 = N' at *
      generalize (bw m c b (4 * q + i + 1)).2.1 = line' at *
      generalize (bw m c b (4 * q + i + 1)).2.2 = rot' at *
      generalize (bw m c b (4 * q + i)).1 = N at *
      generalize (bw m c b (4 * q + i)).2.1 = line at *
      generalize (bw m c b (4 * q + i)).2.2 = rot at *
      have c4 : (4 : Int32) ≤ nI i ↔ 4 ≤ i := nI_leI (a := 4) (by omega) (by omega)
      have ei : nI i + 1 = nI (i + 1) := nI_add _ 1
      obtain ⟨x1, x2, -⟩ := W2.2.2.1 q m1_
      obtain ⟨p1, p2, -⟩ := wp_l iv W2 (s := 4 * q + i) (by omega)
      have ewp : wp m line rot (4 * q + i) = m (4 * line q + (i + rot (line q)) % 4) := by
        unfold wp
        rw [show (4 * q + i) / 4 = q by omega, show (4 * q + i) % 4 = i by omega]
        congr 1
        unfold cn
        omega
      have eidx : (4 : Int32) * nI (line q) + ((nI i + nI (rot (line q))) &&& (3 : Int32)) = nI (4 * line q + (i + rot (line q)) % 4) := by
        have a3 : nI (i + rot (line q)) &&& (3 : Int32) = nI ((i + rot (line q)) % 4) := and3 (by omega)
        have a4 : (4 : Int32) * nI (line q) = nI (4 * line q) := pk_mul 4 _
        rw [nI_add, a3, a4, nI_add]
      have v6 : ah_i h2 176 (4 * line q + (i + rot (line q)) % 4) = nI (wp m line rot (4 * q + i)) := by rw [ewp, fr_i F2 176 (by decide)]; exact hm _ (by omega)
      generalize hw : wp m line rot (4 * q + i) = o at *
      refine X12_walk_74 ⟨fun z => by have := c4.mp z; omega, fun _ => ⟨o168 K2, 176, r168_10 K2, 200, r168_40 K2, (s200 K2 _).mpr ((ix_nI (by omega)).mpr (by omega)), ?_⟩⟩
      rw [nI_clamp (show line q < 2 ^ 31 by omega), L2.2.1 q m1_, eidx, nI_clamp (show 4 * line q + (i + rot (line q)) % 4 < 2 ^ 31 by omega), v6]
      refine ⟨(s176 K2 _).mpr ((ix_nI (by omega)).mpr (by omega)), fun x8 e8 x9 e9 => ?_⟩
      subst e8
      have d4 : nI o / (4 : Int32) = nI (o / 4) := pk_div (d := 4) (by omega) (by omega) (by omega)
      rw [d4] at e9
      subst e9
      refine ⟨199, r168_39 K2, (s199 K2 _).mpr ((ix_nI (by omega)).mpr (by omega)), ?_⟩
      rw [nI_clamp (show o / 4 < 2 ^ 31 by omega)]
      -- the last step, common to both
      have last : ∀ h3 j, fr wkL h h3 → WL h3 n N' line' rot' → TRI m (4 * q + i) N' line' rot' (ah_i h3 202) → j < N' → line' j = o / 4 → wp m line' rot' (4 * q + i) = o → ex_G mX12_walk d 153 [.ref 168, .retAddr 0, .retAddr 0, .retAddr 0, .int (nI N'), .int (nI q), .int (nI (line q)), .int (nI i), .int (nI o), .int (nI (o / 4))] [] h3 bc bs Q := fun h3 j F3 L3 T3' hj lj wo => by
        have K3 := sp_fr K F3
        have r3 := (W3.2.2.1 j hj).2.1
        rw [lj] at r3
        have v9 : ah_i h3 199 (o / 4) = nI j := (L3.1 _ (by omega)).1 j hj lj
        have v0 : ah_i h3 200 (o / 4) = nI (rot' (o / 4)) := by
          have := L3.2.1 j hj
          rw [lj] at this
          exact this
        have e4 : (4 : Int32) * nI q + nI i = nI (4 * q + i) := by
          have a4 : (4 : Int32) * nI q = nI (4 * q) := pk_mul 4 _
          rw [a4, nI_add]
        have ev : (4 : Int32) * nI j + ((nI o - nI (rot' (o / 4))) &&& (3 : Int32)) = nI (4 * j + (o + 4 - rot' (o / 4)) % 4) := by
          have a4 : (4 : Int32) * nI j = nI (4 * j) := pk_mul 4 _
          rw [sub3 (by omega) r3, a4, nI_add]
        refine X12_walk_153 ⟨o168 K3, 202, r168_42 K3, 199, r168_39 K3, (s199 K3 _).mpr ((ix_nI (by omega)).mpr (by omega)), 200, r168_40 K3, (s200 K3 _).mpr ((ix_nI (by omega)).mpr (by omega)), ?_⟩
        rw [nI_clamp (show o / 4 < 2 ^ 31 by omega), v9, v0, e4, ev, nI_clamp (show 4 * q + i < 2 ^ 31 by omega), ei]
        refine ⟨(t202 K3 _).mpr ((ix_nI (by omega)).mpr (by omega)), fun h7 e7 x9 e9 => ?_⟩
        rw [e9]
        refine nx3 h7 (by rw [e7]; exact fr_si F3 (by decide)) ⟨?_, ?_, ?_⟩ (fun s hs => ?_)
        · rw [e7, i_si_n _ _ _ _ _ (by decide)]; exact L3.1
        · rw [e7, i_si_n _ _ _ _ _ (by decide)]; exact L3.2.1
        · rw [e7, i_si_n _ _ _ _ _ (by decide)]; exact L3.2.2
        · rw [e7, i_si_s]
          by_cases z : s = 4 * q + i
          · rw [z, u1_s, wo]
            exact ⟨j, hj, lj, rfl⟩
          · rw [u1_n _ _ z]
            exact T3' s (by omega)
      rcases S2 with ⟨s1, s2, s3, s4, s5⟩ | ⟨s1, s2, s3, s4⟩
      · rw [hw] at s2 s4 s5
        have nw : ah_i h2 199 (o / 4) = m1 := (L2.1 _ (by omega)).2 s2
        rw [nw]
        have eN : nI N + 1 = nI N' := by rw [s3]; exact nI_add _ 1
        refine ⟨fun z => absurd rfl z, fun _ => ⟨(t199 K2 _).mpr ((ix_nI (by omega)).mpr (by omega)), fun h13 e13 => ?_⟩⟩
        have F13 : fr wkL h h13 := by rw [e13]; exact fr_si F2 (by decide)
        have K13 := sp_fr K F13
        refine ⟨(t200 K13 _).mpr ((ix_nI (by omega)).mpr (by omega)), fun h15 e15 => ?_⟩
        have F15 : fr wkL h h15 := by rw [e15]; exact fr_si F13 (by decide)
        have K15 := sp_fr K F15
        rw [and2 (by omega)] at e15
        refine ⟨201, r168_41 K15, (t201 K15 _).mpr ((ix_nI (by omega)).mpr (by omega)), fun h18 e18 x20 e20 => ?_⟩
        rw [nI_clamp (by omega)] at e18
        rw [e20, eN]
        have g1 : ah_i h18 199 = u1 (ah_i h2 199) (o / 4) (nI N) := by rw [e18, i_si_n _ _ _ _ _ (by decide), e15, i_si_n _ _ _ _ _ (by decide), e13, i_si_s]
        have g2 : ah_i h18 200 = u1 (ah_i h2 200) (o / 4) (nI (o % 4 / 2 * 2)) := by rw [e18, i_si_n _ _ _ _ _ (by decide), e15, i_si_s, e13, i_si_n _ _ _ _ _ (by decide)]
        have g3 : ah_i h18 201 = u1 (ah_i h2 201) N (nI (o / 4)) := by rw [e18, i_si_s, e15, i_si_n _ _ _ _ _ (by decide), e13, i_si_n _ _ _ _ _ (by decide)]
        have g4 : ah_i h18 202 = ah_i h2 202 := by rw [e18, i_si_n _ _ _ _ _ (by decide), e15, i_si_n _ _ _ _ _ (by decide), e13, i_si_n _ _ _ _ _ (by decide)]
        have lo : ∀ j, j < N → line' j = line j := fun j hj => by rw [s4, u1_n _ _ (by omega)]
        have ln : line' N = o / 4 := by rw [s4, u1_s]
        have nl : ∀ j, j < N → line j ≠ o / 4 := fun j hj z => s2 ⟨j, hj, z⟩
        subst s3
        refine last h18 N (by rw [e18]; exact fr_si F15 (by decide)) ⟨fun y hy => ⟨fun j hj z => ?_, fun no => ?_⟩, fun j hj => ?_, fun j hj => ?_⟩ (by rw [g4]; exact T3) (Nat.lt_succ_self _) ln ?_
        · rw [g1]
          by_cases w2 : j = N
          · rw [w2, ln] at z
            rw [← z, u1_s, w2]
          · rw [lo j (by omega)] at z
            rw [u1_n _ _ (fun w3 => nl j (by omega) (z.trans w3))]
            exact (L2.1 y hy).1 j (by omega) z
        · rw [g1, u1_n _ _ (fun w3 => no ⟨N, Nat.lt_succ_self _, by rw [ln, w3]⟩)]
          exact (L2.1 y hy).2 (fun ⟨j, hj, z⟩ => no ⟨j, by omega, by rw [lo j hj]; exact z⟩)
        · rw [g2]
          by_cases w2 : j = N
          · rw [w2, ln, u1_s, s5, u1_s]
          · rw [lo j (by omega), u1_n _ _ (nl j (by omega)), s5, u1_n _ _ (nl j (by omega))]
            exact L2.2.1 j (by omega)
        · rw [g3]
          by_cases w2 : j = N
          · rw [w2, u1_s, ln]
          · rw [u1_n _ _ w2, lo j (by omega)]
            exact L2.2.2 j (by omega)
        · rw [← hw]
          unfold wp
          rw [show (4 * q + i) / 4 = q by omega, lo q m1_, s5, u1_n _ _ (nl q m1_)]
      · have tl : (4 * q + i) / 4 < N := by omega
        rw [hw] at s1
        have ex : ∃ j, j < N ∧ line j = o / 4 := Classical.byContradiction (fun z => s1 ⟨tl, z⟩)
        obtain ⟨j, hj, lj⟩ := ex
        have vj : ah_i h2 199 (o / 4) = nI j := (L2.1 _ (by omega)).1 j hj lj
        rw [vj]
        subst s2
        subst s3
        subst s4
        exact ⟨fun _ => last h2 j F2 L2 T2 hj lj hw, fun z => absurd z (m1_ne (a := j) (by omega))⟩
    · rintro h2 ⟨F2, L2, T2⟩
      have e1 : nI q + 1 = nI (q + 1) := nI_add _ 1
      refine X12_walk_74 ⟨fun _ x2 e2 => ?_, fun w => absurd (show (4 : Int32) ≤ nI 4 by decide) w⟩
      rw [e2, e1]
      have st := nx h2
      rw [show 4 * (q + 1) = 4 * q + 4 by omega] at st
      exact st ⟨F2, L2, T2, by have := (mono 4 (Nat.le_refl _)).1; omega⟩
  · rintro h1 ⟨F1, L1, T1, ql⟩
    have W := WI_bw iv hc hb (4 * n)
    have Nn := WI_le W
    refine X12_walk_55 ⟨fun _ => fin n h1 (Nat.le_refl _) F1 T1 (by omega), fun w => absurd ((nI_leI (by omega) (by omega)).mpr Nn) w⟩
end MWALK
