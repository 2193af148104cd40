/-! The mark of a picture is the same for pictures that are alike. -/
def zi (F : Nat → Int32) : Nat → Int32
  | 0 => nI 0
  | n + 1 => zi F n + F n
theorem zi_s (F : Nat → Int32) (n : Nat) : zi F (n + 1) = zi F n + F n := rfl
theorem zi_congr {F G : Nat → Int32} {n : Nat} (h : ∀ i, i < n → F i = G i) : zi F n = zi G n := by
  induction n with
  | zero => rfl
  | succ n ih => rw [zi_s, zi_s, ih (fun i hi => h i (by omega)), h n (by omega)]
theorem i3_swap (a b c : Int32) : a + b + c = a + c + b := by rw [Int32.add_assoc, Int32.add_comm b c, ← Int32.add_assoc]
/-- one place changed -/
theorem zi_put {F G : Nat → Int32} {n k : Nat} (hk : k < n) (h : ∀ i, i < n → i ≠ k → F i = G i) : zi F n + G k = zi G n + F k := by
  induction n with
  | zero => omega
  | succ n ih =>
    rw [zi_s, zi_s]
    by_cases z : k = n
    · rw [z, zi_congr (fun i hi => h i (by omega) (by omega))]
      exact i3_swap _ _ _
    · rw [h n (by omega) (by omega), i3_swap, ih (by omega) (fun i hi ne => h i (by omega) ne), i3_swap]
theorem zi_perm : ∀ (M : Nat) (F : Nat → Int32) (g : Nat → Nat), (∀ i, i < M → g i < M) → (∀ i j, i < M → j < M → g i = g j → i = j) → zi (fun i => F (g i)) M = zi F M := by
  intro M
  induction M with
  | zero => intro F g _ _; rfl
  | succ M ih =>
    intro F g hg gi
    rw [zi_s, zi_s]
    by_cases z : g M = M
    · rw [z, ih F g (fun i hi => ?_) (fun i j hi hj e => gi i j (by omega) (by omega) e)]
      have := hg i (by omega)
      have : g i ≠ M := fun q => by have := gi i M (by omega) (by omega) (by rw [q, z]); omega
      omega
    · -- M has its place e0 below
      have onto : ∃ e0, e0 < M ∧ g e0 = M := Classical.byContradiction (fun no => by
        obtain ⟨i, j, hij, hj, q⟩ := php M (fun i => g i) (fun i hi => by
          have a := hg i (by omega)
          have : g i ≠ M := fun q => by
            by_cases w : i = M
            · rw [w] at q; exact z q
            · exact no ⟨i, by omega, q⟩
          show g i < M
          omega)
        have := gi i j (by omega) (by omega) q
        omega)
      obtain ⟨e0, h0, g0⟩ := onto
      have r := ih F (u1 g e0 (g M)) (fun i hi => ?_) (fun i j hi hj e => ?_)
      · have p := zi_put (F := fun i => F (g i)) (G := fun i => F (u1 g e0 (g M) i)) (n := M) (k := e0) h0 (fun i hi ne => by show F (g i) = F (u1 g e0 (g M) i); rw [u1_n _ _ ne])
        have p : zi (fun i => F (g i)) M + F (u1 g e0 (g M) e0) = zi (fun i => F (u1 g e0 (g M) i)) M + F (g e0) := p
        rw [u1_s, g0, r] at p
        exact p
      · by_cases w : i = e0
        · rw [w, u1_s]; have := hg M (by omega); omega
        · rw [u1_n _ _ w]
          have := hg i (by omega)
          have : g i ≠ M := fun q => w (gi i e0 (by omega) (by omega) (by rw [q, g0]))
          omega
      · by_cases w : i = e0
        · by_cases w2 : j = e0
          · rw [w, w2]
          · rw [w, u1_s, u1_n _ _ w2] at e
            have := gi M j (by omega) (by omega) e
            omega
        · by_cases w2 : j = e0
          · rw [w2, u1_s, u1_n _ _ w] at e
            have := gi i M (by omega) (by omega) e
            omega
          · rw [u1_n _ _ w, u1_n _ _ w2] at e
            exact gi i j (by omega) (by omega) e
noncomputable def rln (n : Nat) (m : Nat → Nat) (e : Nat) : Nat := ct (ob (fun e => cn (m e) 3) e) (4 * n)
def trv (t : Nat) : Int32 := (nI t * nI t + 7) * nI t
noncomputable def mk (n : Nat) (m : Nat → Nat) : Nat → Int32 := zi (fun e => trv (4 * rln n m e + 2 * (e % 2) + m e % 2))
section MARK
variable {n : Nat} {A m m' : Nat → Nat} {I : Nat → Nat}
theorem it_iso (iv : IV n m) (P : PIS n m m' (fun c => c < n) I) : ∀ (k e : Nat), e < 4 * n → it (fun e => cn (m' e) 3) k (fe I e) = fe I (it (fun e => cn (m e) 3) k e) ∧ it (fun e => cn (m e) 3) k e < 4 * n := by
  intro k
  induction k with
  | zero => intro e he; exact ⟨rfl, he⟩
  | succ k ih =>
    intro e he
    have l2 : cn (m e) 3 < 4 * n := cn_lt 3 (iv e he).1
    have := ih (cn (m e) 3) l2
    refine ⟨?_, this.2⟩
    show it (fun e => cn (m' e) 3) k (cn (m' (fe I e)) 3) = _
    rw [← (P.2.2 e he (by show e / 4 < n; omega)).2, ← fe_cn]
    exact this.1
theorem rln_iso (iv : IV n m) (P : PIS n m m' (fun c => c < n) I) {e : Nat} (he : e < 4 * n) : rln n m' (fe I e) = rln n m e := by
  have fl : ∀ x, x < 4 * n → fe I x < 4 * n := fun x hx => fe_lt (P.1 _ (show x / 4 < n by omega)).2.1
  refine Nat.le_antisymm ?_ ?_
  · obtain ⟨g, hg⟩ := chs (n := 4 * n) (R := fun y x => ob (fun e => cn (m' e) 3) (fe I e) y → x < 4 * n ∧ ob (fun e => cn (m e) 3) e x ∧ fe I x = y) (fun y _ => by
      by_cases z : ob (fun e => cn (m' e) 3) (fe I e) y
      · obtain ⟨k, q⟩ := z
        obtain ⟨a, b⟩ := it_iso iv P k e he
        exact ⟨_, fun _ => ⟨b, ⟨k, rfl⟩, by rw [← a]; exact q⟩⟩
      · exact ⟨0, fun q => absurd q z⟩)
    exact ct_inj_le g (fun y hy q => ⟨(hg y hy q).1, (hg y hy q).2.1⟩) (fun y y' hy hy' q q' w => by rw [← (hg y hy q).2.2, ← (hg y' hy' q').2.2, w])
  · refine ct_inj_le (fe I) (fun x hx ⟨k, q⟩ => ⟨fl x hx, k, ?_⟩) (fun x y hx hy _ _ w => PIS_inj P (by show x / 4 < n; omega) (by show y / 4 < n; omega) w)
    rw [(it_iso iv P k e he).1, q]
theorem mk_iso (iv : IV n m) (P : PIS n m m' (fun c => c < n) I) : mk n m (4 * n) = mk n m' (4 * n) := by
  unfold mk
  rw [← zi_perm (4 * n) (fun e => trv (4 * rln n m' e + 2 * (e % 2) + m' e % 2)) (fe I) (fun i hi => fe_lt (P.1 _ (show i / 4 < n by omega)).2.1) (fun i j hi hj w => PIS_inj P (by show i / 4 < n; omega) (by show j / 4 < n; omega) w)]
  refine zi_congr (fun e he => ?_)
  show trv (4 * rln n m e + 2 * (e % 2) + m e % 2) = trv (4 * rln n m' (fe I e) + 2 * (fe I e % 2) + m' (fe I e) % 2)
  have par : ∀ x, x < 4 * n → fe I x % 2 = x % 2 := fun x hx => by
    have := (P.1 _ (show x / 4 < n by omega)).2.2
    unfold fe cn
    omega
  rw [rln_iso iv P he, par e he, ← (P.2.2 e he (by show e / 4 < n; omega)).2, par (m e) (iv e he).1]
end MARK
section CMARK
variable {h : AH} {d bc bs b n : Nat} {A m : Nat → Nat} {Q : Option Value → AH → Prop}
theorem c_mark (L : lk h b) (h40 : n ≤ 40) (hn : ah_f h b 10 = nI n) (hm : ∀ e, e < 4 * n → ah_i h (b + 1) e = nI (m e)) (P : Pr n A m) (R : RG n m (ah_i h (b + 2)) (ah_i h (b + 3))) (hb : b + 11 < 10000000) (k : Q (some (.int (mk n m (4 * n)))) h) : ex_S yX4_likenessMark mX4_likenessMark d [.ref b] h bc bs Q := by
  have G := P.pmt 3
  have e4 : (4 : Int32) * nI n = nI (4 * n) := pk_mul 4 n
  refine X4_likenessMark_e (X4_likenessMark_0 ?_)
  refine lp (4 * n) (fun j h' => h' = h) (fun j h' => ex_G mX4_likenessMark d 4 [.ref b, .int (mk n m j), .int (nI j), .retAddr 0] [] h' bc bs Q) rfl ?_ ?_
  · rintro j h1 hj rfl nx
    have e1 : nI j + 1 = nI (j + 1) := nI_add _ 1
    obtain ⟨y, y1, y2, y3⟩ := mn_ex G hj
    have hy : y < 4 * n := by omega
    obtain ⟨p, hp, pl⟩ := isP_ex G hy
    have ro := R.1 j y hj hy y1 y2
    have rl := R.2 y p hy y1 hp
    have cl_ : ct (mn (fun e => cn (m e) 3)) y ≤ y := ct_le _ _
    have rp : rln n m j = p := by
      unfold rln
      rw [← ct_ob G hy hp]
      exact ct_congr (fun x _ => ⟨fun q => ob_trans y2 q, fun q => ob_trans (ob_symm G hy y2) q⟩)
    have ml := P.lt hj
    refine X4_likenessMark_4 ⟨lk_o L, fun w => ?_, fun _ => ⟨b + 3, lk_r2 L, b + 2, lk_r1 L, (lk_s1 L _).mpr ((ix_nI (by omega)).mpr (by omega)), ?_⟩⟩
    · rw [hn, e4, nI_leI (by omega) (by omega)] at w
      omega
    rw [nI_clamp (show j < 2 ^ 31 by omega), ro, nI_clamp (show ct (mn (fun e => cn (m e) 3)) y < 2 ^ 31 by omega), rl]
    have a1 : nI j &&& (1 : Int32) = nI (j % 2) := and1 (by omega)
    have a2 : nI (m j) &&& (1 : Int32) = nI (m j % 2) := and1 (by omega)
    have e9 : (4 : Int32) * nI p + (2 : Int32) * (nI j &&& (1 : Int32)) + (nI (m j) &&& (1 : Int32)) = nI (4 * p + 2 * (j % 2) + m j % 2) := by
      have x1 : (4 : Int32) * nI p = nI (4 * p) := pk_mul 4 p
      have x2 : (2 : Int32) * nI (j % 2) = nI (2 * (j % 2)) := pk_mul 2 _
      rw [a1, a2, x1, x2, nI_add, nI_add]
    refine ⟨(lk_s2 L _).mpr ((ix_nI (by omega)).mpr (by omega)), b + 1, lk_r0 L, (lk_s0 L _).mpr ((ix_nI (by omega)).mpr (by omega)), fun x9 ex9 x10 ex10 x11 ex11 => ?_⟩
    rw [hm j hj, e9] at ex9
    have st := nx h1 rfl
    rw [ex11, e1, ex10, ex9]
    have : mk n m (j + 1) = mk n m j + (nI (4 * p + 2 * (j % 2) + m j % 2) * nI (4 * p + 2 * (j % 2) + m j % 2) + 7) * nI (4 * p + 2 * (j % 2) + m j % 2) := by
      show mk n m j + trv (4 * rln n m j + 2 * (j % 2) + m j % 2) = _
      rw [rp]
      rfl
    rw [← this]
    exact st
  · rintro h1 rfl
    exact X4_likenessMark_4 ⟨lk_o L, fun _ => k, fun w => absurd (by rw [hn, e4]; exact (nI_leI (by omega) (by omega)).mpr (Nat.le_refl _)) w⟩
end CMARK
