/-! What gauss writes (pure); how a call that leaves other findings ends. -/
noncomputable def wd (n : Nat) (m : Nat → Nat) (f : Nat) : Nat := 4 * (m f / 4) + 2 * (m f % 2) + @ite Nat (sgn n m (m f / 4) = nI 1) (Classical.propDecidable _) 1 0
/-- the row T, t numbers long, spells the pieces that begin below e -/
def TT (n : Nat) (m : Nat → Nat) : Nat → (Nat → Int32) → Nat → Prop
  | 0, _, t => t = 0
  | e + 1, T, t => (pmn n m e ∧ ∃ t0 p, TT n m e T t0 ∧ isP (tu m) e p ∧ t = t0 + p + 1 ∧ (∀ i, i < p → T (t0 + i) = nI (wd n m (it (tu m) i e))) ∧ T (t0 + p) = m1) ∨ (¬ pmn n m e ∧ TT n m e T t)
section TTS
variable {n : Nat} {A m : Nat → Nat}
theorem TT_congr : ∀ (e : Nat) (T T' : Nat → Int32) (t : Nat), TT n m e T t → (∀ k, k < t → T' k = T k) → TT n m e T' t := by
  intro e
  induction e with
  | zero => exact fun T T' t h _ => h
  | succ e ih =>
    rintro T T' t (⟨p, t0, q, h0, hp, ht, h1, h2⟩ | ⟨p, h0⟩) hc
    · exact Or.inl ⟨p, t0, q, ih T T' t0 h0 (fun k hk => hc k (by omega)), hp, ht, fun i hi => by rw [hc _ (by omega)]; exact h1 i hi, by rw [hc _ (by omega)]; exact h2⟩
    · exact Or.inr ⟨p, ih T T' t h0 hc⟩
theorem TT_u : ∀ (e : Nat) (T T' : Nat → Int32) (t t' : Nat), TT n m e T t → TT n m e T' t' → t = t' ∧ ∀ k, k < t → T k = T' k := by
  intro e
  induction e with
  | zero => exact fun T T' t t' h h' => ⟨h.trans h'.symm, fun k hk => by have : t = 0 := h; omega⟩
  | succ e ih =>
    rintro T T' t t' (⟨p, t0, q, h0, hp, ht, h1, h2⟩ | ⟨p, h0⟩) (⟨p', t0', q', h0', hp', ht', h1', h2'⟩ | ⟨p', h0'⟩)
    · obtain ⟨a, b⟩ := ih T T' t0 t0' h0 h0'
      have c := isP_u hp hp'
      subst a
      subst c
      refine ⟨by omega, fun k hk => ?_⟩
      by_cases w : k < t0
      · exact b k w
      · by_cases w2 : k < t0 + q
        · rw [show k = t0 + (k - t0) by omega, h1 _ (by omega), h1' _ (by omega)]
        · rw [show k = t0 + q by omega, h2, h2']
    · exact absurd p p'
    · exact absurd p' p
    · exact ih T T' t t' h0 h0'
theorem TT_skip {a : Nat} {T : Nat → Int32} {t : Nat} (h : TT n m a T t) : ∀ b, a ≤ b → ct (pmn n m) a = ct (pmn n m) b → TT n m b T t := by
  intro b
  induction b with
  | zero => intro hb _; have : a = 0 := by omega
            subst this; exact h
  | succ b ih =>
    intro hb hc
    by_cases q : a = b + 1
    · subst q; exact h
    · have m1_ := ct_mono (pmn n m) (show a ≤ b by omega)
      have m2_ := ct_mono (pmn n m) (show b ≤ b + 1 by omega)
      have np_ : ¬ pmn n m b := fun p => by
        rw [ct_y p] at hc
        omega
      exact Or.inr ⟨np_, ih (by omega) (by rw [ct_n np_] at hc; exact hc)⟩
theorem ct_orE {p q : Nat → Prop} {N : Nat} (h : ∀ i, i < N → p i → ¬ q i) : ct (fun i => p i ∨ q i) N = ct p N + ct q N := by
  induction N with
  | zero => rfl
  | succ N ih =>
    have r := ih (fun i hi => h i (by omega))
    by_cases a : p N
    · rw [ct_y (p := fun i => p i ∨ q i) (Or.inl a), ct_y a, ct_n (h N (by omega) a), r]
      omega
    · by_cases b : q N
      · rw [ct_y (p := fun i => p i ∨ q i) (Or.inr b), ct_n a, ct_y b, r]
        omega
      · rw [ct_n (p := fun i => p i ∨ q i) (fun z => by rcases z with z | z; exact a z; exact b z), ct_n a, ct_n b, r]
theorem ct_im {p q : Nat → Prop} {N : Nat} (h : ∀ i, i < N → p i → q i) : ct p N ≤ ct q N := by
  induction N with
  | zero => exact Nat.le_refl _
  | succ N ih =>
    have r := ih (fun i hi => h i (by omega))
    by_cases a : p N
    · rw [ct_y a, ct_y (h N (by omega) a)]
      omega
    · rw [ct_n a]
      by_cases b : q N
      · rw [ct_y b]; omega
      · rw [ct_n b]; exact r
theorem ct_ob {g : Nat → Nat} {N : Nat} (P : pmt g N) {e p : Nat} (he : e < N) (hp : isP g e p) : ct (ob g e) N = p := by
  have key : ∀ j, j ≤ p → ct (fun x => ∃ i, i < j ∧ it g i e = x) N = j := by
    intro j
    induction j with
    | zero => exact fun _ => ct_none (fun i _ ⟨a, b, _⟩ => absurd b (Nat.not_lt_zero a))
    | succ j ih =>
      intro hj
      have r := ih (by omega)
      rw [ct_del (p := fun x => ∃ i, i < j + 1 ∧ it g i e = x) (it_lt P he j) ⟨j, by omega, rfl⟩]
      have : ct (fun x => (∃ i, i < j + 1 ∧ it g i e = x) ∧ x ≠ it g j e) N = ct (fun x => ∃ i, i < j ∧ it g i e = x) N := ?_
      · rw [this, r]
      refine ct_congr (fun x _ => ⟨fun ⟨⟨i, a, b⟩, c⟩ => ⟨i, ?_, b⟩, fun ⟨i, a, b⟩ => ⟨⟨i, by omega, b⟩, fun c => ?_⟩⟩)
      · have : i ≠ j := fun z => c (by rw [← b, z])
        omega
      · exact isP_ne P he hp a (by omega) (b.trans c)
  exact (ct_congr (fun x _ => ob_p hp)).trans (key p (Nat.le_refl _))
/-- half of the ends are gone out by -/
theorem ct_half (P : Pr n A m) : ∀ c, c ≤ n → ct (fun x => ¬ inn n m x) (4 * c) = 2 * c := by
  intro c
  induction c with
  | zero => exact fun _ => rfl
  | succ c ih =>
    intro hc
    have r := ih (by omega)
    have e02 : cn (4 * c) 2 = 4 * c + 2 := by unfold cn; omega
    have e13 : cn (4 * c + 1) 2 = 4 * c + 3 := by unfold cn; omega
    have i02 := inn_2 P (e := 4 * c) (by omega)
    have i13 := inn_2 P (e := 4 * c + 1) (by omega)
    rw [e02] at i02
    rw [e13] at i13
    rw [show 4 * (c + 1) = 4 * c + 1 + 1 + 1 + 1 by omega]
    by_cases a : inn n m (4 * c)
    · have b : ¬ inn n m (4 * c + 2) := fun z => i02.mp z a
      by_cases a1 : inn n m (4 * c + 1)
      · have b1 : ¬ inn n m (4 * c + 3) := fun z => i13.mp z a1
        rw [ct_y (p := fun x => ¬ inn n m x) b1, ct_y (p := fun x => ¬ inn n m x) b, ct_n (p := fun x => ¬ inn n m x) (fun z => z a1), ct_n (p := fun x => ¬ inn n m x) (fun z => z a), r]
        omega
      · have b1 : inn n m (4 * c + 3) := i13.mpr a1
        rw [ct_n (p := fun x => ¬ inn n m x) (fun z => z b1), ct_y (p := fun x => ¬ inn n m x) b, ct_y (p := fun x => ¬ inn n m x) a1, ct_n (p := fun x => ¬ inn n m x) (fun z => z a), r]
        omega
    · have b : inn n m (4 * c + 2) := i02.mpr a
      by_cases a1 : inn n m (4 * c + 1)
      · have b1 : ¬ inn n m (4 * c + 3) := fun z => i13.mp z a1
        rw [ct_y (p := fun x => ¬ inn n m x) b1, ct_n (p := fun x => ¬ inn n m x) (fun z => z b), ct_n (p := fun x => ¬ inn n m x) (fun z => z a1), ct_y (p := fun x => ¬ inn n m x) a, r]
        omega
      · have b1 : inn n m (4 * c + 3) := i13.mpr a1
        rw [ct_n (p := fun x => ¬ inn n m x) (fun z => z b1), ct_n (p := fun x => ¬ inn n m x) (fun z => z b), ct_y (p := fun x => ¬ inn n m x) a1, ct_y (p := fun x => ¬ inn n m x) a, r]
        omega
theorem TT_b (P : Pr n A m) (F : nR n m = n + 2 * nP n m) : ∀ (e : Nat) (T : Nat → Int32) (t : Nat), e ≤ 4 * n → TT n m e T t → t = ct (fun x => ∃ y, y < e ∧ pmn n m y ∧ ob (tu m) y x) (4 * n) + ct (pmn n m) e ∧ 2 * ct (pmn n m) e ≤ ct (fun x => ∃ y, y < e ∧ pmn n m y ∧ ob (tu m) y x) (4 * n) := by
  intro e
  induction e with
  | zero =>
    intro T t _ h
    rw [ct_none (fun x _ ⟨y, hy, _⟩ => absurd hy (Nat.not_lt_zero y))]
    exact ⟨h, Nat.le_refl _⟩
  | succ e ih =>
    rintro T t he (⟨p, t0, q, h0, hp, ht, -, -⟩ | ⟨p, h0⟩)
    · obtain ⟨a, b⟩ := ih T t0 (by omega) h0
      have he' : e < 4 * n := by omega
      have q2 : 2 ≤ q := by
        by_cases z : q = 1
        · subst z
          have : cn (m e) 2 = e := hp.2.1
          have f2 := flat_2 P F he'
          exact absurd (by rw [← this, cn_22]; rw [this]) f2
        · have := hp.1
          omega
      have c : ct (fun x => ∃ y, y < e + 1 ∧ pmn n m y ∧ ob (tu m) y x) (4 * n) = ct (fun x => ∃ y, y < e ∧ pmn n m y ∧ ob (tu m) y x) (4 * n) + q := by
        rw [← ct_ob (tuP P) he' hp, ← ct_orE]
        · refine ct_congr (fun x _ => ⟨fun ⟨y, y1, y2, y3⟩ => ?_, fun z => ?_⟩)
          · by_cases w : y = e
            · subst w; exact Or.inr y3
            · exact Or.inl ⟨y, by omega, y2, y3⟩
          · rcases z with ⟨y, y1, y2, y3⟩ | z
            · exact ⟨y, by omega, y2, y3⟩
            · exact ⟨e, by omega, p, z⟩
        · rintro x hx ⟨y, y1, y2, y3⟩ o
          have := pmn_u P (by omega) he' y2 p (pcl_trans P (by omega) hx he' (Or.inl y3) (Or.inl (ob_symm (tuP P) he' o)))
          omega
      rw [c, ct_y p]
      omega
    · obtain ⟨a, b⟩ := ih T t (by omega) h0
      have c : ct (fun x => ∃ y, y < e + 1 ∧ pmn n m y ∧ ob (tu m) y x) (4 * n) = ct (fun x => ∃ y, y < e ∧ pmn n m y ∧ ob (tu m) y x) (4 * n) := ct_congr (fun x _ => ⟨fun ⟨y, y1, y2, y3⟩ => ⟨y, by
        have : y ≠ e := fun w => p (w ▸ y2)
        omega, y2, y3⟩, fun ⟨y, y1, y2, y3⟩ => ⟨y, by omega, y2, y3⟩⟩)
      rw [c, ct_n p]
      exact ⟨a, b⟩
theorem TT_3 (P : Pr n A m) (F : nR n m = n + 2 * nP n m) {e : Nat} {T : Nat → Int32} {t : Nat} (he : e ≤ 4 * n) (h : TT n m e T t) : t ≤ 3 * n := by
  obtain ⟨a, b⟩ := TT_b P F e T t he h
  have c := ct_half P n (Nat.le_refl _)
  have d : ct (fun x => ∃ y, y < e ∧ pmn n m y ∧ ob (tu m) y x) (4 * n) ≤ ct (fun x => ¬ inn n m x) (4 * n) := ct_im (fun x hx ⟨y, y1, y2, y3⟩ => (inn_not P hx).mpr ⟨y, by omega, y2, y3⟩)
  omega
end TTS
def Xscr : List Nat := [0, 3, 4, 5, 6, 32, 73, 74, 75, 164, 165, 166, 186, 191, 198, 214, 215]
section DANY
variable {h h' : AH} {W : Nat → Nat} {N : Nat} {B : Nat → Nat} {S : Nat → Int32} {len : Nat}
theorem D_any (x : R0 h W N B S len) (K' : sp h') (L' : LAC h') (nn : ah_n h' = ah_n h) (E : ∀ a, a ∉ Cscr → a ∉ Mscr → a ∉ Xscr → eqc h h' a) (k0 : ∀ k, k ≠ 17 → k ≠ 18 → k ≠ 19 → ah_f h' 0 k = ah_f h 0 k) (k1 : ∀ k, k ≠ 0 → k ≠ 9 → k ≠ 15 → k ≠ 22 → k ≠ 23 → k ≠ 29 → k ≠ 38 → k ≠ 60 → k ≠ 62 → ah_f h' 168 k = ah_f h 168 k) (C : FC h') (s : ∀ s, s < 364 → sl h h' s) (T1 : NU h' 3 4 29 191 130) (T2 : NU h' 5 6 38 198 3) (R : RS h') (Sp : SPn h') (Bk : BK h' W) : DONE h h' W S len := by
  obtain ⟨y, x0, x1, x2, x3, x4, ⟨x5, x6, x7⟩, x8, x9, x10⟩ := x
  have xl : ∀ a, a ∈ Xscr → a < 216 := by decide
  have big : ∀ a, 216 ≤ a → eqc h h' a := fun a ha => E a (cscr_no ha) (mscr_no ha) (fun q => by have := xl a q; omega)
  have hn : ah_n h ≤ ah_n h' := by omega
  refine ⟨W, N, B, ⟨C, K', L', OLD_eq x2 (fun a ha => big a (by omega)), PS_eq x3 (fun _ _ => rfl) (k0 15 (by decide) (by decide) (by decide)) (k1 6 (by decide) (by decide) (by decide) (by decide) (by decide) (by decide) (by decide) (by decide) (by decide)) (E 1 (by decide) (by decide) (by decide)).2.2.2.2.2 (E 174 (by decide) (by decide) (by decide)).2.2.1 (fun a a1 _ _ => big a a1) (fun t ht => s t (by omega)) hn, MV_eq x4 (fun _ _ => rfl) (k0 16 (by decide) (by decide) (by decide)) (k1 35 (by decide) (by decide) (by decide) (by decide) (by decide) (by decide) (by decide) (by decide) (by decide)) (E 2 (by decide) (by decide) (by decide)).2.2.2.2.2 (E 197 (by decide) (by decide) (by decide)).2.2.1 (fun a a1 _ _ _ => big a a1) hn, ⟨T1, T2, NU_eq x7 (E 134 (by decide) (by decide) (by decide)).2.1 (k1 59 (by decide) (by decide) (by decide) (by decide) (by decide) (by decide) (by decide) (by decide) (by decide)) (E 135 (by decide) (by decide) (by decide)).2.2.1 (E 212 (by decide) (by decide) (by decide)).2.2.1⟩, R, Sp, Bk⟩, ⟨fun a ha => E a (fun q => ?_) (fun q => ?_) (fun q => ?_), fun k _ _ => k1 k (by omega) (by omega) (by omega) (by omega) (by omega) (by omega) (by omega) (by omega) (by omega), fun t _ ht => s t ht⟩, fun _ _ => rfl, hn, by omega⟩
  · have := (by decide : ∀ a, a ∈ Cscr → a < 125) a q
    omega
  · have := (by decide : ∀ a, a ∈ Mscr → 168 ≤ a ∧ a < 216 ∧ ¬ (209 ≤ a ∧ a ≤ 211)) a q
    omega
  · have := (by decide : ∀ a, a ∈ Xscr → a < 125 ∨ (163 < a ∧ a < 209) ∨ (211 < a ∧ a < 216)) a q
    omega
end DANY
