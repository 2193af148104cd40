/-! Pure: smoothings; the circles that they leave, tie by tie. -/
def bt (w k : Nat) : Nat := w / 2 ^ k % 2
/-- where a smoothing leads from an end -/
def sj (w e : Nat) : Nat := if bt w (e / 4) = 0 then (if e % 2 = 0 then e + 1 else e - 1) else 4 * (e / 4) + (3 - e % 4)
theorem bt_2 (w k : Nat) : bt w k < 2 := Nat.mod_lt _ (by decide)
theorem sj_0 {w e : Nat} (h : bt w (e / 4) = 0) : sj w e = if e % 2 = 0 then e + 1 else e - 1 := if_pos h
theorem sj_1 {w e : Nat} (h : ¬ bt w (e / 4) = 0) : sj w e = 4 * (e / 4) + (3 - e % 4) := if_neg h
theorem sj_q (w e : Nat) : sj w e / 4 = e / 4 := by
  by_cases h : bt w (e / 4) = 0
  · rw [sj_0 h]
    split <;> omega
  · rw [sj_1 h]
    omega
theorem sj_sj (w e : Nat) : sj w (sj w e) = e := by
  by_cases h : bt w (e / 4) = 0
  · have h2 : bt w (sj w e / 4) = 0 := by rw [sj_q]; exact h
    rw [sj_0 h2, sj_0 h]
    by_cases z : e % 2 = 0
    · rw [if_pos z, if_neg (by omega)]; omega
    · rw [if_neg z, if_pos (by omega)]; omega
  · have h2 : ¬ bt w (sj w e / 4) = 0 := by rw [sj_q]; exact h
    rw [sj_1 h2, sj_1 h]
    omega
theorem sj_ne (w e : Nat) : sj w e ≠ e := by
  by_cases h : bt w (e / 4) = 0
  · rw [sj_0 h]
    split <;> omega
  · rw [sj_1 h]
    omega
theorem sj_lt {n w e : Nat} (he : e < 4 * n) : sj w e < 4 * n := by
  have := sj_q w e
  omega
theorem jo_EQ {E : Nat → Nat → Prop} {N u v : Nat} (Q : EQ E N) (hu : u < N) (hv : v < N) : EQ (jo E u v) N := by
  refine ⟨fun a => Or.inl (Q.1 a), fun a b ha x => ?_, fun a b c x y => jo_trans Q x y, fun a b ha x => ?_⟩
  · rcases x with x | ⟨x1, x2⟩ | ⟨x1, x2⟩
    · exact Or.inl (Q.2.1 _ _ ha x)
    · exact Or.inr (Or.inr ⟨Q.2.1 _ _ hv x2, Q.2.1 _ _ ha x1⟩)
    · exact Or.inr (Or.inl ⟨Q.2.1 _ _ hu x2, Q.2.1 _ _ ha x1⟩)
  · rcases x with x | ⟨x1, x2⟩ | ⟨x1, x2⟩
    · exact Q.2.2.2 _ _ ha x
    · exact Q.2.2.2 _ _ hv x2
    · exact Q.2.2.2 _ _ hu x2
def r0 (m : Nat → Nat) (N e f : Nat) : Prop := f = e ∨ (e < N ∧ f = m e)
def t2 (R : Nat → Nat → Prop) (w k : Nat) : Nat → Nat → Prop := if bt w k = 0 then jo (jo R (4 * k) (4 * k + 1)) (4 * k + 2) (4 * k + 3) else jo (jo R (4 * k) (4 * k + 3)) (4 * k + 1) (4 * k + 2)
/-- ends on one path, when the crossings below k are smoothed -/
def RR (n : Nat) (m : Nat → Nat) (w : Nat) : Nat → Nat → Nat → Prop
  | 0 => r0 m (4 * n)
  | k + 1 => t2 (RR n m w k) w k
theorem t2_0 {R : Nat → Nat → Prop} {w k : Nat} (h : bt w k = 0) : t2 R w k = jo (jo R (4 * k) (4 * k + 1)) (4 * k + 2) (4 * k + 3) := if_pos h
theorem t2_1 {R : Nat → Nat → Prop} {w k : Nat} (h : ¬ bt w k = 0) : t2 R w k = jo (jo R (4 * k) (4 * k + 3)) (4 * k + 1) (4 * k + 2) := if_neg h
theorem RR_s (n : Nat) (m : Nat → Nat) (w k : Nat) : RR n m w (k + 1) = t2 (RR n m w k) w k := rfl
/-- the circles of a smoothing -/
noncomputable def cy (n : Nat) (m : Nat → Nat) (w : Nat) : Nat := ct (lm (RR n m w n)) (4 * n)
section TIE
variable {n : Nat} {A m : Nat → Nat} {w k : Nat}
theorem r0_EQ (P : Pr n A m) : EQ (r0 m (4 * n)) (4 * n) := by
  refine ⟨fun a => Or.inl rfl, fun a b ha x => ?_, fun a b c x y => ?_, fun a b ha x => ?_⟩
  · rcases x with x | ⟨x1, x2⟩
    · exact Or.inl x.symm
    · exact Or.inr ⟨by rw [x2]; exact P.lt ha, by rw [x2, P.mm ha]⟩
  · rcases x with x | ⟨x1, x2⟩
    · rw [x] at y; exact y
    · rcases y with y | ⟨y1, y2⟩
      · rw [y]; exact Or.inr ⟨x1, x2⟩
      · exact Or.inl (by rw [y2, x2, P.mm x1])
  · rcases x with x | ⟨x1, x2⟩
    · omega
    · rw [x2]; exact P.lt ha
theorem t2_EQ {R : Nat → Nat → Prop} (Q : EQ R (4 * n)) (hk : k < n) : EQ (t2 R w k) (4 * n) := by
  by_cases h : bt w k = 0
  · rw [t2_0 h]; exact jo_EQ (jo_EQ Q (by omega) (by omega)) (by omega) (by omega)
  · rw [t2_1 h]; exact jo_EQ (jo_EQ Q (by omega) (by omega)) (by omega) (by omega)
theorem RR_EQ (P : Pr n A m) (w : Nat) : ∀ k, k ≤ n → EQ (RR n m w k) (4 * n) := by
  intro k
  induction k with
  | zero => intro _; exact r0_EQ P
  | succ k ih => intro hk; exact t2_EQ (ih (by omega)) (by omega)
theorem RR_congr {w' : Nat} (h : ∀ i, i < k → bt w i = bt w' i) : RR n m w k = RR n m w' k := by
  induction k with
  | zero => rfl
  | succ k ih =>
    rw [RR_s, RR_s, ih (fun i hi => h i (by omega))]
    unfold t2
    rw [h k (by omega)]
theorem RR_mono {e f : Nat} (x : RR n m w k e f) : RR n m w (k + 1) e f := by
  rw [RR_s]
  by_cases h : bt w k = 0
  · rw [t2_0 h]; exact Or.inl (Or.inl x)
  · rw [t2_1 h]; exact Or.inl (Or.inl x)
theorem RR_m {e : Nat} (he : e < 4 * n) : RR n m w k e (m e) := by
  induction k with
  | zero => exact Or.inr ⟨he, rfl⟩
  | succ k ih => exact RR_mono ih
theorem RR_j (P : Pr n A m) {e : Nat} (he : e < 4 * n) (hk : e / 4 < k) (kn : k ≤ n) : RR n m w k e (sj w e) := by
  induction k with
  | zero => omega
  | succ k ih =>
    by_cases q : e / 4 < k
    · exact RR_mono (ih q (by omega))
    · have ek : e / 4 = k := by omega
      have Q := RR_EQ P w k (by omega)
      rw [RR_s]
      by_cases h : bt w k = 0
      · have Q1 := jo_EQ Q (u := 4 * k) (v := 4 * k + 1) (by omega) (by omega)
        rw [t2_0 h, sj_0 (by rw [ek]; exact h)]
        have c : e = 4 * k ∨ e = 4 * k + 1 ∨ e = 4 * k + 2 ∨ e = 4 * k + 3 := by omega
        rcases c with c | c | c | c
        · rw [if_pos (by omega), c]; exact Or.inl (jo_uv Q)
        · rw [if_neg (by omega), c]; exact Or.inl (jo_vu Q)
        · rw [if_pos (by omega), c]; exact jo_uv Q1
        · rw [if_neg (by omega), c]; exact jo_vu Q1
      · have Q1 := jo_EQ Q (u := 4 * k) (v := 4 * k + 3) (by omega) (by omega)
        rw [t2_1 h, sj_1 (by rw [ek]; exact h)]
        have c : e = 4 * k ∨ e = 4 * k + 1 ∨ e = 4 * k + 2 ∨ e = 4 * k + 3 := by omega
        rcases c with c | c | c | c
        · rw [show 4 * (e / 4) + (3 - e % 4) = 4 * k + 3 by omega, c]; exact Or.inl (jo_uv Q)
        · rw [show 4 * (e / 4) + (3 - e % 4) = 4 * k + 2 by omega, c]; exact jo_uv Q1
        · rw [show 4 * (e / 4) + (3 - e % 4) = 4 * k + 1 by omega, c]; exact jo_vu Q1
        · rw [show 4 * (e / 4) + (3 - e % 4) = 4 * k by omega, c]; exact Or.inl (jo_vu Q)
theorem jo_sub {E : Nat → Nat → Prop} {u v : Nat} {S : Nat → Prop} (h : ∀ a b, E a b → S a → S b) (huv : S u ↔ S v) {a b : Nat} (x : jo E u v a b) (ha : S a) : S b := by
  rcases x with x | ⟨x1, x2⟩ | ⟨x1, x2⟩
  · exact h _ _ x ha
  · exact h _ _ x2 (huv.mp (h _ _ x1 ha))
  · exact h _ _ x2 (huv.mpr (h _ _ x1 ha))
theorem RR_sub {S : Nat → Prop} (hm : ∀ x, x < 4 * n → S x → S (m x)) (hj : ∀ x, x < 4 * n → S x → S (sj w x)) (hk : k ≤ n) {e f : Nat} (x : RR n m w k e f) (he : S e) : S f := by
  induction k generalizing e f with
  | zero =>
    rcases x with x | ⟨x1, x2⟩
    · rw [x]; exact he
    · rw [x2]; exact hm _ x1 he
  | succ k ih =>
    have both : ∀ a b, a < 4 * n → sj w a = b → (S a ↔ S b) := fun a b ha q => ⟨fun s => by rw [← q]; exact hj a ha s, fun s => by
      have := hj b (by rw [← q]; exact sj_lt ha) s
      rw [← q, sj_sj] at this
      exact this⟩
    have ih' : ∀ a b, RR n m w k a b → S a → S b := fun a b x s => ih (by omega) x s
    rw [RR_s] at x
    by_cases h : bt w k = 0
    · have b1 : S (4 * k) ↔ S (4 * k + 1) := both _ _ (by omega) (by rw [sj_0 (by rw [show 4 * k / 4 = k by omega]; exact h), if_pos (by omega)])
      have b2 : S (4 * k + 2) ↔ S (4 * k + 3) := both _ _ (by omega) (by rw [sj_0 (by rw [show (4 * k + 2) / 4 = k by omega]; exact h), if_pos (by omega)])
      rw [t2_0 h] at x
      exact jo_sub (S := S) (fun a b y s => jo_sub (S := S) ih' b1 y s) b2 x he
    · have b1 : S (4 * k) ↔ S (4 * k + 3) := both _ _ (by omega) (by rw [sj_1 (by rw [show 4 * k / 4 = k by omega]; exact h)]; omega)
      have b2 : S (4 * k + 1) ↔ S (4 * k + 2) := both _ _ (by omega) (by rw [sj_1 (by rw [show (4 * k + 1) / 4 = k by omega]; exact h)]; omega)
      rw [t2_1 h] at x
      exact jo_sub (S := S) (fun a b y s => jo_sub (S := S) ih' b1 y s) b2 x he
end TIE
/-! the far ends of paths -/
def FI (N : Nat) (R : Nat → Nat → Prop) (U : Nat → Prop) (F : Nat → Nat) : Prop := ∀ e, e < N → U e → F e < N ∧ U (F e) ∧ F e ≠ e ∧ R e (F e) ∧ ∀ f, f < N → U f → R e f → f = e ∨ f = F e
def tF (F : Nat → Nat) (e f : Nat) : Nat → Nat := if F e = f then F else u1 (u1 F (F e) (F f)) (F f) (F e)
def tcl (F : Nat → Nat) (e f : Nat) : Nat := if F e = f then 1 else 0
def tA (G : Nat → Int32) (F : Nat → Nat) (e f : Nat) : Nat → Int32 := if F e = f then G else u1 (u1 G (F e) (G f)) (F f) (G e)
section FAR
variable {N : Nat} {R : Nat → Nat → Prop} {U : Nat → Prop} {F : Nat → Nat} {e f : Nat}
theorem FI_ff (I : FI N R U F) (Q : EQ R N) (he : e < N) (ue : U e) : F (F e) = e := by
  obtain ⟨a1, a2, a3, a4, a5⟩ := I e he ue
  obtain ⟨b1, b2, b3, b4, b5⟩ := I (F e) a1 a2
  rcases a5 _ b1 b2 (Q.2.2.1 _ _ _ a4 b4) with q | q
  · exact q
  · exact absurd q b3
theorem FI_tie (I : FI N R U F) (Q : EQ R N) (he : e < N) (hf : f < N) (ue : U e) (uf : U f) (ne : e ≠ f) : FI N (jo R e f) (fun x => U x ∧ x ≠ e ∧ x ≠ f) (tF F e f) ∧ ct (lm (jo R e f)) N + 1 = ct (lm R) N + tcl F e f := by
  obtain ⟨a1, a2, a3, a4, a5⟩ := I e he ue
  obtain ⟨b1, b2, b3, b4, b5⟩ := I f hf uf
  have ffe := FI_ff I Q he ue
  have fff := FI_ff I Q hf uf
  have T := Q.2.2.1
  by_cases c : F e = f
  · have cf : F f = e := by rw [← c]; exact ffe
    have ef : R e f := by rw [← c]; exact a4
    refine ⟨?_, by unfold tcl; rw [if_pos c, jo_same Q he hf ef]⟩
    unfold tF
    rw [if_pos c]
    intro x hx ⟨ux, xe, xf⟩
    obtain ⟨c1, c2, c3, c4, c5⟩ := I x hx ux
    have xx := FI_ff I Q hx ux
    refine ⟨c1, ⟨c2, fun q => xf (by rw [← xx, q, c]), fun q => xe (by rw [← xx, q, cf])⟩, c3, Or.inl c4, fun y hy ⟨uy, _, _⟩ o => ?_⟩
    rcases o with o | ⟨o1, o2⟩ | ⟨o1, o2⟩
    · exact c5 y hy uy o
    · exact c5 y hy uy (T _ _ _ o1 (T _ _ _ ef o2))
    · exact c5 y hy uy (T _ _ _ o1 (T _ _ _ (Q.2.1 _ _ he ef) o2))
  · have nef : ¬ R e f := fun o => by
      rcases a5 f hf uf o with q | q
      · exact ne q.symm
      · exact c q.symm
    have fe : F f ≠ e := fun q => c (by rw [← q, fff])
    have fne : F e ≠ F f := fun q => ne (by rw [← ffe, q, fff])
    refine ⟨?_, by unfold tcl; rw [if_neg c]; exact (jo_two Q he hf nef).symm⟩
    unfold tF
    rw [if_neg c]
    intro x hx ⟨ux, xe, xf⟩
    obtain ⟨c1, c2, c3, c4, c5⟩ := I x hx ux
    have xx := FI_ff I Q hx ux
    by_cases z1 : x = F f
    · subst z1
      rw [u1_s]
      refine ⟨a1, ⟨a2, a3, c⟩, fne, Or.inr (Or.inr ⟨Q.2.1 _ _ hf b4, a4⟩), fun y hy ⟨uy, ye, yf⟩ o => ?_⟩
      rcases o with o | ⟨o1, o2⟩ | ⟨o1, o2⟩
      · rcases b5 y hy uy (T _ _ _ b4 o) with q | q
        · exact absurd q yf
        · exact Or.inl q
      · exact absurd (Q.2.1 _ _ hf (T _ _ _ b4 o1)) nef
      · rcases a5 y hy uy o2 with q | q
        · exact absurd q ye
        · exact Or.inr q
    · by_cases z2 : x = F e
      · subst z2
        rw [u1_n _ _ z1, u1_s]
        refine ⟨b1, ⟨b2, fe, b3⟩, fun q => fne q.symm, Or.inr (Or.inl ⟨Q.2.1 _ _ he a4, b4⟩), fun y hy ⟨uy, ye, yf⟩ o => ?_⟩
        rcases o with o | ⟨o1, o2⟩ | ⟨o1, o2⟩
        · rcases a5 y hy uy (T _ _ _ a4 o) with q | q
          · exact absurd q ye
          · exact Or.inl q
        · rcases b5 y hy uy o2 with q | q
          · exact absurd q yf
          · exact Or.inr q
        · exact absurd (T _ _ _ a4 o1) nef
      · rw [u1_n _ _ z1, u1_n _ _ z2]
        refine ⟨c1, ⟨c2, fun q => z2 (by rw [← xx, q]), fun q => z1 (by rw [← xx, q])⟩, c3, Or.inl c4, fun y hy ⟨uy, ye, yf⟩ o => ?_⟩
        rcases o with o | ⟨o1, o2⟩ | ⟨o1, o2⟩
        · exact c5 y hy uy o
        · rcases c5 e he ue o1 with q | q
          · exact absurd q.symm xe
          · exact absurd (show x = F e by rw [q, xx]) z2
        · rcases c5 f hf uf o1 with q | q
          · exact absurd q.symm xf
          · exact absurd (show x = F f by rw [q, xx]) z1
theorem tA_F {G : Nat → Int32} (hG : ∀ x, x < N → G x = nI (F x)) (he : e < N) (hf : f < N) {x : Nat} (hx : x < N) : tA G F e f x = nI (tF F e f x) := by
  unfold tA tF
  by_cases c : F e = f
  · rw [if_pos c, if_pos c]; exact hG x hx
  · rw [if_neg c, if_neg c]
    by_cases z1 : x = F f
    · rw [z1, u1_s, u1_s]; exact hG e he
    · rw [u1_n _ _ z1, u1_n _ _ z1]
      by_cases z2 : x = F e
      · rw [z2, u1_s, u1_s]; exact hG f hf
      · rw [u1_n _ _ z2, u1_n _ _ z2]; exact hG x hx
end FAR
