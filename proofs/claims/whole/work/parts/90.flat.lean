/-! Pure: a flat picture has no piece of one pass. -/
/-- the least of its class -/
def lm (E : Nat → Nat → Prop) (e : Nat) : Prop := ∀ f, E e f → e ≤ f
/-- an equivalence of the places below N -/
def EQ (E : Nat → Nat → Prop) (N : Nat) : Prop := (∀ a, E a a) ∧ (∀ a b, a < N → E a b → E b a) ∧ (∀ a b c, E a b → E b c → E a c) ∧ ∀ a b, a < N → E a b → b < N
/-- the classes of u and v made one -/
def jo (E : Nat → Nat → Prop) (u v a b : Nat) : Prop := E a b ∨ (E a u ∧ E v b) ∨ (E a v ∧ E u b)
section JO
variable {E E' : Nat → Nat → Prop} {N u v : Nat}
theorem lm_ex (Q : EQ E N) {e : Nat} (he : e < N) : ∃ y, lm E y ∧ E y e ∧ y ≤ e := by
  obtain ⟨y, hy, hl⟩ := pk_least (fun y => E e y) ⟨e, Q.1 e⟩
  refine ⟨y, fun f hf => ?_, Q.2.1 e y he hy, ?_⟩
  · by_cases q : y ≤ f
    · exact q
    · exact absurd (Q.2.2.1 e y f hy hf) (hl f (by omega))
  · by_cases q : y ≤ e
    · exact q
    · exact absurd (Q.1 e) (hl e (by omega))
theorem jo_trans (Q : EQ E N) {a b c : Nat} (x : jo E u v a b) (y : jo E u v b c) : jo E u v a c := by
  have t := Q.2.2.1
  rcases x with x | ⟨x1, x2⟩ | ⟨x1, x2⟩
  · rcases y with y | ⟨y1, y2⟩ | ⟨y1, y2⟩
    · exact Or.inl (t _ _ _ x y)
    · exact Or.inr (Or.inl ⟨t _ _ _ x y1, y2⟩)
    · exact Or.inr (Or.inr ⟨t _ _ _ x y1, y2⟩)
  · rcases y with y | ⟨y1, y2⟩ | ⟨y1, y2⟩
    · exact Or.inr (Or.inl ⟨x1, t _ _ _ x2 y⟩)
    · exact Or.inr (Or.inl ⟨x1, y2⟩)
    · exact Or.inl (t _ _ _ x1 y2)
  · rcases y with y | ⟨y1, y2⟩ | ⟨y1, y2⟩
    · exact Or.inr (Or.inr ⟨x1, t _ _ _ x2 y⟩)
    · exact Or.inl (t _ _ _ x1 y2)
    · exact Or.inr (Or.inr ⟨x1, y2⟩)
theorem jo_uv (Q : EQ E N) : jo E u v u v := Or.inr (Or.inl ⟨Q.1 u, Q.1 v⟩)
theorem jo_vu (Q : EQ E N) : jo E u v v u := Or.inr (Or.inr ⟨Q.1 v, Q.1 u⟩)
/-- merging classes that are one already -/
theorem jo_same (Q : EQ E N) (hu : u < N) (hv : v < N) (h : E u v) : ct (lm (jo E u v)) N = ct (lm E) N := by
  refine ct_congr (fun e he => ⟨fun q f hf => q f (Or.inl hf), fun q f hf => ?_⟩)
  rcases hf with x | ⟨x1, x2⟩ | ⟨x1, x2⟩
  · exact q f x
  · exact q f (Q.2.2.1 _ _ _ x1 (Q.2.2.1 _ _ _ h x2))
  · exact q f (Q.2.2.1 _ _ _ x1 (Q.2.2.1 _ _ _ (Q.2.1 _ _ hu h) x2))
/-- merging two classes -/
theorem jo_two (Q : EQ E N) (hu : u < N) (hv : v < N) (h : ¬ E u v) : ct (lm E) N = ct (lm (jo E u v)) N + 1 := by
  obtain ⟨ru, u1_, u2, u3⟩ := lm_ex Q hu
  obtain ⟨rv, v1, v2, v3⟩ := lm_ex Q hv
  have hru : ru < N := by omega
  have hrv : rv < N := by omega
  have ne : ru ≠ rv := fun e => h (Q.2.2.1 _ _ _ (Q.2.1 _ _ hru u2) (by rw [e]; exact v2))
  have uni : ∀ e r, e < N → r < N → lm E e → lm E r → E e r → e = r := fun e r he hr a b c => Nat.le_antisymm (a r c) (b e (Q.2.1 _ _ he c))
  have key : ∀ w, (w = ru ∧ rv < ru) ∨ (w = rv ∧ ru < rv) → ct (lm E) N = ct (lm (jo E u v)) N + 1 := by
    intro w hw
    have hwN : w < N := by omega
    have wl : lm E w := by
      rcases hw with ⟨e, -⟩ | ⟨e, -⟩
      · rw [e]; exact u1_
      · rw [e]; exact v1
    rw [ct_del hwN wl]
    congr 1
    refine ct_congr (fun e he => ⟨fun ⟨q, n⟩ f hf => ?_, fun q => ⟨fun f hf => q f (Or.inl hf), fun n => ?_⟩⟩)
    · rcases hf with x | ⟨x1, x2⟩ | ⟨x1, x2⟩
      · exact q f x
      · have e1 := uni e ru he hru q u1_ (Q.2.2.1 _ _ _ x1 (Q.2.1 _ _ hru u2))
        have := v1 f (Q.2.2.1 _ _ _ v2 x2)
        omega
      · have e1 := uni e rv he hrv q v1 (Q.2.2.1 _ _ _ x1 (Q.2.1 _ _ hrv v2))
        have := u1_ f (Q.2.2.1 _ _ _ u2 x2)
        omega
    · subst n
      rcases hw with ⟨e1, e2⟩ | ⟨e1, e2⟩
      · have := q rv (Or.inr (Or.inl ⟨by rw [e1]; exact u2, Q.2.1 _ _ hrv v2⟩))
        omega
      · have := q ru (Or.inr (Or.inr ⟨by rw [e1]; exact v2, Q.2.1 _ _ hru u2⟩))
        omega
  rcases Nat.lt_or_gt_of_ne ne with q | q
  · exact key rv (Or.inr ⟨rfl, q⟩)
  · exact key ru (Or.inl ⟨rfl, q⟩)
end JO
/-! maps that differ by a swap -/
section SWAP
variable {g g' : Nat → Nat} {N u v : Nat}
theorem ob_EQ (P : pmt g N) : EQ (ob g) N := ⟨ob_refl, fun _ _ ha o => ob_symm P ha o, fun _ _ _ x y => ob_trans x y, fun _ _ ha o => ob_lt P ha o⟩
theorem sw_ob (P : pmt g N) (P' : pmt g' N) (h1 : g u = g' v) (h2 : g v = g' u) (h3 : ∀ e, e < N → e ≠ u → e ≠ v → g e = g' e) {a b : Nat} (ha : a < N) (o : ob g a b) : jo (ob g') u v a b := by
  obtain ⟨k, hk⟩ := o
  induction k generalizing b with
  | zero => exact Or.inl ⟨0, hk⟩
  | succ k ih =>
    rw [it_s] at hk
    have r := ih rfl
    have hlt := it_lt P ha k
    refine jo_trans (ob_EQ P') r ?_
    rw [← hk]
    by_cases q1 : it g k a = u
    · rw [q1, h1]
      exact Or.inr (Or.inl ⟨ob_refl u, ob_step v⟩)
    · by_cases q2 : it g k a = v
      · rw [q2, h2]
        exact Or.inr (Or.inr ⟨ob_refl v, ob_step u⟩)
      · rw [h3 _ hlt q1 q2]
        exact Or.inl (ob_step _)
theorem sw_jo (P : pmt g N) (P' : pmt g' N) (hu : u < N) (hv : v < N) (h1 : g u = g' v) (h2 : g v = g' u) (h3 : ∀ e, e < N → e ≠ u → e ≠ v → g e = g' e) {a b : Nat} (ha : a < N) (o : jo (ob g) u v a b) : jo (ob g') u v a b := by
  have Q := ob_EQ P'
  rcases o with x | ⟨x1, x2⟩ | ⟨x1, x2⟩
  · exact sw_ob P P' h1 h2 h3 ha x
  · exact jo_trans Q (sw_ob P P' h1 h2 h3 ha x1) (jo_trans Q (jo_uv Q) (sw_ob P P' h1 h2 h3 hv x2))
  · exact jo_trans Q (sw_ob P P' h1 h2 h3 ha x1) (jo_trans Q (jo_vu Q) (sw_ob P P' h1 h2 h3 hu x2))
theorem sw_ct (P : pmt g N) (P' : pmt g' N) (hu : u < N) (hv : v < N) (h1 : g u = g' v) (h2 : g v = g' u) (h3 : ∀ e, e < N → e ≠ u → e ≠ v → g e = g' e) : ct (lm (jo (ob g) u v)) N = ct (lm (jo (ob g') u v)) N :=
  ct_congr (fun e he => ⟨fun q f hf => q f (sw_jo P' P hu hv h2.symm h1.symm (fun e he n1 n2 => (h3 e he n1 n2).symm) he hf), fun q f hf => q f (sw_jo P P' hu hv h1 h2 h3 he hf)⟩)
/-- two walks become one -/
theorem sw_one (P : pmt g N) (hv : v < N) (h2 : g v = g' u) (h3 : ∀ e, e < N → e ≠ u → e ≠ v → g e = g' e) (no : ¬ ob g u v) : ob g' u v := by
  obtain ⟨p, ⟨p0, pe, pm⟩, -⟩ := isP_ex P hv
  have key : ∀ k, k + 1 ≤ p → ob g' u (it g (k + 1) v) := by
    intro k
    induction k with
    | zero =>
      intro _
      show ob g' u (g v)
      rw [h2]
      exact ob_step u
    | succ k ih =>
      intro hk
      have r := ih (by omega)
      have hlt := it_lt P hv (k + 1)
      rw [it_s g (k + 1) v, h3 _ hlt (fun q => ?_) (pm (k + 1) (by omega) (by omega))]
      · exact ob_trans r (ob_step _)
      · exact no (ob_symm P hv ⟨k + 1, q⟩)
  obtain ⟨k, rfl⟩ : ∃ k, p = k + 1 := ⟨p - 1, by omega⟩
  have := key k (Nat.le_refl _)
  rw [pe] at this
  exact this
end SWAP
/-- pairings in which some ends may be loose -/
def IV (n : Nat) (m : Nat → Nat) : Prop := ∀ e, e < 4 * n → m e < 4 * n ∧ m (m e) = e
section IVS
variable {n : Nat} {m m' : Nat → Nat} {u v : Nat}
theorem IV_pmt (I : IV n m) : pmt (fun e => cn (m e) 3) (4 * n) := ⟨fun e he => cn_lt 3 (I e he).1, fun a b ha hb h => by
  have q : m a = m b := cn_inj h
  rw [← (I a ha).2, q, (I b hb).2]⟩
theorem cc_EQ (I : IV n m) : EQ (cc n m) n := ⟨fun a => cc_refl a, fun a b ha x => by
  refine x (fun z => cc n m z a) (cc_refl a) (fun e he h => ?_)
  have := cc_step (n := n) (m := m) (I e he).1
  rw [(I e he).2] at this
  exact cc_trans this h, fun _ _ _ x y => cc_trans x y, fun a b ha x => x (fun z => z < n) ha (fun e he _ => by have := (I e he).1; omega)⟩
/-- the arc u v laid -/
def ADD (n : Nat) (m m' : Nat → Nat) (u v : Nat) : Prop := u < 4 * n ∧ v < 4 * n ∧ u ≠ v ∧ m u = u ∧ m v = v ∧ m' u = v ∧ m' v = u ∧ ∀ e, e < 4 * n → e ≠ u → e ≠ v → m' e = m e
theorem ADD_ob (I : IV n m) (I' : IV n m') (D : ADD n m m' u v) : nR n m' ≤ nR n m + 1 ∧ (¬ ob (fun e => cn (m e) 3) u v → nR n m' + 1 ≤ nR n m) := by
  obtain ⟨hu, hv, huv, d1, d2, d3, d4, d5⟩ := D
  have P := IV_pmt I
  have P' := IV_pmt I'
  have h1 : (fun e => cn (m e) 3) u = (fun e => cn (m' e) 3) v := by show cn (m u) 3 = cn (m' v) 3; rw [d1, d4]
  have h2 : (fun e => cn (m e) 3) v = (fun e => cn (m' e) 3) u := by show cn (m v) 3 = cn (m' u) 3; rw [d2, d3]
  have h3 : ∀ e, e < 4 * n → e ≠ u → e ≠ v → (fun e => cn (m e) 3) e = (fun e => cn (m' e) 3) e := fun e he n1 n2 => by show cn (m e) 3 = cn (m' e) 3; rw [d5 e he n1 n2]
  have c := sw_ct P P' hu hv h1 h2 h3
  have a1 : nR n m = ct (lm (ob (fun e => cn (m e) 3))) (4 * n) := rfl
  have a2 : nR n m' = ct (lm (ob (fun e => cn (m' e) 3))) (4 * n) := rfl
  have Q := ob_EQ P
  have Q' := ob_EQ P'
  rw [a1, a2]
  by_cases w : ob (fun e => cn (m e) 3) u v
  · refine ⟨?_, fun q => absurd w q⟩
    have b1 := jo_same Q hu hv w
    by_cases w' : ob (fun e => cn (m' e) 3) u v
    · have b2 := jo_same Q' hu hv w'
      omega
    · have b2 := jo_two Q' hu hv w'
      omega
  · have b1 := jo_two Q hu hv w
    have b2 := jo_same Q' hu hv (sw_one P hv h2 h3 w)
    exact ⟨by omega, fun _ => by omega⟩
theorem ADD_cc (I : IV n m) (D : ADD n m m' u v) {a b : Nat} : cc n m' a b ↔ jo (cc n m) (u / 4) (v / 4) a b := by
  obtain ⟨hu, hv, huv, d1, d2, d3, d4, d5⟩ := D
  have Q := cc_EQ I
  have sub : ∀ a b, cc n m a b → cc n m' a b := fun a b x S h s => x S h (fun e he se => by
    by_cases q1 : e = u
    · rw [q1, d1]; rw [q1] at se; exact se
    · by_cases q2 : e = v
      · rw [q2, d2]; rw [q2] at se; exact se
      · rw [← d5 e he q1 q2]; exact s e he se)
  have uv : cc n m' (u / 4) (v / 4) := by have := cc_step (m := m') hu; rw [d3] at this; exact this
  have vu : cc n m' (v / 4) (u / 4) := by have := cc_step (m := m') hv; rw [d4] at this; exact this
  constructor
  · intro x
    refine x (fun z => jo (cc n m) (u / 4) (v / 4) a z) (Or.inl (cc_refl a)) (fun e he h => ?_)
    refine jo_trans Q h ?_
    by_cases q1 : e = u
    · rw [q1, d3]; exact jo_uv Q
    · by_cases q2 : e = v
      · rw [q2, d4]; exact jo_vu Q
      · rw [d5 e he q1 q2]; exact Or.inl (cc_step he)
  · rintro (x | ⟨x1, x2⟩ | ⟨x1, x2⟩)
    · exact sub _ _ x
    · exact cc_trans (sub _ _ x1) (cc_trans uv (sub _ _ x2))
    · exact cc_trans (sub _ _ x1) (cc_trans vu (sub _ _ x2))
theorem ADD_nP (I : IV n m) (D : ADD n m m' u v) : (cc n m (u / 4) (v / 4) → nP n m = nP n m') ∧ (¬ cc n m (u / 4) (v / 4) → nP n m = nP n m' + 1) := by
  have hu : u / 4 < n := by have := D.1; omega
  have hv : v / 4 < n := by have := D.2.1; omega
  have Q := cc_EQ I
  have a1 : nP n m = ct (lm (cc n m)) n := rfl
  have a2 : nP n m' = ct (lm (jo (cc n m) (u / 4) (v / 4))) n := ct_congr (fun e _ => ⟨fun q f hf => q f ((ADD_cc I D).mpr hf), fun q f hf => q f ((ADD_cc I D).mp hf)⟩)
  rw [a1, a2]
  exact ⟨fun w => (jo_same Q hu hv w).symm, fun w => jo_two Q hu hv w⟩
theorem ob_cc (I : IV n m) {a b : Nat} (ha : a < 4 * n) (o : ob (fun e => cn (m e) 3) a b) : cc n m (a / 4) (b / 4) := by
  obtain ⟨k, hk⟩ := o
  induction k generalizing b with
  | zero => rw [← hk]; exact cc_refl _
  | succ k ih =>
    rw [it_s] at hk
    have hlt := it_lt (IV_pmt I) ha k
    have r := ih rfl
    have : cc n m (it (fun e => cn (m e) 3) k a / 4) (b / 4) := by
      have s := cc_step (n := n) (m := m) hlt
      rw [← hk]
      show cc n m _ (cn (m (it (fun e => cn (m e) 3) k a)) 3 / 4)
      rw [cn_div]
      exact s
    exact cc_trans r this
theorem ADD_step (I : IV n m) (I' : IV n m') (D : ADD n m m' u v) : nR n m' + 2 * nP n m ≤ nR n m + 2 * nP n m' + 1 := by
  obtain ⟨r1, r2⟩ := ADD_ob I I' D
  obtain ⟨p1, p2⟩ := ADD_nP I D
  by_cases w : cc n m (u / 4) (v / 4)
  · have := p1 w
    omega
  · have := p2 w
    have := r2 (fun o => w (ob_cc I D.1 o))
    omega
/-- an arc taken away -/
theorem cut (I : IV n m) (hu : u < 4 * n) (mu : m u ≠ u) : ∃ m0, ADD n m0 m u (m u) ∧ IV n m0 ∧ ct (fun e => m e ≠ e) (4 * n) = ct (fun e => m0 e ≠ e) (4 * n) + 2 := by
  obtain ⟨hv, vu⟩ := I u hu
  have nuv : u ≠ m u := Ne.symm mu
  obtain ⟨m0, z1, z2⟩ : ∃ m0 : Nat → Nat, (∀ e, e = u ∨ e = m u → m0 e = e) ∧ ∀ e, ¬ (e = u ∨ e = m u) → m0 e = m e := ⟨fun e => if e = u ∨ e = m u then e else m e, fun e q => if_pos q, fun e q => if_neg q⟩
  refine ⟨m0, ⟨hu, hv, nuv, z1 _ (Or.inl rfl), z1 _ (Or.inr rfl), rfl, vu, fun e he n1 n2 => (z2 e (fun q => by rcases q with q | q; exact n1 q; exact n2 q)).symm⟩, fun e he => ?_, ?_⟩
  · by_cases q : e = u ∨ e = m u
    · rw [z1 e q]
      exact ⟨he, z1 e q⟩
    · rw [z2 e q]
      refine ⟨(I e he).1, ?_⟩
      rw [z2 _ (fun z => q ?_), (I e he).2]
      rcases z with z | z
      · right; rw [← (I e he).2, z]
      · left; rw [← (I e he).2, z, vu]
  · rw [ct_del (p := fun e => m e ≠ e) hu mu, ct_del (p := fun x => m x ≠ x ∧ x ≠ u) hv ⟨by rw [vu]; exact nuv, fun q => nuv q.symm⟩]
    have : ct (fun x => (m x ≠ x ∧ x ≠ u) ∧ x ≠ m u) (4 * n) = ct (fun e => m0 e ≠ e) (4 * n) := ?_
    · rw [this]
    refine ct_congr (fun e he => ⟨fun q => ?_, fun q => ?_⟩)
    · show m0 e ≠ e
      rw [z2 e (fun z => by rcases z with z | z; exact q.1.2 z; exact q.2 z)]
      exact q.1.1
    · have q' : m0 e ≠ e := q
      by_cases z : e = u ∨ e = m u
      · exact absurd (z1 e z) q'
      · rw [z2 e z] at q'
        exact ⟨⟨q', fun y => z (Or.inl y)⟩, fun y => z (Or.inr y)⟩
/-- Euler's bound -/
theorem euler : ∀ (t : Nat) (m : Nat → Nat), IV n m → ct (fun e => m e ≠ e) (4 * n) ≤ t → 2 * nR n m + 2 * n ≤ 4 * nP n m + ct (fun e => m e ≠ e) (4 * n) := by
  intro t
  induction t with
  | zero =>
    intro m I h
    have id_ : ∀ e, e < 4 * n → m e = e := fun e he => by
      refine Classical.byContradiction (fun q => ?_)
      have := ct_pos (p := fun e => m e ≠ e) he q
      omega
    have hR : nR n m = n := by
      have ob4 : ∀ c i, c < n → i < 4 → ob (fun e => cn (m e) 3) (4 * c + i) (4 * c) := fun c i hc hi => by
        have st : ∀ j, j < 3 → ob (fun e => cn (m e) 3) (4 * c + (j + 1)) (4 * c + j) := fun j hj => by
          have := ob_step (g := fun e => cn (m e) 3) (4 * c + (j + 1))
          have e1 : cn (m (4 * c + (j + 1))) 3 = 4 * c + j := by
            rw [id_ _ (by omega)]
            unfold cn
            omega
          rw [e1] at this
          exact this
        have z : i = 0 ∨ i = 1 ∨ i = 2 ∨ i = 3 := by omega
        rcases z with z | z | z | z
        · subst z; exact ob_refl _
        · subst z; exact st 0 (by omega)
        · subst z; exact ob_trans (st 1 (by omega)) (st 0 (by omega))
        · subst z; exact ob_trans (st 2 (by omega)) (ob_trans (st 1 (by omega)) (st 0 (by omega)))
      have mnq : ∀ e, e < 4 * n → (mn (fun e => cn (m e) 3) e ↔ e % 4 = 0) := fun e he => by
        constructor
        · intro q
          have := q (4 * (e / 4)) (by have := ob4 (e / 4) (e % 4) (by omega) (by omega); rw [show 4 * (e / 4) + e % 4 = e by omega] at this; exact this)
          omega
        · intro q f hf
          have c0 : cc n m (e / 4) (f / 4) := ob_cc I he hf
          have : f / 4 = e / 4 := c0 (fun z => z = e / 4) rfl (fun x hx z => by rw [id_ x hx]; exact z)
          omega
      have cnt : ∀ c, c ≤ n → ct (mn (fun e => cn (m e) 3)) (4 * c) = c := by
        intro c
        induction c with
        | zero => intro _; rfl
        | succ c ih =>
          intro hc
          rw [show 4 * (c + 1) = 4 * c + 1 + 1 + 1 + 1 by omega, ct_n (fun q => by have := (mnq _ (by omega)).mp q; omega), ct_n (fun q => by have := (mnq _ (by omega)).mp q; omega), ct_n (fun q => by have := (mnq _ (by omega)).mp q; omega), ct_y ((mnq _ (by omega)).mpr (by omega)), ih (by omega)]
      exact cnt n (Nat.le_refl _)
    have hP : nP n m = n := ct_all (fun c hc d hd => by
      have : d = c := hd (fun z => z = c) rfl (fun x hx z => by rw [id_ x hx]; exact z)
      omega)
    rw [hR, hP]
    omega
  | succ t ih =>
    intro m I h
    by_cases w : ct (fun e => m e ≠ e) (4 * n) ≤ t
    · exact ih m I w
    · obtain ⟨u, hu, mu⟩ := ct_one (p := fun e => m e ≠ e) (N := 4 * n) (by omega)
      obtain ⟨m0, D, I0, cts⟩ := cut I hu mu
      have r := ih _ I0 (by omega)
      have s := ADD_step I0 I D
      omega
end IVS
section FLAT
variable {n : Nat} {A m : Nat → Nat}
theorem Pr.iv (P : Pr n A m) : IV n m := fun e he => ⟨P.lt he, P.mm he⟩
/-- no piece of a flat picture passes but once -/
theorem flat_2 (P : Pr n A m) (F : nR n m = n + 2 * nP n m) {x : Nat} (hx : x < 4 * n) : m x ≠ cn x 2 := by
  intro L
  have hy := cn_lt 1 hx
  have h2 := cn_lt 2 hx
  have h3 := cn_lt 3 hx
  have hb := P.lt h3
  have I := P.iv
  have mu := P.mm h3
  have nuv := P.ne h3
  have L2 : m (cn x 2) = x := by rw [← L, P.mm hx]
  obtain ⟨u, eu⟩ : ∃ u, u = cn x 3 := ⟨_, rfl⟩
  obtain ⟨b, eb⟩ : ∃ b, b = m (cn x 3) := ⟨_, rfl⟩
  rw [← eu] at h3 mu nuv eb
  rw [← eu, ← eb] at hb
  rw [← eb] at mu nuv
  obtain ⟨m0, D, I0, cts⟩ := cut I h3 (by rw [← eb]; exact nuv)
  rw [← eb] at D
  obtain ⟨-, -, -, z1, z2, -, -, z3⟩ := id D
  have nx2 : cn x 2 ≠ u := by rw [eu]; exact cn_n2 x (by decide)
  have nx0 : x ≠ u := by rw [eu]; exact cn_n0' x (by decide)
  have nb2 : cn x 2 ≠ b := fun q => by
    rw [← q, L2] at mu
    exact nx0 mu
  -- the region of u
  have no : ¬ ob (fun e => cn (m0 e) 3) u b := by
    have s1 : cn (m0 u) 3 = cn x 2 := by
      rw [z1, eu, cn_cn]
      exact cn_4 x 2
    have s2 : cn (m0 (cn x 2)) 3 = u := by rw [← z3 _ h2 nx2 nb2, L2, eu]
    have all : ∀ k, it (fun e => cn (m0 e) 3) k u = u ∨ it (fun e => cn (m0 e) 3) k u = cn x 2 := by
      intro k
      induction k with
      | zero => exact Or.inl rfl
      | succ k ih =>
        rw [it_s]
        rcases ih with q | q
        · rw [q, s1]; exact Or.inr rfl
        · rw [q, s2]; exact Or.inl rfl
    rintro ⟨k, hk⟩
    rcases all k with q | q
    · exact nuv (hk.symm.trans q)
    · exact nb2 (q.symm.trans hk)
  -- u and b hang together without the arc
  have con : cc n m0 (u / 4) (b / 4) := by
    have yu : cn (cn x 1) 2 = u := by rw [cn_cn, eu]
    obtain ⟨p, ⟨p0, pe, pm⟩, -⟩ := isP_ex (tuP P) hy
    obtain ⟨q, rfl⟩ : ∃ q, p = q + 1 := ⟨p - 1, by omega⟩
    rw [it_s] at pe
    have hz := it_lt (tuP P) hy q
    have zb : it (tu m) q (cn x 1) = b := by
      have e1 : cn (m (it (tu m) q (cn x 1))) 2 = cn x 1 := pe
      have e2 : m (it (tu m) q (cn x 1)) = u := by
        have := congrArg (fun z => cn z 2) e1
        have this' : cn (cn (m (it (tu m) q (cn x 1))) 2) 2 = cn (cn x 1) 2 := this
        rw [cn_22, yu] at this'
        exact this'
      rw [eb, ← e2, P.mm hz]
    obtain ⟨j, hj, jm⟩ := pk_least (fun j => it (tu m) j (cn x 1) = b) ⟨q, zb⟩
    have nu : ∀ i, it (tu m) i (cn x 1) ≠ u := fun i w => by
      have o : ob (tu m) (cn x 1) (cn (cn x 1) 2) := ⟨i, by rw [yu]; exact w⟩
      have o2 : ob (tu m) (m (cn x 1)) (cn (cn x 1) 2) := by have := ob_step (g := tu m) (m (cn x 1)); rw [tu_mm P hy] at this; exact this
      exact ob_no P hy (ob_trans o (ob_symm (tuP P) (P.lt hy) o2))
    have key : ∀ i, i ≤ j → cc n m0 (cn x 1 / 4) (it (tu m) i (cn x 1) / 4) := by
      intro i
      induction i with
      | zero => exact fun _ => cc_refl _
      | succ i ih =>
        intro hi
        have hlt := it_lt (tuP P) hy i
        have s := cc_step (n := n) (m := m0) hlt
        rw [← z3 _ hlt (nu i) (jm i (by omega))] at s
        rw [it_s]
        have e4 : tu m (it (tu m) i (cn x 1)) / 4 = m (it (tu m) i (cn x 1)) / 4 := cn_div _ 2
        rw [e4]
        exact cc_trans (ih (by omega)) s
    have := key j (Nat.le_refl _)
    rw [hj, cn_div] at this
    rw [eu, cn_div]
    exact this
  have e0 := euler _ _ I0 (Nat.le_refl _)
  have r := (ADD_ob I0 I D).2 no
  have p := (ADD_nP I0 D).1 con
  have a := ct_all (p := fun e => m e ≠ e) (n := 4 * n) (fun e he => P.ne he)
  omega
end FLAT
