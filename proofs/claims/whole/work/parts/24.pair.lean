/-! Pure: pictures as pairings of their ends; mates, regions, parts. -/
/-- m pairs the 4 n ends as the arcs A do -/
def Pr (n : Nat) (A m : Nat → Nat) : Prop := ∀ e, e < 4 * n → A e < 100 ∧ m e < 4 * n ∧ m e ≠ e ∧ A (m e) = A e ∧ ∀ f, f < 4 * n → A f = A e → f = e ∨ f = m e
section PAIR
variable {n : Nat} {A m : Nat → Nat}
theorem Pr.mm (P : Pr n A m) {e : Nat} (he : e < 4 * n) : m (m e) = e := by
  obtain ⟨-, h1, h2, h3, h4⟩ := P e he
  obtain ⟨-, g1, g2, g3, g4⟩ := P (m e) h1
  rcases h4 (m (m e)) g1 (g3.trans h3) with q | q
  · exact q
  · exact absurd q g2
theorem Pr.lt (P : Pr n A m) {e : Nat} (he : e < 4 * n) : m e < 4 * n := (P e he).2.1
theorem Pr.ne (P : Pr n A m) {e : Nat} (he : e < 4 * n) : m e ≠ e := (P e he).2.2.1
theorem Pr.ar (P : Pr n A m) {e : Nat} (he : e < 4 * n) : A (m e) = A e := (P e he).2.2.2.1
theorem Pr.A100 (P : Pr n A m) {e : Nat} (he : e < 4 * n) : A e < 100 := (P e he).1
theorem Pr.eq (P : Pr n A m) {e f : Nat} (he : e < 4 * n) (hf : f < 4 * n) : A f = A e ↔ f = e ∨ f = m e := ⟨(P e he).2.2.2.2 f hf, fun q => by rcases q with q | q <;> subst q; rfl; exact P.ar he⟩
theorem Pr.inj (P : Pr n A m) {e f : Nat} (he : e < 4 * n) (hf : f < 4 * n) (h : m e = m f) : e = f := by rw [← P.mm he, ← P.mm hf, h]
theorem cn_inj {a b k : Nat} (h : cn a k = cn b k) : a = b := by unfold cn at h; omega
theorem Pr.pmt (P : Pr n A m) (k : Nat) : pmt (fun e => cn (m e) k) (4 * n) := ⟨fun e he => cn_lt k (P.lt he), fun a b ha hb h => P.inj ha hb (cn_inj h)⟩
theorem Pr.u {m' : Nat → Nat} (P : Pr n A m) (P' : Pr n A m') {e : Nat} (he : e < 4 * n) : m' e = m e := by
  rcases (P.eq he (P'.lt he)).mp (P'.ar he) with q | q
  · exact absurd q (P'.ne he)
  · exact q
/-- counts of two -/
theorem ct_pos {p : Nat → Prop} {N e : Nat} (he : e < N) (h : p e) : 0 < ct p N := by
  have := ct_lt he h
  omega
theorem ct_one {p : Nat → Prop} {N : Nat} (h : 0 < ct p N) : ∃ f, f < N ∧ p f := by
  induction N with
  | zero => exact absurd h (Nat.lt_irrefl 0)
  | succ N ih =>
    by_cases q : p N
    · exact ⟨N, by omega, q⟩
    · rw [ct_n q] at h
      obtain ⟨f, a, b⟩ := ih h
      exact ⟨f, by omega, b⟩
/-- the count without one place -/
theorem ct_del {p : Nat → Prop} {N e : Nat} (he : e < N) (h : p e) : ct p N = ct (fun x => p x ∧ x ≠ e) N + 1 := by
  induction N with
  | zero => omega
  | succ N ih =>
    by_cases q : e = N
    · subst q
      rw [ct_y h, ct_n (p := fun x => p x ∧ x ≠ e) (fun z => z.2 rfl)]
      congr 1
      exact ct_congr (fun i hi => ⟨fun a => ⟨a, by omega⟩, fun a => a.1⟩)
    · have := ih (by omega)
      by_cases r : p N
      · rw [ct_y r, ct_y (p := fun x => p x ∧ x ≠ e) ⟨r, fun z => q z.symm⟩, this]
      · rw [ct_n r, ct_n (p := fun x => p x ∧ x ≠ e) (fun z => r z.1), this]
theorem ct_two {p : Nat → Prop} {N e : Nat} (he : e < N) (h : p e) : ct p N = 2 ↔ ∃ f, f < N ∧ f ≠ e ∧ p f ∧ ∀ x, x < N → p x → x = e ∨ x = f := by
  rw [ct_del he h]
  constructor
  · intro q
    obtain ⟨f, a, b, c⟩ := ct_one (p := fun x => p x ∧ x ≠ e) (N := N) (by omega)
    refine ⟨f, a, c, b, fun x hx px => ?_⟩
    by_cases xe : x = e
    · exact Or.inl xe
    · rw [ct_del a ⟨b, c⟩] at q
      by_cases xf : x = f
      · exact Or.inr xf
      · have := ct_pos (p := fun y => (p y ∧ y ≠ e) ∧ y ≠ f) hx ⟨⟨px, xe⟩, xf⟩
        omega
  · rintro ⟨f, a, b, c, u⟩
    rw [ct_del a ⟨c, b⟩]
    rw [ct_none (p := fun y => (p y ∧ y ≠ e) ∧ y ≠ f)]
    rintro i hi ⟨⟨q1, q2⟩, q3⟩
    rcases u i hi q1 with z | z
    · exact q2 z
    · exact q3 z
/-- the arcs pair the ends -/
def Pd (n : Nat) (A : Nat → Nat) : Prop := ∀ e, e < 4 * n → A e < 100 ∧ ct (fun x => A x = A e) (4 * n) = 2
theorem Pr.pd (P : Pr n A m) : Pd n A := fun e he => ⟨P.A100 he, (ct_two (p := fun x => A x = A e) he rfl).mpr ⟨m e, P.lt he, P.ne he, P.ar he, fun x hx q => (P.eq he hx).mp q⟩⟩
theorem Pd.pr (P : Pd n A) : ∃ m, Pr n A m := by
  have h : ∀ e, ∃ f, e < 4 * n → A e < 100 ∧ f < 4 * n ∧ f ≠ e ∧ A f = A e ∧ ∀ x, x < 4 * n → A x = A e → x = e ∨ x = f := by
    intro e
    by_cases he : e < 4 * n
    · obtain ⟨f, a, b, c, u⟩ := (ct_two (p := fun x => A x = A e) he rfl).mp (P e he).2
      exact ⟨f, fun _ => ⟨(P e he).1, a, b, c, u⟩⟩
    · exact ⟨0, fun q => absurd q he⟩
  exact ⟨fun e => Classical.choose (h e), fun e he => Classical.choose_spec (h e) he⟩
/-- the pairing of arcs -/
noncomputable def mt (n : Nat) (A : Nat → Nat) : Nat → Nat := Classical.epsilon (fun m => Pr n A m)
theorem Pd.mt (P : Pd n A) : Pr n A (mt n A) := Classical.epsilon_spec P.pr
end PAIR
/-- c and d hang together -/
def cc (n : Nat) (m : Nat → Nat) (c d : Nat) : Prop := ∀ S : Nat → Prop, S c → (∀ e, e < 4 * n → S (e / 4) → S (m e / 4)) → S d
section CC
variable {n : Nat} {A m : Nat → Nat}
theorem cc_refl (c : Nat) : cc n m c c := fun _ h _ => h
theorem cc_trans {a b c : Nat} (x : cc n m a b) (y : cc n m b c) : cc n m a c := fun S h s => y S (x S h s) s
theorem cc_step {e : Nat} (he : e < 4 * n) : cc n m (e / 4) (m e / 4) := fun _ h s => s e he h
theorem cc_symm (P : Pr n A m) {a b : Nat} (x : cc n m a b) : cc n m b a := by
  refine x (fun z => cc n m z a) (cc_refl a) (fun e he h => ?_)
  have := cc_step (n := n) (m := m) (P.lt he)
  rw [P.mm he] at this
  exact cc_trans this h
theorem cc_lt (P : Pr n A m) {a b : Nat} (ha : a < n) (x : cc n m a b) : b < n := x (fun z => z < n) ha (fun e he _ => by have := P.lt he; omega)
/-- the first crossing of its part -/
def c1 (n : Nat) (m : Nat → Nat) (c : Nat) : Prop := ∀ d, cc n m c d → c ≤ d
end CC
/-- how many regions, how many parts -/
noncomputable def nR (n : Nat) (m : Nat → Nat) : Nat := ct (mn (fun e => cn (m e) 3)) (4 * n)
noncomputable def nP (n : Nat) (m : Nat → Nat) : Nat := ct (c1 n m) n
