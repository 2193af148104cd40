/-! Moves by their kinds; each has an outcome. -/
def cnI (x : Int32) : Int32 := (x &&& (-4)) ||| ((x + 2) &&& 3)
theorem cnI_V (x : Int32) (g : AH) : X11_corner_V x 2 g = cnI x := rfl
theorem cnI_n {e : Nat} (he : e < 2 ^ 31) : cnI (nI e) = nI (cn e 2) := corner_nI (k := 2) (h := (0, fun _ => (0, 0), fun _ _ => 0, fun _ _ => none, fun _ _ => 0, fun _ _ => 0, fun _ _ => none)) he (by omega)
theorem cnI_nat (x : Int32) : (cnI x).toBitVec.toNat = cn x.toBitVec.toNat 2 := by
  have hx := x.toBitVec.isLt
  unfold cnI
  have b1 : ((-4 : Int32)).toBitVec.toNat = 2 ^ 32 - 4 := by decide
  have b2 : ((3 : Int32)).toBitVec.toNat = 3 := by decide
  have b3 : ((2 : Int32)).toBitVec.toNat = 2 := by decide
  rw [Int32.toBitVec_or, Int32.toBitVec_and, Int32.toBitVec_and, Int32.toBitVec_add, BitVec.toNat_or, BitVec.toNat_and, BitVec.toNat_and, BitVec.toNat_add, b1, b2, b3, nat_and4 _ hx]
  rw [show (x.toBitVec.toNat + 2) % 2 ^ 32 &&& 3 = (x.toBitVec.toNat + 2) % 2 ^ 32 % 4 from Nat.and_two_pow_sub_one_eq_mod _ 2]
  rw [show (x.toBitVec.toNat + 2) % 2 ^ 32 % 4 = (x.toBitVec.toNat + 2) % 4 by omega]
  exact cn_or x.toBitVec.toNat 2
theorem cnI_ix {x : Int32} {n : Nat} (hn : n ≤ 40) (h : ix (cnI x) (4 * n)) : ix x (4 * n) := by
  obtain ⟨e, he, q⟩ := ix_of h (by omega)
  have w := congrArg (fun y : Int32 => y.toBitVec.toNat) q
  have w1 : (cnI x).toBitVec.toNat = (nI e).toBitVec.toNat := w
  rw [cnI_nat, pk_tn (by omega)] at w1
  have w2 : x.toBitVec.toNat = cn e 2 := by rw [← w1, cn_22]
  have hc := cn_lt 2 he
  have w3 : x = nI (cn e 2) := i32_nat (by rw [w2, pk_tn (by omega)])
  rw [w3, ix_nI (by omega)]
  exact hc
def mvr (n l : Nat) (A m : Nat → Nat) (kd : Nat) (x1 x2 x3 : Int32) (f n' l' : Nat) (A' : Nat → Nat) : Prop :=
  (kd = 0 ∧ mvT n l A m x1 x2 f n' l' A') ∨ (kd = 1 ∧ mvK n l A m x1 x2 x3 f n' l' A') ∨ (kd = 2 ∧ mvS n l A m x1 f n' l' A') ∨ (kd = 3 ∧ mvF n l A m x1 x2 f n' l' A') ∨ (kd = 4 ∧ mvM n l A x1 x2 f n' l' A') ∨ (kd = 5 ∧ mvC n l A 1 x1 f n' l' A')
def mvw (n l : Nat) (A m : Nat → Nat) (kd : Nat) (x1 x2 : Int32) (f n' l' : Nat) (A' : Nat → Nat) : Prop :=
  (kd = 0 ∧ mvU n l A m x1 f n' l' A') ∨ (kd = 1 ∧ mvP n l A m x1 f n' l' A') ∨ (kd = 2 ∧ mvS n l A m (cnI x1) f n' l' A') ∨ (kd = 3 ∧ mvF n l A m (cnI x1) x2 f n' l' A') ∨ (kd = 5 ∧ mvC n l A 3 x1 f n' l' A')
section KIND
variable {h : AH} {d bc bs b lb n l o kd : Nat} {A m : Nat → Nat} {x1 x2 x3 : Int32} {Q : Option Value → AH → Prop} {f n' l' : Nat} {A' : Nat → Nat}
theorem c_applyTo (X : DC h b lb n l A m) (G : RG n m (ah_i h (lb + 2)) (ah_i h (lb + 3))) (O : mo_ h o kd x1 x2 x3) (ho : o ∉ [b, b + 1, b + 2]) (M : mvr n l A m kd x1 x2 x3 f n' l' A') (k : ∀ h', fr [b, b + 1, b + 2] h h' → (f = 0 → cD h' b n' l' A') → Q (some (.int (ans f))) h') : ex_S yX5_applyTo mX5_applyTo (d + 4) [.ref o, .ref b, .ref lb] h bc bs Q := by
  have k2 : ∀ h', fr [b, b + 1, b + 2] h h' → (f = 0 → cD h' b n' l' A') → ∃ x4, some (Value.int (ans f)) = some (.int x4) ∧ Q (some (.int x4)) h' := fun h' F D => ⟨_, rfl, k h' F D⟩
  refine X5_applyTo_e (X5_applyTo_0 ⟨O.1, ?_⟩)
  rw [O.2.1, O.2.2.1]
  rcases M with ⟨e, M⟩ | ⟨e, M⟩ | ⟨e, M⟩ | ⟨e, M⟩ | ⟨e, M⟩ | ⟨e, M⟩
  · subst e
    exact ⟨fun _ => c_twist (d := d + 1) X O ho M k2, fun z => absurd z (by decide), fun z => absurd z (by decide), fun z => absurd z (by decide), fun z => absurd z (by decide), fun z => absurd rfl z⟩
  · subst e
    exact ⟨fun z => absurd z (by decide), fun _ => c_poke (d := d + 2) X G O ho M k2, fun z => absurd z (by decide), fun z => absurd z (by decide), fun z => absurd z (by decide), fun _ z => absurd rfl z⟩
  · subst e
    exact ⟨fun z => absurd z (by decide), fun z => absurd z (by decide), fun _ => c_slide X M k2, fun z => absurd z (by decide), fun z => absurd z (by decide), fun _ _ z => absurd rfl z⟩
  · subst e
    exact ⟨fun z => absurd z (by decide), fun z => absurd z (by decide), fun z => absurd z (by decide), fun _ => c_flype (d := d + 1) X O ho M k2, fun z => absurd z (by decide), fun _ _ _ z => absurd rfl z⟩
  · subst e
    exact ⟨fun z => absurd z (by decide), fun z => absurd z (by decide), fun z => absurd z (by decide), fun z => absurd z (by decide), fun _ => c_smooth X O ho M k2, fun _ _ _ _ z => absurd rfl z⟩
  · subst e
    exact ⟨fun z => absurd z (by decide), fun z => absurd z (by decide), fun z => absurd z (by decide), fun z => absurd z (by decide), fun z => absurd z (by decide), fun _ _ _ _ _ => c_change (d := d + 1) X O (kk := 1) (by decide) M k2⟩
theorem c_withdraw (X : DC h b lb n l A m) (O : mo_ h o kd x1 x2 x3) (ho : o ∉ [b, b + 1, b + 2]) (M : mvw n l A m kd x1 x2 f n' l' A') (k : ∀ h', fr [b, b + 1, b + 2] h h' → (f = 0 → cD h' b n' l' A') → Q (some (.int (ans f))) h') : ex_S yX5_withdrawFrom mX5_withdrawFrom (d + 4) [.ref o, .ref b, .ref lb] h bc bs Q := by
  have k2 : ∀ h', fr [b, b + 1, b + 2] h h' → (f = 0 → cD h' b n' l' A') → ∃ x4, some (Value.int (ans f)) = some (.int x4) ∧ Q (some (.int x4)) h' := fun h' F D => ⟨_, rfl, k h' F D⟩
  refine X5_withdrawFrom_e (X5_withdrawFrom_0 ⟨O.1, ?_⟩)
  rw [O.2.1, O.2.2.1, cnI_V]
  rcases M with ⟨e, M⟩ | ⟨e, M⟩ | ⟨e, M⟩ | ⟨e, M⟩ | ⟨e, M⟩
  · subst e
    exact ⟨fun _ => c_untwist X M k2, fun z => absurd z (by decide), fun z => absurd z (by decide), fun z => absurd z (by decide), fun z => absurd rfl z⟩
  · subst e
    exact ⟨fun z => absurd z (by decide), fun _ => c_unpoke X M k2, fun z => absurd z (by decide), fun z => absurd z (by decide), fun _ z => absurd rfl z⟩
  · subst e
    exact ⟨fun z => absurd z (by decide), fun z => absurd z (by decide), fun _ => c_slide X M k2, fun z => absurd z (by decide), fun _ _ z => absurd rfl z⟩
  · subst e
    exact ⟨fun z => absurd z (by decide), fun z => absurd z (by decide), fun z => absurd z (by decide), fun _ => c_flype (d := d + 1) X O ho M k2, fun _ _ _ z => absurd rfl z⟩
  · subst e
    exact ⟨fun z => absurd z (by decide), fun z => absurd z (by decide), fun z => absurd z (by decide), fun z => absurd z (by decide), fun _ _ _ _ => c_change (d := d + 1) X O (kk := 3) (by decide) M k2⟩
theorem m_moved (X : MC h n l A m) (M : mvr n l A m kd x1 x2 x3 f n' l' A') (k : ∀ h', fS 364 h h' → (f = 0 → mD h' 364 n' l' A') → Q (some (.int (nI f))) h') : ex_S yX12_moved mX12_moved (d + 4) [.ref 168, .int (nI kd), .int x1, .int x2, .int x3] h bc bs Q := by
  have k2 : ∀ h', fS 364 h h' → (f = 0 → mD h' 364 n' l' A') → ∃ x4, some (Value.int (nI f)) = some (.int x4) ∧ Q (some (.int x4)) h' := fun h' F D => ⟨_, rfl, k h' F D⟩
  have o := o168 X.1
  refine X12_moved_e (X12_moved_0 ?_)
  rcases M with ⟨e, M⟩ | ⟨e, M⟩ | ⟨e, M⟩ | ⟨e, M⟩ | ⟨e, M⟩ | ⟨e, M⟩
  · subst e
    exact ⟨fun _ => ⟨o, m_twist (d := d + 1) X M k2⟩, fun z => absurd z (by decide), fun z => absurd z (by decide), fun z => absurd z (by decide), fun z => absurd z (by decide), fun z => absurd rfl z⟩
  · subst e
    exact ⟨fun z => absurd z (by decide), fun _ => ⟨o, m_poke X M k2⟩, fun z => absurd z (by decide), fun z => absurd z (by decide), fun z => absurd z (by decide), fun _ z => absurd rfl z⟩
  · subst e
    exact ⟨fun z => absurd z (by decide), fun z => absurd z (by decide), fun _ => ⟨o, m_slide (d := d + 1) X M k2⟩, fun z => absurd z (by decide), fun z => absurd z (by decide), fun _ _ z => absurd rfl z⟩
  · subst e
    exact ⟨fun z => absurd z (by decide), fun z => absurd z (by decide), fun z => absurd z (by decide), fun _ => ⟨o, m_flype (d := d + 1) X M k2⟩, fun z => absurd z (by decide), fun _ _ _ z => absurd rfl z⟩
  · subst e
    exact ⟨fun z => absurd z (by decide), fun z => absurd z (by decide), fun z => absurd z (by decide), fun z => absurd z (by decide), fun _ => ⟨o, m_smooth (d := d + 2) X M k2⟩, fun _ _ _ _ z => absurd rfl z⟩
  · subst e
    exact ⟨fun z => absurd z (by decide), fun z => absurd z (by decide), fun z => absurd z (by decide), fun z => absurd z (by decide), fun z => absurd z (by decide), fun _ _ _ _ _ => ⟨o, m_change (d := d + 2) X (kk := 1) (by decide) M k2⟩⟩
theorem m_unmoved (X : MC h n l A m) (M : mvw n l A m kd x1 x2 f n' l' A') (k : ∀ h', fS 364 h h' → (f = 0 → mD h' 364 n' l' A') → Q (some (.int (nI f))) h') : ex_S yX12_unmoved mX12_unmoved (d + 3) [.ref 168, .int (nI kd), .int x1, .int x2] h bc bs Q := by
  have k2 : ∀ h', fS 364 h h' → (f = 0 → mD h' 364 n' l' A') → ∃ x4, some (Value.int (nI f)) = some (.int x4) ∧ Q (some (.int x4)) h' := fun h' F D => ⟨_, rfl, k h' F D⟩
  have o := o168 X.1
  have K := X.1
  have h40 := X.2.2.2.1
  have ev := endV K X.2.1 h40 x1
  have tv : ix x1 (4 * n) → X12_turned_V x1 2 h = cnI x1 := fun q => by
    obtain ⟨e, he, ea⟩ := ix_of q (by omega)
    rw [ea, cnI_n (by omega)]
    exact tuV 2 (by omega) (by omega) h
  refine X12_unmoved_e (X12_unmoved_0 ?_)
  rcases M with ⟨e, M⟩ | ⟨e, M⟩ | ⟨e, M⟩ | ⟨e, M⟩ | ⟨e, M⟩
  · subst e
    exact ⟨fun _ => ⟨o, m_untwist X M k2⟩, fun z => absurd z (by decide), fun z => absurd z (by decide), fun z => absurd z (by decide), fun z => absurd rfl z⟩
  · subst e
    exact ⟨fun z => absurd z (by decide), fun _ => ⟨o, m_unpoke X M k2⟩, fun z => absurd z (by decide), fun z => absurd z (by decide), fun _ z => absurd rfl z⟩
  · subst e
    refine ⟨fun z => absurd z (by decide), fun z => absurd z (by decide), fun _ => ⟨o, endC K x1, fun w => ?_, fun w => ?_⟩, fun z => absurd z (by decide), fun _ _ z => absurd rfl z⟩
    · have ef : f = 5 := by
        rcases M with ⟨-, e⟩ | ⟨x, y, z, t, -⟩
        · exact e
        · exact absurd (cnI_ix h40 (by rw [t.2.1, ix_nI (by have := t.1; omega)]; exact t.1)) (ev.mp w)
      have := k h (fS_refl _ h) (fun z => absurd z (by omega))
      rw [ef] at this
      exact this
    · rw [tv (Classical.not_not.mp (fun z => w (ev.mpr z)))]
      exact m_slide X M k2
  · subst e
    refine ⟨fun z => absurd z (by decide), fun z => absurd z (by decide), fun z => absurd z (by decide), fun _ => ⟨o, endC K x1, fun w => ?_, fun w => ?_⟩, fun _ _ _ z => absurd rfl z⟩
    · have ef : f = 5 := by
        rcases M with ⟨-, e⟩ | ⟨x, y, z, r, s, t, -⟩
        · exact e
        · exact absurd (cnI_ix h40 (by rw [t.2.1, ix_nI (by have := t.1; omega)]; exact t.1)) (ev.mp w)
      have := k h (fS_refl _ h) (fun z => absurd z (by omega))
      rw [ef] at this
      exact this
    · rw [tv (Classical.not_not.mp (fun z => w (ev.mpr z)))]
      exact m_flype X M k2
  · subst e
    exact ⟨fun z => absurd z (by decide), fun z => absurd z (by decide), fun z => absurd z (by decide), fun z => absurd z (by decide), fun _ _ _ _ => ⟨o, m_change (d := d + 1) X (kk := 3) (by decide) M k2⟩⟩
end KIND
/-! counts of arcs -/
theorem sm_add (f g : Nat → Nat) (n : Nat) : sm (fun i => f i + g i) n = sm f n + sm g n := by
  induction n with
  | zero => rfl
  | succ n ih =>
    show sm (fun i => f i + g i) n + (f n + g n) = sm f n + f n + (sm g n + g n)
    rw [ih]; omega
theorem sm_one {a : Nat} (K : Nat) (ha : a < K) : sm (fun i => if a = i then 1 else 0) K = 1 := by
  have z : ∀ k, k ≤ a → sm (fun i => if a = i then 1 else 0) k = 0 := by
    intro k
    induction k with
    | zero => intro _; rfl
    | succ k ih =>
      intro hk
      show sm (fun i => if a = i then 1 else 0) k + (if a = k then 1 else 0) = 0
      rw [ih (by omega), if_neg (by omega)]
  induction K with
  | zero => omega
  | succ K ih =>
    show sm (fun i => if a = i then 1 else 0) K + (if a = K then 1 else 0) = 1
    by_cases q : a = K
    · rw [z K (by omega), if_pos q]
    · rw [ih (by omega), if_neg q]
theorem ct_if (p : Nat → Prop) (n : Nat) (v : Nat) (hv : (p n → v = 1) ∧ (¬ p n → v = 0)) : ct p (n + 1) = ct p n + v := by
  by_cases q : p n
  · rw [ct_y q, hv.1 q]
  · rw [ct_n q, hv.2 q]; rfl
theorem sm_ct {A : Nat → Nat} (K N : Nat) (hA : ∀ e, e < N → A e < K) : sm (fun a => ct (fun e => A e = a) N) K = N := by
  induction N with
  | zero =>
    have : ∀ K, sm (fun a => ct (fun e => A e = a) 0) K = 0 := by
      intro K
      induction K with
      | zero => rfl
      | succ K ih => show sm _ K + 0 = 0; rw [ih]
    exact this K
  | succ N ih =>
    have e : sm (fun a => ct (fun e => A e = a) (N + 1)) K = sm (fun a => ct (fun e => A e = a) N + (if A N = a then 1 else 0)) K := sm_congr (fun a _ => ct_if (fun e => A e = a) N _ ⟨fun q => if_pos q, fun q => if_neg q⟩)
    rw [e, sm_add, ih (fun e he => hA e (by omega)), sm_one K (hA N (by omega))]
theorem ct_us {n : Nat} {A m : Nat → Nat} (R : Pr n A m) : ct (us n A) 100 = 2 * n := by
  have h1 := sm_ct (A := A) 100 (4 * n) (fun e he => R.A100 he)
  have pd := R.pd
  have h2 : ∀ K, K ≤ 100 → sm (fun a => ct (fun e => A e = a) (4 * n)) K = 2 * ct (us n A) K := by
    intro K
    induction K with
    | zero => intro _; rfl
    | succ K ih =>
      intro hK
      show sm (fun a => ct (fun e => A e = a) (4 * n)) K + ct (fun e => A e = K) (4 * n) = _
      rw [ih (by omega)]
      by_cases q : us n A K
      · obtain ⟨e, he, ea⟩ := q
        have := (pd e he).2
        rw [ea] at this
        rw [ct_y ⟨e, he, ea⟩, this]
        omega
      · rw [ct_n q, ct_none (p := fun e => A e = K) (fun e he w => q ⟨e, he, w⟩)]
        omega
  have := h2 100 (by omega)
  omega
theorem ct_not (p : Nat → Prop) (n : Nat) : ct p n + ct (fun x => ¬ p x) n = n := by
  induction n with
  | zero => rfl
  | succ n ih =>
    by_cases q : p n
    · rw [ct_y q, ct_n (p := fun x => ¬ p x) (fun w => w q)]; omega
    · rw [ct_n q, ct_y (p := fun x => ¬ p x) q]; omega
theorem ct_flat {p : Nat → Prop} {a b : Nat} (hab : a ≤ b) (h : ∀ x, a ≤ x → x < b → ¬ p x) : ct p b = ct p a := by
  induction b with
  | zero => rw [show a = 0 by omega]
  | succ b ih =>
    by_cases q : a = b + 1
    · rw [q]
    · rw [ct_n (h b (by omega) (by omega)), ih (by omega) (fun x h1 h2 => h x h1 (by omega))]
theorem fa_ex {u : Nat → Prop} {lo : Nat} (hlo : lo ≤ 100) (h : ct (fun x => ¬ u x) lo < ct (fun x => ¬ u x) 100) : ∃ a, fa u lo a ∧ ct (fun x => ¬ u x) (a + 1) = ct (fun x => ¬ u x) lo + 1 := by
  by_cases q : ∃ a, lo ≤ a ∧ a < 100 ∧ ¬ u a
  · obtain ⟨a, ⟨a1, a2, a3⟩, a4⟩ := pk_least _ q
    have us_ : ∀ x, lo ≤ x → x < a → u x := fun x x1 x2 => Classical.not_not.mp (fun w => a4 x x2 ⟨x1, by omega, w⟩)
    refine ⟨a, ⟨a1, a2, a3, us_⟩, ?_⟩
    rw [ct_y (p := fun x => ¬ u x) a3, ct_flat (p := fun x => ¬ u x) a1 (fun x x1 x2 w => w (us_ x x1 x2))]
  · have := ct_flat (p := fun x => ¬ u x) hlo (fun x x1 x2 w => q ⟨x, x1, x2, w⟩)
    omega
/-- four free ones, one above the other -/
theorem fa_4 {n : Nat} {A m : Nat → Nat} (R : Pr n A m) (h40 : n ≤ 40) : ∃ p q r t, fa (us n A) 0 p ∧ fa (us n A) (p + 1) q ∧ fa (us n A) (q + 1) r ∧ fa (us n A) (r + 1) t := by
  have c := ct_not (us n A) 100
  rw [ct_us R] at c
  have z : ct (fun x => ¬ us n A x) 0 = 0 := rfl
  obtain ⟨p, fp, ep⟩ := fa_ex (u := us n A) (lo := 0) (by omega) (by omega)
  obtain ⟨q, fq, eq⟩ := fa_ex (u := us n A) (lo := p + 1) (by have := fp.2.1; omega) (by omega)
  obtain ⟨r, fr, er⟩ := fa_ex (u := us n A) (lo := q + 1) (by have := fq.2.1; omega) (by omega)
  obtain ⟨t, ft, et⟩ := fa_ex (u := us n A) (lo := r + 1) (by have := fr.2.1; omega) (by omega)
  exact ⟨p, q, r, t, fp, fq, fr, ft⟩
/-- what an outcome is: of at most 40 crossings and 9 loose circles, if it comes -/
def OK (f n' l' : Nat) (A' : Nat → Nat) : Prop := (f = 0 ∨ f = 5 ∨ f = 8) ∧ (f = 0 → n' ≤ 40 ∧ l' ≤ 9 ∧ ∀ e, e < 4 * n' → A' e < 100)
section OUTC
variable {n l : Nat} {A m : Nat → Nat} (R : Pr n A m) (h40 : n ≤ 40) (h9 : l ≤ 9)
theorem apd_lt {n a b c d : Nat} {A : Nat → Nat} (hA : ∀ e, e < 4 * n → A e < 100) (ha : a < 100) (hb : b < 100) (hc : c < 100) (hd : d < 100) : ∀ e, e < 4 * (n + 1) → apd n A a b c d e < 100 := fun e he => by
  unfold apd
  split
  · next q => exact hA e q
  · split
    · exact ha
    · split
      · exact hb
      · split
        · exact hc
        · exact hd
theorem u1_lt {N x v : Nat} {A : Nat → Nat} (hA : ∀ e, e < N → A e < 100) (hv : v < 100) : ∀ e, e < N → u1 A x v e < 100 := fun e he => by
  unfold u1
  split
  · exact hv
  · exact hA e he
theorem knk_lt {s n x y z : Nat} {A : Nat → Nat} (hA : ∀ e, e < 4 * n → A e < 100) (hx : x < 100) (hy : y < 100) (hz : z < 100) : ∀ e, e < 4 * (n + 1) → knk s n A x y z e < 100 := by
  unfold knk
  split
  · exact apd_lt hA hx hy hy hz
  · split
    · exact apd_lt hA hx hz hy hy
    · split
      · exact apd_lt hA hy hy hz hx
      · exact apd_lt hA hz hy hy hx
theorem mvT_ex (R : Pr n A m) (h40 : n ≤ 40) (h9 : l ≤ 9) (a b : Int32) : ∃ f n' l' A', mvT n l A m a b f n' l' A' ∧ OK f n' l' A' := by
  have hA := fun e he => R.A100 (e := e) he
  by_cases q : ¬ ix b 4 ∨ (a = m1 ∧ l = 0) ∨ (a ≠ m1 ∧ ¬ ix a (4 * n))
  · exact ⟨5, 0, 0, A, Or.inl ⟨q, rfl⟩, Or.inr (Or.inl rfl), fun z => absurd z (by decide)⟩
  · have ib : ix b 4 := Classical.not_not.mp (fun z => q (Or.inl z))
    by_cases c : n = 40
    · refine ⟨8, 0, 0, A, Or.inr (Or.inl ⟨ib, ?_, c, rfl⟩), Or.inr (Or.inr rfl), fun z => absurd z (by decide)⟩
      by_cases w : a = m1
      · exact Or.inl ⟨w, by
          by_cases z : l = 0
          · exact absurd (Or.inr (Or.inl ⟨w, z⟩)) q
          · omega⟩
      · exact Or.inr ⟨w, Classical.not_not.mp (fun z => q (Or.inr (Or.inr ⟨w, z⟩)))⟩
    · obtain ⟨s, hs, eb⟩ := ix_of ib (by omega)
      obtain ⟨p, q', r, t, fp, fq, -⟩ := fa_4 R h40
      have := fp.2.1
      have := fq.2.1
      by_cases w : a = m1
      · have l0 : 0 < l := by
          by_cases z : l = 0
          · exact absurd (Or.inr (Or.inl ⟨w, z⟩)) q
          · omega
        exact ⟨0, n + 1, l - 1, _, Or.inr (Or.inr (Or.inl ⟨s, p, q', hs, eb, w, l0, by omega, fp, fq, rfl, rfl, rfl, rfl⟩)), Or.inl rfl, fun _ => ⟨by omega, by omega, knk_lt hA (by omega) (by omega) (by omega)⟩⟩
      · have ia : ix a (4 * n) := Classical.not_not.mp (fun z => q (Or.inr (Or.inr ⟨w, z⟩)))
        obtain ⟨e, he, ea⟩ := ix_of ia (by omega)
        exact ⟨0, n + 1, l, _, Or.inr (Or.inr (Or.inr ⟨s, e, p, q', hs, eb, he, ea, by omega, fp, fq, rfl, rfl, rfl, rfl⟩)), Or.inl rfl, fun _ => ⟨by omega, by omega, knk_lt (u1_lt hA (by omega)) (hA e he) (by omega) (by omega)⟩⟩
theorem mvK_ex (R : Pr n A m) (h40 : n ≤ 40) (h9 : l ≤ 9) (a b c : Int32) : ∃ f n' l' A', mvK n l A m a b c f n' l' A' ∧ OK f n' l' A' := by
  have hA := fun e he => R.A100 (e := e) he
  by_cases q : NK n A m a b c
  · exact ⟨5, 0, 0, A, Or.inl ⟨q, rfl⟩, Or.inr (Or.inl rfl), fun z => absurd z (by decide)⟩
  · have ia : ix a (4 * n) := Classical.not_not.mp (fun z => q (Or.inl z))
    have ib : ix b (4 * n) := Classical.not_not.mp (fun z => q (Or.inr (Or.inl z)))
    have ic : ix c 2 := Classical.not_not.mp (fun z => q (Or.inr (Or.inr (Or.inl z))))
    obtain ⟨e, he, ea⟩ := ix_of ia (by omega)
    obtain ⟨g, hg, eb⟩ := ix_of ib (by omega)
    obtain ⟨s, hs, ec⟩ := ix_of ic (by omega)
    have ne : A e ≠ A g := fun z => q (Or.inr (Or.inr (Or.inr ⟨e, g, he, hg, ea, eb, Or.inl z⟩)))
    have ow : ob (fun e => cn (m e) 3) e g := Classical.not_not.mp (fun z => q (Or.inr (Or.inr (Or.inr ⟨e, g, he, hg, ea, eb, Or.inr z⟩))))
    by_cases w : n ≤ 38
    · obtain ⟨p, q', r, t, fp, fq, fr, ft⟩ := fa_4 R h40
      have h1 := fp.2.1
      have h2 := fq.2.1
      have h3 := fr.2.1
      have h4 := ft.2.1
      refine ⟨0, n + 2, l, _, Or.inr (Or.inr ⟨e, g, s, p, q', r, t, he, hg, ea, eb, hs, ec, ne, ow, w, fp, fq, fr, ft, rfl, rfl, rfl, rfl⟩), Or.inl rfl, fun _ => ⟨by omega, by omega, ?_⟩⟩
      have hB := u1_lt (x := m g) (u1_lt (x := m e) hA h2) h4
      have qe := hA e he
      have qg := hA g hg
      unfold pok
      split
      · exact apd_lt (apd_lt hB h3 h1 h4 qe) qg h1 h3 h2
      · exact apd_lt (apd_lt hB qe h3 h1 h4) h2 qg h1 h3
    · exact ⟨8, 0, 0, A, Or.inr (Or.inl ⟨e, g, he, hg, ea, eb, ic, ne, ow, by omega, rfl⟩), Or.inr (Or.inr rfl), fun z => absurd z (by decide)⟩
theorem if9 (l : Nat) : ((if l ≤ 9 then 0 else 8) = 0 ∨ (if l ≤ 9 then 0 else 8) = 5 ∨ (if l ≤ 9 then 0 else 8) = 8) ∧ ((if l ≤ 9 then 0 else 8) = 0 → l ≤ 9) := by
  by_cases q : l ≤ 9
  · rw [if_pos q]; exact ⟨Or.inl rfl, fun _ => q⟩
  · rw [if_neg q]; exact ⟨Or.inr (Or.inr rfl), fun z => absurd z (by decide)⟩
theorem mvU_ex (R : Pr n A m) (h40 : n ≤ 40) (a : Int32) : ∃ f n' l' A', mvU n l A m a f n' l' A' ∧ OK f n' l' A' := by
  have hA := fun e he => R.A100 (e := e) he
  by_cases q : ∃ e, e < 4 * n ∧ a = nI e ∧ m e = cn e 1
  · obtain ⟨e, he, ea, me⟩ := q
    exact ⟨_, _, _, _, Or.inr ⟨e, he, ea, me, rfl, rfl, rfl, rfl⟩, (if9 _).1, fun z => ⟨by omega, (if9 _).2 z, rmv_lt (jn_lt hA (hA _ (cn_lt 2 he))) (by omega)⟩⟩
  · exact ⟨5, 0, 0, A, Or.inl ⟨q, rfl⟩, Or.inr (Or.inl rfl), fun z => absurd z (by decide)⟩
theorem mvP_ex (R : Pr n A m) (h40 : n ≤ 40) (a : Int32) : ∃ f n' l' A', mvP n l A m a f n' l' A' ∧ OK f n' l' A' := by
  have hA := fun e he => R.A100 (e := e) he
  by_cases q : ∃ e, e < 4 * n ∧ a = nI e ∧ lens m e
  · obtain ⟨e, he, ea, me⟩ := q
    have hml := R.lt he
    have hne := me.2.1
    have h1 := jn_lt (z := A (cn (m e) 2)) hA (hA _ (cn_lt 2 he))
    exact ⟨_, _, _, _, Or.inr ⟨e, he, ea, me, _, _, rfl, rfl, rfl, rfl, rfl, rfl⟩, (if9 _).1, fun z => ⟨by omega, (if9 _).2 z, rmv_lt (rmv_lt (jn_lt h1 (h1 _ (cn_lt 3 he))) (by omega)) (by omega)⟩⟩
  · exact ⟨5, 0, 0, A, Or.inl ⟨q, rfl⟩, Or.inr (Or.inl rfl), fun z => absurd z (by decide)⟩
theorem sld_lt {N x o : Nat} {A0 B : Nat → Nat} (hB : ∀ e, e < N → B e < 100) (h1 : A0 (cn o 2) < 100) (h2 : A0 x < 100) (h3 : A0 (cn x 2) < 100) : ∀ e, e < N → sld1 A0 B x o e < 100 := u1_lt (u1_lt (u1_lt (u1_lt hB h1) h2) h3) h2
theorem mvS_ex (R : Pr n A m) (h40 : n ≤ 40) (h9 : l ≤ 9) (a : Int32) : ∃ f n' l' A', mvS n l A m a f n' l' A' ∧ OK f n' l' A' := by
  have hA := fun e he => R.A100 (e := e) he
  by_cases q : ∃ x y z, tri n m a x y z
  · obtain ⟨x, y, z, t⟩ := q
    have hx := t.1
    have hy : y < 4 * n := by rw [t.2.2.1]; exact cn_lt 3 (R.lt hx)
    have hz : z < 4 * n := by rw [t.2.2.2.1]; exact cn_lt 3 (R.lt hy)
    have sl_ : ∀ {B : Nat → Nat} {x : Nat}, (∀ e, e < 4 * n → B e < 100) → x < 4 * n → ∀ e, e < 4 * n → sld1 A B x (m x) e < 100 := fun hB hx => sld_lt hB (hA _ (cn_lt 2 (R.lt hx))) (hA _ hx) (hA _ (cn_lt 2 hx))
    exact ⟨0, n, l, _, Or.inr ⟨x, y, z, t, rfl, rfl, rfl, rfl⟩, Or.inl rfl, fun _ => ⟨h40, h9, sl_ (sl_ (sl_ hA hx) hy) hz⟩⟩
  · exact ⟨5, 0, 0, A, Or.inl ⟨q, rfl⟩, Or.inr (Or.inl rfl), fun z => absurd z (by decide)⟩
theorem mvF_ex (R : Pr n A m) (h40 : n ≤ 40) (h9 : l ≤ 9) (a B : Int32) : ∃ f n' l' A', mvF n l A m a B f n' l' A' ∧ OK f n' l' A' := by
  have hA := fun e he => R.A100 (e := e) he
  by_cases q : ∃ e w v r s, flyp n m a B e w v r s
  · obtain ⟨e, w, v, r, s, t⟩ := q
    have he := t.1
    have hr := t.2.2.2.2.2.2.2.2.2.2.2.1
    have hs := t.2.2.2.2.2.2.2.2.2.2.2.2.1
    have k1 := hA _ (cn_lt 1 he)
    have k2 := hA _ (cn_lt 2 he)
    have k3 := hA _ (cn_lt 3 he)
    have hp : ∀ x, x < 4 * n → pas A e w v r s x < 100 := u1_lt (u1_lt (u1_lt (u1_lt (u1_lt (u1_lt (u1_lt (u1_lt hA (hA _ hs)) (hA _ hr)) (hA _ he)) k1) k2) k3) (hA _ he)) k1
    refine ⟨0, n, l, _, Or.inr ⟨e, w, v, r, s, t, rfl, rfl, rfl, rfl⟩, Or.inl rfl, fun _ => ⟨h40, h9, fun x hx => ?_⟩⟩
    unfold tvs
    split
    · split
      · exact hp _ (by omega)
      · exact hp _ (by omega)
    · exact hp x hx
  · exact ⟨5, 0, 0, A, Or.inl ⟨q, rfl⟩, Or.inr (Or.inl rfl), fun z => absurd z (by decide)⟩
theorem mvM_ex (R : Pr n A m) (h40 : n ≤ 40) (a b : Int32) : ∃ f n' l' A', mvM n l A a b f n' l' A' ∧ OK f n' l' A' := by
  have hA := fun e he => R.A100 (e := e) he
  by_cases q : ¬ ix a n ∨ ¬ ix b 2
  · exact ⟨5, 0, 0, A, Or.inl ⟨q, rfl⟩, Or.inr (Or.inl rfl), fun z => absurd z (by decide)⟩
  · have ia : ix a n := Classical.not_not.mp (fun z => q (Or.inl z))
    have ib : ix b 2 := Classical.not_not.mp (fun z => q (Or.inr z))
    obtain ⟨c, hc, ea⟩ := ix_of ia (by omega)
    obtain ⟨s, hs, eb⟩ := ix_of ib (by omega)
    have h1 := jn_lt (z := A (4 * c + (if s = 0 then 1 else 3))) hA (hA (4 * c) (by omega))
    exact ⟨_, _, _, _, Or.inr ⟨c, s, _, _, _, _, hc, ea, hs, eb, rfl, rfl, rfl, rfl, rfl, rfl, rfl, rfl⟩, (if9 _).1, fun z => ⟨by omega, (if9 _).2 z, rmv_lt (jn_lt h1 (h1 _ (by split <;> omega))) hc⟩⟩
theorem mvC_ex (R : Pr n A m) (h40 : n ≤ 40) (h9 : l ≤ 9) (k : Nat) (a : Int32) : ∃ f n' l' A', mvC n l A k a f n' l' A' ∧ OK f n' l' A' := by
  have hA := fun e he => R.A100 (e := e) he
  by_cases q : ix a n
  · obtain ⟨c, hc, ea⟩ := ix_of q (by omega)
    refine ⟨0, n, l, _, Or.inr ⟨c, hc, ea, rfl, rfl, rfl, rfl⟩, Or.inl rfl, fun _ => ⟨h40, h9, fun x hx => ?_⟩⟩
    unfold rot
    split
    · exact hA _ (by omega)
    · exact hA x hx
  · exact ⟨5, 0, 0, A, Or.inl ⟨q, rfl⟩, Or.inr (Or.inl rfl), fun z => absurd z (by decide)⟩
theorem mvr_ex (R : Pr n A m) (h40 : n ≤ 40) (h9 : l ≤ 9) {kd : Nat} (hk : kd < 6) (a b c : Int32) : ∃ f n' l' A', mvr n l A m kd a b c f n' l' A' ∧ OK f n' l' A' := by
  rcases (show kd = 0 ∨ kd = 1 ∨ kd = 2 ∨ kd = 3 ∨ kd = 4 ∨ kd = 5 by omega) with e | e | e | e | e | e
  · obtain ⟨f, n', l', A', M, o⟩ := mvT_ex R h40 h9 a b
    exact ⟨f, n', l', A', Or.inl ⟨e, M⟩, o⟩
  · obtain ⟨f, n', l', A', M, o⟩ := mvK_ex R h40 h9 a b c
    exact ⟨f, n', l', A', Or.inr (Or.inl ⟨e, M⟩), o⟩
  · obtain ⟨f, n', l', A', M, o⟩ := mvS_ex R h40 h9 a
    exact ⟨f, n', l', A', Or.inr (Or.inr (Or.inl ⟨e, M⟩)), o⟩
  · obtain ⟨f, n', l', A', M, o⟩ := mvF_ex R h40 h9 a b
    exact ⟨f, n', l', A', Or.inr (Or.inr (Or.inr (Or.inl ⟨e, M⟩))), o⟩
  · obtain ⟨f, n', l', A', M, o⟩ := mvM_ex (l := l) R h40 a b
    exact ⟨f, n', l', A', Or.inr (Or.inr (Or.inr (Or.inr (Or.inl ⟨e, M⟩)))), o⟩
  · obtain ⟨f, n', l', A', M, o⟩ := mvC_ex R h40 h9 1 a
    exact ⟨f, n', l', A', Or.inr (Or.inr (Or.inr (Or.inr (Or.inr ⟨e, M⟩)))), o⟩
theorem mvw_ex (R : Pr n A m) (h40 : n ≤ 40) (h9 : l ≤ 9) {kd : Nat} (hk : kd < 6) (h4 : kd ≠ 4) (a b : Int32) : ∃ f n' l' A', mvw n l A m kd a b f n' l' A' ∧ OK f n' l' A' := by
  rcases (show kd = 0 ∨ kd = 1 ∨ kd = 2 ∨ kd = 3 ∨ kd = 5 by omega) with e | e | e | e | e
  · obtain ⟨f, n', l', A', M, o⟩ := mvU_ex (l := l) R h40 a
    exact ⟨f, n', l', A', Or.inl ⟨e, M⟩, o⟩
  · obtain ⟨f, n', l', A', M, o⟩ := mvP_ex (l := l) R h40 a
    exact ⟨f, n', l', A', Or.inr (Or.inl ⟨e, M⟩), o⟩
  · obtain ⟨f, n', l', A', M, o⟩ := mvS_ex R h40 h9 (cnI a)
    exact ⟨f, n', l', A', Or.inr (Or.inr (Or.inl ⟨e, M⟩)), o⟩
  · obtain ⟨f, n', l', A', M, o⟩ := mvF_ex R h40 h9 (cnI a) b
    exact ⟨f, n', l', A', Or.inr (Or.inr (Or.inr (Or.inl ⟨e, M⟩))), o⟩
  · obtain ⟨f, n', l', A', M, o⟩ := mvC_ex R h40 h9 3 a
    exact ⟨f, n', l', A', Or.inr (Or.inr (Or.inr (Or.inr ⟨e, M⟩))), o⟩
end OUTC
