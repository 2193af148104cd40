/-! check: steps one after another. -/
section SLIDE
variable {n : Nat} {A B m : Nat → Nat}
theorem cyc_Pd {x x2 o o2 : Nat} {A' : Nat → Nat} (R : Pr n B m) (hx : x < 4 * n) (hx2 : x2 < 4 * n) (ho : o < 4 * n) (ho2 : o2 < 4 * n) (d1 : x ≠ x2) (d2 : x ≠ o) (d3 : x ≠ o2) (d4 : x2 ≠ o) (d5 : x2 ≠ o2) (d6 : o ≠ o2) (v1 : A' x = B o2) (v2 : A' x2 = B x) (v3 : A' o = B x2) (v4 : A' o2 = B o) (v5 : ∀ e, e ≠ x → e ≠ x2 → e ≠ o → e ≠ o2 → A' e = B e) : ∃ m', Pr n A' m' := by
  have all : ∀ e, e = x ∨ e = x2 ∨ e = o ∨ e = o2 ∨ (e ≠ x ∧ e ≠ x2 ∧ e ≠ o ∧ e ≠ o2) := fun e => by omega
  obtain ⟨s, s1, s2, s3, s4, s5⟩ : ∃ s : Nat → Nat, s x = o2 ∧ s x2 = x ∧ s o = x2 ∧ s o2 = o ∧ ∀ e, e ≠ x → e ≠ x2 → e ≠ o → e ≠ o2 → s e = e := ⟨fun e => if e = x then o2 else if e = x2 then x else if e = o then x2 else if e = o2 then o else e, if_pos rfl, by
    show (if x2 = x then _ else _) = _
    rw [if_neg (Ne.symm d1), if_pos rfl], by
    show (if o = x then _ else _) = _
    rw [if_neg (Ne.symm d2), if_neg (Ne.symm d4), if_pos rfl], by
    show (if o2 = x then _ else _) = _
    rw [if_neg (Ne.symm d3), if_neg (Ne.symm d5), if_neg (Ne.symm d6), if_pos rfl], fun e e1 e2 e3 e4 => by
    show (if e = x then _ else _) = _
    rw [if_neg e1, if_neg e2, if_neg e3, if_neg e4]⟩
  obtain ⟨t, t1, t2, t3, t4, t5⟩ : ∃ t : Nat → Nat, t o2 = x ∧ t x = x2 ∧ t x2 = o ∧ t o = o2 ∧ ∀ e, e ≠ x → e ≠ x2 → e ≠ o → e ≠ o2 → t e = e := ⟨fun e => if e = o2 then x else if e = x then x2 else if e = x2 then o else if e = o then o2 else e, if_pos rfl, by
    show (if x = o2 then _ else _) = _
    rw [if_neg d3, if_pos rfl], by
    show (if x2 = o2 then _ else _) = _
    rw [if_neg d5, if_neg (Ne.symm d1), if_pos rfl], by
    show (if o = o2 then _ else _) = _
    rw [if_neg d6, if_neg (Ne.symm d2), if_neg (Ne.symm d4), if_pos rfl], fun e e1 e2 e3 e4 => by
    show (if e = o2 then _ else _) = _
    rw [if_neg e4, if_neg e1, if_neg e2, if_neg e3]⟩
  refine ⟨_, Pr_perm (s := s) (t := t) R (fun e he => ?_) (fun e he => ?_) (fun e he => ?_) (fun e he => ?_) (fun e he => ?_)⟩
  · rcases all e with q | q | q | q | ⟨q1, q2, q3, q4⟩
    · rw [q, s1]; exact ho2
    · rw [q, s2]; exact hx
    · rw [q, s3]; exact hx2
    · rw [q, s4]; exact ho
    · rw [s5 e q1 q2 q3 q4]; exact he
  · rcases all e with q | q | q | q | ⟨q1, q2, q3, q4⟩
    · rw [q, t2]; exact hx2
    · rw [q, t3]; exact ho
    · rw [q, t4]; exact ho2
    · rw [q, t1]; exact hx
    · rw [t5 e q1 q2 q3 q4]; exact he
  · rcases all e with q | q | q | q | ⟨q1, q2, q3, q4⟩
    · rw [q, t2, s2]
    · rw [q, t3, s3]
    · rw [q, t4, s4]
    · rw [q, t1, s1]
    · rw [t5 e q1 q2 q3 q4, s5 e q1 q2 q3 q4]
  · rcases all e with q | q | q | q | ⟨q1, q2, q3, q4⟩
    · rw [q, s1, t1]
    · rw [q, s2, t2]
    · rw [q, s3, t3]
    · rw [q, s4, t4]
    · rw [s5 e q1 q2 q3 q4, t5 e q1 q2 q3 q4]
  · rcases all e with q | q | q | q | ⟨q1, q2, q3, q4⟩
    · rw [q, s1]; exact v1
    · rw [q, s2]; exact v2
    · rw [q, s3]; exact v3
    · rw [q, s4]; exact v4
    · rw [s5 e q1 q2 q3 q4]; exact v5 e q1 q2 q3 q4
theorem sld_Pd {x o : Nat} (R : Pr n B m) (hx : x < 4 * n) (ho : o < 4 * n) (N : x / 4 ≠ o / 4) (e1 : A x = B x) (e2 : A (cn x 2) = B (cn x 2)) (e3 : A (cn o 2) = B (cn o 2)) (e4 : A x = B o) : ∃ m', Pr n (sld1 A B x o) m' := by
  have k2 := cn_lt 2 hx
  have j2 := cn_lt 2 ho
  have d1 : x ≠ cn x 2 := cn_n0' x (by decide)
  have d2 : x ≠ o := cn_nd N
  have d3 : x ≠ cn o 2 := cn_nd (by rw [cn_div]; exact N)
  have d4 : cn x 2 ≠ o := cn_nd (by rw [cn_div]; exact N)
  have d5 : cn x 2 ≠ cn o 2 := cn_nd (by rw [cn_div, cn_div]; exact N)
  have d6 : o ≠ cn o 2 := cn_n0' o (by decide)
  refine cyc_Pd R hx k2 ho j2 d1 d2 d3 d4 d5 d6 ?_ ?_ ?_ ?_ (fun e q1 q2 q3 q4 => ?_)
  · unfold sld1
    rw [u1_n _ _ d3, u1_n _ _ d2, u1_n _ _ d1, u1_s]; exact e3
  · unfold sld1
    rw [u1_n _ _ d5, u1_n _ _ d4, u1_s]; exact e1
  · unfold sld1
    rw [u1_n _ _ d6, u1_s]; exact e2
  · unfold sld1
    rw [u1_s]; exact e4
  · unfold sld1
    rw [u1_n _ _ q4, u1_n _ _ q3, u1_n _ _ q2, u1_n _ _ q1]
theorem sld_o {x o e : Nat} (q1 : e ≠ x) (q2 : e ≠ cn x 2) (q3 : e ≠ o) (q4 : e ≠ cn o 2) : sld1 A B x o e = B e := by
  unfold sld1
  rw [u1_n _ _ q4, u1_n _ _ q3, u1_n _ _ q2, u1_n _ _ q1]
theorem cn_inv {x y : Nat} (h : y = cn x 3) : x = cn y 1 := by
  rw [h, cn_cn]
  exact (cn_4 x 0 ▸ (cn_0 x).symm)
theorem mvS_Pd {l n' l' : Nat} {A' : Nat → Nat} {a : Int32} (R : Pr n A m) (M : mvS n l A m a 0 n' l' A') : ∃ m', Pr n' A' m' := by
  rcases M with ⟨-, e⟩ | ⟨x, y, z, ⟨hx, -, ey, ez, ex, t2, t3, t4, -⟩, -, e1, -, e3⟩
  · omega
  · have hmx := R.lt hx
    have hy : y < 4 * n := by rw [ey]; exact cn_lt 3 hmx
    have hmy := R.lt hy
    have hz : z < 4 * n := by rw [ez]; exact cn_lt 3 hmy
    have hmz := R.lt hz
    have mx := cn_inv ey
    have my := cn_inv ez
    have mz := cn_inv ex.symm
    have ax := R.ar hx
    have ay := R.ar hy
    have az := R.ar hz
    rw [mx] at ax hmx
    rw [my] at ay hmy
    rw [mz] at az hmz
    rw [mx, my, mz] at e3
    subst e1
    have c2 : ∀ u, cn (cn u 1) 2 = cn u 3 := fun u => by rw [cn_cn]
    have s2 := t2.symm
    have s3 := t3.symm
    have s4 := t4.symm
    obtain ⟨m1_, R1⟩ := sld_Pd (A := A) R hx hmx (by rw [cn_div]; exact t2) rfl rfl rfl ax.symm
    have o1 : ∀ e, e ≠ x → e ≠ cn x 2 → e ≠ cn y 1 → e ≠ cn y 3 → sld1 A A x (cn y 1) e = A e := fun e q1 q2 q3 q4 => sld_o q1 q2 q3 (by rw [c2]; exact q4)
    have b1 : sld1 A A x (cn y 1) y = A y := o1 _ (cn_nd s2) (cn_nd (by rw [cn_div]; exact s2)) (cn_n0' y (by decide)) (cn_n0' y (by decide))
    have b2 : sld1 A A x (cn y 1) (cn y 2) = A (cn y 2) := o1 _ (cn_nd (by rw [cn_div]; exact s2)) (cn_nd (by rw [cn_div, cn_div]; exact s2)) (cn_n2 y (by decide)) (cn_n2 y (by decide))
    have b3 : sld1 A A x (cn y 1) (cn z 1) = A (cn z 1) := o1 _ (cn_nd (by rw [cn_div]; exact t4)) (cn_nd (by rw [cn_div, cn_div]; exact t4)) (cn_nd (by rw [cn_div, cn_div]; exact s3)) (cn_nd (by rw [cn_div, cn_div]; exact s3))
    have b4 : sld1 A A x (cn y 1) (cn z 3) = A (cn z 3) := o1 _ (cn_nd (by rw [cn_div]; exact t4)) (cn_nd (by rw [cn_div, cn_div]; exact t4)) (cn_nd (by rw [cn_div, cn_div]; exact s3)) (cn_nd (by rw [cn_div, cn_div]; exact s3))
    have b5 : sld1 A A x (cn y 1) z = A z := o1 _ (cn_nd t4) (cn_nd (by rw [cn_div]; exact t4)) (cn_nd (by rw [cn_div]; exact s3)) (cn_nd (by rw [cn_div]; exact s3))
    have b6 : sld1 A A x (cn y 1) (cn z 2) = A (cn z 2) := o1 _ (cn_nd (by rw [cn_div]; exact t4)) (cn_nd (by rw [cn_div, cn_div]; exact t4)) (cn_nd (by rw [cn_div, cn_div]; exact s3)) (cn_nd (by rw [cn_div, cn_div]; exact s3))
    have b7 : sld1 A A x (cn y 1) (cn x 1) = A (cn x 1) := o1 _ (cn_n0 x (by decide)) (cn_n2 x (by decide)) (cn_nd (by rw [cn_div, cn_div]; exact t2)) (cn_nd (by rw [cn_div, cn_div]; exact t2))
    have b8 : sld1 A A x (cn y 1) (cn x 3) = A (cn x 3) := o1 _ (cn_n0 x (by decide)) (cn_n2 x (by decide)) (cn_nd (by rw [cn_div, cn_div]; exact t2)) (cn_nd (by rw [cn_div, cn_div]; exact t2))
    obtain ⟨B1, eB1⟩ : ∃ B1, B1 = sld1 A A x (cn y 1) := ⟨_, rfl⟩
    rw [← eB1] at R1 b1 b2 b3 b4 b5 b6 b7 b8 e3
    obtain ⟨m2_, R2⟩ := sld_Pd (A := A) R1 hy hmy (by rw [cn_div]; exact t3) b1.symm b2.symm (by rw [c2]; exact b4.symm) (by rw [b3]; exact ay.symm)
    have o2 : ∀ e, e ≠ y → e ≠ cn y 2 → e ≠ cn z 1 → e ≠ cn z 3 → sld1 A B1 y (cn z 1) e = B1 e := fun e q1 q2 q3 q4 => sld_o q1 q2 q3 (by rw [c2]; exact q4)
    have g1 : sld1 A B1 y (cn z 1) z = A z := by
      rw [← b5]
      exact o2 _ (cn_nd s3) (cn_nd (by rw [cn_div]; exact s3)) (cn_n0' z (by decide)) (cn_n0' z (by decide))
    have g2 : sld1 A B1 y (cn z 1) (cn z 2) = A (cn z 2) := by
      rw [← b6]
      exact o2 _ (cn_nd (by rw [cn_div]; exact s3)) (cn_nd (by rw [cn_div, cn_div]; exact s3)) (cn_n2 z (by decide)) (cn_n2 z (by decide))
    have g3 : sld1 A B1 y (cn z 1) (cn x 1) = A (cn x 1) := by
      rw [← b7]
      exact o2 _ (cn_nd (by rw [cn_div]; exact t2)) (cn_nd (by rw [cn_div, cn_div]; exact t2)) (cn_nd (by rw [cn_div, cn_div]; exact s4)) (cn_nd (by rw [cn_div, cn_div]; exact s4))
    have g4 : sld1 A B1 y (cn z 1) (cn x 3) = A (cn x 3) := by
      rw [← b8]
      exact o2 _ (cn_nd (by rw [cn_div]; exact t2)) (cn_nd (by rw [cn_div, cn_div]; exact t2)) (cn_nd (by rw [cn_div, cn_div]; exact s4)) (cn_nd (by rw [cn_div, cn_div]; exact s4))
    obtain ⟨m3_, R3⟩ := sld_Pd (A := A) R2 hz hmz (by rw [cn_div]; exact t4) g1.symm g2.symm (by rw [c2]; exact g4.symm) (by rw [g3]; exact az.symm)
    rw [e3]
    exact ⟨m3_, R3⟩
end SLIDE
/-! A step by its number. -/
def stp (w : Int32) (n l : Nat) (A m : Nat → Nat) (f n' l' : Nat) (A' : Nat → Nat) : Prop := (im_ w 3 = 0 ∧ mvU n l A m (w / 3) f n' l' A') ∨ (im_ w 3 ≠ 0 ∧ im_ w 3 = 1 ∧ mvP n l A m (w / 3) f n' l' A') ∨ (im_ w 3 ≠ 0 ∧ im_ w 3 ≠ 1 ∧ mvS n l A m (w / 3) f n' l' A')
theorem stp_ex {n l : Nat} {A m : Nat → Nat} (R : Pr n A m) (h40 : n ≤ 40) (h9 : l ≤ 9) (w : Int32) : ∃ f n' l' A', stp w n l A m f n' l' A' ∧ OK f n' l' A' ∧ (f = 0 → ∃ m', Pr n' A' m') := by
  by_cases q : im_ w 3 = 0
  · obtain ⟨f, n', l', A', M, O⟩ := mvU_ex (l := l) R h40 (w / 3)
    exact ⟨f, n', l', A', Or.inl ⟨q, M⟩, O, fun z => by subst z; exact mvU_Pd R M⟩
  · by_cases q1 : im_ w 3 = 1
    · obtain ⟨f, n', l', A', M, O⟩ := mvP_ex (l := l) R h40 (w / 3)
      exact ⟨f, n', l', A', Or.inr (Or.inl ⟨q, q1, M⟩), O, fun z => by subst z; exact mvP_Pd R M⟩
    · obtain ⟨f, n', l', A', M, O⟩ := mvS_ex (l := l) R h40 h9 (w / 3)
      exact ⟨f, n', l', A', Or.inr (Or.inr ⟨q, q1, M⟩), O, fun z => by subst z; exact mvS_Pd R M⟩
/-- steps V k, V (k + 1), .. , j of them -/
def rn (V : Nat → Int32) : Nat → Nat → Nat → Nat → (Nat → Nat) → Nat → Nat → Nat → (Nat → Nat) → Prop
  | 0, _, n, l, A, f, n', l', A' => f = 0 ∧ n' = n ∧ l' = l ∧ A' = A ∧ n ≤ 40 ∧ l ≤ 9 ∧ ∃ m, Pr n A m
  | j + 1, k, n, l, A, f, n', l', A' => ∃ m f1 n1 l1 A1, Pr n A m ∧ n ≤ 40 ∧ l ≤ 9 ∧ stp (V k) n l A m f1 n1 l1 A1 ∧ ((f1 ≠ 0 ∧ f1 ≤ 9 ∧ f = f1) ∨ (f1 = 0 ∧ rn V j (k + 1) n1 l1 A1 f n' l' A'))
theorem rn_ex (V : Nat → Int32) : ∀ (j k n l : Nat) (A m : Nat → Nat), Pr n A m → n ≤ 40 → l ≤ 9 → ∃ f n' l' A', rn V j k n l A f n' l' A' ∧ (f = 0 → n' ≤ 40 ∧ l' ≤ 9 ∧ ∃ m', Pr n' A' m') := by
  intro j
  induction j with
  | zero => exact fun k n l A m R h40 h9 => ⟨0, n, l, A, ⟨rfl, rfl, rfl, rfl, h40, h9, m, R⟩, fun _ => ⟨h40, h9, m, R⟩⟩
  | succ j ih =>
    intro k n l A m R h40 h9
    obtain ⟨f1, n1, l1, A1, s, ⟨o1, o2⟩, o3⟩ := stp_ex R h40 h9 (V k)
    by_cases q : f1 = 0
    · obtain ⟨m', R'⟩ := o3 q
      obtain ⟨h40', h9', -⟩ := o2 q
      obtain ⟨f, n', l', A', r, z⟩ := ih (k + 1) n1 l1 A1 m' R' h40' h9'
      exact ⟨f, n', l', A', ⟨m, f1, n1, l1, A1, R, h40, h9, s, Or.inr ⟨q, r⟩⟩, z⟩
    · exact ⟨f1, 0, 0, A, ⟨m, f1, n1, l1, A1, R, h40, h9, s, Or.inl ⟨q, by omega, rfl⟩⟩, fun z => absurd z q⟩
section CHECK
variable {h h1 h2 h3 h9 hx hz : AH} {d bc bs : Nat} {Q : Option Value → AH → Prop} {W : Nat → Nat} {N : Nat} {B : Nat → Nat} {S : Nat → Int32} {len : Nat}
theorem ans1 {f : Nat} (h : f ≤ 9) : ans f = 1 ↔ f = 0 := by
  unfold ans
  by_cases q : f = 0
  · rw [if_pos q]; exact ⟨fun _ => q, fun _ => rfl⟩
  · rw [if_neg q]
    refine ⟨fun z => absurd z ?_, fun z => absurd z q⟩
    have := (by decide : ∀ f, f < 10 → -nI (10 + f) ≠ 1) f (by omega)
    exact this
theorem stp_f {w : Int32} {n l f n' l' : Nat} {A m A' : Nat → Nat} (s : stp w n l A m f n' l' A') : f = 0 ∨ f = 5 ∨ f = 8 := by
  have z : ∀ x : Nat, (if x ≤ 9 then 0 else 8) = 0 ∨ (if x ≤ 9 then 0 else 8) = 5 ∨ (if x ≤ 9 then 0 else 8) = 8 := fun x => (if9 x).1
  rcases s with ⟨-, M⟩ | ⟨-, -, M⟩ | ⟨-, -, M⟩
  · rcases M with ⟨-, e⟩ | ⟨e, -, -, -, ef, -⟩
    · omega
    · rw [ef]; exact z _
  · rcases M with ⟨-, e⟩ | ⟨e, -, -, -, A1, l1, -, -, ef, -⟩
    · omega
    · rw [ef]; exact z _
  · rcases M with ⟨-, e⟩ | ⟨x, y, z, -, ef, -⟩
    · omega
    · omega
theorem c_takeStep {b lb n l f n' l' : Nat} {A m A' : Nat → Nat} {w : Int32} (X : DC h b lb n l A m) (M : stp w n l A m f n' l' A') (k : ∀ h', fr [b, b + 1, b + 2] h h' → (f = 0 → cD h' b n' l' A') → Q (some (.int (if f = 0 then 1 else 0))) h') : ex_S yX5_takeStep mX5_takeStep (d + 4) [.ref b, .ref lb, .int w] h bc bs Q := by
  have f9 : f ≤ 9 := by have := stp_f M; omega
  have a1 := ans1 f9
  refine X5_takeStep_e (X5_takeStep_0 (fun x1 e1 => ?_))
  subst e1
  have key : ∀ h', fr [b, b + 1, b + 2] h h' → (f = 0 → cD h' b n' l' A') → ∃ x4, some (Value.int (ans f)) = some (.int x4) ∧ ((¬ x4 = 1 → Q (some (.int 0)) h') ∧ (x4 = 1 → Q (some (.int 1)) h')) := fun h' F D => ⟨_, rfl, fun q => by
    have := k h' F D
    rw [if_neg (fun z => q (a1.mpr z))] at this
    exact this, fun q => by
    have := k h' F D
    rw [if_pos (a1.mp q)] at this
    exact this⟩
  refine ⟨fun q => ?_, fun q => ?_, fun q q1 => ?_⟩
  · rcases M with ⟨-, M⟩ | ⟨n1, -, M⟩ | ⟨n1, -, M⟩
    · exact c_untwist X M key
    · exact absurd q n1
    · exact absurd q n1
  · rcases M with ⟨n1, M⟩ | ⟨-, n1, M⟩ | ⟨-, n1, M⟩
    · rw [n1] at q; exact absurd q (by decide)
    · exact c_unpoke X M key
    · exact absurd q n1
  · rcases M with ⟨n1, M⟩ | ⟨-, n1, M⟩ | ⟨-, n1, M⟩
    · exact absurd n1 q
    · exact absurd n1 q1
    · exact c_slide X M key
theorem c_goWays {V : Nat → Int32} {f n' l' : Nat} {A' : Nat → Nat} : ∀ (j k n l : Nat) (A : Nat → Nat) (h : AH), sp h → cD h 29 n l A → ah_f h 134 1 = nI (k + j) → k + j ≤ 100 → (∀ i, i < k + j → ah_i h 135 i = V i) → rn V j k n l A f n' l' A' → (∀ h', fr [7, 8, 17, 29, 30, 31] h h' → (f = 0 → cD h' 29 n' l' A') → Q (some (.int (if f = 0 then 1 else 0))) h') → ex_G mX11_goWays (d + 5) 2 [.ref 0, .int (nI k)] [] h bc bs Q := by
  intro j
  induction j with
  | zero =>
    rintro k n l A h K D hk h100 hV ⟨rfl, rfl, rfl, rfl, -⟩ kk
    refine X11_goWays_2 ⟨o0 K, 125, r0_12 K, o125 K, 134, r125_3 K, o134 K, fun _ => ?_, fun w => ?_⟩
    · have := kk h (fr_refl _ h) (fun _ => D)
      rw [if_pos rfl] at this
      exact this
    · rw [hk, nI_leI (by omega) (by omega)] at w
      omega
  | succ j ih =>
    rintro k n l A h K D hk h100 hV ⟨m, f1, n1, l1, A1, R, h40, h9, s, z⟩ kk
    refine X11_goWays_2 ⟨o0 K, 125, r0_12 K, o125 K, 134, r125_3 K, o134 K, fun w => ?_, fun _ => ⟨7, r0_4 K, 29, r0_6 K, o7 K, ?_⟩⟩
    · rw [hk, nI_leI (by omega) (by omega)] at w
      omega
    refine c_pairUp (d := d + 3) (lk7 K) (pt29 K) (Or.inr (by omega)) D.1 D.2.1 h40 D.2.2.2 R (fun h' F1 g1 g2 g3 g4 => ⟨rfl, ?_⟩)
    have K1 := sp_fr K F1
    have D1 : cD h' 29 n l A := cD_sc D F1 (by decide)
    have X : DC h' 29 7 n l A m := ⟨pt29 K1, lk7 K1, Or.inr (by omega), D1, g1, g4, h40, h9, R⟩
    refine ⟨o0 K1, 29, r0_6 K1, 7, r0_4 K1, 125, r0_12 K1, o125 K1, 134, r125_3 K1, o134 K1, 135, r134_0 K1, (s135 K1 _).mpr ((ix_nI (by omega)).mpr (by omega)), ?_⟩
    rw [nI_clamp (by omega), fr_i F1 135 (by decide), hV k (by omega)]
    refine c_takeStep X s (fun h2 F2 D2 => ⟨_, rfl, ?_⟩)
    have FF : fr [7, 8, 17, 29, 30, 31] h h2 := fr_trans (fr_mono F1 (by decide)) (fr_mono F2 (by decide))
    rcases z with ⟨z1, z2, z3⟩ | ⟨z1, z2⟩
    · rw [if_neg z1]
      refine ⟨fun q => absurd rfl q, fun _ => ?_⟩
      have := kk h2 FF (fun z => absurd (z3.symm.trans z) z1)
      rw [z3, if_neg z1] at this
      exact this
    · rw [if_pos z1]
      refine ⟨fun _ x23 e23 => ?_, fun q => absurd q (by decide)⟩
      have e : x23 = nI (k + 1) := by rw [e23]; exact nI_add k 1
      rw [e]
      exact ih (k + 1) n1 l1 A1 h2 (sp_fr K1 F2) (D2 z1) (by rw [fr_f FF 134 (by decide), hk]; congr 1; omega) (by omega) (fun i hi => by rw [fr_i FF 135 (by decide)]; exact hV i (by omega)) z2 (fun h' F' D' => kk h' (fr_trans FF F') D')
theorem m_stepped {n l f n' l' : Nat} {A m A' : Nat → Nat} {w : Int32} (K : sp h) (D : mD h 364 n l A) (h40 : n ≤ 40) (h9 : l ≤ 9) (R : Pr n A m) (M : stp w n l A m f n' l' A') (k : ∀ h', fms h h' → fr [170, 171, 172, 173, 175, 176, 179, 195, 196] h h' → (f = 0 → mD h' 364 n' l' A') → Q (some (.int (nI f))) h') : ex_S yX12_stepped mX12_stepped (d + 3) [.ref 168, .int w] h bc bs Q := by
  refine X12_stepped_e (X12_stepped_0 ⟨o168 K, m_link (s := 364) (d := d + 2) K (by decide) D.1 h40 D.2.2.2 R (fun h1 F1 g1 => ⟨rfl, fun x3 e3 => ?_⟩)⟩)
  subst e3
  have K1 := sp_fr K F1
  have X : MC h1 n l A m := ⟨K1, mD_sc D F1 (by decide), g1, h40, h9, R⟩
  have G1 : fms h h1 := fms_sc F1 (by decide)
  have key : ∀ h', fS 364 h1 h' → (f = 0 → mD h' 364 n' l' A') → ∃ x8, some (Value.int (nI f)) = some (.int x8) ∧ Q (some (.int x8)) h' := fun h' F D => ⟨_, rfl, k h' (fms_trans G1 (fS_fms F)) (fr_trans (fr_mono F1 (by decide)) (fr_mono F.1 (by decide))) D⟩
  refine ⟨fun q => ⟨fun q1 => ⟨o168 K1, ?_⟩, fun q1 => ⟨o168 K1, ?_⟩⟩, fun q => ⟨o168 K1, ?_⟩⟩
  · rcases M with ⟨n1, M⟩ | ⟨-, n1, M⟩ | ⟨-, n1, M⟩
    · exact absurd n1 q
    · exact absurd n1 q1
    · exact m_slide X M key
  · rcases M with ⟨n1, M⟩ | ⟨-, n1, M⟩ | ⟨-, n1, M⟩
    · exact absurd n1 q
    · exact m_unpoke X M key
    · exact absurd q1 n1
  · rcases M with ⟨-, M⟩ | ⟨n1, -, M⟩ | ⟨n1, -, M⟩
    · exact m_untwist X M key
    · exact absurd q n1
    · exact absurd q n1
theorem m_ways {V : Nat → Int32} {f n' l' : Nat} {A' : Nat → Nat} : ∀ (j k n l : Nat) (A : Nat → Nat) (h : AH), sp h → mD h 364 n l A → ah_f h 168 59 = nI (k + j) → k + j ≤ 100 → (∀ i, i < k + j → ah_i h 212 i = V i) → rn V j k n l A f n' l' A' → (∀ h', fms h h' → f = 0 → mD h' 364 n' l' A' → ex_S yX12_added mX12_added (d + 3) [.ref 168, .int 364] h' 0 0 (fun r h3 => ∃ x4, r = some (.int x4) ∧ Q (some (.int x4)) h3)) → (∀ h', fms h h' → f ≠ 0 → X12_meets_C 168 5 h' ∧ ∀ h13, h13 = X12_meets_H 168 5 h' → Q (some (.int (X12_meets_V 168 5 h'))) h13) → ex_G mX12_check (d + 4) 55 [.ref 168, .retAddr 0, .int (nI k)] [] h bc bs Q := by
  intro j
  induction j with
  | zero =>
    rintro k n l A h K D hk h100 hV ⟨e0, rfl, rfl, rfl, -⟩ k0 k5
    refine X12_check_55 ⟨o168 K, fun _ => k0 h (fms_refl h) e0 D, fun w => ?_⟩
    rw [hk, nI_leI (by omega) (by omega)] at w
    omega
  | succ j ih =>
    rintro k n l A h K D hk h100 hV ⟨m, f1, n1, l1, A1, R, h40, h9, s, z⟩ k0 k5
    refine X12_check_55 ⟨o168 K, fun w => ?_, fun _ => ⟨212, r168_58 K, (s212 K _).mpr ((ix_nI (by omega)).mpr (by omega)), ?_⟩⟩
    · rw [hk, nI_leI (by omega) (by omega)] at w
      omega
    rw [nI_clamp (by omega), hV k (by omega)]
    have f9 := stp_f s
    have c0 : nI f1 ≤ 0 ↔ f1 ≤ 0 := nI_leI (b := 0) (by omega) (by omega)
    refine m_stepped (d := d) K D h40 h9 R s (fun h2 G2 F2 D2 => ⟨_, rfl, fun q x10 e10 => ?_, fun q => ?_⟩)
    · have q0 : f1 = 0 := by have := c0.mp q; omega
      rcases z with ⟨z1, -⟩ | ⟨z1, z2⟩
      · exact absurd q0 z1
      · have e : x10 = nI (k + 1) := by rw [e10]; exact nI_add k 1
        rw [e]
        exact ih (k + 1) n1 l1 A1 h2 (G2.2.2.1 K) (D2 z1) (by rw [G2.2.2.2.1 59 (by decide), hk]; congr 1; omega) (by omega) (fun i hi => by rw [fr_i F2 212 (by decide)]; exact hV i (by omega)) z2 (fun h' F' e' D' => k0 h' (fms_trans G2 F') e' D') (fun h' F' e' => k5 h' (fms_trans G2 F') e')
    · have q0 : f1 ≠ 0 := fun e => q (c0.mpr (by omega))
      rcases z with ⟨z1, z2, z3⟩ | ⟨z1, z2⟩
      · exact ⟨o168 (G2.2.2.1 K), k5 h2 G2 (by rw [z3]; exact z1)⟩
      · exact absurd z1 q0
theorem st_check (x : R0 h W N B S len) (hmax : ah_n h + 3 ≤ 10000000) (p : Int32) : ST yX11_check mX11_check yX12_check mX12_check (d + 6) (d + 4) [.int p] h (bc + 3) (bs + 207) W S len := by
  have K := x.2.1
  have h216 := K.1
  obtain ⟨h24, hN, hN2, hP⟩ := x.2.2.2.2.1
  have hv := hasP (p := p) hN h24
  have fq := fullQ hN h24
  refine X11_check_e (X11_check_0 ⟨o0 K, hasPC K p, fun z => ⟨⟨o0 K, trivial⟩, fun nf => ⟨7, r0_4 K, ?_⟩, fun nf => c_no K 3 (by decide) ⟨_, rfl, _, rfl, ?_⟩⟩, fun z => c_no K 2 (by decide) ⟨_, rfl, _, rfl, ?_⟩⟩)
  · have ip : ix p N := Classical.not_not.mp (fun w => z (hv.mpr w))
    obtain ⟨p0, hp0, ep⟩ := ix_of ip (by omega)
    subst ep
    have hlt := fq.mp nf
    obtain ⟨cnt, c100, cw1, cw2, cw3⟩ := x.2.2.2.2.2.2.1.2.2
    refine c_look (d := d + 1) x.2 hp0 (Or.inl rfl) (fun h1 n op F => ⟨_, rfl, fun w => absurd rfl w, fun _ => ⟨o0 (sp_fr K F), c_f (sp_fr K F) 3 (by decide) (by decide) ⟨_, rfl, _, rfl, ?_⟩⟩⟩) (fun h1 n l wh F l1 l2 LFh => ⟨_, rfl, fun _ => ?_, fun w => absurd w (by decide)⟩)
    · have Fc := fcs_fr F lkc7
      obtain ⟨q1, q3, q4, q5⟩ := see_f x Fc 3
      have hN6 : ah_f (cF h1 3) 168 6 = nI N := by rw [q1]; exact hN2
      have iv := isP_ (h := cF h1 3) (p := nI p0) (N := N) hN6 h24
      have c24 : ¬ ah_f (cF h1 3) 168 6 = 24 := fun w => by
        rw [hN6] at w
        have := (nI_eq (b := 24) (by omega) (by omega)).mp w
        omega
      refine X12_check_e (X12_check_0 ⟨o168 q4, isPC q4 _, fun _ => ⟨fun _ => ?_, fun w => absurd w c24⟩, fun w => absurd ip (iv.mp w)⟩)
      refine m_open_open x.2 op q4 (q5 p0) (fun h' r r0 r4 G => ⟨_, rfl, fun w => absurd w ?_, fun _ => ⟨o168 (G.2.2.1 q4), meC (f := 3) (G.2.2.1 q4) (by decide), fun h12 e12 => ⟨rfl, by rw [e12.trans (meH (f := 3) (G.2.2.1 q4) (by decide))]; exact D_f x Fc (by decide) (by decide) G⟩⟩⟩)
      intro w'
      have := (nI_leI (b := 0) (by omega) (by omega)).mp w'
      omega
    · have K1 := sp_fr K F
      have hq1 : ah_q h1 1 p0 = some (B p0) := by rw [F.1.2.2.2]; exact (hP p0 hp0).1
      have h40 := wh.2.2.1
      have h9 := wh.2.2.2.1
      refine ⟨o0 K1, 29, r0_6 K1, 1, r0_0 K1, (s1 K1 _).mpr ((ix_nI (by omega)).mpr (by omega)), B p0, by rw [nI_clamp (by omega)]; exact hq1, o29 K1, c_draft (d := d + 4) x.2 wh F l1 LFh (fun h2 F2 X G => ⟨rfl, ?_⟩)⟩
      have K2 := sp_fr K1 F2
      have R := wh.2.2.2.2.2.2.2
      obtain ⟨f, n', l', A', rr, ok⟩ := rn_ex (ah_i h 135) cnt 0 n l _ _ R h40 h9
      refine ⟨o0 K2, X11_goWays_e (X11_goWays_0 (c_goWays (V := ah_i h 135) (f := f) (n' := n') (l' := l') (A' := A') cnt 0 n l _ h2 K2 X.2.2.2.1 (by rw [fr_f F2 134 (by decide), fr_f F 134 (by decide), Nat.zero_add]; exact cw1) (by omega) (fun i hi => by rw [fr_i F2 135 (by decide), fr_i F 135 (by decide)]) rr (fun h3 F3 D3 => ⟨_, rfl, ?_⟩)))⟩
      have K3 := sp_fr K2 F3
      have Fx : fcs h h3 := fcs_trans (fcs_fr F lkc7) (fcs_trans (fcs_fr F2 (by decide)) (fcs_fr F3 (by decide)))
      have go : ∀ hz, sp hz → ah_f hz 168 = ah_f h 168 → (∀ t, sl h hz t) → ah_i hz 212 = ah_i h 212 → ∀ (Q' : Option Value → AH → Prop), (∀ h', fms hz h' → f = 0 → mD h' 364 n' l' A' → ex_S yX12_added mX12_added (d + 3) [.ref 168, .int 364] h' 0 0 (fun r h3 => ∃ x4, r = some (.int x4) ∧ Q' (some (.int x4)) h3)) → (∀ h', fms hz h' → f ≠ 0 → Q' (some (.int (-nI 15))) (mF h' 5)) → ex_S yX12_check mX12_check (d + 4) [.ref 168, .int (nI p0)] hz 0 0 Q' := by
        intro hz Kz f168 slz i212 Q' k0 k5
        have hN6 : ah_f hz 168 6 = nI N := by rw [f168]; exact hN2
        have iv := isP_ (h := hz) (p := nI p0) (N := N) hN6 h24
        have c24 : ¬ ah_f hz 168 6 = 24 := fun w => by
          rw [hN6] at w
          have := (nI_eq (b := 24) (by omega) (by omega)).mp w
          omega
        refine X12_check_e (X12_check_0 ⟨o168 Kz, isPC Kz _, fun _ => ⟨fun _ => ?_, fun w => absurd w c24⟩, fun w => absurd ip (iv.mp w)⟩)
        refine m_open_whole wh h24 Kz (slz p0) (fun h5 G5 g5 => ⟨_, rfl, fun _ => ⟨o168 (G5.2.2.1 Kz), ?_⟩, fun w => absurd (show (nI 0 : Int32) ≤ 0 by decide) w⟩)
        have K5 := G5.2.2.1 Kz
        have D5 := mD_sl wh.2.2.2.2.2.2.1 h40 (sl_trans (slz p0) (G5.2.2.2.2 p0 (by omega)))
        refine m_copyS K5 (s := p0) (t := 364) (by omega) (by decide) (by omega) D5.1 h40 (fun h6 F6 s6 c6 => ⟨rfl, ?_⟩)
        have G6 := fms_trans G5 (fms_copy F6 s6)
        have K6 := G6.2.2.1 Kz
        refine m_ways (V := ah_i h 135) (f := f) (n' := n') (l' := l') (A' := A') cnt 0 n l _ h6 K6 (mD_sC D5 h40 c6) (by rw [G6.2.2.2.1 59 (by decide), f168, Nat.zero_add]; exact cw2) (by omega) (fun i hi => by rw [(G6.2.1 212 (by decide)).2.2.1, i212]; exact (cw3 i (by omega)).symm) rr (fun h' G' e' D' => k0 h' (fms_trans G6 G') e' D') (fun h' G' e' => ⟨meC (f := 5) (G'.2.2.1 K6) (by decide), fun h13 e13 => ?_⟩)
        rw [e13.trans (meH (f := 5) (G'.2.2.1 K6) (by decide))]
        exact k5 h' (fms_trans G6 G') e'
      by_cases f0 : f = 0
      · rw [if_pos f0]
        refine ⟨fun w => absurd w (by decide), fun _ => ⟨o0 K3, 29, r0_6 K3, ?_⟩⟩
        have n3 : ah_n h3 = ah_n h := Fx.1
        have D3' := D3 f0
        obtain ⟨h40', h9', m', R'⟩ := ok f0
        refine c_addLike (d := d + 3) K3 (by rw [(Fx.2.1 0 (by decide)).2.1]; exact hN) hlt (pt29 K3) (by omega) (by decide) (by omega) (fun h80 A80 K80 => ⟨_, rfl, o0 K80, grC K80 _, fun h83 e83 => ⟨_, rfl, ?_⟩⟩)
        have e83' : h83 = cNo h80 (nI 0) := e83
        rw [e83']
        obtain ⟨w1, w2, w3, w4⟩ := see_add x Fx A80 K80
        refine go _ w2 w1 w3 (w4 212 (by decide) (by decide)).2.2.1 _ (fun h' G' _ D' => ?_) (fun h' G' e' => absurd f0 e')
        refine m_added (d := d + 2) (N := N) (s := 364) (G'.2.2.1 w2) (by rw [G'.2.2.2.1 6 (by decide), w1]; exact hN2) hlt (by decide) (by omega) D'.1 h40' (fun h9 F9 s9 c9 q9 v9 f9 => ⟨_, rfl, rfl, ?_⟩)
        have ae := AL_end h216 Fx A80 G' F9
        exact D_add x hlt hmax Fx A80 K80 G' F9 s9 q9 v9 f9 (rp_of (n := n') (l := l') ⟨by rw [ae.1]; exact D3'.1, by rw [ae.2.1]; exact D3'.2.1, fun c hc => by rw [ae.2.2.1 c (by omega)]; exact D3'.2.2.1 c hc, fun e he => by rw [ae.2.2.2 e (by omega)]; exact D3'.2.2.2 e he⟩ (mD_sC D' h40' c9) h40' h9' (fun e he => R'.A100 he))
      · rw [if_neg f0]
        refine ⟨fun _ => ⟨o0 K3, c_f K3 5 (by decide) (by decide) ⟨_, rfl, _, rfl, ?_⟩⟩, fun w => absurd rfl w⟩
        obtain ⟨q1, q3, q4, q5⟩ := see_f x Fx 5
        have i212 : ah_i (cF h3 5) 212 = ah_i h 212 := by
          unfold cF
          rw [i_si_n _ _ _ _ _ (by decide), i_sf]
          exact (Fx.2.1 212 (by decide)).2.2.1
        exact go _ q4 q1 q5 i212 _ (fun h' G' e' => absurd e' f0) (fun h' G' _ => ⟨rfl, D_f x Fx (by decide) (by decide) G'⟩)
  · have hfull : ¬ N < 24 := fun q => nf (fq.mpr q)
    have eN : N = 24 := by omega
    obtain ⟨q1, q3, q4, q5⟩ := see_no x (fcs_refl h) (-nI 3)
    have iv := isP_ (h := cNo h (-nI 3)) (p := p) (N := N) (by rw [q1]; exact hN2) h24
    have ip : ix p N := Classical.not_not.mp (fun w => z (hv.mpr w))
    have w24 : ah_f (cNo h (-nI 3)) 168 6 = 24 := by rw [q1, hN2, eN]; rfl
    exact X12_check_e (X12_check_0 ⟨o168 q4, isPC q4 _, fun _ => ⟨fun w => absurd w24 w, fun _ => ⟨noC q4 _, fun h8 e8 => ⟨rfl, by rw [e8]; exact D_no x (fcs_refl h) (-nI 3) (fms_refl _)⟩⟩⟩, fun w => absurd ip (iv.mp w)⟩)
  · obtain ⟨q1, q3, q4, q5⟩ := see_no x (fcs_refl h) (-nI 2)
    have iv := isP_ (h := cNo h (-nI 2)) (p := p) (N := N) (by rw [q1]; exact hN2) h24
    exact X12_check_e (X12_check_0 ⟨o168 q4, isPC q4 _, fun w => absurd (iv.mpr (hv.mp z)) w, fun _ => ⟨noC q4 _, fun h8 e8 => ⟨rfl, by rw [e8]; exact D_no x (fcs_refl h) (-nI 2) (fms_refl _)⟩⟩⟩)
end CHECK
