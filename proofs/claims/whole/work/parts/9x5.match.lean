/-! Pure: pictures are alike just when each code stands for as many parts in the one as in the other. -/
theorem clt_trans {N1 N2 N3 : Nat} {f1 f2 f3 : Nat → Nat} (a : clt N1 f1 N2 f2) (b : clt N2 f2 N3 f3) : clt N1 f1 N3 f3 := by
  rcases a with a | ⟨a, k, k1, k2, k3⟩
  · rcases b with b | ⟨b, -⟩
    · exact Or.inl (by omega)
    · exact Or.inl (by omega)
  · rcases b with b | ⟨b, l, l1, l2, l3⟩
    · exact Or.inl (by omega)
    · subst a
      subst b
      refine Or.inr ⟨rfl, ?_⟩
      rcases Nat.lt_trichotomy k l with z | z | z
      · exact ⟨k, k1, by rw [← l3 k z]; exact k2, fun j hj => by rw [k3 j hj]; exact l3 j (by omega)⟩
      · subst z
        exact ⟨k, k1, by omega, fun j hj => by rw [k3 j hj]; exact l3 j hj⟩
      · exact ⟨l, l1, by rw [k3 l z]; exact l2, fun j hj => by rw [k3 j (by omega)]; exact l3 j hj⟩
section MATCH
variable {n : Nat} {m m' : Nat → Nat} {I : Nat → Nat}
theorem PCd_ex (iv : IV n m) {c : Nat} (hc : c < n) : ∃ N f, PCd n m c N f := by
  have key : ∀ k, k ≤ 2 * n → (∀ r, r < k → ¬ cc n m c (r / 2)) ∨ ∃ r N f, r < k ∧ cc n m c (r / 2) ∧ WC n m (r / 2) (2 * (r % 2)) N f ∧ ∀ r' N' f', r' < k → cc n m c (r' / 2) → WC n m (r' / 2) (2 * (r' % 2)) N' f' → ¬ clt N' f' N f := by
    intro k
    induction k with
    | zero => intro _; exact Or.inl (fun r hr => absurd hr (Nat.not_lt_zero r))
    | succ k ih =>
      intro hk
      by_cases z : cc n m c (k / 2)
      · obtain ⟨N2, f2, w2⟩ := WC_ex (by_ := 2 * (k % 2)) iv (show k / 2 < n by omega) (by omega)
        rcases ih (by omega) with no | ⟨r, N, f, h1, h2, h3, h4⟩
        · refine Or.inr ⟨k, N2, f2, Nat.lt_succ_self _, z, w2, fun r' N' f' a b d => ?_⟩
          by_cases q : r' = k
          · subst q
            exact clt_irr (WC_u iv (show r' / 2 < n by omega) (by omega) d w2)
          · exact absurd b (no r' (by omega))
        · by_cases lt : clt N2 f2 N f
          · refine Or.inr ⟨k, N2, f2, Nat.lt_succ_self _, z, w2, fun r' N' f' a b d lt2 => ?_⟩
            by_cases q : r' = k
            · subst q
              exact clt_irr (WC_u iv (show r' / 2 < n by omega) (by omega) d w2) lt2
            · exact h4 r' N' f' (by omega) b d (clt_trans lt2 lt)
          · refine Or.inr ⟨r, N, f, by omega, h2, h3, fun r' N' f' a b d lt2 => ?_⟩
            by_cases q : r' = k
            · subst q
              obtain ⟨e1, e2⟩ := WC_u iv (show r' / 2 < n by omega) (by omega) w2 d
              subst e1
              refine lt ?_
              rcases lt2 with z | ⟨z, t, t1, t2, t3⟩
              · exact Or.inl z
              · exact Or.inr ⟨z, t, t1, by rw [e2 t t1]; exact t2, fun j hj => by rw [e2 j (by omega)]; exact t3 j hj⟩
            · exact h4 r' N' f' (by omega) b d lt2
      · rcases ih (by omega) with no | ⟨r, N, f, h1, h2, h3, h4⟩
        · refine Or.inl (fun r hr => ?_)
          by_cases q : r = k
          · rw [q]; exact z
          · exact no r (by omega)
        · refine Or.inr ⟨r, N, f, by omega, h2, h3, fun r' N' f' a b d => ?_⟩
          by_cases q : r' = k
          · rw [q] at b; exact absurd b z
          · exact h4 r' N' f' (by omega) b d
  rcases key (2 * n) (Nat.le_refl _) with no | ⟨r, N, f, h1, h2, h3, h4⟩
  · refine absurd ?_ (no (2 * c) (by omega))
    rw [show 2 * c / 2 = c by omega]
    exact cc_refl _
  · refine ⟨N, f, ⟨r / 2, 2 * (r % 2), h2, by omega, h3⟩, fun d b N' f' a1 a2 a3 => ?_⟩
    have hd := cc_lt' iv hc a1
    have e1 : (2 * d + b / 2) / 2 = d := by omega
    have e2 : 2 * ((2 * d + b / 2) % 2) = b := by omega
    exact h4 (2 * d + b / 2) N' f' (by omega) (by rw [e1]; exact a1) (by rw [e1, e2]; exact a3)
theorem ISO_symm (iv : IV n m) (x : ISO n m m') : ISO n m' m := by
  obtain ⟨I, P⟩ := x
  obtain ⟨J, hJ⟩ := chs (n := n) (R := fun y e => e < 4 * n ∧ e % 2 = 0 ∧ fe I e = 4 * y) (fun y hy => by
    obtain ⟨x, x1, x2⟩ := iso_onto P hy
    have ev := (P.1 x x1).2.2
    refine ⟨4 * x + (4 - I x % 4) % 4, by omega, by omega, ?_⟩
    unfold fe
    rw [show (4 * x + (4 - I x % 4) % 4) / 4 = x by omega, show (4 * x + (4 - I x % 4) % 4) % 4 = (4 - I x % 4) % 4 by omega]
    unfold cn
    omega)
  have back : ∀ e, e < 4 * n → fe I (fe J e) = e := fun e he => by
    have := (hJ (e / 4) (by omega)).2.2
    unfold fe at this ⊢
    rw [show cn (J (e / 4)) (e % 4) / 4 = J (e / 4) / 4 from cn_q _ _]
    unfold cn at this ⊢
    omega
  have jl : ∀ e, e < 4 * n → fe J e < 4 * n := fun e he => fe_lt (hJ (e / 4) (by omega)).1
  refine ⟨J, fun c hc => ⟨hc, (hJ c hc).1, (hJ c hc).2.1⟩, fun c c' hc hc' q => ?_, fun e he hd => ?_⟩
  · have a := (hJ c hc).2.2
    have b := (hJ c' hc').2.2
    have : fe I (J c) / 4 = fe I (J c') / 4 := by rw [fe_q, fe_q, q]
    rw [a, b] at this
    omega
  · have hd : e / 4 < n := hd
    have e1 := jl e he
    have b1 := back e he
    obtain ⟨p1, p2⟩ := P.2.2 _ e1 (by show _ / 4 < n; omega)
    rw [b1] at p2
    have ml : m (fe J e) < 4 * n := (iv _ e1).1
    have m4 : m' e < 4 * n := by rw [← p2]; exact fe_lt (P.1 _ p1).2.1
    refine ⟨by show m' e / 4 < n; omega, ?_⟩
    exact PIS_inj P (by show _ / 4 < n; have := jl _ m4; omega) (by show _ / 4 < n; omega) ((back _ m4).trans p2.symm)
theorem cnt_le (iv : IV n m) (iv' : IV n m') (x : ISO n m m') (N : Nat) (f : Nat → Nat) : ct (fun c => c1 n m c ∧ PCd n m c N f) n ≤ ct (fun c => c1 n m' c ∧ PCd n m' c N f) n := by
  obtain ⟨I, P⟩ := x
  have E' := cc_EQ iv'
  obtain ⟨g, hg⟩ := chs (n := n) (R := fun c y => lm (cc n m') y ∧ cc n m' y (I c / 4) ∧ y ≤ I c / 4) (fun c hc => lm_ex E' (by have := (P.1 c hc).2.1; omega))
  refine ct_inj_le g (fun c hc ⟨h1, h2⟩ => ?_) (fun a b ha hb pa pb e => ?_)
  · obtain ⟨a1, a2, a3⟩ := hg c hc
    have il := (P.1 c hc).2.1
    refine ⟨by omega, a1, PCd_cc iv' (by omega) (E'.2.1 _ _ (by omega) a2) (PCd_sim iv P hc h2)⟩
  · obtain ⟨a1, a2, a3⟩ := hg a ha
    obtain ⟨b1, b2, b3⟩ := hg b hb
    have ia := (P.1 a ha).2.1
    rw [← e] at b2
    have o := iso_cc' P ha hb (cc_trans (E'.2.1 _ _ (by omega) a2) b2)
    exact Nat.le_antisymm (pa.1 b o) (pb.1 a ((cc_EQ iv).2.1 _ _ ha o))
theorem iso_cnt (iv : IV n m) (iv' : IV n m') (x : ISO n m m') (N : Nat) (f : Nat → Nat) : ct (fun c => c1 n m c ∧ PCd n m c N f) n = ct (fun c => c1 n m' c ∧ PCd n m' c N f) n := Nat.le_antisymm (cnt_le iv iv' x N f) (cnt_le iv' iv (ISO_symm iv x) N f)
theorem cnt_iso (iv : IV n m) (iv' : IV n m') (eq : ∀ N f, ct (fun c => c1 n m c ∧ PCd n m c N f) n = ct (fun c => c1 n m' c ∧ PCd n m' c N f) n) : ISO n m m' := by
  have E := cc_EQ iv
  have E' := cc_EQ iv'
  obtain ⟨cod, hcod⟩ := Classical.axiomOfChoice (r := fun (c : Nat) (v : Nat × (Nat → Nat)) => c < n → PCd n m c v.1 v.2) (fun c => by
    by_cases z : c < n
    · obtain ⟨N, f, p⟩ := PCd_ex iv z
      exact ⟨(N, f), fun _ => p⟩
    · exact ⟨(0, fun _ => 0), fun q => absurd q z⟩)
  obtain ⟨be, hbe⟩ := chs (n := n) (R := fun c y => c1 n m c → y < n ∧ (c1 n m' y ∧ PCd n m' y (cod c).1 (cod c).2) ∧ ct (fun x => c1 n m' x ∧ PCd n m' x (cod c).1 (cod c).2) y = ct (fun x => c1 n m x ∧ PCd n m x (cod c).1 (cod c).2) c) (fun c hc => by
    by_cases z : c1 n m c
    · have lt := ct_lt (p := fun x => c1 n m x ∧ PCd n m x (cod c).1 (cod c).2) hc ⟨z, hcod c hc⟩
      rw [eq] at lt
      obtain ⟨y, y1, y2, y3⟩ := ct_ex n _ lt
      exact ⟨y, fun _ => ⟨y1, y2, y3⟩⟩
    · exact ⟨0, fun q => absurd q z⟩)
  have binj : ∀ a b, a < n → b < n → c1 n m a → c1 n m b → be a = be b → a = b := fun a b ha hb la lb e => by
    obtain ⟨a1, a2, a3⟩ := hbe a ha la
    obtain ⟨b1, b2, b3⟩ := hbe b hb lb
    rw [← e] at b2 b3
    obtain ⟨e1, e2⟩ := PCd_u a2.2 b2.2
    have tr : ∀ (mm : Nat → Nat) x, PCd n mm x (cod a).1 (cod a).2 ↔ PCd n mm x (cod b).1 (cod b).2 := fun mm x => by
      constructor
      · intro p
        have := PCd_congr p e2
        rw [e1] at this
        exact this
      · intro p
        rw [← e1] at p
        exact PCd_congr p (fun t ht => (e2 t ht).symm)
    have r1 : ct (fun x => c1 n m' x ∧ PCd n m' x (cod a).1 (cod a).2) (be a) = ct (fun x => c1 n m' x ∧ PCd n m' x (cod b).1 (cod b).2) (be a) := ct_congr (fun x _ => by rw [tr])
    have r2 : ct (fun x => c1 n m x ∧ PCd n m x (cod b).1 (cod b).2) b = ct (fun x => c1 n m x ∧ PCd n m x (cod a).1 (cod a).2) b := ct_congr (fun x _ => by rw [tr])
    have : ct (fun x => c1 n m x ∧ PCd n m x (cod a).1 (cod a).2) a = ct (fun x => c1 n m x ∧ PCd n m x (cod a).1 (cod a).2) b := by rw [← a3, r1, b3, r2]
    exact ct_inj (p := fun x => c1 n m x ∧ PCd n m x (cod a).1 (cod a).2) ⟨la, hcod a ha⟩ ⟨lb, (tr m b).mpr (hcod b hb)⟩ this
  obtain ⟨F, hF⟩ := Classical.axiomOfChoice (r := fun (c : Nat) (I : Nat → Nat) => c < n → c1 n m c → PIS n m m' (fun x => cc n m c x) I ∧ ∀ x, cc n m c x → cc n m' (be c) (I x / 4)) (fun c => by
    by_cases z : c < n ∧ c1 n m c
    · obtain ⟨hc, lc⟩ := z
      obtain ⟨y1, y2, -⟩ := hbe c hc lc
      obtain ⟨⟨d, b, o, hb, w⟩, -⟩ := hcod c hc
      obtain ⟨⟨d', b', o', hb', w'⟩, -⟩ := y2.2
      obtain ⟨I, P, im⟩ := WC_iso iv iv' (cc_lt' iv hc o) hb (cc_lt' iv' y1 o') hb' w w'
      have dom : (fun x => cc n m d x) = (fun x => cc n m c x) := funext (fun x => propext ⟨fun q => cc_trans o q, fun q => cc_trans (E.2.1 _ _ hc o) q⟩)
      rw [dom] at P
      exact ⟨I, fun _ _ => ⟨P, fun x hx => cc_trans o' (im x (cc_trans (E.2.1 _ _ hc o) hx))⟩⟩
    · exact ⟨fun _ => 0, fun a b => absurd ⟨a, b⟩ z⟩)
  obtain ⟨rep, hrep⟩ := chs (n := n) (R := fun x y => lm (cc n m) y ∧ cc n m y x ∧ y ≤ x) (fun x hx => lm_ex E hx)
  have run : ∀ x y, x < n → y < n → cc n m x y → rep x = rep y := fun x y hx hy o => by
    obtain ⟨a1, a2, a3⟩ := hrep x hx
    obtain ⟨b1, b2, b3⟩ := hrep y hy
    have o1 : cc n m (rep x) (rep y) := cc_trans a2 (cc_trans o (E.2.1 _ _ (by omega) b2))
    exact Nat.le_antisymm (a1 _ o1) (b1 _ (E.2.1 _ _ (by omega) o1))
  refine ⟨fun x => F (rep x) x, fun x hx => ?_, fun x y hx hy q => ?_, fun e he hd => ?_⟩
  · have hx : x < n := hx
    obtain ⟨a1, a2, a3⟩ := hrep x hx
    exact ((hF (rep x) (by omega) a1).1).1 x a2
  · have hx : x < n := hx
    have hy : y < n := hy
    obtain ⟨a1, a2, a3⟩ := hrep x hx
    obtain ⟨b1, b2, b3⟩ := hrep y hy
    have q : F (rep x) x / 4 = F (rep y) y / 4 := q
    obtain ⟨P1, i1⟩ := hF (rep x) (by omega) a1
    obtain ⟨P2, i2⟩ := hF (rep y) (by omega) b1
    have o1 := i1 x a2
    have o2 := i2 y b2
    rw [← q] at o2
    obtain ⟨c1_, c2, -⟩ := hbe (rep x) (by omega) a1
    obtain ⟨d1, d2, -⟩ := hbe (rep y) (by omega) b1
    have o3 : cc n m' (be (rep x)) (be (rep y)) := cc_trans o1 (E'.2.1 _ _ d1 o2)
    have same := binj _ _ (by omega) (by omega) a1 b1 (Nat.le_antisymm (c2.1 _ o3) (d2.1 _ (E'.2.1 _ _ c1_ o3)))
    rw [← same] at q b2
    exact P1.2.1 x y a2 b2 q
  · have hd : e / 4 < n := hd
    obtain ⟨a1, a2, a3⟩ := hrep (e / 4) hd
    obtain ⟨P1, -⟩ := hF (rep (e / 4)) (by omega) a1
    obtain ⟨p1, p2⟩ := P1.2.2 e he a2
    have ml := (iv e he).1
    have rm := run (e / 4) (m e / 4) hd (by omega) (cc_step he)
    refine ⟨by show m e / 4 < n; omega, ?_⟩
    have f1 : fe (fun x => F (rep x) x) (m e) = fe (F (rep (e / 4))) (m e) := fe_congr (by show F (rep (m e / 4)) (m e / 4) = _; rw [← rm])
    have f2 : fe (fun x => F (rep x) x) e = fe (F (rep (e / 4))) e := rfl
    rw [f1, f2]
    exact p2
end MATCH
