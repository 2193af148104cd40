/-! Colours: the count of strands, the sums; the reference. -/
theorem ct_inj_le2 {p q : Nat → Prop} {N N' : Nat} (f : Nat → Nat) (hf : ∀ i, i < N → p i → f i < N' ∧ q (f i)) (hi : ∀ i j, i < N → j < N → p i → p j → f i = f j → i = j) : ct p N ≤ ct q N' := by
  obtain ⟨E, hE⟩ := chs (n := ct p N) (R := fun j y => y < N ∧ p y ∧ ct p y = j) (fun j hj => ct_ex N j hj)
  refine php' (f := fun j => ct q (f (E j))) (fun j hj => ?_) (fun i j hij hj e => ?_)
  · obtain ⟨a, b, -⟩ := hE j hj
    exact ct_lt (hf _ a b).1 (hf _ a b).2
  · obtain ⟨a, b, c⟩ := hE i (by omega)
    obtain ⟨a', b', c'⟩ := hE j hj
    have e1 := ct_inj (hf _ a b).2 (hf _ a' b').2 e
    have e2 := hi _ _ a a' b b' e1
    rw [e2] at c
    omega
section NL
variable {n : Nat} {A m : Nat → Nat} {lab : Nat → Nat} {T : Nat → Int32}
theorem nL_eq (P : Pr n A m) (L : LB n A m n lab T) : ct (fun a => us n A a ∧ lab a = a) 100 = ct (lm (sg n m)) (4 * n) := by
  have Q := sg_EQ P
  have us100 : ∀ a, us n A a → a < 100 := fun a ⟨e, he, q⟩ => by rw [← q]; exact P.A100 he
  have sgl : ∀ e f, e < 4 * n → f < 4 * n → (lab (A e) = lab (A f) ↔ sg n m e f) := fun e f he hf => (L.2.2 e f he hf).trans (sgb_n he P)
  obtain ⟨R, hR⟩ := chs (n := 4 * n) (R := fun x y => lm (sg n m) y ∧ sg n m y x ∧ y ≤ x) (fun x hx => lm_ex Q hx)
  refine Nat.le_antisymm ?_ ?_
  · have ends : ∃ E : Nat → Nat, ∀ a, a < 100 → us n A a → E a < 4 * n ∧ A (E a) = a := by
      obtain ⟨E, hE⟩ := chs (n := 100) (R := fun a e => us n A a → e < 4 * n ∧ A e = a) (fun a _ => by
        by_cases u : us n A a
        · obtain ⟨e, he, q⟩ := u
          exact ⟨e, fun _ => ⟨he, q⟩⟩
        · exact ⟨0, fun z => absurd z u⟩)
      exact ⟨E, hE⟩
    obtain ⟨E, hE⟩ := ends
    refine ct_inj_le2 (fun a => R (E a)) (fun a ha pa => ?_) (fun a b ha hb pa pb e => ?_)
    · obtain ⟨e1, e2⟩ := hE a ha pa.1
      obtain ⟨r1, r2, r3⟩ := hR _ e1
      exact ⟨by omega, r1⟩
    · obtain ⟨e1, e2⟩ := hE a ha pa.1
      obtain ⟨f1, f2⟩ := hE b hb pb.1
      obtain ⟨r1, r2, r3⟩ := hR _ e1
      obtain ⟨t1, t2, t3⟩ := hR _ f1
      have e' : R (E a) = R (E b) := e
      rw [← e'] at t2
      have := (sgl _ _ e1 f1).mpr (sg_trans (Q.2.1 _ _ (by omega) r2) t2)
      rw [e2, f2, pa.2, pb.2] at this
      exact this
  · refine ct_inj_le2 (fun y => lab (A y)) (fun y hy ly => ?_) (fun y y' hy hy' ly ly' e => ?_)
    · obtain ⟨t1, t2, t3⟩ := L.1 (A y) ⟨y, hy, rfl⟩
      exact ⟨us100 _ t2, t2, t3⟩
    · have o := (sgl y y' hy hy').mp e
      exact Nat.le_antisymm (ly y' o) (ly' y (Q.2.1 _ _ hy o))
end NL
def rV (A lab : Nat → Nat) (md i x : Nat) : Nat := (if x = lab (A (4 * i)) then 1 else 0) + (if x = lab (A (4 * i + 2)) then 1 else 0) + (if x = lab (A (4 * i + 1)) then md - 2 else 0)
section MSUM
variable {h : AH} {d bc bs n md : Nat} {A m : Nat → Nat} {lab : Nat → Nat} {V : Nat → Nat → Nat} {Q : Option Value → AH → Prop}
theorem SV_congr {V' : Nat → Nat → Nat} (S : SV h V n) (e : ∀ i x, i < n → x < 100 → V' i x = V i x) : SV h V' n := fun i x hi hx => by rw [e i x hi hx]; exact S i x hi hx
theorem SV_add {h' : AH} {c y D : Nat} (S : SV h V n) (hc : c < n) (hy : y < 100) (hD : V c y + D < 100) (e : h' = ah_si h 184 (100 * c + y) (ah_i h 184 (100 * c + y) + nI D)) : SV h' (fun i x => if i = c ∧ x = y then V i x + D else V i x) n := fun i x hi hx => by
  show (if i = c ∧ x = y then V i x + D else V i x) < 100 ∧ ah_i h' 184 (100 * i + x) = nI (if i = c ∧ x = y then V i x + D else V i x)
  rw [e, i_si_s]
  by_cases z : i = c ∧ x = y
  · obtain ⟨z1, z2⟩ := z
    subst z1
    subst z2
    rw [if_pos ⟨rfl, rfl⟩, u1_s, (S i x hi hx).2, nI_add]
    exact ⟨hD, rfl⟩
  · rw [if_neg z, u1_n _ _ (by omega)]
    exact S i x hi hx
theorem m_sums {p : Nat} (K : sp h) (P : Pr n A m) (h40 : n ≤ 40) (hp : p < 368) (hmd : 2 ≤ md ∧ md ≤ 11) (hn : ah_i h 170 p = nI n) (hA : ∀ e, e < 4 * n → ah_i h 173 (160 * p + e) = nI (A e)) (L : LB n A m n lab (ah_i h 183))
    (k : ∀ h', fr [184] h h' → SV h' (rV A lab md) n → ex_G mX12_coloursOf (d + 1) 369 [.ref 168, .int (nI p), .int (nI md), .int (nI (ct (lm (sg n m)) (4 * n))), .int (nI 0), .int (nI 0), .retAddr 0, .retAddr 0] [] h' bc bs Q) : ex_G mX12_coloursOf (d + 1) 180 [.ref 168, .int (nI p), .int (nI md), .int (nI 0), .int (nI 0), .retAddr 0, .retAddr 0, .retAddr 0] [] h bc bs Q := by
  have us100 : ∀ a, us n A a → a < 100 := fun a ⟨e, he, q⟩ => by rw [← q]; exact P.A100 he
  have po : (160 : Int32) * nI p = nI (160 * p) := pk_mul 160 p
  refine lp 100 (fun a h' => h' = h) (fun a h' => ex_G mX12_coloursOf (d + 1) 180 [.ref 168, .int (nI p), .int (nI md), .int (nI (ct (fun a => us n A a ∧ lab a = a) a)), .int (nI a), .retAddr 0, .retAddr 0, .retAddr 0] [] h' bc bs Q) rfl ?_ ?_
  · rintro a h1 ha rfl nx
    have c100 : (100 : Int32) ≤ nI a ↔ 100 ≤ a := nI_leI (a := 100) (by omega) (by omega)
    refine X12_coloursOf_180 ⟨fun w => by have := c100.mp w; omega, fun _ => ⟨o168 K, 183, r168_18 K, (s183 K _).mpr ((ix_nI (by omega)).mpr (by omega)), ?_⟩⟩
    rw [nI_clamp (by omega)]
    have e1 : nI a + 1 = nI (a + 1) := nI_add _ 1
    have st := nx h1 rfl
    have iff_ : ah_i h1 183 a = nI a ↔ us n A a ∧ lab a = a := by
      by_cases u : us n A a
      · obtain ⟨t1, t2, t3⟩ := L.1 a u
        have := us100 _ t2
        rw [t1, nI_eq (by omega) (by omega)]
        exact ⟨fun q => ⟨u, q⟩, fun q => q.2⟩
      · rw [L.2.1 a ha u]
        exact ⟨fun q => absurd q (m1_en (by omega)), fun q => absurd q.1 u⟩
    rw [iff_]
    refine ⟨fun w x6 e6 x7 e7 => ?_, fun w x8 e8 x9 e9 => ?_⟩
    · have e6' : x6 = nI (ct (fun a => us n A a ∧ lab a = a) a) := by rw [e6]; exact nI_add _ 0
      rw [ct_n (p := fun a => us n A a ∧ lab a = a) w] at st
      rw [e6', e7, e1]
      exact st
    · have e8' : x8 = nI (ct (fun a => us n A a ∧ lab a = a) a + 1) := by rw [e8]; exact nI_add _ 1
      rw [ct_y (p := fun a => us n A a ∧ lab a = a) w] at st
      rw [e8', e9, e1]
      exact st
  rintro h1 rfl
  refine X12_coloursOf_180 ⟨fun _ => ?_, fun w => absurd (show (100 : Int32) ≤ nI 100 by decide) w⟩
  rw [nL_eq P L]
  have ho : (100 : Int32) * nI n = nI (100 * n) := pk_mul 100 n
  refine lp (100 * n) (fun a h' => fr [184] h1 h' ∧ ∀ y, y < a → ah_i h' 184 y = nI 0) (fun a h' => ex_G mX12_coloursOf (d + 1) 216 [.ref 168, .int (nI p), .int (nI md), .int (nI (ct (lm (sg n m)) (4 * n))), .int (nI a), .retAddr 0, .retAddr 0, .retAddr 0] [] h' bc bs Q) ⟨fr_refl _ h1, fun y hy => absurd hy (Nat.not_lt_zero y)⟩ ?_ ?_
  · rintro a h2 ha ⟨F2, I⟩ nx
    have K2 := sp_fr K F2
    refine X12_coloursOf_216 ⟨o168 K2, 170, r168_2 K2, (s170 K2 _).mpr ((ix_nI (by omega)).mpr (by omega)), ?_⟩
    rw [nI_clamp (by omega), fr_i F2 170 (by decide), hn, ho, nI_leI (by omega) (by omega)]
    refine ⟨fun w => by omega, fun _ => ⟨184, r168_19 K2, (t184 K2 _).mpr ((ix_nI (by omega)).mpr (by omega)), fun h6 e6 x8 e8 => ?_⟩⟩
    have e8' : x8 = nI (a + 1) := by rw [e8]; exact nI_add _ 1
    rw [nI_clamp (by omega)] at e6
    rw [e8']
    refine nx h6 ⟨by rw [e6]; exact fr_si F2 (by decide), fun y hy => ?_⟩
    rw [e6, i_si_s]
    by_cases z : y = a
    · rw [z, u1_s]; rfl
    · rw [u1_n _ _ z]; exact I y (by omega)
  rintro h2 ⟨F2, I⟩
  have K2 := sp_fr K F2
  refine X12_coloursOf_216 ⟨o168 K2, 170, r168_2 K2, (s170 K2 _).mpr ((ix_nI (by omega)).mpr (by omega)), ?_⟩
  rw [nI_clamp (by omega), fr_i F2 170 (by decide), hn, ho, nI_leI (by omega) (by omega)]
  refine ⟨fun _ => ?_, fun w => absurd (Nat.le_refl _) w⟩
  refine lp n (fun c h' => fr [184] h1 h' ∧ SV h' (fun i x => if i < c then rV A lab md i x else 0) n) (fun c h' => ex_G mX12_coloursOf (d + 1) 247 [.ref 168, .int (nI p), .int (nI md), .int (nI (ct (lm (sg n m)) (4 * n))), .int (nI c), .retAddr 0, .retAddr 0, .retAddr 0] [] h' bc bs Q) ⟨F2, fun i x hi hx => ?_⟩ ?_ ?_
  · show (if i < 0 then rV A lab md i x else 0) < 100 ∧ ah_i h2 184 (100 * i + x) = nI (if i < 0 then rV A lab md i x else 0)
    rw [if_neg (Nat.not_lt_zero i)]
    exact ⟨by decide, I _ (by omega)⟩
  · rintro c h3 hc ⟨F3, S3⟩ nx
    have lf : ∀ e, e < 4 * n → ah_i h1 183 (A e) = nI (lab (A e)) ∧ lab (A e) < 100 ∧ A e < 100 := fun e he => by
      obtain ⟨t1, t2, t3⟩ := L.1 (A e) ⟨e, he, rfl⟩
      exact ⟨t1, us100 _ t2, P.A100 he⟩
    obtain ⟨a1, a2, a3⟩ := lf (4 * c) (by omega)
    obtain ⟨b1, b2, b3⟩ := lf (4 * c + 1) (by omega)
    obtain ⟨c1, c2, c3⟩ := lf (4 * c + 2) (by omega)
    have e4 : (4 : Int32) * nI c = nI (4 * c) := pk_mul 4 c
    have hoc : ∀ y : Nat, (100 : Int32) * nI c + nI y = nI (100 * c + y) := fun y => by
      have : (100 : Int32) * nI c = nI (100 * c) := pk_mul 100 c
      rw [this, nI_add]
    have K3 := sp_fr K F3
    refine X12_coloursOf_247 ⟨o168 K3, 170, r168_2 K3, (s170 K3 _).mpr ((ix_nI (by omega)).mpr (by omega)), ?_⟩
    rw [nI_clamp (by omega), fr_i F3 170 (by decide), hn, nI_leI (by omega) (by omega)]
    refine ⟨fun w => by omega, fun _ x5 e5 => ?_⟩
    have e5' : x5 = nI (160 * p + 4 * c) := by rw [e5, po, e4, nI_add]
    clear e5
    subst e5'
    have e51 : nI (160 * p + 4 * c) + 1 = nI (160 * p + (4 * c + 1)) := nI_add _ 1
    have e52 : nI (160 * p + 4 * c) + 2 = nI (160 * p + (4 * c + 2)) := nI_add _ 2
    have arc : ∀ h', fr [184] h1 h' → ∀ e, e < 4 * n → ah_i h' 173 (160 * p + e) = nI (A e) := fun h' F' e he => by rw [fr_i F' 173 (by decide)]; exact hA e he
    have lbl : ∀ h', fr [184] h1 h' → ∀ e, e < 4 * n → ah_i h' 183 (A e) = nI (lab (A e)) := fun h' F' e he => by rw [fr_i F' 183 (by decide)]; exact (lf e he).1
    refine ⟨184, r168_19 K3, 183, r168_18 K3, 173, r168_5 K3, ?_⟩
    rw [nI_clamp (by omega), arc h3 F3 (4 * c) (by omega), nI_clamp (by omega), lbl h3 F3 (4 * c) (by omega), hoc, nI_clamp (by omega)]
    refine ⟨(s173 K3 _).mpr ((ix_nI (by omega)).mpr (by omega)), (s183 K3 _).mpr ((ix_nI (by omega)).mpr (by omega)), (s184 K3 _).mpr ((ix_nI (by omega)).mpr (by omega)), (t184 K3 _).mpr ((ix_nI (by omega)).mpr (by omega)), fun h12 e12 => ?_⟩
    have F12 : fr [184] h1 h12 := by rw [e12]; exact fr_si F3 (by decide)
    have K12 := sp_fr K F12
    have S12 := SV_add (D := 1) S3 hc a2 (by show (if c < c then _ else 0) + 1 < 100; rw [if_neg (Nat.lt_irrefl _)]; decide) e12
    rw [e52, nI_clamp (by omega), arc h12 F12 (4 * c + 2) (by omega), nI_clamp (by omega), lbl h12 F12 (4 * c + 2) (by omega), hoc, nI_clamp (by omega)]
    refine ⟨(s173 K12 _).mpr ((ix_nI (by omega)).mpr (by omega)), (s183 K12 _).mpr ((ix_nI (by omega)).mpr (by omega)), (s184 K12 _).mpr ((ix_nI (by omega)).mpr (by omega)), (t184 K12 _).mpr ((ix_nI (by omega)).mpr (by omega)), fun h17 e17 => ?_⟩
    have F17 : fr [184] h1 h17 := by rw [e17]; exact fr_si F12 (by decide)
    have K17 := sp_fr K F17
    have S12' := SV_congr (V' := fun i x => if i = c then (if x = lab (A (4 * c)) then 1 else 0) else if i < c then rV A lab md i x else 0) S12 (fun i x _ _ => by
      show (if i = c then (if x = lab (A (4 * c)) then 1 else 0) else if i < c then rV A lab md i x else 0) = (if i = c ∧ x = lab (A (4 * c)) then (if i < c then rV A lab md i x else 0) + 1 else if i < c then rV A lab md i x else 0)
      by_cases z : i = c
      · subst z
        by_cases z2 : x = lab (A (4 * i)) <;> simp [z2]
      · simp [z])
    have S17 := SV_add (D := 1) S12' hc c2 (by
      show (if c = c then (if lab (A (4 * c + 2)) = lab (A (4 * c)) then 1 else 0) else _) + 1 < 100
      rw [if_pos rfl]
      split <;> decide) e17
    have S17' := SV_congr (V' := fun i x => if i = c then (if x = lab (A (4 * c)) then 1 else 0) + (if x = lab (A (4 * c + 2)) then 1 else 0) else if i < c then rV A lab md i x else 0) S17 (fun i x _ _ => by
      show _ = (if i = c ∧ x = lab (A (4 * c + 2)) then (if i = c then (if x = lab (A (4 * c)) then 1 else 0) else if i < c then rV A lab md i x else 0) + 1 else (if i = c then (if x = lab (A (4 * c)) then 1 else 0) else if i < c then rV A lab md i x else 0))
      by_cases z : i = c
      · subst z
        by_cases z2 : x = lab (A (4 * i + 2)) <;> simp [z2]
      · simp [z])
    rw [e51, nI_clamp (by omega), arc h17 F17 (4 * c + 1) (by omega), nI_clamp (by omega), lbl h17 F17 (4 * c + 1) (by omega), hoc, nI_clamp (by omega)]
    have md2 : nI md - 2 = nI (md - 2) := pk_sub (b := 2) (by omega)
    rw [md2]
    refine ⟨(s173 K17 _).mpr ((ix_nI (by omega)).mpr (by omega)), (s183 K17 _).mpr ((ix_nI (by omega)).mpr (by omega)), (s184 K17 _).mpr ((ix_nI (by omega)).mpr (by omega)), (t184 K17 _).mpr ((ix_nI (by omega)).mpr (by omega)), fun h22 e22 x24 e24 => ?_⟩
    have e24' : x24 = nI (c + 1) := by rw [e24]; exact nI_add _ 1
    rw [e24']
    have S22 := SV_add (D := md - 2) S17' hc b2 (by
      show (if c = c then (if lab (A (4 * c + 1)) = lab (A (4 * c)) then 1 else 0) + (if lab (A (4 * c + 1)) = lab (A (4 * c + 2)) then 1 else 0) else _) + (md - 2) < 100
      rw [if_pos rfl]
      split <;> split <;> omega) e22
    refine nx h22 ⟨by rw [e22]; exact fr_si F17 (by decide), SV_congr S22 (fun i x _ _ => ?_)⟩
    show (if i < c + 1 then rV A lab md i x else 0) = (if i = c ∧ x = lab (A (4 * c + 1)) then (if i = c then (if x = lab (A (4 * c)) then 1 else 0) + (if x = lab (A (4 * c + 2)) then 1 else 0) else if i < c then rV A lab md i x else 0) + (md - 2) else (if i = c then (if x = lab (A (4 * c)) then 1 else 0) + (if x = lab (A (4 * c + 2)) then 1 else 0) else if i < c then rV A lab md i x else 0))
    by_cases z : i = c
    · subst z
      unfold rV
      by_cases z2 : x = lab (A (4 * i + 1)) <;> simp [z2]
    · have e : i < c + 1 ↔ i < c := by omega
      simp [z, e]
  · rintro h3 ⟨F3, S3⟩
    have K3 := sp_fr K F3
    refine X12_coloursOf_247 ⟨o168 K3, 170, r168_2 K3, (s170 K3 _).mpr ((ix_nI (by omega)).mpr (by omega)), ?_⟩
    rw [nI_clamp (by omega), fr_i F3 170 (by decide), hn, nI_leI (by omega) (by omega)]
    exact ⟨fun _ => k h3 F3 (SV_congr S3 (fun i x hi _ => (if_pos hi).symm)), fun w => absurd (Nat.le_refl _) w⟩
end MSUM
