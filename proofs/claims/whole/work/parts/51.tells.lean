/-! tells. -/
def bn (kd : Nat) : Nat := if kd = 1 then 3 else 1
def bv (kd i : Nat) : Int32 := if kd = 0 then nI 1 else if kd = 1 then (if i = 0 then nI 2 else nI 1) else if kd = 4 then nI 5 else if kd = 5 then nI 6 else nI 3
def gv (kd : Nat) : Int32 := if kd = 0 then nI 1 else if kd = 1 then nI 2 else if kd = 4 then m1 else nI 0
section TELLS
variable {h h' : AH} {d bc bs : Nat} {Q : Option Value → AH → Prop} {W : Nat → Nat} {N : Nat} {B : Nat → Nat} {S : Nat → Int32} {len : Nat}
theorem c_body (K : sp h) {n : Nat} (hn : ah_f h 5 1 = nI n) (hl : n < 3) (v : Int32) (k : ∀ h', fr [5, 6] h h' → ah_f h' 5 1 = nI (n + 1) → ah_i h' 6 = u1 (ah_i h 6) n v → Q (some (.int (nI 1))) h') : ex_S yX6_add mX6_add d [.ref 5, .int v] h bc bs Q :=
  c_numadd (o5 K) (r5_0 K) (sp_x K 6 (by decide) rfl) (by decide) hn hl v k
theorem c_twistG (K : sp h) {n : Nat} (hn : ah_f h 5 1 = nI n) (hl : n < 3) (k : ∀ h', fr [5, 6] h h' → ah_f h' 5 1 = nI (n + 1) → ah_i h' 6 = u1 (ah_i h 6) n (nI 1) → Q (some (.int (nI 1))) h') : ex_S yX5_twistGrowth mX5_twistGrowth (d + 1) [.ref 5] h bc bs Q :=
  X5_twistGrowth_e (X5_twistGrowth_0 ⟨o5 K, c_body K hn hl _ (fun h' F g1 g2 => ⟨_, rfl, k h' F g1 g2⟩)⟩)
theorem c_growth (K : sp h) {a kd : Nat} (oa : ah_o h a 5) (hk : kd < 6) (hf : ah_f h a 0 = nI kd) (hn : ah_f h 5 1 = nI 0) (k : ∀ h', fr [5, 6] h h' → ah_f h' 5 1 = nI (bn kd) → (∀ i, i < bn kd → ah_i h' 6 i = bv kd i) → Q (some (.int (gv kd))) h') : ex_S yX5_growth mX5_growth (d + 2) [.ref a, .ref 5] h bc bs Q := by
  refine X5_growth_e (X5_growth_0 ⟨oa, ?_⟩)
  rw [hf]
  have one : ∀ (v : Int32) (g : Int32), bn kd = 1 → (∀ i, i < 1 → bv kd i = v) → gv kd = g → ex_S yX6_add mX6_add (d + 1) [.ref 5, .int v] h 0 0 (fun r h2 => ∃ x, r = some (.int x) ∧ Q (some (.int g)) h2) := fun v g e1 e2 e3 => c_body K hn (by decide) v (fun h2 F g1 g2 => ⟨_, rfl, by
    rw [← e3]
    refine k h2 F (by rw [e1]; exact g1) (fun i hi => ?_)
    rw [e1] at hi
    rw [g2, e2 i hi, show i = 0 by omega, u1_s]⟩)
  rcases (show kd = 0 ∨ kd = 1 ∨ kd = 2 ∨ kd = 3 ∨ kd = 4 ∨ kd = 5 by omega) with e | e | e | e | e | e <;> subst e
  · refine ⟨fun _ => c_twistG K hn (by decide) (fun h2 F g1 g2 => ⟨_, rfl, k h2 F g1 (fun i hi => ?_)⟩), fun z => absurd z (by decide), fun z => absurd z (by decide), fun z => absurd z (by decide), fun z => absurd rfl z⟩
    have : i = 0 := by unfold bn at hi; simp at hi; omega
    rw [g2, this, u1_s]
    rfl
  · refine ⟨fun z => absurd z (by decide), fun _ => ⟨o5 K, c_body K hn (by decide) _ (fun h2 F2 a1 a2 => ⟨_, rfl, c_twistG (sp_fr K F2) a1 (by decide) (fun h3 F3 b1 b2 => ⟨_, rfl, c_twistG (sp_fr (sp_fr K F2) F3) b1 (by decide) (fun h4 F4 c1 c2 => ⟨_, rfl, ?_⟩)⟩)⟩)⟩, fun z => absurd z (by decide), fun z => absurd z (by decide), fun _ z => absurd rfl z⟩
    refine k h4 (fr_trans F2 (fr_trans F3 F4)) c1 (fun i hi => ?_)
    have hi3 : i < 3 := hi
    rw [c2, b2, a2]
    rcases (show i = 0 ∨ i = 1 ∨ i = 2 by omega) with e | e | e <;> subst e
    · rw [u1_n _ _ (by decide), u1_n _ _ (by decide), u1_s]; rfl
    · rw [u1_n _ _ (by decide), u1_s]; rfl
    · rw [u1_s]; rfl
  · exact ⟨fun z => absurd z (by decide), fun z => absurd z (by decide), fun z => absurd z (by decide), fun z => absurd z (by decide), fun _ _ _ _ => ⟨o5 K, one (nI 3) (nI 0) rfl (fun _ _ => rfl) rfl⟩⟩
  · exact ⟨fun z => absurd z (by decide), fun z => absurd z (by decide), fun z => absurd z (by decide), fun z => absurd z (by decide), fun _ _ _ _ => ⟨o5 K, one (nI 3) (nI 0) rfl (fun _ _ => rfl) rfl⟩⟩
  · exact ⟨fun z => absurd z (by decide), fun z => absurd z (by decide), fun _ => ⟨o5 K, one (nI 5) m1 rfl (fun _ _ => rfl) rfl⟩, fun z => absurd z (by decide), fun _ _ z => absurd rfl z⟩
  · exact ⟨fun z => absurd z (by decide), fun z => absurd z (by decide), fun z => absurd z (by decide), fun _ => ⟨o5 K, one (nI 6) (nI 0) rfl (fun _ _ => rfl) rfl⟩, fun _ _ _ z => absurd rfl z⟩
theorem bodyC (K : sp h) {n : Nat} (hn : ah_f h 168 38 = nI n) (hl : n < 3) (v : Int32) : X12_body_C 168 v h := by
  refine ⟨o168 K, 198, r168_37 K, ?_, trivial⟩
  rw [hn, t198 K, ix_nI (by omega)]
  omega
theorem bodyH (K : sp h) {n : Nat} (hn : ah_f h 168 38 = nI n) (hl : n < 3) (v : Int32) : fr [168, 198] h (X12_body_H 168 v h) ∧ ah_f (X12_body_H 168 v h) 168 = u1 (ah_f h 168) 38 (nI (n + 1)) ∧ ah_i (X12_body_H 168 v h) 198 = u1 (ah_i h 198) n v := by
  unfold X12_body_H
  rw [r168_37 K, Option.getD_some, hn, nI_clamp (by omega)]
  refine ⟨fr_sf (fr_si (fr_refl _ h) (by decide)) (by decide), ?_, ?_⟩
  · rw [f_sf_s, f_si, hn]
    have : nI n + 1 = nI (n + 1) := nI_1 n
    rw [this]
  · rw [i_sf, i_si_s]
theorem m_moreOf (K : sp h) {kd : Nat} (hk : kd < 6) (hn : ah_f h 168 38 = nI 0) (k : ∀ h', fr [168, 198] h h' → ah_f h' 168 = u1 (ah_f h 168) 38 (nI (bn kd)) → (∀ i, i < bn kd → ah_i h' 198 i = bv kd i) → Q (some (.int (gv kd))) h') : ex_S yX12_moreOf mX12_moreOf (d + 1) [.ref 168, .int (nI kd)] h bc bs Q := by
  refine X12_moreOf_e (X12_moreOf_0 ?_)
  have one : ∀ (v : Int32) (g : Int32), bn kd = 1 → (∀ i, i < 1 → bv kd i = v) → gv kd = g → ah_o h 168 12 ∧ X12_body_C 168 v h ∧ ∀ h4, h4 = X12_body_H 168 v h → Q (some (.int g)) h4 := fun v g e1 e2 e3 => ⟨o168 K, bodyC K hn (by decide) v, fun h4 e4 => by
    obtain ⟨F, g1, g2⟩ := bodyH K hn (by decide) v
    rw [← e4] at F g1 g2
    rw [← e3]
    refine k h4 F (by rw [e1]; exact g1) (fun i hi => ?_)
    rw [e1] at hi
    rw [g2, e2 i hi, show i = 0 by omega, u1_s]⟩
  rcases (show kd = 0 ∨ kd = 1 ∨ kd = 2 ∨ kd = 3 ∨ kd = 4 ∨ kd = 5 by omega) with e | e | e | e | e | e <;> subst e
  · exact ⟨fun _ => one (nI 1) (nI 1) rfl (fun _ _ => rfl) rfl, fun z => absurd z (by decide), fun z => absurd z (by decide), fun z => absurd z (by decide), fun z => absurd z (by decide), fun z => absurd rfl z⟩
  · refine ⟨fun z => absurd z (by decide), fun _ => ⟨o168 K, bodyC K hn (by decide) _, fun h2 e2 => ?_⟩, fun z => absurd z (by decide), fun z => absurd z (by decide), fun z => absurd z (by decide), fun _ z => absurd rfl z⟩
    obtain ⟨F2, a1, a2⟩ := bodyH K hn (by decide) (nI 2)
    rw [show X12_body_H 168 (nI 2) h = h2 from e2.symm] at F2 a1 a2
    have K2 := sp_fr K F2
    have n2 : ah_f h2 168 38 = nI 1 := by rw [a1, u1_s]
    refine ⟨o168 K2, bodyC K2 n2 (by decide) _, fun h3 e3 => ?_⟩
    obtain ⟨F3, b1, b2⟩ := bodyH K2 n2 (by decide) (nI 1)
    rw [show X12_body_H 168 (nI 1) h2 = h3 from e3.symm] at F3 b1 b2
    have K3 := sp_fr K2 F3
    have n3 : ah_f h3 168 38 = nI 2 := by rw [b1, u1_s]
    refine ⟨o168 K3, bodyC K3 n3 (by decide) _, fun h4 e4 => ?_⟩
    obtain ⟨F4, c1, c2⟩ := bodyH K3 n3 (by decide) (nI 1)
    rw [show X12_body_H 168 (nI 1) h3 = h4 from e4.symm] at F4 c1 c2
    refine k h4 (fr_trans F2 (fr_trans F3 F4)) (by rw [c1, b1, a1, u1_u, u1_u]; rfl) (fun i hi => ?_)
    have hi3 : i < 3 := hi
    rw [c2, b2, a2]
    rcases (show i = 0 ∨ i = 1 ∨ i = 2 by omega) with e | e | e <;> subst e
    · rw [u1_n _ _ (by decide), u1_n _ _ (by decide), u1_s]; rfl
    · rw [u1_n _ _ (by decide), u1_s]; rfl
    · rw [u1_s]; rfl
  · exact ⟨fun z => absurd z (by decide), fun z => absurd z (by decide), fun _ => one (nI 3) (nI 0) rfl (fun _ _ => rfl) rfl, fun z => absurd z (by decide), fun z => absurd z (by decide), fun _ _ z => absurd rfl z⟩
  · exact ⟨fun z => absurd z (by decide), fun z => absurd z (by decide), fun z => absurd z (by decide), fun _ => one (nI 3) (nI 0) rfl (fun _ _ => rfl) rfl, fun z => absurd z (by decide), fun _ _ _ z => absurd rfl z⟩
  · exact ⟨fun z => absurd z (by decide), fun z => absurd z (by decide), fun z => absurd z (by decide), fun z => absurd z (by decide), fun _ => one (nI 5) m1 rfl (fun _ _ => rfl) rfl, fun _ _ _ _ z => absurd rfl z⟩
  · exact ⟨fun z => absurd z (by decide), fun z => absurd z (by decide), fun z => absurd z (by decide), fun z => absurd z (by decide), fun z => absurd z (by decide), fun _ _ _ _ _ => one (nI 6) (nI 0) rfl (fun _ _ => rfl) rfl⟩
end TELLS
