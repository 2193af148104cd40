/-! item, trace, way, findings, count, at, loose. -/
section GET
variable {h : AH} {d bc bs : Nat} {W : Nat → Nat} {N : Nat} {B : Nat → Nat} {S : Nat → Int32} {len : Nat}
theorem has6 {b n : Nat} (hn : ah_f h b 1 = nI n) (hb : n < 2 ^ 31) (v : Int32) : X6_has_V b v h = 0 ↔ ¬ ix v n := by
  unfold X6_has_V
  rw [hn]
  exact ask_ix hb
theorem nu_read {b a fm ma cap : Nat} (x : NU h b a fm ma cap) (hc : cap < 2 ^ 31) (v e : Int32) : (if X6_has_V b v h = 0 then e else ah_i h a (Int32.toNatClampNeg v)) = (if X12_in_V (Int32.toInt64 v) 0 (Int32.toInt64 (ah_f h 168 fm - 1)) h = 0 then e else ah_i h ma (Int32.toNatClampNeg v)) := by
  obtain ⟨n, x1, x2, x3, x4⟩ := x
  rw [x3]
  have hin : X12_in_V (Int32.toInt64 v) 0 (Int32.toInt64 (nI n - 1)) h = 0 ↔ ¬ ix v n := in_ix (by omega) h
  by_cases q : ix v n
  · rw [if_neg (fun z => (has6 x2 (by omega) v).mp z q), if_neg (fun z => hin.mp z q)]
    obtain ⟨j, hj, e2⟩ := ix_of q (by omega)
    rw [e2, nI_clamp (by omega)]
    exact x4 j hj
  · rw [if_pos ((has6 x2 (by omega) v).mpr q), if_pos (hin.mpr q)]
theorem nu_c {b a fm ma cap : Nat} (x : NU h b a fm ma cap) (hc : cap < 2 ^ 31) (v : Int32) (hz : ¬ X6_has_V b v h = 0) : ix v cap := by
  obtain ⟨n, x1, x2, x3, x4⟩ := x
  rw [has6 x2 (by omega), Classical.not_not] at hz
  obtain ⟨j, hj, e2⟩ := ix_of hz (by omega)
  rw [e2, ix_nI (by omega)]
  omega
theorem nu_m {b a fm ma cap : Nat} (x : NU h b a fm ma cap) (hc : cap < 2 ^ 31) (v : Int32) (hz : ¬ X12_in_V (Int32.toInt64 v) 0 (Int32.toInt64 (ah_f h 168 fm - 1)) h = 0) : ix v cap := by
  obtain ⟨n, x1, x2, x3, x4⟩ := x
  rw [x3] at hz
  have hin : X12_in_V (Int32.toInt64 v) 0 (Int32.toInt64 (nI n - 1)) h = 0 ↔ ¬ ix v n := in_ix (by omega) h
  rw [hin, Classical.not_not] at hz
  obtain ⟨j, hj, e2⟩ := ix_of hz (by omega)
  rw [e2, ix_nI (by omega)]
  omega
theorem st_item (x : R0 h W N B S len) (v : Int32) : ST yX11_item mX11_item yX12_item mX12_item (d + 1) (d + 1) [.int v] h bc bs W S len := by
  have K := x.2.1
  have T := x.2.2.2.2.2.2.1.1
  refine X11_item_s ⟨o0 K, 3, r0_2 K, o3 K, ⟨fun _ => trivial, fun _ => ⟨o3 K, trivial⟩⟩, fun _ => trivial, fun z => ⟨4, r3_0 K, (s4 K v).mpr (nu_c T (by decide) v z), trivial⟩⟩ ⟨_, rfl, ?_⟩
  refine X12_item_s ⟨o168 K, fun _ => trivial, fun z => ⟨191, r168_28 K, (s191 K v).mpr (nu_m T (by decide) v z), trivial⟩⟩ ⟨?_, D_id x⟩
  unfold X11_item_V X12_item_V
  rw [r0_2 K, Option.getD_some, r3_0 K, Option.getD_some, r168_28 K, Option.getD_some]
  rw [nu_read T (by decide) v]
theorem st_trace (x : R0 h W N B S len) (v : Int32) : ST yX11_trace mX11_trace yX12_trace mX12_trace (d + 1) (d + 1) [.int v] h bc bs W S len := by
  have K := x.2.1
  have T := x.2.2.2.2.2.2.1.2.1
  refine X11_trace_s ⟨o0 K, 5, r0_3 K, o5 K, ⟨fun _ => trivial, fun _ => ⟨o5 K, trivial⟩⟩, fun _ => trivial, fun z => ⟨6, r5_0 K, (s6 K v).mpr (nu_c T (by decide) v z), trivial⟩⟩ ⟨_, rfl, ?_⟩
  refine X12_trace_s ⟨o168 K, fun _ => trivial, fun z => ⟨198, r168_37 K, (s198 K v).mpr (nu_m T (by decide) v z), trivial⟩⟩ ⟨?_, D_id x⟩
  unfold X11_trace_V X12_trace_V
  rw [r0_3 K, Option.getD_some, r5_0 K, Option.getD_some, r168_37 K, Option.getD_some]
  rw [nu_read T (by decide) v]
theorem st_way (x : R0 h W N B S len) (v : Int32) : ST yX11_way mX11_way yX12_way mX12_way (d + 1) (d + 1) [.int v] h bc bs W S len := by
  have K := x.2.1
  have T := x.2.2.2.2.2.2.1.2.2
  refine X11_way_s ⟨o0 K, 125, r0_12 K, o125 K, 134, r125_3 K, o134 K, ⟨fun _ => trivial, fun _ => ⟨o134 K, trivial⟩⟩, fun _ => trivial, fun z => ⟨135, r134_0 K, (s135 K v).mpr (nu_c T (by decide) v z), trivial⟩⟩ ⟨_, rfl, ?_⟩
  refine X12_way_s ⟨o168 K, fun _ => trivial, fun z => ⟨212, r168_58 K, (s212 K v).mpr (nu_m T (by decide) v z), trivial⟩⟩ ⟨?_, D_id x⟩
  unfold X11_way_V X12_way_V
  rw [r0_12 K, Option.getD_some, r125_3 K, Option.getD_some, r134_0 K, Option.getD_some, r168_58 K, Option.getD_some]
  rw [nu_read T (by decide) v]
theorem st_findings (x : R0 h W N B S len) (v : Int32) : ST yX11_findings mX11_findings yX12_findings mX12_findings d (d + 1) [.int v] h bc bs W S len := by
  have K := x.2.1
  have hin : X12_in_V (Int32.toInt64 v) 1 9 h = 0 ↔ ¬ (1 ≤ v.toInt ∧ v.toInt ≤ 9) := in_rg 1 9 (by decide) (by decide) h
  have e1 : (1 : Int32).toInt = 1 := by decide
  have e9 : (9 : Int32).toInt = 9 := by decide
  have l1 : v < 1 ↔ v.toInt < 1 := by rw [Int32.lt_iff_toInt_lt, e1]
  have l9 : 9 < v ↔ 9 < v.toInt := by rw [Int32.lt_iff_toInt_lt, e9]
  have pl : 1 ≤ v.toInt ∧ v.toInt ≤ 9 → ∃ j : Nat, 1 ≤ j ∧ j ≤ 9 ∧ v = nI j := fun q => by
    obtain ⟨j, hj, e⟩ := ix_of (show ix v 10 from ⟨by omega, by omega⟩) (by decide)
    rw [e, nI_toInt (by omega)] at q
    exact ⟨j, by omega, by omega, e⟩
  have ok : 1 ≤ v.toInt ∧ v.toInt ≤ 9 → ix v 10 := fun q => ⟨by omega, by omega⟩
  refine X11_findings_s ⟨fun _ => trivial, fun a => ⟨fun _ => trivial, fun b => ⟨o0 K, 167, r0_14 K, (s167 K v).mpr (ok ⟨by rw [l1] at a; omega, by rw [l9] at b; omega⟩), trivial⟩⟩⟩ ⟨_, rfl, ?_⟩
  refine X12_findings_s ⟨fun _ => trivial, fun z => ⟨o168 K, 169, r168_1 K, (s169 K v).mpr (ok (by rw [hin, Classical.not_not] at z; exact z)), trivial⟩⟩ ⟨?_, D_id x⟩
  unfold X11_findings_V X12_findings_V
  rw [r0_14 K, r168_1 K, Option.getD_some, Option.getD_some]
  by_cases q : 1 ≤ v.toInt ∧ v.toInt ≤ 9
  · rw [if_neg (fun z => hin.mp z q), if_neg (by rw [l1]; omega), if_neg (by rw [l9]; omega)]
    obtain ⟨j, j1, j9, e⟩ := pl q
    rw [e, nI_clamp (by omega), x.1.2.2.2 j j1 j9]
  · rw [if_pos (hin.mpr q)]
    by_cases a : v < 1
    · rw [if_pos a]
    · rw [if_neg a]
      rw [l1] at a
      rw [if_pos (by rw [l9]; omega)]
theorem st_count (x : R0 h W N B S len) (v : Int32) : ST yX11_count mX11_count yX12_count mX12_count d d [.int v] h bc bs W S len := by
  have K := x.2.1
  obtain ⟨h24, hN, hN2, -⟩ := x.2.2.2.2.1
  obtain ⟨Mv, -, m2, m3, -⟩ := x.2.2.2.2.2.1
  obtain ⟨tn, -, t2, t3, -⟩ := x.2.2.2.2.2.2.1.1
  obtain ⟨wn, -, w2, w3⟩ := x.2.2.2.2.2.2.2.2.1
  obtain ⟨bn, -, b2, b3, -⟩ := x.2.2.2.2.2.2.2.2.2
  have mc : ∀ r : Int32, X12_count_V 168 v h = r → ex_S yX12_count mX12_count d [.ref 168, .int v] h 0 0 (fun r' h2 => r' = some (.int r) ∧ DONE h h2 W S len) := fun r e => by
    refine X12_count_s ⟨fun _ => ⟨fun _ => ⟨fun _ => ⟨fun _ => ⟨fun _ => trivial, fun _ => ⟨o168 K, trivial⟩⟩, fun _ => ⟨o168 K, trivial⟩⟩, fun _ => ⟨o168 K, trivial⟩⟩, fun _ => ⟨o168 K, trivial⟩⟩, fun _ => ⟨o168 K, trivial⟩⟩ ⟨by rw [e], D_id x⟩
  unfold X12_count_V at mc
  rw [hN2, m3, b3, t3, w3] at mc
  refine X11_count_e (X11_count_0 ⟨fun e => ⟨o0 K, _, rfl, mc _ ?_⟩, fun e => ⟨o0 K, _, rfl, mc _ ?_⟩, fun e => ⟨o0 K, 164, r0_13 K, o164 K, _, rfl, mc _ ?_⟩, fun e => ⟨o0 K, 3, r0_2 K, o3 K, _, rfl, mc _ ?_⟩, fun e => ⟨o0 K, 32, r0_7 K, o32 K, _, rfl, mc _ ?_⟩, fun e0 e1 e2 e3 e4 => ⟨_, rfl, mc _ ?_⟩⟩)
  · rw [if_pos e, hN]
  · rw [e, if_neg (by decide), if_pos rfl, m2]
  · rw [e, if_neg (by decide), if_neg (by decide), if_pos rfl, b2]
  · rw [e, if_neg (by decide), if_neg (by decide), if_neg (by decide), if_pos rfl, t2]
  · rw [e, if_neg (by decide), if_neg (by decide), if_neg (by decide), if_neg (by decide), if_pos rfl, w2]
  · rw [if_neg e0, if_neg e1, if_neg e2, if_neg e3, if_neg e4]
end GET
