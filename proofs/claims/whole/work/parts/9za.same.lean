/-! same. -/
section SAME
variable {h h1 h2 h' hz hm : AH} {d bc bs : Nat} {Q : Option Value → AH → Prop} {W W' : Nat → Nat} {N : Nat} {B : Nat → Nat} {S : Nat → Int32} {len : Nat} {u c cu s e f n l na la nb lb w : Nat} {A Ab ma sa mb sb : Nat → Nat} {D : SD} {G : Nat → Nat → (Nat → Nat) → Prop} {st : Int32}
theorem c_part2 {wa wb : Int} (K : sp h) (L : LAC h) (O : OLD h S len) (Ra : Pr na A ma) (Rb : Pr nb Ab mb) (n12 : na ≤ 12) (n40 : nb ≤ 40) (la9 : la ≤ 9) (lb9 : lb ≤ 9) (xa : LKd h 7 na la ma) (xb : LKd h 18 nb lb mb) (ha : SOx na ma sa) (hb : SOx nb mb sb) (hw : ah_f h 32 3 = nI w) (w6 : w ≤ 1000000) (ea : wr na ma na = iI wa) (eb : wr nb mb nb = iI wb) (va : -(na : Int) ≤ wa ∧ wa ≤ na) (vb : -(nb : Int) ≤ wb ∧ wb ≤ nb)
    (k : ∀ v w' h', OUTC na la ma sa wa nb lb mb sb wb w v w' → v ≤ 6 → CNf w' h h' → Q (some (.int (nI v))) h')
    (k9 : PBo na la ma sa nb lb mb sb 6 → nb ≤ 14 → 1000000 < w + 2 ^ na + 2 ^ nb → ∀ h', fcs h h' → Q (some (.int (-nI 19))) h') : ex_S yX11_partingNumber mX11_partingNumber (d + 19) [.ref 0] h bc bs Q :=
  c_parting K L O Ra Rb n12 n40 la9 lb9 xa xb ha hb hw w6 ea eb va vb (fun v h' po v6 F => k v w h' (Or.inl ⟨po, v6, rfl⟩) (by omega) (CNf_fcs K L hw w6 F)) k9 (fun po le lw h' v cn pol => k v _ h' (Or.inr ⟨po, le, rfl, lw, pol⟩) (by omega) cn)
theorem FY_FN (x : FN w h h') : FY h h' := ⟨x.1, fun a a1 _ => x.2.1 a a1, x.2.2.1, fun k hk => x.2.2.2.1 k (fun q => by rw [q] at hk; exact absurd hk (by decide)) (fun q => by rw [q] at hk; exact absurd hk (by decide)), fun s hs => x.2.2.2.2.1 s (by omega)⟩
theorem FY_f {k : Nat} {v : Int32} (K : sp h) (hk : k = 60) (e2 : h2 = ah_sf h 168 k v) : FY h h2 := by
  have F : fr [168] h h2 := by rw [e2]; exact fr_sf (fr_refl _ h) (by decide)
  have f1 : ah_f h2 168 = u1 (ah_f h 168) k v := by rw [e2, f_sf_s]
  refine ⟨F.1.1, fun a a1 _ => eqc_fr F (fun q => a1 ?_), sp_fr K F, fun j hj => by rw [f1, u1_n _ _ (fun q => by rw [q, hk] at hj; exact absurd hj (by decide))], fun s _ => sl_of s (fr_i F 170 (by decide)) (fr_i F 171 (by decide)) (fr_i F 172 (by decide)) (fr_i F 173 (by decide))⟩
  simp only [List.mem_cons, List.not_mem_nil, or_false] at q
  rw [q]
  decide
theorem FY_ways {L : Nat} (K : sp h) (F : fr [168, 212] h h') (f1 : ah_f h' 168 = u1 (ah_f h 168) 59 (nI L)) : FY h h' := by
  refine ⟨F.1.1, fun a a1 a2 => eqc_fr F (fun q => ?_), sp_fr K F, fun j hj => by rw [f1, u1_n _ _ (fun q => by rw [q] at hj; exact absurd hj (by decide))], fun s _ => sl_of s (fr_i F 170 (by decide)) (fr_i F 171 (by decide)) (fr_i F 172 (by decide)) (fr_i F 173 (by decide))⟩
  simp only [List.mem_cons, List.not_mem_nil, or_false] at q
  rcases q with q | q
  · exact a1 (by rw [q]; decide)
  · omega
theorem FX_fr {L : List Nat} (K : sp h) (La : LAC h) (F : fr L h h') (s : ∀ a, a ∈ L → 125 ≤ a ∧ a ≤ 163) : FX W h h' := ⟨by rw [F.1.1]; exact Nat.le_refl _, fun a ha => eqc_fr F (fun q => by have := s a q; omega), sp_fr K F, LAC_q La F.1.2.2.1 F.1.2.2.2, fun j _ => by rw [fr_f F 0 (fun q => by have := s 0 q; omega)]⟩
theorem FX_CN (x : CNf w h h') : FX W h h' := ⟨by rw [x.1]; exact Nat.le_refl _, fun a ha => x.2.1 a (fun q => by
  have := cscr_lt a q
  rcases ha with z | z | z
  · exact z.2.1 q
  · omega
  · omega) (by omega), x.2.2.1, x.2.2.2.1, fun j _ => by rw [(x.2.1 0 (by decide) (by decide)).2.1]⟩
theorem FX_18 {v : Int32} (K : sp h) (La : LAC h) (e2 : h2 = ah_sf h 0 18 v) : FX W h h2 := by
  have F : fr [0] h h2 := by rw [e2]; exact fr_sf (fr_refl _ h) (by decide)
  refine ⟨by rw [F.1.1]; exact Nat.le_refl _, fun a ha => eqc_fr F (fun q => ?_), sp_fr K F, LAC_q La F.1.2.2.1 F.1.2.2.2, fun j hj => by rw [e2, f_sf_s, u1_n _ _ hj]⟩
  simp only [List.mem_cons, List.not_mem_nil, or_false] at q
  omega
theorem RU_f1 {lim j c' cu' s' g' e' f' : Nat} {D' : SD} (R : RU G lim j c D cu s 0 e 1 c' D' cu' s' g' e' f') : c' = c ∧ D' = D ∧ cu' = cu ∧ s' = s ∧ g' = 0 ∧ e' = e ∧ f' = 1 := by
  cases j with
  | zero => exact R.1
  | succ j => exact absurd R.2.1 (by decide)
/-- the reference from where it sets 'parted', to 0 -/
theorem m_same0 {p q lim j f c' cu' s' g' e' f' L : Nat} {D' : SD} {Fc V : Nat → Nat} (K : sp hm) (hp : p < 24) (hq : q < 24) (M1 : mD hm p n l A) (M2 : mD hm q nb lb Ab) (gd : GDp n l A) (n40 : nb ≤ 40) (lb9 : lb ≤ 9) (Rb : Pr nb Ab (mt nb Ab)) (hlim : lim ≤ 5000) (R : RU (fun n' l' A' => AK n' l' A' nb lb Ab) lim j 1 (fun _ => (n, l, A, 0, 0)) 0 0 0 0 f c' D' cu' s' g' e' f') (hf : (f = 1 ∧ AK n l A nb lb Ab) ∨ (f = 0 ∧ ¬ AK n l A nb lb Ab)) (eF : Fc = fun k => (D' k).2.2.2.1) (eV : V = fun k => (D' k).2.2.2.2) (l1 : L ≤ c' - 1) (l2 : chn Fc (c' - 1) L = 0) (l3 : ∀ i, i < L → 0 < chn Fc (c' - 1) i ∧ chn Fc (c' - 1) i < c')
    (kk : ∀ h', FY hm h' → ah_f h' 168 60 = nI 0 → ah_f h' 168 49 = 1 → ah_f h' 168 23 = ah_f hm 168 23 → MSI h' c' D' cu' s' e' (0 + nI g') → (f' = 1 → ah_f h' 168 59 = nI L ∧ ∀ j, j < L → ah_i h' 212 j = nI (V (chn Fc (c' - 1) (L - 1 - j)))) → (f' = 0 → ah_f h' 168 59 = ah_f hm 168 59 ∧ ah_i h' 212 = ah_i hm 212) → Q (some (.int (if f' = 1 then 1 else -1))) (mNo h' (nI 0))) : ex_G mX12_same (d + 5) 142 [.ref 168, .int (nI p), .int (nI q), .int (nI lim), .int (nI 0), .retAddr 0] [] hm bc bs Q := by
  have h12 := gd.1
  refine X12_same_142 ⟨o168 K, fun h2 e2 => ⟨fun _ => ?_, fun w => absurd (show (nI 0 : Int32) ≤ 0 by decide) w⟩⟩
  have F2 : fr [168] hm h2 := by rw [e2]; exact fr_sf (fr_refl _ hm) (by decide)
  have f2 : ah_f h2 168 = u1 (ah_f hm 168) 60 (nI 0) := by rw [e2, f_sf_s]
  have fy2 : FY hm h2 := FY_f K rfl e2
  clear e2
  have K2 := sp_fr K F2
  have N2 : mD h2 q nb lb Ab := mD_sc M2 F2 (by decide)
  have N1 : mD h2 p n l A := mD_sc M1 F2 (by decide)
  refine m_link (s := q) (A := Ab) K2 (by omega) N2.1 n40 N2.2.2.2 Rb (fun h4 F4 g4 => ⟨rfl, ?_⟩)
  have K4 := sp_fr K2 F4
  have N4 : mD h4 q nb lb Ab := mD_sc N2 F4 (by decide)
  refine ⟨o168 K4, 208, r168_48 K4, m_codeInto (d := d + 2) (s := q) (o := 0) (l := lb) K4 Rb n40 lb9 (by omega) N4 g4 (sp_x K4 208 (by decide) rfl) (Or.inr (Or.inl rfl)) (by omega) (by decide) (fun h7 P7 Nk7 fk7 F7 cd7 ob7 X7 b7 _ => ⟨rfl, ?_⟩)⟩
  have K7 := sp_fr K4 F7
  have G7 : fms h2 h7 := fms_trans (fms_sc F4 (by decide)) (fms_sc F7 (by decide))
  have N7 : mD h7 p n l A := mD_sl N1 (by omega) (G7.2.2.2.2 p (by omega))
  refine ⟨o168 K7, m_begin (d := d + 1) K7 hp N7 gd (fun h8 fm8 i8 b49 mi8 => ⟨rfl, ?_⟩)⟩
  have K8 := mi8.1
  have X8 : OUT (ah_i h8 208) 0 lb nb P7 Nk7 fk7 := by rw [i8]; exact X7
  have fyb : FY hm h8 := FY_trans fy2 (FY_trans (FY_fms K2 G7) (FY_FMb fm8))
  have fk8 : ∀ k, k ≠ 9 → ¬ (49 ≤ k ∧ k ≤ 54) → ah_f h8 168 k = ah_f h2 168 k := fun k k1 k2 => by rw [fm8.2.2.2.1 k k1 k2, G7.2.2.2.1 k k1]
  have i212 : ah_i h8 212 = ah_i hm 212 := by rw [(fm8.2.1 212 (by decide) (by decide) (by decide) (by decide)).2.2.1, (G7.2.1 212 (by decide)).2.2.1, fr_i F2 212 (by decide)]
  obtain ⟨y1, ⟨P0, Nk0, fk0, cd0, ob0, X0, b0⟩, -⟩ := mi8.2.2.2.2.2.2 0 (by omega)
  have cond := AK_iff (l := l) (l' := lb) gd.2.2 Rb cd0 cd7
  refine ⟨o168 K8, 211, r168_57 K8, 208, r168_48 K8, m_alike (o1 := 0) (o2 := 0) (sp_x K8 211 (by decide) rfl) (sp_x K8 208 (by decide) rfl) (by decide) (by decide) X0 X8 ob0 ob7 (by have : qp Nk0 P0 < 3 + 5 * n := b0; omega) (by omega) (by decide) (by decide) (fun yes => ⟨_, rfl, fun z => absurd z (by decide), fun _ => ⟨o168 K8, ?_⟩⟩) (fun nope => ⟨_, rfl, fun _ => ⟨o168 K8, ?_⟩, fun z => absurd rfl z⟩)⟩
  · have ak := cond.mp yes
    rcases hf with ⟨ef, -⟩ | ⟨-, q⟩
    · subst ef
      obtain ⟨rfl, rfl, rfl, rfl, rfl, rfl, rfl⟩ := RU_f1 R
      refine m_waysTo (a := 0) (L := L) eF eV mi8 (by omega) l1 (by omega) l2 l3 (fun h33 F33 f33 w33 => ⟨rfl, o168 (sp_fr K8 F33), weC (sp_fr K8 F33) _, fun h37 e37 => ?_⟩)
      rw [e37, weH]
      have fk : ∀ k, k ≠ 59 → ah_f h33 168 k = ah_f h8 168 k := fun k hk => by rw [f33, u1_n _ _ hk]
      exact kk h33 (FY_trans fyb (FY_ways K8 F33 f33)) (by rw [fk 60 (by decide), fk8 60 (by decide) (by decide), f2, u1_s]) ((fk 49 (by decide)).trans b49) (by rw [fk 23 (by decide), fk8 23 (by decide) (by decide), f2, u1_n _ _ (by decide)]) (by rw [show (0 : Int32) + nI 0 = 0 from rfl]; exact MSI_eq mi8 (by omega) (fun _ _ => h12) (sp_fr K8 F33) (fun k k1 k2 => fk k (by omega)) (fun a a1 a2 => fr_i F33 a (by simp only [List.mem_cons, List.not_mem_nil, or_false]; omega)) (fun t _ _ => sl_of t (fr_i F33 170 (by decide)) (fr_i F33 171 (by decide)) (fr_i F33 172 (by decide)) (fr_i F33 173 (by decide)))) (fun _ => ⟨by rw [f33, u1_s], w33⟩) (fun z => absurd z (by decide))
    · exact absurd ak q
  · have nak : ¬ AK n l A nb lb Ab := fun ak => nope (cond.mpr ak)
    rcases hf with ⟨-, q⟩ | ⟨ef, -⟩
    · exact absurd q nak
    subst ef
    have P0 : PVI (fun n' l' A' => AK n' l' A' nb lb Ab) 1 (fun _ => (n, l, A, 0, 0)) 0 0 0 0 := PVI_0 gd nak
    have P' := RU_PVI j 1 _ 0 0 0 0 0 P0 R
    have P12 := PVI_12 P'
    have c0 := P'.1.1
    refine m_goes (v := 1) (d := d) hlim R P0 mi8 (Or.inr ⟨rfl, nb, lb, Ab, P7, Nk7, fk7, Rb, cd7, ob7, X8, by omega, fun _ _ _ => Iff.rfl⟩) (fun h16 fm16 i16 mi16 => ⟨_, rfl, o168 mi16.1, 211, r168_57 mi16.1, 208, r168_48 mi16.1, ?_⟩)
    have K16 := mi16.1
    have ec : nI c' - 1 = nI (c' - 1) := pk_sub (a := c') (b := 1) (by omega)
    have e70 : (70 : Int32) * nI (c' - 1) = nI (70 * (c' - 1)) := pk_mul 70 (c' - 1)
    rw [mi16.2.2.1, ec, e70]
    obtain ⟨z1, ⟨Pz, Nkz, fkz, cdz, obz, Xz, bz⟩, -⟩ := mi16.2.2.2.2.2.2 (c' - 1) (by omega)
    have gz := P'.1.2.2.2.2.1 (c' - 1) (by omega)
    have gz12 := gz.1
    have X16 : OUT (ah_i h16 208) 0 lb nb P7 Nk7 fk7 := by rw [i16]; exact X8
    have cond2 := AK_iff (l := (D' (c' - 1)).2.1) (l' := lb) gz.2.2 Rb cdz cd7
    have fy16 := FY_trans fyb (FY_FM fm16)
    have fk16 : ∀ k, k ≠ 9 → ¬ (49 ≤ k ∧ k ≤ 54) → ah_f h16 168 k = ah_f h2 168 k := fun k k1 k2 => by rw [fm16.2.2.2.1 k k1 k2, fk8 k k1 k2]
    have b16 : ah_f h16 168 49 = 1 := fm16.2.2.2.2.2.trans b49
    refine m_alike (o1 := 70 * (c' - 1)) (o2 := 0) (sp_x K16 211 (by decide) rfl) (sp_x K16 208 (by decide) rfl) (by decide) (by decide) Xz X16 obz ob7 (by omega) (by omega) (by decide) (by decide) (fun yes2 => ⟨_, rfl, fun z => absurd z (by decide), fun _ => ⟨o168 K16, ?_⟩⟩) (fun no2 => ⟨_, rfl, fun _ => ⟨o168 K16, weC K16 _, fun h27 e27 => ?_⟩, fun z => absurd rfl z⟩)
    · have f1 : f' = 1 := by
        by_cases z : f' = 0
        · exact absurd (cond2.mp yes2) (P'.2.2.2.1 z (c' - 1) (by omega))
        · have := P'.2.1.2
          omega
      subst f1
      rw [mi16.2.2.1, ec]
      refine m_waysTo (a := c' - 1) (L := L) eF eV mi16 P12.1 l1 (by omega) l2 l3 (fun h33 F33 f33 w33 => ⟨rfl, o168 (sp_fr K16 F33), weC (sp_fr K16 F33) _, fun h37 e37 => ?_⟩)
      rw [e37, weH]
      have fk : ∀ k, k ≠ 59 → ah_f h33 168 k = ah_f h16 168 k := fun k hk => by rw [f33, u1_n _ _ hk]
      exact kk h33 (FY_trans fy16 (FY_ways K16 F33 f33)) (by rw [fk 60 (by decide), fk16 60 (by decide) (by decide), f2, u1_s]) ((fk 49 (by decide)).trans b16) (by rw [fk 23 (by decide), fk16 23 (by decide) (by decide), f2, u1_n _ _ (by decide)]) (MSI_eq mi16 P12.1 P12.2 (sp_fr K16 F33) (fun k k1 k2 => fk k (by omega)) (fun a a1 a2 => fr_i F33 a (by simp only [List.mem_cons, List.not_mem_nil, or_false]; omega)) (fun t _ _ => sl_of t (fr_i F33 170 (by decide)) (fr_i F33 171 (by decide)) (fr_i F33 172 (by decide)) (fr_i F33 173 (by decide)))) (fun _ => ⟨by rw [f33, u1_s], w33⟩) (fun z => absurd z (by decide))
    · have f0 : f' = 0 := by
        by_cases z : f' = 1
        · exact absurd (cond2.mpr (P'.2.2.2.2 z)) no2
        · have := P'.2.1.2
          omega
      subst f0
      rw [e27, weH]
      exact kk h16 fy16 (by rw [fk16 60 (by decide) (by decide), f2, u1_s]) b16 (by rw [fk16 23 (by decide) (by decide), f2, u1_n _ _ (by decide)]) mi16 (fun z => absurd z (by decide)) (fun _ => ⟨by rw [fk16 59 (by decide) (by decide), f2, u1_n _ _ (by decide)], by rw [(fm16.2.1 212 (by decide) (by decide) (by decide) (by decide)).2.2.1]; exact i212⟩)
end SAME
