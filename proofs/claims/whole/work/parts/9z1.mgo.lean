/-! The reference's search: kept, goes. -/
/-- state k as the reference keeps it -/
def MKk (h : AH) (D : SD) (k : Nat) : Prop := mD h (264 + k) (D k).1 (D k).2.1 (D k).2.2.1 ∧ (∃ P Nk fk, CD (D k).1 (mt (D k).1 (D k).2.2.1) P Nk fk ∧ OB (D k).2.1 (D k).1 P Nk fk ∧ OUT (ah_i h 211) (70 * k) (D k).2.1 (D k).1 P Nk fk ∧ qp Nk P < 3 + 5 * (D k).1) ∧ (0 < k → ah_i h 209 k = nI (D k).2.2.2.1 ∧ ah_i h 210 k = nI (D k).2.2.2.2)
def MSI (h : AH) (c : Nat) (D : SD) (cu s e : Nat) (st : Int32) : Prop := sp h ∧ ah_f h 168 50 = nI e ∧ ah_f h 168 51 = nI c ∧ (e = 0 → ah_f h 168 52 = nI cu ∧ ah_f h 168 53 = nI s) ∧ (e = 1 → ah_f h 168 52 = nI c ∧ ah_f h 168 53 = nI 0) ∧ ah_f h 168 54 = st ∧ ∀ k, k < c → MKk h D k
/-- what is looked for -/
def MG (h : AH) (G : Nat → Nat → (Nat → Nat) → Prop) (v : Int32) : Prop := (v = 0 ∧ ∀ n l A, n ≤ 12 → ¬ G n l A) ∨ (v = 1 ∧ ∃ n l A P Nk fk, Pr n A (mt n A) ∧ CD n (mt n A) P Nk fk ∧ OB l n P Nk fk ∧ OUT (ah_i h 208) 0 l n P Nk fk ∧ qp Nk P < 203 ∧ ∀ n' l' A', G n' l' A' ↔ AK n' l' A' n l A)
def FM (h h' : AH) : Prop := ah_n h' = ah_n h ∧ (∀ a, a ∉ Mscr → a ≠ 209 → a ≠ 210 → a ≠ 211 → eqc h h' a) ∧ sp h' ∧ (∀ k, k ≠ 9 → ¬ (49 ≤ k ∧ k ≤ 54) → ah_f h' 168 k = ah_f h 168 k) ∧ (∀ s, s < 264 → sl h h' s) ∧ ah_f h' 168 49 = ah_f h 168 49
section MGO
variable {h h1 h2 h' : AH} {d bc bs : Nat} {Q : Option Value → AH → Prop} {c cu s n l e : Nat} {A : Nat → Nat} {D : SD} {G : Nat → Nat → (Nat → Nat) → Prop} {st : Int32}
theorem FM_trans (x : FM h h1) (y : FM h1 h2) : FM h h2 := ⟨y.1.trans x.1, fun a a1 a2 a3 a4 => eqc_trans (x.2.1 a a1 a2 a3 a4) (y.2.1 a a1 a2 a3 a4), y.2.2.1, fun k k1 k2 => (y.2.2.2.1 k k1 k2).trans (x.2.2.2.1 k k1 k2), fun s hs => sl_trans (x.2.2.2.2.1 s hs) (y.2.2.2.2.1 s hs), y.2.2.2.2.2.trans x.2.2.2.2.2⟩
theorem FM_fms (K : sp h) (x : fms h h') : FM h h' := ⟨x.1, fun a a1 _ _ _ => x.2.1 a a1, x.2.2.1 K, fun k k1 _ => x.2.2.2.1 k k1, fun s hs => x.2.2.2.2 s (by omega), x.2.2.2.1 49 (by decide)⟩
theorem FM_refl (K : sp h) : FM h h := FM_fms K (fms_refl h)
theorem FM_f {k : Nat} {v : Int32} (K : sp h) (hk : 50 ≤ k ∧ k ≤ 54) (e2 : h2 = ah_sf h 168 k v) : FM h h2 := by
  have F : fr [168] h h2 := by rw [e2]; exact fr_sf (fr_refl _ h) (by decide)
  have f1 : ah_f h2 168 = u1 (ah_f h 168) k v := by rw [e2, f_sf_s]
  refine ⟨F.1.1, fun a a1 _ _ _ => eqc_fr F (fun q => a1 ?_), sp_fr K F, fun j j1 j2 => by rw [f1, u1_n _ _ (by omega)], fun s _ => sl_of s (fr_i F 170 (by decide)) (fr_i F 171 (by decide)) (fr_i F 172 (by decide)) (fr_i F 173 (by decide)), by rw [f1, u1_n _ _ (by omega)]⟩
  simp only [List.mem_cons, List.not_mem_nil, or_false] at q
  rw [q]
  decide
theorem OUT_eqT {T T' : Nat → Int32} {o l n P : Nat} {Nk : Nat → Nat} {fk : Nat → Nat → Nat} (x : OUT T o l n P Nk fk) (e : ∀ i, i ≤ qp Nk P → T' (o + i) = T (o + i)) : OUT T' o l n P Nk fk := by
  have q2 := qp_2 Nk P
  obtain ⟨x1, x2, x3, x4⟩ := x
  refine ⟨(e 0 (by omega)).trans x1, (e 1 (by omega)).trans x2, fun j hj => ?_, (e _ (Nat.le_refl _)).trans x4⟩
  have m1_ := qp_mono (Nk := Nk) (i := j + 1) (j := P) (by omega)
  rw [qp_s] at m1_
  refine ⟨(e _ (by omega)).trans (x3 j hj).1, fun t ht => ?_⟩
  have := e (qp Nk j + 1 + t) (by omega)
  rw [← Nat.add_assoc, ← Nat.add_assoc] at this
  exact this.trans ((x3 j hj).2 t ht)
theorem MKk_eq {k : Nat} (x : MKk h D k) (h12 : (D k).1 ≤ 12) (s : sl h h' (264 + k)) (e1 : ∀ i, i < 70 → ah_i h' 211 (70 * k + i) = ah_i h 211 (70 * k + i)) (e2 : ah_i h' 209 k = ah_i h 209 k) (e3 : ah_i h' 210 k = ah_i h 210 k) : MKk h' D k := by
  obtain ⟨x1, ⟨P, Nk, fk, y1, y2, y3, y4⟩, x3⟩ := x
  exact ⟨mD_sl x1 (by omega) s, ⟨P, Nk, fk, y1, y2, OUT_eqT y3 (fun i hi => e1 i (by omega)), y4⟩, by rw [e2, e3]; exact x3⟩
theorem MKk_D {D' : SD} {k : Nat} (x : MKk h D k) (e : D' k = D k) : MKk h D' k := by
  unfold MKk
  rw [e]
  exact x
/-- frames that leave the search alone -/
theorem MSI_fms {L : List Nat} (x : MSI h c D cu s e st) (hc : c ≤ 100) (gs : ∀ k, k < c → (D k).1 ≤ 12) (F : fms h h') (F2 : fr L h h') (nl : 209 ∉ L ∧ 210 ∉ L ∧ 211 ∉ L) : MSI h' c D cu s e st := by
  obtain ⟨x1, x2, x3, x4, x5, x6, x7⟩ := x
  have f := F.2.2.2.1
  refine ⟨F.2.2.1 x1, (f 50 (by decide)).trans x2, (f 51 (by decide)).trans x3, fun z => ⟨(f 52 (by decide)).trans (x4 z).1, (f 53 (by decide)).trans (x4 z).2⟩, fun z => ⟨(f 52 (by decide)).trans (x5 z).1, (f 53 (by decide)).trans (x5 z).2⟩, (f 54 (by decide)).trans x6, fun k hk => MKk_eq (x7 k hk) (gs k hk) (F.2.2.2.2 _ (by omega)) (fun i _ => by rw [fr_i F2 211 nl.2.2]) (by rw [fr_i F2 209 nl.1]) (by rw [fr_i F2 210 nl.2.1])⟩
theorem m_kept {w : Nat} (x : MSI h c D cu s 0 st) (c1_ : c ≤ 100) (gs : ∀ k, k < c → GDp (D k).1 (D k).2.1 (D k).2.2.1) (M : mD h 364 n l A) (gd : GDp n l A)
    (k0 : (c = 100 ∨ KN c D n l A) → ∀ h', FM h h' → ah_i h' 208 = ah_i h 208 → MSI h' c D cu s 0 st → Q (some (.int 0)) h')
    (k1 : c < 100 → ¬ KN c D n l A → ∀ h', FM h h' → ah_i h' 208 = ah_i h 208 → MSI h' (c + 1) (u1 D c (n, l, A, cu, w)) cu s 0 st → Q (some (.int 1)) h') : ex_S yX12_kept mX12_kept (d + 3) [.ref 168, .int (nI w)] h bc bs Q := by
  have h12 := gd.1
  have K := x.1
  have gs12 : ∀ k, k < c → (D k).1 ≤ 12 := fun k hk => (gs k hk).1
  refine X12_kept_e (X12_kept_0 ⟨o168 K, m_link (s := 364) (A := A) K (by decide) M.1 (by omega) M.2.2.2 gd.2.2 (fun h1 F1 g1 => ⟨rfl, ?_⟩)⟩)
  have G1 : fms h h1 := fms_sc F1 (by decide)
  have x1 := MSI_fms x c1_ gs12 G1 F1 (by decide)
  have K1 := x1.1
  have M1 : mD h1 364 n l A := mD_sc M F1 (by decide)
  refine ⟨o168 K1, 207, r168_47 K1, m_codeInto (s := 364) (o := 0) (l := l) K1 gd.2.2 (by omega) gd.2.1 (by decide) M1 g1 (sp_x K1 207 (by decide) rfl) (Or.inl rfl) (by omega) (by decide) (fun h5 P Nk fk F5 cd ob X b _ => ⟨rfl, ?_⟩)⟩
  have G5 : fms h1 h5 := fms_sc F5 (by decide)
  have x5 := MSI_fms x1 c1_ gs12 G5 F5 (by decide)
  have K5 := x5.1
  have M5 : mD h5 364 n l A := mD_sc M1 F5 (by decide)
  have m5 : ∀ e, e < 4 * n → ah_i h5 176 e = nI (mt n A e) := fun e he => by rw [fr_i F5 176 (by decide)]; exact g1 e he
  have FM5 : FM h h5 := FM_fms K (fms_trans G1 G5)
  have i208 : ah_i h5 208 = ah_i h 208 := by rw [fr_i F5 208 (by decide), fr_i F1 208 (by decide)]
  clear x1 x G1 G5 F1 F5 M1 M g1 K1
  have f51 := x5.2.2.1
  have loop : ∀ t j, j + t = c → (∀ i, i < j → ¬ AK n l A (D i).1 (D i).2.1 (D i).2.2.1) → ex_G mX12_kept (d + 3) 21 [.ref 168, .int (nI w), .int (nI j)] [] h5 bc bs Q := by
    intro t
    induction t with
    | succ t ih =>
      intro j hj no
      have hjc : j < c := by omega
      obtain ⟨y1, ⟨P', Nk', fk', cd', ob', X', b'⟩, y3⟩ := x5.2.2.2.2.2.2 j hjc
      have gj := gs j hjc
      have ij := gj.1
      refine X12_kept_21 ⟨o168 K5, fun z => ?_, fun _ => ⟨207, r168_47 K5, 211, r168_57 K5, ?_⟩⟩
      · rw [f51, nI_leI (by omega) (by omega)] at z
        omega
      · have e70 : (70 : Int32) * nI j = nI (70 * j) := pk_mul 70 j
        rw [e70]
        have cond := AK_iff (l := l) (l' := (D j).2.1) gd.2.2 gj.2.2 cd cd'
        refine m_alike (o1 := 0) (o2 := 70 * j) (sp_x K5 207 (by decide) rfl) (sp_x K5 211 (by decide) rfl) (by decide) (by decide) X X' ob ob' (by omega) (by omega) (by decide) (by decide) (fun yes => ⟨_, rfl, fun z => absurd z (by decide), fun _ => k0 (Or.inr ⟨j, hjc, AK_symm gd.2.2 (cond.mp yes)⟩) h5 FM5 i208 x5⟩) (fun nope => ⟨_, rfl, fun _ x21 e21 => ?_, fun z => absurd rfl z⟩)
        have ex : x21 = nI (j + 1) := by rw [e21]; exact nI_add j 1
        rw [ex]
        refine ih (j + 1) (by omega) (fun i hi => ?_)
        by_cases q : i < j
        · exact no i q
        · have : i = j := by omega
          rw [this]
          exact fun ak => nope (cond.mpr ak)
    | zero =>
      intro j hj no
      have ej : j = c := by omega
      subst ej
      have nk : ¬ KN j D n l A := fun ⟨i, i1, i2⟩ => no i i1 (AK_symm (gs i i1).2.2 i2)
      refine X12_kept_21 ⟨o168 K5, fun _ => ?_, fun z => absurd ?_ z⟩
      rotate_left
      · rw [f51]
        exact (nI_leI (by omega) (by omega)).mpr (Nat.le_refl _)
      have e264 : (264 : Int32) + nI j = nI (264 + j) := nI_add 264 j
      rw [f51, e264]
      refine ⟨fun ne => ?_, fun eq => k0 (Or.inl ((nI_eq (b := 100) (by omega) (by omega)).mp eq)) h5 FM5 i208 x5⟩
      have lt : j < 100 := by
        have : j ≠ 100 := fun q => ne (by rw [q]; rfl)
        omega
      refine m_copyS K5 (s := 364) (t := 264 + j) (by decide) (by omega) (by omega) M5.1 (by omega) (fun h4 F4 s4 c4 => ⟨rfl, ?_⟩)
      have K4 := sp_fr K5 F4
      have f4 : ah_f h4 168 = ah_f h5 168 := fr_f F4 168 (by decide)
      have e70 : (70 : Int32) * nI j = nI (70 * j) := pk_mul 70 j
      have M4 : mD h4 364 n l A := mD_sl M5 (by omega) (s4 364 (by omega))
      refine ⟨o168 K4, 211, r168_57 K4, ?_⟩
      rw [f4, f51, e70]
      refine m_codeInto (s := 364) (o := 70 * j) (l := l) (L2 := 7000) K4 gd.2.2 (by omega) gd.2.1 (by decide) M4 (fun e he => by rw [fr_i F4 176 (by decide)]; exact m5 e he) (sp_x K4 211 (by decide) rfl) (Or.inr (Or.inr rfl)) (by omega) (by decide) (fun h7 P7 Nk7 fk7 F7 cd7 ob7 X7 b7 lo7 => ⟨rfl, ?_⟩)
      have K7 := sp_fr K4 F7
      have f7 : ah_f h7 168 = ah_f h5 168 := by rw [fr_f F7 168 (by decide), f4]
      refine ⟨o168 K7, 209, r168_55 K7, ?_⟩
      rw [f7, f51, (x5.2.2.2.1 rfl).1, nI_clamp (by omega)]
      refine ⟨(t209 K7 _).mpr ((ix_nI (by omega)).mpr (by omega)), fun h10 e10 => ?_⟩
      have F10 : fr [209] h7 h10 := by rw [e10]; exact fr_si (fr_refl _ h7) (by decide)
      have i10 : ah_i h10 209 = u1 (ah_i h7 209) j (nI cu) := by rw [e10, i_si_s]
      clear e10
      have K10 := sp_fr K7 F10
      have f10 : ah_f h10 168 = ah_f h5 168 := by rw [fr_f F10 168 (by decide), f7]
      refine ⟨210, r168_56 K10, ?_⟩
      rw [f10, f51, nI_clamp (by omega)]
      refine ⟨(t210 K10 _).mpr ((ix_nI (by omega)).mpr (by omega)), fun h13 e13 h15 e15 => ?_⟩
      have F13 : fr [210] h10 h13 := by rw [e13]; exact fr_si (fr_refl _ h10) (by decide)
      have i13 : ah_i h13 210 = u1 (ah_i h10 210) j (nI w) := by rw [e13, i_si_s]
      have f13 : ah_f h13 168 = ah_f h5 168 := by rw [fr_f F13 168 (by decide), f10]
      clear e13
      have K13 := sp_fr K10 F13
      rw [f13, f51, show nI j + 1 = nI (j + 1) from nI_add j 1] at e15
      have F15 : fr [168] h13 h15 := by rw [e15]; exact fr_sf (fr_refl _ h13) (by decide)
      have f15 : ah_f h15 168 = u1 (ah_f h5 168) 51 (nI (j + 1)) := by rw [e15, f_sf_s, f13]
      clear e15
      have K15 := sp_fr K13 F15
      -- rows
      have r : ∀ a, a ∉ [170, 171, 172, 173] → a ∉ ciL 211 → a ≠ 209 → a ≠ 210 → a ≠ 168 → eqc h5 h15 a := fun a a1 a2 a3 a4 a5 => eqc_trans (eqc_fr F4 a1) (eqc_trans (eqc_fr F7 a2) (eqc_trans (eqc_fr F10 (by simpa using a3)) (eqc_trans (eqc_fr F13 (by simpa using a4)) (eqc_fr F15 (by simpa using a5)))))
      have i211 : ah_i h15 211 = ah_i h7 211 := by rw [fr_i F15 211 (by decide), fr_i F13 211 (by decide), fr_i F10 211 (by decide)]
      have j211 : ∀ i, i < 70 * j → ah_i h15 211 i = ah_i h5 211 i := fun i hi => by rw [i211, lo7 i hi, fr_i F4 211 (by decide)]
      have j209 : ah_i h15 209 = u1 (ah_i h5 209) j (nI cu) := by rw [fr_i F15 209 (by decide), fr_i F13 209 (by decide), i10, fr_i F7 209 (by decide), fr_i F4 209 (by decide)]
      have j210 : ah_i h15 210 = u1 (ah_i h5 210) j (nI w) := by rw [fr_i F15 210 (by decide), i13, fr_i F10 210 (by decide), fr_i F7 210 (by decide), fr_i F4 210 (by decide)]
      have sl7 : ∀ t, sl h4 h15 t := fun t => sl_of t (by rw [fr_i F15 170 (by decide), fr_i F13 170 (by decide), fr_i F10 170 (by decide), fr_i F7 170 (by decide)]) (by rw [fr_i F15 171 (by decide), fr_i F13 171 (by decide), fr_i F10 171 (by decide), fr_i F7 171 (by decide)]) (by rw [fr_i F15 172 (by decide), fr_i F13 172 (by decide), fr_i F10 172 (by decide), fr_i F7 172 (by decide)]) (by rw [fr_i F15 173 (by decide), fr_i F13 173 (by decide), fr_i F10 173 (by decide), fr_i F7 173 (by decide)])
      have slt : ∀ t, t ≠ 264 + j → sl h5 h15 t := fun t ht => sl_trans (s4 t ht) (sl7 t)
      have fm : FM h5 h15 := by
        refine ⟨by rw [F15.1.1, F13.1.1, F10.1.1, F7.1.1, F4.1.1], fun a a1 a2 a3 a4 => r a (fun q => a1 ?_) (fun q => ?_) a2 a3 (fun q => a1 (by rw [q]; decide)), K15, fun k k1 k2 => by rw [f15, u1_n _ _ (by omega)], fun t ht => slt t (by omega), by rw [f15, u1_n _ _ (by decide)]⟩
        · exact (by decide : ∀ a, a ∈ [170, 171, 172, 173] → a ∈ Mscr) a q
        · rcases List.mem_append.mp (show a ∈ [177, 199, 200, 201, 202, 203, 204, 205, 206] ++ [211] from q) with q | q
          · exact a1 ((by decide : ∀ a, a ∈ [177, 199, 200, 201, 202, 203, 204, 205, 206] → a ∈ Mscr) a q)
          · exact a4 (by simpa using q)
      have fk_ : ∀ k, k ≠ 51 → ah_f h15 168 k = ah_f h5 168 k := fun k hk => by rw [f15, u1_n _ _ hk]
      refine k1 lt nk h15 (FM_trans FM5 fm) ((r 208 (by decide) (by decide) (by decide) (by decide) (by decide)).2.2.1.trans i208) ⟨K15, (fk_ 50 (by decide)).trans x5.2.1, by rw [f15, u1_s], fun z => ⟨(fk_ 52 (by decide)).trans (x5.2.2.2.1 z).1, (fk_ 53 (by decide)).trans (x5.2.2.2.1 z).2⟩, fun z => absurd z (by decide), (fk_ 54 (by decide)).trans x5.2.2.2.2.2.1, fun k hk => ?_⟩
      by_cases q : k < j
      · exact MKk_D (MKk_eq (x5.2.2.2.2.2.2 k q) (gs12 k q) (slt _ (by omega)) (fun i hi => j211 _ (by omega)) (by rw [j209, u1_n _ _ (by omega)]) (by rw [j210, u1_n _ _ (by omega)])) (u1_n _ _ (by omega))
      · have ek : k = j := by omega
        subst ek
        unfold MKk
        rw [u1_s]
        exact ⟨mD_sl (mD_sC M5 (by omega) c4) (by omega) (sl7 _), ⟨P7, Nk7, fk7, cd7, ob7, by rw [i211]; exact X7, b7⟩, fun _ => ⟨by rw [j209, u1_s], by rw [j210, u1_s]⟩⟩
  exact loop c 0 (by omega) (fun i hi => absurd hi (Nat.not_lt_zero i))
end MGO
