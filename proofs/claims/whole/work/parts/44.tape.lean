/-! clear, type; loose. -/
section TAPE
variable {h h' : AH} {d bc bs : Nat} {Q : Option Value → AH → Prop} {W : Nat → Nat} {N : Nat} {B : Nat → Nat} {S : Nat → Int32} {len : Nat}
def Tscr : List Nat := [0, 3, 4, 5, 6, 168, 191, 198]
theorem D_nums (x : R0 h W N B S len) (E : ∀ a, a ∉ Tscr → eqc h h' a) (rr : ah_r h' = ah_r h) (qq : ah_q h' = ah_q h) (kk : ah_k h' = ah_k h) (nn : ah_n h' = ah_n h) (k0 : ∀ k, k ≠ 19 → ah_f h' 0 k = ah_f h 0 k) (k1 : ∀ k, k ≠ 0 → k ≠ 29 → k ≠ 38 → ah_f h' 168 k = ah_f h 168 k) (w : ah_f h' 0 19 = ah_f h' 168 0) (T : NU h' 3 4 29 191 130) (T2 : NU h' 5 6 38 198 3) : DONE h h' W S len := by
  obtain ⟨y, x0, x1, x2, x3, x4, ⟨x5, x6, x7⟩, x8, x9, x10⟩ := x
  have big : ∀ a, 216 ≤ a → eqc h h' a := fun a ha => E a (fun q => by have := (by decide : ∀ a, a ∈ Tscr → a < 216) a q; omega)
  have hn : ah_n h ≤ ah_n h' := by omega
  have hsl : ∀ s, sl h h' s := fun s => sl_of s (E 170 (by decide)).2.2.1 (E 171 (by decide)).2.2.1 (E 172 (by decide)).2.2.1 (E 173 (by decide)).2.2.1
  refine ⟨W, N, B, ⟨⟨w, ?_, ?_, ?_⟩, ?_, LAC_q x1 rr qq, OLD_eq x2 (fun a ha => big a (by omega)), PS_eq x3 (fun _ _ => rfl) (k0 15 (by decide)) (k1 6 (by decide) (by decide) (by decide)) (E 1 (by decide)).2.2.2.2.2 (E 174 (by decide)).2.2.1 (fun a a1 _ _ => big a a1) (fun s _ => hsl s) hn, MV_eq x4 (fun _ _ => rfl) (k0 16 (by decide)) (k1 35 (by decide) (by decide) (by decide)) (E 2 (by decide)).2.2.2.2.2 (E 197 (by decide)).2.2.1 (fun a a1 _ _ _ => big a a1) hn, ⟨T, T2, NU_eq x7 (E 134 (by decide)).2.1 (k1 59 (by decide) (by decide) (by decide)) (E 135 (by decide)).2.2.1 (E 212 (by decide)).2.2.1⟩, RS_eq x8 (E 73 (by decide)) (k1 22 (by decide) (by decide) (by decide)) (E 74 (by decide)).2.2.2.1 (E 75 (by decide)).2.2.2.1 (E 186 (by decide)).2.2.2.1, SPn_eq x9 (E 32 (by decide)).2.1 (k1 23 (by decide) (by decide) (by decide)), BK_eq x10 (fun _ _ => rfl) (E 164 (by decide)).2.1 (k1 62 (by decide) (by decide) (by decide)) (E 165 (by decide)).2.2.2.1 (E 166 (by decide)).2.2.2.2.2 (E 214 (by decide)).2.2.2.1 (E 215 (by decide)).2.2.2.1 (fun a a1 _ _ _ => big a a1) hn⟩, ⟨fun a ha => E a (fun q => ?_), fun k _ _ => k1 k (by omega) (by omega) (by omega), fun s _ _ => hsl s⟩, fun _ _ => rfl, hn, by omega⟩
  · rw [k0 17 (by decide), k1 15 (by decide) (by decide) (by decide)]
    exact y.2.1
  · rw [k0 18 (by decide), k1 60 (by decide) (by decide) (by decide)]
    exact y.2.2.1
  · intro k a1 a2
    rw [(E 167 (by decide)).2.2.1, (E 169 (by decide)).2.2.1]
    exact y.2.2.2 k a1 a2
  · refine ⟨by rw [nn]; exact x0.1, fun a ha => by rw [kk]; exact x0.2.1 a ha, fun t ht => by rw [rr]; exact x0.2.2 t ht⟩
  · have : ∀ a, a ∈ Tscr → a < 125 ∨ (163 < a ∧ a < 209) := by decide
    have := this a q
    omega
theorem eqc_t {a k : Nat} {v : Int32} (ha : a ∈ Tscr) : ∀ b, b ∉ Tscr → eqc h (ah_sf h a k v) b ∧ eqc h (ah_si h a k v) b := fun b hb => by
  have hne : b ≠ a := fun e => hb (e ▸ ha)
  exact ⟨⟨congrFun (k_sf _ _ _ _) b, f_sf_n _ _ _ _ _ hne, congrFun (i_sf _ _ _ _) b, congrFun (l_sf _ _ _ _) b, congrFun (r_sf _ _ _ _) b, congrFun (q_sf _ _ _ _) b⟩, ⟨congrFun (k_si _ _ _ _) b, congrFun (f_si _ _ _ _) b, i_si_n _ _ _ _ _ hne, congrFun (l_si _ _ _ _) b, congrFun (r_si _ _ _ _) b, congrFun (q_si _ _ _ _) b⟩⟩
theorem st_clear (x : R0 h W N B S len) : ST yX11_clear mX11_clear yX12_clear mX12_clear (d + 1) (d + 1) [] h bc bs W S len := by
  have K := x.2.1
  obtain ⟨n, n1, n2, n3, n4⟩ := x.2.2.2.2.2.2.1.1
  have T2 := x.2.2.2.2.2.2.1.2.1
  have Ka : sp (ah_sf h 3 1 0) := sp_fr K (fr_sf (L := [3]) (fr_refl _ h) (by decide))
  have hv : X11_clear_V 0 h = nI n := by
    unfold X11_clear_V X11_grant_V
    rw [r0_2 K, Option.getD_some]
    exact n2
  have hh : X11_clear_H 0 h = cNo (ah_sf h 3 1 0) (nI 0) := by
    unfold X11_clear_H X11_grant_H X6_empty_H cNo
    rw [r0_2 K, Option.getD_some]
    rfl
  refine X11_clear_s ⟨o0 K, 3, r0_2 K, o3 K, ⟨o3 K, trivial⟩, o0 Ka, ⟨o0 Ka, trivial⟩, trivial⟩ ⟨_, rfl, ?_⟩
  rw [hv, hh]
  have F : fr [0, 3] h (cNo (ah_sf h 3 1 0) (nI 0)) := fr_sf (fr_sf (fr_refl _ h) (by decide)) (by decide)
  have g3 : ah_f (cNo (ah_sf h 3 1 0) (nI 0)) 3 1 = nI 0 := by
    unfold cNo
    rw [f_sf_n _ _ _ _ _ (by decide), f_sf_s, u1_s]
    rfl
  have g0 : ∀ k, k ≠ 19 → ah_f (cNo (ah_sf h 3 1 0) (nI 0)) 0 k = ah_f h 0 k := fun k hk => by
    unfold cNo
    rw [f_sf_s, u1_n _ _ hk, f_sf_n _ _ _ _ _ (by decide)]
  have g9 : ah_f (cNo (ah_sf h 3 1 0) (nI 0)) 0 19 = nI 0 := by
    unfold cNo
    rw [f_sf_s, u1_s]
  generalize cNo (ah_sf h 3 1 0) (nI 0) = ha at F g3 g0 g9 ⊢
  have K1 := sp_fr K F
  have t3 : ah_f ha 168 29 = nI n := by rw [fr_f F 168 (by decide)]; exact n3
  have mv : X12_clear_V 168 ha = nI n := by
    unfold X12_clear_V X12_well_V
    exact t3
  have mh : X12_clear_H 168 ha = mNo (ah_sf ha 168 29 (nI 0)) (nI 0) := rfl
  have Kb : sp (ah_sf ha 168 29 0) := sp_fr K1 (fr_sf (L := [168]) (fr_refl _ ha) (by decide))
  refine X12_clear_s ⟨o168 K1, ⟨o168 Kb, trivial⟩, trivial⟩ ?_
  rw [mv, mh]
  have F2 : fr [168] ha (mNo (ah_sf ha 168 29 (nI 0)) (nI 0)) := fr_sf (fr_sf (fr_refl _ ha) (by decide)) (by decide)
  have m9 : ah_f (mNo (ah_sf ha 168 29 (nI 0)) (nI 0)) 168 29 = nI 0 := by
    unfold mNo
    rw [f_sf_s, u1_n _ _ (by decide), f_sf_s, u1_s]
  have m0 : ah_f (mNo (ah_sf ha 168 29 (nI 0)) (nI 0)) 168 0 = nI 0 := by
    unfold mNo
    rw [f_sf_s, u1_s]
  have mk : ∀ k, k ≠ 0 → k ≠ 29 → ah_f (mNo (ah_sf ha 168 29 (nI 0)) (nI 0)) 168 k = ah_f ha 168 k := fun k k1 k2 => by
    unfold mNo
    rw [f_sf_s, u1_n _ _ k1, f_sf_s, u1_n _ _ k2]
  generalize mNo (ah_sf ha 168 29 (nI 0)) (nI 0) = hb at F2 m9 m0 mk ⊢
  refine ⟨rfl, D_nums x (fun a hz => eqc_trans (eqc_fr F (fun q => hz ((by decide : ∀ a, a ∈ [0, 3] → a ∈ Tscr) a q))) (eqc_fr F2 (fun q => hz ((by decide : ∀ a, a ∈ [168] → a ∈ Tscr) a q)))) (F2.1.2.2.1.trans F.1.2.2.1) (F2.1.2.2.2.trans F.1.2.2.2) (F2.1.2.1.trans F.1.2.1) (F2.1.1.trans F.1.1) (fun k hk => ?_) (fun k k1 k2 k3 => ?_) ?_ ⟨0, by omega, ?_, m9, fun k hk => absurd hk (Nat.not_lt_zero k)⟩ (NU_eq T2 ?_ ?_ ?_ ?_)⟩
  · rw [fr_f F2 0 (by decide)]
    exact g0 k hk
  · rw [mk k k1 k2, fr_f F 168 (by decide)]
  · rw [fr_f F2 0 (by decide), g9, m0]
  · rw [fr_f F2 3 (by decide)]
    exact g3
  · rw [fr_f F2 5 (by decide), fr_f F 5 (by decide)]
  · rw [mk 38 (by decide) (by decide), fr_f F 168 (by decide)]
  · rw [fr_i F2 6 (by decide), fr_i F 6 (by decide)]
  · rw [fr_i F2 198 (by decide), fr_i F 198 (by decide)]
end TAPE
