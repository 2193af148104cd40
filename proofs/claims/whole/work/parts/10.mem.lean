/-! Fields, arrays, new cells, returns. -/
/-- an object of class c at a -/
def ah_o (h : AH) (a c : Nat) : Prop := a < ah_n h ∧ (ah_k h a).1 = 20 + c
/-- an array of kind t and length n at a -/
def ah_x (h : AH) (a t n : Nat) : Prop := a < ah_n h ∧ ah_k h a = (t, n)
/-- an index within -/
def ix (i : Int32) (n : Nat) : Prop := 0 ≤ i.toInt ∧ i.toInt < n
theorem ix_in {i : Int32} {n : Nat} (h : ix i n) : vp_in i n := vp_in_iff.mpr h
theorem ix_lt {i : Int32} {n : Nat} (h : ix i n) : i.toNatClampNeg < n := Nat.not_le.mp fun q => ix_in h (Or.inr q)
theorem ad_lt (g : GD) {h : AH} {H : Heap} (hH : HR g h H) {a : Nat} (ha : a < ah_n h) : ad g a = gd_b g + a := if_pos (Nat.lt_of_lt_of_le ha hH.2.1)
theorem ex_tw {M : MM} {g : GD} {p : Program} {s : State} {m : MethodId} {args : Array Value} {meth : Method} {c : Code} (f : ex_F M g p s m args meth c) : ∀ w ∈ tw_l, w.before args s = true := fun w hw => f.2.2.2.2.1 w hw args
theorem ex_obj {M : MM} {g : GD} {p : Program} {s : State} {m : MethodId} {args : Array Value} {meth : Method} {cd : Code} {h : AH} {H : Heap} (f : ex_F M g p s m args meth cd) (hH : HR g h H) {a c k : Nat} (ho : ah_o h a c) (hc : c < 13) (hk : k < kt_N c) :
    ∃ (cf : ClassId) (kf : Class) (fi : Nat) (fd : Field) (cell : Cell) (kC : Class), s.fieldFound? (kt_R c) (kt_T c k).2.1 (kt_T c k).2.2.1 = some (cf, kf, fi, fd) ∧ fd.isStatic = false ∧ fd.slot = gd_s g c k ∧ H[ad g a]? = some cell ∧ cell.cls = gd_c g c ∧ cell.vm = .none ∧ (∀ j, j < kt_N c → cell.slots[gd_s g c j]? = some (ce_v g h a c j)) ∧ s.vm.findClass (kt_R c) = some (gd_c g c) ∧ s.vm.classes[gd_c g c]? = some kC ∧ kC.kind = .ordinary := by
  have hce := hH.2.2 a ho.1
  unfold ce at hce
  rw [ho.2] at hce
  rw [if_neg (by omega), if_neg (by omega), if_neg (by omega), show 20 + c - 20 = c by omega] at hce
  obtain ⟨-, cell, q1, q2, q3, q4⟩ := hce
  obtain ⟨hS, hfc, kC, hkC, hkind⟩ := f.2.2.2.2.2.2.2.2.1.1 c hc
  obtain ⟨cf, kf, fi, fd, hi, hsl⟩ := hS k hk
  have hst := (u_facts hfc hkC (u_lays (ex_tw f) (kt_in c hc) hk) hi).1
  rw [kt_dc c hc k hk] at hi
  exact ⟨cf, kf, fi, fd, cell, kC, hi, hst, hsl, by rw [ad_lt g hH ho.1]; exact q1, q2, q3, q4, hfc, hkC, hkind⟩
/-- an object's cell is written: the others stay -/
theorem HR.obj {g : GD} {h h1 : AH} {H H1 : Heap} (hH : HR g h H) {a c : Nat} (ho : ah_o h a c) (hc : c < 13) (hn : ah_n h1 = ah_n h) (hk : ah_k h1 = ah_k h) (hf : ∀ b, b ≠ a → ah_f h1 b = ah_f h b) (hr : ∀ b, b ≠ a → ah_r h1 b = ah_r h b) (hi : ah_i h1 = ah_i h) (hl : ah_l h1 = ah_l h) (hq : ah_q h1 = ah_q h)
    (hz : H1.size = H.size) (hs : ∀ x, x ≠ ad g a → H1[x]? = H[x]?) (ht : t_OB (ad g a) (gd_c g c) (kt_N c) (gd_s g c) H1 (ce_v g h1 a c)) : HR g h1 H1 := by
  refine ⟨by rw [hz, hn]; exact hH.1, by rw [hn]; exact hH.2.1, fun i hi' => ?_⟩
  rw [hn] at hi'
  by_cases e : i = a
  · subst e
    unfold ce
    rw [hk, ho.2, if_neg (by omega), if_neg (by omega), if_neg (by omega), show 20 + c - 20 = c by omega]
    refine ⟨hc, ?_⟩
    rw [ad_lt g hH ho.1] at ht
    exact ht
  · refine ce_same (ce_kept (hH.2.2 i hi') (hs _ ?_)) (by rw [hk]) (hf i e) (hr i e) (by rw [hi]) (by rw [hl]) (by rw [hq])
    rw [ad_lt g hH ho.1]
    omega
theorem ad_A (g : GD) {h : AH} {H : Heap} (hH : HR g h H) {a : Nat} (ha : a < ah_n h) : gd_A g (ad g a) := by
  rw [ad_lt g hH ha]
  exact Nat.le_add_right _ _
theorem ex_apart {M : MM} {g : GD} {p : Program} {s : State} {m : MethodId} {args : Array Value} {meth : Method} {cd : Code} (f : ex_F M g p s m args meth cd) {c : Nat} (hc : c < 13) : ∀ x y, x < kt_N c → y < kt_N c → x ≠ y → gd_s g c x ≠ gd_s g c y := by
  have hK : va_K (fun _ => gd_c g c, fun _ => gd_s g c) [(kt_R c, kt_T c, kt_N c)] [] s := by
    refine ⟨fun j q hq => ?_, fun k q h => by simp at h⟩
    cases j with
    | zero => cases hq; exact f.2.2.2.2.2.2.2.2.1.1 c hc
    | succ j => simp at hq
  exact va_apart (own := M.1) (ci := 0) (ex_tw f) (kt_in c hc) (kt_ty c) (kt_tyok c hc) (kt_nm c hc) hK rfl
theorem va_S.old {g : GD} {H0 H H1 : Heap} {locs : List Loc} (x : va_S (gd_A g) H0 H locs) (hb : gd_b g ≤ H0.size) : ∀ q, q < gd_b g → H[q]? = H0[q]? := fun q hq => x.2.1 q (Nat.lt_of_lt_of_le hq hb) (Nat.not_le.mpr hq)
/-- the link of a field: its own class's, or a nest mate's -/
def fl_ (own : String) (idx c k : Nat) : Prop := Cond.fieldLink own idx (kt_R c) (kt_T c k).2.1 (kt_T c k).2.2.1 ∈ tw_l ∨ ∃ host, Cond.fieldLinkNest own idx (kt_R c) (kt_T c k).2.1 (kt_T c k).2.2.1 host ∈ tw_l
section MEM
variable {M : MM} {d pc q bc bs : Nat} {ls st : List Value} {h : AH} {Q : Option Value → AH → Prop}
theorem ex_getv {idx a c k : Nat} (hd : decode M.2.1 pc = .ok (.getfield idx, 3)) (hl : fl_ M.1 idx c k) (ho : ah_o h a c) (v : Value) (hv : ∀ g, cv g v = ce_v g h a c k) (kk : ex_G M d q ls (v :: st) h bc bs Q) (hc : c < 13 := by decide) (hk : k < kt_N c := by decide) (hq : pc + 3 = q := by rfl) : ex_G M d pc ls (.ref a :: st) h bc bs Q := by
  subst hq
  intro g p l e R s m args below meth cd H locs cells slots lsA f1 f2 f3 f4 f5 f6 f7 f8 f9
  obtain ⟨cf, kf, fi, fd, cell, kC, hi, hst, hsl, hcell, hcls, hvm, hslots, -⟩ := ex_obj f1 f2 ho hc hk
  have hslot : cell.slots[fd.slot]? = some (cv g v) := by rw [hsl, hslots k hk, hv g]
  have kk := kk g p l e R s m args below meth cd H locs cells slots lsA f1 f2 f3 f4 f5 f6 f7 f8 f9
  rcases hl with hl | ⟨host, hl⟩
  · exact W.getf f1.1 f1.2.1 f1.2.2.2.1 (ex_tw f1 _ hl) hi hst hcell (by rw [hvm]; exact fun z => by cases z) hslot rfl rfl hd kk
  · exact va_Wgetf f1.1 f1.2.1 f1.2.2.2.1 (ex_tw f1 _ hl) hi hst hcell (by rw [hvm]; exact fun z => by cases z) hslot rfl rfl hd kk
theorem ex_getf {idx a c k : Nat} (hd : decode M.2.1 pc = .ok (.getfield idx, 3)) (hl : fl_ M.1 idx c k) (ho : ah_o h a c) (kk : ex_G M d q ls (.int (ah_f h a k) :: st) h bc bs Q) (hr : (kt_ty c k).isReference = false := by rfl) (hc : c < 13 := by decide) (hk : k < kt_N c := by decide) (hq : pc + 3 = q := by rfl) : ex_G M d pc ls (.ref a :: st) h bc bs Q :=
  ex_getv hd hl ho _ (fun g => by unfold ce_v; rw [if_neg (by rw [hr]; decide)]; rfl) kk hc hk hq
theorem ex_getq {idx a c k : Nat} (hd : decode M.2.1 pc = .ok (.getfield idx, 3)) (hl : fl_ M.1 idx c k) (ho : ah_o h a c) (kk : ex_G M d q ls (rv (ah_r h a k) :: st) h bc bs Q) (hr : (kt_ty c k).isReference = true := by rfl) (hc : c < 13 := by decide) (hk : k < kt_N c := by decide) (hq : pc + 3 = q := by rfl) : ex_G M d pc ls (.ref a :: st) h bc bs Q :=
  ex_getv hd hl ho _ (fun g => by unfold ce_v; rw [if_pos hr]; exact cv_rv g _) kk hc hk hq
theorem ex_getr {idx a c k x : Nat} (hd : decode M.2.1 pc = .ok (.getfield idx, 3)) (hl : fl_ M.1 idx c k) (ho : ah_o h a c) (hx : ah_r h a k = some x) (kk : ex_G M d q ls (.ref x :: st) h bc bs Q) (hr : (kt_ty c k).isReference = true := by rfl) (hc : c < 13 := by decide) (hk : k < kt_N c := by decide) (hq : pc + 3 = q := by rfl) : ex_G M d pc ls (.ref a :: st) h bc bs Q :=
  ex_getv hd hl ho _ (fun g => by unfold ce_v; rw [if_pos hr, hx]; rfl) kk hc hk hq
/-- putfield of any value: h1 is the heap behind it -/
theorem ex_putv {idx a c k : Nat} {v : Value} {h1 : AH} (hd : decode M.2.1 pc = .ok (.putfield idx, 3)) (hl : fl_ M.1 idx c k) (ho : ah_o h a c) (hc : c < 13) (hk : k < kt_N c) (hfin : (kt_T c k).2.2.2 = false ∨ (M.2.2.2.2 = "<init>" ∧ kt_R c = M.1 ∧ Cond.fieldLink M.1 idx (kt_R c) (kt_T c k).2.1 (kt_T c k).2.2.1 ∈ tw_l ∧ (kt_T c k).2.2.2 = true)) (hnr : ∀ g, narrow (kt_ty c k) (cv g v) = cv g v) (hft : ∀ g, fits (kt_ty c k) (cv g v) = true)
    (hn : ah_n h1 = ah_n h) (hkd : ah_k h1 = ah_k h) (hf : ∀ b, b ≠ a → ah_f h1 b = ah_f h b) (hr : ∀ b, b ≠ a → ah_r h1 b = ah_r h b) (hi : ah_i h1 = ah_i h) (hll : ah_l h1 = ah_l h) (hqq : ah_q h1 = ah_q h) (hce : ∀ g j, j < kt_N c → updV (ce_v g h a c) k (cv g v) j = ce_v g h1 a c j) (hq : pc + 3 = q)
    (kk : ex_G M d q ls st h1 bc bs Q) : ex_G M d pc ls (v :: .ref a :: st) h bc bs Q := by
  subst hq
  intro g p l e R s m args below meth cd H locs cells slots lsA f1 f2 f3 f4 f5 f6 f7 f8 f9
  obtain ⟨cf, kf, fi, fd, cell, kC, hi', hst, hsl, hcell, hcls, hvm, hslots, hfc, hkC, hkind⟩ := ex_obj f1 f2 ho hc hk
  have hlt : fd.slot < cell.slots.size := by rw [hsl]; exact k2_hasslot (hslots k hk)
  have fin : ∀ (H' : Heap), H'[ad g a]? = some (cell.setSlot fd.slot (cv g v)) → H'.size = H.size → (∀ q, q ≠ ad g a → H'[q]? = H[q]?) → W p l e R s m args below meth cd H' (locs ++ [⟨ad g a, fd.slot⟩]) cells slots (MQ below (ex_Q g Q) args s R.cells R.slots (gd_A g)) (F0 m (pc + 3) lsA (st.map (cv g))) := by
    intro H' e1 e2 e3
    have ht : t_OB (ad g a) (gd_c g c) (kt_N c) (gd_s g c) H' (ce_v g h1 a c) := by
      rw [hsl] at e1
      exact t_OB.to (V := updV (ce_v g h a c) k (cv g v)) ⟨_, e1, hcls, hvm, t_set hslots (ex_apart f1 hc) hk (cv g v)⟩ (hce g)
    have hH' : HR g h1 H' := HR.obj f2 ho hc hn hkd hf hr hi hll hqq e2 e3 ht
    have f4' := f4.put (k := fd.slot) e2 e3 (ad_A g f2 ho.1)
    exact kk g p l e R s m args below meth cd H' _ cells slots lsA f1 hH' ((f3.kept (fun x hx => e3 x (by rw [ad_lt g f2 ho.1]; omega))).same (fun j _ => by rw [hkd]) (fun j _ => by rw [hi])) f4' f5 f6 f7 f8 f9
  have hlay := ex_tw f1 _ (kt_in c hc _ (u_in_lay hk))
  unfold u_lay at hlay
  have hi2 := hi'
  rw [← kt_dc c hc k hk] at hi2
  rcases hfin with hfin | ⟨hinit, hown, hl2, hfin⟩
  · rw [if_neg (by rw [hfin]; decide)] at hlay
    have h6 := u_store hfc hkC hkind hlay hi2 (kt_tyok c hc k hk) (hnr g) (hft g)
    rcases hl with hl | ⟨host, hl⟩
    · exact W.putK f1.1 f1.2.1 (f := fd) ⟨f1.2.2.2.1, ex_tw f1 _ hl, ⟨_, _, _, hi'⟩, hst⟩ (by rw [hcls]; exact h6) hcell hvm hlt rfl rfl hd fin
    · exact va_WputK f1.1 f1.2.1 (f := fd) f1.2.2.2.1 (ex_tw f1 _ hl) hi' hst (by rw [hcls]; exact h6) hcell hvm hlt rfl rfl hd fin
  · rw [if_pos hfin] at hlay
    have hcf : m.cls = cf := by
      obtain ⟨_, _, c', _, _, _, -, -, hf', -, -, -, hown2, -⟩ := Cond.laysFinal_spec hlay
      have e1 : c' = cf := by have := hi2.symm.trans hf'; simp at this; exact this.1.symm
      rw [kt_dc c hc k hk, hown] at hown2
      rw [← e1]; exact Option.some.inj (f1.2.2.2.1.symm.trans hown2)
    have h6 := u_fits hfc hkC hkind (Or.inr hlay) hi2 (kt_tyok c hc k hk) (hnr g) (hft g)
    exact W.putFinK f1.1 f1.2.1 f1.2.2.2.1 (ex_tw f1 _ hl2) hi' hst hcf (by rw [f1.2.2.2.2.2.2.2.1]; exact hinit) (by rw [hcls]; exact h6) hcell hvm hlt rfl rfl hd fin
end MEM
