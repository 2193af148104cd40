/-! Returns, constants, switches, new cells, calls. -/
section CAL
variable {M : MM} {d pc q bc bs : Nat} {ls st : List Value} {h : AH} {Q : Option Value → AH → Prop}
theorem ex_fin {g : GD} {s t : State} {H : Heap} {locs : List Loc} {args : Array Value} {r : Option Value} (f2 : HR g h H) (f3 : OL g h s H) (f4 : va_S (gd_A g) s.heap H locs) (hb : gd_b g ≤ s.heap.size) (hQ : Q r h) (ht : t.heap = H) (hW : s.WarmedH t.vm) : ex_Q g Q args s (.returned (r.map (cv g))) t :=
  ⟨r, h, rfl, hQ, by rw [ht]; exact f2, by rw [ht]; exact f3.moved hW.alike, by rw [ht]; exact f4.1, fun x hx => by rw [ht]; exact f4.2.1 x (Nat.lt_of_lt_of_le hx hb) (Nat.not_le.mpr hx)⟩
theorem ex_ireturn {v : Int32} {ty : FieldType} (hd : decode M.2.1 pc = .ok (.ireturn, 1)) (hr : M.2.2.2.1 = some ty) (hv : fo ty v) (hQ : Q (some (.int v)) h) : ex_G M d pc ls [.int v] h bc bs Q := by
  intro g p l e R s m args below meth cd H locs cells slots lsA f1 f2 f3 f4 f5 f6 f7 f8 f9
  refine W.widen (k := R.cells) (n := R.slots) (by omega) (by omega) ?_
  exact W.zret f1.1 f1.2.1 (by rw [f1.2.2.2.2.2.1]; exact hr) (fo_n hv) (fun t ht hW => ex_fin (r := some (.int v)) f2 f3 f4 f1.2.2.2.2.2.2.2.2.2.2 hQ ht hW) f4.2.2 hd f1.2.2.2.2.2.2.1
theorem ex_lreturn {v : Int64} (hd : decode M.2.1 pc = .ok (.lreturn, 1)) (hQ : Q (some (.long v)) h) (hr : M.2.2.2.1 = some .long := by rfl) : ex_G M d pc ls [.long v] h bc bs Q := by
  intro g p l e R s m args below meth cd H locs cells slots lsA f1 f2 f3 f4 f5 f6 f7 f8 f9
  refine W.widen (k := R.cells) (n := R.slots) (by omega) (by omega) ?_
  exact W.lret f1.1 f1.2.1 (by rw [f1.2.2.2.2.2.1]; exact hr) (fun t ht hW => ex_fin (r := some (.long v)) f2 f3 f4 f1.2.2.2.2.2.2.2.2.2.2 hQ ht hW) f4.2.2 hd f1.2.2.2.2.2.2.1
theorem ex_return (hd : decode M.2.1 pc = .ok (.return_, 1)) (hQ : Q none h) (hr : M.2.2.2.1 = none := by rfl) : ex_G M d pc ls [] h bc bs Q := by
  intro g p l e R s m args below meth cd H locs cells slots lsA f1 f2 f3 f4 f5 f6 f7 f8 f9
  refine W.widen (k := R.cells) (n := R.slots) (by omega) (by omega) ?_
  exact W.vret f1.1 f1.2.1 (by rw [f1.2.2.2.2.2.1]; exact hr) (fun t ht hW => ex_fin (r := none) f2 f3 f4 f1.2.2.2.2.2.2.2.2.2.2 hQ ht hW) f4.2.2 hd f1.2.2.2.2.2.2.1
theorem ex_lcmp {x y : Int64} (hd : decode M.2.1 pc = .ok (.lcmp, 1)) (k : ex_G M d q ls (.int (lg_cmp x y) :: st) h bc bs Q) (hq : pc + 1 = q := by rfl) : ex_G M d pc ls (.long y :: .long x :: st) h bc bs Q := by
  subst hq
  intro g p l e R s m args below meth cd H locs cells slots lsA f1 f2 f3 f4 f5 f6 f7 f8 f9
  exact W.lcmp f1.1 f1.2.1 hd (k g p l e R s m args below meth cd H locs cells slots lsA f1 f2 f3 f4 f5 f6 f7 f8 f9)
theorem ex_ldc {idx : Nat} {v : Int32} (hd : decode M.2.1 pc = .ok (.ldc idx, 2)) (hl : Cond.constant M.1 idx v ∈ tw_l) (k : ex_G M d q ls (.int v :: st) h bc bs Q) (hq : pc + 2 = q := by rfl) : ex_G M d pc ls st h bc bs Q := by
  subst hq
  intro g p l e R s m args below meth cd H locs cells slots lsA f1 f2 f3 f4 f5 f6 f7 f8 f9
  exact lv_ldc f1.1 f1.2.1 f1.2.2.2.1 (ex_tw f1 _ hl) hd (k g p l e R s m args below meth cd H locs cells slots lsA f1 f2 f3 f4 f5 f6 f7 f8 f9)
theorem ex_ldc_w {idx : Nat} {v : Int32} (hd : decode M.2.1 pc = .ok (.ldc_w idx, 3)) (hl : Cond.constant M.1 idx v ∈ tw_l) (k : ex_G M d q ls (.int v :: st) h bc bs Q) (hq : pc + 3 = q := by rfl) : ex_G M d pc ls st h bc bs Q := by
  subst hq
  intro g p l e R s m args below meth cd H locs cells slots lsA f1 f2 f3 f4 f5 f6 f7 f8 f9
  exact lv_ldcw f1.1 f1.2.1 f1.2.2.2.1 (ex_tw f1 _ hl) hd (k g p l e R s m args below meth cd H locs cells slots lsA f1 f2 f3 f4 f5 f6 f7 f8 f9)
theorem ex_ldc2_w {idx : Nat} {v : Int64} (hd : decode M.2.1 pc = .ok (.ldc2_w idx, 3)) (hl : Cond.constantLong M.1 idx v ∈ tw_l) (k : ex_G M d q ls (.long v :: st) h bc bs Q) (hq : pc + 3 = q := by rfl) : ex_G M d pc ls st h bc bs Q := by
  subst hq
  intro g p l e R s m args below meth cd H locs cells slots lsA f1 f2 f3 f4 f5 f6 f7 f8 f9
  exact lv_ldc2 f1.1 f1.2.1 f1.2.2.2.1 (ex_tw f1 _ hl) hd (k g p l e R s m args below meth cd H locs cells slots lsA f1 f2 f3 f4 f5 f6 f7 f8 f9)
/-- tableswitch: the jump's place as a function of the number -/
def sw_t (dflt lo hi : Int) (offs : List Int) (x : Int) : Int := if x < lo ∨ hi < x then dflt else offs.getD (x - lo).toNat 0
theorem ex_tsw {dflt lo hi : Int} {offs : Array Int} {len tgt : Nat} {x : Int32} (hd : decode M.2.1 pc = .ok (.tableswitch dflt lo hi offs, len)) (ht : (pc : Int) + sw_t dflt lo hi offs.toList x.toInt = (tgt : Int)) (k : ex_G M d tgt ls st h bc bs Q) (hz : (hi - lo).toNat < offs.size := by decide) : ex_G M d pc ls (.int x :: st) h bc bs Q := by
  intro g p l e R s m args below meth cd H locs cells slots lsA f1 f2 f3 f4 f5 f6 f7 f8 f9
  have k := k g p l e R s m args below meth cd H locs cells slots lsA f1 f2 f3 f4 f5 f6 f7 f8 f9
  unfold sw_t at ht
  by_cases hx : x.toInt < lo ∨ hi < x.toInt
  · rw [if_pos hx] at ht
    exact lv_tableOut f1.1 f1.2.1 hd hx ht k
  · rw [if_neg hx] at ht
    refine lv_tableIn f1.1 f1.2.1 hd (fun z => hx (Or.inl z)) (fun z => hx (Or.inr z)) (off := offs.toList.getD (x.toInt - lo).toNat 0) ?_ ht k
    have hlt : (x.toInt - lo).toNat < offs.size := by omega
    rw [Array.getElem?_eq_getElem hlt, List.getD_eq_getElem?_getD, List.getElem?_eq_getElem (by simpa using hlt)]
    rfl
theorem ex_lsw {dflt : Int} {ps : Array (Int × Int)} {len tgt : Nat} {x : Int32} (hd : decode M.2.1 pc = .ok (.lookupswitch dflt ps, len)) (ht : (pc : Int) + Op.lookupswitch.offset ps.toList dflt x.toInt = (tgt : Int)) (k : ex_G M d tgt ls st h bc bs Q) (hp : (ps.toList.zip (ps.toList.drop 1)).all (fun (a, next) => a.1 < next.1) = true := by decide) : ex_G M d pc ls (.int x :: st) h bc bs Q := by
  intro g p l e R s m args below meth cd H locs cells slots lsA f1 f2 f3 f4 f5 f6 f7 f8 f9
  exact lv_lookup f1.1 f1.2.1 hd hp rfl ht (k g p l e R s m args below meth cd H locs cells slots lsA f1 f2 f3 f4 f5 f6 f7 f8 f9)
/-- getstatic of the two tables -/
theorem ex_gets1 {idx : Nat} (hd : decode M.2.1 pc = .ok (.getstatic idx, 3)) (hl : Cond.fieldLink M.1 idx RX11 "COLOUR_COUNTS" "[I" ∈ tw_l) (k : ex_G M d q ls (.ref 10000001 :: st) h bc bs Q) (hq : pc + 3 = q := by rfl) : ex_G M d pc ls st h bc bs Q := by
  subst hq
  intro g p l e R s m args below meth cd H locs cells slots lsA f1 f2 f3 f4 f5 f6 f7 f8 f9
  exact va_gets f1.1 f1.2.1 f1.2.2.2.2.2.2.2.2.2.1.1 f4 f1.2.2.2.1 (ex_tw f1 _ hl) (fun _ h => h) hd (k g p l e R s m args below meth cd H locs cells slots lsA f1 f2 f3 f4 f5 f6 f7 f8 f9)
theorem ex_gets2 {idx : Nat} (hd : decode M.2.1 pc = .ok (.getstatic idx, 3)) (hl : Cond.fieldLink M.1 idx RX5 "PARENTS" "[I" ∈ tw_l) (k : ex_G M d q ls (.ref 10000002 :: st) h bc bs Q) (hq : pc + 3 = q := by rfl) : ex_G M d pc ls st h bc bs Q := by
  subst hq
  intro g p l e R s m args below meth cd H locs cells slots lsA f1 f2 f3 f4 f5 f6 f7 f8 f9
  exact va_gets f1.1 f1.2.1 f1.2.2.2.2.2.2.2.2.2.1.2 f4 f1.2.2.2.1 (ex_tw f1 _ hl) (fun _ h => h) hd (k g p l e R s m args below meth cd H locs cells slots lsA f1 f2 f3 f4 f5 f6 f7 f8 f9)
/-- one cell more -/
theorem HR.push {g : GD} {h h1 : AH} {H H1 : Heap} (hH : HR g h H) (hN : ah_n h < 10000000) (hn : ah_n h1 = ah_n h + 1) (hk : ∀ b, b ≠ ah_n h → ah_k h1 b = ah_k h b) (hf : ∀ b, b ≠ ah_n h → ah_f h1 b = ah_f h b) (hr : ∀ b, b ≠ ah_n h → ah_r h1 b = ah_r h b) (hi : ∀ b, b ≠ ah_n h → ah_i h1 b = ah_i h b) (hl : ∀ b, b ≠ ah_n h → ah_l h1 b = ah_l h b) (hq : ∀ b, b ≠ ah_n h → ah_q h1 b = ah_q h b)
    (hz : H1.size = H.size + 1) (hs : ∀ x, x < H.size → H1[x]? = H[x]?) (ht : ce g h1 (ah_n h) H1) : HR g h1 H1 := by
  refine ⟨by rw [hz, hn, hH.1]; omega, by rw [hn]; omega, fun i hi' => ?_⟩
  rw [hn] at hi'
  by_cases e : i = ah_n h
  · subst e
    exact ht
  · exact ce_same (ce_kept (hH.2.2 i (by omega)) (hs _ (by rw [hH.1]; omega))) (hk i e) (hf i e) (hr i e) (hi i e) (hl i e) (hq i e)
theorem OL.push {g : GD} {h h1 : AH} {s : State} {H H1 : Heap} (hH : HR g h H) (x : OL g h s H) (hN : ah_n h < 10000000) (hk : ∀ b, b ≠ ah_n h → ah_k h1 b = ah_k h b) (hi : ∀ b, b ≠ ah_n h → ah_i h1 b = ah_i h b) (hs : ∀ x, x < H.size → H1[x]? = H[x]?) : OL g h1 s H1 :=
  (x.kept (fun q hq => hs q (by rw [hH.1]; omega))).same (fun j _ => hk _ (by omega)) (fun j _ => hi _ (by omega))
theorem va_S.push {A : Nat → Prop} {H0 H H1 : Heap} {locs : List Loc} (x : va_S A H0 H locs) (hz : H1.size = H.size + 1) (hs : ∀ x, x < H.size → H1[x]? = H[x]?) : va_S A H0 H1 locs :=
  ⟨Nat.le_trans x.1 (by omega), fun q h1 h2 => (hs q (Nat.lt_of_lt_of_le h1 x.1)).trans (x.2.1 q h1 h2), x.2.2⟩
theorem kt_dv : ∀ c, c < 13 → ∀ k, k < kt_N c → defaultValue (kt_ty c k) = if (kt_ty c k).isReference = true then .null else .int 0 := by decide +kernel
theorem ex_new {idx c : Nat} (hd : decode M.2.1 pc = .ok (.new idx, 3)) (hl : Cond.classLink M.1 idx (kt_R c) ∈ tw_l) (hin : Cond.instantiable (kt_R c) (kt_N c) ∈ tw_l) (hini : Cond.initialized (kt_R c) ∈ tw_l) (hN : ah_n h < 10000000) (kk : ex_G M d q ls (.ref (ah_n h) :: st) (ah_no h c) bc bs Q) (hc : c < 13 := by decide) (hq : pc + 3 = q := by rfl) : ex_G M d pc ls st h (bc + 1) (bs + kt_N c) Q := by
  subst hq
  intro g p l e R s m args below meth cd H locs cells slots lsA f1 f2 f3 f4 f5 f6 f7 f8 f9
  have hKn := f1.2.2.2.2.2.2.2.2.1.1 c hc
  refine W.newcK f1.1 f1.2.1 f1.2.2.2.1 (ex_tw f1 _ hl) (ex_tw f1 _ hin) (ex_tw f1 _ hini) rfl hd (by omega) (by omega) hKn.2.1 rfl fun H1 kC hkC e1 z1 o1 => ?_
  have hH1 : HR g (ah_no h c) H1 := by
    refine f2.push hN rfl (fun b hb => u1_n _ _ hb) (fun b hb => u1_n _ _ hb) (fun b hb => u1_n _ _ hb) (fun _ _ => rfl) (fun _ _ => rfl) (fun _ _ => rfl) z1 o1 ?_
    have ek : ah_k (ah_no h c) (ah_n h) = (20 + c, 0) := u1_s _ _ _
    unfold ce
    rw [ek, if_neg (show ¬ 20 + c ≤ 1 by omega), if_neg (show ¬ 20 + c = 2 by omega), if_neg (show ¬ 20 + c < 20 by omega)]
    show 20 + c - 20 < 13 ∧ t_OB _ (gd_c g (20 + c - 20)) (kt_N (20 + c - 20)) (gd_s g (20 + c - 20)) H1 (ce_v g (ah_no h c) (ah_n h) (20 + c - 20))
    rw [show 20 + c - 20 = c by omega]
    refine ⟨hc, ?_⟩
    rw [f2.1] at e1
    refine (u_born (kt_ty c) (ex_tw f1) (kt_in c hc) hKn hkC e1 (kt_tyok c hc)).to (fun k hk => ?_)
    rw [kt_dv c hc k hk]
    unfold ce_v
    have er : ah_r (ah_no h c) (ah_n h) = fun _ => none := u1_s _ _ _
    have ef : ah_f (ah_no h c) (ah_n h) = fun _ => 0 := u1_s _ _ _
    rw [er, ef]
    rfl
  have kk := kk g p l e R s m args below meth cd H1 locs (cells + 1) (slots + kt_N c) lsA f1 hH1 (OL.push f2 f3 hN (fun b hb => u1_n _ _ hb) (fun _ _ => rfl) o1) (f4.push z1 o1) f5 f6 f7 (by omega) (by omega)
  have ea : ad g (ah_n h) = H.size := by rw [f2.1]; exact if_pos hN
  have e2 : (Value.ref (ah_n h) :: st).map (cv g) = .ref H.size :: st.map (cv g) := by show Value.ref (ad g (ah_n h)) :: _ = _; rw [ea]
  rw [e2] at kk
  exact kk
theorem ce_na {g : GD} {H1 : Heap} {t n : Nat} (ht : t < 20) {cA : ClassId} (ha : cA = gd_a g t) {x : Value} (hx : x = if t ≤ 1 then .int 0 else if t = 2 then .long 0 else .null) (e1 : H1[gd_b g + ah_n h]? = some (arrV cA n (fun _ => x))) : ce g (ah_na h t n) (ah_n h) H1 := by
  have ek : ah_k (ah_na h t n) (ah_n h) = (t, n) := u1_s _ _ _
  have ei : ah_i (ah_na h t n) (ah_n h) = fun _ => 0 := u1_s _ _ _
  have el : ah_l (ah_na h t n) (ah_n h) = fun _ => 0 := u1_s _ _ _
  have eq : ah_q (ah_na h t n) (ah_n h) = fun _ => none := u1_s _ _ _
  subst ha
  subst hx
  unfold ce
  rw [ek, ei, el, eq, e1]
  show if t ≤ 1 then _ else if t = 2 then _ else if t < 20 then _ else _
  by_cases h1 : t ≤ 1
  · rw [if_pos h1, if_pos h1]
  · rw [if_neg h1, if_neg h1]
    by_cases h2 : t = 2
    · subst h2
      rfl
    · rw [if_neg h2, if_neg h2, if_pos ht]
      rfl
theorem ex_newarray {atype : ArrayType} {t : Nat} {n : Int32} {N : Nat} (hd : decode M.2.1 pc = .ok (.newarray atype, 2)) (hty : newarray.typeOf atype = at_ty t) (ht : t ≤ 2) (hac : Cond.arrayClass (at_ty t) ∈ tw_l) (hn : n = Int32.ofNat N) (hN2 : N ≤ 1000000) (hN : ah_n h < 10000000) (kk : ex_G M d q ls (.ref (ah_n h) :: st) (ah_na h t N) bc bs Q) (hq : pc + 2 = q := by rfl) : ex_G M d pc ls (.int n :: st) h (bc + 1) (bs + N) Q := by
  subst hq
  intro g p l e R s m args below meth cd H locs cells slots lsA f1 f2 f3 f4 f5 f6 f7 f8 f9
  have hnc : n.toNatClampNeg = N := by rw [hn]; exact nI_clamp (by omega)
  have hn0 : ¬ n < 0 := by rw [hn]; exact nI_pos (by omega)
  have hac := ex_tw f1 _ hac
  rw [← hty] at hac
  have hcb : componentBytes (newarray.typeOf atype) ≤ 8 := by cases atype <;> decide
  refine va_newaK f1.1 f1.2.1 hac rfl hd rfl hn0 hnc (by have := Nat.mul_le_mul hN2 hcb; omega) (by omega) (by omega) rfl fun H1 cA e1 z1 o1 hAr hNm => ?_
  have hta : t ∈ at_tags := by
    match t, ht with
    | 0, _ => decide
    | 1, _ => decide
    | 2, _ => decide
  have hRA := (f1.2.2.2.2.2.2.2.2.1.2.1 t hta).2
  have ha : cA = gd_a g t := by
    rw [hty] at hNm
    match t, ht, hRA, hNm with
    | 0, _, hRA, hNm => exact Option.some.inj (hNm.symm.trans hRA)
    | 1, _, hRA, hNm => exact Option.some.inj (hNm.symm.trans hRA)
    | 2, _, hRA, hNm => exact Option.some.inj (hNm.symm.trans hRA)
  rw [f2.1] at e1
  have hH1 : HR g (ah_na h t N) H1 := by
    refine f2.push hN rfl (fun b hb => u1_n _ _ hb) (fun _ _ => rfl) (fun _ _ => rfl) (fun b hb => u1_n _ _ hb) (fun b hb => u1_n _ _ hb) (fun b hb => u1_n _ _ hb) z1 o1 (ce_na (by omega) ha ?_ e1)
    rw [hty]
    match t, ht with
    | 0, _ => rfl
    | 1, _ => rfl
    | 2, _ => rfl
  have kk := kk g p l e R s m args below meth cd H1 locs (cells + 1) (slots + N) lsA f1 hH1 (OL.push f2 f3 hN (fun b hb => u1_n _ _ hb) (fun b hb => u1_n _ _ hb) o1) (f4.push z1 o1) f5 f6 f7 (by omega) (by omega)
  have ea : ad g (ah_n h) = H.size := by rw [f2.1]; exact if_pos hN
  have e2 : (Value.ref (ah_n h) :: st).map (cv g) = .ref H.size :: st.map (cv g) := by show Value.ref (ad g (ah_n h)) :: _ = _; rw [ea]
  rw [e2] at kk
  exact kk
theorem ex_anewarray {idx c : Nat} {n : Int32} {N : Nat} (hd : decode M.2.1 pc = .ok (.anewarray idx, 3)) (hl : Cond.classLink M.1 idx (kt_R c) ∈ tw_l) (hao : Cond.arrayOver (.object (kt_R c)) ∈ tw_l) (hn : n = Int32.ofNat N) (hN2 : N ≤ 1000000) (hN : ah_n h < 10000000) (kk : ex_G M d q ls (.ref (ah_n h) :: st) (ah_na h (4 + c) N) bc bs Q) (hc : 4 + c ∈ at_tags ∧ c < 13 := by decide) (hq : pc + 3 = q := by rfl) : ex_G M d pc ls (.int n :: st) h (bc + 1) (bs + N) Q := by
  subst hq
  intro g p l e R s m args below meth cd H locs cells slots lsA f1 f2 f3 f4 f5 f6 f7 f8 f9
  have hnc : n.toNatClampNeg = N := by rw [hn]; exact nI_clamp (by omega)
  have hn0 : ¬ n < 0 := by rw [hn]; exact nI_pos (by omega)
  refine W.anew f1.1 f1.2.1 f1.2.2.2.1 (ex_tw f1 _ hl) (ex_tw f1 _ hao) rfl hd rfl hn0 (by rw [hnc]; omega) (by omega) (by rw [hnc]; omega) fun cA kA comp g1 g2 g3 g4 => ?_
  rw [hnc]
  generalize hH1 : H.push ({ cls := cA, slots := Array.replicate N .null, vm := .none } : Cell) = H1
  have z1 : H1.size = H.size + 1 := by rw [← hH1, Array.size_push]
  have e1 : H1[H.size]? = some (arrV cA N (fun _ => .null)) := by rw [← hH1, Array.getElem?_push_size, ← arrV_new]
  have o1 : ∀ q : Nat, q < H.size → H1[q]? = H[q]? := fun q hq => by rw [← hH1, Array.getElem?_push, if_neg (Nat.ne_of_lt hq)]
  have hRA := (f1.2.2.2.2.2.2.2.2.1.2.1 (4 + c) hc.1).2
  have ety : at_ty (4 + c) = .object (kt_R c) := by rw [Nat.add_comm]; rfl
  rw [ety] at hRA
  obtain ⟨_, _, -, -, -, r4⟩ := hRA
  have ha : cA = gd_a g (4 + c) := Option.some.inj (g1.symm.trans r4)
  rw [f2.1] at e1
  have hH2 : HR g (ah_na h (4 + c) N) H1 := f2.push hN rfl (fun b hb => u1_n _ _ hb) (fun _ _ => rfl) (fun _ _ => rfl) (fun b hb => u1_n _ _ hb) (fun b hb => u1_n _ _ hb) (fun b hb => u1_n _ _ hb) z1 o1 (ce_na (by omega) ha (by rw [if_neg (by omega), if_neg (by omega)]) e1)
  have kk := kk g p l e R s m args below meth cd H1 locs (cells + 1) (slots + N) lsA f1 hH2 (OL.push f2 f3 hN (fun b hb => u1_n _ _ hb) (fun b hb => u1_n _ _ hb) o1) (f4.push z1 o1) f5 f6 f7 (by omega) (by omega)
  have ea : ad g (ah_n h) = H.size := by rw [f2.1]; exact if_pos hN
  have e2 : (Value.ref (ah_n h) :: st).map (cv g) = .ref H.size :: st.map (cv g) := by show Value.ref (ad g (ah_n h)) :: _ = _; rw [ea]
  rw [e2] at kk
  exact kk
end CAL
