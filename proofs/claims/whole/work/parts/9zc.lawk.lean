/-! Rules that remember the class of one object: between the two calls of a turn of the law. -/
section LAWK
variable {M : MM} {d pc q bc bs a2 c2 : Nat} {ls st : List Value} {h : AH} {Q : Option Value → AH → Prop}
/-- the object a has class c, in the machine -/
def RC (a c : Nat) (g : GD) (s : State) (H : Heap) : Prop := ∃ cell : Cell, H[ad g a]? = some cell ∧ cell.vm.isStatics = false ∧ s.vm.findClass (kt_R c) = some cell.cls
def ex_GK (a c : Nat) (M : MM) (d pc : Nat) (ls st : List Value) (h : AH) (bc bs : Nat) (Q : Option Value → AH → Prop) : Prop :=
  ∀ (g : GD) (p : Program) (l : Launch) (e : Env) (R : Room) (s : State) (m : MethodId) (args : Array Value) (below : List Frame) (meth : Method) (cd : Code) (H : Heap) (locs : List Loc) (cells slots : Nat) (lsA : Array Slot),
    ex_F M g p s m args meth cd → HR g h H → OL g h s H → va_S (gd_A g) s.heap H locs → lv_has lsA M.2.2.1 (ex_lp 0 (ls.map (cv g))) → d ≤ R.frames → 200 * d ≤ R.locals → cells + bc ≤ R.cells → slots + bs ≤ R.slots → RC a c g s H →
    W p l e R s m args below meth cd H locs cells slots (MQ below (ex_Q g Q) args s R.cells R.slots (gd_A g)) (F0 m pc lsA (st.map (cv g)))
/-- the old rows are as they were -/
def OLK (h h' : AH) : Prop := ∀ j, j < 3 → ah_k h' (10000000 + j) = ah_k h (10000000 + j) ∧ ∀ i, i < (ah_k h (10000000 + j)).2 → ah_i h' (10000000 + j) i = ah_i h (10000000 + j) i
/-- cells keep their classes -/
def KPs (s t : State) : Prop := ∀ (b : Nat) (cell : Cell), s.heap[b]? = some cell → ∃ cell' : Cell, t.heap[b]? = some cell' ∧ cell'.cls = cell.cls ∧ cell'.vm = cell.vm
theorem ex_S.K {y : MethodName} {vs : List Value} (x : ex_S y M d vs h bc bs Q) (g : GD) (l : Launch) : Met l y [Cond.code y M.2.1 M.2.2.1 M.2.2.2.1] { frames := d, cells := bc, slots := bs, locals := 200 * d } (va_Pc (vs.map (cv g)) (tw_i g h)) (fun a st o t => ex_Q g Q a st o t ∧ KPs st t) bc bs (gd_A g) :=
  MetFree.mono (x g l) (fun _ _ z => z) (fun _ _ _ _ _ z => z) (fun _ _ _ _ _ q => by
    obtain ⟨q1, L, ⟨f1, f2, f3⟩, q3⟩ := q
    refine ⟨⟨q1, fun b cell hb => ?_⟩, L, ⟨f1, f2, f3⟩, q3⟩
    obtain ⟨-, -, -, -, -, f4⟩ := f3
    obtain ⟨c', g1, g2, -⟩ := f4 b cell hb
    exact ⟨c', g1, by rw [g2], by rw [g2]⟩)
theorem OLK_of {g : GD} {h h' : AH} {U V : State} {H H' : Heap} (x : OL g h U H) (y : OL g h' V H') (e : ∀ q, q < gd_b g → H'[q]? = H[q]?) : OLK h h' := by
  intro j hj
  obtain ⟨x1, x2, scr, x3, -, -, x6, x7⟩ := x j hj
  obtain ⟨-, y2, scr', y3, -, -, y6, y7⟩ := y j hj
  rw [e _ x1, x3] at y3
  have es : scr = scr' := Option.some.inj y3
  subst es
  have el : (ah_k h' (10000000 + j)).2 = (ah_k h (10000000 + j)).2 := y6.symm.trans x6
  refine ⟨Prod.ext (y2.trans x2.symm) el, fun i hi => ?_⟩
  have a := x7 i hi
  have b := y7 i (by rw [el]; exact hi)
  rw [a] at b
  have := Option.some.inj b
  injection this with this
  exact this.symm
theorem ek_iadd {x y : Int32} (hd : decode M.2.1 pc = .ok (.iadd, 1)) (k : ex_GK a2 c2 M d q ls (.int (x + y) :: st) h bc bs Q) (hq : pc + 1 = q := by rfl) : ex_GK a2 c2 M d pc ls (.int y :: .int x :: st) h bc bs Q := by
  subst hq
  intro g p l e R s m args below meth c H locs cells slots lsA f1 f2 f3 f4 f5 f6 f7 f8 f9 f10
  exact lv_iadd f1.1 f1.2.1 hd (k g p l e R s m args below meth c H locs cells slots lsA f1 f2 f3 f4 f5 f6 f7 f8 f9 f10)
theorem ek_land {x y : Int64} (hd : decode M.2.1 pc = .ok (.land, 1)) (k : ex_GK a2 c2 M d q ls (.long (x &&& y) :: st) h bc bs Q) (hq : pc + 1 = q := by rfl) : ex_GK a2 c2 M d pc ls (.long y :: .long x :: st) h bc bs Q := by
  subst hq
  intro g p l e R s m args below meth c H locs cells slots lsA f1 f2 f3 f4 f5 f6 f7 f8 f9 f10
  exact lv_land f1.1 f1.2.1 hd (k g p l e R s m args below meth c H locs cells slots lsA f1 f2 f3 f4 f5 f6 f7 f8 f9 f10)
theorem ek_lor {x y : Int64} (hd : decode M.2.1 pc = .ok (.lor, 1)) (k : ex_GK a2 c2 M d q ls (.long (x ||| y) :: st) h bc bs Q) (hq : pc + 1 = q := by rfl) : ex_GK a2 c2 M d pc ls (.long y :: .long x :: st) h bc bs Q := by
  subst hq
  intro g p l e R s m args below meth c H locs cells slots lsA f1 f2 f3 f4 f5 f6 f7 f8 f9 f10
  exact lv_lor f1.1 f1.2.1 hd (k g p l e R s m args below meth c H locs cells slots lsA f1 f2 f3 f4 f5 f6 f7 f8 f9 f10)
theorem ek_lshl {x : Int64} {y : Int32} (hd : decode M.2.1 pc = .ok (.lshl, 1)) (k : ex_GK a2 c2 M d q ls (.long (x <<< (y.toInt64 &&& 63)) :: st) h bc bs Q) (hq : pc + 1 = q := by rfl) : ex_GK a2 c2 M d pc ls (.int y :: .long x :: st) h bc bs Q := by
  subst hq
  intro g p l e R s m args below meth c H locs cells slots lsA f1 f2 f3 f4 f5 f6 f7 f8 f9 f10
  exact lv_lshl f1.1 f1.2.1 hd rfl (k g p l e R s m args below meth c H locs cells slots lsA f1 f2 f3 f4 f5 f6 f7 f8 f9 f10)
theorem ek_i2l {x : Int32} (hd : decode M.2.1 pc = .ok (.i2l, 1)) (k : ex_GK a2 c2 M d q ls (.long x.toInt64 :: st) h bc bs Q) (hq : pc + 1 = q := by rfl) : ex_GK a2 c2 M d pc ls (.int x :: st) h bc bs Q := by
  subst hq
  intro g p l e R s m args below meth c H locs cells slots lsA f1 f2 f3 f4 f5 f6 f7 f8 f9 f10
  exact lv_i2l f1.1 f1.2.1 hd rfl (k g p l e R s m args below meth c H locs cells slots lsA f1 f2 f3 f4 f5 f6 f7 f8 f9 f10)
theorem ek_iconst {n : Int} {v : Int32} (hd : decode M.2.1 pc = .ok (.iconst n, 1)) (hv : Int32.ofInt n = v) (k : ex_GK a2 c2 M d q ls (.int v :: st) h bc bs Q) (hq : pc + 1 = q := by rfl) : ex_GK a2 c2 M d pc ls (st) h bc bs Q := by
  subst hq
  intro g p l e R s m args below meth c H locs cells slots lsA f1 f2 f3 f4 f5 f6 f7 f8 f9 f10
  exact lv_iconst f1.1 f1.2.1 hd hv (k g p l e R s m args below meth c H locs cells slots lsA f1 f2 f3 f4 f5 f6 f7 f8 f9 f10)
theorem ek_bipush {n : Int} {v : Int32} (hd : decode M.2.1 pc = .ok (.bipush n, 2)) (hv : (Int8.ofInt n).toInt32 = v) (k : ex_GK a2 c2 M d q ls (.int v :: st) h bc bs Q) (hq : pc + 2 = q := by rfl) : ex_GK a2 c2 M d pc ls (st) h bc bs Q := by
  subst hq
  intro g p l e R s m args below meth c H locs cells slots lsA f1 f2 f3 f4 f5 f6 f7 f8 f9 f10
  exact lv_bipush f1.1 f1.2.1 hd hv (k g p l e R s m args below meth c H locs cells slots lsA f1 f2 f3 f4 f5 f6 f7 f8 f9 f10)
theorem ek_iload_n {n : Fin 4} {x : Int32} (hd : decode M.2.1 pc = .ok (.iload_n n, 1)) (hl : ls[(n : Nat)]? = some (.int x)) (k : ex_GK a2 c2 M d q ls (.int x :: st) h bc bs Q) (hq : pc + 1 = q := by rfl) : ex_GK a2 c2 M d pc ls (st) h bc bs Q := by
  subst hq
  intro g p l e R s m args below meth c H locs cells slots lsA f1 f2 f3 f4 f5 f6 f7 f8 f9 f10
  exact lv_iload_n f1.1 f1.2.1 hd rfl (ex_lget f5 hl rfl) (k g p l e R s m args below meth c H locs cells slots lsA f1 f2 f3 f4 f5 f6 f7 f8 f9 f10)
theorem ek_aload_n {n : Fin 4} {x : Nat} (hd : decode M.2.1 pc = .ok (.aload_n n, 1)) (hl : ls[(n : Nat)]? = some (.ref x)) (k : ex_GK a2 c2 M d q ls (.ref x :: st) h bc bs Q) (hq : pc + 1 = q := by rfl) : ex_GK a2 c2 M d pc ls (st) h bc bs Q := by
  subst hq
  intro g p l e R s m args below meth c H locs cells slots lsA f1 f2 f3 f4 f5 f6 f7 f8 f9 f10
  exact lv_aload_n f1.1 f1.2.1 hd rfl (ex_lget f5 hl rfl) (k g p l e R s m args below meth c H locs cells slots lsA f1 f2 f3 f4 f5 f6 f7 f8 f9 f10)
theorem ek_ldc2_w {idx : Nat} {v : Int64} (hd : decode M.2.1 pc = .ok (.ldc2_w idx, 3)) (hl : Cond.constantLong M.1 idx v ∈ tw_l) (k : ex_GK a2 c2 M d q ls (.long v :: st) h bc bs Q) (hq : pc + 3 = q := by rfl) : ex_GK a2 c2 M d pc ls st h bc bs Q := by
  subst hq
  intro g p l e R s m args below meth cd H locs cells slots lsA f1 f2 f3 f4 f5 f6 f7 f8 f9 f10
  exact lv_ldc2 f1.1 f1.2.1 f1.2.2.2.1 (ex_tw f1 _ hl) hd (k g p l e R s m args below meth cd H locs cells slots lsA f1 f2 f3 f4 f5 f6 f7 f8 f9 f10)
theorem ek_iaload {a n : Nat} {i : Int32} (hd : decode M.2.1 pc = .ok (.iaload, 1)) (hx : ah_ra h a n) (hi : ix i n) (kk : ex_GK a2 c2 M d q ls (.int (ah_i h a i.toNatClampNeg) :: st) h bc bs Q) (hq : pc + 1 = q := by rfl) : ex_GK a2 c2 M d pc ls (.int i :: .ref a :: st) h bc bs Q := by
  subst hq
  intro g p l e R s m args below meth cd H locs cells slots lsA f1 f2 f3 f4 f5 f6 f7 f8 f9 f10
  have kk := kk g p l e R s m args below meth cd H locs cells slots lsA f1 f2 f3 f4 f5 f6 f7 f8 f9 f10
  rcases hx with hx | ⟨j, hj, rfl, hn⟩
  · exact W.iald f1.1 f1.2.1 (arr_at f2 hx (by decide)) ((f1.2.2.2.2.2.2.2.2.1.2.1 0 (by decide)).1 n _) (fun z => by cases z) (by rw [arrV_size]; exact ix_in hi) (by rw [arrV_read _ _ (ix_lt hi)]; rfl) rfl rfl hd kk
  · obtain ⟨o1, o2, scr, o3, o4, o5, o6, o7⟩ := f3 j hj
    have ea : ad g (10000000 + j) = gd_o g j := by unfold ad; rw [if_neg (by omega), Nat.add_sub_cancel_left]
    rw [hn] at o6 o7
    exact W.iald f1.1 f1.2.1 (a := ad g (10000000 + j)) (by rw [ea]; exact o3) o4 o5 (by rw [o6]; exact ix_in hi) (o7 _ (ix_lt hi)) rfl rfl hd kk
theorem ek_iald {a : Nat} {i x : Int32} (hd : decode M.2.1 pc = .ok (.iaload, 1)) (hx : ld0 h a i) (hv : ah_i h a i.toNatClampNeg = x) (kk : ex_GK a2 c2 M d q ls (.int x :: st) h bc bs Q) (hq : pc + 1 = q := by rfl) : ex_GK a2 c2 M d pc ls (.int i :: .ref a :: st) h bc bs Q := by
  obtain ⟨n, h1, h2⟩ := hx
  rw [← hv] at kk
  exact ek_iaload hd h1 h2 kk hq
theorem ek_after {g : GD} {p : Program} {l : Launch} {e : Env} {R : Room} {s : State} {m : MethodId} {args a : Array Value} {below : List Frame} {meth : Method} {cd : Code} {H : Heap} {locs : List Loc} {cells slots mc ms : Nat} {lsA : Array Slot} {st0 : List Value} {Q' : Option Value → AH → Prop}
    (hr : va_Run p l e R s m args below meth cd H locs cells slots mc ms (F0 m pc lsA st0) (st.map (cv g)) (fun st o t => ex_Q g Q' a st o t ∧ KPs st t) (gd_A g)) (f1 : ex_F M g p s m args meth cd) (f2 : HR g h H) (f3 : OL g h s H) (f4 : va_S (gd_A g) s.heap H locs) (f5 : lv_has lsA M.2.2.1 (ex_lp 0 (ls.map (cv g)))) (f6 : d ≤ R.frames) (f7 : 200 * d ≤ R.locals) (f8 : cells + (bc + mc) ≤ R.cells) (f9 : slots + (bs + ms) ≤ R.slots) (f10 : RC a2 c2 g s H)
    (kk : ∀ r h', Q' r h' → OLK h h' → ex_GK a2 c2 M d (pc + 3) ls (r.toList ++ st) h' bc bs Q) : W p l e R s m args below meth cd H locs cells slots (MQ below (ex_Q g Q) args s R.cells R.slots (gd_A g)) (F0 m pc lsA st0) := by
  intro T hT X
  obtain ⟨v, st₀, t, T', L, h0, X', hL, e1, e2, ⟨⟨r, h', hv, hq, hH', hO', hz, hold⟩, hk⟩, stp⟩ := hr T hT X
  rw [h0] at hz hold
  cases hv
  have hS' : va_S (gd_A g) s.heap t.heap (locs ++ L) := ⟨Nat.le_trans f4.1 hz, fun x h1 h2 => by rw [hold x (Nat.not_le.mp h2)]; exact f4.2.1 x h1 h2, fun x hx => by
      rcases List.mem_append.mp hx with y | y
      · exact f4.2.2 x y
      · exact hL x y⟩
  have hal : t.vm.Alike s.vm := by rw [← e2]; exact X'.warmed.alike.symm
  have rc : RC a2 c2 g s t.heap := by
    obtain ⟨cell, r1, r2, r3⟩ := f10
    obtain ⟨cell', k1, k2, k3⟩ := hk (ad g a2) cell (by rw [h0]; exact r1)
    exact ⟨cell', k1, by rw [k3]; exact r2, by rw [k2]; exact r3⟩
  obtain ⟨t2, a1, b1⟩ := kk r h' hq (OLK_of f3 hO' hold) g p l e R s m args below meth cd t.heap (locs ++ L) (cells + mc) (slots + ms) lsA f1 hH' (hO'.moved hal) hS' f5 f6 f7 (by omega) (by omega) rc T' e1 X'
  refine ⟨t2, stp t2 ?_, b1⟩
  have e3 : ((r.toList ++ st).map (cv g)) = (r.map (cv g)).toList ++ st.map (cv g) := by cases r <;> rfl
  rw [e3] at a1
  exact a1
theorem ex_callVa {idx d' n a c : Nat} {y : MethodName} {M' : MM} {vs st0 : List Value} {mc ms : Nat} {Q' : Option Value → AH → Prop} (hd : decode M.2.1 pc = .ok (.invokevirtual idx, 3)) (hst0 : vs.reverse ++ .ref a :: st = st0) (hc : cs_ M idx y M' n) (hin : Cond.instanceMethod y ∈ tw_l) (hse : Cond.selects (kt_R c) y y ∈ tw_l) (ho : ah_o h a c) (ho2 : ah_o h a2 c2) (hS : ex_S y M' d' (.ref a :: vs) h mc ms Q') (kk : ∀ r h', Q' r h' → OLK h h' → ex_GK a2 c2 M d q ls (r.toList ++ st) h' bc bs Q) (hdd : d' + 1 ≤ d := by omega) (hn : vs.length = n := by rfl) (hs : (st.map fun v => v.category).sum ≤ 8 := by exact Nat.le_of_ble_eq_true rfl) (hcc : c < 13 := by decide) (hc2 : c2 < 13 := by decide) (hq : pc + 3 = q := by rfl) : ex_G M d pc ls st0 h (bc + mc) (bs + ms) Q := by
  subst hq
  intro g p l e R s m args below meth cd H locs cells slots lsA f1 f2 f3 f4 f5 f6 f7 f8 f9
  have hws : ∀ w ∈ [Cond.code y M'.2.1 M'.2.2.1 M'.2.2.2.1], ∀ (a' : Array Value) (U : State), s.WarmedH U.vm → w.before a' U = true := fun w hw a' U hW => by
    rw [List.mem_singleton.mp hw]
    exact tw_moved hW f1.2.2.2.2.1 _ hc.2.1 a'
  have hstk : st0.map (cv g) = (vs.map (cv g)).reverse ++ .ref (ad g a) :: st.map (cv g) := by rw [← hst0, List.map_append, List.map_reverse]; rfl
  have hfx : CallFix p m cd M.2.1 M.2.2.1 s args tw_l M.1 := ⟨f1.1, f1.2.1, f1.2.2.1, f1.2.2.2.1, ex_tw f1⟩
  have h8 := hc.2.2.2.2.2
  refine ek_after (a := (Value.ref (ad g a) :: vs.map (cv g)).toArray) (mc := mc) (ms := ms) ?_ f1 f2 f3 f4 f5 f6 f7 (by omega) (by omega) (ex_recv f1 f2 ho2 hc2) kk
  rcases hc.1 with hl | ⟨host, hl⟩
  · exact va_runV (n := n) (As := vs.map (cv g)) (b := ad g a) hfx (ex_S.K hS g l) ⟨⟨rfl, rfl, by show d' + 1 ≤ _; omega, by show 8 + (_ + 11) + 200 * d' ≤ _; omega, hws, List.mem_singleton.mpr rfl, ex_tw f1 _ hc.2.1, ex_tw f1 _ hc.2.2.1, hc.2.2.2.1, cs_len hc, ex_tw f1 _ hl⟩, ex_tw f1 _ hin, ex_tw f1 _ hse⟩ ⟨tw_blind g h _, ex_recv f1 f2 ho hcc, tw_pre f1 f2 f3 f4 _⟩ rfl (by rw [List.length_map]; exact hn) f5.1 hstk (lv_room (cv_cats hs)) hd ⟨by omega, by omega⟩
  · exact va_runVN (n := n) (As := vs.map (cv g)) (b := ad g a) hfx (ex_S.K hS g l) ⟨⟨⟨rfl, rfl, by show d' + 1 ≤ _; omega, by show 8 + (_ + 11) + 200 * d' ≤ _; omega, hws, List.mem_singleton.mpr rfl⟩, ex_tw f1 _ hc.2.1, ex_tw f1 _ hc.2.2.1, hc.2.2.2.1, cs_len hc, ex_tw f1 _ hl⟩, ex_tw f1 _ hin, ex_tw f1 _ hse⟩ ⟨tw_blind g h _, ex_recv f1 f2 ho hcc, tw_pre f1 f2 f3 f4 _⟩ rfl (by rw [List.length_map]; exact hn) f5.1 hstk (lv_room (cv_cats hs)) hd ⟨by omega, by omega⟩
theorem ek_callV {idx d' n : Nat} {y : MethodName} {M' : MM} {vs st0 : List Value} {mc ms : Nat} {Q' : Option Value → AH → Prop} (hd : decode M.2.1 pc = .ok (.invokevirtual idx, 3)) (hst0 : vs.reverse ++ .ref a2 :: st = st0) (hc : cs_ M idx y M' n) (hin : Cond.instanceMethod y ∈ tw_l) (hse : Cond.selects (kt_R c2) y y ∈ tw_l) (hS : ex_S y M' d' (.ref a2 :: vs) h mc ms Q') (kk : ∀ r h', Q' r h' → ex_G M d q ls (r.toList ++ st) h' bc bs Q) (hdd : d' + 1 ≤ d := by omega) (hn : vs.length = n := by rfl) (hs : (st.map fun v => v.category).sum ≤ 8 := by exact Nat.le_of_ble_eq_true rfl) (hq : pc + 3 = q := by rfl) : ex_GK a2 c2 M d pc ls st0 h (bc + mc) (bs + ms) Q := by
  subst hq
  intro g p l e R s m args below meth cd H locs cells slots lsA f1 f2 f3 f4 f5 f6 f7 f8 f9 f10
  have hws : ∀ w ∈ [Cond.code y M'.2.1 M'.2.2.1 M'.2.2.2.1], ∀ (a' : Array Value) (U : State), s.WarmedH U.vm → w.before a' U = true := fun w hw a' U hW => by
    rw [List.mem_singleton.mp hw]
    exact tw_moved hW f1.2.2.2.2.1 _ hc.2.1 a'
  have hstk : st0.map (cv g) = (vs.map (cv g)).reverse ++ .ref (ad g a2) :: st.map (cv g) := by rw [← hst0, List.map_append, List.map_reverse]; rfl
  have hfx : CallFix p m cd M.2.1 M.2.2.1 s args tw_l M.1 := ⟨f1.1, f1.2.1, f1.2.2.1, f1.2.2.2.1, ex_tw f1⟩
  have h8 := hc.2.2.2.2.2
  refine ex_after (a := (Value.ref (ad g a2) :: vs.map (cv g)).toArray) (mc := mc) (ms := ms) ?_ f1 f2 f4 f5 f6 f7 (by omega) (by omega) kk
  rcases hc.1 with hl | ⟨host, hl⟩
  · exact va_runV (n := n) (As := vs.map (cv g)) (b := ad g a2) hfx (hS g l) ⟨⟨rfl, rfl, by show d' + 1 ≤ _; omega, by show 8 + (_ + 11) + 200 * d' ≤ _; omega, hws, List.mem_singleton.mpr rfl, ex_tw f1 _ hc.2.1, ex_tw f1 _ hc.2.2.1, hc.2.2.2.1, cs_len hc, ex_tw f1 _ hl⟩, ex_tw f1 _ hin, ex_tw f1 _ hse⟩ ⟨tw_blind g h _, f10, tw_pre f1 f2 f3 f4 _⟩ rfl (by rw [List.length_map]; exact hn) f5.1 hstk (lv_room (cv_cats hs)) hd ⟨by omega, by omega⟩
  · exact va_runVN (n := n) (As := vs.map (cv g)) (b := ad g a2) hfx (hS g l) ⟨⟨⟨rfl, rfl, by show d' + 1 ≤ _; omega, by show 8 + (_ + 11) + 200 * d' ≤ _; omega, hws, List.mem_singleton.mpr rfl⟩, ex_tw f1 _ hc.2.1, ex_tw f1 _ hc.2.2.1, hc.2.2.2.1, cs_len hc, ex_tw f1 _ hl⟩, ex_tw f1 _ hin, ex_tw f1 _ hse⟩ ⟨tw_blind g h _, f10, tw_pre f1 f2 f3 f4 _⟩ rfl (by rw [List.length_map]; exact hn) f5.1 hstk (lv_room (cv_cats hs)) hd ⟨by omega, by omega⟩
end LAWK
