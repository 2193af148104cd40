/-! aastore, calls. -/
section CA2
variable {M : MM} {d pc q bc bs : Nat} {ls st : List Value} {h : AH} {Q : Option Value → AH → Prop}
theorem ce_sq {g : GD} {H H1 : Heap} (f2 : HR g h H) {a t n x j : Nat} (hx : ah_x h a t n) (h3 : 3 ≤ t) (h20 : t < 20) (e1 : H1[ad g a]? = some ((arrV (gd_a g t) n (fun j => cr g (ah_q h a j))).setSlot j (.ref (ad g x)))) : ce g (ah_sq h a j (some x)) a H1 := by
  unfold ce
  show if (ah_k h a).1 ≤ 1 then _ else if (ah_k h a).1 = 2 then _ else if (ah_k h a).1 < 20 then _ else _
  rw [hx.2, if_neg (show ¬ t ≤ 1 by omega), if_neg (show ¬ t = 2 by omega), if_pos (show t < 20 from h20), ← ad_lt g f2 hx.1, e1, arrV_store]
  show some (arrV _ n _) = some (arrV (gd_a g (ah_k h a).1) (ah_k h a).2 _)
  rw [hx.2]
  congr 2
  funext k
  show updV _ _ _ k = cr g (u1 (ah_q h) a (u1 (ah_q h a) j (some x)) a k)
  rw [u1_s]
  unfold updV u1
  split <;> rfl
theorem ex_aastore {a c n x : Nat} {i : Int32} (hd : decode M.2.1 pc = .ok (.aastore, 1)) (hx : ah_x h a (4 + c) n) (hi : ix i n) (ho : ah_o h x c) (kk : ex_G M d q ls st (ah_sq h a i.toNatClampNeg (some x)) bc bs Q) (hc : 4 + c ∈ at_tags ∧ c < 13 := by decide) (hq : pc + 1 = q := by rfl) : ex_G M d pc ls (.ref x :: .int i :: .ref a :: st) h bc bs Q := by
  subst hq
  intro g p l e R s m args below meth cd H locs cells slots lsA f1 f2 f3 f4 f5 f6 f7 f8 f9
  have hce := f2.2.2 x ho.1
  unfold ce at hce
  rw [ho.2, if_neg (by omega), if_neg (by omega), if_neg (by omega), show 20 + c - 20 = c by omega] at hce
  obtain ⟨-, cellV, g1, g2, g3, -⟩ := hce
  rw [← ad_lt g f2 ho.1] at g1
  have hcls := (f1.2.2.2.2.2.2.2.2.1.1 c hc.2).2
  have hRA := (f1.2.2.2.2.2.2.2.2.1.2.1 (4 + c) hc.1).2
  have ety : at_ty (4 + c) = .object (kt_R c) := by rw [Nat.add_comm]; rfl
  rw [ety] at hRA
  obtain ⟨kA, comp, k1, k2, k3, -⟩ := hRA
  have hcomp : comp = gd_c g c := Option.some.inj (k3.symm.trans hcls.1)
  subst hcomp
  obtain ⟨kC, hkC, hkind⟩ := hcls.2
  refine W.aast f1.1 f1.2.1 (arr_at3 f2 hx (by omega) (by omega)) (fun z => by rintro ⟨⟩) (fun z => by cases z) k1 k2 rfl hkC (by rw [arrV_size]; exact ⟨fun z => ix_in hi (Or.inl z), ix_lt hi⟩) g1 (fun z => by rw [g3]; rintro ⟨⟩) (by rw [g2]; exact hkC) (by rw [g2]; exact va_assign hcls) rfl rfl hd fun H1 e1 z1 o1 => ?_
  have hH1 : HR g (ah_sq h a i.toNatClampNeg (some x)) H1 := HR.arr f2 hx.1 rfl rfl rfl rfl (fun _ _ => rfl) (fun _ _ => rfl) (fun b hb => u1_n _ _ hb) z1 o1 (ce_sq f2 hx (by omega) (by omega) e1)
  exact kk g p l e R s m args below meth cd H1 _ cells slots lsA f1 hH1 (OL.far f2 f3 hx.1 rfl (fun _ _ => rfl) o1) (f4.put z1 o1 (ad_A g f2 hx.1)) f5 f6 f7 f8 f9
theorem ex_aastorei {a n x m' : Nat} {i : Int32} (hd : decode M.2.1 pc = .ok (.aastore, 1)) (hx : ah_x h a 3 n) (hi : ix i n) (ho : ah_x h x 0 m') (kk : ex_G M d q ls st (ah_sq h a i.toNatClampNeg (some x)) bc bs Q) (hq : pc + 1 = q := by rfl) : ex_G M d pc ls (.ref x :: .int i :: .ref a :: st) h bc bs Q := by
  subst hq
  intro g p l e R s m args below meth cd H locs cells slots lsA f1 f2 f3 f4 f5 f6 f7 f8 f9
  obtain ⟨kA, kC, k1, k2, k3, k4⟩ := f1.2.2.2.2.2.2.2.2.1.2.2
  refine W.aast f1.1 f1.2.1 (arr_at3 f2 hx (by omega) (by omega)) (fun z => by rintro ⟨⟩) (fun z => by cases z) k1 k2 rfl k3 (by rw [arrV_size]; exact ⟨fun z => ix_in hi (Or.inl z), ix_lt hi⟩) (arr_at f2 ho (by decide)) (fun z => by rintro ⟨⟩) k3 k4 rfl rfl hd fun H1 e1 z1 o1 => ?_
  have hH1 : HR g (ah_sq h a i.toNatClampNeg (some x)) H1 := HR.arr f2 hx.1 rfl rfl rfl rfl (fun _ _ => rfl) (fun _ _ => rfl) (fun b hb => u1_n _ _ hb) z1 o1 (ce_sq f2 hx (by omega) (by omega) e1)
  exact kk g p l e R s m args below meth cd H1 _ cells slots lsA f1 hH1 (OL.far f2 f3 hx.1 rfl (fun _ _ => rfl) o1) (f4.put z1 o1 (ad_A g f2 hx.1)) f5 f6 f7 f8 f9
/-- Object's constructor -/
theorem ex_objInit {idx a : Nat} (hd : decode M.2.1 pc = .ok (.invokespecial idx, 3)) (hl : Cond.methodLink M.1 idx Lib.objectInit ∈ tw_l) (kk : ex_G M d q ls st h bc bs Q) (hd1 : 1 ≤ d := by omega) (hs : (st.map fun v => v.category).sum ≤ 8 := by exact Nat.le_of_ble_eq_true rfl) (h1 : Cond.instanceMethod Lib.objectInit ∈ tw_l := by decide +kernel) (h2 : Cond.code Lib.objectInit ⟨#[0xb1]⟩ 1 none ∈ tw_l := by decide +kernel) (hq : pc + 3 = q := by rfl) : ex_G M d pc ls (.ref a :: st) h bc bs Q := by
  subst hq
  intro g p l e R s m args below meth cd H locs cells slots lsA f1 f2 f3 f4 f5 f6 f7 f8 f9
  have hs2 : ((st.map (cv g)).map fun v => v.category).sum ≤ 8 := by
    rw [List.map_map]
    have : ((fun v => Value.category v) ∘ cv g) = fun v => v.category := funext fun v => cv_cat g v
    rw [this]
    exact hs
  refine W.objInit f1.1 f1.2.1 f1.2.2.2.1 (ex_tw f1 _ hl) (ex_tw f1 _ h1) (ex_tw f1 _ h2) rfl (by rw [f1.2.2.1]; exact f5.1) rfl hd (by omega) ?_ (kk g p l e R s m args below meth cd H locs cells slots lsA f1 f2 f3 f4 f5 f6 f7 f8 f9)
  show 2 * 0 + _ + 12 ≤ _
  omega
/-- what a call's place says of the one that is called -/
def cs_ (M : MM) (idx : Nat) (y : MethodName) (M' : MM) (n : Nat) : Prop :=
  (Cond.methodLink M.1 idx y ∈ tw_l ∨ ∃ host, Cond.methodLinkNest M.1 idx y host ∈ tw_l) ∧ Cond.code y M'.2.1 M'.2.2.1 M'.2.2.2.1 ∈ tw_l ∧ Cond.initialized y.cls ∈ tw_l ∧ (y.cls ≠ "java/lang/invoke/MethodHandle" ∧ y.cls ≠ "java/lang/invoke/VarHandle") ∧ (parseMethodDescriptor y.desc).map (fun d => d.parameters.length) = some n ∧ M'.2.2.1 ≤ 100
theorem cs_len {M M' : MM} {idx n : Nat} {y : MethodName} (x : cs_ M idx y M' n) : ∀ sig, parseMethodDescriptor y.desc = some sig → n = sig.parameters.length := fun sig h => by
  have h2 := x.2.2.2.2.1
  rw [h] at h2
  exact (Option.some.inj h2).symm
theorem tw_blind (g : GD) (h : AH) (vs : List Value) : FrameBlind (va_Pc vs (tw_i g h)) := by
  intro a U f mk x
  obtain ⟨e, x1, x2, x3, x4, x5⟩ := x
  exact ⟨e, tw_moved (u := U) (U := U.calling f mk a) (State.WarmedH.refl U) x1, x2.moved (u := U) (U := U.calling f mk a) (Vm.Alike.refl U.vm), x3, x4.moved (u := U) (U := U.calling f mk a) (Vm.Alike.refl U.vm), x5.moved (u := U) (U := U.calling f mk a) (Vm.Alike.refl U.vm)⟩
theorem tw_pre {g : GD} {p : Program} {s : State} {m : MethodId} {args : Array Value} {meth : Method} {cd : Code} {H : Heap} {locs : List Loc} (f1 : ex_F M g p s m args meth cd) (f2 : HR g h H) (f3 : OL g h s H) (f4 : va_S (gd_A g) s.heap H locs) (vs : List Value) : ∀ U : State, U.heap = H → s.WarmedH U.vm → va_Pc vs (tw_i g h) vs.toArray U := by
  intro U hU hW
  refine ⟨rfl, tw_moved hW f1.2.2.2.2.1, f1.2.2.2.2.2.2.2.2.1.moved hW.alike, by rw [hU]; exact f2, by rw [hU]; exact f3.moved hW.alike, ?_⟩
  rw [hU]
  exact (f1.2.2.2.2.2.2.2.2.2.1.kept (fun q hq => f4.2.1 q (Nat.lt_of_lt_of_le hq f1.2.2.2.2.2.2.2.2.2.2) (Nat.not_le.mpr hq))).moved hW.alike
theorem ex_after {g : GD} {p : Program} {l : Launch} {e : Env} {R : Room} {s : State} {m : MethodId} {args a : Array Value} {below : List Frame} {meth : Method} {cd : Code} {H : Heap} {locs : List Loc} {cells slots mc ms : Nat} {lsA : Array Slot} {st0 : List Value} {Q' : Option Value → AH → Prop}
    (hr : va_Run p l e R s m args below meth cd H locs cells slots mc ms (F0 m pc lsA st0) (st.map (cv g)) (ex_Q g Q' a) (gd_A g)) (f1 : ex_F M g p s m args meth cd) (f2 : HR g h H) (f4 : va_S (gd_A g) s.heap H locs) (f5 : lv_has lsA M.2.2.1 (ex_lp 0 (ls.map (cv g)))) (f6 : d ≤ R.frames) (f7 : 200 * d ≤ R.locals) (f8 : cells + (bc + mc) ≤ R.cells) (f9 : slots + (bs + ms) ≤ R.slots)
    (kk : ∀ r h', Q' r h' → ex_G M d (pc + 3) ls (r.toList ++ st) h' bc bs Q) : W p l e R s m args below meth cd H locs cells slots (MQ below (ex_Q g Q) args s R.cells R.slots (gd_A g)) (F0 m pc lsA st0) := by
  intro T hT X
  obtain ⟨v, st₀, t, T', L, h0, X', hL, e1, e2, ⟨r, h', hv, hq, hH', hO', hz, hold⟩, stp⟩ := hr T hT X
  rw [h0] at hz hold
  cases hv
  have hS' : va_S (gd_A g) s.heap t.heap (locs ++ L) := ⟨Nat.le_trans f4.1 hz, fun x h1 h2 => by rw [hold x (Nat.not_le.mp h2)]; exact f4.2.1 x h1 h2, fun x hx => by
      rcases List.mem_append.mp hx with y | y
      · exact f4.2.2 x y
      · exact hL x y⟩
  have hal : t.vm.Alike s.vm := by rw [← e2]; exact X'.warmed.alike.symm
  obtain ⟨t2, a1, b1⟩ := kk r h' hq g p l e R s m args below meth cd t.heap (locs ++ L) (cells + mc) (slots + ms) lsA f1 hH' (hO'.moved hal) hS' f5 f6 f7 (by omega) (by omega) T' e1 X'
  refine ⟨t2, stp t2 ?_, b1⟩
  have e3 : ((r.toList ++ st).map (cv g)) = (r.map (cv g)).toList ++ st.map (cv g) := by cases r <;> rfl
  rw [e3] at a1
  exact a1
theorem cv_cats {g : GD} (hs : (st.map fun v => v.category).sum ≤ 8) : ((st.map (cv g)).map fun v => v.category).sum ≤ 8 := by
  rw [List.map_map]
  have : ((fun v => Value.category v) ∘ cv g) = fun v => v.category := funext fun v => cv_cat g v
  rw [this]
  exact hs
theorem ex_callS {idx d' n : Nat} {y : MethodName} {M' : MM} {vs st0 : List Value} {mc ms : Nat} {Q' : Option Value → AH → Prop} (hd : decode M.2.1 pc = .ok (.invokestatic idx, 3)) (hst0 : vs.reverse ++ st = st0) (hc : cs_ M idx y M' n) (hstat : Cond.static y ∈ tw_l) (hS : ex_S y M' d' vs h mc ms Q') (kk : ∀ r h', Q' r h' → ex_G M d q ls (r.toList ++ st) h' bc bs Q) (hdd : d' + 1 ≤ d := by omega) (hn : vs.length = n := by rfl) (hs : (st.map fun v => v.category).sum ≤ 8 := by exact Nat.le_of_ble_eq_true rfl) (hq : pc + 3 = q := by rfl) : ex_G M d pc ls st0 h (bc + mc) (bs + ms) Q := by
  subst hq
  intro g p l e R s m args below meth cd H locs cells slots lsA f1 f2 f3 f4 f5 f6 f7 f8 f9
  have hws : ∀ w ∈ [Cond.code y M'.2.1 M'.2.2.1 M'.2.2.2.1], ∀ (a' : Array Value) (U : State), s.WarmedH U.vm → w.before a' U = true := fun w hw a' U hW => by
    rw [List.mem_singleton.mp hw]
    exact tw_moved hW f1.2.2.2.2.1 _ hc.2.1 a'
  have hstk : st0.map (cv g) = (vs.map (cv g)).reverse ++ st.map (cv g) := by rw [← hst0, List.map_append, List.map_reverse]
  have hfx : CallFix p m cd M.2.1 M.2.2.1 s args tw_l M.1 := ⟨f1.1, f1.2.1, f1.2.2.1, f1.2.2.2.1, ex_tw f1⟩
  have h8 := hc.2.2.2.2.2
  refine ex_after (a := (vs.map (cv g)).toArray) (mc := mc) (ms := ms) ?_ f1 f2 f4 f5 f6 f7 (by omega) (by omega) kk
  rcases hc.1 with hl | ⟨host, hl⟩
  · exact va_runS (n := n) hfx (hS g l) ⟨⟨rfl, rfl, by show d' + 1 ≤ _; omega, by show 8 + (_ + 11) + 200 * d' ≤ _; omega, hws, List.mem_singleton.mpr rfl, ex_tw f1 _ hc.2.1, ex_tw f1 _ hc.2.2.1, hc.2.2.2.1, cs_len hc, ex_tw f1 _ hl⟩, ex_tw f1 _ hstat⟩ ⟨tw_blind g h _, tw_pre f1 f2 f3 f4 _⟩ rfl (by rw [List.length_map]; exact hn) f5.1 hstk (lv_room (cv_cats hs)) hd ⟨by omega, by omega⟩
  · exact va_runSN (n := n) hfx (hS g l) ⟨⟨⟨rfl, rfl, by show d' + 1 ≤ _; omega, by show 8 + (_ + 11) + 200 * d' ≤ _; omega, hws, List.mem_singleton.mpr rfl⟩, ex_tw f1 _ hc.2.1, ex_tw f1 _ hc.2.2.1, hc.2.2.2.1, cs_len hc, ex_tw f1 _ hl⟩, ex_tw f1 _ hstat, trivial⟩ ⟨tw_blind g h _, tw_pre f1 f2 f3 f4 _⟩ rfl (by rw [List.length_map]; exact hn) f5.1 hstk (lv_room (cv_cats hs)) hd ⟨by omega, by omega⟩
theorem ex_recv {g : GD} {p : Program} {s : State} {m : MethodId} {args : Array Value} {meth : Method} {cd : Code} {H : Heap} (f1 : ex_F M g p s m args meth cd) (f2 : HR g h H) {a c : Nat} (ho : ah_o h a c) (hc : c < 13) : ∃ cell : Cell, H[ad g a]? = some cell ∧ cell.vm.isStatics = false ∧ s.vm.findClass (kt_R c) = some cell.cls := by
  have hce := f2.2.2 a ho.1
  unfold ce at hce
  rw [ho.2, if_neg (by omega), if_neg (by omega), if_neg (by omega), show 20 + c - 20 = c by omega] at hce
  obtain ⟨-, cellV, g1, g2, g3, -⟩ := hce
  rw [← ad_lt g f2 ho.1] at g1
  exact ⟨cellV, g1, by rw [g3]; rfl, by rw [g2]; exact (f1.2.2.2.2.2.2.2.2.1.1 c hc).2.1⟩
theorem ex_callV {idx d' n a c : Nat} {y : MethodName} {M' : MM} {vs st0 : List Value} {mc ms : Nat} {Q' : Option Value → AH → Prop} (hd : decode M.2.1 pc = .ok (.invokevirtual idx, 3)) (hst0 : vs.reverse ++ .ref a :: st = st0) (hc : cs_ M idx y M' n) (hin : Cond.instanceMethod y ∈ tw_l) (hse : Cond.selects (kt_R c) y y ∈ tw_l) (ho : ah_o h a c) (hS : ex_S y M' d' (.ref a :: vs) h mc ms Q') (kk : ∀ r h', Q' r h' → ex_G M d q ls (r.toList ++ st) h' bc bs Q) (hdd : d' + 1 ≤ d := by omega) (hn : vs.length = n := by rfl) (hs : (st.map fun v => v.category).sum ≤ 8 := by exact Nat.le_of_ble_eq_true rfl) (hcc : c < 13 := by decide) (hq : pc + 3 = q := by rfl) : ex_G M d pc ls st0 h (bc + mc) (bs + ms) Q := by
  subst hq
  intro g p l e R s m args below meth cd H locs cells slots lsA f1 f2 f3 f4 f5 f6 f7 f8 f9
  have hws : ∀ w ∈ [Cond.code y M'.2.1 M'.2.2.1 M'.2.2.2.1], ∀ (a' : Array Value) (U : State), s.WarmedH U.vm → w.before a' U = true := fun w hw a' U hW => by
    rw [List.mem_singleton.mp hw]
    exact tw_moved hW f1.2.2.2.2.1 _ hc.2.1 a'
  have hstk : st0.map (cv g) = (vs.map (cv g)).reverse ++ .ref (ad g a) :: st.map (cv g) := by rw [← hst0, List.map_append, List.map_reverse]; rfl
  have hfx : CallFix p m cd M.2.1 M.2.2.1 s args tw_l M.1 := ⟨f1.1, f1.2.1, f1.2.2.1, f1.2.2.2.1, ex_tw f1⟩
  have h8 := hc.2.2.2.2.2
  refine ex_after (a := (Value.ref (ad g a) :: vs.map (cv g)).toArray) (mc := mc) (ms := ms) ?_ f1 f2 f4 f5 f6 f7 (by omega) (by omega) kk
  rcases hc.1 with hl | ⟨host, hl⟩
  · exact va_runV (n := n) (As := vs.map (cv g)) (b := ad g a) hfx (hS g l) ⟨⟨rfl, rfl, by show d' + 1 ≤ _; omega, by show 8 + (_ + 11) + 200 * d' ≤ _; omega, hws, List.mem_singleton.mpr rfl, ex_tw f1 _ hc.2.1, ex_tw f1 _ hc.2.2.1, hc.2.2.2.1, cs_len hc, ex_tw f1 _ hl⟩, ex_tw f1 _ hin, ex_tw f1 _ hse⟩ ⟨tw_blind g h _, ex_recv f1 f2 ho hcc, tw_pre f1 f2 f3 f4 _⟩ rfl (by rw [List.length_map]; exact hn) f5.1 hstk (lv_room (cv_cats hs)) hd ⟨by omega, by omega⟩
  · exact va_runVN (n := n) (As := vs.map (cv g)) (b := ad g a) hfx (hS g l) ⟨⟨⟨rfl, rfl, by show d' + 1 ≤ _; omega, by show 8 + (_ + 11) + 200 * d' ≤ _; omega, hws, List.mem_singleton.mpr rfl⟩, ex_tw f1 _ hc.2.1, ex_tw f1 _ hc.2.2.1, hc.2.2.2.1, cs_len hc, ex_tw f1 _ hl⟩, ex_tw f1 _ hin, ex_tw f1 _ hse⟩ ⟨tw_blind g h _, ex_recv f1 f2 ho hcc, tw_pre f1 f2 f3 f4 _⟩ rfl (by rw [List.length_map]; exact hn) f5.1 hstk (lv_room (cv_cats hs)) hd ⟨by omega, by omega⟩
theorem ex_callI {idx d' n a : Nat} {y : MethodName} {M' : MM} {vs st0 : List Value} {mc ms : Nat} {Q' : Option Value → AH → Prop} (hd : decode M.2.1 pc = .ok (.invokespecial idx, 3)) (hst0 : vs.reverse ++ .ref a :: st = st0) (hc : cs_ M idx y M' n) (hin : Cond.instanceMethod y ∈ tw_l) (hyn : y.name = "<init>") (hr0 : M'.2.2.2.1 = none) (hS : ex_S y M' d' (.ref a :: vs) h mc ms Q') (kk : ∀ r h', Q' r h' → ex_G M d q ls (r.toList ++ st) h' bc bs Q) (hdd : d' + 1 ≤ d := by omega) (hn : vs.length = n := by rfl) (hs : (st.map fun v => v.category).sum ≤ 8 := by exact Nat.le_of_ble_eq_true rfl) (hq : pc + 3 = q := by rfl) : ex_G M d pc ls st0 h (bc + mc) (bs + ms) Q := by
  subst hq
  intro g p l e R s m args below meth cd H locs cells slots lsA f1 f2 f3 f4 f5 f6 f7 f8 f9
  have hws : ∀ w ∈ [Cond.code y M'.2.1 M'.2.2.1 M'.2.2.2.1], ∀ (a' : Array Value) (U : State), s.WarmedH U.vm → w.before a' U = true := fun w hw a' U hW => by
    rw [List.mem_singleton.mp hw]
    exact tw_moved hW f1.2.2.2.2.1 _ hc.2.1 a'
  have hstk : st0.map (cv g) = (vs.map (cv g)).reverse ++ .ref (ad g a) :: st.map (cv g) := by rw [← hst0, List.map_append, List.map_reverse]; rfl
  have hfx : CallFix p m cd M.2.1 M.2.2.1 s args tw_l M.1 := ⟨f1.1, f1.2.1, f1.2.2.1, f1.2.2.2.1, ex_tw f1⟩
  have h8 := hc.2.2.2.2.2
  have hcode := hc.2.1
  have hS' := hS g l
  rw [hr0] at hcode hS' hws
  refine ex_after (a := (Value.ref (ad g a) :: vs.map (cv g)).toArray) (mc := mc) (ms := ms) ?_ f1 f2 f4 f5 f6 f7 (by omega) (by omega) kk
  rcases hc.1 with hl | ⟨host, hl⟩
  · exact va_runI (n := n) (As := vs.map (cv g)) (b := ad g a) hfx hS' ⟨⟨rfl, rfl, by show d' + 1 ≤ _; omega, by show 8 + (_ + 11) + 200 * d' ≤ _; omega, hws, List.mem_singleton.mpr rfl, ex_tw f1 _ hcode, ex_tw f1 _ hc.2.2.1, hc.2.2.2.1, cs_len hc, ex_tw f1 _ hl⟩, hyn, ex_tw f1 _ hin⟩ ⟨tw_blind g h _, tw_pre f1 f2 f3 f4 _⟩ rfl (by rw [List.length_map]; exact hn) f5.1 hstk (lv_room (cv_cats hs)) hd ⟨by omega, by omega⟩
  · exact va_runIN (n := n) (As := vs.map (cv g)) (b := ad g a) hfx hS' ⟨⟨⟨rfl, rfl, by show d' + 1 ≤ _; omega, by show 8 + (_ + 11) + 200 * d' ≤ _; omega, hws, List.mem_singleton.mpr rfl⟩, ex_tw f1 _ hcode, ex_tw f1 _ hc.2.2.1, hc.2.2.2.1, cs_len hc, ex_tw f1 _ hl⟩, hyn, ex_tw f1 _ hin⟩ ⟨tw_blind g h _, tw_pre f1 f2 f3 f4 _⟩ rfl (by rw [List.length_map]; exact hn) f5.1 hstk (lv_room (cv_cats hs)) hd ⟨by omega, by omega⟩
end CA2
