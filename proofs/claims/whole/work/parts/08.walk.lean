/-! The walk over the abstract heap. A method: (class, code, locals, what it returns, its name). -/
abbrev MM : Type := String × ByteArray × Nat × Option FieldType × String
def tw_i (g : GD) (h : AH) (U : State) : Prop := tw_T U ∧ KK g U ∧ HR g h U.heap ∧ OL g h U U.heap ∧ ZZ g U U.heap
/-- what a method leaves: its answer, the heap behind it, nothing old changed -/
def ex_Q (g : GD) (Q : Option Value → AH → Prop) : Array Value → State → Outcome → State → Prop := fun _ st o t => ∃ (r : Option Value) (h : AH), o = .returned (r.map (cv g)) ∧ Q r h ∧ HR g h t.heap ∧ OL g h t t.heap ∧ st.heap.size ≤ t.heap.size ∧ ∀ q, q < gd_b g → t.heap[q]? = st.heap[q]?
def ex_F (M : MM) (g : GD) (p : Program) (s : State) (m : MethodId) (args : Array Value) (meth : Method) (c : Code) : Prop :=
  p.tables.exec = Jvm.exec ∧ c.code = M.2.1 ∧ c.maxLocals = M.2.2.1 ∧ s.vm.findClass M.1 = some m.cls ∧ tw_T s ∧ meth.sig.returnType = M.2.2.2.1 ∧ meth.locks = false ∧ meth.name = M.2.2.2.2 ∧ KK g s ∧ ZZ g s s.heap ∧ gd_b g ≤ s.heap.size
/-- the locals by their places; a retAddr stands for one that isn't known -/
def ex_lp : Nat → List Value → List (Nat × Value)
  | _, [] => []
  | i, v :: t => match v with
    | .retAddr _ => ex_lp (i + 1) t
    | v => (i, v) :: ex_lp (i + 1) t
def ex_G (M : MM) (d pc : Nat) (ls st : List Value) (h : AH) (bc bs : Nat) (Q : Option Value → AH → Prop) : Prop :=
  ∀ (g : GD) (p : Program) (l : Launch) (e : Env) (R : Room) (s : State) (m : MethodId) (args : Array Value) (below : List Frame) (meth : Method) (c : Code) (H : Heap) (locs : List Loc) (cells slots : Nat) (lsA : Array Slot),
    ex_F M g p s m args meth c → HR g h H → OL g h s H → va_S (gd_A g) s.heap H locs → lv_has lsA M.2.2.1 (ex_lp 0 (ls.map (cv g))) → d ≤ R.frames → 200 * d ≤ R.locals → cells + bc ≤ R.cells → slots + bs ≤ R.slots →
    W p l e R s m args below meth c H locs cells slots (MQ below (ex_Q g Q) args s R.cells R.slots (gd_A g)) (F0 m pc lsA (st.map (cv g)))
def ex_S (y : MethodName) (M : MM) (d : Nat) (vs : List Value) (h : AH) (bc bs : Nat) (Q : Option Value → AH → Prop) : Prop :=
  ∀ (g : GD) (l : Launch), Met l y [Cond.code y M.2.1 M.2.2.1 M.2.2.2.1] { frames := d, cells := bc, slots := bs, locals := 200 * d } (va_Pc (vs.map (cv g)) (tw_i g h)) (ex_Q g Q) bc bs (gd_A g)
theorem ex_Q.mono {g : GD} {Q Q' : Option Value → AH → Prop} (hQ : ∀ r h, Q r h → Q' r h) {a : Array Value} {st t : State} {o : Outcome} (x : ex_Q g Q a st o t) : ex_Q g Q' a st o t := by
  obtain ⟨r, h, e, q, k⟩ := x
  exact ⟨r, h, e, hQ r h q, k⟩
theorem ex_G.mono {M : MM} {d pc : Nat} {ls st : List Value} {h : AH} {bc bs : Nat} {Q Q' : Option Value → AH → Prop} (hQ : ∀ r h, Q r h → Q' r h) (x : ex_G M d pc ls st h bc bs Q) : ex_G M d pc ls st h bc bs Q' := by
  intro g p l e R s m args below meth c H locs cells slots lsA f1 f2 f3 f4 f5 f6 f7 f8 f9 T hT X
  obtain ⟨t, a, o, b1, b2, b3, b4⟩ := x g p l e R s m args below meth c H locs cells slots lsA f1 f2 f3 f4 f5 f6 f7 f8 f9 T hT X
  exact ⟨t, a, o, b1, b2, b3.mono hQ, b4⟩
/-- a smaller need of room serves where more is left -/
theorem ex_G.room {M : MM} {d d' pc : Nat} {ls st : List Value} {h : AH} {bc bs bc' bs' : Nat} {Q : Option Value → AH → Prop} (hd : d' ≤ d) (hc : bc' ≤ bc) (hs : bs' ≤ bs) (x : ex_G M d' pc ls st h bc' bs' Q) : ex_G M d pc ls st h bc bs Q := by
  intro g p l e R s m args below meth c H locs cells slots lsA f1 f2 f3 f4 f5 f6 f7 f8 f9
  exact x g p l e R s m args below meth c H locs cells slots lsA f1 f2 f3 f4 f5 (by omega) (by omega) (by omega) (by omega)
def ex_nr : Value → Bool
  | .retAddr _ => false
  | _ => true
theorem ex_nr_cv (g : GD) (v : Value) : ex_nr (cv g v) = ex_nr v := by cases v <;> rfl
theorem cv_cat (g : GD) (v : Value) : (cv g v).category = v.category := by cases v <;> rfl
theorem ex_lp_cons (i : Nat) (v : Value) (t : List Value) (h : ex_nr v = true) : ex_lp i (v :: t) = (i, v) :: ex_lp (i + 1) t := by
  cases v <;> first | rfl | (simp [ex_nr] at h)
theorem ex_lp_skip (i n : Nat) (t : List Value) : ex_lp i (.retAddr n :: t) = ex_lp (i + 1) t := rfl
def ex_wide (vs : List Value) : List Value := vs.flatMap (fun v => if v.category = 2 then [v, .retAddr 0] else [v])
theorem ex_lp_entry (g : GD) (vs : List Value) : ∀ i, vs.all ex_nr = true → lv_args i (vs.map (cv g)) = ex_lp i ((ex_wide vs).map (cv g)) := by
  induction vs with
  | nil => intro i _; rfl
  | cons v t ih =>
    intro i h
    rw [List.all_cons, Bool.and_eq_true] at h
    have e : ex_wide (v :: t) = (if v.category = 2 then [v, .retAddr 0] else [v]) ++ ex_wide t := rfl
    rw [e]
    by_cases c : v.category = 2
    · rw [if_pos c]
      show (i, cv g v) :: lv_args (if (cv g v).category = 2 then i + 2 else i + 1) (t.map (cv g)) = ex_lp i (cv g v :: .retAddr 0 :: (ex_wide t).map (cv g))
      rw [cv_cat, if_pos c, ex_lp_cons _ _ _ (by rw [ex_nr_cv]; exact h.1), ex_lp_skip, ih _ h.2]
    · rw [if_neg c]
      show (i, cv g v) :: lv_args (if (cv g v).category = 2 then i + 2 else i + 1) (t.map (cv g)) = ex_lp i (cv g v :: (ex_wide t).map (cv g))
      rw [cv_cat, if_neg c, ex_lp_cons _ _ _ (by rw [ex_nr_cv]; exact h.1), ih _ h.2]
theorem ex_wide_len (g : GD) (vs : List Value) : (lg_sl (vs.map (cv g))).length = (ex_wide vs).length := by
  induction vs with
  | nil => rfl
  | cons v t ih =>
    have e : ex_wide (v :: t) = (if v.category = 2 then [v, .retAddr 0] else [v]) ++ ex_wide t := rfl
    have e2 : lg_sl ((v :: t).map (cv g)) = (if (cv g v).category = 2 then [.val (cv g v), .second] else [.val (cv g v)]) ++ lg_sl (t.map (cv g)) := rfl
    rw [e, e2, List.length_append, List.length_append, ih, cv_cat]
    by_cases c : v.category = 2 <;> simp [c]
theorem ex_ofW {l : Launch} {y : MethodName} {ws ws' : List Cond} {rm : Room} {Pc : Array Value → State → Prop} {Qc : Array Value → State → Outcome → State → Prop} {mc ms : Nat} {free : Addr → Prop} {cc : ByteArray} {maxL : Nat} {ret : Option FieldType} (hy : plainFor y = true) (hw : ws = Cond.code y cc maxL ret :: ws')
    (body : ∀ p e s m args below meth c s₁, BodyLoose p l y (headSpec ws rm) cc maxL ret e s m args below meth c s₁ → c.maxLocals = maxL → Pc args s → W p l e (headSpec ws rm).room s m args below meth c s.heap [] 0 0 (MQ below Qc args s mc ms free) (entryFrame m args maxL)) : Met l y ws rm Pc Qc mc ms free := by
  refine MetFree.of_bodySF (code := cc) (maxLocals := maxL) (ret := ret) hy ?_ ?_
  · intro args s m h hn
    obtain ⟨meth, c, h1, h2, h3, h4, h5, h6, -, -⟩ := Cond.code_spec hn (atoms_spec (ws := ws) h _ (by rw [hw]; exact List.mem_cons_self))
    exact ⟨meth, c, h1, h2, h3, h4, h5, h6⟩
  · intro p e s m args below meth c s₁ B hml hP _
    have hh0 : s₁.heap = s.heap := by rw [B.state]; rfl
    obtain ⟨t, a1, o, b1, b2, b3⟩ := body p e s m args below meth c s₁ B hml hP s₁ hh0 (Stand.of_body B)
    exact ⟨t, o, a1, b1, b2, ⟨b3.1, b3.2⟩⟩
theorem ex_enter {y : MethodName} {M : MM} {d : Nat} {vs ls : List Value} {h : AH} {bc bs : Nat} {Q : Option Value → AH → Prop} (hy : plainFor y = true) (hM : M.1 = y.cls ∧ M.2.2.2.2 = y.name) (hnr : vs.all ex_nr = true) (hls : ex_wide vs = ls) (hlen : ls.length ≤ M.2.2.1) (k : ex_G M d 0 ls [] h bc bs Q) : ex_S y M d vs h bc bs Q := by
  intro g l
  refine ex_ofW (cc := M.2.1) (maxL := M.2.2.1) (ret := M.2.2.2.1) hy rfl ?_
  intro p e s m args below meth c s₁ B hml hv
  obtain ⟨rfl, hT, hK, hH, hO, hZ⟩ := hv
  have hl := lv_entry (vs.map (cv g)) (n := M.2.2.1) (by rw [ex_wide_len, hls]; exact hlen)
  rw [lg_entry_eq]
  rw [ex_lp_entry g vs 0 hnr, hls] at hl
  exact k g p l e _ s m _ below meth c s.heap [] 0 0 _ ⟨B.exec, B.bytes, hml, by rw [hM.1]; exact findClass_of_methodNamed B.named, hT, B.returns, B.notSynchronized, by rw [hM.2]; exact (name_of_methodNamed B.named B.method).1, hK, hZ, by rw [hH.1]; omega⟩ hH hO va_S.rf hl (Nat.le_refl _) (Nat.le_refl _) (by show 0 + bc ≤ bc; omega) (by show 0 + bs ≤ bs; omega)
theorem ex_lp_mem (L : List Value) : ∀ (i j : Nat) (w : Value), (j, w) ∈ ex_lp i L ↔ ∃ k, j = i + k ∧ L[k]? = some w ∧ ex_nr w = true := by
  induction L with
  | nil => intro i j w; simp [ex_lp]
  | cons v t ih =>
    intro i j w
    by_cases hv : ex_nr v = true
    · rw [ex_lp_cons _ _ _ hv, List.mem_cons, ih]
      constructor
      · rintro (h | ⟨k, h1, h2, h3⟩)
        · cases h
          exact ⟨0, rfl, rfl, hv⟩
        · exact ⟨k + 1, by omega, h2, h3⟩
      · rintro ⟨k, h1, h2, h3⟩
        cases k with
        | zero =>
          left
          cases h2
          rw [h1]
          rfl
        | succ k => exact Or.inr ⟨k, by omega, h2, h3⟩
    · have : ∃ n, v = .retAddr n := by cases v <;> first | exact ⟨_, rfl⟩ | (simp [ex_nr] at hv)
      obtain ⟨n, rfl⟩ := this
      rw [ex_lp_skip, ih]
      constructor
      · rintro ⟨k, h1, h2, h3⟩
        exact ⟨k + 1, by omega, h2, h3⟩
      · rintro ⟨k, h1, h2, h3⟩
        cases k with
        | zero => cases h2; simp [ex_nr] at h3
        | succ k => exact ⟨k, by omega, h2, h3⟩
theorem ex_lget {g : GD} {lsA : Array Slot} {n : Nat} {ls : List Value} (hl : lv_has lsA n (ex_lp 0 (ls.map (cv g)))) {i : Nat} {v : Value} (hi : ls[i]? = some v) (hv : ex_nr v = true) : lsA[i]? = some (.val (cv g v)) :=
  hl.2.2 (i, cv g v) ((ex_lp_mem _ 0 i _).mpr ⟨i, by omega, by rw [List.getElem?_map, hi]; rfl, by rw [ex_nr_cv]; exact hv⟩)
/-- no long stands just before place i -/
def ex_b1 (ls : List Value) (i : Nat) : Bool := match i with
  | 0 => true
  | i + 1 => match ls[i]? with
    | some v => v.category != 2
    | none => true
theorem ex_lset1 {g : GD} {lsA : Array Slot} {n : Nat} {ls : List Value} {i : Nat} {v : Value} (hb : ex_b1 ls i = true) (hx : lv_has lsA n ((i, cv g v) :: (ex_lp 0 (ls.map (cv g))).filter (fun q => !(q.1 == i) && !(q.1 + 1 == i && q.2.category == 2)))) : lv_has lsA n (ex_lp 0 ((ls.set i v).map (cv g))) := by
  refine ⟨hx.1, hx.2.1, fun q hq => hx.2.2 q ?_⟩
  obtain ⟨j, w⟩ := q
  obtain ⟨k, h1, h2, h3⟩ := (ex_lp_mem _ _ _ _).mp hq
  have hk : j = k := by omega
  subst hk
  rw [List.getElem?_map, List.getElem?_set] at h2
  by_cases e : i = j
  · subst e
    rw [if_pos rfl] at h2
    split at h2
    · cases h2
      exact List.mem_cons_self
    · cases h2
  · rw [if_neg e] at h2
    refine List.mem_cons_of_mem _ (List.mem_filter.mpr ⟨(ex_lp_mem _ _ _ _).mpr ⟨j, by omega, by rw [List.getElem?_map]; exact h2, h3⟩, ?_⟩)
    simp only [Bool.and_eq_true, Bool.not_eq_true', beq_eq_false_iff_ne, ne_eq, Bool.and_eq_false_iff]
    refine ⟨fun z => e z.symm, ?_⟩
    by_cases z : j + 1 = i
    · right
      subst z
      cases hj : ls[j]? with
      | none => rw [hj] at h2; cases h2
      | some u =>
        rw [hj] at h2
        cases h2
        simp only [ex_b1, hj, bne_iff_ne, ne_eq] at hb
        rw [cv_cat]
        exact hb
    · exact Or.inl z
theorem ex_lset2 {g : GD} {lsA : Array Slot} {n : Nat} {ls : List Value} {i : Nat} {v : Value} (hb : ex_b1 ls i = true) (hx : lv_has lsA n ((i, cv g v) :: (ex_lp 0 (ls.map (cv g))).filter (fun q => !(q.1 == i) && (!(q.1 == i + 1) && !(q.1 + 1 == i && q.2.category == 2))))) : lv_has lsA n (ex_lp 0 (((ls.set i v).set (i + 1) (.retAddr 0)).map (cv g))) := by
  refine ⟨hx.1, hx.2.1, fun q hq => hx.2.2 q ?_⟩
  obtain ⟨j, w⟩ := q
  obtain ⟨k, h1, h2, h3⟩ := (ex_lp_mem _ _ _ _).mp hq
  have hk : j = k := by omega
  subst hk
  rw [List.getElem?_map, List.getElem?_set] at h2
  by_cases e2 : i + 1 = j
  · rw [if_pos e2] at h2
    split at h2
    · cases h2; simp [ex_nr, cv] at h3
    · cases h2
  rw [if_neg e2, List.getElem?_set] at h2
  by_cases e : i = j
  · subst e
    rw [if_pos rfl] at h2
    split at h2
    · cases h2
      exact List.mem_cons_self
    · cases h2
  · rw [if_neg e] at h2
    refine List.mem_cons_of_mem _ (List.mem_filter.mpr ⟨(ex_lp_mem _ _ _ _).mpr ⟨j, by omega, by rw [List.getElem?_map]; exact h2, h3⟩, ?_⟩)
    simp only [Bool.and_eq_true, Bool.not_eq_true', beq_eq_false_iff_ne, ne_eq, Bool.and_eq_false_iff]
    refine ⟨fun z => e z.symm, fun z => e2 z.symm, ?_⟩
    by_cases z : j + 1 = i
    · right
      subst z
      cases hj : ls[j]? with
      | none => rw [hj] at h2; cases h2
      | some u =>
        rw [hj] at h2
        cases h2
        simp only [ex_b1, hj, bne_iff_ne, ne_eq] at hb
        rw [cv_cat]
        exact hb
    · exact Or.inl z
/-- fewer locals known -/
theorem ex_less {M : MM} {d pc : Nat} {ls ls' st : List Value} {h : AH} {bc bs : Nat} {Q : Option Value → AH → Prop} (hs : ∀ (i : Nat) (v : Value), ls'[i]? = some v → ex_nr v = true → ls[i]? = some v) (k : ex_G M d pc ls' st h bc bs Q) : ex_G M d pc ls st h bc bs Q := by
  intro g p l e R s m args below meth c H locs cells slots lsA f1 f2 f3 f4 f5 f6 f7 f8 f9
  refine k g p l e R s m args below meth c H locs cells slots lsA f1 f2 f3 f4 ⟨f5.1, f5.2.1, fun q hq => f5.2.2 q ?_⟩ f6 f7 f8 f9
  obtain ⟨j, w⟩ := q
  obtain ⟨i, h1, h2, h3⟩ := (ex_lp_mem _ _ _ _).mp hq
  rw [List.getElem?_map] at h2
  cases hj : ls'[i]? with
  | none => rw [hj] at h2; cases h2
  | some u =>
    rw [hj] at h2
    cases h2
    exact (ex_lp_mem _ _ _ _).mpr ⟨i, h1, by rw [List.getElem?_map, hs i u hj (by rw [ex_nr_cv] at h3; exact h3)]; rfl, h3⟩
