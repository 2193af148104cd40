/-! new int[N][K]: the machine's own instruction, walked. -/
/-- the outer array when i rows are laid; a row; the states on the way -/
def mn_o (cA : ClassId) (N h0 i : Nat) : Cell := arrV cA N (fun j => if j < i then .ref (h0 + 1 + j) else .null)
def mn_r (cI : ClassId) (K : Nat) : Cell := arrV cI K (fun _ => .int 0)
def mn_s (T : State) (cA cI : ClassId) (N K : Nat) : Nat → State
  | 0 => T.pushCell (mn_o cA N T.heap.size 0)
  | i + 1 => ((mn_s T cA cI N K i).pushCell (mn_r cI K)).setCell T.heap.size (mn_o cA N T.heap.size (i + 1))
theorem mn_o_next (cA : ClassId) (N h0 i : Nat) : (mn_o cA N h0 i).setSlot i (.ref (h0 + 1 + i)) = mn_o cA N h0 (i + 1) := by
  unfold mn_o
  rw [arrV_store]
  congr 1
  funext j
  unfold updV
  by_cases e : j = i
  · subst e; rw [if_pos rfl, if_pos (by omega)]
  · rw [if_neg e]
    show (if j < i then Value.ref (h0 + 1 + j) else Value.null) = _
    by_cases h : j < i
    · rw [if_pos h, if_pos (by omega)]
    · rw [if_neg h, if_neg (by omega)]
theorem mn_s_at (T : State) (cA cI : ClassId) (N K : Nat) : ∀ i, (mn_s T cA cI N K i).heap.size = T.heap.size + 1 + i ∧ (mn_s T cA cI N K i).heap[T.heap.size]? = some (mn_o cA N T.heap.size i) ∧ (∀ j, j < i → (mn_s T cA cI N K i).heap[T.heap.size + 1 + j]? = some (mn_r cI K)) ∧ (∀ x, x < T.heap.size → (mn_s T cA cI N K i).heap[x]? = T.heap[x]?) ∧ (mn_s T cA cI N K i).vm = T.vm ∧ (mn_s T cA cI N K i).slotsUsed = T.slotsUsed + N + i * K
  | 0 => by
    refine ⟨size_pushCell _ _, by simp [mn_s, State.pushCell], fun j hj => by omega, fun x hx => State.heap_pushCell_of_lt _ _ hx, rfl, ?_⟩
    show T.slotsUsed + (mn_o cA N T.heap.size 0).slots.size = _
    rw [show (mn_o cA N T.heap.size 0).slots.size = N from arrV_size _ _ _]
    omega
  | i + 1 => by
    obtain ⟨h1, h2, h3, h4, h5, h6⟩ := mn_s_at T cA cI N K i
    have z1 : ((mn_s T cA cI N K i).pushCell (mn_r cI K)).heap.size = T.heap.size + 1 + i + 1 := by rw [size_pushCell, h1]
    have z0 : T.heap.size < ((mn_s T cA cI N K i).pushCell (mn_r cI K)).heap.size := by rw [z1]; omega
    have y0 : ∀ x, x < T.heap.size + 1 + i → x < (mn_s T cA cI N K i).heap.size := fun x hx => by rw [h1]; exact hx
    refine ⟨?_, ?_, fun j hj => ?_, fun x hx => ?_, h5, ?_⟩
    · show (((mn_s T cA cI N K i).pushCell (mn_r cI K)).setCell _ _).heap.size = _
      rw [size_setCell, z1]; omega
    · exact heapAt_setCell_self _ z0
    · show (((mn_s T cA cI N K i).pushCell (mn_r cI K)).setCell _ _).heap[_]? = _
      rw [heapAt_setCell_ne _ (show T.heap.size ≠ T.heap.size + 1 + j by omega)]
      by_cases e : j = i
      · subst e
        rw [← h1]
        simp [State.pushCell]
      · rw [State.heap_pushCell_of_lt _ _ (y0 _ (show T.heap.size + 1 + j < T.heap.size + 1 + i by omega))]
        exact h3 j (by omega)
    · show (((mn_s T cA cI N K i).pushCell (mn_r cI K)).setCell _ _).heap[_]? = _
      rw [heapAt_setCell_ne _ (show T.heap.size ≠ x by omega), State.heap_pushCell_of_lt _ _ (y0 _ (by omega))]
      exact h4 x hx
    · show (mn_s T cA cI N K i).slotsUsed + (mn_r cI K).slots.size = _
      rw [h6, show (mn_r cI K).slots.size = K from arrV_size _ _ _, Nat.succ_mul]
      omega
theorem mn_s_top (T : State) (f : JFrame) (cA cI : ClassId) (N K : Nat) : ∀ i, mn_s (T.setTop f) cA cI N K i = (mn_s T cA cI N K i).setTop f
  | 0 => rfl
  | i + 1 => by
    show ((mn_s (T.setTop f) cA cI N K i).pushCell _).setCell _ _ = _
    rw [mn_s_top T f cA cI N K i]
    rfl
section MNA
variable {E : CtlPost} {e : Env} {dd : Bool} {acts : List Action} {s : State}
/-- the machine makes one array of default values -/
theorem mn_new {c comp : ClassId} {k : Class} {ty : FieldType} {n : Nat} {x : Value} (hk : s.vm.classes[c]? = some k) (hkind : k.kind = .array comp ty) (hl : ¬ n > e.platform.arrayLengthLimit) (hb : ¬ n * componentBytes ty > e.platform.maxHeapBytes) (hf : fits ty x = true) (hx : x.isDefault = true) {Q : Addr → Pre} (h1 : s.heap.size < e.platform.maxCells) (h2 : s.slotsUsed + n ≤ e.platform.maxSlots) (hq : Q s.heap.size dd acts (s.pushCell (arrV c n (fun _ => x)))) : wp (Jvm.newArray c n x) Q E e dd acts s := by
  rw [← arrV_new] at hq
  have ha : allocActs (Array.replicate n x) s.heap.size acts = acts := by
    unfold allocActs
    rw [if_pos]
    rw [Array.all_replicate]
    split <;> simp [hx]
  simp only [Jvm.newArray, Jvm.arrayFits, wp_bind', W.ask, W.ite, hl, if_false, wp_pure', W.theClass, hk, hkind, hb, W.alloc, W.stop, Option.some.injEq, exists_eq_left', Array.size_replicate, ha]
  rw [if_neg (by omega)]
  refine ⟨h1, h2, fun i v hv => ?_, hq⟩
  rw [Array.getElem?_replicate] at hv
  split at hv
  · cases hv; simp [State.fitsSlot, State.slotType?, hk, hkind, hf]
  · cases hv
theorem mn_make {cA cI cc : ClassId} {kA kI : Class} {n k : Int32} (hA : s.vm.classes[cA]? = some kA) (hAk : kA.kind = .array cI (.array .int)) (hI : s.vm.classes[cI]? = some kI) (hIk : kI.kind = .array cc .int) (hn : ¬ n < 0) (hk : ¬ k < 0) (hl1 : ¬ n.toNatClampNeg > e.platform.arrayLengthLimit) (hb1 : ¬ n.toNatClampNeg * 4 > e.platform.maxHeapBytes) (hl2 : ¬ k.toNatClampNeg > e.platform.arrayLengthLimit) (hb2 : ¬ k.toNatClampNeg * 4 > e.platform.maxHeapBytes)
    (hc : s.heap.size + 1 + n.toNatClampNeg ≤ e.platform.maxCells) (hs : s.slotsUsed + n.toNatClampNeg + n.toNatClampNeg * k.toNatClampNeg ≤ e.platform.maxSlots) {Q : Addr → Pre} (hq : ∀ d' a', Q s.heap.size d' a' (mn_s s cA cI n.toNatClampNeg k.toNatClampNeg n.toNatClampNeg)) : wp (multianewarray.make cA [n, k]) Q E e dd acts s := by
  have hfind : ([k].find? (· < 0)) = none := by simp [hk]
  have h00 : mn_o cA n.toNatClampNeg s.heap.size 0 = arrV cA n.toNatClampNeg (fun _ => .null) := by unfold mn_o; congr 1
  rw [multianewarray.make]
  simp only [wp_bind', W.ite, hn, if_false, wp_pure', W.theClass, hA, hAk, Option.some.injEq, exists_eq_left']
  refine mn_new hA hAk hl1 hb1 rfl rfl (by omega) (by have := Nat.zero_le (n.toNatClampNeg * k.toNatClampNeg); omega) ?_
  rw [← h00]
  simp only [hfind]
  rw [ite_self, wp_bind', Std.Legacy.Range.forIn_eq_forIn_range']
  rw [show ([:n.toNatClampNeg] : Std.Legacy.Range).size = n.toNatClampNeg by simp [Std.Legacy.Range.size]]
  show wp (forIn (List.range' 0 n.toNatClampNeg 1) PUnit.unit _) _ E e dd acts _
  refine wp_forIn_inv (fun rest u => ∃ i, i ≤ n.toNatClampNeg ∧ rest = List.range' i (n.toNatClampNeg - i) ∧ u = mn_s s cA cI n.toNatClampNeg k.toNatClampNeg i) _ _ ⟨0, Nat.zero_le _, rfl, rfl⟩ ?_ ?_
  · rintro x rest u d' a' Q' ⟨i, hi, hl, rfl⟩ hnext
    have hlt : i < n.toNatClampNeg := by
      rcases Nat.lt_or_ge i n.toNatClampNeg with z | z
      · exact z
      · rw [show n.toNatClampNeg - i = 0 by omega] at hl; simp at hl
    rw [show n.toNatClampNeg - i = (n.toNatClampNeg - (i + 1)) + 1 by omega, List.range'_succ] at hl
    obtain ⟨rfl, hrest⟩ := List.cons.inj hl
    obtain ⟨a1, a2, -, -, a5, a6⟩ := mn_s_at s cA cI n.toNatClampNeg k.toNatClampNeg x
    have hmul : x * k.toNatClampNeg + k.toNatClampNeg ≤ n.toNatClampNeg * k.toNatClampNeg := by
      have := Nat.mul_le_mul_right k.toNatClampNeg (show x + 1 ≤ n.toNatClampNeg from hlt)
      rw [Nat.succ_mul] at this
      exact this
    simp only [wp_bind']
    rw [multianewarray.make]
    simp only [wp_bind', W.ite, hk, if_false, wp_pure', W.theClass, a5, hI, hIk, Option.some.injEq, exists_eq_left']
    refine mn_new (by rw [a5]; exact hI) hIk hl2 hb2 rfl rfl (by rw [a1]; omega) (by rw [a6]; omega) ?_
    have hlt0 : s.heap.size < (mn_s s cA cI n.toNatClampNeg k.toNatClampNeg x).heap.size := by rw [a1]; omega
    simp only [wp_bind', W.writeLoc, wp_pure']
    refine ⟨mn_o cA n.toNatClampNeg s.heap.size x, by rw [State.heap_pushCell_of_lt (h := hlt0)]; exact a2, by simp [mn_o, arrV], by rw [show (mn_o cA n.toNatClampNeg s.heap.size x).slots.size = n.toNatClampNeg from arrV_size _ _ _]; exact hlt, ?_, hnext _ _ _ ⟨x + 1, hlt, hrest, ?_⟩⟩
    · simp [State.fitsSlot, State.slotType?, mn_o, arrV, a5, hA, hAk, fits]
    · rw [a1, mn_o_next]; rfl
  · rintro u d' a' ⟨i, hi, hl, rfl⟩
    have hiN : i = n.toNatClampNeg := by
      rcases Nat.lt_or_ge i n.toNatClampNeg with z | z
      · rw [show n.toNatClampNeg - i = (n.toNatClampNeg - (i + 1)) + 1 by omega, List.range'_succ] at hl; cases hl
      · omega
    subst hiN
    simp only [wp_pure']
    exact hq _ _
end MNA
section MN2
variable {p : Program} {l : Launch} {e : Env} {R : Room} {s : State} {m : MethodId} {args : Array Value} {below : List Frame} {meth : Method} {c : Code} {T : State} {locs : List Loc} {cells slots : Nat}
theorem mn_stand (X : Stand p l e R s m args below meth c T locs cells slots) (cA cI : ClassId) (N K : Nat) : ∀ i, Stand p l e R s m args below meth c (mn_s T cA cI N K i) (locs ++ (List.range i).map fun j => ⟨T.heap.size, j⟩) (cells + 1 + i) (slots + N + i * K)
  | 0 => by
    have h := X.pushed (mn_o cA N T.heap.size 0)
    rw [show (mn_o cA N T.heap.size 0).slots.size = N from arrV_size _ _ _] at h
    simpa [mn_s] using h
  | i + 1 => by
    have Xi := mn_stand X cA cI N K i
    obtain ⟨a1, a2, -⟩ := mn_s_at T cA cI N K i
    have hcell : ((mn_s T cA cI N K i).pushCell (mn_r cI K)).heap[T.heap.size]? = some (mn_o cA N T.heap.size i) := by
      have z0 : T.heap.size < (mn_s T cA cI N K i).heap.size := by rw [a1]; omega
      rw [State.heap_pushCell_of_lt (h := z0)]; exact a2
    have h := (Xi.pushed (mn_r cI K)).stored hcell i (.ref (T.heap.size + 1 + i))
    rw [show (mn_r cI K).slots.size = K from arrV_size _ _ _, mn_o_next] at h
    have e2 : (locs ++ (List.range (i + 1)).map fun j => (⟨T.heap.size, j⟩ : Loc)) = (locs ++ (List.range i).map fun j => (⟨T.heap.size, j⟩ : Loc)) ++ [⟨T.heap.size, i⟩] := by simp [List.range_succ, List.append_assoc]
    rw [e2, show slots + N + (i + 1) * K = slots + N + i * K + K by rw [Nat.succ_mul]; omega]
    exact h
theorem mn_step (X : Stand p l e R s m args below meth c T locs cells slots) (hexec : p.tables.exec = Jvm.exec) {own : String} {index : Nat} (hown : s.vm.findClass own = some m.cls) (hcl : (Cond.classLink own index "[[I").before args s = true) (hov : (Cond.arrayOver (.array .int)).before args s = true) (har : (Cond.arrayClass .int).before args s = true) {g : JFrame} (hg : g.method = m) (hdg : decode c.code g.pc = .ok (.multianewarray index 2, 4)) {n k : Int32} {rest : List Value} (hstack : g.stack = .int k :: .int n :: rest)
    (hn : ¬ n < 0) (hk : ¬ k < 0) (hb1 : n.toNatClampNeg * 4 ≤ 536870912) (hb2 : k.toNatClampNeg * 4 ≤ 536870912) (hcells : cells + (1 + n.toNatClampNeg) ≤ R.cells) (hslots : slots + (n.toNatClampNeg + n.toNatClampNeg * k.toNatClampNeg) ≤ R.slots) :
    ∃ (vm₁ : Vm) (cA cI : ClassId), s.vm.findClass "[[I" = some cA ∧ s.vm.findClass "[I" = some cI ∧ Stand p l e R s m args below meth c (mn_s (T.setVm vm₁) cA cI n.toNatClampNeg k.toNatClampNeg n.toNatClampNeg) locs (cells + 1 + n.toNatClampNeg) (slots + n.toNatClampNeg + n.toNatClampNeg * k.toNatClampNeg) ∧
      ∀ target, Steps p.tables e below ((mn_s (T.setVm vm₁) cA cI n.toNatClampNeg k.toNatClampNeg n.toNatClampNeg).setTop { g with pc := g.pc + 4, stack := .ref T.heap.size :: rest }) target → Steps p.tables e below (T.setTop g) target := by
  subst hg
  have hpl : e.platform.magicAccessors = ({} : Platform).magicAccessors := by rw [X.admits.platform]
  obtain ⟨cI, cA, kA, hcI, -, hkA, hAk, hcA⟩ := ao_spec hov
  obtain ⟨cI', kI, cc, hcI', hkI, hIk⟩ := Cond.arrayClass_spec har
  have eI : cI' = cI := Option.some.inj (hcI'.symm.trans hcI)
  subst eI
  obtain ⟨c0, hc0, hcl'⟩ := Cond.classLink_spec hown hcl e.platform hpl
  have eA : c0 = cA := Option.some.inj (hc0.symm.trans hcA)
  subst eA
  obtain ⟨g1, w1, r1⟩ := State.classEntry (e := e) X.warmed hcl'
  generalize T.vm.noted g.method.cls index (.cls c0) = vm₁ at g1 w1 r1
  obtain ⟨kA₁, hA₁, heA⟩ := w1.alike.2.2 _ _ hkA
  obtain ⟨kI₁, hI₁, heI⟩ := w1.alike.2.2 _ _ hkI
  have hA₁k : kA₁.kind = .array cI' (.array .int) := by rw [heA]; exact hAk
  have hI₁k : kI₁.kind = .array cc .int := by rw [heI]; exact hIk
  have X₁ := X.noted w1
  obtain ⟨q1, q2⟩ := X.roomAbove hcells hslots
  have XF := mn_stand X₁ c0 cI' n.toNatClampNeg k.toNatClampNeg n.toNatClampNeg
  refine ⟨vm₁, c0, cI', hcA, hcI, XF.dropFresh (fun x hx => ?_), fun target hrest => ?_⟩
  · obtain ⟨j, -, rfl⟩ := List.mem_map.mp hx
    exact X.heapGrown
  jvm_step X.here [hexec, hdg]
  simp only [multianewarray.sem, wp_bind', W.resolveClassAt_links (State.method?_setTop g X.here.top) g1]
  rw [W.popN, if_neg (by decide)]
  refine ⟨g, State.topJava?_setTop' (s := T.setVm vm₁) g X.here.top, [.int n, .int k], rest, rfl, hstack, ?_⟩
  simp only [List.mapM_cons, List.mapM_nil, wp_bind', wp_pure']
  refine mn_make (kA := kA₁) (kI := kI₁) (cc := cc) hA₁ hA₁k hI₁ hI₁k hn hk (by rw [Launch.admits_arrayLengthLimit X.admits]; omega) (by rw [Launch.admits_maxHeapBytes X.admits]; omega) (by rw [Launch.admits_arrayLengthLimit X.admits]; omega) (by rw [Launch.admits_maxHeapBytes X.admits]; omega) (by show T.heap.size + 1 + _ ≤ _; omega) (by show T.slotsUsed + _ + _ ≤ _; omega) (fun d' a' => ?_)
  have eS : ((T.setTop g).setVm vm₁).setTop { g with stack := rest } = (T.setVm vm₁).setTop { g with stack := rest } := by
    show ((T.setVm vm₁).setTop g).setTop _ = _
    rw [State.setTop_setTop]
  rw [eS, mn_s_top]
  simp only [wp_bind', W.mark, W.pushRef, State.topJava?_setTop' _ XF.here.top, Option.some.injEq, exists_eq_left', State.setTop_setTop, State.heap_setTop]
  intro acts
  simp [jvm, XF.here.top]
  exact hrest
end MN2
/-- new int[N][K] -/
def ah_nm (h : AH) (N K : Nat) : AH := ah_mk (ah_n h + 1 + N) (fun x => if x = ah_n h then (3, N) else if ah_n h < x ∧ x < ah_n h + 1 + N then (0, K) else ah_k h x) (ah_f h) (ah_r h) (fun x => if ah_n h ≤ x ∧ x < ah_n h + 1 + N then (fun _ => 0) else ah_i h x) (ah_l h) (fun x => if x = ah_n h then (fun j => if j < N then some (ah_n h + 1 + j) else none) else ah_q h x)
theorem ex_mna {M : MM} {d pc q bc bs : Nat} {ls st : List Value} {h : AH} {Q : Option Value → AH → Prop} {idx N K : Nat} {n k : Int32} (hd : decode M.2.1 pc = .ok (.multianewarray idx 2, 4)) (hl : Cond.classLink M.1 idx "[[I" ∈ tw_l) (hN : ah_n h + (N + 1) < 10000000) (kk : ex_G M d q ls (.ref (ah_n h) :: st) (ah_nm h N K) bc bs Q) (hn : n = Int32.ofNat N := by decide) (hk : k = Int32.ofNat K := by decide) (hb : N ≤ 1000 ∧ K ≤ 1000 := by decide) (hq : pc + 4 = q := by rfl) : ex_G M d pc ls (.int k :: .int n :: st) h (bc + (1 + N)) (bs + (N + N * K)) Q := by
  subst hq
  intro g p l e R s m args below meth cd H locs cells slots lsA f1 f2 f3 f4 f5 f6 f7 f8 f9
  have nc : n.toNatClampNeg = N := by rw [hn]; exact nI_clamp (by omega)
  have n0 : ¬ n < 0 := by rw [hn]; exact nI_pos (by omega)
  have kc : k.toNatClampNeg = K := by rw [hk]; exact nI_clamp (by omega)
  have k0 : ¬ k < 0 := by rw [hk]; exact nI_pos (by omega)
  intro T hT X
  obtain ⟨vm₁, cA, cI, hcA, hcI, X', stp⟩ := mn_step X f1.1 f1.2.2.2.1 (ex_tw f1 _ hl) (ex_tw f1 (.arrayOver (.array .int)) (by decide +kernel)) (ex_tw f1 (.arrayClass .int) (by decide +kernel)) (g := F0 m pc lsA ((.int k :: .int n :: st).map (cv g))) rfl (by rw [f1.2.1]; exact hd) (rest := st.map (cv g)) rfl n0 k0 (by rw [nc]; omega) (by rw [kc]; omega) (by rw [nc]; omega) (by rw [nc, kc]; omega)
  rw [nc, kc] at X' stp
  have eA : cA = gd_a g 3 := Option.some.inj (hcA.symm.trans (f1.2.2.2.2.2.2.2.2.1.2.1 3 (by decide)).2)
  have eI : cI = gd_a g 0 := Option.some.inj (hcI.symm.trans (f1.2.2.2.2.2.2.2.2.1.2.1 0 (by decide)).2)
  subst eA
  subst eI
  obtain ⟨a1, a2, a3, a4, -, -⟩ := mn_s_at (T.setVm vm₁) (gd_a g 3) (gd_a g 0) N K N
  have hTh : (T.setVm vm₁).heap = H := hT
  rw [hTh] at a1 a2 a3 a4
  generalize hU : mn_s (T.setVm vm₁) (gd_a g 3) (gd_a g 0) N K N = U at X' stp a1 a2 a3 a4
  have hH2 : HR g (ah_nm h N K) U.heap := by
    refine ⟨by rw [a1, f2.1]; show _ = gd_b g + (ah_n h + 1 + N); omega, by show ah_n h + 1 + N ≤ _; omega, fun i hi => ?_⟩
    have hi : i < ah_n h + 1 + N := hi
    by_cases e1 : i = ah_n h
    · subst e1
      have ek : ah_k (ah_nm h N K) (ah_n h) = (3, N) := if_pos rfl
      have eq : ah_q (ah_nm h N K) (ah_n h) = fun j => if j < N then some (ah_n h + 1 + j) else none := if_pos rfl
      unfold ce
      rw [ek, eq, if_neg (show ¬ (3 : Nat) ≤ 1 by decide), if_neg (show ¬ (3 : Nat) = 2 by decide), if_pos (show (3 : Nat) < 20 by decide), ← f2.1, a2]
      unfold mn_o
      congr 2
      funext j
      by_cases hj : j < N
      · rw [if_pos hj]
        show _ = cr g (if j < N then some (ah_n h + 1 + j) else none)
        rw [if_pos hj]
        show Value.ref (H.size + 1 + j) = Value.ref (ad g (ah_n h + 1 + j))
        have hz := f2.1
        rw [show ad g (ah_n h + 1 + j) = gd_b g + (ah_n h + 1 + j) from if_pos (by omega), show H.size + 1 + j = gd_b g + (ah_n h + 1 + j) by omega]
      · rw [if_neg hj]
        show _ = cr g (if j < N then some (ah_n h + 1 + j) else none)
        rw [if_neg hj]
        rfl
    · by_cases e2 : ah_n h < i
      · have ek : ah_k (ah_nm h N K) i = (0, K) := by show (if _ then _ else if _ then _ else _) = _; rw [if_neg e1, if_pos ⟨e2, hi⟩]
        have ei : ah_i (ah_nm h N K) i = fun _ => 0 := if_pos ⟨by omega, hi⟩
        unfold ce
        rw [ek, ei, if_pos (show (0 : Nat) ≤ 1 by decide)]
        obtain ⟨j, rfl⟩ : ∃ j, i = ah_n h + 1 + j := ⟨i - (ah_n h + 1), by omega⟩
        rw [show gd_b g + (ah_n h + 1 + j) = H.size + 1 + j by rw [f2.1]; omega, a3 j (by omega)]
        rfl
      · have hlt : i < ah_n h := by omega
        refine ce_same (ce_kept (f2.2.2 i hlt) (a4 _ (by rw [f2.1]; omega))) ?_ rfl rfl ?_ rfl ?_
        · show (if _ then _ else if _ then _ else _) = _
          rw [if_neg e1, if_neg (fun z => e2 z.1)]
        · exact if_neg (fun z => by omega)
        · exact if_neg e1
  have hO2 : OL g (ah_nm h N K) s U.heap := by
    refine (f3.kept (fun x hx => a4 x (by rw [f2.1]; omega))).same (fun j hj => ?_) (fun j hj => ?_)
    · show (if _ then _ else if _ then _ else _) = _
      rw [if_neg (by omega), if_neg (fun z => by omega)]
    · exact if_neg (fun z => by omega)
  have hS2 : va_S (gd_A g) s.heap U.heap locs := ⟨by rw [a1]; have := f4.1; omega, fun x h1 h2 => (a4 x (Nat.lt_of_lt_of_le h1 f4.1)).trans (f4.2.1 x h1 h2), f4.2.2⟩
  obtain ⟨t, b1, b2⟩ := kk g p l e R s m args below meth cd U.heap locs (cells + 1 + N) (slots + N + N * K) lsA f1 hH2 hO2 hS2 f5 f6 f7 (by omega) (by omega) U rfl X'
  refine ⟨t, stp t ?_, b2⟩
  have ea : ad g (ah_n h) = T.heap.size := by rw [hT, f2.1]; exact if_pos (by omega)
  have e2 : (Value.ref (ah_n h) :: st).map (cv g) = .ref T.heap.size :: st.map (cv g) := by show Value.ref (ad g (ah_n h)) :: _ = _; rw [ea]
  rw [e2] at b1
  exact b1
