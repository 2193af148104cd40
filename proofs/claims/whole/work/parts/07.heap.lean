/-! The abstract heap: cells by number; a cell's kind and what it holds.
    kinds: (0, n) int[n], (1, n) boolean[n], (2, n) long[n], (3, n) int[n][], (4 + c, n) an array of n references to class c, (20 + c, _) an object of class c.
    ah_n how many, ah_k kinds, ah_f int and boolean fields, ah_r reference fields, ah_i int and boolean arrays, ah_l long arrays, ah_q arrays of references -/
abbrev AH : Type := Nat × (Nat → Nat × Nat) × (Nat → Nat → Int32) × (Nat → Nat → Option Nat) × (Nat → Nat → Int32) × (Nat → Nat → Int64) × (Nat → Nat → Option Nat)
def ah_mk (n : Nat) (k : Nat → Nat × Nat) (f : Nat → Nat → Int32) (r : Nat → Nat → Option Nat) (i : Nat → Nat → Int32) (l : Nat → Nat → Int64) (q : Nat → Nat → Option Nat) : AH := (n, k, f, r, i, l, q)
def ah_n (h : AH) : Nat := h.1
def ah_k (h : AH) : Nat → Nat × Nat := h.2.1
def ah_f (h : AH) : Nat → Nat → Int32 := h.2.2.1
def ah_r (h : AH) : Nat → Nat → Option Nat := h.2.2.2.1
def ah_i (h : AH) : Nat → Nat → Int32 := h.2.2.2.2.1
def ah_l (h : AH) : Nat → Nat → Int64 := h.2.2.2.2.2.1
def ah_q (h : AH) : Nat → Nat → Option Nat := h.2.2.2.2.2.2
/-- f, but v at k -/
def u1 {α : Type} (f : Nat → α) (k : Nat) (v : α) : Nat → α := fun j => if j = k then v else f j
theorem u1_s {α : Type} (f : Nat → α) (k : Nat) (v : α) : u1 f k v k = v := if_pos rfl
theorem u1_n {α : Type} (f : Nat → α) {k j : Nat} (v : α) (h : j ≠ k) : u1 f k v j = f j := if_neg h
theorem u1_u {α : Type} (f : Nat → α) (k : Nat) (v w : α) : u1 (u1 f k v) k w = u1 f k w := by
  funext j
  unfold u1
  split <;> rfl
theorem u1_e {α : Type} (f : Nat → α) (k : Nat) : u1 f k (f k) = f := by
  funext j
  unfold u1
  split
  · next h => rw [h]
  · rfl
def ah_sf (h : AH) (a k : Nat) (v : Int32) : AH := ah_mk (ah_n h) (ah_k h) (u1 (ah_f h) a (u1 (ah_f h a) k v)) (ah_r h) (ah_i h) (ah_l h) (ah_q h)
def ah_sr (h : AH) (a k : Nat) (v : Option Nat) : AH := ah_mk (ah_n h) (ah_k h) (ah_f h) (u1 (ah_r h) a (u1 (ah_r h a) k v)) (ah_i h) (ah_l h) (ah_q h)
/-- a whole array anew -/
def ah_wi (h : AH) (a : Nat) (f : Nat → Int32) : AH := ah_mk (ah_n h) (ah_k h) (ah_f h) (ah_r h) (u1 (ah_i h) a f) (ah_l h) (ah_q h)
def ah_wl (h : AH) (a : Nat) (f : Nat → Int64) : AH := ah_mk (ah_n h) (ah_k h) (ah_f h) (ah_r h) (ah_i h) (u1 (ah_l h) a f) (ah_q h)
def ah_wq (h : AH) (a : Nat) (f : Nat → Option Nat) : AH := ah_mk (ah_n h) (ah_k h) (ah_f h) (ah_r h) (ah_i h) (ah_l h) (u1 (ah_q h) a f)
def ah_si (h : AH) (a k : Nat) (v : Int32) : AH := ah_wi h a (u1 (ah_i h a) k v)
def ah_sl (h : AH) (a k : Nat) (v : Int64) : AH := ah_wl h a (u1 (ah_l h a) k v)
def ah_sq (h : AH) (a k : Nat) (v : Option Nat) : AH := ah_wq h a (u1 (ah_q h a) k v)
/-- a new object of class c, a new array of kind t -/
def ah_no (h : AH) (c : Nat) : AH := ah_mk (ah_n h + 1) (u1 (ah_k h) (ah_n h) (20 + c, 0)) (u1 (ah_f h) (ah_n h) (fun _ => 0)) (u1 (ah_r h) (ah_n h) (fun _ => none)) (ah_i h) (ah_l h) (ah_q h)
def ah_na (h : AH) (t n : Nat) : AH := ah_mk (ah_n h + 1) (u1 (ah_k h) (ah_n h) (t, n)) (ah_f h) (ah_r h) (u1 (ah_i h) (ah_n h) (fun _ => 0)) (u1 (ah_l h) (ah_n h) (fun _ => 0)) (u1 (ah_q h) (ah_n h) (fun _ => none))
/-- the ghosts: where the walk's cells begin, the classes' numbers and slots, the arrays' classes by kind, the three old arrays (script, COLOUR_COUNTS, PARENTS: 10000000 and on) -/
abbrev GD : Type := Nat × (Nat → ClassId) × (Nat → Nat → Nat) × (Nat → ClassId) × (Nat → Nat)
def gd_b (g : GD) : Nat := g.1
def gd_c (g : GD) : Nat → ClassId := g.2.1
def gd_s (g : GD) : Nat → Nat → Nat := g.2.2.1
def gd_a (g : GD) : Nat → ClassId := g.2.2.2.1
def gd_o (g : GD) : Nat → Nat := g.2.2.2.2
def gd_A (g : GD) : Nat → Prop := fun q => gd_b g ≤ q
def ad (g : GD) (i : Nat) : Nat := if i < 10000000 then gd_b g + i else gd_o g (i - 10000000)
def cv (g : GD) : Value → Value
  | .ref i => .ref (ad g i)
  | v => v
def cr (g : GD) (r : Option Nat) : Value := va_rf (r.map (ad g))
def rv (r : Option Nat) : Value := va_rf r
theorem cv_rv (g : GD) (r : Option Nat) : cv g (rv r) = cr g r := by cases r <;> rfl
def at_ty : Nat → FieldType := fun t => match t with
  | 0 => .int
  | 1 => .boolean
  | 2 => .long
  | 3 => .array .int
  | t + 4 => .object (kt_R t)
def at_tags : List Nat := [0, 1, 2, 3, 6, 9, 11, 14]
def ce_v (g : GD) (h : AH) (i c k : Nat) : Value := if (kt_ty c k).isReference = true then cr g (ah_r h i k) else .int (ah_f h i k)
def ce (g : GD) (h : AH) (i : Nat) (H : Heap) : Prop :=
  if (ah_k h i).1 ≤ 1 then H[gd_b g + i]? = some (arrV (gd_a g (ah_k h i).1) (ah_k h i).2 (fun j => .int (ah_i h i j)))
  else if (ah_k h i).1 = 2 then H[gd_b g + i]? = some (arrV (gd_a g 2) (ah_k h i).2 (fun j => .long (ah_l h i j)))
  else if (ah_k h i).1 < 20 then H[gd_b g + i]? = some (arrV (gd_a g (ah_k h i).1) (ah_k h i).2 (fun j => cr g (ah_q h i j)))
  else (ah_k h i).1 - 20 < 13 ∧ t_OB (gd_b g + i) (gd_c g ((ah_k h i).1 - 20)) (kt_N ((ah_k h i).1 - 20)) (gd_s g ((ah_k h i).1 - 20)) H (ce_v g h i ((ah_k h i).1 - 20))
def HR (g : GD) (h : AH) (H : Heap) : Prop := H.size = gd_b g + ah_n h ∧ ah_n h ≤ 10000000 ∧ ∀ i, i < ah_n h → ce g h i H
def OL (g : GD) (h : AH) (U : State) (H : Heap) : Prop := ∀ j, j < 3 → gd_o g j < gd_b g ∧ (ah_k h (10000000 + j)).1 = 0 ∧ va_X (gd_o g j) (ah_k h (10000000 + j)).2 (ah_i h (10000000 + j)) U H
def ZZ (g : GD) (U : State) (H : Heap) : Prop := va_Z RX11 "COLOUR_COUNTS" "[I" (.ref (gd_o g 1)) (gd_A g) U H ∧ va_Z RX5 "PARENTS" "[I" (.ref (gd_o g 2)) (gd_A g) U H
def KK (g : GD) (U : State) : Prop := (∀ c, c < 13 → u_Kn U (kt_R c) (kt_T c) (kt_N c) (gd_c g c) (gd_s g c)) ∧ (∀ t ∈ at_tags, ArrOfT U (gd_a g t) (at_ty t) ∧ va_RA U (gd_a g t) (at_ty t)) ∧ ∃ kA kC : Class, U.vm.classes[gd_a g 3]? = some kA ∧ kA.kind = .array (gd_a g 0) (.array .int) ∧ U.vm.classes[gd_a g 0]? = some kC ∧ U.vm.assignable (gd_a g 0) (gd_a g 0) = true
theorem ce_kept {g : GD} {h : AH} {i : Nat} {H H1 : Heap} (hc : ce g h i H) (hq : H1[gd_b g + i]? = H[gd_b g + i]?) : ce g h i H1 := by
  unfold ce at hc ⊢
  split at hc
  · next a => rw [if_pos a, hq]; exact hc
  · next a =>
    rw [if_neg a]
    split at hc
    · next b => rw [if_pos b, hq]; exact hc
    · next b =>
      rw [if_neg b]
      split at hc
      · next c => rw [if_pos c, hq]; exact hc
      · next c => rw [if_neg c]; exact ⟨hc.1, hc.2.kept hq⟩
/-- a cell that two abstract heaps hold alike -/
theorem ce_same {g : GD} {h h1 : AH} {i : Nat} {H : Heap} (hc : ce g h i H) (hk : ah_k h1 i = ah_k h i) (hf : ah_f h1 i = ah_f h i) (hr : ah_r h1 i = ah_r h i) (hi : ah_i h1 i = ah_i h i) (hl : ah_l h1 i = ah_l h i) (hq : ah_q h1 i = ah_q h i) : ce g h1 i H := by
  have e : ∀ c k, ce_v g h1 i c k = ce_v g h i c k := fun c k => by unfold ce_v; rw [hf, hr]
  have e2 : ∀ c, ce_v g h1 i c = ce_v g h i c := fun c => funext (e c)
  unfold ce at hc ⊢
  rw [hk, hi, hl, hq, e2]
  exact hc
theorem OL.moved {g : GD} {h : AH} {u U : State} {H : Heap} (hvm : u.vm.Alike U.vm) (x : OL g h u H) : OL g h U H := fun j hj => ⟨(x j hj).1, (x j hj).2.1, (x j hj).2.2.moved hvm⟩
theorem OL.kept {g : GD} {h : AH} {U : State} {H H1 : Heap} (x : OL g h U H) (hq : ∀ q, q < gd_b g → H1[q]? = H[q]?) : OL g h U H1 := fun j hj => ⟨(x j hj).1, (x j hj).2.1, (x j hj).2.2.kept (hq _ (x j hj).1)⟩
theorem OL.same {g : GD} {h h1 : AH} {U : State} {H : Heap} (x : OL g h U H) (hk : ∀ j, j < 3 → ah_k h1 (10000000 + j) = ah_k h (10000000 + j)) (hi : ∀ j, j < 3 → ah_i h1 (10000000 + j) = ah_i h (10000000 + j)) : OL g h1 U H := fun j hj => by
  obtain ⟨a, b, c⟩ := x j hj
  exact ⟨a, by rw [hk j hj]; exact b, by rw [hk j hj, hi j hj]; exact c⟩
theorem ZZ.moved {g : GD} {u U : State} {H : Heap} (hvm : u.vm.Alike U.vm) (x : ZZ g u H) : ZZ g U H := ⟨x.1.moved hvm, x.2.moved hvm⟩
theorem ZZ.kept {g : GD} {U : State} {H H1 : Heap} (x : ZZ g U H) (hq : ∀ q, q < gd_b g → H1[q]? = H[q]?) : ZZ g U H1 := ⟨x.1.kept (fun a _ h => hq a (Nat.not_le.mp h)), x.2.kept (fun a _ h => hq a (Nat.not_le.mp h))⟩
theorem KK.moved {g : GD} {u U : State} (hvm : u.vm.Alike U.vm) (x : KK g u) : KK g U := by
  obtain ⟨a, b, kA, kC, c1, c2, c3, c4⟩ := x
  obtain ⟨kA', hA, eA⟩ := hvm.2.2 _ _ c1
  obtain ⟨kC', hC, eC⟩ := hvm.2.2 _ _ c3
  exact ⟨fun c hc => u_Kn_moved hvm (a c hc), fun t ht => ⟨arrOfT_moved hvm (b t ht).1, (b t ht).2.moved hvm⟩, kA', kC', hA, by rw [eA]; exact c2, hC, by rw [hvm.assignable]; exact c4⟩
theorem ao_idx (vm : Vm) (comp : ClassId) : (vm.bare.classes.findIdx? fun (x : Class) => match x.kind with | .array component _ => component == comp | _ => false) = (vm.classes.findIdx? fun (x : Class) => match x.kind with | .array component _ => component == comp | _ => false) := by
  simp only [Vm.bare, Array.findIdx?_map]
  rfl
theorem ao_spec {args : Array Value} {s : State} {t : FieldType} (h : (Cond.arrayOver (.array t)).before args s = true) : ∃ (comp c : ClassId) (k : Class), s.vm.findClass (FieldType.array t).toString = some comp ∧ (s.vm.classes.findIdx? fun (x : Class) => match x.kind with | .array component _ => component == comp | _ => false) = some c ∧ s.vm.classes[c]? = some k ∧ k.kind = .array comp (.array t) ∧ s.vm.findClass ("[" ++ (FieldType.array t).toString) = some c := by
  simp only [Cond.before, Cond.holds, Cond.value, beq_iff_eq] at h
  cases hc : s.vm.findClass (FieldType.array t).toString with
  | none => simp [hc] at h
  | some comp =>
    simp only [hc, Option.bind_some, Option.bind_eq_some_iff, Option.map_eq_some_iff] at h
    obtain ⟨c, hi, k, hk, hb⟩ := h
    obtain ⟨hlt, hp, -⟩ := Array.findIdx?_eq_some_iff_getElem.mp hi
    have hkk : s.vm.classes[c] = k := (Array.getElem?_eq_some_iff.mp hk).2
    rw [hkk] at hp
    cases hkind : k.kind with
    | array component ty =>
      rw [hkind] at hb hp
      simp at hb hp
      exact ⟨comp, c, k, rfl, hi, hk, by rw [hkind, hp, hb.1], hb.2⟩
    | _ =>
      rw [hkind] at hb
      simp at hb
theorem ao_moved {ty : FieldType} {u U : State} {a a' : Array Value} (hvm : u.vm.Alike U.vm) (h : (Cond.arrayOver ty).before a u = true) : (Cond.arrayOver ty).before a' U = true := by
  cases ty with
  | object C => exact va_AO.use (va_AO.moved hvm (va_AO.of h))
  | array t =>
    obtain ⟨comp, c, k, h1, h2, h3, h4, h5⟩ := ao_spec h
    obtain ⟨k', hk', he⟩ := hvm.2.2 _ _ h3
    have hi : (U.vm.classes.findIdx? fun (x : Class) => match x.kind with | .array component _ => component == comp | _ => false) = some c := by
      refine (ao_idx U.vm comp).symm.trans ?_
      rw [hvm.bare_eq]
      exact (ao_idx u.vm comp).trans h2
    have hkind : k'.kind = .array comp (.array t) := by rw [he]; exact h4
    have f1 : U.vm.findClass (FieldType.array t).toString = some comp := by rw [hvm.findClass]; exact h1
    have f2 : U.vm.findClass ("[" ++ (FieldType.array t).toString) = some c := by rw [hvm.findClass]; exact h5
    unfold Cond.before Cond.holds
    simp only [Cond.value]
    rw [f1, Option.bind_some]
    refine (congrArg (fun o : Option Nat => (o.bind (fun c => (U.vm.classes[c]?).map fun (k : Class) => match k.kind with | .array _ ty => decide (ty = FieldType.array t) && decide (U.vm.findClass ("[" ++ (FieldType.array t).toString) = some c) | _ => false) == some true)) hi).trans ?_
    simp [hk', hkind, f2]
  | _ => simp [Cond.before, Cond.holds, Cond.value] at h
theorem tw_moved {u U : State} (hW : u.WarmedH U.vm) (x : tw_T u) : tw_T U := by
  intro w hw a
  have hk : tw_k w = true := (List.mem_filter.mp hw).2
  have h1 := List.all_eq_true.mp tw_ok w (List.mem_filter.mp hw).1
  rw [hk] at h1
  simp only [Bool.not_true, Bool.false_or, Bool.or_eq_true] at h1
  rcases h1 with h1 | h1 | h1
  · cases w <;> first | (exact va_Nw.use rfl (va_Nw.warmF hW (va_Nw.of rfl (x _ hw #[])))) | (exact va_Nw.use rfl (va_Nw.warmM hW (va_Nw.of rfl (x _ hw #[])))) | (simp [tw_n] at h1)
  · cases w with
    | arrayOver ty => exact ao_moved hW.alike (x _ hw #[])
    | _ => simp [tw_o] at h1
  · exact word_at hW (good_of_word h1) (x w hw #[])
