/-! The law from its start. -/
set_option maxRecDepth 100000 in
theorem L_law_0 {d bc bs : Nat} {h : AH} {Q : Option Value → AH → Prop} {a_0 : Nat} (w : ah_n h < 10000000 ∧ ∀ h2, h2 = ah_no h 11 → ex_S yX11_init mX11_init (d + 20) [.ref (ah_n h)] h2 167 12258 (fun r h3 => r = none ∧ ah_n h3 < 10000000 ∧ ∀ h5, h5 = ah_no h3 12 → ex_S yX12_init mX12_init (d + 20) [.ref (ah_n h3)] h5 47 214113 (fun r h6 => r = none ∧ ex_G mL_law (d + 21) 18 [.ref a_0, .ref (ah_n h), .ref (ah_n h3), .int 0] [] h6 bc bs Q))) : ex_G mL_law (d + 21) 0 [.ref a_0, .retAddr 0, .retAddr 0, .retAddr 0] [] h (bc + 216) (bs + 226456) Q := by
  have s1 := w.1
  replace w := w.2
  refine ex_G.room (bc' := (bc + 215) + 1) (bs' := (bs + 226436) + 20) (Nat.le_refl _) (rm_le rfl) (rm_le rfl) ?_
  refine ex_new (q := 3) (c := 11) (M := mL_law) dL_law_0 wd_129 wd_130 wd_113 s1 ?_
  refine ex_nmh (fun h2 eh2 => ?_)
  replace w := w h2 eh2
  refine ex_dup (q := 4) dL_law_3 rfl ?_
  refine ex_G.room (bc' := (bc + 48) + 167) (bs' := (bs + 214178) + 12258) (Nat.le_refl _) (rm_le rfl) (rm_le rfl) ?_
  refine ex_callI (q := 7) (M := mL_law) (hdd := Nat.le_refl _) (st := [.ref (ah_n h)]) (bc := (bc + 48)) (bs := (bs + 214178)) dL_law_4 rfl cl_L_9 wd_132 rfl rfl w ?_
  rintro r h3 ⟨rfl, w⟩
  show ex_G mL_law (d + 21) 7 [.ref a_0, .retAddr 0, .retAddr 0, .retAddr 0] [.ref (ah_n h)] h3 (bc + 48) (bs + 214178) Q
  refine ex_astore_n (q := 8) (ls' := [.ref a_0, .ref (ah_n h), .retAddr 0, .retAddr 0]) dL_law_7 rfl ?_
  have s4 := w.1
  replace w := w.2
  refine ex_G.room (bc' := (bc + 47) + 1) (bs' := (bs + 214113) + 65) (Nat.le_refl _) (rm_le rfl) (rm_le rfl) ?_
  refine ex_new (q := 11) (c := 12) (M := mL_law) dL_law_8 wd_1370 wd_1371 wd_126 s4 ?_
  refine ex_nmh (fun h5 eh5 => ?_)
  replace w := w h5 eh5
  refine ex_dup (q := 12) dL_law_11 rfl ?_
  refine ex_G.room (bc' := bc + 47) (bs' := bs + 214113) (Nat.le_refl _) (Nat.le_refl _) (Nat.le_refl _) ?_
  refine ex_callI (q := 15) (M := mL_law) (hdd := Nat.le_refl _) (st := [.ref (ah_n h3)]) (bc := bc) (bs := bs) dL_law_12 rfl cl_L_12 wd_1373 rfl rfl w ?_
  rintro r h6 ⟨rfl, w⟩
  show ex_G mL_law (d + 21) 15 [.ref a_0, .ref (ah_n h), .retAddr 0, .retAddr 0] [.ref (ah_n h3)] h6 bc bs Q
  refine ex_astore_n (q := 16) (ls' := [.ref a_0, .ref (ah_n h), .ref (ah_n h3), .retAddr 0]) dL_law_15 rfl ?_
  refine ex_iconst (q := 17) (v := 0) dL_law_16 (by decide) ?_
  refine ex_istore_n (q := 18) (ls' := [.ref a_0, .ref (ah_n h), .ref (ah_n h3), .int 0]) dL_law_17 rfl ?_
  exact w
section START
variable {d : Nat} {S : Nat → Int32} {len : Nat}
/-- the heap at the law's start: the three old rows -/
def zh (S : Nat → Int32) (len : Nat) (c4 c6 : Nat → Int32) : AH := ah_mk 0 (fun a => if a = 10000000 then (0, len) else if a = 10000001 then (0, 4) else if a = 10000002 then (0, 6) else (0, 0)) (fun _ _ => 0) (fun _ _ => none) (fun a => if a = 10000000 then S else if a = 10000001 then c4 else if a = 10000002 then c6 else fun _ => 0) (fun _ _ => 0) (fun _ _ => none)
def cc4 (i : Nat) : Int32 := if i = 0 then 3 else if i = 1 then 5 else if i = 2 then 7 else 11
def cc6 (i : Nat) : Int32 := if i = 0 then -1 else if i = 1 then 0 else if i = 2 then -1 else if i = 3 then 2 else if i = 4 then -1 else 4
theorem zh_old : OLD (zh S len cc4 cc6) S len := ⟨⟨rfl, rfl⟩, ⟨rfl, rfl, rfl, rfl, rfl⟩, rfl, rfl, rfl, rfl, rfl, rfl, rfl⟩
theorem zh_i {a k : Nat} (h : a < 10000000) : ah_i (zh S len cc4 cc6) a k = 0 := by
  show (if a = 10000000 then S else if a = 10000001 then cc4 else if a = 10000002 then cc6 else fun _ => 0) k = 0
  rw [if_neg (by omega), if_neg (by omega), if_neg (by omega)]
theorem zh_ini : INI 0 0 0 (zh S len cc4 cc6) (zh S len cc4 cc6) := ⟨rfl, fun a ha => absurd ha (Nat.not_lt_zero a), fun i t hi => absurd hi (Nat.not_lt_zero i), fun _ _ _ _ _ => rfl, fun a k h _ _ _ => zh_i h, fun _ _ _ => rfl, fun _ _ _ _ _ => rfl, fun _ _ => ⟨rfl, rfl⟩, fun z => by omega, fun z => by omega, fun z => by omega, fun z => by omega⟩
theorem law_ex (hl : len ≤ 4096) : ex_G mL_law (d + 21) 0 [.ref 10000000, .retAddr 0, .retAddr 0, .retAddr 0] [] (zh S len cc4 cc6) (303 * 512 + 216) (10403 * 512 + 226456) (fun r _ => r = some (.int 1)) := by
  have I := zh_ini (S := S) (len := len)
  refine L_law_0 ?_
  rw [I.1]
  refine ⟨by decide, fun h2 e2 => ?_⟩
  have I2 : INI 1 0 0 h2 (zh S len cc4 cc6) := I_no (c := 11) I rfl (by decide +kernel) e2
  refine c_X11i (d := d + 17) I2 (fun h3 I3 => ⟨rfl, ?_⟩)
  rw [I3.1]
  refine ⟨by decide, fun h5 e5 => ?_⟩
  have I5 : INI 169 89 3 h5 (zh S len cc4 cc6) := I_no (c := 12) I3 rfl (by decide +kernel) e5
  refine c_X12i (d := d + 19) I5 (fun h6 I6 => ⟨rfl, ?_⟩)
  obtain ⟨x, y⟩ := R0_init I6 (zh_old (S := S) (len := len))
  exact law_loop hl 512 0 h6 _ _ _ (by omega) (by omega) x y (by rw [I6.1]; decide)
end START
section WORLD
theorem tw_start {u : State} {a0 : Array Value} (x : ∀ w ∈ lw_tbl, w.before a0 u = true) : tw_T u := by
  intro w hw a
  have hk : tw_k w = true := (List.mem_filter.mp hw).2
  have xw := x w (List.mem_filter.mp hw).1
  have h1 := List.all_eq_true.mp tw_ok w (List.mem_filter.mp hw).1
  rw [hk] at h1
  simp only [Bool.not_true, Bool.false_or, Bool.or_eq_true] at h1
  have hW := State.WarmedH.refl u
  rcases h1 with h1 | h1 | h1
  · cases w <;> first | (exact va_Nw.use rfl (va_Nw.of rfl xw)) | (simp [tw_n] at h1)
  · cases w with
    | arrayOver ty => exact ao_moved hW.alike xw
    | _ => simp [tw_o] at h1
  · exact word_at hW (good_of_word h1) xw
theorem sa_len {args : Array Value} {s : State} {t : Term} {n : Int32} (h : (Term.length t).eval args s none [] s = some (.int n)) : ∃ a cell, t.eval args s none [] s = some (.ref a) ∧ s.arrayAt? a = some cell ∧ cell.slots.size < 2147483648 ∧ n = cell.slots.size.toInt32 := by
  simp only [Term.eval, Option.bind_eq_bind] at h
  cases ht : t.eval args s none [] s with
  | none => simp [ht] at h
  | some x =>
    cases x <;> simp [ht] at h
    case ref a =>
      obtain ⟨cell, hcell, h⟩ := Option.bind_eq_some_iff.mp h
      by_cases hn : cell.slots.size < 2147483648
      · rw [if_pos hn] at h; cases h; exact ⟨a, cell, rfl, hcell, hn, rfl⟩
      · rw [if_neg hn] at h; cases h
theorem sa_arr {args : Array Value} {s : State} {t : Term} {N : Nat} {v : Nat → Int32} (hN : N < 100) (h1 : (Cond.arrayOf t .int).before args s = true) (h2 : (Cond.eq (.length t) (.int (Int32.ofNat N))).before args s = true) (h3 : ∀ i, i < N → (Cond.eq (.elem t (.int (Int32.ofNat i))) (.int (v i))).before args s = true) : ∃ a, t.eval args s none [] s = some (.ref a) ∧ a < s.heap.size ∧ va_X a N v s s.heap := by
  obtain ⟨a, cell, ht, hc, hb, hn⟩ := sa_len (Cond.eq_int (n := Int32.ofNat N) h2 rfl)
  obtain ⟨hcell, -, -, -⟩ := State.arrayAt?_spec hc
  obtain ⟨q1, q2⟩ := Cond.arrayOf_spec h1 ht hcell
  have hz : cell.slots.size = N := by
    have e : Int32.ofNat N = Int32.ofNat cell.slots.size := hn
    exact ((nI_eq (a := N) (b := cell.slots.size) (by omega) (by omega)).mp e).symm
  refine ⟨a, ht, (Array.getElem?_eq_some_iff.mp hcell).1, cell, hcell, q1, q2, hz, fun j hj => ?_⟩
  have h3' := Cond.eq_int (n := v j) (h3 j hj) rfl
  obtain ⟨a', j', cell', ht', hj', hc', -, hv⟩ := Term.elem_spec h3'
  rw [ht] at ht'
  have ea : a = a' := by
    have := Option.some.inj ht'
    injection this
  subst ea
  rw [hc] at hc'
  have ec := Option.some.inj hc'
  subst ec
  have ej : j' = Int32.ofNat j := by
    have : some (Value.int (Int32.ofNat j)) = some (Value.int j') := hj'
    have := Option.some.inj this
    injection this with this
    exact this.symm
  rw [ej, show (Int32.ofNat j).toNatClampNeg = j from nI_clamp (by omega)] at hv
  exact hv
theorem kk_inst {s : State} (T : tw_T s) : ∀ c, c < 13 → (Cond.instantiable (kt_R c) (kt_N c)).before #[] s = true := kt_c13 (T _ wd_468 #[]) (T _ wd_332 #[]) (T _ wd_314 #[]) (T _ wd_387 #[]) (T _ wd_163 #[]) (T _ wd_997 #[]) (T _ wd_142 #[]) (T _ wd_245 #[]) (T _ wd_349 #[]) (T _ wd_292 #[]) (T _ wd_356 #[]) (T _ wd_130 #[]) (T _ wd_1371 #[])
theorem kk_obj {s : State} (T : tw_T s) {C : String} (h : Cond.arrayOver (.object C) ∈ tw_l) : ∃ cA, ArrOfT s cA (.object C) ∧ va_RA s cA (.object C) := by
  obtain ⟨comp, c, k, h1, -, h3, h4, h5⟩ := Cond.arrayOver_spec (T _ h #[])
  exact ⟨c, fun n z => ⟨(fun k h => by cases h), k, h3, comp, h4⟩, k, comp, h3, h4, h1, h5⟩
theorem kk_ex {s : State} (T : tw_T s) : ∃ (gc : Nat → ClassId) (gs : Nat → Nat → Nat) (ga : Nat → ClassId), ∀ (b : Nat) (go : Nat → Nat), KK (b, gc, gs, ga, go) s := by
  have hts : ∀ w ∈ tw_l, w.before #[] s = true := fun w hw => T w hw #[]
  have known : ∀ c, ∃ (cC : ClassId) (iS : Nat → Nat), c < 13 → u_Kn s (kt_R c) (kt_T c) (kt_N c) cC iS := fun c => by
    by_cases hc : c < 13
    · obtain ⟨cC, iS, x⟩ := u_known hts (kt_in c hc) (kk_inst T c hc)
      exact ⟨cC, iS, fun _ => x⟩
    · exact ⟨0, fun _ => 0, fun z => absurd z hc⟩
  obtain ⟨cI, kI, pI, i1, i2, i3⟩ := Cond.arrayClass_spec (T (.arrayClass .int) (by decide +kernel) #[])
  obtain ⟨cZ, kZ, pZ, z1, z2, z3⟩ := Cond.arrayClass_spec (T (.arrayClass .boolean) (by decide +kernel) #[])
  obtain ⟨cJ, kJ, pJ, j1, j2, j3⟩ := Cond.arrayClass_spec (T (.arrayClass .long) (by decide +kernel) #[])
  obtain ⟨cI', cA, kA, a1, -, a3, a4, a5⟩ := ao_spec (T (.arrayOver (.array .int)) (by decide +kernel) #[])
  have eI : cI' = cI := Option.some.inj (a1.symm.trans i1)
  subst eI
  obtain ⟨c6, b6, d6⟩ := kk_obj T (C := kt_R 2) (by decide +kernel)
  obtain ⟨c9, b9, d9⟩ := kk_obj T (C := kt_R 5) (by decide +kernel)
  obtain ⟨c11, b11, d11⟩ := kk_obj T (C := kt_R 7) (by decide +kernel)
  obtain ⟨c14, b14, d14⟩ := kk_obj T (C := kt_R 10) (by decide +kernel)
  refine ⟨fun c => Classical.choose (known c), fun c => Classical.choose (Classical.choose_spec (known c)), fun t => if t = 0 then cI' else if t = 1 then cZ else if t = 2 then cJ else if t = 3 then cA else if t = 6 then c6 else if t = 9 then c9 else if t = 11 then c11 else c14, fun b go => ⟨fun c hc => Classical.choose_spec (Classical.choose_spec (known c)) hc, fun t ht => ?_, kA, kI, a3, a4, i2, Vm.assignable_self _ _⟩⟩
  have ht' : t = 0 ∨ t = 1 ∨ t = 2 ∨ t = 3 ∨ t = 6 ∨ t = 9 ∨ t = 11 ∨ t = 14 := by
    unfold at_tags at ht
    simpa only [List.mem_cons, List.not_mem_nil, or_false] using ht
  rcases ht' with e | e | e | e | e | e | e | e
  · subst e; exact ⟨fun n z => ⟨(fun k h => by cases h), kI, i2, pI, i3⟩, i1⟩
  · subst e; exact ⟨fun n z => ⟨(fun k h => by cases h), kZ, z2, pZ, z3⟩, z1⟩
  · subst e; exact ⟨fun n z => ⟨(fun k h => by cases h), kJ, j2, pJ, j3⟩, j1⟩
  · subst e; exact ⟨fun n z => ⟨(fun k h => by cases h), kA, a3, cI', a4⟩, a5⟩
  · subst e; exact ⟨b6, d6⟩
  · subst e; exact ⟨b9, d9⟩
  · subst e; exact ⟨b11, d11⟩
  · subst e; exact ⟨b14, d14⟩
end WORLD
