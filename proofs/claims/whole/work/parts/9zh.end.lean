/-! The claim. -/
theorem lv_has_skip {A : Array Slot} {g : GD} (h : lv_has A 4 (ex_lp 0 ((ex_wide [Value.ref 10000000]).map (cv g)))) : lv_has A 4 (ex_lp 0 (([.ref 10000000, .retAddr 0, .retAddr 0, .retAddr 0] : List Value).map (cv g))) := h
/-! THE CLAIM OUT OF ONE WALK OF THE LAW'S BODY. Your part is whole_start (and what it stands on); all else here is the same for every law, but numbers. -/
def R_law : String := "KnotTableLaw"
def lw_P (b : Addr) (xs : List Int32) (args : Array Value) (s : State) : Prop := args = #[.ref b] ∧ s.IntsAt b xs ∧ xs.length ≤ 4096 ∧ (Jvm.Cond.and given_1 narrow_1).before args s = true
def lw_Q (_ : Array Value) (s : State) (o : Outcome) (t : State) : Prop := o = .returned (some (.int 1)) ∧ Framed s o t [] 600000 7302250
def lw_Z (below : List Frame) (a : Array Value) (s : State) : State → Prop := fun t => ∃ o, t.status = .running ∧ Ended t below o ∧ lw_Q a s o t
/-- what holds at the law's entry: the machine, the code, the tables' words (any of lw_tbl by 'hts w (by decide +kernel)'), the script of L ints xs at the cell b, what the Statement gives of the start (any of its parts by flat_of_before) -/
def lw_At (p : Program) (s : State) (m : MethodId) (meth : Method) (c : Code) (b L : Nat) (xs : Nat → Int32) : Prop :=
  p.tables.exec = Jvm.exec ∧ c.code = code ∧ meth.sig.returnType = ret ∧ c.maxLocals = 4 ∧ s.vm.findClass R_law = some m.cls ∧ (∀ w ∈ lw_tbl, w.before #[Value.ref b] s = true) ∧ va_X b L xs s s.heap ∧ b < s.heap.size ∧ meth.locks = false ∧ (Jvm.Cond.and given_1 narrow_1).before #[Value.ref b] s = true ∧ meth.name = "law"
-- ===== YOUR PART BEGINS =====
/-- YOUR PART: from the entry, for every script of at most 4096 ints, the law comes to its end with true -/
theorem whole_start {p : Program} {e : Env} {s : State} {m : MethodId} {below : List Frame} {meth : Method} {c : Code} (l : Launch) {b L : Nat} {xs : Nat → Int32} (hL : L ≤ 4096) (C0 : lw_At p s m meth c b L xs) : W p l e room_1 s m #[Value.ref b] below meth c s.heap [] 0 0 (lw_Z below #[Value.ref b] s) (entryFrame m ([Value.ref b] : List Value).toArray 4) := by
  obtain ⟨hx, hcode, hret, hml, hown, hts, hX, hbl, hlocks, hgv, hnm⟩ := C0
  have T := tw_start hts
  have hs := flat_of_before _ hgv
  obtain ⟨o1, p1, q1, r1⟩ := sa_arr (args := #[Value.ref b]) (s := s) (t := .static "KnotTable" "COLOUR_COUNTS" "[I") (N := 4) (v := cc4) (by decide) (hs _ (by decide +kernel)) (hs _ (by decide +kernel)) (fun i hi => by
    have : i = 0 ∨ i = 1 ∨ i = 2 ∨ i = 3 := by omega
    rcases this with e | e | e | e
    · subst e; exact hs _ (by decide +kernel)
    · subst e; exact hs _ (by decide +kernel)
    · subst e; exact hs _ (by decide +kernel)
    · subst e; exact hs _ (by decide +kernel))
  obtain ⟨o2, p2, q2, r2⟩ := sa_arr (args := #[Value.ref b]) (s := s) (t := .static "KnotTable$Move" "PARENTS" "[I") (N := 6) (v := cc6) (by decide) (hs _ (by decide +kernel)) (hs _ (by decide +kernel)) (fun i hi => by
    have : i = 0 ∨ i = 1 ∨ i = 2 ∨ i = 3 ∨ i = 4 ∨ i = 5 := by omega
    rcases this with e | e | e | e | e | e
    · subst e; exact hs _ (by decide +kernel)
    · subst e; exact hs _ (by decide +kernel)
    · subst e; exact hs _ (by decide +kernel)
    · subst e; exact hs _ (by decide +kernel)
    · subst e; exact hs _ (by decide +kernel)
    · subst e; exact hs _ (by decide +kernel))
  obtain ⟨gc, gs, ga, kk⟩ := kk_ex T
  obtain ⟨g, hg⟩ : ∃ g : GD, g = (s.heap.size, gc, gs, ga, fun j => if j = 0 then b else if j = 1 then o1 else o2) := ⟨_, rfl⟩
  have gb : gd_b g = s.heap.size := by rw [hg]; rfl
  have g0 : gd_o g 0 = b := by rw [hg]; rfl
  have g1 : gd_o g 1 = o1 := by rw [hg]; rfl
  have g2 : gd_o g 2 = o2 := by rw [hg]; rfl
  have K : KK g s := by rw [hg]; exact kk _ _
  have nA : ∀ a : Nat, a < s.heap.size → ¬ gd_A g a := fun a ha z => by
    unfold gd_A at z
    rw [gb] at z
    omega
  have Z : ZZ g s s.heap := by
    unfold ZZ
    rw [g1, g2]
    exact ⟨va_Zof (args := #[Value.ref b]) (hts _ (by decide +kernel)) (hts _ (by decide +kernel)) p1 nA, va_Zof (args := #[Value.ref b]) (hts _ (by decide +kernel)) (hts _ (by decide +kernel)) p2 nA⟩
  clear hg
  have H0 : HR g (zh xs L cc4 cc6) s.heap := ⟨by rw [gb]; rfl, Nat.zero_le _, fun i hi => absurd hi (Nat.not_lt_zero i)⟩
  have O0 : OL g (zh xs L cc4 cc6) s s.heap := by
    intro j hj
    rw [gb]
    have : j = 0 ∨ j = 1 ∨ j = 2 := by omega
    rcases this with e | e | e
    · subst e; rw [g0]; exact ⟨hbl, rfl, hX⟩
    · subst e; rw [g1]; exact ⟨q1, rfl, r1⟩
    · subst e; rw [g2]; exact ⟨q2, rfl, r2⟩
  have F : ex_F mL_law g p s m #[Value.ref b] meth c := ⟨hx, hcode, hml, hown, T, hret, hlocks, hnm, K, Z, by rw [gb]; exact Nat.le_refl _⟩
  have ev : ([Value.ref 10000000] : List Value).map (cv g) = [Value.ref b] := by
    show [Value.ref (ad g 10000000)] = [Value.ref b]
    unfold ad
    rw [if_neg (by decide), show 10000000 - 10000000 = 0 from rfl, g0]
  have hl := lv_entry (([Value.ref 10000000] : List Value).map (cv g)) (n := 4) (by rw [ev]; show 1 ≤ 4; decide)
  rw [ex_lp_entry g [Value.ref 10000000] 0 rfl, ev] at hl
  rw [lg_entry_eq m [Value.ref b] 4]
  have Wx := law_ex (d := 0) (S := xs) (len := L) hL g p l e room_1 s m #[Value.ref b] below meth c s.heap [] 0 0 _ F H0 O0 va_S.rf (lv_has_skip hl) (by decide) (by decide) (by decide) (by decide)
  intro T0 hT0 X0
  obtain ⟨t, a1, o, b1, b2, ⟨r, h', e1, e2, -⟩, Lo, ⟨f1, f2, f3, f4, f5, f6, f7, f8⟩, b5⟩ := Wx T0 hT0 X0
  have eo : o = .returned (some (.int 1)) := by
    rw [e1, e2]
    rfl
  refine ⟨t, a1, o, b1, b2, eo, f1, f2, f3, f4, f5, f6, f7, fun a cell ha => ?_⟩
  obtain ⟨c', k1, k2, k3, k4⟩ := f8 a cell ha
  refine ⟨c', k1, k2, k3, fun i _ => k4 i (fun q => ?_)⟩
  have := b5 _ q
  exact nA a (Array.getElem?_eq_some_iff.mp ha).1 this
-- ===== YOUR PART ENDS =====
set_option maxHeartbeats 4000000 in
theorem lw_walk (l : Launch) (b : Addr) (xs : List Int32) : MetFree l x (headSpec (Jvm.Cond.code x code maxLocals ret :: tables_1) room_1) (lw_P b xs) (fun _ _ _ _ _ => True) lw_Q := by
  refine MetFree.of_bodyS (code := code) (maxLocals := maxLocals) (ret := ret) (by decide) ?_ ?_
  · intro args s m h hn
    obtain ⟨meth, c, h1, h2, h3, h4, h5, h6, -, -⟩ := Cond.code_spec hn (atoms_spec (ws := Jvm.Cond.code x code maxLocals ret :: tables_1) h _ List.mem_cons_self)
    exact ⟨meth, c, h1, h2, h3, h4, h5, h6⟩
  · intro p e s m args below meth c s₁ B hml0 hP _
    obtain ⟨rfl, hx, hbd, hgv⟩ := hP
    obtain ⟨scr, harrAt, hlist, hof, hsmall⟩ := hx
    obtain ⟨hcb, hkn, -, -⟩ := State.arrayAt?_spec harrAt
    have hown : s.vm.findClass R_law = some m.cls := findClass_of_methodNamed B.named
    have hts0 : ∀ c ∈ (Jvm.Cond.code x code maxLocals ret :: tables_1), c.before #[Value.ref b] s = true := atoms_spec (ws := Jvm.Cond.code x code maxLocals ret :: tables_1) B.pre
    have hts : ∀ w ∈ lw_tbl, w.before #[Value.ref b] s = true := k2_hts_sels lw_privs (fun w hw => hts0 w (List.mem_cons_of_mem _ hw)) lw_privs_ok
    have hml : c.maxLocals = 4 := B.maxLocals_eq (hts0 _ List.mem_cons_self)
    have X₀ : Stand p l e room_1 s m #[Value.ref b] below meth c s₁ [] 0 0 := Stand.of_body B
    have hh0 : s₁.heap = s.heap := by rw [B.state]; rfl
    have hsz : scr.slots.size = xs.length := by rw [← Array.length_toList, hlist, List.length_map]
    have hval : ∀ j : Nat, j < xs.length → scr.slots[j]? = some (.int (xs.getD j 0)) := fun j hj => by
      rw [← Array.getElem?_toList, hlist]
      simp [hj]
    have hbl : b < s.heap.size := (Array.getElem?_eq_some_iff.mp hcb).1
    have hX : va_X b xs.length (fun j => xs.getD j 0) s s.heap := ⟨scr, hcb, hof, hkn, hsz, hval⟩
    have K : W p l e room_1 s m #[Value.ref b] below meth c s₁.heap [] 0 0 (lw_Z below #[Value.ref b] s) (entryFrame m ([Value.ref b] : List Value).toArray 4) := by
      rw [hh0]
      exact whole_start l hbd ⟨B.exec, B.bytes, B.returns, hml, hown, hts, hX, hbl, B.notSynchronized, hgv, (name_of_methodNamed B.named B.method).1⟩
    obtain ⟨t, a1, o, b1, b2, b3⟩ := K s₁ rfl X₀
    exact ⟨t, o, a1, b1, b2, b3⟩
theorem lw_pre_spec {args : Array Value} {s : State} (h : (Jvm.Cond.and given_1 narrow_1).before args s = true) (hr : rest_1_c.before args s = true) : ∃ (b : Addr) (xs : List Int32), lw_P b xs args s := by
  have hs := flat_of_before _ h
  have hq := flat_of_before _ hr
  have hc : (Cond.count 1).before args s = true := hs _ (by decide +kernel)
  have harr : (Cond.arrayOf (.arg 0) .int).before args s = true := hs _ (by decide +kernel)
  have hle : (Cond.le (.length (.arg 0)) (.int 4096)).before args s = true := hs _ (by decide +kernel)
  have hlen : (Cond.isInt (.length (.arg 0))).before args s = true := hq _ (by decide +kernel)
  have hall : (Cond.all (.arg 0) (.isInt (.elem (.arg 0) (.index 0)))).before args s = true := hq _ (by decide +kernel)
  obtain ⟨b, xs, hb, hx⟩ := State.ints_of_pre rfl harr hlen hall
  have hsm : xs.length < 2 ^ 31 := hx.choose_spec.2.2.2
  have hev : (Term.length (.arg 0)).eval args s none [] s = some (.int xs.length.toInt32) := hx.length_eval hb
  have hv := Cond.le_ints hev (show (Term.int 4096).eval args s none [] s = some (.int 4096) from rfl)
  have hd : xs.length.toInt32 ≤ 4096 := by
    simpa [Cond.before, Cond.holds, hv] using hle
  have hN : xs.length ≤ 4096 := (Int32.ofNat_le_ofNat hsm (by decide)).mp (show Int32.ofNat xs.length ≤ Int32.ofNat 4096 from hd)
  exact ⟨b, xs, Cond.one_arg hc (show args[0]? = some (.ref b) from hb), hx, hN, h⟩
theorem lw_comes (l : Launch) : Comes l x (Jvm.Cond.code x code maxLocals ret :: tables_1) room_1 (fun tb e args s => Calls_1 tb e args s ∧ rest_1 tb e args s ∧ Pre_1 tb e args s)
    (fun _ _ args s o t => lw_Q args s o t) := by
  intro p e ha hc hk s m args below hf hfit hheap happ hpre
  obtain ⟨b, xs, hP⟩ := lw_pre_spec hpre.2.2 hpre.2.1
  obtain ⟨k, o, h1, h2, h3, hQ⟩ := lw_walk l b xs p e ha hc hk s m args below hf ((Spec.applies_iff_loose hf).mp happ).1 hP trivial
  exact ⟨k, o, h1, h2, h3, hQ⟩
theorem lw_frame {s t : State} {o : Outcome} {args : Array Value} (h : Framed s o t [] 600000 7302250) :
    Framed s o t (fieldLocs frame_1_writes args s ++ arrayLocs frame_1_arrays args s ++ staticLocs frame_1_statics s) 600000 7302250 := h
theorem lw_limb (L : Cond) (hL : ∀ (args : Array Value) (s t : State), L.after args s (.returned (some (.int 1))) t = true) :
    ArmFor flags0 classFile x code maxLocals ret World_1 tables_1 room_1 Calls_1 rest_1 Pre_1
      (fun tb e a s o t => postC L tb e a s o t ∧ Framed s o t (fieldLocs frame_1_writes a s ++ arrayLocs frame_1_arrays a s ++ staticLocs frame_1_statics s) 600000 7302250) := by
  intro l _ _ _ p e ha hc hk s m args below hf hfit hheap happ hpre
  obtain ⟨k, o, h1, h2, h3, rfl, hF⟩ := lw_comes l p e ha hc hk s m args below hf hfit hheap happ hpre
  exact ⟨k, _, h1, h2, h3, hL args s _, lw_frame hF⟩
theorem i_vc : Claimed_1_1 ∧ Claimed_1_2 := ⟨lw_limb limb_1_1 (fun args s t => by simp [limb_1_1, Cond.after, Cond.holds, Cond.value]), lw_limb limb_1_2 (fun args s t => Cond.after_iff.mpr (by
  first | (rw [show limb_1_2 = Cond.eq .result (.int 1) from rfl, Cond.eq_ints (x := 1) (y := 1) rfl rfl]; simp; done) | (simp [limb_1_2, Cond.value, Term.eval]; done)))⟩
