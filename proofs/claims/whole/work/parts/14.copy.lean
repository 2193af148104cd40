/-! System.arraycopy of ints, of longs. -/
section CPY
variable {M : MM} {d pc q bc bs : Nat} {ls st : List Value} {h : AH} {Q : Option Value → AH → Prop}
theorem ex_copyi {idx a0 a n0 n1 : Nat} {sp dp n : Int32} (hd : decode M.2.1 pc = .ok (.invokestatic idx, 3)) (hl : Cond.methodLink M.1 idx arraycopyName ∈ tw_l) (ha0 : ah_x h a0 0 n0) (ha1 : ah_x h a 0 n1) (h1 : 0 ≤ sp.toInt) (h2 : 0 ≤ dp.toInt) (h3 : 0 ≤ n.toInt) (h4 : sp.toInt + n.toInt ≤ n0) (h5 : dp.toInt + n.toInt ≤ n1)
    (kk : ex_G M d q ls st (ah_wi h a (va_cpy (ah_i h a0) (ah_i h a) sp.toNatClampNeg dp.toNatClampNeg n.toNatClampNeg)) bc bs Q) (hd1 : 1 ≤ d := by omega) (hs : (st.map fun v => v.category).sum ≤ 8 := by exact Nat.le_of_ble_eq_true rfl) (hq : pc + 3 = q := by rfl) : ex_G M d pc ls (.int n :: .int dp :: .ref a :: .int sp :: .ref a0 :: st) h bc bs Q := by
  subst hq
  intro g p l e R s m args below meth cd H locs cells slots lsA f1 f2 f3 f4 f5 f6 f7 f8 f9
  have nn : ∀ z : Int32, 0 ≤ z.toInt → z.toInt = (z.toNatClampNeg : Int) := by
    intro z hz
    show z.toInt = ((z.toInt.toNat : Nat) : Int)
    omega
  have ng : ∀ z : Int32, 0 ≤ z.toInt → ¬ z < 0 := fun z hz hlt => by
    have := Int32.lt_iff_toInt_lt.mp hlt
    rw [Int32.toInt_zero] at this
    omega
  have e1 := nn sp h1
  have e2 := nn dp h2
  have e3 := nn n h3
  intro T hT X
  have hc0 := arr_at f2 ha0 (by decide)
  have hc1 := arr_at f2 ha1 (by decide)
  have hK := (f1.2.2.2.2.2.2.2.2.1.2.1 0 (by decide)).1
  obtain ⟨-, k0, hk0, cm0, hkk0⟩ := hK n0 (fun j => .int (ah_i h a0 j))
  obtain ⟨-, k1, hk1, cm1, hkk1⟩ := hK n1 (fun j => .int (ah_i h a j))
  obtain ⟨vm', X', step⟩ := X.arraycopy f1.1 f1.2.2.2.1 (ex_tw f1 _ hl) (ex_tw f1 (.native arraycopyName) (by decide +kernel)) (ex_tw f1 (.static arraycopyName) (by decide +kernel)) (ex_tw f1 (.initialized "java/lang/System") (by decide +kernel)) (src := ad g a0) (dst := ad g a) (srcPos := sp) (destPos := dp) (n := n) (by rw [hT]; exact hc0) (by rw [hT]; exact hc1)
    (fun _ h => by cases h) (fun _ h => by cases h) (fun h => by cases h) (fun h => by cases h) hk0 hk1 hkk0 hkk1 (by rfl) (ng sp h1) (ng dp h2) (ng n h3)
    (by rw [arrV_size]; omega) (by rw [arrV_size]; omega)
    (fun vm₁ _ i hi => by
      have e : (arrV (gd_a g 0) n0 (fun j => Value.int (ah_i h a0 j))).slots.getD (sp.toNatClampNeg + i) .null = .int (ah_i h a0 (sp.toNatClampNeg + i)) := by
        rw [Array.getD_eq_getD_getElem?, arrV_read _ _ (by omega)]
        rfl
      rw [e]
      exact ⟨rfl, trivial⟩)
    (g := F0 m pc lsA ((.int n :: .int dp :: .ref a :: .int sp :: .ref a0 :: st).map (cv g))) rfl (by rw [f1.2.2.1]; exact f5.1) (rest := st.map (cv g)) rfl (by rw [f1.2.1]; exact hd) (by omega) (by have := cv_cats (g := g) hs; show 2 * 0 + _ + (nativeFrameWords "java/lang/System" "arraycopy" 5 + 11) ≤ _; have : nativeFrameWords "java/lang/System" "arraycopy" 5 ≤ 100 := (by decide +kernel); omega)
  have ec : copied (arrV (gd_a g 0) n0 (fun j => Value.int (ah_i h a0 j))) (arrV (gd_a g 0) n1 (fun j => Value.int (ah_i h a j))) sp dp n = arrV (gd_a g 0) n1 (fun j => .int (va_cpy (ah_i h a0) (ah_i h a) sp.toNatClampNeg dp.toNatClampNeg n.toNatClampNeg j)) := va_copied (fun z => .int z) _ _ _ _ (by omega)
  rw [ec] at X' step
  have hlt : ad g a < H.size := (Array.getElem?_eq_some_iff.mp hc1).1
  generalize hH1 : H.setIfInBounds (ad g a) (arrV (gd_a g 0) n1 (fun j => Value.int (va_cpy (ah_i h a0) (ah_i h a) sp.toNatClampNeg dp.toNatClampNeg n.toNatClampNeg j))) = H1
  have hheap : ((T.setVm vm').setCell (ad g a) (arrV (gd_a g 0) n1 (fun j => Value.int (va_cpy (ah_i h a0) (ah_i h a) sp.toNatClampNeg dp.toNatClampNeg n.toNatClampNeg j)))).heap = H1 := by rw [← hH1, ← hT]; rfl
  have oq : ∀ q : Nat, q ≠ ad g a → H1[q]? = H[q]? := fun q hq => by rw [← hH1]; simp [Array.getElem?_setIfInBounds, Ne.symm hq]
  have hself : H1[ad g a]? = some (arrV (gd_a g 0) n1 (fun j => Value.int (va_cpy (ah_i h a0) (ah_i h a) sp.toNatClampNeg dp.toNatClampNeg n.toNatClampNeg j))) := by rw [← hH1]; simp [Array.getElem?_setIfInBounds, hlt]
  have hz : H1.size = H.size := by rw [← hH1]; simp
  have hH2 : HR g (ah_wi h a (va_cpy (ah_i h a0) (ah_i h a) sp.toNatClampNeg dp.toNatClampNeg n.toNatClampNeg)) H1 := by
    refine HR.arr f2 ha1.1 rfl rfl rfl rfl (fun b hb => u1_n _ _ hb) (fun _ _ => rfl) (fun _ _ => rfl) hz oq ?_
    unfold ce
    show if (ah_k h a).1 ≤ 1 then _ else _
    rw [ha1.2, if_pos (show (0 : Nat) ≤ 1 by decide), ← ad_lt g f2 ha1.1, hself]
    show some (arrV _ n1 _) = some (arrV (gd_a g (ah_k h a).1) (ah_k h a).2 _)
    rw [ha1.2]
    congr 2
    funext j
    show Value.int _ = Value.int (u1 (ah_i h) a _ a j)
    rw [u1_s]
  obtain ⟨t, a1, b1⟩ := kk g p l e R s m args below meth cd H1 _ cells slots lsA f1 hH2 (OL.far f2 f3 ha1.1 rfl (fun b hb => u1_n _ _ hb) oq) ⟨by rw [hz]; exact f4.1, fun q g1 g2 => by
      rw [oq q (fun e => g2 (by rw [e]; exact ad_A g f2 ha1.1))]
      exact f4.2.1 q g1 g2, fun q hq => by
      rcases List.mem_append.mp hq with h | h
      · exact f4.2.2 q h
      · obtain ⟨z, -, hz⟩ := List.mem_map.mp h
        rw [← hz]
        exact ad_A g f2 ha1.1⟩ f5 f6 f7 f8 f9 _ hheap X'
  exact ⟨t, step t a1, b1⟩
theorem ex_copyl {idx a0 a n0 n1 : Nat} {sp dp n : Int32} (hd : decode M.2.1 pc = .ok (.invokestatic idx, 3)) (hl : Cond.methodLink M.1 idx arraycopyName ∈ tw_l) (ha0 : ah_x h a0 2 n0) (ha1 : ah_x h a 2 n1) (h1 : 0 ≤ sp.toInt) (h2 : 0 ≤ dp.toInt) (h3 : 0 ≤ n.toInt) (h4 : sp.toInt + n.toInt ≤ n0) (h5 : dp.toInt + n.toInt ≤ n1)
    (kk : ex_G M d q ls st (ah_wl h a (va_cpy (ah_l h a0) (ah_l h a) sp.toNatClampNeg dp.toNatClampNeg n.toNatClampNeg)) bc bs Q) (hd1 : 1 ≤ d := by omega) (hs : (st.map fun v => v.category).sum ≤ 8 := by exact Nat.le_of_ble_eq_true rfl) (hq : pc + 3 = q := by rfl) : ex_G M d pc ls (.int n :: .int dp :: .ref a :: .int sp :: .ref a0 :: st) h bc bs Q := by
  subst hq
  intro g p l e R s m args below meth cd H locs cells slots lsA f1 f2 f3 f4 f5 f6 f7 f8 f9
  have nn : ∀ z : Int32, 0 ≤ z.toInt → z.toInt = (z.toNatClampNeg : Int) := by
    intro z hz
    show z.toInt = ((z.toInt.toNat : Nat) : Int)
    omega
  have ng : ∀ z : Int32, 0 ≤ z.toInt → ¬ z < 0 := fun z hz hlt => by
    have := Int32.lt_iff_toInt_lt.mp hlt
    rw [Int32.toInt_zero] at this
    omega
  have e1 := nn sp h1
  have e2 := nn dp h2
  have e3 := nn n h3
  intro T hT X
  have hc0 := arr_at2 f2 ha0
  have hc1 := arr_at2 f2 ha1
  have hK := (f1.2.2.2.2.2.2.2.2.1.2.1 2 (by decide)).1
  obtain ⟨-, k0, hk0, cm0, hkk0⟩ := hK n0 (fun j => .long (ah_l h a0 j))
  obtain ⟨-, k1, hk1, cm1, hkk1⟩ := hK n1 (fun j => .long (ah_l h a j))
  obtain ⟨vm', X', step⟩ := X.arraycopy f1.1 f1.2.2.2.1 (ex_tw f1 _ hl) (ex_tw f1 (.native arraycopyName) (by decide +kernel)) (ex_tw f1 (.static arraycopyName) (by decide +kernel)) (ex_tw f1 (.initialized "java/lang/System") (by decide +kernel)) (src := ad g a0) (dst := ad g a) (srcPos := sp) (destPos := dp) (n := n) (by rw [hT]; exact hc0) (by rw [hT]; exact hc1)
    (fun _ h => by cases h) (fun _ h => by cases h) (fun h => by cases h) (fun h => by cases h) hk0 hk1 hkk0 hkk1 (by rfl) (ng sp h1) (ng dp h2) (ng n h3)
    (by rw [arrV_size]; omega) (by rw [arrV_size]; omega)
    (fun vm₁ _ i hi => by
      have e : (arrV (gd_a g 2) n0 (fun j => Value.long (ah_l h a0 j))).slots.getD (sp.toNatClampNeg + i) .null = .long (ah_l h a0 (sp.toNatClampNeg + i)) := by
        rw [Array.getD_eq_getD_getElem?, arrV_read _ _ (by omega)]
        rfl
      rw [e]
      exact ⟨rfl, trivial⟩)
    (g := F0 m pc lsA ((.int n :: .int dp :: .ref a :: .int sp :: .ref a0 :: st).map (cv g))) rfl (by rw [f1.2.2.1]; exact f5.1) (rest := st.map (cv g)) rfl (by rw [f1.2.1]; exact hd) (by omega) (by have := cv_cats (g := g) hs; show 2 * 0 + _ + (nativeFrameWords "java/lang/System" "arraycopy" 5 + 11) ≤ _; have : nativeFrameWords "java/lang/System" "arraycopy" 5 ≤ 100 := (by decide +kernel); omega)
  have ec : copied (arrV (gd_a g 2) n0 (fun j => Value.long (ah_l h a0 j))) (arrV (gd_a g 2) n1 (fun j => Value.long (ah_l h a j))) sp dp n = arrV (gd_a g 2) n1 (fun j => .long (va_cpy (ah_l h a0) (ah_l h a) sp.toNatClampNeg dp.toNatClampNeg n.toNatClampNeg j)) := va_copied (fun z => .long z) _ _ _ _ (by omega)
  rw [ec] at X' step
  have hlt : ad g a < H.size := (Array.getElem?_eq_some_iff.mp hc1).1
  generalize hH1 : H.setIfInBounds (ad g a) (arrV (gd_a g 2) n1 (fun j => Value.long (va_cpy (ah_l h a0) (ah_l h a) sp.toNatClampNeg dp.toNatClampNeg n.toNatClampNeg j))) = H1
  have hheap : ((T.setVm vm').setCell (ad g a) (arrV (gd_a g 2) n1 (fun j => Value.long (va_cpy (ah_l h a0) (ah_l h a) sp.toNatClampNeg dp.toNatClampNeg n.toNatClampNeg j)))).heap = H1 := by rw [← hH1, ← hT]; rfl
  have oq : ∀ q : Nat, q ≠ ad g a → H1[q]? = H[q]? := fun q hq => by rw [← hH1]; simp [Array.getElem?_setIfInBounds, Ne.symm hq]
  have hself : H1[ad g a]? = some (arrV (gd_a g 2) n1 (fun j => Value.long (va_cpy (ah_l h a0) (ah_l h a) sp.toNatClampNeg dp.toNatClampNeg n.toNatClampNeg j))) := by rw [← hH1]; simp [Array.getElem?_setIfInBounds, hlt]
  have hz : H1.size = H.size := by rw [← hH1]; simp
  have hH2 : HR g (ah_wl h a (va_cpy (ah_l h a0) (ah_l h a) sp.toNatClampNeg dp.toNatClampNeg n.toNatClampNeg)) H1 := by
    refine HR.arr f2 ha1.1 rfl rfl rfl rfl (fun _ _ => rfl) (fun b hb => u1_n _ _ hb) (fun _ _ => rfl) hz oq ?_
    unfold ce
    show if (ah_k h a).1 ≤ 1 then _ else if (ah_k h a).1 = 2 then _ else _
    rw [ha1.2, if_neg (show ¬ (2 : Nat) ≤ 1 by decide), if_pos (show (2 : Nat) = 2 from rfl), ← ad_lt g f2 ha1.1, hself]
    show some (arrV _ n1 _) = some (arrV _ (ah_k h a).2 _)
    rw [ha1.2]
    congr 2
    funext j
    show Value.long _ = Value.long (u1 (ah_l h) a _ a j)
    rw [u1_s]
  obtain ⟨t, a1, b1⟩ := kk g p l e R s m args below meth cd H1 _ cells slots lsA f1 hH2 (OL.far f2 f3 ha1.1 rfl (fun _ _ => rfl) oq) ⟨by rw [hz]; exact f4.1, fun q g1 g2 => by
      rw [oq q (fun e => g2 (by rw [e]; exact ad_A g f2 ha1.1))]
      exact f4.2.1 q g1 g2, fun q hq => by
      rcases List.mem_append.mp hq with h | h
      · exact f4.2.2 q h
      · obtain ⟨z, -, hz⟩ := List.mem_map.mp h
        rw [← hz]
        exact ad_A g f2 ha1.1⟩ f5 f6 f7 f8 f9 _ hheap X'
  exact ⟨t, step t a1, b1⟩
end CPY
