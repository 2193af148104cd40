theorem ce_v_f {g : GD} {h : AH} {a c k : Nat} {v : Int32} (hr : (kt_ty c k).isReference = false) (j : Nat) : updV (ce_v g h a c) k (cv g (.int v)) j = ce_v g (ah_sf h a k v) a c j := by
  unfold updV ce_v
  by_cases e : j = k
  · subst e
    rw [if_pos rfl, if_neg (by rw [hr]; decide)]
    show Value.int v = Value.int (u1 (ah_f h) a (u1 (ah_f h a) j v) a j)
    rw [u1_s, u1_s]
  · rw [if_neg e]
    show _ = if _ then cr g (ah_r h a j) else Value.int (u1 (ah_f h) a (u1 (ah_f h a) k v) a j)
    rw [u1_s, u1_n _ _ e]
theorem ce_v_r {g : GD} {h : AH} {a c k : Nat} {v : Option Nat} (hr : (kt_ty c k).isReference = true) (j : Nat) : updV (ce_v g h a c) k (cv g (rv v)) j = ce_v g (ah_sr h a k v) a c j := by
  unfold updV ce_v
  by_cases e : j = k
  · subst e
    rw [if_pos rfl, if_pos hr, cv_rv]
    show cr g v = cr g (u1 (ah_r h) a (u1 (ah_r h a) j v) a j)
    rw [u1_s, u1_s]
  · rw [if_neg e]
    show _ = if _ then cr g (u1 (ah_r h) a (u1 (ah_r h a) k v) a j) else Value.int (ah_f h a j)
    rw [u1_s, u1_n _ _ e]
/-- 0 or 1 -/
def bo (v : Int32) : Prop := v = 0 ∨ v = 1
/-- what the field or array of that type may take -/
def fo (ty : FieldType) (v : Int32) : Prop := ty = .int ∨ (ty = .boolean ∧ bo v)
theorem fo_n {ty : FieldType} {v : Int32} (h : fo ty v) : narrow ty (.int v) = .int v := by
  rcases h with rfl | ⟨rfl, rfl | rfl⟩ <;> rfl
theorem fo_f {ty : FieldType} {v : Int32} (h : fo ty v) : fits ty (.int v) = true := by
  rcases h with rfl | ⟨rfl, rfl | rfl⟩ <;> rfl
theorem rf_n {ty : FieldType} (hr : ty.isReference = true) (g : GD) (v : Option Nat) : narrow ty (cv g (rv v)) = cv g (rv v) ∧ fits ty (cv g (rv v)) = true := by
  rw [cv_rv]
  cases ty with
  | object n => cases v <;> exact ⟨rfl, rfl⟩
  | array n => cases v <;> exact ⟨rfl, rfl⟩
  | _ => cases hr
/-- which fields may be written here -/
def fw_ (M : MM) (idx c k : Nat) : Prop := (kt_T c k).2.2.2 = false ∨ (M.2.2.2.2 = "<init>" ∧ kt_R c = M.1 ∧ Cond.fieldLink M.1 idx (kt_R c) (kt_T c k).2.1 (kt_T c k).2.2.1 ∈ tw_l ∧ (kt_T c k).2.2.2 = true)
theorem arr_at {g : GD} {h : AH} {H : Heap} (hH : HR g h H) {a t n : Nat} (hx : ah_x h a t n) (ht : t ≤ 1) : H[ad g a]? = some (arrV (gd_a g t) n (fun j => .int (ah_i h a j))) := by
  have hce := hH.2.2 a hx.1
  unfold ce at hce
  rw [hx.2, if_pos ht] at hce
  rw [ad_lt g hH hx.1]
  exact hce
theorem arr_at2 {g : GD} {h : AH} {H : Heap} (hH : HR g h H) {a n : Nat} (hx : ah_x h a 2 n) : H[ad g a]? = some (arrV (gd_a g 2) n (fun j => .long (ah_l h a j))) := by
  have hce := hH.2.2 a hx.1
  unfold ce at hce
  rw [hx.2, if_neg (show ¬ (2 : Nat) ≤ 1 by decide), if_pos rfl] at hce
  rw [ad_lt g hH hx.1]
  exact hce
theorem arr_at3 {g : GD} {h : AH} {H : Heap} (hH : HR g h H) {a t n : Nat} (hx : ah_x h a t n) (h3 : 3 ≤ t) (ht : t < 20) : H[ad g a]? = some (arrV (gd_a g t) n (fun j => cr g (ah_q h a j))) := by
  have hce := hH.2.2 a hx.1
  unfold ce at hce
  rw [hx.2, if_neg (by show ¬ t ≤ 1; omega), if_neg (by show ¬ t = 2; omega), if_pos ht] at hce
  rw [ad_lt g hH hx.1]
  exact hce
/-- an array's cell is written: the others stay -/
theorem HR.arr {g : GD} {h h1 : AH} {H H1 : Heap} (hH : HR g h H) {a : Nat} (ha : a < ah_n h) (hn : ah_n h1 = ah_n h) (hk : ah_k h1 = ah_k h) (hf : ah_f h1 = ah_f h) (hr : ah_r h1 = ah_r h) (hi : ∀ b, b ≠ a → ah_i h1 b = ah_i h b) (hl : ∀ b, b ≠ a → ah_l h1 b = ah_l h b) (hq : ∀ b, b ≠ a → ah_q h1 b = ah_q h b)
    (hz : H1.size = H.size) (hs : ∀ x, x ≠ ad g a → H1[x]? = H[x]?) (ht : ce g h1 a H1) : HR g h1 H1 := by
  refine ⟨by rw [hz, hn]; exact hH.1, by rw [hn]; exact hH.2.1, fun i hi' => ?_⟩
  rw [hn] at hi'
  by_cases e : i = a
  · subst e
    exact ht
  · refine ce_same (ce_kept (hH.2.2 i hi') (hs _ ?_)) (by rw [hk]) (by rw [hf]) (by rw [hr]) (hi i e) (hl i e) (hq i e)
    rw [ad_lt g hH ha]
    omega
theorem OL.far {g : GD} {h h1 : AH} {s : State} {H H1 : Heap} (hH : HR g h H) (x : OL g h s H) {a : Nat} (ha : a < ah_n h) (hk : ah_k h1 = ah_k h) (hi : ∀ b, b ≠ a → ah_i h1 b = ah_i h b) (hs : ∀ q, q ≠ ad g a → H1[q]? = H[q]?) : OL g h1 s H1 := by
  refine (x.kept (fun q hq => hs q ?_)).same (fun j _ => by rw [hk]) (fun j _ => hi _ ?_)
  · rw [ad_lt g hH ha]; omega
  · have := hH.2.1; omega
/-- an int array that may be read: a cell of the walk, or an old one -/
def ah_ra (h : AH) (a n : Nat) : Prop := ah_x h a 0 n ∨ ∃ j, j < 3 ∧ a = 10000000 + j ∧ (ah_k h a).2 = n
section ARR
variable {M : MM} {d pc q bc bs : Nat} {ls st : List Value} {h : AH} {Q : Option Value → AH → Prop}
theorem ex_putf {idx a c k : Nat} {v : Int32} (hd : decode M.2.1 pc = .ok (.putfield idx, 3)) (hl : fl_ M.1 idx c k) (hw : fw_ M idx c k) (ho : ah_o h a c) (hv : fo (kt_ty c k) v) (kk : ex_G M d q ls st (ah_sf h a k v) bc bs Q) (hr : (kt_ty c k).isReference = false := by rfl) (hc : c < 13 := by decide) (hk : k < kt_N c := by decide) (hq : pc + 3 = q := by rfl) : ex_G M d pc ls (.int v :: .ref a :: st) h bc bs Q :=
  ex_putv (h1 := ah_sf h a k v) hd hl ho hc hk hw (fun _ => fo_n hv) (fun _ => fo_f hv) rfl rfl (fun b hb => u1_n _ _ hb) (fun _ _ => rfl) rfl rfl rfl (fun g j _ => ce_v_f hr j) hq kk
theorem ex_putq {idx a c k : Nat} {v : Option Nat} (hd : decode M.2.1 pc = .ok (.putfield idx, 3)) (hl : fl_ M.1 idx c k) (hw : fw_ M idx c k) (ho : ah_o h a c) (kk : ex_G M d q ls st (ah_sr h a k v) bc bs Q) (hr : (kt_ty c k).isReference = true := by rfl) (hc : c < 13 := by decide) (hk : k < kt_N c := by decide) (hq : pc + 3 = q := by rfl) : ex_G M d pc ls (rv v :: .ref a :: st) h bc bs Q :=
  ex_putv (h1 := ah_sr h a k v) hd hl ho hc hk hw (fun g => (rf_n hr g v).1) (fun g => (rf_n hr g v).2) rfl rfl (fun _ _ => rfl) (fun b hb => u1_n _ _ hb) rfl rfl rfl (fun g j _ => ce_v_r hr j) hq kk
theorem ex_putr {idx a c k x : Nat} (hd : decode M.2.1 pc = .ok (.putfield idx, 3)) (hl : fl_ M.1 idx c k) (hw : fw_ M idx c k) (ho : ah_o h a c) (kk : ex_G M d q ls st (ah_sr h a k (some x)) bc bs Q) (hr : (kt_ty c k).isReference = true := by rfl) (hc : c < 13 := by decide) (hk : k < kt_N c := by decide) (hq : pc + 3 = q := by rfl) : ex_G M d pc ls (.ref x :: .ref a :: st) h bc bs Q :=
  ex_putq (v := some x) hd hl hw ho kk hr hc hk hq
theorem ex_iaload {a n : Nat} {i : Int32} (hd : decode M.2.1 pc = .ok (.iaload, 1)) (hx : ah_ra h a n) (hi : ix i n) (kk : ex_G M d q ls (.int (ah_i h a i.toNatClampNeg) :: st) h bc bs Q) (hq : pc + 1 = q := by rfl) : ex_G M d pc ls (.int i :: .ref a :: st) h bc bs Q := by
  subst hq
  intro g p l e R s m args below meth cd H locs cells slots lsA f1 f2 f3 f4 f5 f6 f7 f8 f9
  have kk := kk g p l e R s m args below meth cd H locs cells slots lsA f1 f2 f3 f4 f5 f6 f7 f8 f9
  rcases hx with hx | ⟨j, hj, rfl, hn⟩
  · exact W.iald f1.1 f1.2.1 (arr_at f2 hx (by decide)) ((f1.2.2.2.2.2.2.2.2.1.2.1 0 (by decide)).1 n _) (fun z => by cases z) (by rw [arrV_size]; exact ix_in hi) (by rw [arrV_read _ _ (ix_lt hi)]; rfl) rfl rfl hd kk
  · obtain ⟨o1, o2, scr, o3, o4, o5, o6, o7⟩ := f3 j hj
    have ea : ad g (10000000 + j) = gd_o g j := by unfold ad; rw [if_neg (by omega), Nat.add_sub_cancel_left]
    rw [hn] at o6 o7
    exact W.iald f1.1 f1.2.1 (a := ad g (10000000 + j)) (by rw [ea]; exact o3) o4 o5 (by rw [o6]; exact ix_in hi) (o7 _ (ix_lt hi)) rfl rfl hd kk
theorem ex_alen {a n : Nat} (hd : decode M.2.1 pc = .ok (.arraylength, 1)) (hx : ah_ra h a n ∨ ah_x h a 2 n) (kk : ex_G M d q ls (.int (Int32.ofNat n) :: st) h bc bs Q) (hq : pc + 1 = q := by rfl) : ex_G M d pc ls (.ref a :: st) h bc bs Q := by
  subst hq
  intro g p l e R s m args below meth cd H locs cells slots lsA f1 f2 f3 f4 f5 f6 f7 f8 f9
  have kk := kk g p l e R s m args below meth cd H locs cells slots lsA f1 f2 f3 f4 f5 f6 f7 f8 f9
  rcases hx with (hx | ⟨j, hj, rfl, hn⟩) | hx
  · exact W.alen f1.1 f1.2.1 (arr_at f2 hx (by decide)) ((f1.2.2.2.2.2.2.2.2.1.2.1 0 (by decide)).1 n _) (by rw [arrV_size]) rfl rfl hd kk
  · obtain ⟨o1, o2, scr, o3, o4, o5, o6, o7⟩ := f3 j hj
    have ea : ad g (10000000 + j) = gd_o g j := by unfold ad; rw [if_neg (by omega), Nat.add_sub_cancel_left]
    rw [hn] at o6 o7
    exact W.alen f1.1 f1.2.1 (a := ad g (10000000 + j)) (by rw [ea]; exact o3) o4 (by rw [o6]) rfl rfl hd kk
  · exact W.alen f1.1 f1.2.1 (arr_at2 f2 hx) ((f1.2.2.2.2.2.2.2.2.1.2.1 2 (by decide)).1 n _) (by rw [arrV_size]) rfl rfl hd kk
theorem ex_baload {a n : Nat} {i : Int32} (hd : decode M.2.1 pc = .ok (.baload, 1)) (hx : ah_x h a 1 n) (hi : ix i n) (kk : ex_G M d q ls (.int (ah_i h a i.toNatClampNeg) :: st) h bc bs Q) (hq : pc + 1 = q := by rfl) : ex_G M d pc ls (.int i :: .ref a :: st) h bc bs Q := by
  subst hq
  intro g p l e R s m args below meth cd H locs cells slots lsA f1 f2 f3 f4 f5 f6 f7 f8 f9
  have kk := kk g p l e R s m args below meth cd H locs cells slots lsA f1 f2 f3 f4 f5 f6 f7 f8 f9
  exact W.zald f1.1 f1.2.1 (arr_at f2 hx (by decide)) ((f1.2.2.2.2.2.2.2.2.1.2.1 1 (by decide)).1 n _) (fun z => by cases z) (by rw [arrV_size]; exact ix_in hi) (by rw [arrV_read _ _ (ix_lt hi)]; rfl) rfl rfl hd kk
theorem ex_laload {a n : Nat} {i : Int32} (hd : decode M.2.1 pc = .ok (.laload, 1)) (hx : ah_x h a 2 n) (hi : ix i n) (kk : ex_G M d q ls (.long (ah_l h a i.toNatClampNeg) :: st) h bc bs Q) (hq : pc + 1 = q := by rfl) : ex_G M d pc ls (.int i :: .ref a :: st) h bc bs Q := by
  subst hq
  intro g p l e R s m args below meth cd H locs cells slots lsA f1 f2 f3 f4 f5 f6 f7 f8 f9
  have kk := kk g p l e R s m args below meth cd H locs cells slots lsA f1 f2 f3 f4 f5 f6 f7 f8 f9
  exact W.lald f1.1 f1.2.1 (arr_at2 f2 hx) ((f1.2.2.2.2.2.2.2.2.1.2.1 2 (by decide)).1 n _) (fun z => by cases z) (by rw [arrV_size]; exact ix_in hi) (by rw [arrV_read _ _ (ix_lt hi)]; rfl) rfl rfl hd kk
theorem at_ref {t : Nat} (h3 : 3 ≤ t) : (at_ty t).isReference = true := by
  match t, h3 with
  | 3, _ => rfl
  | t + 4, _ => rfl
theorem ex_aaloadq {a t n : Nat} {i : Int32} (hd : decode M.2.1 pc = .ok (.aaload, 1)) (hx : ah_x h a t n) (hi : ix i n) (kk : ex_G M d q ls (rv (ah_q h a i.toNatClampNeg) :: st) h bc bs Q) (ht : t ∈ at_tags ∧ 3 ≤ t := by decide) (hq : pc + 1 = q := by rfl) : ex_G M d pc ls (.int i :: .ref a :: st) h bc bs Q := by
  subst hq
  intro g p l e R s m args below meth cd H locs cells slots lsA f1 f2 f3 f4 f5 f6 f7 f8 f9
  have kk := kk g p l e R s m args below meth cd H locs cells slots lsA f1 f2 f3 f4 f5 f6 f7 f8 f9
  rw [List.map_cons, cv_rv] at kk
  have h20 : t < 20 := by
    have := ht.1
    simp only [at_tags, List.mem_cons, List.not_mem_nil, or_false] at this
    omega
  exact W.aald f1.1 f1.2.1 (arr_at3 f2 hx ht.2 h20) ((f1.2.2.2.2.2.2.2.2.1.2.1 t ht.1).1 n _) (at_ref ht.2) (fun z => by cases z) (by rw [arrV_size]; exact ix_in hi) (by rw [arrV_read _ _ (ix_lt hi)]) rfl rfl hd kk
theorem ex_aaload {a t n x : Nat} {i : Int32} (hd : decode M.2.1 pc = .ok (.aaload, 1)) (hx : ah_x h a t n) (hi : ix i n) (hy : ah_q h a i.toNatClampNeg = some x) (kk : ex_G M d q ls (.ref x :: st) h bc bs Q) (ht : t ∈ at_tags ∧ 3 ≤ t := by decide) (hq : pc + 1 = q := by rfl) : ex_G M d pc ls (.int i :: .ref a :: st) h bc bs Q :=
  ex_aaloadq hd hx hi (by rw [hy]; exact kk) ht hq
theorem ex_iastore {a n : Nat} {i v : Int32} (hd : decode M.2.1 pc = .ok (.iastore, 1)) (hx : ah_x h a 0 n) (hi : ix i n) (kk : ex_G M d q ls st (ah_si h a i.toNatClampNeg v) bc bs Q) (hq : pc + 1 = q := by rfl) : ex_G M d pc ls (.int v :: .int i :: .ref a :: st) h bc bs Q := by
  subst hq
  intro g p l e R s m args below meth cd H locs cells slots lsA f1 f2 f3 f4 f5 f6 f7 f8 f9
  refine W.iast f1.1 f1.2.1 (arr_at f2 hx (by decide)) ((f1.2.2.2.2.2.2.2.2.1.2.1 0 (by decide)).1 n _) (fun z => by cases z) (by rw [arrV_size]; exact ix_in hi) rfl rfl hd fun H1 e1 z1 o1 => ?_
  have hH1 : HR g (ah_si h a i.toNatClampNeg v) H1 := by
    refine HR.arr f2 hx.1 rfl rfl rfl rfl (fun b hb => u1_n _ _ hb) (fun _ _ => rfl) (fun _ _ => rfl) z1 o1 ?_
    unfold ce
    show if (ah_k h a).1 ≤ 1 then _ else _
    rw [hx.2, if_pos (show (0 : Nat) ≤ 1 by decide), ← ad_lt g f2 hx.1, e1, arrV_store]
    show some (arrV _ n _) = some (arrV (gd_a g (ah_k h a).1) (ah_k h a).2 _)
    rw [hx.2]
    congr 2
    funext j
    show updV _ _ _ j = Value.int (u1 (ah_i h) a (u1 (ah_i h a) i.toNatClampNeg v) a j)
    rw [u1_s]
    unfold updV u1
    split <;> rfl
  exact kk g p l e R s m args below meth cd H1 _ cells slots lsA f1 hH1 (OL.far f2 f3 hx.1 rfl (fun b hb => u1_n _ _ hb) o1) (f4.put z1 o1 (ad_A g f2 hx.1)) f5 f6 f7 f8 f9
theorem ex_bastore {a n : Nat} {i v : Int32} (hd : decode M.2.1 pc = .ok (.bastore, 1)) (hx : ah_x h a 1 n) (hi : ix i n) (hv : bo v) (kk : ex_G M d q ls st (ah_si h a i.toNatClampNeg v) bc bs Q) (hq : pc + 1 = q := by rfl) : ex_G M d pc ls (.int v :: .int i :: .ref a :: st) h bc bs Q := by
  subst hq
  intro g p l e R s m args below meth cd H locs cells slots lsA f1 f2 f3 f4 f5 f6 f7 f8 f9
  refine W.zast f1.1 f1.2.1 (arr_at f2 hx (by decide)) ((f1.2.2.2.2.2.2.2.2.1.2.1 1 (by decide)).1 n _) (fun z => by cases z) (by rw [arrV_size]; exact ix_in hi) rfl rfl hd fun H1 e1 z1 o1 => ?_
  have hH1 : HR g (ah_si h a i.toNatClampNeg v) H1 := by
    refine HR.arr f2 hx.1 rfl rfl rfl rfl (fun b hb => u1_n _ _ hb) (fun _ _ => rfl) (fun _ _ => rfl) z1 o1 ?_
    unfold ce
    show if (ah_k h a).1 ≤ 1 then _ else _
    rw [hx.2, if_pos (show (1 : Nat) ≤ 1 by decide), ← ad_lt g f2 hx.1, e1, arrV_store, fo_n (Or.inr ⟨rfl, hv⟩)]
    show some (arrV _ n _) = some (arrV (gd_a g (ah_k h a).1) (ah_k h a).2 _)
    rw [hx.2]
    congr 2
    funext j
    show updV _ _ _ j = Value.int (u1 (ah_i h) a (u1 (ah_i h a) i.toNatClampNeg v) a j)
    rw [u1_s]
    unfold updV u1
    split <;> rfl
  exact kk g p l e R s m args below meth cd H1 _ cells slots lsA f1 hH1 (OL.far f2 f3 hx.1 rfl (fun b hb => u1_n _ _ hb) o1) (f4.put z1 o1 (ad_A g f2 hx.1)) f5 f6 f7 f8 f9
theorem ex_lastore {a n : Nat} {i : Int32} {v : Int64} (hd : decode M.2.1 pc = .ok (.lastore, 1)) (hx : ah_x h a 2 n) (hi : ix i n) (kk : ex_G M d q ls st (ah_sl h a i.toNatClampNeg v) bc bs Q) (hq : pc + 1 = q := by rfl) : ex_G M d pc ls (.long v :: .int i :: .ref a :: st) h bc bs Q := by
  subst hq
  intro g p l e R s m args below meth cd H locs cells slots lsA f1 f2 f3 f4 f5 f6 f7 f8 f9
  refine W.last f1.1 f1.2.1 (arr_at2 f2 hx) ((f1.2.2.2.2.2.2.2.2.1.2.1 2 (by decide)).1 n _) (fun z => by cases z) (by rw [arrV_size]; exact ix_in hi) rfl rfl hd fun H1 e1 z1 o1 => ?_
  have hH1 : HR g (ah_sl h a i.toNatClampNeg v) H1 := by
    refine HR.arr f2 hx.1 rfl rfl rfl rfl (fun _ _ => rfl) (fun b hb => u1_n _ _ hb) (fun _ _ => rfl) z1 o1 ?_
    unfold ce
    show if (ah_k h a).1 ≤ 1 then _ else if (ah_k h a).1 = 2 then _ else _
    rw [hx.2, if_neg (show ¬ (2 : Nat) ≤ 1 by decide), if_pos (show (2 : Nat) = 2 from rfl), ← ad_lt g f2 hx.1, e1, arrV_store]
    show some (arrV _ n _) = some (arrV _ (ah_k h a).2 _)
    rw [hx.2]
    congr 2
    funext j
    show updV _ _ _ j = Value.long (u1 (ah_l h) a (u1 (ah_l h a) i.toNatClampNeg v) a j)
    rw [u1_s]
    unfold updV u1
    split <;> rfl
  exact kk g p l e R s m args below meth cd H1 _ cells slots lsA f1 hH1 (OL.far f2 f3 hx.1 rfl (fun _ _ => rfl) o1) (f4.put z1 o1 (ad_A g f2 hx.1)) f5 f6 f7 f8 f9
end ARR
