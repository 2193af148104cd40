/-! A row an instruction. -/
section ST
variable {M : MM} {d pc q bc bs : Nat} {ls st : List Value} {h : AH} {Q : Option Value → AH → Prop}
def im_ (x y : Int32) : Int32 := x - x / y * y
def lm_ (x y : Int64) : Int64 := x - x / y * y

theorem ex_iadd {x y : Int32} (hd : decode M.2.1 pc = .ok (.iadd, 1)) (k : ex_G M d q ls (.int (x + y) :: st) h bc bs Q) (hq : pc + 1 = q := by rfl) : ex_G M d pc ls (.int y :: .int x :: st) h bc bs Q := by
  subst hq
  intro g p l e R s m args below meth c H locs cells slots lsA f1 f2 f3 f4 f5 f6 f7 f8 f9
  exact lv_iadd f1.1 f1.2.1 hd (k g p l e R s m args below meth c H locs cells slots lsA f1 f2 f3 f4 f5 f6 f7 f8 f9)

theorem ex_isub {x y : Int32} (hd : decode M.2.1 pc = .ok (.isub, 1)) (k : ex_G M d q ls (.int (x - y) :: st) h bc bs Q) (hq : pc + 1 = q := by rfl) : ex_G M d pc ls (.int y :: .int x :: st) h bc bs Q := by
  subst hq
  intro g p l e R s m args below meth c H locs cells slots lsA f1 f2 f3 f4 f5 f6 f7 f8 f9
  exact lv_isub f1.1 f1.2.1 hd (k g p l e R s m args below meth c H locs cells slots lsA f1 f2 f3 f4 f5 f6 f7 f8 f9)

theorem ex_imul {x y : Int32} (hd : decode M.2.1 pc = .ok (.imul, 1)) (k : ex_G M d q ls (.int (x * y) :: st) h bc bs Q) (hq : pc + 1 = q := by rfl) : ex_G M d pc ls (.int y :: .int x :: st) h bc bs Q := by
  subst hq
  intro g p l e R s m args below meth c H locs cells slots lsA f1 f2 f3 f4 f5 f6 f7 f8 f9
  exact lv_imul f1.1 f1.2.1 hd (k g p l e R s m args below meth c H locs cells slots lsA f1 f2 f3 f4 f5 f6 f7 f8 f9)

theorem ex_iand {x y : Int32} (hd : decode M.2.1 pc = .ok (.iand, 1)) (k : ex_G M d q ls (.int (x &&& y) :: st) h bc bs Q) (hq : pc + 1 = q := by rfl) : ex_G M d pc ls (.int y :: .int x :: st) h bc bs Q := by
  subst hq
  intro g p l e R s m args below meth c H locs cells slots lsA f1 f2 f3 f4 f5 f6 f7 f8 f9
  exact lv_iand f1.1 f1.2.1 hd (k g p l e R s m args below meth c H locs cells slots lsA f1 f2 f3 f4 f5 f6 f7 f8 f9)

theorem ex_ior {x y : Int32} (hd : decode M.2.1 pc = .ok (.ior, 1)) (k : ex_G M d q ls (.int (x ||| y) :: st) h bc bs Q) (hq : pc + 1 = q := by rfl) : ex_G M d pc ls (.int y :: .int x :: st) h bc bs Q := by
  subst hq
  intro g p l e R s m args below meth c H locs cells slots lsA f1 f2 f3 f4 f5 f6 f7 f8 f9
  exact lv_ior f1.1 f1.2.1 hd (k g p l e R s m args below meth c H locs cells slots lsA f1 f2 f3 f4 f5 f6 f7 f8 f9)

theorem ex_ixor {x y : Int32} (hd : decode M.2.1 pc = .ok (.ixor, 1)) (k : ex_G M d q ls (.int (x ^^^ y) :: st) h bc bs Q) (hq : pc + 1 = q := by rfl) : ex_G M d pc ls (.int y :: .int x :: st) h bc bs Q := by
  subst hq
  intro g p l e R s m args below meth c H locs cells slots lsA f1 f2 f3 f4 f5 f6 f7 f8 f9
  exact lv_ixor f1.1 f1.2.1 hd (k g p l e R s m args below meth c H locs cells slots lsA f1 f2 f3 f4 f5 f6 f7 f8 f9)

theorem ex_ishl {x y : Int32} (hd : decode M.2.1 pc = .ok (.ishl, 1)) (k : ex_G M d q ls (.int (x <<< (y &&& 31)) :: st) h bc bs Q) (hq : pc + 1 = q := by rfl) : ex_G M d pc ls (.int y :: .int x :: st) h bc bs Q := by
  subst hq
  intro g p l e R s m args below meth c H locs cells slots lsA f1 f2 f3 f4 f5 f6 f7 f8 f9
  exact lv_ishl f1.1 f1.2.1 hd (k g p l e R s m args below meth c H locs cells slots lsA f1 f2 f3 f4 f5 f6 f7 f8 f9)

theorem ex_ishr {x y : Int32} (hd : decode M.2.1 pc = .ok (.ishr, 1)) (k : ex_G M d q ls (.int (x >>> (y &&& 31)) :: st) h bc bs Q) (hq : pc + 1 = q := by rfl) : ex_G M d pc ls (.int y :: .int x :: st) h bc bs Q := by
  subst hq
  intro g p l e R s m args below meth c H locs cells slots lsA f1 f2 f3 f4 f5 f6 f7 f8 f9
  exact lv_ishr f1.1 f1.2.1 hd (k g p l e R s m args below meth c H locs cells slots lsA f1 f2 f3 f4 f5 f6 f7 f8 f9)

theorem ex_idiv {x y : Int32} (hd : decode M.2.1 pc = .ok (.idiv, 1)) (hne : ¬ y = 0) (k : ex_G M d q ls (.int (x / y) :: st) h bc bs Q) (hq : pc + 1 = q := by rfl) : ex_G M d pc ls (.int y :: .int x :: st) h bc bs Q := by
  subst hq
  intro g p l e R s m args below meth c H locs cells slots lsA f1 f2 f3 f4 f5 f6 f7 f8 f9
  exact lv_idiv f1.1 f1.2.1 hd hne (k g p l e R s m args below meth c H locs cells slots lsA f1 f2 f3 f4 f5 f6 f7 f8 f9)

theorem ex_irem {x y : Int32} (hd : decode M.2.1 pc = .ok (.irem, 1)) (hne : ¬ y = 0) (k : ex_G M d q ls (.int (im_ x y) :: st) h bc bs Q) (hq : pc + 1 = q := by rfl) : ex_G M d pc ls (.int y :: .int x :: st) h bc bs Q := by
  subst hq
  intro g p l e R s m args below meth c H locs cells slots lsA f1 f2 f3 f4 f5 f6 f7 f8 f9
  exact lv_irem f1.1 f1.2.1 hd hne (k g p l e R s m args below meth c H locs cells slots lsA f1 f2 f3 f4 f5 f6 f7 f8 f9)

theorem ex_ineg {x : Int32} (hd : decode M.2.1 pc = .ok (.ineg, 1)) (k : ex_G M d q ls (.int (-x) :: st) h bc bs Q) (hq : pc + 1 = q := by rfl) : ex_G M d pc ls (.int x :: st) h bc bs Q := by
  subst hq
  intro g p l e R s m args below meth c H locs cells slots lsA f1 f2 f3 f4 f5 f6 f7 f8 f9
  exact lv_ineg f1.1 f1.2.1 hd (k g p l e R s m args below meth c H locs cells slots lsA f1 f2 f3 f4 f5 f6 f7 f8 f9)

theorem ex_ladd {x y : Int64} (hd : decode M.2.1 pc = .ok (.ladd, 1)) (k : ex_G M d q ls (.long (x + y) :: st) h bc bs Q) (hq : pc + 1 = q := by rfl) : ex_G M d pc ls (.long y :: .long x :: st) h bc bs Q := by
  subst hq
  intro g p l e R s m args below meth c H locs cells slots lsA f1 f2 f3 f4 f5 f6 f7 f8 f9
  exact lv_ladd f1.1 f1.2.1 hd (k g p l e R s m args below meth c H locs cells slots lsA f1 f2 f3 f4 f5 f6 f7 f8 f9)

theorem ex_lsub {x y : Int64} (hd : decode M.2.1 pc = .ok (.lsub, 1)) (k : ex_G M d q ls (.long (x - y) :: st) h bc bs Q) (hq : pc + 1 = q := by rfl) : ex_G M d pc ls (.long y :: .long x :: st) h bc bs Q := by
  subst hq
  intro g p l e R s m args below meth c H locs cells slots lsA f1 f2 f3 f4 f5 f6 f7 f8 f9
  exact lv_lsub f1.1 f1.2.1 hd (k g p l e R s m args below meth c H locs cells slots lsA f1 f2 f3 f4 f5 f6 f7 f8 f9)

theorem ex_lmul {x y : Int64} (hd : decode M.2.1 pc = .ok (.lmul, 1)) (k : ex_G M d q ls (.long (x * y) :: st) h bc bs Q) (hq : pc + 1 = q := by rfl) : ex_G M d pc ls (.long y :: .long x :: st) h bc bs Q := by
  subst hq
  intro g p l e R s m args below meth c H locs cells slots lsA f1 f2 f3 f4 f5 f6 f7 f8 f9
  exact lv_lmul f1.1 f1.2.1 hd (k g p l e R s m args below meth c H locs cells slots lsA f1 f2 f3 f4 f5 f6 f7 f8 f9)

theorem ex_land {x y : Int64} (hd : decode M.2.1 pc = .ok (.land, 1)) (k : ex_G M d q ls (.long (x &&& y) :: st) h bc bs Q) (hq : pc + 1 = q := by rfl) : ex_G M d pc ls (.long y :: .long x :: st) h bc bs Q := by
  subst hq
  intro g p l e R s m args below meth c H locs cells slots lsA f1 f2 f3 f4 f5 f6 f7 f8 f9
  exact lv_land f1.1 f1.2.1 hd (k g p l e R s m args below meth c H locs cells slots lsA f1 f2 f3 f4 f5 f6 f7 f8 f9)

theorem ex_lor {x y : Int64} (hd : decode M.2.1 pc = .ok (.lor, 1)) (k : ex_G M d q ls (.long (x ||| y) :: st) h bc bs Q) (hq : pc + 1 = q := by rfl) : ex_G M d pc ls (.long y :: .long x :: st) h bc bs Q := by
  subst hq
  intro g p l e R s m args below meth c H locs cells slots lsA f1 f2 f3 f4 f5 f6 f7 f8 f9
  exact lv_lor f1.1 f1.2.1 hd (k g p l e R s m args below meth c H locs cells slots lsA f1 f2 f3 f4 f5 f6 f7 f8 f9)

theorem ex_lneg {x : Int64} (hd : decode M.2.1 pc = .ok (.lneg, 1)) (k : ex_G M d q ls (.long (-x) :: st) h bc bs Q) (hq : pc + 1 = q := by rfl) : ex_G M d pc ls (.long x :: st) h bc bs Q := by
  subst hq
  intro g p l e R s m args below meth c H locs cells slots lsA f1 f2 f3 f4 f5 f6 f7 f8 f9
  exact lv_lneg f1.1 f1.2.1 hd (k g p l e R s m args below meth c H locs cells slots lsA f1 f2 f3 f4 f5 f6 f7 f8 f9)

theorem ex_lshl {x : Int64} {y : Int32} (hd : decode M.2.1 pc = .ok (.lshl, 1)) (k : ex_G M d q ls (.long (x <<< (y.toInt64 &&& 63)) :: st) h bc bs Q) (hq : pc + 1 = q := by rfl) : ex_G M d pc ls (.int y :: .long x :: st) h bc bs Q := by
  subst hq
  intro g p l e R s m args below meth c H locs cells slots lsA f1 f2 f3 f4 f5 f6 f7 f8 f9
  exact lv_lshl f1.1 f1.2.1 hd rfl (k g p l e R s m args below meth c H locs cells slots lsA f1 f2 f3 f4 f5 f6 f7 f8 f9)

theorem ex_lshr {x : Int64} {y : Int32} (hd : decode M.2.1 pc = .ok (.lshr, 1)) (k : ex_G M d q ls (.long (x >>> (y.toInt64 &&& 63)) :: st) h bc bs Q) (hq : pc + 1 = q := by rfl) : ex_G M d pc ls (.int y :: .long x :: st) h bc bs Q := by
  subst hq
  intro g p l e R s m args below meth c H locs cells slots lsA f1 f2 f3 f4 f5 f6 f7 f8 f9
  exact lv_lshr f1.1 f1.2.1 hd rfl (k g p l e R s m args below meth c H locs cells slots lsA f1 f2 f3 f4 f5 f6 f7 f8 f9)

theorem ex_i2l {x : Int32} (hd : decode M.2.1 pc = .ok (.i2l, 1)) (k : ex_G M d q ls (.long x.toInt64 :: st) h bc bs Q) (hq : pc + 1 = q := by rfl) : ex_G M d pc ls (.int x :: st) h bc bs Q := by
  subst hq
  intro g p l e R s m args below meth c H locs cells slots lsA f1 f2 f3 f4 f5 f6 f7 f8 f9
  exact lv_i2l f1.1 f1.2.1 hd rfl (k g p l e R s m args below meth c H locs cells slots lsA f1 f2 f3 f4 f5 f6 f7 f8 f9)

theorem ex_l2i {x : Int64} (hd : decode M.2.1 pc = .ok (.l2i, 1)) (k : ex_G M d q ls (.int x.toInt32 :: st) h bc bs Q) (hq : pc + 1 = q := by rfl) : ex_G M d pc ls (.long x :: st) h bc bs Q := by
  subst hq
  intro g p l e R s m args below meth c H locs cells slots lsA f1 f2 f3 f4 f5 f6 f7 f8 f9
  exact lv_l2i f1.1 f1.2.1 hd rfl (k g p l e R s m args below meth c H locs cells slots lsA f1 f2 f3 f4 f5 f6 f7 f8 f9)

theorem ex_iconst {n : Int} {v : Int32} (hd : decode M.2.1 pc = .ok (.iconst n, 1)) (hv : Int32.ofInt n = v) (k : ex_G M d q ls (.int v :: st) h bc bs Q) (hq : pc + 1 = q := by rfl) : ex_G M d pc ls (st) h bc bs Q := by
  subst hq
  intro g p l e R s m args below meth c H locs cells slots lsA f1 f2 f3 f4 f5 f6 f7 f8 f9
  exact lv_iconst f1.1 f1.2.1 hd hv (k g p l e R s m args below meth c H locs cells slots lsA f1 f2 f3 f4 f5 f6 f7 f8 f9)

theorem ex_bipush {n : Int} {v : Int32} (hd : decode M.2.1 pc = .ok (.bipush n, 2)) (hv : (Int8.ofInt n).toInt32 = v) (k : ex_G M d q ls (.int v :: st) h bc bs Q) (hq : pc + 2 = q := by rfl) : ex_G M d pc ls (st) h bc bs Q := by
  subst hq
  intro g p l e R s m args below meth c H locs cells slots lsA f1 f2 f3 f4 f5 f6 f7 f8 f9
  exact lv_bipush f1.1 f1.2.1 hd hv (k g p l e R s m args below meth c H locs cells slots lsA f1 f2 f3 f4 f5 f6 f7 f8 f9)

theorem ex_sipush {n : Int} {v : Int32} (hd : decode M.2.1 pc = .ok (.sipush n, 3)) (hv : (Int16.ofInt n).toInt32 = v) (k : ex_G M d q ls (.int v :: st) h bc bs Q) (hq : pc + 3 = q := by rfl) : ex_G M d pc ls (st) h bc bs Q := by
  subst hq
  intro g p l e R s m args below meth c H locs cells slots lsA f1 f2 f3 f4 f5 f6 f7 f8 f9
  exact lv_sipush f1.1 f1.2.1 hd hv (k g p l e R s m args below meth c H locs cells slots lsA f1 f2 f3 f4 f5 f6 f7 f8 f9)

theorem ex_lconst {n : Fin 2} {v : Int64} (hd : decode M.2.1 pc = .ok (.lconst n, 1)) (hv : Int64.ofNat (n : Nat) = v) (k : ex_G M d q ls (.long v :: st) h bc bs Q) (hq : pc + 1 = q := by rfl) : ex_G M d pc ls (st) h bc bs Q := by
  subst hq
  intro g p l e R s m args below meth c H locs cells slots lsA f1 f2 f3 f4 f5 f6 f7 f8 f9
  exact lv_lconst f1.1 f1.2.1 hd hv (k g p l e R s m args below meth c H locs cells slots lsA f1 f2 f3 f4 f5 f6 f7 f8 f9)

theorem ex_iload_n {n : Fin 4} {x : Int32} (hd : decode M.2.1 pc = .ok (.iload_n n, 1)) (hl : ls[(n : Nat)]? = some (.int x)) (k : ex_G M d q ls (.int x :: st) h bc bs Q) (hq : pc + 1 = q := by rfl) : ex_G M d pc ls (st) h bc bs Q := by
  subst hq
  intro g p l e R s m args below meth c H locs cells slots lsA f1 f2 f3 f4 f5 f6 f7 f8 f9
  exact lv_iload_n f1.1 f1.2.1 hd rfl (ex_lget f5 hl rfl) (k g p l e R s m args below meth c H locs cells slots lsA f1 f2 f3 f4 f5 f6 f7 f8 f9)

theorem ex_iload {n : Nat} {x : Int32} (hd : decode M.2.1 pc = .ok (.iload n, 2)) (hl : ls[n]? = some (.int x)) (k : ex_G M d q ls (.int x :: st) h bc bs Q) (hq : pc + 2 = q := by rfl) : ex_G M d pc ls (st) h bc bs Q := by
  subst hq
  intro g p l e R s m args below meth c H locs cells slots lsA f1 f2 f3 f4 f5 f6 f7 f8 f9
  exact lv_iload f1.1 f1.2.1 hd (ex_lget f5 hl rfl) (k g p l e R s m args below meth c H locs cells slots lsA f1 f2 f3 f4 f5 f6 f7 f8 f9)

theorem ex_lload_n {n : Fin 4} {x : Int64} (hd : decode M.2.1 pc = .ok (.lload_n n, 1)) (hl : ls[(n : Nat)]? = some (.long x)) (k : ex_G M d q ls (.long x :: st) h bc bs Q) (hq : pc + 1 = q := by rfl) : ex_G M d pc ls (st) h bc bs Q := by
  subst hq
  intro g p l e R s m args below meth c H locs cells slots lsA f1 f2 f3 f4 f5 f6 f7 f8 f9
  exact lv_lload_n f1.1 f1.2.1 hd rfl (ex_lget f5 hl rfl) (k g p l e R s m args below meth c H locs cells slots lsA f1 f2 f3 f4 f5 f6 f7 f8 f9)

theorem ex_lload {n : Nat} {x : Int64} (hd : decode M.2.1 pc = .ok (.lload n, 2)) (hl : ls[n]? = some (.long x)) (k : ex_G M d q ls (.long x :: st) h bc bs Q) (hq : pc + 2 = q := by rfl) : ex_G M d pc ls (st) h bc bs Q := by
  subst hq
  intro g p l e R s m args below meth c H locs cells slots lsA f1 f2 f3 f4 f5 f6 f7 f8 f9
  exact lv_lload f1.1 f1.2.1 hd (ex_lget f5 hl rfl) (k g p l e R s m args below meth c H locs cells slots lsA f1 f2 f3 f4 f5 f6 f7 f8 f9)

theorem ex_aload_n {n : Fin 4} {x : Nat} (hd : decode M.2.1 pc = .ok (.aload_n n, 1)) (hl : ls[(n : Nat)]? = some (.ref x)) (k : ex_G M d q ls (.ref x :: st) h bc bs Q) (hq : pc + 1 = q := by rfl) : ex_G M d pc ls (st) h bc bs Q := by
  subst hq
  intro g p l e R s m args below meth c H locs cells slots lsA f1 f2 f3 f4 f5 f6 f7 f8 f9
  exact lv_aload_n f1.1 f1.2.1 hd rfl (ex_lget f5 hl rfl) (k g p l e R s m args below meth c H locs cells slots lsA f1 f2 f3 f4 f5 f6 f7 f8 f9)

theorem ex_aload {n : Nat} {x : Nat} (hd : decode M.2.1 pc = .ok (.aload n, 2)) (hl : ls[n]? = some (.ref x)) (k : ex_G M d q ls (.ref x :: st) h bc bs Q) (hq : pc + 2 = q := by rfl) : ex_G M d pc ls (st) h bc bs Q := by
  subst hq
  intro g p l e R s m args below meth c H locs cells slots lsA f1 f2 f3 f4 f5 f6 f7 f8 f9
  exact lv_aload f1.1 f1.2.1 hd (ex_lget f5 hl rfl) (k g p l e R s m args below meth c H locs cells slots lsA f1 f2 f3 f4 f5 f6 f7 f8 f9)

theorem ex_istore_n {n : Fin 4} {ls' : List Value} {x : Int32} (hd : decode M.2.1 pc = .ok (.istore_n n, 1)) (hl : ls.set (n : Nat) (.int x) = ls') (k : ex_G M d q ls' st h bc bs Q) (hn : (n : Nat) < M.2.2.1 := by decide) (hb : ex_b1 ls (n : Nat) = true := by rfl) (hq : pc + 1 = q := by rfl) : ex_G M d pc ls (.int x :: st) h bc bs Q := by
  subst hq
  subst hl
  intro g p l e R s m args below meth c H locs cells slots lsA f1 f2 f3 f4 f5 f6 f7 f8 f9
  exact lv_istore_n f1.1 f1.2.1 hd rfl f5 hn rfl (fun lsB hB => k g p l e R s m args below meth c H locs cells slots lsB f1 f2 f3 f4 (ex_lset1 hb hB) f6 f7 f8 f9)

theorem ex_istore {n : Nat} {ls' : List Value} {x : Int32} (hd : decode M.2.1 pc = .ok (.istore n, 2)) (hl : ls.set n (.int x) = ls') (k : ex_G M d q ls' st h bc bs Q) (hn : n < M.2.2.1 := by decide) (hb : ex_b1 ls n = true := by rfl) (hq : pc + 2 = q := by rfl) : ex_G M d pc ls (.int x :: st) h bc bs Q := by
  subst hq
  subst hl
  intro g p l e R s m args below meth c H locs cells slots lsA f1 f2 f3 f4 f5 f6 f7 f8 f9
  exact lv_istore f1.1 f1.2.1 hd f5 hn rfl (fun lsB hB => k g p l e R s m args below meth c H locs cells slots lsB f1 f2 f3 f4 (ex_lset1 hb hB) f6 f7 f8 f9)

theorem ex_lstore_n {n : Fin 4} {ls' : List Value} {x : Int64} (hd : decode M.2.1 pc = .ok (.lstore_n n, 1)) (hl : (ls.set (n : Nat) (.long x)).set ((n : Nat) + 1) (.retAddr 0) = ls') (k : ex_G M d q ls' st h bc bs Q) (hn : (n : Nat) + 1 < M.2.2.1 := by decide) (hb : ex_b1 ls (n : Nat) = true := by rfl) (hq : pc + 1 = q := by rfl) : ex_G M d pc ls (.long x :: st) h bc bs Q := by
  subst hq
  subst hl
  intro g p l e R s m args below meth c H locs cells slots lsA f1 f2 f3 f4 f5 f6 f7 f8 f9
  exact lv_lstore_n f1.1 f1.2.1 hd rfl f5 hn rfl (fun lsB hB => k g p l e R s m args below meth c H locs cells slots lsB f1 f2 f3 f4 (ex_lset2 hb hB) f6 f7 f8 f9)

theorem ex_lstore {n : Nat} {ls' : List Value} {x : Int64} (hd : decode M.2.1 pc = .ok (.lstore n, 2)) (hl : (ls.set n (.long x)).set (n + 1) (.retAddr 0) = ls') (k : ex_G M d q ls' st h bc bs Q) (hn : n + 1 < M.2.2.1 := by decide) (hb : ex_b1 ls n = true := by rfl) (hq : pc + 2 = q := by rfl) : ex_G M d pc ls (.long x :: st) h bc bs Q := by
  subst hq
  subst hl
  intro g p l e R s m args below meth c H locs cells slots lsA f1 f2 f3 f4 f5 f6 f7 f8 f9
  exact lv_lstore f1.1 f1.2.1 hd f5 hn rfl (fun lsB hB => k g p l e R s m args below meth c H locs cells slots lsB f1 f2 f3 f4 (ex_lset2 hb hB) f6 f7 f8 f9)

theorem ex_astore_n {n : Fin 4} {ls' : List Value} {x : Nat} (hd : decode M.2.1 pc = .ok (.astore_n n, 1)) (hl : ls.set (n : Nat) (.ref x) = ls') (k : ex_G M d q ls' st h bc bs Q) (hn : (n : Nat) < M.2.2.1 := by decide) (hb : ex_b1 ls (n : Nat) = true := by rfl) (hq : pc + 1 = q := by rfl) : ex_G M d pc ls (.ref x :: st) h bc bs Q := by
  subst hq
  subst hl
  intro g p l e R s m args below meth c H locs cells slots lsA f1 f2 f3 f4 f5 f6 f7 f8 f9
  exact lv_astore_n f1.1 f1.2.1 hd rfl f5 hn rfl (fun lsB hB => k g p l e R s m args below meth c H locs cells slots lsB f1 f2 f3 f4 (ex_lset1 hb hB) f6 f7 f8 f9)

theorem ex_astore {n : Nat} {ls' : List Value} {x : Nat} (hd : decode M.2.1 pc = .ok (.astore n, 2)) (hl : ls.set n (.ref x) = ls') (k : ex_G M d q ls' st h bc bs Q) (hn : n < M.2.2.1 := by decide) (hb : ex_b1 ls n = true := by rfl) (hq : pc + 2 = q := by rfl) : ex_G M d pc ls (.ref x :: st) h bc bs Q := by
  subst hq
  subst hl
  intro g p l e R s m args below meth c H locs cells slots lsA f1 f2 f3 f4 f5 f6 f7 f8 f9
  exact lv_astore f1.1 f1.2.1 hd f5 hn rfl (fun lsB hB => k g p l e R s m args below meth c H locs cells slots lsB f1 f2 f3 f4 (ex_lset1 hb hB) f6 f7 f8 f9)

theorem ex_dup {v : Value} (hd : decode M.2.1 pc = .ok (.dup, 1)) (hv : v.category = 1) (k : ex_G M d q ls (v :: v :: st) h bc bs Q) (hq : pc + 1 = q := by rfl) : ex_G M d pc ls (v :: st) h bc bs Q := by
  subst hq
  intro g p l e R s m args below meth c H locs cells slots lsA f1 f2 f3 f4 f5 f6 f7 f8 f9
  exact lv_dup f1.1 f1.2.1 hd (by rw [cv_cat]; exact hv) (k g p l e R s m args below meth c H locs cells slots lsA f1 f2 f3 f4 f5 f6 f7 f8 f9)

theorem ex_pop {v : Value} (hd : decode M.2.1 pc = .ok (.pop, 1)) (hv : v.category = 1) (k : ex_G M d q ls (st) h bc bs Q) (hq : pc + 1 = q := by rfl) : ex_G M d pc ls (v :: st) h bc bs Q := by
  subst hq
  intro g p l e R s m args below meth c H locs cells slots lsA f1 f2 f3 f4 f5 f6 f7 f8 f9
  exact lv_pop f1.1 f1.2.1 hd (by rw [cv_cat]; exact hv) (k g p l e R s m args below meth c H locs cells slots lsA f1 f2 f3 f4 f5 f6 f7 f8 f9)

theorem ex_dup2 {v w : Value} (hd : decode M.2.1 pc = .ok (.dup2, 1)) (hv : v.category = 1) (hw : w.category = 1) (k : ex_G M d q ls (v :: w :: v :: w :: st) h bc bs Q) (hq : pc + 1 = q := by rfl) : ex_G M d pc ls (v :: w :: st) h bc bs Q := by
  subst hq
  intro g p l e R s m args below meth c H locs cells slots lsA f1 f2 f3 f4 f5 f6 f7 f8 f9
  exact lv_dup2_11 f1.1 f1.2.1 hd (by rw [cv_cat]; exact hv) (by rw [cv_cat]; exact hw) (k g p l e R s m args below meth c H locs cells slots lsA f1 f2 f3 f4 f5 f6 f7 f8 f9)

theorem ex_dup_x1 {v w : Value} (hd : decode M.2.1 pc = .ok (.dup_x1, 1)) (hv : v.category = 1) (hw : w.category = 1) (k : ex_G M d q ls (v :: w :: v :: st) h bc bs Q) (hq : pc + 1 = q := by rfl) : ex_G M d pc ls (v :: w :: st) h bc bs Q := by
  subst hq
  intro g p l e R s m args below meth c H locs cells slots lsA f1 f2 f3 f4 f5 f6 f7 f8 f9
  exact lv_dup_x1 f1.1 f1.2.1 hd (by rw [cv_cat]; exact hv) (by rw [cv_cat]; exact hw) (k g p l e R s m args below meth c H locs cells slots lsA f1 f2 f3 f4 f5 f6 f7 f8 f9)

theorem ex_dup2_2 {v : Value} (hd : decode M.2.1 pc = .ok (.dup2, 1)) (hv : v.category = 2) (k : ex_G M d q ls (v :: v :: st) h bc bs Q) (hq : pc + 1 = q := by rfl) : ex_G M d pc ls (v :: st) h bc bs Q := by
  subst hq
  intro g p l e R s m args below meth c H locs cells slots lsA f1 f2 f3 f4 f5 f6 f7 f8 f9
  exact lv_dup2_2 f1.1 f1.2.1 hd (by rw [cv_cat]; exact hv) (k g p l e R s m args below meth c H locs cells slots lsA f1 f2 f3 f4 f5 f6 f7 f8 f9)

theorem ex_if_eq {x : Int32} {off : Int} {tgt : Nat} (hd : decode M.2.1 pc = .ok (.ifCond .eq off, 3)) (k1 : x = 0 → ex_G M d tgt ls st h bc bs Q) (k2 : ¬ x = 0 → ex_G M d q ls st h bc bs Q) (ht : (pc : Int) + off = (tgt : Int) := by decide) (hq : pc + 3 = q := by rfl) : ex_G M d pc ls (.int x :: st) h bc bs Q := by
  subst hq
  intro g p l e R s m args below meth c H locs cells slots lsA f1 f2 f3 f4 f5 f6 f7 f8 f9
  exact lv_if_eq f1.1 f1.2.1 hd ht (fun hc => k1 hc g p l e R s m args below meth c H locs cells slots lsA f1 f2 f3 f4 f5 f6 f7 f8 f9) (fun hc => k2 hc g p l e R s m args below meth c H locs cells slots lsA f1 f2 f3 f4 f5 f6 f7 f8 f9)

theorem ex_icmp_eq {x y : Int32} {off : Int} {tgt : Nat} (hd : decode M.2.1 pc = .ok (.if_icmp .eq off, 3)) (k1 : x = y → ex_G M d tgt ls st h bc bs Q) (k2 : ¬ x = y → ex_G M d q ls st h bc bs Q) (ht : (pc : Int) + off = (tgt : Int) := by decide) (hq : pc + 3 = q := by rfl) : ex_G M d pc ls (.int y :: .int x :: st) h bc bs Q := by
  subst hq
  intro g p l e R s m args below meth c H locs cells slots lsA f1 f2 f3 f4 f5 f6 f7 f8 f9
  exact lv_icmp_eq f1.1 f1.2.1 hd ht (fun hc => k1 hc g p l e R s m args below meth c H locs cells slots lsA f1 f2 f3 f4 f5 f6 f7 f8 f9) (fun hc => k2 hc g p l e R s m args below meth c H locs cells slots lsA f1 f2 f3 f4 f5 f6 f7 f8 f9)

theorem ex_if_ne {x : Int32} {off : Int} {tgt : Nat} (hd : decode M.2.1 pc = .ok (.ifCond .ne off, 3)) (k1 : ¬ x = 0 → ex_G M d tgt ls st h bc bs Q) (k2 : x = 0 → ex_G M d q ls st h bc bs Q) (ht : (pc : Int) + off = (tgt : Int) := by decide) (hq : pc + 3 = q := by rfl) : ex_G M d pc ls (.int x :: st) h bc bs Q := by
  subst hq
  intro g p l e R s m args below meth c H locs cells slots lsA f1 f2 f3 f4 f5 f6 f7 f8 f9
  exact lv_if_ne f1.1 f1.2.1 hd ht (fun hc => k1 hc g p l e R s m args below meth c H locs cells slots lsA f1 f2 f3 f4 f5 f6 f7 f8 f9) (fun hc => k2 hc g p l e R s m args below meth c H locs cells slots lsA f1 f2 f3 f4 f5 f6 f7 f8 f9)

theorem ex_icmp_ne {x y : Int32} {off : Int} {tgt : Nat} (hd : decode M.2.1 pc = .ok (.if_icmp .ne off, 3)) (k1 : ¬ x = y → ex_G M d tgt ls st h bc bs Q) (k2 : x = y → ex_G M d q ls st h bc bs Q) (ht : (pc : Int) + off = (tgt : Int) := by decide) (hq : pc + 3 = q := by rfl) : ex_G M d pc ls (.int y :: .int x :: st) h bc bs Q := by
  subst hq
  intro g p l e R s m args below meth c H locs cells slots lsA f1 f2 f3 f4 f5 f6 f7 f8 f9
  exact lv_icmp_ne f1.1 f1.2.1 hd ht (fun hc => k1 hc g p l e R s m args below meth c H locs cells slots lsA f1 f2 f3 f4 f5 f6 f7 f8 f9) (fun hc => k2 hc g p l e R s m args below meth c H locs cells slots lsA f1 f2 f3 f4 f5 f6 f7 f8 f9)

theorem ex_if_lt {x : Int32} {off : Int} {tgt : Nat} (hd : decode M.2.1 pc = .ok (.ifCond .lt off, 3)) (k1 : x < 0 → ex_G M d tgt ls st h bc bs Q) (k2 : ¬ x < 0 → ex_G M d q ls st h bc bs Q) (ht : (pc : Int) + off = (tgt : Int) := by decide) (hq : pc + 3 = q := by rfl) : ex_G M d pc ls (.int x :: st) h bc bs Q := by
  subst hq
  intro g p l e R s m args below meth c H locs cells slots lsA f1 f2 f3 f4 f5 f6 f7 f8 f9
  exact lv_if_lt f1.1 f1.2.1 hd ht (fun hc => k1 hc g p l e R s m args below meth c H locs cells slots lsA f1 f2 f3 f4 f5 f6 f7 f8 f9) (fun hc => k2 hc g p l e R s m args below meth c H locs cells slots lsA f1 f2 f3 f4 f5 f6 f7 f8 f9)

theorem ex_icmp_lt {x y : Int32} {off : Int} {tgt : Nat} (hd : decode M.2.1 pc = .ok (.if_icmp .lt off, 3)) (k1 : x < y → ex_G M d tgt ls st h bc bs Q) (k2 : ¬ x < y → ex_G M d q ls st h bc bs Q) (ht : (pc : Int) + off = (tgt : Int) := by decide) (hq : pc + 3 = q := by rfl) : ex_G M d pc ls (.int y :: .int x :: st) h bc bs Q := by
  subst hq
  intro g p l e R s m args below meth c H locs cells slots lsA f1 f2 f3 f4 f5 f6 f7 f8 f9
  exact lv_icmp_lt f1.1 f1.2.1 hd ht (fun hc => k1 hc g p l e R s m args below meth c H locs cells slots lsA f1 f2 f3 f4 f5 f6 f7 f8 f9) (fun hc => k2 hc g p l e R s m args below meth c H locs cells slots lsA f1 f2 f3 f4 f5 f6 f7 f8 f9)

theorem ex_if_ge {x : Int32} {off : Int} {tgt : Nat} (hd : decode M.2.1 pc = .ok (.ifCond .ge off, 3)) (k1 : 0 ≤ x → ex_G M d tgt ls st h bc bs Q) (k2 : ¬ 0 ≤ x → ex_G M d q ls st h bc bs Q) (ht : (pc : Int) + off = (tgt : Int) := by decide) (hq : pc + 3 = q := by rfl) : ex_G M d pc ls (.int x :: st) h bc bs Q := by
  subst hq
  intro g p l e R s m args below meth c H locs cells slots lsA f1 f2 f3 f4 f5 f6 f7 f8 f9
  exact lv_if_ge f1.1 f1.2.1 hd ht (fun hc => k1 hc g p l e R s m args below meth c H locs cells slots lsA f1 f2 f3 f4 f5 f6 f7 f8 f9) (fun hc => k2 hc g p l e R s m args below meth c H locs cells slots lsA f1 f2 f3 f4 f5 f6 f7 f8 f9)

theorem ex_icmp_ge {x y : Int32} {off : Int} {tgt : Nat} (hd : decode M.2.1 pc = .ok (.if_icmp .ge off, 3)) (k1 : y ≤ x → ex_G M d tgt ls st h bc bs Q) (k2 : ¬ y ≤ x → ex_G M d q ls st h bc bs Q) (ht : (pc : Int) + off = (tgt : Int) := by decide) (hq : pc + 3 = q := by rfl) : ex_G M d pc ls (.int y :: .int x :: st) h bc bs Q := by
  subst hq
  intro g p l e R s m args below meth c H locs cells slots lsA f1 f2 f3 f4 f5 f6 f7 f8 f9
  exact lv_icmp_ge f1.1 f1.2.1 hd ht (fun hc => k1 hc g p l e R s m args below meth c H locs cells slots lsA f1 f2 f3 f4 f5 f6 f7 f8 f9) (fun hc => k2 hc g p l e R s m args below meth c H locs cells slots lsA f1 f2 f3 f4 f5 f6 f7 f8 f9)

theorem ex_if_gt {x : Int32} {off : Int} {tgt : Nat} (hd : decode M.2.1 pc = .ok (.ifCond .gt off, 3)) (k1 : 0 < x → ex_G M d tgt ls st h bc bs Q) (k2 : ¬ 0 < x → ex_G M d q ls st h bc bs Q) (ht : (pc : Int) + off = (tgt : Int) := by decide) (hq : pc + 3 = q := by rfl) : ex_G M d pc ls (.int x :: st) h bc bs Q := by
  subst hq
  intro g p l e R s m args below meth c H locs cells slots lsA f1 f2 f3 f4 f5 f6 f7 f8 f9
  exact lv_if_gt f1.1 f1.2.1 hd ht (fun hc => k1 hc g p l e R s m args below meth c H locs cells slots lsA f1 f2 f3 f4 f5 f6 f7 f8 f9) (fun hc => k2 hc g p l e R s m args below meth c H locs cells slots lsA f1 f2 f3 f4 f5 f6 f7 f8 f9)

theorem ex_icmp_gt {x y : Int32} {off : Int} {tgt : Nat} (hd : decode M.2.1 pc = .ok (.if_icmp .gt off, 3)) (k1 : y < x → ex_G M d tgt ls st h bc bs Q) (k2 : ¬ y < x → ex_G M d q ls st h bc bs Q) (ht : (pc : Int) + off = (tgt : Int) := by decide) (hq : pc + 3 = q := by rfl) : ex_G M d pc ls (.int y :: .int x :: st) h bc bs Q := by
  subst hq
  intro g p l e R s m args below meth c H locs cells slots lsA f1 f2 f3 f4 f5 f6 f7 f8 f9
  exact lv_icmp_gt f1.1 f1.2.1 hd ht (fun hc => k1 hc g p l e R s m args below meth c H locs cells slots lsA f1 f2 f3 f4 f5 f6 f7 f8 f9) (fun hc => k2 hc g p l e R s m args below meth c H locs cells slots lsA f1 f2 f3 f4 f5 f6 f7 f8 f9)

theorem ex_if_le {x : Int32} {off : Int} {tgt : Nat} (hd : decode M.2.1 pc = .ok (.ifCond .le off, 3)) (k1 : x ≤ 0 → ex_G M d tgt ls st h bc bs Q) (k2 : ¬ x ≤ 0 → ex_G M d q ls st h bc bs Q) (ht : (pc : Int) + off = (tgt : Int) := by decide) (hq : pc + 3 = q := by rfl) : ex_G M d pc ls (.int x :: st) h bc bs Q := by
  subst hq
  intro g p l e R s m args below meth c H locs cells slots lsA f1 f2 f3 f4 f5 f6 f7 f8 f9
  exact lv_if_le f1.1 f1.2.1 hd ht (fun hc => k1 hc g p l e R s m args below meth c H locs cells slots lsA f1 f2 f3 f4 f5 f6 f7 f8 f9) (fun hc => k2 hc g p l e R s m args below meth c H locs cells slots lsA f1 f2 f3 f4 f5 f6 f7 f8 f9)

theorem ex_icmp_le {x y : Int32} {off : Int} {tgt : Nat} (hd : decode M.2.1 pc = .ok (.if_icmp .le off, 3)) (k1 : x ≤ y → ex_G M d tgt ls st h bc bs Q) (k2 : ¬ x ≤ y → ex_G M d q ls st h bc bs Q) (ht : (pc : Int) + off = (tgt : Int) := by decide) (hq : pc + 3 = q := by rfl) : ex_G M d pc ls (.int y :: .int x :: st) h bc bs Q := by
  subst hq
  intro g p l e R s m args below meth c H locs cells slots lsA f1 f2 f3 f4 f5 f6 f7 f8 f9
  exact lv_icmp_le f1.1 f1.2.1 hd ht (fun hc => k1 hc g p l e R s m args below meth c H locs cells slots lsA f1 f2 f3 f4 f5 f6 f7 f8 f9) (fun hc => k2 hc g p l e R s m args below meth c H locs cells slots lsA f1 f2 f3 f4 f5 f6 f7 f8 f9)

theorem ex_goto {off : Int} {tgt : Nat} (hd : decode M.2.1 pc = .ok (.goto off, 3)) (k : ex_G M d tgt ls st h bc bs Q) (ht : (pc : Int) + off = (tgt : Int) := by decide) : ex_G M d pc ls st h bc bs Q := by
  intro g p l e R s m args below meth c H locs cells slots lsA f1 f2 f3 f4 f5 f6 f7 f8 f9
  exact lv_goto f1.1 f1.2.1 hd ht (k g p l e R s m args below meth c H locs cells slots lsA f1 f2 f3 f4 f5 f6 f7 f8 f9)

theorem ex_ifnull {r : Option Nat} {off : Int} {tgt : Nat} (hd : decode M.2.1 pc = .ok (.ifnull off, 3)) (k1 : r = none → ex_G M d tgt ls st h bc bs Q) (k2 : ∀ x, r = some x → ex_G M d q ls st h bc bs Q) (ht : (pc : Int) + off = (tgt : Int) := by decide) (hq : pc + 3 = q := by rfl) : ex_G M d pc ls (rv r :: st) h bc bs Q := by
  subst hq
  intro g p l e R s m args below meth c H locs cells slots lsA f1 f2 f3 f4 f5 f6 f7 f8 f9
  cases r with
  | none => exact lv_ifnullN f1.1 f1.2.1 hd ht (k1 rfl g p l e R s m args below meth c H locs cells slots lsA f1 f2 f3 f4 f5 f6 f7 f8 f9)
  | some x => exact lv_ifnull f1.1 f1.2.1 hd (k2 x rfl g p l e R s m args below meth c H locs cells slots lsA f1 f2 f3 f4 f5 f6 f7 f8 f9)

theorem ex_ifnonnull {r : Option Nat} {off : Int} {tgt : Nat} (hd : decode M.2.1 pc = .ok (.ifnonnull off, 3)) (k1 : ∀ x, r = some x → ex_G M d tgt ls st h bc bs Q) (k2 : r = none → ex_G M d q ls st h bc bs Q) (ht : (pc : Int) + off = (tgt : Int) := by decide) (hq : pc + 3 = q := by rfl) : ex_G M d pc ls (rv r :: st) h bc bs Q := by
  subst hq
  intro g p l e R s m args below meth c H locs cells slots lsA f1 f2 f3 f4 f5 f6 f7 f8 f9
  cases r with
  | none => exact lv_ifnonnullN f1.1 f1.2.1 hd (k2 rfl g p l e R s m args below meth c H locs cells slots lsA f1 f2 f3 f4 f5 f6 f7 f8 f9)
  | some x => exact lv_ifnonnull f1.1 f1.2.1 hd ht (k1 x rfl g p l e R s m args below meth c H locs cells slots lsA f1 f2 f3 f4 f5 f6 f7 f8 f9)

end ST
