/-! The law: a lemma for each call (written by wip/genlaw.py). -/
section LAWC
variable {d bc bs t len : Nat} {h h1 : AH} {Q : Option Value → AH → Prop} {S : Nat → Int32} {P : AH → Prop}
def SCR (h : AH) (S : Nat → Int32) (len t : Nat) : Prop := ah_k h 10000000 = (0, len) ∧ ah_i h 10000000 = S ∧ 8 * t + 8 ≤ len ∧ len ≤ 4096
theorem SCR_lk (x : SCR h S len t) (j : Nat) (hj : j < 8) : ld0 h 10000000 (nI (8 * t) + nI j) ∧ ah_i h 10000000 (Int32.toNatClampNeg (nI (8 * t) + nI j)) = S (8 * t + j) := by
  obtain ⟨x1, x2, x3, x4⟩ := x
  rw [nI_add, nI_clamp (by omega), x2]
  exact ⟨⟨len, Or.inr ⟨0, by decide, rfl, by rw [x1]⟩, (ix_nI (by omega)).mpr (by omega)⟩, rfl⟩
theorem SCR_lk1 (x : SCR h S len t) (ok : OLK h h1) (j : Nat) (hj : j < 8) : ld0 h1 10000000 (nI (8 * t) + nI j) ∧ ah_i h1 10000000 (Int32.toNatClampNeg (nI (8 * t) + nI j)) = S (8 * t + j) := by
  obtain ⟨x1, x2, x3, x4⟩ := x
  obtain ⟨o1, o2⟩ := ok 0 (by decide)
  have o1' : ah_k h1 10000000 = (0, len) := o1.trans x1
  have o3 : ah_i h1 10000000 (8 * t + j) = ah_i h 10000000 (8 * t + j) := o2 (8 * t + j) (by
    show 8 * t + j < (ah_k h 10000000).2
    rw [x1]
    show 8 * t + j < len
    omega)
  rw [nI_add, nI_clamp (by omega), o3, x2]
  exact ⟨⟨len, Or.inr ⟨0, by decide, rfl, by rw [o1']⟩, (ix_nI (by omega)).mpr (by omega)⟩, rfl⟩
theorem ex_ialdV {M : MM} {pc q a : Nat} {i x : Int32} {ls st : List Value} (hd : decode M.2.1 pc = .ok (.iaload, 1)) (hx : ld0 h a i) (hv : ah_i h a i.toNatClampNeg = x) (kk : ex_G M d q ls (.int x :: st) h bc bs Q) (hq : pc + 1 = q := by rfl) : ex_G M d pc ls (.int i :: .ref a :: st) h bc bs Q := by
  rw [← hv] at kk
  exact ex_iald hd hx kk hq
theorem law_i8 (t : Nat) : nI (8 * t) + Int32.ofInt 8 = nI (8 * (t + 1)) := nI_add (8 * t) 8
set_option maxRecDepth 100000 in
theorem LW_picture (o1 : ah_o h 0 11) (o2 : ah_o h 168 12) (sc : SCR h S len t) (w : ex_S yX11_picture mX11_picture (d + 3) [.ref 0] h 3 207 (fun r h1 => ∃ v : Int32, r = some (.int v) ∧ ex_S yX12_picture mX12_picture (d + 1) [.ref 168] h1 0 0 (fun r' h2 => r' = some (.int v) ∧ P h2))) (loop : ∀ h2, P h2 → ex_G mL_law (d + 21) 18 [.ref 10000000, .ref 0, .ref 168, .int (nI (8 * (t + 1)))] [] h2 bc bs Q) : ex_G mL_law (d + 21) 252 [.ref 10000000, .ref 0, .ref 168, .int (nI (8 * t))] [] h (bc + 3) (bs + 207) Q := by
  have lk := fun j hj => SCR_lk sc j hj
  refine ex_aload_n (q := 253) (x := 0) dL_law_252 rfl ?_
  refine ex_callVa (a2 := 168) (c2 := 12) (q := 256) (M := mL_law) (c := 11) (st := []) (bc := bc) (bs := bs) dL_law_253 rfl cl_L_13 wd_548 wd_549 o1 o2 w ?_
  rintro r h1 ⟨v, rfl, w⟩ ok
  have lk1 := fun j hj => SCR_lk1 sc ok j hj
  show ex_GK 168 12 mL_law (d + 21) 256 [.ref 10000000, .ref 0, .ref 168, .int (nI (8 * t))] [.int v] h1 bc bs Q
  refine ek_aload_n (q := 257) (x := 168) dL_law_256 rfl ?_
  refine ek_callV (a2 := 168) (c2 := 12) (q := 260) (M := mL_law) (st := [.int v]) (bc := bc) (bs := bs) dL_law_257 rfl cl_L_17 wd_1576 wd_1577 w ?_
  rintro r h2 ⟨rfl, dn⟩
  show ex_G mL_law (d + 21) 260 [.ref 10000000, .ref 0, .ref 168, .int (nI (8 * t))] [.int v, .int v] h2 bc bs Q
  refine ex_icmp_eq (tgt := 1783) (q := 263) dL_law_260 (fun _ => ?_) (fun c => absurd rfl c)
  refine ex_iinc (q := 1786) (x := nI (8 * t)) (v := nI (8 * (t + 1))) (ls' := [.ref 10000000, .ref 0, .ref 168, .int (nI (8 * (t + 1)))]) dL_law_1783 rfl (law_i8 t) rfl ?_
  exact ex_goto (tgt := 18) dL_law_1786 (loop h2 dn)
set_option maxRecDepth 100000 in
theorem LW_crossing (o1 : ah_o h 0 11) (o2 : ah_o h 168 12) (sc : SCR h S len t) (w : ex_S yX11_crossing mX11_crossing (d + 1) [.ref 0, .int (S (8 * t + 1)), .int (S (8 * t + 2)), .int (S (8 * t + 3)), .int (S (8 * t + 4)), .int (S (8 * t + 5))] h 0 0 (fun r h1 => ∃ v : Int32, r = some (.int v) ∧ ex_S yX12_crossing mX12_crossing (d + 2) [.ref 168, .int (S (8 * t + 1)), .int (S (8 * t + 2)), .int (S (8 * t + 3)), .int (S (8 * t + 4)), .int (S (8 * t + 5))] h1 0 0 (fun r' h2 => r' = some (.int v) ∧ P h2))) (loop : ∀ h2, P h2 → ex_G mL_law (d + 21) 18 [.ref 10000000, .ref 0, .ref 168, .int (nI (8 * (t + 1)))] [] h2 bc bs Q) : ex_G mL_law (d + 21) 265 [.ref 10000000, .ref 0, .ref 168, .int (nI (8 * t))] [] h bc bs Q := by
  have lk := fun j hj => SCR_lk sc j hj
  refine ex_aload_n (q := 266) (x := 0) dL_law_265 rfl ?_
  refine ex_aload_n (q := 267) (x := 10000000) dL_law_266 rfl ?_
  refine ex_iload_n (q := 268) (x := nI (8 * t)) dL_law_267 rfl ?_
  refine ex_iconst (q := 269) (v := 1) dL_law_268 (by decide) ?_
  refine ex_iadd (q := 270) dL_law_269 ?_
  refine ex_ialdV (q := 271) dL_law_270 (lk 1 (by decide)).1 (lk 1 (by decide)).2 ?_
  refine ex_aload_n (q := 272) (x := 10000000) dL_law_271 rfl ?_
  refine ex_iload_n (q := 273) (x := nI (8 * t)) dL_law_272 rfl ?_
  refine ex_iconst (q := 274) (v := 2) dL_law_273 (by decide) ?_
  refine ex_iadd (q := 275) dL_law_274 ?_
  refine ex_ialdV (q := 276) dL_law_275 (lk 2 (by decide)).1 (lk 2 (by decide)).2 ?_
  refine ex_aload_n (q := 277) (x := 10000000) dL_law_276 rfl ?_
  refine ex_iload_n (q := 278) (x := nI (8 * t)) dL_law_277 rfl ?_
  refine ex_iconst (q := 279) (v := 3) dL_law_278 (by decide) ?_
  refine ex_iadd (q := 280) dL_law_279 ?_
  refine ex_ialdV (q := 281) dL_law_280 (lk 3 (by decide)).1 (lk 3 (by decide)).2 ?_
  refine ex_aload_n (q := 282) (x := 10000000) dL_law_281 rfl ?_
  refine ex_iload_n (q := 283) (x := nI (8 * t)) dL_law_282 rfl ?_
  refine ex_iconst (q := 284) (v := 4) dL_law_283 (by decide) ?_
  refine ex_iadd (q := 285) dL_law_284 ?_
  refine ex_ialdV (q := 286) dL_law_285 (lk 4 (by decide)).1 (lk 4 (by decide)).2 ?_
  refine ex_aload_n (q := 287) (x := 10000000) dL_law_286 rfl ?_
  refine ex_iload_n (q := 288) (x := nI (8 * t)) dL_law_287 rfl ?_
  refine ex_iconst (q := 289) (v := 5) dL_law_288 (by decide) ?_
  refine ex_iadd (q := 290) dL_law_289 ?_
  refine ex_ialdV (q := 291) dL_law_290 (lk 5 (by decide)).1 (lk 5 (by decide)).2 ?_
  refine ex_callVa (a2 := 168) (c2 := 12) (q := 294) (M := mL_law) (c := 11) (st := []) (bc := bc) (bs := bs) dL_law_291 rfl cl_L_18 wd_579 wd_580 o1 o2 w ?_
  rintro r h1 ⟨v, rfl, w⟩ ok
  have lk1 := fun j hj => SCR_lk1 sc ok j hj
  show ex_GK 168 12 mL_law (d + 21) 294 [.ref 10000000, .ref 0, .ref 168, .int (nI (8 * t))] [.int v] h1 bc bs Q
  refine ek_aload_n (q := 295) (x := 168) dL_law_294 rfl ?_
  refine ek_aload_n (q := 296) (x := 10000000) dL_law_295 rfl ?_
  refine ek_iload_n (q := 297) (x := nI (8 * t)) dL_law_296 rfl ?_
  refine ek_iconst (q := 298) (v := 1) dL_law_297 (by decide) ?_
  refine ek_iadd (q := 299) dL_law_298 ?_
  refine ek_iald (q := 300) dL_law_299 (lk1 1 (by decide)).1 (lk1 1 (by decide)).2 ?_
  refine ek_aload_n (q := 301) (x := 10000000) dL_law_300 rfl ?_
  refine ek_iload_n (q := 302) (x := nI (8 * t)) dL_law_301 rfl ?_
  refine ek_iconst (q := 303) (v := 2) dL_law_302 (by decide) ?_
  refine ek_iadd (q := 304) dL_law_303 ?_
  refine ek_iald (q := 305) dL_law_304 (lk1 2 (by decide)).1 (lk1 2 (by decide)).2 ?_
  refine ek_aload_n (q := 306) (x := 10000000) dL_law_305 rfl ?_
  refine ek_iload_n (q := 307) (x := nI (8 * t)) dL_law_306 rfl ?_
  refine ek_iconst (q := 308) (v := 3) dL_law_307 (by decide) ?_
  refine ek_iadd (q := 309) dL_law_308 ?_
  refine ek_iald (q := 310) dL_law_309 (lk1 3 (by decide)).1 (lk1 3 (by decide)).2 ?_
  refine ek_aload_n (q := 311) (x := 10000000) dL_law_310 rfl ?_
  refine ek_iload_n (q := 312) (x := nI (8 * t)) dL_law_311 rfl ?_
  refine ek_iconst (q := 313) (v := 4) dL_law_312 (by decide) ?_
  refine ek_iadd (q := 314) dL_law_313 ?_
  refine ek_iald (q := 315) dL_law_314 (lk1 4 (by decide)).1 (lk1 4 (by decide)).2 ?_
  refine ek_aload_n (q := 316) (x := 10000000) dL_law_315 rfl ?_
  refine ek_iload_n (q := 317) (x := nI (8 * t)) dL_law_316 rfl ?_
  refine ek_iconst (q := 318) (v := 5) dL_law_317 (by decide) ?_
  refine ek_iadd (q := 319) dL_law_318 ?_
  refine ek_iald (q := 320) dL_law_319 (lk1 5 (by decide)).1 (lk1 5 (by decide)).2 ?_
  refine ek_callV (a2 := 168) (c2 := 12) (q := 323) (M := mL_law) (st := [.int v]) (bc := bc) (bs := bs) dL_law_320 rfl cl_L_22 wd_1588 wd_1589 w ?_
  rintro r h2 ⟨rfl, dn⟩
  show ex_G mL_law (d + 21) 323 [.ref 10000000, .ref 0, .ref 168, .int (nI (8 * t))] [.int v, .int v] h2 bc bs Q
  refine ex_icmp_eq (tgt := 1783) (q := 326) dL_law_323 (fun _ => ?_) (fun c => absurd rfl c)
  refine ex_iinc (q := 1786) (x := nI (8 * t)) (v := nI (8 * (t + 1))) (ls' := [.ref 10000000, .ref 0, .ref 168, .int (nI (8 * (t + 1)))]) dL_law_1783 rfl (law_i8 t) rfl ?_
  exact ex_goto (tgt := 18) dL_law_1786 (loop h2 dn)
set_option maxRecDepth 100000 in
theorem LW_row (o1 : ah_o h 0 11) (o2 : ah_o h 168 12) (sc : SCR h S len t) (w : ex_S yX11_row mX11_row (d + 2) [.ref 0, .int (S (8 * t + 1)), .int (S (8 * t + 2)), .int (S (8 * t + 3))] h 0 0 (fun r h1 => ∃ v : Int32, r = some (.int v) ∧ ex_S yX12_row mX12_row (d + 2) [.ref 168, .int (S (8 * t + 1)), .int (S (8 * t + 2)), .int (S (8 * t + 3))] h1 0 0 (fun r' h2 => r' = some (.int v) ∧ P h2))) (loop : ∀ h2, P h2 → ex_G mL_law (d + 21) 18 [.ref 10000000, .ref 0, .ref 168, .int (nI (8 * (t + 1)))] [] h2 bc bs Q) : ex_G mL_law (d + 21) 328 [.ref 10000000, .ref 0, .ref 168, .int (nI (8 * t))] [] h bc bs Q := by
  have lk := fun j hj => SCR_lk sc j hj
  refine ex_aload_n (q := 329) (x := 0) dL_law_328 rfl ?_
  refine ex_aload_n (q := 330) (x := 10000000) dL_law_329 rfl ?_
  refine ex_iload_n (q := 331) (x := nI (8 * t)) dL_law_330 rfl ?_
  refine ex_iconst (q := 332) (v := 1) dL_law_331 (by decide) ?_
  refine ex_iadd (q := 333) dL_law_332 ?_
  refine ex_ialdV (q := 334) dL_law_333 (lk 1 (by decide)).1 (lk 1 (by decide)).2 ?_
  refine ex_aload_n (q := 335) (x := 10000000) dL_law_334 rfl ?_
  refine ex_iload_n (q := 336) (x := nI (8 * t)) dL_law_335 rfl ?_
  refine ex_iconst (q := 337) (v := 2) dL_law_336 (by decide) ?_
  refine ex_iadd (q := 338) dL_law_337 ?_
  refine ex_ialdV (q := 339) dL_law_338 (lk 2 (by decide)).1 (lk 2 (by decide)).2 ?_
  refine ex_aload_n (q := 340) (x := 10000000) dL_law_339 rfl ?_
  refine ex_iload_n (q := 341) (x := nI (8 * t)) dL_law_340 rfl ?_
  refine ex_iconst (q := 342) (v := 3) dL_law_341 (by decide) ?_
  refine ex_iadd (q := 343) dL_law_342 ?_
  refine ex_ialdV (q := 344) dL_law_343 (lk 3 (by decide)).1 (lk 3 (by decide)).2 ?_
  refine ex_callVa (a2 := 168) (c2 := 12) (q := 347) (M := mL_law) (c := 11) (st := []) (bc := bc) (bs := bs) dL_law_344 rfl cl_L_23 wd_598 wd_599 o1 o2 w ?_
  rintro r h1 ⟨v, rfl, w⟩ ok
  have lk1 := fun j hj => SCR_lk1 sc ok j hj
  show ex_GK 168 12 mL_law (d + 21) 347 [.ref 10000000, .ref 0, .ref 168, .int (nI (8 * t))] [.int v] h1 bc bs Q
  refine ek_aload_n (q := 348) (x := 168) dL_law_347 rfl ?_
  refine ek_aload_n (q := 349) (x := 10000000) dL_law_348 rfl ?_
  refine ek_iload_n (q := 350) (x := nI (8 * t)) dL_law_349 rfl ?_
  refine ek_iconst (q := 351) (v := 1) dL_law_350 (by decide) ?_
  refine ek_iadd (q := 352) dL_law_351 ?_
  refine ek_iald (q := 353) dL_law_352 (lk1 1 (by decide)).1 (lk1 1 (by decide)).2 ?_
  refine ek_aload_n (q := 354) (x := 10000000) dL_law_353 rfl ?_
  refine ek_iload_n (q := 355) (x := nI (8 * t)) dL_law_354 rfl ?_
  refine ek_iconst (q := 356) (v := 2) dL_law_355 (by decide) ?_
  refine ek_iadd (q := 357) dL_law_356 ?_
  refine ek_iald (q := 358) dL_law_357 (lk1 2 (by decide)).1 (lk1 2 (by decide)).2 ?_
  refine ek_aload_n (q := 359) (x := 10000000) dL_law_358 rfl ?_
  refine ek_iload_n (q := 360) (x := nI (8 * t)) dL_law_359 rfl ?_
  refine ek_iconst (q := 361) (v := 3) dL_law_360 (by decide) ?_
  refine ek_iadd (q := 362) dL_law_361 ?_
  refine ek_iald (q := 363) dL_law_362 (lk1 3 (by decide)).1 (lk1 3 (by decide)).2 ?_
  refine ek_callV (a2 := 168) (c2 := 12) (q := 366) (M := mL_law) (st := [.int v]) (bc := bc) (bs := bs) dL_law_363 rfl cl_L_27 wd_1608 wd_1609 w ?_
  rintro r h2 ⟨rfl, dn⟩
  show ex_G mL_law (d + 21) 366 [.ref 10000000, .ref 0, .ref 168, .int (nI (8 * t))] [.int v, .int v] h2 bc bs Q
  refine ex_icmp_eq (tgt := 1783) (q := 369) dL_law_366 (fun _ => ?_) (fun c => absurd rfl c)
  refine ex_iinc (q := 1786) (x := nI (8 * t)) (v := nI (8 * (t + 1))) (ls' := [.ref 10000000, .ref 0, .ref 168, .int (nI (8 * (t + 1)))]) dL_law_1783 rfl (law_i8 t) rfl ?_
  exact ex_goto (tgt := 18) dL_law_1786 (loop h2 dn)
set_option maxRecDepth 100000 in
theorem LW_end (o1 : ah_o h 0 11) (o2 : ah_o h 168 12) (sc : SCR h S len t) (w : ex_S yX11_end mX11_end (d + 2) [.ref 0, .int (S (8 * t + 1)), .int (S (8 * t + 2)), .int (S (8 * t + 3))] h 0 0 (fun r h1 => ∃ v : Int32, r = some (.int v) ∧ ex_S yX12_end mX12_end (d + 2) [.ref 168, .int (S (8 * t + 1)), .int (S (8 * t + 2)), .int (S (8 * t + 3))] h1 0 0 (fun r' h2 => r' = some (.int v) ∧ P h2))) (loop : ∀ h2, P h2 → ex_G mL_law (d + 21) 18 [.ref 10000000, .ref 0, .ref 168, .int (nI (8 * (t + 1)))] [] h2 bc bs Q) : ex_G mL_law (d + 21) 371 [.ref 10000000, .ref 0, .ref 168, .int (nI (8 * t))] [] h bc bs Q := by
  have lk := fun j hj => SCR_lk sc j hj
  refine ex_aload_n (q := 372) (x := 0) dL_law_371 rfl ?_
  refine ex_aload_n (q := 373) (x := 10000000) dL_law_372 rfl ?_
  refine ex_iload_n (q := 374) (x := nI (8 * t)) dL_law_373 rfl ?_
  refine ex_iconst (q := 375) (v := 1) dL_law_374 (by decide) ?_
  refine ex_iadd (q := 376) dL_law_375 ?_
  refine ex_ialdV (q := 377) dL_law_376 (lk 1 (by decide)).1 (lk 1 (by decide)).2 ?_
  refine ex_aload_n (q := 378) (x := 10000000) dL_law_377 rfl ?_
  refine ex_iload_n (q := 379) (x := nI (8 * t)) dL_law_378 rfl ?_
  refine ex_iconst (q := 380) (v := 2) dL_law_379 (by decide) ?_
  refine ex_iadd (q := 381) dL_law_380 ?_
  refine ex_ialdV (q := 382) dL_law_381 (lk 2 (by decide)).1 (lk 2 (by decide)).2 ?_
  refine ex_aload_n (q := 383) (x := 10000000) dL_law_382 rfl ?_
  refine ex_iload_n (q := 384) (x := nI (8 * t)) dL_law_383 rfl ?_
  refine ex_iconst (q := 385) (v := 3) dL_law_384 (by decide) ?_
  refine ex_iadd (q := 386) dL_law_385 ?_
  refine ex_ialdV (q := 387) dL_law_386 (lk 3 (by decide)).1 (lk 3 (by decide)).2 ?_
  refine ex_callVa (a2 := 168) (c2 := 12) (q := 390) (M := mL_law) (c := 11) (st := []) (bc := bc) (bs := bs) dL_law_387 rfl cl_L_28 wd_611 wd_612 o1 o2 w ?_
  rintro r h1 ⟨v, rfl, w⟩ ok
  have lk1 := fun j hj => SCR_lk1 sc ok j hj
  show ex_GK 168 12 mL_law (d + 21) 390 [.ref 10000000, .ref 0, .ref 168, .int (nI (8 * t))] [.int v] h1 bc bs Q
  refine ek_aload_n (q := 391) (x := 168) dL_law_390 rfl ?_
  refine ek_aload_n (q := 392) (x := 10000000) dL_law_391 rfl ?_
  refine ek_iload_n (q := 393) (x := nI (8 * t)) dL_law_392 rfl ?_
  refine ek_iconst (q := 394) (v := 1) dL_law_393 (by decide) ?_
  refine ek_iadd (q := 395) dL_law_394 ?_
  refine ek_iald (q := 396) dL_law_395 (lk1 1 (by decide)).1 (lk1 1 (by decide)).2 ?_
  refine ek_aload_n (q := 397) (x := 10000000) dL_law_396 rfl ?_
  refine ek_iload_n (q := 398) (x := nI (8 * t)) dL_law_397 rfl ?_
  refine ek_iconst (q := 399) (v := 2) dL_law_398 (by decide) ?_
  refine ek_iadd (q := 400) dL_law_399 ?_
  refine ek_iald (q := 401) dL_law_400 (lk1 2 (by decide)).1 (lk1 2 (by decide)).2 ?_
  refine ek_aload_n (q := 402) (x := 10000000) dL_law_401 rfl ?_
  refine ek_iload_n (q := 403) (x := nI (8 * t)) dL_law_402 rfl ?_
  refine ek_iconst (q := 404) (v := 3) dL_law_403 (by decide) ?_
  refine ek_iadd (q := 405) dL_law_404 ?_
  refine ek_iald (q := 406) dL_law_405 (lk1 3 (by decide)).1 (lk1 3 (by decide)).2 ?_
  refine ek_callV (a2 := 168) (c2 := 12) (q := 409) (M := mL_law) (st := [.int v]) (bc := bc) (bs := bs) dL_law_406 rfl cl_L_31 wd_1617 wd_1618 w ?_
  rintro r h2 ⟨rfl, dn⟩
  show ex_G mL_law (d + 21) 409 [.ref 10000000, .ref 0, .ref 168, .int (nI (8 * t))] [.int v, .int v] h2 bc bs Q
  refine ex_icmp_eq (tgt := 1783) (q := 412) dL_law_409 (fun _ => ?_) (fun c => absurd rfl c)
  refine ex_iinc (q := 1786) (x := nI (8 * t)) (v := nI (8 * (t + 1))) (ls' := [.ref 10000000, .ref 0, .ref 168, .int (nI (8 * (t + 1)))]) dL_law_1783 rfl (law_i8 t) rfl ?_
  exact ex_goto (tgt := 18) dL_law_1786 (loop h2 dn)
set_option maxRecDepth 100000 in
theorem LW_put (o1 : ah_o h 0 11) (o2 : ah_o h 168 12) (sc : SCR h S len t) (w : ex_S yX11_put mX11_put (d + 2) [.ref 0, .int (S (8 * t + 1)), .int (S (8 * t + 2)), .int (S (8 * t + 3)), .int (S (8 * t + 4))] h 0 0 (fun r h1 => ∃ v : Int32, r = some (.int v) ∧ ex_S yX12_put mX12_put (d + 2) [.ref 168, .int (S (8 * t + 1)), .int (S (8 * t + 2)), .int (S (8 * t + 3)), .int (S (8 * t + 4))] h1 0 0 (fun r' h2 => r' = some (.int v) ∧ P h2))) (loop : ∀ h2, P h2 → ex_G mL_law (d + 21) 18 [.ref 10000000, .ref 0, .ref 168, .int (nI (8 * (t + 1)))] [] h2 bc bs Q) : ex_G mL_law (d + 21) 414 [.ref 10000000, .ref 0, .ref 168, .int (nI (8 * t))] [] h bc bs Q := by
  have lk := fun j hj => SCR_lk sc j hj
  refine ex_aload_n (q := 415) (x := 0) dL_law_414 rfl ?_
  refine ex_aload_n (q := 416) (x := 10000000) dL_law_415 rfl ?_
  refine ex_iload_n (q := 417) (x := nI (8 * t)) dL_law_416 rfl ?_
  refine ex_iconst (q := 418) (v := 1) dL_law_417 (by decide) ?_
  refine ex_iadd (q := 419) dL_law_418 ?_
  refine ex_ialdV (q := 420) dL_law_419 (lk 1 (by decide)).1 (lk 1 (by decide)).2 ?_
  refine ex_aload_n (q := 421) (x := 10000000) dL_law_420 rfl ?_
  refine ex_iload_n (q := 422) (x := nI (8 * t)) dL_law_421 rfl ?_
  refine ex_iconst (q := 423) (v := 2) dL_law_422 (by decide) ?_
  refine ex_iadd (q := 424) dL_law_423 ?_
  refine ex_ialdV (q := 425) dL_law_424 (lk 2 (by decide)).1 (lk 2 (by decide)).2 ?_
  refine ex_aload_n (q := 426) (x := 10000000) dL_law_425 rfl ?_
  refine ex_iload_n (q := 427) (x := nI (8 * t)) dL_law_426 rfl ?_
  refine ex_iconst (q := 428) (v := 3) dL_law_427 (by decide) ?_
  refine ex_iadd (q := 429) dL_law_428 ?_
  refine ex_ialdV (q := 430) dL_law_429 (lk 3 (by decide)).1 (lk 3 (by decide)).2 ?_
  refine ex_aload_n (q := 431) (x := 10000000) dL_law_430 rfl ?_
  refine ex_iload_n (q := 432) (x := nI (8 * t)) dL_law_431 rfl ?_
  refine ex_iconst (q := 433) (v := 4) dL_law_432 (by decide) ?_
  refine ex_iadd (q := 434) dL_law_433 ?_
  refine ex_ialdV (q := 435) dL_law_434 (lk 4 (by decide)).1 (lk 4 (by decide)).2 ?_
  refine ex_callVa (a2 := 168) (c2 := 12) (q := 438) (M := mL_law) (c := 11) (st := []) (bc := bc) (bs := bs) dL_law_435 rfl cl_L_32 wd_618 wd_619 o1 o2 w ?_
  rintro r h1 ⟨v, rfl, w⟩ ok
  have lk1 := fun j hj => SCR_lk1 sc ok j hj
  show ex_GK 168 12 mL_law (d + 21) 438 [.ref 10000000, .ref 0, .ref 168, .int (nI (8 * t))] [.int v] h1 bc bs Q
  refine ek_aload_n (q := 439) (x := 168) dL_law_438 rfl ?_
  refine ek_aload_n (q := 440) (x := 10000000) dL_law_439 rfl ?_
  refine ek_iload_n (q := 441) (x := nI (8 * t)) dL_law_440 rfl ?_
  refine ek_iconst (q := 442) (v := 1) dL_law_441 (by decide) ?_
  refine ek_iadd (q := 443) dL_law_442 ?_
  refine ek_iald (q := 444) dL_law_443 (lk1 1 (by decide)).1 (lk1 1 (by decide)).2 ?_
  refine ek_aload_n (q := 445) (x := 10000000) dL_law_444 rfl ?_
  refine ek_iload_n (q := 446) (x := nI (8 * t)) dL_law_445 rfl ?_
  refine ek_iconst (q := 447) (v := 2) dL_law_446 (by decide) ?_
  refine ek_iadd (q := 448) dL_law_447 ?_
  refine ek_iald (q := 449) dL_law_448 (lk1 2 (by decide)).1 (lk1 2 (by decide)).2 ?_
  refine ek_aload_n (q := 450) (x := 10000000) dL_law_449 rfl ?_
  refine ek_iload_n (q := 451) (x := nI (8 * t)) dL_law_450 rfl ?_
  refine ek_iconst (q := 452) (v := 3) dL_law_451 (by decide) ?_
  refine ek_iadd (q := 453) dL_law_452 ?_
  refine ek_iald (q := 454) dL_law_453 (lk1 3 (by decide)).1 (lk1 3 (by decide)).2 ?_
  refine ek_aload_n (q := 455) (x := 10000000) dL_law_454 rfl ?_
  refine ek_iload_n (q := 456) (x := nI (8 * t)) dL_law_455 rfl ?_
  refine ek_iconst (q := 457) (v := 4) dL_law_456 (by decide) ?_
  refine ek_iadd (q := 458) dL_law_457 ?_
  refine ek_iald (q := 459) dL_law_458 (lk1 4 (by decide)).1 (lk1 4 (by decide)).2 ?_
  refine ek_callV (a2 := 168) (c2 := 12) (q := 462) (M := mL_law) (st := [.int v]) (bc := bc) (bs := bs) dL_law_459 rfl cl_L_36 wd_1625 wd_1626 w ?_
  rintro r h2 ⟨rfl, dn⟩
  show ex_G mL_law (d + 21) 462 [.ref 10000000, .ref 0, .ref 168, .int (nI (8 * t))] [.int v, .int v] h2 bc bs Q
  refine ex_icmp_eq (tgt := 1783) (q := 465) dL_law_462 (fun _ => ?_) (fun c => absurd rfl c)
  refine ex_iinc (q := 1786) (x := nI (8 * t)) (v := nI (8 * (t + 1))) (ls' := [.ref 10000000, .ref 0, .ref 168, .int (nI (8 * (t + 1)))]) dL_law_1783 rfl (law_i8 t) rfl ?_
  exact ex_goto (tgt := 18) dL_law_1786 (loop h2 dn)
set_option maxRecDepth 100000 in
theorem LW_copy (o1 : ah_o h 0 11) (o2 : ah_o h 168 12) (sc : SCR h S len t) (w : ex_S yX11_copy mX11_copy (d + 1) [.ref 0, .int (S (8 * t + 1)), .int (S (8 * t + 2)), .int (S (8 * t + 3)), .int (S (8 * t + 4)), .int (S (8 * t + 5)), .int (S (8 * t + 6)), .int (S (8 * t + 7))] h 0 0 (fun r h1 => ∃ v : Int32, r = some (.int v) ∧ ex_S yX12_copy mX12_copy (d + 2) [.ref 168, .int (S (8 * t + 1)), .int (S (8 * t + 2)), .int (S (8 * t + 3)), .int (S (8 * t + 4)), .int (S (8 * t + 5)), .int (S (8 * t + 6)), .int (S (8 * t + 7))] h1 0 0 (fun r' h2 => r' = some (.int v) ∧ P h2))) (loop : ∀ h2, P h2 → ex_G mL_law (d + 21) 18 [.ref 10000000, .ref 0, .ref 168, .int (nI (8 * (t + 1)))] [] h2 bc bs Q) : ex_G mL_law (d + 21) 467 [.ref 10000000, .ref 0, .ref 168, .int (nI (8 * t))] [] h bc bs Q := by
  have lk := fun j hj => SCR_lk sc j hj
  refine ex_aload_n (q := 468) (x := 0) dL_law_467 rfl ?_
  refine ex_aload_n (q := 469) (x := 10000000) dL_law_468 rfl ?_
  refine ex_iload_n (q := 470) (x := nI (8 * t)) dL_law_469 rfl ?_
  refine ex_iconst (q := 471) (v := 1) dL_law_470 (by decide) ?_
  refine ex_iadd (q := 472) dL_law_471 ?_
  refine ex_ialdV (q := 473) dL_law_472 (lk 1 (by decide)).1 (lk 1 (by decide)).2 ?_
  refine ex_aload_n (q := 474) (x := 10000000) dL_law_473 rfl ?_
  refine ex_iload_n (q := 475) (x := nI (8 * t)) dL_law_474 rfl ?_
  refine ex_iconst (q := 476) (v := 2) dL_law_475 (by decide) ?_
  refine ex_iadd (q := 477) dL_law_476 ?_
  refine ex_ialdV (q := 478) dL_law_477 (lk 2 (by decide)).1 (lk 2 (by decide)).2 ?_
  refine ex_aload_n (q := 479) (x := 10000000) dL_law_478 rfl ?_
  refine ex_iload_n (q := 480) (x := nI (8 * t)) dL_law_479 rfl ?_
  refine ex_iconst (q := 481) (v := 3) dL_law_480 (by decide) ?_
  refine ex_iadd (q := 482) dL_law_481 ?_
  refine ex_ialdV (q := 483) dL_law_482 (lk 3 (by decide)).1 (lk 3 (by decide)).2 ?_
  refine ex_aload_n (q := 484) (x := 10000000) dL_law_483 rfl ?_
  refine ex_iload_n (q := 485) (x := nI (8 * t)) dL_law_484 rfl ?_
  refine ex_iconst (q := 486) (v := 4) dL_law_485 (by decide) ?_
  refine ex_iadd (q := 487) dL_law_486 ?_
  refine ex_ialdV (q := 488) dL_law_487 (lk 4 (by decide)).1 (lk 4 (by decide)).2 ?_
  refine ex_aload_n (q := 489) (x := 10000000) dL_law_488 rfl ?_
  refine ex_iload_n (q := 490) (x := nI (8 * t)) dL_law_489 rfl ?_
  refine ex_iconst (q := 491) (v := 5) dL_law_490 (by decide) ?_
  refine ex_iadd (q := 492) dL_law_491 ?_
  refine ex_ialdV (q := 493) dL_law_492 (lk 5 (by decide)).1 (lk 5 (by decide)).2 ?_
  refine ex_aload_n (q := 494) (x := 10000000) dL_law_493 rfl ?_
  refine ex_iload_n (q := 495) (x := nI (8 * t)) dL_law_494 rfl ?_
  refine ex_bipush (q := 497) (v := 6) dL_law_495 (by decide) ?_
  refine ex_iadd (q := 498) dL_law_497 ?_
  refine ex_ialdV (q := 499) dL_law_498 (lk 6 (by decide)).1 (lk 6 (by decide)).2 ?_
  refine ex_aload_n (q := 500) (x := 10000000) dL_law_499 rfl ?_
  refine ex_iload_n (q := 501) (x := nI (8 * t)) dL_law_500 rfl ?_
  refine ex_bipush (q := 503) (v := 7) dL_law_501 (by decide) ?_
  refine ex_iadd (q := 504) dL_law_503 ?_
  refine ex_ialdV (q := 505) dL_law_504 (lk 7 (by decide)).1 (lk 7 (by decide)).2 ?_
  refine ex_callVa (a2 := 168) (c2 := 12) (q := 508) (M := mL_law) (c := 11) (st := []) (bc := bc) (bs := bs) dL_law_505 rfl cl_L_37 wd_622 wd_623 o1 o2 w ?_
  rintro r h1 ⟨v, rfl, w⟩ ok
  have lk1 := fun j hj => SCR_lk1 sc ok j hj
  show ex_GK 168 12 mL_law (d + 21) 508 [.ref 10000000, .ref 0, .ref 168, .int (nI (8 * t))] [.int v] h1 bc bs Q
  refine ek_aload_n (q := 509) (x := 168) dL_law_508 rfl ?_
  refine ek_aload_n (q := 510) (x := 10000000) dL_law_509 rfl ?_
  refine ek_iload_n (q := 511) (x := nI (8 * t)) dL_law_510 rfl ?_
  refine ek_iconst (q := 512) (v := 1) dL_law_511 (by decide) ?_
  refine ek_iadd (q := 513) dL_law_512 ?_
  refine ek_iald (q := 514) dL_law_513 (lk1 1 (by decide)).1 (lk1 1 (by decide)).2 ?_
  refine ek_aload_n (q := 515) (x := 10000000) dL_law_514 rfl ?_
  refine ek_iload_n (q := 516) (x := nI (8 * t)) dL_law_515 rfl ?_
  refine ek_iconst (q := 517) (v := 2) dL_law_516 (by decide) ?_
  refine ek_iadd (q := 518) dL_law_517 ?_
  refine ek_iald (q := 519) dL_law_518 (lk1 2 (by decide)).1 (lk1 2 (by decide)).2 ?_
  refine ek_aload_n (q := 520) (x := 10000000) dL_law_519 rfl ?_
  refine ek_iload_n (q := 521) (x := nI (8 * t)) dL_law_520 rfl ?_
  refine ek_iconst (q := 522) (v := 3) dL_law_521 (by decide) ?_
  refine ek_iadd (q := 523) dL_law_522 ?_
  refine ek_iald (q := 524) dL_law_523 (lk1 3 (by decide)).1 (lk1 3 (by decide)).2 ?_
  refine ek_aload_n (q := 525) (x := 10000000) dL_law_524 rfl ?_
  refine ek_iload_n (q := 526) (x := nI (8 * t)) dL_law_525 rfl ?_
  refine ek_iconst (q := 527) (v := 4) dL_law_526 (by decide) ?_
  refine ek_iadd (q := 528) dL_law_527 ?_
  refine ek_iald (q := 529) dL_law_528 (lk1 4 (by decide)).1 (lk1 4 (by decide)).2 ?_
  refine ek_aload_n (q := 530) (x := 10000000) dL_law_529 rfl ?_
  refine ek_iload_n (q := 531) (x := nI (8 * t)) dL_law_530 rfl ?_
  refine ek_iconst (q := 532) (v := 5) dL_law_531 (by decide) ?_
  refine ek_iadd (q := 533) dL_law_532 ?_
  refine ek_iald (q := 534) dL_law_533 (lk1 5 (by decide)).1 (lk1 5 (by decide)).2 ?_
  refine ek_aload_n (q := 535) (x := 10000000) dL_law_534 rfl ?_
  refine ek_iload_n (q := 536) (x := nI (8 * t)) dL_law_535 rfl ?_
  refine ek_bipush (q := 538) (v := 6) dL_law_536 (by decide) ?_
  refine ek_iadd (q := 539) dL_law_538 ?_
  refine ek_iald (q := 540) dL_law_539 (lk1 6 (by decide)).1 (lk1 6 (by decide)).2 ?_
  refine ek_aload_n (q := 541) (x := 10000000) dL_law_540 rfl ?_
  refine ek_iload_n (q := 542) (x := nI (8 * t)) dL_law_541 rfl ?_
  refine ek_bipush (q := 544) (v := 7) dL_law_542 (by decide) ?_
  refine ek_iadd (q := 545) dL_law_544 ?_
  refine ek_iald (q := 546) dL_law_545 (lk1 7 (by decide)).1 (lk1 7 (by decide)).2 ?_
  refine ek_callV (a2 := 168) (c2 := 12) (q := 549) (M := mL_law) (st := [.int v]) (bc := bc) (bs := bs) dL_law_546 rfl cl_L_41 wd_1629 wd_1630 w ?_
  rintro r h2 ⟨rfl, dn⟩
  show ex_G mL_law (d + 21) 549 [.ref 10000000, .ref 0, .ref 168, .int (nI (8 * t))] [.int v, .int v] h2 bc bs Q
  refine ex_icmp_eq (tgt := 1783) (q := 552) dL_law_549 (fun _ => ?_) (fun c => absurd rfl c)
  refine ex_iinc (q := 1786) (x := nI (8 * t)) (v := nI (8 * (t + 1))) (ls' := [.ref 10000000, .ref 0, .ref 168, .int (nI (8 * (t + 1)))]) dL_law_1783 rfl (law_i8 t) rfl ?_
  exact ex_goto (tgt := 18) dL_law_1786 (loop h2 dn)
set_option maxRecDepth 100000 in
theorem LW_loose (o1 : ah_o h 0 11) (o2 : ah_o h 168 12) (sc : SCR h S len t) (w : ex_S yX11_loose mX11_loose (d + 1) [.ref 0, .int (S (8 * t + 1)), .int (S (8 * t + 2))] h 0 0 (fun r h1 => ∃ v : Int32, r = some (.int v) ∧ ex_S yX12_loose mX12_loose (d + 2) [.ref 168, .int (S (8 * t + 1)), .int (S (8 * t + 2))] h1 0 0 (fun r' h2 => r' = some (.int v) ∧ P h2))) (loop : ∀ h2, P h2 → ex_G mL_law (d + 21) 18 [.ref 10000000, .ref 0, .ref 168, .int (nI (8 * (t + 1)))] [] h2 bc bs Q) : ex_G mL_law (d + 21) 554 [.ref 10000000, .ref 0, .ref 168, .int (nI (8 * t))] [] h bc bs Q := by
  have lk := fun j hj => SCR_lk sc j hj
  refine ex_aload_n (q := 555) (x := 0) dL_law_554 rfl ?_
  refine ex_aload_n (q := 556) (x := 10000000) dL_law_555 rfl ?_
  refine ex_iload_n (q := 557) (x := nI (8 * t)) dL_law_556 rfl ?_
  refine ex_iconst (q := 558) (v := 1) dL_law_557 (by decide) ?_
  refine ex_iadd (q := 559) dL_law_558 ?_
  refine ex_ialdV (q := 560) dL_law_559 (lk 1 (by decide)).1 (lk 1 (by decide)).2 ?_
  refine ex_aload_n (q := 561) (x := 10000000) dL_law_560 rfl ?_
  refine ex_iload_n (q := 562) (x := nI (8 * t)) dL_law_561 rfl ?_
  refine ex_iconst (q := 563) (v := 2) dL_law_562 (by decide) ?_
  refine ex_iadd (q := 564) dL_law_563 ?_
  refine ex_ialdV (q := 565) dL_law_564 (lk 2 (by decide)).1 (lk 2 (by decide)).2 ?_
  refine ex_callVa (a2 := 168) (c2 := 12) (q := 568) (M := mL_law) (c := 11) (st := []) (bc := bc) (bs := bs) dL_law_565 rfl cl_L_42 wd_630 wd_631 o1 o2 w ?_
  rintro r h1 ⟨v, rfl, w⟩ ok
  have lk1 := fun j hj => SCR_lk1 sc ok j hj
  show ex_GK 168 12 mL_law (d + 21) 568 [.ref 10000000, .ref 0, .ref 168, .int (nI (8 * t))] [.int v] h1 bc bs Q
  refine ek_aload_n (q := 569) (x := 168) dL_law_568 rfl ?_
  refine ek_aload_n (q := 570) (x := 10000000) dL_law_569 rfl ?_
  refine ek_iload_n (q := 571) (x := nI (8 * t)) dL_law_570 rfl ?_
  refine ek_iconst (q := 572) (v := 1) dL_law_571 (by decide) ?_
  refine ek_iadd (q := 573) dL_law_572 ?_
  refine ek_iald (q := 574) dL_law_573 (lk1 1 (by decide)).1 (lk1 1 (by decide)).2 ?_
  refine ek_aload_n (q := 575) (x := 10000000) dL_law_574 rfl ?_
  refine ek_iload_n (q := 576) (x := nI (8 * t)) dL_law_575 rfl ?_
  refine ek_iconst (q := 577) (v := 2) dL_law_576 (by decide) ?_
  refine ek_iadd (q := 578) dL_law_577 ?_
  refine ek_iald (q := 579) dL_law_578 (lk1 2 (by decide)).1 (lk1 2 (by decide)).2 ?_
  refine ek_callV (a2 := 168) (c2 := 12) (q := 582) (M := mL_law) (st := [.int v]) (bc := bc) (bs := bs) dL_law_579 rfl cl_L_46 wd_1633 wd_1634 w ?_
  rintro r h2 ⟨rfl, dn⟩
  show ex_G mL_law (d + 21) 582 [.ref 10000000, .ref 0, .ref 168, .int (nI (8 * t))] [.int v, .int v] h2 bc bs Q
  refine ex_icmp_eq (tgt := 1783) (q := 585) dL_law_582 (fun _ => ?_) (fun c => absurd rfl c)
  refine ex_iinc (q := 1786) (x := nI (8 * t)) (v := nI (8 * (t + 1))) (ls' := [.ref 10000000, .ref 0, .ref 168, .int (nI (8 * (t + 1)))]) dL_law_1783 rfl (law_i8 t) rfl ?_
  exact ex_goto (tgt := 18) dL_law_1786 (loop h2 dn)
set_option maxRecDepth 100000 in
theorem LW_open (o1 : ah_o h 0 11) (o2 : ah_o h 168 12) (sc : SCR h S len t) (w : ex_S yX11_open mX11_open (d + 4) [.ref 0, .int (S (8 * t + 1))] h 0 0 (fun r h1 => ∃ v : Int32, r = some (.int v) ∧ ex_S yX12_open mX12_open (d + 4) [.ref 168, .int (S (8 * t + 1))] h1 0 0 (fun r' h2 => r' = some (.int v) ∧ P h2))) (loop : ∀ h2, P h2 → ex_G mL_law (d + 21) 18 [.ref 10000000, .ref 0, .ref 168, .int (nI (8 * (t + 1)))] [] h2 bc bs Q) : ex_G mL_law (d + 21) 587 [.ref 10000000, .ref 0, .ref 168, .int (nI (8 * t))] [] h bc bs Q := by
  have lk := fun j hj => SCR_lk sc j hj
  refine ex_aload_n (q := 588) (x := 0) dL_law_587 rfl ?_
  refine ex_aload_n (q := 589) (x := 10000000) dL_law_588 rfl ?_
  refine ex_iload_n (q := 590) (x := nI (8 * t)) dL_law_589 rfl ?_
  refine ex_iconst (q := 591) (v := 1) dL_law_590 (by decide) ?_
  refine ex_iadd (q := 592) dL_law_591 ?_
  refine ex_ialdV (q := 593) dL_law_592 (lk 1 (by decide)).1 (lk 1 (by decide)).2 ?_
  refine ex_callVa (a2 := 168) (c2 := 12) (q := 596) (M := mL_law) (c := 11) (st := []) (bc := bc) (bs := bs) dL_law_593 rfl cl_L_47 wd_634 wd_635 o1 o2 w ?_
  rintro r h1 ⟨v, rfl, w⟩ ok
  have lk1 := fun j hj => SCR_lk1 sc ok j hj
  show ex_GK 168 12 mL_law (d + 21) 596 [.ref 10000000, .ref 0, .ref 168, .int (nI (8 * t))] [.int v] h1 bc bs Q
  refine ek_aload_n (q := 597) (x := 168) dL_law_596 rfl ?_
  refine ek_aload_n (q := 598) (x := 10000000) dL_law_597 rfl ?_
  refine ek_iload_n (q := 599) (x := nI (8 * t)) dL_law_598 rfl ?_
  refine ek_iconst (q := 600) (v := 1) dL_law_599 (by decide) ?_
  refine ek_iadd (q := 601) dL_law_600 ?_
  refine ek_iald (q := 602) dL_law_601 (lk1 1 (by decide)).1 (lk1 1 (by decide)).2 ?_
  refine ek_callV (a2 := 168) (c2 := 12) (q := 605) (M := mL_law) (st := [.int v]) (bc := bc) (bs := bs) dL_law_602 rfl cl_L_51 wd_1638 wd_1639 w ?_
  rintro r h2 ⟨rfl, dn⟩
  show ex_G mL_law (d + 21) 605 [.ref 10000000, .ref 0, .ref 168, .int (nI (8 * t))] [.int v, .int v] h2 bc bs Q
  refine ex_icmp_eq (tgt := 1783) (q := 608) dL_law_605 (fun _ => ?_) (fun c => absurd rfl c)
  refine ex_iinc (q := 1786) (x := nI (8 * t)) (v := nI (8 * (t + 1))) (ls' := [.ref 10000000, .ref 0, .ref 168, .int (nI (8 * (t + 1)))]) dL_law_1783 rfl (law_i8 t) rfl ?_
  exact ex_goto (tgt := 18) dL_law_1786 (loop h2 dn)
set_option maxRecDepth 100000 in
theorem LW_where (o1 : ah_o h 0 11) (o2 : ah_o h 168 12) (sc : SCR h S len t) (w : ex_S yX11_where mX11_where d [.ref 0] h 0 0 (fun r h1 => ∃ v : Int32, r = some (.int v) ∧ ex_S yX12_where mX12_where d [.ref 168] h1 0 0 (fun r' h2 => r' = some (.int v) ∧ P h2))) (loop : ∀ h2, P h2 → ex_G mL_law (d + 21) 18 [.ref 10000000, .ref 0, .ref 168, .int (nI (8 * (t + 1)))] [] h2 bc bs Q) : ex_G mL_law (d + 21) 610 [.ref 10000000, .ref 0, .ref 168, .int (nI (8 * t))] [] h bc bs Q := by
  have lk := fun j hj => SCR_lk sc j hj
  refine ex_aload_n (q := 611) (x := 0) dL_law_610 rfl ?_
  refine ex_callVa (a2 := 168) (c2 := 12) (q := 614) (M := mL_law) (c := 11) (st := []) (bc := bc) (bs := bs) dL_law_611 rfl cl_L_52 wd_686 wd_687 o1 o2 w ?_
  rintro r h1 ⟨v, rfl, w⟩ ok
  have lk1 := fun j hj => SCR_lk1 sc ok j hj
  show ex_GK 168 12 mL_law (d + 21) 614 [.ref 10000000, .ref 0, .ref 168, .int (nI (8 * t))] [.int v] h1 bc bs Q
  refine ek_aload_n (q := 615) (x := 168) dL_law_614 rfl ?_
  refine ek_callV (a2 := 168) (c2 := 12) (q := 618) (M := mL_law) (st := [.int v]) (bc := bc) (bs := bs) dL_law_615 rfl cl_L_55 wd_1665 wd_1666 w ?_
  rintro r h2 ⟨rfl, dn⟩
  show ex_G mL_law (d + 21) 618 [.ref 10000000, .ref 0, .ref 168, .int (nI (8 * t))] [.int v, .int v] h2 bc bs Q
  refine ex_icmp_eq (tgt := 1783) (q := 621) dL_law_618 (fun _ => ?_) (fun c => absurd rfl c)
  refine ex_iinc (q := 1786) (x := nI (8 * t)) (v := nI (8 * (t + 1))) (ls' := [.ref 10000000, .ref 0, .ref 168, .int (nI (8 * (t + 1)))]) dL_law_1783 rfl (law_i8 t) rfl ?_
  exact ex_goto (tgt := 18) dL_law_1786 (loop h2 dn)
set_option maxRecDepth 100000 in
theorem LW_told (o1 : ah_o h 0 11) (o2 : ah_o h 168 12) (sc : SCR h S len t) (w : ex_S yX11_told mX11_told (d + 5) [.ref 0, .int (S (8 * t + 1)), .int (S (8 * t + 2))] h 0 0 (fun r h1 => ∃ v : Int32, r = some (.int v) ∧ ex_S yX12_told mX12_told (d + 5) [.ref 168, .int (S (8 * t + 1)), .int (S (8 * t + 2))] h1 0 0 (fun r' h2 => r' = some (.int v) ∧ P h2))) (loop : ∀ h2, P h2 → ex_G mL_law (d + 21) 18 [.ref 10000000, .ref 0, .ref 168, .int (nI (8 * (t + 1)))] [] h2 bc bs Q) : ex_G mL_law (d + 21) 623 [.ref 10000000, .ref 0, .ref 168, .int (nI (8 * t))] [] h bc bs Q := by
  have lk := fun j hj => SCR_lk sc j hj
  refine ex_aload_n (q := 624) (x := 0) dL_law_623 rfl ?_
  refine ex_aload_n (q := 625) (x := 10000000) dL_law_624 rfl ?_
  refine ex_iload_n (q := 626) (x := nI (8 * t)) dL_law_625 rfl ?_
  refine ex_iconst (q := 627) (v := 1) dL_law_626 (by decide) ?_
  refine ex_iadd (q := 628) dL_law_627 ?_
  refine ex_ialdV (q := 629) dL_law_628 (lk 1 (by decide)).1 (lk 1 (by decide)).2 ?_
  refine ex_aload_n (q := 630) (x := 10000000) dL_law_629 rfl ?_
  refine ex_iload_n (q := 631) (x := nI (8 * t)) dL_law_630 rfl ?_
  refine ex_iconst (q := 632) (v := 2) dL_law_631 (by decide) ?_
  refine ex_iadd (q := 633) dL_law_632 ?_
  refine ex_ialdV (q := 634) dL_law_633 (lk 2 (by decide)).1 (lk 2 (by decide)).2 ?_
  refine ex_callVa (a2 := 168) (c2 := 12) (q := 637) (M := mL_law) (c := 11) (st := []) (bc := bc) (bs := bs) dL_law_634 rfl cl_L_56 wd_690 wd_691 o1 o2 w ?_
  rintro r h1 ⟨v, rfl, w⟩ ok
  have lk1 := fun j hj => SCR_lk1 sc ok j hj
  show ex_GK 168 12 mL_law (d + 21) 637 [.ref 10000000, .ref 0, .ref 168, .int (nI (8 * t))] [.int v] h1 bc bs Q
  refine ek_aload_n (q := 638) (x := 168) dL_law_637 rfl ?_
  refine ek_aload_n (q := 639) (x := 10000000) dL_law_638 rfl ?_
  refine ek_iload_n (q := 640) (x := nI (8 * t)) dL_law_639 rfl ?_
  refine ek_iconst (q := 641) (v := 1) dL_law_640 (by decide) ?_
  refine ek_iadd (q := 642) dL_law_641 ?_
  refine ek_iald (q := 643) dL_law_642 (lk1 1 (by decide)).1 (lk1 1 (by decide)).2 ?_
  refine ek_aload_n (q := 644) (x := 10000000) dL_law_643 rfl ?_
  refine ek_iload_n (q := 645) (x := nI (8 * t)) dL_law_644 rfl ?_
  refine ek_iconst (q := 646) (v := 2) dL_law_645 (by decide) ?_
  refine ek_iadd (q := 647) dL_law_646 ?_
  refine ek_iald (q := 648) dL_law_647 (lk1 2 (by decide)).1 (lk1 2 (by decide)).2 ?_
  refine ek_callV (a2 := 168) (c2 := 12) (q := 651) (M := mL_law) (st := [.int v]) (bc := bc) (bs := bs) dL_law_648 rfl cl_L_59 wd_1669 wd_1670 w ?_
  rintro r h2 ⟨rfl, dn⟩
  show ex_G mL_law (d + 21) 651 [.ref 10000000, .ref 0, .ref 168, .int (nI (8 * t))] [.int v, .int v] h2 bc bs Q
  refine ex_icmp_eq (tgt := 1783) (q := 654) dL_law_651 (fun _ => ?_) (fun c => absurd rfl c)
  refine ex_iinc (q := 1786) (x := nI (8 * t)) (v := nI (8 * (t + 1))) (ls' := [.ref 10000000, .ref 0, .ref 168, .int (nI (8 * (t + 1)))]) dL_law_1783 rfl (law_i8 t) rfl ?_
  exact ex_goto (tgt := 18) dL_law_1786 (loop h2 dn)
set_option maxRecDepth 100000 in
theorem LW_mirror (o1 : ah_o h 0 11) (o2 : ah_o h 168 12) (sc : SCR h S len t) (w : ex_S yX11_mirror mX11_mirror (d + 5) [.ref 0, .int (S (8 * t + 1))] h 1 1620 (fun r h1 => ∃ v : Int32, r = some (.int v) ∧ ex_S yX12_mirror mX12_mirror (d + 6) [.ref 168, .int (S (8 * t + 1))] h1 0 0 (fun r' h2 => r' = some (.int v) ∧ P h2))) (loop : ∀ h2, P h2 → ex_G mL_law (d + 21) 18 [.ref 10000000, .ref 0, .ref 168, .int (nI (8 * (t + 1)))] [] h2 bc bs Q) : ex_G mL_law (d + 21) 656 [.ref 10000000, .ref 0, .ref 168, .int (nI (8 * t))] [] h (bc + 1) (bs + 1620) Q := by
  have lk := fun j hj => SCR_lk sc j hj
  refine ex_aload_n (q := 657) (x := 0) dL_law_656 rfl ?_
  refine ex_aload_n (q := 658) (x := 10000000) dL_law_657 rfl ?_
  refine ex_iload_n (q := 659) (x := nI (8 * t)) dL_law_658 rfl ?_
  refine ex_iconst (q := 660) (v := 1) dL_law_659 (by decide) ?_
  refine ex_iadd (q := 661) dL_law_660 ?_
  refine ex_ialdV (q := 662) dL_law_661 (lk 1 (by decide)).1 (lk 1 (by decide)).2 ?_
  refine ex_callVa (a2 := 168) (c2 := 12) (q := 665) (M := mL_law) (c := 11) (st := []) (bc := bc) (bs := bs) dL_law_662 rfl cl_L_60 wd_702 wd_703 o1 o2 w ?_
  rintro r h1 ⟨v, rfl, w⟩ ok
  have lk1 := fun j hj => SCR_lk1 sc ok j hj
  show ex_GK 168 12 mL_law (d + 21) 665 [.ref 10000000, .ref 0, .ref 168, .int (nI (8 * t))] [.int v] h1 bc bs Q
  refine ek_aload_n (q := 666) (x := 168) dL_law_665 rfl ?_
  refine ek_aload_n (q := 667) (x := 10000000) dL_law_666 rfl ?_
  refine ek_iload_n (q := 668) (x := nI (8 * t)) dL_law_667 rfl ?_
  refine ek_iconst (q := 669) (v := 1) dL_law_668 (by decide) ?_
  refine ek_iadd (q := 670) dL_law_669 ?_
  refine ek_iald (q := 671) dL_law_670 (lk1 1 (by decide)).1 (lk1 1 (by decide)).2 ?_
  refine ek_callV (a2 := 168) (c2 := 12) (q := 674) (M := mL_law) (st := [.int v]) (bc := bc) (bs := bs) dL_law_671 rfl cl_L_63 wd_1936 wd_1937 w ?_
  rintro r h2 ⟨rfl, dn⟩
  show ex_G mL_law (d + 21) 674 [.ref 10000000, .ref 0, .ref 168, .int (nI (8 * t))] [.int v, .int v] h2 bc bs Q
  refine ex_icmp_eq (tgt := 1783) (q := 677) dL_law_674 (fun _ => ?_) (fun c => absurd rfl c)
  refine ex_iinc (q := 1786) (x := nI (8 * t)) (v := nI (8 * (t + 1))) (ls' := [.ref 10000000, .ref 0, .ref 168, .int (nI (8 * (t + 1)))]) dL_law_1783 rfl (law_i8 t) rfl ?_
  exact ex_goto (tgt := 18) dL_law_1786 (loop h2 dn)
set_option maxRecDepth 100000 in
theorem LW_turn (o1 : ah_o h 0 11) (o2 : ah_o h 168 12) (sc : SCR h S len t) (w : ex_S yX11_turn mX11_turn (d + 5) [.ref 0, .int (S (8 * t + 1))] h 1 1620 (fun r h1 => ∃ v : Int32, r = some (.int v) ∧ ex_S yX12_turn mX12_turn (d + 6) [.ref 168, .int (S (8 * t + 1))] h1 0 0 (fun r' h2 => r' = some (.int v) ∧ P h2))) (loop : ∀ h2, P h2 → ex_G mL_law (d + 21) 18 [.ref 10000000, .ref 0, .ref 168, .int (nI (8 * (t + 1)))] [] h2 bc bs Q) : ex_G mL_law (d + 21) 679 [.ref 10000000, .ref 0, .ref 168, .int (nI (8 * t))] [] h (bc + 1) (bs + 1620) Q := by
  have lk := fun j hj => SCR_lk sc j hj
  refine ex_aload_n (q := 680) (x := 0) dL_law_679 rfl ?_
  refine ex_aload_n (q := 681) (x := 10000000) dL_law_680 rfl ?_
  refine ex_iload_n (q := 682) (x := nI (8 * t)) dL_law_681 rfl ?_
  refine ex_iconst (q := 683) (v := 1) dL_law_682 (by decide) ?_
  refine ex_iadd (q := 684) dL_law_683 ?_
  refine ex_ialdV (q := 685) dL_law_684 (lk 1 (by decide)).1 (lk 1 (by decide)).2 ?_
  refine ex_callVa (a2 := 168) (c2 := 12) (q := 688) (M := mL_law) (c := 11) (st := []) (bc := bc) (bs := bs) dL_law_685 rfl cl_L_64 wd_718 wd_719 o1 o2 w ?_
  rintro r h1 ⟨v, rfl, w⟩ ok
  have lk1 := fun j hj => SCR_lk1 sc ok j hj
  show ex_GK 168 12 mL_law (d + 21) 688 [.ref 10000000, .ref 0, .ref 168, .int (nI (8 * t))] [.int v] h1 bc bs Q
  refine ek_aload_n (q := 689) (x := 168) dL_law_688 rfl ?_
  refine ek_aload_n (q := 690) (x := 10000000) dL_law_689 rfl ?_
  refine ek_iload_n (q := 691) (x := nI (8 * t)) dL_law_690 rfl ?_
  refine ek_iconst (q := 692) (v := 1) dL_law_691 (by decide) ?_
  refine ek_iadd (q := 693) dL_law_692 ?_
  refine ek_iald (q := 694) dL_law_693 (lk1 1 (by decide)).1 (lk1 1 (by decide)).2 ?_
  refine ek_callV (a2 := 168) (c2 := 12) (q := 697) (M := mL_law) (st := [.int v]) (bc := bc) (bs := bs) dL_law_694 rfl cl_L_67 wd_1944 wd_1945 w ?_
  rintro r h2 ⟨rfl, dn⟩
  show ex_G mL_law (d + 21) 697 [.ref 10000000, .ref 0, .ref 168, .int (nI (8 * t))] [.int v, .int v] h2 bc bs Q
  refine ex_icmp_eq (tgt := 1783) (q := 700) dL_law_697 (fun _ => ?_) (fun c => absurd rfl c)
  refine ex_iinc (q := 1786) (x := nI (8 * t)) (v := nI (8 * (t + 1))) (ls' := [.ref 10000000, .ref 0, .ref 168, .int (nI (8 * (t + 1)))]) dL_law_1783 rfl (law_i8 t) rfl ?_
  exact ex_goto (tgt := 18) dL_law_1786 (loop h2 dn)
set_option maxRecDepth 100000 in
theorem LW_join (o1 : ah_o h 0 11) (o2 : ah_o h 168 12) (sc : SCR h S len t) (w : ex_S yX11_join mX11_join (d + 5) [.ref 0, .int (S (8 * t + 1)), .int (S (8 * t + 2)), .int (S (8 * t + 3)), .int (S (8 * t + 4))] h 3 207 (fun r h1 => ∃ v : Int32, r = some (.int v) ∧ ex_S yX12_join mX12_join (d + 4) [.ref 168, .int (S (8 * t + 1)), .int (S (8 * t + 2)), .int (S (8 * t + 3)), .int (S (8 * t + 4))] h1 0 0 (fun r' h2 => r' = some (.int v) ∧ P h2))) (loop : ∀ h2, P h2 → ex_G mL_law (d + 21) 18 [.ref 10000000, .ref 0, .ref 168, .int (nI (8 * (t + 1)))] [] h2 bc bs Q) : ex_G mL_law (d + 21) 702 [.ref 10000000, .ref 0, .ref 168, .int (nI (8 * t))] [] h (bc + 3) (bs + 207) Q := by
  have lk := fun j hj => SCR_lk sc j hj
  refine ex_aload_n (q := 703) (x := 0) dL_law_702 rfl ?_
  refine ex_aload_n (q := 704) (x := 10000000) dL_law_703 rfl ?_
  refine ex_iload_n (q := 705) (x := nI (8 * t)) dL_law_704 rfl ?_
  refine ex_iconst (q := 706) (v := 1) dL_law_705 (by decide) ?_
  refine ex_iadd (q := 707) dL_law_706 ?_
  refine ex_ialdV (q := 708) dL_law_707 (lk 1 (by decide)).1 (lk 1 (by decide)).2 ?_
  refine ex_aload_n (q := 709) (x := 10000000) dL_law_708 rfl ?_
  refine ex_iload_n (q := 710) (x := nI (8 * t)) dL_law_709 rfl ?_
  refine ex_iconst (q := 711) (v := 2) dL_law_710 (by decide) ?_
  refine ex_iadd (q := 712) dL_law_711 ?_
  refine ex_ialdV (q := 713) dL_law_712 (lk 2 (by decide)).1 (lk 2 (by decide)).2 ?_
  refine ex_aload_n (q := 714) (x := 10000000) dL_law_713 rfl ?_
  refine ex_iload_n (q := 715) (x := nI (8 * t)) dL_law_714 rfl ?_
  refine ex_iconst (q := 716) (v := 3) dL_law_715 (by decide) ?_
  refine ex_iadd (q := 717) dL_law_716 ?_
  refine ex_ialdV (q := 718) dL_law_717 (lk 3 (by decide)).1 (lk 3 (by decide)).2 ?_
  refine ex_aload_n (q := 719) (x := 10000000) dL_law_718 rfl ?_
  refine ex_iload_n (q := 720) (x := nI (8 * t)) dL_law_719 rfl ?_
  refine ex_iconst (q := 721) (v := 4) dL_law_720 (by decide) ?_
  refine ex_iadd (q := 722) dL_law_721 ?_
  refine ex_ialdV (q := 723) dL_law_722 (lk 4 (by decide)).1 (lk 4 (by decide)).2 ?_
  refine ex_callVa (a2 := 168) (c2 := 12) (q := 726) (M := mL_law) (c := 11) (st := []) (bc := bc) (bs := bs) dL_law_723 rfl cl_L_68 wd_730 wd_731 o1 o2 w ?_
  rintro r h1 ⟨v, rfl, w⟩ ok
  have lk1 := fun j hj => SCR_lk1 sc ok j hj
  show ex_GK 168 12 mL_law (d + 21) 726 [.ref 10000000, .ref 0, .ref 168, .int (nI (8 * t))] [.int v] h1 bc bs Q
  refine ek_aload_n (q := 727) (x := 168) dL_law_726 rfl ?_
  refine ek_aload_n (q := 728) (x := 10000000) dL_law_727 rfl ?_
  refine ek_iload_n (q := 729) (x := nI (8 * t)) dL_law_728 rfl ?_
  refine ek_iconst (q := 730) (v := 1) dL_law_729 (by decide) ?_
  refine ek_iadd (q := 731) dL_law_730 ?_
  refine ek_iald (q := 732) dL_law_731 (lk1 1 (by decide)).1 (lk1 1 (by decide)).2 ?_
  refine ek_aload_n (q := 733) (x := 10000000) dL_law_732 rfl ?_
  refine ek_iload_n (q := 734) (x := nI (8 * t)) dL_law_733 rfl ?_
  refine ek_iconst (q := 735) (v := 2) dL_law_734 (by decide) ?_
  refine ek_iadd (q := 736) dL_law_735 ?_
  refine ek_iald (q := 737) dL_law_736 (lk1 2 (by decide)).1 (lk1 2 (by decide)).2 ?_
  refine ek_aload_n (q := 738) (x := 10000000) dL_law_737 rfl ?_
  refine ek_iload_n (q := 739) (x := nI (8 * t)) dL_law_738 rfl ?_
  refine ek_iconst (q := 740) (v := 3) dL_law_739 (by decide) ?_
  refine ek_iadd (q := 741) dL_law_740 ?_
  refine ek_iald (q := 742) dL_law_741 (lk1 3 (by decide)).1 (lk1 3 (by decide)).2 ?_
  refine ek_aload_n (q := 743) (x := 10000000) dL_law_742 rfl ?_
  refine ek_iload_n (q := 744) (x := nI (8 * t)) dL_law_743 rfl ?_
  refine ek_iconst (q := 745) (v := 4) dL_law_744 (by decide) ?_
  refine ek_iadd (q := 746) dL_law_745 ?_
  refine ek_iald (q := 747) dL_law_746 (lk1 4 (by decide)).1 (lk1 4 (by decide)).2 ?_
  refine ek_callV (a2 := 168) (c2 := 12) (q := 750) (M := mL_law) (st := [.int v]) (bc := bc) (bs := bs) dL_law_747 rfl cl_L_71 wd_1956 wd_1957 w ?_
  rintro r h2 ⟨rfl, dn⟩
  show ex_G mL_law (d + 21) 750 [.ref 10000000, .ref 0, .ref 168, .int (nI (8 * t))] [.int v, .int v] h2 bc bs Q
  refine ex_icmp_eq (tgt := 1783) (q := 753) dL_law_750 (fun _ => ?_) (fun c => absurd rfl c)
  refine ex_iinc (q := 1786) (x := nI (8 * t)) (v := nI (8 * (t + 1))) (ls' := [.ref 10000000, .ref 0, .ref 168, .int (nI (8 * (t + 1)))]) dL_law_1783 rfl (law_i8 t) rfl ?_
  exact ex_goto (tgt := 18) dL_law_1786 (loop h2 dn)
set_option maxRecDepth 100000 in
theorem LW_twin (o1 : ah_o h 0 11) (o2 : ah_o h 168 12) (sc : SCR h S len t) (w : ex_S yX11_twin mX11_twin (d + 3) [.ref 0, .int (S (8 * t + 1))] h 3 207 (fun r h1 => ∃ v : Int32, r = some (.int v) ∧ ex_S yX12_twin mX12_twin (d + 2) [.ref 168, .int (S (8 * t + 1))] h1 0 0 (fun r' h2 => r' = some (.int v) ∧ P h2))) (loop : ∀ h2, P h2 → ex_G mL_law (d + 21) 18 [.ref 10000000, .ref 0, .ref 168, .int (nI (8 * (t + 1)))] [] h2 bc bs Q) : ex_G mL_law (d + 21) 755 [.ref 10000000, .ref 0, .ref 168, .int (nI (8 * t))] [] h (bc + 3) (bs + 207) Q := by
  have lk := fun j hj => SCR_lk sc j hj
  refine ex_aload_n (q := 756) (x := 0) dL_law_755 rfl ?_
  refine ex_aload_n (q := 757) (x := 10000000) dL_law_756 rfl ?_
  refine ex_iload_n (q := 758) (x := nI (8 * t)) dL_law_757 rfl ?_
  refine ex_iconst (q := 759) (v := 1) dL_law_758 (by decide) ?_
  refine ex_iadd (q := 760) dL_law_759 ?_
  refine ex_ialdV (q := 761) dL_law_760 (lk 1 (by decide)).1 (lk 1 (by decide)).2 ?_
  refine ex_callVa (a2 := 168) (c2 := 12) (q := 764) (M := mL_law) (c := 11) (st := []) (bc := bc) (bs := bs) dL_law_761 rfl cl_L_72 wd_748 wd_749 o1 o2 w ?_
  rintro r h1 ⟨v, rfl, w⟩ ok
  have lk1 := fun j hj => SCR_lk1 sc ok j hj
  show ex_GK 168 12 mL_law (d + 21) 764 [.ref 10000000, .ref 0, .ref 168, .int (nI (8 * t))] [.int v] h1 bc bs Q
  refine ek_aload_n (q := 765) (x := 168) dL_law_764 rfl ?_
  refine ek_aload_n (q := 766) (x := 10000000) dL_law_765 rfl ?_
  refine ek_iload_n (q := 767) (x := nI (8 * t)) dL_law_766 rfl ?_
  refine ek_iconst (q := 768) (v := 1) dL_law_767 (by decide) ?_
  refine ek_iadd (q := 769) dL_law_768 ?_
  refine ek_iald (q := 770) dL_law_769 (lk1 1 (by decide)).1 (lk1 1 (by decide)).2 ?_
  refine ek_callV (a2 := 168) (c2 := 12) (q := 773) (M := mL_law) (st := [.int v]) (bc := bc) (bs := bs) dL_law_770 rfl cl_L_75 wd_1952 wd_1953 w ?_
  rintro r h2 ⟨rfl, dn⟩
  show ex_G mL_law (d + 21) 773 [.ref 10000000, .ref 0, .ref 168, .int (nI (8 * t))] [.int v, .int v] h2 bc bs Q
  refine ex_icmp_eq (tgt := 1783) (q := 776) dL_law_773 (fun _ => ?_) (fun c => absurd rfl c)
  refine ex_iinc (q := 1786) (x := nI (8 * t)) (v := nI (8 * (t + 1))) (ls' := [.ref 10000000, .ref 0, .ref 168, .int (nI (8 * (t + 1)))]) dL_law_1783 rfl (law_i8 t) rfl ?_
  exact ex_goto (tgt := 18) dL_law_1786 (loop h2 dn)
set_option maxRecDepth 100000 in
theorem LW_undo (o1 : ah_o h 0 11) (o2 : ah_o h 168 12) (sc : SCR h S len t) (w : ex_S yX11_undo mX11_undo (d + 3) [.ref 0, .int (S (8 * t + 1))] h 0 0 (fun r h1 => ∃ v : Int32, r = some (.int v) ∧ ex_S yX12_undo mX12_undo (d + 2) [.ref 168, .int (S (8 * t + 1))] h1 0 0 (fun r' h2 => r' = some (.int v) ∧ P h2))) (loop : ∀ h2, P h2 → ex_G mL_law (d + 21) 18 [.ref 10000000, .ref 0, .ref 168, .int (nI (8 * (t + 1)))] [] h2 bc bs Q) : ex_G mL_law (d + 21) 778 [.ref 10000000, .ref 0, .ref 168, .int (nI (8 * t))] [] h bc bs Q := by
  have lk := fun j hj => SCR_lk sc j hj
  refine ex_aload_n (q := 779) (x := 0) dL_law_778 rfl ?_
  refine ex_aload_n (q := 780) (x := 10000000) dL_law_779 rfl ?_
  refine ex_iload_n (q := 781) (x := nI (8 * t)) dL_law_780 rfl ?_
  refine ex_iconst (q := 782) (v := 1) dL_law_781 (by decide) ?_
  refine ex_iadd (q := 783) dL_law_782 ?_
  refine ex_ialdV (q := 784) dL_law_783 (lk 1 (by decide)).1 (lk 1 (by decide)).2 ?_
  refine ex_callVa (a2 := 168) (c2 := 12) (q := 787) (M := mL_law) (c := 11) (st := []) (bc := bc) (bs := bs) dL_law_784 rfl cl_L_76 wd_752 wd_753 o1 o2 w ?_
  rintro r h1 ⟨v, rfl, w⟩ ok
  have lk1 := fun j hj => SCR_lk1 sc ok j hj
  show ex_GK 168 12 mL_law (d + 21) 787 [.ref 10000000, .ref 0, .ref 168, .int (nI (8 * t))] [.int v] h1 bc bs Q
  refine ek_aload_n (q := 788) (x := 168) dL_law_787 rfl ?_
  refine ek_aload_n (q := 789) (x := 10000000) dL_law_788 rfl ?_
  refine ek_iload_n (q := 790) (x := nI (8 * t)) dL_law_789 rfl ?_
  refine ek_iconst (q := 791) (v := 1) dL_law_790 (by decide) ?_
  refine ek_iadd (q := 792) dL_law_791 ?_
  refine ek_iald (q := 793) dL_law_792 (lk1 1 (by decide)).1 (lk1 1 (by decide)).2 ?_
  refine ek_callV (a2 := 168) (c2 := 12) (q := 796) (M := mL_law) (st := [.int v]) (bc := bc) (bs := bs) dL_law_793 rfl cl_L_79 wd_1948 wd_1949 w ?_
  rintro r h2 ⟨rfl, dn⟩
  show ex_G mL_law (d + 21) 796 [.ref 10000000, .ref 0, .ref 168, .int (nI (8 * t))] [.int v, .int v] h2 bc bs Q
  refine ex_icmp_eq (tgt := 1783) (q := 799) dL_law_796 (fun _ => ?_) (fun c => absurd rfl c)
  refine ex_iinc (q := 1786) (x := nI (8 * t)) (v := nI (8 * (t + 1))) (ls' := [.ref 10000000, .ref 0, .ref 168, .int (nI (8 * (t + 1)))]) dL_law_1783 rfl (law_i8 t) rfl ?_
  exact ex_goto (tgt := 18) dL_law_1786 (loop h2 dn)
set_option maxRecDepth 100000 in
theorem LW_sign (o1 : ah_o h 0 11) (o2 : ah_o h 168 12) (sc : SCR h S len t) (w : ex_S yX11_sign mX11_sign (d + 5) [.ref 0, .int (S (8 * t + 1)), .int (S (8 * t + 2))] h 0 0 (fun r h1 => ∃ v : Int32, r = some (.int v) ∧ ex_S yX12_sign mX12_sign (d + 5) [.ref 168, .int (S (8 * t + 1)), .int (S (8 * t + 2))] h1 0 0 (fun r' h2 => r' = some (.int v) ∧ P h2))) (loop : ∀ h2, P h2 → ex_G mL_law (d + 21) 18 [.ref 10000000, .ref 0, .ref 168, .int (nI (8 * (t + 1)))] [] h2 bc bs Q) : ex_G mL_law (d + 21) 801 [.ref 10000000, .ref 0, .ref 168, .int (nI (8 * t))] [] h bc bs Q := by
  have lk := fun j hj => SCR_lk sc j hj
  refine ex_aload_n (q := 802) (x := 0) dL_law_801 rfl ?_
  refine ex_aload_n (q := 803) (x := 10000000) dL_law_802 rfl ?_
  refine ex_iload_n (q := 804) (x := nI (8 * t)) dL_law_803 rfl ?_
  refine ex_iconst (q := 805) (v := 1) dL_law_804 (by decide) ?_
  refine ex_iadd (q := 806) dL_law_805 ?_
  refine ex_ialdV (q := 807) dL_law_806 (lk 1 (by decide)).1 (lk 1 (by decide)).2 ?_
  refine ex_aload_n (q := 808) (x := 10000000) dL_law_807 rfl ?_
  refine ex_iload_n (q := 809) (x := nI (8 * t)) dL_law_808 rfl ?_
  refine ex_iconst (q := 810) (v := 2) dL_law_809 (by decide) ?_
  refine ex_iadd (q := 811) dL_law_810 ?_
  refine ex_ialdV (q := 812) dL_law_811 (lk 2 (by decide)).1 (lk 2 (by decide)).2 ?_
  refine ex_callVa (a2 := 168) (c2 := 12) (q := 815) (M := mL_law) (c := 11) (st := []) (bc := bc) (bs := bs) dL_law_812 rfl cl_L_80 wd_766 wd_767 o1 o2 w ?_
  rintro r h1 ⟨v, rfl, w⟩ ok
  have lk1 := fun j hj => SCR_lk1 sc ok j hj
  show ex_GK 168 12 mL_law (d + 21) 815 [.ref 10000000, .ref 0, .ref 168, .int (nI (8 * t))] [.int v] h1 bc bs Q
  refine ek_aload_n (q := 816) (x := 168) dL_law_815 rfl ?_
  refine ek_aload_n (q := 817) (x := 10000000) dL_law_816 rfl ?_
  refine ek_iload_n (q := 818) (x := nI (8 * t)) dL_law_817 rfl ?_
  refine ek_iconst (q := 819) (v := 1) dL_law_818 (by decide) ?_
  refine ek_iadd (q := 820) dL_law_819 ?_
  refine ek_iald (q := 821) dL_law_820 (lk1 1 (by decide)).1 (lk1 1 (by decide)).2 ?_
  refine ek_aload_n (q := 822) (x := 10000000) dL_law_821 rfl ?_
  refine ek_iload_n (q := 823) (x := nI (8 * t)) dL_law_822 rfl ?_
  refine ek_iconst (q := 824) (v := 2) dL_law_823 (by decide) ?_
  refine ek_iadd (q := 825) dL_law_824 ?_
  refine ek_iald (q := 826) dL_law_825 (lk1 2 (by decide)).1 (lk1 2 (by decide)).2 ?_
  refine ek_callV (a2 := 168) (c2 := 12) (q := 829) (M := mL_law) (st := [.int v]) (bc := bc) (bs := bs) dL_law_826 rfl cl_L_83 wd_1690 wd_1691 w ?_
  rintro r h2 ⟨rfl, dn⟩
  show ex_G mL_law (d + 21) 829 [.ref 10000000, .ref 0, .ref 168, .int (nI (8 * t))] [.int v, .int v] h2 bc bs Q
  refine ex_icmp_eq (tgt := 1783) (q := 832) dL_law_829 (fun _ => ?_) (fun c => absurd rfl c)
  refine ex_iinc (q := 1786) (x := nI (8 * t)) (v := nI (8 * (t + 1))) (ls' := [.ref 10000000, .ref 0, .ref 168, .int (nI (8 * (t + 1)))]) dL_law_1783 rfl (law_i8 t) rfl ?_
  exact ex_goto (tgt := 18) dL_law_1786 (loop h2 dn)
set_option maxRecDepth 100000 in
theorem LW_pieceOf (o1 : ah_o h 0 11) (o2 : ah_o h 168 12) (sc : SCR h S len t) (w : ex_S yX11_pieceOf mX11_pieceOf (d + 5) [.ref 0, .int (S (8 * t + 1)), .int (S (8 * t + 2))] h 0 0 (fun r h1 => ∃ v : Int32, r = some (.int v) ∧ ex_S yX12_pieceOf mX12_pieceOf (d + 5) [.ref 168, .int (S (8 * t + 1)), .int (S (8 * t + 2))] h1 0 0 (fun r' h2 => r' = some (.int v) ∧ P h2))) (loop : ∀ h2, P h2 → ex_G mL_law (d + 21) 18 [.ref 10000000, .ref 0, .ref 168, .int (nI (8 * (t + 1)))] [] h2 bc bs Q) : ex_G mL_law (d + 21) 834 [.ref 10000000, .ref 0, .ref 168, .int (nI (8 * t))] [] h bc bs Q := by
  have lk := fun j hj => SCR_lk sc j hj
  refine ex_aload_n (q := 835) (x := 0) dL_law_834 rfl ?_
  refine ex_aload_n (q := 836) (x := 10000000) dL_law_835 rfl ?_
  refine ex_iload_n (q := 837) (x := nI (8 * t)) dL_law_836 rfl ?_
  refine ex_iconst (q := 838) (v := 1) dL_law_837 (by decide) ?_
  refine ex_iadd (q := 839) dL_law_838 ?_
  refine ex_ialdV (q := 840) dL_law_839 (lk 1 (by decide)).1 (lk 1 (by decide)).2 ?_
  refine ex_aload_n (q := 841) (x := 10000000) dL_law_840 rfl ?_
  refine ex_iload_n (q := 842) (x := nI (8 * t)) dL_law_841 rfl ?_
  refine ex_iconst (q := 843) (v := 2) dL_law_842 (by decide) ?_
  refine ex_iadd (q := 844) dL_law_843 ?_
  refine ex_ialdV (q := 845) dL_law_844 (lk 2 (by decide)).1 (lk 2 (by decide)).2 ?_
  refine ex_callVa (a2 := 168) (c2 := 12) (q := 848) (M := mL_law) (c := 11) (st := []) (bc := bc) (bs := bs) dL_law_845 rfl cl_L_84 wd_770 wd_771 o1 o2 w ?_
  rintro r h1 ⟨v, rfl, w⟩ ok
  have lk1 := fun j hj => SCR_lk1 sc ok j hj
  show ex_GK 168 12 mL_law (d + 21) 848 [.ref 10000000, .ref 0, .ref 168, .int (nI (8 * t))] [.int v] h1 bc bs Q
  refine ek_aload_n (q := 849) (x := 168) dL_law_848 rfl ?_
  refine ek_aload_n (q := 850) (x := 10000000) dL_law_849 rfl ?_
  refine ek_iload_n (q := 851) (x := nI (8 * t)) dL_law_850 rfl ?_
  refine ek_iconst (q := 852) (v := 1) dL_law_851 (by decide) ?_
  refine ek_iadd (q := 853) dL_law_852 ?_
  refine ek_iald (q := 854) dL_law_853 (lk1 1 (by decide)).1 (lk1 1 (by decide)).2 ?_
  refine ek_aload_n (q := 855) (x := 10000000) dL_law_854 rfl ?_
  refine ek_iload_n (q := 856) (x := nI (8 * t)) dL_law_855 rfl ?_
  refine ek_iconst (q := 857) (v := 2) dL_law_856 (by decide) ?_
  refine ek_iadd (q := 858) dL_law_857 ?_
  refine ek_iald (q := 859) dL_law_858 (lk1 2 (by decide)).1 (lk1 2 (by decide)).2 ?_
  refine ek_callV (a2 := 168) (c2 := 12) (q := 862) (M := mL_law) (st := [.int v]) (bc := bc) (bs := bs) dL_law_859 rfl cl_L_87 wd_1694 wd_1695 w ?_
  rintro r h2 ⟨rfl, dn⟩
  show ex_G mL_law (d + 21) 862 [.ref 10000000, .ref 0, .ref 168, .int (nI (8 * t))] [.int v, .int v] h2 bc bs Q
  refine ex_icmp_eq (tgt := 1783) (q := 865) dL_law_862 (fun _ => ?_) (fun c => absurd rfl c)
  refine ex_iinc (q := 1786) (x := nI (8 * t)) (v := nI (8 * (t + 1))) (ls' := [.ref 10000000, .ref 0, .ref 168, .int (nI (8 * (t + 1)))]) dL_law_1783 rfl (law_i8 t) rfl ?_
  exact ex_goto (tgt := 18) dL_law_1786 (loop h2 dn)
set_option maxRecDepth 100000 in
theorem LW_linking (o1 : ah_o h 0 11) (o2 : ah_o h 168 12) (sc : SCR h S len t) (w : ex_S yX11_linking mX11_linking (d + 5) [.ref 0, .int (S (8 * t + 1)), .int (S (8 * t + 2)), .int (S (8 * t + 3))] h 0 0 (fun r h1 => ∃ v : Int32, r = some (.int v) ∧ ex_S yX12_linking mX12_linking (d + 5) [.ref 168, .int (S (8 * t + 1)), .int (S (8 * t + 2)), .int (S (8 * t + 3))] h1 0 0 (fun r' h2 => r' = some (.int v) ∧ P h2))) (loop : ∀ h2, P h2 → ex_G mL_law (d + 21) 18 [.ref 10000000, .ref 0, .ref 168, .int (nI (8 * (t + 1)))] [] h2 bc bs Q) : ex_G mL_law (d + 21) 867 [.ref 10000000, .ref 0, .ref 168, .int (nI (8 * t))] [] h bc bs Q := by
  have lk := fun j hj => SCR_lk sc j hj
  refine ex_aload_n (q := 868) (x := 0) dL_law_867 rfl ?_
  refine ex_aload_n (q := 869) (x := 10000000) dL_law_868 rfl ?_
  refine ex_iload_n (q := 870) (x := nI (8 * t)) dL_law_869 rfl ?_
  refine ex_iconst (q := 871) (v := 1) dL_law_870 (by decide) ?_
  refine ex_iadd (q := 872) dL_law_871 ?_
  refine ex_ialdV (q := 873) dL_law_872 (lk 1 (by decide)).1 (lk 1 (by decide)).2 ?_
  refine ex_aload_n (q := 874) (x := 10000000) dL_law_873 rfl ?_
  refine ex_iload_n (q := 875) (x := nI (8 * t)) dL_law_874 rfl ?_
  refine ex_iconst (q := 876) (v := 2) dL_law_875 (by decide) ?_
  refine ex_iadd (q := 877) dL_law_876 ?_
  refine ex_ialdV (q := 878) dL_law_877 (lk 2 (by decide)).1 (lk 2 (by decide)).2 ?_
  refine ex_aload_n (q := 879) (x := 10000000) dL_law_878 rfl ?_
  refine ex_iload_n (q := 880) (x := nI (8 * t)) dL_law_879 rfl ?_
  refine ex_iconst (q := 881) (v := 3) dL_law_880 (by decide) ?_
  refine ex_iadd (q := 882) dL_law_881 ?_
  refine ex_ialdV (q := 883) dL_law_882 (lk 3 (by decide)).1 (lk 3 (by decide)).2 ?_
  refine ex_callVa (a2 := 168) (c2 := 12) (q := 886) (M := mL_law) (c := 11) (st := []) (bc := bc) (bs := bs) dL_law_883 rfl cl_L_88 wd_774 wd_775 o1 o2 w ?_
  rintro r h1 ⟨v, rfl, w⟩ ok
  have lk1 := fun j hj => SCR_lk1 sc ok j hj
  show ex_GK 168 12 mL_law (d + 21) 886 [.ref 10000000, .ref 0, .ref 168, .int (nI (8 * t))] [.int v] h1 bc bs Q
  refine ek_aload_n (q := 887) (x := 168) dL_law_886 rfl ?_
  refine ek_aload_n (q := 888) (x := 10000000) dL_law_887 rfl ?_
  refine ek_iload_n (q := 889) (x := nI (8 * t)) dL_law_888 rfl ?_
  refine ek_iconst (q := 890) (v := 1) dL_law_889 (by decide) ?_
  refine ek_iadd (q := 891) dL_law_890 ?_
  refine ek_iald (q := 892) dL_law_891 (lk1 1 (by decide)).1 (lk1 1 (by decide)).2 ?_
  refine ek_aload_n (q := 893) (x := 10000000) dL_law_892 rfl ?_
  refine ek_iload_n (q := 894) (x := nI (8 * t)) dL_law_893 rfl ?_
  refine ek_iconst (q := 895) (v := 2) dL_law_894 (by decide) ?_
  refine ek_iadd (q := 896) dL_law_895 ?_
  refine ek_iald (q := 897) dL_law_896 (lk1 2 (by decide)).1 (lk1 2 (by decide)).2 ?_
  refine ek_aload_n (q := 898) (x := 10000000) dL_law_897 rfl ?_
  refine ek_iload_n (q := 899) (x := nI (8 * t)) dL_law_898 rfl ?_
  refine ek_iconst (q := 900) (v := 3) dL_law_899 (by decide) ?_
  refine ek_iadd (q := 901) dL_law_900 ?_
  refine ek_iald (q := 902) dL_law_901 (lk1 3 (by decide)).1 (lk1 3 (by decide)).2 ?_
  refine ek_callV (a2 := 168) (c2 := 12) (q := 905) (M := mL_law) (st := [.int v]) (bc := bc) (bs := bs) dL_law_902 rfl cl_L_91 wd_1698 wd_1699 w ?_
  rintro r h2 ⟨rfl, dn⟩
  show ex_G mL_law (d + 21) 905 [.ref 10000000, .ref 0, .ref 168, .int (nI (8 * t))] [.int v, .int v] h2 bc bs Q
  refine ex_icmp_eq (tgt := 1783) (q := 908) dL_law_905 (fun _ => ?_) (fun c => absurd rfl c)
  refine ex_iinc (q := 1786) (x := nI (8 * t)) (v := nI (8 * (t + 1))) (ls' := [.ref 10000000, .ref 0, .ref 168, .int (nI (8 * (t + 1)))]) dL_law_1783 rfl (law_i8 t) rfl ?_
  exact ex_goto (tgt := 18) dL_law_1786 (loop h2 dn)
set_option maxRecDepth 100000 in
theorem LW_colours (o1 : ah_o h 0 11) (o2 : ah_o h 168 12) (sc : SCR h S len t) (w : ex_S yX11_colours mX11_colours (d + 5) [.ref 0, .int (S (8 * t + 1)), .int (S (8 * t + 2))] h 0 0 (fun r h1 => ∃ v : Int32, r = some (.int v) ∧ ex_S yX12_colours mX12_colours (d + 5) [.ref 168, .int (S (8 * t + 1)), .int (S (8 * t + 2))] h1 0 0 (fun r' h2 => r' = some (.int v) ∧ P h2))) (loop : ∀ h2, P h2 → ex_G mL_law (d + 21) 18 [.ref 10000000, .ref 0, .ref 168, .int (nI (8 * (t + 1)))] [] h2 bc bs Q) : ex_G mL_law (d + 21) 910 [.ref 10000000, .ref 0, .ref 168, .int (nI (8 * t))] [] h bc bs Q := by
  have lk := fun j hj => SCR_lk sc j hj
  refine ex_aload_n (q := 911) (x := 0) dL_law_910 rfl ?_
  refine ex_aload_n (q := 912) (x := 10000000) dL_law_911 rfl ?_
  refine ex_iload_n (q := 913) (x := nI (8 * t)) dL_law_912 rfl ?_
  refine ex_iconst (q := 914) (v := 1) dL_law_913 (by decide) ?_
  refine ex_iadd (q := 915) dL_law_914 ?_
  refine ex_ialdV (q := 916) dL_law_915 (lk 1 (by decide)).1 (lk 1 (by decide)).2 ?_
  refine ex_aload_n (q := 917) (x := 10000000) dL_law_916 rfl ?_
  refine ex_iload_n (q := 918) (x := nI (8 * t)) dL_law_917 rfl ?_
  refine ex_iconst (q := 919) (v := 2) dL_law_918 (by decide) ?_
  refine ex_iadd (q := 920) dL_law_919 ?_
  refine ex_ialdV (q := 921) dL_law_920 (lk 2 (by decide)).1 (lk 2 (by decide)).2 ?_
  refine ex_callVa (a2 := 168) (c2 := 12) (q := 924) (M := mL_law) (c := 11) (st := []) (bc := bc) (bs := bs) dL_law_921 rfl cl_L_92 wd_782 wd_783 o1 o2 w ?_
  rintro r h1 ⟨v, rfl, w⟩ ok
  have lk1 := fun j hj => SCR_lk1 sc ok j hj
  show ex_GK 168 12 mL_law (d + 21) 924 [.ref 10000000, .ref 0, .ref 168, .int (nI (8 * t))] [.int v] h1 bc bs Q
  refine ek_aload_n (q := 925) (x := 168) dL_law_924 rfl ?_
  refine ek_aload_n (q := 926) (x := 10000000) dL_law_925 rfl ?_
  refine ek_iload_n (q := 927) (x := nI (8 * t)) dL_law_926 rfl ?_
  refine ek_iconst (q := 928) (v := 1) dL_law_927 (by decide) ?_
  refine ek_iadd (q := 929) dL_law_928 ?_
  refine ek_iald (q := 930) dL_law_929 (lk1 1 (by decide)).1 (lk1 1 (by decide)).2 ?_
  refine ek_aload_n (q := 931) (x := 10000000) dL_law_930 rfl ?_
  refine ek_iload_n (q := 932) (x := nI (8 * t)) dL_law_931 rfl ?_
  refine ek_iconst (q := 933) (v := 2) dL_law_932 (by decide) ?_
  refine ek_iadd (q := 934) dL_law_933 ?_
  refine ek_iald (q := 935) dL_law_934 (lk1 2 (by decide)).1 (lk1 2 (by decide)).2 ?_
  refine ek_callV (a2 := 168) (c2 := 12) (q := 938) (M := mL_law) (st := [.int v]) (bc := bc) (bs := bs) dL_law_935 rfl cl_L_95 wd_1702 wd_1703 w ?_
  rintro r h2 ⟨rfl, dn⟩
  show ex_G mL_law (d + 21) 938 [.ref 10000000, .ref 0, .ref 168, .int (nI (8 * t))] [.int v, .int v] h2 bc bs Q
  refine ex_icmp_eq (tgt := 1783) (q := 941) dL_law_938 (fun _ => ?_) (fun c => absurd rfl c)
  refine ex_iinc (q := 1786) (x := nI (8 * t)) (v := nI (8 * (t + 1))) (ls' := [.ref 10000000, .ref 0, .ref 168, .int (nI (8 * (t + 1)))]) dL_law_1783 rfl (law_i8 t) rfl ?_
  exact ex_goto (tgt := 18) dL_law_1786 (loop h2 dn)
set_option maxRecDepth 100000 in
theorem LW_bracket (o1 : ah_o h 0 11) (o2 : ah_o h 168 12) (sc : SCR h S len t) (w : ex_S yX11_bracket mX11_bracket (d + 18) [.ref 0, .int (S (8 * t + 1))] h 0 0 (fun r h1 => ∃ v : Int32, r = some (.int v) ∧ ex_S yX12_bracket mX12_bracket (d + 6) [.ref 168, .int (S (8 * t + 1))] h1 0 0 (fun r' h2 => r' = some (.int v) ∧ P h2))) (loop : ∀ h2, P h2 → ex_G mL_law (d + 21) 18 [.ref 10000000, .ref 0, .ref 168, .int (nI (8 * (t + 1)))] [] h2 bc bs Q) : ex_G mL_law (d + 21) 943 [.ref 10000000, .ref 0, .ref 168, .int (nI (8 * t))] [] h bc bs Q := by
  have lk := fun j hj => SCR_lk sc j hj
  refine ex_aload_n (q := 944) (x := 0) dL_law_943 rfl ?_
  refine ex_aload_n (q := 945) (x := 10000000) dL_law_944 rfl ?_
  refine ex_iload_n (q := 946) (x := nI (8 * t)) dL_law_945 rfl ?_
  refine ex_iconst (q := 947) (v := 1) dL_law_946 (by decide) ?_
  refine ex_iadd (q := 948) dL_law_947 ?_
  refine ex_ialdV (q := 949) dL_law_948 (lk 1 (by decide)).1 (lk 1 (by decide)).2 ?_
  refine ex_callVa (a2 := 168) (c2 := 12) (q := 952) (M := mL_law) (c := 11) (st := []) (bc := bc) (bs := bs) dL_law_949 rfl cl_L_96 wd_823 wd_824 o1 o2 w ?_
  rintro r h1 ⟨v, rfl, w⟩ ok
  have lk1 := fun j hj => SCR_lk1 sc ok j hj
  show ex_GK 168 12 mL_law (d + 21) 952 [.ref 10000000, .ref 0, .ref 168, .int (nI (8 * t))] [.int v] h1 bc bs Q
  refine ek_aload_n (q := 953) (x := 168) dL_law_952 rfl ?_
  refine ek_aload_n (q := 954) (x := 10000000) dL_law_953 rfl ?_
  refine ek_iload_n (q := 955) (x := nI (8 * t)) dL_law_954 rfl ?_
  refine ek_iconst (q := 956) (v := 1) dL_law_955 (by decide) ?_
  refine ek_iadd (q := 957) dL_law_956 ?_
  refine ek_iald (q := 958) dL_law_957 (lk1 1 (by decide)).1 (lk1 1 (by decide)).2 ?_
  refine ek_callV (a2 := 168) (c2 := 12) (q := 961) (M := mL_law) (st := [.int v]) (bc := bc) (bs := bs) dL_law_958 rfl cl_L_99 wd_1713 wd_1714 w ?_
  rintro r h2 ⟨rfl, dn⟩
  show ex_G mL_law (d + 21) 961 [.ref 10000000, .ref 0, .ref 168, .int (nI (8 * t))] [.int v, .int v] h2 bc bs Q
  refine ex_icmp_eq (tgt := 1783) (q := 964) dL_law_961 (fun _ => ?_) (fun c => absurd rfl c)
  refine ex_iinc (q := 1786) (x := nI (8 * t)) (v := nI (8 * (t + 1))) (ls' := [.ref 10000000, .ref 0, .ref 168, .int (nI (8 * (t + 1)))]) dL_law_1783 rfl (law_i8 t) rfl ?_
  exact ex_goto (tgt := 18) dL_law_1786 (loop h2 dn)
set_option maxRecDepth 100000 in
theorem LW_polynomial (o1 : ah_o h 0 11) (o2 : ah_o h 168 12) (sc : SCR h S len t) (w : ex_S yX11_polynomial mX11_polynomial (d + 19) [.ref 0, .int (S (8 * t + 1))] h 0 0 (fun r h1 => ∃ v : Int32, r = some (.int v) ∧ ex_S yX12_polynomial mX12_polynomial (d + 6) [.ref 168, .int (S (8 * t + 1))] h1 0 0 (fun r' h2 => r' = some (.int v) ∧ P h2))) (loop : ∀ h2, P h2 → ex_G mL_law (d + 21) 18 [.ref 10000000, .ref 0, .ref 168, .int (nI (8 * (t + 1)))] [] h2 bc bs Q) : ex_G mL_law (d + 21) 966 [.ref 10000000, .ref 0, .ref 168, .int (nI (8 * t))] [] h bc bs Q := by
  have lk := fun j hj => SCR_lk sc j hj
  refine ex_aload_n (q := 967) (x := 0) dL_law_966 rfl ?_
  refine ex_aload_n (q := 968) (x := 10000000) dL_law_967 rfl ?_
  refine ex_iload_n (q := 969) (x := nI (8 * t)) dL_law_968 rfl ?_
  refine ex_iconst (q := 970) (v := 1) dL_law_969 (by decide) ?_
  refine ex_iadd (q := 971) dL_law_970 ?_
  refine ex_ialdV (q := 972) dL_law_971 (lk 1 (by decide)).1 (lk 1 (by decide)).2 ?_
  refine ex_callVa (a2 := 168) (c2 := 12) (q := 975) (M := mL_law) (c := 11) (st := []) (bc := bc) (bs := bs) dL_law_972 rfl cl_L_100 wd_887 wd_888 o1 o2 w ?_
  rintro r h1 ⟨v, rfl, w⟩ ok
  have lk1 := fun j hj => SCR_lk1 sc ok j hj
  show ex_GK 168 12 mL_law (d + 21) 975 [.ref 10000000, .ref 0, .ref 168, .int (nI (8 * t))] [.int v] h1 bc bs Q
  refine ek_aload_n (q := 976) (x := 168) dL_law_975 rfl ?_
  refine ek_aload_n (q := 977) (x := 10000000) dL_law_976 rfl ?_
  refine ek_iload_n (q := 978) (x := nI (8 * t)) dL_law_977 rfl ?_
  refine ek_iconst (q := 979) (v := 1) dL_law_978 (by decide) ?_
  refine ek_iadd (q := 980) dL_law_979 ?_
  refine ek_iald (q := 981) dL_law_980 (lk1 1 (by decide)).1 (lk1 1 (by decide)).2 ?_
  refine ek_callV (a2 := 168) (c2 := 12) (q := 984) (M := mL_law) (st := [.int v]) (bc := bc) (bs := bs) dL_law_981 rfl cl_L_103 wd_1738 wd_1739 w ?_
  rintro r h2 ⟨rfl, dn⟩
  show ex_G mL_law (d + 21) 984 [.ref 10000000, .ref 0, .ref 168, .int (nI (8 * t))] [.int v, .int v] h2 bc bs Q
  refine ex_icmp_eq (tgt := 1783) (q := 987) dL_law_984 (fun _ => ?_) (fun c => absurd rfl c)
  refine ex_iinc (q := 1786) (x := nI (8 * t)) (v := nI (8 * (t + 1))) (ls' := [.ref 10000000, .ref 0, .ref 168, .int (nI (8 * (t + 1)))]) dL_law_1783 rfl (law_i8 t) rfl ?_
  exact ex_goto (tgt := 18) dL_law_1786 (loop h2 dn)
set_option maxRecDepth 100000 in
theorem LW_at (o1 : ah_o h 0 11) (o2 : ah_o h 168 12) (sc : SCR h S len t) (w : ex_S yX11_at mX11_at (d + 1) [.ref 0, .int (S (8 * t + 1))] h 0 0 (fun r h1 => ∃ v : Int64, r = some (.long v) ∧ ex_S yX12_at mX12_at (d + 1) [.ref 168, .int (S (8 * t + 1))] h1 0 0 (fun r' h2 => r' = some (.long v) ∧ P h2))) (loop : ∀ h2, P h2 → ex_G mL_law (d + 21) 18 [.ref 10000000, .ref 0, .ref 168, .int (nI (8 * (t + 1)))] [] h2 bc bs Q) : ex_G mL_law (d + 21) 989 [.ref 10000000, .ref 0, .ref 168, .int (nI (8 * t))] [] h bc bs Q := by
  have lk := fun j hj => SCR_lk sc j hj
  refine ex_aload_n (q := 990) (x := 0) dL_law_989 rfl ?_
  refine ex_aload_n (q := 991) (x := 10000000) dL_law_990 rfl ?_
  refine ex_iload_n (q := 992) (x := nI (8 * t)) dL_law_991 rfl ?_
  refine ex_iconst (q := 993) (v := 1) dL_law_992 (by decide) ?_
  refine ex_iadd (q := 994) dL_law_993 ?_
  refine ex_ialdV (q := 995) dL_law_994 (lk 1 (by decide)).1 (lk 1 (by decide)).2 ?_
  refine ex_callVa (a2 := 168) (c2 := 12) (q := 998) (M := mL_law) (c := 11) (st := []) (bc := bc) (bs := bs) dL_law_995 rfl cl_L_104 wd_900 wd_901 o1 o2 w ?_
  rintro r h1 ⟨v, rfl, w⟩ ok
  have lk1 := fun j hj => SCR_lk1 sc ok j hj
  show ex_GK 168 12 mL_law (d + 21) 998 [.ref 10000000, .ref 0, .ref 168, .int (nI (8 * t))] [.long v] h1 bc bs Q
  refine ek_aload_n (q := 999) (x := 168) dL_law_998 rfl ?_
  refine ek_aload_n (q := 1000) (x := 10000000) dL_law_999 rfl ?_
  refine ek_iload_n (q := 1001) (x := nI (8 * t)) dL_law_1000 rfl ?_
  refine ek_iconst (q := 1002) (v := 1) dL_law_1001 (by decide) ?_
  refine ek_iadd (q := 1003) dL_law_1002 ?_
  refine ek_iald (q := 1004) dL_law_1003 (lk1 1 (by decide)).1 (lk1 1 (by decide)).2 ?_
  refine ek_callV (a2 := 168) (c2 := 12) (q := 1007) (M := mL_law) (st := [.long v]) (bc := bc) (bs := bs) dL_law_1004 rfl cl_L_108 wd_1746 wd_1747 w ?_
  rintro r h2 ⟨rfl, dn⟩
  show ex_G mL_law (d + 21) 1007 [.ref 10000000, .ref 0, .ref 168, .int (nI (8 * t))] [.long v, .long v] h2 bc bs Q
  refine ex_lcmp (q := 1008) dL_law_1007 ?_
  refine ex_if_eq (tgt := 1783) (q := 1011) dL_law_1008 (fun _ => ?_) (fun c => absurd ((lg_cmp_eq v v).mpr rfl) c)
  refine ex_iinc (q := 1786) (x := nI (8 * t)) (v := nI (8 * (t + 1))) (ls' := [.ref 10000000, .ref 0, .ref 168, .int (nI (8 * (t + 1)))]) dL_law_1783 rfl (law_i8 t) rfl ?_
  exact ex_goto (tgt := 18) dL_law_1786 (loop h2 dn)
set_option maxRecDepth 100000 in
theorem LW_power (o1 : ah_o h 0 11) (o2 : ah_o h 168 12) (sc : SCR h S len t) (w : ex_S yX11_power mX11_power (d + 1) [.ref 0, .int (S (8 * t + 1))] h 0 0 (fun r h1 => ∃ v : Int32, r = some (.int v) ∧ ex_S yX12_power mX12_power (d + 2) [.ref 168, .int (S (8 * t + 1))] h1 0 0 (fun r' h2 => r' = some (.int v) ∧ P h2))) (loop : ∀ h2, P h2 → ex_G mL_law (d + 21) 18 [.ref 10000000, .ref 0, .ref 168, .int (nI (8 * (t + 1)))] [] h2 bc bs Q) : ex_G mL_law (d + 21) 1013 [.ref 10000000, .ref 0, .ref 168, .int (nI (8 * t))] [] h bc bs Q := by
  have lk := fun j hj => SCR_lk sc j hj
  refine ex_aload_n (q := 1014) (x := 0) dL_law_1013 rfl ?_
  refine ex_aload_n (q := 1015) (x := 10000000) dL_law_1014 rfl ?_
  refine ex_iload_n (q := 1016) (x := nI (8 * t)) dL_law_1015 rfl ?_
  refine ex_iconst (q := 1017) (v := 1) dL_law_1016 (by decide) ?_
  refine ex_iadd (q := 1018) dL_law_1017 ?_
  refine ex_ialdV (q := 1019) dL_law_1018 (lk 1 (by decide)).1 (lk 1 (by decide)).2 ?_
  refine ex_callVa (a2 := 168) (c2 := 12) (q := 1022) (M := mL_law) (c := 11) (st := []) (bc := bc) (bs := bs) dL_law_1019 rfl cl_L_109 wd_905 wd_906 o1 o2 w ?_
  rintro r h1 ⟨v, rfl, w⟩ ok
  have lk1 := fun j hj => SCR_lk1 sc ok j hj
  show ex_GK 168 12 mL_law (d + 21) 1022 [.ref 10000000, .ref 0, .ref 168, .int (nI (8 * t))] [.int v] h1 bc bs Q
  refine ek_aload_n (q := 1023) (x := 168) dL_law_1022 rfl ?_
  refine ek_aload_n (q := 1024) (x := 10000000) dL_law_1023 rfl ?_
  refine ek_iload_n (q := 1025) (x := nI (8 * t)) dL_law_1024 rfl ?_
  refine ek_iconst (q := 1026) (v := 1) dL_law_1025 (by decide) ?_
  refine ek_iadd (q := 1027) dL_law_1026 ?_
  refine ek_iald (q := 1028) dL_law_1027 (lk1 1 (by decide)).1 (lk1 1 (by decide)).2 ?_
  refine ek_callV (a2 := 168) (c2 := 12) (q := 1031) (M := mL_law) (st := [.int v]) (bc := bc) (bs := bs) dL_law_1028 rfl cl_L_112 wd_1752 wd_1753 w ?_
  rintro r h2 ⟨rfl, dn⟩
  show ex_G mL_law (d + 21) 1031 [.ref 10000000, .ref 0, .ref 168, .int (nI (8 * t))] [.int v, .int v] h2 bc bs Q
  refine ex_icmp_eq (tgt := 1783) (q := 1034) dL_law_1031 (fun _ => ?_) (fun c => absurd rfl c)
  refine ex_iinc (q := 1786) (x := nI (8 * t)) (v := nI (8 * (t + 1))) (ls' := [.ref 10000000, .ref 0, .ref 168, .int (nI (8 * (t + 1)))]) dL_law_1783 rfl (law_i8 t) rfl ?_
  exact ex_goto (tgt := 18) dL_law_1786 (loop h2 dn)
set_option maxRecDepth 100000 in
theorem LW_determinant (o1 : ah_o h 0 11) (o2 : ah_o h 168 12) (sc : SCR h S len t) (w : ex_S yX11_determinant mX11_determinant (d + 18) [.ref 0, .int (S (8 * t + 1))] h 0 0 (fun r h1 => ∃ v : Int64, r = some (.long v) ∧ ex_S yX12_determinant mX12_determinant (d + 6) [.ref 168, .int (S (8 * t + 1))] h1 0 0 (fun r' h2 => r' = some (.long v) ∧ P h2))) (loop : ∀ h2, P h2 → ex_G mL_law (d + 21) 18 [.ref 10000000, .ref 0, .ref 168, .int (nI (8 * (t + 1)))] [] h2 bc bs Q) : ex_G mL_law (d + 21) 1036 [.ref 10000000, .ref 0, .ref 168, .int (nI (8 * t))] [] h bc bs Q := by
  have lk := fun j hj => SCR_lk sc j hj
  refine ex_aload_n (q := 1037) (x := 0) dL_law_1036 rfl ?_
  refine ex_aload_n (q := 1038) (x := 10000000) dL_law_1037 rfl ?_
  refine ex_iload_n (q := 1039) (x := nI (8 * t)) dL_law_1038 rfl ?_
  refine ex_iconst (q := 1040) (v := 1) dL_law_1039 (by decide) ?_
  refine ex_iadd (q := 1041) dL_law_1040 ?_
  refine ex_ialdV (q := 1042) dL_law_1041 (lk 1 (by decide)).1 (lk 1 (by decide)).2 ?_
  refine ex_callVa (a2 := 168) (c2 := 12) (q := 1045) (M := mL_law) (c := 11) (st := []) (bc := bc) (bs := bs) dL_law_1042 rfl cl_L_113 wd_917 wd_918 o1 o2 w ?_
  rintro r h1 ⟨v, rfl, w⟩ ok
  have lk1 := fun j hj => SCR_lk1 sc ok j hj
  show ex_GK 168 12 mL_law (d + 21) 1045 [.ref 10000000, .ref 0, .ref 168, .int (nI (8 * t))] [.long v] h1 bc bs Q
  refine ek_aload_n (q := 1046) (x := 168) dL_law_1045 rfl ?_
  refine ek_aload_n (q := 1047) (x := 10000000) dL_law_1046 rfl ?_
  refine ek_iload_n (q := 1048) (x := nI (8 * t)) dL_law_1047 rfl ?_
  refine ek_iconst (q := 1049) (v := 1) dL_law_1048 (by decide) ?_
  refine ek_iadd (q := 1050) dL_law_1049 ?_
  refine ek_iald (q := 1051) dL_law_1050 (lk1 1 (by decide)).1 (lk1 1 (by decide)).2 ?_
  refine ek_callV (a2 := 168) (c2 := 12) (q := 1054) (M := mL_law) (st := [.long v]) (bc := bc) (bs := bs) dL_law_1051 rfl cl_L_116 wd_1756 wd_1757 w ?_
  rintro r h2 ⟨rfl, dn⟩
  show ex_G mL_law (d + 21) 1054 [.ref 10000000, .ref 0, .ref 168, .int (nI (8 * t))] [.long v, .long v] h2 bc bs Q
  refine ex_lcmp (q := 1055) dL_law_1054 ?_
  refine ex_if_eq (tgt := 1783) (q := 1058) dL_law_1055 (fun _ => ?_) (fun c => absurd ((lg_cmp_eq v v).mpr rfl) c)
  refine ex_iinc (q := 1786) (x := nI (8 * t)) (v := nI (8 * (t + 1))) (ls' := [.ref 10000000, .ref 0, .ref 168, .int (nI (8 * (t + 1)))]) dL_law_1783 rfl (law_i8 t) rfl ?_
  exact ex_goto (tgt := 18) dL_law_1786 (loop h2 dn)
set_option maxRecDepth 100000 in
theorem LW_gauss (o1 : ah_o h 0 11) (o2 : ah_o h 168 12) (sc : SCR h S len t) (w : ex_S yX11_gauss mX11_gauss (d + 5) [.ref 0, .int (S (8 * t + 1))] h 0 0 (fun r h1 => ∃ v : Int32, r = some (.int v) ∧ ex_S yX12_gauss mX12_gauss (d + 5) [.ref 168, .int (S (8 * t + 1))] h1 0 0 (fun r' h2 => r' = some (.int v) ∧ P h2))) (loop : ∀ h2, P h2 → ex_G mL_law (d + 21) 18 [.ref 10000000, .ref 0, .ref 168, .int (nI (8 * (t + 1)))] [] h2 bc bs Q) : ex_G mL_law (d + 21) 1060 [.ref 10000000, .ref 0, .ref 168, .int (nI (8 * t))] [] h bc bs Q := by
  have lk := fun j hj => SCR_lk sc j hj
  refine ex_aload_n (q := 1061) (x := 0) dL_law_1060 rfl ?_
  refine ex_aload_n (q := 1062) (x := 10000000) dL_law_1061 rfl ?_
  refine ex_iload_n (q := 1063) (x := nI (8 * t)) dL_law_1062 rfl ?_
  refine ex_iconst (q := 1064) (v := 1) dL_law_1063 (by decide) ?_
  refine ex_iadd (q := 1065) dL_law_1064 ?_
  refine ex_ialdV (q := 1066) dL_law_1065 (lk 1 (by decide)).1 (lk 1 (by decide)).2 ?_
  refine ex_callVa (a2 := 168) (c2 := 12) (q := 1069) (M := mL_law) (c := 11) (st := []) (bc := bc) (bs := bs) dL_law_1066 rfl cl_L_117 wd_929 wd_930 o1 o2 w ?_
  rintro r h1 ⟨v, rfl, w⟩ ok
  have lk1 := fun j hj => SCR_lk1 sc ok j hj
  show ex_GK 168 12 mL_law (d + 21) 1069 [.ref 10000000, .ref 0, .ref 168, .int (nI (8 * t))] [.int v] h1 bc bs Q
  refine ek_aload_n (q := 1070) (x := 168) dL_law_1069 rfl ?_
  refine ek_aload_n (q := 1071) (x := 10000000) dL_law_1070 rfl ?_
  refine ek_iload_n (q := 1072) (x := nI (8 * t)) dL_law_1071 rfl ?_
  refine ek_iconst (q := 1073) (v := 1) dL_law_1072 (by decide) ?_
  refine ek_iadd (q := 1074) dL_law_1073 ?_
  refine ek_iald (q := 1075) dL_law_1074 (lk1 1 (by decide)).1 (lk1 1 (by decide)).2 ?_
  refine ek_callV (a2 := 168) (c2 := 12) (q := 1078) (M := mL_law) (st := [.int v]) (bc := bc) (bs := bs) dL_law_1075 rfl cl_L_120 wd_1760 wd_1761 w ?_
  rintro r h2 ⟨rfl, dn⟩
  show ex_G mL_law (d + 21) 1078 [.ref 10000000, .ref 0, .ref 168, .int (nI (8 * t))] [.int v, .int v] h2 bc bs Q
  refine ex_icmp_eq (tgt := 1783) (q := 1081) dL_law_1078 (fun _ => ?_) (fun c => absurd rfl c)
  refine ex_iinc (q := 1786) (x := nI (8 * t)) (v := nI (8 * (t + 1))) (ls' := [.ref 10000000, .ref 0, .ref 168, .int (nI (8 * (t + 1)))]) dL_law_1783 rfl (law_i8 t) rfl ?_
  exact ex_goto (tgt := 18) dL_law_1786 (loop h2 dn)
set_option maxRecDepth 100000 in
theorem LW_type (o1 : ah_o h 0 11) (o2 : ah_o h 168 12) (sc : SCR h S len t) (w : ex_S yX11_type mX11_type (d + 1) [.ref 0, .int (S (8 * t + 1))] h 0 0 (fun r h1 => ∃ v : Int32, r = some (.int v) ∧ ex_S yX12_type mX12_type (d + 1) [.ref 168, .int (S (8 * t + 1))] h1 0 0 (fun r' h2 => r' = some (.int v) ∧ P h2))) (loop : ∀ h2, P h2 → ex_G mL_law (d + 21) 18 [.ref 10000000, .ref 0, .ref 168, .int (nI (8 * (t + 1)))] [] h2 bc bs Q) : ex_G mL_law (d + 21) 1083 [.ref 10000000, .ref 0, .ref 168, .int (nI (8 * t))] [] h bc bs Q := by
  have lk := fun j hj => SCR_lk sc j hj
  refine ex_aload_n (q := 1084) (x := 0) dL_law_1083 rfl ?_
  refine ex_aload_n (q := 1085) (x := 10000000) dL_law_1084 rfl ?_
  refine ex_iload_n (q := 1086) (x := nI (8 * t)) dL_law_1085 rfl ?_
  refine ex_iconst (q := 1087) (v := 1) dL_law_1086 (by decide) ?_
  refine ex_iadd (q := 1088) dL_law_1087 ?_
  refine ex_ialdV (q := 1089) dL_law_1088 (lk 1 (by decide)).1 (lk 1 (by decide)).2 ?_
  refine ex_callVa (a2 := 168) (c2 := 12) (q := 1092) (M := mL_law) (c := 11) (st := []) (bc := bc) (bs := bs) dL_law_1089 rfl cl_L_121 wd_945 wd_946 o1 o2 w ?_
  rintro r h1 ⟨v, rfl, w⟩ ok
  have lk1 := fun j hj => SCR_lk1 sc ok j hj
  show ex_GK 168 12 mL_law (d + 21) 1092 [.ref 10000000, .ref 0, .ref 168, .int (nI (8 * t))] [.int v] h1 bc bs Q
  refine ek_aload_n (q := 1093) (x := 168) dL_law_1092 rfl ?_
  refine ek_aload_n (q := 1094) (x := 10000000) dL_law_1093 rfl ?_
  refine ek_iload_n (q := 1095) (x := nI (8 * t)) dL_law_1094 rfl ?_
  refine ek_iconst (q := 1096) (v := 1) dL_law_1095 (by decide) ?_
  refine ek_iadd (q := 1097) dL_law_1096 ?_
  refine ek_iald (q := 1098) dL_law_1097 (lk1 1 (by decide)).1 (lk1 1 (by decide)).2 ?_
  refine ek_callV (a2 := 168) (c2 := 12) (q := 1101) (M := mL_law) (st := [.int v]) (bc := bc) (bs := bs) dL_law_1098 rfl cl_L_124 wd_1764 wd_1765 w ?_
  rintro r h2 ⟨rfl, dn⟩
  show ex_G mL_law (d + 21) 1101 [.ref 10000000, .ref 0, .ref 168, .int (nI (8 * t))] [.int v, .int v] h2 bc bs Q
  refine ex_icmp_eq (tgt := 1783) (q := 1104) dL_law_1101 (fun _ => ?_) (fun c => absurd rfl c)
  refine ex_iinc (q := 1786) (x := nI (8 * t)) (v := nI (8 * (t + 1))) (ls' := [.ref 10000000, .ref 0, .ref 168, .int (nI (8 * (t + 1)))]) dL_law_1783 rfl (law_i8 t) rfl ?_
  exact ex_goto (tgt := 18) dL_law_1786 (loop h2 dn)
set_option maxRecDepth 100000 in
theorem LW_clear (o1 : ah_o h 0 11) (o2 : ah_o h 168 12) (sc : SCR h S len t) (w : ex_S yX11_clear mX11_clear (d + 1) [.ref 0] h 0 0 (fun r h1 => ∃ v : Int32, r = some (.int v) ∧ ex_S yX12_clear mX12_clear (d + 1) [.ref 168] h1 0 0 (fun r' h2 => r' = some (.int v) ∧ P h2))) (loop : ∀ h2, P h2 → ex_G mL_law (d + 21) 18 [.ref 10000000, .ref 0, .ref 168, .int (nI (8 * (t + 1)))] [] h2 bc bs Q) : ex_G mL_law (d + 21) 1106 [.ref 10000000, .ref 0, .ref 168, .int (nI (8 * t))] [] h bc bs Q := by
  have lk := fun j hj => SCR_lk sc j hj
  refine ex_aload_n (q := 1107) (x := 0) dL_law_1106 rfl ?_
  refine ex_callVa (a2 := 168) (c2 := 12) (q := 1110) (M := mL_law) (c := 11) (st := []) (bc := bc) (bs := bs) dL_law_1107 rfl cl_L_125 wd_950 wd_951 o1 o2 w ?_
  rintro r h1 ⟨v, rfl, w⟩ ok
  have lk1 := fun j hj => SCR_lk1 sc ok j hj
  show ex_GK 168 12 mL_law (d + 21) 1110 [.ref 10000000, .ref 0, .ref 168, .int (nI (8 * t))] [.int v] h1 bc bs Q
  refine ek_aload_n (q := 1111) (x := 168) dL_law_1110 rfl ?_
  refine ek_callV (a2 := 168) (c2 := 12) (q := 1114) (M := mL_law) (st := [.int v]) (bc := bc) (bs := bs) dL_law_1111 rfl cl_L_128 wd_1768 wd_1769 w ?_
  rintro r h2 ⟨rfl, dn⟩
  show ex_G mL_law (d + 21) 1114 [.ref 10000000, .ref 0, .ref 168, .int (nI (8 * t))] [.int v, .int v] h2 bc bs Q
  refine ex_icmp_eq (tgt := 1783) (q := 1117) dL_law_1114 (fun _ => ?_) (fun c => absurd rfl c)
  refine ex_iinc (q := 1786) (x := nI (8 * t)) (v := nI (8 * (t + 1))) (ls' := [.ref 10000000, .ref 0, .ref 168, .int (nI (8 * (t + 1)))]) dL_law_1783 rfl (law_i8 t) rfl ?_
  exact ex_goto (tgt := 18) dL_law_1786 (loop h2 dn)
set_option maxRecDepth 100000 in
theorem LW_item (o1 : ah_o h 0 11) (o2 : ah_o h 168 12) (sc : SCR h S len t) (w : ex_S yX11_item mX11_item (d + 1) [.ref 0, .int (S (8 * t + 1))] h 0 0 (fun r h1 => ∃ v : Int32, r = some (.int v) ∧ ex_S yX12_item mX12_item (d + 1) [.ref 168, .int (S (8 * t + 1))] h1 0 0 (fun r' h2 => r' = some (.int v) ∧ P h2))) (loop : ∀ h2, P h2 → ex_G mL_law (d + 21) 18 [.ref 10000000, .ref 0, .ref 168, .int (nI (8 * (t + 1)))] [] h2 bc bs Q) : ex_G mL_law (d + 21) 1119 [.ref 10000000, .ref 0, .ref 168, .int (nI (8 * t))] [] h bc bs Q := by
  have lk := fun j hj => SCR_lk sc j hj
  refine ex_aload_n (q := 1120) (x := 0) dL_law_1119 rfl ?_
  refine ex_aload_n (q := 1121) (x := 10000000) dL_law_1120 rfl ?_
  refine ex_iload_n (q := 1122) (x := nI (8 * t)) dL_law_1121 rfl ?_
  refine ex_iconst (q := 1123) (v := 1) dL_law_1122 (by decide) ?_
  refine ex_iadd (q := 1124) dL_law_1123 ?_
  refine ex_ialdV (q := 1125) dL_law_1124 (lk 1 (by decide)).1 (lk 1 (by decide)).2 ?_
  refine ex_callVa (a2 := 168) (c2 := 12) (q := 1128) (M := mL_law) (c := 11) (st := []) (bc := bc) (bs := bs) dL_law_1125 rfl cl_L_129 wd_955 wd_956 o1 o2 w ?_
  rintro r h1 ⟨v, rfl, w⟩ ok
  have lk1 := fun j hj => SCR_lk1 sc ok j hj
  show ex_GK 168 12 mL_law (d + 21) 1128 [.ref 10000000, .ref 0, .ref 168, .int (nI (8 * t))] [.int v] h1 bc bs Q
  refine ek_aload_n (q := 1129) (x := 168) dL_law_1128 rfl ?_
  refine ek_aload_n (q := 1130) (x := 10000000) dL_law_1129 rfl ?_
  refine ek_iload_n (q := 1131) (x := nI (8 * t)) dL_law_1130 rfl ?_
  refine ek_iconst (q := 1132) (v := 1) dL_law_1131 (by decide) ?_
  refine ek_iadd (q := 1133) dL_law_1132 ?_
  refine ek_iald (q := 1134) dL_law_1133 (lk1 1 (by decide)).1 (lk1 1 (by decide)).2 ?_
  refine ek_callV (a2 := 168) (c2 := 12) (q := 1137) (M := mL_law) (st := [.int v]) (bc := bc) (bs := bs) dL_law_1134 rfl cl_L_132 wd_1772 wd_1773 w ?_
  rintro r h2 ⟨rfl, dn⟩
  show ex_G mL_law (d + 21) 1137 [.ref 10000000, .ref 0, .ref 168, .int (nI (8 * t))] [.int v, .int v] h2 bc bs Q
  refine ex_icmp_eq (tgt := 1783) (q := 1140) dL_law_1137 (fun _ => ?_) (fun c => absurd rfl c)
  refine ex_iinc (q := 1786) (x := nI (8 * t)) (v := nI (8 * (t + 1))) (ls' := [.ref 10000000, .ref 0, .ref 168, .int (nI (8 * (t + 1)))]) dL_law_1783 rfl (law_i8 t) rfl ?_
  exact ex_goto (tgt := 18) dL_law_1786 (loop h2 dn)
set_option maxRecDepth 100000 in
theorem LW_ofGauss (o1 : ah_o h 0 11) (o2 : ah_o h 168 12) (sc : SCR h S len t) (w : ex_S yX11_ofGauss mX11_ofGauss (d + 4) [.ref 0] h 3 207 (fun r h1 => ∃ v : Int32, r = some (.int v) ∧ ex_S yX12_ofGauss mX12_ofGauss (d + 5) [.ref 168] h1 0 0 (fun r' h2 => r' = some (.int v) ∧ P h2))) (loop : ∀ h2, P h2 → ex_G mL_law (d + 21) 18 [.ref 10000000, .ref 0, .ref 168, .int (nI (8 * (t + 1)))] [] h2 bc bs Q) : ex_G mL_law (d + 21) 1142 [.ref 10000000, .ref 0, .ref 168, .int (nI (8 * t))] [] h (bc + 3) (bs + 207) Q := by
  have lk := fun j hj => SCR_lk sc j hj
  refine ex_aload_n (q := 1143) (x := 0) dL_law_1142 rfl ?_
  refine ex_callVa (a2 := 168) (c2 := 12) (q := 1146) (M := mL_law) (c := 11) (st := []) (bc := bc) (bs := bs) dL_law_1143 rfl cl_L_133 wd_963 wd_964 o1 o2 w ?_
  rintro r h1 ⟨v, rfl, w⟩ ok
  have lk1 := fun j hj => SCR_lk1 sc ok j hj
  show ex_GK 168 12 mL_law (d + 21) 1146 [.ref 10000000, .ref 0, .ref 168, .int (nI (8 * t))] [.int v] h1 bc bs Q
  refine ek_aload_n (q := 1147) (x := 168) dL_law_1146 rfl ?_
  refine ek_callV (a2 := 168) (c2 := 12) (q := 1150) (M := mL_law) (st := [.int v]) (bc := bc) (bs := bs) dL_law_1147 rfl cl_L_136 wd_1776 wd_1777 w ?_
  rintro r h2 ⟨rfl, dn⟩
  show ex_G mL_law (d + 21) 1150 [.ref 10000000, .ref 0, .ref 168, .int (nI (8 * t))] [.int v, .int v] h2 bc bs Q
  refine ex_icmp_eq (tgt := 1783) (q := 1153) dL_law_1150 (fun _ => ?_) (fun c => absurd rfl c)
  refine ex_iinc (q := 1786) (x := nI (8 * t)) (v := nI (8 * (t + 1))) (ls' := [.ref 10000000, .ref 0, .ref 168, .int (nI (8 * (t + 1)))]) dL_law_1783 rfl (law_i8 t) rfl ?_
  exact ex_goto (tgt := 18) dL_law_1786 (loop h2 dn)
set_option maxRecDepth 100000 in
theorem LW_move (o1 : ah_o h 0 11) (o2 : ah_o h 168 12) (sc : SCR h S len t) (w : ex_S yX11_move mX11_move (d + 2) [.ref 0, .int (S (8 * t + 1)), .int (S (8 * t + 2)), .int (S (8 * t + 3)), .int (S (8 * t + 4))] h 1 4 (fun r h1 => ∃ v : Int32, r = some (.int v) ∧ ex_S yX12_move mX12_move (d + 1) [.ref 168, .int (S (8 * t + 1)), .int (S (8 * t + 2)), .int (S (8 * t + 3)), .int (S (8 * t + 4))] h1 0 0 (fun r' h2 => r' = some (.int v) ∧ P h2))) (loop : ∀ h2, P h2 → ex_G mL_law (d + 21) 18 [.ref 10000000, .ref 0, .ref 168, .int (nI (8 * (t + 1)))] [] h2 bc bs Q) : ex_G mL_law (d + 21) 1155 [.ref 10000000, .ref 0, .ref 168, .int (nI (8 * t))] [] h (bc + 1) (bs + 4) Q := by
  have lk := fun j hj => SCR_lk sc j hj
  refine ex_aload_n (q := 1156) (x := 0) dL_law_1155 rfl ?_
  refine ex_aload_n (q := 1157) (x := 10000000) dL_law_1156 rfl ?_
  refine ex_iload_n (q := 1158) (x := nI (8 * t)) dL_law_1157 rfl ?_
  refine ex_iconst (q := 1159) (v := 1) dL_law_1158 (by decide) ?_
  refine ex_iadd (q := 1160) dL_law_1159 ?_
  refine ex_ialdV (q := 1161) dL_law_1160 (lk 1 (by decide)).1 (lk 1 (by decide)).2 ?_
  refine ex_aload_n (q := 1162) (x := 10000000) dL_law_1161 rfl ?_
  refine ex_iload_n (q := 1163) (x := nI (8 * t)) dL_law_1162 rfl ?_
  refine ex_iconst (q := 1164) (v := 2) dL_law_1163 (by decide) ?_
  refine ex_iadd (q := 1165) dL_law_1164 ?_
  refine ex_ialdV (q := 1166) dL_law_1165 (lk 2 (by decide)).1 (lk 2 (by decide)).2 ?_
  refine ex_aload_n (q := 1167) (x := 10000000) dL_law_1166 rfl ?_
  refine ex_iload_n (q := 1168) (x := nI (8 * t)) dL_law_1167 rfl ?_
  refine ex_iconst (q := 1169) (v := 3) dL_law_1168 (by decide) ?_
  refine ex_iadd (q := 1170) dL_law_1169 ?_
  refine ex_ialdV (q := 1171) dL_law_1170 (lk 3 (by decide)).1 (lk 3 (by decide)).2 ?_
  refine ex_aload_n (q := 1172) (x := 10000000) dL_law_1171 rfl ?_
  refine ex_iload_n (q := 1173) (x := nI (8 * t)) dL_law_1172 rfl ?_
  refine ex_iconst (q := 1174) (v := 4) dL_law_1173 (by decide) ?_
  refine ex_iadd (q := 1175) dL_law_1174 ?_
  refine ex_ialdV (q := 1176) dL_law_1175 (lk 4 (by decide)).1 (lk 4 (by decide)).2 ?_
  refine ex_callVa (a2 := 168) (c2 := 12) (q := 1179) (M := mL_law) (c := 11) (st := []) (bc := bc) (bs := bs) dL_law_1176 rfl cl_L_137 wd_991 wd_992 o1 o2 w ?_
  rintro r h1 ⟨v, rfl, w⟩ ok
  have lk1 := fun j hj => SCR_lk1 sc ok j hj
  show ex_GK 168 12 mL_law (d + 21) 1179 [.ref 10000000, .ref 0, .ref 168, .int (nI (8 * t))] [.int v] h1 bc bs Q
  refine ek_aload_n (q := 1180) (x := 168) dL_law_1179 rfl ?_
  refine ek_aload_n (q := 1181) (x := 10000000) dL_law_1180 rfl ?_
  refine ek_iload_n (q := 1182) (x := nI (8 * t)) dL_law_1181 rfl ?_
  refine ek_iconst (q := 1183) (v := 1) dL_law_1182 (by decide) ?_
  refine ek_iadd (q := 1184) dL_law_1183 ?_
  refine ek_iald (q := 1185) dL_law_1184 (lk1 1 (by decide)).1 (lk1 1 (by decide)).2 ?_
  refine ek_aload_n (q := 1186) (x := 10000000) dL_law_1185 rfl ?_
  refine ek_iload_n (q := 1187) (x := nI (8 * t)) dL_law_1186 rfl ?_
  refine ek_iconst (q := 1188) (v := 2) dL_law_1187 (by decide) ?_
  refine ek_iadd (q := 1189) dL_law_1188 ?_
  refine ek_iald (q := 1190) dL_law_1189 (lk1 2 (by decide)).1 (lk1 2 (by decide)).2 ?_
  refine ek_aload_n (q := 1191) (x := 10000000) dL_law_1190 rfl ?_
  refine ek_iload_n (q := 1192) (x := nI (8 * t)) dL_law_1191 rfl ?_
  refine ek_iconst (q := 1193) (v := 3) dL_law_1192 (by decide) ?_
  refine ek_iadd (q := 1194) dL_law_1193 ?_
  refine ek_iald (q := 1195) dL_law_1194 (lk1 3 (by decide)).1 (lk1 3 (by decide)).2 ?_
  refine ek_aload_n (q := 1196) (x := 10000000) dL_law_1195 rfl ?_
  refine ek_iload_n (q := 1197) (x := nI (8 * t)) dL_law_1196 rfl ?_
  refine ek_iconst (q := 1198) (v := 4) dL_law_1197 (by decide) ?_
  refine ek_iadd (q := 1199) dL_law_1198 ?_
  refine ek_iald (q := 1200) dL_law_1199 (lk1 4 (by decide)).1 (lk1 4 (by decide)).2 ?_
  refine ek_callV (a2 := 168) (c2 := 12) (q := 1203) (M := mL_law) (st := [.int v]) (bc := bc) (bs := bs) dL_law_1200 rfl cl_L_140 wd_1799 wd_1800 w ?_
  rintro r h2 ⟨rfl, dn⟩
  show ex_G mL_law (d + 21) 1203 [.ref 10000000, .ref 0, .ref 168, .int (nI (8 * t))] [.int v, .int v] h2 bc bs Q
  refine ex_icmp_eq (tgt := 1783) (q := 1206) dL_law_1203 (fun _ => ?_) (fun c => absurd rfl c)
  refine ex_iinc (q := 1786) (x := nI (8 * t)) (v := nI (8 * (t + 1))) (ls' := [.ref 10000000, .ref 0, .ref 168, .int (nI (8 * (t + 1)))]) dL_law_1783 rfl (law_i8 t) rfl ?_
  exact ex_goto (tgt := 18) dL_law_1786 (loop h2 dn)
set_option maxRecDepth 100000 in
theorem LW_tells (o1 : ah_o h 0 11) (o2 : ah_o h 168 12) (sc : SCR h S len t) (w : ex_S yX11_tells mX11_tells (d + 3) [.ref 0, .int (S (8 * t + 1)), .int (S (8 * t + 2))] h 0 0 (fun r h1 => ∃ v : Int32, r = some (.int v) ∧ ex_S yX12_tells mX12_tells (d + 2) [.ref 168, .int (S (8 * t + 1)), .int (S (8 * t + 2))] h1 0 0 (fun r' h2 => r' = some (.int v) ∧ P h2))) (loop : ∀ h2, P h2 → ex_G mL_law (d + 21) 18 [.ref 10000000, .ref 0, .ref 168, .int (nI (8 * (t + 1)))] [] h2 bc bs Q) : ex_G mL_law (d + 21) 1208 [.ref 10000000, .ref 0, .ref 168, .int (nI (8 * t))] [] h bc bs Q := by
  have lk := fun j hj => SCR_lk sc j hj
  refine ex_aload_n (q := 1209) (x := 0) dL_law_1208 rfl ?_
  refine ex_aload_n (q := 1210) (x := 10000000) dL_law_1209 rfl ?_
  refine ex_iload_n (q := 1211) (x := nI (8 * t)) dL_law_1210 rfl ?_
  refine ex_iconst (q := 1212) (v := 1) dL_law_1211 (by decide) ?_
  refine ex_iadd (q := 1213) dL_law_1212 ?_
  refine ex_ialdV (q := 1214) dL_law_1213 (lk 1 (by decide)).1 (lk 1 (by decide)).2 ?_
  refine ex_aload_n (q := 1215) (x := 10000000) dL_law_1214 rfl ?_
  refine ex_iload_n (q := 1216) (x := nI (8 * t)) dL_law_1215 rfl ?_
  refine ex_iconst (q := 1217) (v := 2) dL_law_1216 (by decide) ?_
  refine ex_iadd (q := 1218) dL_law_1217 ?_
  refine ex_ialdV (q := 1219) dL_law_1218 (lk 2 (by decide)).1 (lk 2 (by decide)).2 ?_
  refine ex_callVa (a2 := 168) (c2 := 12) (q := 1222) (M := mL_law) (c := 11) (st := []) (bc := bc) (bs := bs) dL_law_1219 rfl cl_L_141 wd_1016 wd_1017 o1 o2 w ?_
  rintro r h1 ⟨v, rfl, w⟩ ok
  have lk1 := fun j hj => SCR_lk1 sc ok j hj
  show ex_GK 168 12 mL_law (d + 21) 1222 [.ref 10000000, .ref 0, .ref 168, .int (nI (8 * t))] [.int v] h1 bc bs Q
  refine ek_aload_n (q := 1223) (x := 168) dL_law_1222 rfl ?_
  refine ek_aload_n (q := 1224) (x := 10000000) dL_law_1223 rfl ?_
  refine ek_iload_n (q := 1225) (x := nI (8 * t)) dL_law_1224 rfl ?_
  refine ek_iconst (q := 1226) (v := 1) dL_law_1225 (by decide) ?_
  refine ek_iadd (q := 1227) dL_law_1226 ?_
  refine ek_iald (q := 1228) dL_law_1227 (lk1 1 (by decide)).1 (lk1 1 (by decide)).2 ?_
  refine ek_aload_n (q := 1229) (x := 10000000) dL_law_1228 rfl ?_
  refine ek_iload_n (q := 1230) (x := nI (8 * t)) dL_law_1229 rfl ?_
  refine ek_iconst (q := 1231) (v := 2) dL_law_1230 (by decide) ?_
  refine ek_iadd (q := 1232) dL_law_1231 ?_
  refine ek_iald (q := 1233) dL_law_1232 (lk1 2 (by decide)).1 (lk1 2 (by decide)).2 ?_
  refine ek_callV (a2 := 168) (c2 := 12) (q := 1236) (M := mL_law) (st := [.int v]) (bc := bc) (bs := bs) dL_law_1233 rfl cl_L_144 wd_1803 wd_1804 w ?_
  rintro r h2 ⟨rfl, dn⟩
  show ex_G mL_law (d + 21) 1236 [.ref 10000000, .ref 0, .ref 168, .int (nI (8 * t))] [.int v, .int v] h2 bc bs Q
  refine ex_icmp_eq (tgt := 1783) (q := 1239) dL_law_1236 (fun _ => ?_) (fun c => absurd rfl c)
  refine ex_iinc (q := 1786) (x := nI (8 * t)) (v := nI (8 * (t + 1))) (ls' := [.ref 10000000, .ref 0, .ref 168, .int (nI (8 * (t + 1)))]) dL_law_1783 rfl (law_i8 t) rfl ?_
  exact ex_goto (tgt := 18) dL_law_1786 (loop h2 dn)
set_option maxRecDepth 100000 in
theorem LW_as (o1 : ah_o h 0 11) (o2 : ah_o h 168 12) (sc : SCR h S len t) (w : ex_S yX11_as mX11_as (d + 1) [.ref 0, .int (S (8 * t + 1)), .int (S (8 * t + 2))] h 0 0 (fun r h1 => ∃ v : Int32, r = some (.int v) ∧ ex_S yX12_as mX12_as (d + 2) [.ref 168, .int (S (8 * t + 1)), .int (S (8 * t + 2))] h1 0 0 (fun r' h2 => r' = some (.int v) ∧ P h2))) (loop : ∀ h2, P h2 → ex_G mL_law (d + 21) 18 [.ref 10000000, .ref 0, .ref 168, .int (nI (8 * (t + 1)))] [] h2 bc bs Q) : ex_G mL_law (d + 21) 1241 [.ref 10000000, .ref 0, .ref 168, .int (nI (8 * t))] [] h bc bs Q := by
  have lk := fun j hj => SCR_lk sc j hj
  refine ex_aload_n (q := 1242) (x := 0) dL_law_1241 rfl ?_
  refine ex_aload_n (q := 1243) (x := 10000000) dL_law_1242 rfl ?_
  refine ex_iload_n (q := 1244) (x := nI (8 * t)) dL_law_1243 rfl ?_
  refine ex_iconst (q := 1245) (v := 1) dL_law_1244 (by decide) ?_
  refine ex_iadd (q := 1246) dL_law_1245 ?_
  refine ex_ialdV (q := 1247) dL_law_1246 (lk 1 (by decide)).1 (lk 1 (by decide)).2 ?_
  refine ex_aload_n (q := 1248) (x := 10000000) dL_law_1247 rfl ?_
  refine ex_iload_n (q := 1249) (x := nI (8 * t)) dL_law_1248 rfl ?_
  refine ex_iconst (q := 1250) (v := 2) dL_law_1249 (by decide) ?_
  refine ex_iadd (q := 1251) dL_law_1250 ?_
  refine ex_ialdV (q := 1252) dL_law_1251 (lk 2 (by decide)).1 (lk 2 (by decide)).2 ?_
  refine ex_callVa (a2 := 168) (c2 := 12) (q := 1255) (M := mL_law) (c := 11) (st := []) (bc := bc) (bs := bs) dL_law_1252 rfl cl_L_145 wd_1036 wd_1037 o1 o2 w ?_
  rintro r h1 ⟨v, rfl, w⟩ ok
  have lk1 := fun j hj => SCR_lk1 sc ok j hj
  show ex_GK 168 12 mL_law (d + 21) 1255 [.ref 10000000, .ref 0, .ref 168, .int (nI (8 * t))] [.int v] h1 bc bs Q
  refine ek_aload_n (q := 1256) (x := 168) dL_law_1255 rfl ?_
  refine ek_aload_n (q := 1257) (x := 10000000) dL_law_1256 rfl ?_
  refine ek_iload_n (q := 1258) (x := nI (8 * t)) dL_law_1257 rfl ?_
  refine ek_iconst (q := 1259) (v := 1) dL_law_1258 (by decide) ?_
  refine ek_iadd (q := 1260) dL_law_1259 ?_
  refine ek_iald (q := 1261) dL_law_1260 (lk1 1 (by decide)).1 (lk1 1 (by decide)).2 ?_
  refine ek_aload_n (q := 1262) (x := 10000000) dL_law_1261 rfl ?_
  refine ek_iload_n (q := 1263) (x := nI (8 * t)) dL_law_1262 rfl ?_
  refine ek_iconst (q := 1264) (v := 2) dL_law_1263 (by decide) ?_
  refine ek_iadd (q := 1265) dL_law_1264 ?_
  refine ek_iald (q := 1266) dL_law_1265 (lk1 2 (by decide)).1 (lk1 2 (by decide)).2 ?_
  refine ek_callV (a2 := 168) (c2 := 12) (q := 1269) (M := mL_law) (st := [.int v]) (bc := bc) (bs := bs) dL_law_1266 rfl cl_L_148 wd_1823 wd_1824 w ?_
  rintro r h2 ⟨rfl, dn⟩
  show ex_G mL_law (d + 21) 1269 [.ref 10000000, .ref 0, .ref 168, .int (nI (8 * t))] [.int v, .int v] h2 bc bs Q
  refine ex_icmp_eq (tgt := 1783) (q := 1272) dL_law_1269 (fun _ => ?_) (fun c => absurd rfl c)
  refine ex_iinc (q := 1786) (x := nI (8 * t)) (v := nI (8 * (t + 1))) (ls' := [.ref 10000000, .ref 0, .ref 168, .int (nI (8 * (t + 1)))]) dL_law_1783 rfl (law_i8 t) rfl ?_
  exact ex_goto (tgt := 18) dL_law_1786 (loop h2 dn)
set_option maxRecDepth 100000 in
theorem LW_may (o1 : ah_o h 0 11) (o2 : ah_o h 168 12) (sc : SCR h S len t) (w : ex_S yX11_may mX11_may (d + 6) [.ref 0, .int (S (8 * t + 1)), .int (S (8 * t + 2))] h 0 0 (fun r h1 => ∃ v : Int32, r = some (.int v) ∧ ex_S yX12_may mX12_may (d + 6) [.ref 168, .int (S (8 * t + 1)), .int (S (8 * t + 2))] h1 0 0 (fun r' h2 => r' = some (.int v) ∧ P h2))) (loop : ∀ h2, P h2 → ex_G mL_law (d + 21) 18 [.ref 10000000, .ref 0, .ref 168, .int (nI (8 * (t + 1)))] [] h2 bc bs Q) : ex_G mL_law (d + 21) 1274 [.ref 10000000, .ref 0, .ref 168, .int (nI (8 * t))] [] h bc bs Q := by
  have lk := fun j hj => SCR_lk sc j hj
  refine ex_aload_n (q := 1275) (x := 0) dL_law_1274 rfl ?_
  refine ex_aload_n (q := 1276) (x := 10000000) dL_law_1275 rfl ?_
  refine ex_iload_n (q := 1277) (x := nI (8 * t)) dL_law_1276 rfl ?_
  refine ex_iconst (q := 1278) (v := 1) dL_law_1277 (by decide) ?_
  refine ex_iadd (q := 1279) dL_law_1278 ?_
  refine ex_ialdV (q := 1280) dL_law_1279 (lk 1 (by decide)).1 (lk 1 (by decide)).2 ?_
  refine ex_aload_n (q := 1281) (x := 10000000) dL_law_1280 rfl ?_
  refine ex_iload_n (q := 1282) (x := nI (8 * t)) dL_law_1281 rfl ?_
  refine ex_iconst (q := 1283) (v := 2) dL_law_1282 (by decide) ?_
  refine ex_iadd (q := 1284) dL_law_1283 ?_
  refine ex_ialdV (q := 1285) dL_law_1284 (lk 2 (by decide)).1 (lk 2 (by decide)).2 ?_
  refine ex_callVa (a2 := 168) (c2 := 12) (q := 1288) (M := mL_law) (c := 11) (st := []) (bc := bc) (bs := bs) dL_law_1285 rfl cl_L_149 wd_1046 wd_1047 o1 o2 w ?_
  rintro r h1 ⟨v, rfl, w⟩ ok
  have lk1 := fun j hj => SCR_lk1 sc ok j hj
  show ex_GK 168 12 mL_law (d + 21) 1288 [.ref 10000000, .ref 0, .ref 168, .int (nI (8 * t))] [.int v] h1 bc bs Q
  refine ek_aload_n (q := 1289) (x := 168) dL_law_1288 rfl ?_
  refine ek_aload_n (q := 1290) (x := 10000000) dL_law_1289 rfl ?_
  refine ek_iload_n (q := 1291) (x := nI (8 * t)) dL_law_1290 rfl ?_
  refine ek_iconst (q := 1292) (v := 1) dL_law_1291 (by decide) ?_
  refine ek_iadd (q := 1293) dL_law_1292 ?_
  refine ek_iald (q := 1294) dL_law_1293 (lk1 1 (by decide)).1 (lk1 1 (by decide)).2 ?_
  refine ek_aload_n (q := 1295) (x := 10000000) dL_law_1294 rfl ?_
  refine ek_iload_n (q := 1296) (x := nI (8 * t)) dL_law_1295 rfl ?_
  refine ek_iconst (q := 1297) (v := 2) dL_law_1296 (by decide) ?_
  refine ek_iadd (q := 1298) dL_law_1297 ?_
  refine ek_iald (q := 1299) dL_law_1298 (lk1 2 (by decide)).1 (lk1 2 (by decide)).2 ?_
  refine ek_callV (a2 := 168) (c2 := 12) (q := 1302) (M := mL_law) (st := [.int v]) (bc := bc) (bs := bs) dL_law_1299 rfl cl_L_152 wd_1827 wd_1828 w ?_
  rintro r h2 ⟨rfl, dn⟩
  show ex_G mL_law (d + 21) 1302 [.ref 10000000, .ref 0, .ref 168, .int (nI (8 * t))] [.int v, .int v] h2 bc bs Q
  refine ex_icmp_eq (tgt := 1783) (q := 1305) dL_law_1302 (fun _ => ?_) (fun c => absurd rfl c)
  refine ex_iinc (q := 1786) (x := nI (8 * t)) (v := nI (8 * (t + 1))) (ls' := [.ref 10000000, .ref 0, .ref 168, .int (nI (8 * (t + 1)))]) dL_law_1783 rfl (law_i8 t) rfl ?_
  exact ex_goto (tgt := 18) dL_law_1786 (loop h2 dn)
set_option maxRecDepth 100000 in
theorem LW_does (o1 : ah_o h 0 11) (o2 : ah_o h 168 12) (sc : SCR h S len t) (w : ex_S yX11_does mX11_does (d + 6) [.ref 0, .int (S (8 * t + 1)), .int (S (8 * t + 2))] h 1 1620 (fun r h1 => ∃ v : Int32, r = some (.int v) ∧ ex_S yX12_does mX12_does (d + 6) [.ref 168, .int (S (8 * t + 1)), .int (S (8 * t + 2))] h1 0 0 (fun r' h2 => r' = some (.int v) ∧ P h2))) (loop : ∀ h2, P h2 → ex_G mL_law (d + 21) 18 [.ref 10000000, .ref 0, .ref 168, .int (nI (8 * (t + 1)))] [] h2 bc bs Q) : ex_G mL_law (d + 21) 1307 [.ref 10000000, .ref 0, .ref 168, .int (nI (8 * t))] [] h (bc + 1) (bs + 1620) Q := by
  have lk := fun j hj => SCR_lk sc j hj
  refine ex_aload_n (q := 1308) (x := 0) dL_law_1307 rfl ?_
  refine ex_aload_n (q := 1309) (x := 10000000) dL_law_1308 rfl ?_
  refine ex_iload_n (q := 1310) (x := nI (8 * t)) dL_law_1309 rfl ?_
  refine ex_iconst (q := 1311) (v := 1) dL_law_1310 (by decide) ?_
  refine ex_iadd (q := 1312) dL_law_1311 ?_
  refine ex_ialdV (q := 1313) dL_law_1312 (lk 1 (by decide)).1 (lk 1 (by decide)).2 ?_
  refine ex_aload_n (q := 1314) (x := 10000000) dL_law_1313 rfl ?_
  refine ex_iload_n (q := 1315) (x := nI (8 * t)) dL_law_1314 rfl ?_
  refine ex_iconst (q := 1316) (v := 2) dL_law_1315 (by decide) ?_
  refine ex_iadd (q := 1317) dL_law_1316 ?_
  refine ex_ialdV (q := 1318) dL_law_1317 (lk 2 (by decide)).1 (lk 2 (by decide)).2 ?_
  refine ex_callVa (a2 := 168) (c2 := 12) (q := 1321) (M := mL_law) (c := 11) (st := []) (bc := bc) (bs := bs) dL_law_1318 rfl cl_L_153 wd_1131 wd_1132 o1 o2 w ?_
  rintro r h1 ⟨v, rfl, w⟩ ok
  have lk1 := fun j hj => SCR_lk1 sc ok j hj
  show ex_GK 168 12 mL_law (d + 21) 1321 [.ref 10000000, .ref 0, .ref 168, .int (nI (8 * t))] [.int v] h1 bc bs Q
  refine ek_aload_n (q := 1322) (x := 168) dL_law_1321 rfl ?_
  refine ek_aload_n (q := 1323) (x := 10000000) dL_law_1322 rfl ?_
  refine ek_iload_n (q := 1324) (x := nI (8 * t)) dL_law_1323 rfl ?_
  refine ek_iconst (q := 1325) (v := 1) dL_law_1324 (by decide) ?_
  refine ek_iadd (q := 1326) dL_law_1325 ?_
  refine ek_iald (q := 1327) dL_law_1326 (lk1 1 (by decide)).1 (lk1 1 (by decide)).2 ?_
  refine ek_aload_n (q := 1328) (x := 10000000) dL_law_1327 rfl ?_
  refine ek_iload_n (q := 1329) (x := nI (8 * t)) dL_law_1328 rfl ?_
  refine ek_iconst (q := 1330) (v := 2) dL_law_1329 (by decide) ?_
  refine ek_iadd (q := 1331) dL_law_1330 ?_
  refine ek_iald (q := 1332) dL_law_1331 (lk1 2 (by decide)).1 (lk1 2 (by decide)).2 ?_
  refine ek_callV (a2 := 168) (c2 := 12) (q := 1335) (M := mL_law) (st := [.int v]) (bc := bc) (bs := bs) dL_law_1332 rfl cl_L_156 wd_1924 wd_1925 w ?_
  rintro r h2 ⟨rfl, dn⟩
  show ex_G mL_law (d + 21) 1335 [.ref 10000000, .ref 0, .ref 168, .int (nI (8 * t))] [.int v, .int v] h2 bc bs Q
  refine ex_icmp_eq (tgt := 1783) (q := 1338) dL_law_1335 (fun _ => ?_) (fun c => absurd rfl c)
  refine ex_iinc (q := 1786) (x := nI (8 * t)) (v := nI (8 * (t + 1))) (ls' := [.ref 10000000, .ref 0, .ref 168, .int (nI (8 * (t + 1)))]) dL_law_1783 rfl (law_i8 t) rfl ?_
  exact ex_goto (tgt := 18) dL_law_1786 (loop h2 dn)
set_option maxRecDepth 100000 in
theorem LW_undoes (o1 : ah_o h 0 11) (o2 : ah_o h 168 12) (sc : SCR h S len t) (w : ex_S yX11_undoes mX11_undoes (d + 6) [.ref 0, .int (S (8 * t + 1)), .int (S (8 * t + 2))] h 1 1620 (fun r h1 => ∃ v : Int32, r = some (.int v) ∧ ex_S yX12_undoes mX12_undoes (d + 6) [.ref 168, .int (S (8 * t + 1)), .int (S (8 * t + 2))] h1 0 0 (fun r' h2 => r' = some (.int v) ∧ P h2))) (loop : ∀ h2, P h2 → ex_G mL_law (d + 21) 18 [.ref 10000000, .ref 0, .ref 168, .int (nI (8 * (t + 1)))] [] h2 bc bs Q) : ex_G mL_law (d + 21) 1340 [.ref 10000000, .ref 0, .ref 168, .int (nI (8 * t))] [] h (bc + 1) (bs + 1620) Q := by
  have lk := fun j hj => SCR_lk sc j hj
  refine ex_aload_n (q := 1341) (x := 0) dL_law_1340 rfl ?_
  refine ex_aload_n (q := 1342) (x := 10000000) dL_law_1341 rfl ?_
  refine ex_iload_n (q := 1343) (x := nI (8 * t)) dL_law_1342 rfl ?_
  refine ex_iconst (q := 1344) (v := 1) dL_law_1343 (by decide) ?_
  refine ex_iadd (q := 1345) dL_law_1344 ?_
  refine ex_ialdV (q := 1346) dL_law_1345 (lk 1 (by decide)).1 (lk 1 (by decide)).2 ?_
  refine ex_aload_n (q := 1347) (x := 10000000) dL_law_1346 rfl ?_
  refine ex_iload_n (q := 1348) (x := nI (8 * t)) dL_law_1347 rfl ?_
  refine ex_iconst (q := 1349) (v := 2) dL_law_1348 (by decide) ?_
  refine ex_iadd (q := 1350) dL_law_1349 ?_
  refine ex_ialdV (q := 1351) dL_law_1350 (lk 2 (by decide)).1 (lk 2 (by decide)).2 ?_
  refine ex_callVa (a2 := 168) (c2 := 12) (q := 1354) (M := mL_law) (c := 11) (st := []) (bc := bc) (bs := bs) dL_law_1351 rfl cl_L_157 wd_1139 wd_1140 o1 o2 w ?_
  rintro r h1 ⟨v, rfl, w⟩ ok
  have lk1 := fun j hj => SCR_lk1 sc ok j hj
  show ex_GK 168 12 mL_law (d + 21) 1354 [.ref 10000000, .ref 0, .ref 168, .int (nI (8 * t))] [.int v] h1 bc bs Q
  refine ek_aload_n (q := 1355) (x := 168) dL_law_1354 rfl ?_
  refine ek_aload_n (q := 1356) (x := 10000000) dL_law_1355 rfl ?_
  refine ek_iload_n (q := 1357) (x := nI (8 * t)) dL_law_1356 rfl ?_
  refine ek_iconst (q := 1358) (v := 1) dL_law_1357 (by decide) ?_
  refine ek_iadd (q := 1359) dL_law_1358 ?_
  refine ek_iald (q := 1360) dL_law_1359 (lk1 1 (by decide)).1 (lk1 1 (by decide)).2 ?_
  refine ek_aload_n (q := 1361) (x := 10000000) dL_law_1360 rfl ?_
  refine ek_iload_n (q := 1362) (x := nI (8 * t)) dL_law_1361 rfl ?_
  refine ek_iconst (q := 1363) (v := 2) dL_law_1362 (by decide) ?_
  refine ek_iadd (q := 1364) dL_law_1363 ?_
  refine ek_iald (q := 1365) dL_law_1364 (lk1 2 (by decide)).1 (lk1 2 (by decide)).2 ?_
  refine ek_callV (a2 := 168) (c2 := 12) (q := 1368) (M := mL_law) (st := [.int v]) (bc := bc) (bs := bs) dL_law_1365 rfl cl_L_160 wd_1932 wd_1933 w ?_
  rintro r h2 ⟨rfl, dn⟩
  show ex_G mL_law (d + 21) 1368 [.ref 10000000, .ref 0, .ref 168, .int (nI (8 * t))] [.int v, .int v] h2 bc bs Q
  refine ex_icmp_eq (tgt := 1783) (q := 1371) dL_law_1368 (fun _ => ?_) (fun c => absurd rfl c)
  refine ex_iinc (q := 1786) (x := nI (8 * t)) (v := nI (8 * (t + 1))) (ls' := [.ref 10000000, .ref 0, .ref 168, .int (nI (8 * (t + 1)))]) dL_law_1783 rfl (law_i8 t) rfl ?_
  exact ex_goto (tgt := 18) dL_law_1786 (loop h2 dn)
set_option maxRecDepth 100000 in
theorem LW_trace (o1 : ah_o h 0 11) (o2 : ah_o h 168 12) (sc : SCR h S len t) (w : ex_S yX11_trace mX11_trace (d + 1) [.ref 0, .int (S (8 * t + 1))] h 0 0 (fun r h1 => ∃ v : Int32, r = some (.int v) ∧ ex_S yX12_trace mX12_trace (d + 1) [.ref 168, .int (S (8 * t + 1))] h1 0 0 (fun r' h2 => r' = some (.int v) ∧ P h2))) (loop : ∀ h2, P h2 → ex_G mL_law (d + 21) 18 [.ref 10000000, .ref 0, .ref 168, .int (nI (8 * (t + 1)))] [] h2 bc bs Q) : ex_G mL_law (d + 21) 1373 [.ref 10000000, .ref 0, .ref 168, .int (nI (8 * t))] [] h bc bs Q := by
  have lk := fun j hj => SCR_lk sc j hj
  refine ex_aload_n (q := 1374) (x := 0) dL_law_1373 rfl ?_
  refine ex_aload_n (q := 1375) (x := 10000000) dL_law_1374 rfl ?_
  refine ex_iload_n (q := 1376) (x := nI (8 * t)) dL_law_1375 rfl ?_
  refine ex_iconst (q := 1377) (v := 1) dL_law_1376 (by decide) ?_
  refine ex_iadd (q := 1378) dL_law_1377 ?_
  refine ex_ialdV (q := 1379) dL_law_1378 (lk 1 (by decide)).1 (lk 1 (by decide)).2 ?_
  refine ex_callVa (a2 := 168) (c2 := 12) (q := 1382) (M := mL_law) (c := 11) (st := []) (bc := bc) (bs := bs) dL_law_1379 rfl cl_L_161 wd_1169 wd_1170 o1 o2 w ?_
  rintro r h1 ⟨v, rfl, w⟩ ok
  have lk1 := fun j hj => SCR_lk1 sc ok j hj
  show ex_GK 168 12 mL_law (d + 21) 1382 [.ref 10000000, .ref 0, .ref 168, .int (nI (8 * t))] [.int v] h1 bc bs Q
  refine ek_aload_n (q := 1383) (x := 168) dL_law_1382 rfl ?_
  refine ek_aload_n (q := 1384) (x := 10000000) dL_law_1383 rfl ?_
  refine ek_iload_n (q := 1385) (x := nI (8 * t)) dL_law_1384 rfl ?_
  refine ek_iconst (q := 1386) (v := 1) dL_law_1385 (by decide) ?_
  refine ek_iadd (q := 1387) dL_law_1386 ?_
  refine ek_iald (q := 1388) dL_law_1387 (lk1 1 (by decide)).1 (lk1 1 (by decide)).2 ?_
  refine ek_callV (a2 := 168) (c2 := 12) (q := 1391) (M := mL_law) (st := [.int v]) (bc := bc) (bs := bs) dL_law_1388 rfl cl_L_164 wd_1819 wd_1820 w ?_
  rintro r h2 ⟨rfl, dn⟩
  show ex_G mL_law (d + 21) 1391 [.ref 10000000, .ref 0, .ref 168, .int (nI (8 * t))] [.int v, .int v] h2 bc bs Q
  refine ex_icmp_eq (tgt := 1783) (q := 1394) dL_law_1391 (fun _ => ?_) (fun c => absurd rfl c)
  refine ex_iinc (q := 1786) (x := nI (8 * t)) (v := nI (8 * (t + 1))) (ls' := [.ref 10000000, .ref 0, .ref 168, .int (nI (8 * (t + 1)))]) dL_law_1783 rfl (law_i8 t) rfl ?_
  exact ex_goto (tgt := 18) dL_law_1786 (loop h2 dn)
set_option maxRecDepth 100000 in
theorem LW_like (o1 : ah_o h 0 11) (o2 : ah_o h 168 12) (sc : SCR h S len t) (w : ex_S yX11_like mX11_like (d + 5) [.ref 0, .int (S (8 * t + 1)), .int (S (8 * t + 2))] h 0 0 (fun r h1 => ∃ v : Int32, r = some (.int v) ∧ ex_S yX12_like mX12_like (d + 4) [.ref 168, .int (S (8 * t + 1)), .int (S (8 * t + 2))] h1 0 0 (fun r' h2 => r' = some (.int v) ∧ P h2))) (loop : ∀ h2, P h2 → ex_G mL_law (d + 21) 18 [.ref 10000000, .ref 0, .ref 168, .int (nI (8 * (t + 1)))] [] h2 bc bs Q) : ex_G mL_law (d + 21) 1396 [.ref 10000000, .ref 0, .ref 168, .int (nI (8 * t))] [] h bc bs Q := by
  have lk := fun j hj => SCR_lk sc j hj
  refine ex_aload_n (q := 1397) (x := 0) dL_law_1396 rfl ?_
  refine ex_aload_n (q := 1398) (x := 10000000) dL_law_1397 rfl ?_
  refine ex_iload_n (q := 1399) (x := nI (8 * t)) dL_law_1398 rfl ?_
  refine ex_iconst (q := 1400) (v := 1) dL_law_1399 (by decide) ?_
  refine ex_iadd (q := 1401) dL_law_1400 ?_
  refine ex_ialdV (q := 1402) dL_law_1401 (lk 1 (by decide)).1 (lk 1 (by decide)).2 ?_
  refine ex_aload_n (q := 1403) (x := 10000000) dL_law_1402 rfl ?_
  refine ex_iload_n (q := 1404) (x := nI (8 * t)) dL_law_1403 rfl ?_
  refine ex_iconst (q := 1405) (v := 2) dL_law_1404 (by decide) ?_
  refine ex_iadd (q := 1406) dL_law_1405 ?_
  refine ex_ialdV (q := 1407) dL_law_1406 (lk 2 (by decide)).1 (lk 2 (by decide)).2 ?_
  refine ex_callVa (a2 := 168) (c2 := 12) (q := 1410) (M := mL_law) (c := 11) (st := []) (bc := bc) (bs := bs) dL_law_1407 rfl cl_L_165 wd_1173 wd_1174 o1 o2 w ?_
  rintro r h1 ⟨v, rfl, w⟩ ok
  have lk1 := fun j hj => SCR_lk1 sc ok j hj
  show ex_GK 168 12 mL_law (d + 21) 1410 [.ref 10000000, .ref 0, .ref 168, .int (nI (8 * t))] [.int v] h1 bc bs Q
  refine ek_aload_n (q := 1411) (x := 168) dL_law_1410 rfl ?_
  refine ek_aload_n (q := 1412) (x := 10000000) dL_law_1411 rfl ?_
  refine ek_iload_n (q := 1413) (x := nI (8 * t)) dL_law_1412 rfl ?_
  refine ek_iconst (q := 1414) (v := 1) dL_law_1413 (by decide) ?_
  refine ek_iadd (q := 1415) dL_law_1414 ?_
  refine ek_iald (q := 1416) dL_law_1415 (lk1 1 (by decide)).1 (lk1 1 (by decide)).2 ?_
  refine ek_aload_n (q := 1417) (x := 10000000) dL_law_1416 rfl ?_
  refine ek_iload_n (q := 1418) (x := nI (8 * t)) dL_law_1417 rfl ?_
  refine ek_iconst (q := 1419) (v := 2) dL_law_1418 (by decide) ?_
  refine ek_iadd (q := 1420) dL_law_1419 ?_
  refine ek_iald (q := 1421) dL_law_1420 (lk1 2 (by decide)).1 (lk1 2 (by decide)).2 ?_
  refine ek_callV (a2 := 168) (c2 := 12) (q := 1424) (M := mL_law) (st := [.int v]) (bc := bc) (bs := bs) dL_law_1421 rfl cl_L_168 wd_1964 wd_1965 w ?_
  rintro r h2 ⟨rfl, dn⟩
  show ex_G mL_law (d + 21) 1424 [.ref 10000000, .ref 0, .ref 168, .int (nI (8 * t))] [.int v, .int v] h2 bc bs Q
  refine ex_icmp_eq (tgt := 1783) (q := 1427) dL_law_1424 (fun _ => ?_) (fun c => absurd rfl c)
  refine ex_iinc (q := 1786) (x := nI (8 * t)) (v := nI (8 * (t + 1))) (ls' := [.ref 10000000, .ref 0, .ref 168, .int (nI (8 * (t + 1)))]) dL_law_1783 rfl (law_i8 t) rfl ?_
  exact ex_goto (tgt := 18) dL_law_1786 (loop h2 dn)
set_option maxRecDepth 100000 in
theorem LW_search (o1 : ah_o h 0 11) (o2 : ah_o h 168 12) (sc : SCR h S len t) (w : ex_S yX11_search mX11_search (d + 6) [.ref 0, .int (S (8 * t + 1)), .int (S (8 * t + 2))] h 303 10403 (fun r h1 => ∃ v : Int32, r = some (.int v) ∧ ex_S yX12_search mX12_search (d + 5) [.ref 168, .int (S (8 * t + 1)), .int (S (8 * t + 2))] h1 0 0 (fun r' h2 => r' = some (.int v) ∧ P h2))) (loop : ∀ h2, P h2 → ex_G mL_law (d + 21) 18 [.ref 10000000, .ref 0, .ref 168, .int (nI (8 * (t + 1)))] [] h2 bc bs Q) : ex_G mL_law (d + 21) 1429 [.ref 10000000, .ref 0, .ref 168, .int (nI (8 * t))] [] h (bc + 303) (bs + 10403) Q := by
  have lk := fun j hj => SCR_lk sc j hj
  refine ex_aload_n (q := 1430) (x := 0) dL_law_1429 rfl ?_
  refine ex_aload_n (q := 1431) (x := 10000000) dL_law_1430 rfl ?_
  refine ex_iload_n (q := 1432) (x := nI (8 * t)) dL_law_1431 rfl ?_
  refine ex_iconst (q := 1433) (v := 1) dL_law_1432 (by decide) ?_
  refine ex_iadd (q := 1434) dL_law_1433 ?_
  refine ex_ialdV (q := 1435) dL_law_1434 (lk 1 (by decide)).1 (lk 1 (by decide)).2 ?_
  refine ex_aload_n (q := 1436) (x := 10000000) dL_law_1435 rfl ?_
  refine ex_iload_n (q := 1437) (x := nI (8 * t)) dL_law_1436 rfl ?_
  refine ex_iconst (q := 1438) (v := 2) dL_law_1437 (by decide) ?_
  refine ex_iadd (q := 1439) dL_law_1438 ?_
  refine ex_ialdV (q := 1440) dL_law_1439 (lk 2 (by decide)).1 (lk 2 (by decide)).2 ?_
  refine ex_callVa (a2 := 168) (c2 := 12) (q := 1443) (M := mL_law) (c := 11) (st := []) (bc := bc) (bs := bs) dL_law_1440 rfl cl_L_169 wd_1199 wd_1200 o1 o2 w ?_
  rintro r h1 ⟨v, rfl, w⟩ ok
  have lk1 := fun j hj => SCR_lk1 sc ok j hj
  show ex_GK 168 12 mL_law (d + 21) 1443 [.ref 10000000, .ref 0, .ref 168, .int (nI (8 * t))] [.int v] h1 bc bs Q
  refine ek_aload_n (q := 1444) (x := 168) dL_law_1443 rfl ?_
  refine ek_aload_n (q := 1445) (x := 10000000) dL_law_1444 rfl ?_
  refine ek_iload_n (q := 1446) (x := nI (8 * t)) dL_law_1445 rfl ?_
  refine ek_iconst (q := 1447) (v := 1) dL_law_1446 (by decide) ?_
  refine ek_iadd (q := 1448) dL_law_1447 ?_
  refine ek_iald (q := 1449) dL_law_1448 (lk1 1 (by decide)).1 (lk1 1 (by decide)).2 ?_
  refine ek_aload_n (q := 1450) (x := 10000000) dL_law_1449 rfl ?_
  refine ek_iload_n (q := 1451) (x := nI (8 * t)) dL_law_1450 rfl ?_
  refine ek_iconst (q := 1452) (v := 2) dL_law_1451 (by decide) ?_
  refine ek_iadd (q := 1453) dL_law_1452 ?_
  refine ek_iald (q := 1454) dL_law_1453 (lk1 2 (by decide)).1 (lk1 2 (by decide)).2 ?_
  refine ek_callV (a2 := 168) (c2 := 12) (q := 1457) (M := mL_law) (st := [.int v]) (bc := bc) (bs := bs) dL_law_1454 rfl cl_L_172 wd_1986 wd_1987 w ?_
  rintro r h2 ⟨rfl, dn⟩
  show ex_G mL_law (d + 21) 1457 [.ref 10000000, .ref 0, .ref 168, .int (nI (8 * t))] [.int v, .int v] h2 bc bs Q
  refine ex_icmp_eq (tgt := 1783) (q := 1460) dL_law_1457 (fun _ => ?_) (fun c => absurd rfl c)
  refine ex_iinc (q := 1786) (x := nI (8 * t)) (v := nI (8 * (t + 1))) (ls' := [.ref 10000000, .ref 0, .ref 168, .int (nI (8 * (t + 1)))]) dL_law_1783 rfl (law_i8 t) rfl ?_
  exact ex_goto (tgt := 18) dL_law_1786 (loop h2 dn)
set_option maxRecDepth 100000 in
theorem LW_goOn (o1 : ah_o h 0 11) (o2 : ah_o h 168 12) (sc : SCR h S len t) (w : ex_S yX11_goOn mX11_goOn (d + 6) [.ref 0, .int (S (8 * t + 1))] h 300 10300 (fun r h1 => ∃ v : Int32, r = some (.int v) ∧ ex_S yX12_goOn mX12_goOn (d + 5) [.ref 168, .int (S (8 * t + 1))] h1 0 0 (fun r' h2 => r' = some (.int v) ∧ P h2))) (loop : ∀ h2, P h2 → ex_G mL_law (d + 21) 18 [.ref 10000000, .ref 0, .ref 168, .int (nI (8 * (t + 1)))] [] h2 bc bs Q) : ex_G mL_law (d + 21) 1462 [.ref 10000000, .ref 0, .ref 168, .int (nI (8 * t))] [] h (bc + 300) (bs + 10300) Q := by
  have lk := fun j hj => SCR_lk sc j hj
  refine ex_aload_n (q := 1463) (x := 0) dL_law_1462 rfl ?_
  refine ex_aload_n (q := 1464) (x := 10000000) dL_law_1463 rfl ?_
  refine ex_iload_n (q := 1465) (x := nI (8 * t)) dL_law_1464 rfl ?_
  refine ex_iconst (q := 1466) (v := 1) dL_law_1465 (by decide) ?_
  refine ex_iadd (q := 1467) dL_law_1466 ?_
  refine ex_ialdV (q := 1468) dL_law_1467 (lk 1 (by decide)).1 (lk 1 (by decide)).2 ?_
  refine ex_callVa (a2 := 168) (c2 := 12) (q := 1471) (M := mL_law) (c := 11) (st := []) (bc := bc) (bs := bs) dL_law_1468 rfl cl_L_173 wd_1256 wd_1257 o1 o2 w ?_
  rintro r h1 ⟨v, rfl, w⟩ ok
  have lk1 := fun j hj => SCR_lk1 sc ok j hj
  show ex_GK 168 12 mL_law (d + 21) 1471 [.ref 10000000, .ref 0, .ref 168, .int (nI (8 * t))] [.int v] h1 bc bs Q
  refine ek_aload_n (q := 1472) (x := 168) dL_law_1471 rfl ?_
  refine ek_aload_n (q := 1473) (x := 10000000) dL_law_1472 rfl ?_
  refine ek_iload_n (q := 1474) (x := nI (8 * t)) dL_law_1473 rfl ?_
  refine ek_iconst (q := 1475) (v := 1) dL_law_1474 (by decide) ?_
  refine ek_iadd (q := 1476) dL_law_1475 ?_
  refine ek_iald (q := 1477) dL_law_1476 (lk1 1 (by decide)).1 (lk1 1 (by decide)).2 ?_
  refine ek_callV (a2 := 168) (c2 := 12) (q := 1480) (M := mL_law) (st := [.int v]) (bc := bc) (bs := bs) dL_law_1477 rfl cl_L_176 wd_2007 wd_2008 w ?_
  rintro r h2 ⟨rfl, dn⟩
  show ex_G mL_law (d + 21) 1480 [.ref 10000000, .ref 0, .ref 168, .int (nI (8 * t))] [.int v, .int v] h2 bc bs Q
  refine ex_icmp_eq (tgt := 1783) (q := 1483) dL_law_1480 (fun _ => ?_) (fun c => absurd rfl c)
  refine ex_iinc (q := 1786) (x := nI (8 * t)) (v := nI (8 * (t + 1))) (ls' := [.ref 10000000, .ref 0, .ref 168, .int (nI (8 * (t + 1)))]) dL_law_1783 rfl (law_i8 t) rfl ?_
  exact ex_goto (tgt := 18) dL_law_1786 (loop h2 dn)
set_option maxRecDepth 100000 in
theorem LW_searched (o1 : ah_o h 0 11) (o2 : ah_o h 168 12) (sc : SCR h S len t) (w : ex_S yX11_searched mX11_searched (d + 1) [.ref 0, .int (S (8 * t + 1))] h 0 0 (fun r h1 => ∃ v : Int32, r = some (.int v) ∧ ex_S yX12_searched mX12_searched (d + 2) [.ref 168, .int (S (8 * t + 1))] h1 0 0 (fun r' h2 => r' = some (.int v) ∧ P h2))) (loop : ∀ h2, P h2 → ex_G mL_law (d + 21) 18 [.ref 10000000, .ref 0, .ref 168, .int (nI (8 * (t + 1)))] [] h2 bc bs Q) : ex_G mL_law (d + 21) 1485 [.ref 10000000, .ref 0, .ref 168, .int (nI (8 * t))] [] h bc bs Q := by
  have lk := fun j hj => SCR_lk sc j hj
  refine ex_aload_n (q := 1486) (x := 0) dL_law_1485 rfl ?_
  refine ex_aload_n (q := 1487) (x := 10000000) dL_law_1486 rfl ?_
  refine ex_iload_n (q := 1488) (x := nI (8 * t)) dL_law_1487 rfl ?_
  refine ex_iconst (q := 1489) (v := 1) dL_law_1488 (by decide) ?_
  refine ex_iadd (q := 1490) dL_law_1489 ?_
  refine ex_ialdV (q := 1491) dL_law_1490 (lk 1 (by decide)).1 (lk 1 (by decide)).2 ?_
  refine ex_callVa (a2 := 168) (c2 := 12) (q := 1494) (M := mL_law) (c := 11) (st := []) (bc := bc) (bs := bs) dL_law_1491 rfl cl_L_177 wd_1260 wd_1261 o1 o2 w ?_
  rintro r h1 ⟨v, rfl, w⟩ ok
  have lk1 := fun j hj => SCR_lk1 sc ok j hj
  show ex_GK 168 12 mL_law (d + 21) 1494 [.ref 10000000, .ref 0, .ref 168, .int (nI (8 * t))] [.int v] h1 bc bs Q
  refine ek_aload_n (q := 1495) (x := 168) dL_law_1494 rfl ?_
  refine ek_aload_n (q := 1496) (x := 10000000) dL_law_1495 rfl ?_
  refine ek_iload_n (q := 1497) (x := nI (8 * t)) dL_law_1496 rfl ?_
  refine ek_iconst (q := 1498) (v := 1) dL_law_1497 (by decide) ?_
  refine ek_iadd (q := 1499) dL_law_1498 ?_
  refine ek_iald (q := 1500) dL_law_1499 (lk1 1 (by decide)).1 (lk1 1 (by decide)).2 ?_
  refine ek_callV (a2 := 168) (c2 := 12) (q := 1503) (M := mL_law) (st := [.int v]) (bc := bc) (bs := bs) dL_law_1500 rfl cl_L_180 wd_2011 wd_2012 w ?_
  rintro r h2 ⟨rfl, dn⟩
  show ex_G mL_law (d + 21) 1503 [.ref 10000000, .ref 0, .ref 168, .int (nI (8 * t))] [.int v, .int v] h2 bc bs Q
  refine ex_icmp_eq (tgt := 1783) (q := 1506) dL_law_1503 (fun _ => ?_) (fun c => absurd rfl c)
  refine ex_iinc (q := 1786) (x := nI (8 * t)) (v := nI (8 * (t + 1))) (ls' := [.ref 10000000, .ref 0, .ref 168, .int (nI (8 * (t + 1)))]) dL_law_1783 rfl (law_i8 t) rfl ?_
  exact ex_goto (tgt := 18) dL_law_1786 (loop h2 dn)
set_option maxRecDepth 100000 in
theorem LW_fewer (o1 : ah_o h 0 11) (o2 : ah_o h 168 12) (sc : SCR h S len t) (w : ex_S yX11_fewer mX11_fewer (d + 3) [.ref 0] h 3 207 (fun r h1 => ∃ v : Int32, r = some (.int v) ∧ ex_S yX12_fewer mX12_fewer (d + 2) [.ref 168] h1 0 0 (fun r' h2 => r' = some (.int v) ∧ P h2))) (loop : ∀ h2, P h2 → ex_G mL_law (d + 21) 18 [.ref 10000000, .ref 0, .ref 168, .int (nI (8 * (t + 1)))] [] h2 bc bs Q) : ex_G mL_law (d + 21) 1508 [.ref 10000000, .ref 0, .ref 168, .int (nI (8 * t))] [] h (bc + 3) (bs + 207) Q := by
  have lk := fun j hj => SCR_lk sc j hj
  refine ex_aload_n (q := 1509) (x := 0) dL_law_1508 rfl ?_
  refine ex_callVa (a2 := 168) (c2 := 12) (q := 1512) (M := mL_law) (c := 11) (st := []) (bc := bc) (bs := bs) dL_law_1509 rfl cl_L_181 wd_1268 wd_1269 o1 o2 w ?_
  rintro r h1 ⟨v, rfl, w⟩ ok
  have lk1 := fun j hj => SCR_lk1 sc ok j hj
  show ex_GK 168 12 mL_law (d + 21) 1512 [.ref 10000000, .ref 0, .ref 168, .int (nI (8 * t))] [.int v] h1 bc bs Q
  refine ek_aload_n (q := 1513) (x := 168) dL_law_1512 rfl ?_
  refine ek_callV (a2 := 168) (c2 := 12) (q := 1516) (M := mL_law) (st := [.int v]) (bc := bc) (bs := bs) dL_law_1513 rfl cl_L_184 wd_2019 wd_2020 w ?_
  rintro r h2 ⟨rfl, dn⟩
  show ex_G mL_law (d + 21) 1516 [.ref 10000000, .ref 0, .ref 168, .int (nI (8 * t))] [.int v, .int v] h2 bc bs Q
  refine ex_icmp_eq (tgt := 1783) (q := 1519) dL_law_1516 (fun _ => ?_) (fun c => absurd rfl c)
  refine ex_iinc (q := 1786) (x := nI (8 * t)) (v := nI (8 * (t + 1))) (ls' := [.ref 10000000, .ref 0, .ref 168, .int (nI (8 * (t + 1)))]) dL_law_1783 rfl (law_i8 t) rfl ?_
  exact ex_goto (tgt := 18) dL_law_1786 (loop h2 dn)
set_option maxRecDepth 100000 in
theorem LW_same (o1 : ah_o h 0 11) (o2 : ah_o h 168 12) (sc : SCR h S len t) (w : ex_S yX11_same mX11_same (d + 20) [.ref 0, .int (S (8 * t + 1)), .int (S (8 * t + 2)), .int (S (8 * t + 3))] h 303 10403 (fun r h1 => ∃ v : Int32, r = some (.int v) ∧ ex_S yX12_same mX12_same (d + 5) [.ref 168, .int (S (8 * t + 1)), .int (S (8 * t + 2)), .int (S (8 * t + 3))] h1 0 0 (fun r' h2 => r' = some (.int v) ∧ P h2))) (loop : ∀ h2, P h2 → ex_G mL_law (d + 21) 18 [.ref 10000000, .ref 0, .ref 168, .int (nI (8 * (t + 1)))] [] h2 bc bs Q) : ex_G mL_law (d + 21) 1521 [.ref 10000000, .ref 0, .ref 168, .int (nI (8 * t))] [] h (bc + 303) (bs + 10403) Q := by
  have lk := fun j hj => SCR_lk sc j hj
  refine ex_aload_n (q := 1522) (x := 0) dL_law_1521 rfl ?_
  refine ex_aload_n (q := 1523) (x := 10000000) dL_law_1522 rfl ?_
  refine ex_iload_n (q := 1524) (x := nI (8 * t)) dL_law_1523 rfl ?_
  refine ex_iconst (q := 1525) (v := 1) dL_law_1524 (by decide) ?_
  refine ex_iadd (q := 1526) dL_law_1525 ?_
  refine ex_ialdV (q := 1527) dL_law_1526 (lk 1 (by decide)).1 (lk 1 (by decide)).2 ?_
  refine ex_aload_n (q := 1528) (x := 10000000) dL_law_1527 rfl ?_
  refine ex_iload_n (q := 1529) (x := nI (8 * t)) dL_law_1528 rfl ?_
  refine ex_iconst (q := 1530) (v := 2) dL_law_1529 (by decide) ?_
  refine ex_iadd (q := 1531) dL_law_1530 ?_
  refine ex_ialdV (q := 1532) dL_law_1531 (lk 2 (by decide)).1 (lk 2 (by decide)).2 ?_
  refine ex_aload_n (q := 1533) (x := 10000000) dL_law_1532 rfl ?_
  refine ex_iload_n (q := 1534) (x := nI (8 * t)) dL_law_1533 rfl ?_
  refine ex_iconst (q := 1535) (v := 3) dL_law_1534 (by decide) ?_
  refine ex_iadd (q := 1536) dL_law_1535 ?_
  refine ex_ialdV (q := 1537) dL_law_1536 (lk 3 (by decide)).1 (lk 3 (by decide)).2 ?_
  refine ex_callVa (a2 := 168) (c2 := 12) (q := 1540) (M := mL_law) (c := 11) (st := []) (bc := bc) (bs := bs) dL_law_1537 rfl cl_L_185 wd_1283 wd_1284 o1 o2 w ?_
  rintro r h1 ⟨v, rfl, w⟩ ok
  have lk1 := fun j hj => SCR_lk1 sc ok j hj
  show ex_GK 168 12 mL_law (d + 21) 1540 [.ref 10000000, .ref 0, .ref 168, .int (nI (8 * t))] [.int v] h1 bc bs Q
  refine ek_aload_n (q := 1541) (x := 168) dL_law_1540 rfl ?_
  refine ek_aload_n (q := 1542) (x := 10000000) dL_law_1541 rfl ?_
  refine ek_iload_n (q := 1543) (x := nI (8 * t)) dL_law_1542 rfl ?_
  refine ek_iconst (q := 1544) (v := 1) dL_law_1543 (by decide) ?_
  refine ek_iadd (q := 1545) dL_law_1544 ?_
  refine ek_iald (q := 1546) dL_law_1545 (lk1 1 (by decide)).1 (lk1 1 (by decide)).2 ?_
  refine ek_aload_n (q := 1547) (x := 10000000) dL_law_1546 rfl ?_
  refine ek_iload_n (q := 1548) (x := nI (8 * t)) dL_law_1547 rfl ?_
  refine ek_iconst (q := 1549) (v := 2) dL_law_1548 (by decide) ?_
  refine ek_iadd (q := 1550) dL_law_1549 ?_
  refine ek_iald (q := 1551) dL_law_1550 (lk1 2 (by decide)).1 (lk1 2 (by decide)).2 ?_
  refine ek_aload_n (q := 1552) (x := 10000000) dL_law_1551 rfl ?_
  refine ek_iload_n (q := 1553) (x := nI (8 * t)) dL_law_1552 rfl ?_
  refine ek_iconst (q := 1554) (v := 3) dL_law_1553 (by decide) ?_
  refine ek_iadd (q := 1555) dL_law_1554 ?_
  refine ek_iald (q := 1556) dL_law_1555 (lk1 3 (by decide)).1 (lk1 3 (by decide)).2 ?_
  refine ek_callV (a2 := 168) (c2 := 12) (q := 1559) (M := mL_law) (st := [.int v]) (bc := bc) (bs := bs) dL_law_1556 rfl cl_L_188 wd_2027 wd_2028 w ?_
  rintro r h2 ⟨rfl, dn⟩
  show ex_G mL_law (d + 21) 1559 [.ref 10000000, .ref 0, .ref 168, .int (nI (8 * t))] [.int v, .int v] h2 bc bs Q
  refine ex_icmp_eq (tgt := 1783) (q := 1562) dL_law_1559 (fun _ => ?_) (fun c => absurd rfl c)
  refine ex_iinc (q := 1786) (x := nI (8 * t)) (v := nI (8 * (t + 1))) (ls' := [.ref 10000000, .ref 0, .ref 168, .int (nI (8 * (t + 1)))]) dL_law_1783 rfl (law_i8 t) rfl ?_
  exact ex_goto (tgt := 18) dL_law_1786 (loop h2 dn)
set_option maxRecDepth 100000 in
theorem LW_parted (o1 : ah_o h 0 11) (o2 : ah_o h 168 12) (sc : SCR h S len t) (w : ex_S yX11_parted mX11_parted d [.ref 0] h 0 0 (fun r h1 => ∃ v : Int32, r = some (.int v) ∧ ex_S yX12_parted mX12_parted d [.ref 168] h1 0 0 (fun r' h2 => r' = some (.int v) ∧ P h2))) (loop : ∀ h2, P h2 → ex_G mL_law (d + 21) 18 [.ref 10000000, .ref 0, .ref 168, .int (nI (8 * (t + 1)))] [] h2 bc bs Q) : ex_G mL_law (d + 21) 1564 [.ref 10000000, .ref 0, .ref 168, .int (nI (8 * t))] [] h bc bs Q := by
  have lk := fun j hj => SCR_lk sc j hj
  refine ex_aload_n (q := 1565) (x := 0) dL_law_1564 rfl ?_
  refine ex_callVa (a2 := 168) (c2 := 12) (q := 1568) (M := mL_law) (c := 11) (st := []) (bc := bc) (bs := bs) dL_law_1565 rfl cl_L_189 wd_1304 wd_1305 o1 o2 w ?_
  rintro r h1 ⟨v, rfl, w⟩ ok
  have lk1 := fun j hj => SCR_lk1 sc ok j hj
  show ex_GK 168 12 mL_law (d + 21) 1568 [.ref 10000000, .ref 0, .ref 168, .int (nI (8 * t))] [.int v] h1 bc bs Q
  refine ek_aload_n (q := 1569) (x := 168) dL_law_1568 rfl ?_
  refine ek_callV (a2 := 168) (c2 := 12) (q := 1572) (M := mL_law) (st := [.int v]) (bc := bc) (bs := bs) dL_law_1569 rfl cl_L_192 wd_2039 wd_2040 w ?_
  rintro r h2 ⟨rfl, dn⟩
  show ex_G mL_law (d + 21) 1572 [.ref 10000000, .ref 0, .ref 168, .int (nI (8 * t))] [.int v, .int v] h2 bc bs Q
  refine ex_icmp_eq (tgt := 1783) (q := 1575) dL_law_1572 (fun _ => ?_) (fun c => absurd rfl c)
  refine ex_iinc (q := 1786) (x := nI (8 * t)) (v := nI (8 * (t + 1))) (ls' := [.ref 10000000, .ref 0, .ref 168, .int (nI (8 * (t + 1)))]) dL_law_1783 rfl (law_i8 t) rfl ?_
  exact ex_goto (tgt := 18) dL_law_1786 (loop h2 dn)
set_option maxRecDepth 100000 in
theorem LW_way (o1 : ah_o h 0 11) (o2 : ah_o h 168 12) (sc : SCR h S len t) (w : ex_S yX11_way mX11_way (d + 1) [.ref 0, .int (S (8 * t + 1))] h 0 0 (fun r h1 => ∃ v : Int32, r = some (.int v) ∧ ex_S yX12_way mX12_way (d + 1) [.ref 168, .int (S (8 * t + 1))] h1 0 0 (fun r' h2 => r' = some (.int v) ∧ P h2))) (loop : ∀ h2, P h2 → ex_G mL_law (d + 21) 18 [.ref 10000000, .ref 0, .ref 168, .int (nI (8 * (t + 1)))] [] h2 bc bs Q) : ex_G mL_law (d + 21) 1577 [.ref 10000000, .ref 0, .ref 168, .int (nI (8 * t))] [] h bc bs Q := by
  have lk := fun j hj => SCR_lk sc j hj
  refine ex_aload_n (q := 1578) (x := 0) dL_law_1577 rfl ?_
  refine ex_aload_n (q := 1579) (x := 10000000) dL_law_1578 rfl ?_
  refine ex_iload_n (q := 1580) (x := nI (8 * t)) dL_law_1579 rfl ?_
  refine ex_iconst (q := 1581) (v := 1) dL_law_1580 (by decide) ?_
  refine ex_iadd (q := 1582) dL_law_1581 ?_
  refine ex_ialdV (q := 1583) dL_law_1582 (lk 1 (by decide)).1 (lk 1 (by decide)).2 ?_
  refine ex_callVa (a2 := 168) (c2 := 12) (q := 1586) (M := mL_law) (c := 11) (st := []) (bc := bc) (bs := bs) dL_law_1583 rfl cl_L_193 wd_1308 wd_1309 o1 o2 w ?_
  rintro r h1 ⟨v, rfl, w⟩ ok
  have lk1 := fun j hj => SCR_lk1 sc ok j hj
  show ex_GK 168 12 mL_law (d + 21) 1586 [.ref 10000000, .ref 0, .ref 168, .int (nI (8 * t))] [.int v] h1 bc bs Q
  refine ek_aload_n (q := 1587) (x := 168) dL_law_1586 rfl ?_
  refine ek_aload_n (q := 1588) (x := 10000000) dL_law_1587 rfl ?_
  refine ek_iload_n (q := 1589) (x := nI (8 * t)) dL_law_1588 rfl ?_
  refine ek_iconst (q := 1590) (v := 1) dL_law_1589 (by decide) ?_
  refine ek_iadd (q := 1591) dL_law_1590 ?_
  refine ek_iald (q := 1592) dL_law_1591 (lk1 1 (by decide)).1 (lk1 1 (by decide)).2 ?_
  refine ek_callV (a2 := 168) (c2 := 12) (q := 1595) (M := mL_law) (st := [.int v]) (bc := bc) (bs := bs) dL_law_1592 rfl cl_L_196 wd_2043 wd_2044 w ?_
  rintro r h2 ⟨rfl, dn⟩
  show ex_G mL_law (d + 21) 1595 [.ref 10000000, .ref 0, .ref 168, .int (nI (8 * t))] [.int v, .int v] h2 bc bs Q
  refine ex_icmp_eq (tgt := 1783) (q := 1598) dL_law_1595 (fun _ => ?_) (fun c => absurd rfl c)
  refine ex_iinc (q := 1786) (x := nI (8 * t)) (v := nI (8 * (t + 1))) (ls' := [.ref 10000000, .ref 0, .ref 168, .int (nI (8 * (t + 1)))]) dL_law_1783 rfl (law_i8 t) rfl ?_
  exact ex_goto (tgt := 18) dL_law_1786 (loop h2 dn)
set_option maxRecDepth 100000 in
theorem LW_check (o1 : ah_o h 0 11) (o2 : ah_o h 168 12) (sc : SCR h S len t) (w : ex_S yX11_check mX11_check (d + 6) [.ref 0, .int (S (8 * t + 1))] h 3 207 (fun r h1 => ∃ v : Int32, r = some (.int v) ∧ ex_S yX12_check mX12_check (d + 4) [.ref 168, .int (S (8 * t + 1))] h1 0 0 (fun r' h2 => r' = some (.int v) ∧ P h2))) (loop : ∀ h2, P h2 → ex_G mL_law (d + 21) 18 [.ref 10000000, .ref 0, .ref 168, .int (nI (8 * (t + 1)))] [] h2 bc bs Q) : ex_G mL_law (d + 21) 1600 [.ref 10000000, .ref 0, .ref 168, .int (nI (8 * t))] [] h (bc + 3) (bs + 207) Q := by
  have lk := fun j hj => SCR_lk sc j hj
  refine ex_aload_n (q := 1601) (x := 0) dL_law_1600 rfl ?_
  refine ex_aload_n (q := 1602) (x := 10000000) dL_law_1601 rfl ?_
  refine ex_iload_n (q := 1603) (x := nI (8 * t)) dL_law_1602 rfl ?_
  refine ex_iconst (q := 1604) (v := 1) dL_law_1603 (by decide) ?_
  refine ex_iadd (q := 1605) dL_law_1604 ?_
  refine ex_ialdV (q := 1606) dL_law_1605 (lk 1 (by decide)).1 (lk 1 (by decide)).2 ?_
  refine ex_callVa (a2 := 168) (c2 := 12) (q := 1609) (M := mL_law) (c := 11) (st := []) (bc := bc) (bs := bs) dL_law_1606 rfl cl_L_197 wd_1312 wd_1313 o1 o2 w ?_
  rintro r h1 ⟨v, rfl, w⟩ ok
  have lk1 := fun j hj => SCR_lk1 sc ok j hj
  show ex_GK 168 12 mL_law (d + 21) 1609 [.ref 10000000, .ref 0, .ref 168, .int (nI (8 * t))] [.int v] h1 bc bs Q
  refine ek_aload_n (q := 1610) (x := 168) dL_law_1609 rfl ?_
  refine ek_aload_n (q := 1611) (x := 10000000) dL_law_1610 rfl ?_
  refine ek_iload_n (q := 1612) (x := nI (8 * t)) dL_law_1611 rfl ?_
  refine ek_iconst (q := 1613) (v := 1) dL_law_1612 (by decide) ?_
  refine ek_iadd (q := 1614) dL_law_1613 ?_
  refine ek_iald (q := 1615) dL_law_1614 (lk1 1 (by decide)).1 (lk1 1 (by decide)).2 ?_
  refine ek_callV (a2 := 168) (c2 := 12) (q := 1618) (M := mL_law) (st := [.int v]) (bc := bc) (bs := bs) dL_law_1615 rfl cl_L_200 wd_2047 wd_2048 w ?_
  rintro r h2 ⟨rfl, dn⟩
  show ex_G mL_law (d + 21) 1618 [.ref 10000000, .ref 0, .ref 168, .int (nI (8 * t))] [.int v, .int v] h2 bc bs Q
  refine ex_icmp_eq (tgt := 1783) (q := 1621) dL_law_1618 (fun _ => ?_) (fun c => absurd rfl c)
  refine ex_iinc (q := 1786) (x := nI (8 * t)) (v := nI (8 * (t + 1))) (ls' := [.ref 10000000, .ref 0, .ref 168, .int (nI (8 * (t + 1)))]) dL_law_1783 rfl (law_i8 t) rfl ?_
  exact ex_goto (tgt := 18) dL_law_1786 (loop h2 dn)
set_option maxRecDepth 100000 in
theorem LW_book (o1 : ah_o h 0 11) (o2 : ah_o h 168 12) (sc : SCR h S len t) (w : ex_S yX11_book mX11_book (d + 19) [.ref 0, .int (S (8 * t + 1)), .long (((Int32.toInt64 (S (8 * t + 2))) <<< (Int32.toInt64 32 &&& 63)) ||| ((Int32.toInt64 (S (8 * t + 3))) &&& 4294967295))] h 3 565 (fun r h1 => ∃ v : Int32, r = some (.int v) ∧ ex_S yX12_book mX12_book (d + 6) [.ref 168, .int (S (8 * t + 1)), .long (((Int32.toInt64 (S (8 * t + 2))) <<< (Int32.toInt64 32 &&& 63)) ||| ((Int32.toInt64 (S (8 * t + 3))) &&& 4294967295))] h1 0 0 (fun r' h2 => r' = some (.int v) ∧ P h2))) (loop : ∀ h2, P h2 → ex_G mL_law (d + 21) 18 [.ref 10000000, .ref 0, .ref 168, .int (nI (8 * (t + 1)))] [] h2 bc bs Q) : ex_G mL_law (d + 21) 1623 [.ref 10000000, .ref 0, .ref 168, .int (nI (8 * t))] [] h (bc + 3) (bs + 565) Q := by
  have lk := fun j hj => SCR_lk sc j hj
  refine ex_aload_n (q := 1624) (x := 0) dL_law_1623 rfl ?_
  refine ex_aload_n (q := 1625) (x := 10000000) dL_law_1624 rfl ?_
  refine ex_iload_n (q := 1626) (x := nI (8 * t)) dL_law_1625 rfl ?_
  refine ex_iconst (q := 1627) (v := 1) dL_law_1626 (by decide) ?_
  refine ex_iadd (q := 1628) dL_law_1627 ?_
  refine ex_ialdV (q := 1629) dL_law_1628 (lk 1 (by decide)).1 (lk 1 (by decide)).2 ?_
  refine ex_aload_n (q := 1630) (x := 10000000) dL_law_1629 rfl ?_
  refine ex_iload_n (q := 1631) (x := nI (8 * t)) dL_law_1630 rfl ?_
  refine ex_iconst (q := 1632) (v := 2) dL_law_1631 (by decide) ?_
  refine ex_iadd (q := 1633) dL_law_1632 ?_
  refine ex_ialdV (q := 1634) dL_law_1633 (lk 2 (by decide)).1 (lk 2 (by decide)).2 ?_
  refine ex_i2l (q := 1635) dL_law_1634 ?_
  refine ex_bipush (q := 1637) (v := 32) dL_law_1635 (by decide) ?_
  refine ex_lshl (q := 1638) dL_law_1637 ?_
  refine ex_aload_n (q := 1639) (x := 10000000) dL_law_1638 rfl ?_
  refine ex_iload_n (q := 1640) (x := nI (8 * t)) dL_law_1639 rfl ?_
  refine ex_iconst (q := 1641) (v := 3) dL_law_1640 (by decide) ?_
  refine ex_iadd (q := 1642) dL_law_1641 ?_
  refine ex_ialdV (q := 1643) dL_law_1642 (lk 3 (by decide)).1 (lk 3 (by decide)).2 ?_
  refine ex_i2l (q := 1644) dL_law_1643 ?_
  refine ex_ldc2_w (q := 1647) (v := 4294967295) dL_law_1644 wd_2080 ?_
  refine ex_land (q := 1648) dL_law_1647 ?_
  refine ex_lor (q := 1649) dL_law_1648 ?_
  refine ex_callVa (a2 := 168) (c2 := 12) (q := 1652) (M := mL_law) (c := 11) (st := []) (bc := bc) (bs := bs) dL_law_1649 rfl cl_L_203 wd_1322 wd_1323 o1 o2 w ?_
  rintro r h1 ⟨v, rfl, w⟩ ok
  have lk1 := fun j hj => SCR_lk1 sc ok j hj
  show ex_GK 168 12 mL_law (d + 21) 1652 [.ref 10000000, .ref 0, .ref 168, .int (nI (8 * t))] [.int v] h1 bc bs Q
  refine ek_aload_n (q := 1653) (x := 168) dL_law_1652 rfl ?_
  refine ek_aload_n (q := 1654) (x := 10000000) dL_law_1653 rfl ?_
  refine ek_iload_n (q := 1655) (x := nI (8 * t)) dL_law_1654 rfl ?_
  refine ek_iconst (q := 1656) (v := 1) dL_law_1655 (by decide) ?_
  refine ek_iadd (q := 1657) dL_law_1656 ?_
  refine ek_iald (q := 1658) dL_law_1657 (lk1 1 (by decide)).1 (lk1 1 (by decide)).2 ?_
  refine ek_aload_n (q := 1659) (x := 10000000) dL_law_1658 rfl ?_
  refine ek_iload_n (q := 1660) (x := nI (8 * t)) dL_law_1659 rfl ?_
  refine ek_iconst (q := 1661) (v := 2) dL_law_1660 (by decide) ?_
  refine ek_iadd (q := 1662) dL_law_1661 ?_
  refine ek_iald (q := 1663) dL_law_1662 (lk1 2 (by decide)).1 (lk1 2 (by decide)).2 ?_
  refine ek_i2l (q := 1664) dL_law_1663 ?_
  refine ek_bipush (q := 1666) (v := 32) dL_law_1664 (by decide) ?_
  refine ek_lshl (q := 1667) dL_law_1666 ?_
  refine ek_aload_n (q := 1668) (x := 10000000) dL_law_1667 rfl ?_
  refine ek_iload_n (q := 1669) (x := nI (8 * t)) dL_law_1668 rfl ?_
  refine ek_iconst (q := 1670) (v := 3) dL_law_1669 (by decide) ?_
  refine ek_iadd (q := 1671) dL_law_1670 ?_
  refine ek_iald (q := 1672) dL_law_1671 (lk1 3 (by decide)).1 (lk1 3 (by decide)).2 ?_
  refine ek_i2l (q := 1673) dL_law_1672 ?_
  refine ek_ldc2_w (q := 1676) (v := 4294967295) dL_law_1673 wd_2080 ?_
  refine ek_land (q := 1677) dL_law_1676 ?_
  refine ek_lor (q := 1678) dL_law_1677 ?_
  refine ek_callV (a2 := 168) (c2 := 12) (q := 1681) (M := mL_law) (st := [.int v]) (bc := bc) (bs := bs) dL_law_1678 rfl cl_L_207 wd_2051 wd_2052 w ?_
  rintro r h2 ⟨rfl, dn⟩
  show ex_G mL_law (d + 21) 1681 [.ref 10000000, .ref 0, .ref 168, .int (nI (8 * t))] [.int v, .int v] h2 bc bs Q
  refine ex_icmp_eq (tgt := 1783) (q := 1684) dL_law_1681 (fun _ => ?_) (fun c => absurd rfl c)
  refine ex_iinc (q := 1786) (x := nI (8 * t)) (v := nI (8 * (t + 1))) (ls' := [.ref 10000000, .ref 0, .ref 168, .int (nI (8 * (t + 1)))]) dL_law_1783 rfl (law_i8 t) rfl ?_
  exact ex_goto (tgt := 18) dL_law_1786 (loop h2 dn)
set_option maxRecDepth 100000 in
theorem LW_name (o1 : ah_o h 0 11) (o2 : ah_o h 168 12) (sc : SCR h S len t) (w : ex_S yX11_name mX11_name (d + 19) [.ref 0, .int (S (8 * t + 1))] h 0 0 (fun r h1 => ∃ v : Int64, r = some (.long v) ∧ ex_S yX12_name mX12_name (d + 6) [.ref 168, .int (S (8 * t + 1))] h1 0 0 (fun r' h2 => r' = some (.long v) ∧ P h2))) (loop : ∀ h2, P h2 → ex_G mL_law (d + 21) 18 [.ref 10000000, .ref 0, .ref 168, .int (nI (8 * (t + 1)))] [] h2 bc bs Q) : ex_G mL_law (d + 21) 1686 [.ref 10000000, .ref 0, .ref 168, .int (nI (8 * t))] [] h bc bs Q := by
  have lk := fun j hj => SCR_lk sc j hj
  refine ex_aload_n (q := 1687) (x := 0) dL_law_1686 rfl ?_
  refine ex_aload_n (q := 1688) (x := 10000000) dL_law_1687 rfl ?_
  refine ex_iload_n (q := 1689) (x := nI (8 * t)) dL_law_1688 rfl ?_
  refine ex_iconst (q := 1690) (v := 1) dL_law_1689 (by decide) ?_
  refine ex_iadd (q := 1691) dL_law_1690 ?_
  refine ex_ialdV (q := 1692) dL_law_1691 (lk 1 (by decide)).1 (lk 1 (by decide)).2 ?_
  refine ex_callVa (a2 := 168) (c2 := 12) (q := 1695) (M := mL_law) (c := 11) (st := []) (bc := bc) (bs := bs) dL_law_1692 rfl cl_L_208 wd_1340 wd_1341 o1 o2 w ?_
  rintro r h1 ⟨v, rfl, w⟩ ok
  have lk1 := fun j hj => SCR_lk1 sc ok j hj
  show ex_GK 168 12 mL_law (d + 21) 1695 [.ref 10000000, .ref 0, .ref 168, .int (nI (8 * t))] [.long v] h1 bc bs Q
  refine ek_aload_n (q := 1696) (x := 168) dL_law_1695 rfl ?_
  refine ek_aload_n (q := 1697) (x := 10000000) dL_law_1696 rfl ?_
  refine ek_iload_n (q := 1698) (x := nI (8 * t)) dL_law_1697 rfl ?_
  refine ek_iconst (q := 1699) (v := 1) dL_law_1698 (by decide) ?_
  refine ek_iadd (q := 1700) dL_law_1699 ?_
  refine ek_iald (q := 1701) dL_law_1700 (lk1 1 (by decide)).1 (lk1 1 (by decide)).2 ?_
  refine ek_callV (a2 := 168) (c2 := 12) (q := 1704) (M := mL_law) (st := [.long v]) (bc := bc) (bs := bs) dL_law_1701 rfl cl_L_211 wd_2055 wd_2056 w ?_
  rintro r h2 ⟨rfl, dn⟩
  show ex_G mL_law (d + 21) 1704 [.ref 10000000, .ref 0, .ref 168, .int (nI (8 * t))] [.long v, .long v] h2 bc bs Q
  refine ex_lcmp (q := 1705) dL_law_1704 ?_
  refine ex_if_eq (tgt := 1783) (q := 1708) dL_law_1705 (fun _ => ?_) (fun c => absurd ((lg_cmp_eq v v).mpr rfl) c)
  refine ex_iinc (q := 1786) (x := nI (8 * t)) (v := nI (8 * (t + 1))) (ls' := [.ref 10000000, .ref 0, .ref 168, .int (nI (8 * (t + 1)))]) dL_law_1783 rfl (law_i8 t) rfl ?_
  exact ex_goto (tgt := 18) dL_law_1786 (loop h2 dn)
set_option maxRecDepth 100000 in
theorem LW_count (o1 : ah_o h 0 11) (o2 : ah_o h 168 12) (sc : SCR h S len t) (w : ex_S yX11_count mX11_count d [.ref 0, .int (S (8 * t + 1))] h 0 0 (fun r h1 => ∃ v : Int32, r = some (.int v) ∧ ex_S yX12_count mX12_count d [.ref 168, .int (S (8 * t + 1))] h1 0 0 (fun r' h2 => r' = some (.int v) ∧ P h2))) (loop : ∀ h2, P h2 → ex_G mL_law (d + 21) 18 [.ref 10000000, .ref 0, .ref 168, .int (nI (8 * (t + 1)))] [] h2 bc bs Q) : ex_G mL_law (d + 21) 1710 [.ref 10000000, .ref 0, .ref 168, .int (nI (8 * t))] [] h bc bs Q := by
  have lk := fun j hj => SCR_lk sc j hj
  refine ex_aload_n (q := 1711) (x := 0) dL_law_1710 rfl ?_
  refine ex_aload_n (q := 1712) (x := 10000000) dL_law_1711 rfl ?_
  refine ex_iload_n (q := 1713) (x := nI (8 * t)) dL_law_1712 rfl ?_
  refine ex_iconst (q := 1714) (v := 1) dL_law_1713 (by decide) ?_
  refine ex_iadd (q := 1715) dL_law_1714 ?_
  refine ex_ialdV (q := 1716) dL_law_1715 (lk 1 (by decide)).1 (lk 1 (by decide)).2 ?_
  refine ex_callVa (a2 := 168) (c2 := 12) (q := 1719) (M := mL_law) (c := 11) (st := []) (bc := bc) (bs := bs) dL_law_1716 rfl cl_L_212 wd_1349 wd_1350 o1 o2 w ?_
  rintro r h1 ⟨v, rfl, w⟩ ok
  have lk1 := fun j hj => SCR_lk1 sc ok j hj
  show ex_GK 168 12 mL_law (d + 21) 1719 [.ref 10000000, .ref 0, .ref 168, .int (nI (8 * t))] [.int v] h1 bc bs Q
  refine ek_aload_n (q := 1720) (x := 168) dL_law_1719 rfl ?_
  refine ek_aload_n (q := 1721) (x := 10000000) dL_law_1720 rfl ?_
  refine ek_iload_n (q := 1722) (x := nI (8 * t)) dL_law_1721 rfl ?_
  refine ek_iconst (q := 1723) (v := 1) dL_law_1722 (by decide) ?_
  refine ek_iadd (q := 1724) dL_law_1723 ?_
  refine ek_iald (q := 1725) dL_law_1724 (lk1 1 (by decide)).1 (lk1 1 (by decide)).2 ?_
  refine ek_callV (a2 := 168) (c2 := 12) (q := 1728) (M := mL_law) (st := [.int v]) (bc := bc) (bs := bs) dL_law_1725 rfl cl_L_215 wd_2063 wd_2064 w ?_
  rintro r h2 ⟨rfl, dn⟩
  show ex_G mL_law (d + 21) 1728 [.ref 10000000, .ref 0, .ref 168, .int (nI (8 * t))] [.int v, .int v] h2 bc bs Q
  refine ex_icmp_eq (tgt := 1783) (q := 1731) dL_law_1728 (fun _ => ?_) (fun c => absurd rfl c)
  refine ex_iinc (q := 1786) (x := nI (8 * t)) (v := nI (8 * (t + 1))) (ls' := [.ref 10000000, .ref 0, .ref 168, .int (nI (8 * (t + 1)))]) dL_law_1783 rfl (law_i8 t) rfl ?_
  exact ex_goto (tgt := 18) dL_law_1786 (loop h2 dn)
set_option maxRecDepth 100000 in
theorem LW_findings (o1 : ah_o h 0 11) (o2 : ah_o h 168 12) (sc : SCR h S len t) (w : ex_S yX11_findings mX11_findings d [.ref 0, .int (S (8 * t + 1))] h 0 0 (fun r h1 => ∃ v : Int32, r = some (.int v) ∧ ex_S yX12_findings mX12_findings (d + 1) [.ref 168, .int (S (8 * t + 1))] h1 0 0 (fun r' h2 => r' = some (.int v) ∧ P h2))) (loop : ∀ h2, P h2 → ex_G mL_law (d + 21) 18 [.ref 10000000, .ref 0, .ref 168, .int (nI (8 * (t + 1)))] [] h2 bc bs Q) : ex_G mL_law (d + 21) 1733 [.ref 10000000, .ref 0, .ref 168, .int (nI (8 * t))] [] h bc bs Q := by
  have lk := fun j hj => SCR_lk sc j hj
  refine ex_aload_n (q := 1734) (x := 0) dL_law_1733 rfl ?_
  refine ex_aload_n (q := 1735) (x := 10000000) dL_law_1734 rfl ?_
  refine ex_iload_n (q := 1736) (x := nI (8 * t)) dL_law_1735 rfl ?_
  refine ex_iconst (q := 1737) (v := 1) dL_law_1736 (by decide) ?_
  refine ex_iadd (q := 1738) dL_law_1737 ?_
  refine ex_ialdV (q := 1739) dL_law_1738 (lk 1 (by decide)).1 (lk 1 (by decide)).2 ?_
  refine ex_callVa (a2 := 168) (c2 := 12) (q := 1742) (M := mL_law) (c := 11) (st := []) (bc := bc) (bs := bs) dL_law_1739 rfl cl_L_216 wd_1353 wd_1354 o1 o2 w ?_
  rintro r h1 ⟨v, rfl, w⟩ ok
  have lk1 := fun j hj => SCR_lk1 sc ok j hj
  show ex_GK 168 12 mL_law (d + 21) 1742 [.ref 10000000, .ref 0, .ref 168, .int (nI (8 * t))] [.int v] h1 bc bs Q
  refine ek_aload_n (q := 1743) (x := 168) dL_law_1742 rfl ?_
  refine ek_aload_n (q := 1744) (x := 10000000) dL_law_1743 rfl ?_
  refine ek_iload_n (q := 1745) (x := nI (8 * t)) dL_law_1744 rfl ?_
  refine ek_iconst (q := 1746) (v := 1) dL_law_1745 (by decide) ?_
  refine ek_iadd (q := 1747) dL_law_1746 ?_
  refine ek_iald (q := 1748) dL_law_1747 (lk1 1 (by decide)).1 (lk1 1 (by decide)).2 ?_
  refine ek_callV (a2 := 168) (c2 := 12) (q := 1751) (M := mL_law) (st := [.int v]) (bc := bc) (bs := bs) dL_law_1748 rfl cl_L_219 wd_2067 wd_2068 w ?_
  rintro r h2 ⟨rfl, dn⟩
  show ex_G mL_law (d + 21) 1751 [.ref 10000000, .ref 0, .ref 168, .int (nI (8 * t))] [.int v, .int v] h2 bc bs Q
  refine ex_icmp_eq (tgt := 1783) (q := 1754) dL_law_1751 (fun _ => ?_) (fun c => absurd rfl c)
  refine ex_iinc (q := 1786) (x := nI (8 * t)) (v := nI (8 * (t + 1))) (ls' := [.ref 10000000, .ref 0, .ref 168, .int (nI (8 * (t + 1)))]) dL_law_1783 rfl (law_i8 t) rfl ?_
  exact ex_goto (tgt := 18) dL_law_1786 (loop h2 dn)
set_option maxRecDepth 100000 in
theorem LW_status (o1 : ah_o h 0 11) (o2 : ah_o h 168 12) (sc : SCR h S len t) (w : ex_S yX11_status mX11_status d [.ref 0] h 0 0 (fun r h1 => ∃ v : Int32, r = some (.int v) ∧ ex_S yX12_status mX12_status d [.ref 168] h1 0 0 (fun r' h2 => r' = some (.int v) ∧ P h2))) (loop : ∀ h2, P h2 → ex_G mL_law (d + 21) 18 [.ref 10000000, .ref 0, .ref 168, .int (nI (8 * (t + 1)))] [] h2 bc bs Q) : ex_G mL_law (d + 21) 1756 [.ref 10000000, .ref 0, .ref 168, .int (nI (8 * t))] [] h bc bs Q := by
  have lk := fun j hj => SCR_lk sc j hj
  refine ex_aload_n (q := 1757) (x := 0) dL_law_1756 rfl ?_
  refine ex_callVa (a2 := 168) (c2 := 12) (q := 1760) (M := mL_law) (c := 11) (st := []) (bc := bc) (bs := bs) dL_law_1757 rfl cl_L_220 wd_1357 wd_1358 o1 o2 w ?_
  rintro r h1 ⟨v, rfl, w⟩ ok
  have lk1 := fun j hj => SCR_lk1 sc ok j hj
  show ex_GK 168 12 mL_law (d + 21) 1760 [.ref 10000000, .ref 0, .ref 168, .int (nI (8 * t))] [.int v] h1 bc bs Q
  refine ek_aload_n (q := 1761) (x := 168) dL_law_1760 rfl ?_
  refine ek_callV (a2 := 168) (c2 := 12) (q := 1764) (M := mL_law) (st := [.int v]) (bc := bc) (bs := bs) dL_law_1761 rfl cl_L_223 wd_2071 wd_2072 w ?_
  rintro r h2 ⟨rfl, dn⟩
  show ex_G mL_law (d + 21) 1764 [.ref 10000000, .ref 0, .ref 168, .int (nI (8 * t))] [.int v, .int v] h2 bc bs Q
  refine ex_icmp_eq (tgt := 1783) (q := 1767) dL_law_1764 (fun _ => ?_) (fun c => absurd rfl c)
  refine ex_iinc (q := 1786) (x := nI (8 * t)) (v := nI (8 * (t + 1))) (ls' := [.ref 10000000, .ref 0, .ref 168, .int (nI (8 * (t + 1)))]) dL_law_1783 rfl (law_i8 t) rfl ?_
  exact ex_goto (tgt := 18) dL_law_1786 (loop h2 dn)
set_option maxRecDepth 100000 in
theorem LW_digest (o1 : ah_o h 0 11) (o2 : ah_o h 168 12) (sc : SCR h S len t) (w : ex_S yX11_digest mX11_digest (d + 1) [.ref 0] h 0 0 (fun r h1 => ∃ v : Int64, r = some (.long v) ∧ ex_S yX12_digest mX12_digest d [.ref 168] h1 0 0 (fun r' h2 => r' = some (.long v) ∧ P h2))) (loop : ∀ h2, P h2 → ex_G mL_law (d + 21) 18 [.ref 10000000, .ref 0, .ref 168, .int (nI (8 * (t + 1)))] [] h2 bc bs Q) : ex_G mL_law (d + 21) 1769 [.ref 10000000, .ref 0, .ref 168, .int (nI (8 * t))] [] h bc bs Q := by
  have lk := fun j hj => SCR_lk sc j hj
  refine ex_aload_n (q := 1770) (x := 0) dL_law_1769 rfl ?_
  refine ex_callVa (a2 := 168) (c2 := 12) (q := 1773) (M := mL_law) (c := 11) (st := []) (bc := bc) (bs := bs) dL_law_1770 rfl cl_L_224 wd_1361 wd_1362 o1 o2 w ?_
  rintro r h1 ⟨v, rfl, w⟩ ok
  have lk1 := fun j hj => SCR_lk1 sc ok j hj
  show ex_GK 168 12 mL_law (d + 21) 1773 [.ref 10000000, .ref 0, .ref 168, .int (nI (8 * t))] [.long v] h1 bc bs Q
  refine ek_aload_n (q := 1774) (x := 168) dL_law_1773 rfl ?_
  refine ek_callV (a2 := 168) (c2 := 12) (q := 1777) (M := mL_law) (st := [.long v]) (bc := bc) (bs := bs) dL_law_1774 rfl cl_L_228 wd_2075 wd_2076 w ?_
  rintro r h2 ⟨rfl, dn⟩
  show ex_G mL_law (d + 21) 1777 [.ref 10000000, .ref 0, .ref 168, .int (nI (8 * t))] [.long v, .long v] h2 bc bs Q
  refine ex_lcmp (q := 1778) dL_law_1777 ?_
  refine ex_if_eq (tgt := 1783) (q := 1781) dL_law_1778 (fun _ => ?_) (fun c => absurd ((lg_cmp_eq v v).mpr rfl) c)
  refine ex_iinc (q := 1786) (x := nI (8 * t)) (v := nI (8 * (t + 1))) (ls' := [.ref 10000000, .ref 0, .ref 168, .int (nI (8 * (t + 1)))]) dL_law_1783 rfl (law_i8 t) rfl ?_
  exact ex_goto (tgt := 18) dL_law_1786 (loop h2 dn)
end LAWC
