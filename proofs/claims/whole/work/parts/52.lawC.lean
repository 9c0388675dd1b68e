set_option maxHeartbeats 8000000 in
set_option maxRecDepth 100000 in
theorem law_c7 {p : Program} {l : Launch} {e : Env} {s : State} {m : MethodId} {below : List Frame} {meth : Method} {c : Code} {b L : Nat} {xs : Nat → Int32} (hL : L ≤ 3072) (C0 : lw_At p s m meth c b L xs) {D : va_G} {F : XF} {G : YF} (hC : LCx D F G s) (k : Nat) (hk : 6 * k + 6 ≤ L) {u : XS} {v : YS} {ι : Nat → Nat} {c0 e0 : Nat} {H : Heap} {locs : List Loc} (hI : LI D F G s k u v ι c0 e0 H locs) {ls : Array Slot} (hl : lv_has ls 4 [(3, .int (nI (6 * k))), (2, .ref G.1), (1, .ref F.1), (0, .ref b)]) (ih : LN p l e s m below meth c b D F G (k + 1)) : W p l e room_1 s m #[Value.ref b] below meth c H locs (17 + k) (1701 + 6 * k) (lw_Z below #[Value.ref b] s) (F0 m 355 ls []) := by
  obtain ⟨hx, hb, hr, hml, hown, hts, hX, hbl, hlocks, hgv⟩ := C0
  obtain ⟨hK, hN, hZ⟩ := hC
  obtain ⟨hR, hc0, he0, hP, hD, hS⟩ := hI
  have hA : ∀ q : Nat, s.heap.size ≤ q → (fun q : Nat => s.heap.size ≤ q) q := fun _ h => h
  have hbA : ¬ (fun q : Nat => s.heap.size ≤ q) b := Nat.not_le.mpr hbl
  have htl : ∀ w ∈ wsL_law, w.before #[Value.ref b] s = true := fun w h => hts w (wsL_law_in w h)
  refine lv_aload_n hx hb dL_law_355 rfl (lv_at hl 2 rfl) ?_
  refine lv_aload_n hx hb dL_law_356 rfl (lv_at hl 3 rfl) ?_
  refine lv_iload_n hx hb dL_law_357 rfl (lv_at hl 0 rfl) ?_
  refine lv_iconst (v := 1) hx hb dL_law_358 (by decide) ?_
  refine lv_iadd hx hb dL_law_359 ?_
  refine va_sld hx hb hX hbl hbA hS (sc_in 1 (by decide) hk hL rfl) dL_law_360 ?_
  refine lv_aload_n hx hb dL_law_361 rfl (lv_at hl 3 rfl) ?_
  refine lv_iload_n hx hb dL_law_362 rfl (lv_at hl 0 rfl) ?_
  refine lv_iconst (v := 2) hx hb dL_law_363 (by decide) ?_
  refine lv_iadd hx hb dL_law_364 ?_
  refine va_sld hx hb hX hbl hbA hS (sc_in 2 (by decide) hk hL rfl) dL_law_365 ?_
  refine lv_aload_n hx hb dL_law_366 rfl (lv_at hl 3 rfl) ?_
  refine lv_iload_n hx hb dL_law_367 rfl (lv_at hl 0 rfl) ?_
  refine lv_iconst (v := 3) hx hb dL_law_368 (by decide) ?_
  refine lv_iadd hx hb dL_law_369 ?_
  refine va_sld hx hb hX hbl hbA hS (sc_in 3 (by decide) hk hL rfl) dL_law_370 ?_
  have hf := xFree (wd_L hD) hS hA
  refine va_calli (va_runV (As := [.int (xs ((nI (6 * k)) + 1).toNatClampNeg), .int (xs ((nI (6 * k)) + 2).toNatClampNeg), .int (xs ((nI (6 * k)) + 3).toNatClampNeg)]) (rest := []) ⟨hx, hb, hml, hown, htl⟩ (k_load l D F u hR.1 H.size (xs ((nI (6 * k)) + 1).toNatClampNeg) (xs ((nI (6 * k)) + 2).toNatClampNeg) (xs ((nI (6 * k)) + 3).toNatClampNeg)) (cwV 3 htl gL_law_X1_load rfl rfl rfl (by decide +kernel) ⟨Nat.le_of_ble_eq_true rfl, Nat.le_of_ble_eq_true rfl⟩) (xPre hN (hK.sub (tys' := xTy F) [0, 1, 2, 3] rfl) (w_L hP) (wd_L hD) hS hA hZ _) rfl rfl hl.1 rfl (lv_room (Nat.le_of_ble_eq_true rfl)) dL_law_371 ⟨by show 17 + k + 0 ≤ 600000; omega, by show 1701 + 6 * k + 0 ≤ 7302250; omega⟩) hS (fun q _ h => hf q h) hf (fun rX uX tX H1 locs ht hvm hw hB hz1 hk1 hS => ?_)
  obtain ⟨hP1, hK1, hD1⟩ := hB
  rw [ht] at hP1
  obtain ⟨hP, hD⟩ := w_joinL hP hD hk1 hf hP1 hD1
  generalize H1 = H at hP hS ⊢
  refine lv_aload_n hx hb dL_law_374 rfl (lv_at hl 1 rfl) ?_
  refine lv_aload_n hx hb dL_law_375 rfl (lv_at hl 3 rfl) ?_
  refine lv_iload_n hx hb dL_law_376 rfl (lv_at hl 0 rfl) ?_
  refine lv_iconst (v := 1) hx hb dL_law_377 (by decide) ?_
  refine lv_iadd hx hb dL_law_378 ?_
  refine va_sld hx hb hX hbl hbA hS (sc_in 1 (by decide) hk hL rfl) dL_law_379 ?_
  refine lv_aload_n hx hb dL_law_380 rfl (lv_at hl 3 rfl) ?_
  refine lv_iload_n hx hb dL_law_381 rfl (lv_at hl 0 rfl) ?_
  refine lv_iconst (v := 2) hx hb dL_law_382 (by decide) ?_
  refine lv_iadd hx hb dL_law_383 ?_
  refine va_sld hx hb hX hbl hbA hS (sc_in 2 (by decide) hk hL rfl) dL_law_384 ?_
  refine lv_aload_n hx hb dL_law_385 rfl (lv_at hl 3 rfl) ?_
  refine lv_iload_n hx hb dL_law_386 rfl (lv_at hl 0 rfl) ?_
  refine lv_iconst (v := 3) hx hb dL_law_387 (by decide) ?_
  refine lv_iadd hx hb dL_law_388 ?_
  refine va_sld hx hb hX hbl hbA hS (sc_in 3 (by decide) hk hL rfl) dL_law_389 ?_
  have hf2 := xFree (wd_R hD) hS hA
  refine va_calli (va_runV (As := [.int (xs ((nI (6 * k)) + 1).toNatClampNeg), .int (xs ((nI (6 * k)) + 2).toNatClampNeg), .int (xs ((nI (6 * k)) + 3).toNatClampNeg)]) (rest := [.int rX]) ⟨hx, hb, hml, hown, hts⟩ (j_load l D G v hR.ok H.size (xs ((nI (6 * k)) + 1).toNatClampNeg) (xs ((nI (6 * k)) + 2).toNatClampNeg) (xs ((nI (6 * k)) + 3).toNatClampNeg)) (cwV 3 hts (lV ylL_49 ym_load ys_load yc_load) rfl rfl rfl (by decide +kernel) ⟨Nat.le_of_ble_eq_true rfl, Nat.le_of_ble_eq_true rfl⟩) (yPre (hK.sub (tys' := yTy G) [4, 5, 6, 7, 8, 9, 10, 11, 12] rfl) (w_R hP) (wd_R hD) _) rfl rfl hl.1 rfl (lv_room (Nat.le_of_ble_eq_true rfl)) dL_law_390 ⟨by show 17 + k + 0 + 0 ≤ 600000; omega, by show 1701 + 6 * k + 0 + 0 ≤ 7302250; omega⟩) hS (fun q _ h => hf2 q h) hf2 (fun rY vY tY H2 locs ht2 hvm2 hw2 hB2 hz2 hk2 hS => ?_)
  obtain ⟨hP2, hK2, hD2⟩ := hB2
  rw [ht2] at hP2
  obtain ⟨hP, hD⟩ := w_joinR hP hD hk2 hf2 hP2 hD2
  generalize H2 = H at hP hS ⊢
  obtain ⟨heq, ι2, c2, e2, hc2, he2, hR2⟩ := Q_load hR (xs ((nI (6 * k)) + 1).toNatClampNeg) (xs ((nI (6 * k)) + 2).toNatClampNeg) (xs ((nI (6 * k)) + 3).toNatClampNeg)
  rw [← hw, ← hw2] at heq hR2
  have heq : rX = rY := heq
  refine lv_icmp_eq (tgt := 616) hx hb dL_law_393 (by decide) (fun _ => ?_) (fun cz => absurd heq cz)
  refine lv_iinc (v := nI (6 * (k + 1))) (lv' := [(3, .int (nI (6 * (k + 1)))), (2, .ref G.1), (1, .ref F.1), (0, .ref b)]) hx hb dL_law_616 hl (k := 0) rfl (six k) (by decide) rfl (fun ls hl => ?_)
  refine lv_goto (tgt := 18) hx hb dL_law_619 (by decide) ?_
  refine W.widen (k := 17 + (k + 1)) (n := 1701 + 6 * (k + 1)) (by omega) (by omega) ?_
  exact ih _ _ _ _ _ _ _ _ ⟨hR2, by omega, by omega, hP, hD, hS⟩ hl
set_option maxHeartbeats 8000000 in
set_option maxRecDepth 100000 in
theorem law_c8 {p : Program} {l : Launch} {e : Env} {s : State} {m : MethodId} {below : List Frame} {meth : Method} {c : Code} {b L : Nat} {xs : Nat → Int32} (hL : L ≤ 3072) (C0 : lw_At p s m meth c b L xs) {D : va_G} {F : XF} {G : YF} (hC : LCx D F G s) (k : Nat) (hk : 6 * k + 6 ≤ L) {u : XS} {v : YS} {ι : Nat → Nat} {c0 e0 : Nat} {H : Heap} {locs : List Loc} (hI : LI D F G s k u v ι c0 e0 H locs) {ls : Array Slot} (hl : lv_has ls 4 [(3, .int (nI (6 * k))), (2, .ref G.1), (1, .ref F.1), (0, .ref b)]) (ih : LN p l e s m below meth c b D F G (k + 1)) : W p l e room_1 s m #[Value.ref b] below meth c H locs (17 + k) (1701 + 6 * k) (lw_Z below #[Value.ref b] s) (F0 m 398 ls []) := by
  obtain ⟨hx, hb, hr, hml, hown, hts, hX, hbl, hlocks, hgv⟩ := C0
  obtain ⟨hK, hN, hZ⟩ := hC
  obtain ⟨hR, hc0, he0, hP, hD, hS⟩ := hI
  have hA : ∀ q : Nat, s.heap.size ≤ q → (fun q : Nat => s.heap.size ≤ q) q := fun _ h => h
  have hbA : ¬ (fun q : Nat => s.heap.size ≤ q) b := Nat.not_le.mpr hbl
  have htl : ∀ w ∈ wsL_law, w.before #[Value.ref b] s = true := fun w h => hts w (wsL_law_in w h)
  refine lv_aload_n hx hb dL_law_398 rfl (lv_at hl 2 rfl) ?_
  refine lv_aload_n hx hb dL_law_399 rfl (lv_at hl 3 rfl) ?_
  refine lv_iload_n hx hb dL_law_400 rfl (lv_at hl 0 rfl) ?_
  refine lv_iconst (v := 1) hx hb dL_law_401 (by decide) ?_
  refine lv_iadd hx hb dL_law_402 ?_
  refine va_sld hx hb hX hbl hbA hS (sc_in 1 (by decide) hk hL rfl) dL_law_403 ?_
  refine lv_aload_n hx hb dL_law_404 rfl (lv_at hl 3 rfl) ?_
  refine lv_iload_n hx hb dL_law_405 rfl (lv_at hl 0 rfl) ?_
  refine lv_iconst (v := 2) hx hb dL_law_406 (by decide) ?_
  refine lv_iadd hx hb dL_law_407 ?_
  refine va_sld hx hb hX hbl hbA hS (sc_in 2 (by decide) hk hL rfl) dL_law_408 ?_
  refine lv_aload_n hx hb dL_law_409 rfl (lv_at hl 3 rfl) ?_
  refine lv_iload_n hx hb dL_law_410 rfl (lv_at hl 0 rfl) ?_
  refine lv_iconst (v := 3) hx hb dL_law_411 (by decide) ?_
  refine lv_iadd hx hb dL_law_412 ?_
  refine va_sld hx hb hX hbl hbA hS (sc_in 3 (by decide) hk hL rfl) dL_law_413 ?_
  refine lv_aload_n hx hb dL_law_414 rfl (lv_at hl 3 rfl) ?_
  refine lv_iload_n hx hb dL_law_415 rfl (lv_at hl 0 rfl) ?_
  refine lv_iconst (v := 4) hx hb dL_law_416 (by decide) ?_
  refine lv_iadd hx hb dL_law_417 ?_
  refine va_sld hx hb hX hbl hbA hS (sc_in 4 (by decide) hk hL rfl) dL_law_418 ?_
  refine lv_aload_n hx hb dL_law_419 rfl (lv_at hl 3 rfl) ?_
  refine lv_iload_n hx hb dL_law_420 rfl (lv_at hl 0 rfl) ?_
  refine lv_iconst (v := 5) hx hb dL_law_421 (by decide) ?_
  refine lv_iadd hx hb dL_law_422 ?_
  refine va_sld hx hb hX hbl hbA hS (sc_in 5 (by decide) hk hL rfl) dL_law_423 ?_
  have hf := xFree (wd_L hD) hS hA
  refine va_calli (va_runV (As := [.int (xs ((nI (6 * k)) + 1).toNatClampNeg), .int (xs ((nI (6 * k)) + 2).toNatClampNeg), .int (xs ((nI (6 * k)) + 3).toNatClampNeg), .int (xs ((nI (6 * k)) + 4).toNatClampNeg), .int (xs ((nI (6 * k)) + 5).toNatClampNeg)]) (rest := []) ⟨hx, hb, hml, hown, htl⟩ (k_copy l D F u hR.1 H.size (xs ((nI (6 * k)) + 1).toNatClampNeg) (xs ((nI (6 * k)) + 2).toNatClampNeg) (xs ((nI (6 * k)) + 3).toNatClampNeg) (xs ((nI (6 * k)) + 4).toNatClampNeg) (xs ((nI (6 * k)) + 5).toNatClampNeg)) (cwV 5 htl gL_law_X1_copy rfl rfl rfl (by decide +kernel) ⟨Nat.le_of_ble_eq_true rfl, Nat.le_of_ble_eq_true rfl⟩) (xPre hN (hK.sub (tys' := xTy F) [0, 1, 2, 3] rfl) (w_L hP) (wd_L hD) hS hA hZ _) rfl rfl hl.1 rfl (lv_room (Nat.le_of_ble_eq_true rfl)) dL_law_424 ⟨by show 17 + k + 0 ≤ 600000; omega, by show 1701 + 6 * k + 0 ≤ 7302250; omega⟩) hS (fun q _ h => hf q h) hf (fun rX uX tX H1 locs ht hvm hw hB hz1 hk1 hS => ?_)
  obtain ⟨hP1, hK1, hD1⟩ := hB
  rw [ht] at hP1
  obtain ⟨hP, hD⟩ := w_joinL hP hD hk1 hf hP1 hD1
  generalize H1 = H at hP hS ⊢
  refine lv_aload_n hx hb dL_law_427 rfl (lv_at hl 1 rfl) ?_
  refine lv_aload_n hx hb dL_law_428 rfl (lv_at hl 3 rfl) ?_
  refine lv_iload_n hx hb dL_law_429 rfl (lv_at hl 0 rfl) ?_
  refine lv_iconst (v := 1) hx hb dL_law_430 (by decide) ?_
  refine lv_iadd hx hb dL_law_431 ?_
  refine va_sld hx hb hX hbl hbA hS (sc_in 1 (by decide) hk hL rfl) dL_law_432 ?_
  refine lv_aload_n hx hb dL_law_433 rfl (lv_at hl 3 rfl) ?_
  refine lv_iload_n hx hb dL_law_434 rfl (lv_at hl 0 rfl) ?_
  refine lv_iconst (v := 2) hx hb dL_law_435 (by decide) ?_
  refine lv_iadd hx hb dL_law_436 ?_
  refine va_sld hx hb hX hbl hbA hS (sc_in 2 (by decide) hk hL rfl) dL_law_437 ?_
  refine lv_aload_n hx hb dL_law_438 rfl (lv_at hl 3 rfl) ?_
  refine lv_iload_n hx hb dL_law_439 rfl (lv_at hl 0 rfl) ?_
  refine lv_iconst (v := 3) hx hb dL_law_440 (by decide) ?_
  refine lv_iadd hx hb dL_law_441 ?_
  refine va_sld hx hb hX hbl hbA hS (sc_in 3 (by decide) hk hL rfl) dL_law_442 ?_
  refine lv_aload_n hx hb dL_law_443 rfl (lv_at hl 3 rfl) ?_
  refine lv_iload_n hx hb dL_law_444 rfl (lv_at hl 0 rfl) ?_
  refine lv_iconst (v := 4) hx hb dL_law_445 (by decide) ?_
  refine lv_iadd hx hb dL_law_446 ?_
  refine va_sld hx hb hX hbl hbA hS (sc_in 4 (by decide) hk hL rfl) dL_law_447 ?_
  refine lv_aload_n hx hb dL_law_448 rfl (lv_at hl 3 rfl) ?_
  refine lv_iload_n hx hb dL_law_449 rfl (lv_at hl 0 rfl) ?_
  refine lv_iconst (v := 5) hx hb dL_law_450 (by decide) ?_
  refine lv_iadd hx hb dL_law_451 ?_
  refine va_sld hx hb hX hbl hbA hS (sc_in 5 (by decide) hk hL rfl) dL_law_452 ?_
  have hf2 := xFree (wd_R hD) hS hA
  refine va_calli (va_runV (As := [.int (xs ((nI (6 * k)) + 1).toNatClampNeg), .int (xs ((nI (6 * k)) + 2).toNatClampNeg), .int (xs ((nI (6 * k)) + 3).toNatClampNeg), .int (xs ((nI (6 * k)) + 4).toNatClampNeg), .int (xs ((nI (6 * k)) + 5).toNatClampNeg)]) (rest := [.int rX]) ⟨hx, hb, hml, hown, hts⟩ (j_copy l D G v hR.ok H.size (xs ((nI (6 * k)) + 1).toNatClampNeg) (xs ((nI (6 * k)) + 2).toNatClampNeg) (xs ((nI (6 * k)) + 3).toNatClampNeg) (xs ((nI (6 * k)) + 4).toNatClampNeg) (xs ((nI (6 * k)) + 5).toNatClampNeg)) (cwV 5 hts (lV ylL_53 ym_copy ys_copy yc_copy) rfl rfl rfl (by decide +kernel) ⟨Nat.le_of_ble_eq_true rfl, Nat.le_of_ble_eq_true rfl⟩) (yPre (hK.sub (tys' := yTy G) [4, 5, 6, 7, 8, 9, 10, 11, 12] rfl) (w_R hP) (wd_R hD) _) rfl rfl hl.1 rfl (lv_room (Nat.le_of_ble_eq_true rfl)) dL_law_453 ⟨by show 17 + k + 0 + 0 ≤ 600000; omega, by show 1701 + 6 * k + 0 + 0 ≤ 7302250; omega⟩) hS (fun q _ h => hf2 q h) hf2 (fun rY vY tY H2 locs ht2 hvm2 hw2 hB2 hz2 hk2 hS => ?_)
  obtain ⟨hP2, hK2, hD2⟩ := hB2
  rw [ht2] at hP2
  obtain ⟨hP, hD⟩ := w_joinR hP hD hk2 hf2 hP2 hD2
  generalize H2 = H at hP hS ⊢
  obtain ⟨heq, ι2, c2, e2, hc2, he2, hR2⟩ := Q_copy hR (xs ((nI (6 * k)) + 1).toNatClampNeg) (xs ((nI (6 * k)) + 2).toNatClampNeg) (xs ((nI (6 * k)) + 3).toNatClampNeg) (xs ((nI (6 * k)) + 4).toNatClampNeg) (xs ((nI (6 * k)) + 5).toNatClampNeg)
  rw [← hw, ← hw2] at heq hR2
  have heq : rX = rY := heq
  refine lv_icmp_eq (tgt := 616) hx hb dL_law_456 (by decide) (fun _ => ?_) (fun cz => absurd heq cz)
  refine lv_iinc (v := nI (6 * (k + 1))) (lv' := [(3, .int (nI (6 * (k + 1)))), (2, .ref G.1), (1, .ref F.1), (0, .ref b)]) hx hb dL_law_616 hl (k := 0) rfl (six k) (by decide) rfl (fun ls hl => ?_)
  refine lv_goto (tgt := 18) hx hb dL_law_619 (by decide) ?_
  refine W.widen (k := 17 + (k + 1)) (n := 1701 + 6 * (k + 1)) (by omega) (by omega) ?_
  exact ih _ _ _ _ _ _ _ _ ⟨hR2, by omega, by omega, hP, hD, hS⟩ hl
set_option maxHeartbeats 8000000 in
set_option maxRecDepth 100000 in
theorem law_c9 {p : Program} {l : Launch} {e : Env} {s : State} {m : MethodId} {below : List Frame} {meth : Method} {c : Code} {b L : Nat} {xs : Nat → Int32} (hL : L ≤ 3072) (C0 : lw_At p s m meth c b L xs) {D : va_G} {F : XF} {G : YF} (hC : LCx D F G s) (k : Nat) (hk : 6 * k + 6 ≤ L) {u : XS} {v : YS} {ι : Nat → Nat} {c0 e0 : Nat} {H : Heap} {locs : List Loc} (hI : LI D F G s k u v ι c0 e0 H locs) {ls : Array Slot} (hl : lv_has ls 4 [(3, .int (nI (6 * k))), (2, .ref G.1), (1, .ref F.1), (0, .ref b)]) (ih : LN p l e s m below meth c b D F G (k + 1)) : W p l e room_1 s m #[Value.ref b] below meth c H locs (17 + k) (1701 + 6 * k) (lw_Z below #[Value.ref b] s) (F0 m 461 ls []) := by
  obtain ⟨hx, hb, hr, hml, hown, hts, hX, hbl, hlocks, hgv⟩ := C0
  obtain ⟨hK, hN, hZ⟩ := hC
  obtain ⟨hR, hc0, he0, hP, hD, hS⟩ := hI
  have hA : ∀ q : Nat, s.heap.size ≤ q → (fun q : Nat => s.heap.size ≤ q) q := fun _ h => h
  have hbA : ¬ (fun q : Nat => s.heap.size ≤ q) b := Nat.not_le.mpr hbl
  have htl : ∀ w ∈ wsL_law, w.before #[Value.ref b] s = true := fun w h => hts w (wsL_law_in w h)
  refine lv_aload_n hx hb dL_law_461 rfl (lv_at hl 2 rfl) ?_
  refine lv_aload_n hx hb dL_law_462 rfl (lv_at hl 3 rfl) ?_
  refine lv_iload_n hx hb dL_law_463 rfl (lv_at hl 0 rfl) ?_
  refine lv_iconst (v := 1) hx hb dL_law_464 (by decide) ?_
  refine lv_iadd hx hb dL_law_465 ?_
  refine va_sld hx hb hX hbl hbA hS (sc_in 1 (by decide) hk hL rfl) dL_law_466 ?_
  refine lv_aload_n hx hb dL_law_467 rfl (lv_at hl 3 rfl) ?_
  refine lv_iload_n hx hb dL_law_468 rfl (lv_at hl 0 rfl) ?_
  refine lv_iconst (v := 2) hx hb dL_law_469 (by decide) ?_
  refine lv_iadd hx hb dL_law_470 ?_
  refine va_sld hx hb hX hbl hbA hS (sc_in 2 (by decide) hk hL rfl) dL_law_471 ?_
  have hf := xFree (wd_L hD) hS hA
  refine va_calli (va_runV (As := [.int (xs ((nI (6 * k)) + 1).toNatClampNeg), .int (xs ((nI (6 * k)) + 2).toNatClampNeg)]) (rest := []) ⟨hx, hb, hml, hown, htl⟩ (k_compare l D F u hR.1 H.size (xs ((nI (6 * k)) + 1).toNatClampNeg) (xs ((nI (6 * k)) + 2).toNatClampNeg)) (cwV 2 htl gL_law_X1_compare rfl rfl rfl (by decide +kernel) ⟨Nat.le_of_ble_eq_true rfl, Nat.le_of_ble_eq_true rfl⟩) (xPre hN (hK.sub (tys' := xTy F) [0, 1, 2, 3] rfl) (w_L hP) (wd_L hD) hS hA hZ _) rfl rfl hl.1 rfl (lv_room (Nat.le_of_ble_eq_true rfl)) dL_law_472 ⟨by show 17 + k + 0 ≤ 600000; omega, by show 1701 + 6 * k + 0 ≤ 7302250; omega⟩) hS (fun q _ h => hf q h) hf (fun rX uX tX H1 locs ht hvm hw hB hz1 hk1 hS => ?_)
  obtain ⟨hP1, hK1, hD1⟩ := hB
  rw [ht] at hP1
  obtain ⟨hP, hD⟩ := w_joinL hP hD hk1 hf hP1 hD1
  generalize H1 = H at hP hS ⊢
  refine lv_aload_n hx hb dL_law_475 rfl (lv_at hl 1 rfl) ?_
  refine lv_aload_n hx hb dL_law_476 rfl (lv_at hl 3 rfl) ?_
  refine lv_iload_n hx hb dL_law_477 rfl (lv_at hl 0 rfl) ?_
  refine lv_iconst (v := 1) hx hb dL_law_478 (by decide) ?_
  refine lv_iadd hx hb dL_law_479 ?_
  refine va_sld hx hb hX hbl hbA hS (sc_in 1 (by decide) hk hL rfl) dL_law_480 ?_
  refine lv_aload_n hx hb dL_law_481 rfl (lv_at hl 3 rfl) ?_
  refine lv_iload_n hx hb dL_law_482 rfl (lv_at hl 0 rfl) ?_
  refine lv_iconst (v := 2) hx hb dL_law_483 (by decide) ?_
  refine lv_iadd hx hb dL_law_484 ?_
  refine va_sld hx hb hX hbl hbA hS (sc_in 2 (by decide) hk hL rfl) dL_law_485 ?_
  have hf2 := xFree (wd_R hD) hS hA
  refine va_calli (va_runV (As := [.int (xs ((nI (6 * k)) + 1).toNatClampNeg), .int (xs ((nI (6 * k)) + 2).toNatClampNeg)]) (rest := [.int rX]) ⟨hx, hb, hml, hown, hts⟩ (j_compare l D G v hR.ok H.size (xs ((nI (6 * k)) + 1).toNatClampNeg) (xs ((nI (6 * k)) + 2).toNatClampNeg)) (cwV 2 hts (lV ylL_58 ym_compare ys_compare yc_compare) rfl rfl rfl (by decide +kernel) ⟨Nat.le_of_ble_eq_true rfl, Nat.le_of_ble_eq_true rfl⟩) (yPre (hK.sub (tys' := yTy G) [4, 5, 6, 7, 8, 9, 10, 11, 12] rfl) (w_R hP) (wd_R hD) _) rfl rfl hl.1 rfl (lv_room (Nat.le_of_ble_eq_true rfl)) dL_law_486 ⟨by show 17 + k + 0 + 0 ≤ 600000; omega, by show 1701 + 6 * k + 0 + 0 ≤ 7302250; omega⟩) hS (fun q _ h => hf2 q h) hf2 (fun rY vY tY H2 locs ht2 hvm2 hw2 hB2 hz2 hk2 hS => ?_)
  obtain ⟨hP2, hK2, hD2⟩ := hB2
  rw [ht2] at hP2
  obtain ⟨hP, hD⟩ := w_joinR hP hD hk2 hf2 hP2 hD2
  generalize H2 = H at hP hS ⊢
  obtain ⟨heq, ι2, c2, e2, hc2, he2, hR2⟩ := Q_compare hR (xs ((nI (6 * k)) + 1).toNatClampNeg) (xs ((nI (6 * k)) + 2).toNatClampNeg)
  rw [← hw, ← hw2] at heq hR2
  have heq : rX = rY := heq
  refine lv_icmp_eq (tgt := 616) hx hb dL_law_489 (by decide) (fun _ => ?_) (fun cz => absurd heq cz)
  refine lv_iinc (v := nI (6 * (k + 1))) (lv' := [(3, .int (nI (6 * (k + 1)))), (2, .ref G.1), (1, .ref F.1), (0, .ref b)]) hx hb dL_law_616 hl (k := 0) rfl (six k) (by decide) rfl (fun ls hl => ?_)
  refine lv_goto (tgt := 18) hx hb dL_law_619 (by decide) ?_
  refine W.widen (k := 17 + (k + 1)) (n := 1701 + 6 * (k + 1)) (by omega) (by omega) ?_
  exact ih _ _ _ _ _ _ _ _ ⟨hR2, by omega, by omega, hP, hD, hS⟩ hl
set_option maxHeartbeats 8000000 in
set_option maxRecDepth 100000 in
theorem law_c10 {p : Program} {l : Launch} {e : Env} {s : State} {m : MethodId} {below : List Frame} {meth : Method} {c : Code} {b L : Nat} {xs : Nat → Int32} (hL : L ≤ 3072) (C0 : lw_At p s m meth c b L xs) {D : va_G} {F : XF} {G : YF} (hC : LCx D F G s) (k : Nat) (hk : 6 * k + 6 ≤ L) {u : XS} {v : YS} {ι : Nat → Nat} {c0 e0 : Nat} {H : Heap} {locs : List Loc} (hI : LI D F G s k u v ι c0 e0 H locs) {ls : Array Slot} (hl : lv_has ls 4 [(3, .int (nI (6 * k))), (2, .ref G.1), (1, .ref F.1), (0, .ref b)]) (ih : LN p l e s m below meth c b D F G (k + 1)) : W p l e room_1 s m #[Value.ref b] below meth c H locs (17 + k) (1701 + 6 * k) (lw_Z below #[Value.ref b] s) (F0 m 494 ls []) := by
  obtain ⟨hx, hb, hr, hml, hown, hts, hX, hbl, hlocks, hgv⟩ := C0
  obtain ⟨hK, hN, hZ⟩ := hC
  obtain ⟨hR, hc0, he0, hP, hD, hS⟩ := hI
  have hA : ∀ q : Nat, s.heap.size ≤ q → (fun q : Nat => s.heap.size ≤ q) q := fun _ h => h
  have hbA : ¬ (fun q : Nat => s.heap.size ≤ q) b := Nat.not_le.mpr hbl
  have htl : ∀ w ∈ wsL_law, w.before #[Value.ref b] s = true := fun w h => hts w (wsL_law_in w h)
  refine lv_aload_n hx hb dL_law_494 rfl (lv_at hl 2 rfl) ?_
  refine lv_aload_n hx hb dL_law_495 rfl (lv_at hl 3 rfl) ?_
  refine lv_iload_n hx hb dL_law_496 rfl (lv_at hl 0 rfl) ?_
  refine lv_iconst (v := 1) hx hb dL_law_497 (by decide) ?_
  refine lv_iadd hx hb dL_law_498 ?_
  refine va_sld hx hb hX hbl hbA hS (sc_in 1 (by decide) hk hL rfl) dL_law_499 ?_
  refine lv_aload_n hx hb dL_law_500 rfl (lv_at hl 3 rfl) ?_
  refine lv_iload_n hx hb dL_law_501 rfl (lv_at hl 0 rfl) ?_
  refine lv_iconst (v := 2) hx hb dL_law_502 (by decide) ?_
  refine lv_iadd hx hb dL_law_503 ?_
  refine va_sld hx hb hX hbl hbA hS (sc_in 2 (by decide) hk hL rfl) dL_law_504 ?_
  refine lv_aload_n hx hb dL_law_505 rfl (lv_at hl 3 rfl) ?_
  refine lv_iload_n hx hb dL_law_506 rfl (lv_at hl 0 rfl) ?_
  refine lv_iconst (v := 3) hx hb dL_law_507 (by decide) ?_
  refine lv_iadd hx hb dL_law_508 ?_
  refine va_sld hx hb hX hbl hbA hS (sc_in 3 (by decide) hk hL rfl) dL_law_509 ?_
  have hf := xFree (wd_L hD) hS hA
  refine va_calli (va_runV (As := [.int (xs ((nI (6 * k)) + 1).toNatClampNeg), .int (xs ((nI (6 * k)) + 2).toNatClampNeg), .int (xs ((nI (6 * k)) + 3).toNatClampNeg)]) (rest := []) ⟨hx, hb, hml, hown, htl⟩ (k_flow l D F u  H.size (xs ((nI (6 * k)) + 1).toNatClampNeg) (xs ((nI (6 * k)) + 2).toNatClampNeg) (xs ((nI (6 * k)) + 3).toNatClampNeg)) (cwV 3 htl gL_law_X1_flow rfl rfl rfl (by decide +kernel) ⟨Nat.le_of_ble_eq_true rfl, Nat.le_of_ble_eq_true rfl⟩) (xPre hN (hK.sub (tys' := xTy F) [0, 1, 2, 3] rfl) (w_L hP) (wd_L hD) hS hA hZ _) rfl rfl hl.1 rfl (lv_room (Nat.le_of_ble_eq_true rfl)) dL_law_510 ⟨by show 17 + k + 0 ≤ 600000; omega, by show 1701 + 6 * k + 0 ≤ 7302250; omega⟩) hS (fun q _ h => hf q h) hf (fun rX uX tX H1 locs ht hvm hw hB hz1 hk1 hS => ?_)
  obtain ⟨hP1, hK1, hD1⟩ := hB
  rw [ht] at hP1
  obtain ⟨hP, hD⟩ := w_joinL hP hD hk1 hf hP1 hD1
  generalize H1 = H at hP hS ⊢
  refine lv_aload_n hx hb dL_law_513 rfl (lv_at hl 1 rfl) ?_
  refine lv_aload_n hx hb dL_law_514 rfl (lv_at hl 3 rfl) ?_
  refine lv_iload_n hx hb dL_law_515 rfl (lv_at hl 0 rfl) ?_
  refine lv_iconst (v := 1) hx hb dL_law_516 (by decide) ?_
  refine lv_iadd hx hb dL_law_517 ?_
  refine va_sld hx hb hX hbl hbA hS (sc_in 1 (by decide) hk hL rfl) dL_law_518 ?_
  refine lv_aload_n hx hb dL_law_519 rfl (lv_at hl 3 rfl) ?_
  refine lv_iload_n hx hb dL_law_520 rfl (lv_at hl 0 rfl) ?_
  refine lv_iconst (v := 2) hx hb dL_law_521 (by decide) ?_
  refine lv_iadd hx hb dL_law_522 ?_
  refine va_sld hx hb hX hbl hbA hS (sc_in 2 (by decide) hk hL rfl) dL_law_523 ?_
  refine lv_aload_n hx hb dL_law_524 rfl (lv_at hl 3 rfl) ?_
  refine lv_iload_n hx hb dL_law_525 rfl (lv_at hl 0 rfl) ?_
  refine lv_iconst (v := 3) hx hb dL_law_526 (by decide) ?_
  refine lv_iadd hx hb dL_law_527 ?_
  refine va_sld hx hb hX hbl hbA hS (sc_in 3 (by decide) hk hL rfl) dL_law_528 ?_
  have hf2 := xFree (wd_R hD) hS hA
  refine va_calli (va_runV (As := [.int (xs ((nI (6 * k)) + 1).toNatClampNeg), .int (xs ((nI (6 * k)) + 2).toNatClampNeg), .int (xs ((nI (6 * k)) + 3).toNatClampNeg)]) (rest := [.int rX]) ⟨hx, hb, hml, hown, hts⟩ (j_flow l D G v  H.size (xs ((nI (6 * k)) + 1).toNatClampNeg) (xs ((nI (6 * k)) + 2).toNatClampNeg) (xs ((nI (6 * k)) + 3).toNatClampNeg)) (cwV 3 hts (lV ylL_62 ym_flow ys_flow yc_flow) rfl rfl rfl (by decide +kernel) ⟨Nat.le_of_ble_eq_true rfl, Nat.le_of_ble_eq_true rfl⟩) (yPre (hK.sub (tys' := yTy G) [4, 5, 6, 7, 8, 9, 10, 11, 12] rfl) (w_R hP) (wd_R hD) _) rfl rfl hl.1 rfl (lv_room (Nat.le_of_ble_eq_true rfl)) dL_law_529 ⟨by show 17 + k + 0 + 0 ≤ 600000; omega, by show 1701 + 6 * k + 0 + 0 ≤ 7302250; omega⟩) hS (fun q _ h => hf2 q h) hf2 (fun rY vY tY H2 locs ht2 hvm2 hw2 hB2 hz2 hk2 hS => ?_)
  obtain ⟨hP2, hK2, hD2⟩ := hB2
  rw [ht2] at hP2
  obtain ⟨hP, hD⟩ := w_joinR hP hD hk2 hf2 hP2 hD2
  generalize H2 = H at hP hS ⊢
  obtain ⟨heq, ι2, c2, e2, hc2, he2, hR2⟩ := Q_flow hR (by omega) (xs ((nI (6 * k)) + 1).toNatClampNeg) (xs ((nI (6 * k)) + 2).toNatClampNeg) (xs ((nI (6 * k)) + 3).toNatClampNeg)
  rw [← hw, ← hw2] at heq hR2
  have heq : rX = rY := heq
  refine lv_icmp_eq (tgt := 616) hx hb dL_law_532 (by decide) (fun _ => ?_) (fun cz => absurd heq cz)
  refine lv_iinc (v := nI (6 * (k + 1))) (lv' := [(3, .int (nI (6 * (k + 1)))), (2, .ref G.1), (1, .ref F.1), (0, .ref b)]) hx hb dL_law_616 hl (k := 0) rfl (six k) (by decide) rfl (fun ls hl => ?_)
  refine lv_goto (tgt := 18) hx hb dL_law_619 (by decide) ?_
  refine W.widen (k := 17 + (k + 1)) (n := 1701 + 6 * (k + 1)) (by omega) (by omega) ?_
  exact ih _ _ _ _ _ _ _ _ ⟨hR2, by omega, by omega, hP, hD, hS⟩ hl
set_option maxHeartbeats 8000000 in
set_option maxRecDepth 100000 in
theorem law_c11 {p : Program} {l : Launch} {e : Env} {s : State} {m : MethodId} {below : List Frame} {meth : Method} {c : Code} {b L : Nat} {xs : Nat → Int32} (hL : L ≤ 3072) (C0 : lw_At p s m meth c b L xs) {D : va_G} {F : XF} {G : YF} (hC : LCx D F G s) (k : Nat) (hk : 6 * k + 6 ≤ L) {u : XS} {v : YS} {ι : Nat → Nat} {c0 e0 : Nat} {H : Heap} {locs : List Loc} (hI : LI D F G s k u v ι c0 e0 H locs) {ls : Array Slot} (hl : lv_has ls 4 [(3, .int (nI (6 * k))), (2, .ref G.1), (1, .ref F.1), (0, .ref b)]) (ih : LN p l e s m below meth c b D F G (k + 1)) : W p l e room_1 s m #[Value.ref b] below meth c H locs (17 + k) (1701 + 6 * k) (lw_Z below #[Value.ref b] s) (F0 m 537 ls []) := by
  obtain ⟨hx, hb, hr, hml, hown, hts, hX, hbl, hlocks, hgv⟩ := C0
  obtain ⟨hK, hN, hZ⟩ := hC
  obtain ⟨hR, hc0, he0, hP, hD, hS⟩ := hI
  have hA : ∀ q : Nat, s.heap.size ≤ q → (fun q : Nat => s.heap.size ≤ q) q := fun _ h => h
  have hbA : ¬ (fun q : Nat => s.heap.size ≤ q) b := Nat.not_le.mpr hbl
  have htl : ∀ w ∈ wsL_law, w.before #[Value.ref b] s = true := fun w h => hts w (wsL_law_in w h)
  refine lv_aload_n hx hb dL_law_537 rfl (lv_at hl 2 rfl) ?_
  refine lv_aload_n hx hb dL_law_538 rfl (lv_at hl 3 rfl) ?_
  refine lv_iload_n hx hb dL_law_539 rfl (lv_at hl 0 rfl) ?_
  refine lv_iconst (v := 1) hx hb dL_law_540 (by decide) ?_
  refine lv_iadd hx hb dL_law_541 ?_
  refine va_sld hx hb hX hbl hbA hS (sc_in 1 (by decide) hk hL rfl) dL_law_542 ?_
  refine lv_aload_n hx hb dL_law_543 rfl (lv_at hl 3 rfl) ?_
  refine lv_iload_n hx hb dL_law_544 rfl (lv_at hl 0 rfl) ?_
  refine lv_iconst (v := 2) hx hb dL_law_545 (by decide) ?_
  refine lv_iadd hx hb dL_law_546 ?_
  refine va_sld hx hb hX hbl hbA hS (sc_in 2 (by decide) hk hL rfl) dL_law_547 ?_
  refine lv_aload_n hx hb dL_law_548 rfl (lv_at hl 3 rfl) ?_
  refine lv_iload_n hx hb dL_law_549 rfl (lv_at hl 0 rfl) ?_
  refine lv_iconst (v := 3) hx hb dL_law_550 (by decide) ?_
  refine lv_iadd hx hb dL_law_551 ?_
  refine va_sld hx hb hX hbl hbA hS (sc_in 3 (by decide) hk hL rfl) dL_law_552 ?_
  have hf := xFree (wd_L hD) hS hA
  refine va_calli (va_runV (As := [.int (xs ((nI (6 * k)) + 1).toNatClampNeg), .int (xs ((nI (6 * k)) + 2).toNatClampNeg), .int (xs ((nI (6 * k)) + 3).toNatClampNeg)]) (rest := []) ⟨hx, hb, hml, hown, htl⟩ (k_number l D F u  H.size (xs ((nI (6 * k)) + 1).toNatClampNeg) (xs ((nI (6 * k)) + 2).toNatClampNeg) (xs ((nI (6 * k)) + 3).toNatClampNeg)) (cwV 3 htl gL_law_X1_number rfl rfl rfl (by decide +kernel) ⟨Nat.le_of_ble_eq_true rfl, Nat.le_of_ble_eq_true rfl⟩) (xPre hN (hK.sub (tys' := xTy F) [0, 1, 2, 3] rfl) (w_L hP) (wd_L hD) hS hA hZ _) rfl rfl hl.1 rfl (lv_room (Nat.le_of_ble_eq_true rfl)) dL_law_553 ⟨by show 17 + k + 0 ≤ 600000; omega, by show 1701 + 6 * k + 0 ≤ 7302250; omega⟩) hS (fun q _ h => hf q h) hf (fun rX uX tX H1 locs ht hvm hw hB hz1 hk1 hS => ?_)
  obtain ⟨hP1, hK1, hD1⟩ := hB
  rw [ht] at hP1
  obtain ⟨hP, hD⟩ := w_joinL hP hD hk1 hf hP1 hD1
  generalize H1 = H at hP hS ⊢
  refine lv_aload_n hx hb dL_law_556 rfl (lv_at hl 1 rfl) ?_
  refine lv_aload_n hx hb dL_law_557 rfl (lv_at hl 3 rfl) ?_
  refine lv_iload_n hx hb dL_law_558 rfl (lv_at hl 0 rfl) ?_
  refine lv_iconst (v := 1) hx hb dL_law_559 (by decide) ?_
  refine lv_iadd hx hb dL_law_560 ?_
  refine va_sld hx hb hX hbl hbA hS (sc_in 1 (by decide) hk hL rfl) dL_law_561 ?_
  refine lv_aload_n hx hb dL_law_562 rfl (lv_at hl 3 rfl) ?_
  refine lv_iload_n hx hb dL_law_563 rfl (lv_at hl 0 rfl) ?_
  refine lv_iconst (v := 2) hx hb dL_law_564 (by decide) ?_
  refine lv_iadd hx hb dL_law_565 ?_
  refine va_sld hx hb hX hbl hbA hS (sc_in 2 (by decide) hk hL rfl) dL_law_566 ?_
  refine lv_aload_n hx hb dL_law_567 rfl (lv_at hl 3 rfl) ?_
  refine lv_iload_n hx hb dL_law_568 rfl (lv_at hl 0 rfl) ?_
  refine lv_iconst (v := 3) hx hb dL_law_569 (by decide) ?_
  refine lv_iadd hx hb dL_law_570 ?_
  refine va_sld hx hb hX hbl hbA hS (sc_in 3 (by decide) hk hL rfl) dL_law_571 ?_
  have hf2 := xFree (wd_R hD) hS hA
  refine va_calli (va_runV (As := [.int (xs ((nI (6 * k)) + 1).toNatClampNeg), .int (xs ((nI (6 * k)) + 2).toNatClampNeg), .int (xs ((nI (6 * k)) + 3).toNatClampNeg)]) (rest := [.int rX]) ⟨hx, hb, hml, hown, hts⟩ (j_number l D G v  H.size (xs ((nI (6 * k)) + 1).toNatClampNeg) (xs ((nI (6 * k)) + 2).toNatClampNeg) (xs ((nI (6 * k)) + 3).toNatClampNeg)) (cwV 3 hts (lV ylL_66 ym_number ys_number yc_number) rfl rfl rfl (by decide +kernel) ⟨Nat.le_of_ble_eq_true rfl, Nat.le_of_ble_eq_true rfl⟩) (yPre (hK.sub (tys' := yTy G) [4, 5, 6, 7, 8, 9, 10, 11, 12] rfl) (w_R hP) (wd_R hD) _) rfl rfl hl.1 rfl (lv_room (Nat.le_of_ble_eq_true rfl)) dL_law_572 ⟨by show 17 + k + 0 + 0 ≤ 600000; omega, by show 1701 + 6 * k + 0 + 0 ≤ 7302250; omega⟩) hS (fun q _ h => hf2 q h) hf2 (fun rY vY tY H2 locs ht2 hvm2 hw2 hB2 hz2 hk2 hS => ?_)
  obtain ⟨hP2, hK2, hD2⟩ := hB2
  rw [ht2] at hP2
  obtain ⟨hP, hD⟩ := w_joinR hP hD hk2 hf2 hP2 hD2
  generalize H2 = H at hP hS ⊢
  obtain ⟨heq, ι2, c2, e2, hc2, he2, hR2⟩ := Q_number hR (xs ((nI (6 * k)) + 1).toNatClampNeg) (xs ((nI (6 * k)) + 2).toNatClampNeg) (xs ((nI (6 * k)) + 3).toNatClampNeg)
  rw [← hw, ← hw2] at heq hR2
  have heq : rX = rY := heq
  refine lv_icmp_eq (tgt := 616) hx hb dL_law_575 (by decide) (fun _ => ?_) (fun cz => absurd heq cz)
  refine lv_iinc (v := nI (6 * (k + 1))) (lv' := [(3, .int (nI (6 * (k + 1)))), (2, .ref G.1), (1, .ref F.1), (0, .ref b)]) hx hb dL_law_616 hl (k := 0) rfl (six k) (by decide) rfl (fun ls hl => ?_)
  refine lv_goto (tgt := 18) hx hb dL_law_619 (by decide) ?_
  refine W.widen (k := 17 + (k + 1)) (n := 1701 + 6 * (k + 1)) (by omega) (by omega) ?_
  exact ih _ _ _ _ _ _ _ _ ⟨hR2, by omega, by omega, hP, hD, hS⟩ hl
set_option maxHeartbeats 8000000 in
set_option maxRecDepth 100000 in
theorem law_c12 {p : Program} {l : Launch} {e : Env} {s : State} {m : MethodId} {below : List Frame} {meth : Method} {c : Code} {b L : Nat} {xs : Nat → Int32} (hL : L ≤ 3072) (C0 : lw_At p s m meth c b L xs) {D : va_G} {F : XF} {G : YF} (hC : LCx D F G s) (k : Nat) (hk : 6 * k + 6 ≤ L) {u : XS} {v : YS} {ι : Nat → Nat} {c0 e0 : Nat} {H : Heap} {locs : List Loc} (hI : LI D F G s k u v ι c0 e0 H locs) {ls : Array Slot} (hl : lv_has ls 4 [(3, .int (nI (6 * k))), (2, .ref G.1), (1, .ref F.1), (0, .ref b)]) (ih : LN p l e s m below meth c b D F G (k + 1)) : W p l e room_1 s m #[Value.ref b] below meth c H locs (17 + k) (1701 + 6 * k) (lw_Z below #[Value.ref b] s) (F0 m 580 ls []) := by
  obtain ⟨hx, hb, hr, hml, hown, hts, hX, hbl, hlocks, hgv⟩ := C0
  obtain ⟨hK, hN, hZ⟩ := hC
  obtain ⟨hR, hc0, he0, hP, hD, hS⟩ := hI
  have hA : ∀ q : Nat, s.heap.size ≤ q → (fun q : Nat => s.heap.size ≤ q) q := fun _ h => h
  have hbA : ¬ (fun q : Nat => s.heap.size ≤ q) b := Nat.not_le.mpr hbl
  have htl : ∀ w ∈ wsL_law, w.before #[Value.ref b] s = true := fun w h => hts w (wsL_law_in w h)
  refine lv_aload_n hx hb dL_law_580 rfl (lv_at hl 2 rfl) ?_
  have hf := xFree (wd_L hD) hS hA
  refine va_calli (va_runV (As := []) (rest := []) ⟨hx, hb, hml, hown, hts⟩ (k_events l D F u  H.size ) (cwV 0 hts gM_X1_events rfl rfl rfl (by decide +kernel) ⟨Nat.le_of_ble_eq_true rfl, Nat.le_of_ble_eq_true rfl⟩) (xPre hN (hK.sub (tys' := xTy F) [0, 1, 2, 3] rfl) (w_L hP) (wd_L hD) hS hA hZ _) rfl rfl hl.1 rfl (lv_room (Nat.le_of_ble_eq_true rfl)) dL_law_581 ⟨by show 17 + k + 0 ≤ 600000; omega, by show 1701 + 6 * k + 0 ≤ 7302250; omega⟩) hS (fun q _ h => hf q h) hf (fun rX uX tX H1 locs ht hvm hw hB hz1 hk1 hS => ?_)
  obtain ⟨hP1, hK1, hD1⟩ := hB
  rw [ht] at hP1
  obtain ⟨hP, hD⟩ := w_joinL hP hD hk1 hf hP1 hD1
  generalize H1 = H at hP hS ⊢
  refine lv_aload_n hx hb dL_law_584 rfl (lv_at hl 1 rfl) ?_
  have hf2 := xFree (wd_R hD) hS hA
  refine va_calli (va_runV (As := []) (rest := [.int rX]) ⟨hx, hb, hml, hown, hts⟩ (j_events l D G v  H.size ) (cwV 0 hts (lV ylL_70 ym_events ys_events yc_events) rfl rfl rfl (by decide +kernel) ⟨Nat.le_of_ble_eq_true rfl, Nat.le_of_ble_eq_true rfl⟩) (yPre (hK.sub (tys' := yTy G) [4, 5, 6, 7, 8, 9, 10, 11, 12] rfl) (w_R hP) (wd_R hD) _) rfl rfl hl.1 rfl (lv_room (Nat.le_of_ble_eq_true rfl)) dL_law_585 ⟨by show 17 + k + 0 + 0 ≤ 600000; omega, by show 1701 + 6 * k + 0 + 0 ≤ 7302250; omega⟩) hS (fun q _ h => hf2 q h) hf2 (fun rY vY tY H2 locs ht2 hvm2 hw2 hB2 hz2 hk2 hS => ?_)
  obtain ⟨hP2, hK2, hD2⟩ := hB2
  rw [ht2] at hP2
  obtain ⟨hP, hD⟩ := w_joinR hP hD hk2 hf2 hP2 hD2
  generalize H2 = H at hP hS ⊢
  obtain ⟨heq, ι2, c2, e2, hc2, he2, hR2⟩ := Q_events hR 
  rw [← hw, ← hw2] at heq hR2
  have heq : rX = rY := heq
  refine lv_icmp_eq (tgt := 616) hx hb dL_law_588 (by decide) (fun _ => ?_) (fun cz => absurd heq cz)
  refine lv_iinc (v := nI (6 * (k + 1))) (lv' := [(3, .int (nI (6 * (k + 1)))), (2, .ref G.1), (1, .ref F.1), (0, .ref b)]) hx hb dL_law_616 hl (k := 0) rfl (six k) (by decide) rfl (fun ls hl => ?_)
  refine lv_goto (tgt := 18) hx hb dL_law_619 (by decide) ?_
  refine W.widen (k := 17 + (k + 1)) (n := 1701 + 6 * (k + 1)) (by omega) (by omega) ?_
  exact ih _ _ _ _ _ _ _ _ ⟨hR2, by omega, by omega, hP, hD, hS⟩ hl
set_option maxHeartbeats 8000000 in
set_option maxRecDepth 100000 in
theorem law_c13 {p : Program} {l : Launch} {e : Env} {s : State} {m : MethodId} {below : List Frame} {meth : Method} {c : Code} {b L : Nat} {xs : Nat → Int32} (hL : L ≤ 3072) (C0 : lw_At p s m meth c b L xs) {D : va_G} {F : XF} {G : YF} (hC : LCx D F G s) (k : Nat) (hk : 6 * k + 6 ≤ L) {u : XS} {v : YS} {ι : Nat → Nat} {c0 e0 : Nat} {H : Heap} {locs : List Loc} (hI : LI D F G s k u v ι c0 e0 H locs) {ls : Array Slot} (hl : lv_has ls 4 [(3, .int (nI (6 * k))), (2, .ref G.1), (1, .ref F.1), (0, .ref b)]) (ih : LN p l e s m below meth c b D F G (k + 1)) : W p l e room_1 s m #[Value.ref b] below meth c H locs (17 + k) (1701 + 6 * k) (lw_Z below #[Value.ref b] s) (F0 m 593 ls []) := by
  obtain ⟨hx, hb, hr, hml, hown, hts, hX, hbl, hlocks, hgv⟩ := C0
  obtain ⟨hK, hN, hZ⟩ := hC
  obtain ⟨hR, hc0, he0, hP, hD, hS⟩ := hI
  have hA : ∀ q : Nat, s.heap.size ≤ q → (fun q : Nat => s.heap.size ≤ q) q := fun _ h => h
  have hbA : ¬ (fun q : Nat => s.heap.size ≤ q) b := Nat.not_le.mpr hbl
  have htl : ∀ w ∈ wsL_law, w.before #[Value.ref b] s = true := fun w h => hts w (wsL_law_in w h)
  refine lv_aload_n hx hb dL_law_593 rfl (lv_at hl 2 rfl) ?_
  refine lv_aload_n hx hb dL_law_594 rfl (lv_at hl 3 rfl) ?_
  refine lv_iload_n hx hb dL_law_595 rfl (lv_at hl 0 rfl) ?_
  refine lv_iconst (v := 1) hx hb dL_law_596 (by decide) ?_
  refine lv_iadd hx hb dL_law_597 ?_
  refine va_sld hx hb hX hbl hbA hS (sc_in 1 (by decide) hk hL rfl) dL_law_598 ?_
  have hf := xFree (wd_L hD) hS hA
  refine va_calli (va_runV (As := [.int (xs ((nI (6 * k)) + 1).toNatClampNeg)]) (rest := []) ⟨hx, hb, hml, hown, hts⟩ (k_event l D F u  H.size (xs ((nI (6 * k)) + 1).toNatClampNeg)) (cwV 1 hts gM_X1_event rfl rfl rfl (by decide +kernel) ⟨Nat.le_of_ble_eq_true rfl, Nat.le_of_ble_eq_true rfl⟩) (xPre hN (hK.sub (tys' := xTy F) [0, 1, 2, 3] rfl) (w_L hP) (wd_L hD) hS hA hZ _) rfl rfl hl.1 rfl (lv_room (Nat.le_of_ble_eq_true rfl)) dL_law_599 ⟨by show 17 + k + 0 ≤ 600000; omega, by show 1701 + 6 * k + 0 ≤ 7302250; omega⟩) hS (fun q _ h => hf q h) hf (fun rX uX tX H1 locs ht hvm hw hB hz1 hk1 hS => ?_)
  obtain ⟨hP1, hK1, hD1⟩ := hB
  rw [ht] at hP1
  obtain ⟨hP, hD⟩ := w_joinL hP hD hk1 hf hP1 hD1
  generalize H1 = H at hP hS ⊢
  refine lv_aload_n hx hb dL_law_602 rfl (lv_at hl 1 rfl) ?_
  refine lv_aload_n hx hb dL_law_603 rfl (lv_at hl 3 rfl) ?_
  refine lv_iload_n hx hb dL_law_604 rfl (lv_at hl 0 rfl) ?_
  refine lv_iconst (v := 1) hx hb dL_law_605 (by decide) ?_
  refine lv_iadd hx hb dL_law_606 ?_
  refine va_sld hx hb hX hbl hbA hS (sc_in 1 (by decide) hk hL rfl) dL_law_607 ?_
  have hf2 := xFree (wd_R hD) hS hA
  refine va_calli (va_runV (As := [.int (xs ((nI (6 * k)) + 1).toNatClampNeg)]) (rest := [.int rX]) ⟨hx, hb, hml, hown, hts⟩ (j_event l D G v  H.size (xs ((nI (6 * k)) + 1).toNatClampNeg)) (cwV 1 hts (lV ylL_74 ym_event ys_event yc_event) rfl rfl rfl (by decide +kernel) ⟨Nat.le_of_ble_eq_true rfl, Nat.le_of_ble_eq_true rfl⟩) (yPre (hK.sub (tys' := yTy G) [4, 5, 6, 7, 8, 9, 10, 11, 12] rfl) (w_R hP) (wd_R hD) _) rfl rfl hl.1 rfl (lv_room (Nat.le_of_ble_eq_true rfl)) dL_law_608 ⟨by show 17 + k + 0 + 0 ≤ 600000; omega, by show 1701 + 6 * k + 0 + 0 ≤ 7302250; omega⟩) hS (fun q _ h => hf2 q h) hf2 (fun rY vY tY H2 locs ht2 hvm2 hw2 hB2 hz2 hk2 hS => ?_)
  obtain ⟨hP2, hK2, hD2⟩ := hB2
  rw [ht2] at hP2
  obtain ⟨hP, hD⟩ := w_joinR hP hD hk2 hf2 hP2 hD2
  generalize H2 = H at hP hS ⊢
  obtain ⟨heq, ι2, c2, e2, hc2, he2, hR2⟩ := Q_event hR (by omega) (xs ((nI (6 * k)) + 1).toNatClampNeg)
  rw [← hw, ← hw2] at heq hR2
  have heq : rX = rY := heq
  refine lv_icmp_eq (tgt := 616) hx hb dL_law_611 (by decide) (fun _ => ?_) (fun cz => absurd heq cz)
  refine lv_iinc (v := nI (6 * (k + 1))) (lv' := [(3, .int (nI (6 * (k + 1)))), (2, .ref G.1), (1, .ref F.1), (0, .ref b)]) hx hb dL_law_616 hl (k := 0) rfl (six k) (by decide) rfl (fun ls hl => ?_)
  refine lv_goto (tgt := 18) hx hb dL_law_619 (by decide) ?_
  refine W.widen (k := 17 + (k + 1)) (n := 1701 + 6 * (k + 1)) (by omega) (by omega) ?_
  exact ih _ _ _ _ _ _ _ _ ⟨hR2, by omega, by omega, hP, hD, hS⟩ hl
