set_option maxHeartbeats 8000000 in
set_option maxRecDepth 100000 in
theorem law_go {p : Program} {l : Launch} {e : Env} {s : State} {m : MethodId} {below : List Frame} {meth : Method} {c : Code} {b L : Nat} {xs : Nat → Int32} (hL : L ≤ 3072) (C0 : lw_At p s m meth c b L xs) {D : va_G} {F : XF} {G : YF} (hC : LCx D F G s) (k : Nat) (hk : 6 * k + 6 ≤ L) {u : XS} {v : YS} {ι : Nat → Nat} {c0 e0 : Nat} {H : Heap} {locs : List Loc} (hI : LI D F G s k u v ι c0 e0 H locs) {ls : Array Slot} (hl : lv_has ls 4 [(3, .int (nI (6 * k))), (2, .ref G.1), (1, .ref F.1), (0, .ref b)]) (ih : LN p l e s m below meth c b D F G (k + 1)) : W p l e room_1 s m #[Value.ref b] below meth c H locs (17 + k) (1701 + 6 * k) (lw_Z below #[Value.ref b] s) (F0 m 27 ls []) := by
  have hI0 := hI
  obtain ⟨hx, hb, hr, hml, hown, hts, hX, hbl, hlocks, hgv⟩ := id C0
  obtain ⟨hK, hN, hZ⟩ := id hC
  obtain ⟨hR, hc0, he0, hP, hD, hS⟩ := hI
  have hA : ∀ q : Nat, s.heap.size ≤ q → (fun q : Nat => s.heap.size ≤ q) q := fun _ h => h
  have hbA : ¬ (fun q : Nat => s.heap.size ≤ q) b := Nat.not_le.mpr hbl
  have htl : ∀ w ∈ wsL_law, w.before #[Value.ref b] s = true := fun w h => hts w (wsL_law_in w h)
  refine lv_aload_n hx hb dL_law_27 rfl (lv_at hl 3 rfl) ?_
  refine lv_iload_n hx hb dL_law_28 rfl (lv_at hl 0 rfl) ?_
  refine va_sld hx hb hX hbl hbA hS (sc_in0 hk hL) dL_law_29 ?_
  refine lv_bipush (v := 15) hx hb dL_law_30 (by decide) ?_
  refine lv_iand hx hb dL_law_32 ?_
  by_cases c1 : ((xs (nI (6 * k)).toNatClampNeg) &&& 15) = 0
  · refine lv_tableIn (off := 71) (tgt := 104) hx hb dL_law_33 (by rw [c1]; decide) (by rw [c1]; decide) (by rw [c1]; rfl) (by decide) ?_
    exact law_c0 hL C0 hC k hk hI0 hl ih
  by_cases c2 : ((xs (nI (6 * k)).toNatClampNeg) &&& 15) = 1
  · refine lv_tableIn (off := 114) (tgt := 147) hx hb dL_law_33 (by rw [c2]; decide) (by rw [c2]; decide) (by rw [c2]; rfl) (by decide) ?_
    exact law_c1 hL C0 hC k hk hI0 hl ih
  by_cases c3 : ((xs (nI (6 * k)).toNatClampNeg) &&& 15) = 2
  · refine lv_tableIn (off := 137) (tgt := 170) hx hb dL_law_33 (by rw [c3]; decide) (by rw [c3]; decide) (by rw [c3]; rfl) (by decide) ?_
    exact law_c2 hL C0 hC k hk hI0 hl ih
  by_cases c4 : ((xs (nI (6 * k)).toNatClampNeg) &&& 15) = 3
  · refine lv_tableIn (off := 200) (tgt := 233) hx hb dL_law_33 (by rw [c4]; decide) (by rw [c4]; decide) (by rw [c4]; rfl) (by decide) ?_
    exact law_c3 hL C0 hC k hk hI0 hl ih
  by_cases c5 : ((xs (nI (6 * k)).toNatClampNeg) &&& 15) = 4
  · refine lv_tableIn (off := 213) (tgt := 246) hx hb dL_law_33 (by rw [c5]; decide) (by rw [c5]; decide) (by rw [c5]; rfl) (by decide) ?_
    exact law_c4 hL C0 hC k hk hI0 hl ih
  by_cases c6 : ((xs (nI (6 * k)).toNatClampNeg) &&& 15) = 5
  · refine lv_tableIn (off := 246) (tgt := 279) hx hb dL_law_33 (by rw [c6]; decide) (by rw [c6]; decide) (by rw [c6]; rfl) (by decide) ?_
    exact law_c5 hL C0 hC k hk hI0 hl ih
  by_cases c7 : ((xs (nI (6 * k)).toNatClampNeg) &&& 15) = 6
  · refine lv_tableIn (off := 279) (tgt := 312) hx hb dL_law_33 (by rw [c7]; decide) (by rw [c7]; decide) (by rw [c7]; rfl) (by decide) ?_
    exact law_c6 hL C0 hC k hk hI0 hl ih
  by_cases c8 : ((xs (nI (6 * k)).toNatClampNeg) &&& 15) = 7
  · refine lv_tableIn (off := 322) (tgt := 355) hx hb dL_law_33 (by rw [c8]; decide) (by rw [c8]; decide) (by rw [c8]; rfl) (by decide) ?_
    exact law_c7 hL C0 hC k hk hI0 hl ih
  by_cases c9 : ((xs (nI (6 * k)).toNatClampNeg) &&& 15) = 8
  · refine lv_tableIn (off := 365) (tgt := 398) hx hb dL_law_33 (by rw [c9]; decide) (by rw [c9]; decide) (by rw [c9]; rfl) (by decide) ?_
    exact law_c8 hL C0 hC k hk hI0 hl ih
  by_cases c10 : ((xs (nI (6 * k)).toNatClampNeg) &&& 15) = 9
  · refine lv_tableIn (off := 428) (tgt := 461) hx hb dL_law_33 (by rw [c10]; decide) (by rw [c10]; decide) (by rw [c10]; rfl) (by decide) ?_
    exact law_c9 hL C0 hC k hk hI0 hl ih
  by_cases c11 : ((xs (nI (6 * k)).toNatClampNeg) &&& 15) = 10
  · refine lv_tableIn (off := 461) (tgt := 494) hx hb dL_law_33 (by rw [c11]; decide) (by rw [c11]; decide) (by rw [c11]; rfl) (by decide) ?_
    exact law_c10 hL C0 hC k hk hI0 hl ih
  by_cases c12 : ((xs (nI (6 * k)).toNatClampNeg) &&& 15) = 11
  · refine lv_tableIn (off := 504) (tgt := 537) hx hb dL_law_33 (by rw [c12]; decide) (by rw [c12]; decide) (by rw [c12]; rfl) (by decide) ?_
    exact law_c11 hL C0 hC k hk hI0 hl ih
  by_cases c13 : ((xs (nI (6 * k)).toNatClampNeg) &&& 15) = 12
  · refine lv_tableIn (off := 547) (tgt := 580) hx hb dL_law_33 (by rw [c13]; decide) (by rw [c13]; decide) (by rw [c13]; rfl) (by decide) ?_
    exact law_c12 hL C0 hC k hk hI0 hl ih
  by_cases c14 : ((xs (nI (6 * k)).toNatClampNeg) &&& 15) = 13
  · refine lv_tableIn (off := 560) (tgt := 593) hx hb dL_law_33 (by rw [c14]; decide) (by rw [c14]; decide) (by rw [c14]; rfl) (by decide) ?_
    exact law_c13 hL C0 hC k hk hI0 hl ih
  refine lv_tableOut (tgt := 616) hx hb dL_law_33 (by have z0 := lv_neT (k := 0) (a := 0) c1 (by decide); have z1 := lv_neT (k := 1) (a := 1) c2 (by decide); have z2 := lv_neT (k := 2) (a := 2) c3 (by decide); have z3 := lv_neT (k := 3) (a := 3) c4 (by decide); have z4 := lv_neT (k := 4) (a := 4) c5 (by decide); have z5 := lv_neT (k := 5) (a := 5) c6 (by decide); have z6 := lv_neT (k := 6) (a := 6) c7 (by decide); have z7 := lv_neT (k := 7) (a := 7) c8 (by decide); have z8 := lv_neT (k := 8) (a := 8) c9 (by decide); have z9 := lv_neT (k := 9) (a := 9) c10 (by decide); have z10 := lv_neT (k := 10) (a := 10) c11 (by decide); have z11 := lv_neT (k := 11) (a := 11) c12 (by decide); have z12 := lv_neT (k := 12) (a := 12) c13 (by decide); have z13 := lv_neT (k := 13) (a := 13) c14 (by decide); omega) (by decide) ?_
  refine lv_iinc (v := nI (6 * (k + 1))) (lv' := [(3, .int (nI (6 * (k + 1)))), (2, .ref G.1), (1, .ref F.1), (0, .ref b)]) hx hb dL_law_616 hl (k := 0) rfl (six k) (by decide) rfl (fun ls hl => ?_)
  refine lv_goto (tgt := 18) hx hb dL_law_619 (by decide) ?_
  refine W.widen (k := 17 + (k + 1)) (n := 1701 + 6 * (k + 1)) (by omega) (by omega) ?_
  exact ih _ _ _ _ _ _ _ _ ⟨hR, by omega, by omega, hP, hD, hS⟩ hl
