set_option maxHeartbeats 8000000 in
set_option maxRecDepth 100000 in
theorem k_twiceOf (l : Launch) (D : va_G) (F : XF) (u : XS) (hok : xOk F u) (sz : Nat) (p0 : Nat) (hp0 : p0 ∈ gL u) (p1 : Int32) : Met l yX1_twiceOf wsX1_twiceOf ({ frames := 2, cells := 0, slots := 0, locals := 46 }) (xPc D F u sz [.ref F.1, .ref p0, .int p1]) (va_Qi (fun (r : Int32) (v : XS) => (r, v) = sTw u p0 p1) (xB D F (va_A (xW F u) sz)) (va_A (xW F u) sz)) 0 0 (va_A (xW F u) sz) := by
  obtain ⟨sS, sP, sQ, sE, ec, sc, vl, LP, sT⟩ := u
  refine Met.ofW (cc := cX1_twiceOf) (maxL := 3) (ret := (some .int)) (by decide) rfl ?_
  intro p e s m args below meth c s₁ B hml hv
  obtain ⟨rfl, hsz, hP, hK, hD0, hN, hZ⟩ := hv
  have hx := B.exec
  have hb := B.bytes
  have hr := B.returns
  have hts := atoms_spec (ws := wsX1_twiceOf) B.pre
  have hown : s.vm.findClass RX1 = some m.cls := findClass_of_methodNamed B.named
  have hlocks := B.notSynchronized
  subst hsz
  have hD := hD0.self (sz := s.heap.size)
  generalize hAe : va_A (xW F (sS, sP, sQ, sE, ec, sc, vl, LP, sT)) s.heap.size = A at hD hZ ⊢
  have hA : ∀ q : Nat, s.heap.size ≤ q → A q := fun q h => by rw [← hAe]; exact Or.inr h
  have hS : va_S A s.heap s.heap [] := va_S.rf
  obtain ⟨tk, tm, tr, hztk, httk, hztm, httm, hztr, httr⟩ := id hZ
  refine xHeap (C := fun H => va_P D vwCl (xW F (sS, sP, sQ, sE, ec, sc, vl, LP, sT)) H ∧ va_S A s.heap H []) ⟨hP, hS⟩ (fun H hC => ?_)
  obtain ⟨hP, hS⟩ := hC
  have hl := lv_entry ([.ref F.1, .ref p0, .int p1]) (n := 3) (Nat.le_of_ble_eq_true rfl)
  rw [lg_entry_eq]
  generalize (lg_sl ([.ref F.1, .ref p0, .int p1]) ++ List.replicate (3 - (lg_sl ([.ref F.1, .ref p0, .int p1])).length) Slot.unset).toArray = ls at hl ⊢
  have hl : lv_has ls 3 [(0, .ref F.1), (1, .ref p0), (2, .int p1)] := hl
  refine lv_aload_n hx hb dX1_twiceOf_0 rfl (lv_at hl 1 rfl) ?_
  obtain ⟨k1, hk1⟩ := va_pl_get (X := xX F (sS, sP, sQ, sE, ec, sc, vl, LP, sT)) (f := thP sT) hp0
  refine va_getN (D := D) (ci := 0) (v := .int ((sT p0).1)) (C := RX0) (T := TX0) (N := 6) hx hb hts (by decide +kernel) hown hK hP k1 hk1 rfl 0 (by decide) (va_Nw.use rfl (hN (.fieldLinkNest RX1 118 "FamilyProbes$Thing" "kind" "I" "FamilyProbes") (by decide +kernel))) (fun _ h9 => h9) rfl dX1_twiceOf_1 ?_
  by_cases c2 : (sT p0).1 = 0
  · refine lv_tableIn (off := 56) (tgt := 60) hx hb dX1_twiceOf_4 (by rw [c2]; decide) (by rw [c2]; decide) (by rw [c2]; rfl) (by decide) ?_
    refine lv_aload_n hx hb dX1_twiceOf_60 rfl (lv_at hl 0 rfl) ?_
    refine lv_aload_n hx hb dX1_twiceOf_61 rfl (lv_at hl 1 rfl) ?_
    refine lv_iload_n hx hb dX1_twiceOf_62 rfl (lv_at hl 2 rfl) ?_
    have hf3 := xFree hD hS hA
    refine va_calli (va_runV (As := [.ref p0, .int p1]) (rest := []) ⟨hx, hb, hml, hown, hts⟩ (k_twiceAsLoud l D F (sS, sP, sQ, sE, ec, sc, vl, LP, sT) hok H.size p0 hp0 p1) (cwV 2 hts gX1_twiceOf_X1_twiceAsLoud rfl rfl rfl (by decide +kernel) ⟨Nat.le_of_ble_eq_true rfl, Nat.le_of_ble_eq_true rfl⟩) (xPre hN hK hP hD hS hA hZ _) rfl rfl hl.1 rfl (lv_room (Nat.le_of_ble_eq_true rfl)) dX1_twiceOf_63 ⟨Nat.le_of_ble_eq_true rfl, Nat.le_of_ble_eq_true rfl⟩) hS (fun q _ h => hf3 q h) hf3 (fun r4 v5 t7 H1 locs ht hvm hw6 hB hz1 hk1 hS => ?_)
    obtain ⟨hP1, hK1, hD1⟩ := hB
    rw [ht] at hP1
    replace hD1 := hD1.weaken (fun _ _ _ h => hf3 _ h)
    generalize H1 = H at hP1 hS ⊢
    obtain ⟨rfl, rfl⟩ := Prod.mk.inj (show (r4, v5) = ((2 * (fCall (sT (chase sT 3 p0)) sc p1).1), (sS, sP, sQ, sE, ec, (fCall (sT (chase sT 3 p0)) sc p1).2, vl, LP, sT)) from hw6)
    have hP : va_P D vwCl (xW F (sS, sP, sQ, sE, ec, (fCall (sT (chase sT 3 p0)) sc p1).2, vl, LP, sT)) H := hP1
    have hD : va_D A (xW F (sS, sP, sQ, sE, ec, (fCall (sT (chase sT 3 p0)) sc p1).2, vl, LP, sT)) := hD1
    exact W.iret (v := (2 * (fCall (sT (chase sT 3 p0)) sc p1).1)) hx hb hr (fun tE ht hW => ⟨⟨(2 * (fCall (sT (chase sT 3 p0)) sc p1).1), (sS, sP, sQ, sE, ec, (fCall (sT (chase sT 3 p0)) sc p1).2, vl, LP, sT), rfl, by first | (simp only [sTw, sLoud, sSoft, sCall, uC, gS, gP, gQ, gE, gec, gsc, gvl, gL, gT, eq_true c2, eq_self, ↓reduceIte, Bool.false_eq_true, Bool.not_false, Bool.not_true, Bool.and_true, Bool.and_false, Bool.true_and, Bool.false_and, decide_true, decide_false] <;> first | done | decide) | (simp only [sTw, sLoud, sSoft, sCall, uC, gS, gP, gQ, gE, gec, gsc, gvl, gL, gT, c2, eq_self, ↓reduceIte, Bool.false_eq_true, Bool.not_false, Bool.not_true, Bool.and_true, Bool.and_false, Bool.true_and, Bool.false_and, decide_true, decide_false] <;> first | done | decide) | (simp [sTw, sLoud, sSoft, sCall, uC, gS, gP, gQ, gE, gec, gsc, gvl, gL, gT, c2]; done) | (simp [sTw, sLoud, sSoft, sCall, uC, gS, gP, gQ, gE, gec, gsc, gvl, gL, gT, eq_true c2]; done), by rw [ht]; exact hP, va_K.moved hW.alike hK, hD⟩, hS.F ht⟩) hS.2.2 dX1_twiceOf_66
  by_cases c8 : (sT p0).1 = 1
  · refine lv_tableIn (off := 63) (tgt := 67) hx hb dX1_twiceOf_4 (by rw [c8]; decide) (by rw [c8]; decide) (by rw [c8]; rfl) (by decide) ?_
    refine lv_aload_n hx hb dX1_twiceOf_67 rfl (lv_at hl 0 rfl) ?_
    refine lv_aload_n hx hb dX1_twiceOf_68 rfl (lv_at hl 1 rfl) ?_
    refine lv_iload_n hx hb dX1_twiceOf_69 rfl (lv_at hl 2 rfl) ?_
    have hf9 := xFree hD hS hA
    refine va_calli (va_runV (As := [.ref p0, .int p1]) (rest := []) ⟨hx, hb, hml, hown, hts⟩ (k_twiceAsSoft l D F (sS, sP, sQ, sE, ec, sc, vl, LP, sT) hok H.size p0 hp0 p1) (cwV 2 hts gX1_twiceOf_X1_twiceAsSoft rfl rfl rfl (by decide +kernel) ⟨Nat.le_of_ble_eq_true rfl, Nat.le_of_ble_eq_true rfl⟩) (xPre hN hK hP hD hS hA hZ _) rfl rfl hl.1 rfl (lv_room (Nat.le_of_ble_eq_true rfl)) dX1_twiceOf_70 ⟨Nat.le_of_ble_eq_true rfl, Nat.le_of_ble_eq_true rfl⟩) hS (fun q _ h => hf9 q h) hf9 (fun r10 v11 t13 H1 locs ht hvm hw12 hB hz1 hk1 hS => ?_)
    obtain ⟨hP1, hK1, hD1⟩ := hB
    rw [ht] at hP1
    replace hD1 := hD1.weaken (fun _ _ _ h => hf9 _ h)
    generalize H1 = H at hP1 hS ⊢
    obtain ⟨rfl, rfl⟩ := Prod.mk.inj (show (r10, v11) = (((fCall (sT (chase sT 3 p0)) sc p1).1 - 1), (sS, sP, sQ, sE, ec, (fCall (sT (chase sT 3 p0)) sc p1).2, vl, LP, sT)) from hw12)
    have hP : va_P D vwCl (xW F (sS, sP, sQ, sE, ec, (fCall (sT (chase sT 3 p0)) sc p1).2, vl, LP, sT)) H := hP1
    have hD : va_D A (xW F (sS, sP, sQ, sE, ec, (fCall (sT (chase sT 3 p0)) sc p1).2, vl, LP, sT)) := hD1
    exact W.iret (v := ((fCall (sT (chase sT 3 p0)) sc p1).1 - 1)) hx hb hr (fun tE ht hW => ⟨⟨((fCall (sT (chase sT 3 p0)) sc p1).1 - 1), (sS, sP, sQ, sE, ec, (fCall (sT (chase sT 3 p0)) sc p1).2, vl, LP, sT), rfl, by first | (simp only [sTw, sLoud, sSoft, sCall, uC, gS, gP, gQ, gE, gec, gsc, gvl, gL, gT, c2, eq_true c8, eq_self, ↓reduceIte, Bool.false_eq_true, Bool.not_false, Bool.not_true, Bool.and_true, Bool.and_false, Bool.true_and, Bool.false_and, decide_true, decide_false] <;> first | done | decide) | (simp only [sTw, sLoud, sSoft, sCall, uC, gS, gP, gQ, gE, gec, gsc, gvl, gL, gT, c2, c8, eq_self, ↓reduceIte, Bool.false_eq_true, Bool.not_false, Bool.not_true, Bool.and_true, Bool.and_false, Bool.true_and, Bool.false_and, decide_true, decide_false] <;> first | done | decide) | (simp [sTw, sLoud, sSoft, sCall, uC, gS, gP, gQ, gE, gec, gsc, gvl, gL, gT, c2, c8]; done) | (simp [sTw, sLoud, sSoft, sCall, uC, gS, gP, gQ, gE, gec, gsc, gvl, gL, gT, c2, eq_true c8]; done), by rw [ht]; exact hP, va_K.moved hW.alike hK, hD⟩, hS.F ht⟩) hS.2.2 dX1_twiceOf_73
  by_cases c14 : (sT p0).1 = 2
  · refine lv_tableIn (off := 70) (tgt := 74) hx hb dX1_twiceOf_4 (by rw [c14]; decide) (by rw [c14]; decide) (by rw [c14]; rfl) (by decide) ?_
    refine lv_aload_n hx hb dX1_twiceOf_74 rfl (lv_at hl 0 rfl) ?_
    refine lv_aload_n hx hb dX1_twiceOf_75 rfl (lv_at hl 1 rfl) ?_
    refine lv_iload_n hx hb dX1_twiceOf_76 rfl (lv_at hl 2 rfl) ?_
    have hf15 := xFree hD hS hA
    refine va_calli (va_runV (As := [.ref p0, .int p1]) (rest := []) ⟨hx, hb, hml, hown, hts⟩ (k_twiceAsLoud l D F (sS, sP, sQ, sE, ec, sc, vl, LP, sT) hok H.size p0 hp0 p1) (cwV 2 hts gX1_twiceOf_X1_twiceAsLoud rfl rfl rfl (by decide +kernel) ⟨Nat.le_of_ble_eq_true rfl, Nat.le_of_ble_eq_true rfl⟩) (xPre hN hK hP hD hS hA hZ _) rfl rfl hl.1 rfl (lv_room (Nat.le_of_ble_eq_true rfl)) dX1_twiceOf_77 ⟨Nat.le_of_ble_eq_true rfl, Nat.le_of_ble_eq_true rfl⟩) hS (fun q _ h => hf15 q h) hf15 (fun r16 v17 t19 H1 locs ht hvm hw18 hB hz1 hk1 hS => ?_)
    obtain ⟨hP1, hK1, hD1⟩ := hB
    rw [ht] at hP1
    replace hD1 := hD1.weaken (fun _ _ _ h => hf15 _ h)
    generalize H1 = H at hP1 hS ⊢
    obtain ⟨rfl, rfl⟩ := Prod.mk.inj (show (r16, v17) = ((2 * (fCall (sT (chase sT 3 p0)) sc p1).1), (sS, sP, sQ, sE, ec, (fCall (sT (chase sT 3 p0)) sc p1).2, vl, LP, sT)) from hw18)
    have hP : va_P D vwCl (xW F (sS, sP, sQ, sE, ec, (fCall (sT (chase sT 3 p0)) sc p1).2, vl, LP, sT)) H := hP1
    have hD : va_D A (xW F (sS, sP, sQ, sE, ec, (fCall (sT (chase sT 3 p0)) sc p1).2, vl, LP, sT)) := hD1
    refine lv_aload_n hx hb dX1_twiceOf_80 rfl (lv_at hl 0 rfl) ?_
    refine lv_aload_n hx hb dX1_twiceOf_81 rfl (lv_at hl 1 rfl) ?_
    refine lv_iload_n hx hb dX1_twiceOf_82 rfl (lv_at hl 2 rfl) ?_
    have hf20 := xFree hD hS hA
    refine va_calli (va_runV (As := [.ref p0, .int p1]) (rest := [.int (2 * (fCall (sT (chase sT 3 p0)) sc p1).1)]) ⟨hx, hb, hml, hown, hts⟩ (k_twiceAsSoft l D F (sS, sP, sQ, sE, ec, (fCall (sT (chase sT 3 p0)) sc p1).2, vl, LP, sT) hok H.size p0 hp0 p1) (cwV 2 hts gX1_twiceOf_X1_twiceAsSoft rfl rfl rfl (by decide +kernel) ⟨Nat.le_of_ble_eq_true rfl, Nat.le_of_ble_eq_true rfl⟩) (xPre hN hK hP hD hS hA hZ _) rfl rfl hl.1 rfl (lv_room (Nat.le_of_ble_eq_true rfl)) dX1_twiceOf_83 ⟨Nat.le_of_ble_eq_true rfl, Nat.le_of_ble_eq_true rfl⟩) hS (fun q _ h => hf20 q h) hf20 (fun r21 v22 t24 H1 locs ht hvm hw23 hB hz1 hk1 hS => ?_)
    obtain ⟨hP1, hK1, hD1⟩ := hB
    rw [ht] at hP1
    replace hD1 := hD1.weaken (fun _ _ _ h => hf20 _ h)
    generalize H1 = H at hP1 hS ⊢
    obtain ⟨rfl, rfl⟩ := Prod.mk.inj (show (r21, v22) = (((fCall (sT (chase sT 3 p0)) ((fCall (sT (chase sT 3 p0)) sc p1).2) p1).1 - 1), (sS, sP, sQ, sE, ec, (fCall (sT (chase sT 3 p0)) ((fCall (sT (chase sT 3 p0)) sc p1).2) p1).2, vl, LP, sT)) from hw23)
    have hP : va_P D vwCl (xW F (sS, sP, sQ, sE, ec, (fCall (sT (chase sT 3 p0)) ((fCall (sT (chase sT 3 p0)) sc p1).2) p1).2, vl, LP, sT)) H := hP1
    have hD : va_D A (xW F (sS, sP, sQ, sE, ec, (fCall (sT (chase sT 3 p0)) ((fCall (sT (chase sT 3 p0)) sc p1).2) p1).2, vl, LP, sT)) := hD1
    refine lv_iadd hx hb dX1_twiceOf_86 ?_
    exact W.iret (v := ((2 * (fCall (sT (chase sT 3 p0)) sc p1).1) + ((fCall (sT (chase sT 3 p0)) ((fCall (sT (chase sT 3 p0)) sc p1).2) p1).1 - 1))) hx hb hr (fun tE ht hW => ⟨⟨((2 * (fCall (sT (chase sT 3 p0)) sc p1).1) + ((fCall (sT (chase sT 3 p0)) ((fCall (sT (chase sT 3 p0)) sc p1).2) p1).1 - 1)), (sS, sP, sQ, sE, ec, (fCall (sT (chase sT 3 p0)) ((fCall (sT (chase sT 3 p0)) sc p1).2) p1).2, vl, LP, sT), rfl, by first | (simp only [sTw, sLoud, sSoft, sCall, uC, gS, gP, gQ, gE, gec, gsc, gvl, gL, gT, c2, c8, eq_true c14, eq_self, ↓reduceIte, Bool.false_eq_true, Bool.not_false, Bool.not_true, Bool.and_true, Bool.and_false, Bool.true_and, Bool.false_and, decide_true, decide_false] <;> first | done | decide) | (simp only [sTw, sLoud, sSoft, sCall, uC, gS, gP, gQ, gE, gec, gsc, gvl, gL, gT, c2, c8, c14, eq_self, ↓reduceIte, Bool.false_eq_true, Bool.not_false, Bool.not_true, Bool.and_true, Bool.and_false, Bool.true_and, Bool.false_and, decide_true, decide_false] <;> first | done | decide) | (simp [sTw, sLoud, sSoft, sCall, uC, gS, gP, gQ, gE, gec, gsc, gvl, gL, gT, c2, c8, c14]; done) | (simp [sTw, sLoud, sSoft, sCall, uC, gS, gP, gQ, gE, gec, gsc, gvl, gL, gT, c2, c8, eq_true c14]; done), by rw [ht]; exact hP, va_K.moved hW.alike hK, hD⟩, hS.F ht⟩) hS.2.2 dX1_twiceOf_87
  by_cases c25 : (sT p0).1 = 3
  · refine lv_tableIn (off := 84) (tgt := 88) hx hb dX1_twiceOf_4 (by rw [c25]; decide) (by rw [c25]; decide) (by rw [c25]; rfl) (by decide) ?_
    refine lv_aload_n hx hb dX1_twiceOf_88 rfl (lv_at hl 0 rfl) ?_
    refine lv_aload_n hx hb dX1_twiceOf_89 rfl (lv_at hl 1 rfl) ?_
    refine lv_aload_n hx hb dX1_twiceOf_90 rfl (lv_at hl 0 rfl) ?_
    refine lv_aload_n hx hb dX1_twiceOf_91 rfl (lv_at hl 1 rfl) ?_
    refine lv_iload_n hx hb dX1_twiceOf_92 rfl (lv_at hl 2 rfl) ?_
    have hf26 := xFree hD hS hA
    refine va_calli (va_runV (As := [.ref p0, .int p1]) (rest := [.ref p0, .ref F.1]) ⟨hx, hb, hml, hown, hts⟩ (k_callOf l D F (sS, sP, sQ, sE, ec, sc, vl, LP, sT) hok H.size p0 hp0 p1) (cwV 2 hts gX1_twiceOf_X1_callOf rfl rfl rfl (by decide +kernel) ⟨Nat.le_of_ble_eq_true rfl, Nat.le_of_ble_eq_true rfl⟩) (xPre hN hK hP hD hS hA hZ _) rfl rfl hl.1 rfl (lv_room (Nat.le_of_ble_eq_true rfl)) dX1_twiceOf_93 ⟨Nat.le_of_ble_eq_true rfl, Nat.le_of_ble_eq_true rfl⟩) hS (fun q _ h => hf26 q h) hf26 (fun r27 v28 t30 H1 locs ht hvm hw29 hB hz1 hk1 hS => ?_)
    obtain ⟨hP1, hK1, hD1⟩ := hB
    rw [ht] at hP1
    replace hD1 := hD1.weaken (fun _ _ _ h => hf26 _ h)
    generalize H1 = H at hP1 hS ⊢
    obtain ⟨rfl, rfl⟩ := Prod.mk.inj (show (r27, v28) = ((fCall (sT (chase sT 3 p0)) sc p1).1, (sS, sP, sQ, sE, ec, (fCall (sT (chase sT 3 p0)) sc p1).2, vl, LP, sT)) from hw29)
    have hP : va_P D vwCl (xW F (sS, sP, sQ, sE, ec, (fCall (sT (chase sT 3 p0)) sc p1).2, vl, LP, sT)) H := hP1
    have hD : va_D A (xW F (sS, sP, sQ, sE, ec, (fCall (sT (chase sT 3 p0)) sc p1).2, vl, LP, sT)) := hD1
    have hf31 := xFree hD hS hA
    refine va_calli (va_runV (As := [.ref p0, .int ((fCall (sT (chase sT 3 p0)) sc p1).1)]) (rest := []) ⟨hx, hb, hml, hown, hts⟩ (k_callOf l D F (sS, sP, sQ, sE, ec, (fCall (sT (chase sT 3 p0)) sc p1).2, vl, LP, sT) hok H.size p0 hp0 ((fCall (sT (chase sT 3 p0)) sc p1).1)) (cwV 2 hts gX1_twiceOf_X1_callOf rfl rfl rfl (by decide +kernel) ⟨Nat.le_of_ble_eq_true rfl, Nat.le_of_ble_eq_true rfl⟩) (xPre hN hK hP hD hS hA hZ _) rfl rfl hl.1 rfl (lv_room (Nat.le_of_ble_eq_true rfl)) dX1_twiceOf_96 ⟨Nat.le_of_ble_eq_true rfl, Nat.le_of_ble_eq_true rfl⟩) hS (fun q _ h => hf31 q h) hf31 (fun r32 v33 t35 H1 locs ht hvm hw34 hB hz1 hk1 hS => ?_)
    obtain ⟨hP1, hK1, hD1⟩ := hB
    rw [ht] at hP1
    replace hD1 := hD1.weaken (fun _ _ _ h => hf31 _ h)
    generalize H1 = H at hP1 hS ⊢
    obtain ⟨rfl, rfl⟩ := Prod.mk.inj (show (r32, v33) = ((fCall (sT (chase sT 3 p0)) ((fCall (sT (chase sT 3 p0)) sc p1).2) ((fCall (sT (chase sT 3 p0)) sc p1).1)).1, (sS, sP, sQ, sE, ec, (fCall (sT (chase sT 3 p0)) ((fCall (sT (chase sT 3 p0)) sc p1).2) ((fCall (sT (chase sT 3 p0)) sc p1).1)).2, vl, LP, sT)) from hw34)
    have hP : va_P D vwCl (xW F (sS, sP, sQ, sE, ec, (fCall (sT (chase sT 3 p0)) ((fCall (sT (chase sT 3 p0)) sc p1).2) ((fCall (sT (chase sT 3 p0)) sc p1).1)).2, vl, LP, sT)) H := hP1
    have hD : va_D A (xW F (sS, sP, sQ, sE, ec, (fCall (sT (chase sT 3 p0)) ((fCall (sT (chase sT 3 p0)) sc p1).2) ((fCall (sT (chase sT 3 p0)) sc p1).1)).2, vl, LP, sT)) := hD1
    exact W.iret (v := (fCall (sT (chase sT 3 p0)) ((fCall (sT (chase sT 3 p0)) sc p1).2) ((fCall (sT (chase sT 3 p0)) sc p1).1)).1) hx hb hr (fun tE ht hW => ⟨⟨(fCall (sT (chase sT 3 p0)) ((fCall (sT (chase sT 3 p0)) sc p1).2) ((fCall (sT (chase sT 3 p0)) sc p1).1)).1, (sS, sP, sQ, sE, ec, (fCall (sT (chase sT 3 p0)) ((fCall (sT (chase sT 3 p0)) sc p1).2) ((fCall (sT (chase sT 3 p0)) sc p1).1)).2, vl, LP, sT), rfl, by first | (simp only [sTw, sLoud, sSoft, sCall, uC, gS, gP, gQ, gE, gec, gsc, gvl, gL, gT, c2, c8, c14, eq_true c25, eq_self, ↓reduceIte, Bool.false_eq_true, Bool.not_false, Bool.not_true, Bool.and_true, Bool.and_false, Bool.true_and, Bool.false_and, decide_true, decide_false] <;> first | done | decide) | (simp only [sTw, sLoud, sSoft, sCall, uC, gS, gP, gQ, gE, gec, gsc, gvl, gL, gT, c2, c8, c14, c25, eq_self, ↓reduceIte, Bool.false_eq_true, Bool.not_false, Bool.not_true, Bool.and_true, Bool.and_false, Bool.true_and, Bool.false_and, decide_true, decide_false] <;> first | done | decide) | (simp [sTw, sLoud, sSoft, sCall, uC, gS, gP, gQ, gE, gec, gsc, gvl, gL, gT, c2, c8, c14, c25]; done) | (simp [sTw, sLoud, sSoft, sCall, uC, gS, gP, gQ, gE, gec, gsc, gvl, gL, gT, c2, c8, c14, eq_true c25]; done), by rw [ht]; exact hP, va_K.moved hW.alike hK, hD⟩, hS.F ht⟩) hS.2.2 dX1_twiceOf_99
  by_cases c36 : (sT p0).1 = 4
  · refine lv_tableIn (off := 56) (tgt := 60) hx hb dX1_twiceOf_4 (by rw [c36]; decide) (by rw [c36]; decide) (by rw [c36]; rfl) (by decide) ?_
    refine lv_aload_n hx hb dX1_twiceOf_60 rfl (lv_at hl 0 rfl) ?_
    refine lv_aload_n hx hb dX1_twiceOf_61 rfl (lv_at hl 1 rfl) ?_
    refine lv_iload_n hx hb dX1_twiceOf_62 rfl (lv_at hl 2 rfl) ?_
    have hf37 := xFree hD hS hA
    refine va_calli (va_runV (As := [.ref p0, .int p1]) (rest := []) ⟨hx, hb, hml, hown, hts⟩ (k_twiceAsLoud l D F (sS, sP, sQ, sE, ec, sc, vl, LP, sT) hok H.size p0 hp0 p1) (cwV 2 hts gX1_twiceOf_X1_twiceAsLoud rfl rfl rfl (by decide +kernel) ⟨Nat.le_of_ble_eq_true rfl, Nat.le_of_ble_eq_true rfl⟩) (xPre hN hK hP hD hS hA hZ _) rfl rfl hl.1 rfl (lv_room (Nat.le_of_ble_eq_true rfl)) dX1_twiceOf_63 ⟨Nat.le_of_ble_eq_true rfl, Nat.le_of_ble_eq_true rfl⟩) hS (fun q _ h => hf37 q h) hf37 (fun r38 v39 t41 H1 locs ht hvm hw40 hB hz1 hk1 hS => ?_)
    obtain ⟨hP1, hK1, hD1⟩ := hB
    rw [ht] at hP1
    replace hD1 := hD1.weaken (fun _ _ _ h => hf37 _ h)
    generalize H1 = H at hP1 hS ⊢
    obtain ⟨rfl, rfl⟩ := Prod.mk.inj (show (r38, v39) = ((2 * (fCall (sT (chase sT 3 p0)) sc p1).1), (sS, sP, sQ, sE, ec, (fCall (sT (chase sT 3 p0)) sc p1).2, vl, LP, sT)) from hw40)
    have hP : va_P D vwCl (xW F (sS, sP, sQ, sE, ec, (fCall (sT (chase sT 3 p0)) sc p1).2, vl, LP, sT)) H := hP1
    have hD : va_D A (xW F (sS, sP, sQ, sE, ec, (fCall (sT (chase sT 3 p0)) sc p1).2, vl, LP, sT)) := hD1
    exact W.iret (v := (2 * (fCall (sT (chase sT 3 p0)) sc p1).1)) hx hb hr (fun tE ht hW => ⟨⟨(2 * (fCall (sT (chase sT 3 p0)) sc p1).1), (sS, sP, sQ, sE, ec, (fCall (sT (chase sT 3 p0)) sc p1).2, vl, LP, sT), rfl, by first | (simp only [sTw, sLoud, sSoft, sCall, uC, gS, gP, gQ, gE, gec, gsc, gvl, gL, gT, c2, c8, c14, c25, eq_true c36, eq_self, ↓reduceIte, Bool.false_eq_true, Bool.not_false, Bool.not_true, Bool.and_true, Bool.and_false, Bool.true_and, Bool.false_and, decide_true, decide_false] <;> first | done | decide) | (simp only [sTw, sLoud, sSoft, sCall, uC, gS, gP, gQ, gE, gec, gsc, gvl, gL, gT, c2, c8, c14, c25, c36, eq_self, ↓reduceIte, Bool.false_eq_true, Bool.not_false, Bool.not_true, Bool.and_true, Bool.and_false, Bool.true_and, Bool.false_and, decide_true, decide_false] <;> first | done | decide) | (simp [sTw, sLoud, sSoft, sCall, uC, gS, gP, gQ, gE, gec, gsc, gvl, gL, gT, c2, c8, c14, c25, c36]; done) | (simp [sTw, sLoud, sSoft, sCall, uC, gS, gP, gQ, gE, gec, gsc, gvl, gL, gT, c2, c8, c14, c25, eq_true c36]; done), by rw [ht]; exact hP, va_K.moved hW.alike hK, hD⟩, hS.F ht⟩) hS.2.2 dX1_twiceOf_66
  by_cases c42 : (sT p0).1 = 5
  · refine lv_tableIn (off := 56) (tgt := 60) hx hb dX1_twiceOf_4 (by rw [c42]; decide) (by rw [c42]; decide) (by rw [c42]; rfl) (by decide) ?_
    refine lv_aload_n hx hb dX1_twiceOf_60 rfl (lv_at hl 0 rfl) ?_
    refine lv_aload_n hx hb dX1_twiceOf_61 rfl (lv_at hl 1 rfl) ?_
    refine lv_iload_n hx hb dX1_twiceOf_62 rfl (lv_at hl 2 rfl) ?_
    have hf43 := xFree hD hS hA
    refine va_calli (va_runV (As := [.ref p0, .int p1]) (rest := []) ⟨hx, hb, hml, hown, hts⟩ (k_twiceAsLoud l D F (sS, sP, sQ, sE, ec, sc, vl, LP, sT) hok H.size p0 hp0 p1) (cwV 2 hts gX1_twiceOf_X1_twiceAsLoud rfl rfl rfl (by decide +kernel) ⟨Nat.le_of_ble_eq_true rfl, Nat.le_of_ble_eq_true rfl⟩) (xPre hN hK hP hD hS hA hZ _) rfl rfl hl.1 rfl (lv_room (Nat.le_of_ble_eq_true rfl)) dX1_twiceOf_63 ⟨Nat.le_of_ble_eq_true rfl, Nat.le_of_ble_eq_true rfl⟩) hS (fun q _ h => hf43 q h) hf43 (fun r44 v45 t47 H1 locs ht hvm hw46 hB hz1 hk1 hS => ?_)
    obtain ⟨hP1, hK1, hD1⟩ := hB
    rw [ht] at hP1
    replace hD1 := hD1.weaken (fun _ _ _ h => hf43 _ h)
    generalize H1 = H at hP1 hS ⊢
    obtain ⟨rfl, rfl⟩ := Prod.mk.inj (show (r44, v45) = ((2 * (fCall (sT (chase sT 3 p0)) sc p1).1), (sS, sP, sQ, sE, ec, (fCall (sT (chase sT 3 p0)) sc p1).2, vl, LP, sT)) from hw46)
    have hP : va_P D vwCl (xW F (sS, sP, sQ, sE, ec, (fCall (sT (chase sT 3 p0)) sc p1).2, vl, LP, sT)) H := hP1
    have hD : va_D A (xW F (sS, sP, sQ, sE, ec, (fCall (sT (chase sT 3 p0)) sc p1).2, vl, LP, sT)) := hD1
    exact W.iret (v := (2 * (fCall (sT (chase sT 3 p0)) sc p1).1)) hx hb hr (fun tE ht hW => ⟨⟨(2 * (fCall (sT (chase sT 3 p0)) sc p1).1), (sS, sP, sQ, sE, ec, (fCall (sT (chase sT 3 p0)) sc p1).2, vl, LP, sT), rfl, by first | (simp only [sTw, sLoud, sSoft, sCall, uC, gS, gP, gQ, gE, gec, gsc, gvl, gL, gT, c2, c8, c14, c25, c36, eq_true c42, eq_self, ↓reduceIte, Bool.false_eq_true, Bool.not_false, Bool.not_true, Bool.and_true, Bool.and_false, Bool.true_and, Bool.false_and, decide_true, decide_false] <;> first | done | decide) | (simp only [sTw, sLoud, sSoft, sCall, uC, gS, gP, gQ, gE, gec, gsc, gvl, gL, gT, c2, c8, c14, c25, c36, c42, eq_self, ↓reduceIte, Bool.false_eq_true, Bool.not_false, Bool.not_true, Bool.and_true, Bool.and_false, Bool.true_and, Bool.false_and, decide_true, decide_false] <;> first | done | decide) | (simp [sTw, sLoud, sSoft, sCall, uC, gS, gP, gQ, gE, gec, gsc, gvl, gL, gT, c2, c8, c14, c25, c36, c42]; done) | (simp [sTw, sLoud, sSoft, sCall, uC, gS, gP, gQ, gE, gec, gsc, gvl, gL, gT, c2, c8, c14, c25, c36, eq_true c42]; done), by rw [ht]; exact hP, va_K.moved hW.alike hK, hD⟩, hS.F ht⟩) hS.2.2 dX1_twiceOf_66
  by_cases c48 : (sT p0).1 = 6
  · refine lv_tableIn (off := 84) (tgt := 88) hx hb dX1_twiceOf_4 (by rw [c48]; decide) (by rw [c48]; decide) (by rw [c48]; rfl) (by decide) ?_
    refine lv_aload_n hx hb dX1_twiceOf_88 rfl (lv_at hl 0 rfl) ?_
    refine lv_aload_n hx hb dX1_twiceOf_89 rfl (lv_at hl 1 rfl) ?_
    refine lv_aload_n hx hb dX1_twiceOf_90 rfl (lv_at hl 0 rfl) ?_
    refine lv_aload_n hx hb dX1_twiceOf_91 rfl (lv_at hl 1 rfl) ?_
    refine lv_iload_n hx hb dX1_twiceOf_92 rfl (lv_at hl 2 rfl) ?_
    have hf49 := xFree hD hS hA
    refine va_calli (va_runV (As := [.ref p0, .int p1]) (rest := [.ref p0, .ref F.1]) ⟨hx, hb, hml, hown, hts⟩ (k_callOf l D F (sS, sP, sQ, sE, ec, sc, vl, LP, sT) hok H.size p0 hp0 p1) (cwV 2 hts gX1_twiceOf_X1_callOf rfl rfl rfl (by decide +kernel) ⟨Nat.le_of_ble_eq_true rfl, Nat.le_of_ble_eq_true rfl⟩) (xPre hN hK hP hD hS hA hZ _) rfl rfl hl.1 rfl (lv_room (Nat.le_of_ble_eq_true rfl)) dX1_twiceOf_93 ⟨Nat.le_of_ble_eq_true rfl, Nat.le_of_ble_eq_true rfl⟩) hS (fun q _ h => hf49 q h) hf49 (fun r50 v51 t53 H1 locs ht hvm hw52 hB hz1 hk1 hS => ?_)
    obtain ⟨hP1, hK1, hD1⟩ := hB
    rw [ht] at hP1
    replace hD1 := hD1.weaken (fun _ _ _ h => hf49 _ h)
    generalize H1 = H at hP1 hS ⊢
    obtain ⟨rfl, rfl⟩ := Prod.mk.inj (show (r50, v51) = ((fCall (sT (chase sT 3 p0)) sc p1).1, (sS, sP, sQ, sE, ec, (fCall (sT (chase sT 3 p0)) sc p1).2, vl, LP, sT)) from hw52)
    have hP : va_P D vwCl (xW F (sS, sP, sQ, sE, ec, (fCall (sT (chase sT 3 p0)) sc p1).2, vl, LP, sT)) H := hP1
    have hD : va_D A (xW F (sS, sP, sQ, sE, ec, (fCall (sT (chase sT 3 p0)) sc p1).2, vl, LP, sT)) := hD1
    have hf54 := xFree hD hS hA
    refine va_calli (va_runV (As := [.ref p0, .int ((fCall (sT (chase sT 3 p0)) sc p1).1)]) (rest := []) ⟨hx, hb, hml, hown, hts⟩ (k_callOf l D F (sS, sP, sQ, sE, ec, (fCall (sT (chase sT 3 p0)) sc p1).2, vl, LP, sT) hok H.size p0 hp0 ((fCall (sT (chase sT 3 p0)) sc p1).1)) (cwV 2 hts gX1_twiceOf_X1_callOf rfl rfl rfl (by decide +kernel) ⟨Nat.le_of_ble_eq_true rfl, Nat.le_of_ble_eq_true rfl⟩) (xPre hN hK hP hD hS hA hZ _) rfl rfl hl.1 rfl (lv_room (Nat.le_of_ble_eq_true rfl)) dX1_twiceOf_96 ⟨Nat.le_of_ble_eq_true rfl, Nat.le_of_ble_eq_true rfl⟩) hS (fun q _ h => hf54 q h) hf54 (fun r55 v56 t58 H1 locs ht hvm hw57 hB hz1 hk1 hS => ?_)
    obtain ⟨hP1, hK1, hD1⟩ := hB
    rw [ht] at hP1
    replace hD1 := hD1.weaken (fun _ _ _ h => hf54 _ h)
    generalize H1 = H at hP1 hS ⊢
    obtain ⟨rfl, rfl⟩ := Prod.mk.inj (show (r55, v56) = ((fCall (sT (chase sT 3 p0)) ((fCall (sT (chase sT 3 p0)) sc p1).2) ((fCall (sT (chase sT 3 p0)) sc p1).1)).1, (sS, sP, sQ, sE, ec, (fCall (sT (chase sT 3 p0)) ((fCall (sT (chase sT 3 p0)) sc p1).2) ((fCall (sT (chase sT 3 p0)) sc p1).1)).2, vl, LP, sT)) from hw57)
    have hP : va_P D vwCl (xW F (sS, sP, sQ, sE, ec, (fCall (sT (chase sT 3 p0)) ((fCall (sT (chase sT 3 p0)) sc p1).2) ((fCall (sT (chase sT 3 p0)) sc p1).1)).2, vl, LP, sT)) H := hP1
    have hD : va_D A (xW F (sS, sP, sQ, sE, ec, (fCall (sT (chase sT 3 p0)) ((fCall (sT (chase sT 3 p0)) sc p1).2) ((fCall (sT (chase sT 3 p0)) sc p1).1)).2, vl, LP, sT)) := hD1
    exact W.iret (v := (fCall (sT (chase sT 3 p0)) ((fCall (sT (chase sT 3 p0)) sc p1).2) ((fCall (sT (chase sT 3 p0)) sc p1).1)).1) hx hb hr (fun tE ht hW => ⟨⟨(fCall (sT (chase sT 3 p0)) ((fCall (sT (chase sT 3 p0)) sc p1).2) ((fCall (sT (chase sT 3 p0)) sc p1).1)).1, (sS, sP, sQ, sE, ec, (fCall (sT (chase sT 3 p0)) ((fCall (sT (chase sT 3 p0)) sc p1).2) ((fCall (sT (chase sT 3 p0)) sc p1).1)).2, vl, LP, sT), rfl, by first | (simp only [sTw, sLoud, sSoft, sCall, uC, gS, gP, gQ, gE, gec, gsc, gvl, gL, gT, c2, c8, c14, c25, c36, c42, eq_true c48, eq_self, ↓reduceIte, Bool.false_eq_true, Bool.not_false, Bool.not_true, Bool.and_true, Bool.and_false, Bool.true_and, Bool.false_and, decide_true, decide_false] <;> first | done | decide) | (simp only [sTw, sLoud, sSoft, sCall, uC, gS, gP, gQ, gE, gec, gsc, gvl, gL, gT, c2, c8, c14, c25, c36, c42, c48, eq_self, ↓reduceIte, Bool.false_eq_true, Bool.not_false, Bool.not_true, Bool.and_true, Bool.and_false, Bool.true_and, Bool.false_and, decide_true, decide_false] <;> first | done | decide) | (simp [sTw, sLoud, sSoft, sCall, uC, gS, gP, gQ, gE, gec, gsc, gvl, gL, gT, c2, c8, c14, c25, c36, c42, c48]; done) | (simp [sTw, sLoud, sSoft, sCall, uC, gS, gP, gQ, gE, gec, gsc, gvl, gL, gT, c2, c8, c14, c25, c36, c42, eq_true c48]; done), by rw [ht]; exact hP, va_K.moved hW.alike hK, hD⟩, hS.F ht⟩) hS.2.2 dX1_twiceOf_99
  by_cases c59 : (sT p0).1 = 7
  · refine lv_tableIn (off := 84) (tgt := 88) hx hb dX1_twiceOf_4 (by rw [c59]; decide) (by rw [c59]; decide) (by rw [c59]; rfl) (by decide) ?_
    refine lv_aload_n hx hb dX1_twiceOf_88 rfl (lv_at hl 0 rfl) ?_
    refine lv_aload_n hx hb dX1_twiceOf_89 rfl (lv_at hl 1 rfl) ?_
    refine lv_aload_n hx hb dX1_twiceOf_90 rfl (lv_at hl 0 rfl) ?_
    refine lv_aload_n hx hb dX1_twiceOf_91 rfl (lv_at hl 1 rfl) ?_
    refine lv_iload_n hx hb dX1_twiceOf_92 rfl (lv_at hl 2 rfl) ?_
    have hf60 := xFree hD hS hA
    refine va_calli (va_runV (As := [.ref p0, .int p1]) (rest := [.ref p0, .ref F.1]) ⟨hx, hb, hml, hown, hts⟩ (k_callOf l D F (sS, sP, sQ, sE, ec, sc, vl, LP, sT) hok H.size p0 hp0 p1) (cwV 2 hts gX1_twiceOf_X1_callOf rfl rfl rfl (by decide +kernel) ⟨Nat.le_of_ble_eq_true rfl, Nat.le_of_ble_eq_true rfl⟩) (xPre hN hK hP hD hS hA hZ _) rfl rfl hl.1 rfl (lv_room (Nat.le_of_ble_eq_true rfl)) dX1_twiceOf_93 ⟨Nat.le_of_ble_eq_true rfl, Nat.le_of_ble_eq_true rfl⟩) hS (fun q _ h => hf60 q h) hf60 (fun r61 v62 t64 H1 locs ht hvm hw63 hB hz1 hk1 hS => ?_)
    obtain ⟨hP1, hK1, hD1⟩ := hB
    rw [ht] at hP1
    replace hD1 := hD1.weaken (fun _ _ _ h => hf60 _ h)
    generalize H1 = H at hP1 hS ⊢
    obtain ⟨rfl, rfl⟩ := Prod.mk.inj (show (r61, v62) = ((fCall (sT (chase sT 3 p0)) sc p1).1, (sS, sP, sQ, sE, ec, (fCall (sT (chase sT 3 p0)) sc p1).2, vl, LP, sT)) from hw63)
    have hP : va_P D vwCl (xW F (sS, sP, sQ, sE, ec, (fCall (sT (chase sT 3 p0)) sc p1).2, vl, LP, sT)) H := hP1
    have hD : va_D A (xW F (sS, sP, sQ, sE, ec, (fCall (sT (chase sT 3 p0)) sc p1).2, vl, LP, sT)) := hD1
    have hf65 := xFree hD hS hA
    refine va_calli (va_runV (As := [.ref p0, .int ((fCall (sT (chase sT 3 p0)) sc p1).1)]) (rest := []) ⟨hx, hb, hml, hown, hts⟩ (k_callOf l D F (sS, sP, sQ, sE, ec, (fCall (sT (chase sT 3 p0)) sc p1).2, vl, LP, sT) hok H.size p0 hp0 ((fCall (sT (chase sT 3 p0)) sc p1).1)) (cwV 2 hts gX1_twiceOf_X1_callOf rfl rfl rfl (by decide +kernel) ⟨Nat.le_of_ble_eq_true rfl, Nat.le_of_ble_eq_true rfl⟩) (xPre hN hK hP hD hS hA hZ _) rfl rfl hl.1 rfl (lv_room (Nat.le_of_ble_eq_true rfl)) dX1_twiceOf_96 ⟨Nat.le_of_ble_eq_true rfl, Nat.le_of_ble_eq_true rfl⟩) hS (fun q _ h => hf65 q h) hf65 (fun r66 v67 t69 H1 locs ht hvm hw68 hB hz1 hk1 hS => ?_)
    obtain ⟨hP1, hK1, hD1⟩ := hB
    rw [ht] at hP1
    replace hD1 := hD1.weaken (fun _ _ _ h => hf65 _ h)
    generalize H1 = H at hP1 hS ⊢
    obtain ⟨rfl, rfl⟩ := Prod.mk.inj (show (r66, v67) = ((fCall (sT (chase sT 3 p0)) ((fCall (sT (chase sT 3 p0)) sc p1).2) ((fCall (sT (chase sT 3 p0)) sc p1).1)).1, (sS, sP, sQ, sE, ec, (fCall (sT (chase sT 3 p0)) ((fCall (sT (chase sT 3 p0)) sc p1).2) ((fCall (sT (chase sT 3 p0)) sc p1).1)).2, vl, LP, sT)) from hw68)
    have hP : va_P D vwCl (xW F (sS, sP, sQ, sE, ec, (fCall (sT (chase sT 3 p0)) ((fCall (sT (chase sT 3 p0)) sc p1).2) ((fCall (sT (chase sT 3 p0)) sc p1).1)).2, vl, LP, sT)) H := hP1
    have hD : va_D A (xW F (sS, sP, sQ, sE, ec, (fCall (sT (chase sT 3 p0)) ((fCall (sT (chase sT 3 p0)) sc p1).2) ((fCall (sT (chase sT 3 p0)) sc p1).1)).2, vl, LP, sT)) := hD1
    exact W.iret (v := (fCall (sT (chase sT 3 p0)) ((fCall (sT (chase sT 3 p0)) sc p1).2) ((fCall (sT (chase sT 3 p0)) sc p1).1)).1) hx hb hr (fun tE ht hW => ⟨⟨(fCall (sT (chase sT 3 p0)) ((fCall (sT (chase sT 3 p0)) sc p1).2) ((fCall (sT (chase sT 3 p0)) sc p1).1)).1, (sS, sP, sQ, sE, ec, (fCall (sT (chase sT 3 p0)) ((fCall (sT (chase sT 3 p0)) sc p1).2) ((fCall (sT (chase sT 3 p0)) sc p1).1)).2, vl, LP, sT), rfl, by first | (simp only [sTw, sLoud, sSoft, sCall, uC, gS, gP, gQ, gE, gec, gsc, gvl, gL, gT, c2, c8, c14, c25, c36, c42, c48, eq_true c59, eq_self, ↓reduceIte, Bool.false_eq_true, Bool.not_false, Bool.not_true, Bool.and_true, Bool.and_false, Bool.true_and, Bool.false_and, decide_true, decide_false] <;> first | done | decide) | (simp only [sTw, sLoud, sSoft, sCall, uC, gS, gP, gQ, gE, gec, gsc, gvl, gL, gT, c2, c8, c14, c25, c36, c42, c48, c59, eq_self, ↓reduceIte, Bool.false_eq_true, Bool.not_false, Bool.not_true, Bool.and_true, Bool.and_false, Bool.true_and, Bool.false_and, decide_true, decide_false] <;> first | done | decide) | (simp [sTw, sLoud, sSoft, sCall, uC, gS, gP, gQ, gE, gec, gsc, gvl, gL, gT, c2, c8, c14, c25, c36, c42, c48, c59]; done) | (simp [sTw, sLoud, sSoft, sCall, uC, gS, gP, gQ, gE, gec, gsc, gvl, gL, gT, c2, c8, c14, c25, c36, c42, c48, eq_true c59]; done), by rw [ht]; exact hP, va_K.moved hW.alike hK, hD⟩, hS.F ht⟩) hS.2.2 dX1_twiceOf_99
  by_cases c70 : (sT p0).1 = 8
  · refine lv_tableIn (off := 84) (tgt := 88) hx hb dX1_twiceOf_4 (by rw [c70]; decide) (by rw [c70]; decide) (by rw [c70]; rfl) (by decide) ?_
    refine lv_aload_n hx hb dX1_twiceOf_88 rfl (lv_at hl 0 rfl) ?_
    refine lv_aload_n hx hb dX1_twiceOf_89 rfl (lv_at hl 1 rfl) ?_
    refine lv_aload_n hx hb dX1_twiceOf_90 rfl (lv_at hl 0 rfl) ?_
    refine lv_aload_n hx hb dX1_twiceOf_91 rfl (lv_at hl 1 rfl) ?_
    refine lv_iload_n hx hb dX1_twiceOf_92 rfl (lv_at hl 2 rfl) ?_
    have hf71 := xFree hD hS hA
    refine va_calli (va_runV (As := [.ref p0, .int p1]) (rest := [.ref p0, .ref F.1]) ⟨hx, hb, hml, hown, hts⟩ (k_callOf l D F (sS, sP, sQ, sE, ec, sc, vl, LP, sT) hok H.size p0 hp0 p1) (cwV 2 hts gX1_twiceOf_X1_callOf rfl rfl rfl (by decide +kernel) ⟨Nat.le_of_ble_eq_true rfl, Nat.le_of_ble_eq_true rfl⟩) (xPre hN hK hP hD hS hA hZ _) rfl rfl hl.1 rfl (lv_room (Nat.le_of_ble_eq_true rfl)) dX1_twiceOf_93 ⟨Nat.le_of_ble_eq_true rfl, Nat.le_of_ble_eq_true rfl⟩) hS (fun q _ h => hf71 q h) hf71 (fun r72 v73 t75 H1 locs ht hvm hw74 hB hz1 hk1 hS => ?_)
    obtain ⟨hP1, hK1, hD1⟩ := hB
    rw [ht] at hP1
    replace hD1 := hD1.weaken (fun _ _ _ h => hf71 _ h)
    generalize H1 = H at hP1 hS ⊢
    obtain ⟨rfl, rfl⟩ := Prod.mk.inj (show (r72, v73) = ((fCall (sT (chase sT 3 p0)) sc p1).1, (sS, sP, sQ, sE, ec, (fCall (sT (chase sT 3 p0)) sc p1).2, vl, LP, sT)) from hw74)
    have hP : va_P D vwCl (xW F (sS, sP, sQ, sE, ec, (fCall (sT (chase sT 3 p0)) sc p1).2, vl, LP, sT)) H := hP1
    have hD : va_D A (xW F (sS, sP, sQ, sE, ec, (fCall (sT (chase sT 3 p0)) sc p1).2, vl, LP, sT)) := hD1
    have hf76 := xFree hD hS hA
    refine va_calli (va_runV (As := [.ref p0, .int ((fCall (sT (chase sT 3 p0)) sc p1).1)]) (rest := []) ⟨hx, hb, hml, hown, hts⟩ (k_callOf l D F (sS, sP, sQ, sE, ec, (fCall (sT (chase sT 3 p0)) sc p1).2, vl, LP, sT) hok H.size p0 hp0 ((fCall (sT (chase sT 3 p0)) sc p1).1)) (cwV 2 hts gX1_twiceOf_X1_callOf rfl rfl rfl (by decide +kernel) ⟨Nat.le_of_ble_eq_true rfl, Nat.le_of_ble_eq_true rfl⟩) (xPre hN hK hP hD hS hA hZ _) rfl rfl hl.1 rfl (lv_room (Nat.le_of_ble_eq_true rfl)) dX1_twiceOf_96 ⟨Nat.le_of_ble_eq_true rfl, Nat.le_of_ble_eq_true rfl⟩) hS (fun q _ h => hf76 q h) hf76 (fun r77 v78 t80 H1 locs ht hvm hw79 hB hz1 hk1 hS => ?_)
    obtain ⟨hP1, hK1, hD1⟩ := hB
    rw [ht] at hP1
    replace hD1 := hD1.weaken (fun _ _ _ h => hf76 _ h)
    generalize H1 = H at hP1 hS ⊢
    obtain ⟨rfl, rfl⟩ := Prod.mk.inj (show (r77, v78) = ((fCall (sT (chase sT 3 p0)) ((fCall (sT (chase sT 3 p0)) sc p1).2) ((fCall (sT (chase sT 3 p0)) sc p1).1)).1, (sS, sP, sQ, sE, ec, (fCall (sT (chase sT 3 p0)) ((fCall (sT (chase sT 3 p0)) sc p1).2) ((fCall (sT (chase sT 3 p0)) sc p1).1)).2, vl, LP, sT)) from hw79)
    have hP : va_P D vwCl (xW F (sS, sP, sQ, sE, ec, (fCall (sT (chase sT 3 p0)) ((fCall (sT (chase sT 3 p0)) sc p1).2) ((fCall (sT (chase sT 3 p0)) sc p1).1)).2, vl, LP, sT)) H := hP1
    have hD : va_D A (xW F (sS, sP, sQ, sE, ec, (fCall (sT (chase sT 3 p0)) ((fCall (sT (chase sT 3 p0)) sc p1).2) ((fCall (sT (chase sT 3 p0)) sc p1).1)).2, vl, LP, sT)) := hD1
    exact W.iret (v := (fCall (sT (chase sT 3 p0)) ((fCall (sT (chase sT 3 p0)) sc p1).2) ((fCall (sT (chase sT 3 p0)) sc p1).1)).1) hx hb hr (fun tE ht hW => ⟨⟨(fCall (sT (chase sT 3 p0)) ((fCall (sT (chase sT 3 p0)) sc p1).2) ((fCall (sT (chase sT 3 p0)) sc p1).1)).1, (sS, sP, sQ, sE, ec, (fCall (sT (chase sT 3 p0)) ((fCall (sT (chase sT 3 p0)) sc p1).2) ((fCall (sT (chase sT 3 p0)) sc p1).1)).2, vl, LP, sT), rfl, by first | (simp only [sTw, sLoud, sSoft, sCall, uC, gS, gP, gQ, gE, gec, gsc, gvl, gL, gT, c2, c8, c14, c25, c36, c42, c48, c59, eq_true c70, eq_self, ↓reduceIte, Bool.false_eq_true, Bool.not_false, Bool.not_true, Bool.and_true, Bool.and_false, Bool.true_and, Bool.false_and, decide_true, decide_false] <;> first | done | decide) | (simp only [sTw, sLoud, sSoft, sCall, uC, gS, gP, gQ, gE, gec, gsc, gvl, gL, gT, c2, c8, c14, c25, c36, c42, c48, c59, c70, eq_self, ↓reduceIte, Bool.false_eq_true, Bool.not_false, Bool.not_true, Bool.and_true, Bool.and_false, Bool.true_and, Bool.false_and, decide_true, decide_false] <;> first | done | decide) | (simp [sTw, sLoud, sSoft, sCall, uC, gS, gP, gQ, gE, gec, gsc, gvl, gL, gT, c2, c8, c14, c25, c36, c42, c48, c59, c70]; done) | (simp [sTw, sLoud, sSoft, sCall, uC, gS, gP, gQ, gE, gec, gsc, gvl, gL, gT, c2, c8, c14, c25, c36, c42, c48, c59, eq_true c70]; done), by rw [ht]; exact hP, va_K.moved hW.alike hK, hD⟩, hS.F ht⟩) hS.2.2 dX1_twiceOf_99
  by_cases c81 : (sT p0).1 = 9
  · refine lv_tableIn (off := 63) (tgt := 67) hx hb dX1_twiceOf_4 (by rw [c81]; decide) (by rw [c81]; decide) (by rw [c81]; rfl) (by decide) ?_
    refine lv_aload_n hx hb dX1_twiceOf_67 rfl (lv_at hl 0 rfl) ?_
    refine lv_aload_n hx hb dX1_twiceOf_68 rfl (lv_at hl 1 rfl) ?_
    refine lv_iload_n hx hb dX1_twiceOf_69 rfl (lv_at hl 2 rfl) ?_
    have hf82 := xFree hD hS hA
    refine va_calli (va_runV (As := [.ref p0, .int p1]) (rest := []) ⟨hx, hb, hml, hown, hts⟩ (k_twiceAsSoft l D F (sS, sP, sQ, sE, ec, sc, vl, LP, sT) hok H.size p0 hp0 p1) (cwV 2 hts gX1_twiceOf_X1_twiceAsSoft rfl rfl rfl (by decide +kernel) ⟨Nat.le_of_ble_eq_true rfl, Nat.le_of_ble_eq_true rfl⟩) (xPre hN hK hP hD hS hA hZ _) rfl rfl hl.1 rfl (lv_room (Nat.le_of_ble_eq_true rfl)) dX1_twiceOf_70 ⟨Nat.le_of_ble_eq_true rfl, Nat.le_of_ble_eq_true rfl⟩) hS (fun q _ h => hf82 q h) hf82 (fun r83 v84 t86 H1 locs ht hvm hw85 hB hz1 hk1 hS => ?_)
    obtain ⟨hP1, hK1, hD1⟩ := hB
    rw [ht] at hP1
    replace hD1 := hD1.weaken (fun _ _ _ h => hf82 _ h)
    generalize H1 = H at hP1 hS ⊢
    obtain ⟨rfl, rfl⟩ := Prod.mk.inj (show (r83, v84) = (((fCall (sT (chase sT 3 p0)) sc p1).1 - 1), (sS, sP, sQ, sE, ec, (fCall (sT (chase sT 3 p0)) sc p1).2, vl, LP, sT)) from hw85)
    have hP : va_P D vwCl (xW F (sS, sP, sQ, sE, ec, (fCall (sT (chase sT 3 p0)) sc p1).2, vl, LP, sT)) H := hP1
    have hD : va_D A (xW F (sS, sP, sQ, sE, ec, (fCall (sT (chase sT 3 p0)) sc p1).2, vl, LP, sT)) := hD1
    exact W.iret (v := ((fCall (sT (chase sT 3 p0)) sc p1).1 - 1)) hx hb hr (fun tE ht hW => ⟨⟨((fCall (sT (chase sT 3 p0)) sc p1).1 - 1), (sS, sP, sQ, sE, ec, (fCall (sT (chase sT 3 p0)) sc p1).2, vl, LP, sT), rfl, by first | (simp only [sTw, sLoud, sSoft, sCall, uC, gS, gP, gQ, gE, gec, gsc, gvl, gL, gT, c2, c8, c14, c25, c36, c42, c48, c59, c70, eq_true c81, eq_self, ↓reduceIte, Bool.false_eq_true, Bool.not_false, Bool.not_true, Bool.and_true, Bool.and_false, Bool.true_and, Bool.false_and, decide_true, decide_false] <;> first | done | decide) | (simp only [sTw, sLoud, sSoft, sCall, uC, gS, gP, gQ, gE, gec, gsc, gvl, gL, gT, c2, c8, c14, c25, c36, c42, c48, c59, c70, c81, eq_self, ↓reduceIte, Bool.false_eq_true, Bool.not_false, Bool.not_true, Bool.and_true, Bool.and_false, Bool.true_and, Bool.false_and, decide_true, decide_false] <;> first | done | decide) | (simp [sTw, sLoud, sSoft, sCall, uC, gS, gP, gQ, gE, gec, gsc, gvl, gL, gT, c2, c8, c14, c25, c36, c42, c48, c59, c70, c81]; done) | (simp [sTw, sLoud, sSoft, sCall, uC, gS, gP, gQ, gE, gec, gsc, gvl, gL, gT, c2, c8, c14, c25, c36, c42, c48, c59, c70, eq_true c81]; done), by rw [ht]; exact hP, va_K.moved hW.alike hK, hD⟩, hS.F ht⟩) hS.2.2 dX1_twiceOf_73
  refine lv_tableOut (tgt := 88) hx hb dX1_twiceOf_4 (by have z0 := lv_neT (k := 0) (a := 0) c2 (by decide); have z1 := lv_neT (k := 1) (a := 1) c8 (by decide); have z2 := lv_neT (k := 2) (a := 2) c14 (by decide); have z3 := lv_neT (k := 3) (a := 3) c25 (by decide); have z4 := lv_neT (k := 4) (a := 4) c36 (by decide); have z5 := lv_neT (k := 5) (a := 5) c42 (by decide); have z6 := lv_neT (k := 6) (a := 6) c48 (by decide); have z7 := lv_neT (k := 7) (a := 7) c59 (by decide); have z8 := lv_neT (k := 8) (a := 8) c70 (by decide); have z9 := lv_neT (k := 9) (a := 9) c81 (by decide); omega) (by decide) ?_
  refine lv_aload_n hx hb dX1_twiceOf_88 rfl (lv_at hl 0 rfl) ?_
  refine lv_aload_n hx hb dX1_twiceOf_89 rfl (lv_at hl 1 rfl) ?_
  refine lv_aload_n hx hb dX1_twiceOf_90 rfl (lv_at hl 0 rfl) ?_
  refine lv_aload_n hx hb dX1_twiceOf_91 rfl (lv_at hl 1 rfl) ?_
  refine lv_iload_n hx hb dX1_twiceOf_92 rfl (lv_at hl 2 rfl) ?_
  have hf87 := xFree hD hS hA
  refine va_calli (va_runV (As := [.ref p0, .int p1]) (rest := [.ref p0, .ref F.1]) ⟨hx, hb, hml, hown, hts⟩ (k_callOf l D F (sS, sP, sQ, sE, ec, sc, vl, LP, sT) hok H.size p0 hp0 p1) (cwV 2 hts gX1_twiceOf_X1_callOf rfl rfl rfl (by decide +kernel) ⟨Nat.le_of_ble_eq_true rfl, Nat.le_of_ble_eq_true rfl⟩) (xPre hN hK hP hD hS hA hZ _) rfl rfl hl.1 rfl (lv_room (Nat.le_of_ble_eq_true rfl)) dX1_twiceOf_93 ⟨Nat.le_of_ble_eq_true rfl, Nat.le_of_ble_eq_true rfl⟩) hS (fun q _ h => hf87 q h) hf87 (fun r88 v89 t91 H1 locs ht hvm hw90 hB hz1 hk1 hS => ?_)
  obtain ⟨hP1, hK1, hD1⟩ := hB
  rw [ht] at hP1
  replace hD1 := hD1.weaken (fun _ _ _ h => hf87 _ h)
  generalize H1 = H at hP1 hS ⊢
  obtain ⟨rfl, rfl⟩ := Prod.mk.inj (show (r88, v89) = ((fCall (sT (chase sT 3 p0)) sc p1).1, (sS, sP, sQ, sE, ec, (fCall (sT (chase sT 3 p0)) sc p1).2, vl, LP, sT)) from hw90)
  have hP : va_P D vwCl (xW F (sS, sP, sQ, sE, ec, (fCall (sT (chase sT 3 p0)) sc p1).2, vl, LP, sT)) H := hP1
  have hD : va_D A (xW F (sS, sP, sQ, sE, ec, (fCall (sT (chase sT 3 p0)) sc p1).2, vl, LP, sT)) := hD1
  have hf92 := xFree hD hS hA
  refine va_calli (va_runV (As := [.ref p0, .int ((fCall (sT (chase sT 3 p0)) sc p1).1)]) (rest := []) ⟨hx, hb, hml, hown, hts⟩ (k_callOf l D F (sS, sP, sQ, sE, ec, (fCall (sT (chase sT 3 p0)) sc p1).2, vl, LP, sT) hok H.size p0 hp0 ((fCall (sT (chase sT 3 p0)) sc p1).1)) (cwV 2 hts gX1_twiceOf_X1_callOf rfl rfl rfl (by decide +kernel) ⟨Nat.le_of_ble_eq_true rfl, Nat.le_of_ble_eq_true rfl⟩) (xPre hN hK hP hD hS hA hZ _) rfl rfl hl.1 rfl (lv_room (Nat.le_of_ble_eq_true rfl)) dX1_twiceOf_96 ⟨Nat.le_of_ble_eq_true rfl, Nat.le_of_ble_eq_true rfl⟩) hS (fun q _ h => hf92 q h) hf92 (fun r93 v94 t96 H1 locs ht hvm hw95 hB hz1 hk1 hS => ?_)
  obtain ⟨hP1, hK1, hD1⟩ := hB
  rw [ht] at hP1
  replace hD1 := hD1.weaken (fun _ _ _ h => hf92 _ h)
  generalize H1 = H at hP1 hS ⊢
  obtain ⟨rfl, rfl⟩ := Prod.mk.inj (show (r93, v94) = ((fCall (sT (chase sT 3 p0)) ((fCall (sT (chase sT 3 p0)) sc p1).2) ((fCall (sT (chase sT 3 p0)) sc p1).1)).1, (sS, sP, sQ, sE, ec, (fCall (sT (chase sT 3 p0)) ((fCall (sT (chase sT 3 p0)) sc p1).2) ((fCall (sT (chase sT 3 p0)) sc p1).1)).2, vl, LP, sT)) from hw95)
  have hP : va_P D vwCl (xW F (sS, sP, sQ, sE, ec, (fCall (sT (chase sT 3 p0)) ((fCall (sT (chase sT 3 p0)) sc p1).2) ((fCall (sT (chase sT 3 p0)) sc p1).1)).2, vl, LP, sT)) H := hP1
  have hD : va_D A (xW F (sS, sP, sQ, sE, ec, (fCall (sT (chase sT 3 p0)) ((fCall (sT (chase sT 3 p0)) sc p1).2) ((fCall (sT (chase sT 3 p0)) sc p1).1)).2, vl, LP, sT)) := hD1
  exact W.iret (v := (fCall (sT (chase sT 3 p0)) ((fCall (sT (chase sT 3 p0)) sc p1).2) ((fCall (sT (chase sT 3 p0)) sc p1).1)).1) hx hb hr (fun tE ht hW => ⟨⟨(fCall (sT (chase sT 3 p0)) ((fCall (sT (chase sT 3 p0)) sc p1).2) ((fCall (sT (chase sT 3 p0)) sc p1).1)).1, (sS, sP, sQ, sE, ec, (fCall (sT (chase sT 3 p0)) ((fCall (sT (chase sT 3 p0)) sc p1).2) ((fCall (sT (chase sT 3 p0)) sc p1).1)).2, vl, LP, sT), rfl, by first | (simp only [sTw, sLoud, sSoft, sCall, uC, gS, gP, gQ, gE, gec, gsc, gvl, gL, gT, c2, c8, c14, c25, c36, c42, c48, c59, c70, c81, eq_self, ↓reduceIte, Bool.false_eq_true, Bool.not_false, Bool.not_true, Bool.and_true, Bool.and_false, Bool.true_and, Bool.false_and, decide_true, decide_false] <;> first | done | decide) | (simp [sTw, sLoud, sSoft, sCall, uC, gS, gP, gQ, gE, gec, gsc, gvl, gL, gT, c2, c8, c14, c25, c36, c42, c48, c59, c70, c81]; done), by rw [ht]; exact hP, va_K.moved hW.alike hK, hD⟩, hS.F ht⟩) hS.2.2 dX1_twiceOf_99
set_option maxHeartbeats 8000000 in
set_option maxRecDepth 100000 in
theorem k_answerOf (l : Launch) (D : va_G) (F : XF) (u : XS) (hok : xOk F u) (sz : Nat) (p0 : Nat) (hp0 : p0 ∈ gL u) (p1 : Int32) (p2 : Int32) (p3 : Int32) : Met l yX1_answerOf wsX1_answerOf ({ frames := 3, cells := 0, slots := 0, locals := 68 }) (xPc D F u sz [.ref F.1, .ref p0, .int p1, .int p2, .int p3]) (va_Qi (fun (r : Int32) (v : XS) => (r, v) = sAns u p0 p1 p2 p3) (xB D F (va_A (xW F u) sz)) (va_A (xW F u) sz)) 0 0 (va_A (xW F u) sz) := by
  obtain ⟨sS, sP, sQ, sE, ec, sc, vl, LP, sT⟩ := u
  refine Met.ofW (cc := cX1_answerOf) (maxL := 5) (ret := (some .int)) (by decide) rfl ?_
  intro p e s m args below meth c s₁ B hml hv
  obtain ⟨rfl, hsz, hP, hK, hD0, hN, hZ⟩ := hv
  have hx := B.exec
  have hb := B.bytes
  have hr := B.returns
  have hts := atoms_spec (ws := wsX1_answerOf) B.pre
  have hown : s.vm.findClass RX1 = some m.cls := findClass_of_methodNamed B.named
  have hlocks := B.notSynchronized
  subst hsz
  have hD := hD0.self (sz := s.heap.size)
  generalize hAe : va_A (xW F (sS, sP, sQ, sE, ec, sc, vl, LP, sT)) s.heap.size = A at hD hZ ⊢
  have hA : ∀ q : Nat, s.heap.size ≤ q → A q := fun q h => by rw [← hAe]; exact Or.inr h
  have hS : va_S A s.heap s.heap [] := va_S.rf
  obtain ⟨tk, tm, tr, hztk, httk, hztm, httm, hztr, httr⟩ := id hZ
  refine xHeap (C := fun H => va_P D vwCl (xW F (sS, sP, sQ, sE, ec, sc, vl, LP, sT)) H ∧ va_S A s.heap H []) ⟨hP, hS⟩ (fun H hC => ?_)
  obtain ⟨hP, hS⟩ := hC
  have hl := lv_entry ([.ref F.1, .ref p0, .int p1, .int p2, .int p3]) (n := 5) (Nat.le_of_ble_eq_true rfl)
  rw [lg_entry_eq]
  generalize (lg_sl ([.ref F.1, .ref p0, .int p1, .int p2, .int p3]) ++ List.replicate (5 - (lg_sl ([.ref F.1, .ref p0, .int p1, .int p2, .int p3])).length) Slot.unset).toArray = ls at hl ⊢
  have hl : lv_has ls 5 [(0, .ref F.1), (1, .ref p0), (2, .int p1), (3, .int p2), (4, .int p3)] := hl
  refine lv_iload_n hx hb dX1_answerOf_0 rfl (lv_at hl 3 rfl) ?_
  by_cases c1 : p2 = 0
  · refine lv_tableIn (off := 59) (tgt := 60) hx hb dX1_answerOf_1 (by rw [c1]; decide) (by rw [c1]; decide) (by rw [c1]; rfl) (by decide) ?_
    refine lv_aload_n hx hb dX1_answerOf_60 rfl (lv_at hl 0 rfl) ?_
    refine lv_aload_n hx hb dX1_answerOf_61 rfl (lv_at hl 1 rfl) ?_
    refine lv_iload hx hb dX1_answerOf_62 (lv_at hl 4 rfl) ?_
    have hf2 := xFree hD hS hA
    refine va_calli (va_runV (As := [.ref p0, .int p3]) (rest := []) ⟨hx, hb, hml, hown, hts⟩ (k_callOf l D F (sS, sP, sQ, sE, ec, sc, vl, LP, sT) hok H.size p0 hp0 p3) (cwV 2 hts gX1_answerOf_X1_callOf rfl rfl rfl (by decide +kernel) ⟨Nat.le_of_ble_eq_true rfl, Nat.le_of_ble_eq_true rfl⟩) (xPre hN hK hP hD hS hA hZ _) rfl rfl hl.1 rfl (lv_room (Nat.le_of_ble_eq_true rfl)) dX1_answerOf_64 ⟨Nat.le_of_ble_eq_true rfl, Nat.le_of_ble_eq_true rfl⟩) hS (fun q _ h => hf2 q h) hf2 (fun r3 v4 t6 H1 locs ht hvm hw5 hB hz1 hk1 hS => ?_)
    obtain ⟨hP1, hK1, hD1⟩ := hB
    rw [ht] at hP1
    replace hD1 := hD1.weaken (fun _ _ _ h => hf2 _ h)
    generalize H1 = H at hP1 hS ⊢
    obtain ⟨rfl, rfl⟩ := Prod.mk.inj (show (r3, v4) = ((fCall (sT (chase sT 3 p0)) sc p3).1, (sS, sP, sQ, sE, ec, (fCall (sT (chase sT 3 p0)) sc p3).2, vl, LP, sT)) from hw5)
    have hP : va_P D vwCl (xW F (sS, sP, sQ, sE, ec, (fCall (sT (chase sT 3 p0)) sc p3).2, vl, LP, sT)) H := hP1
    have hD : va_D A (xW F (sS, sP, sQ, sE, ec, (fCall (sT (chase sT 3 p0)) sc p3).2, vl, LP, sT)) := hD1
    exact W.iret (v := (fCall (sT (chase sT 3 p0)) sc p3).1) hx hb hr (fun tE ht hW => ⟨⟨(fCall (sT (chase sT 3 p0)) sc p3).1, (sS, sP, sQ, sE, ec, (fCall (sT (chase sT 3 p0)) sc p3).2, vl, LP, sT), rfl, by first | (simp only [sAns, sCall, uC, gS, gP, gQ, gE, gec, gsc, gvl, gL, gT, eq_true c1, eq_self, ↓reduceIte, Bool.false_eq_true, Bool.not_false, Bool.not_true, Bool.and_true, Bool.and_false, Bool.true_and, Bool.false_and, decide_true, decide_false] <;> first | done | decide) | (simp only [sAns, sCall, uC, gS, gP, gQ, gE, gec, gsc, gvl, gL, gT, c1, eq_self, ↓reduceIte, Bool.false_eq_true, Bool.not_false, Bool.not_true, Bool.and_true, Bool.and_false, Bool.true_and, Bool.false_and, decide_true, decide_false] <;> first | done | decide) | (simp [sAns, sCall, uC, gS, gP, gQ, gE, gec, gsc, gvl, gL, gT, c1]; done) | (simp [sAns, sCall, uC, gS, gP, gQ, gE, gec, gsc, gvl, gL, gT, eq_true c1]; done), by rw [ht]; exact hP, va_K.moved hW.alike hK, hD⟩, hS.F ht⟩) hS.2.2 dX1_answerOf_67
  by_cases c7 : p2 = 1
  · refine lv_tableIn (off := 67) (tgt := 68) hx hb dX1_answerOf_1 (by rw [c7]; decide) (by rw [c7]; decide) (by rw [c7]; rfl) (by decide) ?_
    refine lv_aload_n hx hb dX1_answerOf_68 rfl (lv_at hl 0 rfl) ?_
    refine lv_aload_n hx hb dX1_answerOf_69 rfl (lv_at hl 1 rfl) ?_
    refine lv_iload hx hb dX1_answerOf_70 (lv_at hl 4 rfl) ?_
    have hf8 := xFree hD hS hA
    refine va_calli (va_runV (As := [.ref p0, .int p3]) (rest := []) ⟨hx, hb, hml, hown, hts⟩ (k_twiceOf l D F (sS, sP, sQ, sE, ec, sc, vl, LP, sT) hok H.size p0 hp0 p3) (cwV 2 hts gX1_answerOf_X1_twiceOf rfl rfl rfl (by decide +kernel) ⟨Nat.le_of_ble_eq_true rfl, Nat.le_of_ble_eq_true rfl⟩) (xPre hN hK hP hD hS hA hZ _) rfl rfl hl.1 rfl (lv_room (Nat.le_of_ble_eq_true rfl)) dX1_answerOf_72 ⟨Nat.le_of_ble_eq_true rfl, Nat.le_of_ble_eq_true rfl⟩) hS (fun q _ h => hf8 q h) hf8 (fun r9 v10 t12 H1 locs ht hvm hw11 hB hz1 hk1 hS => ?_)
    obtain ⟨hP1, hK1, hD1⟩ := hB
    rw [ht] at hP1
    replace hD1 := hD1.weaken (fun _ _ _ h => hf8 _ h)
    generalize H1 = H at hP1 hS ⊢
    obtain ⟨rfl, rfl⟩ := Prod.mk.inj (show (r9, v10) = ((sTw (sS, sP, sQ, sE, ec, sc, vl, LP, sT) p0 p3).1, ((sTw (sS, sP, sQ, sE, ec, sc, vl, LP, sT) p0 p3).2.1, (sTw (sS, sP, sQ, sE, ec, sc, vl, LP, sT) p0 p3).2.2.1, (sTw (sS, sP, sQ, sE, ec, sc, vl, LP, sT) p0 p3).2.2.2.1, (sTw (sS, sP, sQ, sE, ec, sc, vl, LP, sT) p0 p3).2.2.2.2.1, (sTw (sS, sP, sQ, sE, ec, sc, vl, LP, sT) p0 p3).2.2.2.2.2.1, (sTw (sS, sP, sQ, sE, ec, sc, vl, LP, sT) p0 p3).2.2.2.2.2.2.1, (sTw (sS, sP, sQ, sE, ec, sc, vl, LP, sT) p0 p3).2.2.2.2.2.2.2.1, (sTw (sS, sP, sQ, sE, ec, sc, vl, LP, sT) p0 p3).2.2.2.2.2.2.2.2.1, (sTw (sS, sP, sQ, sE, ec, sc, vl, LP, sT) p0 p3).2.2.2.2.2.2.2.2.2)) from hw11)
    have hP : va_P D vwCl (xW F ((sTw (sS, sP, sQ, sE, ec, sc, vl, LP, sT) p0 p3).2.1, (sTw (sS, sP, sQ, sE, ec, sc, vl, LP, sT) p0 p3).2.2.1, (sTw (sS, sP, sQ, sE, ec, sc, vl, LP, sT) p0 p3).2.2.2.1, (sTw (sS, sP, sQ, sE, ec, sc, vl, LP, sT) p0 p3).2.2.2.2.1, (sTw (sS, sP, sQ, sE, ec, sc, vl, LP, sT) p0 p3).2.2.2.2.2.1, (sTw (sS, sP, sQ, sE, ec, sc, vl, LP, sT) p0 p3).2.2.2.2.2.2.1, (sTw (sS, sP, sQ, sE, ec, sc, vl, LP, sT) p0 p3).2.2.2.2.2.2.2.1, (sTw (sS, sP, sQ, sE, ec, sc, vl, LP, sT) p0 p3).2.2.2.2.2.2.2.2.1, (sTw (sS, sP, sQ, sE, ec, sc, vl, LP, sT) p0 p3).2.2.2.2.2.2.2.2.2)) H := hP1
    have hD : va_D A (xW F ((sTw (sS, sP, sQ, sE, ec, sc, vl, LP, sT) p0 p3).2.1, (sTw (sS, sP, sQ, sE, ec, sc, vl, LP, sT) p0 p3).2.2.1, (sTw (sS, sP, sQ, sE, ec, sc, vl, LP, sT) p0 p3).2.2.2.1, (sTw (sS, sP, sQ, sE, ec, sc, vl, LP, sT) p0 p3).2.2.2.2.1, (sTw (sS, sP, sQ, sE, ec, sc, vl, LP, sT) p0 p3).2.2.2.2.2.1, (sTw (sS, sP, sQ, sE, ec, sc, vl, LP, sT) p0 p3).2.2.2.2.2.2.1, (sTw (sS, sP, sQ, sE, ec, sc, vl, LP, sT) p0 p3).2.2.2.2.2.2.2.1, (sTw (sS, sP, sQ, sE, ec, sc, vl, LP, sT) p0 p3).2.2.2.2.2.2.2.2.1, (sTw (sS, sP, sQ, sE, ec, sc, vl, LP, sT) p0 p3).2.2.2.2.2.2.2.2.2)) := hD1
    exact W.iret (v := (sTw (sS, sP, sQ, sE, ec, sc, vl, LP, sT) p0 p3).1) hx hb hr (fun tE ht hW => ⟨⟨(sTw (sS, sP, sQ, sE, ec, sc, vl, LP, sT) p0 p3).1, ((sTw (sS, sP, sQ, sE, ec, sc, vl, LP, sT) p0 p3).2.1, (sTw (sS, sP, sQ, sE, ec, sc, vl, LP, sT) p0 p3).2.2.1, (sTw (sS, sP, sQ, sE, ec, sc, vl, LP, sT) p0 p3).2.2.2.1, (sTw (sS, sP, sQ, sE, ec, sc, vl, LP, sT) p0 p3).2.2.2.2.1, (sTw (sS, sP, sQ, sE, ec, sc, vl, LP, sT) p0 p3).2.2.2.2.2.1, (sTw (sS, sP, sQ, sE, ec, sc, vl, LP, sT) p0 p3).2.2.2.2.2.2.1, (sTw (sS, sP, sQ, sE, ec, sc, vl, LP, sT) p0 p3).2.2.2.2.2.2.2.1, (sTw (sS, sP, sQ, sE, ec, sc, vl, LP, sT) p0 p3).2.2.2.2.2.2.2.2.1, (sTw (sS, sP, sQ, sE, ec, sc, vl, LP, sT) p0 p3).2.2.2.2.2.2.2.2.2), rfl, by first | (simp only [sAns, sCall, uC, gS, gP, gQ, gE, gec, gsc, gvl, gL, gT, c1, eq_true c7, eq_self, ↓reduceIte, Bool.false_eq_true, Bool.not_false, Bool.not_true, Bool.and_true, Bool.and_false, Bool.true_and, Bool.false_and, decide_true, decide_false] <;> first | done | decide) | (simp only [sAns, sCall, uC, gS, gP, gQ, gE, gec, gsc, gvl, gL, gT, c1, c7, eq_self, ↓reduceIte, Bool.false_eq_true, Bool.not_false, Bool.not_true, Bool.and_true, Bool.and_false, Bool.true_and, Bool.false_and, decide_true, decide_false] <;> first | done | decide) | (simp [sAns, sCall, uC, gS, gP, gQ, gE, gec, gsc, gvl, gL, gT, c1, c7]; done) | (simp [sAns, sCall, uC, gS, gP, gQ, gE, gec, gsc, gvl, gL, gT, c1, eq_true c7]; done), by rw [ht]; exact hP, va_K.moved hW.alike hK, hD⟩, hS.F ht⟩) hS.2.2 dX1_answerOf_75
  by_cases c13 : p2 = 2
  · refine lv_tableIn (off := 75) (tgt := 76) hx hb dX1_answerOf_1 (by rw [c13]; decide) (by rw [c13]; decide) (by rw [c13]; rfl) (by decide) ?_
    refine lv_aload_n hx hb dX1_answerOf_76 rfl (lv_at hl 1 rfl) ?_
    refine lv_iload hx hb dX1_answerOf_77 (lv_at hl 4 rfl) ?_
    refine vp_callSi (va_Run.run (va_runS (As := [.ref p0, .int p3]) (rest := []) ⟨hx, hb, hml, hown, hts⟩ (k_volumeOf l D p0 (sT p0) p3) (va_cwS 2 hts gX1_answerOf_X1_volumeOf rfl rfl rfl (by decide +kernel) ⟨Nat.le_of_ble_eq_true rfl, Nat.le_of_ble_eq_true rfl⟩) (rPre hN hK (x_one hP hp0) hS hZ xFalse _) rfl rfl hl.1 rfl (lv_room (Nat.le_of_ble_eq_true rfl)) dX1_answerOf_79 ⟨Nat.le_of_ble_eq_true rfl, Nat.le_of_ble_eq_true rfl⟩)) (fun r14 hw15 => ?_)
    subst hw15
    exact W.iret (v := (fVol (sT p0) p3)) hx hb hr (fun tE ht hW => ⟨⟨(fVol (sT p0) p3), (sS, sP, sQ, sE, ec, sc, vl, LP, sT), rfl, by first | (simp only [sAns, sCall, uC, gS, gP, gQ, gE, gec, gsc, gvl, gL, gT, c1, c7, eq_true c13, eq_self, ↓reduceIte, Bool.false_eq_true, Bool.not_false, Bool.not_true, Bool.and_true, Bool.and_false, Bool.true_and, Bool.false_and, decide_true, decide_false] <;> first | done | decide) | (simp only [sAns, sCall, uC, gS, gP, gQ, gE, gec, gsc, gvl, gL, gT, c1, c7, c13, eq_self, ↓reduceIte, Bool.false_eq_true, Bool.not_false, Bool.not_true, Bool.and_true, Bool.and_false, Bool.true_and, Bool.false_and, decide_true, decide_false] <;> first | done | decide) | (simp [sAns, sCall, uC, gS, gP, gQ, gE, gec, gsc, gvl, gL, gT, c1, c7, c13]; done) | (simp [sAns, sCall, uC, gS, gP, gQ, gE, gec, gsc, gvl, gL, gT, c1, c7, eq_true c13]; done), by rw [ht]; exact hP, va_K.moved hW.alike hK, hD⟩, hS.F ht⟩) hS.2.2 dX1_answerOf_82
  by_cases c16 : p2 = 3
  · refine lv_tableIn (off := 82) (tgt := 83) hx hb dX1_answerOf_1 (by rw [c16]; decide) (by rw [c16]; decide) (by rw [c16]; rfl) (by decide) ?_
    refine lv_aload_n hx hb dX1_answerOf_83 rfl (lv_at hl 1 rfl) ?_
    refine vp_callSi (va_Run.run (va_runS (As := [.ref p0]) (rest := []) ⟨hx, hb, hml, hown, hts⟩ (k_weightOf l D p0 (sT p0) ) (va_cwS 1 hts gX1_answerOf_X1_weightOf rfl rfl rfl (by decide +kernel) ⟨Nat.le_of_ble_eq_true rfl, Nat.le_of_ble_eq_true rfl⟩) (rPre hN hK (x_one hP hp0) hS hZ xFalse _) rfl rfl hl.1 rfl (lv_room (Nat.le_of_ble_eq_true rfl)) dX1_answerOf_84 ⟨Nat.le_of_ble_eq_true rfl, Nat.le_of_ble_eq_true rfl⟩)) (fun r17 hw18 => ?_)
    subst hw18
    exact W.iret (v := (fWgt (sT p0))) hx hb hr (fun tE ht hW => ⟨⟨(fWgt (sT p0)), (sS, sP, sQ, sE, ec, sc, vl, LP, sT), rfl, by first | (simp only [sAns, sCall, uC, gS, gP, gQ, gE, gec, gsc, gvl, gL, gT, c1, c7, c13, eq_true c16, eq_self, ↓reduceIte, Bool.false_eq_true, Bool.not_false, Bool.not_true, Bool.and_true, Bool.and_false, Bool.true_and, Bool.false_and, decide_true, decide_false] <;> first | done | decide) | (simp only [sAns, sCall, uC, gS, gP, gQ, gE, gec, gsc, gvl, gL, gT, c1, c7, c13, c16, eq_self, ↓reduceIte, Bool.false_eq_true, Bool.not_false, Bool.not_true, Bool.and_true, Bool.and_false, Bool.true_and, Bool.false_and, decide_true, decide_false] <;> first | done | decide) | (simp [sAns, sCall, uC, gS, gP, gQ, gE, gec, gsc, gvl, gL, gT, c1, c7, c13, c16]; done) | (simp [sAns, sCall, uC, gS, gP, gQ, gE, gec, gsc, gvl, gL, gT, c1, c7, c13, eq_true c16]; done), by rw [ht]; exact hP, va_K.moved hW.alike hK, hD⟩, hS.F ht⟩) hS.2.2 dX1_answerOf_87
  by_cases c19 : p2 = 4
  · refine lv_tableIn (off := 87) (tgt := 88) hx hb dX1_answerOf_1 (by rw [c19]; decide) (by rw [c19]; decide) (by rw [c19]; rfl) (by decide) ?_
    refine lv_aload_n hx hb dX1_answerOf_88 rfl (lv_at hl 1 rfl) ?_
    refine vp_callSi (va_Run.run (va_runS (As := [.ref p0]) (rest := []) ⟨hx, hb, hml, hown, hts⟩ (k_weightOf l D p0 (sT p0) ) (va_cwS 1 hts gX1_answerOf_X1_weightOf rfl rfl rfl (by decide +kernel) ⟨Nat.le_of_ble_eq_true rfl, Nat.le_of_ble_eq_true rfl⟩) (rPre hN hK (x_one hP hp0) hS hZ xFalse _) rfl rfl hl.1 rfl (lv_room (Nat.le_of_ble_eq_true rfl)) dX1_answerOf_89 ⟨Nat.le_of_ble_eq_true rfl, Nat.le_of_ble_eq_true rfl⟩)) (fun r20 hw21 => ?_)
    subst hw21
    refine lv_bipush (v := 100) hx hb dX1_answerOf_92 (by decide) ?_
    refine lv_iconst (v := 3) hx hb dX1_answerOf_94 (by decide) ?_
    refine vp_callSi (va_Run.run (va_runS (As := [.int 3]) (rest := [.int 100, .int (fWgt (sT p0))]) ⟨hx, hb, hml, hown, hts⟩ (k_markOf l 3) (va_cwS 1 hts gX1_answerOf_X1_markOf rfl rfl rfl (by decide +kernel) ⟨Nat.le_of_ble_eq_true rfl, Nat.le_of_ble_eq_true rfl⟩) preEq rfl rfl hl.1 rfl (lv_room (Nat.le_of_ble_eq_true rfl)) dX1_answerOf_95 ⟨Nat.le_of_ble_eq_true rfl, Nat.le_of_ble_eq_true rfl⟩)) (fun r22 hw23 => ?_)
    subst hw23
    refine lv_imul hx hb dX1_answerOf_98 ?_
    refine lv_iadd hx hb dX1_answerOf_99 ?_
    exact W.iret (v := ((fWgt (sT p0)) + (100 * (fMark 3)))) hx hb hr (fun tE ht hW => ⟨⟨((fWgt (sT p0)) + (100 * (fMark 3))), (sS, sP, sQ, sE, ec, sc, vl, LP, sT), rfl, by first | (simp only [sAns, sCall, uC, gS, gP, gQ, gE, gec, gsc, gvl, gL, gT, c1, c7, c13, c16, eq_true c19, eq_self, ↓reduceIte, Bool.false_eq_true, Bool.not_false, Bool.not_true, Bool.and_true, Bool.and_false, Bool.true_and, Bool.false_and, decide_true, decide_false] <;> first | done | decide) | (simp only [sAns, sCall, uC, gS, gP, gQ, gE, gec, gsc, gvl, gL, gT, c1, c7, c13, c16, c19, eq_self, ↓reduceIte, Bool.false_eq_true, Bool.not_false, Bool.not_true, Bool.and_true, Bool.and_false, Bool.true_and, Bool.false_and, decide_true, decide_false] <;> first | done | decide) | (simp [sAns, sCall, uC, gS, gP, gQ, gE, gec, gsc, gvl, gL, gT, c1, c7, c13, c16, c19]; done) | (simp [sAns, sCall, uC, gS, gP, gQ, gE, gec, gsc, gvl, gL, gT, c1, c7, c13, c16, eq_true c19]; done), by rw [ht]; exact hP, va_K.moved hW.alike hK, hD⟩, hS.F ht⟩) hS.2.2 dX1_answerOf_100
  by_cases c24 : p2 = 5
  · refine lv_tableIn (off := 100) (tgt := 101) hx hb dX1_answerOf_1 (by rw [c24]; decide) (by rw [c24]; decide) (by rw [c24]; rfl) (by decide) ?_
    refine lv_iload hx hb dX1_answerOf_101 (lv_at hl 4 rfl) ?_
    refine lv_bipush (v := 100) hx hb dX1_answerOf_103 (by decide) ?_
    refine lv_iadd hx hb dX1_answerOf_105 ?_
    exact W.iret (v := (p3 + 100)) hx hb hr (fun tE ht hW => ⟨⟨(p3 + 100), (sS, sP, sQ, sE, ec, sc, vl, LP, sT), rfl, by first | (simp only [sAns, sCall, uC, gS, gP, gQ, gE, gec, gsc, gvl, gL, gT, c1, c7, c13, c16, c19, eq_true c24, eq_self, ↓reduceIte, Bool.false_eq_true, Bool.not_false, Bool.not_true, Bool.and_true, Bool.and_false, Bool.true_and, Bool.false_and, decide_true, decide_false] <;> first | done | decide) | (simp only [sAns, sCall, uC, gS, gP, gQ, gE, gec, gsc, gvl, gL, gT, c1, c7, c13, c16, c19, c24, eq_self, ↓reduceIte, Bool.false_eq_true, Bool.not_false, Bool.not_true, Bool.and_true, Bool.and_false, Bool.true_and, Bool.false_and, decide_true, decide_false] <;> first | done | decide) | (simp [sAns, sCall, uC, gS, gP, gQ, gE, gec, gsc, gvl, gL, gT, c1, c7, c13, c16, c19, c24]; done) | (simp [sAns, sCall, uC, gS, gP, gQ, gE, gec, gsc, gvl, gL, gT, c1, c7, c13, c16, c19, eq_true c24]; done), by rw [ht]; exact hP, va_K.moved hW.alike hK, hD⟩, hS.F ht⟩) hS.2.2 dX1_answerOf_106
  by_cases c25 : p2 = 6
  · refine lv_tableIn (off := 106) (tgt := 107) hx hb dX1_answerOf_1 (by rw [c25]; decide) (by rw [c25]; decide) (by rw [c25]; rfl) (by decide) ?_
    refine lv_iload_n hx hb dX1_answerOf_107 rfl (lv_at hl 2 rfl) ?_
    refine vp_callSi (va_Run.run (va_runS (As := [.int p1]) (rest := []) ⟨hx, hb, hml, hown, hts⟩ (k_markOf l p1) (va_cwS 1 hts gX1_answerOf_X1_markOf rfl rfl rfl (by decide +kernel) ⟨Nat.le_of_ble_eq_true rfl, Nat.le_of_ble_eq_true rfl⟩) preEq rfl rfl hl.1 rfl (lv_room (Nat.le_of_ble_eq_true rfl)) dX1_answerOf_108 ⟨Nat.le_of_ble_eq_true rfl, Nat.le_of_ble_eq_true rfl⟩)) (fun r26 hw27 => ?_)
    subst hw27
    exact W.iret (v := (fMark p1)) hx hb hr (fun tE ht hW => ⟨⟨(fMark p1), (sS, sP, sQ, sE, ec, sc, vl, LP, sT), rfl, by first | (simp only [sAns, sCall, uC, gS, gP, gQ, gE, gec, gsc, gvl, gL, gT, c1, c7, c13, c16, c19, c24, eq_true c25, eq_self, ↓reduceIte, Bool.false_eq_true, Bool.not_false, Bool.not_true, Bool.and_true, Bool.and_false, Bool.true_and, Bool.false_and, decide_true, decide_false] <;> first | done | decide) | (simp only [sAns, sCall, uC, gS, gP, gQ, gE, gec, gsc, gvl, gL, gT, c1, c7, c13, c16, c19, c24, c25, eq_self, ↓reduceIte, Bool.false_eq_true, Bool.not_false, Bool.not_true, Bool.and_true, Bool.and_false, Bool.true_and, Bool.false_and, decide_true, decide_false] <;> first | done | decide) | (simp [sAns, sCall, uC, gS, gP, gQ, gE, gec, gsc, gvl, gL, gT, c1, c7, c13, c16, c19, c24, c25]; done) | (simp [sAns, sCall, uC, gS, gP, gQ, gE, gec, gsc, gvl, gL, gT, c1, c7, c13, c16, c19, c24, eq_true c25]; done), by rw [ht]; exact hP, va_K.moved hW.alike hK, hD⟩, hS.F ht⟩) hS.2.2 dX1_answerOf_111
  by_cases c28 : p2 = 7
  · refine lv_tableIn (off := 121) (tgt := 122) hx hb dX1_answerOf_1 (by rw [c28]; decide) (by rw [c28]; decide) (by rw [c28]; rfl) (by decide) ?_
    refine lv_iload_n hx hb dX1_answerOf_122 rfl (lv_at hl 2 rfl) ?_
    refine lv_iconst (v := 4) hx hb dX1_answerOf_123 (by decide) ?_
    refine lv_icmp_ne (tgt := 134) hx hb dX1_answerOf_124 (by decide) (fun c29 => ?_) (fun c29 => ?_)
    · refine lv_aload_n hx hb dX1_answerOf_134 rfl (lv_at hl 1 rfl) ?_
      refine vp_callSi (va_Run.run (va_runS (As := [.ref p0]) (rest := []) ⟨hx, hb, hml, hown, hts⟩ (k_weightAsCat l D p0 (sT p0) ) (va_cwS 1 hts gX1_answerOf_X1_weightAsCat rfl rfl rfl (by decide +kernel) ⟨Nat.le_of_ble_eq_true rfl, Nat.le_of_ble_eq_true rfl⟩) (rPre hN hK (x_one hP hp0) hS hZ xFalse _) rfl rfl hl.1 rfl (lv_room (Nat.le_of_ble_eq_true rfl)) dX1_answerOf_135 ⟨Nat.le_of_ble_eq_true rfl, Nat.le_of_ble_eq_true rfl⟩)) (fun r30 hw31 => ?_)
      subst hw31
      exact W.iret (v := (fWC (sT p0))) hx hb hr (fun tE ht hW => ⟨⟨(fWC (sT p0)), (sS, sP, sQ, sE, ec, sc, vl, LP, sT), rfl, by first | (simp only [sAns, sCall, uC, gS, gP, gQ, gE, gec, gsc, gvl, gL, gT, c1, c7, c13, c16, c19, c24, c25, eq_true c28, c29, eq_self, ↓reduceIte, Bool.false_eq_true, Bool.not_false, Bool.not_true, Bool.and_true, Bool.and_false, Bool.true_and, Bool.false_and, decide_true, decide_false] <;> first | done | decide) | (simp only [sAns, sCall, uC, gS, gP, gQ, gE, gec, gsc, gvl, gL, gT, c1, c7, c13, c16, c19, c24, c25, c28, c29, eq_self, ↓reduceIte, Bool.false_eq_true, Bool.not_false, Bool.not_true, Bool.and_true, Bool.and_false, Bool.true_and, Bool.false_and, decide_true, decide_false] <;> first | done | decide) | (simp [sAns, sCall, uC, gS, gP, gQ, gE, gec, gsc, gvl, gL, gT, c1, c7, c13, c16, c19, c24, c25, c28, c29]; done) | (simp [sAns, sCall, uC, gS, gP, gQ, gE, gec, gsc, gvl, gL, gT, c1, c7, c13, c16, c19, c24, c25, eq_true c28, c29]; done), by rw [ht]; exact hP, va_K.moved hW.alike hK, hD⟩, hS.F ht⟩) hS.2.2 dX1_answerOf_138
    · refine lv_aload_n hx hb dX1_answerOf_127 rfl (lv_at hl 1 rfl) ?_
      refine vp_callSi (va_Run.run (va_runS (As := [.ref p0]) (rest := []) ⟨hx, hb, hml, hown, hts⟩ (k_weightAsBase l D p0 (sT p0) ) (va_cwS 1 hts gX1_answerOf_X1_weightAsBase rfl rfl rfl (by decide +kernel) ⟨Nat.le_of_ble_eq_true rfl, Nat.le_of_ble_eq_true rfl⟩) (rPre hN hK (x_one hP hp0) hS hZ xFalse _) rfl rfl hl.1 rfl (lv_room (Nat.le_of_ble_eq_true rfl)) dX1_answerOf_128 ⟨Nat.le_of_ble_eq_true rfl, Nat.le_of_ble_eq_true rfl⟩)) (fun r32 hw33 => ?_)
      subst hw33
      refine lv_goto (tgt := 138) hx hb dX1_answerOf_131 (by decide) ?_
      exact W.iret (v := (fWB (sT p0))) hx hb hr (fun tE ht hW => ⟨⟨(fWB (sT p0)), (sS, sP, sQ, sE, ec, sc, vl, LP, sT), rfl, by first | (simp only [sAns, sCall, uC, gS, gP, gQ, gE, gec, gsc, gvl, gL, gT, c1, c7, c13, c16, c19, c24, c25, eq_true c28, eq_true c29, eq_self, ↓reduceIte, Bool.false_eq_true, Bool.not_false, Bool.not_true, Bool.and_true, Bool.and_false, Bool.true_and, Bool.false_and, decide_true, decide_false] <;> first | done | decide) | (simp only [sAns, sCall, uC, gS, gP, gQ, gE, gec, gsc, gvl, gL, gT, c1, c7, c13, c16, c19, c24, c25, c28, c29, eq_self, ↓reduceIte, Bool.false_eq_true, Bool.not_false, Bool.not_true, Bool.and_true, Bool.and_false, Bool.true_and, Bool.false_and, decide_true, decide_false] <;> first | done | decide) | (simp [sAns, sCall, uC, gS, gP, gQ, gE, gec, gsc, gvl, gL, gT, c1, c7, c13, c16, c19, c24, c25, c28, c29]; done) | (simp [sAns, sCall, uC, gS, gP, gQ, gE, gec, gsc, gvl, gL, gT, c1, c7, c13, c16, c19, c24, c25, eq_true c28, eq_true c29]; done), by rw [ht]; exact hP, va_K.moved hW.alike hK, hD⟩, hS.F ht⟩) hS.2.2 dX1_answerOf_138
  by_cases c34 : p2 = 8
  · refine lv_tableIn (off := 121) (tgt := 122) hx hb dX1_answerOf_1 (by rw [c34]; decide) (by rw [c34]; decide) (by rw [c34]; rfl) (by decide) ?_
    refine lv_iload_n hx hb dX1_answerOf_122 rfl (lv_at hl 2 rfl) ?_
    refine lv_iconst (v := 4) hx hb dX1_answerOf_123 (by decide) ?_
    refine lv_icmp_ne (tgt := 134) hx hb dX1_answerOf_124 (by decide) (fun c35 => ?_) (fun c35 => ?_)
    · refine lv_aload_n hx hb dX1_answerOf_134 rfl (lv_at hl 1 rfl) ?_
      refine vp_callSi (va_Run.run (va_runS (As := [.ref p0]) (rest := []) ⟨hx, hb, hml, hown, hts⟩ (k_weightAsCat l D p0 (sT p0) ) (va_cwS 1 hts gX1_answerOf_X1_weightAsCat rfl rfl rfl (by decide +kernel) ⟨Nat.le_of_ble_eq_true rfl, Nat.le_of_ble_eq_true rfl⟩) (rPre hN hK (x_one hP hp0) hS hZ xFalse _) rfl rfl hl.1 rfl (lv_room (Nat.le_of_ble_eq_true rfl)) dX1_answerOf_135 ⟨Nat.le_of_ble_eq_true rfl, Nat.le_of_ble_eq_true rfl⟩)) (fun r36 hw37 => ?_)
      subst hw37
      exact W.iret (v := (fWC (sT p0))) hx hb hr (fun tE ht hW => ⟨⟨(fWC (sT p0)), (sS, sP, sQ, sE, ec, sc, vl, LP, sT), rfl, by first | (simp only [sAns, sCall, uC, gS, gP, gQ, gE, gec, gsc, gvl, gL, gT, c1, c7, c13, c16, c19, c24, c25, c28, eq_true c34, c35, eq_self, ↓reduceIte, Bool.false_eq_true, Bool.not_false, Bool.not_true, Bool.and_true, Bool.and_false, Bool.true_and, Bool.false_and, decide_true, decide_false] <;> first | done | decide) | (simp only [sAns, sCall, uC, gS, gP, gQ, gE, gec, gsc, gvl, gL, gT, c1, c7, c13, c16, c19, c24, c25, c28, c34, c35, eq_self, ↓reduceIte, Bool.false_eq_true, Bool.not_false, Bool.not_true, Bool.and_true, Bool.and_false, Bool.true_and, Bool.false_and, decide_true, decide_false] <;> first | done | decide) | (simp [sAns, sCall, uC, gS, gP, gQ, gE, gec, gsc, gvl, gL, gT, c1, c7, c13, c16, c19, c24, c25, c28, c34, c35]; done) | (simp [sAns, sCall, uC, gS, gP, gQ, gE, gec, gsc, gvl, gL, gT, c1, c7, c13, c16, c19, c24, c25, c28, eq_true c34, c35]; done), by rw [ht]; exact hP, va_K.moved hW.alike hK, hD⟩, hS.F ht⟩) hS.2.2 dX1_answerOf_138
    · refine lv_aload_n hx hb dX1_answerOf_127 rfl (lv_at hl 1 rfl) ?_
      refine vp_callSi (va_Run.run (va_runS (As := [.ref p0]) (rest := []) ⟨hx, hb, hml, hown, hts⟩ (k_weightAsBase l D p0 (sT p0) ) (va_cwS 1 hts gX1_answerOf_X1_weightAsBase rfl rfl rfl (by decide +kernel) ⟨Nat.le_of_ble_eq_true rfl, Nat.le_of_ble_eq_true rfl⟩) (rPre hN hK (x_one hP hp0) hS hZ xFalse _) rfl rfl hl.1 rfl (lv_room (Nat.le_of_ble_eq_true rfl)) dX1_answerOf_128 ⟨Nat.le_of_ble_eq_true rfl, Nat.le_of_ble_eq_true rfl⟩)) (fun r38 hw39 => ?_)
      subst hw39
      refine lv_goto (tgt := 138) hx hb dX1_answerOf_131 (by decide) ?_
      exact W.iret (v := (fWB (sT p0))) hx hb hr (fun tE ht hW => ⟨⟨(fWB (sT p0)), (sS, sP, sQ, sE, ec, sc, vl, LP, sT), rfl, by first | (simp only [sAns, sCall, uC, gS, gP, gQ, gE, gec, gsc, gvl, gL, gT, c1, c7, c13, c16, c19, c24, c25, c28, eq_true c34, eq_true c35, eq_self, ↓reduceIte, Bool.false_eq_true, Bool.not_false, Bool.not_true, Bool.and_true, Bool.and_false, Bool.true_and, Bool.false_and, decide_true, decide_false] <;> first | done | decide) | (simp only [sAns, sCall, uC, gS, gP, gQ, gE, gec, gsc, gvl, gL, gT, c1, c7, c13, c16, c19, c24, c25, c28, c34, c35, eq_self, ↓reduceIte, Bool.false_eq_true, Bool.not_false, Bool.not_true, Bool.and_true, Bool.and_false, Bool.true_and, Bool.false_and, decide_true, decide_false] <;> first | done | decide) | (simp [sAns, sCall, uC, gS, gP, gQ, gE, gec, gsc, gvl, gL, gT, c1, c7, c13, c16, c19, c24, c25, c28, c34, c35]; done) | (simp [sAns, sCall, uC, gS, gP, gQ, gE, gec, gsc, gvl, gL, gT, c1, c7, c13, c16, c19, c24, c25, c28, eq_true c34, eq_true c35]; done), by rw [ht]; exact hP, va_K.moved hW.alike hK, hD⟩, hS.F ht⟩) hS.2.2 dX1_answerOf_138
  by_cases c40 : p2 = 9
  · refine lv_tableIn (off := 111) (tgt := 112) hx hb dX1_answerOf_1 (by rw [c40]; decide) (by rw [c40]; decide) (by rw [c40]; rfl) (by decide) ?_
    refine lv_aload_n hx hb dX1_answerOf_112 rfl (lv_at hl 1 rfl) ?_
    refine vp_callSi (va_Run.run (va_runS (As := [.ref p0]) (rest := []) ⟨hx, hb, hml, hown, hts⟩ (k_seedOf l D p0 (sT p0) ) (va_cwS 1 hts gX1_answerOf_X1_seedOf rfl rfl rfl (by decide +kernel) ⟨Nat.le_of_ble_eq_true rfl, Nat.le_of_ble_eq_true rfl⟩) (rPre hN hK (x_one hP hp0) hS hZ xFalse _) rfl rfl hl.1 rfl (lv_room (Nat.le_of_ble_eq_true rfl)) dX1_answerOf_113 ⟨Nat.le_of_ble_eq_true rfl, Nat.le_of_ble_eq_true rfl⟩)) (fun r41 hw42 => ?_)
    subst hw42
    exact W.iret (v := (fSeed (sT p0))) hx hb hr (fun tE ht hW => ⟨⟨(fSeed (sT p0)), (sS, sP, sQ, sE, ec, sc, vl, LP, sT), rfl, by first | (simp only [sAns, sCall, uC, gS, gP, gQ, gE, gec, gsc, gvl, gL, gT, c1, c7, c13, c16, c19, c24, c25, c28, c34, eq_true c40, eq_self, ↓reduceIte, Bool.false_eq_true, Bool.not_false, Bool.not_true, Bool.and_true, Bool.and_false, Bool.true_and, Bool.false_and, decide_true, decide_false] <;> first | done | decide) | (simp only [sAns, sCall, uC, gS, gP, gQ, gE, gec, gsc, gvl, gL, gT, c1, c7, c13, c16, c19, c24, c25, c28, c34, c40, eq_self, ↓reduceIte, Bool.false_eq_true, Bool.not_false, Bool.not_true, Bool.and_true, Bool.and_false, Bool.true_and, Bool.false_and, decide_true, decide_false] <;> first | done | decide) | (simp [sAns, sCall, uC, gS, gP, gQ, gE, gec, gsc, gvl, gL, gT, c1, c7, c13, c16, c19, c24, c25, c28, c34, c40]; done) | (simp [sAns, sCall, uC, gS, gP, gQ, gE, gec, gsc, gvl, gL, gT, c1, c7, c13, c16, c19, c24, c25, c28, c34, eq_true c40]; done), by rw [ht]; exact hP, va_K.moved hW.alike hK, hD⟩, hS.F ht⟩) hS.2.2 dX1_answerOf_116
  by_cases c43 : p2 = 10
  · refine lv_tableIn (off := 116) (tgt := 117) hx hb dX1_answerOf_1 (by rw [c43]; decide) (by rw [c43]; decide) (by rw [c43]; rfl) (by decide) ?_
    refine lv_aload_n hx hb dX1_answerOf_117 rfl (lv_at hl 1 rfl) ?_
    obtain ⟨k44, hk44⟩ := va_pl_get (X := xX F (sS, sP, sQ, sE, ec, sc, vl, LP, sT)) (f := thP sT) hp0
    refine va_getN (D := D) (ci := 0) (v := .int ((sT p0).2.1)) (C := RX0) (T := TX0) (N := 6) hx hb hts (by decide +kernel) hown hK hP k44 hk44 rfl 1 (by decide) (va_Nw.use rfl (hN (.fieldLinkNest RX1 83 "FamilyProbes$Thing" "n" "I" "FamilyProbes") (by decide +kernel))) (fun _ h9 => h9) rfl dX1_answerOf_118 ?_
    exact W.iret (v := (sT p0).2.1) hx hb hr (fun tE ht hW => ⟨⟨(sT p0).2.1, (sS, sP, sQ, sE, ec, sc, vl, LP, sT), rfl, by first | (simp only [sAns, sCall, uC, gS, gP, gQ, gE, gec, gsc, gvl, gL, gT, c1, c7, c13, c16, c19, c24, c25, c28, c34, c40, eq_true c43, eq_self, ↓reduceIte, Bool.false_eq_true, Bool.not_false, Bool.not_true, Bool.and_true, Bool.and_false, Bool.true_and, Bool.false_and, decide_true, decide_false] <;> first | done | decide) | (simp only [sAns, sCall, uC, gS, gP, gQ, gE, gec, gsc, gvl, gL, gT, c1, c7, c13, c16, c19, c24, c25, c28, c34, c40, c43, eq_self, ↓reduceIte, Bool.false_eq_true, Bool.not_false, Bool.not_true, Bool.and_true, Bool.and_false, Bool.true_and, Bool.false_and, decide_true, decide_false] <;> first | done | decide) | (simp [sAns, sCall, uC, gS, gP, gQ, gE, gec, gsc, gvl, gL, gT, c1, c7, c13, c16, c19, c24, c25, c28, c34, c40, c43]; done) | (simp [sAns, sCall, uC, gS, gP, gQ, gE, gec, gsc, gvl, gL, gT, c1, c7, c13, c16, c19, c24, c25, c28, c34, c40, eq_true c43]; done), by rw [ht]; exact hP, va_K.moved hW.alike hK, hD⟩, hS.F ht⟩) hS.2.2 dX1_answerOf_121
  refine lv_tableOut (tgt := 122) hx hb dX1_answerOf_1 (by have z0 := lv_neT (k := 0) (a := 0) c1 (by decide); have z1 := lv_neT (k := 1) (a := 1) c7 (by decide); have z2 := lv_neT (k := 2) (a := 2) c13 (by decide); have z3 := lv_neT (k := 3) (a := 3) c16 (by decide); have z4 := lv_neT (k := 4) (a := 4) c19 (by decide); have z5 := lv_neT (k := 5) (a := 5) c24 (by decide); have z6 := lv_neT (k := 6) (a := 6) c25 (by decide); have z7 := lv_neT (k := 7) (a := 7) c28 (by decide); have z8 := lv_neT (k := 8) (a := 8) c34 (by decide); have z9 := lv_neT (k := 9) (a := 9) c40 (by decide); have z10 := lv_neT (k := 10) (a := 10) c43 (by decide); omega) (by decide) ?_
  refine lv_iload_n hx hb dX1_answerOf_122 rfl (lv_at hl 2 rfl) ?_
  refine lv_iconst (v := 4) hx hb dX1_answerOf_123 (by decide) ?_
  refine lv_icmp_ne (tgt := 134) hx hb dX1_answerOf_124 (by decide) (fun c45 => ?_) (fun c45 => ?_)
  · refine lv_aload_n hx hb dX1_answerOf_134 rfl (lv_at hl 1 rfl) ?_
    refine vp_callSi (va_Run.run (va_runS (As := [.ref p0]) (rest := []) ⟨hx, hb, hml, hown, hts⟩ (k_weightAsCat l D p0 (sT p0) ) (va_cwS 1 hts gX1_answerOf_X1_weightAsCat rfl rfl rfl (by decide +kernel) ⟨Nat.le_of_ble_eq_true rfl, Nat.le_of_ble_eq_true rfl⟩) (rPre hN hK (x_one hP hp0) hS hZ xFalse _) rfl rfl hl.1 rfl (lv_room (Nat.le_of_ble_eq_true rfl)) dX1_answerOf_135 ⟨Nat.le_of_ble_eq_true rfl, Nat.le_of_ble_eq_true rfl⟩)) (fun r46 hw47 => ?_)
    subst hw47
    exact W.iret (v := (fWC (sT p0))) hx hb hr (fun tE ht hW => ⟨⟨(fWC (sT p0)), (sS, sP, sQ, sE, ec, sc, vl, LP, sT), rfl, by first | (simp only [sAns, sCall, uC, gS, gP, gQ, gE, gec, gsc, gvl, gL, gT, c1, c7, c13, c16, c19, c24, c25, c28, c34, c40, c43, c45, eq_self, ↓reduceIte, Bool.false_eq_true, Bool.not_false, Bool.not_true, Bool.and_true, Bool.and_false, Bool.true_and, Bool.false_and, decide_true, decide_false] <;> first | done | decide) | (simp [sAns, sCall, uC, gS, gP, gQ, gE, gec, gsc, gvl, gL, gT, c1, c7, c13, c16, c19, c24, c25, c28, c34, c40, c43, c45]; done), by rw [ht]; exact hP, va_K.moved hW.alike hK, hD⟩, hS.F ht⟩) hS.2.2 dX1_answerOf_138
  · refine lv_aload_n hx hb dX1_answerOf_127 rfl (lv_at hl 1 rfl) ?_
    refine vp_callSi (va_Run.run (va_runS (As := [.ref p0]) (rest := []) ⟨hx, hb, hml, hown, hts⟩ (k_weightAsBase l D p0 (sT p0) ) (va_cwS 1 hts gX1_answerOf_X1_weightAsBase rfl rfl rfl (by decide +kernel) ⟨Nat.le_of_ble_eq_true rfl, Nat.le_of_ble_eq_true rfl⟩) (rPre hN hK (x_one hP hp0) hS hZ xFalse _) rfl rfl hl.1 rfl (lv_room (Nat.le_of_ble_eq_true rfl)) dX1_answerOf_128 ⟨Nat.le_of_ble_eq_true rfl, Nat.le_of_ble_eq_true rfl⟩)) (fun r48 hw49 => ?_)
    subst hw49
    refine lv_goto (tgt := 138) hx hb dX1_answerOf_131 (by decide) ?_
    exact W.iret (v := (fWB (sT p0))) hx hb hr (fun tE ht hW => ⟨⟨(fWB (sT p0)), (sS, sP, sQ, sE, ec, sc, vl, LP, sT), rfl, by first | (simp only [sAns, sCall, uC, gS, gP, gQ, gE, gec, gsc, gvl, gL, gT, c1, c7, c13, c16, c19, c24, c25, c28, c34, c40, c43, eq_true c45, eq_self, ↓reduceIte, Bool.false_eq_true, Bool.not_false, Bool.not_true, Bool.and_true, Bool.and_false, Bool.true_and, Bool.false_and, decide_true, decide_false] <;> first | done | decide) | (simp only [sAns, sCall, uC, gS, gP, gQ, gE, gec, gsc, gvl, gL, gT, c1, c7, c13, c16, c19, c24, c25, c28, c34, c40, c43, c45, eq_self, ↓reduceIte, Bool.false_eq_true, Bool.not_false, Bool.not_true, Bool.and_true, Bool.and_false, Bool.true_and, Bool.false_and, decide_true, decide_false] <;> first | done | decide) | (simp [sAns, sCall, uC, gS, gP, gQ, gE, gec, gsc, gvl, gL, gT, c1, c7, c13, c16, c19, c24, c25, c28, c34, c40, c43, c45]; done) | (simp [sAns, sCall, uC, gS, gP, gQ, gE, gec, gsc, gvl, gL, gT, c1, c7, c13, c16, c19, c24, c25, c28, c34, c40, c43, eq_true c45]; done), by rw [ht]; exact hP, va_K.moved hW.alike hK, hD⟩, hS.F ht⟩) hS.2.2 dX1_answerOf_138
