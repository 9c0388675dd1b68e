set_option maxHeartbeats 8000000 in
set_option maxRecDepth 100000 in
theorem k_flow (l : Launch) (D : va_G) (F : XF) (u : XS) (sz : Nat) (p0 : Int32) (p1 : Int32) (p2 : Int32) : Met l yX1_flow wsX1_flow ({ frames := 2, cells := 0, slots := 0, locals := 46 }) (xPc D F u sz [.ref F.1, .int p0, .int p1, .int p2]) (va_Qi (fun (r : Int32) (v : XS) => (r, v) = sFlow u p0 p1 p2) (xB D F (va_A (xW F u) sz)) (va_A (xW F u) sz)) 0 0 (va_A (xW F u) sz) := by
  obtain ⟨sS, sP, sQ, sE, ec, sc, vl, LP, sT⟩ := u
  refine Met.ofW (cc := cX1_flow) (maxL := 4) (ret := (some .int)) (by decide) rfl ?_
  intro p e s m args below meth c s₁ B hml hv
  obtain ⟨rfl, hsz, hP, hK, hD0, hN, hZ⟩ := hv
  have hx := B.exec
  have hb := B.bytes
  have hr := B.returns
  have hts := atoms_spec (ws := wsX1_flow) B.pre
  have hown : s.vm.findClass RX1 = some m.cls := findClass_of_methodNamed B.named
  have hlocks := B.notSynchronized
  subst hsz
  have hD := hD0.self (sz := s.heap.size)
  generalize hAe : va_A (xW F (sS, sP, sQ, sE, ec, sc, vl, LP, sT)) s.heap.size = A at hD hZ ⊢
  have hA : ∀ q : Nat, s.heap.size ≤ q → A q := fun q h => by rw [← hAe]; exact Or.inr h
  have hS : va_S A s.heap s.heap [] := va_S.rf
  obtain ⟨tk, tm, tr, hztk, httk, hztm, httm, hztr, httr⟩ := id hZ
  refine xHeap (C := fun H => va_P D vwCl (xW F (sS, sP, sQ, sE, ec, sc, vl, LP, sT)) H ∧ va_S A s.heap H []) ⟨hP, hS⟩ (fun H hC => ?_)
  obtain ⟨hP, hS⟩ := hC
  have hl := lv_entry ([.ref F.1, .int p0, .int p1, .int p2]) (n := 4) (Nat.le_of_ble_eq_true rfl)
  rw [lg_entry_eq]
  generalize (lg_sl ([.ref F.1, .int p0, .int p1, .int p2]) ++ List.replicate (4 - (lg_sl ([.ref F.1, .int p0, .int p1, .int p2])).length) Slot.unset).toArray = ls at hl ⊢
  have hl : lv_has ls 4 [(0, .ref F.1), (1, .int p0), (2, .int p1), (3, .int p2)] := hl
  refine lv_iload_n hx hb dX1_flow_0 rfl (lv_at hl 1 rfl) ?_
  by_cases c1 : p0 = 0
  · refine lv_tableIn (off := 43) (tgt := 44) hx hb dX1_flow_1 (by rw [c1]; decide) (by rw [c1]; decide) (by rw [c1]; rfl) (by decide) ?_
    refine lv_aload_n hx hb dX1_flow_44 rfl (lv_at hl 0 rfl) ?_
    refine lv_aload_n hx hb dX1_flow_45 rfl (lv_at hl 0 rfl) ?_
    refine lv_iload_n hx hb dX1_flow_46 rfl (lv_at hl 2 rfl) ?_
    refine lv_iload_n hx hb dX1_flow_47 rfl (lv_at hl 3 rfl) ?_
    have hf2 := xFree hD hS hA
    refine va_calli (va_runV (As := [.int p1, .int p2]) (rest := [.ref F.1]) ⟨hx, hb, hml, hown, hts⟩ (k_divideNoting l D F (sS, sP, sQ, sE, ec, sc, vl, LP, sT)  H.size p1 p2) (cwV 2 hts gX1_flow_X1_divideNoting rfl rfl rfl (by decide +kernel) ⟨Nat.le_of_ble_eq_true rfl, Nat.le_of_ble_eq_true rfl⟩) (xPre hN hK hP hD hS hA hZ _) rfl rfl hl.1 rfl (lv_room (Nat.le_of_ble_eq_true rfl)) dX1_flow_48 ⟨Nat.le_of_ble_eq_true rfl, Nat.le_of_ble_eq_true rfl⟩) hS (fun q _ h => hf2 q h) hf2 (fun r3 v4 t6 H1 locs ht hvm hw5 hB hz1 hk1 hS => ?_)
    obtain ⟨hP1, hK1, hD1⟩ := hB
    rw [ht] at hP1
    replace hD1 := hD1.weaken (fun _ _ _ h => hf2 _ h)
    generalize H1 = H at hP1 hS ⊢
    obtain ⟨rfl, rfl⟩ := Prod.mk.inj (show (r3, v4) = ((if p2 = 0 then -1 else p1 / p2), (sS, sP, sQ, (upd sE (ec &&& 15).toNatClampNeg 1), (ec + 1), sc, vl, LP, sT)) from hw5)
    have hP : va_P D vwCl (xW F (sS, sP, sQ, (upd sE (ec &&& 15).toNatClampNeg 1), (ec + 1), sc, vl, LP, sT)) H := hP1
    have hD : va_D A (xW F (sS, sP, sQ, (upd sE (ec &&& 15).toNatClampNeg 1), (ec + 1), sc, vl, LP, sT)) := hD1
    have hf7 := xFree hD hS hA
    refine va_calli (va_runV (As := [.int (if p2 = 0 then -1 else p1 / p2)]) (rest := []) ⟨hx, hb, hml, hown, hts⟩ (k_wentWith l D F (sS, sP, sQ, (upd sE (ec &&& 15).toNatClampNeg 1), (ec + 1), sc, vl, LP, sT)  H.size (if p2 = 0 then -1 else p1 / p2)) (cwV 1 hts gX1_flow_X1_wentWith rfl rfl rfl (by decide +kernel) ⟨Nat.le_of_ble_eq_true rfl, Nat.le_of_ble_eq_true rfl⟩) (xPre hN hK hP hD hS hA hZ _) rfl rfl hl.1 rfl (lv_room (Nat.le_of_ble_eq_true rfl)) dX1_flow_51 ⟨Nat.le_of_ble_eq_true rfl, Nat.le_of_ble_eq_true rfl⟩) hS (fun q _ h => hf7 q h) hf7 (fun r8 v9 t11 H1 locs ht hvm hw10 hB hz1 hk1 hS => ?_)
    obtain ⟨hP1, hK1, hD1⟩ := hB
    rw [ht] at hP1
    replace hD1 := hD1.weaken (fun _ _ _ h => hf7 _ h)
    generalize H1 = H at hP1 hS ⊢
    obtain ⟨rfl, rfl⟩ := Prod.mk.inj (show (r8, v9) = (0, (sS, sP, sQ, (upd sE (ec &&& 15).toNatClampNeg 1), (ec + 1), sc, (if p2 = 0 then -1 else p1 / p2), LP, sT)) from hw10)
    have hP : va_P D vwCl (xW F (sS, sP, sQ, (upd sE (ec &&& 15).toNatClampNeg 1), (ec + 1), sc, (if p2 = 0 then -1 else p1 / p2), LP, sT)) H := hP1
    have hD : va_D A (xW F (sS, sP, sQ, (upd sE (ec &&& 15).toNatClampNeg 1), (ec + 1), sc, (if p2 = 0 then -1 else p1 / p2), LP, sT)) := hD1
    exact W.iret (v := 0) hx hb hr (fun tE ht hW => ⟨⟨0, (sS, sP, sQ, (upd sE (ec &&& 15).toNatClampNeg 1), (ec + 1), sc, (if p2 = 0 then -1 else p1 / p2), LP, sT), rfl, by first | (simp only [sFlow, sGo, uV, sDiv, uN, gS, gP, gQ, gE, gec, gsc, gvl, gL, gT, eq_true c1, eq_self, ↓reduceIte, Bool.false_eq_true, Bool.not_false, Bool.not_true, Bool.and_true, Bool.and_false, Bool.true_and, Bool.false_and, decide_true, decide_false] <;> first | done | decide) | (simp only [sFlow, sGo, uV, sDiv, uN, gS, gP, gQ, gE, gec, gsc, gvl, gL, gT, c1, eq_self, ↓reduceIte, Bool.false_eq_true, Bool.not_false, Bool.not_true, Bool.and_true, Bool.and_false, Bool.true_and, Bool.false_and, decide_true, decide_false] <;> first | done | decide) | (simp [sFlow, sGo, uV, sDiv, uN, gS, gP, gQ, gE, gec, gsc, gvl, gL, gT, c1]; done) | (simp [sFlow, sGo, uV, sDiv, uN, gS, gP, gQ, gE, gec, gsc, gvl, gL, gT, eq_true c1]; done), by rw [ht]; exact hP, va_K.moved hW.alike hK, hD⟩, hS.F ht⟩) hS.2.2 dX1_flow_54
  by_cases c12 : p0 = 1
  · refine lv_tableIn (off := 54) (tgt := 55) hx hb dX1_flow_1 (by rw [c12]; decide) (by rw [c12]; decide) (by rw [c12]; rfl) (by decide) ?_
    refine lv_aload_n hx hb dX1_flow_55 rfl (lv_at hl 0 rfl) ?_
    refine lv_aload_n hx hb dX1_flow_56 rfl (lv_at hl 0 rfl) ?_
    refine lv_iload_n hx hb dX1_flow_57 rfl (lv_at hl 2 rfl) ?_
    refine lv_bipush (v := 7) hx hb dX1_flow_58 (by decide) ?_
    refine lv_iand hx hb dX1_flow_60 ?_
    refine lv_iload_n hx hb dX1_flow_61 rfl (lv_at hl 3 rfl) ?_
    refine lv_bipush (v := 7) hx hb dX1_flow_62 (by decide) ?_
    refine lv_iand hx hb dX1_flow_64 ?_
    have hf13 := xFree hD hS hA
    refine va_calli (va_runV (As := [.int (p1 &&& 7), .int (p2 &&& 7)]) (rest := [.ref F.1]) ⟨hx, hb, hml, hown, hts⟩ (k_countTurns l D F (sS, sP, sQ, sE, ec, sc, vl, LP, sT)  H.size (p1 &&& 7) (p2 &&& 7)) (cwV 2 hts gX1_flow_X1_countTurns rfl rfl rfl (by decide +kernel) ⟨Nat.le_of_ble_eq_true rfl, Nat.le_of_ble_eq_true rfl⟩) (xPre hN hK hP hD hS hA hZ _) rfl rfl hl.1 rfl (lv_room (Nat.le_of_ble_eq_true rfl)) dX1_flow_65 ⟨Nat.le_of_ble_eq_true rfl, Nat.le_of_ble_eq_true rfl⟩) hS (fun q _ h => hf13 q h) hf13 (fun r14 v15 t17 H1 locs ht hvm hw16 hB hz1 hk1 hS => ?_)
    obtain ⟨hP1, hK1, hD1⟩ := hB
    rw [ht] at hP1
    replace hD1 := hD1.weaken (fun _ _ _ h => hf13 _ h)
    generalize H1 = H at hP1 hS ⊢
    obtain ⟨rfl, rfl⟩ := Prod.mk.inj (show (r14, v15) = ((sTurn (sS, sP, sQ, sE, ec, sc, vl, LP, sT) (p1 &&& 7) (p2 &&& 7)).1, ((sTurn (sS, sP, sQ, sE, ec, sc, vl, LP, sT) (p1 &&& 7) (p2 &&& 7)).2.1, (sTurn (sS, sP, sQ, sE, ec, sc, vl, LP, sT) (p1 &&& 7) (p2 &&& 7)).2.2.1, (sTurn (sS, sP, sQ, sE, ec, sc, vl, LP, sT) (p1 &&& 7) (p2 &&& 7)).2.2.2.1, (sTurn (sS, sP, sQ, sE, ec, sc, vl, LP, sT) (p1 &&& 7) (p2 &&& 7)).2.2.2.2.1, (sTurn (sS, sP, sQ, sE, ec, sc, vl, LP, sT) (p1 &&& 7) (p2 &&& 7)).2.2.2.2.2.1, (sTurn (sS, sP, sQ, sE, ec, sc, vl, LP, sT) (p1 &&& 7) (p2 &&& 7)).2.2.2.2.2.2.1, (sTurn (sS, sP, sQ, sE, ec, sc, vl, LP, sT) (p1 &&& 7) (p2 &&& 7)).2.2.2.2.2.2.2.1, (sTurn (sS, sP, sQ, sE, ec, sc, vl, LP, sT) (p1 &&& 7) (p2 &&& 7)).2.2.2.2.2.2.2.2.1, (sTurn (sS, sP, sQ, sE, ec, sc, vl, LP, sT) (p1 &&& 7) (p2 &&& 7)).2.2.2.2.2.2.2.2.2)) from hw16)
    have hP : va_P D vwCl (xW F ((sTurn (sS, sP, sQ, sE, ec, sc, vl, LP, sT) (p1 &&& 7) (p2 &&& 7)).2.1, (sTurn (sS, sP, sQ, sE, ec, sc, vl, LP, sT) (p1 &&& 7) (p2 &&& 7)).2.2.1, (sTurn (sS, sP, sQ, sE, ec, sc, vl, LP, sT) (p1 &&& 7) (p2 &&& 7)).2.2.2.1, (sTurn (sS, sP, sQ, sE, ec, sc, vl, LP, sT) (p1 &&& 7) (p2 &&& 7)).2.2.2.2.1, (sTurn (sS, sP, sQ, sE, ec, sc, vl, LP, sT) (p1 &&& 7) (p2 &&& 7)).2.2.2.2.2.1, (sTurn (sS, sP, sQ, sE, ec, sc, vl, LP, sT) (p1 &&& 7) (p2 &&& 7)).2.2.2.2.2.2.1, (sTurn (sS, sP, sQ, sE, ec, sc, vl, LP, sT) (p1 &&& 7) (p2 &&& 7)).2.2.2.2.2.2.2.1, (sTurn (sS, sP, sQ, sE, ec, sc, vl, LP, sT) (p1 &&& 7) (p2 &&& 7)).2.2.2.2.2.2.2.2.1, (sTurn (sS, sP, sQ, sE, ec, sc, vl, LP, sT) (p1 &&& 7) (p2 &&& 7)).2.2.2.2.2.2.2.2.2)) H := hP1
    have hD : va_D A (xW F ((sTurn (sS, sP, sQ, sE, ec, sc, vl, LP, sT) (p1 &&& 7) (p2 &&& 7)).2.1, (sTurn (sS, sP, sQ, sE, ec, sc, vl, LP, sT) (p1 &&& 7) (p2 &&& 7)).2.2.1, (sTurn (sS, sP, sQ, sE, ec, sc, vl, LP, sT) (p1 &&& 7) (p2 &&& 7)).2.2.2.1, (sTurn (sS, sP, sQ, sE, ec, sc, vl, LP, sT) (p1 &&& 7) (p2 &&& 7)).2.2.2.2.1, (sTurn (sS, sP, sQ, sE, ec, sc, vl, LP, sT) (p1 &&& 7) (p2 &&& 7)).2.2.2.2.2.1, (sTurn (sS, sP, sQ, sE, ec, sc, vl, LP, sT) (p1 &&& 7) (p2 &&& 7)).2.2.2.2.2.2.1, (sTurn (sS, sP, sQ, sE, ec, sc, vl, LP, sT) (p1 &&& 7) (p2 &&& 7)).2.2.2.2.2.2.2.1, (sTurn (sS, sP, sQ, sE, ec, sc, vl, LP, sT) (p1 &&& 7) (p2 &&& 7)).2.2.2.2.2.2.2.2.1, (sTurn (sS, sP, sQ, sE, ec, sc, vl, LP, sT) (p1 &&& 7) (p2 &&& 7)).2.2.2.2.2.2.2.2.2)) := hD1
    have hf18 := xFree hD hS hA
    refine va_calli (va_runV (As := [.int ((sTurn (sS, sP, sQ, sE, ec, sc, vl, LP, sT) (p1 &&& 7) (p2 &&& 7)).1)]) (rest := []) ⟨hx, hb, hml, hown, hts⟩ (k_wentWith l D F ((sTurn (sS, sP, sQ, sE, ec, sc, vl, LP, sT) (p1 &&& 7) (p2 &&& 7)).2.1, (sTurn (sS, sP, sQ, sE, ec, sc, vl, LP, sT) (p1 &&& 7) (p2 &&& 7)).2.2.1, (sTurn (sS, sP, sQ, sE, ec, sc, vl, LP, sT) (p1 &&& 7) (p2 &&& 7)).2.2.2.1, (sTurn (sS, sP, sQ, sE, ec, sc, vl, LP, sT) (p1 &&& 7) (p2 &&& 7)).2.2.2.2.1, (sTurn (sS, sP, sQ, sE, ec, sc, vl, LP, sT) (p1 &&& 7) (p2 &&& 7)).2.2.2.2.2.1, (sTurn (sS, sP, sQ, sE, ec, sc, vl, LP, sT) (p1 &&& 7) (p2 &&& 7)).2.2.2.2.2.2.1, (sTurn (sS, sP, sQ, sE, ec, sc, vl, LP, sT) (p1 &&& 7) (p2 &&& 7)).2.2.2.2.2.2.2.1, (sTurn (sS, sP, sQ, sE, ec, sc, vl, LP, sT) (p1 &&& 7) (p2 &&& 7)).2.2.2.2.2.2.2.2.1, (sTurn (sS, sP, sQ, sE, ec, sc, vl, LP, sT) (p1 &&& 7) (p2 &&& 7)).2.2.2.2.2.2.2.2.2)  H.size ((sTurn (sS, sP, sQ, sE, ec, sc, vl, LP, sT) (p1 &&& 7) (p2 &&& 7)).1)) (cwV 1 hts gX1_flow_X1_wentWith rfl rfl rfl (by decide +kernel) ⟨Nat.le_of_ble_eq_true rfl, Nat.le_of_ble_eq_true rfl⟩) (xPre hN hK hP hD hS hA hZ _) rfl rfl hl.1 rfl (lv_room (Nat.le_of_ble_eq_true rfl)) dX1_flow_68 ⟨Nat.le_of_ble_eq_true rfl, Nat.le_of_ble_eq_true rfl⟩) hS (fun q _ h => hf18 q h) hf18 (fun r19 v20 t22 H1 locs ht hvm hw21 hB hz1 hk1 hS => ?_)
    obtain ⟨hP1, hK1, hD1⟩ := hB
    rw [ht] at hP1
    replace hD1 := hD1.weaken (fun _ _ _ h => hf18 _ h)
    generalize H1 = H at hP1 hS ⊢
    obtain ⟨rfl, rfl⟩ := Prod.mk.inj (show (r19, v20) = (0, ((sTurn (sS, sP, sQ, sE, ec, sc, vl, LP, sT) (p1 &&& 7) (p2 &&& 7)).2.1, (sTurn (sS, sP, sQ, sE, ec, sc, vl, LP, sT) (p1 &&& 7) (p2 &&& 7)).2.2.1, (sTurn (sS, sP, sQ, sE, ec, sc, vl, LP, sT) (p1 &&& 7) (p2 &&& 7)).2.2.2.1, (sTurn (sS, sP, sQ, sE, ec, sc, vl, LP, sT) (p1 &&& 7) (p2 &&& 7)).2.2.2.2.1, (sTurn (sS, sP, sQ, sE, ec, sc, vl, LP, sT) (p1 &&& 7) (p2 &&& 7)).2.2.2.2.2.1, (sTurn (sS, sP, sQ, sE, ec, sc, vl, LP, sT) (p1 &&& 7) (p2 &&& 7)).2.2.2.2.2.2.1, ((sTurn (sS, sP, sQ, sE, ec, sc, vl, LP, sT) (p1 &&& 7) (p2 &&& 7)).1), (sTurn (sS, sP, sQ, sE, ec, sc, vl, LP, sT) (p1 &&& 7) (p2 &&& 7)).2.2.2.2.2.2.2.2.1, (sTurn (sS, sP, sQ, sE, ec, sc, vl, LP, sT) (p1 &&& 7) (p2 &&& 7)).2.2.2.2.2.2.2.2.2)) from hw21)
    have hP : va_P D vwCl (xW F ((sTurn (sS, sP, sQ, sE, ec, sc, vl, LP, sT) (p1 &&& 7) (p2 &&& 7)).2.1, (sTurn (sS, sP, sQ, sE, ec, sc, vl, LP, sT) (p1 &&& 7) (p2 &&& 7)).2.2.1, (sTurn (sS, sP, sQ, sE, ec, sc, vl, LP, sT) (p1 &&& 7) (p2 &&& 7)).2.2.2.1, (sTurn (sS, sP, sQ, sE, ec, sc, vl, LP, sT) (p1 &&& 7) (p2 &&& 7)).2.2.2.2.1, (sTurn (sS, sP, sQ, sE, ec, sc, vl, LP, sT) (p1 &&& 7) (p2 &&& 7)).2.2.2.2.2.1, (sTurn (sS, sP, sQ, sE, ec, sc, vl, LP, sT) (p1 &&& 7) (p2 &&& 7)).2.2.2.2.2.2.1, ((sTurn (sS, sP, sQ, sE, ec, sc, vl, LP, sT) (p1 &&& 7) (p2 &&& 7)).1), (sTurn (sS, sP, sQ, sE, ec, sc, vl, LP, sT) (p1 &&& 7) (p2 &&& 7)).2.2.2.2.2.2.2.2.1, (sTurn (sS, sP, sQ, sE, ec, sc, vl, LP, sT) (p1 &&& 7) (p2 &&& 7)).2.2.2.2.2.2.2.2.2)) H := hP1
    have hD : va_D A (xW F ((sTurn (sS, sP, sQ, sE, ec, sc, vl, LP, sT) (p1 &&& 7) (p2 &&& 7)).2.1, (sTurn (sS, sP, sQ, sE, ec, sc, vl, LP, sT) (p1 &&& 7) (p2 &&& 7)).2.2.1, (sTurn (sS, sP, sQ, sE, ec, sc, vl, LP, sT) (p1 &&& 7) (p2 &&& 7)).2.2.2.1, (sTurn (sS, sP, sQ, sE, ec, sc, vl, LP, sT) (p1 &&& 7) (p2 &&& 7)).2.2.2.2.1, (sTurn (sS, sP, sQ, sE, ec, sc, vl, LP, sT) (p1 &&& 7) (p2 &&& 7)).2.2.2.2.2.1, (sTurn (sS, sP, sQ, sE, ec, sc, vl, LP, sT) (p1 &&& 7) (p2 &&& 7)).2.2.2.2.2.2.1, ((sTurn (sS, sP, sQ, sE, ec, sc, vl, LP, sT) (p1 &&& 7) (p2 &&& 7)).1), (sTurn (sS, sP, sQ, sE, ec, sc, vl, LP, sT) (p1 &&& 7) (p2 &&& 7)).2.2.2.2.2.2.2.2.1, (sTurn (sS, sP, sQ, sE, ec, sc, vl, LP, sT) (p1 &&& 7) (p2 &&& 7)).2.2.2.2.2.2.2.2.2)) := hD1
    exact W.iret (v := 0) hx hb hr (fun tE ht hW => ⟨⟨0, ((sTurn (sS, sP, sQ, sE, ec, sc, vl, LP, sT) (p1 &&& 7) (p2 &&& 7)).2.1, (sTurn (sS, sP, sQ, sE, ec, sc, vl, LP, sT) (p1 &&& 7) (p2 &&& 7)).2.2.1, (sTurn (sS, sP, sQ, sE, ec, sc, vl, LP, sT) (p1 &&& 7) (p2 &&& 7)).2.2.2.1, (sTurn (sS, sP, sQ, sE, ec, sc, vl, LP, sT) (p1 &&& 7) (p2 &&& 7)).2.2.2.2.1, (sTurn (sS, sP, sQ, sE, ec, sc, vl, LP, sT) (p1 &&& 7) (p2 &&& 7)).2.2.2.2.2.1, (sTurn (sS, sP, sQ, sE, ec, sc, vl, LP, sT) (p1 &&& 7) (p2 &&& 7)).2.2.2.2.2.2.1, ((sTurn (sS, sP, sQ, sE, ec, sc, vl, LP, sT) (p1 &&& 7) (p2 &&& 7)).1), (sTurn (sS, sP, sQ, sE, ec, sc, vl, LP, sT) (p1 &&& 7) (p2 &&& 7)).2.2.2.2.2.2.2.2.1, (sTurn (sS, sP, sQ, sE, ec, sc, vl, LP, sT) (p1 &&& 7) (p2 &&& 7)).2.2.2.2.2.2.2.2.2), rfl, by first | (simp only [sFlow, sGo, uV, sDiv, uN, gS, gP, gQ, gE, gec, gsc, gvl, gL, gT, c1, eq_true c12, eq_self, ↓reduceIte, Bool.false_eq_true, Bool.not_false, Bool.not_true, Bool.and_true, Bool.and_false, Bool.true_and, Bool.false_and, decide_true, decide_false] <;> first | done | decide) | (simp only [sFlow, sGo, uV, sDiv, uN, gS, gP, gQ, gE, gec, gsc, gvl, gL, gT, c1, c12, eq_self, ↓reduceIte, Bool.false_eq_true, Bool.not_false, Bool.not_true, Bool.and_true, Bool.and_false, Bool.true_and, Bool.false_and, decide_true, decide_false] <;> first | done | decide) | (simp [sFlow, sGo, uV, sDiv, uN, gS, gP, gQ, gE, gec, gsc, gvl, gL, gT, c1, c12]; done) | (simp [sFlow, sGo, uV, sDiv, uN, gS, gP, gQ, gE, gec, gsc, gvl, gL, gT, c1, eq_true c12]; done), by rw [ht]; exact hP, va_K.moved hW.alike hK, hD⟩, hS.F ht⟩) hS.2.2 dX1_flow_71
  by_cases c23 : p0 = 2
  · refine lv_tableIn (off := 71) (tgt := 72) hx hb dX1_flow_1 (by rw [c23]; decide) (by rw [c23]; decide) (by rw [c23]; rfl) (by decide) ?_
    refine lv_aload_n hx hb dX1_flow_72 rfl (lv_at hl 0 rfl) ?_
    refine lv_aload_n hx hb dX1_flow_73 rfl (lv_at hl 0 rfl) ?_
    refine lv_iload_n hx hb dX1_flow_74 rfl (lv_at hl 2 rfl) ?_
    refine lv_iload_n hx hb dX1_flow_75 rfl (lv_at hl 3 rfl) ?_
    have hf24 := xFree hD hS hA
    refine va_calli (va_runV (As := [.int p1, .int p2]) (rest := [.ref F.1]) ⟨hx, hb, hml, hown, hts⟩ (k_openWorkClose l D F (sS, sP, sQ, sE, ec, sc, vl, LP, sT)  H.size p1 p2) (cwV 2 hts gX1_flow_X1_openWorkClose rfl rfl rfl (by decide +kernel) ⟨Nat.le_of_ble_eq_true rfl, Nat.le_of_ble_eq_true rfl⟩) (xPre hN hK hP hD hS hA hZ _) rfl rfl hl.1 rfl (lv_room (Nat.le_of_ble_eq_true rfl)) dX1_flow_76 ⟨Nat.le_of_ble_eq_true rfl, Nat.le_of_ble_eq_true rfl⟩) hS (fun q _ h => hf24 q h) hf24 (fun r25 v26 t28 H1 locs ht hvm hw27 hB hz1 hk1 hS => ?_)
    obtain ⟨hP1, hK1, hD1⟩ := hB
    rw [ht] at hP1
    replace hD1 := hD1.weaken (fun _ _ _ h => hf24 _ h)
    generalize H1 = H at hP1 hS ⊢
    obtain ⟨rfl, rfl⟩ := Prod.mk.inj (show (r25, v26) = ((sOpen (sS, sP, sQ, sE, ec, sc, vl, LP, sT) p1 p2).1, ((sOpen (sS, sP, sQ, sE, ec, sc, vl, LP, sT) p1 p2).2.1, (sOpen (sS, sP, sQ, sE, ec, sc, vl, LP, sT) p1 p2).2.2.1, (sOpen (sS, sP, sQ, sE, ec, sc, vl, LP, sT) p1 p2).2.2.2.1, (sOpen (sS, sP, sQ, sE, ec, sc, vl, LP, sT) p1 p2).2.2.2.2.1, (sOpen (sS, sP, sQ, sE, ec, sc, vl, LP, sT) p1 p2).2.2.2.2.2.1, (sOpen (sS, sP, sQ, sE, ec, sc, vl, LP, sT) p1 p2).2.2.2.2.2.2.1, (sOpen (sS, sP, sQ, sE, ec, sc, vl, LP, sT) p1 p2).2.2.2.2.2.2.2.1, (sOpen (sS, sP, sQ, sE, ec, sc, vl, LP, sT) p1 p2).2.2.2.2.2.2.2.2.1, (sOpen (sS, sP, sQ, sE, ec, sc, vl, LP, sT) p1 p2).2.2.2.2.2.2.2.2.2)) from hw27)
    have hP : va_P D vwCl (xW F ((sOpen (sS, sP, sQ, sE, ec, sc, vl, LP, sT) p1 p2).2.1, (sOpen (sS, sP, sQ, sE, ec, sc, vl, LP, sT) p1 p2).2.2.1, (sOpen (sS, sP, sQ, sE, ec, sc, vl, LP, sT) p1 p2).2.2.2.1, (sOpen (sS, sP, sQ, sE, ec, sc, vl, LP, sT) p1 p2).2.2.2.2.1, (sOpen (sS, sP, sQ, sE, ec, sc, vl, LP, sT) p1 p2).2.2.2.2.2.1, (sOpen (sS, sP, sQ, sE, ec, sc, vl, LP, sT) p1 p2).2.2.2.2.2.2.1, (sOpen (sS, sP, sQ, sE, ec, sc, vl, LP, sT) p1 p2).2.2.2.2.2.2.2.1, (sOpen (sS, sP, sQ, sE, ec, sc, vl, LP, sT) p1 p2).2.2.2.2.2.2.2.2.1, (sOpen (sS, sP, sQ, sE, ec, sc, vl, LP, sT) p1 p2).2.2.2.2.2.2.2.2.2)) H := hP1
    have hD : va_D A (xW F ((sOpen (sS, sP, sQ, sE, ec, sc, vl, LP, sT) p1 p2).2.1, (sOpen (sS, sP, sQ, sE, ec, sc, vl, LP, sT) p1 p2).2.2.1, (sOpen (sS, sP, sQ, sE, ec, sc, vl, LP, sT) p1 p2).2.2.2.1, (sOpen (sS, sP, sQ, sE, ec, sc, vl, LP, sT) p1 p2).2.2.2.2.1, (sOpen (sS, sP, sQ, sE, ec, sc, vl, LP, sT) p1 p2).2.2.2.2.2.1, (sOpen (sS, sP, sQ, sE, ec, sc, vl, LP, sT) p1 p2).2.2.2.2.2.2.1, (sOpen (sS, sP, sQ, sE, ec, sc, vl, LP, sT) p1 p2).2.2.2.2.2.2.2.1, (sOpen (sS, sP, sQ, sE, ec, sc, vl, LP, sT) p1 p2).2.2.2.2.2.2.2.2.1, (sOpen (sS, sP, sQ, sE, ec, sc, vl, LP, sT) p1 p2).2.2.2.2.2.2.2.2.2)) := hD1
    have hf29 := xFree hD hS hA
    refine va_calli (va_runV (As := [.int ((sOpen (sS, sP, sQ, sE, ec, sc, vl, LP, sT) p1 p2).1)]) (rest := []) ⟨hx, hb, hml, hown, hts⟩ (k_wentWith l D F ((sOpen (sS, sP, sQ, sE, ec, sc, vl, LP, sT) p1 p2).2.1, (sOpen (sS, sP, sQ, sE, ec, sc, vl, LP, sT) p1 p2).2.2.1, (sOpen (sS, sP, sQ, sE, ec, sc, vl, LP, sT) p1 p2).2.2.2.1, (sOpen (sS, sP, sQ, sE, ec, sc, vl, LP, sT) p1 p2).2.2.2.2.1, (sOpen (sS, sP, sQ, sE, ec, sc, vl, LP, sT) p1 p2).2.2.2.2.2.1, (sOpen (sS, sP, sQ, sE, ec, sc, vl, LP, sT) p1 p2).2.2.2.2.2.2.1, (sOpen (sS, sP, sQ, sE, ec, sc, vl, LP, sT) p1 p2).2.2.2.2.2.2.2.1, (sOpen (sS, sP, sQ, sE, ec, sc, vl, LP, sT) p1 p2).2.2.2.2.2.2.2.2.1, (sOpen (sS, sP, sQ, sE, ec, sc, vl, LP, sT) p1 p2).2.2.2.2.2.2.2.2.2)  H.size ((sOpen (sS, sP, sQ, sE, ec, sc, vl, LP, sT) p1 p2).1)) (cwV 1 hts gX1_flow_X1_wentWith rfl rfl rfl (by decide +kernel) ⟨Nat.le_of_ble_eq_true rfl, Nat.le_of_ble_eq_true rfl⟩) (xPre hN hK hP hD hS hA hZ _) rfl rfl hl.1 rfl (lv_room (Nat.le_of_ble_eq_true rfl)) dX1_flow_79 ⟨Nat.le_of_ble_eq_true rfl, Nat.le_of_ble_eq_true rfl⟩) hS (fun q _ h => hf29 q h) hf29 (fun r30 v31 t33 H1 locs ht hvm hw32 hB hz1 hk1 hS => ?_)
    obtain ⟨hP1, hK1, hD1⟩ := hB
    rw [ht] at hP1
    replace hD1 := hD1.weaken (fun _ _ _ h => hf29 _ h)
    generalize H1 = H at hP1 hS ⊢
    obtain ⟨rfl, rfl⟩ := Prod.mk.inj (show (r30, v31) = (0, ((sOpen (sS, sP, sQ, sE, ec, sc, vl, LP, sT) p1 p2).2.1, (sOpen (sS, sP, sQ, sE, ec, sc, vl, LP, sT) p1 p2).2.2.1, (sOpen (sS, sP, sQ, sE, ec, sc, vl, LP, sT) p1 p2).2.2.2.1, (sOpen (sS, sP, sQ, sE, ec, sc, vl, LP, sT) p1 p2).2.2.2.2.1, (sOpen (sS, sP, sQ, sE, ec, sc, vl, LP, sT) p1 p2).2.2.2.2.2.1, (sOpen (sS, sP, sQ, sE, ec, sc, vl, LP, sT) p1 p2).2.2.2.2.2.2.1, ((sOpen (sS, sP, sQ, sE, ec, sc, vl, LP, sT) p1 p2).1), (sOpen (sS, sP, sQ, sE, ec, sc, vl, LP, sT) p1 p2).2.2.2.2.2.2.2.2.1, (sOpen (sS, sP, sQ, sE, ec, sc, vl, LP, sT) p1 p2).2.2.2.2.2.2.2.2.2)) from hw32)
    have hP : va_P D vwCl (xW F ((sOpen (sS, sP, sQ, sE, ec, sc, vl, LP, sT) p1 p2).2.1, (sOpen (sS, sP, sQ, sE, ec, sc, vl, LP, sT) p1 p2).2.2.1, (sOpen (sS, sP, sQ, sE, ec, sc, vl, LP, sT) p1 p2).2.2.2.1, (sOpen (sS, sP, sQ, sE, ec, sc, vl, LP, sT) p1 p2).2.2.2.2.1, (sOpen (sS, sP, sQ, sE, ec, sc, vl, LP, sT) p1 p2).2.2.2.2.2.1, (sOpen (sS, sP, sQ, sE, ec, sc, vl, LP, sT) p1 p2).2.2.2.2.2.2.1, ((sOpen (sS, sP, sQ, sE, ec, sc, vl, LP, sT) p1 p2).1), (sOpen (sS, sP, sQ, sE, ec, sc, vl, LP, sT) p1 p2).2.2.2.2.2.2.2.2.1, (sOpen (sS, sP, sQ, sE, ec, sc, vl, LP, sT) p1 p2).2.2.2.2.2.2.2.2.2)) H := hP1
    have hD : va_D A (xW F ((sOpen (sS, sP, sQ, sE, ec, sc, vl, LP, sT) p1 p2).2.1, (sOpen (sS, sP, sQ, sE, ec, sc, vl, LP, sT) p1 p2).2.2.1, (sOpen (sS, sP, sQ, sE, ec, sc, vl, LP, sT) p1 p2).2.2.2.1, (sOpen (sS, sP, sQ, sE, ec, sc, vl, LP, sT) p1 p2).2.2.2.2.1, (sOpen (sS, sP, sQ, sE, ec, sc, vl, LP, sT) p1 p2).2.2.2.2.2.1, (sOpen (sS, sP, sQ, sE, ec, sc, vl, LP, sT) p1 p2).2.2.2.2.2.2.1, ((sOpen (sS, sP, sQ, sE, ec, sc, vl, LP, sT) p1 p2).1), (sOpen (sS, sP, sQ, sE, ec, sc, vl, LP, sT) p1 p2).2.2.2.2.2.2.2.2.1, (sOpen (sS, sP, sQ, sE, ec, sc, vl, LP, sT) p1 p2).2.2.2.2.2.2.2.2.2)) := hD1
    exact W.iret (v := 0) hx hb hr (fun tE ht hW => ⟨⟨0, ((sOpen (sS, sP, sQ, sE, ec, sc, vl, LP, sT) p1 p2).2.1, (sOpen (sS, sP, sQ, sE, ec, sc, vl, LP, sT) p1 p2).2.2.1, (sOpen (sS, sP, sQ, sE, ec, sc, vl, LP, sT) p1 p2).2.2.2.1, (sOpen (sS, sP, sQ, sE, ec, sc, vl, LP, sT) p1 p2).2.2.2.2.1, (sOpen (sS, sP, sQ, sE, ec, sc, vl, LP, sT) p1 p2).2.2.2.2.2.1, (sOpen (sS, sP, sQ, sE, ec, sc, vl, LP, sT) p1 p2).2.2.2.2.2.2.1, ((sOpen (sS, sP, sQ, sE, ec, sc, vl, LP, sT) p1 p2).1), (sOpen (sS, sP, sQ, sE, ec, sc, vl, LP, sT) p1 p2).2.2.2.2.2.2.2.2.1, (sOpen (sS, sP, sQ, sE, ec, sc, vl, LP, sT) p1 p2).2.2.2.2.2.2.2.2.2), rfl, by first | (simp only [sFlow, sGo, uV, sDiv, uN, gS, gP, gQ, gE, gec, gsc, gvl, gL, gT, c1, c12, eq_true c23, eq_self, ↓reduceIte, Bool.false_eq_true, Bool.not_false, Bool.not_true, Bool.and_true, Bool.and_false, Bool.true_and, Bool.false_and, decide_true, decide_false] <;> first | done | decide) | (simp only [sFlow, sGo, uV, sDiv, uN, gS, gP, gQ, gE, gec, gsc, gvl, gL, gT, c1, c12, c23, eq_self, ↓reduceIte, Bool.false_eq_true, Bool.not_false, Bool.not_true, Bool.and_true, Bool.and_false, Bool.true_and, Bool.false_and, decide_true, decide_false] <;> first | done | decide) | (simp [sFlow, sGo, uV, sDiv, uN, gS, gP, gQ, gE, gec, gsc, gvl, gL, gT, c1, c12, c23]; done) | (simp [sFlow, sGo, uV, sDiv, uN, gS, gP, gQ, gE, gec, gsc, gvl, gL, gT, c1, c12, eq_true c23]; done), by rw [ht]; exact hP, va_K.moved hW.alike hK, hD⟩, hS.F ht⟩) hS.2.2 dX1_flow_82
  by_cases c34 : p0 = 3
  · refine lv_tableIn (off := 82) (tgt := 83) hx hb dX1_flow_1 (by rw [c34]; decide) (by rw [c34]; decide) (by rw [c34]; rfl) (by decide) ?_
    refine lv_aload_n hx hb dX1_flow_83 rfl (lv_at hl 0 rfl) ?_
    refine lv_iload_n hx hb dX1_flow_84 rfl (lv_at hl 2 rfl) ?_
    refine lv_iload_n hx hb dX1_flow_85 rfl (lv_at hl 3 rfl) ?_
    refine lv_iconst (v := 3) hx hb dX1_flow_86 (by decide) ?_
    refine lv_iand hx hb dX1_flow_87 ?_
    refine vp_callSi (va_Run.run (va_runS (As := [.int p1, .int (p2 &&& 3)]) (rest := [.ref F.1]) ⟨hx, hb, hml, hown, hts⟩ (k_workByWord l p1 (p2 &&& 3)) (va_cwS 2 hts gX1_flow_X1_workByWord rfl rfl rfl (by decide +kernel) ⟨Nat.le_of_ble_eq_true rfl, Nat.le_of_ble_eq_true rfl⟩) preEq rfl rfl hl.1 rfl (lv_room (Nat.le_of_ble_eq_true rfl)) dX1_flow_88 ⟨Nat.le_of_ble_eq_true rfl, Nat.le_of_ble_eq_true rfl⟩)) (fun r35 hw36 => ?_)
    subst hw36
    have hf37 := xFree hD hS hA
    refine va_calli (va_runV (As := [.int (fWord p1 (p2 &&& 3))]) (rest := []) ⟨hx, hb, hml, hown, hts⟩ (k_wentWith l D F (sS, sP, sQ, sE, ec, sc, vl, LP, sT)  H.size (fWord p1 (p2 &&& 3))) (cwV 1 hts gX1_flow_X1_wentWith rfl rfl rfl (by decide +kernel) ⟨Nat.le_of_ble_eq_true rfl, Nat.le_of_ble_eq_true rfl⟩) (xPre hN hK hP hD hS hA hZ _) rfl rfl hl.1 rfl (lv_room (Nat.le_of_ble_eq_true rfl)) dX1_flow_91 ⟨Nat.le_of_ble_eq_true rfl, Nat.le_of_ble_eq_true rfl⟩) hS (fun q _ h => hf37 q h) hf37 (fun r38 v39 t41 H1 locs ht hvm hw40 hB hz1 hk1 hS => ?_)
    obtain ⟨hP1, hK1, hD1⟩ := hB
    rw [ht] at hP1
    replace hD1 := hD1.weaken (fun _ _ _ h => hf37 _ h)
    generalize H1 = H at hP1 hS ⊢
    obtain ⟨rfl, rfl⟩ := Prod.mk.inj (show (r38, v39) = (0, (sS, sP, sQ, sE, ec, sc, (fWord p1 (p2 &&& 3)), LP, sT)) from hw40)
    have hP : va_P D vwCl (xW F (sS, sP, sQ, sE, ec, sc, (fWord p1 (p2 &&& 3)), LP, sT)) H := hP1
    have hD : va_D A (xW F (sS, sP, sQ, sE, ec, sc, (fWord p1 (p2 &&& 3)), LP, sT)) := hD1
    exact W.iret (v := 0) hx hb hr (fun tE ht hW => ⟨⟨0, (sS, sP, sQ, sE, ec, sc, (fWord p1 (p2 &&& 3)), LP, sT), rfl, by first | (simp only [sFlow, sGo, uV, sDiv, uN, gS, gP, gQ, gE, gec, gsc, gvl, gL, gT, c1, c12, c23, eq_true c34, eq_self, ↓reduceIte, Bool.false_eq_true, Bool.not_false, Bool.not_true, Bool.and_true, Bool.and_false, Bool.true_and, Bool.false_and, decide_true, decide_false] <;> first | done | decide) | (simp only [sFlow, sGo, uV, sDiv, uN, gS, gP, gQ, gE, gec, gsc, gvl, gL, gT, c1, c12, c23, c34, eq_self, ↓reduceIte, Bool.false_eq_true, Bool.not_false, Bool.not_true, Bool.and_true, Bool.and_false, Bool.true_and, Bool.false_and, decide_true, decide_false] <;> first | done | decide) | (simp [sFlow, sGo, uV, sDiv, uN, gS, gP, gQ, gE, gec, gsc, gvl, gL, gT, c1, c12, c23, c34]; done) | (simp [sFlow, sGo, uV, sDiv, uN, gS, gP, gQ, gE, gec, gsc, gvl, gL, gT, c1, c12, c23, eq_true c34]; done), by rw [ht]; exact hP, va_K.moved hW.alike hK, hD⟩, hS.F ht⟩) hS.2.2 dX1_flow_94
  by_cases c42 : p0 = 4
  · refine lv_tableIn (off := 94) (tgt := 95) hx hb dX1_flow_1 (by rw [c42]; decide) (by rw [c42]; decide) (by rw [c42]; rfl) (by decide) ?_
    refine lv_aload_n hx hb dX1_flow_95 rfl (lv_at hl 0 rfl) ?_
    refine lv_iload_n hx hb dX1_flow_96 rfl (lv_at hl 2 rfl) ?_
    refine lv_iload_n hx hb dX1_flow_97 rfl (lv_at hl 2 rfl) ?_
    refine lv_iconst (v := 1) hx hb dX1_flow_98 (by decide) ?_
    refine lv_iadd hx hb dX1_flow_99 ?_
    refine lv_iload_n hx hb dX1_flow_100 rfl (lv_at hl 3 rfl) ?_
    refine lv_imul hx hb dX1_flow_101 ?_
    refine lv_iadd hx hb dX1_flow_102 ?_
    refine lv_iload_n hx hb dX1_flow_103 rfl (lv_at hl 3 rfl) ?_
    refine lv_iadd hx hb dX1_flow_104 ?_
    have hf43 := xFree hD hS hA
    refine va_calli (va_runV (As := [.int ((p1 + ((p1 + 1) * p2)) + p2)]) (rest := []) ⟨hx, hb, hml, hown, hts⟩ (k_wentWith l D F (sS, sP, sQ, sE, ec, sc, vl, LP, sT)  H.size ((p1 + ((p1 + 1) * p2)) + p2)) (cwV 1 hts gX1_flow_X1_wentWith rfl rfl rfl (by decide +kernel) ⟨Nat.le_of_ble_eq_true rfl, Nat.le_of_ble_eq_true rfl⟩) (xPre hN hK hP hD hS hA hZ _) rfl rfl hl.1 rfl (lv_room (Nat.le_of_ble_eq_true rfl)) dX1_flow_105 ⟨Nat.le_of_ble_eq_true rfl, Nat.le_of_ble_eq_true rfl⟩) hS (fun q _ h => hf43 q h) hf43 (fun r44 v45 t47 H1 locs ht hvm hw46 hB hz1 hk1 hS => ?_)
    obtain ⟨hP1, hK1, hD1⟩ := hB
    rw [ht] at hP1
    replace hD1 := hD1.weaken (fun _ _ _ h => hf43 _ h)
    generalize H1 = H at hP1 hS ⊢
    obtain ⟨rfl, rfl⟩ := Prod.mk.inj (show (r44, v45) = (0, (sS, sP, sQ, sE, ec, sc, ((p1 + ((p1 + 1) * p2)) + p2), LP, sT)) from hw46)
    have hP : va_P D vwCl (xW F (sS, sP, sQ, sE, ec, sc, ((p1 + ((p1 + 1) * p2)) + p2), LP, sT)) H := hP1
    have hD : va_D A (xW F (sS, sP, sQ, sE, ec, sc, ((p1 + ((p1 + 1) * p2)) + p2), LP, sT)) := hD1
    exact W.iret (v := 0) hx hb hr (fun tE ht hW => ⟨⟨0, (sS, sP, sQ, sE, ec, sc, ((p1 + ((p1 + 1) * p2)) + p2), LP, sT), rfl, by first | (simp only [sFlow, sGo, uV, sDiv, uN, gS, gP, gQ, gE, gec, gsc, gvl, gL, gT, c1, c12, c23, c34, eq_true c42, eq_self, ↓reduceIte, Bool.false_eq_true, Bool.not_false, Bool.not_true, Bool.and_true, Bool.and_false, Bool.true_and, Bool.false_and, decide_true, decide_false] <;> first | done | decide) | (simp only [sFlow, sGo, uV, sDiv, uN, gS, gP, gQ, gE, gec, gsc, gvl, gL, gT, c1, c12, c23, c34, c42, eq_self, ↓reduceIte, Bool.false_eq_true, Bool.not_false, Bool.not_true, Bool.and_true, Bool.and_false, Bool.true_and, Bool.false_and, decide_true, decide_false] <;> first | done | decide) | (simp [sFlow, sGo, uV, sDiv, uN, gS, gP, gQ, gE, gec, gsc, gvl, gL, gT, c1, c12, c23, c34, c42]; done) | (simp [sFlow, sGo, uV, sDiv, uN, gS, gP, gQ, gE, gec, gsc, gvl, gL, gT, c1, c12, c23, c34, eq_true c42]; done), by rw [ht]; exact hP, va_K.moved hW.alike hK, hD⟩, hS.F ht⟩) hS.2.2 dX1_flow_108
  by_cases c48 : p0 = 5
  · refine lv_tableIn (off := 108) (tgt := 109) hx hb dX1_flow_1 (by rw [c48]; decide) (by rw [c48]; decide) (by rw [c48]; rfl) (by decide) ?_
    refine lv_aload_n hx hb dX1_flow_109 rfl (lv_at hl 0 rfl) ?_
    refine lv_iload_n hx hb dX1_flow_110 rfl (lv_at hl 2 rfl) ?_
    refine lv_iload_n hx hb dX1_flow_111 rfl (lv_at hl 3 rfl) ?_
    have hf49 := xFree hD hS hA
    refine va_calli (va_runV (As := [.int p1, .int p2]) (rest := []) ⟨hx, hb, hml, hown, hts⟩ (k_squareInRow l D F (sS, sP, sQ, sE, ec, sc, vl, LP, sT)  H.size p1 p2) (cwV 2 hts gX1_flow_X1_squareInRow rfl rfl rfl (by decide +kernel) ⟨Nat.le_of_ble_eq_true rfl, Nat.le_of_ble_eq_true rfl⟩) (xPre hN hK hP hD hS hA hZ _) rfl rfl hl.1 rfl (lv_room (Nat.le_of_ble_eq_true rfl)) dX1_flow_112 ⟨Nat.le_of_ble_eq_true rfl, Nat.le_of_ble_eq_true rfl⟩) hS (fun q _ h => hf49 q h) hf49 (fun r50 v51 t53 H1 locs ht hvm hw52 hB hz1 hk1 hS => ?_)
    obtain ⟨hP1, hK1, hD1⟩ := hB
    rw [ht] at hP1
    replace hD1 := hD1.weaken (fun _ _ _ h => hf49 _ h)
    generalize H1 = H at hP1 hS ⊢
    obtain ⟨rfl, rfl⟩ := Prod.mk.inj (show (r50, v51) = ((sSq (sS, sP, sQ, sE, ec, sc, vl, LP, sT) p1 p2).1, ((sSq (sS, sP, sQ, sE, ec, sc, vl, LP, sT) p1 p2).2.1, (sSq (sS, sP, sQ, sE, ec, sc, vl, LP, sT) p1 p2).2.2.1, (sSq (sS, sP, sQ, sE, ec, sc, vl, LP, sT) p1 p2).2.2.2.1, (sSq (sS, sP, sQ, sE, ec, sc, vl, LP, sT) p1 p2).2.2.2.2.1, (sSq (sS, sP, sQ, sE, ec, sc, vl, LP, sT) p1 p2).2.2.2.2.2.1, (sSq (sS, sP, sQ, sE, ec, sc, vl, LP, sT) p1 p2).2.2.2.2.2.2.1, (sSq (sS, sP, sQ, sE, ec, sc, vl, LP, sT) p1 p2).2.2.2.2.2.2.2.1, (sSq (sS, sP, sQ, sE, ec, sc, vl, LP, sT) p1 p2).2.2.2.2.2.2.2.2.1, (sSq (sS, sP, sQ, sE, ec, sc, vl, LP, sT) p1 p2).2.2.2.2.2.2.2.2.2)) from hw52)
    have hP : va_P D vwCl (xW F ((sSq (sS, sP, sQ, sE, ec, sc, vl, LP, sT) p1 p2).2.1, (sSq (sS, sP, sQ, sE, ec, sc, vl, LP, sT) p1 p2).2.2.1, (sSq (sS, sP, sQ, sE, ec, sc, vl, LP, sT) p1 p2).2.2.2.1, (sSq (sS, sP, sQ, sE, ec, sc, vl, LP, sT) p1 p2).2.2.2.2.1, (sSq (sS, sP, sQ, sE, ec, sc, vl, LP, sT) p1 p2).2.2.2.2.2.1, (sSq (sS, sP, sQ, sE, ec, sc, vl, LP, sT) p1 p2).2.2.2.2.2.2.1, (sSq (sS, sP, sQ, sE, ec, sc, vl, LP, sT) p1 p2).2.2.2.2.2.2.2.1, (sSq (sS, sP, sQ, sE, ec, sc, vl, LP, sT) p1 p2).2.2.2.2.2.2.2.2.1, (sSq (sS, sP, sQ, sE, ec, sc, vl, LP, sT) p1 p2).2.2.2.2.2.2.2.2.2)) H := hP1
    have hD : va_D A (xW F ((sSq (sS, sP, sQ, sE, ec, sc, vl, LP, sT) p1 p2).2.1, (sSq (sS, sP, sQ, sE, ec, sc, vl, LP, sT) p1 p2).2.2.1, (sSq (sS, sP, sQ, sE, ec, sc, vl, LP, sT) p1 p2).2.2.2.1, (sSq (sS, sP, sQ, sE, ec, sc, vl, LP, sT) p1 p2).2.2.2.2.1, (sSq (sS, sP, sQ, sE, ec, sc, vl, LP, sT) p1 p2).2.2.2.2.2.1, (sSq (sS, sP, sQ, sE, ec, sc, vl, LP, sT) p1 p2).2.2.2.2.2.2.1, (sSq (sS, sP, sQ, sE, ec, sc, vl, LP, sT) p1 p2).2.2.2.2.2.2.2.1, (sSq (sS, sP, sQ, sE, ec, sc, vl, LP, sT) p1 p2).2.2.2.2.2.2.2.2.1, (sSq (sS, sP, sQ, sE, ec, sc, vl, LP, sT) p1 p2).2.2.2.2.2.2.2.2.2)) := hD1
    exact W.iret (v := (sSq (sS, sP, sQ, sE, ec, sc, vl, LP, sT) p1 p2).1) hx hb hr (fun tE ht hW => ⟨⟨(sSq (sS, sP, sQ, sE, ec, sc, vl, LP, sT) p1 p2).1, ((sSq (sS, sP, sQ, sE, ec, sc, vl, LP, sT) p1 p2).2.1, (sSq (sS, sP, sQ, sE, ec, sc, vl, LP, sT) p1 p2).2.2.1, (sSq (sS, sP, sQ, sE, ec, sc, vl, LP, sT) p1 p2).2.2.2.1, (sSq (sS, sP, sQ, sE, ec, sc, vl, LP, sT) p1 p2).2.2.2.2.1, (sSq (sS, sP, sQ, sE, ec, sc, vl, LP, sT) p1 p2).2.2.2.2.2.1, (sSq (sS, sP, sQ, sE, ec, sc, vl, LP, sT) p1 p2).2.2.2.2.2.2.1, (sSq (sS, sP, sQ, sE, ec, sc, vl, LP, sT) p1 p2).2.2.2.2.2.2.2.1, (sSq (sS, sP, sQ, sE, ec, sc, vl, LP, sT) p1 p2).2.2.2.2.2.2.2.2.1, (sSq (sS, sP, sQ, sE, ec, sc, vl, LP, sT) p1 p2).2.2.2.2.2.2.2.2.2), rfl, by first | (simp only [sFlow, sGo, uV, sDiv, uN, gS, gP, gQ, gE, gec, gsc, gvl, gL, gT, c1, c12, c23, c34, c42, eq_true c48, eq_self, ↓reduceIte, Bool.false_eq_true, Bool.not_false, Bool.not_true, Bool.and_true, Bool.and_false, Bool.true_and, Bool.false_and, decide_true, decide_false] <;> first | done | decide) | (simp only [sFlow, sGo, uV, sDiv, uN, gS, gP, gQ, gE, gec, gsc, gvl, gL, gT, c1, c12, c23, c34, c42, c48, eq_self, ↓reduceIte, Bool.false_eq_true, Bool.not_false, Bool.not_true, Bool.and_true, Bool.and_false, Bool.true_and, Bool.false_and, decide_true, decide_false] <;> first | done | decide) | (simp [sFlow, sGo, uV, sDiv, uN, gS, gP, gQ, gE, gec, gsc, gvl, gL, gT, c1, c12, c23, c34, c42, c48]; done) | (simp [sFlow, sGo, uV, sDiv, uN, gS, gP, gQ, gE, gec, gsc, gvl, gL, gT, c1, c12, c23, c34, c42, eq_true c48]; done), by rw [ht]; exact hP, va_K.moved hW.alike hK, hD⟩, hS.F ht⟩) hS.2.2 dX1_flow_115
  by_cases c54 : p0 = 6
  · refine lv_tableIn (off := 115) (tgt := 116) hx hb dX1_flow_1 (by rw [c54]; decide) (by rw [c54]; decide) (by rw [c54]; rfl) (by decide) ?_
    refine lv_aload_n hx hb dX1_flow_116 rfl (lv_at hl 0 rfl) ?_
    refine lv_iload_n hx hb dX1_flow_117 rfl (lv_at hl 2 rfl) ?_
    refine lv_iconst (v := 1) hx hb dX1_flow_118 (by decide) ?_
    refine lv_iand hx hb dX1_flow_119 ?_
    refine vp_callSi (va_Run.run (va_runS (As := [.int (p1 &&& 1)]) (rest := [.ref F.1]) ⟨hx, hb, hml, hown, hts⟩ (k_putAtToldPlace l (p1 &&& 1)) (va_cwS 1 hts gX1_flow_X1_putAtToldPlace rfl rfl rfl (by decide +kernel) ⟨Nat.le_of_ble_eq_true rfl, Nat.le_of_ble_eq_true rfl⟩) preEq rfl rfl hl.1 rfl (lv_room (Nat.le_of_ble_eq_true rfl)) dX1_flow_120 ⟨Nat.le_of_ble_eq_true rfl, Nat.le_of_ble_eq_true rfl⟩)) (fun r55 hw56 => ?_)
    subst hw56
    have hf57 := xFree hD hS hA
    refine va_calli (va_runV (As := [.int (fPlace (p1 &&& 1))]) (rest := []) ⟨hx, hb, hml, hown, hts⟩ (k_wentWith l D F (sS, sP, sQ, sE, ec, sc, vl, LP, sT)  H.size (fPlace (p1 &&& 1))) (cwV 1 hts gX1_flow_X1_wentWith rfl rfl rfl (by decide +kernel) ⟨Nat.le_of_ble_eq_true rfl, Nat.le_of_ble_eq_true rfl⟩) (xPre hN hK hP hD hS hA hZ _) rfl rfl hl.1 rfl (lv_room (Nat.le_of_ble_eq_true rfl)) dX1_flow_123 ⟨Nat.le_of_ble_eq_true rfl, Nat.le_of_ble_eq_true rfl⟩) hS (fun q _ h => hf57 q h) hf57 (fun r58 v59 t61 H1 locs ht hvm hw60 hB hz1 hk1 hS => ?_)
    obtain ⟨hP1, hK1, hD1⟩ := hB
    rw [ht] at hP1
    replace hD1 := hD1.weaken (fun _ _ _ h => hf57 _ h)
    generalize H1 = H at hP1 hS ⊢
    obtain ⟨rfl, rfl⟩ := Prod.mk.inj (show (r58, v59) = (0, (sS, sP, sQ, sE, ec, sc, (fPlace (p1 &&& 1)), LP, sT)) from hw60)
    have hP : va_P D vwCl (xW F (sS, sP, sQ, sE, ec, sc, (fPlace (p1 &&& 1)), LP, sT)) H := hP1
    have hD : va_D A (xW F (sS, sP, sQ, sE, ec, sc, (fPlace (p1 &&& 1)), LP, sT)) := hD1
    exact W.iret (v := 0) hx hb hr (fun tE ht hW => ⟨⟨0, (sS, sP, sQ, sE, ec, sc, (fPlace (p1 &&& 1)), LP, sT), rfl, by first | (simp only [sFlow, sGo, uV, sDiv, uN, gS, gP, gQ, gE, gec, gsc, gvl, gL, gT, c1, c12, c23, c34, c42, c48, eq_true c54, eq_self, ↓reduceIte, Bool.false_eq_true, Bool.not_false, Bool.not_true, Bool.and_true, Bool.and_false, Bool.true_and, Bool.false_and, decide_true, decide_false] <;> first | done | decide) | (simp only [sFlow, sGo, uV, sDiv, uN, gS, gP, gQ, gE, gec, gsc, gvl, gL, gT, c1, c12, c23, c34, c42, c48, c54, eq_self, ↓reduceIte, Bool.false_eq_true, Bool.not_false, Bool.not_true, Bool.and_true, Bool.and_false, Bool.true_and, Bool.false_and, decide_true, decide_false] <;> first | done | decide) | (simp [sFlow, sGo, uV, sDiv, uN, gS, gP, gQ, gE, gec, gsc, gvl, gL, gT, c1, c12, c23, c34, c42, c48, c54]; done) | (simp [sFlow, sGo, uV, sDiv, uN, gS, gP, gQ, gE, gec, gsc, gvl, gL, gT, c1, c12, c23, c34, c42, c48, eq_true c54]; done), by rw [ht]; exact hP, va_K.moved hW.alike hK, hD⟩, hS.F ht⟩) hS.2.2 dX1_flow_126
  refine lv_tableOut (tgt := 127) hx hb dX1_flow_1 (by have z0 := lv_neT (k := 0) (a := 0) c1 (by decide); have z1 := lv_neT (k := 1) (a := 1) c12 (by decide); have z2 := lv_neT (k := 2) (a := 2) c23 (by decide); have z3 := lv_neT (k := 3) (a := 3) c34 (by decide); have z4 := lv_neT (k := 4) (a := 4) c42 (by decide); have z5 := lv_neT (k := 5) (a := 5) c48 (by decide); have z6 := lv_neT (k := 6) (a := 6) c54 (by decide); omega) (by decide) ?_
  refine lv_iconst (v := (-1)) hx hb dX1_flow_127 (by decide) ?_
  exact W.iret (v := (-1)) hx hb hr (fun tE ht hW => ⟨⟨(-1), (sS, sP, sQ, sE, ec, sc, vl, LP, sT), rfl, by first | (simp only [sFlow, sGo, uV, sDiv, uN, gS, gP, gQ, gE, gec, gsc, gvl, gL, gT, c1, c12, c23, c34, c42, c48, c54, eq_self, ↓reduceIte, Bool.false_eq_true, Bool.not_false, Bool.not_true, Bool.and_true, Bool.and_false, Bool.true_and, Bool.false_and, decide_true, decide_false] <;> first | done | decide) | (simp [sFlow, sGo, uV, sDiv, uN, gS, gP, gQ, gE, gec, gsc, gvl, gL, gT, c1, c12, c23, c34, c42, c48, c54]; done), by rw [ht]; exact hP, va_K.moved hW.alike hK, hD⟩, hS.F ht⟩) hS.2.2 dX1_flow_128
set_option maxHeartbeats 8000000 in
set_option maxRecDepth 100000 in
theorem k_number (l : Launch) (D : va_G) (F : XF) (u : XS) (sz : Nat) (p0 : Int32) (p1 : Int32) (p2 : Int32) : Met l yX1_number wsX1_number ({ frames := 1, cells := 0, slots := 0, locals := 23 }) (xPc D F u sz [.ref F.1, .int p0, .int p1, .int p2]) (va_Qi (fun (r : Int32) (v : XS) => (r, v) = sNum u p0 p1 p2) (xB D F (va_A (xW F u) sz)) (va_A (xW F u) sz)) 0 0 (va_A (xW F u) sz) := by
  obtain ⟨sS, sP, sQ, sE, ec, sc, vl, LP, sT⟩ := u
  refine Met.ofW (cc := cX1_number) (maxL := 4) (ret := (some .int)) (by decide) rfl ?_
  intro p e s m args below meth c s₁ B hml hv
  obtain ⟨rfl, hsz, hP, hK, hD0, hN, hZ⟩ := hv
  have hx := B.exec
  have hb := B.bytes
  have hr := B.returns
  have hts := atoms_spec (ws := wsX1_number) B.pre
  have hown : s.vm.findClass RX1 = some m.cls := findClass_of_methodNamed B.named
  have hlocks := B.notSynchronized
  subst hsz
  have hD := hD0.self (sz := s.heap.size)
  generalize hAe : va_A (xW F (sS, sP, sQ, sE, ec, sc, vl, LP, sT)) s.heap.size = A at hD hZ ⊢
  have hA : ∀ q : Nat, s.heap.size ≤ q → A q := fun q h => by rw [← hAe]; exact Or.inr h
  have hS : va_S A s.heap s.heap [] := va_S.rf
  obtain ⟨tk, tm, tr, hztk, httk, hztm, httm, hztr, httr⟩ := id hZ
  refine xHeap (C := fun H => va_P D vwCl (xW F (sS, sP, sQ, sE, ec, sc, vl, LP, sT)) H ∧ va_S A s.heap H []) ⟨hP, hS⟩ (fun H hC => ?_)
  obtain ⟨hP, hS⟩ := hC
  have hl := lv_entry ([.ref F.1, .int p0, .int p1, .int p2]) (n := 4) (Nat.le_of_ble_eq_true rfl)
  rw [lg_entry_eq]
  generalize (lg_sl ([.ref F.1, .int p0, .int p1, .int p2]) ++ List.replicate (4 - (lg_sl ([.ref F.1, .int p0, .int p1, .int p2])).length) Slot.unset).toArray = ls at hl ⊢
  have hl : lv_has ls 4 [(0, .ref F.1), (1, .int p0), (2, .int p1), (3, .int p2)] := hl
  refine lv_iload_n hx hb dX1_number_0 rfl (lv_at hl 1 rfl) ?_
  by_cases c1 : p0 = 0
  · refine lv_tableIn (off := 55) (tgt := 56) hx hb dX1_number_1 (by rw [c1]; decide) (by rw [c1]; decide) (by rw [c1]; rfl) (by decide) ?_
    refine lv_aload_n hx hb dX1_number_56 rfl (lv_at hl 0 rfl) ?_
    refine lv_iload_n hx hb dX1_number_57 rfl (lv_at hl 2 rfl) ?_
    refine lv_i2f hx hb dX1_number_58 ?_
    refine lv_f2i hx hb dX1_number_59 ?_
    have hf2 := xFree hD hS hA
    refine va_calli (va_runV (As := [.int (FP.f2i (FP.i2f p1))]) (rest := []) ⟨hx, hb, hml, hown, hts⟩ (k_wentWith l D F (sS, sP, sQ, sE, ec, sc, vl, LP, sT)  H.size (FP.f2i (FP.i2f p1))) (cwV 1 hts gX1_number_X1_wentWith rfl rfl rfl (by decide +kernel) ⟨Nat.le_of_ble_eq_true rfl, Nat.le_of_ble_eq_true rfl⟩) (xPre hN hK hP hD hS hA hZ _) rfl rfl hl.1 rfl (lv_room (Nat.le_of_ble_eq_true rfl)) dX1_number_60 ⟨Nat.le_of_ble_eq_true rfl, Nat.le_of_ble_eq_true rfl⟩) hS (fun q _ h => hf2 q h) hf2 (fun r3 v4 t6 H1 locs ht hvm hw5 hB hz1 hk1 hS => ?_)
    obtain ⟨hP1, hK1, hD1⟩ := hB
    rw [ht] at hP1
    replace hD1 := hD1.weaken (fun _ _ _ h => hf2 _ h)
    generalize H1 = H at hP1 hS ⊢
    obtain ⟨rfl, rfl⟩ := Prod.mk.inj (show (r3, v4) = (0, (sS, sP, sQ, sE, ec, sc, (FP.f2i (FP.i2f p1)), LP, sT)) from hw5)
    have hP : va_P D vwCl (xW F (sS, sP, sQ, sE, ec, sc, (FP.f2i (FP.i2f p1)), LP, sT)) H := hP1
    have hD : va_D A (xW F (sS, sP, sQ, sE, ec, sc, (FP.f2i (FP.i2f p1)), LP, sT)) := hD1
    exact W.iret (v := 0) hx hb hr (fun tE ht hW => ⟨⟨0, (sS, sP, sQ, sE, ec, sc, (FP.f2i (FP.i2f p1)), LP, sT), rfl, by first | (simp only [sNum, sGo, uV, gS, gP, gQ, gE, gec, gsc, gvl, gL, gT, eq_true c1, eq_self, ↓reduceIte, Bool.false_eq_true, Bool.not_false, Bool.not_true, Bool.and_true, Bool.and_false, Bool.true_and, Bool.false_and, decide_true, decide_false] <;> first | done | decide) | (simp only [sNum, sGo, uV, gS, gP, gQ, gE, gec, gsc, gvl, gL, gT, c1, eq_self, ↓reduceIte, Bool.false_eq_true, Bool.not_false, Bool.not_true, Bool.and_true, Bool.and_false, Bool.true_and, Bool.false_and, decide_true, decide_false] <;> first | done | decide) | (simp [sNum, sGo, uV, gS, gP, gQ, gE, gec, gsc, gvl, gL, gT, c1]; done) | (simp [sNum, sGo, uV, gS, gP, gQ, gE, gec, gsc, gvl, gL, gT, eq_true c1]; done), by rw [ht]; exact hP, va_K.moved hW.alike hK, hD⟩, hS.F ht⟩) hS.2.2 dX1_number_63
  by_cases c7 : p0 = 1
  · refine lv_tableIn (off := 63) (tgt := 64) hx hb dX1_number_1 (by rw [c7]; decide) (by rw [c7]; decide) (by rw [c7]; rfl) (by decide) ?_
    refine lv_aload_n hx hb dX1_number_64 rfl (lv_at hl 0 rfl) ?_
    refine lv_iload_n hx hb dX1_number_65 rfl (lv_at hl 2 rfl) ?_
    refine lv_iload_n hx hb dX1_number_66 rfl (lv_at hl 3 rfl) ?_
    refine vp_callSi (va_Run.run (va_runS (As := [.int p1, .int p2]) (rest := [.ref F.1]) ⟨hx, hb, hml, hown, hts⟩ (k_quotientOfDoubles l p1 p2) (va_cwS 2 hts gX1_number_X1_quotientOfDoubles rfl rfl rfl (by decide +kernel) ⟨Nat.le_of_ble_eq_true rfl, Nat.le_of_ble_eq_true rfl⟩) preEq rfl rfl hl.1 rfl (lv_room (Nat.le_of_ble_eq_true rfl)) dX1_number_67 ⟨Nat.le_of_ble_eq_true rfl, Nat.le_of_ble_eq_true rfl⟩)) (fun r8 hw9 => ?_)
    subst hw9
    have hf10 := xFree hD hS hA
    refine va_calli (va_runV (As := [.int (fQuo p1 p2)]) (rest := []) ⟨hx, hb, hml, hown, hts⟩ (k_wentWith l D F (sS, sP, sQ, sE, ec, sc, vl, LP, sT)  H.size (fQuo p1 p2)) (cwV 1 hts gX1_number_X1_wentWith rfl rfl rfl (by decide +kernel) ⟨Nat.le_of_ble_eq_true rfl, Nat.le_of_ble_eq_true rfl⟩) (xPre hN hK hP hD hS hA hZ _) rfl rfl hl.1 rfl (lv_room (Nat.le_of_ble_eq_true rfl)) dX1_number_70 ⟨Nat.le_of_ble_eq_true rfl, Nat.le_of_ble_eq_true rfl⟩) hS (fun q _ h => hf10 q h) hf10 (fun r11 v12 t14 H1 locs ht hvm hw13 hB hz1 hk1 hS => ?_)
    obtain ⟨hP1, hK1, hD1⟩ := hB
    rw [ht] at hP1
    replace hD1 := hD1.weaken (fun _ _ _ h => hf10 _ h)
    generalize H1 = H at hP1 hS ⊢
    obtain ⟨rfl, rfl⟩ := Prod.mk.inj (show (r11, v12) = (0, (sS, sP, sQ, sE, ec, sc, (fQuo p1 p2), LP, sT)) from hw13)
    have hP : va_P D vwCl (xW F (sS, sP, sQ, sE, ec, sc, (fQuo p1 p2), LP, sT)) H := hP1
    have hD : va_D A (xW F (sS, sP, sQ, sE, ec, sc, (fQuo p1 p2), LP, sT)) := hD1
    exact W.iret (v := 0) hx hb hr (fun tE ht hW => ⟨⟨0, (sS, sP, sQ, sE, ec, sc, (fQuo p1 p2), LP, sT), rfl, by first | (simp only [sNum, sGo, uV, gS, gP, gQ, gE, gec, gsc, gvl, gL, gT, c1, eq_true c7, eq_self, ↓reduceIte, Bool.false_eq_true, Bool.not_false, Bool.not_true, Bool.and_true, Bool.and_false, Bool.true_and, Bool.false_and, decide_true, decide_false] <;> first | done | decide) | (simp only [sNum, sGo, uV, gS, gP, gQ, gE, gec, gsc, gvl, gL, gT, c1, c7, eq_self, ↓reduceIte, Bool.false_eq_true, Bool.not_false, Bool.not_true, Bool.and_true, Bool.and_false, Bool.true_and, Bool.false_and, decide_true, decide_false] <;> first | done | decide) | (simp [sNum, sGo, uV, gS, gP, gQ, gE, gec, gsc, gvl, gL, gT, c1, c7]; done) | (simp [sNum, sGo, uV, gS, gP, gQ, gE, gec, gsc, gvl, gL, gT, c1, eq_true c7]; done), by rw [ht]; exact hP, va_K.moved hW.alike hK, hD⟩, hS.F ht⟩) hS.2.2 dX1_number_73
  by_cases c15 : p0 = 2
  · refine lv_tableIn (off := 73) (tgt := 74) hx hb dX1_number_1 (by rw [c15]; decide) (by rw [c15]; decide) (by rw [c15]; rfl) (by decide) ?_
    refine lv_aload_n hx hb dX1_number_74 rfl (lv_at hl 0 rfl) ?_
    refine lv_iload_n hx hb dX1_number_75 rfl (lv_at hl 2 rfl) ?_
    refine lv_i2b hx hb dX1_number_76 rfl ?_
    refine lv_iload_n hx hb dX1_number_77 rfl (lv_at hl 3 rfl) ?_
    refine lv_i2c hx hb dX1_number_78 rfl ?_
    refine lv_imul hx hb dX1_number_79 ?_
    have hf16 := xFree hD hS hA
    refine va_calli (va_runV (As := [.int ((Int32.toInt8 p1).toInt32 * (Int32.toUInt32 p2 % 65536).toInt32)]) (rest := []) ⟨hx, hb, hml, hown, hts⟩ (k_wentWith l D F (sS, sP, sQ, sE, ec, sc, vl, LP, sT)  H.size ((Int32.toInt8 p1).toInt32 * (Int32.toUInt32 p2 % 65536).toInt32)) (cwV 1 hts gX1_number_X1_wentWith rfl rfl rfl (by decide +kernel) ⟨Nat.le_of_ble_eq_true rfl, Nat.le_of_ble_eq_true rfl⟩) (xPre hN hK hP hD hS hA hZ _) rfl rfl hl.1 rfl (lv_room (Nat.le_of_ble_eq_true rfl)) dX1_number_80 ⟨Nat.le_of_ble_eq_true rfl, Nat.le_of_ble_eq_true rfl⟩) hS (fun q _ h => hf16 q h) hf16 (fun r17 v18 t20 H1 locs ht hvm hw19 hB hz1 hk1 hS => ?_)
    obtain ⟨hP1, hK1, hD1⟩ := hB
    rw [ht] at hP1
    replace hD1 := hD1.weaken (fun _ _ _ h => hf16 _ h)
    generalize H1 = H at hP1 hS ⊢
    obtain ⟨rfl, rfl⟩ := Prod.mk.inj (show (r17, v18) = (0, (sS, sP, sQ, sE, ec, sc, ((Int32.toInt8 p1).toInt32 * (Int32.toUInt32 p2 % 65536).toInt32), LP, sT)) from hw19)
    have hP : va_P D vwCl (xW F (sS, sP, sQ, sE, ec, sc, ((Int32.toInt8 p1).toInt32 * (Int32.toUInt32 p2 % 65536).toInt32), LP, sT)) H := hP1
    have hD : va_D A (xW F (sS, sP, sQ, sE, ec, sc, ((Int32.toInt8 p1).toInt32 * (Int32.toUInt32 p2 % 65536).toInt32), LP, sT)) := hD1
    exact W.iret (v := 0) hx hb hr (fun tE ht hW => ⟨⟨0, (sS, sP, sQ, sE, ec, sc, ((Int32.toInt8 p1).toInt32 * (Int32.toUInt32 p2 % 65536).toInt32), LP, sT), rfl, by first | (simp only [sNum, sGo, uV, gS, gP, gQ, gE, gec, gsc, gvl, gL, gT, c1, c7, eq_true c15, eq_self, ↓reduceIte, Bool.false_eq_true, Bool.not_false, Bool.not_true, Bool.and_true, Bool.and_false, Bool.true_and, Bool.false_and, decide_true, decide_false] <;> first | done | decide) | (simp only [sNum, sGo, uV, gS, gP, gQ, gE, gec, gsc, gvl, gL, gT, c1, c7, c15, eq_self, ↓reduceIte, Bool.false_eq_true, Bool.not_false, Bool.not_true, Bool.and_true, Bool.and_false, Bool.true_and, Bool.false_and, decide_true, decide_false] <;> first | done | decide) | (simp [sNum, sGo, uV, gS, gP, gQ, gE, gec, gsc, gvl, gL, gT, c1, c7, c15]; done) | (simp [sNum, sGo, uV, gS, gP, gQ, gE, gec, gsc, gvl, gL, gT, c1, c7, eq_true c15]; done), by rw [ht]; exact hP, va_K.moved hW.alike hK, hD⟩, hS.F ht⟩) hS.2.2 dX1_number_83
  by_cases c21 : p0 = 3
  · refine lv_tableIn (off := 83) (tgt := 84) hx hb dX1_number_1 (by rw [c21]; decide) (by rw [c21]; decide) (by rw [c21]; rfl) (by decide) ?_
    refine lv_aload_n hx hb dX1_number_84 rfl (lv_at hl 0 rfl) ?_
    refine lv_iload_n hx hb dX1_number_85 rfl (lv_at hl 2 rfl) ?_
    refine lv_iload_n hx hb dX1_number_86 rfl (lv_at hl 3 rfl) ?_
    refine lv_ishr hx hb dX1_number_87 ?_
    refine lv_iload_n hx hb dX1_number_88 rfl (lv_at hl 2 rfl) ?_
    refine lv_iload_n hx hb dX1_number_89 rfl (lv_at hl 3 rfl) ?_
    refine lv_iushr hx hb dX1_number_90 rfl ?_
    refine lv_iadd hx hb dX1_number_91 ?_
    refine lv_iload_n hx hb dX1_number_92 rfl (lv_at hl 2 rfl) ?_
    refine lv_iload_n hx hb dX1_number_93 rfl (lv_at hl 3 rfl) ?_
    refine lv_ishl hx hb dX1_number_94 ?_
    refine lv_iadd hx hb dX1_number_95 ?_
    have hf22 := xFree hD hS hA
    refine va_calli (va_runV (As := [.int (((p1 >>> (p2 &&& 31)) + (Int32.toUInt32 p1 >>> (Int32.toUInt32 p2 &&& Int32.toUInt32 31)).toInt32) + (p1 <<< (p2 &&& 31)))]) (rest := []) ⟨hx, hb, hml, hown, hts⟩ (k_wentWith l D F (sS, sP, sQ, sE, ec, sc, vl, LP, sT)  H.size (((p1 >>> (p2 &&& 31)) + (Int32.toUInt32 p1 >>> (Int32.toUInt32 p2 &&& Int32.toUInt32 31)).toInt32) + (p1 <<< (p2 &&& 31)))) (cwV 1 hts gX1_number_X1_wentWith rfl rfl rfl (by decide +kernel) ⟨Nat.le_of_ble_eq_true rfl, Nat.le_of_ble_eq_true rfl⟩) (xPre hN hK hP hD hS hA hZ _) rfl rfl hl.1 rfl (lv_room (Nat.le_of_ble_eq_true rfl)) dX1_number_96 ⟨Nat.le_of_ble_eq_true rfl, Nat.le_of_ble_eq_true rfl⟩) hS (fun q _ h => hf22 q h) hf22 (fun r23 v24 t26 H1 locs ht hvm hw25 hB hz1 hk1 hS => ?_)
    obtain ⟨hP1, hK1, hD1⟩ := hB
    rw [ht] at hP1
    replace hD1 := hD1.weaken (fun _ _ _ h => hf22 _ h)
    generalize H1 = H at hP1 hS ⊢
    obtain ⟨rfl, rfl⟩ := Prod.mk.inj (show (r23, v24) = (0, (sS, sP, sQ, sE, ec, sc, (((p1 >>> (p2 &&& 31)) + (Int32.toUInt32 p1 >>> (Int32.toUInt32 p2 &&& Int32.toUInt32 31)).toInt32) + (p1 <<< (p2 &&& 31))), LP, sT)) from hw25)
    have hP : va_P D vwCl (xW F (sS, sP, sQ, sE, ec, sc, (((p1 >>> (p2 &&& 31)) + (Int32.toUInt32 p1 >>> (Int32.toUInt32 p2 &&& Int32.toUInt32 31)).toInt32) + (p1 <<< (p2 &&& 31))), LP, sT)) H := hP1
    have hD : va_D A (xW F (sS, sP, sQ, sE, ec, sc, (((p1 >>> (p2 &&& 31)) + (Int32.toUInt32 p1 >>> (Int32.toUInt32 p2 &&& Int32.toUInt32 31)).toInt32) + (p1 <<< (p2 &&& 31))), LP, sT)) := hD1
    exact W.iret (v := 0) hx hb hr (fun tE ht hW => ⟨⟨0, (sS, sP, sQ, sE, ec, sc, (((p1 >>> (p2 &&& 31)) + (Int32.toUInt32 p1 >>> (Int32.toUInt32 p2 &&& Int32.toUInt32 31)).toInt32) + (p1 <<< (p2 &&& 31))), LP, sT), rfl, by first | (simp only [sNum, sGo, uV, gS, gP, gQ, gE, gec, gsc, gvl, gL, gT, c1, c7, c15, eq_true c21, eq_self, ↓reduceIte, Bool.false_eq_true, Bool.not_false, Bool.not_true, Bool.and_true, Bool.and_false, Bool.true_and, Bool.false_and, decide_true, decide_false] <;> first | done | decide) | (simp only [sNum, sGo, uV, gS, gP, gQ, gE, gec, gsc, gvl, gL, gT, c1, c7, c15, c21, eq_self, ↓reduceIte, Bool.false_eq_true, Bool.not_false, Bool.not_true, Bool.and_true, Bool.and_false, Bool.true_and, Bool.false_and, decide_true, decide_false] <;> first | done | decide) | (simp [sNum, sGo, uV, gS, gP, gQ, gE, gec, gsc, gvl, gL, gT, c1, c7, c15, c21]; done) | (simp [sNum, sGo, uV, gS, gP, gQ, gE, gec, gsc, gvl, gL, gT, c1, c7, c15, eq_true c21]; done), by rw [ht]; exact hP, va_K.moved hW.alike hK, hD⟩, hS.F ht⟩) hS.2.2 dX1_number_99
  by_cases c27 : p0 = 4
  · refine lv_tableIn (off := 99) (tgt := 100) hx hb dX1_number_1 (by rw [c27]; decide) (by rw [c27]; decide) (by rw [c27]; rfl) (by decide) ?_
    refine lv_iload_n hx hb dX1_number_100 rfl (lv_at hl 3 rfl) ?_
    refine lv_if_ne (tgt := 108) hx hb dX1_number_101 (by decide) (fun c28 => ?_) (fun c28 => ?_)
    · refine lv_aload_n hx hb dX1_number_108 rfl (lv_at hl 0 rfl) ?_
      refine lv_iload_n hx hb dX1_number_109 rfl (lv_at hl 2 rfl) ?_
      refine lv_iload_n hx hb dX1_number_110 rfl (lv_at hl 3 rfl) ?_
      refine lv_irem hx hb dX1_number_111 c28 ?_
      have hf29 := xFree hD hS hA
      refine va_calli (va_runV (As := [.int (p1 - p1 / p2 * p2)]) (rest := []) ⟨hx, hb, hml, hown, hts⟩ (k_wentWith l D F (sS, sP, sQ, sE, ec, sc, vl, LP, sT)  H.size (p1 - p1 / p2 * p2)) (cwV 1 hts gX1_number_X1_wentWith rfl rfl rfl (by decide +kernel) ⟨Nat.le_of_ble_eq_true rfl, Nat.le_of_ble_eq_true rfl⟩) (xPre hN hK hP hD hS hA hZ _) rfl rfl hl.1 rfl (lv_room (Nat.le_of_ble_eq_true rfl)) dX1_number_112 ⟨Nat.le_of_ble_eq_true rfl, Nat.le_of_ble_eq_true rfl⟩) hS (fun q _ h => hf29 q h) hf29 (fun r30 v31 t33 H1 locs ht hvm hw32 hB hz1 hk1 hS => ?_)
      obtain ⟨hP1, hK1, hD1⟩ := hB
      rw [ht] at hP1
      replace hD1 := hD1.weaken (fun _ _ _ h => hf29 _ h)
      generalize H1 = H at hP1 hS ⊢
      obtain ⟨rfl, rfl⟩ := Prod.mk.inj (show (r30, v31) = (0, (sS, sP, sQ, sE, ec, sc, (p1 - p1 / p2 * p2), LP, sT)) from hw32)
      have hP : va_P D vwCl (xW F (sS, sP, sQ, sE, ec, sc, (p1 - p1 / p2 * p2), LP, sT)) H := hP1
      have hD : va_D A (xW F (sS, sP, sQ, sE, ec, sc, (p1 - p1 / p2 * p2), LP, sT)) := hD1
      exact W.iret (v := 0) hx hb hr (fun tE ht hW => ⟨⟨0, (sS, sP, sQ, sE, ec, sc, (p1 - p1 / p2 * p2), LP, sT), rfl, by first | (simp only [sNum, sGo, uV, gS, gP, gQ, gE, gec, gsc, gvl, gL, gT, c1, c7, c15, c21, eq_true c27, c28, eq_self, ↓reduceIte, Bool.false_eq_true, Bool.not_false, Bool.not_true, Bool.and_true, Bool.and_false, Bool.true_and, Bool.false_and, decide_true, decide_false] <;> first | done | decide) | (simp only [sNum, sGo, uV, gS, gP, gQ, gE, gec, gsc, gvl, gL, gT, c1, c7, c15, c21, c27, c28, eq_self, ↓reduceIte, Bool.false_eq_true, Bool.not_false, Bool.not_true, Bool.and_true, Bool.and_false, Bool.true_and, Bool.false_and, decide_true, decide_false] <;> first | done | decide) | (simp [sNum, sGo, uV, gS, gP, gQ, gE, gec, gsc, gvl, gL, gT, c1, c7, c15, c21, c27, c28]; done) | (simp [sNum, sGo, uV, gS, gP, gQ, gE, gec, gsc, gvl, gL, gT, c1, c7, c15, c21, eq_true c27, c28]; done), by rw [ht]; exact hP, va_K.moved hW.alike hK, hD⟩, hS.F ht⟩) hS.2.2 dX1_number_115
    · refine lv_iconst (v := 5) hx hb dX1_number_104 (by decide) ?_
      refine lv_goto (tgt := 115) hx hb dX1_number_105 (by decide) ?_
      exact W.iret (v := 5) hx hb hr (fun tE ht hW => ⟨⟨5, (sS, sP, sQ, sE, ec, sc, vl, LP, sT), rfl, by first | (simp only [sNum, sGo, uV, gS, gP, gQ, gE, gec, gsc, gvl, gL, gT, c1, c7, c15, c21, eq_true c27, eq_true c28, eq_self, ↓reduceIte, Bool.false_eq_true, Bool.not_false, Bool.not_true, Bool.and_true, Bool.and_false, Bool.true_and, Bool.false_and, decide_true, decide_false] <;> first | done | decide) | (simp only [sNum, sGo, uV, gS, gP, gQ, gE, gec, gsc, gvl, gL, gT, c1, c7, c15, c21, c27, c28, eq_self, ↓reduceIte, Bool.false_eq_true, Bool.not_false, Bool.not_true, Bool.and_true, Bool.and_false, Bool.true_and, Bool.false_and, decide_true, decide_false] <;> first | done | decide) | (simp [sNum, sGo, uV, gS, gP, gQ, gE, gec, gsc, gvl, gL, gT, c1, c7, c15, c21, c27, c28]; done) | (simp [sNum, sGo, uV, gS, gP, gQ, gE, gec, gsc, gvl, gL, gT, c1, c7, c15, c21, eq_true c27, eq_true c28]; done), by rw [ht]; exact hP, va_K.moved hW.alike hK, hD⟩, hS.F ht⟩) hS.2.2 dX1_number_115
  by_cases c34 : p0 = 5
  · refine lv_tableIn (off := 115) (tgt := 116) hx hb dX1_number_1 (by rw [c34]; decide) (by rw [c34]; decide) (by rw [c34]; rfl) (by decide) ?_
    refine lv_aload_n hx hb dX1_number_116 rfl (lv_at hl 0 rfl) ?_
    refine lv_iload_n hx hb dX1_number_117 rfl (lv_at hl 2 rfl) ?_
    refine lv_i2s hx hb dX1_number_118 rfl ?_
    refine lv_iload_n hx hb dX1_number_119 rfl (lv_at hl 3 rfl) ?_
    refine lv_iadd hx hb dX1_number_120 ?_
    refine lv_i2s hx hb dX1_number_121 rfl ?_
    have hf35 := xFree hD hS hA
    refine va_calli (va_runV (As := [.int ((Int32.toInt16 ((Int32.toInt16 p1).toInt32 + p2)).toInt32)]) (rest := []) ⟨hx, hb, hml, hown, hts⟩ (k_wentWith l D F (sS, sP, sQ, sE, ec, sc, vl, LP, sT)  H.size ((Int32.toInt16 ((Int32.toInt16 p1).toInt32 + p2)).toInt32)) (cwV 1 hts gX1_number_X1_wentWith rfl rfl rfl (by decide +kernel) ⟨Nat.le_of_ble_eq_true rfl, Nat.le_of_ble_eq_true rfl⟩) (xPre hN hK hP hD hS hA hZ _) rfl rfl hl.1 rfl (lv_room (Nat.le_of_ble_eq_true rfl)) dX1_number_122 ⟨Nat.le_of_ble_eq_true rfl, Nat.le_of_ble_eq_true rfl⟩) hS (fun q _ h => hf35 q h) hf35 (fun r36 v37 t39 H1 locs ht hvm hw38 hB hz1 hk1 hS => ?_)
    obtain ⟨hP1, hK1, hD1⟩ := hB
    rw [ht] at hP1
    replace hD1 := hD1.weaken (fun _ _ _ h => hf35 _ h)
    generalize H1 = H at hP1 hS ⊢
    obtain ⟨rfl, rfl⟩ := Prod.mk.inj (show (r36, v37) = (0, (sS, sP, sQ, sE, ec, sc, ((Int32.toInt16 ((Int32.toInt16 p1).toInt32 + p2)).toInt32), LP, sT)) from hw38)
    have hP : va_P D vwCl (xW F (sS, sP, sQ, sE, ec, sc, ((Int32.toInt16 ((Int32.toInt16 p1).toInt32 + p2)).toInt32), LP, sT)) H := hP1
    have hD : va_D A (xW F (sS, sP, sQ, sE, ec, sc, ((Int32.toInt16 ((Int32.toInt16 p1).toInt32 + p2)).toInt32), LP, sT)) := hD1
    exact W.iret (v := 0) hx hb hr (fun tE ht hW => ⟨⟨0, (sS, sP, sQ, sE, ec, sc, ((Int32.toInt16 ((Int32.toInt16 p1).toInt32 + p2)).toInt32), LP, sT), rfl, by first | (simp only [sNum, sGo, uV, gS, gP, gQ, gE, gec, gsc, gvl, gL, gT, c1, c7, c15, c21, c27, eq_true c34, eq_self, ↓reduceIte, Bool.false_eq_true, Bool.not_false, Bool.not_true, Bool.and_true, Bool.and_false, Bool.true_and, Bool.false_and, decide_true, decide_false] <;> first | done | decide) | (simp only [sNum, sGo, uV, gS, gP, gQ, gE, gec, gsc, gvl, gL, gT, c1, c7, c15, c21, c27, c34, eq_self, ↓reduceIte, Bool.false_eq_true, Bool.not_false, Bool.not_true, Bool.and_true, Bool.and_false, Bool.true_and, Bool.false_and, decide_true, decide_false] <;> first | done | decide) | (simp [sNum, sGo, uV, gS, gP, gQ, gE, gec, gsc, gvl, gL, gT, c1, c7, c15, c21, c27, c34]; done) | (simp [sNum, sGo, uV, gS, gP, gQ, gE, gec, gsc, gvl, gL, gT, c1, c7, c15, c21, c27, eq_true c34]; done), by rw [ht]; exact hP, va_K.moved hW.alike hK, hD⟩, hS.F ht⟩) hS.2.2 dX1_number_125
  by_cases c40 : p0 = 6
  · refine lv_tableIn (off := 125) (tgt := 126) hx hb dX1_number_1 (by rw [c40]; decide) (by rw [c40]; decide) (by rw [c40]; rfl) (by decide) ?_
    refine lv_aload_n hx hb dX1_number_126 rfl (lv_at hl 0 rfl) ?_
    refine lv_iload_n hx hb dX1_number_127 rfl (lv_at hl 2 rfl) ?_
    refine lv_i2l hx hb dX1_number_128 rfl ?_
    refine lv_iload_n hx hb dX1_number_129 rfl (lv_at hl 3 rfl) ?_
    refine lv_i2l hx hb dX1_number_130 rfl ?_
    refine lv_lmul hx hb dX1_number_131 ?_
    refine lv_bipush (v := 16) hx hb dX1_number_132 (by decide) ?_
    refine lv_lshr hx hb dX1_number_134 rfl ?_
    refine lv_l2i hx hb dX1_number_135 rfl ?_
    have hf41 := xFree hD hS hA
    refine va_calli (va_runV (As := [.int (Int64.toInt32 (((Int32.toInt64 p1) * (Int32.toInt64 p2)) >>> (Int32.toInt64 16 &&& 63)))]) (rest := []) ⟨hx, hb, hml, hown, hts⟩ (k_wentWith l D F (sS, sP, sQ, sE, ec, sc, vl, LP, sT)  H.size (Int64.toInt32 (((Int32.toInt64 p1) * (Int32.toInt64 p2)) >>> (Int32.toInt64 16 &&& 63)))) (cwV 1 hts gX1_number_X1_wentWith rfl rfl rfl (by decide +kernel) ⟨Nat.le_of_ble_eq_true rfl, Nat.le_of_ble_eq_true rfl⟩) (xPre hN hK hP hD hS hA hZ _) rfl rfl hl.1 rfl (lv_room (Nat.le_of_ble_eq_true rfl)) dX1_number_136 ⟨Nat.le_of_ble_eq_true rfl, Nat.le_of_ble_eq_true rfl⟩) hS (fun q _ h => hf41 q h) hf41 (fun r42 v43 t45 H1 locs ht hvm hw44 hB hz1 hk1 hS => ?_)
    obtain ⟨hP1, hK1, hD1⟩ := hB
    rw [ht] at hP1
    replace hD1 := hD1.weaken (fun _ _ _ h => hf41 _ h)
    generalize H1 = H at hP1 hS ⊢
    obtain ⟨rfl, rfl⟩ := Prod.mk.inj (show (r42, v43) = (0, (sS, sP, sQ, sE, ec, sc, (Int64.toInt32 (((Int32.toInt64 p1) * (Int32.toInt64 p2)) >>> (Int32.toInt64 16 &&& 63))), LP, sT)) from hw44)
    have hP : va_P D vwCl (xW F (sS, sP, sQ, sE, ec, sc, (Int64.toInt32 (((Int32.toInt64 p1) * (Int32.toInt64 p2)) >>> (Int32.toInt64 16 &&& 63))), LP, sT)) H := hP1
    have hD : va_D A (xW F (sS, sP, sQ, sE, ec, sc, (Int64.toInt32 (((Int32.toInt64 p1) * (Int32.toInt64 p2)) >>> (Int32.toInt64 16 &&& 63))), LP, sT)) := hD1
    exact W.iret (v := 0) hx hb hr (fun tE ht hW => ⟨⟨0, (sS, sP, sQ, sE, ec, sc, (Int64.toInt32 (((Int32.toInt64 p1) * (Int32.toInt64 p2)) >>> (Int32.toInt64 16 &&& 63))), LP, sT), rfl, by first | (simp only [sNum, sGo, uV, gS, gP, gQ, gE, gec, gsc, gvl, gL, gT, c1, c7, c15, c21, c27, c34, eq_true c40, eq_self, ↓reduceIte, Bool.false_eq_true, Bool.not_false, Bool.not_true, Bool.and_true, Bool.and_false, Bool.true_and, Bool.false_and, decide_true, decide_false] <;> first | done | decide) | (simp only [sNum, sGo, uV, gS, gP, gQ, gE, gec, gsc, gvl, gL, gT, c1, c7, c15, c21, c27, c34, c40, eq_self, ↓reduceIte, Bool.false_eq_true, Bool.not_false, Bool.not_true, Bool.and_true, Bool.and_false, Bool.true_and, Bool.false_and, decide_true, decide_false] <;> first | done | decide) | (simp [sNum, sGo, uV, gS, gP, gQ, gE, gec, gsc, gvl, gL, gT, c1, c7, c15, c21, c27, c34, c40]; done) | (simp [sNum, sGo, uV, gS, gP, gQ, gE, gec, gsc, gvl, gL, gT, c1, c7, c15, c21, c27, c34, eq_true c40]; done), by rw [ht]; exact hP, va_K.moved hW.alike hK, hD⟩, hS.F ht⟩) hS.2.2 dX1_number_139
  by_cases c46 : p0 = 7
  · refine lv_tableIn (off := 139) (tgt := 140) hx hb dX1_number_1 (by rw [c46]; decide) (by rw [c46]; decide) (by rw [c46]; rfl) (by decide) ?_
    refine lv_aload_n hx hb dX1_number_140 rfl (lv_at hl 0 rfl) ?_
    refine lv_iload_n hx hb dX1_number_141 rfl (lv_at hl 2 rfl) ?_
    refine lv_i2f hx hb dX1_number_142 ?_
    refine lv_iload_n hx hb dX1_number_143 rfl (lv_at hl 3 rfl) ?_
    refine lv_i2f hx hb dX1_number_144 ?_
    refine lv_fcmp hx hb dX1_number_145 ?_
    refine lv_if_ne (tgt := 153) hx hb dX1_number_146 (by decide) (fun c47 => ?_) (fun c47 => ?_)
    · refine lv_iconst (v := 0) hx hb dX1_number_153 (by decide) ?_
      have hf48 := xFree hD hS hA
      refine va_calli (va_runV (As := [.int 0]) (rest := []) ⟨hx, hb, hml, hown, hts⟩ (k_wentWith l D F (sS, sP, sQ, sE, ec, sc, vl, LP, sT)  H.size 0) (cwV 1 hts gX1_number_X1_wentWith rfl rfl rfl (by decide +kernel) ⟨Nat.le_of_ble_eq_true rfl, Nat.le_of_ble_eq_true rfl⟩) (xPre hN hK hP hD hS hA hZ _) rfl rfl hl.1 rfl (lv_room (Nat.le_of_ble_eq_true rfl)) dX1_number_154 ⟨Nat.le_of_ble_eq_true rfl, Nat.le_of_ble_eq_true rfl⟩) hS (fun q _ h => hf48 q h) hf48 (fun r49 v50 t52 H1 locs ht hvm hw51 hB hz1 hk1 hS => ?_)
      obtain ⟨hP1, hK1, hD1⟩ := hB
      rw [ht] at hP1
      replace hD1 := hD1.weaken (fun _ _ _ h => hf48 _ h)
      generalize H1 = H at hP1 hS ⊢
      obtain ⟨rfl, rfl⟩ := Prod.mk.inj (show (r49, v50) = (0, (sS, sP, sQ, sE, ec, sc, 0, LP, sT)) from hw51)
      have hP : va_P D vwCl (xW F (sS, sP, sQ, sE, ec, sc, 0, LP, sT)) H := hP1
      have hD : va_D A (xW F (sS, sP, sQ, sE, ec, sc, 0, LP, sT)) := hD1
      exact W.iret (v := 0) hx hb hr (fun tE ht hW => ⟨⟨0, (sS, sP, sQ, sE, ec, sc, 0, LP, sT), rfl, by first | (simp only [sNum, sGo, uV, gS, gP, gQ, gE, gec, gsc, gvl, gL, gT, c1, c7, c15, c21, c27, c34, c40, eq_true c46, c47, eq_self, ↓reduceIte, Bool.false_eq_true, Bool.not_false, Bool.not_true, Bool.and_true, Bool.and_false, Bool.true_and, Bool.false_and, decide_true, decide_false] <;> first | done | decide) | (simp only [sNum, sGo, uV, gS, gP, gQ, gE, gec, gsc, gvl, gL, gT, c1, c7, c15, c21, c27, c34, c40, c46, c47, eq_self, ↓reduceIte, Bool.false_eq_true, Bool.not_false, Bool.not_true, Bool.and_true, Bool.and_false, Bool.true_and, Bool.false_and, decide_true, decide_false] <;> first | done | decide) | (simp [sNum, sGo, uV, gS, gP, gQ, gE, gec, gsc, gvl, gL, gT, c1, c7, c15, c21, c27, c34, c40, c46, c47]; done) | (simp [sNum, sGo, uV, gS, gP, gQ, gE, gec, gsc, gvl, gL, gT, c1, c7, c15, c21, c27, c34, c40, eq_true c46, c47]; done), by rw [ht]; exact hP, va_K.moved hW.alike hK, hD⟩, hS.F ht⟩) hS.2.2 dX1_number_157
    · refine lv_iconst (v := 1) hx hb dX1_number_149 (by decide) ?_
      refine lv_goto (tgt := 154) hx hb dX1_number_150 (by decide) ?_
      have hf53 := xFree hD hS hA
      refine va_calli (va_runV (As := [.int 1]) (rest := []) ⟨hx, hb, hml, hown, hts⟩ (k_wentWith l D F (sS, sP, sQ, sE, ec, sc, vl, LP, sT)  H.size 1) (cwV 1 hts gX1_number_X1_wentWith rfl rfl rfl (by decide +kernel) ⟨Nat.le_of_ble_eq_true rfl, Nat.le_of_ble_eq_true rfl⟩) (xPre hN hK hP hD hS hA hZ _) rfl rfl hl.1 rfl (lv_room (Nat.le_of_ble_eq_true rfl)) dX1_number_154 ⟨Nat.le_of_ble_eq_true rfl, Nat.le_of_ble_eq_true rfl⟩) hS (fun q _ h => hf53 q h) hf53 (fun r54 v55 t57 H1 locs ht hvm hw56 hB hz1 hk1 hS => ?_)
      obtain ⟨hP1, hK1, hD1⟩ := hB
      rw [ht] at hP1
      replace hD1 := hD1.weaken (fun _ _ _ h => hf53 _ h)
      generalize H1 = H at hP1 hS ⊢
      obtain ⟨rfl, rfl⟩ := Prod.mk.inj (show (r54, v55) = (0, (sS, sP, sQ, sE, ec, sc, 1, LP, sT)) from hw56)
      have hP : va_P D vwCl (xW F (sS, sP, sQ, sE, ec, sc, 1, LP, sT)) H := hP1
      have hD : va_D A (xW F (sS, sP, sQ, sE, ec, sc, 1, LP, sT)) := hD1
      exact W.iret (v := 0) hx hb hr (fun tE ht hW => ⟨⟨0, (sS, sP, sQ, sE, ec, sc, 1, LP, sT), rfl, by first | (simp only [sNum, sGo, uV, gS, gP, gQ, gE, gec, gsc, gvl, gL, gT, c1, c7, c15, c21, c27, c34, c40, eq_true c46, eq_true c47, eq_self, ↓reduceIte, Bool.false_eq_true, Bool.not_false, Bool.not_true, Bool.and_true, Bool.and_false, Bool.true_and, Bool.false_and, decide_true, decide_false] <;> first | done | decide) | (simp only [sNum, sGo, uV, gS, gP, gQ, gE, gec, gsc, gvl, gL, gT, c1, c7, c15, c21, c27, c34, c40, c46, c47, eq_self, ↓reduceIte, Bool.false_eq_true, Bool.not_false, Bool.not_true, Bool.and_true, Bool.and_false, Bool.true_and, Bool.false_and, decide_true, decide_false] <;> first | done | decide) | (simp [sNum, sGo, uV, gS, gP, gQ, gE, gec, gsc, gvl, gL, gT, c1, c7, c15, c21, c27, c34, c40, c46, c47]; done) | (simp [sNum, sGo, uV, gS, gP, gQ, gE, gec, gsc, gvl, gL, gT, c1, c7, c15, c21, c27, c34, c40, eq_true c46, eq_true c47]; done), by rw [ht]; exact hP, va_K.moved hW.alike hK, hD⟩, hS.F ht⟩) hS.2.2 dX1_number_157
  by_cases c58 : p0 = 8
  · refine lv_tableIn (off := 157) (tgt := 158) hx hb dX1_number_1 (by rw [c58]; decide) (by rw [c58]; decide) (by rw [c58]; rfl) (by decide) ?_
    refine lv_aload_n hx hb dX1_number_158 rfl (lv_at hl 0 rfl) ?_
    refine lv_iload_n hx hb dX1_number_159 rfl (lv_at hl 2 rfl) ?_
    refine lv_i2d hx hb dX1_number_160 ?_
    refine lv_ldc2d (v := 4604930618986332160) hx hb hown (hts (.constantDouble RX1 107 4604930618986332160) (by decide +kernel)) dX1_number_161 ?_
    refine lv_dmul hx hb dX1_number_164 (nn_dmul _) ?_
    refine lv_d2i hx hb dX1_number_165 ?_
    have hf59 := xFree hD hS hA
    refine va_calli (va_runV (As := [.int (FP.d2i (FP.dmul (FP.i2d p1) 4604930618986332160))]) (rest := []) ⟨hx, hb, hml, hown, hts⟩ (k_wentWith l D F (sS, sP, sQ, sE, ec, sc, vl, LP, sT)  H.size (FP.d2i (FP.dmul (FP.i2d p1) 4604930618986332160))) (cwV 1 hts gX1_number_X1_wentWith rfl rfl rfl (by decide +kernel) ⟨Nat.le_of_ble_eq_true rfl, Nat.le_of_ble_eq_true rfl⟩) (xPre hN hK hP hD hS hA hZ _) rfl rfl hl.1 rfl (lv_room (Nat.le_of_ble_eq_true rfl)) dX1_number_166 ⟨Nat.le_of_ble_eq_true rfl, Nat.le_of_ble_eq_true rfl⟩) hS (fun q _ h => hf59 q h) hf59 (fun r60 v61 t63 H1 locs ht hvm hw62 hB hz1 hk1 hS => ?_)
    obtain ⟨hP1, hK1, hD1⟩ := hB
    rw [ht] at hP1
    replace hD1 := hD1.weaken (fun _ _ _ h => hf59 _ h)
    generalize H1 = H at hP1 hS ⊢
    obtain ⟨rfl, rfl⟩ := Prod.mk.inj (show (r60, v61) = (0, (sS, sP, sQ, sE, ec, sc, (FP.d2i (FP.dmul (FP.i2d p1) 4604930618986332160)), LP, sT)) from hw62)
    have hP : va_P D vwCl (xW F (sS, sP, sQ, sE, ec, sc, (FP.d2i (FP.dmul (FP.i2d p1) 4604930618986332160)), LP, sT)) H := hP1
    have hD : va_D A (xW F (sS, sP, sQ, sE, ec, sc, (FP.d2i (FP.dmul (FP.i2d p1) 4604930618986332160)), LP, sT)) := hD1
    exact W.iret (v := 0) hx hb hr (fun tE ht hW => ⟨⟨0, (sS, sP, sQ, sE, ec, sc, (FP.d2i (FP.dmul (FP.i2d p1) 4604930618986332160)), LP, sT), rfl, by first | (simp only [sNum, sGo, uV, gS, gP, gQ, gE, gec, gsc, gvl, gL, gT, c1, c7, c15, c21, c27, c34, c40, c46, eq_true c58, eq_self, ↓reduceIte, Bool.false_eq_true, Bool.not_false, Bool.not_true, Bool.and_true, Bool.and_false, Bool.true_and, Bool.false_and, decide_true, decide_false] <;> first | done | decide) | (simp only [sNum, sGo, uV, gS, gP, gQ, gE, gec, gsc, gvl, gL, gT, c1, c7, c15, c21, c27, c34, c40, c46, c58, eq_self, ↓reduceIte, Bool.false_eq_true, Bool.not_false, Bool.not_true, Bool.and_true, Bool.and_false, Bool.true_and, Bool.false_and, decide_true, decide_false] <;> first | done | decide) | (simp [sNum, sGo, uV, gS, gP, gQ, gE, gec, gsc, gvl, gL, gT, c1, c7, c15, c21, c27, c34, c40, c46, c58]; done) | (simp [sNum, sGo, uV, gS, gP, gQ, gE, gec, gsc, gvl, gL, gT, c1, c7, c15, c21, c27, c34, c40, c46, eq_true c58]; done), by rw [ht]; exact hP, va_K.moved hW.alike hK, hD⟩, hS.F ht⟩) hS.2.2 dX1_number_169
  by_cases c64 : p0 = 9
  · refine lv_tableIn (off := 169) (tgt := 170) hx hb dX1_number_1 (by rw [c64]; decide) (by rw [c64]; decide) (by rw [c64]; rfl) (by decide) ?_
    refine lv_aload_n hx hb dX1_number_170 rfl (lv_at hl 0 rfl) ?_
    refine lv_iload_n hx hb dX1_number_171 rfl (lv_at hl 2 rfl) ?_
    refine vp_callSi (va_Run.run (va_runS (As := [.int p1]) (rest := [.ref F.1]) ⟨hx, hb, hml, hown, hts⟩ (k_decimalLength l p1) (va_cwS 1 hts gX1_number_X1_decimalLength rfl rfl rfl (by decide +kernel) ⟨Nat.le_of_ble_eq_true rfl, Nat.le_of_ble_eq_true rfl⟩) preEq rfl rfl hl.1 rfl (lv_room (Nat.le_of_ble_eq_true rfl)) dX1_number_172 ⟨Nat.le_of_ble_eq_true rfl, Nat.le_of_ble_eq_true rfl⟩)) (fun r65 hw66 => ?_)
    subst hw66
    refine lv_iconst (v := 1) hx hb dX1_number_175 (by decide) ?_
    refine lv_iadd hx hb dX1_number_176 ?_
    refine lv_iload_n hx hb dX1_number_177 rfl (lv_at hl 3 rfl) ?_
    refine vp_callSi (va_Run.run (va_runS (As := [.int p2]) (rest := [.int ((fDec p1) + 1), .ref F.1]) ⟨hx, hb, hml, hown, hts⟩ (k_decimalLength l p2) (va_cwS 1 hts gX1_number_X1_decimalLength rfl rfl rfl (by decide +kernel) ⟨Nat.le_of_ble_eq_true rfl, Nat.le_of_ble_eq_true rfl⟩) preEq rfl rfl hl.1 rfl (lv_room (Nat.le_of_ble_eq_true rfl)) dX1_number_178 ⟨Nat.le_of_ble_eq_true rfl, Nat.le_of_ble_eq_true rfl⟩)) (fun r67 hw68 => ?_)
    subst hw68
    refine lv_iadd hx hb dX1_number_181 ?_
    have hf69 := xFree hD hS hA
    refine va_calli (va_runV (As := [.int (((fDec p1) + 1) + (fDec p2))]) (rest := []) ⟨hx, hb, hml, hown, hts⟩ (k_wentWith l D F (sS, sP, sQ, sE, ec, sc, vl, LP, sT)  H.size (((fDec p1) + 1) + (fDec p2))) (cwV 1 hts gX1_number_X1_wentWith rfl rfl rfl (by decide +kernel) ⟨Nat.le_of_ble_eq_true rfl, Nat.le_of_ble_eq_true rfl⟩) (xPre hN hK hP hD hS hA hZ _) rfl rfl hl.1 rfl (lv_room (Nat.le_of_ble_eq_true rfl)) dX1_number_182 ⟨Nat.le_of_ble_eq_true rfl, Nat.le_of_ble_eq_true rfl⟩) hS (fun q _ h => hf69 q h) hf69 (fun r70 v71 t73 H1 locs ht hvm hw72 hB hz1 hk1 hS => ?_)
    obtain ⟨hP1, hK1, hD1⟩ := hB
    rw [ht] at hP1
    replace hD1 := hD1.weaken (fun _ _ _ h => hf69 _ h)
    generalize H1 = H at hP1 hS ⊢
    obtain ⟨rfl, rfl⟩ := Prod.mk.inj (show (r70, v71) = (0, (sS, sP, sQ, sE, ec, sc, (((fDec p1) + 1) + (fDec p2)), LP, sT)) from hw72)
    have hP : va_P D vwCl (xW F (sS, sP, sQ, sE, ec, sc, (((fDec p1) + 1) + (fDec p2)), LP, sT)) H := hP1
    have hD : va_D A (xW F (sS, sP, sQ, sE, ec, sc, (((fDec p1) + 1) + (fDec p2)), LP, sT)) := hD1
    exact W.iret (v := 0) hx hb hr (fun tE ht hW => ⟨⟨0, (sS, sP, sQ, sE, ec, sc, (((fDec p1) + 1) + (fDec p2)), LP, sT), rfl, by first | (simp only [sNum, sGo, uV, gS, gP, gQ, gE, gec, gsc, gvl, gL, gT, c1, c7, c15, c21, c27, c34, c40, c46, c58, eq_true c64, eq_self, ↓reduceIte, Bool.false_eq_true, Bool.not_false, Bool.not_true, Bool.and_true, Bool.and_false, Bool.true_and, Bool.false_and, decide_true, decide_false] <;> first | done | decide) | (simp only [sNum, sGo, uV, gS, gP, gQ, gE, gec, gsc, gvl, gL, gT, c1, c7, c15, c21, c27, c34, c40, c46, c58, c64, eq_self, ↓reduceIte, Bool.false_eq_true, Bool.not_false, Bool.not_true, Bool.and_true, Bool.and_false, Bool.true_and, Bool.false_and, decide_true, decide_false] <;> first | done | decide) | (simp [sNum, sGo, uV, gS, gP, gQ, gE, gec, gsc, gvl, gL, gT, c1, c7, c15, c21, c27, c34, c40, c46, c58, c64]; done) | (simp [sNum, sGo, uV, gS, gP, gQ, gE, gec, gsc, gvl, gL, gT, c1, c7, c15, c21, c27, c34, c40, c46, c58, eq_true c64]; done), by rw [ht]; exact hP, va_K.moved hW.alike hK, hD⟩, hS.F ht⟩) hS.2.2 dX1_number_185
  refine lv_tableOut (tgt := 186) hx hb dX1_number_1 (by have z0 := lv_neT (k := 0) (a := 0) c1 (by decide); have z1 := lv_neT (k := 1) (a := 1) c7 (by decide); have z2 := lv_neT (k := 2) (a := 2) c15 (by decide); have z3 := lv_neT (k := 3) (a := 3) c21 (by decide); have z4 := lv_neT (k := 4) (a := 4) c27 (by decide); have z5 := lv_neT (k := 5) (a := 5) c34 (by decide); have z6 := lv_neT (k := 6) (a := 6) c40 (by decide); have z7 := lv_neT (k := 7) (a := 7) c46 (by decide); have z8 := lv_neT (k := 8) (a := 8) c58 (by decide); have z9 := lv_neT (k := 9) (a := 9) c64 (by decide); omega) (by decide) ?_
  refine lv_iconst (v := (-1)) hx hb dX1_number_186 (by decide) ?_
  exact W.iret (v := (-1)) hx hb hr (fun tE ht hW => ⟨⟨(-1), (sS, sP, sQ, sE, ec, sc, vl, LP, sT), rfl, by first | (simp only [sNum, sGo, uV, gS, gP, gQ, gE, gec, gsc, gvl, gL, gT, c1, c7, c15, c21, c27, c34, c40, c46, c58, c64, eq_self, ↓reduceIte, Bool.false_eq_true, Bool.not_false, Bool.not_true, Bool.and_true, Bool.and_false, Bool.true_and, Bool.false_and, decide_true, decide_false] <;> first | done | decide) | (simp [sNum, sGo, uV, gS, gP, gQ, gE, gec, gsc, gvl, gL, gT, c1, c7, c15, c21, c27, c34, c40, c46, c58, c64]; done), by rw [ht]; exact hP, va_K.moved hW.alike hK, hD⟩, hS.F ht⟩) hS.2.2 dX1_number_187
