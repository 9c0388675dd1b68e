set_option maxHeartbeats 8000000 in
set_option maxRecDepth 100000 in
theorem k_divideNoting (l : Launch) (D : va_G) (F : XF) (u : XS) (sz : Nat) (p0 : Int32) (p1 : Int32) : Met l yX1_divideNoting wsX1_divideNoting ({ frames := 1, cells := 0, slots := 0, locals := 21 }) (xPc D F u sz [.ref F.1, .int p0, .int p1]) (va_Qi (fun (r : Int32) (v : XS) => (r, v) = sDiv u p0 p1) (xB D F (va_A (xW F u) sz)) (va_A (xW F u) sz)) 0 0 (va_A (xW F u) sz) := by
  obtain ⟨sS, sP, sQ, sE, ec, sc, vl, LP, sT⟩ := u
  refine Met.ofW (cc := cX1_divideNoting) (maxL := 4) (ret := (some .int)) (by decide) rfl ?_
  intro p e s m args below meth c s₁ B hml hv
  obtain ⟨rfl, hsz, hP, hK, hD0, hN, hZ⟩ := hv
  have hx := B.exec
  have hb := B.bytes
  have hr := B.returns
  have hts := atoms_spec (ws := wsX1_divideNoting) B.pre
  have hown : s.vm.findClass RX1 = some m.cls := findClass_of_methodNamed B.named
  have hlocks := B.notSynchronized
  subst hsz
  have hD := hD0.self (sz := s.heap.size)
  generalize hAe : va_A (xW F (sS, sP, sQ, sE, ec, sc, vl, LP, sT)) s.heap.size = A at hD hZ ⊢
  have hA : ∀ q : Nat, s.heap.size ≤ q → A q := fun q h => by rw [← hAe]; exact Or.inr h
  have hS : va_S A s.heap s.heap [] := va_S.rf
  obtain ⟨tk, tm, tr, hztk, httk, hztm, httm, hztr, httr⟩ := id hZ
  refine xHeap (C := fun H => va_P D vwCl (xW F (sS, sP, sQ, sE, ec, sc, vl, LP, sT)) H ∧ va_S A s.heap H []) ⟨hP, hS⟩ (fun H hC => ?_)
  obtain ⟨hP, hS⟩ := hC
  have hl := lv_entry ([.ref F.1, .int p0, .int p1]) (n := 4) (Nat.le_of_ble_eq_true rfl)
  rw [lg_entry_eq]
  generalize (lg_sl ([.ref F.1, .int p0, .int p1]) ++ List.replicate (4 - (lg_sl ([.ref F.1, .int p0, .int p1])).length) Slot.unset).toArray = ls at hl ⊢
  have hl : lv_has ls 4 [(0, .ref F.1), (1, .int p0), (2, .int p1)] := hl
  refine lv_iload_n hx hb dX1_divideNoting_0 rfl (lv_at hl 2 rfl) ?_
  refine lv_if_ne (tgt := 8) hx hb dX1_divideNoting_1 (by decide) (fun c1 => ?_) (fun c1 => ?_)
  · refine lv_iload_n hx hb dX1_divideNoting_8 rfl (lv_at hl 1 rfl) ?_
    refine lv_iload_n hx hb dX1_divideNoting_9 rfl (lv_at hl 2 rfl) ?_
    refine lv_idiv hx hb dX1_divideNoting_10 c1 ?_
    refine lv_istore_n (lv' := [(3, .int (p0 / p1)), (0, .ref F.1), (1, .int p0), (2, .int p1)]) hx hb dX1_divideNoting_11 rfl hl (by decide) rfl (fun ls hl => ?_)
    refine lv_aload_n hx hb dX1_divideNoting_12 rfl (lv_at hl 1 rfl) ?_
    refine lv_iconst (v := 1) hx hb dX1_divideNoting_13 (by decide) ?_
    have hf2 := xFree hD hS hA
    refine va_callv (va_runV (As := [.int 1]) (rest := []) ⟨hx, hb, hml, hown, hts⟩ (k_note l D F (sS, sP, sQ, sE, ec, sc, vl, LP, sT)  H.size 1) (cwV 1 hts gX1_divideNoting_X1_note rfl rfl rfl (by decide +kernel) ⟨Nat.le_of_ble_eq_true rfl, Nat.le_of_ble_eq_true rfl⟩) (xPre hN hK hP hD hS hA hZ _) rfl rfl hl.1 rfl (lv_room (Nat.le_of_ble_eq_true rfl)) dX1_divideNoting_14 ⟨Nat.le_of_ble_eq_true rfl, Nat.le_of_ble_eq_true rfl⟩) hS (fun q _ h => hf2 q h) hf2 (fun v4 t6 H1 locs ht hvm hw5 hB hz1 hk1 hS => ?_)
    obtain ⟨hP1, hK1, hD1⟩ := hB
    rw [ht] at hP1
    replace hD1 := hD1.weaken (fun _ _ _ h => hf2 _ h)
    generalize H1 = H at hP1 hS ⊢
    obtain rfl := (show v4 = (sS, sP, sQ, (upd sE (ec &&& 15).toNatClampNeg 1), (ec + 1), sc, vl, LP, sT) from hw5)
    have hP : va_P D vwCl (xW F (sS, sP, sQ, (upd sE (ec &&& 15).toNatClampNeg 1), (ec + 1), sc, vl, LP, sT)) H := hP1
    have hD : va_D A (xW F (sS, sP, sQ, (upd sE (ec &&& 15).toNatClampNeg 1), (ec + 1), sc, vl, LP, sT)) := hD1
    refine lv_iload_n hx hb dX1_divideNoting_17 rfl (lv_at hl 0 rfl) ?_
    exact W.iret (v := (p0 / p1)) hx hb hr (fun tE ht hW => ⟨⟨(p0 / p1), (sS, sP, sQ, (upd sE (ec &&& 15).toNatClampNeg 1), (ec + 1), sc, vl, LP, sT), rfl, by first | (simp only [sDiv, uN, gS, gP, gQ, gE, gec, gsc, gvl, gL, gT, c1, eq_self, ↓reduceIte, Bool.false_eq_true, Bool.not_false, Bool.not_true, Bool.and_true, Bool.and_false, Bool.true_and, Bool.false_and, decide_true, decide_false] <;> first | done | decide) | (simp [sDiv, uN, gS, gP, gQ, gE, gec, gsc, gvl, gL, gT, c1]; done), by rw [ht]; exact hP, va_K.moved hW.alike hK, hD⟩, hS.F ht⟩) hS.2.2 dX1_divideNoting_18
  · refine lv_iconst (v := (-1)) hx hb dX1_divideNoting_4 (by decide) ?_
    refine lv_goto (tgt := 11) hx hb dX1_divideNoting_5 (by decide) ?_
    refine lv_istore_n (lv' := [(3, .int (-1)), (0, .ref F.1), (1, .int p0), (2, .int p1)]) hx hb dX1_divideNoting_11 rfl hl (by decide) rfl (fun ls hl => ?_)
    refine lv_aload_n hx hb dX1_divideNoting_12 rfl (lv_at hl 1 rfl) ?_
    refine lv_iconst (v := 1) hx hb dX1_divideNoting_13 (by decide) ?_
    have hf7 := xFree hD hS hA
    refine va_callv (va_runV (As := [.int 1]) (rest := []) ⟨hx, hb, hml, hown, hts⟩ (k_note l D F (sS, sP, sQ, sE, ec, sc, vl, LP, sT)  H.size 1) (cwV 1 hts gX1_divideNoting_X1_note rfl rfl rfl (by decide +kernel) ⟨Nat.le_of_ble_eq_true rfl, Nat.le_of_ble_eq_true rfl⟩) (xPre hN hK hP hD hS hA hZ _) rfl rfl hl.1 rfl (lv_room (Nat.le_of_ble_eq_true rfl)) dX1_divideNoting_14 ⟨Nat.le_of_ble_eq_true rfl, Nat.le_of_ble_eq_true rfl⟩) hS (fun q _ h => hf7 q h) hf7 (fun v9 t11 H1 locs ht hvm hw10 hB hz1 hk1 hS => ?_)
    obtain ⟨hP1, hK1, hD1⟩ := hB
    rw [ht] at hP1
    replace hD1 := hD1.weaken (fun _ _ _ h => hf7 _ h)
    generalize H1 = H at hP1 hS ⊢
    obtain rfl := (show v9 = (sS, sP, sQ, (upd sE (ec &&& 15).toNatClampNeg 1), (ec + 1), sc, vl, LP, sT) from hw10)
    have hP : va_P D vwCl (xW F (sS, sP, sQ, (upd sE (ec &&& 15).toNatClampNeg 1), (ec + 1), sc, vl, LP, sT)) H := hP1
    have hD : va_D A (xW F (sS, sP, sQ, (upd sE (ec &&& 15).toNatClampNeg 1), (ec + 1), sc, vl, LP, sT)) := hD1
    refine lv_iload_n hx hb dX1_divideNoting_17 rfl (lv_at hl 0 rfl) ?_
    exact W.iret (v := (-1)) hx hb hr (fun tE ht hW => ⟨⟨(-1), (sS, sP, sQ, (upd sE (ec &&& 15).toNatClampNeg 1), (ec + 1), sc, vl, LP, sT), rfl, by first | (simp only [sDiv, uN, gS, gP, gQ, gE, gec, gsc, gvl, gL, gT, eq_true c1, eq_self, ↓reduceIte, Bool.false_eq_true, Bool.not_false, Bool.not_true, Bool.and_true, Bool.and_false, Bool.true_and, Bool.false_and, decide_true, decide_false] <;> first | done | decide) | (simp only [sDiv, uN, gS, gP, gQ, gE, gec, gsc, gvl, gL, gT, c1, eq_self, ↓reduceIte, Bool.false_eq_true, Bool.not_false, Bool.not_true, Bool.and_true, Bool.and_false, Bool.true_and, Bool.false_and, decide_true, decide_false] <;> first | done | decide) | (simp [sDiv, uN, gS, gP, gQ, gE, gec, gsc, gvl, gL, gT, c1]; done) | (simp [sDiv, uN, gS, gP, gQ, gE, gec, gsc, gvl, gL, gT, eq_true c1]; done), by rw [ht]; exact hP, va_K.moved hW.alike hK, hD⟩, hS.F ht⟩) hS.2.2 dX1_divideNoting_18
set_option maxHeartbeats 8000000 in
set_option maxRecDepth 100000 in
theorem k_countTurns (l : Launch) (D : va_G) (F : XF) (u : XS) (sz : Nat) (p0 : Int32) (p1 : Int32) : Met l yX1_countTurns wsX1_countTurns ({ frames := 1, cells := 0, slots := 0, locals := 21 }) (xPc D F u sz [.ref F.1, .int p0, .int p1]) (va_Qi (fun (r : Int32) (v : XS) => (r, v) = sTurn u p0 p1) (xB D F (va_A (xW F u) sz)) (va_A (xW F u) sz)) 0 0 (va_A (xW F u) sz) := by
  obtain ⟨sS, sP, sQ, sE, ec, sc, vl, LP, sT⟩ := u
  refine Met.ofW (cc := cX1_countTurns) (maxL := 6) (ret := (some .int)) (by decide) rfl ?_
  intro p e s m args below meth c s₁ B hml hv
  obtain ⟨rfl, hsz, hP, hK, hD0, hN, hZ⟩ := hv
  have hx := B.exec
  have hb := B.bytes
  have hr := B.returns
  have hts := atoms_spec (ws := wsX1_countTurns) B.pre
  have hown : s.vm.findClass RX1 = some m.cls := findClass_of_methodNamed B.named
  have hlocks := B.notSynchronized
  subst hsz
  have hD := hD0.self (sz := s.heap.size)
  generalize hAe : va_A (xW F (sS, sP, sQ, sE, ec, sc, vl, LP, sT)) s.heap.size = A at hD hZ ⊢
  have hA : ∀ q : Nat, s.heap.size ≤ q → A q := fun q h => by rw [← hAe]; exact Or.inr h
  have hS : va_S A s.heap s.heap [] := va_S.rf
  obtain ⟨tk, tm, tr, hztk, httk, hztm, httm, hztr, httr⟩ := id hZ
  refine xHeap (C := fun H => va_P D vwCl (xW F (sS, sP, sQ, sE, ec, sc, vl, LP, sT)) H ∧ va_S A s.heap H []) ⟨hP, hS⟩ (fun H hC => ?_)
  obtain ⟨hP, hS⟩ := hC
  have hl := lv_entry ([.ref F.1, .int p0, .int p1]) (n := 6) (Nat.le_of_ble_eq_true rfl)
  rw [lg_entry_eq]
  generalize (lg_sl ([.ref F.1, .int p0, .int p1]) ++ List.replicate (6 - (lg_sl ([.ref F.1, .int p0, .int p1])).length) Slot.unset).toArray = ls at hl ⊢
  have hl : lv_has ls 6 [(0, .ref F.1), (1, .int p0), (2, .int p1)] := hl
  refine lv_iconst (v := 0) hx hb dX1_countTurns_0 (by decide) ?_
  refine lv_istore_n (lv' := [(3, .int 0), (0, .ref F.1), (1, .int p0), (2, .int p1)]) hx hb dX1_countTurns_1 rfl hl (by decide) rfl (fun ls hl => ?_)
  refine lv_iconst (v := 0) hx hb dX1_countTurns_2 (by decide) ?_
  refine lv_istore (lv' := [(4, .int 0), (3, .int 0), (0, .ref F.1), (1, .int p0), (2, .int p1)]) hx hb dX1_countTurns_3 hl (by decide) rfl (fun ls hl => ?_)
  refine lv_iconst (v := 1) hx hb dX1_countTurns_5 (by decide) ?_
  refine lv_istore (lv' := [(5, .int 1), (4, .int 0), (3, .int 0), (0, .ref F.1), (1, .int p0), (2, .int p1)]) hx hb dX1_countTurns_6 hl (by decide) rfl (fun ls hl => ?_)
  refine lv_iload hx hb dX1_countTurns_8 (lv_at hl 0 rfl) ?_
  refine lv_iconst (v := 5) hx hb dX1_countTurns_10 (by decide) ?_
  refine lv_icmp_gt (tgt := 63) hx hb dX1_countTurns_11 (by decide) (fun cz => absurd cz (by decide)) (fun _ => ?_)
  refine lv_iload hx hb dX1_countTurns_14 (lv_at hl 1 rfl) ?_
  refine lv_if_ne (tgt := 63) hx hb dX1_countTurns_16 (by decide) (fun cz => absurd cz (by decide)) (fun _ => ?_)
  refine lv_iload hx hb dX1_countTurns_19 (lv_at hl 0 rfl) ?_
  refine lv_iload_n hx hb dX1_countTurns_21 rfl (lv_at hl 4 rfl) ?_
  refine lv_icmp_eq (tgt := 51) hx hb dX1_countTurns_22 (by decide) (fun c1 => ?_) (fun c1 => ?_)
  · refine lv_aload_n hx hb dX1_countTurns_51 rfl (lv_at hl 3 rfl) ?_
    refine lv_iload hx hb dX1_countTurns_52 (lv_at hl 0 rfl) ?_
    have hf2 := xFree hD hS hA
    refine va_callv (va_runV (As := [.int 1]) (rest := []) ⟨hx, hb, hml, hown, hts⟩ (k_note l D F (sS, sP, sQ, sE, ec, sc, vl, LP, sT)  H.size 1) (cwV 1 hts gX1_countTurns_X1_note rfl rfl rfl (by decide +kernel) ⟨Nat.le_of_ble_eq_true rfl, Nat.le_of_ble_eq_true rfl⟩) (xPre hN hK hP hD hS hA hZ _) rfl rfl hl.1 rfl (lv_room (Nat.le_of_ble_eq_true rfl)) dX1_countTurns_54 ⟨Nat.le_of_ble_eq_true rfl, Nat.le_of_ble_eq_true rfl⟩) hS (fun q _ h => hf2 q h) hf2 (fun v4 t6 H1 locs ht hvm hw5 hB hz1 hk1 hS => ?_)
    obtain ⟨hP1, hK1, hD1⟩ := hB
    rw [ht] at hP1
    replace hD1 := hD1.weaken (fun _ _ _ h => hf2 _ h)
    generalize H1 = H at hP1 hS ⊢
    obtain rfl := (show v4 = (sS, sP, sQ, (upd sE (ec &&& 15).toNatClampNeg 1), (ec + 1), sc, vl, LP, sT) from hw5)
    have hP : va_P D vwCl (xW F (sS, sP, sQ, (upd sE (ec &&& 15).toNatClampNeg 1), (ec + 1), sc, vl, LP, sT)) H := hP1
    have hD : va_D A (xW F (sS, sP, sQ, (upd sE (ec &&& 15).toNatClampNeg 1), (ec + 1), sc, vl, LP, sT)) := hD1
    refine lv_iinc (v := 2) (lv' := [(5, .int 2), (4, .int 0), (3, .int 0), (0, .ref F.1), (1, .int p0), (2, .int p1)]) hx hb dX1_countTurns_57 hl (k := 0) rfl (by decide) (by decide) rfl (fun ls hl => ?_)
    refine lv_goto (tgt := 8) hx hb dX1_countTurns_60 (by decide) ?_
    refine lv_iload hx hb dX1_countTurns_8 (lv_at hl 0 rfl) ?_
    refine lv_iconst (v := 5) hx hb dX1_countTurns_10 (by decide) ?_
    refine lv_icmp_gt (tgt := 63) hx hb dX1_countTurns_11 (by decide) (fun cz => absurd cz (by decide)) (fun _ => ?_)
    refine lv_iload hx hb dX1_countTurns_14 (lv_at hl 1 rfl) ?_
    refine lv_if_ne (tgt := 63) hx hb dX1_countTurns_16 (by decide) (fun cz => absurd cz (by decide)) (fun _ => ?_)
    refine lv_iload hx hb dX1_countTurns_19 (lv_at hl 0 rfl) ?_
    refine lv_iload_n hx hb dX1_countTurns_21 rfl (lv_at hl 4 rfl) ?_
    have c7 : ¬ 2 = p0 := (by rw [← c1]; decide)
    refine lv_icmp_eq (tgt := 51) hx hb dX1_countTurns_22 (by decide) (fun cz => absurd cz c7) (fun _ => ?_)
    refine lv_iload hx hb dX1_countTurns_25 (lv_at hl 0 rfl) ?_
    refine lv_iload_n hx hb dX1_countTurns_27 rfl (lv_at hl 5 rfl) ?_
    refine lv_icmp_ne (tgt := 35) hx hb dX1_countTurns_28 (by decide) (fun c8 => ?_) (fun c8 => ?_)
    · refine lv_iconst (v := 0) hx hb dX1_countTurns_35 (by decide) ?_
      refine lv_istore (lv' := [(4, .int 0), (5, .int 2), (3, .int 0), (0, .ref F.1), (1, .int p0), (2, .int p1)]) hx hb dX1_countTurns_36 hl (by decide) rfl (fun ls hl => ?_)
      refine lv_iload_n hx hb dX1_countTurns_38 rfl (lv_at hl 2 rfl) ?_
      refine lv_iload hx hb dX1_countTurns_39 (lv_at hl 0 rfl) ?_
      refine lv_if_eq (tgt := 48) hx hb dX1_countTurns_41 (by decide) (fun _ => ?_) (fun cz => absurd cz (by decide))
      refine lv_iconst (v := 1) hx hb dX1_countTurns_48 (by decide) ?_
      refine lv_iadd hx hb dX1_countTurns_49 ?_
      refine lv_istore_n (lv' := [(3, .int (0 + 1)), (4, .int 0), (5, .int 2), (0, .ref F.1), (1, .int p0), (2, .int p1)]) hx hb dX1_countTurns_50 rfl hl (by decide) rfl (fun ls hl => ?_)
      refine lv_aload_n hx hb dX1_countTurns_51 rfl (lv_at hl 3 rfl) ?_
      refine lv_iload hx hb dX1_countTurns_52 (lv_at hl 2 rfl) ?_
      have hf9 := xFree hD hS hA
      refine va_callv (va_runV (As := [.int 2]) (rest := []) ⟨hx, hb, hml, hown, hts⟩ (k_note l D F (sS, sP, sQ, (upd sE (ec &&& 15).toNatClampNeg 1), (ec + 1), sc, vl, LP, sT)  H.size 2) (cwV 1 hts gX1_countTurns_X1_note rfl rfl rfl (by decide +kernel) ⟨Nat.le_of_ble_eq_true rfl, Nat.le_of_ble_eq_true rfl⟩) (xPre hN hK hP hD hS hA hZ _) rfl rfl hl.1 rfl (lv_room (Nat.le_of_ble_eq_true rfl)) dX1_countTurns_54 ⟨Nat.le_of_ble_eq_true rfl, Nat.le_of_ble_eq_true rfl⟩) hS (fun q _ h => hf9 q h) hf9 (fun v11 t13 H1 locs ht hvm hw12 hB hz1 hk1 hS => ?_)
      obtain ⟨hP1, hK1, hD1⟩ := hB
      rw [ht] at hP1
      replace hD1 := hD1.weaken (fun _ _ _ h => hf9 _ h)
      generalize H1 = H at hP1 hS ⊢
      obtain rfl := (show v11 = (sS, sP, sQ, (upd (upd sE (ec &&& 15).toNatClampNeg 1) ((ec + 1) &&& 15).toNatClampNeg 2), ((ec + 1) + 1), sc, vl, LP, sT) from hw12)
      have hP : va_P D vwCl (xW F (sS, sP, sQ, (upd (upd sE (ec &&& 15).toNatClampNeg 1) ((ec + 1) &&& 15).toNatClampNeg 2), ((ec + 1) + 1), sc, vl, LP, sT)) H := hP1
      have hD : va_D A (xW F (sS, sP, sQ, (upd (upd sE (ec &&& 15).toNatClampNeg 1) ((ec + 1) &&& 15).toNatClampNeg 2), ((ec + 1) + 1), sc, vl, LP, sT)) := hD1
      refine lv_iinc (v := 3) (lv' := [(5, .int 3), (3, .int (0 + 1)), (4, .int 0), (0, .ref F.1), (1, .int p0), (2, .int p1)]) hx hb dX1_countTurns_57 hl (k := 2) rfl (by decide) (by decide) rfl (fun ls hl => ?_)
      refine lv_goto (tgt := 8) hx hb dX1_countTurns_60 (by decide) ?_
      refine lv_iload hx hb dX1_countTurns_8 (lv_at hl 0 rfl) ?_
      refine lv_iconst (v := 5) hx hb dX1_countTurns_10 (by decide) ?_
      refine lv_icmp_gt (tgt := 63) hx hb dX1_countTurns_11 (by decide) (fun cz => absurd cz (by decide)) (fun _ => ?_)
      refine lv_iload hx hb dX1_countTurns_14 (lv_at hl 2 rfl) ?_
      refine lv_if_ne (tgt := 63) hx hb dX1_countTurns_16 (by decide) (fun cz => absurd cz (by decide)) (fun _ => ?_)
      refine lv_iload hx hb dX1_countTurns_19 (lv_at hl 0 rfl) ?_
      refine lv_iload_n hx hb dX1_countTurns_21 rfl (lv_at hl 4 rfl) ?_
      have c14 : ¬ 3 = p0 := (by rw [← c1]; decide)
      refine lv_icmp_eq (tgt := 51) hx hb dX1_countTurns_22 (by decide) (fun cz => absurd cz c14) (fun _ => ?_)
      refine lv_iload hx hb dX1_countTurns_25 (lv_at hl 0 rfl) ?_
      refine lv_iload_n hx hb dX1_countTurns_27 rfl (lv_at hl 5 rfl) ?_
      refine lv_icmp_ne (tgt := 35) hx hb dX1_countTurns_28 (by decide) (fun c15 => ?_) (fun c15 => ?_)
      · refine lv_iconst (v := 0) hx hb dX1_countTurns_35 (by decide) ?_
        refine lv_istore (lv' := [(4, .int 0), (5, .int 3), (3, .int (0 + 1)), (0, .ref F.1), (1, .int p0), (2, .int p1)]) hx hb dX1_countTurns_36 hl (by decide) rfl (fun ls hl => ?_)
        refine lv_iload_n hx hb dX1_countTurns_38 rfl (lv_at hl 2 rfl) ?_
        refine lv_iload hx hb dX1_countTurns_39 (lv_at hl 0 rfl) ?_
        refine lv_if_eq (tgt := 48) hx hb dX1_countTurns_41 (by decide) (fun _ => ?_) (fun cz => absurd cz (by decide))
        refine lv_iconst (v := 1) hx hb dX1_countTurns_48 (by decide) ?_
        refine lv_iadd hx hb dX1_countTurns_49 ?_
        refine lv_istore_n (lv' := [(3, .int ((0 + 1) + 1)), (4, .int 0), (5, .int 3), (0, .ref F.1), (1, .int p0), (2, .int p1)]) hx hb dX1_countTurns_50 rfl hl (by decide) rfl (fun ls hl => ?_)
        refine lv_aload_n hx hb dX1_countTurns_51 rfl (lv_at hl 3 rfl) ?_
        refine lv_iload hx hb dX1_countTurns_52 (lv_at hl 2 rfl) ?_
        have hf16 := xFree hD hS hA
        refine va_callv (va_runV (As := [.int 3]) (rest := []) ⟨hx, hb, hml, hown, hts⟩ (k_note l D F (sS, sP, sQ, (upd (upd sE (ec &&& 15).toNatClampNeg 1) ((ec + 1) &&& 15).toNatClampNeg 2), ((ec + 1) + 1), sc, vl, LP, sT)  H.size 3) (cwV 1 hts gX1_countTurns_X1_note rfl rfl rfl (by decide +kernel) ⟨Nat.le_of_ble_eq_true rfl, Nat.le_of_ble_eq_true rfl⟩) (xPre hN hK hP hD hS hA hZ _) rfl rfl hl.1 rfl (lv_room (Nat.le_of_ble_eq_true rfl)) dX1_countTurns_54 ⟨Nat.le_of_ble_eq_true rfl, Nat.le_of_ble_eq_true rfl⟩) hS (fun q _ h => hf16 q h) hf16 (fun v18 t20 H1 locs ht hvm hw19 hB hz1 hk1 hS => ?_)
        obtain ⟨hP1, hK1, hD1⟩ := hB
        rw [ht] at hP1
        replace hD1 := hD1.weaken (fun _ _ _ h => hf16 _ h)
        generalize H1 = H at hP1 hS ⊢
        obtain rfl := (show v18 = (sS, sP, sQ, (upd (upd (upd sE (ec &&& 15).toNatClampNeg 1) ((ec + 1) &&& 15).toNatClampNeg 2) (((ec + 1) + 1) &&& 15).toNatClampNeg 3), (((ec + 1) + 1) + 1), sc, vl, LP, sT) from hw19)
        have hP : va_P D vwCl (xW F (sS, sP, sQ, (upd (upd (upd sE (ec &&& 15).toNatClampNeg 1) ((ec + 1) &&& 15).toNatClampNeg 2) (((ec + 1) + 1) &&& 15).toNatClampNeg 3), (((ec + 1) + 1) + 1), sc, vl, LP, sT)) H := hP1
        have hD : va_D A (xW F (sS, sP, sQ, (upd (upd (upd sE (ec &&& 15).toNatClampNeg 1) ((ec + 1) &&& 15).toNatClampNeg 2) (((ec + 1) + 1) &&& 15).toNatClampNeg 3), (((ec + 1) + 1) + 1), sc, vl, LP, sT)) := hD1
        refine lv_iinc (v := 4) (lv' := [(5, .int 4), (3, .int ((0 + 1) + 1)), (4, .int 0), (0, .ref F.1), (1, .int p0), (2, .int p1)]) hx hb dX1_countTurns_57 hl (k := 2) rfl (by decide) (by decide) rfl (fun ls hl => ?_)
        refine lv_goto (tgt := 8) hx hb dX1_countTurns_60 (by decide) ?_
        refine lv_iload hx hb dX1_countTurns_8 (lv_at hl 0 rfl) ?_
        refine lv_iconst (v := 5) hx hb dX1_countTurns_10 (by decide) ?_
        refine lv_icmp_gt (tgt := 63) hx hb dX1_countTurns_11 (by decide) (fun cz => absurd cz (by decide)) (fun _ => ?_)
        refine lv_iload hx hb dX1_countTurns_14 (lv_at hl 2 rfl) ?_
        refine lv_if_ne (tgt := 63) hx hb dX1_countTurns_16 (by decide) (fun cz => absurd cz (by decide)) (fun _ => ?_)
        refine lv_iload hx hb dX1_countTurns_19 (lv_at hl 0 rfl) ?_
        refine lv_iload_n hx hb dX1_countTurns_21 rfl (lv_at hl 4 rfl) ?_
        have c21 : ¬ 4 = p0 := (by rw [← c1]; decide)
        refine lv_icmp_eq (tgt := 51) hx hb dX1_countTurns_22 (by decide) (fun cz => absurd cz c21) (fun _ => ?_)
        refine lv_iload hx hb dX1_countTurns_25 (lv_at hl 0 rfl) ?_
        refine lv_iload_n hx hb dX1_countTurns_27 rfl (lv_at hl 5 rfl) ?_
        refine lv_icmp_ne (tgt := 35) hx hb dX1_countTurns_28 (by decide) (fun c22 => ?_) (fun c22 => ?_)
        · refine lv_iconst (v := 0) hx hb dX1_countTurns_35 (by decide) ?_
          refine lv_istore (lv' := [(4, .int 0), (5, .int 4), (3, .int ((0 + 1) + 1)), (0, .ref F.1), (1, .int p0), (2, .int p1)]) hx hb dX1_countTurns_36 hl (by decide) rfl (fun ls hl => ?_)
          refine lv_iload_n hx hb dX1_countTurns_38 rfl (lv_at hl 2 rfl) ?_
          refine lv_iload hx hb dX1_countTurns_39 (lv_at hl 0 rfl) ?_
          refine lv_if_eq (tgt := 48) hx hb dX1_countTurns_41 (by decide) (fun _ => ?_) (fun cz => absurd cz (by decide))
          refine lv_iconst (v := 1) hx hb dX1_countTurns_48 (by decide) ?_
          refine lv_iadd hx hb dX1_countTurns_49 ?_
          refine lv_istore_n (lv' := [(3, .int (((0 + 1) + 1) + 1)), (4, .int 0), (5, .int 4), (0, .ref F.1), (1, .int p0), (2, .int p1)]) hx hb dX1_countTurns_50 rfl hl (by decide) rfl (fun ls hl => ?_)
          refine lv_aload_n hx hb dX1_countTurns_51 rfl (lv_at hl 3 rfl) ?_
          refine lv_iload hx hb dX1_countTurns_52 (lv_at hl 2 rfl) ?_
          have hf23 := xFree hD hS hA
          refine va_callv (va_runV (As := [.int 4]) (rest := []) ⟨hx, hb, hml, hown, hts⟩ (k_note l D F (sS, sP, sQ, (upd (upd (upd sE (ec &&& 15).toNatClampNeg 1) ((ec + 1) &&& 15).toNatClampNeg 2) (((ec + 1) + 1) &&& 15).toNatClampNeg 3), (((ec + 1) + 1) + 1), sc, vl, LP, sT)  H.size 4) (cwV 1 hts gX1_countTurns_X1_note rfl rfl rfl (by decide +kernel) ⟨Nat.le_of_ble_eq_true rfl, Nat.le_of_ble_eq_true rfl⟩) (xPre hN hK hP hD hS hA hZ _) rfl rfl hl.1 rfl (lv_room (Nat.le_of_ble_eq_true rfl)) dX1_countTurns_54 ⟨Nat.le_of_ble_eq_true rfl, Nat.le_of_ble_eq_true rfl⟩) hS (fun q _ h => hf23 q h) hf23 (fun v25 t27 H1 locs ht hvm hw26 hB hz1 hk1 hS => ?_)
          obtain ⟨hP1, hK1, hD1⟩ := hB
          rw [ht] at hP1
          replace hD1 := hD1.weaken (fun _ _ _ h => hf23 _ h)
          generalize H1 = H at hP1 hS ⊢
          obtain rfl := (show v25 = (sS, sP, sQ, (upd (upd (upd (upd sE (ec &&& 15).toNatClampNeg 1) ((ec + 1) &&& 15).toNatClampNeg 2) (((ec + 1) + 1) &&& 15).toNatClampNeg 3) ((((ec + 1) + 1) + 1) &&& 15).toNatClampNeg 4), ((((ec + 1) + 1) + 1) + 1), sc, vl, LP, sT) from hw26)
          have hP : va_P D vwCl (xW F (sS, sP, sQ, (upd (upd (upd (upd sE (ec &&& 15).toNatClampNeg 1) ((ec + 1) &&& 15).toNatClampNeg 2) (((ec + 1) + 1) &&& 15).toNatClampNeg 3) ((((ec + 1) + 1) + 1) &&& 15).toNatClampNeg 4), ((((ec + 1) + 1) + 1) + 1), sc, vl, LP, sT)) H := hP1
          have hD : va_D A (xW F (sS, sP, sQ, (upd (upd (upd (upd sE (ec &&& 15).toNatClampNeg 1) ((ec + 1) &&& 15).toNatClampNeg 2) (((ec + 1) + 1) &&& 15).toNatClampNeg 3) ((((ec + 1) + 1) + 1) &&& 15).toNatClampNeg 4), ((((ec + 1) + 1) + 1) + 1), sc, vl, LP, sT)) := hD1
          refine lv_iinc (v := 5) (lv' := [(5, .int 5), (3, .int (((0 + 1) + 1) + 1)), (4, .int 0), (0, .ref F.1), (1, .int p0), (2, .int p1)]) hx hb dX1_countTurns_57 hl (k := 2) rfl (by decide) (by decide) rfl (fun ls hl => ?_)
          refine lv_goto (tgt := 8) hx hb dX1_countTurns_60 (by decide) ?_
          refine lv_iload hx hb dX1_countTurns_8 (lv_at hl 0 rfl) ?_
          refine lv_iconst (v := 5) hx hb dX1_countTurns_10 (by decide) ?_
          refine lv_icmp_gt (tgt := 63) hx hb dX1_countTurns_11 (by decide) (fun cz => absurd cz (by decide)) (fun _ => ?_)
          refine lv_iload hx hb dX1_countTurns_14 (lv_at hl 2 rfl) ?_
          refine lv_if_ne (tgt := 63) hx hb dX1_countTurns_16 (by decide) (fun cz => absurd cz (by decide)) (fun _ => ?_)
          refine lv_iload hx hb dX1_countTurns_19 (lv_at hl 0 rfl) ?_
          refine lv_iload_n hx hb dX1_countTurns_21 rfl (lv_at hl 4 rfl) ?_
          have c28 : ¬ 5 = p0 := (by rw [← c1]; decide)
          refine lv_icmp_eq (tgt := 51) hx hb dX1_countTurns_22 (by decide) (fun cz => absurd cz c28) (fun _ => ?_)
          refine lv_iload hx hb dX1_countTurns_25 (lv_at hl 0 rfl) ?_
          refine lv_iload_n hx hb dX1_countTurns_27 rfl (lv_at hl 5 rfl) ?_
          refine lv_icmp_ne (tgt := 35) hx hb dX1_countTurns_28 (by decide) (fun c29 => ?_) (fun c29 => ?_)
          · refine lv_iconst (v := 0) hx hb dX1_countTurns_35 (by decide) ?_
            refine lv_istore (lv' := [(4, .int 0), (5, .int 5), (3, .int (((0 + 1) + 1) + 1)), (0, .ref F.1), (1, .int p0), (2, .int p1)]) hx hb dX1_countTurns_36 hl (by decide) rfl (fun ls hl => ?_)
            refine lv_iload_n hx hb dX1_countTurns_38 rfl (lv_at hl 2 rfl) ?_
            refine lv_iload hx hb dX1_countTurns_39 (lv_at hl 0 rfl) ?_
            refine lv_if_eq (tgt := 48) hx hb dX1_countTurns_41 (by decide) (fun _ => ?_) (fun cz => absurd cz (by decide))
            refine lv_iconst (v := 1) hx hb dX1_countTurns_48 (by decide) ?_
            refine lv_iadd hx hb dX1_countTurns_49 ?_
            refine lv_istore_n (lv' := [(3, .int ((((0 + 1) + 1) + 1) + 1)), (4, .int 0), (5, .int 5), (0, .ref F.1), (1, .int p0), (2, .int p1)]) hx hb dX1_countTurns_50 rfl hl (by decide) rfl (fun ls hl => ?_)
            refine lv_aload_n hx hb dX1_countTurns_51 rfl (lv_at hl 3 rfl) ?_
            refine lv_iload hx hb dX1_countTurns_52 (lv_at hl 2 rfl) ?_
            have hf30 := xFree hD hS hA
            refine va_callv (va_runV (As := [.int 5]) (rest := []) ⟨hx, hb, hml, hown, hts⟩ (k_note l D F (sS, sP, sQ, (upd (upd (upd (upd sE (ec &&& 15).toNatClampNeg 1) ((ec + 1) &&& 15).toNatClampNeg 2) (((ec + 1) + 1) &&& 15).toNatClampNeg 3) ((((ec + 1) + 1) + 1) &&& 15).toNatClampNeg 4), ((((ec + 1) + 1) + 1) + 1), sc, vl, LP, sT)  H.size 5) (cwV 1 hts gX1_countTurns_X1_note rfl rfl rfl (by decide +kernel) ⟨Nat.le_of_ble_eq_true rfl, Nat.le_of_ble_eq_true rfl⟩) (xPre hN hK hP hD hS hA hZ _) rfl rfl hl.1 rfl (lv_room (Nat.le_of_ble_eq_true rfl)) dX1_countTurns_54 ⟨Nat.le_of_ble_eq_true rfl, Nat.le_of_ble_eq_true rfl⟩) hS (fun q _ h => hf30 q h) hf30 (fun v32 t34 H1 locs ht hvm hw33 hB hz1 hk1 hS => ?_)
            obtain ⟨hP1, hK1, hD1⟩ := hB
            rw [ht] at hP1
            replace hD1 := hD1.weaken (fun _ _ _ h => hf30 _ h)
            generalize H1 = H at hP1 hS ⊢
            obtain rfl := (show v32 = (sS, sP, sQ, (upd (upd (upd (upd (upd sE (ec &&& 15).toNatClampNeg 1) ((ec + 1) &&& 15).toNatClampNeg 2) (((ec + 1) + 1) &&& 15).toNatClampNeg 3) ((((ec + 1) + 1) + 1) &&& 15).toNatClampNeg 4) (((((ec + 1) + 1) + 1) + 1) &&& 15).toNatClampNeg 5), (((((ec + 1) + 1) + 1) + 1) + 1), sc, vl, LP, sT) from hw33)
            have hP : va_P D vwCl (xW F (sS, sP, sQ, (upd (upd (upd (upd (upd sE (ec &&& 15).toNatClampNeg 1) ((ec + 1) &&& 15).toNatClampNeg 2) (((ec + 1) + 1) &&& 15).toNatClampNeg 3) ((((ec + 1) + 1) + 1) &&& 15).toNatClampNeg 4) (((((ec + 1) + 1) + 1) + 1) &&& 15).toNatClampNeg 5), (((((ec + 1) + 1) + 1) + 1) + 1), sc, vl, LP, sT)) H := hP1
            have hD : va_D A (xW F (sS, sP, sQ, (upd (upd (upd (upd (upd sE (ec &&& 15).toNatClampNeg 1) ((ec + 1) &&& 15).toNatClampNeg 2) (((ec + 1) + 1) &&& 15).toNatClampNeg 3) ((((ec + 1) + 1) + 1) &&& 15).toNatClampNeg 4) (((((ec + 1) + 1) + 1) + 1) &&& 15).toNatClampNeg 5), (((((ec + 1) + 1) + 1) + 1) + 1), sc, vl, LP, sT)) := hD1
            refine lv_iinc (v := 6) (lv' := [(5, .int 6), (3, .int ((((0 + 1) + 1) + 1) + 1)), (4, .int 0), (0, .ref F.1), (1, .int p0), (2, .int p1)]) hx hb dX1_countTurns_57 hl (k := 2) rfl (by decide) (by decide) rfl (fun ls hl => ?_)
            refine lv_goto (tgt := 8) hx hb dX1_countTurns_60 (by decide) ?_
            refine lv_iload hx hb dX1_countTurns_8 (lv_at hl 0 rfl) ?_
            refine lv_iconst (v := 5) hx hb dX1_countTurns_10 (by decide) ?_
            refine lv_icmp_gt (tgt := 63) hx hb dX1_countTurns_11 (by decide) (fun _ => ?_) (fun cz => absurd cz (by decide))
            refine lv_iload_n hx hb dX1_countTurns_63 rfl (lv_at hl 1 rfl) ?_
            exact W.iret (v := ((((0 + 1) + 1) + 1) + 1)) hx hb hr (fun tE ht hW => ⟨⟨((((0 + 1) + 1) + 1) + 1), (sS, sP, sQ, (upd (upd (upd (upd (upd sE (ec &&& 15).toNatClampNeg 1) ((ec + 1) &&& 15).toNatClampNeg 2) (((ec + 1) + 1) &&& 15).toNatClampNeg 3) ((((ec + 1) + 1) + 1) &&& 15).toNatClampNeg 4) (((((ec + 1) + 1) + 1) + 1) &&& 15).toNatClampNeg 5), (((((ec + 1) + 1) + 1) + 1) + 1), sc, vl, LP, sT), rfl, by first | (simp only [sTurn, tS, uN, gS, gP, gQ, gE, gec, gsc, gvl, gL, gT, eq_true c1, c7, c8, c14, c15, c21, c22, c28, c29, eq_self, ↓reduceIte, Bool.false_eq_true, Bool.not_false, Bool.not_true, Bool.and_true, Bool.and_false, Bool.true_and, Bool.false_and, decide_true, decide_false] <;> first | done | decide) | (simp only [sTurn, tS, uN, gS, gP, gQ, gE, gec, gsc, gvl, gL, gT, c1, c7, c8, c14, c15, c21, c22, c28, c29, eq_self, ↓reduceIte, Bool.false_eq_true, Bool.not_false, Bool.not_true, Bool.and_true, Bool.and_false, Bool.true_and, Bool.false_and, decide_true, decide_false] <;> first | done | decide) | (simp [sTurn, tS, uN, gS, gP, gQ, gE, gec, gsc, gvl, gL, gT, c1, c7, c8, c14, c15, c21, c22, c28, c29]; done) | (simp [sTurn, tS, uN, gS, gP, gQ, gE, gec, gsc, gvl, gL, gT, eq_true c1, c7, c8, c14, c15, c21, c22, c28, c29]; done), by rw [ht]; exact hP, va_K.moved hW.alike hK, hD⟩, hS.F ht⟩) hS.2.2 dX1_countTurns_64
          · refine lv_iconst (v := 1) hx hb dX1_countTurns_31 (by decide) ?_
            refine lv_goto (tgt := 36) hx hb dX1_countTurns_32 (by decide) ?_
            refine lv_istore (lv' := [(4, .int 1), (5, .int 5), (3, .int (((0 + 1) + 1) + 1)), (0, .ref F.1), (1, .int p0), (2, .int p1)]) hx hb dX1_countTurns_36 hl (by decide) rfl (fun ls hl => ?_)
            refine lv_iload_n hx hb dX1_countTurns_38 rfl (lv_at hl 2 rfl) ?_
            refine lv_iload hx hb dX1_countTurns_39 (lv_at hl 0 rfl) ?_
            refine lv_if_eq (tgt := 48) hx hb dX1_countTurns_41 (by decide) (fun cz => absurd cz (by decide)) (fun _ => ?_)
            refine lv_iconst (v := 0) hx hb dX1_countTurns_44 (by decide) ?_
            refine lv_goto (tgt := 49) hx hb dX1_countTurns_45 (by decide) ?_
            refine lv_iadd hx hb dX1_countTurns_49 ?_
            refine lv_istore_n (lv' := [(3, .int ((((0 + 1) + 1) + 1) + 0)), (4, .int 1), (5, .int 5), (0, .ref F.1), (1, .int p0), (2, .int p1)]) hx hb dX1_countTurns_50 rfl hl (by decide) rfl (fun ls hl => ?_)
            refine lv_aload_n hx hb dX1_countTurns_51 rfl (lv_at hl 3 rfl) ?_
            refine lv_iload hx hb dX1_countTurns_52 (lv_at hl 2 rfl) ?_
            have hf35 := xFree hD hS hA
            refine va_callv (va_runV (As := [.int 5]) (rest := []) ⟨hx, hb, hml, hown, hts⟩ (k_note l D F (sS, sP, sQ, (upd (upd (upd (upd sE (ec &&& 15).toNatClampNeg 1) ((ec + 1) &&& 15).toNatClampNeg 2) (((ec + 1) + 1) &&& 15).toNatClampNeg 3) ((((ec + 1) + 1) + 1) &&& 15).toNatClampNeg 4), ((((ec + 1) + 1) + 1) + 1), sc, vl, LP, sT)  H.size 5) (cwV 1 hts gX1_countTurns_X1_note rfl rfl rfl (by decide +kernel) ⟨Nat.le_of_ble_eq_true rfl, Nat.le_of_ble_eq_true rfl⟩) (xPre hN hK hP hD hS hA hZ _) rfl rfl hl.1 rfl (lv_room (Nat.le_of_ble_eq_true rfl)) dX1_countTurns_54 ⟨Nat.le_of_ble_eq_true rfl, Nat.le_of_ble_eq_true rfl⟩) hS (fun q _ h => hf35 q h) hf35 (fun v37 t39 H1 locs ht hvm hw38 hB hz1 hk1 hS => ?_)
            obtain ⟨hP1, hK1, hD1⟩ := hB
            rw [ht] at hP1
            replace hD1 := hD1.weaken (fun _ _ _ h => hf35 _ h)
            generalize H1 = H at hP1 hS ⊢
            obtain rfl := (show v37 = (sS, sP, sQ, (upd (upd (upd (upd (upd sE (ec &&& 15).toNatClampNeg 1) ((ec + 1) &&& 15).toNatClampNeg 2) (((ec + 1) + 1) &&& 15).toNatClampNeg 3) ((((ec + 1) + 1) + 1) &&& 15).toNatClampNeg 4) (((((ec + 1) + 1) + 1) + 1) &&& 15).toNatClampNeg 5), (((((ec + 1) + 1) + 1) + 1) + 1), sc, vl, LP, sT) from hw38)
            have hP : va_P D vwCl (xW F (sS, sP, sQ, (upd (upd (upd (upd (upd sE (ec &&& 15).toNatClampNeg 1) ((ec + 1) &&& 15).toNatClampNeg 2) (((ec + 1) + 1) &&& 15).toNatClampNeg 3) ((((ec + 1) + 1) + 1) &&& 15).toNatClampNeg 4) (((((ec + 1) + 1) + 1) + 1) &&& 15).toNatClampNeg 5), (((((ec + 1) + 1) + 1) + 1) + 1), sc, vl, LP, sT)) H := hP1
            have hD : va_D A (xW F (sS, sP, sQ, (upd (upd (upd (upd (upd sE (ec &&& 15).toNatClampNeg 1) ((ec + 1) &&& 15).toNatClampNeg 2) (((ec + 1) + 1) &&& 15).toNatClampNeg 3) ((((ec + 1) + 1) + 1) &&& 15).toNatClampNeg 4) (((((ec + 1) + 1) + 1) + 1) &&& 15).toNatClampNeg 5), (((((ec + 1) + 1) + 1) + 1) + 1), sc, vl, LP, sT)) := hD1
            refine lv_iinc (v := 6) (lv' := [(5, .int 6), (3, .int ((((0 + 1) + 1) + 1) + 0)), (4, .int 1), (0, .ref F.1), (1, .int p0), (2, .int p1)]) hx hb dX1_countTurns_57 hl (k := 2) rfl (by decide) (by decide) rfl (fun ls hl => ?_)
            refine lv_goto (tgt := 8) hx hb dX1_countTurns_60 (by decide) ?_
            refine lv_iload hx hb dX1_countTurns_8 (lv_at hl 0 rfl) ?_
            refine lv_iconst (v := 5) hx hb dX1_countTurns_10 (by decide) ?_
            refine lv_icmp_gt (tgt := 63) hx hb dX1_countTurns_11 (by decide) (fun _ => ?_) (fun cz => absurd cz (by decide))
            refine lv_iload_n hx hb dX1_countTurns_63 rfl (lv_at hl 1 rfl) ?_
            exact W.iret (v := ((((0 + 1) + 1) + 1) + 0)) hx hb hr (fun tE ht hW => ⟨⟨((((0 + 1) + 1) + 1) + 0), (sS, sP, sQ, (upd (upd (upd (upd (upd sE (ec &&& 15).toNatClampNeg 1) ((ec + 1) &&& 15).toNatClampNeg 2) (((ec + 1) + 1) &&& 15).toNatClampNeg 3) ((((ec + 1) + 1) + 1) &&& 15).toNatClampNeg 4) (((((ec + 1) + 1) + 1) + 1) &&& 15).toNatClampNeg 5), (((((ec + 1) + 1) + 1) + 1) + 1), sc, vl, LP, sT), rfl, by first | (simp only [sTurn, tS, uN, gS, gP, gQ, gE, gec, gsc, gvl, gL, gT, eq_true c1, c7, c8, c14, c15, c21, c22, c28, eq_true c29, eq_self, ↓reduceIte, Bool.false_eq_true, Bool.not_false, Bool.not_true, Bool.and_true, Bool.and_false, Bool.true_and, Bool.false_and, decide_true, decide_false] <;> first | done | decide) | (simp only [sTurn, tS, uN, gS, gP, gQ, gE, gec, gsc, gvl, gL, gT, c1, c7, c8, c14, c15, c21, c22, c28, c29, eq_self, ↓reduceIte, Bool.false_eq_true, Bool.not_false, Bool.not_true, Bool.and_true, Bool.and_false, Bool.true_and, Bool.false_and, decide_true, decide_false] <;> first | done | decide) | (simp [sTurn, tS, uN, gS, gP, gQ, gE, gec, gsc, gvl, gL, gT, c1, c7, c8, c14, c15, c21, c22, c28, c29]; done) | (simp [sTurn, tS, uN, gS, gP, gQ, gE, gec, gsc, gvl, gL, gT, eq_true c1, c7, c8, c14, c15, c21, c22, c28, eq_true c29]; done), by rw [ht]; exact hP, va_K.moved hW.alike hK, hD⟩, hS.F ht⟩) hS.2.2 dX1_countTurns_64
        · refine lv_iconst (v := 1) hx hb dX1_countTurns_31 (by decide) ?_
          refine lv_goto (tgt := 36) hx hb dX1_countTurns_32 (by decide) ?_
          refine lv_istore (lv' := [(4, .int 1), (5, .int 4), (3, .int ((0 + 1) + 1)), (0, .ref F.1), (1, .int p0), (2, .int p1)]) hx hb dX1_countTurns_36 hl (by decide) rfl (fun ls hl => ?_)
          refine lv_iload_n hx hb dX1_countTurns_38 rfl (lv_at hl 2 rfl) ?_
          refine lv_iload hx hb dX1_countTurns_39 (lv_at hl 0 rfl) ?_
          refine lv_if_eq (tgt := 48) hx hb dX1_countTurns_41 (by decide) (fun cz => absurd cz (by decide)) (fun _ => ?_)
          refine lv_iconst (v := 0) hx hb dX1_countTurns_44 (by decide) ?_
          refine lv_goto (tgt := 49) hx hb dX1_countTurns_45 (by decide) ?_
          refine lv_iadd hx hb dX1_countTurns_49 ?_
          refine lv_istore_n (lv' := [(3, .int (((0 + 1) + 1) + 0)), (4, .int 1), (5, .int 4), (0, .ref F.1), (1, .int p0), (2, .int p1)]) hx hb dX1_countTurns_50 rfl hl (by decide) rfl (fun ls hl => ?_)
          refine lv_aload_n hx hb dX1_countTurns_51 rfl (lv_at hl 3 rfl) ?_
          refine lv_iload hx hb dX1_countTurns_52 (lv_at hl 2 rfl) ?_
          have hf40 := xFree hD hS hA
          refine va_callv (va_runV (As := [.int 4]) (rest := []) ⟨hx, hb, hml, hown, hts⟩ (k_note l D F (sS, sP, sQ, (upd (upd (upd sE (ec &&& 15).toNatClampNeg 1) ((ec + 1) &&& 15).toNatClampNeg 2) (((ec + 1) + 1) &&& 15).toNatClampNeg 3), (((ec + 1) + 1) + 1), sc, vl, LP, sT)  H.size 4) (cwV 1 hts gX1_countTurns_X1_note rfl rfl rfl (by decide +kernel) ⟨Nat.le_of_ble_eq_true rfl, Nat.le_of_ble_eq_true rfl⟩) (xPre hN hK hP hD hS hA hZ _) rfl rfl hl.1 rfl (lv_room (Nat.le_of_ble_eq_true rfl)) dX1_countTurns_54 ⟨Nat.le_of_ble_eq_true rfl, Nat.le_of_ble_eq_true rfl⟩) hS (fun q _ h => hf40 q h) hf40 (fun v42 t44 H1 locs ht hvm hw43 hB hz1 hk1 hS => ?_)
          obtain ⟨hP1, hK1, hD1⟩ := hB
          rw [ht] at hP1
          replace hD1 := hD1.weaken (fun _ _ _ h => hf40 _ h)
          generalize H1 = H at hP1 hS ⊢
          obtain rfl := (show v42 = (sS, sP, sQ, (upd (upd (upd (upd sE (ec &&& 15).toNatClampNeg 1) ((ec + 1) &&& 15).toNatClampNeg 2) (((ec + 1) + 1) &&& 15).toNatClampNeg 3) ((((ec + 1) + 1) + 1) &&& 15).toNatClampNeg 4), ((((ec + 1) + 1) + 1) + 1), sc, vl, LP, sT) from hw43)
          have hP : va_P D vwCl (xW F (sS, sP, sQ, (upd (upd (upd (upd sE (ec &&& 15).toNatClampNeg 1) ((ec + 1) &&& 15).toNatClampNeg 2) (((ec + 1) + 1) &&& 15).toNatClampNeg 3) ((((ec + 1) + 1) + 1) &&& 15).toNatClampNeg 4), ((((ec + 1) + 1) + 1) + 1), sc, vl, LP, sT)) H := hP1
          have hD : va_D A (xW F (sS, sP, sQ, (upd (upd (upd (upd sE (ec &&& 15).toNatClampNeg 1) ((ec + 1) &&& 15).toNatClampNeg 2) (((ec + 1) + 1) &&& 15).toNatClampNeg 3) ((((ec + 1) + 1) + 1) &&& 15).toNatClampNeg 4), ((((ec + 1) + 1) + 1) + 1), sc, vl, LP, sT)) := hD1
          refine lv_iinc (v := 5) (lv' := [(5, .int 5), (3, .int (((0 + 1) + 1) + 0)), (4, .int 1), (0, .ref F.1), (1, .int p0), (2, .int p1)]) hx hb dX1_countTurns_57 hl (k := 2) rfl (by decide) (by decide) rfl (fun ls hl => ?_)
          refine lv_goto (tgt := 8) hx hb dX1_countTurns_60 (by decide) ?_
          refine lv_iload hx hb dX1_countTurns_8 (lv_at hl 0 rfl) ?_
          refine lv_iconst (v := 5) hx hb dX1_countTurns_10 (by decide) ?_
          refine lv_icmp_gt (tgt := 63) hx hb dX1_countTurns_11 (by decide) (fun cz => absurd cz (by decide)) (fun _ => ?_)
          refine lv_iload hx hb dX1_countTurns_14 (lv_at hl 2 rfl) ?_
          refine lv_if_ne (tgt := 63) hx hb dX1_countTurns_16 (by decide) (fun _ => ?_) (fun cz => absurd cz (by decide))
          refine lv_iload_n hx hb dX1_countTurns_63 rfl (lv_at hl 1 rfl) ?_
          exact W.iret (v := (((0 + 1) + 1) + 0)) hx hb hr (fun tE ht hW => ⟨⟨(((0 + 1) + 1) + 0), (sS, sP, sQ, (upd (upd (upd (upd sE (ec &&& 15).toNatClampNeg 1) ((ec + 1) &&& 15).toNatClampNeg 2) (((ec + 1) + 1) &&& 15).toNatClampNeg 3) ((((ec + 1) + 1) + 1) &&& 15).toNatClampNeg 4), ((((ec + 1) + 1) + 1) + 1), sc, vl, LP, sT), rfl, by first | (simp only [sTurn, tS, uN, gS, gP, gQ, gE, gec, gsc, gvl, gL, gT, eq_true c1, c7, c8, c14, c15, c21, eq_true c22, eq_self, ↓reduceIte, Bool.false_eq_true, Bool.not_false, Bool.not_true, Bool.and_true, Bool.and_false, Bool.true_and, Bool.false_and, decide_true, decide_false] <;> first | done | decide) | (simp only [sTurn, tS, uN, gS, gP, gQ, gE, gec, gsc, gvl, gL, gT, c1, c7, c8, c14, c15, c21, c22, eq_self, ↓reduceIte, Bool.false_eq_true, Bool.not_false, Bool.not_true, Bool.and_true, Bool.and_false, Bool.true_and, Bool.false_and, decide_true, decide_false] <;> first | done | decide) | (simp [sTurn, tS, uN, gS, gP, gQ, gE, gec, gsc, gvl, gL, gT, c1, c7, c8, c14, c15, c21, c22]; done) | (simp [sTurn, tS, uN, gS, gP, gQ, gE, gec, gsc, gvl, gL, gT, eq_true c1, c7, c8, c14, c15, c21, eq_true c22]; done), by rw [ht]; exact hP, va_K.moved hW.alike hK, hD⟩, hS.F ht⟩) hS.2.2 dX1_countTurns_64
      · refine lv_iconst (v := 1) hx hb dX1_countTurns_31 (by decide) ?_
        refine lv_goto (tgt := 36) hx hb dX1_countTurns_32 (by decide) ?_
        refine lv_istore (lv' := [(4, .int 1), (5, .int 3), (3, .int (0 + 1)), (0, .ref F.1), (1, .int p0), (2, .int p1)]) hx hb dX1_countTurns_36 hl (by decide) rfl (fun ls hl => ?_)
        refine lv_iload_n hx hb dX1_countTurns_38 rfl (lv_at hl 2 rfl) ?_
        refine lv_iload hx hb dX1_countTurns_39 (lv_at hl 0 rfl) ?_
        refine lv_if_eq (tgt := 48) hx hb dX1_countTurns_41 (by decide) (fun cz => absurd cz (by decide)) (fun _ => ?_)
        refine lv_iconst (v := 0) hx hb dX1_countTurns_44 (by decide) ?_
        refine lv_goto (tgt := 49) hx hb dX1_countTurns_45 (by decide) ?_
        refine lv_iadd hx hb dX1_countTurns_49 ?_
        refine lv_istore_n (lv' := [(3, .int ((0 + 1) + 0)), (4, .int 1), (5, .int 3), (0, .ref F.1), (1, .int p0), (2, .int p1)]) hx hb dX1_countTurns_50 rfl hl (by decide) rfl (fun ls hl => ?_)
        refine lv_aload_n hx hb dX1_countTurns_51 rfl (lv_at hl 3 rfl) ?_
        refine lv_iload hx hb dX1_countTurns_52 (lv_at hl 2 rfl) ?_
        have hf45 := xFree hD hS hA
        refine va_callv (va_runV (As := [.int 3]) (rest := []) ⟨hx, hb, hml, hown, hts⟩ (k_note l D F (sS, sP, sQ, (upd (upd sE (ec &&& 15).toNatClampNeg 1) ((ec + 1) &&& 15).toNatClampNeg 2), ((ec + 1) + 1), sc, vl, LP, sT)  H.size 3) (cwV 1 hts gX1_countTurns_X1_note rfl rfl rfl (by decide +kernel) ⟨Nat.le_of_ble_eq_true rfl, Nat.le_of_ble_eq_true rfl⟩) (xPre hN hK hP hD hS hA hZ _) rfl rfl hl.1 rfl (lv_room (Nat.le_of_ble_eq_true rfl)) dX1_countTurns_54 ⟨Nat.le_of_ble_eq_true rfl, Nat.le_of_ble_eq_true rfl⟩) hS (fun q _ h => hf45 q h) hf45 (fun v47 t49 H1 locs ht hvm hw48 hB hz1 hk1 hS => ?_)
        obtain ⟨hP1, hK1, hD1⟩ := hB
        rw [ht] at hP1
        replace hD1 := hD1.weaken (fun _ _ _ h => hf45 _ h)
        generalize H1 = H at hP1 hS ⊢
        obtain rfl := (show v47 = (sS, sP, sQ, (upd (upd (upd sE (ec &&& 15).toNatClampNeg 1) ((ec + 1) &&& 15).toNatClampNeg 2) (((ec + 1) + 1) &&& 15).toNatClampNeg 3), (((ec + 1) + 1) + 1), sc, vl, LP, sT) from hw48)
        have hP : va_P D vwCl (xW F (sS, sP, sQ, (upd (upd (upd sE (ec &&& 15).toNatClampNeg 1) ((ec + 1) &&& 15).toNatClampNeg 2) (((ec + 1) + 1) &&& 15).toNatClampNeg 3), (((ec + 1) + 1) + 1), sc, vl, LP, sT)) H := hP1
        have hD : va_D A (xW F (sS, sP, sQ, (upd (upd (upd sE (ec &&& 15).toNatClampNeg 1) ((ec + 1) &&& 15).toNatClampNeg 2) (((ec + 1) + 1) &&& 15).toNatClampNeg 3), (((ec + 1) + 1) + 1), sc, vl, LP, sT)) := hD1
        refine lv_iinc (v := 4) (lv' := [(5, .int 4), (3, .int ((0 + 1) + 0)), (4, .int 1), (0, .ref F.1), (1, .int p0), (2, .int p1)]) hx hb dX1_countTurns_57 hl (k := 2) rfl (by decide) (by decide) rfl (fun ls hl => ?_)
        refine lv_goto (tgt := 8) hx hb dX1_countTurns_60 (by decide) ?_
        refine lv_iload hx hb dX1_countTurns_8 (lv_at hl 0 rfl) ?_
        refine lv_iconst (v := 5) hx hb dX1_countTurns_10 (by decide) ?_
        refine lv_icmp_gt (tgt := 63) hx hb dX1_countTurns_11 (by decide) (fun cz => absurd cz (by decide)) (fun _ => ?_)
        refine lv_iload hx hb dX1_countTurns_14 (lv_at hl 2 rfl) ?_
        refine lv_if_ne (tgt := 63) hx hb dX1_countTurns_16 (by decide) (fun _ => ?_) (fun cz => absurd cz (by decide))
        refine lv_iload_n hx hb dX1_countTurns_63 rfl (lv_at hl 1 rfl) ?_
        exact W.iret (v := ((0 + 1) + 0)) hx hb hr (fun tE ht hW => ⟨⟨((0 + 1) + 0), (sS, sP, sQ, (upd (upd (upd sE (ec &&& 15).toNatClampNeg 1) ((ec + 1) &&& 15).toNatClampNeg 2) (((ec + 1) + 1) &&& 15).toNatClampNeg 3), (((ec + 1) + 1) + 1), sc, vl, LP, sT), rfl, by first | (simp only [sTurn, tS, uN, gS, gP, gQ, gE, gec, gsc, gvl, gL, gT, eq_true c1, c7, c8, c14, eq_true c15, eq_self, ↓reduceIte, Bool.false_eq_true, Bool.not_false, Bool.not_true, Bool.and_true, Bool.and_false, Bool.true_and, Bool.false_and, decide_true, decide_false] <;> first | done | decide) | (simp only [sTurn, tS, uN, gS, gP, gQ, gE, gec, gsc, gvl, gL, gT, c1, c7, c8, c14, c15, eq_self, ↓reduceIte, Bool.false_eq_true, Bool.not_false, Bool.not_true, Bool.and_true, Bool.and_false, Bool.true_and, Bool.false_and, decide_true, decide_false] <;> first | done | decide) | (simp [sTurn, tS, uN, gS, gP, gQ, gE, gec, gsc, gvl, gL, gT, c1, c7, c8, c14, c15]; done) | (simp [sTurn, tS, uN, gS, gP, gQ, gE, gec, gsc, gvl, gL, gT, eq_true c1, c7, c8, c14, eq_true c15]; done), by rw [ht]; exact hP, va_K.moved hW.alike hK, hD⟩, hS.F ht⟩) hS.2.2 dX1_countTurns_64
    · refine lv_iconst (v := 1) hx hb dX1_countTurns_31 (by decide) ?_
      refine lv_goto (tgt := 36) hx hb dX1_countTurns_32 (by decide) ?_
      refine lv_istore (lv' := [(4, .int 1), (5, .int 2), (3, .int 0), (0, .ref F.1), (1, .int p0), (2, .int p1)]) hx hb dX1_countTurns_36 hl (by decide) rfl (fun ls hl => ?_)
      refine lv_iload_n hx hb dX1_countTurns_38 rfl (lv_at hl 2 rfl) ?_
      refine lv_iload hx hb dX1_countTurns_39 (lv_at hl 0 rfl) ?_
      refine lv_if_eq (tgt := 48) hx hb dX1_countTurns_41 (by decide) (fun cz => absurd cz (by decide)) (fun _ => ?_)
      refine lv_iconst (v := 0) hx hb dX1_countTurns_44 (by decide) ?_
      refine lv_goto (tgt := 49) hx hb dX1_countTurns_45 (by decide) ?_
      refine lv_iadd hx hb dX1_countTurns_49 ?_
      refine lv_istore_n (lv' := [(3, .int (0 + 0)), (4, .int 1), (5, .int 2), (0, .ref F.1), (1, .int p0), (2, .int p1)]) hx hb dX1_countTurns_50 rfl hl (by decide) rfl (fun ls hl => ?_)
      refine lv_aload_n hx hb dX1_countTurns_51 rfl (lv_at hl 3 rfl) ?_
      refine lv_iload hx hb dX1_countTurns_52 (lv_at hl 2 rfl) ?_
      have hf50 := xFree hD hS hA
      refine va_callv (va_runV (As := [.int 2]) (rest := []) ⟨hx, hb, hml, hown, hts⟩ (k_note l D F (sS, sP, sQ, (upd sE (ec &&& 15).toNatClampNeg 1), (ec + 1), sc, vl, LP, sT)  H.size 2) (cwV 1 hts gX1_countTurns_X1_note rfl rfl rfl (by decide +kernel) ⟨Nat.le_of_ble_eq_true rfl, Nat.le_of_ble_eq_true rfl⟩) (xPre hN hK hP hD hS hA hZ _) rfl rfl hl.1 rfl (lv_room (Nat.le_of_ble_eq_true rfl)) dX1_countTurns_54 ⟨Nat.le_of_ble_eq_true rfl, Nat.le_of_ble_eq_true rfl⟩) hS (fun q _ h => hf50 q h) hf50 (fun v52 t54 H1 locs ht hvm hw53 hB hz1 hk1 hS => ?_)
      obtain ⟨hP1, hK1, hD1⟩ := hB
      rw [ht] at hP1
      replace hD1 := hD1.weaken (fun _ _ _ h => hf50 _ h)
      generalize H1 = H at hP1 hS ⊢
      obtain rfl := (show v52 = (sS, sP, sQ, (upd (upd sE (ec &&& 15).toNatClampNeg 1) ((ec + 1) &&& 15).toNatClampNeg 2), ((ec + 1) + 1), sc, vl, LP, sT) from hw53)
      have hP : va_P D vwCl (xW F (sS, sP, sQ, (upd (upd sE (ec &&& 15).toNatClampNeg 1) ((ec + 1) &&& 15).toNatClampNeg 2), ((ec + 1) + 1), sc, vl, LP, sT)) H := hP1
      have hD : va_D A (xW F (sS, sP, sQ, (upd (upd sE (ec &&& 15).toNatClampNeg 1) ((ec + 1) &&& 15).toNatClampNeg 2), ((ec + 1) + 1), sc, vl, LP, sT)) := hD1
      refine lv_iinc (v := 3) (lv' := [(5, .int 3), (3, .int (0 + 0)), (4, .int 1), (0, .ref F.1), (1, .int p0), (2, .int p1)]) hx hb dX1_countTurns_57 hl (k := 2) rfl (by decide) (by decide) rfl (fun ls hl => ?_)
      refine lv_goto (tgt := 8) hx hb dX1_countTurns_60 (by decide) ?_
      refine lv_iload hx hb dX1_countTurns_8 (lv_at hl 0 rfl) ?_
      refine lv_iconst (v := 5) hx hb dX1_countTurns_10 (by decide) ?_
      refine lv_icmp_gt (tgt := 63) hx hb dX1_countTurns_11 (by decide) (fun cz => absurd cz (by decide)) (fun _ => ?_)
      refine lv_iload hx hb dX1_countTurns_14 (lv_at hl 2 rfl) ?_
      refine lv_if_ne (tgt := 63) hx hb dX1_countTurns_16 (by decide) (fun _ => ?_) (fun cz => absurd cz (by decide))
      refine lv_iload_n hx hb dX1_countTurns_63 rfl (lv_at hl 1 rfl) ?_
      exact W.iret (v := (0 + 0)) hx hb hr (fun tE ht hW => ⟨⟨(0 + 0), (sS, sP, sQ, (upd (upd sE (ec &&& 15).toNatClampNeg 1) ((ec + 1) &&& 15).toNatClampNeg 2), ((ec + 1) + 1), sc, vl, LP, sT), rfl, by first | (simp only [sTurn, tS, uN, gS, gP, gQ, gE, gec, gsc, gvl, gL, gT, eq_true c1, c7, eq_true c8, eq_self, ↓reduceIte, Bool.false_eq_true, Bool.not_false, Bool.not_true, Bool.and_true, Bool.and_false, Bool.true_and, Bool.false_and, decide_true, decide_false] <;> first | done | decide) | (simp only [sTurn, tS, uN, gS, gP, gQ, gE, gec, gsc, gvl, gL, gT, c1, c7, c8, eq_self, ↓reduceIte, Bool.false_eq_true, Bool.not_false, Bool.not_true, Bool.and_true, Bool.and_false, Bool.true_and, Bool.false_and, decide_true, decide_false] <;> first | done | decide) | (simp [sTurn, tS, uN, gS, gP, gQ, gE, gec, gsc, gvl, gL, gT, c1, c7, c8]; done) | (simp [sTurn, tS, uN, gS, gP, gQ, gE, gec, gsc, gvl, gL, gT, eq_true c1, c7, eq_true c8]; done), by rw [ht]; exact hP, va_K.moved hW.alike hK, hD⟩, hS.F ht⟩) hS.2.2 dX1_countTurns_64
  · refine lv_iload hx hb dX1_countTurns_25 (lv_at hl 0 rfl) ?_
    refine lv_iload_n hx hb dX1_countTurns_27 rfl (lv_at hl 5 rfl) ?_
    refine lv_icmp_ne (tgt := 35) hx hb dX1_countTurns_28 (by decide) (fun c55 => ?_) (fun c55 => ?_)
    · refine lv_iconst (v := 0) hx hb dX1_countTurns_35 (by decide) ?_
      refine lv_istore (lv' := [(4, .int 0), (5, .int 1), (3, .int 0), (0, .ref F.1), (1, .int p0), (2, .int p1)]) hx hb dX1_countTurns_36 hl (by decide) rfl (fun ls hl => ?_)
      refine lv_iload_n hx hb dX1_countTurns_38 rfl (lv_at hl 2 rfl) ?_
      refine lv_iload hx hb dX1_countTurns_39 (lv_at hl 0 rfl) ?_
      refine lv_if_eq (tgt := 48) hx hb dX1_countTurns_41 (by decide) (fun _ => ?_) (fun cz => absurd cz (by decide))
      refine lv_iconst (v := 1) hx hb dX1_countTurns_48 (by decide) ?_
      refine lv_iadd hx hb dX1_countTurns_49 ?_
      refine lv_istore_n (lv' := [(3, .int (0 + 1)), (4, .int 0), (5, .int 1), (0, .ref F.1), (1, .int p0), (2, .int p1)]) hx hb dX1_countTurns_50 rfl hl (by decide) rfl (fun ls hl => ?_)
      refine lv_aload_n hx hb dX1_countTurns_51 rfl (lv_at hl 3 rfl) ?_
      refine lv_iload hx hb dX1_countTurns_52 (lv_at hl 2 rfl) ?_
      have hf56 := xFree hD hS hA
      refine va_callv (va_runV (As := [.int 1]) (rest := []) ⟨hx, hb, hml, hown, hts⟩ (k_note l D F (sS, sP, sQ, sE, ec, sc, vl, LP, sT)  H.size 1) (cwV 1 hts gX1_countTurns_X1_note rfl rfl rfl (by decide +kernel) ⟨Nat.le_of_ble_eq_true rfl, Nat.le_of_ble_eq_true rfl⟩) (xPre hN hK hP hD hS hA hZ _) rfl rfl hl.1 rfl (lv_room (Nat.le_of_ble_eq_true rfl)) dX1_countTurns_54 ⟨Nat.le_of_ble_eq_true rfl, Nat.le_of_ble_eq_true rfl⟩) hS (fun q _ h => hf56 q h) hf56 (fun v58 t60 H1 locs ht hvm hw59 hB hz1 hk1 hS => ?_)
      obtain ⟨hP1, hK1, hD1⟩ := hB
      rw [ht] at hP1
      replace hD1 := hD1.weaken (fun _ _ _ h => hf56 _ h)
      generalize H1 = H at hP1 hS ⊢
      obtain rfl := (show v58 = (sS, sP, sQ, (upd sE (ec &&& 15).toNatClampNeg 1), (ec + 1), sc, vl, LP, sT) from hw59)
      have hP : va_P D vwCl (xW F (sS, sP, sQ, (upd sE (ec &&& 15).toNatClampNeg 1), (ec + 1), sc, vl, LP, sT)) H := hP1
      have hD : va_D A (xW F (sS, sP, sQ, (upd sE (ec &&& 15).toNatClampNeg 1), (ec + 1), sc, vl, LP, sT)) := hD1
      refine lv_iinc (v := 2) (lv' := [(5, .int 2), (3, .int (0 + 1)), (4, .int 0), (0, .ref F.1), (1, .int p0), (2, .int p1)]) hx hb dX1_countTurns_57 hl (k := 2) rfl (by decide) (by decide) rfl (fun ls hl => ?_)
      refine lv_goto (tgt := 8) hx hb dX1_countTurns_60 (by decide) ?_
      refine lv_iload hx hb dX1_countTurns_8 (lv_at hl 0 rfl) ?_
      refine lv_iconst (v := 5) hx hb dX1_countTurns_10 (by decide) ?_
      refine lv_icmp_gt (tgt := 63) hx hb dX1_countTurns_11 (by decide) (fun cz => absurd cz (by decide)) (fun _ => ?_)
      refine lv_iload hx hb dX1_countTurns_14 (lv_at hl 2 rfl) ?_
      refine lv_if_ne (tgt := 63) hx hb dX1_countTurns_16 (by decide) (fun cz => absurd cz (by decide)) (fun _ => ?_)
      refine lv_iload hx hb dX1_countTurns_19 (lv_at hl 0 rfl) ?_
      refine lv_iload_n hx hb dX1_countTurns_21 rfl (lv_at hl 4 rfl) ?_
      refine lv_icmp_eq (tgt := 51) hx hb dX1_countTurns_22 (by decide) (fun c61 => ?_) (fun c61 => ?_)
      · refine lv_aload_n hx hb dX1_countTurns_51 rfl (lv_at hl 3 rfl) ?_
        refine lv_iload hx hb dX1_countTurns_52 (lv_at hl 0 rfl) ?_
        have hf62 := xFree hD hS hA
        refine va_callv (va_runV (As := [.int 2]) (rest := []) ⟨hx, hb, hml, hown, hts⟩ (k_note l D F (sS, sP, sQ, (upd sE (ec &&& 15).toNatClampNeg 1), (ec + 1), sc, vl, LP, sT)  H.size 2) (cwV 1 hts gX1_countTurns_X1_note rfl rfl rfl (by decide +kernel) ⟨Nat.le_of_ble_eq_true rfl, Nat.le_of_ble_eq_true rfl⟩) (xPre hN hK hP hD hS hA hZ _) rfl rfl hl.1 rfl (lv_room (Nat.le_of_ble_eq_true rfl)) dX1_countTurns_54 ⟨Nat.le_of_ble_eq_true rfl, Nat.le_of_ble_eq_true rfl⟩) hS (fun q _ h => hf62 q h) hf62 (fun v64 t66 H1 locs ht hvm hw65 hB hz1 hk1 hS => ?_)
        obtain ⟨hP1, hK1, hD1⟩ := hB
        rw [ht] at hP1
        replace hD1 := hD1.weaken (fun _ _ _ h => hf62 _ h)
        generalize H1 = H at hP1 hS ⊢
        obtain rfl := (show v64 = (sS, sP, sQ, (upd (upd sE (ec &&& 15).toNatClampNeg 1) ((ec + 1) &&& 15).toNatClampNeg 2), ((ec + 1) + 1), sc, vl, LP, sT) from hw65)
        have hP : va_P D vwCl (xW F (sS, sP, sQ, (upd (upd sE (ec &&& 15).toNatClampNeg 1) ((ec + 1) &&& 15).toNatClampNeg 2), ((ec + 1) + 1), sc, vl, LP, sT)) H := hP1
        have hD : va_D A (xW F (sS, sP, sQ, (upd (upd sE (ec &&& 15).toNatClampNeg 1) ((ec + 1) &&& 15).toNatClampNeg 2), ((ec + 1) + 1), sc, vl, LP, sT)) := hD1
        refine lv_iinc (v := 3) (lv' := [(5, .int 3), (3, .int (0 + 1)), (4, .int 0), (0, .ref F.1), (1, .int p0), (2, .int p1)]) hx hb dX1_countTurns_57 hl (k := 0) rfl (by decide) (by decide) rfl (fun ls hl => ?_)
        refine lv_goto (tgt := 8) hx hb dX1_countTurns_60 (by decide) ?_
        refine lv_iload hx hb dX1_countTurns_8 (lv_at hl 0 rfl) ?_
        refine lv_iconst (v := 5) hx hb dX1_countTurns_10 (by decide) ?_
        refine lv_icmp_gt (tgt := 63) hx hb dX1_countTurns_11 (by decide) (fun cz => absurd cz (by decide)) (fun _ => ?_)
        refine lv_iload hx hb dX1_countTurns_14 (lv_at hl 2 rfl) ?_
        refine lv_if_ne (tgt := 63) hx hb dX1_countTurns_16 (by decide) (fun cz => absurd cz (by decide)) (fun _ => ?_)
        refine lv_iload hx hb dX1_countTurns_19 (lv_at hl 0 rfl) ?_
        refine lv_iload_n hx hb dX1_countTurns_21 rfl (lv_at hl 4 rfl) ?_
        have c67 : ¬ 3 = p0 := (by rw [← c61]; decide)
        refine lv_icmp_eq (tgt := 51) hx hb dX1_countTurns_22 (by decide) (fun cz => absurd cz c67) (fun _ => ?_)
        refine lv_iload hx hb dX1_countTurns_25 (lv_at hl 0 rfl) ?_
        refine lv_iload_n hx hb dX1_countTurns_27 rfl (lv_at hl 5 rfl) ?_
        refine lv_icmp_ne (tgt := 35) hx hb dX1_countTurns_28 (by decide) (fun c68 => ?_) (fun c68 => ?_)
        · refine lv_iconst (v := 0) hx hb dX1_countTurns_35 (by decide) ?_
          refine lv_istore (lv' := [(4, .int 0), (5, .int 3), (3, .int (0 + 1)), (0, .ref F.1), (1, .int p0), (2, .int p1)]) hx hb dX1_countTurns_36 hl (by decide) rfl (fun ls hl => ?_)
          refine lv_iload_n hx hb dX1_countTurns_38 rfl (lv_at hl 2 rfl) ?_
          refine lv_iload hx hb dX1_countTurns_39 (lv_at hl 0 rfl) ?_
          refine lv_if_eq (tgt := 48) hx hb dX1_countTurns_41 (by decide) (fun _ => ?_) (fun cz => absurd cz (by decide))
          refine lv_iconst (v := 1) hx hb dX1_countTurns_48 (by decide) ?_
          refine lv_iadd hx hb dX1_countTurns_49 ?_
          refine lv_istore_n (lv' := [(3, .int ((0 + 1) + 1)), (4, .int 0), (5, .int 3), (0, .ref F.1), (1, .int p0), (2, .int p1)]) hx hb dX1_countTurns_50 rfl hl (by decide) rfl (fun ls hl => ?_)
          refine lv_aload_n hx hb dX1_countTurns_51 rfl (lv_at hl 3 rfl) ?_
          refine lv_iload hx hb dX1_countTurns_52 (lv_at hl 2 rfl) ?_
          have hf69 := xFree hD hS hA
          refine va_callv (va_runV (As := [.int 3]) (rest := []) ⟨hx, hb, hml, hown, hts⟩ (k_note l D F (sS, sP, sQ, (upd (upd sE (ec &&& 15).toNatClampNeg 1) ((ec + 1) &&& 15).toNatClampNeg 2), ((ec + 1) + 1), sc, vl, LP, sT)  H.size 3) (cwV 1 hts gX1_countTurns_X1_note rfl rfl rfl (by decide +kernel) ⟨Nat.le_of_ble_eq_true rfl, Nat.le_of_ble_eq_true rfl⟩) (xPre hN hK hP hD hS hA hZ _) rfl rfl hl.1 rfl (lv_room (Nat.le_of_ble_eq_true rfl)) dX1_countTurns_54 ⟨Nat.le_of_ble_eq_true rfl, Nat.le_of_ble_eq_true rfl⟩) hS (fun q _ h => hf69 q h) hf69 (fun v71 t73 H1 locs ht hvm hw72 hB hz1 hk1 hS => ?_)
          obtain ⟨hP1, hK1, hD1⟩ := hB
          rw [ht] at hP1
          replace hD1 := hD1.weaken (fun _ _ _ h => hf69 _ h)
          generalize H1 = H at hP1 hS ⊢
          obtain rfl := (show v71 = (sS, sP, sQ, (upd (upd (upd sE (ec &&& 15).toNatClampNeg 1) ((ec + 1) &&& 15).toNatClampNeg 2) (((ec + 1) + 1) &&& 15).toNatClampNeg 3), (((ec + 1) + 1) + 1), sc, vl, LP, sT) from hw72)
          have hP : va_P D vwCl (xW F (sS, sP, sQ, (upd (upd (upd sE (ec &&& 15).toNatClampNeg 1) ((ec + 1) &&& 15).toNatClampNeg 2) (((ec + 1) + 1) &&& 15).toNatClampNeg 3), (((ec + 1) + 1) + 1), sc, vl, LP, sT)) H := hP1
          have hD : va_D A (xW F (sS, sP, sQ, (upd (upd (upd sE (ec &&& 15).toNatClampNeg 1) ((ec + 1) &&& 15).toNatClampNeg 2) (((ec + 1) + 1) &&& 15).toNatClampNeg 3), (((ec + 1) + 1) + 1), sc, vl, LP, sT)) := hD1
          refine lv_iinc (v := 4) (lv' := [(5, .int 4), (3, .int ((0 + 1) + 1)), (4, .int 0), (0, .ref F.1), (1, .int p0), (2, .int p1)]) hx hb dX1_countTurns_57 hl (k := 2) rfl (by decide) (by decide) rfl (fun ls hl => ?_)
          refine lv_goto (tgt := 8) hx hb dX1_countTurns_60 (by decide) ?_
          refine lv_iload hx hb dX1_countTurns_8 (lv_at hl 0 rfl) ?_
          refine lv_iconst (v := 5) hx hb dX1_countTurns_10 (by decide) ?_
          refine lv_icmp_gt (tgt := 63) hx hb dX1_countTurns_11 (by decide) (fun cz => absurd cz (by decide)) (fun _ => ?_)
          refine lv_iload hx hb dX1_countTurns_14 (lv_at hl 2 rfl) ?_
          refine lv_if_ne (tgt := 63) hx hb dX1_countTurns_16 (by decide) (fun cz => absurd cz (by decide)) (fun _ => ?_)
          refine lv_iload hx hb dX1_countTurns_19 (lv_at hl 0 rfl) ?_
          refine lv_iload_n hx hb dX1_countTurns_21 rfl (lv_at hl 4 rfl) ?_
          have c74 : ¬ 4 = p0 := (by rw [← c61]; decide)
          refine lv_icmp_eq (tgt := 51) hx hb dX1_countTurns_22 (by decide) (fun cz => absurd cz c74) (fun _ => ?_)
          refine lv_iload hx hb dX1_countTurns_25 (lv_at hl 0 rfl) ?_
          refine lv_iload_n hx hb dX1_countTurns_27 rfl (lv_at hl 5 rfl) ?_
          refine lv_icmp_ne (tgt := 35) hx hb dX1_countTurns_28 (by decide) (fun c75 => ?_) (fun c75 => ?_)
          · refine lv_iconst (v := 0) hx hb dX1_countTurns_35 (by decide) ?_
            refine lv_istore (lv' := [(4, .int 0), (5, .int 4), (3, .int ((0 + 1) + 1)), (0, .ref F.1), (1, .int p0), (2, .int p1)]) hx hb dX1_countTurns_36 hl (by decide) rfl (fun ls hl => ?_)
            refine lv_iload_n hx hb dX1_countTurns_38 rfl (lv_at hl 2 rfl) ?_
            refine lv_iload hx hb dX1_countTurns_39 (lv_at hl 0 rfl) ?_
            refine lv_if_eq (tgt := 48) hx hb dX1_countTurns_41 (by decide) (fun _ => ?_) (fun cz => absurd cz (by decide))
            refine lv_iconst (v := 1) hx hb dX1_countTurns_48 (by decide) ?_
            refine lv_iadd hx hb dX1_countTurns_49 ?_
            refine lv_istore_n (lv' := [(3, .int (((0 + 1) + 1) + 1)), (4, .int 0), (5, .int 4), (0, .ref F.1), (1, .int p0), (2, .int p1)]) hx hb dX1_countTurns_50 rfl hl (by decide) rfl (fun ls hl => ?_)
            refine lv_aload_n hx hb dX1_countTurns_51 rfl (lv_at hl 3 rfl) ?_
            refine lv_iload hx hb dX1_countTurns_52 (lv_at hl 2 rfl) ?_
            have hf76 := xFree hD hS hA
            refine va_callv (va_runV (As := [.int 4]) (rest := []) ⟨hx, hb, hml, hown, hts⟩ (k_note l D F (sS, sP, sQ, (upd (upd (upd sE (ec &&& 15).toNatClampNeg 1) ((ec + 1) &&& 15).toNatClampNeg 2) (((ec + 1) + 1) &&& 15).toNatClampNeg 3), (((ec + 1) + 1) + 1), sc, vl, LP, sT)  H.size 4) (cwV 1 hts gX1_countTurns_X1_note rfl rfl rfl (by decide +kernel) ⟨Nat.le_of_ble_eq_true rfl, Nat.le_of_ble_eq_true rfl⟩) (xPre hN hK hP hD hS hA hZ _) rfl rfl hl.1 rfl (lv_room (Nat.le_of_ble_eq_true rfl)) dX1_countTurns_54 ⟨Nat.le_of_ble_eq_true rfl, Nat.le_of_ble_eq_true rfl⟩) hS (fun q _ h => hf76 q h) hf76 (fun v78 t80 H1 locs ht hvm hw79 hB hz1 hk1 hS => ?_)
            obtain ⟨hP1, hK1, hD1⟩ := hB
            rw [ht] at hP1
            replace hD1 := hD1.weaken (fun _ _ _ h => hf76 _ h)
            generalize H1 = H at hP1 hS ⊢
            obtain rfl := (show v78 = (sS, sP, sQ, (upd (upd (upd (upd sE (ec &&& 15).toNatClampNeg 1) ((ec + 1) &&& 15).toNatClampNeg 2) (((ec + 1) + 1) &&& 15).toNatClampNeg 3) ((((ec + 1) + 1) + 1) &&& 15).toNatClampNeg 4), ((((ec + 1) + 1) + 1) + 1), sc, vl, LP, sT) from hw79)
            have hP : va_P D vwCl (xW F (sS, sP, sQ, (upd (upd (upd (upd sE (ec &&& 15).toNatClampNeg 1) ((ec + 1) &&& 15).toNatClampNeg 2) (((ec + 1) + 1) &&& 15).toNatClampNeg 3) ((((ec + 1) + 1) + 1) &&& 15).toNatClampNeg 4), ((((ec + 1) + 1) + 1) + 1), sc, vl, LP, sT)) H := hP1
            have hD : va_D A (xW F (sS, sP, sQ, (upd (upd (upd (upd sE (ec &&& 15).toNatClampNeg 1) ((ec + 1) &&& 15).toNatClampNeg 2) (((ec + 1) + 1) &&& 15).toNatClampNeg 3) ((((ec + 1) + 1) + 1) &&& 15).toNatClampNeg 4), ((((ec + 1) + 1) + 1) + 1), sc, vl, LP, sT)) := hD1
            refine lv_iinc (v := 5) (lv' := [(5, .int 5), (3, .int (((0 + 1) + 1) + 1)), (4, .int 0), (0, .ref F.1), (1, .int p0), (2, .int p1)]) hx hb dX1_countTurns_57 hl (k := 2) rfl (by decide) (by decide) rfl (fun ls hl => ?_)
            refine lv_goto (tgt := 8) hx hb dX1_countTurns_60 (by decide) ?_
            refine lv_iload hx hb dX1_countTurns_8 (lv_at hl 0 rfl) ?_
            refine lv_iconst (v := 5) hx hb dX1_countTurns_10 (by decide) ?_
            refine lv_icmp_gt (tgt := 63) hx hb dX1_countTurns_11 (by decide) (fun cz => absurd cz (by decide)) (fun _ => ?_)
            refine lv_iload hx hb dX1_countTurns_14 (lv_at hl 2 rfl) ?_
            refine lv_if_ne (tgt := 63) hx hb dX1_countTurns_16 (by decide) (fun cz => absurd cz (by decide)) (fun _ => ?_)
            refine lv_iload hx hb dX1_countTurns_19 (lv_at hl 0 rfl) ?_
            refine lv_iload_n hx hb dX1_countTurns_21 rfl (lv_at hl 4 rfl) ?_
            have c81 : ¬ 5 = p0 := (by rw [← c61]; decide)
            refine lv_icmp_eq (tgt := 51) hx hb dX1_countTurns_22 (by decide) (fun cz => absurd cz c81) (fun _ => ?_)
            refine lv_iload hx hb dX1_countTurns_25 (lv_at hl 0 rfl) ?_
            refine lv_iload_n hx hb dX1_countTurns_27 rfl (lv_at hl 5 rfl) ?_
            refine lv_icmp_ne (tgt := 35) hx hb dX1_countTurns_28 (by decide) (fun c82 => ?_) (fun c82 => ?_)
            · refine lv_iconst (v := 0) hx hb dX1_countTurns_35 (by decide) ?_
              refine lv_istore (lv' := [(4, .int 0), (5, .int 5), (3, .int (((0 + 1) + 1) + 1)), (0, .ref F.1), (1, .int p0), (2, .int p1)]) hx hb dX1_countTurns_36 hl (by decide) rfl (fun ls hl => ?_)
              refine lv_iload_n hx hb dX1_countTurns_38 rfl (lv_at hl 2 rfl) ?_
              refine lv_iload hx hb dX1_countTurns_39 (lv_at hl 0 rfl) ?_
              refine lv_if_eq (tgt := 48) hx hb dX1_countTurns_41 (by decide) (fun _ => ?_) (fun cz => absurd cz (by decide))
              refine lv_iconst (v := 1) hx hb dX1_countTurns_48 (by decide) ?_
              refine lv_iadd hx hb dX1_countTurns_49 ?_
              refine lv_istore_n (lv' := [(3, .int ((((0 + 1) + 1) + 1) + 1)), (4, .int 0), (5, .int 5), (0, .ref F.1), (1, .int p0), (2, .int p1)]) hx hb dX1_countTurns_50 rfl hl (by decide) rfl (fun ls hl => ?_)
              refine lv_aload_n hx hb dX1_countTurns_51 rfl (lv_at hl 3 rfl) ?_
              refine lv_iload hx hb dX1_countTurns_52 (lv_at hl 2 rfl) ?_
              have hf83 := xFree hD hS hA
              refine va_callv (va_runV (As := [.int 5]) (rest := []) ⟨hx, hb, hml, hown, hts⟩ (k_note l D F (sS, sP, sQ, (upd (upd (upd (upd sE (ec &&& 15).toNatClampNeg 1) ((ec + 1) &&& 15).toNatClampNeg 2) (((ec + 1) + 1) &&& 15).toNatClampNeg 3) ((((ec + 1) + 1) + 1) &&& 15).toNatClampNeg 4), ((((ec + 1) + 1) + 1) + 1), sc, vl, LP, sT)  H.size 5) (cwV 1 hts gX1_countTurns_X1_note rfl rfl rfl (by decide +kernel) ⟨Nat.le_of_ble_eq_true rfl, Nat.le_of_ble_eq_true rfl⟩) (xPre hN hK hP hD hS hA hZ _) rfl rfl hl.1 rfl (lv_room (Nat.le_of_ble_eq_true rfl)) dX1_countTurns_54 ⟨Nat.le_of_ble_eq_true rfl, Nat.le_of_ble_eq_true rfl⟩) hS (fun q _ h => hf83 q h) hf83 (fun v85 t87 H1 locs ht hvm hw86 hB hz1 hk1 hS => ?_)
              obtain ⟨hP1, hK1, hD1⟩ := hB
              rw [ht] at hP1
              replace hD1 := hD1.weaken (fun _ _ _ h => hf83 _ h)
              generalize H1 = H at hP1 hS ⊢
              obtain rfl := (show v85 = (sS, sP, sQ, (upd (upd (upd (upd (upd sE (ec &&& 15).toNatClampNeg 1) ((ec + 1) &&& 15).toNatClampNeg 2) (((ec + 1) + 1) &&& 15).toNatClampNeg 3) ((((ec + 1) + 1) + 1) &&& 15).toNatClampNeg 4) (((((ec + 1) + 1) + 1) + 1) &&& 15).toNatClampNeg 5), (((((ec + 1) + 1) + 1) + 1) + 1), sc, vl, LP, sT) from hw86)
              have hP : va_P D vwCl (xW F (sS, sP, sQ, (upd (upd (upd (upd (upd sE (ec &&& 15).toNatClampNeg 1) ((ec + 1) &&& 15).toNatClampNeg 2) (((ec + 1) + 1) &&& 15).toNatClampNeg 3) ((((ec + 1) + 1) + 1) &&& 15).toNatClampNeg 4) (((((ec + 1) + 1) + 1) + 1) &&& 15).toNatClampNeg 5), (((((ec + 1) + 1) + 1) + 1) + 1), sc, vl, LP, sT)) H := hP1
              have hD : va_D A (xW F (sS, sP, sQ, (upd (upd (upd (upd (upd sE (ec &&& 15).toNatClampNeg 1) ((ec + 1) &&& 15).toNatClampNeg 2) (((ec + 1) + 1) &&& 15).toNatClampNeg 3) ((((ec + 1) + 1) + 1) &&& 15).toNatClampNeg 4) (((((ec + 1) + 1) + 1) + 1) &&& 15).toNatClampNeg 5), (((((ec + 1) + 1) + 1) + 1) + 1), sc, vl, LP, sT)) := hD1
              refine lv_iinc (v := 6) (lv' := [(5, .int 6), (3, .int ((((0 + 1) + 1) + 1) + 1)), (4, .int 0), (0, .ref F.1), (1, .int p0), (2, .int p1)]) hx hb dX1_countTurns_57 hl (k := 2) rfl (by decide) (by decide) rfl (fun ls hl => ?_)
              refine lv_goto (tgt := 8) hx hb dX1_countTurns_60 (by decide) ?_
              refine lv_iload hx hb dX1_countTurns_8 (lv_at hl 0 rfl) ?_
              refine lv_iconst (v := 5) hx hb dX1_countTurns_10 (by decide) ?_
              refine lv_icmp_gt (tgt := 63) hx hb dX1_countTurns_11 (by decide) (fun _ => ?_) (fun cz => absurd cz (by decide))
              refine lv_iload_n hx hb dX1_countTurns_63 rfl (lv_at hl 1 rfl) ?_
              exact W.iret (v := ((((0 + 1) + 1) + 1) + 1)) hx hb hr (fun tE ht hW => ⟨⟨((((0 + 1) + 1) + 1) + 1), (sS, sP, sQ, (upd (upd (upd (upd (upd sE (ec &&& 15).toNatClampNeg 1) ((ec + 1) &&& 15).toNatClampNeg 2) (((ec + 1) + 1) &&& 15).toNatClampNeg 3) ((((ec + 1) + 1) + 1) &&& 15).toNatClampNeg 4) (((((ec + 1) + 1) + 1) + 1) &&& 15).toNatClampNeg 5), (((((ec + 1) + 1) + 1) + 1) + 1), sc, vl, LP, sT), rfl, by first | (simp only [sTurn, tS, uN, gS, gP, gQ, gE, gec, gsc, gvl, gL, gT, c1, c55, eq_true c61, c67, c68, c74, c75, c81, c82, eq_self, ↓reduceIte, Bool.false_eq_true, Bool.not_false, Bool.not_true, Bool.and_true, Bool.and_false, Bool.true_and, Bool.false_and, decide_true, decide_false] <;> first | done | decide) | (simp only [sTurn, tS, uN, gS, gP, gQ, gE, gec, gsc, gvl, gL, gT, c1, c55, c61, c67, c68, c74, c75, c81, c82, eq_self, ↓reduceIte, Bool.false_eq_true, Bool.not_false, Bool.not_true, Bool.and_true, Bool.and_false, Bool.true_and, Bool.false_and, decide_true, decide_false] <;> first | done | decide) | (simp [sTurn, tS, uN, gS, gP, gQ, gE, gec, gsc, gvl, gL, gT, c1, c55, c61, c67, c68, c74, c75, c81, c82]; done) | (simp [sTurn, tS, uN, gS, gP, gQ, gE, gec, gsc, gvl, gL, gT, c1, c55, eq_true c61, c67, c68, c74, c75, c81, c82]; done), by rw [ht]; exact hP, va_K.moved hW.alike hK, hD⟩, hS.F ht⟩) hS.2.2 dX1_countTurns_64
            · refine lv_iconst (v := 1) hx hb dX1_countTurns_31 (by decide) ?_
              refine lv_goto (tgt := 36) hx hb dX1_countTurns_32 (by decide) ?_
              refine lv_istore (lv' := [(4, .int 1), (5, .int 5), (3, .int (((0 + 1) + 1) + 1)), (0, .ref F.1), (1, .int p0), (2, .int p1)]) hx hb dX1_countTurns_36 hl (by decide) rfl (fun ls hl => ?_)
              refine lv_iload_n hx hb dX1_countTurns_38 rfl (lv_at hl 2 rfl) ?_
              refine lv_iload hx hb dX1_countTurns_39 (lv_at hl 0 rfl) ?_
              refine lv_if_eq (tgt := 48) hx hb dX1_countTurns_41 (by decide) (fun cz => absurd cz (by decide)) (fun _ => ?_)
              refine lv_iconst (v := 0) hx hb dX1_countTurns_44 (by decide) ?_
              refine lv_goto (tgt := 49) hx hb dX1_countTurns_45 (by decide) ?_
              refine lv_iadd hx hb dX1_countTurns_49 ?_
              refine lv_istore_n (lv' := [(3, .int ((((0 + 1) + 1) + 1) + 0)), (4, .int 1), (5, .int 5), (0, .ref F.1), (1, .int p0), (2, .int p1)]) hx hb dX1_countTurns_50 rfl hl (by decide) rfl (fun ls hl => ?_)
              refine lv_aload_n hx hb dX1_countTurns_51 rfl (lv_at hl 3 rfl) ?_
              refine lv_iload hx hb dX1_countTurns_52 (lv_at hl 2 rfl) ?_
              have hf88 := xFree hD hS hA
              refine va_callv (va_runV (As := [.int 5]) (rest := []) ⟨hx, hb, hml, hown, hts⟩ (k_note l D F (sS, sP, sQ, (upd (upd (upd (upd sE (ec &&& 15).toNatClampNeg 1) ((ec + 1) &&& 15).toNatClampNeg 2) (((ec + 1) + 1) &&& 15).toNatClampNeg 3) ((((ec + 1) + 1) + 1) &&& 15).toNatClampNeg 4), ((((ec + 1) + 1) + 1) + 1), sc, vl, LP, sT)  H.size 5) (cwV 1 hts gX1_countTurns_X1_note rfl rfl rfl (by decide +kernel) ⟨Nat.le_of_ble_eq_true rfl, Nat.le_of_ble_eq_true rfl⟩) (xPre hN hK hP hD hS hA hZ _) rfl rfl hl.1 rfl (lv_room (Nat.le_of_ble_eq_true rfl)) dX1_countTurns_54 ⟨Nat.le_of_ble_eq_true rfl, Nat.le_of_ble_eq_true rfl⟩) hS (fun q _ h => hf88 q h) hf88 (fun v90 t92 H1 locs ht hvm hw91 hB hz1 hk1 hS => ?_)
              obtain ⟨hP1, hK1, hD1⟩ := hB
              rw [ht] at hP1
              replace hD1 := hD1.weaken (fun _ _ _ h => hf88 _ h)
              generalize H1 = H at hP1 hS ⊢
              obtain rfl := (show v90 = (sS, sP, sQ, (upd (upd (upd (upd (upd sE (ec &&& 15).toNatClampNeg 1) ((ec + 1) &&& 15).toNatClampNeg 2) (((ec + 1) + 1) &&& 15).toNatClampNeg 3) ((((ec + 1) + 1) + 1) &&& 15).toNatClampNeg 4) (((((ec + 1) + 1) + 1) + 1) &&& 15).toNatClampNeg 5), (((((ec + 1) + 1) + 1) + 1) + 1), sc, vl, LP, sT) from hw91)
              have hP : va_P D vwCl (xW F (sS, sP, sQ, (upd (upd (upd (upd (upd sE (ec &&& 15).toNatClampNeg 1) ((ec + 1) &&& 15).toNatClampNeg 2) (((ec + 1) + 1) &&& 15).toNatClampNeg 3) ((((ec + 1) + 1) + 1) &&& 15).toNatClampNeg 4) (((((ec + 1) + 1) + 1) + 1) &&& 15).toNatClampNeg 5), (((((ec + 1) + 1) + 1) + 1) + 1), sc, vl, LP, sT)) H := hP1
              have hD : va_D A (xW F (sS, sP, sQ, (upd (upd (upd (upd (upd sE (ec &&& 15).toNatClampNeg 1) ((ec + 1) &&& 15).toNatClampNeg 2) (((ec + 1) + 1) &&& 15).toNatClampNeg 3) ((((ec + 1) + 1) + 1) &&& 15).toNatClampNeg 4) (((((ec + 1) + 1) + 1) + 1) &&& 15).toNatClampNeg 5), (((((ec + 1) + 1) + 1) + 1) + 1), sc, vl, LP, sT)) := hD1
              refine lv_iinc (v := 6) (lv' := [(5, .int 6), (3, .int ((((0 + 1) + 1) + 1) + 0)), (4, .int 1), (0, .ref F.1), (1, .int p0), (2, .int p1)]) hx hb dX1_countTurns_57 hl (k := 2) rfl (by decide) (by decide) rfl (fun ls hl => ?_)
              refine lv_goto (tgt := 8) hx hb dX1_countTurns_60 (by decide) ?_
              refine lv_iload hx hb dX1_countTurns_8 (lv_at hl 0 rfl) ?_
              refine lv_iconst (v := 5) hx hb dX1_countTurns_10 (by decide) ?_
              refine lv_icmp_gt (tgt := 63) hx hb dX1_countTurns_11 (by decide) (fun _ => ?_) (fun cz => absurd cz (by decide))
              refine lv_iload_n hx hb dX1_countTurns_63 rfl (lv_at hl 1 rfl) ?_
              exact W.iret (v := ((((0 + 1) + 1) + 1) + 0)) hx hb hr (fun tE ht hW => ⟨⟨((((0 + 1) + 1) + 1) + 0), (sS, sP, sQ, (upd (upd (upd (upd (upd sE (ec &&& 15).toNatClampNeg 1) ((ec + 1) &&& 15).toNatClampNeg 2) (((ec + 1) + 1) &&& 15).toNatClampNeg 3) ((((ec + 1) + 1) + 1) &&& 15).toNatClampNeg 4) (((((ec + 1) + 1) + 1) + 1) &&& 15).toNatClampNeg 5), (((((ec + 1) + 1) + 1) + 1) + 1), sc, vl, LP, sT), rfl, by first | (simp only [sTurn, tS, uN, gS, gP, gQ, gE, gec, gsc, gvl, gL, gT, c1, c55, eq_true c61, c67, c68, c74, c75, c81, eq_true c82, eq_self, ↓reduceIte, Bool.false_eq_true, Bool.not_false, Bool.not_true, Bool.and_true, Bool.and_false, Bool.true_and, Bool.false_and, decide_true, decide_false] <;> first | done | decide) | (simp only [sTurn, tS, uN, gS, gP, gQ, gE, gec, gsc, gvl, gL, gT, c1, c55, c61, c67, c68, c74, c75, c81, c82, eq_self, ↓reduceIte, Bool.false_eq_true, Bool.not_false, Bool.not_true, Bool.and_true, Bool.and_false, Bool.true_and, Bool.false_and, decide_true, decide_false] <;> first | done | decide) | (simp [sTurn, tS, uN, gS, gP, gQ, gE, gec, gsc, gvl, gL, gT, c1, c55, c61, c67, c68, c74, c75, c81, c82]; done) | (simp [sTurn, tS, uN, gS, gP, gQ, gE, gec, gsc, gvl, gL, gT, c1, c55, eq_true c61, c67, c68, c74, c75, c81, eq_true c82]; done), by rw [ht]; exact hP, va_K.moved hW.alike hK, hD⟩, hS.F ht⟩) hS.2.2 dX1_countTurns_64
          · refine lv_iconst (v := 1) hx hb dX1_countTurns_31 (by decide) ?_
            refine lv_goto (tgt := 36) hx hb dX1_countTurns_32 (by decide) ?_
            refine lv_istore (lv' := [(4, .int 1), (5, .int 4), (3, .int ((0 + 1) + 1)), (0, .ref F.1), (1, .int p0), (2, .int p1)]) hx hb dX1_countTurns_36 hl (by decide) rfl (fun ls hl => ?_)
            refine lv_iload_n hx hb dX1_countTurns_38 rfl (lv_at hl 2 rfl) ?_
            refine lv_iload hx hb dX1_countTurns_39 (lv_at hl 0 rfl) ?_
            refine lv_if_eq (tgt := 48) hx hb dX1_countTurns_41 (by decide) (fun cz => absurd cz (by decide)) (fun _ => ?_)
            refine lv_iconst (v := 0) hx hb dX1_countTurns_44 (by decide) ?_
            refine lv_goto (tgt := 49) hx hb dX1_countTurns_45 (by decide) ?_
            refine lv_iadd hx hb dX1_countTurns_49 ?_
            refine lv_istore_n (lv' := [(3, .int (((0 + 1) + 1) + 0)), (4, .int 1), (5, .int 4), (0, .ref F.1), (1, .int p0), (2, .int p1)]) hx hb dX1_countTurns_50 rfl hl (by decide) rfl (fun ls hl => ?_)
            refine lv_aload_n hx hb dX1_countTurns_51 rfl (lv_at hl 3 rfl) ?_
            refine lv_iload hx hb dX1_countTurns_52 (lv_at hl 2 rfl) ?_
            have hf93 := xFree hD hS hA
            refine va_callv (va_runV (As := [.int 4]) (rest := []) ⟨hx, hb, hml, hown, hts⟩ (k_note l D F (sS, sP, sQ, (upd (upd (upd sE (ec &&& 15).toNatClampNeg 1) ((ec + 1) &&& 15).toNatClampNeg 2) (((ec + 1) + 1) &&& 15).toNatClampNeg 3), (((ec + 1) + 1) + 1), sc, vl, LP, sT)  H.size 4) (cwV 1 hts gX1_countTurns_X1_note rfl rfl rfl (by decide +kernel) ⟨Nat.le_of_ble_eq_true rfl, Nat.le_of_ble_eq_true rfl⟩) (xPre hN hK hP hD hS hA hZ _) rfl rfl hl.1 rfl (lv_room (Nat.le_of_ble_eq_true rfl)) dX1_countTurns_54 ⟨Nat.le_of_ble_eq_true rfl, Nat.le_of_ble_eq_true rfl⟩) hS (fun q _ h => hf93 q h) hf93 (fun v95 t97 H1 locs ht hvm hw96 hB hz1 hk1 hS => ?_)
            obtain ⟨hP1, hK1, hD1⟩ := hB
            rw [ht] at hP1
            replace hD1 := hD1.weaken (fun _ _ _ h => hf93 _ h)
            generalize H1 = H at hP1 hS ⊢
            obtain rfl := (show v95 = (sS, sP, sQ, (upd (upd (upd (upd sE (ec &&& 15).toNatClampNeg 1) ((ec + 1) &&& 15).toNatClampNeg 2) (((ec + 1) + 1) &&& 15).toNatClampNeg 3) ((((ec + 1) + 1) + 1) &&& 15).toNatClampNeg 4), ((((ec + 1) + 1) + 1) + 1), sc, vl, LP, sT) from hw96)
            have hP : va_P D vwCl (xW F (sS, sP, sQ, (upd (upd (upd (upd sE (ec &&& 15).toNatClampNeg 1) ((ec + 1) &&& 15).toNatClampNeg 2) (((ec + 1) + 1) &&& 15).toNatClampNeg 3) ((((ec + 1) + 1) + 1) &&& 15).toNatClampNeg 4), ((((ec + 1) + 1) + 1) + 1), sc, vl, LP, sT)) H := hP1
            have hD : va_D A (xW F (sS, sP, sQ, (upd (upd (upd (upd sE (ec &&& 15).toNatClampNeg 1) ((ec + 1) &&& 15).toNatClampNeg 2) (((ec + 1) + 1) &&& 15).toNatClampNeg 3) ((((ec + 1) + 1) + 1) &&& 15).toNatClampNeg 4), ((((ec + 1) + 1) + 1) + 1), sc, vl, LP, sT)) := hD1
            refine lv_iinc (v := 5) (lv' := [(5, .int 5), (3, .int (((0 + 1) + 1) + 0)), (4, .int 1), (0, .ref F.1), (1, .int p0), (2, .int p1)]) hx hb dX1_countTurns_57 hl (k := 2) rfl (by decide) (by decide) rfl (fun ls hl => ?_)
            refine lv_goto (tgt := 8) hx hb dX1_countTurns_60 (by decide) ?_
            refine lv_iload hx hb dX1_countTurns_8 (lv_at hl 0 rfl) ?_
            refine lv_iconst (v := 5) hx hb dX1_countTurns_10 (by decide) ?_
            refine lv_icmp_gt (tgt := 63) hx hb dX1_countTurns_11 (by decide) (fun cz => absurd cz (by decide)) (fun _ => ?_)
            refine lv_iload hx hb dX1_countTurns_14 (lv_at hl 2 rfl) ?_
            refine lv_if_ne (tgt := 63) hx hb dX1_countTurns_16 (by decide) (fun _ => ?_) (fun cz => absurd cz (by decide))
            refine lv_iload_n hx hb dX1_countTurns_63 rfl (lv_at hl 1 rfl) ?_
            exact W.iret (v := (((0 + 1) + 1) + 0)) hx hb hr (fun tE ht hW => ⟨⟨(((0 + 1) + 1) + 0), (sS, sP, sQ, (upd (upd (upd (upd sE (ec &&& 15).toNatClampNeg 1) ((ec + 1) &&& 15).toNatClampNeg 2) (((ec + 1) + 1) &&& 15).toNatClampNeg 3) ((((ec + 1) + 1) + 1) &&& 15).toNatClampNeg 4), ((((ec + 1) + 1) + 1) + 1), sc, vl, LP, sT), rfl, by first | (simp only [sTurn, tS, uN, gS, gP, gQ, gE, gec, gsc, gvl, gL, gT, c1, c55, eq_true c61, c67, c68, c74, eq_true c75, eq_self, ↓reduceIte, Bool.false_eq_true, Bool.not_false, Bool.not_true, Bool.and_true, Bool.and_false, Bool.true_and, Bool.false_and, decide_true, decide_false] <;> first | done | decide) | (simp only [sTurn, tS, uN, gS, gP, gQ, gE, gec, gsc, gvl, gL, gT, c1, c55, c61, c67, c68, c74, c75, eq_self, ↓reduceIte, Bool.false_eq_true, Bool.not_false, Bool.not_true, Bool.and_true, Bool.and_false, Bool.true_and, Bool.false_and, decide_true, decide_false] <;> first | done | decide) | (simp [sTurn, tS, uN, gS, gP, gQ, gE, gec, gsc, gvl, gL, gT, c1, c55, c61, c67, c68, c74, c75]; done) | (simp [sTurn, tS, uN, gS, gP, gQ, gE, gec, gsc, gvl, gL, gT, c1, c55, eq_true c61, c67, c68, c74, eq_true c75]; done), by rw [ht]; exact hP, va_K.moved hW.alike hK, hD⟩, hS.F ht⟩) hS.2.2 dX1_countTurns_64
        · refine lv_iconst (v := 1) hx hb dX1_countTurns_31 (by decide) ?_
          refine lv_goto (tgt := 36) hx hb dX1_countTurns_32 (by decide) ?_
          refine lv_istore (lv' := [(4, .int 1), (5, .int 3), (3, .int (0 + 1)), (0, .ref F.1), (1, .int p0), (2, .int p1)]) hx hb dX1_countTurns_36 hl (by decide) rfl (fun ls hl => ?_)
          refine lv_iload_n hx hb dX1_countTurns_38 rfl (lv_at hl 2 rfl) ?_
          refine lv_iload hx hb dX1_countTurns_39 (lv_at hl 0 rfl) ?_
          refine lv_if_eq (tgt := 48) hx hb dX1_countTurns_41 (by decide) (fun cz => absurd cz (by decide)) (fun _ => ?_)
          refine lv_iconst (v := 0) hx hb dX1_countTurns_44 (by decide) ?_
          refine lv_goto (tgt := 49) hx hb dX1_countTurns_45 (by decide) ?_
          refine lv_iadd hx hb dX1_countTurns_49 ?_
          refine lv_istore_n (lv' := [(3, .int ((0 + 1) + 0)), (4, .int 1), (5, .int 3), (0, .ref F.1), (1, .int p0), (2, .int p1)]) hx hb dX1_countTurns_50 rfl hl (by decide) rfl (fun ls hl => ?_)
          refine lv_aload_n hx hb dX1_countTurns_51 rfl (lv_at hl 3 rfl) ?_
          refine lv_iload hx hb dX1_countTurns_52 (lv_at hl 2 rfl) ?_
          have hf98 := xFree hD hS hA
          refine va_callv (va_runV (As := [.int 3]) (rest := []) ⟨hx, hb, hml, hown, hts⟩ (k_note l D F (sS, sP, sQ, (upd (upd sE (ec &&& 15).toNatClampNeg 1) ((ec + 1) &&& 15).toNatClampNeg 2), ((ec + 1) + 1), sc, vl, LP, sT)  H.size 3) (cwV 1 hts gX1_countTurns_X1_note rfl rfl rfl (by decide +kernel) ⟨Nat.le_of_ble_eq_true rfl, Nat.le_of_ble_eq_true rfl⟩) (xPre hN hK hP hD hS hA hZ _) rfl rfl hl.1 rfl (lv_room (Nat.le_of_ble_eq_true rfl)) dX1_countTurns_54 ⟨Nat.le_of_ble_eq_true rfl, Nat.le_of_ble_eq_true rfl⟩) hS (fun q _ h => hf98 q h) hf98 (fun v100 t102 H1 locs ht hvm hw101 hB hz1 hk1 hS => ?_)
          obtain ⟨hP1, hK1, hD1⟩ := hB
          rw [ht] at hP1
          replace hD1 := hD1.weaken (fun _ _ _ h => hf98 _ h)
          generalize H1 = H at hP1 hS ⊢
          obtain rfl := (show v100 = (sS, sP, sQ, (upd (upd (upd sE (ec &&& 15).toNatClampNeg 1) ((ec + 1) &&& 15).toNatClampNeg 2) (((ec + 1) + 1) &&& 15).toNatClampNeg 3), (((ec + 1) + 1) + 1), sc, vl, LP, sT) from hw101)
          have hP : va_P D vwCl (xW F (sS, sP, sQ, (upd (upd (upd sE (ec &&& 15).toNatClampNeg 1) ((ec + 1) &&& 15).toNatClampNeg 2) (((ec + 1) + 1) &&& 15).toNatClampNeg 3), (((ec + 1) + 1) + 1), sc, vl, LP, sT)) H := hP1
          have hD : va_D A (xW F (sS, sP, sQ, (upd (upd (upd sE (ec &&& 15).toNatClampNeg 1) ((ec + 1) &&& 15).toNatClampNeg 2) (((ec + 1) + 1) &&& 15).toNatClampNeg 3), (((ec + 1) + 1) + 1), sc, vl, LP, sT)) := hD1
          refine lv_iinc (v := 4) (lv' := [(5, .int 4), (3, .int ((0 + 1) + 0)), (4, .int 1), (0, .ref F.1), (1, .int p0), (2, .int p1)]) hx hb dX1_countTurns_57 hl (k := 2) rfl (by decide) (by decide) rfl (fun ls hl => ?_)
          refine lv_goto (tgt := 8) hx hb dX1_countTurns_60 (by decide) ?_
          refine lv_iload hx hb dX1_countTurns_8 (lv_at hl 0 rfl) ?_
          refine lv_iconst (v := 5) hx hb dX1_countTurns_10 (by decide) ?_
          refine lv_icmp_gt (tgt := 63) hx hb dX1_countTurns_11 (by decide) (fun cz => absurd cz (by decide)) (fun _ => ?_)
          refine lv_iload hx hb dX1_countTurns_14 (lv_at hl 2 rfl) ?_
          refine lv_if_ne (tgt := 63) hx hb dX1_countTurns_16 (by decide) (fun _ => ?_) (fun cz => absurd cz (by decide))
          refine lv_iload_n hx hb dX1_countTurns_63 rfl (lv_at hl 1 rfl) ?_
          exact W.iret (v := ((0 + 1) + 0)) hx hb hr (fun tE ht hW => ⟨⟨((0 + 1) + 0), (sS, sP, sQ, (upd (upd (upd sE (ec &&& 15).toNatClampNeg 1) ((ec + 1) &&& 15).toNatClampNeg 2) (((ec + 1) + 1) &&& 15).toNatClampNeg 3), (((ec + 1) + 1) + 1), sc, vl, LP, sT), rfl, by first | (simp only [sTurn, tS, uN, gS, gP, gQ, gE, gec, gsc, gvl, gL, gT, c1, c55, eq_true c61, c67, eq_true c68, eq_self, ↓reduceIte, Bool.false_eq_true, Bool.not_false, Bool.not_true, Bool.and_true, Bool.and_false, Bool.true_and, Bool.false_and, decide_true, decide_false] <;> first | done | decide) | (simp only [sTurn, tS, uN, gS, gP, gQ, gE, gec, gsc, gvl, gL, gT, c1, c55, c61, c67, c68, eq_self, ↓reduceIte, Bool.false_eq_true, Bool.not_false, Bool.not_true, Bool.and_true, Bool.and_false, Bool.true_and, Bool.false_and, decide_true, decide_false] <;> first | done | decide) | (simp [sTurn, tS, uN, gS, gP, gQ, gE, gec, gsc, gvl, gL, gT, c1, c55, c61, c67, c68]; done) | (simp [sTurn, tS, uN, gS, gP, gQ, gE, gec, gsc, gvl, gL, gT, c1, c55, eq_true c61, c67, eq_true c68]; done), by rw [ht]; exact hP, va_K.moved hW.alike hK, hD⟩, hS.F ht⟩) hS.2.2 dX1_countTurns_64
      · refine lv_iload hx hb dX1_countTurns_25 (lv_at hl 0 rfl) ?_
        refine lv_iload_n hx hb dX1_countTurns_27 rfl (lv_at hl 5 rfl) ?_
        refine lv_icmp_ne (tgt := 35) hx hb dX1_countTurns_28 (by decide) (fun c103 => ?_) (fun c103 => ?_)
        · refine lv_iconst (v := 0) hx hb dX1_countTurns_35 (by decide) ?_
          refine lv_istore (lv' := [(4, .int 0), (5, .int 2), (3, .int (0 + 1)), (0, .ref F.1), (1, .int p0), (2, .int p1)]) hx hb dX1_countTurns_36 hl (by decide) rfl (fun ls hl => ?_)
          refine lv_iload_n hx hb dX1_countTurns_38 rfl (lv_at hl 2 rfl) ?_
          refine lv_iload hx hb dX1_countTurns_39 (lv_at hl 0 rfl) ?_
          refine lv_if_eq (tgt := 48) hx hb dX1_countTurns_41 (by decide) (fun _ => ?_) (fun cz => absurd cz (by decide))
          refine lv_iconst (v := 1) hx hb dX1_countTurns_48 (by decide) ?_
          refine lv_iadd hx hb dX1_countTurns_49 ?_
          refine lv_istore_n (lv' := [(3, .int ((0 + 1) + 1)), (4, .int 0), (5, .int 2), (0, .ref F.1), (1, .int p0), (2, .int p1)]) hx hb dX1_countTurns_50 rfl hl (by decide) rfl (fun ls hl => ?_)
          refine lv_aload_n hx hb dX1_countTurns_51 rfl (lv_at hl 3 rfl) ?_
          refine lv_iload hx hb dX1_countTurns_52 (lv_at hl 2 rfl) ?_
          have hf104 := xFree hD hS hA
          refine va_callv (va_runV (As := [.int 2]) (rest := []) ⟨hx, hb, hml, hown, hts⟩ (k_note l D F (sS, sP, sQ, (upd sE (ec &&& 15).toNatClampNeg 1), (ec + 1), sc, vl, LP, sT)  H.size 2) (cwV 1 hts gX1_countTurns_X1_note rfl rfl rfl (by decide +kernel) ⟨Nat.le_of_ble_eq_true rfl, Nat.le_of_ble_eq_true rfl⟩) (xPre hN hK hP hD hS hA hZ _) rfl rfl hl.1 rfl (lv_room (Nat.le_of_ble_eq_true rfl)) dX1_countTurns_54 ⟨Nat.le_of_ble_eq_true rfl, Nat.le_of_ble_eq_true rfl⟩) hS (fun q _ h => hf104 q h) hf104 (fun v106 t108 H1 locs ht hvm hw107 hB hz1 hk1 hS => ?_)
          obtain ⟨hP1, hK1, hD1⟩ := hB
          rw [ht] at hP1
          replace hD1 := hD1.weaken (fun _ _ _ h => hf104 _ h)
          generalize H1 = H at hP1 hS ⊢
          obtain rfl := (show v106 = (sS, sP, sQ, (upd (upd sE (ec &&& 15).toNatClampNeg 1) ((ec + 1) &&& 15).toNatClampNeg 2), ((ec + 1) + 1), sc, vl, LP, sT) from hw107)
          have hP : va_P D vwCl (xW F (sS, sP, sQ, (upd (upd sE (ec &&& 15).toNatClampNeg 1) ((ec + 1) &&& 15).toNatClampNeg 2), ((ec + 1) + 1), sc, vl, LP, sT)) H := hP1
          have hD : va_D A (xW F (sS, sP, sQ, (upd (upd sE (ec &&& 15).toNatClampNeg 1) ((ec + 1) &&& 15).toNatClampNeg 2), ((ec + 1) + 1), sc, vl, LP, sT)) := hD1
          refine lv_iinc (v := 3) (lv' := [(5, .int 3), (3, .int ((0 + 1) + 1)), (4, .int 0), (0, .ref F.1), (1, .int p0), (2, .int p1)]) hx hb dX1_countTurns_57 hl (k := 2) rfl (by decide) (by decide) rfl (fun ls hl => ?_)
          refine lv_goto (tgt := 8) hx hb dX1_countTurns_60 (by decide) ?_
          refine lv_iload hx hb dX1_countTurns_8 (lv_at hl 0 rfl) ?_
          refine lv_iconst (v := 5) hx hb dX1_countTurns_10 (by decide) ?_
          refine lv_icmp_gt (tgt := 63) hx hb dX1_countTurns_11 (by decide) (fun cz => absurd cz (by decide)) (fun _ => ?_)
          refine lv_iload hx hb dX1_countTurns_14 (lv_at hl 2 rfl) ?_
          refine lv_if_ne (tgt := 63) hx hb dX1_countTurns_16 (by decide) (fun cz => absurd cz (by decide)) (fun _ => ?_)
          refine lv_iload hx hb dX1_countTurns_19 (lv_at hl 0 rfl) ?_
          refine lv_iload_n hx hb dX1_countTurns_21 rfl (lv_at hl 4 rfl) ?_
          refine lv_icmp_eq (tgt := 51) hx hb dX1_countTurns_22 (by decide) (fun c109 => ?_) (fun c109 => ?_)
          · refine lv_aload_n hx hb dX1_countTurns_51 rfl (lv_at hl 3 rfl) ?_
            refine lv_iload hx hb dX1_countTurns_52 (lv_at hl 0 rfl) ?_
            have hf110 := xFree hD hS hA
            refine va_callv (va_runV (As := [.int 3]) (rest := []) ⟨hx, hb, hml, hown, hts⟩ (k_note l D F (sS, sP, sQ, (upd (upd sE (ec &&& 15).toNatClampNeg 1) ((ec + 1) &&& 15).toNatClampNeg 2), ((ec + 1) + 1), sc, vl, LP, sT)  H.size 3) (cwV 1 hts gX1_countTurns_X1_note rfl rfl rfl (by decide +kernel) ⟨Nat.le_of_ble_eq_true rfl, Nat.le_of_ble_eq_true rfl⟩) (xPre hN hK hP hD hS hA hZ _) rfl rfl hl.1 rfl (lv_room (Nat.le_of_ble_eq_true rfl)) dX1_countTurns_54 ⟨Nat.le_of_ble_eq_true rfl, Nat.le_of_ble_eq_true rfl⟩) hS (fun q _ h => hf110 q h) hf110 (fun v112 t114 H1 locs ht hvm hw113 hB hz1 hk1 hS => ?_)
            obtain ⟨hP1, hK1, hD1⟩ := hB
            rw [ht] at hP1
            replace hD1 := hD1.weaken (fun _ _ _ h => hf110 _ h)
            generalize H1 = H at hP1 hS ⊢
            obtain rfl := (show v112 = (sS, sP, sQ, (upd (upd (upd sE (ec &&& 15).toNatClampNeg 1) ((ec + 1) &&& 15).toNatClampNeg 2) (((ec + 1) + 1) &&& 15).toNatClampNeg 3), (((ec + 1) + 1) + 1), sc, vl, LP, sT) from hw113)
            have hP : va_P D vwCl (xW F (sS, sP, sQ, (upd (upd (upd sE (ec &&& 15).toNatClampNeg 1) ((ec + 1) &&& 15).toNatClampNeg 2) (((ec + 1) + 1) &&& 15).toNatClampNeg 3), (((ec + 1) + 1) + 1), sc, vl, LP, sT)) H := hP1
            have hD : va_D A (xW F (sS, sP, sQ, (upd (upd (upd sE (ec &&& 15).toNatClampNeg 1) ((ec + 1) &&& 15).toNatClampNeg 2) (((ec + 1) + 1) &&& 15).toNatClampNeg 3), (((ec + 1) + 1) + 1), sc, vl, LP, sT)) := hD1
            refine lv_iinc (v := 4) (lv' := [(5, .int 4), (3, .int ((0 + 1) + 1)), (4, .int 0), (0, .ref F.1), (1, .int p0), (2, .int p1)]) hx hb dX1_countTurns_57 hl (k := 0) rfl (by decide) (by decide) rfl (fun ls hl => ?_)
            refine lv_goto (tgt := 8) hx hb dX1_countTurns_60 (by decide) ?_
            refine lv_iload hx hb dX1_countTurns_8 (lv_at hl 0 rfl) ?_
            refine lv_iconst (v := 5) hx hb dX1_countTurns_10 (by decide) ?_
            refine lv_icmp_gt (tgt := 63) hx hb dX1_countTurns_11 (by decide) (fun cz => absurd cz (by decide)) (fun _ => ?_)
            refine lv_iload hx hb dX1_countTurns_14 (lv_at hl 2 rfl) ?_
            refine lv_if_ne (tgt := 63) hx hb dX1_countTurns_16 (by decide) (fun cz => absurd cz (by decide)) (fun _ => ?_)
            refine lv_iload hx hb dX1_countTurns_19 (lv_at hl 0 rfl) ?_
            refine lv_iload_n hx hb dX1_countTurns_21 rfl (lv_at hl 4 rfl) ?_
            have c115 : ¬ 4 = p0 := (by rw [← c109]; decide)
            refine lv_icmp_eq (tgt := 51) hx hb dX1_countTurns_22 (by decide) (fun cz => absurd cz c115) (fun _ => ?_)
            refine lv_iload hx hb dX1_countTurns_25 (lv_at hl 0 rfl) ?_
            refine lv_iload_n hx hb dX1_countTurns_27 rfl (lv_at hl 5 rfl) ?_
            refine lv_icmp_ne (tgt := 35) hx hb dX1_countTurns_28 (by decide) (fun c116 => ?_) (fun c116 => ?_)
            · refine lv_iconst (v := 0) hx hb dX1_countTurns_35 (by decide) ?_
              refine lv_istore (lv' := [(4, .int 0), (5, .int 4), (3, .int ((0 + 1) + 1)), (0, .ref F.1), (1, .int p0), (2, .int p1)]) hx hb dX1_countTurns_36 hl (by decide) rfl (fun ls hl => ?_)
              refine lv_iload_n hx hb dX1_countTurns_38 rfl (lv_at hl 2 rfl) ?_
              refine lv_iload hx hb dX1_countTurns_39 (lv_at hl 0 rfl) ?_
              refine lv_if_eq (tgt := 48) hx hb dX1_countTurns_41 (by decide) (fun _ => ?_) (fun cz => absurd cz (by decide))
              refine lv_iconst (v := 1) hx hb dX1_countTurns_48 (by decide) ?_
              refine lv_iadd hx hb dX1_countTurns_49 ?_
              refine lv_istore_n (lv' := [(3, .int (((0 + 1) + 1) + 1)), (4, .int 0), (5, .int 4), (0, .ref F.1), (1, .int p0), (2, .int p1)]) hx hb dX1_countTurns_50 rfl hl (by decide) rfl (fun ls hl => ?_)
              refine lv_aload_n hx hb dX1_countTurns_51 rfl (lv_at hl 3 rfl) ?_
              refine lv_iload hx hb dX1_countTurns_52 (lv_at hl 2 rfl) ?_
              have hf117 := xFree hD hS hA
              refine va_callv (va_runV (As := [.int 4]) (rest := []) ⟨hx, hb, hml, hown, hts⟩ (k_note l D F (sS, sP, sQ, (upd (upd (upd sE (ec &&& 15).toNatClampNeg 1) ((ec + 1) &&& 15).toNatClampNeg 2) (((ec + 1) + 1) &&& 15).toNatClampNeg 3), (((ec + 1) + 1) + 1), sc, vl, LP, sT)  H.size 4) (cwV 1 hts gX1_countTurns_X1_note rfl rfl rfl (by decide +kernel) ⟨Nat.le_of_ble_eq_true rfl, Nat.le_of_ble_eq_true rfl⟩) (xPre hN hK hP hD hS hA hZ _) rfl rfl hl.1 rfl (lv_room (Nat.le_of_ble_eq_true rfl)) dX1_countTurns_54 ⟨Nat.le_of_ble_eq_true rfl, Nat.le_of_ble_eq_true rfl⟩) hS (fun q _ h => hf117 q h) hf117 (fun v119 t121 H1 locs ht hvm hw120 hB hz1 hk1 hS => ?_)
              obtain ⟨hP1, hK1, hD1⟩ := hB
              rw [ht] at hP1
              replace hD1 := hD1.weaken (fun _ _ _ h => hf117 _ h)
              generalize H1 = H at hP1 hS ⊢
              obtain rfl := (show v119 = (sS, sP, sQ, (upd (upd (upd (upd sE (ec &&& 15).toNatClampNeg 1) ((ec + 1) &&& 15).toNatClampNeg 2) (((ec + 1) + 1) &&& 15).toNatClampNeg 3) ((((ec + 1) + 1) + 1) &&& 15).toNatClampNeg 4), ((((ec + 1) + 1) + 1) + 1), sc, vl, LP, sT) from hw120)
              have hP : va_P D vwCl (xW F (sS, sP, sQ, (upd (upd (upd (upd sE (ec &&& 15).toNatClampNeg 1) ((ec + 1) &&& 15).toNatClampNeg 2) (((ec + 1) + 1) &&& 15).toNatClampNeg 3) ((((ec + 1) + 1) + 1) &&& 15).toNatClampNeg 4), ((((ec + 1) + 1) + 1) + 1), sc, vl, LP, sT)) H := hP1
              have hD : va_D A (xW F (sS, sP, sQ, (upd (upd (upd (upd sE (ec &&& 15).toNatClampNeg 1) ((ec + 1) &&& 15).toNatClampNeg 2) (((ec + 1) + 1) &&& 15).toNatClampNeg 3) ((((ec + 1) + 1) + 1) &&& 15).toNatClampNeg 4), ((((ec + 1) + 1) + 1) + 1), sc, vl, LP, sT)) := hD1
              refine lv_iinc (v := 5) (lv' := [(5, .int 5), (3, .int (((0 + 1) + 1) + 1)), (4, .int 0), (0, .ref F.1), (1, .int p0), (2, .int p1)]) hx hb dX1_countTurns_57 hl (k := 2) rfl (by decide) (by decide) rfl (fun ls hl => ?_)
              refine lv_goto (tgt := 8) hx hb dX1_countTurns_60 (by decide) ?_
              refine lv_iload hx hb dX1_countTurns_8 (lv_at hl 0 rfl) ?_
              refine lv_iconst (v := 5) hx hb dX1_countTurns_10 (by decide) ?_
              refine lv_icmp_gt (tgt := 63) hx hb dX1_countTurns_11 (by decide) (fun cz => absurd cz (by decide)) (fun _ => ?_)
              refine lv_iload hx hb dX1_countTurns_14 (lv_at hl 2 rfl) ?_
              refine lv_if_ne (tgt := 63) hx hb dX1_countTurns_16 (by decide) (fun cz => absurd cz (by decide)) (fun _ => ?_)
              refine lv_iload hx hb dX1_countTurns_19 (lv_at hl 0 rfl) ?_
              refine lv_iload_n hx hb dX1_countTurns_21 rfl (lv_at hl 4 rfl) ?_
              have c122 : ¬ 5 = p0 := (by rw [← c109]; decide)
              refine lv_icmp_eq (tgt := 51) hx hb dX1_countTurns_22 (by decide) (fun cz => absurd cz c122) (fun _ => ?_)
              refine lv_iload hx hb dX1_countTurns_25 (lv_at hl 0 rfl) ?_
              refine lv_iload_n hx hb dX1_countTurns_27 rfl (lv_at hl 5 rfl) ?_
              refine lv_icmp_ne (tgt := 35) hx hb dX1_countTurns_28 (by decide) (fun c123 => ?_) (fun c123 => ?_)
              · refine lv_iconst (v := 0) hx hb dX1_countTurns_35 (by decide) ?_
                refine lv_istore (lv' := [(4, .int 0), (5, .int 5), (3, .int (((0 + 1) + 1) + 1)), (0, .ref F.1), (1, .int p0), (2, .int p1)]) hx hb dX1_countTurns_36 hl (by decide) rfl (fun ls hl => ?_)
                refine lv_iload_n hx hb dX1_countTurns_38 rfl (lv_at hl 2 rfl) ?_
                refine lv_iload hx hb dX1_countTurns_39 (lv_at hl 0 rfl) ?_
                refine lv_if_eq (tgt := 48) hx hb dX1_countTurns_41 (by decide) (fun _ => ?_) (fun cz => absurd cz (by decide))
                refine lv_iconst (v := 1) hx hb dX1_countTurns_48 (by decide) ?_
                refine lv_iadd hx hb dX1_countTurns_49 ?_
                refine lv_istore_n (lv' := [(3, .int ((((0 + 1) + 1) + 1) + 1)), (4, .int 0), (5, .int 5), (0, .ref F.1), (1, .int p0), (2, .int p1)]) hx hb dX1_countTurns_50 rfl hl (by decide) rfl (fun ls hl => ?_)
                refine lv_aload_n hx hb dX1_countTurns_51 rfl (lv_at hl 3 rfl) ?_
                refine lv_iload hx hb dX1_countTurns_52 (lv_at hl 2 rfl) ?_
                have hf124 := xFree hD hS hA
                refine va_callv (va_runV (As := [.int 5]) (rest := []) ⟨hx, hb, hml, hown, hts⟩ (k_note l D F (sS, sP, sQ, (upd (upd (upd (upd sE (ec &&& 15).toNatClampNeg 1) ((ec + 1) &&& 15).toNatClampNeg 2) (((ec + 1) + 1) &&& 15).toNatClampNeg 3) ((((ec + 1) + 1) + 1) &&& 15).toNatClampNeg 4), ((((ec + 1) + 1) + 1) + 1), sc, vl, LP, sT)  H.size 5) (cwV 1 hts gX1_countTurns_X1_note rfl rfl rfl (by decide +kernel) ⟨Nat.le_of_ble_eq_true rfl, Nat.le_of_ble_eq_true rfl⟩) (xPre hN hK hP hD hS hA hZ _) rfl rfl hl.1 rfl (lv_room (Nat.le_of_ble_eq_true rfl)) dX1_countTurns_54 ⟨Nat.le_of_ble_eq_true rfl, Nat.le_of_ble_eq_true rfl⟩) hS (fun q _ h => hf124 q h) hf124 (fun v126 t128 H1 locs ht hvm hw127 hB hz1 hk1 hS => ?_)
                obtain ⟨hP1, hK1, hD1⟩ := hB
                rw [ht] at hP1
                replace hD1 := hD1.weaken (fun _ _ _ h => hf124 _ h)
                generalize H1 = H at hP1 hS ⊢
                obtain rfl := (show v126 = (sS, sP, sQ, (upd (upd (upd (upd (upd sE (ec &&& 15).toNatClampNeg 1) ((ec + 1) &&& 15).toNatClampNeg 2) (((ec + 1) + 1) &&& 15).toNatClampNeg 3) ((((ec + 1) + 1) + 1) &&& 15).toNatClampNeg 4) (((((ec + 1) + 1) + 1) + 1) &&& 15).toNatClampNeg 5), (((((ec + 1) + 1) + 1) + 1) + 1), sc, vl, LP, sT) from hw127)
                have hP : va_P D vwCl (xW F (sS, sP, sQ, (upd (upd (upd (upd (upd sE (ec &&& 15).toNatClampNeg 1) ((ec + 1) &&& 15).toNatClampNeg 2) (((ec + 1) + 1) &&& 15).toNatClampNeg 3) ((((ec + 1) + 1) + 1) &&& 15).toNatClampNeg 4) (((((ec + 1) + 1) + 1) + 1) &&& 15).toNatClampNeg 5), (((((ec + 1) + 1) + 1) + 1) + 1), sc, vl, LP, sT)) H := hP1
                have hD : va_D A (xW F (sS, sP, sQ, (upd (upd (upd (upd (upd sE (ec &&& 15).toNatClampNeg 1) ((ec + 1) &&& 15).toNatClampNeg 2) (((ec + 1) + 1) &&& 15).toNatClampNeg 3) ((((ec + 1) + 1) + 1) &&& 15).toNatClampNeg 4) (((((ec + 1) + 1) + 1) + 1) &&& 15).toNatClampNeg 5), (((((ec + 1) + 1) + 1) + 1) + 1), sc, vl, LP, sT)) := hD1
                refine lv_iinc (v := 6) (lv' := [(5, .int 6), (3, .int ((((0 + 1) + 1) + 1) + 1)), (4, .int 0), (0, .ref F.1), (1, .int p0), (2, .int p1)]) hx hb dX1_countTurns_57 hl (k := 2) rfl (by decide) (by decide) rfl (fun ls hl => ?_)
                refine lv_goto (tgt := 8) hx hb dX1_countTurns_60 (by decide) ?_
                refine lv_iload hx hb dX1_countTurns_8 (lv_at hl 0 rfl) ?_
                refine lv_iconst (v := 5) hx hb dX1_countTurns_10 (by decide) ?_
                refine lv_icmp_gt (tgt := 63) hx hb dX1_countTurns_11 (by decide) (fun _ => ?_) (fun cz => absurd cz (by decide))
                refine lv_iload_n hx hb dX1_countTurns_63 rfl (lv_at hl 1 rfl) ?_
                exact W.iret (v := ((((0 + 1) + 1) + 1) + 1)) hx hb hr (fun tE ht hW => ⟨⟨((((0 + 1) + 1) + 1) + 1), (sS, sP, sQ, (upd (upd (upd (upd (upd sE (ec &&& 15).toNatClampNeg 1) ((ec + 1) &&& 15).toNatClampNeg 2) (((ec + 1) + 1) &&& 15).toNatClampNeg 3) ((((ec + 1) + 1) + 1) &&& 15).toNatClampNeg 4) (((((ec + 1) + 1) + 1) + 1) &&& 15).toNatClampNeg 5), (((((ec + 1) + 1) + 1) + 1) + 1), sc, vl, LP, sT), rfl, by first | (simp only [sTurn, tS, uN, gS, gP, gQ, gE, gec, gsc, gvl, gL, gT, c1, c55, c61, c103, eq_true c109, c115, c116, c122, c123, eq_self, ↓reduceIte, Bool.false_eq_true, Bool.not_false, Bool.not_true, Bool.and_true, Bool.and_false, Bool.true_and, Bool.false_and, decide_true, decide_false] <;> first | done | decide) | (simp only [sTurn, tS, uN, gS, gP, gQ, gE, gec, gsc, gvl, gL, gT, c1, c55, c61, c103, c109, c115, c116, c122, c123, eq_self, ↓reduceIte, Bool.false_eq_true, Bool.not_false, Bool.not_true, Bool.and_true, Bool.and_false, Bool.true_and, Bool.false_and, decide_true, decide_false] <;> first | done | decide) | (simp [sTurn, tS, uN, gS, gP, gQ, gE, gec, gsc, gvl, gL, gT, c1, c55, c61, c103, c109, c115, c116, c122, c123]; done) | (simp [sTurn, tS, uN, gS, gP, gQ, gE, gec, gsc, gvl, gL, gT, c1, c55, c61, c103, eq_true c109, c115, c116, c122, c123]; done), by rw [ht]; exact hP, va_K.moved hW.alike hK, hD⟩, hS.F ht⟩) hS.2.2 dX1_countTurns_64
              · refine lv_iconst (v := 1) hx hb dX1_countTurns_31 (by decide) ?_
                refine lv_goto (tgt := 36) hx hb dX1_countTurns_32 (by decide) ?_
                refine lv_istore (lv' := [(4, .int 1), (5, .int 5), (3, .int (((0 + 1) + 1) + 1)), (0, .ref F.1), (1, .int p0), (2, .int p1)]) hx hb dX1_countTurns_36 hl (by decide) rfl (fun ls hl => ?_)
                refine lv_iload_n hx hb dX1_countTurns_38 rfl (lv_at hl 2 rfl) ?_
                refine lv_iload hx hb dX1_countTurns_39 (lv_at hl 0 rfl) ?_
                refine lv_if_eq (tgt := 48) hx hb dX1_countTurns_41 (by decide) (fun cz => absurd cz (by decide)) (fun _ => ?_)
                refine lv_iconst (v := 0) hx hb dX1_countTurns_44 (by decide) ?_
                refine lv_goto (tgt := 49) hx hb dX1_countTurns_45 (by decide) ?_
                refine lv_iadd hx hb dX1_countTurns_49 ?_
                refine lv_istore_n (lv' := [(3, .int ((((0 + 1) + 1) + 1) + 0)), (4, .int 1), (5, .int 5), (0, .ref F.1), (1, .int p0), (2, .int p1)]) hx hb dX1_countTurns_50 rfl hl (by decide) rfl (fun ls hl => ?_)
                refine lv_aload_n hx hb dX1_countTurns_51 rfl (lv_at hl 3 rfl) ?_
                refine lv_iload hx hb dX1_countTurns_52 (lv_at hl 2 rfl) ?_
                have hf129 := xFree hD hS hA
                refine va_callv (va_runV (As := [.int 5]) (rest := []) ⟨hx, hb, hml, hown, hts⟩ (k_note l D F (sS, sP, sQ, (upd (upd (upd (upd sE (ec &&& 15).toNatClampNeg 1) ((ec + 1) &&& 15).toNatClampNeg 2) (((ec + 1) + 1) &&& 15).toNatClampNeg 3) ((((ec + 1) + 1) + 1) &&& 15).toNatClampNeg 4), ((((ec + 1) + 1) + 1) + 1), sc, vl, LP, sT)  H.size 5) (cwV 1 hts gX1_countTurns_X1_note rfl rfl rfl (by decide +kernel) ⟨Nat.le_of_ble_eq_true rfl, Nat.le_of_ble_eq_true rfl⟩) (xPre hN hK hP hD hS hA hZ _) rfl rfl hl.1 rfl (lv_room (Nat.le_of_ble_eq_true rfl)) dX1_countTurns_54 ⟨Nat.le_of_ble_eq_true rfl, Nat.le_of_ble_eq_true rfl⟩) hS (fun q _ h => hf129 q h) hf129 (fun v131 t133 H1 locs ht hvm hw132 hB hz1 hk1 hS => ?_)
                obtain ⟨hP1, hK1, hD1⟩ := hB
                rw [ht] at hP1
                replace hD1 := hD1.weaken (fun _ _ _ h => hf129 _ h)
                generalize H1 = H at hP1 hS ⊢
                obtain rfl := (show v131 = (sS, sP, sQ, (upd (upd (upd (upd (upd sE (ec &&& 15).toNatClampNeg 1) ((ec + 1) &&& 15).toNatClampNeg 2) (((ec + 1) + 1) &&& 15).toNatClampNeg 3) ((((ec + 1) + 1) + 1) &&& 15).toNatClampNeg 4) (((((ec + 1) + 1) + 1) + 1) &&& 15).toNatClampNeg 5), (((((ec + 1) + 1) + 1) + 1) + 1), sc, vl, LP, sT) from hw132)
                have hP : va_P D vwCl (xW F (sS, sP, sQ, (upd (upd (upd (upd (upd sE (ec &&& 15).toNatClampNeg 1) ((ec + 1) &&& 15).toNatClampNeg 2) (((ec + 1) + 1) &&& 15).toNatClampNeg 3) ((((ec + 1) + 1) + 1) &&& 15).toNatClampNeg 4) (((((ec + 1) + 1) + 1) + 1) &&& 15).toNatClampNeg 5), (((((ec + 1) + 1) + 1) + 1) + 1), sc, vl, LP, sT)) H := hP1
                have hD : va_D A (xW F (sS, sP, sQ, (upd (upd (upd (upd (upd sE (ec &&& 15).toNatClampNeg 1) ((ec + 1) &&& 15).toNatClampNeg 2) (((ec + 1) + 1) &&& 15).toNatClampNeg 3) ((((ec + 1) + 1) + 1) &&& 15).toNatClampNeg 4) (((((ec + 1) + 1) + 1) + 1) &&& 15).toNatClampNeg 5), (((((ec + 1) + 1) + 1) + 1) + 1), sc, vl, LP, sT)) := hD1
                refine lv_iinc (v := 6) (lv' := [(5, .int 6), (3, .int ((((0 + 1) + 1) + 1) + 0)), (4, .int 1), (0, .ref F.1), (1, .int p0), (2, .int p1)]) hx hb dX1_countTurns_57 hl (k := 2) rfl (by decide) (by decide) rfl (fun ls hl => ?_)
                refine lv_goto (tgt := 8) hx hb dX1_countTurns_60 (by decide) ?_
                refine lv_iload hx hb dX1_countTurns_8 (lv_at hl 0 rfl) ?_
                refine lv_iconst (v := 5) hx hb dX1_countTurns_10 (by decide) ?_
                refine lv_icmp_gt (tgt := 63) hx hb dX1_countTurns_11 (by decide) (fun _ => ?_) (fun cz => absurd cz (by decide))
                refine lv_iload_n hx hb dX1_countTurns_63 rfl (lv_at hl 1 rfl) ?_
                exact W.iret (v := ((((0 + 1) + 1) + 1) + 0)) hx hb hr (fun tE ht hW => ⟨⟨((((0 + 1) + 1) + 1) + 0), (sS, sP, sQ, (upd (upd (upd (upd (upd sE (ec &&& 15).toNatClampNeg 1) ((ec + 1) &&& 15).toNatClampNeg 2) (((ec + 1) + 1) &&& 15).toNatClampNeg 3) ((((ec + 1) + 1) + 1) &&& 15).toNatClampNeg 4) (((((ec + 1) + 1) + 1) + 1) &&& 15).toNatClampNeg 5), (((((ec + 1) + 1) + 1) + 1) + 1), sc, vl, LP, sT), rfl, by first | (simp only [sTurn, tS, uN, gS, gP, gQ, gE, gec, gsc, gvl, gL, gT, c1, c55, c61, c103, eq_true c109, c115, c116, c122, eq_true c123, eq_self, ↓reduceIte, Bool.false_eq_true, Bool.not_false, Bool.not_true, Bool.and_true, Bool.and_false, Bool.true_and, Bool.false_and, decide_true, decide_false] <;> first | done | decide) | (simp only [sTurn, tS, uN, gS, gP, gQ, gE, gec, gsc, gvl, gL, gT, c1, c55, c61, c103, c109, c115, c116, c122, c123, eq_self, ↓reduceIte, Bool.false_eq_true, Bool.not_false, Bool.not_true, Bool.and_true, Bool.and_false, Bool.true_and, Bool.false_and, decide_true, decide_false] <;> first | done | decide) | (simp [sTurn, tS, uN, gS, gP, gQ, gE, gec, gsc, gvl, gL, gT, c1, c55, c61, c103, c109, c115, c116, c122, c123]; done) | (simp [sTurn, tS, uN, gS, gP, gQ, gE, gec, gsc, gvl, gL, gT, c1, c55, c61, c103, eq_true c109, c115, c116, c122, eq_true c123]; done), by rw [ht]; exact hP, va_K.moved hW.alike hK, hD⟩, hS.F ht⟩) hS.2.2 dX1_countTurns_64
            · refine lv_iconst (v := 1) hx hb dX1_countTurns_31 (by decide) ?_
              refine lv_goto (tgt := 36) hx hb dX1_countTurns_32 (by decide) ?_
              refine lv_istore (lv' := [(4, .int 1), (5, .int 4), (3, .int ((0 + 1) + 1)), (0, .ref F.1), (1, .int p0), (2, .int p1)]) hx hb dX1_countTurns_36 hl (by decide) rfl (fun ls hl => ?_)
              refine lv_iload_n hx hb dX1_countTurns_38 rfl (lv_at hl 2 rfl) ?_
              refine lv_iload hx hb dX1_countTurns_39 (lv_at hl 0 rfl) ?_
              refine lv_if_eq (tgt := 48) hx hb dX1_countTurns_41 (by decide) (fun cz => absurd cz (by decide)) (fun _ => ?_)
              refine lv_iconst (v := 0) hx hb dX1_countTurns_44 (by decide) ?_
              refine lv_goto (tgt := 49) hx hb dX1_countTurns_45 (by decide) ?_
              refine lv_iadd hx hb dX1_countTurns_49 ?_
              refine lv_istore_n (lv' := [(3, .int (((0 + 1) + 1) + 0)), (4, .int 1), (5, .int 4), (0, .ref F.1), (1, .int p0), (2, .int p1)]) hx hb dX1_countTurns_50 rfl hl (by decide) rfl (fun ls hl => ?_)
              refine lv_aload_n hx hb dX1_countTurns_51 rfl (lv_at hl 3 rfl) ?_
              refine lv_iload hx hb dX1_countTurns_52 (lv_at hl 2 rfl) ?_
              have hf134 := xFree hD hS hA
              refine va_callv (va_runV (As := [.int 4]) (rest := []) ⟨hx, hb, hml, hown, hts⟩ (k_note l D F (sS, sP, sQ, (upd (upd (upd sE (ec &&& 15).toNatClampNeg 1) ((ec + 1) &&& 15).toNatClampNeg 2) (((ec + 1) + 1) &&& 15).toNatClampNeg 3), (((ec + 1) + 1) + 1), sc, vl, LP, sT)  H.size 4) (cwV 1 hts gX1_countTurns_X1_note rfl rfl rfl (by decide +kernel) ⟨Nat.le_of_ble_eq_true rfl, Nat.le_of_ble_eq_true rfl⟩) (xPre hN hK hP hD hS hA hZ _) rfl rfl hl.1 rfl (lv_room (Nat.le_of_ble_eq_true rfl)) dX1_countTurns_54 ⟨Nat.le_of_ble_eq_true rfl, Nat.le_of_ble_eq_true rfl⟩) hS (fun q _ h => hf134 q h) hf134 (fun v136 t138 H1 locs ht hvm hw137 hB hz1 hk1 hS => ?_)
              obtain ⟨hP1, hK1, hD1⟩ := hB
              rw [ht] at hP1
              replace hD1 := hD1.weaken (fun _ _ _ h => hf134 _ h)
              generalize H1 = H at hP1 hS ⊢
              obtain rfl := (show v136 = (sS, sP, sQ, (upd (upd (upd (upd sE (ec &&& 15).toNatClampNeg 1) ((ec + 1) &&& 15).toNatClampNeg 2) (((ec + 1) + 1) &&& 15).toNatClampNeg 3) ((((ec + 1) + 1) + 1) &&& 15).toNatClampNeg 4), ((((ec + 1) + 1) + 1) + 1), sc, vl, LP, sT) from hw137)
              have hP : va_P D vwCl (xW F (sS, sP, sQ, (upd (upd (upd (upd sE (ec &&& 15).toNatClampNeg 1) ((ec + 1) &&& 15).toNatClampNeg 2) (((ec + 1) + 1) &&& 15).toNatClampNeg 3) ((((ec + 1) + 1) + 1) &&& 15).toNatClampNeg 4), ((((ec + 1) + 1) + 1) + 1), sc, vl, LP, sT)) H := hP1
              have hD : va_D A (xW F (sS, sP, sQ, (upd (upd (upd (upd sE (ec &&& 15).toNatClampNeg 1) ((ec + 1) &&& 15).toNatClampNeg 2) (((ec + 1) + 1) &&& 15).toNatClampNeg 3) ((((ec + 1) + 1) + 1) &&& 15).toNatClampNeg 4), ((((ec + 1) + 1) + 1) + 1), sc, vl, LP, sT)) := hD1
              refine lv_iinc (v := 5) (lv' := [(5, .int 5), (3, .int (((0 + 1) + 1) + 0)), (4, .int 1), (0, .ref F.1), (1, .int p0), (2, .int p1)]) hx hb dX1_countTurns_57 hl (k := 2) rfl (by decide) (by decide) rfl (fun ls hl => ?_)
              refine lv_goto (tgt := 8) hx hb dX1_countTurns_60 (by decide) ?_
              refine lv_iload hx hb dX1_countTurns_8 (lv_at hl 0 rfl) ?_
              refine lv_iconst (v := 5) hx hb dX1_countTurns_10 (by decide) ?_
              refine lv_icmp_gt (tgt := 63) hx hb dX1_countTurns_11 (by decide) (fun cz => absurd cz (by decide)) (fun _ => ?_)
              refine lv_iload hx hb dX1_countTurns_14 (lv_at hl 2 rfl) ?_
              refine lv_if_ne (tgt := 63) hx hb dX1_countTurns_16 (by decide) (fun _ => ?_) (fun cz => absurd cz (by decide))
              refine lv_iload_n hx hb dX1_countTurns_63 rfl (lv_at hl 1 rfl) ?_
              exact W.iret (v := (((0 + 1) + 1) + 0)) hx hb hr (fun tE ht hW => ⟨⟨(((0 + 1) + 1) + 0), (sS, sP, sQ, (upd (upd (upd (upd sE (ec &&& 15).toNatClampNeg 1) ((ec + 1) &&& 15).toNatClampNeg 2) (((ec + 1) + 1) &&& 15).toNatClampNeg 3) ((((ec + 1) + 1) + 1) &&& 15).toNatClampNeg 4), ((((ec + 1) + 1) + 1) + 1), sc, vl, LP, sT), rfl, by first | (simp only [sTurn, tS, uN, gS, gP, gQ, gE, gec, gsc, gvl, gL, gT, c1, c55, c61, c103, eq_true c109, c115, eq_true c116, eq_self, ↓reduceIte, Bool.false_eq_true, Bool.not_false, Bool.not_true, Bool.and_true, Bool.and_false, Bool.true_and, Bool.false_and, decide_true, decide_false] <;> first | done | decide) | (simp only [sTurn, tS, uN, gS, gP, gQ, gE, gec, gsc, gvl, gL, gT, c1, c55, c61, c103, c109, c115, c116, eq_self, ↓reduceIte, Bool.false_eq_true, Bool.not_false, Bool.not_true, Bool.and_true, Bool.and_false, Bool.true_and, Bool.false_and, decide_true, decide_false] <;> first | done | decide) | (simp [sTurn, tS, uN, gS, gP, gQ, gE, gec, gsc, gvl, gL, gT, c1, c55, c61, c103, c109, c115, c116]; done) | (simp [sTurn, tS, uN, gS, gP, gQ, gE, gec, gsc, gvl, gL, gT, c1, c55, c61, c103, eq_true c109, c115, eq_true c116]; done), by rw [ht]; exact hP, va_K.moved hW.alike hK, hD⟩, hS.F ht⟩) hS.2.2 dX1_countTurns_64
          · refine lv_iload hx hb dX1_countTurns_25 (lv_at hl 0 rfl) ?_
            refine lv_iload_n hx hb dX1_countTurns_27 rfl (lv_at hl 5 rfl) ?_
            refine lv_icmp_ne (tgt := 35) hx hb dX1_countTurns_28 (by decide) (fun c139 => ?_) (fun c139 => ?_)
            · refine lv_iconst (v := 0) hx hb dX1_countTurns_35 (by decide) ?_
              refine lv_istore (lv' := [(4, .int 0), (5, .int 3), (3, .int ((0 + 1) + 1)), (0, .ref F.1), (1, .int p0), (2, .int p1)]) hx hb dX1_countTurns_36 hl (by decide) rfl (fun ls hl => ?_)
              refine lv_iload_n hx hb dX1_countTurns_38 rfl (lv_at hl 2 rfl) ?_
              refine lv_iload hx hb dX1_countTurns_39 (lv_at hl 0 rfl) ?_
              refine lv_if_eq (tgt := 48) hx hb dX1_countTurns_41 (by decide) (fun _ => ?_) (fun cz => absurd cz (by decide))
              refine lv_iconst (v := 1) hx hb dX1_countTurns_48 (by decide) ?_
              refine lv_iadd hx hb dX1_countTurns_49 ?_
              refine lv_istore_n (lv' := [(3, .int (((0 + 1) + 1) + 1)), (4, .int 0), (5, .int 3), (0, .ref F.1), (1, .int p0), (2, .int p1)]) hx hb dX1_countTurns_50 rfl hl (by decide) rfl (fun ls hl => ?_)
              refine lv_aload_n hx hb dX1_countTurns_51 rfl (lv_at hl 3 rfl) ?_
              refine lv_iload hx hb dX1_countTurns_52 (lv_at hl 2 rfl) ?_
              have hf140 := xFree hD hS hA
              refine va_callv (va_runV (As := [.int 3]) (rest := []) ⟨hx, hb, hml, hown, hts⟩ (k_note l D F (sS, sP, sQ, (upd (upd sE (ec &&& 15).toNatClampNeg 1) ((ec + 1) &&& 15).toNatClampNeg 2), ((ec + 1) + 1), sc, vl, LP, sT)  H.size 3) (cwV 1 hts gX1_countTurns_X1_note rfl rfl rfl (by decide +kernel) ⟨Nat.le_of_ble_eq_true rfl, Nat.le_of_ble_eq_true rfl⟩) (xPre hN hK hP hD hS hA hZ _) rfl rfl hl.1 rfl (lv_room (Nat.le_of_ble_eq_true rfl)) dX1_countTurns_54 ⟨Nat.le_of_ble_eq_true rfl, Nat.le_of_ble_eq_true rfl⟩) hS (fun q _ h => hf140 q h) hf140 (fun v142 t144 H1 locs ht hvm hw143 hB hz1 hk1 hS => ?_)
              obtain ⟨hP1, hK1, hD1⟩ := hB
              rw [ht] at hP1
              replace hD1 := hD1.weaken (fun _ _ _ h => hf140 _ h)
              generalize H1 = H at hP1 hS ⊢
              obtain rfl := (show v142 = (sS, sP, sQ, (upd (upd (upd sE (ec &&& 15).toNatClampNeg 1) ((ec + 1) &&& 15).toNatClampNeg 2) (((ec + 1) + 1) &&& 15).toNatClampNeg 3), (((ec + 1) + 1) + 1), sc, vl, LP, sT) from hw143)
              have hP : va_P D vwCl (xW F (sS, sP, sQ, (upd (upd (upd sE (ec &&& 15).toNatClampNeg 1) ((ec + 1) &&& 15).toNatClampNeg 2) (((ec + 1) + 1) &&& 15).toNatClampNeg 3), (((ec + 1) + 1) + 1), sc, vl, LP, sT)) H := hP1
              have hD : va_D A (xW F (sS, sP, sQ, (upd (upd (upd sE (ec &&& 15).toNatClampNeg 1) ((ec + 1) &&& 15).toNatClampNeg 2) (((ec + 1) + 1) &&& 15).toNatClampNeg 3), (((ec + 1) + 1) + 1), sc, vl, LP, sT)) := hD1
              refine lv_iinc (v := 4) (lv' := [(5, .int 4), (3, .int (((0 + 1) + 1) + 1)), (4, .int 0), (0, .ref F.1), (1, .int p0), (2, .int p1)]) hx hb dX1_countTurns_57 hl (k := 2) rfl (by decide) (by decide) rfl (fun ls hl => ?_)
              refine lv_goto (tgt := 8) hx hb dX1_countTurns_60 (by decide) ?_
              refine lv_iload hx hb dX1_countTurns_8 (lv_at hl 0 rfl) ?_
              refine lv_iconst (v := 5) hx hb dX1_countTurns_10 (by decide) ?_
              refine lv_icmp_gt (tgt := 63) hx hb dX1_countTurns_11 (by decide) (fun cz => absurd cz (by decide)) (fun _ => ?_)
              refine lv_iload hx hb dX1_countTurns_14 (lv_at hl 2 rfl) ?_
              refine lv_if_ne (tgt := 63) hx hb dX1_countTurns_16 (by decide) (fun cz => absurd cz (by decide)) (fun _ => ?_)
              refine lv_iload hx hb dX1_countTurns_19 (lv_at hl 0 rfl) ?_
              refine lv_iload_n hx hb dX1_countTurns_21 rfl (lv_at hl 4 rfl) ?_
              refine lv_icmp_eq (tgt := 51) hx hb dX1_countTurns_22 (by decide) (fun c145 => ?_) (fun c145 => ?_)
              · refine lv_aload_n hx hb dX1_countTurns_51 rfl (lv_at hl 3 rfl) ?_
                refine lv_iload hx hb dX1_countTurns_52 (lv_at hl 0 rfl) ?_
                have hf146 := xFree hD hS hA
                refine va_callv (va_runV (As := [.int 4]) (rest := []) ⟨hx, hb, hml, hown, hts⟩ (k_note l D F (sS, sP, sQ, (upd (upd (upd sE (ec &&& 15).toNatClampNeg 1) ((ec + 1) &&& 15).toNatClampNeg 2) (((ec + 1) + 1) &&& 15).toNatClampNeg 3), (((ec + 1) + 1) + 1), sc, vl, LP, sT)  H.size 4) (cwV 1 hts gX1_countTurns_X1_note rfl rfl rfl (by decide +kernel) ⟨Nat.le_of_ble_eq_true rfl, Nat.le_of_ble_eq_true rfl⟩) (xPre hN hK hP hD hS hA hZ _) rfl rfl hl.1 rfl (lv_room (Nat.le_of_ble_eq_true rfl)) dX1_countTurns_54 ⟨Nat.le_of_ble_eq_true rfl, Nat.le_of_ble_eq_true rfl⟩) hS (fun q _ h => hf146 q h) hf146 (fun v148 t150 H1 locs ht hvm hw149 hB hz1 hk1 hS => ?_)
                obtain ⟨hP1, hK1, hD1⟩ := hB
                rw [ht] at hP1
                replace hD1 := hD1.weaken (fun _ _ _ h => hf146 _ h)
                generalize H1 = H at hP1 hS ⊢
                obtain rfl := (show v148 = (sS, sP, sQ, (upd (upd (upd (upd sE (ec &&& 15).toNatClampNeg 1) ((ec + 1) &&& 15).toNatClampNeg 2) (((ec + 1) + 1) &&& 15).toNatClampNeg 3) ((((ec + 1) + 1) + 1) &&& 15).toNatClampNeg 4), ((((ec + 1) + 1) + 1) + 1), sc, vl, LP, sT) from hw149)
                have hP : va_P D vwCl (xW F (sS, sP, sQ, (upd (upd (upd (upd sE (ec &&& 15).toNatClampNeg 1) ((ec + 1) &&& 15).toNatClampNeg 2) (((ec + 1) + 1) &&& 15).toNatClampNeg 3) ((((ec + 1) + 1) + 1) &&& 15).toNatClampNeg 4), ((((ec + 1) + 1) + 1) + 1), sc, vl, LP, sT)) H := hP1
                have hD : va_D A (xW F (sS, sP, sQ, (upd (upd (upd (upd sE (ec &&& 15).toNatClampNeg 1) ((ec + 1) &&& 15).toNatClampNeg 2) (((ec + 1) + 1) &&& 15).toNatClampNeg 3) ((((ec + 1) + 1) + 1) &&& 15).toNatClampNeg 4), ((((ec + 1) + 1) + 1) + 1), sc, vl, LP, sT)) := hD1
                refine lv_iinc (v := 5) (lv' := [(5, .int 5), (3, .int (((0 + 1) + 1) + 1)), (4, .int 0), (0, .ref F.1), (1, .int p0), (2, .int p1)]) hx hb dX1_countTurns_57 hl (k := 0) rfl (by decide) (by decide) rfl (fun ls hl => ?_)
                refine lv_goto (tgt := 8) hx hb dX1_countTurns_60 (by decide) ?_
                refine lv_iload hx hb dX1_countTurns_8 (lv_at hl 0 rfl) ?_
                refine lv_iconst (v := 5) hx hb dX1_countTurns_10 (by decide) ?_
                refine lv_icmp_gt (tgt := 63) hx hb dX1_countTurns_11 (by decide) (fun cz => absurd cz (by decide)) (fun _ => ?_)
                refine lv_iload hx hb dX1_countTurns_14 (lv_at hl 2 rfl) ?_
                refine lv_if_ne (tgt := 63) hx hb dX1_countTurns_16 (by decide) (fun cz => absurd cz (by decide)) (fun _ => ?_)
                refine lv_iload hx hb dX1_countTurns_19 (lv_at hl 0 rfl) ?_
                refine lv_iload_n hx hb dX1_countTurns_21 rfl (lv_at hl 4 rfl) ?_
                have c151 : ¬ 5 = p0 := (by rw [← c145]; decide)
                refine lv_icmp_eq (tgt := 51) hx hb dX1_countTurns_22 (by decide) (fun cz => absurd cz c151) (fun _ => ?_)
                refine lv_iload hx hb dX1_countTurns_25 (lv_at hl 0 rfl) ?_
                refine lv_iload_n hx hb dX1_countTurns_27 rfl (lv_at hl 5 rfl) ?_
                refine lv_icmp_ne (tgt := 35) hx hb dX1_countTurns_28 (by decide) (fun c152 => ?_) (fun c152 => ?_)
                · refine lv_iconst (v := 0) hx hb dX1_countTurns_35 (by decide) ?_
                  refine lv_istore (lv' := [(4, .int 0), (5, .int 5), (3, .int (((0 + 1) + 1) + 1)), (0, .ref F.1), (1, .int p0), (2, .int p1)]) hx hb dX1_countTurns_36 hl (by decide) rfl (fun ls hl => ?_)
                  refine lv_iload_n hx hb dX1_countTurns_38 rfl (lv_at hl 2 rfl) ?_
                  refine lv_iload hx hb dX1_countTurns_39 (lv_at hl 0 rfl) ?_
                  refine lv_if_eq (tgt := 48) hx hb dX1_countTurns_41 (by decide) (fun _ => ?_) (fun cz => absurd cz (by decide))
                  refine lv_iconst (v := 1) hx hb dX1_countTurns_48 (by decide) ?_
                  refine lv_iadd hx hb dX1_countTurns_49 ?_
                  refine lv_istore_n (lv' := [(3, .int ((((0 + 1) + 1) + 1) + 1)), (4, .int 0), (5, .int 5), (0, .ref F.1), (1, .int p0), (2, .int p1)]) hx hb dX1_countTurns_50 rfl hl (by decide) rfl (fun ls hl => ?_)
                  refine lv_aload_n hx hb dX1_countTurns_51 rfl (lv_at hl 3 rfl) ?_
                  refine lv_iload hx hb dX1_countTurns_52 (lv_at hl 2 rfl) ?_
                  have hf153 := xFree hD hS hA
                  refine va_callv (va_runV (As := [.int 5]) (rest := []) ⟨hx, hb, hml, hown, hts⟩ (k_note l D F (sS, sP, sQ, (upd (upd (upd (upd sE (ec &&& 15).toNatClampNeg 1) ((ec + 1) &&& 15).toNatClampNeg 2) (((ec + 1) + 1) &&& 15).toNatClampNeg 3) ((((ec + 1) + 1) + 1) &&& 15).toNatClampNeg 4), ((((ec + 1) + 1) + 1) + 1), sc, vl, LP, sT)  H.size 5) (cwV 1 hts gX1_countTurns_X1_note rfl rfl rfl (by decide +kernel) ⟨Nat.le_of_ble_eq_true rfl, Nat.le_of_ble_eq_true rfl⟩) (xPre hN hK hP hD hS hA hZ _) rfl rfl hl.1 rfl (lv_room (Nat.le_of_ble_eq_true rfl)) dX1_countTurns_54 ⟨Nat.le_of_ble_eq_true rfl, Nat.le_of_ble_eq_true rfl⟩) hS (fun q _ h => hf153 q h) hf153 (fun v155 t157 H1 locs ht hvm hw156 hB hz1 hk1 hS => ?_)
                  obtain ⟨hP1, hK1, hD1⟩ := hB
                  rw [ht] at hP1
                  replace hD1 := hD1.weaken (fun _ _ _ h => hf153 _ h)
                  generalize H1 = H at hP1 hS ⊢
                  obtain rfl := (show v155 = (sS, sP, sQ, (upd (upd (upd (upd (upd sE (ec &&& 15).toNatClampNeg 1) ((ec + 1) &&& 15).toNatClampNeg 2) (((ec + 1) + 1) &&& 15).toNatClampNeg 3) ((((ec + 1) + 1) + 1) &&& 15).toNatClampNeg 4) (((((ec + 1) + 1) + 1) + 1) &&& 15).toNatClampNeg 5), (((((ec + 1) + 1) + 1) + 1) + 1), sc, vl, LP, sT) from hw156)
                  have hP : va_P D vwCl (xW F (sS, sP, sQ, (upd (upd (upd (upd (upd sE (ec &&& 15).toNatClampNeg 1) ((ec + 1) &&& 15).toNatClampNeg 2) (((ec + 1) + 1) &&& 15).toNatClampNeg 3) ((((ec + 1) + 1) + 1) &&& 15).toNatClampNeg 4) (((((ec + 1) + 1) + 1) + 1) &&& 15).toNatClampNeg 5), (((((ec + 1) + 1) + 1) + 1) + 1), sc, vl, LP, sT)) H := hP1
                  have hD : va_D A (xW F (sS, sP, sQ, (upd (upd (upd (upd (upd sE (ec &&& 15).toNatClampNeg 1) ((ec + 1) &&& 15).toNatClampNeg 2) (((ec + 1) + 1) &&& 15).toNatClampNeg 3) ((((ec + 1) + 1) + 1) &&& 15).toNatClampNeg 4) (((((ec + 1) + 1) + 1) + 1) &&& 15).toNatClampNeg 5), (((((ec + 1) + 1) + 1) + 1) + 1), sc, vl, LP, sT)) := hD1
                  refine lv_iinc (v := 6) (lv' := [(5, .int 6), (3, .int ((((0 + 1) + 1) + 1) + 1)), (4, .int 0), (0, .ref F.1), (1, .int p0), (2, .int p1)]) hx hb dX1_countTurns_57 hl (k := 2) rfl (by decide) (by decide) rfl (fun ls hl => ?_)
                  refine lv_goto (tgt := 8) hx hb dX1_countTurns_60 (by decide) ?_
                  refine lv_iload hx hb dX1_countTurns_8 (lv_at hl 0 rfl) ?_
                  refine lv_iconst (v := 5) hx hb dX1_countTurns_10 (by decide) ?_
                  refine lv_icmp_gt (tgt := 63) hx hb dX1_countTurns_11 (by decide) (fun _ => ?_) (fun cz => absurd cz (by decide))
                  refine lv_iload_n hx hb dX1_countTurns_63 rfl (lv_at hl 1 rfl) ?_
                  exact W.iret (v := ((((0 + 1) + 1) + 1) + 1)) hx hb hr (fun tE ht hW => ⟨⟨((((0 + 1) + 1) + 1) + 1), (sS, sP, sQ, (upd (upd (upd (upd (upd sE (ec &&& 15).toNatClampNeg 1) ((ec + 1) &&& 15).toNatClampNeg 2) (((ec + 1) + 1) &&& 15).toNatClampNeg 3) ((((ec + 1) + 1) + 1) &&& 15).toNatClampNeg 4) (((((ec + 1) + 1) + 1) + 1) &&& 15).toNatClampNeg 5), (((((ec + 1) + 1) + 1) + 1) + 1), sc, vl, LP, sT), rfl, by first | (simp only [sTurn, tS, uN, gS, gP, gQ, gE, gec, gsc, gvl, gL, gT, c1, c55, c61, c103, c109, c139, eq_true c145, c151, c152, eq_self, ↓reduceIte, Bool.false_eq_true, Bool.not_false, Bool.not_true, Bool.and_true, Bool.and_false, Bool.true_and, Bool.false_and, decide_true, decide_false] <;> first | done | decide) | (simp only [sTurn, tS, uN, gS, gP, gQ, gE, gec, gsc, gvl, gL, gT, c1, c55, c61, c103, c109, c139, c145, c151, c152, eq_self, ↓reduceIte, Bool.false_eq_true, Bool.not_false, Bool.not_true, Bool.and_true, Bool.and_false, Bool.true_and, Bool.false_and, decide_true, decide_false] <;> first | done | decide) | (simp [sTurn, tS, uN, gS, gP, gQ, gE, gec, gsc, gvl, gL, gT, c1, c55, c61, c103, c109, c139, c145, c151, c152]; done) | (simp [sTurn, tS, uN, gS, gP, gQ, gE, gec, gsc, gvl, gL, gT, c1, c55, c61, c103, c109, c139, eq_true c145, c151, c152]; done), by rw [ht]; exact hP, va_K.moved hW.alike hK, hD⟩, hS.F ht⟩) hS.2.2 dX1_countTurns_64
                · refine lv_iconst (v := 1) hx hb dX1_countTurns_31 (by decide) ?_
                  refine lv_goto (tgt := 36) hx hb dX1_countTurns_32 (by decide) ?_
                  refine lv_istore (lv' := [(4, .int 1), (5, .int 5), (3, .int (((0 + 1) + 1) + 1)), (0, .ref F.1), (1, .int p0), (2, .int p1)]) hx hb dX1_countTurns_36 hl (by decide) rfl (fun ls hl => ?_)
                  refine lv_iload_n hx hb dX1_countTurns_38 rfl (lv_at hl 2 rfl) ?_
                  refine lv_iload hx hb dX1_countTurns_39 (lv_at hl 0 rfl) ?_
                  refine lv_if_eq (tgt := 48) hx hb dX1_countTurns_41 (by decide) (fun cz => absurd cz (by decide)) (fun _ => ?_)
                  refine lv_iconst (v := 0) hx hb dX1_countTurns_44 (by decide) ?_
                  refine lv_goto (tgt := 49) hx hb dX1_countTurns_45 (by decide) ?_
                  refine lv_iadd hx hb dX1_countTurns_49 ?_
                  refine lv_istore_n (lv' := [(3, .int ((((0 + 1) + 1) + 1) + 0)), (4, .int 1), (5, .int 5), (0, .ref F.1), (1, .int p0), (2, .int p1)]) hx hb dX1_countTurns_50 rfl hl (by decide) rfl (fun ls hl => ?_)
                  refine lv_aload_n hx hb dX1_countTurns_51 rfl (lv_at hl 3 rfl) ?_
                  refine lv_iload hx hb dX1_countTurns_52 (lv_at hl 2 rfl) ?_
                  have hf158 := xFree hD hS hA
                  refine va_callv (va_runV (As := [.int 5]) (rest := []) ⟨hx, hb, hml, hown, hts⟩ (k_note l D F (sS, sP, sQ, (upd (upd (upd (upd sE (ec &&& 15).toNatClampNeg 1) ((ec + 1) &&& 15).toNatClampNeg 2) (((ec + 1) + 1) &&& 15).toNatClampNeg 3) ((((ec + 1) + 1) + 1) &&& 15).toNatClampNeg 4), ((((ec + 1) + 1) + 1) + 1), sc, vl, LP, sT)  H.size 5) (cwV 1 hts gX1_countTurns_X1_note rfl rfl rfl (by decide +kernel) ⟨Nat.le_of_ble_eq_true rfl, Nat.le_of_ble_eq_true rfl⟩) (xPre hN hK hP hD hS hA hZ _) rfl rfl hl.1 rfl (lv_room (Nat.le_of_ble_eq_true rfl)) dX1_countTurns_54 ⟨Nat.le_of_ble_eq_true rfl, Nat.le_of_ble_eq_true rfl⟩) hS (fun q _ h => hf158 q h) hf158 (fun v160 t162 H1 locs ht hvm hw161 hB hz1 hk1 hS => ?_)
                  obtain ⟨hP1, hK1, hD1⟩ := hB
                  rw [ht] at hP1
                  replace hD1 := hD1.weaken (fun _ _ _ h => hf158 _ h)
                  generalize H1 = H at hP1 hS ⊢
                  obtain rfl := (show v160 = (sS, sP, sQ, (upd (upd (upd (upd (upd sE (ec &&& 15).toNatClampNeg 1) ((ec + 1) &&& 15).toNatClampNeg 2) (((ec + 1) + 1) &&& 15).toNatClampNeg 3) ((((ec + 1) + 1) + 1) &&& 15).toNatClampNeg 4) (((((ec + 1) + 1) + 1) + 1) &&& 15).toNatClampNeg 5), (((((ec + 1) + 1) + 1) + 1) + 1), sc, vl, LP, sT) from hw161)
                  have hP : va_P D vwCl (xW F (sS, sP, sQ, (upd (upd (upd (upd (upd sE (ec &&& 15).toNatClampNeg 1) ((ec + 1) &&& 15).toNatClampNeg 2) (((ec + 1) + 1) &&& 15).toNatClampNeg 3) ((((ec + 1) + 1) + 1) &&& 15).toNatClampNeg 4) (((((ec + 1) + 1) + 1) + 1) &&& 15).toNatClampNeg 5), (((((ec + 1) + 1) + 1) + 1) + 1), sc, vl, LP, sT)) H := hP1
                  have hD : va_D A (xW F (sS, sP, sQ, (upd (upd (upd (upd (upd sE (ec &&& 15).toNatClampNeg 1) ((ec + 1) &&& 15).toNatClampNeg 2) (((ec + 1) + 1) &&& 15).toNatClampNeg 3) ((((ec + 1) + 1) + 1) &&& 15).toNatClampNeg 4) (((((ec + 1) + 1) + 1) + 1) &&& 15).toNatClampNeg 5), (((((ec + 1) + 1) + 1) + 1) + 1), sc, vl, LP, sT)) := hD1
                  refine lv_iinc (v := 6) (lv' := [(5, .int 6), (3, .int ((((0 + 1) + 1) + 1) + 0)), (4, .int 1), (0, .ref F.1), (1, .int p0), (2, .int p1)]) hx hb dX1_countTurns_57 hl (k := 2) rfl (by decide) (by decide) rfl (fun ls hl => ?_)
                  refine lv_goto (tgt := 8) hx hb dX1_countTurns_60 (by decide) ?_
                  refine lv_iload hx hb dX1_countTurns_8 (lv_at hl 0 rfl) ?_
                  refine lv_iconst (v := 5) hx hb dX1_countTurns_10 (by decide) ?_
                  refine lv_icmp_gt (tgt := 63) hx hb dX1_countTurns_11 (by decide) (fun _ => ?_) (fun cz => absurd cz (by decide))
                  refine lv_iload_n hx hb dX1_countTurns_63 rfl (lv_at hl 1 rfl) ?_
                  exact W.iret (v := ((((0 + 1) + 1) + 1) + 0)) hx hb hr (fun tE ht hW => ⟨⟨((((0 + 1) + 1) + 1) + 0), (sS, sP, sQ, (upd (upd (upd (upd (upd sE (ec &&& 15).toNatClampNeg 1) ((ec + 1) &&& 15).toNatClampNeg 2) (((ec + 1) + 1) &&& 15).toNatClampNeg 3) ((((ec + 1) + 1) + 1) &&& 15).toNatClampNeg 4) (((((ec + 1) + 1) + 1) + 1) &&& 15).toNatClampNeg 5), (((((ec + 1) + 1) + 1) + 1) + 1), sc, vl, LP, sT), rfl, by first | (simp only [sTurn, tS, uN, gS, gP, gQ, gE, gec, gsc, gvl, gL, gT, c1, c55, c61, c103, c109, c139, eq_true c145, c151, eq_true c152, eq_self, ↓reduceIte, Bool.false_eq_true, Bool.not_false, Bool.not_true, Bool.and_true, Bool.and_false, Bool.true_and, Bool.false_and, decide_true, decide_false] <;> first | done | decide) | (simp only [sTurn, tS, uN, gS, gP, gQ, gE, gec, gsc, gvl, gL, gT, c1, c55, c61, c103, c109, c139, c145, c151, c152, eq_self, ↓reduceIte, Bool.false_eq_true, Bool.not_false, Bool.not_true, Bool.and_true, Bool.and_false, Bool.true_and, Bool.false_and, decide_true, decide_false] <;> first | done | decide) | (simp [sTurn, tS, uN, gS, gP, gQ, gE, gec, gsc, gvl, gL, gT, c1, c55, c61, c103, c109, c139, c145, c151, c152]; done) | (simp [sTurn, tS, uN, gS, gP, gQ, gE, gec, gsc, gvl, gL, gT, c1, c55, c61, c103, c109, c139, eq_true c145, c151, eq_true c152]; done), by rw [ht]; exact hP, va_K.moved hW.alike hK, hD⟩, hS.F ht⟩) hS.2.2 dX1_countTurns_64
              · refine lv_iload hx hb dX1_countTurns_25 (lv_at hl 0 rfl) ?_
                refine lv_iload_n hx hb dX1_countTurns_27 rfl (lv_at hl 5 rfl) ?_
                refine lv_icmp_ne (tgt := 35) hx hb dX1_countTurns_28 (by decide) (fun c163 => ?_) (fun c163 => ?_)
                · refine lv_iconst (v := 0) hx hb dX1_countTurns_35 (by decide) ?_
                  refine lv_istore (lv' := [(4, .int 0), (5, .int 4), (3, .int (((0 + 1) + 1) + 1)), (0, .ref F.1), (1, .int p0), (2, .int p1)]) hx hb dX1_countTurns_36 hl (by decide) rfl (fun ls hl => ?_)
                  refine lv_iload_n hx hb dX1_countTurns_38 rfl (lv_at hl 2 rfl) ?_
                  refine lv_iload hx hb dX1_countTurns_39 (lv_at hl 0 rfl) ?_
                  refine lv_if_eq (tgt := 48) hx hb dX1_countTurns_41 (by decide) (fun _ => ?_) (fun cz => absurd cz (by decide))
                  refine lv_iconst (v := 1) hx hb dX1_countTurns_48 (by decide) ?_
                  refine lv_iadd hx hb dX1_countTurns_49 ?_
                  refine lv_istore_n (lv' := [(3, .int ((((0 + 1) + 1) + 1) + 1)), (4, .int 0), (5, .int 4), (0, .ref F.1), (1, .int p0), (2, .int p1)]) hx hb dX1_countTurns_50 rfl hl (by decide) rfl (fun ls hl => ?_)
                  refine lv_aload_n hx hb dX1_countTurns_51 rfl (lv_at hl 3 rfl) ?_
                  refine lv_iload hx hb dX1_countTurns_52 (lv_at hl 2 rfl) ?_
                  have hf164 := xFree hD hS hA
                  refine va_callv (va_runV (As := [.int 4]) (rest := []) ⟨hx, hb, hml, hown, hts⟩ (k_note l D F (sS, sP, sQ, (upd (upd (upd sE (ec &&& 15).toNatClampNeg 1) ((ec + 1) &&& 15).toNatClampNeg 2) (((ec + 1) + 1) &&& 15).toNatClampNeg 3), (((ec + 1) + 1) + 1), sc, vl, LP, sT)  H.size 4) (cwV 1 hts gX1_countTurns_X1_note rfl rfl rfl (by decide +kernel) ⟨Nat.le_of_ble_eq_true rfl, Nat.le_of_ble_eq_true rfl⟩) (xPre hN hK hP hD hS hA hZ _) rfl rfl hl.1 rfl (lv_room (Nat.le_of_ble_eq_true rfl)) dX1_countTurns_54 ⟨Nat.le_of_ble_eq_true rfl, Nat.le_of_ble_eq_true rfl⟩) hS (fun q _ h => hf164 q h) hf164 (fun v166 t168 H1 locs ht hvm hw167 hB hz1 hk1 hS => ?_)
                  obtain ⟨hP1, hK1, hD1⟩ := hB
                  rw [ht] at hP1
                  replace hD1 := hD1.weaken (fun _ _ _ h => hf164 _ h)
                  generalize H1 = H at hP1 hS ⊢
                  obtain rfl := (show v166 = (sS, sP, sQ, (upd (upd (upd (upd sE (ec &&& 15).toNatClampNeg 1) ((ec + 1) &&& 15).toNatClampNeg 2) (((ec + 1) + 1) &&& 15).toNatClampNeg 3) ((((ec + 1) + 1) + 1) &&& 15).toNatClampNeg 4), ((((ec + 1) + 1) + 1) + 1), sc, vl, LP, sT) from hw167)
                  have hP : va_P D vwCl (xW F (sS, sP, sQ, (upd (upd (upd (upd sE (ec &&& 15).toNatClampNeg 1) ((ec + 1) &&& 15).toNatClampNeg 2) (((ec + 1) + 1) &&& 15).toNatClampNeg 3) ((((ec + 1) + 1) + 1) &&& 15).toNatClampNeg 4), ((((ec + 1) + 1) + 1) + 1), sc, vl, LP, sT)) H := hP1
                  have hD : va_D A (xW F (sS, sP, sQ, (upd (upd (upd (upd sE (ec &&& 15).toNatClampNeg 1) ((ec + 1) &&& 15).toNatClampNeg 2) (((ec + 1) + 1) &&& 15).toNatClampNeg 3) ((((ec + 1) + 1) + 1) &&& 15).toNatClampNeg 4), ((((ec + 1) + 1) + 1) + 1), sc, vl, LP, sT)) := hD1
                  refine lv_iinc (v := 5) (lv' := [(5, .int 5), (3, .int ((((0 + 1) + 1) + 1) + 1)), (4, .int 0), (0, .ref F.1), (1, .int p0), (2, .int p1)]) hx hb dX1_countTurns_57 hl (k := 2) rfl (by decide) (by decide) rfl (fun ls hl => ?_)
                  refine lv_goto (tgt := 8) hx hb dX1_countTurns_60 (by decide) ?_
                  refine lv_iload hx hb dX1_countTurns_8 (lv_at hl 0 rfl) ?_
                  refine lv_iconst (v := 5) hx hb dX1_countTurns_10 (by decide) ?_
                  refine lv_icmp_gt (tgt := 63) hx hb dX1_countTurns_11 (by decide) (fun cz => absurd cz (by decide)) (fun _ => ?_)
                  refine lv_iload hx hb dX1_countTurns_14 (lv_at hl 2 rfl) ?_
                  refine lv_if_ne (tgt := 63) hx hb dX1_countTurns_16 (by decide) (fun cz => absurd cz (by decide)) (fun _ => ?_)
                  refine lv_iload hx hb dX1_countTurns_19 (lv_at hl 0 rfl) ?_
                  refine lv_iload_n hx hb dX1_countTurns_21 rfl (lv_at hl 4 rfl) ?_
                  refine lv_icmp_eq (tgt := 51) hx hb dX1_countTurns_22 (by decide) (fun c169 => ?_) (fun c169 => ?_)
                  · refine lv_aload_n hx hb dX1_countTurns_51 rfl (lv_at hl 3 rfl) ?_
                    refine lv_iload hx hb dX1_countTurns_52 (lv_at hl 0 rfl) ?_
                    have hf170 := xFree hD hS hA
                    refine va_callv (va_runV (As := [.int 5]) (rest := []) ⟨hx, hb, hml, hown, hts⟩ (k_note l D F (sS, sP, sQ, (upd (upd (upd (upd sE (ec &&& 15).toNatClampNeg 1) ((ec + 1) &&& 15).toNatClampNeg 2) (((ec + 1) + 1) &&& 15).toNatClampNeg 3) ((((ec + 1) + 1) + 1) &&& 15).toNatClampNeg 4), ((((ec + 1) + 1) + 1) + 1), sc, vl, LP, sT)  H.size 5) (cwV 1 hts gX1_countTurns_X1_note rfl rfl rfl (by decide +kernel) ⟨Nat.le_of_ble_eq_true rfl, Nat.le_of_ble_eq_true rfl⟩) (xPre hN hK hP hD hS hA hZ _) rfl rfl hl.1 rfl (lv_room (Nat.le_of_ble_eq_true rfl)) dX1_countTurns_54 ⟨Nat.le_of_ble_eq_true rfl, Nat.le_of_ble_eq_true rfl⟩) hS (fun q _ h => hf170 q h) hf170 (fun v172 t174 H1 locs ht hvm hw173 hB hz1 hk1 hS => ?_)
                    obtain ⟨hP1, hK1, hD1⟩ := hB
                    rw [ht] at hP1
                    replace hD1 := hD1.weaken (fun _ _ _ h => hf170 _ h)
                    generalize H1 = H at hP1 hS ⊢
                    obtain rfl := (show v172 = (sS, sP, sQ, (upd (upd (upd (upd (upd sE (ec &&& 15).toNatClampNeg 1) ((ec + 1) &&& 15).toNatClampNeg 2) (((ec + 1) + 1) &&& 15).toNatClampNeg 3) ((((ec + 1) + 1) + 1) &&& 15).toNatClampNeg 4) (((((ec + 1) + 1) + 1) + 1) &&& 15).toNatClampNeg 5), (((((ec + 1) + 1) + 1) + 1) + 1), sc, vl, LP, sT) from hw173)
                    have hP : va_P D vwCl (xW F (sS, sP, sQ, (upd (upd (upd (upd (upd sE (ec &&& 15).toNatClampNeg 1) ((ec + 1) &&& 15).toNatClampNeg 2) (((ec + 1) + 1) &&& 15).toNatClampNeg 3) ((((ec + 1) + 1) + 1) &&& 15).toNatClampNeg 4) (((((ec + 1) + 1) + 1) + 1) &&& 15).toNatClampNeg 5), (((((ec + 1) + 1) + 1) + 1) + 1), sc, vl, LP, sT)) H := hP1
                    have hD : va_D A (xW F (sS, sP, sQ, (upd (upd (upd (upd (upd sE (ec &&& 15).toNatClampNeg 1) ((ec + 1) &&& 15).toNatClampNeg 2) (((ec + 1) + 1) &&& 15).toNatClampNeg 3) ((((ec + 1) + 1) + 1) &&& 15).toNatClampNeg 4) (((((ec + 1) + 1) + 1) + 1) &&& 15).toNatClampNeg 5), (((((ec + 1) + 1) + 1) + 1) + 1), sc, vl, LP, sT)) := hD1
                    refine lv_iinc (v := 6) (lv' := [(5, .int 6), (3, .int ((((0 + 1) + 1) + 1) + 1)), (4, .int 0), (0, .ref F.1), (1, .int p0), (2, .int p1)]) hx hb dX1_countTurns_57 hl (k := 0) rfl (by decide) (by decide) rfl (fun ls hl => ?_)
                    refine lv_goto (tgt := 8) hx hb dX1_countTurns_60 (by decide) ?_
                    refine lv_iload hx hb dX1_countTurns_8 (lv_at hl 0 rfl) ?_
                    refine lv_iconst (v := 5) hx hb dX1_countTurns_10 (by decide) ?_
                    refine lv_icmp_gt (tgt := 63) hx hb dX1_countTurns_11 (by decide) (fun _ => ?_) (fun cz => absurd cz (by decide))
                    refine lv_iload_n hx hb dX1_countTurns_63 rfl (lv_at hl 1 rfl) ?_
                    exact W.iret (v := ((((0 + 1) + 1) + 1) + 1)) hx hb hr (fun tE ht hW => ⟨⟨((((0 + 1) + 1) + 1) + 1), (sS, sP, sQ, (upd (upd (upd (upd (upd sE (ec &&& 15).toNatClampNeg 1) ((ec + 1) &&& 15).toNatClampNeg 2) (((ec + 1) + 1) &&& 15).toNatClampNeg 3) ((((ec + 1) + 1) + 1) &&& 15).toNatClampNeg 4) (((((ec + 1) + 1) + 1) + 1) &&& 15).toNatClampNeg 5), (((((ec + 1) + 1) + 1) + 1) + 1), sc, vl, LP, sT), rfl, by first | (simp only [sTurn, tS, uN, gS, gP, gQ, gE, gec, gsc, gvl, gL, gT, c1, c55, c61, c103, c109, c139, c145, c163, eq_true c169, eq_self, ↓reduceIte, Bool.false_eq_true, Bool.not_false, Bool.not_true, Bool.and_true, Bool.and_false, Bool.true_and, Bool.false_and, decide_true, decide_false] <;> first | done | decide) | (simp only [sTurn, tS, uN, gS, gP, gQ, gE, gec, gsc, gvl, gL, gT, c1, c55, c61, c103, c109, c139, c145, c163, c169, eq_self, ↓reduceIte, Bool.false_eq_true, Bool.not_false, Bool.not_true, Bool.and_true, Bool.and_false, Bool.true_and, Bool.false_and, decide_true, decide_false] <;> first | done | decide) | (simp [sTurn, tS, uN, gS, gP, gQ, gE, gec, gsc, gvl, gL, gT, c1, c55, c61, c103, c109, c139, c145, c163, c169]; done) | (simp [sTurn, tS, uN, gS, gP, gQ, gE, gec, gsc, gvl, gL, gT, c1, c55, c61, c103, c109, c139, c145, c163, eq_true c169]; done), by rw [ht]; exact hP, va_K.moved hW.alike hK, hD⟩, hS.F ht⟩) hS.2.2 dX1_countTurns_64
                  · refine lv_iload hx hb dX1_countTurns_25 (lv_at hl 0 rfl) ?_
                    refine lv_iload_n hx hb dX1_countTurns_27 rfl (lv_at hl 5 rfl) ?_
                    refine lv_icmp_ne (tgt := 35) hx hb dX1_countTurns_28 (by decide) (fun c175 => ?_) (fun c175 => ?_)
                    · refine lv_iconst (v := 0) hx hb dX1_countTurns_35 (by decide) ?_
                      refine lv_istore (lv' := [(4, .int 0), (5, .int 5), (3, .int ((((0 + 1) + 1) + 1) + 1)), (0, .ref F.1), (1, .int p0), (2, .int p1)]) hx hb dX1_countTurns_36 hl (by decide) rfl (fun ls hl => ?_)
                      refine lv_iload_n hx hb dX1_countTurns_38 rfl (lv_at hl 2 rfl) ?_
                      refine lv_iload hx hb dX1_countTurns_39 (lv_at hl 0 rfl) ?_
                      refine lv_if_eq (tgt := 48) hx hb dX1_countTurns_41 (by decide) (fun _ => ?_) (fun cz => absurd cz (by decide))
                      refine lv_iconst (v := 1) hx hb dX1_countTurns_48 (by decide) ?_
                      refine lv_iadd hx hb dX1_countTurns_49 ?_
                      refine lv_istore_n (lv' := [(3, .int (((((0 + 1) + 1) + 1) + 1) + 1)), (4, .int 0), (5, .int 5), (0, .ref F.1), (1, .int p0), (2, .int p1)]) hx hb dX1_countTurns_50 rfl hl (by decide) rfl (fun ls hl => ?_)
                      refine lv_aload_n hx hb dX1_countTurns_51 rfl (lv_at hl 3 rfl) ?_
                      refine lv_iload hx hb dX1_countTurns_52 (lv_at hl 2 rfl) ?_
                      have hf176 := xFree hD hS hA
                      refine va_callv (va_runV (As := [.int 5]) (rest := []) ⟨hx, hb, hml, hown, hts⟩ (k_note l D F (sS, sP, sQ, (upd (upd (upd (upd sE (ec &&& 15).toNatClampNeg 1) ((ec + 1) &&& 15).toNatClampNeg 2) (((ec + 1) + 1) &&& 15).toNatClampNeg 3) ((((ec + 1) + 1) + 1) &&& 15).toNatClampNeg 4), ((((ec + 1) + 1) + 1) + 1), sc, vl, LP, sT)  H.size 5) (cwV 1 hts gX1_countTurns_X1_note rfl rfl rfl (by decide +kernel) ⟨Nat.le_of_ble_eq_true rfl, Nat.le_of_ble_eq_true rfl⟩) (xPre hN hK hP hD hS hA hZ _) rfl rfl hl.1 rfl (lv_room (Nat.le_of_ble_eq_true rfl)) dX1_countTurns_54 ⟨Nat.le_of_ble_eq_true rfl, Nat.le_of_ble_eq_true rfl⟩) hS (fun q _ h => hf176 q h) hf176 (fun v178 t180 H1 locs ht hvm hw179 hB hz1 hk1 hS => ?_)
                      obtain ⟨hP1, hK1, hD1⟩ := hB
                      rw [ht] at hP1
                      replace hD1 := hD1.weaken (fun _ _ _ h => hf176 _ h)
                      generalize H1 = H at hP1 hS ⊢
                      obtain rfl := (show v178 = (sS, sP, sQ, (upd (upd (upd (upd (upd sE (ec &&& 15).toNatClampNeg 1) ((ec + 1) &&& 15).toNatClampNeg 2) (((ec + 1) + 1) &&& 15).toNatClampNeg 3) ((((ec + 1) + 1) + 1) &&& 15).toNatClampNeg 4) (((((ec + 1) + 1) + 1) + 1) &&& 15).toNatClampNeg 5), (((((ec + 1) + 1) + 1) + 1) + 1), sc, vl, LP, sT) from hw179)
                      have hP : va_P D vwCl (xW F (sS, sP, sQ, (upd (upd (upd (upd (upd sE (ec &&& 15).toNatClampNeg 1) ((ec + 1) &&& 15).toNatClampNeg 2) (((ec + 1) + 1) &&& 15).toNatClampNeg 3) ((((ec + 1) + 1) + 1) &&& 15).toNatClampNeg 4) (((((ec + 1) + 1) + 1) + 1) &&& 15).toNatClampNeg 5), (((((ec + 1) + 1) + 1) + 1) + 1), sc, vl, LP, sT)) H := hP1
                      have hD : va_D A (xW F (sS, sP, sQ, (upd (upd (upd (upd (upd sE (ec &&& 15).toNatClampNeg 1) ((ec + 1) &&& 15).toNatClampNeg 2) (((ec + 1) + 1) &&& 15).toNatClampNeg 3) ((((ec + 1) + 1) + 1) &&& 15).toNatClampNeg 4) (((((ec + 1) + 1) + 1) + 1) &&& 15).toNatClampNeg 5), (((((ec + 1) + 1) + 1) + 1) + 1), sc, vl, LP, sT)) := hD1
                      refine lv_iinc (v := 6) (lv' := [(5, .int 6), (3, .int (((((0 + 1) + 1) + 1) + 1) + 1)), (4, .int 0), (0, .ref F.1), (1, .int p0), (2, .int p1)]) hx hb dX1_countTurns_57 hl (k := 2) rfl (by decide) (by decide) rfl (fun ls hl => ?_)
                      refine lv_goto (tgt := 8) hx hb dX1_countTurns_60 (by decide) ?_
                      refine lv_iload hx hb dX1_countTurns_8 (lv_at hl 0 rfl) ?_
                      refine lv_iconst (v := 5) hx hb dX1_countTurns_10 (by decide) ?_
                      refine lv_icmp_gt (tgt := 63) hx hb dX1_countTurns_11 (by decide) (fun _ => ?_) (fun cz => absurd cz (by decide))
                      refine lv_iload_n hx hb dX1_countTurns_63 rfl (lv_at hl 1 rfl) ?_
                      exact W.iret (v := (((((0 + 1) + 1) + 1) + 1) + 1)) hx hb hr (fun tE ht hW => ⟨⟨(((((0 + 1) + 1) + 1) + 1) + 1), (sS, sP, sQ, (upd (upd (upd (upd (upd sE (ec &&& 15).toNatClampNeg 1) ((ec + 1) &&& 15).toNatClampNeg 2) (((ec + 1) + 1) &&& 15).toNatClampNeg 3) ((((ec + 1) + 1) + 1) &&& 15).toNatClampNeg 4) (((((ec + 1) + 1) + 1) + 1) &&& 15).toNatClampNeg 5), (((((ec + 1) + 1) + 1) + 1) + 1), sc, vl, LP, sT), rfl, by first | (simp only [sTurn, tS, uN, gS, gP, gQ, gE, gec, gsc, gvl, gL, gT, c1, c55, c61, c103, c109, c139, c145, c163, c169, c175, eq_self, ↓reduceIte, Bool.false_eq_true, Bool.not_false, Bool.not_true, Bool.and_true, Bool.and_false, Bool.true_and, Bool.false_and, decide_true, decide_false] <;> first | done | decide) | (simp [sTurn, tS, uN, gS, gP, gQ, gE, gec, gsc, gvl, gL, gT, c1, c55, c61, c103, c109, c139, c145, c163, c169, c175]; done), by rw [ht]; exact hP, va_K.moved hW.alike hK, hD⟩, hS.F ht⟩) hS.2.2 dX1_countTurns_64
                    · refine lv_iconst (v := 1) hx hb dX1_countTurns_31 (by decide) ?_
                      refine lv_goto (tgt := 36) hx hb dX1_countTurns_32 (by decide) ?_
                      refine lv_istore (lv' := [(4, .int 1), (5, .int 5), (3, .int ((((0 + 1) + 1) + 1) + 1)), (0, .ref F.1), (1, .int p0), (2, .int p1)]) hx hb dX1_countTurns_36 hl (by decide) rfl (fun ls hl => ?_)
                      refine lv_iload_n hx hb dX1_countTurns_38 rfl (lv_at hl 2 rfl) ?_
                      refine lv_iload hx hb dX1_countTurns_39 (lv_at hl 0 rfl) ?_
                      refine lv_if_eq (tgt := 48) hx hb dX1_countTurns_41 (by decide) (fun cz => absurd cz (by decide)) (fun _ => ?_)
                      refine lv_iconst (v := 0) hx hb dX1_countTurns_44 (by decide) ?_
                      refine lv_goto (tgt := 49) hx hb dX1_countTurns_45 (by decide) ?_
                      refine lv_iadd hx hb dX1_countTurns_49 ?_
                      refine lv_istore_n (lv' := [(3, .int (((((0 + 1) + 1) + 1) + 1) + 0)), (4, .int 1), (5, .int 5), (0, .ref F.1), (1, .int p0), (2, .int p1)]) hx hb dX1_countTurns_50 rfl hl (by decide) rfl (fun ls hl => ?_)
                      refine lv_aload_n hx hb dX1_countTurns_51 rfl (lv_at hl 3 rfl) ?_
                      refine lv_iload hx hb dX1_countTurns_52 (lv_at hl 2 rfl) ?_
                      have hf181 := xFree hD hS hA
                      refine va_callv (va_runV (As := [.int 5]) (rest := []) ⟨hx, hb, hml, hown, hts⟩ (k_note l D F (sS, sP, sQ, (upd (upd (upd (upd sE (ec &&& 15).toNatClampNeg 1) ((ec + 1) &&& 15).toNatClampNeg 2) (((ec + 1) + 1) &&& 15).toNatClampNeg 3) ((((ec + 1) + 1) + 1) &&& 15).toNatClampNeg 4), ((((ec + 1) + 1) + 1) + 1), sc, vl, LP, sT)  H.size 5) (cwV 1 hts gX1_countTurns_X1_note rfl rfl rfl (by decide +kernel) ⟨Nat.le_of_ble_eq_true rfl, Nat.le_of_ble_eq_true rfl⟩) (xPre hN hK hP hD hS hA hZ _) rfl rfl hl.1 rfl (lv_room (Nat.le_of_ble_eq_true rfl)) dX1_countTurns_54 ⟨Nat.le_of_ble_eq_true rfl, Nat.le_of_ble_eq_true rfl⟩) hS (fun q _ h => hf181 q h) hf181 (fun v183 t185 H1 locs ht hvm hw184 hB hz1 hk1 hS => ?_)
                      obtain ⟨hP1, hK1, hD1⟩ := hB
                      rw [ht] at hP1
                      replace hD1 := hD1.weaken (fun _ _ _ h => hf181 _ h)
                      generalize H1 = H at hP1 hS ⊢
                      obtain rfl := (show v183 = (sS, sP, sQ, (upd (upd (upd (upd (upd sE (ec &&& 15).toNatClampNeg 1) ((ec + 1) &&& 15).toNatClampNeg 2) (((ec + 1) + 1) &&& 15).toNatClampNeg 3) ((((ec + 1) + 1) + 1) &&& 15).toNatClampNeg 4) (((((ec + 1) + 1) + 1) + 1) &&& 15).toNatClampNeg 5), (((((ec + 1) + 1) + 1) + 1) + 1), sc, vl, LP, sT) from hw184)
                      have hP : va_P D vwCl (xW F (sS, sP, sQ, (upd (upd (upd (upd (upd sE (ec &&& 15).toNatClampNeg 1) ((ec + 1) &&& 15).toNatClampNeg 2) (((ec + 1) + 1) &&& 15).toNatClampNeg 3) ((((ec + 1) + 1) + 1) &&& 15).toNatClampNeg 4) (((((ec + 1) + 1) + 1) + 1) &&& 15).toNatClampNeg 5), (((((ec + 1) + 1) + 1) + 1) + 1), sc, vl, LP, sT)) H := hP1
                      have hD : va_D A (xW F (sS, sP, sQ, (upd (upd (upd (upd (upd sE (ec &&& 15).toNatClampNeg 1) ((ec + 1) &&& 15).toNatClampNeg 2) (((ec + 1) + 1) &&& 15).toNatClampNeg 3) ((((ec + 1) + 1) + 1) &&& 15).toNatClampNeg 4) (((((ec + 1) + 1) + 1) + 1) &&& 15).toNatClampNeg 5), (((((ec + 1) + 1) + 1) + 1) + 1), sc, vl, LP, sT)) := hD1
                      refine lv_iinc (v := 6) (lv' := [(5, .int 6), (3, .int (((((0 + 1) + 1) + 1) + 1) + 0)), (4, .int 1), (0, .ref F.1), (1, .int p0), (2, .int p1)]) hx hb dX1_countTurns_57 hl (k := 2) rfl (by decide) (by decide) rfl (fun ls hl => ?_)
                      refine lv_goto (tgt := 8) hx hb dX1_countTurns_60 (by decide) ?_
                      refine lv_iload hx hb dX1_countTurns_8 (lv_at hl 0 rfl) ?_
                      refine lv_iconst (v := 5) hx hb dX1_countTurns_10 (by decide) ?_
                      refine lv_icmp_gt (tgt := 63) hx hb dX1_countTurns_11 (by decide) (fun _ => ?_) (fun cz => absurd cz (by decide))
                      refine lv_iload_n hx hb dX1_countTurns_63 rfl (lv_at hl 1 rfl) ?_
                      exact W.iret (v := (((((0 + 1) + 1) + 1) + 1) + 0)) hx hb hr (fun tE ht hW => ⟨⟨(((((0 + 1) + 1) + 1) + 1) + 0), (sS, sP, sQ, (upd (upd (upd (upd (upd sE (ec &&& 15).toNatClampNeg 1) ((ec + 1) &&& 15).toNatClampNeg 2) (((ec + 1) + 1) &&& 15).toNatClampNeg 3) ((((ec + 1) + 1) + 1) &&& 15).toNatClampNeg 4) (((((ec + 1) + 1) + 1) + 1) &&& 15).toNatClampNeg 5), (((((ec + 1) + 1) + 1) + 1) + 1), sc, vl, LP, sT), rfl, by first | (simp only [sTurn, tS, uN, gS, gP, gQ, gE, gec, gsc, gvl, gL, gT, c1, c55, c61, c103, c109, c139, c145, c163, c169, eq_true c175, eq_self, ↓reduceIte, Bool.false_eq_true, Bool.not_false, Bool.not_true, Bool.and_true, Bool.and_false, Bool.true_and, Bool.false_and, decide_true, decide_false] <;> first | done | decide) | (simp only [sTurn, tS, uN, gS, gP, gQ, gE, gec, gsc, gvl, gL, gT, c1, c55, c61, c103, c109, c139, c145, c163, c169, c175, eq_self, ↓reduceIte, Bool.false_eq_true, Bool.not_false, Bool.not_true, Bool.and_true, Bool.and_false, Bool.true_and, Bool.false_and, decide_true, decide_false] <;> first | done | decide) | (simp [sTurn, tS, uN, gS, gP, gQ, gE, gec, gsc, gvl, gL, gT, c1, c55, c61, c103, c109, c139, c145, c163, c169, c175]; done) | (simp [sTurn, tS, uN, gS, gP, gQ, gE, gec, gsc, gvl, gL, gT, c1, c55, c61, c103, c109, c139, c145, c163, c169, eq_true c175]; done), by rw [ht]; exact hP, va_K.moved hW.alike hK, hD⟩, hS.F ht⟩) hS.2.2 dX1_countTurns_64
                · refine lv_iconst (v := 1) hx hb dX1_countTurns_31 (by decide) ?_
                  refine lv_goto (tgt := 36) hx hb dX1_countTurns_32 (by decide) ?_
                  refine lv_istore (lv' := [(4, .int 1), (5, .int 4), (3, .int (((0 + 1) + 1) + 1)), (0, .ref F.1), (1, .int p0), (2, .int p1)]) hx hb dX1_countTurns_36 hl (by decide) rfl (fun ls hl => ?_)
                  refine lv_iload_n hx hb dX1_countTurns_38 rfl (lv_at hl 2 rfl) ?_
                  refine lv_iload hx hb dX1_countTurns_39 (lv_at hl 0 rfl) ?_
                  refine lv_if_eq (tgt := 48) hx hb dX1_countTurns_41 (by decide) (fun cz => absurd cz (by decide)) (fun _ => ?_)
                  refine lv_iconst (v := 0) hx hb dX1_countTurns_44 (by decide) ?_
                  refine lv_goto (tgt := 49) hx hb dX1_countTurns_45 (by decide) ?_
                  refine lv_iadd hx hb dX1_countTurns_49 ?_
                  refine lv_istore_n (lv' := [(3, .int ((((0 + 1) + 1) + 1) + 0)), (4, .int 1), (5, .int 4), (0, .ref F.1), (1, .int p0), (2, .int p1)]) hx hb dX1_countTurns_50 rfl hl (by decide) rfl (fun ls hl => ?_)
                  refine lv_aload_n hx hb dX1_countTurns_51 rfl (lv_at hl 3 rfl) ?_
                  refine lv_iload hx hb dX1_countTurns_52 (lv_at hl 2 rfl) ?_
                  have hf186 := xFree hD hS hA
                  refine va_callv (va_runV (As := [.int 4]) (rest := []) ⟨hx, hb, hml, hown, hts⟩ (k_note l D F (sS, sP, sQ, (upd (upd (upd sE (ec &&& 15).toNatClampNeg 1) ((ec + 1) &&& 15).toNatClampNeg 2) (((ec + 1) + 1) &&& 15).toNatClampNeg 3), (((ec + 1) + 1) + 1), sc, vl, LP, sT)  H.size 4) (cwV 1 hts gX1_countTurns_X1_note rfl rfl rfl (by decide +kernel) ⟨Nat.le_of_ble_eq_true rfl, Nat.le_of_ble_eq_true rfl⟩) (xPre hN hK hP hD hS hA hZ _) rfl rfl hl.1 rfl (lv_room (Nat.le_of_ble_eq_true rfl)) dX1_countTurns_54 ⟨Nat.le_of_ble_eq_true rfl, Nat.le_of_ble_eq_true rfl⟩) hS (fun q _ h => hf186 q h) hf186 (fun v188 t190 H1 locs ht hvm hw189 hB hz1 hk1 hS => ?_)
                  obtain ⟨hP1, hK1, hD1⟩ := hB
                  rw [ht] at hP1
                  replace hD1 := hD1.weaken (fun _ _ _ h => hf186 _ h)
                  generalize H1 = H at hP1 hS ⊢
                  obtain rfl := (show v188 = (sS, sP, sQ, (upd (upd (upd (upd sE (ec &&& 15).toNatClampNeg 1) ((ec + 1) &&& 15).toNatClampNeg 2) (((ec + 1) + 1) &&& 15).toNatClampNeg 3) ((((ec + 1) + 1) + 1) &&& 15).toNatClampNeg 4), ((((ec + 1) + 1) + 1) + 1), sc, vl, LP, sT) from hw189)
                  have hP : va_P D vwCl (xW F (sS, sP, sQ, (upd (upd (upd (upd sE (ec &&& 15).toNatClampNeg 1) ((ec + 1) &&& 15).toNatClampNeg 2) (((ec + 1) + 1) &&& 15).toNatClampNeg 3) ((((ec + 1) + 1) + 1) &&& 15).toNatClampNeg 4), ((((ec + 1) + 1) + 1) + 1), sc, vl, LP, sT)) H := hP1
                  have hD : va_D A (xW F (sS, sP, sQ, (upd (upd (upd (upd sE (ec &&& 15).toNatClampNeg 1) ((ec + 1) &&& 15).toNatClampNeg 2) (((ec + 1) + 1) &&& 15).toNatClampNeg 3) ((((ec + 1) + 1) + 1) &&& 15).toNatClampNeg 4), ((((ec + 1) + 1) + 1) + 1), sc, vl, LP, sT)) := hD1
                  refine lv_iinc (v := 5) (lv' := [(5, .int 5), (3, .int ((((0 + 1) + 1) + 1) + 0)), (4, .int 1), (0, .ref F.1), (1, .int p0), (2, .int p1)]) hx hb dX1_countTurns_57 hl (k := 2) rfl (by decide) (by decide) rfl (fun ls hl => ?_)
                  refine lv_goto (tgt := 8) hx hb dX1_countTurns_60 (by decide) ?_
                  refine lv_iload hx hb dX1_countTurns_8 (lv_at hl 0 rfl) ?_
                  refine lv_iconst (v := 5) hx hb dX1_countTurns_10 (by decide) ?_
                  refine lv_icmp_gt (tgt := 63) hx hb dX1_countTurns_11 (by decide) (fun cz => absurd cz (by decide)) (fun _ => ?_)
                  refine lv_iload hx hb dX1_countTurns_14 (lv_at hl 2 rfl) ?_
                  refine lv_if_ne (tgt := 63) hx hb dX1_countTurns_16 (by decide) (fun _ => ?_) (fun cz => absurd cz (by decide))
                  refine lv_iload_n hx hb dX1_countTurns_63 rfl (lv_at hl 1 rfl) ?_
                  exact W.iret (v := ((((0 + 1) + 1) + 1) + 0)) hx hb hr (fun tE ht hW => ⟨⟨((((0 + 1) + 1) + 1) + 0), (sS, sP, sQ, (upd (upd (upd (upd sE (ec &&& 15).toNatClampNeg 1) ((ec + 1) &&& 15).toNatClampNeg 2) (((ec + 1) + 1) &&& 15).toNatClampNeg 3) ((((ec + 1) + 1) + 1) &&& 15).toNatClampNeg 4), ((((ec + 1) + 1) + 1) + 1), sc, vl, LP, sT), rfl, by first | (simp only [sTurn, tS, uN, gS, gP, gQ, gE, gec, gsc, gvl, gL, gT, c1, c55, c61, c103, c109, c139, c145, eq_true c163, eq_self, ↓reduceIte, Bool.false_eq_true, Bool.not_false, Bool.not_true, Bool.and_true, Bool.and_false, Bool.true_and, Bool.false_and, decide_true, decide_false] <;> first | done | decide) | (simp only [sTurn, tS, uN, gS, gP, gQ, gE, gec, gsc, gvl, gL, gT, c1, c55, c61, c103, c109, c139, c145, c163, eq_self, ↓reduceIte, Bool.false_eq_true, Bool.not_false, Bool.not_true, Bool.and_true, Bool.and_false, Bool.true_and, Bool.false_and, decide_true, decide_false] <;> first | done | decide) | (simp [sTurn, tS, uN, gS, gP, gQ, gE, gec, gsc, gvl, gL, gT, c1, c55, c61, c103, c109, c139, c145, c163]; done) | (simp [sTurn, tS, uN, gS, gP, gQ, gE, gec, gsc, gvl, gL, gT, c1, c55, c61, c103, c109, c139, c145, eq_true c163]; done), by rw [ht]; exact hP, va_K.moved hW.alike hK, hD⟩, hS.F ht⟩) hS.2.2 dX1_countTurns_64
            · refine lv_iconst (v := 1) hx hb dX1_countTurns_31 (by decide) ?_
              refine lv_goto (tgt := 36) hx hb dX1_countTurns_32 (by decide) ?_
              refine lv_istore (lv' := [(4, .int 1), (5, .int 3), (3, .int ((0 + 1) + 1)), (0, .ref F.1), (1, .int p0), (2, .int p1)]) hx hb dX1_countTurns_36 hl (by decide) rfl (fun ls hl => ?_)
              refine lv_iload_n hx hb dX1_countTurns_38 rfl (lv_at hl 2 rfl) ?_
              refine lv_iload hx hb dX1_countTurns_39 (lv_at hl 0 rfl) ?_
              refine lv_if_eq (tgt := 48) hx hb dX1_countTurns_41 (by decide) (fun cz => absurd cz (by decide)) (fun _ => ?_)
              refine lv_iconst (v := 0) hx hb dX1_countTurns_44 (by decide) ?_
              refine lv_goto (tgt := 49) hx hb dX1_countTurns_45 (by decide) ?_
              refine lv_iadd hx hb dX1_countTurns_49 ?_
              refine lv_istore_n (lv' := [(3, .int (((0 + 1) + 1) + 0)), (4, .int 1), (5, .int 3), (0, .ref F.1), (1, .int p0), (2, .int p1)]) hx hb dX1_countTurns_50 rfl hl (by decide) rfl (fun ls hl => ?_)
              refine lv_aload_n hx hb dX1_countTurns_51 rfl (lv_at hl 3 rfl) ?_
              refine lv_iload hx hb dX1_countTurns_52 (lv_at hl 2 rfl) ?_
              have hf191 := xFree hD hS hA
              refine va_callv (va_runV (As := [.int 3]) (rest := []) ⟨hx, hb, hml, hown, hts⟩ (k_note l D F (sS, sP, sQ, (upd (upd sE (ec &&& 15).toNatClampNeg 1) ((ec + 1) &&& 15).toNatClampNeg 2), ((ec + 1) + 1), sc, vl, LP, sT)  H.size 3) (cwV 1 hts gX1_countTurns_X1_note rfl rfl rfl (by decide +kernel) ⟨Nat.le_of_ble_eq_true rfl, Nat.le_of_ble_eq_true rfl⟩) (xPre hN hK hP hD hS hA hZ _) rfl rfl hl.1 rfl (lv_room (Nat.le_of_ble_eq_true rfl)) dX1_countTurns_54 ⟨Nat.le_of_ble_eq_true rfl, Nat.le_of_ble_eq_true rfl⟩) hS (fun q _ h => hf191 q h) hf191 (fun v193 t195 H1 locs ht hvm hw194 hB hz1 hk1 hS => ?_)
              obtain ⟨hP1, hK1, hD1⟩ := hB
              rw [ht] at hP1
              replace hD1 := hD1.weaken (fun _ _ _ h => hf191 _ h)
              generalize H1 = H at hP1 hS ⊢
              obtain rfl := (show v193 = (sS, sP, sQ, (upd (upd (upd sE (ec &&& 15).toNatClampNeg 1) ((ec + 1) &&& 15).toNatClampNeg 2) (((ec + 1) + 1) &&& 15).toNatClampNeg 3), (((ec + 1) + 1) + 1), sc, vl, LP, sT) from hw194)
              have hP : va_P D vwCl (xW F (sS, sP, sQ, (upd (upd (upd sE (ec &&& 15).toNatClampNeg 1) ((ec + 1) &&& 15).toNatClampNeg 2) (((ec + 1) + 1) &&& 15).toNatClampNeg 3), (((ec + 1) + 1) + 1), sc, vl, LP, sT)) H := hP1
              have hD : va_D A (xW F (sS, sP, sQ, (upd (upd (upd sE (ec &&& 15).toNatClampNeg 1) ((ec + 1) &&& 15).toNatClampNeg 2) (((ec + 1) + 1) &&& 15).toNatClampNeg 3), (((ec + 1) + 1) + 1), sc, vl, LP, sT)) := hD1
              refine lv_iinc (v := 4) (lv' := [(5, .int 4), (3, .int (((0 + 1) + 1) + 0)), (4, .int 1), (0, .ref F.1), (1, .int p0), (2, .int p1)]) hx hb dX1_countTurns_57 hl (k := 2) rfl (by decide) (by decide) rfl (fun ls hl => ?_)
              refine lv_goto (tgt := 8) hx hb dX1_countTurns_60 (by decide) ?_
              refine lv_iload hx hb dX1_countTurns_8 (lv_at hl 0 rfl) ?_
              refine lv_iconst (v := 5) hx hb dX1_countTurns_10 (by decide) ?_
              refine lv_icmp_gt (tgt := 63) hx hb dX1_countTurns_11 (by decide) (fun cz => absurd cz (by decide)) (fun _ => ?_)
              refine lv_iload hx hb dX1_countTurns_14 (lv_at hl 2 rfl) ?_
              refine lv_if_ne (tgt := 63) hx hb dX1_countTurns_16 (by decide) (fun _ => ?_) (fun cz => absurd cz (by decide))
              refine lv_iload_n hx hb dX1_countTurns_63 rfl (lv_at hl 1 rfl) ?_
              exact W.iret (v := (((0 + 1) + 1) + 0)) hx hb hr (fun tE ht hW => ⟨⟨(((0 + 1) + 1) + 0), (sS, sP, sQ, (upd (upd (upd sE (ec &&& 15).toNatClampNeg 1) ((ec + 1) &&& 15).toNatClampNeg 2) (((ec + 1) + 1) &&& 15).toNatClampNeg 3), (((ec + 1) + 1) + 1), sc, vl, LP, sT), rfl, by first | (simp only [sTurn, tS, uN, gS, gP, gQ, gE, gec, gsc, gvl, gL, gT, c1, c55, c61, c103, c109, eq_true c139, eq_self, ↓reduceIte, Bool.false_eq_true, Bool.not_false, Bool.not_true, Bool.and_true, Bool.and_false, Bool.true_and, Bool.false_and, decide_true, decide_false] <;> first | done | decide) | (simp only [sTurn, tS, uN, gS, gP, gQ, gE, gec, gsc, gvl, gL, gT, c1, c55, c61, c103, c109, c139, eq_self, ↓reduceIte, Bool.false_eq_true, Bool.not_false, Bool.not_true, Bool.and_true, Bool.and_false, Bool.true_and, Bool.false_and, decide_true, decide_false] <;> first | done | decide) | (simp [sTurn, tS, uN, gS, gP, gQ, gE, gec, gsc, gvl, gL, gT, c1, c55, c61, c103, c109, c139]; done) | (simp [sTurn, tS, uN, gS, gP, gQ, gE, gec, gsc, gvl, gL, gT, c1, c55, c61, c103, c109, eq_true c139]; done), by rw [ht]; exact hP, va_K.moved hW.alike hK, hD⟩, hS.F ht⟩) hS.2.2 dX1_countTurns_64
        · refine lv_iconst (v := 1) hx hb dX1_countTurns_31 (by decide) ?_
          refine lv_goto (tgt := 36) hx hb dX1_countTurns_32 (by decide) ?_
          refine lv_istore (lv' := [(4, .int 1), (5, .int 2), (3, .int (0 + 1)), (0, .ref F.1), (1, .int p0), (2, .int p1)]) hx hb dX1_countTurns_36 hl (by decide) rfl (fun ls hl => ?_)
          refine lv_iload_n hx hb dX1_countTurns_38 rfl (lv_at hl 2 rfl) ?_
          refine lv_iload hx hb dX1_countTurns_39 (lv_at hl 0 rfl) ?_
          refine lv_if_eq (tgt := 48) hx hb dX1_countTurns_41 (by decide) (fun cz => absurd cz (by decide)) (fun _ => ?_)
          refine lv_iconst (v := 0) hx hb dX1_countTurns_44 (by decide) ?_
          refine lv_goto (tgt := 49) hx hb dX1_countTurns_45 (by decide) ?_
          refine lv_iadd hx hb dX1_countTurns_49 ?_
          refine lv_istore_n (lv' := [(3, .int ((0 + 1) + 0)), (4, .int 1), (5, .int 2), (0, .ref F.1), (1, .int p0), (2, .int p1)]) hx hb dX1_countTurns_50 rfl hl (by decide) rfl (fun ls hl => ?_)
          refine lv_aload_n hx hb dX1_countTurns_51 rfl (lv_at hl 3 rfl) ?_
          refine lv_iload hx hb dX1_countTurns_52 (lv_at hl 2 rfl) ?_
          have hf196 := xFree hD hS hA
          refine va_callv (va_runV (As := [.int 2]) (rest := []) ⟨hx, hb, hml, hown, hts⟩ (k_note l D F (sS, sP, sQ, (upd sE (ec &&& 15).toNatClampNeg 1), (ec + 1), sc, vl, LP, sT)  H.size 2) (cwV 1 hts gX1_countTurns_X1_note rfl rfl rfl (by decide +kernel) ⟨Nat.le_of_ble_eq_true rfl, Nat.le_of_ble_eq_true rfl⟩) (xPre hN hK hP hD hS hA hZ _) rfl rfl hl.1 rfl (lv_room (Nat.le_of_ble_eq_true rfl)) dX1_countTurns_54 ⟨Nat.le_of_ble_eq_true rfl, Nat.le_of_ble_eq_true rfl⟩) hS (fun q _ h => hf196 q h) hf196 (fun v198 t200 H1 locs ht hvm hw199 hB hz1 hk1 hS => ?_)
          obtain ⟨hP1, hK1, hD1⟩ := hB
          rw [ht] at hP1
          replace hD1 := hD1.weaken (fun _ _ _ h => hf196 _ h)
          generalize H1 = H at hP1 hS ⊢
          obtain rfl := (show v198 = (sS, sP, sQ, (upd (upd sE (ec &&& 15).toNatClampNeg 1) ((ec + 1) &&& 15).toNatClampNeg 2), ((ec + 1) + 1), sc, vl, LP, sT) from hw199)
          have hP : va_P D vwCl (xW F (sS, sP, sQ, (upd (upd sE (ec &&& 15).toNatClampNeg 1) ((ec + 1) &&& 15).toNatClampNeg 2), ((ec + 1) + 1), sc, vl, LP, sT)) H := hP1
          have hD : va_D A (xW F (sS, sP, sQ, (upd (upd sE (ec &&& 15).toNatClampNeg 1) ((ec + 1) &&& 15).toNatClampNeg 2), ((ec + 1) + 1), sc, vl, LP, sT)) := hD1
          refine lv_iinc (v := 3) (lv' := [(5, .int 3), (3, .int ((0 + 1) + 0)), (4, .int 1), (0, .ref F.1), (1, .int p0), (2, .int p1)]) hx hb dX1_countTurns_57 hl (k := 2) rfl (by decide) (by decide) rfl (fun ls hl => ?_)
          refine lv_goto (tgt := 8) hx hb dX1_countTurns_60 (by decide) ?_
          refine lv_iload hx hb dX1_countTurns_8 (lv_at hl 0 rfl) ?_
          refine lv_iconst (v := 5) hx hb dX1_countTurns_10 (by decide) ?_
          refine lv_icmp_gt (tgt := 63) hx hb dX1_countTurns_11 (by decide) (fun cz => absurd cz (by decide)) (fun _ => ?_)
          refine lv_iload hx hb dX1_countTurns_14 (lv_at hl 2 rfl) ?_
          refine lv_if_ne (tgt := 63) hx hb dX1_countTurns_16 (by decide) (fun _ => ?_) (fun cz => absurd cz (by decide))
          refine lv_iload_n hx hb dX1_countTurns_63 rfl (lv_at hl 1 rfl) ?_
          exact W.iret (v := ((0 + 1) + 0)) hx hb hr (fun tE ht hW => ⟨⟨((0 + 1) + 0), (sS, sP, sQ, (upd (upd sE (ec &&& 15).toNatClampNeg 1) ((ec + 1) &&& 15).toNatClampNeg 2), ((ec + 1) + 1), sc, vl, LP, sT), rfl, by first | (simp only [sTurn, tS, uN, gS, gP, gQ, gE, gec, gsc, gvl, gL, gT, c1, c55, c61, eq_true c103, eq_self, ↓reduceIte, Bool.false_eq_true, Bool.not_false, Bool.not_true, Bool.and_true, Bool.and_false, Bool.true_and, Bool.false_and, decide_true, decide_false] <;> first | done | decide) | (simp only [sTurn, tS, uN, gS, gP, gQ, gE, gec, gsc, gvl, gL, gT, c1, c55, c61, c103, eq_self, ↓reduceIte, Bool.false_eq_true, Bool.not_false, Bool.not_true, Bool.and_true, Bool.and_false, Bool.true_and, Bool.false_and, decide_true, decide_false] <;> first | done | decide) | (simp [sTurn, tS, uN, gS, gP, gQ, gE, gec, gsc, gvl, gL, gT, c1, c55, c61, c103]; done) | (simp [sTurn, tS, uN, gS, gP, gQ, gE, gec, gsc, gvl, gL, gT, c1, c55, c61, eq_true c103]; done), by rw [ht]; exact hP, va_K.moved hW.alike hK, hD⟩, hS.F ht⟩) hS.2.2 dX1_countTurns_64
    · refine lv_iconst (v := 1) hx hb dX1_countTurns_31 (by decide) ?_
      refine lv_goto (tgt := 36) hx hb dX1_countTurns_32 (by decide) ?_
      refine lv_istore (lv' := [(4, .int 1), (5, .int 1), (3, .int 0), (0, .ref F.1), (1, .int p0), (2, .int p1)]) hx hb dX1_countTurns_36 hl (by decide) rfl (fun ls hl => ?_)
      refine lv_iload_n hx hb dX1_countTurns_38 rfl (lv_at hl 2 rfl) ?_
      refine lv_iload hx hb dX1_countTurns_39 (lv_at hl 0 rfl) ?_
      refine lv_if_eq (tgt := 48) hx hb dX1_countTurns_41 (by decide) (fun cz => absurd cz (by decide)) (fun _ => ?_)
      refine lv_iconst (v := 0) hx hb dX1_countTurns_44 (by decide) ?_
      refine lv_goto (tgt := 49) hx hb dX1_countTurns_45 (by decide) ?_
      refine lv_iadd hx hb dX1_countTurns_49 ?_
      refine lv_istore_n (lv' := [(3, .int (0 + 0)), (4, .int 1), (5, .int 1), (0, .ref F.1), (1, .int p0), (2, .int p1)]) hx hb dX1_countTurns_50 rfl hl (by decide) rfl (fun ls hl => ?_)
      refine lv_aload_n hx hb dX1_countTurns_51 rfl (lv_at hl 3 rfl) ?_
      refine lv_iload hx hb dX1_countTurns_52 (lv_at hl 2 rfl) ?_
      have hf201 := xFree hD hS hA
      refine va_callv (va_runV (As := [.int 1]) (rest := []) ⟨hx, hb, hml, hown, hts⟩ (k_note l D F (sS, sP, sQ, sE, ec, sc, vl, LP, sT)  H.size 1) (cwV 1 hts gX1_countTurns_X1_note rfl rfl rfl (by decide +kernel) ⟨Nat.le_of_ble_eq_true rfl, Nat.le_of_ble_eq_true rfl⟩) (xPre hN hK hP hD hS hA hZ _) rfl rfl hl.1 rfl (lv_room (Nat.le_of_ble_eq_true rfl)) dX1_countTurns_54 ⟨Nat.le_of_ble_eq_true rfl, Nat.le_of_ble_eq_true rfl⟩) hS (fun q _ h => hf201 q h) hf201 (fun v203 t205 H1 locs ht hvm hw204 hB hz1 hk1 hS => ?_)
      obtain ⟨hP1, hK1, hD1⟩ := hB
      rw [ht] at hP1
      replace hD1 := hD1.weaken (fun _ _ _ h => hf201 _ h)
      generalize H1 = H at hP1 hS ⊢
      obtain rfl := (show v203 = (sS, sP, sQ, (upd sE (ec &&& 15).toNatClampNeg 1), (ec + 1), sc, vl, LP, sT) from hw204)
      have hP : va_P D vwCl (xW F (sS, sP, sQ, (upd sE (ec &&& 15).toNatClampNeg 1), (ec + 1), sc, vl, LP, sT)) H := hP1
      have hD : va_D A (xW F (sS, sP, sQ, (upd sE (ec &&& 15).toNatClampNeg 1), (ec + 1), sc, vl, LP, sT)) := hD1
      refine lv_iinc (v := 2) (lv' := [(5, .int 2), (3, .int (0 + 0)), (4, .int 1), (0, .ref F.1), (1, .int p0), (2, .int p1)]) hx hb dX1_countTurns_57 hl (k := 2) rfl (by decide) (by decide) rfl (fun ls hl => ?_)
      refine lv_goto (tgt := 8) hx hb dX1_countTurns_60 (by decide) ?_
      refine lv_iload hx hb dX1_countTurns_8 (lv_at hl 0 rfl) ?_
      refine lv_iconst (v := 5) hx hb dX1_countTurns_10 (by decide) ?_
      refine lv_icmp_gt (tgt := 63) hx hb dX1_countTurns_11 (by decide) (fun cz => absurd cz (by decide)) (fun _ => ?_)
      refine lv_iload hx hb dX1_countTurns_14 (lv_at hl 2 rfl) ?_
      refine lv_if_ne (tgt := 63) hx hb dX1_countTurns_16 (by decide) (fun _ => ?_) (fun cz => absurd cz (by decide))
      refine lv_iload_n hx hb dX1_countTurns_63 rfl (lv_at hl 1 rfl) ?_
      exact W.iret (v := (0 + 0)) hx hb hr (fun tE ht hW => ⟨⟨(0 + 0), (sS, sP, sQ, (upd sE (ec &&& 15).toNatClampNeg 1), (ec + 1), sc, vl, LP, sT), rfl, by first | (simp only [sTurn, tS, uN, gS, gP, gQ, gE, gec, gsc, gvl, gL, gT, c1, eq_true c55, eq_self, ↓reduceIte, Bool.false_eq_true, Bool.not_false, Bool.not_true, Bool.and_true, Bool.and_false, Bool.true_and, Bool.false_and, decide_true, decide_false] <;> first | done | decide) | (simp only [sTurn, tS, uN, gS, gP, gQ, gE, gec, gsc, gvl, gL, gT, c1, c55, eq_self, ↓reduceIte, Bool.false_eq_true, Bool.not_false, Bool.not_true, Bool.and_true, Bool.and_false, Bool.true_and, Bool.false_and, decide_true, decide_false] <;> first | done | decide) | (simp [sTurn, tS, uN, gS, gP, gQ, gE, gec, gsc, gvl, gL, gT, c1, c55]; done) | (simp [sTurn, tS, uN, gS, gP, gQ, gE, gec, gsc, gvl, gL, gT, c1, eq_true c55]; done), by rw [ht]; exact hP, va_K.moved hW.alike hK, hD⟩, hS.F ht⟩) hS.2.2 dX1_countTurns_64
set_option maxHeartbeats 8000000 in
set_option maxRecDepth 100000 in
theorem k_openWorkClose (l : Launch) (D : va_G) (F : XF) (u : XS) (sz : Nat) (p0 : Int32) (p1 : Int32) : Met l yX1_openWorkClose wsX1_openWorkClose ({ frames := 1, cells := 0, slots := 0, locals := 21 }) (xPc D F u sz [.ref F.1, .int p0, .int p1]) (va_Qi (fun (r : Int32) (v : XS) => (r, v) = sOpen u p0 p1) (xB D F (va_A (xW F u) sz)) (va_A (xW F u) sz)) 0 0 (va_A (xW F u) sz) := by
  obtain ⟨sS, sP, sQ, sE, ec, sc, vl, LP, sT⟩ := u
  refine Met.ofW (cc := cX1_openWorkClose) (maxL := 4) (ret := (some .int)) (by decide) rfl ?_
  intro p e s m args below meth c s₁ B hml hv
  obtain ⟨rfl, hsz, hP, hK, hD0, hN, hZ⟩ := hv
  have hx := B.exec
  have hb := B.bytes
  have hr := B.returns
  have hts := atoms_spec (ws := wsX1_openWorkClose) B.pre
  have hown : s.vm.findClass RX1 = some m.cls := findClass_of_methodNamed B.named
  have hlocks := B.notSynchronized
  subst hsz
  have hD := hD0.self (sz := s.heap.size)
  generalize hAe : va_A (xW F (sS, sP, sQ, sE, ec, sc, vl, LP, sT)) s.heap.size = A at hD hZ ⊢
  have hA : ∀ q : Nat, s.heap.size ≤ q → A q := fun q h => by rw [← hAe]; exact Or.inr h
  have hS : va_S A s.heap s.heap [] := va_S.rf
  obtain ⟨tk, tm, tr, hztk, httk, hztm, httm, hztr, httr⟩ := id hZ
  refine xHeap (C := fun H => va_P D vwCl (xW F (sS, sP, sQ, sE, ec, sc, vl, LP, sT)) H ∧ va_S A s.heap H []) ⟨hP, hS⟩ (fun H hC => ?_)
  obtain ⟨hP, hS⟩ := hC
  have hl := lv_entry ([.ref F.1, .int p0, .int p1]) (n := 4) (Nat.le_of_ble_eq_true rfl)
  rw [lg_entry_eq]
  generalize (lg_sl ([.ref F.1, .int p0, .int p1]) ++ List.replicate (4 - (lg_sl ([.ref F.1, .int p0, .int p1])).length) Slot.unset).toArray = ls at hl ⊢
  have hl : lv_has ls 4 [(0, .ref F.1), (1, .int p0), (2, .int p1)] := hl
  refine lv_iconst (v := 0) hx hb dX1_openWorkClose_0 (by decide) ?_
  refine lv_istore_n (lv' := [(3, .int 0), (0, .ref F.1), (1, .int p0), (2, .int p1)]) hx hb dX1_openWorkClose_1 rfl hl (by decide) rfl (fun ls hl => ?_)
  refine lv_aload_n hx hb dX1_openWorkClose_2 rfl (lv_at hl 1 rfl) ?_
  refine lv_bipush (v := 10) hx hb dX1_openWorkClose_3 (by decide) ?_
  have hf1 := xFree hD hS hA
  refine va_callv (va_runV (As := [.int 10]) (rest := []) ⟨hx, hb, hml, hown, hts⟩ (k_note l D F (sS, sP, sQ, sE, ec, sc, vl, LP, sT)  H.size 10) (cwV 1 hts gX1_openWorkClose_X1_note rfl rfl rfl (by decide +kernel) ⟨Nat.le_of_ble_eq_true rfl, Nat.le_of_ble_eq_true rfl⟩) (xPre hN hK hP hD hS hA hZ _) rfl rfl hl.1 rfl (lv_room (Nat.le_of_ble_eq_true rfl)) dX1_openWorkClose_5 ⟨Nat.le_of_ble_eq_true rfl, Nat.le_of_ble_eq_true rfl⟩) hS (fun q _ h => hf1 q h) hf1 (fun v3 t5 H1 locs ht hvm hw4 hB hz1 hk1 hS => ?_)
  obtain ⟨hP1, hK1, hD1⟩ := hB
  rw [ht] at hP1
  replace hD1 := hD1.weaken (fun _ _ _ h => hf1 _ h)
  generalize H1 = H at hP1 hS ⊢
  obtain rfl := (show v3 = (sS, sP, sQ, (upd sE (ec &&& 15).toNatClampNeg 10), (ec + 1), sc, vl, LP, sT) from hw4)
  have hP : va_P D vwCl (xW F (sS, sP, sQ, (upd sE (ec &&& 15).toNatClampNeg 10), (ec + 1), sc, vl, LP, sT)) H := hP1
  have hD : va_D A (xW F (sS, sP, sQ, (upd sE (ec &&& 15).toNatClampNeg 10), (ec + 1), sc, vl, LP, sT)) := hD1
  refine lv_aload_n hx hb dX1_openWorkClose_8 rfl (lv_at hl 1 rfl) ?_
  refine lv_bipush (v := 11) hx hb dX1_openWorkClose_9 (by decide) ?_
  have hf6 := xFree hD hS hA
  refine va_callv (va_runV (As := [.int 11]) (rest := []) ⟨hx, hb, hml, hown, hts⟩ (k_note l D F (sS, sP, sQ, (upd sE (ec &&& 15).toNatClampNeg 10), (ec + 1), sc, vl, LP, sT)  H.size 11) (cwV 1 hts gX1_openWorkClose_X1_note rfl rfl rfl (by decide +kernel) ⟨Nat.le_of_ble_eq_true rfl, Nat.le_of_ble_eq_true rfl⟩) (xPre hN hK hP hD hS hA hZ _) rfl rfl hl.1 rfl (lv_room (Nat.le_of_ble_eq_true rfl)) dX1_openWorkClose_11 ⟨Nat.le_of_ble_eq_true rfl, Nat.le_of_ble_eq_true rfl⟩) hS (fun q _ h => hf6 q h) hf6 (fun v8 t10 H1 locs ht hvm hw9 hB hz1 hk1 hS => ?_)
  obtain ⟨hP1, hK1, hD1⟩ := hB
  rw [ht] at hP1
  replace hD1 := hD1.weaken (fun _ _ _ h => hf6 _ h)
  generalize H1 = H at hP1 hS ⊢
  obtain rfl := (show v8 = (sS, sP, sQ, (upd (upd sE (ec &&& 15).toNatClampNeg 10) ((ec + 1) &&& 15).toNatClampNeg 11), ((ec + 1) + 1), sc, vl, LP, sT) from hw9)
  have hP : va_P D vwCl (xW F (sS, sP, sQ, (upd (upd sE (ec &&& 15).toNatClampNeg 10) ((ec + 1) &&& 15).toNatClampNeg 11), ((ec + 1) + 1), sc, vl, LP, sT)) H := hP1
  have hD : va_D A (xW F (sS, sP, sQ, (upd (upd sE (ec &&& 15).toNatClampNeg 10) ((ec + 1) &&& 15).toNatClampNeg 11), ((ec + 1) + 1), sc, vl, LP, sT)) := hD1
  refine lv_iload_n hx hb dX1_openWorkClose_14 rfl (lv_at hl 2 rfl) ?_
  refine lv_iconst (v := 1) hx hb dX1_openWorkClose_15 (by decide) ?_
  refine lv_iand hx hb dX1_openWorkClose_16 ?_
  refine lv_if_eq (tgt := 29) hx hb dX1_openWorkClose_17 (by decide) (fun c11 => ?_) (fun c11 => ?_)
  · refine lv_aload_n hx hb dX1_openWorkClose_29 rfl (lv_at hl 1 rfl) ?_
    refine lv_bipush (v := 12) hx hb dX1_openWorkClose_30 (by decide) ?_
    have hf12 := xFree hD hS hA
    refine va_callv (va_runV (As := [.int 12]) (rest := []) ⟨hx, hb, hml, hown, hts⟩ (k_note l D F (sS, sP, sQ, (upd (upd sE (ec &&& 15).toNatClampNeg 10) ((ec + 1) &&& 15).toNatClampNeg 11), ((ec + 1) + 1), sc, vl, LP, sT)  H.size 12) (cwV 1 hts gX1_openWorkClose_X1_note rfl rfl rfl (by decide +kernel) ⟨Nat.le_of_ble_eq_true rfl, Nat.le_of_ble_eq_true rfl⟩) (xPre hN hK hP hD hS hA hZ _) rfl rfl hl.1 rfl (lv_room (Nat.le_of_ble_eq_true rfl)) dX1_openWorkClose_32 ⟨Nat.le_of_ble_eq_true rfl, Nat.le_of_ble_eq_true rfl⟩) hS (fun q _ h => hf12 q h) hf12 (fun v14 t16 H1 locs ht hvm hw15 hB hz1 hk1 hS => ?_)
    obtain ⟨hP1, hK1, hD1⟩ := hB
    rw [ht] at hP1
    replace hD1 := hD1.weaken (fun _ _ _ h => hf12 _ h)
    generalize H1 = H at hP1 hS ⊢
    obtain rfl := (show v14 = (sS, sP, sQ, (upd (upd (upd sE (ec &&& 15).toNatClampNeg 10) ((ec + 1) &&& 15).toNatClampNeg 11) (((ec + 1) + 1) &&& 15).toNatClampNeg 12), (((ec + 1) + 1) + 1), sc, vl, LP, sT) from hw15)
    have hP : va_P D vwCl (xW F (sS, sP, sQ, (upd (upd (upd sE (ec &&& 15).toNatClampNeg 10) ((ec + 1) &&& 15).toNatClampNeg 11) (((ec + 1) + 1) &&& 15).toNatClampNeg 12), (((ec + 1) + 1) + 1), sc, vl, LP, sT)) H := hP1
    have hD : va_D A (xW F (sS, sP, sQ, (upd (upd (upd sE (ec &&& 15).toNatClampNeg 10) ((ec + 1) &&& 15).toNatClampNeg 11) (((ec + 1) + 1) &&& 15).toNatClampNeg 12), (((ec + 1) + 1) + 1), sc, vl, LP, sT)) := hD1
    refine lv_iload_n hx hb dX1_openWorkClose_35 rfl (lv_at hl 2 rfl) ?_
    refine lv_iconst (v := 2) hx hb dX1_openWorkClose_36 (by decide) ?_
    refine lv_iand hx hb dX1_openWorkClose_37 ?_
    refine lv_if_eq (tgt := 47) hx hb dX1_openWorkClose_38 (by decide) (fun c17 => ?_) (fun c17 => ?_)
    · refine lv_aload_n hx hb dX1_openWorkClose_47 rfl (lv_at hl 1 rfl) ?_
      refine lv_bipush (v := 21) hx hb dX1_openWorkClose_48 (by decide) ?_
      have hf18 := xFree hD hS hA
      refine va_callv (va_runV (As := [.int 21]) (rest := []) ⟨hx, hb, hml, hown, hts⟩ (k_note l D F (sS, sP, sQ, (upd (upd (upd sE (ec &&& 15).toNatClampNeg 10) ((ec + 1) &&& 15).toNatClampNeg 11) (((ec + 1) + 1) &&& 15).toNatClampNeg 12), (((ec + 1) + 1) + 1), sc, vl, LP, sT)  H.size 21) (cwV 1 hts gX1_openWorkClose_X1_note rfl rfl rfl (by decide +kernel) ⟨Nat.le_of_ble_eq_true rfl, Nat.le_of_ble_eq_true rfl⟩) (xPre hN hK hP hD hS hA hZ _) rfl rfl hl.1 rfl (lv_room (Nat.le_of_ble_eq_true rfl)) dX1_openWorkClose_50 ⟨Nat.le_of_ble_eq_true rfl, Nat.le_of_ble_eq_true rfl⟩) hS (fun q _ h => hf18 q h) hf18 (fun v20 t22 H1 locs ht hvm hw21 hB hz1 hk1 hS => ?_)
      obtain ⟨hP1, hK1, hD1⟩ := hB
      rw [ht] at hP1
      replace hD1 := hD1.weaken (fun _ _ _ h => hf18 _ h)
      generalize H1 = H at hP1 hS ⊢
      obtain rfl := (show v20 = (sS, sP, sQ, (upd (upd (upd (upd sE (ec &&& 15).toNatClampNeg 10) ((ec + 1) &&& 15).toNatClampNeg 11) (((ec + 1) + 1) &&& 15).toNatClampNeg 12) ((((ec + 1) + 1) + 1) &&& 15).toNatClampNeg 21), ((((ec + 1) + 1) + 1) + 1), sc, vl, LP, sT) from hw21)
      have hP : va_P D vwCl (xW F (sS, sP, sQ, (upd (upd (upd (upd sE (ec &&& 15).toNatClampNeg 10) ((ec + 1) &&& 15).toNatClampNeg 11) (((ec + 1) + 1) &&& 15).toNatClampNeg 12) ((((ec + 1) + 1) + 1) &&& 15).toNatClampNeg 21), ((((ec + 1) + 1) + 1) + 1), sc, vl, LP, sT)) H := hP1
      have hD : va_D A (xW F (sS, sP, sQ, (upd (upd (upd (upd sE (ec &&& 15).toNatClampNeg 10) ((ec + 1) &&& 15).toNatClampNeg 11) (((ec + 1) + 1) &&& 15).toNatClampNeg 12) ((((ec + 1) + 1) + 1) &&& 15).toNatClampNeg 21), ((((ec + 1) + 1) + 1) + 1), sc, vl, LP, sT)) := hD1
      refine lv_iload_n hx hb dX1_openWorkClose_53 rfl (lv_at hl 3 rfl) ?_
      refine lv_iconst (v := 1) hx hb dX1_openWorkClose_54 (by decide) ?_
      refine lv_iand hx hb dX1_openWorkClose_55 ?_
      refine lv_if_eq (tgt := 65) hx hb dX1_openWorkClose_56 (by decide) (fun c23 => ?_) (fun c23 => ?_)
      · refine lv_aload_n hx hb dX1_openWorkClose_65 rfl (lv_at hl 1 rfl) ?_
        refine lv_bipush (v := 20) hx hb dX1_openWorkClose_66 (by decide) ?_
        have hf24 := xFree hD hS hA
        refine va_callv (va_runV (As := [.int 20]) (rest := []) ⟨hx, hb, hml, hown, hts⟩ (k_note l D F (sS, sP, sQ, (upd (upd (upd (upd sE (ec &&& 15).toNatClampNeg 10) ((ec + 1) &&& 15).toNatClampNeg 11) (((ec + 1) + 1) &&& 15).toNatClampNeg 12) ((((ec + 1) + 1) + 1) &&& 15).toNatClampNeg 21), ((((ec + 1) + 1) + 1) + 1), sc, vl, LP, sT)  H.size 20) (cwV 1 hts gX1_openWorkClose_X1_note rfl rfl rfl (by decide +kernel) ⟨Nat.le_of_ble_eq_true rfl, Nat.le_of_ble_eq_true rfl⟩) (xPre hN hK hP hD hS hA hZ _) rfl rfl hl.1 rfl (lv_room (Nat.le_of_ble_eq_true rfl)) dX1_openWorkClose_68 ⟨Nat.le_of_ble_eq_true rfl, Nat.le_of_ble_eq_true rfl⟩) hS (fun q _ h => hf24 q h) hf24 (fun v26 t28 H1 locs ht hvm hw27 hB hz1 hk1 hS => ?_)
        obtain ⟨hP1, hK1, hD1⟩ := hB
        rw [ht] at hP1
        replace hD1 := hD1.weaken (fun _ _ _ h => hf24 _ h)
        generalize H1 = H at hP1 hS ⊢
        obtain rfl := (show v26 = (sS, sP, sQ, (upd (upd (upd (upd (upd sE (ec &&& 15).toNatClampNeg 10) ((ec + 1) &&& 15).toNatClampNeg 11) (((ec + 1) + 1) &&& 15).toNatClampNeg 12) ((((ec + 1) + 1) + 1) &&& 15).toNatClampNeg 21) (((((ec + 1) + 1) + 1) + 1) &&& 15).toNatClampNeg 20), (((((ec + 1) + 1) + 1) + 1) + 1), sc, vl, LP, sT) from hw27)
        have hP : va_P D vwCl (xW F (sS, sP, sQ, (upd (upd (upd (upd (upd sE (ec &&& 15).toNatClampNeg 10) ((ec + 1) &&& 15).toNatClampNeg 11) (((ec + 1) + 1) &&& 15).toNatClampNeg 12) ((((ec + 1) + 1) + 1) &&& 15).toNatClampNeg 21) (((((ec + 1) + 1) + 1) + 1) &&& 15).toNatClampNeg 20), (((((ec + 1) + 1) + 1) + 1) + 1), sc, vl, LP, sT)) H := hP1
        have hD : va_D A (xW F (sS, sP, sQ, (upd (upd (upd (upd (upd sE (ec &&& 15).toNatClampNeg 10) ((ec + 1) &&& 15).toNatClampNeg 11) (((ec + 1) + 1) &&& 15).toNatClampNeg 12) ((((ec + 1) + 1) + 1) &&& 15).toNatClampNeg 21) (((((ec + 1) + 1) + 1) + 1) &&& 15).toNatClampNeg 20), (((((ec + 1) + 1) + 1) + 1) + 1), sc, vl, LP, sT)) := hD1
        refine lv_iload_n hx hb dX1_openWorkClose_71 rfl (lv_at hl 3 rfl) ?_
        refine lv_iconst (v := 2) hx hb dX1_openWorkClose_72 (by decide) ?_
        refine lv_iand hx hb dX1_openWorkClose_73 ?_
        refine lv_if_eq (tgt := 83) hx hb dX1_openWorkClose_74 (by decide) (fun c29 => ?_) (fun c29 => ?_)
        · refine lv_iload_n hx hb dX1_openWorkClose_83 rfl (lv_at hl 0 rfl) ?_
          exact W.iret (v := 0) hx hb hr (fun tE ht hW => ⟨⟨0, (sS, sP, sQ, (upd (upd (upd (upd (upd sE (ec &&& 15).toNatClampNeg 10) ((ec + 1) &&& 15).toNatClampNeg 11) (((ec + 1) + 1) &&& 15).toNatClampNeg 12) ((((ec + 1) + 1) + 1) &&& 15).toNatClampNeg 21) (((((ec + 1) + 1) + 1) + 1) &&& 15).toNatClampNeg 20), (((((ec + 1) + 1) + 1) + 1) + 1), sc, vl, LP, sT), rfl, by first | (simp only [sOpen, oMid, oEnd, uN, gS, gP, gQ, gE, gec, gsc, gvl, gL, gT, eq_true c11, eq_true c17, eq_true c23, eq_true c29, eq_self, ↓reduceIte, Bool.false_eq_true, Bool.not_false, Bool.not_true, Bool.and_true, Bool.and_false, Bool.true_and, Bool.false_and, decide_true, decide_false] <;> first | done | decide) | (simp only [sOpen, oMid, oEnd, uN, gS, gP, gQ, gE, gec, gsc, gvl, gL, gT, c11, c17, c23, c29, eq_self, ↓reduceIte, Bool.false_eq_true, Bool.not_false, Bool.not_true, Bool.and_true, Bool.and_false, Bool.true_and, Bool.false_and, decide_true, decide_false] <;> first | done | decide) | (simp [sOpen, oMid, oEnd, uN, gS, gP, gQ, gE, gec, gsc, gvl, gL, gT, c11, c17, c23, c29]; done) | (simp [sOpen, oMid, oEnd, uN, gS, gP, gQ, gE, gec, gsc, gvl, gL, gT, eq_true c11, eq_true c17, eq_true c23, eq_true c29]; done), by rw [ht]; exact hP, va_K.moved hW.alike hK, hD⟩, hS.F ht⟩) hS.2.2 dX1_openWorkClose_84
        · refine lv_iload_n hx hb dX1_openWorkClose_77 rfl (lv_at hl 0 rfl) ?_
          refine lv_iconst (v := 4) hx hb dX1_openWorkClose_78 (by decide) ?_
          refine vp_callSi (va_Run.run (va_runS (As := [.int 0, .int 4]) (rest := []) ⟨hx, hb, hml, hown, hts⟩ (k_withFailure l 0 4) (va_cwS 2 hts gX1_openWorkClose_X1_withFailure rfl rfl rfl (by decide +kernel) ⟨Nat.le_of_ble_eq_true rfl, Nat.le_of_ble_eq_true rfl⟩) preEq rfl rfl hl.1 rfl (lv_room (Nat.le_of_ble_eq_true rfl)) dX1_openWorkClose_79 ⟨Nat.le_of_ble_eq_true rfl, Nat.le_of_ble_eq_true rfl⟩)) (fun r30 hw31 => ?_)
          subst hw31
          refine lv_istore_n (lv' := [(3, .int (fFail 0 4)), (0, .ref F.1), (1, .int p0), (2, .int p1)]) hx hb dX1_openWorkClose_82 rfl hl (by decide) rfl (fun ls hl => ?_)
          refine lv_iload_n hx hb dX1_openWorkClose_83 rfl (lv_at hl 0 rfl) ?_
          exact W.iret (v := (fFail 0 4)) hx hb hr (fun tE ht hW => ⟨⟨(fFail 0 4), (sS, sP, sQ, (upd (upd (upd (upd (upd sE (ec &&& 15).toNatClampNeg 10) ((ec + 1) &&& 15).toNatClampNeg 11) (((ec + 1) + 1) &&& 15).toNatClampNeg 12) ((((ec + 1) + 1) + 1) &&& 15).toNatClampNeg 21) (((((ec + 1) + 1) + 1) + 1) &&& 15).toNatClampNeg 20), (((((ec + 1) + 1) + 1) + 1) + 1), sc, vl, LP, sT), rfl, by first | (simp only [sOpen, oMid, oEnd, uN, gS, gP, gQ, gE, gec, gsc, gvl, gL, gT, eq_true c11, eq_true c17, eq_true c23, c29, eq_self, ↓reduceIte, Bool.false_eq_true, Bool.not_false, Bool.not_true, Bool.and_true, Bool.and_false, Bool.true_and, Bool.false_and, decide_true, decide_false] <;> first | done | decide) | (simp only [sOpen, oMid, oEnd, uN, gS, gP, gQ, gE, gec, gsc, gvl, gL, gT, c11, c17, c23, c29, eq_self, ↓reduceIte, Bool.false_eq_true, Bool.not_false, Bool.not_true, Bool.and_true, Bool.and_false, Bool.true_and, Bool.false_and, decide_true, decide_false] <;> first | done | decide) | (simp [sOpen, oMid, oEnd, uN, gS, gP, gQ, gE, gec, gsc, gvl, gL, gT, c11, c17, c23, c29]; done) | (simp [sOpen, oMid, oEnd, uN, gS, gP, gQ, gE, gec, gsc, gvl, gL, gT, eq_true c11, eq_true c17, eq_true c23, c29]; done), by rw [ht]; exact hP, va_K.moved hW.alike hK, hD⟩, hS.F ht⟩) hS.2.2 dX1_openWorkClose_84
      · refine lv_iload_n hx hb dX1_openWorkClose_59 rfl (lv_at hl 0 rfl) ?_
        refine lv_iconst (v := 3) hx hb dX1_openWorkClose_60 (by decide) ?_
        refine vp_callSi (va_Run.run (va_runS (As := [.int 0, .int 3]) (rest := []) ⟨hx, hb, hml, hown, hts⟩ (k_withFailure l 0 3) (va_cwS 2 hts gX1_openWorkClose_X1_withFailure rfl rfl rfl (by decide +kernel) ⟨Nat.le_of_ble_eq_true rfl, Nat.le_of_ble_eq_true rfl⟩) preEq rfl rfl hl.1 rfl (lv_room (Nat.le_of_ble_eq_true rfl)) dX1_openWorkClose_61 ⟨Nat.le_of_ble_eq_true rfl, Nat.le_of_ble_eq_true rfl⟩)) (fun r32 hw33 => ?_)
        subst hw33
        refine lv_istore_n (lv' := [(3, .int (fFail 0 3)), (0, .ref F.1), (1, .int p0), (2, .int p1)]) hx hb dX1_openWorkClose_64 rfl hl (by decide) rfl (fun ls hl => ?_)
        refine lv_aload_n hx hb dX1_openWorkClose_65 rfl (lv_at hl 1 rfl) ?_
        refine lv_bipush (v := 20) hx hb dX1_openWorkClose_66 (by decide) ?_
        have hf34 := xFree hD hS hA
        refine va_callv (va_runV (As := [.int 20]) (rest := []) ⟨hx, hb, hml, hown, hts⟩ (k_note l D F (sS, sP, sQ, (upd (upd (upd (upd sE (ec &&& 15).toNatClampNeg 10) ((ec + 1) &&& 15).toNatClampNeg 11) (((ec + 1) + 1) &&& 15).toNatClampNeg 12) ((((ec + 1) + 1) + 1) &&& 15).toNatClampNeg 21), ((((ec + 1) + 1) + 1) + 1), sc, vl, LP, sT)  H.size 20) (cwV 1 hts gX1_openWorkClose_X1_note rfl rfl rfl (by decide +kernel) ⟨Nat.le_of_ble_eq_true rfl, Nat.le_of_ble_eq_true rfl⟩) (xPre hN hK hP hD hS hA hZ _) rfl rfl hl.1 rfl (lv_room (Nat.le_of_ble_eq_true rfl)) dX1_openWorkClose_68 ⟨Nat.le_of_ble_eq_true rfl, Nat.le_of_ble_eq_true rfl⟩) hS (fun q _ h => hf34 q h) hf34 (fun v36 t38 H1 locs ht hvm hw37 hB hz1 hk1 hS => ?_)
        obtain ⟨hP1, hK1, hD1⟩ := hB
        rw [ht] at hP1
        replace hD1 := hD1.weaken (fun _ _ _ h => hf34 _ h)
        generalize H1 = H at hP1 hS ⊢
        obtain rfl := (show v36 = (sS, sP, sQ, (upd (upd (upd (upd (upd sE (ec &&& 15).toNatClampNeg 10) ((ec + 1) &&& 15).toNatClampNeg 11) (((ec + 1) + 1) &&& 15).toNatClampNeg 12) ((((ec + 1) + 1) + 1) &&& 15).toNatClampNeg 21) (((((ec + 1) + 1) + 1) + 1) &&& 15).toNatClampNeg 20), (((((ec + 1) + 1) + 1) + 1) + 1), sc, vl, LP, sT) from hw37)
        have hP : va_P D vwCl (xW F (sS, sP, sQ, (upd (upd (upd (upd (upd sE (ec &&& 15).toNatClampNeg 10) ((ec + 1) &&& 15).toNatClampNeg 11) (((ec + 1) + 1) &&& 15).toNatClampNeg 12) ((((ec + 1) + 1) + 1) &&& 15).toNatClampNeg 21) (((((ec + 1) + 1) + 1) + 1) &&& 15).toNatClampNeg 20), (((((ec + 1) + 1) + 1) + 1) + 1), sc, vl, LP, sT)) H := hP1
        have hD : va_D A (xW F (sS, sP, sQ, (upd (upd (upd (upd (upd sE (ec &&& 15).toNatClampNeg 10) ((ec + 1) &&& 15).toNatClampNeg 11) (((ec + 1) + 1) &&& 15).toNatClampNeg 12) ((((ec + 1) + 1) + 1) &&& 15).toNatClampNeg 21) (((((ec + 1) + 1) + 1) + 1) &&& 15).toNatClampNeg 20), (((((ec + 1) + 1) + 1) + 1) + 1), sc, vl, LP, sT)) := hD1
        refine lv_iload_n hx hb dX1_openWorkClose_71 rfl (lv_at hl 3 rfl) ?_
        refine lv_iconst (v := 2) hx hb dX1_openWorkClose_72 (by decide) ?_
        refine lv_iand hx hb dX1_openWorkClose_73 ?_
        refine lv_if_eq (tgt := 83) hx hb dX1_openWorkClose_74 (by decide) (fun c39 => ?_) (fun c39 => ?_)
        · refine lv_iload_n hx hb dX1_openWorkClose_83 rfl (lv_at hl 0 rfl) ?_
          exact W.iret (v := (fFail 0 3)) hx hb hr (fun tE ht hW => ⟨⟨(fFail 0 3), (sS, sP, sQ, (upd (upd (upd (upd (upd sE (ec &&& 15).toNatClampNeg 10) ((ec + 1) &&& 15).toNatClampNeg 11) (((ec + 1) + 1) &&& 15).toNatClampNeg 12) ((((ec + 1) + 1) + 1) &&& 15).toNatClampNeg 21) (((((ec + 1) + 1) + 1) + 1) &&& 15).toNatClampNeg 20), (((((ec + 1) + 1) + 1) + 1) + 1), sc, vl, LP, sT), rfl, by first | (simp only [sOpen, oMid, oEnd, uN, gS, gP, gQ, gE, gec, gsc, gvl, gL, gT, eq_true c11, eq_true c17, c23, eq_true c39, eq_self, ↓reduceIte, Bool.false_eq_true, Bool.not_false, Bool.not_true, Bool.and_true, Bool.and_false, Bool.true_and, Bool.false_and, decide_true, decide_false] <;> first | done | decide) | (simp only [sOpen, oMid, oEnd, uN, gS, gP, gQ, gE, gec, gsc, gvl, gL, gT, c11, c17, c23, c39, eq_self, ↓reduceIte, Bool.false_eq_true, Bool.not_false, Bool.not_true, Bool.and_true, Bool.and_false, Bool.true_and, Bool.false_and, decide_true, decide_false] <;> first | done | decide) | (simp [sOpen, oMid, oEnd, uN, gS, gP, gQ, gE, gec, gsc, gvl, gL, gT, c11, c17, c23, c39]; done) | (simp [sOpen, oMid, oEnd, uN, gS, gP, gQ, gE, gec, gsc, gvl, gL, gT, eq_true c11, eq_true c17, c23, eq_true c39]; done), by rw [ht]; exact hP, va_K.moved hW.alike hK, hD⟩, hS.F ht⟩) hS.2.2 dX1_openWorkClose_84
        · refine lv_iload_n hx hb dX1_openWorkClose_77 rfl (lv_at hl 0 rfl) ?_
          refine lv_iconst (v := 4) hx hb dX1_openWorkClose_78 (by decide) ?_
          refine vp_callSi (va_Run.run (va_runS (As := [.int (fFail 0 3), .int 4]) (rest := []) ⟨hx, hb, hml, hown, hts⟩ (k_withFailure l (fFail 0 3) 4) (va_cwS 2 hts gX1_openWorkClose_X1_withFailure rfl rfl rfl (by decide +kernel) ⟨Nat.le_of_ble_eq_true rfl, Nat.le_of_ble_eq_true rfl⟩) preEq rfl rfl hl.1 rfl (lv_room (Nat.le_of_ble_eq_true rfl)) dX1_openWorkClose_79 ⟨Nat.le_of_ble_eq_true rfl, Nat.le_of_ble_eq_true rfl⟩)) (fun r40 hw41 => ?_)
          subst hw41
          refine lv_istore_n (lv' := [(3, .int (fFail (fFail 0 3) 4)), (0, .ref F.1), (1, .int p0), (2, .int p1)]) hx hb dX1_openWorkClose_82 rfl hl (by decide) rfl (fun ls hl => ?_)
          refine lv_iload_n hx hb dX1_openWorkClose_83 rfl (lv_at hl 0 rfl) ?_
          exact W.iret (v := (fFail (fFail 0 3) 4)) hx hb hr (fun tE ht hW => ⟨⟨(fFail (fFail 0 3) 4), (sS, sP, sQ, (upd (upd (upd (upd (upd sE (ec &&& 15).toNatClampNeg 10) ((ec + 1) &&& 15).toNatClampNeg 11) (((ec + 1) + 1) &&& 15).toNatClampNeg 12) ((((ec + 1) + 1) + 1) &&& 15).toNatClampNeg 21) (((((ec + 1) + 1) + 1) + 1) &&& 15).toNatClampNeg 20), (((((ec + 1) + 1) + 1) + 1) + 1), sc, vl, LP, sT), rfl, by first | (simp only [sOpen, oMid, oEnd, uN, gS, gP, gQ, gE, gec, gsc, gvl, gL, gT, eq_true c11, eq_true c17, c23, c39, eq_self, ↓reduceIte, Bool.false_eq_true, Bool.not_false, Bool.not_true, Bool.and_true, Bool.and_false, Bool.true_and, Bool.false_and, decide_true, decide_false] <;> first | done | decide) | (simp only [sOpen, oMid, oEnd, uN, gS, gP, gQ, gE, gec, gsc, gvl, gL, gT, c11, c17, c23, c39, eq_self, ↓reduceIte, Bool.false_eq_true, Bool.not_false, Bool.not_true, Bool.and_true, Bool.and_false, Bool.true_and, Bool.false_and, decide_true, decide_false] <;> first | done | decide) | (simp [sOpen, oMid, oEnd, uN, gS, gP, gQ, gE, gec, gsc, gvl, gL, gT, c11, c17, c23, c39]; done) | (simp [sOpen, oMid, oEnd, uN, gS, gP, gQ, gE, gec, gsc, gvl, gL, gT, eq_true c11, eq_true c17, c23, c39]; done), by rw [ht]; exact hP, va_K.moved hW.alike hK, hD⟩, hS.F ht⟩) hS.2.2 dX1_openWorkClose_84
    · refine lv_iload_n hx hb dX1_openWorkClose_41 rfl (lv_at hl 0 rfl) ?_
      refine lv_iconst (v := 2) hx hb dX1_openWorkClose_42 (by decide) ?_
      refine vp_callSi (va_Run.run (va_runS (As := [.int 0, .int 2]) (rest := []) ⟨hx, hb, hml, hown, hts⟩ (k_withFailure l 0 2) (va_cwS 2 hts gX1_openWorkClose_X1_withFailure rfl rfl rfl (by decide +kernel) ⟨Nat.le_of_ble_eq_true rfl, Nat.le_of_ble_eq_true rfl⟩) preEq rfl rfl hl.1 rfl (lv_room (Nat.le_of_ble_eq_true rfl)) dX1_openWorkClose_43 ⟨Nat.le_of_ble_eq_true rfl, Nat.le_of_ble_eq_true rfl⟩)) (fun r42 hw43 => ?_)
      subst hw43
      refine lv_istore_n (lv' := [(3, .int (fFail 0 2)), (0, .ref F.1), (1, .int p0), (2, .int p1)]) hx hb dX1_openWorkClose_46 rfl hl (by decide) rfl (fun ls hl => ?_)
      refine lv_aload_n hx hb dX1_openWorkClose_47 rfl (lv_at hl 1 rfl) ?_
      refine lv_bipush (v := 21) hx hb dX1_openWorkClose_48 (by decide) ?_
      have hf44 := xFree hD hS hA
      refine va_callv (va_runV (As := [.int 21]) (rest := []) ⟨hx, hb, hml, hown, hts⟩ (k_note l D F (sS, sP, sQ, (upd (upd (upd sE (ec &&& 15).toNatClampNeg 10) ((ec + 1) &&& 15).toNatClampNeg 11) (((ec + 1) + 1) &&& 15).toNatClampNeg 12), (((ec + 1) + 1) + 1), sc, vl, LP, sT)  H.size 21) (cwV 1 hts gX1_openWorkClose_X1_note rfl rfl rfl (by decide +kernel) ⟨Nat.le_of_ble_eq_true rfl, Nat.le_of_ble_eq_true rfl⟩) (xPre hN hK hP hD hS hA hZ _) rfl rfl hl.1 rfl (lv_room (Nat.le_of_ble_eq_true rfl)) dX1_openWorkClose_50 ⟨Nat.le_of_ble_eq_true rfl, Nat.le_of_ble_eq_true rfl⟩) hS (fun q _ h => hf44 q h) hf44 (fun v46 t48 H1 locs ht hvm hw47 hB hz1 hk1 hS => ?_)
      obtain ⟨hP1, hK1, hD1⟩ := hB
      rw [ht] at hP1
      replace hD1 := hD1.weaken (fun _ _ _ h => hf44 _ h)
      generalize H1 = H at hP1 hS ⊢
      obtain rfl := (show v46 = (sS, sP, sQ, (upd (upd (upd (upd sE (ec &&& 15).toNatClampNeg 10) ((ec + 1) &&& 15).toNatClampNeg 11) (((ec + 1) + 1) &&& 15).toNatClampNeg 12) ((((ec + 1) + 1) + 1) &&& 15).toNatClampNeg 21), ((((ec + 1) + 1) + 1) + 1), sc, vl, LP, sT) from hw47)
      have hP : va_P D vwCl (xW F (sS, sP, sQ, (upd (upd (upd (upd sE (ec &&& 15).toNatClampNeg 10) ((ec + 1) &&& 15).toNatClampNeg 11) (((ec + 1) + 1) &&& 15).toNatClampNeg 12) ((((ec + 1) + 1) + 1) &&& 15).toNatClampNeg 21), ((((ec + 1) + 1) + 1) + 1), sc, vl, LP, sT)) H := hP1
      have hD : va_D A (xW F (sS, sP, sQ, (upd (upd (upd (upd sE (ec &&& 15).toNatClampNeg 10) ((ec + 1) &&& 15).toNatClampNeg 11) (((ec + 1) + 1) &&& 15).toNatClampNeg 12) ((((ec + 1) + 1) + 1) &&& 15).toNatClampNeg 21), ((((ec + 1) + 1) + 1) + 1), sc, vl, LP, sT)) := hD1
      refine lv_iload_n hx hb dX1_openWorkClose_53 rfl (lv_at hl 3 rfl) ?_
      refine lv_iconst (v := 1) hx hb dX1_openWorkClose_54 (by decide) ?_
      refine lv_iand hx hb dX1_openWorkClose_55 ?_
      refine lv_if_eq (tgt := 65) hx hb dX1_openWorkClose_56 (by decide) (fun c49 => ?_) (fun c49 => ?_)
      · refine lv_aload_n hx hb dX1_openWorkClose_65 rfl (lv_at hl 1 rfl) ?_
        refine lv_bipush (v := 20) hx hb dX1_openWorkClose_66 (by decide) ?_
        have hf50 := xFree hD hS hA
        refine va_callv (va_runV (As := [.int 20]) (rest := []) ⟨hx, hb, hml, hown, hts⟩ (k_note l D F (sS, sP, sQ, (upd (upd (upd (upd sE (ec &&& 15).toNatClampNeg 10) ((ec + 1) &&& 15).toNatClampNeg 11) (((ec + 1) + 1) &&& 15).toNatClampNeg 12) ((((ec + 1) + 1) + 1) &&& 15).toNatClampNeg 21), ((((ec + 1) + 1) + 1) + 1), sc, vl, LP, sT)  H.size 20) (cwV 1 hts gX1_openWorkClose_X1_note rfl rfl rfl (by decide +kernel) ⟨Nat.le_of_ble_eq_true rfl, Nat.le_of_ble_eq_true rfl⟩) (xPre hN hK hP hD hS hA hZ _) rfl rfl hl.1 rfl (lv_room (Nat.le_of_ble_eq_true rfl)) dX1_openWorkClose_68 ⟨Nat.le_of_ble_eq_true rfl, Nat.le_of_ble_eq_true rfl⟩) hS (fun q _ h => hf50 q h) hf50 (fun v52 t54 H1 locs ht hvm hw53 hB hz1 hk1 hS => ?_)
        obtain ⟨hP1, hK1, hD1⟩ := hB
        rw [ht] at hP1
        replace hD1 := hD1.weaken (fun _ _ _ h => hf50 _ h)
        generalize H1 = H at hP1 hS ⊢
        obtain rfl := (show v52 = (sS, sP, sQ, (upd (upd (upd (upd (upd sE (ec &&& 15).toNatClampNeg 10) ((ec + 1) &&& 15).toNatClampNeg 11) (((ec + 1) + 1) &&& 15).toNatClampNeg 12) ((((ec + 1) + 1) + 1) &&& 15).toNatClampNeg 21) (((((ec + 1) + 1) + 1) + 1) &&& 15).toNatClampNeg 20), (((((ec + 1) + 1) + 1) + 1) + 1), sc, vl, LP, sT) from hw53)
        have hP : va_P D vwCl (xW F (sS, sP, sQ, (upd (upd (upd (upd (upd sE (ec &&& 15).toNatClampNeg 10) ((ec + 1) &&& 15).toNatClampNeg 11) (((ec + 1) + 1) &&& 15).toNatClampNeg 12) ((((ec + 1) + 1) + 1) &&& 15).toNatClampNeg 21) (((((ec + 1) + 1) + 1) + 1) &&& 15).toNatClampNeg 20), (((((ec + 1) + 1) + 1) + 1) + 1), sc, vl, LP, sT)) H := hP1
        have hD : va_D A (xW F (sS, sP, sQ, (upd (upd (upd (upd (upd sE (ec &&& 15).toNatClampNeg 10) ((ec + 1) &&& 15).toNatClampNeg 11) (((ec + 1) + 1) &&& 15).toNatClampNeg 12) ((((ec + 1) + 1) + 1) &&& 15).toNatClampNeg 21) (((((ec + 1) + 1) + 1) + 1) &&& 15).toNatClampNeg 20), (((((ec + 1) + 1) + 1) + 1) + 1), sc, vl, LP, sT)) := hD1
        refine lv_iload_n hx hb dX1_openWorkClose_71 rfl (lv_at hl 3 rfl) ?_
        refine lv_iconst (v := 2) hx hb dX1_openWorkClose_72 (by decide) ?_
        refine lv_iand hx hb dX1_openWorkClose_73 ?_
        refine lv_if_eq (tgt := 83) hx hb dX1_openWorkClose_74 (by decide) (fun c55 => ?_) (fun c55 => ?_)
        · refine lv_iload_n hx hb dX1_openWorkClose_83 rfl (lv_at hl 0 rfl) ?_
          exact W.iret (v := (fFail 0 2)) hx hb hr (fun tE ht hW => ⟨⟨(fFail 0 2), (sS, sP, sQ, (upd (upd (upd (upd (upd sE (ec &&& 15).toNatClampNeg 10) ((ec + 1) &&& 15).toNatClampNeg 11) (((ec + 1) + 1) &&& 15).toNatClampNeg 12) ((((ec + 1) + 1) + 1) &&& 15).toNatClampNeg 21) (((((ec + 1) + 1) + 1) + 1) &&& 15).toNatClampNeg 20), (((((ec + 1) + 1) + 1) + 1) + 1), sc, vl, LP, sT), rfl, by first | (simp only [sOpen, oMid, oEnd, uN, gS, gP, gQ, gE, gec, gsc, gvl, gL, gT, eq_true c11, c17, eq_true c49, eq_true c55, eq_self, ↓reduceIte, Bool.false_eq_true, Bool.not_false, Bool.not_true, Bool.and_true, Bool.and_false, Bool.true_and, Bool.false_and, decide_true, decide_false] <;> first | done | decide) | (simp only [sOpen, oMid, oEnd, uN, gS, gP, gQ, gE, gec, gsc, gvl, gL, gT, c11, c17, c49, c55, eq_self, ↓reduceIte, Bool.false_eq_true, Bool.not_false, Bool.not_true, Bool.and_true, Bool.and_false, Bool.true_and, Bool.false_and, decide_true, decide_false] <;> first | done | decide) | (simp [sOpen, oMid, oEnd, uN, gS, gP, gQ, gE, gec, gsc, gvl, gL, gT, c11, c17, c49, c55]; done) | (simp [sOpen, oMid, oEnd, uN, gS, gP, gQ, gE, gec, gsc, gvl, gL, gT, eq_true c11, c17, eq_true c49, eq_true c55]; done), by rw [ht]; exact hP, va_K.moved hW.alike hK, hD⟩, hS.F ht⟩) hS.2.2 dX1_openWorkClose_84
        · refine lv_iload_n hx hb dX1_openWorkClose_77 rfl (lv_at hl 0 rfl) ?_
          refine lv_iconst (v := 4) hx hb dX1_openWorkClose_78 (by decide) ?_
          refine vp_callSi (va_Run.run (va_runS (As := [.int (fFail 0 2), .int 4]) (rest := []) ⟨hx, hb, hml, hown, hts⟩ (k_withFailure l (fFail 0 2) 4) (va_cwS 2 hts gX1_openWorkClose_X1_withFailure rfl rfl rfl (by decide +kernel) ⟨Nat.le_of_ble_eq_true rfl, Nat.le_of_ble_eq_true rfl⟩) preEq rfl rfl hl.1 rfl (lv_room (Nat.le_of_ble_eq_true rfl)) dX1_openWorkClose_79 ⟨Nat.le_of_ble_eq_true rfl, Nat.le_of_ble_eq_true rfl⟩)) (fun r56 hw57 => ?_)
          subst hw57
          refine lv_istore_n (lv' := [(3, .int (fFail (fFail 0 2) 4)), (0, .ref F.1), (1, .int p0), (2, .int p1)]) hx hb dX1_openWorkClose_82 rfl hl (by decide) rfl (fun ls hl => ?_)
          refine lv_iload_n hx hb dX1_openWorkClose_83 rfl (lv_at hl 0 rfl) ?_
          exact W.iret (v := (fFail (fFail 0 2) 4)) hx hb hr (fun tE ht hW => ⟨⟨(fFail (fFail 0 2) 4), (sS, sP, sQ, (upd (upd (upd (upd (upd sE (ec &&& 15).toNatClampNeg 10) ((ec + 1) &&& 15).toNatClampNeg 11) (((ec + 1) + 1) &&& 15).toNatClampNeg 12) ((((ec + 1) + 1) + 1) &&& 15).toNatClampNeg 21) (((((ec + 1) + 1) + 1) + 1) &&& 15).toNatClampNeg 20), (((((ec + 1) + 1) + 1) + 1) + 1), sc, vl, LP, sT), rfl, by first | (simp only [sOpen, oMid, oEnd, uN, gS, gP, gQ, gE, gec, gsc, gvl, gL, gT, eq_true c11, c17, eq_true c49, c55, eq_self, ↓reduceIte, Bool.false_eq_true, Bool.not_false, Bool.not_true, Bool.and_true, Bool.and_false, Bool.true_and, Bool.false_and, decide_true, decide_false] <;> first | done | decide) | (simp only [sOpen, oMid, oEnd, uN, gS, gP, gQ, gE, gec, gsc, gvl, gL, gT, c11, c17, c49, c55, eq_self, ↓reduceIte, Bool.false_eq_true, Bool.not_false, Bool.not_true, Bool.and_true, Bool.and_false, Bool.true_and, Bool.false_and, decide_true, decide_false] <;> first | done | decide) | (simp [sOpen, oMid, oEnd, uN, gS, gP, gQ, gE, gec, gsc, gvl, gL, gT, c11, c17, c49, c55]; done) | (simp [sOpen, oMid, oEnd, uN, gS, gP, gQ, gE, gec, gsc, gvl, gL, gT, eq_true c11, c17, eq_true c49, c55]; done), by rw [ht]; exact hP, va_K.moved hW.alike hK, hD⟩, hS.F ht⟩) hS.2.2 dX1_openWorkClose_84
      · refine lv_iload_n hx hb dX1_openWorkClose_59 rfl (lv_at hl 0 rfl) ?_
        refine lv_iconst (v := 3) hx hb dX1_openWorkClose_60 (by decide) ?_
        refine vp_callSi (va_Run.run (va_runS (As := [.int (fFail 0 2), .int 3]) (rest := []) ⟨hx, hb, hml, hown, hts⟩ (k_withFailure l (fFail 0 2) 3) (va_cwS 2 hts gX1_openWorkClose_X1_withFailure rfl rfl rfl (by decide +kernel) ⟨Nat.le_of_ble_eq_true rfl, Nat.le_of_ble_eq_true rfl⟩) preEq rfl rfl hl.1 rfl (lv_room (Nat.le_of_ble_eq_true rfl)) dX1_openWorkClose_61 ⟨Nat.le_of_ble_eq_true rfl, Nat.le_of_ble_eq_true rfl⟩)) (fun r58 hw59 => ?_)
        subst hw59
        refine lv_istore_n (lv' := [(3, .int (fFail (fFail 0 2) 3)), (0, .ref F.1), (1, .int p0), (2, .int p1)]) hx hb dX1_openWorkClose_64 rfl hl (by decide) rfl (fun ls hl => ?_)
        refine lv_aload_n hx hb dX1_openWorkClose_65 rfl (lv_at hl 1 rfl) ?_
        refine lv_bipush (v := 20) hx hb dX1_openWorkClose_66 (by decide) ?_
        have hf60 := xFree hD hS hA
        refine va_callv (va_runV (As := [.int 20]) (rest := []) ⟨hx, hb, hml, hown, hts⟩ (k_note l D F (sS, sP, sQ, (upd (upd (upd (upd sE (ec &&& 15).toNatClampNeg 10) ((ec + 1) &&& 15).toNatClampNeg 11) (((ec + 1) + 1) &&& 15).toNatClampNeg 12) ((((ec + 1) + 1) + 1) &&& 15).toNatClampNeg 21), ((((ec + 1) + 1) + 1) + 1), sc, vl, LP, sT)  H.size 20) (cwV 1 hts gX1_openWorkClose_X1_note rfl rfl rfl (by decide +kernel) ⟨Nat.le_of_ble_eq_true rfl, Nat.le_of_ble_eq_true rfl⟩) (xPre hN hK hP hD hS hA hZ _) rfl rfl hl.1 rfl (lv_room (Nat.le_of_ble_eq_true rfl)) dX1_openWorkClose_68 ⟨Nat.le_of_ble_eq_true rfl, Nat.le_of_ble_eq_true rfl⟩) hS (fun q _ h => hf60 q h) hf60 (fun v62 t64 H1 locs ht hvm hw63 hB hz1 hk1 hS => ?_)
        obtain ⟨hP1, hK1, hD1⟩ := hB
        rw [ht] at hP1
        replace hD1 := hD1.weaken (fun _ _ _ h => hf60 _ h)
        generalize H1 = H at hP1 hS ⊢
        obtain rfl := (show v62 = (sS, sP, sQ, (upd (upd (upd (upd (upd sE (ec &&& 15).toNatClampNeg 10) ((ec + 1) &&& 15).toNatClampNeg 11) (((ec + 1) + 1) &&& 15).toNatClampNeg 12) ((((ec + 1) + 1) + 1) &&& 15).toNatClampNeg 21) (((((ec + 1) + 1) + 1) + 1) &&& 15).toNatClampNeg 20), (((((ec + 1) + 1) + 1) + 1) + 1), sc, vl, LP, sT) from hw63)
        have hP : va_P D vwCl (xW F (sS, sP, sQ, (upd (upd (upd (upd (upd sE (ec &&& 15).toNatClampNeg 10) ((ec + 1) &&& 15).toNatClampNeg 11) (((ec + 1) + 1) &&& 15).toNatClampNeg 12) ((((ec + 1) + 1) + 1) &&& 15).toNatClampNeg 21) (((((ec + 1) + 1) + 1) + 1) &&& 15).toNatClampNeg 20), (((((ec + 1) + 1) + 1) + 1) + 1), sc, vl, LP, sT)) H := hP1
        have hD : va_D A (xW F (sS, sP, sQ, (upd (upd (upd (upd (upd sE (ec &&& 15).toNatClampNeg 10) ((ec + 1) &&& 15).toNatClampNeg 11) (((ec + 1) + 1) &&& 15).toNatClampNeg 12) ((((ec + 1) + 1) + 1) &&& 15).toNatClampNeg 21) (((((ec + 1) + 1) + 1) + 1) &&& 15).toNatClampNeg 20), (((((ec + 1) + 1) + 1) + 1) + 1), sc, vl, LP, sT)) := hD1
        refine lv_iload_n hx hb dX1_openWorkClose_71 rfl (lv_at hl 3 rfl) ?_
        refine lv_iconst (v := 2) hx hb dX1_openWorkClose_72 (by decide) ?_
        refine lv_iand hx hb dX1_openWorkClose_73 ?_
        refine lv_if_eq (tgt := 83) hx hb dX1_openWorkClose_74 (by decide) (fun c65 => ?_) (fun c65 => ?_)
        · refine lv_iload_n hx hb dX1_openWorkClose_83 rfl (lv_at hl 0 rfl) ?_
          exact W.iret (v := (fFail (fFail 0 2) 3)) hx hb hr (fun tE ht hW => ⟨⟨(fFail (fFail 0 2) 3), (sS, sP, sQ, (upd (upd (upd (upd (upd sE (ec &&& 15).toNatClampNeg 10) ((ec + 1) &&& 15).toNatClampNeg 11) (((ec + 1) + 1) &&& 15).toNatClampNeg 12) ((((ec + 1) + 1) + 1) &&& 15).toNatClampNeg 21) (((((ec + 1) + 1) + 1) + 1) &&& 15).toNatClampNeg 20), (((((ec + 1) + 1) + 1) + 1) + 1), sc, vl, LP, sT), rfl, by first | (simp only [sOpen, oMid, oEnd, uN, gS, gP, gQ, gE, gec, gsc, gvl, gL, gT, eq_true c11, c17, c49, eq_true c65, eq_self, ↓reduceIte, Bool.false_eq_true, Bool.not_false, Bool.not_true, Bool.and_true, Bool.and_false, Bool.true_and, Bool.false_and, decide_true, decide_false] <;> first | done | decide) | (simp only [sOpen, oMid, oEnd, uN, gS, gP, gQ, gE, gec, gsc, gvl, gL, gT, c11, c17, c49, c65, eq_self, ↓reduceIte, Bool.false_eq_true, Bool.not_false, Bool.not_true, Bool.and_true, Bool.and_false, Bool.true_and, Bool.false_and, decide_true, decide_false] <;> first | done | decide) | (simp [sOpen, oMid, oEnd, uN, gS, gP, gQ, gE, gec, gsc, gvl, gL, gT, c11, c17, c49, c65]; done) | (simp [sOpen, oMid, oEnd, uN, gS, gP, gQ, gE, gec, gsc, gvl, gL, gT, eq_true c11, c17, c49, eq_true c65]; done), by rw [ht]; exact hP, va_K.moved hW.alike hK, hD⟩, hS.F ht⟩) hS.2.2 dX1_openWorkClose_84
        · refine lv_iload_n hx hb dX1_openWorkClose_77 rfl (lv_at hl 0 rfl) ?_
          refine lv_iconst (v := 4) hx hb dX1_openWorkClose_78 (by decide) ?_
          refine vp_callSi (va_Run.run (va_runS (As := [.int (fFail (fFail 0 2) 3), .int 4]) (rest := []) ⟨hx, hb, hml, hown, hts⟩ (k_withFailure l (fFail (fFail 0 2) 3) 4) (va_cwS 2 hts gX1_openWorkClose_X1_withFailure rfl rfl rfl (by decide +kernel) ⟨Nat.le_of_ble_eq_true rfl, Nat.le_of_ble_eq_true rfl⟩) preEq rfl rfl hl.1 rfl (lv_room (Nat.le_of_ble_eq_true rfl)) dX1_openWorkClose_79 ⟨Nat.le_of_ble_eq_true rfl, Nat.le_of_ble_eq_true rfl⟩)) (fun r66 hw67 => ?_)
          subst hw67
          refine lv_istore_n (lv' := [(3, .int (fFail (fFail (fFail 0 2) 3) 4)), (0, .ref F.1), (1, .int p0), (2, .int p1)]) hx hb dX1_openWorkClose_82 rfl hl (by decide) rfl (fun ls hl => ?_)
          refine lv_iload_n hx hb dX1_openWorkClose_83 rfl (lv_at hl 0 rfl) ?_
          exact W.iret (v := (fFail (fFail (fFail 0 2) 3) 4)) hx hb hr (fun tE ht hW => ⟨⟨(fFail (fFail (fFail 0 2) 3) 4), (sS, sP, sQ, (upd (upd (upd (upd (upd sE (ec &&& 15).toNatClampNeg 10) ((ec + 1) &&& 15).toNatClampNeg 11) (((ec + 1) + 1) &&& 15).toNatClampNeg 12) ((((ec + 1) + 1) + 1) &&& 15).toNatClampNeg 21) (((((ec + 1) + 1) + 1) + 1) &&& 15).toNatClampNeg 20), (((((ec + 1) + 1) + 1) + 1) + 1), sc, vl, LP, sT), rfl, by first | (simp only [sOpen, oMid, oEnd, uN, gS, gP, gQ, gE, gec, gsc, gvl, gL, gT, eq_true c11, c17, c49, c65, eq_self, ↓reduceIte, Bool.false_eq_true, Bool.not_false, Bool.not_true, Bool.and_true, Bool.and_false, Bool.true_and, Bool.false_and, decide_true, decide_false] <;> first | done | decide) | (simp only [sOpen, oMid, oEnd, uN, gS, gP, gQ, gE, gec, gsc, gvl, gL, gT, c11, c17, c49, c65, eq_self, ↓reduceIte, Bool.false_eq_true, Bool.not_false, Bool.not_true, Bool.and_true, Bool.and_false, Bool.true_and, Bool.false_and, decide_true, decide_false] <;> first | done | decide) | (simp [sOpen, oMid, oEnd, uN, gS, gP, gQ, gE, gec, gsc, gvl, gL, gT, c11, c17, c49, c65]; done) | (simp [sOpen, oMid, oEnd, uN, gS, gP, gQ, gE, gec, gsc, gvl, gL, gT, eq_true c11, c17, c49, c65]; done), by rw [ht]; exact hP, va_K.moved hW.alike hK, hD⟩, hS.F ht⟩) hS.2.2 dX1_openWorkClose_84
  · refine lv_iload_n hx hb dX1_openWorkClose_20 rfl (lv_at hl 0 rfl) ?_
    refine lv_iconst (v := 1) hx hb dX1_openWorkClose_21 (by decide) ?_
    refine vp_callSi (va_Run.run (va_runS (As := [.int 0, .int 1]) (rest := []) ⟨hx, hb, hml, hown, hts⟩ (k_withFailure l 0 1) (va_cwS 2 hts gX1_openWorkClose_X1_withFailure rfl rfl rfl (by decide +kernel) ⟨Nat.le_of_ble_eq_true rfl, Nat.le_of_ble_eq_true rfl⟩) preEq rfl rfl hl.1 rfl (lv_room (Nat.le_of_ble_eq_true rfl)) dX1_openWorkClose_22 ⟨Nat.le_of_ble_eq_true rfl, Nat.le_of_ble_eq_true rfl⟩)) (fun r68 hw69 => ?_)
    subst hw69
    refine lv_istore_n (lv' := [(3, .int (fFail 0 1)), (0, .ref F.1), (1, .int p0), (2, .int p1)]) hx hb dX1_openWorkClose_25 rfl hl (by decide) rfl (fun ls hl => ?_)
    refine lv_goto (tgt := 65) hx hb dX1_openWorkClose_26 (by decide) ?_
    refine lv_aload_n hx hb dX1_openWorkClose_65 rfl (lv_at hl 1 rfl) ?_
    refine lv_bipush (v := 20) hx hb dX1_openWorkClose_66 (by decide) ?_
    have hf70 := xFree hD hS hA
    refine va_callv (va_runV (As := [.int 20]) (rest := []) ⟨hx, hb, hml, hown, hts⟩ (k_note l D F (sS, sP, sQ, (upd (upd sE (ec &&& 15).toNatClampNeg 10) ((ec + 1) &&& 15).toNatClampNeg 11), ((ec + 1) + 1), sc, vl, LP, sT)  H.size 20) (cwV 1 hts gX1_openWorkClose_X1_note rfl rfl rfl (by decide +kernel) ⟨Nat.le_of_ble_eq_true rfl, Nat.le_of_ble_eq_true rfl⟩) (xPre hN hK hP hD hS hA hZ _) rfl rfl hl.1 rfl (lv_room (Nat.le_of_ble_eq_true rfl)) dX1_openWorkClose_68 ⟨Nat.le_of_ble_eq_true rfl, Nat.le_of_ble_eq_true rfl⟩) hS (fun q _ h => hf70 q h) hf70 (fun v72 t74 H1 locs ht hvm hw73 hB hz1 hk1 hS => ?_)
    obtain ⟨hP1, hK1, hD1⟩ := hB
    rw [ht] at hP1
    replace hD1 := hD1.weaken (fun _ _ _ h => hf70 _ h)
    generalize H1 = H at hP1 hS ⊢
    obtain rfl := (show v72 = (sS, sP, sQ, (upd (upd (upd sE (ec &&& 15).toNatClampNeg 10) ((ec + 1) &&& 15).toNatClampNeg 11) (((ec + 1) + 1) &&& 15).toNatClampNeg 20), (((ec + 1) + 1) + 1), sc, vl, LP, sT) from hw73)
    have hP : va_P D vwCl (xW F (sS, sP, sQ, (upd (upd (upd sE (ec &&& 15).toNatClampNeg 10) ((ec + 1) &&& 15).toNatClampNeg 11) (((ec + 1) + 1) &&& 15).toNatClampNeg 20), (((ec + 1) + 1) + 1), sc, vl, LP, sT)) H := hP1
    have hD : va_D A (xW F (sS, sP, sQ, (upd (upd (upd sE (ec &&& 15).toNatClampNeg 10) ((ec + 1) &&& 15).toNatClampNeg 11) (((ec + 1) + 1) &&& 15).toNatClampNeg 20), (((ec + 1) + 1) + 1), sc, vl, LP, sT)) := hD1
    refine lv_iload_n hx hb dX1_openWorkClose_71 rfl (lv_at hl 3 rfl) ?_
    refine lv_iconst (v := 2) hx hb dX1_openWorkClose_72 (by decide) ?_
    refine lv_iand hx hb dX1_openWorkClose_73 ?_
    refine lv_if_eq (tgt := 83) hx hb dX1_openWorkClose_74 (by decide) (fun c75 => ?_) (fun c75 => ?_)
    · refine lv_iload_n hx hb dX1_openWorkClose_83 rfl (lv_at hl 0 rfl) ?_
      exact W.iret (v := (fFail 0 1)) hx hb hr (fun tE ht hW => ⟨⟨(fFail 0 1), (sS, sP, sQ, (upd (upd (upd sE (ec &&& 15).toNatClampNeg 10) ((ec + 1) &&& 15).toNatClampNeg 11) (((ec + 1) + 1) &&& 15).toNatClampNeg 20), (((ec + 1) + 1) + 1), sc, vl, LP, sT), rfl, by first | (simp only [sOpen, oMid, oEnd, uN, gS, gP, gQ, gE, gec, gsc, gvl, gL, gT, c11, eq_true c75, eq_self, ↓reduceIte, Bool.false_eq_true, Bool.not_false, Bool.not_true, Bool.and_true, Bool.and_false, Bool.true_and, Bool.false_and, decide_true, decide_false] <;> first | done | decide) | (simp only [sOpen, oMid, oEnd, uN, gS, gP, gQ, gE, gec, gsc, gvl, gL, gT, c11, c75, eq_self, ↓reduceIte, Bool.false_eq_true, Bool.not_false, Bool.not_true, Bool.and_true, Bool.and_false, Bool.true_and, Bool.false_and, decide_true, decide_false] <;> first | done | decide) | (simp [sOpen, oMid, oEnd, uN, gS, gP, gQ, gE, gec, gsc, gvl, gL, gT, c11, c75]; done) | (simp [sOpen, oMid, oEnd, uN, gS, gP, gQ, gE, gec, gsc, gvl, gL, gT, c11, eq_true c75]; done), by rw [ht]; exact hP, va_K.moved hW.alike hK, hD⟩, hS.F ht⟩) hS.2.2 dX1_openWorkClose_84
    · refine lv_iload_n hx hb dX1_openWorkClose_77 rfl (lv_at hl 0 rfl) ?_
      refine lv_iconst (v := 4) hx hb dX1_openWorkClose_78 (by decide) ?_
      refine vp_callSi (va_Run.run (va_runS (As := [.int (fFail 0 1), .int 4]) (rest := []) ⟨hx, hb, hml, hown, hts⟩ (k_withFailure l (fFail 0 1) 4) (va_cwS 2 hts gX1_openWorkClose_X1_withFailure rfl rfl rfl (by decide +kernel) ⟨Nat.le_of_ble_eq_true rfl, Nat.le_of_ble_eq_true rfl⟩) preEq rfl rfl hl.1 rfl (lv_room (Nat.le_of_ble_eq_true rfl)) dX1_openWorkClose_79 ⟨Nat.le_of_ble_eq_true rfl, Nat.le_of_ble_eq_true rfl⟩)) (fun r76 hw77 => ?_)
      subst hw77
      refine lv_istore_n (lv' := [(3, .int (fFail (fFail 0 1) 4)), (0, .ref F.1), (1, .int p0), (2, .int p1)]) hx hb dX1_openWorkClose_82 rfl hl (by decide) rfl (fun ls hl => ?_)
      refine lv_iload_n hx hb dX1_openWorkClose_83 rfl (lv_at hl 0 rfl) ?_
      exact W.iret (v := (fFail (fFail 0 1) 4)) hx hb hr (fun tE ht hW => ⟨⟨(fFail (fFail 0 1) 4), (sS, sP, sQ, (upd (upd (upd sE (ec &&& 15).toNatClampNeg 10) ((ec + 1) &&& 15).toNatClampNeg 11) (((ec + 1) + 1) &&& 15).toNatClampNeg 20), (((ec + 1) + 1) + 1), sc, vl, LP, sT), rfl, by first | (simp only [sOpen, oMid, oEnd, uN, gS, gP, gQ, gE, gec, gsc, gvl, gL, gT, c11, c75, eq_self, ↓reduceIte, Bool.false_eq_true, Bool.not_false, Bool.not_true, Bool.and_true, Bool.and_false, Bool.true_and, Bool.false_and, decide_true, decide_false] <;> first | done | decide) | (simp [sOpen, oMid, oEnd, uN, gS, gP, gQ, gE, gec, gsc, gvl, gL, gT, c11, c75]; done), by rw [ht]; exact hP, va_K.moved hW.alike hK, hD⟩, hS.F ht⟩) hS.2.2 dX1_openWorkClose_84
set_option maxHeartbeats 8000000 in
set_option maxRecDepth 100000 in
theorem k_squareInRow (l : Launch) (D : va_G) (F : XF) (u : XS) (sz : Nat) (p0 : Int32) (p1 : Int32) : Met l yX1_squareInRow wsX1_squareInRow ({ frames := 1, cells := 0, slots := 0, locals := 21 }) (xPc D F u sz [.ref F.1, .int p0, .int p1]) (va_Qi (fun (r : Int32) (v : XS) => (r, v) = sSq u p0 p1) (xB D F (va_A (xW F u) sz)) (va_A (xW F u) sz)) 0 0 (va_A (xW F u) sz) := by
  obtain ⟨sS, sP, sQ, sE, ec, sc, vl, LP, sT⟩ := u
  refine Met.ofW (cc := cX1_squareInRow) (maxL := 3) (ret := (some .int)) (by decide) rfl ?_
  intro p e s m args below meth c s₁ B hml hv
  obtain ⟨rfl, hsz, hP, hK, hD0, hN, hZ⟩ := hv
  have hx := B.exec
  have hb := B.bytes
  have hr := B.returns
  have hts := atoms_spec (ws := wsX1_squareInRow) B.pre
  have hown : s.vm.findClass RX1 = some m.cls := findClass_of_methodNamed B.named
  have hlocks := B.notSynchronized
  subst hsz
  have hD := hD0.self (sz := s.heap.size)
  generalize hAe : va_A (xW F (sS, sP, sQ, sE, ec, sc, vl, LP, sT)) s.heap.size = A at hD hZ ⊢
  have hA : ∀ q : Nat, s.heap.size ≤ q → A q := fun q h => by rw [← hAe]; exact Or.inr h
  have hS : va_S A s.heap s.heap [] := va_S.rf
  obtain ⟨tk, tm, tr, hztk, httk, hztm, httm, hztr, httr⟩ := id hZ
  refine xHeap (C := fun H => va_P D vwCl (xW F (sS, sP, sQ, sE, ec, sc, vl, LP, sT)) H ∧ va_S A s.heap H []) ⟨hP, hS⟩ (fun H hC => ?_)
  obtain ⟨hP, hS⟩ := hC
  have hl := lv_entry ([.ref F.1, .int p0, .int p1]) (n := 3) (Nat.le_of_ble_eq_true rfl)
  rw [lg_entry_eq]
  generalize (lg_sl ([.ref F.1, .int p0, .int p1]) ++ List.replicate (3 - (lg_sl ([.ref F.1, .int p0, .int p1])).length) Slot.unset).toArray = ls at hl ⊢
  have hl : lv_has ls 3 [(0, .ref F.1), (1, .int p0), (2, .int p1)] := hl
  refine lv_iload_n hx hb dX1_squareInRow_0 rfl (lv_at hl 1 rfl) ?_
  refine lv_sipush (v := 1000) hx hb dX1_squareInRow_1 (by decide) ?_
  refine lv_icmp_le (tgt := 9) hx hb dX1_squareInRow_4 (by decide) (fun c1 => ?_) (fun c1 => ?_)
  · refine lv_iload_n hx hb dX1_squareInRow_9 rfl (lv_at hl 1 rfl) ?_
    refine lv_if_ge (tgt := 16) hx hb dX1_squareInRow_10 (by decide) (fun c2 => ?_) (fun c2 => ?_)
    · refine lv_iload_n hx hb dX1_squareInRow_16 rfl (lv_at hl 2 rfl) ?_
      refine lv_iload_n hx hb dX1_squareInRow_17 rfl (lv_at hl 1 rfl) ?_
      refine vp_callSi (va_Run.run (va_runS (As := [.int p1, .int p0]) (rest := []) ⟨hx, hb, hml, hown, hts⟩ (k_isBelow l p1 p0) (va_cwS 2 hts gX1_squareInRow_X1_isBelow rfl rfl rfl (by decide +kernel) ⟨Nat.le_of_ble_eq_true rfl, Nat.le_of_ble_eq_true rfl⟩) preEq rfl rfl hl.1 rfl (lv_room (Nat.le_of_ble_eq_true rfl)) dX1_squareInRow_18 ⟨Nat.le_of_ble_eq_true rfl, Nat.le_of_ble_eq_true rfl⟩)) (fun r3 hw4 => ?_)
      rcases bI_c hw4 with ⟨rfl, b5⟩ | ⟨rfl, b5⟩
      · refine lv_if_ne (tgt := 26) hx hb dX1_squareInRow_21 (by decide) (fun _ => ?_) (fun cz => absurd cz (by decide))
        refine lv_aload_n hx hb dX1_squareInRow_26 rfl (lv_at hl 0 rfl) ?_
        refine lv_iload_n hx hb dX1_squareInRow_27 rfl (lv_at hl 2 rfl) ?_
        refine lv_iload_n hx hb dX1_squareInRow_28 rfl (lv_at hl 2 rfl) ?_
        refine lv_imul hx hb dX1_squareInRow_29 ?_
        have hf6 := xFree hD hS hA
        refine va_calli (va_runV (As := [.int (p1 * p1)]) (rest := []) ⟨hx, hb, hml, hown, hts⟩ (k_wentWith l D F (sS, sP, sQ, sE, ec, sc, vl, LP, sT)  H.size (p1 * p1)) (cwV 1 hts gX1_squareInRow_X1_wentWith rfl rfl rfl (by decide +kernel) ⟨Nat.le_of_ble_eq_true rfl, Nat.le_of_ble_eq_true rfl⟩) (xPre hN hK hP hD hS hA hZ _) rfl rfl hl.1 rfl (lv_room (Nat.le_of_ble_eq_true rfl)) dX1_squareInRow_30 ⟨Nat.le_of_ble_eq_true rfl, Nat.le_of_ble_eq_true rfl⟩) hS (fun q _ h => hf6 q h) hf6 (fun r7 v8 t10 H1 locs ht hvm hw9 hB hz1 hk1 hS => ?_)
        obtain ⟨hP1, hK1, hD1⟩ := hB
        rw [ht] at hP1
        replace hD1 := hD1.weaken (fun _ _ _ h => hf6 _ h)
        generalize H1 = H at hP1 hS ⊢
        obtain ⟨rfl, rfl⟩ := Prod.mk.inj (show (r7, v8) = (0, (sS, sP, sQ, sE, ec, sc, (p1 * p1), LP, sT)) from hw9)
        have hP : va_P D vwCl (xW F (sS, sP, sQ, sE, ec, sc, (p1 * p1), LP, sT)) H := hP1
        have hD : va_D A (xW F (sS, sP, sQ, sE, ec, sc, (p1 * p1), LP, sT)) := hD1
        exact W.iret (v := 0) hx hb hr (fun tE ht hW => ⟨⟨0, (sS, sP, sQ, sE, ec, sc, (p1 * p1), LP, sT), rfl, by first | (simp only [sSq, uV, gS, gP, gQ, gE, gec, gsc, gvl, gL, gT, eq_true c1, eq_true c2, b5, eq_self, ↓reduceIte, Bool.false_eq_true, Bool.not_false, Bool.not_true, Bool.and_true, Bool.and_false, Bool.true_and, Bool.false_and, decide_true, decide_false] <;> first | done | decide) | (simp only [sSq, uV, gS, gP, gQ, gE, gec, gsc, gvl, gL, gT, c1, c2, b5, eq_self, ↓reduceIte, Bool.false_eq_true, Bool.not_false, Bool.not_true, Bool.and_true, Bool.and_false, Bool.true_and, Bool.false_and, decide_true, decide_false] <;> first | done | decide) | (simp [sSq, uV, gS, gP, gQ, gE, gec, gsc, gvl, gL, gT, c1, c2, b5]; done) | (simp [sSq, uV, gS, gP, gQ, gE, gec, gsc, gvl, gL, gT, eq_true c1, eq_true c2, b5]; done), by rw [ht]; exact hP, va_K.moved hW.alike hK, hD⟩, hS.F ht⟩) hS.2.2 dX1_squareInRow_33
      · refine lv_if_ne (tgt := 26) hx hb dX1_squareInRow_21 (by decide) (fun cz => absurd cz (by decide)) (fun _ => ?_)
        refine lv_iconst (v := 4) hx hb dX1_squareInRow_24 (by decide) ?_
        exact W.iret (v := 4) hx hb hr (fun tE ht hW => ⟨⟨4, (sS, sP, sQ, sE, ec, sc, vl, LP, sT), rfl, by first | (simp only [sSq, uV, gS, gP, gQ, gE, gec, gsc, gvl, gL, gT, eq_true c1, eq_true c2, b5, eq_self, ↓reduceIte, Bool.false_eq_true, Bool.not_false, Bool.not_true, Bool.and_true, Bool.and_false, Bool.true_and, Bool.false_and, decide_true, decide_false] <;> first | done | decide) | (simp only [sSq, uV, gS, gP, gQ, gE, gec, gsc, gvl, gL, gT, c1, c2, b5, eq_self, ↓reduceIte, Bool.false_eq_true, Bool.not_false, Bool.not_true, Bool.and_true, Bool.and_false, Bool.true_and, Bool.false_and, decide_true, decide_false] <;> first | done | decide) | (simp [sSq, uV, gS, gP, gQ, gE, gec, gsc, gvl, gL, gT, c1, c2, b5]; done) | (simp [sSq, uV, gS, gP, gQ, gE, gec, gsc, gvl, gL, gT, eq_true c1, eq_true c2, b5]; done), by rw [ht]; exact hP, va_K.moved hW.alike hK, hD⟩, hS.F ht⟩) hS.2.2 dX1_squareInRow_25
    · refine lv_bipush (v := 6) hx hb dX1_squareInRow_13 (by decide) ?_
      exact W.iret (v := 6) hx hb hr (fun tE ht hW => ⟨⟨6, (sS, sP, sQ, sE, ec, sc, vl, LP, sT), rfl, by first | (simp only [sSq, uV, gS, gP, gQ, gE, gec, gsc, gvl, gL, gT, eq_true c1, c2, eq_self, ↓reduceIte, Bool.false_eq_true, Bool.not_false, Bool.not_true, Bool.and_true, Bool.and_false, Bool.true_and, Bool.false_and, decide_true, decide_false] <;> first | done | decide) | (simp only [sSq, uV, gS, gP, gQ, gE, gec, gsc, gvl, gL, gT, c1, c2, eq_self, ↓reduceIte, Bool.false_eq_true, Bool.not_false, Bool.not_true, Bool.and_true, Bool.and_false, Bool.true_and, Bool.false_and, decide_true, decide_false] <;> first | done | decide) | (simp [sSq, uV, gS, gP, gQ, gE, gec, gsc, gvl, gL, gT, c1, c2]; done) | (simp [sSq, uV, gS, gP, gQ, gE, gec, gsc, gvl, gL, gT, eq_true c1, c2]; done), by rw [ht]; exact hP, va_K.moved hW.alike hK, hD⟩, hS.F ht⟩) hS.2.2 dX1_squareInRow_15
  · refine lv_iconst (v := (-1)) hx hb dX1_squareInRow_7 (by decide) ?_
    exact W.iret (v := (-1)) hx hb hr (fun tE ht hW => ⟨⟨(-1), (sS, sP, sQ, sE, ec, sc, vl, LP, sT), rfl, by first | (simp only [sSq, uV, gS, gP, gQ, gE, gec, gsc, gvl, gL, gT, c1, eq_self, ↓reduceIte, Bool.false_eq_true, Bool.not_false, Bool.not_true, Bool.and_true, Bool.and_false, Bool.true_and, Bool.false_and, decide_true, decide_false] <;> first | done | decide) | (simp [sSq, uV, gS, gP, gQ, gE, gec, gsc, gvl, gL, gT, c1]; done), by rw [ht]; exact hP, va_K.moved hW.alike hK, hD⟩, hS.F ht⟩) hS.2.2 dX1_squareInRow_8
