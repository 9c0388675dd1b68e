set_option maxHeartbeats 8000000 in
set_option maxRecDepth 100000 in
theorem k_wentWith (l : Launch) (D : va_G) (F : XF) (u : XS) (sz : Nat) (p0 : Int32) : Met l yX1_wentWith wsX1_wentWith ({ frames := 0, cells := 0, slots := 0, locals := 0 }) (xPc D F u sz [.ref F.1, .int p0]) (va_Qi (fun (r : Int32) (v : XS) => (r, v) = sWent u p0) (xB D F (va_A (xW F u) sz)) (va_A (xW F u) sz)) 0 0 (va_A (xW F u) sz) := by
  obtain ⟨sS, sP, sQ, sE, ec, sc, vl, LP, sT⟩ := u
  refine Met.ofW (cc := cX1_wentWith) (maxL := 2) (ret := (some .int)) (by decide) rfl ?_
  intro p e s m args below meth c s₁ B hml hv
  obtain ⟨rfl, hsz, hP, hK, hD0, hN, hZ⟩ := hv
  have hx := B.exec
  have hb := B.bytes
  have hr := B.returns
  have hts := atoms_spec (ws := wsX1_wentWith) B.pre
  have hown : s.vm.findClass RX1 = some m.cls := findClass_of_methodNamed B.named
  have hlocks := B.notSynchronized
  subst hsz
  have hD := hD0.self (sz := s.heap.size)
  generalize hAe : va_A (xW F (sS, sP, sQ, sE, ec, sc, vl, LP, sT)) s.heap.size = A at hD hZ ⊢
  have hA : ∀ q : Nat, s.heap.size ≤ q → A q := fun q h => by rw [← hAe]; exact Or.inr h
  have hS : va_S A s.heap s.heap [] := va_S.rf
  obtain ⟨tk, tm, tr, hztk, httk, hztm, httm, hztr, httr⟩ := id hZ
  refine xHeap (C := fun H => va_P D vwCl (xW F (sS, sP, sQ, sE, ec, sc, vl, LP, sT)) H ∧ va_S A s.heap H []) ⟨hP, hS⟩ (fun H hC => ?_)
  obtain ⟨hP, hS⟩ := hC
  have hl := lv_entry ([.ref F.1, .int p0]) (n := 2) (Nat.le_of_ble_eq_true rfl)
  rw [lg_entry_eq]
  generalize (lg_sl ([.ref F.1, .int p0]) ++ List.replicate (2 - (lg_sl ([.ref F.1, .int p0])).length) Slot.unset).toArray = ls at hl ⊢
  have hl : lv_has ls 2 [(0, .ref F.1), (1, .int p0)] := hl
  refine lv_aload_n hx hb dX1_wentWith_0 rfl (lv_at hl 0 rfl) ?_
  refine lv_iload_n hx hb dX1_wentWith_1 rfl (lv_at hl 1 rfl) ?_
  refine va_put (D := D) (ci := 1) (v := .int p0) (ty := .int) (C := RX1) (T := TX1) (N := 9) hx hb hts (by decide +kernel) tyX1 tyX1_ok nmX1 hown hK hP hD hS 0 rfl rfl 8 (by decide) (hts (.fieldLink RX1 72 "FamilyProbes" "lastValue" "I") (by decide +kernel)) (fun _ h9 => h9) rfl (by decide +kernel) rfl rfl (Nat.le_of_ble_eq_true rfl) dX1_wentWith_2 (fun H locs hP hD hS => ?_)
  have hP : va_P D vwCl (xW F (sS, sP, sQ, sE, ec, sc, p0, LP, sT)) H := hP
  have hD : va_D A (xW F (sS, sP, sQ, sE, ec, sc, p0, LP, sT)) := hD
  refine lv_iconst (v := 0) hx hb dX1_wentWith_5 (by decide) ?_
  exact W.iret (v := 0) hx hb hr (fun tE ht hW => ⟨⟨0, (sS, sP, sQ, sE, ec, sc, p0, LP, sT), rfl, by first | (simp only [sWent, uV, gS, gP, gQ, gE, gec, gsc, gvl, gL, gT, eq_self, ↓reduceIte, Bool.false_eq_true, Bool.not_false, Bool.not_true, Bool.and_true, Bool.and_false, Bool.true_and, Bool.false_and, decide_true, decide_false] <;> first | done | decide) | (simp [sWent, uV, gS, gP, gQ, gE, gec, gsc, gvl, gL, gT]; done), by rw [ht]; exact hP, va_K.moved hW.alike hK, hD⟩, hS.F ht⟩) hS.2.2 dX1_wentWith_6
set_option maxHeartbeats 8000000 in
set_option maxRecDepth 100000 in
theorem k_note (l : Launch) (D : va_G) (F : XF) (u : XS) (sz : Nat) (p0 : Int32) : Met l yX1_note wsX1_note ({ frames := 0, cells := 0, slots := 0, locals := 0 }) (xPc D F u sz [.ref F.1, .int p0]) (va_Qv (fun v : XS => v = uN u p0) (xB D F (va_A (xW F u) sz)) (va_A (xW F u) sz)) 0 0 (va_A (xW F u) sz) := by
  obtain ⟨sS, sP, sQ, sE, ec, sc, vl, LP, sT⟩ := u
  refine Met.ofW (cc := cX1_note) (maxL := 2) (ret := none) (by decide) rfl ?_
  intro p e s m args below meth c s₁ B hml hv
  obtain ⟨rfl, hsz, hP, hK, hD0, hN, hZ⟩ := hv
  have hx := B.exec
  have hb := B.bytes
  have hr := B.returns
  have hts := atoms_spec (ws := wsX1_note) B.pre
  have hown : s.vm.findClass RX1 = some m.cls := findClass_of_methodNamed B.named
  have hlocks := B.notSynchronized
  subst hsz
  have hD := hD0.self (sz := s.heap.size)
  generalize hAe : va_A (xW F (sS, sP, sQ, sE, ec, sc, vl, LP, sT)) s.heap.size = A at hD hZ ⊢
  have hA : ∀ q : Nat, s.heap.size ≤ q → A q := fun q h => by rw [← hAe]; exact Or.inr h
  have hS : va_S A s.heap s.heap [] := va_S.rf
  obtain ⟨tk, tm, tr, hztk, httk, hztm, httm, hztr, httr⟩ := id hZ
  refine xHeap (C := fun H => va_P D vwCl (xW F (sS, sP, sQ, sE, ec, sc, vl, LP, sT)) H ∧ va_S A s.heap H []) ⟨hP, hS⟩ (fun H hC => ?_)
  obtain ⟨hP, hS⟩ := hC
  have hl := lv_entry ([.ref F.1, .int p0]) (n := 2) (Nat.le_of_ble_eq_true rfl)
  rw [lg_entry_eq]
  generalize (lg_sl ([.ref F.1, .int p0]) ++ List.replicate (2 - (lg_sl ([.ref F.1, .int p0])).length) Slot.unset).toArray = ls at hl ⊢
  have hl : lv_has ls 2 [(0, .ref F.1), (1, .int p0)] := hl
  refine lv_aload_n hx hb dX1_note_0 rfl (lv_at hl 0 rfl) ?_
  refine va_get (D := D) (ci := 1) (v := .ref F.2.2.2.2.2.2.1) (C := RX1) (T := TX1) (N := 9) hx hb hts (by decide +kernel) hown hK hP 0 rfl rfl 5 (by decide) (hts (.fieldLink RX1 31 "FamilyProbes" "lastEvents" "[I") (by decide +kernel)) (fun _ h9 => h9) rfl dX1_note_1 ?_
  refine lv_aload_n hx hb dX1_note_4 rfl (lv_at hl 0 rfl) ?_
  refine va_get (D := D) (ci := 1) (v := .int ec) (C := RX1) (T := TX1) (N := 9) hx hb hts (by decide +kernel) hown hK hP 0 rfl rfl 6 (by decide) (hts (.fieldLink RX1 112 "FamilyProbes" "eventCount" "I") (by decide +kernel)) (fun _ h9 => h9) rfl dX1_note_5 ?_
  refine lv_bipush (v := 15) hx hb dX1_note_8 (by decide) ?_
  refine lv_iand hx hb dX1_note_10 ?_
  refine lv_iload_n hx hb dX1_note_11 rfl (lv_at hl 1 rfl) ?_
  refine va_iast hx hb hK hP hD hS 4 3 rfl rfl (and_in16 _) dX1_note_12 (fun H locs hP hD hS => ?_)
  have hP : va_P D vwCl (xW F (sS, sP, sQ, (upd sE (ec &&& 15).toNatClampNeg p0), ec, sc, vl, LP, sT)) H := hP
  have hD : va_D A (xW F (sS, sP, sQ, (upd sE (ec &&& 15).toNatClampNeg p0), ec, sc, vl, LP, sT)) := hD
  refine lv_aload_n hx hb dX1_note_13 rfl (lv_at hl 0 rfl) ?_
  refine lv_dup hx hb dX1_note_14 rfl ?_
  refine va_get (D := D) (ci := 1) (v := .int ec) (C := RX1) (T := TX1) (N := 9) hx hb hts (by decide +kernel) hown hK hP 0 rfl rfl 6 (by decide) (hts (.fieldLink RX1 112 "FamilyProbes" "eventCount" "I") (by decide +kernel)) (fun _ h9 => h9) rfl dX1_note_15 ?_
  refine lv_iconst (v := 1) hx hb dX1_note_18 (by decide) ?_
  refine lv_iadd hx hb dX1_note_19 ?_
  refine va_put (D := D) (ci := 1) (v := .int (ec + 1)) (ty := .int) (C := RX1) (T := TX1) (N := 9) hx hb hts (by decide +kernel) tyX1 tyX1_ok nmX1 hown hK hP hD hS 0 rfl rfl 6 (by decide) (hts (.fieldLink RX1 112 "FamilyProbes" "eventCount" "I") (by decide +kernel)) (fun _ h9 => h9) rfl (by decide +kernel) rfl rfl (Nat.le_of_ble_eq_true rfl) dX1_note_20 (fun H locs hP hD hS => ?_)
  have hP : va_P D vwCl (xW F (sS, sP, sQ, (upd sE (ec &&& 15).toNatClampNeg p0), (ec + 1), sc, vl, LP, sT)) H := hP
  have hD : va_D A (xW F (sS, sP, sQ, (upd sE (ec &&& 15).toNatClampNeg p0), (ec + 1), sc, vl, LP, sT)) := hD
  exact W.vret hx hb hr (fun tE ht hW => ⟨⟨(sS, sP, sQ, (upd sE (ec &&& 15).toNatClampNeg p0), (ec + 1), sc, vl, LP, sT), rfl, by first | (simp only [uN, gS, gP, gQ, gE, gec, gsc, gvl, gL, gT, eq_self, ↓reduceIte, Bool.false_eq_true, Bool.not_false, Bool.not_true, Bool.and_true, Bool.and_false, Bool.true_and, Bool.false_and, decide_true, decide_false] <;> first | done | decide) | (simp [uN, gS, gP, gQ, gE, gec, gsc, gvl, gL, gT]; done), by rw [ht]; exact hP, va_K.moved hW.alike hK, hD⟩, hS.F ht⟩) hS.2.2 dX1_note_23
set_option maxHeartbeats 8000000 in
set_option maxRecDepth 100000 in
theorem k_callOf (l : Launch) (D : va_G) (F : XF) (u : XS) (hok : xOk F u) (sz : Nat) (p0 : Nat) (hp0 : p0 ∈ gL u) (p1 : Int32) : Met l yX1_callOf wsX1_callOf ({ frames := 0, cells := 0, slots := 0, locals := 0 }) (xPc D F u sz [.ref F.1, .ref p0, .int p1]) (va_Qi (fun (r : Int32) (v : XS) => (r, v) = sCall u p0 p1) (xB D F (va_A (xW F u) sz)) (va_A (xW F u) sz)) 0 0 (va_A (xW F u) sz) := by
  obtain ⟨sS, sP, sQ, sE, ec, sc, vl, LP, sT⟩ := u
  refine Met.ofW (cc := cX1_callOf) (maxL := 5) (ret := (some .int)) (by decide) rfl ?_
  intro p e s m args below meth c s₁ B hml hv
  obtain ⟨rfl, hsz, hP, hK, hD0, hN, hZ⟩ := hv
  have hx := B.exec
  have hb := B.bytes
  have hr := B.returns
  have hts := atoms_spec (ws := wsX1_callOf) B.pre
  have hown : s.vm.findClass RX1 = some m.cls := findClass_of_methodNamed B.named
  have hlocks := B.notSynchronized
  subst hsz
  have hD := hD0.self (sz := s.heap.size)
  generalize hAe : va_A (xW F (sS, sP, sQ, sE, ec, sc, vl, LP, sT)) s.heap.size = A at hD hZ ⊢
  have hA : ∀ q : Nat, s.heap.size ≤ q → A q := fun q h => by rw [← hAe]; exact Or.inr h
  have hS : va_S A s.heap s.heap [] := va_S.rf
  obtain ⟨tk, tm, tr, hztk, httk, hztm, httm, hztr, httr⟩ := id hZ
  refine xHeap (C := fun H => va_P D vwCl (xW F (sS, sP, sQ, sE, ec, sc, vl, LP, sT)) H ∧ va_S A s.heap H []) ⟨hP, hS⟩ (fun H hC => ?_)
  obtain ⟨hP, hS⟩ := hC
  have hl := lv_entry ([.ref F.1, .ref p0, .int p1]) (n := 5) (Nat.le_of_ble_eq_true rfl)
  rw [lg_entry_eq]
  generalize (lg_sl ([.ref F.1, .ref p0, .int p1]) ++ List.replicate (5 - (lg_sl ([.ref F.1, .ref p0, .int p1])).length) Slot.unset).toArray = ls at hl ⊢
  have hl : lv_has ls 5 [(0, .ref F.1), (1, .ref p0), (2, .int p1)] := hl
  refine lv_aload_n hx hb dX1_callOf_0 rfl (lv_at hl 1 rfl) ?_
  refine lv_astore_n (lv' := [(3, .ref p0), (0, .ref F.1), (1, .ref p0), (2, .int p1)]) hx hb dX1_callOf_1 rfl hl (by decide) rfl (fun ls hl => ?_)
  refine lv_iconst (v := 0) hx hb dX1_callOf_2 (by decide) ?_
  refine lv_istore (lv' := [(4, .int 0), (3, .ref p0), (0, .ref F.1), (1, .ref p0), (2, .int p1)]) hx hb dX1_callOf_3 hl (by decide) rfl (fun ls hl => ?_)
  refine lv_iload hx hb dX1_callOf_5 (lv_at hl 0 rfl) ?_
  refine lv_iconst (v := 3) hx hb dX1_callOf_7 (by decide) ?_
  refine lv_icmp_ge (tgt := 29) hx hb dX1_callOf_8 (by decide) (fun cz => absurd cz (by decide)) (fun _ => ?_)
  refine lv_aload_n hx hb dX1_callOf_11 rfl (lv_at hl 1 rfl) ?_
  obtain ⟨k1, hk1⟩ := va_pl_get (X := xX F (sS, sP, sQ, sE, ec, sc, vl, LP, sT)) (f := thP sT) hp0
  refine va_getN (D := D) (ci := 0) (v := va_rf ((sT p0).2.2.1)) (C := RX0) (T := TX0) (N := 6) hx hb hts (by decide +kernel) hown hK hP k1 hk1 rfl 2 (by decide) (va_Nw.use rfl (hN (.fieldLinkNest RX1 166 "FamilyProbes$Thing" "source" "LFamilyProbes$Thing;" "FamilyProbes") (by decide +kernel))) (fun _ h9 => h9) rfl dX1_callOf_12 ?_
  rcases ho2 : (sT p0).2.2.1 with _ | q3
  · refine lv_ifnullN (tgt := 29) hx hb dX1_callOf_15 (by decide) ?_
    refine lv_aload_n hx hb dX1_callOf_29 rfl (lv_at hl 1 rfl) ?_
    obtain ⟨k4, hk4⟩ := va_pl_get (X := xX F (sS, sP, sQ, sE, ec, sc, vl, LP, sT)) (f := thP sT) hp0
    refine va_getN (D := D) (ci := 0) (v := .int ((sT p0).1)) (C := RX0) (T := TX0) (N := 6) hx hb hts (by decide +kernel) hown hK hP k4 hk4 rfl 0 (by decide) (va_Nw.use rfl (hN (.fieldLinkNest RX1 118 "FamilyProbes$Thing" "kind" "I" "FamilyProbes") (by decide +kernel))) (fun _ h9 => h9) rfl dX1_callOf_30 ?_
    by_cases c5 : (sT p0).1 = 0
    · refine lv_tableIn (off := 55) (tgt := 88) hx hb dX1_callOf_33 (by rw [c5]; decide) (by rw [c5]; decide) (by rw [c5]; rfl) (by decide) ?_
      refine lv_iload_n hx hb dX1_callOf_88 rfl (lv_at hl 4 rfl) ?_
      refine lv_aload_n hx hb dX1_callOf_89 rfl (lv_at hl 1 rfl) ?_
      obtain ⟨k6, hk6⟩ := va_pl_get (X := xX F (sS, sP, sQ, sE, ec, sc, vl, LP, sT)) (f := thP sT) hp0
      refine va_getN (D := D) (ci := 0) (v := .int ((sT p0).2.1)) (C := RX0) (T := TX0) (N := 6) hx hb hts (by decide +kernel) hown hK hP k6 hk6 rfl 1 (by decide) (va_Nw.use rfl (hN (.fieldLinkNest RX1 83 "FamilyProbes$Thing" "n" "I" "FamilyProbes") (by decide +kernel))) (fun _ h9 => h9) rfl dX1_callOf_90 ?_
      refine lv_iadd hx hb dX1_callOf_93 ?_
      exact W.iret (v := (p1 + (sT p0).2.1)) hx hb hr (fun tE ht hW => ⟨⟨(p1 + (sT p0).2.1), (sS, sP, sQ, sE, ec, sc, vl, LP, sT), rfl, by first | (simp only [sCall, uC, chase, fCall, gS, gP, gQ, gE, gec, gsc, gvl, gL, gT, ho2, eq_true c5, eq_self, ↓reduceIte, Bool.false_eq_true, Bool.not_false, Bool.not_true, Bool.and_true, Bool.and_false, Bool.true_and, Bool.false_and, decide_true, decide_false] <;> first | done | decide) | (simp only [sCall, uC, chase, fCall, gS, gP, gQ, gE, gec, gsc, gvl, gL, gT, ho2, c5, eq_self, ↓reduceIte, Bool.false_eq_true, Bool.not_false, Bool.not_true, Bool.and_true, Bool.and_false, Bool.true_and, Bool.false_and, decide_true, decide_false] <;> first | done | decide) | (simp [sCall, uC, chase, fCall, gS, gP, gQ, gE, gec, gsc, gvl, gL, gT, ho2, c5]; done) | (simp [sCall, uC, chase, fCall, gS, gP, gQ, gE, gec, gsc, gvl, gL, gT, ho2, eq_true c5]; done), by rw [ht]; exact hP, va_K.moved hW.alike hK, hD⟩, hS.F ht⟩) hS.2.2 dX1_callOf_94
    by_cases c7 : (sT p0).1 = 1
    · refine lv_tableIn (off := 62) (tgt := 95) hx hb dX1_callOf_33 (by rw [c7]; decide) (by rw [c7]; decide) (by rw [c7]; rfl) (by decide) ?_
      refine lv_iload_n hx hb dX1_callOf_95 rfl (lv_at hl 4 rfl) ?_
      refine lv_aload_n hx hb dX1_callOf_96 rfl (lv_at hl 1 rfl) ?_
      obtain ⟨k8, hk8⟩ := va_pl_get (X := xX F (sS, sP, sQ, sE, ec, sc, vl, LP, sT)) (f := thP sT) hp0
      refine va_getN (D := D) (ci := 0) (v := .int ((sT p0).2.1)) (C := RX0) (T := TX0) (N := 6) hx hb hts (by decide +kernel) hown hK hP k8 hk8 rfl 1 (by decide) (va_Nw.use rfl (hN (.fieldLinkNest RX1 83 "FamilyProbes$Thing" "n" "I" "FamilyProbes") (by decide +kernel))) (fun _ h9 => h9) rfl dX1_callOf_97 ?_
      refine lv_isub hx hb dX1_callOf_100 ?_
      exact W.iret (v := (p1 - (sT p0).2.1)) hx hb hr (fun tE ht hW => ⟨⟨(p1 - (sT p0).2.1), (sS, sP, sQ, sE, ec, sc, vl, LP, sT), rfl, by first | (simp only [sCall, uC, chase, fCall, gS, gP, gQ, gE, gec, gsc, gvl, gL, gT, ho2, c5, eq_true c7, eq_self, ↓reduceIte, Bool.false_eq_true, Bool.not_false, Bool.not_true, Bool.and_true, Bool.and_false, Bool.true_and, Bool.false_and, decide_true, decide_false] <;> first | done | decide) | (simp only [sCall, uC, chase, fCall, gS, gP, gQ, gE, gec, gsc, gvl, gL, gT, ho2, c5, c7, eq_self, ↓reduceIte, Bool.false_eq_true, Bool.not_false, Bool.not_true, Bool.and_true, Bool.and_false, Bool.true_and, Bool.false_and, decide_true, decide_false] <;> first | done | decide) | (simp [sCall, uC, chase, fCall, gS, gP, gQ, gE, gec, gsc, gvl, gL, gT, ho2, c5, c7]; done) | (simp [sCall, uC, chase, fCall, gS, gP, gQ, gE, gec, gsc, gvl, gL, gT, ho2, c5, eq_true c7]; done), by rw [ht]; exact hP, va_K.moved hW.alike hK, hD⟩, hS.F ht⟩) hS.2.2 dX1_callOf_101
    by_cases c9 : (sT p0).1 = 2
    · refine lv_tableIn (off := 69) (tgt := 102) hx hb dX1_callOf_33 (by rw [c9]; decide) (by rw [c9]; decide) (by rw [c9]; rfl) (by decide) ?_
      refine lv_iconst (v := 2) hx hb dX1_callOf_102 (by decide) ?_
      refine lv_iload_n hx hb dX1_callOf_103 rfl (lv_at hl 4 rfl) ?_
      refine lv_aload_n hx hb dX1_callOf_104 rfl (lv_at hl 1 rfl) ?_
      obtain ⟨k10, hk10⟩ := va_pl_get (X := xX F (sS, sP, sQ, sE, ec, sc, vl, LP, sT)) (f := thP sT) hp0
      refine va_getN (D := D) (ci := 0) (v := .int ((sT p0).2.1)) (C := RX0) (T := TX0) (N := 6) hx hb hts (by decide +kernel) hown hK hP k10 hk10 rfl 1 (by decide) (va_Nw.use rfl (hN (.fieldLinkNest RX1 83 "FamilyProbes$Thing" "n" "I" "FamilyProbes") (by decide +kernel))) (fun _ h9 => h9) rfl dX1_callOf_105 ?_
      refine lv_isub hx hb dX1_callOf_108 ?_
      refine lv_imul hx hb dX1_callOf_109 ?_
      exact W.iret (v := (2 * (p1 - (sT p0).2.1))) hx hb hr (fun tE ht hW => ⟨⟨(2 * (p1 - (sT p0).2.1)), (sS, sP, sQ, sE, ec, sc, vl, LP, sT), rfl, by first | (simp only [sCall, uC, chase, fCall, gS, gP, gQ, gE, gec, gsc, gvl, gL, gT, ho2, c5, c7, eq_true c9, eq_self, ↓reduceIte, Bool.false_eq_true, Bool.not_false, Bool.not_true, Bool.and_true, Bool.and_false, Bool.true_and, Bool.false_and, decide_true, decide_false] <;> first | done | decide) | (simp only [sCall, uC, chase, fCall, gS, gP, gQ, gE, gec, gsc, gvl, gL, gT, ho2, c5, c7, c9, eq_self, ↓reduceIte, Bool.false_eq_true, Bool.not_false, Bool.not_true, Bool.and_true, Bool.and_false, Bool.true_and, Bool.false_and, decide_true, decide_false] <;> first | done | decide) | (simp [sCall, uC, chase, fCall, gS, gP, gQ, gE, gec, gsc, gvl, gL, gT, ho2, c5, c7, c9]; done) | (simp [sCall, uC, chase, fCall, gS, gP, gQ, gE, gec, gsc, gvl, gL, gT, ho2, c5, c7, eq_true c9]; done), by rw [ht]; exact hP, va_K.moved hW.alike hK, hD⟩, hS.F ht⟩) hS.2.2 dX1_callOf_110
    by_cases c11 : (sT p0).1 = 3
    · refine lv_tableIn (off := 107) (tgt := 140) hx hb dX1_callOf_33 (by rw [c11]; decide) (by rw [c11]; decide) (by rw [c11]; rfl) (by decide) ?_
      refine lv_iload_n hx hb dX1_callOf_140 rfl (lv_at hl 4 rfl) ?_
      exact W.iret (v := p1) hx hb hr (fun tE ht hW => ⟨⟨p1, (sS, sP, sQ, sE, ec, sc, vl, LP, sT), rfl, by first | (simp only [sCall, uC, chase, fCall, gS, gP, gQ, gE, gec, gsc, gvl, gL, gT, ho2, c5, c7, c9, eq_true c11, eq_self, ↓reduceIte, Bool.false_eq_true, Bool.not_false, Bool.not_true, Bool.and_true, Bool.and_false, Bool.true_and, Bool.false_and, decide_true, decide_false] <;> first | done | decide) | (simp only [sCall, uC, chase, fCall, gS, gP, gQ, gE, gec, gsc, gvl, gL, gT, ho2, c5, c7, c9, c11, eq_self, ↓reduceIte, Bool.false_eq_true, Bool.not_false, Bool.not_true, Bool.and_true, Bool.and_false, Bool.true_and, Bool.false_and, decide_true, decide_false] <;> first | done | decide) | (simp [sCall, uC, chase, fCall, gS, gP, gQ, gE, gec, gsc, gvl, gL, gT, ho2, c5, c7, c9, c11]; done) | (simp [sCall, uC, chase, fCall, gS, gP, gQ, gE, gec, gsc, gvl, gL, gT, ho2, c5, c7, c9, eq_true c11]; done), by rw [ht]; exact hP, va_K.moved hW.alike hK, hD⟩, hS.F ht⟩) hS.2.2 dX1_callOf_141
    by_cases c12 : (sT p0).1 = 4
    · refine lv_tableIn (off := 55) (tgt := 88) hx hb dX1_callOf_33 (by rw [c12]; decide) (by rw [c12]; decide) (by rw [c12]; rfl) (by decide) ?_
      refine lv_iload_n hx hb dX1_callOf_88 rfl (lv_at hl 4 rfl) ?_
      refine lv_aload_n hx hb dX1_callOf_89 rfl (lv_at hl 1 rfl) ?_
      obtain ⟨k13, hk13⟩ := va_pl_get (X := xX F (sS, sP, sQ, sE, ec, sc, vl, LP, sT)) (f := thP sT) hp0
      refine va_getN (D := D) (ci := 0) (v := .int ((sT p0).2.1)) (C := RX0) (T := TX0) (N := 6) hx hb hts (by decide +kernel) hown hK hP k13 hk13 rfl 1 (by decide) (va_Nw.use rfl (hN (.fieldLinkNest RX1 83 "FamilyProbes$Thing" "n" "I" "FamilyProbes") (by decide +kernel))) (fun _ h9 => h9) rfl dX1_callOf_90 ?_
      refine lv_iadd hx hb dX1_callOf_93 ?_
      exact W.iret (v := (p1 + (sT p0).2.1)) hx hb hr (fun tE ht hW => ⟨⟨(p1 + (sT p0).2.1), (sS, sP, sQ, sE, ec, sc, vl, LP, sT), rfl, by first | (simp only [sCall, uC, chase, fCall, gS, gP, gQ, gE, gec, gsc, gvl, gL, gT, ho2, c5, c7, c9, c11, eq_true c12, eq_self, ↓reduceIte, Bool.false_eq_true, Bool.not_false, Bool.not_true, Bool.and_true, Bool.and_false, Bool.true_and, Bool.false_and, decide_true, decide_false] <;> first | done | decide) | (simp only [sCall, uC, chase, fCall, gS, gP, gQ, gE, gec, gsc, gvl, gL, gT, ho2, c5, c7, c9, c11, c12, eq_self, ↓reduceIte, Bool.false_eq_true, Bool.not_false, Bool.not_true, Bool.and_true, Bool.and_false, Bool.true_and, Bool.false_and, decide_true, decide_false] <;> first | done | decide) | (simp [sCall, uC, chase, fCall, gS, gP, gQ, gE, gec, gsc, gvl, gL, gT, ho2, c5, c7, c9, c11, c12]; done) | (simp [sCall, uC, chase, fCall, gS, gP, gQ, gE, gec, gsc, gvl, gL, gT, ho2, c5, c7, c9, c11, eq_true c12]; done), by rw [ht]; exact hP, va_K.moved hW.alike hK, hD⟩, hS.F ht⟩) hS.2.2 dX1_callOf_94
    by_cases c14 : (sT p0).1 = 5
    · refine lv_tableIn (off := 78) (tgt := 111) hx hb dX1_callOf_33 (by rw [c14]; decide) (by rw [c14]; decide) (by rw [c14]; rfl) (by decide) ?_
      refine lv_iload_n hx hb dX1_callOf_111 rfl (lv_at hl 4 rfl) ?_
      refine lv_aload_n hx hb dX1_callOf_112 rfl (lv_at hl 1 rfl) ?_
      obtain ⟨k15, hk15⟩ := va_pl_get (X := xX F (sS, sP, sQ, sE, ec, sc, vl, LP, sT)) (f := thP sT) hp0
      refine va_getN (D := D) (ci := 0) (v := .int ((sT p0).2.1)) (C := RX0) (T := TX0) (N := 6) hx hb hts (by decide +kernel) hown hK hP k15 hk15 rfl 1 (by decide) (va_Nw.use rfl (hN (.fieldLinkNest RX1 83 "FamilyProbes$Thing" "n" "I" "FamilyProbes") (by decide +kernel))) (fun _ h9 => h9) rfl dX1_callOf_113 ?_
      refine lv_imul hx hb dX1_callOf_116 ?_
      exact W.iret (v := (p1 * (sT p0).2.1)) hx hb hr (fun tE ht hW => ⟨⟨(p1 * (sT p0).2.1), (sS, sP, sQ, sE, ec, sc, vl, LP, sT), rfl, by first | (simp only [sCall, uC, chase, fCall, gS, gP, gQ, gE, gec, gsc, gvl, gL, gT, ho2, c5, c7, c9, c11, c12, eq_true c14, eq_self, ↓reduceIte, Bool.false_eq_true, Bool.not_false, Bool.not_true, Bool.and_true, Bool.and_false, Bool.true_and, Bool.false_and, decide_true, decide_false] <;> first | done | decide) | (simp only [sCall, uC, chase, fCall, gS, gP, gQ, gE, gec, gsc, gvl, gL, gT, ho2, c5, c7, c9, c11, c12, c14, eq_self, ↓reduceIte, Bool.false_eq_true, Bool.not_false, Bool.not_true, Bool.and_true, Bool.and_false, Bool.true_and, Bool.false_and, decide_true, decide_false] <;> first | done | decide) | (simp [sCall, uC, chase, fCall, gS, gP, gQ, gE, gec, gsc, gvl, gL, gT, ho2, c5, c7, c9, c11, c12, c14]; done) | (simp [sCall, uC, chase, fCall, gS, gP, gQ, gE, gec, gsc, gvl, gL, gT, ho2, c5, c7, c9, c11, c12, eq_true c14]; done), by rw [ht]; exact hP, va_K.moved hW.alike hK, hD⟩, hS.F ht⟩) hS.2.2 dX1_callOf_117
    by_cases c16 : (sT p0).1 = 6
    · refine lv_tableIn (off := 85) (tgt := 118) hx hb dX1_callOf_33 (by rw [c16]; decide) (by rw [c16]; decide) (by rw [c16]; rfl) (by decide) ?_
      refine lv_aload_n hx hb dX1_callOf_118 rfl (lv_at hl 2 rfl) ?_
      refine lv_dup hx hb dX1_callOf_119 rfl ?_
      refine va_get (D := D) (ci := 1) (v := .int sc) (C := RX1) (T := TX1) (N := 9) hx hb hts (by decide +kernel) hown hK hP 0 rfl rfl 7 (by decide) (hts (.fieldLink RX1 169 "FamilyProbes" "shadowCalls" "I") (by decide +kernel)) (fun _ h9 => h9) rfl dX1_callOf_120 ?_
      refine lv_iconst (v := 1) hx hb dX1_callOf_123 (by decide) ?_
      refine lv_iadd hx hb dX1_callOf_124 ?_
      refine va_put (D := D) (ci := 1) (v := .int (sc + 1)) (ty := .int) (C := RX1) (T := TX1) (N := 9) hx hb hts (by decide +kernel) tyX1 tyX1_ok nmX1 hown hK hP hD hS 0 rfl rfl 7 (by decide) (hts (.fieldLink RX1 169 "FamilyProbes" "shadowCalls" "I") (by decide +kernel)) (fun _ h9 => h9) rfl (by decide +kernel) rfl rfl (Nat.le_of_ble_eq_true rfl) dX1_callOf_125 (fun H locs hP hD hS => ?_)
      have hP : va_P D vwCl (xW F (sS, sP, sQ, sE, ec, (sc + 1), vl, LP, sT)) H := hP
      have hD : va_D A (xW F (sS, sP, sQ, sE, ec, (sc + 1), vl, LP, sT)) := hD
      refine lv_iload_n hx hb dX1_callOf_128 rfl (lv_at hl 4 rfl) ?_
      refine lv_aload_n hx hb dX1_callOf_129 rfl (lv_at hl 1 rfl) ?_
      obtain ⟨k17, hk17⟩ := va_pl_get (X := xX F (sS, sP, sQ, sE, ec, (sc + 1), vl, LP, sT)) (f := thP sT) hp0
      refine va_getN (D := D) (ci := 0) (v := .int ((sT p0).2.1)) (C := RX0) (T := TX0) (N := 6) hx hb hts (by decide +kernel) hown hK hP k17 hk17 rfl 1 (by decide) (va_Nw.use rfl (hN (.fieldLinkNest RX1 83 "FamilyProbes$Thing" "n" "I" "FamilyProbes") (by decide +kernel))) (fun _ h9 => h9) rfl dX1_callOf_130 ?_
      refine lv_iadd hx hb dX1_callOf_133 ?_
      refine lv_aload_n hx hb dX1_callOf_134 rfl (lv_at hl 2 rfl) ?_
      refine va_get (D := D) (ci := 1) (v := .int (sc + 1)) (C := RX1) (T := TX1) (N := 9) hx hb hts (by decide +kernel) hown hK hP 0 rfl rfl 7 (by decide) (hts (.fieldLink RX1 169 "FamilyProbes" "shadowCalls" "I") (by decide +kernel)) (fun _ h9 => h9) rfl dX1_callOf_135 ?_
      refine lv_iadd hx hb dX1_callOf_138 ?_
      exact W.iret (v := ((p1 + (sT p0).2.1) + (sc + 1))) hx hb hr (fun tE ht hW => ⟨⟨((p1 + (sT p0).2.1) + (sc + 1)), (sS, sP, sQ, sE, ec, (sc + 1), vl, LP, sT), rfl, by first | (simp only [sCall, uC, chase, fCall, gS, gP, gQ, gE, gec, gsc, gvl, gL, gT, ho2, c5, c7, c9, c11, c12, c14, eq_true c16, eq_self, ↓reduceIte, Bool.false_eq_true, Bool.not_false, Bool.not_true, Bool.and_true, Bool.and_false, Bool.true_and, Bool.false_and, decide_true, decide_false] <;> first | done | decide) | (simp only [sCall, uC, chase, fCall, gS, gP, gQ, gE, gec, gsc, gvl, gL, gT, ho2, c5, c7, c9, c11, c12, c14, c16, eq_self, ↓reduceIte, Bool.false_eq_true, Bool.not_false, Bool.not_true, Bool.and_true, Bool.and_false, Bool.true_and, Bool.false_and, decide_true, decide_false] <;> first | done | decide) | (simp [sCall, uC, chase, fCall, gS, gP, gQ, gE, gec, gsc, gvl, gL, gT, ho2, c5, c7, c9, c11, c12, c14, c16]; done) | (simp [sCall, uC, chase, fCall, gS, gP, gQ, gE, gec, gsc, gvl, gL, gT, ho2, c5, c7, c9, c11, c12, c14, eq_true c16]; done), by rw [ht]; exact hP, va_K.moved hW.alike hK, hD⟩, hS.F ht⟩) hS.2.2 dX1_callOf_139
    by_cases c18 : (sT p0).1 = 7
    · refine lv_tableIn (off := 78) (tgt := 111) hx hb dX1_callOf_33 (by rw [c18]; decide) (by rw [c18]; decide) (by rw [c18]; rfl) (by decide) ?_
      refine lv_iload_n hx hb dX1_callOf_111 rfl (lv_at hl 4 rfl) ?_
      refine lv_aload_n hx hb dX1_callOf_112 rfl (lv_at hl 1 rfl) ?_
      obtain ⟨k19, hk19⟩ := va_pl_get (X := xX F (sS, sP, sQ, sE, ec, sc, vl, LP, sT)) (f := thP sT) hp0
      refine va_getN (D := D) (ci := 0) (v := .int ((sT p0).2.1)) (C := RX0) (T := TX0) (N := 6) hx hb hts (by decide +kernel) hown hK hP k19 hk19 rfl 1 (by decide) (va_Nw.use rfl (hN (.fieldLinkNest RX1 83 "FamilyProbes$Thing" "n" "I" "FamilyProbes") (by decide +kernel))) (fun _ h9 => h9) rfl dX1_callOf_113 ?_
      refine lv_imul hx hb dX1_callOf_116 ?_
      exact W.iret (v := (p1 * (sT p0).2.1)) hx hb hr (fun tE ht hW => ⟨⟨(p1 * (sT p0).2.1), (sS, sP, sQ, sE, ec, sc, vl, LP, sT), rfl, by first | (simp only [sCall, uC, chase, fCall, gS, gP, gQ, gE, gec, gsc, gvl, gL, gT, ho2, c5, c7, c9, c11, c12, c14, c16, eq_true c18, eq_self, ↓reduceIte, Bool.false_eq_true, Bool.not_false, Bool.not_true, Bool.and_true, Bool.and_false, Bool.true_and, Bool.false_and, decide_true, decide_false] <;> first | done | decide) | (simp only [sCall, uC, chase, fCall, gS, gP, gQ, gE, gec, gsc, gvl, gL, gT, ho2, c5, c7, c9, c11, c12, c14, c16, c18, eq_self, ↓reduceIte, Bool.false_eq_true, Bool.not_false, Bool.not_true, Bool.and_true, Bool.and_false, Bool.true_and, Bool.false_and, decide_true, decide_false] <;> first | done | decide) | (simp [sCall, uC, chase, fCall, gS, gP, gQ, gE, gec, gsc, gvl, gL, gT, ho2, c5, c7, c9, c11, c12, c14, c16, c18]; done) | (simp [sCall, uC, chase, fCall, gS, gP, gQ, gE, gec, gsc, gvl, gL, gT, ho2, c5, c7, c9, c11, c12, c14, c16, eq_true c18]; done), by rw [ht]; exact hP, va_K.moved hW.alike hK, hD⟩, hS.F ht⟩) hS.2.2 dX1_callOf_117
    by_cases c20 : (sT p0).1 = 8
    · refine lv_tableIn (off := 107) (tgt := 140) hx hb dX1_callOf_33 (by rw [c20]; decide) (by rw [c20]; decide) (by rw [c20]; rfl) (by decide) ?_
      refine lv_iload_n hx hb dX1_callOf_140 rfl (lv_at hl 4 rfl) ?_
      exact W.iret (v := p1) hx hb hr (fun tE ht hW => ⟨⟨p1, (sS, sP, sQ, sE, ec, sc, vl, LP, sT), rfl, by first | (simp only [sCall, uC, chase, fCall, gS, gP, gQ, gE, gec, gsc, gvl, gL, gT, ho2, c5, c7, c9, c11, c12, c14, c16, c18, eq_true c20, eq_self, ↓reduceIte, Bool.false_eq_true, Bool.not_false, Bool.not_true, Bool.and_true, Bool.and_false, Bool.true_and, Bool.false_and, decide_true, decide_false] <;> first | done | decide) | (simp only [sCall, uC, chase, fCall, gS, gP, gQ, gE, gec, gsc, gvl, gL, gT, ho2, c5, c7, c9, c11, c12, c14, c16, c18, c20, eq_self, ↓reduceIte, Bool.false_eq_true, Bool.not_false, Bool.not_true, Bool.and_true, Bool.and_false, Bool.true_and, Bool.false_and, decide_true, decide_false] <;> first | done | decide) | (simp [sCall, uC, chase, fCall, gS, gP, gQ, gE, gec, gsc, gvl, gL, gT, ho2, c5, c7, c9, c11, c12, c14, c16, c18, c20]; done) | (simp [sCall, uC, chase, fCall, gS, gP, gQ, gE, gec, gsc, gvl, gL, gT, ho2, c5, c7, c9, c11, c12, c14, c16, c18, eq_true c20]; done), by rw [ht]; exact hP, va_K.moved hW.alike hK, hD⟩, hS.F ht⟩) hS.2.2 dX1_callOf_141
    by_cases c21 : (sT p0).1 = 9
    · refine lv_tableIn (off := 62) (tgt := 95) hx hb dX1_callOf_33 (by rw [c21]; decide) (by rw [c21]; decide) (by rw [c21]; rfl) (by decide) ?_
      refine lv_iload_n hx hb dX1_callOf_95 rfl (lv_at hl 4 rfl) ?_
      refine lv_aload_n hx hb dX1_callOf_96 rfl (lv_at hl 1 rfl) ?_
      obtain ⟨k22, hk22⟩ := va_pl_get (X := xX F (sS, sP, sQ, sE, ec, sc, vl, LP, sT)) (f := thP sT) hp0
      refine va_getN (D := D) (ci := 0) (v := .int ((sT p0).2.1)) (C := RX0) (T := TX0) (N := 6) hx hb hts (by decide +kernel) hown hK hP k22 hk22 rfl 1 (by decide) (va_Nw.use rfl (hN (.fieldLinkNest RX1 83 "FamilyProbes$Thing" "n" "I" "FamilyProbes") (by decide +kernel))) (fun _ h9 => h9) rfl dX1_callOf_97 ?_
      refine lv_isub hx hb dX1_callOf_100 ?_
      exact W.iret (v := (p1 - (sT p0).2.1)) hx hb hr (fun tE ht hW => ⟨⟨(p1 - (sT p0).2.1), (sS, sP, sQ, sE, ec, sc, vl, LP, sT), rfl, by first | (simp only [sCall, uC, chase, fCall, gS, gP, gQ, gE, gec, gsc, gvl, gL, gT, ho2, c5, c7, c9, c11, c12, c14, c16, c18, c20, eq_true c21, eq_self, ↓reduceIte, Bool.false_eq_true, Bool.not_false, Bool.not_true, Bool.and_true, Bool.and_false, Bool.true_and, Bool.false_and, decide_true, decide_false] <;> first | done | decide) | (simp only [sCall, uC, chase, fCall, gS, gP, gQ, gE, gec, gsc, gvl, gL, gT, ho2, c5, c7, c9, c11, c12, c14, c16, c18, c20, c21, eq_self, ↓reduceIte, Bool.false_eq_true, Bool.not_false, Bool.not_true, Bool.and_true, Bool.and_false, Bool.true_and, Bool.false_and, decide_true, decide_false] <;> first | done | decide) | (simp [sCall, uC, chase, fCall, gS, gP, gQ, gE, gec, gsc, gvl, gL, gT, ho2, c5, c7, c9, c11, c12, c14, c16, c18, c20, c21]; done) | (simp [sCall, uC, chase, fCall, gS, gP, gQ, gE, gec, gsc, gvl, gL, gT, ho2, c5, c7, c9, c11, c12, c14, c16, c18, c20, eq_true c21]; done), by rw [ht]; exact hP, va_K.moved hW.alike hK, hD⟩, hS.F ht⟩) hS.2.2 dX1_callOf_101
    refine lv_tableOut (tgt := 140) hx hb dX1_callOf_33 (by have z0 := lv_neT (k := 0) (a := 0) c5 (by decide); have z1 := lv_neT (k := 1) (a := 1) c7 (by decide); have z2 := lv_neT (k := 2) (a := 2) c9 (by decide); have z3 := lv_neT (k := 3) (a := 3) c11 (by decide); have z4 := lv_neT (k := 4) (a := 4) c12 (by decide); have z5 := lv_neT (k := 5) (a := 5) c14 (by decide); have z6 := lv_neT (k := 6) (a := 6) c16 (by decide); have z7 := lv_neT (k := 7) (a := 7) c18 (by decide); have z8 := lv_neT (k := 8) (a := 8) c20 (by decide); have z9 := lv_neT (k := 9) (a := 9) c21 (by decide); omega) (by decide) ?_
    refine lv_iload_n hx hb dX1_callOf_140 rfl (lv_at hl 4 rfl) ?_
    exact W.iret (v := p1) hx hb hr (fun tE ht hW => ⟨⟨p1, (sS, sP, sQ, sE, ec, sc, vl, LP, sT), rfl, by first | (simp only [sCall, uC, chase, fCall, gS, gP, gQ, gE, gec, gsc, gvl, gL, gT, ho2, c5, c7, c9, c11, c12, c14, c16, c18, c20, c21, eq_self, ↓reduceIte, Bool.false_eq_true, Bool.not_false, Bool.not_true, Bool.and_true, Bool.and_false, Bool.true_and, Bool.false_and, decide_true, decide_false] <;> first | done | decide) | (simp [sCall, uC, chase, fCall, gS, gP, gQ, gE, gec, gsc, gvl, gL, gT, ho2, c5, c7, c9, c11, c12, c14, c16, c18, c20, c21]; done), by rw [ht]; exact hP, va_K.moved hW.alike hK, hD⟩, hS.F ht⟩) hS.2.2 dX1_callOf_141
  · refine lv_ifnull hx hb dX1_callOf_15 ?_
    refine lv_aload_n hx hb dX1_callOf_18 rfl (lv_at hl 1 rfl) ?_
    obtain ⟨k23, hk23⟩ := va_pl_get (X := xX F (sS, sP, sQ, sE, ec, sc, vl, LP, sT)) (f := thP sT) hp0
    refine va_getN (D := D) (ci := 0) (v := .ref q3) (C := RX0) (T := TX0) (N := 6) hx hb hts (by decide +kernel) hown hK hP k23 hk23 rfl 2 (by decide) (va_Nw.use rfl (hN (.fieldLinkNest RX1 166 "FamilyProbes$Thing" "source" "LFamilyProbes$Thing;" "FamilyProbes") (by decide +kernel))) (fun _ h9 => h9) (by show some (va_rf ((sT p0).2.2.1)) = some (.ref q3); rw [ho2]; rfl) dX1_callOf_19 ?_
    refine lv_astore_n (lv' := [(3, .ref q3), (4, .int 0), (0, .ref F.1), (1, .ref p0), (2, .int p1)]) hx hb dX1_callOf_22 rfl hl (by decide) rfl (fun ls hl => ?_)
    refine lv_iinc (v := 1) (lv' := [(4, .int 1), (3, .ref q3), (0, .ref F.1), (1, .ref p0), (2, .int p1)]) hx hb dX1_callOf_23 hl (k := 1) rfl (by decide) (by decide) rfl (fun ls hl => ?_)
    refine lv_goto (tgt := 5) hx hb dX1_callOf_26 (by decide) ?_
    refine lv_iload hx hb dX1_callOf_5 (lv_at hl 0 rfl) ?_
    refine lv_iconst (v := 3) hx hb dX1_callOf_7 (by decide) ?_
    refine lv_icmp_ge (tgt := 29) hx hb dX1_callOf_8 (by decide) (fun cz => absurd cz (by decide)) (fun _ => ?_)
    refine lv_aload_n hx hb dX1_callOf_11 rfl (lv_at hl 1 rfl) ?_
    obtain ⟨k24, hk24⟩ := va_pl_get (X := xX F (sS, sP, sQ, sE, ec, sc, vl, LP, sT)) (f := thP sT) (hok.2.2.2.1 p0 hp0 _ ho2)
    refine va_getN (D := D) (ci := 0) (v := va_rf ((sT q3).2.2.1)) (C := RX0) (T := TX0) (N := 6) hx hb hts (by decide +kernel) hown hK hP k24 hk24 rfl 2 (by decide) (va_Nw.use rfl (hN (.fieldLinkNest RX1 166 "FamilyProbes$Thing" "source" "LFamilyProbes$Thing;" "FamilyProbes") (by decide +kernel))) (fun _ h9 => h9) rfl dX1_callOf_12 ?_
    rcases ho25 : (sT q3).2.2.1 with _ | q26
    · refine lv_ifnullN (tgt := 29) hx hb dX1_callOf_15 (by decide) ?_
      refine lv_aload_n hx hb dX1_callOf_29 rfl (lv_at hl 1 rfl) ?_
      obtain ⟨k27, hk27⟩ := va_pl_get (X := xX F (sS, sP, sQ, sE, ec, sc, vl, LP, sT)) (f := thP sT) (hok.2.2.2.1 p0 hp0 _ ho2)
      refine va_getN (D := D) (ci := 0) (v := .int ((sT q3).1)) (C := RX0) (T := TX0) (N := 6) hx hb hts (by decide +kernel) hown hK hP k27 hk27 rfl 0 (by decide) (va_Nw.use rfl (hN (.fieldLinkNest RX1 118 "FamilyProbes$Thing" "kind" "I" "FamilyProbes") (by decide +kernel))) (fun _ h9 => h9) rfl dX1_callOf_30 ?_
      by_cases c28 : (sT q3).1 = 0
      · refine lv_tableIn (off := 55) (tgt := 88) hx hb dX1_callOf_33 (by rw [c28]; decide) (by rw [c28]; decide) (by rw [c28]; rfl) (by decide) ?_
        refine lv_iload_n hx hb dX1_callOf_88 rfl (lv_at hl 4 rfl) ?_
        refine lv_aload_n hx hb dX1_callOf_89 rfl (lv_at hl 1 rfl) ?_
        obtain ⟨k29, hk29⟩ := va_pl_get (X := xX F (sS, sP, sQ, sE, ec, sc, vl, LP, sT)) (f := thP sT) (hok.2.2.2.1 p0 hp0 _ ho2)
        refine va_getN (D := D) (ci := 0) (v := .int ((sT q3).2.1)) (C := RX0) (T := TX0) (N := 6) hx hb hts (by decide +kernel) hown hK hP k29 hk29 rfl 1 (by decide) (va_Nw.use rfl (hN (.fieldLinkNest RX1 83 "FamilyProbes$Thing" "n" "I" "FamilyProbes") (by decide +kernel))) (fun _ h9 => h9) rfl dX1_callOf_90 ?_
        refine lv_iadd hx hb dX1_callOf_93 ?_
        exact W.iret (v := (p1 + (sT q3).2.1)) hx hb hr (fun tE ht hW => ⟨⟨(p1 + (sT q3).2.1), (sS, sP, sQ, sE, ec, sc, vl, LP, sT), rfl, by first | (simp only [sCall, uC, chase, fCall, gS, gP, gQ, gE, gec, gsc, gvl, gL, gT, ho2, ho25, eq_true c28, eq_self, ↓reduceIte, Bool.false_eq_true, Bool.not_false, Bool.not_true, Bool.and_true, Bool.and_false, Bool.true_and, Bool.false_and, decide_true, decide_false] <;> first | done | decide) | (simp only [sCall, uC, chase, fCall, gS, gP, gQ, gE, gec, gsc, gvl, gL, gT, ho2, ho25, c28, eq_self, ↓reduceIte, Bool.false_eq_true, Bool.not_false, Bool.not_true, Bool.and_true, Bool.and_false, Bool.true_and, Bool.false_and, decide_true, decide_false] <;> first | done | decide) | (simp [sCall, uC, chase, fCall, gS, gP, gQ, gE, gec, gsc, gvl, gL, gT, ho2, ho25, c28]; done) | (simp [sCall, uC, chase, fCall, gS, gP, gQ, gE, gec, gsc, gvl, gL, gT, ho2, ho25, eq_true c28]; done), by rw [ht]; exact hP, va_K.moved hW.alike hK, hD⟩, hS.F ht⟩) hS.2.2 dX1_callOf_94
      by_cases c30 : (sT q3).1 = 1
      · refine lv_tableIn (off := 62) (tgt := 95) hx hb dX1_callOf_33 (by rw [c30]; decide) (by rw [c30]; decide) (by rw [c30]; rfl) (by decide) ?_
        refine lv_iload_n hx hb dX1_callOf_95 rfl (lv_at hl 4 rfl) ?_
        refine lv_aload_n hx hb dX1_callOf_96 rfl (lv_at hl 1 rfl) ?_
        obtain ⟨k31, hk31⟩ := va_pl_get (X := xX F (sS, sP, sQ, sE, ec, sc, vl, LP, sT)) (f := thP sT) (hok.2.2.2.1 p0 hp0 _ ho2)
        refine va_getN (D := D) (ci := 0) (v := .int ((sT q3).2.1)) (C := RX0) (T := TX0) (N := 6) hx hb hts (by decide +kernel) hown hK hP k31 hk31 rfl 1 (by decide) (va_Nw.use rfl (hN (.fieldLinkNest RX1 83 "FamilyProbes$Thing" "n" "I" "FamilyProbes") (by decide +kernel))) (fun _ h9 => h9) rfl dX1_callOf_97 ?_
        refine lv_isub hx hb dX1_callOf_100 ?_
        exact W.iret (v := (p1 - (sT q3).2.1)) hx hb hr (fun tE ht hW => ⟨⟨(p1 - (sT q3).2.1), (sS, sP, sQ, sE, ec, sc, vl, LP, sT), rfl, by first | (simp only [sCall, uC, chase, fCall, gS, gP, gQ, gE, gec, gsc, gvl, gL, gT, ho2, ho25, c28, eq_true c30, eq_self, ↓reduceIte, Bool.false_eq_true, Bool.not_false, Bool.not_true, Bool.and_true, Bool.and_false, Bool.true_and, Bool.false_and, decide_true, decide_false] <;> first | done | decide) | (simp only [sCall, uC, chase, fCall, gS, gP, gQ, gE, gec, gsc, gvl, gL, gT, ho2, ho25, c28, c30, eq_self, ↓reduceIte, Bool.false_eq_true, Bool.not_false, Bool.not_true, Bool.and_true, Bool.and_false, Bool.true_and, Bool.false_and, decide_true, decide_false] <;> first | done | decide) | (simp [sCall, uC, chase, fCall, gS, gP, gQ, gE, gec, gsc, gvl, gL, gT, ho2, ho25, c28, c30]; done) | (simp [sCall, uC, chase, fCall, gS, gP, gQ, gE, gec, gsc, gvl, gL, gT, ho2, ho25, c28, eq_true c30]; done), by rw [ht]; exact hP, va_K.moved hW.alike hK, hD⟩, hS.F ht⟩) hS.2.2 dX1_callOf_101
      by_cases c32 : (sT q3).1 = 2
      · refine lv_tableIn (off := 69) (tgt := 102) hx hb dX1_callOf_33 (by rw [c32]; decide) (by rw [c32]; decide) (by rw [c32]; rfl) (by decide) ?_
        refine lv_iconst (v := 2) hx hb dX1_callOf_102 (by decide) ?_
        refine lv_iload_n hx hb dX1_callOf_103 rfl (lv_at hl 4 rfl) ?_
        refine lv_aload_n hx hb dX1_callOf_104 rfl (lv_at hl 1 rfl) ?_
        obtain ⟨k33, hk33⟩ := va_pl_get (X := xX F (sS, sP, sQ, sE, ec, sc, vl, LP, sT)) (f := thP sT) (hok.2.2.2.1 p0 hp0 _ ho2)
        refine va_getN (D := D) (ci := 0) (v := .int ((sT q3).2.1)) (C := RX0) (T := TX0) (N := 6) hx hb hts (by decide +kernel) hown hK hP k33 hk33 rfl 1 (by decide) (va_Nw.use rfl (hN (.fieldLinkNest RX1 83 "FamilyProbes$Thing" "n" "I" "FamilyProbes") (by decide +kernel))) (fun _ h9 => h9) rfl dX1_callOf_105 ?_
        refine lv_isub hx hb dX1_callOf_108 ?_
        refine lv_imul hx hb dX1_callOf_109 ?_
        exact W.iret (v := (2 * (p1 - (sT q3).2.1))) hx hb hr (fun tE ht hW => ⟨⟨(2 * (p1 - (sT q3).2.1)), (sS, sP, sQ, sE, ec, sc, vl, LP, sT), rfl, by first | (simp only [sCall, uC, chase, fCall, gS, gP, gQ, gE, gec, gsc, gvl, gL, gT, ho2, ho25, c28, c30, eq_true c32, eq_self, ↓reduceIte, Bool.false_eq_true, Bool.not_false, Bool.not_true, Bool.and_true, Bool.and_false, Bool.true_and, Bool.false_and, decide_true, decide_false] <;> first | done | decide) | (simp only [sCall, uC, chase, fCall, gS, gP, gQ, gE, gec, gsc, gvl, gL, gT, ho2, ho25, c28, c30, c32, eq_self, ↓reduceIte, Bool.false_eq_true, Bool.not_false, Bool.not_true, Bool.and_true, Bool.and_false, Bool.true_and, Bool.false_and, decide_true, decide_false] <;> first | done | decide) | (simp [sCall, uC, chase, fCall, gS, gP, gQ, gE, gec, gsc, gvl, gL, gT, ho2, ho25, c28, c30, c32]; done) | (simp [sCall, uC, chase, fCall, gS, gP, gQ, gE, gec, gsc, gvl, gL, gT, ho2, ho25, c28, c30, eq_true c32]; done), by rw [ht]; exact hP, va_K.moved hW.alike hK, hD⟩, hS.F ht⟩) hS.2.2 dX1_callOf_110
      by_cases c34 : (sT q3).1 = 3
      · refine lv_tableIn (off := 107) (tgt := 140) hx hb dX1_callOf_33 (by rw [c34]; decide) (by rw [c34]; decide) (by rw [c34]; rfl) (by decide) ?_
        refine lv_iload_n hx hb dX1_callOf_140 rfl (lv_at hl 4 rfl) ?_
        exact W.iret (v := p1) hx hb hr (fun tE ht hW => ⟨⟨p1, (sS, sP, sQ, sE, ec, sc, vl, LP, sT), rfl, by first | (simp only [sCall, uC, chase, fCall, gS, gP, gQ, gE, gec, gsc, gvl, gL, gT, ho2, ho25, c28, c30, c32, eq_true c34, eq_self, ↓reduceIte, Bool.false_eq_true, Bool.not_false, Bool.not_true, Bool.and_true, Bool.and_false, Bool.true_and, Bool.false_and, decide_true, decide_false] <;> first | done | decide) | (simp only [sCall, uC, chase, fCall, gS, gP, gQ, gE, gec, gsc, gvl, gL, gT, ho2, ho25, c28, c30, c32, c34, eq_self, ↓reduceIte, Bool.false_eq_true, Bool.not_false, Bool.not_true, Bool.and_true, Bool.and_false, Bool.true_and, Bool.false_and, decide_true, decide_false] <;> first | done | decide) | (simp [sCall, uC, chase, fCall, gS, gP, gQ, gE, gec, gsc, gvl, gL, gT, ho2, ho25, c28, c30, c32, c34]; done) | (simp [sCall, uC, chase, fCall, gS, gP, gQ, gE, gec, gsc, gvl, gL, gT, ho2, ho25, c28, c30, c32, eq_true c34]; done), by rw [ht]; exact hP, va_K.moved hW.alike hK, hD⟩, hS.F ht⟩) hS.2.2 dX1_callOf_141
      by_cases c35 : (sT q3).1 = 4
      · refine lv_tableIn (off := 55) (tgt := 88) hx hb dX1_callOf_33 (by rw [c35]; decide) (by rw [c35]; decide) (by rw [c35]; rfl) (by decide) ?_
        refine lv_iload_n hx hb dX1_callOf_88 rfl (lv_at hl 4 rfl) ?_
        refine lv_aload_n hx hb dX1_callOf_89 rfl (lv_at hl 1 rfl) ?_
        obtain ⟨k36, hk36⟩ := va_pl_get (X := xX F (sS, sP, sQ, sE, ec, sc, vl, LP, sT)) (f := thP sT) (hok.2.2.2.1 p0 hp0 _ ho2)
        refine va_getN (D := D) (ci := 0) (v := .int ((sT q3).2.1)) (C := RX0) (T := TX0) (N := 6) hx hb hts (by decide +kernel) hown hK hP k36 hk36 rfl 1 (by decide) (va_Nw.use rfl (hN (.fieldLinkNest RX1 83 "FamilyProbes$Thing" "n" "I" "FamilyProbes") (by decide +kernel))) (fun _ h9 => h9) rfl dX1_callOf_90 ?_
        refine lv_iadd hx hb dX1_callOf_93 ?_
        exact W.iret (v := (p1 + (sT q3).2.1)) hx hb hr (fun tE ht hW => ⟨⟨(p1 + (sT q3).2.1), (sS, sP, sQ, sE, ec, sc, vl, LP, sT), rfl, by first | (simp only [sCall, uC, chase, fCall, gS, gP, gQ, gE, gec, gsc, gvl, gL, gT, ho2, ho25, c28, c30, c32, c34, eq_true c35, eq_self, ↓reduceIte, Bool.false_eq_true, Bool.not_false, Bool.not_true, Bool.and_true, Bool.and_false, Bool.true_and, Bool.false_and, decide_true, decide_false] <;> first | done | decide) | (simp only [sCall, uC, chase, fCall, gS, gP, gQ, gE, gec, gsc, gvl, gL, gT, ho2, ho25, c28, c30, c32, c34, c35, eq_self, ↓reduceIte, Bool.false_eq_true, Bool.not_false, Bool.not_true, Bool.and_true, Bool.and_false, Bool.true_and, Bool.false_and, decide_true, decide_false] <;> first | done | decide) | (simp [sCall, uC, chase, fCall, gS, gP, gQ, gE, gec, gsc, gvl, gL, gT, ho2, ho25, c28, c30, c32, c34, c35]; done) | (simp [sCall, uC, chase, fCall, gS, gP, gQ, gE, gec, gsc, gvl, gL, gT, ho2, ho25, c28, c30, c32, c34, eq_true c35]; done), by rw [ht]; exact hP, va_K.moved hW.alike hK, hD⟩, hS.F ht⟩) hS.2.2 dX1_callOf_94
      by_cases c37 : (sT q3).1 = 5
      · refine lv_tableIn (off := 78) (tgt := 111) hx hb dX1_callOf_33 (by rw [c37]; decide) (by rw [c37]; decide) (by rw [c37]; rfl) (by decide) ?_
        refine lv_iload_n hx hb dX1_callOf_111 rfl (lv_at hl 4 rfl) ?_
        refine lv_aload_n hx hb dX1_callOf_112 rfl (lv_at hl 1 rfl) ?_
        obtain ⟨k38, hk38⟩ := va_pl_get (X := xX F (sS, sP, sQ, sE, ec, sc, vl, LP, sT)) (f := thP sT) (hok.2.2.2.1 p0 hp0 _ ho2)
        refine va_getN (D := D) (ci := 0) (v := .int ((sT q3).2.1)) (C := RX0) (T := TX0) (N := 6) hx hb hts (by decide +kernel) hown hK hP k38 hk38 rfl 1 (by decide) (va_Nw.use rfl (hN (.fieldLinkNest RX1 83 "FamilyProbes$Thing" "n" "I" "FamilyProbes") (by decide +kernel))) (fun _ h9 => h9) rfl dX1_callOf_113 ?_
        refine lv_imul hx hb dX1_callOf_116 ?_
        exact W.iret (v := (p1 * (sT q3).2.1)) hx hb hr (fun tE ht hW => ⟨⟨(p1 * (sT q3).2.1), (sS, sP, sQ, sE, ec, sc, vl, LP, sT), rfl, by first | (simp only [sCall, uC, chase, fCall, gS, gP, gQ, gE, gec, gsc, gvl, gL, gT, ho2, ho25, c28, c30, c32, c34, c35, eq_true c37, eq_self, ↓reduceIte, Bool.false_eq_true, Bool.not_false, Bool.not_true, Bool.and_true, Bool.and_false, Bool.true_and, Bool.false_and, decide_true, decide_false] <;> first | done | decide) | (simp only [sCall, uC, chase, fCall, gS, gP, gQ, gE, gec, gsc, gvl, gL, gT, ho2, ho25, c28, c30, c32, c34, c35, c37, eq_self, ↓reduceIte, Bool.false_eq_true, Bool.not_false, Bool.not_true, Bool.and_true, Bool.and_false, Bool.true_and, Bool.false_and, decide_true, decide_false] <;> first | done | decide) | (simp [sCall, uC, chase, fCall, gS, gP, gQ, gE, gec, gsc, gvl, gL, gT, ho2, ho25, c28, c30, c32, c34, c35, c37]; done) | (simp [sCall, uC, chase, fCall, gS, gP, gQ, gE, gec, gsc, gvl, gL, gT, ho2, ho25, c28, c30, c32, c34, c35, eq_true c37]; done), by rw [ht]; exact hP, va_K.moved hW.alike hK, hD⟩, hS.F ht⟩) hS.2.2 dX1_callOf_117
      by_cases c39 : (sT q3).1 = 6
      · refine lv_tableIn (off := 85) (tgt := 118) hx hb dX1_callOf_33 (by rw [c39]; decide) (by rw [c39]; decide) (by rw [c39]; rfl) (by decide) ?_
        refine lv_aload_n hx hb dX1_callOf_118 rfl (lv_at hl 2 rfl) ?_
        refine lv_dup hx hb dX1_callOf_119 rfl ?_
        refine va_get (D := D) (ci := 1) (v := .int sc) (C := RX1) (T := TX1) (N := 9) hx hb hts (by decide +kernel) hown hK hP 0 rfl rfl 7 (by decide) (hts (.fieldLink RX1 169 "FamilyProbes" "shadowCalls" "I") (by decide +kernel)) (fun _ h9 => h9) rfl dX1_callOf_120 ?_
        refine lv_iconst (v := 1) hx hb dX1_callOf_123 (by decide) ?_
        refine lv_iadd hx hb dX1_callOf_124 ?_
        refine va_put (D := D) (ci := 1) (v := .int (sc + 1)) (ty := .int) (C := RX1) (T := TX1) (N := 9) hx hb hts (by decide +kernel) tyX1 tyX1_ok nmX1 hown hK hP hD hS 0 rfl rfl 7 (by decide) (hts (.fieldLink RX1 169 "FamilyProbes" "shadowCalls" "I") (by decide +kernel)) (fun _ h9 => h9) rfl (by decide +kernel) rfl rfl (Nat.le_of_ble_eq_true rfl) dX1_callOf_125 (fun H locs hP hD hS => ?_)
        have hP : va_P D vwCl (xW F (sS, sP, sQ, sE, ec, (sc + 1), vl, LP, sT)) H := hP
        have hD : va_D A (xW F (sS, sP, sQ, sE, ec, (sc + 1), vl, LP, sT)) := hD
        refine lv_iload_n hx hb dX1_callOf_128 rfl (lv_at hl 4 rfl) ?_
        refine lv_aload_n hx hb dX1_callOf_129 rfl (lv_at hl 1 rfl) ?_
        obtain ⟨k40, hk40⟩ := va_pl_get (X := xX F (sS, sP, sQ, sE, ec, (sc + 1), vl, LP, sT)) (f := thP sT) (hok.2.2.2.1 p0 hp0 _ ho2)
        refine va_getN (D := D) (ci := 0) (v := .int ((sT q3).2.1)) (C := RX0) (T := TX0) (N := 6) hx hb hts (by decide +kernel) hown hK hP k40 hk40 rfl 1 (by decide) (va_Nw.use rfl (hN (.fieldLinkNest RX1 83 "FamilyProbes$Thing" "n" "I" "FamilyProbes") (by decide +kernel))) (fun _ h9 => h9) rfl dX1_callOf_130 ?_
        refine lv_iadd hx hb dX1_callOf_133 ?_
        refine lv_aload_n hx hb dX1_callOf_134 rfl (lv_at hl 2 rfl) ?_
        refine va_get (D := D) (ci := 1) (v := .int (sc + 1)) (C := RX1) (T := TX1) (N := 9) hx hb hts (by decide +kernel) hown hK hP 0 rfl rfl 7 (by decide) (hts (.fieldLink RX1 169 "FamilyProbes" "shadowCalls" "I") (by decide +kernel)) (fun _ h9 => h9) rfl dX1_callOf_135 ?_
        refine lv_iadd hx hb dX1_callOf_138 ?_
        exact W.iret (v := ((p1 + (sT q3).2.1) + (sc + 1))) hx hb hr (fun tE ht hW => ⟨⟨((p1 + (sT q3).2.1) + (sc + 1)), (sS, sP, sQ, sE, ec, (sc + 1), vl, LP, sT), rfl, by first | (simp only [sCall, uC, chase, fCall, gS, gP, gQ, gE, gec, gsc, gvl, gL, gT, ho2, ho25, c28, c30, c32, c34, c35, c37, eq_true c39, eq_self, ↓reduceIte, Bool.false_eq_true, Bool.not_false, Bool.not_true, Bool.and_true, Bool.and_false, Bool.true_and, Bool.false_and, decide_true, decide_false] <;> first | done | decide) | (simp only [sCall, uC, chase, fCall, gS, gP, gQ, gE, gec, gsc, gvl, gL, gT, ho2, ho25, c28, c30, c32, c34, c35, c37, c39, eq_self, ↓reduceIte, Bool.false_eq_true, Bool.not_false, Bool.not_true, Bool.and_true, Bool.and_false, Bool.true_and, Bool.false_and, decide_true, decide_false] <;> first | done | decide) | (simp [sCall, uC, chase, fCall, gS, gP, gQ, gE, gec, gsc, gvl, gL, gT, ho2, ho25, c28, c30, c32, c34, c35, c37, c39]; done) | (simp [sCall, uC, chase, fCall, gS, gP, gQ, gE, gec, gsc, gvl, gL, gT, ho2, ho25, c28, c30, c32, c34, c35, c37, eq_true c39]; done), by rw [ht]; exact hP, va_K.moved hW.alike hK, hD⟩, hS.F ht⟩) hS.2.2 dX1_callOf_139
      by_cases c41 : (sT q3).1 = 7
      · refine lv_tableIn (off := 78) (tgt := 111) hx hb dX1_callOf_33 (by rw [c41]; decide) (by rw [c41]; decide) (by rw [c41]; rfl) (by decide) ?_
        refine lv_iload_n hx hb dX1_callOf_111 rfl (lv_at hl 4 rfl) ?_
        refine lv_aload_n hx hb dX1_callOf_112 rfl (lv_at hl 1 rfl) ?_
        obtain ⟨k42, hk42⟩ := va_pl_get (X := xX F (sS, sP, sQ, sE, ec, sc, vl, LP, sT)) (f := thP sT) (hok.2.2.2.1 p0 hp0 _ ho2)
        refine va_getN (D := D) (ci := 0) (v := .int ((sT q3).2.1)) (C := RX0) (T := TX0) (N := 6) hx hb hts (by decide +kernel) hown hK hP k42 hk42 rfl 1 (by decide) (va_Nw.use rfl (hN (.fieldLinkNest RX1 83 "FamilyProbes$Thing" "n" "I" "FamilyProbes") (by decide +kernel))) (fun _ h9 => h9) rfl dX1_callOf_113 ?_
        refine lv_imul hx hb dX1_callOf_116 ?_
        exact W.iret (v := (p1 * (sT q3).2.1)) hx hb hr (fun tE ht hW => ⟨⟨(p1 * (sT q3).2.1), (sS, sP, sQ, sE, ec, sc, vl, LP, sT), rfl, by first | (simp only [sCall, uC, chase, fCall, gS, gP, gQ, gE, gec, gsc, gvl, gL, gT, ho2, ho25, c28, c30, c32, c34, c35, c37, c39, eq_true c41, eq_self, ↓reduceIte, Bool.false_eq_true, Bool.not_false, Bool.not_true, Bool.and_true, Bool.and_false, Bool.true_and, Bool.false_and, decide_true, decide_false] <;> first | done | decide) | (simp only [sCall, uC, chase, fCall, gS, gP, gQ, gE, gec, gsc, gvl, gL, gT, ho2, ho25, c28, c30, c32, c34, c35, c37, c39, c41, eq_self, ↓reduceIte, Bool.false_eq_true, Bool.not_false, Bool.not_true, Bool.and_true, Bool.and_false, Bool.true_and, Bool.false_and, decide_true, decide_false] <;> first | done | decide) | (simp [sCall, uC, chase, fCall, gS, gP, gQ, gE, gec, gsc, gvl, gL, gT, ho2, ho25, c28, c30, c32, c34, c35, c37, c39, c41]; done) | (simp [sCall, uC, chase, fCall, gS, gP, gQ, gE, gec, gsc, gvl, gL, gT, ho2, ho25, c28, c30, c32, c34, c35, c37, c39, eq_true c41]; done), by rw [ht]; exact hP, va_K.moved hW.alike hK, hD⟩, hS.F ht⟩) hS.2.2 dX1_callOf_117
      by_cases c43 : (sT q3).1 = 8
      · refine lv_tableIn (off := 107) (tgt := 140) hx hb dX1_callOf_33 (by rw [c43]; decide) (by rw [c43]; decide) (by rw [c43]; rfl) (by decide) ?_
        refine lv_iload_n hx hb dX1_callOf_140 rfl (lv_at hl 4 rfl) ?_
        exact W.iret (v := p1) hx hb hr (fun tE ht hW => ⟨⟨p1, (sS, sP, sQ, sE, ec, sc, vl, LP, sT), rfl, by first | (simp only [sCall, uC, chase, fCall, gS, gP, gQ, gE, gec, gsc, gvl, gL, gT, ho2, ho25, c28, c30, c32, c34, c35, c37, c39, c41, eq_true c43, eq_self, ↓reduceIte, Bool.false_eq_true, Bool.not_false, Bool.not_true, Bool.and_true, Bool.and_false, Bool.true_and, Bool.false_and, decide_true, decide_false] <;> first | done | decide) | (simp only [sCall, uC, chase, fCall, gS, gP, gQ, gE, gec, gsc, gvl, gL, gT, ho2, ho25, c28, c30, c32, c34, c35, c37, c39, c41, c43, eq_self, ↓reduceIte, Bool.false_eq_true, Bool.not_false, Bool.not_true, Bool.and_true, Bool.and_false, Bool.true_and, Bool.false_and, decide_true, decide_false] <;> first | done | decide) | (simp [sCall, uC, chase, fCall, gS, gP, gQ, gE, gec, gsc, gvl, gL, gT, ho2, ho25, c28, c30, c32, c34, c35, c37, c39, c41, c43]; done) | (simp [sCall, uC, chase, fCall, gS, gP, gQ, gE, gec, gsc, gvl, gL, gT, ho2, ho25, c28, c30, c32, c34, c35, c37, c39, c41, eq_true c43]; done), by rw [ht]; exact hP, va_K.moved hW.alike hK, hD⟩, hS.F ht⟩) hS.2.2 dX1_callOf_141
      by_cases c44 : (sT q3).1 = 9
      · refine lv_tableIn (off := 62) (tgt := 95) hx hb dX1_callOf_33 (by rw [c44]; decide) (by rw [c44]; decide) (by rw [c44]; rfl) (by decide) ?_
        refine lv_iload_n hx hb dX1_callOf_95 rfl (lv_at hl 4 rfl) ?_
        refine lv_aload_n hx hb dX1_callOf_96 rfl (lv_at hl 1 rfl) ?_
        obtain ⟨k45, hk45⟩ := va_pl_get (X := xX F (sS, sP, sQ, sE, ec, sc, vl, LP, sT)) (f := thP sT) (hok.2.2.2.1 p0 hp0 _ ho2)
        refine va_getN (D := D) (ci := 0) (v := .int ((sT q3).2.1)) (C := RX0) (T := TX0) (N := 6) hx hb hts (by decide +kernel) hown hK hP k45 hk45 rfl 1 (by decide) (va_Nw.use rfl (hN (.fieldLinkNest RX1 83 "FamilyProbes$Thing" "n" "I" "FamilyProbes") (by decide +kernel))) (fun _ h9 => h9) rfl dX1_callOf_97 ?_
        refine lv_isub hx hb dX1_callOf_100 ?_
        exact W.iret (v := (p1 - (sT q3).2.1)) hx hb hr (fun tE ht hW => ⟨⟨(p1 - (sT q3).2.1), (sS, sP, sQ, sE, ec, sc, vl, LP, sT), rfl, by first | (simp only [sCall, uC, chase, fCall, gS, gP, gQ, gE, gec, gsc, gvl, gL, gT, ho2, ho25, c28, c30, c32, c34, c35, c37, c39, c41, c43, eq_true c44, eq_self, ↓reduceIte, Bool.false_eq_true, Bool.not_false, Bool.not_true, Bool.and_true, Bool.and_false, Bool.true_and, Bool.false_and, decide_true, decide_false] <;> first | done | decide) | (simp only [sCall, uC, chase, fCall, gS, gP, gQ, gE, gec, gsc, gvl, gL, gT, ho2, ho25, c28, c30, c32, c34, c35, c37, c39, c41, c43, c44, eq_self, ↓reduceIte, Bool.false_eq_true, Bool.not_false, Bool.not_true, Bool.and_true, Bool.and_false, Bool.true_and, Bool.false_and, decide_true, decide_false] <;> first | done | decide) | (simp [sCall, uC, chase, fCall, gS, gP, gQ, gE, gec, gsc, gvl, gL, gT, ho2, ho25, c28, c30, c32, c34, c35, c37, c39, c41, c43, c44]; done) | (simp [sCall, uC, chase, fCall, gS, gP, gQ, gE, gec, gsc, gvl, gL, gT, ho2, ho25, c28, c30, c32, c34, c35, c37, c39, c41, c43, eq_true c44]; done), by rw [ht]; exact hP, va_K.moved hW.alike hK, hD⟩, hS.F ht⟩) hS.2.2 dX1_callOf_101
      refine lv_tableOut (tgt := 140) hx hb dX1_callOf_33 (by have z0 := lv_neT (k := 0) (a := 0) c28 (by decide); have z1 := lv_neT (k := 1) (a := 1) c30 (by decide); have z2 := lv_neT (k := 2) (a := 2) c32 (by decide); have z3 := lv_neT (k := 3) (a := 3) c34 (by decide); have z4 := lv_neT (k := 4) (a := 4) c35 (by decide); have z5 := lv_neT (k := 5) (a := 5) c37 (by decide); have z6 := lv_neT (k := 6) (a := 6) c39 (by decide); have z7 := lv_neT (k := 7) (a := 7) c41 (by decide); have z8 := lv_neT (k := 8) (a := 8) c43 (by decide); have z9 := lv_neT (k := 9) (a := 9) c44 (by decide); omega) (by decide) ?_
      refine lv_iload_n hx hb dX1_callOf_140 rfl (lv_at hl 4 rfl) ?_
      exact W.iret (v := p1) hx hb hr (fun tE ht hW => ⟨⟨p1, (sS, sP, sQ, sE, ec, sc, vl, LP, sT), rfl, by first | (simp only [sCall, uC, chase, fCall, gS, gP, gQ, gE, gec, gsc, gvl, gL, gT, ho2, ho25, c28, c30, c32, c34, c35, c37, c39, c41, c43, c44, eq_self, ↓reduceIte, Bool.false_eq_true, Bool.not_false, Bool.not_true, Bool.and_true, Bool.and_false, Bool.true_and, Bool.false_and, decide_true, decide_false] <;> first | done | decide) | (simp [sCall, uC, chase, fCall, gS, gP, gQ, gE, gec, gsc, gvl, gL, gT, ho2, ho25, c28, c30, c32, c34, c35, c37, c39, c41, c43, c44]; done), by rw [ht]; exact hP, va_K.moved hW.alike hK, hD⟩, hS.F ht⟩) hS.2.2 dX1_callOf_141
    · refine lv_ifnull hx hb dX1_callOf_15 ?_
      refine lv_aload_n hx hb dX1_callOf_18 rfl (lv_at hl 1 rfl) ?_
      obtain ⟨k46, hk46⟩ := va_pl_get (X := xX F (sS, sP, sQ, sE, ec, sc, vl, LP, sT)) (f := thP sT) (hok.2.2.2.1 p0 hp0 _ ho2)
      refine va_getN (D := D) (ci := 0) (v := .ref q26) (C := RX0) (T := TX0) (N := 6) hx hb hts (by decide +kernel) hown hK hP k46 hk46 rfl 2 (by decide) (va_Nw.use rfl (hN (.fieldLinkNest RX1 166 "FamilyProbes$Thing" "source" "LFamilyProbes$Thing;" "FamilyProbes") (by decide +kernel))) (fun _ h9 => h9) (by show some (va_rf ((sT q3).2.2.1)) = some (.ref q26); rw [ho25]; rfl) dX1_callOf_19 ?_
      refine lv_astore_n (lv' := [(3, .ref q26), (4, .int 1), (0, .ref F.1), (1, .ref p0), (2, .int p1)]) hx hb dX1_callOf_22 rfl hl (by decide) rfl (fun ls hl => ?_)
      refine lv_iinc (v := 2) (lv' := [(4, .int 2), (3, .ref q26), (0, .ref F.1), (1, .ref p0), (2, .int p1)]) hx hb dX1_callOf_23 hl (k := 1) rfl (by decide) (by decide) rfl (fun ls hl => ?_)
      refine lv_goto (tgt := 5) hx hb dX1_callOf_26 (by decide) ?_
      refine lv_iload hx hb dX1_callOf_5 (lv_at hl 0 rfl) ?_
      refine lv_iconst (v := 3) hx hb dX1_callOf_7 (by decide) ?_
      refine lv_icmp_ge (tgt := 29) hx hb dX1_callOf_8 (by decide) (fun cz => absurd cz (by decide)) (fun _ => ?_)
      refine lv_aload_n hx hb dX1_callOf_11 rfl (lv_at hl 1 rfl) ?_
      obtain ⟨k47, hk47⟩ := va_pl_get (X := xX F (sS, sP, sQ, sE, ec, sc, vl, LP, sT)) (f := thP sT) (hok.2.2.2.1 q3 (hok.2.2.2.1 p0 hp0 _ ho2) _ ho25)
      refine va_getN (D := D) (ci := 0) (v := va_rf ((sT q26).2.2.1)) (C := RX0) (T := TX0) (N := 6) hx hb hts (by decide +kernel) hown hK hP k47 hk47 rfl 2 (by decide) (va_Nw.use rfl (hN (.fieldLinkNest RX1 166 "FamilyProbes$Thing" "source" "LFamilyProbes$Thing;" "FamilyProbes") (by decide +kernel))) (fun _ h9 => h9) rfl dX1_callOf_12 ?_
      rcases ho48 : (sT q26).2.2.1 with _ | q49
      · refine lv_ifnullN (tgt := 29) hx hb dX1_callOf_15 (by decide) ?_
        refine lv_aload_n hx hb dX1_callOf_29 rfl (lv_at hl 1 rfl) ?_
        obtain ⟨k50, hk50⟩ := va_pl_get (X := xX F (sS, sP, sQ, sE, ec, sc, vl, LP, sT)) (f := thP sT) (hok.2.2.2.1 q3 (hok.2.2.2.1 p0 hp0 _ ho2) _ ho25)
        refine va_getN (D := D) (ci := 0) (v := .int ((sT q26).1)) (C := RX0) (T := TX0) (N := 6) hx hb hts (by decide +kernel) hown hK hP k50 hk50 rfl 0 (by decide) (va_Nw.use rfl (hN (.fieldLinkNest RX1 118 "FamilyProbes$Thing" "kind" "I" "FamilyProbes") (by decide +kernel))) (fun _ h9 => h9) rfl dX1_callOf_30 ?_
        by_cases c51 : (sT q26).1 = 0
        · refine lv_tableIn (off := 55) (tgt := 88) hx hb dX1_callOf_33 (by rw [c51]; decide) (by rw [c51]; decide) (by rw [c51]; rfl) (by decide) ?_
          refine lv_iload_n hx hb dX1_callOf_88 rfl (lv_at hl 4 rfl) ?_
          refine lv_aload_n hx hb dX1_callOf_89 rfl (lv_at hl 1 rfl) ?_
          obtain ⟨k52, hk52⟩ := va_pl_get (X := xX F (sS, sP, sQ, sE, ec, sc, vl, LP, sT)) (f := thP sT) (hok.2.2.2.1 q3 (hok.2.2.2.1 p0 hp0 _ ho2) _ ho25)
          refine va_getN (D := D) (ci := 0) (v := .int ((sT q26).2.1)) (C := RX0) (T := TX0) (N := 6) hx hb hts (by decide +kernel) hown hK hP k52 hk52 rfl 1 (by decide) (va_Nw.use rfl (hN (.fieldLinkNest RX1 83 "FamilyProbes$Thing" "n" "I" "FamilyProbes") (by decide +kernel))) (fun _ h9 => h9) rfl dX1_callOf_90 ?_
          refine lv_iadd hx hb dX1_callOf_93 ?_
          exact W.iret (v := (p1 + (sT q26).2.1)) hx hb hr (fun tE ht hW => ⟨⟨(p1 + (sT q26).2.1), (sS, sP, sQ, sE, ec, sc, vl, LP, sT), rfl, by first | (simp only [sCall, uC, chase, fCall, gS, gP, gQ, gE, gec, gsc, gvl, gL, gT, ho2, ho25, ho48, eq_true c51, eq_self, ↓reduceIte, Bool.false_eq_true, Bool.not_false, Bool.not_true, Bool.and_true, Bool.and_false, Bool.true_and, Bool.false_and, decide_true, decide_false] <;> first | done | decide) | (simp only [sCall, uC, chase, fCall, gS, gP, gQ, gE, gec, gsc, gvl, gL, gT, ho2, ho25, ho48, c51, eq_self, ↓reduceIte, Bool.false_eq_true, Bool.not_false, Bool.not_true, Bool.and_true, Bool.and_false, Bool.true_and, Bool.false_and, decide_true, decide_false] <;> first | done | decide) | (simp [sCall, uC, chase, fCall, gS, gP, gQ, gE, gec, gsc, gvl, gL, gT, ho2, ho25, ho48, c51]; done) | (simp [sCall, uC, chase, fCall, gS, gP, gQ, gE, gec, gsc, gvl, gL, gT, ho2, ho25, ho48, eq_true c51]; done), by rw [ht]; exact hP, va_K.moved hW.alike hK, hD⟩, hS.F ht⟩) hS.2.2 dX1_callOf_94
        by_cases c53 : (sT q26).1 = 1
        · refine lv_tableIn (off := 62) (tgt := 95) hx hb dX1_callOf_33 (by rw [c53]; decide) (by rw [c53]; decide) (by rw [c53]; rfl) (by decide) ?_
          refine lv_iload_n hx hb dX1_callOf_95 rfl (lv_at hl 4 rfl) ?_
          refine lv_aload_n hx hb dX1_callOf_96 rfl (lv_at hl 1 rfl) ?_
          obtain ⟨k54, hk54⟩ := va_pl_get (X := xX F (sS, sP, sQ, sE, ec, sc, vl, LP, sT)) (f := thP sT) (hok.2.2.2.1 q3 (hok.2.2.2.1 p0 hp0 _ ho2) _ ho25)
          refine va_getN (D := D) (ci := 0) (v := .int ((sT q26).2.1)) (C := RX0) (T := TX0) (N := 6) hx hb hts (by decide +kernel) hown hK hP k54 hk54 rfl 1 (by decide) (va_Nw.use rfl (hN (.fieldLinkNest RX1 83 "FamilyProbes$Thing" "n" "I" "FamilyProbes") (by decide +kernel))) (fun _ h9 => h9) rfl dX1_callOf_97 ?_
          refine lv_isub hx hb dX1_callOf_100 ?_
          exact W.iret (v := (p1 - (sT q26).2.1)) hx hb hr (fun tE ht hW => ⟨⟨(p1 - (sT q26).2.1), (sS, sP, sQ, sE, ec, sc, vl, LP, sT), rfl, by first | (simp only [sCall, uC, chase, fCall, gS, gP, gQ, gE, gec, gsc, gvl, gL, gT, ho2, ho25, ho48, c51, eq_true c53, eq_self, ↓reduceIte, Bool.false_eq_true, Bool.not_false, Bool.not_true, Bool.and_true, Bool.and_false, Bool.true_and, Bool.false_and, decide_true, decide_false] <;> first | done | decide) | (simp only [sCall, uC, chase, fCall, gS, gP, gQ, gE, gec, gsc, gvl, gL, gT, ho2, ho25, ho48, c51, c53, eq_self, ↓reduceIte, Bool.false_eq_true, Bool.not_false, Bool.not_true, Bool.and_true, Bool.and_false, Bool.true_and, Bool.false_and, decide_true, decide_false] <;> first | done | decide) | (simp [sCall, uC, chase, fCall, gS, gP, gQ, gE, gec, gsc, gvl, gL, gT, ho2, ho25, ho48, c51, c53]; done) | (simp [sCall, uC, chase, fCall, gS, gP, gQ, gE, gec, gsc, gvl, gL, gT, ho2, ho25, ho48, c51, eq_true c53]; done), by rw [ht]; exact hP, va_K.moved hW.alike hK, hD⟩, hS.F ht⟩) hS.2.2 dX1_callOf_101
        by_cases c55 : (sT q26).1 = 2
        · refine lv_tableIn (off := 69) (tgt := 102) hx hb dX1_callOf_33 (by rw [c55]; decide) (by rw [c55]; decide) (by rw [c55]; rfl) (by decide) ?_
          refine lv_iconst (v := 2) hx hb dX1_callOf_102 (by decide) ?_
          refine lv_iload_n hx hb dX1_callOf_103 rfl (lv_at hl 4 rfl) ?_
          refine lv_aload_n hx hb dX1_callOf_104 rfl (lv_at hl 1 rfl) ?_
          obtain ⟨k56, hk56⟩ := va_pl_get (X := xX F (sS, sP, sQ, sE, ec, sc, vl, LP, sT)) (f := thP sT) (hok.2.2.2.1 q3 (hok.2.2.2.1 p0 hp0 _ ho2) _ ho25)
          refine va_getN (D := D) (ci := 0) (v := .int ((sT q26).2.1)) (C := RX0) (T := TX0) (N := 6) hx hb hts (by decide +kernel) hown hK hP k56 hk56 rfl 1 (by decide) (va_Nw.use rfl (hN (.fieldLinkNest RX1 83 "FamilyProbes$Thing" "n" "I" "FamilyProbes") (by decide +kernel))) (fun _ h9 => h9) rfl dX1_callOf_105 ?_
          refine lv_isub hx hb dX1_callOf_108 ?_
          refine lv_imul hx hb dX1_callOf_109 ?_
          exact W.iret (v := (2 * (p1 - (sT q26).2.1))) hx hb hr (fun tE ht hW => ⟨⟨(2 * (p1 - (sT q26).2.1)), (sS, sP, sQ, sE, ec, sc, vl, LP, sT), rfl, by first | (simp only [sCall, uC, chase, fCall, gS, gP, gQ, gE, gec, gsc, gvl, gL, gT, ho2, ho25, ho48, c51, c53, eq_true c55, eq_self, ↓reduceIte, Bool.false_eq_true, Bool.not_false, Bool.not_true, Bool.and_true, Bool.and_false, Bool.true_and, Bool.false_and, decide_true, decide_false] <;> first | done | decide) | (simp only [sCall, uC, chase, fCall, gS, gP, gQ, gE, gec, gsc, gvl, gL, gT, ho2, ho25, ho48, c51, c53, c55, eq_self, ↓reduceIte, Bool.false_eq_true, Bool.not_false, Bool.not_true, Bool.and_true, Bool.and_false, Bool.true_and, Bool.false_and, decide_true, decide_false] <;> first | done | decide) | (simp [sCall, uC, chase, fCall, gS, gP, gQ, gE, gec, gsc, gvl, gL, gT, ho2, ho25, ho48, c51, c53, c55]; done) | (simp [sCall, uC, chase, fCall, gS, gP, gQ, gE, gec, gsc, gvl, gL, gT, ho2, ho25, ho48, c51, c53, eq_true c55]; done), by rw [ht]; exact hP, va_K.moved hW.alike hK, hD⟩, hS.F ht⟩) hS.2.2 dX1_callOf_110
        by_cases c57 : (sT q26).1 = 3
        · refine lv_tableIn (off := 107) (tgt := 140) hx hb dX1_callOf_33 (by rw [c57]; decide) (by rw [c57]; decide) (by rw [c57]; rfl) (by decide) ?_
          refine lv_iload_n hx hb dX1_callOf_140 rfl (lv_at hl 4 rfl) ?_
          exact W.iret (v := p1) hx hb hr (fun tE ht hW => ⟨⟨p1, (sS, sP, sQ, sE, ec, sc, vl, LP, sT), rfl, by first | (simp only [sCall, uC, chase, fCall, gS, gP, gQ, gE, gec, gsc, gvl, gL, gT, ho2, ho25, ho48, c51, c53, c55, eq_true c57, eq_self, ↓reduceIte, Bool.false_eq_true, Bool.not_false, Bool.not_true, Bool.and_true, Bool.and_false, Bool.true_and, Bool.false_and, decide_true, decide_false] <;> first | done | decide) | (simp only [sCall, uC, chase, fCall, gS, gP, gQ, gE, gec, gsc, gvl, gL, gT, ho2, ho25, ho48, c51, c53, c55, c57, eq_self, ↓reduceIte, Bool.false_eq_true, Bool.not_false, Bool.not_true, Bool.and_true, Bool.and_false, Bool.true_and, Bool.false_and, decide_true, decide_false] <;> first | done | decide) | (simp [sCall, uC, chase, fCall, gS, gP, gQ, gE, gec, gsc, gvl, gL, gT, ho2, ho25, ho48, c51, c53, c55, c57]; done) | (simp [sCall, uC, chase, fCall, gS, gP, gQ, gE, gec, gsc, gvl, gL, gT, ho2, ho25, ho48, c51, c53, c55, eq_true c57]; done), by rw [ht]; exact hP, va_K.moved hW.alike hK, hD⟩, hS.F ht⟩) hS.2.2 dX1_callOf_141
        by_cases c58 : (sT q26).1 = 4
        · refine lv_tableIn (off := 55) (tgt := 88) hx hb dX1_callOf_33 (by rw [c58]; decide) (by rw [c58]; decide) (by rw [c58]; rfl) (by decide) ?_
          refine lv_iload_n hx hb dX1_callOf_88 rfl (lv_at hl 4 rfl) ?_
          refine lv_aload_n hx hb dX1_callOf_89 rfl (lv_at hl 1 rfl) ?_
          obtain ⟨k59, hk59⟩ := va_pl_get (X := xX F (sS, sP, sQ, sE, ec, sc, vl, LP, sT)) (f := thP sT) (hok.2.2.2.1 q3 (hok.2.2.2.1 p0 hp0 _ ho2) _ ho25)
          refine va_getN (D := D) (ci := 0) (v := .int ((sT q26).2.1)) (C := RX0) (T := TX0) (N := 6) hx hb hts (by decide +kernel) hown hK hP k59 hk59 rfl 1 (by decide) (va_Nw.use rfl (hN (.fieldLinkNest RX1 83 "FamilyProbes$Thing" "n" "I" "FamilyProbes") (by decide +kernel))) (fun _ h9 => h9) rfl dX1_callOf_90 ?_
          refine lv_iadd hx hb dX1_callOf_93 ?_
          exact W.iret (v := (p1 + (sT q26).2.1)) hx hb hr (fun tE ht hW => ⟨⟨(p1 + (sT q26).2.1), (sS, sP, sQ, sE, ec, sc, vl, LP, sT), rfl, by first | (simp only [sCall, uC, chase, fCall, gS, gP, gQ, gE, gec, gsc, gvl, gL, gT, ho2, ho25, ho48, c51, c53, c55, c57, eq_true c58, eq_self, ↓reduceIte, Bool.false_eq_true, Bool.not_false, Bool.not_true, Bool.and_true, Bool.and_false, Bool.true_and, Bool.false_and, decide_true, decide_false] <;> first | done | decide) | (simp only [sCall, uC, chase, fCall, gS, gP, gQ, gE, gec, gsc, gvl, gL, gT, ho2, ho25, ho48, c51, c53, c55, c57, c58, eq_self, ↓reduceIte, Bool.false_eq_true, Bool.not_false, Bool.not_true, Bool.and_true, Bool.and_false, Bool.true_and, Bool.false_and, decide_true, decide_false] <;> first | done | decide) | (simp [sCall, uC, chase, fCall, gS, gP, gQ, gE, gec, gsc, gvl, gL, gT, ho2, ho25, ho48, c51, c53, c55, c57, c58]; done) | (simp [sCall, uC, chase, fCall, gS, gP, gQ, gE, gec, gsc, gvl, gL, gT, ho2, ho25, ho48, c51, c53, c55, c57, eq_true c58]; done), by rw [ht]; exact hP, va_K.moved hW.alike hK, hD⟩, hS.F ht⟩) hS.2.2 dX1_callOf_94
        by_cases c60 : (sT q26).1 = 5
        · refine lv_tableIn (off := 78) (tgt := 111) hx hb dX1_callOf_33 (by rw [c60]; decide) (by rw [c60]; decide) (by rw [c60]; rfl) (by decide) ?_
          refine lv_iload_n hx hb dX1_callOf_111 rfl (lv_at hl 4 rfl) ?_
          refine lv_aload_n hx hb dX1_callOf_112 rfl (lv_at hl 1 rfl) ?_
          obtain ⟨k61, hk61⟩ := va_pl_get (X := xX F (sS, sP, sQ, sE, ec, sc, vl, LP, sT)) (f := thP sT) (hok.2.2.2.1 q3 (hok.2.2.2.1 p0 hp0 _ ho2) _ ho25)
          refine va_getN (D := D) (ci := 0) (v := .int ((sT q26).2.1)) (C := RX0) (T := TX0) (N := 6) hx hb hts (by decide +kernel) hown hK hP k61 hk61 rfl 1 (by decide) (va_Nw.use rfl (hN (.fieldLinkNest RX1 83 "FamilyProbes$Thing" "n" "I" "FamilyProbes") (by decide +kernel))) (fun _ h9 => h9) rfl dX1_callOf_113 ?_
          refine lv_imul hx hb dX1_callOf_116 ?_
          exact W.iret (v := (p1 * (sT q26).2.1)) hx hb hr (fun tE ht hW => ⟨⟨(p1 * (sT q26).2.1), (sS, sP, sQ, sE, ec, sc, vl, LP, sT), rfl, by first | (simp only [sCall, uC, chase, fCall, gS, gP, gQ, gE, gec, gsc, gvl, gL, gT, ho2, ho25, ho48, c51, c53, c55, c57, c58, eq_true c60, eq_self, ↓reduceIte, Bool.false_eq_true, Bool.not_false, Bool.not_true, Bool.and_true, Bool.and_false, Bool.true_and, Bool.false_and, decide_true, decide_false] <;> first | done | decide) | (simp only [sCall, uC, chase, fCall, gS, gP, gQ, gE, gec, gsc, gvl, gL, gT, ho2, ho25, ho48, c51, c53, c55, c57, c58, c60, eq_self, ↓reduceIte, Bool.false_eq_true, Bool.not_false, Bool.not_true, Bool.and_true, Bool.and_false, Bool.true_and, Bool.false_and, decide_true, decide_false] <;> first | done | decide) | (simp [sCall, uC, chase, fCall, gS, gP, gQ, gE, gec, gsc, gvl, gL, gT, ho2, ho25, ho48, c51, c53, c55, c57, c58, c60]; done) | (simp [sCall, uC, chase, fCall, gS, gP, gQ, gE, gec, gsc, gvl, gL, gT, ho2, ho25, ho48, c51, c53, c55, c57, c58, eq_true c60]; done), by rw [ht]; exact hP, va_K.moved hW.alike hK, hD⟩, hS.F ht⟩) hS.2.2 dX1_callOf_117
        by_cases c62 : (sT q26).1 = 6
        · refine lv_tableIn (off := 85) (tgt := 118) hx hb dX1_callOf_33 (by rw [c62]; decide) (by rw [c62]; decide) (by rw [c62]; rfl) (by decide) ?_
          refine lv_aload_n hx hb dX1_callOf_118 rfl (lv_at hl 2 rfl) ?_
          refine lv_dup hx hb dX1_callOf_119 rfl ?_
          refine va_get (D := D) (ci := 1) (v := .int sc) (C := RX1) (T := TX1) (N := 9) hx hb hts (by decide +kernel) hown hK hP 0 rfl rfl 7 (by decide) (hts (.fieldLink RX1 169 "FamilyProbes" "shadowCalls" "I") (by decide +kernel)) (fun _ h9 => h9) rfl dX1_callOf_120 ?_
          refine lv_iconst (v := 1) hx hb dX1_callOf_123 (by decide) ?_
          refine lv_iadd hx hb dX1_callOf_124 ?_
          refine va_put (D := D) (ci := 1) (v := .int (sc + 1)) (ty := .int) (C := RX1) (T := TX1) (N := 9) hx hb hts (by decide +kernel) tyX1 tyX1_ok nmX1 hown hK hP hD hS 0 rfl rfl 7 (by decide) (hts (.fieldLink RX1 169 "FamilyProbes" "shadowCalls" "I") (by decide +kernel)) (fun _ h9 => h9) rfl (by decide +kernel) rfl rfl (Nat.le_of_ble_eq_true rfl) dX1_callOf_125 (fun H locs hP hD hS => ?_)
          have hP : va_P D vwCl (xW F (sS, sP, sQ, sE, ec, (sc + 1), vl, LP, sT)) H := hP
          have hD : va_D A (xW F (sS, sP, sQ, sE, ec, (sc + 1), vl, LP, sT)) := hD
          refine lv_iload_n hx hb dX1_callOf_128 rfl (lv_at hl 4 rfl) ?_
          refine lv_aload_n hx hb dX1_callOf_129 rfl (lv_at hl 1 rfl) ?_
          obtain ⟨k63, hk63⟩ := va_pl_get (X := xX F (sS, sP, sQ, sE, ec, (sc + 1), vl, LP, sT)) (f := thP sT) (hok.2.2.2.1 q3 (hok.2.2.2.1 p0 hp0 _ ho2) _ ho25)
          refine va_getN (D := D) (ci := 0) (v := .int ((sT q26).2.1)) (C := RX0) (T := TX0) (N := 6) hx hb hts (by decide +kernel) hown hK hP k63 hk63 rfl 1 (by decide) (va_Nw.use rfl (hN (.fieldLinkNest RX1 83 "FamilyProbes$Thing" "n" "I" "FamilyProbes") (by decide +kernel))) (fun _ h9 => h9) rfl dX1_callOf_130 ?_
          refine lv_iadd hx hb dX1_callOf_133 ?_
          refine lv_aload_n hx hb dX1_callOf_134 rfl (lv_at hl 2 rfl) ?_
          refine va_get (D := D) (ci := 1) (v := .int (sc + 1)) (C := RX1) (T := TX1) (N := 9) hx hb hts (by decide +kernel) hown hK hP 0 rfl rfl 7 (by decide) (hts (.fieldLink RX1 169 "FamilyProbes" "shadowCalls" "I") (by decide +kernel)) (fun _ h9 => h9) rfl dX1_callOf_135 ?_
          refine lv_iadd hx hb dX1_callOf_138 ?_
          exact W.iret (v := ((p1 + (sT q26).2.1) + (sc + 1))) hx hb hr (fun tE ht hW => ⟨⟨((p1 + (sT q26).2.1) + (sc + 1)), (sS, sP, sQ, sE, ec, (sc + 1), vl, LP, sT), rfl, by first | (simp only [sCall, uC, chase, fCall, gS, gP, gQ, gE, gec, gsc, gvl, gL, gT, ho2, ho25, ho48, c51, c53, c55, c57, c58, c60, eq_true c62, eq_self, ↓reduceIte, Bool.false_eq_true, Bool.not_false, Bool.not_true, Bool.and_true, Bool.and_false, Bool.true_and, Bool.false_and, decide_true, decide_false] <;> first | done | decide) | (simp only [sCall, uC, chase, fCall, gS, gP, gQ, gE, gec, gsc, gvl, gL, gT, ho2, ho25, ho48, c51, c53, c55, c57, c58, c60, c62, eq_self, ↓reduceIte, Bool.false_eq_true, Bool.not_false, Bool.not_true, Bool.and_true, Bool.and_false, Bool.true_and, Bool.false_and, decide_true, decide_false] <;> first | done | decide) | (simp [sCall, uC, chase, fCall, gS, gP, gQ, gE, gec, gsc, gvl, gL, gT, ho2, ho25, ho48, c51, c53, c55, c57, c58, c60, c62]; done) | (simp [sCall, uC, chase, fCall, gS, gP, gQ, gE, gec, gsc, gvl, gL, gT, ho2, ho25, ho48, c51, c53, c55, c57, c58, c60, eq_true c62]; done), by rw [ht]; exact hP, va_K.moved hW.alike hK, hD⟩, hS.F ht⟩) hS.2.2 dX1_callOf_139
        by_cases c64 : (sT q26).1 = 7
        · refine lv_tableIn (off := 78) (tgt := 111) hx hb dX1_callOf_33 (by rw [c64]; decide) (by rw [c64]; decide) (by rw [c64]; rfl) (by decide) ?_
          refine lv_iload_n hx hb dX1_callOf_111 rfl (lv_at hl 4 rfl) ?_
          refine lv_aload_n hx hb dX1_callOf_112 rfl (lv_at hl 1 rfl) ?_
          obtain ⟨k65, hk65⟩ := va_pl_get (X := xX F (sS, sP, sQ, sE, ec, sc, vl, LP, sT)) (f := thP sT) (hok.2.2.2.1 q3 (hok.2.2.2.1 p0 hp0 _ ho2) _ ho25)
          refine va_getN (D := D) (ci := 0) (v := .int ((sT q26).2.1)) (C := RX0) (T := TX0) (N := 6) hx hb hts (by decide +kernel) hown hK hP k65 hk65 rfl 1 (by decide) (va_Nw.use rfl (hN (.fieldLinkNest RX1 83 "FamilyProbes$Thing" "n" "I" "FamilyProbes") (by decide +kernel))) (fun _ h9 => h9) rfl dX1_callOf_113 ?_
          refine lv_imul hx hb dX1_callOf_116 ?_
          exact W.iret (v := (p1 * (sT q26).2.1)) hx hb hr (fun tE ht hW => ⟨⟨(p1 * (sT q26).2.1), (sS, sP, sQ, sE, ec, sc, vl, LP, sT), rfl, by first | (simp only [sCall, uC, chase, fCall, gS, gP, gQ, gE, gec, gsc, gvl, gL, gT, ho2, ho25, ho48, c51, c53, c55, c57, c58, c60, c62, eq_true c64, eq_self, ↓reduceIte, Bool.false_eq_true, Bool.not_false, Bool.not_true, Bool.and_true, Bool.and_false, Bool.true_and, Bool.false_and, decide_true, decide_false] <;> first | done | decide) | (simp only [sCall, uC, chase, fCall, gS, gP, gQ, gE, gec, gsc, gvl, gL, gT, ho2, ho25, ho48, c51, c53, c55, c57, c58, c60, c62, c64, eq_self, ↓reduceIte, Bool.false_eq_true, Bool.not_false, Bool.not_true, Bool.and_true, Bool.and_false, Bool.true_and, Bool.false_and, decide_true, decide_false] <;> first | done | decide) | (simp [sCall, uC, chase, fCall, gS, gP, gQ, gE, gec, gsc, gvl, gL, gT, ho2, ho25, ho48, c51, c53, c55, c57, c58, c60, c62, c64]; done) | (simp [sCall, uC, chase, fCall, gS, gP, gQ, gE, gec, gsc, gvl, gL, gT, ho2, ho25, ho48, c51, c53, c55, c57, c58, c60, c62, eq_true c64]; done), by rw [ht]; exact hP, va_K.moved hW.alike hK, hD⟩, hS.F ht⟩) hS.2.2 dX1_callOf_117
        by_cases c66 : (sT q26).1 = 8
        · refine lv_tableIn (off := 107) (tgt := 140) hx hb dX1_callOf_33 (by rw [c66]; decide) (by rw [c66]; decide) (by rw [c66]; rfl) (by decide) ?_
          refine lv_iload_n hx hb dX1_callOf_140 rfl (lv_at hl 4 rfl) ?_
          exact W.iret (v := p1) hx hb hr (fun tE ht hW => ⟨⟨p1, (sS, sP, sQ, sE, ec, sc, vl, LP, sT), rfl, by first | (simp only [sCall, uC, chase, fCall, gS, gP, gQ, gE, gec, gsc, gvl, gL, gT, ho2, ho25, ho48, c51, c53, c55, c57, c58, c60, c62, c64, eq_true c66, eq_self, ↓reduceIte, Bool.false_eq_true, Bool.not_false, Bool.not_true, Bool.and_true, Bool.and_false, Bool.true_and, Bool.false_and, decide_true, decide_false] <;> first | done | decide) | (simp only [sCall, uC, chase, fCall, gS, gP, gQ, gE, gec, gsc, gvl, gL, gT, ho2, ho25, ho48, c51, c53, c55, c57, c58, c60, c62, c64, c66, eq_self, ↓reduceIte, Bool.false_eq_true, Bool.not_false, Bool.not_true, Bool.and_true, Bool.and_false, Bool.true_and, Bool.false_and, decide_true, decide_false] <;> first | done | decide) | (simp [sCall, uC, chase, fCall, gS, gP, gQ, gE, gec, gsc, gvl, gL, gT, ho2, ho25, ho48, c51, c53, c55, c57, c58, c60, c62, c64, c66]; done) | (simp [sCall, uC, chase, fCall, gS, gP, gQ, gE, gec, gsc, gvl, gL, gT, ho2, ho25, ho48, c51, c53, c55, c57, c58, c60, c62, c64, eq_true c66]; done), by rw [ht]; exact hP, va_K.moved hW.alike hK, hD⟩, hS.F ht⟩) hS.2.2 dX1_callOf_141
        by_cases c67 : (sT q26).1 = 9
        · refine lv_tableIn (off := 62) (tgt := 95) hx hb dX1_callOf_33 (by rw [c67]; decide) (by rw [c67]; decide) (by rw [c67]; rfl) (by decide) ?_
          refine lv_iload_n hx hb dX1_callOf_95 rfl (lv_at hl 4 rfl) ?_
          refine lv_aload_n hx hb dX1_callOf_96 rfl (lv_at hl 1 rfl) ?_
          obtain ⟨k68, hk68⟩ := va_pl_get (X := xX F (sS, sP, sQ, sE, ec, sc, vl, LP, sT)) (f := thP sT) (hok.2.2.2.1 q3 (hok.2.2.2.1 p0 hp0 _ ho2) _ ho25)
          refine va_getN (D := D) (ci := 0) (v := .int ((sT q26).2.1)) (C := RX0) (T := TX0) (N := 6) hx hb hts (by decide +kernel) hown hK hP k68 hk68 rfl 1 (by decide) (va_Nw.use rfl (hN (.fieldLinkNest RX1 83 "FamilyProbes$Thing" "n" "I" "FamilyProbes") (by decide +kernel))) (fun _ h9 => h9) rfl dX1_callOf_97 ?_
          refine lv_isub hx hb dX1_callOf_100 ?_
          exact W.iret (v := (p1 - (sT q26).2.1)) hx hb hr (fun tE ht hW => ⟨⟨(p1 - (sT q26).2.1), (sS, sP, sQ, sE, ec, sc, vl, LP, sT), rfl, by first | (simp only [sCall, uC, chase, fCall, gS, gP, gQ, gE, gec, gsc, gvl, gL, gT, ho2, ho25, ho48, c51, c53, c55, c57, c58, c60, c62, c64, c66, eq_true c67, eq_self, ↓reduceIte, Bool.false_eq_true, Bool.not_false, Bool.not_true, Bool.and_true, Bool.and_false, Bool.true_and, Bool.false_and, decide_true, decide_false] <;> first | done | decide) | (simp only [sCall, uC, chase, fCall, gS, gP, gQ, gE, gec, gsc, gvl, gL, gT, ho2, ho25, ho48, c51, c53, c55, c57, c58, c60, c62, c64, c66, c67, eq_self, ↓reduceIte, Bool.false_eq_true, Bool.not_false, Bool.not_true, Bool.and_true, Bool.and_false, Bool.true_and, Bool.false_and, decide_true, decide_false] <;> first | done | decide) | (simp [sCall, uC, chase, fCall, gS, gP, gQ, gE, gec, gsc, gvl, gL, gT, ho2, ho25, ho48, c51, c53, c55, c57, c58, c60, c62, c64, c66, c67]; done) | (simp [sCall, uC, chase, fCall, gS, gP, gQ, gE, gec, gsc, gvl, gL, gT, ho2, ho25, ho48, c51, c53, c55, c57, c58, c60, c62, c64, c66, eq_true c67]; done), by rw [ht]; exact hP, va_K.moved hW.alike hK, hD⟩, hS.F ht⟩) hS.2.2 dX1_callOf_101
        refine lv_tableOut (tgt := 140) hx hb dX1_callOf_33 (by have z0 := lv_neT (k := 0) (a := 0) c51 (by decide); have z1 := lv_neT (k := 1) (a := 1) c53 (by decide); have z2 := lv_neT (k := 2) (a := 2) c55 (by decide); have z3 := lv_neT (k := 3) (a := 3) c57 (by decide); have z4 := lv_neT (k := 4) (a := 4) c58 (by decide); have z5 := lv_neT (k := 5) (a := 5) c60 (by decide); have z6 := lv_neT (k := 6) (a := 6) c62 (by decide); have z7 := lv_neT (k := 7) (a := 7) c64 (by decide); have z8 := lv_neT (k := 8) (a := 8) c66 (by decide); have z9 := lv_neT (k := 9) (a := 9) c67 (by decide); omega) (by decide) ?_
        refine lv_iload_n hx hb dX1_callOf_140 rfl (lv_at hl 4 rfl) ?_
        exact W.iret (v := p1) hx hb hr (fun tE ht hW => ⟨⟨p1, (sS, sP, sQ, sE, ec, sc, vl, LP, sT), rfl, by first | (simp only [sCall, uC, chase, fCall, gS, gP, gQ, gE, gec, gsc, gvl, gL, gT, ho2, ho25, ho48, c51, c53, c55, c57, c58, c60, c62, c64, c66, c67, eq_self, ↓reduceIte, Bool.false_eq_true, Bool.not_false, Bool.not_true, Bool.and_true, Bool.and_false, Bool.true_and, Bool.false_and, decide_true, decide_false] <;> first | done | decide) | (simp [sCall, uC, chase, fCall, gS, gP, gQ, gE, gec, gsc, gvl, gL, gT, ho2, ho25, ho48, c51, c53, c55, c57, c58, c60, c62, c64, c66, c67]; done), by rw [ht]; exact hP, va_K.moved hW.alike hK, hD⟩, hS.F ht⟩) hS.2.2 dX1_callOf_141
      · refine lv_ifnull hx hb dX1_callOf_15 ?_
        refine lv_aload_n hx hb dX1_callOf_18 rfl (lv_at hl 1 rfl) ?_
        obtain ⟨k69, hk69⟩ := va_pl_get (X := xX F (sS, sP, sQ, sE, ec, sc, vl, LP, sT)) (f := thP sT) (hok.2.2.2.1 q3 (hok.2.2.2.1 p0 hp0 _ ho2) _ ho25)
        refine va_getN (D := D) (ci := 0) (v := .ref q49) (C := RX0) (T := TX0) (N := 6) hx hb hts (by decide +kernel) hown hK hP k69 hk69 rfl 2 (by decide) (va_Nw.use rfl (hN (.fieldLinkNest RX1 166 "FamilyProbes$Thing" "source" "LFamilyProbes$Thing;" "FamilyProbes") (by decide +kernel))) (fun _ h9 => h9) (by show some (va_rf ((sT q26).2.2.1)) = some (.ref q49); rw [ho48]; rfl) dX1_callOf_19 ?_
        refine lv_astore_n (lv' := [(3, .ref q49), (4, .int 2), (0, .ref F.1), (1, .ref p0), (2, .int p1)]) hx hb dX1_callOf_22 rfl hl (by decide) rfl (fun ls hl => ?_)
        refine lv_iinc (v := 3) (lv' := [(4, .int 3), (3, .ref q49), (0, .ref F.1), (1, .ref p0), (2, .int p1)]) hx hb dX1_callOf_23 hl (k := 1) rfl (by decide) (by decide) rfl (fun ls hl => ?_)
        refine lv_goto (tgt := 5) hx hb dX1_callOf_26 (by decide) ?_
        refine lv_iload hx hb dX1_callOf_5 (lv_at hl 0 rfl) ?_
        refine lv_iconst (v := 3) hx hb dX1_callOf_7 (by decide) ?_
        refine lv_icmp_ge (tgt := 29) hx hb dX1_callOf_8 (by decide) (fun _ => ?_) (fun cz => absurd cz (by decide))
        refine lv_aload_n hx hb dX1_callOf_29 rfl (lv_at hl 1 rfl) ?_
        obtain ⟨k70, hk70⟩ := va_pl_get (X := xX F (sS, sP, sQ, sE, ec, sc, vl, LP, sT)) (f := thP sT) (hok.2.2.2.1 q26 (hok.2.2.2.1 q3 (hok.2.2.2.1 p0 hp0 _ ho2) _ ho25) _ ho48)
        refine va_getN (D := D) (ci := 0) (v := .int ((sT q49).1)) (C := RX0) (T := TX0) (N := 6) hx hb hts (by decide +kernel) hown hK hP k70 hk70 rfl 0 (by decide) (va_Nw.use rfl (hN (.fieldLinkNest RX1 118 "FamilyProbes$Thing" "kind" "I" "FamilyProbes") (by decide +kernel))) (fun _ h9 => h9) rfl dX1_callOf_30 ?_
        by_cases c71 : (sT q49).1 = 0
        · refine lv_tableIn (off := 55) (tgt := 88) hx hb dX1_callOf_33 (by rw [c71]; decide) (by rw [c71]; decide) (by rw [c71]; rfl) (by decide) ?_
          refine lv_iload_n hx hb dX1_callOf_88 rfl (lv_at hl 4 rfl) ?_
          refine lv_aload_n hx hb dX1_callOf_89 rfl (lv_at hl 1 rfl) ?_
          obtain ⟨k72, hk72⟩ := va_pl_get (X := xX F (sS, sP, sQ, sE, ec, sc, vl, LP, sT)) (f := thP sT) (hok.2.2.2.1 q26 (hok.2.2.2.1 q3 (hok.2.2.2.1 p0 hp0 _ ho2) _ ho25) _ ho48)
          refine va_getN (D := D) (ci := 0) (v := .int ((sT q49).2.1)) (C := RX0) (T := TX0) (N := 6) hx hb hts (by decide +kernel) hown hK hP k72 hk72 rfl 1 (by decide) (va_Nw.use rfl (hN (.fieldLinkNest RX1 83 "FamilyProbes$Thing" "n" "I" "FamilyProbes") (by decide +kernel))) (fun _ h9 => h9) rfl dX1_callOf_90 ?_
          refine lv_iadd hx hb dX1_callOf_93 ?_
          exact W.iret (v := (p1 + (sT q49).2.1)) hx hb hr (fun tE ht hW => ⟨⟨(p1 + (sT q49).2.1), (sS, sP, sQ, sE, ec, sc, vl, LP, sT), rfl, by first | (simp only [sCall, uC, chase, fCall, gS, gP, gQ, gE, gec, gsc, gvl, gL, gT, ho2, ho25, ho48, eq_true c71, eq_self, ↓reduceIte, Bool.false_eq_true, Bool.not_false, Bool.not_true, Bool.and_true, Bool.and_false, Bool.true_and, Bool.false_and, decide_true, decide_false] <;> first | done | decide) | (simp only [sCall, uC, chase, fCall, gS, gP, gQ, gE, gec, gsc, gvl, gL, gT, ho2, ho25, ho48, c71, eq_self, ↓reduceIte, Bool.false_eq_true, Bool.not_false, Bool.not_true, Bool.and_true, Bool.and_false, Bool.true_and, Bool.false_and, decide_true, decide_false] <;> first | done | decide) | (simp [sCall, uC, chase, fCall, gS, gP, gQ, gE, gec, gsc, gvl, gL, gT, ho2, ho25, ho48, c71]; done) | (simp [sCall, uC, chase, fCall, gS, gP, gQ, gE, gec, gsc, gvl, gL, gT, ho2, ho25, ho48, eq_true c71]; done), by rw [ht]; exact hP, va_K.moved hW.alike hK, hD⟩, hS.F ht⟩) hS.2.2 dX1_callOf_94
        by_cases c73 : (sT q49).1 = 1
        · refine lv_tableIn (off := 62) (tgt := 95) hx hb dX1_callOf_33 (by rw [c73]; decide) (by rw [c73]; decide) (by rw [c73]; rfl) (by decide) ?_
          refine lv_iload_n hx hb dX1_callOf_95 rfl (lv_at hl 4 rfl) ?_
          refine lv_aload_n hx hb dX1_callOf_96 rfl (lv_at hl 1 rfl) ?_
          obtain ⟨k74, hk74⟩ := va_pl_get (X := xX F (sS, sP, sQ, sE, ec, sc, vl, LP, sT)) (f := thP sT) (hok.2.2.2.1 q26 (hok.2.2.2.1 q3 (hok.2.2.2.1 p0 hp0 _ ho2) _ ho25) _ ho48)
          refine va_getN (D := D) (ci := 0) (v := .int ((sT q49).2.1)) (C := RX0) (T := TX0) (N := 6) hx hb hts (by decide +kernel) hown hK hP k74 hk74 rfl 1 (by decide) (va_Nw.use rfl (hN (.fieldLinkNest RX1 83 "FamilyProbes$Thing" "n" "I" "FamilyProbes") (by decide +kernel))) (fun _ h9 => h9) rfl dX1_callOf_97 ?_
          refine lv_isub hx hb dX1_callOf_100 ?_
          exact W.iret (v := (p1 - (sT q49).2.1)) hx hb hr (fun tE ht hW => ⟨⟨(p1 - (sT q49).2.1), (sS, sP, sQ, sE, ec, sc, vl, LP, sT), rfl, by first | (simp only [sCall, uC, chase, fCall, gS, gP, gQ, gE, gec, gsc, gvl, gL, gT, ho2, ho25, ho48, c71, eq_true c73, eq_self, ↓reduceIte, Bool.false_eq_true, Bool.not_false, Bool.not_true, Bool.and_true, Bool.and_false, Bool.true_and, Bool.false_and, decide_true, decide_false] <;> first | done | decide) | (simp only [sCall, uC, chase, fCall, gS, gP, gQ, gE, gec, gsc, gvl, gL, gT, ho2, ho25, ho48, c71, c73, eq_self, ↓reduceIte, Bool.false_eq_true, Bool.not_false, Bool.not_true, Bool.and_true, Bool.and_false, Bool.true_and, Bool.false_and, decide_true, decide_false] <;> first | done | decide) | (simp [sCall, uC, chase, fCall, gS, gP, gQ, gE, gec, gsc, gvl, gL, gT, ho2, ho25, ho48, c71, c73]; done) | (simp [sCall, uC, chase, fCall, gS, gP, gQ, gE, gec, gsc, gvl, gL, gT, ho2, ho25, ho48, c71, eq_true c73]; done), by rw [ht]; exact hP, va_K.moved hW.alike hK, hD⟩, hS.F ht⟩) hS.2.2 dX1_callOf_101
        by_cases c75 : (sT q49).1 = 2
        · refine lv_tableIn (off := 69) (tgt := 102) hx hb dX1_callOf_33 (by rw [c75]; decide) (by rw [c75]; decide) (by rw [c75]; rfl) (by decide) ?_
          refine lv_iconst (v := 2) hx hb dX1_callOf_102 (by decide) ?_
          refine lv_iload_n hx hb dX1_callOf_103 rfl (lv_at hl 4 rfl) ?_
          refine lv_aload_n hx hb dX1_callOf_104 rfl (lv_at hl 1 rfl) ?_
          obtain ⟨k76, hk76⟩ := va_pl_get (X := xX F (sS, sP, sQ, sE, ec, sc, vl, LP, sT)) (f := thP sT) (hok.2.2.2.1 q26 (hok.2.2.2.1 q3 (hok.2.2.2.1 p0 hp0 _ ho2) _ ho25) _ ho48)
          refine va_getN (D := D) (ci := 0) (v := .int ((sT q49).2.1)) (C := RX0) (T := TX0) (N := 6) hx hb hts (by decide +kernel) hown hK hP k76 hk76 rfl 1 (by decide) (va_Nw.use rfl (hN (.fieldLinkNest RX1 83 "FamilyProbes$Thing" "n" "I" "FamilyProbes") (by decide +kernel))) (fun _ h9 => h9) rfl dX1_callOf_105 ?_
          refine lv_isub hx hb dX1_callOf_108 ?_
          refine lv_imul hx hb dX1_callOf_109 ?_
          exact W.iret (v := (2 * (p1 - (sT q49).2.1))) hx hb hr (fun tE ht hW => ⟨⟨(2 * (p1 - (sT q49).2.1)), (sS, sP, sQ, sE, ec, sc, vl, LP, sT), rfl, by first | (simp only [sCall, uC, chase, fCall, gS, gP, gQ, gE, gec, gsc, gvl, gL, gT, ho2, ho25, ho48, c71, c73, eq_true c75, eq_self, ↓reduceIte, Bool.false_eq_true, Bool.not_false, Bool.not_true, Bool.and_true, Bool.and_false, Bool.true_and, Bool.false_and, decide_true, decide_false] <;> first | done | decide) | (simp only [sCall, uC, chase, fCall, gS, gP, gQ, gE, gec, gsc, gvl, gL, gT, ho2, ho25, ho48, c71, c73, c75, eq_self, ↓reduceIte, Bool.false_eq_true, Bool.not_false, Bool.not_true, Bool.and_true, Bool.and_false, Bool.true_and, Bool.false_and, decide_true, decide_false] <;> first | done | decide) | (simp [sCall, uC, chase, fCall, gS, gP, gQ, gE, gec, gsc, gvl, gL, gT, ho2, ho25, ho48, c71, c73, c75]; done) | (simp [sCall, uC, chase, fCall, gS, gP, gQ, gE, gec, gsc, gvl, gL, gT, ho2, ho25, ho48, c71, c73, eq_true c75]; done), by rw [ht]; exact hP, va_K.moved hW.alike hK, hD⟩, hS.F ht⟩) hS.2.2 dX1_callOf_110
        by_cases c77 : (sT q49).1 = 3
        · refine lv_tableIn (off := 107) (tgt := 140) hx hb dX1_callOf_33 (by rw [c77]; decide) (by rw [c77]; decide) (by rw [c77]; rfl) (by decide) ?_
          refine lv_iload_n hx hb dX1_callOf_140 rfl (lv_at hl 4 rfl) ?_
          exact W.iret (v := p1) hx hb hr (fun tE ht hW => ⟨⟨p1, (sS, sP, sQ, sE, ec, sc, vl, LP, sT), rfl, by first | (simp only [sCall, uC, chase, fCall, gS, gP, gQ, gE, gec, gsc, gvl, gL, gT, ho2, ho25, ho48, c71, c73, c75, eq_true c77, eq_self, ↓reduceIte, Bool.false_eq_true, Bool.not_false, Bool.not_true, Bool.and_true, Bool.and_false, Bool.true_and, Bool.false_and, decide_true, decide_false] <;> first | done | decide) | (simp only [sCall, uC, chase, fCall, gS, gP, gQ, gE, gec, gsc, gvl, gL, gT, ho2, ho25, ho48, c71, c73, c75, c77, eq_self, ↓reduceIte, Bool.false_eq_true, Bool.not_false, Bool.not_true, Bool.and_true, Bool.and_false, Bool.true_and, Bool.false_and, decide_true, decide_false] <;> first | done | decide) | (simp [sCall, uC, chase, fCall, gS, gP, gQ, gE, gec, gsc, gvl, gL, gT, ho2, ho25, ho48, c71, c73, c75, c77]; done) | (simp [sCall, uC, chase, fCall, gS, gP, gQ, gE, gec, gsc, gvl, gL, gT, ho2, ho25, ho48, c71, c73, c75, eq_true c77]; done), by rw [ht]; exact hP, va_K.moved hW.alike hK, hD⟩, hS.F ht⟩) hS.2.2 dX1_callOf_141
        by_cases c78 : (sT q49).1 = 4
        · refine lv_tableIn (off := 55) (tgt := 88) hx hb dX1_callOf_33 (by rw [c78]; decide) (by rw [c78]; decide) (by rw [c78]; rfl) (by decide) ?_
          refine lv_iload_n hx hb dX1_callOf_88 rfl (lv_at hl 4 rfl) ?_
          refine lv_aload_n hx hb dX1_callOf_89 rfl (lv_at hl 1 rfl) ?_
          obtain ⟨k79, hk79⟩ := va_pl_get (X := xX F (sS, sP, sQ, sE, ec, sc, vl, LP, sT)) (f := thP sT) (hok.2.2.2.1 q26 (hok.2.2.2.1 q3 (hok.2.2.2.1 p0 hp0 _ ho2) _ ho25) _ ho48)
          refine va_getN (D := D) (ci := 0) (v := .int ((sT q49).2.1)) (C := RX0) (T := TX0) (N := 6) hx hb hts (by decide +kernel) hown hK hP k79 hk79 rfl 1 (by decide) (va_Nw.use rfl (hN (.fieldLinkNest RX1 83 "FamilyProbes$Thing" "n" "I" "FamilyProbes") (by decide +kernel))) (fun _ h9 => h9) rfl dX1_callOf_90 ?_
          refine lv_iadd hx hb dX1_callOf_93 ?_
          exact W.iret (v := (p1 + (sT q49).2.1)) hx hb hr (fun tE ht hW => ⟨⟨(p1 + (sT q49).2.1), (sS, sP, sQ, sE, ec, sc, vl, LP, sT), rfl, by first | (simp only [sCall, uC, chase, fCall, gS, gP, gQ, gE, gec, gsc, gvl, gL, gT, ho2, ho25, ho48, c71, c73, c75, c77, eq_true c78, eq_self, ↓reduceIte, Bool.false_eq_true, Bool.not_false, Bool.not_true, Bool.and_true, Bool.and_false, Bool.true_and, Bool.false_and, decide_true, decide_false] <;> first | done | decide) | (simp only [sCall, uC, chase, fCall, gS, gP, gQ, gE, gec, gsc, gvl, gL, gT, ho2, ho25, ho48, c71, c73, c75, c77, c78, eq_self, ↓reduceIte, Bool.false_eq_true, Bool.not_false, Bool.not_true, Bool.and_true, Bool.and_false, Bool.true_and, Bool.false_and, decide_true, decide_false] <;> first | done | decide) | (simp [sCall, uC, chase, fCall, gS, gP, gQ, gE, gec, gsc, gvl, gL, gT, ho2, ho25, ho48, c71, c73, c75, c77, c78]; done) | (simp [sCall, uC, chase, fCall, gS, gP, gQ, gE, gec, gsc, gvl, gL, gT, ho2, ho25, ho48, c71, c73, c75, c77, eq_true c78]; done), by rw [ht]; exact hP, va_K.moved hW.alike hK, hD⟩, hS.F ht⟩) hS.2.2 dX1_callOf_94
        by_cases c80 : (sT q49).1 = 5
        · refine lv_tableIn (off := 78) (tgt := 111) hx hb dX1_callOf_33 (by rw [c80]; decide) (by rw [c80]; decide) (by rw [c80]; rfl) (by decide) ?_
          refine lv_iload_n hx hb dX1_callOf_111 rfl (lv_at hl 4 rfl) ?_
          refine lv_aload_n hx hb dX1_callOf_112 rfl (lv_at hl 1 rfl) ?_
          obtain ⟨k81, hk81⟩ := va_pl_get (X := xX F (sS, sP, sQ, sE, ec, sc, vl, LP, sT)) (f := thP sT) (hok.2.2.2.1 q26 (hok.2.2.2.1 q3 (hok.2.2.2.1 p0 hp0 _ ho2) _ ho25) _ ho48)
          refine va_getN (D := D) (ci := 0) (v := .int ((sT q49).2.1)) (C := RX0) (T := TX0) (N := 6) hx hb hts (by decide +kernel) hown hK hP k81 hk81 rfl 1 (by decide) (va_Nw.use rfl (hN (.fieldLinkNest RX1 83 "FamilyProbes$Thing" "n" "I" "FamilyProbes") (by decide +kernel))) (fun _ h9 => h9) rfl dX1_callOf_113 ?_
          refine lv_imul hx hb dX1_callOf_116 ?_
          exact W.iret (v := (p1 * (sT q49).2.1)) hx hb hr (fun tE ht hW => ⟨⟨(p1 * (sT q49).2.1), (sS, sP, sQ, sE, ec, sc, vl, LP, sT), rfl, by first | (simp only [sCall, uC, chase, fCall, gS, gP, gQ, gE, gec, gsc, gvl, gL, gT, ho2, ho25, ho48, c71, c73, c75, c77, c78, eq_true c80, eq_self, ↓reduceIte, Bool.false_eq_true, Bool.not_false, Bool.not_true, Bool.and_true, Bool.and_false, Bool.true_and, Bool.false_and, decide_true, decide_false] <;> first | done | decide) | (simp only [sCall, uC, chase, fCall, gS, gP, gQ, gE, gec, gsc, gvl, gL, gT, ho2, ho25, ho48, c71, c73, c75, c77, c78, c80, eq_self, ↓reduceIte, Bool.false_eq_true, Bool.not_false, Bool.not_true, Bool.and_true, Bool.and_false, Bool.true_and, Bool.false_and, decide_true, decide_false] <;> first | done | decide) | (simp [sCall, uC, chase, fCall, gS, gP, gQ, gE, gec, gsc, gvl, gL, gT, ho2, ho25, ho48, c71, c73, c75, c77, c78, c80]; done) | (simp [sCall, uC, chase, fCall, gS, gP, gQ, gE, gec, gsc, gvl, gL, gT, ho2, ho25, ho48, c71, c73, c75, c77, c78, eq_true c80]; done), by rw [ht]; exact hP, va_K.moved hW.alike hK, hD⟩, hS.F ht⟩) hS.2.2 dX1_callOf_117
        by_cases c82 : (sT q49).1 = 6
        · refine lv_tableIn (off := 85) (tgt := 118) hx hb dX1_callOf_33 (by rw [c82]; decide) (by rw [c82]; decide) (by rw [c82]; rfl) (by decide) ?_
          refine lv_aload_n hx hb dX1_callOf_118 rfl (lv_at hl 2 rfl) ?_
          refine lv_dup hx hb dX1_callOf_119 rfl ?_
          refine va_get (D := D) (ci := 1) (v := .int sc) (C := RX1) (T := TX1) (N := 9) hx hb hts (by decide +kernel) hown hK hP 0 rfl rfl 7 (by decide) (hts (.fieldLink RX1 169 "FamilyProbes" "shadowCalls" "I") (by decide +kernel)) (fun _ h9 => h9) rfl dX1_callOf_120 ?_
          refine lv_iconst (v := 1) hx hb dX1_callOf_123 (by decide) ?_
          refine lv_iadd hx hb dX1_callOf_124 ?_
          refine va_put (D := D) (ci := 1) (v := .int (sc + 1)) (ty := .int) (C := RX1) (T := TX1) (N := 9) hx hb hts (by decide +kernel) tyX1 tyX1_ok nmX1 hown hK hP hD hS 0 rfl rfl 7 (by decide) (hts (.fieldLink RX1 169 "FamilyProbes" "shadowCalls" "I") (by decide +kernel)) (fun _ h9 => h9) rfl (by decide +kernel) rfl rfl (Nat.le_of_ble_eq_true rfl) dX1_callOf_125 (fun H locs hP hD hS => ?_)
          have hP : va_P D vwCl (xW F (sS, sP, sQ, sE, ec, (sc + 1), vl, LP, sT)) H := hP
          have hD : va_D A (xW F (sS, sP, sQ, sE, ec, (sc + 1), vl, LP, sT)) := hD
          refine lv_iload_n hx hb dX1_callOf_128 rfl (lv_at hl 4 rfl) ?_
          refine lv_aload_n hx hb dX1_callOf_129 rfl (lv_at hl 1 rfl) ?_
          obtain ⟨k83, hk83⟩ := va_pl_get (X := xX F (sS, sP, sQ, sE, ec, (sc + 1), vl, LP, sT)) (f := thP sT) (hok.2.2.2.1 q26 (hok.2.2.2.1 q3 (hok.2.2.2.1 p0 hp0 _ ho2) _ ho25) _ ho48)
          refine va_getN (D := D) (ci := 0) (v := .int ((sT q49).2.1)) (C := RX0) (T := TX0) (N := 6) hx hb hts (by decide +kernel) hown hK hP k83 hk83 rfl 1 (by decide) (va_Nw.use rfl (hN (.fieldLinkNest RX1 83 "FamilyProbes$Thing" "n" "I" "FamilyProbes") (by decide +kernel))) (fun _ h9 => h9) rfl dX1_callOf_130 ?_
          refine lv_iadd hx hb dX1_callOf_133 ?_
          refine lv_aload_n hx hb dX1_callOf_134 rfl (lv_at hl 2 rfl) ?_
          refine va_get (D := D) (ci := 1) (v := .int (sc + 1)) (C := RX1) (T := TX1) (N := 9) hx hb hts (by decide +kernel) hown hK hP 0 rfl rfl 7 (by decide) (hts (.fieldLink RX1 169 "FamilyProbes" "shadowCalls" "I") (by decide +kernel)) (fun _ h9 => h9) rfl dX1_callOf_135 ?_
          refine lv_iadd hx hb dX1_callOf_138 ?_
          exact W.iret (v := ((p1 + (sT q49).2.1) + (sc + 1))) hx hb hr (fun tE ht hW => ⟨⟨((p1 + (sT q49).2.1) + (sc + 1)), (sS, sP, sQ, sE, ec, (sc + 1), vl, LP, sT), rfl, by first | (simp only [sCall, uC, chase, fCall, gS, gP, gQ, gE, gec, gsc, gvl, gL, gT, ho2, ho25, ho48, c71, c73, c75, c77, c78, c80, eq_true c82, eq_self, ↓reduceIte, Bool.false_eq_true, Bool.not_false, Bool.not_true, Bool.and_true, Bool.and_false, Bool.true_and, Bool.false_and, decide_true, decide_false] <;> first | done | decide) | (simp only [sCall, uC, chase, fCall, gS, gP, gQ, gE, gec, gsc, gvl, gL, gT, ho2, ho25, ho48, c71, c73, c75, c77, c78, c80, c82, eq_self, ↓reduceIte, Bool.false_eq_true, Bool.not_false, Bool.not_true, Bool.and_true, Bool.and_false, Bool.true_and, Bool.false_and, decide_true, decide_false] <;> first | done | decide) | (simp [sCall, uC, chase, fCall, gS, gP, gQ, gE, gec, gsc, gvl, gL, gT, ho2, ho25, ho48, c71, c73, c75, c77, c78, c80, c82]; done) | (simp [sCall, uC, chase, fCall, gS, gP, gQ, gE, gec, gsc, gvl, gL, gT, ho2, ho25, ho48, c71, c73, c75, c77, c78, c80, eq_true c82]; done), by rw [ht]; exact hP, va_K.moved hW.alike hK, hD⟩, hS.F ht⟩) hS.2.2 dX1_callOf_139
        by_cases c84 : (sT q49).1 = 7
        · refine lv_tableIn (off := 78) (tgt := 111) hx hb dX1_callOf_33 (by rw [c84]; decide) (by rw [c84]; decide) (by rw [c84]; rfl) (by decide) ?_
          refine lv_iload_n hx hb dX1_callOf_111 rfl (lv_at hl 4 rfl) ?_
          refine lv_aload_n hx hb dX1_callOf_112 rfl (lv_at hl 1 rfl) ?_
          obtain ⟨k85, hk85⟩ := va_pl_get (X := xX F (sS, sP, sQ, sE, ec, sc, vl, LP, sT)) (f := thP sT) (hok.2.2.2.1 q26 (hok.2.2.2.1 q3 (hok.2.2.2.1 p0 hp0 _ ho2) _ ho25) _ ho48)
          refine va_getN (D := D) (ci := 0) (v := .int ((sT q49).2.1)) (C := RX0) (T := TX0) (N := 6) hx hb hts (by decide +kernel) hown hK hP k85 hk85 rfl 1 (by decide) (va_Nw.use rfl (hN (.fieldLinkNest RX1 83 "FamilyProbes$Thing" "n" "I" "FamilyProbes") (by decide +kernel))) (fun _ h9 => h9) rfl dX1_callOf_113 ?_
          refine lv_imul hx hb dX1_callOf_116 ?_
          exact W.iret (v := (p1 * (sT q49).2.1)) hx hb hr (fun tE ht hW => ⟨⟨(p1 * (sT q49).2.1), (sS, sP, sQ, sE, ec, sc, vl, LP, sT), rfl, by first | (simp only [sCall, uC, chase, fCall, gS, gP, gQ, gE, gec, gsc, gvl, gL, gT, ho2, ho25, ho48, c71, c73, c75, c77, c78, c80, c82, eq_true c84, eq_self, ↓reduceIte, Bool.false_eq_true, Bool.not_false, Bool.not_true, Bool.and_true, Bool.and_false, Bool.true_and, Bool.false_and, decide_true, decide_false] <;> first | done | decide) | (simp only [sCall, uC, chase, fCall, gS, gP, gQ, gE, gec, gsc, gvl, gL, gT, ho2, ho25, ho48, c71, c73, c75, c77, c78, c80, c82, c84, eq_self, ↓reduceIte, Bool.false_eq_true, Bool.not_false, Bool.not_true, Bool.and_true, Bool.and_false, Bool.true_and, Bool.false_and, decide_true, decide_false] <;> first | done | decide) | (simp [sCall, uC, chase, fCall, gS, gP, gQ, gE, gec, gsc, gvl, gL, gT, ho2, ho25, ho48, c71, c73, c75, c77, c78, c80, c82, c84]; done) | (simp [sCall, uC, chase, fCall, gS, gP, gQ, gE, gec, gsc, gvl, gL, gT, ho2, ho25, ho48, c71, c73, c75, c77, c78, c80, c82, eq_true c84]; done), by rw [ht]; exact hP, va_K.moved hW.alike hK, hD⟩, hS.F ht⟩) hS.2.2 dX1_callOf_117
        by_cases c86 : (sT q49).1 = 8
        · refine lv_tableIn (off := 107) (tgt := 140) hx hb dX1_callOf_33 (by rw [c86]; decide) (by rw [c86]; decide) (by rw [c86]; rfl) (by decide) ?_
          refine lv_iload_n hx hb dX1_callOf_140 rfl (lv_at hl 4 rfl) ?_
          exact W.iret (v := p1) hx hb hr (fun tE ht hW => ⟨⟨p1, (sS, sP, sQ, sE, ec, sc, vl, LP, sT), rfl, by first | (simp only [sCall, uC, chase, fCall, gS, gP, gQ, gE, gec, gsc, gvl, gL, gT, ho2, ho25, ho48, c71, c73, c75, c77, c78, c80, c82, c84, eq_true c86, eq_self, ↓reduceIte, Bool.false_eq_true, Bool.not_false, Bool.not_true, Bool.and_true, Bool.and_false, Bool.true_and, Bool.false_and, decide_true, decide_false] <;> first | done | decide) | (simp only [sCall, uC, chase, fCall, gS, gP, gQ, gE, gec, gsc, gvl, gL, gT, ho2, ho25, ho48, c71, c73, c75, c77, c78, c80, c82, c84, c86, eq_self, ↓reduceIte, Bool.false_eq_true, Bool.not_false, Bool.not_true, Bool.and_true, Bool.and_false, Bool.true_and, Bool.false_and, decide_true, decide_false] <;> first | done | decide) | (simp [sCall, uC, chase, fCall, gS, gP, gQ, gE, gec, gsc, gvl, gL, gT, ho2, ho25, ho48, c71, c73, c75, c77, c78, c80, c82, c84, c86]; done) | (simp [sCall, uC, chase, fCall, gS, gP, gQ, gE, gec, gsc, gvl, gL, gT, ho2, ho25, ho48, c71, c73, c75, c77, c78, c80, c82, c84, eq_true c86]; done), by rw [ht]; exact hP, va_K.moved hW.alike hK, hD⟩, hS.F ht⟩) hS.2.2 dX1_callOf_141
        by_cases c87 : (sT q49).1 = 9
        · refine lv_tableIn (off := 62) (tgt := 95) hx hb dX1_callOf_33 (by rw [c87]; decide) (by rw [c87]; decide) (by rw [c87]; rfl) (by decide) ?_
          refine lv_iload_n hx hb dX1_callOf_95 rfl (lv_at hl 4 rfl) ?_
          refine lv_aload_n hx hb dX1_callOf_96 rfl (lv_at hl 1 rfl) ?_
          obtain ⟨k88, hk88⟩ := va_pl_get (X := xX F (sS, sP, sQ, sE, ec, sc, vl, LP, sT)) (f := thP sT) (hok.2.2.2.1 q26 (hok.2.2.2.1 q3 (hok.2.2.2.1 p0 hp0 _ ho2) _ ho25) _ ho48)
          refine va_getN (D := D) (ci := 0) (v := .int ((sT q49).2.1)) (C := RX0) (T := TX0) (N := 6) hx hb hts (by decide +kernel) hown hK hP k88 hk88 rfl 1 (by decide) (va_Nw.use rfl (hN (.fieldLinkNest RX1 83 "FamilyProbes$Thing" "n" "I" "FamilyProbes") (by decide +kernel))) (fun _ h9 => h9) rfl dX1_callOf_97 ?_
          refine lv_isub hx hb dX1_callOf_100 ?_
          exact W.iret (v := (p1 - (sT q49).2.1)) hx hb hr (fun tE ht hW => ⟨⟨(p1 - (sT q49).2.1), (sS, sP, sQ, sE, ec, sc, vl, LP, sT), rfl, by first | (simp only [sCall, uC, chase, fCall, gS, gP, gQ, gE, gec, gsc, gvl, gL, gT, ho2, ho25, ho48, c71, c73, c75, c77, c78, c80, c82, c84, c86, eq_true c87, eq_self, ↓reduceIte, Bool.false_eq_true, Bool.not_false, Bool.not_true, Bool.and_true, Bool.and_false, Bool.true_and, Bool.false_and, decide_true, decide_false] <;> first | done | decide) | (simp only [sCall, uC, chase, fCall, gS, gP, gQ, gE, gec, gsc, gvl, gL, gT, ho2, ho25, ho48, c71, c73, c75, c77, c78, c80, c82, c84, c86, c87, eq_self, ↓reduceIte, Bool.false_eq_true, Bool.not_false, Bool.not_true, Bool.and_true, Bool.and_false, Bool.true_and, Bool.false_and, decide_true, decide_false] <;> first | done | decide) | (simp [sCall, uC, chase, fCall, gS, gP, gQ, gE, gec, gsc, gvl, gL, gT, ho2, ho25, ho48, c71, c73, c75, c77, c78, c80, c82, c84, c86, c87]; done) | (simp [sCall, uC, chase, fCall, gS, gP, gQ, gE, gec, gsc, gvl, gL, gT, ho2, ho25, ho48, c71, c73, c75, c77, c78, c80, c82, c84, c86, eq_true c87]; done), by rw [ht]; exact hP, va_K.moved hW.alike hK, hD⟩, hS.F ht⟩) hS.2.2 dX1_callOf_101
        refine lv_tableOut (tgt := 140) hx hb dX1_callOf_33 (by have z0 := lv_neT (k := 0) (a := 0) c71 (by decide); have z1 := lv_neT (k := 1) (a := 1) c73 (by decide); have z2 := lv_neT (k := 2) (a := 2) c75 (by decide); have z3 := lv_neT (k := 3) (a := 3) c77 (by decide); have z4 := lv_neT (k := 4) (a := 4) c78 (by decide); have z5 := lv_neT (k := 5) (a := 5) c80 (by decide); have z6 := lv_neT (k := 6) (a := 6) c82 (by decide); have z7 := lv_neT (k := 7) (a := 7) c84 (by decide); have z8 := lv_neT (k := 8) (a := 8) c86 (by decide); have z9 := lv_neT (k := 9) (a := 9) c87 (by decide); omega) (by decide) ?_
        refine lv_iload_n hx hb dX1_callOf_140 rfl (lv_at hl 4 rfl) ?_
        exact W.iret (v := p1) hx hb hr (fun tE ht hW => ⟨⟨p1, (sS, sP, sQ, sE, ec, sc, vl, LP, sT), rfl, by first | (simp only [sCall, uC, chase, fCall, gS, gP, gQ, gE, gec, gsc, gvl, gL, gT, ho2, ho25, ho48, c71, c73, c75, c77, c78, c80, c82, c84, c86, c87, eq_self, ↓reduceIte, Bool.false_eq_true, Bool.not_false, Bool.not_true, Bool.and_true, Bool.and_false, Bool.true_and, Bool.false_and, decide_true, decide_false] <;> first | done | decide) | (simp [sCall, uC, chase, fCall, gS, gP, gQ, gE, gec, gsc, gvl, gL, gT, ho2, ho25, ho48, c71, c73, c75, c77, c78, c80, c82, c84, c86, c87]; done), by rw [ht]; exact hP, va_K.moved hW.alike hK, hD⟩, hS.F ht⟩) hS.2.2 dX1_callOf_141
set_option maxHeartbeats 8000000 in
set_option maxRecDepth 100000 in
theorem k_twiceAsLoud (l : Launch) (D : va_G) (F : XF) (u : XS) (hok : xOk F u) (sz : Nat) (p0 : Nat) (hp0 : p0 ∈ gL u) (p1 : Int32) : Met l yX1_twiceAsLoud wsX1_twiceAsLoud ({ frames := 1, cells := 0, slots := 0, locals := 24 }) (xPc D F u sz [.ref F.1, .ref p0, .int p1]) (va_Qi (fun (r : Int32) (v : XS) => (r, v) = sLoud u p0 p1) (xB D F (va_A (xW F u) sz)) (va_A (xW F u) sz)) 0 0 (va_A (xW F u) sz) := by
  obtain ⟨sS, sP, sQ, sE, ec, sc, vl, LP, sT⟩ := u
  refine Met.ofW (cc := cX1_twiceAsLoud) (maxL := 3) (ret := (some .int)) (by decide) rfl ?_
  intro p e s m args below meth c s₁ B hml hv
  obtain ⟨rfl, hsz, hP, hK, hD0, hN, hZ⟩ := hv
  have hx := B.exec
  have hb := B.bytes
  have hr := B.returns
  have hts := atoms_spec (ws := wsX1_twiceAsLoud) B.pre
  have hown : s.vm.findClass RX1 = some m.cls := findClass_of_methodNamed B.named
  have hlocks := B.notSynchronized
  subst hsz
  have hD := hD0.self (sz := s.heap.size)
  generalize hAe : va_A (xW F (sS, sP, sQ, sE, ec, sc, vl, LP, sT)) s.heap.size = A at hD hZ ⊢
  have hA : ∀ q : Nat, s.heap.size ≤ q → A q := fun q h => by rw [← hAe]; exact Or.inr h
  have hS : va_S A s.heap s.heap [] := va_S.rf
  obtain ⟨tk, tm, tr, hztk, httk, hztm, httm, hztr, httr⟩ := id hZ
  refine xHeap (C := fun H => va_P D vwCl (xW F (sS, sP, sQ, sE, ec, sc, vl, LP, sT)) H ∧ va_S A s.heap H []) ⟨hP, hS⟩ (fun H hC => ?_)
  obtain ⟨hP, hS⟩ := hC
  have hl := lv_entry ([.ref F.1, .ref p0, .int p1]) (n := 3) (Nat.le_of_ble_eq_true rfl)
  rw [lg_entry_eq]
  generalize (lg_sl ([.ref F.1, .ref p0, .int p1]) ++ List.replicate (3 - (lg_sl ([.ref F.1, .ref p0, .int p1])).length) Slot.unset).toArray = ls at hl ⊢
  have hl : lv_has ls 3 [(0, .ref F.1), (1, .ref p0), (2, .int p1)] := hl
  refine lv_iconst (v := 2) hx hb dX1_twiceAsLoud_0 (by decide) ?_
  refine lv_aload_n hx hb dX1_twiceAsLoud_1 rfl (lv_at hl 0 rfl) ?_
  refine lv_aload_n hx hb dX1_twiceAsLoud_2 rfl (lv_at hl 1 rfl) ?_
  refine lv_iload_n hx hb dX1_twiceAsLoud_3 rfl (lv_at hl 2 rfl) ?_
  have hf1 := xFree hD hS hA
  refine va_calli (va_runV (As := [.ref p0, .int p1]) (rest := [.int 2]) ⟨hx, hb, hml, hown, hts⟩ (k_callOf l D F (sS, sP, sQ, sE, ec, sc, vl, LP, sT) hok H.size p0 hp0 p1) (cwV 2 hts gX1_twiceAsLoud_X1_callOf rfl rfl rfl (by decide +kernel) ⟨Nat.le_of_ble_eq_true rfl, Nat.le_of_ble_eq_true rfl⟩) (xPre hN hK hP hD hS hA hZ _) rfl rfl hl.1 rfl (lv_room (Nat.le_of_ble_eq_true rfl)) dX1_twiceAsLoud_4 ⟨Nat.le_of_ble_eq_true rfl, Nat.le_of_ble_eq_true rfl⟩) hS (fun q _ h => hf1 q h) hf1 (fun r2 v3 t5 H1 locs ht hvm hw4 hB hz1 hk1 hS => ?_)
  obtain ⟨hP1, hK1, hD1⟩ := hB
  rw [ht] at hP1
  replace hD1 := hD1.weaken (fun _ _ _ h => hf1 _ h)
  generalize H1 = H at hP1 hS ⊢
  obtain ⟨rfl, rfl⟩ := Prod.mk.inj (show (r2, v3) = ((fCall (sT (chase sT 3 p0)) sc p1).1, (sS, sP, sQ, sE, ec, (fCall (sT (chase sT 3 p0)) sc p1).2, vl, LP, sT)) from hw4)
  have hP : va_P D vwCl (xW F (sS, sP, sQ, sE, ec, (fCall (sT (chase sT 3 p0)) sc p1).2, vl, LP, sT)) H := hP1
  have hD : va_D A (xW F (sS, sP, sQ, sE, ec, (fCall (sT (chase sT 3 p0)) sc p1).2, vl, LP, sT)) := hD1
  refine lv_imul hx hb dX1_twiceAsLoud_7 ?_
  exact W.iret (v := (2 * (fCall (sT (chase sT 3 p0)) sc p1).1)) hx hb hr (fun tE ht hW => ⟨⟨(2 * (fCall (sT (chase sT 3 p0)) sc p1).1), (sS, sP, sQ, sE, ec, (fCall (sT (chase sT 3 p0)) sc p1).2, vl, LP, sT), rfl, by first | (simp only [sLoud, sCall, uC, gS, gP, gQ, gE, gec, gsc, gvl, gL, gT, eq_self, ↓reduceIte, Bool.false_eq_true, Bool.not_false, Bool.not_true, Bool.and_true, Bool.and_false, Bool.true_and, Bool.false_and, decide_true, decide_false] <;> first | done | decide) | (simp [sLoud, sCall, uC, gS, gP, gQ, gE, gec, gsc, gvl, gL, gT]; done), by rw [ht]; exact hP, va_K.moved hW.alike hK, hD⟩, hS.F ht⟩) hS.2.2 dX1_twiceAsLoud_8
set_option maxHeartbeats 8000000 in
set_option maxRecDepth 100000 in
theorem k_twiceAsSoft (l : Launch) (D : va_G) (F : XF) (u : XS) (hok : xOk F u) (sz : Nat) (p0 : Nat) (hp0 : p0 ∈ gL u) (p1 : Int32) : Met l yX1_twiceAsSoft wsX1_twiceAsSoft ({ frames := 1, cells := 0, slots := 0, locals := 24 }) (xPc D F u sz [.ref F.1, .ref p0, .int p1]) (va_Qi (fun (r : Int32) (v : XS) => (r, v) = sSoft u p0 p1) (xB D F (va_A (xW F u) sz)) (va_A (xW F u) sz)) 0 0 (va_A (xW F u) sz) := by
  obtain ⟨sS, sP, sQ, sE, ec, sc, vl, LP, sT⟩ := u
  refine Met.ofW (cc := cX1_twiceAsSoft) (maxL := 3) (ret := (some .int)) (by decide) rfl ?_
  intro p e s m args below meth c s₁ B hml hv
  obtain ⟨rfl, hsz, hP, hK, hD0, hN, hZ⟩ := hv
  have hx := B.exec
  have hb := B.bytes
  have hr := B.returns
  have hts := atoms_spec (ws := wsX1_twiceAsSoft) B.pre
  have hown : s.vm.findClass RX1 = some m.cls := findClass_of_methodNamed B.named
  have hlocks := B.notSynchronized
  subst hsz
  have hD := hD0.self (sz := s.heap.size)
  generalize hAe : va_A (xW F (sS, sP, sQ, sE, ec, sc, vl, LP, sT)) s.heap.size = A at hD hZ ⊢
  have hA : ∀ q : Nat, s.heap.size ≤ q → A q := fun q h => by rw [← hAe]; exact Or.inr h
  have hS : va_S A s.heap s.heap [] := va_S.rf
  obtain ⟨tk, tm, tr, hztk, httk, hztm, httm, hztr, httr⟩ := id hZ
  refine xHeap (C := fun H => va_P D vwCl (xW F (sS, sP, sQ, sE, ec, sc, vl, LP, sT)) H ∧ va_S A s.heap H []) ⟨hP, hS⟩ (fun H hC => ?_)
  obtain ⟨hP, hS⟩ := hC
  have hl := lv_entry ([.ref F.1, .ref p0, .int p1]) (n := 3) (Nat.le_of_ble_eq_true rfl)
  rw [lg_entry_eq]
  generalize (lg_sl ([.ref F.1, .ref p0, .int p1]) ++ List.replicate (3 - (lg_sl ([.ref F.1, .ref p0, .int p1])).length) Slot.unset).toArray = ls at hl ⊢
  have hl : lv_has ls 3 [(0, .ref F.1), (1, .ref p0), (2, .int p1)] := hl
  refine lv_aload_n hx hb dX1_twiceAsSoft_0 rfl (lv_at hl 0 rfl) ?_
  refine lv_aload_n hx hb dX1_twiceAsSoft_1 rfl (lv_at hl 1 rfl) ?_
  refine lv_iload_n hx hb dX1_twiceAsSoft_2 rfl (lv_at hl 2 rfl) ?_
  have hf1 := xFree hD hS hA
  refine va_calli (va_runV (As := [.ref p0, .int p1]) (rest := []) ⟨hx, hb, hml, hown, hts⟩ (k_callOf l D F (sS, sP, sQ, sE, ec, sc, vl, LP, sT) hok H.size p0 hp0 p1) (cwV 2 hts gX1_twiceAsSoft_X1_callOf rfl rfl rfl (by decide +kernel) ⟨Nat.le_of_ble_eq_true rfl, Nat.le_of_ble_eq_true rfl⟩) (xPre hN hK hP hD hS hA hZ _) rfl rfl hl.1 rfl (lv_room (Nat.le_of_ble_eq_true rfl)) dX1_twiceAsSoft_3 ⟨Nat.le_of_ble_eq_true rfl, Nat.le_of_ble_eq_true rfl⟩) hS (fun q _ h => hf1 q h) hf1 (fun r2 v3 t5 H1 locs ht hvm hw4 hB hz1 hk1 hS => ?_)
  obtain ⟨hP1, hK1, hD1⟩ := hB
  rw [ht] at hP1
  replace hD1 := hD1.weaken (fun _ _ _ h => hf1 _ h)
  generalize H1 = H at hP1 hS ⊢
  obtain ⟨rfl, rfl⟩ := Prod.mk.inj (show (r2, v3) = ((fCall (sT (chase sT 3 p0)) sc p1).1, (sS, sP, sQ, sE, ec, (fCall (sT (chase sT 3 p0)) sc p1).2, vl, LP, sT)) from hw4)
  have hP : va_P D vwCl (xW F (sS, sP, sQ, sE, ec, (fCall (sT (chase sT 3 p0)) sc p1).2, vl, LP, sT)) H := hP1
  have hD : va_D A (xW F (sS, sP, sQ, sE, ec, (fCall (sT (chase sT 3 p0)) sc p1).2, vl, LP, sT)) := hD1
  refine lv_iconst (v := 1) hx hb dX1_twiceAsSoft_6 (by decide) ?_
  refine lv_isub hx hb dX1_twiceAsSoft_7 ?_
  exact W.iret (v := ((fCall (sT (chase sT 3 p0)) sc p1).1 - 1)) hx hb hr (fun tE ht hW => ⟨⟨((fCall (sT (chase sT 3 p0)) sc p1).1 - 1), (sS, sP, sQ, sE, ec, (fCall (sT (chase sT 3 p0)) sc p1).2, vl, LP, sT), rfl, by first | (simp only [sSoft, sCall, uC, gS, gP, gQ, gE, gec, gsc, gvl, gL, gT, eq_self, ↓reduceIte, Bool.false_eq_true, Bool.not_false, Bool.not_true, Bool.and_true, Bool.and_false, Bool.true_and, Bool.false_and, decide_true, decide_false] <;> first | done | decide) | (simp [sSoft, sCall, uC, gS, gP, gQ, gE, gec, gsc, gvl, gL, gT]; done), by rw [ht]; exact hP, va_K.moved hW.alike hK, hD⟩, hS.F ht⟩) hS.2.2 dX1_twiceAsSoft_8
