set_option maxHeartbeats 8000000 in
set_option maxRecDepth 100000 in
theorem k_isOfType (l : Launch) (D : va_G) (q : Nat) (t : TH) (hkd : isB t.1 10 = true) (p0 : Int32) : Met l yX1_isOfType wsX1_isOfType ({ frames := 1, cells := 0, slots := 0, locals := 21 }) (rPc D q t [.ref q, .int p0]) (vp_Si (fun r => r = bI (fIs t p0))) 0 0 (fun _ => False) := by
  refine Met.ofW (cc := cX1_isOfType) (maxL := 2) (ret := (some .boolean)) (by decide) rfl ?_
  intro p e s m args below meth c s₁ B hml hv
  obtain ⟨rfl, hP, hK, hN, hZ⟩ := hv
  have hx := B.exec
  have hb := B.bytes
  have hr := B.returns
  have hts := atoms_spec (ws := wsX1_isOfType) B.pre
  have hown : s.vm.findClass RX1 = some m.cls := findClass_of_methodNamed B.named
  have hlocks := B.notSynchronized
  have hS : va_S (fun _ => False) s.heap s.heap [] := va_S.rf
  obtain ⟨tk, tm, tr, hztk, httk, hztm, httm, hztr, httr⟩ := id hZ
  have hl := lv_entry ([.ref q, .int p0]) (n := 2) (Nat.le_of_ble_eq_true rfl)
  rw [lg_entry_eq]
  generalize (lg_sl ([.ref q, .int p0]) ++ List.replicate (2 - (lg_sl ([.ref q, .int p0])).length) Slot.unset).toArray = ls at hl ⊢
  have hl : lv_has ls 2 [(0, .ref q), (1, .int p0)] := hl
  refine va_gets hx hb hztk hS hown (hts (.fieldLink RX1 115 "FamilyProbes" "TYPES_OF_KIND" "[I") (by decide +kernel)) (fun _ h9 => h9) dX1_isOfType_0 ?_
  refine lv_aload_n hx hb dX1_isOfType_3 rfl (lv_at hl 0 rfl) ?_
  refine va_getN (D := D) (ci := 0) (v := .int t.1) (C := RX0) (T := TX0) (N := 6) hx hb hts (by decide +kernel) hown hK hP 0 rfl rfl 0 (by decide) (va_Nw.use rfl (hN (.fieldLinkNest RX1 118 "FamilyProbes$Thing" "kind" "I" "FamilyProbes") (by decide +kernel))) (fun _ h9 => h9) rfl dX1_isOfType_4 ?_
  refine va_ti (v := .int (tokV t.1.toNatClampNeg)) hx hb httk hS (isB_in10 hkd) rfl dX1_isOfType_7 ?_
  refine lv_iload_n hx hb dX1_isOfType_8 rfl (lv_at hl 1 rfl) ?_
  refine vp_callSi (va_Run.run (va_runS (As := [.int (tokV t.1.toNatClampNeg), .int p0]) (rest := []) ⟨hx, hb, hml, hown, hts⟩ (k_holds l (tokV t.1.toNatClampNeg) p0) (va_cwS 2 hts gX1_isOfType_X1_holds rfl rfl rfl (by decide +kernel) ⟨Nat.le_of_ble_eq_true rfl, Nat.le_of_ble_eq_true rfl⟩) preEq rfl rfl hl.1 rfl (lv_room (Nat.le_of_ble_eq_true rfl)) dX1_isOfType_9 ⟨Nat.le_of_ble_eq_true rfl, Nat.le_of_ble_eq_true rfl⟩)) (fun r1 hw2 => ?_)
  rcases bI_c hw2 with ⟨rfl, b3⟩ | ⟨rfl, b3⟩
  · exact W.zret (v := 1) hx hb hr rfl (fun tE ht hW => ⟨1, rfl, by first | (simp only [fIs, bI, b3, eq_self, ↓reduceIte, Bool.false_eq_true, Bool.not_false, Bool.not_true, Bool.and_true, Bool.and_false, Bool.true_and, Bool.false_and, decide_true, decide_false] <;> first | done | decide) | (simp [fIs, bI, b3]; done), ht⟩) (fun q h => by cases h) dX1_isOfType_12
  · exact W.zret (v := 0) hx hb hr rfl (fun tE ht hW => ⟨0, rfl, by first | (simp only [fIs, bI, b3, eq_self, ↓reduceIte, Bool.false_eq_true, Bool.not_false, Bool.not_true, Bool.and_true, Bool.and_false, Bool.true_and, Bool.false_and, decide_true, decide_false] <;> first | done | decide) | (simp [fIs, bI, b3]; done), ht⟩) (fun q h => by cases h) dX1_isOfType_12
set_option maxHeartbeats 8000000 in
set_option maxRecDepth 100000 in
theorem k_volumeOf (l : Launch) (D : va_G) (q : Nat) (t : TH) (p0 : Int32) : Met l yX1_volumeOf wsX1_volumeOf ({ frames := 0, cells := 0, slots := 0, locals := 0 }) (rPc D q t [.ref q, .int p0]) (vp_Si (fun r => r = (fVol t p0))) 0 0 (fun _ => False) := by
  refine Met.ofW (cc := cX1_volumeOf) (maxL := 2) (ret := (some .int)) (by decide) rfl ?_
  intro p e s m args below meth c s₁ B hml hv
  obtain ⟨rfl, hP, hK, hN, hZ⟩ := hv
  have hx := B.exec
  have hb := B.bytes
  have hr := B.returns
  have hts := atoms_spec (ws := wsX1_volumeOf) B.pre
  have hown : s.vm.findClass RX1 = some m.cls := findClass_of_methodNamed B.named
  have hlocks := B.notSynchronized
  have hS : va_S (fun _ => False) s.heap s.heap [] := va_S.rf
  obtain ⟨tk, tm, tr, hztk, httk, hztm, httm, hztr, httr⟩ := id hZ
  have hl := lv_entry ([.ref q, .int p0]) (n := 2) (Nat.le_of_ble_eq_true rfl)
  rw [lg_entry_eq]
  generalize (lg_sl ([.ref q, .int p0]) ++ List.replicate (2 - (lg_sl ([.ref q, .int p0])).length) Slot.unset).toArray = ls at hl ⊢
  have hl : lv_has ls 2 [(0, .ref q), (1, .int p0)] := hl
  refine lv_aload_n hx hb dX1_volumeOf_0 rfl (lv_at hl 0 rfl) ?_
  refine va_getN (D := D) (ci := 0) (v := .int t.1) (C := RX0) (T := TX0) (N := 6) hx hb hts (by decide +kernel) hown hK hP 0 rfl rfl 0 (by decide) (va_Nw.use rfl (hN (.fieldLinkNest RX1 118 "FamilyProbes$Thing" "kind" "I" "FamilyProbes") (by decide +kernel))) (fun _ h9 => h9) rfl dX1_volumeOf_1 ?_
  by_cases c1 : t.1 = 1
  · refine lv_lookup (off := 36) (tgt := 40) hx hb dX1_volumeOf_4 (by decide) (by rw [c1]; rfl) (by decide) ?_
    refine lv_iload_n hx hb dX1_volumeOf_40 rfl (lv_at hl 1 rfl) ?_
    refine lv_bipush (v := 10) hx hb dX1_volumeOf_41 (by decide) ?_
    refine lv_isub hx hb dX1_volumeOf_43 ?_
    exact W.iret (v := (p0 - 10)) hx hb hr (fun tE ht hW => ⟨(p0 - 10), rfl, by first | (simp only [fVol, eq_true c1, eq_self, ↓reduceIte, Bool.false_eq_true, Bool.not_false, Bool.not_true, Bool.and_true, Bool.and_false, Bool.true_and, Bool.false_and, decide_true, decide_false] <;> first | done | decide) | (simp only [fVol, c1, eq_self, ↓reduceIte, Bool.false_eq_true, Bool.not_false, Bool.not_true, Bool.and_true, Bool.and_false, Bool.true_and, Bool.false_and, decide_true, decide_false] <;> first | done | decide) | (simp [fVol, c1]; done) | (simp [fVol, eq_true c1]; done), ht⟩) (fun q h => by cases h) dX1_volumeOf_44
  by_cases c2 : t.1 = 2
  · refine lv_lookup (off := 41) (tgt := 45) hx hb dX1_volumeOf_4 (by decide) (by rw [c2]; rfl) (by decide) ?_
    refine lv_iload_n hx hb dX1_volumeOf_45 rfl (lv_at hl 1 rfl) ?_
    refine lv_bipush (v := 10) hx hb dX1_volumeOf_46 (by decide) ?_
    refine lv_iadd hx hb dX1_volumeOf_48 ?_
    refine lv_iconst (v := 3) hx hb dX1_volumeOf_49 (by decide) ?_
    refine lv_imul hx hb dX1_volumeOf_50 ?_
    exact W.iret (v := ((p0 + 10) * 3)) hx hb hr (fun tE ht hW => ⟨((p0 + 10) * 3), rfl, by first | (simp only [fVol, c1, eq_true c2, eq_self, ↓reduceIte, Bool.false_eq_true, Bool.not_false, Bool.not_true, Bool.and_true, Bool.and_false, Bool.true_and, Bool.false_and, decide_true, decide_false] <;> first | done | decide) | (simp only [fVol, c1, c2, eq_self, ↓reduceIte, Bool.false_eq_true, Bool.not_false, Bool.not_true, Bool.and_true, Bool.and_false, Bool.true_and, Bool.false_and, decide_true, decide_false] <;> first | done | decide) | (simp [fVol, c1, c2]; done) | (simp [fVol, c1, eq_true c2]; done), ht⟩) (fun q h => by cases h) dX1_volumeOf_51
  by_cases c3 : t.1 = 9
  · refine lv_lookup (off := 36) (tgt := 40) hx hb dX1_volumeOf_4 (by decide) (by rw [c3]; rfl) (by decide) ?_
    refine lv_iload_n hx hb dX1_volumeOf_40 rfl (lv_at hl 1 rfl) ?_
    refine lv_bipush (v := 10) hx hb dX1_volumeOf_41 (by decide) ?_
    refine lv_isub hx hb dX1_volumeOf_43 ?_
    exact W.iret (v := (p0 - 10)) hx hb hr (fun tE ht hW => ⟨(p0 - 10), rfl, by first | (simp only [fVol, c1, c2, eq_true c3, eq_self, ↓reduceIte, Bool.false_eq_true, Bool.not_false, Bool.not_true, Bool.and_true, Bool.and_false, Bool.true_and, Bool.false_and, decide_true, decide_false] <;> first | done | decide) | (simp only [fVol, c1, c2, c3, eq_self, ↓reduceIte, Bool.false_eq_true, Bool.not_false, Bool.not_true, Bool.and_true, Bool.and_false, Bool.true_and, Bool.false_and, decide_true, decide_false] <;> first | done | decide) | (simp [fVol, c1, c2, c3]; done) | (simp [fVol, c1, c2, eq_true c3]; done), ht⟩) (fun q h => by cases h) dX1_volumeOf_44
  refine lv_lookup (off := 48) (tgt := 52) hx hb dX1_volumeOf_4 (by decide) (by show Op.lookupswitch.offset [(1, 36), (2, 41), (9, 36)] 48 _ = 48; rw [lv_osw (k := 1) c1 (by decide), lv_osw (k := 2) c2 (by decide), lv_osw (k := 9) c3 (by decide)]; rfl) (by decide) ?_
  refine lv_iload_n hx hb dX1_volumeOf_52 rfl (lv_at hl 1 rfl) ?_
  refine lv_bipush (v := 10) hx hb dX1_volumeOf_53 (by decide) ?_
  refine lv_iadd hx hb dX1_volumeOf_55 ?_
  exact W.iret (v := (p0 + 10)) hx hb hr (fun tE ht hW => ⟨(p0 + 10), rfl, by first | (simp only [fVol, c1, c2, c3, eq_self, ↓reduceIte, Bool.false_eq_true, Bool.not_false, Bool.not_true, Bool.and_true, Bool.and_false, Bool.true_and, Bool.false_and, decide_true, decide_false] <;> first | done | decide) | (simp [fVol, c1, c2, c3]; done), ht⟩) (fun q h => by cases h) dX1_volumeOf_56
set_option maxHeartbeats 8000000 in
set_option maxRecDepth 100000 in
theorem k_weightAsBase (l : Launch) (D : va_G) (q : Nat) (t : TH) : Met l yX1_weightAsBase wsX1_weightAsBase ({ frames := 0, cells := 0, slots := 0, locals := 0 }) (rPc D q t [.ref q]) (vp_Si (fun r => r = (fWB t))) 0 0 (fun _ => False) := by
  refine Met.ofW (cc := cX1_weightAsBase) (maxL := 1) (ret := (some .int)) (by decide) rfl ?_
  intro p e s m args below meth c s₁ B hml hv
  obtain ⟨rfl, hP, hK, hN, hZ⟩ := hv
  have hx := B.exec
  have hb := B.bytes
  have hr := B.returns
  have hts := atoms_spec (ws := wsX1_weightAsBase) B.pre
  have hown : s.vm.findClass RX1 = some m.cls := findClass_of_methodNamed B.named
  have hlocks := B.notSynchronized
  have hS : va_S (fun _ => False) s.heap s.heap [] := va_S.rf
  obtain ⟨tk, tm, tr, hztk, httk, hztm, httm, hztr, httr⟩ := id hZ
  have hl := lv_entry ([.ref q]) (n := 1) (Nat.le_of_ble_eq_true rfl)
  rw [lg_entry_eq]
  generalize (lg_sl ([.ref q]) ++ List.replicate (1 - (lg_sl ([.ref q])).length) Slot.unset).toArray = ls at hl ⊢
  have hl : lv_has ls 1 [(0, .ref q)] := hl
  refine lv_iconst (v := 2) hx hb dX1_weightAsBase_0 (by decide) ?_
  refine lv_aload_n hx hb dX1_weightAsBase_1 rfl (lv_at hl 0 rfl) ?_
  refine va_getN (D := D) (ci := 0) (v := .int t.2.1) (C := RX0) (T := TX0) (N := 6) hx hb hts (by decide +kernel) hown hK hP 0 rfl rfl 1 (by decide) (va_Nw.use rfl (hN (.fieldLinkNest RX1 83 "FamilyProbes$Thing" "n" "I" "FamilyProbes") (by decide +kernel))) (fun _ h9 => h9) rfl dX1_weightAsBase_2 ?_
  refine lv_imul hx hb dX1_weightAsBase_5 ?_
  exact W.iret (v := (2 * t.2.1)) hx hb hr (fun tE ht hW => ⟨(2 * t.2.1), rfl, by first | (simp only [fWB, eq_self, ↓reduceIte, Bool.false_eq_true, Bool.not_false, Bool.not_true, Bool.and_true, Bool.and_false, Bool.true_and, Bool.false_and, decide_true, decide_false] <;> first | done | decide) | (simp [fWB]; done), ht⟩) (fun q h => by cases h) dX1_weightAsBase_6
set_option maxHeartbeats 8000000 in
set_option maxRecDepth 100000 in
theorem k_weightAsCat (l : Launch) (D : va_G) (q : Nat) (t : TH) : Met l yX1_weightAsCat wsX1_weightAsCat ({ frames := 0, cells := 0, slots := 0, locals := 0 }) (rPc D q t [.ref q]) (vp_Si (fun r => r = (fWC t))) 0 0 (fun _ => False) := by
  refine Met.ofW (cc := cX1_weightAsCat) (maxL := 1) (ret := (some .int)) (by decide) rfl ?_
  intro p e s m args below meth c s₁ B hml hv
  obtain ⟨rfl, hP, hK, hN, hZ⟩ := hv
  have hx := B.exec
  have hb := B.bytes
  have hr := B.returns
  have hts := atoms_spec (ws := wsX1_weightAsCat) B.pre
  have hown : s.vm.findClass RX1 = some m.cls := findClass_of_methodNamed B.named
  have hlocks := B.notSynchronized
  have hS : va_S (fun _ => False) s.heap s.heap [] := va_S.rf
  obtain ⟨tk, tm, tr, hztk, httk, hztm, httm, hztr, httr⟩ := id hZ
  have hl := lv_entry ([.ref q]) (n := 1) (Nat.le_of_ble_eq_true rfl)
  rw [lg_entry_eq]
  generalize (lg_sl ([.ref q]) ++ List.replicate (1 - (lg_sl ([.ref q])).length) Slot.unset).toArray = ls at hl ⊢
  have hl : lv_has ls 1 [(0, .ref q)] := hl
  refine lv_iconst (v := 3) hx hb dX1_weightAsCat_0 (by decide) ?_
  refine lv_aload_n hx hb dX1_weightAsCat_1 rfl (lv_at hl 0 rfl) ?_
  refine va_getN (D := D) (ci := 0) (v := .int t.2.1) (C := RX0) (T := TX0) (N := 6) hx hb hts (by decide +kernel) hown hK hP 0 rfl rfl 1 (by decide) (va_Nw.use rfl (hN (.fieldLinkNest RX1 83 "FamilyProbes$Thing" "n" "I" "FamilyProbes") (by decide +kernel))) (fun _ h9 => h9) rfl dX1_weightAsCat_2 ?_
  refine lv_imul hx hb dX1_weightAsCat_5 ?_
  exact W.iret (v := (3 * t.2.1)) hx hb hr (fun tE ht hW => ⟨(3 * t.2.1), rfl, by first | (simp only [fWC, eq_self, ↓reduceIte, Bool.false_eq_true, Bool.not_false, Bool.not_true, Bool.and_true, Bool.and_false, Bool.true_and, Bool.false_and, decide_true, decide_false] <;> first | done | decide) | (simp [fWC]; done), ht⟩) (fun q h => by cases h) dX1_weightAsCat_6
set_option maxHeartbeats 8000000 in
set_option maxRecDepth 100000 in
theorem k_weightOf (l : Launch) (D : va_G) (q : Nat) (t : TH) : Met l yX1_weightOf wsX1_weightOf ({ frames := 1, cells := 0, slots := 0, locals := 20 }) (rPc D q t [.ref q]) (vp_Si (fun r => r = (fWgt t))) 0 0 (fun _ => False) := by
  refine Met.ofW (cc := cX1_weightOf) (maxL := 1) (ret := (some .int)) (by decide) rfl ?_
  intro p e s m args below meth c s₁ B hml hv
  obtain ⟨rfl, hP, hK, hN, hZ⟩ := hv
  have hx := B.exec
  have hb := B.bytes
  have hr := B.returns
  have hts := atoms_spec (ws := wsX1_weightOf) B.pre
  have hown : s.vm.findClass RX1 = some m.cls := findClass_of_methodNamed B.named
  have hlocks := B.notSynchronized
  have hS : va_S (fun _ => False) s.heap s.heap [] := va_S.rf
  obtain ⟨tk, tm, tr, hztk, httk, hztm, httm, hztr, httr⟩ := id hZ
  have hl := lv_entry ([.ref q]) (n := 1) (Nat.le_of_ble_eq_true rfl)
  rw [lg_entry_eq]
  generalize (lg_sl ([.ref q]) ++ List.replicate (1 - (lg_sl ([.ref q])).length) Slot.unset).toArray = ls at hl ⊢
  have hl : lv_has ls 1 [(0, .ref q)] := hl
  refine lv_aload_n hx hb dX1_weightOf_0 rfl (lv_at hl 0 rfl) ?_
  refine va_getN (D := D) (ci := 0) (v := .int t.1) (C := RX0) (T := TX0) (N := 6) hx hb hts (by decide +kernel) hown hK hP 0 rfl rfl 0 (by decide) (va_Nw.use rfl (hN (.fieldLinkNest RX1 118 "FamilyProbes$Thing" "kind" "I" "FamilyProbes") (by decide +kernel))) (fun _ h9 => h9) rfl dX1_weightOf_1 ?_
  by_cases c1 : t.1 = 0
  · refine lv_lookup (off := 36) (tgt := 40) hx hb dX1_weightOf_4 (by decide) (by rw [c1]; rfl) (by decide) ?_
    refine lv_aload_n hx hb dX1_weightOf_40 rfl (lv_at hl 0 rfl) ?_
    refine vp_callSi (va_Run.run (va_runS (As := [.ref q]) (rest := []) ⟨hx, hb, hml, hown, hts⟩ (k_weightAsBase l D q t ) (va_cwS 1 hts gX1_weightOf_X1_weightAsBase rfl rfl rfl (by decide +kernel) ⟨Nat.le_of_ble_eq_true rfl, Nat.le_of_ble_eq_true rfl⟩) (rPre hN hK hP hS hZ xFalse _) rfl rfl hl.1 rfl (lv_room (Nat.le_of_ble_eq_true rfl)) dX1_weightOf_41 ⟨Nat.le_of_ble_eq_true rfl, Nat.le_of_ble_eq_true rfl⟩)) (fun r2 hw3 => ?_)
    subst hw3
    refine lv_iconst (v := 1) hx hb dX1_weightOf_44 (by decide) ?_
    refine lv_iadd hx hb dX1_weightOf_45 ?_
    exact W.iret (v := ((fWB t) + 1)) hx hb hr (fun tE ht hW => ⟨((fWB t) + 1), rfl, by first | (simp only [fWgt, eq_true c1, eq_self, ↓reduceIte, Bool.false_eq_true, Bool.not_false, Bool.not_true, Bool.and_true, Bool.and_false, Bool.true_and, Bool.false_and, decide_true, decide_false] <;> first | done | decide) | (simp only [fWgt, c1, eq_self, ↓reduceIte, Bool.false_eq_true, Bool.not_false, Bool.not_true, Bool.and_true, Bool.and_false, Bool.true_and, Bool.false_and, decide_true, decide_false] <;> first | done | decide) | (simp [fWgt, c1]; done) | (simp [fWgt, eq_true c1]; done), ht⟩) (fun q h => by cases h) dX1_weightOf_46
  by_cases c4 : t.1 = 2
  · refine lv_lookup (off := 43) (tgt := 47) hx hb dX1_weightOf_4 (by decide) (by rw [c4]; rfl) (by decide) ?_
    refine lv_iconst (v := 2) hx hb dX1_weightOf_47 (by decide) ?_
    refine lv_aload_n hx hb dX1_weightOf_48 rfl (lv_at hl 0 rfl) ?_
    refine vp_callSi (va_Run.run (va_runS (As := [.ref q]) (rest := [.int 2]) ⟨hx, hb, hml, hown, hts⟩ (k_weightAsCat l D q t ) (va_cwS 1 hts gX1_weightOf_X1_weightAsCat rfl rfl rfl (by decide +kernel) ⟨Nat.le_of_ble_eq_true rfl, Nat.le_of_ble_eq_true rfl⟩) (rPre hN hK hP hS hZ xFalse _) rfl rfl hl.1 rfl (lv_room (Nat.le_of_ble_eq_true rfl)) dX1_weightOf_49 ⟨Nat.le_of_ble_eq_true rfl, Nat.le_of_ble_eq_true rfl⟩)) (fun r5 hw6 => ?_)
    subst hw6
    refine lv_imul hx hb dX1_weightOf_52 ?_
    exact W.iret (v := (2 * (fWC t))) hx hb hr (fun tE ht hW => ⟨(2 * (fWC t)), rfl, by first | (simp only [fWgt, c1, eq_true c4, eq_self, ↓reduceIte, Bool.false_eq_true, Bool.not_false, Bool.not_true, Bool.and_true, Bool.and_false, Bool.true_and, Bool.false_and, decide_true, decide_false] <;> first | done | decide) | (simp only [fWgt, c1, c4, eq_self, ↓reduceIte, Bool.false_eq_true, Bool.not_false, Bool.not_true, Bool.and_true, Bool.and_false, Bool.true_and, Bool.false_and, decide_true, decide_false] <;> first | done | decide) | (simp [fWgt, c1, c4]; done) | (simp [fWgt, c1, eq_true c4]; done), ht⟩) (fun q h => by cases h) dX1_weightOf_53
  by_cases c7 : t.1 = 9
  · refine lv_lookup (off := 50) (tgt := 54) hx hb dX1_weightOf_4 (by decide) (by rw [c7]; rfl) (by decide) ?_
    refine lv_aload_n hx hb dX1_weightOf_54 rfl (lv_at hl 0 rfl) ?_
    refine vp_callSi (va_Run.run (va_runS (As := [.ref q]) (rest := []) ⟨hx, hb, hml, hown, hts⟩ (k_weightAsCat l D q t ) (va_cwS 1 hts gX1_weightOf_X1_weightAsCat rfl rfl rfl (by decide +kernel) ⟨Nat.le_of_ble_eq_true rfl, Nat.le_of_ble_eq_true rfl⟩) (rPre hN hK hP hS hZ xFalse _) rfl rfl hl.1 rfl (lv_room (Nat.le_of_ble_eq_true rfl)) dX1_weightOf_55 ⟨Nat.le_of_ble_eq_true rfl, Nat.le_of_ble_eq_true rfl⟩)) (fun r8 hw9 => ?_)
    subst hw9
    refine lv_aload_n hx hb dX1_weightOf_58 rfl (lv_at hl 0 rfl) ?_
    refine va_getN (D := D) (ci := 0) (v := .int t.2.2.2.2.2) (C := RX0) (T := TX0) (N := 6) hx hb hts (by decide +kernel) hown hK hP 0 rfl rfl 5 (by decide) (va_Nw.use rfl (hN (.fieldLinkNest RX1 138 "FamilyProbes$Thing" "extra" "I" "FamilyProbes") (by decide +kernel))) (fun _ h9 => h9) rfl dX1_weightOf_59 ?_
    refine lv_iadd hx hb dX1_weightOf_62 ?_
    exact W.iret (v := ((fWC t) + t.2.2.2.2.2)) hx hb hr (fun tE ht hW => ⟨((fWC t) + t.2.2.2.2.2), rfl, by first | (simp only [fWgt, c1, c4, eq_true c7, eq_self, ↓reduceIte, Bool.false_eq_true, Bool.not_false, Bool.not_true, Bool.and_true, Bool.and_false, Bool.true_and, Bool.false_and, decide_true, decide_false] <;> first | done | decide) | (simp only [fWgt, c1, c4, c7, eq_self, ↓reduceIte, Bool.false_eq_true, Bool.not_false, Bool.not_true, Bool.and_true, Bool.and_false, Bool.true_and, Bool.false_and, decide_true, decide_false] <;> first | done | decide) | (simp [fWgt, c1, c4, c7]; done) | (simp [fWgt, c1, c4, eq_true c7]; done), ht⟩) (fun q h => by cases h) dX1_weightOf_63
  refine lv_lookup (off := 60) (tgt := 64) hx hb dX1_weightOf_4 (by decide) (by show Op.lookupswitch.offset [(0, 36), (2, 43), (9, 50)] 60 _ = 60; rw [lv_osw (k := 0) c1 (by decide), lv_osw (k := 2) c4 (by decide), lv_osw (k := 9) c7 (by decide)]; rfl) (by decide) ?_
  refine lv_aload_n hx hb dX1_weightOf_64 rfl (lv_at hl 0 rfl) ?_
  refine vp_callSi (va_Run.run (va_runS (As := [.ref q]) (rest := []) ⟨hx, hb, hml, hown, hts⟩ (k_weightAsCat l D q t ) (va_cwS 1 hts gX1_weightOf_X1_weightAsCat rfl rfl rfl (by decide +kernel) ⟨Nat.le_of_ble_eq_true rfl, Nat.le_of_ble_eq_true rfl⟩) (rPre hN hK hP hS hZ xFalse _) rfl rfl hl.1 rfl (lv_room (Nat.le_of_ble_eq_true rfl)) dX1_weightOf_65 ⟨Nat.le_of_ble_eq_true rfl, Nat.le_of_ble_eq_true rfl⟩)) (fun r10 hw11 => ?_)
  subst hw11
  exact W.iret (v := (fWC t)) hx hb hr (fun tE ht hW => ⟨(fWC t), rfl, by first | (simp only [fWgt, c1, c4, c7, eq_self, ↓reduceIte, Bool.false_eq_true, Bool.not_false, Bool.not_true, Bool.and_true, Bool.and_false, Bool.true_and, Bool.false_and, decide_true, decide_false] <;> first | done | decide) | (simp [fWgt, c1, c4, c7]; done), ht⟩) (fun q h => by cases h) dX1_weightOf_68
set_option maxHeartbeats 8000000 in
set_option maxRecDepth 100000 in
theorem k_seedOf (l : Launch) (D : va_G) (q : Nat) (t : TH) : Met l yX1_seedOf wsX1_seedOf ({ frames := 0, cells := 0, slots := 0, locals := 0 }) (rPc D q t [.ref q]) (vp_Si (fun r => r = (fSeed t))) 0 0 (fun _ => False) := by
  refine Met.ofW (cc := cX1_seedOf) (maxL := 1) (ret := (some .int)) (by decide) rfl ?_
  intro p e s m args below meth c s₁ B hml hv
  obtain ⟨rfl, hP, hK, hN, hZ⟩ := hv
  have hx := B.exec
  have hb := B.bytes
  have hr := B.returns
  have hts := atoms_spec (ws := wsX1_seedOf) B.pre
  have hown : s.vm.findClass RX1 = some m.cls := findClass_of_methodNamed B.named
  have hlocks := B.notSynchronized
  have hS : va_S (fun _ => False) s.heap s.heap [] := va_S.rf
  obtain ⟨tk, tm, tr, hztk, httk, hztm, httm, hztr, httr⟩ := id hZ
  have hl := lv_entry ([.ref q]) (n := 1) (Nat.le_of_ble_eq_true rfl)
  rw [lg_entry_eq]
  generalize (lg_sl ([.ref q]) ++ List.replicate (1 - (lg_sl ([.ref q])).length) Slot.unset).toArray = ls at hl ⊢
  have hl : lv_has ls 1 [(0, .ref q)] := hl
  refine lv_aload_n hx hb dX1_seedOf_0 rfl (lv_at hl 0 rfl) ?_
  refine va_getN (D := D) (ci := 0) (v := .int t.1) (C := RX0) (T := TX0) (N := 6) hx hb hts (by decide +kernel) hown hK hP 0 rfl rfl 0 (by decide) (va_Nw.use rfl (hN (.fieldLinkNest RX1 118 "FamilyProbes$Thing" "kind" "I" "FamilyProbes") (by decide +kernel))) (fun _ h9 => h9) rfl dX1_seedOf_1 ?_
  by_cases c1 : t.1 = 0
  · refine lv_lookup (off := 28) (tgt := 32) hx hb dX1_seedOf_4 (by decide) (by rw [c1]; rfl) (by decide) ?_
    refine lv_bipush (v := 20) hx hb dX1_seedOf_32 (by decide) ?_
    refine lv_aload_n hx hb dX1_seedOf_34 rfl (lv_at hl 0 rfl) ?_
    refine va_getN (D := D) (ci := 0) (v := .int t.2.2.2.2.1) (C := RX0) (T := TX0) (N := 6) hx hb hts (by decide +kernel) hown hK hP 0 rfl rfl 4 (by decide) (va_Nw.use rfl (hN (.fieldLinkNest RX1 135 "FamilyProbes$Thing" "bonus" "I" "FamilyProbes") (by decide +kernel))) (fun _ h9 => h9) rfl dX1_seedOf_35 ?_
    refine lv_iadd hx hb dX1_seedOf_38 ?_
    exact W.iret (v := (20 + t.2.2.2.2.1)) hx hb hr (fun tE ht hW => ⟨(20 + t.2.2.2.2.1), rfl, by first | (simp only [fSeed, eq_true c1, eq_self, ↓reduceIte, Bool.false_eq_true, Bool.not_false, Bool.not_true, Bool.and_true, Bool.and_false, Bool.true_and, Bool.false_and, decide_true, decide_false] <;> first | done | decide) | (simp only [fSeed, c1, eq_self, ↓reduceIte, Bool.false_eq_true, Bool.not_false, Bool.not_true, Bool.and_true, Bool.and_false, Bool.true_and, Bool.false_and, decide_true, decide_false] <;> first | done | decide) | (simp [fSeed, c1]; done) | (simp [fSeed, eq_true c1]; done), ht⟩) (fun q h => by cases h) dX1_seedOf_39
  by_cases c2 : t.1 = 2
  · refine lv_lookup (off := 36) (tgt := 40) hx hb dX1_seedOf_4 (by decide) (by rw [c2]; rfl) (by decide) ?_
    refine lv_bipush (v := 30) hx hb dX1_seedOf_40 (by decide) ?_
    refine lv_aload_n hx hb dX1_seedOf_42 rfl (lv_at hl 0 rfl) ?_
    refine va_getN (D := D) (ci := 0) (v := .int t.2.1) (C := RX0) (T := TX0) (N := 6) hx hb hts (by decide +kernel) hown hK hP 0 rfl rfl 1 (by decide) (va_Nw.use rfl (hN (.fieldLinkNest RX1 83 "FamilyProbes$Thing" "n" "I" "FamilyProbes") (by decide +kernel))) (fun _ h9 => h9) rfl dX1_seedOf_43 ?_
    refine lv_iadd hx hb dX1_seedOf_46 ?_
    exact W.iret (v := (30 + t.2.1)) hx hb hr (fun tE ht hW => ⟨(30 + t.2.1), rfl, by first | (simp only [fSeed, c1, eq_true c2, eq_self, ↓reduceIte, Bool.false_eq_true, Bool.not_false, Bool.not_true, Bool.and_true, Bool.and_false, Bool.true_and, Bool.false_and, decide_true, decide_false] <;> first | done | decide) | (simp only [fSeed, c1, c2, eq_self, ↓reduceIte, Bool.false_eq_true, Bool.not_false, Bool.not_true, Bool.and_true, Bool.and_false, Bool.true_and, Bool.false_and, decide_true, decide_false] <;> first | done | decide) | (simp [fSeed, c1, c2]; done) | (simp [fSeed, c1, eq_true c2]; done), ht⟩) (fun q h => by cases h) dX1_seedOf_47
  refine lv_lookup (off := 44) (tgt := 48) hx hb dX1_seedOf_4 (by decide) (by show Op.lookupswitch.offset [(0, 28), (2, 36)] 44 _ = 44; rw [lv_osw (k := 0) c1 (by decide), lv_osw (k := 2) c2 (by decide)]; rfl) (by decide) ?_
  refine lv_iconst (v := 1) hx hb dX1_seedOf_48 (by decide) ?_
  exact W.iret (v := 1) hx hb hr (fun tE ht hW => ⟨1, rfl, by first | (simp only [fSeed, c1, c2, eq_self, ↓reduceIte, Bool.false_eq_true, Bool.not_false, Bool.not_true, Bool.and_true, Bool.and_false, Bool.true_and, Bool.false_and, decide_true, decide_false] <;> first | done | decide) | (simp [fSeed, c1, c2]; done), ht⟩) (fun q h => by cases h) dX1_seedOf_49
