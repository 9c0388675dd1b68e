set_option maxHeartbeats 8000000 in
set_option maxRecDepth 100000 in
theorem k_isBelow (l : Launch) (p0 p1 : Int32) : Met l yX1_isBelow wsX1_isBelow ({ frames := 0, cells := 0, slots := 0, locals := 0 }) (fun v _ => v = ([.int p0, .int p1] : List Value).toArray) (vp_Si (fun r => r = bI (isB p0 p1))) 0 0 (fun _ => False) := by
  refine Met.ofW (cc := cX1_isBelow) (maxL := 2) (ret := (some .boolean)) (by decide) rfl ?_
  intro p e s m args below meth c s₁ B hml hv
  obtain rfl := hv
  have hx := B.exec
  have hb := B.bytes
  have hr := B.returns
  have hts := atoms_spec (ws := wsX1_isBelow) B.pre
  have hown : s.vm.findClass RX1 = some m.cls := findClass_of_methodNamed B.named
  have hlocks := B.notSynchronized
  have hl := lv_entry ([.int p0, .int p1]) (n := 2) (Nat.le_of_ble_eq_true rfl)
  rw [lg_entry_eq]
  generalize (lg_sl ([.int p0, .int p1]) ++ List.replicate (2 - (lg_sl ([.int p0, .int p1])).length) Slot.unset).toArray = ls at hl ⊢
  have hl : lv_has ls 2 [(0, .int p0), (1, .int p1)] := hl
  refine lv_iload_n hx hb dX1_isBelow_0 rfl (lv_at hl 0 rfl) ?_
  refine lv_if_lt (tgt := 13) hx hb dX1_isBelow_1 (by decide) (fun c1 => ?_) (fun c1 => ?_)
  · refine lv_iconst (v := 0) hx hb dX1_isBelow_13 (by decide) ?_
    exact W.zret (v := 0) hx hb hr rfl (fun tE ht hW => ⟨0, rfl, by first | (simp only [isB, bI, eq_true c1, eq_self, ↓reduceIte, Bool.false_eq_true, Bool.not_false, Bool.not_true, Bool.and_true, Bool.and_false, Bool.true_and, Bool.false_and, decide_true, decide_false] <;> first | done | decide) | (simp only [isB, bI, c1, eq_self, ↓reduceIte, Bool.false_eq_true, Bool.not_false, Bool.not_true, Bool.and_true, Bool.and_false, Bool.true_and, Bool.false_and, decide_true, decide_false] <;> first | done | decide) | (simp [isB, bI, c1]; done) | (simp [isB, bI, eq_true c1]; done), ht⟩) (fun q h => by cases h) dX1_isBelow_14
  · refine lv_iload_n hx hb dX1_isBelow_4 rfl (lv_at hl 0 rfl) ?_
    refine lv_iload_n hx hb dX1_isBelow_5 rfl (lv_at hl 1 rfl) ?_
    refine lv_icmp_ge (tgt := 13) hx hb dX1_isBelow_6 (by decide) (fun c2 => ?_) (fun c2 => ?_)
    · refine lv_iconst (v := 0) hx hb dX1_isBelow_13 (by decide) ?_
      exact W.zret (v := 0) hx hb hr rfl (fun tE ht hW => ⟨0, rfl, by first | (simp only [isB, bI, c1, eq_true c2, eq_self, ↓reduceIte, Bool.false_eq_true, Bool.not_false, Bool.not_true, Bool.and_true, Bool.and_false, Bool.true_and, Bool.false_and, decide_true, decide_false] <;> first | done | decide) | (simp only [isB, bI, c1, c2, eq_self, ↓reduceIte, Bool.false_eq_true, Bool.not_false, Bool.not_true, Bool.and_true, Bool.and_false, Bool.true_and, Bool.false_and, decide_true, decide_false] <;> first | done | decide) | (simp [isB, bI, c1, c2]; done) | (simp [isB, bI, c1, eq_true c2]; done), ht⟩) (fun q h => by cases h) dX1_isBelow_14
    · refine lv_iconst (v := 1) hx hb dX1_isBelow_9 (by decide) ?_
      refine lv_goto (tgt := 14) hx hb dX1_isBelow_10 (by decide) ?_
      exact W.zret (v := 1) hx hb hr rfl (fun tE ht hW => ⟨1, rfl, by first | (simp only [isB, bI, c1, c2, eq_self, ↓reduceIte, Bool.false_eq_true, Bool.not_false, Bool.not_true, Bool.and_true, Bool.and_false, Bool.true_and, Bool.false_and, decide_true, decide_false] <;> first | done | decide) | (simp [isB, bI, c1, c2]; done), ht⟩) (fun q h => by cases h) dX1_isBelow_14
set_option maxHeartbeats 8000000 in
set_option maxRecDepth 100000 in
theorem k_isStretch (l : Launch) (p0 p1 : Int32) : Met l yX1_isStretch wsX1_isStretch ({ frames := 0, cells := 0, slots := 0, locals := 0 }) (fun v _ => v = ([.int p0, .int p1] : List Value).toArray) (vp_Si (fun r => r = bI (fStr p0 p1))) 0 0 (fun _ => False) := by
  refine Met.ofW (cc := cX1_isStretch) (maxL := 2) (ret := (some .boolean)) (by decide) rfl ?_
  intro p e s m args below meth c s₁ B hml hv
  obtain rfl := hv
  have hx := B.exec
  have hb := B.bytes
  have hr := B.returns
  have hts := atoms_spec (ws := wsX1_isStretch) B.pre
  have hown : s.vm.findClass RX1 = some m.cls := findClass_of_methodNamed B.named
  have hlocks := B.notSynchronized
  have hl := lv_entry ([.int p0, .int p1]) (n := 2) (Nat.le_of_ble_eq_true rfl)
  rw [lg_entry_eq]
  generalize (lg_sl ([.int p0, .int p1]) ++ List.replicate (2 - (lg_sl ([.int p0, .int p1])).length) Slot.unset).toArray = ls at hl ⊢
  have hl : lv_has ls 2 [(0, .int p0), (1, .int p1)] := hl
  refine lv_iload_n hx hb dX1_isStretch_0 rfl (lv_at hl 0 rfl) ?_
  refine lv_if_lt (tgt := 24) hx hb dX1_isStretch_1 (by decide) (fun c1 => ?_) (fun c1 => ?_)
  · refine lv_iconst (v := 0) hx hb dX1_isStretch_24 (by decide) ?_
    exact W.zret (v := 0) hx hb hr rfl (fun tE ht hW => ⟨0, rfl, by first | (simp only [fStr, bI, eq_true c1, eq_self, ↓reduceIte, Bool.false_eq_true, Bool.not_false, Bool.not_true, Bool.and_true, Bool.and_false, Bool.true_and, Bool.false_and, decide_true, decide_false] <;> first | done | decide) | (simp only [fStr, bI, c1, eq_self, ↓reduceIte, Bool.false_eq_true, Bool.not_false, Bool.not_true, Bool.and_true, Bool.and_false, Bool.true_and, Bool.false_and, decide_true, decide_false] <;> first | done | decide) | (simp [fStr, bI, c1]; done) | (simp [fStr, bI, eq_true c1]; done), ht⟩) (fun q h => by cases h) dX1_isStretch_25
  · refine lv_iload_n hx hb dX1_isStretch_4 rfl (lv_at hl 1 rfl) ?_
    refine lv_if_lt (tgt := 24) hx hb dX1_isStretch_5 (by decide) (fun c2 => ?_) (fun c2 => ?_)
    · refine lv_iconst (v := 0) hx hb dX1_isStretch_24 (by decide) ?_
      exact W.zret (v := 0) hx hb hr rfl (fun tE ht hW => ⟨0, rfl, by first | (simp only [fStr, bI, c1, eq_true c2, eq_self, ↓reduceIte, Bool.false_eq_true, Bool.not_false, Bool.not_true, Bool.and_true, Bool.and_false, Bool.true_and, Bool.false_and, decide_true, decide_false] <;> first | done | decide) | (simp only [fStr, bI, c1, c2, eq_self, ↓reduceIte, Bool.false_eq_true, Bool.not_false, Bool.not_true, Bool.and_true, Bool.and_false, Bool.true_and, Bool.false_and, decide_true, decide_false] <;> first | done | decide) | (simp [fStr, bI, c1, c2]; done) | (simp [fStr, bI, c1, eq_true c2]; done), ht⟩) (fun q h => by cases h) dX1_isStretch_25
    · refine lv_iload_n hx hb dX1_isStretch_8 rfl (lv_at hl 1 rfl) ?_
      refine lv_iconst (v := 4) hx hb dX1_isStretch_9 (by decide) ?_
      refine lv_icmp_gt (tgt := 24) hx hb dX1_isStretch_10 (by decide) (fun c3 => ?_) (fun c3 => ?_)
      · refine lv_iconst (v := 0) hx hb dX1_isStretch_24 (by decide) ?_
        exact W.zret (v := 0) hx hb hr rfl (fun tE ht hW => ⟨0, rfl, by first | (simp only [fStr, bI, c1, c2, eq_true c3, eq_self, ↓reduceIte, Bool.false_eq_true, Bool.not_false, Bool.not_true, Bool.and_true, Bool.and_false, Bool.true_and, Bool.false_and, decide_true, decide_false] <;> first | done | decide) | (simp only [fStr, bI, c1, c2, c3, eq_self, ↓reduceIte, Bool.false_eq_true, Bool.not_false, Bool.not_true, Bool.and_true, Bool.and_false, Bool.true_and, Bool.false_and, decide_true, decide_false] <;> first | done | decide) | (simp [fStr, bI, c1, c2, c3]; done) | (simp [fStr, bI, c1, c2, eq_true c3]; done), ht⟩) (fun q h => by cases h) dX1_isStretch_25
      · refine lv_iload_n hx hb dX1_isStretch_13 rfl (lv_at hl 0 rfl) ?_
        refine lv_iconst (v := 4) hx hb dX1_isStretch_14 (by decide) ?_
        refine lv_iload_n hx hb dX1_isStretch_15 rfl (lv_at hl 1 rfl) ?_
        refine lv_isub hx hb dX1_isStretch_16 ?_
        refine lv_icmp_gt (tgt := 24) hx hb dX1_isStretch_17 (by decide) (fun c4 => ?_) (fun c4 => ?_)
        · refine lv_iconst (v := 0) hx hb dX1_isStretch_24 (by decide) ?_
          exact W.zret (v := 0) hx hb hr rfl (fun tE ht hW => ⟨0, rfl, by first | (simp only [fStr, bI, c1, c2, c3, eq_true c4, eq_self, ↓reduceIte, Bool.false_eq_true, Bool.not_false, Bool.not_true, Bool.and_true, Bool.and_false, Bool.true_and, Bool.false_and, decide_true, decide_false] <;> first | done | decide) | (simp only [fStr, bI, c1, c2, c3, c4, eq_self, ↓reduceIte, Bool.false_eq_true, Bool.not_false, Bool.not_true, Bool.and_true, Bool.and_false, Bool.true_and, Bool.false_and, decide_true, decide_false] <;> first | done | decide) | (simp [fStr, bI, c1, c2, c3, c4]; done) | (simp [fStr, bI, c1, c2, c3, eq_true c4]; done), ht⟩) (fun q h => by cases h) dX1_isStretch_25
        · refine lv_iconst (v := 1) hx hb dX1_isStretch_20 (by decide) ?_
          refine lv_goto (tgt := 25) hx hb dX1_isStretch_21 (by decide) ?_
          exact W.zret (v := 1) hx hb hr rfl (fun tE ht hW => ⟨1, rfl, by first | (simp only [fStr, bI, c1, c2, c3, c4, eq_self, ↓reduceIte, Bool.false_eq_true, Bool.not_false, Bool.not_true, Bool.and_true, Bool.and_false, Bool.true_and, Bool.false_and, decide_true, decide_false] <;> first | done | decide) | (simp [fStr, bI, c1, c2, c3, c4]; done), ht⟩) (fun q h => by cases h) dX1_isStretch_25
set_option maxHeartbeats 8000000 in
set_option maxRecDepth 100000 in
theorem k_holds (l : Launch) (p0 p1 : Int32) : Met l yX1_holds wsX1_holds ({ frames := 0, cells := 0, slots := 0, locals := 0 }) (fun v _ => v = ([.int p0, .int p1] : List Value).toArray) (vp_Si (fun r => r = bI (fHold p0 p1))) 0 0 (fun _ => False) := by
  refine Met.ofW (cc := cX1_holds) (maxL := 2) (ret := (some .boolean)) (by decide) rfl ?_
  intro p e s m args below meth c s₁ B hml hv
  obtain rfl := hv
  have hx := B.exec
  have hb := B.bytes
  have hr := B.returns
  have hts := atoms_spec (ws := wsX1_holds) B.pre
  have hown : s.vm.findClass RX1 = some m.cls := findClass_of_methodNamed B.named
  have hlocks := B.notSynchronized
  have hl := lv_entry ([.int p0, .int p1]) (n := 2) (Nat.le_of_ble_eq_true rfl)
  rw [lg_entry_eq]
  generalize (lg_sl ([.int p0, .int p1]) ++ List.replicate (2 - (lg_sl ([.int p0, .int p1])).length) Slot.unset).toArray = ls at hl ⊢
  have hl : lv_has ls 2 [(0, .int p0), (1, .int p1)] := hl
  refine lv_iload_n hx hb dX1_holds_0 rfl (lv_at hl 0 rfl) ?_
  refine lv_iconst (v := 1) hx hb dX1_holds_1 (by decide) ?_
  refine lv_iload_n hx hb dX1_holds_2 rfl (lv_at hl 1 rfl) ?_
  refine lv_ishl hx hb dX1_holds_3 ?_
  refine lv_iand hx hb dX1_holds_4 ?_
  refine lv_if_eq (tgt := 12) hx hb dX1_holds_5 (by decide) (fun c1 => ?_) (fun c1 => ?_)
  · refine lv_iconst (v := 0) hx hb dX1_holds_12 (by decide) ?_
    exact W.zret (v := 0) hx hb hr rfl (fun tE ht hW => ⟨0, rfl, by first | (simp only [fHold, bI, eq_true c1, eq_self, ↓reduceIte, Bool.false_eq_true, Bool.not_false, Bool.not_true, Bool.and_true, Bool.and_false, Bool.true_and, Bool.false_and, decide_true, decide_false] <;> first | done | decide) | (simp only [fHold, bI, c1, eq_self, ↓reduceIte, Bool.false_eq_true, Bool.not_false, Bool.not_true, Bool.and_true, Bool.and_false, Bool.true_and, Bool.false_and, decide_true, decide_false] <;> first | done | decide) | (simp [fHold, bI, c1]; done) | (simp [fHold, bI, eq_true c1]; done), ht⟩) (fun q h => by cases h) dX1_holds_13
  · refine lv_iconst (v := 1) hx hb dX1_holds_8 (by decide) ?_
    refine lv_goto (tgt := 13) hx hb dX1_holds_9 (by decide) ?_
    exact W.zret (v := 1) hx hb hr rfl (fun tE ht hW => ⟨1, rfl, by first | (simp only [fHold, bI, c1, eq_self, ↓reduceIte, Bool.false_eq_true, Bool.not_false, Bool.not_true, Bool.and_true, Bool.and_false, Bool.true_and, Bool.false_and, decide_true, decide_false] <;> first | done | decide) | (simp [fHold, bI, c1]; done), ht⟩) (fun q h => by cases h) dX1_holds_13
set_option maxHeartbeats 8000000 in
set_option maxRecDepth 100000 in
theorem k_markOf (l : Launch) (p0 : Int32) : Met l yX1_markOf wsX1_markOf ({ frames := 0, cells := 0, slots := 0, locals := 0 }) (fun v _ => v = ([.int p0] : List Value).toArray) (vp_Si (fun r => r = (fMark p0))) 0 0 (fun _ => False) := by
  refine Met.ofW (cc := cX1_markOf) (maxL := 1) (ret := (some .int)) (by decide) rfl ?_
  intro p e s m args below meth c s₁ B hml hv
  obtain rfl := hv
  have hx := B.exec
  have hb := B.bytes
  have hr := B.returns
  have hts := atoms_spec (ws := wsX1_markOf) B.pre
  have hown : s.vm.findClass RX1 = some m.cls := findClass_of_methodNamed B.named
  have hlocks := B.notSynchronized
  have hl := lv_entry ([.int p0]) (n := 1) (Nat.le_of_ble_eq_true rfl)
  rw [lg_entry_eq]
  generalize (lg_sl ([.int p0]) ++ List.replicate (1 - (lg_sl ([.int p0])).length) Slot.unset).toArray = ls at hl ⊢
  have hl : lv_has ls 1 [(0, .int p0)] := hl
  refine lv_iload_n hx hb dX1_markOf_0 rfl (lv_at hl 0 rfl) ?_
  by_cases c1 : p0 = 4
  · refine lv_tableIn (off := 27) (tgt := 28) hx hb dX1_markOf_1 (by rw [c1]; decide) (by rw [c1]; decide) (by rw [c1]; rfl) (by decide) ?_
    refine lv_iconst (v := 2) hx hb dX1_markOf_28 (by decide) ?_
    exact W.iret (v := 2) hx hb hr (fun tE ht hW => ⟨2, rfl, by first | (simp only [fMark, eq_true c1, eq_self, ↓reduceIte, Bool.false_eq_true, Bool.not_false, Bool.not_true, Bool.and_true, Bool.and_false, Bool.true_and, Bool.false_and, decide_true, decide_false] <;> first | done | decide) | (simp only [fMark, c1, eq_self, ↓reduceIte, Bool.false_eq_true, Bool.not_false, Bool.not_true, Bool.and_true, Bool.and_false, Bool.true_and, Bool.false_and, decide_true, decide_false] <;> first | done | decide) | (simp [fMark, c1]; done) | (simp [fMark, eq_true c1]; done), ht⟩) (fun q h => by cases h) dX1_markOf_29
  by_cases c2 : p0 = 5
  · refine lv_tableIn (off := 29) (tgt := 30) hx hb dX1_markOf_1 (by rw [c2]; decide) (by rw [c2]; decide) (by rw [c2]; rfl) (by decide) ?_
    refine lv_iconst (v := 3) hx hb dX1_markOf_30 (by decide) ?_
    exact W.iret (v := 3) hx hb hr (fun tE ht hW => ⟨3, rfl, by first | (simp only [fMark, c1, eq_true c2, eq_self, ↓reduceIte, Bool.false_eq_true, Bool.not_false, Bool.not_true, Bool.and_true, Bool.and_false, Bool.true_and, Bool.false_and, decide_true, decide_false] <;> first | done | decide) | (simp only [fMark, c1, c2, eq_self, ↓reduceIte, Bool.false_eq_true, Bool.not_false, Bool.not_true, Bool.and_true, Bool.and_false, Bool.true_and, Bool.false_and, decide_true, decide_false] <;> first | done | decide) | (simp [fMark, c1, c2]; done) | (simp [fMark, c1, eq_true c2]; done), ht⟩) (fun q h => by cases h) dX1_markOf_31
  by_cases c3 : p0 = 6
  · refine lv_tableIn (off := 29) (tgt := 30) hx hb dX1_markOf_1 (by rw [c3]; decide) (by rw [c3]; decide) (by rw [c3]; rfl) (by decide) ?_
    refine lv_iconst (v := 3) hx hb dX1_markOf_30 (by decide) ?_
    exact W.iret (v := 3) hx hb hr (fun tE ht hW => ⟨3, rfl, by first | (simp only [fMark, c1, c2, eq_true c3, eq_self, ↓reduceIte, Bool.false_eq_true, Bool.not_false, Bool.not_true, Bool.and_true, Bool.and_false, Bool.true_and, Bool.false_and, decide_true, decide_false] <;> first | done | decide) | (simp only [fMark, c1, c2, c3, eq_self, ↓reduceIte, Bool.false_eq_true, Bool.not_false, Bool.not_true, Bool.and_true, Bool.and_false, Bool.true_and, Bool.false_and, decide_true, decide_false] <;> first | done | decide) | (simp [fMark, c1, c2, c3]; done) | (simp [fMark, c1, c2, eq_true c3]; done), ht⟩) (fun q h => by cases h) dX1_markOf_31
  refine lv_tableOut (tgt := 32) hx hb dX1_markOf_1 (by have z0 := lv_neT (k := 4) (a := 4) c1 (by decide); have z1 := lv_neT (k := 5) (a := 5) c2 (by decide); have z2 := lv_neT (k := 6) (a := 6) c3 (by decide); omega) (by decide) ?_
  refine lv_iconst (v := 1) hx hb dX1_markOf_32 (by decide) ?_
  exact W.iret (v := 1) hx hb hr (fun tE ht hW => ⟨1, rfl, by first | (simp only [fMark, c1, c2, c3, eq_self, ↓reduceIte, Bool.false_eq_true, Bool.not_false, Bool.not_true, Bool.and_true, Bool.and_false, Bool.true_and, Bool.false_and, decide_true, decide_false] <;> first | done | decide) | (simp [fMark, c1, c2, c3]; done), ht⟩) (fun q h => by cases h) dX1_markOf_33
set_option maxHeartbeats 8000000 in
set_option maxRecDepth 100000 in
theorem k_toneOf (l : Launch) (p0 : Int32) : Met l yX1_toneOf wsX1_toneOf ({ frames := 0, cells := 0, slots := 0, locals := 0 }) (fun v _ => v = ([.int p0] : List Value).toArray) (vp_Si (fun r => r = (fTone p0))) 0 0 (fun _ => False) := by
  refine Met.ofW (cc := cX1_toneOf) (maxL := 1) (ret := (some .int)) (by decide) rfl ?_
  intro p e s m args below meth c s₁ B hml hv
  obtain rfl := hv
  have hx := B.exec
  have hb := B.bytes
  have hr := B.returns
  have hts := atoms_spec (ws := wsX1_toneOf) B.pre
  have hown : s.vm.findClass RX1 = some m.cls := findClass_of_methodNamed B.named
  have hlocks := B.notSynchronized
  have hl := lv_entry ([.int p0]) (n := 1) (Nat.le_of_ble_eq_true rfl)
  rw [lg_entry_eq]
  generalize (lg_sl ([.int p0]) ++ List.replicate (1 - (lg_sl ([.int p0])).length) Slot.unset).toArray = ls at hl ⊢
  have hl : lv_has ls 1 [(0, .int p0)] := hl
  refine lv_iload_n hx hb dX1_toneOf_0 rfl (lv_at hl 0 rfl) ?_
  refine lv_iconst (v := 1) hx hb dX1_toneOf_1 (by decide) ?_
  refine lv_icmp_eq (tgt := 11) hx hb dX1_toneOf_2 (by decide) (fun c1 => ?_) (fun c1 => ?_)
  · refine lv_bipush (v := 7) hx hb dX1_toneOf_11 (by decide) ?_
    refine lv_goto (tgt := 17) hx hb dX1_toneOf_13 (by decide) ?_
    exact W.iret (v := 7) hx hb hr (fun tE ht hW => ⟨7, rfl, by first | (simp only [fTone, eq_true c1, eq_self, ↓reduceIte, Bool.false_eq_true, Bool.not_false, Bool.not_true, Bool.and_true, Bool.and_false, Bool.true_and, Bool.false_and, decide_true, decide_false] <;> first | done | decide) | (simp only [fTone, c1, eq_self, ↓reduceIte, Bool.false_eq_true, Bool.not_false, Bool.not_true, Bool.and_true, Bool.and_false, Bool.true_and, Bool.false_and, decide_true, decide_false] <;> first | done | decide) | (simp [fTone, c1]; done) | (simp [fTone, eq_true c1]; done), ht⟩) (fun q h => by cases h) dX1_toneOf_17
  · refine lv_iload_n hx hb dX1_toneOf_5 rfl (lv_at hl 0 rfl) ?_
    refine lv_bipush (v := 8) hx hb dX1_toneOf_6 (by decide) ?_
    refine lv_icmp_ne (tgt := 16) hx hb dX1_toneOf_8 (by decide) (fun c2 => ?_) (fun c2 => ?_)
    · refine lv_iconst (v := 5) hx hb dX1_toneOf_16 (by decide) ?_
      exact W.iret (v := 5) hx hb hr (fun tE ht hW => ⟨5, rfl, by first | (simp only [fTone, c1, c2, eq_self, ↓reduceIte, Bool.false_eq_true, Bool.not_false, Bool.not_true, Bool.and_true, Bool.and_false, Bool.true_and, Bool.false_and, decide_true, decide_false] <;> first | done | decide) | (simp [fTone, c1, c2]; done), ht⟩) (fun q h => by cases h) dX1_toneOf_17
    · refine lv_bipush (v := 7) hx hb dX1_toneOf_11 (by decide) ?_
      refine lv_goto (tgt := 17) hx hb dX1_toneOf_13 (by decide) ?_
      exact W.iret (v := 7) hx hb hr (fun tE ht hW => ⟨7, rfl, by first | (simp only [fTone, c1, eq_true c2, eq_self, ↓reduceIte, Bool.false_eq_true, Bool.not_false, Bool.not_true, Bool.and_true, Bool.and_false, Bool.true_and, Bool.false_and, decide_true, decide_false] <;> first | done | decide) | (simp only [fTone, c1, c2, eq_self, ↓reduceIte, Bool.false_eq_true, Bool.not_false, Bool.not_true, Bool.and_true, Bool.and_false, Bool.true_and, Bool.false_and, decide_true, decide_false] <;> first | done | decide) | (simp [fTone, c1, c2]; done) | (simp [fTone, c1, eq_true c2]; done), ht⟩) (fun q h => by cases h) dX1_toneOf_17
set_option maxHeartbeats 8000000 in
set_option maxRecDepth 100000 in
theorem k_rankOf (l : Launch) (p0 p1 : Int32) : Met l yX1_rankOf wsX1_rankOf ({ frames := 0, cells := 0, slots := 0, locals := 0 }) (fun v _ => v = ([.int p0, .int p1] : List Value).toArray) (vp_Si (fun r => r = (fRank p0 p1))) 0 0 (fun _ => False) := by
  refine Met.ofW (cc := cX1_rankOf) (maxL := 2) (ret := (some .int)) (by decide) rfl ?_
  intro p e s m args below meth c s₁ B hml hv
  obtain rfl := hv
  have hx := B.exec
  have hb := B.bytes
  have hr := B.returns
  have hts := atoms_spec (ws := wsX1_rankOf) B.pre
  have hown : s.vm.findClass RX1 = some m.cls := findClass_of_methodNamed B.named
  have hlocks := B.notSynchronized
  have hl := lv_entry ([.int p0, .int p1]) (n := 2) (Nat.le_of_ble_eq_true rfl)
  rw [lg_entry_eq]
  generalize (lg_sl ([.int p0, .int p1]) ++ List.replicate (2 - (lg_sl ([.int p0, .int p1])).length) Slot.unset).toArray = ls at hl ⊢
  have hl : lv_has ls 2 [(0, .int p0), (1, .int p1)] := hl
  refine lv_iload_n hx hb dX1_rankOf_0 rfl (lv_at hl 0 rfl) ?_
  by_cases c1 : p0 = 4
  · refine lv_lookup (off := 27) (tgt := 28) hx hb dX1_rankOf_1 (by decide) (by rw [c1]; rfl) (by decide) ?_
    refine lv_iload_n hx hb dX1_rankOf_28 rfl (lv_at hl 1 rfl) ?_
    refine lv_iconst (v := 2) hx hb dX1_rankOf_29 (by decide) ?_
    refine lv_iadd hx hb dX1_rankOf_30 ?_
    exact W.iret (v := (p1 + 2)) hx hb hr (fun tE ht hW => ⟨(p1 + 2), rfl, by first | (simp only [fRank, eq_true c1, eq_self, ↓reduceIte, Bool.false_eq_true, Bool.not_false, Bool.not_true, Bool.and_true, Bool.and_false, Bool.true_and, Bool.false_and, decide_true, decide_false] <;> first | done | decide) | (simp only [fRank, c1, eq_self, ↓reduceIte, Bool.false_eq_true, Bool.not_false, Bool.not_true, Bool.and_true, Bool.and_false, Bool.true_and, Bool.false_and, decide_true, decide_false] <;> first | done | decide) | (simp [fRank, c1]; done) | (simp [fRank, eq_true c1]; done), ht⟩) (fun q h => by cases h) dX1_rankOf_31
  by_cases c2 : p0 = 6
  · refine lv_lookup (off := 31) (tgt := 32) hx hb dX1_rankOf_1 (by decide) (by rw [c2]; rfl) (by decide) ?_
    refine lv_iload_n hx hb dX1_rankOf_32 rfl (lv_at hl 1 rfl) ?_
    refine lv_bipush (v := 6) hx hb dX1_rankOf_33 (by decide) ?_
    refine lv_iadd hx hb dX1_rankOf_35 ?_
    exact W.iret (v := (p1 + 6)) hx hb hr (fun tE ht hW => ⟨(p1 + 6), rfl, by first | (simp only [fRank, c1, eq_true c2, eq_self, ↓reduceIte, Bool.false_eq_true, Bool.not_false, Bool.not_true, Bool.and_true, Bool.and_false, Bool.true_and, Bool.false_and, decide_true, decide_false] <;> first | done | decide) | (simp only [fRank, c1, c2, eq_self, ↓reduceIte, Bool.false_eq_true, Bool.not_false, Bool.not_true, Bool.and_true, Bool.and_false, Bool.true_and, Bool.false_and, decide_true, decide_false] <;> first | done | decide) | (simp [fRank, c1, c2]; done) | (simp [fRank, c1, eq_true c2]; done), ht⟩) (fun q h => by cases h) dX1_rankOf_36
  refine lv_lookup (off := 36) (tgt := 37) hx hb dX1_rankOf_1 (by decide) (by show Op.lookupswitch.offset [(4, 27), (6, 31)] 36 _ = 36; rw [lv_osw (k := 4) c1 (by decide), lv_osw (k := 6) c2 (by decide)]; rfl) (by decide) ?_
  refine lv_iload_n hx hb dX1_rankOf_37 rfl (lv_at hl 1 rfl) ?_
  refine lv_iconst (v := 1) hx hb dX1_rankOf_38 (by decide) ?_
  refine lv_iadd hx hb dX1_rankOf_39 ?_
  exact W.iret (v := (p1 + 1)) hx hb hr (fun tE ht hW => ⟨(p1 + 1), rfl, by first | (simp only [fRank, c1, c2, eq_self, ↓reduceIte, Bool.false_eq_true, Bool.not_false, Bool.not_true, Bool.and_true, Bool.and_false, Bool.true_and, Bool.false_and, decide_true, decide_false] <;> first | done | decide) | (simp [fRank, c1, c2]; done), ht⟩) (fun q h => by cases h) dX1_rankOf_40
set_option maxHeartbeats 8000000 in
set_option maxRecDepth 100000 in
theorem k_withFailure (l : Launch) (p0 p1 : Int32) : Met l yX1_withFailure wsX1_withFailure ({ frames := 0, cells := 0, slots := 0, locals := 0 }) (fun v _ => v = ([.int p0, .int p1] : List Value).toArray) (vp_Si (fun r => r = (fFail p0 p1))) 0 0 (fun _ => False) := by
  refine Met.ofW (cc := cX1_withFailure) (maxL := 2) (ret := (some .int)) (by decide) rfl ?_
  intro p e s m args below meth c s₁ B hml hv
  obtain rfl := hv
  have hx := B.exec
  have hb := B.bytes
  have hr := B.returns
  have hts := atoms_spec (ws := wsX1_withFailure) B.pre
  have hown : s.vm.findClass RX1 = some m.cls := findClass_of_methodNamed B.named
  have hlocks := B.notSynchronized
  have hl := lv_entry ([.int p0, .int p1]) (n := 2) (Nat.le_of_ble_eq_true rfl)
  rw [lg_entry_eq]
  generalize (lg_sl ([.int p0, .int p1]) ++ List.replicate (2 - (lg_sl ([.int p0, .int p1])).length) Slot.unset).toArray = ls at hl ⊢
  have hl : lv_has ls 2 [(0, .int p0), (1, .int p1)] := hl
  refine lv_iload_n hx hb dX1_withFailure_0 rfl (lv_at hl 0 rfl) ?_
  refine lv_if_ne (tgt := 11) hx hb dX1_withFailure_1 (by decide) (fun c1 => ?_) (fun c1 => ?_)
  · refine lv_iload_n hx hb dX1_withFailure_11 rfl (lv_at hl 0 rfl) ?_
    refine lv_iconst (v := 1) hx hb dX1_withFailure_12 (by decide) ?_
    refine lv_iadd hx hb dX1_withFailure_13 ?_
    exact W.iret (v := (p0 + 1)) hx hb hr (fun tE ht hW => ⟨(p0 + 1), rfl, by first | (simp only [fFail, c1, eq_self, ↓reduceIte, Bool.false_eq_true, Bool.not_false, Bool.not_true, Bool.and_true, Bool.and_false, Bool.true_and, Bool.false_and, decide_true, decide_false] <;> first | done | decide) | (simp [fFail, c1]; done), ht⟩) (fun q h => by cases h) dX1_withFailure_14
  · refine lv_bipush (v := 100) hx hb dX1_withFailure_4 (by decide) ?_
    refine lv_iload_n hx hb dX1_withFailure_6 rfl (lv_at hl 1 rfl) ?_
    refine lv_imul hx hb dX1_withFailure_7 ?_
    refine lv_goto (tgt := 14) hx hb dX1_withFailure_8 (by decide) ?_
    exact W.iret (v := (100 * p1)) hx hb hr (fun tE ht hW => ⟨(100 * p1), rfl, by first | (simp only [fFail, eq_true c1, eq_self, ↓reduceIte, Bool.false_eq_true, Bool.not_false, Bool.not_true, Bool.and_true, Bool.and_false, Bool.true_and, Bool.false_and, decide_true, decide_false] <;> first | done | decide) | (simp only [fFail, c1, eq_self, ↓reduceIte, Bool.false_eq_true, Bool.not_false, Bool.not_true, Bool.and_true, Bool.and_false, Bool.true_and, Bool.false_and, decide_true, decide_false] <;> first | done | decide) | (simp [fFail, c1]; done) | (simp [fFail, eq_true c1]; done), ht⟩) (fun q h => by cases h) dX1_withFailure_14
set_option maxHeartbeats 8000000 in
set_option maxRecDepth 100000 in
theorem k_workByWord (l : Launch) (p0 p1 : Int32) : Met l yX1_workByWord wsX1_workByWord ({ frames := 0, cells := 0, slots := 0, locals := 0 }) (fun v _ => v = ([.int p0, .int p1] : List Value).toArray) (vp_Si (fun r => r = (fWord p0 p1))) 0 0 (fun _ => False) := by
  refine Met.ofW (cc := cX1_workByWord) (maxL := 2) (ret := (some .int)) (by decide) rfl ?_
  intro p e s m args below meth c s₁ B hml hv
  obtain rfl := hv
  have hx := B.exec
  have hb := B.bytes
  have hr := B.returns
  have hts := atoms_spec (ws := wsX1_workByWord) B.pre
  have hown : s.vm.findClass RX1 = some m.cls := findClass_of_methodNamed B.named
  have hlocks := B.notSynchronized
  have hl := lv_entry ([.int p0, .int p1]) (n := 2) (Nat.le_of_ble_eq_true rfl)
  rw [lg_entry_eq]
  generalize (lg_sl ([.int p0, .int p1]) ++ List.replicate (2 - (lg_sl ([.int p0, .int p1])).length) Slot.unset).toArray = ls at hl ⊢
  have hl : lv_has ls 2 [(0, .int p0), (1, .int p1)] := hl
  refine lv_iload_n hx hb dX1_workByWord_0 rfl (lv_at hl 1 rfl) ?_
  by_cases c1 : p1 = 0
  · refine lv_tableIn (off := 27) (tgt := 28) hx hb dX1_workByWord_1 (by rw [c1]; decide) (by rw [c1]; decide) (by rw [c1]; rfl) (by decide) ?_
    refine lv_iload_n hx hb dX1_workByWord_28 rfl (lv_at hl 0 rfl) ?_
    refine lv_iconst (v := 1) hx hb dX1_workByWord_29 (by decide) ?_
    refine lv_iadd hx hb dX1_workByWord_30 ?_
    exact W.iret (v := (p0 + 1)) hx hb hr (fun tE ht hW => ⟨(p0 + 1), rfl, by first | (simp only [fWord, eq_true c1, eq_self, ↓reduceIte, Bool.false_eq_true, Bool.not_false, Bool.not_true, Bool.and_true, Bool.and_false, Bool.true_and, Bool.false_and, decide_true, decide_false] <;> first | done | decide) | (simp only [fWord, c1, eq_self, ↓reduceIte, Bool.false_eq_true, Bool.not_false, Bool.not_true, Bool.and_true, Bool.and_false, Bool.true_and, Bool.false_and, decide_true, decide_false] <;> first | done | decide) | (simp [fWord, c1]; done) | (simp [fWord, eq_true c1]; done), ht⟩) (fun q h => by cases h) dX1_workByWord_31
  by_cases c2 : p1 = 1
  · refine lv_tableIn (off := 31) (tgt := 32) hx hb dX1_workByWord_1 (by rw [c2]; decide) (by rw [c2]; decide) (by rw [c2]; rfl) (by decide) ?_
    refine lv_iload_n hx hb dX1_workByWord_32 rfl (lv_at hl 0 rfl) ?_
    refine lv_iconst (v := 2) hx hb dX1_workByWord_33 (by decide) ?_
    refine lv_iadd hx hb dX1_workByWord_34 ?_
    refine lv_iconst (v := 1) hx hb dX1_workByWord_35 (by decide) ?_
    refine lv_iadd hx hb dX1_workByWord_36 ?_
    exact W.iret (v := ((p0 + 2) + 1)) hx hb hr (fun tE ht hW => ⟨((p0 + 2) + 1), rfl, by first | (simp only [fWord, c1, eq_true c2, eq_self, ↓reduceIte, Bool.false_eq_true, Bool.not_false, Bool.not_true, Bool.and_true, Bool.and_false, Bool.true_and, Bool.false_and, decide_true, decide_false] <;> first | done | decide) | (simp only [fWord, c1, c2, eq_self, ↓reduceIte, Bool.false_eq_true, Bool.not_false, Bool.not_true, Bool.and_true, Bool.and_false, Bool.true_and, Bool.false_and, decide_true, decide_false] <;> first | done | decide) | (simp [fWord, c1, c2]; done) | (simp [fWord, c1, eq_true c2]; done), ht⟩) (fun q h => by cases h) dX1_workByWord_37
  by_cases c3 : p1 = 2
  · refine lv_tableIn (off := 37) (tgt := 38) hx hb dX1_workByWord_1 (by rw [c3]; decide) (by rw [c3]; decide) (by rw [c3]; rfl) (by decide) ?_
    refine lv_iload_n hx hb dX1_workByWord_38 rfl (lv_at hl 0 rfl) ?_
    refine lv_iconst (v := 4) hx hb dX1_workByWord_39 (by decide) ?_
    refine lv_iadd hx hb dX1_workByWord_40 ?_
    refine lv_iconst (v := 2) hx hb dX1_workByWord_41 (by decide) ?_
    refine lv_iadd hx hb dX1_workByWord_42 ?_
    refine lv_iconst (v := 1) hx hb dX1_workByWord_43 (by decide) ?_
    refine lv_iadd hx hb dX1_workByWord_44 ?_
    exact W.iret (v := (((p0 + 4) + 2) + 1)) hx hb hr (fun tE ht hW => ⟨(((p0 + 4) + 2) + 1), rfl, by first | (simp only [fWord, c1, c2, eq_true c3, eq_self, ↓reduceIte, Bool.false_eq_true, Bool.not_false, Bool.not_true, Bool.and_true, Bool.and_false, Bool.true_and, Bool.false_and, decide_true, decide_false] <;> first | done | decide) | (simp only [fWord, c1, c2, c3, eq_self, ↓reduceIte, Bool.false_eq_true, Bool.not_false, Bool.not_true, Bool.and_true, Bool.and_false, Bool.true_and, Bool.false_and, decide_true, decide_false] <;> first | done | decide) | (simp [fWord, c1, c2, c3]; done) | (simp [fWord, c1, c2, eq_true c3]; done), ht⟩) (fun q h => by cases h) dX1_workByWord_45
  refine lv_tableOut (tgt := 46) hx hb dX1_workByWord_1 (by have z0 := lv_neT (k := 0) (a := 0) c1 (by decide); have z1 := lv_neT (k := 1) (a := 1) c2 (by decide); have z2 := lv_neT (k := 2) (a := 2) c3 (by decide); omega) (by decide) ?_
  refine lv_iload_n hx hb dX1_workByWord_46 rfl (lv_at hl 0 rfl) ?_
  refine lv_ineg hx hb dX1_workByWord_47 ?_
  exact W.iret (v := (-p0)) hx hb hr (fun tE ht hW => ⟨(-p0), rfl, by first | (simp only [fWord, c1, c2, c3, eq_self, ↓reduceIte, Bool.false_eq_true, Bool.not_false, Bool.not_true, Bool.and_true, Bool.and_false, Bool.true_and, Bool.false_and, decide_true, decide_false] <;> first | done | decide) | (simp [fWord, c1, c2, c3]; done), ht⟩) (fun q h => by cases h) dX1_workByWord_48
set_option maxHeartbeats 8000000 in
set_option maxRecDepth 100000 in
theorem k_putAtToldPlace (l : Launch) (p0 : Int32) : Met l yX1_putAtToldPlace wsX1_putAtToldPlace ({ frames := 0, cells := 0, slots := 0, locals := 0 }) (fun v _ => v = ([.int p0] : List Value).toArray) (vp_Si (fun r => r = (fPlace p0))) 0 0 (fun _ => False) := by
  refine Met.ofW (cc := cX1_putAtToldPlace) (maxL := 3) (ret := (some .int)) (by decide) rfl ?_
  intro p e s m args below meth c s₁ B hml hv
  obtain rfl := hv
  have hx := B.exec
  have hb := B.bytes
  have hr := B.returns
  have hts := atoms_spec (ws := wsX1_putAtToldPlace) B.pre
  have hown : s.vm.findClass RX1 = some m.cls := findClass_of_methodNamed B.named
  have hlocks := B.notSynchronized
  have hl := lv_entry ([.int p0]) (n := 3) (Nat.le_of_ble_eq_true rfl)
  rw [lg_entry_eq]
  generalize (lg_sl ([.int p0]) ++ List.replicate (3 - (lg_sl ([.int p0])).length) Slot.unset).toArray = ls at hl ⊢
  have hl : lv_has ls 3 [(0, .int p0)] := hl
  refine lv_iload_n hx hb dX1_putAtToldPlace_0 rfl (lv_at hl 0 rfl) ?_
  refine lv_if_ne (tgt := 9) hx hb dX1_putAtToldPlace_1 (by decide) (fun c1 => ?_) (fun c1 => ?_)
  · refine lv_bipush (v := 7) hx hb dX1_putAtToldPlace_9 (by decide) ?_
    refine lv_istore_n (lv' := [(1, .int 7), (0, .int p0)]) hx hb dX1_putAtToldPlace_11 rfl hl (by decide) rfl (fun ls hl => ?_)
    refine lv_iload_n hx hb dX1_putAtToldPlace_12 rfl (lv_at hl 1 rfl) ?_
    refine lv_iconst (v := 1) hx hb dX1_putAtToldPlace_13 (by decide) ?_
    refine lv_icmp_ne (tgt := 22) hx hb dX1_putAtToldPlace_14 (by decide) (fun c2 => ?_) (fun c2 => ?_)
    · refine lv_bipush (v := 8) hx hb dX1_putAtToldPlace_22 (by decide) ?_
      refine lv_istore_n (lv' := [(2, .int 8), (1, .int 7), (0, .int p0)]) hx hb dX1_putAtToldPlace_24 rfl hl (by decide) rfl (fun ls hl => ?_)
      refine lv_iload_n hx hb dX1_putAtToldPlace_25 rfl (lv_at hl 1 rfl) ?_
      refine lv_sipush (v := 10000) hx hb dX1_putAtToldPlace_26 (by decide) ?_
      refine lv_imul hx hb dX1_putAtToldPlace_29 ?_
      refine lv_iload_n hx hb dX1_putAtToldPlace_30 rfl (lv_at hl 0 rfl) ?_
      refine lv_bipush (v := 100) hx hb dX1_putAtToldPlace_31 (by decide) ?_
      refine lv_imul hx hb dX1_putAtToldPlace_33 ?_
      refine lv_iadd hx hb dX1_putAtToldPlace_34 ?_
      refine lv_bipush (v := 9) hx hb dX1_putAtToldPlace_35 (by decide) ?_
      refine lv_iadd hx hb dX1_putAtToldPlace_37 ?_
      exact W.iret (v := (((7 * 10000) + (8 * 100)) + 9)) hx hb hr (fun tE ht hW => ⟨(((7 * 10000) + (8 * 100)) + 9), rfl, by first | (simp only [fPlace, c1, c2, eq_self, ↓reduceIte, Bool.false_eq_true, Bool.not_false, Bool.not_true, Bool.and_true, Bool.and_false, Bool.true_and, Bool.false_and, decide_true, decide_false] <;> first | done | decide) | (simp [fPlace, c1, c2]; done) | (exfalso; simp_all; done), ht⟩) (fun q h => by cases h) dX1_putAtToldPlace_38
    · refine lv_bipush (v := 25) hx hb dX1_putAtToldPlace_17 (by decide) ?_
      refine lv_goto (tgt := 24) hx hb dX1_putAtToldPlace_19 (by decide) ?_
      refine lv_istore_n (lv' := [(2, .int 25), (1, .int 7), (0, .int p0)]) hx hb dX1_putAtToldPlace_24 rfl hl (by decide) rfl (fun ls hl => ?_)
      refine lv_iload_n hx hb dX1_putAtToldPlace_25 rfl (lv_at hl 1 rfl) ?_
      refine lv_sipush (v := 10000) hx hb dX1_putAtToldPlace_26 (by decide) ?_
      refine lv_imul hx hb dX1_putAtToldPlace_29 ?_
      refine lv_iload_n hx hb dX1_putAtToldPlace_30 rfl (lv_at hl 0 rfl) ?_
      refine lv_bipush (v := 100) hx hb dX1_putAtToldPlace_31 (by decide) ?_
      refine lv_imul hx hb dX1_putAtToldPlace_33 ?_
      refine lv_iadd hx hb dX1_putAtToldPlace_34 ?_
      refine lv_bipush (v := 9) hx hb dX1_putAtToldPlace_35 (by decide) ?_
      refine lv_iadd hx hb dX1_putAtToldPlace_37 ?_
      exact W.iret (v := (((7 * 10000) + (25 * 100)) + 9)) hx hb hr (fun tE ht hW => ⟨(((7 * 10000) + (25 * 100)) + 9), rfl, by first | (simp only [fPlace, c1, eq_true c2, eq_self, ↓reduceIte, Bool.false_eq_true, Bool.not_false, Bool.not_true, Bool.and_true, Bool.and_false, Bool.true_and, Bool.false_and, decide_true, decide_false] <;> first | done | decide) | (simp only [fPlace, c1, c2, eq_self, ↓reduceIte, Bool.false_eq_true, Bool.not_false, Bool.not_true, Bool.and_true, Bool.and_false, Bool.true_and, Bool.false_and, decide_true, decide_false] <;> first | done | decide) | (simp [fPlace, c1, c2]; done) | (simp [fPlace, c1, eq_true c2]; done) | (exfalso; simp_all; done), ht⟩) (fun q h => by cases h) dX1_putAtToldPlace_38
  · refine lv_bipush (v := 25) hx hb dX1_putAtToldPlace_4 (by decide) ?_
    refine lv_goto (tgt := 11) hx hb dX1_putAtToldPlace_6 (by decide) ?_
    refine lv_istore_n (lv' := [(1, .int 25), (0, .int p0)]) hx hb dX1_putAtToldPlace_11 rfl hl (by decide) rfl (fun ls hl => ?_)
    refine lv_iload_n hx hb dX1_putAtToldPlace_12 rfl (lv_at hl 1 rfl) ?_
    refine lv_iconst (v := 1) hx hb dX1_putAtToldPlace_13 (by decide) ?_
    refine lv_icmp_ne (tgt := 22) hx hb dX1_putAtToldPlace_14 (by decide) (fun c3 => ?_) (fun c3 => ?_)
    · refine lv_bipush (v := 8) hx hb dX1_putAtToldPlace_22 (by decide) ?_
      refine lv_istore_n (lv' := [(2, .int 8), (1, .int 25), (0, .int p0)]) hx hb dX1_putAtToldPlace_24 rfl hl (by decide) rfl (fun ls hl => ?_)
      refine lv_iload_n hx hb dX1_putAtToldPlace_25 rfl (lv_at hl 1 rfl) ?_
      refine lv_sipush (v := 10000) hx hb dX1_putAtToldPlace_26 (by decide) ?_
      refine lv_imul hx hb dX1_putAtToldPlace_29 ?_
      refine lv_iload_n hx hb dX1_putAtToldPlace_30 rfl (lv_at hl 0 rfl) ?_
      refine lv_bipush (v := 100) hx hb dX1_putAtToldPlace_31 (by decide) ?_
      refine lv_imul hx hb dX1_putAtToldPlace_33 ?_
      refine lv_iadd hx hb dX1_putAtToldPlace_34 ?_
      refine lv_bipush (v := 9) hx hb dX1_putAtToldPlace_35 (by decide) ?_
      refine lv_iadd hx hb dX1_putAtToldPlace_37 ?_
      exact W.iret (v := (((25 * 10000) + (8 * 100)) + 9)) hx hb hr (fun tE ht hW => ⟨(((25 * 10000) + (8 * 100)) + 9), rfl, by first | (simp only [fPlace, eq_true c1, c3, eq_self, ↓reduceIte, Bool.false_eq_true, Bool.not_false, Bool.not_true, Bool.and_true, Bool.and_false, Bool.true_and, Bool.false_and, decide_true, decide_false] <;> first | done | decide) | (simp only [fPlace, c1, c3, eq_self, ↓reduceIte, Bool.false_eq_true, Bool.not_false, Bool.not_true, Bool.and_true, Bool.and_false, Bool.true_and, Bool.false_and, decide_true, decide_false] <;> first | done | decide) | (simp [fPlace, c1, c3]; done) | (simp [fPlace, eq_true c1, c3]; done) | (exfalso; simp_all; done), ht⟩) (fun q h => by cases h) dX1_putAtToldPlace_38
    · refine lv_bipush (v := 25) hx hb dX1_putAtToldPlace_17 (by decide) ?_
      refine lv_goto (tgt := 24) hx hb dX1_putAtToldPlace_19 (by decide) ?_
      refine lv_istore_n (lv' := [(2, .int 25), (1, .int 25), (0, .int p0)]) hx hb dX1_putAtToldPlace_24 rfl hl (by decide) rfl (fun ls hl => ?_)
      refine lv_iload_n hx hb dX1_putAtToldPlace_25 rfl (lv_at hl 1 rfl) ?_
      refine lv_sipush (v := 10000) hx hb dX1_putAtToldPlace_26 (by decide) ?_
      refine lv_imul hx hb dX1_putAtToldPlace_29 ?_
      refine lv_iload_n hx hb dX1_putAtToldPlace_30 rfl (lv_at hl 0 rfl) ?_
      refine lv_bipush (v := 100) hx hb dX1_putAtToldPlace_31 (by decide) ?_
      refine lv_imul hx hb dX1_putAtToldPlace_33 ?_
      refine lv_iadd hx hb dX1_putAtToldPlace_34 ?_
      refine lv_bipush (v := 9) hx hb dX1_putAtToldPlace_35 (by decide) ?_
      refine lv_iadd hx hb dX1_putAtToldPlace_37 ?_
      exact W.iret (v := (((25 * 10000) + (25 * 100)) + 9)) hx hb hr (fun tE ht hW => ⟨(((25 * 10000) + (25 * 100)) + 9), rfl, by first | (simp only [fPlace, eq_true c1, eq_true c3, eq_self, ↓reduceIte, Bool.false_eq_true, Bool.not_false, Bool.not_true, Bool.and_true, Bool.and_false, Bool.true_and, Bool.false_and, decide_true, decide_false] <;> first | done | decide) | (simp only [fPlace, c1, c3, eq_self, ↓reduceIte, Bool.false_eq_true, Bool.not_false, Bool.not_true, Bool.and_true, Bool.and_false, Bool.true_and, Bool.false_and, decide_true, decide_false] <;> first | done | decide) | (simp [fPlace, c1, c3]; done) | (simp [fPlace, eq_true c1, eq_true c3]; done) | (exfalso; simp_all; done), ht⟩) (fun q h => by cases h) dX1_putAtToldPlace_38
set_option maxHeartbeats 8000000 in
set_option maxRecDepth 100000 in
theorem k_quotientOfDoubles (l : Launch) (p0 p1 : Int32) : Met l yX1_quotientOfDoubles wsX1_quotientOfDoubles ({ frames := 0, cells := 0, slots := 0, locals := 0 }) (fun v _ => v = ([.int p0, .int p1] : List Value).toArray) (vp_Si (fun r => r = (fQuo p0 p1))) 0 0 (fun _ => False) := by
  refine Met.ofW (cc := cX1_quotientOfDoubles) (maxL := 2) (ret := (some .int)) (by decide) rfl ?_
  intro p e s m args below meth c s₁ B hml hv
  obtain rfl := hv
  have hx := B.exec
  have hb := B.bytes
  have hr := B.returns
  have hts := atoms_spec (ws := wsX1_quotientOfDoubles) B.pre
  have hown : s.vm.findClass RX1 = some m.cls := findClass_of_methodNamed B.named
  have hlocks := B.notSynchronized
  have hl := lv_entry ([.int p0, .int p1]) (n := 2) (Nat.le_of_ble_eq_true rfl)
  rw [lg_entry_eq]
  generalize (lg_sl ([.int p0, .int p1]) ++ List.replicate (2 - (lg_sl ([.int p0, .int p1])).length) Slot.unset).toArray = ls at hl ⊢
  have hl : lv_has ls 2 [(0, .int p0), (1, .int p1)] := hl
  refine lv_iload_n hx hb dX1_quotientOfDoubles_0 rfl (lv_at hl 1 rfl) ?_
  refine lv_if_ne (tgt := 24) hx hb dX1_quotientOfDoubles_1 (by decide) (fun c1 => ?_) (fun c1 => ?_)
  · refine lv_iload_n hx hb dX1_quotientOfDoubles_24 rfl (lv_at hl 0 rfl) ?_
    refine lv_i2d hx hb dX1_quotientOfDoubles_25 ?_
    refine lv_iload_n hx hb dX1_quotientOfDoubles_26 rfl (lv_at hl 1 rfl) ?_
    refine lv_i2d hx hb dX1_quotientOfDoubles_27 ?_
    refine lv_ddiv hx hb dX1_quotientOfDoubles_28 (nn_ddiv _ _ c1) ?_
    refine lv_d2i hx hb dX1_quotientOfDoubles_29 ?_
    exact W.iret (v := (FP.d2i (FP.ddiv (FP.i2d p0) (FP.i2d p1)))) hx hb hr (fun tE ht hW => ⟨(FP.d2i (FP.ddiv (FP.i2d p0) (FP.i2d p1))), rfl, by first | (simp only [fQuo, c1, eq_self, ↓reduceIte, Bool.false_eq_true, Bool.not_false, Bool.not_true, Bool.and_true, Bool.and_false, Bool.true_and, Bool.false_and, decide_true, decide_false] <;> first | done | decide) | (simp [fQuo, c1]; done), ht⟩) (fun q h => by cases h) dX1_quotientOfDoubles_30
  · refine lv_iload_n hx hb dX1_quotientOfDoubles_4 rfl (lv_at hl 0 rfl) ?_
    refine lv_if_ne (tgt := 12) hx hb dX1_quotientOfDoubles_5 (by decide) (fun c2 => ?_) (fun c2 => ?_)
    · refine lv_iload_n hx hb dX1_quotientOfDoubles_12 rfl (lv_at hl 0 rfl) ?_
      refine lv_if_le (tgt := 21) hx hb dX1_quotientOfDoubles_13 (by decide) (fun c3 => ?_) (fun c3 => ?_)
      · refine lv_ldc (v := (-2147483648)) hx hb hown (hts (.constant RX1 182 (-2147483648)) (by decide +kernel)) dX1_quotientOfDoubles_21 ?_
        exact W.iret (v := (-2147483648)) hx hb hr (fun tE ht hW => ⟨(-2147483648), rfl, by first | (simp only [fQuo, eq_true c1, c2, eq_true c3, eq_self, ↓reduceIte, Bool.false_eq_true, Bool.not_false, Bool.not_true, Bool.and_true, Bool.and_false, Bool.true_and, Bool.false_and, decide_true, decide_false] <;> first | done | decide) | (simp only [fQuo, c1, c2, c3, eq_self, ↓reduceIte, Bool.false_eq_true, Bool.not_false, Bool.not_true, Bool.and_true, Bool.and_false, Bool.true_and, Bool.false_and, decide_true, decide_false] <;> first | done | decide) | (simp [fQuo, c1, c2, c3]; done) | (simp [fQuo, eq_true c1, c2, eq_true c3]; done), ht⟩) (fun q h => by cases h) dX1_quotientOfDoubles_23
      · refine lv_ldc (v := 2147483647) hx hb hown (hts (.constant RX1 181 2147483647) (by decide +kernel)) dX1_quotientOfDoubles_16 ?_
        refine lv_goto (tgt := 23) hx hb dX1_quotientOfDoubles_18 (by decide) ?_
        exact W.iret (v := 2147483647) hx hb hr (fun tE ht hW => ⟨2147483647, rfl, by first | (simp only [fQuo, eq_true c1, c2, c3, eq_self, ↓reduceIte, Bool.false_eq_true, Bool.not_false, Bool.not_true, Bool.and_true, Bool.and_false, Bool.true_and, Bool.false_and, decide_true, decide_false] <;> first | done | decide) | (simp only [fQuo, c1, c2, c3, eq_self, ↓reduceIte, Bool.false_eq_true, Bool.not_false, Bool.not_true, Bool.and_true, Bool.and_false, Bool.true_and, Bool.false_and, decide_true, decide_false] <;> first | done | decide) | (simp [fQuo, c1, c2, c3]; done) | (simp [fQuo, eq_true c1, c2, c3]; done), ht⟩) (fun q h => by cases h) dX1_quotientOfDoubles_23
    · refine lv_iconst (v := 0) hx hb dX1_quotientOfDoubles_8 (by decide) ?_
      refine lv_goto (tgt := 23) hx hb dX1_quotientOfDoubles_9 (by decide) ?_
      exact W.iret (v := 0) hx hb hr (fun tE ht hW => ⟨0, rfl, by first | (simp only [fQuo, eq_true c1, eq_true c2, eq_self, ↓reduceIte, Bool.false_eq_true, Bool.not_false, Bool.not_true, Bool.and_true, Bool.and_false, Bool.true_and, Bool.false_and, decide_true, decide_false] <;> first | done | decide) | (simp only [fQuo, c1, c2, eq_self, ↓reduceIte, Bool.false_eq_true, Bool.not_false, Bool.not_true, Bool.and_true, Bool.and_false, Bool.true_and, Bool.false_and, decide_true, decide_false] <;> first | done | decide) | (simp [fQuo, c1, c2]; done) | (simp [fQuo, eq_true c1, eq_true c2]; done), ht⟩) (fun q h => by cases h) dX1_quotientOfDoubles_23
set_option maxHeartbeats 8000000 in
set_option maxRecDepth 100000 in
theorem k_decimalLength (l : Launch) (p0 : Int32) : Met l yX1_decimalLength wsX1_decimalLength ({ frames := 0, cells := 0, slots := 0, locals := 0 }) (fun v _ => v = ([.int p0] : List Value).toArray) (vp_Si (fun r => r = (fDec p0))) 0 0 (fun _ => False) := by
  refine Met.ofW (cc := cX1_decimalLength) (maxL := 4) (ret := (some .int)) (by decide) rfl ?_
  intro p e s m args below meth c s₁ B hml hv
  obtain rfl := hv
  have hx := B.exec
  have hb := B.bytes
  have hr := B.returns
  have hts := atoms_spec (ws := wsX1_decimalLength) B.pre
  have hown : s.vm.findClass RX1 = some m.cls := findClass_of_methodNamed B.named
  have hlocks := B.notSynchronized
  have hl := lv_entry ([.int p0]) (n := 4) (Nat.le_of_ble_eq_true rfl)
  rw [lg_entry_eq]
  generalize (lg_sl ([.int p0]) ++ List.replicate (4 - (lg_sl ([.int p0])).length) Slot.unset).toArray = ls at hl ⊢
  have hl : lv_has ls 4 [(0, .int p0)] := hl
  refine lv_iload_n hx hb dX1_decimalLength_0 rfl (lv_at hl 0 rfl) ?_
  refine lv_if_ge (tgt := 8) hx hb dX1_decimalLength_1 (by decide) (fun c1 => ?_) (fun c1 => ?_)
  · refine lv_iconst (v := 1) hx hb dX1_decimalLength_8 (by decide) ?_
    refine lv_istore_n (lv' := [(1, .int 1), (0, .int p0)]) hx hb dX1_decimalLength_9 rfl hl (by decide) rfl (fun ls hl => ?_)
    refine lv_iload_n hx hb dX1_decimalLength_10 rfl (lv_at hl 1 rfl) ?_
    refine lv_bipush (v := 10) hx hb dX1_decimalLength_11 (by decide) ?_
    refine lv_idiv hx hb dX1_decimalLength_13 (by decide) ?_
    refine lv_istore_n (lv' := [(2, .int (p0 / 10)), (1, .int 1), (0, .int p0)]) hx hb dX1_decimalLength_14 rfl hl (by decide) rfl (fun ls hl => ?_)
    refine lv_iconst (v := 1) hx hb dX1_decimalLength_15 (by decide) ?_
    refine lv_istore_n (lv' := [(3, .int 1), (2, .int (p0 / 10)), (1, .int 1), (0, .int p0)]) hx hb dX1_decimalLength_16 rfl hl (by decide) rfl (fun ls hl => ?_)
    refine lv_iload_n hx hb dX1_decimalLength_17 rfl (lv_at hl 0 rfl) ?_
    refine lv_bipush (v := 10) hx hb dX1_decimalLength_18 (by decide) ?_
    refine lv_icmp_ge (tgt := 41) hx hb dX1_decimalLength_20 (by decide) (fun cz => absurd cz (by decide)) (fun _ => ?_)
    refine lv_iload_n hx hb dX1_decimalLength_23 rfl (lv_at hl 1 rfl) ?_
    refine lv_if_eq (tgt := 41) hx hb dX1_decimalLength_24 (by decide) (fun c2 => ?_) (fun c2 => ?_)
    · refine lv_iload_n hx hb dX1_decimalLength_41 rfl (lv_at hl 2 rfl) ?_
      exact W.iret (v := 1) hx hb hr (fun tE ht hW => ⟨1, rfl, by first | (simp only [fDec, fDig, eq_true c1, eq_true c2, eq_self, ↓reduceIte, Bool.false_eq_true, Bool.not_false, Bool.not_true, Bool.and_true, Bool.and_false, Bool.true_and, Bool.false_and, decide_true, decide_false] <;> first | done | decide) | (simp only [fDec, fDig, c1, c2, eq_self, ↓reduceIte, Bool.false_eq_true, Bool.not_false, Bool.not_true, Bool.and_true, Bool.and_false, Bool.true_and, Bool.false_and, decide_true, decide_false] <;> first | done | decide) | (simp [fDec, fDig, c1, c2]; done) | (simp [fDec, fDig, eq_true c1, eq_true c2]; done), ht⟩) (fun q h => by cases h) dX1_decimalLength_42
    · refine lv_iinc (v := 2) (lv' := [(1, .int 2), (3, .int 1), (2, .int (p0 / 10)), (0, .int p0)]) hx hb dX1_decimalLength_27 hl (k := 2) rfl (by decide) (by decide) rfl (fun ls hl => ?_)
      refine lv_iload_n hx hb dX1_decimalLength_30 rfl (lv_at hl 2 rfl) ?_
      refine lv_bipush (v := 10) hx hb dX1_decimalLength_31 (by decide) ?_
      refine lv_idiv hx hb dX1_decimalLength_33 (by decide) ?_
      refine lv_istore_n (lv' := [(2, .int ((p0 / 10) / 10)), (1, .int 2), (3, .int 1), (0, .int p0)]) hx hb dX1_decimalLength_34 rfl hl (by decide) rfl (fun ls hl => ?_)
      refine lv_iinc (v := 2) (lv' := [(3, .int 2), (2, .int ((p0 / 10) / 10)), (1, .int 2), (0, .int p0)]) hx hb dX1_decimalLength_35 hl (k := 2) rfl (by decide) (by decide) rfl (fun ls hl => ?_)
      refine lv_goto (tgt := 17) hx hb dX1_decimalLength_38 (by decide) ?_
      refine lv_iload_n hx hb dX1_decimalLength_17 rfl (lv_at hl 0 rfl) ?_
      refine lv_bipush (v := 10) hx hb dX1_decimalLength_18 (by decide) ?_
      refine lv_icmp_ge (tgt := 41) hx hb dX1_decimalLength_20 (by decide) (fun cz => absurd cz (by decide)) (fun _ => ?_)
      refine lv_iload_n hx hb dX1_decimalLength_23 rfl (lv_at hl 1 rfl) ?_
      refine lv_if_eq (tgt := 41) hx hb dX1_decimalLength_24 (by decide) (fun c3 => ?_) (fun c3 => ?_)
      · refine lv_iload_n hx hb dX1_decimalLength_41 rfl (lv_at hl 2 rfl) ?_
        exact W.iret (v := 2) hx hb hr (fun tE ht hW => ⟨2, rfl, by first | (simp only [fDec, fDig, eq_true c1, c2, eq_true c3, eq_self, ↓reduceIte, Bool.false_eq_true, Bool.not_false, Bool.not_true, Bool.and_true, Bool.and_false, Bool.true_and, Bool.false_and, decide_true, decide_false] <;> first | done | decide) | (simp only [fDec, fDig, c1, c2, c3, eq_self, ↓reduceIte, Bool.false_eq_true, Bool.not_false, Bool.not_true, Bool.and_true, Bool.and_false, Bool.true_and, Bool.false_and, decide_true, decide_false] <;> first | done | decide) | (simp [fDec, fDig, c1, c2, c3]; done) | (simp [fDec, fDig, eq_true c1, c2, eq_true c3]; done), ht⟩) (fun q h => by cases h) dX1_decimalLength_42
      · refine lv_iinc (v := 3) (lv' := [(1, .int 3), (3, .int 2), (2, .int ((p0 / 10) / 10)), (0, .int p0)]) hx hb dX1_decimalLength_27 hl (k := 2) rfl (by decide) (by decide) rfl (fun ls hl => ?_)
        refine lv_iload_n hx hb dX1_decimalLength_30 rfl (lv_at hl 2 rfl) ?_
        refine lv_bipush (v := 10) hx hb dX1_decimalLength_31 (by decide) ?_
        refine lv_idiv hx hb dX1_decimalLength_33 (by decide) ?_
        refine lv_istore_n (lv' := [(2, .int (((p0 / 10) / 10) / 10)), (1, .int 3), (3, .int 2), (0, .int p0)]) hx hb dX1_decimalLength_34 rfl hl (by decide) rfl (fun ls hl => ?_)
        refine lv_iinc (v := 3) (lv' := [(3, .int 3), (2, .int (((p0 / 10) / 10) / 10)), (1, .int 3), (0, .int p0)]) hx hb dX1_decimalLength_35 hl (k := 2) rfl (by decide) (by decide) rfl (fun ls hl => ?_)
        refine lv_goto (tgt := 17) hx hb dX1_decimalLength_38 (by decide) ?_
        refine lv_iload_n hx hb dX1_decimalLength_17 rfl (lv_at hl 0 rfl) ?_
        refine lv_bipush (v := 10) hx hb dX1_decimalLength_18 (by decide) ?_
        refine lv_icmp_ge (tgt := 41) hx hb dX1_decimalLength_20 (by decide) (fun cz => absurd cz (by decide)) (fun _ => ?_)
        refine lv_iload_n hx hb dX1_decimalLength_23 rfl (lv_at hl 1 rfl) ?_
        refine lv_if_eq (tgt := 41) hx hb dX1_decimalLength_24 (by decide) (fun c4 => ?_) (fun c4 => ?_)
        · refine lv_iload_n hx hb dX1_decimalLength_41 rfl (lv_at hl 2 rfl) ?_
          exact W.iret (v := 3) hx hb hr (fun tE ht hW => ⟨3, rfl, by first | (simp only [fDec, fDig, eq_true c1, c2, c3, eq_true c4, eq_self, ↓reduceIte, Bool.false_eq_true, Bool.not_false, Bool.not_true, Bool.and_true, Bool.and_false, Bool.true_and, Bool.false_and, decide_true, decide_false] <;> first | done | decide) | (simp only [fDec, fDig, c1, c2, c3, c4, eq_self, ↓reduceIte, Bool.false_eq_true, Bool.not_false, Bool.not_true, Bool.and_true, Bool.and_false, Bool.true_and, Bool.false_and, decide_true, decide_false] <;> first | done | decide) | (simp [fDec, fDig, c1, c2, c3, c4]; done) | (simp [fDec, fDig, eq_true c1, c2, c3, eq_true c4]; done), ht⟩) (fun q h => by cases h) dX1_decimalLength_42
        · refine lv_iinc (v := 4) (lv' := [(1, .int 4), (3, .int 3), (2, .int (((p0 / 10) / 10) / 10)), (0, .int p0)]) hx hb dX1_decimalLength_27 hl (k := 2) rfl (by decide) (by decide) rfl (fun ls hl => ?_)
          refine lv_iload_n hx hb dX1_decimalLength_30 rfl (lv_at hl 2 rfl) ?_
          refine lv_bipush (v := 10) hx hb dX1_decimalLength_31 (by decide) ?_
          refine lv_idiv hx hb dX1_decimalLength_33 (by decide) ?_
          refine lv_istore_n (lv' := [(2, .int ((((p0 / 10) / 10) / 10) / 10)), (1, .int 4), (3, .int 3), (0, .int p0)]) hx hb dX1_decimalLength_34 rfl hl (by decide) rfl (fun ls hl => ?_)
          refine lv_iinc (v := 4) (lv' := [(3, .int 4), (2, .int ((((p0 / 10) / 10) / 10) / 10)), (1, .int 4), (0, .int p0)]) hx hb dX1_decimalLength_35 hl (k := 2) rfl (by decide) (by decide) rfl (fun ls hl => ?_)
          refine lv_goto (tgt := 17) hx hb dX1_decimalLength_38 (by decide) ?_
          refine lv_iload_n hx hb dX1_decimalLength_17 rfl (lv_at hl 0 rfl) ?_
          refine lv_bipush (v := 10) hx hb dX1_decimalLength_18 (by decide) ?_
          refine lv_icmp_ge (tgt := 41) hx hb dX1_decimalLength_20 (by decide) (fun cz => absurd cz (by decide)) (fun _ => ?_)
          refine lv_iload_n hx hb dX1_decimalLength_23 rfl (lv_at hl 1 rfl) ?_
          refine lv_if_eq (tgt := 41) hx hb dX1_decimalLength_24 (by decide) (fun c5 => ?_) (fun c5 => ?_)
          · refine lv_iload_n hx hb dX1_decimalLength_41 rfl (lv_at hl 2 rfl) ?_
            exact W.iret (v := 4) hx hb hr (fun tE ht hW => ⟨4, rfl, by first | (simp only [fDec, fDig, eq_true c1, c2, c3, c4, eq_true c5, eq_self, ↓reduceIte, Bool.false_eq_true, Bool.not_false, Bool.not_true, Bool.and_true, Bool.and_false, Bool.true_and, Bool.false_and, decide_true, decide_false] <;> first | done | decide) | (simp only [fDec, fDig, c1, c2, c3, c4, c5, eq_self, ↓reduceIte, Bool.false_eq_true, Bool.not_false, Bool.not_true, Bool.and_true, Bool.and_false, Bool.true_and, Bool.false_and, decide_true, decide_false] <;> first | done | decide) | (simp [fDec, fDig, c1, c2, c3, c4, c5]; done) | (simp [fDec, fDig, eq_true c1, c2, c3, c4, eq_true c5]; done), ht⟩) (fun q h => by cases h) dX1_decimalLength_42
          · refine lv_iinc (v := 5) (lv' := [(1, .int 5), (3, .int 4), (2, .int ((((p0 / 10) / 10) / 10) / 10)), (0, .int p0)]) hx hb dX1_decimalLength_27 hl (k := 2) rfl (by decide) (by decide) rfl (fun ls hl => ?_)
            refine lv_iload_n hx hb dX1_decimalLength_30 rfl (lv_at hl 2 rfl) ?_
            refine lv_bipush (v := 10) hx hb dX1_decimalLength_31 (by decide) ?_
            refine lv_idiv hx hb dX1_decimalLength_33 (by decide) ?_
            refine lv_istore_n (lv' := [(2, .int (((((p0 / 10) / 10) / 10) / 10) / 10)), (1, .int 5), (3, .int 4), (0, .int p0)]) hx hb dX1_decimalLength_34 rfl hl (by decide) rfl (fun ls hl => ?_)
            refine lv_iinc (v := 5) (lv' := [(3, .int 5), (2, .int (((((p0 / 10) / 10) / 10) / 10) / 10)), (1, .int 5), (0, .int p0)]) hx hb dX1_decimalLength_35 hl (k := 2) rfl (by decide) (by decide) rfl (fun ls hl => ?_)
            refine lv_goto (tgt := 17) hx hb dX1_decimalLength_38 (by decide) ?_
            refine lv_iload_n hx hb dX1_decimalLength_17 rfl (lv_at hl 0 rfl) ?_
            refine lv_bipush (v := 10) hx hb dX1_decimalLength_18 (by decide) ?_
            refine lv_icmp_ge (tgt := 41) hx hb dX1_decimalLength_20 (by decide) (fun cz => absurd cz (by decide)) (fun _ => ?_)
            refine lv_iload_n hx hb dX1_decimalLength_23 rfl (lv_at hl 1 rfl) ?_
            refine lv_if_eq (tgt := 41) hx hb dX1_decimalLength_24 (by decide) (fun c6 => ?_) (fun c6 => ?_)
            · refine lv_iload_n hx hb dX1_decimalLength_41 rfl (lv_at hl 2 rfl) ?_
              exact W.iret (v := 5) hx hb hr (fun tE ht hW => ⟨5, rfl, by first | (simp only [fDec, fDig, eq_true c1, c2, c3, c4, c5, eq_true c6, eq_self, ↓reduceIte, Bool.false_eq_true, Bool.not_false, Bool.not_true, Bool.and_true, Bool.and_false, Bool.true_and, Bool.false_and, decide_true, decide_false] <;> first | done | decide) | (simp only [fDec, fDig, c1, c2, c3, c4, c5, c6, eq_self, ↓reduceIte, Bool.false_eq_true, Bool.not_false, Bool.not_true, Bool.and_true, Bool.and_false, Bool.true_and, Bool.false_and, decide_true, decide_false] <;> first | done | decide) | (simp [fDec, fDig, c1, c2, c3, c4, c5, c6]; done) | (simp [fDec, fDig, eq_true c1, c2, c3, c4, c5, eq_true c6]; done), ht⟩) (fun q h => by cases h) dX1_decimalLength_42
            · refine lv_iinc (v := 6) (lv' := [(1, .int 6), (3, .int 5), (2, .int (((((p0 / 10) / 10) / 10) / 10) / 10)), (0, .int p0)]) hx hb dX1_decimalLength_27 hl (k := 2) rfl (by decide) (by decide) rfl (fun ls hl => ?_)
              refine lv_iload_n hx hb dX1_decimalLength_30 rfl (lv_at hl 2 rfl) ?_
              refine lv_bipush (v := 10) hx hb dX1_decimalLength_31 (by decide) ?_
              refine lv_idiv hx hb dX1_decimalLength_33 (by decide) ?_
              refine lv_istore_n (lv' := [(2, .int ((((((p0 / 10) / 10) / 10) / 10) / 10) / 10)), (1, .int 6), (3, .int 5), (0, .int p0)]) hx hb dX1_decimalLength_34 rfl hl (by decide) rfl (fun ls hl => ?_)
              refine lv_iinc (v := 6) (lv' := [(3, .int 6), (2, .int ((((((p0 / 10) / 10) / 10) / 10) / 10) / 10)), (1, .int 6), (0, .int p0)]) hx hb dX1_decimalLength_35 hl (k := 2) rfl (by decide) (by decide) rfl (fun ls hl => ?_)
              refine lv_goto (tgt := 17) hx hb dX1_decimalLength_38 (by decide) ?_
              refine lv_iload_n hx hb dX1_decimalLength_17 rfl (lv_at hl 0 rfl) ?_
              refine lv_bipush (v := 10) hx hb dX1_decimalLength_18 (by decide) ?_
              refine lv_icmp_ge (tgt := 41) hx hb dX1_decimalLength_20 (by decide) (fun cz => absurd cz (by decide)) (fun _ => ?_)
              refine lv_iload_n hx hb dX1_decimalLength_23 rfl (lv_at hl 1 rfl) ?_
              refine lv_if_eq (tgt := 41) hx hb dX1_decimalLength_24 (by decide) (fun c7 => ?_) (fun c7 => ?_)
              · refine lv_iload_n hx hb dX1_decimalLength_41 rfl (lv_at hl 2 rfl) ?_
                exact W.iret (v := 6) hx hb hr (fun tE ht hW => ⟨6, rfl, by first | (simp only [fDec, fDig, eq_true c1, c2, c3, c4, c5, c6, eq_true c7, eq_self, ↓reduceIte, Bool.false_eq_true, Bool.not_false, Bool.not_true, Bool.and_true, Bool.and_false, Bool.true_and, Bool.false_and, decide_true, decide_false] <;> first | done | decide) | (simp only [fDec, fDig, c1, c2, c3, c4, c5, c6, c7, eq_self, ↓reduceIte, Bool.false_eq_true, Bool.not_false, Bool.not_true, Bool.and_true, Bool.and_false, Bool.true_and, Bool.false_and, decide_true, decide_false] <;> first | done | decide) | (simp [fDec, fDig, c1, c2, c3, c4, c5, c6, c7]; done) | (simp [fDec, fDig, eq_true c1, c2, c3, c4, c5, c6, eq_true c7]; done), ht⟩) (fun q h => by cases h) dX1_decimalLength_42
              · refine lv_iinc (v := 7) (lv' := [(1, .int 7), (3, .int 6), (2, .int ((((((p0 / 10) / 10) / 10) / 10) / 10) / 10)), (0, .int p0)]) hx hb dX1_decimalLength_27 hl (k := 2) rfl (by decide) (by decide) rfl (fun ls hl => ?_)
                refine lv_iload_n hx hb dX1_decimalLength_30 rfl (lv_at hl 2 rfl) ?_
                refine lv_bipush (v := 10) hx hb dX1_decimalLength_31 (by decide) ?_
                refine lv_idiv hx hb dX1_decimalLength_33 (by decide) ?_
                refine lv_istore_n (lv' := [(2, .int (((((((p0 / 10) / 10) / 10) / 10) / 10) / 10) / 10)), (1, .int 7), (3, .int 6), (0, .int p0)]) hx hb dX1_decimalLength_34 rfl hl (by decide) rfl (fun ls hl => ?_)
                refine lv_iinc (v := 7) (lv' := [(3, .int 7), (2, .int (((((((p0 / 10) / 10) / 10) / 10) / 10) / 10) / 10)), (1, .int 7), (0, .int p0)]) hx hb dX1_decimalLength_35 hl (k := 2) rfl (by decide) (by decide) rfl (fun ls hl => ?_)
                refine lv_goto (tgt := 17) hx hb dX1_decimalLength_38 (by decide) ?_
                refine lv_iload_n hx hb dX1_decimalLength_17 rfl (lv_at hl 0 rfl) ?_
                refine lv_bipush (v := 10) hx hb dX1_decimalLength_18 (by decide) ?_
                refine lv_icmp_ge (tgt := 41) hx hb dX1_decimalLength_20 (by decide) (fun cz => absurd cz (by decide)) (fun _ => ?_)
                refine lv_iload_n hx hb dX1_decimalLength_23 rfl (lv_at hl 1 rfl) ?_
                refine lv_if_eq (tgt := 41) hx hb dX1_decimalLength_24 (by decide) (fun c8 => ?_) (fun c8 => ?_)
                · refine lv_iload_n hx hb dX1_decimalLength_41 rfl (lv_at hl 2 rfl) ?_
                  exact W.iret (v := 7) hx hb hr (fun tE ht hW => ⟨7, rfl, by first | (simp only [fDec, fDig, eq_true c1, c2, c3, c4, c5, c6, c7, eq_true c8, eq_self, ↓reduceIte, Bool.false_eq_true, Bool.not_false, Bool.not_true, Bool.and_true, Bool.and_false, Bool.true_and, Bool.false_and, decide_true, decide_false] <;> first | done | decide) | (simp only [fDec, fDig, c1, c2, c3, c4, c5, c6, c7, c8, eq_self, ↓reduceIte, Bool.false_eq_true, Bool.not_false, Bool.not_true, Bool.and_true, Bool.and_false, Bool.true_and, Bool.false_and, decide_true, decide_false] <;> first | done | decide) | (simp [fDec, fDig, c1, c2, c3, c4, c5, c6, c7, c8]; done) | (simp [fDec, fDig, eq_true c1, c2, c3, c4, c5, c6, c7, eq_true c8]; done), ht⟩) (fun q h => by cases h) dX1_decimalLength_42
                · refine lv_iinc (v := 8) (lv' := [(1, .int 8), (3, .int 7), (2, .int (((((((p0 / 10) / 10) / 10) / 10) / 10) / 10) / 10)), (0, .int p0)]) hx hb dX1_decimalLength_27 hl (k := 2) rfl (by decide) (by decide) rfl (fun ls hl => ?_)
                  refine lv_iload_n hx hb dX1_decimalLength_30 rfl (lv_at hl 2 rfl) ?_
                  refine lv_bipush (v := 10) hx hb dX1_decimalLength_31 (by decide) ?_
                  refine lv_idiv hx hb dX1_decimalLength_33 (by decide) ?_
                  refine lv_istore_n (lv' := [(2, .int ((((((((p0 / 10) / 10) / 10) / 10) / 10) / 10) / 10) / 10)), (1, .int 8), (3, .int 7), (0, .int p0)]) hx hb dX1_decimalLength_34 rfl hl (by decide) rfl (fun ls hl => ?_)
                  refine lv_iinc (v := 8) (lv' := [(3, .int 8), (2, .int ((((((((p0 / 10) / 10) / 10) / 10) / 10) / 10) / 10) / 10)), (1, .int 8), (0, .int p0)]) hx hb dX1_decimalLength_35 hl (k := 2) rfl (by decide) (by decide) rfl (fun ls hl => ?_)
                  refine lv_goto (tgt := 17) hx hb dX1_decimalLength_38 (by decide) ?_
                  refine lv_iload_n hx hb dX1_decimalLength_17 rfl (lv_at hl 0 rfl) ?_
                  refine lv_bipush (v := 10) hx hb dX1_decimalLength_18 (by decide) ?_
                  refine lv_icmp_ge (tgt := 41) hx hb dX1_decimalLength_20 (by decide) (fun cz => absurd cz (by decide)) (fun _ => ?_)
                  refine lv_iload_n hx hb dX1_decimalLength_23 rfl (lv_at hl 1 rfl) ?_
                  refine lv_if_eq (tgt := 41) hx hb dX1_decimalLength_24 (by decide) (fun c9 => ?_) (fun c9 => ?_)
                  · refine lv_iload_n hx hb dX1_decimalLength_41 rfl (lv_at hl 2 rfl) ?_
                    exact W.iret (v := 8) hx hb hr (fun tE ht hW => ⟨8, rfl, by first | (simp only [fDec, fDig, eq_true c1, c2, c3, c4, c5, c6, c7, c8, eq_true c9, eq_self, ↓reduceIte, Bool.false_eq_true, Bool.not_false, Bool.not_true, Bool.and_true, Bool.and_false, Bool.true_and, Bool.false_and, decide_true, decide_false] <;> first | done | decide) | (simp only [fDec, fDig, c1, c2, c3, c4, c5, c6, c7, c8, c9, eq_self, ↓reduceIte, Bool.false_eq_true, Bool.not_false, Bool.not_true, Bool.and_true, Bool.and_false, Bool.true_and, Bool.false_and, decide_true, decide_false] <;> first | done | decide) | (simp [fDec, fDig, c1, c2, c3, c4, c5, c6, c7, c8, c9]; done) | (simp [fDec, fDig, eq_true c1, c2, c3, c4, c5, c6, c7, c8, eq_true c9]; done), ht⟩) (fun q h => by cases h) dX1_decimalLength_42
                  · refine lv_iinc (v := 9) (lv' := [(1, .int 9), (3, .int 8), (2, .int ((((((((p0 / 10) / 10) / 10) / 10) / 10) / 10) / 10) / 10)), (0, .int p0)]) hx hb dX1_decimalLength_27 hl (k := 2) rfl (by decide) (by decide) rfl (fun ls hl => ?_)
                    refine lv_iload_n hx hb dX1_decimalLength_30 rfl (lv_at hl 2 rfl) ?_
                    refine lv_bipush (v := 10) hx hb dX1_decimalLength_31 (by decide) ?_
                    refine lv_idiv hx hb dX1_decimalLength_33 (by decide) ?_
                    refine lv_istore_n (lv' := [(2, .int (((((((((p0 / 10) / 10) / 10) / 10) / 10) / 10) / 10) / 10) / 10)), (1, .int 9), (3, .int 8), (0, .int p0)]) hx hb dX1_decimalLength_34 rfl hl (by decide) rfl (fun ls hl => ?_)
                    refine lv_iinc (v := 9) (lv' := [(3, .int 9), (2, .int (((((((((p0 / 10) / 10) / 10) / 10) / 10) / 10) / 10) / 10) / 10)), (1, .int 9), (0, .int p0)]) hx hb dX1_decimalLength_35 hl (k := 2) rfl (by decide) (by decide) rfl (fun ls hl => ?_)
                    refine lv_goto (tgt := 17) hx hb dX1_decimalLength_38 (by decide) ?_
                    refine lv_iload_n hx hb dX1_decimalLength_17 rfl (lv_at hl 0 rfl) ?_
                    refine lv_bipush (v := 10) hx hb dX1_decimalLength_18 (by decide) ?_
                    refine lv_icmp_ge (tgt := 41) hx hb dX1_decimalLength_20 (by decide) (fun cz => absurd cz (by decide)) (fun _ => ?_)
                    refine lv_iload_n hx hb dX1_decimalLength_23 rfl (lv_at hl 1 rfl) ?_
                    refine lv_if_eq (tgt := 41) hx hb dX1_decimalLength_24 (by decide) (fun c10 => ?_) (fun c10 => ?_)
                    · refine lv_iload_n hx hb dX1_decimalLength_41 rfl (lv_at hl 2 rfl) ?_
                      exact W.iret (v := 9) hx hb hr (fun tE ht hW => ⟨9, rfl, by first | (simp only [fDec, fDig, eq_true c1, c2, c3, c4, c5, c6, c7, c8, c9, eq_true c10, eq_self, ↓reduceIte, Bool.false_eq_true, Bool.not_false, Bool.not_true, Bool.and_true, Bool.and_false, Bool.true_and, Bool.false_and, decide_true, decide_false] <;> first | done | decide) | (simp only [fDec, fDig, c1, c2, c3, c4, c5, c6, c7, c8, c9, c10, eq_self, ↓reduceIte, Bool.false_eq_true, Bool.not_false, Bool.not_true, Bool.and_true, Bool.and_false, Bool.true_and, Bool.false_and, decide_true, decide_false] <;> first | done | decide) | (simp [fDec, fDig, c1, c2, c3, c4, c5, c6, c7, c8, c9, c10]; done) | (simp [fDec, fDig, eq_true c1, c2, c3, c4, c5, c6, c7, c8, c9, eq_true c10]; done), ht⟩) (fun q h => by cases h) dX1_decimalLength_42
                    · refine lv_iinc (v := 10) (lv' := [(1, .int 10), (3, .int 9), (2, .int (((((((((p0 / 10) / 10) / 10) / 10) / 10) / 10) / 10) / 10) / 10)), (0, .int p0)]) hx hb dX1_decimalLength_27 hl (k := 2) rfl (by decide) (by decide) rfl (fun ls hl => ?_)
                      refine lv_iload_n hx hb dX1_decimalLength_30 rfl (lv_at hl 2 rfl) ?_
                      refine lv_bipush (v := 10) hx hb dX1_decimalLength_31 (by decide) ?_
                      refine lv_idiv hx hb dX1_decimalLength_33 (by decide) ?_
                      refine lv_istore_n (lv' := [(2, .int ((((((((((p0 / 10) / 10) / 10) / 10) / 10) / 10) / 10) / 10) / 10) / 10)), (1, .int 10), (3, .int 9), (0, .int p0)]) hx hb dX1_decimalLength_34 rfl hl (by decide) rfl (fun ls hl => ?_)
                      refine lv_iinc (v := 10) (lv' := [(3, .int 10), (2, .int ((((((((((p0 / 10) / 10) / 10) / 10) / 10) / 10) / 10) / 10) / 10) / 10)), (1, .int 10), (0, .int p0)]) hx hb dX1_decimalLength_35 hl (k := 2) rfl (by decide) (by decide) rfl (fun ls hl => ?_)
                      refine lv_goto (tgt := 17) hx hb dX1_decimalLength_38 (by decide) ?_
                      refine lv_iload_n hx hb dX1_decimalLength_17 rfl (lv_at hl 0 rfl) ?_
                      refine lv_bipush (v := 10) hx hb dX1_decimalLength_18 (by decide) ?_
                      refine lv_icmp_ge (tgt := 41) hx hb dX1_decimalLength_20 (by decide) (fun _ => ?_) (fun cz => absurd cz (by decide))
                      refine lv_iload_n hx hb dX1_decimalLength_41 rfl (lv_at hl 2 rfl) ?_
                      exact W.iret (v := 10) hx hb hr (fun tE ht hW => ⟨10, rfl, by first | (simp only [fDec, fDig, eq_true c1, c2, c3, c4, c5, c6, c7, c8, c9, c10, eq_self, ↓reduceIte, Bool.false_eq_true, Bool.not_false, Bool.not_true, Bool.and_true, Bool.and_false, Bool.true_and, Bool.false_and, decide_true, decide_false] <;> first | done | decide) | (simp only [fDec, fDig, c1, c2, c3, c4, c5, c6, c7, c8, c9, c10, eq_self, ↓reduceIte, Bool.false_eq_true, Bool.not_false, Bool.not_true, Bool.and_true, Bool.and_false, Bool.true_and, Bool.false_and, decide_true, decide_false] <;> first | done | decide) | (simp [fDec, fDig, c1, c2, c3, c4, c5, c6, c7, c8, c9, c10]; done) | (simp [fDec, fDig, eq_true c1, c2, c3, c4, c5, c6, c7, c8, c9, c10]; done), ht⟩) (fun q h => by cases h) dX1_decimalLength_42
  · refine lv_iconst (v := 2) hx hb dX1_decimalLength_4 (by decide) ?_
    refine lv_goto (tgt := 9) hx hb dX1_decimalLength_5 (by decide) ?_
    refine lv_istore_n (lv' := [(1, .int 2), (0, .int p0)]) hx hb dX1_decimalLength_9 rfl hl (by decide) rfl (fun ls hl => ?_)
    refine lv_iload_n hx hb dX1_decimalLength_10 rfl (lv_at hl 1 rfl) ?_
    refine lv_bipush (v := 10) hx hb dX1_decimalLength_11 (by decide) ?_
    refine lv_idiv hx hb dX1_decimalLength_13 (by decide) ?_
    refine lv_istore_n (lv' := [(2, .int (p0 / 10)), (1, .int 2), (0, .int p0)]) hx hb dX1_decimalLength_14 rfl hl (by decide) rfl (fun ls hl => ?_)
    refine lv_iconst (v := 1) hx hb dX1_decimalLength_15 (by decide) ?_
    refine lv_istore_n (lv' := [(3, .int 1), (2, .int (p0 / 10)), (1, .int 2), (0, .int p0)]) hx hb dX1_decimalLength_16 rfl hl (by decide) rfl (fun ls hl => ?_)
    refine lv_iload_n hx hb dX1_decimalLength_17 rfl (lv_at hl 0 rfl) ?_
    refine lv_bipush (v := 10) hx hb dX1_decimalLength_18 (by decide) ?_
    refine lv_icmp_ge (tgt := 41) hx hb dX1_decimalLength_20 (by decide) (fun cz => absurd cz (by decide)) (fun _ => ?_)
    refine lv_iload_n hx hb dX1_decimalLength_23 rfl (lv_at hl 1 rfl) ?_
    refine lv_if_eq (tgt := 41) hx hb dX1_decimalLength_24 (by decide) (fun c11 => ?_) (fun c11 => ?_)
    · refine lv_iload_n hx hb dX1_decimalLength_41 rfl (lv_at hl 2 rfl) ?_
      exact W.iret (v := 2) hx hb hr (fun tE ht hW => ⟨2, rfl, by first | (simp only [fDec, fDig, c1, eq_true c11, eq_self, ↓reduceIte, Bool.false_eq_true, Bool.not_false, Bool.not_true, Bool.and_true, Bool.and_false, Bool.true_and, Bool.false_and, decide_true, decide_false] <;> first | done | decide) | (simp only [fDec, fDig, c1, c11, eq_self, ↓reduceIte, Bool.false_eq_true, Bool.not_false, Bool.not_true, Bool.and_true, Bool.and_false, Bool.true_and, Bool.false_and, decide_true, decide_false] <;> first | done | decide) | (simp [fDec, fDig, c1, c11]; done) | (simp [fDec, fDig, c1, eq_true c11]; done), ht⟩) (fun q h => by cases h) dX1_decimalLength_42
    · refine lv_iinc (v := 3) (lv' := [(1, .int 3), (3, .int 1), (2, .int (p0 / 10)), (0, .int p0)]) hx hb dX1_decimalLength_27 hl (k := 2) rfl (by decide) (by decide) rfl (fun ls hl => ?_)
      refine lv_iload_n hx hb dX1_decimalLength_30 rfl (lv_at hl 2 rfl) ?_
      refine lv_bipush (v := 10) hx hb dX1_decimalLength_31 (by decide) ?_
      refine lv_idiv hx hb dX1_decimalLength_33 (by decide) ?_
      refine lv_istore_n (lv' := [(2, .int ((p0 / 10) / 10)), (1, .int 3), (3, .int 1), (0, .int p0)]) hx hb dX1_decimalLength_34 rfl hl (by decide) rfl (fun ls hl => ?_)
      refine lv_iinc (v := 2) (lv' := [(3, .int 2), (2, .int ((p0 / 10) / 10)), (1, .int 3), (0, .int p0)]) hx hb dX1_decimalLength_35 hl (k := 2) rfl (by decide) (by decide) rfl (fun ls hl => ?_)
      refine lv_goto (tgt := 17) hx hb dX1_decimalLength_38 (by decide) ?_
      refine lv_iload_n hx hb dX1_decimalLength_17 rfl (lv_at hl 0 rfl) ?_
      refine lv_bipush (v := 10) hx hb dX1_decimalLength_18 (by decide) ?_
      refine lv_icmp_ge (tgt := 41) hx hb dX1_decimalLength_20 (by decide) (fun cz => absurd cz (by decide)) (fun _ => ?_)
      refine lv_iload_n hx hb dX1_decimalLength_23 rfl (lv_at hl 1 rfl) ?_
      refine lv_if_eq (tgt := 41) hx hb dX1_decimalLength_24 (by decide) (fun c12 => ?_) (fun c12 => ?_)
      · refine lv_iload_n hx hb dX1_decimalLength_41 rfl (lv_at hl 2 rfl) ?_
        exact W.iret (v := 3) hx hb hr (fun tE ht hW => ⟨3, rfl, by first | (simp only [fDec, fDig, c1, c11, eq_true c12, eq_self, ↓reduceIte, Bool.false_eq_true, Bool.not_false, Bool.not_true, Bool.and_true, Bool.and_false, Bool.true_and, Bool.false_and, decide_true, decide_false] <;> first | done | decide) | (simp only [fDec, fDig, c1, c11, c12, eq_self, ↓reduceIte, Bool.false_eq_true, Bool.not_false, Bool.not_true, Bool.and_true, Bool.and_false, Bool.true_and, Bool.false_and, decide_true, decide_false] <;> first | done | decide) | (simp [fDec, fDig, c1, c11, c12]; done) | (simp [fDec, fDig, c1, c11, eq_true c12]; done), ht⟩) (fun q h => by cases h) dX1_decimalLength_42
      · refine lv_iinc (v := 4) (lv' := [(1, .int 4), (3, .int 2), (2, .int ((p0 / 10) / 10)), (0, .int p0)]) hx hb dX1_decimalLength_27 hl (k := 2) rfl (by decide) (by decide) rfl (fun ls hl => ?_)
        refine lv_iload_n hx hb dX1_decimalLength_30 rfl (lv_at hl 2 rfl) ?_
        refine lv_bipush (v := 10) hx hb dX1_decimalLength_31 (by decide) ?_
        refine lv_idiv hx hb dX1_decimalLength_33 (by decide) ?_
        refine lv_istore_n (lv' := [(2, .int (((p0 / 10) / 10) / 10)), (1, .int 4), (3, .int 2), (0, .int p0)]) hx hb dX1_decimalLength_34 rfl hl (by decide) rfl (fun ls hl => ?_)
        refine lv_iinc (v := 3) (lv' := [(3, .int 3), (2, .int (((p0 / 10) / 10) / 10)), (1, .int 4), (0, .int p0)]) hx hb dX1_decimalLength_35 hl (k := 2) rfl (by decide) (by decide) rfl (fun ls hl => ?_)
        refine lv_goto (tgt := 17) hx hb dX1_decimalLength_38 (by decide) ?_
        refine lv_iload_n hx hb dX1_decimalLength_17 rfl (lv_at hl 0 rfl) ?_
        refine lv_bipush (v := 10) hx hb dX1_decimalLength_18 (by decide) ?_
        refine lv_icmp_ge (tgt := 41) hx hb dX1_decimalLength_20 (by decide) (fun cz => absurd cz (by decide)) (fun _ => ?_)
        refine lv_iload_n hx hb dX1_decimalLength_23 rfl (lv_at hl 1 rfl) ?_
        refine lv_if_eq (tgt := 41) hx hb dX1_decimalLength_24 (by decide) (fun c13 => ?_) (fun c13 => ?_)
        · refine lv_iload_n hx hb dX1_decimalLength_41 rfl (lv_at hl 2 rfl) ?_
          exact W.iret (v := 4) hx hb hr (fun tE ht hW => ⟨4, rfl, by first | (simp only [fDec, fDig, c1, c11, c12, eq_true c13, eq_self, ↓reduceIte, Bool.false_eq_true, Bool.not_false, Bool.not_true, Bool.and_true, Bool.and_false, Bool.true_and, Bool.false_and, decide_true, decide_false] <;> first | done | decide) | (simp only [fDec, fDig, c1, c11, c12, c13, eq_self, ↓reduceIte, Bool.false_eq_true, Bool.not_false, Bool.not_true, Bool.and_true, Bool.and_false, Bool.true_and, Bool.false_and, decide_true, decide_false] <;> first | done | decide) | (simp [fDec, fDig, c1, c11, c12, c13]; done) | (simp [fDec, fDig, c1, c11, c12, eq_true c13]; done), ht⟩) (fun q h => by cases h) dX1_decimalLength_42
        · refine lv_iinc (v := 5) (lv' := [(1, .int 5), (3, .int 3), (2, .int (((p0 / 10) / 10) / 10)), (0, .int p0)]) hx hb dX1_decimalLength_27 hl (k := 2) rfl (by decide) (by decide) rfl (fun ls hl => ?_)
          refine lv_iload_n hx hb dX1_decimalLength_30 rfl (lv_at hl 2 rfl) ?_
          refine lv_bipush (v := 10) hx hb dX1_decimalLength_31 (by decide) ?_
          refine lv_idiv hx hb dX1_decimalLength_33 (by decide) ?_
          refine lv_istore_n (lv' := [(2, .int ((((p0 / 10) / 10) / 10) / 10)), (1, .int 5), (3, .int 3), (0, .int p0)]) hx hb dX1_decimalLength_34 rfl hl (by decide) rfl (fun ls hl => ?_)
          refine lv_iinc (v := 4) (lv' := [(3, .int 4), (2, .int ((((p0 / 10) / 10) / 10) / 10)), (1, .int 5), (0, .int p0)]) hx hb dX1_decimalLength_35 hl (k := 2) rfl (by decide) (by decide) rfl (fun ls hl => ?_)
          refine lv_goto (tgt := 17) hx hb dX1_decimalLength_38 (by decide) ?_
          refine lv_iload_n hx hb dX1_decimalLength_17 rfl (lv_at hl 0 rfl) ?_
          refine lv_bipush (v := 10) hx hb dX1_decimalLength_18 (by decide) ?_
          refine lv_icmp_ge (tgt := 41) hx hb dX1_decimalLength_20 (by decide) (fun cz => absurd cz (by decide)) (fun _ => ?_)
          refine lv_iload_n hx hb dX1_decimalLength_23 rfl (lv_at hl 1 rfl) ?_
          refine lv_if_eq (tgt := 41) hx hb dX1_decimalLength_24 (by decide) (fun c14 => ?_) (fun c14 => ?_)
          · refine lv_iload_n hx hb dX1_decimalLength_41 rfl (lv_at hl 2 rfl) ?_
            exact W.iret (v := 5) hx hb hr (fun tE ht hW => ⟨5, rfl, by first | (simp only [fDec, fDig, c1, c11, c12, c13, eq_true c14, eq_self, ↓reduceIte, Bool.false_eq_true, Bool.not_false, Bool.not_true, Bool.and_true, Bool.and_false, Bool.true_and, Bool.false_and, decide_true, decide_false] <;> first | done | decide) | (simp only [fDec, fDig, c1, c11, c12, c13, c14, eq_self, ↓reduceIte, Bool.false_eq_true, Bool.not_false, Bool.not_true, Bool.and_true, Bool.and_false, Bool.true_and, Bool.false_and, decide_true, decide_false] <;> first | done | decide) | (simp [fDec, fDig, c1, c11, c12, c13, c14]; done) | (simp [fDec, fDig, c1, c11, c12, c13, eq_true c14]; done), ht⟩) (fun q h => by cases h) dX1_decimalLength_42
          · refine lv_iinc (v := 6) (lv' := [(1, .int 6), (3, .int 4), (2, .int ((((p0 / 10) / 10) / 10) / 10)), (0, .int p0)]) hx hb dX1_decimalLength_27 hl (k := 2) rfl (by decide) (by decide) rfl (fun ls hl => ?_)
            refine lv_iload_n hx hb dX1_decimalLength_30 rfl (lv_at hl 2 rfl) ?_
            refine lv_bipush (v := 10) hx hb dX1_decimalLength_31 (by decide) ?_
            refine lv_idiv hx hb dX1_decimalLength_33 (by decide) ?_
            refine lv_istore_n (lv' := [(2, .int (((((p0 / 10) / 10) / 10) / 10) / 10)), (1, .int 6), (3, .int 4), (0, .int p0)]) hx hb dX1_decimalLength_34 rfl hl (by decide) rfl (fun ls hl => ?_)
            refine lv_iinc (v := 5) (lv' := [(3, .int 5), (2, .int (((((p0 / 10) / 10) / 10) / 10) / 10)), (1, .int 6), (0, .int p0)]) hx hb dX1_decimalLength_35 hl (k := 2) rfl (by decide) (by decide) rfl (fun ls hl => ?_)
            refine lv_goto (tgt := 17) hx hb dX1_decimalLength_38 (by decide) ?_
            refine lv_iload_n hx hb dX1_decimalLength_17 rfl (lv_at hl 0 rfl) ?_
            refine lv_bipush (v := 10) hx hb dX1_decimalLength_18 (by decide) ?_
            refine lv_icmp_ge (tgt := 41) hx hb dX1_decimalLength_20 (by decide) (fun cz => absurd cz (by decide)) (fun _ => ?_)
            refine lv_iload_n hx hb dX1_decimalLength_23 rfl (lv_at hl 1 rfl) ?_
            refine lv_if_eq (tgt := 41) hx hb dX1_decimalLength_24 (by decide) (fun c15 => ?_) (fun c15 => ?_)
            · refine lv_iload_n hx hb dX1_decimalLength_41 rfl (lv_at hl 2 rfl) ?_
              exact W.iret (v := 6) hx hb hr (fun tE ht hW => ⟨6, rfl, by first | (simp only [fDec, fDig, c1, c11, c12, c13, c14, eq_true c15, eq_self, ↓reduceIte, Bool.false_eq_true, Bool.not_false, Bool.not_true, Bool.and_true, Bool.and_false, Bool.true_and, Bool.false_and, decide_true, decide_false] <;> first | done | decide) | (simp only [fDec, fDig, c1, c11, c12, c13, c14, c15, eq_self, ↓reduceIte, Bool.false_eq_true, Bool.not_false, Bool.not_true, Bool.and_true, Bool.and_false, Bool.true_and, Bool.false_and, decide_true, decide_false] <;> first | done | decide) | (simp [fDec, fDig, c1, c11, c12, c13, c14, c15]; done) | (simp [fDec, fDig, c1, c11, c12, c13, c14, eq_true c15]; done), ht⟩) (fun q h => by cases h) dX1_decimalLength_42
            · refine lv_iinc (v := 7) (lv' := [(1, .int 7), (3, .int 5), (2, .int (((((p0 / 10) / 10) / 10) / 10) / 10)), (0, .int p0)]) hx hb dX1_decimalLength_27 hl (k := 2) rfl (by decide) (by decide) rfl (fun ls hl => ?_)
              refine lv_iload_n hx hb dX1_decimalLength_30 rfl (lv_at hl 2 rfl) ?_
              refine lv_bipush (v := 10) hx hb dX1_decimalLength_31 (by decide) ?_
              refine lv_idiv hx hb dX1_decimalLength_33 (by decide) ?_
              refine lv_istore_n (lv' := [(2, .int ((((((p0 / 10) / 10) / 10) / 10) / 10) / 10)), (1, .int 7), (3, .int 5), (0, .int p0)]) hx hb dX1_decimalLength_34 rfl hl (by decide) rfl (fun ls hl => ?_)
              refine lv_iinc (v := 6) (lv' := [(3, .int 6), (2, .int ((((((p0 / 10) / 10) / 10) / 10) / 10) / 10)), (1, .int 7), (0, .int p0)]) hx hb dX1_decimalLength_35 hl (k := 2) rfl (by decide) (by decide) rfl (fun ls hl => ?_)
              refine lv_goto (tgt := 17) hx hb dX1_decimalLength_38 (by decide) ?_
              refine lv_iload_n hx hb dX1_decimalLength_17 rfl (lv_at hl 0 rfl) ?_
              refine lv_bipush (v := 10) hx hb dX1_decimalLength_18 (by decide) ?_
              refine lv_icmp_ge (tgt := 41) hx hb dX1_decimalLength_20 (by decide) (fun cz => absurd cz (by decide)) (fun _ => ?_)
              refine lv_iload_n hx hb dX1_decimalLength_23 rfl (lv_at hl 1 rfl) ?_
              refine lv_if_eq (tgt := 41) hx hb dX1_decimalLength_24 (by decide) (fun c16 => ?_) (fun c16 => ?_)
              · refine lv_iload_n hx hb dX1_decimalLength_41 rfl (lv_at hl 2 rfl) ?_
                exact W.iret (v := 7) hx hb hr (fun tE ht hW => ⟨7, rfl, by first | (simp only [fDec, fDig, c1, c11, c12, c13, c14, c15, eq_true c16, eq_self, ↓reduceIte, Bool.false_eq_true, Bool.not_false, Bool.not_true, Bool.and_true, Bool.and_false, Bool.true_and, Bool.false_and, decide_true, decide_false] <;> first | done | decide) | (simp only [fDec, fDig, c1, c11, c12, c13, c14, c15, c16, eq_self, ↓reduceIte, Bool.false_eq_true, Bool.not_false, Bool.not_true, Bool.and_true, Bool.and_false, Bool.true_and, Bool.false_and, decide_true, decide_false] <;> first | done | decide) | (simp [fDec, fDig, c1, c11, c12, c13, c14, c15, c16]; done) | (simp [fDec, fDig, c1, c11, c12, c13, c14, c15, eq_true c16]; done), ht⟩) (fun q h => by cases h) dX1_decimalLength_42
              · refine lv_iinc (v := 8) (lv' := [(1, .int 8), (3, .int 6), (2, .int ((((((p0 / 10) / 10) / 10) / 10) / 10) / 10)), (0, .int p0)]) hx hb dX1_decimalLength_27 hl (k := 2) rfl (by decide) (by decide) rfl (fun ls hl => ?_)
                refine lv_iload_n hx hb dX1_decimalLength_30 rfl (lv_at hl 2 rfl) ?_
                refine lv_bipush (v := 10) hx hb dX1_decimalLength_31 (by decide) ?_
                refine lv_idiv hx hb dX1_decimalLength_33 (by decide) ?_
                refine lv_istore_n (lv' := [(2, .int (((((((p0 / 10) / 10) / 10) / 10) / 10) / 10) / 10)), (1, .int 8), (3, .int 6), (0, .int p0)]) hx hb dX1_decimalLength_34 rfl hl (by decide) rfl (fun ls hl => ?_)
                refine lv_iinc (v := 7) (lv' := [(3, .int 7), (2, .int (((((((p0 / 10) / 10) / 10) / 10) / 10) / 10) / 10)), (1, .int 8), (0, .int p0)]) hx hb dX1_decimalLength_35 hl (k := 2) rfl (by decide) (by decide) rfl (fun ls hl => ?_)
                refine lv_goto (tgt := 17) hx hb dX1_decimalLength_38 (by decide) ?_
                refine lv_iload_n hx hb dX1_decimalLength_17 rfl (lv_at hl 0 rfl) ?_
                refine lv_bipush (v := 10) hx hb dX1_decimalLength_18 (by decide) ?_
                refine lv_icmp_ge (tgt := 41) hx hb dX1_decimalLength_20 (by decide) (fun cz => absurd cz (by decide)) (fun _ => ?_)
                refine lv_iload_n hx hb dX1_decimalLength_23 rfl (lv_at hl 1 rfl) ?_
                refine lv_if_eq (tgt := 41) hx hb dX1_decimalLength_24 (by decide) (fun c17 => ?_) (fun c17 => ?_)
                · refine lv_iload_n hx hb dX1_decimalLength_41 rfl (lv_at hl 2 rfl) ?_
                  exact W.iret (v := 8) hx hb hr (fun tE ht hW => ⟨8, rfl, by first | (simp only [fDec, fDig, c1, c11, c12, c13, c14, c15, c16, eq_true c17, eq_self, ↓reduceIte, Bool.false_eq_true, Bool.not_false, Bool.not_true, Bool.and_true, Bool.and_false, Bool.true_and, Bool.false_and, decide_true, decide_false] <;> first | done | decide) | (simp only [fDec, fDig, c1, c11, c12, c13, c14, c15, c16, c17, eq_self, ↓reduceIte, Bool.false_eq_true, Bool.not_false, Bool.not_true, Bool.and_true, Bool.and_false, Bool.true_and, Bool.false_and, decide_true, decide_false] <;> first | done | decide) | (simp [fDec, fDig, c1, c11, c12, c13, c14, c15, c16, c17]; done) | (simp [fDec, fDig, c1, c11, c12, c13, c14, c15, c16, eq_true c17]; done), ht⟩) (fun q h => by cases h) dX1_decimalLength_42
                · refine lv_iinc (v := 9) (lv' := [(1, .int 9), (3, .int 7), (2, .int (((((((p0 / 10) / 10) / 10) / 10) / 10) / 10) / 10)), (0, .int p0)]) hx hb dX1_decimalLength_27 hl (k := 2) rfl (by decide) (by decide) rfl (fun ls hl => ?_)
                  refine lv_iload_n hx hb dX1_decimalLength_30 rfl (lv_at hl 2 rfl) ?_
                  refine lv_bipush (v := 10) hx hb dX1_decimalLength_31 (by decide) ?_
                  refine lv_idiv hx hb dX1_decimalLength_33 (by decide) ?_
                  refine lv_istore_n (lv' := [(2, .int ((((((((p0 / 10) / 10) / 10) / 10) / 10) / 10) / 10) / 10)), (1, .int 9), (3, .int 7), (0, .int p0)]) hx hb dX1_decimalLength_34 rfl hl (by decide) rfl (fun ls hl => ?_)
                  refine lv_iinc (v := 8) (lv' := [(3, .int 8), (2, .int ((((((((p0 / 10) / 10) / 10) / 10) / 10) / 10) / 10) / 10)), (1, .int 9), (0, .int p0)]) hx hb dX1_decimalLength_35 hl (k := 2) rfl (by decide) (by decide) rfl (fun ls hl => ?_)
                  refine lv_goto (tgt := 17) hx hb dX1_decimalLength_38 (by decide) ?_
                  refine lv_iload_n hx hb dX1_decimalLength_17 rfl (lv_at hl 0 rfl) ?_
                  refine lv_bipush (v := 10) hx hb dX1_decimalLength_18 (by decide) ?_
                  refine lv_icmp_ge (tgt := 41) hx hb dX1_decimalLength_20 (by decide) (fun cz => absurd cz (by decide)) (fun _ => ?_)
                  refine lv_iload_n hx hb dX1_decimalLength_23 rfl (lv_at hl 1 rfl) ?_
                  refine lv_if_eq (tgt := 41) hx hb dX1_decimalLength_24 (by decide) (fun c18 => ?_) (fun c18 => ?_)
                  · refine lv_iload_n hx hb dX1_decimalLength_41 rfl (lv_at hl 2 rfl) ?_
                    exact W.iret (v := 9) hx hb hr (fun tE ht hW => ⟨9, rfl, by first | (simp only [fDec, fDig, c1, c11, c12, c13, c14, c15, c16, c17, eq_true c18, eq_self, ↓reduceIte, Bool.false_eq_true, Bool.not_false, Bool.not_true, Bool.and_true, Bool.and_false, Bool.true_and, Bool.false_and, decide_true, decide_false] <;> first | done | decide) | (simp only [fDec, fDig, c1, c11, c12, c13, c14, c15, c16, c17, c18, eq_self, ↓reduceIte, Bool.false_eq_true, Bool.not_false, Bool.not_true, Bool.and_true, Bool.and_false, Bool.true_and, Bool.false_and, decide_true, decide_false] <;> first | done | decide) | (simp [fDec, fDig, c1, c11, c12, c13, c14, c15, c16, c17, c18]; done) | (simp [fDec, fDig, c1, c11, c12, c13, c14, c15, c16, c17, eq_true c18]; done), ht⟩) (fun q h => by cases h) dX1_decimalLength_42
                  · refine lv_iinc (v := 10) (lv' := [(1, .int 10), (3, .int 8), (2, .int ((((((((p0 / 10) / 10) / 10) / 10) / 10) / 10) / 10) / 10)), (0, .int p0)]) hx hb dX1_decimalLength_27 hl (k := 2) rfl (by decide) (by decide) rfl (fun ls hl => ?_)
                    refine lv_iload_n hx hb dX1_decimalLength_30 rfl (lv_at hl 2 rfl) ?_
                    refine lv_bipush (v := 10) hx hb dX1_decimalLength_31 (by decide) ?_
                    refine lv_idiv hx hb dX1_decimalLength_33 (by decide) ?_
                    refine lv_istore_n (lv' := [(2, .int (((((((((p0 / 10) / 10) / 10) / 10) / 10) / 10) / 10) / 10) / 10)), (1, .int 10), (3, .int 8), (0, .int p0)]) hx hb dX1_decimalLength_34 rfl hl (by decide) rfl (fun ls hl => ?_)
                    refine lv_iinc (v := 9) (lv' := [(3, .int 9), (2, .int (((((((((p0 / 10) / 10) / 10) / 10) / 10) / 10) / 10) / 10) / 10)), (1, .int 10), (0, .int p0)]) hx hb dX1_decimalLength_35 hl (k := 2) rfl (by decide) (by decide) rfl (fun ls hl => ?_)
                    refine lv_goto (tgt := 17) hx hb dX1_decimalLength_38 (by decide) ?_
                    refine lv_iload_n hx hb dX1_decimalLength_17 rfl (lv_at hl 0 rfl) ?_
                    refine lv_bipush (v := 10) hx hb dX1_decimalLength_18 (by decide) ?_
                    refine lv_icmp_ge (tgt := 41) hx hb dX1_decimalLength_20 (by decide) (fun cz => absurd cz (by decide)) (fun _ => ?_)
                    refine lv_iload_n hx hb dX1_decimalLength_23 rfl (lv_at hl 1 rfl) ?_
                    refine lv_if_eq (tgt := 41) hx hb dX1_decimalLength_24 (by decide) (fun c19 => ?_) (fun c19 => ?_)
                    · refine lv_iload_n hx hb dX1_decimalLength_41 rfl (lv_at hl 2 rfl) ?_
                      exact W.iret (v := 10) hx hb hr (fun tE ht hW => ⟨10, rfl, by first | (simp only [fDec, fDig, c1, c11, c12, c13, c14, c15, c16, c17, c18, eq_true c19, eq_self, ↓reduceIte, Bool.false_eq_true, Bool.not_false, Bool.not_true, Bool.and_true, Bool.and_false, Bool.true_and, Bool.false_and, decide_true, decide_false] <;> first | done | decide) | (simp only [fDec, fDig, c1, c11, c12, c13, c14, c15, c16, c17, c18, c19, eq_self, ↓reduceIte, Bool.false_eq_true, Bool.not_false, Bool.not_true, Bool.and_true, Bool.and_false, Bool.true_and, Bool.false_and, decide_true, decide_false] <;> first | done | decide) | (simp [fDec, fDig, c1, c11, c12, c13, c14, c15, c16, c17, c18, c19]; done) | (simp [fDec, fDig, c1, c11, c12, c13, c14, c15, c16, c17, c18, eq_true c19]; done), ht⟩) (fun q h => by cases h) dX1_decimalLength_42
                    · refine lv_iinc (v := 11) (lv' := [(1, .int 11), (3, .int 9), (2, .int (((((((((p0 / 10) / 10) / 10) / 10) / 10) / 10) / 10) / 10) / 10)), (0, .int p0)]) hx hb dX1_decimalLength_27 hl (k := 2) rfl (by decide) (by decide) rfl (fun ls hl => ?_)
                      refine lv_iload_n hx hb dX1_decimalLength_30 rfl (lv_at hl 2 rfl) ?_
                      refine lv_bipush (v := 10) hx hb dX1_decimalLength_31 (by decide) ?_
                      refine lv_idiv hx hb dX1_decimalLength_33 (by decide) ?_
                      refine lv_istore_n (lv' := [(2, .int ((((((((((p0 / 10) / 10) / 10) / 10) / 10) / 10) / 10) / 10) / 10) / 10)), (1, .int 11), (3, .int 9), (0, .int p0)]) hx hb dX1_decimalLength_34 rfl hl (by decide) rfl (fun ls hl => ?_)
                      refine lv_iinc (v := 10) (lv' := [(3, .int 10), (2, .int ((((((((((p0 / 10) / 10) / 10) / 10) / 10) / 10) / 10) / 10) / 10) / 10)), (1, .int 11), (0, .int p0)]) hx hb dX1_decimalLength_35 hl (k := 2) rfl (by decide) (by decide) rfl (fun ls hl => ?_)
                      refine lv_goto (tgt := 17) hx hb dX1_decimalLength_38 (by decide) ?_
                      refine lv_iload_n hx hb dX1_decimalLength_17 rfl (lv_at hl 0 rfl) ?_
                      refine lv_bipush (v := 10) hx hb dX1_decimalLength_18 (by decide) ?_
                      refine lv_icmp_ge (tgt := 41) hx hb dX1_decimalLength_20 (by decide) (fun _ => ?_) (fun cz => absurd cz (by decide))
                      refine lv_iload_n hx hb dX1_decimalLength_41 rfl (lv_at hl 2 rfl) ?_
                      exact W.iret (v := 11) hx hb hr (fun tE ht hW => ⟨11, rfl, by first | (simp only [fDec, fDig, c1, c11, c12, c13, c14, c15, c16, c17, c18, c19, eq_self, ↓reduceIte, Bool.false_eq_true, Bool.not_false, Bool.not_true, Bool.and_true, Bool.and_false, Bool.true_and, Bool.false_and, decide_true, decide_false] <;> first | done | decide) | (simp [fDec, fDig, c1, c11, c12, c13, c14, c15, c16, c17, c18, c19]; done), ht⟩) (fun q h => by cases h) dX1_decimalLength_42
