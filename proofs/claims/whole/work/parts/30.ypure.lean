set_option maxHeartbeats 8000000 in
set_option maxRecDepth 100000 in
theorem j_inn (l : Launch) (p0 p1 p2 : Int32) : Met l yY_inn wY_inn ({ frames := 0, cells := 0, slots := 0, locals := 0 }) (fun v _ => v = ([.int p0, .int p1, .int p2] : List Value).toArray) (vp_Si (fun r => r = bI (fIn p0 p1 p2))) 0 0 (fun _ => False) := by
  refine Met.ofW (cc := cY_inn) (maxL := 3) (ret := (Option.some Jvm.ClassFile.FieldType.boolean)) (by decide) rfl ?_
  intro p e s m args below meth c s₁ B hml hv
  obtain rfl := hv
  have hx := B.exec
  have hb := B.bytes
  have hr := B.returns
  have hts := atoms_spec (ws := wY_inn) B.pre
  have hty : ∀ w ∈ yAll, w.before _ s = true := fun w h => hts w (List.mem_cons_of_mem _ h)
  have hown : s.vm.findClass RY = some m.cls := findClass_of_methodNamed B.named
  have hlocks := B.notSynchronized
  have hl := lv_entry ([.int p0, .int p1, .int p2]) (n := 3) (Nat.le_of_ble_eq_true rfl)
  rw [lg_entry_eq]
  generalize (lg_sl ([.int p0, .int p1, .int p2]) ++ List.replicate (3 - (lg_sl ([.int p0, .int p1, .int p2])).length) Slot.unset).toArray = ls at hl ⊢
  have hl : lv_has ls 3 [(0, .int p0), (1, .int p1), (2, .int p2)] := hl
  refine lv_iload_n hx hb dY_inn_0 rfl (lv_at hl 0 rfl) ?_
  refine lv_iload_n hx hb dY_inn_1 rfl (lv_at hl 1 rfl) ?_
  refine lv_icmp_lt (tgt := 14) hx hb dY_inn_2 (by decide) (fun c1 => ?_) (fun c1 => ?_)
  · refine lv_iconst (v := 0) hx hb dY_inn_14 (by decide) ?_
    exact W.zret (v := 0) hx hb hr rfl (fun tE ht hW => ⟨0, rfl, by first | (simp only [fIn, bI, eq_true c1, eq_self, ↓reduceIte, Bool.false_eq_true, Bool.not_false, Bool.not_true, Bool.and_true, Bool.and_false, Bool.true_and, Bool.false_and, decide_true, decide_false] <;> first | done | decide) | (simp only [fIn, bI, c1, eq_self, ↓reduceIte, Bool.false_eq_true, Bool.not_false, Bool.not_true, Bool.and_true, Bool.and_false, Bool.true_and, Bool.false_and, decide_true, decide_false] <;> first | done | decide) | (simp [fIn, bI, c1]; done) | (simp [fIn, bI, eq_true c1]; done), ht⟩) (fun q h => by cases h) dY_inn_15
  · refine lv_iload_n hx hb dY_inn_5 rfl (lv_at hl 0 rfl) ?_
    refine lv_iload_n hx hb dY_inn_6 rfl (lv_at hl 2 rfl) ?_
    refine lv_icmp_gt (tgt := 14) hx hb dY_inn_7 (by decide) (fun c2 => ?_) (fun c2 => ?_)
    · refine lv_iconst (v := 0) hx hb dY_inn_14 (by decide) ?_
      exact W.zret (v := 0) hx hb hr rfl (fun tE ht hW => ⟨0, rfl, by first | (simp only [fIn, bI, c1, eq_true c2, eq_self, ↓reduceIte, Bool.false_eq_true, Bool.not_false, Bool.not_true, Bool.and_true, Bool.and_false, Bool.true_and, Bool.false_and, decide_true, decide_false] <;> first | done | decide) | (simp only [fIn, bI, c1, c2, eq_self, ↓reduceIte, Bool.false_eq_true, Bool.not_false, Bool.not_true, Bool.and_true, Bool.and_false, Bool.true_and, Bool.false_and, decide_true, decide_false] <;> first | done | decide) | (simp [fIn, bI, c1, c2]; done) | (simp [fIn, bI, c1, eq_true c2]; done), ht⟩) (fun q h => by cases h) dY_inn_15
    · refine lv_iconst (v := 1) hx hb dY_inn_10 (by decide) ?_
      refine lv_goto (tgt := 15) hx hb dY_inn_11 (by decide) ?_
      exact W.zret (v := 1) hx hb hr rfl (fun tE ht hW => ⟨1, rfl, by first | (simp only [fIn, bI, c1, c2, eq_self, ↓reduceIte, Bool.false_eq_true, Bool.not_false, Bool.not_true, Bool.and_true, Bool.and_false, Bool.true_and, Bool.false_and, decide_true, decide_false] <;> first | done | decide) | (simp [fIn, bI, c1, c2]; done), ht⟩) (fun q h => by cases h) dY_inn_15
set_option maxHeartbeats 8000000 in
set_option maxRecDepth 100000 in
theorem j_bits (l : Launch) (p0 p1 p2 p3 : Int32) : Met l yY_bits wY_bits ({ frames := 0, cells := 0, slots := 0, locals := 0 }) (fun v _ => v = ([.int p0, .int p1, .int p2, .int p3] : List Value).toArray) (vp_Si (fun r => r = (fBits p0 p1 p2 p3))) 0 0 (fun _ => False) := by
  refine Met.ofW (cc := cY_bits) (maxL := 4) (ret := (Option.some Jvm.ClassFile.FieldType.int)) (by decide) rfl ?_
  intro p e s m args below meth c s₁ B hml hv
  obtain rfl := hv
  have hx := B.exec
  have hb := B.bytes
  have hr := B.returns
  have hts := atoms_spec (ws := wY_bits) B.pre
  have hty : ∀ w ∈ yAll, w.before _ s = true := fun w h => hts w (List.mem_cons_of_mem _ h)
  have hown : s.vm.findClass RY = some m.cls := findClass_of_methodNamed B.named
  have hlocks := B.notSynchronized
  have hl := lv_entry ([.int p0, .int p1, .int p2, .int p3]) (n := 4) (Nat.le_of_ble_eq_true rfl)
  rw [lg_entry_eq]
  generalize (lg_sl ([.int p0, .int p1, .int p2, .int p3]) ++ List.replicate (4 - (lg_sl ([.int p0, .int p1, .int p2, .int p3])).length) Slot.unset).toArray = ls at hl ⊢
  have hl : lv_has ls 4 [(0, .int p0), (1, .int p1), (2, .int p2), (3, .int p3)] := hl
  refine lv_iconst (v := 1) hx hb dY_bits_0 (by decide) ?_
  refine lv_iload_n hx hb dY_bits_1 rfl (lv_at hl 0 rfl) ?_
  refine lv_ishl hx hb dY_bits_2 ?_
  refine lv_iconst (v := 1) hx hb dY_bits_3 (by decide) ?_
  refine lv_iload_n hx hb dY_bits_4 rfl (lv_at hl 1 rfl) ?_
  refine lv_ishl hx hb dY_bits_5 ?_
  refine lv_ior hx hb dY_bits_6 ?_
  refine lv_iconst (v := 1) hx hb dY_bits_7 (by decide) ?_
  refine lv_iload_n hx hb dY_bits_8 rfl (lv_at hl 2 rfl) ?_
  refine lv_ishl hx hb dY_bits_9 ?_
  refine lv_ior hx hb dY_bits_10 ?_
  refine lv_iconst (v := 1) hx hb dY_bits_11 (by decide) ?_
  refine lv_iload_n hx hb dY_bits_12 rfl (lv_at hl 3 rfl) ?_
  refine lv_ishl hx hb dY_bits_13 ?_
  refine lv_ior hx hb dY_bits_14 ?_
  exact W.iret (v := (((((1 : Int32) <<< (p0 &&& 31)) ||| ((1 : Int32) <<< (p1 &&& 31))) ||| ((1 : Int32) <<< (p2 &&& 31))) ||| ((1 : Int32) <<< (p3 &&& 31)))) hx hb hr (fun tE ht hW => ⟨(((((1 : Int32) <<< (p0 &&& 31)) ||| ((1 : Int32) <<< (p1 &&& 31))) ||| ((1 : Int32) <<< (p2 &&& 31))) ||| ((1 : Int32) <<< (p3 &&& 31))), rfl, by first | (simp only [fBits, eq_self, ↓reduceIte, Bool.false_eq_true, Bool.not_false, Bool.not_true, Bool.and_true, Bool.and_false, Bool.true_and, Bool.false_and, decide_true, decide_false] <;> first | done | decide) | (simp [fBits]; done), ht⟩) (fun q h => by cases h) dY_bits_15
set_option maxHeartbeats 8000000 in
set_option maxRecDepth 100000 in
theorem j_held (l : Launch) (p0 : Int64) : Met l yY_held wY_held ({ frames := 0, cells := 0, slots := 0, locals := 0 }) (fun v _ => v = ([.long p0] : List Value).toArray) (vp_Si (fun r => r = (fHeld p0))) 0 0 (fun _ => False) := by
  refine Met.ofW (cc := cY_held) (maxL := 2) (ret := (Option.some Jvm.ClassFile.FieldType.int)) (by decide) rfl ?_
  intro p e s m args below meth c s₁ B hml hv
  obtain rfl := hv
  have hx := B.exec
  have hb := B.bytes
  have hr := B.returns
  have hts := atoms_spec (ws := wY_held) B.pre
  have hty : ∀ w ∈ yAll, w.before _ s = true := fun w h => hts w (List.mem_cons_of_mem _ h)
  have hown : s.vm.findClass RY = some m.cls := findClass_of_methodNamed B.named
  have hlocks := B.notSynchronized
  have hl := lv_entry ([.long p0]) (n := 2) (Nat.le_of_ble_eq_true rfl)
  rw [lg_entry_eq]
  generalize (lg_sl ([.long p0]) ++ List.replicate (2 - (lg_sl ([.long p0])).length) Slot.unset).toArray = ls at hl ⊢
  have hl : lv_has ls 2 [(0, .long p0)] := hl
  refine lv_lload_n hx hb dY_held_0 rfl (lv_at hl 0 rfl) ?_
  refine lv_ldc2 (v := 2147483647) hx hb hown (hty _ yk_109) dY_held_1 ?_
  refine W.lcmp hx hb dY_held_4 ?_
  refine lv_if_le (tgt := 13) hx hb dY_held_5 (by decide) (fun c1 => ?_) (fun c1 => ?_)
  · refine lv_lload_n hx hb dY_held_13 rfl (lv_at hl 0 rfl) ?_
    refine lv_ldc2 (v := (-2147483648)) hx hb hown (hty _ yk_112) dY_held_14 ?_
    refine W.lcmp hx hb dY_held_17 ?_
    refine lv_if_ge (tgt := 26) hx hb dY_held_18 (by decide) (fun c2 => ?_) (fun c2 => ?_)
    · refine lv_lload_n hx hb dY_held_26 rfl (lv_at hl 0 rfl) ?_
      refine lv_l2i hx hb dY_held_27 rfl ?_
      exact W.iret (v := (Int64.toInt32 p0)) hx hb hr (fun tE ht hW => ⟨(Int64.toInt32 p0), rfl, by first | (simp only [fHeld, eq_true c1, eq_true c2, eq_self, ↓reduceIte, Bool.false_eq_true, Bool.not_false, Bool.not_true, Bool.and_true, Bool.and_false, Bool.true_and, Bool.false_and, decide_true, decide_false] <;> first | done | decide) | (simp only [fHeld, c1, c2, eq_self, ↓reduceIte, Bool.false_eq_true, Bool.not_false, Bool.not_true, Bool.and_true, Bool.and_false, Bool.true_and, Bool.false_and, decide_true, decide_false] <;> first | done | decide) | (simp [fHeld, c1, c2]; done) | (simp [fHeld, eq_true c1, eq_true c2]; done), ht⟩) (fun q h => by cases h) dY_held_28
    · refine lv_ldc (v := (-2147483648)) hx hb hown (hty _ yk_114) dY_held_21 ?_
      refine lv_goto (tgt := 28) hx hb dY_held_23 (by decide) ?_
      exact W.iret (v := (-2147483648)) hx hb hr (fun tE ht hW => ⟨(-2147483648), rfl, by first | (simp only [fHeld, eq_true c1, c2, eq_self, ↓reduceIte, Bool.false_eq_true, Bool.not_false, Bool.not_true, Bool.and_true, Bool.and_false, Bool.true_and, Bool.false_and, decide_true, decide_false] <;> first | done | decide) | (simp only [fHeld, c1, c2, eq_self, ↓reduceIte, Bool.false_eq_true, Bool.not_false, Bool.not_true, Bool.and_true, Bool.and_false, Bool.true_and, Bool.false_and, decide_true, decide_false] <;> first | done | decide) | (simp [fHeld, c1, c2]; done) | (simp [fHeld, eq_true c1, c2]; done), ht⟩) (fun q h => by cases h) dY_held_28
  · refine lv_ldc (v := 2147483647) hx hb hown (hty _ yk_111) dY_held_8 ?_
    refine lv_goto (tgt := 28) hx hb dY_held_10 (by decide) ?_
    exact W.iret (v := 2147483647) hx hb hr (fun tE ht hW => ⟨2147483647, rfl, by first | (simp only [fHeld, c1, eq_self, ↓reduceIte, Bool.false_eq_true, Bool.not_false, Bool.not_true, Bool.and_true, Bool.and_false, Bool.true_and, Bool.false_and, decide_true, decide_false] <;> first | done | decide) | (simp [fHeld, c1]; done), ht⟩) (fun q h => by cases h) dY_held_28
set_option maxHeartbeats 8000000 in
set_option maxRecDepth 100000 in
theorem j_quotient (l : Launch) (p0 p1 : Int32) : Met l yY_quotient wY_quotient ({ frames := 1, cells := 0, slots := 0, locals := 21 }) (fun v _ => v = ([.int p0, .int p1] : List Value).toArray) (vp_Si (fun r => r = (fQuoY p0 p1))) 0 0 (fun _ => False) := by
  refine Met.ofW (cc := cY_quotient) (maxL := 2) (ret := (Option.some Jvm.ClassFile.FieldType.int)) (by decide) rfl ?_
  intro p e s m args below meth c s₁ B hml hv
  obtain rfl := hv
  have hx := B.exec
  have hb := B.bytes
  have hr := B.returns
  have hts := atoms_spec (ws := wY_quotient) B.pre
  have hty : ∀ w ∈ yAll, w.before _ s = true := fun w h => hts w (List.mem_cons_of_mem _ h)
  have hown : s.vm.findClass RY = some m.cls := findClass_of_methodNamed B.named
  have hlocks := B.notSynchronized
  have hl := lv_entry ([.int p0, .int p1]) (n := 2) (Nat.le_of_ble_eq_true rfl)
  rw [lg_entry_eq]
  generalize (lg_sl ([.int p0, .int p1]) ++ List.replicate (2 - (lg_sl ([.int p0, .int p1])).length) Slot.unset).toArray = ls at hl ⊢
  have hl : lv_has ls 2 [(0, .int p0), (1, .int p1)] := hl
  refine lv_iload_n hx hb dY_quotient_0 rfl (lv_at hl 1 rfl) ?_
  refine lv_if_ne (tgt := 24) hx hb dY_quotient_1 (by decide) (fun c1 => ?_) (fun c1 => ?_)
  · refine lv_iload_n hx hb dY_quotient_24 rfl (lv_at hl 0 rfl) ?_
    refine lv_i2l hx hb dY_quotient_25 rfl ?_
    refine lv_iload_n hx hb dY_quotient_26 rfl (lv_at hl 1 rfl) ?_
    refine lv_i2l hx hb dY_quotient_27 rfl ?_
    refine lv_ldiv hx hb dY_quotient_28 (nz64 c1) ?_
    refine vp_callSi (va_Run.run (va_runS (As := [.long ((Int32.toInt64 p0) / (Int32.toInt64 p1))]) (rest := []) ⟨hx, hb, hml, hown, hts⟩ (j_held l ((Int32.toInt64 p0) / (Int32.toInt64 p1))) (va_cwS 1 hts (yS ylY_115 ym_held yini yc_held) rfl rfl rfl (by decide +kernel) ⟨Nat.le_of_ble_eq_true rfl, Nat.le_of_ble_eq_true rfl⟩) preEq rfl rfl hl.1 rfl (lv_room (Nat.le_of_ble_eq_true rfl)) dY_quotient_29 ⟨Nat.le_of_ble_eq_true rfl, Nat.le_of_ble_eq_true rfl⟩)) (fun r2 hw3 => ?_)
    subst hw3
    exact W.iret (v := (fHeld ((Int32.toInt64 p0) / (Int32.toInt64 p1)))) hx hb hr (fun tE ht hW => ⟨(fHeld ((Int32.toInt64 p0) / (Int32.toInt64 p1))), rfl, by first | (simp only [fQuoY, c1, eq_self, ↓reduceIte, Bool.false_eq_true, Bool.not_false, Bool.not_true, Bool.and_true, Bool.and_false, Bool.true_and, Bool.false_and, decide_true, decide_false] <;> first | done | decide) | (simp [fQuoY, c1]; done), ht⟩) (fun q h => by cases h) dY_quotient_32
  · refine lv_iload_n hx hb dY_quotient_4 rfl (lv_at hl 0 rfl) ?_
    refine lv_if_le (tgt := 13) hx hb dY_quotient_5 (by decide) (fun c4 => ?_) (fun c4 => ?_)
    · refine lv_iload_n hx hb dY_quotient_13 rfl (lv_at hl 0 rfl) ?_
      refine lv_if_ge (tgt := 22) hx hb dY_quotient_14 (by decide) (fun c5 => ?_) (fun c5 => ?_)
      · refine lv_iconst (v := 0) hx hb dY_quotient_22 (by decide) ?_
        exact W.iret (v := 0) hx hb hr (fun tE ht hW => ⟨0, rfl, by first | (simp only [fQuoY, eq_true c1, eq_true c4, eq_true c5, eq_self, ↓reduceIte, Bool.false_eq_true, Bool.not_false, Bool.not_true, Bool.and_true, Bool.and_false, Bool.true_and, Bool.false_and, decide_true, decide_false] <;> first | done | decide) | (simp only [fQuoY, c1, c4, c5, eq_self, ↓reduceIte, Bool.false_eq_true, Bool.not_false, Bool.not_true, Bool.and_true, Bool.and_false, Bool.true_and, Bool.false_and, decide_true, decide_false] <;> first | done | decide) | (simp [fQuoY, c1, c4, c5]; done) | (simp [fQuoY, eq_true c1, eq_true c4, eq_true c5]; done), ht⟩) (fun q h => by cases h) dY_quotient_23
      · refine lv_ldc (v := (-2147483648)) hx hb hown (hty _ yk_114) dY_quotient_17 ?_
        refine lv_goto (tgt := 23) hx hb dY_quotient_19 (by decide) ?_
        exact W.iret (v := (-2147483648)) hx hb hr (fun tE ht hW => ⟨(-2147483648), rfl, by first | (simp only [fQuoY, eq_true c1, eq_true c4, c5, eq_self, ↓reduceIte, Bool.false_eq_true, Bool.not_false, Bool.not_true, Bool.and_true, Bool.and_false, Bool.true_and, Bool.false_and, decide_true, decide_false] <;> first | done | decide) | (simp only [fQuoY, c1, c4, c5, eq_self, ↓reduceIte, Bool.false_eq_true, Bool.not_false, Bool.not_true, Bool.and_true, Bool.and_false, Bool.true_and, Bool.false_and, decide_true, decide_false] <;> first | done | decide) | (simp [fQuoY, c1, c4, c5]; done) | (simp [fQuoY, eq_true c1, eq_true c4, c5]; done), ht⟩) (fun q h => by cases h) dY_quotient_23
    · refine lv_ldc (v := 2147483647) hx hb hown (hty _ yk_111) dY_quotient_8 ?_
      refine lv_goto (tgt := 23) hx hb dY_quotient_10 (by decide) ?_
      exact W.iret (v := 2147483647) hx hb hr (fun tE ht hW => ⟨2147483647, rfl, by first | (simp only [fQuoY, eq_true c1, c4, eq_self, ↓reduceIte, Bool.false_eq_true, Bool.not_false, Bool.not_true, Bool.and_true, Bool.and_false, Bool.true_and, Bool.false_and, decide_true, decide_false] <;> first | done | decide) | (simp only [fQuoY, c1, c4, eq_self, ↓reduceIte, Bool.false_eq_true, Bool.not_false, Bool.not_true, Bool.and_true, Bool.and_false, Bool.true_and, Bool.false_and, decide_true, decide_false] <;> first | done | decide) | (simp [fQuoY, c1, c4]; done) | (simp [fQuoY, eq_true c1, c4]; done), ht⟩) (fun q h => by cases h) dY_quotient_23
set_option maxHeartbeats 8000000 in
set_option maxRecDepth 100000 in
theorem j_decimals (l : Launch) (p0 : Int32) : Met l yY_decimals wY_decimals ({ frames := 0, cells := 0, slots := 0, locals := 0 }) (fun v _ => v = ([.int p0] : List Value).toArray) (vp_Si (fun r => r = (fDecY p0))) 0 0 (fun _ => False) := by
  refine Met.ofW (cc := cY_decimals) (maxL := 4) (ret := (Option.some Jvm.ClassFile.FieldType.int)) (by decide) rfl ?_
  intro p e s m args below meth c s₁ B hml hv
  obtain rfl := hv
  have hx := B.exec
  have hb := B.bytes
  have hr := B.returns
  have hts := atoms_spec (ws := wY_decimals) B.pre
  have hty : ∀ w ∈ yAll, w.before _ s = true := fun w h => hts w (List.mem_cons_of_mem _ h)
  have hown : s.vm.findClass RY = some m.cls := findClass_of_methodNamed B.named
  have hlocks := B.notSynchronized
  have hl := lv_entry ([.int p0]) (n := 4) (Nat.le_of_ble_eq_true rfl)
  rw [lg_entry_eq]
  generalize (lg_sl ([.int p0]) ++ List.replicate (4 - (lg_sl ([.int p0])).length) Slot.unset).toArray = ls at hl ⊢
  have hl : lv_has ls 4 [(0, .int p0)] := hl
  refine lv_iload_n hx hb dY_decimals_0 rfl (lv_at hl 0 rfl) ?_
  refine lv_if_ge (tgt := 10) hx hb dY_decimals_1 (by decide) (fun c1 => ?_) (fun c1 => ?_)
  · refine lv_iload_n hx hb dY_decimals_10 rfl (lv_at hl 0 rfl) ?_
    refine lv_i2l hx hb dY_decimals_11 rfl ?_
    refine lv_lstore_n (lv' := [(1, .long (Int32.toInt64 p0)), (0, .int p0)]) hx hb dY_decimals_12 rfl hl (by decide) rfl (fun ls hl => ?_)
    refine lv_iload_n hx hb dY_decimals_13 rfl (lv_at hl 1 rfl) ?_
    refine lv_if_ge (tgt := 21) hx hb dY_decimals_14 (by decide) (fun _ => ?_) (fun cz => absurd c1 cz)
    refine lv_iconst (v := 1) hx hb dY_decimals_21 (by decide) ?_
    refine lv_istore_n (lv' := [(3, .int 1), (1, .long (Int32.toInt64 p0)), (0, .int p0)]) hx hb dY_decimals_22 rfl hl (by decide) rfl (fun ls hl => ?_)
    refine lv_lload_n hx hb dY_decimals_23 rfl (lv_at hl 1 rfl) ?_
    refine lv_ldc2 (v := 9) hx hb hown (hty _ yk_119) dY_decimals_24 ?_
    refine W.lcmp hx hb dY_decimals_27 ?_
    refine lv_if_le (tgt := 43) hx hb dY_decimals_28 (by decide) (fun c2 => ?_) (fun c2 => ?_)
    · refine lv_iload_n hx hb dY_decimals_43 rfl (lv_at hl 0 rfl) ?_
      exact W.iret (v := 1) hx hb hr (fun tE ht hW => ⟨1, rfl, by first | (simp only [fDecY, fDigY, fMag, eq_true c1, eq_true c2, eq_self, ↓reduceIte, Bool.false_eq_true, Bool.not_false, Bool.not_true, Bool.and_true, Bool.and_false, Bool.true_and, Bool.false_and, decide_true, decide_false] <;> first | done | decide) | (simp only [fDecY, fDigY, fMag, c1, c2, eq_self, ↓reduceIte, Bool.false_eq_true, Bool.not_false, Bool.not_true, Bool.and_true, Bool.and_false, Bool.true_and, Bool.false_and, decide_true, decide_false] <;> first | done | decide) | (simp [fDecY, fDigY, fMag, c1, c2]; done) | (simp [fDecY, fDigY, fMag, eq_true c1, eq_true c2]; done), ht⟩) (fun q h => by cases h) dY_decimals_44
    · refine lv_lload_n hx hb dY_decimals_31 rfl (lv_at hl 1 rfl) ?_
      refine lv_ldc2 (v := 10) hx hb hown (hty _ yk_121) dY_decimals_32 ?_
      refine lv_ldiv hx hb dY_decimals_35 (by decide) ?_
      refine lv_lstore_n (lv' := [(1, .long ((Int32.toInt64 p0) / 10)), (3, .int 1), (0, .int p0)]) hx hb dY_decimals_36 rfl hl (by decide) rfl (fun ls hl => ?_)
      refine lv_iinc (v := 2) (lv' := [(3, .int 2), (1, .long ((Int32.toInt64 p0) / 10)), (0, .int p0)]) hx hb dY_decimals_37 hl (k := 1) rfl (by decide) (by decide) rfl (fun ls hl => ?_)
      refine lv_goto (tgt := 23) hx hb dY_decimals_40 (by decide) ?_
      refine lv_lload_n hx hb dY_decimals_23 rfl (lv_at hl 1 rfl) ?_
      refine lv_ldc2 (v := 9) hx hb hown (hty _ yk_119) dY_decimals_24 ?_
      refine W.lcmp hx hb dY_decimals_27 ?_
      refine lv_if_le (tgt := 43) hx hb dY_decimals_28 (by decide) (fun c3 => ?_) (fun c3 => ?_)
      · refine lv_iload_n hx hb dY_decimals_43 rfl (lv_at hl 0 rfl) ?_
        exact W.iret (v := 2) hx hb hr (fun tE ht hW => ⟨2, rfl, by first | (simp only [fDecY, fDigY, fMag, eq_true c1, c2, eq_true c3, eq_self, ↓reduceIte, Bool.false_eq_true, Bool.not_false, Bool.not_true, Bool.and_true, Bool.and_false, Bool.true_and, Bool.false_and, decide_true, decide_false] <;> first | done | decide) | (simp only [fDecY, fDigY, fMag, c1, c2, c3, eq_self, ↓reduceIte, Bool.false_eq_true, Bool.not_false, Bool.not_true, Bool.and_true, Bool.and_false, Bool.true_and, Bool.false_and, decide_true, decide_false] <;> first | done | decide) | (simp [fDecY, fDigY, fMag, c1, c2, c3]; done) | (simp [fDecY, fDigY, fMag, eq_true c1, c2, eq_true c3]; done), ht⟩) (fun q h => by cases h) dY_decimals_44
      · refine lv_lload_n hx hb dY_decimals_31 rfl (lv_at hl 1 rfl) ?_
        refine lv_ldc2 (v := 10) hx hb hown (hty _ yk_121) dY_decimals_32 ?_
        refine lv_ldiv hx hb dY_decimals_35 (by decide) ?_
        refine lv_lstore_n (lv' := [(1, .long (((Int32.toInt64 p0) / 10) / 10)), (3, .int 2), (0, .int p0)]) hx hb dY_decimals_36 rfl hl (by decide) rfl (fun ls hl => ?_)
        refine lv_iinc (v := 3) (lv' := [(3, .int 3), (1, .long (((Int32.toInt64 p0) / 10) / 10)), (0, .int p0)]) hx hb dY_decimals_37 hl (k := 1) rfl (by decide) (by decide) rfl (fun ls hl => ?_)
        refine lv_goto (tgt := 23) hx hb dY_decimals_40 (by decide) ?_
        refine lv_lload_n hx hb dY_decimals_23 rfl (lv_at hl 1 rfl) ?_
        refine lv_ldc2 (v := 9) hx hb hown (hty _ yk_119) dY_decimals_24 ?_
        refine W.lcmp hx hb dY_decimals_27 ?_
        refine lv_if_le (tgt := 43) hx hb dY_decimals_28 (by decide) (fun c4 => ?_) (fun c4 => ?_)
        · refine lv_iload_n hx hb dY_decimals_43 rfl (lv_at hl 0 rfl) ?_
          exact W.iret (v := 3) hx hb hr (fun tE ht hW => ⟨3, rfl, by first | (simp only [fDecY, fDigY, fMag, eq_true c1, c2, c3, eq_true c4, eq_self, ↓reduceIte, Bool.false_eq_true, Bool.not_false, Bool.not_true, Bool.and_true, Bool.and_false, Bool.true_and, Bool.false_and, decide_true, decide_false] <;> first | done | decide) | (simp only [fDecY, fDigY, fMag, c1, c2, c3, c4, eq_self, ↓reduceIte, Bool.false_eq_true, Bool.not_false, Bool.not_true, Bool.and_true, Bool.and_false, Bool.true_and, Bool.false_and, decide_true, decide_false] <;> first | done | decide) | (simp [fDecY, fDigY, fMag, c1, c2, c3, c4]; done) | (simp [fDecY, fDigY, fMag, eq_true c1, c2, c3, eq_true c4]; done), ht⟩) (fun q h => by cases h) dY_decimals_44
        · refine lv_lload_n hx hb dY_decimals_31 rfl (lv_at hl 1 rfl) ?_
          refine lv_ldc2 (v := 10) hx hb hown (hty _ yk_121) dY_decimals_32 ?_
          refine lv_ldiv hx hb dY_decimals_35 (by decide) ?_
          refine lv_lstore_n (lv' := [(1, .long ((((Int32.toInt64 p0) / 10) / 10) / 10)), (3, .int 3), (0, .int p0)]) hx hb dY_decimals_36 rfl hl (by decide) rfl (fun ls hl => ?_)
          refine lv_iinc (v := 4) (lv' := [(3, .int 4), (1, .long ((((Int32.toInt64 p0) / 10) / 10) / 10)), (0, .int p0)]) hx hb dY_decimals_37 hl (k := 1) rfl (by decide) (by decide) rfl (fun ls hl => ?_)
          refine lv_goto (tgt := 23) hx hb dY_decimals_40 (by decide) ?_
          refine lv_lload_n hx hb dY_decimals_23 rfl (lv_at hl 1 rfl) ?_
          refine lv_ldc2 (v := 9) hx hb hown (hty _ yk_119) dY_decimals_24 ?_
          refine W.lcmp hx hb dY_decimals_27 ?_
          refine lv_if_le (tgt := 43) hx hb dY_decimals_28 (by decide) (fun c5 => ?_) (fun c5 => ?_)
          · refine lv_iload_n hx hb dY_decimals_43 rfl (lv_at hl 0 rfl) ?_
            exact W.iret (v := 4) hx hb hr (fun tE ht hW => ⟨4, rfl, by first | (simp only [fDecY, fDigY, fMag, eq_true c1, c2, c3, c4, eq_true c5, eq_self, ↓reduceIte, Bool.false_eq_true, Bool.not_false, Bool.not_true, Bool.and_true, Bool.and_false, Bool.true_and, Bool.false_and, decide_true, decide_false] <;> first | done | decide) | (simp only [fDecY, fDigY, fMag, c1, c2, c3, c4, c5, eq_self, ↓reduceIte, Bool.false_eq_true, Bool.not_false, Bool.not_true, Bool.and_true, Bool.and_false, Bool.true_and, Bool.false_and, decide_true, decide_false] <;> first | done | decide) | (simp [fDecY, fDigY, fMag, c1, c2, c3, c4, c5]; done) | (simp [fDecY, fDigY, fMag, eq_true c1, c2, c3, c4, eq_true c5]; done), ht⟩) (fun q h => by cases h) dY_decimals_44
          · refine lv_lload_n hx hb dY_decimals_31 rfl (lv_at hl 1 rfl) ?_
            refine lv_ldc2 (v := 10) hx hb hown (hty _ yk_121) dY_decimals_32 ?_
            refine lv_ldiv hx hb dY_decimals_35 (by decide) ?_
            refine lv_lstore_n (lv' := [(1, .long (((((Int32.toInt64 p0) / 10) / 10) / 10) / 10)), (3, .int 4), (0, .int p0)]) hx hb dY_decimals_36 rfl hl (by decide) rfl (fun ls hl => ?_)
            refine lv_iinc (v := 5) (lv' := [(3, .int 5), (1, .long (((((Int32.toInt64 p0) / 10) / 10) / 10) / 10)), (0, .int p0)]) hx hb dY_decimals_37 hl (k := 1) rfl (by decide) (by decide) rfl (fun ls hl => ?_)
            refine lv_goto (tgt := 23) hx hb dY_decimals_40 (by decide) ?_
            refine lv_lload_n hx hb dY_decimals_23 rfl (lv_at hl 1 rfl) ?_
            refine lv_ldc2 (v := 9) hx hb hown (hty _ yk_119) dY_decimals_24 ?_
            refine W.lcmp hx hb dY_decimals_27 ?_
            refine lv_if_le (tgt := 43) hx hb dY_decimals_28 (by decide) (fun c6 => ?_) (fun c6 => ?_)
            · refine lv_iload_n hx hb dY_decimals_43 rfl (lv_at hl 0 rfl) ?_
              exact W.iret (v := 5) hx hb hr (fun tE ht hW => ⟨5, rfl, by first | (simp only [fDecY, fDigY, fMag, eq_true c1, c2, c3, c4, c5, eq_true c6, eq_self, ↓reduceIte, Bool.false_eq_true, Bool.not_false, Bool.not_true, Bool.and_true, Bool.and_false, Bool.true_and, Bool.false_and, decide_true, decide_false] <;> first | done | decide) | (simp only [fDecY, fDigY, fMag, c1, c2, c3, c4, c5, c6, eq_self, ↓reduceIte, Bool.false_eq_true, Bool.not_false, Bool.not_true, Bool.and_true, Bool.and_false, Bool.true_and, Bool.false_and, decide_true, decide_false] <;> first | done | decide) | (simp [fDecY, fDigY, fMag, c1, c2, c3, c4, c5, c6]; done) | (simp [fDecY, fDigY, fMag, eq_true c1, c2, c3, c4, c5, eq_true c6]; done), ht⟩) (fun q h => by cases h) dY_decimals_44
            · refine lv_lload_n hx hb dY_decimals_31 rfl (lv_at hl 1 rfl) ?_
              refine lv_ldc2 (v := 10) hx hb hown (hty _ yk_121) dY_decimals_32 ?_
              refine lv_ldiv hx hb dY_decimals_35 (by decide) ?_
              refine lv_lstore_n (lv' := [(1, .long ((((((Int32.toInt64 p0) / 10) / 10) / 10) / 10) / 10)), (3, .int 5), (0, .int p0)]) hx hb dY_decimals_36 rfl hl (by decide) rfl (fun ls hl => ?_)
              refine lv_iinc (v := 6) (lv' := [(3, .int 6), (1, .long ((((((Int32.toInt64 p0) / 10) / 10) / 10) / 10) / 10)), (0, .int p0)]) hx hb dY_decimals_37 hl (k := 1) rfl (by decide) (by decide) rfl (fun ls hl => ?_)
              refine lv_goto (tgt := 23) hx hb dY_decimals_40 (by decide) ?_
              refine lv_lload_n hx hb dY_decimals_23 rfl (lv_at hl 1 rfl) ?_
              refine lv_ldc2 (v := 9) hx hb hown (hty _ yk_119) dY_decimals_24 ?_
              refine W.lcmp hx hb dY_decimals_27 ?_
              refine lv_if_le (tgt := 43) hx hb dY_decimals_28 (by decide) (fun c7 => ?_) (fun c7 => ?_)
              · refine lv_iload_n hx hb dY_decimals_43 rfl (lv_at hl 0 rfl) ?_
                exact W.iret (v := 6) hx hb hr (fun tE ht hW => ⟨6, rfl, by first | (simp only [fDecY, fDigY, fMag, eq_true c1, c2, c3, c4, c5, c6, eq_true c7, eq_self, ↓reduceIte, Bool.false_eq_true, Bool.not_false, Bool.not_true, Bool.and_true, Bool.and_false, Bool.true_and, Bool.false_and, decide_true, decide_false] <;> first | done | decide) | (simp only [fDecY, fDigY, fMag, c1, c2, c3, c4, c5, c6, c7, eq_self, ↓reduceIte, Bool.false_eq_true, Bool.not_false, Bool.not_true, Bool.and_true, Bool.and_false, Bool.true_and, Bool.false_and, decide_true, decide_false] <;> first | done | decide) | (simp [fDecY, fDigY, fMag, c1, c2, c3, c4, c5, c6, c7]; done) | (simp [fDecY, fDigY, fMag, eq_true c1, c2, c3, c4, c5, c6, eq_true c7]; done), ht⟩) (fun q h => by cases h) dY_decimals_44
              · refine lv_lload_n hx hb dY_decimals_31 rfl (lv_at hl 1 rfl) ?_
                refine lv_ldc2 (v := 10) hx hb hown (hty _ yk_121) dY_decimals_32 ?_
                refine lv_ldiv hx hb dY_decimals_35 (by decide) ?_
                refine lv_lstore_n (lv' := [(1, .long (((((((Int32.toInt64 p0) / 10) / 10) / 10) / 10) / 10) / 10)), (3, .int 6), (0, .int p0)]) hx hb dY_decimals_36 rfl hl (by decide) rfl (fun ls hl => ?_)
                refine lv_iinc (v := 7) (lv' := [(3, .int 7), (1, .long (((((((Int32.toInt64 p0) / 10) / 10) / 10) / 10) / 10) / 10)), (0, .int p0)]) hx hb dY_decimals_37 hl (k := 1) rfl (by decide) (by decide) rfl (fun ls hl => ?_)
                refine lv_goto (tgt := 23) hx hb dY_decimals_40 (by decide) ?_
                refine lv_lload_n hx hb dY_decimals_23 rfl (lv_at hl 1 rfl) ?_
                refine lv_ldc2 (v := 9) hx hb hown (hty _ yk_119) dY_decimals_24 ?_
                refine W.lcmp hx hb dY_decimals_27 ?_
                refine lv_if_le (tgt := 43) hx hb dY_decimals_28 (by decide) (fun c8 => ?_) (fun c8 => ?_)
                · refine lv_iload_n hx hb dY_decimals_43 rfl (lv_at hl 0 rfl) ?_
                  exact W.iret (v := 7) hx hb hr (fun tE ht hW => ⟨7, rfl, by first | (simp only [fDecY, fDigY, fMag, eq_true c1, c2, c3, c4, c5, c6, c7, eq_true c8, eq_self, ↓reduceIte, Bool.false_eq_true, Bool.not_false, Bool.not_true, Bool.and_true, Bool.and_false, Bool.true_and, Bool.false_and, decide_true, decide_false] <;> first | done | decide) | (simp only [fDecY, fDigY, fMag, c1, c2, c3, c4, c5, c6, c7, c8, eq_self, ↓reduceIte, Bool.false_eq_true, Bool.not_false, Bool.not_true, Bool.and_true, Bool.and_false, Bool.true_and, Bool.false_and, decide_true, decide_false] <;> first | done | decide) | (simp [fDecY, fDigY, fMag, c1, c2, c3, c4, c5, c6, c7, c8]; done) | (simp [fDecY, fDigY, fMag, eq_true c1, c2, c3, c4, c5, c6, c7, eq_true c8]; done), ht⟩) (fun q h => by cases h) dY_decimals_44
                · refine lv_lload_n hx hb dY_decimals_31 rfl (lv_at hl 1 rfl) ?_
                  refine lv_ldc2 (v := 10) hx hb hown (hty _ yk_121) dY_decimals_32 ?_
                  refine lv_ldiv hx hb dY_decimals_35 (by decide) ?_
                  refine lv_lstore_n (lv' := [(1, .long ((((((((Int32.toInt64 p0) / 10) / 10) / 10) / 10) / 10) / 10) / 10)), (3, .int 7), (0, .int p0)]) hx hb dY_decimals_36 rfl hl (by decide) rfl (fun ls hl => ?_)
                  refine lv_iinc (v := 8) (lv' := [(3, .int 8), (1, .long ((((((((Int32.toInt64 p0) / 10) / 10) / 10) / 10) / 10) / 10) / 10)), (0, .int p0)]) hx hb dY_decimals_37 hl (k := 1) rfl (by decide) (by decide) rfl (fun ls hl => ?_)
                  refine lv_goto (tgt := 23) hx hb dY_decimals_40 (by decide) ?_
                  refine lv_lload_n hx hb dY_decimals_23 rfl (lv_at hl 1 rfl) ?_
                  refine lv_ldc2 (v := 9) hx hb hown (hty _ yk_119) dY_decimals_24 ?_
                  refine W.lcmp hx hb dY_decimals_27 ?_
                  refine lv_if_le (tgt := 43) hx hb dY_decimals_28 (by decide) (fun c9 => ?_) (fun c9 => ?_)
                  · refine lv_iload_n hx hb dY_decimals_43 rfl (lv_at hl 0 rfl) ?_
                    exact W.iret (v := 8) hx hb hr (fun tE ht hW => ⟨8, rfl, by first | (simp only [fDecY, fDigY, fMag, eq_true c1, c2, c3, c4, c5, c6, c7, c8, eq_true c9, eq_self, ↓reduceIte, Bool.false_eq_true, Bool.not_false, Bool.not_true, Bool.and_true, Bool.and_false, Bool.true_and, Bool.false_and, decide_true, decide_false] <;> first | done | decide) | (simp only [fDecY, fDigY, fMag, c1, c2, c3, c4, c5, c6, c7, c8, c9, eq_self, ↓reduceIte, Bool.false_eq_true, Bool.not_false, Bool.not_true, Bool.and_true, Bool.and_false, Bool.true_and, Bool.false_and, decide_true, decide_false] <;> first | done | decide) | (simp [fDecY, fDigY, fMag, c1, c2, c3, c4, c5, c6, c7, c8, c9]; done) | (simp [fDecY, fDigY, fMag, eq_true c1, c2, c3, c4, c5, c6, c7, c8, eq_true c9]; done), ht⟩) (fun q h => by cases h) dY_decimals_44
                  · refine lv_lload_n hx hb dY_decimals_31 rfl (lv_at hl 1 rfl) ?_
                    refine lv_ldc2 (v := 10) hx hb hown (hty _ yk_121) dY_decimals_32 ?_
                    refine lv_ldiv hx hb dY_decimals_35 (by decide) ?_
                    refine lv_lstore_n (lv' := [(1, .long (((((((((Int32.toInt64 p0) / 10) / 10) / 10) / 10) / 10) / 10) / 10) / 10)), (3, .int 8), (0, .int p0)]) hx hb dY_decimals_36 rfl hl (by decide) rfl (fun ls hl => ?_)
                    refine lv_iinc (v := 9) (lv' := [(3, .int 9), (1, .long (((((((((Int32.toInt64 p0) / 10) / 10) / 10) / 10) / 10) / 10) / 10) / 10)), (0, .int p0)]) hx hb dY_decimals_37 hl (k := 1) rfl (by decide) (by decide) rfl (fun ls hl => ?_)
                    refine lv_goto (tgt := 23) hx hb dY_decimals_40 (by decide) ?_
                    refine lv_lload_n hx hb dY_decimals_23 rfl (lv_at hl 1 rfl) ?_
                    refine lv_ldc2 (v := 9) hx hb hown (hty _ yk_119) dY_decimals_24 ?_
                    refine W.lcmp hx hb dY_decimals_27 ?_
                    refine lv_if_le (tgt := 43) hx hb dY_decimals_28 (by decide) (fun c10 => ?_) (fun c10 => ?_)
                    · refine lv_iload_n hx hb dY_decimals_43 rfl (lv_at hl 0 rfl) ?_
                      exact W.iret (v := 9) hx hb hr (fun tE ht hW => ⟨9, rfl, by first | (simp only [fDecY, fDigY, fMag, eq_true c1, c2, c3, c4, c5, c6, c7, c8, c9, eq_true c10, eq_self, ↓reduceIte, Bool.false_eq_true, Bool.not_false, Bool.not_true, Bool.and_true, Bool.and_false, Bool.true_and, Bool.false_and, decide_true, decide_false] <;> first | done | decide) | (simp only [fDecY, fDigY, fMag, c1, c2, c3, c4, c5, c6, c7, c8, c9, c10, eq_self, ↓reduceIte, Bool.false_eq_true, Bool.not_false, Bool.not_true, Bool.and_true, Bool.and_false, Bool.true_and, Bool.false_and, decide_true, decide_false] <;> first | done | decide) | (simp [fDecY, fDigY, fMag, c1, c2, c3, c4, c5, c6, c7, c8, c9, c10]; done) | (simp [fDecY, fDigY, fMag, eq_true c1, c2, c3, c4, c5, c6, c7, c8, c9, eq_true c10]; done), ht⟩) (fun q h => by cases h) dY_decimals_44
                    · refine lv_lload_n hx hb dY_decimals_31 rfl (lv_at hl 1 rfl) ?_
                      refine lv_ldc2 (v := 10) hx hb hown (hty _ yk_121) dY_decimals_32 ?_
                      refine lv_ldiv hx hb dY_decimals_35 (by decide) ?_
                      refine lv_lstore_n (lv' := [(1, .long ((((((((((Int32.toInt64 p0) / 10) / 10) / 10) / 10) / 10) / 10) / 10) / 10) / 10)), (3, .int 9), (0, .int p0)]) hx hb dY_decimals_36 rfl hl (by decide) rfl (fun ls hl => ?_)
                      refine lv_iinc (v := 10) (lv' := [(3, .int 10), (1, .long ((((((((((Int32.toInt64 p0) / 10) / 10) / 10) / 10) / 10) / 10) / 10) / 10) / 10)), (0, .int p0)]) hx hb dY_decimals_37 hl (k := 1) rfl (by decide) (by decide) rfl (fun ls hl => ?_)
                      refine lv_goto (tgt := 23) hx hb dY_decimals_40 (by decide) ?_
                      refine lv_lload_n hx hb dY_decimals_23 rfl (lv_at hl 1 rfl) ?_
                      refine lv_ldc2 (v := 9) hx hb hown (hty _ yk_119) dY_decimals_24 ?_
                      refine W.lcmp hx hb dY_decimals_27 ?_
                      have c11 : (lg_cmp ((((((((((Int32.toInt64 p0) / 10) / 10) / 10) / 10) / 10) / 10) / 10) / 10) / 10) 9) ≤ 0 := (dec_stop _ (by first | exact mag_pos (by assumption) | exact mag_neg (by assumption)))
                      refine lv_if_le (tgt := 43) hx hb dY_decimals_28 (by decide) (fun _ => ?_) (fun cz => absurd c11 cz)
                      refine lv_iload_n hx hb dY_decimals_43 rfl (lv_at hl 0 rfl) ?_
                      exact W.iret (v := 10) hx hb hr (fun tE ht hW => ⟨10, rfl, by first | (simp only [fDecY, fDigY, fMag, eq_true c1, c2, c3, c4, c5, c6, c7, c8, c9, c10, eq_true c11, eq_self, ↓reduceIte, Bool.false_eq_true, Bool.not_false, Bool.not_true, Bool.and_true, Bool.and_false, Bool.true_and, Bool.false_and, decide_true, decide_false] <;> first | done | decide) | (simp only [fDecY, fDigY, fMag, c1, c2, c3, c4, c5, c6, c7, c8, c9, c10, c11, eq_self, ↓reduceIte, Bool.false_eq_true, Bool.not_false, Bool.not_true, Bool.and_true, Bool.and_false, Bool.true_and, Bool.false_and, decide_true, decide_false] <;> first | done | decide) | (simp [fDecY, fDigY, fMag, c1, c2, c3, c4, c5, c6, c7, c8, c9, c10, c11]; done) | (simp [fDecY, fDigY, fMag, eq_true c1, c2, c3, c4, c5, c6, c7, c8, c9, c10, eq_true c11]; done), ht⟩) (fun q h => by cases h) dY_decimals_44
  · refine lv_iload_n hx hb dY_decimals_4 rfl (lv_at hl 0 rfl) ?_
    refine lv_i2l hx hb dY_decimals_5 rfl ?_
    refine lv_lneg hx hb dY_decimals_6 ?_
    refine lv_goto (tgt := 12) hx hb dY_decimals_7 (by decide) ?_
    refine lv_lstore_n (lv' := [(1, .long (-(Int32.toInt64 p0))), (0, .int p0)]) hx hb dY_decimals_12 rfl hl (by decide) rfl (fun ls hl => ?_)
    refine lv_iload_n hx hb dY_decimals_13 rfl (lv_at hl 1 rfl) ?_
    refine lv_if_ge (tgt := 21) hx hb dY_decimals_14 (by decide) (fun cz => absurd cz c1) (fun _ => ?_)
    refine lv_iconst (v := 2) hx hb dY_decimals_17 (by decide) ?_
    refine lv_goto (tgt := 22) hx hb dY_decimals_18 (by decide) ?_
    refine lv_istore_n (lv' := [(3, .int 2), (1, .long (-(Int32.toInt64 p0))), (0, .int p0)]) hx hb dY_decimals_22 rfl hl (by decide) rfl (fun ls hl => ?_)
    refine lv_lload_n hx hb dY_decimals_23 rfl (lv_at hl 1 rfl) ?_
    refine lv_ldc2 (v := 9) hx hb hown (hty _ yk_119) dY_decimals_24 ?_
    refine W.lcmp hx hb dY_decimals_27 ?_
    refine lv_if_le (tgt := 43) hx hb dY_decimals_28 (by decide) (fun c12 => ?_) (fun c12 => ?_)
    · refine lv_iload_n hx hb dY_decimals_43 rfl (lv_at hl 0 rfl) ?_
      exact W.iret (v := 2) hx hb hr (fun tE ht hW => ⟨2, rfl, by first | (simp only [fDecY, fDigY, fMag, c1, eq_true c12, eq_self, ↓reduceIte, Bool.false_eq_true, Bool.not_false, Bool.not_true, Bool.and_true, Bool.and_false, Bool.true_and, Bool.false_and, decide_true, decide_false] <;> first | done | decide) | (simp only [fDecY, fDigY, fMag, c1, c12, eq_self, ↓reduceIte, Bool.false_eq_true, Bool.not_false, Bool.not_true, Bool.and_true, Bool.and_false, Bool.true_and, Bool.false_and, decide_true, decide_false] <;> first | done | decide) | (simp [fDecY, fDigY, fMag, c1, c12]; done) | (simp [fDecY, fDigY, fMag, c1, eq_true c12]; done), ht⟩) (fun q h => by cases h) dY_decimals_44
    · refine lv_lload_n hx hb dY_decimals_31 rfl (lv_at hl 1 rfl) ?_
      refine lv_ldc2 (v := 10) hx hb hown (hty _ yk_121) dY_decimals_32 ?_
      refine lv_ldiv hx hb dY_decimals_35 (by decide) ?_
      refine lv_lstore_n (lv' := [(1, .long ((-(Int32.toInt64 p0)) / 10)), (3, .int 2), (0, .int p0)]) hx hb dY_decimals_36 rfl hl (by decide) rfl (fun ls hl => ?_)
      refine lv_iinc (v := 3) (lv' := [(3, .int 3), (1, .long ((-(Int32.toInt64 p0)) / 10)), (0, .int p0)]) hx hb dY_decimals_37 hl (k := 1) rfl (by decide) (by decide) rfl (fun ls hl => ?_)
      refine lv_goto (tgt := 23) hx hb dY_decimals_40 (by decide) ?_
      refine lv_lload_n hx hb dY_decimals_23 rfl (lv_at hl 1 rfl) ?_
      refine lv_ldc2 (v := 9) hx hb hown (hty _ yk_119) dY_decimals_24 ?_
      refine W.lcmp hx hb dY_decimals_27 ?_
      refine lv_if_le (tgt := 43) hx hb dY_decimals_28 (by decide) (fun c13 => ?_) (fun c13 => ?_)
      · refine lv_iload_n hx hb dY_decimals_43 rfl (lv_at hl 0 rfl) ?_
        exact W.iret (v := 3) hx hb hr (fun tE ht hW => ⟨3, rfl, by first | (simp only [fDecY, fDigY, fMag, c1, c12, eq_true c13, eq_self, ↓reduceIte, Bool.false_eq_true, Bool.not_false, Bool.not_true, Bool.and_true, Bool.and_false, Bool.true_and, Bool.false_and, decide_true, decide_false] <;> first | done | decide) | (simp only [fDecY, fDigY, fMag, c1, c12, c13, eq_self, ↓reduceIte, Bool.false_eq_true, Bool.not_false, Bool.not_true, Bool.and_true, Bool.and_false, Bool.true_and, Bool.false_and, decide_true, decide_false] <;> first | done | decide) | (simp [fDecY, fDigY, fMag, c1, c12, c13]; done) | (simp [fDecY, fDigY, fMag, c1, c12, eq_true c13]; done), ht⟩) (fun q h => by cases h) dY_decimals_44
      · refine lv_lload_n hx hb dY_decimals_31 rfl (lv_at hl 1 rfl) ?_
        refine lv_ldc2 (v := 10) hx hb hown (hty _ yk_121) dY_decimals_32 ?_
        refine lv_ldiv hx hb dY_decimals_35 (by decide) ?_
        refine lv_lstore_n (lv' := [(1, .long (((-(Int32.toInt64 p0)) / 10) / 10)), (3, .int 3), (0, .int p0)]) hx hb dY_decimals_36 rfl hl (by decide) rfl (fun ls hl => ?_)
        refine lv_iinc (v := 4) (lv' := [(3, .int 4), (1, .long (((-(Int32.toInt64 p0)) / 10) / 10)), (0, .int p0)]) hx hb dY_decimals_37 hl (k := 1) rfl (by decide) (by decide) rfl (fun ls hl => ?_)
        refine lv_goto (tgt := 23) hx hb dY_decimals_40 (by decide) ?_
        refine lv_lload_n hx hb dY_decimals_23 rfl (lv_at hl 1 rfl) ?_
        refine lv_ldc2 (v := 9) hx hb hown (hty _ yk_119) dY_decimals_24 ?_
        refine W.lcmp hx hb dY_decimals_27 ?_
        refine lv_if_le (tgt := 43) hx hb dY_decimals_28 (by decide) (fun c14 => ?_) (fun c14 => ?_)
        · refine lv_iload_n hx hb dY_decimals_43 rfl (lv_at hl 0 rfl) ?_
          exact W.iret (v := 4) hx hb hr (fun tE ht hW => ⟨4, rfl, by first | (simp only [fDecY, fDigY, fMag, c1, c12, c13, eq_true c14, eq_self, ↓reduceIte, Bool.false_eq_true, Bool.not_false, Bool.not_true, Bool.and_true, Bool.and_false, Bool.true_and, Bool.false_and, decide_true, decide_false] <;> first | done | decide) | (simp only [fDecY, fDigY, fMag, c1, c12, c13, c14, eq_self, ↓reduceIte, Bool.false_eq_true, Bool.not_false, Bool.not_true, Bool.and_true, Bool.and_false, Bool.true_and, Bool.false_and, decide_true, decide_false] <;> first | done | decide) | (simp [fDecY, fDigY, fMag, c1, c12, c13, c14]; done) | (simp [fDecY, fDigY, fMag, c1, c12, c13, eq_true c14]; done), ht⟩) (fun q h => by cases h) dY_decimals_44
        · refine lv_lload_n hx hb dY_decimals_31 rfl (lv_at hl 1 rfl) ?_
          refine lv_ldc2 (v := 10) hx hb hown (hty _ yk_121) dY_decimals_32 ?_
          refine lv_ldiv hx hb dY_decimals_35 (by decide) ?_
          refine lv_lstore_n (lv' := [(1, .long ((((-(Int32.toInt64 p0)) / 10) / 10) / 10)), (3, .int 4), (0, .int p0)]) hx hb dY_decimals_36 rfl hl (by decide) rfl (fun ls hl => ?_)
          refine lv_iinc (v := 5) (lv' := [(3, .int 5), (1, .long ((((-(Int32.toInt64 p0)) / 10) / 10) / 10)), (0, .int p0)]) hx hb dY_decimals_37 hl (k := 1) rfl (by decide) (by decide) rfl (fun ls hl => ?_)
          refine lv_goto (tgt := 23) hx hb dY_decimals_40 (by decide) ?_
          refine lv_lload_n hx hb dY_decimals_23 rfl (lv_at hl 1 rfl) ?_
          refine lv_ldc2 (v := 9) hx hb hown (hty _ yk_119) dY_decimals_24 ?_
          refine W.lcmp hx hb dY_decimals_27 ?_
          refine lv_if_le (tgt := 43) hx hb dY_decimals_28 (by decide) (fun c15 => ?_) (fun c15 => ?_)
          · refine lv_iload_n hx hb dY_decimals_43 rfl (lv_at hl 0 rfl) ?_
            exact W.iret (v := 5) hx hb hr (fun tE ht hW => ⟨5, rfl, by first | (simp only [fDecY, fDigY, fMag, c1, c12, c13, c14, eq_true c15, eq_self, ↓reduceIte, Bool.false_eq_true, Bool.not_false, Bool.not_true, Bool.and_true, Bool.and_false, Bool.true_and, Bool.false_and, decide_true, decide_false] <;> first | done | decide) | (simp only [fDecY, fDigY, fMag, c1, c12, c13, c14, c15, eq_self, ↓reduceIte, Bool.false_eq_true, Bool.not_false, Bool.not_true, Bool.and_true, Bool.and_false, Bool.true_and, Bool.false_and, decide_true, decide_false] <;> first | done | decide) | (simp [fDecY, fDigY, fMag, c1, c12, c13, c14, c15]; done) | (simp [fDecY, fDigY, fMag, c1, c12, c13, c14, eq_true c15]; done), ht⟩) (fun q h => by cases h) dY_decimals_44
          · refine lv_lload_n hx hb dY_decimals_31 rfl (lv_at hl 1 rfl) ?_
            refine lv_ldc2 (v := 10) hx hb hown (hty _ yk_121) dY_decimals_32 ?_
            refine lv_ldiv hx hb dY_decimals_35 (by decide) ?_
            refine lv_lstore_n (lv' := [(1, .long (((((-(Int32.toInt64 p0)) / 10) / 10) / 10) / 10)), (3, .int 5), (0, .int p0)]) hx hb dY_decimals_36 rfl hl (by decide) rfl (fun ls hl => ?_)
            refine lv_iinc (v := 6) (lv' := [(3, .int 6), (1, .long (((((-(Int32.toInt64 p0)) / 10) / 10) / 10) / 10)), (0, .int p0)]) hx hb dY_decimals_37 hl (k := 1) rfl (by decide) (by decide) rfl (fun ls hl => ?_)
            refine lv_goto (tgt := 23) hx hb dY_decimals_40 (by decide) ?_
            refine lv_lload_n hx hb dY_decimals_23 rfl (lv_at hl 1 rfl) ?_
            refine lv_ldc2 (v := 9) hx hb hown (hty _ yk_119) dY_decimals_24 ?_
            refine W.lcmp hx hb dY_decimals_27 ?_
            refine lv_if_le (tgt := 43) hx hb dY_decimals_28 (by decide) (fun c16 => ?_) (fun c16 => ?_)
            · refine lv_iload_n hx hb dY_decimals_43 rfl (lv_at hl 0 rfl) ?_
              exact W.iret (v := 6) hx hb hr (fun tE ht hW => ⟨6, rfl, by first | (simp only [fDecY, fDigY, fMag, c1, c12, c13, c14, c15, eq_true c16, eq_self, ↓reduceIte, Bool.false_eq_true, Bool.not_false, Bool.not_true, Bool.and_true, Bool.and_false, Bool.true_and, Bool.false_and, decide_true, decide_false] <;> first | done | decide) | (simp only [fDecY, fDigY, fMag, c1, c12, c13, c14, c15, c16, eq_self, ↓reduceIte, Bool.false_eq_true, Bool.not_false, Bool.not_true, Bool.and_true, Bool.and_false, Bool.true_and, Bool.false_and, decide_true, decide_false] <;> first | done | decide) | (simp [fDecY, fDigY, fMag, c1, c12, c13, c14, c15, c16]; done) | (simp [fDecY, fDigY, fMag, c1, c12, c13, c14, c15, eq_true c16]; done), ht⟩) (fun q h => by cases h) dY_decimals_44
            · refine lv_lload_n hx hb dY_decimals_31 rfl (lv_at hl 1 rfl) ?_
              refine lv_ldc2 (v := 10) hx hb hown (hty _ yk_121) dY_decimals_32 ?_
              refine lv_ldiv hx hb dY_decimals_35 (by decide) ?_
              refine lv_lstore_n (lv' := [(1, .long ((((((-(Int32.toInt64 p0)) / 10) / 10) / 10) / 10) / 10)), (3, .int 6), (0, .int p0)]) hx hb dY_decimals_36 rfl hl (by decide) rfl (fun ls hl => ?_)
              refine lv_iinc (v := 7) (lv' := [(3, .int 7), (1, .long ((((((-(Int32.toInt64 p0)) / 10) / 10) / 10) / 10) / 10)), (0, .int p0)]) hx hb dY_decimals_37 hl (k := 1) rfl (by decide) (by decide) rfl (fun ls hl => ?_)
              refine lv_goto (tgt := 23) hx hb dY_decimals_40 (by decide) ?_
              refine lv_lload_n hx hb dY_decimals_23 rfl (lv_at hl 1 rfl) ?_
              refine lv_ldc2 (v := 9) hx hb hown (hty _ yk_119) dY_decimals_24 ?_
              refine W.lcmp hx hb dY_decimals_27 ?_
              refine lv_if_le (tgt := 43) hx hb dY_decimals_28 (by decide) (fun c17 => ?_) (fun c17 => ?_)
              · refine lv_iload_n hx hb dY_decimals_43 rfl (lv_at hl 0 rfl) ?_
                exact W.iret (v := 7) hx hb hr (fun tE ht hW => ⟨7, rfl, by first | (simp only [fDecY, fDigY, fMag, c1, c12, c13, c14, c15, c16, eq_true c17, eq_self, ↓reduceIte, Bool.false_eq_true, Bool.not_false, Bool.not_true, Bool.and_true, Bool.and_false, Bool.true_and, Bool.false_and, decide_true, decide_false] <;> first | done | decide) | (simp only [fDecY, fDigY, fMag, c1, c12, c13, c14, c15, c16, c17, eq_self, ↓reduceIte, Bool.false_eq_true, Bool.not_false, Bool.not_true, Bool.and_true, Bool.and_false, Bool.true_and, Bool.false_and, decide_true, decide_false] <;> first | done | decide) | (simp [fDecY, fDigY, fMag, c1, c12, c13, c14, c15, c16, c17]; done) | (simp [fDecY, fDigY, fMag, c1, c12, c13, c14, c15, c16, eq_true c17]; done), ht⟩) (fun q h => by cases h) dY_decimals_44
              · refine lv_lload_n hx hb dY_decimals_31 rfl (lv_at hl 1 rfl) ?_
                refine lv_ldc2 (v := 10) hx hb hown (hty _ yk_121) dY_decimals_32 ?_
                refine lv_ldiv hx hb dY_decimals_35 (by decide) ?_
                refine lv_lstore_n (lv' := [(1, .long (((((((-(Int32.toInt64 p0)) / 10) / 10) / 10) / 10) / 10) / 10)), (3, .int 7), (0, .int p0)]) hx hb dY_decimals_36 rfl hl (by decide) rfl (fun ls hl => ?_)
                refine lv_iinc (v := 8) (lv' := [(3, .int 8), (1, .long (((((((-(Int32.toInt64 p0)) / 10) / 10) / 10) / 10) / 10) / 10)), (0, .int p0)]) hx hb dY_decimals_37 hl (k := 1) rfl (by decide) (by decide) rfl (fun ls hl => ?_)
                refine lv_goto (tgt := 23) hx hb dY_decimals_40 (by decide) ?_
                refine lv_lload_n hx hb dY_decimals_23 rfl (lv_at hl 1 rfl) ?_
                refine lv_ldc2 (v := 9) hx hb hown (hty _ yk_119) dY_decimals_24 ?_
                refine W.lcmp hx hb dY_decimals_27 ?_
                refine lv_if_le (tgt := 43) hx hb dY_decimals_28 (by decide) (fun c18 => ?_) (fun c18 => ?_)
                · refine lv_iload_n hx hb dY_decimals_43 rfl (lv_at hl 0 rfl) ?_
                  exact W.iret (v := 8) hx hb hr (fun tE ht hW => ⟨8, rfl, by first | (simp only [fDecY, fDigY, fMag, c1, c12, c13, c14, c15, c16, c17, eq_true c18, eq_self, ↓reduceIte, Bool.false_eq_true, Bool.not_false, Bool.not_true, Bool.and_true, Bool.and_false, Bool.true_and, Bool.false_and, decide_true, decide_false] <;> first | done | decide) | (simp only [fDecY, fDigY, fMag, c1, c12, c13, c14, c15, c16, c17, c18, eq_self, ↓reduceIte, Bool.false_eq_true, Bool.not_false, Bool.not_true, Bool.and_true, Bool.and_false, Bool.true_and, Bool.false_and, decide_true, decide_false] <;> first | done | decide) | (simp [fDecY, fDigY, fMag, c1, c12, c13, c14, c15, c16, c17, c18]; done) | (simp [fDecY, fDigY, fMag, c1, c12, c13, c14, c15, c16, c17, eq_true c18]; done), ht⟩) (fun q h => by cases h) dY_decimals_44
                · refine lv_lload_n hx hb dY_decimals_31 rfl (lv_at hl 1 rfl) ?_
                  refine lv_ldc2 (v := 10) hx hb hown (hty _ yk_121) dY_decimals_32 ?_
                  refine lv_ldiv hx hb dY_decimals_35 (by decide) ?_
                  refine lv_lstore_n (lv' := [(1, .long ((((((((-(Int32.toInt64 p0)) / 10) / 10) / 10) / 10) / 10) / 10) / 10)), (3, .int 8), (0, .int p0)]) hx hb dY_decimals_36 rfl hl (by decide) rfl (fun ls hl => ?_)
                  refine lv_iinc (v := 9) (lv' := [(3, .int 9), (1, .long ((((((((-(Int32.toInt64 p0)) / 10) / 10) / 10) / 10) / 10) / 10) / 10)), (0, .int p0)]) hx hb dY_decimals_37 hl (k := 1) rfl (by decide) (by decide) rfl (fun ls hl => ?_)
                  refine lv_goto (tgt := 23) hx hb dY_decimals_40 (by decide) ?_
                  refine lv_lload_n hx hb dY_decimals_23 rfl (lv_at hl 1 rfl) ?_
                  refine lv_ldc2 (v := 9) hx hb hown (hty _ yk_119) dY_decimals_24 ?_
                  refine W.lcmp hx hb dY_decimals_27 ?_
                  refine lv_if_le (tgt := 43) hx hb dY_decimals_28 (by decide) (fun c19 => ?_) (fun c19 => ?_)
                  · refine lv_iload_n hx hb dY_decimals_43 rfl (lv_at hl 0 rfl) ?_
                    exact W.iret (v := 9) hx hb hr (fun tE ht hW => ⟨9, rfl, by first | (simp only [fDecY, fDigY, fMag, c1, c12, c13, c14, c15, c16, c17, c18, eq_true c19, eq_self, ↓reduceIte, Bool.false_eq_true, Bool.not_false, Bool.not_true, Bool.and_true, Bool.and_false, Bool.true_and, Bool.false_and, decide_true, decide_false] <;> first | done | decide) | (simp only [fDecY, fDigY, fMag, c1, c12, c13, c14, c15, c16, c17, c18, c19, eq_self, ↓reduceIte, Bool.false_eq_true, Bool.not_false, Bool.not_true, Bool.and_true, Bool.and_false, Bool.true_and, Bool.false_and, decide_true, decide_false] <;> first | done | decide) | (simp [fDecY, fDigY, fMag, c1, c12, c13, c14, c15, c16, c17, c18, c19]; done) | (simp [fDecY, fDigY, fMag, c1, c12, c13, c14, c15, c16, c17, c18, eq_true c19]; done), ht⟩) (fun q h => by cases h) dY_decimals_44
                  · refine lv_lload_n hx hb dY_decimals_31 rfl (lv_at hl 1 rfl) ?_
                    refine lv_ldc2 (v := 10) hx hb hown (hty _ yk_121) dY_decimals_32 ?_
                    refine lv_ldiv hx hb dY_decimals_35 (by decide) ?_
                    refine lv_lstore_n (lv' := [(1, .long (((((((((-(Int32.toInt64 p0)) / 10) / 10) / 10) / 10) / 10) / 10) / 10) / 10)), (3, .int 9), (0, .int p0)]) hx hb dY_decimals_36 rfl hl (by decide) rfl (fun ls hl => ?_)
                    refine lv_iinc (v := 10) (lv' := [(3, .int 10), (1, .long (((((((((-(Int32.toInt64 p0)) / 10) / 10) / 10) / 10) / 10) / 10) / 10) / 10)), (0, .int p0)]) hx hb dY_decimals_37 hl (k := 1) rfl (by decide) (by decide) rfl (fun ls hl => ?_)
                    refine lv_goto (tgt := 23) hx hb dY_decimals_40 (by decide) ?_
                    refine lv_lload_n hx hb dY_decimals_23 rfl (lv_at hl 1 rfl) ?_
                    refine lv_ldc2 (v := 9) hx hb hown (hty _ yk_119) dY_decimals_24 ?_
                    refine W.lcmp hx hb dY_decimals_27 ?_
                    refine lv_if_le (tgt := 43) hx hb dY_decimals_28 (by decide) (fun c20 => ?_) (fun c20 => ?_)
                    · refine lv_iload_n hx hb dY_decimals_43 rfl (lv_at hl 0 rfl) ?_
                      exact W.iret (v := 10) hx hb hr (fun tE ht hW => ⟨10, rfl, by first | (simp only [fDecY, fDigY, fMag, c1, c12, c13, c14, c15, c16, c17, c18, c19, eq_true c20, eq_self, ↓reduceIte, Bool.false_eq_true, Bool.not_false, Bool.not_true, Bool.and_true, Bool.and_false, Bool.true_and, Bool.false_and, decide_true, decide_false] <;> first | done | decide) | (simp only [fDecY, fDigY, fMag, c1, c12, c13, c14, c15, c16, c17, c18, c19, c20, eq_self, ↓reduceIte, Bool.false_eq_true, Bool.not_false, Bool.not_true, Bool.and_true, Bool.and_false, Bool.true_and, Bool.false_and, decide_true, decide_false] <;> first | done | decide) | (simp [fDecY, fDigY, fMag, c1, c12, c13, c14, c15, c16, c17, c18, c19, c20]; done) | (simp [fDecY, fDigY, fMag, c1, c12, c13, c14, c15, c16, c17, c18, c19, eq_true c20]; done), ht⟩) (fun q h => by cases h) dY_decimals_44
                    · refine lv_lload_n hx hb dY_decimals_31 rfl (lv_at hl 1 rfl) ?_
                      refine lv_ldc2 (v := 10) hx hb hown (hty _ yk_121) dY_decimals_32 ?_
                      refine lv_ldiv hx hb dY_decimals_35 (by decide) ?_
                      refine lv_lstore_n (lv' := [(1, .long ((((((((((-(Int32.toInt64 p0)) / 10) / 10) / 10) / 10) / 10) / 10) / 10) / 10) / 10)), (3, .int 10), (0, .int p0)]) hx hb dY_decimals_36 rfl hl (by decide) rfl (fun ls hl => ?_)
                      refine lv_iinc (v := 11) (lv' := [(3, .int 11), (1, .long ((((((((((-(Int32.toInt64 p0)) / 10) / 10) / 10) / 10) / 10) / 10) / 10) / 10) / 10)), (0, .int p0)]) hx hb dY_decimals_37 hl (k := 1) rfl (by decide) (by decide) rfl (fun ls hl => ?_)
                      refine lv_goto (tgt := 23) hx hb dY_decimals_40 (by decide) ?_
                      refine lv_lload_n hx hb dY_decimals_23 rfl (lv_at hl 1 rfl) ?_
                      refine lv_ldc2 (v := 9) hx hb hown (hty _ yk_119) dY_decimals_24 ?_
                      refine W.lcmp hx hb dY_decimals_27 ?_
                      have c21 : (lg_cmp ((((((((((-(Int32.toInt64 p0)) / 10) / 10) / 10) / 10) / 10) / 10) / 10) / 10) / 10) 9) ≤ 0 := (dec_stop _ (by first | exact mag_pos (by assumption) | exact mag_neg (by assumption)))
                      refine lv_if_le (tgt := 43) hx hb dY_decimals_28 (by decide) (fun _ => ?_) (fun cz => absurd c21 cz)
                      refine lv_iload_n hx hb dY_decimals_43 rfl (lv_at hl 0 rfl) ?_
                      exact W.iret (v := 11) hx hb hr (fun tE ht hW => ⟨11, rfl, by first | (simp only [fDecY, fDigY, fMag, c1, c12, c13, c14, c15, c16, c17, c18, c19, c20, eq_true c21, eq_self, ↓reduceIte, Bool.false_eq_true, Bool.not_false, Bool.not_true, Bool.and_true, Bool.and_false, Bool.true_and, Bool.false_and, decide_true, decide_false] <;> first | done | decide) | (simp only [fDecY, fDigY, fMag, c1, c12, c13, c14, c15, c16, c17, c18, c19, c20, c21, eq_self, ↓reduceIte, Bool.false_eq_true, Bool.not_false, Bool.not_true, Bool.and_true, Bool.and_false, Bool.true_and, Bool.false_and, decide_true, decide_false] <;> first | done | decide) | (simp [fDecY, fDigY, fMag, c1, c12, c13, c14, c15, c16, c17, c18, c19, c20, c21]; done) | (simp [fDecY, fDigY, fMag, c1, c12, c13, c14, c15, c16, c17, c18, c19, c20, eq_true c21]; done), ht⟩) (fun q h => by cases h) dY_decimals_44
