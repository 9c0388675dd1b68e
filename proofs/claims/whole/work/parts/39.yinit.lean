def yV0 : YS := ((upd (upd (fun _ => 0) 1 4) 2 5), (upd (upd (fun _ => 0) 1 2) 2 9), (fun _ => 0), 2, (fun _ => 0), (fun _ => 0), (fun _ => 0), (upd (upd (upd (upd (upd (upd (upd (upd (upd (upd (fun _ => 0) 0 27) 1 45) 2 111) 3 129) 4 259) 5 259) 6 1) 7 1) 8 1) 9 45), (upd (upd (upd (upd (upd (upd (upd (upd (upd (upd (upd (upd (upd (upd (upd (upd (upd (upd (upd (upd (upd (upd (upd (upd (fun _ => 0) 0 3) 1 3) 2 3) 3 3) 4 3) 5 3) 6 3) 7 3) 8 3) 0 131) 1 135) 2 135) 8 135) 3 891) 4 891) 5 891) 6 891) 3 1915) 4 895) 5 895) 6 895) 7 1027) 4 2943) 6 2943), 0, 0, (fun _ => 0), 0)
set_option maxHeartbeats 2000000 in
set_option maxRecDepth 100000 in
theorem j_init (l : Launch) (D : va_G) (h0 sz : Nat) : Met l yY_init wY_init ({ frames := 1, cells := 9, slots := 1623, locals := 23 }) (va_Pc [.ref h0] (fun U => U.heap.size = sz ∧ va_P D vwCl [(h0, .inr (2, [.null, .null, .null, .int 0, .null, .null, .null, .null, .null, .int 0, .int 0, .null, .int 0]))] U.heap ∧ va_K D vwCl [] U ∧ va_D (fun _ => True) [(h0, .inr (2, [.null, .null, .null, .int 0, .null, .null, .null, .null, .null, .int 0, .int 0, .null, .int 0]))])) (va_Qv (fun v : YF × YS => v.1.1 = h0 ∧ v.2 = yV0) (fun v t => yB D v.1 (va_A [(h0, .inr (2, [.null, .null, .null, .int 0, .null, .null, .null, .null, .null, .int 0, .int 0, .null, .int 0]))] sz) v.2 t) (va_A [(h0, .inr (2, [.null, .null, .null, .int 0, .null, .null, .null, .null, .null, .int 0, .int 0, .null, .int 0]))] sz)) 9 1623 (va_A [(h0, .inr (2, [.null, .null, .null, .int 0, .null, .null, .null, .null, .null, .int 0, .int 0, .null, .int 0]))] sz) := by
  refine Met.ofW (cc := cY_init) (maxL := 2) (ret := none) (by decide) rfl ?_
  intro p e s m args below meth c s₁ B hml hv
  obtain ⟨rfl, hsz, hP, hK, hD0⟩ := hv
  have hx := B.exec
  have hb := B.bytes
  have hr := B.returns
  have hts := atoms_spec (ws := wY_init) B.pre
  have hty : ∀ w ∈ yAll, w.before _ s = true := fun w h => hts w (List.mem_cons_of_mem _ h)
  have hown : s.vm.findClass RY = some m.cls := findClass_of_methodNamed B.named
  have hlocks := B.notSynchronized
  have hin : meth.name = "<init>" := (name_of_methodNamed B.named B.method).1
  subst hsz
  have hD := hD0.self (sz := s.heap.size)
  generalize hAe : va_A [(h0, .inr (2, [.null, .null, .null, .int 0, .null, .null, .null, .null, .null, .int 0, .int 0, .null, .int 0]))] s.heap.size = A at hD ⊢
  have hA : ∀ q : Nat, s.heap.size ≤ q → A q := fun q h => by rw [← hAe]; exact Or.inr h
  have hS : va_S A s.heap s.heap [] := va_S.rf
  refine xHeap (C := fun H => va_P D vwCl [(h0, .inr (2, [.null, .null, .null, .int 0, .null, .null, .null, .null, .null, .int 0, .int 0, .null, .int 0]))] H ∧ va_S A s.heap H []) ⟨hP, hS⟩ (fun H hC => ?_)
  obtain ⟨hP, hS⟩ := hC
  have hl := lv_entry ([.ref h0]) (n := 2) (Nat.le_of_ble_eq_true rfl)
  rw [lg_entry_eq]
  generalize (lg_sl ([.ref h0]) ++ List.replicate (2 - (lg_sl ([.ref h0])).length) Slot.unset).toArray = ls at hl ⊢
  have hl : lv_has ls 2 [(0, .ref h0)] := hl
  refine lv_aload_n hx hb dY_init_0 rfl (lv_at hl 0 rfl) ?_
  refine W.objInit hx hb hown (hty _ ylobj) (hty _ ymobj) (hty _ ycobj) rfl (by rw [hml]; exact hl.1) rfl dY_init_1 (Nat.le_of_ble_eq_true rfl) (Nat.le_of_ble_eq_true rfl) ?_
  refine W.eq (g2 := F0 m 4 ls []) rfl ?_
  refine lv_aload_n hx hb dY_init_4 rfl (lv_at hl 0 rfl) ?_
  refine lv_sipush (v := 520) hx hb dY_init_5 (by decide) ?_
  refine va_newa (atype := .int) (N' := 520) (ty := .int) (a0 := (520, .inl (fun _ => 0))) hx hb (hty _ yarr) rfl hK hP hD hS hA (fun _ => rfl) (by decide) (by decide) (by decide) (Nat.le_of_ble_eq_true rfl) (Nat.le_of_ble_eq_true rfl) dY_init_8 (fun z1 cA2 H hK hP hD hS => ?_)
  refine W.widen (k := 1) (n := 520) (Nat.le_of_ble_eq_true rfl) (Nat.le_of_ble_eq_true rfl) ?_
  have hK : va_K D vwCl [(cA2, .int)] s := hK
  have hP : va_P D vwCl [(h0, .inr (2, [.null, .null, .null, .int 0, .null, .null, .null, .null, .null, .int 0, .int 0, .null, .int 0])), (z1, .inl (cA2, 520, .inl (fun _ => 0)))] H := hP
  have hD : va_D A [(h0, .inr (2, [.null, .null, .null, .int 0, .null, .null, .null, .null, .null, .int 0, .int 0, .null, .int 0])), (z1, .inl (cA2, 520, .inl (fun _ => 0)))] := hD
  refine va_putF (D := D) (ci := 2) (v := .ref z1) (ty := .array .int) (C := RY) (T := TY) (N := 13) hx hb hty inY tyY tyY_ok nmY hown hK hP hD hS 0 rfl rfl 0 (by decide) (hty _ yf_7) (fun _ h9 => h9) rfl hin rfl (by decide +kernel) rfl rfl (Nat.le_of_ble_eq_true rfl) dY_init_10 (fun H locs hP hD hS => ?_)
  have hP : va_P D vwCl [(h0, .inr (2, [.ref z1, .null, .null, .int 0, .null, .null, .null, .null, .null, .int 0, .int 0, .null, .int 0])), (z1, .inl (cA2, 520, .inl (fun _ => 0)))] H := hP
  have hD : va_D A [(h0, .inr (2, [.ref z1, .null, .null, .int 0, .null, .null, .null, .null, .null, .int 0, .int 0, .null, .int 0])), (z1, .inl (cA2, 520, .inl (fun _ => 0)))] := hD
  refine lv_aload_n hx hb dY_init_13 rfl (lv_at hl 0 rfl) ?_
  refine lv_sipush (v := 520) hx hb dY_init_14 (by decide) ?_
  refine va_newa (atype := .int) (N' := 520) (ty := .int) (a0 := (520, .inl (fun _ => 0))) hx hb (hty _ yarr) rfl hK hP hD hS hA (fun _ => rfl) (by decide) (by decide) (by decide) (Nat.le_of_ble_eq_true rfl) (Nat.le_of_ble_eq_true rfl) dY_init_17 (fun z3 cA4 H hK hP hD hS => ?_)
  refine W.widen (k := 2) (n := 1040) (Nat.le_of_ble_eq_true rfl) (Nat.le_of_ble_eq_true rfl) ?_
  have hK : va_K D vwCl [(cA2, .int), (cA4, .int)] s := hK
  have hP : va_P D vwCl [(h0, .inr (2, [.ref z1, .null, .null, .int 0, .null, .null, .null, .null, .null, .int 0, .int 0, .null, .int 0])), (z1, .inl (cA2, 520, .inl (fun _ => 0))), (z3, .inl (cA4, 520, .inl (fun _ => 0)))] H := hP
  have hD : va_D A [(h0, .inr (2, [.ref z1, .null, .null, .int 0, .null, .null, .null, .null, .null, .int 0, .int 0, .null, .int 0])), (z1, .inl (cA2, 520, .inl (fun _ => 0))), (z3, .inl (cA4, 520, .inl (fun _ => 0)))] := hD
  refine va_putF (D := D) (ci := 2) (v := .ref z3) (ty := .array .int) (C := RY) (T := TY) (N := 13) hx hb hty inY tyY tyY_ok nmY hown hK hP hD hS 0 rfl rfl 1 (by decide) (hty _ yf_13) (fun _ h9 => h9) rfl hin rfl (by decide +kernel) rfl rfl (Nat.le_of_ble_eq_true rfl) dY_init_19 (fun H locs hP hD hS => ?_)
  have hP : va_P D vwCl [(h0, .inr (2, [.ref z1, .ref z3, .null, .int 0, .null, .null, .null, .null, .null, .int 0, .int 0, .null, .int 0])), (z1, .inl (cA2, 520, .inl (fun _ => 0))), (z3, .inl (cA4, 520, .inl (fun _ => 0)))] H := hP
  have hD : va_D A [(h0, .inr (2, [.ref z1, .ref z3, .null, .int 0, .null, .null, .null, .null, .null, .int 0, .int 0, .null, .int 0])), (z1, .inl (cA2, 520, .inl (fun _ => 0))), (z3, .inl (cA4, 520, .inl (fun _ => 0)))] := hD
  refine lv_aload_n hx hb dY_init_22 rfl (lv_at hl 0 rfl) ?_
  refine lv_sipush (v := 520) hx hb dY_init_23 (by decide) ?_
  refine va_newa (atype := .int) (N' := 520) (ty := .int) (a0 := (520, .inl (fun _ => 0))) hx hb (hty _ yarr) rfl hK hP hD hS hA (fun _ => rfl) (by decide) (by decide) (by decide) (Nat.le_of_ble_eq_true rfl) (Nat.le_of_ble_eq_true rfl) dY_init_26 (fun z5 cA6 H hK hP hD hS => ?_)
  refine W.widen (k := 3) (n := 1560) (Nat.le_of_ble_eq_true rfl) (Nat.le_of_ble_eq_true rfl) ?_
  have hK : va_K D vwCl [(cA2, .int), (cA4, .int), (cA6, .int)] s := hK
  have hP : va_P D vwCl [(h0, .inr (2, [.ref z1, .ref z3, .null, .int 0, .null, .null, .null, .null, .null, .int 0, .int 0, .null, .int 0])), (z1, .inl (cA2, 520, .inl (fun _ => 0))), (z3, .inl (cA4, 520, .inl (fun _ => 0))), (z5, .inl (cA6, 520, .inl (fun _ => 0)))] H := hP
  have hD : va_D A [(h0, .inr (2, [.ref z1, .ref z3, .null, .int 0, .null, .null, .null, .null, .null, .int 0, .int 0, .null, .int 0])), (z1, .inl (cA2, 520, .inl (fun _ => 0))), (z3, .inl (cA4, 520, .inl (fun _ => 0))), (z5, .inl (cA6, 520, .inl (fun _ => 0)))] := hD
  refine va_putF (D := D) (ci := 2) (v := .ref z5) (ty := .array .int) (C := RY) (T := TY) (N := 13) hx hb hty inY tyY tyY_ok nmY hown hK hP hD hS 0 rfl rfl 2 (by decide) (hty _ yf_16) (fun _ h9 => h9) rfl hin rfl (by decide +kernel) rfl rfl (Nat.le_of_ble_eq_true rfl) dY_init_28 (fun H locs hP hD hS => ?_)
  have hP : va_P D vwCl [(h0, .inr (2, [.ref z1, .ref z3, .ref z5, .int 0, .null, .null, .null, .null, .null, .int 0, .int 0, .null, .int 0])), (z1, .inl (cA2, 520, .inl (fun _ => 0))), (z3, .inl (cA4, 520, .inl (fun _ => 0))), (z5, .inl (cA6, 520, .inl (fun _ => 0)))] H := hP
  have hD : va_D A [(h0, .inr (2, [.ref z1, .ref z3, .ref z5, .int 0, .null, .null, .null, .null, .null, .int 0, .int 0, .null, .int 0])), (z1, .inl (cA2, 520, .inl (fun _ => 0))), (z3, .inl (cA4, 520, .inl (fun _ => 0))), (z5, .inl (cA6, 520, .inl (fun _ => 0)))] := hD
  refine lv_aload_n hx hb dY_init_31 rfl (lv_at hl 0 rfl) ?_
  refine lv_iconst (v := 2) hx hb dY_init_32 (by decide) ?_
  refine va_put (D := D) (ci := 2) (v := .int 2) (ty := .int) (C := RY) (T := TY) (N := 13) hx hb hty inY tyY tyY_ok nmY hown hK hP hD hS 0 rfl rfl 3 (by decide) (hty _ yf_19) (fun _ h9 => h9) rfl (by decide +kernel) rfl rfl (Nat.le_of_ble_eq_true rfl) dY_init_33 (fun H locs hP hD hS => ?_)
  have hP : va_P D vwCl [(h0, .inr (2, [.ref z1, .ref z3, .ref z5, .int 2, .null, .null, .null, .null, .null, .int 0, .int 0, .null, .int 0])), (z1, .inl (cA2, 520, .inl (fun _ => 0))), (z3, .inl (cA4, 520, .inl (fun _ => 0))), (z5, .inl (cA6, 520, .inl (fun _ => 0)))] H := hP
  have hD : va_D A [(h0, .inr (2, [.ref z1, .ref z3, .ref z5, .int 2, .null, .null, .null, .null, .null, .int 0, .int 0, .null, .int 0])), (z1, .inl (cA2, 520, .inl (fun _ => 0))), (z3, .inl (cA4, 520, .inl (fun _ => 0))), (z5, .inl (cA6, 520, .inl (fun _ => 0)))] := hD
  refine lv_aload_n hx hb dY_init_36 rfl (lv_at hl 0 rfl) ?_
  refine lv_bipush (v := 8) hx hb dY_init_37 (by decide) ?_
  refine va_newa (atype := .int) (N' := 8) (ty := .int) (a0 := (8, .inl (fun _ => 0))) hx hb (hty _ yarr) rfl hK hP hD hS hA (fun _ => rfl) (by decide) (by decide) (by decide) (Nat.le_of_ble_eq_true rfl) (Nat.le_of_ble_eq_true rfl) dY_init_39 (fun z7 cA8 H hK hP hD hS => ?_)
  refine W.widen (k := 4) (n := 1568) (Nat.le_of_ble_eq_true rfl) (Nat.le_of_ble_eq_true rfl) ?_
  have hK : va_K D vwCl [(cA2, .int), (cA4, .int), (cA6, .int), (cA8, .int)] s := hK
  have hP : va_P D vwCl [(h0, .inr (2, [.ref z1, .ref z3, .ref z5, .int 2, .null, .null, .null, .null, .null, .int 0, .int 0, .null, .int 0])), (z1, .inl (cA2, 520, .inl (fun _ => 0))), (z3, .inl (cA4, 520, .inl (fun _ => 0))), (z5, .inl (cA6, 520, .inl (fun _ => 0))), (z7, .inl (cA8, 8, .inl (fun _ => 0)))] H := hP
  have hD : va_D A [(h0, .inr (2, [.ref z1, .ref z3, .ref z5, .int 2, .null, .null, .null, .null, .null, .int 0, .int 0, .null, .int 0])), (z1, .inl (cA2, 520, .inl (fun _ => 0))), (z3, .inl (cA4, 520, .inl (fun _ => 0))), (z5, .inl (cA6, 520, .inl (fun _ => 0))), (z7, .inl (cA8, 8, .inl (fun _ => 0)))] := hD
  refine va_putF (D := D) (ci := 2) (v := .ref z7) (ty := .array .int) (C := RY) (T := TY) (N := 13) hx hb hty inY tyY tyY_ok nmY hown hK hP hD hS 0 rfl rfl 4 (by decide) (hty _ yf_23) (fun _ h9 => h9) rfl hin rfl (by decide +kernel) rfl rfl (Nat.le_of_ble_eq_true rfl) dY_init_41 (fun H locs hP hD hS => ?_)
  have hP : va_P D vwCl [(h0, .inr (2, [.ref z1, .ref z3, .ref z5, .int 2, .ref z7, .null, .null, .null, .null, .int 0, .int 0, .null, .int 0])), (z1, .inl (cA2, 520, .inl (fun _ => 0))), (z3, .inl (cA4, 520, .inl (fun _ => 0))), (z5, .inl (cA6, 520, .inl (fun _ => 0))), (z7, .inl (cA8, 8, .inl (fun _ => 0)))] H := hP
  have hD : va_D A [(h0, .inr (2, [.ref z1, .ref z3, .ref z5, .int 2, .ref z7, .null, .null, .null, .null, .int 0, .int 0, .null, .int 0])), (z1, .inl (cA2, 520, .inl (fun _ => 0))), (z3, .inl (cA4, 520, .inl (fun _ => 0))), (z5, .inl (cA6, 520, .inl (fun _ => 0))), (z7, .inl (cA8, 8, .inl (fun _ => 0)))] := hD
  refine lv_aload_n hx hb dY_init_44 rfl (lv_at hl 0 rfl) ?_
  refine lv_bipush (v := 16) hx hb dY_init_45 (by decide) ?_
  refine va_newa (atype := .int) (N' := 16) (ty := .int) (a0 := (16, .inl (fun _ => 0))) hx hb (hty _ yarr) rfl hK hP hD hS hA (fun _ => rfl) (by decide) (by decide) (by decide) (Nat.le_of_ble_eq_true rfl) (Nat.le_of_ble_eq_true rfl) dY_init_47 (fun z9 cA10 H hK hP hD hS => ?_)
  refine W.widen (k := 5) (n := 1584) (Nat.le_of_ble_eq_true rfl) (Nat.le_of_ble_eq_true rfl) ?_
  have hK : va_K D vwCl [(cA2, .int), (cA4, .int), (cA6, .int), (cA8, .int), (cA10, .int)] s := hK
  have hP : va_P D vwCl [(h0, .inr (2, [.ref z1, .ref z3, .ref z5, .int 2, .ref z7, .null, .null, .null, .null, .int 0, .int 0, .null, .int 0])), (z1, .inl (cA2, 520, .inl (fun _ => 0))), (z3, .inl (cA4, 520, .inl (fun _ => 0))), (z5, .inl (cA6, 520, .inl (fun _ => 0))), (z7, .inl (cA8, 8, .inl (fun _ => 0))), (z9, .inl (cA10, 16, .inl (fun _ => 0)))] H := hP
  have hD : va_D A [(h0, .inr (2, [.ref z1, .ref z3, .ref z5, .int 2, .ref z7, .null, .null, .null, .null, .int 0, .int 0, .null, .int 0])), (z1, .inl (cA2, 520, .inl (fun _ => 0))), (z3, .inl (cA4, 520, .inl (fun _ => 0))), (z5, .inl (cA6, 520, .inl (fun _ => 0))), (z7, .inl (cA8, 8, .inl (fun _ => 0))), (z9, .inl (cA10, 16, .inl (fun _ => 0)))] := hD
  refine va_putF (D := D) (ci := 2) (v := .ref z9) (ty := .array .int) (C := RY) (T := TY) (N := 13) hx hb hty inY tyY tyY_ok nmY hown hK hP hD hS 0 rfl rfl 5 (by decide) (hty _ yf_26) (fun _ h9 => h9) rfl hin rfl (by decide +kernel) rfl rfl (Nat.le_of_ble_eq_true rfl) dY_init_49 (fun H locs hP hD hS => ?_)
  have hP : va_P D vwCl [(h0, .inr (2, [.ref z1, .ref z3, .ref z5, .int 2, .ref z7, .ref z9, .null, .null, .null, .int 0, .int 0, .null, .int 0])), (z1, .inl (cA2, 520, .inl (fun _ => 0))), (z3, .inl (cA4, 520, .inl (fun _ => 0))), (z5, .inl (cA6, 520, .inl (fun _ => 0))), (z7, .inl (cA8, 8, .inl (fun _ => 0))), (z9, .inl (cA10, 16, .inl (fun _ => 0)))] H := hP
  have hD : va_D A [(h0, .inr (2, [.ref z1, .ref z3, .ref z5, .int 2, .ref z7, .ref z9, .null, .null, .null, .int 0, .int 0, .null, .int 0])), (z1, .inl (cA2, 520, .inl (fun _ => 0))), (z3, .inl (cA4, 520, .inl (fun _ => 0))), (z5, .inl (cA6, 520, .inl (fun _ => 0))), (z7, .inl (cA8, 8, .inl (fun _ => 0))), (z9, .inl (cA10, 16, .inl (fun _ => 0)))] := hD
  refine lv_aload_n hx hb dY_init_52 rfl (lv_at hl 0 rfl) ?_
  refine lv_iconst (v := 4) hx hb dY_init_53 (by decide) ?_
  refine va_newa (atype := .int) (N' := 4) (ty := .int) (a0 := (4, .inl (fun _ => 0))) hx hb (hty _ yarr) rfl hK hP hD hS hA (fun _ => rfl) (by decide) (by decide) (by decide) (Nat.le_of_ble_eq_true rfl) (Nat.le_of_ble_eq_true rfl) dY_init_54 (fun z11 cA12 H hK hP hD hS => ?_)
  refine W.widen (k := 6) (n := 1588) (Nat.le_of_ble_eq_true rfl) (Nat.le_of_ble_eq_true rfl) ?_
  have hK : va_K D vwCl [(cA2, .int), (cA4, .int), (cA6, .int), (cA8, .int), (cA10, .int), (cA12, .int)] s := hK
  have hP : va_P D vwCl [(h0, .inr (2, [.ref z1, .ref z3, .ref z5, .int 2, .ref z7, .ref z9, .null, .null, .null, .int 0, .int 0, .null, .int 0])), (z1, .inl (cA2, 520, .inl (fun _ => 0))), (z3, .inl (cA4, 520, .inl (fun _ => 0))), (z5, .inl (cA6, 520, .inl (fun _ => 0))), (z7, .inl (cA8, 8, .inl (fun _ => 0))), (z9, .inl (cA10, 16, .inl (fun _ => 0))), (z11, .inl (cA12, 4, .inl (fun _ => 0)))] H := hP
  have hD : va_D A [(h0, .inr (2, [.ref z1, .ref z3, .ref z5, .int 2, .ref z7, .ref z9, .null, .null, .null, .int 0, .int 0, .null, .int 0])), (z1, .inl (cA2, 520, .inl (fun _ => 0))), (z3, .inl (cA4, 520, .inl (fun _ => 0))), (z5, .inl (cA6, 520, .inl (fun _ => 0))), (z7, .inl (cA8, 8, .inl (fun _ => 0))), (z9, .inl (cA10, 16, .inl (fun _ => 0))), (z11, .inl (cA12, 4, .inl (fun _ => 0)))] := hD
  refine va_putF (D := D) (ci := 2) (v := .ref z11) (ty := .array .int) (C := RY) (T := TY) (N := 13) hx hb hty inY tyY tyY_ok nmY hown hK hP hD hS 0 rfl rfl 6 (by decide) (hty _ yf_29) (fun _ h9 => h9) rfl hin rfl (by decide +kernel) rfl rfl (Nat.le_of_ble_eq_true rfl) dY_init_56 (fun H locs hP hD hS => ?_)
  have hP : va_P D vwCl [(h0, .inr (2, [.ref z1, .ref z3, .ref z5, .int 2, .ref z7, .ref z9, .ref z11, .null, .null, .int 0, .int 0, .null, .int 0])), (z1, .inl (cA2, 520, .inl (fun _ => 0))), (z3, .inl (cA4, 520, .inl (fun _ => 0))), (z5, .inl (cA6, 520, .inl (fun _ => 0))), (z7, .inl (cA8, 8, .inl (fun _ => 0))), (z9, .inl (cA10, 16, .inl (fun _ => 0))), (z11, .inl (cA12, 4, .inl (fun _ => 0)))] H := hP
  have hD : va_D A [(h0, .inr (2, [.ref z1, .ref z3, .ref z5, .int 2, .ref z7, .ref z9, .ref z11, .null, .null, .int 0, .int 0, .null, .int 0])), (z1, .inl (cA2, 520, .inl (fun _ => 0))), (z3, .inl (cA4, 520, .inl (fun _ => 0))), (z5, .inl (cA6, 520, .inl (fun _ => 0))), (z7, .inl (cA8, 8, .inl (fun _ => 0))), (z9, .inl (cA10, 16, .inl (fun _ => 0))), (z11, .inl (cA12, 4, .inl (fun _ => 0)))] := hD
  refine lv_aload_n hx hb dY_init_59 rfl (lv_at hl 0 rfl) ?_
  refine lv_bipush (v := 10) hx hb dY_init_60 (by decide) ?_
  refine va_newa (atype := .int) (N' := 10) (ty := .int) (a0 := (10, .inl (fun _ => 0))) hx hb (hty _ yarr) rfl hK hP hD hS hA (fun _ => rfl) (by decide) (by decide) (by decide) (Nat.le_of_ble_eq_true rfl) (Nat.le_of_ble_eq_true rfl) dY_init_62 (fun z13 cA14 H hK hP hD hS => ?_)
  refine W.widen (k := 7) (n := 1598) (Nat.le_of_ble_eq_true rfl) (Nat.le_of_ble_eq_true rfl) ?_
  have hK : va_K D vwCl [(cA2, .int), (cA4, .int), (cA6, .int), (cA8, .int), (cA10, .int), (cA12, .int), (cA14, .int)] s := hK
  have hP : va_P D vwCl [(h0, .inr (2, [.ref z1, .ref z3, .ref z5, .int 2, .ref z7, .ref z9, .ref z11, .null, .null, .int 0, .int 0, .null, .int 0])), (z1, .inl (cA2, 520, .inl (fun _ => 0))), (z3, .inl (cA4, 520, .inl (fun _ => 0))), (z5, .inl (cA6, 520, .inl (fun _ => 0))), (z7, .inl (cA8, 8, .inl (fun _ => 0))), (z9, .inl (cA10, 16, .inl (fun _ => 0))), (z11, .inl (cA12, 4, .inl (fun _ => 0))), (z13, .inl (cA14, 10, .inl (fun _ => 0)))] H := hP
  have hD : va_D A [(h0, .inr (2, [.ref z1, .ref z3, .ref z5, .int 2, .ref z7, .ref z9, .ref z11, .null, .null, .int 0, .int 0, .null, .int 0])), (z1, .inl (cA2, 520, .inl (fun _ => 0))), (z3, .inl (cA4, 520, .inl (fun _ => 0))), (z5, .inl (cA6, 520, .inl (fun _ => 0))), (z7, .inl (cA8, 8, .inl (fun _ => 0))), (z9, .inl (cA10, 16, .inl (fun _ => 0))), (z11, .inl (cA12, 4, .inl (fun _ => 0))), (z13, .inl (cA14, 10, .inl (fun _ => 0)))] := hD
  refine va_putF (D := D) (ci := 2) (v := .ref z13) (ty := .array .int) (C := RY) (T := TY) (N := 13) hx hb hty inY tyY tyY_ok nmY hown hK hP hD hS 0 rfl rfl 7 (by decide) (hty _ yf_32) (fun _ h9 => h9) rfl hin rfl (by decide +kernel) rfl rfl (Nat.le_of_ble_eq_true rfl) dY_init_64 (fun H locs hP hD hS => ?_)
  have hP : va_P D vwCl [(h0, .inr (2, [.ref z1, .ref z3, .ref z5, .int 2, .ref z7, .ref z9, .ref z11, .ref z13, .null, .int 0, .int 0, .null, .int 0])), (z1, .inl (cA2, 520, .inl (fun _ => 0))), (z3, .inl (cA4, 520, .inl (fun _ => 0))), (z5, .inl (cA6, 520, .inl (fun _ => 0))), (z7, .inl (cA8, 8, .inl (fun _ => 0))), (z9, .inl (cA10, 16, .inl (fun _ => 0))), (z11, .inl (cA12, 4, .inl (fun _ => 0))), (z13, .inl (cA14, 10, .inl (fun _ => 0)))] H := hP
  have hD : va_D A [(h0, .inr (2, [.ref z1, .ref z3, .ref z5, .int 2, .ref z7, .ref z9, .ref z11, .ref z13, .null, .int 0, .int 0, .null, .int 0])), (z1, .inl (cA2, 520, .inl (fun _ => 0))), (z3, .inl (cA4, 520, .inl (fun _ => 0))), (z5, .inl (cA6, 520, .inl (fun _ => 0))), (z7, .inl (cA8, 8, .inl (fun _ => 0))), (z9, .inl (cA10, 16, .inl (fun _ => 0))), (z11, .inl (cA12, 4, .inl (fun _ => 0))), (z13, .inl (cA14, 10, .inl (fun _ => 0)))] := hD
  refine lv_aload_n hx hb dY_init_67 rfl (lv_at hl 0 rfl) ?_
  refine lv_bipush (v := 9) hx hb dY_init_68 (by decide) ?_
  refine va_newa (atype := .int) (N' := 9) (ty := .int) (a0 := (9, .inl (fun _ => 0))) hx hb (hty _ yarr) rfl hK hP hD hS hA (fun _ => rfl) (by decide) (by decide) (by decide) (Nat.le_of_ble_eq_true rfl) (Nat.le_of_ble_eq_true rfl) dY_init_70 (fun z15 cA16 H hK hP hD hS => ?_)
  refine W.widen (k := 8) (n := 1607) (Nat.le_of_ble_eq_true rfl) (Nat.le_of_ble_eq_true rfl) ?_
  have hK : va_K D vwCl [(cA2, .int), (cA4, .int), (cA6, .int), (cA8, .int), (cA10, .int), (cA12, .int), (cA14, .int), (cA16, .int)] s := hK
  have hP : va_P D vwCl [(h0, .inr (2, [.ref z1, .ref z3, .ref z5, .int 2, .ref z7, .ref z9, .ref z11, .ref z13, .null, .int 0, .int 0, .null, .int 0])), (z1, .inl (cA2, 520, .inl (fun _ => 0))), (z3, .inl (cA4, 520, .inl (fun _ => 0))), (z5, .inl (cA6, 520, .inl (fun _ => 0))), (z7, .inl (cA8, 8, .inl (fun _ => 0))), (z9, .inl (cA10, 16, .inl (fun _ => 0))), (z11, .inl (cA12, 4, .inl (fun _ => 0))), (z13, .inl (cA14, 10, .inl (fun _ => 0))), (z15, .inl (cA16, 9, .inl (fun _ => 0)))] H := hP
  have hD : va_D A [(h0, .inr (2, [.ref z1, .ref z3, .ref z5, .int 2, .ref z7, .ref z9, .ref z11, .ref z13, .null, .int 0, .int 0, .null, .int 0])), (z1, .inl (cA2, 520, .inl (fun _ => 0))), (z3, .inl (cA4, 520, .inl (fun _ => 0))), (z5, .inl (cA6, 520, .inl (fun _ => 0))), (z7, .inl (cA8, 8, .inl (fun _ => 0))), (z9, .inl (cA10, 16, .inl (fun _ => 0))), (z11, .inl (cA12, 4, .inl (fun _ => 0))), (z13, .inl (cA14, 10, .inl (fun _ => 0))), (z15, .inl (cA16, 9, .inl (fun _ => 0)))] := hD
  refine va_putF (D := D) (ci := 2) (v := .ref z15) (ty := .array .int) (C := RY) (T := TY) (N := 13) hx hb hty inY tyY tyY_ok nmY hown hK hP hD hS 0 rfl rfl 8 (by decide) (hty _ yf_35) (fun _ h9 => h9) rfl hin rfl (by decide +kernel) rfl rfl (Nat.le_of_ble_eq_true rfl) dY_init_72 (fun H locs hP hD hS => ?_)
  have hP : va_P D vwCl [(h0, .inr (2, [.ref z1, .ref z3, .ref z5, .int 2, .ref z7, .ref z9, .ref z11, .ref z13, .ref z15, .int 0, .int 0, .null, .int 0])), (z1, .inl (cA2, 520, .inl (fun _ => 0))), (z3, .inl (cA4, 520, .inl (fun _ => 0))), (z5, .inl (cA6, 520, .inl (fun _ => 0))), (z7, .inl (cA8, 8, .inl (fun _ => 0))), (z9, .inl (cA10, 16, .inl (fun _ => 0))), (z11, .inl (cA12, 4, .inl (fun _ => 0))), (z13, .inl (cA14, 10, .inl (fun _ => 0))), (z15, .inl (cA16, 9, .inl (fun _ => 0)))] H := hP
  have hD : va_D A [(h0, .inr (2, [.ref z1, .ref z3, .ref z5, .int 2, .ref z7, .ref z9, .ref z11, .ref z13, .ref z15, .int 0, .int 0, .null, .int 0])), (z1, .inl (cA2, 520, .inl (fun _ => 0))), (z3, .inl (cA4, 520, .inl (fun _ => 0))), (z5, .inl (cA6, 520, .inl (fun _ => 0))), (z7, .inl (cA8, 8, .inl (fun _ => 0))), (z9, .inl (cA10, 16, .inl (fun _ => 0))), (z11, .inl (cA12, 4, .inl (fun _ => 0))), (z13, .inl (cA14, 10, .inl (fun _ => 0))), (z15, .inl (cA16, 9, .inl (fun _ => 0)))] := hD
  refine lv_aload_n hx hb dY_init_75 rfl (lv_at hl 0 rfl) ?_
  refine lv_bipush (v := 16) hx hb dY_init_76 (by decide) ?_
  refine va_newa (atype := .int) (N' := 16) (ty := .int) (a0 := (16, .inl (fun _ => 0))) hx hb (hty _ yarr) rfl hK hP hD hS hA (fun _ => rfl) (by decide) (by decide) (by decide) (Nat.le_of_ble_eq_true rfl) (Nat.le_of_ble_eq_true rfl) dY_init_78 (fun z17 cA18 H hK hP hD hS => ?_)
  refine W.widen (k := 9) (n := 1623) (Nat.le_of_ble_eq_true rfl) (Nat.le_of_ble_eq_true rfl) ?_
  have hK : va_K D vwCl [(cA2, .int), (cA4, .int), (cA6, .int), (cA8, .int), (cA10, .int), (cA12, .int), (cA14, .int), (cA16, .int), (cA18, .int)] s := hK
  have hP : va_P D vwCl [(h0, .inr (2, [.ref z1, .ref z3, .ref z5, .int 2, .ref z7, .ref z9, .ref z11, .ref z13, .ref z15, .int 0, .int 0, .null, .int 0])), (z1, .inl (cA2, 520, .inl (fun _ => 0))), (z3, .inl (cA4, 520, .inl (fun _ => 0))), (z5, .inl (cA6, 520, .inl (fun _ => 0))), (z7, .inl (cA8, 8, .inl (fun _ => 0))), (z9, .inl (cA10, 16, .inl (fun _ => 0))), (z11, .inl (cA12, 4, .inl (fun _ => 0))), (z13, .inl (cA14, 10, .inl (fun _ => 0))), (z15, .inl (cA16, 9, .inl (fun _ => 0))), (z17, .inl (cA18, 16, .inl (fun _ => 0)))] H := hP
  have hD : va_D A [(h0, .inr (2, [.ref z1, .ref z3, .ref z5, .int 2, .ref z7, .ref z9, .ref z11, .ref z13, .ref z15, .int 0, .int 0, .null, .int 0])), (z1, .inl (cA2, 520, .inl (fun _ => 0))), (z3, .inl (cA4, 520, .inl (fun _ => 0))), (z5, .inl (cA6, 520, .inl (fun _ => 0))), (z7, .inl (cA8, 8, .inl (fun _ => 0))), (z9, .inl (cA10, 16, .inl (fun _ => 0))), (z11, .inl (cA12, 4, .inl (fun _ => 0))), (z13, .inl (cA14, 10, .inl (fun _ => 0))), (z15, .inl (cA16, 9, .inl (fun _ => 0))), (z17, .inl (cA18, 16, .inl (fun _ => 0)))] := hD
  refine va_putF (D := D) (ci := 2) (v := .ref z17) (ty := .array .int) (C := RY) (T := TY) (N := 13) hx hb hty inY tyY tyY_ok nmY hown hK hP hD hS 0 rfl rfl 11 (by decide) (hty _ yf_38) (fun _ h9 => h9) rfl hin rfl (by decide +kernel) rfl rfl (Nat.le_of_ble_eq_true rfl) dY_init_80 (fun H locs hP hD hS => ?_)
  have hP : va_P D vwCl [(h0, .inr (2, [.ref z1, .ref z3, .ref z5, .int 2, .ref z7, .ref z9, .ref z11, .ref z13, .ref z15, .int 0, .int 0, .ref z17, .int 0])), (z1, .inl (cA2, 520, .inl (fun _ => 0))), (z3, .inl (cA4, 520, .inl (fun _ => 0))), (z5, .inl (cA6, 520, .inl (fun _ => 0))), (z7, .inl (cA8, 8, .inl (fun _ => 0))), (z9, .inl (cA10, 16, .inl (fun _ => 0))), (z11, .inl (cA12, 4, .inl (fun _ => 0))), (z13, .inl (cA14, 10, .inl (fun _ => 0))), (z15, .inl (cA16, 9, .inl (fun _ => 0))), (z17, .inl (cA18, 16, .inl (fun _ => 0)))] H := hP
  have hD : va_D A [(h0, .inr (2, [.ref z1, .ref z3, .ref z5, .int 2, .ref z7, .ref z9, .ref z11, .ref z13, .ref z15, .int 0, .int 0, .ref z17, .int 0])), (z1, .inl (cA2, 520, .inl (fun _ => 0))), (z3, .inl (cA4, 520, .inl (fun _ => 0))), (z5, .inl (cA6, 520, .inl (fun _ => 0))), (z7, .inl (cA8, 8, .inl (fun _ => 0))), (z9, .inl (cA10, 16, .inl (fun _ => 0))), (z11, .inl (cA12, 4, .inl (fun _ => 0))), (z13, .inl (cA14, 10, .inl (fun _ => 0))), (z15, .inl (cA16, 9, .inl (fun _ => 0))), (z17, .inl (cA18, 16, .inl (fun _ => 0)))] := hD
  have hP : va_P D vwCl (yW (h0, z1, z3, z5, z7, z9, z11, z13, z15, z17, cA2, cA4, cA6, cA8, cA10, cA12, cA14, cA16, cA18) ((fun _ => 0), (fun _ => 0), (fun _ => 0), 2, (fun _ => 0), (fun _ => 0), (fun _ => 0), (fun _ => 0), (fun _ => 0), 0, 0, (fun _ => 0), 0)) H := hP
  have hD : va_D A (yW (h0, z1, z3, z5, z7, z9, z11, z13, z15, z17, cA2, cA4, cA6, cA8, cA10, cA12, cA14, cA16, cA18) ((fun _ => 0), (fun _ => 0), (fun _ => 0), 2, (fun _ => 0), (fun _ => 0), (fun _ => 0), (fun _ => 0), (fun _ => 0), 0, 0, (fun _ => 0), 0)) := hD
  refine lv_aload_n hx hb dY_init_83 rfl (lv_at hl 0 rfl) ?_
  refine va_get (D := D) (ci := 2) (v := .ref z1) (C := RY) (T := TY) (N := 13) hx hb hty inY hown hK hP 0 rfl rfl 0 (by decide) (hty _ yf_7) (fun _ h9 => h9) rfl dY_init_84 ?_
  refine lv_iconst (v := 1) hx hb dY_init_87 (by decide) ?_
  refine lv_iconst (v := 4) hx hb dY_init_88 (by decide) ?_
  refine va_iast (f := (fun _ => 0)) hx hb hK hP hD hS 1 0 rfl rfl (by unfold vp_in; decide) dY_init_89 (fun H locs hP hD hS => ?_)
  have hP : va_P D vwCl (yW (h0, z1, z3, z5, z7, z9, z11, z13, z15, z17, cA2, cA4, cA6, cA8, cA10, cA12, cA14, cA16, cA18) ((upd (fun _ => 0) 1 4), (fun _ => 0), (fun _ => 0), 2, (fun _ => 0), (fun _ => 0), (fun _ => 0), (fun _ => 0), (fun _ => 0), 0, 0, (fun _ => 0), 0)) H := hP
  have hD : va_D A (yW (h0, z1, z3, z5, z7, z9, z11, z13, z15, z17, cA2, cA4, cA6, cA8, cA10, cA12, cA14, cA16, cA18) ((upd (fun _ => 0) 1 4), (fun _ => 0), (fun _ => 0), 2, (fun _ => 0), (fun _ => 0), (fun _ => 0), (fun _ => 0), (fun _ => 0), 0, 0, (fun _ => 0), 0)) := hD
  refine lv_aload_n hx hb dY_init_90 rfl (lv_at hl 0 rfl) ?_
  refine va_get (D := D) (ci := 2) (v := .ref z3) (C := RY) (T := TY) (N := 13) hx hb hty inY hown hK hP 0 rfl rfl 1 (by decide) (hty _ yf_13) (fun _ h9 => h9) rfl dY_init_91 ?_
  refine lv_iconst (v := 1) hx hb dY_init_94 (by decide) ?_
  refine lv_iconst (v := 2) hx hb dY_init_95 (by decide) ?_
  refine va_iast (f := (fun _ => 0)) hx hb hK hP hD hS 2 1 rfl rfl (by unfold vp_in; decide) dY_init_96 (fun H locs hP hD hS => ?_)
  have hP : va_P D vwCl (yW (h0, z1, z3, z5, z7, z9, z11, z13, z15, z17, cA2, cA4, cA6, cA8, cA10, cA12, cA14, cA16, cA18) ((upd (fun _ => 0) 1 4), (upd (fun _ => 0) 1 2), (fun _ => 0), 2, (fun _ => 0), (fun _ => 0), (fun _ => 0), (fun _ => 0), (fun _ => 0), 0, 0, (fun _ => 0), 0)) H := hP
  have hD : va_D A (yW (h0, z1, z3, z5, z7, z9, z11, z13, z15, z17, cA2, cA4, cA6, cA8, cA10, cA12, cA14, cA16, cA18) ((upd (fun _ => 0) 1 4), (upd (fun _ => 0) 1 2), (fun _ => 0), 2, (fun _ => 0), (fun _ => 0), (fun _ => 0), (fun _ => 0), (fun _ => 0), 0, 0, (fun _ => 0), 0)) := hD
  refine lv_aload_n hx hb dY_init_97 rfl (lv_at hl 0 rfl) ?_
  refine va_get (D := D) (ci := 2) (v := .ref z1) (C := RY) (T := TY) (N := 13) hx hb hty inY hown hK hP 0 rfl rfl 0 (by decide) (hty _ yf_7) (fun _ h9 => h9) rfl dY_init_98 ?_
  refine lv_iconst (v := 2) hx hb dY_init_101 (by decide) ?_
  refine lv_iconst (v := 5) hx hb dY_init_102 (by decide) ?_
  refine va_iast (f := (upd (fun _ => 0) 1 4)) hx hb hK hP hD hS 1 0 rfl rfl (by unfold vp_in; decide) dY_init_103 (fun H locs hP hD hS => ?_)
  have hP : va_P D vwCl (yW (h0, z1, z3, z5, z7, z9, z11, z13, z15, z17, cA2, cA4, cA6, cA8, cA10, cA12, cA14, cA16, cA18) ((upd (upd (fun _ => 0) 1 4) 2 5), (upd (fun _ => 0) 1 2), (fun _ => 0), 2, (fun _ => 0), (fun _ => 0), (fun _ => 0), (fun _ => 0), (fun _ => 0), 0, 0, (fun _ => 0), 0)) H := hP
  have hD : va_D A (yW (h0, z1, z3, z5, z7, z9, z11, z13, z15, z17, cA2, cA4, cA6, cA8, cA10, cA12, cA14, cA16, cA18) ((upd (upd (fun _ => 0) 1 4) 2 5), (upd (fun _ => 0) 1 2), (fun _ => 0), 2, (fun _ => 0), (fun _ => 0), (fun _ => 0), (fun _ => 0), (fun _ => 0), 0, 0, (fun _ => 0), 0)) := hD
  refine lv_aload_n hx hb dY_init_104 rfl (lv_at hl 0 rfl) ?_
  refine va_get (D := D) (ci := 2) (v := .ref z3) (C := RY) (T := TY) (N := 13) hx hb hty inY hown hK hP 0 rfl rfl 1 (by decide) (hty _ yf_13) (fun _ h9 => h9) rfl dY_init_105 ?_
  refine lv_iconst (v := 2) hx hb dY_init_108 (by decide) ?_
  refine lv_bipush (v := 9) hx hb dY_init_109 (by decide) ?_
  refine va_iast (f := (upd (fun _ => 0) 1 2)) hx hb hK hP hD hS 2 1 rfl rfl (by unfold vp_in; decide) dY_init_111 (fun H locs hP hD hS => ?_)
  have hP : va_P D vwCl (yW (h0, z1, z3, z5, z7, z9, z11, z13, z15, z17, cA2, cA4, cA6, cA8, cA10, cA12, cA14, cA16, cA18) ((upd (upd (fun _ => 0) 1 4) 2 5), (upd (upd (fun _ => 0) 1 2) 2 9), (fun _ => 0), 2, (fun _ => 0), (fun _ => 0), (fun _ => 0), (fun _ => 0), (fun _ => 0), 0, 0, (fun _ => 0), 0)) H := hP
  have hD : va_D A (yW (h0, z1, z3, z5, z7, z9, z11, z13, z15, z17, cA2, cA4, cA6, cA8, cA10, cA12, cA14, cA16, cA18) ((upd (upd (fun _ => 0) 1 4) 2 5), (upd (upd (fun _ => 0) 1 2) 2 9), (fun _ => 0), 2, (fun _ => 0), (fun _ => 0), (fun _ => 0), (fun _ => 0), (fun _ => 0), 0, 0, (fun _ => 0), 0)) := hD
  refine lv_aload_n hx hb dY_init_112 rfl (lv_at hl 0 rfl) ?_
  refine va_get (D := D) (ci := 2) (v := .ref z13) (C := RY) (T := TY) (N := 13) hx hb hty inY hown hK hP 0 rfl rfl 7 (by decide) (hty _ yf_32) (fun _ h9 => h9) rfl dY_init_113 ?_
  refine lv_iconst (v := 0) hx hb dY_init_116 (by decide) ?_
  refine lv_iconst (v := 0) hx hb dY_init_117 (by decide) ?_
  refine lv_iconst (v := 1) hx hb dY_init_118 (by decide) ?_
  refine lv_iconst (v := 3) hx hb dY_init_119 (by decide) ?_
  refine lv_iconst (v := 4) hx hb dY_init_120 (by decide) ?_
  refine vp_callSi (va_Run.run (va_runS (As := [.int 0, .int 1, .int 3, .int 4]) (rest := [.int 0, .ref z13]) ⟨hx, hb, hml, hown, hts⟩ (j_bits l 0 1 3 4) (va_cwS 4 hts (yS ylY_41 ym_bits yini yc_bits) rfl rfl rfl (by decide +kernel) ⟨Nat.le_of_ble_eq_true rfl, Nat.le_of_ble_eq_true rfl⟩) preEq rfl rfl hl.1 rfl (lv_room (Nat.le_of_ble_eq_true rfl)) dY_init_121 ⟨Nat.le_of_ble_eq_true rfl, Nat.le_of_ble_eq_true rfl⟩)) (fun r19 hw20 => ?_)
  obtain rfl : r19 = 27 := hw20.trans (by decide +kernel)
  refine va_iast (f := (fun _ => 0)) hx hb hK hP hD hS 7 6 rfl rfl (by unfold vp_in; decide) dY_init_124 (fun H locs hP hD hS => ?_)
  have hP : va_P D vwCl (yW (h0, z1, z3, z5, z7, z9, z11, z13, z15, z17, cA2, cA4, cA6, cA8, cA10, cA12, cA14, cA16, cA18) ((upd (upd (fun _ => 0) 1 4) 2 5), (upd (upd (fun _ => 0) 1 2) 2 9), (fun _ => 0), 2, (fun _ => 0), (fun _ => 0), (fun _ => 0), (upd (fun _ => 0) 0 27), (fun _ => 0), 0, 0, (fun _ => 0), 0)) H := hP
  have hD : va_D A (yW (h0, z1, z3, z5, z7, z9, z11, z13, z15, z17, cA2, cA4, cA6, cA8, cA10, cA12, cA14, cA16, cA18) ((upd (upd (fun _ => 0) 1 4) 2 5), (upd (upd (fun _ => 0) 1 2) 2 9), (fun _ => 0), 2, (fun _ => 0), (fun _ => 0), (fun _ => 0), (upd (fun _ => 0) 0 27), (fun _ => 0), 0, 0, (fun _ => 0), 0)) := hD
  refine lv_aload_n hx hb dY_init_125 rfl (lv_at hl 0 rfl) ?_
  refine va_get (D := D) (ci := 2) (v := .ref z13) (C := RY) (T := TY) (N := 13) hx hb hty inY hown hK hP 0 rfl rfl 7 (by decide) (hty _ yf_32) (fun _ h9 => h9) rfl dY_init_126 ?_
  refine lv_iconst (v := 1) hx hb dY_init_129 (by decide) ?_
  refine lv_iconst (v := 0) hx hb dY_init_130 (by decide) ?_
  refine lv_iconst (v := 2) hx hb dY_init_131 (by decide) ?_
  refine lv_iconst (v := 3) hx hb dY_init_132 (by decide) ?_
  refine lv_iconst (v := 5) hx hb dY_init_133 (by decide) ?_
  refine vp_callSi (va_Run.run (va_runS (As := [.int 0, .int 2, .int 3, .int 5]) (rest := [.int 1, .ref z13]) ⟨hx, hb, hml, hown, hts⟩ (j_bits l 0 2 3 5) (va_cwS 4 hts (yS ylY_41 ym_bits yini yc_bits) rfl rfl rfl (by decide +kernel) ⟨Nat.le_of_ble_eq_true rfl, Nat.le_of_ble_eq_true rfl⟩) preEq rfl rfl hl.1 rfl (lv_room (Nat.le_of_ble_eq_true rfl)) dY_init_134 ⟨Nat.le_of_ble_eq_true rfl, Nat.le_of_ble_eq_true rfl⟩)) (fun r21 hw22 => ?_)
  obtain rfl : r21 = 45 := hw22.trans (by decide +kernel)
  refine va_iast (f := (upd (fun _ => 0) 0 27)) hx hb hK hP hD hS 7 6 rfl rfl (by unfold vp_in; decide) dY_init_137 (fun H locs hP hD hS => ?_)
  have hP : va_P D vwCl (yW (h0, z1, z3, z5, z7, z9, z11, z13, z15, z17, cA2, cA4, cA6, cA8, cA10, cA12, cA14, cA16, cA18) ((upd (upd (fun _ => 0) 1 4) 2 5), (upd (upd (fun _ => 0) 1 2) 2 9), (fun _ => 0), 2, (fun _ => 0), (fun _ => 0), (fun _ => 0), (upd (upd (fun _ => 0) 0 27) 1 45), (fun _ => 0), 0, 0, (fun _ => 0), 0)) H := hP
  have hD : va_D A (yW (h0, z1, z3, z5, z7, z9, z11, z13, z15, z17, cA2, cA4, cA6, cA8, cA10, cA12, cA14, cA16, cA18) ((upd (upd (fun _ => 0) 1 4) 2 5), (upd (upd (fun _ => 0) 1 2) 2 9), (fun _ => 0), 2, (fun _ => 0), (fun _ => 0), (fun _ => 0), (upd (upd (fun _ => 0) 0 27) 1 45), (fun _ => 0), 0, 0, (fun _ => 0), 0)) := hD
  refine lv_aload_n hx hb dY_init_138 rfl (lv_at hl 0 rfl) ?_
  refine va_get (D := D) (ci := 2) (v := .ref z13) (C := RY) (T := TY) (N := 13) hx hb hty inY hown hK hP 0 rfl rfl 7 (by decide) (hty _ yf_32) (fun _ h9 => h9) rfl dY_init_139 ?_
  refine lv_iconst (v := 2) hx hb dY_init_142 (by decide) ?_
  refine lv_iconst (v := 0) hx hb dY_init_143 (by decide) ?_
  refine lv_iconst (v := 2) hx hb dY_init_144 (by decide) ?_
  refine lv_iconst (v := 3) hx hb dY_init_145 (by decide) ?_
  refine lv_iconst (v := 5) hx hb dY_init_146 (by decide) ?_
  refine vp_callSi (va_Run.run (va_runS (As := [.int 0, .int 2, .int 3, .int 5]) (rest := [.int 2, .ref z13]) ⟨hx, hb, hml, hown, hts⟩ (j_bits l 0 2 3 5) (va_cwS 4 hts (yS ylY_41 ym_bits yini yc_bits) rfl rfl rfl (by decide +kernel) ⟨Nat.le_of_ble_eq_true rfl, Nat.le_of_ble_eq_true rfl⟩) preEq rfl rfl hl.1 rfl (lv_room (Nat.le_of_ble_eq_true rfl)) dY_init_147 ⟨Nat.le_of_ble_eq_true rfl, Nat.le_of_ble_eq_true rfl⟩)) (fun r23 hw24 => ?_)
  obtain rfl : r23 = 45 := hw24.trans (by decide +kernel)
  refine lv_iconst (v := 1) hx hb dY_init_150 (by decide) ?_
  refine lv_bipush (v := 6) hx hb dY_init_151 (by decide) ?_
  refine lv_bipush (v := 6) hx hb dY_init_153 (by decide) ?_
  refine lv_bipush (v := 6) hx hb dY_init_155 (by decide) ?_
  refine vp_callSi (va_Run.run (va_runS (As := [.int 1, .int 6, .int 6, .int 6]) (rest := [.int 45, .int 2, .ref z13]) ⟨hx, hb, hml, hown, hts⟩ (j_bits l 1 6 6 6) (va_cwS 4 hts (yS ylY_41 ym_bits yini yc_bits) rfl rfl rfl (by decide +kernel) ⟨Nat.le_of_ble_eq_true rfl, Nat.le_of_ble_eq_true rfl⟩) preEq rfl rfl hl.1 rfl (lv_room (Nat.le_of_ble_eq_true rfl)) dY_init_157 ⟨Nat.le_of_ble_eq_true rfl, Nat.le_of_ble_eq_true rfl⟩)) (fun r25 hw26 => ?_)
  obtain rfl : r25 = 66 := hw26.trans (by decide +kernel)
  refine lv_ior hx hb dY_init_160 ?_
  refine lv_topi (fun x27 ex27 => ?_)
  obtain rfl : x27 = 111 := ex27.trans (by decide +kernel)
  refine va_iast (f := (upd (upd (fun _ => 0) 0 27) 1 45)) hx hb hK hP hD hS 7 6 rfl rfl (by unfold vp_in; decide) dY_init_161 (fun H locs hP hD hS => ?_)
  have hP : va_P D vwCl (yW (h0, z1, z3, z5, z7, z9, z11, z13, z15, z17, cA2, cA4, cA6, cA8, cA10, cA12, cA14, cA16, cA18) ((upd (upd (fun _ => 0) 1 4) 2 5), (upd (upd (fun _ => 0) 1 2) 2 9), (fun _ => 0), 2, (fun _ => 0), (fun _ => 0), (fun _ => 0), (upd (upd (upd (fun _ => 0) 0 27) 1 45) 2 111), (fun _ => 0), 0, 0, (fun _ => 0), 0)) H := hP
  have hD : va_D A (yW (h0, z1, z3, z5, z7, z9, z11, z13, z15, z17, cA2, cA4, cA6, cA8, cA10, cA12, cA14, cA16, cA18) ((upd (upd (fun _ => 0) 1 4) 2 5), (upd (upd (fun _ => 0) 1 2) 2 9), (fun _ => 0), 2, (fun _ => 0), (fun _ => 0), (fun _ => 0), (upd (upd (upd (fun _ => 0) 0 27) 1 45) 2 111), (fun _ => 0), 0, 0, (fun _ => 0), 0)) := hD
  refine lv_aload_n hx hb dY_init_162 rfl (lv_at hl 0 rfl) ?_
  refine va_get (D := D) (ci := 2) (v := .ref z13) (C := RY) (T := TY) (N := 13) hx hb hty inY hown hK hP 0 rfl rfl 7 (by decide) (hty _ yf_32) (fun _ h9 => h9) rfl dY_init_163 ?_
  refine lv_iconst (v := 3) hx hb dY_init_166 (by decide) ?_
  refine lv_iconst (v := 0) hx hb dY_init_167 (by decide) ?_
  refine lv_bipush (v := 7) hx hb dY_init_168 (by decide) ?_
  refine lv_bipush (v := 7) hx hb dY_init_170 (by decide) ?_
  refine lv_bipush (v := 7) hx hb dY_init_172 (by decide) ?_
  refine vp_callSi (va_Run.run (va_runS (As := [.int 0, .int 7, .int 7, .int 7]) (rest := [.int 3, .ref z13]) ⟨hx, hb, hml, hown, hts⟩ (j_bits l 0 7 7 7) (va_cwS 4 hts (yS ylY_41 ym_bits yini yc_bits) rfl rfl rfl (by decide +kernel) ⟨Nat.le_of_ble_eq_true rfl, Nat.le_of_ble_eq_true rfl⟩) preEq rfl rfl hl.1 rfl (lv_room (Nat.le_of_ble_eq_true rfl)) dY_init_174 ⟨Nat.le_of_ble_eq_true rfl, Nat.le_of_ble_eq_true rfl⟩)) (fun r28 hw29 => ?_)
  obtain rfl : r28 = 129 := hw29.trans (by decide +kernel)
  refine va_iast (f := (upd (upd (upd (fun _ => 0) 0 27) 1 45) 2 111)) hx hb hK hP hD hS 7 6 rfl rfl (by unfold vp_in; decide) dY_init_177 (fun H locs hP hD hS => ?_)
  have hP : va_P D vwCl (yW (h0, z1, z3, z5, z7, z9, z11, z13, z15, z17, cA2, cA4, cA6, cA8, cA10, cA12, cA14, cA16, cA18) ((upd (upd (fun _ => 0) 1 4) 2 5), (upd (upd (fun _ => 0) 1 2) 2 9), (fun _ => 0), 2, (fun _ => 0), (fun _ => 0), (fun _ => 0), (upd (upd (upd (upd (fun _ => 0) 0 27) 1 45) 2 111) 3 129), (fun _ => 0), 0, 0, (fun _ => 0), 0)) H := hP
  have hD : va_D A (yW (h0, z1, z3, z5, z7, z9, z11, z13, z15, z17, cA2, cA4, cA6, cA8, cA10, cA12, cA14, cA16, cA18) ((upd (upd (fun _ => 0) 1 4) 2 5), (upd (upd (fun _ => 0) 1 2) 2 9), (fun _ => 0), 2, (fun _ => 0), (fun _ => 0), (fun _ => 0), (upd (upd (upd (upd (fun _ => 0) 0 27) 1 45) 2 111) 3 129), (fun _ => 0), 0, 0, (fun _ => 0), 0)) := hD
  refine lv_aload_n hx hb dY_init_178 rfl (lv_at hl 0 rfl) ?_
  refine va_get (D := D) (ci := 2) (v := .ref z13) (C := RY) (T := TY) (N := 13) hx hb hty inY hown hK hP 0 rfl rfl 7 (by decide) (hty _ yf_32) (fun _ h9 => h9) rfl dY_init_179 ?_
  refine lv_iconst (v := 4) hx hb dY_init_182 (by decide) ?_
  refine lv_iconst (v := 0) hx hb dY_init_183 (by decide) ?_
  refine lv_iconst (v := 1) hx hb dY_init_184 (by decide) ?_
  refine lv_bipush (v := 8) hx hb dY_init_185 (by decide) ?_
  refine lv_bipush (v := 8) hx hb dY_init_187 (by decide) ?_
  refine vp_callSi (va_Run.run (va_runS (As := [.int 0, .int 1, .int 8, .int 8]) (rest := [.int 4, .ref z13]) ⟨hx, hb, hml, hown, hts⟩ (j_bits l 0 1 8 8) (va_cwS 4 hts (yS ylY_41 ym_bits yini yc_bits) rfl rfl rfl (by decide +kernel) ⟨Nat.le_of_ble_eq_true rfl, Nat.le_of_ble_eq_true rfl⟩) preEq rfl rfl hl.1 rfl (lv_room (Nat.le_of_ble_eq_true rfl)) dY_init_189 ⟨Nat.le_of_ble_eq_true rfl, Nat.le_of_ble_eq_true rfl⟩)) (fun r30 hw31 => ?_)
  obtain rfl : r30 = 259 := hw31.trans (by decide +kernel)
  refine va_iast (f := (upd (upd (upd (upd (fun _ => 0) 0 27) 1 45) 2 111) 3 129)) hx hb hK hP hD hS 7 6 rfl rfl (by unfold vp_in; decide) dY_init_192 (fun H locs hP hD hS => ?_)
  have hP : va_P D vwCl (yW (h0, z1, z3, z5, z7, z9, z11, z13, z15, z17, cA2, cA4, cA6, cA8, cA10, cA12, cA14, cA16, cA18) ((upd (upd (fun _ => 0) 1 4) 2 5), (upd (upd (fun _ => 0) 1 2) 2 9), (fun _ => 0), 2, (fun _ => 0), (fun _ => 0), (fun _ => 0), (upd (upd (upd (upd (upd (fun _ => 0) 0 27) 1 45) 2 111) 3 129) 4 259), (fun _ => 0), 0, 0, (fun _ => 0), 0)) H := hP
  have hD : va_D A (yW (h0, z1, z3, z5, z7, z9, z11, z13, z15, z17, cA2, cA4, cA6, cA8, cA10, cA12, cA14, cA16, cA18) ((upd (upd (fun _ => 0) 1 4) 2 5), (upd (upd (fun _ => 0) 1 2) 2 9), (fun _ => 0), 2, (fun _ => 0), (fun _ => 0), (fun _ => 0), (upd (upd (upd (upd (upd (fun _ => 0) 0 27) 1 45) 2 111) 3 129) 4 259), (fun _ => 0), 0, 0, (fun _ => 0), 0)) := hD
  refine lv_aload_n hx hb dY_init_193 rfl (lv_at hl 0 rfl) ?_
  refine va_get (D := D) (ci := 2) (v := .ref z13) (C := RY) (T := TY) (N := 13) hx hb hty inY hown hK hP 0 rfl rfl 7 (by decide) (hty _ yf_32) (fun _ h9 => h9) rfl dY_init_194 ?_
  refine lv_iconst (v := 5) hx hb dY_init_197 (by decide) ?_
  refine lv_aload_n hx hb dY_init_198 rfl (lv_at hl 0 rfl) ?_
  refine va_get (D := D) (ci := 2) (v := .ref z13) (C := RY) (T := TY) (N := 13) hx hb hty inY hown hK hP 0 rfl rfl 7 (by decide) (hty _ yf_32) (fun _ h9 => h9) rfl dY_init_199 ?_
  refine lv_iconst (v := 4) hx hb dY_init_202 (by decide) ?_
  refine va_iald (f := (upd (upd (upd (upd (upd (fun _ => 0) 0 27) 1 45) 2 111) 3 129) 4 259)) hx hb hK hP 7 6 rfl rfl (by unfold vp_in; decide) dY_init_203 ?_
  refine lv_topi (fun x32 ex32 => ?_)
  obtain rfl : x32 = 259 := ex32
  refine va_iast (f := (upd (upd (upd (upd (upd (fun _ => 0) 0 27) 1 45) 2 111) 3 129) 4 259)) hx hb hK hP hD hS 7 6 rfl rfl (by unfold vp_in; decide) dY_init_204 (fun H locs hP hD hS => ?_)
  have hP : va_P D vwCl (yW (h0, z1, z3, z5, z7, z9, z11, z13, z15, z17, cA2, cA4, cA6, cA8, cA10, cA12, cA14, cA16, cA18) ((upd (upd (fun _ => 0) 1 4) 2 5), (upd (upd (fun _ => 0) 1 2) 2 9), (fun _ => 0), 2, (fun _ => 0), (fun _ => 0), (fun _ => 0), (upd (upd (upd (upd (upd (upd (fun _ => 0) 0 27) 1 45) 2 111) 3 129) 4 259) 5 259), (fun _ => 0), 0, 0, (fun _ => 0), 0)) H := hP
  have hD : va_D A (yW (h0, z1, z3, z5, z7, z9, z11, z13, z15, z17, cA2, cA4, cA6, cA8, cA10, cA12, cA14, cA16, cA18) ((upd (upd (fun _ => 0) 1 4) 2 5), (upd (upd (fun _ => 0) 1 2) 2 9), (fun _ => 0), 2, (fun _ => 0), (fun _ => 0), (fun _ => 0), (upd (upd (upd (upd (upd (upd (fun _ => 0) 0 27) 1 45) 2 111) 3 129) 4 259) 5 259), (fun _ => 0), 0, 0, (fun _ => 0), 0)) := hD
  refine lv_aload_n hx hb dY_init_205 rfl (lv_at hl 0 rfl) ?_
  refine va_get (D := D) (ci := 2) (v := .ref z13) (C := RY) (T := TY) (N := 13) hx hb hty inY hown hK hP 0 rfl rfl 7 (by decide) (hty _ yf_32) (fun _ h9 => h9) rfl dY_init_206 ?_
  refine lv_bipush (v := 6) hx hb dY_init_209 (by decide) ?_
  refine lv_iconst (v := 1) hx hb dY_init_211 (by decide) ?_
  refine va_iast (f := (upd (upd (upd (upd (upd (upd (fun _ => 0) 0 27) 1 45) 2 111) 3 129) 4 259) 5 259)) hx hb hK hP hD hS 7 6 rfl rfl (by unfold vp_in; decide) dY_init_212 (fun H locs hP hD hS => ?_)
  have hP : va_P D vwCl (yW (h0, z1, z3, z5, z7, z9, z11, z13, z15, z17, cA2, cA4, cA6, cA8, cA10, cA12, cA14, cA16, cA18) ((upd (upd (fun _ => 0) 1 4) 2 5), (upd (upd (fun _ => 0) 1 2) 2 9), (fun _ => 0), 2, (fun _ => 0), (fun _ => 0), (fun _ => 0), (upd (upd (upd (upd (upd (upd (upd (fun _ => 0) 0 27) 1 45) 2 111) 3 129) 4 259) 5 259) 6 1), (fun _ => 0), 0, 0, (fun _ => 0), 0)) H := hP
  have hD : va_D A (yW (h0, z1, z3, z5, z7, z9, z11, z13, z15, z17, cA2, cA4, cA6, cA8, cA10, cA12, cA14, cA16, cA18) ((upd (upd (fun _ => 0) 1 4) 2 5), (upd (upd (fun _ => 0) 1 2) 2 9), (fun _ => 0), 2, (fun _ => 0), (fun _ => 0), (fun _ => 0), (upd (upd (upd (upd (upd (upd (upd (fun _ => 0) 0 27) 1 45) 2 111) 3 129) 4 259) 5 259) 6 1), (fun _ => 0), 0, 0, (fun _ => 0), 0)) := hD
  refine lv_aload_n hx hb dY_init_213 rfl (lv_at hl 0 rfl) ?_
  refine va_get (D := D) (ci := 2) (v := .ref z13) (C := RY) (T := TY) (N := 13) hx hb hty inY hown hK hP 0 rfl rfl 7 (by decide) (hty _ yf_32) (fun _ h9 => h9) rfl dY_init_214 ?_
  refine lv_bipush (v := 7) hx hb dY_init_217 (by decide) ?_
  refine lv_iconst (v := 1) hx hb dY_init_219 (by decide) ?_
  refine va_iast (f := (upd (upd (upd (upd (upd (upd (upd (fun _ => 0) 0 27) 1 45) 2 111) 3 129) 4 259) 5 259) 6 1)) hx hb hK hP hD hS 7 6 rfl rfl (by unfold vp_in; decide) dY_init_220 (fun H locs hP hD hS => ?_)
  have hP : va_P D vwCl (yW (h0, z1, z3, z5, z7, z9, z11, z13, z15, z17, cA2, cA4, cA6, cA8, cA10, cA12, cA14, cA16, cA18) ((upd (upd (fun _ => 0) 1 4) 2 5), (upd (upd (fun _ => 0) 1 2) 2 9), (fun _ => 0), 2, (fun _ => 0), (fun _ => 0), (fun _ => 0), (upd (upd (upd (upd (upd (upd (upd (upd (fun _ => 0) 0 27) 1 45) 2 111) 3 129) 4 259) 5 259) 6 1) 7 1), (fun _ => 0), 0, 0, (fun _ => 0), 0)) H := hP
  have hD : va_D A (yW (h0, z1, z3, z5, z7, z9, z11, z13, z15, z17, cA2, cA4, cA6, cA8, cA10, cA12, cA14, cA16, cA18) ((upd (upd (fun _ => 0) 1 4) 2 5), (upd (upd (fun _ => 0) 1 2) 2 9), (fun _ => 0), 2, (fun _ => 0), (fun _ => 0), (fun _ => 0), (upd (upd (upd (upd (upd (upd (upd (upd (fun _ => 0) 0 27) 1 45) 2 111) 3 129) 4 259) 5 259) 6 1) 7 1), (fun _ => 0), 0, 0, (fun _ => 0), 0)) := hD
  refine lv_aload_n hx hb dY_init_221 rfl (lv_at hl 0 rfl) ?_
  refine va_get (D := D) (ci := 2) (v := .ref z13) (C := RY) (T := TY) (N := 13) hx hb hty inY hown hK hP 0 rfl rfl 7 (by decide) (hty _ yf_32) (fun _ h9 => h9) rfl dY_init_222 ?_
  refine lv_bipush (v := 8) hx hb dY_init_225 (by decide) ?_
  refine lv_iconst (v := 1) hx hb dY_init_227 (by decide) ?_
  refine va_iast (f := (upd (upd (upd (upd (upd (upd (upd (upd (fun _ => 0) 0 27) 1 45) 2 111) 3 129) 4 259) 5 259) 6 1) 7 1)) hx hb hK hP hD hS 7 6 rfl rfl (by unfold vp_in; decide) dY_init_228 (fun H locs hP hD hS => ?_)
  have hP : va_P D vwCl (yW (h0, z1, z3, z5, z7, z9, z11, z13, z15, z17, cA2, cA4, cA6, cA8, cA10, cA12, cA14, cA16, cA18) ((upd (upd (fun _ => 0) 1 4) 2 5), (upd (upd (fun _ => 0) 1 2) 2 9), (fun _ => 0), 2, (fun _ => 0), (fun _ => 0), (fun _ => 0), (upd (upd (upd (upd (upd (upd (upd (upd (upd (fun _ => 0) 0 27) 1 45) 2 111) 3 129) 4 259) 5 259) 6 1) 7 1) 8 1), (fun _ => 0), 0, 0, (fun _ => 0), 0)) H := hP
  have hD : va_D A (yW (h0, z1, z3, z5, z7, z9, z11, z13, z15, z17, cA2, cA4, cA6, cA8, cA10, cA12, cA14, cA16, cA18) ((upd (upd (fun _ => 0) 1 4) 2 5), (upd (upd (fun _ => 0) 1 2) 2 9), (fun _ => 0), 2, (fun _ => 0), (fun _ => 0), (fun _ => 0), (upd (upd (upd (upd (upd (upd (upd (upd (upd (fun _ => 0) 0 27) 1 45) 2 111) 3 129) 4 259) 5 259) 6 1) 7 1) 8 1), (fun _ => 0), 0, 0, (fun _ => 0), 0)) := hD
  refine lv_aload_n hx hb dY_init_229 rfl (lv_at hl 0 rfl) ?_
  refine va_get (D := D) (ci := 2) (v := .ref z13) (C := RY) (T := TY) (N := 13) hx hb hty inY hown hK hP 0 rfl rfl 7 (by decide) (hty _ yf_32) (fun _ h9 => h9) rfl dY_init_230 ?_
  refine lv_bipush (v := 9) hx hb dY_init_233 (by decide) ?_
  refine lv_aload_n hx hb dY_init_235 rfl (lv_at hl 0 rfl) ?_
  refine va_get (D := D) (ci := 2) (v := .ref z13) (C := RY) (T := TY) (N := 13) hx hb hty inY hown hK hP 0 rfl rfl 7 (by decide) (hty _ yf_32) (fun _ h9 => h9) rfl dY_init_236 ?_
  refine lv_iconst (v := 1) hx hb dY_init_239 (by decide) ?_
  refine va_iald (f := (upd (upd (upd (upd (upd (upd (upd (upd (upd (fun _ => 0) 0 27) 1 45) 2 111) 3 129) 4 259) 5 259) 6 1) 7 1) 8 1)) hx hb hK hP 7 6 rfl rfl (by unfold vp_in; decide) dY_init_240 ?_
  refine lv_topi (fun x33 ex33 => ?_)
  obtain rfl : x33 = 45 := ex33
  refine va_iast (f := (upd (upd (upd (upd (upd (upd (upd (upd (upd (fun _ => 0) 0 27) 1 45) 2 111) 3 129) 4 259) 5 259) 6 1) 7 1) 8 1)) hx hb hK hP hD hS 7 6 rfl rfl (by unfold vp_in; decide) dY_init_241 (fun H locs hP hD hS => ?_)
  have hP : va_P D vwCl (yW (h0, z1, z3, z5, z7, z9, z11, z13, z15, z17, cA2, cA4, cA6, cA8, cA10, cA12, cA14, cA16, cA18) ((upd (upd (fun _ => 0) 1 4) 2 5), (upd (upd (fun _ => 0) 1 2) 2 9), (fun _ => 0), 2, (fun _ => 0), (fun _ => 0), (fun _ => 0), (upd (upd (upd (upd (upd (upd (upd (upd (upd (upd (fun _ => 0) 0 27) 1 45) 2 111) 3 129) 4 259) 5 259) 6 1) 7 1) 8 1) 9 45), (fun _ => 0), 0, 0, (fun _ => 0), 0)) H := hP
  have hD : va_D A (yW (h0, z1, z3, z5, z7, z9, z11, z13, z15, z17, cA2, cA4, cA6, cA8, cA10, cA12, cA14, cA16, cA18) ((upd (upd (fun _ => 0) 1 4) 2 5), (upd (upd (fun _ => 0) 1 2) 2 9), (fun _ => 0), 2, (fun _ => 0), (fun _ => 0), (fun _ => 0), (upd (upd (upd (upd (upd (upd (upd (upd (upd (upd (fun _ => 0) 0 27) 1 45) 2 111) 3 129) 4 259) 5 259) 6 1) 7 1) 8 1) 9 45), (fun _ => 0), 0, 0, (fun _ => 0), 0)) := hD
  refine lv_iconst (v := 0) hx hb dY_init_242 (by decide) ?_
  refine lv_istore_n (lv' := [(1, .int 0), (0, .ref h0)]) hx hb dY_init_243 rfl hl (by decide) rfl (fun ls hl => ?_)
  refine lv_iload_n hx hb dY_init_244 rfl (lv_at hl 0 rfl) ?_
  refine lv_bipush (v := 9) hx hb dY_init_245 (by decide) ?_
  refine lv_icmp_ge (tgt := 263) hx hb dY_init_247 (by decide) (fun cz => absurd cz (by decide)) (fun _ => ?_)
  refine lv_aload_n hx hb dY_init_250 rfl (lv_at hl 1 rfl) ?_
  refine va_get (D := D) (ci := 2) (v := .ref z15) (C := RY) (T := TY) (N := 13) hx hb hty inY hown hK hP 0 rfl rfl 8 (by decide) (hty _ yf_35) (fun _ h9 => h9) rfl dY_init_251 ?_
  refine lv_iload_n hx hb dY_init_254 rfl (lv_at hl 0 rfl) ?_
  refine lv_iconst (v := 3) hx hb dY_init_255 (by decide) ?_
  refine va_iast (f := (fun _ => 0)) hx hb hK hP hD hS 8 7 rfl rfl (by unfold vp_in; decide) dY_init_256 (fun H locs hP hD hS => ?_)
  have hP : va_P D vwCl (yW (h0, z1, z3, z5, z7, z9, z11, z13, z15, z17, cA2, cA4, cA6, cA8, cA10, cA12, cA14, cA16, cA18) ((upd (upd (fun _ => 0) 1 4) 2 5), (upd (upd (fun _ => 0) 1 2) 2 9), (fun _ => 0), 2, (fun _ => 0), (fun _ => 0), (fun _ => 0), (upd (upd (upd (upd (upd (upd (upd (upd (upd (upd (fun _ => 0) 0 27) 1 45) 2 111) 3 129) 4 259) 5 259) 6 1) 7 1) 8 1) 9 45), (upd (fun _ => 0) 0 3), 0, 0, (fun _ => 0), 0)) H := hP
  have hD : va_D A (yW (h0, z1, z3, z5, z7, z9, z11, z13, z15, z17, cA2, cA4, cA6, cA8, cA10, cA12, cA14, cA16, cA18) ((upd (upd (fun _ => 0) 1 4) 2 5), (upd (upd (fun _ => 0) 1 2) 2 9), (fun _ => 0), 2, (fun _ => 0), (fun _ => 0), (fun _ => 0), (upd (upd (upd (upd (upd (upd (upd (upd (upd (upd (fun _ => 0) 0 27) 1 45) 2 111) 3 129) 4 259) 5 259) 6 1) 7 1) 8 1) 9 45), (upd (fun _ => 0) 0 3), 0, 0, (fun _ => 0), 0)) := hD
  refine lv_iinc (v := 1) (lv' := [(1, .int 1), (0, .ref h0)]) hx hb dY_init_257 hl (k := 0) rfl (by decide) (by decide) rfl (fun ls hl => ?_)
  refine lv_goto (tgt := 244) hx hb dY_init_260 (by decide) ?_
  refine lv_iload_n hx hb dY_init_244 rfl (lv_at hl 0 rfl) ?_
  refine lv_bipush (v := 9) hx hb dY_init_245 (by decide) ?_
  refine lv_icmp_ge (tgt := 263) hx hb dY_init_247 (by decide) (fun cz => absurd cz (by decide)) (fun _ => ?_)
  refine lv_aload_n hx hb dY_init_250 rfl (lv_at hl 1 rfl) ?_
  refine va_get (D := D) (ci := 2) (v := .ref z15) (C := RY) (T := TY) (N := 13) hx hb hty inY hown hK hP 0 rfl rfl 8 (by decide) (hty _ yf_35) (fun _ h9 => h9) rfl dY_init_251 ?_
  refine lv_iload_n hx hb dY_init_254 rfl (lv_at hl 0 rfl) ?_
  refine lv_iconst (v := 3) hx hb dY_init_255 (by decide) ?_
  refine va_iast (f := (upd (fun _ => 0) 0 3)) hx hb hK hP hD hS 8 7 rfl rfl (by unfold vp_in; decide) dY_init_256 (fun H locs hP hD hS => ?_)
  have hP : va_P D vwCl (yW (h0, z1, z3, z5, z7, z9, z11, z13, z15, z17, cA2, cA4, cA6, cA8, cA10, cA12, cA14, cA16, cA18) ((upd (upd (fun _ => 0) 1 4) 2 5), (upd (upd (fun _ => 0) 1 2) 2 9), (fun _ => 0), 2, (fun _ => 0), (fun _ => 0), (fun _ => 0), (upd (upd (upd (upd (upd (upd (upd (upd (upd (upd (fun _ => 0) 0 27) 1 45) 2 111) 3 129) 4 259) 5 259) 6 1) 7 1) 8 1) 9 45), (upd (upd (fun _ => 0) 0 3) 1 3), 0, 0, (fun _ => 0), 0)) H := hP
  have hD : va_D A (yW (h0, z1, z3, z5, z7, z9, z11, z13, z15, z17, cA2, cA4, cA6, cA8, cA10, cA12, cA14, cA16, cA18) ((upd (upd (fun _ => 0) 1 4) 2 5), (upd (upd (fun _ => 0) 1 2) 2 9), (fun _ => 0), 2, (fun _ => 0), (fun _ => 0), (fun _ => 0), (upd (upd (upd (upd (upd (upd (upd (upd (upd (upd (fun _ => 0) 0 27) 1 45) 2 111) 3 129) 4 259) 5 259) 6 1) 7 1) 8 1) 9 45), (upd (upd (fun _ => 0) 0 3) 1 3), 0, 0, (fun _ => 0), 0)) := hD
  refine lv_iinc (v := 2) (lv' := [(1, .int 2), (0, .ref h0)]) hx hb dY_init_257 hl (k := 0) rfl (by decide) (by decide) rfl (fun ls hl => ?_)
  refine lv_goto (tgt := 244) hx hb dY_init_260 (by decide) ?_
  refine lv_iload_n hx hb dY_init_244 rfl (lv_at hl 0 rfl) ?_
  refine lv_bipush (v := 9) hx hb dY_init_245 (by decide) ?_
  refine lv_icmp_ge (tgt := 263) hx hb dY_init_247 (by decide) (fun cz => absurd cz (by decide)) (fun _ => ?_)
  refine lv_aload_n hx hb dY_init_250 rfl (lv_at hl 1 rfl) ?_
  refine va_get (D := D) (ci := 2) (v := .ref z15) (C := RY) (T := TY) (N := 13) hx hb hty inY hown hK hP 0 rfl rfl 8 (by decide) (hty _ yf_35) (fun _ h9 => h9) rfl dY_init_251 ?_
  refine lv_iload_n hx hb dY_init_254 rfl (lv_at hl 0 rfl) ?_
  refine lv_iconst (v := 3) hx hb dY_init_255 (by decide) ?_
  refine va_iast (f := (upd (upd (fun _ => 0) 0 3) 1 3)) hx hb hK hP hD hS 8 7 rfl rfl (by unfold vp_in; decide) dY_init_256 (fun H locs hP hD hS => ?_)
  have hP : va_P D vwCl (yW (h0, z1, z3, z5, z7, z9, z11, z13, z15, z17, cA2, cA4, cA6, cA8, cA10, cA12, cA14, cA16, cA18) ((upd (upd (fun _ => 0) 1 4) 2 5), (upd (upd (fun _ => 0) 1 2) 2 9), (fun _ => 0), 2, (fun _ => 0), (fun _ => 0), (fun _ => 0), (upd (upd (upd (upd (upd (upd (upd (upd (upd (upd (fun _ => 0) 0 27) 1 45) 2 111) 3 129) 4 259) 5 259) 6 1) 7 1) 8 1) 9 45), (upd (upd (upd (fun _ => 0) 0 3) 1 3) 2 3), 0, 0, (fun _ => 0), 0)) H := hP
  have hD : va_D A (yW (h0, z1, z3, z5, z7, z9, z11, z13, z15, z17, cA2, cA4, cA6, cA8, cA10, cA12, cA14, cA16, cA18) ((upd (upd (fun _ => 0) 1 4) 2 5), (upd (upd (fun _ => 0) 1 2) 2 9), (fun _ => 0), 2, (fun _ => 0), (fun _ => 0), (fun _ => 0), (upd (upd (upd (upd (upd (upd (upd (upd (upd (upd (fun _ => 0) 0 27) 1 45) 2 111) 3 129) 4 259) 5 259) 6 1) 7 1) 8 1) 9 45), (upd (upd (upd (fun _ => 0) 0 3) 1 3) 2 3), 0, 0, (fun _ => 0), 0)) := hD
  refine lv_iinc (v := 3) (lv' := [(1, .int 3), (0, .ref h0)]) hx hb dY_init_257 hl (k := 0) rfl (by decide) (by decide) rfl (fun ls hl => ?_)
  refine lv_goto (tgt := 244) hx hb dY_init_260 (by decide) ?_
  refine lv_iload_n hx hb dY_init_244 rfl (lv_at hl 0 rfl) ?_
  refine lv_bipush (v := 9) hx hb dY_init_245 (by decide) ?_
  refine lv_icmp_ge (tgt := 263) hx hb dY_init_247 (by decide) (fun cz => absurd cz (by decide)) (fun _ => ?_)
  refine lv_aload_n hx hb dY_init_250 rfl (lv_at hl 1 rfl) ?_
  refine va_get (D := D) (ci := 2) (v := .ref z15) (C := RY) (T := TY) (N := 13) hx hb hty inY hown hK hP 0 rfl rfl 8 (by decide) (hty _ yf_35) (fun _ h9 => h9) rfl dY_init_251 ?_
  refine lv_iload_n hx hb dY_init_254 rfl (lv_at hl 0 rfl) ?_
  refine lv_iconst (v := 3) hx hb dY_init_255 (by decide) ?_
  refine va_iast (f := (upd (upd (upd (fun _ => 0) 0 3) 1 3) 2 3)) hx hb hK hP hD hS 8 7 rfl rfl (by unfold vp_in; decide) dY_init_256 (fun H locs hP hD hS => ?_)
  have hP : va_P D vwCl (yW (h0, z1, z3, z5, z7, z9, z11, z13, z15, z17, cA2, cA4, cA6, cA8, cA10, cA12, cA14, cA16, cA18) ((upd (upd (fun _ => 0) 1 4) 2 5), (upd (upd (fun _ => 0) 1 2) 2 9), (fun _ => 0), 2, (fun _ => 0), (fun _ => 0), (fun _ => 0), (upd (upd (upd (upd (upd (upd (upd (upd (upd (upd (fun _ => 0) 0 27) 1 45) 2 111) 3 129) 4 259) 5 259) 6 1) 7 1) 8 1) 9 45), (upd (upd (upd (upd (fun _ => 0) 0 3) 1 3) 2 3) 3 3), 0, 0, (fun _ => 0), 0)) H := hP
  have hD : va_D A (yW (h0, z1, z3, z5, z7, z9, z11, z13, z15, z17, cA2, cA4, cA6, cA8, cA10, cA12, cA14, cA16, cA18) ((upd (upd (fun _ => 0) 1 4) 2 5), (upd (upd (fun _ => 0) 1 2) 2 9), (fun _ => 0), 2, (fun _ => 0), (fun _ => 0), (fun _ => 0), (upd (upd (upd (upd (upd (upd (upd (upd (upd (upd (fun _ => 0) 0 27) 1 45) 2 111) 3 129) 4 259) 5 259) 6 1) 7 1) 8 1) 9 45), (upd (upd (upd (upd (fun _ => 0) 0 3) 1 3) 2 3) 3 3), 0, 0, (fun _ => 0), 0)) := hD
  refine lv_iinc (v := 4) (lv' := [(1, .int 4), (0, .ref h0)]) hx hb dY_init_257 hl (k := 0) rfl (by decide) (by decide) rfl (fun ls hl => ?_)
  refine lv_goto (tgt := 244) hx hb dY_init_260 (by decide) ?_
  refine lv_iload_n hx hb dY_init_244 rfl (lv_at hl 0 rfl) ?_
  refine lv_bipush (v := 9) hx hb dY_init_245 (by decide) ?_
  refine lv_icmp_ge (tgt := 263) hx hb dY_init_247 (by decide) (fun cz => absurd cz (by decide)) (fun _ => ?_)
  refine lv_aload_n hx hb dY_init_250 rfl (lv_at hl 1 rfl) ?_
  refine va_get (D := D) (ci := 2) (v := .ref z15) (C := RY) (T := TY) (N := 13) hx hb hty inY hown hK hP 0 rfl rfl 8 (by decide) (hty _ yf_35) (fun _ h9 => h9) rfl dY_init_251 ?_
  refine lv_iload_n hx hb dY_init_254 rfl (lv_at hl 0 rfl) ?_
  refine lv_iconst (v := 3) hx hb dY_init_255 (by decide) ?_
  refine va_iast (f := (upd (upd (upd (upd (fun _ => 0) 0 3) 1 3) 2 3) 3 3)) hx hb hK hP hD hS 8 7 rfl rfl (by unfold vp_in; decide) dY_init_256 (fun H locs hP hD hS => ?_)
  have hP : va_P D vwCl (yW (h0, z1, z3, z5, z7, z9, z11, z13, z15, z17, cA2, cA4, cA6, cA8, cA10, cA12, cA14, cA16, cA18) ((upd (upd (fun _ => 0) 1 4) 2 5), (upd (upd (fun _ => 0) 1 2) 2 9), (fun _ => 0), 2, (fun _ => 0), (fun _ => 0), (fun _ => 0), (upd (upd (upd (upd (upd (upd (upd (upd (upd (upd (fun _ => 0) 0 27) 1 45) 2 111) 3 129) 4 259) 5 259) 6 1) 7 1) 8 1) 9 45), (upd (upd (upd (upd (upd (fun _ => 0) 0 3) 1 3) 2 3) 3 3) 4 3), 0, 0, (fun _ => 0), 0)) H := hP
  have hD : va_D A (yW (h0, z1, z3, z5, z7, z9, z11, z13, z15, z17, cA2, cA4, cA6, cA8, cA10, cA12, cA14, cA16, cA18) ((upd (upd (fun _ => 0) 1 4) 2 5), (upd (upd (fun _ => 0) 1 2) 2 9), (fun _ => 0), 2, (fun _ => 0), (fun _ => 0), (fun _ => 0), (upd (upd (upd (upd (upd (upd (upd (upd (upd (upd (fun _ => 0) 0 27) 1 45) 2 111) 3 129) 4 259) 5 259) 6 1) 7 1) 8 1) 9 45), (upd (upd (upd (upd (upd (fun _ => 0) 0 3) 1 3) 2 3) 3 3) 4 3), 0, 0, (fun _ => 0), 0)) := hD
  refine lv_iinc (v := 5) (lv' := [(1, .int 5), (0, .ref h0)]) hx hb dY_init_257 hl (k := 0) rfl (by decide) (by decide) rfl (fun ls hl => ?_)
  refine lv_goto (tgt := 244) hx hb dY_init_260 (by decide) ?_
  refine lv_iload_n hx hb dY_init_244 rfl (lv_at hl 0 rfl) ?_
  refine lv_bipush (v := 9) hx hb dY_init_245 (by decide) ?_
  refine lv_icmp_ge (tgt := 263) hx hb dY_init_247 (by decide) (fun cz => absurd cz (by decide)) (fun _ => ?_)
  refine lv_aload_n hx hb dY_init_250 rfl (lv_at hl 1 rfl) ?_
  refine va_get (D := D) (ci := 2) (v := .ref z15) (C := RY) (T := TY) (N := 13) hx hb hty inY hown hK hP 0 rfl rfl 8 (by decide) (hty _ yf_35) (fun _ h9 => h9) rfl dY_init_251 ?_
  refine lv_iload_n hx hb dY_init_254 rfl (lv_at hl 0 rfl) ?_
  refine lv_iconst (v := 3) hx hb dY_init_255 (by decide) ?_
  refine va_iast (f := (upd (upd (upd (upd (upd (fun _ => 0) 0 3) 1 3) 2 3) 3 3) 4 3)) hx hb hK hP hD hS 8 7 rfl rfl (by unfold vp_in; decide) dY_init_256 (fun H locs hP hD hS => ?_)
  have hP : va_P D vwCl (yW (h0, z1, z3, z5, z7, z9, z11, z13, z15, z17, cA2, cA4, cA6, cA8, cA10, cA12, cA14, cA16, cA18) ((upd (upd (fun _ => 0) 1 4) 2 5), (upd (upd (fun _ => 0) 1 2) 2 9), (fun _ => 0), 2, (fun _ => 0), (fun _ => 0), (fun _ => 0), (upd (upd (upd (upd (upd (upd (upd (upd (upd (upd (fun _ => 0) 0 27) 1 45) 2 111) 3 129) 4 259) 5 259) 6 1) 7 1) 8 1) 9 45), (upd (upd (upd (upd (upd (upd (fun _ => 0) 0 3) 1 3) 2 3) 3 3) 4 3) 5 3), 0, 0, (fun _ => 0), 0)) H := hP
  have hD : va_D A (yW (h0, z1, z3, z5, z7, z9, z11, z13, z15, z17, cA2, cA4, cA6, cA8, cA10, cA12, cA14, cA16, cA18) ((upd (upd (fun _ => 0) 1 4) 2 5), (upd (upd (fun _ => 0) 1 2) 2 9), (fun _ => 0), 2, (fun _ => 0), (fun _ => 0), (fun _ => 0), (upd (upd (upd (upd (upd (upd (upd (upd (upd (upd (fun _ => 0) 0 27) 1 45) 2 111) 3 129) 4 259) 5 259) 6 1) 7 1) 8 1) 9 45), (upd (upd (upd (upd (upd (upd (fun _ => 0) 0 3) 1 3) 2 3) 3 3) 4 3) 5 3), 0, 0, (fun _ => 0), 0)) := hD
  refine lv_iinc (v := 6) (lv' := [(1, .int 6), (0, .ref h0)]) hx hb dY_init_257 hl (k := 0) rfl (by decide) (by decide) rfl (fun ls hl => ?_)
  refine lv_goto (tgt := 244) hx hb dY_init_260 (by decide) ?_
  refine lv_iload_n hx hb dY_init_244 rfl (lv_at hl 0 rfl) ?_
  refine lv_bipush (v := 9) hx hb dY_init_245 (by decide) ?_
  refine lv_icmp_ge (tgt := 263) hx hb dY_init_247 (by decide) (fun cz => absurd cz (by decide)) (fun _ => ?_)
  refine lv_aload_n hx hb dY_init_250 rfl (lv_at hl 1 rfl) ?_
  refine va_get (D := D) (ci := 2) (v := .ref z15) (C := RY) (T := TY) (N := 13) hx hb hty inY hown hK hP 0 rfl rfl 8 (by decide) (hty _ yf_35) (fun _ h9 => h9) rfl dY_init_251 ?_
  refine lv_iload_n hx hb dY_init_254 rfl (lv_at hl 0 rfl) ?_
  refine lv_iconst (v := 3) hx hb dY_init_255 (by decide) ?_
  refine va_iast (f := (upd (upd (upd (upd (upd (upd (fun _ => 0) 0 3) 1 3) 2 3) 3 3) 4 3) 5 3)) hx hb hK hP hD hS 8 7 rfl rfl (by unfold vp_in; decide) dY_init_256 (fun H locs hP hD hS => ?_)
  have hP : va_P D vwCl (yW (h0, z1, z3, z5, z7, z9, z11, z13, z15, z17, cA2, cA4, cA6, cA8, cA10, cA12, cA14, cA16, cA18) ((upd (upd (fun _ => 0) 1 4) 2 5), (upd (upd (fun _ => 0) 1 2) 2 9), (fun _ => 0), 2, (fun _ => 0), (fun _ => 0), (fun _ => 0), (upd (upd (upd (upd (upd (upd (upd (upd (upd (upd (fun _ => 0) 0 27) 1 45) 2 111) 3 129) 4 259) 5 259) 6 1) 7 1) 8 1) 9 45), (upd (upd (upd (upd (upd (upd (upd (fun _ => 0) 0 3) 1 3) 2 3) 3 3) 4 3) 5 3) 6 3), 0, 0, (fun _ => 0), 0)) H := hP
  have hD : va_D A (yW (h0, z1, z3, z5, z7, z9, z11, z13, z15, z17, cA2, cA4, cA6, cA8, cA10, cA12, cA14, cA16, cA18) ((upd (upd (fun _ => 0) 1 4) 2 5), (upd (upd (fun _ => 0) 1 2) 2 9), (fun _ => 0), 2, (fun _ => 0), (fun _ => 0), (fun _ => 0), (upd (upd (upd (upd (upd (upd (upd (upd (upd (upd (fun _ => 0) 0 27) 1 45) 2 111) 3 129) 4 259) 5 259) 6 1) 7 1) 8 1) 9 45), (upd (upd (upd (upd (upd (upd (upd (fun _ => 0) 0 3) 1 3) 2 3) 3 3) 4 3) 5 3) 6 3), 0, 0, (fun _ => 0), 0)) := hD
  refine lv_iinc (v := 7) (lv' := [(1, .int 7), (0, .ref h0)]) hx hb dY_init_257 hl (k := 0) rfl (by decide) (by decide) rfl (fun ls hl => ?_)
  refine lv_goto (tgt := 244) hx hb dY_init_260 (by decide) ?_
  refine lv_iload_n hx hb dY_init_244 rfl (lv_at hl 0 rfl) ?_
  refine lv_bipush (v := 9) hx hb dY_init_245 (by decide) ?_
  refine lv_icmp_ge (tgt := 263) hx hb dY_init_247 (by decide) (fun cz => absurd cz (by decide)) (fun _ => ?_)
  refine lv_aload_n hx hb dY_init_250 rfl (lv_at hl 1 rfl) ?_
  refine va_get (D := D) (ci := 2) (v := .ref z15) (C := RY) (T := TY) (N := 13) hx hb hty inY hown hK hP 0 rfl rfl 8 (by decide) (hty _ yf_35) (fun _ h9 => h9) rfl dY_init_251 ?_
  refine lv_iload_n hx hb dY_init_254 rfl (lv_at hl 0 rfl) ?_
  refine lv_iconst (v := 3) hx hb dY_init_255 (by decide) ?_
  refine va_iast (f := (upd (upd (upd (upd (upd (upd (upd (fun _ => 0) 0 3) 1 3) 2 3) 3 3) 4 3) 5 3) 6 3)) hx hb hK hP hD hS 8 7 rfl rfl (by unfold vp_in; decide) dY_init_256 (fun H locs hP hD hS => ?_)
  have hP : va_P D vwCl (yW (h0, z1, z3, z5, z7, z9, z11, z13, z15, z17, cA2, cA4, cA6, cA8, cA10, cA12, cA14, cA16, cA18) ((upd (upd (fun _ => 0) 1 4) 2 5), (upd (upd (fun _ => 0) 1 2) 2 9), (fun _ => 0), 2, (fun _ => 0), (fun _ => 0), (fun _ => 0), (upd (upd (upd (upd (upd (upd (upd (upd (upd (upd (fun _ => 0) 0 27) 1 45) 2 111) 3 129) 4 259) 5 259) 6 1) 7 1) 8 1) 9 45), (upd (upd (upd (upd (upd (upd (upd (upd (fun _ => 0) 0 3) 1 3) 2 3) 3 3) 4 3) 5 3) 6 3) 7 3), 0, 0, (fun _ => 0), 0)) H := hP
  have hD : va_D A (yW (h0, z1, z3, z5, z7, z9, z11, z13, z15, z17, cA2, cA4, cA6, cA8, cA10, cA12, cA14, cA16, cA18) ((upd (upd (fun _ => 0) 1 4) 2 5), (upd (upd (fun _ => 0) 1 2) 2 9), (fun _ => 0), 2, (fun _ => 0), (fun _ => 0), (fun _ => 0), (upd (upd (upd (upd (upd (upd (upd (upd (upd (upd (fun _ => 0) 0 27) 1 45) 2 111) 3 129) 4 259) 5 259) 6 1) 7 1) 8 1) 9 45), (upd (upd (upd (upd (upd (upd (upd (upd (fun _ => 0) 0 3) 1 3) 2 3) 3 3) 4 3) 5 3) 6 3) 7 3), 0, 0, (fun _ => 0), 0)) := hD
  refine lv_iinc (v := 8) (lv' := [(1, .int 8), (0, .ref h0)]) hx hb dY_init_257 hl (k := 0) rfl (by decide) (by decide) rfl (fun ls hl => ?_)
  refine lv_goto (tgt := 244) hx hb dY_init_260 (by decide) ?_
  refine lv_iload_n hx hb dY_init_244 rfl (lv_at hl 0 rfl) ?_
  refine lv_bipush (v := 9) hx hb dY_init_245 (by decide) ?_
  refine lv_icmp_ge (tgt := 263) hx hb dY_init_247 (by decide) (fun cz => absurd cz (by decide)) (fun _ => ?_)
  refine lv_aload_n hx hb dY_init_250 rfl (lv_at hl 1 rfl) ?_
  refine va_get (D := D) (ci := 2) (v := .ref z15) (C := RY) (T := TY) (N := 13) hx hb hty inY hown hK hP 0 rfl rfl 8 (by decide) (hty _ yf_35) (fun _ h9 => h9) rfl dY_init_251 ?_
  refine lv_iload_n hx hb dY_init_254 rfl (lv_at hl 0 rfl) ?_
  refine lv_iconst (v := 3) hx hb dY_init_255 (by decide) ?_
  refine va_iast (f := (upd (upd (upd (upd (upd (upd (upd (upd (fun _ => 0) 0 3) 1 3) 2 3) 3 3) 4 3) 5 3) 6 3) 7 3)) hx hb hK hP hD hS 8 7 rfl rfl (by unfold vp_in; decide) dY_init_256 (fun H locs hP hD hS => ?_)
  have hP : va_P D vwCl (yW (h0, z1, z3, z5, z7, z9, z11, z13, z15, z17, cA2, cA4, cA6, cA8, cA10, cA12, cA14, cA16, cA18) ((upd (upd (fun _ => 0) 1 4) 2 5), (upd (upd (fun _ => 0) 1 2) 2 9), (fun _ => 0), 2, (fun _ => 0), (fun _ => 0), (fun _ => 0), (upd (upd (upd (upd (upd (upd (upd (upd (upd (upd (fun _ => 0) 0 27) 1 45) 2 111) 3 129) 4 259) 5 259) 6 1) 7 1) 8 1) 9 45), (upd (upd (upd (upd (upd (upd (upd (upd (upd (fun _ => 0) 0 3) 1 3) 2 3) 3 3) 4 3) 5 3) 6 3) 7 3) 8 3), 0, 0, (fun _ => 0), 0)) H := hP
  have hD : va_D A (yW (h0, z1, z3, z5, z7, z9, z11, z13, z15, z17, cA2, cA4, cA6, cA8, cA10, cA12, cA14, cA16, cA18) ((upd (upd (fun _ => 0) 1 4) 2 5), (upd (upd (fun _ => 0) 1 2) 2 9), (fun _ => 0), 2, (fun _ => 0), (fun _ => 0), (fun _ => 0), (upd (upd (upd (upd (upd (upd (upd (upd (upd (upd (fun _ => 0) 0 27) 1 45) 2 111) 3 129) 4 259) 5 259) 6 1) 7 1) 8 1) 9 45), (upd (upd (upd (upd (upd (upd (upd (upd (upd (fun _ => 0) 0 3) 1 3) 2 3) 3 3) 4 3) 5 3) 6 3) 7 3) 8 3), 0, 0, (fun _ => 0), 0)) := hD
  refine lv_iinc (v := 9) (lv' := [(1, .int 9), (0, .ref h0)]) hx hb dY_init_257 hl (k := 0) rfl (by decide) (by decide) rfl (fun ls hl => ?_)
  refine lv_goto (tgt := 244) hx hb dY_init_260 (by decide) ?_
  refine lv_iload_n hx hb dY_init_244 rfl (lv_at hl 0 rfl) ?_
  refine lv_bipush (v := 9) hx hb dY_init_245 (by decide) ?_
  refine lv_icmp_ge (tgt := 263) hx hb dY_init_247 (by decide) (fun _ => ?_) (fun cz => absurd cz (by decide))
  refine lv_aload_n hx hb dY_init_263 rfl (lv_at hl 1 rfl) ?_
  refine va_get (D := D) (ci := 2) (v := .ref z15) (C := RY) (T := TY) (N := 13) hx hb hty inY hown hK hP 0 rfl rfl 8 (by decide) (hty _ yf_35) (fun _ h9 => h9) rfl dY_init_264 ?_
  refine lv_iconst (v := 0) hx hb dY_init_267 (by decide) ?_
  refine lv_dup2_11 hx hb dY_init_268 rfl rfl ?_
  refine va_iald (f := (upd (upd (upd (upd (upd (upd (upd (upd (upd (fun _ => 0) 0 3) 1 3) 2 3) 3 3) 4 3) 5 3) 6 3) 7 3) 8 3)) hx hb hK hP 8 7 rfl rfl (by unfold vp_in; decide) dY_init_269 ?_
  refine lv_topi (fun x34 ex34 => ?_)
  obtain rfl : x34 = 3 := ex34
  refine lv_sipush (v := 128) hx hb dY_init_270 (by decide) ?_
  refine lv_ior hx hb dY_init_273 ?_
  refine lv_topi (fun x35 ex35 => ?_)
  obtain rfl : x35 = 131 := ex35.trans (by decide +kernel)
  refine va_iast (f := (upd (upd (upd (upd (upd (upd (upd (upd (upd (fun _ => 0) 0 3) 1 3) 2 3) 3 3) 4 3) 5 3) 6 3) 7 3) 8 3)) hx hb hK hP hD hS 8 7 rfl rfl (by unfold vp_in; decide) dY_init_274 (fun H locs hP hD hS => ?_)
  have hP : va_P D vwCl (yW (h0, z1, z3, z5, z7, z9, z11, z13, z15, z17, cA2, cA4, cA6, cA8, cA10, cA12, cA14, cA16, cA18) ((upd (upd (fun _ => 0) 1 4) 2 5), (upd (upd (fun _ => 0) 1 2) 2 9), (fun _ => 0), 2, (fun _ => 0), (fun _ => 0), (fun _ => 0), (upd (upd (upd (upd (upd (upd (upd (upd (upd (upd (fun _ => 0) 0 27) 1 45) 2 111) 3 129) 4 259) 5 259) 6 1) 7 1) 8 1) 9 45), (upd (upd (upd (upd (upd (upd (upd (upd (upd (upd (fun _ => 0) 0 3) 1 3) 2 3) 3 3) 4 3) 5 3) 6 3) 7 3) 8 3) 0 131), 0, 0, (fun _ => 0), 0)) H := hP
  have hD : va_D A (yW (h0, z1, z3, z5, z7, z9, z11, z13, z15, z17, cA2, cA4, cA6, cA8, cA10, cA12, cA14, cA16, cA18) ((upd (upd (fun _ => 0) 1 4) 2 5), (upd (upd (fun _ => 0) 1 2) 2 9), (fun _ => 0), 2, (fun _ => 0), (fun _ => 0), (fun _ => 0), (upd (upd (upd (upd (upd (upd (upd (upd (upd (upd (fun _ => 0) 0 27) 1 45) 2 111) 3 129) 4 259) 5 259) 6 1) 7 1) 8 1) 9 45), (upd (upd (upd (upd (upd (upd (upd (upd (upd (upd (fun _ => 0) 0 3) 1 3) 2 3) 3 3) 4 3) 5 3) 6 3) 7 3) 8 3) 0 131), 0, 0, (fun _ => 0), 0)) := hD
  refine lv_aload_n hx hb dY_init_275 rfl (lv_at hl 1 rfl) ?_
  refine va_get (D := D) (ci := 2) (v := .ref z15) (C := RY) (T := TY) (N := 13) hx hb hty inY hown hK hP 0 rfl rfl 8 (by decide) (hty _ yf_35) (fun _ h9 => h9) rfl dY_init_276 ?_
  refine lv_iconst (v := 1) hx hb dY_init_279 (by decide) ?_
  refine lv_dup2_11 hx hb dY_init_280 rfl rfl ?_
  refine va_iald (f := (upd (upd (upd (upd (upd (upd (upd (upd (upd (upd (fun _ => 0) 0 3) 1 3) 2 3) 3 3) 4 3) 5 3) 6 3) 7 3) 8 3) 0 131)) hx hb hK hP 8 7 rfl rfl (by unfold vp_in; decide) dY_init_281 ?_
  refine lv_topi (fun x36 ex36 => ?_)
  obtain rfl : x36 = 3 := ex36
  refine lv_sipush (v := 132) hx hb dY_init_282 (by decide) ?_
  refine lv_ior hx hb dY_init_285 ?_
  refine lv_topi (fun x37 ex37 => ?_)
  obtain rfl : x37 = 135 := ex37.trans (by decide +kernel)
  refine va_iast (f := (upd (upd (upd (upd (upd (upd (upd (upd (upd (upd (fun _ => 0) 0 3) 1 3) 2 3) 3 3) 4 3) 5 3) 6 3) 7 3) 8 3) 0 131)) hx hb hK hP hD hS 8 7 rfl rfl (by unfold vp_in; decide) dY_init_286 (fun H locs hP hD hS => ?_)
  have hP : va_P D vwCl (yW (h0, z1, z3, z5, z7, z9, z11, z13, z15, z17, cA2, cA4, cA6, cA8, cA10, cA12, cA14, cA16, cA18) ((upd (upd (fun _ => 0) 1 4) 2 5), (upd (upd (fun _ => 0) 1 2) 2 9), (fun _ => 0), 2, (fun _ => 0), (fun _ => 0), (fun _ => 0), (upd (upd (upd (upd (upd (upd (upd (upd (upd (upd (fun _ => 0) 0 27) 1 45) 2 111) 3 129) 4 259) 5 259) 6 1) 7 1) 8 1) 9 45), (upd (upd (upd (upd (upd (upd (upd (upd (upd (upd (upd (fun _ => 0) 0 3) 1 3) 2 3) 3 3) 4 3) 5 3) 6 3) 7 3) 8 3) 0 131) 1 135), 0, 0, (fun _ => 0), 0)) H := hP
  have hD : va_D A (yW (h0, z1, z3, z5, z7, z9, z11, z13, z15, z17, cA2, cA4, cA6, cA8, cA10, cA12, cA14, cA16, cA18) ((upd (upd (fun _ => 0) 1 4) 2 5), (upd (upd (fun _ => 0) 1 2) 2 9), (fun _ => 0), 2, (fun _ => 0), (fun _ => 0), (fun _ => 0), (upd (upd (upd (upd (upd (upd (upd (upd (upd (upd (fun _ => 0) 0 27) 1 45) 2 111) 3 129) 4 259) 5 259) 6 1) 7 1) 8 1) 9 45), (upd (upd (upd (upd (upd (upd (upd (upd (upd (upd (upd (fun _ => 0) 0 3) 1 3) 2 3) 3 3) 4 3) 5 3) 6 3) 7 3) 8 3) 0 131) 1 135), 0, 0, (fun _ => 0), 0)) := hD
  refine lv_aload_n hx hb dY_init_287 rfl (lv_at hl 1 rfl) ?_
  refine va_get (D := D) (ci := 2) (v := .ref z15) (C := RY) (T := TY) (N := 13) hx hb hty inY hown hK hP 0 rfl rfl 8 (by decide) (hty _ yf_35) (fun _ h9 => h9) rfl dY_init_288 ?_
  refine lv_iconst (v := 2) hx hb dY_init_291 (by decide) ?_
  refine lv_dup2_11 hx hb dY_init_292 rfl rfl ?_
  refine va_iald (f := (upd (upd (upd (upd (upd (upd (upd (upd (upd (upd (upd (fun _ => 0) 0 3) 1 3) 2 3) 3 3) 4 3) 5 3) 6 3) 7 3) 8 3) 0 131) 1 135)) hx hb hK hP 8 7 rfl rfl (by unfold vp_in; decide) dY_init_293 ?_
  refine lv_topi (fun x38 ex38 => ?_)
  obtain rfl : x38 = 3 := ex38
  refine lv_sipush (v := 132) hx hb dY_init_294 (by decide) ?_
  refine lv_ior hx hb dY_init_297 ?_
  refine lv_topi (fun x39 ex39 => ?_)
  obtain rfl : x39 = 135 := ex39.trans (by decide +kernel)
  refine va_iast (f := (upd (upd (upd (upd (upd (upd (upd (upd (upd (upd (upd (fun _ => 0) 0 3) 1 3) 2 3) 3 3) 4 3) 5 3) 6 3) 7 3) 8 3) 0 131) 1 135)) hx hb hK hP hD hS 8 7 rfl rfl (by unfold vp_in; decide) dY_init_298 (fun H locs hP hD hS => ?_)
  have hP : va_P D vwCl (yW (h0, z1, z3, z5, z7, z9, z11, z13, z15, z17, cA2, cA4, cA6, cA8, cA10, cA12, cA14, cA16, cA18) ((upd (upd (fun _ => 0) 1 4) 2 5), (upd (upd (fun _ => 0) 1 2) 2 9), (fun _ => 0), 2, (fun _ => 0), (fun _ => 0), (fun _ => 0), (upd (upd (upd (upd (upd (upd (upd (upd (upd (upd (fun _ => 0) 0 27) 1 45) 2 111) 3 129) 4 259) 5 259) 6 1) 7 1) 8 1) 9 45), (upd (upd (upd (upd (upd (upd (upd (upd (upd (upd (upd (upd (fun _ => 0) 0 3) 1 3) 2 3) 3 3) 4 3) 5 3) 6 3) 7 3) 8 3) 0 131) 1 135) 2 135), 0, 0, (fun _ => 0), 0)) H := hP
  have hD : va_D A (yW (h0, z1, z3, z5, z7, z9, z11, z13, z15, z17, cA2, cA4, cA6, cA8, cA10, cA12, cA14, cA16, cA18) ((upd (upd (fun _ => 0) 1 4) 2 5), (upd (upd (fun _ => 0) 1 2) 2 9), (fun _ => 0), 2, (fun _ => 0), (fun _ => 0), (fun _ => 0), (upd (upd (upd (upd (upd (upd (upd (upd (upd (upd (fun _ => 0) 0 27) 1 45) 2 111) 3 129) 4 259) 5 259) 6 1) 7 1) 8 1) 9 45), (upd (upd (upd (upd (upd (upd (upd (upd (upd (upd (upd (upd (fun _ => 0) 0 3) 1 3) 2 3) 3 3) 4 3) 5 3) 6 3) 7 3) 8 3) 0 131) 1 135) 2 135), 0, 0, (fun _ => 0), 0)) := hD
  refine lv_aload_n hx hb dY_init_299 rfl (lv_at hl 1 rfl) ?_
  refine va_get (D := D) (ci := 2) (v := .ref z15) (C := RY) (T := TY) (N := 13) hx hb hty inY hown hK hP 0 rfl rfl 8 (by decide) (hty _ yf_35) (fun _ h9 => h9) rfl dY_init_300 ?_
  refine lv_bipush (v := 8) hx hb dY_init_303 (by decide) ?_
  refine lv_dup2_11 hx hb dY_init_305 rfl rfl ?_
  refine va_iald (f := (upd (upd (upd (upd (upd (upd (upd (upd (upd (upd (upd (upd (fun _ => 0) 0 3) 1 3) 2 3) 3 3) 4 3) 5 3) 6 3) 7 3) 8 3) 0 131) 1 135) 2 135)) hx hb hK hP 8 7 rfl rfl (by unfold vp_in; decide) dY_init_306 ?_
  refine lv_topi (fun x40 ex40 => ?_)
  obtain rfl : x40 = 3 := ex40
  refine lv_sipush (v := 132) hx hb dY_init_307 (by decide) ?_
  refine lv_ior hx hb dY_init_310 ?_
  refine lv_topi (fun x41 ex41 => ?_)
  obtain rfl : x41 = 135 := ex41.trans (by decide +kernel)
  refine va_iast (f := (upd (upd (upd (upd (upd (upd (upd (upd (upd (upd (upd (upd (fun _ => 0) 0 3) 1 3) 2 3) 3 3) 4 3) 5 3) 6 3) 7 3) 8 3) 0 131) 1 135) 2 135)) hx hb hK hP hD hS 8 7 rfl rfl (by unfold vp_in; decide) dY_init_311 (fun H locs hP hD hS => ?_)
  have hP : va_P D vwCl (yW (h0, z1, z3, z5, z7, z9, z11, z13, z15, z17, cA2, cA4, cA6, cA8, cA10, cA12, cA14, cA16, cA18) ((upd (upd (fun _ => 0) 1 4) 2 5), (upd (upd (fun _ => 0) 1 2) 2 9), (fun _ => 0), 2, (fun _ => 0), (fun _ => 0), (fun _ => 0), (upd (upd (upd (upd (upd (upd (upd (upd (upd (upd (fun _ => 0) 0 27) 1 45) 2 111) 3 129) 4 259) 5 259) 6 1) 7 1) 8 1) 9 45), (upd (upd (upd (upd (upd (upd (upd (upd (upd (upd (upd (upd (upd (fun _ => 0) 0 3) 1 3) 2 3) 3 3) 4 3) 5 3) 6 3) 7 3) 8 3) 0 131) 1 135) 2 135) 8 135), 0, 0, (fun _ => 0), 0)) H := hP
  have hD : va_D A (yW (h0, z1, z3, z5, z7, z9, z11, z13, z15, z17, cA2, cA4, cA6, cA8, cA10, cA12, cA14, cA16, cA18) ((upd (upd (fun _ => 0) 1 4) 2 5), (upd (upd (fun _ => 0) 1 2) 2 9), (fun _ => 0), 2, (fun _ => 0), (fun _ => 0), (fun _ => 0), (upd (upd (upd (upd (upd (upd (upd (upd (upd (upd (fun _ => 0) 0 27) 1 45) 2 111) 3 129) 4 259) 5 259) 6 1) 7 1) 8 1) 9 45), (upd (upd (upd (upd (upd (upd (upd (upd (upd (upd (upd (upd (upd (fun _ => 0) 0 3) 1 3) 2 3) 3 3) 4 3) 5 3) 6 3) 7 3) 8 3) 0 131) 1 135) 2 135) 8 135), 0, 0, (fun _ => 0), 0)) := hD
  refine lv_iconst (v := 3) hx hb dY_init_312 (by decide) ?_
  refine lv_istore_n (lv' := [(1, .int 3), (0, .ref h0)]) hx hb dY_init_313 rfl hl (by decide) rfl (fun ls hl => ?_)
  refine lv_iload_n hx hb dY_init_314 rfl (lv_at hl 0 rfl) ?_
  refine lv_bipush (v := 7) hx hb dY_init_315 (by decide) ?_
  refine lv_icmp_ge (tgt := 338) hx hb dY_init_317 (by decide) (fun cz => absurd cz (by decide)) (fun _ => ?_)
  refine lv_aload_n hx hb dY_init_320 rfl (lv_at hl 1 rfl) ?_
  refine va_get (D := D) (ci := 2) (v := .ref z15) (C := RY) (T := TY) (N := 13) hx hb hty inY hown hK hP 0 rfl rfl 8 (by decide) (hty _ yf_35) (fun _ h9 => h9) rfl dY_init_321 ?_
  refine lv_iload_n hx hb dY_init_324 rfl (lv_at hl 0 rfl) ?_
  refine lv_dup2_11 hx hb dY_init_325 rfl rfl ?_
  refine va_iald (f := (upd (upd (upd (upd (upd (upd (upd (upd (upd (upd (upd (upd (upd (fun _ => 0) 0 3) 1 3) 2 3) 3 3) 4 3) 5 3) 6 3) 7 3) 8 3) 0 131) 1 135) 2 135) 8 135)) hx hb hK hP 8 7 rfl rfl (by unfold vp_in; decide) dY_init_326 ?_
  refine lv_topi (fun x42 ex42 => ?_)
  obtain rfl : x42 = 3 := ex42
  refine lv_sipush (v := 888) hx hb dY_init_327 (by decide) ?_
  refine lv_ior hx hb dY_init_330 ?_
  refine lv_topi (fun x43 ex43 => ?_)
  obtain rfl : x43 = 891 := ex43.trans (by decide +kernel)
  refine va_iast (f := (upd (upd (upd (upd (upd (upd (upd (upd (upd (upd (upd (upd (upd (fun _ => 0) 0 3) 1 3) 2 3) 3 3) 4 3) 5 3) 6 3) 7 3) 8 3) 0 131) 1 135) 2 135) 8 135)) hx hb hK hP hD hS 8 7 rfl rfl (by unfold vp_in; decide) dY_init_331 (fun H locs hP hD hS => ?_)
  have hP : va_P D vwCl (yW (h0, z1, z3, z5, z7, z9, z11, z13, z15, z17, cA2, cA4, cA6, cA8, cA10, cA12, cA14, cA16, cA18) ((upd (upd (fun _ => 0) 1 4) 2 5), (upd (upd (fun _ => 0) 1 2) 2 9), (fun _ => 0), 2, (fun _ => 0), (fun _ => 0), (fun _ => 0), (upd (upd (upd (upd (upd (upd (upd (upd (upd (upd (fun _ => 0) 0 27) 1 45) 2 111) 3 129) 4 259) 5 259) 6 1) 7 1) 8 1) 9 45), (upd (upd (upd (upd (upd (upd (upd (upd (upd (upd (upd (upd (upd (upd (fun _ => 0) 0 3) 1 3) 2 3) 3 3) 4 3) 5 3) 6 3) 7 3) 8 3) 0 131) 1 135) 2 135) 8 135) 3 891), 0, 0, (fun _ => 0), 0)) H := hP
  have hD : va_D A (yW (h0, z1, z3, z5, z7, z9, z11, z13, z15, z17, cA2, cA4, cA6, cA8, cA10, cA12, cA14, cA16, cA18) ((upd (upd (fun _ => 0) 1 4) 2 5), (upd (upd (fun _ => 0) 1 2) 2 9), (fun _ => 0), 2, (fun _ => 0), (fun _ => 0), (fun _ => 0), (upd (upd (upd (upd (upd (upd (upd (upd (upd (upd (fun _ => 0) 0 27) 1 45) 2 111) 3 129) 4 259) 5 259) 6 1) 7 1) 8 1) 9 45), (upd (upd (upd (upd (upd (upd (upd (upd (upd (upd (upd (upd (upd (upd (fun _ => 0) 0 3) 1 3) 2 3) 3 3) 4 3) 5 3) 6 3) 7 3) 8 3) 0 131) 1 135) 2 135) 8 135) 3 891), 0, 0, (fun _ => 0), 0)) := hD
  refine lv_iinc (v := 4) (lv' := [(1, .int 4), (0, .ref h0)]) hx hb dY_init_332 hl (k := 0) rfl (by decide) (by decide) rfl (fun ls hl => ?_)
  refine lv_goto (tgt := 314) hx hb dY_init_335 (by decide) ?_
  refine lv_iload_n hx hb dY_init_314 rfl (lv_at hl 0 rfl) ?_
  refine lv_bipush (v := 7) hx hb dY_init_315 (by decide) ?_
  refine lv_icmp_ge (tgt := 338) hx hb dY_init_317 (by decide) (fun cz => absurd cz (by decide)) (fun _ => ?_)
  refine lv_aload_n hx hb dY_init_320 rfl (lv_at hl 1 rfl) ?_
  refine va_get (D := D) (ci := 2) (v := .ref z15) (C := RY) (T := TY) (N := 13) hx hb hty inY hown hK hP 0 rfl rfl 8 (by decide) (hty _ yf_35) (fun _ h9 => h9) rfl dY_init_321 ?_
  refine lv_iload_n hx hb dY_init_324 rfl (lv_at hl 0 rfl) ?_
  refine lv_dup2_11 hx hb dY_init_325 rfl rfl ?_
  refine va_iald (f := (upd (upd (upd (upd (upd (upd (upd (upd (upd (upd (upd (upd (upd (upd (fun _ => 0) 0 3) 1 3) 2 3) 3 3) 4 3) 5 3) 6 3) 7 3) 8 3) 0 131) 1 135) 2 135) 8 135) 3 891)) hx hb hK hP 8 7 rfl rfl (by unfold vp_in; decide) dY_init_326 ?_
  refine lv_topi (fun x44 ex44 => ?_)
  obtain rfl : x44 = 3 := ex44
  refine lv_sipush (v := 888) hx hb dY_init_327 (by decide) ?_
  refine lv_ior hx hb dY_init_330 ?_
  refine lv_topi (fun x45 ex45 => ?_)
  obtain rfl : x45 = 891 := ex45.trans (by decide +kernel)
  refine va_iast (f := (upd (upd (upd (upd (upd (upd (upd (upd (upd (upd (upd (upd (upd (upd (fun _ => 0) 0 3) 1 3) 2 3) 3 3) 4 3) 5 3) 6 3) 7 3) 8 3) 0 131) 1 135) 2 135) 8 135) 3 891)) hx hb hK hP hD hS 8 7 rfl rfl (by unfold vp_in; decide) dY_init_331 (fun H locs hP hD hS => ?_)
  have hP : va_P D vwCl (yW (h0, z1, z3, z5, z7, z9, z11, z13, z15, z17, cA2, cA4, cA6, cA8, cA10, cA12, cA14, cA16, cA18) ((upd (upd (fun _ => 0) 1 4) 2 5), (upd (upd (fun _ => 0) 1 2) 2 9), (fun _ => 0), 2, (fun _ => 0), (fun _ => 0), (fun _ => 0), (upd (upd (upd (upd (upd (upd (upd (upd (upd (upd (fun _ => 0) 0 27) 1 45) 2 111) 3 129) 4 259) 5 259) 6 1) 7 1) 8 1) 9 45), (upd (upd (upd (upd (upd (upd (upd (upd (upd (upd (upd (upd (upd (upd (upd (fun _ => 0) 0 3) 1 3) 2 3) 3 3) 4 3) 5 3) 6 3) 7 3) 8 3) 0 131) 1 135) 2 135) 8 135) 3 891) 4 891), 0, 0, (fun _ => 0), 0)) H := hP
  have hD : va_D A (yW (h0, z1, z3, z5, z7, z9, z11, z13, z15, z17, cA2, cA4, cA6, cA8, cA10, cA12, cA14, cA16, cA18) ((upd (upd (fun _ => 0) 1 4) 2 5), (upd (upd (fun _ => 0) 1 2) 2 9), (fun _ => 0), 2, (fun _ => 0), (fun _ => 0), (fun _ => 0), (upd (upd (upd (upd (upd (upd (upd (upd (upd (upd (fun _ => 0) 0 27) 1 45) 2 111) 3 129) 4 259) 5 259) 6 1) 7 1) 8 1) 9 45), (upd (upd (upd (upd (upd (upd (upd (upd (upd (upd (upd (upd (upd (upd (upd (fun _ => 0) 0 3) 1 3) 2 3) 3 3) 4 3) 5 3) 6 3) 7 3) 8 3) 0 131) 1 135) 2 135) 8 135) 3 891) 4 891), 0, 0, (fun _ => 0), 0)) := hD
  refine lv_iinc (v := 5) (lv' := [(1, .int 5), (0, .ref h0)]) hx hb dY_init_332 hl (k := 0) rfl (by decide) (by decide) rfl (fun ls hl => ?_)
  refine lv_goto (tgt := 314) hx hb dY_init_335 (by decide) ?_
  refine lv_iload_n hx hb dY_init_314 rfl (lv_at hl 0 rfl) ?_
  refine lv_bipush (v := 7) hx hb dY_init_315 (by decide) ?_
  refine lv_icmp_ge (tgt := 338) hx hb dY_init_317 (by decide) (fun cz => absurd cz (by decide)) (fun _ => ?_)
  refine lv_aload_n hx hb dY_init_320 rfl (lv_at hl 1 rfl) ?_
  refine va_get (D := D) (ci := 2) (v := .ref z15) (C := RY) (T := TY) (N := 13) hx hb hty inY hown hK hP 0 rfl rfl 8 (by decide) (hty _ yf_35) (fun _ h9 => h9) rfl dY_init_321 ?_
  refine lv_iload_n hx hb dY_init_324 rfl (lv_at hl 0 rfl) ?_
  refine lv_dup2_11 hx hb dY_init_325 rfl rfl ?_
  refine va_iald (f := (upd (upd (upd (upd (upd (upd (upd (upd (upd (upd (upd (upd (upd (upd (upd (fun _ => 0) 0 3) 1 3) 2 3) 3 3) 4 3) 5 3) 6 3) 7 3) 8 3) 0 131) 1 135) 2 135) 8 135) 3 891) 4 891)) hx hb hK hP 8 7 rfl rfl (by unfold vp_in; decide) dY_init_326 ?_
  refine lv_topi (fun x46 ex46 => ?_)
  obtain rfl : x46 = 3 := ex46
  refine lv_sipush (v := 888) hx hb dY_init_327 (by decide) ?_
  refine lv_ior hx hb dY_init_330 ?_
  refine lv_topi (fun x47 ex47 => ?_)
  obtain rfl : x47 = 891 := ex47.trans (by decide +kernel)
  refine va_iast (f := (upd (upd (upd (upd (upd (upd (upd (upd (upd (upd (upd (upd (upd (upd (upd (fun _ => 0) 0 3) 1 3) 2 3) 3 3) 4 3) 5 3) 6 3) 7 3) 8 3) 0 131) 1 135) 2 135) 8 135) 3 891) 4 891)) hx hb hK hP hD hS 8 7 rfl rfl (by unfold vp_in; decide) dY_init_331 (fun H locs hP hD hS => ?_)
  have hP : va_P D vwCl (yW (h0, z1, z3, z5, z7, z9, z11, z13, z15, z17, cA2, cA4, cA6, cA8, cA10, cA12, cA14, cA16, cA18) ((upd (upd (fun _ => 0) 1 4) 2 5), (upd (upd (fun _ => 0) 1 2) 2 9), (fun _ => 0), 2, (fun _ => 0), (fun _ => 0), (fun _ => 0), (upd (upd (upd (upd (upd (upd (upd (upd (upd (upd (fun _ => 0) 0 27) 1 45) 2 111) 3 129) 4 259) 5 259) 6 1) 7 1) 8 1) 9 45), (upd (upd (upd (upd (upd (upd (upd (upd (upd (upd (upd (upd (upd (upd (upd (upd (fun _ => 0) 0 3) 1 3) 2 3) 3 3) 4 3) 5 3) 6 3) 7 3) 8 3) 0 131) 1 135) 2 135) 8 135) 3 891) 4 891) 5 891), 0, 0, (fun _ => 0), 0)) H := hP
  have hD : va_D A (yW (h0, z1, z3, z5, z7, z9, z11, z13, z15, z17, cA2, cA4, cA6, cA8, cA10, cA12, cA14, cA16, cA18) ((upd (upd (fun _ => 0) 1 4) 2 5), (upd (upd (fun _ => 0) 1 2) 2 9), (fun _ => 0), 2, (fun _ => 0), (fun _ => 0), (fun _ => 0), (upd (upd (upd (upd (upd (upd (upd (upd (upd (upd (fun _ => 0) 0 27) 1 45) 2 111) 3 129) 4 259) 5 259) 6 1) 7 1) 8 1) 9 45), (upd (upd (upd (upd (upd (upd (upd (upd (upd (upd (upd (upd (upd (upd (upd (upd (fun _ => 0) 0 3) 1 3) 2 3) 3 3) 4 3) 5 3) 6 3) 7 3) 8 3) 0 131) 1 135) 2 135) 8 135) 3 891) 4 891) 5 891), 0, 0, (fun _ => 0), 0)) := hD
  refine lv_iinc (v := 6) (lv' := [(1, .int 6), (0, .ref h0)]) hx hb dY_init_332 hl (k := 0) rfl (by decide) (by decide) rfl (fun ls hl => ?_)
  refine lv_goto (tgt := 314) hx hb dY_init_335 (by decide) ?_
  refine lv_iload_n hx hb dY_init_314 rfl (lv_at hl 0 rfl) ?_
  refine lv_bipush (v := 7) hx hb dY_init_315 (by decide) ?_
  refine lv_icmp_ge (tgt := 338) hx hb dY_init_317 (by decide) (fun cz => absurd cz (by decide)) (fun _ => ?_)
  refine lv_aload_n hx hb dY_init_320 rfl (lv_at hl 1 rfl) ?_
  refine va_get (D := D) (ci := 2) (v := .ref z15) (C := RY) (T := TY) (N := 13) hx hb hty inY hown hK hP 0 rfl rfl 8 (by decide) (hty _ yf_35) (fun _ h9 => h9) rfl dY_init_321 ?_
  refine lv_iload_n hx hb dY_init_324 rfl (lv_at hl 0 rfl) ?_
  refine lv_dup2_11 hx hb dY_init_325 rfl rfl ?_
  refine va_iald (f := (upd (upd (upd (upd (upd (upd (upd (upd (upd (upd (upd (upd (upd (upd (upd (upd (fun _ => 0) 0 3) 1 3) 2 3) 3 3) 4 3) 5 3) 6 3) 7 3) 8 3) 0 131) 1 135) 2 135) 8 135) 3 891) 4 891) 5 891)) hx hb hK hP 8 7 rfl rfl (by unfold vp_in; decide) dY_init_326 ?_
  refine lv_topi (fun x48 ex48 => ?_)
  obtain rfl : x48 = 3 := ex48
  refine lv_sipush (v := 888) hx hb dY_init_327 (by decide) ?_
  refine lv_ior hx hb dY_init_330 ?_
  refine lv_topi (fun x49 ex49 => ?_)
  obtain rfl : x49 = 891 := ex49.trans (by decide +kernel)
  refine va_iast (f := (upd (upd (upd (upd (upd (upd (upd (upd (upd (upd (upd (upd (upd (upd (upd (upd (fun _ => 0) 0 3) 1 3) 2 3) 3 3) 4 3) 5 3) 6 3) 7 3) 8 3) 0 131) 1 135) 2 135) 8 135) 3 891) 4 891) 5 891)) hx hb hK hP hD hS 8 7 rfl rfl (by unfold vp_in; decide) dY_init_331 (fun H locs hP hD hS => ?_)
  have hP : va_P D vwCl (yW (h0, z1, z3, z5, z7, z9, z11, z13, z15, z17, cA2, cA4, cA6, cA8, cA10, cA12, cA14, cA16, cA18) ((upd (upd (fun _ => 0) 1 4) 2 5), (upd (upd (fun _ => 0) 1 2) 2 9), (fun _ => 0), 2, (fun _ => 0), (fun _ => 0), (fun _ => 0), (upd (upd (upd (upd (upd (upd (upd (upd (upd (upd (fun _ => 0) 0 27) 1 45) 2 111) 3 129) 4 259) 5 259) 6 1) 7 1) 8 1) 9 45), (upd (upd (upd (upd (upd (upd (upd (upd (upd (upd (upd (upd (upd (upd (upd (upd (upd (fun _ => 0) 0 3) 1 3) 2 3) 3 3) 4 3) 5 3) 6 3) 7 3) 8 3) 0 131) 1 135) 2 135) 8 135) 3 891) 4 891) 5 891) 6 891), 0, 0, (fun _ => 0), 0)) H := hP
  have hD : va_D A (yW (h0, z1, z3, z5, z7, z9, z11, z13, z15, z17, cA2, cA4, cA6, cA8, cA10, cA12, cA14, cA16, cA18) ((upd (upd (fun _ => 0) 1 4) 2 5), (upd (upd (fun _ => 0) 1 2) 2 9), (fun _ => 0), 2, (fun _ => 0), (fun _ => 0), (fun _ => 0), (upd (upd (upd (upd (upd (upd (upd (upd (upd (upd (fun _ => 0) 0 27) 1 45) 2 111) 3 129) 4 259) 5 259) 6 1) 7 1) 8 1) 9 45), (upd (upd (upd (upd (upd (upd (upd (upd (upd (upd (upd (upd (upd (upd (upd (upd (upd (fun _ => 0) 0 3) 1 3) 2 3) 3 3) 4 3) 5 3) 6 3) 7 3) 8 3) 0 131) 1 135) 2 135) 8 135) 3 891) 4 891) 5 891) 6 891), 0, 0, (fun _ => 0), 0)) := hD
  refine lv_iinc (v := 7) (lv' := [(1, .int 7), (0, .ref h0)]) hx hb dY_init_332 hl (k := 0) rfl (by decide) (by decide) rfl (fun ls hl => ?_)
  refine lv_goto (tgt := 314) hx hb dY_init_335 (by decide) ?_
  refine lv_iload_n hx hb dY_init_314 rfl (lv_at hl 0 rfl) ?_
  refine lv_bipush (v := 7) hx hb dY_init_315 (by decide) ?_
  refine lv_icmp_ge (tgt := 338) hx hb dY_init_317 (by decide) (fun _ => ?_) (fun cz => absurd cz (by decide))
  refine lv_aload_n hx hb dY_init_338 rfl (lv_at hl 1 rfl) ?_
  refine va_get (D := D) (ci := 2) (v := .ref z15) (C := RY) (T := TY) (N := 13) hx hb hty inY hown hK hP 0 rfl rfl 8 (by decide) (hty _ yf_35) (fun _ h9 => h9) rfl dY_init_339 ?_
  refine lv_iconst (v := 3) hx hb dY_init_342 (by decide) ?_
  refine lv_dup2_11 hx hb dY_init_343 rfl rfl ?_
  refine va_iald (f := (upd (upd (upd (upd (upd (upd (upd (upd (upd (upd (upd (upd (upd (upd (upd (upd (upd (fun _ => 0) 0 3) 1 3) 2 3) 3 3) 4 3) 5 3) 6 3) 7 3) 8 3) 0 131) 1 135) 2 135) 8 135) 3 891) 4 891) 5 891) 6 891)) hx hb hK hP 8 7 rfl rfl (by unfold vp_in; decide) dY_init_344 ?_
  refine lv_topi (fun x50 ex50 => ?_)
  obtain rfl : x50 = 891 := ex50
  refine lv_sipush (v := 1024) hx hb dY_init_345 (by decide) ?_
  refine lv_ior hx hb dY_init_348 ?_
  refine lv_topi (fun x51 ex51 => ?_)
  obtain rfl : x51 = 1915 := ex51.trans (by decide +kernel)
  refine va_iast (f := (upd (upd (upd (upd (upd (upd (upd (upd (upd (upd (upd (upd (upd (upd (upd (upd (upd (fun _ => 0) 0 3) 1 3) 2 3) 3 3) 4 3) 5 3) 6 3) 7 3) 8 3) 0 131) 1 135) 2 135) 8 135) 3 891) 4 891) 5 891) 6 891)) hx hb hK hP hD hS 8 7 rfl rfl (by unfold vp_in; decide) dY_init_349 (fun H locs hP hD hS => ?_)
  have hP : va_P D vwCl (yW (h0, z1, z3, z5, z7, z9, z11, z13, z15, z17, cA2, cA4, cA6, cA8, cA10, cA12, cA14, cA16, cA18) ((upd (upd (fun _ => 0) 1 4) 2 5), (upd (upd (fun _ => 0) 1 2) 2 9), (fun _ => 0), 2, (fun _ => 0), (fun _ => 0), (fun _ => 0), (upd (upd (upd (upd (upd (upd (upd (upd (upd (upd (fun _ => 0) 0 27) 1 45) 2 111) 3 129) 4 259) 5 259) 6 1) 7 1) 8 1) 9 45), (upd (upd (upd (upd (upd (upd (upd (upd (upd (upd (upd (upd (upd (upd (upd (upd (upd (upd (fun _ => 0) 0 3) 1 3) 2 3) 3 3) 4 3) 5 3) 6 3) 7 3) 8 3) 0 131) 1 135) 2 135) 8 135) 3 891) 4 891) 5 891) 6 891) 3 1915), 0, 0, (fun _ => 0), 0)) H := hP
  have hD : va_D A (yW (h0, z1, z3, z5, z7, z9, z11, z13, z15, z17, cA2, cA4, cA6, cA8, cA10, cA12, cA14, cA16, cA18) ((upd (upd (fun _ => 0) 1 4) 2 5), (upd (upd (fun _ => 0) 1 2) 2 9), (fun _ => 0), 2, (fun _ => 0), (fun _ => 0), (fun _ => 0), (upd (upd (upd (upd (upd (upd (upd (upd (upd (upd (fun _ => 0) 0 27) 1 45) 2 111) 3 129) 4 259) 5 259) 6 1) 7 1) 8 1) 9 45), (upd (upd (upd (upd (upd (upd (upd (upd (upd (upd (upd (upd (upd (upd (upd (upd (upd (upd (fun _ => 0) 0 3) 1 3) 2 3) 3 3) 4 3) 5 3) 6 3) 7 3) 8 3) 0 131) 1 135) 2 135) 8 135) 3 891) 4 891) 5 891) 6 891) 3 1915), 0, 0, (fun _ => 0), 0)) := hD
  refine lv_iconst (v := 4) hx hb dY_init_350 (by decide) ?_
  refine lv_istore_n (lv' := [(1, .int 4), (0, .ref h0)]) hx hb dY_init_351 rfl hl (by decide) rfl (fun ls hl => ?_)
  refine lv_iload_n hx hb dY_init_352 rfl (lv_at hl 0 rfl) ?_
  refine lv_bipush (v := 7) hx hb dY_init_353 (by decide) ?_
  refine lv_icmp_ge (tgt := 374) hx hb dY_init_355 (by decide) (fun cz => absurd cz (by decide)) (fun _ => ?_)
  refine lv_aload_n hx hb dY_init_358 rfl (lv_at hl 1 rfl) ?_
  refine va_get (D := D) (ci := 2) (v := .ref z15) (C := RY) (T := TY) (N := 13) hx hb hty inY hown hK hP 0 rfl rfl 8 (by decide) (hty _ yf_35) (fun _ h9 => h9) rfl dY_init_359 ?_
  refine lv_iload_n hx hb dY_init_362 rfl (lv_at hl 0 rfl) ?_
  refine lv_dup2_11 hx hb dY_init_363 rfl rfl ?_
  refine va_iald (f := (upd (upd (upd (upd (upd (upd (upd (upd (upd (upd (upd (upd (upd (upd (upd (upd (upd (upd (fun _ => 0) 0 3) 1 3) 2 3) 3 3) 4 3) 5 3) 6 3) 7 3) 8 3) 0 131) 1 135) 2 135) 8 135) 3 891) 4 891) 5 891) 6 891) 3 1915)) hx hb hK hP 8 7 rfl rfl (by unfold vp_in; decide) dY_init_364 ?_
  refine lv_topi (fun x52 ex52 => ?_)
  obtain rfl : x52 = 891 := ex52
  refine lv_iconst (v := 4) hx hb dY_init_365 (by decide) ?_
  refine lv_ior hx hb dY_init_366 ?_
  refine lv_topi (fun x53 ex53 => ?_)
  obtain rfl : x53 = 895 := ex53.trans (by decide +kernel)
  refine va_iast (f := (upd (upd (upd (upd (upd (upd (upd (upd (upd (upd (upd (upd (upd (upd (upd (upd (upd (upd (fun _ => 0) 0 3) 1 3) 2 3) 3 3) 4 3) 5 3) 6 3) 7 3) 8 3) 0 131) 1 135) 2 135) 8 135) 3 891) 4 891) 5 891) 6 891) 3 1915)) hx hb hK hP hD hS 8 7 rfl rfl (by unfold vp_in; decide) dY_init_367 (fun H locs hP hD hS => ?_)
  have hP : va_P D vwCl (yW (h0, z1, z3, z5, z7, z9, z11, z13, z15, z17, cA2, cA4, cA6, cA8, cA10, cA12, cA14, cA16, cA18) ((upd (upd (fun _ => 0) 1 4) 2 5), (upd (upd (fun _ => 0) 1 2) 2 9), (fun _ => 0), 2, (fun _ => 0), (fun _ => 0), (fun _ => 0), (upd (upd (upd (upd (upd (upd (upd (upd (upd (upd (fun _ => 0) 0 27) 1 45) 2 111) 3 129) 4 259) 5 259) 6 1) 7 1) 8 1) 9 45), (upd (upd (upd (upd (upd (upd (upd (upd (upd (upd (upd (upd (upd (upd (upd (upd (upd (upd (upd (fun _ => 0) 0 3) 1 3) 2 3) 3 3) 4 3) 5 3) 6 3) 7 3) 8 3) 0 131) 1 135) 2 135) 8 135) 3 891) 4 891) 5 891) 6 891) 3 1915) 4 895), 0, 0, (fun _ => 0), 0)) H := hP
  have hD : va_D A (yW (h0, z1, z3, z5, z7, z9, z11, z13, z15, z17, cA2, cA4, cA6, cA8, cA10, cA12, cA14, cA16, cA18) ((upd (upd (fun _ => 0) 1 4) 2 5), (upd (upd (fun _ => 0) 1 2) 2 9), (fun _ => 0), 2, (fun _ => 0), (fun _ => 0), (fun _ => 0), (upd (upd (upd (upd (upd (upd (upd (upd (upd (upd (fun _ => 0) 0 27) 1 45) 2 111) 3 129) 4 259) 5 259) 6 1) 7 1) 8 1) 9 45), (upd (upd (upd (upd (upd (upd (upd (upd (upd (upd (upd (upd (upd (upd (upd (upd (upd (upd (upd (fun _ => 0) 0 3) 1 3) 2 3) 3 3) 4 3) 5 3) 6 3) 7 3) 8 3) 0 131) 1 135) 2 135) 8 135) 3 891) 4 891) 5 891) 6 891) 3 1915) 4 895), 0, 0, (fun _ => 0), 0)) := hD
  refine lv_iinc (v := 5) (lv' := [(1, .int 5), (0, .ref h0)]) hx hb dY_init_368 hl (k := 0) rfl (by decide) (by decide) rfl (fun ls hl => ?_)
  refine lv_goto (tgt := 352) hx hb dY_init_371 (by decide) ?_
  refine lv_iload_n hx hb dY_init_352 rfl (lv_at hl 0 rfl) ?_
  refine lv_bipush (v := 7) hx hb dY_init_353 (by decide) ?_
  refine lv_icmp_ge (tgt := 374) hx hb dY_init_355 (by decide) (fun cz => absurd cz (by decide)) (fun _ => ?_)
  refine lv_aload_n hx hb dY_init_358 rfl (lv_at hl 1 rfl) ?_
  refine va_get (D := D) (ci := 2) (v := .ref z15) (C := RY) (T := TY) (N := 13) hx hb hty inY hown hK hP 0 rfl rfl 8 (by decide) (hty _ yf_35) (fun _ h9 => h9) rfl dY_init_359 ?_
  refine lv_iload_n hx hb dY_init_362 rfl (lv_at hl 0 rfl) ?_
  refine lv_dup2_11 hx hb dY_init_363 rfl rfl ?_
  refine va_iald (f := (upd (upd (upd (upd (upd (upd (upd (upd (upd (upd (upd (upd (upd (upd (upd (upd (upd (upd (upd (fun _ => 0) 0 3) 1 3) 2 3) 3 3) 4 3) 5 3) 6 3) 7 3) 8 3) 0 131) 1 135) 2 135) 8 135) 3 891) 4 891) 5 891) 6 891) 3 1915) 4 895)) hx hb hK hP 8 7 rfl rfl (by unfold vp_in; decide) dY_init_364 ?_
  refine lv_topi (fun x54 ex54 => ?_)
  obtain rfl : x54 = 891 := ex54
  refine lv_iconst (v := 4) hx hb dY_init_365 (by decide) ?_
  refine lv_ior hx hb dY_init_366 ?_
  refine lv_topi (fun x55 ex55 => ?_)
  obtain rfl : x55 = 895 := ex55.trans (by decide +kernel)
  refine va_iast (f := (upd (upd (upd (upd (upd (upd (upd (upd (upd (upd (upd (upd (upd (upd (upd (upd (upd (upd (upd (fun _ => 0) 0 3) 1 3) 2 3) 3 3) 4 3) 5 3) 6 3) 7 3) 8 3) 0 131) 1 135) 2 135) 8 135) 3 891) 4 891) 5 891) 6 891) 3 1915) 4 895)) hx hb hK hP hD hS 8 7 rfl rfl (by unfold vp_in; decide) dY_init_367 (fun H locs hP hD hS => ?_)
  have hP : va_P D vwCl (yW (h0, z1, z3, z5, z7, z9, z11, z13, z15, z17, cA2, cA4, cA6, cA8, cA10, cA12, cA14, cA16, cA18) ((upd (upd (fun _ => 0) 1 4) 2 5), (upd (upd (fun _ => 0) 1 2) 2 9), (fun _ => 0), 2, (fun _ => 0), (fun _ => 0), (fun _ => 0), (upd (upd (upd (upd (upd (upd (upd (upd (upd (upd (fun _ => 0) 0 27) 1 45) 2 111) 3 129) 4 259) 5 259) 6 1) 7 1) 8 1) 9 45), (upd (upd (upd (upd (upd (upd (upd (upd (upd (upd (upd (upd (upd (upd (upd (upd (upd (upd (upd (upd (fun _ => 0) 0 3) 1 3) 2 3) 3 3) 4 3) 5 3) 6 3) 7 3) 8 3) 0 131) 1 135) 2 135) 8 135) 3 891) 4 891) 5 891) 6 891) 3 1915) 4 895) 5 895), 0, 0, (fun _ => 0), 0)) H := hP
  have hD : va_D A (yW (h0, z1, z3, z5, z7, z9, z11, z13, z15, z17, cA2, cA4, cA6, cA8, cA10, cA12, cA14, cA16, cA18) ((upd (upd (fun _ => 0) 1 4) 2 5), (upd (upd (fun _ => 0) 1 2) 2 9), (fun _ => 0), 2, (fun _ => 0), (fun _ => 0), (fun _ => 0), (upd (upd (upd (upd (upd (upd (upd (upd (upd (upd (fun _ => 0) 0 27) 1 45) 2 111) 3 129) 4 259) 5 259) 6 1) 7 1) 8 1) 9 45), (upd (upd (upd (upd (upd (upd (upd (upd (upd (upd (upd (upd (upd (upd (upd (upd (upd (upd (upd (upd (fun _ => 0) 0 3) 1 3) 2 3) 3 3) 4 3) 5 3) 6 3) 7 3) 8 3) 0 131) 1 135) 2 135) 8 135) 3 891) 4 891) 5 891) 6 891) 3 1915) 4 895) 5 895), 0, 0, (fun _ => 0), 0)) := hD
  refine lv_iinc (v := 6) (lv' := [(1, .int 6), (0, .ref h0)]) hx hb dY_init_368 hl (k := 0) rfl (by decide) (by decide) rfl (fun ls hl => ?_)
  refine lv_goto (tgt := 352) hx hb dY_init_371 (by decide) ?_
  refine lv_iload_n hx hb dY_init_352 rfl (lv_at hl 0 rfl) ?_
  refine lv_bipush (v := 7) hx hb dY_init_353 (by decide) ?_
  refine lv_icmp_ge (tgt := 374) hx hb dY_init_355 (by decide) (fun cz => absurd cz (by decide)) (fun _ => ?_)
  refine lv_aload_n hx hb dY_init_358 rfl (lv_at hl 1 rfl) ?_
  refine va_get (D := D) (ci := 2) (v := .ref z15) (C := RY) (T := TY) (N := 13) hx hb hty inY hown hK hP 0 rfl rfl 8 (by decide) (hty _ yf_35) (fun _ h9 => h9) rfl dY_init_359 ?_
  refine lv_iload_n hx hb dY_init_362 rfl (lv_at hl 0 rfl) ?_
  refine lv_dup2_11 hx hb dY_init_363 rfl rfl ?_
  refine va_iald (f := (upd (upd (upd (upd (upd (upd (upd (upd (upd (upd (upd (upd (upd (upd (upd (upd (upd (upd (upd (upd (fun _ => 0) 0 3) 1 3) 2 3) 3 3) 4 3) 5 3) 6 3) 7 3) 8 3) 0 131) 1 135) 2 135) 8 135) 3 891) 4 891) 5 891) 6 891) 3 1915) 4 895) 5 895)) hx hb hK hP 8 7 rfl rfl (by unfold vp_in; decide) dY_init_364 ?_
  refine lv_topi (fun x56 ex56 => ?_)
  obtain rfl : x56 = 891 := ex56
  refine lv_iconst (v := 4) hx hb dY_init_365 (by decide) ?_
  refine lv_ior hx hb dY_init_366 ?_
  refine lv_topi (fun x57 ex57 => ?_)
  obtain rfl : x57 = 895 := ex57.trans (by decide +kernel)
  refine va_iast (f := (upd (upd (upd (upd (upd (upd (upd (upd (upd (upd (upd (upd (upd (upd (upd (upd (upd (upd (upd (upd (fun _ => 0) 0 3) 1 3) 2 3) 3 3) 4 3) 5 3) 6 3) 7 3) 8 3) 0 131) 1 135) 2 135) 8 135) 3 891) 4 891) 5 891) 6 891) 3 1915) 4 895) 5 895)) hx hb hK hP hD hS 8 7 rfl rfl (by unfold vp_in; decide) dY_init_367 (fun H locs hP hD hS => ?_)
  have hP : va_P D vwCl (yW (h0, z1, z3, z5, z7, z9, z11, z13, z15, z17, cA2, cA4, cA6, cA8, cA10, cA12, cA14, cA16, cA18) ((upd (upd (fun _ => 0) 1 4) 2 5), (upd (upd (fun _ => 0) 1 2) 2 9), (fun _ => 0), 2, (fun _ => 0), (fun _ => 0), (fun _ => 0), (upd (upd (upd (upd (upd (upd (upd (upd (upd (upd (fun _ => 0) 0 27) 1 45) 2 111) 3 129) 4 259) 5 259) 6 1) 7 1) 8 1) 9 45), (upd (upd (upd (upd (upd (upd (upd (upd (upd (upd (upd (upd (upd (upd (upd (upd (upd (upd (upd (upd (upd (fun _ => 0) 0 3) 1 3) 2 3) 3 3) 4 3) 5 3) 6 3) 7 3) 8 3) 0 131) 1 135) 2 135) 8 135) 3 891) 4 891) 5 891) 6 891) 3 1915) 4 895) 5 895) 6 895), 0, 0, (fun _ => 0), 0)) H := hP
  have hD : va_D A (yW (h0, z1, z3, z5, z7, z9, z11, z13, z15, z17, cA2, cA4, cA6, cA8, cA10, cA12, cA14, cA16, cA18) ((upd (upd (fun _ => 0) 1 4) 2 5), (upd (upd (fun _ => 0) 1 2) 2 9), (fun _ => 0), 2, (fun _ => 0), (fun _ => 0), (fun _ => 0), (upd (upd (upd (upd (upd (upd (upd (upd (upd (upd (fun _ => 0) 0 27) 1 45) 2 111) 3 129) 4 259) 5 259) 6 1) 7 1) 8 1) 9 45), (upd (upd (upd (upd (upd (upd (upd (upd (upd (upd (upd (upd (upd (upd (upd (upd (upd (upd (upd (upd (upd (fun _ => 0) 0 3) 1 3) 2 3) 3 3) 4 3) 5 3) 6 3) 7 3) 8 3) 0 131) 1 135) 2 135) 8 135) 3 891) 4 891) 5 891) 6 891) 3 1915) 4 895) 5 895) 6 895), 0, 0, (fun _ => 0), 0)) := hD
  refine lv_iinc (v := 7) (lv' := [(1, .int 7), (0, .ref h0)]) hx hb dY_init_368 hl (k := 0) rfl (by decide) (by decide) rfl (fun ls hl => ?_)
  refine lv_goto (tgt := 352) hx hb dY_init_371 (by decide) ?_
  refine lv_iload_n hx hb dY_init_352 rfl (lv_at hl 0 rfl) ?_
  refine lv_bipush (v := 7) hx hb dY_init_353 (by decide) ?_
  refine lv_icmp_ge (tgt := 374) hx hb dY_init_355 (by decide) (fun _ => ?_) (fun cz => absurd cz (by decide))
  refine lv_aload_n hx hb dY_init_374 rfl (lv_at hl 1 rfl) ?_
  refine va_get (D := D) (ci := 2) (v := .ref z15) (C := RY) (T := TY) (N := 13) hx hb hty inY hown hK hP 0 rfl rfl 8 (by decide) (hty _ yf_35) (fun _ h9 => h9) rfl dY_init_375 ?_
  refine lv_bipush (v := 7) hx hb dY_init_378 (by decide) ?_
  refine lv_dup2_11 hx hb dY_init_380 rfl rfl ?_
  refine va_iald (f := (upd (upd (upd (upd (upd (upd (upd (upd (upd (upd (upd (upd (upd (upd (upd (upd (upd (upd (upd (upd (upd (fun _ => 0) 0 3) 1 3) 2 3) 3 3) 4 3) 5 3) 6 3) 7 3) 8 3) 0 131) 1 135) 2 135) 8 135) 3 891) 4 891) 5 891) 6 891) 3 1915) 4 895) 5 895) 6 895)) hx hb hK hP 8 7 rfl rfl (by unfold vp_in; decide) dY_init_381 ?_
  refine lv_topi (fun x58 ex58 => ?_)
  obtain rfl : x58 = 3 := ex58
  refine lv_sipush (v := 1024) hx hb dY_init_382 (by decide) ?_
  refine lv_ior hx hb dY_init_385 ?_
  refine lv_topi (fun x59 ex59 => ?_)
  obtain rfl : x59 = 1027 := ex59.trans (by decide +kernel)
  refine va_iast (f := (upd (upd (upd (upd (upd (upd (upd (upd (upd (upd (upd (upd (upd (upd (upd (upd (upd (upd (upd (upd (upd (fun _ => 0) 0 3) 1 3) 2 3) 3 3) 4 3) 5 3) 6 3) 7 3) 8 3) 0 131) 1 135) 2 135) 8 135) 3 891) 4 891) 5 891) 6 891) 3 1915) 4 895) 5 895) 6 895)) hx hb hK hP hD hS 8 7 rfl rfl (by unfold vp_in; decide) dY_init_386 (fun H locs hP hD hS => ?_)
  have hP : va_P D vwCl (yW (h0, z1, z3, z5, z7, z9, z11, z13, z15, z17, cA2, cA4, cA6, cA8, cA10, cA12, cA14, cA16, cA18) ((upd (upd (fun _ => 0) 1 4) 2 5), (upd (upd (fun _ => 0) 1 2) 2 9), (fun _ => 0), 2, (fun _ => 0), (fun _ => 0), (fun _ => 0), (upd (upd (upd (upd (upd (upd (upd (upd (upd (upd (fun _ => 0) 0 27) 1 45) 2 111) 3 129) 4 259) 5 259) 6 1) 7 1) 8 1) 9 45), (upd (upd (upd (upd (upd (upd (upd (upd (upd (upd (upd (upd (upd (upd (upd (upd (upd (upd (upd (upd (upd (upd (fun _ => 0) 0 3) 1 3) 2 3) 3 3) 4 3) 5 3) 6 3) 7 3) 8 3) 0 131) 1 135) 2 135) 8 135) 3 891) 4 891) 5 891) 6 891) 3 1915) 4 895) 5 895) 6 895) 7 1027), 0, 0, (fun _ => 0), 0)) H := hP
  have hD : va_D A (yW (h0, z1, z3, z5, z7, z9, z11, z13, z15, z17, cA2, cA4, cA6, cA8, cA10, cA12, cA14, cA16, cA18) ((upd (upd (fun _ => 0) 1 4) 2 5), (upd (upd (fun _ => 0) 1 2) 2 9), (fun _ => 0), 2, (fun _ => 0), (fun _ => 0), (fun _ => 0), (upd (upd (upd (upd (upd (upd (upd (upd (upd (upd (fun _ => 0) 0 27) 1 45) 2 111) 3 129) 4 259) 5 259) 6 1) 7 1) 8 1) 9 45), (upd (upd (upd (upd (upd (upd (upd (upd (upd (upd (upd (upd (upd (upd (upd (upd (upd (upd (upd (upd (upd (upd (fun _ => 0) 0 3) 1 3) 2 3) 3 3) 4 3) 5 3) 6 3) 7 3) 8 3) 0 131) 1 135) 2 135) 8 135) 3 891) 4 891) 5 891) 6 891) 3 1915) 4 895) 5 895) 6 895) 7 1027), 0, 0, (fun _ => 0), 0)) := hD
  refine lv_aload_n hx hb dY_init_387 rfl (lv_at hl 1 rfl) ?_
  refine va_get (D := D) (ci := 2) (v := .ref z15) (C := RY) (T := TY) (N := 13) hx hb hty inY hown hK hP 0 rfl rfl 8 (by decide) (hty _ yf_35) (fun _ h9 => h9) rfl dY_init_388 ?_
  refine lv_iconst (v := 4) hx hb dY_init_391 (by decide) ?_
  refine lv_dup2_11 hx hb dY_init_392 rfl rfl ?_
  refine va_iald (f := (upd (upd (upd (upd (upd (upd (upd (upd (upd (upd (upd (upd (upd (upd (upd (upd (upd (upd (upd (upd (upd (upd (fun _ => 0) 0 3) 1 3) 2 3) 3 3) 4 3) 5 3) 6 3) 7 3) 8 3) 0 131) 1 135) 2 135) 8 135) 3 891) 4 891) 5 891) 6 891) 3 1915) 4 895) 5 895) 6 895) 7 1027)) hx hb hK hP 8 7 rfl rfl (by unfold vp_in; decide) dY_init_393 ?_
  refine lv_topi (fun x60 ex60 => ?_)
  obtain rfl : x60 = 895 := ex60
  refine lv_sipush (v := 2048) hx hb dY_init_394 (by decide) ?_
  refine lv_ior hx hb dY_init_397 ?_
  refine lv_topi (fun x61 ex61 => ?_)
  obtain rfl : x61 = 2943 := ex61.trans (by decide +kernel)
  refine va_iast (f := (upd (upd (upd (upd (upd (upd (upd (upd (upd (upd (upd (upd (upd (upd (upd (upd (upd (upd (upd (upd (upd (upd (fun _ => 0) 0 3) 1 3) 2 3) 3 3) 4 3) 5 3) 6 3) 7 3) 8 3) 0 131) 1 135) 2 135) 8 135) 3 891) 4 891) 5 891) 6 891) 3 1915) 4 895) 5 895) 6 895) 7 1027)) hx hb hK hP hD hS 8 7 rfl rfl (by unfold vp_in; decide) dY_init_398 (fun H locs hP hD hS => ?_)
  have hP : va_P D vwCl (yW (h0, z1, z3, z5, z7, z9, z11, z13, z15, z17, cA2, cA4, cA6, cA8, cA10, cA12, cA14, cA16, cA18) ((upd (upd (fun _ => 0) 1 4) 2 5), (upd (upd (fun _ => 0) 1 2) 2 9), (fun _ => 0), 2, (fun _ => 0), (fun _ => 0), (fun _ => 0), (upd (upd (upd (upd (upd (upd (upd (upd (upd (upd (fun _ => 0) 0 27) 1 45) 2 111) 3 129) 4 259) 5 259) 6 1) 7 1) 8 1) 9 45), (upd (upd (upd (upd (upd (upd (upd (upd (upd (upd (upd (upd (upd (upd (upd (upd (upd (upd (upd (upd (upd (upd (upd (fun _ => 0) 0 3) 1 3) 2 3) 3 3) 4 3) 5 3) 6 3) 7 3) 8 3) 0 131) 1 135) 2 135) 8 135) 3 891) 4 891) 5 891) 6 891) 3 1915) 4 895) 5 895) 6 895) 7 1027) 4 2943), 0, 0, (fun _ => 0), 0)) H := hP
  have hD : va_D A (yW (h0, z1, z3, z5, z7, z9, z11, z13, z15, z17, cA2, cA4, cA6, cA8, cA10, cA12, cA14, cA16, cA18) ((upd (upd (fun _ => 0) 1 4) 2 5), (upd (upd (fun _ => 0) 1 2) 2 9), (fun _ => 0), 2, (fun _ => 0), (fun _ => 0), (fun _ => 0), (upd (upd (upd (upd (upd (upd (upd (upd (upd (upd (fun _ => 0) 0 27) 1 45) 2 111) 3 129) 4 259) 5 259) 6 1) 7 1) 8 1) 9 45), (upd (upd (upd (upd (upd (upd (upd (upd (upd (upd (upd (upd (upd (upd (upd (upd (upd (upd (upd (upd (upd (upd (upd (fun _ => 0) 0 3) 1 3) 2 3) 3 3) 4 3) 5 3) 6 3) 7 3) 8 3) 0 131) 1 135) 2 135) 8 135) 3 891) 4 891) 5 891) 6 891) 3 1915) 4 895) 5 895) 6 895) 7 1027) 4 2943), 0, 0, (fun _ => 0), 0)) := hD
  refine lv_aload_n hx hb dY_init_399 rfl (lv_at hl 1 rfl) ?_
  refine va_get (D := D) (ci := 2) (v := .ref z15) (C := RY) (T := TY) (N := 13) hx hb hty inY hown hK hP 0 rfl rfl 8 (by decide) (hty _ yf_35) (fun _ h9 => h9) rfl dY_init_400 ?_
  refine lv_bipush (v := 6) hx hb dY_init_403 (by decide) ?_
  refine lv_dup2_11 hx hb dY_init_405 rfl rfl ?_
  refine va_iald (f := (upd (upd (upd (upd (upd (upd (upd (upd (upd (upd (upd (upd (upd (upd (upd (upd (upd (upd (upd (upd (upd (upd (upd (fun _ => 0) 0 3) 1 3) 2 3) 3 3) 4 3) 5 3) 6 3) 7 3) 8 3) 0 131) 1 135) 2 135) 8 135) 3 891) 4 891) 5 891) 6 891) 3 1915) 4 895) 5 895) 6 895) 7 1027) 4 2943)) hx hb hK hP 8 7 rfl rfl (by unfold vp_in; decide) dY_init_406 ?_
  refine lv_topi (fun x62 ex62 => ?_)
  obtain rfl : x62 = 895 := ex62
  refine lv_sipush (v := 2048) hx hb dY_init_407 (by decide) ?_
  refine lv_ior hx hb dY_init_410 ?_
  refine lv_topi (fun x63 ex63 => ?_)
  obtain rfl : x63 = 2943 := ex63.trans (by decide +kernel)
  refine va_iast (f := (upd (upd (upd (upd (upd (upd (upd (upd (upd (upd (upd (upd (upd (upd (upd (upd (upd (upd (upd (upd (upd (upd (upd (fun _ => 0) 0 3) 1 3) 2 3) 3 3) 4 3) 5 3) 6 3) 7 3) 8 3) 0 131) 1 135) 2 135) 8 135) 3 891) 4 891) 5 891) 6 891) 3 1915) 4 895) 5 895) 6 895) 7 1027) 4 2943)) hx hb hK hP hD hS 8 7 rfl rfl (by unfold vp_in; decide) dY_init_411 (fun H locs hP hD hS => ?_)
  have hP : va_P D vwCl (yW (h0, z1, z3, z5, z7, z9, z11, z13, z15, z17, cA2, cA4, cA6, cA8, cA10, cA12, cA14, cA16, cA18) ((upd (upd (fun _ => 0) 1 4) 2 5), (upd (upd (fun _ => 0) 1 2) 2 9), (fun _ => 0), 2, (fun _ => 0), (fun _ => 0), (fun _ => 0), (upd (upd (upd (upd (upd (upd (upd (upd (upd (upd (fun _ => 0) 0 27) 1 45) 2 111) 3 129) 4 259) 5 259) 6 1) 7 1) 8 1) 9 45), (upd (upd (upd (upd (upd (upd (upd (upd (upd (upd (upd (upd (upd (upd (upd (upd (upd (upd (upd (upd (upd (upd (upd (upd (fun _ => 0) 0 3) 1 3) 2 3) 3 3) 4 3) 5 3) 6 3) 7 3) 8 3) 0 131) 1 135) 2 135) 8 135) 3 891) 4 891) 5 891) 6 891) 3 1915) 4 895) 5 895) 6 895) 7 1027) 4 2943) 6 2943), 0, 0, (fun _ => 0), 0)) H := hP
  have hD : va_D A (yW (h0, z1, z3, z5, z7, z9, z11, z13, z15, z17, cA2, cA4, cA6, cA8, cA10, cA12, cA14, cA16, cA18) ((upd (upd (fun _ => 0) 1 4) 2 5), (upd (upd (fun _ => 0) 1 2) 2 9), (fun _ => 0), 2, (fun _ => 0), (fun _ => 0), (fun _ => 0), (upd (upd (upd (upd (upd (upd (upd (upd (upd (upd (fun _ => 0) 0 27) 1 45) 2 111) 3 129) 4 259) 5 259) 6 1) 7 1) 8 1) 9 45), (upd (upd (upd (upd (upd (upd (upd (upd (upd (upd (upd (upd (upd (upd (upd (upd (upd (upd (upd (upd (upd (upd (upd (upd (fun _ => 0) 0 3) 1 3) 2 3) 3 3) 4 3) 5 3) 6 3) 7 3) 8 3) 0 131) 1 135) 2 135) 8 135) 3 891) 4 891) 5 891) 6 891) 3 1915) 4 895) 5 895) 6 895) 7 1027) 4 2943) 6 2943), 0, 0, (fun _ => 0), 0)) := hD
  exact W.vret hx hb hr (fun tE ht hW => ⟨⟨((h0, z1, z3, z5, z7, z9, z11, z13, z15, z17, cA2, cA4, cA6, cA8, cA10, cA12, cA14, cA16, cA18), yV0), rfl, ⟨rfl, rfl⟩, by rw [ht]; exact hP, va_K.moved hW.alike hK, hD⟩, hS.F ht⟩) hS.2.2 dY_init_412
