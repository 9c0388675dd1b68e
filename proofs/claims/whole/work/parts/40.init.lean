set_option maxHeartbeats 1000000 in
set_option maxRecDepth 100000 in
theorem k_init (l : Launch) (D : va_G) (h0 sz : Nat) : Met l yX1_init wsX1_init ({ frames := 2, cells := 6, slots := 56, locals := 35 }) (va_Pc [.ref h0] (fun U => U.heap.size = sz ∧ va_P D vwCl [(h0, .inr (1, [.null, .null, .null, .null, .null, .null, .int 0, .int 0, .int 0]))] U.heap ∧ va_K D vwCl [] U ∧ va_D (fun _ => True) [(h0, .inr (1, [.null, .null, .null, .null, .null, .null, .int 0, .int 0, .int 0]))] ∧ xN U ∧ va_AO RX0 U)) (va_Qv (fun v : XF × XS => v.1.1 = h0 ∧ v.1.2.1 ≠ v.1.2.2.1 ∧ v.2 = xU0 v.1) (fun v t => xB D v.1 (va_A [(h0, .inr (1, [.null, .null, .null, .null, .null, .null, .int 0, .int 0, .int 0]))] sz) v.2 t) (va_A [(h0, .inr (1, [.null, .null, .null, .null, .null, .null, .int 0, .int 0, .int 0]))] sz)) 6 56 (va_A [(h0, .inr (1, [.null, .null, .null, .null, .null, .null, .int 0, .int 0, .int 0]))] sz) := by
  refine Met.ofW (cc := cX1_init) (maxL := 1) (ret := none) (by decide) rfl ?_
  intro p e s m args below meth c s₁ B hml hv
  obtain ⟨rfl, hsz, hP, hK, hD0, hN, hAO⟩ := hv
  have hx := B.exec
  have hb := B.bytes
  have hr := B.returns
  have hts := atoms_spec (ws := wsX1_init) B.pre
  have hown : s.vm.findClass RX1 = some m.cls := findClass_of_methodNamed B.named
  have hlocks := B.notSynchronized
  have hin : meth.name = "<init>" := (name_of_methodNamed B.named B.method).1
  subst hsz
  have hD := hD0.self (sz := s.heap.size)
  generalize hAe : va_A [(h0, .inr (1, [.null, .null, .null, .null, .null, .null, .int 0, .int 0, .int 0]))] s.heap.size = A at hD ⊢
  have hA : ∀ q : Nat, s.heap.size ≤ q → A q := fun q h => by rw [← hAe]; exact Or.inr h
  have hS : va_S A s.heap s.heap [] := va_S.rf
  refine xHeap (C := fun H => va_P D vwCl [(h0, .inr (1, [.null, .null, .null, .null, .null, .null, .int 0, .int 0, .int 0]))] H ∧ va_S A s.heap H []) ⟨hP, hS⟩ (fun H hC => ?_)
  obtain ⟨hP, hS⟩ := hC
  have hl := lv_entry ([.ref h0]) (n := 1) (Nat.le_of_ble_eq_true rfl)
  rw [lg_entry_eq]
  generalize (lg_sl ([.ref h0]) ++ List.replicate (1 - (lg_sl ([.ref h0])).length) Slot.unset).toArray = ls at hl ⊢
  have hl : lv_has ls 1 [(0, .ref h0)] := hl
  refine lv_aload_n hx hb dX1_init_0 rfl (lv_at hl 0 rfl) ?_
  refine W.objInit hx hb hown (hts (.methodLink RX1 3 objectInit) (by decide +kernel)) (hts (.instanceMethod objectInit) (by decide +kernel)) (hts (.code objectInit ⟨#[0xb1]⟩ 1 none) (by decide +kernel)) rfl (by rw [hml]; exact hl.1) rfl dX1_init_1 (Nat.le_of_ble_eq_true rfl) (Nat.le_of_ble_eq_true rfl) ?_
  refine W.eq (g2 := F0 m 4 ls []) rfl ?_
  refine lv_aload_n hx hb dX1_init_4 rfl (lv_at hl 0 rfl) ?_
  refine va_new (ci := 0) (fs := [.int 0, .int 0, .null, .int 0, .int 0, .int 0]) (C := RX0) (T := TX0) (N := 6) hx hb hts (by decide +kernel) tyX0 tyX0_ok hown (hts (.classLink RX1 9 RX0) (by decide +kernel)) (hts (.instantiable RX0 6) (by decide +kernel)) (hts (.initialized RX0) (by decide +kernel)) hK hP hD hS hA rfl (fun j hj => by rcases (show j = 0 ∨ j = 1 ∨ j = 2 ∨ j = 3 ∨ j = 4 ∨ j = 5 by omega) with rfl | rfl | rfl | rfl | rfl | rfl <;> rfl) (Nat.le_of_ble_eq_true rfl) (Nat.le_of_ble_eq_true rfl) dX1_init_5 (fun z1 H hP hD hS => ?_)
  refine W.widen (k := 1) (n := 6) (Nat.le_of_ble_eq_true rfl) (Nat.le_of_ble_eq_true rfl) ?_
  have hP : va_P D vwCl [(h0, .inr (1, [.null, .null, .null, .null, .null, .null, .int 0, .int 0, .int 0])), (z1, thE tZ)] H := hP
  have hD : va_D A [(h0, .inr (1, [.null, .null, .null, .null, .null, .null, .int 0, .int 0, .int 0])), (z1, thE tZ)] := hD
  refine lv_dup hx hb dX1_init_8 rfl ?_
  refine lv_iconst (v := 4) hx hb dX1_init_9 (by decide) ?_
  refine lv_iconst (v := 2) hx hb dX1_init_10 (by decide) ?_
  refine lv_null hx hb dX1_init_11 ?_
  have hPc := hP.sub (ws' := [(z1, thE tZ)]) [1] rfl
  have hf2 := va_free (wc := [(z1, thE tZ)]) hD hS hA [1] rfl
  refine va_callv (va_runIN (host := "FamilyProbes") (As := [.int 4, .int 2, va_rf none]) (rest := [.ref z1, .ref h0]) ⟨hx, hb, hml, hown, hts⟩ (k_Ti l D z1 H.size 4 2 none tZ) ⟨va_cnB 3 hts gX1_init_X0_init_n11 rfl rfl rfl (hN (.methodLinkNest RX1 11 yX0_init "FamilyProbes") (by decide +kernel)) (hts (.initialized RX0) (by decide +kernel)) (by decide +kernel) ⟨Nat.le_of_ble_eq_true rfl, Nat.le_of_ble_eq_true rfl⟩, rfl, hts (.instanceMethod yX0_init) (by decide +kernel)⟩ (iPre (A := A) hK hPc 4 2 none tZ (fun _ h => by cases h)) rfl rfl hl.1 rfl (lv_room (Nat.le_of_ble_eq_true rfl)) dX1_init_12 ⟨Nat.le_of_ble_eq_true rfl, Nat.le_of_ble_eq_true rfl⟩) hS (fun a _ h => hf2 a h) hf2 (fun v3 t4 H1 locs ht hvm hw5 hB hz1 hk1 hS => ?_)
  obtain ⟨hP1, hD1⟩ := hB
  rw [ht] at hP1
  obtain rfl := hw5
  obtain ⟨hP, hD⟩ := va_join (wr := [(h0, .inr (1, [.null, .null, .null, .null, .null, .null, .int 0, .int 0, .int 0]))]) (w1 := [(z1, thE (iTh 4 2 none tZ))]) hP hD [1] [0] rfl rfl (by decide) (by decide) hk1 hf2 hP1 hD1
  generalize H1 = H at hP hS ⊢
  have hP : va_P D vwCl [(h0, .inr (1, [.null, .null, .null, .null, .null, .null, .int 0, .int 0, .int 0])), (z1, thE (4, 2, none, 0, 0, 0))] H := hP
  have hD : va_D A [(h0, .inr (1, [.null, .null, .null, .null, .null, .null, .int 0, .int 0, .int 0])), (z1, thE (4, 2, none, 0, 0, 0))] := hD
  refine va_putF (D := D) (ci := 1) (v := .ref z1) (ty := .object "FamilyProbes$Thing") (C := RX1) (T := TX1) (N := 9) hx hb hts (by decide +kernel) tyX1 tyX1_ok nmX1 hown hK hP hD hS 0 rfl rfl 0 (by decide) (hts (.fieldLink RX1 14 "FamilyProbes" "wren" "LFamilyProbes$Thing;") (by decide +kernel)) (fun _ h9 => h9) rfl hin rfl (by decide +kernel) rfl rfl (Nat.le_of_ble_eq_true rfl) dX1_init_15 (fun H locs hP hD hS => ?_)
  have hP : va_P D vwCl [(h0, .inr (1, [.ref z1, .null, .null, .null, .null, .null, .int 0, .int 0, .int 0])), (z1, thE (4, 2, none, 0, 0, 0))] H := hP
  have hD : va_D A [(h0, .inr (1, [.ref z1, .null, .null, .null, .null, .null, .int 0, .int 0, .int 0])), (z1, thE (4, 2, none, 0, 0, 0))] := hD
  refine lv_aload_n hx hb dX1_init_18 rfl (lv_at hl 0 rfl) ?_
  refine va_new (ci := 0) (fs := [.int 0, .int 0, .null, .int 0, .int 0, .int 0]) (C := RX0) (T := TX0) (N := 6) hx hb hts (by decide +kernel) tyX0 tyX0_ok hown (hts (.classLink RX1 9 RX0) (by decide +kernel)) (hts (.instantiable RX0 6) (by decide +kernel)) (hts (.initialized RX0) (by decide +kernel)) hK hP hD hS hA rfl (fun j hj => by rcases (show j = 0 ∨ j = 1 ∨ j = 2 ∨ j = 3 ∨ j = 4 ∨ j = 5 by omega) with rfl | rfl | rfl | rfl | rfl | rfl <;> rfl) (Nat.le_of_ble_eq_true rfl) (Nat.le_of_ble_eq_true rfl) dX1_init_19 (fun z6 H hP hD hS => ?_)
  refine W.widen (k := 2) (n := 12) (Nat.le_of_ble_eq_true rfl) (Nat.le_of_ble_eq_true rfl) ?_
  have hP : va_P D vwCl [(h0, .inr (1, [.ref z1, .null, .null, .null, .null, .null, .int 0, .int 0, .int 0])), (z1, thE (4, 2, none, 0, 0, 0)), (z6, thE tZ)] H := hP
  have hD : va_D A [(h0, .inr (1, [.ref z1, .null, .null, .null, .null, .null, .int 0, .int 0, .int 0])), (z1, thE (4, 2, none, 0, 0, 0)), (z6, thE tZ)] := hD
  refine lv_dup hx hb dX1_init_22 rfl ?_
  refine lv_iconst (v := 5) hx hb dX1_init_23 (by decide) ?_
  refine lv_bipush (v := 9) hx hb dX1_init_24 (by decide) ?_
  refine lv_null hx hb dX1_init_26 ?_
  have hPc := hP.sub (ws' := [(z6, thE tZ)]) [2] rfl
  have hf7 := va_free (wc := [(z6, thE tZ)]) hD hS hA [2] rfl
  refine va_callv (va_runIN (host := "FamilyProbes") (As := [.int 5, .int 9, va_rf none]) (rest := [.ref z6, .ref h0]) ⟨hx, hb, hml, hown, hts⟩ (k_Ti l D z6 H.size 5 9 none tZ) ⟨va_cnB 3 hts gX1_init_X0_init_n11 rfl rfl rfl (hN (.methodLinkNest RX1 11 yX0_init "FamilyProbes") (by decide +kernel)) (hts (.initialized RX0) (by decide +kernel)) (by decide +kernel) ⟨Nat.le_of_ble_eq_true rfl, Nat.le_of_ble_eq_true rfl⟩, rfl, hts (.instanceMethod yX0_init) (by decide +kernel)⟩ (iPre (A := A) hK hPc 5 9 none tZ (fun _ h => by cases h)) rfl rfl hl.1 rfl (lv_room (Nat.le_of_ble_eq_true rfl)) dX1_init_27 ⟨Nat.le_of_ble_eq_true rfl, Nat.le_of_ble_eq_true rfl⟩) hS (fun a _ h => hf7 a h) hf7 (fun v8 t9 H1 locs ht hvm hw10 hB hz1 hk1 hS => ?_)
  obtain ⟨hP1, hD1⟩ := hB
  rw [ht] at hP1
  obtain rfl := hw10
  obtain ⟨hP, hD⟩ := va_join (wr := [(h0, .inr (1, [.ref z1, .null, .null, .null, .null, .null, .int 0, .int 0, .int 0])), (z1, thE (4, 2, none, 0, 0, 0))]) (w1 := [(z6, thE (iTh 5 9 none tZ))]) hP hD [2] [0, 1] rfl rfl (by decide) (by decide) hk1 hf7 hP1 hD1
  generalize H1 = H at hP hS ⊢
  have hP : va_P D vwCl [(h0, .inr (1, [.ref z1, .null, .null, .null, .null, .null, .int 0, .int 0, .int 0])), (z1, thE (4, 2, none, 0, 0, 0)), (z6, thE (5, 9, none, 0, 0, 0))] H := hP
  have hD : va_D A [(h0, .inr (1, [.ref z1, .null, .null, .null, .null, .null, .int 0, .int 0, .int 0])), (z1, thE (4, 2, none, 0, 0, 0)), (z6, thE (5, 9, none, 0, 0, 0))] := hD
  refine va_putF (D := D) (ci := 1) (v := .ref z6) (ty := .object "FamilyProbes$Thing") (C := RX1) (T := TX1) (N := 9) hx hb hts (by decide +kernel) tyX1 tyX1_ok nmX1 hown hK hP hD hS 0 rfl rfl 1 (by decide) (hts (.fieldLink RX1 18 "FamilyProbes" "owl" "LFamilyProbes$Thing;") (by decide +kernel)) (fun _ h9 => h9) rfl hin rfl (by decide +kernel) rfl rfl (Nat.le_of_ble_eq_true rfl) dX1_init_30 (fun H locs hP hD hS => ?_)
  have hP : va_P D vwCl [(h0, .inr (1, [.ref z1, .ref z6, .null, .null, .null, .null, .int 0, .int 0, .int 0])), (z1, thE (4, 2, none, 0, 0, 0)), (z6, thE (5, 9, none, 0, 0, 0))] H := hP
  have hD : va_D A [(h0, .inr (1, [.ref z1, .ref z6, .null, .null, .null, .null, .int 0, .int 0, .int 0])), (z1, thE (4, 2, none, 0, 0, 0)), (z6, thE (5, 9, none, 0, 0, 0))] := hD
  refine lv_aload_n hx hb dX1_init_33 rfl (lv_at hl 0 rfl) ?_
  refine lv_bipush (v := 8) hx hb dX1_init_34 (by decide) ?_
  refine va_newq (N' := 8) hx hb hown (hts (.classLink RX1 9 RX0) (by decide +kernel)) hAO hK hP hD hS hA (by decide) (by decide) (by decide) (Nat.le_of_ble_eq_true rfl) (Nat.le_of_ble_eq_true rfl) dX1_init_36 (fun z11 cA12 H hK hP hD hS => ?_)
  refine W.widen (k := 3) (n := 20) (Nat.le_of_ble_eq_true rfl) (Nat.le_of_ble_eq_true rfl) ?_
  have hK : va_K D vwCl [(cA12, .object RX0)] s := hK
  have hP : va_P D vwCl [(h0, .inr (1, [.ref z1, .ref z6, .null, .null, .null, .null, .int 0, .int 0, .int 0])), (z1, thE (4, 2, none, 0, 0, 0)), (z6, thE (5, 9, none, 0, 0, 0)), (z11, .inl (cA12, 8, .inr (.inr (.inr (.inr (fun _ => none))))))] H := hP
  have hD : va_D A [(h0, .inr (1, [.ref z1, .ref z6, .null, .null, .null, .null, .int 0, .int 0, .int 0])), (z1, thE (4, 2, none, 0, 0, 0)), (z6, thE (5, 9, none, 0, 0, 0)), (z11, .inl (cA12, 8, .inr (.inr (.inr (.inr (fun _ => none))))))] := hD
  refine va_putF (D := D) (ci := 1) (v := .ref z11) (ty := .array (.object "FamilyProbes$Thing")) (C := RX1) (T := TX1) (N := 9) hx hb hts (by decide +kernel) tyX1 tyX1_ok nmX1 hown hK hP hD hS 0 rfl rfl 2 (by decide) (hts (.fieldLink RX1 21 "FamilyProbes" "slots" "[LFamilyProbes$Thing;") (by decide +kernel)) (fun _ h9 => h9) rfl hin rfl (by decide +kernel) rfl rfl (Nat.le_of_ble_eq_true rfl) dX1_init_39 (fun H locs hP hD hS => ?_)
  have hP : va_P D vwCl [(h0, .inr (1, [.ref z1, .ref z6, .ref z11, .null, .null, .null, .int 0, .int 0, .int 0])), (z1, thE (4, 2, none, 0, 0, 0)), (z6, thE (5, 9, none, 0, 0, 0)), (z11, .inl (cA12, 8, .inr (.inr (.inr (.inr (fun _ => none))))))] H := hP
  have hD : va_D A [(h0, .inr (1, [.ref z1, .ref z6, .ref z11, .null, .null, .null, .int 0, .int 0, .int 0])), (z1, thE (4, 2, none, 0, 0, 0)), (z6, thE (5, 9, none, 0, 0, 0)), (z11, .inl (cA12, 8, .inr (.inr (.inr (.inr (fun _ => none))))))] := hD
  refine lv_aload_n hx hb dX1_init_42 rfl (lv_at hl 0 rfl) ?_
  refine lv_bipush (v := 16) hx hb dX1_init_43 (by decide) ?_
  refine va_newq (N' := 16) hx hb hown (hts (.classLink RX1 9 RX0) (by decide +kernel)) hAO hK hP hD hS hA (by decide) (by decide) (by decide) (Nat.le_of_ble_eq_true rfl) (Nat.le_of_ble_eq_true rfl) dX1_init_45 (fun z13 cA14 H hK hP hD hS => ?_)
  refine W.widen (k := 4) (n := 36) (Nat.le_of_ble_eq_true rfl) (Nat.le_of_ble_eq_true rfl) ?_
  have hK : va_K D vwCl [(cA12, .object RX0), (cA14, .object RX0)] s := hK
  have hP : va_P D vwCl [(h0, .inr (1, [.ref z1, .ref z6, .ref z11, .null, .null, .null, .int 0, .int 0, .int 0])), (z1, thE (4, 2, none, 0, 0, 0)), (z6, thE (5, 9, none, 0, 0, 0)), (z11, .inl (cA12, 8, .inr (.inr (.inr (.inr (fun _ => none)))))), (z13, .inl (cA14, 16, .inr (.inr (.inr (.inr (fun _ => none))))))] H := hP
  have hD : va_D A [(h0, .inr (1, [.ref z1, .ref z6, .ref z11, .null, .null, .null, .int 0, .int 0, .int 0])), (z1, thE (4, 2, none, 0, 0, 0)), (z6, thE (5, 9, none, 0, 0, 0)), (z11, .inl (cA12, 8, .inr (.inr (.inr (.inr (fun _ => none)))))), (z13, .inl (cA14, 16, .inr (.inr (.inr (.inr (fun _ => none))))))] := hD
  refine va_putF (D := D) (ci := 1) (v := .ref z13) (ty := .array (.object "FamilyProbes$Thing")) (C := RX1) (T := TX1) (N := 9) hx hb hts (by decide +kernel) tyX1 tyX1_ok nmX1 hown hK hP hD hS 0 rfl rfl 3 (by decide) (hts (.fieldLink RX1 25 "FamilyProbes" "places" "[LFamilyProbes$Thing;") (by decide +kernel)) (fun _ h9 => h9) rfl hin rfl (by decide +kernel) rfl rfl (Nat.le_of_ble_eq_true rfl) dX1_init_48 (fun H locs hP hD hS => ?_)
  have hP : va_P D vwCl [(h0, .inr (1, [.ref z1, .ref z6, .ref z11, .ref z13, .null, .null, .int 0, .int 0, .int 0])), (z1, thE (4, 2, none, 0, 0, 0)), (z6, thE (5, 9, none, 0, 0, 0)), (z11, .inl (cA12, 8, .inr (.inr (.inr (.inr (fun _ => none)))))), (z13, .inl (cA14, 16, .inr (.inr (.inr (.inr (fun _ => none))))))] H := hP
  have hD : va_D A [(h0, .inr (1, [.ref z1, .ref z6, .ref z11, .ref z13, .null, .null, .int 0, .int 0, .int 0])), (z1, thE (4, 2, none, 0, 0, 0)), (z6, thE (5, 9, none, 0, 0, 0)), (z11, .inl (cA12, 8, .inr (.inr (.inr (.inr (fun _ => none)))))), (z13, .inl (cA14, 16, .inr (.inr (.inr (.inr (fun _ => none))))))] := hD
  refine lv_aload_n hx hb dX1_init_51 rfl (lv_at hl 0 rfl) ?_
  refine lv_iconst (v := 4) hx hb dX1_init_52 (by decide) ?_
  refine va_newq (N' := 4) hx hb hown (hts (.classLink RX1 9 RX0) (by decide +kernel)) hAO hK hP hD hS hA (by decide) (by decide) (by decide) (Nat.le_of_ble_eq_true rfl) (Nat.le_of_ble_eq_true rfl) dX1_init_53 (fun z15 cA16 H hK hP hD hS => ?_)
  refine W.widen (k := 5) (n := 40) (Nat.le_of_ble_eq_true rfl) (Nat.le_of_ble_eq_true rfl) ?_
  have hK : va_K D vwCl [(cA12, .object RX0), (cA14, .object RX0), (cA16, .object RX0)] s := hK
  have hP : va_P D vwCl [(h0, .inr (1, [.ref z1, .ref z6, .ref z11, .ref z13, .null, .null, .int 0, .int 0, .int 0])), (z1, thE (4, 2, none, 0, 0, 0)), (z6, thE (5, 9, none, 0, 0, 0)), (z11, .inl (cA12, 8, .inr (.inr (.inr (.inr (fun _ => none)))))), (z13, .inl (cA14, 16, .inr (.inr (.inr (.inr (fun _ => none)))))), (z15, .inl (cA16, 4, .inr (.inr (.inr (.inr (fun _ => none))))))] H := hP
  have hD : va_D A [(h0, .inr (1, [.ref z1, .ref z6, .ref z11, .ref z13, .null, .null, .int 0, .int 0, .int 0])), (z1, thE (4, 2, none, 0, 0, 0)), (z6, thE (5, 9, none, 0, 0, 0)), (z11, .inl (cA12, 8, .inr (.inr (.inr (.inr (fun _ => none)))))), (z13, .inl (cA14, 16, .inr (.inr (.inr (.inr (fun _ => none)))))), (z15, .inl (cA16, 4, .inr (.inr (.inr (.inr (fun _ => none))))))] := hD
  refine va_putF (D := D) (ci := 1) (v := .ref z15) (ty := .array (.object "FamilyProbes$Thing")) (C := RX1) (T := TX1) (N := 9) hx hb hts (by decide +kernel) tyX1 tyX1_ok nmX1 hown hK hP hD hS 0 rfl rfl 4 (by decide) (hts (.fieldLink RX1 28 "FamilyProbes" "passing" "[LFamilyProbes$Thing;") (by decide +kernel)) (fun _ h9 => h9) rfl hin rfl (by decide +kernel) rfl rfl (Nat.le_of_ble_eq_true rfl) dX1_init_56 (fun H locs hP hD hS => ?_)
  have hP : va_P D vwCl [(h0, .inr (1, [.ref z1, .ref z6, .ref z11, .ref z13, .ref z15, .null, .int 0, .int 0, .int 0])), (z1, thE (4, 2, none, 0, 0, 0)), (z6, thE (5, 9, none, 0, 0, 0)), (z11, .inl (cA12, 8, .inr (.inr (.inr (.inr (fun _ => none)))))), (z13, .inl (cA14, 16, .inr (.inr (.inr (.inr (fun _ => none)))))), (z15, .inl (cA16, 4, .inr (.inr (.inr (.inr (fun _ => none))))))] H := hP
  have hD : va_D A [(h0, .inr (1, [.ref z1, .ref z6, .ref z11, .ref z13, .ref z15, .null, .int 0, .int 0, .int 0])), (z1, thE (4, 2, none, 0, 0, 0)), (z6, thE (5, 9, none, 0, 0, 0)), (z11, .inl (cA12, 8, .inr (.inr (.inr (.inr (fun _ => none)))))), (z13, .inl (cA14, 16, .inr (.inr (.inr (.inr (fun _ => none)))))), (z15, .inl (cA16, 4, .inr (.inr (.inr (.inr (fun _ => none))))))] := hD
  refine lv_aload_n hx hb dX1_init_59 rfl (lv_at hl 0 rfl) ?_
  refine lv_bipush (v := 16) hx hb dX1_init_60 (by decide) ?_
  refine va_newa (atype := .int) (N' := 16) (ty := .int) (a0 := (16, .inl (fun _ => 0))) hx hb (hts (.arrayClass .int) (by decide +kernel)) rfl hK hP hD hS hA (fun _ => rfl) (by decide) (by decide) (by decide) (Nat.le_of_ble_eq_true rfl) (Nat.le_of_ble_eq_true rfl) dX1_init_62 (fun z17 cA18 H hK hP hD hS => ?_)
  refine W.widen (k := 6) (n := 56) (Nat.le_of_ble_eq_true rfl) (Nat.le_of_ble_eq_true rfl) ?_
  have hK : va_K D vwCl [(cA12, .object RX0), (cA14, .object RX0), (cA16, .object RX0), (cA18, .int)] s := hK
  have hP : va_P D vwCl [(h0, .inr (1, [.ref z1, .ref z6, .ref z11, .ref z13, .ref z15, .null, .int 0, .int 0, .int 0])), (z1, thE (4, 2, none, 0, 0, 0)), (z6, thE (5, 9, none, 0, 0, 0)), (z11, .inl (cA12, 8, .inr (.inr (.inr (.inr (fun _ => none)))))), (z13, .inl (cA14, 16, .inr (.inr (.inr (.inr (fun _ => none)))))), (z15, .inl (cA16, 4, .inr (.inr (.inr (.inr (fun _ => none)))))), (z17, .inl (cA18, 16, .inl (fun _ => 0)))] H := hP
  have hD : va_D A [(h0, .inr (1, [.ref z1, .ref z6, .ref z11, .ref z13, .ref z15, .null, .int 0, .int 0, .int 0])), (z1, thE (4, 2, none, 0, 0, 0)), (z6, thE (5, 9, none, 0, 0, 0)), (z11, .inl (cA12, 8, .inr (.inr (.inr (.inr (fun _ => none)))))), (z13, .inl (cA14, 16, .inr (.inr (.inr (.inr (fun _ => none)))))), (z15, .inl (cA16, 4, .inr (.inr (.inr (.inr (fun _ => none)))))), (z17, .inl (cA18, 16, .inl (fun _ => 0)))] := hD
  refine va_putF (D := D) (ci := 1) (v := .ref z17) (ty := .array .int) (C := RX1) (T := TX1) (N := 9) hx hb hts (by decide +kernel) tyX1 tyX1_ok nmX1 hown hK hP hD hS 0 rfl rfl 5 (by decide) (hts (.fieldLink RX1 31 "FamilyProbes" "lastEvents" "[I") (by decide +kernel)) (fun _ h9 => h9) rfl hin rfl (by decide +kernel) rfl rfl (Nat.le_of_ble_eq_true rfl) dX1_init_64 (fun H locs hP hD hS => ?_)
  have hP : va_P D vwCl [(h0, .inr (1, [.ref z1, .ref z6, .ref z11, .ref z13, .ref z15, .ref z17, .int 0, .int 0, .int 0])), (z1, thE (4, 2, none, 0, 0, 0)), (z6, thE (5, 9, none, 0, 0, 0)), (z11, .inl (cA12, 8, .inr (.inr (.inr (.inr (fun _ => none)))))), (z13, .inl (cA14, 16, .inr (.inr (.inr (.inr (fun _ => none)))))), (z15, .inl (cA16, 4, .inr (.inr (.inr (.inr (fun _ => none)))))), (z17, .inl (cA18, 16, .inl (fun _ => 0)))] H := hP
  have hD : va_D A [(h0, .inr (1, [.ref z1, .ref z6, .ref z11, .ref z13, .ref z15, .ref z17, .int 0, .int 0, .int 0])), (z1, thE (4, 2, none, 0, 0, 0)), (z6, thE (5, 9, none, 0, 0, 0)), (z11, .inl (cA12, 8, .inr (.inr (.inr (.inr (fun _ => none)))))), (z13, .inl (cA14, 16, .inr (.inr (.inr (.inr (fun _ => none)))))), (z15, .inl (cA16, 4, .inr (.inr (.inr (.inr (fun _ => none)))))), (z17, .inl (cA18, 16, .inl (fun _ => 0)))] := hD
  have hne : z1 ≠ z6 := fun h => by have h2 := hD.1 1 2 _ _ rfl rfl h; exact absurd h2 (by decide)
  have eW : xW (h0, z1, z6, z11, z13, z15, z17, cA12, cA14, cA16, cA18) ((fun _ => none), (fun _ => none), (fun _ => none), (fun _ => 0), 0, 0, 0, [z1, z6], xT0 z1 z6) = [(h0, .inr (1, [.ref z1, .ref z6, .ref z11, .ref z13, .ref z15, .ref z17, .int 0, .int 0, .int 0])), (z11, .inl (cA12, 8, .inr (.inr (.inr (.inr (fun _ => none)))))), (z13, .inl (cA14, 16, .inr (.inr (.inr (.inr (fun _ => none)))))), (z15, .inl (cA16, 4, .inr (.inr (.inr (.inr (fun _ => none)))))), (z17, .inl (cA18, 16, .inl (fun _ => 0))), (z1, thE (4, 2, none, 0, 0, 0)), (z6, thE (5, 9, none, 0, 0, 0))] := by simp [xW, xX, va_pl, thP, xT0_w hne, xT0_o, List.map]
  have hP : va_P D vwCl (xW (h0, z1, z6, z11, z13, z15, z17, cA12, cA14, cA16, cA18) ((fun _ => none), (fun _ => none), (fun _ => none), (fun _ => 0), 0, 0, 0, [z1, z6], xT0 z1 z6)) H := by rw [eW]; exact hP.sub [0, 3, 4, 5, 6, 1, 2] rfl
  have hD : va_D A (xW (h0, z1, z6, z11, z13, z15, z17, cA12, cA14, cA16, cA18) ((fun _ => none), (fun _ => none), (fun _ => none), (fun _ => 0), 0, 0, 0, [z1, z6], xT0 z1 z6)) := by rw [eW]; exact hD.sub [0, 3, 4, 5, 6, 1, 2] (by decide) rfl
  exact W.vret hx hb hr (fun tE ht hW => ⟨⟨((h0, z1, z6, z11, z13, z15, z17, cA12, cA14, cA16, cA18), ((fun _ => none), (fun _ => none), (fun _ => none), (fun _ => 0), 0, 0, 0, [z1, z6], xT0 z1 z6)), rfl, ⟨rfl, hne, rfl⟩, by rw [ht]; exact hP, va_K.moved hW.alike hK, hD⟩, hS.F ht⟩) hS.2.2 dX1_init_67
