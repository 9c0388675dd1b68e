set_option maxHeartbeats 8000000 in
set_option maxRecDepth 100000 in
theorem k_Ti (l : Launch) (D : va_G) (q sz : Nat) (k n : Int32) (o : Option Nat) (tb : TH) : Met l yX0_init wsX0_init ({ frames := 1, cells := 0, slots := 0, locals := 12 }) (iPc D q sz k n o tb) (va_Qv (fun v : TH => v = iTh k n o tb) (fun v t => va_P D vwCl [(q, thE v)] t.heap ∧ va_D (va_A [(q, thE tZ)] sz) [(q, thE v)]) (va_A [(q, thE tZ)] sz)) 0 0 (va_A [(q, thE tZ)] sz) := by
  rcases o with _ | b0
  · refine Met.ofW (cc := cX0_init) (maxL := 4) (ret := none) (by decide) rfl ?_
    intro p e s m args below meth c s₁ B hml hv
    obtain ⟨rfl, hsz, hP, hK, hD0, hO⟩ := hv
    have hx := B.exec
    have hb := B.bytes
    have hr := B.returns
    have hts := atoms_spec (ws := wsX0_init) B.pre
    have hown : s.vm.findClass RX0 = some m.cls := findClass_of_methodNamed B.named
    have hlocks := B.notSynchronized
    have hin : meth.name = "<init>" := (name_of_methodNamed B.named B.method).1
    subst hsz
    have hD := hD0.self (sz := s.heap.size)
    generalize hAe : va_A [(q, thE tZ)] s.heap.size = A at hD hO ⊢
    have hS : va_S A s.heap s.heap [] := va_S.rf
    have hl := lv_entry ([.ref q, .int k, .int n, va_rf none]) (n := 4) (Nat.le_of_ble_eq_true rfl)
    rw [lg_entry_eq]
    generalize (lg_sl ([.ref q, .int k, .int n, va_rf none]) ++ List.replicate (4 - (lg_sl ([.ref q, .int k, .int n, va_rf none])).length) Slot.unset).toArray = ls at hl ⊢
    have hl : lv_has ls 4 [(0, .ref q), (1, .int k), (2, .int n), (3, .null)] := hl
    refine lv_aload_n hx hb dX0_init_0 rfl (lv_at hl 0 rfl) ?_
    refine W.objInit hx hb hown (hts (.methodLink RX0 1 objectInit) (by decide +kernel)) (hts (.instanceMethod objectInit) (by decide +kernel)) (hts (.code objectInit ⟨#[0xb1]⟩ 1 none) (by decide +kernel)) rfl (by rw [hml]; exact hl.1) rfl dX0_init_1 (Nat.le_of_ble_eq_true rfl) (Nat.le_of_ble_eq_true rfl) ?_
    refine W.eq (g2 := F0 m 4 ls []) rfl ?_
    refine lv_aload_n hx hb dX0_init_4 rfl (lv_at hl 0 rfl) ?_
    refine lv_iload_n hx hb dX0_init_5 rfl (lv_at hl 1 rfl) ?_
    refine va_putF (D := D) (ci := 0) (v := .int k) (ty := .int) (C := RX0) (T := TX0) (N := 6) hx hb hts (by decide +kernel) tyX0 tyX0_ok nmX0 hown hK hP hD hS 0 rfl rfl 0 (by decide) (hts (.fieldLink RX0 7 "FamilyProbes$Thing" "kind" "I") (by decide +kernel)) (fun _ h9 => h9) rfl hin rfl (by decide +kernel) rfl rfl (Nat.le_of_ble_eq_true rfl) dX0_init_6 (fun H locs hP hD hS => ?_)
    have hP : va_P D vwCl [(q, thE (k, 0, none, 0, 0, 0))] H := hP
    have hD : va_D A [(q, thE (k, 0, none, 0, 0, 0))] := hD
    refine lv_aload_n hx hb dX0_init_9 rfl (lv_at hl 0 rfl) ?_
    refine lv_iload_n hx hb dX0_init_10 rfl (lv_at hl 2 rfl) ?_
    refine va_putF (D := D) (ci := 0) (v := .int n) (ty := .int) (C := RX0) (T := TX0) (N := 6) hx hb hts (by decide +kernel) tyX0 tyX0_ok nmX0 hown hK hP hD hS 0 rfl rfl 1 (by decide) (hts (.fieldLink RX0 13 "FamilyProbes$Thing" "n" "I") (by decide +kernel)) (fun _ h9 => h9) rfl hin rfl (by decide +kernel) rfl rfl (Nat.le_of_ble_eq_true rfl) dX0_init_11 (fun H locs hP hD hS => ?_)
    have hP : va_P D vwCl [(q, thE (k, n, none, 0, 0, 0))] H := hP
    have hD : va_D A [(q, thE (k, n, none, 0, 0, 0))] := hD
    refine lv_aload_n hx hb dX0_init_14 rfl (lv_at hl 0 rfl) ?_
    refine lv_aload_nN hx hb dX0_init_15 rfl (lv_at hl 3 rfl) ?_
    refine va_putF (D := D) (ci := 0) (v := .null) (ty := .object "FamilyProbes$Thing") (C := RX0) (T := TX0) (N := 6) hx hb hts (by decide +kernel) tyX0 tyX0_ok nmX0 hown hK hP hD hS 0 rfl rfl 2 (by decide) (hts (.fieldLink RX0 16 "FamilyProbes$Thing" "source" "LFamilyProbes$Thing;") (by decide +kernel)) (fun _ h9 => h9) rfl hin rfl (by decide +kernel) rfl rfl (Nat.le_of_ble_eq_true rfl) dX0_init_16 (fun H locs hP hD hS => ?_)
    have hP : va_P D vwCl [(q, thE (k, n, none, 0, 0, 0))] H := hP
    have hD : va_D A [(q, thE (k, n, none, 0, 0, 0))] := hD
    refine lv_aload_n hx hb dX0_init_19 rfl (lv_at hl 0 rfl) ?_
    refine lv_aload_nN hx hb dX0_init_20 rfl (lv_at hl 3 rfl) ?_
    refine lv_ifnonnullN hx hb dX0_init_21 ?_
    refine lv_iconst (v := 0) hx hb dX0_init_24 (by decide) ?_
    refine lv_goto (tgt := 34) hx hb dX0_init_25 (by decide) ?_
    refine va_putF (D := D) (ci := 0) (v := .int 0) (ty := .int) (C := RX0) (T := TX0) (N := 6) hx hb hts (by decide +kernel) tyX0 tyX0_ok nmX0 hown hK hP hD hS 0 rfl rfl 3 (by decide) (hts (.fieldLink RX0 20 "FamilyProbes$Thing" "repeaters" "I") (by decide +kernel)) (fun _ h9 => h9) rfl hin rfl (by decide +kernel) rfl rfl (Nat.le_of_ble_eq_true rfl) dX0_init_34 (fun H locs hP hD hS => ?_)
    have hP : va_P D vwCl [(q, thE (k, n, none, 0, 0, 0))] H := hP
    have hD : va_D A [(q, thE (k, n, none, 0, 0, 0))] := hD
    exact W.vret hx hb hr (fun tE ht hW => ⟨⟨(k, n, none, 0, 0, 0), rfl, rfl, by rw [ht]; exact hP, hD⟩, hS.F ht⟩) hS.2.2 dX0_init_37
  · refine Met.ofW (cc := cX0_init) (maxL := 4) (ret := none) (by decide) rfl ?_
    intro p e s m args below meth c s₁ B hml hv
    obtain ⟨rfl, hsz, hP, hK, hD0, hO⟩ := hv
    have hx := B.exec
    have hb := B.bytes
    have hr := B.returns
    have hts := atoms_spec (ws := wsX0_init) B.pre
    have hown : s.vm.findClass RX0 = some m.cls := findClass_of_methodNamed B.named
    have hlocks := B.notSynchronized
    have hin : meth.name = "<init>" := (name_of_methodNamed B.named B.method).1
    subst hsz
    have hD := hD0.self (sz := s.heap.size)
    replace hO := hO b0 rfl
    generalize hAe : va_A [(q, thE tZ)] s.heap.size = A at hD hO ⊢
    have hS : va_S A s.heap s.heap [] := va_S.rf
    have hl := lv_entry ([.ref q, .int k, .int n, va_rf (some b0)]) (n := 4) (Nat.le_of_ble_eq_true rfl)
    rw [lg_entry_eq]
    generalize (lg_sl ([.ref q, .int k, .int n, va_rf (some b0)]) ++ List.replicate (4 - (lg_sl ([.ref q, .int k, .int n, va_rf (some b0)])).length) Slot.unset).toArray = ls at hl ⊢
    have hl : lv_has ls 4 [(0, .ref q), (1, .int k), (2, .int n), (3, .ref b0)] := hl
    refine lv_aload_n hx hb dX0_init_0 rfl (lv_at hl 0 rfl) ?_
    refine W.objInit hx hb hown (hts (.methodLink RX0 1 objectInit) (by decide +kernel)) (hts (.instanceMethod objectInit) (by decide +kernel)) (hts (.code objectInit ⟨#[0xb1]⟩ 1 none) (by decide +kernel)) rfl (by rw [hml]; exact hl.1) rfl dX0_init_1 (Nat.le_of_ble_eq_true rfl) (Nat.le_of_ble_eq_true rfl) ?_
    refine W.eq (g2 := F0 m 4 ls []) rfl ?_
    refine lv_aload_n hx hb dX0_init_4 rfl (lv_at hl 0 rfl) ?_
    refine lv_iload_n hx hb dX0_init_5 rfl (lv_at hl 1 rfl) ?_
    refine va_putF (D := D) (ci := 0) (v := .int k) (ty := .int) (C := RX0) (T := TX0) (N := 6) hx hb hts (by decide +kernel) tyX0 tyX0_ok nmX0 hown hK hP hD hS 0 rfl rfl 0 (by decide) (hts (.fieldLink RX0 7 "FamilyProbes$Thing" "kind" "I") (by decide +kernel)) (fun _ h9 => h9) rfl hin rfl (by decide +kernel) rfl rfl (Nat.le_of_ble_eq_true rfl) dX0_init_6 (fun H locs hP hD hS => ?_)
    have hP : va_P D vwCl [(q, thE (k, 0, none, 0, 0, 0))] H := hP
    have hD : va_D A [(q, thE (k, 0, none, 0, 0, 0))] := hD
    refine lv_aload_n hx hb dX0_init_9 rfl (lv_at hl 0 rfl) ?_
    refine lv_iload_n hx hb dX0_init_10 rfl (lv_at hl 2 rfl) ?_
    refine va_putF (D := D) (ci := 0) (v := .int n) (ty := .int) (C := RX0) (T := TX0) (N := 6) hx hb hts (by decide +kernel) tyX0 tyX0_ok nmX0 hown hK hP hD hS 0 rfl rfl 1 (by decide) (hts (.fieldLink RX0 13 "FamilyProbes$Thing" "n" "I") (by decide +kernel)) (fun _ h9 => h9) rfl hin rfl (by decide +kernel) rfl rfl (Nat.le_of_ble_eq_true rfl) dX0_init_11 (fun H locs hP hD hS => ?_)
    have hP : va_P D vwCl [(q, thE (k, n, none, 0, 0, 0))] H := hP
    have hD : va_D A [(q, thE (k, n, none, 0, 0, 0))] := hD
    refine lv_aload_n hx hb dX0_init_14 rfl (lv_at hl 0 rfl) ?_
    refine lv_aload_n hx hb dX0_init_15 rfl (lv_at hl 3 rfl) ?_
    refine va_putF (D := D) (ci := 0) (v := .ref b0) (ty := .object "FamilyProbes$Thing") (C := RX0) (T := TX0) (N := 6) hx hb hts (by decide +kernel) tyX0 tyX0_ok nmX0 hown hK hP hD hS 0 rfl rfl 2 (by decide) (hts (.fieldLink RX0 16 "FamilyProbes$Thing" "source" "LFamilyProbes$Thing;") (by decide +kernel)) (fun _ h9 => h9) rfl hin rfl (by decide +kernel) rfl rfl (Nat.le_of_ble_eq_true rfl) dX0_init_16 (fun H locs hP hD hS => ?_)
    have hP : va_P D vwCl [(q, thE (k, n, (some b0), 0, 0, 0))] H := hP
    have hD : va_D A [(q, thE (k, n, (some b0), 0, 0, 0))] := hD
    refine lv_aload_n hx hb dX0_init_19 rfl (lv_at hl 0 rfl) ?_
    refine lv_aload_n hx hb dX0_init_20 rfl (lv_at hl 3 rfl) ?_
    refine lv_ifnonnull (tgt := 28) hx hb dX0_init_21 (by decide) ?_
    refine lv_aload_n hx hb dX0_init_28 rfl (lv_at hl 3 rfl) ?_
    refine va_get (D := D) (ci := 0) (v := .int tb.2.2.2.1) (C := RX0) (T := TX0) (N := 6) hx hb hts (by decide +kernel) hown hK (r_keep hO.2 hS hO.1) 0 rfl rfl 3 (by decide) (hts (.fieldLink RX0 20 "FamilyProbes$Thing" "repeaters" "I") (by decide +kernel)) (fun _ h9 => h9) rfl dX0_init_29 ?_
    refine lv_iconst (v := 1) hx hb dX0_init_32 (by decide) ?_
    refine lv_iadd hx hb dX0_init_33 ?_
    refine va_putF (D := D) (ci := 0) (v := .int (tb.2.2.2.1 + 1)) (ty := .int) (C := RX0) (T := TX0) (N := 6) hx hb hts (by decide +kernel) tyX0 tyX0_ok nmX0 hown hK hP hD hS 0 rfl rfl 3 (by decide) (hts (.fieldLink RX0 20 "FamilyProbes$Thing" "repeaters" "I") (by decide +kernel)) (fun _ h9 => h9) rfl hin rfl (by decide +kernel) rfl rfl (Nat.le_of_ble_eq_true rfl) dX0_init_34 (fun H locs hP hD hS => ?_)
    have hP : va_P D vwCl [(q, thE (k, n, (some b0), (tb.2.2.2.1 + 1), 0, 0))] H := hP
    have hD : va_D A [(q, thE (k, n, (some b0), (tb.2.2.2.1 + 1), 0, 0))] := hD
    exact W.vret hx hb hr (fun tE ht hW => ⟨⟨(k, n, (some b0), (tb.2.2.2.1 + 1), 0, 0), rfl, rfl, by rw [ht]; exact hP, hD⟩, hS.F ht⟩) hS.2.2 dX0_init_37
set_option maxHeartbeats 8000000 in
set_option maxRecDepth 100000 in
theorem k_newBase (l : Launch) (D : va_G) (F : XF) (u : XS) (hok : xOk F u) (sz : Nat) (p0 : Int32) (p1 : Int32) : Met l yX1_newBase wsX1_newBase ({ frames := 2, cells := 1, slots := 6, locals := 35 }) (xPc D F u sz [.ref F.1, .int p0, .int p1]) (va_Qr (fun v : XS × Nat => rBase u p0 p1 v) (fun v a t => a = v.2 ∧ xB D F (va_A (xW F u) sz) v.1 t) (va_A (xW F u) sz)) 1 6 (va_A (xW F u) sz) := by
  obtain ⟨sS, sP, sQ, sE, ec, sc, vl, LP, sT⟩ := u
  refine Met.ofW (cc := cX1_newBase) (maxL := 4) (ret := (some (.object "FamilyProbes$Thing"))) (by decide) rfl ?_
  intro p e s m args below meth c s₁ B hml hv
  obtain ⟨rfl, hsz, hP, hK, hD0, hN, hZ⟩ := hv
  have hx := B.exec
  have hb := B.bytes
  have hr := B.returns
  have hts := atoms_spec (ws := wsX1_newBase) B.pre
  have hown : s.vm.findClass RX1 = some m.cls := findClass_of_methodNamed B.named
  have hlocks := B.notSynchronized
  subst hsz
  have hD := hD0.self (sz := s.heap.size)
  generalize hAe : va_A (xW F (sS, sP, sQ, sE, ec, sc, vl, LP, sT)) s.heap.size = A at hD hZ ⊢
  have hA : ∀ q : Nat, s.heap.size ≤ q → A q := fun q h => by rw [← hAe]; exact Or.inr h
  have hS : va_S A s.heap s.heap [] := va_S.rf
  obtain ⟨tk, tm, tr, hztk, httk, hztm, httm, hztr, httr⟩ := id hZ
  refine xHeap (C := fun H => va_P D vwCl (xW F (sS, sP, sQ, sE, ec, sc, vl, LP, sT)) H ∧ va_S A s.heap H []) ⟨hP, hS⟩ (fun H hC => ?_)
  obtain ⟨hP, hS⟩ := hC
  have hl := lv_entry ([.ref F.1, .int p0, .int p1]) (n := 4) (Nat.le_of_ble_eq_true rfl)
  rw [lg_entry_eq]
  generalize (lg_sl ([.ref F.1, .int p0, .int p1]) ++ List.replicate (4 - (lg_sl ([.ref F.1, .int p0, .int p1])).length) Slot.unset).toArray = ls at hl ⊢
  have hl : lv_has ls 4 [(0, .ref F.1), (1, .int p0), (2, .int p1)] := hl
  refine va_new (ci := 0) (fs := [.int 0, .int 0, .null, .int 0, .int 0, .int 0]) (C := RX0) (T := TX0) (N := 6) hx hb hts (by decide +kernel) tyX0 tyX0_ok hown (hts (.classLink RX1 9 RX0) (by decide +kernel)) (hts (.instantiable RX0 6) (by decide +kernel)) (hts (.initialized RX0) (by decide +kernel)) hK hP hD hS hA rfl (fun j hj => by rcases (show j = 0 ∨ j = 1 ∨ j = 2 ∨ j = 3 ∨ j = 4 ∨ j = 5 by omega) with rfl | rfl | rfl | rfl | rfl | rfl <;> rfl) (Nat.le_of_ble_eq_true rfl) (Nat.le_of_ble_eq_true rfl) dX1_newBase_0 (fun z1 H hP hD hS => ?_)
  refine W.widen (k := 1) (n := 6) (Nat.le_of_ble_eq_true rfl) (Nat.le_of_ble_eq_true rfl) ?_
  have hP : va_P D vwCl (xW F (sS, sP, sQ, sE, ec, sc, vl, LP, sT) ++ [(z1, thE tZ)]) H := hP
  have hD : va_D A (xW F (sS, sP, sQ, sE, ec, sc, vl, LP, sT) ++ [(z1, thE tZ)]) := hD
  have hfz1 : z1 ∉ gL (sS, sP, sQ, sE, ec, sc, vl, LP, sT) := x_fresh hD
  rw [x_push hfz1] at hP hD
  have hP : va_P D vwCl (xW F (sS, sP, sQ, sE, ec, sc, vl, (LP ++ [z1]), (va_up sT z1 tZ))) H := hP
  have hD : va_D A (xW F (sS, sP, sQ, sE, ec, sc, vl, (LP ++ [z1]), (va_up sT z1 tZ))) := hD
  refine lv_dup hx hb dX1_newBase_3 rfl ?_
  refine lv_iload_n hx hb dX1_newBase_4 rfl (lv_at hl 1 rfl) ?_
  refine lv_iload_n hx hb dX1_newBase_5 rfl (lv_at hl 2 rfl) ?_
  refine lv_null hx hb dX1_newBase_6 ?_
  have hq2 : va_P D vwCl [(z1, thE tZ)] H := x_oneT (a := z1) hP (List.mem_append_right _ (List.mem_singleton.mpr rfl)) (va_up_self _ _ _)
  have hf3 : ∀ a, va_A [(z1, thE tZ)] H.size a → A a := fun a h => xFree hD hS hA a (h.elim (fun ⟨j, e1, h⟩ => Or.inl (by have hj : j < 1 := (List.getElem?_eq_some_iff.mp h).1; rw [show j = 0 by omega] at h; cases h; obtain ⟨k9, h9⟩ := va_pl_get (X := xX F (sS, sP, sQ, sE, ec, sc, vl, (LP ++ [z1]), (va_up sT z1 tZ))) (f := thP (va_up sT z1 tZ)) (List.mem_append_right _ (List.mem_singleton.mpr rfl)); exact ⟨k9, _, h9⟩)) Or.inr)
  refine va_callv (va_runIN (host := "FamilyProbes") (As := [.int p0, .int p1, va_rf none]) (rest := [.ref z1]) ⟨hx, hb, hml, hown, hts⟩ (k_Ti l D z1 H.size p0 p1 none tZ) ⟨va_cnB 3 hts gX1_newBase_X0_init_n11 rfl rfl rfl (hN (.methodLinkNest RX1 11 yX0_init "FamilyProbes") (by decide +kernel)) (hts (.initialized RX0) (by decide +kernel)) (by decide +kernel) ⟨Nat.le_of_ble_eq_true rfl, Nat.le_of_ble_eq_true rfl⟩, rfl, hts (.instanceMethod yX0_init) (by decide +kernel)⟩ (iPre (A := A) hK hq2 p0 p1 none tZ (fun _ h => by cases h)) rfl rfl hl.1 rfl (lv_room (Nat.le_of_ble_eq_true rfl)) dX1_newBase_7 ⟨Nat.le_of_ble_eq_true rfl, Nat.le_of_ble_eq_true rfl⟩) hS (fun a _ h => hf3 a h) hf3 (fun v4 t5 H1 locs ht hvm hw6 hB hz1 hk1 hS => ?_)
  obtain ⟨hP1, -⟩ := hB
  rw [ht] at hP1
  obtain rfl := hw6
  obtain ⟨hP, hD⟩ := x_upd hP hD (List.mem_append_right _ (List.mem_singleton.mpr rfl)) hk1 hP1
  generalize H1 = H at hP hS ⊢
  have hP : va_P D vwCl (xW F (sS, sP, sQ, sE, ec, sc, vl, (LP ++ [z1]), (va_up (va_up sT z1 tZ) z1 (p0, p1, none, 0, 0, 0)))) H := hP
  have hD : va_D A (xW F (sS, sP, sQ, sE, ec, sc, vl, (LP ++ [z1]), (va_up (va_up sT z1 tZ) z1 (p0, p1, none, 0, 0, 0)))) := hD
  rw [bx_uu] at hP hD
  refine lv_astore_n (lv' := [(3, .ref z1), (0, .ref F.1), (1, .int p0), (2, .int p1)]) hx hb dX1_newBase_10 rfl hl (by decide) rfl (fun ls hl => ?_)
  refine lv_aload_n hx hb dX1_newBase_11 rfl (lv_at hl 1 rfl) ?_
  refine lv_aload_n hx hb dX1_newBase_12 rfl (lv_at hl 0 rfl) ?_
  refine vp_callSi (va_Run.run (va_runS (As := [.ref z1]) (rest := [.ref F.1]) ⟨hx, hb, hml, hown, hts⟩ (k_seedOf l D z1 (p0, p1, none, 0, 0, 0) ) (va_cwS 1 hts gX1_newBase_X1_seedOf rfl rfl rfl (by decide +kernel) ⟨Nat.le_of_ble_eq_true rfl, Nat.le_of_ble_eq_true rfl⟩) (rPre hN hK (x_oneT (a := z1) hP (List.mem_append_right _ (List.mem_singleton.mpr rfl)) (va_up_self _ _ _)) hS hZ xFalse _) rfl rfl hl.1 rfl (lv_room (Nat.le_of_ble_eq_true rfl)) dX1_newBase_13 ⟨Nat.le_of_ble_eq_true rfl, Nat.le_of_ble_eq_true rfl⟩)) (fun r7 hw8 => ?_)
  subst hw8
  have hf9 := xFree hD hS hA
  refine va_callv (va_runV (As := [.int (fSeed (p0, p1, none, 0, 0, 0))]) (rest := []) ⟨hx, hb, hml, hown, hts⟩ (k_note l D F (sS, sP, sQ, sE, ec, sc, vl, (LP ++ [z1]), (va_up sT z1 (p0, p1, none, 0, 0, 0)))  H.size (fSeed (p0, p1, none, 0, 0, 0))) (cwV 1 hts gX1_newBase_X1_note rfl rfl rfl (by decide +kernel) ⟨Nat.le_of_ble_eq_true rfl, Nat.le_of_ble_eq_true rfl⟩) (xPre hN hK hP hD hS hA hZ _) rfl rfl hl.1 rfl (lv_room (Nat.le_of_ble_eq_true rfl)) dX1_newBase_16 ⟨Nat.le_of_ble_eq_true rfl, Nat.le_of_ble_eq_true rfl⟩) hS (fun q _ h => hf9 q h) hf9 (fun v11 t13 H1 locs ht hvm hw12 hB hz1 hk1 hS => ?_)
  obtain ⟨hP1, hK1, hD1⟩ := hB
  rw [ht] at hP1
  replace hD1 := hD1.weaken (fun _ _ _ h => hf9 _ h)
  generalize H1 = H at hP1 hS ⊢
  obtain rfl := (show v11 = (sS, sP, sQ, (upd sE (ec &&& 15).toNatClampNeg (fSeed (p0, p1, none, 0, 0, 0))), (ec + 1), sc, vl, (LP ++ [z1]), (va_up sT z1 (p0, p1, none, 0, 0, 0))) from hw12)
  have hP : va_P D vwCl (xW F (sS, sP, sQ, (upd sE (ec &&& 15).toNatClampNeg (fSeed (p0, p1, none, 0, 0, 0))), (ec + 1), sc, vl, (LP ++ [z1]), (va_up sT z1 (p0, p1, none, 0, 0, 0)))) H := hP1
  have hD : va_D A (xW F (sS, sP, sQ, (upd sE (ec &&& 15).toNatClampNeg (fSeed (p0, p1, none, 0, 0, 0))), (ec + 1), sc, vl, (LP ++ [z1]), (va_up sT z1 (p0, p1, none, 0, 0, 0)))) := hD1
  refine lv_iload_n hx hb dX1_newBase_19 rfl (lv_at hl 2 rfl) ?_
  refine lv_if_ne (tgt := 28) hx hb dX1_newBase_20 (by decide) (fun c14 => ?_) (fun c14 => ?_)
  · refine lv_iload_n hx hb dX1_newBase_28 rfl (lv_at hl 2 rfl) ?_
    refine lv_bipush (v := 9) hx hb dX1_newBase_29 (by decide) ?_
    refine lv_icmp_ne (tgt := 49) hx hb dX1_newBase_31 (by decide) (fun c15 => ?_) (fun c15 => ?_)
    · refine lv_aload_n hx hb dX1_newBase_49 rfl (lv_at hl 0 rfl) ?_
      refine W.widen (k := 1) (n := 6) (Nat.le_of_ble_eq_true rfl) (Nat.le_of_ble_eq_true rfl) ?_
      exact W.aret hx hb hr (Or.inl ⟨_, rfl⟩) (Or.inr ⟨_, rfl⟩) (fun tE ht hW => ⟨⟨((sS, sP, sQ, (upd sE (ec &&& 15).toNatClampNeg (fSeed (p0, p1, none, 0, 0, 0))), (ec + 1), sc, vl, (LP ++ [z1]), (va_up sT z1 (p0, p1, none, 0, 0, 0))), z1), z1, rfl, ⟨hfz1, by first | (simp only [vBase, uT, uN, tNew, gS, gP, gQ, gE, gec, gsc, gvl, gL, gT, c14, c15, eq_self, ↓reduceIte, Bool.false_eq_true, Bool.not_false, Bool.not_true, Bool.and_true, Bool.and_false, Bool.true_and, Bool.false_and, decide_true, decide_false] <;> first | done | decide) | (simp [vBase, uT, uN, tNew, gS, gP, gQ, gE, gec, gsc, gvl, gL, gT, c14, c15]; done) | (exfalso; simp_all; done)⟩, rfl, by rw [ht]; exact hP, va_K.moved hW.alike hK, hD⟩, hS.F ht⟩) hS.2.2 dX1_newBase_50
    · refine lv_aload_n hx hb dX1_newBase_34 rfl (lv_at hl 0 rfl) ?_
      refine lv_iload_n hx hb dX1_newBase_35 rfl (lv_at hl 3 rfl) ?_
      refine lv_iconst (v := 1) hx hb dX1_newBase_36 (by decide) ?_
      refine lv_iadd hx hb dX1_newBase_37 ?_
      obtain ⟨k16, hk16⟩ := va_pl_get (X := xX F (sS, sP, sQ, (upd sE (ec &&& 15).toNatClampNeg (fSeed (p0, p1, none, 0, 0, 0))), (ec + 1), sc, vl, (LP ++ [z1]), (va_up sT z1 (p0, p1, none, 0, 0, 0)))) (f := thP (va_up sT z1 (p0, p1, none, 0, 0, 0))) (List.mem_append_right _ (List.mem_singleton.mpr rfl))
      have xk16 : (xW F (sS, sP, sQ, (upd sE (ec &&& 15).toNatClampNeg (fSeed (p0, p1, none, 0, 0, 0))), (ec + 1), sc, vl, (LP ++ [z1]), (va_up sT z1 (p0, p1, none, 0, 0, 0))))[k16]? = some (z1, thE (p0, p1, none, 0, 0, 0)) := by rw [show thE (p0, p1, none, 0, 0, 0) = thP (va_up sT z1 (p0, p1, none, 0, 0, 0)) z1 from by simp [thP, va_up]]; exact hk16
      refine va_putN (D := D) (ci := 0) (v := .int (p1 + 1)) (ty := .int) (C := RX0) (T := TX0) (N := 6) hx hb hts (by decide +kernel) tyX0 tyX0_ok nmX0 hown hK hP hD hS k16 xk16 rfl 5 (by decide) (va_Nw.use rfl (hN (.fieldLinkNest RX1 138 "FamilyProbes$Thing" "extra" "I" "FamilyProbes") (by decide +kernel))) (fun _ h9 => h9) rfl (by decide +kernel) rfl rfl (Nat.le_of_ble_eq_true rfl) dX1_newBase_38 (fun H locs hP hD9 hS => ?_)
      have hP : va_P D vwCl ((xW F (sS, sP, sQ, (upd sE (ec &&& 15).toNatClampNeg (fSeed (p0, p1, none, 0, 0, 0))), (ec + 1), sc, vl, (LP ++ [z1]), (va_up sT z1 (p0, p1, none, 0, 0, 0)))).set k16 (z1, thE (p0, p1, none, 0, 0, (p1 + 1)))) H := hP
      have hD9 : va_D A ((xW F (sS, sP, sQ, (upd sE (ec &&& 15).toNatClampNeg (fSeed (p0, p1, none, 0, 0, 0))), (ec + 1), sc, vl, (LP ++ [z1]), (va_up sT z1 (p0, p1, none, 0, 0, 0)))).set k16 (z1, thE (p0, p1, none, 0, 0, (p1 + 1)))) := hD9
      rw [x_setT hD (List.mem_append_right _ (List.mem_singleton.mpr rfl)) hk16] at hP hD9
      replace hD := hD9
      have hP : va_P D vwCl (xW F (sS, sP, sQ, (upd sE (ec &&& 15).toNatClampNeg (fSeed (p0, p1, none, 0, 0, 0))), (ec + 1), sc, vl, (LP ++ [z1]), (va_up (va_up sT z1 (p0, p1, none, 0, 0, 0)) z1 (p0, p1, none, 0, 0, (p1 + 1))))) H := hP
      have hD : va_D A (xW F (sS, sP, sQ, (upd sE (ec &&& 15).toNatClampNeg (fSeed (p0, p1, none, 0, 0, 0))), (ec + 1), sc, vl, (LP ++ [z1]), (va_up (va_up sT z1 (p0, p1, none, 0, 0, 0)) z1 (p0, p1, none, 0, 0, (p1 + 1))))) := hD
      rw [bx_uu] at hP hD
      refine lv_aload_n hx hb dX1_newBase_41 rfl (lv_at hl 1 rfl) ?_
      refine lv_aload_n hx hb dX1_newBase_42 rfl (lv_at hl 0 rfl) ?_
      obtain ⟨k17, hk17⟩ := va_pl_get (X := xX F (sS, sP, sQ, (upd sE (ec &&& 15).toNatClampNeg (fSeed (p0, p1, none, 0, 0, 0))), (ec + 1), sc, vl, (LP ++ [z1]), (va_up sT z1 (p0, p1, none, 0, 0, (p1 + 1))))) (f := thP (va_up sT z1 (p0, p1, none, 0, 0, (p1 + 1)))) (List.mem_append_right _ (List.mem_singleton.mpr rfl))
      replace hk17 : (xW F (sS, sP, sQ, (upd sE (ec &&& 15).toNatClampNeg (fSeed (p0, p1, none, 0, 0, 0))), (ec + 1), sc, vl, (LP ++ [z1]), (va_up sT z1 (p0, p1, none, 0, 0, (p1 + 1)))))[k17]? = some (z1, thE (p0, p1, none, 0, 0, (p1 + 1))) := by rw [show thE (p0, p1, none, 0, 0, (p1 + 1)) = thP (va_up sT z1 (p0, p1, none, 0, 0, (p1 + 1))) z1 from by simp [thP, va_up]]; exact hk17
      refine va_getN (D := D) (ci := 0) (v := .int (p1 + 1)) (C := RX0) (T := TX0) (N := 6) hx hb hts (by decide +kernel) hown hK hP k17 hk17 rfl 5 (by decide) (va_Nw.use rfl (hN (.fieldLinkNest RX1 138 "FamilyProbes$Thing" "extra" "I" "FamilyProbes") (by decide +kernel))) (fun _ h9 => h9) rfl dX1_newBase_43 ?_
      have hf18 := xFree hD hS hA
      refine va_callv (va_runV (As := [.int (p1 + 1)]) (rest := []) ⟨hx, hb, hml, hown, hts⟩ (k_note l D F (sS, sP, sQ, (upd sE (ec &&& 15).toNatClampNeg (fSeed (p0, p1, none, 0, 0, 0))), (ec + 1), sc, vl, (LP ++ [z1]), (va_up sT z1 (p0, p1, none, 0, 0, (p1 + 1))))  H.size (p1 + 1)) (cwV 1 hts gX1_newBase_X1_note rfl rfl rfl (by decide +kernel) ⟨Nat.le_of_ble_eq_true rfl, Nat.le_of_ble_eq_true rfl⟩) (xPre hN hK hP hD hS hA hZ _) rfl rfl hl.1 rfl (lv_room (Nat.le_of_ble_eq_true rfl)) dX1_newBase_46 ⟨Nat.le_of_ble_eq_true rfl, Nat.le_of_ble_eq_true rfl⟩) hS (fun q _ h => hf18 q h) hf18 (fun v20 t22 H1 locs ht hvm hw21 hB hz1 hk1 hS => ?_)
      obtain ⟨hP1, hK1, hD1⟩ := hB
      rw [ht] at hP1
      replace hD1 := hD1.weaken (fun _ _ _ h => hf18 _ h)
      generalize H1 = H at hP1 hS ⊢
      obtain rfl := (show v20 = (sS, sP, sQ, (upd (upd sE (ec &&& 15).toNatClampNeg (fSeed (p0, p1, none, 0, 0, 0))) ((ec + 1) &&& 15).toNatClampNeg (p1 + 1)), ((ec + 1) + 1), sc, vl, (LP ++ [z1]), (va_up sT z1 (p0, p1, none, 0, 0, (p1 + 1)))) from hw21)
      have hP : va_P D vwCl (xW F (sS, sP, sQ, (upd (upd sE (ec &&& 15).toNatClampNeg (fSeed (p0, p1, none, 0, 0, 0))) ((ec + 1) &&& 15).toNatClampNeg (p1 + 1)), ((ec + 1) + 1), sc, vl, (LP ++ [z1]), (va_up sT z1 (p0, p1, none, 0, 0, (p1 + 1))))) H := hP1
      have hD : va_D A (xW F (sS, sP, sQ, (upd (upd sE (ec &&& 15).toNatClampNeg (fSeed (p0, p1, none, 0, 0, 0))) ((ec + 1) &&& 15).toNatClampNeg (p1 + 1)), ((ec + 1) + 1), sc, vl, (LP ++ [z1]), (va_up sT z1 (p0, p1, none, 0, 0, (p1 + 1))))) := hD1
      refine lv_aload_n hx hb dX1_newBase_49 rfl (lv_at hl 0 rfl) ?_
      refine W.widen (k := 1) (n := 6) (Nat.le_of_ble_eq_true rfl) (Nat.le_of_ble_eq_true rfl) ?_
      exact W.aret hx hb hr (Or.inl ⟨_, rfl⟩) (Or.inr ⟨_, rfl⟩) (fun tE ht hW => ⟨⟨((sS, sP, sQ, (upd (upd sE (ec &&& 15).toNatClampNeg (fSeed (p0, p1, none, 0, 0, 0))) ((ec + 1) &&& 15).toNatClampNeg (p1 + 1)), ((ec + 1) + 1), sc, vl, (LP ++ [z1]), (va_up sT z1 (p0, p1, none, 0, 0, (p1 + 1)))), z1), z1, rfl, ⟨hfz1, by first | (simp only [vBase, uT, uN, tNew, gS, gP, gQ, gE, gec, gsc, gvl, gL, gT, c14, eq_true c15, eq_self, ↓reduceIte, Bool.false_eq_true, Bool.not_false, Bool.not_true, Bool.and_true, Bool.and_false, Bool.true_and, Bool.false_and, decide_true, decide_false] <;> first | done | decide) | (simp only [vBase, uT, uN, tNew, gS, gP, gQ, gE, gec, gsc, gvl, gL, gT, c14, c15, eq_self, ↓reduceIte, Bool.false_eq_true, Bool.not_false, Bool.not_true, Bool.and_true, Bool.and_false, Bool.true_and, Bool.false_and, decide_true, decide_false] <;> first | done | decide) | (simp [vBase, uT, uN, tNew, gS, gP, gQ, gE, gec, gsc, gvl, gL, gT, c14, c15]; done) | (simp [vBase, uT, uN, tNew, gS, gP, gQ, gE, gec, gsc, gvl, gL, gT, c14, eq_true c15]; done) | (exfalso; simp_all; done)⟩, rfl, by rw [ht]; exact hP, va_K.moved hW.alike hK, hD⟩, hS.F ht⟩) hS.2.2 dX1_newBase_50
  · refine lv_aload_n hx hb dX1_newBase_23 rfl (lv_at hl 0 rfl) ?_
    refine lv_iconst (v := 4) hx hb dX1_newBase_24 (by decide) ?_
    obtain ⟨k23, hk23⟩ := va_pl_get (X := xX F (sS, sP, sQ, (upd sE (ec &&& 15).toNatClampNeg (fSeed (p0, p1, none, 0, 0, 0))), (ec + 1), sc, vl, (LP ++ [z1]), (va_up sT z1 (p0, p1, none, 0, 0, 0)))) (f := thP (va_up sT z1 (p0, p1, none, 0, 0, 0))) (List.mem_append_right _ (List.mem_singleton.mpr rfl))
    have xk23 : (xW F (sS, sP, sQ, (upd sE (ec &&& 15).toNatClampNeg (fSeed (p0, p1, none, 0, 0, 0))), (ec + 1), sc, vl, (LP ++ [z1]), (va_up sT z1 (p0, p1, none, 0, 0, 0))))[k23]? = some (z1, thE (p0, p1, none, 0, 0, 0)) := by rw [show thE (p0, p1, none, 0, 0, 0) = thP (va_up sT z1 (p0, p1, none, 0, 0, 0)) z1 from by simp [thP, va_up]]; exact hk23
    refine va_putN (D := D) (ci := 0) (v := .int 4) (ty := .int) (C := RX0) (T := TX0) (N := 6) hx hb hts (by decide +kernel) tyX0 tyX0_ok nmX0 hown hK hP hD hS k23 xk23 rfl 4 (by decide) (va_Nw.use rfl (hN (.fieldLinkNest RX1 135 "FamilyProbes$Thing" "bonus" "I" "FamilyProbes") (by decide +kernel))) (fun _ h9 => h9) rfl (by decide +kernel) rfl rfl (Nat.le_of_ble_eq_true rfl) dX1_newBase_25 (fun H locs hP hD9 hS => ?_)
    have hP : va_P D vwCl ((xW F (sS, sP, sQ, (upd sE (ec &&& 15).toNatClampNeg (fSeed (p0, p1, none, 0, 0, 0))), (ec + 1), sc, vl, (LP ++ [z1]), (va_up sT z1 (p0, p1, none, 0, 0, 0)))).set k23 (z1, thE (p0, p1, none, 0, 4, 0))) H := hP
    have hD9 : va_D A ((xW F (sS, sP, sQ, (upd sE (ec &&& 15).toNatClampNeg (fSeed (p0, p1, none, 0, 0, 0))), (ec + 1), sc, vl, (LP ++ [z1]), (va_up sT z1 (p0, p1, none, 0, 0, 0)))).set k23 (z1, thE (p0, p1, none, 0, 4, 0))) := hD9
    rw [x_setT hD (List.mem_append_right _ (List.mem_singleton.mpr rfl)) hk23] at hP hD9
    replace hD := hD9
    have hP : va_P D vwCl (xW F (sS, sP, sQ, (upd sE (ec &&& 15).toNatClampNeg (fSeed (p0, p1, none, 0, 0, 0))), (ec + 1), sc, vl, (LP ++ [z1]), (va_up (va_up sT z1 (p0, p1, none, 0, 0, 0)) z1 (p0, p1, none, 0, 4, 0)))) H := hP
    have hD : va_D A (xW F (sS, sP, sQ, (upd sE (ec &&& 15).toNatClampNeg (fSeed (p0, p1, none, 0, 0, 0))), (ec + 1), sc, vl, (LP ++ [z1]), (va_up (va_up sT z1 (p0, p1, none, 0, 0, 0)) z1 (p0, p1, none, 0, 4, 0)))) := hD
    rw [bx_uu] at hP hD
    refine lv_iload_n hx hb dX1_newBase_28 rfl (lv_at hl 2 rfl) ?_
    refine lv_bipush (v := 9) hx hb dX1_newBase_29 (by decide) ?_
    refine lv_icmp_ne (tgt := 49) hx hb dX1_newBase_31 (by decide) (fun c24 => ?_) (fun c24 => ?_)
    · refine lv_aload_n hx hb dX1_newBase_49 rfl (lv_at hl 0 rfl) ?_
      refine W.widen (k := 1) (n := 6) (Nat.le_of_ble_eq_true rfl) (Nat.le_of_ble_eq_true rfl) ?_
      exact W.aret hx hb hr (Or.inl ⟨_, rfl⟩) (Or.inr ⟨_, rfl⟩) (fun tE ht hW => ⟨⟨((sS, sP, sQ, (upd sE (ec &&& 15).toNatClampNeg (fSeed (p0, p1, none, 0, 0, 0))), (ec + 1), sc, vl, (LP ++ [z1]), (va_up sT z1 (p0, p1, none, 0, 4, 0))), z1), z1, rfl, ⟨hfz1, by first | (simp only [vBase, uT, uN, tNew, gS, gP, gQ, gE, gec, gsc, gvl, gL, gT, eq_true c14, c24, eq_self, ↓reduceIte, Bool.false_eq_true, Bool.not_false, Bool.not_true, Bool.and_true, Bool.and_false, Bool.true_and, Bool.false_and, decide_true, decide_false] <;> first | done | decide) | (simp only [vBase, uT, uN, tNew, gS, gP, gQ, gE, gec, gsc, gvl, gL, gT, c14, c24, eq_self, ↓reduceIte, Bool.false_eq_true, Bool.not_false, Bool.not_true, Bool.and_true, Bool.and_false, Bool.true_and, Bool.false_and, decide_true, decide_false] <;> first | done | decide) | (simp [vBase, uT, uN, tNew, gS, gP, gQ, gE, gec, gsc, gvl, gL, gT, c14, c24]; done) | (simp [vBase, uT, uN, tNew, gS, gP, gQ, gE, gec, gsc, gvl, gL, gT, eq_true c14, c24]; done) | (exfalso; simp_all; done)⟩, rfl, by rw [ht]; exact hP, va_K.moved hW.alike hK, hD⟩, hS.F ht⟩) hS.2.2 dX1_newBase_50
    · refine lv_aload_n hx hb dX1_newBase_34 rfl (lv_at hl 0 rfl) ?_
      refine lv_iload_n hx hb dX1_newBase_35 rfl (lv_at hl 3 rfl) ?_
      refine lv_iconst (v := 1) hx hb dX1_newBase_36 (by decide) ?_
      refine lv_iadd hx hb dX1_newBase_37 ?_
      obtain ⟨k25, hk25⟩ := va_pl_get (X := xX F (sS, sP, sQ, (upd sE (ec &&& 15).toNatClampNeg (fSeed (p0, p1, none, 0, 0, 0))), (ec + 1), sc, vl, (LP ++ [z1]), (va_up sT z1 (p0, p1, none, 0, 4, 0)))) (f := thP (va_up sT z1 (p0, p1, none, 0, 4, 0))) (List.mem_append_right _ (List.mem_singleton.mpr rfl))
      have xk25 : (xW F (sS, sP, sQ, (upd sE (ec &&& 15).toNatClampNeg (fSeed (p0, p1, none, 0, 0, 0))), (ec + 1), sc, vl, (LP ++ [z1]), (va_up sT z1 (p0, p1, none, 0, 4, 0))))[k25]? = some (z1, thE (p0, p1, none, 0, 4, 0)) := by rw [show thE (p0, p1, none, 0, 4, 0) = thP (va_up sT z1 (p0, p1, none, 0, 4, 0)) z1 from by simp [thP, va_up]]; exact hk25
      refine va_putN (D := D) (ci := 0) (v := .int (p1 + 1)) (ty := .int) (C := RX0) (T := TX0) (N := 6) hx hb hts (by decide +kernel) tyX0 tyX0_ok nmX0 hown hK hP hD hS k25 xk25 rfl 5 (by decide) (va_Nw.use rfl (hN (.fieldLinkNest RX1 138 "FamilyProbes$Thing" "extra" "I" "FamilyProbes") (by decide +kernel))) (fun _ h9 => h9) rfl (by decide +kernel) rfl rfl (Nat.le_of_ble_eq_true rfl) dX1_newBase_38 (fun H locs hP hD9 hS => ?_)
      have hP : va_P D vwCl ((xW F (sS, sP, sQ, (upd sE (ec &&& 15).toNatClampNeg (fSeed (p0, p1, none, 0, 0, 0))), (ec + 1), sc, vl, (LP ++ [z1]), (va_up sT z1 (p0, p1, none, 0, 4, 0)))).set k25 (z1, thE (p0, p1, none, 0, 4, (p1 + 1)))) H := hP
      have hD9 : va_D A ((xW F (sS, sP, sQ, (upd sE (ec &&& 15).toNatClampNeg (fSeed (p0, p1, none, 0, 0, 0))), (ec + 1), sc, vl, (LP ++ [z1]), (va_up sT z1 (p0, p1, none, 0, 4, 0)))).set k25 (z1, thE (p0, p1, none, 0, 4, (p1 + 1)))) := hD9
      rw [x_setT hD (List.mem_append_right _ (List.mem_singleton.mpr rfl)) hk25] at hP hD9
      replace hD := hD9
      have hP : va_P D vwCl (xW F (sS, sP, sQ, (upd sE (ec &&& 15).toNatClampNeg (fSeed (p0, p1, none, 0, 0, 0))), (ec + 1), sc, vl, (LP ++ [z1]), (va_up (va_up sT z1 (p0, p1, none, 0, 4, 0)) z1 (p0, p1, none, 0, 4, (p1 + 1))))) H := hP
      have hD : va_D A (xW F (sS, sP, sQ, (upd sE (ec &&& 15).toNatClampNeg (fSeed (p0, p1, none, 0, 0, 0))), (ec + 1), sc, vl, (LP ++ [z1]), (va_up (va_up sT z1 (p0, p1, none, 0, 4, 0)) z1 (p0, p1, none, 0, 4, (p1 + 1))))) := hD
      rw [bx_uu] at hP hD
      refine lv_aload_n hx hb dX1_newBase_41 rfl (lv_at hl 1 rfl) ?_
      refine lv_aload_n hx hb dX1_newBase_42 rfl (lv_at hl 0 rfl) ?_
      obtain ⟨k26, hk26⟩ := va_pl_get (X := xX F (sS, sP, sQ, (upd sE (ec &&& 15).toNatClampNeg (fSeed (p0, p1, none, 0, 0, 0))), (ec + 1), sc, vl, (LP ++ [z1]), (va_up sT z1 (p0, p1, none, 0, 4, (p1 + 1))))) (f := thP (va_up sT z1 (p0, p1, none, 0, 4, (p1 + 1)))) (List.mem_append_right _ (List.mem_singleton.mpr rfl))
      replace hk26 : (xW F (sS, sP, sQ, (upd sE (ec &&& 15).toNatClampNeg (fSeed (p0, p1, none, 0, 0, 0))), (ec + 1), sc, vl, (LP ++ [z1]), (va_up sT z1 (p0, p1, none, 0, 4, (p1 + 1)))))[k26]? = some (z1, thE (p0, p1, none, 0, 4, (p1 + 1))) := by rw [show thE (p0, p1, none, 0, 4, (p1 + 1)) = thP (va_up sT z1 (p0, p1, none, 0, 4, (p1 + 1))) z1 from by simp [thP, va_up]]; exact hk26
      refine va_getN (D := D) (ci := 0) (v := .int (p1 + 1)) (C := RX0) (T := TX0) (N := 6) hx hb hts (by decide +kernel) hown hK hP k26 hk26 rfl 5 (by decide) (va_Nw.use rfl (hN (.fieldLinkNest RX1 138 "FamilyProbes$Thing" "extra" "I" "FamilyProbes") (by decide +kernel))) (fun _ h9 => h9) rfl dX1_newBase_43 ?_
      have hf27 := xFree hD hS hA
      refine va_callv (va_runV (As := [.int (p1 + 1)]) (rest := []) ⟨hx, hb, hml, hown, hts⟩ (k_note l D F (sS, sP, sQ, (upd sE (ec &&& 15).toNatClampNeg (fSeed (p0, p1, none, 0, 0, 0))), (ec + 1), sc, vl, (LP ++ [z1]), (va_up sT z1 (p0, p1, none, 0, 4, (p1 + 1))))  H.size (p1 + 1)) (cwV 1 hts gX1_newBase_X1_note rfl rfl rfl (by decide +kernel) ⟨Nat.le_of_ble_eq_true rfl, Nat.le_of_ble_eq_true rfl⟩) (xPre hN hK hP hD hS hA hZ _) rfl rfl hl.1 rfl (lv_room (Nat.le_of_ble_eq_true rfl)) dX1_newBase_46 ⟨Nat.le_of_ble_eq_true rfl, Nat.le_of_ble_eq_true rfl⟩) hS (fun q _ h => hf27 q h) hf27 (fun v29 t31 H1 locs ht hvm hw30 hB hz1 hk1 hS => ?_)
      obtain ⟨hP1, hK1, hD1⟩ := hB
      rw [ht] at hP1
      replace hD1 := hD1.weaken (fun _ _ _ h => hf27 _ h)
      generalize H1 = H at hP1 hS ⊢
      obtain rfl := (show v29 = (sS, sP, sQ, (upd (upd sE (ec &&& 15).toNatClampNeg (fSeed (p0, p1, none, 0, 0, 0))) ((ec + 1) &&& 15).toNatClampNeg (p1 + 1)), ((ec + 1) + 1), sc, vl, (LP ++ [z1]), (va_up sT z1 (p0, p1, none, 0, 4, (p1 + 1)))) from hw30)
      have hP : va_P D vwCl (xW F (sS, sP, sQ, (upd (upd sE (ec &&& 15).toNatClampNeg (fSeed (p0, p1, none, 0, 0, 0))) ((ec + 1) &&& 15).toNatClampNeg (p1 + 1)), ((ec + 1) + 1), sc, vl, (LP ++ [z1]), (va_up sT z1 (p0, p1, none, 0, 4, (p1 + 1))))) H := hP1
      have hD : va_D A (xW F (sS, sP, sQ, (upd (upd sE (ec &&& 15).toNatClampNeg (fSeed (p0, p1, none, 0, 0, 0))) ((ec + 1) &&& 15).toNatClampNeg (p1 + 1)), ((ec + 1) + 1), sc, vl, (LP ++ [z1]), (va_up sT z1 (p0, p1, none, 0, 4, (p1 + 1))))) := hD1
      refine lv_aload_n hx hb dX1_newBase_49 rfl (lv_at hl 0 rfl) ?_
      refine W.widen (k := 1) (n := 6) (Nat.le_of_ble_eq_true rfl) (Nat.le_of_ble_eq_true rfl) ?_
      exact W.aret hx hb hr (Or.inl ⟨_, rfl⟩) (Or.inr ⟨_, rfl⟩) (fun tE ht hW => ⟨⟨((sS, sP, sQ, (upd (upd sE (ec &&& 15).toNatClampNeg (fSeed (p0, p1, none, 0, 0, 0))) ((ec + 1) &&& 15).toNatClampNeg (p1 + 1)), ((ec + 1) + 1), sc, vl, (LP ++ [z1]), (va_up sT z1 (p0, p1, none, 0, 4, (p1 + 1)))), z1), z1, rfl, ⟨hfz1, by first | (simp only [vBase, uT, uN, tNew, gS, gP, gQ, gE, gec, gsc, gvl, gL, gT, eq_true c14, eq_true c24, eq_self, ↓reduceIte, Bool.false_eq_true, Bool.not_false, Bool.not_true, Bool.and_true, Bool.and_false, Bool.true_and, Bool.false_and, decide_true, decide_false] <;> first | done | decide) | (simp only [vBase, uT, uN, tNew, gS, gP, gQ, gE, gec, gsc, gvl, gL, gT, c14, c24, eq_self, ↓reduceIte, Bool.false_eq_true, Bool.not_false, Bool.not_true, Bool.and_true, Bool.and_false, Bool.true_and, Bool.false_and, decide_true, decide_false] <;> first | done | decide) | (simp [vBase, uT, uN, tNew, gS, gP, gQ, gE, gec, gsc, gvl, gL, gT, c14, c24]; done) | (simp [vBase, uT, uN, tNew, gS, gP, gQ, gE, gec, gsc, gvl, gL, gT, eq_true c14, eq_true c24]; done) | (exfalso; simp_all; done)⟩, rfl, by rw [ht]; exact hP, va_K.moved hW.alike hK, hD⟩, hS.F ht⟩) hS.2.2 dX1_newBase_50
set_option maxHeartbeats 8000000 in
set_option maxRecDepth 100000 in
theorem k_newThing (l : Launch) (D : va_G) (F : XF) (u : XS) (hok : xOk F u) (sz : Nat) (p0 : Int32) (p1 : Int32) : Met l yX1_newThing wsX1_newThing ({ frames := 3, cells := 1, slots := 6, locals := 58 }) (xPc D F u sz [.ref F.1, .int p0, .int p1]) (va_Qr (fun v : XS × Nat => rNew F u p0 p1 v) (fun v a t => a = v.2 ∧ xB D F (va_A (xW F u) sz) v.1 t) (va_A (xW F u) sz)) 1 6 (va_A (xW F u) sz) := by
  obtain ⟨sS, sP, sQ, sE, ec, sc, vl, LP, sT⟩ := u
  refine Met.ofW (cc := cX1_newThing) (maxL := 3) (ret := (some (.object "FamilyProbes$Thing"))) (by decide) rfl ?_
  intro p e s m args below meth c s₁ B hml hv
  obtain ⟨rfl, hsz, hP, hK, hD0, hN, hZ⟩ := hv
  have hx := B.exec
  have hb := B.bytes
  have hr := B.returns
  have hts := atoms_spec (ws := wsX1_newThing) B.pre
  have hown : s.vm.findClass RX1 = some m.cls := findClass_of_methodNamed B.named
  have hlocks := B.notSynchronized
  subst hsz
  have hD := hD0.self (sz := s.heap.size)
  generalize hAe : va_A (xW F (sS, sP, sQ, sE, ec, sc, vl, LP, sT)) s.heap.size = A at hD hZ ⊢
  have hA : ∀ q : Nat, s.heap.size ≤ q → A q := fun q h => by rw [← hAe]; exact Or.inr h
  have hS : va_S A s.heap s.heap [] := va_S.rf
  obtain ⟨tk, tm, tr, hztk, httk, hztm, httm, hztr, httr⟩ := id hZ
  refine xHeap (C := fun H => va_P D vwCl (xW F (sS, sP, sQ, sE, ec, sc, vl, LP, sT)) H ∧ va_S A s.heap H []) ⟨hP, hS⟩ (fun H hC => ?_)
  obtain ⟨hP, hS⟩ := hC
  have hl := lv_entry ([.ref F.1, .int p0, .int p1]) (n := 3) (Nat.le_of_ble_eq_true rfl)
  rw [lg_entry_eq]
  generalize (lg_sl ([.ref F.1, .int p0, .int p1]) ++ List.replicate (3 - (lg_sl ([.ref F.1, .int p0, .int p1])).length) Slot.unset).toArray = ls at hl ⊢
  have hl : lv_has ls 3 [(0, .ref F.1), (1, .int p0), (2, .int p1)] := hl
  refine lv_iload_n hx hb dX1_newThing_0 rfl (lv_at hl 1 rfl) ?_
  by_cases c1 : p0 = 0
  · refine lv_tableIn (off := 65) (tgt := 66) hx hb dX1_newThing_1 (by rw [c1]; decide) (by rw [c1]; decide) (by rw [c1]; rfl) (by decide) ?_
    refine lv_aload_n hx hb dX1_newThing_66 rfl (lv_at hl 0 rfl) ?_
    refine lv_iload_n hx hb dX1_newThing_67 rfl (lv_at hl 1 rfl) ?_
    refine lv_iload_n hx hb dX1_newThing_68 rfl (lv_at hl 2 rfl) ?_
    have hf2 := xFree hD hS hA
    refine va_callr (va_runV (As := [.int p0, .int p1]) (rest := []) ⟨hx, hb, hml, hown, hts⟩ (k_newBase l D F (sS, sP, sQ, sE, ec, sc, vl, LP, sT) hok H.size p0 p1) (cwV 2 hts gX1_newThing_X1_newBase rfl rfl rfl (by decide +kernel) ⟨Nat.le_of_ble_eq_true rfl, Nat.le_of_ble_eq_true rfl⟩) (xPre hN hK hP hD hS hA hZ _) rfl rfl hl.1 rfl (lv_room (Nat.le_of_ble_eq_true rfl)) dX1_newThing_69 ⟨Nat.le_of_ble_eq_true rfl, Nat.le_of_ble_eq_true rfl⟩) hS (fun q _ h => hf2 q h) hf2 (fun v4 r3 t6 H1 locs ht hvm hw5 hB hz1 hk1 hS => ?_)
    obtain ⟨ea, hP1, hK1, hD1⟩ := hB
    rw [ht] at hP1
    replace hD1 := hD1.weaken (fun _ _ _ h => hf2 _ h)
    generalize H1 = H at hP1 hS ⊢
    obtain ⟨⟨sS1, sP1, sQ1, sE1, ec1, sc1, vl1, LP1, sT1⟩, qn⟩ := v4
    obtain rfl : r3 = qn := ea
    have hP : va_P D vwCl (xW F (sS1, sP1, sQ1, sE1, ec1, sc1, vl1, LP1, sT1)) H := hP1
    have hD : va_D A (xW F (sS1, sP1, sQ1, sE1, ec1, sc1, vl1, LP1, sT1)) := hD1
    refine W.widen (k := 1) (n := 6) (Nat.le_of_ble_eq_true rfl) (Nat.le_of_ble_eq_true rfl) ?_
    exact W.aret hx hb hr (Or.inl ⟨_, rfl⟩) (Or.inr ⟨_, rfl⟩) (fun tE ht hW => ⟨⟨((sS1, sP1, sQ1, sE1, ec1, sc1, vl1, LP1, sT1), r3), r3, rfl, by simp [rNew, c1]; simpa [c1] using hw5, rfl, by rw [ht]; exact hP, va_K.moved hW.alike hK, hD⟩, hS.F ht⟩) hS.2.2 dX1_newThing_72
  by_cases c7 : p0 = 1
  · refine lv_tableIn (off := 65) (tgt := 66) hx hb dX1_newThing_1 (by rw [c7]; decide) (by rw [c7]; decide) (by rw [c7]; rfl) (by decide) ?_
    refine lv_aload_n hx hb dX1_newThing_66 rfl (lv_at hl 0 rfl) ?_
    refine lv_iload_n hx hb dX1_newThing_67 rfl (lv_at hl 1 rfl) ?_
    refine lv_iload_n hx hb dX1_newThing_68 rfl (lv_at hl 2 rfl) ?_
    have hf8 := xFree hD hS hA
    refine va_callr (va_runV (As := [.int p0, .int p1]) (rest := []) ⟨hx, hb, hml, hown, hts⟩ (k_newBase l D F (sS, sP, sQ, sE, ec, sc, vl, LP, sT) hok H.size p0 p1) (cwV 2 hts gX1_newThing_X1_newBase rfl rfl rfl (by decide +kernel) ⟨Nat.le_of_ble_eq_true rfl, Nat.le_of_ble_eq_true rfl⟩) (xPre hN hK hP hD hS hA hZ _) rfl rfl hl.1 rfl (lv_room (Nat.le_of_ble_eq_true rfl)) dX1_newThing_69 ⟨Nat.le_of_ble_eq_true rfl, Nat.le_of_ble_eq_true rfl⟩) hS (fun q _ h => hf8 q h) hf8 (fun v10 r9 t12 H1 locs ht hvm hw11 hB hz1 hk1 hS => ?_)
    obtain ⟨ea, hP1, hK1, hD1⟩ := hB
    rw [ht] at hP1
    replace hD1 := hD1.weaken (fun _ _ _ h => hf8 _ h)
    generalize H1 = H at hP1 hS ⊢
    obtain ⟨⟨sS1, sP1, sQ1, sE1, ec1, sc1, vl1, LP1, sT1⟩, qn⟩ := v10
    obtain rfl : r9 = qn := ea
    have hP : va_P D vwCl (xW F (sS1, sP1, sQ1, sE1, ec1, sc1, vl1, LP1, sT1)) H := hP1
    have hD : va_D A (xW F (sS1, sP1, sQ1, sE1, ec1, sc1, vl1, LP1, sT1)) := hD1
    refine W.widen (k := 1) (n := 6) (Nat.le_of_ble_eq_true rfl) (Nat.le_of_ble_eq_true rfl) ?_
    exact W.aret hx hb hr (Or.inl ⟨_, rfl⟩) (Or.inr ⟨_, rfl⟩) (fun tE ht hW => ⟨⟨((sS1, sP1, sQ1, sE1, ec1, sc1, vl1, LP1, sT1), r9), r9, rfl, by simp [rNew, c1, c7]; simpa [c1, c7] using hw11, rfl, by rw [ht]; exact hP, va_K.moved hW.alike hK, hD⟩, hS.F ht⟩) hS.2.2 dX1_newThing_72
  by_cases c13 : p0 = 2
  · refine lv_tableIn (off := 65) (tgt := 66) hx hb dX1_newThing_1 (by rw [c13]; decide) (by rw [c13]; decide) (by rw [c13]; rfl) (by decide) ?_
    refine lv_aload_n hx hb dX1_newThing_66 rfl (lv_at hl 0 rfl) ?_
    refine lv_iload_n hx hb dX1_newThing_67 rfl (lv_at hl 1 rfl) ?_
    refine lv_iload_n hx hb dX1_newThing_68 rfl (lv_at hl 2 rfl) ?_
    have hf14 := xFree hD hS hA
    refine va_callr (va_runV (As := [.int p0, .int p1]) (rest := []) ⟨hx, hb, hml, hown, hts⟩ (k_newBase l D F (sS, sP, sQ, sE, ec, sc, vl, LP, sT) hok H.size p0 p1) (cwV 2 hts gX1_newThing_X1_newBase rfl rfl rfl (by decide +kernel) ⟨Nat.le_of_ble_eq_true rfl, Nat.le_of_ble_eq_true rfl⟩) (xPre hN hK hP hD hS hA hZ _) rfl rfl hl.1 rfl (lv_room (Nat.le_of_ble_eq_true rfl)) dX1_newThing_69 ⟨Nat.le_of_ble_eq_true rfl, Nat.le_of_ble_eq_true rfl⟩) hS (fun q _ h => hf14 q h) hf14 (fun v16 r15 t18 H1 locs ht hvm hw17 hB hz1 hk1 hS => ?_)
    obtain ⟨ea, hP1, hK1, hD1⟩ := hB
    rw [ht] at hP1
    replace hD1 := hD1.weaken (fun _ _ _ h => hf14 _ h)
    generalize H1 = H at hP1 hS ⊢
    obtain ⟨⟨sS1, sP1, sQ1, sE1, ec1, sc1, vl1, LP1, sT1⟩, qn⟩ := v16
    obtain rfl : r15 = qn := ea
    have hP : va_P D vwCl (xW F (sS1, sP1, sQ1, sE1, ec1, sc1, vl1, LP1, sT1)) H := hP1
    have hD : va_D A (xW F (sS1, sP1, sQ1, sE1, ec1, sc1, vl1, LP1, sT1)) := hD1
    refine W.widen (k := 1) (n := 6) (Nat.le_of_ble_eq_true rfl) (Nat.le_of_ble_eq_true rfl) ?_
    exact W.aret hx hb hr (Or.inl ⟨_, rfl⟩) (Or.inr ⟨_, rfl⟩) (fun tE ht hW => ⟨⟨((sS1, sP1, sQ1, sE1, ec1, sc1, vl1, LP1, sT1), r15), r15, rfl, by simp [rNew, c1, c7, c13]; simpa [c1, c7, c13] using hw17, rfl, by rw [ht]; exact hP, va_K.moved hW.alike hK, hD⟩, hS.F ht⟩) hS.2.2 dX1_newThing_72
  by_cases c19 : p0 = 3
  · refine lv_tableIn (off := 72) (tgt := 73) hx hb dX1_newThing_1 (by rw [c19]; decide) (by rw [c19]; decide) (by rw [c19]; rfl) (by decide) ?_
    refine va_new (ci := 0) (fs := [.int 0, .int 0, .null, .int 0, .int 0, .int 0]) (C := RX0) (T := TX0) (N := 6) hx hb hts (by decide +kernel) tyX0 tyX0_ok hown (hts (.classLink RX1 9 RX0) (by decide +kernel)) (hts (.instantiable RX0 6) (by decide +kernel)) (hts (.initialized RX0) (by decide +kernel)) hK hP hD hS hA rfl (fun j hj => by rcases (show j = 0 ∨ j = 1 ∨ j = 2 ∨ j = 3 ∨ j = 4 ∨ j = 5 by omega) with rfl | rfl | rfl | rfl | rfl | rfl <;> rfl) (Nat.le_of_ble_eq_true rfl) (Nat.le_of_ble_eq_true rfl) dX1_newThing_73 (fun z20 H hP hD hS => ?_)
    refine W.widen (k := 1) (n := 6) (Nat.le_of_ble_eq_true rfl) (Nat.le_of_ble_eq_true rfl) ?_
    have hP : va_P D vwCl (xW F (sS, sP, sQ, sE, ec, sc, vl, LP, sT) ++ [(z20, thE tZ)]) H := hP
    have hD : va_D A (xW F (sS, sP, sQ, sE, ec, sc, vl, LP, sT) ++ [(z20, thE tZ)]) := hD
    have hfz20 : z20 ∉ gL (sS, sP, sQ, sE, ec, sc, vl, LP, sT) := x_fresh hD
    rw [x_push hfz20] at hP hD
    have hP : va_P D vwCl (xW F (sS, sP, sQ, sE, ec, sc, vl, (LP ++ [z20]), (va_up sT z20 tZ))) H := hP
    have hD : va_D A (xW F (sS, sP, sQ, sE, ec, sc, vl, (LP ++ [z20]), (va_up sT z20 tZ))) := hD
    refine lv_dup hx hb dX1_newThing_76 rfl ?_
    refine lv_iload_n hx hb dX1_newThing_77 rfl (lv_at hl 1 rfl) ?_
    refine lv_iload_n hx hb dX1_newThing_78 rfl (lv_at hl 2 rfl) ?_
    refine lv_null hx hb dX1_newThing_79 ?_
    have hq21 : va_P D vwCl [(z20, thE tZ)] H := x_oneT (a := z20) hP (List.mem_append_right _ (List.mem_singleton.mpr rfl)) (va_up_self _ _ _)
    have hf22 : ∀ a, va_A [(z20, thE tZ)] H.size a → A a := fun a h => xFree hD hS hA a (h.elim (fun ⟨j, e1, h⟩ => Or.inl (by have hj : j < 1 := (List.getElem?_eq_some_iff.mp h).1; rw [show j = 0 by omega] at h; cases h; obtain ⟨k9, h9⟩ := va_pl_get (X := xX F (sS, sP, sQ, sE, ec, sc, vl, (LP ++ [z20]), (va_up sT z20 tZ))) (f := thP (va_up sT z20 tZ)) (List.mem_append_right _ (List.mem_singleton.mpr rfl)); exact ⟨k9, _, h9⟩)) Or.inr)
    refine va_callv (va_runIN (host := "FamilyProbes") (As := [.int p0, .int p1, va_rf none]) (rest := [.ref z20]) ⟨hx, hb, hml, hown, hts⟩ (k_Ti l D z20 H.size p0 p1 none tZ) ⟨va_cnB 3 hts gX1_newThing_X0_init_n11 rfl rfl rfl (hN (.methodLinkNest RX1 11 yX0_init "FamilyProbes") (by decide +kernel)) (hts (.initialized RX0) (by decide +kernel)) (by decide +kernel) ⟨Nat.le_of_ble_eq_true rfl, Nat.le_of_ble_eq_true rfl⟩, rfl, hts (.instanceMethod yX0_init) (by decide +kernel)⟩ (iPre (A := A) hK hq21 p0 p1 none tZ (fun _ h => by cases h)) rfl rfl hl.1 rfl (lv_room (Nat.le_of_ble_eq_true rfl)) dX1_newThing_80 ⟨Nat.le_of_ble_eq_true rfl, Nat.le_of_ble_eq_true rfl⟩) hS (fun a _ h => hf22 a h) hf22 (fun v23 t24 H1 locs ht hvm hw25 hB hz1 hk1 hS => ?_)
    obtain ⟨hP1, -⟩ := hB
    rw [ht] at hP1
    obtain rfl := hw25
    obtain ⟨hP, hD⟩ := x_upd hP hD (List.mem_append_right _ (List.mem_singleton.mpr rfl)) hk1 hP1
    generalize H1 = H at hP hS ⊢
    have hP : va_P D vwCl (xW F (sS, sP, sQ, sE, ec, sc, vl, (LP ++ [z20]), (va_up (va_up sT z20 tZ) z20 (p0, p1, none, 0, 0, 0)))) H := hP
    have hD : va_D A (xW F (sS, sP, sQ, sE, ec, sc, vl, (LP ++ [z20]), (va_up (va_up sT z20 tZ) z20 (p0, p1, none, 0, 0, 0)))) := hD
    rw [bx_uu] at hP hD
    refine W.widen (k := 1) (n := 6) (Nat.le_of_ble_eq_true rfl) (Nat.le_of_ble_eq_true rfl) ?_
    exact W.aret hx hb hr (Or.inl ⟨_, rfl⟩) (Or.inr ⟨_, rfl⟩) (fun tE ht hW => ⟨⟨((sS, sP, sQ, sE, ec, sc, vl, (LP ++ [z20]), (va_up sT z20 (p0, p1, none, 0, 0, 0))), z20), z20, rfl, by simp [rNew, c1, c7, c13, c19]; exact ⟨hfz20, by simp [uT, bx_uu, iTh, tNew, tZ]⟩, rfl, by rw [ht]; exact hP, va_K.moved hW.alike hK, hD⟩, hS.F ht⟩) hS.2.2 dX1_newThing_83
  by_cases c26 : p0 = 4
  · refine lv_tableIn (off := 55) (tgt := 56) hx hb dX1_newThing_1 (by rw [c26]; decide) (by rw [c26]; decide) (by rw [c26]; rfl) (by decide) ?_
    refine lv_aload_n hx hb dX1_newThing_56 rfl (lv_at hl 0 rfl) ?_
    refine va_get (D := D) (ci := 1) (v := .ref F.2.1) (C := RX1) (T := TX1) (N := 9) hx hb hts (by decide +kernel) hown hK hP 0 rfl rfl 0 (by decide) (hts (.fieldLink RX1 14 "FamilyProbes" "wren" "LFamilyProbes$Thing;") (by decide +kernel)) (fun _ h9 => h9) rfl dX1_newThing_57 ?_
    refine W.widen (k := 1) (n := 6) (Nat.le_of_ble_eq_true rfl) (Nat.le_of_ble_eq_true rfl) ?_
    exact W.aret hx hb hr (Or.inl ⟨_, rfl⟩) (Or.inr ⟨_, rfl⟩) (fun tE ht hW => ⟨⟨((sS, sP, sQ, sE, ec, sc, vl, LP, sT), F.2.1), F.2.1, rfl, by simp [rNew, c1, c7, c13, c19, c26], rfl, by rw [ht]; exact hP, va_K.moved hW.alike hK, hD⟩, hS.F ht⟩) hS.2.2 dX1_newThing_60
  by_cases c27 : p0 = 5
  · refine lv_tableIn (off := 60) (tgt := 61) hx hb dX1_newThing_1 (by rw [c27]; decide) (by rw [c27]; decide) (by rw [c27]; rfl) (by decide) ?_
    refine lv_aload_n hx hb dX1_newThing_61 rfl (lv_at hl 0 rfl) ?_
    refine va_get (D := D) (ci := 1) (v := .ref F.2.2.1) (C := RX1) (T := TX1) (N := 9) hx hb hts (by decide +kernel) hown hK hP 0 rfl rfl 1 (by decide) (hts (.fieldLink RX1 18 "FamilyProbes" "owl" "LFamilyProbes$Thing;") (by decide +kernel)) (fun _ h9 => h9) rfl dX1_newThing_62 ?_
    refine W.widen (k := 1) (n := 6) (Nat.le_of_ble_eq_true rfl) (Nat.le_of_ble_eq_true rfl) ?_
    exact W.aret hx hb hr (Or.inl ⟨_, rfl⟩) (Or.inr ⟨_, rfl⟩) (fun tE ht hW => ⟨⟨((sS, sP, sQ, sE, ec, sc, vl, LP, sT), F.2.2.1), F.2.2.1, rfl, by simp [rNew, c1, c7, c13, c19, c26, c27], rfl, by rw [ht]; exact hP, va_K.moved hW.alike hK, hD⟩, hS.F ht⟩) hS.2.2 dX1_newThing_65
  by_cases c28 : p0 = 6
  · refine lv_tableIn (off := 72) (tgt := 73) hx hb dX1_newThing_1 (by rw [c28]; decide) (by rw [c28]; decide) (by rw [c28]; rfl) (by decide) ?_
    refine va_new (ci := 0) (fs := [.int 0, .int 0, .null, .int 0, .int 0, .int 0]) (C := RX0) (T := TX0) (N := 6) hx hb hts (by decide +kernel) tyX0 tyX0_ok hown (hts (.classLink RX1 9 RX0) (by decide +kernel)) (hts (.instantiable RX0 6) (by decide +kernel)) (hts (.initialized RX0) (by decide +kernel)) hK hP hD hS hA rfl (fun j hj => by rcases (show j = 0 ∨ j = 1 ∨ j = 2 ∨ j = 3 ∨ j = 4 ∨ j = 5 by omega) with rfl | rfl | rfl | rfl | rfl | rfl <;> rfl) (Nat.le_of_ble_eq_true rfl) (Nat.le_of_ble_eq_true rfl) dX1_newThing_73 (fun z29 H hP hD hS => ?_)
    refine W.widen (k := 1) (n := 6) (Nat.le_of_ble_eq_true rfl) (Nat.le_of_ble_eq_true rfl) ?_
    have hP : va_P D vwCl (xW F (sS, sP, sQ, sE, ec, sc, vl, LP, sT) ++ [(z29, thE tZ)]) H := hP
    have hD : va_D A (xW F (sS, sP, sQ, sE, ec, sc, vl, LP, sT) ++ [(z29, thE tZ)]) := hD
    have hfz29 : z29 ∉ gL (sS, sP, sQ, sE, ec, sc, vl, LP, sT) := x_fresh hD
    rw [x_push hfz29] at hP hD
    have hP : va_P D vwCl (xW F (sS, sP, sQ, sE, ec, sc, vl, (LP ++ [z29]), (va_up sT z29 tZ))) H := hP
    have hD : va_D A (xW F (sS, sP, sQ, sE, ec, sc, vl, (LP ++ [z29]), (va_up sT z29 tZ))) := hD
    refine lv_dup hx hb dX1_newThing_76 rfl ?_
    refine lv_iload_n hx hb dX1_newThing_77 rfl (lv_at hl 1 rfl) ?_
    refine lv_iload_n hx hb dX1_newThing_78 rfl (lv_at hl 2 rfl) ?_
    refine lv_null hx hb dX1_newThing_79 ?_
    have hq30 : va_P D vwCl [(z29, thE tZ)] H := x_oneT (a := z29) hP (List.mem_append_right _ (List.mem_singleton.mpr rfl)) (va_up_self _ _ _)
    have hf31 : ∀ a, va_A [(z29, thE tZ)] H.size a → A a := fun a h => xFree hD hS hA a (h.elim (fun ⟨j, e1, h⟩ => Or.inl (by have hj : j < 1 := (List.getElem?_eq_some_iff.mp h).1; rw [show j = 0 by omega] at h; cases h; obtain ⟨k9, h9⟩ := va_pl_get (X := xX F (sS, sP, sQ, sE, ec, sc, vl, (LP ++ [z29]), (va_up sT z29 tZ))) (f := thP (va_up sT z29 tZ)) (List.mem_append_right _ (List.mem_singleton.mpr rfl)); exact ⟨k9, _, h9⟩)) Or.inr)
    refine va_callv (va_runIN (host := "FamilyProbes") (As := [.int p0, .int p1, va_rf none]) (rest := [.ref z29]) ⟨hx, hb, hml, hown, hts⟩ (k_Ti l D z29 H.size p0 p1 none tZ) ⟨va_cnB 3 hts gX1_newThing_X0_init_n11 rfl rfl rfl (hN (.methodLinkNest RX1 11 yX0_init "FamilyProbes") (by decide +kernel)) (hts (.initialized RX0) (by decide +kernel)) (by decide +kernel) ⟨Nat.le_of_ble_eq_true rfl, Nat.le_of_ble_eq_true rfl⟩, rfl, hts (.instanceMethod yX0_init) (by decide +kernel)⟩ (iPre (A := A) hK hq30 p0 p1 none tZ (fun _ h => by cases h)) rfl rfl hl.1 rfl (lv_room (Nat.le_of_ble_eq_true rfl)) dX1_newThing_80 ⟨Nat.le_of_ble_eq_true rfl, Nat.le_of_ble_eq_true rfl⟩) hS (fun a _ h => hf31 a h) hf31 (fun v32 t33 H1 locs ht hvm hw34 hB hz1 hk1 hS => ?_)
    obtain ⟨hP1, -⟩ := hB
    rw [ht] at hP1
    obtain rfl := hw34
    obtain ⟨hP, hD⟩ := x_upd hP hD (List.mem_append_right _ (List.mem_singleton.mpr rfl)) hk1 hP1
    generalize H1 = H at hP hS ⊢
    have hP : va_P D vwCl (xW F (sS, sP, sQ, sE, ec, sc, vl, (LP ++ [z29]), (va_up (va_up sT z29 tZ) z29 (p0, p1, none, 0, 0, 0)))) H := hP
    have hD : va_D A (xW F (sS, sP, sQ, sE, ec, sc, vl, (LP ++ [z29]), (va_up (va_up sT z29 tZ) z29 (p0, p1, none, 0, 0, 0)))) := hD
    rw [bx_uu] at hP hD
    refine W.widen (k := 1) (n := 6) (Nat.le_of_ble_eq_true rfl) (Nat.le_of_ble_eq_true rfl) ?_
    exact W.aret hx hb hr (Or.inl ⟨_, rfl⟩) (Or.inr ⟨_, rfl⟩) (fun tE ht hW => ⟨⟨((sS, sP, sQ, sE, ec, sc, vl, (LP ++ [z29]), (va_up sT z29 (p0, p1, none, 0, 0, 0))), z29), z29, rfl, by simp [rNew, c1, c7, c13, c19, c26, c27, c28]; exact ⟨hfz29, by simp [uT, bx_uu, iTh, tNew, tZ]⟩, rfl, by rw [ht]; exact hP, va_K.moved hW.alike hK, hD⟩, hS.F ht⟩) hS.2.2 dX1_newThing_83
  by_cases c35 : p0 = 7
  · refine lv_tableIn (off := 72) (tgt := 73) hx hb dX1_newThing_1 (by rw [c35]; decide) (by rw [c35]; decide) (by rw [c35]; rfl) (by decide) ?_
    refine va_new (ci := 0) (fs := [.int 0, .int 0, .null, .int 0, .int 0, .int 0]) (C := RX0) (T := TX0) (N := 6) hx hb hts (by decide +kernel) tyX0 tyX0_ok hown (hts (.classLink RX1 9 RX0) (by decide +kernel)) (hts (.instantiable RX0 6) (by decide +kernel)) (hts (.initialized RX0) (by decide +kernel)) hK hP hD hS hA rfl (fun j hj => by rcases (show j = 0 ∨ j = 1 ∨ j = 2 ∨ j = 3 ∨ j = 4 ∨ j = 5 by omega) with rfl | rfl | rfl | rfl | rfl | rfl <;> rfl) (Nat.le_of_ble_eq_true rfl) (Nat.le_of_ble_eq_true rfl) dX1_newThing_73 (fun z36 H hP hD hS => ?_)
    refine W.widen (k := 1) (n := 6) (Nat.le_of_ble_eq_true rfl) (Nat.le_of_ble_eq_true rfl) ?_
    have hP : va_P D vwCl (xW F (sS, sP, sQ, sE, ec, sc, vl, LP, sT) ++ [(z36, thE tZ)]) H := hP
    have hD : va_D A (xW F (sS, sP, sQ, sE, ec, sc, vl, LP, sT) ++ [(z36, thE tZ)]) := hD
    have hfz36 : z36 ∉ gL (sS, sP, sQ, sE, ec, sc, vl, LP, sT) := x_fresh hD
    rw [x_push hfz36] at hP hD
    have hP : va_P D vwCl (xW F (sS, sP, sQ, sE, ec, sc, vl, (LP ++ [z36]), (va_up sT z36 tZ))) H := hP
    have hD : va_D A (xW F (sS, sP, sQ, sE, ec, sc, vl, (LP ++ [z36]), (va_up sT z36 tZ))) := hD
    refine lv_dup hx hb dX1_newThing_76 rfl ?_
    refine lv_iload_n hx hb dX1_newThing_77 rfl (lv_at hl 1 rfl) ?_
    refine lv_iload_n hx hb dX1_newThing_78 rfl (lv_at hl 2 rfl) ?_
    refine lv_null hx hb dX1_newThing_79 ?_
    have hq37 : va_P D vwCl [(z36, thE tZ)] H := x_oneT (a := z36) hP (List.mem_append_right _ (List.mem_singleton.mpr rfl)) (va_up_self _ _ _)
    have hf38 : ∀ a, va_A [(z36, thE tZ)] H.size a → A a := fun a h => xFree hD hS hA a (h.elim (fun ⟨j, e1, h⟩ => Or.inl (by have hj : j < 1 := (List.getElem?_eq_some_iff.mp h).1; rw [show j = 0 by omega] at h; cases h; obtain ⟨k9, h9⟩ := va_pl_get (X := xX F (sS, sP, sQ, sE, ec, sc, vl, (LP ++ [z36]), (va_up sT z36 tZ))) (f := thP (va_up sT z36 tZ)) (List.mem_append_right _ (List.mem_singleton.mpr rfl)); exact ⟨k9, _, h9⟩)) Or.inr)
    refine va_callv (va_runIN (host := "FamilyProbes") (As := [.int p0, .int p1, va_rf none]) (rest := [.ref z36]) ⟨hx, hb, hml, hown, hts⟩ (k_Ti l D z36 H.size p0 p1 none tZ) ⟨va_cnB 3 hts gX1_newThing_X0_init_n11 rfl rfl rfl (hN (.methodLinkNest RX1 11 yX0_init "FamilyProbes") (by decide +kernel)) (hts (.initialized RX0) (by decide +kernel)) (by decide +kernel) ⟨Nat.le_of_ble_eq_true rfl, Nat.le_of_ble_eq_true rfl⟩, rfl, hts (.instanceMethod yX0_init) (by decide +kernel)⟩ (iPre (A := A) hK hq37 p0 p1 none tZ (fun _ h => by cases h)) rfl rfl hl.1 rfl (lv_room (Nat.le_of_ble_eq_true rfl)) dX1_newThing_80 ⟨Nat.le_of_ble_eq_true rfl, Nat.le_of_ble_eq_true rfl⟩) hS (fun a _ h => hf38 a h) hf38 (fun v39 t40 H1 locs ht hvm hw41 hB hz1 hk1 hS => ?_)
    obtain ⟨hP1, -⟩ := hB
    rw [ht] at hP1
    obtain rfl := hw41
    obtain ⟨hP, hD⟩ := x_upd hP hD (List.mem_append_right _ (List.mem_singleton.mpr rfl)) hk1 hP1
    generalize H1 = H at hP hS ⊢
    have hP : va_P D vwCl (xW F (sS, sP, sQ, sE, ec, sc, vl, (LP ++ [z36]), (va_up (va_up sT z36 tZ) z36 (p0, p1, none, 0, 0, 0)))) H := hP
    have hD : va_D A (xW F (sS, sP, sQ, sE, ec, sc, vl, (LP ++ [z36]), (va_up (va_up sT z36 tZ) z36 (p0, p1, none, 0, 0, 0)))) := hD
    rw [bx_uu] at hP hD
    refine W.widen (k := 1) (n := 6) (Nat.le_of_ble_eq_true rfl) (Nat.le_of_ble_eq_true rfl) ?_
    exact W.aret hx hb hr (Or.inl ⟨_, rfl⟩) (Or.inr ⟨_, rfl⟩) (fun tE ht hW => ⟨⟨((sS, sP, sQ, sE, ec, sc, vl, (LP ++ [z36]), (va_up sT z36 (p0, p1, none, 0, 0, 0))), z36), z36, rfl, by simp [rNew, c1, c7, c13, c19, c26, c27, c28, c35]; exact ⟨hfz36, by simp [uT, bx_uu, iTh, tNew, tZ]⟩, rfl, by rw [ht]; exact hP, va_K.moved hW.alike hK, hD⟩, hS.F ht⟩) hS.2.2 dX1_newThing_83
  by_cases c42 : p0 = 8
  · refine lv_tableIn (off := 72) (tgt := 73) hx hb dX1_newThing_1 (by rw [c42]; decide) (by rw [c42]; decide) (by rw [c42]; rfl) (by decide) ?_
    refine va_new (ci := 0) (fs := [.int 0, .int 0, .null, .int 0, .int 0, .int 0]) (C := RX0) (T := TX0) (N := 6) hx hb hts (by decide +kernel) tyX0 tyX0_ok hown (hts (.classLink RX1 9 RX0) (by decide +kernel)) (hts (.instantiable RX0 6) (by decide +kernel)) (hts (.initialized RX0) (by decide +kernel)) hK hP hD hS hA rfl (fun j hj => by rcases (show j = 0 ∨ j = 1 ∨ j = 2 ∨ j = 3 ∨ j = 4 ∨ j = 5 by omega) with rfl | rfl | rfl | rfl | rfl | rfl <;> rfl) (Nat.le_of_ble_eq_true rfl) (Nat.le_of_ble_eq_true rfl) dX1_newThing_73 (fun z43 H hP hD hS => ?_)
    refine W.widen (k := 1) (n := 6) (Nat.le_of_ble_eq_true rfl) (Nat.le_of_ble_eq_true rfl) ?_
    have hP : va_P D vwCl (xW F (sS, sP, sQ, sE, ec, sc, vl, LP, sT) ++ [(z43, thE tZ)]) H := hP
    have hD : va_D A (xW F (sS, sP, sQ, sE, ec, sc, vl, LP, sT) ++ [(z43, thE tZ)]) := hD
    have hfz43 : z43 ∉ gL (sS, sP, sQ, sE, ec, sc, vl, LP, sT) := x_fresh hD
    rw [x_push hfz43] at hP hD
    have hP : va_P D vwCl (xW F (sS, sP, sQ, sE, ec, sc, vl, (LP ++ [z43]), (va_up sT z43 tZ))) H := hP
    have hD : va_D A (xW F (sS, sP, sQ, sE, ec, sc, vl, (LP ++ [z43]), (va_up sT z43 tZ))) := hD
    refine lv_dup hx hb dX1_newThing_76 rfl ?_
    refine lv_iload_n hx hb dX1_newThing_77 rfl (lv_at hl 1 rfl) ?_
    refine lv_iload_n hx hb dX1_newThing_78 rfl (lv_at hl 2 rfl) ?_
    refine lv_null hx hb dX1_newThing_79 ?_
    have hq44 : va_P D vwCl [(z43, thE tZ)] H := x_oneT (a := z43) hP (List.mem_append_right _ (List.mem_singleton.mpr rfl)) (va_up_self _ _ _)
    have hf45 : ∀ a, va_A [(z43, thE tZ)] H.size a → A a := fun a h => xFree hD hS hA a (h.elim (fun ⟨j, e1, h⟩ => Or.inl (by have hj : j < 1 := (List.getElem?_eq_some_iff.mp h).1; rw [show j = 0 by omega] at h; cases h; obtain ⟨k9, h9⟩ := va_pl_get (X := xX F (sS, sP, sQ, sE, ec, sc, vl, (LP ++ [z43]), (va_up sT z43 tZ))) (f := thP (va_up sT z43 tZ)) (List.mem_append_right _ (List.mem_singleton.mpr rfl)); exact ⟨k9, _, h9⟩)) Or.inr)
    refine va_callv (va_runIN (host := "FamilyProbes") (As := [.int p0, .int p1, va_rf none]) (rest := [.ref z43]) ⟨hx, hb, hml, hown, hts⟩ (k_Ti l D z43 H.size p0 p1 none tZ) ⟨va_cnB 3 hts gX1_newThing_X0_init_n11 rfl rfl rfl (hN (.methodLinkNest RX1 11 yX0_init "FamilyProbes") (by decide +kernel)) (hts (.initialized RX0) (by decide +kernel)) (by decide +kernel) ⟨Nat.le_of_ble_eq_true rfl, Nat.le_of_ble_eq_true rfl⟩, rfl, hts (.instanceMethod yX0_init) (by decide +kernel)⟩ (iPre (A := A) hK hq44 p0 p1 none tZ (fun _ h => by cases h)) rfl rfl hl.1 rfl (lv_room (Nat.le_of_ble_eq_true rfl)) dX1_newThing_80 ⟨Nat.le_of_ble_eq_true rfl, Nat.le_of_ble_eq_true rfl⟩) hS (fun a _ h => hf45 a h) hf45 (fun v46 t47 H1 locs ht hvm hw48 hB hz1 hk1 hS => ?_)
    obtain ⟨hP1, -⟩ := hB
    rw [ht] at hP1
    obtain rfl := hw48
    obtain ⟨hP, hD⟩ := x_upd hP hD (List.mem_append_right _ (List.mem_singleton.mpr rfl)) hk1 hP1
    generalize H1 = H at hP hS ⊢
    have hP : va_P D vwCl (xW F (sS, sP, sQ, sE, ec, sc, vl, (LP ++ [z43]), (va_up (va_up sT z43 tZ) z43 (p0, p1, none, 0, 0, 0)))) H := hP
    have hD : va_D A (xW F (sS, sP, sQ, sE, ec, sc, vl, (LP ++ [z43]), (va_up (va_up sT z43 tZ) z43 (p0, p1, none, 0, 0, 0)))) := hD
    rw [bx_uu] at hP hD
    refine W.widen (k := 1) (n := 6) (Nat.le_of_ble_eq_true rfl) (Nat.le_of_ble_eq_true rfl) ?_
    exact W.aret hx hb hr (Or.inl ⟨_, rfl⟩) (Or.inr ⟨_, rfl⟩) (fun tE ht hW => ⟨⟨((sS, sP, sQ, sE, ec, sc, vl, (LP ++ [z43]), (va_up sT z43 (p0, p1, none, 0, 0, 0))), z43), z43, rfl, by simp [rNew, c1, c7, c13, c19, c26, c27, c28, c35, c42]; exact ⟨hfz43, by simp [uT, bx_uu, iTh, tNew, tZ]⟩, rfl, by rw [ht]; exact hP, va_K.moved hW.alike hK, hD⟩, hS.F ht⟩) hS.2.2 dX1_newThing_83
  by_cases c49 : p0 = 9
  · refine lv_tableIn (off := 65) (tgt := 66) hx hb dX1_newThing_1 (by rw [c49]; decide) (by rw [c49]; decide) (by rw [c49]; rfl) (by decide) ?_
    refine lv_aload_n hx hb dX1_newThing_66 rfl (lv_at hl 0 rfl) ?_
    refine lv_iload_n hx hb dX1_newThing_67 rfl (lv_at hl 1 rfl) ?_
    refine lv_iload_n hx hb dX1_newThing_68 rfl (lv_at hl 2 rfl) ?_
    have hf50 := xFree hD hS hA
    refine va_callr (va_runV (As := [.int p0, .int p1]) (rest := []) ⟨hx, hb, hml, hown, hts⟩ (k_newBase l D F (sS, sP, sQ, sE, ec, sc, vl, LP, sT) hok H.size p0 p1) (cwV 2 hts gX1_newThing_X1_newBase rfl rfl rfl (by decide +kernel) ⟨Nat.le_of_ble_eq_true rfl, Nat.le_of_ble_eq_true rfl⟩) (xPre hN hK hP hD hS hA hZ _) rfl rfl hl.1 rfl (lv_room (Nat.le_of_ble_eq_true rfl)) dX1_newThing_69 ⟨Nat.le_of_ble_eq_true rfl, Nat.le_of_ble_eq_true rfl⟩) hS (fun q _ h => hf50 q h) hf50 (fun v52 r51 t54 H1 locs ht hvm hw53 hB hz1 hk1 hS => ?_)
    obtain ⟨ea, hP1, hK1, hD1⟩ := hB
    rw [ht] at hP1
    replace hD1 := hD1.weaken (fun _ _ _ h => hf50 _ h)
    generalize H1 = H at hP1 hS ⊢
    obtain ⟨⟨sS1, sP1, sQ1, sE1, ec1, sc1, vl1, LP1, sT1⟩, qn⟩ := v52
    obtain rfl : r51 = qn := ea
    have hP : va_P D vwCl (xW F (sS1, sP1, sQ1, sE1, ec1, sc1, vl1, LP1, sT1)) H := hP1
    have hD : va_D A (xW F (sS1, sP1, sQ1, sE1, ec1, sc1, vl1, LP1, sT1)) := hD1
    refine W.widen (k := 1) (n := 6) (Nat.le_of_ble_eq_true rfl) (Nat.le_of_ble_eq_true rfl) ?_
    exact W.aret hx hb hr (Or.inl ⟨_, rfl⟩) (Or.inr ⟨_, rfl⟩) (fun tE ht hW => ⟨⟨((sS1, sP1, sQ1, sE1, ec1, sc1, vl1, LP1, sT1), r51), r51, rfl, by simp [rNew, c1, c7, c13, c19, c26, c27, c28, c35, c42, c49]; simpa [c1, c7, c13, c19, c26, c27, c28, c35, c42, c49] using hw53, rfl, by rw [ht]; exact hP, va_K.moved hW.alike hK, hD⟩, hS.F ht⟩) hS.2.2 dX1_newThing_72
  refine lv_tableOut (tgt := 73) hx hb dX1_newThing_1 (by have z0 := lv_neT (k := 0) (a := 0) c1 (by decide); have z1 := lv_neT (k := 1) (a := 1) c7 (by decide); have z2 := lv_neT (k := 2) (a := 2) c13 (by decide); have z3 := lv_neT (k := 3) (a := 3) c19 (by decide); have z4 := lv_neT (k := 4) (a := 4) c26 (by decide); have z5 := lv_neT (k := 5) (a := 5) c27 (by decide); have z6 := lv_neT (k := 6) (a := 6) c28 (by decide); have z7 := lv_neT (k := 7) (a := 7) c35 (by decide); have z8 := lv_neT (k := 8) (a := 8) c42 (by decide); have z9 := lv_neT (k := 9) (a := 9) c49 (by decide); omega) (by decide) ?_
  refine va_new (ci := 0) (fs := [.int 0, .int 0, .null, .int 0, .int 0, .int 0]) (C := RX0) (T := TX0) (N := 6) hx hb hts (by decide +kernel) tyX0 tyX0_ok hown (hts (.classLink RX1 9 RX0) (by decide +kernel)) (hts (.instantiable RX0 6) (by decide +kernel)) (hts (.initialized RX0) (by decide +kernel)) hK hP hD hS hA rfl (fun j hj => by rcases (show j = 0 ∨ j = 1 ∨ j = 2 ∨ j = 3 ∨ j = 4 ∨ j = 5 by omega) with rfl | rfl | rfl | rfl | rfl | rfl <;> rfl) (Nat.le_of_ble_eq_true rfl) (Nat.le_of_ble_eq_true rfl) dX1_newThing_73 (fun z55 H hP hD hS => ?_)
  refine W.widen (k := 1) (n := 6) (Nat.le_of_ble_eq_true rfl) (Nat.le_of_ble_eq_true rfl) ?_
  have hP : va_P D vwCl (xW F (sS, sP, sQ, sE, ec, sc, vl, LP, sT) ++ [(z55, thE tZ)]) H := hP
  have hD : va_D A (xW F (sS, sP, sQ, sE, ec, sc, vl, LP, sT) ++ [(z55, thE tZ)]) := hD
  have hfz55 : z55 ∉ gL (sS, sP, sQ, sE, ec, sc, vl, LP, sT) := x_fresh hD
  rw [x_push hfz55] at hP hD
  have hP : va_P D vwCl (xW F (sS, sP, sQ, sE, ec, sc, vl, (LP ++ [z55]), (va_up sT z55 tZ))) H := hP
  have hD : va_D A (xW F (sS, sP, sQ, sE, ec, sc, vl, (LP ++ [z55]), (va_up sT z55 tZ))) := hD
  refine lv_dup hx hb dX1_newThing_76 rfl ?_
  refine lv_iload_n hx hb dX1_newThing_77 rfl (lv_at hl 1 rfl) ?_
  refine lv_iload_n hx hb dX1_newThing_78 rfl (lv_at hl 2 rfl) ?_
  refine lv_null hx hb dX1_newThing_79 ?_
  have hq56 : va_P D vwCl [(z55, thE tZ)] H := x_oneT (a := z55) hP (List.mem_append_right _ (List.mem_singleton.mpr rfl)) (va_up_self _ _ _)
  have hf57 : ∀ a, va_A [(z55, thE tZ)] H.size a → A a := fun a h => xFree hD hS hA a (h.elim (fun ⟨j, e1, h⟩ => Or.inl (by have hj : j < 1 := (List.getElem?_eq_some_iff.mp h).1; rw [show j = 0 by omega] at h; cases h; obtain ⟨k9, h9⟩ := va_pl_get (X := xX F (sS, sP, sQ, sE, ec, sc, vl, (LP ++ [z55]), (va_up sT z55 tZ))) (f := thP (va_up sT z55 tZ)) (List.mem_append_right _ (List.mem_singleton.mpr rfl)); exact ⟨k9, _, h9⟩)) Or.inr)
  refine va_callv (va_runIN (host := "FamilyProbes") (As := [.int p0, .int p1, va_rf none]) (rest := [.ref z55]) ⟨hx, hb, hml, hown, hts⟩ (k_Ti l D z55 H.size p0 p1 none tZ) ⟨va_cnB 3 hts gX1_newThing_X0_init_n11 rfl rfl rfl (hN (.methodLinkNest RX1 11 yX0_init "FamilyProbes") (by decide +kernel)) (hts (.initialized RX0) (by decide +kernel)) (by decide +kernel) ⟨Nat.le_of_ble_eq_true rfl, Nat.le_of_ble_eq_true rfl⟩, rfl, hts (.instanceMethod yX0_init) (by decide +kernel)⟩ (iPre (A := A) hK hq56 p0 p1 none tZ (fun _ h => by cases h)) rfl rfl hl.1 rfl (lv_room (Nat.le_of_ble_eq_true rfl)) dX1_newThing_80 ⟨Nat.le_of_ble_eq_true rfl, Nat.le_of_ble_eq_true rfl⟩) hS (fun a _ h => hf57 a h) hf57 (fun v58 t59 H1 locs ht hvm hw60 hB hz1 hk1 hS => ?_)
  obtain ⟨hP1, -⟩ := hB
  rw [ht] at hP1
  obtain rfl := hw60
  obtain ⟨hP, hD⟩ := x_upd hP hD (List.mem_append_right _ (List.mem_singleton.mpr rfl)) hk1 hP1
  generalize H1 = H at hP hS ⊢
  have hP : va_P D vwCl (xW F (sS, sP, sQ, sE, ec, sc, vl, (LP ++ [z55]), (va_up (va_up sT z55 tZ) z55 (p0, p1, none, 0, 0, 0)))) H := hP
  have hD : va_D A (xW F (sS, sP, sQ, sE, ec, sc, vl, (LP ++ [z55]), (va_up (va_up sT z55 tZ) z55 (p0, p1, none, 0, 0, 0)))) := hD
  rw [bx_uu] at hP hD
  refine W.widen (k := 1) (n := 6) (Nat.le_of_ble_eq_true rfl) (Nat.le_of_ble_eq_true rfl) ?_
  exact W.aret hx hb hr (Or.inl ⟨_, rfl⟩) (Or.inr ⟨_, rfl⟩) (fun tE ht hW => ⟨⟨((sS, sP, sQ, sE, ec, sc, vl, (LP ++ [z55]), (va_up sT z55 (p0, p1, none, 0, 0, 0))), z55), z55, rfl, by simp [rNew, c1, c7, c13, c19, c26, c27, c28, c35, c42, c49]; exact ⟨hfz55, by simp [uT, bx_uu, iTh, tNew, tZ]⟩, rfl, by rw [ht]; exact hP, va_K.moved hW.alike hK, hD⟩, hS.F ht⟩) hS.2.2 dX1_newThing_83
set_option maxHeartbeats 8000000 in
set_option maxRecDepth 100000 in
theorem k_putRepeater (l : Launch) (D : va_G) (F : XF) (u : XS) (hok : xOk F u) (sz : Nat) (p0 : Int32) (p1 : Option Nat) (hp1 : ∀ q, p1 = some q → q ∈ gL u) (hr0 : vp_in p0 8) : Met l yX1_putRepeater wsX1_putRepeater ({ frames := 2, cells := 1, slots := 6, locals := 35 }) (xPc D F u sz [.ref F.1, .int p0, va_rf p1]) (va_Qi (fun (r : Int32) (v : XS) => rRep u p0 p1 r v) (xB D F (va_A (xW F u) sz)) (va_A (xW F u) sz)) 1 6 (va_A (xW F u) sz) := by
  obtain ⟨sS, sP, sQ, sE, ec, sc, vl, LP, sT⟩ := u
  rcases p1 with _ | q0
  · refine Met.ofW (cc := cX1_putRepeater) (maxL := 3) (ret := (some .int)) (by decide) rfl ?_
    intro p e s m args below meth c s₁ B hml hv
    obtain ⟨rfl, hsz, hP, hK, hD0, hN, hZ⟩ := hv
    have hx := B.exec
    have hb := B.bytes
    have hr := B.returns
    have hts := atoms_spec (ws := wsX1_putRepeater) B.pre
    have hown : s.vm.findClass RX1 = some m.cls := findClass_of_methodNamed B.named
    have hlocks := B.notSynchronized
    subst hsz
    have hD := hD0.self (sz := s.heap.size)
    generalize hAe : va_A (xW F (sS, sP, sQ, sE, ec, sc, vl, LP, sT)) s.heap.size = A at hD hZ ⊢
    have hA : ∀ q : Nat, s.heap.size ≤ q → A q := fun q h => by rw [← hAe]; exact Or.inr h
    have hS : va_S A s.heap s.heap [] := va_S.rf
    obtain ⟨tk, tm, tr, hztk, httk, hztm, httm, hztr, httr⟩ := id hZ
    refine xHeap (C := fun H => va_P D vwCl (xW F (sS, sP, sQ, sE, ec, sc, vl, LP, sT)) H ∧ va_S A s.heap H []) ⟨hP, hS⟩ (fun H hC => ?_)
    obtain ⟨hP, hS⟩ := hC
    have hl := lv_entry ([.ref F.1, .int p0, va_rf none]) (n := 3) (Nat.le_of_ble_eq_true rfl)
    rw [lg_entry_eq]
    generalize (lg_sl ([.ref F.1, .int p0, va_rf none]) ++ List.replicate (3 - (lg_sl ([.ref F.1, .int p0, va_rf none])).length) Slot.unset).toArray = ls at hl ⊢
    have hl : lv_has ls 3 [(0, .ref F.1), (1, .int p0), (2, .null)] := hl
    refine lv_aload_nN hx hb dX1_putRepeater_0 rfl (lv_at hl 2 rfl) ?_
    refine lv_ifnonnullN hx hb dX1_putRepeater_1 ?_
    refine lv_iconst (v := 2) hx hb dX1_putRepeater_4 (by decide) ?_
    refine W.widen (k := 1) (n := 6) (Nat.le_of_ble_eq_true rfl) (Nat.le_of_ble_eq_true rfl) ?_
    exact W.iret (v := 2) hx hb hr (fun tE ht hW => ⟨⟨2, (sS, sP, sQ, sE, ec, sc, vl, LP, sT), rfl, by simp [rRep, ], by rw [ht]; exact hP, va_K.moved hW.alike hK, hD⟩, hS.F ht⟩) hS.2.2 dX1_putRepeater_5
  · refine Met.ofW (cc := cX1_putRepeater) (maxL := 3) (ret := (some .int)) (by decide) rfl ?_
    intro p e s m args below meth c s₁ B hml hv
    obtain ⟨rfl, hsz, hP, hK, hD0, hN, hZ⟩ := hv
    have hx := B.exec
    have hb := B.bytes
    have hr := B.returns
    have hts := atoms_spec (ws := wsX1_putRepeater) B.pre
    have hown : s.vm.findClass RX1 = some m.cls := findClass_of_methodNamed B.named
    have hlocks := B.notSynchronized
    subst hsz
    have hD := hD0.self (sz := s.heap.size)
    generalize hAe : va_A (xW F (sS, sP, sQ, sE, ec, sc, vl, LP, sT)) s.heap.size = A at hD hZ ⊢
    have hA : ∀ q : Nat, s.heap.size ≤ q → A q := fun q h => by rw [← hAe]; exact Or.inr h
    have hS : va_S A s.heap s.heap [] := va_S.rf
    obtain ⟨tk, tm, tr, hztk, httk, hztm, httm, hztr, httr⟩ := id hZ
    refine xHeap (C := fun H => va_P D vwCl (xW F (sS, sP, sQ, sE, ec, sc, vl, LP, sT)) H ∧ va_S A s.heap H []) ⟨hP, hS⟩ (fun H hC => ?_)
    obtain ⟨hP, hS⟩ := hC
    have hl := lv_entry ([.ref F.1, .int p0, va_rf (some q0)]) (n := 3) (Nat.le_of_ble_eq_true rfl)
    rw [lg_entry_eq]
    generalize (lg_sl ([.ref F.1, .int p0, va_rf (some q0)]) ++ List.replicate (3 - (lg_sl ([.ref F.1, .int p0, va_rf (some q0)])).length) Slot.unset).toArray = ls at hl ⊢
    have hl : lv_has ls 3 [(0, .ref F.1), (1, .int p0), (2, .ref q0)] := hl
    refine lv_aload_n hx hb dX1_putRepeater_0 rfl (lv_at hl 2 rfl) ?_
    refine lv_ifnonnull (tgt := 6) hx hb dX1_putRepeater_1 (by decide) ?_
    refine lv_aload_n hx hb dX1_putRepeater_6 rfl (lv_at hl 2 rfl) ?_
    obtain ⟨k1, hk1⟩ := va_pl_get (X := xX F (sS, sP, sQ, sE, ec, sc, vl, LP, sT)) (f := thP sT) (hp1 q0 rfl)
    refine va_getN (D := D) (ci := 0) (v := .int ((sT q0).2.2.2.1)) (C := RX0) (T := TX0) (N := 6) hx hb hts (by decide +kernel) hown hK hP k1 hk1 rfl 3 (by decide) (va_Nw.use rfl (hN (.fieldLinkNest RX1 121 "FamilyProbes$Thing" "repeaters" "I" "FamilyProbes") (by decide +kernel))) (fun _ h9 => h9) rfl dX1_putRepeater_7 ?_
    refine lv_iconst (v := 3) hx hb dX1_putRepeater_10 (by decide) ?_
    refine lv_icmp_lt (tgt := 16) hx hb dX1_putRepeater_11 (by decide) (fun c2 => ?_) (fun c2 => ?_)
    · refine lv_aload_n hx hb dX1_putRepeater_16 rfl (lv_at hl 0 rfl) ?_
      refine va_get (D := D) (ci := 1) (v := .ref F.2.2.2.1) (C := RX1) (T := TX1) (N := 9) hx hb hts (by decide +kernel) hown hK hP 0 rfl rfl 2 (by decide) (hts (.fieldLink RX1 21 "FamilyProbes" "slots" "[LFamilyProbes$Thing;") (by decide +kernel)) (fun _ h9 => h9) rfl dX1_putRepeater_17 ?_
      refine lv_iload_n hx hb dX1_putRepeater_20 rfl (lv_at hl 1 rfl) ?_
      refine va_new (ci := 0) (fs := [.int 0, .int 0, .null, .int 0, .int 0, .int 0]) (C := RX0) (T := TX0) (N := 6) hx hb hts (by decide +kernel) tyX0 tyX0_ok hown (hts (.classLink RX1 9 RX0) (by decide +kernel)) (hts (.instantiable RX0 6) (by decide +kernel)) (hts (.initialized RX0) (by decide +kernel)) hK hP hD hS hA rfl (fun j hj => by rcases (show j = 0 ∨ j = 1 ∨ j = 2 ∨ j = 3 ∨ j = 4 ∨ j = 5 by omega) with rfl | rfl | rfl | rfl | rfl | rfl <;> rfl) (Nat.le_of_ble_eq_true rfl) (Nat.le_of_ble_eq_true rfl) dX1_putRepeater_21 (fun z3 H hP hD hS => ?_)
      refine W.widen (k := 1) (n := 6) (Nat.le_of_ble_eq_true rfl) (Nat.le_of_ble_eq_true rfl) ?_
      have hP : va_P D vwCl (xW F (sS, sP, sQ, sE, ec, sc, vl, LP, sT) ++ [(z3, thE tZ)]) H := hP
      have hD : va_D A (xW F (sS, sP, sQ, sE, ec, sc, vl, LP, sT) ++ [(z3, thE tZ)]) := hD
      have hfz3 : z3 ∉ gL (sS, sP, sQ, sE, ec, sc, vl, LP, sT) := x_fresh hD
      rw [x_push hfz3] at hP hD
      have hP : va_P D vwCl (xW F (sS, sP, sQ, sE, ec, sc, vl, (LP ++ [z3]), (va_up sT z3 tZ))) H := hP
      have hD : va_D A (xW F (sS, sP, sQ, sE, ec, sc, vl, (LP ++ [z3]), (va_up sT z3 tZ))) := hD
      refine lv_dup hx hb dX1_putRepeater_24 rfl ?_
      refine lv_bipush (v := 8) hx hb dX1_putRepeater_25 (by decide) ?_
      refine lv_iconst (v := 0) hx hb dX1_putRepeater_27 (by decide) ?_
      refine lv_aload_n hx hb dX1_putRepeater_28 rfl (lv_at hl 2 rfl) ?_
      have hq4 : va_P D vwCl [(z3, thE tZ)] H := x_oneT (a := z3) hP (List.mem_append_right _ (List.mem_singleton.mpr rfl)) (va_up_self _ _ _)
      have hf5 : ∀ a, va_A [(z3, thE tZ)] H.size a → A a := fun a h => xFree hD hS hA a (h.elim (fun ⟨j, e1, h⟩ => Or.inl (by have hj : j < 1 := (List.getElem?_eq_some_iff.mp h).1; rw [show j = 0 by omega] at h; cases h; obtain ⟨k9, h9⟩ := va_pl_get (X := xX F (sS, sP, sQ, sE, ec, sc, vl, (LP ++ [z3]), (va_up sT z3 tZ))) (f := thP (va_up sT z3 tZ)) (List.mem_append_right _ (List.mem_singleton.mpr rfl)); exact ⟨k9, _, h9⟩)) Or.inr)
      have hnz3 : q0 ≠ z3 := fun hz => hfz3 (hz ▸ (hp1 q0 rfl))
      refine va_callv (va_runIN (host := "FamilyProbes") (As := [.int 8, .int 0, va_rf (some q0)]) (rest := [.ref z3, .int p0, .ref F.2.2.2.1]) ⟨hx, hb, hml, hown, hts⟩ (k_Ti l D z3 H.size 8 0 (some q0) (sT q0)) ⟨va_cnB 3 hts gX1_putRepeater_X0_init_n11 rfl rfl rfl (hN (.methodLinkNest RX1 11 yX0_init "FamilyProbes") (by decide +kernel)) (hts (.initialized RX0) (by decide +kernel)) (by decide +kernel) ⟨Nat.le_of_ble_eq_true rfl, Nat.le_of_ble_eq_true rfl⟩, rfl, hts (.instanceMethod yX0_init) (by decide +kernel)⟩ (iPre (A := A) hK hq4 8 0 (some q0) (sT q0) (fun _ h => by cases h; exact x_srcT (A := A) hP (List.mem_append_left _ (hp1 q0 rfl)) hnz3 (va_up_ne _ _ hnz3))) rfl rfl hl.1 rfl (lv_room (Nat.le_of_ble_eq_true rfl)) dX1_putRepeater_29 ⟨Nat.le_of_ble_eq_true rfl, Nat.le_of_ble_eq_true rfl⟩) hS (fun a _ h => hf5 a h) hf5 (fun v6 t7 H1 locs ht hvm hw8 hB hz1 hk1 hS => ?_)
      obtain ⟨hP1, -⟩ := hB
      rw [ht] at hP1
      obtain rfl := hw8
      obtain ⟨hP, hD⟩ := x_upd hP hD (List.mem_append_right _ (List.mem_singleton.mpr rfl)) hk1 hP1
      generalize H1 = H at hP hS ⊢
      have hP : va_P D vwCl (xW F (sS, sP, sQ, sE, ec, sc, vl, (LP ++ [z3]), (va_up (va_up sT z3 tZ) z3 (8, 0, (some q0), ((sT q0).2.2.2.1 + 1), 0, 0)))) H := hP
      have hD : va_D A (xW F (sS, sP, sQ, sE, ec, sc, vl, (LP ++ [z3]), (va_up (va_up sT z3 tZ) z3 (8, 0, (some q0), ((sT q0).2.2.2.1 + 1), 0, 0)))) := hD
      rw [bx_uu] at hP hD
      obtain ⟨k9, hk9⟩ := va_pl_get (X := xX F (sS, sP, sQ, sE, ec, sc, vl, (LP ++ [z3]), (va_up sT z3 (8, 0, (some q0), ((sT q0).2.2.2.1 + 1), 0, 0)))) (f := thP (va_up sT z3 (8, 0, (some q0), ((sT q0).2.2.2.1 + 1), 0, 0))) (List.mem_append_right _ (List.mem_singleton.mpr rfl))
      refine va_astq hx hb hK hP hD hS 1 0 k9 0 rfl (r := (RX0, TX0, 6)) rfl hk9 rfl hr0 dX1_putRepeater_32 (fun H locs hP hD hS => ?_)
      have hP : va_P D vwCl (xW F ((va_up sS p0.toNatClampNeg (some z3)), sP, sQ, sE, ec, sc, vl, (LP ++ [z3]), (va_up sT z3 (8, 0, (some q0), ((sT q0).2.2.2.1 + 1), 0, 0)))) H := hP
      have hD : va_D A (xW F ((va_up sS p0.toNatClampNeg (some z3)), sP, sQ, sE, ec, sc, vl, (LP ++ [z3]), (va_up sT z3 (8, 0, (some q0), ((sT q0).2.2.2.1 + 1), 0, 0)))) := hD
      refine lv_iconst (v := 0) hx hb dX1_putRepeater_33 (by decide) ?_
      refine W.widen (k := 1) (n := 6) (Nat.le_of_ble_eq_true rfl) (Nat.le_of_ble_eq_true rfl) ?_
      exact W.iret (v := 0) hx hb hr (fun tE ht hW => ⟨⟨0, ((va_up sS p0.toNatClampNeg (some z3)), sP, sQ, sE, ec, sc, vl, (LP ++ [z3]), (va_up sT z3 (8, 0, (some q0), ((sT q0).2.2.2.1 + 1), 0, 0))), rfl, by simp [rRep, eq_true c2]; exact ⟨z3, hfz3, by simp [uT, uS, bx_uu, iTh, tZ, va_up_ne, eq_true c2]⟩, by rw [ht]; exact hP, va_K.moved hW.alike hK, hD⟩, hS.F ht⟩) hS.2.2 dX1_putRepeater_34
    · refine lv_iconst (v := (-1)) hx hb dX1_putRepeater_14 (by decide) ?_
      refine W.widen (k := 1) (n := 6) (Nat.le_of_ble_eq_true rfl) (Nat.le_of_ble_eq_true rfl) ?_
      exact W.iret (v := (-1)) hx hb hr (fun tE ht hW => ⟨⟨(-1), (sS, sP, sQ, sE, ec, sc, vl, LP, sT), rfl, by simp [rRep, c2], by rw [ht]; exact hP, va_K.moved hW.alike hK, hD⟩, hS.F ht⟩) hS.2.2 dX1_putRepeater_15
set_option maxHeartbeats 8000000 in
set_option maxRecDepth 100000 in
theorem k_make (l : Launch) (D : va_G) (F : XF) (u : XS) (hok : xOk F u) (sz : Nat) (p0 : Int32) (p1 : Int32) (p2 : Int32) : Met l yX1_make wsX1_make ({ frames := 4, cells := 1, slots := 6, locals := 80 }) (xPc D F u sz [.ref F.1, .int p0, .int p1, .int p2]) (va_Qi (fun (r : Int32) (v : XS) => rMake F u p0 p1 p2 r v) (xB D F (va_A (xW F u) sz)) (va_A (xW F u) sz)) 1 6 (va_A (xW F u) sz) := by
  obtain ⟨sS, sP, sQ, sE, ec, sc, vl, LP, sT⟩ := u
  refine Met.ofW (cc := cX1_make) (maxL := 4) (ret := (some .int)) (by decide) rfl ?_
  intro p e s m args below meth c s₁ B hml hv
  obtain ⟨rfl, hsz, hP, hK, hD0, hN, hZ⟩ := hv
  have hx := B.exec
  have hb := B.bytes
  have hr := B.returns
  have hts := atoms_spec (ws := wsX1_make) B.pre
  have hown : s.vm.findClass RX1 = some m.cls := findClass_of_methodNamed B.named
  have hlocks := B.notSynchronized
  subst hsz
  have hD := hD0.self (sz := s.heap.size)
  generalize hAe : va_A (xW F (sS, sP, sQ, sE, ec, sc, vl, LP, sT)) s.heap.size = A at hD hZ ⊢
  have hA : ∀ q : Nat, s.heap.size ≤ q → A q := fun q h => by rw [← hAe]; exact Or.inr h
  have hS : va_S A s.heap s.heap [] := va_S.rf
  obtain ⟨tk, tm, tr, hztk, httk, hztm, httm, hztr, httr⟩ := id hZ
  refine xHeap (C := fun H => va_P D vwCl (xW F (sS, sP, sQ, sE, ec, sc, vl, LP, sT)) H ∧ va_S A s.heap H []) ⟨hP, hS⟩ (fun H hC => ?_)
  obtain ⟨hP, hS⟩ := hC
  have hl := lv_entry ([.ref F.1, .int p0, .int p1, .int p2]) (n := 4) (Nat.le_of_ble_eq_true rfl)
  rw [lg_entry_eq]
  generalize (lg_sl ([.ref F.1, .int p0, .int p1, .int p2]) ++ List.replicate (4 - (lg_sl ([.ref F.1, .int p0, .int p1, .int p2])).length) Slot.unset).toArray = ls at hl ⊢
  have hl : lv_has ls 4 [(0, .ref F.1), (1, .int p0), (2, .int p1), (3, .int p2)] := hl
  refine lv_iload_n hx hb dX1_make_0 rfl (lv_at hl 1 rfl) ?_
  refine lv_bipush (v := 8) hx hb dX1_make_1 (by decide) ?_
  refine vp_callSi (va_Run.run (va_runS (As := [.int p0, .int 8]) (rest := []) ⟨hx, hb, hml, hown, hts⟩ (k_isBelow l p0 8) (va_cwS 2 hts gX1_make_X1_isBelow rfl rfl rfl (by decide +kernel) ⟨Nat.le_of_ble_eq_true rfl, Nat.le_of_ble_eq_true rfl⟩) preEq rfl rfl hl.1 rfl (lv_room (Nat.le_of_ble_eq_true rfl)) dX1_make_3 ⟨Nat.le_of_ble_eq_true rfl, Nat.le_of_ble_eq_true rfl⟩)) (fun r1 hw2 => ?_)
  rcases bI_c hw2 with ⟨rfl, b3⟩ | ⟨rfl, b3⟩
  · refine lv_if_eq (tgt := 18) hx hb dX1_make_6 (by decide) (fun cz => absurd cz (by decide)) (fun _ => ?_)
    refine lv_iload_n hx hb dX1_make_9 rfl (lv_at hl 2 rfl) ?_
    refine lv_bipush (v := 10) hx hb dX1_make_10 (by decide) ?_
    refine vp_callSi (va_Run.run (va_runS (As := [.int p1, .int 10]) (rest := []) ⟨hx, hb, hml, hown, hts⟩ (k_isBelow l p1 10) (va_cwS 2 hts gX1_make_X1_isBelow rfl rfl rfl (by decide +kernel) ⟨Nat.le_of_ble_eq_true rfl, Nat.le_of_ble_eq_true rfl⟩) preEq rfl rfl hl.1 rfl (lv_room (Nat.le_of_ble_eq_true rfl)) dX1_make_12 ⟨Nat.le_of_ble_eq_true rfl, Nat.le_of_ble_eq_true rfl⟩)) (fun r4 hw5 => ?_)
    rcases bI_c hw5 with ⟨rfl, b6⟩ | ⟨rfl, b6⟩
    · refine lv_if_ne (tgt := 20) hx hb dX1_make_15 (by decide) (fun _ => ?_) (fun cz => absurd cz (by decide))
      refine lv_iload_n hx hb dX1_make_20 rfl (lv_at hl 2 rfl) ?_
      refine lv_bipush (v := 8) hx hb dX1_make_21 (by decide) ?_
      refine lv_icmp_ne (tgt := 41) hx hb dX1_make_23 (by decide) (fun c7 => ?_) (fun c7 => ?_)
      · refine lv_aload_n hx hb dX1_make_41 rfl (lv_at hl 0 rfl) ?_
        refine va_get (D := D) (ci := 1) (v := .ref F.2.2.2.1) (C := RX1) (T := TX1) (N := 9) hx hb hts (by decide +kernel) hown hK hP 0 rfl rfl 2 (by decide) (hts (.fieldLink RX1 21 "FamilyProbes" "slots" "[LFamilyProbes$Thing;") (by decide +kernel)) (fun _ h9 => h9) rfl dX1_make_42 ?_
        refine lv_iload_n hx hb dX1_make_45 rfl (lv_at hl 1 rfl) ?_
        refine lv_aload_n hx hb dX1_make_46 rfl (lv_at hl 0 rfl) ?_
        refine lv_iload_n hx hb dX1_make_47 rfl (lv_at hl 2 rfl) ?_
        refine lv_iload_n hx hb dX1_make_48 rfl (lv_at hl 3 rfl) ?_
        have hf8 := xFree hD hS hA
        refine va_callr (va_runV (As := [.int p1, .int p2]) (rest := [.int p0, .ref F.2.2.2.1]) ⟨hx, hb, hml, hown, hts⟩ (k_newThing l D F (sS, sP, sQ, sE, ec, sc, vl, LP, sT) hok H.size p1 p2) (cwV 2 hts gX1_make_X1_newThing rfl rfl rfl (by decide +kernel) ⟨Nat.le_of_ble_eq_true rfl, Nat.le_of_ble_eq_true rfl⟩) (xPre hN hK hP hD hS hA hZ _) rfl rfl hl.1 rfl (lv_room (Nat.le_of_ble_eq_true rfl)) dX1_make_49 ⟨Nat.le_of_ble_eq_true rfl, Nat.le_of_ble_eq_true rfl⟩) hS (fun q _ h => hf8 q h) hf8 (fun v10 r9 t12 H1 locs ht hvm hw11 hB hz1 hk1 hS => ?_)
        obtain ⟨ea, hP1, hK1, hD1⟩ := hB
        rw [ht] at hP1
        replace hD1 := hD1.weaken (fun _ _ _ h => hf8 _ h)
        generalize H1 = H at hP1 hS ⊢
        obtain ⟨⟨sS1, sP1, sQ1, sE1, ec1, sc1, vl1, LP1, sT1⟩, qn⟩ := v10
        obtain rfl : r9 = qn := ea
        have hP : va_P D vwCl (xW F (sS1, sP1, sQ1, sE1, ec1, sc1, vl1, LP1, sT1)) H := hP1
        have hD : va_D A (xW F (sS1, sP1, sQ1, sE1, ec1, sc1, vl1, LP1, sT1)) := hD1
        obtain ⟨k13, hk13⟩ := va_pl_get (X := xX F (sS1, sP1, sQ1, sE1, ec1, sc1, vl1, LP1, sT1)) (f := thP sT1) (rNew_mem hok hw11)
        refine va_astq hx hb hK hP hD hS 1 0 k13 0 rfl (r := (RX0, TX0, 6)) rfl hk13 rfl (isB_in8 b3) dX1_make_52 (fun H locs hP hD hS => ?_)
        have hP : va_P D vwCl (xW F ((va_up sS1 p0.toNatClampNeg (some r9)), sP1, sQ1, sE1, ec1, sc1, vl1, LP1, sT1)) H := hP
        have hD : va_D A (xW F ((va_up sS1 p0.toNatClampNeg (some r9)), sP1, sQ1, sE1, ec1, sc1, vl1, LP1, sT1)) := hD
        refine lv_iconst (v := 0) hx hb dX1_make_53 (by decide) ?_
        refine W.widen (k := 1) (n := 6) (Nat.le_of_ble_eq_true rfl) (Nat.le_of_ble_eq_true rfl) ?_
        exact W.iret (v := 0) hx hb hr (fun tE ht hW => ⟨⟨0, ((va_up sS1 p0.toNatClampNeg (some r9)), sP1, sQ1, sE1, ec1, sc1, vl1, LP1, sT1), rfl, by simp only [rMake, b3, b6, c7, eq_self, ↓reduceIte, Bool.false_eq_true]; first | exact ⟨trivial, _, _, hw11, rfl⟩ | exact ⟨rfl, _, _, hw11, rfl⟩, by rw [ht]; exact hP, va_K.moved hW.alike hK, hD⟩, hS.F ht⟩) hS.2.2 dX1_make_54
      · refine lv_aload_n hx hb dX1_make_26 rfl (lv_at hl 0 rfl) ?_
        refine lv_iload_n hx hb dX1_make_27 rfl (lv_at hl 1 rfl) ?_
        refine lv_aload_n hx hb dX1_make_28 rfl (lv_at hl 0 rfl) ?_
        refine va_get (D := D) (ci := 1) (v := .ref F.2.2.2.1) (C := RX1) (T := TX1) (N := 9) hx hb hts (by decide +kernel) hown hK hP 0 rfl rfl 2 (by decide) (hts (.fieldLink RX1 21 "FamilyProbes" "slots" "[LFamilyProbes$Thing;") (by decide +kernel)) (fun _ h9 => h9) rfl dX1_make_29 ?_
        refine lv_iload_n hx hb dX1_make_32 rfl (lv_at hl 3 rfl) ?_
        refine lv_bipush (v := 7) hx hb dX1_make_33 (by decide) ?_
        refine lv_iand hx hb dX1_make_35 ?_
        refine va_aldq (f := sS) hx hb hK hP 1 0 rfl rfl (and_in8 _) dX1_make_36 ?_
        have hf14 := xFree hD hS hA
        refine va_calli (va_runV (As := [.int p0, va_rf (sS (p2 &&& 7).toNatClampNeg)]) (rest := []) ⟨hx, hb, hml, hown, hts⟩ (k_putRepeater l D F (sS, sP, sQ, sE, ec, sc, vl, LP, sT) hok H.size p0 (sS (p2 &&& 7).toNatClampNeg) (fun _ h => hok.1 ((p2 &&& 7).toNatClampNeg) _ h) (isB_in8 b3)) (cwV 2 hts gX1_make_X1_putRepeater rfl rfl rfl (by decide +kernel) ⟨Nat.le_of_ble_eq_true rfl, Nat.le_of_ble_eq_true rfl⟩) (xPre hN hK hP hD hS hA hZ _) rfl rfl hl.1 rfl (lv_room (Nat.le_of_ble_eq_true rfl)) dX1_make_37 ⟨Nat.le_of_ble_eq_true rfl, Nat.le_of_ble_eq_true rfl⟩) hS (fun q _ h => hf14 q h) hf14 (fun r15 v16 t18 H1 locs ht hvm hw17 hB hz1 hk1 hS => ?_)
        obtain ⟨hP1, hK1, hD1⟩ := hB
        rw [ht] at hP1
        replace hD1 := hD1.weaken (fun _ _ _ h => hf14 _ h)
        generalize H1 = H at hP1 hS ⊢
        obtain ⟨sS1, sP1, sQ1, sE1, ec1, sc1, vl1, LP1, sT1⟩ := v16
        have hP : va_P D vwCl (xW F (sS1, sP1, sQ1, sE1, ec1, sc1, vl1, LP1, sT1)) H := hP1
        have hD : va_D A (xW F (sS1, sP1, sQ1, sE1, ec1, sc1, vl1, LP1, sT1)) := hD1
        refine W.widen (k := 1) (n := 6) (Nat.le_of_ble_eq_true rfl) (Nat.le_of_ble_eq_true rfl) ?_
        exact W.iret (v := r15) hx hb hr (fun tE ht hW => ⟨⟨r15, (sS1, sP1, sQ1, sE1, ec1, sc1, vl1, LP1, sT1), rfl, by simp only [rMake, b3, b6, eq_true c7, eq_self, ↓reduceIte, Bool.false_eq_true]; exact hw17, by rw [ht]; exact hP, va_K.moved hW.alike hK, hD⟩, hS.F ht⟩) hS.2.2 dX1_make_40
    · refine lv_if_ne (tgt := 20) hx hb dX1_make_15 (by decide) (fun cz => absurd cz (by decide)) (fun _ => ?_)
      refine lv_iconst (v := (-1)) hx hb dX1_make_18 (by decide) ?_
      refine W.widen (k := 1) (n := 6) (Nat.le_of_ble_eq_true rfl) (Nat.le_of_ble_eq_true rfl) ?_
      exact W.iret (v := (-1)) hx hb hr (fun tE ht hW => ⟨⟨(-1), (sS, sP, sQ, sE, ec, sc, vl, LP, sT), rfl, by simp only [rMake, b3, b6, eq_self, ↓reduceIte, Bool.false_eq_true]; first | exact ⟨rfl, rfl⟩ | exact ⟨trivial, trivial⟩ | trivial, by rw [ht]; exact hP, va_K.moved hW.alike hK, hD⟩, hS.F ht⟩) hS.2.2 dX1_make_19
  · refine lv_if_eq (tgt := 18) hx hb dX1_make_6 (by decide) (fun _ => ?_) (fun cz => absurd cz (by decide))
    refine lv_iconst (v := (-1)) hx hb dX1_make_18 (by decide) ?_
    refine W.widen (k := 1) (n := 6) (Nat.le_of_ble_eq_true rfl) (Nat.le_of_ble_eq_true rfl) ?_
    exact W.iret (v := (-1)) hx hb hr (fun tE ht hW => ⟨⟨(-1), (sS, sP, sQ, sE, ec, sc, vl, LP, sT), rfl, by simp only [rMake, b3, eq_self, ↓reduceIte, Bool.false_eq_true]; first | exact ⟨rfl, rfl⟩ | exact ⟨trivial, trivial⟩ | trivial, by rw [ht]; exact hP, va_K.moved hW.alike hK, hD⟩, hS.F ht⟩) hS.2.2 dX1_make_19
