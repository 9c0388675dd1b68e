set_option maxHeartbeats 8000000 in
set_option maxRecDepth 100000 in
theorem j_turns (l : Launch) (D : va_G) (G : YF) (v : YS) (sz : Nat) (p0 p1 : Int32) : Met l yY_turns wY_turns ({ frames := 1, cells := 0, slots := 0, locals := 22 }) (yPc D G v sz [.ref G.1, .int p0, .int p1]) (va_Qi (fun (r : Int32) (w : YS) => (r, w) = zTurn v p0 p1) (yB D G (va_A (yW G v) sz)) (va_A (yW G v) sz)) 0 0 (va_A (yW G v) sz) := by
  obtain ⟨zk, zn, zi, zt, zs, zr, zd, zy, zm, zc, zv, ze, zo⟩ := v
  refine Met.ofW (cc := cY_turns) (maxL := 7) (ret := (Option.some Jvm.ClassFile.FieldType.int)) (by decide) rfl ?_
  intro p e s m args below meth c s₁ B hml hv
  obtain ⟨rfl, hsz, hP, hK, hD0⟩ := hv
  have hx := B.exec
  have hb := B.bytes
  have hr := B.returns
  have hts := atoms_spec (ws := wY_turns) B.pre
  have hty : ∀ w ∈ yAll, w.before _ s = true := fun w h => hts w (List.mem_cons_of_mem _ h)
  have hown : s.vm.findClass RY = some m.cls := findClass_of_methodNamed B.named
  have hlocks := B.notSynchronized
  subst hsz
  have hD := hD0.self (sz := s.heap.size)
  generalize hAe : va_A (yW G (zk, zn, zi, zt, zs, zr, zd, zy, zm, zc, zv, ze, zo)) s.heap.size = A at hD ⊢
  have hA : ∀ q : Nat, s.heap.size ≤ q → A q := fun q h => by rw [← hAe]; exact Or.inr h
  have hS : va_S A s.heap s.heap [] := va_S.rf
  refine xHeap (C := fun H => va_P D vwCl (yW G (zk, zn, zi, zt, zs, zr, zd, zy, zm, zc, zv, ze, zo)) H ∧ va_S A s.heap H []) ⟨hP, hS⟩ (fun H hC => ?_)
  obtain ⟨hP, hS⟩ := hC
  have hl := lv_entry ([.ref G.1, .int p0, .int p1]) (n := 7) (Nat.le_of_ble_eq_true rfl)
  rw [lg_entry_eq]
  generalize (lg_sl ([.ref G.1, .int p0, .int p1]) ++ List.replicate (7 - (lg_sl ([.ref G.1, .int p0, .int p1])).length) Slot.unset).toArray = ls at hl ⊢
  have hl : lv_has ls 7 [(0, .ref G.1), (1, .int p0), (2, .int p1)] := hl
  refine lv_iconst (v := 0) hx hb dY_turns_0 (by decide) ?_
  refine lv_istore_n (lv' := [(3, .int 0), (0, .ref G.1), (1, .int p0), (2, .int p1)]) hx hb dY_turns_1 rfl hl (by decide) rfl (fun ls hl => ?_)
  refine lv_iconst (v := 1) hx hb dY_turns_2 (by decide) ?_
  refine lv_istore (lv' := [(4, .int 1), (3, .int 0), (0, .ref G.1), (1, .int p0), (2, .int p1)]) hx hb dY_turns_3 hl (by decide) rfl (fun ls hl => ?_)
  refine lv_iload hx hb dY_turns_5 (lv_at hl 0 rfl) ?_
  refine lv_bipush (v := 6) hx hb dY_turns_7 (by decide) ?_
  refine lv_icmp_ge (tgt := 81) hx hb dY_turns_9 (by decide) (fun cz => absurd cz (by decide)) (fun _ => ?_)
  refine lv_iload hx hb dY_turns_12 (lv_at hl 0 rfl) ?_
  refine lv_iload_n hx hb dY_turns_14 rfl (lv_at hl 3 rfl) ?_
  refine lv_bipush (v := 7) hx hb dY_turns_15 (by decide) ?_
  refine lv_iand hx hb dY_turns_17 ?_
  refine lv_icmp_ne (tgt := 25) hx hb dY_turns_18 (by decide) (fun c1 => ?_) (fun c1 => ?_)
  · refine lv_iconst (v := 0) hx hb dY_turns_25 (by decide) ?_
    refine lv_istore (lv' := [(5, .int 0), (4, .int 1), (3, .int 0), (0, .ref G.1), (1, .int p0), (2, .int p1)]) hx hb dY_turns_26 hl (by decide) rfl (fun ls hl => ?_)
    refine lv_iload hx hb dY_turns_28 (lv_at hl 0 rfl) ?_
    refine lv_if_ne (tgt := 46) hx hb dY_turns_30 (by decide) (fun cz => absurd cz (by decide)) (fun _ => ?_)
    refine lv_iload hx hb dY_turns_33 (lv_at hl 1 rfl) ?_
    refine lv_iload_n hx hb dY_turns_35 rfl (lv_at hl 5 rfl) ?_
    refine lv_bipush (v := 7) hx hb dY_turns_36 (by decide) ?_
    refine lv_iand hx hb dY_turns_38 ?_
    refine lv_icmp_ne (tgt := 46) hx hb dY_turns_39 (by decide) (fun c2 => ?_) (fun c2 => ?_)
    · refine lv_iconst (v := 0) hx hb dY_turns_46 (by decide) ?_
      refine lv_istore (lv' := [(6, .int 0), (5, .int 0), (4, .int 1), (3, .int 0), (0, .ref G.1), (1, .int p0), (2, .int p1)]) hx hb dY_turns_47 hl (by decide) rfl (fun ls hl => ?_)
      refine lv_iload hx hb dY_turns_49 (lv_at hl 1 rfl) ?_
      refine lv_if_ne (tgt := 62) hx hb dY_turns_51 (by decide) (fun cz => absurd cz (by decide)) (fun _ => ?_)
      refine lv_iload hx hb dY_turns_54 (lv_at hl 0 rfl) ?_
      refine lv_if_ne (tgt := 62) hx hb dY_turns_56 (by decide) (fun cz => absurd cz (by decide)) (fun _ => ?_)
      refine lv_iinc (v := 1) (lv' := [(3, .int 1), (6, .int 0), (5, .int 0), (4, .int 1), (0, .ref G.1), (1, .int p0), (2, .int p1)]) hx hb dY_turns_59 hl (k := 3) rfl (by decide) (by decide) rfl (fun ls hl => ?_)
      refine lv_aload_n hx hb dY_turns_62 rfl (lv_at hl 4 rfl) ?_
      refine lv_iload hx hb dY_turns_63 (lv_at hl 3 rfl) ?_
      have hf3 := xFree hD hS hA
      refine va_callv (va_runV (As := [.int 1]) (rest := []) ⟨hx, hb, hml, hown, hts⟩ (j_note l D G (zk, zn, zi, zt, zs, zr, zd, zy, zm, zc, zv, ze, zo)  H.size 1) (cwV 1 hts (yV ylY_56 ym_note ys_note yc_note) rfl rfl rfl (by decide +kernel) ⟨Nat.le_of_ble_eq_true rfl, Nat.le_of_ble_eq_true rfl⟩) (yPre hK hP hD _) rfl rfl hl.1 rfl (lv_room (Nat.le_of_ble_eq_true rfl)) dY_turns_65 ⟨Nat.le_of_ble_eq_true rfl, Nat.le_of_ble_eq_true rfl⟩) hS (fun q _ h => hf3 q h) hf3 (fun v5 t7 H1 locs ht hvm hw6 hB hz1 hk1 hS => ?_)
      obtain ⟨hP1, hK1, hD1⟩ := hB
      rw [ht] at hP1
      replace hD1 := hD1.weaken (fun _ _ _ h => hf3 _ h)
      generalize H1 = H at hP1 hS ⊢
      obtain rfl := (show v5 = (zk, zn, zi, zt, zs, zr, zd, zy, zm, zc, zv, (yShift ze 1), (zo + 1)) from hw6)
      have hP : va_P D vwCl (yW G (zk, zn, zi, zt, zs, zr, zd, zy, zm, zc, zv, (yShift ze 1), (zo + 1))) H := hP1
      have hD : va_D A (yW G (zk, zn, zi, zt, zs, zr, zd, zy, zm, zc, zv, (yShift ze 1), (zo + 1))) := hD1
      refine lv_iload hx hb dY_turns_68 (lv_at hl 1 rfl) ?_
      refine lv_if_eq (tgt := 75) hx hb dY_turns_70 (by decide) (fun _ => ?_) (fun cz => absurd cz (by decide))
      refine lv_iinc (v := 2) (lv' := [(4, .int 2), (3, .int 1), (6, .int 0), (5, .int 0), (0, .ref G.1), (1, .int p0), (2, .int p1)]) hx hb dY_turns_75 hl (k := 3) rfl (by decide) (by decide) rfl (fun ls hl => ?_)
      refine lv_goto (tgt := 5) hx hb dY_turns_78 (by decide) ?_
      refine lv_iload hx hb dY_turns_5 (lv_at hl 0 rfl) ?_
      refine lv_bipush (v := 6) hx hb dY_turns_7 (by decide) ?_
      refine lv_icmp_ge (tgt := 81) hx hb dY_turns_9 (by decide) (fun cz => absurd cz (by decide)) (fun _ => ?_)
      refine lv_iload hx hb dY_turns_12 (lv_at hl 0 rfl) ?_
      refine lv_iload_n hx hb dY_turns_14 rfl (lv_at hl 5 rfl) ?_
      refine lv_bipush (v := 7) hx hb dY_turns_15 (by decide) ?_
      refine lv_iand hx hb dY_turns_17 ?_
      refine lv_icmp_ne (tgt := 25) hx hb dY_turns_18 (by decide) (fun c8 => ?_) (fun c8 => ?_)
      · refine lv_iconst (v := 0) hx hb dY_turns_25 (by decide) ?_
        refine lv_istore (lv' := [(5, .int 0), (4, .int 2), (3, .int 1), (6, .int 0), (0, .ref G.1), (1, .int p0), (2, .int p1)]) hx hb dY_turns_26 hl (by decide) rfl (fun ls hl => ?_)
        refine lv_iload hx hb dY_turns_28 (lv_at hl 0 rfl) ?_
        refine lv_if_ne (tgt := 46) hx hb dY_turns_30 (by decide) (fun cz => absurd cz (by decide)) (fun _ => ?_)
        refine lv_iload hx hb dY_turns_33 (lv_at hl 1 rfl) ?_
        refine lv_iload_n hx hb dY_turns_35 rfl (lv_at hl 6 rfl) ?_
        refine lv_bipush (v := 7) hx hb dY_turns_36 (by decide) ?_
        refine lv_iand hx hb dY_turns_38 ?_
        refine lv_icmp_ne (tgt := 46) hx hb dY_turns_39 (by decide) (fun c9 => ?_) (fun c9 => ?_)
        · refine lv_iconst (v := 0) hx hb dY_turns_46 (by decide) ?_
          refine lv_istore (lv' := [(6, .int 0), (5, .int 0), (4, .int 2), (3, .int 1), (0, .ref G.1), (1, .int p0), (2, .int p1)]) hx hb dY_turns_47 hl (by decide) rfl (fun ls hl => ?_)
          refine lv_iload hx hb dY_turns_49 (lv_at hl 1 rfl) ?_
          refine lv_if_ne (tgt := 62) hx hb dY_turns_51 (by decide) (fun cz => absurd cz (by decide)) (fun _ => ?_)
          refine lv_iload hx hb dY_turns_54 (lv_at hl 0 rfl) ?_
          refine lv_if_ne (tgt := 62) hx hb dY_turns_56 (by decide) (fun cz => absurd cz (by decide)) (fun _ => ?_)
          refine lv_iinc (v := 2) (lv' := [(3, .int 2), (6, .int 0), (5, .int 0), (4, .int 2), (0, .ref G.1), (1, .int p0), (2, .int p1)]) hx hb dY_turns_59 hl (k := 3) rfl (by decide) (by decide) rfl (fun ls hl => ?_)
          refine lv_aload_n hx hb dY_turns_62 rfl (lv_at hl 4 rfl) ?_
          refine lv_iload hx hb dY_turns_63 (lv_at hl 3 rfl) ?_
          have hf10 := xFree hD hS hA
          refine va_callv (va_runV (As := [.int 2]) (rest := []) ⟨hx, hb, hml, hown, hts⟩ (j_note l D G (zk, zn, zi, zt, zs, zr, zd, zy, zm, zc, zv, (yShift ze 1), (zo + 1))  H.size 2) (cwV 1 hts (yV ylY_56 ym_note ys_note yc_note) rfl rfl rfl (by decide +kernel) ⟨Nat.le_of_ble_eq_true rfl, Nat.le_of_ble_eq_true rfl⟩) (yPre hK hP hD _) rfl rfl hl.1 rfl (lv_room (Nat.le_of_ble_eq_true rfl)) dY_turns_65 ⟨Nat.le_of_ble_eq_true rfl, Nat.le_of_ble_eq_true rfl⟩) hS (fun q _ h => hf10 q h) hf10 (fun v12 t14 H1 locs ht hvm hw13 hB hz1 hk1 hS => ?_)
          obtain ⟨hP1, hK1, hD1⟩ := hB
          rw [ht] at hP1
          replace hD1 := hD1.weaken (fun _ _ _ h => hf10 _ h)
          generalize H1 = H at hP1 hS ⊢
          obtain rfl := (show v12 = (zk, zn, zi, zt, zs, zr, zd, zy, zm, zc, zv, (yShift (yShift ze 1) 2), ((zo + 1) + 1)) from hw13)
          have hP : va_P D vwCl (yW G (zk, zn, zi, zt, zs, zr, zd, zy, zm, zc, zv, (yShift (yShift ze 1) 2), ((zo + 1) + 1))) H := hP1
          have hD : va_D A (yW G (zk, zn, zi, zt, zs, zr, zd, zy, zm, zc, zv, (yShift (yShift ze 1) 2), ((zo + 1) + 1))) := hD1
          refine lv_iload hx hb dY_turns_68 (lv_at hl 1 rfl) ?_
          refine lv_if_eq (tgt := 75) hx hb dY_turns_70 (by decide) (fun _ => ?_) (fun cz => absurd cz (by decide))
          refine lv_iinc (v := 3) (lv' := [(4, .int 3), (3, .int 2), (6, .int 0), (5, .int 0), (0, .ref G.1), (1, .int p0), (2, .int p1)]) hx hb dY_turns_75 hl (k := 3) rfl (by decide) (by decide) rfl (fun ls hl => ?_)
          refine lv_goto (tgt := 5) hx hb dY_turns_78 (by decide) ?_
          refine lv_iload hx hb dY_turns_5 (lv_at hl 0 rfl) ?_
          refine lv_bipush (v := 6) hx hb dY_turns_7 (by decide) ?_
          refine lv_icmp_ge (tgt := 81) hx hb dY_turns_9 (by decide) (fun cz => absurd cz (by decide)) (fun _ => ?_)
          refine lv_iload hx hb dY_turns_12 (lv_at hl 0 rfl) ?_
          refine lv_iload_n hx hb dY_turns_14 rfl (lv_at hl 5 rfl) ?_
          refine lv_bipush (v := 7) hx hb dY_turns_15 (by decide) ?_
          refine lv_iand hx hb dY_turns_17 ?_
          refine lv_icmp_ne (tgt := 25) hx hb dY_turns_18 (by decide) (fun c15 => ?_) (fun c15 => ?_)
          · refine lv_iconst (v := 0) hx hb dY_turns_25 (by decide) ?_
            refine lv_istore (lv' := [(5, .int 0), (4, .int 3), (3, .int 2), (6, .int 0), (0, .ref G.1), (1, .int p0), (2, .int p1)]) hx hb dY_turns_26 hl (by decide) rfl (fun ls hl => ?_)
            refine lv_iload hx hb dY_turns_28 (lv_at hl 0 rfl) ?_
            refine lv_if_ne (tgt := 46) hx hb dY_turns_30 (by decide) (fun cz => absurd cz (by decide)) (fun _ => ?_)
            refine lv_iload hx hb dY_turns_33 (lv_at hl 1 rfl) ?_
            refine lv_iload_n hx hb dY_turns_35 rfl (lv_at hl 6 rfl) ?_
            refine lv_bipush (v := 7) hx hb dY_turns_36 (by decide) ?_
            refine lv_iand hx hb dY_turns_38 ?_
            refine lv_icmp_ne (tgt := 46) hx hb dY_turns_39 (by decide) (fun c16 => ?_) (fun c16 => ?_)
            · refine lv_iconst (v := 0) hx hb dY_turns_46 (by decide) ?_
              refine lv_istore (lv' := [(6, .int 0), (5, .int 0), (4, .int 3), (3, .int 2), (0, .ref G.1), (1, .int p0), (2, .int p1)]) hx hb dY_turns_47 hl (by decide) rfl (fun ls hl => ?_)
              refine lv_iload hx hb dY_turns_49 (lv_at hl 1 rfl) ?_
              refine lv_if_ne (tgt := 62) hx hb dY_turns_51 (by decide) (fun cz => absurd cz (by decide)) (fun _ => ?_)
              refine lv_iload hx hb dY_turns_54 (lv_at hl 0 rfl) ?_
              refine lv_if_ne (tgt := 62) hx hb dY_turns_56 (by decide) (fun cz => absurd cz (by decide)) (fun _ => ?_)
              refine lv_iinc (v := 3) (lv' := [(3, .int 3), (6, .int 0), (5, .int 0), (4, .int 3), (0, .ref G.1), (1, .int p0), (2, .int p1)]) hx hb dY_turns_59 hl (k := 3) rfl (by decide) (by decide) rfl (fun ls hl => ?_)
              refine lv_aload_n hx hb dY_turns_62 rfl (lv_at hl 4 rfl) ?_
              refine lv_iload hx hb dY_turns_63 (lv_at hl 3 rfl) ?_
              have hf17 := xFree hD hS hA
              refine va_callv (va_runV (As := [.int 3]) (rest := []) ⟨hx, hb, hml, hown, hts⟩ (j_note l D G (zk, zn, zi, zt, zs, zr, zd, zy, zm, zc, zv, (yShift (yShift ze 1) 2), ((zo + 1) + 1))  H.size 3) (cwV 1 hts (yV ylY_56 ym_note ys_note yc_note) rfl rfl rfl (by decide +kernel) ⟨Nat.le_of_ble_eq_true rfl, Nat.le_of_ble_eq_true rfl⟩) (yPre hK hP hD _) rfl rfl hl.1 rfl (lv_room (Nat.le_of_ble_eq_true rfl)) dY_turns_65 ⟨Nat.le_of_ble_eq_true rfl, Nat.le_of_ble_eq_true rfl⟩) hS (fun q _ h => hf17 q h) hf17 (fun v19 t21 H1 locs ht hvm hw20 hB hz1 hk1 hS => ?_)
              obtain ⟨hP1, hK1, hD1⟩ := hB
              rw [ht] at hP1
              replace hD1 := hD1.weaken (fun _ _ _ h => hf17 _ h)
              generalize H1 = H at hP1 hS ⊢
              obtain rfl := (show v19 = (zk, zn, zi, zt, zs, zr, zd, zy, zm, zc, zv, (yShift (yShift (yShift ze 1) 2) 3), (((zo + 1) + 1) + 1)) from hw20)
              have hP : va_P D vwCl (yW G (zk, zn, zi, zt, zs, zr, zd, zy, zm, zc, zv, (yShift (yShift (yShift ze 1) 2) 3), (((zo + 1) + 1) + 1))) H := hP1
              have hD : va_D A (yW G (zk, zn, zi, zt, zs, zr, zd, zy, zm, zc, zv, (yShift (yShift (yShift ze 1) 2) 3), (((zo + 1) + 1) + 1))) := hD1
              refine lv_iload hx hb dY_turns_68 (lv_at hl 1 rfl) ?_
              refine lv_if_eq (tgt := 75) hx hb dY_turns_70 (by decide) (fun _ => ?_) (fun cz => absurd cz (by decide))
              refine lv_iinc (v := 4) (lv' := [(4, .int 4), (3, .int 3), (6, .int 0), (5, .int 0), (0, .ref G.1), (1, .int p0), (2, .int p1)]) hx hb dY_turns_75 hl (k := 3) rfl (by decide) (by decide) rfl (fun ls hl => ?_)
              refine lv_goto (tgt := 5) hx hb dY_turns_78 (by decide) ?_
              refine lv_iload hx hb dY_turns_5 (lv_at hl 0 rfl) ?_
              refine lv_bipush (v := 6) hx hb dY_turns_7 (by decide) ?_
              refine lv_icmp_ge (tgt := 81) hx hb dY_turns_9 (by decide) (fun cz => absurd cz (by decide)) (fun _ => ?_)
              refine lv_iload hx hb dY_turns_12 (lv_at hl 0 rfl) ?_
              refine lv_iload_n hx hb dY_turns_14 rfl (lv_at hl 5 rfl) ?_
              refine lv_bipush (v := 7) hx hb dY_turns_15 (by decide) ?_
              refine lv_iand hx hb dY_turns_17 ?_
              refine lv_icmp_ne (tgt := 25) hx hb dY_turns_18 (by decide) (fun c22 => ?_) (fun c22 => ?_)
              · refine lv_iconst (v := 0) hx hb dY_turns_25 (by decide) ?_
                refine lv_istore (lv' := [(5, .int 0), (4, .int 4), (3, .int 3), (6, .int 0), (0, .ref G.1), (1, .int p0), (2, .int p1)]) hx hb dY_turns_26 hl (by decide) rfl (fun ls hl => ?_)
                refine lv_iload hx hb dY_turns_28 (lv_at hl 0 rfl) ?_
                refine lv_if_ne (tgt := 46) hx hb dY_turns_30 (by decide) (fun cz => absurd cz (by decide)) (fun _ => ?_)
                refine lv_iload hx hb dY_turns_33 (lv_at hl 1 rfl) ?_
                refine lv_iload_n hx hb dY_turns_35 rfl (lv_at hl 6 rfl) ?_
                refine lv_bipush (v := 7) hx hb dY_turns_36 (by decide) ?_
                refine lv_iand hx hb dY_turns_38 ?_
                refine lv_icmp_ne (tgt := 46) hx hb dY_turns_39 (by decide) (fun c23 => ?_) (fun c23 => ?_)
                · refine lv_iconst (v := 0) hx hb dY_turns_46 (by decide) ?_
                  refine lv_istore (lv' := [(6, .int 0), (5, .int 0), (4, .int 4), (3, .int 3), (0, .ref G.1), (1, .int p0), (2, .int p1)]) hx hb dY_turns_47 hl (by decide) rfl (fun ls hl => ?_)
                  refine lv_iload hx hb dY_turns_49 (lv_at hl 1 rfl) ?_
                  refine lv_if_ne (tgt := 62) hx hb dY_turns_51 (by decide) (fun cz => absurd cz (by decide)) (fun _ => ?_)
                  refine lv_iload hx hb dY_turns_54 (lv_at hl 0 rfl) ?_
                  refine lv_if_ne (tgt := 62) hx hb dY_turns_56 (by decide) (fun cz => absurd cz (by decide)) (fun _ => ?_)
                  refine lv_iinc (v := 4) (lv' := [(3, .int 4), (6, .int 0), (5, .int 0), (4, .int 4), (0, .ref G.1), (1, .int p0), (2, .int p1)]) hx hb dY_turns_59 hl (k := 3) rfl (by decide) (by decide) rfl (fun ls hl => ?_)
                  refine lv_aload_n hx hb dY_turns_62 rfl (lv_at hl 4 rfl) ?_
                  refine lv_iload hx hb dY_turns_63 (lv_at hl 3 rfl) ?_
                  have hf24 := xFree hD hS hA
                  refine va_callv (va_runV (As := [.int 4]) (rest := []) ⟨hx, hb, hml, hown, hts⟩ (j_note l D G (zk, zn, zi, zt, zs, zr, zd, zy, zm, zc, zv, (yShift (yShift (yShift ze 1) 2) 3), (((zo + 1) + 1) + 1))  H.size 4) (cwV 1 hts (yV ylY_56 ym_note ys_note yc_note) rfl rfl rfl (by decide +kernel) ⟨Nat.le_of_ble_eq_true rfl, Nat.le_of_ble_eq_true rfl⟩) (yPre hK hP hD _) rfl rfl hl.1 rfl (lv_room (Nat.le_of_ble_eq_true rfl)) dY_turns_65 ⟨Nat.le_of_ble_eq_true rfl, Nat.le_of_ble_eq_true rfl⟩) hS (fun q _ h => hf24 q h) hf24 (fun v26 t28 H1 locs ht hvm hw27 hB hz1 hk1 hS => ?_)
                  obtain ⟨hP1, hK1, hD1⟩ := hB
                  rw [ht] at hP1
                  replace hD1 := hD1.weaken (fun _ _ _ h => hf24 _ h)
                  generalize H1 = H at hP1 hS ⊢
                  obtain rfl := (show v26 = (zk, zn, zi, zt, zs, zr, zd, zy, zm, zc, zv, (yShift (yShift (yShift (yShift ze 1) 2) 3) 4), ((((zo + 1) + 1) + 1) + 1)) from hw27)
                  have hP : va_P D vwCl (yW G (zk, zn, zi, zt, zs, zr, zd, zy, zm, zc, zv, (yShift (yShift (yShift (yShift ze 1) 2) 3) 4), ((((zo + 1) + 1) + 1) + 1))) H := hP1
                  have hD : va_D A (yW G (zk, zn, zi, zt, zs, zr, zd, zy, zm, zc, zv, (yShift (yShift (yShift (yShift ze 1) 2) 3) 4), ((((zo + 1) + 1) + 1) + 1))) := hD1
                  refine lv_iload hx hb dY_turns_68 (lv_at hl 1 rfl) ?_
                  refine lv_if_eq (tgt := 75) hx hb dY_turns_70 (by decide) (fun _ => ?_) (fun cz => absurd cz (by decide))
                  refine lv_iinc (v := 5) (lv' := [(4, .int 5), (3, .int 4), (6, .int 0), (5, .int 0), (0, .ref G.1), (1, .int p0), (2, .int p1)]) hx hb dY_turns_75 hl (k := 3) rfl (by decide) (by decide) rfl (fun ls hl => ?_)
                  refine lv_goto (tgt := 5) hx hb dY_turns_78 (by decide) ?_
                  refine lv_iload hx hb dY_turns_5 (lv_at hl 0 rfl) ?_
                  refine lv_bipush (v := 6) hx hb dY_turns_7 (by decide) ?_
                  refine lv_icmp_ge (tgt := 81) hx hb dY_turns_9 (by decide) (fun cz => absurd cz (by decide)) (fun _ => ?_)
                  refine lv_iload hx hb dY_turns_12 (lv_at hl 0 rfl) ?_
                  refine lv_iload_n hx hb dY_turns_14 rfl (lv_at hl 5 rfl) ?_
                  refine lv_bipush (v := 7) hx hb dY_turns_15 (by decide) ?_
                  refine lv_iand hx hb dY_turns_17 ?_
                  refine lv_icmp_ne (tgt := 25) hx hb dY_turns_18 (by decide) (fun c29 => ?_) (fun c29 => ?_)
                  · refine lv_iconst (v := 0) hx hb dY_turns_25 (by decide) ?_
                    refine lv_istore (lv' := [(5, .int 0), (4, .int 5), (3, .int 4), (6, .int 0), (0, .ref G.1), (1, .int p0), (2, .int p1)]) hx hb dY_turns_26 hl (by decide) rfl (fun ls hl => ?_)
                    refine lv_iload hx hb dY_turns_28 (lv_at hl 0 rfl) ?_
                    refine lv_if_ne (tgt := 46) hx hb dY_turns_30 (by decide) (fun cz => absurd cz (by decide)) (fun _ => ?_)
                    refine lv_iload hx hb dY_turns_33 (lv_at hl 1 rfl) ?_
                    refine lv_iload_n hx hb dY_turns_35 rfl (lv_at hl 6 rfl) ?_
                    refine lv_bipush (v := 7) hx hb dY_turns_36 (by decide) ?_
                    refine lv_iand hx hb dY_turns_38 ?_
                    refine lv_icmp_ne (tgt := 46) hx hb dY_turns_39 (by decide) (fun c30 => ?_) (fun c30 => ?_)
                    · refine lv_iconst (v := 0) hx hb dY_turns_46 (by decide) ?_
                      refine lv_istore (lv' := [(6, .int 0), (5, .int 0), (4, .int 5), (3, .int 4), (0, .ref G.1), (1, .int p0), (2, .int p1)]) hx hb dY_turns_47 hl (by decide) rfl (fun ls hl => ?_)
                      refine lv_iload hx hb dY_turns_49 (lv_at hl 1 rfl) ?_
                      refine lv_if_ne (tgt := 62) hx hb dY_turns_51 (by decide) (fun cz => absurd cz (by decide)) (fun _ => ?_)
                      refine lv_iload hx hb dY_turns_54 (lv_at hl 0 rfl) ?_
                      refine lv_if_ne (tgt := 62) hx hb dY_turns_56 (by decide) (fun cz => absurd cz (by decide)) (fun _ => ?_)
                      refine lv_iinc (v := 5) (lv' := [(3, .int 5), (6, .int 0), (5, .int 0), (4, .int 5), (0, .ref G.1), (1, .int p0), (2, .int p1)]) hx hb dY_turns_59 hl (k := 3) rfl (by decide) (by decide) rfl (fun ls hl => ?_)
                      refine lv_aload_n hx hb dY_turns_62 rfl (lv_at hl 4 rfl) ?_
                      refine lv_iload hx hb dY_turns_63 (lv_at hl 3 rfl) ?_
                      have hf31 := xFree hD hS hA
                      refine va_callv (va_runV (As := [.int 5]) (rest := []) ⟨hx, hb, hml, hown, hts⟩ (j_note l D G (zk, zn, zi, zt, zs, zr, zd, zy, zm, zc, zv, (yShift (yShift (yShift (yShift ze 1) 2) 3) 4), ((((zo + 1) + 1) + 1) + 1))  H.size 5) (cwV 1 hts (yV ylY_56 ym_note ys_note yc_note) rfl rfl rfl (by decide +kernel) ⟨Nat.le_of_ble_eq_true rfl, Nat.le_of_ble_eq_true rfl⟩) (yPre hK hP hD _) rfl rfl hl.1 rfl (lv_room (Nat.le_of_ble_eq_true rfl)) dY_turns_65 ⟨Nat.le_of_ble_eq_true rfl, Nat.le_of_ble_eq_true rfl⟩) hS (fun q _ h => hf31 q h) hf31 (fun v33 t35 H1 locs ht hvm hw34 hB hz1 hk1 hS => ?_)
                      obtain ⟨hP1, hK1, hD1⟩ := hB
                      rw [ht] at hP1
                      replace hD1 := hD1.weaken (fun _ _ _ h => hf31 _ h)
                      generalize H1 = H at hP1 hS ⊢
                      obtain rfl := (show v33 = (zk, zn, zi, zt, zs, zr, zd, zy, zm, zc, zv, (yShift (yShift (yShift (yShift (yShift ze 1) 2) 3) 4) 5), (((((zo + 1) + 1) + 1) + 1) + 1)) from hw34)
                      have hP : va_P D vwCl (yW G (zk, zn, zi, zt, zs, zr, zd, zy, zm, zc, zv, (yShift (yShift (yShift (yShift (yShift ze 1) 2) 3) 4) 5), (((((zo + 1) + 1) + 1) + 1) + 1))) H := hP1
                      have hD : va_D A (yW G (zk, zn, zi, zt, zs, zr, zd, zy, zm, zc, zv, (yShift (yShift (yShift (yShift (yShift ze 1) 2) 3) 4) 5), (((((zo + 1) + 1) + 1) + 1) + 1))) := hD1
                      refine lv_iload hx hb dY_turns_68 (lv_at hl 1 rfl) ?_
                      refine lv_if_eq (tgt := 75) hx hb dY_turns_70 (by decide) (fun _ => ?_) (fun cz => absurd cz (by decide))
                      refine lv_iinc (v := 6) (lv' := [(4, .int 6), (3, .int 5), (6, .int 0), (5, .int 0), (0, .ref G.1), (1, .int p0), (2, .int p1)]) hx hb dY_turns_75 hl (k := 3) rfl (by decide) (by decide) rfl (fun ls hl => ?_)
                      refine lv_goto (tgt := 5) hx hb dY_turns_78 (by decide) ?_
                      refine lv_iload hx hb dY_turns_5 (lv_at hl 0 rfl) ?_
                      refine lv_bipush (v := 6) hx hb dY_turns_7 (by decide) ?_
                      refine lv_icmp_ge (tgt := 81) hx hb dY_turns_9 (by decide) (fun _ => ?_) (fun cz => absurd cz (by decide))
                      refine lv_iload_n hx hb dY_turns_81 rfl (lv_at hl 1 rfl) ?_
                      exact W.iret (v := 5) hx hb hr (fun tE ht hW => ⟨⟨5, (zk, zn, zi, zt, zs, zr, zd, zy, zm, zc, zv, (yShift (yShift (yShift (yShift (yShift ze 1) 2) 3) 4) 5), (((((zo + 1) + 1) + 1) + 1) + 1)), rfl, by first | (simp only [zTurn, zTS, zN, zE, yk, yn, yi, yt, ys, yr, yd, yy, ym, yc, yv, ye, yo, c1, c2, c8, c9, c15, c16, c22, c23, c29, c30, eq_self, ↓reduceIte, Bool.false_eq_true, Bool.not_false, Bool.not_true, Bool.and_true, Bool.and_false, Bool.true_and, Bool.false_and, decide_true, decide_false] <;> first | done | decide) | (simp [zTurn, zTS, zN, zE, yk, yn, yi, yt, ys, yr, yd, yy, ym, yc, yv, ye, yo, c1, c2, c8, c9, c15, c16, c22, c23, c29, c30]; done), by rw [ht]; exact hP, va_K.moved hW.alike hK, hD⟩, hS.F ht⟩) hS.2.2 dY_turns_82
                    · refine lv_iconst (v := 1) hx hb dY_turns_42 (by decide) ?_
                      refine lv_goto (tgt := 47) hx hb dY_turns_43 (by decide) ?_
                      refine lv_istore (lv' := [(6, .int 1), (5, .int 0), (4, .int 5), (3, .int 4), (0, .ref G.1), (1, .int p0), (2, .int p1)]) hx hb dY_turns_47 hl (by decide) rfl (fun ls hl => ?_)
                      refine lv_iload hx hb dY_turns_49 (lv_at hl 1 rfl) ?_
                      refine lv_if_ne (tgt := 62) hx hb dY_turns_51 (by decide) (fun cz => absurd cz (by decide)) (fun _ => ?_)
                      refine lv_iload hx hb dY_turns_54 (lv_at hl 0 rfl) ?_
                      refine lv_if_ne (tgt := 62) hx hb dY_turns_56 (by decide) (fun _ => ?_) (fun cz => absurd cz (by decide))
                      refine lv_aload_n hx hb dY_turns_62 rfl (lv_at hl 4 rfl) ?_
                      refine lv_iload hx hb dY_turns_63 (lv_at hl 2 rfl) ?_
                      have hf36 := xFree hD hS hA
                      refine va_callv (va_runV (As := [.int 5]) (rest := []) ⟨hx, hb, hml, hown, hts⟩ (j_note l D G (zk, zn, zi, zt, zs, zr, zd, zy, zm, zc, zv, (yShift (yShift (yShift (yShift ze 1) 2) 3) 4), ((((zo + 1) + 1) + 1) + 1))  H.size 5) (cwV 1 hts (yV ylY_56 ym_note ys_note yc_note) rfl rfl rfl (by decide +kernel) ⟨Nat.le_of_ble_eq_true rfl, Nat.le_of_ble_eq_true rfl⟩) (yPre hK hP hD _) rfl rfl hl.1 rfl (lv_room (Nat.le_of_ble_eq_true rfl)) dY_turns_65 ⟨Nat.le_of_ble_eq_true rfl, Nat.le_of_ble_eq_true rfl⟩) hS (fun q _ h => hf36 q h) hf36 (fun v38 t40 H1 locs ht hvm hw39 hB hz1 hk1 hS => ?_)
                      obtain ⟨hP1, hK1, hD1⟩ := hB
                      rw [ht] at hP1
                      replace hD1 := hD1.weaken (fun _ _ _ h => hf36 _ h)
                      generalize H1 = H at hP1 hS ⊢
                      obtain rfl := (show v38 = (zk, zn, zi, zt, zs, zr, zd, zy, zm, zc, zv, (yShift (yShift (yShift (yShift (yShift ze 1) 2) 3) 4) 5), (((((zo + 1) + 1) + 1) + 1) + 1)) from hw39)
                      have hP : va_P D vwCl (yW G (zk, zn, zi, zt, zs, zr, zd, zy, zm, zc, zv, (yShift (yShift (yShift (yShift (yShift ze 1) 2) 3) 4) 5), (((((zo + 1) + 1) + 1) + 1) + 1))) H := hP1
                      have hD : va_D A (yW G (zk, zn, zi, zt, zs, zr, zd, zy, zm, zc, zv, (yShift (yShift (yShift (yShift (yShift ze 1) 2) 3) 4) 5), (((((zo + 1) + 1) + 1) + 1) + 1))) := hD1
                      refine lv_iload hx hb dY_turns_68 (lv_at hl 0 rfl) ?_
                      refine lv_if_eq (tgt := 75) hx hb dY_turns_70 (by decide) (fun cz => absurd cz (by decide)) (fun _ => ?_)
                      refine lv_iload_n hx hb dY_turns_73 rfl (lv_at hl 3 rfl) ?_
                      exact W.iret (v := 4) hx hb hr (fun tE ht hW => ⟨⟨4, (zk, zn, zi, zt, zs, zr, zd, zy, zm, zc, zv, (yShift (yShift (yShift (yShift (yShift ze 1) 2) 3) 4) 5), (((((zo + 1) + 1) + 1) + 1) + 1)), rfl, by first | (simp only [zTurn, zTS, zN, zE, yk, yn, yi, yt, ys, yr, yd, yy, ym, yc, yv, ye, yo, c1, c2, c8, c9, c15, c16, c22, c23, c29, eq_true c30, eq_self, ↓reduceIte, Bool.false_eq_true, Bool.not_false, Bool.not_true, Bool.and_true, Bool.and_false, Bool.true_and, Bool.false_and, decide_true, decide_false] <;> first | done | decide) | (simp only [zTurn, zTS, zN, zE, yk, yn, yi, yt, ys, yr, yd, yy, ym, yc, yv, ye, yo, c1, c2, c8, c9, c15, c16, c22, c23, c29, c30, eq_self, ↓reduceIte, Bool.false_eq_true, Bool.not_false, Bool.not_true, Bool.and_true, Bool.and_false, Bool.true_and, Bool.false_and, decide_true, decide_false] <;> first | done | decide) | (simp [zTurn, zTS, zN, zE, yk, yn, yi, yt, ys, yr, yd, yy, ym, yc, yv, ye, yo, c1, c2, c8, c9, c15, c16, c22, c23, c29, c30]; done) | (simp [zTurn, zTS, zN, zE, yk, yn, yi, yt, ys, yr, yd, yy, ym, yc, yv, ye, yo, c1, c2, c8, c9, c15, c16, c22, c23, c29, eq_true c30]; done), by rw [ht]; exact hP, va_K.moved hW.alike hK, hD⟩, hS.F ht⟩) hS.2.2 dY_turns_74
                  · refine lv_iconst (v := 1) hx hb dY_turns_21 (by decide) ?_
                    refine lv_goto (tgt := 26) hx hb dY_turns_22 (by decide) ?_
                    refine lv_istore (lv' := [(5, .int 1), (4, .int 5), (3, .int 4), (6, .int 0), (0, .ref G.1), (1, .int p0), (2, .int p1)]) hx hb dY_turns_26 hl (by decide) rfl (fun ls hl => ?_)
                    refine lv_iload hx hb dY_turns_28 (lv_at hl 0 rfl) ?_
                    refine lv_if_ne (tgt := 46) hx hb dY_turns_30 (by decide) (fun _ => ?_) (fun cz => absurd cz (by decide))
                    refine lv_iconst (v := 0) hx hb dY_turns_46 (by decide) ?_
                    refine lv_istore (lv' := [(6, .int 0), (5, .int 1), (4, .int 5), (3, .int 4), (0, .ref G.1), (1, .int p0), (2, .int p1)]) hx hb dY_turns_47 hl (by decide) rfl (fun ls hl => ?_)
                    refine lv_iload hx hb dY_turns_49 (lv_at hl 1 rfl) ?_
                    refine lv_if_ne (tgt := 62) hx hb dY_turns_51 (by decide) (fun _ => ?_) (fun cz => absurd cz (by decide))
                    refine lv_aload_n hx hb dY_turns_62 rfl (lv_at hl 4 rfl) ?_
                    refine lv_iload hx hb dY_turns_63 (lv_at hl 2 rfl) ?_
                    have hf41 := xFree hD hS hA
                    refine va_callv (va_runV (As := [.int 5]) (rest := []) ⟨hx, hb, hml, hown, hts⟩ (j_note l D G (zk, zn, zi, zt, zs, zr, zd, zy, zm, zc, zv, (yShift (yShift (yShift (yShift ze 1) 2) 3) 4), ((((zo + 1) + 1) + 1) + 1))  H.size 5) (cwV 1 hts (yV ylY_56 ym_note ys_note yc_note) rfl rfl rfl (by decide +kernel) ⟨Nat.le_of_ble_eq_true rfl, Nat.le_of_ble_eq_true rfl⟩) (yPre hK hP hD _) rfl rfl hl.1 rfl (lv_room (Nat.le_of_ble_eq_true rfl)) dY_turns_65 ⟨Nat.le_of_ble_eq_true rfl, Nat.le_of_ble_eq_true rfl⟩) hS (fun q _ h => hf41 q h) hf41 (fun v43 t45 H1 locs ht hvm hw44 hB hz1 hk1 hS => ?_)
                    obtain ⟨hP1, hK1, hD1⟩ := hB
                    rw [ht] at hP1
                    replace hD1 := hD1.weaken (fun _ _ _ h => hf41 _ h)
                    generalize H1 = H at hP1 hS ⊢
                    obtain rfl := (show v43 = (zk, zn, zi, zt, zs, zr, zd, zy, zm, zc, zv, (yShift (yShift (yShift (yShift (yShift ze 1) 2) 3) 4) 5), (((((zo + 1) + 1) + 1) + 1) + 1)) from hw44)
                    have hP : va_P D vwCl (yW G (zk, zn, zi, zt, zs, zr, zd, zy, zm, zc, zv, (yShift (yShift (yShift (yShift (yShift ze 1) 2) 3) 4) 5), (((((zo + 1) + 1) + 1) + 1) + 1))) H := hP1
                    have hD : va_D A (yW G (zk, zn, zi, zt, zs, zr, zd, zy, zm, zc, zv, (yShift (yShift (yShift (yShift (yShift ze 1) 2) 3) 4) 5), (((((zo + 1) + 1) + 1) + 1) + 1))) := hD1
                    refine lv_iload hx hb dY_turns_68 (lv_at hl 0 rfl) ?_
                    refine lv_if_eq (tgt := 75) hx hb dY_turns_70 (by decide) (fun _ => ?_) (fun cz => absurd cz (by decide))
                    refine lv_iinc (v := 6) (lv' := [(4, .int 6), (6, .int 0), (5, .int 1), (3, .int 4), (0, .ref G.1), (1, .int p0), (2, .int p1)]) hx hb dY_turns_75 hl (k := 2) rfl (by decide) (by decide) rfl (fun ls hl => ?_)
                    refine lv_goto (tgt := 5) hx hb dY_turns_78 (by decide) ?_
                    refine lv_iload hx hb dY_turns_5 (lv_at hl 0 rfl) ?_
                    refine lv_bipush (v := 6) hx hb dY_turns_7 (by decide) ?_
                    refine lv_icmp_ge (tgt := 81) hx hb dY_turns_9 (by decide) (fun _ => ?_) (fun cz => absurd cz (by decide))
                    refine lv_iload_n hx hb dY_turns_81 rfl (lv_at hl 3 rfl) ?_
                    exact W.iret (v := 4) hx hb hr (fun tE ht hW => ⟨⟨4, (zk, zn, zi, zt, zs, zr, zd, zy, zm, zc, zv, (yShift (yShift (yShift (yShift (yShift ze 1) 2) 3) 4) 5), (((((zo + 1) + 1) + 1) + 1) + 1)), rfl, by first | (simp only [zTurn, zTS, zN, zE, yk, yn, yi, yt, ys, yr, yd, yy, ym, yc, yv, ye, yo, c1, c2, c8, c9, c15, c16, c22, c23, eq_true c29, eq_self, ↓reduceIte, Bool.false_eq_true, Bool.not_false, Bool.not_true, Bool.and_true, Bool.and_false, Bool.true_and, Bool.false_and, decide_true, decide_false] <;> first | done | decide) | (simp only [zTurn, zTS, zN, zE, yk, yn, yi, yt, ys, yr, yd, yy, ym, yc, yv, ye, yo, c1, c2, c8, c9, c15, c16, c22, c23, c29, eq_self, ↓reduceIte, Bool.false_eq_true, Bool.not_false, Bool.not_true, Bool.and_true, Bool.and_false, Bool.true_and, Bool.false_and, decide_true, decide_false] <;> first | done | decide) | (simp [zTurn, zTS, zN, zE, yk, yn, yi, yt, ys, yr, yd, yy, ym, yc, yv, ye, yo, c1, c2, c8, c9, c15, c16, c22, c23, c29]; done) | (simp [zTurn, zTS, zN, zE, yk, yn, yi, yt, ys, yr, yd, yy, ym, yc, yv, ye, yo, c1, c2, c8, c9, c15, c16, c22, c23, eq_true c29]; done), by rw [ht]; exact hP, va_K.moved hW.alike hK, hD⟩, hS.F ht⟩) hS.2.2 dY_turns_82
                · refine lv_iconst (v := 1) hx hb dY_turns_42 (by decide) ?_
                  refine lv_goto (tgt := 47) hx hb dY_turns_43 (by decide) ?_
                  refine lv_istore (lv' := [(6, .int 1), (5, .int 0), (4, .int 4), (3, .int 3), (0, .ref G.1), (1, .int p0), (2, .int p1)]) hx hb dY_turns_47 hl (by decide) rfl (fun ls hl => ?_)
                  refine lv_iload hx hb dY_turns_49 (lv_at hl 1 rfl) ?_
                  refine lv_if_ne (tgt := 62) hx hb dY_turns_51 (by decide) (fun cz => absurd cz (by decide)) (fun _ => ?_)
                  refine lv_iload hx hb dY_turns_54 (lv_at hl 0 rfl) ?_
                  refine lv_if_ne (tgt := 62) hx hb dY_turns_56 (by decide) (fun _ => ?_) (fun cz => absurd cz (by decide))
                  refine lv_aload_n hx hb dY_turns_62 rfl (lv_at hl 4 rfl) ?_
                  refine lv_iload hx hb dY_turns_63 (lv_at hl 2 rfl) ?_
                  have hf46 := xFree hD hS hA
                  refine va_callv (va_runV (As := [.int 4]) (rest := []) ⟨hx, hb, hml, hown, hts⟩ (j_note l D G (zk, zn, zi, zt, zs, zr, zd, zy, zm, zc, zv, (yShift (yShift (yShift ze 1) 2) 3), (((zo + 1) + 1) + 1))  H.size 4) (cwV 1 hts (yV ylY_56 ym_note ys_note yc_note) rfl rfl rfl (by decide +kernel) ⟨Nat.le_of_ble_eq_true rfl, Nat.le_of_ble_eq_true rfl⟩) (yPre hK hP hD _) rfl rfl hl.1 rfl (lv_room (Nat.le_of_ble_eq_true rfl)) dY_turns_65 ⟨Nat.le_of_ble_eq_true rfl, Nat.le_of_ble_eq_true rfl⟩) hS (fun q _ h => hf46 q h) hf46 (fun v48 t50 H1 locs ht hvm hw49 hB hz1 hk1 hS => ?_)
                  obtain ⟨hP1, hK1, hD1⟩ := hB
                  rw [ht] at hP1
                  replace hD1 := hD1.weaken (fun _ _ _ h => hf46 _ h)
                  generalize H1 = H at hP1 hS ⊢
                  obtain rfl := (show v48 = (zk, zn, zi, zt, zs, zr, zd, zy, zm, zc, zv, (yShift (yShift (yShift (yShift ze 1) 2) 3) 4), ((((zo + 1) + 1) + 1) + 1)) from hw49)
                  have hP : va_P D vwCl (yW G (zk, zn, zi, zt, zs, zr, zd, zy, zm, zc, zv, (yShift (yShift (yShift (yShift ze 1) 2) 3) 4), ((((zo + 1) + 1) + 1) + 1))) H := hP1
                  have hD : va_D A (yW G (zk, zn, zi, zt, zs, zr, zd, zy, zm, zc, zv, (yShift (yShift (yShift (yShift ze 1) 2) 3) 4), ((((zo + 1) + 1) + 1) + 1))) := hD1
                  refine lv_iload hx hb dY_turns_68 (lv_at hl 0 rfl) ?_
                  refine lv_if_eq (tgt := 75) hx hb dY_turns_70 (by decide) (fun cz => absurd cz (by decide)) (fun _ => ?_)
                  refine lv_iload_n hx hb dY_turns_73 rfl (lv_at hl 3 rfl) ?_
                  exact W.iret (v := 3) hx hb hr (fun tE ht hW => ⟨⟨3, (zk, zn, zi, zt, zs, zr, zd, zy, zm, zc, zv, (yShift (yShift (yShift (yShift ze 1) 2) 3) 4), ((((zo + 1) + 1) + 1) + 1)), rfl, by first | (simp only [zTurn, zTS, zN, zE, yk, yn, yi, yt, ys, yr, yd, yy, ym, yc, yv, ye, yo, c1, c2, c8, c9, c15, c16, c22, eq_true c23, eq_self, ↓reduceIte, Bool.false_eq_true, Bool.not_false, Bool.not_true, Bool.and_true, Bool.and_false, Bool.true_and, Bool.false_and, decide_true, decide_false] <;> first | done | decide) | (simp only [zTurn, zTS, zN, zE, yk, yn, yi, yt, ys, yr, yd, yy, ym, yc, yv, ye, yo, c1, c2, c8, c9, c15, c16, c22, c23, eq_self, ↓reduceIte, Bool.false_eq_true, Bool.not_false, Bool.not_true, Bool.and_true, Bool.and_false, Bool.true_and, Bool.false_and, decide_true, decide_false] <;> first | done | decide) | (simp [zTurn, zTS, zN, zE, yk, yn, yi, yt, ys, yr, yd, yy, ym, yc, yv, ye, yo, c1, c2, c8, c9, c15, c16, c22, c23]; done) | (simp [zTurn, zTS, zN, zE, yk, yn, yi, yt, ys, yr, yd, yy, ym, yc, yv, ye, yo, c1, c2, c8, c9, c15, c16, c22, eq_true c23]; done), by rw [ht]; exact hP, va_K.moved hW.alike hK, hD⟩, hS.F ht⟩) hS.2.2 dY_turns_74
              · refine lv_iconst (v := 1) hx hb dY_turns_21 (by decide) ?_
                refine lv_goto (tgt := 26) hx hb dY_turns_22 (by decide) ?_
                refine lv_istore (lv' := [(5, .int 1), (4, .int 4), (3, .int 3), (6, .int 0), (0, .ref G.1), (1, .int p0), (2, .int p1)]) hx hb dY_turns_26 hl (by decide) rfl (fun ls hl => ?_)
                refine lv_iload hx hb dY_turns_28 (lv_at hl 0 rfl) ?_
                refine lv_if_ne (tgt := 46) hx hb dY_turns_30 (by decide) (fun _ => ?_) (fun cz => absurd cz (by decide))
                refine lv_iconst (v := 0) hx hb dY_turns_46 (by decide) ?_
                refine lv_istore (lv' := [(6, .int 0), (5, .int 1), (4, .int 4), (3, .int 3), (0, .ref G.1), (1, .int p0), (2, .int p1)]) hx hb dY_turns_47 hl (by decide) rfl (fun ls hl => ?_)
                refine lv_iload hx hb dY_turns_49 (lv_at hl 1 rfl) ?_
                refine lv_if_ne (tgt := 62) hx hb dY_turns_51 (by decide) (fun _ => ?_) (fun cz => absurd cz (by decide))
                refine lv_aload_n hx hb dY_turns_62 rfl (lv_at hl 4 rfl) ?_
                refine lv_iload hx hb dY_turns_63 (lv_at hl 2 rfl) ?_
                have hf51 := xFree hD hS hA
                refine va_callv (va_runV (As := [.int 4]) (rest := []) ⟨hx, hb, hml, hown, hts⟩ (j_note l D G (zk, zn, zi, zt, zs, zr, zd, zy, zm, zc, zv, (yShift (yShift (yShift ze 1) 2) 3), (((zo + 1) + 1) + 1))  H.size 4) (cwV 1 hts (yV ylY_56 ym_note ys_note yc_note) rfl rfl rfl (by decide +kernel) ⟨Nat.le_of_ble_eq_true rfl, Nat.le_of_ble_eq_true rfl⟩) (yPre hK hP hD _) rfl rfl hl.1 rfl (lv_room (Nat.le_of_ble_eq_true rfl)) dY_turns_65 ⟨Nat.le_of_ble_eq_true rfl, Nat.le_of_ble_eq_true rfl⟩) hS (fun q _ h => hf51 q h) hf51 (fun v53 t55 H1 locs ht hvm hw54 hB hz1 hk1 hS => ?_)
                obtain ⟨hP1, hK1, hD1⟩ := hB
                rw [ht] at hP1
                replace hD1 := hD1.weaken (fun _ _ _ h => hf51 _ h)
                generalize H1 = H at hP1 hS ⊢
                obtain rfl := (show v53 = (zk, zn, zi, zt, zs, zr, zd, zy, zm, zc, zv, (yShift (yShift (yShift (yShift ze 1) 2) 3) 4), ((((zo + 1) + 1) + 1) + 1)) from hw54)
                have hP : va_P D vwCl (yW G (zk, zn, zi, zt, zs, zr, zd, zy, zm, zc, zv, (yShift (yShift (yShift (yShift ze 1) 2) 3) 4), ((((zo + 1) + 1) + 1) + 1))) H := hP1
                have hD : va_D A (yW G (zk, zn, zi, zt, zs, zr, zd, zy, zm, zc, zv, (yShift (yShift (yShift (yShift ze 1) 2) 3) 4), ((((zo + 1) + 1) + 1) + 1))) := hD1
                refine lv_iload hx hb dY_turns_68 (lv_at hl 0 rfl) ?_
                refine lv_if_eq (tgt := 75) hx hb dY_turns_70 (by decide) (fun _ => ?_) (fun cz => absurd cz (by decide))
                refine lv_iinc (v := 5) (lv' := [(4, .int 5), (6, .int 0), (5, .int 1), (3, .int 3), (0, .ref G.1), (1, .int p0), (2, .int p1)]) hx hb dY_turns_75 hl (k := 2) rfl (by decide) (by decide) rfl (fun ls hl => ?_)
                refine lv_goto (tgt := 5) hx hb dY_turns_78 (by decide) ?_
                refine lv_iload hx hb dY_turns_5 (lv_at hl 0 rfl) ?_
                refine lv_bipush (v := 6) hx hb dY_turns_7 (by decide) ?_
                refine lv_icmp_ge (tgt := 81) hx hb dY_turns_9 (by decide) (fun cz => absurd cz (by decide)) (fun _ => ?_)
                refine lv_iload hx hb dY_turns_12 (lv_at hl 0 rfl) ?_
                refine lv_iload_n hx hb dY_turns_14 rfl (lv_at hl 5 rfl) ?_
                refine lv_bipush (v := 7) hx hb dY_turns_15 (by decide) ?_
                refine lv_iand hx hb dY_turns_17 ?_
                have c56 : ¬ 5 = (p0 &&& 7) := (by rw [← c22]; decide)
                refine lv_icmp_ne (tgt := 25) hx hb dY_turns_18 (by decide) (fun _ => ?_) (fun cz => absurd cz c56)
                refine lv_iconst (v := 0) hx hb dY_turns_25 (by decide) ?_
                refine lv_istore (lv' := [(5, .int 0), (4, .int 5), (6, .int 0), (3, .int 3), (0, .ref G.1), (1, .int p0), (2, .int p1)]) hx hb dY_turns_26 hl (by decide) rfl (fun ls hl => ?_)
                refine lv_iload hx hb dY_turns_28 (lv_at hl 0 rfl) ?_
                refine lv_if_ne (tgt := 46) hx hb dY_turns_30 (by decide) (fun cz => absurd cz (by decide)) (fun _ => ?_)
                refine lv_iload hx hb dY_turns_33 (lv_at hl 1 rfl) ?_
                refine lv_iload_n hx hb dY_turns_35 rfl (lv_at hl 6 rfl) ?_
                refine lv_bipush (v := 7) hx hb dY_turns_36 (by decide) ?_
                refine lv_iand hx hb dY_turns_38 ?_
                refine lv_icmp_ne (tgt := 46) hx hb dY_turns_39 (by decide) (fun c57 => ?_) (fun c57 => ?_)
                · refine lv_iconst (v := 0) hx hb dY_turns_46 (by decide) ?_
                  refine lv_istore (lv' := [(6, .int 0), (5, .int 0), (4, .int 5), (3, .int 3), (0, .ref G.1), (1, .int p0), (2, .int p1)]) hx hb dY_turns_47 hl (by decide) rfl (fun ls hl => ?_)
                  refine lv_iload hx hb dY_turns_49 (lv_at hl 1 rfl) ?_
                  refine lv_if_ne (tgt := 62) hx hb dY_turns_51 (by decide) (fun cz => absurd cz (by decide)) (fun _ => ?_)
                  refine lv_iload hx hb dY_turns_54 (lv_at hl 0 rfl) ?_
                  refine lv_if_ne (tgt := 62) hx hb dY_turns_56 (by decide) (fun cz => absurd cz (by decide)) (fun _ => ?_)
                  refine lv_iinc (v := 4) (lv' := [(3, .int 4), (6, .int 0), (5, .int 0), (4, .int 5), (0, .ref G.1), (1, .int p0), (2, .int p1)]) hx hb dY_turns_59 hl (k := 3) rfl (by decide) (by decide) rfl (fun ls hl => ?_)
                  refine lv_aload_n hx hb dY_turns_62 rfl (lv_at hl 4 rfl) ?_
                  refine lv_iload hx hb dY_turns_63 (lv_at hl 3 rfl) ?_
                  have hf58 := xFree hD hS hA
                  refine va_callv (va_runV (As := [.int 5]) (rest := []) ⟨hx, hb, hml, hown, hts⟩ (j_note l D G (zk, zn, zi, zt, zs, zr, zd, zy, zm, zc, zv, (yShift (yShift (yShift (yShift ze 1) 2) 3) 4), ((((zo + 1) + 1) + 1) + 1))  H.size 5) (cwV 1 hts (yV ylY_56 ym_note ys_note yc_note) rfl rfl rfl (by decide +kernel) ⟨Nat.le_of_ble_eq_true rfl, Nat.le_of_ble_eq_true rfl⟩) (yPre hK hP hD _) rfl rfl hl.1 rfl (lv_room (Nat.le_of_ble_eq_true rfl)) dY_turns_65 ⟨Nat.le_of_ble_eq_true rfl, Nat.le_of_ble_eq_true rfl⟩) hS (fun q _ h => hf58 q h) hf58 (fun v60 t62 H1 locs ht hvm hw61 hB hz1 hk1 hS => ?_)
                  obtain ⟨hP1, hK1, hD1⟩ := hB
                  rw [ht] at hP1
                  replace hD1 := hD1.weaken (fun _ _ _ h => hf58 _ h)
                  generalize H1 = H at hP1 hS ⊢
                  obtain rfl := (show v60 = (zk, zn, zi, zt, zs, zr, zd, zy, zm, zc, zv, (yShift (yShift (yShift (yShift (yShift ze 1) 2) 3) 4) 5), (((((zo + 1) + 1) + 1) + 1) + 1)) from hw61)
                  have hP : va_P D vwCl (yW G (zk, zn, zi, zt, zs, zr, zd, zy, zm, zc, zv, (yShift (yShift (yShift (yShift (yShift ze 1) 2) 3) 4) 5), (((((zo + 1) + 1) + 1) + 1) + 1))) H := hP1
                  have hD : va_D A (yW G (zk, zn, zi, zt, zs, zr, zd, zy, zm, zc, zv, (yShift (yShift (yShift (yShift (yShift ze 1) 2) 3) 4) 5), (((((zo + 1) + 1) + 1) + 1) + 1))) := hD1
                  refine lv_iload hx hb dY_turns_68 (lv_at hl 1 rfl) ?_
                  refine lv_if_eq (tgt := 75) hx hb dY_turns_70 (by decide) (fun _ => ?_) (fun cz => absurd cz (by decide))
                  refine lv_iinc (v := 6) (lv' := [(4, .int 6), (3, .int 4), (6, .int 0), (5, .int 0), (0, .ref G.1), (1, .int p0), (2, .int p1)]) hx hb dY_turns_75 hl (k := 3) rfl (by decide) (by decide) rfl (fun ls hl => ?_)
                  refine lv_goto (tgt := 5) hx hb dY_turns_78 (by decide) ?_
                  refine lv_iload hx hb dY_turns_5 (lv_at hl 0 rfl) ?_
                  refine lv_bipush (v := 6) hx hb dY_turns_7 (by decide) ?_
                  refine lv_icmp_ge (tgt := 81) hx hb dY_turns_9 (by decide) (fun _ => ?_) (fun cz => absurd cz (by decide))
                  refine lv_iload_n hx hb dY_turns_81 rfl (lv_at hl 1 rfl) ?_
                  exact W.iret (v := 4) hx hb hr (fun tE ht hW => ⟨⟨4, (zk, zn, zi, zt, zs, zr, zd, zy, zm, zc, zv, (yShift (yShift (yShift (yShift (yShift ze 1) 2) 3) 4) 5), (((((zo + 1) + 1) + 1) + 1) + 1)), rfl, by first | (simp only [zTurn, zTS, zN, zE, yk, yn, yi, yt, ys, yr, yd, yy, ym, yc, yv, ye, yo, c1, c2, c8, c9, c15, c16, eq_true c22, c56, c57, eq_self, ↓reduceIte, Bool.false_eq_true, Bool.not_false, Bool.not_true, Bool.and_true, Bool.and_false, Bool.true_and, Bool.false_and, decide_true, decide_false] <;> first | done | decide) | (simp only [zTurn, zTS, zN, zE, yk, yn, yi, yt, ys, yr, yd, yy, ym, yc, yv, ye, yo, c1, c2, c8, c9, c15, c16, c22, c56, c57, eq_self, ↓reduceIte, Bool.false_eq_true, Bool.not_false, Bool.not_true, Bool.and_true, Bool.and_false, Bool.true_and, Bool.false_and, decide_true, decide_false] <;> first | done | decide) | (simp [zTurn, zTS, zN, zE, yk, yn, yi, yt, ys, yr, yd, yy, ym, yc, yv, ye, yo, c1, c2, c8, c9, c15, c16, c22, c56, c57]; done) | (simp [zTurn, zTS, zN, zE, yk, yn, yi, yt, ys, yr, yd, yy, ym, yc, yv, ye, yo, c1, c2, c8, c9, c15, c16, eq_true c22, c56, c57]; done), by rw [ht]; exact hP, va_K.moved hW.alike hK, hD⟩, hS.F ht⟩) hS.2.2 dY_turns_82
                · refine lv_iconst (v := 1) hx hb dY_turns_42 (by decide) ?_
                  refine lv_goto (tgt := 47) hx hb dY_turns_43 (by decide) ?_
                  refine lv_istore (lv' := [(6, .int 1), (5, .int 0), (4, .int 5), (3, .int 3), (0, .ref G.1), (1, .int p0), (2, .int p1)]) hx hb dY_turns_47 hl (by decide) rfl (fun ls hl => ?_)
                  refine lv_iload hx hb dY_turns_49 (lv_at hl 1 rfl) ?_
                  refine lv_if_ne (tgt := 62) hx hb dY_turns_51 (by decide) (fun cz => absurd cz (by decide)) (fun _ => ?_)
                  refine lv_iload hx hb dY_turns_54 (lv_at hl 0 rfl) ?_
                  refine lv_if_ne (tgt := 62) hx hb dY_turns_56 (by decide) (fun _ => ?_) (fun cz => absurd cz (by decide))
                  refine lv_aload_n hx hb dY_turns_62 rfl (lv_at hl 4 rfl) ?_
                  refine lv_iload hx hb dY_turns_63 (lv_at hl 2 rfl) ?_
                  have hf63 := xFree hD hS hA
                  refine va_callv (va_runV (As := [.int 5]) (rest := []) ⟨hx, hb, hml, hown, hts⟩ (j_note l D G (zk, zn, zi, zt, zs, zr, zd, zy, zm, zc, zv, (yShift (yShift (yShift (yShift ze 1) 2) 3) 4), ((((zo + 1) + 1) + 1) + 1))  H.size 5) (cwV 1 hts (yV ylY_56 ym_note ys_note yc_note) rfl rfl rfl (by decide +kernel) ⟨Nat.le_of_ble_eq_true rfl, Nat.le_of_ble_eq_true rfl⟩) (yPre hK hP hD _) rfl rfl hl.1 rfl (lv_room (Nat.le_of_ble_eq_true rfl)) dY_turns_65 ⟨Nat.le_of_ble_eq_true rfl, Nat.le_of_ble_eq_true rfl⟩) hS (fun q _ h => hf63 q h) hf63 (fun v65 t67 H1 locs ht hvm hw66 hB hz1 hk1 hS => ?_)
                  obtain ⟨hP1, hK1, hD1⟩ := hB
                  rw [ht] at hP1
                  replace hD1 := hD1.weaken (fun _ _ _ h => hf63 _ h)
                  generalize H1 = H at hP1 hS ⊢
                  obtain rfl := (show v65 = (zk, zn, zi, zt, zs, zr, zd, zy, zm, zc, zv, (yShift (yShift (yShift (yShift (yShift ze 1) 2) 3) 4) 5), (((((zo + 1) + 1) + 1) + 1) + 1)) from hw66)
                  have hP : va_P D vwCl (yW G (zk, zn, zi, zt, zs, zr, zd, zy, zm, zc, zv, (yShift (yShift (yShift (yShift (yShift ze 1) 2) 3) 4) 5), (((((zo + 1) + 1) + 1) + 1) + 1))) H := hP1
                  have hD : va_D A (yW G (zk, zn, zi, zt, zs, zr, zd, zy, zm, zc, zv, (yShift (yShift (yShift (yShift (yShift ze 1) 2) 3) 4) 5), (((((zo + 1) + 1) + 1) + 1) + 1))) := hD1
                  refine lv_iload hx hb dY_turns_68 (lv_at hl 0 rfl) ?_
                  refine lv_if_eq (tgt := 75) hx hb dY_turns_70 (by decide) (fun cz => absurd cz (by decide)) (fun _ => ?_)
                  refine lv_iload_n hx hb dY_turns_73 rfl (lv_at hl 3 rfl) ?_
                  exact W.iret (v := 3) hx hb hr (fun tE ht hW => ⟨⟨3, (zk, zn, zi, zt, zs, zr, zd, zy, zm, zc, zv, (yShift (yShift (yShift (yShift (yShift ze 1) 2) 3) 4) 5), (((((zo + 1) + 1) + 1) + 1) + 1)), rfl, by first | (simp only [zTurn, zTS, zN, zE, yk, yn, yi, yt, ys, yr, yd, yy, ym, yc, yv, ye, yo, c1, c2, c8, c9, c15, c16, eq_true c22, c56, eq_true c57, eq_self, ↓reduceIte, Bool.false_eq_true, Bool.not_false, Bool.not_true, Bool.and_true, Bool.and_false, Bool.true_and, Bool.false_and, decide_true, decide_false] <;> first | done | decide) | (simp only [zTurn, zTS, zN, zE, yk, yn, yi, yt, ys, yr, yd, yy, ym, yc, yv, ye, yo, c1, c2, c8, c9, c15, c16, c22, c56, c57, eq_self, ↓reduceIte, Bool.false_eq_true, Bool.not_false, Bool.not_true, Bool.and_true, Bool.and_false, Bool.true_and, Bool.false_and, decide_true, decide_false] <;> first | done | decide) | (simp [zTurn, zTS, zN, zE, yk, yn, yi, yt, ys, yr, yd, yy, ym, yc, yv, ye, yo, c1, c2, c8, c9, c15, c16, c22, c56, c57]; done) | (simp [zTurn, zTS, zN, zE, yk, yn, yi, yt, ys, yr, yd, yy, ym, yc, yv, ye, yo, c1, c2, c8, c9, c15, c16, eq_true c22, c56, eq_true c57]; done), by rw [ht]; exact hP, va_K.moved hW.alike hK, hD⟩, hS.F ht⟩) hS.2.2 dY_turns_74
            · refine lv_iconst (v := 1) hx hb dY_turns_42 (by decide) ?_
              refine lv_goto (tgt := 47) hx hb dY_turns_43 (by decide) ?_
              refine lv_istore (lv' := [(6, .int 1), (5, .int 0), (4, .int 3), (3, .int 2), (0, .ref G.1), (1, .int p0), (2, .int p1)]) hx hb dY_turns_47 hl (by decide) rfl (fun ls hl => ?_)
              refine lv_iload hx hb dY_turns_49 (lv_at hl 1 rfl) ?_
              refine lv_if_ne (tgt := 62) hx hb dY_turns_51 (by decide) (fun cz => absurd cz (by decide)) (fun _ => ?_)
              refine lv_iload hx hb dY_turns_54 (lv_at hl 0 rfl) ?_
              refine lv_if_ne (tgt := 62) hx hb dY_turns_56 (by decide) (fun _ => ?_) (fun cz => absurd cz (by decide))
              refine lv_aload_n hx hb dY_turns_62 rfl (lv_at hl 4 rfl) ?_
              refine lv_iload hx hb dY_turns_63 (lv_at hl 2 rfl) ?_
              have hf68 := xFree hD hS hA
              refine va_callv (va_runV (As := [.int 3]) (rest := []) ⟨hx, hb, hml, hown, hts⟩ (j_note l D G (zk, zn, zi, zt, zs, zr, zd, zy, zm, zc, zv, (yShift (yShift ze 1) 2), ((zo + 1) + 1))  H.size 3) (cwV 1 hts (yV ylY_56 ym_note ys_note yc_note) rfl rfl rfl (by decide +kernel) ⟨Nat.le_of_ble_eq_true rfl, Nat.le_of_ble_eq_true rfl⟩) (yPre hK hP hD _) rfl rfl hl.1 rfl (lv_room (Nat.le_of_ble_eq_true rfl)) dY_turns_65 ⟨Nat.le_of_ble_eq_true rfl, Nat.le_of_ble_eq_true rfl⟩) hS (fun q _ h => hf68 q h) hf68 (fun v70 t72 H1 locs ht hvm hw71 hB hz1 hk1 hS => ?_)
              obtain ⟨hP1, hK1, hD1⟩ := hB
              rw [ht] at hP1
              replace hD1 := hD1.weaken (fun _ _ _ h => hf68 _ h)
              generalize H1 = H at hP1 hS ⊢
              obtain rfl := (show v70 = (zk, zn, zi, zt, zs, zr, zd, zy, zm, zc, zv, (yShift (yShift (yShift ze 1) 2) 3), (((zo + 1) + 1) + 1)) from hw71)
              have hP : va_P D vwCl (yW G (zk, zn, zi, zt, zs, zr, zd, zy, zm, zc, zv, (yShift (yShift (yShift ze 1) 2) 3), (((zo + 1) + 1) + 1))) H := hP1
              have hD : va_D A (yW G (zk, zn, zi, zt, zs, zr, zd, zy, zm, zc, zv, (yShift (yShift (yShift ze 1) 2) 3), (((zo + 1) + 1) + 1))) := hD1
              refine lv_iload hx hb dY_turns_68 (lv_at hl 0 rfl) ?_
              refine lv_if_eq (tgt := 75) hx hb dY_turns_70 (by decide) (fun cz => absurd cz (by decide)) (fun _ => ?_)
              refine lv_iload_n hx hb dY_turns_73 rfl (lv_at hl 3 rfl) ?_
              exact W.iret (v := 2) hx hb hr (fun tE ht hW => ⟨⟨2, (zk, zn, zi, zt, zs, zr, zd, zy, zm, zc, zv, (yShift (yShift (yShift ze 1) 2) 3), (((zo + 1) + 1) + 1)), rfl, by first | (simp only [zTurn, zTS, zN, zE, yk, yn, yi, yt, ys, yr, yd, yy, ym, yc, yv, ye, yo, c1, c2, c8, c9, c15, eq_true c16, eq_self, ↓reduceIte, Bool.false_eq_true, Bool.not_false, Bool.not_true, Bool.and_true, Bool.and_false, Bool.true_and, Bool.false_and, decide_true, decide_false] <;> first | done | decide) | (simp only [zTurn, zTS, zN, zE, yk, yn, yi, yt, ys, yr, yd, yy, ym, yc, yv, ye, yo, c1, c2, c8, c9, c15, c16, eq_self, ↓reduceIte, Bool.false_eq_true, Bool.not_false, Bool.not_true, Bool.and_true, Bool.and_false, Bool.true_and, Bool.false_and, decide_true, decide_false] <;> first | done | decide) | (simp [zTurn, zTS, zN, zE, yk, yn, yi, yt, ys, yr, yd, yy, ym, yc, yv, ye, yo, c1, c2, c8, c9, c15, c16]; done) | (simp [zTurn, zTS, zN, zE, yk, yn, yi, yt, ys, yr, yd, yy, ym, yc, yv, ye, yo, c1, c2, c8, c9, c15, eq_true c16]; done), by rw [ht]; exact hP, va_K.moved hW.alike hK, hD⟩, hS.F ht⟩) hS.2.2 dY_turns_74
          · refine lv_iconst (v := 1) hx hb dY_turns_21 (by decide) ?_
            refine lv_goto (tgt := 26) hx hb dY_turns_22 (by decide) ?_
            refine lv_istore (lv' := [(5, .int 1), (4, .int 3), (3, .int 2), (6, .int 0), (0, .ref G.1), (1, .int p0), (2, .int p1)]) hx hb dY_turns_26 hl (by decide) rfl (fun ls hl => ?_)
            refine lv_iload hx hb dY_turns_28 (lv_at hl 0 rfl) ?_
            refine lv_if_ne (tgt := 46) hx hb dY_turns_30 (by decide) (fun _ => ?_) (fun cz => absurd cz (by decide))
            refine lv_iconst (v := 0) hx hb dY_turns_46 (by decide) ?_
            refine lv_istore (lv' := [(6, .int 0), (5, .int 1), (4, .int 3), (3, .int 2), (0, .ref G.1), (1, .int p0), (2, .int p1)]) hx hb dY_turns_47 hl (by decide) rfl (fun ls hl => ?_)
            refine lv_iload hx hb dY_turns_49 (lv_at hl 1 rfl) ?_
            refine lv_if_ne (tgt := 62) hx hb dY_turns_51 (by decide) (fun _ => ?_) (fun cz => absurd cz (by decide))
            refine lv_aload_n hx hb dY_turns_62 rfl (lv_at hl 4 rfl) ?_
            refine lv_iload hx hb dY_turns_63 (lv_at hl 2 rfl) ?_
            have hf73 := xFree hD hS hA
            refine va_callv (va_runV (As := [.int 3]) (rest := []) ⟨hx, hb, hml, hown, hts⟩ (j_note l D G (zk, zn, zi, zt, zs, zr, zd, zy, zm, zc, zv, (yShift (yShift ze 1) 2), ((zo + 1) + 1))  H.size 3) (cwV 1 hts (yV ylY_56 ym_note ys_note yc_note) rfl rfl rfl (by decide +kernel) ⟨Nat.le_of_ble_eq_true rfl, Nat.le_of_ble_eq_true rfl⟩) (yPre hK hP hD _) rfl rfl hl.1 rfl (lv_room (Nat.le_of_ble_eq_true rfl)) dY_turns_65 ⟨Nat.le_of_ble_eq_true rfl, Nat.le_of_ble_eq_true rfl⟩) hS (fun q _ h => hf73 q h) hf73 (fun v75 t77 H1 locs ht hvm hw76 hB hz1 hk1 hS => ?_)
            obtain ⟨hP1, hK1, hD1⟩ := hB
            rw [ht] at hP1
            replace hD1 := hD1.weaken (fun _ _ _ h => hf73 _ h)
            generalize H1 = H at hP1 hS ⊢
            obtain rfl := (show v75 = (zk, zn, zi, zt, zs, zr, zd, zy, zm, zc, zv, (yShift (yShift (yShift ze 1) 2) 3), (((zo + 1) + 1) + 1)) from hw76)
            have hP : va_P D vwCl (yW G (zk, zn, zi, zt, zs, zr, zd, zy, zm, zc, zv, (yShift (yShift (yShift ze 1) 2) 3), (((zo + 1) + 1) + 1))) H := hP1
            have hD : va_D A (yW G (zk, zn, zi, zt, zs, zr, zd, zy, zm, zc, zv, (yShift (yShift (yShift ze 1) 2) 3), (((zo + 1) + 1) + 1))) := hD1
            refine lv_iload hx hb dY_turns_68 (lv_at hl 0 rfl) ?_
            refine lv_if_eq (tgt := 75) hx hb dY_turns_70 (by decide) (fun _ => ?_) (fun cz => absurd cz (by decide))
            refine lv_iinc (v := 4) (lv' := [(4, .int 4), (6, .int 0), (5, .int 1), (3, .int 2), (0, .ref G.1), (1, .int p0), (2, .int p1)]) hx hb dY_turns_75 hl (k := 2) rfl (by decide) (by decide) rfl (fun ls hl => ?_)
            refine lv_goto (tgt := 5) hx hb dY_turns_78 (by decide) ?_
            refine lv_iload hx hb dY_turns_5 (lv_at hl 0 rfl) ?_
            refine lv_bipush (v := 6) hx hb dY_turns_7 (by decide) ?_
            refine lv_icmp_ge (tgt := 81) hx hb dY_turns_9 (by decide) (fun cz => absurd cz (by decide)) (fun _ => ?_)
            refine lv_iload hx hb dY_turns_12 (lv_at hl 0 rfl) ?_
            refine lv_iload_n hx hb dY_turns_14 rfl (lv_at hl 5 rfl) ?_
            refine lv_bipush (v := 7) hx hb dY_turns_15 (by decide) ?_
            refine lv_iand hx hb dY_turns_17 ?_
            have c78 : ¬ 4 = (p0 &&& 7) := (by rw [← c15]; decide)
            refine lv_icmp_ne (tgt := 25) hx hb dY_turns_18 (by decide) (fun _ => ?_) (fun cz => absurd cz c78)
            refine lv_iconst (v := 0) hx hb dY_turns_25 (by decide) ?_
            refine lv_istore (lv' := [(5, .int 0), (4, .int 4), (6, .int 0), (3, .int 2), (0, .ref G.1), (1, .int p0), (2, .int p1)]) hx hb dY_turns_26 hl (by decide) rfl (fun ls hl => ?_)
            refine lv_iload hx hb dY_turns_28 (lv_at hl 0 rfl) ?_
            refine lv_if_ne (tgt := 46) hx hb dY_turns_30 (by decide) (fun cz => absurd cz (by decide)) (fun _ => ?_)
            refine lv_iload hx hb dY_turns_33 (lv_at hl 1 rfl) ?_
            refine lv_iload_n hx hb dY_turns_35 rfl (lv_at hl 6 rfl) ?_
            refine lv_bipush (v := 7) hx hb dY_turns_36 (by decide) ?_
            refine lv_iand hx hb dY_turns_38 ?_
            refine lv_icmp_ne (tgt := 46) hx hb dY_turns_39 (by decide) (fun c79 => ?_) (fun c79 => ?_)
            · refine lv_iconst (v := 0) hx hb dY_turns_46 (by decide) ?_
              refine lv_istore (lv' := [(6, .int 0), (5, .int 0), (4, .int 4), (3, .int 2), (0, .ref G.1), (1, .int p0), (2, .int p1)]) hx hb dY_turns_47 hl (by decide) rfl (fun ls hl => ?_)
              refine lv_iload hx hb dY_turns_49 (lv_at hl 1 rfl) ?_
              refine lv_if_ne (tgt := 62) hx hb dY_turns_51 (by decide) (fun cz => absurd cz (by decide)) (fun _ => ?_)
              refine lv_iload hx hb dY_turns_54 (lv_at hl 0 rfl) ?_
              refine lv_if_ne (tgt := 62) hx hb dY_turns_56 (by decide) (fun cz => absurd cz (by decide)) (fun _ => ?_)
              refine lv_iinc (v := 3) (lv' := [(3, .int 3), (6, .int 0), (5, .int 0), (4, .int 4), (0, .ref G.1), (1, .int p0), (2, .int p1)]) hx hb dY_turns_59 hl (k := 3) rfl (by decide) (by decide) rfl (fun ls hl => ?_)
              refine lv_aload_n hx hb dY_turns_62 rfl (lv_at hl 4 rfl) ?_
              refine lv_iload hx hb dY_turns_63 (lv_at hl 3 rfl) ?_
              have hf80 := xFree hD hS hA
              refine va_callv (va_runV (As := [.int 4]) (rest := []) ⟨hx, hb, hml, hown, hts⟩ (j_note l D G (zk, zn, zi, zt, zs, zr, zd, zy, zm, zc, zv, (yShift (yShift (yShift ze 1) 2) 3), (((zo + 1) + 1) + 1))  H.size 4) (cwV 1 hts (yV ylY_56 ym_note ys_note yc_note) rfl rfl rfl (by decide +kernel) ⟨Nat.le_of_ble_eq_true rfl, Nat.le_of_ble_eq_true rfl⟩) (yPre hK hP hD _) rfl rfl hl.1 rfl (lv_room (Nat.le_of_ble_eq_true rfl)) dY_turns_65 ⟨Nat.le_of_ble_eq_true rfl, Nat.le_of_ble_eq_true rfl⟩) hS (fun q _ h => hf80 q h) hf80 (fun v82 t84 H1 locs ht hvm hw83 hB hz1 hk1 hS => ?_)
              obtain ⟨hP1, hK1, hD1⟩ := hB
              rw [ht] at hP1
              replace hD1 := hD1.weaken (fun _ _ _ h => hf80 _ h)
              generalize H1 = H at hP1 hS ⊢
              obtain rfl := (show v82 = (zk, zn, zi, zt, zs, zr, zd, zy, zm, zc, zv, (yShift (yShift (yShift (yShift ze 1) 2) 3) 4), ((((zo + 1) + 1) + 1) + 1)) from hw83)
              have hP : va_P D vwCl (yW G (zk, zn, zi, zt, zs, zr, zd, zy, zm, zc, zv, (yShift (yShift (yShift (yShift ze 1) 2) 3) 4), ((((zo + 1) + 1) + 1) + 1))) H := hP1
              have hD : va_D A (yW G (zk, zn, zi, zt, zs, zr, zd, zy, zm, zc, zv, (yShift (yShift (yShift (yShift ze 1) 2) 3) 4), ((((zo + 1) + 1) + 1) + 1))) := hD1
              refine lv_iload hx hb dY_turns_68 (lv_at hl 1 rfl) ?_
              refine lv_if_eq (tgt := 75) hx hb dY_turns_70 (by decide) (fun _ => ?_) (fun cz => absurd cz (by decide))
              refine lv_iinc (v := 5) (lv' := [(4, .int 5), (3, .int 3), (6, .int 0), (5, .int 0), (0, .ref G.1), (1, .int p0), (2, .int p1)]) hx hb dY_turns_75 hl (k := 3) rfl (by decide) (by decide) rfl (fun ls hl => ?_)
              refine lv_goto (tgt := 5) hx hb dY_turns_78 (by decide) ?_
              refine lv_iload hx hb dY_turns_5 (lv_at hl 0 rfl) ?_
              refine lv_bipush (v := 6) hx hb dY_turns_7 (by decide) ?_
              refine lv_icmp_ge (tgt := 81) hx hb dY_turns_9 (by decide) (fun cz => absurd cz (by decide)) (fun _ => ?_)
              refine lv_iload hx hb dY_turns_12 (lv_at hl 0 rfl) ?_
              refine lv_iload_n hx hb dY_turns_14 rfl (lv_at hl 5 rfl) ?_
              refine lv_bipush (v := 7) hx hb dY_turns_15 (by decide) ?_
              refine lv_iand hx hb dY_turns_17 ?_
              have c85 : ¬ 5 = (p0 &&& 7) := (by rw [← c15]; decide)
              refine lv_icmp_ne (tgt := 25) hx hb dY_turns_18 (by decide) (fun _ => ?_) (fun cz => absurd cz c85)
              refine lv_iconst (v := 0) hx hb dY_turns_25 (by decide) ?_
              refine lv_istore (lv' := [(5, .int 0), (4, .int 5), (3, .int 3), (6, .int 0), (0, .ref G.1), (1, .int p0), (2, .int p1)]) hx hb dY_turns_26 hl (by decide) rfl (fun ls hl => ?_)
              refine lv_iload hx hb dY_turns_28 (lv_at hl 0 rfl) ?_
              refine lv_if_ne (tgt := 46) hx hb dY_turns_30 (by decide) (fun cz => absurd cz (by decide)) (fun _ => ?_)
              refine lv_iload hx hb dY_turns_33 (lv_at hl 1 rfl) ?_
              refine lv_iload_n hx hb dY_turns_35 rfl (lv_at hl 6 rfl) ?_
              refine lv_bipush (v := 7) hx hb dY_turns_36 (by decide) ?_
              refine lv_iand hx hb dY_turns_38 ?_
              refine lv_icmp_ne (tgt := 46) hx hb dY_turns_39 (by decide) (fun c86 => ?_) (fun c86 => ?_)
              · refine lv_iconst (v := 0) hx hb dY_turns_46 (by decide) ?_
                refine lv_istore (lv' := [(6, .int 0), (5, .int 0), (4, .int 5), (3, .int 3), (0, .ref G.1), (1, .int p0), (2, .int p1)]) hx hb dY_turns_47 hl (by decide) rfl (fun ls hl => ?_)
                refine lv_iload hx hb dY_turns_49 (lv_at hl 1 rfl) ?_
                refine lv_if_ne (tgt := 62) hx hb dY_turns_51 (by decide) (fun cz => absurd cz (by decide)) (fun _ => ?_)
                refine lv_iload hx hb dY_turns_54 (lv_at hl 0 rfl) ?_
                refine lv_if_ne (tgt := 62) hx hb dY_turns_56 (by decide) (fun cz => absurd cz (by decide)) (fun _ => ?_)
                refine lv_iinc (v := 4) (lv' := [(3, .int 4), (6, .int 0), (5, .int 0), (4, .int 5), (0, .ref G.1), (1, .int p0), (2, .int p1)]) hx hb dY_turns_59 hl (k := 3) rfl (by decide) (by decide) rfl (fun ls hl => ?_)
                refine lv_aload_n hx hb dY_turns_62 rfl (lv_at hl 4 rfl) ?_
                refine lv_iload hx hb dY_turns_63 (lv_at hl 3 rfl) ?_
                have hf87 := xFree hD hS hA
                refine va_callv (va_runV (As := [.int 5]) (rest := []) ⟨hx, hb, hml, hown, hts⟩ (j_note l D G (zk, zn, zi, zt, zs, zr, zd, zy, zm, zc, zv, (yShift (yShift (yShift (yShift ze 1) 2) 3) 4), ((((zo + 1) + 1) + 1) + 1))  H.size 5) (cwV 1 hts (yV ylY_56 ym_note ys_note yc_note) rfl rfl rfl (by decide +kernel) ⟨Nat.le_of_ble_eq_true rfl, Nat.le_of_ble_eq_true rfl⟩) (yPre hK hP hD _) rfl rfl hl.1 rfl (lv_room (Nat.le_of_ble_eq_true rfl)) dY_turns_65 ⟨Nat.le_of_ble_eq_true rfl, Nat.le_of_ble_eq_true rfl⟩) hS (fun q _ h => hf87 q h) hf87 (fun v89 t91 H1 locs ht hvm hw90 hB hz1 hk1 hS => ?_)
                obtain ⟨hP1, hK1, hD1⟩ := hB
                rw [ht] at hP1
                replace hD1 := hD1.weaken (fun _ _ _ h => hf87 _ h)
                generalize H1 = H at hP1 hS ⊢
                obtain rfl := (show v89 = (zk, zn, zi, zt, zs, zr, zd, zy, zm, zc, zv, (yShift (yShift (yShift (yShift (yShift ze 1) 2) 3) 4) 5), (((((zo + 1) + 1) + 1) + 1) + 1)) from hw90)
                have hP : va_P D vwCl (yW G (zk, zn, zi, zt, zs, zr, zd, zy, zm, zc, zv, (yShift (yShift (yShift (yShift (yShift ze 1) 2) 3) 4) 5), (((((zo + 1) + 1) + 1) + 1) + 1))) H := hP1
                have hD : va_D A (yW G (zk, zn, zi, zt, zs, zr, zd, zy, zm, zc, zv, (yShift (yShift (yShift (yShift (yShift ze 1) 2) 3) 4) 5), (((((zo + 1) + 1) + 1) + 1) + 1))) := hD1
                refine lv_iload hx hb dY_turns_68 (lv_at hl 1 rfl) ?_
                refine lv_if_eq (tgt := 75) hx hb dY_turns_70 (by decide) (fun _ => ?_) (fun cz => absurd cz (by decide))
                refine lv_iinc (v := 6) (lv' := [(4, .int 6), (3, .int 4), (6, .int 0), (5, .int 0), (0, .ref G.1), (1, .int p0), (2, .int p1)]) hx hb dY_turns_75 hl (k := 3) rfl (by decide) (by decide) rfl (fun ls hl => ?_)
                refine lv_goto (tgt := 5) hx hb dY_turns_78 (by decide) ?_
                refine lv_iload hx hb dY_turns_5 (lv_at hl 0 rfl) ?_
                refine lv_bipush (v := 6) hx hb dY_turns_7 (by decide) ?_
                refine lv_icmp_ge (tgt := 81) hx hb dY_turns_9 (by decide) (fun _ => ?_) (fun cz => absurd cz (by decide))
                refine lv_iload_n hx hb dY_turns_81 rfl (lv_at hl 1 rfl) ?_
                exact W.iret (v := 4) hx hb hr (fun tE ht hW => ⟨⟨4, (zk, zn, zi, zt, zs, zr, zd, zy, zm, zc, zv, (yShift (yShift (yShift (yShift (yShift ze 1) 2) 3) 4) 5), (((((zo + 1) + 1) + 1) + 1) + 1)), rfl, by first | (simp only [zTurn, zTS, zN, zE, yk, yn, yi, yt, ys, yr, yd, yy, ym, yc, yv, ye, yo, c1, c2, c8, c9, eq_true c15, c78, c79, c85, c86, eq_self, ↓reduceIte, Bool.false_eq_true, Bool.not_false, Bool.not_true, Bool.and_true, Bool.and_false, Bool.true_and, Bool.false_and, decide_true, decide_false] <;> first | done | decide) | (simp only [zTurn, zTS, zN, zE, yk, yn, yi, yt, ys, yr, yd, yy, ym, yc, yv, ye, yo, c1, c2, c8, c9, c15, c78, c79, c85, c86, eq_self, ↓reduceIte, Bool.false_eq_true, Bool.not_false, Bool.not_true, Bool.and_true, Bool.and_false, Bool.true_and, Bool.false_and, decide_true, decide_false] <;> first | done | decide) | (simp [zTurn, zTS, zN, zE, yk, yn, yi, yt, ys, yr, yd, yy, ym, yc, yv, ye, yo, c1, c2, c8, c9, c15, c78, c79, c85, c86]; done) | (simp [zTurn, zTS, zN, zE, yk, yn, yi, yt, ys, yr, yd, yy, ym, yc, yv, ye, yo, c1, c2, c8, c9, eq_true c15, c78, c79, c85, c86]; done), by rw [ht]; exact hP, va_K.moved hW.alike hK, hD⟩, hS.F ht⟩) hS.2.2 dY_turns_82
              · refine lv_iconst (v := 1) hx hb dY_turns_42 (by decide) ?_
                refine lv_goto (tgt := 47) hx hb dY_turns_43 (by decide) ?_
                refine lv_istore (lv' := [(6, .int 1), (5, .int 0), (4, .int 5), (3, .int 3), (0, .ref G.1), (1, .int p0), (2, .int p1)]) hx hb dY_turns_47 hl (by decide) rfl (fun ls hl => ?_)
                refine lv_iload hx hb dY_turns_49 (lv_at hl 1 rfl) ?_
                refine lv_if_ne (tgt := 62) hx hb dY_turns_51 (by decide) (fun cz => absurd cz (by decide)) (fun _ => ?_)
                refine lv_iload hx hb dY_turns_54 (lv_at hl 0 rfl) ?_
                refine lv_if_ne (tgt := 62) hx hb dY_turns_56 (by decide) (fun _ => ?_) (fun cz => absurd cz (by decide))
                refine lv_aload_n hx hb dY_turns_62 rfl (lv_at hl 4 rfl) ?_
                refine lv_iload hx hb dY_turns_63 (lv_at hl 2 rfl) ?_
                have hf92 := xFree hD hS hA
                refine va_callv (va_runV (As := [.int 5]) (rest := []) ⟨hx, hb, hml, hown, hts⟩ (j_note l D G (zk, zn, zi, zt, zs, zr, zd, zy, zm, zc, zv, (yShift (yShift (yShift (yShift ze 1) 2) 3) 4), ((((zo + 1) + 1) + 1) + 1))  H.size 5) (cwV 1 hts (yV ylY_56 ym_note ys_note yc_note) rfl rfl rfl (by decide +kernel) ⟨Nat.le_of_ble_eq_true rfl, Nat.le_of_ble_eq_true rfl⟩) (yPre hK hP hD _) rfl rfl hl.1 rfl (lv_room (Nat.le_of_ble_eq_true rfl)) dY_turns_65 ⟨Nat.le_of_ble_eq_true rfl, Nat.le_of_ble_eq_true rfl⟩) hS (fun q _ h => hf92 q h) hf92 (fun v94 t96 H1 locs ht hvm hw95 hB hz1 hk1 hS => ?_)
                obtain ⟨hP1, hK1, hD1⟩ := hB
                rw [ht] at hP1
                replace hD1 := hD1.weaken (fun _ _ _ h => hf92 _ h)
                generalize H1 = H at hP1 hS ⊢
                obtain rfl := (show v94 = (zk, zn, zi, zt, zs, zr, zd, zy, zm, zc, zv, (yShift (yShift (yShift (yShift (yShift ze 1) 2) 3) 4) 5), (((((zo + 1) + 1) + 1) + 1) + 1)) from hw95)
                have hP : va_P D vwCl (yW G (zk, zn, zi, zt, zs, zr, zd, zy, zm, zc, zv, (yShift (yShift (yShift (yShift (yShift ze 1) 2) 3) 4) 5), (((((zo + 1) + 1) + 1) + 1) + 1))) H := hP1
                have hD : va_D A (yW G (zk, zn, zi, zt, zs, zr, zd, zy, zm, zc, zv, (yShift (yShift (yShift (yShift (yShift ze 1) 2) 3) 4) 5), (((((zo + 1) + 1) + 1) + 1) + 1))) := hD1
                refine lv_iload hx hb dY_turns_68 (lv_at hl 0 rfl) ?_
                refine lv_if_eq (tgt := 75) hx hb dY_turns_70 (by decide) (fun cz => absurd cz (by decide)) (fun _ => ?_)
                refine lv_iload_n hx hb dY_turns_73 rfl (lv_at hl 3 rfl) ?_
                exact W.iret (v := 3) hx hb hr (fun tE ht hW => ⟨⟨3, (zk, zn, zi, zt, zs, zr, zd, zy, zm, zc, zv, (yShift (yShift (yShift (yShift (yShift ze 1) 2) 3) 4) 5), (((((zo + 1) + 1) + 1) + 1) + 1)), rfl, by first | (simp only [zTurn, zTS, zN, zE, yk, yn, yi, yt, ys, yr, yd, yy, ym, yc, yv, ye, yo, c1, c2, c8, c9, eq_true c15, c78, c79, c85, eq_true c86, eq_self, ↓reduceIte, Bool.false_eq_true, Bool.not_false, Bool.not_true, Bool.and_true, Bool.and_false, Bool.true_and, Bool.false_and, decide_true, decide_false] <;> first | done | decide) | (simp only [zTurn, zTS, zN, zE, yk, yn, yi, yt, ys, yr, yd, yy, ym, yc, yv, ye, yo, c1, c2, c8, c9, c15, c78, c79, c85, c86, eq_self, ↓reduceIte, Bool.false_eq_true, Bool.not_false, Bool.not_true, Bool.and_true, Bool.and_false, Bool.true_and, Bool.false_and, decide_true, decide_false] <;> first | done | decide) | (simp [zTurn, zTS, zN, zE, yk, yn, yi, yt, ys, yr, yd, yy, ym, yc, yv, ye, yo, c1, c2, c8, c9, c15, c78, c79, c85, c86]; done) | (simp [zTurn, zTS, zN, zE, yk, yn, yi, yt, ys, yr, yd, yy, ym, yc, yv, ye, yo, c1, c2, c8, c9, eq_true c15, c78, c79, c85, eq_true c86]; done), by rw [ht]; exact hP, va_K.moved hW.alike hK, hD⟩, hS.F ht⟩) hS.2.2 dY_turns_74
            · refine lv_iconst (v := 1) hx hb dY_turns_42 (by decide) ?_
              refine lv_goto (tgt := 47) hx hb dY_turns_43 (by decide) ?_
              refine lv_istore (lv' := [(6, .int 1), (5, .int 0), (4, .int 4), (3, .int 2), (0, .ref G.1), (1, .int p0), (2, .int p1)]) hx hb dY_turns_47 hl (by decide) rfl (fun ls hl => ?_)
              refine lv_iload hx hb dY_turns_49 (lv_at hl 1 rfl) ?_
              refine lv_if_ne (tgt := 62) hx hb dY_turns_51 (by decide) (fun cz => absurd cz (by decide)) (fun _ => ?_)
              refine lv_iload hx hb dY_turns_54 (lv_at hl 0 rfl) ?_
              refine lv_if_ne (tgt := 62) hx hb dY_turns_56 (by decide) (fun _ => ?_) (fun cz => absurd cz (by decide))
              refine lv_aload_n hx hb dY_turns_62 rfl (lv_at hl 4 rfl) ?_
              refine lv_iload hx hb dY_turns_63 (lv_at hl 2 rfl) ?_
              have hf97 := xFree hD hS hA
              refine va_callv (va_runV (As := [.int 4]) (rest := []) ⟨hx, hb, hml, hown, hts⟩ (j_note l D G (zk, zn, zi, zt, zs, zr, zd, zy, zm, zc, zv, (yShift (yShift (yShift ze 1) 2) 3), (((zo + 1) + 1) + 1))  H.size 4) (cwV 1 hts (yV ylY_56 ym_note ys_note yc_note) rfl rfl rfl (by decide +kernel) ⟨Nat.le_of_ble_eq_true rfl, Nat.le_of_ble_eq_true rfl⟩) (yPre hK hP hD _) rfl rfl hl.1 rfl (lv_room (Nat.le_of_ble_eq_true rfl)) dY_turns_65 ⟨Nat.le_of_ble_eq_true rfl, Nat.le_of_ble_eq_true rfl⟩) hS (fun q _ h => hf97 q h) hf97 (fun v99 t101 H1 locs ht hvm hw100 hB hz1 hk1 hS => ?_)
              obtain ⟨hP1, hK1, hD1⟩ := hB
              rw [ht] at hP1
              replace hD1 := hD1.weaken (fun _ _ _ h => hf97 _ h)
              generalize H1 = H at hP1 hS ⊢
              obtain rfl := (show v99 = (zk, zn, zi, zt, zs, zr, zd, zy, zm, zc, zv, (yShift (yShift (yShift (yShift ze 1) 2) 3) 4), ((((zo + 1) + 1) + 1) + 1)) from hw100)
              have hP : va_P D vwCl (yW G (zk, zn, zi, zt, zs, zr, zd, zy, zm, zc, zv, (yShift (yShift (yShift (yShift ze 1) 2) 3) 4), ((((zo + 1) + 1) + 1) + 1))) H := hP1
              have hD : va_D A (yW G (zk, zn, zi, zt, zs, zr, zd, zy, zm, zc, zv, (yShift (yShift (yShift (yShift ze 1) 2) 3) 4), ((((zo + 1) + 1) + 1) + 1))) := hD1
              refine lv_iload hx hb dY_turns_68 (lv_at hl 0 rfl) ?_
              refine lv_if_eq (tgt := 75) hx hb dY_turns_70 (by decide) (fun cz => absurd cz (by decide)) (fun _ => ?_)
              refine lv_iload_n hx hb dY_turns_73 rfl (lv_at hl 3 rfl) ?_
              exact W.iret (v := 2) hx hb hr (fun tE ht hW => ⟨⟨2, (zk, zn, zi, zt, zs, zr, zd, zy, zm, zc, zv, (yShift (yShift (yShift (yShift ze 1) 2) 3) 4), ((((zo + 1) + 1) + 1) + 1)), rfl, by first | (simp only [zTurn, zTS, zN, zE, yk, yn, yi, yt, ys, yr, yd, yy, ym, yc, yv, ye, yo, c1, c2, c8, c9, eq_true c15, c78, eq_true c79, eq_self, ↓reduceIte, Bool.false_eq_true, Bool.not_false, Bool.not_true, Bool.and_true, Bool.and_false, Bool.true_and, Bool.false_and, decide_true, decide_false] <;> first | done | decide) | (simp only [zTurn, zTS, zN, zE, yk, yn, yi, yt, ys, yr, yd, yy, ym, yc, yv, ye, yo, c1, c2, c8, c9, c15, c78, c79, eq_self, ↓reduceIte, Bool.false_eq_true, Bool.not_false, Bool.not_true, Bool.and_true, Bool.and_false, Bool.true_and, Bool.false_and, decide_true, decide_false] <;> first | done | decide) | (simp [zTurn, zTS, zN, zE, yk, yn, yi, yt, ys, yr, yd, yy, ym, yc, yv, ye, yo, c1, c2, c8, c9, c15, c78, c79]; done) | (simp [zTurn, zTS, zN, zE, yk, yn, yi, yt, ys, yr, yd, yy, ym, yc, yv, ye, yo, c1, c2, c8, c9, eq_true c15, c78, eq_true c79]; done), by rw [ht]; exact hP, va_K.moved hW.alike hK, hD⟩, hS.F ht⟩) hS.2.2 dY_turns_74
        · refine lv_iconst (v := 1) hx hb dY_turns_42 (by decide) ?_
          refine lv_goto (tgt := 47) hx hb dY_turns_43 (by decide) ?_
          refine lv_istore (lv' := [(6, .int 1), (5, .int 0), (4, .int 2), (3, .int 1), (0, .ref G.1), (1, .int p0), (2, .int p1)]) hx hb dY_turns_47 hl (by decide) rfl (fun ls hl => ?_)
          refine lv_iload hx hb dY_turns_49 (lv_at hl 1 rfl) ?_
          refine lv_if_ne (tgt := 62) hx hb dY_turns_51 (by decide) (fun cz => absurd cz (by decide)) (fun _ => ?_)
          refine lv_iload hx hb dY_turns_54 (lv_at hl 0 rfl) ?_
          refine lv_if_ne (tgt := 62) hx hb dY_turns_56 (by decide) (fun _ => ?_) (fun cz => absurd cz (by decide))
          refine lv_aload_n hx hb dY_turns_62 rfl (lv_at hl 4 rfl) ?_
          refine lv_iload hx hb dY_turns_63 (lv_at hl 2 rfl) ?_
          have hf102 := xFree hD hS hA
          refine va_callv (va_runV (As := [.int 2]) (rest := []) ⟨hx, hb, hml, hown, hts⟩ (j_note l D G (zk, zn, zi, zt, zs, zr, zd, zy, zm, zc, zv, (yShift ze 1), (zo + 1))  H.size 2) (cwV 1 hts (yV ylY_56 ym_note ys_note yc_note) rfl rfl rfl (by decide +kernel) ⟨Nat.le_of_ble_eq_true rfl, Nat.le_of_ble_eq_true rfl⟩) (yPre hK hP hD _) rfl rfl hl.1 rfl (lv_room (Nat.le_of_ble_eq_true rfl)) dY_turns_65 ⟨Nat.le_of_ble_eq_true rfl, Nat.le_of_ble_eq_true rfl⟩) hS (fun q _ h => hf102 q h) hf102 (fun v104 t106 H1 locs ht hvm hw105 hB hz1 hk1 hS => ?_)
          obtain ⟨hP1, hK1, hD1⟩ := hB
          rw [ht] at hP1
          replace hD1 := hD1.weaken (fun _ _ _ h => hf102 _ h)
          generalize H1 = H at hP1 hS ⊢
          obtain rfl := (show v104 = (zk, zn, zi, zt, zs, zr, zd, zy, zm, zc, zv, (yShift (yShift ze 1) 2), ((zo + 1) + 1)) from hw105)
          have hP : va_P D vwCl (yW G (zk, zn, zi, zt, zs, zr, zd, zy, zm, zc, zv, (yShift (yShift ze 1) 2), ((zo + 1) + 1))) H := hP1
          have hD : va_D A (yW G (zk, zn, zi, zt, zs, zr, zd, zy, zm, zc, zv, (yShift (yShift ze 1) 2), ((zo + 1) + 1))) := hD1
          refine lv_iload hx hb dY_turns_68 (lv_at hl 0 rfl) ?_
          refine lv_if_eq (tgt := 75) hx hb dY_turns_70 (by decide) (fun cz => absurd cz (by decide)) (fun _ => ?_)
          refine lv_iload_n hx hb dY_turns_73 rfl (lv_at hl 3 rfl) ?_
          exact W.iret (v := 1) hx hb hr (fun tE ht hW => ⟨⟨1, (zk, zn, zi, zt, zs, zr, zd, zy, zm, zc, zv, (yShift (yShift ze 1) 2), ((zo + 1) + 1)), rfl, by first | (simp only [zTurn, zTS, zN, zE, yk, yn, yi, yt, ys, yr, yd, yy, ym, yc, yv, ye, yo, c1, c2, c8, eq_true c9, eq_self, ↓reduceIte, Bool.false_eq_true, Bool.not_false, Bool.not_true, Bool.and_true, Bool.and_false, Bool.true_and, Bool.false_and, decide_true, decide_false] <;> first | done | decide) | (simp only [zTurn, zTS, zN, zE, yk, yn, yi, yt, ys, yr, yd, yy, ym, yc, yv, ye, yo, c1, c2, c8, c9, eq_self, ↓reduceIte, Bool.false_eq_true, Bool.not_false, Bool.not_true, Bool.and_true, Bool.and_false, Bool.true_and, Bool.false_and, decide_true, decide_false] <;> first | done | decide) | (simp [zTurn, zTS, zN, zE, yk, yn, yi, yt, ys, yr, yd, yy, ym, yc, yv, ye, yo, c1, c2, c8, c9]; done) | (simp [zTurn, zTS, zN, zE, yk, yn, yi, yt, ys, yr, yd, yy, ym, yc, yv, ye, yo, c1, c2, c8, eq_true c9]; done), by rw [ht]; exact hP, va_K.moved hW.alike hK, hD⟩, hS.F ht⟩) hS.2.2 dY_turns_74
      · refine lv_iconst (v := 1) hx hb dY_turns_21 (by decide) ?_
        refine lv_goto (tgt := 26) hx hb dY_turns_22 (by decide) ?_
        refine lv_istore (lv' := [(5, .int 1), (4, .int 2), (3, .int 1), (6, .int 0), (0, .ref G.1), (1, .int p0), (2, .int p1)]) hx hb dY_turns_26 hl (by decide) rfl (fun ls hl => ?_)
        refine lv_iload hx hb dY_turns_28 (lv_at hl 0 rfl) ?_
        refine lv_if_ne (tgt := 46) hx hb dY_turns_30 (by decide) (fun _ => ?_) (fun cz => absurd cz (by decide))
        refine lv_iconst (v := 0) hx hb dY_turns_46 (by decide) ?_
        refine lv_istore (lv' := [(6, .int 0), (5, .int 1), (4, .int 2), (3, .int 1), (0, .ref G.1), (1, .int p0), (2, .int p1)]) hx hb dY_turns_47 hl (by decide) rfl (fun ls hl => ?_)
        refine lv_iload hx hb dY_turns_49 (lv_at hl 1 rfl) ?_
        refine lv_if_ne (tgt := 62) hx hb dY_turns_51 (by decide) (fun _ => ?_) (fun cz => absurd cz (by decide))
        refine lv_aload_n hx hb dY_turns_62 rfl (lv_at hl 4 rfl) ?_
        refine lv_iload hx hb dY_turns_63 (lv_at hl 2 rfl) ?_
        have hf107 := xFree hD hS hA
        refine va_callv (va_runV (As := [.int 2]) (rest := []) ⟨hx, hb, hml, hown, hts⟩ (j_note l D G (zk, zn, zi, zt, zs, zr, zd, zy, zm, zc, zv, (yShift ze 1), (zo + 1))  H.size 2) (cwV 1 hts (yV ylY_56 ym_note ys_note yc_note) rfl rfl rfl (by decide +kernel) ⟨Nat.le_of_ble_eq_true rfl, Nat.le_of_ble_eq_true rfl⟩) (yPre hK hP hD _) rfl rfl hl.1 rfl (lv_room (Nat.le_of_ble_eq_true rfl)) dY_turns_65 ⟨Nat.le_of_ble_eq_true rfl, Nat.le_of_ble_eq_true rfl⟩) hS (fun q _ h => hf107 q h) hf107 (fun v109 t111 H1 locs ht hvm hw110 hB hz1 hk1 hS => ?_)
        obtain ⟨hP1, hK1, hD1⟩ := hB
        rw [ht] at hP1
        replace hD1 := hD1.weaken (fun _ _ _ h => hf107 _ h)
        generalize H1 = H at hP1 hS ⊢
        obtain rfl := (show v109 = (zk, zn, zi, zt, zs, zr, zd, zy, zm, zc, zv, (yShift (yShift ze 1) 2), ((zo + 1) + 1)) from hw110)
        have hP : va_P D vwCl (yW G (zk, zn, zi, zt, zs, zr, zd, zy, zm, zc, zv, (yShift (yShift ze 1) 2), ((zo + 1) + 1))) H := hP1
        have hD : va_D A (yW G (zk, zn, zi, zt, zs, zr, zd, zy, zm, zc, zv, (yShift (yShift ze 1) 2), ((zo + 1) + 1))) := hD1
        refine lv_iload hx hb dY_turns_68 (lv_at hl 0 rfl) ?_
        refine lv_if_eq (tgt := 75) hx hb dY_turns_70 (by decide) (fun _ => ?_) (fun cz => absurd cz (by decide))
        refine lv_iinc (v := 3) (lv' := [(4, .int 3), (6, .int 0), (5, .int 1), (3, .int 1), (0, .ref G.1), (1, .int p0), (2, .int p1)]) hx hb dY_turns_75 hl (k := 2) rfl (by decide) (by decide) rfl (fun ls hl => ?_)
        refine lv_goto (tgt := 5) hx hb dY_turns_78 (by decide) ?_
        refine lv_iload hx hb dY_turns_5 (lv_at hl 0 rfl) ?_
        refine lv_bipush (v := 6) hx hb dY_turns_7 (by decide) ?_
        refine lv_icmp_ge (tgt := 81) hx hb dY_turns_9 (by decide) (fun cz => absurd cz (by decide)) (fun _ => ?_)
        refine lv_iload hx hb dY_turns_12 (lv_at hl 0 rfl) ?_
        refine lv_iload_n hx hb dY_turns_14 rfl (lv_at hl 5 rfl) ?_
        refine lv_bipush (v := 7) hx hb dY_turns_15 (by decide) ?_
        refine lv_iand hx hb dY_turns_17 ?_
        have c112 : ¬ 3 = (p0 &&& 7) := (by rw [← c8]; decide)
        refine lv_icmp_ne (tgt := 25) hx hb dY_turns_18 (by decide) (fun _ => ?_) (fun cz => absurd cz c112)
        refine lv_iconst (v := 0) hx hb dY_turns_25 (by decide) ?_
        refine lv_istore (lv' := [(5, .int 0), (4, .int 3), (6, .int 0), (3, .int 1), (0, .ref G.1), (1, .int p0), (2, .int p1)]) hx hb dY_turns_26 hl (by decide) rfl (fun ls hl => ?_)
        refine lv_iload hx hb dY_turns_28 (lv_at hl 0 rfl) ?_
        refine lv_if_ne (tgt := 46) hx hb dY_turns_30 (by decide) (fun cz => absurd cz (by decide)) (fun _ => ?_)
        refine lv_iload hx hb dY_turns_33 (lv_at hl 1 rfl) ?_
        refine lv_iload_n hx hb dY_turns_35 rfl (lv_at hl 6 rfl) ?_
        refine lv_bipush (v := 7) hx hb dY_turns_36 (by decide) ?_
        refine lv_iand hx hb dY_turns_38 ?_
        refine lv_icmp_ne (tgt := 46) hx hb dY_turns_39 (by decide) (fun c113 => ?_) (fun c113 => ?_)
        · refine lv_iconst (v := 0) hx hb dY_turns_46 (by decide) ?_
          refine lv_istore (lv' := [(6, .int 0), (5, .int 0), (4, .int 3), (3, .int 1), (0, .ref G.1), (1, .int p0), (2, .int p1)]) hx hb dY_turns_47 hl (by decide) rfl (fun ls hl => ?_)
          refine lv_iload hx hb dY_turns_49 (lv_at hl 1 rfl) ?_
          refine lv_if_ne (tgt := 62) hx hb dY_turns_51 (by decide) (fun cz => absurd cz (by decide)) (fun _ => ?_)
          refine lv_iload hx hb dY_turns_54 (lv_at hl 0 rfl) ?_
          refine lv_if_ne (tgt := 62) hx hb dY_turns_56 (by decide) (fun cz => absurd cz (by decide)) (fun _ => ?_)
          refine lv_iinc (v := 2) (lv' := [(3, .int 2), (6, .int 0), (5, .int 0), (4, .int 3), (0, .ref G.1), (1, .int p0), (2, .int p1)]) hx hb dY_turns_59 hl (k := 3) rfl (by decide) (by decide) rfl (fun ls hl => ?_)
          refine lv_aload_n hx hb dY_turns_62 rfl (lv_at hl 4 rfl) ?_
          refine lv_iload hx hb dY_turns_63 (lv_at hl 3 rfl) ?_
          have hf114 := xFree hD hS hA
          refine va_callv (va_runV (As := [.int 3]) (rest := []) ⟨hx, hb, hml, hown, hts⟩ (j_note l D G (zk, zn, zi, zt, zs, zr, zd, zy, zm, zc, zv, (yShift (yShift ze 1) 2), ((zo + 1) + 1))  H.size 3) (cwV 1 hts (yV ylY_56 ym_note ys_note yc_note) rfl rfl rfl (by decide +kernel) ⟨Nat.le_of_ble_eq_true rfl, Nat.le_of_ble_eq_true rfl⟩) (yPre hK hP hD _) rfl rfl hl.1 rfl (lv_room (Nat.le_of_ble_eq_true rfl)) dY_turns_65 ⟨Nat.le_of_ble_eq_true rfl, Nat.le_of_ble_eq_true rfl⟩) hS (fun q _ h => hf114 q h) hf114 (fun v116 t118 H1 locs ht hvm hw117 hB hz1 hk1 hS => ?_)
          obtain ⟨hP1, hK1, hD1⟩ := hB
          rw [ht] at hP1
          replace hD1 := hD1.weaken (fun _ _ _ h => hf114 _ h)
          generalize H1 = H at hP1 hS ⊢
          obtain rfl := (show v116 = (zk, zn, zi, zt, zs, zr, zd, zy, zm, zc, zv, (yShift (yShift (yShift ze 1) 2) 3), (((zo + 1) + 1) + 1)) from hw117)
          have hP : va_P D vwCl (yW G (zk, zn, zi, zt, zs, zr, zd, zy, zm, zc, zv, (yShift (yShift (yShift ze 1) 2) 3), (((zo + 1) + 1) + 1))) H := hP1
          have hD : va_D A (yW G (zk, zn, zi, zt, zs, zr, zd, zy, zm, zc, zv, (yShift (yShift (yShift ze 1) 2) 3), (((zo + 1) + 1) + 1))) := hD1
          refine lv_iload hx hb dY_turns_68 (lv_at hl 1 rfl) ?_
          refine lv_if_eq (tgt := 75) hx hb dY_turns_70 (by decide) (fun _ => ?_) (fun cz => absurd cz (by decide))
          refine lv_iinc (v := 4) (lv' := [(4, .int 4), (3, .int 2), (6, .int 0), (5, .int 0), (0, .ref G.1), (1, .int p0), (2, .int p1)]) hx hb dY_turns_75 hl (k := 3) rfl (by decide) (by decide) rfl (fun ls hl => ?_)
          refine lv_goto (tgt := 5) hx hb dY_turns_78 (by decide) ?_
          refine lv_iload hx hb dY_turns_5 (lv_at hl 0 rfl) ?_
          refine lv_bipush (v := 6) hx hb dY_turns_7 (by decide) ?_
          refine lv_icmp_ge (tgt := 81) hx hb dY_turns_9 (by decide) (fun cz => absurd cz (by decide)) (fun _ => ?_)
          refine lv_iload hx hb dY_turns_12 (lv_at hl 0 rfl) ?_
          refine lv_iload_n hx hb dY_turns_14 rfl (lv_at hl 5 rfl) ?_
          refine lv_bipush (v := 7) hx hb dY_turns_15 (by decide) ?_
          refine lv_iand hx hb dY_turns_17 ?_
          have c119 : ¬ 4 = (p0 &&& 7) := (by rw [← c8]; decide)
          refine lv_icmp_ne (tgt := 25) hx hb dY_turns_18 (by decide) (fun _ => ?_) (fun cz => absurd cz c119)
          refine lv_iconst (v := 0) hx hb dY_turns_25 (by decide) ?_
          refine lv_istore (lv' := [(5, .int 0), (4, .int 4), (3, .int 2), (6, .int 0), (0, .ref G.1), (1, .int p0), (2, .int p1)]) hx hb dY_turns_26 hl (by decide) rfl (fun ls hl => ?_)
          refine lv_iload hx hb dY_turns_28 (lv_at hl 0 rfl) ?_
          refine lv_if_ne (tgt := 46) hx hb dY_turns_30 (by decide) (fun cz => absurd cz (by decide)) (fun _ => ?_)
          refine lv_iload hx hb dY_turns_33 (lv_at hl 1 rfl) ?_
          refine lv_iload_n hx hb dY_turns_35 rfl (lv_at hl 6 rfl) ?_
          refine lv_bipush (v := 7) hx hb dY_turns_36 (by decide) ?_
          refine lv_iand hx hb dY_turns_38 ?_
          refine lv_icmp_ne (tgt := 46) hx hb dY_turns_39 (by decide) (fun c120 => ?_) (fun c120 => ?_)
          · refine lv_iconst (v := 0) hx hb dY_turns_46 (by decide) ?_
            refine lv_istore (lv' := [(6, .int 0), (5, .int 0), (4, .int 4), (3, .int 2), (0, .ref G.1), (1, .int p0), (2, .int p1)]) hx hb dY_turns_47 hl (by decide) rfl (fun ls hl => ?_)
            refine lv_iload hx hb dY_turns_49 (lv_at hl 1 rfl) ?_
            refine lv_if_ne (tgt := 62) hx hb dY_turns_51 (by decide) (fun cz => absurd cz (by decide)) (fun _ => ?_)
            refine lv_iload hx hb dY_turns_54 (lv_at hl 0 rfl) ?_
            refine lv_if_ne (tgt := 62) hx hb dY_turns_56 (by decide) (fun cz => absurd cz (by decide)) (fun _ => ?_)
            refine lv_iinc (v := 3) (lv' := [(3, .int 3), (6, .int 0), (5, .int 0), (4, .int 4), (0, .ref G.1), (1, .int p0), (2, .int p1)]) hx hb dY_turns_59 hl (k := 3) rfl (by decide) (by decide) rfl (fun ls hl => ?_)
            refine lv_aload_n hx hb dY_turns_62 rfl (lv_at hl 4 rfl) ?_
            refine lv_iload hx hb dY_turns_63 (lv_at hl 3 rfl) ?_
            have hf121 := xFree hD hS hA
            refine va_callv (va_runV (As := [.int 4]) (rest := []) ⟨hx, hb, hml, hown, hts⟩ (j_note l D G (zk, zn, zi, zt, zs, zr, zd, zy, zm, zc, zv, (yShift (yShift (yShift ze 1) 2) 3), (((zo + 1) + 1) + 1))  H.size 4) (cwV 1 hts (yV ylY_56 ym_note ys_note yc_note) rfl rfl rfl (by decide +kernel) ⟨Nat.le_of_ble_eq_true rfl, Nat.le_of_ble_eq_true rfl⟩) (yPre hK hP hD _) rfl rfl hl.1 rfl (lv_room (Nat.le_of_ble_eq_true rfl)) dY_turns_65 ⟨Nat.le_of_ble_eq_true rfl, Nat.le_of_ble_eq_true rfl⟩) hS (fun q _ h => hf121 q h) hf121 (fun v123 t125 H1 locs ht hvm hw124 hB hz1 hk1 hS => ?_)
            obtain ⟨hP1, hK1, hD1⟩ := hB
            rw [ht] at hP1
            replace hD1 := hD1.weaken (fun _ _ _ h => hf121 _ h)
            generalize H1 = H at hP1 hS ⊢
            obtain rfl := (show v123 = (zk, zn, zi, zt, zs, zr, zd, zy, zm, zc, zv, (yShift (yShift (yShift (yShift ze 1) 2) 3) 4), ((((zo + 1) + 1) + 1) + 1)) from hw124)
            have hP : va_P D vwCl (yW G (zk, zn, zi, zt, zs, zr, zd, zy, zm, zc, zv, (yShift (yShift (yShift (yShift ze 1) 2) 3) 4), ((((zo + 1) + 1) + 1) + 1))) H := hP1
            have hD : va_D A (yW G (zk, zn, zi, zt, zs, zr, zd, zy, zm, zc, zv, (yShift (yShift (yShift (yShift ze 1) 2) 3) 4), ((((zo + 1) + 1) + 1) + 1))) := hD1
            refine lv_iload hx hb dY_turns_68 (lv_at hl 1 rfl) ?_
            refine lv_if_eq (tgt := 75) hx hb dY_turns_70 (by decide) (fun _ => ?_) (fun cz => absurd cz (by decide))
            refine lv_iinc (v := 5) (lv' := [(4, .int 5), (3, .int 3), (6, .int 0), (5, .int 0), (0, .ref G.1), (1, .int p0), (2, .int p1)]) hx hb dY_turns_75 hl (k := 3) rfl (by decide) (by decide) rfl (fun ls hl => ?_)
            refine lv_goto (tgt := 5) hx hb dY_turns_78 (by decide) ?_
            refine lv_iload hx hb dY_turns_5 (lv_at hl 0 rfl) ?_
            refine lv_bipush (v := 6) hx hb dY_turns_7 (by decide) ?_
            refine lv_icmp_ge (tgt := 81) hx hb dY_turns_9 (by decide) (fun cz => absurd cz (by decide)) (fun _ => ?_)
            refine lv_iload hx hb dY_turns_12 (lv_at hl 0 rfl) ?_
            refine lv_iload_n hx hb dY_turns_14 rfl (lv_at hl 5 rfl) ?_
            refine lv_bipush (v := 7) hx hb dY_turns_15 (by decide) ?_
            refine lv_iand hx hb dY_turns_17 ?_
            have c126 : ¬ 5 = (p0 &&& 7) := (by rw [← c8]; decide)
            refine lv_icmp_ne (tgt := 25) hx hb dY_turns_18 (by decide) (fun _ => ?_) (fun cz => absurd cz c126)
            refine lv_iconst (v := 0) hx hb dY_turns_25 (by decide) ?_
            refine lv_istore (lv' := [(5, .int 0), (4, .int 5), (3, .int 3), (6, .int 0), (0, .ref G.1), (1, .int p0), (2, .int p1)]) hx hb dY_turns_26 hl (by decide) rfl (fun ls hl => ?_)
            refine lv_iload hx hb dY_turns_28 (lv_at hl 0 rfl) ?_
            refine lv_if_ne (tgt := 46) hx hb dY_turns_30 (by decide) (fun cz => absurd cz (by decide)) (fun _ => ?_)
            refine lv_iload hx hb dY_turns_33 (lv_at hl 1 rfl) ?_
            refine lv_iload_n hx hb dY_turns_35 rfl (lv_at hl 6 rfl) ?_
            refine lv_bipush (v := 7) hx hb dY_turns_36 (by decide) ?_
            refine lv_iand hx hb dY_turns_38 ?_
            refine lv_icmp_ne (tgt := 46) hx hb dY_turns_39 (by decide) (fun c127 => ?_) (fun c127 => ?_)
            · refine lv_iconst (v := 0) hx hb dY_turns_46 (by decide) ?_
              refine lv_istore (lv' := [(6, .int 0), (5, .int 0), (4, .int 5), (3, .int 3), (0, .ref G.1), (1, .int p0), (2, .int p1)]) hx hb dY_turns_47 hl (by decide) rfl (fun ls hl => ?_)
              refine lv_iload hx hb dY_turns_49 (lv_at hl 1 rfl) ?_
              refine lv_if_ne (tgt := 62) hx hb dY_turns_51 (by decide) (fun cz => absurd cz (by decide)) (fun _ => ?_)
              refine lv_iload hx hb dY_turns_54 (lv_at hl 0 rfl) ?_
              refine lv_if_ne (tgt := 62) hx hb dY_turns_56 (by decide) (fun cz => absurd cz (by decide)) (fun _ => ?_)
              refine lv_iinc (v := 4) (lv' := [(3, .int 4), (6, .int 0), (5, .int 0), (4, .int 5), (0, .ref G.1), (1, .int p0), (2, .int p1)]) hx hb dY_turns_59 hl (k := 3) rfl (by decide) (by decide) rfl (fun ls hl => ?_)
              refine lv_aload_n hx hb dY_turns_62 rfl (lv_at hl 4 rfl) ?_
              refine lv_iload hx hb dY_turns_63 (lv_at hl 3 rfl) ?_
              have hf128 := xFree hD hS hA
              refine va_callv (va_runV (As := [.int 5]) (rest := []) ⟨hx, hb, hml, hown, hts⟩ (j_note l D G (zk, zn, zi, zt, zs, zr, zd, zy, zm, zc, zv, (yShift (yShift (yShift (yShift ze 1) 2) 3) 4), ((((zo + 1) + 1) + 1) + 1))  H.size 5) (cwV 1 hts (yV ylY_56 ym_note ys_note yc_note) rfl rfl rfl (by decide +kernel) ⟨Nat.le_of_ble_eq_true rfl, Nat.le_of_ble_eq_true rfl⟩) (yPre hK hP hD _) rfl rfl hl.1 rfl (lv_room (Nat.le_of_ble_eq_true rfl)) dY_turns_65 ⟨Nat.le_of_ble_eq_true rfl, Nat.le_of_ble_eq_true rfl⟩) hS (fun q _ h => hf128 q h) hf128 (fun v130 t132 H1 locs ht hvm hw131 hB hz1 hk1 hS => ?_)
              obtain ⟨hP1, hK1, hD1⟩ := hB
              rw [ht] at hP1
              replace hD1 := hD1.weaken (fun _ _ _ h => hf128 _ h)
              generalize H1 = H at hP1 hS ⊢
              obtain rfl := (show v130 = (zk, zn, zi, zt, zs, zr, zd, zy, zm, zc, zv, (yShift (yShift (yShift (yShift (yShift ze 1) 2) 3) 4) 5), (((((zo + 1) + 1) + 1) + 1) + 1)) from hw131)
              have hP : va_P D vwCl (yW G (zk, zn, zi, zt, zs, zr, zd, zy, zm, zc, zv, (yShift (yShift (yShift (yShift (yShift ze 1) 2) 3) 4) 5), (((((zo + 1) + 1) + 1) + 1) + 1))) H := hP1
              have hD : va_D A (yW G (zk, zn, zi, zt, zs, zr, zd, zy, zm, zc, zv, (yShift (yShift (yShift (yShift (yShift ze 1) 2) 3) 4) 5), (((((zo + 1) + 1) + 1) + 1) + 1))) := hD1
              refine lv_iload hx hb dY_turns_68 (lv_at hl 1 rfl) ?_
              refine lv_if_eq (tgt := 75) hx hb dY_turns_70 (by decide) (fun _ => ?_) (fun cz => absurd cz (by decide))
              refine lv_iinc (v := 6) (lv' := [(4, .int 6), (3, .int 4), (6, .int 0), (5, .int 0), (0, .ref G.1), (1, .int p0), (2, .int p1)]) hx hb dY_turns_75 hl (k := 3) rfl (by decide) (by decide) rfl (fun ls hl => ?_)
              refine lv_goto (tgt := 5) hx hb dY_turns_78 (by decide) ?_
              refine lv_iload hx hb dY_turns_5 (lv_at hl 0 rfl) ?_
              refine lv_bipush (v := 6) hx hb dY_turns_7 (by decide) ?_
              refine lv_icmp_ge (tgt := 81) hx hb dY_turns_9 (by decide) (fun _ => ?_) (fun cz => absurd cz (by decide))
              refine lv_iload_n hx hb dY_turns_81 rfl (lv_at hl 1 rfl) ?_
              exact W.iret (v := 4) hx hb hr (fun tE ht hW => ⟨⟨4, (zk, zn, zi, zt, zs, zr, zd, zy, zm, zc, zv, (yShift (yShift (yShift (yShift (yShift ze 1) 2) 3) 4) 5), (((((zo + 1) + 1) + 1) + 1) + 1)), rfl, by first | (simp only [zTurn, zTS, zN, zE, yk, yn, yi, yt, ys, yr, yd, yy, ym, yc, yv, ye, yo, c1, c2, eq_true c8, c112, c113, c119, c120, c126, c127, eq_self, ↓reduceIte, Bool.false_eq_true, Bool.not_false, Bool.not_true, Bool.and_true, Bool.and_false, Bool.true_and, Bool.false_and, decide_true, decide_false] <;> first | done | decide) | (simp only [zTurn, zTS, zN, zE, yk, yn, yi, yt, ys, yr, yd, yy, ym, yc, yv, ye, yo, c1, c2, c8, c112, c113, c119, c120, c126, c127, eq_self, ↓reduceIte, Bool.false_eq_true, Bool.not_false, Bool.not_true, Bool.and_true, Bool.and_false, Bool.true_and, Bool.false_and, decide_true, decide_false] <;> first | done | decide) | (simp [zTurn, zTS, zN, zE, yk, yn, yi, yt, ys, yr, yd, yy, ym, yc, yv, ye, yo, c1, c2, c8, c112, c113, c119, c120, c126, c127]; done) | (simp [zTurn, zTS, zN, zE, yk, yn, yi, yt, ys, yr, yd, yy, ym, yc, yv, ye, yo, c1, c2, eq_true c8, c112, c113, c119, c120, c126, c127]; done), by rw [ht]; exact hP, va_K.moved hW.alike hK, hD⟩, hS.F ht⟩) hS.2.2 dY_turns_82
            · refine lv_iconst (v := 1) hx hb dY_turns_42 (by decide) ?_
              refine lv_goto (tgt := 47) hx hb dY_turns_43 (by decide) ?_
              refine lv_istore (lv' := [(6, .int 1), (5, .int 0), (4, .int 5), (3, .int 3), (0, .ref G.1), (1, .int p0), (2, .int p1)]) hx hb dY_turns_47 hl (by decide) rfl (fun ls hl => ?_)
              refine lv_iload hx hb dY_turns_49 (lv_at hl 1 rfl) ?_
              refine lv_if_ne (tgt := 62) hx hb dY_turns_51 (by decide) (fun cz => absurd cz (by decide)) (fun _ => ?_)
              refine lv_iload hx hb dY_turns_54 (lv_at hl 0 rfl) ?_
              refine lv_if_ne (tgt := 62) hx hb dY_turns_56 (by decide) (fun _ => ?_) (fun cz => absurd cz (by decide))
              refine lv_aload_n hx hb dY_turns_62 rfl (lv_at hl 4 rfl) ?_
              refine lv_iload hx hb dY_turns_63 (lv_at hl 2 rfl) ?_
              have hf133 := xFree hD hS hA
              refine va_callv (va_runV (As := [.int 5]) (rest := []) ⟨hx, hb, hml, hown, hts⟩ (j_note l D G (zk, zn, zi, zt, zs, zr, zd, zy, zm, zc, zv, (yShift (yShift (yShift (yShift ze 1) 2) 3) 4), ((((zo + 1) + 1) + 1) + 1))  H.size 5) (cwV 1 hts (yV ylY_56 ym_note ys_note yc_note) rfl rfl rfl (by decide +kernel) ⟨Nat.le_of_ble_eq_true rfl, Nat.le_of_ble_eq_true rfl⟩) (yPre hK hP hD _) rfl rfl hl.1 rfl (lv_room (Nat.le_of_ble_eq_true rfl)) dY_turns_65 ⟨Nat.le_of_ble_eq_true rfl, Nat.le_of_ble_eq_true rfl⟩) hS (fun q _ h => hf133 q h) hf133 (fun v135 t137 H1 locs ht hvm hw136 hB hz1 hk1 hS => ?_)
              obtain ⟨hP1, hK1, hD1⟩ := hB
              rw [ht] at hP1
              replace hD1 := hD1.weaken (fun _ _ _ h => hf133 _ h)
              generalize H1 = H at hP1 hS ⊢
              obtain rfl := (show v135 = (zk, zn, zi, zt, zs, zr, zd, zy, zm, zc, zv, (yShift (yShift (yShift (yShift (yShift ze 1) 2) 3) 4) 5), (((((zo + 1) + 1) + 1) + 1) + 1)) from hw136)
              have hP : va_P D vwCl (yW G (zk, zn, zi, zt, zs, zr, zd, zy, zm, zc, zv, (yShift (yShift (yShift (yShift (yShift ze 1) 2) 3) 4) 5), (((((zo + 1) + 1) + 1) + 1) + 1))) H := hP1
              have hD : va_D A (yW G (zk, zn, zi, zt, zs, zr, zd, zy, zm, zc, zv, (yShift (yShift (yShift (yShift (yShift ze 1) 2) 3) 4) 5), (((((zo + 1) + 1) + 1) + 1) + 1))) := hD1
              refine lv_iload hx hb dY_turns_68 (lv_at hl 0 rfl) ?_
              refine lv_if_eq (tgt := 75) hx hb dY_turns_70 (by decide) (fun cz => absurd cz (by decide)) (fun _ => ?_)
              refine lv_iload_n hx hb dY_turns_73 rfl (lv_at hl 3 rfl) ?_
              exact W.iret (v := 3) hx hb hr (fun tE ht hW => ⟨⟨3, (zk, zn, zi, zt, zs, zr, zd, zy, zm, zc, zv, (yShift (yShift (yShift (yShift (yShift ze 1) 2) 3) 4) 5), (((((zo + 1) + 1) + 1) + 1) + 1)), rfl, by first | (simp only [zTurn, zTS, zN, zE, yk, yn, yi, yt, ys, yr, yd, yy, ym, yc, yv, ye, yo, c1, c2, eq_true c8, c112, c113, c119, c120, c126, eq_true c127, eq_self, ↓reduceIte, Bool.false_eq_true, Bool.not_false, Bool.not_true, Bool.and_true, Bool.and_false, Bool.true_and, Bool.false_and, decide_true, decide_false] <;> first | done | decide) | (simp only [zTurn, zTS, zN, zE, yk, yn, yi, yt, ys, yr, yd, yy, ym, yc, yv, ye, yo, c1, c2, c8, c112, c113, c119, c120, c126, c127, eq_self, ↓reduceIte, Bool.false_eq_true, Bool.not_false, Bool.not_true, Bool.and_true, Bool.and_false, Bool.true_and, Bool.false_and, decide_true, decide_false] <;> first | done | decide) | (simp [zTurn, zTS, zN, zE, yk, yn, yi, yt, ys, yr, yd, yy, ym, yc, yv, ye, yo, c1, c2, c8, c112, c113, c119, c120, c126, c127]; done) | (simp [zTurn, zTS, zN, zE, yk, yn, yi, yt, ys, yr, yd, yy, ym, yc, yv, ye, yo, c1, c2, eq_true c8, c112, c113, c119, c120, c126, eq_true c127]; done), by rw [ht]; exact hP, va_K.moved hW.alike hK, hD⟩, hS.F ht⟩) hS.2.2 dY_turns_74
          · refine lv_iconst (v := 1) hx hb dY_turns_42 (by decide) ?_
            refine lv_goto (tgt := 47) hx hb dY_turns_43 (by decide) ?_
            refine lv_istore (lv' := [(6, .int 1), (5, .int 0), (4, .int 4), (3, .int 2), (0, .ref G.1), (1, .int p0), (2, .int p1)]) hx hb dY_turns_47 hl (by decide) rfl (fun ls hl => ?_)
            refine lv_iload hx hb dY_turns_49 (lv_at hl 1 rfl) ?_
            refine lv_if_ne (tgt := 62) hx hb dY_turns_51 (by decide) (fun cz => absurd cz (by decide)) (fun _ => ?_)
            refine lv_iload hx hb dY_turns_54 (lv_at hl 0 rfl) ?_
            refine lv_if_ne (tgt := 62) hx hb dY_turns_56 (by decide) (fun _ => ?_) (fun cz => absurd cz (by decide))
            refine lv_aload_n hx hb dY_turns_62 rfl (lv_at hl 4 rfl) ?_
            refine lv_iload hx hb dY_turns_63 (lv_at hl 2 rfl) ?_
            have hf138 := xFree hD hS hA
            refine va_callv (va_runV (As := [.int 4]) (rest := []) ⟨hx, hb, hml, hown, hts⟩ (j_note l D G (zk, zn, zi, zt, zs, zr, zd, zy, zm, zc, zv, (yShift (yShift (yShift ze 1) 2) 3), (((zo + 1) + 1) + 1))  H.size 4) (cwV 1 hts (yV ylY_56 ym_note ys_note yc_note) rfl rfl rfl (by decide +kernel) ⟨Nat.le_of_ble_eq_true rfl, Nat.le_of_ble_eq_true rfl⟩) (yPre hK hP hD _) rfl rfl hl.1 rfl (lv_room (Nat.le_of_ble_eq_true rfl)) dY_turns_65 ⟨Nat.le_of_ble_eq_true rfl, Nat.le_of_ble_eq_true rfl⟩) hS (fun q _ h => hf138 q h) hf138 (fun v140 t142 H1 locs ht hvm hw141 hB hz1 hk1 hS => ?_)
            obtain ⟨hP1, hK1, hD1⟩ := hB
            rw [ht] at hP1
            replace hD1 := hD1.weaken (fun _ _ _ h => hf138 _ h)
            generalize H1 = H at hP1 hS ⊢
            obtain rfl := (show v140 = (zk, zn, zi, zt, zs, zr, zd, zy, zm, zc, zv, (yShift (yShift (yShift (yShift ze 1) 2) 3) 4), ((((zo + 1) + 1) + 1) + 1)) from hw141)
            have hP : va_P D vwCl (yW G (zk, zn, zi, zt, zs, zr, zd, zy, zm, zc, zv, (yShift (yShift (yShift (yShift ze 1) 2) 3) 4), ((((zo + 1) + 1) + 1) + 1))) H := hP1
            have hD : va_D A (yW G (zk, zn, zi, zt, zs, zr, zd, zy, zm, zc, zv, (yShift (yShift (yShift (yShift ze 1) 2) 3) 4), ((((zo + 1) + 1) + 1) + 1))) := hD1
            refine lv_iload hx hb dY_turns_68 (lv_at hl 0 rfl) ?_
            refine lv_if_eq (tgt := 75) hx hb dY_turns_70 (by decide) (fun cz => absurd cz (by decide)) (fun _ => ?_)
            refine lv_iload_n hx hb dY_turns_73 rfl (lv_at hl 3 rfl) ?_
            exact W.iret (v := 2) hx hb hr (fun tE ht hW => ⟨⟨2, (zk, zn, zi, zt, zs, zr, zd, zy, zm, zc, zv, (yShift (yShift (yShift (yShift ze 1) 2) 3) 4), ((((zo + 1) + 1) + 1) + 1)), rfl, by first | (simp only [zTurn, zTS, zN, zE, yk, yn, yi, yt, ys, yr, yd, yy, ym, yc, yv, ye, yo, c1, c2, eq_true c8, c112, c113, c119, eq_true c120, eq_self, ↓reduceIte, Bool.false_eq_true, Bool.not_false, Bool.not_true, Bool.and_true, Bool.and_false, Bool.true_and, Bool.false_and, decide_true, decide_false] <;> first | done | decide) | (simp only [zTurn, zTS, zN, zE, yk, yn, yi, yt, ys, yr, yd, yy, ym, yc, yv, ye, yo, c1, c2, c8, c112, c113, c119, c120, eq_self, ↓reduceIte, Bool.false_eq_true, Bool.not_false, Bool.not_true, Bool.and_true, Bool.and_false, Bool.true_and, Bool.false_and, decide_true, decide_false] <;> first | done | decide) | (simp [zTurn, zTS, zN, zE, yk, yn, yi, yt, ys, yr, yd, yy, ym, yc, yv, ye, yo, c1, c2, c8, c112, c113, c119, c120]; done) | (simp [zTurn, zTS, zN, zE, yk, yn, yi, yt, ys, yr, yd, yy, ym, yc, yv, ye, yo, c1, c2, eq_true c8, c112, c113, c119, eq_true c120]; done), by rw [ht]; exact hP, va_K.moved hW.alike hK, hD⟩, hS.F ht⟩) hS.2.2 dY_turns_74
        · refine lv_iconst (v := 1) hx hb dY_turns_42 (by decide) ?_
          refine lv_goto (tgt := 47) hx hb dY_turns_43 (by decide) ?_
          refine lv_istore (lv' := [(6, .int 1), (5, .int 0), (4, .int 3), (3, .int 1), (0, .ref G.1), (1, .int p0), (2, .int p1)]) hx hb dY_turns_47 hl (by decide) rfl (fun ls hl => ?_)
          refine lv_iload hx hb dY_turns_49 (lv_at hl 1 rfl) ?_
          refine lv_if_ne (tgt := 62) hx hb dY_turns_51 (by decide) (fun cz => absurd cz (by decide)) (fun _ => ?_)
          refine lv_iload hx hb dY_turns_54 (lv_at hl 0 rfl) ?_
          refine lv_if_ne (tgt := 62) hx hb dY_turns_56 (by decide) (fun _ => ?_) (fun cz => absurd cz (by decide))
          refine lv_aload_n hx hb dY_turns_62 rfl (lv_at hl 4 rfl) ?_
          refine lv_iload hx hb dY_turns_63 (lv_at hl 2 rfl) ?_
          have hf143 := xFree hD hS hA
          refine va_callv (va_runV (As := [.int 3]) (rest := []) ⟨hx, hb, hml, hown, hts⟩ (j_note l D G (zk, zn, zi, zt, zs, zr, zd, zy, zm, zc, zv, (yShift (yShift ze 1) 2), ((zo + 1) + 1))  H.size 3) (cwV 1 hts (yV ylY_56 ym_note ys_note yc_note) rfl rfl rfl (by decide +kernel) ⟨Nat.le_of_ble_eq_true rfl, Nat.le_of_ble_eq_true rfl⟩) (yPre hK hP hD _) rfl rfl hl.1 rfl (lv_room (Nat.le_of_ble_eq_true rfl)) dY_turns_65 ⟨Nat.le_of_ble_eq_true rfl, Nat.le_of_ble_eq_true rfl⟩) hS (fun q _ h => hf143 q h) hf143 (fun v145 t147 H1 locs ht hvm hw146 hB hz1 hk1 hS => ?_)
          obtain ⟨hP1, hK1, hD1⟩ := hB
          rw [ht] at hP1
          replace hD1 := hD1.weaken (fun _ _ _ h => hf143 _ h)
          generalize H1 = H at hP1 hS ⊢
          obtain rfl := (show v145 = (zk, zn, zi, zt, zs, zr, zd, zy, zm, zc, zv, (yShift (yShift (yShift ze 1) 2) 3), (((zo + 1) + 1) + 1)) from hw146)
          have hP : va_P D vwCl (yW G (zk, zn, zi, zt, zs, zr, zd, zy, zm, zc, zv, (yShift (yShift (yShift ze 1) 2) 3), (((zo + 1) + 1) + 1))) H := hP1
          have hD : va_D A (yW G (zk, zn, zi, zt, zs, zr, zd, zy, zm, zc, zv, (yShift (yShift (yShift ze 1) 2) 3), (((zo + 1) + 1) + 1))) := hD1
          refine lv_iload hx hb dY_turns_68 (lv_at hl 0 rfl) ?_
          refine lv_if_eq (tgt := 75) hx hb dY_turns_70 (by decide) (fun cz => absurd cz (by decide)) (fun _ => ?_)
          refine lv_iload_n hx hb dY_turns_73 rfl (lv_at hl 3 rfl) ?_
          exact W.iret (v := 1) hx hb hr (fun tE ht hW => ⟨⟨1, (zk, zn, zi, zt, zs, zr, zd, zy, zm, zc, zv, (yShift (yShift (yShift ze 1) 2) 3), (((zo + 1) + 1) + 1)), rfl, by first | (simp only [zTurn, zTS, zN, zE, yk, yn, yi, yt, ys, yr, yd, yy, ym, yc, yv, ye, yo, c1, c2, eq_true c8, c112, eq_true c113, eq_self, ↓reduceIte, Bool.false_eq_true, Bool.not_false, Bool.not_true, Bool.and_true, Bool.and_false, Bool.true_and, Bool.false_and, decide_true, decide_false] <;> first | done | decide) | (simp only [zTurn, zTS, zN, zE, yk, yn, yi, yt, ys, yr, yd, yy, ym, yc, yv, ye, yo, c1, c2, c8, c112, c113, eq_self, ↓reduceIte, Bool.false_eq_true, Bool.not_false, Bool.not_true, Bool.and_true, Bool.and_false, Bool.true_and, Bool.false_and, decide_true, decide_false] <;> first | done | decide) | (simp [zTurn, zTS, zN, zE, yk, yn, yi, yt, ys, yr, yd, yy, ym, yc, yv, ye, yo, c1, c2, c8, c112, c113]; done) | (simp [zTurn, zTS, zN, zE, yk, yn, yi, yt, ys, yr, yd, yy, ym, yc, yv, ye, yo, c1, c2, eq_true c8, c112, eq_true c113]; done), by rw [ht]; exact hP, va_K.moved hW.alike hK, hD⟩, hS.F ht⟩) hS.2.2 dY_turns_74
    · refine lv_iconst (v := 1) hx hb dY_turns_42 (by decide) ?_
      refine lv_goto (tgt := 47) hx hb dY_turns_43 (by decide) ?_
      refine lv_istore (lv' := [(6, .int 1), (5, .int 0), (4, .int 1), (3, .int 0), (0, .ref G.1), (1, .int p0), (2, .int p1)]) hx hb dY_turns_47 hl (by decide) rfl (fun ls hl => ?_)
      refine lv_iload hx hb dY_turns_49 (lv_at hl 1 rfl) ?_
      refine lv_if_ne (tgt := 62) hx hb dY_turns_51 (by decide) (fun cz => absurd cz (by decide)) (fun _ => ?_)
      refine lv_iload hx hb dY_turns_54 (lv_at hl 0 rfl) ?_
      refine lv_if_ne (tgt := 62) hx hb dY_turns_56 (by decide) (fun _ => ?_) (fun cz => absurd cz (by decide))
      refine lv_aload_n hx hb dY_turns_62 rfl (lv_at hl 4 rfl) ?_
      refine lv_iload hx hb dY_turns_63 (lv_at hl 2 rfl) ?_
      have hf148 := xFree hD hS hA
      refine va_callv (va_runV (As := [.int 1]) (rest := []) ⟨hx, hb, hml, hown, hts⟩ (j_note l D G (zk, zn, zi, zt, zs, zr, zd, zy, zm, zc, zv, ze, zo)  H.size 1) (cwV 1 hts (yV ylY_56 ym_note ys_note yc_note) rfl rfl rfl (by decide +kernel) ⟨Nat.le_of_ble_eq_true rfl, Nat.le_of_ble_eq_true rfl⟩) (yPre hK hP hD _) rfl rfl hl.1 rfl (lv_room (Nat.le_of_ble_eq_true rfl)) dY_turns_65 ⟨Nat.le_of_ble_eq_true rfl, Nat.le_of_ble_eq_true rfl⟩) hS (fun q _ h => hf148 q h) hf148 (fun v150 t152 H1 locs ht hvm hw151 hB hz1 hk1 hS => ?_)
      obtain ⟨hP1, hK1, hD1⟩ := hB
      rw [ht] at hP1
      replace hD1 := hD1.weaken (fun _ _ _ h => hf148 _ h)
      generalize H1 = H at hP1 hS ⊢
      obtain rfl := (show v150 = (zk, zn, zi, zt, zs, zr, zd, zy, zm, zc, zv, (yShift ze 1), (zo + 1)) from hw151)
      have hP : va_P D vwCl (yW G (zk, zn, zi, zt, zs, zr, zd, zy, zm, zc, zv, (yShift ze 1), (zo + 1))) H := hP1
      have hD : va_D A (yW G (zk, zn, zi, zt, zs, zr, zd, zy, zm, zc, zv, (yShift ze 1), (zo + 1))) := hD1
      refine lv_iload hx hb dY_turns_68 (lv_at hl 0 rfl) ?_
      refine lv_if_eq (tgt := 75) hx hb dY_turns_70 (by decide) (fun cz => absurd cz (by decide)) (fun _ => ?_)
      refine lv_iload_n hx hb dY_turns_73 rfl (lv_at hl 3 rfl) ?_
      exact W.iret (v := 0) hx hb hr (fun tE ht hW => ⟨⟨0, (zk, zn, zi, zt, zs, zr, zd, zy, zm, zc, zv, (yShift ze 1), (zo + 1)), rfl, by first | (simp only [zTurn, zTS, zN, zE, yk, yn, yi, yt, ys, yr, yd, yy, ym, yc, yv, ye, yo, c1, eq_true c2, eq_self, ↓reduceIte, Bool.false_eq_true, Bool.not_false, Bool.not_true, Bool.and_true, Bool.and_false, Bool.true_and, Bool.false_and, decide_true, decide_false] <;> first | done | decide) | (simp only [zTurn, zTS, zN, zE, yk, yn, yi, yt, ys, yr, yd, yy, ym, yc, yv, ye, yo, c1, c2, eq_self, ↓reduceIte, Bool.false_eq_true, Bool.not_false, Bool.not_true, Bool.and_true, Bool.and_false, Bool.true_and, Bool.false_and, decide_true, decide_false] <;> first | done | decide) | (simp [zTurn, zTS, zN, zE, yk, yn, yi, yt, ys, yr, yd, yy, ym, yc, yv, ye, yo, c1, c2]; done) | (simp [zTurn, zTS, zN, zE, yk, yn, yi, yt, ys, yr, yd, yy, ym, yc, yv, ye, yo, c1, eq_true c2]; done), by rw [ht]; exact hP, va_K.moved hW.alike hK, hD⟩, hS.F ht⟩) hS.2.2 dY_turns_74
  · refine lv_iconst (v := 1) hx hb dY_turns_21 (by decide) ?_
    refine lv_goto (tgt := 26) hx hb dY_turns_22 (by decide) ?_
    refine lv_istore (lv' := [(5, .int 1), (4, .int 1), (3, .int 0), (0, .ref G.1), (1, .int p0), (2, .int p1)]) hx hb dY_turns_26 hl (by decide) rfl (fun ls hl => ?_)
    refine lv_iload hx hb dY_turns_28 (lv_at hl 0 rfl) ?_
    refine lv_if_ne (tgt := 46) hx hb dY_turns_30 (by decide) (fun _ => ?_) (fun cz => absurd cz (by decide))
    refine lv_iconst (v := 0) hx hb dY_turns_46 (by decide) ?_
    refine lv_istore (lv' := [(6, .int 0), (5, .int 1), (4, .int 1), (3, .int 0), (0, .ref G.1), (1, .int p0), (2, .int p1)]) hx hb dY_turns_47 hl (by decide) rfl (fun ls hl => ?_)
    refine lv_iload hx hb dY_turns_49 (lv_at hl 1 rfl) ?_
    refine lv_if_ne (tgt := 62) hx hb dY_turns_51 (by decide) (fun _ => ?_) (fun cz => absurd cz (by decide))
    refine lv_aload_n hx hb dY_turns_62 rfl (lv_at hl 4 rfl) ?_
    refine lv_iload hx hb dY_turns_63 (lv_at hl 2 rfl) ?_
    have hf153 := xFree hD hS hA
    refine va_callv (va_runV (As := [.int 1]) (rest := []) ⟨hx, hb, hml, hown, hts⟩ (j_note l D G (zk, zn, zi, zt, zs, zr, zd, zy, zm, zc, zv, ze, zo)  H.size 1) (cwV 1 hts (yV ylY_56 ym_note ys_note yc_note) rfl rfl rfl (by decide +kernel) ⟨Nat.le_of_ble_eq_true rfl, Nat.le_of_ble_eq_true rfl⟩) (yPre hK hP hD _) rfl rfl hl.1 rfl (lv_room (Nat.le_of_ble_eq_true rfl)) dY_turns_65 ⟨Nat.le_of_ble_eq_true rfl, Nat.le_of_ble_eq_true rfl⟩) hS (fun q _ h => hf153 q h) hf153 (fun v155 t157 H1 locs ht hvm hw156 hB hz1 hk1 hS => ?_)
    obtain ⟨hP1, hK1, hD1⟩ := hB
    rw [ht] at hP1
    replace hD1 := hD1.weaken (fun _ _ _ h => hf153 _ h)
    generalize H1 = H at hP1 hS ⊢
    obtain rfl := (show v155 = (zk, zn, zi, zt, zs, zr, zd, zy, zm, zc, zv, (yShift ze 1), (zo + 1)) from hw156)
    have hP : va_P D vwCl (yW G (zk, zn, zi, zt, zs, zr, zd, zy, zm, zc, zv, (yShift ze 1), (zo + 1))) H := hP1
    have hD : va_D A (yW G (zk, zn, zi, zt, zs, zr, zd, zy, zm, zc, zv, (yShift ze 1), (zo + 1))) := hD1
    refine lv_iload hx hb dY_turns_68 (lv_at hl 0 rfl) ?_
    refine lv_if_eq (tgt := 75) hx hb dY_turns_70 (by decide) (fun _ => ?_) (fun cz => absurd cz (by decide))
    refine lv_iinc (v := 2) (lv' := [(4, .int 2), (6, .int 0), (5, .int 1), (3, .int 0), (0, .ref G.1), (1, .int p0), (2, .int p1)]) hx hb dY_turns_75 hl (k := 2) rfl (by decide) (by decide) rfl (fun ls hl => ?_)
    refine lv_goto (tgt := 5) hx hb dY_turns_78 (by decide) ?_
    refine lv_iload hx hb dY_turns_5 (lv_at hl 0 rfl) ?_
    refine lv_bipush (v := 6) hx hb dY_turns_7 (by decide) ?_
    refine lv_icmp_ge (tgt := 81) hx hb dY_turns_9 (by decide) (fun cz => absurd cz (by decide)) (fun _ => ?_)
    refine lv_iload hx hb dY_turns_12 (lv_at hl 0 rfl) ?_
    refine lv_iload_n hx hb dY_turns_14 rfl (lv_at hl 5 rfl) ?_
    refine lv_bipush (v := 7) hx hb dY_turns_15 (by decide) ?_
    refine lv_iand hx hb dY_turns_17 ?_
    have c158 : ¬ 2 = (p0 &&& 7) := (by rw [← c1]; decide)
    refine lv_icmp_ne (tgt := 25) hx hb dY_turns_18 (by decide) (fun _ => ?_) (fun cz => absurd cz c158)
    refine lv_iconst (v := 0) hx hb dY_turns_25 (by decide) ?_
    refine lv_istore (lv' := [(5, .int 0), (4, .int 2), (6, .int 0), (3, .int 0), (0, .ref G.1), (1, .int p0), (2, .int p1)]) hx hb dY_turns_26 hl (by decide) rfl (fun ls hl => ?_)
    refine lv_iload hx hb dY_turns_28 (lv_at hl 0 rfl) ?_
    refine lv_if_ne (tgt := 46) hx hb dY_turns_30 (by decide) (fun cz => absurd cz (by decide)) (fun _ => ?_)
    refine lv_iload hx hb dY_turns_33 (lv_at hl 1 rfl) ?_
    refine lv_iload_n hx hb dY_turns_35 rfl (lv_at hl 6 rfl) ?_
    refine lv_bipush (v := 7) hx hb dY_turns_36 (by decide) ?_
    refine lv_iand hx hb dY_turns_38 ?_
    refine lv_icmp_ne (tgt := 46) hx hb dY_turns_39 (by decide) (fun c159 => ?_) (fun c159 => ?_)
    · refine lv_iconst (v := 0) hx hb dY_turns_46 (by decide) ?_
      refine lv_istore (lv' := [(6, .int 0), (5, .int 0), (4, .int 2), (3, .int 0), (0, .ref G.1), (1, .int p0), (2, .int p1)]) hx hb dY_turns_47 hl (by decide) rfl (fun ls hl => ?_)
      refine lv_iload hx hb dY_turns_49 (lv_at hl 1 rfl) ?_
      refine lv_if_ne (tgt := 62) hx hb dY_turns_51 (by decide) (fun cz => absurd cz (by decide)) (fun _ => ?_)
      refine lv_iload hx hb dY_turns_54 (lv_at hl 0 rfl) ?_
      refine lv_if_ne (tgt := 62) hx hb dY_turns_56 (by decide) (fun cz => absurd cz (by decide)) (fun _ => ?_)
      refine lv_iinc (v := 1) (lv' := [(3, .int 1), (6, .int 0), (5, .int 0), (4, .int 2), (0, .ref G.1), (1, .int p0), (2, .int p1)]) hx hb dY_turns_59 hl (k := 3) rfl (by decide) (by decide) rfl (fun ls hl => ?_)
      refine lv_aload_n hx hb dY_turns_62 rfl (lv_at hl 4 rfl) ?_
      refine lv_iload hx hb dY_turns_63 (lv_at hl 3 rfl) ?_
      have hf160 := xFree hD hS hA
      refine va_callv (va_runV (As := [.int 2]) (rest := []) ⟨hx, hb, hml, hown, hts⟩ (j_note l D G (zk, zn, zi, zt, zs, zr, zd, zy, zm, zc, zv, (yShift ze 1), (zo + 1))  H.size 2) (cwV 1 hts (yV ylY_56 ym_note ys_note yc_note) rfl rfl rfl (by decide +kernel) ⟨Nat.le_of_ble_eq_true rfl, Nat.le_of_ble_eq_true rfl⟩) (yPre hK hP hD _) rfl rfl hl.1 rfl (lv_room (Nat.le_of_ble_eq_true rfl)) dY_turns_65 ⟨Nat.le_of_ble_eq_true rfl, Nat.le_of_ble_eq_true rfl⟩) hS (fun q _ h => hf160 q h) hf160 (fun v162 t164 H1 locs ht hvm hw163 hB hz1 hk1 hS => ?_)
      obtain ⟨hP1, hK1, hD1⟩ := hB
      rw [ht] at hP1
      replace hD1 := hD1.weaken (fun _ _ _ h => hf160 _ h)
      generalize H1 = H at hP1 hS ⊢
      obtain rfl := (show v162 = (zk, zn, zi, zt, zs, zr, zd, zy, zm, zc, zv, (yShift (yShift ze 1) 2), ((zo + 1) + 1)) from hw163)
      have hP : va_P D vwCl (yW G (zk, zn, zi, zt, zs, zr, zd, zy, zm, zc, zv, (yShift (yShift ze 1) 2), ((zo + 1) + 1))) H := hP1
      have hD : va_D A (yW G (zk, zn, zi, zt, zs, zr, zd, zy, zm, zc, zv, (yShift (yShift ze 1) 2), ((zo + 1) + 1))) := hD1
      refine lv_iload hx hb dY_turns_68 (lv_at hl 1 rfl) ?_
      refine lv_if_eq (tgt := 75) hx hb dY_turns_70 (by decide) (fun _ => ?_) (fun cz => absurd cz (by decide))
      refine lv_iinc (v := 3) (lv' := [(4, .int 3), (3, .int 1), (6, .int 0), (5, .int 0), (0, .ref G.1), (1, .int p0), (2, .int p1)]) hx hb dY_turns_75 hl (k := 3) rfl (by decide) (by decide) rfl (fun ls hl => ?_)
      refine lv_goto (tgt := 5) hx hb dY_turns_78 (by decide) ?_
      refine lv_iload hx hb dY_turns_5 (lv_at hl 0 rfl) ?_
      refine lv_bipush (v := 6) hx hb dY_turns_7 (by decide) ?_
      refine lv_icmp_ge (tgt := 81) hx hb dY_turns_9 (by decide) (fun cz => absurd cz (by decide)) (fun _ => ?_)
      refine lv_iload hx hb dY_turns_12 (lv_at hl 0 rfl) ?_
      refine lv_iload_n hx hb dY_turns_14 rfl (lv_at hl 5 rfl) ?_
      refine lv_bipush (v := 7) hx hb dY_turns_15 (by decide) ?_
      refine lv_iand hx hb dY_turns_17 ?_
      have c165 : ¬ 3 = (p0 &&& 7) := (by rw [← c1]; decide)
      refine lv_icmp_ne (tgt := 25) hx hb dY_turns_18 (by decide) (fun _ => ?_) (fun cz => absurd cz c165)
      refine lv_iconst (v := 0) hx hb dY_turns_25 (by decide) ?_
      refine lv_istore (lv' := [(5, .int 0), (4, .int 3), (3, .int 1), (6, .int 0), (0, .ref G.1), (1, .int p0), (2, .int p1)]) hx hb dY_turns_26 hl (by decide) rfl (fun ls hl => ?_)
      refine lv_iload hx hb dY_turns_28 (lv_at hl 0 rfl) ?_
      refine lv_if_ne (tgt := 46) hx hb dY_turns_30 (by decide) (fun cz => absurd cz (by decide)) (fun _ => ?_)
      refine lv_iload hx hb dY_turns_33 (lv_at hl 1 rfl) ?_
      refine lv_iload_n hx hb dY_turns_35 rfl (lv_at hl 6 rfl) ?_
      refine lv_bipush (v := 7) hx hb dY_turns_36 (by decide) ?_
      refine lv_iand hx hb dY_turns_38 ?_
      refine lv_icmp_ne (tgt := 46) hx hb dY_turns_39 (by decide) (fun c166 => ?_) (fun c166 => ?_)
      · refine lv_iconst (v := 0) hx hb dY_turns_46 (by decide) ?_
        refine lv_istore (lv' := [(6, .int 0), (5, .int 0), (4, .int 3), (3, .int 1), (0, .ref G.1), (1, .int p0), (2, .int p1)]) hx hb dY_turns_47 hl (by decide) rfl (fun ls hl => ?_)
        refine lv_iload hx hb dY_turns_49 (lv_at hl 1 rfl) ?_
        refine lv_if_ne (tgt := 62) hx hb dY_turns_51 (by decide) (fun cz => absurd cz (by decide)) (fun _ => ?_)
        refine lv_iload hx hb dY_turns_54 (lv_at hl 0 rfl) ?_
        refine lv_if_ne (tgt := 62) hx hb dY_turns_56 (by decide) (fun cz => absurd cz (by decide)) (fun _ => ?_)
        refine lv_iinc (v := 2) (lv' := [(3, .int 2), (6, .int 0), (5, .int 0), (4, .int 3), (0, .ref G.1), (1, .int p0), (2, .int p1)]) hx hb dY_turns_59 hl (k := 3) rfl (by decide) (by decide) rfl (fun ls hl => ?_)
        refine lv_aload_n hx hb dY_turns_62 rfl (lv_at hl 4 rfl) ?_
        refine lv_iload hx hb dY_turns_63 (lv_at hl 3 rfl) ?_
        have hf167 := xFree hD hS hA
        refine va_callv (va_runV (As := [.int 3]) (rest := []) ⟨hx, hb, hml, hown, hts⟩ (j_note l D G (zk, zn, zi, zt, zs, zr, zd, zy, zm, zc, zv, (yShift (yShift ze 1) 2), ((zo + 1) + 1))  H.size 3) (cwV 1 hts (yV ylY_56 ym_note ys_note yc_note) rfl rfl rfl (by decide +kernel) ⟨Nat.le_of_ble_eq_true rfl, Nat.le_of_ble_eq_true rfl⟩) (yPre hK hP hD _) rfl rfl hl.1 rfl (lv_room (Nat.le_of_ble_eq_true rfl)) dY_turns_65 ⟨Nat.le_of_ble_eq_true rfl, Nat.le_of_ble_eq_true rfl⟩) hS (fun q _ h => hf167 q h) hf167 (fun v169 t171 H1 locs ht hvm hw170 hB hz1 hk1 hS => ?_)
        obtain ⟨hP1, hK1, hD1⟩ := hB
        rw [ht] at hP1
        replace hD1 := hD1.weaken (fun _ _ _ h => hf167 _ h)
        generalize H1 = H at hP1 hS ⊢
        obtain rfl := (show v169 = (zk, zn, zi, zt, zs, zr, zd, zy, zm, zc, zv, (yShift (yShift (yShift ze 1) 2) 3), (((zo + 1) + 1) + 1)) from hw170)
        have hP : va_P D vwCl (yW G (zk, zn, zi, zt, zs, zr, zd, zy, zm, zc, zv, (yShift (yShift (yShift ze 1) 2) 3), (((zo + 1) + 1) + 1))) H := hP1
        have hD : va_D A (yW G (zk, zn, zi, zt, zs, zr, zd, zy, zm, zc, zv, (yShift (yShift (yShift ze 1) 2) 3), (((zo + 1) + 1) + 1))) := hD1
        refine lv_iload hx hb dY_turns_68 (lv_at hl 1 rfl) ?_
        refine lv_if_eq (tgt := 75) hx hb dY_turns_70 (by decide) (fun _ => ?_) (fun cz => absurd cz (by decide))
        refine lv_iinc (v := 4) (lv' := [(4, .int 4), (3, .int 2), (6, .int 0), (5, .int 0), (0, .ref G.1), (1, .int p0), (2, .int p1)]) hx hb dY_turns_75 hl (k := 3) rfl (by decide) (by decide) rfl (fun ls hl => ?_)
        refine lv_goto (tgt := 5) hx hb dY_turns_78 (by decide) ?_
        refine lv_iload hx hb dY_turns_5 (lv_at hl 0 rfl) ?_
        refine lv_bipush (v := 6) hx hb dY_turns_7 (by decide) ?_
        refine lv_icmp_ge (tgt := 81) hx hb dY_turns_9 (by decide) (fun cz => absurd cz (by decide)) (fun _ => ?_)
        refine lv_iload hx hb dY_turns_12 (lv_at hl 0 rfl) ?_
        refine lv_iload_n hx hb dY_turns_14 rfl (lv_at hl 5 rfl) ?_
        refine lv_bipush (v := 7) hx hb dY_turns_15 (by decide) ?_
        refine lv_iand hx hb dY_turns_17 ?_
        have c172 : ¬ 4 = (p0 &&& 7) := (by rw [← c1]; decide)
        refine lv_icmp_ne (tgt := 25) hx hb dY_turns_18 (by decide) (fun _ => ?_) (fun cz => absurd cz c172)
        refine lv_iconst (v := 0) hx hb dY_turns_25 (by decide) ?_
        refine lv_istore (lv' := [(5, .int 0), (4, .int 4), (3, .int 2), (6, .int 0), (0, .ref G.1), (1, .int p0), (2, .int p1)]) hx hb dY_turns_26 hl (by decide) rfl (fun ls hl => ?_)
        refine lv_iload hx hb dY_turns_28 (lv_at hl 0 rfl) ?_
        refine lv_if_ne (tgt := 46) hx hb dY_turns_30 (by decide) (fun cz => absurd cz (by decide)) (fun _ => ?_)
        refine lv_iload hx hb dY_turns_33 (lv_at hl 1 rfl) ?_
        refine lv_iload_n hx hb dY_turns_35 rfl (lv_at hl 6 rfl) ?_
        refine lv_bipush (v := 7) hx hb dY_turns_36 (by decide) ?_
        refine lv_iand hx hb dY_turns_38 ?_
        refine lv_icmp_ne (tgt := 46) hx hb dY_turns_39 (by decide) (fun c173 => ?_) (fun c173 => ?_)
        · refine lv_iconst (v := 0) hx hb dY_turns_46 (by decide) ?_
          refine lv_istore (lv' := [(6, .int 0), (5, .int 0), (4, .int 4), (3, .int 2), (0, .ref G.1), (1, .int p0), (2, .int p1)]) hx hb dY_turns_47 hl (by decide) rfl (fun ls hl => ?_)
          refine lv_iload hx hb dY_turns_49 (lv_at hl 1 rfl) ?_
          refine lv_if_ne (tgt := 62) hx hb dY_turns_51 (by decide) (fun cz => absurd cz (by decide)) (fun _ => ?_)
          refine lv_iload hx hb dY_turns_54 (lv_at hl 0 rfl) ?_
          refine lv_if_ne (tgt := 62) hx hb dY_turns_56 (by decide) (fun cz => absurd cz (by decide)) (fun _ => ?_)
          refine lv_iinc (v := 3) (lv' := [(3, .int 3), (6, .int 0), (5, .int 0), (4, .int 4), (0, .ref G.1), (1, .int p0), (2, .int p1)]) hx hb dY_turns_59 hl (k := 3) rfl (by decide) (by decide) rfl (fun ls hl => ?_)
          refine lv_aload_n hx hb dY_turns_62 rfl (lv_at hl 4 rfl) ?_
          refine lv_iload hx hb dY_turns_63 (lv_at hl 3 rfl) ?_
          have hf174 := xFree hD hS hA
          refine va_callv (va_runV (As := [.int 4]) (rest := []) ⟨hx, hb, hml, hown, hts⟩ (j_note l D G (zk, zn, zi, zt, zs, zr, zd, zy, zm, zc, zv, (yShift (yShift (yShift ze 1) 2) 3), (((zo + 1) + 1) + 1))  H.size 4) (cwV 1 hts (yV ylY_56 ym_note ys_note yc_note) rfl rfl rfl (by decide +kernel) ⟨Nat.le_of_ble_eq_true rfl, Nat.le_of_ble_eq_true rfl⟩) (yPre hK hP hD _) rfl rfl hl.1 rfl (lv_room (Nat.le_of_ble_eq_true rfl)) dY_turns_65 ⟨Nat.le_of_ble_eq_true rfl, Nat.le_of_ble_eq_true rfl⟩) hS (fun q _ h => hf174 q h) hf174 (fun v176 t178 H1 locs ht hvm hw177 hB hz1 hk1 hS => ?_)
          obtain ⟨hP1, hK1, hD1⟩ := hB
          rw [ht] at hP1
          replace hD1 := hD1.weaken (fun _ _ _ h => hf174 _ h)
          generalize H1 = H at hP1 hS ⊢
          obtain rfl := (show v176 = (zk, zn, zi, zt, zs, zr, zd, zy, zm, zc, zv, (yShift (yShift (yShift (yShift ze 1) 2) 3) 4), ((((zo + 1) + 1) + 1) + 1)) from hw177)
          have hP : va_P D vwCl (yW G (zk, zn, zi, zt, zs, zr, zd, zy, zm, zc, zv, (yShift (yShift (yShift (yShift ze 1) 2) 3) 4), ((((zo + 1) + 1) + 1) + 1))) H := hP1
          have hD : va_D A (yW G (zk, zn, zi, zt, zs, zr, zd, zy, zm, zc, zv, (yShift (yShift (yShift (yShift ze 1) 2) 3) 4), ((((zo + 1) + 1) + 1) + 1))) := hD1
          refine lv_iload hx hb dY_turns_68 (lv_at hl 1 rfl) ?_
          refine lv_if_eq (tgt := 75) hx hb dY_turns_70 (by decide) (fun _ => ?_) (fun cz => absurd cz (by decide))
          refine lv_iinc (v := 5) (lv' := [(4, .int 5), (3, .int 3), (6, .int 0), (5, .int 0), (0, .ref G.1), (1, .int p0), (2, .int p1)]) hx hb dY_turns_75 hl (k := 3) rfl (by decide) (by decide) rfl (fun ls hl => ?_)
          refine lv_goto (tgt := 5) hx hb dY_turns_78 (by decide) ?_
          refine lv_iload hx hb dY_turns_5 (lv_at hl 0 rfl) ?_
          refine lv_bipush (v := 6) hx hb dY_turns_7 (by decide) ?_
          refine lv_icmp_ge (tgt := 81) hx hb dY_turns_9 (by decide) (fun cz => absurd cz (by decide)) (fun _ => ?_)
          refine lv_iload hx hb dY_turns_12 (lv_at hl 0 rfl) ?_
          refine lv_iload_n hx hb dY_turns_14 rfl (lv_at hl 5 rfl) ?_
          refine lv_bipush (v := 7) hx hb dY_turns_15 (by decide) ?_
          refine lv_iand hx hb dY_turns_17 ?_
          have c179 : ¬ 5 = (p0 &&& 7) := (by rw [← c1]; decide)
          refine lv_icmp_ne (tgt := 25) hx hb dY_turns_18 (by decide) (fun _ => ?_) (fun cz => absurd cz c179)
          refine lv_iconst (v := 0) hx hb dY_turns_25 (by decide) ?_
          refine lv_istore (lv' := [(5, .int 0), (4, .int 5), (3, .int 3), (6, .int 0), (0, .ref G.1), (1, .int p0), (2, .int p1)]) hx hb dY_turns_26 hl (by decide) rfl (fun ls hl => ?_)
          refine lv_iload hx hb dY_turns_28 (lv_at hl 0 rfl) ?_
          refine lv_if_ne (tgt := 46) hx hb dY_turns_30 (by decide) (fun cz => absurd cz (by decide)) (fun _ => ?_)
          refine lv_iload hx hb dY_turns_33 (lv_at hl 1 rfl) ?_
          refine lv_iload_n hx hb dY_turns_35 rfl (lv_at hl 6 rfl) ?_
          refine lv_bipush (v := 7) hx hb dY_turns_36 (by decide) ?_
          refine lv_iand hx hb dY_turns_38 ?_
          refine lv_icmp_ne (tgt := 46) hx hb dY_turns_39 (by decide) (fun c180 => ?_) (fun c180 => ?_)
          · refine lv_iconst (v := 0) hx hb dY_turns_46 (by decide) ?_
            refine lv_istore (lv' := [(6, .int 0), (5, .int 0), (4, .int 5), (3, .int 3), (0, .ref G.1), (1, .int p0), (2, .int p1)]) hx hb dY_turns_47 hl (by decide) rfl (fun ls hl => ?_)
            refine lv_iload hx hb dY_turns_49 (lv_at hl 1 rfl) ?_
            refine lv_if_ne (tgt := 62) hx hb dY_turns_51 (by decide) (fun cz => absurd cz (by decide)) (fun _ => ?_)
            refine lv_iload hx hb dY_turns_54 (lv_at hl 0 rfl) ?_
            refine lv_if_ne (tgt := 62) hx hb dY_turns_56 (by decide) (fun cz => absurd cz (by decide)) (fun _ => ?_)
            refine lv_iinc (v := 4) (lv' := [(3, .int 4), (6, .int 0), (5, .int 0), (4, .int 5), (0, .ref G.1), (1, .int p0), (2, .int p1)]) hx hb dY_turns_59 hl (k := 3) rfl (by decide) (by decide) rfl (fun ls hl => ?_)
            refine lv_aload_n hx hb dY_turns_62 rfl (lv_at hl 4 rfl) ?_
            refine lv_iload hx hb dY_turns_63 (lv_at hl 3 rfl) ?_
            have hf181 := xFree hD hS hA
            refine va_callv (va_runV (As := [.int 5]) (rest := []) ⟨hx, hb, hml, hown, hts⟩ (j_note l D G (zk, zn, zi, zt, zs, zr, zd, zy, zm, zc, zv, (yShift (yShift (yShift (yShift ze 1) 2) 3) 4), ((((zo + 1) + 1) + 1) + 1))  H.size 5) (cwV 1 hts (yV ylY_56 ym_note ys_note yc_note) rfl rfl rfl (by decide +kernel) ⟨Nat.le_of_ble_eq_true rfl, Nat.le_of_ble_eq_true rfl⟩) (yPre hK hP hD _) rfl rfl hl.1 rfl (lv_room (Nat.le_of_ble_eq_true rfl)) dY_turns_65 ⟨Nat.le_of_ble_eq_true rfl, Nat.le_of_ble_eq_true rfl⟩) hS (fun q _ h => hf181 q h) hf181 (fun v183 t185 H1 locs ht hvm hw184 hB hz1 hk1 hS => ?_)
            obtain ⟨hP1, hK1, hD1⟩ := hB
            rw [ht] at hP1
            replace hD1 := hD1.weaken (fun _ _ _ h => hf181 _ h)
            generalize H1 = H at hP1 hS ⊢
            obtain rfl := (show v183 = (zk, zn, zi, zt, zs, zr, zd, zy, zm, zc, zv, (yShift (yShift (yShift (yShift (yShift ze 1) 2) 3) 4) 5), (((((zo + 1) + 1) + 1) + 1) + 1)) from hw184)
            have hP : va_P D vwCl (yW G (zk, zn, zi, zt, zs, zr, zd, zy, zm, zc, zv, (yShift (yShift (yShift (yShift (yShift ze 1) 2) 3) 4) 5), (((((zo + 1) + 1) + 1) + 1) + 1))) H := hP1
            have hD : va_D A (yW G (zk, zn, zi, zt, zs, zr, zd, zy, zm, zc, zv, (yShift (yShift (yShift (yShift (yShift ze 1) 2) 3) 4) 5), (((((zo + 1) + 1) + 1) + 1) + 1))) := hD1
            refine lv_iload hx hb dY_turns_68 (lv_at hl 1 rfl) ?_
            refine lv_if_eq (tgt := 75) hx hb dY_turns_70 (by decide) (fun _ => ?_) (fun cz => absurd cz (by decide))
            refine lv_iinc (v := 6) (lv' := [(4, .int 6), (3, .int 4), (6, .int 0), (5, .int 0), (0, .ref G.1), (1, .int p0), (2, .int p1)]) hx hb dY_turns_75 hl (k := 3) rfl (by decide) (by decide) rfl (fun ls hl => ?_)
            refine lv_goto (tgt := 5) hx hb dY_turns_78 (by decide) ?_
            refine lv_iload hx hb dY_turns_5 (lv_at hl 0 rfl) ?_
            refine lv_bipush (v := 6) hx hb dY_turns_7 (by decide) ?_
            refine lv_icmp_ge (tgt := 81) hx hb dY_turns_9 (by decide) (fun _ => ?_) (fun cz => absurd cz (by decide))
            refine lv_iload_n hx hb dY_turns_81 rfl (lv_at hl 1 rfl) ?_
            exact W.iret (v := 4) hx hb hr (fun tE ht hW => ⟨⟨4, (zk, zn, zi, zt, zs, zr, zd, zy, zm, zc, zv, (yShift (yShift (yShift (yShift (yShift ze 1) 2) 3) 4) 5), (((((zo + 1) + 1) + 1) + 1) + 1)), rfl, by first | (simp only [zTurn, zTS, zN, zE, yk, yn, yi, yt, ys, yr, yd, yy, ym, yc, yv, ye, yo, eq_true c1, c158, c159, c165, c166, c172, c173, c179, c180, eq_self, ↓reduceIte, Bool.false_eq_true, Bool.not_false, Bool.not_true, Bool.and_true, Bool.and_false, Bool.true_and, Bool.false_and, decide_true, decide_false] <;> first | done | decide) | (simp only [zTurn, zTS, zN, zE, yk, yn, yi, yt, ys, yr, yd, yy, ym, yc, yv, ye, yo, c1, c158, c159, c165, c166, c172, c173, c179, c180, eq_self, ↓reduceIte, Bool.false_eq_true, Bool.not_false, Bool.not_true, Bool.and_true, Bool.and_false, Bool.true_and, Bool.false_and, decide_true, decide_false] <;> first | done | decide) | (simp [zTurn, zTS, zN, zE, yk, yn, yi, yt, ys, yr, yd, yy, ym, yc, yv, ye, yo, c1, c158, c159, c165, c166, c172, c173, c179, c180]; done) | (simp [zTurn, zTS, zN, zE, yk, yn, yi, yt, ys, yr, yd, yy, ym, yc, yv, ye, yo, eq_true c1, c158, c159, c165, c166, c172, c173, c179, c180]; done), by rw [ht]; exact hP, va_K.moved hW.alike hK, hD⟩, hS.F ht⟩) hS.2.2 dY_turns_82
          · refine lv_iconst (v := 1) hx hb dY_turns_42 (by decide) ?_
            refine lv_goto (tgt := 47) hx hb dY_turns_43 (by decide) ?_
            refine lv_istore (lv' := [(6, .int 1), (5, .int 0), (4, .int 5), (3, .int 3), (0, .ref G.1), (1, .int p0), (2, .int p1)]) hx hb dY_turns_47 hl (by decide) rfl (fun ls hl => ?_)
            refine lv_iload hx hb dY_turns_49 (lv_at hl 1 rfl) ?_
            refine lv_if_ne (tgt := 62) hx hb dY_turns_51 (by decide) (fun cz => absurd cz (by decide)) (fun _ => ?_)
            refine lv_iload hx hb dY_turns_54 (lv_at hl 0 rfl) ?_
            refine lv_if_ne (tgt := 62) hx hb dY_turns_56 (by decide) (fun _ => ?_) (fun cz => absurd cz (by decide))
            refine lv_aload_n hx hb dY_turns_62 rfl (lv_at hl 4 rfl) ?_
            refine lv_iload hx hb dY_turns_63 (lv_at hl 2 rfl) ?_
            have hf186 := xFree hD hS hA
            refine va_callv (va_runV (As := [.int 5]) (rest := []) ⟨hx, hb, hml, hown, hts⟩ (j_note l D G (zk, zn, zi, zt, zs, zr, zd, zy, zm, zc, zv, (yShift (yShift (yShift (yShift ze 1) 2) 3) 4), ((((zo + 1) + 1) + 1) + 1))  H.size 5) (cwV 1 hts (yV ylY_56 ym_note ys_note yc_note) rfl rfl rfl (by decide +kernel) ⟨Nat.le_of_ble_eq_true rfl, Nat.le_of_ble_eq_true rfl⟩) (yPre hK hP hD _) rfl rfl hl.1 rfl (lv_room (Nat.le_of_ble_eq_true rfl)) dY_turns_65 ⟨Nat.le_of_ble_eq_true rfl, Nat.le_of_ble_eq_true rfl⟩) hS (fun q _ h => hf186 q h) hf186 (fun v188 t190 H1 locs ht hvm hw189 hB hz1 hk1 hS => ?_)
            obtain ⟨hP1, hK1, hD1⟩ := hB
            rw [ht] at hP1
            replace hD1 := hD1.weaken (fun _ _ _ h => hf186 _ h)
            generalize H1 = H at hP1 hS ⊢
            obtain rfl := (show v188 = (zk, zn, zi, zt, zs, zr, zd, zy, zm, zc, zv, (yShift (yShift (yShift (yShift (yShift ze 1) 2) 3) 4) 5), (((((zo + 1) + 1) + 1) + 1) + 1)) from hw189)
            have hP : va_P D vwCl (yW G (zk, zn, zi, zt, zs, zr, zd, zy, zm, zc, zv, (yShift (yShift (yShift (yShift (yShift ze 1) 2) 3) 4) 5), (((((zo + 1) + 1) + 1) + 1) + 1))) H := hP1
            have hD : va_D A (yW G (zk, zn, zi, zt, zs, zr, zd, zy, zm, zc, zv, (yShift (yShift (yShift (yShift (yShift ze 1) 2) 3) 4) 5), (((((zo + 1) + 1) + 1) + 1) + 1))) := hD1
            refine lv_iload hx hb dY_turns_68 (lv_at hl 0 rfl) ?_
            refine lv_if_eq (tgt := 75) hx hb dY_turns_70 (by decide) (fun cz => absurd cz (by decide)) (fun _ => ?_)
            refine lv_iload_n hx hb dY_turns_73 rfl (lv_at hl 3 rfl) ?_
            exact W.iret (v := 3) hx hb hr (fun tE ht hW => ⟨⟨3, (zk, zn, zi, zt, zs, zr, zd, zy, zm, zc, zv, (yShift (yShift (yShift (yShift (yShift ze 1) 2) 3) 4) 5), (((((zo + 1) + 1) + 1) + 1) + 1)), rfl, by first | (simp only [zTurn, zTS, zN, zE, yk, yn, yi, yt, ys, yr, yd, yy, ym, yc, yv, ye, yo, eq_true c1, c158, c159, c165, c166, c172, c173, c179, eq_true c180, eq_self, ↓reduceIte, Bool.false_eq_true, Bool.not_false, Bool.not_true, Bool.and_true, Bool.and_false, Bool.true_and, Bool.false_and, decide_true, decide_false] <;> first | done | decide) | (simp only [zTurn, zTS, zN, zE, yk, yn, yi, yt, ys, yr, yd, yy, ym, yc, yv, ye, yo, c1, c158, c159, c165, c166, c172, c173, c179, c180, eq_self, ↓reduceIte, Bool.false_eq_true, Bool.not_false, Bool.not_true, Bool.and_true, Bool.and_false, Bool.true_and, Bool.false_and, decide_true, decide_false] <;> first | done | decide) | (simp [zTurn, zTS, zN, zE, yk, yn, yi, yt, ys, yr, yd, yy, ym, yc, yv, ye, yo, c1, c158, c159, c165, c166, c172, c173, c179, c180]; done) | (simp [zTurn, zTS, zN, zE, yk, yn, yi, yt, ys, yr, yd, yy, ym, yc, yv, ye, yo, eq_true c1, c158, c159, c165, c166, c172, c173, c179, eq_true c180]; done), by rw [ht]; exact hP, va_K.moved hW.alike hK, hD⟩, hS.F ht⟩) hS.2.2 dY_turns_74
        · refine lv_iconst (v := 1) hx hb dY_turns_42 (by decide) ?_
          refine lv_goto (tgt := 47) hx hb dY_turns_43 (by decide) ?_
          refine lv_istore (lv' := [(6, .int 1), (5, .int 0), (4, .int 4), (3, .int 2), (0, .ref G.1), (1, .int p0), (2, .int p1)]) hx hb dY_turns_47 hl (by decide) rfl (fun ls hl => ?_)
          refine lv_iload hx hb dY_turns_49 (lv_at hl 1 rfl) ?_
          refine lv_if_ne (tgt := 62) hx hb dY_turns_51 (by decide) (fun cz => absurd cz (by decide)) (fun _ => ?_)
          refine lv_iload hx hb dY_turns_54 (lv_at hl 0 rfl) ?_
          refine lv_if_ne (tgt := 62) hx hb dY_turns_56 (by decide) (fun _ => ?_) (fun cz => absurd cz (by decide))
          refine lv_aload_n hx hb dY_turns_62 rfl (lv_at hl 4 rfl) ?_
          refine lv_iload hx hb dY_turns_63 (lv_at hl 2 rfl) ?_
          have hf191 := xFree hD hS hA
          refine va_callv (va_runV (As := [.int 4]) (rest := []) ⟨hx, hb, hml, hown, hts⟩ (j_note l D G (zk, zn, zi, zt, zs, zr, zd, zy, zm, zc, zv, (yShift (yShift (yShift ze 1) 2) 3), (((zo + 1) + 1) + 1))  H.size 4) (cwV 1 hts (yV ylY_56 ym_note ys_note yc_note) rfl rfl rfl (by decide +kernel) ⟨Nat.le_of_ble_eq_true rfl, Nat.le_of_ble_eq_true rfl⟩) (yPre hK hP hD _) rfl rfl hl.1 rfl (lv_room (Nat.le_of_ble_eq_true rfl)) dY_turns_65 ⟨Nat.le_of_ble_eq_true rfl, Nat.le_of_ble_eq_true rfl⟩) hS (fun q _ h => hf191 q h) hf191 (fun v193 t195 H1 locs ht hvm hw194 hB hz1 hk1 hS => ?_)
          obtain ⟨hP1, hK1, hD1⟩ := hB
          rw [ht] at hP1
          replace hD1 := hD1.weaken (fun _ _ _ h => hf191 _ h)
          generalize H1 = H at hP1 hS ⊢
          obtain rfl := (show v193 = (zk, zn, zi, zt, zs, zr, zd, zy, zm, zc, zv, (yShift (yShift (yShift (yShift ze 1) 2) 3) 4), ((((zo + 1) + 1) + 1) + 1)) from hw194)
          have hP : va_P D vwCl (yW G (zk, zn, zi, zt, zs, zr, zd, zy, zm, zc, zv, (yShift (yShift (yShift (yShift ze 1) 2) 3) 4), ((((zo + 1) + 1) + 1) + 1))) H := hP1
          have hD : va_D A (yW G (zk, zn, zi, zt, zs, zr, zd, zy, zm, zc, zv, (yShift (yShift (yShift (yShift ze 1) 2) 3) 4), ((((zo + 1) + 1) + 1) + 1))) := hD1
          refine lv_iload hx hb dY_turns_68 (lv_at hl 0 rfl) ?_
          refine lv_if_eq (tgt := 75) hx hb dY_turns_70 (by decide) (fun cz => absurd cz (by decide)) (fun _ => ?_)
          refine lv_iload_n hx hb dY_turns_73 rfl (lv_at hl 3 rfl) ?_
          exact W.iret (v := 2) hx hb hr (fun tE ht hW => ⟨⟨2, (zk, zn, zi, zt, zs, zr, zd, zy, zm, zc, zv, (yShift (yShift (yShift (yShift ze 1) 2) 3) 4), ((((zo + 1) + 1) + 1) + 1)), rfl, by first | (simp only [zTurn, zTS, zN, zE, yk, yn, yi, yt, ys, yr, yd, yy, ym, yc, yv, ye, yo, eq_true c1, c158, c159, c165, c166, c172, eq_true c173, eq_self, ↓reduceIte, Bool.false_eq_true, Bool.not_false, Bool.not_true, Bool.and_true, Bool.and_false, Bool.true_and, Bool.false_and, decide_true, decide_false] <;> first | done | decide) | (simp only [zTurn, zTS, zN, zE, yk, yn, yi, yt, ys, yr, yd, yy, ym, yc, yv, ye, yo, c1, c158, c159, c165, c166, c172, c173, eq_self, ↓reduceIte, Bool.false_eq_true, Bool.not_false, Bool.not_true, Bool.and_true, Bool.and_false, Bool.true_and, Bool.false_and, decide_true, decide_false] <;> first | done | decide) | (simp [zTurn, zTS, zN, zE, yk, yn, yi, yt, ys, yr, yd, yy, ym, yc, yv, ye, yo, c1, c158, c159, c165, c166, c172, c173]; done) | (simp [zTurn, zTS, zN, zE, yk, yn, yi, yt, ys, yr, yd, yy, ym, yc, yv, ye, yo, eq_true c1, c158, c159, c165, c166, c172, eq_true c173]; done), by rw [ht]; exact hP, va_K.moved hW.alike hK, hD⟩, hS.F ht⟩) hS.2.2 dY_turns_74
      · refine lv_iconst (v := 1) hx hb dY_turns_42 (by decide) ?_
        refine lv_goto (tgt := 47) hx hb dY_turns_43 (by decide) ?_
        refine lv_istore (lv' := [(6, .int 1), (5, .int 0), (4, .int 3), (3, .int 1), (0, .ref G.1), (1, .int p0), (2, .int p1)]) hx hb dY_turns_47 hl (by decide) rfl (fun ls hl => ?_)
        refine lv_iload hx hb dY_turns_49 (lv_at hl 1 rfl) ?_
        refine lv_if_ne (tgt := 62) hx hb dY_turns_51 (by decide) (fun cz => absurd cz (by decide)) (fun _ => ?_)
        refine lv_iload hx hb dY_turns_54 (lv_at hl 0 rfl) ?_
        refine lv_if_ne (tgt := 62) hx hb dY_turns_56 (by decide) (fun _ => ?_) (fun cz => absurd cz (by decide))
        refine lv_aload_n hx hb dY_turns_62 rfl (lv_at hl 4 rfl) ?_
        refine lv_iload hx hb dY_turns_63 (lv_at hl 2 rfl) ?_
        have hf196 := xFree hD hS hA
        refine va_callv (va_runV (As := [.int 3]) (rest := []) ⟨hx, hb, hml, hown, hts⟩ (j_note l D G (zk, zn, zi, zt, zs, zr, zd, zy, zm, zc, zv, (yShift (yShift ze 1) 2), ((zo + 1) + 1))  H.size 3) (cwV 1 hts (yV ylY_56 ym_note ys_note yc_note) rfl rfl rfl (by decide +kernel) ⟨Nat.le_of_ble_eq_true rfl, Nat.le_of_ble_eq_true rfl⟩) (yPre hK hP hD _) rfl rfl hl.1 rfl (lv_room (Nat.le_of_ble_eq_true rfl)) dY_turns_65 ⟨Nat.le_of_ble_eq_true rfl, Nat.le_of_ble_eq_true rfl⟩) hS (fun q _ h => hf196 q h) hf196 (fun v198 t200 H1 locs ht hvm hw199 hB hz1 hk1 hS => ?_)
        obtain ⟨hP1, hK1, hD1⟩ := hB
        rw [ht] at hP1
        replace hD1 := hD1.weaken (fun _ _ _ h => hf196 _ h)
        generalize H1 = H at hP1 hS ⊢
        obtain rfl := (show v198 = (zk, zn, zi, zt, zs, zr, zd, zy, zm, zc, zv, (yShift (yShift (yShift ze 1) 2) 3), (((zo + 1) + 1) + 1)) from hw199)
        have hP : va_P D vwCl (yW G (zk, zn, zi, zt, zs, zr, zd, zy, zm, zc, zv, (yShift (yShift (yShift ze 1) 2) 3), (((zo + 1) + 1) + 1))) H := hP1
        have hD : va_D A (yW G (zk, zn, zi, zt, zs, zr, zd, zy, zm, zc, zv, (yShift (yShift (yShift ze 1) 2) 3), (((zo + 1) + 1) + 1))) := hD1
        refine lv_iload hx hb dY_turns_68 (lv_at hl 0 rfl) ?_
        refine lv_if_eq (tgt := 75) hx hb dY_turns_70 (by decide) (fun cz => absurd cz (by decide)) (fun _ => ?_)
        refine lv_iload_n hx hb dY_turns_73 rfl (lv_at hl 3 rfl) ?_
        exact W.iret (v := 1) hx hb hr (fun tE ht hW => ⟨⟨1, (zk, zn, zi, zt, zs, zr, zd, zy, zm, zc, zv, (yShift (yShift (yShift ze 1) 2) 3), (((zo + 1) + 1) + 1)), rfl, by first | (simp only [zTurn, zTS, zN, zE, yk, yn, yi, yt, ys, yr, yd, yy, ym, yc, yv, ye, yo, eq_true c1, c158, c159, c165, eq_true c166, eq_self, ↓reduceIte, Bool.false_eq_true, Bool.not_false, Bool.not_true, Bool.and_true, Bool.and_false, Bool.true_and, Bool.false_and, decide_true, decide_false] <;> first | done | decide) | (simp only [zTurn, zTS, zN, zE, yk, yn, yi, yt, ys, yr, yd, yy, ym, yc, yv, ye, yo, c1, c158, c159, c165, c166, eq_self, ↓reduceIte, Bool.false_eq_true, Bool.not_false, Bool.not_true, Bool.and_true, Bool.and_false, Bool.true_and, Bool.false_and, decide_true, decide_false] <;> first | done | decide) | (simp [zTurn, zTS, zN, zE, yk, yn, yi, yt, ys, yr, yd, yy, ym, yc, yv, ye, yo, c1, c158, c159, c165, c166]; done) | (simp [zTurn, zTS, zN, zE, yk, yn, yi, yt, ys, yr, yd, yy, ym, yc, yv, ye, yo, eq_true c1, c158, c159, c165, eq_true c166]; done), by rw [ht]; exact hP, va_K.moved hW.alike hK, hD⟩, hS.F ht⟩) hS.2.2 dY_turns_74
    · refine lv_iconst (v := 1) hx hb dY_turns_42 (by decide) ?_
      refine lv_goto (tgt := 47) hx hb dY_turns_43 (by decide) ?_
      refine lv_istore (lv' := [(6, .int 1), (5, .int 0), (4, .int 2), (3, .int 0), (0, .ref G.1), (1, .int p0), (2, .int p1)]) hx hb dY_turns_47 hl (by decide) rfl (fun ls hl => ?_)
      refine lv_iload hx hb dY_turns_49 (lv_at hl 1 rfl) ?_
      refine lv_if_ne (tgt := 62) hx hb dY_turns_51 (by decide) (fun cz => absurd cz (by decide)) (fun _ => ?_)
      refine lv_iload hx hb dY_turns_54 (lv_at hl 0 rfl) ?_
      refine lv_if_ne (tgt := 62) hx hb dY_turns_56 (by decide) (fun _ => ?_) (fun cz => absurd cz (by decide))
      refine lv_aload_n hx hb dY_turns_62 rfl (lv_at hl 4 rfl) ?_
      refine lv_iload hx hb dY_turns_63 (lv_at hl 2 rfl) ?_
      have hf201 := xFree hD hS hA
      refine va_callv (va_runV (As := [.int 2]) (rest := []) ⟨hx, hb, hml, hown, hts⟩ (j_note l D G (zk, zn, zi, zt, zs, zr, zd, zy, zm, zc, zv, (yShift ze 1), (zo + 1))  H.size 2) (cwV 1 hts (yV ylY_56 ym_note ys_note yc_note) rfl rfl rfl (by decide +kernel) ⟨Nat.le_of_ble_eq_true rfl, Nat.le_of_ble_eq_true rfl⟩) (yPre hK hP hD _) rfl rfl hl.1 rfl (lv_room (Nat.le_of_ble_eq_true rfl)) dY_turns_65 ⟨Nat.le_of_ble_eq_true rfl, Nat.le_of_ble_eq_true rfl⟩) hS (fun q _ h => hf201 q h) hf201 (fun v203 t205 H1 locs ht hvm hw204 hB hz1 hk1 hS => ?_)
      obtain ⟨hP1, hK1, hD1⟩ := hB
      rw [ht] at hP1
      replace hD1 := hD1.weaken (fun _ _ _ h => hf201 _ h)
      generalize H1 = H at hP1 hS ⊢
      obtain rfl := (show v203 = (zk, zn, zi, zt, zs, zr, zd, zy, zm, zc, zv, (yShift (yShift ze 1) 2), ((zo + 1) + 1)) from hw204)
      have hP : va_P D vwCl (yW G (zk, zn, zi, zt, zs, zr, zd, zy, zm, zc, zv, (yShift (yShift ze 1) 2), ((zo + 1) + 1))) H := hP1
      have hD : va_D A (yW G (zk, zn, zi, zt, zs, zr, zd, zy, zm, zc, zv, (yShift (yShift ze 1) 2), ((zo + 1) + 1))) := hD1
      refine lv_iload hx hb dY_turns_68 (lv_at hl 0 rfl) ?_
      refine lv_if_eq (tgt := 75) hx hb dY_turns_70 (by decide) (fun cz => absurd cz (by decide)) (fun _ => ?_)
      refine lv_iload_n hx hb dY_turns_73 rfl (lv_at hl 3 rfl) ?_
      exact W.iret (v := 0) hx hb hr (fun tE ht hW => ⟨⟨0, (zk, zn, zi, zt, zs, zr, zd, zy, zm, zc, zv, (yShift (yShift ze 1) 2), ((zo + 1) + 1)), rfl, by first | (simp only [zTurn, zTS, zN, zE, yk, yn, yi, yt, ys, yr, yd, yy, ym, yc, yv, ye, yo, eq_true c1, c158, eq_true c159, eq_self, ↓reduceIte, Bool.false_eq_true, Bool.not_false, Bool.not_true, Bool.and_true, Bool.and_false, Bool.true_and, Bool.false_and, decide_true, decide_false] <;> first | done | decide) | (simp only [zTurn, zTS, zN, zE, yk, yn, yi, yt, ys, yr, yd, yy, ym, yc, yv, ye, yo, c1, c158, c159, eq_self, ↓reduceIte, Bool.false_eq_true, Bool.not_false, Bool.not_true, Bool.and_true, Bool.and_false, Bool.true_and, Bool.false_and, decide_true, decide_false] <;> first | done | decide) | (simp [zTurn, zTS, zN, zE, yk, yn, yi, yt, ys, yr, yd, yy, ym, yc, yv, ye, yo, c1, c158, c159]; done) | (simp [zTurn, zTS, zN, zE, yk, yn, yi, yt, ys, yr, yd, yy, ym, yc, yv, ye, yo, eq_true c1, c158, eq_true c159]; done), by rw [ht]; exact hP, va_K.moved hW.alike hK, hD⟩, hS.F ht⟩) hS.2.2 dY_turns_74
set_option maxHeartbeats 8000000 in
set_option maxRecDepth 100000 in
theorem j_closings (l : Launch) (D : va_G) (G : YF) (v : YS) (sz : Nat) (p0 p1 : Int32) : Met l yY_closings wY_closings ({ frames := 1, cells := 0, slots := 0, locals := 22 }) (yPc D G v sz [.ref G.1, .int p0, .int p1]) (va_Qi (fun (r : Int32) (w : YS) => (r, w) = zClose v p0 p1) (yB D G (va_A (yW G v) sz)) (va_A (yW G v) sz)) 0 0 (va_A (yW G v) sz) := by
  obtain ⟨zk, zn, zi, zt, zs, zr, zd, zy, zm, zc, zv, ze, zo⟩ := v
  refine Met.ofW (cc := cY_closings) (maxL := 6) (ret := (Option.some Jvm.ClassFile.FieldType.int)) (by decide) rfl ?_
  intro p e s m args below meth c s₁ B hml hv
  obtain ⟨rfl, hsz, hP, hK, hD0⟩ := hv
  have hx := B.exec
  have hb := B.bytes
  have hr := B.returns
  have hts := atoms_spec (ws := wY_closings) B.pre
  have hty : ∀ w ∈ yAll, w.before _ s = true := fun w h => hts w (List.mem_cons_of_mem _ h)
  have hown : s.vm.findClass RY = some m.cls := findClass_of_methodNamed B.named
  have hlocks := B.notSynchronized
  subst hsz
  have hD := hD0.self (sz := s.heap.size)
  generalize hAe : va_A (yW G (zk, zn, zi, zt, zs, zr, zd, zy, zm, zc, zv, ze, zo)) s.heap.size = A at hD ⊢
  have hA : ∀ q : Nat, s.heap.size ≤ q → A q := fun q h => by rw [← hAe]; exact Or.inr h
  have hS : va_S A s.heap s.heap [] := va_S.rf
  refine xHeap (C := fun H => va_P D vwCl (yW G (zk, zn, zi, zt, zs, zr, zd, zy, zm, zc, zv, ze, zo)) H ∧ va_S A s.heap H []) ⟨hP, hS⟩ (fun H hC => ?_)
  obtain ⟨hP, hS⟩ := hC
  have hl := lv_entry ([.ref G.1, .int p0, .int p1]) (n := 6) (Nat.le_of_ble_eq_true rfl)
  rw [lg_entry_eq]
  generalize (lg_sl ([.ref G.1, .int p0, .int p1]) ++ List.replicate (6 - (lg_sl ([.ref G.1, .int p0, .int p1])).length) Slot.unset).toArray = ls at hl ⊢
  have hl : lv_has ls 6 [(0, .ref G.1), (1, .int p0), (2, .int p1)] := hl
  refine lv_iload_n hx hb dY_closings_0 rfl (lv_at hl 1 rfl) ?_
  refine lv_iconst (v := 1) hx hb dY_closings_1 (by decide) ?_
  refine lv_iand hx hb dY_closings_2 ?_
  refine lv_if_ne (tgt := 10) hx hb dY_closings_3 (by decide) (fun c1 => ?_) (fun c1 => ?_)
  · refine lv_iconst (v := 0) hx hb dY_closings_10 (by decide) ?_
    refine lv_istore_n (lv' := [(3, .int 0), (0, .ref G.1), (1, .int p0), (2, .int p1)]) hx hb dY_closings_11 rfl hl (by decide) rfl (fun ls hl => ?_)
    refine lv_iload_n hx hb dY_closings_12 rfl (lv_at hl 0 rfl) ?_
    refine lv_if_eq (tgt := 20) hx hb dY_closings_13 (by decide) (fun _ => ?_) (fun cz => absurd cz (by decide))
    refine lv_iconst (v := 1) hx hb dY_closings_20 (by decide) ?_
    refine lv_istore (lv' := [(4, .int 1), (3, .int 0), (0, .ref G.1), (1, .int p0), (2, .int p1)]) hx hb dY_closings_21 hl (by decide) rfl (fun ls hl => ?_)
    refine lv_iconst (v := 0) hx hb dY_closings_23 (by decide) ?_
    refine lv_istore (lv' := [(5, .int 0), (4, .int 1), (3, .int 0), (0, .ref G.1), (1, .int p0), (2, .int p1)]) hx hb dY_closings_24 hl (by decide) rfl (fun ls hl => ?_)
    refine lv_aload_n hx hb dY_closings_26 rfl (lv_at hl 3 rfl) ?_
    refine lv_bipush (v := 10) hx hb dY_closings_27 (by decide) ?_
    have hf2 := xFree hD hS hA
    refine va_callv (va_runV (As := [.int 10]) (rest := []) ⟨hx, hb, hml, hown, hts⟩ (j_note l D G (zk, zn, zi, zt, zs, zr, zd, zy, zm, zc, zv, ze, zo)  H.size 10) (cwV 1 hts (yV ylY_56 ym_note ys_note yc_note) rfl rfl rfl (by decide +kernel) ⟨Nat.le_of_ble_eq_true rfl, Nat.le_of_ble_eq_true rfl⟩) (yPre hK hP hD _) rfl rfl hl.1 rfl (lv_room (Nat.le_of_ble_eq_true rfl)) dY_closings_29 ⟨Nat.le_of_ble_eq_true rfl, Nat.le_of_ble_eq_true rfl⟩) hS (fun q _ h => hf2 q h) hf2 (fun v4 t6 H1 locs ht hvm hw5 hB hz1 hk1 hS => ?_)
    obtain ⟨hP1, hK1, hD1⟩ := hB
    rw [ht] at hP1
    replace hD1 := hD1.weaken (fun _ _ _ h => hf2 _ h)
    generalize H1 = H at hP1 hS ⊢
    obtain rfl := (show v4 = (zk, zn, zi, zt, zs, zr, zd, zy, zm, zc, zv, (yShift ze 10), (zo + 1)) from hw5)
    have hP : va_P D vwCl (yW G (zk, zn, zi, zt, zs, zr, zd, zy, zm, zc, zv, (yShift ze 10), (zo + 1))) H := hP1
    have hD : va_D A (yW G (zk, zn, zi, zt, zs, zr, zd, zy, zm, zc, zv, (yShift ze 10), (zo + 1))) := hD1
    refine lv_aload_n hx hb dY_closings_32 rfl (lv_at hl 3 rfl) ?_
    refine lv_bipush (v := 11) hx hb dY_closings_33 (by decide) ?_
    have hf7 := xFree hD hS hA
    refine va_callv (va_runV (As := [.int 11]) (rest := []) ⟨hx, hb, hml, hown, hts⟩ (j_note l D G (zk, zn, zi, zt, zs, zr, zd, zy, zm, zc, zv, (yShift ze 10), (zo + 1))  H.size 11) (cwV 1 hts (yV ylY_56 ym_note ys_note yc_note) rfl rfl rfl (by decide +kernel) ⟨Nat.le_of_ble_eq_true rfl, Nat.le_of_ble_eq_true rfl⟩) (yPre hK hP hD _) rfl rfl hl.1 rfl (lv_room (Nat.le_of_ble_eq_true rfl)) dY_closings_35 ⟨Nat.le_of_ble_eq_true rfl, Nat.le_of_ble_eq_true rfl⟩) hS (fun q _ h => hf7 q h) hf7 (fun v9 t11 H1 locs ht hvm hw10 hB hz1 hk1 hS => ?_)
    obtain ⟨hP1, hK1, hD1⟩ := hB
    rw [ht] at hP1
    replace hD1 := hD1.weaken (fun _ _ _ h => hf7 _ h)
    generalize H1 = H at hP1 hS ⊢
    obtain rfl := (show v9 = (zk, zn, zi, zt, zs, zr, zd, zy, zm, zc, zv, (yShift (yShift ze 10) 11), ((zo + 1) + 1)) from hw10)
    have hP : va_P D vwCl (yW G (zk, zn, zi, zt, zs, zr, zd, zy, zm, zc, zv, (yShift (yShift ze 10) 11), ((zo + 1) + 1))) H := hP1
    have hD : va_D A (yW G (zk, zn, zi, zt, zs, zr, zd, zy, zm, zc, zv, (yShift (yShift ze 10) 11), ((zo + 1) + 1))) := hD1
    refine lv_iload_n hx hb dY_closings_38 rfl (lv_at hl 2 rfl) ?_
    refine lv_if_eq (tgt := 89) hx hb dY_closings_39 (by decide) (fun _ => ?_) (fun cz => absurd cz (by decide))
    refine lv_aload_n hx hb dY_closings_89 rfl (lv_at hl 3 rfl) ?_
    refine lv_bipush (v := 20) hx hb dY_closings_90 (by decide) ?_
    have hf12 := xFree hD hS hA
    refine va_callv (va_runV (As := [.int 20]) (rest := []) ⟨hx, hb, hml, hown, hts⟩ (j_note l D G (zk, zn, zi, zt, zs, zr, zd, zy, zm, zc, zv, (yShift (yShift ze 10) 11), ((zo + 1) + 1))  H.size 20) (cwV 1 hts (yV ylY_56 ym_note ys_note yc_note) rfl rfl rfl (by decide +kernel) ⟨Nat.le_of_ble_eq_true rfl, Nat.le_of_ble_eq_true rfl⟩) (yPre hK hP hD _) rfl rfl hl.1 rfl (lv_room (Nat.le_of_ble_eq_true rfl)) dY_closings_92 ⟨Nat.le_of_ble_eq_true rfl, Nat.le_of_ble_eq_true rfl⟩) hS (fun q _ h => hf12 q h) hf12 (fun v14 t16 H1 locs ht hvm hw15 hB hz1 hk1 hS => ?_)
    obtain ⟨hP1, hK1, hD1⟩ := hB
    rw [ht] at hP1
    replace hD1 := hD1.weaken (fun _ _ _ h => hf12 _ h)
    generalize H1 = H at hP1 hS ⊢
    obtain rfl := (show v14 = (zk, zn, zi, zt, zs, zr, zd, zy, zm, zc, zv, (yShift (yShift (yShift ze 10) 11) 20), (((zo + 1) + 1) + 1)) from hw15)
    have hP : va_P D vwCl (yW G (zk, zn, zi, zt, zs, zr, zd, zy, zm, zc, zv, (yShift (yShift (yShift ze 10) 11) 20), (((zo + 1) + 1) + 1))) H := hP1
    have hD : va_D A (yW G (zk, zn, zi, zt, zs, zr, zd, zy, zm, zc, zv, (yShift (yShift (yShift ze 10) 11) 20), (((zo + 1) + 1) + 1))) := hD1
    refine lv_iload_n hx hb dY_closings_95 rfl (lv_at hl 5 rfl) ?_
    refine lv_iconst (v := 2) hx hb dY_closings_96 (by decide) ?_
    refine lv_iand hx hb dY_closings_97 ?_
    refine lv_if_eq (tgt := 112) hx hb dY_closings_98 (by decide) (fun c17 => ?_) (fun c17 => ?_)
    · refine lv_iload_n hx hb dY_closings_112 rfl (lv_at hl 5 rfl) ?_
      refine lv_iconst (v := 2) hx hb dY_closings_113 (by decide) ?_
      refine lv_iand hx hb dY_closings_114 ?_
      refine lv_if_eq (tgt := 121) hx hb dY_closings_115 (by decide) (fun _ => ?_) (fun cz => absurd c17 cz)
      refine lv_bipush (v := 100) hx hb dY_closings_121 (by decide) ?_
      refine lv_iload hx hb dY_closings_123 (lv_at hl 1 rfl) ?_
      refine lv_imul hx hb dY_closings_125 ?_
      refine lv_iload hx hb dY_closings_126 (lv_at hl 0 rfl) ?_
      refine lv_iadd hx hb dY_closings_128 ?_
      exact W.iret (v := 100) hx hb hr (fun tE ht hW => ⟨⟨100, (zk, zn, zi, zt, zs, zr, zd, zy, zm, zc, zv, (yShift (yShift (yShift ze 10) 11) 20), (((zo + 1) + 1) + 1)), rfl, by first | (simp only [zClose, zMid, zEnd, zN, zE, yk, yn, yi, yt, ys, yr, yd, yy, ym, yc, yv, ye, yo, c1, eq_true c17, eq_self, ↓reduceIte, Bool.false_eq_true, Bool.not_false, Bool.not_true, Bool.and_true, Bool.and_false, Bool.true_and, Bool.false_and, decide_true, decide_false] <;> first | done | decide) | (simp only [zClose, zMid, zEnd, zN, zE, yk, yn, yi, yt, ys, yr, yd, yy, ym, yc, yv, ye, yo, c1, c17, eq_self, ↓reduceIte, Bool.false_eq_true, Bool.not_false, Bool.not_true, Bool.and_true, Bool.and_false, Bool.true_and, Bool.false_and, decide_true, decide_false] <;> first | done | decide) | (simp [zClose, zMid, zEnd, zN, zE, yk, yn, yi, yt, ys, yr, yd, yy, ym, yc, yv, ye, yo, c1, c17]; done) | (simp [zClose, zMid, zEnd, zN, zE, yk, yn, yi, yt, ys, yr, yd, yy, ym, yc, yv, ye, yo, c1, eq_true c17]; done), by rw [ht]; exact hP, va_K.moved hW.alike hK, hD⟩, hS.F ht⟩) hS.2.2 dY_closings_129
    · refine lv_iload hx hb dY_closings_101 (lv_at hl 1 rfl) ?_
      refine lv_if_le (tgt := 112) hx hb dY_closings_103 (by decide) (fun cz => absurd cz (by decide)) (fun _ => ?_)
      refine lv_iinc (v := 1) (lv' := [(5, .int 1), (4, .int 1), (3, .int 0), (0, .ref G.1), (1, .int p0), (2, .int p1)]) hx hb dY_closings_106 hl (k := 0) rfl (by decide) (by decide) rfl (fun ls hl => ?_)
      refine lv_goto (tgt := 121) hx hb dY_closings_109 (by decide) ?_
      refine lv_bipush (v := 100) hx hb dY_closings_121 (by decide) ?_
      refine lv_iload hx hb dY_closings_123 (lv_at hl 1 rfl) ?_
      refine lv_imul hx hb dY_closings_125 ?_
      refine lv_iload hx hb dY_closings_126 (lv_at hl 0 rfl) ?_
      refine lv_iadd hx hb dY_closings_128 ?_
      exact W.iret (v := 101) hx hb hr (fun tE ht hW => ⟨⟨101, (zk, zn, zi, zt, zs, zr, zd, zy, zm, zc, zv, (yShift (yShift (yShift ze 10) 11) 20), (((zo + 1) + 1) + 1)), rfl, by first | (simp only [zClose, zMid, zEnd, zN, zE, yk, yn, yi, yt, ys, yr, yd, yy, ym, yc, yv, ye, yo, c1, c17, eq_self, ↓reduceIte, Bool.false_eq_true, Bool.not_false, Bool.not_true, Bool.and_true, Bool.and_false, Bool.true_and, Bool.false_and, decide_true, decide_false] <;> first | done | decide) | (simp [zClose, zMid, zEnd, zN, zE, yk, yn, yi, yt, ys, yr, yd, yy, ym, yc, yv, ye, yo, c1, c17]; done), by rw [ht]; exact hP, va_K.moved hW.alike hK, hD⟩, hS.F ht⟩) hS.2.2 dY_closings_129
  · refine lv_iconst (v := 1) hx hb dY_closings_6 (by decide) ?_
    refine lv_goto (tgt := 11) hx hb dY_closings_7 (by decide) ?_
    refine lv_istore_n (lv' := [(3, .int 1), (0, .ref G.1), (1, .int p0), (2, .int p1)]) hx hb dY_closings_11 rfl hl (by decide) rfl (fun ls hl => ?_)
    refine lv_iload_n hx hb dY_closings_12 rfl (lv_at hl 0 rfl) ?_
    refine lv_if_eq (tgt := 20) hx hb dY_closings_13 (by decide) (fun cz => absurd cz (by decide)) (fun _ => ?_)
    refine lv_iconst (v := 0) hx hb dY_closings_16 (by decide) ?_
    refine lv_goto (tgt := 21) hx hb dY_closings_17 (by decide) ?_
    refine lv_istore (lv' := [(4, .int 0), (3, .int 1), (0, .ref G.1), (1, .int p0), (2, .int p1)]) hx hb dY_closings_21 hl (by decide) rfl (fun ls hl => ?_)
    refine lv_iconst (v := 0) hx hb dY_closings_23 (by decide) ?_
    refine lv_istore (lv' := [(5, .int 0), (4, .int 0), (3, .int 1), (0, .ref G.1), (1, .int p0), (2, .int p1)]) hx hb dY_closings_24 hl (by decide) rfl (fun ls hl => ?_)
    refine lv_aload_n hx hb dY_closings_26 rfl (lv_at hl 3 rfl) ?_
    refine lv_bipush (v := 10) hx hb dY_closings_27 (by decide) ?_
    have hf18 := xFree hD hS hA
    refine va_callv (va_runV (As := [.int 10]) (rest := []) ⟨hx, hb, hml, hown, hts⟩ (j_note l D G (zk, zn, zi, zt, zs, zr, zd, zy, zm, zc, zv, ze, zo)  H.size 10) (cwV 1 hts (yV ylY_56 ym_note ys_note yc_note) rfl rfl rfl (by decide +kernel) ⟨Nat.le_of_ble_eq_true rfl, Nat.le_of_ble_eq_true rfl⟩) (yPre hK hP hD _) rfl rfl hl.1 rfl (lv_room (Nat.le_of_ble_eq_true rfl)) dY_closings_29 ⟨Nat.le_of_ble_eq_true rfl, Nat.le_of_ble_eq_true rfl⟩) hS (fun q _ h => hf18 q h) hf18 (fun v20 t22 H1 locs ht hvm hw21 hB hz1 hk1 hS => ?_)
    obtain ⟨hP1, hK1, hD1⟩ := hB
    rw [ht] at hP1
    replace hD1 := hD1.weaken (fun _ _ _ h => hf18 _ h)
    generalize H1 = H at hP1 hS ⊢
    obtain rfl := (show v20 = (zk, zn, zi, zt, zs, zr, zd, zy, zm, zc, zv, (yShift ze 10), (zo + 1)) from hw21)
    have hP : va_P D vwCl (yW G (zk, zn, zi, zt, zs, zr, zd, zy, zm, zc, zv, (yShift ze 10), (zo + 1))) H := hP1
    have hD : va_D A (yW G (zk, zn, zi, zt, zs, zr, zd, zy, zm, zc, zv, (yShift ze 10), (zo + 1))) := hD1
    refine lv_aload_n hx hb dY_closings_32 rfl (lv_at hl 3 rfl) ?_
    refine lv_bipush (v := 11) hx hb dY_closings_33 (by decide) ?_
    have hf23 := xFree hD hS hA
    refine va_callv (va_runV (As := [.int 11]) (rest := []) ⟨hx, hb, hml, hown, hts⟩ (j_note l D G (zk, zn, zi, zt, zs, zr, zd, zy, zm, zc, zv, (yShift ze 10), (zo + 1))  H.size 11) (cwV 1 hts (yV ylY_56 ym_note ys_note yc_note) rfl rfl rfl (by decide +kernel) ⟨Nat.le_of_ble_eq_true rfl, Nat.le_of_ble_eq_true rfl⟩) (yPre hK hP hD _) rfl rfl hl.1 rfl (lv_room (Nat.le_of_ble_eq_true rfl)) dY_closings_35 ⟨Nat.le_of_ble_eq_true rfl, Nat.le_of_ble_eq_true rfl⟩) hS (fun q _ h => hf23 q h) hf23 (fun v25 t27 H1 locs ht hvm hw26 hB hz1 hk1 hS => ?_)
    obtain ⟨hP1, hK1, hD1⟩ := hB
    rw [ht] at hP1
    replace hD1 := hD1.weaken (fun _ _ _ h => hf23 _ h)
    generalize H1 = H at hP1 hS ⊢
    obtain rfl := (show v25 = (zk, zn, zi, zt, zs, zr, zd, zy, zm, zc, zv, (yShift (yShift ze 10) 11), ((zo + 1) + 1)) from hw26)
    have hP : va_P D vwCl (yW G (zk, zn, zi, zt, zs, zr, zd, zy, zm, zc, zv, (yShift (yShift ze 10) 11), ((zo + 1) + 1))) H := hP1
    have hD : va_D A (yW G (zk, zn, zi, zt, zs, zr, zd, zy, zm, zc, zv, (yShift (yShift ze 10) 11), ((zo + 1) + 1))) := hD1
    refine lv_iload_n hx hb dY_closings_38 rfl (lv_at hl 2 rfl) ?_
    refine lv_if_eq (tgt := 89) hx hb dY_closings_39 (by decide) (fun cz => absurd cz (by decide)) (fun _ => ?_)
    refine lv_aload_n hx hb dY_closings_42 rfl (lv_at hl 3 rfl) ?_
    refine lv_bipush (v := 12) hx hb dY_closings_43 (by decide) ?_
    have hf28 := xFree hD hS hA
    refine va_callv (va_runV (As := [.int 12]) (rest := []) ⟨hx, hb, hml, hown, hts⟩ (j_note l D G (zk, zn, zi, zt, zs, zr, zd, zy, zm, zc, zv, (yShift (yShift ze 10) 11), ((zo + 1) + 1))  H.size 12) (cwV 1 hts (yV ylY_56 ym_note ys_note yc_note) rfl rfl rfl (by decide +kernel) ⟨Nat.le_of_ble_eq_true rfl, Nat.le_of_ble_eq_true rfl⟩) (yPre hK hP hD _) rfl rfl hl.1 rfl (lv_room (Nat.le_of_ble_eq_true rfl)) dY_closings_45 ⟨Nat.le_of_ble_eq_true rfl, Nat.le_of_ble_eq_true rfl⟩) hS (fun q _ h => hf28 q h) hf28 (fun v30 t32 H1 locs ht hvm hw31 hB hz1 hk1 hS => ?_)
    obtain ⟨hP1, hK1, hD1⟩ := hB
    rw [ht] at hP1
    replace hD1 := hD1.weaken (fun _ _ _ h => hf28 _ h)
    generalize H1 = H at hP1 hS ⊢
    obtain rfl := (show v30 = (zk, zn, zi, zt, zs, zr, zd, zy, zm, zc, zv, (yShift (yShift (yShift ze 10) 11) 12), (((zo + 1) + 1) + 1)) from hw31)
    have hP : va_P D vwCl (yW G (zk, zn, zi, zt, zs, zr, zd, zy, zm, zc, zv, (yShift (yShift (yShift ze 10) 11) 12), (((zo + 1) + 1) + 1))) H := hP1
    have hD : va_D A (yW G (zk, zn, zi, zt, zs, zr, zd, zy, zm, zc, zv, (yShift (yShift (yShift ze 10) 11) 12), (((zo + 1) + 1) + 1))) := hD1
    refine lv_iload_n hx hb dY_closings_48 rfl (lv_at hl 4 rfl) ?_
    refine lv_iconst (v := 2) hx hb dY_closings_49 (by decide) ?_
    refine lv_iand hx hb dY_closings_50 ?_
    refine lv_if_eq (tgt := 57) hx hb dY_closings_51 (by decide) (fun c33 => ?_) (fun c33 => ?_)
    · refine lv_aload_n hx hb dY_closings_57 rfl (lv_at hl 3 rfl) ?_
      refine lv_bipush (v := 21) hx hb dY_closings_58 (by decide) ?_
      have hf34 := xFree hD hS hA
      refine va_callv (va_runV (As := [.int 21]) (rest := []) ⟨hx, hb, hml, hown, hts⟩ (j_note l D G (zk, zn, zi, zt, zs, zr, zd, zy, zm, zc, zv, (yShift (yShift (yShift ze 10) 11) 12), (((zo + 1) + 1) + 1))  H.size 21) (cwV 1 hts (yV ylY_56 ym_note ys_note yc_note) rfl rfl rfl (by decide +kernel) ⟨Nat.le_of_ble_eq_true rfl, Nat.le_of_ble_eq_true rfl⟩) (yPre hK hP hD _) rfl rfl hl.1 rfl (lv_room (Nat.le_of_ble_eq_true rfl)) dY_closings_60 ⟨Nat.le_of_ble_eq_true rfl, Nat.le_of_ble_eq_true rfl⟩) hS (fun q _ h => hf34 q h) hf34 (fun v36 t38 H1 locs ht hvm hw37 hB hz1 hk1 hS => ?_)
      obtain ⟨hP1, hK1, hD1⟩ := hB
      rw [ht] at hP1
      replace hD1 := hD1.weaken (fun _ _ _ h => hf34 _ h)
      generalize H1 = H at hP1 hS ⊢
      obtain rfl := (show v36 = (zk, zn, zi, zt, zs, zr, zd, zy, zm, zc, zv, (yShift (yShift (yShift (yShift ze 10) 11) 12) 21), ((((zo + 1) + 1) + 1) + 1)) from hw37)
      have hP : va_P D vwCl (yW G (zk, zn, zi, zt, zs, zr, zd, zy, zm, zc, zv, (yShift (yShift (yShift (yShift ze 10) 11) 12) 21), ((((zo + 1) + 1) + 1) + 1))) H := hP1
      have hD : va_D A (yW G (zk, zn, zi, zt, zs, zr, zd, zy, zm, zc, zv, (yShift (yShift (yShift (yShift ze 10) 11) 12) 21), ((((zo + 1) + 1) + 1) + 1))) := hD1
      refine lv_iload_n hx hb dY_closings_63 rfl (lv_at hl 5 rfl) ?_
      refine lv_iconst (v := 1) hx hb dY_closings_64 (by decide) ?_
      refine lv_iand hx hb dY_closings_65 ?_
      refine lv_if_eq (tgt := 80) hx hb dY_closings_66 (by decide) (fun c39 => ?_) (fun c39 => ?_)
      · refine lv_iload_n hx hb dY_closings_80 rfl (lv_at hl 5 rfl) ?_
        refine lv_iconst (v := 1) hx hb dY_closings_81 (by decide) ?_
        refine lv_iand hx hb dY_closings_82 ?_
        refine lv_if_eq (tgt := 89) hx hb dY_closings_83 (by decide) (fun _ => ?_) (fun cz => absurd c39 cz)
        refine lv_aload_n hx hb dY_closings_89 rfl (lv_at hl 3 rfl) ?_
        refine lv_bipush (v := 20) hx hb dY_closings_90 (by decide) ?_
        have hf40 := xFree hD hS hA
        refine va_callv (va_runV (As := [.int 20]) (rest := []) ⟨hx, hb, hml, hown, hts⟩ (j_note l D G (zk, zn, zi, zt, zs, zr, zd, zy, zm, zc, zv, (yShift (yShift (yShift (yShift ze 10) 11) 12) 21), ((((zo + 1) + 1) + 1) + 1))  H.size 20) (cwV 1 hts (yV ylY_56 ym_note ys_note yc_note) rfl rfl rfl (by decide +kernel) ⟨Nat.le_of_ble_eq_true rfl, Nat.le_of_ble_eq_true rfl⟩) (yPre hK hP hD _) rfl rfl hl.1 rfl (lv_room (Nat.le_of_ble_eq_true rfl)) dY_closings_92 ⟨Nat.le_of_ble_eq_true rfl, Nat.le_of_ble_eq_true rfl⟩) hS (fun q _ h => hf40 q h) hf40 (fun v42 t44 H1 locs ht hvm hw43 hB hz1 hk1 hS => ?_)
        obtain ⟨hP1, hK1, hD1⟩ := hB
        rw [ht] at hP1
        replace hD1 := hD1.weaken (fun _ _ _ h => hf40 _ h)
        generalize H1 = H at hP1 hS ⊢
        obtain rfl := (show v42 = (zk, zn, zi, zt, zs, zr, zd, zy, zm, zc, zv, (yShift (yShift (yShift (yShift (yShift ze 10) 11) 12) 21) 20), (((((zo + 1) + 1) + 1) + 1) + 1)) from hw43)
        have hP : va_P D vwCl (yW G (zk, zn, zi, zt, zs, zr, zd, zy, zm, zc, zv, (yShift (yShift (yShift (yShift (yShift ze 10) 11) 12) 21) 20), (((((zo + 1) + 1) + 1) + 1) + 1))) H := hP1
        have hD : va_D A (yW G (zk, zn, zi, zt, zs, zr, zd, zy, zm, zc, zv, (yShift (yShift (yShift (yShift (yShift ze 10) 11) 12) 21) 20), (((((zo + 1) + 1) + 1) + 1) + 1))) := hD1
        refine lv_iload_n hx hb dY_closings_95 rfl (lv_at hl 5 rfl) ?_
        refine lv_iconst (v := 2) hx hb dY_closings_96 (by decide) ?_
        refine lv_iand hx hb dY_closings_97 ?_
        refine lv_if_eq (tgt := 112) hx hb dY_closings_98 (by decide) (fun c45 => ?_) (fun c45 => ?_)
        · refine lv_iload_n hx hb dY_closings_112 rfl (lv_at hl 5 rfl) ?_
          refine lv_iconst (v := 2) hx hb dY_closings_113 (by decide) ?_
          refine lv_iand hx hb dY_closings_114 ?_
          refine lv_if_eq (tgt := 121) hx hb dY_closings_115 (by decide) (fun _ => ?_) (fun cz => absurd c45 cz)
          refine lv_bipush (v := 100) hx hb dY_closings_121 (by decide) ?_
          refine lv_iload hx hb dY_closings_123 (lv_at hl 1 rfl) ?_
          refine lv_imul hx hb dY_closings_125 ?_
          refine lv_iload hx hb dY_closings_126 (lv_at hl 0 rfl) ?_
          refine lv_iadd hx hb dY_closings_128 ?_
          exact W.iret (v := 0) hx hb hr (fun tE ht hW => ⟨⟨0, (zk, zn, zi, zt, zs, zr, zd, zy, zm, zc, zv, (yShift (yShift (yShift (yShift (yShift ze 10) 11) 12) 21) 20), (((((zo + 1) + 1) + 1) + 1) + 1)), rfl, by first | (simp only [zClose, zMid, zEnd, zN, zE, yk, yn, yi, yt, ys, yr, yd, yy, ym, yc, yv, ye, yo, eq_true c1, eq_true c33, eq_true c39, eq_true c45, eq_self, ↓reduceIte, Bool.false_eq_true, Bool.not_false, Bool.not_true, Bool.and_true, Bool.and_false, Bool.true_and, Bool.false_and, decide_true, decide_false] <;> first | done | decide) | (simp only [zClose, zMid, zEnd, zN, zE, yk, yn, yi, yt, ys, yr, yd, yy, ym, yc, yv, ye, yo, c1, c33, c39, c45, eq_self, ↓reduceIte, Bool.false_eq_true, Bool.not_false, Bool.not_true, Bool.and_true, Bool.and_false, Bool.true_and, Bool.false_and, decide_true, decide_false] <;> first | done | decide) | (simp [zClose, zMid, zEnd, zN, zE, yk, yn, yi, yt, ys, yr, yd, yy, ym, yc, yv, ye, yo, c1, c33, c39, c45]; done) | (simp [zClose, zMid, zEnd, zN, zE, yk, yn, yi, yt, ys, yr, yd, yy, ym, yc, yv, ye, yo, eq_true c1, eq_true c33, eq_true c39, eq_true c45]; done), by rw [ht]; exact hP, va_K.moved hW.alike hK, hD⟩, hS.F ht⟩) hS.2.2 dY_closings_129
        · refine lv_iload hx hb dY_closings_101 (lv_at hl 1 rfl) ?_
          refine lv_if_le (tgt := 112) hx hb dY_closings_103 (by decide) (fun _ => ?_) (fun cz => absurd cz (by decide))
          refine lv_iload_n hx hb dY_closings_112 rfl (lv_at hl 5 rfl) ?_
          refine lv_iconst (v := 2) hx hb dY_closings_113 (by decide) ?_
          refine lv_iand hx hb dY_closings_114 ?_
          refine lv_if_eq (tgt := 121) hx hb dY_closings_115 (by decide) (fun cz => absurd cz c45) (fun _ => ?_)
          refine lv_iconst (v := 4) hx hb dY_closings_118 (by decide) ?_
          refine lv_istore (lv' := [(4, .int 4), (5, .int 0), (3, .int 1), (0, .ref G.1), (1, .int p0), (2, .int p1)]) hx hb dY_closings_119 hl (by decide) rfl (fun ls hl => ?_)
          refine lv_bipush (v := 100) hx hb dY_closings_121 (by decide) ?_
          refine lv_iload hx hb dY_closings_123 (lv_at hl 0 rfl) ?_
          refine lv_imul hx hb dY_closings_125 ?_
          refine lv_iload hx hb dY_closings_126 (lv_at hl 1 rfl) ?_
          refine lv_iadd hx hb dY_closings_128 ?_
          exact W.iret (v := 400) hx hb hr (fun tE ht hW => ⟨⟨400, (zk, zn, zi, zt, zs, zr, zd, zy, zm, zc, zv, (yShift (yShift (yShift (yShift (yShift ze 10) 11) 12) 21) 20), (((((zo + 1) + 1) + 1) + 1) + 1)), rfl, by first | (simp only [zClose, zMid, zEnd, zN, zE, yk, yn, yi, yt, ys, yr, yd, yy, ym, yc, yv, ye, yo, eq_true c1, eq_true c33, eq_true c39, c45, eq_self, ↓reduceIte, Bool.false_eq_true, Bool.not_false, Bool.not_true, Bool.and_true, Bool.and_false, Bool.true_and, Bool.false_and, decide_true, decide_false] <;> first | done | decide) | (simp only [zClose, zMid, zEnd, zN, zE, yk, yn, yi, yt, ys, yr, yd, yy, ym, yc, yv, ye, yo, c1, c33, c39, c45, eq_self, ↓reduceIte, Bool.false_eq_true, Bool.not_false, Bool.not_true, Bool.and_true, Bool.and_false, Bool.true_and, Bool.false_and, decide_true, decide_false] <;> first | done | decide) | (simp [zClose, zMid, zEnd, zN, zE, yk, yn, yi, yt, ys, yr, yd, yy, ym, yc, yv, ye, yo, c1, c33, c39, c45]; done) | (simp [zClose, zMid, zEnd, zN, zE, yk, yn, yi, yt, ys, yr, yd, yy, ym, yc, yv, ye, yo, eq_true c1, eq_true c33, eq_true c39, c45]; done), by rw [ht]; exact hP, va_K.moved hW.alike hK, hD⟩, hS.F ht⟩) hS.2.2 dY_closings_129
      · refine lv_iload hx hb dY_closings_69 (lv_at hl 1 rfl) ?_
        refine lv_if_le (tgt := 80) hx hb dY_closings_71 (by decide) (fun _ => ?_) (fun cz => absurd cz (by decide))
        refine lv_iload_n hx hb dY_closings_80 rfl (lv_at hl 5 rfl) ?_
        refine lv_iconst (v := 1) hx hb dY_closings_81 (by decide) ?_
        refine lv_iand hx hb dY_closings_82 ?_
        refine lv_if_eq (tgt := 89) hx hb dY_closings_83 (by decide) (fun cz => absurd cz c39) (fun _ => ?_)
        refine lv_iconst (v := 3) hx hb dY_closings_86 (by decide) ?_
        refine lv_istore (lv' := [(4, .int 3), (5, .int 0), (3, .int 1), (0, .ref G.1), (1, .int p0), (2, .int p1)]) hx hb dY_closings_87 hl (by decide) rfl (fun ls hl => ?_)
        refine lv_aload_n hx hb dY_closings_89 rfl (lv_at hl 3 rfl) ?_
        refine lv_bipush (v := 20) hx hb dY_closings_90 (by decide) ?_
        have hf46 := xFree hD hS hA
        refine va_callv (va_runV (As := [.int 20]) (rest := []) ⟨hx, hb, hml, hown, hts⟩ (j_note l D G (zk, zn, zi, zt, zs, zr, zd, zy, zm, zc, zv, (yShift (yShift (yShift (yShift ze 10) 11) 12) 21), ((((zo + 1) + 1) + 1) + 1))  H.size 20) (cwV 1 hts (yV ylY_56 ym_note ys_note yc_note) rfl rfl rfl (by decide +kernel) ⟨Nat.le_of_ble_eq_true rfl, Nat.le_of_ble_eq_true rfl⟩) (yPre hK hP hD _) rfl rfl hl.1 rfl (lv_room (Nat.le_of_ble_eq_true rfl)) dY_closings_92 ⟨Nat.le_of_ble_eq_true rfl, Nat.le_of_ble_eq_true rfl⟩) hS (fun q _ h => hf46 q h) hf46 (fun v48 t50 H1 locs ht hvm hw49 hB hz1 hk1 hS => ?_)
        obtain ⟨hP1, hK1, hD1⟩ := hB
        rw [ht] at hP1
        replace hD1 := hD1.weaken (fun _ _ _ h => hf46 _ h)
        generalize H1 = H at hP1 hS ⊢
        obtain rfl := (show v48 = (zk, zn, zi, zt, zs, zr, zd, zy, zm, zc, zv, (yShift (yShift (yShift (yShift (yShift ze 10) 11) 12) 21) 20), (((((zo + 1) + 1) + 1) + 1) + 1)) from hw49)
        have hP : va_P D vwCl (yW G (zk, zn, zi, zt, zs, zr, zd, zy, zm, zc, zv, (yShift (yShift (yShift (yShift (yShift ze 10) 11) 12) 21) 20), (((((zo + 1) + 1) + 1) + 1) + 1))) H := hP1
        have hD : va_D A (yW G (zk, zn, zi, zt, zs, zr, zd, zy, zm, zc, zv, (yShift (yShift (yShift (yShift (yShift ze 10) 11) 12) 21) 20), (((((zo + 1) + 1) + 1) + 1) + 1))) := hD1
        refine lv_iload_n hx hb dY_closings_95 rfl (lv_at hl 5 rfl) ?_
        refine lv_iconst (v := 2) hx hb dY_closings_96 (by decide) ?_
        refine lv_iand hx hb dY_closings_97 ?_
        refine lv_if_eq (tgt := 112) hx hb dY_closings_98 (by decide) (fun c51 => ?_) (fun c51 => ?_)
        · refine lv_iload_n hx hb dY_closings_112 rfl (lv_at hl 5 rfl) ?_
          refine lv_iconst (v := 2) hx hb dY_closings_113 (by decide) ?_
          refine lv_iand hx hb dY_closings_114 ?_
          refine lv_if_eq (tgt := 121) hx hb dY_closings_115 (by decide) (fun _ => ?_) (fun cz => absurd c51 cz)
          refine lv_bipush (v := 100) hx hb dY_closings_121 (by decide) ?_
          refine lv_iload hx hb dY_closings_123 (lv_at hl 0 rfl) ?_
          refine lv_imul hx hb dY_closings_125 ?_
          refine lv_iload hx hb dY_closings_126 (lv_at hl 1 rfl) ?_
          refine lv_iadd hx hb dY_closings_128 ?_
          exact W.iret (v := 300) hx hb hr (fun tE ht hW => ⟨⟨300, (zk, zn, zi, zt, zs, zr, zd, zy, zm, zc, zv, (yShift (yShift (yShift (yShift (yShift ze 10) 11) 12) 21) 20), (((((zo + 1) + 1) + 1) + 1) + 1)), rfl, by first | (simp only [zClose, zMid, zEnd, zN, zE, yk, yn, yi, yt, ys, yr, yd, yy, ym, yc, yv, ye, yo, eq_true c1, eq_true c33, c39, eq_true c51, eq_self, ↓reduceIte, Bool.false_eq_true, Bool.not_false, Bool.not_true, Bool.and_true, Bool.and_false, Bool.true_and, Bool.false_and, decide_true, decide_false] <;> first | done | decide) | (simp only [zClose, zMid, zEnd, zN, zE, yk, yn, yi, yt, ys, yr, yd, yy, ym, yc, yv, ye, yo, c1, c33, c39, c51, eq_self, ↓reduceIte, Bool.false_eq_true, Bool.not_false, Bool.not_true, Bool.and_true, Bool.and_false, Bool.true_and, Bool.false_and, decide_true, decide_false] <;> first | done | decide) | (simp [zClose, zMid, zEnd, zN, zE, yk, yn, yi, yt, ys, yr, yd, yy, ym, yc, yv, ye, yo, c1, c33, c39, c51]; done) | (simp [zClose, zMid, zEnd, zN, zE, yk, yn, yi, yt, ys, yr, yd, yy, ym, yc, yv, ye, yo, eq_true c1, eq_true c33, c39, eq_true c51]; done), by rw [ht]; exact hP, va_K.moved hW.alike hK, hD⟩, hS.F ht⟩) hS.2.2 dY_closings_129
        · refine lv_iload hx hb dY_closings_101 (lv_at hl 0 rfl) ?_
          refine lv_if_le (tgt := 112) hx hb dY_closings_103 (by decide) (fun cz => absurd cz (by decide)) (fun _ => ?_)
          refine lv_iinc (v := 1) (lv' := [(5, .int 1), (4, .int 3), (3, .int 1), (0, .ref G.1), (1, .int p0), (2, .int p1)]) hx hb dY_closings_106 hl (k := 1) rfl (by decide) (by decide) rfl (fun ls hl => ?_)
          refine lv_goto (tgt := 121) hx hb dY_closings_109 (by decide) ?_
          refine lv_bipush (v := 100) hx hb dY_closings_121 (by decide) ?_
          refine lv_iload hx hb dY_closings_123 (lv_at hl 1 rfl) ?_
          refine lv_imul hx hb dY_closings_125 ?_
          refine lv_iload hx hb dY_closings_126 (lv_at hl 0 rfl) ?_
          refine lv_iadd hx hb dY_closings_128 ?_
          exact W.iret (v := 301) hx hb hr (fun tE ht hW => ⟨⟨301, (zk, zn, zi, zt, zs, zr, zd, zy, zm, zc, zv, (yShift (yShift (yShift (yShift (yShift ze 10) 11) 12) 21) 20), (((((zo + 1) + 1) + 1) + 1) + 1)), rfl, by first | (simp only [zClose, zMid, zEnd, zN, zE, yk, yn, yi, yt, ys, yr, yd, yy, ym, yc, yv, ye, yo, eq_true c1, eq_true c33, c39, c51, eq_self, ↓reduceIte, Bool.false_eq_true, Bool.not_false, Bool.not_true, Bool.and_true, Bool.and_false, Bool.true_and, Bool.false_and, decide_true, decide_false] <;> first | done | decide) | (simp only [zClose, zMid, zEnd, zN, zE, yk, yn, yi, yt, ys, yr, yd, yy, ym, yc, yv, ye, yo, c1, c33, c39, c51, eq_self, ↓reduceIte, Bool.false_eq_true, Bool.not_false, Bool.not_true, Bool.and_true, Bool.and_false, Bool.true_and, Bool.false_and, decide_true, decide_false] <;> first | done | decide) | (simp [zClose, zMid, zEnd, zN, zE, yk, yn, yi, yt, ys, yr, yd, yy, ym, yc, yv, ye, yo, c1, c33, c39, c51]; done) | (simp [zClose, zMid, zEnd, zN, zE, yk, yn, yi, yt, ys, yr, yd, yy, ym, yc, yv, ye, yo, eq_true c1, eq_true c33, c39, c51]; done), by rw [ht]; exact hP, va_K.moved hW.alike hK, hD⟩, hS.F ht⟩) hS.2.2 dY_closings_129
    · refine lv_iconst (v := 2) hx hb dY_closings_54 (by decide) ?_
      refine lv_istore (lv' := [(4, .int 2), (5, .int 0), (3, .int 1), (0, .ref G.1), (1, .int p0), (2, .int p1)]) hx hb dY_closings_55 hl (by decide) rfl (fun ls hl => ?_)
      refine lv_aload_n hx hb dY_closings_57 rfl (lv_at hl 3 rfl) ?_
      refine lv_bipush (v := 21) hx hb dY_closings_58 (by decide) ?_
      have hf52 := xFree hD hS hA
      refine va_callv (va_runV (As := [.int 21]) (rest := []) ⟨hx, hb, hml, hown, hts⟩ (j_note l D G (zk, zn, zi, zt, zs, zr, zd, zy, zm, zc, zv, (yShift (yShift (yShift ze 10) 11) 12), (((zo + 1) + 1) + 1))  H.size 21) (cwV 1 hts (yV ylY_56 ym_note ys_note yc_note) rfl rfl rfl (by decide +kernel) ⟨Nat.le_of_ble_eq_true rfl, Nat.le_of_ble_eq_true rfl⟩) (yPre hK hP hD _) rfl rfl hl.1 rfl (lv_room (Nat.le_of_ble_eq_true rfl)) dY_closings_60 ⟨Nat.le_of_ble_eq_true rfl, Nat.le_of_ble_eq_true rfl⟩) hS (fun q _ h => hf52 q h) hf52 (fun v54 t56 H1 locs ht hvm hw55 hB hz1 hk1 hS => ?_)
      obtain ⟨hP1, hK1, hD1⟩ := hB
      rw [ht] at hP1
      replace hD1 := hD1.weaken (fun _ _ _ h => hf52 _ h)
      generalize H1 = H at hP1 hS ⊢
      obtain rfl := (show v54 = (zk, zn, zi, zt, zs, zr, zd, zy, zm, zc, zv, (yShift (yShift (yShift (yShift ze 10) 11) 12) 21), ((((zo + 1) + 1) + 1) + 1)) from hw55)
      have hP : va_P D vwCl (yW G (zk, zn, zi, zt, zs, zr, zd, zy, zm, zc, zv, (yShift (yShift (yShift (yShift ze 10) 11) 12) 21), ((((zo + 1) + 1) + 1) + 1))) H := hP1
      have hD : va_D A (yW G (zk, zn, zi, zt, zs, zr, zd, zy, zm, zc, zv, (yShift (yShift (yShift (yShift ze 10) 11) 12) 21), ((((zo + 1) + 1) + 1) + 1))) := hD1
      refine lv_iload_n hx hb dY_closings_63 rfl (lv_at hl 5 rfl) ?_
      refine lv_iconst (v := 1) hx hb dY_closings_64 (by decide) ?_
      refine lv_iand hx hb dY_closings_65 ?_
      refine lv_if_eq (tgt := 80) hx hb dY_closings_66 (by decide) (fun c57 => ?_) (fun c57 => ?_)
      · refine lv_iload_n hx hb dY_closings_80 rfl (lv_at hl 5 rfl) ?_
        refine lv_iconst (v := 1) hx hb dY_closings_81 (by decide) ?_
        refine lv_iand hx hb dY_closings_82 ?_
        refine lv_if_eq (tgt := 89) hx hb dY_closings_83 (by decide) (fun _ => ?_) (fun cz => absurd c57 cz)
        refine lv_aload_n hx hb dY_closings_89 rfl (lv_at hl 3 rfl) ?_
        refine lv_bipush (v := 20) hx hb dY_closings_90 (by decide) ?_
        have hf58 := xFree hD hS hA
        refine va_callv (va_runV (As := [.int 20]) (rest := []) ⟨hx, hb, hml, hown, hts⟩ (j_note l D G (zk, zn, zi, zt, zs, zr, zd, zy, zm, zc, zv, (yShift (yShift (yShift (yShift ze 10) 11) 12) 21), ((((zo + 1) + 1) + 1) + 1))  H.size 20) (cwV 1 hts (yV ylY_56 ym_note ys_note yc_note) rfl rfl rfl (by decide +kernel) ⟨Nat.le_of_ble_eq_true rfl, Nat.le_of_ble_eq_true rfl⟩) (yPre hK hP hD _) rfl rfl hl.1 rfl (lv_room (Nat.le_of_ble_eq_true rfl)) dY_closings_92 ⟨Nat.le_of_ble_eq_true rfl, Nat.le_of_ble_eq_true rfl⟩) hS (fun q _ h => hf58 q h) hf58 (fun v60 t62 H1 locs ht hvm hw61 hB hz1 hk1 hS => ?_)
        obtain ⟨hP1, hK1, hD1⟩ := hB
        rw [ht] at hP1
        replace hD1 := hD1.weaken (fun _ _ _ h => hf58 _ h)
        generalize H1 = H at hP1 hS ⊢
        obtain rfl := (show v60 = (zk, zn, zi, zt, zs, zr, zd, zy, zm, zc, zv, (yShift (yShift (yShift (yShift (yShift ze 10) 11) 12) 21) 20), (((((zo + 1) + 1) + 1) + 1) + 1)) from hw61)
        have hP : va_P D vwCl (yW G (zk, zn, zi, zt, zs, zr, zd, zy, zm, zc, zv, (yShift (yShift (yShift (yShift (yShift ze 10) 11) 12) 21) 20), (((((zo + 1) + 1) + 1) + 1) + 1))) H := hP1
        have hD : va_D A (yW G (zk, zn, zi, zt, zs, zr, zd, zy, zm, zc, zv, (yShift (yShift (yShift (yShift (yShift ze 10) 11) 12) 21) 20), (((((zo + 1) + 1) + 1) + 1) + 1))) := hD1
        refine lv_iload_n hx hb dY_closings_95 rfl (lv_at hl 5 rfl) ?_
        refine lv_iconst (v := 2) hx hb dY_closings_96 (by decide) ?_
        refine lv_iand hx hb dY_closings_97 ?_
        refine lv_if_eq (tgt := 112) hx hb dY_closings_98 (by decide) (fun c63 => ?_) (fun c63 => ?_)
        · refine lv_iload_n hx hb dY_closings_112 rfl (lv_at hl 5 rfl) ?_
          refine lv_iconst (v := 2) hx hb dY_closings_113 (by decide) ?_
          refine lv_iand hx hb dY_closings_114 ?_
          refine lv_if_eq (tgt := 121) hx hb dY_closings_115 (by decide) (fun _ => ?_) (fun cz => absurd c63 cz)
          refine lv_bipush (v := 100) hx hb dY_closings_121 (by decide) ?_
          refine lv_iload hx hb dY_closings_123 (lv_at hl 0 rfl) ?_
          refine lv_imul hx hb dY_closings_125 ?_
          refine lv_iload hx hb dY_closings_126 (lv_at hl 1 rfl) ?_
          refine lv_iadd hx hb dY_closings_128 ?_
          exact W.iret (v := 200) hx hb hr (fun tE ht hW => ⟨⟨200, (zk, zn, zi, zt, zs, zr, zd, zy, zm, zc, zv, (yShift (yShift (yShift (yShift (yShift ze 10) 11) 12) 21) 20), (((((zo + 1) + 1) + 1) + 1) + 1)), rfl, by first | (simp only [zClose, zMid, zEnd, zN, zE, yk, yn, yi, yt, ys, yr, yd, yy, ym, yc, yv, ye, yo, eq_true c1, c33, eq_true c57, eq_true c63, eq_self, ↓reduceIte, Bool.false_eq_true, Bool.not_false, Bool.not_true, Bool.and_true, Bool.and_false, Bool.true_and, Bool.false_and, decide_true, decide_false] <;> first | done | decide) | (simp only [zClose, zMid, zEnd, zN, zE, yk, yn, yi, yt, ys, yr, yd, yy, ym, yc, yv, ye, yo, c1, c33, c57, c63, eq_self, ↓reduceIte, Bool.false_eq_true, Bool.not_false, Bool.not_true, Bool.and_true, Bool.and_false, Bool.true_and, Bool.false_and, decide_true, decide_false] <;> first | done | decide) | (simp [zClose, zMid, zEnd, zN, zE, yk, yn, yi, yt, ys, yr, yd, yy, ym, yc, yv, ye, yo, c1, c33, c57, c63]; done) | (simp [zClose, zMid, zEnd, zN, zE, yk, yn, yi, yt, ys, yr, yd, yy, ym, yc, yv, ye, yo, eq_true c1, c33, eq_true c57, eq_true c63]; done), by rw [ht]; exact hP, va_K.moved hW.alike hK, hD⟩, hS.F ht⟩) hS.2.2 dY_closings_129
        · refine lv_iload hx hb dY_closings_101 (lv_at hl 0 rfl) ?_
          refine lv_if_le (tgt := 112) hx hb dY_closings_103 (by decide) (fun cz => absurd cz (by decide)) (fun _ => ?_)
          refine lv_iinc (v := 1) (lv' := [(5, .int 1), (4, .int 2), (3, .int 1), (0, .ref G.1), (1, .int p0), (2, .int p1)]) hx hb dY_closings_106 hl (k := 1) rfl (by decide) (by decide) rfl (fun ls hl => ?_)
          refine lv_goto (tgt := 121) hx hb dY_closings_109 (by decide) ?_
          refine lv_bipush (v := 100) hx hb dY_closings_121 (by decide) ?_
          refine lv_iload hx hb dY_closings_123 (lv_at hl 1 rfl) ?_
          refine lv_imul hx hb dY_closings_125 ?_
          refine lv_iload hx hb dY_closings_126 (lv_at hl 0 rfl) ?_
          refine lv_iadd hx hb dY_closings_128 ?_
          exact W.iret (v := 201) hx hb hr (fun tE ht hW => ⟨⟨201, (zk, zn, zi, zt, zs, zr, zd, zy, zm, zc, zv, (yShift (yShift (yShift (yShift (yShift ze 10) 11) 12) 21) 20), (((((zo + 1) + 1) + 1) + 1) + 1)), rfl, by first | (simp only [zClose, zMid, zEnd, zN, zE, yk, yn, yi, yt, ys, yr, yd, yy, ym, yc, yv, ye, yo, eq_true c1, c33, eq_true c57, c63, eq_self, ↓reduceIte, Bool.false_eq_true, Bool.not_false, Bool.not_true, Bool.and_true, Bool.and_false, Bool.true_and, Bool.false_and, decide_true, decide_false] <;> first | done | decide) | (simp only [zClose, zMid, zEnd, zN, zE, yk, yn, yi, yt, ys, yr, yd, yy, ym, yc, yv, ye, yo, c1, c33, c57, c63, eq_self, ↓reduceIte, Bool.false_eq_true, Bool.not_false, Bool.not_true, Bool.and_true, Bool.and_false, Bool.true_and, Bool.false_and, decide_true, decide_false] <;> first | done | decide) | (simp [zClose, zMid, zEnd, zN, zE, yk, yn, yi, yt, ys, yr, yd, yy, ym, yc, yv, ye, yo, c1, c33, c57, c63]; done) | (simp [zClose, zMid, zEnd, zN, zE, yk, yn, yi, yt, ys, yr, yd, yy, ym, yc, yv, ye, yo, eq_true c1, c33, eq_true c57, c63]; done), by rw [ht]; exact hP, va_K.moved hW.alike hK, hD⟩, hS.F ht⟩) hS.2.2 dY_closings_129
      · refine lv_iload hx hb dY_closings_69 (lv_at hl 0 rfl) ?_
        refine lv_if_le (tgt := 80) hx hb dY_closings_71 (by decide) (fun cz => absurd cz (by decide)) (fun _ => ?_)
        refine lv_iinc (v := 1) (lv' := [(5, .int 1), (4, .int 2), (3, .int 1), (0, .ref G.1), (1, .int p0), (2, .int p1)]) hx hb dY_closings_74 hl (k := 1) rfl (by decide) (by decide) rfl (fun ls hl => ?_)
        refine lv_goto (tgt := 89) hx hb dY_closings_77 (by decide) ?_
        refine lv_aload_n hx hb dY_closings_89 rfl (lv_at hl 3 rfl) ?_
        refine lv_bipush (v := 20) hx hb dY_closings_90 (by decide) ?_
        have hf64 := xFree hD hS hA
        refine va_callv (va_runV (As := [.int 20]) (rest := []) ⟨hx, hb, hml, hown, hts⟩ (j_note l D G (zk, zn, zi, zt, zs, zr, zd, zy, zm, zc, zv, (yShift (yShift (yShift (yShift ze 10) 11) 12) 21), ((((zo + 1) + 1) + 1) + 1))  H.size 20) (cwV 1 hts (yV ylY_56 ym_note ys_note yc_note) rfl rfl rfl (by decide +kernel) ⟨Nat.le_of_ble_eq_true rfl, Nat.le_of_ble_eq_true rfl⟩) (yPre hK hP hD _) rfl rfl hl.1 rfl (lv_room (Nat.le_of_ble_eq_true rfl)) dY_closings_92 ⟨Nat.le_of_ble_eq_true rfl, Nat.le_of_ble_eq_true rfl⟩) hS (fun q _ h => hf64 q h) hf64 (fun v66 t68 H1 locs ht hvm hw67 hB hz1 hk1 hS => ?_)
        obtain ⟨hP1, hK1, hD1⟩ := hB
        rw [ht] at hP1
        replace hD1 := hD1.weaken (fun _ _ _ h => hf64 _ h)
        generalize H1 = H at hP1 hS ⊢
        obtain rfl := (show v66 = (zk, zn, zi, zt, zs, zr, zd, zy, zm, zc, zv, (yShift (yShift (yShift (yShift (yShift ze 10) 11) 12) 21) 20), (((((zo + 1) + 1) + 1) + 1) + 1)) from hw67)
        have hP : va_P D vwCl (yW G (zk, zn, zi, zt, zs, zr, zd, zy, zm, zc, zv, (yShift (yShift (yShift (yShift (yShift ze 10) 11) 12) 21) 20), (((((zo + 1) + 1) + 1) + 1) + 1))) H := hP1
        have hD : va_D A (yW G (zk, zn, zi, zt, zs, zr, zd, zy, zm, zc, zv, (yShift (yShift (yShift (yShift (yShift ze 10) 11) 12) 21) 20), (((((zo + 1) + 1) + 1) + 1) + 1))) := hD1
        refine lv_iload_n hx hb dY_closings_95 rfl (lv_at hl 5 rfl) ?_
        refine lv_iconst (v := 2) hx hb dY_closings_96 (by decide) ?_
        refine lv_iand hx hb dY_closings_97 ?_
        refine lv_if_eq (tgt := 112) hx hb dY_closings_98 (by decide) (fun c69 => ?_) (fun c69 => ?_)
        · refine lv_iload_n hx hb dY_closings_112 rfl (lv_at hl 5 rfl) ?_
          refine lv_iconst (v := 2) hx hb dY_closings_113 (by decide) ?_
          refine lv_iand hx hb dY_closings_114 ?_
          refine lv_if_eq (tgt := 121) hx hb dY_closings_115 (by decide) (fun _ => ?_) (fun cz => absurd c69 cz)
          refine lv_bipush (v := 100) hx hb dY_closings_121 (by decide) ?_
          refine lv_iload hx hb dY_closings_123 (lv_at hl 1 rfl) ?_
          refine lv_imul hx hb dY_closings_125 ?_
          refine lv_iload hx hb dY_closings_126 (lv_at hl 0 rfl) ?_
          refine lv_iadd hx hb dY_closings_128 ?_
          exact W.iret (v := 201) hx hb hr (fun tE ht hW => ⟨⟨201, (zk, zn, zi, zt, zs, zr, zd, zy, zm, zc, zv, (yShift (yShift (yShift (yShift (yShift ze 10) 11) 12) 21) 20), (((((zo + 1) + 1) + 1) + 1) + 1)), rfl, by first | (simp only [zClose, zMid, zEnd, zN, zE, yk, yn, yi, yt, ys, yr, yd, yy, ym, yc, yv, ye, yo, eq_true c1, c33, c57, eq_true c69, eq_self, ↓reduceIte, Bool.false_eq_true, Bool.not_false, Bool.not_true, Bool.and_true, Bool.and_false, Bool.true_and, Bool.false_and, decide_true, decide_false] <;> first | done | decide) | (simp only [zClose, zMid, zEnd, zN, zE, yk, yn, yi, yt, ys, yr, yd, yy, ym, yc, yv, ye, yo, c1, c33, c57, c69, eq_self, ↓reduceIte, Bool.false_eq_true, Bool.not_false, Bool.not_true, Bool.and_true, Bool.and_false, Bool.true_and, Bool.false_and, decide_true, decide_false] <;> first | done | decide) | (simp [zClose, zMid, zEnd, zN, zE, yk, yn, yi, yt, ys, yr, yd, yy, ym, yc, yv, ye, yo, c1, c33, c57, c69]; done) | (simp [zClose, zMid, zEnd, zN, zE, yk, yn, yi, yt, ys, yr, yd, yy, ym, yc, yv, ye, yo, eq_true c1, c33, c57, eq_true c69]; done), by rw [ht]; exact hP, va_K.moved hW.alike hK, hD⟩, hS.F ht⟩) hS.2.2 dY_closings_129
        · refine lv_iload hx hb dY_closings_101 (lv_at hl 1 rfl) ?_
          refine lv_if_le (tgt := 112) hx hb dY_closings_103 (by decide) (fun cz => absurd cz (by decide)) (fun _ => ?_)
          refine lv_iinc (v := 2) (lv' := [(5, .int 2), (4, .int 2), (3, .int 1), (0, .ref G.1), (1, .int p0), (2, .int p1)]) hx hb dY_closings_106 hl (k := 0) rfl (by decide) (by decide) rfl (fun ls hl => ?_)
          refine lv_goto (tgt := 121) hx hb dY_closings_109 (by decide) ?_
          refine lv_bipush (v := 100) hx hb dY_closings_121 (by decide) ?_
          refine lv_iload hx hb dY_closings_123 (lv_at hl 1 rfl) ?_
          refine lv_imul hx hb dY_closings_125 ?_
          refine lv_iload hx hb dY_closings_126 (lv_at hl 0 rfl) ?_
          refine lv_iadd hx hb dY_closings_128 ?_
          exact W.iret (v := 202) hx hb hr (fun tE ht hW => ⟨⟨202, (zk, zn, zi, zt, zs, zr, zd, zy, zm, zc, zv, (yShift (yShift (yShift (yShift (yShift ze 10) 11) 12) 21) 20), (((((zo + 1) + 1) + 1) + 1) + 1)), rfl, by first | (simp only [zClose, zMid, zEnd, zN, zE, yk, yn, yi, yt, ys, yr, yd, yy, ym, yc, yv, ye, yo, eq_true c1, c33, c57, c69, eq_self, ↓reduceIte, Bool.false_eq_true, Bool.not_false, Bool.not_true, Bool.and_true, Bool.and_false, Bool.true_and, Bool.false_and, decide_true, decide_false] <;> first | done | decide) | (simp only [zClose, zMid, zEnd, zN, zE, yk, yn, yi, yt, ys, yr, yd, yy, ym, yc, yv, ye, yo, c1, c33, c57, c69, eq_self, ↓reduceIte, Bool.false_eq_true, Bool.not_false, Bool.not_true, Bool.and_true, Bool.and_false, Bool.true_and, Bool.false_and, decide_true, decide_false] <;> first | done | decide) | (simp [zClose, zMid, zEnd, zN, zE, yk, yn, yi, yt, ys, yr, yd, yy, ym, yc, yv, ye, yo, c1, c33, c57, c69]; done) | (simp [zClose, zMid, zEnd, zN, zE, yk, yn, yi, yt, ys, yr, yd, yy, ym, yc, yv, ye, yo, eq_true c1, c33, c57, c69]; done), by rw [ht]; exact hP, va_K.moved hW.alike hK, hD⟩, hS.F ht⟩) hS.2.2 dY_closings_129
set_option maxHeartbeats 8000000 in
set_option maxRecDepth 100000 in
theorem j_flow (l : Launch) (D : va_G) (G : YF) (v : YS) (sz : Nat) (p0 p1 p2 : Int32) : Met l yY_flow wY_flow ({ frames := 2, cells := 0, slots := 0, locals := 48 }) (yPc D G v sz [.ref G.1, .int p0, .int p1, .int p2]) (va_Qi (fun (r : Int32) (w : YS) => (r, w) = zFlow v p0 p1 p2) (yB D G (va_A (yW G v) sz)) (va_A (yW G v) sz)) 0 0 (va_A (yW G v) sz) := by
  obtain ⟨zk, zn, zi, zt, zs, zr, zd, zy, zm, zc, zv, ze, zo⟩ := v
  refine Met.ofW (cc := cY_flow) (maxL := 4) (ret := (Option.some Jvm.ClassFile.FieldType.int)) (by decide) rfl ?_
  intro p e s m args below meth c s₁ B hml hv
  obtain ⟨rfl, hsz, hP, hK, hD0⟩ := hv
  have hx := B.exec
  have hb := B.bytes
  have hr := B.returns
  have hts := atoms_spec (ws := wY_flow) B.pre
  have hty : ∀ w ∈ yAll, w.before _ s = true := fun w h => hts w (List.mem_cons_of_mem _ h)
  have hown : s.vm.findClass RY = some m.cls := findClass_of_methodNamed B.named
  have hlocks := B.notSynchronized
  subst hsz
  have hD := hD0.self (sz := s.heap.size)
  generalize hAe : va_A (yW G (zk, zn, zi, zt, zs, zr, zd, zy, zm, zc, zv, ze, zo)) s.heap.size = A at hD ⊢
  have hA : ∀ q : Nat, s.heap.size ≤ q → A q := fun q h => by rw [← hAe]; exact Or.inr h
  have hS : va_S A s.heap s.heap [] := va_S.rf
  refine xHeap (C := fun H => va_P D vwCl (yW G (zk, zn, zi, zt, zs, zr, zd, zy, zm, zc, zv, ze, zo)) H ∧ va_S A s.heap H []) ⟨hP, hS⟩ (fun H hC => ?_)
  obtain ⟨hP, hS⟩ := hC
  have hl := lv_entry ([.ref G.1, .int p0, .int p1, .int p2]) (n := 4) (Nat.le_of_ble_eq_true rfl)
  rw [lg_entry_eq]
  generalize (lg_sl ([.ref G.1, .int p0, .int p1, .int p2]) ++ List.replicate (4 - (lg_sl ([.ref G.1, .int p0, .int p1, .int p2])).length) Slot.unset).toArray = ls at hl ⊢
  have hl : lv_has ls 4 [(0, .ref G.1), (1, .int p0), (2, .int p1), (3, .int p2)] := hl
  refine lv_iload_n hx hb dY_flow_0 rfl (lv_at hl 1 rfl) ?_
  by_cases c1 : p0 = 0
  · refine lv_tableIn (off := 43) (tgt := 44) hx hb dY_flow_1 (by rw [c1]; decide) (by rw [c1]; decide) (by rw [c1]; rfl) (by decide) ?_
    refine lv_aload_n hx hb dY_flow_44 rfl (lv_at hl 0 rfl) ?_
    refine lv_iconst (v := 1) hx hb dY_flow_45 (by decide) ?_
    have hf2 := xFree hD hS hA
    refine va_callv (va_runV (As := [.int 1]) (rest := []) ⟨hx, hb, hml, hown, hts⟩ (j_note l D G (zk, zn, zi, zt, zs, zr, zd, zy, zm, zc, zv, ze, zo)  H.size 1) (cwV 1 hts (yV ylY_56 ym_note ys_note yc_note) rfl rfl rfl (by decide +kernel) ⟨Nat.le_of_ble_eq_true rfl, Nat.le_of_ble_eq_true rfl⟩) (yPre hK hP hD _) rfl rfl hl.1 rfl (lv_room (Nat.le_of_ble_eq_true rfl)) dY_flow_46 ⟨Nat.le_of_ble_eq_true rfl, Nat.le_of_ble_eq_true rfl⟩) hS (fun q _ h => hf2 q h) hf2 (fun v4 t6 H1 locs ht hvm hw5 hB hz1 hk1 hS => ?_)
    obtain ⟨hP1, hK1, hD1⟩ := hB
    rw [ht] at hP1
    replace hD1 := hD1.weaken (fun _ _ _ h => hf2 _ h)
    generalize H1 = H at hP1 hS ⊢
    obtain rfl := (show v4 = (zk, zn, zi, zt, zs, zr, zd, zy, zm, zc, zv, (yShift ze 1), (zo + 1)) from hw5)
    have hP : va_P D vwCl (yW G (zk, zn, zi, zt, zs, zr, zd, zy, zm, zc, zv, (yShift ze 1), (zo + 1))) H := hP1
    have hD : va_D A (yW G (zk, zn, zi, zt, zs, zr, zd, zy, zm, zc, zv, (yShift ze 1), (zo + 1))) := hD1
    refine lv_aload_n hx hb dY_flow_49 rfl (lv_at hl 0 rfl) ?_
    refine lv_iload_n hx hb dY_flow_50 rfl (lv_at hl 3 rfl) ?_
    refine lv_if_ne (tgt := 58) hx hb dY_flow_51 (by decide) (fun c7 => ?_) (fun c7 => ?_)
    · refine lv_iload_n hx hb dY_flow_58 rfl (lv_at hl 2 rfl) ?_
      refine lv_iload_n hx hb dY_flow_59 rfl (lv_at hl 3 rfl) ?_
      refine lv_idiv hx hb dY_flow_60 c7 ?_
      have hf8 := xFree hD hS hA
      refine va_calli (va_runV (As := [.int (p1 / p2)]) (rest := []) ⟨hx, hb, hml, hown, hts⟩ (j_given l D G (zk, zn, zi, zt, zs, zr, zd, zy, zm, zc, zv, (yShift ze 1), (zo + 1))  H.size (p1 / p2)) (cwV 1 hts (yV ylY_94 ym_given ys_given yc_given) rfl rfl rfl (by decide +kernel) ⟨Nat.le_of_ble_eq_true rfl, Nat.le_of_ble_eq_true rfl⟩) (yPre hK hP hD _) rfl rfl hl.1 rfl (lv_room (Nat.le_of_ble_eq_true rfl)) dY_flow_61 ⟨Nat.le_of_ble_eq_true rfl, Nat.le_of_ble_eq_true rfl⟩) hS (fun q _ h => hf8 q h) hf8 (fun r9 v10 t12 H1 locs ht hvm hw11 hB hz1 hk1 hS => ?_)
      obtain ⟨hP1, hK1, hD1⟩ := hB
      rw [ht] at hP1
      replace hD1 := hD1.weaken (fun _ _ _ h => hf8 _ h)
      generalize H1 = H at hP1 hS ⊢
      obtain ⟨rfl, rfl⟩ := Prod.mk.inj (show (r9, v10) = (0, (zk, zn, zi, zt, zs, zr, zd, zy, zm, zc, (p1 / p2), (yShift ze 1), (zo + 1))) from hw11)
      have hP : va_P D vwCl (yW G (zk, zn, zi, zt, zs, zr, zd, zy, zm, zc, (p1 / p2), (yShift ze 1), (zo + 1))) H := hP1
      have hD : va_D A (yW G (zk, zn, zi, zt, zs, zr, zd, zy, zm, zc, (p1 / p2), (yShift ze 1), (zo + 1))) := hD1
      exact W.iret (v := 0) hx hb hr (fun tE ht hW => ⟨⟨0, (zk, zn, zi, zt, zs, zr, zd, zy, zm, zc, (p1 / p2), (yShift ze 1), (zo + 1)), rfl, by first | (simp only [zFlow, zSet, zV, zN, zE, yk, yn, yi, yt, ys, yr, yd, yy, ym, yc, yv, ye, yo, eq_true c1, c7, eq_self, ↓reduceIte, Bool.false_eq_true, Bool.not_false, Bool.not_true, Bool.and_true, Bool.and_false, Bool.true_and, Bool.false_and, decide_true, decide_false] <;> first | done | decide) | (simp only [zFlow, zSet, zV, zN, zE, yk, yn, yi, yt, ys, yr, yd, yy, ym, yc, yv, ye, yo, c1, c7, eq_self, ↓reduceIte, Bool.false_eq_true, Bool.not_false, Bool.not_true, Bool.and_true, Bool.and_false, Bool.true_and, Bool.false_and, decide_true, decide_false] <;> first | done | decide) | (simp [zFlow, zSet, zV, zN, zE, yk, yn, yi, yt, ys, yr, yd, yy, ym, yc, yv, ye, yo, c1, c7]; done) | (simp [zFlow, zSet, zV, zN, zE, yk, yn, yi, yt, ys, yr, yd, yy, ym, yc, yv, ye, yo, eq_true c1, c7]; done), by rw [ht]; exact hP, va_K.moved hW.alike hK, hD⟩, hS.F ht⟩) hS.2.2 dY_flow_64
    · refine lv_iconst (v := (-1)) hx hb dY_flow_54 (by decide) ?_
      refine lv_goto (tgt := 61) hx hb dY_flow_55 (by decide) ?_
      have hf13 := xFree hD hS hA
      refine va_calli (va_runV (As := [.int (-1)]) (rest := []) ⟨hx, hb, hml, hown, hts⟩ (j_given l D G (zk, zn, zi, zt, zs, zr, zd, zy, zm, zc, zv, (yShift ze 1), (zo + 1))  H.size (-1)) (cwV 1 hts (yV ylY_94 ym_given ys_given yc_given) rfl rfl rfl (by decide +kernel) ⟨Nat.le_of_ble_eq_true rfl, Nat.le_of_ble_eq_true rfl⟩) (yPre hK hP hD _) rfl rfl hl.1 rfl (lv_room (Nat.le_of_ble_eq_true rfl)) dY_flow_61 ⟨Nat.le_of_ble_eq_true rfl, Nat.le_of_ble_eq_true rfl⟩) hS (fun q _ h => hf13 q h) hf13 (fun r14 v15 t17 H1 locs ht hvm hw16 hB hz1 hk1 hS => ?_)
      obtain ⟨hP1, hK1, hD1⟩ := hB
      rw [ht] at hP1
      replace hD1 := hD1.weaken (fun _ _ _ h => hf13 _ h)
      generalize H1 = H at hP1 hS ⊢
      obtain ⟨rfl, rfl⟩ := Prod.mk.inj (show (r14, v15) = (0, (zk, zn, zi, zt, zs, zr, zd, zy, zm, zc, (-1), (yShift ze 1), (zo + 1))) from hw16)
      have hP : va_P D vwCl (yW G (zk, zn, zi, zt, zs, zr, zd, zy, zm, zc, (-1), (yShift ze 1), (zo + 1))) H := hP1
      have hD : va_D A (yW G (zk, zn, zi, zt, zs, zr, zd, zy, zm, zc, (-1), (yShift ze 1), (zo + 1))) := hD1
      exact W.iret (v := 0) hx hb hr (fun tE ht hW => ⟨⟨0, (zk, zn, zi, zt, zs, zr, zd, zy, zm, zc, (-1), (yShift ze 1), (zo + 1)), rfl, by first | (simp only [zFlow, zSet, zV, zN, zE, yk, yn, yi, yt, ys, yr, yd, yy, ym, yc, yv, ye, yo, eq_true c1, eq_true c7, eq_self, ↓reduceIte, Bool.false_eq_true, Bool.not_false, Bool.not_true, Bool.and_true, Bool.and_false, Bool.true_and, Bool.false_and, decide_true, decide_false] <;> first | done | decide) | (simp only [zFlow, zSet, zV, zN, zE, yk, yn, yi, yt, ys, yr, yd, yy, ym, yc, yv, ye, yo, c1, c7, eq_self, ↓reduceIte, Bool.false_eq_true, Bool.not_false, Bool.not_true, Bool.and_true, Bool.and_false, Bool.true_and, Bool.false_and, decide_true, decide_false] <;> first | done | decide) | (simp [zFlow, zSet, zV, zN, zE, yk, yn, yi, yt, ys, yr, yd, yy, ym, yc, yv, ye, yo, c1, c7]; done) | (simp [zFlow, zSet, zV, zN, zE, yk, yn, yi, yt, ys, yr, yd, yy, ym, yc, yv, ye, yo, eq_true c1, eq_true c7]; done), by rw [ht]; exact hP, va_K.moved hW.alike hK, hD⟩, hS.F ht⟩) hS.2.2 dY_flow_64
  by_cases c18 : p0 = 1
  · refine lv_tableIn (off := 64) (tgt := 65) hx hb dY_flow_1 (by rw [c18]; decide) (by rw [c18]; decide) (by rw [c18]; rfl) (by decide) ?_
    refine lv_aload_n hx hb dY_flow_65 rfl (lv_at hl 0 rfl) ?_
    refine lv_aload_n hx hb dY_flow_66 rfl (lv_at hl 0 rfl) ?_
    refine lv_iload_n hx hb dY_flow_67 rfl (lv_at hl 2 rfl) ?_
    refine lv_iload_n hx hb dY_flow_68 rfl (lv_at hl 3 rfl) ?_
    have hf19 := xFree hD hS hA
    refine va_calli (va_runV (As := [.int p1, .int p2]) (rest := [.ref G.1]) ⟨hx, hb, hml, hown, hts⟩ (j_turns l D G (zk, zn, zi, zt, zs, zr, zd, zy, zm, zc, zv, ze, zo)  H.size p1 p2) (cwV 2 hts (yV ylY_97 ym_turns ys_turns yc_turns) rfl rfl rfl (by decide +kernel) ⟨Nat.le_of_ble_eq_true rfl, Nat.le_of_ble_eq_true rfl⟩) (yPre hK hP hD _) rfl rfl hl.1 rfl (lv_room (Nat.le_of_ble_eq_true rfl)) dY_flow_69 ⟨Nat.le_of_ble_eq_true rfl, Nat.le_of_ble_eq_true rfl⟩) hS (fun q _ h => hf19 q h) hf19 (fun r20 v21 t23 H1 locs ht hvm hw22 hB hz1 hk1 hS => ?_)
    obtain ⟨hP1, hK1, hD1⟩ := hB
    rw [ht] at hP1
    replace hD1 := hD1.weaken (fun _ _ _ h => hf19 _ h)
    generalize H1 = H at hP1 hS ⊢
    obtain ⟨rfl, rfl⟩ := Prod.mk.inj (show (r20, v21) = ((zTurn (zk, zn, zi, zt, zs, zr, zd, zy, zm, zc, zv, ze, zo) p1 p2).1, ((zTurn (zk, zn, zi, zt, zs, zr, zd, zy, zm, zc, zv, ze, zo) p1 p2).2.1, (zTurn (zk, zn, zi, zt, zs, zr, zd, zy, zm, zc, zv, ze, zo) p1 p2).2.2.1, (zTurn (zk, zn, zi, zt, zs, zr, zd, zy, zm, zc, zv, ze, zo) p1 p2).2.2.2.1, (zTurn (zk, zn, zi, zt, zs, zr, zd, zy, zm, zc, zv, ze, zo) p1 p2).2.2.2.2.1, (zTurn (zk, zn, zi, zt, zs, zr, zd, zy, zm, zc, zv, ze, zo) p1 p2).2.2.2.2.2.1, (zTurn (zk, zn, zi, zt, zs, zr, zd, zy, zm, zc, zv, ze, zo) p1 p2).2.2.2.2.2.2.1, (zTurn (zk, zn, zi, zt, zs, zr, zd, zy, zm, zc, zv, ze, zo) p1 p2).2.2.2.2.2.2.2.1, (zTurn (zk, zn, zi, zt, zs, zr, zd, zy, zm, zc, zv, ze, zo) p1 p2).2.2.2.2.2.2.2.2.1, (zTurn (zk, zn, zi, zt, zs, zr, zd, zy, zm, zc, zv, ze, zo) p1 p2).2.2.2.2.2.2.2.2.2.1, (zTurn (zk, zn, zi, zt, zs, zr, zd, zy, zm, zc, zv, ze, zo) p1 p2).2.2.2.2.2.2.2.2.2.2.1, (zTurn (zk, zn, zi, zt, zs, zr, zd, zy, zm, zc, zv, ze, zo) p1 p2).2.2.2.2.2.2.2.2.2.2.2.1, (zTurn (zk, zn, zi, zt, zs, zr, zd, zy, zm, zc, zv, ze, zo) p1 p2).2.2.2.2.2.2.2.2.2.2.2.2.1, (zTurn (zk, zn, zi, zt, zs, zr, zd, zy, zm, zc, zv, ze, zo) p1 p2).2.2.2.2.2.2.2.2.2.2.2.2.2)) from hw22)
    have hP : va_P D vwCl (yW G ((zTurn (zk, zn, zi, zt, zs, zr, zd, zy, zm, zc, zv, ze, zo) p1 p2).2.1, (zTurn (zk, zn, zi, zt, zs, zr, zd, zy, zm, zc, zv, ze, zo) p1 p2).2.2.1, (zTurn (zk, zn, zi, zt, zs, zr, zd, zy, zm, zc, zv, ze, zo) p1 p2).2.2.2.1, (zTurn (zk, zn, zi, zt, zs, zr, zd, zy, zm, zc, zv, ze, zo) p1 p2).2.2.2.2.1, (zTurn (zk, zn, zi, zt, zs, zr, zd, zy, zm, zc, zv, ze, zo) p1 p2).2.2.2.2.2.1, (zTurn (zk, zn, zi, zt, zs, zr, zd, zy, zm, zc, zv, ze, zo) p1 p2).2.2.2.2.2.2.1, (zTurn (zk, zn, zi, zt, zs, zr, zd, zy, zm, zc, zv, ze, zo) p1 p2).2.2.2.2.2.2.2.1, (zTurn (zk, zn, zi, zt, zs, zr, zd, zy, zm, zc, zv, ze, zo) p1 p2).2.2.2.2.2.2.2.2.1, (zTurn (zk, zn, zi, zt, zs, zr, zd, zy, zm, zc, zv, ze, zo) p1 p2).2.2.2.2.2.2.2.2.2.1, (zTurn (zk, zn, zi, zt, zs, zr, zd, zy, zm, zc, zv, ze, zo) p1 p2).2.2.2.2.2.2.2.2.2.2.1, (zTurn (zk, zn, zi, zt, zs, zr, zd, zy, zm, zc, zv, ze, zo) p1 p2).2.2.2.2.2.2.2.2.2.2.2.1, (zTurn (zk, zn, zi, zt, zs, zr, zd, zy, zm, zc, zv, ze, zo) p1 p2).2.2.2.2.2.2.2.2.2.2.2.2.1, (zTurn (zk, zn, zi, zt, zs, zr, zd, zy, zm, zc, zv, ze, zo) p1 p2).2.2.2.2.2.2.2.2.2.2.2.2.2)) H := hP1
    have hD : va_D A (yW G ((zTurn (zk, zn, zi, zt, zs, zr, zd, zy, zm, zc, zv, ze, zo) p1 p2).2.1, (zTurn (zk, zn, zi, zt, zs, zr, zd, zy, zm, zc, zv, ze, zo) p1 p2).2.2.1, (zTurn (zk, zn, zi, zt, zs, zr, zd, zy, zm, zc, zv, ze, zo) p1 p2).2.2.2.1, (zTurn (zk, zn, zi, zt, zs, zr, zd, zy, zm, zc, zv, ze, zo) p1 p2).2.2.2.2.1, (zTurn (zk, zn, zi, zt, zs, zr, zd, zy, zm, zc, zv, ze, zo) p1 p2).2.2.2.2.2.1, (zTurn (zk, zn, zi, zt, zs, zr, zd, zy, zm, zc, zv, ze, zo) p1 p2).2.2.2.2.2.2.1, (zTurn (zk, zn, zi, zt, zs, zr, zd, zy, zm, zc, zv, ze, zo) p1 p2).2.2.2.2.2.2.2.1, (zTurn (zk, zn, zi, zt, zs, zr, zd, zy, zm, zc, zv, ze, zo) p1 p2).2.2.2.2.2.2.2.2.1, (zTurn (zk, zn, zi, zt, zs, zr, zd, zy, zm, zc, zv, ze, zo) p1 p2).2.2.2.2.2.2.2.2.2.1, (zTurn (zk, zn, zi, zt, zs, zr, zd, zy, zm, zc, zv, ze, zo) p1 p2).2.2.2.2.2.2.2.2.2.2.1, (zTurn (zk, zn, zi, zt, zs, zr, zd, zy, zm, zc, zv, ze, zo) p1 p2).2.2.2.2.2.2.2.2.2.2.2.1, (zTurn (zk, zn, zi, zt, zs, zr, zd, zy, zm, zc, zv, ze, zo) p1 p2).2.2.2.2.2.2.2.2.2.2.2.2.1, (zTurn (zk, zn, zi, zt, zs, zr, zd, zy, zm, zc, zv, ze, zo) p1 p2).2.2.2.2.2.2.2.2.2.2.2.2.2)) := hD1
    have hf24 := xFree hD hS hA
    refine va_calli (va_runV (As := [.int ((zTurn (zk, zn, zi, zt, zs, zr, zd, zy, zm, zc, zv, ze, zo) p1 p2).1)]) (rest := []) ⟨hx, hb, hml, hown, hts⟩ (j_given l D G ((zTurn (zk, zn, zi, zt, zs, zr, zd, zy, zm, zc, zv, ze, zo) p1 p2).2.1, (zTurn (zk, zn, zi, zt, zs, zr, zd, zy, zm, zc, zv, ze, zo) p1 p2).2.2.1, (zTurn (zk, zn, zi, zt, zs, zr, zd, zy, zm, zc, zv, ze, zo) p1 p2).2.2.2.1, (zTurn (zk, zn, zi, zt, zs, zr, zd, zy, zm, zc, zv, ze, zo) p1 p2).2.2.2.2.1, (zTurn (zk, zn, zi, zt, zs, zr, zd, zy, zm, zc, zv, ze, zo) p1 p2).2.2.2.2.2.1, (zTurn (zk, zn, zi, zt, zs, zr, zd, zy, zm, zc, zv, ze, zo) p1 p2).2.2.2.2.2.2.1, (zTurn (zk, zn, zi, zt, zs, zr, zd, zy, zm, zc, zv, ze, zo) p1 p2).2.2.2.2.2.2.2.1, (zTurn (zk, zn, zi, zt, zs, zr, zd, zy, zm, zc, zv, ze, zo) p1 p2).2.2.2.2.2.2.2.2.1, (zTurn (zk, zn, zi, zt, zs, zr, zd, zy, zm, zc, zv, ze, zo) p1 p2).2.2.2.2.2.2.2.2.2.1, (zTurn (zk, zn, zi, zt, zs, zr, zd, zy, zm, zc, zv, ze, zo) p1 p2).2.2.2.2.2.2.2.2.2.2.1, (zTurn (zk, zn, zi, zt, zs, zr, zd, zy, zm, zc, zv, ze, zo) p1 p2).2.2.2.2.2.2.2.2.2.2.2.1, (zTurn (zk, zn, zi, zt, zs, zr, zd, zy, zm, zc, zv, ze, zo) p1 p2).2.2.2.2.2.2.2.2.2.2.2.2.1, (zTurn (zk, zn, zi, zt, zs, zr, zd, zy, zm, zc, zv, ze, zo) p1 p2).2.2.2.2.2.2.2.2.2.2.2.2.2)  H.size ((zTurn (zk, zn, zi, zt, zs, zr, zd, zy, zm, zc, zv, ze, zo) p1 p2).1)) (cwV 1 hts (yV ylY_94 ym_given ys_given yc_given) rfl rfl rfl (by decide +kernel) ⟨Nat.le_of_ble_eq_true rfl, Nat.le_of_ble_eq_true rfl⟩) (yPre hK hP hD _) rfl rfl hl.1 rfl (lv_room (Nat.le_of_ble_eq_true rfl)) dY_flow_72 ⟨Nat.le_of_ble_eq_true rfl, Nat.le_of_ble_eq_true rfl⟩) hS (fun q _ h => hf24 q h) hf24 (fun r25 v26 t28 H1 locs ht hvm hw27 hB hz1 hk1 hS => ?_)
    obtain ⟨hP1, hK1, hD1⟩ := hB
    rw [ht] at hP1
    replace hD1 := hD1.weaken (fun _ _ _ h => hf24 _ h)
    generalize H1 = H at hP1 hS ⊢
    obtain ⟨rfl, rfl⟩ := Prod.mk.inj (show (r25, v26) = (0, ((zTurn (zk, zn, zi, zt, zs, zr, zd, zy, zm, zc, zv, ze, zo) p1 p2).2.1, (zTurn (zk, zn, zi, zt, zs, zr, zd, zy, zm, zc, zv, ze, zo) p1 p2).2.2.1, (zTurn (zk, zn, zi, zt, zs, zr, zd, zy, zm, zc, zv, ze, zo) p1 p2).2.2.2.1, (zTurn (zk, zn, zi, zt, zs, zr, zd, zy, zm, zc, zv, ze, zo) p1 p2).2.2.2.2.1, (zTurn (zk, zn, zi, zt, zs, zr, zd, zy, zm, zc, zv, ze, zo) p1 p2).2.2.2.2.2.1, (zTurn (zk, zn, zi, zt, zs, zr, zd, zy, zm, zc, zv, ze, zo) p1 p2).2.2.2.2.2.2.1, (zTurn (zk, zn, zi, zt, zs, zr, zd, zy, zm, zc, zv, ze, zo) p1 p2).2.2.2.2.2.2.2.1, (zTurn (zk, zn, zi, zt, zs, zr, zd, zy, zm, zc, zv, ze, zo) p1 p2).2.2.2.2.2.2.2.2.1, (zTurn (zk, zn, zi, zt, zs, zr, zd, zy, zm, zc, zv, ze, zo) p1 p2).2.2.2.2.2.2.2.2.2.1, (zTurn (zk, zn, zi, zt, zs, zr, zd, zy, zm, zc, zv, ze, zo) p1 p2).2.2.2.2.2.2.2.2.2.2.1, ((zTurn (zk, zn, zi, zt, zs, zr, zd, zy, zm, zc, zv, ze, zo) p1 p2).1), (zTurn (zk, zn, zi, zt, zs, zr, zd, zy, zm, zc, zv, ze, zo) p1 p2).2.2.2.2.2.2.2.2.2.2.2.2.1, (zTurn (zk, zn, zi, zt, zs, zr, zd, zy, zm, zc, zv, ze, zo) p1 p2).2.2.2.2.2.2.2.2.2.2.2.2.2)) from hw27)
    have hP : va_P D vwCl (yW G ((zTurn (zk, zn, zi, zt, zs, zr, zd, zy, zm, zc, zv, ze, zo) p1 p2).2.1, (zTurn (zk, zn, zi, zt, zs, zr, zd, zy, zm, zc, zv, ze, zo) p1 p2).2.2.1, (zTurn (zk, zn, zi, zt, zs, zr, zd, zy, zm, zc, zv, ze, zo) p1 p2).2.2.2.1, (zTurn (zk, zn, zi, zt, zs, zr, zd, zy, zm, zc, zv, ze, zo) p1 p2).2.2.2.2.1, (zTurn (zk, zn, zi, zt, zs, zr, zd, zy, zm, zc, zv, ze, zo) p1 p2).2.2.2.2.2.1, (zTurn (zk, zn, zi, zt, zs, zr, zd, zy, zm, zc, zv, ze, zo) p1 p2).2.2.2.2.2.2.1, (zTurn (zk, zn, zi, zt, zs, zr, zd, zy, zm, zc, zv, ze, zo) p1 p2).2.2.2.2.2.2.2.1, (zTurn (zk, zn, zi, zt, zs, zr, zd, zy, zm, zc, zv, ze, zo) p1 p2).2.2.2.2.2.2.2.2.1, (zTurn (zk, zn, zi, zt, zs, zr, zd, zy, zm, zc, zv, ze, zo) p1 p2).2.2.2.2.2.2.2.2.2.1, (zTurn (zk, zn, zi, zt, zs, zr, zd, zy, zm, zc, zv, ze, zo) p1 p2).2.2.2.2.2.2.2.2.2.2.1, ((zTurn (zk, zn, zi, zt, zs, zr, zd, zy, zm, zc, zv, ze, zo) p1 p2).1), (zTurn (zk, zn, zi, zt, zs, zr, zd, zy, zm, zc, zv, ze, zo) p1 p2).2.2.2.2.2.2.2.2.2.2.2.2.1, (zTurn (zk, zn, zi, zt, zs, zr, zd, zy, zm, zc, zv, ze, zo) p1 p2).2.2.2.2.2.2.2.2.2.2.2.2.2)) H := hP1
    have hD : va_D A (yW G ((zTurn (zk, zn, zi, zt, zs, zr, zd, zy, zm, zc, zv, ze, zo) p1 p2).2.1, (zTurn (zk, zn, zi, zt, zs, zr, zd, zy, zm, zc, zv, ze, zo) p1 p2).2.2.1, (zTurn (zk, zn, zi, zt, zs, zr, zd, zy, zm, zc, zv, ze, zo) p1 p2).2.2.2.1, (zTurn (zk, zn, zi, zt, zs, zr, zd, zy, zm, zc, zv, ze, zo) p1 p2).2.2.2.2.1, (zTurn (zk, zn, zi, zt, zs, zr, zd, zy, zm, zc, zv, ze, zo) p1 p2).2.2.2.2.2.1, (zTurn (zk, zn, zi, zt, zs, zr, zd, zy, zm, zc, zv, ze, zo) p1 p2).2.2.2.2.2.2.1, (zTurn (zk, zn, zi, zt, zs, zr, zd, zy, zm, zc, zv, ze, zo) p1 p2).2.2.2.2.2.2.2.1, (zTurn (zk, zn, zi, zt, zs, zr, zd, zy, zm, zc, zv, ze, zo) p1 p2).2.2.2.2.2.2.2.2.1, (zTurn (zk, zn, zi, zt, zs, zr, zd, zy, zm, zc, zv, ze, zo) p1 p2).2.2.2.2.2.2.2.2.2.1, (zTurn (zk, zn, zi, zt, zs, zr, zd, zy, zm, zc, zv, ze, zo) p1 p2).2.2.2.2.2.2.2.2.2.2.1, ((zTurn (zk, zn, zi, zt, zs, zr, zd, zy, zm, zc, zv, ze, zo) p1 p2).1), (zTurn (zk, zn, zi, zt, zs, zr, zd, zy, zm, zc, zv, ze, zo) p1 p2).2.2.2.2.2.2.2.2.2.2.2.2.1, (zTurn (zk, zn, zi, zt, zs, zr, zd, zy, zm, zc, zv, ze, zo) p1 p2).2.2.2.2.2.2.2.2.2.2.2.2.2)) := hD1
    exact W.iret (v := 0) hx hb hr (fun tE ht hW => ⟨⟨0, ((zTurn (zk, zn, zi, zt, zs, zr, zd, zy, zm, zc, zv, ze, zo) p1 p2).2.1, (zTurn (zk, zn, zi, zt, zs, zr, zd, zy, zm, zc, zv, ze, zo) p1 p2).2.2.1, (zTurn (zk, zn, zi, zt, zs, zr, zd, zy, zm, zc, zv, ze, zo) p1 p2).2.2.2.1, (zTurn (zk, zn, zi, zt, zs, zr, zd, zy, zm, zc, zv, ze, zo) p1 p2).2.2.2.2.1, (zTurn (zk, zn, zi, zt, zs, zr, zd, zy, zm, zc, zv, ze, zo) p1 p2).2.2.2.2.2.1, (zTurn (zk, zn, zi, zt, zs, zr, zd, zy, zm, zc, zv, ze, zo) p1 p2).2.2.2.2.2.2.1, (zTurn (zk, zn, zi, zt, zs, zr, zd, zy, zm, zc, zv, ze, zo) p1 p2).2.2.2.2.2.2.2.1, (zTurn (zk, zn, zi, zt, zs, zr, zd, zy, zm, zc, zv, ze, zo) p1 p2).2.2.2.2.2.2.2.2.1, (zTurn (zk, zn, zi, zt, zs, zr, zd, zy, zm, zc, zv, ze, zo) p1 p2).2.2.2.2.2.2.2.2.2.1, (zTurn (zk, zn, zi, zt, zs, zr, zd, zy, zm, zc, zv, ze, zo) p1 p2).2.2.2.2.2.2.2.2.2.2.1, ((zTurn (zk, zn, zi, zt, zs, zr, zd, zy, zm, zc, zv, ze, zo) p1 p2).1), (zTurn (zk, zn, zi, zt, zs, zr, zd, zy, zm, zc, zv, ze, zo) p1 p2).2.2.2.2.2.2.2.2.2.2.2.2.1, (zTurn (zk, zn, zi, zt, zs, zr, zd, zy, zm, zc, zv, ze, zo) p1 p2).2.2.2.2.2.2.2.2.2.2.2.2.2), rfl, by first | (simp only [zFlow, zSet, zV, zN, zE, yk, yn, yi, yt, ys, yr, yd, yy, ym, yc, yv, ye, yo, c1, eq_true c18, eq_self, ↓reduceIte, Bool.false_eq_true, Bool.not_false, Bool.not_true, Bool.and_true, Bool.and_false, Bool.true_and, Bool.false_and, decide_true, decide_false] <;> first | done | decide) | (simp only [zFlow, zSet, zV, zN, zE, yk, yn, yi, yt, ys, yr, yd, yy, ym, yc, yv, ye, yo, c1, c18, eq_self, ↓reduceIte, Bool.false_eq_true, Bool.not_false, Bool.not_true, Bool.and_true, Bool.and_false, Bool.true_and, Bool.false_and, decide_true, decide_false] <;> first | done | decide) | (simp [zFlow, zSet, zV, zN, zE, yk, yn, yi, yt, ys, yr, yd, yy, ym, yc, yv, ye, yo, c1, c18]; done) | (simp [zFlow, zSet, zV, zN, zE, yk, yn, yi, yt, ys, yr, yd, yy, ym, yc, yv, ye, yo, c1, eq_true c18]; done), by rw [ht]; exact hP, va_K.moved hW.alike hK, hD⟩, hS.F ht⟩) hS.2.2 dY_flow_75
  by_cases c29 : p0 = 2
  · refine lv_tableIn (off := 75) (tgt := 76) hx hb dY_flow_1 (by rw [c29]; decide) (by rw [c29]; decide) (by rw [c29]; rfl) (by decide) ?_
    refine lv_aload_n hx hb dY_flow_76 rfl (lv_at hl 0 rfl) ?_
    refine lv_aload_n hx hb dY_flow_77 rfl (lv_at hl 0 rfl) ?_
    refine lv_iload_n hx hb dY_flow_78 rfl (lv_at hl 2 rfl) ?_
    refine lv_iload_n hx hb dY_flow_79 rfl (lv_at hl 3 rfl) ?_
    have hf30 := xFree hD hS hA
    refine va_calli (va_runV (As := [.int p1, .int p2]) (rest := [.ref G.1]) ⟨hx, hb, hml, hown, hts⟩ (j_closings l D G (zk, zn, zi, zt, zs, zr, zd, zy, zm, zc, zv, ze, zo)  H.size p1 p2) (cwV 2 hts (yV ylY_100 ym_closings ys_closings yc_closings) rfl rfl rfl (by decide +kernel) ⟨Nat.le_of_ble_eq_true rfl, Nat.le_of_ble_eq_true rfl⟩) (yPre hK hP hD _) rfl rfl hl.1 rfl (lv_room (Nat.le_of_ble_eq_true rfl)) dY_flow_80 ⟨Nat.le_of_ble_eq_true rfl, Nat.le_of_ble_eq_true rfl⟩) hS (fun q _ h => hf30 q h) hf30 (fun r31 v32 t34 H1 locs ht hvm hw33 hB hz1 hk1 hS => ?_)
    obtain ⟨hP1, hK1, hD1⟩ := hB
    rw [ht] at hP1
    replace hD1 := hD1.weaken (fun _ _ _ h => hf30 _ h)
    generalize H1 = H at hP1 hS ⊢
    obtain ⟨rfl, rfl⟩ := Prod.mk.inj (show (r31, v32) = ((zClose (zk, zn, zi, zt, zs, zr, zd, zy, zm, zc, zv, ze, zo) p1 p2).1, ((zClose (zk, zn, zi, zt, zs, zr, zd, zy, zm, zc, zv, ze, zo) p1 p2).2.1, (zClose (zk, zn, zi, zt, zs, zr, zd, zy, zm, zc, zv, ze, zo) p1 p2).2.2.1, (zClose (zk, zn, zi, zt, zs, zr, zd, zy, zm, zc, zv, ze, zo) p1 p2).2.2.2.1, (zClose (zk, zn, zi, zt, zs, zr, zd, zy, zm, zc, zv, ze, zo) p1 p2).2.2.2.2.1, (zClose (zk, zn, zi, zt, zs, zr, zd, zy, zm, zc, zv, ze, zo) p1 p2).2.2.2.2.2.1, (zClose (zk, zn, zi, zt, zs, zr, zd, zy, zm, zc, zv, ze, zo) p1 p2).2.2.2.2.2.2.1, (zClose (zk, zn, zi, zt, zs, zr, zd, zy, zm, zc, zv, ze, zo) p1 p2).2.2.2.2.2.2.2.1, (zClose (zk, zn, zi, zt, zs, zr, zd, zy, zm, zc, zv, ze, zo) p1 p2).2.2.2.2.2.2.2.2.1, (zClose (zk, zn, zi, zt, zs, zr, zd, zy, zm, zc, zv, ze, zo) p1 p2).2.2.2.2.2.2.2.2.2.1, (zClose (zk, zn, zi, zt, zs, zr, zd, zy, zm, zc, zv, ze, zo) p1 p2).2.2.2.2.2.2.2.2.2.2.1, (zClose (zk, zn, zi, zt, zs, zr, zd, zy, zm, zc, zv, ze, zo) p1 p2).2.2.2.2.2.2.2.2.2.2.2.1, (zClose (zk, zn, zi, zt, zs, zr, zd, zy, zm, zc, zv, ze, zo) p1 p2).2.2.2.2.2.2.2.2.2.2.2.2.1, (zClose (zk, zn, zi, zt, zs, zr, zd, zy, zm, zc, zv, ze, zo) p1 p2).2.2.2.2.2.2.2.2.2.2.2.2.2)) from hw33)
    have hP : va_P D vwCl (yW G ((zClose (zk, zn, zi, zt, zs, zr, zd, zy, zm, zc, zv, ze, zo) p1 p2).2.1, (zClose (zk, zn, zi, zt, zs, zr, zd, zy, zm, zc, zv, ze, zo) p1 p2).2.2.1, (zClose (zk, zn, zi, zt, zs, zr, zd, zy, zm, zc, zv, ze, zo) p1 p2).2.2.2.1, (zClose (zk, zn, zi, zt, zs, zr, zd, zy, zm, zc, zv, ze, zo) p1 p2).2.2.2.2.1, (zClose (zk, zn, zi, zt, zs, zr, zd, zy, zm, zc, zv, ze, zo) p1 p2).2.2.2.2.2.1, (zClose (zk, zn, zi, zt, zs, zr, zd, zy, zm, zc, zv, ze, zo) p1 p2).2.2.2.2.2.2.1, (zClose (zk, zn, zi, zt, zs, zr, zd, zy, zm, zc, zv, ze, zo) p1 p2).2.2.2.2.2.2.2.1, (zClose (zk, zn, zi, zt, zs, zr, zd, zy, zm, zc, zv, ze, zo) p1 p2).2.2.2.2.2.2.2.2.1, (zClose (zk, zn, zi, zt, zs, zr, zd, zy, zm, zc, zv, ze, zo) p1 p2).2.2.2.2.2.2.2.2.2.1, (zClose (zk, zn, zi, zt, zs, zr, zd, zy, zm, zc, zv, ze, zo) p1 p2).2.2.2.2.2.2.2.2.2.2.1, (zClose (zk, zn, zi, zt, zs, zr, zd, zy, zm, zc, zv, ze, zo) p1 p2).2.2.2.2.2.2.2.2.2.2.2.1, (zClose (zk, zn, zi, zt, zs, zr, zd, zy, zm, zc, zv, ze, zo) p1 p2).2.2.2.2.2.2.2.2.2.2.2.2.1, (zClose (zk, zn, zi, zt, zs, zr, zd, zy, zm, zc, zv, ze, zo) p1 p2).2.2.2.2.2.2.2.2.2.2.2.2.2)) H := hP1
    have hD : va_D A (yW G ((zClose (zk, zn, zi, zt, zs, zr, zd, zy, zm, zc, zv, ze, zo) p1 p2).2.1, (zClose (zk, zn, zi, zt, zs, zr, zd, zy, zm, zc, zv, ze, zo) p1 p2).2.2.1, (zClose (zk, zn, zi, zt, zs, zr, zd, zy, zm, zc, zv, ze, zo) p1 p2).2.2.2.1, (zClose (zk, zn, zi, zt, zs, zr, zd, zy, zm, zc, zv, ze, zo) p1 p2).2.2.2.2.1, (zClose (zk, zn, zi, zt, zs, zr, zd, zy, zm, zc, zv, ze, zo) p1 p2).2.2.2.2.2.1, (zClose (zk, zn, zi, zt, zs, zr, zd, zy, zm, zc, zv, ze, zo) p1 p2).2.2.2.2.2.2.1, (zClose (zk, zn, zi, zt, zs, zr, zd, zy, zm, zc, zv, ze, zo) p1 p2).2.2.2.2.2.2.2.1, (zClose (zk, zn, zi, zt, zs, zr, zd, zy, zm, zc, zv, ze, zo) p1 p2).2.2.2.2.2.2.2.2.1, (zClose (zk, zn, zi, zt, zs, zr, zd, zy, zm, zc, zv, ze, zo) p1 p2).2.2.2.2.2.2.2.2.2.1, (zClose (zk, zn, zi, zt, zs, zr, zd, zy, zm, zc, zv, ze, zo) p1 p2).2.2.2.2.2.2.2.2.2.2.1, (zClose (zk, zn, zi, zt, zs, zr, zd, zy, zm, zc, zv, ze, zo) p1 p2).2.2.2.2.2.2.2.2.2.2.2.1, (zClose (zk, zn, zi, zt, zs, zr, zd, zy, zm, zc, zv, ze, zo) p1 p2).2.2.2.2.2.2.2.2.2.2.2.2.1, (zClose (zk, zn, zi, zt, zs, zr, zd, zy, zm, zc, zv, ze, zo) p1 p2).2.2.2.2.2.2.2.2.2.2.2.2.2)) := hD1
    have hf35 := xFree hD hS hA
    refine va_calli (va_runV (As := [.int ((zClose (zk, zn, zi, zt, zs, zr, zd, zy, zm, zc, zv, ze, zo) p1 p2).1)]) (rest := []) ⟨hx, hb, hml, hown, hts⟩ (j_given l D G ((zClose (zk, zn, zi, zt, zs, zr, zd, zy, zm, zc, zv, ze, zo) p1 p2).2.1, (zClose (zk, zn, zi, zt, zs, zr, zd, zy, zm, zc, zv, ze, zo) p1 p2).2.2.1, (zClose (zk, zn, zi, zt, zs, zr, zd, zy, zm, zc, zv, ze, zo) p1 p2).2.2.2.1, (zClose (zk, zn, zi, zt, zs, zr, zd, zy, zm, zc, zv, ze, zo) p1 p2).2.2.2.2.1, (zClose (zk, zn, zi, zt, zs, zr, zd, zy, zm, zc, zv, ze, zo) p1 p2).2.2.2.2.2.1, (zClose (zk, zn, zi, zt, zs, zr, zd, zy, zm, zc, zv, ze, zo) p1 p2).2.2.2.2.2.2.1, (zClose (zk, zn, zi, zt, zs, zr, zd, zy, zm, zc, zv, ze, zo) p1 p2).2.2.2.2.2.2.2.1, (zClose (zk, zn, zi, zt, zs, zr, zd, zy, zm, zc, zv, ze, zo) p1 p2).2.2.2.2.2.2.2.2.1, (zClose (zk, zn, zi, zt, zs, zr, zd, zy, zm, zc, zv, ze, zo) p1 p2).2.2.2.2.2.2.2.2.2.1, (zClose (zk, zn, zi, zt, zs, zr, zd, zy, zm, zc, zv, ze, zo) p1 p2).2.2.2.2.2.2.2.2.2.2.1, (zClose (zk, zn, zi, zt, zs, zr, zd, zy, zm, zc, zv, ze, zo) p1 p2).2.2.2.2.2.2.2.2.2.2.2.1, (zClose (zk, zn, zi, zt, zs, zr, zd, zy, zm, zc, zv, ze, zo) p1 p2).2.2.2.2.2.2.2.2.2.2.2.2.1, (zClose (zk, zn, zi, zt, zs, zr, zd, zy, zm, zc, zv, ze, zo) p1 p2).2.2.2.2.2.2.2.2.2.2.2.2.2)  H.size ((zClose (zk, zn, zi, zt, zs, zr, zd, zy, zm, zc, zv, ze, zo) p1 p2).1)) (cwV 1 hts (yV ylY_94 ym_given ys_given yc_given) rfl rfl rfl (by decide +kernel) ⟨Nat.le_of_ble_eq_true rfl, Nat.le_of_ble_eq_true rfl⟩) (yPre hK hP hD _) rfl rfl hl.1 rfl (lv_room (Nat.le_of_ble_eq_true rfl)) dY_flow_83 ⟨Nat.le_of_ble_eq_true rfl, Nat.le_of_ble_eq_true rfl⟩) hS (fun q _ h => hf35 q h) hf35 (fun r36 v37 t39 H1 locs ht hvm hw38 hB hz1 hk1 hS => ?_)
    obtain ⟨hP1, hK1, hD1⟩ := hB
    rw [ht] at hP1
    replace hD1 := hD1.weaken (fun _ _ _ h => hf35 _ h)
    generalize H1 = H at hP1 hS ⊢
    obtain ⟨rfl, rfl⟩ := Prod.mk.inj (show (r36, v37) = (0, ((zClose (zk, zn, zi, zt, zs, zr, zd, zy, zm, zc, zv, ze, zo) p1 p2).2.1, (zClose (zk, zn, zi, zt, zs, zr, zd, zy, zm, zc, zv, ze, zo) p1 p2).2.2.1, (zClose (zk, zn, zi, zt, zs, zr, zd, zy, zm, zc, zv, ze, zo) p1 p2).2.2.2.1, (zClose (zk, zn, zi, zt, zs, zr, zd, zy, zm, zc, zv, ze, zo) p1 p2).2.2.2.2.1, (zClose (zk, zn, zi, zt, zs, zr, zd, zy, zm, zc, zv, ze, zo) p1 p2).2.2.2.2.2.1, (zClose (zk, zn, zi, zt, zs, zr, zd, zy, zm, zc, zv, ze, zo) p1 p2).2.2.2.2.2.2.1, (zClose (zk, zn, zi, zt, zs, zr, zd, zy, zm, zc, zv, ze, zo) p1 p2).2.2.2.2.2.2.2.1, (zClose (zk, zn, zi, zt, zs, zr, zd, zy, zm, zc, zv, ze, zo) p1 p2).2.2.2.2.2.2.2.2.1, (zClose (zk, zn, zi, zt, zs, zr, zd, zy, zm, zc, zv, ze, zo) p1 p2).2.2.2.2.2.2.2.2.2.1, (zClose (zk, zn, zi, zt, zs, zr, zd, zy, zm, zc, zv, ze, zo) p1 p2).2.2.2.2.2.2.2.2.2.2.1, ((zClose (zk, zn, zi, zt, zs, zr, zd, zy, zm, zc, zv, ze, zo) p1 p2).1), (zClose (zk, zn, zi, zt, zs, zr, zd, zy, zm, zc, zv, ze, zo) p1 p2).2.2.2.2.2.2.2.2.2.2.2.2.1, (zClose (zk, zn, zi, zt, zs, zr, zd, zy, zm, zc, zv, ze, zo) p1 p2).2.2.2.2.2.2.2.2.2.2.2.2.2)) from hw38)
    have hP : va_P D vwCl (yW G ((zClose (zk, zn, zi, zt, zs, zr, zd, zy, zm, zc, zv, ze, zo) p1 p2).2.1, (zClose (zk, zn, zi, zt, zs, zr, zd, zy, zm, zc, zv, ze, zo) p1 p2).2.2.1, (zClose (zk, zn, zi, zt, zs, zr, zd, zy, zm, zc, zv, ze, zo) p1 p2).2.2.2.1, (zClose (zk, zn, zi, zt, zs, zr, zd, zy, zm, zc, zv, ze, zo) p1 p2).2.2.2.2.1, (zClose (zk, zn, zi, zt, zs, zr, zd, zy, zm, zc, zv, ze, zo) p1 p2).2.2.2.2.2.1, (zClose (zk, zn, zi, zt, zs, zr, zd, zy, zm, zc, zv, ze, zo) p1 p2).2.2.2.2.2.2.1, (zClose (zk, zn, zi, zt, zs, zr, zd, zy, zm, zc, zv, ze, zo) p1 p2).2.2.2.2.2.2.2.1, (zClose (zk, zn, zi, zt, zs, zr, zd, zy, zm, zc, zv, ze, zo) p1 p2).2.2.2.2.2.2.2.2.1, (zClose (zk, zn, zi, zt, zs, zr, zd, zy, zm, zc, zv, ze, zo) p1 p2).2.2.2.2.2.2.2.2.2.1, (zClose (zk, zn, zi, zt, zs, zr, zd, zy, zm, zc, zv, ze, zo) p1 p2).2.2.2.2.2.2.2.2.2.2.1, ((zClose (zk, zn, zi, zt, zs, zr, zd, zy, zm, zc, zv, ze, zo) p1 p2).1), (zClose (zk, zn, zi, zt, zs, zr, zd, zy, zm, zc, zv, ze, zo) p1 p2).2.2.2.2.2.2.2.2.2.2.2.2.1, (zClose (zk, zn, zi, zt, zs, zr, zd, zy, zm, zc, zv, ze, zo) p1 p2).2.2.2.2.2.2.2.2.2.2.2.2.2)) H := hP1
    have hD : va_D A (yW G ((zClose (zk, zn, zi, zt, zs, zr, zd, zy, zm, zc, zv, ze, zo) p1 p2).2.1, (zClose (zk, zn, zi, zt, zs, zr, zd, zy, zm, zc, zv, ze, zo) p1 p2).2.2.1, (zClose (zk, zn, zi, zt, zs, zr, zd, zy, zm, zc, zv, ze, zo) p1 p2).2.2.2.1, (zClose (zk, zn, zi, zt, zs, zr, zd, zy, zm, zc, zv, ze, zo) p1 p2).2.2.2.2.1, (zClose (zk, zn, zi, zt, zs, zr, zd, zy, zm, zc, zv, ze, zo) p1 p2).2.2.2.2.2.1, (zClose (zk, zn, zi, zt, zs, zr, zd, zy, zm, zc, zv, ze, zo) p1 p2).2.2.2.2.2.2.1, (zClose (zk, zn, zi, zt, zs, zr, zd, zy, zm, zc, zv, ze, zo) p1 p2).2.2.2.2.2.2.2.1, (zClose (zk, zn, zi, zt, zs, zr, zd, zy, zm, zc, zv, ze, zo) p1 p2).2.2.2.2.2.2.2.2.1, (zClose (zk, zn, zi, zt, zs, zr, zd, zy, zm, zc, zv, ze, zo) p1 p2).2.2.2.2.2.2.2.2.2.1, (zClose (zk, zn, zi, zt, zs, zr, zd, zy, zm, zc, zv, ze, zo) p1 p2).2.2.2.2.2.2.2.2.2.2.1, ((zClose (zk, zn, zi, zt, zs, zr, zd, zy, zm, zc, zv, ze, zo) p1 p2).1), (zClose (zk, zn, zi, zt, zs, zr, zd, zy, zm, zc, zv, ze, zo) p1 p2).2.2.2.2.2.2.2.2.2.2.2.2.1, (zClose (zk, zn, zi, zt, zs, zr, zd, zy, zm, zc, zv, ze, zo) p1 p2).2.2.2.2.2.2.2.2.2.2.2.2.2)) := hD1
    exact W.iret (v := 0) hx hb hr (fun tE ht hW => ⟨⟨0, ((zClose (zk, zn, zi, zt, zs, zr, zd, zy, zm, zc, zv, ze, zo) p1 p2).2.1, (zClose (zk, zn, zi, zt, zs, zr, zd, zy, zm, zc, zv, ze, zo) p1 p2).2.2.1, (zClose (zk, zn, zi, zt, zs, zr, zd, zy, zm, zc, zv, ze, zo) p1 p2).2.2.2.1, (zClose (zk, zn, zi, zt, zs, zr, zd, zy, zm, zc, zv, ze, zo) p1 p2).2.2.2.2.1, (zClose (zk, zn, zi, zt, zs, zr, zd, zy, zm, zc, zv, ze, zo) p1 p2).2.2.2.2.2.1, (zClose (zk, zn, zi, zt, zs, zr, zd, zy, zm, zc, zv, ze, zo) p1 p2).2.2.2.2.2.2.1, (zClose (zk, zn, zi, zt, zs, zr, zd, zy, zm, zc, zv, ze, zo) p1 p2).2.2.2.2.2.2.2.1, (zClose (zk, zn, zi, zt, zs, zr, zd, zy, zm, zc, zv, ze, zo) p1 p2).2.2.2.2.2.2.2.2.1, (zClose (zk, zn, zi, zt, zs, zr, zd, zy, zm, zc, zv, ze, zo) p1 p2).2.2.2.2.2.2.2.2.2.1, (zClose (zk, zn, zi, zt, zs, zr, zd, zy, zm, zc, zv, ze, zo) p1 p2).2.2.2.2.2.2.2.2.2.2.1, ((zClose (zk, zn, zi, zt, zs, zr, zd, zy, zm, zc, zv, ze, zo) p1 p2).1), (zClose (zk, zn, zi, zt, zs, zr, zd, zy, zm, zc, zv, ze, zo) p1 p2).2.2.2.2.2.2.2.2.2.2.2.2.1, (zClose (zk, zn, zi, zt, zs, zr, zd, zy, zm, zc, zv, ze, zo) p1 p2).2.2.2.2.2.2.2.2.2.2.2.2.2), rfl, by first | (simp only [zFlow, zSet, zV, zN, zE, yk, yn, yi, yt, ys, yr, yd, yy, ym, yc, yv, ye, yo, c1, c18, eq_true c29, eq_self, ↓reduceIte, Bool.false_eq_true, Bool.not_false, Bool.not_true, Bool.and_true, Bool.and_false, Bool.true_and, Bool.false_and, decide_true, decide_false] <;> first | done | decide) | (simp only [zFlow, zSet, zV, zN, zE, yk, yn, yi, yt, ys, yr, yd, yy, ym, yc, yv, ye, yo, c1, c18, c29, eq_self, ↓reduceIte, Bool.false_eq_true, Bool.not_false, Bool.not_true, Bool.and_true, Bool.and_false, Bool.true_and, Bool.false_and, decide_true, decide_false] <;> first | done | decide) | (simp [zFlow, zSet, zV, zN, zE, yk, yn, yi, yt, ys, yr, yd, yy, ym, yc, yv, ye, yo, c1, c18, c29]; done) | (simp [zFlow, zSet, zV, zN, zE, yk, yn, yi, yt, ys, yr, yd, yy, ym, yc, yv, ye, yo, c1, c18, eq_true c29]; done), by rw [ht]; exact hP, va_K.moved hW.alike hK, hD⟩, hS.F ht⟩) hS.2.2 dY_flow_86
  by_cases c40 : p0 = 3
  · refine lv_tableIn (off := 86) (tgt := 87) hx hb dY_flow_1 (by rw [c40]; decide) (by rw [c40]; decide) (by rw [c40]; rfl) (by decide) ?_
    refine lv_aload_n hx hb dY_flow_87 rfl (lv_at hl 0 rfl) ?_
    refine lv_iload_n hx hb dY_flow_88 rfl (lv_at hl 3 rfl) ?_
    refine lv_iconst (v := 3) hx hb dY_flow_89 (by decide) ?_
    refine lv_iand hx hb dY_flow_90 ?_
    refine lv_iconst (v := 3) hx hb dY_flow_91 (by decide) ?_
    refine lv_icmp_ne (tgt := 100) hx hb dY_flow_92 (by decide) (fun c41 => ?_) (fun c41 => ?_)
    · refine lv_iload_n hx hb dY_flow_100 rfl (lv_at hl 2 rfl) ?_
      refine lv_iconst (v := 2) hx hb dY_flow_101 (by decide) ?_
      refine lv_iconst (v := 1) hx hb dY_flow_102 (by decide) ?_
      refine lv_iload_n hx hb dY_flow_103 rfl (lv_at hl 3 rfl) ?_
      refine lv_iconst (v := 3) hx hb dY_flow_104 (by decide) ?_
      refine lv_iand hx hb dY_flow_105 ?_
      refine lv_ishl hx hb dY_flow_106 ?_
      refine lv_imul hx hb dY_flow_107 ?_
      refine lv_iadd hx hb dY_flow_108 ?_
      refine lv_iconst (v := 1) hx hb dY_flow_109 (by decide) ?_
      refine lv_isub hx hb dY_flow_110 ?_
      have hf42 := xFree hD hS hA
      refine va_calli (va_runV (As := [.int ((p1 + (2 * ((1 : Int32) <<< ((p2 &&& 3) &&& 31)))) - 1)]) (rest := []) ⟨hx, hb, hml, hown, hts⟩ (j_given l D G (zk, zn, zi, zt, zs, zr, zd, zy, zm, zc, zv, ze, zo)  H.size ((p1 + (2 * ((1 : Int32) <<< ((p2 &&& 3) &&& 31)))) - 1)) (cwV 1 hts (yV ylY_94 ym_given ys_given yc_given) rfl rfl rfl (by decide +kernel) ⟨Nat.le_of_ble_eq_true rfl, Nat.le_of_ble_eq_true rfl⟩) (yPre hK hP hD _) rfl rfl hl.1 rfl (lv_room (Nat.le_of_ble_eq_true rfl)) dY_flow_111 ⟨Nat.le_of_ble_eq_true rfl, Nat.le_of_ble_eq_true rfl⟩) hS (fun q _ h => hf42 q h) hf42 (fun r43 v44 t46 H1 locs ht hvm hw45 hB hz1 hk1 hS => ?_)
      obtain ⟨hP1, hK1, hD1⟩ := hB
      rw [ht] at hP1
      replace hD1 := hD1.weaken (fun _ _ _ h => hf42 _ h)
      generalize H1 = H at hP1 hS ⊢
      obtain ⟨rfl, rfl⟩ := Prod.mk.inj (show (r43, v44) = (0, (zk, zn, zi, zt, zs, zr, zd, zy, zm, zc, ((p1 + (2 * ((1 : Int32) <<< ((p2 &&& 3) &&& 31)))) - 1), ze, zo)) from hw45)
      have hP : va_P D vwCl (yW G (zk, zn, zi, zt, zs, zr, zd, zy, zm, zc, ((p1 + (2 * ((1 : Int32) <<< ((p2 &&& 3) &&& 31)))) - 1), ze, zo)) H := hP1
      have hD : va_D A (yW G (zk, zn, zi, zt, zs, zr, zd, zy, zm, zc, ((p1 + (2 * ((1 : Int32) <<< ((p2 &&& 3) &&& 31)))) - 1), ze, zo)) := hD1
      exact W.iret (v := 0) hx hb hr (fun tE ht hW => ⟨⟨0, (zk, zn, zi, zt, zs, zr, zd, zy, zm, zc, ((p1 + (2 * ((1 : Int32) <<< ((p2 &&& 3) &&& 31)))) - 1), ze, zo), rfl, by first | (simp only [zFlow, zSet, zV, zN, zE, yk, yn, yi, yt, ys, yr, yd, yy, ym, yc, yv, ye, yo, c1, c18, c29, eq_true c40, c41, eq_self, ↓reduceIte, Bool.false_eq_true, Bool.not_false, Bool.not_true, Bool.and_true, Bool.and_false, Bool.true_and, Bool.false_and, decide_true, decide_false] <;> first | done | decide) | (simp only [zFlow, zSet, zV, zN, zE, yk, yn, yi, yt, ys, yr, yd, yy, ym, yc, yv, ye, yo, c1, c18, c29, c40, c41, eq_self, ↓reduceIte, Bool.false_eq_true, Bool.not_false, Bool.not_true, Bool.and_true, Bool.and_false, Bool.true_and, Bool.false_and, decide_true, decide_false] <;> first | done | decide) | (simp [zFlow, zSet, zV, zN, zE, yk, yn, yi, yt, ys, yr, yd, yy, ym, yc, yv, ye, yo, c1, c18, c29, c40, c41]; done) | (simp [zFlow, zSet, zV, zN, zE, yk, yn, yi, yt, ys, yr, yd, yy, ym, yc, yv, ye, yo, c1, c18, c29, eq_true c40, c41]; done), by rw [ht]; exact hP, va_K.moved hW.alike hK, hD⟩, hS.F ht⟩) hS.2.2 dY_flow_114
    · refine lv_iload_n hx hb dY_flow_95 rfl (lv_at hl 2 rfl) ?_
      refine lv_ineg hx hb dY_flow_96 ?_
      refine lv_goto (tgt := 111) hx hb dY_flow_97 (by decide) ?_
      have hf47 := xFree hD hS hA
      refine va_calli (va_runV (As := [.int (-p1)]) (rest := []) ⟨hx, hb, hml, hown, hts⟩ (j_given l D G (zk, zn, zi, zt, zs, zr, zd, zy, zm, zc, zv, ze, zo)  H.size (-p1)) (cwV 1 hts (yV ylY_94 ym_given ys_given yc_given) rfl rfl rfl (by decide +kernel) ⟨Nat.le_of_ble_eq_true rfl, Nat.le_of_ble_eq_true rfl⟩) (yPre hK hP hD _) rfl rfl hl.1 rfl (lv_room (Nat.le_of_ble_eq_true rfl)) dY_flow_111 ⟨Nat.le_of_ble_eq_true rfl, Nat.le_of_ble_eq_true rfl⟩) hS (fun q _ h => hf47 q h) hf47 (fun r48 v49 t51 H1 locs ht hvm hw50 hB hz1 hk1 hS => ?_)
      obtain ⟨hP1, hK1, hD1⟩ := hB
      rw [ht] at hP1
      replace hD1 := hD1.weaken (fun _ _ _ h => hf47 _ h)
      generalize H1 = H at hP1 hS ⊢
      obtain ⟨rfl, rfl⟩ := Prod.mk.inj (show (r48, v49) = (0, (zk, zn, zi, zt, zs, zr, zd, zy, zm, zc, (-p1), ze, zo)) from hw50)
      have hP : va_P D vwCl (yW G (zk, zn, zi, zt, zs, zr, zd, zy, zm, zc, (-p1), ze, zo)) H := hP1
      have hD : va_D A (yW G (zk, zn, zi, zt, zs, zr, zd, zy, zm, zc, (-p1), ze, zo)) := hD1
      exact W.iret (v := 0) hx hb hr (fun tE ht hW => ⟨⟨0, (zk, zn, zi, zt, zs, zr, zd, zy, zm, zc, (-p1), ze, zo), rfl, by first | (simp only [zFlow, zSet, zV, zN, zE, yk, yn, yi, yt, ys, yr, yd, yy, ym, yc, yv, ye, yo, c1, c18, c29, eq_true c40, eq_true c41, eq_self, ↓reduceIte, Bool.false_eq_true, Bool.not_false, Bool.not_true, Bool.and_true, Bool.and_false, Bool.true_and, Bool.false_and, decide_true, decide_false] <;> first | done | decide) | (simp only [zFlow, zSet, zV, zN, zE, yk, yn, yi, yt, ys, yr, yd, yy, ym, yc, yv, ye, yo, c1, c18, c29, c40, c41, eq_self, ↓reduceIte, Bool.false_eq_true, Bool.not_false, Bool.not_true, Bool.and_true, Bool.and_false, Bool.true_and, Bool.false_and, decide_true, decide_false] <;> first | done | decide) | (simp [zFlow, zSet, zV, zN, zE, yk, yn, yi, yt, ys, yr, yd, yy, ym, yc, yv, ye, yo, c1, c18, c29, c40, c41]; done) | (simp [zFlow, zSet, zV, zN, zE, yk, yn, yi, yt, ys, yr, yd, yy, ym, yc, yv, ye, yo, c1, c18, c29, eq_true c40, eq_true c41]; done), by rw [ht]; exact hP, va_K.moved hW.alike hK, hD⟩, hS.F ht⟩) hS.2.2 dY_flow_114
  by_cases c52 : p0 = 4
  · refine lv_tableIn (off := 114) (tgt := 115) hx hb dY_flow_1 (by rw [c52]; decide) (by rw [c52]; decide) (by rw [c52]; rfl) (by decide) ?_
    refine lv_aload_n hx hb dY_flow_115 rfl (lv_at hl 0 rfl) ?_
    refine lv_iload_n hx hb dY_flow_116 rfl (lv_at hl 2 rfl) ?_
    refine lv_iload_n hx hb dY_flow_117 rfl (lv_at hl 2 rfl) ?_
    refine lv_iconst (v := 1) hx hb dY_flow_118 (by decide) ?_
    refine lv_iadd hx hb dY_flow_119 ?_
    refine lv_iload_n hx hb dY_flow_120 rfl (lv_at hl 3 rfl) ?_
    refine lv_imul hx hb dY_flow_121 ?_
    refine lv_iadd hx hb dY_flow_122 ?_
    refine lv_iload_n hx hb dY_flow_123 rfl (lv_at hl 3 rfl) ?_
    refine lv_iadd hx hb dY_flow_124 ?_
    have hf53 := xFree hD hS hA
    refine va_calli (va_runV (As := [.int ((p1 + ((p1 + 1) * p2)) + p2)]) (rest := []) ⟨hx, hb, hml, hown, hts⟩ (j_given l D G (zk, zn, zi, zt, zs, zr, zd, zy, zm, zc, zv, ze, zo)  H.size ((p1 + ((p1 + 1) * p2)) + p2)) (cwV 1 hts (yV ylY_94 ym_given ys_given yc_given) rfl rfl rfl (by decide +kernel) ⟨Nat.le_of_ble_eq_true rfl, Nat.le_of_ble_eq_true rfl⟩) (yPre hK hP hD _) rfl rfl hl.1 rfl (lv_room (Nat.le_of_ble_eq_true rfl)) dY_flow_125 ⟨Nat.le_of_ble_eq_true rfl, Nat.le_of_ble_eq_true rfl⟩) hS (fun q _ h => hf53 q h) hf53 (fun r54 v55 t57 H1 locs ht hvm hw56 hB hz1 hk1 hS => ?_)
    obtain ⟨hP1, hK1, hD1⟩ := hB
    rw [ht] at hP1
    replace hD1 := hD1.weaken (fun _ _ _ h => hf53 _ h)
    generalize H1 = H at hP1 hS ⊢
    obtain ⟨rfl, rfl⟩ := Prod.mk.inj (show (r54, v55) = (0, (zk, zn, zi, zt, zs, zr, zd, zy, zm, zc, ((p1 + ((p1 + 1) * p2)) + p2), ze, zo)) from hw56)
    have hP : va_P D vwCl (yW G (zk, zn, zi, zt, zs, zr, zd, zy, zm, zc, ((p1 + ((p1 + 1) * p2)) + p2), ze, zo)) H := hP1
    have hD : va_D A (yW G (zk, zn, zi, zt, zs, zr, zd, zy, zm, zc, ((p1 + ((p1 + 1) * p2)) + p2), ze, zo)) := hD1
    exact W.iret (v := 0) hx hb hr (fun tE ht hW => ⟨⟨0, (zk, zn, zi, zt, zs, zr, zd, zy, zm, zc, ((p1 + ((p1 + 1) * p2)) + p2), ze, zo), rfl, by first | (simp only [zFlow, zSet, zV, zN, zE, yk, yn, yi, yt, ys, yr, yd, yy, ym, yc, yv, ye, yo, c1, c18, c29, c40, eq_true c52, eq_self, ↓reduceIte, Bool.false_eq_true, Bool.not_false, Bool.not_true, Bool.and_true, Bool.and_false, Bool.true_and, Bool.false_and, decide_true, decide_false] <;> first | done | decide) | (simp only [zFlow, zSet, zV, zN, zE, yk, yn, yi, yt, ys, yr, yd, yy, ym, yc, yv, ye, yo, c1, c18, c29, c40, c52, eq_self, ↓reduceIte, Bool.false_eq_true, Bool.not_false, Bool.not_true, Bool.and_true, Bool.and_false, Bool.true_and, Bool.false_and, decide_true, decide_false] <;> first | done | decide) | (simp [zFlow, zSet, zV, zN, zE, yk, yn, yi, yt, ys, yr, yd, yy, ym, yc, yv, ye, yo, c1, c18, c29, c40, c52]; done) | (simp [zFlow, zSet, zV, zN, zE, yk, yn, yi, yt, ys, yr, yd, yy, ym, yc, yv, ye, yo, c1, c18, c29, c40, eq_true c52]; done), by rw [ht]; exact hP, va_K.moved hW.alike hK, hD⟩, hS.F ht⟩) hS.2.2 dY_flow_128
  by_cases c58 : p0 = 5
  · refine lv_tableIn (off := 128) (tgt := 129) hx hb dY_flow_1 (by rw [c58]; decide) (by rw [c58]; decide) (by rw [c58]; rfl) (by decide) ?_
    refine lv_iload_n hx hb dY_flow_129 rfl (lv_at hl 2 rfl) ?_
    refine lv_sipush (v := 1000) hx hb dY_flow_130 (by decide) ?_
    refine lv_icmp_le (tgt := 138) hx hb dY_flow_133 (by decide) (fun c59 => ?_) (fun c59 => ?_)
    · refine lv_iload_n hx hb dY_flow_138 rfl (lv_at hl 2 rfl) ?_
      refine lv_if_ge (tgt := 145) hx hb dY_flow_139 (by decide) (fun c60 => ?_) (fun c60 => ?_)
      · refine lv_iload_n hx hb dY_flow_145 rfl (lv_at hl 3 rfl) ?_
        refine lv_iconst (v := 0) hx hb dY_flow_146 (by decide) ?_
        refine lv_iload_n hx hb dY_flow_147 rfl (lv_at hl 2 rfl) ?_
        refine lv_iconst (v := 1) hx hb dY_flow_148 (by decide) ?_
        refine lv_isub hx hb dY_flow_149 ?_
        refine vp_callSi (va_Run.run (va_runS (As := [.int p2, .int 0, .int (p1 - 1)]) (rest := []) ⟨hx, hb, hml, hown, hts⟩ (j_inn l p2 0 (p1 - 1)) (va_cwS 3 hts (yS ylY_48 ym_inn yini yc_inn) rfl rfl rfl (by decide +kernel) ⟨Nat.le_of_ble_eq_true rfl, Nat.le_of_ble_eq_true rfl⟩) preEq rfl rfl hl.1 rfl (lv_room (Nat.le_of_ble_eq_true rfl)) dY_flow_150 ⟨Nat.le_of_ble_eq_true rfl, Nat.le_of_ble_eq_true rfl⟩)) (fun r61 hw62 => ?_)
        rcases bI_c hw62 with ⟨rfl, b63⟩ | ⟨rfl, b63⟩
        · refine lv_if_eq (tgt := 166) hx hb dY_flow_153 (by decide) (fun cz => absurd cz (by decide)) (fun _ => ?_)
          refine lv_aload_n hx hb dY_flow_156 rfl (lv_at hl 0 rfl) ?_
          refine lv_iload_n hx hb dY_flow_157 rfl (lv_at hl 3 rfl) ?_
          refine lv_iload_n hx hb dY_flow_158 rfl (lv_at hl 3 rfl) ?_
          refine lv_imul hx hb dY_flow_159 ?_
          have hf64 := xFree hD hS hA
          refine va_calli (va_runV (As := [.int (p2 * p2)]) (rest := []) ⟨hx, hb, hml, hown, hts⟩ (j_given l D G (zk, zn, zi, zt, zs, zr, zd, zy, zm, zc, zv, ze, zo)  H.size (p2 * p2)) (cwV 1 hts (yV ylY_94 ym_given ys_given yc_given) rfl rfl rfl (by decide +kernel) ⟨Nat.le_of_ble_eq_true rfl, Nat.le_of_ble_eq_true rfl⟩) (yPre hK hP hD _) rfl rfl hl.1 rfl (lv_room (Nat.le_of_ble_eq_true rfl)) dY_flow_160 ⟨Nat.le_of_ble_eq_true rfl, Nat.le_of_ble_eq_true rfl⟩) hS (fun q _ h => hf64 q h) hf64 (fun r65 v66 t68 H1 locs ht hvm hw67 hB hz1 hk1 hS => ?_)
          obtain ⟨hP1, hK1, hD1⟩ := hB
          rw [ht] at hP1
          replace hD1 := hD1.weaken (fun _ _ _ h => hf64 _ h)
          generalize H1 = H at hP1 hS ⊢
          obtain ⟨rfl, rfl⟩ := Prod.mk.inj (show (r65, v66) = (0, (zk, zn, zi, zt, zs, zr, zd, zy, zm, zc, (p2 * p2), ze, zo)) from hw67)
          have hP : va_P D vwCl (yW G (zk, zn, zi, zt, zs, zr, zd, zy, zm, zc, (p2 * p2), ze, zo)) H := hP1
          have hD : va_D A (yW G (zk, zn, zi, zt, zs, zr, zd, zy, zm, zc, (p2 * p2), ze, zo)) := hD1
          refine lv_goto (tgt := 167) hx hb dY_flow_163 (by decide) ?_
          exact W.iret (v := 0) hx hb hr (fun tE ht hW => ⟨⟨0, (zk, zn, zi, zt, zs, zr, zd, zy, zm, zc, (p2 * p2), ze, zo), rfl, by first | (simp only [zFlow, zSet, zV, zN, zE, yk, yn, yi, yt, ys, yr, yd, yy, ym, yc, yv, ye, yo, c1, c18, c29, c40, c52, eq_true c58, eq_true c59, eq_true c60, b63, eq_self, ↓reduceIte, Bool.false_eq_true, Bool.not_false, Bool.not_true, Bool.and_true, Bool.and_false, Bool.true_and, Bool.false_and, decide_true, decide_false] <;> first | done | decide) | (simp only [zFlow, zSet, zV, zN, zE, yk, yn, yi, yt, ys, yr, yd, yy, ym, yc, yv, ye, yo, c1, c18, c29, c40, c52, c58, c59, c60, b63, eq_self, ↓reduceIte, Bool.false_eq_true, Bool.not_false, Bool.not_true, Bool.and_true, Bool.and_false, Bool.true_and, Bool.false_and, decide_true, decide_false] <;> first | done | decide) | (simp [zFlow, zSet, zV, zN, zE, yk, yn, yi, yt, ys, yr, yd, yy, ym, yc, yv, ye, yo, c1, c18, c29, c40, c52, c58, c59, c60, b63]; done) | (simp [zFlow, zSet, zV, zN, zE, yk, yn, yi, yt, ys, yr, yd, yy, ym, yc, yv, ye, yo, c1, c18, c29, c40, c52, eq_true c58, eq_true c59, eq_true c60, b63]; done), by rw [ht]; exact hP, va_K.moved hW.alike hK, hD⟩, hS.F ht⟩) hS.2.2 dY_flow_167
        · refine lv_if_eq (tgt := 166) hx hb dY_flow_153 (by decide) (fun _ => ?_) (fun cz => absurd cz (by decide))
          refine lv_iconst (v := 4) hx hb dY_flow_166 (by decide) ?_
          exact W.iret (v := 4) hx hb hr (fun tE ht hW => ⟨⟨4, (zk, zn, zi, zt, zs, zr, zd, zy, zm, zc, zv, ze, zo), rfl, by first | (simp only [zFlow, zSet, zV, zN, zE, yk, yn, yi, yt, ys, yr, yd, yy, ym, yc, yv, ye, yo, c1, c18, c29, c40, c52, eq_true c58, eq_true c59, eq_true c60, b63, eq_self, ↓reduceIte, Bool.false_eq_true, Bool.not_false, Bool.not_true, Bool.and_true, Bool.and_false, Bool.true_and, Bool.false_and, decide_true, decide_false] <;> first | done | decide) | (simp only [zFlow, zSet, zV, zN, zE, yk, yn, yi, yt, ys, yr, yd, yy, ym, yc, yv, ye, yo, c1, c18, c29, c40, c52, c58, c59, c60, b63, eq_self, ↓reduceIte, Bool.false_eq_true, Bool.not_false, Bool.not_true, Bool.and_true, Bool.and_false, Bool.true_and, Bool.false_and, decide_true, decide_false] <;> first | done | decide) | (simp [zFlow, zSet, zV, zN, zE, yk, yn, yi, yt, ys, yr, yd, yy, ym, yc, yv, ye, yo, c1, c18, c29, c40, c52, c58, c59, c60, b63]; done) | (simp [zFlow, zSet, zV, zN, zE, yk, yn, yi, yt, ys, yr, yd, yy, ym, yc, yv, ye, yo, c1, c18, c29, c40, c52, eq_true c58, eq_true c59, eq_true c60, b63]; done), by rw [ht]; exact hP, va_K.moved hW.alike hK, hD⟩, hS.F ht⟩) hS.2.2 dY_flow_167
      · refine lv_bipush (v := 6) hx hb dY_flow_142 (by decide) ?_
        exact W.iret (v := 6) hx hb hr (fun tE ht hW => ⟨⟨6, (zk, zn, zi, zt, zs, zr, zd, zy, zm, zc, zv, ze, zo), rfl, by first | (simp only [zFlow, zSet, zV, zN, zE, yk, yn, yi, yt, ys, yr, yd, yy, ym, yc, yv, ye, yo, c1, c18, c29, c40, c52, eq_true c58, eq_true c59, c60, eq_self, ↓reduceIte, Bool.false_eq_true, Bool.not_false, Bool.not_true, Bool.and_true, Bool.and_false, Bool.true_and, Bool.false_and, decide_true, decide_false] <;> first | done | decide) | (simp only [zFlow, zSet, zV, zN, zE, yk, yn, yi, yt, ys, yr, yd, yy, ym, yc, yv, ye, yo, c1, c18, c29, c40, c52, c58, c59, c60, eq_self, ↓reduceIte, Bool.false_eq_true, Bool.not_false, Bool.not_true, Bool.and_true, Bool.and_false, Bool.true_and, Bool.false_and, decide_true, decide_false] <;> first | done | decide) | (simp [zFlow, zSet, zV, zN, zE, yk, yn, yi, yt, ys, yr, yd, yy, ym, yc, yv, ye, yo, c1, c18, c29, c40, c52, c58, c59, c60]; done) | (simp [zFlow, zSet, zV, zN, zE, yk, yn, yi, yt, ys, yr, yd, yy, ym, yc, yv, ye, yo, c1, c18, c29, c40, c52, eq_true c58, eq_true c59, c60]; done), by rw [ht]; exact hP, va_K.moved hW.alike hK, hD⟩, hS.F ht⟩) hS.2.2 dY_flow_144
    · refine lv_iconst (v := (-1)) hx hb dY_flow_136 (by decide) ?_
      exact W.iret (v := (-1)) hx hb hr (fun tE ht hW => ⟨⟨(-1), (zk, zn, zi, zt, zs, zr, zd, zy, zm, zc, zv, ze, zo), rfl, by first | (simp only [zFlow, zSet, zV, zN, zE, yk, yn, yi, yt, ys, yr, yd, yy, ym, yc, yv, ye, yo, c1, c18, c29, c40, c52, eq_true c58, c59, eq_self, ↓reduceIte, Bool.false_eq_true, Bool.not_false, Bool.not_true, Bool.and_true, Bool.and_false, Bool.true_and, Bool.false_and, decide_true, decide_false] <;> first | done | decide) | (simp only [zFlow, zSet, zV, zN, zE, yk, yn, yi, yt, ys, yr, yd, yy, ym, yc, yv, ye, yo, c1, c18, c29, c40, c52, c58, c59, eq_self, ↓reduceIte, Bool.false_eq_true, Bool.not_false, Bool.not_true, Bool.and_true, Bool.and_false, Bool.true_and, Bool.false_and, decide_true, decide_false] <;> first | done | decide) | (simp [zFlow, zSet, zV, zN, zE, yk, yn, yi, yt, ys, yr, yd, yy, ym, yc, yv, ye, yo, c1, c18, c29, c40, c52, c58, c59]; done) | (simp [zFlow, zSet, zV, zN, zE, yk, yn, yi, yt, ys, yr, yd, yy, ym, yc, yv, ye, yo, c1, c18, c29, c40, c52, eq_true c58, c59]; done), by rw [ht]; exact hP, va_K.moved hW.alike hK, hD⟩, hS.F ht⟩) hS.2.2 dY_flow_137
  by_cases c69 : p0 = 6
  · refine lv_tableIn (off := 167) (tgt := 168) hx hb dY_flow_1 (by rw [c69]; decide) (by rw [c69]; decide) (by rw [c69]; rfl) (by decide) ?_
    refine lv_aload_n hx hb dY_flow_168 rfl (lv_at hl 0 rfl) ?_
    refine lv_iload_n hx hb dY_flow_169 rfl (lv_at hl 2 rfl) ?_
    refine lv_iconst (v := 1) hx hb dY_flow_170 (by decide) ?_
    refine lv_iand hx hb dY_flow_171 ?_
    refine lv_if_ne (tgt := 180) hx hb dY_flow_172 (by decide) (fun c70 => ?_) (fun c70 => ?_)
    · refine lv_ldc (v := 72509) hx hb hown (hty _ yk_104) dY_flow_180 ?_
      have hf71 := xFree hD hS hA
      refine va_calli (va_runV (As := [.int 72509]) (rest := []) ⟨hx, hb, hml, hown, hts⟩ (j_given l D G (zk, zn, zi, zt, zs, zr, zd, zy, zm, zc, zv, ze, zo)  H.size 72509) (cwV 1 hts (yV ylY_94 ym_given ys_given yc_given) rfl rfl rfl (by decide +kernel) ⟨Nat.le_of_ble_eq_true rfl, Nat.le_of_ble_eq_true rfl⟩) (yPre hK hP hD _) rfl rfl hl.1 rfl (lv_room (Nat.le_of_ble_eq_true rfl)) dY_flow_182 ⟨Nat.le_of_ble_eq_true rfl, Nat.le_of_ble_eq_true rfl⟩) hS (fun q _ h => hf71 q h) hf71 (fun r72 v73 t75 H1 locs ht hvm hw74 hB hz1 hk1 hS => ?_)
      obtain ⟨hP1, hK1, hD1⟩ := hB
      rw [ht] at hP1
      replace hD1 := hD1.weaken (fun _ _ _ h => hf71 _ h)
      generalize H1 = H at hP1 hS ⊢
      obtain ⟨rfl, rfl⟩ := Prod.mk.inj (show (r72, v73) = (0, (zk, zn, zi, zt, zs, zr, zd, zy, zm, zc, 72509, ze, zo)) from hw74)
      have hP : va_P D vwCl (yW G (zk, zn, zi, zt, zs, zr, zd, zy, zm, zc, 72509, ze, zo)) H := hP1
      have hD : va_D A (yW G (zk, zn, zi, zt, zs, zr, zd, zy, zm, zc, 72509, ze, zo)) := hD1
      exact W.iret (v := 0) hx hb hr (fun tE ht hW => ⟨⟨0, (zk, zn, zi, zt, zs, zr, zd, zy, zm, zc, 72509, ze, zo), rfl, by first | (simp only [zFlow, zSet, zV, zN, zE, yk, yn, yi, yt, ys, yr, yd, yy, ym, yc, yv, ye, yo, c1, c18, c29, c40, c52, c58, eq_true c69, c70, eq_self, ↓reduceIte, Bool.false_eq_true, Bool.not_false, Bool.not_true, Bool.and_true, Bool.and_false, Bool.true_and, Bool.false_and, decide_true, decide_false] <;> first | done | decide) | (simp only [zFlow, zSet, zV, zN, zE, yk, yn, yi, yt, ys, yr, yd, yy, ym, yc, yv, ye, yo, c1, c18, c29, c40, c52, c58, c69, c70, eq_self, ↓reduceIte, Bool.false_eq_true, Bool.not_false, Bool.not_true, Bool.and_true, Bool.and_false, Bool.true_and, Bool.false_and, decide_true, decide_false] <;> first | done | decide) | (simp [zFlow, zSet, zV, zN, zE, yk, yn, yi, yt, ys, yr, yd, yy, ym, yc, yv, ye, yo, c1, c18, c29, c40, c52, c58, c69, c70]; done) | (simp [zFlow, zSet, zV, zN, zE, yk, yn, yi, yt, ys, yr, yd, yy, ym, yc, yv, ye, yo, c1, c18, c29, c40, c52, c58, eq_true c69, c70]; done), by rw [ht]; exact hP, va_K.moved hW.alike hK, hD⟩, hS.F ht⟩) hS.2.2 dY_flow_185
    · refine lv_ldc (v := 250809) hx hb hown (hty _ yk_103) dY_flow_175 ?_
      refine lv_goto (tgt := 182) hx hb dY_flow_177 (by decide) ?_
      have hf76 := xFree hD hS hA
      refine va_calli (va_runV (As := [.int 250809]) (rest := []) ⟨hx, hb, hml, hown, hts⟩ (j_given l D G (zk, zn, zi, zt, zs, zr, zd, zy, zm, zc, zv, ze, zo)  H.size 250809) (cwV 1 hts (yV ylY_94 ym_given ys_given yc_given) rfl rfl rfl (by decide +kernel) ⟨Nat.le_of_ble_eq_true rfl, Nat.le_of_ble_eq_true rfl⟩) (yPre hK hP hD _) rfl rfl hl.1 rfl (lv_room (Nat.le_of_ble_eq_true rfl)) dY_flow_182 ⟨Nat.le_of_ble_eq_true rfl, Nat.le_of_ble_eq_true rfl⟩) hS (fun q _ h => hf76 q h) hf76 (fun r77 v78 t80 H1 locs ht hvm hw79 hB hz1 hk1 hS => ?_)
      obtain ⟨hP1, hK1, hD1⟩ := hB
      rw [ht] at hP1
      replace hD1 := hD1.weaken (fun _ _ _ h => hf76 _ h)
      generalize H1 = H at hP1 hS ⊢
      obtain ⟨rfl, rfl⟩ := Prod.mk.inj (show (r77, v78) = (0, (zk, zn, zi, zt, zs, zr, zd, zy, zm, zc, 250809, ze, zo)) from hw79)
      have hP : va_P D vwCl (yW G (zk, zn, zi, zt, zs, zr, zd, zy, zm, zc, 250809, ze, zo)) H := hP1
      have hD : va_D A (yW G (zk, zn, zi, zt, zs, zr, zd, zy, zm, zc, 250809, ze, zo)) := hD1
      exact W.iret (v := 0) hx hb hr (fun tE ht hW => ⟨⟨0, (zk, zn, zi, zt, zs, zr, zd, zy, zm, zc, 250809, ze, zo), rfl, by first | (simp only [zFlow, zSet, zV, zN, zE, yk, yn, yi, yt, ys, yr, yd, yy, ym, yc, yv, ye, yo, c1, c18, c29, c40, c52, c58, eq_true c69, eq_true c70, eq_self, ↓reduceIte, Bool.false_eq_true, Bool.not_false, Bool.not_true, Bool.and_true, Bool.and_false, Bool.true_and, Bool.false_and, decide_true, decide_false] <;> first | done | decide) | (simp only [zFlow, zSet, zV, zN, zE, yk, yn, yi, yt, ys, yr, yd, yy, ym, yc, yv, ye, yo, c1, c18, c29, c40, c52, c58, c69, c70, eq_self, ↓reduceIte, Bool.false_eq_true, Bool.not_false, Bool.not_true, Bool.and_true, Bool.and_false, Bool.true_and, Bool.false_and, decide_true, decide_false] <;> first | done | decide) | (simp [zFlow, zSet, zV, zN, zE, yk, yn, yi, yt, ys, yr, yd, yy, ym, yc, yv, ye, yo, c1, c18, c29, c40, c52, c58, c69, c70]; done) | (simp [zFlow, zSet, zV, zN, zE, yk, yn, yi, yt, ys, yr, yd, yy, ym, yc, yv, ye, yo, c1, c18, c29, c40, c52, c58, eq_true c69, eq_true c70]; done), by rw [ht]; exact hP, va_K.moved hW.alike hK, hD⟩, hS.F ht⟩) hS.2.2 dY_flow_185
  refine lv_tableOut (tgt := 186) hx hb dY_flow_1 (by have z0 := lv_neT (k := 0) (a := 0) c1 (by decide); have z1 := lv_neT (k := 1) (a := 1) c18 (by decide); have z2 := lv_neT (k := 2) (a := 2) c29 (by decide); have z3 := lv_neT (k := 3) (a := 3) c40 (by decide); have z4 := lv_neT (k := 4) (a := 4) c52 (by decide); have z5 := lv_neT (k := 5) (a := 5) c58 (by decide); have z6 := lv_neT (k := 6) (a := 6) c69 (by decide); omega) (by decide) ?_
  refine lv_iconst (v := (-1)) hx hb dY_flow_186 (by decide) ?_
  exact W.iret (v := (-1)) hx hb hr (fun tE ht hW => ⟨⟨(-1), (zk, zn, zi, zt, zs, zr, zd, zy, zm, zc, zv, ze, zo), rfl, by first | (simp only [zFlow, zSet, zV, zN, zE, yk, yn, yi, yt, ys, yr, yd, yy, ym, yc, yv, ye, yo, c1, c18, c29, c40, c52, c58, c69, eq_self, ↓reduceIte, Bool.false_eq_true, Bool.not_false, Bool.not_true, Bool.and_true, Bool.and_false, Bool.true_and, Bool.false_and, decide_true, decide_false] <;> first | done | decide) | (simp [zFlow, zSet, zV, zN, zE, yk, yn, yi, yt, ys, yr, yd, yy, ym, yc, yv, ye, yo, c1, c18, c29, c40, c52, c58, c69]; done), by rw [ht]; exact hP, va_K.moved hW.alike hK, hD⟩, hS.F ht⟩) hS.2.2 dY_flow_187
set_option maxHeartbeats 8000000 in
set_option maxRecDepth 100000 in
theorem j_number (l : Launch) (D : va_G) (G : YF) (v : YS) (sz : Nat) (p0 p1 p2 : Int32) : Met l yY_number wY_number ({ frames := 2, cells := 0, slots := 0, locals := 42 }) (yPc D G v sz [.ref G.1, .int p0, .int p1, .int p2]) (va_Qi (fun (r : Int32) (w : YS) => (r, w) = zNum v p0 p1 p2) (yB D G (va_A (yW G v) sz)) (va_A (yW G v) sz)) 0 0 (va_A (yW G v) sz) := by
  obtain ⟨zk, zn, zi, zt, zs, zr, zd, zy, zm, zc, zv, ze, zo⟩ := v
  refine Met.ofW (cc := cY_number) (maxL := 4) (ret := (Option.some Jvm.ClassFile.FieldType.int)) (by decide) rfl ?_
  intro p e s m args below meth c s₁ B hml hv
  obtain ⟨rfl, hsz, hP, hK, hD0⟩ := hv
  have hx := B.exec
  have hb := B.bytes
  have hr := B.returns
  have hts := atoms_spec (ws := wY_number) B.pre
  have hty : ∀ w ∈ yAll, w.before _ s = true := fun w h => hts w (List.mem_cons_of_mem _ h)
  have hown : s.vm.findClass RY = some m.cls := findClass_of_methodNamed B.named
  have hlocks := B.notSynchronized
  subst hsz
  have hD := hD0.self (sz := s.heap.size)
  generalize hAe : va_A (yW G (zk, zn, zi, zt, zs, zr, zd, zy, zm, zc, zv, ze, zo)) s.heap.size = A at hD ⊢
  have hA : ∀ q : Nat, s.heap.size ≤ q → A q := fun q h => by rw [← hAe]; exact Or.inr h
  have hS : va_S A s.heap s.heap [] := va_S.rf
  refine xHeap (C := fun H => va_P D vwCl (yW G (zk, zn, zi, zt, zs, zr, zd, zy, zm, zc, zv, ze, zo)) H ∧ va_S A s.heap H []) ⟨hP, hS⟩ (fun H hC => ?_)
  obtain ⟨hP, hS⟩ := hC
  have hl := lv_entry ([.ref G.1, .int p0, .int p1, .int p2]) (n := 4) (Nat.le_of_ble_eq_true rfl)
  rw [lg_entry_eq]
  generalize (lg_sl ([.ref G.1, .int p0, .int p1, .int p2]) ++ List.replicate (4 - (lg_sl ([.ref G.1, .int p0, .int p1, .int p2])).length) Slot.unset).toArray = ls at hl ⊢
  have hl : lv_has ls 4 [(0, .ref G.1), (1, .int p0), (2, .int p1), (3, .int p2)] := hl
  refine lv_iload_n hx hb dY_number_0 rfl (lv_at hl 1 rfl) ?_
  by_cases c1 : p0 = 0
  · refine lv_tableIn (off := 55) (tgt := 56) hx hb dY_number_1 (by rw [c1]; decide) (by rw [c1]; decide) (by rw [c1]; rfl) (by decide) ?_
    refine lv_aload_n hx hb dY_number_56 rfl (lv_at hl 0 rfl) ?_
    refine lv_iload_n hx hb dY_number_57 rfl (lv_at hl 2 rfl) ?_
    refine vp_callSl (va_Run.run (va_runS (As := [.int p1]) (rest := [.ref G.1]) ⟨hx, hb, hml, hown, hts⟩ (j_rounded l p1) (va_cwS 1 hts (yS ylY_123 ym_rounded yini yc_rounded) rfl rfl rfl (by decide +kernel) ⟨Nat.le_of_ble_eq_true rfl, Nat.le_of_ble_eq_true rfl⟩) preEq rfl rfl hl.1 rfl (lv_room (Nat.le_of_ble_eq_true rfl)) dY_number_58 ⟨Nat.le_of_ble_eq_true rfl, Nat.le_of_ble_eq_true rfl⟩)) (fun r2 hw3 => ?_)
    subst hw3
    refine vp_callSi (va_Run.run (va_runS (As := [.long (fRnd p1)]) (rest := [.ref G.1]) ⟨hx, hb, hml, hown, hts⟩ (j_held l (fRnd p1)) (va_cwS 1 hts (yS ylY_115 ym_held yini yc_held) rfl rfl rfl (by decide +kernel) ⟨Nat.le_of_ble_eq_true rfl, Nat.le_of_ble_eq_true rfl⟩) preEq rfl rfl hl.1 rfl (lv_room (Nat.le_of_ble_eq_true rfl)) dY_number_61 ⟨Nat.le_of_ble_eq_true rfl, Nat.le_of_ble_eq_true rfl⟩)) (fun r4 hw5 => ?_)
    subst hw5
    have hf6 := xFree hD hS hA
    refine va_calli (va_runV (As := [.int (fHeld (fRnd p1))]) (rest := []) ⟨hx, hb, hml, hown, hts⟩ (j_given l D G (zk, zn, zi, zt, zs, zr, zd, zy, zm, zc, zv, ze, zo)  H.size (fHeld (fRnd p1))) (cwV 1 hts (yV ylY_94 ym_given ys_given yc_given) rfl rfl rfl (by decide +kernel) ⟨Nat.le_of_ble_eq_true rfl, Nat.le_of_ble_eq_true rfl⟩) (yPre hK hP hD _) rfl rfl hl.1 rfl (lv_room (Nat.le_of_ble_eq_true rfl)) dY_number_64 ⟨Nat.le_of_ble_eq_true rfl, Nat.le_of_ble_eq_true rfl⟩) hS (fun q _ h => hf6 q h) hf6 (fun r7 v8 t10 H1 locs ht hvm hw9 hB hz1 hk1 hS => ?_)
    obtain ⟨hP1, hK1, hD1⟩ := hB
    rw [ht] at hP1
    replace hD1 := hD1.weaken (fun _ _ _ h => hf6 _ h)
    generalize H1 = H at hP1 hS ⊢
    obtain ⟨rfl, rfl⟩ := Prod.mk.inj (show (r7, v8) = (0, (zk, zn, zi, zt, zs, zr, zd, zy, zm, zc, (fHeld (fRnd p1)), ze, zo)) from hw9)
    have hP : va_P D vwCl (yW G (zk, zn, zi, zt, zs, zr, zd, zy, zm, zc, (fHeld (fRnd p1)), ze, zo)) H := hP1
    have hD : va_D A (yW G (zk, zn, zi, zt, zs, zr, zd, zy, zm, zc, (fHeld (fRnd p1)), ze, zo)) := hD1
    exact W.iret (v := 0) hx hb hr (fun tE ht hW => ⟨⟨0, (zk, zn, zi, zt, zs, zr, zd, zy, zm, zc, (fHeld (fRnd p1)), ze, zo), rfl, by first | (simp only [zNum, zSet, zV, yk, yn, yi, yt, ys, yr, yd, yy, ym, yc, yv, ye, yo, eq_true c1, eq_self, ↓reduceIte, Bool.false_eq_true, Bool.not_false, Bool.not_true, Bool.and_true, Bool.and_false, Bool.true_and, Bool.false_and, decide_true, decide_false] <;> first | done | decide) | (simp only [zNum, zSet, zV, yk, yn, yi, yt, ys, yr, yd, yy, ym, yc, yv, ye, yo, c1, eq_self, ↓reduceIte, Bool.false_eq_true, Bool.not_false, Bool.not_true, Bool.and_true, Bool.and_false, Bool.true_and, Bool.false_and, decide_true, decide_false] <;> first | done | decide) | (simp [zNum, zSet, zV, yk, yn, yi, yt, ys, yr, yd, yy, ym, yc, yv, ye, yo, c1]; done) | (simp [zNum, zSet, zV, yk, yn, yi, yt, ys, yr, yd, yy, ym, yc, yv, ye, yo, eq_true c1]; done), by rw [ht]; exact hP, va_K.moved hW.alike hK, hD⟩, hS.F ht⟩) hS.2.2 dY_number_67
  by_cases c11 : p0 = 1
  · refine lv_tableIn (off := 67) (tgt := 68) hx hb dY_number_1 (by rw [c11]; decide) (by rw [c11]; decide) (by rw [c11]; rfl) (by decide) ?_
    refine lv_aload_n hx hb dY_number_68 rfl (lv_at hl 0 rfl) ?_
    refine lv_iload_n hx hb dY_number_69 rfl (lv_at hl 2 rfl) ?_
    refine lv_iload_n hx hb dY_number_70 rfl (lv_at hl 3 rfl) ?_
    refine vp_callSi (va_Run.run (va_runS (As := [.int p1, .int p2]) (rest := [.ref G.1]) ⟨hx, hb, hml, hown, hts⟩ (j_quotient l p1 p2) (va_cwS 2 hts (yS ylY_127 ym_quotient yini yc_quotient) rfl rfl rfl (by decide +kernel) ⟨Nat.le_of_ble_eq_true rfl, Nat.le_of_ble_eq_true rfl⟩) preEq rfl rfl hl.1 rfl (lv_room (Nat.le_of_ble_eq_true rfl)) dY_number_71 ⟨Nat.le_of_ble_eq_true rfl, Nat.le_of_ble_eq_true rfl⟩)) (fun r12 hw13 => ?_)
    subst hw13
    have hf14 := xFree hD hS hA
    refine va_calli (va_runV (As := [.int (fQuoY p1 p2)]) (rest := []) ⟨hx, hb, hml, hown, hts⟩ (j_given l D G (zk, zn, zi, zt, zs, zr, zd, zy, zm, zc, zv, ze, zo)  H.size (fQuoY p1 p2)) (cwV 1 hts (yV ylY_94 ym_given ys_given yc_given) rfl rfl rfl (by decide +kernel) ⟨Nat.le_of_ble_eq_true rfl, Nat.le_of_ble_eq_true rfl⟩) (yPre hK hP hD _) rfl rfl hl.1 rfl (lv_room (Nat.le_of_ble_eq_true rfl)) dY_number_74 ⟨Nat.le_of_ble_eq_true rfl, Nat.le_of_ble_eq_true rfl⟩) hS (fun q _ h => hf14 q h) hf14 (fun r15 v16 t18 H1 locs ht hvm hw17 hB hz1 hk1 hS => ?_)
    obtain ⟨hP1, hK1, hD1⟩ := hB
    rw [ht] at hP1
    replace hD1 := hD1.weaken (fun _ _ _ h => hf14 _ h)
    generalize H1 = H at hP1 hS ⊢
    obtain ⟨rfl, rfl⟩ := Prod.mk.inj (show (r15, v16) = (0, (zk, zn, zi, zt, zs, zr, zd, zy, zm, zc, (fQuoY p1 p2), ze, zo)) from hw17)
    have hP : va_P D vwCl (yW G (zk, zn, zi, zt, zs, zr, zd, zy, zm, zc, (fQuoY p1 p2), ze, zo)) H := hP1
    have hD : va_D A (yW G (zk, zn, zi, zt, zs, zr, zd, zy, zm, zc, (fQuoY p1 p2), ze, zo)) := hD1
    exact W.iret (v := 0) hx hb hr (fun tE ht hW => ⟨⟨0, (zk, zn, zi, zt, zs, zr, zd, zy, zm, zc, (fQuoY p1 p2), ze, zo), rfl, by first | (simp only [zNum, zSet, zV, yk, yn, yi, yt, ys, yr, yd, yy, ym, yc, yv, ye, yo, c1, eq_true c11, eq_self, ↓reduceIte, Bool.false_eq_true, Bool.not_false, Bool.not_true, Bool.and_true, Bool.and_false, Bool.true_and, Bool.false_and, decide_true, decide_false] <;> first | done | decide) | (simp only [zNum, zSet, zV, yk, yn, yi, yt, ys, yr, yd, yy, ym, yc, yv, ye, yo, c1, c11, eq_self, ↓reduceIte, Bool.false_eq_true, Bool.not_false, Bool.not_true, Bool.and_true, Bool.and_false, Bool.true_and, Bool.false_and, decide_true, decide_false] <;> first | done | decide) | (simp [zNum, zSet, zV, yk, yn, yi, yt, ys, yr, yd, yy, ym, yc, yv, ye, yo, c1, c11]; done) | (simp [zNum, zSet, zV, yk, yn, yi, yt, ys, yr, yd, yy, ym, yc, yv, ye, yo, c1, eq_true c11]; done), by rw [ht]; exact hP, va_K.moved hW.alike hK, hD⟩, hS.F ht⟩) hS.2.2 dY_number_77
  by_cases c19 : p0 = 2
  · refine lv_tableIn (off := 77) (tgt := 78) hx hb dY_number_1 (by rw [c19]; decide) (by rw [c19]; decide) (by rw [c19]; rfl) (by decide) ?_
    refine lv_aload_n hx hb dY_number_78 rfl (lv_at hl 0 rfl) ?_
    refine lv_iload_n hx hb dY_number_79 rfl (lv_at hl 2 rfl) ?_
    refine lv_i2b hx hb dY_number_80 rfl ?_
    refine lv_iload_n hx hb dY_number_81 rfl (lv_at hl 3 rfl) ?_
    refine lv_ldc (v := 65535) hx hb hown (hty _ yk_130) dY_number_82 ?_
    refine lv_iand hx hb dY_number_84 ?_
    refine lv_imul hx hb dY_number_85 ?_
    have hf20 := xFree hD hS hA
    refine va_calli (va_runV (As := [.int ((Int32.toInt8 p1).toInt32 * (p2 &&& 65535))]) (rest := []) ⟨hx, hb, hml, hown, hts⟩ (j_given l D G (zk, zn, zi, zt, zs, zr, zd, zy, zm, zc, zv, ze, zo)  H.size ((Int32.toInt8 p1).toInt32 * (p2 &&& 65535))) (cwV 1 hts (yV ylY_94 ym_given ys_given yc_given) rfl rfl rfl (by decide +kernel) ⟨Nat.le_of_ble_eq_true rfl, Nat.le_of_ble_eq_true rfl⟩) (yPre hK hP hD _) rfl rfl hl.1 rfl (lv_room (Nat.le_of_ble_eq_true rfl)) dY_number_86 ⟨Nat.le_of_ble_eq_true rfl, Nat.le_of_ble_eq_true rfl⟩) hS (fun q _ h => hf20 q h) hf20 (fun r21 v22 t24 H1 locs ht hvm hw23 hB hz1 hk1 hS => ?_)
    obtain ⟨hP1, hK1, hD1⟩ := hB
    rw [ht] at hP1
    replace hD1 := hD1.weaken (fun _ _ _ h => hf20 _ h)
    generalize H1 = H at hP1 hS ⊢
    obtain ⟨rfl, rfl⟩ := Prod.mk.inj (show (r21, v22) = (0, (zk, zn, zi, zt, zs, zr, zd, zy, zm, zc, ((Int32.toInt8 p1).toInt32 * (p2 &&& 65535)), ze, zo)) from hw23)
    have hP : va_P D vwCl (yW G (zk, zn, zi, zt, zs, zr, zd, zy, zm, zc, ((Int32.toInt8 p1).toInt32 * (p2 &&& 65535)), ze, zo)) H := hP1
    have hD : va_D A (yW G (zk, zn, zi, zt, zs, zr, zd, zy, zm, zc, ((Int32.toInt8 p1).toInt32 * (p2 &&& 65535)), ze, zo)) := hD1
    exact W.iret (v := 0) hx hb hr (fun tE ht hW => ⟨⟨0, (zk, zn, zi, zt, zs, zr, zd, zy, zm, zc, ((Int32.toInt8 p1).toInt32 * (p2 &&& 65535)), ze, zo), rfl, by first | (simp only [zNum, zSet, zV, yk, yn, yi, yt, ys, yr, yd, yy, ym, yc, yv, ye, yo, c1, c11, eq_true c19, eq_self, ↓reduceIte, Bool.false_eq_true, Bool.not_false, Bool.not_true, Bool.and_true, Bool.and_false, Bool.true_and, Bool.false_and, decide_true, decide_false] <;> first | done | decide) | (simp only [zNum, zSet, zV, yk, yn, yi, yt, ys, yr, yd, yy, ym, yc, yv, ye, yo, c1, c11, c19, eq_self, ↓reduceIte, Bool.false_eq_true, Bool.not_false, Bool.not_true, Bool.and_true, Bool.and_false, Bool.true_and, Bool.false_and, decide_true, decide_false] <;> first | done | decide) | (simp [zNum, zSet, zV, yk, yn, yi, yt, ys, yr, yd, yy, ym, yc, yv, ye, yo, c1, c11, c19]; done) | (simp [zNum, zSet, zV, yk, yn, yi, yt, ys, yr, yd, yy, ym, yc, yv, ye, yo, c1, c11, eq_true c19]; done), by rw [ht]; exact hP, va_K.moved hW.alike hK, hD⟩, hS.F ht⟩) hS.2.2 dY_number_89
  by_cases c25 : p0 = 3
  · refine lv_tableIn (off := 89) (tgt := 90) hx hb dY_number_1 (by rw [c25]; decide) (by rw [c25]; decide) (by rw [c25]; rfl) (by decide) ?_
    refine lv_aload_n hx hb dY_number_90 rfl (lv_at hl 0 rfl) ?_
    refine lv_iload_n hx hb dY_number_91 rfl (lv_at hl 2 rfl) ?_
    refine lv_iload_n hx hb dY_number_92 rfl (lv_at hl 3 rfl) ?_
    refine lv_ishr hx hb dY_number_93 ?_
    refine lv_iload_n hx hb dY_number_94 rfl (lv_at hl 2 rfl) ?_
    refine lv_iload_n hx hb dY_number_95 rfl (lv_at hl 3 rfl) ?_
    refine lv_iushr hx hb dY_number_96 rfl ?_
    refine lv_iadd hx hb dY_number_97 ?_
    refine lv_iload_n hx hb dY_number_98 rfl (lv_at hl 2 rfl) ?_
    refine lv_iload_n hx hb dY_number_99 rfl (lv_at hl 3 rfl) ?_
    refine lv_ishl hx hb dY_number_100 ?_
    refine lv_iadd hx hb dY_number_101 ?_
    have hf26 := xFree hD hS hA
    refine va_calli (va_runV (As := [.int (((p1 >>> (p2 &&& 31)) + (Int32.toUInt32 p1 >>> (Int32.toUInt32 p2 &&& Int32.toUInt32 31)).toInt32) + (p1 <<< (p2 &&& 31)))]) (rest := []) ⟨hx, hb, hml, hown, hts⟩ (j_given l D G (zk, zn, zi, zt, zs, zr, zd, zy, zm, zc, zv, ze, zo)  H.size (((p1 >>> (p2 &&& 31)) + (Int32.toUInt32 p1 >>> (Int32.toUInt32 p2 &&& Int32.toUInt32 31)).toInt32) + (p1 <<< (p2 &&& 31)))) (cwV 1 hts (yV ylY_94 ym_given ys_given yc_given) rfl rfl rfl (by decide +kernel) ⟨Nat.le_of_ble_eq_true rfl, Nat.le_of_ble_eq_true rfl⟩) (yPre hK hP hD _) rfl rfl hl.1 rfl (lv_room (Nat.le_of_ble_eq_true rfl)) dY_number_102 ⟨Nat.le_of_ble_eq_true rfl, Nat.le_of_ble_eq_true rfl⟩) hS (fun q _ h => hf26 q h) hf26 (fun r27 v28 t30 H1 locs ht hvm hw29 hB hz1 hk1 hS => ?_)
    obtain ⟨hP1, hK1, hD1⟩ := hB
    rw [ht] at hP1
    replace hD1 := hD1.weaken (fun _ _ _ h => hf26 _ h)
    generalize H1 = H at hP1 hS ⊢
    obtain ⟨rfl, rfl⟩ := Prod.mk.inj (show (r27, v28) = (0, (zk, zn, zi, zt, zs, zr, zd, zy, zm, zc, (((p1 >>> (p2 &&& 31)) + (Int32.toUInt32 p1 >>> (Int32.toUInt32 p2 &&& Int32.toUInt32 31)).toInt32) + (p1 <<< (p2 &&& 31))), ze, zo)) from hw29)
    have hP : va_P D vwCl (yW G (zk, zn, zi, zt, zs, zr, zd, zy, zm, zc, (((p1 >>> (p2 &&& 31)) + (Int32.toUInt32 p1 >>> (Int32.toUInt32 p2 &&& Int32.toUInt32 31)).toInt32) + (p1 <<< (p2 &&& 31))), ze, zo)) H := hP1
    have hD : va_D A (yW G (zk, zn, zi, zt, zs, zr, zd, zy, zm, zc, (((p1 >>> (p2 &&& 31)) + (Int32.toUInt32 p1 >>> (Int32.toUInt32 p2 &&& Int32.toUInt32 31)).toInt32) + (p1 <<< (p2 &&& 31))), ze, zo)) := hD1
    exact W.iret (v := 0) hx hb hr (fun tE ht hW => ⟨⟨0, (zk, zn, zi, zt, zs, zr, zd, zy, zm, zc, (((p1 >>> (p2 &&& 31)) + (Int32.toUInt32 p1 >>> (Int32.toUInt32 p2 &&& Int32.toUInt32 31)).toInt32) + (p1 <<< (p2 &&& 31))), ze, zo), rfl, by first | (simp only [zNum, zSet, zV, yk, yn, yi, yt, ys, yr, yd, yy, ym, yc, yv, ye, yo, c1, c11, c19, eq_true c25, eq_self, ↓reduceIte, Bool.false_eq_true, Bool.not_false, Bool.not_true, Bool.and_true, Bool.and_false, Bool.true_and, Bool.false_and, decide_true, decide_false] <;> first | done | decide) | (simp only [zNum, zSet, zV, yk, yn, yi, yt, ys, yr, yd, yy, ym, yc, yv, ye, yo, c1, c11, c19, c25, eq_self, ↓reduceIte, Bool.false_eq_true, Bool.not_false, Bool.not_true, Bool.and_true, Bool.and_false, Bool.true_and, Bool.false_and, decide_true, decide_false] <;> first | done | decide) | (simp [zNum, zSet, zV, yk, yn, yi, yt, ys, yr, yd, yy, ym, yc, yv, ye, yo, c1, c11, c19, c25]; done) | (simp [zNum, zSet, zV, yk, yn, yi, yt, ys, yr, yd, yy, ym, yc, yv, ye, yo, c1, c11, c19, eq_true c25]; done), by rw [ht]; exact hP, va_K.moved hW.alike hK, hD⟩, hS.F ht⟩) hS.2.2 dY_number_105
  by_cases c31 : p0 = 4
  · refine lv_tableIn (off := 105) (tgt := 106) hx hb dY_number_1 (by rw [c31]; decide) (by rw [c31]; decide) (by rw [c31]; rfl) (by decide) ?_
    refine lv_iload_n hx hb dY_number_106 rfl (lv_at hl 3 rfl) ?_
    refine lv_if_ne (tgt := 114) hx hb dY_number_107 (by decide) (fun c32 => ?_) (fun c32 => ?_)
    · refine lv_aload_n hx hb dY_number_114 rfl (lv_at hl 0 rfl) ?_
      refine lv_iload_n hx hb dY_number_115 rfl (lv_at hl 2 rfl) ?_
      refine lv_iload_n hx hb dY_number_116 rfl (lv_at hl 3 rfl) ?_
      refine lv_irem hx hb dY_number_117 c32 ?_
      have hf33 := xFree hD hS hA
      refine va_calli (va_runV (As := [.int (p1 - p1 / p2 * p2)]) (rest := []) ⟨hx, hb, hml, hown, hts⟩ (j_given l D G (zk, zn, zi, zt, zs, zr, zd, zy, zm, zc, zv, ze, zo)  H.size (p1 - p1 / p2 * p2)) (cwV 1 hts (yV ylY_94 ym_given ys_given yc_given) rfl rfl rfl (by decide +kernel) ⟨Nat.le_of_ble_eq_true rfl, Nat.le_of_ble_eq_true rfl⟩) (yPre hK hP hD _) rfl rfl hl.1 rfl (lv_room (Nat.le_of_ble_eq_true rfl)) dY_number_118 ⟨Nat.le_of_ble_eq_true rfl, Nat.le_of_ble_eq_true rfl⟩) hS (fun q _ h => hf33 q h) hf33 (fun r34 v35 t37 H1 locs ht hvm hw36 hB hz1 hk1 hS => ?_)
      obtain ⟨hP1, hK1, hD1⟩ := hB
      rw [ht] at hP1
      replace hD1 := hD1.weaken (fun _ _ _ h => hf33 _ h)
      generalize H1 = H at hP1 hS ⊢
      obtain ⟨rfl, rfl⟩ := Prod.mk.inj (show (r34, v35) = (0, (zk, zn, zi, zt, zs, zr, zd, zy, zm, zc, (p1 - p1 / p2 * p2), ze, zo)) from hw36)
      have hP : va_P D vwCl (yW G (zk, zn, zi, zt, zs, zr, zd, zy, zm, zc, (p1 - p1 / p2 * p2), ze, zo)) H := hP1
      have hD : va_D A (yW G (zk, zn, zi, zt, zs, zr, zd, zy, zm, zc, (p1 - p1 / p2 * p2), ze, zo)) := hD1
      exact W.iret (v := 0) hx hb hr (fun tE ht hW => ⟨⟨0, (zk, zn, zi, zt, zs, zr, zd, zy, zm, zc, (p1 - p1 / p2 * p2), ze, zo), rfl, by first | (simp only [zNum, zSet, zV, yk, yn, yi, yt, ys, yr, yd, yy, ym, yc, yv, ye, yo, c1, c11, c19, c25, eq_true c31, c32, eq_self, ↓reduceIte, Bool.false_eq_true, Bool.not_false, Bool.not_true, Bool.and_true, Bool.and_false, Bool.true_and, Bool.false_and, decide_true, decide_false] <;> first | done | decide) | (simp only [zNum, zSet, zV, yk, yn, yi, yt, ys, yr, yd, yy, ym, yc, yv, ye, yo, c1, c11, c19, c25, c31, c32, eq_self, ↓reduceIte, Bool.false_eq_true, Bool.not_false, Bool.not_true, Bool.and_true, Bool.and_false, Bool.true_and, Bool.false_and, decide_true, decide_false] <;> first | done | decide) | (simp [zNum, zSet, zV, yk, yn, yi, yt, ys, yr, yd, yy, ym, yc, yv, ye, yo, c1, c11, c19, c25, c31, c32]; done) | (simp [zNum, zSet, zV, yk, yn, yi, yt, ys, yr, yd, yy, ym, yc, yv, ye, yo, c1, c11, c19, c25, eq_true c31, c32]; done), by rw [ht]; exact hP, va_K.moved hW.alike hK, hD⟩, hS.F ht⟩) hS.2.2 dY_number_121
    · refine lv_iconst (v := 5) hx hb dY_number_110 (by decide) ?_
      refine lv_goto (tgt := 121) hx hb dY_number_111 (by decide) ?_
      exact W.iret (v := 5) hx hb hr (fun tE ht hW => ⟨⟨5, (zk, zn, zi, zt, zs, zr, zd, zy, zm, zc, zv, ze, zo), rfl, by first | (simp only [zNum, zSet, zV, yk, yn, yi, yt, ys, yr, yd, yy, ym, yc, yv, ye, yo, c1, c11, c19, c25, eq_true c31, eq_true c32, eq_self, ↓reduceIte, Bool.false_eq_true, Bool.not_false, Bool.not_true, Bool.and_true, Bool.and_false, Bool.true_and, Bool.false_and, decide_true, decide_false] <;> first | done | decide) | (simp only [zNum, zSet, zV, yk, yn, yi, yt, ys, yr, yd, yy, ym, yc, yv, ye, yo, c1, c11, c19, c25, c31, c32, eq_self, ↓reduceIte, Bool.false_eq_true, Bool.not_false, Bool.not_true, Bool.and_true, Bool.and_false, Bool.true_and, Bool.false_and, decide_true, decide_false] <;> first | done | decide) | (simp [zNum, zSet, zV, yk, yn, yi, yt, ys, yr, yd, yy, ym, yc, yv, ye, yo, c1, c11, c19, c25, c31, c32]; done) | (simp [zNum, zSet, zV, yk, yn, yi, yt, ys, yr, yd, yy, ym, yc, yv, ye, yo, c1, c11, c19, c25, eq_true c31, eq_true c32]; done), by rw [ht]; exact hP, va_K.moved hW.alike hK, hD⟩, hS.F ht⟩) hS.2.2 dY_number_121
  by_cases c38 : p0 = 5
  · refine lv_tableIn (off := 121) (tgt := 122) hx hb dY_number_1 (by rw [c38]; decide) (by rw [c38]; decide) (by rw [c38]; rfl) (by decide) ?_
    refine lv_aload_n hx hb dY_number_122 rfl (lv_at hl 0 rfl) ?_
    refine lv_iload_n hx hb dY_number_123 rfl (lv_at hl 2 rfl) ?_
    refine lv_i2s hx hb dY_number_124 rfl ?_
    refine lv_iload_n hx hb dY_number_125 rfl (lv_at hl 3 rfl) ?_
    refine lv_iadd hx hb dY_number_126 ?_
    refine lv_i2s hx hb dY_number_127 rfl ?_
    have hf39 := xFree hD hS hA
    refine va_calli (va_runV (As := [.int ((Int32.toInt16 ((Int32.toInt16 p1).toInt32 + p2)).toInt32)]) (rest := []) ⟨hx, hb, hml, hown, hts⟩ (j_given l D G (zk, zn, zi, zt, zs, zr, zd, zy, zm, zc, zv, ze, zo)  H.size ((Int32.toInt16 ((Int32.toInt16 p1).toInt32 + p2)).toInt32)) (cwV 1 hts (yV ylY_94 ym_given ys_given yc_given) rfl rfl rfl (by decide +kernel) ⟨Nat.le_of_ble_eq_true rfl, Nat.le_of_ble_eq_true rfl⟩) (yPre hK hP hD _) rfl rfl hl.1 rfl (lv_room (Nat.le_of_ble_eq_true rfl)) dY_number_128 ⟨Nat.le_of_ble_eq_true rfl, Nat.le_of_ble_eq_true rfl⟩) hS (fun q _ h => hf39 q h) hf39 (fun r40 v41 t43 H1 locs ht hvm hw42 hB hz1 hk1 hS => ?_)
    obtain ⟨hP1, hK1, hD1⟩ := hB
    rw [ht] at hP1
    replace hD1 := hD1.weaken (fun _ _ _ h => hf39 _ h)
    generalize H1 = H at hP1 hS ⊢
    obtain ⟨rfl, rfl⟩ := Prod.mk.inj (show (r40, v41) = (0, (zk, zn, zi, zt, zs, zr, zd, zy, zm, zc, ((Int32.toInt16 ((Int32.toInt16 p1).toInt32 + p2)).toInt32), ze, zo)) from hw42)
    have hP : va_P D vwCl (yW G (zk, zn, zi, zt, zs, zr, zd, zy, zm, zc, ((Int32.toInt16 ((Int32.toInt16 p1).toInt32 + p2)).toInt32), ze, zo)) H := hP1
    have hD : va_D A (yW G (zk, zn, zi, zt, zs, zr, zd, zy, zm, zc, ((Int32.toInt16 ((Int32.toInt16 p1).toInt32 + p2)).toInt32), ze, zo)) := hD1
    exact W.iret (v := 0) hx hb hr (fun tE ht hW => ⟨⟨0, (zk, zn, zi, zt, zs, zr, zd, zy, zm, zc, ((Int32.toInt16 ((Int32.toInt16 p1).toInt32 + p2)).toInt32), ze, zo), rfl, by first | (simp only [zNum, zSet, zV, yk, yn, yi, yt, ys, yr, yd, yy, ym, yc, yv, ye, yo, c1, c11, c19, c25, c31, eq_true c38, eq_self, ↓reduceIte, Bool.false_eq_true, Bool.not_false, Bool.not_true, Bool.and_true, Bool.and_false, Bool.true_and, Bool.false_and, decide_true, decide_false] <;> first | done | decide) | (simp only [zNum, zSet, zV, yk, yn, yi, yt, ys, yr, yd, yy, ym, yc, yv, ye, yo, c1, c11, c19, c25, c31, c38, eq_self, ↓reduceIte, Bool.false_eq_true, Bool.not_false, Bool.not_true, Bool.and_true, Bool.and_false, Bool.true_and, Bool.false_and, decide_true, decide_false] <;> first | done | decide) | (simp [zNum, zSet, zV, yk, yn, yi, yt, ys, yr, yd, yy, ym, yc, yv, ye, yo, c1, c11, c19, c25, c31, c38]; done) | (simp [zNum, zSet, zV, yk, yn, yi, yt, ys, yr, yd, yy, ym, yc, yv, ye, yo, c1, c11, c19, c25, c31, eq_true c38]; done), by rw [ht]; exact hP, va_K.moved hW.alike hK, hD⟩, hS.F ht⟩) hS.2.2 dY_number_131
  by_cases c44 : p0 = 6
  · refine lv_tableIn (off := 131) (tgt := 132) hx hb dY_number_1 (by rw [c44]; decide) (by rw [c44]; decide) (by rw [c44]; rfl) (by decide) ?_
    refine lv_aload_n hx hb dY_number_132 rfl (lv_at hl 0 rfl) ?_
    refine lv_iload_n hx hb dY_number_133 rfl (lv_at hl 2 rfl) ?_
    refine lv_i2l hx hb dY_number_134 rfl ?_
    refine lv_iload_n hx hb dY_number_135 rfl (lv_at hl 3 rfl) ?_
    refine lv_i2l hx hb dY_number_136 rfl ?_
    refine lv_lmul hx hb dY_number_137 ?_
    refine lv_bipush (v := 16) hx hb dY_number_138 (by decide) ?_
    refine lv_lshr hx hb dY_number_140 rfl ?_
    refine lv_l2i hx hb dY_number_141 rfl ?_
    have hf45 := xFree hD hS hA
    refine va_calli (va_runV (As := [.int (Int64.toInt32 (((Int32.toInt64 p1) * (Int32.toInt64 p2)) >>> (Int32.toInt64 16 &&& 63)))]) (rest := []) ⟨hx, hb, hml, hown, hts⟩ (j_given l D G (zk, zn, zi, zt, zs, zr, zd, zy, zm, zc, zv, ze, zo)  H.size (Int64.toInt32 (((Int32.toInt64 p1) * (Int32.toInt64 p2)) >>> (Int32.toInt64 16 &&& 63)))) (cwV 1 hts (yV ylY_94 ym_given ys_given yc_given) rfl rfl rfl (by decide +kernel) ⟨Nat.le_of_ble_eq_true rfl, Nat.le_of_ble_eq_true rfl⟩) (yPre hK hP hD _) rfl rfl hl.1 rfl (lv_room (Nat.le_of_ble_eq_true rfl)) dY_number_142 ⟨Nat.le_of_ble_eq_true rfl, Nat.le_of_ble_eq_true rfl⟩) hS (fun q _ h => hf45 q h) hf45 (fun r46 v47 t49 H1 locs ht hvm hw48 hB hz1 hk1 hS => ?_)
    obtain ⟨hP1, hK1, hD1⟩ := hB
    rw [ht] at hP1
    replace hD1 := hD1.weaken (fun _ _ _ h => hf45 _ h)
    generalize H1 = H at hP1 hS ⊢
    obtain ⟨rfl, rfl⟩ := Prod.mk.inj (show (r46, v47) = (0, (zk, zn, zi, zt, zs, zr, zd, zy, zm, zc, (Int64.toInt32 (((Int32.toInt64 p1) * (Int32.toInt64 p2)) >>> (Int32.toInt64 16 &&& 63))), ze, zo)) from hw48)
    have hP : va_P D vwCl (yW G (zk, zn, zi, zt, zs, zr, zd, zy, zm, zc, (Int64.toInt32 (((Int32.toInt64 p1) * (Int32.toInt64 p2)) >>> (Int32.toInt64 16 &&& 63))), ze, zo)) H := hP1
    have hD : va_D A (yW G (zk, zn, zi, zt, zs, zr, zd, zy, zm, zc, (Int64.toInt32 (((Int32.toInt64 p1) * (Int32.toInt64 p2)) >>> (Int32.toInt64 16 &&& 63))), ze, zo)) := hD1
    exact W.iret (v := 0) hx hb hr (fun tE ht hW => ⟨⟨0, (zk, zn, zi, zt, zs, zr, zd, zy, zm, zc, (Int64.toInt32 (((Int32.toInt64 p1) * (Int32.toInt64 p2)) >>> (Int32.toInt64 16 &&& 63))), ze, zo), rfl, by first | (simp only [zNum, zSet, zV, yk, yn, yi, yt, ys, yr, yd, yy, ym, yc, yv, ye, yo, c1, c11, c19, c25, c31, c38, eq_true c44, eq_self, ↓reduceIte, Bool.false_eq_true, Bool.not_false, Bool.not_true, Bool.and_true, Bool.and_false, Bool.true_and, Bool.false_and, decide_true, decide_false] <;> first | done | decide) | (simp only [zNum, zSet, zV, yk, yn, yi, yt, ys, yr, yd, yy, ym, yc, yv, ye, yo, c1, c11, c19, c25, c31, c38, c44, eq_self, ↓reduceIte, Bool.false_eq_true, Bool.not_false, Bool.not_true, Bool.and_true, Bool.and_false, Bool.true_and, Bool.false_and, decide_true, decide_false] <;> first | done | decide) | (simp [zNum, zSet, zV, yk, yn, yi, yt, ys, yr, yd, yy, ym, yc, yv, ye, yo, c1, c11, c19, c25, c31, c38, c44]; done) | (simp [zNum, zSet, zV, yk, yn, yi, yt, ys, yr, yd, yy, ym, yc, yv, ye, yo, c1, c11, c19, c25, c31, c38, eq_true c44]; done), by rw [ht]; exact hP, va_K.moved hW.alike hK, hD⟩, hS.F ht⟩) hS.2.2 dY_number_145
  by_cases c50 : p0 = 7
  · refine lv_tableIn (off := 145) (tgt := 146) hx hb dY_number_1 (by rw [c50]; decide) (by rw [c50]; decide) (by rw [c50]; rfl) (by decide) ?_
    refine lv_aload_n hx hb dY_number_146 rfl (lv_at hl 0 rfl) ?_
    refine lv_iload_n hx hb dY_number_147 rfl (lv_at hl 2 rfl) ?_
    refine vp_callSl (va_Run.run (va_runS (As := [.int p1]) (rest := [.ref G.1]) ⟨hx, hb, hml, hown, hts⟩ (j_rounded l p1) (va_cwS 1 hts (yS ylY_123 ym_rounded yini yc_rounded) rfl rfl rfl (by decide +kernel) ⟨Nat.le_of_ble_eq_true rfl, Nat.le_of_ble_eq_true rfl⟩) preEq rfl rfl hl.1 rfl (lv_room (Nat.le_of_ble_eq_true rfl)) dY_number_148 ⟨Nat.le_of_ble_eq_true rfl, Nat.le_of_ble_eq_true rfl⟩)) (fun r51 hw52 => ?_)
    subst hw52
    refine lv_iload_n hx hb dY_number_151 rfl (lv_at hl 3 rfl) ?_
    refine vp_callSl (va_Run.run (va_runS (As := [.int p2]) (rest := [.long (fRnd p1), .ref G.1]) ⟨hx, hb, hml, hown, hts⟩ (j_rounded l p2) (va_cwS 1 hts (yS ylY_123 ym_rounded yini yc_rounded) rfl rfl rfl (by decide +kernel) ⟨Nat.le_of_ble_eq_true rfl, Nat.le_of_ble_eq_true rfl⟩) preEq rfl rfl hl.1 rfl (lv_room (Nat.le_of_ble_eq_true rfl)) dY_number_152 ⟨Nat.le_of_ble_eq_true rfl, Nat.le_of_ble_eq_true rfl⟩)) (fun r53 hw54 => ?_)
    subst hw54
    refine W.lcmp hx hb dY_number_155 ?_
    refine lv_if_ne (tgt := 163) hx hb dY_number_156 (by decide) (fun c55 => ?_) (fun c55 => ?_)
    · refine lv_iconst (v := 0) hx hb dY_number_163 (by decide) ?_
      have hf56 := xFree hD hS hA
      refine va_calli (va_runV (As := [.int 0]) (rest := []) ⟨hx, hb, hml, hown, hts⟩ (j_given l D G (zk, zn, zi, zt, zs, zr, zd, zy, zm, zc, zv, ze, zo)  H.size 0) (cwV 1 hts (yV ylY_94 ym_given ys_given yc_given) rfl rfl rfl (by decide +kernel) ⟨Nat.le_of_ble_eq_true rfl, Nat.le_of_ble_eq_true rfl⟩) (yPre hK hP hD _) rfl rfl hl.1 rfl (lv_room (Nat.le_of_ble_eq_true rfl)) dY_number_164 ⟨Nat.le_of_ble_eq_true rfl, Nat.le_of_ble_eq_true rfl⟩) hS (fun q _ h => hf56 q h) hf56 (fun r57 v58 t60 H1 locs ht hvm hw59 hB hz1 hk1 hS => ?_)
      obtain ⟨hP1, hK1, hD1⟩ := hB
      rw [ht] at hP1
      replace hD1 := hD1.weaken (fun _ _ _ h => hf56 _ h)
      generalize H1 = H at hP1 hS ⊢
      obtain ⟨rfl, rfl⟩ := Prod.mk.inj (show (r57, v58) = (0, (zk, zn, zi, zt, zs, zr, zd, zy, zm, zc, 0, ze, zo)) from hw59)
      have hP : va_P D vwCl (yW G (zk, zn, zi, zt, zs, zr, zd, zy, zm, zc, 0, ze, zo)) H := hP1
      have hD : va_D A (yW G (zk, zn, zi, zt, zs, zr, zd, zy, zm, zc, 0, ze, zo)) := hD1
      exact W.iret (v := 0) hx hb hr (fun tE ht hW => ⟨⟨0, (zk, zn, zi, zt, zs, zr, zd, zy, zm, zc, 0, ze, zo), rfl, by first | (simp only [zNum, zSet, zV, yk, yn, yi, yt, ys, yr, yd, yy, ym, yc, yv, ye, yo, c1, c11, c19, c25, c31, c38, c44, eq_true c50, c55, eq_self, ↓reduceIte, Bool.false_eq_true, Bool.not_false, Bool.not_true, Bool.and_true, Bool.and_false, Bool.true_and, Bool.false_and, decide_true, decide_false] <;> first | done | decide) | (simp only [zNum, zSet, zV, yk, yn, yi, yt, ys, yr, yd, yy, ym, yc, yv, ye, yo, c1, c11, c19, c25, c31, c38, c44, c50, c55, eq_self, ↓reduceIte, Bool.false_eq_true, Bool.not_false, Bool.not_true, Bool.and_true, Bool.and_false, Bool.true_and, Bool.false_and, decide_true, decide_false] <;> first | done | decide) | (simp [zNum, zSet, zV, yk, yn, yi, yt, ys, yr, yd, yy, ym, yc, yv, ye, yo, c1, c11, c19, c25, c31, c38, c44, c50, c55]; done) | (simp [zNum, zSet, zV, yk, yn, yi, yt, ys, yr, yd, yy, ym, yc, yv, ye, yo, c1, c11, c19, c25, c31, c38, c44, eq_true c50, c55]; done), by rw [ht]; exact hP, va_K.moved hW.alike hK, hD⟩, hS.F ht⟩) hS.2.2 dY_number_167
    · refine lv_iconst (v := 1) hx hb dY_number_159 (by decide) ?_
      refine lv_goto (tgt := 164) hx hb dY_number_160 (by decide) ?_
      have hf61 := xFree hD hS hA
      refine va_calli (va_runV (As := [.int 1]) (rest := []) ⟨hx, hb, hml, hown, hts⟩ (j_given l D G (zk, zn, zi, zt, zs, zr, zd, zy, zm, zc, zv, ze, zo)  H.size 1) (cwV 1 hts (yV ylY_94 ym_given ys_given yc_given) rfl rfl rfl (by decide +kernel) ⟨Nat.le_of_ble_eq_true rfl, Nat.le_of_ble_eq_true rfl⟩) (yPre hK hP hD _) rfl rfl hl.1 rfl (lv_room (Nat.le_of_ble_eq_true rfl)) dY_number_164 ⟨Nat.le_of_ble_eq_true rfl, Nat.le_of_ble_eq_true rfl⟩) hS (fun q _ h => hf61 q h) hf61 (fun r62 v63 t65 H1 locs ht hvm hw64 hB hz1 hk1 hS => ?_)
      obtain ⟨hP1, hK1, hD1⟩ := hB
      rw [ht] at hP1
      replace hD1 := hD1.weaken (fun _ _ _ h => hf61 _ h)
      generalize H1 = H at hP1 hS ⊢
      obtain ⟨rfl, rfl⟩ := Prod.mk.inj (show (r62, v63) = (0, (zk, zn, zi, zt, zs, zr, zd, zy, zm, zc, 1, ze, zo)) from hw64)
      have hP : va_P D vwCl (yW G (zk, zn, zi, zt, zs, zr, zd, zy, zm, zc, 1, ze, zo)) H := hP1
      have hD : va_D A (yW G (zk, zn, zi, zt, zs, zr, zd, zy, zm, zc, 1, ze, zo)) := hD1
      exact W.iret (v := 0) hx hb hr (fun tE ht hW => ⟨⟨0, (zk, zn, zi, zt, zs, zr, zd, zy, zm, zc, 1, ze, zo), rfl, by first | (simp only [zNum, zSet, zV, yk, yn, yi, yt, ys, yr, yd, yy, ym, yc, yv, ye, yo, c1, c11, c19, c25, c31, c38, c44, eq_true c50, eq_true c55, eq_self, ↓reduceIte, Bool.false_eq_true, Bool.not_false, Bool.not_true, Bool.and_true, Bool.and_false, Bool.true_and, Bool.false_and, decide_true, decide_false] <;> first | done | decide) | (simp only [zNum, zSet, zV, yk, yn, yi, yt, ys, yr, yd, yy, ym, yc, yv, ye, yo, c1, c11, c19, c25, c31, c38, c44, c50, c55, eq_self, ↓reduceIte, Bool.false_eq_true, Bool.not_false, Bool.not_true, Bool.and_true, Bool.and_false, Bool.true_and, Bool.false_and, decide_true, decide_false] <;> first | done | decide) | (simp [zNum, zSet, zV, yk, yn, yi, yt, ys, yr, yd, yy, ym, yc, yv, ye, yo, c1, c11, c19, c25, c31, c38, c44, c50, c55]; done) | (simp [zNum, zSet, zV, yk, yn, yi, yt, ys, yr, yd, yy, ym, yc, yv, ye, yo, c1, c11, c19, c25, c31, c38, c44, eq_true c50, eq_true c55]; done), by rw [ht]; exact hP, va_K.moved hW.alike hK, hD⟩, hS.F ht⟩) hS.2.2 dY_number_167
  by_cases c66 : p0 = 8
  · refine lv_tableIn (off := 167) (tgt := 168) hx hb dY_number_1 (by rw [c66]; decide) (by rw [c66]; decide) (by rw [c66]; rfl) (by decide) ?_
    refine lv_aload_n hx hb dY_number_168 rfl (lv_at hl 0 rfl) ?_
    refine lv_iload_n hx hb dY_number_169 rfl (lv_at hl 2 rfl) ?_
    refine lv_i2l hx hb dY_number_170 rfl ?_
    refine lv_ldc2 (v := 3) hx hb hown (hty _ yk_131) dY_number_171 ?_
    refine lv_lmul hx hb dY_number_174 ?_
    refine lv_ldc2 (v := 4) hx hb hown (hty _ yk_92) dY_number_175 ?_
    refine lv_ldiv hx hb dY_number_178 (by decide) ?_
    refine lv_l2i hx hb dY_number_179 rfl ?_
    have hf67 := xFree hD hS hA
    refine va_calli (va_runV (As := [.int (Int64.toInt32 (((Int32.toInt64 p1) * 3) / 4))]) (rest := []) ⟨hx, hb, hml, hown, hts⟩ (j_given l D G (zk, zn, zi, zt, zs, zr, zd, zy, zm, zc, zv, ze, zo)  H.size (Int64.toInt32 (((Int32.toInt64 p1) * 3) / 4))) (cwV 1 hts (yV ylY_94 ym_given ys_given yc_given) rfl rfl rfl (by decide +kernel) ⟨Nat.le_of_ble_eq_true rfl, Nat.le_of_ble_eq_true rfl⟩) (yPre hK hP hD _) rfl rfl hl.1 rfl (lv_room (Nat.le_of_ble_eq_true rfl)) dY_number_180 ⟨Nat.le_of_ble_eq_true rfl, Nat.le_of_ble_eq_true rfl⟩) hS (fun q _ h => hf67 q h) hf67 (fun r68 v69 t71 H1 locs ht hvm hw70 hB hz1 hk1 hS => ?_)
    obtain ⟨hP1, hK1, hD1⟩ := hB
    rw [ht] at hP1
    replace hD1 := hD1.weaken (fun _ _ _ h => hf67 _ h)
    generalize H1 = H at hP1 hS ⊢
    obtain ⟨rfl, rfl⟩ := Prod.mk.inj (show (r68, v69) = (0, (zk, zn, zi, zt, zs, zr, zd, zy, zm, zc, (Int64.toInt32 (((Int32.toInt64 p1) * 3) / 4)), ze, zo)) from hw70)
    have hP : va_P D vwCl (yW G (zk, zn, zi, zt, zs, zr, zd, zy, zm, zc, (Int64.toInt32 (((Int32.toInt64 p1) * 3) / 4)), ze, zo)) H := hP1
    have hD : va_D A (yW G (zk, zn, zi, zt, zs, zr, zd, zy, zm, zc, (Int64.toInt32 (((Int32.toInt64 p1) * 3) / 4)), ze, zo)) := hD1
    exact W.iret (v := 0) hx hb hr (fun tE ht hW => ⟨⟨0, (zk, zn, zi, zt, zs, zr, zd, zy, zm, zc, (Int64.toInt32 (((Int32.toInt64 p1) * 3) / 4)), ze, zo), rfl, by first | (simp only [zNum, zSet, zV, yk, yn, yi, yt, ys, yr, yd, yy, ym, yc, yv, ye, yo, c1, c11, c19, c25, c31, c38, c44, c50, eq_true c66, eq_self, ↓reduceIte, Bool.false_eq_true, Bool.not_false, Bool.not_true, Bool.and_true, Bool.and_false, Bool.true_and, Bool.false_and, decide_true, decide_false] <;> first | done | decide) | (simp only [zNum, zSet, zV, yk, yn, yi, yt, ys, yr, yd, yy, ym, yc, yv, ye, yo, c1, c11, c19, c25, c31, c38, c44, c50, c66, eq_self, ↓reduceIte, Bool.false_eq_true, Bool.not_false, Bool.not_true, Bool.and_true, Bool.and_false, Bool.true_and, Bool.false_and, decide_true, decide_false] <;> first | done | decide) | (simp [zNum, zSet, zV, yk, yn, yi, yt, ys, yr, yd, yy, ym, yc, yv, ye, yo, c1, c11, c19, c25, c31, c38, c44, c50, c66]; done) | (simp [zNum, zSet, zV, yk, yn, yi, yt, ys, yr, yd, yy, ym, yc, yv, ye, yo, c1, c11, c19, c25, c31, c38, c44, c50, eq_true c66]; done), by rw [ht]; exact hP, va_K.moved hW.alike hK, hD⟩, hS.F ht⟩) hS.2.2 dY_number_183
  by_cases c72 : p0 = 9
  · refine lv_tableIn (off := 183) (tgt := 184) hx hb dY_number_1 (by rw [c72]; decide) (by rw [c72]; decide) (by rw [c72]; rfl) (by decide) ?_
    refine lv_aload_n hx hb dY_number_184 rfl (lv_at hl 0 rfl) ?_
    refine lv_iload_n hx hb dY_number_185 rfl (lv_at hl 2 rfl) ?_
    refine vp_callSi (va_Run.run (va_runS (As := [.int p1]) (rest := [.ref G.1]) ⟨hx, hb, hml, hown, hts⟩ (j_decimals l p1) (va_cwS 1 hts (yS ylY_133 ym_decimals yini yc_decimals) rfl rfl rfl (by decide +kernel) ⟨Nat.le_of_ble_eq_true rfl, Nat.le_of_ble_eq_true rfl⟩) preEq rfl rfl hl.1 rfl (lv_room (Nat.le_of_ble_eq_true rfl)) dY_number_186 ⟨Nat.le_of_ble_eq_true rfl, Nat.le_of_ble_eq_true rfl⟩)) (fun r73 hw74 => ?_)
    subst hw74
    refine lv_iconst (v := 1) hx hb dY_number_189 (by decide) ?_
    refine lv_iadd hx hb dY_number_190 ?_
    refine lv_iload_n hx hb dY_number_191 rfl (lv_at hl 3 rfl) ?_
    refine vp_callSi (va_Run.run (va_runS (As := [.int p2]) (rest := [.int ((fDecY p1) + 1), .ref G.1]) ⟨hx, hb, hml, hown, hts⟩ (j_decimals l p2) (va_cwS 1 hts (yS ylY_133 ym_decimals yini yc_decimals) rfl rfl rfl (by decide +kernel) ⟨Nat.le_of_ble_eq_true rfl, Nat.le_of_ble_eq_true rfl⟩) preEq rfl rfl hl.1 rfl (lv_room (Nat.le_of_ble_eq_true rfl)) dY_number_192 ⟨Nat.le_of_ble_eq_true rfl, Nat.le_of_ble_eq_true rfl⟩)) (fun r75 hw76 => ?_)
    subst hw76
    refine lv_iadd hx hb dY_number_195 ?_
    have hf77 := xFree hD hS hA
    refine va_calli (va_runV (As := [.int (((fDecY p1) + 1) + (fDecY p2))]) (rest := []) ⟨hx, hb, hml, hown, hts⟩ (j_given l D G (zk, zn, zi, zt, zs, zr, zd, zy, zm, zc, zv, ze, zo)  H.size (((fDecY p1) + 1) + (fDecY p2))) (cwV 1 hts (yV ylY_94 ym_given ys_given yc_given) rfl rfl rfl (by decide +kernel) ⟨Nat.le_of_ble_eq_true rfl, Nat.le_of_ble_eq_true rfl⟩) (yPre hK hP hD _) rfl rfl hl.1 rfl (lv_room (Nat.le_of_ble_eq_true rfl)) dY_number_196 ⟨Nat.le_of_ble_eq_true rfl, Nat.le_of_ble_eq_true rfl⟩) hS (fun q _ h => hf77 q h) hf77 (fun r78 v79 t81 H1 locs ht hvm hw80 hB hz1 hk1 hS => ?_)
    obtain ⟨hP1, hK1, hD1⟩ := hB
    rw [ht] at hP1
    replace hD1 := hD1.weaken (fun _ _ _ h => hf77 _ h)
    generalize H1 = H at hP1 hS ⊢
    obtain ⟨rfl, rfl⟩ := Prod.mk.inj (show (r78, v79) = (0, (zk, zn, zi, zt, zs, zr, zd, zy, zm, zc, (((fDecY p1) + 1) + (fDecY p2)), ze, zo)) from hw80)
    have hP : va_P D vwCl (yW G (zk, zn, zi, zt, zs, zr, zd, zy, zm, zc, (((fDecY p1) + 1) + (fDecY p2)), ze, zo)) H := hP1
    have hD : va_D A (yW G (zk, zn, zi, zt, zs, zr, zd, zy, zm, zc, (((fDecY p1) + 1) + (fDecY p2)), ze, zo)) := hD1
    exact W.iret (v := 0) hx hb hr (fun tE ht hW => ⟨⟨0, (zk, zn, zi, zt, zs, zr, zd, zy, zm, zc, (((fDecY p1) + 1) + (fDecY p2)), ze, zo), rfl, by first | (simp only [zNum, zSet, zV, yk, yn, yi, yt, ys, yr, yd, yy, ym, yc, yv, ye, yo, c1, c11, c19, c25, c31, c38, c44, c50, c66, eq_true c72, eq_self, ↓reduceIte, Bool.false_eq_true, Bool.not_false, Bool.not_true, Bool.and_true, Bool.and_false, Bool.true_and, Bool.false_and, decide_true, decide_false] <;> first | done | decide) | (simp only [zNum, zSet, zV, yk, yn, yi, yt, ys, yr, yd, yy, ym, yc, yv, ye, yo, c1, c11, c19, c25, c31, c38, c44, c50, c66, c72, eq_self, ↓reduceIte, Bool.false_eq_true, Bool.not_false, Bool.not_true, Bool.and_true, Bool.and_false, Bool.true_and, Bool.false_and, decide_true, decide_false] <;> first | done | decide) | (simp [zNum, zSet, zV, yk, yn, yi, yt, ys, yr, yd, yy, ym, yc, yv, ye, yo, c1, c11, c19, c25, c31, c38, c44, c50, c66, c72]; done) | (simp [zNum, zSet, zV, yk, yn, yi, yt, ys, yr, yd, yy, ym, yc, yv, ye, yo, c1, c11, c19, c25, c31, c38, c44, c50, c66, eq_true c72]; done), by rw [ht]; exact hP, va_K.moved hW.alike hK, hD⟩, hS.F ht⟩) hS.2.2 dY_number_199
  refine lv_tableOut (tgt := 200) hx hb dY_number_1 (by have z0 := lv_neT (k := 0) (a := 0) c1 (by decide); have z1 := lv_neT (k := 1) (a := 1) c11 (by decide); have z2 := lv_neT (k := 2) (a := 2) c19 (by decide); have z3 := lv_neT (k := 3) (a := 3) c25 (by decide); have z4 := lv_neT (k := 4) (a := 4) c31 (by decide); have z5 := lv_neT (k := 5) (a := 5) c38 (by decide); have z6 := lv_neT (k := 6) (a := 6) c44 (by decide); have z7 := lv_neT (k := 7) (a := 7) c50 (by decide); have z8 := lv_neT (k := 8) (a := 8) c66 (by decide); have z9 := lv_neT (k := 9) (a := 9) c72 (by decide); omega) (by decide) ?_
  refine lv_iconst (v := (-1)) hx hb dY_number_200 (by decide) ?_
  exact W.iret (v := (-1)) hx hb hr (fun tE ht hW => ⟨⟨(-1), (zk, zn, zi, zt, zs, zr, zd, zy, zm, zc, zv, ze, zo), rfl, by first | (simp only [zNum, zSet, zV, yk, yn, yi, yt, ys, yr, yd, yy, ym, yc, yv, ye, yo, c1, c11, c19, c25, c31, c38, c44, c50, c66, c72, eq_self, ↓reduceIte, Bool.false_eq_true, Bool.not_false, Bool.not_true, Bool.and_true, Bool.and_false, Bool.true_and, Bool.false_and, decide_true, decide_false] <;> first | done | decide) | (simp [zNum, zSet, zV, yk, yn, yi, yt, ys, yr, yd, yy, ym, yc, yv, ye, yo, c1, c11, c19, c25, c31, c38, c44, c50, c66, c72]; done), by rw [ht]; exact hP, va_K.moved hW.alike hK, hD⟩, hS.F ht⟩) hS.2.2 dY_number_201
