set_option maxHeartbeats 8000000 in
set_option maxRecDepth 100000 in
theorem j_probe (l : Launch) (D : va_G) (G : YF) (v : YS) (hok : yOk v) (sz : Nat) (p0 p1 p2 p3 p4 : Int32) : Met l yY_probe wY_probe ({ frames := 3, cells := 0, slots := 0, locals := 70 }) (yPc D G v sz [.ref G.1, .int p0, .int p1, .int p2, .int p3, .int p4]) (va_Qi (fun (r : Int32) (w : YS) => (r, w) = zProbe v p0 p1 p2 p3 p4) (yB D G (va_A (yW G v) sz)) (va_A (yW G v) sz)) 0 0 (va_A (yW G v) sz) := by
  obtain ⟨zk, zn, zi, zt, zs, zr, zd, zy, zm, zc, zv, ze, zo⟩ := v
  refine Met.ofW (cc := cY_probe) (maxL := 7) (ret := (Option.some Jvm.ClassFile.FieldType.int)) (by decide) rfl ?_
  intro p e s m args below meth c s₁ B hml hv
  obtain ⟨rfl, hsz, hP, hK, hD0⟩ := hv
  have hx := B.exec
  have hb := B.bytes
  have hr := B.returns
  have hts := atoms_spec (ws := wY_probe) B.pre
  have hty : ∀ w ∈ yAll, w.before _ s = true := fun w h => hts w (List.mem_cons_of_mem _ h)
  have hown : s.vm.findClass RY = some m.cls := findClass_of_methodNamed B.named
  have hlocks := B.notSynchronized
  subst hsz
  have hD := hD0.self (sz := s.heap.size)
  generalize hAe : va_A (yW G (zk, zn, zi, zt, zs, zr, zd, zy, zm, zc, zv, ze, zo)) s.heap.size = A at hD ⊢
  have hA : ∀ q : Nat, s.heap.size ≤ q → A q := fun q h => by rw [← hAe]; exact Or.inr h
  have hS : va_S A s.heap s.heap [] := va_S.rf
  refine xHeap (C := fun H => va_P D vwCl (yW G (zk, zn, zi, zt, zs, zr, zd, zy, zm, zc, zv, ze, zo)) H ∧ va_S A s.heap H []) ⟨hP, hS⟩ (fun H hC => ?_)
  obtain ⟨hP, hS⟩ := hC
  have hl := lv_entry ([.ref G.1, .int p0, .int p1, .int p2, .int p3, .int p4]) (n := 7) (Nat.le_of_ble_eq_true rfl)
  rw [lg_entry_eq]
  generalize (lg_sl ([.ref G.1, .int p0, .int p1, .int p2, .int p3, .int p4]) ++ List.replicate (7 - (lg_sl ([.ref G.1, .int p0, .int p1, .int p2, .int p3, .int p4])).length) Slot.unset).toArray = ls at hl ⊢
  have hl : lv_has ls 7 [(0, .ref G.1), (1, .int p0), (2, .int p1), (3, .int p2), (4, .int p3), (5, .int p4)] := hl
  refine lv_iload_n hx hb dY_probe_0 rfl (lv_at hl 1 rfl) ?_
  refine lv_iconst (v := 0) hx hb dY_probe_1 (by decide) ?_
  refine lv_bipush (v := 7) hx hb dY_probe_2 (by decide) ?_
  refine vp_callSi (va_Run.run (va_runS (As := [.int p0, .int 0, .int 7]) (rest := []) ⟨hx, hb, hml, hown, hts⟩ (j_inn l p0 0 7) (va_cwS 3 hts (yS ylY_48 ym_inn yini yc_inn) rfl rfl rfl (by decide +kernel) ⟨Nat.le_of_ble_eq_true rfl, Nat.le_of_ble_eq_true rfl⟩) preEq rfl rfl hl.1 rfl (lv_room (Nat.le_of_ble_eq_true rfl)) dY_probe_4 ⟨Nat.le_of_ble_eq_true rfl, Nat.le_of_ble_eq_true rfl⟩)) (fun r1 hw2 => ?_)
  rcases bI_c hw2 with ⟨rfl, b3⟩ | ⟨rfl, b3⟩
  · refine lv_if_eq (tgt := 53) hx hb dY_probe_7 (by decide) (fun cz => absurd cz (by decide)) (fun _ => ?_)
    refine lv_iload_n hx hb dY_probe_10 rfl (lv_at hl 2 rfl) ?_
    refine lv_iconst (v := 0) hx hb dY_probe_11 (by decide) ?_
    refine lv_bipush (v := 8) hx hb dY_probe_12 (by decide) ?_
    refine vp_callSi (va_Run.run (va_runS (As := [.int p1, .int 0, .int 8]) (rest := []) ⟨hx, hb, hml, hown, hts⟩ (j_inn l p1 0 8) (va_cwS 3 hts (yS ylY_48 ym_inn yini yc_inn) rfl rfl rfl (by decide +kernel) ⟨Nat.le_of_ble_eq_true rfl, Nat.le_of_ble_eq_true rfl⟩) preEq rfl rfl hl.1 rfl (lv_room (Nat.le_of_ble_eq_true rfl)) dY_probe_14 ⟨Nat.le_of_ble_eq_true rfl, Nat.le_of_ble_eq_true rfl⟩)) (fun r4 hw5 => ?_)
    rcases bI_c hw5 with ⟨rfl, b6⟩ | ⟨rfl, b6⟩
    · refine lv_if_eq (tgt := 53) hx hb dY_probe_17 (by decide) (fun cz => absurd cz (by decide)) (fun _ => ?_)
      refine lv_iload_n hx hb dY_probe_20 rfl (lv_at hl 3 rfl) ?_
      refine lv_iconst (v := 0) hx hb dY_probe_21 (by decide) ?_
      refine lv_bipush (v := 11) hx hb dY_probe_22 (by decide) ?_
      refine vp_callSi (va_Run.run (va_runS (As := [.int p2, .int 0, .int 11]) (rest := []) ⟨hx, hb, hml, hown, hts⟩ (j_inn l p2 0 11) (va_cwS 3 hts (yS ylY_48 ym_inn yini yc_inn) rfl rfl rfl (by decide +kernel) ⟨Nat.le_of_ble_eq_true rfl, Nat.le_of_ble_eq_true rfl⟩) preEq rfl rfl hl.1 rfl (lv_room (Nat.le_of_ble_eq_true rfl)) dY_probe_24 ⟨Nat.le_of_ble_eq_true rfl, Nat.le_of_ble_eq_true rfl⟩)) (fun r7 hw8 => ?_)
      rcases bI_c hw8 with ⟨rfl, b9⟩ | ⟨rfl, b9⟩
      · refine lv_if_eq (tgt := 53) hx hb dY_probe_27 (by decide) (fun cz => absurd cz (by decide)) (fun _ => ?_)
        refine lv_iload hx hb dY_probe_30 (lv_at hl 5 rfl) ?_
        refine lv_iconst (v := 0) hx hb dY_probe_32 (by decide) ?_
        refine lv_iconst (v := 3) hx hb dY_probe_33 (by decide) ?_
        refine vp_callSi (va_Run.run (va_runS (As := [.int p4, .int 0, .int 3]) (rest := []) ⟨hx, hb, hml, hown, hts⟩ (j_inn l p4 0 3) (va_cwS 3 hts (yS ylY_48 ym_inn yini yc_inn) rfl rfl rfl (by decide +kernel) ⟨Nat.le_of_ble_eq_true rfl, Nat.le_of_ble_eq_true rfl⟩) preEq rfl rfl hl.1 rfl (lv_room (Nat.le_of_ble_eq_true rfl)) dY_probe_34 ⟨Nat.le_of_ble_eq_true rfl, Nat.le_of_ble_eq_true rfl⟩)) (fun r10 hw11 => ?_)
        rcases bI_c hw11 with ⟨rfl, b12⟩ | ⟨rfl, b12⟩
        · refine lv_if_eq (tgt := 53) hx hb dY_probe_37 (by decide) (fun cz => absurd cz (by decide)) (fun _ => ?_)
          refine lv_aload_n hx hb dY_probe_40 rfl (lv_at hl 0 rfl) ?_
          refine va_get (D := D) (ci := 2) (v := .ref G.2.2.2.2.2.2.2.2.1) (C := RY) (T := TY) (N := 13) hx hb hty inY hown hK hP 0 rfl rfl 8 (by decide) (hty _ yf_35) (fun _ h9 => h9) rfl dY_probe_41 ?_
          refine lv_iload_n hx hb dY_probe_44 rfl (lv_at hl 2 rfl) ?_
          refine va_iald (f := zm) hx hb hK hP 8 7 rfl rfl (fIn_in8 b6) dY_probe_45 ?_
          refine lv_iload_n hx hb dY_probe_46 rfl (lv_at hl 3 rfl) ?_
          refine lv_ishr hx hb dY_probe_47 ?_
          refine lv_iconst (v := 1) hx hb dY_probe_48 (by decide) ?_
          refine lv_iand hx hb dY_probe_49 ?_
          refine lv_if_ne (tgt := 55) hx hb dY_probe_50 (by decide) (fun c13 => ?_) (fun c13 => ?_)
          · refine lv_iload_n hx hb dY_probe_55 rfl (lv_at hl 3 rfl) ?_
            refine lv_bipush (v := 7) hx hb dY_probe_56 (by decide) ?_
            refine lv_icmp_eq (tgt := 71) hx hb dY_probe_58 (by decide) (fun c14 => ?_) (fun c14 => ?_)
            · refine lv_iconst (v := 0) hx hb dY_probe_71 (by decide) ?_
              refine lv_istore (lv' := [(6, .int 0), (0, .ref G.1), (1, .int p0), (2, .int p1), (3, .int p2), (4, .int p3), (5, .int p4)]) hx hb dY_probe_72 hl (by decide) rfl (fun ls hl => ?_)
              refine lv_iload hx hb dY_probe_74 (lv_at hl 0 rfl) ?_
              refine lv_if_eq (tgt := 90) hx hb dY_probe_76 (by decide) (fun _ => ?_) (fun cz => absurd cz (by decide))
              refine lv_iload hx hb dY_probe_90 (lv_at hl 0 rfl) ?_
              refine lv_if_eq (tgt := 111) hx hb dY_probe_92 (by decide) (fun _ => ?_) (fun cz => absurd cz (by decide))
              refine lv_aload_n hx hb dY_probe_111 rfl (lv_at hl 1 rfl) ?_
              refine lv_aload_n hx hb dY_probe_112 rfl (lv_at hl 1 rfl) ?_
              refine lv_aload_n hx hb dY_probe_113 rfl (lv_at hl 1 rfl) ?_
              refine va_get (D := D) (ci := 2) (v := .ref G.2.2.2.2.1) (C := RY) (T := TY) (N := 13) hx hb hty inY hown hK hP 0 rfl rfl 4 (by decide) (hty _ yf_23) (fun _ h9 => h9) rfl dY_probe_114 ?_
              refine lv_iload_n hx hb dY_probe_117 rfl (lv_at hl 2 rfl) ?_
              refine va_iald (f := zs) hx hb hK hP 4 3 rfl rfl (fIn_in7 b3) dY_probe_118 ?_
              refine lv_iload_n hx hb dY_probe_119 rfl (lv_at hl 3 rfl) ?_
              refine lv_iload_n hx hb dY_probe_120 rfl (lv_at hl 4 rfl) ?_
              refine lv_iload hx hb dY_probe_121 (lv_at hl 5 rfl) ?_
              have hf15 := xFree hD hS hA
              refine va_calli (va_runV (As := [.int (zs p0.toNatClampNeg), .int p1, .int p2, .int p3]) (rest := [.ref G.1]) ⟨hx, hb, hml, hown, hts⟩ (j_answer l D G (zk, zn, zi, zt, zs, zr, zd, zy, zm, zc, zv, ze, zo) hok H.size (zs p0.toNatClampNeg) p1 p2 p3 (hok.2.1 _ (hok.2.2.1 _))) (cwV 4 hts (yV ylY_83 ym_answer ys_answer yc_answer) rfl rfl rfl (by decide +kernel) ⟨Nat.le_of_ble_eq_true rfl, Nat.le_of_ble_eq_true rfl⟩) (yPre hK hP hD _) rfl rfl hl.1 rfl (lv_room (Nat.le_of_ble_eq_true rfl)) dY_probe_123 ⟨Nat.le_of_ble_eq_true rfl, Nat.le_of_ble_eq_true rfl⟩) hS (fun q _ h => hf15 q h) hf15 (fun r16 v17 t19 H1 locs ht hvm hw18 hB hz1 hk1 hS => ?_)
              obtain ⟨hP1, hK1, hD1⟩ := hB
              rw [ht] at hP1
              replace hD1 := hD1.weaken (fun _ _ _ h => hf15 _ h)
              generalize H1 = H at hP1 hS ⊢
              obtain ⟨rfl, rfl⟩ := Prod.mk.inj (show (r16, v17) = ((zAns (zk, zn, zi, zt, zs, zr, zd, zy, zm, zc, zv, ze, zo) (zs p0.toNatClampNeg) p1 p2 p3).1, ((zAns (zk, zn, zi, zt, zs, zr, zd, zy, zm, zc, zv, ze, zo) (zs p0.toNatClampNeg) p1 p2 p3).2.1, (zAns (zk, zn, zi, zt, zs, zr, zd, zy, zm, zc, zv, ze, zo) (zs p0.toNatClampNeg) p1 p2 p3).2.2.1, (zAns (zk, zn, zi, zt, zs, zr, zd, zy, zm, zc, zv, ze, zo) (zs p0.toNatClampNeg) p1 p2 p3).2.2.2.1, (zAns (zk, zn, zi, zt, zs, zr, zd, zy, zm, zc, zv, ze, zo) (zs p0.toNatClampNeg) p1 p2 p3).2.2.2.2.1, (zAns (zk, zn, zi, zt, zs, zr, zd, zy, zm, zc, zv, ze, zo) (zs p0.toNatClampNeg) p1 p2 p3).2.2.2.2.2.1, (zAns (zk, zn, zi, zt, zs, zr, zd, zy, zm, zc, zv, ze, zo) (zs p0.toNatClampNeg) p1 p2 p3).2.2.2.2.2.2.1, (zAns (zk, zn, zi, zt, zs, zr, zd, zy, zm, zc, zv, ze, zo) (zs p0.toNatClampNeg) p1 p2 p3).2.2.2.2.2.2.2.1, (zAns (zk, zn, zi, zt, zs, zr, zd, zy, zm, zc, zv, ze, zo) (zs p0.toNatClampNeg) p1 p2 p3).2.2.2.2.2.2.2.2.1, (zAns (zk, zn, zi, zt, zs, zr, zd, zy, zm, zc, zv, ze, zo) (zs p0.toNatClampNeg) p1 p2 p3).2.2.2.2.2.2.2.2.2.1, (zAns (zk, zn, zi, zt, zs, zr, zd, zy, zm, zc, zv, ze, zo) (zs p0.toNatClampNeg) p1 p2 p3).2.2.2.2.2.2.2.2.2.2.1, (zAns (zk, zn, zi, zt, zs, zr, zd, zy, zm, zc, zv, ze, zo) (zs p0.toNatClampNeg) p1 p2 p3).2.2.2.2.2.2.2.2.2.2.2.1, (zAns (zk, zn, zi, zt, zs, zr, zd, zy, zm, zc, zv, ze, zo) (zs p0.toNatClampNeg) p1 p2 p3).2.2.2.2.2.2.2.2.2.2.2.2.1, (zAns (zk, zn, zi, zt, zs, zr, zd, zy, zm, zc, zv, ze, zo) (zs p0.toNatClampNeg) p1 p2 p3).2.2.2.2.2.2.2.2.2.2.2.2.2)) from hw18)
              have hP : va_P D vwCl (yW G ((zAns (zk, zn, zi, zt, zs, zr, zd, zy, zm, zc, zv, ze, zo) (zs p0.toNatClampNeg) p1 p2 p3).2.1, (zAns (zk, zn, zi, zt, zs, zr, zd, zy, zm, zc, zv, ze, zo) (zs p0.toNatClampNeg) p1 p2 p3).2.2.1, (zAns (zk, zn, zi, zt, zs, zr, zd, zy, zm, zc, zv, ze, zo) (zs p0.toNatClampNeg) p1 p2 p3).2.2.2.1, (zAns (zk, zn, zi, zt, zs, zr, zd, zy, zm, zc, zv, ze, zo) (zs p0.toNatClampNeg) p1 p2 p3).2.2.2.2.1, (zAns (zk, zn, zi, zt, zs, zr, zd, zy, zm, zc, zv, ze, zo) (zs p0.toNatClampNeg) p1 p2 p3).2.2.2.2.2.1, (zAns (zk, zn, zi, zt, zs, zr, zd, zy, zm, zc, zv, ze, zo) (zs p0.toNatClampNeg) p1 p2 p3).2.2.2.2.2.2.1, (zAns (zk, zn, zi, zt, zs, zr, zd, zy, zm, zc, zv, ze, zo) (zs p0.toNatClampNeg) p1 p2 p3).2.2.2.2.2.2.2.1, (zAns (zk, zn, zi, zt, zs, zr, zd, zy, zm, zc, zv, ze, zo) (zs p0.toNatClampNeg) p1 p2 p3).2.2.2.2.2.2.2.2.1, (zAns (zk, zn, zi, zt, zs, zr, zd, zy, zm, zc, zv, ze, zo) (zs p0.toNatClampNeg) p1 p2 p3).2.2.2.2.2.2.2.2.2.1, (zAns (zk, zn, zi, zt, zs, zr, zd, zy, zm, zc, zv, ze, zo) (zs p0.toNatClampNeg) p1 p2 p3).2.2.2.2.2.2.2.2.2.2.1, (zAns (zk, zn, zi, zt, zs, zr, zd, zy, zm, zc, zv, ze, zo) (zs p0.toNatClampNeg) p1 p2 p3).2.2.2.2.2.2.2.2.2.2.2.1, (zAns (zk, zn, zi, zt, zs, zr, zd, zy, zm, zc, zv, ze, zo) (zs p0.toNatClampNeg) p1 p2 p3).2.2.2.2.2.2.2.2.2.2.2.2.1, (zAns (zk, zn, zi, zt, zs, zr, zd, zy, zm, zc, zv, ze, zo) (zs p0.toNatClampNeg) p1 p2 p3).2.2.2.2.2.2.2.2.2.2.2.2.2)) H := hP1
              have hD : va_D A (yW G ((zAns (zk, zn, zi, zt, zs, zr, zd, zy, zm, zc, zv, ze, zo) (zs p0.toNatClampNeg) p1 p2 p3).2.1, (zAns (zk, zn, zi, zt, zs, zr, zd, zy, zm, zc, zv, ze, zo) (zs p0.toNatClampNeg) p1 p2 p3).2.2.1, (zAns (zk, zn, zi, zt, zs, zr, zd, zy, zm, zc, zv, ze, zo) (zs p0.toNatClampNeg) p1 p2 p3).2.2.2.1, (zAns (zk, zn, zi, zt, zs, zr, zd, zy, zm, zc, zv, ze, zo) (zs p0.toNatClampNeg) p1 p2 p3).2.2.2.2.1, (zAns (zk, zn, zi, zt, zs, zr, zd, zy, zm, zc, zv, ze, zo) (zs p0.toNatClampNeg) p1 p2 p3).2.2.2.2.2.1, (zAns (zk, zn, zi, zt, zs, zr, zd, zy, zm, zc, zv, ze, zo) (zs p0.toNatClampNeg) p1 p2 p3).2.2.2.2.2.2.1, (zAns (zk, zn, zi, zt, zs, zr, zd, zy, zm, zc, zv, ze, zo) (zs p0.toNatClampNeg) p1 p2 p3).2.2.2.2.2.2.2.1, (zAns (zk, zn, zi, zt, zs, zr, zd, zy, zm, zc, zv, ze, zo) (zs p0.toNatClampNeg) p1 p2 p3).2.2.2.2.2.2.2.2.1, (zAns (zk, zn, zi, zt, zs, zr, zd, zy, zm, zc, zv, ze, zo) (zs p0.toNatClampNeg) p1 p2 p3).2.2.2.2.2.2.2.2.2.1, (zAns (zk, zn, zi, zt, zs, zr, zd, zy, zm, zc, zv, ze, zo) (zs p0.toNatClampNeg) p1 p2 p3).2.2.2.2.2.2.2.2.2.2.1, (zAns (zk, zn, zi, zt, zs, zr, zd, zy, zm, zc, zv, ze, zo) (zs p0.toNatClampNeg) p1 p2 p3).2.2.2.2.2.2.2.2.2.2.2.1, (zAns (zk, zn, zi, zt, zs, zr, zd, zy, zm, zc, zv, ze, zo) (zs p0.toNatClampNeg) p1 p2 p3).2.2.2.2.2.2.2.2.2.2.2.2.1, (zAns (zk, zn, zi, zt, zs, zr, zd, zy, zm, zc, zv, ze, zo) (zs p0.toNatClampNeg) p1 p2 p3).2.2.2.2.2.2.2.2.2.2.2.2.2)) := hD1
              refine va_put (D := D) (ci := 2) (v := .int ((zAns (zk, zn, zi, zt, zs, zr, zd, zy, zm, zc, zv, ze, zo) (zs p0.toNatClampNeg) p1 p2 p3).1)) (ty := .int) (C := RY) (T := TY) (N := 13) hx hb hty inY tyY tyY_ok nmY hown hK hP hD hS 0 rfl rfl 10 (by decide) (hty _ yf_86) (fun _ h9 => h9) rfl (by decide +kernel) rfl rfl (Nat.le_of_ble_eq_true rfl) dY_probe_126 (fun H locs hP hD hS => ?_)
              have hP : va_P D vwCl (yW G ((zAns (zk, zn, zi, zt, zs, zr, zd, zy, zm, zc, zv, ze, zo) (zs p0.toNatClampNeg) p1 p2 p3).2.1, (zAns (zk, zn, zi, zt, zs, zr, zd, zy, zm, zc, zv, ze, zo) (zs p0.toNatClampNeg) p1 p2 p3).2.2.1, (zAns (zk, zn, zi, zt, zs, zr, zd, zy, zm, zc, zv, ze, zo) (zs p0.toNatClampNeg) p1 p2 p3).2.2.2.1, (zAns (zk, zn, zi, zt, zs, zr, zd, zy, zm, zc, zv, ze, zo) (zs p0.toNatClampNeg) p1 p2 p3).2.2.2.2.1, (zAns (zk, zn, zi, zt, zs, zr, zd, zy, zm, zc, zv, ze, zo) (zs p0.toNatClampNeg) p1 p2 p3).2.2.2.2.2.1, (zAns (zk, zn, zi, zt, zs, zr, zd, zy, zm, zc, zv, ze, zo) (zs p0.toNatClampNeg) p1 p2 p3).2.2.2.2.2.2.1, (zAns (zk, zn, zi, zt, zs, zr, zd, zy, zm, zc, zv, ze, zo) (zs p0.toNatClampNeg) p1 p2 p3).2.2.2.2.2.2.2.1, (zAns (zk, zn, zi, zt, zs, zr, zd, zy, zm, zc, zv, ze, zo) (zs p0.toNatClampNeg) p1 p2 p3).2.2.2.2.2.2.2.2.1, (zAns (zk, zn, zi, zt, zs, zr, zd, zy, zm, zc, zv, ze, zo) (zs p0.toNatClampNeg) p1 p2 p3).2.2.2.2.2.2.2.2.2.1, (zAns (zk, zn, zi, zt, zs, zr, zd, zy, zm, zc, zv, ze, zo) (zs p0.toNatClampNeg) p1 p2 p3).2.2.2.2.2.2.2.2.2.2.1, (zAns (zk, zn, zi, zt, zs, zr, zd, zy, zm, zc, zv, ze, zo) (zs p0.toNatClampNeg) p1 p2 p3).1, (zAns (zk, zn, zi, zt, zs, zr, zd, zy, zm, zc, zv, ze, zo) (zs p0.toNatClampNeg) p1 p2 p3).2.2.2.2.2.2.2.2.2.2.2.2.1, (zAns (zk, zn, zi, zt, zs, zr, zd, zy, zm, zc, zv, ze, zo) (zs p0.toNatClampNeg) p1 p2 p3).2.2.2.2.2.2.2.2.2.2.2.2.2)) H := hP
              have hD : va_D A (yW G ((zAns (zk, zn, zi, zt, zs, zr, zd, zy, zm, zc, zv, ze, zo) (zs p0.toNatClampNeg) p1 p2 p3).2.1, (zAns (zk, zn, zi, zt, zs, zr, zd, zy, zm, zc, zv, ze, zo) (zs p0.toNatClampNeg) p1 p2 p3).2.2.1, (zAns (zk, zn, zi, zt, zs, zr, zd, zy, zm, zc, zv, ze, zo) (zs p0.toNatClampNeg) p1 p2 p3).2.2.2.1, (zAns (zk, zn, zi, zt, zs, zr, zd, zy, zm, zc, zv, ze, zo) (zs p0.toNatClampNeg) p1 p2 p3).2.2.2.2.1, (zAns (zk, zn, zi, zt, zs, zr, zd, zy, zm, zc, zv, ze, zo) (zs p0.toNatClampNeg) p1 p2 p3).2.2.2.2.2.1, (zAns (zk, zn, zi, zt, zs, zr, zd, zy, zm, zc, zv, ze, zo) (zs p0.toNatClampNeg) p1 p2 p3).2.2.2.2.2.2.1, (zAns (zk, zn, zi, zt, zs, zr, zd, zy, zm, zc, zv, ze, zo) (zs p0.toNatClampNeg) p1 p2 p3).2.2.2.2.2.2.2.1, (zAns (zk, zn, zi, zt, zs, zr, zd, zy, zm, zc, zv, ze, zo) (zs p0.toNatClampNeg) p1 p2 p3).2.2.2.2.2.2.2.2.1, (zAns (zk, zn, zi, zt, zs, zr, zd, zy, zm, zc, zv, ze, zo) (zs p0.toNatClampNeg) p1 p2 p3).2.2.2.2.2.2.2.2.2.1, (zAns (zk, zn, zi, zt, zs, zr, zd, zy, zm, zc, zv, ze, zo) (zs p0.toNatClampNeg) p1 p2 p3).2.2.2.2.2.2.2.2.2.2.1, (zAns (zk, zn, zi, zt, zs, zr, zd, zy, zm, zc, zv, ze, zo) (zs p0.toNatClampNeg) p1 p2 p3).1, (zAns (zk, zn, zi, zt, zs, zr, zd, zy, zm, zc, zv, ze, zo) (zs p0.toNatClampNeg) p1 p2 p3).2.2.2.2.2.2.2.2.2.2.2.2.1, (zAns (zk, zn, zi, zt, zs, zr, zd, zy, zm, zc, zv, ze, zo) (zs p0.toNatClampNeg) p1 p2 p3).2.2.2.2.2.2.2.2.2.2.2.2.2)) := hD
              refine lv_iconst (v := 0) hx hb dY_probe_129 (by decide) ?_
              exact W.iret (v := 0) hx hb hr (fun tE ht hW => ⟨⟨0, ((zAns (zk, zn, zi, zt, zs, zr, zd, zy, zm, zc, zv, ze, zo) (zs p0.toNatClampNeg) p1 p2 p3).2.1, (zAns (zk, zn, zi, zt, zs, zr, zd, zy, zm, zc, zv, ze, zo) (zs p0.toNatClampNeg) p1 p2 p3).2.2.1, (zAns (zk, zn, zi, zt, zs, zr, zd, zy, zm, zc, zv, ze, zo) (zs p0.toNatClampNeg) p1 p2 p3).2.2.2.1, (zAns (zk, zn, zi, zt, zs, zr, zd, zy, zm, zc, zv, ze, zo) (zs p0.toNatClampNeg) p1 p2 p3).2.2.2.2.1, (zAns (zk, zn, zi, zt, zs, zr, zd, zy, zm, zc, zv, ze, zo) (zs p0.toNatClampNeg) p1 p2 p3).2.2.2.2.2.1, (zAns (zk, zn, zi, zt, zs, zr, zd, zy, zm, zc, zv, ze, zo) (zs p0.toNatClampNeg) p1 p2 p3).2.2.2.2.2.2.1, (zAns (zk, zn, zi, zt, zs, zr, zd, zy, zm, zc, zv, ze, zo) (zs p0.toNatClampNeg) p1 p2 p3).2.2.2.2.2.2.2.1, (zAns (zk, zn, zi, zt, zs, zr, zd, zy, zm, zc, zv, ze, zo) (zs p0.toNatClampNeg) p1 p2 p3).2.2.2.2.2.2.2.2.1, (zAns (zk, zn, zi, zt, zs, zr, zd, zy, zm, zc, zv, ze, zo) (zs p0.toNatClampNeg) p1 p2 p3).2.2.2.2.2.2.2.2.2.1, (zAns (zk, zn, zi, zt, zs, zr, zd, zy, zm, zc, zv, ze, zo) (zs p0.toNatClampNeg) p1 p2 p3).2.2.2.2.2.2.2.2.2.2.1, (zAns (zk, zn, zi, zt, zs, zr, zd, zy, zm, zc, zv, ze, zo) (zs p0.toNatClampNeg) p1 p2 p3).1, (zAns (zk, zn, zi, zt, zs, zr, zd, zy, zm, zc, zv, ze, zo) (zs p0.toNatClampNeg) p1 p2 p3).2.2.2.2.2.2.2.2.2.2.2.2.1, (zAns (zk, zn, zi, zt, zs, zr, zd, zy, zm, zc, zv, ze, zo) (zs p0.toNatClampNeg) p1 p2 p3).2.2.2.2.2.2.2.2.2.2.2.2.2), rfl, by first | (simp only [zProbe, zSet, zV, yk, yn, yi, yt, ys, yr, yd, yy, ym, yc, yv, ye, yo, b3, b6, b9, b12, c13, eq_true c14, eq_self, ↓reduceIte, Bool.false_eq_true, Bool.not_false, Bool.not_true, Bool.and_true, Bool.and_false, Bool.true_and, Bool.false_and, decide_true, decide_false] <;> first | done | decide) | (simp only [zProbe, zSet, zV, yk, yn, yi, yt, ys, yr, yd, yy, ym, yc, yv, ye, yo, b3, b6, b9, b12, c13, c14, eq_self, ↓reduceIte, Bool.false_eq_true, Bool.not_false, Bool.not_true, Bool.and_true, Bool.and_false, Bool.true_and, Bool.false_and, decide_true, decide_false] <;> first | done | decide) | (simp [zProbe, zSet, zV, yk, yn, yi, yt, ys, yr, yd, yy, ym, yc, yv, ye, yo, b3, b6, b9, b12, c13, c14]; done) | (simp [zProbe, zSet, zV, yk, yn, yi, yt, ys, yr, yd, yy, ym, yc, yv, ye, yo, b3, b6, b9, b12, c13, eq_true c14]; done), by rw [ht]; exact hP, va_K.moved hW.alike hK, hD⟩, hS.F ht⟩) hS.2.2 dY_probe_130
            · refine lv_iload_n hx hb dY_probe_61 rfl (lv_at hl 3 rfl) ?_
              refine lv_bipush (v := 8) hx hb dY_probe_62 (by decide) ?_
              refine lv_icmp_eq (tgt := 71) hx hb dY_probe_64 (by decide) (fun c20 => ?_) (fun c20 => ?_)
              · refine lv_iconst (v := 0) hx hb dY_probe_71 (by decide) ?_
                refine lv_istore (lv' := [(6, .int 0), (0, .ref G.1), (1, .int p0), (2, .int p1), (3, .int p2), (4, .int p3), (5, .int p4)]) hx hb dY_probe_72 hl (by decide) rfl (fun ls hl => ?_)
                refine lv_iload hx hb dY_probe_74 (lv_at hl 0 rfl) ?_
                refine lv_if_eq (tgt := 90) hx hb dY_probe_76 (by decide) (fun _ => ?_) (fun cz => absurd cz (by decide))
                refine lv_iload hx hb dY_probe_90 (lv_at hl 0 rfl) ?_
                refine lv_if_eq (tgt := 111) hx hb dY_probe_92 (by decide) (fun _ => ?_) (fun cz => absurd cz (by decide))
                refine lv_aload_n hx hb dY_probe_111 rfl (lv_at hl 1 rfl) ?_
                refine lv_aload_n hx hb dY_probe_112 rfl (lv_at hl 1 rfl) ?_
                refine lv_aload_n hx hb dY_probe_113 rfl (lv_at hl 1 rfl) ?_
                refine va_get (D := D) (ci := 2) (v := .ref G.2.2.2.2.1) (C := RY) (T := TY) (N := 13) hx hb hty inY hown hK hP 0 rfl rfl 4 (by decide) (hty _ yf_23) (fun _ h9 => h9) rfl dY_probe_114 ?_
                refine lv_iload_n hx hb dY_probe_117 rfl (lv_at hl 2 rfl) ?_
                refine va_iald (f := zs) hx hb hK hP 4 3 rfl rfl (fIn_in7 b3) dY_probe_118 ?_
                refine lv_iload_n hx hb dY_probe_119 rfl (lv_at hl 3 rfl) ?_
                refine lv_iload_n hx hb dY_probe_120 rfl (lv_at hl 4 rfl) ?_
                refine lv_iload hx hb dY_probe_121 (lv_at hl 5 rfl) ?_
                have hf21 := xFree hD hS hA
                refine va_calli (va_runV (As := [.int (zs p0.toNatClampNeg), .int p1, .int p2, .int p3]) (rest := [.ref G.1]) ⟨hx, hb, hml, hown, hts⟩ (j_answer l D G (zk, zn, zi, zt, zs, zr, zd, zy, zm, zc, zv, ze, zo) hok H.size (zs p0.toNatClampNeg) p1 p2 p3 (hok.2.1 _ (hok.2.2.1 _))) (cwV 4 hts (yV ylY_83 ym_answer ys_answer yc_answer) rfl rfl rfl (by decide +kernel) ⟨Nat.le_of_ble_eq_true rfl, Nat.le_of_ble_eq_true rfl⟩) (yPre hK hP hD _) rfl rfl hl.1 rfl (lv_room (Nat.le_of_ble_eq_true rfl)) dY_probe_123 ⟨Nat.le_of_ble_eq_true rfl, Nat.le_of_ble_eq_true rfl⟩) hS (fun q _ h => hf21 q h) hf21 (fun r22 v23 t25 H1 locs ht hvm hw24 hB hz1 hk1 hS => ?_)
                obtain ⟨hP1, hK1, hD1⟩ := hB
                rw [ht] at hP1
                replace hD1 := hD1.weaken (fun _ _ _ h => hf21 _ h)
                generalize H1 = H at hP1 hS ⊢
                obtain ⟨rfl, rfl⟩ := Prod.mk.inj (show (r22, v23) = ((zAns (zk, zn, zi, zt, zs, zr, zd, zy, zm, zc, zv, ze, zo) (zs p0.toNatClampNeg) p1 p2 p3).1, ((zAns (zk, zn, zi, zt, zs, zr, zd, zy, zm, zc, zv, ze, zo) (zs p0.toNatClampNeg) p1 p2 p3).2.1, (zAns (zk, zn, zi, zt, zs, zr, zd, zy, zm, zc, zv, ze, zo) (zs p0.toNatClampNeg) p1 p2 p3).2.2.1, (zAns (zk, zn, zi, zt, zs, zr, zd, zy, zm, zc, zv, ze, zo) (zs p0.toNatClampNeg) p1 p2 p3).2.2.2.1, (zAns (zk, zn, zi, zt, zs, zr, zd, zy, zm, zc, zv, ze, zo) (zs p0.toNatClampNeg) p1 p2 p3).2.2.2.2.1, (zAns (zk, zn, zi, zt, zs, zr, zd, zy, zm, zc, zv, ze, zo) (zs p0.toNatClampNeg) p1 p2 p3).2.2.2.2.2.1, (zAns (zk, zn, zi, zt, zs, zr, zd, zy, zm, zc, zv, ze, zo) (zs p0.toNatClampNeg) p1 p2 p3).2.2.2.2.2.2.1, (zAns (zk, zn, zi, zt, zs, zr, zd, zy, zm, zc, zv, ze, zo) (zs p0.toNatClampNeg) p1 p2 p3).2.2.2.2.2.2.2.1, (zAns (zk, zn, zi, zt, zs, zr, zd, zy, zm, zc, zv, ze, zo) (zs p0.toNatClampNeg) p1 p2 p3).2.2.2.2.2.2.2.2.1, (zAns (zk, zn, zi, zt, zs, zr, zd, zy, zm, zc, zv, ze, zo) (zs p0.toNatClampNeg) p1 p2 p3).2.2.2.2.2.2.2.2.2.1, (zAns (zk, zn, zi, zt, zs, zr, zd, zy, zm, zc, zv, ze, zo) (zs p0.toNatClampNeg) p1 p2 p3).2.2.2.2.2.2.2.2.2.2.1, (zAns (zk, zn, zi, zt, zs, zr, zd, zy, zm, zc, zv, ze, zo) (zs p0.toNatClampNeg) p1 p2 p3).2.2.2.2.2.2.2.2.2.2.2.1, (zAns (zk, zn, zi, zt, zs, zr, zd, zy, zm, zc, zv, ze, zo) (zs p0.toNatClampNeg) p1 p2 p3).2.2.2.2.2.2.2.2.2.2.2.2.1, (zAns (zk, zn, zi, zt, zs, zr, zd, zy, zm, zc, zv, ze, zo) (zs p0.toNatClampNeg) p1 p2 p3).2.2.2.2.2.2.2.2.2.2.2.2.2)) from hw24)
                have hP : va_P D vwCl (yW G ((zAns (zk, zn, zi, zt, zs, zr, zd, zy, zm, zc, zv, ze, zo) (zs p0.toNatClampNeg) p1 p2 p3).2.1, (zAns (zk, zn, zi, zt, zs, zr, zd, zy, zm, zc, zv, ze, zo) (zs p0.toNatClampNeg) p1 p2 p3).2.2.1, (zAns (zk, zn, zi, zt, zs, zr, zd, zy, zm, zc, zv, ze, zo) (zs p0.toNatClampNeg) p1 p2 p3).2.2.2.1, (zAns (zk, zn, zi, zt, zs, zr, zd, zy, zm, zc, zv, ze, zo) (zs p0.toNatClampNeg) p1 p2 p3).2.2.2.2.1, (zAns (zk, zn, zi, zt, zs, zr, zd, zy, zm, zc, zv, ze, zo) (zs p0.toNatClampNeg) p1 p2 p3).2.2.2.2.2.1, (zAns (zk, zn, zi, zt, zs, zr, zd, zy, zm, zc, zv, ze, zo) (zs p0.toNatClampNeg) p1 p2 p3).2.2.2.2.2.2.1, (zAns (zk, zn, zi, zt, zs, zr, zd, zy, zm, zc, zv, ze, zo) (zs p0.toNatClampNeg) p1 p2 p3).2.2.2.2.2.2.2.1, (zAns (zk, zn, zi, zt, zs, zr, zd, zy, zm, zc, zv, ze, zo) (zs p0.toNatClampNeg) p1 p2 p3).2.2.2.2.2.2.2.2.1, (zAns (zk, zn, zi, zt, zs, zr, zd, zy, zm, zc, zv, ze, zo) (zs p0.toNatClampNeg) p1 p2 p3).2.2.2.2.2.2.2.2.2.1, (zAns (zk, zn, zi, zt, zs, zr, zd, zy, zm, zc, zv, ze, zo) (zs p0.toNatClampNeg) p1 p2 p3).2.2.2.2.2.2.2.2.2.2.1, (zAns (zk, zn, zi, zt, zs, zr, zd, zy, zm, zc, zv, ze, zo) (zs p0.toNatClampNeg) p1 p2 p3).2.2.2.2.2.2.2.2.2.2.2.1, (zAns (zk, zn, zi, zt, zs, zr, zd, zy, zm, zc, zv, ze, zo) (zs p0.toNatClampNeg) p1 p2 p3).2.2.2.2.2.2.2.2.2.2.2.2.1, (zAns (zk, zn, zi, zt, zs, zr, zd, zy, zm, zc, zv, ze, zo) (zs p0.toNatClampNeg) p1 p2 p3).2.2.2.2.2.2.2.2.2.2.2.2.2)) H := hP1
                have hD : va_D A (yW G ((zAns (zk, zn, zi, zt, zs, zr, zd, zy, zm, zc, zv, ze, zo) (zs p0.toNatClampNeg) p1 p2 p3).2.1, (zAns (zk, zn, zi, zt, zs, zr, zd, zy, zm, zc, zv, ze, zo) (zs p0.toNatClampNeg) p1 p2 p3).2.2.1, (zAns (zk, zn, zi, zt, zs, zr, zd, zy, zm, zc, zv, ze, zo) (zs p0.toNatClampNeg) p1 p2 p3).2.2.2.1, (zAns (zk, zn, zi, zt, zs, zr, zd, zy, zm, zc, zv, ze, zo) (zs p0.toNatClampNeg) p1 p2 p3).2.2.2.2.1, (zAns (zk, zn, zi, zt, zs, zr, zd, zy, zm, zc, zv, ze, zo) (zs p0.toNatClampNeg) p1 p2 p3).2.2.2.2.2.1, (zAns (zk, zn, zi, zt, zs, zr, zd, zy, zm, zc, zv, ze, zo) (zs p0.toNatClampNeg) p1 p2 p3).2.2.2.2.2.2.1, (zAns (zk, zn, zi, zt, zs, zr, zd, zy, zm, zc, zv, ze, zo) (zs p0.toNatClampNeg) p1 p2 p3).2.2.2.2.2.2.2.1, (zAns (zk, zn, zi, zt, zs, zr, zd, zy, zm, zc, zv, ze, zo) (zs p0.toNatClampNeg) p1 p2 p3).2.2.2.2.2.2.2.2.1, (zAns (zk, zn, zi, zt, zs, zr, zd, zy, zm, zc, zv, ze, zo) (zs p0.toNatClampNeg) p1 p2 p3).2.2.2.2.2.2.2.2.2.1, (zAns (zk, zn, zi, zt, zs, zr, zd, zy, zm, zc, zv, ze, zo) (zs p0.toNatClampNeg) p1 p2 p3).2.2.2.2.2.2.2.2.2.2.1, (zAns (zk, zn, zi, zt, zs, zr, zd, zy, zm, zc, zv, ze, zo) (zs p0.toNatClampNeg) p1 p2 p3).2.2.2.2.2.2.2.2.2.2.2.1, (zAns (zk, zn, zi, zt, zs, zr, zd, zy, zm, zc, zv, ze, zo) (zs p0.toNatClampNeg) p1 p2 p3).2.2.2.2.2.2.2.2.2.2.2.2.1, (zAns (zk, zn, zi, zt, zs, zr, zd, zy, zm, zc, zv, ze, zo) (zs p0.toNatClampNeg) p1 p2 p3).2.2.2.2.2.2.2.2.2.2.2.2.2)) := hD1
                refine va_put (D := D) (ci := 2) (v := .int ((zAns (zk, zn, zi, zt, zs, zr, zd, zy, zm, zc, zv, ze, zo) (zs p0.toNatClampNeg) p1 p2 p3).1)) (ty := .int) (C := RY) (T := TY) (N := 13) hx hb hty inY tyY tyY_ok nmY hown hK hP hD hS 0 rfl rfl 10 (by decide) (hty _ yf_86) (fun _ h9 => h9) rfl (by decide +kernel) rfl rfl (Nat.le_of_ble_eq_true rfl) dY_probe_126 (fun H locs hP hD hS => ?_)
                have hP : va_P D vwCl (yW G ((zAns (zk, zn, zi, zt, zs, zr, zd, zy, zm, zc, zv, ze, zo) (zs p0.toNatClampNeg) p1 p2 p3).2.1, (zAns (zk, zn, zi, zt, zs, zr, zd, zy, zm, zc, zv, ze, zo) (zs p0.toNatClampNeg) p1 p2 p3).2.2.1, (zAns (zk, zn, zi, zt, zs, zr, zd, zy, zm, zc, zv, ze, zo) (zs p0.toNatClampNeg) p1 p2 p3).2.2.2.1, (zAns (zk, zn, zi, zt, zs, zr, zd, zy, zm, zc, zv, ze, zo) (zs p0.toNatClampNeg) p1 p2 p3).2.2.2.2.1, (zAns (zk, zn, zi, zt, zs, zr, zd, zy, zm, zc, zv, ze, zo) (zs p0.toNatClampNeg) p1 p2 p3).2.2.2.2.2.1, (zAns (zk, zn, zi, zt, zs, zr, zd, zy, zm, zc, zv, ze, zo) (zs p0.toNatClampNeg) p1 p2 p3).2.2.2.2.2.2.1, (zAns (zk, zn, zi, zt, zs, zr, zd, zy, zm, zc, zv, ze, zo) (zs p0.toNatClampNeg) p1 p2 p3).2.2.2.2.2.2.2.1, (zAns (zk, zn, zi, zt, zs, zr, zd, zy, zm, zc, zv, ze, zo) (zs p0.toNatClampNeg) p1 p2 p3).2.2.2.2.2.2.2.2.1, (zAns (zk, zn, zi, zt, zs, zr, zd, zy, zm, zc, zv, ze, zo) (zs p0.toNatClampNeg) p1 p2 p3).2.2.2.2.2.2.2.2.2.1, (zAns (zk, zn, zi, zt, zs, zr, zd, zy, zm, zc, zv, ze, zo) (zs p0.toNatClampNeg) p1 p2 p3).2.2.2.2.2.2.2.2.2.2.1, (zAns (zk, zn, zi, zt, zs, zr, zd, zy, zm, zc, zv, ze, zo) (zs p0.toNatClampNeg) p1 p2 p3).1, (zAns (zk, zn, zi, zt, zs, zr, zd, zy, zm, zc, zv, ze, zo) (zs p0.toNatClampNeg) p1 p2 p3).2.2.2.2.2.2.2.2.2.2.2.2.1, (zAns (zk, zn, zi, zt, zs, zr, zd, zy, zm, zc, zv, ze, zo) (zs p0.toNatClampNeg) p1 p2 p3).2.2.2.2.2.2.2.2.2.2.2.2.2)) H := hP
                have hD : va_D A (yW G ((zAns (zk, zn, zi, zt, zs, zr, zd, zy, zm, zc, zv, ze, zo) (zs p0.toNatClampNeg) p1 p2 p3).2.1, (zAns (zk, zn, zi, zt, zs, zr, zd, zy, zm, zc, zv, ze, zo) (zs p0.toNatClampNeg) p1 p2 p3).2.2.1, (zAns (zk, zn, zi, zt, zs, zr, zd, zy, zm, zc, zv, ze, zo) (zs p0.toNatClampNeg) p1 p2 p3).2.2.2.1, (zAns (zk, zn, zi, zt, zs, zr, zd, zy, zm, zc, zv, ze, zo) (zs p0.toNatClampNeg) p1 p2 p3).2.2.2.2.1, (zAns (zk, zn, zi, zt, zs, zr, zd, zy, zm, zc, zv, ze, zo) (zs p0.toNatClampNeg) p1 p2 p3).2.2.2.2.2.1, (zAns (zk, zn, zi, zt, zs, zr, zd, zy, zm, zc, zv, ze, zo) (zs p0.toNatClampNeg) p1 p2 p3).2.2.2.2.2.2.1, (zAns (zk, zn, zi, zt, zs, zr, zd, zy, zm, zc, zv, ze, zo) (zs p0.toNatClampNeg) p1 p2 p3).2.2.2.2.2.2.2.1, (zAns (zk, zn, zi, zt, zs, zr, zd, zy, zm, zc, zv, ze, zo) (zs p0.toNatClampNeg) p1 p2 p3).2.2.2.2.2.2.2.2.1, (zAns (zk, zn, zi, zt, zs, zr, zd, zy, zm, zc, zv, ze, zo) (zs p0.toNatClampNeg) p1 p2 p3).2.2.2.2.2.2.2.2.2.1, (zAns (zk, zn, zi, zt, zs, zr, zd, zy, zm, zc, zv, ze, zo) (zs p0.toNatClampNeg) p1 p2 p3).2.2.2.2.2.2.2.2.2.2.1, (zAns (zk, zn, zi, zt, zs, zr, zd, zy, zm, zc, zv, ze, zo) (zs p0.toNatClampNeg) p1 p2 p3).1, (zAns (zk, zn, zi, zt, zs, zr, zd, zy, zm, zc, zv, ze, zo) (zs p0.toNatClampNeg) p1 p2 p3).2.2.2.2.2.2.2.2.2.2.2.2.1, (zAns (zk, zn, zi, zt, zs, zr, zd, zy, zm, zc, zv, ze, zo) (zs p0.toNatClampNeg) p1 p2 p3).2.2.2.2.2.2.2.2.2.2.2.2.2)) := hD
                refine lv_iconst (v := 0) hx hb dY_probe_129 (by decide) ?_
                exact W.iret (v := 0) hx hb hr (fun tE ht hW => ⟨⟨0, ((zAns (zk, zn, zi, zt, zs, zr, zd, zy, zm, zc, zv, ze, zo) (zs p0.toNatClampNeg) p1 p2 p3).2.1, (zAns (zk, zn, zi, zt, zs, zr, zd, zy, zm, zc, zv, ze, zo) (zs p0.toNatClampNeg) p1 p2 p3).2.2.1, (zAns (zk, zn, zi, zt, zs, zr, zd, zy, zm, zc, zv, ze, zo) (zs p0.toNatClampNeg) p1 p2 p3).2.2.2.1, (zAns (zk, zn, zi, zt, zs, zr, zd, zy, zm, zc, zv, ze, zo) (zs p0.toNatClampNeg) p1 p2 p3).2.2.2.2.1, (zAns (zk, zn, zi, zt, zs, zr, zd, zy, zm, zc, zv, ze, zo) (zs p0.toNatClampNeg) p1 p2 p3).2.2.2.2.2.1, (zAns (zk, zn, zi, zt, zs, zr, zd, zy, zm, zc, zv, ze, zo) (zs p0.toNatClampNeg) p1 p2 p3).2.2.2.2.2.2.1, (zAns (zk, zn, zi, zt, zs, zr, zd, zy, zm, zc, zv, ze, zo) (zs p0.toNatClampNeg) p1 p2 p3).2.2.2.2.2.2.2.1, (zAns (zk, zn, zi, zt, zs, zr, zd, zy, zm, zc, zv, ze, zo) (zs p0.toNatClampNeg) p1 p2 p3).2.2.2.2.2.2.2.2.1, (zAns (zk, zn, zi, zt, zs, zr, zd, zy, zm, zc, zv, ze, zo) (zs p0.toNatClampNeg) p1 p2 p3).2.2.2.2.2.2.2.2.2.1, (zAns (zk, zn, zi, zt, zs, zr, zd, zy, zm, zc, zv, ze, zo) (zs p0.toNatClampNeg) p1 p2 p3).2.2.2.2.2.2.2.2.2.2.1, (zAns (zk, zn, zi, zt, zs, zr, zd, zy, zm, zc, zv, ze, zo) (zs p0.toNatClampNeg) p1 p2 p3).1, (zAns (zk, zn, zi, zt, zs, zr, zd, zy, zm, zc, zv, ze, zo) (zs p0.toNatClampNeg) p1 p2 p3).2.2.2.2.2.2.2.2.2.2.2.2.1, (zAns (zk, zn, zi, zt, zs, zr, zd, zy, zm, zc, zv, ze, zo) (zs p0.toNatClampNeg) p1 p2 p3).2.2.2.2.2.2.2.2.2.2.2.2.2), rfl, by first | (simp only [zProbe, zSet, zV, yk, yn, yi, yt, ys, yr, yd, yy, ym, yc, yv, ye, yo, b3, b6, b9, b12, c13, c14, eq_true c20, eq_self, ↓reduceIte, Bool.false_eq_true, Bool.not_false, Bool.not_true, Bool.and_true, Bool.and_false, Bool.true_and, Bool.false_and, decide_true, decide_false] <;> first | done | decide) | (simp only [zProbe, zSet, zV, yk, yn, yi, yt, ys, yr, yd, yy, ym, yc, yv, ye, yo, b3, b6, b9, b12, c13, c14, c20, eq_self, ↓reduceIte, Bool.false_eq_true, Bool.not_false, Bool.not_true, Bool.and_true, Bool.and_false, Bool.true_and, Bool.false_and, decide_true, decide_false] <;> first | done | decide) | (simp [zProbe, zSet, zV, yk, yn, yi, yt, ys, yr, yd, yy, ym, yc, yv, ye, yo, b3, b6, b9, b12, c13, c14, c20]; done) | (simp [zProbe, zSet, zV, yk, yn, yi, yt, ys, yr, yd, yy, ym, yc, yv, ye, yo, b3, b6, b9, b12, c13, c14, eq_true c20]; done), by rw [ht]; exact hP, va_K.moved hW.alike hK, hD⟩, hS.F ht⟩) hS.2.2 dY_probe_130
              · refine lv_iconst (v := 1) hx hb dY_probe_67 (by decide) ?_
                refine lv_goto (tgt := 72) hx hb dY_probe_68 (by decide) ?_
                refine lv_istore (lv' := [(6, .int 1), (0, .ref G.1), (1, .int p0), (2, .int p1), (3, .int p2), (4, .int p3), (5, .int p4)]) hx hb dY_probe_72 hl (by decide) rfl (fun ls hl => ?_)
                refine lv_iload hx hb dY_probe_74 (lv_at hl 0 rfl) ?_
                refine lv_if_eq (tgt := 90) hx hb dY_probe_76 (by decide) (fun cz => absurd cz (by decide)) (fun _ => ?_)
                refine lv_aload_n hx hb dY_probe_79 rfl (lv_at hl 1 rfl) ?_
                refine va_get (D := D) (ci := 2) (v := .ref G.2.2.2.2.1) (C := RY) (T := TY) (N := 13) hx hb hty inY hown hK hP 0 rfl rfl 4 (by decide) (hty _ yf_23) (fun _ h9 => h9) rfl dY_probe_80 ?_
                refine lv_iload_n hx hb dY_probe_83 rfl (lv_at hl 2 rfl) ?_
                refine va_iald (f := zs) hx hb hK hP 4 3 rfl rfl (fIn_in7 b3) dY_probe_84 ?_
                refine lv_if_ne (tgt := 90) hx hb dY_probe_85 (by decide) (fun c26 => ?_) (fun c26 => ?_)
                · refine lv_iload hx hb dY_probe_90 (lv_at hl 0 rfl) ?_
                  refine lv_if_eq (tgt := 111) hx hb dY_probe_92 (by decide) (fun cz => absurd cz (by decide)) (fun _ => ?_)
                  refine lv_aload_n hx hb dY_probe_95 rfl (lv_at hl 1 rfl) ?_
                  refine lv_aload_n hx hb dY_probe_96 rfl (lv_at hl 1 rfl) ?_
                  refine va_get (D := D) (ci := 2) (v := .ref G.2.2.2.2.1) (C := RY) (T := TY) (N := 13) hx hb hty inY hown hK hP 0 rfl rfl 4 (by decide) (hty _ yf_23) (fun _ h9 => h9) rfl dY_probe_97 ?_
                  refine lv_iload_n hx hb dY_probe_100 rfl (lv_at hl 2 rfl) ?_
                  refine va_iald (f := zs) hx hb hK hP 4 3 rfl rfl (fIn_in7 b3) dY_probe_101 ?_
                  refine lv_iload_n hx hb dY_probe_102 rfl (lv_at hl 3 rfl) ?_
                  have hf27 := xFree hD hS hA
                  refine va_calli (va_runV (As := [.int (zs p0.toNatClampNeg), .int p1]) (rest := []) ⟨hx, hb, hml, hown, hts⟩ (j_of l D G (zk, zn, zi, zt, zs, zr, zd, zy, zm, zc, zv, ze, zo)  H.size (zs p0.toNatClampNeg) p1 (hok.2.2.1 _) (hok.1 _)) (cwV 2 hts (yV ylY_60 ym_of ys_of yc_of) rfl rfl rfl (by decide +kernel) ⟨Nat.le_of_ble_eq_true rfl, Nat.le_of_ble_eq_true rfl⟩) (yPre hK hP hD _) rfl rfl hl.1 rfl (lv_room (Nat.le_of_ble_eq_true rfl)) dY_probe_103 ⟨Nat.le_of_ble_eq_true rfl, Nat.le_of_ble_eq_true rfl⟩) hS (fun q _ h => hf27 q h) hf27 (fun r28 v29 t31 H1 locs ht hvm hw30 hB hz1 hk1 hS => ?_)
                  obtain ⟨hP1, hK1, hD1⟩ := hB
                  rw [ht] at hP1
                  replace hD1 := hD1.weaken (fun _ _ _ h => hf27 _ h)
                  generalize H1 = H at hP1 hS ⊢
                  obtain ⟨zhw30, rfl⟩ := Prod.mk.inj (show (r28, v29) = (bI (fOf (zk, zn, zi, zt, zs, zr, zd, zy, zm, zc, zv, ze, zo) (zs p0.toNatClampNeg) p1), (zk, zn, zi, zt, zs, zr, zd, zy, zm, zc, zv, ze, zo)) from hw30)
                  have hP : va_P D vwCl (yW G (zk, zn, zi, zt, zs, zr, zd, zy, zm, zc, zv, ze, zo)) H := hP1
                  have hD : va_D A (yW G (zk, zn, zi, zt, zs, zr, zd, zy, zm, zc, zv, ze, zo)) := hD1
                  rcases bI_c zhw30 with ⟨rfl, b32⟩ | ⟨rfl, b32⟩
                  · refine lv_if_ne (tgt := 111) hx hb dY_probe_106 (by decide) (fun _ => ?_) (fun cz => absurd cz (by decide))
                    refine lv_aload_n hx hb dY_probe_111 rfl (lv_at hl 1 rfl) ?_
                    refine lv_aload_n hx hb dY_probe_112 rfl (lv_at hl 1 rfl) ?_
                    refine lv_aload_n hx hb dY_probe_113 rfl (lv_at hl 1 rfl) ?_
                    refine va_get (D := D) (ci := 2) (v := .ref G.2.2.2.2.1) (C := RY) (T := TY) (N := 13) hx hb hty inY hown hK hP 0 rfl rfl 4 (by decide) (hty _ yf_23) (fun _ h9 => h9) rfl dY_probe_114 ?_
                    refine lv_iload_n hx hb dY_probe_117 rfl (lv_at hl 2 rfl) ?_
                    refine va_iald (f := zs) hx hb hK hP 4 3 rfl rfl (fIn_in7 b3) dY_probe_118 ?_
                    refine lv_iload_n hx hb dY_probe_119 rfl (lv_at hl 3 rfl) ?_
                    refine lv_iload_n hx hb dY_probe_120 rfl (lv_at hl 4 rfl) ?_
                    refine lv_iload hx hb dY_probe_121 (lv_at hl 5 rfl) ?_
                    have hf33 := xFree hD hS hA
                    refine va_calli (va_runV (As := [.int (zs p0.toNatClampNeg), .int p1, .int p2, .int p3]) (rest := [.ref G.1]) ⟨hx, hb, hml, hown, hts⟩ (j_answer l D G (zk, zn, zi, zt, zs, zr, zd, zy, zm, zc, zv, ze, zo) hok H.size (zs p0.toNatClampNeg) p1 p2 p3 (hok.2.1 _ (hok.2.2.1 _))) (cwV 4 hts (yV ylY_83 ym_answer ys_answer yc_answer) rfl rfl rfl (by decide +kernel) ⟨Nat.le_of_ble_eq_true rfl, Nat.le_of_ble_eq_true rfl⟩) (yPre hK hP hD _) rfl rfl hl.1 rfl (lv_room (Nat.le_of_ble_eq_true rfl)) dY_probe_123 ⟨Nat.le_of_ble_eq_true rfl, Nat.le_of_ble_eq_true rfl⟩) hS (fun q _ h => hf33 q h) hf33 (fun r34 v35 t37 H1 locs ht hvm hw36 hB hz1 hk1 hS => ?_)
                    obtain ⟨hP1, hK1, hD1⟩ := hB
                    rw [ht] at hP1
                    replace hD1 := hD1.weaken (fun _ _ _ h => hf33 _ h)
                    generalize H1 = H at hP1 hS ⊢
                    obtain ⟨rfl, rfl⟩ := Prod.mk.inj (show (r34, v35) = ((zAns (zk, zn, zi, zt, zs, zr, zd, zy, zm, zc, zv, ze, zo) (zs p0.toNatClampNeg) p1 p2 p3).1, ((zAns (zk, zn, zi, zt, zs, zr, zd, zy, zm, zc, zv, ze, zo) (zs p0.toNatClampNeg) p1 p2 p3).2.1, (zAns (zk, zn, zi, zt, zs, zr, zd, zy, zm, zc, zv, ze, zo) (zs p0.toNatClampNeg) p1 p2 p3).2.2.1, (zAns (zk, zn, zi, zt, zs, zr, zd, zy, zm, zc, zv, ze, zo) (zs p0.toNatClampNeg) p1 p2 p3).2.2.2.1, (zAns (zk, zn, zi, zt, zs, zr, zd, zy, zm, zc, zv, ze, zo) (zs p0.toNatClampNeg) p1 p2 p3).2.2.2.2.1, (zAns (zk, zn, zi, zt, zs, zr, zd, zy, zm, zc, zv, ze, zo) (zs p0.toNatClampNeg) p1 p2 p3).2.2.2.2.2.1, (zAns (zk, zn, zi, zt, zs, zr, zd, zy, zm, zc, zv, ze, zo) (zs p0.toNatClampNeg) p1 p2 p3).2.2.2.2.2.2.1, (zAns (zk, zn, zi, zt, zs, zr, zd, zy, zm, zc, zv, ze, zo) (zs p0.toNatClampNeg) p1 p2 p3).2.2.2.2.2.2.2.1, (zAns (zk, zn, zi, zt, zs, zr, zd, zy, zm, zc, zv, ze, zo) (zs p0.toNatClampNeg) p1 p2 p3).2.2.2.2.2.2.2.2.1, (zAns (zk, zn, zi, zt, zs, zr, zd, zy, zm, zc, zv, ze, zo) (zs p0.toNatClampNeg) p1 p2 p3).2.2.2.2.2.2.2.2.2.1, (zAns (zk, zn, zi, zt, zs, zr, zd, zy, zm, zc, zv, ze, zo) (zs p0.toNatClampNeg) p1 p2 p3).2.2.2.2.2.2.2.2.2.2.1, (zAns (zk, zn, zi, zt, zs, zr, zd, zy, zm, zc, zv, ze, zo) (zs p0.toNatClampNeg) p1 p2 p3).2.2.2.2.2.2.2.2.2.2.2.1, (zAns (zk, zn, zi, zt, zs, zr, zd, zy, zm, zc, zv, ze, zo) (zs p0.toNatClampNeg) p1 p2 p3).2.2.2.2.2.2.2.2.2.2.2.2.1, (zAns (zk, zn, zi, zt, zs, zr, zd, zy, zm, zc, zv, ze, zo) (zs p0.toNatClampNeg) p1 p2 p3).2.2.2.2.2.2.2.2.2.2.2.2.2)) from hw36)
                    have hP : va_P D vwCl (yW G ((zAns (zk, zn, zi, zt, zs, zr, zd, zy, zm, zc, zv, ze, zo) (zs p0.toNatClampNeg) p1 p2 p3).2.1, (zAns (zk, zn, zi, zt, zs, zr, zd, zy, zm, zc, zv, ze, zo) (zs p0.toNatClampNeg) p1 p2 p3).2.2.1, (zAns (zk, zn, zi, zt, zs, zr, zd, zy, zm, zc, zv, ze, zo) (zs p0.toNatClampNeg) p1 p2 p3).2.2.2.1, (zAns (zk, zn, zi, zt, zs, zr, zd, zy, zm, zc, zv, ze, zo) (zs p0.toNatClampNeg) p1 p2 p3).2.2.2.2.1, (zAns (zk, zn, zi, zt, zs, zr, zd, zy, zm, zc, zv, ze, zo) (zs p0.toNatClampNeg) p1 p2 p3).2.2.2.2.2.1, (zAns (zk, zn, zi, zt, zs, zr, zd, zy, zm, zc, zv, ze, zo) (zs p0.toNatClampNeg) p1 p2 p3).2.2.2.2.2.2.1, (zAns (zk, zn, zi, zt, zs, zr, zd, zy, zm, zc, zv, ze, zo) (zs p0.toNatClampNeg) p1 p2 p3).2.2.2.2.2.2.2.1, (zAns (zk, zn, zi, zt, zs, zr, zd, zy, zm, zc, zv, ze, zo) (zs p0.toNatClampNeg) p1 p2 p3).2.2.2.2.2.2.2.2.1, (zAns (zk, zn, zi, zt, zs, zr, zd, zy, zm, zc, zv, ze, zo) (zs p0.toNatClampNeg) p1 p2 p3).2.2.2.2.2.2.2.2.2.1, (zAns (zk, zn, zi, zt, zs, zr, zd, zy, zm, zc, zv, ze, zo) (zs p0.toNatClampNeg) p1 p2 p3).2.2.2.2.2.2.2.2.2.2.1, (zAns (zk, zn, zi, zt, zs, zr, zd, zy, zm, zc, zv, ze, zo) (zs p0.toNatClampNeg) p1 p2 p3).2.2.2.2.2.2.2.2.2.2.2.1, (zAns (zk, zn, zi, zt, zs, zr, zd, zy, zm, zc, zv, ze, zo) (zs p0.toNatClampNeg) p1 p2 p3).2.2.2.2.2.2.2.2.2.2.2.2.1, (zAns (zk, zn, zi, zt, zs, zr, zd, zy, zm, zc, zv, ze, zo) (zs p0.toNatClampNeg) p1 p2 p3).2.2.2.2.2.2.2.2.2.2.2.2.2)) H := hP1
                    have hD : va_D A (yW G ((zAns (zk, zn, zi, zt, zs, zr, zd, zy, zm, zc, zv, ze, zo) (zs p0.toNatClampNeg) p1 p2 p3).2.1, (zAns (zk, zn, zi, zt, zs, zr, zd, zy, zm, zc, zv, ze, zo) (zs p0.toNatClampNeg) p1 p2 p3).2.2.1, (zAns (zk, zn, zi, zt, zs, zr, zd, zy, zm, zc, zv, ze, zo) (zs p0.toNatClampNeg) p1 p2 p3).2.2.2.1, (zAns (zk, zn, zi, zt, zs, zr, zd, zy, zm, zc, zv, ze, zo) (zs p0.toNatClampNeg) p1 p2 p3).2.2.2.2.1, (zAns (zk, zn, zi, zt, zs, zr, zd, zy, zm, zc, zv, ze, zo) (zs p0.toNatClampNeg) p1 p2 p3).2.2.2.2.2.1, (zAns (zk, zn, zi, zt, zs, zr, zd, zy, zm, zc, zv, ze, zo) (zs p0.toNatClampNeg) p1 p2 p3).2.2.2.2.2.2.1, (zAns (zk, zn, zi, zt, zs, zr, zd, zy, zm, zc, zv, ze, zo) (zs p0.toNatClampNeg) p1 p2 p3).2.2.2.2.2.2.2.1, (zAns (zk, zn, zi, zt, zs, zr, zd, zy, zm, zc, zv, ze, zo) (zs p0.toNatClampNeg) p1 p2 p3).2.2.2.2.2.2.2.2.1, (zAns (zk, zn, zi, zt, zs, zr, zd, zy, zm, zc, zv, ze, zo) (zs p0.toNatClampNeg) p1 p2 p3).2.2.2.2.2.2.2.2.2.1, (zAns (zk, zn, zi, zt, zs, zr, zd, zy, zm, zc, zv, ze, zo) (zs p0.toNatClampNeg) p1 p2 p3).2.2.2.2.2.2.2.2.2.2.1, (zAns (zk, zn, zi, zt, zs, zr, zd, zy, zm, zc, zv, ze, zo) (zs p0.toNatClampNeg) p1 p2 p3).2.2.2.2.2.2.2.2.2.2.2.1, (zAns (zk, zn, zi, zt, zs, zr, zd, zy, zm, zc, zv, ze, zo) (zs p0.toNatClampNeg) p1 p2 p3).2.2.2.2.2.2.2.2.2.2.2.2.1, (zAns (zk, zn, zi, zt, zs, zr, zd, zy, zm, zc, zv, ze, zo) (zs p0.toNatClampNeg) p1 p2 p3).2.2.2.2.2.2.2.2.2.2.2.2.2)) := hD1
                    refine va_put (D := D) (ci := 2) (v := .int ((zAns (zk, zn, zi, zt, zs, zr, zd, zy, zm, zc, zv, ze, zo) (zs p0.toNatClampNeg) p1 p2 p3).1)) (ty := .int) (C := RY) (T := TY) (N := 13) hx hb hty inY tyY tyY_ok nmY hown hK hP hD hS 0 rfl rfl 10 (by decide) (hty _ yf_86) (fun _ h9 => h9) rfl (by decide +kernel) rfl rfl (Nat.le_of_ble_eq_true rfl) dY_probe_126 (fun H locs hP hD hS => ?_)
                    have hP : va_P D vwCl (yW G ((zAns (zk, zn, zi, zt, zs, zr, zd, zy, zm, zc, zv, ze, zo) (zs p0.toNatClampNeg) p1 p2 p3).2.1, (zAns (zk, zn, zi, zt, zs, zr, zd, zy, zm, zc, zv, ze, zo) (zs p0.toNatClampNeg) p1 p2 p3).2.2.1, (zAns (zk, zn, zi, zt, zs, zr, zd, zy, zm, zc, zv, ze, zo) (zs p0.toNatClampNeg) p1 p2 p3).2.2.2.1, (zAns (zk, zn, zi, zt, zs, zr, zd, zy, zm, zc, zv, ze, zo) (zs p0.toNatClampNeg) p1 p2 p3).2.2.2.2.1, (zAns (zk, zn, zi, zt, zs, zr, zd, zy, zm, zc, zv, ze, zo) (zs p0.toNatClampNeg) p1 p2 p3).2.2.2.2.2.1, (zAns (zk, zn, zi, zt, zs, zr, zd, zy, zm, zc, zv, ze, zo) (zs p0.toNatClampNeg) p1 p2 p3).2.2.2.2.2.2.1, (zAns (zk, zn, zi, zt, zs, zr, zd, zy, zm, zc, zv, ze, zo) (zs p0.toNatClampNeg) p1 p2 p3).2.2.2.2.2.2.2.1, (zAns (zk, zn, zi, zt, zs, zr, zd, zy, zm, zc, zv, ze, zo) (zs p0.toNatClampNeg) p1 p2 p3).2.2.2.2.2.2.2.2.1, (zAns (zk, zn, zi, zt, zs, zr, zd, zy, zm, zc, zv, ze, zo) (zs p0.toNatClampNeg) p1 p2 p3).2.2.2.2.2.2.2.2.2.1, (zAns (zk, zn, zi, zt, zs, zr, zd, zy, zm, zc, zv, ze, zo) (zs p0.toNatClampNeg) p1 p2 p3).2.2.2.2.2.2.2.2.2.2.1, (zAns (zk, zn, zi, zt, zs, zr, zd, zy, zm, zc, zv, ze, zo) (zs p0.toNatClampNeg) p1 p2 p3).1, (zAns (zk, zn, zi, zt, zs, zr, zd, zy, zm, zc, zv, ze, zo) (zs p0.toNatClampNeg) p1 p2 p3).2.2.2.2.2.2.2.2.2.2.2.2.1, (zAns (zk, zn, zi, zt, zs, zr, zd, zy, zm, zc, zv, ze, zo) (zs p0.toNatClampNeg) p1 p2 p3).2.2.2.2.2.2.2.2.2.2.2.2.2)) H := hP
                    have hD : va_D A (yW G ((zAns (zk, zn, zi, zt, zs, zr, zd, zy, zm, zc, zv, ze, zo) (zs p0.toNatClampNeg) p1 p2 p3).2.1, (zAns (zk, zn, zi, zt, zs, zr, zd, zy, zm, zc, zv, ze, zo) (zs p0.toNatClampNeg) p1 p2 p3).2.2.1, (zAns (zk, zn, zi, zt, zs, zr, zd, zy, zm, zc, zv, ze, zo) (zs p0.toNatClampNeg) p1 p2 p3).2.2.2.1, (zAns (zk, zn, zi, zt, zs, zr, zd, zy, zm, zc, zv, ze, zo) (zs p0.toNatClampNeg) p1 p2 p3).2.2.2.2.1, (zAns (zk, zn, zi, zt, zs, zr, zd, zy, zm, zc, zv, ze, zo) (zs p0.toNatClampNeg) p1 p2 p3).2.2.2.2.2.1, (zAns (zk, zn, zi, zt, zs, zr, zd, zy, zm, zc, zv, ze, zo) (zs p0.toNatClampNeg) p1 p2 p3).2.2.2.2.2.2.1, (zAns (zk, zn, zi, zt, zs, zr, zd, zy, zm, zc, zv, ze, zo) (zs p0.toNatClampNeg) p1 p2 p3).2.2.2.2.2.2.2.1, (zAns (zk, zn, zi, zt, zs, zr, zd, zy, zm, zc, zv, ze, zo) (zs p0.toNatClampNeg) p1 p2 p3).2.2.2.2.2.2.2.2.1, (zAns (zk, zn, zi, zt, zs, zr, zd, zy, zm, zc, zv, ze, zo) (zs p0.toNatClampNeg) p1 p2 p3).2.2.2.2.2.2.2.2.2.1, (zAns (zk, zn, zi, zt, zs, zr, zd, zy, zm, zc, zv, ze, zo) (zs p0.toNatClampNeg) p1 p2 p3).2.2.2.2.2.2.2.2.2.2.1, (zAns (zk, zn, zi, zt, zs, zr, zd, zy, zm, zc, zv, ze, zo) (zs p0.toNatClampNeg) p1 p2 p3).1, (zAns (zk, zn, zi, zt, zs, zr, zd, zy, zm, zc, zv, ze, zo) (zs p0.toNatClampNeg) p1 p2 p3).2.2.2.2.2.2.2.2.2.2.2.2.1, (zAns (zk, zn, zi, zt, zs, zr, zd, zy, zm, zc, zv, ze, zo) (zs p0.toNatClampNeg) p1 p2 p3).2.2.2.2.2.2.2.2.2.2.2.2.2)) := hD
                    refine lv_iconst (v := 0) hx hb dY_probe_129 (by decide) ?_
                    exact W.iret (v := 0) hx hb hr (fun tE ht hW => ⟨⟨0, ((zAns (zk, zn, zi, zt, zs, zr, zd, zy, zm, zc, zv, ze, zo) (zs p0.toNatClampNeg) p1 p2 p3).2.1, (zAns (zk, zn, zi, zt, zs, zr, zd, zy, zm, zc, zv, ze, zo) (zs p0.toNatClampNeg) p1 p2 p3).2.2.1, (zAns (zk, zn, zi, zt, zs, zr, zd, zy, zm, zc, zv, ze, zo) (zs p0.toNatClampNeg) p1 p2 p3).2.2.2.1, (zAns (zk, zn, zi, zt, zs, zr, zd, zy, zm, zc, zv, ze, zo) (zs p0.toNatClampNeg) p1 p2 p3).2.2.2.2.1, (zAns (zk, zn, zi, zt, zs, zr, zd, zy, zm, zc, zv, ze, zo) (zs p0.toNatClampNeg) p1 p2 p3).2.2.2.2.2.1, (zAns (zk, zn, zi, zt, zs, zr, zd, zy, zm, zc, zv, ze, zo) (zs p0.toNatClampNeg) p1 p2 p3).2.2.2.2.2.2.1, (zAns (zk, zn, zi, zt, zs, zr, zd, zy, zm, zc, zv, ze, zo) (zs p0.toNatClampNeg) p1 p2 p3).2.2.2.2.2.2.2.1, (zAns (zk, zn, zi, zt, zs, zr, zd, zy, zm, zc, zv, ze, zo) (zs p0.toNatClampNeg) p1 p2 p3).2.2.2.2.2.2.2.2.1, (zAns (zk, zn, zi, zt, zs, zr, zd, zy, zm, zc, zv, ze, zo) (zs p0.toNatClampNeg) p1 p2 p3).2.2.2.2.2.2.2.2.2.1, (zAns (zk, zn, zi, zt, zs, zr, zd, zy, zm, zc, zv, ze, zo) (zs p0.toNatClampNeg) p1 p2 p3).2.2.2.2.2.2.2.2.2.2.1, (zAns (zk, zn, zi, zt, zs, zr, zd, zy, zm, zc, zv, ze, zo) (zs p0.toNatClampNeg) p1 p2 p3).1, (zAns (zk, zn, zi, zt, zs, zr, zd, zy, zm, zc, zv, ze, zo) (zs p0.toNatClampNeg) p1 p2 p3).2.2.2.2.2.2.2.2.2.2.2.2.1, (zAns (zk, zn, zi, zt, zs, zr, zd, zy, zm, zc, zv, ze, zo) (zs p0.toNatClampNeg) p1 p2 p3).2.2.2.2.2.2.2.2.2.2.2.2.2), rfl, by first | (simp only [zProbe, zSet, zV, yk, yn, yi, yt, ys, yr, yd, yy, ym, yc, yv, ye, yo, b3, b6, b9, b12, c13, c14, c20, c26, b32, eq_self, ↓reduceIte, Bool.false_eq_true, Bool.not_false, Bool.not_true, Bool.and_true, Bool.and_false, Bool.true_and, Bool.false_and, decide_true, decide_false] <;> first | done | decide) | (simp [zProbe, zSet, zV, yk, yn, yi, yt, ys, yr, yd, yy, ym, yc, yv, ye, yo, b3, b6, b9, b12, c13, c14, c20, c26, b32]; done), by rw [ht]; exact hP, va_K.moved hW.alike hK, hD⟩, hS.F ht⟩) hS.2.2 dY_probe_130
                  · refine lv_if_ne (tgt := 111) hx hb dY_probe_106 (by decide) (fun cz => absurd cz (by decide)) (fun _ => ?_)
                    refine lv_iconst (v := 1) hx hb dY_probe_109 (by decide) ?_
                    exact W.iret (v := 1) hx hb hr (fun tE ht hW => ⟨⟨1, (zk, zn, zi, zt, zs, zr, zd, zy, zm, zc, zv, ze, zo), rfl, by first | (simp only [zProbe, zSet, zV, yk, yn, yi, yt, ys, yr, yd, yy, ym, yc, yv, ye, yo, b3, b6, b9, b12, c13, c14, c20, c26, b32, eq_self, ↓reduceIte, Bool.false_eq_true, Bool.not_false, Bool.not_true, Bool.and_true, Bool.and_false, Bool.true_and, Bool.false_and, decide_true, decide_false] <;> first | done | decide) | (simp [zProbe, zSet, zV, yk, yn, yi, yt, ys, yr, yd, yy, ym, yc, yv, ye, yo, b3, b6, b9, b12, c13, c14, c20, c26, b32]; done), by rw [ht]; exact hP, va_K.moved hW.alike hK, hD⟩, hS.F ht⟩) hS.2.2 dY_probe_110
                · refine lv_iconst (v := 2) hx hb dY_probe_88 (by decide) ?_
                  exact W.iret (v := 2) hx hb hr (fun tE ht hW => ⟨⟨2, (zk, zn, zi, zt, zs, zr, zd, zy, zm, zc, zv, ze, zo), rfl, by first | (simp only [zProbe, zSet, zV, yk, yn, yi, yt, ys, yr, yd, yy, ym, yc, yv, ye, yo, b3, b6, b9, b12, c13, c14, c20, eq_true c26, eq_self, ↓reduceIte, Bool.false_eq_true, Bool.not_false, Bool.not_true, Bool.and_true, Bool.and_false, Bool.true_and, Bool.false_and, decide_true, decide_false] <;> first | done | decide) | (simp only [zProbe, zSet, zV, yk, yn, yi, yt, ys, yr, yd, yy, ym, yc, yv, ye, yo, b3, b6, b9, b12, c13, c14, c20, c26, eq_self, ↓reduceIte, Bool.false_eq_true, Bool.not_false, Bool.not_true, Bool.and_true, Bool.and_false, Bool.true_and, Bool.false_and, decide_true, decide_false] <;> first | done | decide) | (simp [zProbe, zSet, zV, yk, yn, yi, yt, ys, yr, yd, yy, ym, yc, yv, ye, yo, b3, b6, b9, b12, c13, c14, c20, c26]; done) | (simp [zProbe, zSet, zV, yk, yn, yi, yt, ys, yr, yd, yy, ym, yc, yv, ye, yo, b3, b6, b9, b12, c13, c14, c20, eq_true c26]; done), by rw [ht]; exact hP, va_K.moved hW.alike hK, hD⟩, hS.F ht⟩) hS.2.2 dY_probe_89
          · refine lv_iconst (v := (-1)) hx hb dY_probe_53 (by decide) ?_
            exact W.iret (v := (-1)) hx hb hr (fun tE ht hW => ⟨⟨(-1), (zk, zn, zi, zt, zs, zr, zd, zy, zm, zc, zv, ze, zo), rfl, by first | (simp only [zProbe, zSet, zV, yk, yn, yi, yt, ys, yr, yd, yy, ym, yc, yv, ye, yo, b3, b6, b9, b12, eq_true c13, eq_self, ↓reduceIte, Bool.false_eq_true, Bool.not_false, Bool.not_true, Bool.and_true, Bool.and_false, Bool.true_and, Bool.false_and, decide_true, decide_false] <;> first | done | decide) | (simp only [zProbe, zSet, zV, yk, yn, yi, yt, ys, yr, yd, yy, ym, yc, yv, ye, yo, b3, b6, b9, b12, c13, eq_self, ↓reduceIte, Bool.false_eq_true, Bool.not_false, Bool.not_true, Bool.and_true, Bool.and_false, Bool.true_and, Bool.false_and, decide_true, decide_false] <;> first | done | decide) | (simp [zProbe, zSet, zV, yk, yn, yi, yt, ys, yr, yd, yy, ym, yc, yv, ye, yo, b3, b6, b9, b12, c13]; done) | (simp [zProbe, zSet, zV, yk, yn, yi, yt, ys, yr, yd, yy, ym, yc, yv, ye, yo, b3, b6, b9, b12, eq_true c13]; done), by rw [ht]; exact hP, va_K.moved hW.alike hK, hD⟩, hS.F ht⟩) hS.2.2 dY_probe_54
        · refine lv_if_eq (tgt := 53) hx hb dY_probe_37 (by decide) (fun _ => ?_) (fun cz => absurd cz (by decide))
          refine lv_iconst (v := (-1)) hx hb dY_probe_53 (by decide) ?_
          exact W.iret (v := (-1)) hx hb hr (fun tE ht hW => ⟨⟨(-1), (zk, zn, zi, zt, zs, zr, zd, zy, zm, zc, zv, ze, zo), rfl, by first | (simp only [zProbe, zSet, zV, yk, yn, yi, yt, ys, yr, yd, yy, ym, yc, yv, ye, yo, b3, b6, b9, b12, eq_self, ↓reduceIte, Bool.false_eq_true, Bool.not_false, Bool.not_true, Bool.and_true, Bool.and_false, Bool.true_and, Bool.false_and, decide_true, decide_false] <;> first | done | decide) | (simp [zProbe, zSet, zV, yk, yn, yi, yt, ys, yr, yd, yy, ym, yc, yv, ye, yo, b3, b6, b9, b12]; done), by rw [ht]; exact hP, va_K.moved hW.alike hK, hD⟩, hS.F ht⟩) hS.2.2 dY_probe_54
      · refine lv_if_eq (tgt := 53) hx hb dY_probe_27 (by decide) (fun _ => ?_) (fun cz => absurd cz (by decide))
        refine lv_iconst (v := (-1)) hx hb dY_probe_53 (by decide) ?_
        exact W.iret (v := (-1)) hx hb hr (fun tE ht hW => ⟨⟨(-1), (zk, zn, zi, zt, zs, zr, zd, zy, zm, zc, zv, ze, zo), rfl, by first | (simp only [zProbe, zSet, zV, yk, yn, yi, yt, ys, yr, yd, yy, ym, yc, yv, ye, yo, b3, b6, b9, eq_self, ↓reduceIte, Bool.false_eq_true, Bool.not_false, Bool.not_true, Bool.and_true, Bool.and_false, Bool.true_and, Bool.false_and, decide_true, decide_false] <;> first | done | decide) | (simp [zProbe, zSet, zV, yk, yn, yi, yt, ys, yr, yd, yy, ym, yc, yv, ye, yo, b3, b6, b9]; done), by rw [ht]; exact hP, va_K.moved hW.alike hK, hD⟩, hS.F ht⟩) hS.2.2 dY_probe_54
    · refine lv_if_eq (tgt := 53) hx hb dY_probe_17 (by decide) (fun _ => ?_) (fun cz => absurd cz (by decide))
      refine lv_iconst (v := (-1)) hx hb dY_probe_53 (by decide) ?_
      exact W.iret (v := (-1)) hx hb hr (fun tE ht hW => ⟨⟨(-1), (zk, zn, zi, zt, zs, zr, zd, zy, zm, zc, zv, ze, zo), rfl, by first | (simp only [zProbe, zSet, zV, yk, yn, yi, yt, ys, yr, yd, yy, ym, yc, yv, ye, yo, b3, b6, eq_self, ↓reduceIte, Bool.false_eq_true, Bool.not_false, Bool.not_true, Bool.and_true, Bool.and_false, Bool.true_and, Bool.false_and, decide_true, decide_false] <;> first | done | decide) | (simp [zProbe, zSet, zV, yk, yn, yi, yt, ys, yr, yd, yy, ym, yc, yv, ye, yo, b3, b6]; done), by rw [ht]; exact hP, va_K.moved hW.alike hK, hD⟩, hS.F ht⟩) hS.2.2 dY_probe_54
  · refine lv_if_eq (tgt := 53) hx hb dY_probe_7 (by decide) (fun _ => ?_) (fun cz => absurd cz (by decide))
    refine lv_iconst (v := (-1)) hx hb dY_probe_53 (by decide) ?_
    exact W.iret (v := (-1)) hx hb hr (fun tE ht hW => ⟨⟨(-1), (zk, zn, zi, zt, zs, zr, zd, zy, zm, zc, zv, ze, zo), rfl, by first | (simp only [zProbe, zSet, zV, yk, yn, yi, yt, ys, yr, yd, yy, ym, yc, yv, ye, yo, b3, eq_self, ↓reduceIte, Bool.false_eq_true, Bool.not_false, Bool.not_true, Bool.and_true, Bool.and_false, Bool.true_and, Bool.false_and, decide_true, decide_false] <;> first | done | decide) | (simp [zProbe, zSet, zV, yk, yn, yi, yt, ys, yr, yd, yy, ym, yc, yv, ye, yo, b3]; done), by rw [ht]; exact hP, va_K.moved hW.alike hK, hD⟩, hS.F ht⟩) hS.2.2 dY_probe_54
set_option maxHeartbeats 8000000 in
set_option maxRecDepth 100000 in
theorem j_drop (l : Launch) (D : va_G) (G : YF) (v : YS) (hok : yOk v) (sz : Nat) (p0 : Int32) : Met l yY_drop wY_drop ({ frames := 1, cells := 0, slots := 0, locals := 22 }) (yPc D G v sz [.ref G.1, .int p0]) (va_Qi (fun (r : Int32) (w : YS) => (r, w) = zDrop v p0) (yB D G (va_A (yW G v) sz)) (va_A (yW G v) sz)) 0 0 (va_A (yW G v) sz) := by
  obtain ⟨zk, zn, zi, zt, zs, zr, zd, zy, zm, zc, zv, ze, zo⟩ := v
  refine Met.ofW (cc := cY_drop) (maxL := 3) (ret := (Option.some Jvm.ClassFile.FieldType.int)) (by decide) rfl ?_
  intro p e s m args below meth c s₁ B hml hv
  obtain ⟨rfl, hsz, hP, hK, hD0⟩ := hv
  have hx := B.exec
  have hb := B.bytes
  have hr := B.returns
  have hts := atoms_spec (ws := wY_drop) B.pre
  have hty : ∀ w ∈ yAll, w.before _ s = true := fun w h => hts w (List.mem_cons_of_mem _ h)
  have hown : s.vm.findClass RY = some m.cls := findClass_of_methodNamed B.named
  have hlocks := B.notSynchronized
  subst hsz
  have hD := hD0.self (sz := s.heap.size)
  generalize hAe : va_A (yW G (zk, zn, zi, zt, zs, zr, zd, zy, zm, zc, zv, ze, zo)) s.heap.size = A at hD ⊢
  have hA : ∀ q : Nat, s.heap.size ≤ q → A q := fun q h => by rw [← hAe]; exact Or.inr h
  have hS : va_S A s.heap s.heap [] := va_S.rf
  refine xHeap (C := fun H => va_P D vwCl (yW G (zk, zn, zi, zt, zs, zr, zd, zy, zm, zc, zv, ze, zo)) H ∧ va_S A s.heap H []) ⟨hP, hS⟩ (fun H hC => ?_)
  obtain ⟨hP, hS⟩ := hC
  have hl := lv_entry ([.ref G.1, .int p0]) (n := 3) (Nat.le_of_ble_eq_true rfl)
  rw [lg_entry_eq]
  generalize (lg_sl ([.ref G.1, .int p0]) ++ List.replicate (3 - (lg_sl ([.ref G.1, .int p0])).length) Slot.unset).toArray = ls at hl ⊢
  have hl : lv_has ls 3 [(0, .ref G.1), (1, .int p0)] := hl
  refine lv_iload_n hx hb dY_drop_0 rfl (lv_at hl 1 rfl) ?_
  refine lv_iconst (v := 0) hx hb dY_drop_1 (by decide) ?_
  refine lv_bipush (v := 7) hx hb dY_drop_2 (by decide) ?_
  refine vp_callSi (va_Run.run (va_runS (As := [.int p0, .int 0, .int 7]) (rest := []) ⟨hx, hb, hml, hown, hts⟩ (j_inn l p0 0 7) (va_cwS 3 hts (yS ylY_48 ym_inn yini yc_inn) rfl rfl rfl (by decide +kernel) ⟨Nat.le_of_ble_eq_true rfl, Nat.le_of_ble_eq_true rfl⟩) preEq rfl rfl hl.1 rfl (lv_room (Nat.le_of_ble_eq_true rfl)) dY_drop_4 ⟨Nat.le_of_ble_eq_true rfl, Nat.le_of_ble_eq_true rfl⟩)) (fun r1 hw2 => ?_)
  rcases bI_c hw2 with ⟨rfl, b3⟩ | ⟨rfl, b3⟩
  · refine lv_if_ne (tgt := 12) hx hb dY_drop_7 (by decide) (fun _ => ?_) (fun cz => absurd cz (by decide))
    refine lv_aload_n hx hb dY_drop_12 rfl (lv_at hl 0 rfl) ?_
    refine va_get (D := D) (ci := 2) (v := .ref G.2.2.2.2.1) (C := RY) (T := TY) (N := 13) hx hb hty inY hown hK hP 0 rfl rfl 4 (by decide) (hty _ yf_23) (fun _ h9 => h9) rfl dY_drop_13 ?_
    refine lv_iload_n hx hb dY_drop_16 rfl (lv_at hl 1 rfl) ?_
    refine va_iald (f := zs) hx hb hK hP 4 3 rfl rfl (fIn_in7 b3) dY_drop_17 ?_
    refine lv_istore_n (lv' := [(2, .int (zs p0.toNatClampNeg)), (0, .ref G.1), (1, .int p0)]) hx hb dY_drop_18 rfl hl (by decide) rfl (fun ls hl => ?_)
    refine lv_aload_n hx hb dY_drop_19 rfl (lv_at hl 1 rfl) ?_
    refine va_get (D := D) (ci := 2) (v := .ref G.2.2.2.2.1) (C := RY) (T := TY) (N := 13) hx hb hty inY hown hK hP 0 rfl rfl 4 (by decide) (hty _ yf_23) (fun _ h9 => h9) rfl dY_drop_20 ?_
    refine lv_iload_n hx hb dY_drop_23 rfl (lv_at hl 2 rfl) ?_
    refine lv_iconst (v := 0) hx hb dY_drop_24 (by decide) ?_
    refine va_iast hx hb hK hP hD hS 4 3 rfl rfl (fIn_in7 b3) dY_drop_25 (fun H locs hP hD hS => ?_)
    have hP : va_P D vwCl (yW G (zk, zn, zi, zt, (upd zs p0.toNatClampNeg 0), zr, zd, zy, zm, zc, zv, ze, zo)) H := hP
    have hD : va_D A (yW G (zk, zn, zi, zt, (upd zs p0.toNatClampNeg 0), zr, zd, zy, zm, zc, zv, ze, zo)) := hD
    refine lv_iload_n hx hb dY_drop_26 rfl (lv_at hl 0 rfl) ?_
    refine lv_if_ne (tgt := 34) hx hb dY_drop_27 (by decide) (fun c4 => ?_) (fun c4 => ?_)
    · refine lv_iconst (v := 0) hx hb dY_drop_34 (by decide) ?_
      exact W.iret (v := 0) hx hb hr (fun tE ht hW => ⟨⟨0, (zk, zn, zi, zt, (upd zs p0.toNatClampNeg 0), zr, zd, zy, zm, zc, zv, ze, zo), rfl, by first | (simp only [zDrop, zS, yk, yn, yi, yt, ys, yr, yd, yy, ym, yc, yv, ye, yo, b3, c4, eq_self, ↓reduceIte, Bool.false_eq_true, Bool.not_false, Bool.not_true, Bool.and_true, Bool.and_false, Bool.true_and, Bool.false_and, decide_true, decide_false] <;> first | done | decide) | (simp [zDrop, zS, yk, yn, yi, yt, ys, yr, yd, yy, ym, yc, yv, ye, yo, b3, c4]; done), by rw [ht]; exact hP, va_K.moved hW.alike hK, hD⟩, hS.F ht⟩) hS.2.2 dY_drop_35
    · refine lv_iconst (v := 2) hx hb dY_drop_30 (by decide) ?_
      refine lv_goto (tgt := 35) hx hb dY_drop_31 (by decide) ?_
      exact W.iret (v := 2) hx hb hr (fun tE ht hW => ⟨⟨2, (zk, zn, zi, zt, (upd zs p0.toNatClampNeg 0), zr, zd, zy, zm, zc, zv, ze, zo), rfl, by first | (simp only [zDrop, zS, yk, yn, yi, yt, ys, yr, yd, yy, ym, yc, yv, ye, yo, b3, eq_true c4, eq_self, ↓reduceIte, Bool.false_eq_true, Bool.not_false, Bool.not_true, Bool.and_true, Bool.and_false, Bool.true_and, Bool.false_and, decide_true, decide_false] <;> first | done | decide) | (simp only [zDrop, zS, yk, yn, yi, yt, ys, yr, yd, yy, ym, yc, yv, ye, yo, b3, c4, eq_self, ↓reduceIte, Bool.false_eq_true, Bool.not_false, Bool.not_true, Bool.and_true, Bool.and_false, Bool.true_and, Bool.false_and, decide_true, decide_false] <;> first | done | decide) | (simp [zDrop, zS, yk, yn, yi, yt, ys, yr, yd, yy, ym, yc, yv, ye, yo, b3, c4]; done) | (simp [zDrop, zS, yk, yn, yi, yt, ys, yr, yd, yy, ym, yc, yv, ye, yo, b3, eq_true c4]; done), by rw [ht]; exact hP, va_K.moved hW.alike hK, hD⟩, hS.F ht⟩) hS.2.2 dY_drop_35
  · refine lv_if_ne (tgt := 12) hx hb dY_drop_7 (by decide) (fun cz => absurd cz (by decide)) (fun _ => ?_)
    refine lv_iconst (v := (-1)) hx hb dY_drop_10 (by decide) ?_
    exact W.iret (v := (-1)) hx hb hr (fun tE ht hW => ⟨⟨(-1), (zk, zn, zi, zt, zs, zr, zd, zy, zm, zc, zv, ze, zo), rfl, by first | (simp only [zDrop, zS, yk, yn, yi, yt, ys, yr, yd, yy, ym, yc, yv, ye, yo, b3, eq_self, ↓reduceIte, Bool.false_eq_true, Bool.not_false, Bool.not_true, Bool.and_true, Bool.and_false, Bool.true_and, Bool.false_and, decide_true, decide_false] <;> first | done | decide) | (simp [zDrop, zS, yk, yn, yi, yt, ys, yr, yd, yy, ym, yc, yv, ye, yo, b3]; done), by rw [ht]; exact hP, va_K.moved hW.alike hK, hD⟩, hS.F ht⟩) hS.2.2 dY_drop_11
set_option maxHeartbeats 8000000 in
set_option maxRecDepth 100000 in
theorem j_is_ (l : Launch) (D : va_G) (G : YF) (v : YS) (hok : yOk v) (sz : Nat) (p0 p1 : Int32) : Met l yY_is_ wY_is_ ({ frames := 1, cells := 0, slots := 0, locals := 22 }) (yPc D G v sz [.ref G.1, .int p0, .int p1]) (va_Qi (fun (r : Int32) (w : YS) => (r, w) = zIs v p0 p1) (yB D G (va_A (yW G v) sz)) (va_A (yW G v) sz)) 0 0 (va_A (yW G v) sz) := by
  obtain ⟨zk, zn, zi, zt, zs, zr, zd, zy, zm, zc, zv, ze, zo⟩ := v
  refine Met.ofW (cc := cY_is_) (maxL := 3) (ret := (Option.some Jvm.ClassFile.FieldType.boolean)) (by decide) rfl ?_
  intro p e s m args below meth c s₁ B hml hv
  obtain ⟨rfl, hsz, hP, hK, hD0⟩ := hv
  have hx := B.exec
  have hb := B.bytes
  have hr := B.returns
  have hts := atoms_spec (ws := wY_is_) B.pre
  have hty : ∀ w ∈ yAll, w.before _ s = true := fun w h => hts w (List.mem_cons_of_mem _ h)
  have hown : s.vm.findClass RY = some m.cls := findClass_of_methodNamed B.named
  have hlocks := B.notSynchronized
  subst hsz
  have hD := hD0.self (sz := s.heap.size)
  generalize hAe : va_A (yW G (zk, zn, zi, zt, zs, zr, zd, zy, zm, zc, zv, ze, zo)) s.heap.size = A at hD ⊢
  have hA : ∀ q : Nat, s.heap.size ≤ q → A q := fun q h => by rw [← hAe]; exact Or.inr h
  have hS : va_S A s.heap s.heap [] := va_S.rf
  refine xHeap (C := fun H => va_P D vwCl (yW G (zk, zn, zi, zt, zs, zr, zd, zy, zm, zc, zv, ze, zo)) H ∧ va_S A s.heap H []) ⟨hP, hS⟩ (fun H hC => ?_)
  obtain ⟨hP, hS⟩ := hC
  have hl := lv_entry ([.ref G.1, .int p0, .int p1]) (n := 3) (Nat.le_of_ble_eq_true rfl)
  rw [lg_entry_eq]
  generalize (lg_sl ([.ref G.1, .int p0, .int p1]) ++ List.replicate (3 - (lg_sl ([.ref G.1, .int p0, .int p1])).length) Slot.unset).toArray = ls at hl ⊢
  have hl : lv_has ls 3 [(0, .ref G.1), (1, .int p0), (2, .int p1)] := hl
  refine lv_iload_n hx hb dY_is__0 rfl (lv_at hl 1 rfl) ?_
  refine lv_iconst (v := 0) hx hb dY_is__1 (by decide) ?_
  refine lv_bipush (v := 7) hx hb dY_is__2 (by decide) ?_
  refine vp_callSi (va_Run.run (va_runS (As := [.int p0, .int 0, .int 7]) (rest := []) ⟨hx, hb, hml, hown, hts⟩ (j_inn l p0 0 7) (va_cwS 3 hts (yS ylY_48 ym_inn yini yc_inn) rfl rfl rfl (by decide +kernel) ⟨Nat.le_of_ble_eq_true rfl, Nat.le_of_ble_eq_true rfl⟩) preEq rfl rfl hl.1 rfl (lv_room (Nat.le_of_ble_eq_true rfl)) dY_is__4 ⟨Nat.le_of_ble_eq_true rfl, Nat.le_of_ble_eq_true rfl⟩)) (fun r1 hw2 => ?_)
  rcases bI_c hw2 with ⟨rfl, b3⟩ | ⟨rfl, b3⟩
  · refine lv_if_eq (tgt := 38) hx hb dY_is__7 (by decide) (fun cz => absurd cz (by decide)) (fun _ => ?_)
    refine lv_iload_n hx hb dY_is__10 rfl (lv_at hl 2 rfl) ?_
    refine lv_iconst (v := 0) hx hb dY_is__11 (by decide) ?_
    refine lv_bipush (v := 8) hx hb dY_is__12 (by decide) ?_
    refine vp_callSi (va_Run.run (va_runS (As := [.int p1, .int 0, .int 8]) (rest := []) ⟨hx, hb, hml, hown, hts⟩ (j_inn l p1 0 8) (va_cwS 3 hts (yS ylY_48 ym_inn yini yc_inn) rfl rfl rfl (by decide +kernel) ⟨Nat.le_of_ble_eq_true rfl, Nat.le_of_ble_eq_true rfl⟩) preEq rfl rfl hl.1 rfl (lv_room (Nat.le_of_ble_eq_true rfl)) dY_is__14 ⟨Nat.le_of_ble_eq_true rfl, Nat.le_of_ble_eq_true rfl⟩)) (fun r4 hw5 => ?_)
    rcases bI_c hw5 with ⟨rfl, b6⟩ | ⟨rfl, b6⟩
    · refine lv_if_eq (tgt := 38) hx hb dY_is__17 (by decide) (fun cz => absurd cz (by decide)) (fun _ => ?_)
      refine lv_aload_n hx hb dY_is__20 rfl (lv_at hl 0 rfl) ?_
      refine lv_aload_n hx hb dY_is__21 rfl (lv_at hl 0 rfl) ?_
      refine va_get (D := D) (ci := 2) (v := .ref G.2.2.2.2.1) (C := RY) (T := TY) (N := 13) hx hb hty inY hown hK hP 0 rfl rfl 4 (by decide) (hty _ yf_23) (fun _ h9 => h9) rfl dY_is__22 ?_
      refine lv_iload_n hx hb dY_is__25 rfl (lv_at hl 1 rfl) ?_
      refine va_iald (f := zs) hx hb hK hP 4 3 rfl rfl (fIn_in7 b3) dY_is__26 ?_
      refine lv_iload_n hx hb dY_is__27 rfl (lv_at hl 2 rfl) ?_
      have hf7 := xFree hD hS hA
      refine va_calli (va_runV (As := [.int (zs p0.toNatClampNeg), .int p1]) (rest := []) ⟨hx, hb, hml, hown, hts⟩ (j_of l D G (zk, zn, zi, zt, zs, zr, zd, zy, zm, zc, zv, ze, zo)  H.size (zs p0.toNatClampNeg) p1 (hok.2.2.1 _) (hok.1 _)) (cwV 2 hts (yV ylY_60 ym_of ys_of yc_of) rfl rfl rfl (by decide +kernel) ⟨Nat.le_of_ble_eq_true rfl, Nat.le_of_ble_eq_true rfl⟩) (yPre hK hP hD _) rfl rfl hl.1 rfl (lv_room (Nat.le_of_ble_eq_true rfl)) dY_is__28 ⟨Nat.le_of_ble_eq_true rfl, Nat.le_of_ble_eq_true rfl⟩) hS (fun q _ h => hf7 q h) hf7 (fun r8 v9 t11 H1 locs ht hvm hw10 hB hz1 hk1 hS => ?_)
      obtain ⟨hP1, hK1, hD1⟩ := hB
      rw [ht] at hP1
      replace hD1 := hD1.weaken (fun _ _ _ h => hf7 _ h)
      generalize H1 = H at hP1 hS ⊢
      obtain ⟨zhw10, rfl⟩ := Prod.mk.inj (show (r8, v9) = (bI (fOf (zk, zn, zi, zt, zs, zr, zd, zy, zm, zc, zv, ze, zo) (zs p0.toNatClampNeg) p1), (zk, zn, zi, zt, zs, zr, zd, zy, zm, zc, zv, ze, zo)) from hw10)
      have hP : va_P D vwCl (yW G (zk, zn, zi, zt, zs, zr, zd, zy, zm, zc, zv, ze, zo)) H := hP1
      have hD : va_D A (yW G (zk, zn, zi, zt, zs, zr, zd, zy, zm, zc, zv, ze, zo)) := hD1
      rcases bI_c zhw10 with ⟨rfl, b12⟩ | ⟨rfl, b12⟩
      · refine lv_if_eq (tgt := 38) hx hb dY_is__31 (by decide) (fun cz => absurd cz (by decide)) (fun _ => ?_)
        refine lv_iconst (v := 1) hx hb dY_is__34 (by decide) ?_
        refine lv_goto (tgt := 39) hx hb dY_is__35 (by decide) ?_
        exact W.zret (v := 1) hx hb hr rfl (fun tE ht hW => ⟨⟨1, (zk, zn, zi, zt, zs, zr, zd, zy, zm, zc, zv, ze, zo), rfl, by first | (simp only [zIs, bI, yk, yn, yi, yt, ys, yr, yd, yy, ym, yc, yv, ye, yo, b3, b6, b12, eq_self, ↓reduceIte, Bool.false_eq_true, Bool.not_false, Bool.not_true, Bool.and_true, Bool.and_false, Bool.true_and, Bool.false_and, decide_true, decide_false] <;> first | done | decide) | (simp [zIs, bI, yk, yn, yi, yt, ys, yr, yd, yy, ym, yc, yv, ye, yo, b3, b6, b12]; done), by rw [ht]; exact hP, va_K.moved hW.alike hK, hD⟩, hS.F ht⟩) hS.2.2 dY_is__39
      · refine lv_if_eq (tgt := 38) hx hb dY_is__31 (by decide) (fun _ => ?_) (fun cz => absurd cz (by decide))
        refine lv_iconst (v := 0) hx hb dY_is__38 (by decide) ?_
        exact W.zret (v := 0) hx hb hr rfl (fun tE ht hW => ⟨⟨0, (zk, zn, zi, zt, zs, zr, zd, zy, zm, zc, zv, ze, zo), rfl, by first | (simp only [zIs, bI, yk, yn, yi, yt, ys, yr, yd, yy, ym, yc, yv, ye, yo, b3, b6, b12, eq_self, ↓reduceIte, Bool.false_eq_true, Bool.not_false, Bool.not_true, Bool.and_true, Bool.and_false, Bool.true_and, Bool.false_and, decide_true, decide_false] <;> first | done | decide) | (simp [zIs, bI, yk, yn, yi, yt, ys, yr, yd, yy, ym, yc, yv, ye, yo, b3, b6, b12]; done), by rw [ht]; exact hP, va_K.moved hW.alike hK, hD⟩, hS.F ht⟩) hS.2.2 dY_is__39
    · refine lv_if_eq (tgt := 38) hx hb dY_is__17 (by decide) (fun _ => ?_) (fun cz => absurd cz (by decide))
      refine lv_iconst (v := 0) hx hb dY_is__38 (by decide) ?_
      exact W.zret (v := 0) hx hb hr rfl (fun tE ht hW => ⟨⟨0, (zk, zn, zi, zt, zs, zr, zd, zy, zm, zc, zv, ze, zo), rfl, by first | (simp only [zIs, bI, yk, yn, yi, yt, ys, yr, yd, yy, ym, yc, yv, ye, yo, b3, b6, eq_self, ↓reduceIte, Bool.false_eq_true, Bool.not_false, Bool.not_true, Bool.and_true, Bool.and_false, Bool.true_and, Bool.false_and, decide_true, decide_false] <;> first | done | decide) | (simp [zIs, bI, yk, yn, yi, yt, ys, yr, yd, yy, ym, yc, yv, ye, yo, b3, b6]; done), by rw [ht]; exact hP, va_K.moved hW.alike hK, hD⟩, hS.F ht⟩) hS.2.2 dY_is__39
  · refine lv_if_eq (tgt := 38) hx hb dY_is__7 (by decide) (fun _ => ?_) (fun cz => absurd cz (by decide))
    refine lv_iconst (v := 0) hx hb dY_is__38 (by decide) ?_
    exact W.zret (v := 0) hx hb hr rfl (fun tE ht hW => ⟨⟨0, (zk, zn, zi, zt, zs, zr, zd, zy, zm, zc, zv, ze, zo), rfl, by first | (simp only [zIs, bI, yk, yn, yi, yt, ys, yr, yd, yy, ym, yc, yv, ye, yo, b3, eq_self, ↓reduceIte, Bool.false_eq_true, Bool.not_false, Bool.not_true, Bool.and_true, Bool.and_false, Bool.true_and, Bool.false_and, decide_true, decide_false] <;> first | done | decide) | (simp [zIs, bI, yk, yn, yi, yt, ys, yr, yd, yy, ym, yc, yv, ye, yo, b3]; done), by rw [ht]; exact hP, va_K.moved hW.alike hK, hD⟩, hS.F ht⟩) hS.2.2 dY_is__39
set_option maxHeartbeats 8000000 in
set_option maxRecDepth 100000 in
theorem j_same (l : Launch) (D : va_G) (G : YF) (v : YS) (hok : yOk v) (sz : Nat) (p0 p1 : Int32) : Met l yY_same wY_same ({ frames := 1, cells := 0, slots := 0, locals := 22 }) (yPc D G v sz [.ref G.1, .int p0, .int p1]) (va_Qi (fun (r : Int32) (w : YS) => (r, w) = zSame v p0 p1) (yB D G (va_A (yW G v) sz)) (va_A (yW G v) sz)) 0 0 (va_A (yW G v) sz) := by
  obtain ⟨zk, zn, zi, zt, zs, zr, zd, zy, zm, zc, zv, ze, zo⟩ := v
  refine Met.ofW (cc := cY_same) (maxL := 3) (ret := (Option.some Jvm.ClassFile.FieldType.boolean)) (by decide) rfl ?_
  intro p e s m args below meth c s₁ B hml hv
  obtain ⟨rfl, hsz, hP, hK, hD0⟩ := hv
  have hx := B.exec
  have hb := B.bytes
  have hr := B.returns
  have hts := atoms_spec (ws := wY_same) B.pre
  have hty : ∀ w ∈ yAll, w.before _ s = true := fun w h => hts w (List.mem_cons_of_mem _ h)
  have hown : s.vm.findClass RY = some m.cls := findClass_of_methodNamed B.named
  have hlocks := B.notSynchronized
  subst hsz
  have hD := hD0.self (sz := s.heap.size)
  generalize hAe : va_A (yW G (zk, zn, zi, zt, zs, zr, zd, zy, zm, zc, zv, ze, zo)) s.heap.size = A at hD ⊢
  have hA : ∀ q : Nat, s.heap.size ≤ q → A q := fun q h => by rw [← hAe]; exact Or.inr h
  have hS : va_S A s.heap s.heap [] := va_S.rf
  refine xHeap (C := fun H => va_P D vwCl (yW G (zk, zn, zi, zt, zs, zr, zd, zy, zm, zc, zv, ze, zo)) H ∧ va_S A s.heap H []) ⟨hP, hS⟩ (fun H hC => ?_)
  obtain ⟨hP, hS⟩ := hC
  have hl := lv_entry ([.ref G.1, .int p0, .int p1]) (n := 3) (Nat.le_of_ble_eq_true rfl)
  rw [lg_entry_eq]
  generalize (lg_sl ([.ref G.1, .int p0, .int p1]) ++ List.replicate (3 - (lg_sl ([.ref G.1, .int p0, .int p1])).length) Slot.unset).toArray = ls at hl ⊢
  have hl : lv_has ls 3 [(0, .ref G.1), (1, .int p0), (2, .int p1)] := hl
  refine lv_iload_n hx hb dY_same_0 rfl (lv_at hl 1 rfl) ?_
  refine lv_iconst (v := 0) hx hb dY_same_1 (by decide) ?_
  refine lv_bipush (v := 7) hx hb dY_same_2 (by decide) ?_
  refine vp_callSi (va_Run.run (va_runS (As := [.int p0, .int 0, .int 7]) (rest := []) ⟨hx, hb, hml, hown, hts⟩ (j_inn l p0 0 7) (va_cwS 3 hts (yS ylY_48 ym_inn yini yc_inn) rfl rfl rfl (by decide +kernel) ⟨Nat.le_of_ble_eq_true rfl, Nat.le_of_ble_eq_true rfl⟩) preEq rfl rfl hl.1 rfl (lv_room (Nat.le_of_ble_eq_true rfl)) dY_same_4 ⟨Nat.le_of_ble_eq_true rfl, Nat.le_of_ble_eq_true rfl⟩)) (fun r1 hw2 => ?_)
  rcases bI_c hw2 with ⟨rfl, b3⟩ | ⟨rfl, b3⟩
  · refine lv_if_eq (tgt := 39) hx hb dY_same_7 (by decide) (fun cz => absurd cz (by decide)) (fun _ => ?_)
    refine lv_iload_n hx hb dY_same_10 rfl (lv_at hl 2 rfl) ?_
    refine lv_iconst (v := 0) hx hb dY_same_11 (by decide) ?_
    refine lv_bipush (v := 7) hx hb dY_same_12 (by decide) ?_
    refine vp_callSi (va_Run.run (va_runS (As := [.int p1, .int 0, .int 7]) (rest := []) ⟨hx, hb, hml, hown, hts⟩ (j_inn l p1 0 7) (va_cwS 3 hts (yS ylY_48 ym_inn yini yc_inn) rfl rfl rfl (by decide +kernel) ⟨Nat.le_of_ble_eq_true rfl, Nat.le_of_ble_eq_true rfl⟩) preEq rfl rfl hl.1 rfl (lv_room (Nat.le_of_ble_eq_true rfl)) dY_same_14 ⟨Nat.le_of_ble_eq_true rfl, Nat.le_of_ble_eq_true rfl⟩)) (fun r4 hw5 => ?_)
    rcases bI_c hw5 with ⟨rfl, b6⟩ | ⟨rfl, b6⟩
    · refine lv_if_eq (tgt := 39) hx hb dY_same_17 (by decide) (fun cz => absurd cz (by decide)) (fun _ => ?_)
      refine lv_aload_n hx hb dY_same_20 rfl (lv_at hl 0 rfl) ?_
      refine va_get (D := D) (ci := 2) (v := .ref G.2.2.2.2.1) (C := RY) (T := TY) (N := 13) hx hb hty inY hown hK hP 0 rfl rfl 4 (by decide) (hty _ yf_23) (fun _ h9 => h9) rfl dY_same_21 ?_
      refine lv_iload_n hx hb dY_same_24 rfl (lv_at hl 1 rfl) ?_
      refine va_iald (f := zs) hx hb hK hP 4 3 rfl rfl (fIn_in7 b3) dY_same_25 ?_
      refine lv_aload_n hx hb dY_same_26 rfl (lv_at hl 0 rfl) ?_
      refine va_get (D := D) (ci := 2) (v := .ref G.2.2.2.2.1) (C := RY) (T := TY) (N := 13) hx hb hty inY hown hK hP 0 rfl rfl 4 (by decide) (hty _ yf_23) (fun _ h9 => h9) rfl dY_same_27 ?_
      refine lv_iload_n hx hb dY_same_30 rfl (lv_at hl 2 rfl) ?_
      refine va_iald (f := zs) hx hb hK hP 4 3 rfl rfl (fIn_in7 b6) dY_same_31 ?_
      refine lv_icmp_ne (tgt := 39) hx hb dY_same_32 (by decide) (fun c7 => ?_) (fun c7 => ?_)
      · refine lv_iconst (v := 0) hx hb dY_same_39 (by decide) ?_
        exact W.zret (v := 0) hx hb hr rfl (fun tE ht hW => ⟨⟨0, (zk, zn, zi, zt, zs, zr, zd, zy, zm, zc, zv, ze, zo), rfl, by first | (simp only [zSame, bI, yk, yn, yi, yt, ys, yr, yd, yy, ym, yc, yv, ye, yo, b3, b6, c7, eq_self, ↓reduceIte, Bool.false_eq_true, Bool.not_false, Bool.not_true, Bool.and_true, Bool.and_false, Bool.true_and, Bool.false_and, decide_true, decide_false] <;> first | done | decide) | (simp [zSame, bI, yk, yn, yi, yt, ys, yr, yd, yy, ym, yc, yv, ye, yo, b3, b6, c7]; done), by rw [ht]; exact hP, va_K.moved hW.alike hK, hD⟩, hS.F ht⟩) hS.2.2 dY_same_40
      · refine lv_iconst (v := 1) hx hb dY_same_35 (by decide) ?_
        refine lv_goto (tgt := 40) hx hb dY_same_36 (by decide) ?_
        exact W.zret (v := 1) hx hb hr rfl (fun tE ht hW => ⟨⟨1, (zk, zn, zi, zt, zs, zr, zd, zy, zm, zc, zv, ze, zo), rfl, by first | (simp only [zSame, bI, yk, yn, yi, yt, ys, yr, yd, yy, ym, yc, yv, ye, yo, b3, b6, eq_true c7, eq_self, ↓reduceIte, Bool.false_eq_true, Bool.not_false, Bool.not_true, Bool.and_true, Bool.and_false, Bool.true_and, Bool.false_and, decide_true, decide_false] <;> first | done | decide) | (simp only [zSame, bI, yk, yn, yi, yt, ys, yr, yd, yy, ym, yc, yv, ye, yo, b3, b6, c7, eq_self, ↓reduceIte, Bool.false_eq_true, Bool.not_false, Bool.not_true, Bool.and_true, Bool.and_false, Bool.true_and, Bool.false_and, decide_true, decide_false] <;> first | done | decide) | (simp [zSame, bI, yk, yn, yi, yt, ys, yr, yd, yy, ym, yc, yv, ye, yo, b3, b6, c7]; done) | (simp [zSame, bI, yk, yn, yi, yt, ys, yr, yd, yy, ym, yc, yv, ye, yo, b3, b6, eq_true c7]; done), by rw [ht]; exact hP, va_K.moved hW.alike hK, hD⟩, hS.F ht⟩) hS.2.2 dY_same_40
    · refine lv_if_eq (tgt := 39) hx hb dY_same_17 (by decide) (fun _ => ?_) (fun cz => absurd cz (by decide))
      refine lv_iconst (v := 0) hx hb dY_same_39 (by decide) ?_
      exact W.zret (v := 0) hx hb hr rfl (fun tE ht hW => ⟨⟨0, (zk, zn, zi, zt, zs, zr, zd, zy, zm, zc, zv, ze, zo), rfl, by first | (simp only [zSame, bI, yk, yn, yi, yt, ys, yr, yd, yy, ym, yc, yv, ye, yo, b3, b6, eq_self, ↓reduceIte, Bool.false_eq_true, Bool.not_false, Bool.not_true, Bool.and_true, Bool.and_false, Bool.true_and, Bool.false_and, decide_true, decide_false] <;> first | done | decide) | (simp [zSame, bI, yk, yn, yi, yt, ys, yr, yd, yy, ym, yc, yv, ye, yo, b3, b6]; done), by rw [ht]; exact hP, va_K.moved hW.alike hK, hD⟩, hS.F ht⟩) hS.2.2 dY_same_40
  · refine lv_if_eq (tgt := 39) hx hb dY_same_7 (by decide) (fun _ => ?_) (fun cz => absurd cz (by decide))
    refine lv_iconst (v := 0) hx hb dY_same_39 (by decide) ?_
    exact W.zret (v := 0) hx hb hr rfl (fun tE ht hW => ⟨⟨0, (zk, zn, zi, zt, zs, zr, zd, zy, zm, zc, zv, ze, zo), rfl, by first | (simp only [zSame, bI, yk, yn, yi, yt, ys, yr, yd, yy, ym, yc, yv, ye, yo, b3, eq_self, ↓reduceIte, Bool.false_eq_true, Bool.not_false, Bool.not_true, Bool.and_true, Bool.and_false, Bool.true_and, Bool.false_and, decide_true, decide_false] <;> first | done | decide) | (simp [zSame, bI, yk, yn, yi, yt, ys, yr, yd, yy, ym, yc, yv, ye, yo, b3]; done), by rw [ht]; exact hP, va_K.moved hW.alike hK, hD⟩, hS.F ht⟩) hS.2.2 dY_same_40
set_option maxHeartbeats 8000000 in
set_option maxRecDepth 100000 in
theorem j_fits (l : Launch) (D : va_G) (G : YF) (v : YS) (hok : yOk v) (sz : Nat) (p0 p1 : Int32) (hr0 : vp_in p0 520) : Met l yY_fits wY_fits ({ frames := 1, cells := 0, slots := 0, locals := 22 }) (yPc D G v sz [.ref G.1, .int p0, .int p1]) (va_Qi (fun (r : Int32) (w : YS) => (r, w) = (bI (fFits v p0 p1), v)) (yB D G (va_A (yW G v) sz)) (va_A (yW G v) sz)) 0 0 (va_A (yW G v) sz) := by
  obtain ⟨zk, zn, zi, zt, zs, zr, zd, zy, zm, zc, zv, ze, zo⟩ := v
  refine Met.ofW (cc := cY_fits) (maxL := 3) (ret := (Option.some Jvm.ClassFile.FieldType.boolean)) (by decide) rfl ?_
  intro p e s m args below meth c s₁ B hml hv
  obtain ⟨rfl, hsz, hP, hK, hD0⟩ := hv
  have hx := B.exec
  have hb := B.bytes
  have hr := B.returns
  have hts := atoms_spec (ws := wY_fits) B.pre
  have hty : ∀ w ∈ yAll, w.before _ s = true := fun w h => hts w (List.mem_cons_of_mem _ h)
  have hown : s.vm.findClass RY = some m.cls := findClass_of_methodNamed B.named
  have hlocks := B.notSynchronized
  subst hsz
  have hD := hD0.self (sz := s.heap.size)
  generalize hAe : va_A (yW G (zk, zn, zi, zt, zs, zr, zd, zy, zm, zc, zv, ze, zo)) s.heap.size = A at hD ⊢
  have hA : ∀ q : Nat, s.heap.size ≤ q → A q := fun q h => by rw [← hAe]; exact Or.inr h
  have hS : va_S A s.heap s.heap [] := va_S.rf
  refine xHeap (C := fun H => va_P D vwCl (yW G (zk, zn, zi, zt, zs, zr, zd, zy, zm, zc, zv, ze, zo)) H ∧ va_S A s.heap H []) ⟨hP, hS⟩ (fun H hC => ?_)
  obtain ⟨hP, hS⟩ := hC
  have hl := lv_entry ([.ref G.1, .int p0, .int p1]) (n := 3) (Nat.le_of_ble_eq_true rfl)
  rw [lg_entry_eq]
  generalize (lg_sl ([.ref G.1, .int p0, .int p1]) ++ List.replicate (3 - (lg_sl ([.ref G.1, .int p0, .int p1])).length) Slot.unset).toArray = ls at hl ⊢
  have hl : lv_has ls 3 [(0, .ref G.1), (1, .int p0), (2, .int p1)] := hl
  refine lv_iload_n hx hb dY_fits_0 rfl (lv_at hl 1 rfl) ?_
  refine lv_if_eq (tgt := 39) hx hb dY_fits_1 (by decide) (fun c1 => ?_) (fun c1 => ?_)
  · refine lv_iconst (v := 1) hx hb dY_fits_39 (by decide) ?_
    refine lv_goto (tgt := 44) hx hb dY_fits_40 (by decide) ?_
    exact W.zret (v := 1) hx hb hr rfl (fun tE ht hW => ⟨⟨1, (zk, zn, zi, zt, zs, zr, zd, zy, zm, zc, zv, ze, zo), rfl, by first | (simp only [fFits, fRt, bI, yk, yn, yi, yt, ys, yr, yd, yy, ym, yc, yv, ye, yo, eq_true c1, eq_self, ↓reduceIte, Bool.false_eq_true, Bool.not_false, Bool.not_true, Bool.and_true, Bool.and_false, Bool.true_and, Bool.false_and, decide_true, decide_false] <;> first | done | decide) | (simp only [fFits, fRt, bI, yk, yn, yi, yt, ys, yr, yd, yy, ym, yc, yv, ye, yo, c1, eq_self, ↓reduceIte, Bool.false_eq_true, Bool.not_false, Bool.not_true, Bool.and_true, Bool.and_false, Bool.true_and, Bool.false_and, decide_true, decide_false] <;> first | done | decide) | (simp [fFits, fRt, bI, yk, yn, yi, yt, ys, yr, yd, yy, ym, yc, yv, ye, yo, c1]; done) | (simp [fFits, fRt, bI, yk, yn, yi, yt, ys, yr, yd, yy, ym, yc, yv, ye, yo, eq_true c1]; done), by rw [ht]; exact hP, va_K.moved hW.alike hK, hD⟩, hS.F ht⟩) hS.2.2 dY_fits_44
  · refine lv_aload_n hx hb dY_fits_4 rfl (lv_at hl 0 rfl) ?_
    refine lv_iload_n hx hb dY_fits_5 rfl (lv_at hl 1 rfl) ?_
    refine lv_iload_n hx hb dY_fits_6 rfl (lv_at hl 2 rfl) ?_
    refine lv_if_ne (tgt := 14) hx hb dY_fits_7 (by decide) (fun c2 => ?_) (fun c2 => ?_)
    · refine lv_iload_n hx hb dY_fits_14 rfl (lv_at hl 2 rfl) ?_
      refine lv_iconst (v := 1) hx hb dY_fits_15 (by decide) ?_
      refine lv_icmp_ne (tgt := 23) hx hb dY_fits_16 (by decide) (fun c3 => ?_) (fun c3 => ?_)
      · refine lv_iload_n hx hb dY_fits_23 rfl (lv_at hl 2 rfl) ?_
        refine lv_iconst (v := 2) hx hb dY_fits_24 (by decide) ?_
        refine lv_icmp_ne (tgt := 32) hx hb dY_fits_25 (by decide) (fun c4 => ?_) (fun c4 => ?_)
        · refine lv_iconst (v := 4) hx hb dY_fits_32 (by decide) ?_
          have hf5 := xFree hD hS hA
          refine va_calli (va_runV (As := [.int p0, .int 4]) (rest := []) ⟨hx, hb, hml, hown, hts⟩ (j_of l D G (zk, zn, zi, zt, zs, zr, zd, zy, zm, zc, zv, ze, zo)  H.size p0 4 hr0 (hok.1 _)) (cwV 2 hts (yV ylY_60 ym_of ys_of yc_of) rfl rfl rfl (by decide +kernel) ⟨Nat.le_of_ble_eq_true rfl, Nat.le_of_ble_eq_true rfl⟩) (yPre hK hP hD _) rfl rfl hl.1 rfl (lv_room (Nat.le_of_ble_eq_true rfl)) dY_fits_33 ⟨Nat.le_of_ble_eq_true rfl, Nat.le_of_ble_eq_true rfl⟩) hS (fun q _ h => hf5 q h) hf5 (fun r6 v7 t9 H1 locs ht hvm hw8 hB hz1 hk1 hS => ?_)
          obtain ⟨hP1, hK1, hD1⟩ := hB
          rw [ht] at hP1
          replace hD1 := hD1.weaken (fun _ _ _ h => hf5 _ h)
          generalize H1 = H at hP1 hS ⊢
          obtain ⟨zhw8, rfl⟩ := Prod.mk.inj (show (r6, v7) = (bI (fOf (zk, zn, zi, zt, zs, zr, zd, zy, zm, zc, zv, ze, zo) p0 4), (zk, zn, zi, zt, zs, zr, zd, zy, zm, zc, zv, ze, zo)) from hw8)
          have hP : va_P D vwCl (yW G (zk, zn, zi, zt, zs, zr, zd, zy, zm, zc, zv, ze, zo)) H := hP1
          have hD : va_D A (yW G (zk, zn, zi, zt, zs, zr, zd, zy, zm, zc, zv, ze, zo)) := hD1
          rcases bI_c zhw8 with ⟨rfl, b10⟩ | ⟨rfl, b10⟩
          · refine lv_if_eq (tgt := 43) hx hb dY_fits_36 (by decide) (fun cz => absurd cz (by decide)) (fun _ => ?_)
            refine lv_iconst (v := 1) hx hb dY_fits_39 (by decide) ?_
            refine lv_goto (tgt := 44) hx hb dY_fits_40 (by decide) ?_
            exact W.zret (v := 1) hx hb hr rfl (fun tE ht hW => ⟨⟨1, (zk, zn, zi, zt, zs, zr, zd, zy, zm, zc, zv, ze, zo), rfl, by first | (simp only [fFits, fRt, bI, yk, yn, yi, yt, ys, yr, yd, yy, ym, yc, yv, ye, yo, c1, c2, c3, c4, b10, eq_self, ↓reduceIte, Bool.false_eq_true, Bool.not_false, Bool.not_true, Bool.and_true, Bool.and_false, Bool.true_and, Bool.false_and, decide_true, decide_false] <;> first | done | decide) | (simp [fFits, fRt, bI, yk, yn, yi, yt, ys, yr, yd, yy, ym, yc, yv, ye, yo, c1, c2, c3, c4, b10]; done), by rw [ht]; exact hP, va_K.moved hW.alike hK, hD⟩, hS.F ht⟩) hS.2.2 dY_fits_44
          · refine lv_if_eq (tgt := 43) hx hb dY_fits_36 (by decide) (fun _ => ?_) (fun cz => absurd cz (by decide))
            refine lv_iconst (v := 0) hx hb dY_fits_43 (by decide) ?_
            exact W.zret (v := 0) hx hb hr rfl (fun tE ht hW => ⟨⟨0, (zk, zn, zi, zt, zs, zr, zd, zy, zm, zc, zv, ze, zo), rfl, by first | (simp only [fFits, fRt, bI, yk, yn, yi, yt, ys, yr, yd, yy, ym, yc, yv, ye, yo, c1, c2, c3, c4, b10, eq_self, ↓reduceIte, Bool.false_eq_true, Bool.not_false, Bool.not_true, Bool.and_true, Bool.and_false, Bool.true_and, Bool.false_and, decide_true, decide_false] <;> first | done | decide) | (simp [fFits, fRt, bI, yk, yn, yi, yt, ys, yr, yd, yy, ym, yc, yv, ye, yo, c1, c2, c3, c4, b10]; done), by rw [ht]; exact hP, va_K.moved hW.alike hK, hD⟩, hS.F ht⟩) hS.2.2 dY_fits_44
        · refine lv_iconst (v := 5) hx hb dY_fits_28 (by decide) ?_
          refine lv_goto (tgt := 33) hx hb dY_fits_29 (by decide) ?_
          have hf11 := xFree hD hS hA
          refine va_calli (va_runV (As := [.int p0, .int 5]) (rest := []) ⟨hx, hb, hml, hown, hts⟩ (j_of l D G (zk, zn, zi, zt, zs, zr, zd, zy, zm, zc, zv, ze, zo)  H.size p0 5 hr0 (hok.1 _)) (cwV 2 hts (yV ylY_60 ym_of ys_of yc_of) rfl rfl rfl (by decide +kernel) ⟨Nat.le_of_ble_eq_true rfl, Nat.le_of_ble_eq_true rfl⟩) (yPre hK hP hD _) rfl rfl hl.1 rfl (lv_room (Nat.le_of_ble_eq_true rfl)) dY_fits_33 ⟨Nat.le_of_ble_eq_true rfl, Nat.le_of_ble_eq_true rfl⟩) hS (fun q _ h => hf11 q h) hf11 (fun r12 v13 t15 H1 locs ht hvm hw14 hB hz1 hk1 hS => ?_)
          obtain ⟨hP1, hK1, hD1⟩ := hB
          rw [ht] at hP1
          replace hD1 := hD1.weaken (fun _ _ _ h => hf11 _ h)
          generalize H1 = H at hP1 hS ⊢
          obtain ⟨zhw14, rfl⟩ := Prod.mk.inj (show (r12, v13) = (bI (fOf (zk, zn, zi, zt, zs, zr, zd, zy, zm, zc, zv, ze, zo) p0 5), (zk, zn, zi, zt, zs, zr, zd, zy, zm, zc, zv, ze, zo)) from hw14)
          have hP : va_P D vwCl (yW G (zk, zn, zi, zt, zs, zr, zd, zy, zm, zc, zv, ze, zo)) H := hP1
          have hD : va_D A (yW G (zk, zn, zi, zt, zs, zr, zd, zy, zm, zc, zv, ze, zo)) := hD1
          rcases bI_c zhw14 with ⟨rfl, b16⟩ | ⟨rfl, b16⟩
          · refine lv_if_eq (tgt := 43) hx hb dY_fits_36 (by decide) (fun cz => absurd cz (by decide)) (fun _ => ?_)
            refine lv_iconst (v := 1) hx hb dY_fits_39 (by decide) ?_
            refine lv_goto (tgt := 44) hx hb dY_fits_40 (by decide) ?_
            exact W.zret (v := 1) hx hb hr rfl (fun tE ht hW => ⟨⟨1, (zk, zn, zi, zt, zs, zr, zd, zy, zm, zc, zv, ze, zo), rfl, by first | (simp only [fFits, fRt, bI, yk, yn, yi, yt, ys, yr, yd, yy, ym, yc, yv, ye, yo, c1, c2, c3, eq_true c4, b16, eq_self, ↓reduceIte, Bool.false_eq_true, Bool.not_false, Bool.not_true, Bool.and_true, Bool.and_false, Bool.true_and, Bool.false_and, decide_true, decide_false] <;> first | done | decide) | (simp only [fFits, fRt, bI, yk, yn, yi, yt, ys, yr, yd, yy, ym, yc, yv, ye, yo, c1, c2, c3, c4, b16, eq_self, ↓reduceIte, Bool.false_eq_true, Bool.not_false, Bool.not_true, Bool.and_true, Bool.and_false, Bool.true_and, Bool.false_and, decide_true, decide_false] <;> first | done | decide) | (simp [fFits, fRt, bI, yk, yn, yi, yt, ys, yr, yd, yy, ym, yc, yv, ye, yo, c1, c2, c3, c4, b16]; done) | (simp [fFits, fRt, bI, yk, yn, yi, yt, ys, yr, yd, yy, ym, yc, yv, ye, yo, c1, c2, c3, eq_true c4, b16]; done), by rw [ht]; exact hP, va_K.moved hW.alike hK, hD⟩, hS.F ht⟩) hS.2.2 dY_fits_44
          · refine lv_if_eq (tgt := 43) hx hb dY_fits_36 (by decide) (fun _ => ?_) (fun cz => absurd cz (by decide))
            refine lv_iconst (v := 0) hx hb dY_fits_43 (by decide) ?_
            exact W.zret (v := 0) hx hb hr rfl (fun tE ht hW => ⟨⟨0, (zk, zn, zi, zt, zs, zr, zd, zy, zm, zc, zv, ze, zo), rfl, by first | (simp only [fFits, fRt, bI, yk, yn, yi, yt, ys, yr, yd, yy, ym, yc, yv, ye, yo, c1, c2, c3, eq_true c4, b16, eq_self, ↓reduceIte, Bool.false_eq_true, Bool.not_false, Bool.not_true, Bool.and_true, Bool.and_false, Bool.true_and, Bool.false_and, decide_true, decide_false] <;> first | done | decide) | (simp only [fFits, fRt, bI, yk, yn, yi, yt, ys, yr, yd, yy, ym, yc, yv, ye, yo, c1, c2, c3, c4, b16, eq_self, ↓reduceIte, Bool.false_eq_true, Bool.not_false, Bool.not_true, Bool.and_true, Bool.and_false, Bool.true_and, Bool.false_and, decide_true, decide_false] <;> first | done | decide) | (simp [fFits, fRt, bI, yk, yn, yi, yt, ys, yr, yd, yy, ym, yc, yv, ye, yo, c1, c2, c3, c4, b16]; done) | (simp [fFits, fRt, bI, yk, yn, yi, yt, ys, yr, yd, yy, ym, yc, yv, ye, yo, c1, c2, c3, eq_true c4, b16]; done), by rw [ht]; exact hP, va_K.moved hW.alike hK, hD⟩, hS.F ht⟩) hS.2.2 dY_fits_44
      · refine lv_iconst (v := 3) hx hb dY_fits_19 (by decide) ?_
        refine lv_goto (tgt := 33) hx hb dY_fits_20 (by decide) ?_
        have hf17 := xFree hD hS hA
        refine va_calli (va_runV (As := [.int p0, .int 3]) (rest := []) ⟨hx, hb, hml, hown, hts⟩ (j_of l D G (zk, zn, zi, zt, zs, zr, zd, zy, zm, zc, zv, ze, zo)  H.size p0 3 hr0 (hok.1 _)) (cwV 2 hts (yV ylY_60 ym_of ys_of yc_of) rfl rfl rfl (by decide +kernel) ⟨Nat.le_of_ble_eq_true rfl, Nat.le_of_ble_eq_true rfl⟩) (yPre hK hP hD _) rfl rfl hl.1 rfl (lv_room (Nat.le_of_ble_eq_true rfl)) dY_fits_33 ⟨Nat.le_of_ble_eq_true rfl, Nat.le_of_ble_eq_true rfl⟩) hS (fun q _ h => hf17 q h) hf17 (fun r18 v19 t21 H1 locs ht hvm hw20 hB hz1 hk1 hS => ?_)
        obtain ⟨hP1, hK1, hD1⟩ := hB
        rw [ht] at hP1
        replace hD1 := hD1.weaken (fun _ _ _ h => hf17 _ h)
        generalize H1 = H at hP1 hS ⊢
        obtain ⟨zhw20, rfl⟩ := Prod.mk.inj (show (r18, v19) = (bI (fOf (zk, zn, zi, zt, zs, zr, zd, zy, zm, zc, zv, ze, zo) p0 3), (zk, zn, zi, zt, zs, zr, zd, zy, zm, zc, zv, ze, zo)) from hw20)
        have hP : va_P D vwCl (yW G (zk, zn, zi, zt, zs, zr, zd, zy, zm, zc, zv, ze, zo)) H := hP1
        have hD : va_D A (yW G (zk, zn, zi, zt, zs, zr, zd, zy, zm, zc, zv, ze, zo)) := hD1
        rcases bI_c zhw20 with ⟨rfl, b22⟩ | ⟨rfl, b22⟩
        · refine lv_if_eq (tgt := 43) hx hb dY_fits_36 (by decide) (fun cz => absurd cz (by decide)) (fun _ => ?_)
          refine lv_iconst (v := 1) hx hb dY_fits_39 (by decide) ?_
          refine lv_goto (tgt := 44) hx hb dY_fits_40 (by decide) ?_
          exact W.zret (v := 1) hx hb hr rfl (fun tE ht hW => ⟨⟨1, (zk, zn, zi, zt, zs, zr, zd, zy, zm, zc, zv, ze, zo), rfl, by first | (simp only [fFits, fRt, bI, yk, yn, yi, yt, ys, yr, yd, yy, ym, yc, yv, ye, yo, c1, c2, eq_true c3, b22, eq_self, ↓reduceIte, Bool.false_eq_true, Bool.not_false, Bool.not_true, Bool.and_true, Bool.and_false, Bool.true_and, Bool.false_and, decide_true, decide_false] <;> first | done | decide) | (simp only [fFits, fRt, bI, yk, yn, yi, yt, ys, yr, yd, yy, ym, yc, yv, ye, yo, c1, c2, c3, b22, eq_self, ↓reduceIte, Bool.false_eq_true, Bool.not_false, Bool.not_true, Bool.and_true, Bool.and_false, Bool.true_and, Bool.false_and, decide_true, decide_false] <;> first | done | decide) | (simp [fFits, fRt, bI, yk, yn, yi, yt, ys, yr, yd, yy, ym, yc, yv, ye, yo, c1, c2, c3, b22]; done) | (simp [fFits, fRt, bI, yk, yn, yi, yt, ys, yr, yd, yy, ym, yc, yv, ye, yo, c1, c2, eq_true c3, b22]; done), by rw [ht]; exact hP, va_K.moved hW.alike hK, hD⟩, hS.F ht⟩) hS.2.2 dY_fits_44
        · refine lv_if_eq (tgt := 43) hx hb dY_fits_36 (by decide) (fun _ => ?_) (fun cz => absurd cz (by decide))
          refine lv_iconst (v := 0) hx hb dY_fits_43 (by decide) ?_
          exact W.zret (v := 0) hx hb hr rfl (fun tE ht hW => ⟨⟨0, (zk, zn, zi, zt, zs, zr, zd, zy, zm, zc, zv, ze, zo), rfl, by first | (simp only [fFits, fRt, bI, yk, yn, yi, yt, ys, yr, yd, yy, ym, yc, yv, ye, yo, c1, c2, eq_true c3, b22, eq_self, ↓reduceIte, Bool.false_eq_true, Bool.not_false, Bool.not_true, Bool.and_true, Bool.and_false, Bool.true_and, Bool.false_and, decide_true, decide_false] <;> first | done | decide) | (simp only [fFits, fRt, bI, yk, yn, yi, yt, ys, yr, yd, yy, ym, yc, yv, ye, yo, c1, c2, c3, b22, eq_self, ↓reduceIte, Bool.false_eq_true, Bool.not_false, Bool.not_true, Bool.and_true, Bool.and_false, Bool.true_and, Bool.false_and, decide_true, decide_false] <;> first | done | decide) | (simp [fFits, fRt, bI, yk, yn, yi, yt, ys, yr, yd, yy, ym, yc, yv, ye, yo, c1, c2, c3, b22]; done) | (simp [fFits, fRt, bI, yk, yn, yi, yt, ys, yr, yd, yy, ym, yc, yv, ye, yo, c1, c2, eq_true c3, b22]; done), by rw [ht]; exact hP, va_K.moved hW.alike hK, hD⟩, hS.F ht⟩) hS.2.2 dY_fits_44
    · refine lv_iconst (v := 0) hx hb dY_fits_10 (by decide) ?_
      refine lv_goto (tgt := 33) hx hb dY_fits_11 (by decide) ?_
      have hf23 := xFree hD hS hA
      refine va_calli (va_runV (As := [.int p0, .int 0]) (rest := []) ⟨hx, hb, hml, hown, hts⟩ (j_of l D G (zk, zn, zi, zt, zs, zr, zd, zy, zm, zc, zv, ze, zo)  H.size p0 0 hr0 (hok.1 _)) (cwV 2 hts (yV ylY_60 ym_of ys_of yc_of) rfl rfl rfl (by decide +kernel) ⟨Nat.le_of_ble_eq_true rfl, Nat.le_of_ble_eq_true rfl⟩) (yPre hK hP hD _) rfl rfl hl.1 rfl (lv_room (Nat.le_of_ble_eq_true rfl)) dY_fits_33 ⟨Nat.le_of_ble_eq_true rfl, Nat.le_of_ble_eq_true rfl⟩) hS (fun q _ h => hf23 q h) hf23 (fun r24 v25 t27 H1 locs ht hvm hw26 hB hz1 hk1 hS => ?_)
      obtain ⟨hP1, hK1, hD1⟩ := hB
      rw [ht] at hP1
      replace hD1 := hD1.weaken (fun _ _ _ h => hf23 _ h)
      generalize H1 = H at hP1 hS ⊢
      obtain ⟨zhw26, rfl⟩ := Prod.mk.inj (show (r24, v25) = (bI (fOf (zk, zn, zi, zt, zs, zr, zd, zy, zm, zc, zv, ze, zo) p0 0), (zk, zn, zi, zt, zs, zr, zd, zy, zm, zc, zv, ze, zo)) from hw26)
      have hP : va_P D vwCl (yW G (zk, zn, zi, zt, zs, zr, zd, zy, zm, zc, zv, ze, zo)) H := hP1
      have hD : va_D A (yW G (zk, zn, zi, zt, zs, zr, zd, zy, zm, zc, zv, ze, zo)) := hD1
      rcases bI_c zhw26 with ⟨rfl, b28⟩ | ⟨rfl, b28⟩
      · refine lv_if_eq (tgt := 43) hx hb dY_fits_36 (by decide) (fun cz => absurd cz (by decide)) (fun _ => ?_)
        refine lv_iconst (v := 1) hx hb dY_fits_39 (by decide) ?_
        refine lv_goto (tgt := 44) hx hb dY_fits_40 (by decide) ?_
        exact W.zret (v := 1) hx hb hr rfl (fun tE ht hW => ⟨⟨1, (zk, zn, zi, zt, zs, zr, zd, zy, zm, zc, zv, ze, zo), rfl, by first | (simp only [fFits, fRt, bI, yk, yn, yi, yt, ys, yr, yd, yy, ym, yc, yv, ye, yo, c1, eq_true c2, b28, eq_self, ↓reduceIte, Bool.false_eq_true, Bool.not_false, Bool.not_true, Bool.and_true, Bool.and_false, Bool.true_and, Bool.false_and, decide_true, decide_false] <;> first | done | decide) | (simp only [fFits, fRt, bI, yk, yn, yi, yt, ys, yr, yd, yy, ym, yc, yv, ye, yo, c1, c2, b28, eq_self, ↓reduceIte, Bool.false_eq_true, Bool.not_false, Bool.not_true, Bool.and_true, Bool.and_false, Bool.true_and, Bool.false_and, decide_true, decide_false] <;> first | done | decide) | (simp [fFits, fRt, bI, yk, yn, yi, yt, ys, yr, yd, yy, ym, yc, yv, ye, yo, c1, c2, b28]; done) | (simp [fFits, fRt, bI, yk, yn, yi, yt, ys, yr, yd, yy, ym, yc, yv, ye, yo, c1, eq_true c2, b28]; done), by rw [ht]; exact hP, va_K.moved hW.alike hK, hD⟩, hS.F ht⟩) hS.2.2 dY_fits_44
      · refine lv_if_eq (tgt := 43) hx hb dY_fits_36 (by decide) (fun _ => ?_) (fun cz => absurd cz (by decide))
        refine lv_iconst (v := 0) hx hb dY_fits_43 (by decide) ?_
        exact W.zret (v := 0) hx hb hr rfl (fun tE ht hW => ⟨⟨0, (zk, zn, zi, zt, zs, zr, zd, zy, zm, zc, zv, ze, zo), rfl, by first | (simp only [fFits, fRt, bI, yk, yn, yi, yt, ys, yr, yd, yy, ym, yc, yv, ye, yo, c1, eq_true c2, b28, eq_self, ↓reduceIte, Bool.false_eq_true, Bool.not_false, Bool.not_true, Bool.and_true, Bool.and_false, Bool.true_and, Bool.false_and, decide_true, decide_false] <;> first | done | decide) | (simp only [fFits, fRt, bI, yk, yn, yi, yt, ys, yr, yd, yy, ym, yc, yv, ye, yo, c1, c2, b28, eq_self, ↓reduceIte, Bool.false_eq_true, Bool.not_false, Bool.not_true, Bool.and_true, Bool.and_false, Bool.true_and, Bool.false_and, decide_true, decide_false] <;> first | done | decide) | (simp [fFits, fRt, bI, yk, yn, yi, yt, ys, yr, yd, yy, ym, yc, yv, ye, yo, c1, c2, b28]; done) | (simp [fFits, fRt, bI, yk, yn, yi, yt, ys, yr, yd, yy, ym, yc, yv, ye, yo, c1, eq_true c2, b28]; done), by rw [ht]; exact hP, va_K.moved hW.alike hK, hD⟩, hS.F ht⟩) hS.2.2 dY_fits_44
set_option maxHeartbeats 8000000 in
set_option maxRecDepth 100000 in
theorem j_store (l : Launch) (D : va_G) (G : YF) (v : YS) (hok : yOk v) (sz : Nat) (p0 p1 p2 : Int32) : Met l yY_store wY_store ({ frames := 2, cells := 0, slots := 0, locals := 44 }) (yPc D G v sz [.ref G.1, .int p0, .int p1, .int p2]) (va_Qi (fun (r : Int32) (w : YS) => (r, w) = zStore v p0 p1 p2) (yB D G (va_A (yW G v) sz)) (va_A (yW G v) sz)) 0 0 (va_A (yW G v) sz) := by
  obtain ⟨zk, zn, zi, zt, zs, zr, zd, zy, zm, zc, zv, ze, zo⟩ := v
  refine Met.ofW (cc := cY_store) (maxL := 4) (ret := (Option.some Jvm.ClassFile.FieldType.int)) (by decide) rfl ?_
  intro p e s m args below meth c s₁ B hml hv
  obtain ⟨rfl, hsz, hP, hK, hD0⟩ := hv
  have hx := B.exec
  have hb := B.bytes
  have hr := B.returns
  have hts := atoms_spec (ws := wY_store) B.pre
  have hty : ∀ w ∈ yAll, w.before _ s = true := fun w h => hts w (List.mem_cons_of_mem _ h)
  have hown : s.vm.findClass RY = some m.cls := findClass_of_methodNamed B.named
  have hlocks := B.notSynchronized
  subst hsz
  have hD := hD0.self (sz := s.heap.size)
  generalize hAe : va_A (yW G (zk, zn, zi, zt, zs, zr, zd, zy, zm, zc, zv, ze, zo)) s.heap.size = A at hD ⊢
  have hA : ∀ q : Nat, s.heap.size ≤ q → A q := fun q h => by rw [← hAe]; exact Or.inr h
  have hS : va_S A s.heap s.heap [] := va_S.rf
  refine xHeap (C := fun H => va_P D vwCl (yW G (zk, zn, zi, zt, zs, zr, zd, zy, zm, zc, zv, ze, zo)) H ∧ va_S A s.heap H []) ⟨hP, hS⟩ (fun H hC => ?_)
  obtain ⟨hP, hS⟩ := hC
  have hl := lv_entry ([.ref G.1, .int p0, .int p1, .int p2]) (n := 4) (Nat.le_of_ble_eq_true rfl)
  rw [lg_entry_eq]
  generalize (lg_sl ([.ref G.1, .int p0, .int p1, .int p2]) ++ List.replicate (4 - (lg_sl ([.ref G.1, .int p0, .int p1, .int p2])).length) Slot.unset).toArray = ls at hl ⊢
  have hl : lv_has ls 4 [(0, .ref G.1), (1, .int p0), (2, .int p1), (3, .int p2)] := hl
  refine lv_iload_n hx hb dY_store_0 rfl (lv_at hl 1 rfl) ?_
  refine lv_iconst (v := 0) hx hb dY_store_1 (by decide) ?_
  refine lv_iconst (v := 3) hx hb dY_store_2 (by decide) ?_
  refine vp_callSi (va_Run.run (va_runS (As := [.int p0, .int 0, .int 3]) (rest := []) ⟨hx, hb, hml, hown, hts⟩ (j_inn l p0 0 3) (va_cwS 3 hts (yS ylY_48 ym_inn yini yc_inn) rfl rfl rfl (by decide +kernel) ⟨Nat.le_of_ble_eq_true rfl, Nat.le_of_ble_eq_true rfl⟩) preEq rfl rfl hl.1 rfl (lv_room (Nat.le_of_ble_eq_true rfl)) dY_store_3 ⟨Nat.le_of_ble_eq_true rfl, Nat.le_of_ble_eq_true rfl⟩)) (fun r1 hw2 => ?_)
  rcases bI_c hw2 with ⟨rfl, b3⟩ | ⟨rfl, b3⟩
  · refine lv_if_eq (tgt := 19) hx hb dY_store_6 (by decide) (fun cz => absurd cz (by decide)) (fun _ => ?_)
    refine lv_iload_n hx hb dY_store_9 rfl (lv_at hl 3 rfl) ?_
    refine lv_iconst (v := 0) hx hb dY_store_10 (by decide) ?_
    refine lv_bipush (v := 7) hx hb dY_store_11 (by decide) ?_
    refine vp_callSi (va_Run.run (va_runS (As := [.int p2, .int 0, .int 7]) (rest := []) ⟨hx, hb, hml, hown, hts⟩ (j_inn l p2 0 7) (va_cwS 3 hts (yS ylY_48 ym_inn yini yc_inn) rfl rfl rfl (by decide +kernel) ⟨Nat.le_of_ble_eq_true rfl, Nat.le_of_ble_eq_true rfl⟩) preEq rfl rfl hl.1 rfl (lv_room (Nat.le_of_ble_eq_true rfl)) dY_store_13 ⟨Nat.le_of_ble_eq_true rfl, Nat.le_of_ble_eq_true rfl⟩)) (fun r4 hw5 => ?_)
    rcases bI_c hw5 with ⟨rfl, b6⟩ | ⟨rfl, b6⟩
    · refine lv_if_ne (tgt := 21) hx hb dY_store_16 (by decide) (fun _ => ?_) (fun cz => absurd cz (by decide))
      refine lv_iload_n hx hb dY_store_21 rfl (lv_at hl 2 rfl) ?_
      refine lv_iconst (v := 0) hx hb dY_store_22 (by decide) ?_
      refine lv_iconst (v := 3) hx hb dY_store_23 (by decide) ?_
      refine vp_callSi (va_Run.run (va_runS (As := [.int p1, .int 0, .int 3]) (rest := []) ⟨hx, hb, hml, hown, hts⟩ (j_inn l p1 0 3) (va_cwS 3 hts (yS ylY_48 ym_inn yini yc_inn) rfl rfl rfl (by decide +kernel) ⟨Nat.le_of_ble_eq_true rfl, Nat.le_of_ble_eq_true rfl⟩) preEq rfl rfl hl.1 rfl (lv_room (Nat.le_of_ble_eq_true rfl)) dY_store_24 ⟨Nat.le_of_ble_eq_true rfl, Nat.le_of_ble_eq_true rfl⟩)) (fun r7 hw8 => ?_)
      rcases bI_c hw8 with ⟨rfl, b9⟩ | ⟨rfl, b9⟩
      · refine lv_if_ne (tgt := 32) hx hb dY_store_27 (by decide) (fun _ => ?_) (fun cz => absurd cz (by decide))
        refine lv_aload_n hx hb dY_store_32 rfl (lv_at hl 0 rfl) ?_
        refine lv_aload_n hx hb dY_store_33 rfl (lv_at hl 0 rfl) ?_
        refine va_get (D := D) (ci := 2) (v := .ref G.2.2.2.2.1) (C := RY) (T := TY) (N := 13) hx hb hty inY hown hK hP 0 rfl rfl 4 (by decide) (hty _ yf_23) (fun _ h9 => h9) rfl dY_store_34 ?_
        refine lv_iload_n hx hb dY_store_37 rfl (lv_at hl 3 rfl) ?_
        refine va_iald (f := zs) hx hb hK hP 4 3 rfl rfl (fIn_in7 b6) dY_store_38 ?_
        refine lv_iload_n hx hb dY_store_39 rfl (lv_at hl 1 rfl) ?_
        have hf10 := xFree hD hS hA
        refine va_calli (va_runV (As := [.int (zs p2.toNatClampNeg), .int p0]) (rest := []) ⟨hx, hb, hml, hown, hts⟩ (j_fits l D G (zk, zn, zi, zt, zs, zr, zd, zy, zm, zc, zv, ze, zo) hok H.size (zs p2.toNatClampNeg) p0 (hok.2.2.1 _)) (cwV 2 hts (yV ylY_89 ym_fits ys_fits yc_fits) rfl rfl rfl (by decide +kernel) ⟨Nat.le_of_ble_eq_true rfl, Nat.le_of_ble_eq_true rfl⟩) (yPre hK hP hD _) rfl rfl hl.1 rfl (lv_room (Nat.le_of_ble_eq_true rfl)) dY_store_40 ⟨Nat.le_of_ble_eq_true rfl, Nat.le_of_ble_eq_true rfl⟩) hS (fun q _ h => hf10 q h) hf10 (fun r11 v12 t14 H1 locs ht hvm hw13 hB hz1 hk1 hS => ?_)
        obtain ⟨hP1, hK1, hD1⟩ := hB
        rw [ht] at hP1
        replace hD1 := hD1.weaken (fun _ _ _ h => hf10 _ h)
        generalize H1 = H at hP1 hS ⊢
        obtain ⟨zhw13, rfl⟩ := Prod.mk.inj (show (r11, v12) = (bI (fFits (zk, zn, zi, zt, zs, zr, zd, zy, zm, zc, zv, ze, zo) (zs p2.toNatClampNeg) p0), (zk, zn, zi, zt, zs, zr, zd, zy, zm, zc, zv, ze, zo)) from hw13)
        have hP : va_P D vwCl (yW G (zk, zn, zi, zt, zs, zr, zd, zy, zm, zc, zv, ze, zo)) H := hP1
        have hD : va_D A (yW G (zk, zn, zi, zt, zs, zr, zd, zy, zm, zc, zv, ze, zo)) := hD1
        rcases bI_c zhw13 with ⟨rfl, b15⟩ | ⟨rfl, b15⟩
        · refine lv_if_ne (tgt := 48) hx hb dY_store_43 (by decide) (fun _ => ?_) (fun cz => absurd cz (by decide))
          refine lv_aload_n hx hb dY_store_48 rfl (lv_at hl 0 rfl) ?_
          refine va_get (D := D) (ci := 2) (v := .ref G.2.2.2.2.2.1) (C := RY) (T := TY) (N := 13) hx hb hty inY hown hK hP 0 rfl rfl 5 (by decide) (hty _ yf_26) (fun _ h9 => h9) rfl dY_store_49 ?_
          refine lv_iconst (v := 4) hx hb dY_store_52 (by decide) ?_
          refine lv_iload_n hx hb dY_store_53 rfl (lv_at hl 1 rfl) ?_
          refine lv_imul hx hb dY_store_54 ?_
          refine lv_iload_n hx hb dY_store_55 rfl (lv_at hl 2 rfl) ?_
          refine lv_iadd hx hb dY_store_56 ?_
          refine lv_aload_n hx hb dY_store_57 rfl (lv_at hl 0 rfl) ?_
          refine va_get (D := D) (ci := 2) (v := .ref G.2.2.2.2.1) (C := RY) (T := TY) (N := 13) hx hb hty inY hown hK hP 0 rfl rfl 4 (by decide) (hty _ yf_23) (fun _ h9 => h9) rfl dY_store_58 ?_
          refine lv_iload_n hx hb dY_store_61 rfl (lv_at hl 3 rfl) ?_
          refine va_iald (f := zs) hx hb hK hP 4 3 rfl rfl (fIn_in7 b6) dY_store_62 ?_
          refine va_iast hx hb hK hP hD hS 5 4 rfl rfl (rngR (fIn_in3 b3) (fIn_in3 b9)) dY_store_63 (fun H locs hP hD hS => ?_)
          have hP : va_P D vwCl (yW G (zk, zn, zi, zt, zs, (upd zr ((4 * p0) + p1).toNatClampNeg (zs p2.toNatClampNeg)), zd, zy, zm, zc, zv, ze, zo)) H := hP
          have hD : va_D A (yW G (zk, zn, zi, zt, zs, (upd zr ((4 * p0) + p1).toNatClampNeg (zs p2.toNatClampNeg)), zd, zy, zm, zc, zv, ze, zo)) := hD
          refine lv_iconst (v := 0) hx hb dY_store_64 (by decide) ?_
          exact W.iret (v := 0) hx hb hr (fun tE ht hW => ⟨⟨0, (zk, zn, zi, zt, zs, (upd zr ((4 * p0) + p1).toNatClampNeg (zs p2.toNatClampNeg)), zd, zy, zm, zc, zv, ze, zo), rfl, by first | (simp only [zStore, zR, yk, yn, yi, yt, ys, yr, yd, yy, ym, yc, yv, ye, yo, b3, b6, b9, b15, eq_self, ↓reduceIte, Bool.false_eq_true, Bool.not_false, Bool.not_true, Bool.and_true, Bool.and_false, Bool.true_and, Bool.false_and, decide_true, decide_false] <;> first | done | decide) | (simp [zStore, zR, yk, yn, yi, yt, ys, yr, yd, yy, ym, yc, yv, ye, yo, b3, b6, b9, b15]; done), by rw [ht]; exact hP, va_K.moved hW.alike hK, hD⟩, hS.F ht⟩) hS.2.2 dY_store_65
        · refine lv_if_ne (tgt := 48) hx hb dY_store_43 (by decide) (fun cz => absurd cz (by decide)) (fun _ => ?_)
          refine lv_iconst (v := 3) hx hb dY_store_46 (by decide) ?_
          exact W.iret (v := 3) hx hb hr (fun tE ht hW => ⟨⟨3, (zk, zn, zi, zt, zs, zr, zd, zy, zm, zc, zv, ze, zo), rfl, by first | (simp only [zStore, zR, yk, yn, yi, yt, ys, yr, yd, yy, ym, yc, yv, ye, yo, b3, b6, b9, b15, eq_self, ↓reduceIte, Bool.false_eq_true, Bool.not_false, Bool.not_true, Bool.and_true, Bool.and_false, Bool.true_and, Bool.false_and, decide_true, decide_false] <;> first | done | decide) | (simp [zStore, zR, yk, yn, yi, yt, ys, yr, yd, yy, ym, yc, yv, ye, yo, b3, b6, b9, b15]; done), by rw [ht]; exact hP, va_K.moved hW.alike hK, hD⟩, hS.F ht⟩) hS.2.2 dY_store_47
      · refine lv_if_ne (tgt := 32) hx hb dY_store_27 (by decide) (fun cz => absurd cz (by decide)) (fun _ => ?_)
        refine lv_iconst (v := 4) hx hb dY_store_30 (by decide) ?_
        exact W.iret (v := 4) hx hb hr (fun tE ht hW => ⟨⟨4, (zk, zn, zi, zt, zs, zr, zd, zy, zm, zc, zv, ze, zo), rfl, by first | (simp only [zStore, zR, yk, yn, yi, yt, ys, yr, yd, yy, ym, yc, yv, ye, yo, b3, b6, b9, eq_self, ↓reduceIte, Bool.false_eq_true, Bool.not_false, Bool.not_true, Bool.and_true, Bool.and_false, Bool.true_and, Bool.false_and, decide_true, decide_false] <;> first | done | decide) | (simp [zStore, zR, yk, yn, yi, yt, ys, yr, yd, yy, ym, yc, yv, ye, yo, b3, b6, b9]; done), by rw [ht]; exact hP, va_K.moved hW.alike hK, hD⟩, hS.F ht⟩) hS.2.2 dY_store_31
    · refine lv_if_ne (tgt := 21) hx hb dY_store_16 (by decide) (fun cz => absurd cz (by decide)) (fun _ => ?_)
      refine lv_iconst (v := (-1)) hx hb dY_store_19 (by decide) ?_
      exact W.iret (v := (-1)) hx hb hr (fun tE ht hW => ⟨⟨(-1), (zk, zn, zi, zt, zs, zr, zd, zy, zm, zc, zv, ze, zo), rfl, by first | (simp only [zStore, zR, yk, yn, yi, yt, ys, yr, yd, yy, ym, yc, yv, ye, yo, b3, b6, eq_self, ↓reduceIte, Bool.false_eq_true, Bool.not_false, Bool.not_true, Bool.and_true, Bool.and_false, Bool.true_and, Bool.false_and, decide_true, decide_false] <;> first | done | decide) | (simp [zStore, zR, yk, yn, yi, yt, ys, yr, yd, yy, ym, yc, yv, ye, yo, b3, b6]; done), by rw [ht]; exact hP, va_K.moved hW.alike hK, hD⟩, hS.F ht⟩) hS.2.2 dY_store_20
  · refine lv_if_eq (tgt := 19) hx hb dY_store_6 (by decide) (fun _ => ?_) (fun cz => absurd cz (by decide))
    refine lv_iconst (v := (-1)) hx hb dY_store_19 (by decide) ?_
    exact W.iret (v := (-1)) hx hb hr (fun tE ht hW => ⟨⟨(-1), (zk, zn, zi, zt, zs, zr, zd, zy, zm, zc, zv, ze, zo), rfl, by first | (simp only [zStore, zR, yk, yn, yi, yt, ys, yr, yd, yy, ym, yc, yv, ye, yo, b3, eq_self, ↓reduceIte, Bool.false_eq_true, Bool.not_false, Bool.not_true, Bool.and_true, Bool.and_false, Bool.true_and, Bool.false_and, decide_true, decide_false] <;> first | done | decide) | (simp [zStore, zR, yk, yn, yi, yt, ys, yr, yd, yy, ym, yc, yv, ye, yo, b3]; done), by rw [ht]; exact hP, va_K.moved hW.alike hK, hD⟩, hS.F ht⟩) hS.2.2 dY_store_20
set_option maxHeartbeats 8000000 in
set_option maxRecDepth 100000 in
theorem j_load (l : Launch) (D : va_G) (G : YF) (v : YS) (hok : yOk v) (sz : Nat) (p0 p1 p2 : Int32) : Met l yY_load wY_load ({ frames := 1, cells := 0, slots := 0, locals := 22 }) (yPc D G v sz [.ref G.1, .int p0, .int p1, .int p2]) (va_Qi (fun (r : Int32) (w : YS) => (r, w) = zLoad v p0 p1 p2) (yB D G (va_A (yW G v) sz)) (va_A (yW G v) sz)) 0 0 (va_A (yW G v) sz) := by
  obtain ⟨zk, zn, zi, zt, zs, zr, zd, zy, zm, zc, zv, ze, zo⟩ := v
  refine Met.ofW (cc := cY_load) (maxL := 4) (ret := (Option.some Jvm.ClassFile.FieldType.int)) (by decide) rfl ?_
  intro p e s m args below meth c s₁ B hml hv
  obtain ⟨rfl, hsz, hP, hK, hD0⟩ := hv
  have hx := B.exec
  have hb := B.bytes
  have hr := B.returns
  have hts := atoms_spec (ws := wY_load) B.pre
  have hty : ∀ w ∈ yAll, w.before _ s = true := fun w h => hts w (List.mem_cons_of_mem _ h)
  have hown : s.vm.findClass RY = some m.cls := findClass_of_methodNamed B.named
  have hlocks := B.notSynchronized
  subst hsz
  have hD := hD0.self (sz := s.heap.size)
  generalize hAe : va_A (yW G (zk, zn, zi, zt, zs, zr, zd, zy, zm, zc, zv, ze, zo)) s.heap.size = A at hD ⊢
  have hA : ∀ q : Nat, s.heap.size ≤ q → A q := fun q h => by rw [← hAe]; exact Or.inr h
  have hS : va_S A s.heap s.heap [] := va_S.rf
  refine xHeap (C := fun H => va_P D vwCl (yW G (zk, zn, zi, zt, zs, zr, zd, zy, zm, zc, zv, ze, zo)) H ∧ va_S A s.heap H []) ⟨hP, hS⟩ (fun H hC => ?_)
  obtain ⟨hP, hS⟩ := hC
  have hl := lv_entry ([.ref G.1, .int p0, .int p1, .int p2]) (n := 4) (Nat.le_of_ble_eq_true rfl)
  rw [lg_entry_eq]
  generalize (lg_sl ([.ref G.1, .int p0, .int p1, .int p2]) ++ List.replicate (4 - (lg_sl ([.ref G.1, .int p0, .int p1, .int p2])).length) Slot.unset).toArray = ls at hl ⊢
  have hl : lv_has ls 4 [(0, .ref G.1), (1, .int p0), (2, .int p1), (3, .int p2)] := hl
  refine lv_iload_n hx hb dY_load_0 rfl (lv_at hl 1 rfl) ?_
  refine lv_iconst (v := 0) hx hb dY_load_1 (by decide) ?_
  refine lv_iconst (v := 3) hx hb dY_load_2 (by decide) ?_
  refine vp_callSi (va_Run.run (va_runS (As := [.int p0, .int 0, .int 3]) (rest := []) ⟨hx, hb, hml, hown, hts⟩ (j_inn l p0 0 3) (va_cwS 3 hts (yS ylY_48 ym_inn yini yc_inn) rfl rfl rfl (by decide +kernel) ⟨Nat.le_of_ble_eq_true rfl, Nat.le_of_ble_eq_true rfl⟩) preEq rfl rfl hl.1 rfl (lv_room (Nat.le_of_ble_eq_true rfl)) dY_load_3 ⟨Nat.le_of_ble_eq_true rfl, Nat.le_of_ble_eq_true rfl⟩)) (fun r1 hw2 => ?_)
  rcases bI_c hw2 with ⟨rfl, b3⟩ | ⟨rfl, b3⟩
  · refine lv_if_eq (tgt := 19) hx hb dY_load_6 (by decide) (fun cz => absurd cz (by decide)) (fun _ => ?_)
    refine lv_iload_n hx hb dY_load_9 rfl (lv_at hl 3 rfl) ?_
    refine lv_iconst (v := 0) hx hb dY_load_10 (by decide) ?_
    refine lv_bipush (v := 7) hx hb dY_load_11 (by decide) ?_
    refine vp_callSi (va_Run.run (va_runS (As := [.int p2, .int 0, .int 7]) (rest := []) ⟨hx, hb, hml, hown, hts⟩ (j_inn l p2 0 7) (va_cwS 3 hts (yS ylY_48 ym_inn yini yc_inn) rfl rfl rfl (by decide +kernel) ⟨Nat.le_of_ble_eq_true rfl, Nat.le_of_ble_eq_true rfl⟩) preEq rfl rfl hl.1 rfl (lv_room (Nat.le_of_ble_eq_true rfl)) dY_load_13 ⟨Nat.le_of_ble_eq_true rfl, Nat.le_of_ble_eq_true rfl⟩)) (fun r4 hw5 => ?_)
    rcases bI_c hw5 with ⟨rfl, b6⟩ | ⟨rfl, b6⟩
    · refine lv_if_ne (tgt := 21) hx hb dY_load_16 (by decide) (fun _ => ?_) (fun cz => absurd cz (by decide))
      refine lv_iload_n hx hb dY_load_21 rfl (lv_at hl 2 rfl) ?_
      refine lv_iconst (v := 0) hx hb dY_load_22 (by decide) ?_
      refine lv_iconst (v := 3) hx hb dY_load_23 (by decide) ?_
      refine vp_callSi (va_Run.run (va_runS (As := [.int p1, .int 0, .int 3]) (rest := []) ⟨hx, hb, hml, hown, hts⟩ (j_inn l p1 0 3) (va_cwS 3 hts (yS ylY_48 ym_inn yini yc_inn) rfl rfl rfl (by decide +kernel) ⟨Nat.le_of_ble_eq_true rfl, Nat.le_of_ble_eq_true rfl⟩) preEq rfl rfl hl.1 rfl (lv_room (Nat.le_of_ble_eq_true rfl)) dY_load_24 ⟨Nat.le_of_ble_eq_true rfl, Nat.le_of_ble_eq_true rfl⟩)) (fun r7 hw8 => ?_)
      rcases bI_c hw8 with ⟨rfl, b9⟩ | ⟨rfl, b9⟩
      · refine lv_if_ne (tgt := 32) hx hb dY_load_27 (by decide) (fun _ => ?_) (fun cz => absurd cz (by decide))
        refine lv_aload_n hx hb dY_load_32 rfl (lv_at hl 0 rfl) ?_
        refine va_get (D := D) (ci := 2) (v := .ref G.2.2.2.2.1) (C := RY) (T := TY) (N := 13) hx hb hty inY hown hK hP 0 rfl rfl 4 (by decide) (hty _ yf_23) (fun _ h9 => h9) rfl dY_load_33 ?_
        refine lv_iload_n hx hb dY_load_36 rfl (lv_at hl 3 rfl) ?_
        refine lv_aload_n hx hb dY_load_37 rfl (lv_at hl 0 rfl) ?_
        refine va_get (D := D) (ci := 2) (v := .ref G.2.2.2.2.2.1) (C := RY) (T := TY) (N := 13) hx hb hty inY hown hK hP 0 rfl rfl 5 (by decide) (hty _ yf_26) (fun _ h9 => h9) rfl dY_load_38 ?_
        refine lv_iconst (v := 4) hx hb dY_load_41 (by decide) ?_
        refine lv_iload_n hx hb dY_load_42 rfl (lv_at hl 1 rfl) ?_
        refine lv_imul hx hb dY_load_43 ?_
        refine lv_iload_n hx hb dY_load_44 rfl (lv_at hl 2 rfl) ?_
        refine lv_iadd hx hb dY_load_45 ?_
        refine va_iald (f := zr) hx hb hK hP 5 4 rfl rfl (rngR (fIn_in3 b3) (fIn_in3 b9)) dY_load_46 ?_
        refine va_iast hx hb hK hP hD hS 4 3 rfl rfl (fIn_in7 b6) dY_load_47 (fun H locs hP hD hS => ?_)
        have hP : va_P D vwCl (yW G (zk, zn, zi, zt, (upd zs p2.toNatClampNeg (zr ((4 * p0) + p1).toNatClampNeg)), zr, zd, zy, zm, zc, zv, ze, zo)) H := hP
        have hD : va_D A (yW G (zk, zn, zi, zt, (upd zs p2.toNatClampNeg (zr ((4 * p0) + p1).toNatClampNeg)), zr, zd, zy, zm, zc, zv, ze, zo)) := hD
        refine lv_iconst (v := 0) hx hb dY_load_48 (by decide) ?_
        exact W.iret (v := 0) hx hb hr (fun tE ht hW => ⟨⟨0, (zk, zn, zi, zt, (upd zs p2.toNatClampNeg (zr ((4 * p0) + p1).toNatClampNeg)), zr, zd, zy, zm, zc, zv, ze, zo), rfl, by first | (simp only [zLoad, zS, yk, yn, yi, yt, ys, yr, yd, yy, ym, yc, yv, ye, yo, b3, b6, b9, eq_self, ↓reduceIte, Bool.false_eq_true, Bool.not_false, Bool.not_true, Bool.and_true, Bool.and_false, Bool.true_and, Bool.false_and, decide_true, decide_false] <;> first | done | decide) | (simp [zLoad, zS, yk, yn, yi, yt, ys, yr, yd, yy, ym, yc, yv, ye, yo, b3, b6, b9]; done), by rw [ht]; exact hP, va_K.moved hW.alike hK, hD⟩, hS.F ht⟩) hS.2.2 dY_load_49
      · refine lv_if_ne (tgt := 32) hx hb dY_load_27 (by decide) (fun cz => absurd cz (by decide)) (fun _ => ?_)
        refine lv_iconst (v := 4) hx hb dY_load_30 (by decide) ?_
        exact W.iret (v := 4) hx hb hr (fun tE ht hW => ⟨⟨4, (zk, zn, zi, zt, zs, zr, zd, zy, zm, zc, zv, ze, zo), rfl, by first | (simp only [zLoad, zS, yk, yn, yi, yt, ys, yr, yd, yy, ym, yc, yv, ye, yo, b3, b6, b9, eq_self, ↓reduceIte, Bool.false_eq_true, Bool.not_false, Bool.not_true, Bool.and_true, Bool.and_false, Bool.true_and, Bool.false_and, decide_true, decide_false] <;> first | done | decide) | (simp [zLoad, zS, yk, yn, yi, yt, ys, yr, yd, yy, ym, yc, yv, ye, yo, b3, b6, b9]; done), by rw [ht]; exact hP, va_K.moved hW.alike hK, hD⟩, hS.F ht⟩) hS.2.2 dY_load_31
    · refine lv_if_ne (tgt := 21) hx hb dY_load_16 (by decide) (fun cz => absurd cz (by decide)) (fun _ => ?_)
      refine lv_iconst (v := (-1)) hx hb dY_load_19 (by decide) ?_
      exact W.iret (v := (-1)) hx hb hr (fun tE ht hW => ⟨⟨(-1), (zk, zn, zi, zt, zs, zr, zd, zy, zm, zc, zv, ze, zo), rfl, by first | (simp only [zLoad, zS, yk, yn, yi, yt, ys, yr, yd, yy, ym, yc, yv, ye, yo, b3, b6, eq_self, ↓reduceIte, Bool.false_eq_true, Bool.not_false, Bool.not_true, Bool.and_true, Bool.and_false, Bool.true_and, Bool.false_and, decide_true, decide_false] <;> first | done | decide) | (simp [zLoad, zS, yk, yn, yi, yt, ys, yr, yd, yy, ym, yc, yv, ye, yo, b3, b6]; done), by rw [ht]; exact hP, va_K.moved hW.alike hK, hD⟩, hS.F ht⟩) hS.2.2 dY_load_20
  · refine lv_if_eq (tgt := 19) hx hb dY_load_6 (by decide) (fun _ => ?_) (fun cz => absurd cz (by decide))
    refine lv_iconst (v := (-1)) hx hb dY_load_19 (by decide) ?_
    exact W.iret (v := (-1)) hx hb hr (fun tE ht hW => ⟨⟨(-1), (zk, zn, zi, zt, zs, zr, zd, zy, zm, zc, zv, ze, zo), rfl, by first | (simp only [zLoad, zS, yk, yn, yi, yt, ys, yr, yd, yy, ym, yc, yv, ye, yo, b3, eq_self, ↓reduceIte, Bool.false_eq_true, Bool.not_false, Bool.not_true, Bool.and_true, Bool.and_false, Bool.true_and, Bool.false_and, decide_true, decide_false] <;> first | done | decide) | (simp [zLoad, zS, yk, yn, yi, yt, ys, yr, yd, yy, ym, yc, yv, ye, yo, b3]; done), by rw [ht]; exact hP, va_K.moved hW.alike hK, hD⟩, hS.F ht⟩) hS.2.2 dY_load_20
set_option maxHeartbeats 8000000 in
set_option maxRecDepth 100000 in
theorem j_compare (l : Launch) (D : va_G) (G : YF) (v : YS) (hok : yOk v) (sz : Nat) (p0 p1 : Int32) : Met l yY_compare wY_compare ({ frames := 1, cells := 0, slots := 0, locals := 22 }) (yPc D G v sz [.ref G.1, .int p0, .int p1]) (va_Qi (fun (r : Int32) (w : YS) => (r, w) = zComp v p0 p1) (yB D G (va_A (yW G v) sz)) (va_A (yW G v) sz)) 0 0 (va_A (yW G v) sz) := by
  obtain ⟨zk, zn, zi, zt, zs, zr, zd, zy, zm, zc, zv, ze, zo⟩ := v
  refine Met.ofW (cc := cY_compare) (maxL := 5) (ret := (Option.some Jvm.ClassFile.FieldType.int)) (by decide) rfl ?_
  intro p e s m args below meth c s₁ B hml hv
  obtain ⟨rfl, hsz, hP, hK, hD0⟩ := hv
  have hx := B.exec
  have hb := B.bytes
  have hr := B.returns
  have hts := atoms_spec (ws := wY_compare) B.pre
  have hty : ∀ w ∈ yAll, w.before _ s = true := fun w h => hts w (List.mem_cons_of_mem _ h)
  have hown : s.vm.findClass RY = some m.cls := findClass_of_methodNamed B.named
  have hlocks := B.notSynchronized
  subst hsz
  have hD := hD0.self (sz := s.heap.size)
  generalize hAe : va_A (yW G (zk, zn, zi, zt, zs, zr, zd, zy, zm, zc, zv, ze, zo)) s.heap.size = A at hD ⊢
  have hA : ∀ q : Nat, s.heap.size ≤ q → A q := fun q h => by rw [← hAe]; exact Or.inr h
  have hS : va_S A s.heap s.heap [] := va_S.rf
  refine xHeap (C := fun H => va_P D vwCl (yW G (zk, zn, zi, zt, zs, zr, zd, zy, zm, zc, zv, ze, zo)) H ∧ va_S A s.heap H []) ⟨hP, hS⟩ (fun H hC => ?_)
  obtain ⟨hP, hS⟩ := hC
  have hl := lv_entry ([.ref G.1, .int p0, .int p1]) (n := 5) (Nat.le_of_ble_eq_true rfl)
  rw [lg_entry_eq]
  generalize (lg_sl ([.ref G.1, .int p0, .int p1]) ++ List.replicate (5 - (lg_sl ([.ref G.1, .int p0, .int p1])).length) Slot.unset).toArray = ls at hl ⊢
  have hl : lv_has ls 5 [(0, .ref G.1), (1, .int p0), (2, .int p1)] := hl
  refine lv_iload_n hx hb dY_compare_0 rfl (lv_at hl 1 rfl) ?_
  refine lv_iconst (v := 0) hx hb dY_compare_1 (by decide) ?_
  refine lv_bipush (v := 7) hx hb dY_compare_2 (by decide) ?_
  refine vp_callSi (va_Run.run (va_runS (As := [.int p0, .int 0, .int 7]) (rest := []) ⟨hx, hb, hml, hown, hts⟩ (j_inn l p0 0 7) (va_cwS 3 hts (yS ylY_48 ym_inn yini yc_inn) rfl rfl rfl (by decide +kernel) ⟨Nat.le_of_ble_eq_true rfl, Nat.le_of_ble_eq_true rfl⟩) preEq rfl rfl hl.1 rfl (lv_room (Nat.le_of_ble_eq_true rfl)) dY_compare_4 ⟨Nat.le_of_ble_eq_true rfl, Nat.le_of_ble_eq_true rfl⟩)) (fun r1 hw2 => ?_)
  rcases bI_c hw2 with ⟨rfl, b3⟩ | ⟨rfl, b3⟩
  · refine lv_if_eq (tgt := 20) hx hb dY_compare_7 (by decide) (fun cz => absurd cz (by decide)) (fun _ => ?_)
    refine lv_iload_n hx hb dY_compare_10 rfl (lv_at hl 2 rfl) ?_
    refine lv_iconst (v := 0) hx hb dY_compare_11 (by decide) ?_
    refine lv_bipush (v := 7) hx hb dY_compare_12 (by decide) ?_
    refine vp_callSi (va_Run.run (va_runS (As := [.int p1, .int 0, .int 7]) (rest := []) ⟨hx, hb, hml, hown, hts⟩ (j_inn l p1 0 7) (va_cwS 3 hts (yS ylY_48 ym_inn yini yc_inn) rfl rfl rfl (by decide +kernel) ⟨Nat.le_of_ble_eq_true rfl, Nat.le_of_ble_eq_true rfl⟩) preEq rfl rfl hl.1 rfl (lv_room (Nat.le_of_ble_eq_true rfl)) dY_compare_14 ⟨Nat.le_of_ble_eq_true rfl, Nat.le_of_ble_eq_true rfl⟩)) (fun r4 hw5 => ?_)
    rcases bI_c hw5 with ⟨rfl, b6⟩ | ⟨rfl, b6⟩
    · refine lv_if_ne (tgt := 22) hx hb dY_compare_17 (by decide) (fun _ => ?_) (fun cz => absurd cz (by decide))
      refine lv_aload_n hx hb dY_compare_22 rfl (lv_at hl 0 rfl) ?_
      refine va_get (D := D) (ci := 2) (v := .ref G.2.2.2.2.1) (C := RY) (T := TY) (N := 13) hx hb hty inY hown hK hP 0 rfl rfl 4 (by decide) (hty _ yf_23) (fun _ h9 => h9) rfl dY_compare_23 ?_
      refine lv_iload_n hx hb dY_compare_26 rfl (lv_at hl 1 rfl) ?_
      refine va_iald (f := zs) hx hb hK hP 4 3 rfl rfl (fIn_in7 b3) dY_compare_27 ?_
      refine lv_if_eq (tgt := 40) hx hb dY_compare_28 (by decide) (fun c7 => ?_) (fun c7 => ?_)
      · refine lv_iconst (v := 2) hx hb dY_compare_40 (by decide) ?_
        exact W.iret (v := 2) hx hb hr (fun tE ht hW => ⟨⟨2, (zk, zn, zi, zt, zs, zr, zd, zy, zm, zc, zv, ze, zo), rfl, by first | (simp only [zComp, zV, yk, yn, yi, yt, ys, yr, yd, yy, ym, yc, yv, ye, yo, b3, b6, eq_true c7, eq_self, ↓reduceIte, Bool.false_eq_true, Bool.not_false, Bool.not_true, Bool.and_true, Bool.and_false, Bool.true_and, Bool.false_and, decide_true, decide_false] <;> first | done | decide) | (simp only [zComp, zV, yk, yn, yi, yt, ys, yr, yd, yy, ym, yc, yv, ye, yo, b3, b6, c7, eq_self, ↓reduceIte, Bool.false_eq_true, Bool.not_false, Bool.not_true, Bool.and_true, Bool.and_false, Bool.true_and, Bool.false_and, decide_true, decide_false] <;> first | done | decide) | (simp [zComp, zV, yk, yn, yi, yt, ys, yr, yd, yy, ym, yc, yv, ye, yo, b3, b6, c7]; done) | (simp [zComp, zV, yk, yn, yi, yt, ys, yr, yd, yy, ym, yc, yv, ye, yo, b3, b6, eq_true c7]; done), by rw [ht]; exact hP, va_K.moved hW.alike hK, hD⟩, hS.F ht⟩) hS.2.2 dY_compare_41
      · refine lv_aload_n hx hb dY_compare_31 rfl (lv_at hl 0 rfl) ?_
        refine va_get (D := D) (ci := 2) (v := .ref G.2.2.2.2.1) (C := RY) (T := TY) (N := 13) hx hb hty inY hown hK hP 0 rfl rfl 4 (by decide) (hty _ yf_23) (fun _ h9 => h9) rfl dY_compare_32 ?_
        refine lv_iload_n hx hb dY_compare_35 rfl (lv_at hl 2 rfl) ?_
        refine va_iald (f := zs) hx hb hK hP 4 3 rfl rfl (fIn_in7 b6) dY_compare_36 ?_
        refine lv_if_ne (tgt := 42) hx hb dY_compare_37 (by decide) (fun c8 => ?_) (fun c8 => ?_)
        · refine lv_aload_n hx hb dY_compare_42 rfl (lv_at hl 0 rfl) ?_
          refine lv_aload_n hx hb dY_compare_43 rfl (lv_at hl 0 rfl) ?_
          refine va_get (D := D) (ci := 2) (v := .ref G.2.2.2.2.1) (C := RY) (T := TY) (N := 13) hx hb hty inY hown hK hP 0 rfl rfl 4 (by decide) (hty _ yf_23) (fun _ h9 => h9) rfl dY_compare_44 ?_
          refine lv_iload_n hx hb dY_compare_47 rfl (lv_at hl 1 rfl) ?_
          refine va_iald (f := zs) hx hb hK hP 4 3 rfl rfl (fIn_in7 b3) dY_compare_48 ?_
          refine lv_iconst (v := 3) hx hb dY_compare_49 (by decide) ?_
          have hf9 := xFree hD hS hA
          refine va_calli (va_runV (As := [.int (zs p0.toNatClampNeg), .int 3]) (rest := []) ⟨hx, hb, hml, hown, hts⟩ (j_of l D G (zk, zn, zi, zt, zs, zr, zd, zy, zm, zc, zv, ze, zo)  H.size (zs p0.toNatClampNeg) 3 (hok.2.2.1 _) (hok.1 _)) (cwV 2 hts (yV ylY_60 ym_of ys_of yc_of) rfl rfl rfl (by decide +kernel) ⟨Nat.le_of_ble_eq_true rfl, Nat.le_of_ble_eq_true rfl⟩) (yPre hK hP hD _) rfl rfl hl.1 rfl (lv_room (Nat.le_of_ble_eq_true rfl)) dY_compare_50 ⟨Nat.le_of_ble_eq_true rfl, Nat.le_of_ble_eq_true rfl⟩) hS (fun q _ h => hf9 q h) hf9 (fun r10 v11 t13 H1 locs ht hvm hw12 hB hz1 hk1 hS => ?_)
          obtain ⟨hP1, hK1, hD1⟩ := hB
          rw [ht] at hP1
          replace hD1 := hD1.weaken (fun _ _ _ h => hf9 _ h)
          generalize H1 = H at hP1 hS ⊢
          obtain ⟨zhw12, rfl⟩ := Prod.mk.inj (show (r10, v11) = (bI (fOf (zk, zn, zi, zt, zs, zr, zd, zy, zm, zc, zv, ze, zo) (zs p0.toNatClampNeg) 3), (zk, zn, zi, zt, zs, zr, zd, zy, zm, zc, zv, ze, zo)) from hw12)
          have hP : va_P D vwCl (yW G (zk, zn, zi, zt, zs, zr, zd, zy, zm, zc, zv, ze, zo)) H := hP1
          have hD : va_D A (yW G (zk, zn, zi, zt, zs, zr, zd, zy, zm, zc, zv, ze, zo)) := hD1
          rcases bI_c zhw12 with ⟨rfl, b14⟩ | ⟨rfl, b14⟩
          · refine lv_if_eq (tgt := 70) hx hb dY_compare_53 (by decide) (fun cz => absurd cz (by decide)) (fun _ => ?_)
            refine lv_aload_n hx hb dY_compare_56 rfl (lv_at hl 0 rfl) ?_
            refine lv_aload_n hx hb dY_compare_57 rfl (lv_at hl 0 rfl) ?_
            refine va_get (D := D) (ci := 2) (v := .ref G.2.2.2.2.1) (C := RY) (T := TY) (N := 13) hx hb hty inY hown hK hP 0 rfl rfl 4 (by decide) (hty _ yf_23) (fun _ h9 => h9) rfl dY_compare_58 ?_
            refine lv_iload_n hx hb dY_compare_61 rfl (lv_at hl 2 rfl) ?_
            refine va_iald (f := zs) hx hb hK hP 4 3 rfl rfl (fIn_in7 b6) dY_compare_62 ?_
            refine lv_iconst (v := 3) hx hb dY_compare_63 (by decide) ?_
            have hf15 := xFree hD hS hA
            refine va_calli (va_runV (As := [.int (zs p1.toNatClampNeg), .int 3]) (rest := []) ⟨hx, hb, hml, hown, hts⟩ (j_of l D G (zk, zn, zi, zt, zs, zr, zd, zy, zm, zc, zv, ze, zo)  H.size (zs p1.toNatClampNeg) 3 (hok.2.2.1 _) (hok.1 _)) (cwV 2 hts (yV ylY_60 ym_of ys_of yc_of) rfl rfl rfl (by decide +kernel) ⟨Nat.le_of_ble_eq_true rfl, Nat.le_of_ble_eq_true rfl⟩) (yPre hK hP hD _) rfl rfl hl.1 rfl (lv_room (Nat.le_of_ble_eq_true rfl)) dY_compare_64 ⟨Nat.le_of_ble_eq_true rfl, Nat.le_of_ble_eq_true rfl⟩) hS (fun q _ h => hf15 q h) hf15 (fun r16 v17 t19 H1 locs ht hvm hw18 hB hz1 hk1 hS => ?_)
            obtain ⟨hP1, hK1, hD1⟩ := hB
            rw [ht] at hP1
            replace hD1 := hD1.weaken (fun _ _ _ h => hf15 _ h)
            generalize H1 = H at hP1 hS ⊢
            obtain ⟨zhw18, rfl⟩ := Prod.mk.inj (show (r16, v17) = (bI (fOf (zk, zn, zi, zt, zs, zr, zd, zy, zm, zc, zv, ze, zo) (zs p1.toNatClampNeg) 3), (zk, zn, zi, zt, zs, zr, zd, zy, zm, zc, zv, ze, zo)) from hw18)
            have hP : va_P D vwCl (yW G (zk, zn, zi, zt, zs, zr, zd, zy, zm, zc, zv, ze, zo)) H := hP1
            have hD : va_D A (yW G (zk, zn, zi, zt, zs, zr, zd, zy, zm, zc, zv, ze, zo)) := hD1
            rcases bI_c zhw18 with ⟨rfl, b20⟩ | ⟨rfl, b20⟩
            · refine lv_if_ne (tgt := 72) hx hb dY_compare_67 (by decide) (fun _ => ?_) (fun cz => absurd cz (by decide))
              refine lv_aload_n hx hb dY_compare_72 rfl (lv_at hl 0 rfl) ?_
              refine va_get (D := D) (ci := 2) (v := .ref G.2.2.1) (C := RY) (T := TY) (N := 13) hx hb hty inY hown hK hP 0 rfl rfl 1 (by decide) (hty _ yf_13) (fun _ h9 => h9) rfl dY_compare_73 ?_
              refine lv_aload_n hx hb dY_compare_76 rfl (lv_at hl 0 rfl) ?_
              refine va_get (D := D) (ci := 2) (v := .ref G.2.2.2.2.1) (C := RY) (T := TY) (N := 13) hx hb hty inY hown hK hP 0 rfl rfl 4 (by decide) (hty _ yf_23) (fun _ h9 => h9) rfl dY_compare_77 ?_
              refine lv_iload_n hx hb dY_compare_80 rfl (lv_at hl 1 rfl) ?_
              refine va_iald (f := zs) hx hb hK hP 4 3 rfl rfl (fIn_in7 b3) dY_compare_81 ?_
              refine va_iald (f := zn) hx hb hK hP 2 1 rfl rfl (hok.2.2.1 _) dY_compare_82 ?_
              refine lv_istore_n (lv' := [(3, .int (zn (zs p0.toNatClampNeg).toNatClampNeg)), (0, .ref G.1), (1, .int p0), (2, .int p1)]) hx hb dY_compare_83 rfl hl (by decide) rfl (fun ls hl => ?_)
              refine lv_aload_n hx hb dY_compare_84 rfl (lv_at hl 1 rfl) ?_
              refine va_get (D := D) (ci := 2) (v := .ref G.2.2.1) (C := RY) (T := TY) (N := 13) hx hb hty inY hown hK hP 0 rfl rfl 1 (by decide) (hty _ yf_13) (fun _ h9 => h9) rfl dY_compare_85 ?_
              refine lv_aload_n hx hb dY_compare_88 rfl (lv_at hl 1 rfl) ?_
              refine va_get (D := D) (ci := 2) (v := .ref G.2.2.2.2.1) (C := RY) (T := TY) (N := 13) hx hb hty inY hown hK hP 0 rfl rfl 4 (by decide) (hty _ yf_23) (fun _ h9 => h9) rfl dY_compare_89 ?_
              refine lv_iload_n hx hb dY_compare_92 rfl (lv_at hl 3 rfl) ?_
              refine va_iald (f := zs) hx hb hK hP 4 3 rfl rfl (fIn_in7 b6) dY_compare_93 ?_
              refine va_iald (f := zn) hx hb hK hP 2 1 rfl rfl (hok.2.2.1 _) dY_compare_94 ?_
              refine lv_istore (lv' := [(4, .int (zn (zs p1.toNatClampNeg).toNatClampNeg)), (3, .int (zn (zs p0.toNatClampNeg).toNatClampNeg)), (0, .ref G.1), (1, .int p0), (2, .int p1)]) hx hb dY_compare_95 hl (by decide) rfl (fun ls hl => ?_)
              refine lv_aload_n hx hb dY_compare_97 rfl (lv_at hl 2 rfl) ?_
              refine lv_iload_n hx hb dY_compare_98 rfl (lv_at hl 1 rfl) ?_
              refine lv_iload hx hb dY_compare_99 (lv_at hl 0 rfl) ?_
              refine lv_icmp_ge (tgt := 108) hx hb dY_compare_101 (by decide) (fun c21 => ?_) (fun c21 => ?_)
              · refine lv_iload_n hx hb dY_compare_108 rfl (lv_at hl 1 rfl) ?_
                refine lv_iload hx hb dY_compare_109 (lv_at hl 0 rfl) ?_
                refine lv_icmp_le (tgt := 118) hx hb dY_compare_111 (by decide) (fun c22 => ?_) (fun c22 => ?_)
                · refine lv_iconst (v := 0) hx hb dY_compare_118 (by decide) ?_
                  refine va_put (D := D) (ci := 2) (v := .int 0) (ty := .int) (C := RY) (T := TY) (N := 13) hx hb hty inY tyY tyY_ok nmY hown hK hP hD hS 0 rfl rfl 10 (by decide) (hty _ yf_86) (fun _ h9 => h9) rfl (by decide +kernel) rfl rfl (Nat.le_of_ble_eq_true rfl) dY_compare_119 (fun H locs hP hD hS => ?_)
                  have hP : va_P D vwCl (yW G (zk, zn, zi, zt, zs, zr, zd, zy, zm, zc, 0, ze, zo)) H := hP
                  have hD : va_D A (yW G (zk, zn, zi, zt, zs, zr, zd, zy, zm, zc, 0, ze, zo)) := hD
                  refine lv_iconst (v := 0) hx hb dY_compare_122 (by decide) ?_
                  exact W.iret (v := 0) hx hb hr (fun tE ht hW => ⟨⟨0, (zk, zn, zi, zt, zs, zr, zd, zy, zm, zc, 0, ze, zo), rfl, by first | (simp only [zComp, zV, yk, yn, yi, yt, ys, yr, yd, yy, ym, yc, yv, ye, yo, b3, b6, c7, c8, b14, b20, eq_true c21, eq_true c22, eq_self, ↓reduceIte, Bool.false_eq_true, Bool.not_false, Bool.not_true, Bool.and_true, Bool.and_false, Bool.true_and, Bool.false_and, decide_true, decide_false] <;> first | done | decide) | (simp only [zComp, zV, yk, yn, yi, yt, ys, yr, yd, yy, ym, yc, yv, ye, yo, b3, b6, c7, c8, b14, b20, c21, c22, eq_self, ↓reduceIte, Bool.false_eq_true, Bool.not_false, Bool.not_true, Bool.and_true, Bool.and_false, Bool.true_and, Bool.false_and, decide_true, decide_false] <;> first | done | decide) | (simp [zComp, zV, yk, yn, yi, yt, ys, yr, yd, yy, ym, yc, yv, ye, yo, b3, b6, c7, c8, b14, b20, c21, c22]; done) | (simp [zComp, zV, yk, yn, yi, yt, ys, yr, yd, yy, ym, yc, yv, ye, yo, b3, b6, c7, c8, b14, b20, eq_true c21, eq_true c22]; done), by rw [ht]; exact hP, va_K.moved hW.alike hK, hD⟩, hS.F ht⟩) hS.2.2 dY_compare_123
                · refine lv_iconst (v := 1) hx hb dY_compare_114 (by decide) ?_
                  refine lv_goto (tgt := 119) hx hb dY_compare_115 (by decide) ?_
                  refine va_put (D := D) (ci := 2) (v := .int 1) (ty := .int) (C := RY) (T := TY) (N := 13) hx hb hty inY tyY tyY_ok nmY hown hK hP hD hS 0 rfl rfl 10 (by decide) (hty _ yf_86) (fun _ h9 => h9) rfl (by decide +kernel) rfl rfl (Nat.le_of_ble_eq_true rfl) dY_compare_119 (fun H locs hP hD hS => ?_)
                  have hP : va_P D vwCl (yW G (zk, zn, zi, zt, zs, zr, zd, zy, zm, zc, 1, ze, zo)) H := hP
                  have hD : va_D A (yW G (zk, zn, zi, zt, zs, zr, zd, zy, zm, zc, 1, ze, zo)) := hD
                  refine lv_iconst (v := 0) hx hb dY_compare_122 (by decide) ?_
                  exact W.iret (v := 0) hx hb hr (fun tE ht hW => ⟨⟨0, (zk, zn, zi, zt, zs, zr, zd, zy, zm, zc, 1, ze, zo), rfl, by first | (simp only [zComp, zV, yk, yn, yi, yt, ys, yr, yd, yy, ym, yc, yv, ye, yo, b3, b6, c7, c8, b14, b20, eq_true c21, c22, eq_self, ↓reduceIte, Bool.false_eq_true, Bool.not_false, Bool.not_true, Bool.and_true, Bool.and_false, Bool.true_and, Bool.false_and, decide_true, decide_false] <;> first | done | decide) | (simp only [zComp, zV, yk, yn, yi, yt, ys, yr, yd, yy, ym, yc, yv, ye, yo, b3, b6, c7, c8, b14, b20, c21, c22, eq_self, ↓reduceIte, Bool.false_eq_true, Bool.not_false, Bool.not_true, Bool.and_true, Bool.and_false, Bool.true_and, Bool.false_and, decide_true, decide_false] <;> first | done | decide) | (simp [zComp, zV, yk, yn, yi, yt, ys, yr, yd, yy, ym, yc, yv, ye, yo, b3, b6, c7, c8, b14, b20, c21, c22]; done) | (simp [zComp, zV, yk, yn, yi, yt, ys, yr, yd, yy, ym, yc, yv, ye, yo, b3, b6, c7, c8, b14, b20, eq_true c21, c22]; done), by rw [ht]; exact hP, va_K.moved hW.alike hK, hD⟩, hS.F ht⟩) hS.2.2 dY_compare_123
              · refine lv_iconst (v := (-1)) hx hb dY_compare_104 (by decide) ?_
                refine lv_goto (tgt := 119) hx hb dY_compare_105 (by decide) ?_
                refine va_put (D := D) (ci := 2) (v := .int (-1)) (ty := .int) (C := RY) (T := TY) (N := 13) hx hb hty inY tyY tyY_ok nmY hown hK hP hD hS 0 rfl rfl 10 (by decide) (hty _ yf_86) (fun _ h9 => h9) rfl (by decide +kernel) rfl rfl (Nat.le_of_ble_eq_true rfl) dY_compare_119 (fun H locs hP hD hS => ?_)
                have hP : va_P D vwCl (yW G (zk, zn, zi, zt, zs, zr, zd, zy, zm, zc, (-1), ze, zo)) H := hP
                have hD : va_D A (yW G (zk, zn, zi, zt, zs, zr, zd, zy, zm, zc, (-1), ze, zo)) := hD
                refine lv_iconst (v := 0) hx hb dY_compare_122 (by decide) ?_
                exact W.iret (v := 0) hx hb hr (fun tE ht hW => ⟨⟨0, (zk, zn, zi, zt, zs, zr, zd, zy, zm, zc, (-1), ze, zo), rfl, by first | (simp only [zComp, zV, yk, yn, yi, yt, ys, yr, yd, yy, ym, yc, yv, ye, yo, b3, b6, c7, c8, b14, b20, c21, eq_self, ↓reduceIte, Bool.false_eq_true, Bool.not_false, Bool.not_true, Bool.and_true, Bool.and_false, Bool.true_and, Bool.false_and, decide_true, decide_false] <;> first | done | decide) | (simp [zComp, zV, yk, yn, yi, yt, ys, yr, yd, yy, ym, yc, yv, ye, yo, b3, b6, c7, c8, b14, b20, c21]; done), by rw [ht]; exact hP, va_K.moved hW.alike hK, hD⟩, hS.F ht⟩) hS.2.2 dY_compare_123
            · refine lv_if_ne (tgt := 72) hx hb dY_compare_67 (by decide) (fun cz => absurd cz (by decide)) (fun _ => ?_)
              refine lv_iconst (v := 1) hx hb dY_compare_70 (by decide) ?_
              exact W.iret (v := 1) hx hb hr (fun tE ht hW => ⟨⟨1, (zk, zn, zi, zt, zs, zr, zd, zy, zm, zc, zv, ze, zo), rfl, by first | (simp only [zComp, zV, yk, yn, yi, yt, ys, yr, yd, yy, ym, yc, yv, ye, yo, b3, b6, c7, c8, b14, b20, eq_self, ↓reduceIte, Bool.false_eq_true, Bool.not_false, Bool.not_true, Bool.and_true, Bool.and_false, Bool.true_and, Bool.false_and, decide_true, decide_false] <;> first | done | decide) | (simp [zComp, zV, yk, yn, yi, yt, ys, yr, yd, yy, ym, yc, yv, ye, yo, b3, b6, c7, c8, b14, b20]; done), by rw [ht]; exact hP, va_K.moved hW.alike hK, hD⟩, hS.F ht⟩) hS.2.2 dY_compare_71
          · refine lv_if_eq (tgt := 70) hx hb dY_compare_53 (by decide) (fun _ => ?_) (fun cz => absurd cz (by decide))
            refine lv_iconst (v := 1) hx hb dY_compare_70 (by decide) ?_
            exact W.iret (v := 1) hx hb hr (fun tE ht hW => ⟨⟨1, (zk, zn, zi, zt, zs, zr, zd, zy, zm, zc, zv, ze, zo), rfl, by first | (simp only [zComp, zV, yk, yn, yi, yt, ys, yr, yd, yy, ym, yc, yv, ye, yo, b3, b6, c7, c8, b14, eq_self, ↓reduceIte, Bool.false_eq_true, Bool.not_false, Bool.not_true, Bool.and_true, Bool.and_false, Bool.true_and, Bool.false_and, decide_true, decide_false] <;> first | done | decide) | (simp [zComp, zV, yk, yn, yi, yt, ys, yr, yd, yy, ym, yc, yv, ye, yo, b3, b6, c7, c8, b14]; done), by rw [ht]; exact hP, va_K.moved hW.alike hK, hD⟩, hS.F ht⟩) hS.2.2 dY_compare_71
        · refine lv_iconst (v := 2) hx hb dY_compare_40 (by decide) ?_
          exact W.iret (v := 2) hx hb hr (fun tE ht hW => ⟨⟨2, (zk, zn, zi, zt, zs, zr, zd, zy, zm, zc, zv, ze, zo), rfl, by first | (simp only [zComp, zV, yk, yn, yi, yt, ys, yr, yd, yy, ym, yc, yv, ye, yo, b3, b6, c7, eq_true c8, eq_self, ↓reduceIte, Bool.false_eq_true, Bool.not_false, Bool.not_true, Bool.and_true, Bool.and_false, Bool.true_and, Bool.false_and, decide_true, decide_false] <;> first | done | decide) | (simp only [zComp, zV, yk, yn, yi, yt, ys, yr, yd, yy, ym, yc, yv, ye, yo, b3, b6, c7, c8, eq_self, ↓reduceIte, Bool.false_eq_true, Bool.not_false, Bool.not_true, Bool.and_true, Bool.and_false, Bool.true_and, Bool.false_and, decide_true, decide_false] <;> first | done | decide) | (simp [zComp, zV, yk, yn, yi, yt, ys, yr, yd, yy, ym, yc, yv, ye, yo, b3, b6, c7, c8]; done) | (simp [zComp, zV, yk, yn, yi, yt, ys, yr, yd, yy, ym, yc, yv, ye, yo, b3, b6, c7, eq_true c8]; done), by rw [ht]; exact hP, va_K.moved hW.alike hK, hD⟩, hS.F ht⟩) hS.2.2 dY_compare_41
    · refine lv_if_ne (tgt := 22) hx hb dY_compare_17 (by decide) (fun cz => absurd cz (by decide)) (fun _ => ?_)
      refine lv_iconst (v := (-1)) hx hb dY_compare_20 (by decide) ?_
      exact W.iret (v := (-1)) hx hb hr (fun tE ht hW => ⟨⟨(-1), (zk, zn, zi, zt, zs, zr, zd, zy, zm, zc, zv, ze, zo), rfl, by first | (simp only [zComp, zV, yk, yn, yi, yt, ys, yr, yd, yy, ym, yc, yv, ye, yo, b3, b6, eq_self, ↓reduceIte, Bool.false_eq_true, Bool.not_false, Bool.not_true, Bool.and_true, Bool.and_false, Bool.true_and, Bool.false_and, decide_true, decide_false] <;> first | done | decide) | (simp [zComp, zV, yk, yn, yi, yt, ys, yr, yd, yy, ym, yc, yv, ye, yo, b3, b6]; done), by rw [ht]; exact hP, va_K.moved hW.alike hK, hD⟩, hS.F ht⟩) hS.2.2 dY_compare_21
  · refine lv_if_eq (tgt := 20) hx hb dY_compare_7 (by decide) (fun _ => ?_) (fun cz => absurd cz (by decide))
    refine lv_iconst (v := (-1)) hx hb dY_compare_20 (by decide) ?_
    exact W.iret (v := (-1)) hx hb hr (fun tE ht hW => ⟨⟨(-1), (zk, zn, zi, zt, zs, zr, zd, zy, zm, zc, zv, ze, zo), rfl, by first | (simp only [zComp, zV, yk, yn, yi, yt, ys, yr, yd, yy, ym, yc, yv, ye, yo, b3, eq_self, ↓reduceIte, Bool.false_eq_true, Bool.not_false, Bool.not_true, Bool.and_true, Bool.and_false, Bool.true_and, Bool.false_and, decide_true, decide_false] <;> first | done | decide) | (simp [zComp, zV, yk, yn, yi, yt, ys, yr, yd, yy, ym, yc, yv, ye, yo, b3]; done), by rw [ht]; exact hP, va_K.moved hW.alike hK, hD⟩, hS.F ht⟩) hS.2.2 dY_compare_21
