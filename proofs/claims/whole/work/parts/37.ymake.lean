set_option maxHeartbeats 8000000 in
set_option maxRecDepth 100000 in
theorem j_make (l : Launch) (D : va_G) (G : YF) (v : YS) (hok : yOk v) (sz : Nat) (p0 p1 p2 : Int32) (hth : vp_in (yt v + 1) 520) : Met l yY_make wY_make ({ frames := 1, cells := 0, slots := 0, locals := 23 }) (yPc D G v sz [.ref G.1, .int p0, .int p1, .int p2]) (va_Qi (fun (r : Int32) (w : YS) => (r, w) = zMake v p0 p1 p2) (yB D G (va_A (yW G v) sz)) (va_A (yW G v) sz)) 0 0 (va_A (yW G v) sz) := by
  obtain ⟨zk, zn, zi, zt, zs, zr, zd, zy, zm, zc, zv, ze, zo⟩ := v
  refine Met.ofW (cc := cY_make) (maxL := 5) (ret := (Option.some Jvm.ClassFile.FieldType.int)) (by decide) rfl ?_
  intro p e s m args below meth c s₁ B hml hv
  obtain ⟨rfl, hsz, hP, hK, hD0⟩ := hv
  have hx := B.exec
  have hb := B.bytes
  have hr := B.returns
  have hts := atoms_spec (ws := wY_make) B.pre
  have hty : ∀ w ∈ yAll, w.before _ s = true := fun w h => hts w (List.mem_cons_of_mem _ h)
  have hown : s.vm.findClass RY = some m.cls := findClass_of_methodNamed B.named
  have hlocks := B.notSynchronized
  subst hsz
  have hD := hD0.self (sz := s.heap.size)
  generalize hAe : va_A (yW G (zk, zn, zi, zt, zs, zr, zd, zy, zm, zc, zv, ze, zo)) s.heap.size = A at hD ⊢
  have hA : ∀ q : Nat, s.heap.size ≤ q → A q := fun q h => by rw [← hAe]; exact Or.inr h
  have hS : va_S A s.heap s.heap [] := va_S.rf
  refine xHeap (C := fun H => va_P D vwCl (yW G (zk, zn, zi, zt, zs, zr, zd, zy, zm, zc, zv, ze, zo)) H ∧ va_S A s.heap H []) ⟨hP, hS⟩ (fun H hC => ?_)
  obtain ⟨hP, hS⟩ := hC
  have hl := lv_entry ([.ref G.1, .int p0, .int p1, .int p2]) (n := 5) (Nat.le_of_ble_eq_true rfl)
  rw [lg_entry_eq]
  generalize (lg_sl ([.ref G.1, .int p0, .int p1, .int p2]) ++ List.replicate (5 - (lg_sl ([.ref G.1, .int p0, .int p1, .int p2])).length) Slot.unset).toArray = ls at hl ⊢
  have hl : lv_has ls 5 [(0, .ref G.1), (1, .int p0), (2, .int p1), (3, .int p2)] := hl
  refine lv_iload_n hx hb dY_make_0 rfl (lv_at hl 1 rfl) ?_
  refine lv_iconst (v := 0) hx hb dY_make_1 (by decide) ?_
  refine lv_bipush (v := 7) hx hb dY_make_2 (by decide) ?_
  refine vp_callSi (va_Run.run (va_runS (As := [.int p0, .int 0, .int 7]) (rest := []) ⟨hx, hb, hml, hown, hts⟩ (j_inn l p0 0 7) (va_cwS 3 hts (yS ylY_48 ym_inn yini yc_inn) rfl rfl rfl (by decide +kernel) ⟨Nat.le_of_ble_eq_true rfl, Nat.le_of_ble_eq_true rfl⟩) preEq rfl rfl hl.1 rfl (lv_room (Nat.le_of_ble_eq_true rfl)) dY_make_4 ⟨Nat.le_of_ble_eq_true rfl, Nat.le_of_ble_eq_true rfl⟩)) (fun r1 hw2 => ?_)
  rcases bI_c hw2 with ⟨rfl, b3⟩ | ⟨rfl, b3⟩
  · refine lv_if_eq (tgt := 20) hx hb dY_make_7 (by decide) (fun cz => absurd cz (by decide)) (fun _ => ?_)
    refine lv_iload_n hx hb dY_make_10 rfl (lv_at hl 2 rfl) ?_
    refine lv_iconst (v := 0) hx hb dY_make_11 (by decide) ?_
    refine lv_bipush (v := 9) hx hb dY_make_12 (by decide) ?_
    refine vp_callSi (va_Run.run (va_runS (As := [.int p1, .int 0, .int 9]) (rest := []) ⟨hx, hb, hml, hown, hts⟩ (j_inn l p1 0 9) (va_cwS 3 hts (yS ylY_48 ym_inn yini yc_inn) rfl rfl rfl (by decide +kernel) ⟨Nat.le_of_ble_eq_true rfl, Nat.le_of_ble_eq_true rfl⟩) preEq rfl rfl hl.1 rfl (lv_room (Nat.le_of_ble_eq_true rfl)) dY_make_14 ⟨Nat.le_of_ble_eq_true rfl, Nat.le_of_ble_eq_true rfl⟩)) (fun r4 hw5 => ?_)
    rcases bI_c hw5 with ⟨rfl, b6⟩ | ⟨rfl, b6⟩
    · refine lv_if_ne (tgt := 22) hx hb dY_make_17 (by decide) (fun _ => ?_) (fun cz => absurd cz (by decide))
      refine lv_iload_n hx hb dY_make_22 rfl (lv_at hl 2 rfl) ?_
      refine lv_iconst (v := 4) hx hb dY_make_23 (by decide) ?_
      refine lv_icmp_eq (tgt := 32) hx hb dY_make_24 (by decide) (fun c7 => ?_) (fun c7 => ?_)
      · refine lv_aload_n hx hb dY_make_32 rfl (lv_at hl 0 rfl) ?_
        refine va_get (D := D) (ci := 2) (v := .ref G.2.2.2.2.1) (C := RY) (T := TY) (N := 13) hx hb hty inY hown hK hP 0 rfl rfl 4 (by decide) (hty _ yf_23) (fun _ h9 => h9) rfl dY_make_33 ?_
        refine lv_iload_n hx hb dY_make_36 rfl (lv_at hl 1 rfl) ?_
        refine lv_iload_n hx hb dY_make_37 rfl (lv_at hl 2 rfl) ?_
        refine lv_iconst (v := 4) hx hb dY_make_38 (by decide) ?_
        refine lv_icmp_ne (tgt := 46) hx hb dY_make_39 (by decide) (fun cz => absurd c7 cz) (fun _ => ?_)
        refine lv_iconst (v := 1) hx hb dY_make_42 (by decide) ?_
        refine lv_goto (tgt := 47) hx hb dY_make_43 (by decide) ?_
        refine va_iast hx hb hK hP hD hS 4 3 rfl rfl (fIn_in7 b3) dY_make_47 (fun H locs hP hD hS => ?_)
        have hP : va_P D vwCl (yW G (zk, zn, zi, zt, (upd zs p0.toNatClampNeg 1), zr, zd, zy, zm, zc, zv, ze, zo)) H := hP
        have hD : va_D A (yW G (zk, zn, zi, zt, (upd zs p0.toNatClampNeg 1), zr, zd, zy, zm, zc, zv, ze, zo)) := hD
        refine lv_iconst (v := 0) hx hb dY_make_48 (by decide) ?_
        exact W.iret (v := 0) hx hb hr (fun tE ht hW => ⟨⟨0, (zk, zn, zi, zt, (upd zs p0.toNatClampNeg 1), zr, zd, zy, zm, zc, zv, ze, zo), rfl, by first | (simp only [zMake, zMk, zMk1, zMk0, zS, zNew, zN, zE, yk, yn, yi, yt, ys, yr, yd, yy, ym, yc, yv, ye, yo, b3, b6, eq_true c7, eq_self, ↓reduceIte, Bool.false_eq_true, Bool.not_false, Bool.not_true, Bool.and_true, Bool.and_false, Bool.true_and, Bool.false_and, decide_true, decide_false] <;> first | done | decide) | (simp only [zMake, zMk, zMk1, zMk0, zS, zNew, zN, zE, yk, yn, yi, yt, ys, yr, yd, yy, ym, yc, yv, ye, yo, b3, b6, c7, eq_self, ↓reduceIte, Bool.false_eq_true, Bool.not_false, Bool.not_true, Bool.and_true, Bool.and_false, Bool.true_and, Bool.false_and, decide_true, decide_false] <;> first | done | decide) | (simp [zMake, zMk, zMk1, zMk0, zS, zNew, zN, zE, yk, yn, yi, yt, ys, yr, yd, yy, ym, yc, yv, ye, yo, b3, b6, c7]; done) | (simp [zMake, zMk, zMk1, zMk0, zS, zNew, zN, zE, yk, yn, yi, yt, ys, yr, yd, yy, ym, yc, yv, ye, yo, b3, b6, eq_true c7]; done), by rw [ht]; exact hP, va_K.moved hW.alike hK, hD⟩, hS.F ht⟩) hS.2.2 dY_make_49
      · refine lv_iload_n hx hb dY_make_27 rfl (lv_at hl 2 rfl) ?_
        refine lv_iconst (v := 5) hx hb dY_make_28 (by decide) ?_
        refine lv_icmp_ne (tgt := 50) hx hb dY_make_29 (by decide) (fun c8 => ?_) (fun c8 => ?_)
        · refine lv_aload_n hx hb dY_make_50 rfl (lv_at hl 0 rfl) ?_
          refine va_get (D := D) (ci := 2) (v := .ref G.2.2.2.2.1) (C := RY) (T := TY) (N := 13) hx hb hty inY hown hK hP 0 rfl rfl 4 (by decide) (hty _ yf_23) (fun _ h9 => h9) rfl dY_make_51 ?_
          refine lv_iload_n hx hb dY_make_54 rfl (lv_at hl 3 rfl) ?_
          refine lv_bipush (v := 7) hx hb dY_make_55 (by decide) ?_
          refine lv_iand hx hb dY_make_57 ?_
          refine va_iald (f := zs) hx hb hK hP 4 3 rfl rfl (and_in8 _) dY_make_58 ?_
          refine lv_istore (lv' := [(4, .int (zs (p2 &&& 7).toNatClampNeg)), (0, .ref G.1), (1, .int p0), (2, .int p1), (3, .int p2)]) hx hb dY_make_59 hl (by decide) rfl (fun ls hl => ?_)
          refine lv_iload_n hx hb dY_make_61 rfl (lv_at hl 3 rfl) ?_
          refine lv_bipush (v := 8) hx hb dY_make_62 (by decide) ?_
          refine lv_icmp_ne (tgt := 74) hx hb dY_make_64 (by decide) (fun c9 => ?_) (fun c9 => ?_)
          · refine lv_iload_n hx hb dY_make_74 rfl (lv_at hl 3 rfl) ?_
            refine lv_bipush (v := 8) hx hb dY_make_75 (by decide) ?_
            refine lv_icmp_ne (tgt := 92) hx hb dY_make_77 (by decide) (fun _ => ?_) (fun cz => absurd cz c9)
            refine lv_aload_n hx hb dY_make_92 rfl (lv_at hl 1 rfl) ?_
            refine lv_dup hx hb dY_make_93 rfl ?_
            refine va_get (D := D) (ci := 2) (v := .int zt) (C := RY) (T := TY) (N := 13) hx hb hty inY hown hK hP 0 rfl rfl 3 (by decide) (hty _ yf_19) (fun _ h9 => h9) rfl dY_make_94 ?_
            refine lv_iconst (v := 1) hx hb dY_make_97 (by decide) ?_
            refine lv_iadd hx hb dY_make_98 ?_
            refine va_put (D := D) (ci := 2) (v := .int (zt + 1)) (ty := .int) (C := RY) (T := TY) (N := 13) hx hb hty inY tyY tyY_ok nmY hown hK hP hD hS 0 rfl rfl 3 (by decide) (hty _ yf_19) (fun _ h9 => h9) rfl (by decide +kernel) rfl rfl (Nat.le_of_ble_eq_true rfl) dY_make_99 (fun H locs hP hD hS => ?_)
            have hP : va_P D vwCl (yW G (zk, zn, zi, (zt + 1), zs, zr, zd, zy, zm, zc, zv, ze, zo)) H := hP
            have hD : va_D A (yW G (zk, zn, zi, (zt + 1), zs, zr, zd, zy, zm, zc, zv, ze, zo)) := hD
            refine lv_aload_n hx hb dY_make_102 rfl (lv_at hl 1 rfl) ?_
            refine va_get (D := D) (ci := 2) (v := .ref G.2.1) (C := RY) (T := TY) (N := 13) hx hb hty inY hown hK hP 0 rfl rfl 0 (by decide) (hty _ yf_7) (fun _ h9 => h9) rfl dY_make_103 ?_
            refine lv_aload_n hx hb dY_make_106 rfl (lv_at hl 1 rfl) ?_
            refine va_get (D := D) (ci := 2) (v := .int (zt + 1)) (C := RY) (T := TY) (N := 13) hx hb hty inY hown hK hP 0 rfl rfl 3 (by decide) (hty _ yf_19) (fun _ h9 => h9) rfl dY_make_107 ?_
            refine lv_iload_n hx hb dY_make_110 rfl (lv_at hl 3 rfl) ?_
            refine va_iast hx hb hK hP hD hS 1 0 rfl rfl hth dY_make_111 (fun H locs hP hD hS => ?_)
            have hP : va_P D vwCl (yW G ((upd zk (zt + 1).toNatClampNeg p1), zn, zi, (zt + 1), zs, zr, zd, zy, zm, zc, zv, ze, zo)) H := hP
            have hD : va_D A (yW G ((upd zk (zt + 1).toNatClampNeg p1), zn, zi, (zt + 1), zs, zr, zd, zy, zm, zc, zv, ze, zo)) := hD
            refine lv_aload_n hx hb dY_make_112 rfl (lv_at hl 1 rfl) ?_
            refine va_get (D := D) (ci := 2) (v := .ref G.2.2.1) (C := RY) (T := TY) (N := 13) hx hb hty inY hown hK hP 0 rfl rfl 1 (by decide) (hty _ yf_13) (fun _ h9 => h9) rfl dY_make_113 ?_
            refine lv_aload_n hx hb dY_make_116 rfl (lv_at hl 1 rfl) ?_
            refine va_get (D := D) (ci := 2) (v := .int (zt + 1)) (C := RY) (T := TY) (N := 13) hx hb hty inY hown hK hP 0 rfl rfl 3 (by decide) (hty _ yf_19) (fun _ h9 => h9) rfl dY_make_117 ?_
            refine lv_iload_n hx hb dY_make_120 rfl (lv_at hl 4 rfl) ?_
            refine va_iast hx hb hK hP hD hS 2 1 rfl rfl hth dY_make_121 (fun H locs hP hD hS => ?_)
            have hP : va_P D vwCl (yW G ((upd zk (zt + 1).toNatClampNeg p1), (upd zn (zt + 1).toNatClampNeg p2), zi, (zt + 1), zs, zr, zd, zy, zm, zc, zv, ze, zo)) H := hP
            have hD : va_D A (yW G ((upd zk (zt + 1).toNatClampNeg p1), (upd zn (zt + 1).toNatClampNeg p2), zi, (zt + 1), zs, zr, zd, zy, zm, zc, zv, ze, zo)) := hD
            refine lv_aload_n hx hb dY_make_122 rfl (lv_at hl 1 rfl) ?_
            refine va_get (D := D) (ci := 2) (v := .ref G.2.2.2.1) (C := RY) (T := TY) (N := 13) hx hb hty inY hown hK hP 0 rfl rfl 2 (by decide) (hty _ yf_16) (fun _ h9 => h9) rfl dY_make_123 ?_
            refine lv_aload_n hx hb dY_make_126 rfl (lv_at hl 1 rfl) ?_
            refine va_get (D := D) (ci := 2) (v := .int (zt + 1)) (C := RY) (T := TY) (N := 13) hx hb hty inY hown hK hP 0 rfl rfl 3 (by decide) (hty _ yf_19) (fun _ h9 => h9) rfl dY_make_127 ?_
            refine lv_iload hx hb dY_make_130 (lv_at hl 0 rfl) ?_
            refine va_iast hx hb hK hP hD hS 3 2 rfl rfl hth dY_make_132 (fun H locs hP hD hS => ?_)
            have hP : va_P D vwCl (yW G ((upd zk (zt + 1).toNatClampNeg p1), (upd zn (zt + 1).toNatClampNeg p2), (upd zi (zt + 1).toNatClampNeg (zs (p2 &&& 7).toNatClampNeg)), (zt + 1), zs, zr, zd, zy, zm, zc, zv, ze, zo)) H := hP
            have hD : va_D A (yW G ((upd zk (zt + 1).toNatClampNeg p1), (upd zn (zt + 1).toNatClampNeg p2), (upd zi (zt + 1).toNatClampNeg (zs (p2 &&& 7).toNatClampNeg)), (zt + 1), zs, zr, zd, zy, zm, zc, zv, ze, zo)) := hD
            refine lv_aload_n hx hb dY_make_133 rfl (lv_at hl 1 rfl) ?_
            refine va_get (D := D) (ci := 2) (v := .ref G.2.2.2.2.1) (C := RY) (T := TY) (N := 13) hx hb hty inY hown hK hP 0 rfl rfl 4 (by decide) (hty _ yf_23) (fun _ h9 => h9) rfl dY_make_134 ?_
            refine lv_iload_n hx hb dY_make_137 rfl (lv_at hl 2 rfl) ?_
            refine lv_aload_n hx hb dY_make_138 rfl (lv_at hl 1 rfl) ?_
            refine va_get (D := D) (ci := 2) (v := .int (zt + 1)) (C := RY) (T := TY) (N := 13) hx hb hty inY hown hK hP 0 rfl rfl 3 (by decide) (hty _ yf_19) (fun _ h9 => h9) rfl dY_make_139 ?_
            refine va_iast hx hb hK hP hD hS 4 3 rfl rfl (fIn_in7 b3) dY_make_142 (fun H locs hP hD hS => ?_)
            have hP : va_P D vwCl (yW G ((upd zk (zt + 1).toNatClampNeg p1), (upd zn (zt + 1).toNatClampNeg p2), (upd zi (zt + 1).toNatClampNeg (zs (p2 &&& 7).toNatClampNeg)), (zt + 1), (upd zs p0.toNatClampNeg (zt + 1)), zr, zd, zy, zm, zc, zv, ze, zo)) H := hP
            have hD : va_D A (yW G ((upd zk (zt + 1).toNatClampNeg p1), (upd zn (zt + 1).toNatClampNeg p2), (upd zi (zt + 1).toNatClampNeg (zs (p2 &&& 7).toNatClampNeg)), (zt + 1), (upd zs p0.toNatClampNeg (zt + 1)), zr, zd, zy, zm, zc, zv, ze, zo)) := hD
            refine lv_iload_n hx hb dY_make_143 rfl (lv_at hl 3 rfl) ?_
            refine lv_if_ne (tgt := 156) hx hb dY_make_144 (by decide) (fun c10 => ?_) (fun c10 => ?_)
            · refine lv_aload_n hx hb dY_make_156 rfl (lv_at hl 1 rfl) ?_
              refine lv_aload_n hx hb dY_make_157 rfl (lv_at hl 1 rfl) ?_
              refine va_get (D := D) (ci := 2) (v := .int (zt + 1)) (C := RY) (T := TY) (N := 13) hx hb hty inY hown hK hP 0 rfl rfl 3 (by decide) (hty _ yf_19) (fun _ h9 => h9) rfl dY_make_158 ?_
              refine lv_iconst (v := 3) hx hb dY_make_161 (by decide) ?_
              have hf11 := xFree hD hS hA
              refine va_calli (va_runV (As := [.int (zt + 1), .int 3]) (rest := []) ⟨hx, hb, hml, hown, hts⟩ (j_of l D G ((upd zk (zt + 1).toNatClampNeg p1), (upd zn (zt + 1).toNatClampNeg p2), (upd zi (zt + 1).toNatClampNeg (zs (p2 &&& 7).toNatClampNeg)), (zt + 1), (upd zs p0.toNatClampNeg (zt + 1)), zr, zd, zy, zm, zc, zv, ze, zo)  H.size (zt + 1) 3 hth (by show vp_in ((upd zk (zt + 1).toNatClampNeg p1) (zt + 1).toNatClampNeg) 10; rw [pk_us]; exact (fIn_in9 b6))) (cwV 2 hts (yV ylY_60 ym_of ys_of yc_of) rfl rfl rfl (by decide +kernel) ⟨Nat.le_of_ble_eq_true rfl, Nat.le_of_ble_eq_true rfl⟩) (yPre hK hP hD _) rfl rfl hl.1 rfl (lv_room (Nat.le_of_ble_eq_true rfl)) dY_make_162 ⟨Nat.le_of_ble_eq_true rfl, Nat.le_of_ble_eq_true rfl⟩) hS (fun q _ h => hf11 q h) hf11 (fun r12 v13 t15 H1 locs ht hvm hw14 hB hz1 hk1 hS => ?_)
              obtain ⟨hP1, hK1, hD1⟩ := hB
              rw [ht] at hP1
              replace hD1 := hD1.weaken (fun _ _ _ h => hf11 _ h)
              generalize H1 = H at hP1 hS ⊢
              obtain ⟨zhw14, rfl⟩ := Prod.mk.inj (show (r12, v13) = (bI (fOf ((upd zk (zt + 1).toNatClampNeg p1), (upd zn (zt + 1).toNatClampNeg p2), (upd zi (zt + 1).toNatClampNeg (zs (p2 &&& 7).toNatClampNeg)), (zt + 1), (upd zs p0.toNatClampNeg (zt + 1)), zr, zd, zy, zm, zc, zv, ze, zo) (zt + 1) 3), ((upd zk (zt + 1).toNatClampNeg p1), (upd zn (zt + 1).toNatClampNeg p2), (upd zi (zt + 1).toNatClampNeg (zs (p2 &&& 7).toNatClampNeg)), (zt + 1), (upd zs p0.toNatClampNeg (zt + 1)), zr, zd, zy, zm, zc, zv, ze, zo)) from hw14)
              have hP : va_P D vwCl (yW G ((upd zk (zt + 1).toNatClampNeg p1), (upd zn (zt + 1).toNatClampNeg p2), (upd zi (zt + 1).toNatClampNeg (zs (p2 &&& 7).toNatClampNeg)), (zt + 1), (upd zs p0.toNatClampNeg (zt + 1)), zr, zd, zy, zm, zc, zv, ze, zo)) H := hP1
              have hD : va_D A (yW G ((upd zk (zt + 1).toNatClampNeg p1), (upd zn (zt + 1).toNatClampNeg p2), (upd zi (zt + 1).toNatClampNeg (zs (p2 &&& 7).toNatClampNeg)), (zt + 1), (upd zs p0.toNatClampNeg (zt + 1)), zr, zd, zy, zm, zc, zv, ze, zo)) := hD1
              rcases bI_c zhw14 with ⟨rfl, b16⟩ | ⟨rfl, b16⟩
              · refine lv_if_eq (tgt := 180) hx hb dY_make_165 (by decide) (fun cz => absurd cz (by decide)) (fun _ => ?_)
                refine lv_aload_n hx hb dY_make_168 rfl (lv_at hl 1 rfl) ?_
                refine lv_aload_n hx hb dY_make_169 rfl (lv_at hl 1 rfl) ?_
                refine lv_aload_n hx hb dY_make_170 rfl (lv_at hl 1 rfl) ?_
                refine va_get (D := D) (ci := 2) (v := .int (zt + 1)) (C := RY) (T := TY) (N := 13) hx hb hty inY hown hK hP 0 rfl rfl 3 (by decide) (hty _ yf_19) (fun _ h9 => h9) rfl dY_make_171 ?_
                have hf17 := xFree hD hS hA
                refine va_calli (va_runV (As := [.int (zt + 1)]) (rest := [.ref G.1]) ⟨hx, hb, hml, hown, hts⟩ (j_seed l D G ((upd zk (zt + 1).toNatClampNeg p1), (upd zn (zt + 1).toNatClampNeg p2), (upd zi (zt + 1).toNatClampNeg (zs (p2 &&& 7).toNatClampNeg)), (zt + 1), (upd zs p0.toNatClampNeg (zt + 1)), zr, zd, zy, zm, zc, zv, ze, zo)  H.size (zt + 1) hth) (cwV 1 hts (yV ylY_64 ym_seed ys_seed yc_seed) rfl rfl rfl (by decide +kernel) ⟨Nat.le_of_ble_eq_true rfl, Nat.le_of_ble_eq_true rfl⟩) (yPre hK hP hD _) rfl rfl hl.1 rfl (lv_room (Nat.le_of_ble_eq_true rfl)) dY_make_174 ⟨Nat.le_of_ble_eq_true rfl, Nat.le_of_ble_eq_true rfl⟩) hS (fun q _ h => hf17 q h) hf17 (fun r18 v19 t21 H1 locs ht hvm hw20 hB hz1 hk1 hS => ?_)
                obtain ⟨hP1, hK1, hD1⟩ := hB
                rw [ht] at hP1
                replace hD1 := hD1.weaken (fun _ _ _ h => hf17 _ h)
                generalize H1 = H at hP1 hS ⊢
                obtain ⟨rfl, rfl⟩ := Prod.mk.inj (show (r18, v19) = ((zSeed ((upd zk (zt + 1).toNatClampNeg p1), (upd zn (zt + 1).toNatClampNeg p2), (upd zi (zt + 1).toNatClampNeg (zs (p2 &&& 7).toNatClampNeg)), (zt + 1), (upd zs p0.toNatClampNeg (zt + 1)), zr, zd, zy, zm, zc, zv, ze, zo) (zt + 1)), ((upd zk (zt + 1).toNatClampNeg p1), (upd zn (zt + 1).toNatClampNeg p2), (upd zi (zt + 1).toNatClampNeg (zs (p2 &&& 7).toNatClampNeg)), (zt + 1), (upd zs p0.toNatClampNeg (zt + 1)), zr, zd, zy, zm, zc, zv, ze, zo)) from hw20)
                have hP : va_P D vwCl (yW G ((upd zk (zt + 1).toNatClampNeg p1), (upd zn (zt + 1).toNatClampNeg p2), (upd zi (zt + 1).toNatClampNeg (zs (p2 &&& 7).toNatClampNeg)), (zt + 1), (upd zs p0.toNatClampNeg (zt + 1)), zr, zd, zy, zm, zc, zv, ze, zo)) H := hP1
                have hD : va_D A (yW G ((upd zk (zt + 1).toNatClampNeg p1), (upd zn (zt + 1).toNatClampNeg p2), (upd zi (zt + 1).toNatClampNeg (zs (p2 &&& 7).toNatClampNeg)), (zt + 1), (upd zs p0.toNatClampNeg (zt + 1)), zr, zd, zy, zm, zc, zv, ze, zo)) := hD1
                have hf22 := xFree hD hS hA
                refine va_callv (va_runV (As := [.int (zSeed ((upd zk (zt + 1).toNatClampNeg p1), (upd zn (zt + 1).toNatClampNeg p2), (upd zi (zt + 1).toNatClampNeg (zs (p2 &&& 7).toNatClampNeg)), (zt + 1), (upd zs p0.toNatClampNeg (zt + 1)), zr, zd, zy, zm, zc, zv, ze, zo) (zt + 1))]) (rest := []) ⟨hx, hb, hml, hown, hts⟩ (j_note l D G ((upd zk (zt + 1).toNatClampNeg p1), (upd zn (zt + 1).toNatClampNeg p2), (upd zi (zt + 1).toNatClampNeg (zs (p2 &&& 7).toNatClampNeg)), (zt + 1), (upd zs p0.toNatClampNeg (zt + 1)), zr, zd, zy, zm, zc, zv, ze, zo)  H.size (zSeed ((upd zk (zt + 1).toNatClampNeg p1), (upd zn (zt + 1).toNatClampNeg p2), (upd zi (zt + 1).toNatClampNeg (zs (p2 &&& 7).toNatClampNeg)), (zt + 1), (upd zs p0.toNatClampNeg (zt + 1)), zr, zd, zy, zm, zc, zv, ze, zo) (zt + 1))) (cwV 1 hts (yV ylY_56 ym_note ys_note yc_note) rfl rfl rfl (by decide +kernel) ⟨Nat.le_of_ble_eq_true rfl, Nat.le_of_ble_eq_true rfl⟩) (yPre hK hP hD _) rfl rfl hl.1 rfl (lv_room (Nat.le_of_ble_eq_true rfl)) dY_make_177 ⟨Nat.le_of_ble_eq_true rfl, Nat.le_of_ble_eq_true rfl⟩) hS (fun q _ h => hf22 q h) hf22 (fun v24 t26 H1 locs ht hvm hw25 hB hz1 hk1 hS => ?_)
                obtain ⟨hP1, hK1, hD1⟩ := hB
                rw [ht] at hP1
                replace hD1 := hD1.weaken (fun _ _ _ h => hf22 _ h)
                generalize H1 = H at hP1 hS ⊢
                obtain rfl := (show v24 = ((upd zk (zt + 1).toNatClampNeg p1), (upd zn (zt + 1).toNatClampNeg p2), (upd zi (zt + 1).toNatClampNeg (zs (p2 &&& 7).toNatClampNeg)), (zt + 1), (upd zs p0.toNatClampNeg (zt + 1)), zr, zd, zy, zm, zc, zv, (yShift ze (zSeed ((upd zk (zt + 1).toNatClampNeg p1), (upd zn (zt + 1).toNatClampNeg p2), (upd zi (zt + 1).toNatClampNeg (zs (p2 &&& 7).toNatClampNeg)), (zt + 1), (upd zs p0.toNatClampNeg (zt + 1)), zr, zd, zy, zm, zc, zv, ze, zo) (zt + 1))), (zo + 1)) from hw25)
                have hP : va_P D vwCl (yW G ((upd zk (zt + 1).toNatClampNeg p1), (upd zn (zt + 1).toNatClampNeg p2), (upd zi (zt + 1).toNatClampNeg (zs (p2 &&& 7).toNatClampNeg)), (zt + 1), (upd zs p0.toNatClampNeg (zt + 1)), zr, zd, zy, zm, zc, zv, (yShift ze (zSeed ((upd zk (zt + 1).toNatClampNeg p1), (upd zn (zt + 1).toNatClampNeg p2), (upd zi (zt + 1).toNatClampNeg (zs (p2 &&& 7).toNatClampNeg)), (zt + 1), (upd zs p0.toNatClampNeg (zt + 1)), zr, zd, zy, zm, zc, zv, ze, zo) (zt + 1))), (zo + 1))) H := hP1
                have hD : va_D A (yW G ((upd zk (zt + 1).toNatClampNeg p1), (upd zn (zt + 1).toNatClampNeg p2), (upd zi (zt + 1).toNatClampNeg (zs (p2 &&& 7).toNatClampNeg)), (zt + 1), (upd zs p0.toNatClampNeg (zt + 1)), zr, zd, zy, zm, zc, zv, (yShift ze (zSeed ((upd zk (zt + 1).toNatClampNeg p1), (upd zn (zt + 1).toNatClampNeg p2), (upd zi (zt + 1).toNatClampNeg (zs (p2 &&& 7).toNatClampNeg)), (zt + 1), (upd zs p0.toNatClampNeg (zt + 1)), zr, zd, zy, zm, zc, zv, ze, zo) (zt + 1))), (zo + 1))) := hD1
                refine lv_iload_n hx hb dY_make_180 rfl (lv_at hl 3 rfl) ?_
                refine lv_bipush (v := 9) hx hb dY_make_181 (by decide) ?_
                refine lv_icmp_ne (tgt := 193) hx hb dY_make_183 (by decide) (fun c27 => ?_) (fun c27 => ?_)
                · refine lv_iconst (v := 0) hx hb dY_make_193 (by decide) ?_
                  exact W.iret (v := 0) hx hb hr (fun tE ht hW => ⟨⟨0, ((upd zk (zt + 1).toNatClampNeg p1), (upd zn (zt + 1).toNatClampNeg p2), (upd zi (zt + 1).toNatClampNeg (zs (p2 &&& 7).toNatClampNeg)), (zt + 1), (upd zs p0.toNatClampNeg (zt + 1)), zr, zd, zy, zm, zc, zv, (yShift ze (zSeed ((upd zk (zt + 1).toNatClampNeg p1), (upd zn (zt + 1).toNatClampNeg p2), (upd zi (zt + 1).toNatClampNeg (zs (p2 &&& 7).toNatClampNeg)), (zt + 1), (upd zs p0.toNatClampNeg (zt + 1)), zr, zd, zy, zm, zc, zv, ze, zo) (zt + 1))), (zo + 1)), rfl, by first | (simp only [zMake, zMk, zMk1, zMk0, zS, zNew, zN, zE, yk, yn, yi, yt, ys, yr, yd, yy, ym, yc, yv, ye, yo, b3, b6, c7, c8, c9, c10, b16, c27, eq_self, ↓reduceIte, Bool.false_eq_true, Bool.not_false, Bool.not_true, Bool.and_true, Bool.and_false, Bool.true_and, Bool.false_and, decide_true, decide_false] <;> first | done | decide) | (simp [zMake, zMk, zMk1, zMk0, zS, zNew, zN, zE, yk, yn, yi, yt, ys, yr, yd, yy, ym, yc, yv, ye, yo, b3, b6, c7, c8, c9, c10, b16, c27]; done), by rw [ht]; exact hP, va_K.moved hW.alike hK, hD⟩, hS.F ht⟩) hS.2.2 dY_make_194
                · refine lv_aload_n hx hb dY_make_186 rfl (lv_at hl 1 rfl) ?_
                  refine lv_iload_n hx hb dY_make_187 rfl (lv_at hl 4 rfl) ?_
                  refine lv_iconst (v := 1) hx hb dY_make_188 (by decide) ?_
                  refine lv_iadd hx hb dY_make_189 ?_
                  have hf28 := xFree hD hS hA
                  refine va_callv (va_runV (As := [.int (p2 + 1)]) (rest := []) ⟨hx, hb, hml, hown, hts⟩ (j_note l D G ((upd zk (zt + 1).toNatClampNeg p1), (upd zn (zt + 1).toNatClampNeg p2), (upd zi (zt + 1).toNatClampNeg (zs (p2 &&& 7).toNatClampNeg)), (zt + 1), (upd zs p0.toNatClampNeg (zt + 1)), zr, zd, zy, zm, zc, zv, (yShift ze (zSeed ((upd zk (zt + 1).toNatClampNeg p1), (upd zn (zt + 1).toNatClampNeg p2), (upd zi (zt + 1).toNatClampNeg (zs (p2 &&& 7).toNatClampNeg)), (zt + 1), (upd zs p0.toNatClampNeg (zt + 1)), zr, zd, zy, zm, zc, zv, ze, zo) (zt + 1))), (zo + 1))  H.size (p2 + 1)) (cwV 1 hts (yV ylY_56 ym_note ys_note yc_note) rfl rfl rfl (by decide +kernel) ⟨Nat.le_of_ble_eq_true rfl, Nat.le_of_ble_eq_true rfl⟩) (yPre hK hP hD _) rfl rfl hl.1 rfl (lv_room (Nat.le_of_ble_eq_true rfl)) dY_make_190 ⟨Nat.le_of_ble_eq_true rfl, Nat.le_of_ble_eq_true rfl⟩) hS (fun q _ h => hf28 q h) hf28 (fun v30 t32 H1 locs ht hvm hw31 hB hz1 hk1 hS => ?_)
                  obtain ⟨hP1, hK1, hD1⟩ := hB
                  rw [ht] at hP1
                  replace hD1 := hD1.weaken (fun _ _ _ h => hf28 _ h)
                  generalize H1 = H at hP1 hS ⊢
                  obtain rfl := (show v30 = ((upd zk (zt + 1).toNatClampNeg p1), (upd zn (zt + 1).toNatClampNeg p2), (upd zi (zt + 1).toNatClampNeg (zs (p2 &&& 7).toNatClampNeg)), (zt + 1), (upd zs p0.toNatClampNeg (zt + 1)), zr, zd, zy, zm, zc, zv, (yShift (yShift ze (zSeed ((upd zk (zt + 1).toNatClampNeg p1), (upd zn (zt + 1).toNatClampNeg p2), (upd zi (zt + 1).toNatClampNeg (zs (p2 &&& 7).toNatClampNeg)), (zt + 1), (upd zs p0.toNatClampNeg (zt + 1)), zr, zd, zy, zm, zc, zv, ze, zo) (zt + 1))) (p2 + 1)), ((zo + 1) + 1)) from hw31)
                  have hP : va_P D vwCl (yW G ((upd zk (zt + 1).toNatClampNeg p1), (upd zn (zt + 1).toNatClampNeg p2), (upd zi (zt + 1).toNatClampNeg (zs (p2 &&& 7).toNatClampNeg)), (zt + 1), (upd zs p0.toNatClampNeg (zt + 1)), zr, zd, zy, zm, zc, zv, (yShift (yShift ze (zSeed ((upd zk (zt + 1).toNatClampNeg p1), (upd zn (zt + 1).toNatClampNeg p2), (upd zi (zt + 1).toNatClampNeg (zs (p2 &&& 7).toNatClampNeg)), (zt + 1), (upd zs p0.toNatClampNeg (zt + 1)), zr, zd, zy, zm, zc, zv, ze, zo) (zt + 1))) (p2 + 1)), ((zo + 1) + 1))) H := hP1
                  have hD : va_D A (yW G ((upd zk (zt + 1).toNatClampNeg p1), (upd zn (zt + 1).toNatClampNeg p2), (upd zi (zt + 1).toNatClampNeg (zs (p2 &&& 7).toNatClampNeg)), (zt + 1), (upd zs p0.toNatClampNeg (zt + 1)), zr, zd, zy, zm, zc, zv, (yShift (yShift ze (zSeed ((upd zk (zt + 1).toNatClampNeg p1), (upd zn (zt + 1).toNatClampNeg p2), (upd zi (zt + 1).toNatClampNeg (zs (p2 &&& 7).toNatClampNeg)), (zt + 1), (upd zs p0.toNatClampNeg (zt + 1)), zr, zd, zy, zm, zc, zv, ze, zo) (zt + 1))) (p2 + 1)), ((zo + 1) + 1))) := hD1
                  refine lv_iconst (v := 0) hx hb dY_make_193 (by decide) ?_
                  exact W.iret (v := 0) hx hb hr (fun tE ht hW => ⟨⟨0, ((upd zk (zt + 1).toNatClampNeg p1), (upd zn (zt + 1).toNatClampNeg p2), (upd zi (zt + 1).toNatClampNeg (zs (p2 &&& 7).toNatClampNeg)), (zt + 1), (upd zs p0.toNatClampNeg (zt + 1)), zr, zd, zy, zm, zc, zv, (yShift (yShift ze (zSeed ((upd zk (zt + 1).toNatClampNeg p1), (upd zn (zt + 1).toNatClampNeg p2), (upd zi (zt + 1).toNatClampNeg (zs (p2 &&& 7).toNatClampNeg)), (zt + 1), (upd zs p0.toNatClampNeg (zt + 1)), zr, zd, zy, zm, zc, zv, ze, zo) (zt + 1))) (p2 + 1)), ((zo + 1) + 1)), rfl, by first | (simp only [zMake, zMk, zMk1, zMk0, zS, zNew, zN, zE, yk, yn, yi, yt, ys, yr, yd, yy, ym, yc, yv, ye, yo, b3, b6, c7, c8, c9, c10, b16, eq_true c27, eq_self, ↓reduceIte, Bool.false_eq_true, Bool.not_false, Bool.not_true, Bool.and_true, Bool.and_false, Bool.true_and, Bool.false_and, decide_true, decide_false] <;> first | done | decide) | (simp only [zMake, zMk, zMk1, zMk0, zS, zNew, zN, zE, yk, yn, yi, yt, ys, yr, yd, yy, ym, yc, yv, ye, yo, b3, b6, c7, c8, c9, c10, b16, c27, eq_self, ↓reduceIte, Bool.false_eq_true, Bool.not_false, Bool.not_true, Bool.and_true, Bool.and_false, Bool.true_and, Bool.false_and, decide_true, decide_false] <;> first | done | decide) | (simp [zMake, zMk, zMk1, zMk0, zS, zNew, zN, zE, yk, yn, yi, yt, ys, yr, yd, yy, ym, yc, yv, ye, yo, b3, b6, c7, c8, c9, c10, b16, c27]; done) | (simp [zMake, zMk, zMk1, zMk0, zS, zNew, zN, zE, yk, yn, yi, yt, ys, yr, yd, yy, ym, yc, yv, ye, yo, b3, b6, c7, c8, c9, c10, b16, eq_true c27]; done), by rw [ht]; exact hP, va_K.moved hW.alike hK, hD⟩, hS.F ht⟩) hS.2.2 dY_make_194
              · refine lv_if_eq (tgt := 180) hx hb dY_make_165 (by decide) (fun _ => ?_) (fun cz => absurd cz (by decide))
                refine lv_iload_n hx hb dY_make_180 rfl (lv_at hl 3 rfl) ?_
                refine lv_bipush (v := 9) hx hb dY_make_181 (by decide) ?_
                refine lv_icmp_ne (tgt := 193) hx hb dY_make_183 (by decide) (fun c33 => ?_) (fun c33 => ?_)
                · refine lv_iconst (v := 0) hx hb dY_make_193 (by decide) ?_
                  exact W.iret (v := 0) hx hb hr (fun tE ht hW => ⟨⟨0, ((upd zk (zt + 1).toNatClampNeg p1), (upd zn (zt + 1).toNatClampNeg p2), (upd zi (zt + 1).toNatClampNeg (zs (p2 &&& 7).toNatClampNeg)), (zt + 1), (upd zs p0.toNatClampNeg (zt + 1)), zr, zd, zy, zm, zc, zv, ze, zo), rfl, by first | (simp only [zMake, zMk, zMk1, zMk0, zS, zNew, zN, zE, yk, yn, yi, yt, ys, yr, yd, yy, ym, yc, yv, ye, yo, b3, b6, c7, c8, c9, c10, b16, c33, eq_self, ↓reduceIte, Bool.false_eq_true, Bool.not_false, Bool.not_true, Bool.and_true, Bool.and_false, Bool.true_and, Bool.false_and, decide_true, decide_false] <;> first | done | decide) | (simp [zMake, zMk, zMk1, zMk0, zS, zNew, zN, zE, yk, yn, yi, yt, ys, yr, yd, yy, ym, yc, yv, ye, yo, b3, b6, c7, c8, c9, c10, b16, c33]; done), by rw [ht]; exact hP, va_K.moved hW.alike hK, hD⟩, hS.F ht⟩) hS.2.2 dY_make_194
                · refine lv_aload_n hx hb dY_make_186 rfl (lv_at hl 1 rfl) ?_
                  refine lv_iload_n hx hb dY_make_187 rfl (lv_at hl 4 rfl) ?_
                  refine lv_iconst (v := 1) hx hb dY_make_188 (by decide) ?_
                  refine lv_iadd hx hb dY_make_189 ?_
                  have hf34 := xFree hD hS hA
                  refine va_callv (va_runV (As := [.int (p2 + 1)]) (rest := []) ⟨hx, hb, hml, hown, hts⟩ (j_note l D G ((upd zk (zt + 1).toNatClampNeg p1), (upd zn (zt + 1).toNatClampNeg p2), (upd zi (zt + 1).toNatClampNeg (zs (p2 &&& 7).toNatClampNeg)), (zt + 1), (upd zs p0.toNatClampNeg (zt + 1)), zr, zd, zy, zm, zc, zv, ze, zo)  H.size (p2 + 1)) (cwV 1 hts (yV ylY_56 ym_note ys_note yc_note) rfl rfl rfl (by decide +kernel) ⟨Nat.le_of_ble_eq_true rfl, Nat.le_of_ble_eq_true rfl⟩) (yPre hK hP hD _) rfl rfl hl.1 rfl (lv_room (Nat.le_of_ble_eq_true rfl)) dY_make_190 ⟨Nat.le_of_ble_eq_true rfl, Nat.le_of_ble_eq_true rfl⟩) hS (fun q _ h => hf34 q h) hf34 (fun v36 t38 H1 locs ht hvm hw37 hB hz1 hk1 hS => ?_)
                  obtain ⟨hP1, hK1, hD1⟩ := hB
                  rw [ht] at hP1
                  replace hD1 := hD1.weaken (fun _ _ _ h => hf34 _ h)
                  generalize H1 = H at hP1 hS ⊢
                  obtain rfl := (show v36 = ((upd zk (zt + 1).toNatClampNeg p1), (upd zn (zt + 1).toNatClampNeg p2), (upd zi (zt + 1).toNatClampNeg (zs (p2 &&& 7).toNatClampNeg)), (zt + 1), (upd zs p0.toNatClampNeg (zt + 1)), zr, zd, zy, zm, zc, zv, (yShift ze (p2 + 1)), (zo + 1)) from hw37)
                  have hP : va_P D vwCl (yW G ((upd zk (zt + 1).toNatClampNeg p1), (upd zn (zt + 1).toNatClampNeg p2), (upd zi (zt + 1).toNatClampNeg (zs (p2 &&& 7).toNatClampNeg)), (zt + 1), (upd zs p0.toNatClampNeg (zt + 1)), zr, zd, zy, zm, zc, zv, (yShift ze (p2 + 1)), (zo + 1))) H := hP1
                  have hD : va_D A (yW G ((upd zk (zt + 1).toNatClampNeg p1), (upd zn (zt + 1).toNatClampNeg p2), (upd zi (zt + 1).toNatClampNeg (zs (p2 &&& 7).toNatClampNeg)), (zt + 1), (upd zs p0.toNatClampNeg (zt + 1)), zr, zd, zy, zm, zc, zv, (yShift ze (p2 + 1)), (zo + 1))) := hD1
                  refine lv_iconst (v := 0) hx hb dY_make_193 (by decide) ?_
                  exact W.iret (v := 0) hx hb hr (fun tE ht hW => ⟨⟨0, ((upd zk (zt + 1).toNatClampNeg p1), (upd zn (zt + 1).toNatClampNeg p2), (upd zi (zt + 1).toNatClampNeg (zs (p2 &&& 7).toNatClampNeg)), (zt + 1), (upd zs p0.toNatClampNeg (zt + 1)), zr, zd, zy, zm, zc, zv, (yShift ze (p2 + 1)), (zo + 1)), rfl, by first | (simp only [zMake, zMk, zMk1, zMk0, zS, zNew, zN, zE, yk, yn, yi, yt, ys, yr, yd, yy, ym, yc, yv, ye, yo, b3, b6, c7, c8, c9, c10, b16, eq_true c33, eq_self, ↓reduceIte, Bool.false_eq_true, Bool.not_false, Bool.not_true, Bool.and_true, Bool.and_false, Bool.true_and, Bool.false_and, decide_true, decide_false] <;> first | done | decide) | (simp only [zMake, zMk, zMk1, zMk0, zS, zNew, zN, zE, yk, yn, yi, yt, ys, yr, yd, yy, ym, yc, yv, ye, yo, b3, b6, c7, c8, c9, c10, b16, c33, eq_self, ↓reduceIte, Bool.false_eq_true, Bool.not_false, Bool.not_true, Bool.and_true, Bool.and_false, Bool.true_and, Bool.false_and, decide_true, decide_false] <;> first | done | decide) | (simp [zMake, zMk, zMk1, zMk0, zS, zNew, zN, zE, yk, yn, yi, yt, ys, yr, yd, yy, ym, yc, yv, ye, yo, b3, b6, c7, c8, c9, c10, b16, c33]; done) | (simp [zMake, zMk, zMk1, zMk0, zS, zNew, zN, zE, yk, yn, yi, yt, ys, yr, yd, yy, ym, yc, yv, ye, yo, b3, b6, c7, c8, c9, c10, b16, eq_true c33]; done), by rw [ht]; exact hP, va_K.moved hW.alike hK, hD⟩, hS.F ht⟩) hS.2.2 dY_make_194
            · refine lv_aload_n hx hb dY_make_147 rfl (lv_at hl 1 rfl) ?_
              refine lv_bipush (v := 20) hx hb dY_make_148 (by decide) ?_
              have hf39 := xFree hD hS hA
              refine va_callv (va_runV (As := [.int 20]) (rest := []) ⟨hx, hb, hml, hown, hts⟩ (j_note l D G ((upd zk (zt + 1).toNatClampNeg p1), (upd zn (zt + 1).toNatClampNeg p2), (upd zi (zt + 1).toNatClampNeg (zs (p2 &&& 7).toNatClampNeg)), (zt + 1), (upd zs p0.toNatClampNeg (zt + 1)), zr, zd, zy, zm, zc, zv, ze, zo)  H.size 20) (cwV 1 hts (yV ylY_56 ym_note ys_note yc_note) rfl rfl rfl (by decide +kernel) ⟨Nat.le_of_ble_eq_true rfl, Nat.le_of_ble_eq_true rfl⟩) (yPre hK hP hD _) rfl rfl hl.1 rfl (lv_room (Nat.le_of_ble_eq_true rfl)) dY_make_150 ⟨Nat.le_of_ble_eq_true rfl, Nat.le_of_ble_eq_true rfl⟩) hS (fun q _ h => hf39 q h) hf39 (fun v41 t43 H1 locs ht hvm hw42 hB hz1 hk1 hS => ?_)
              obtain ⟨hP1, hK1, hD1⟩ := hB
              rw [ht] at hP1
              replace hD1 := hD1.weaken (fun _ _ _ h => hf39 _ h)
              generalize H1 = H at hP1 hS ⊢
              obtain rfl := (show v41 = ((upd zk (zt + 1).toNatClampNeg p1), (upd zn (zt + 1).toNatClampNeg p2), (upd zi (zt + 1).toNatClampNeg (zs (p2 &&& 7).toNatClampNeg)), (zt + 1), (upd zs p0.toNatClampNeg (zt + 1)), zr, zd, zy, zm, zc, zv, (yShift ze 20), (zo + 1)) from hw42)
              have hP : va_P D vwCl (yW G ((upd zk (zt + 1).toNatClampNeg p1), (upd zn (zt + 1).toNatClampNeg p2), (upd zi (zt + 1).toNatClampNeg (zs (p2 &&& 7).toNatClampNeg)), (zt + 1), (upd zs p0.toNatClampNeg (zt + 1)), zr, zd, zy, zm, zc, zv, (yShift ze 20), (zo + 1))) H := hP1
              have hD : va_D A (yW G ((upd zk (zt + 1).toNatClampNeg p1), (upd zn (zt + 1).toNatClampNeg p2), (upd zi (zt + 1).toNatClampNeg (zs (p2 &&& 7).toNatClampNeg)), (zt + 1), (upd zs p0.toNatClampNeg (zt + 1)), zr, zd, zy, zm, zc, zv, (yShift ze 20), (zo + 1))) := hD1
              refine lv_goto (tgt := 180) hx hb dY_make_153 (by decide) ?_
              refine lv_iload_n hx hb dY_make_180 rfl (lv_at hl 3 rfl) ?_
              refine lv_bipush (v := 9) hx hb dY_make_181 (by decide) ?_
              refine lv_icmp_ne (tgt := 193) hx hb dY_make_183 (by decide) (fun c44 => ?_) (fun c44 => ?_)
              · refine lv_iconst (v := 0) hx hb dY_make_193 (by decide) ?_
                exact W.iret (v := 0) hx hb hr (fun tE ht hW => ⟨⟨0, ((upd zk (zt + 1).toNatClampNeg p1), (upd zn (zt + 1).toNatClampNeg p2), (upd zi (zt + 1).toNatClampNeg (zs (p2 &&& 7).toNatClampNeg)), (zt + 1), (upd zs p0.toNatClampNeg (zt + 1)), zr, zd, zy, zm, zc, zv, (yShift ze 20), (zo + 1)), rfl, by first | (simp only [zMake, zMk, zMk1, zMk0, zS, zNew, zN, zE, yk, yn, yi, yt, ys, yr, yd, yy, ym, yc, yv, ye, yo, b3, b6, c7, c8, c9, eq_true c10, c44, eq_self, ↓reduceIte, Bool.false_eq_true, Bool.not_false, Bool.not_true, Bool.and_true, Bool.and_false, Bool.true_and, Bool.false_and, decide_true, decide_false] <;> first | done | decide) | (simp only [zMake, zMk, zMk1, zMk0, zS, zNew, zN, zE, yk, yn, yi, yt, ys, yr, yd, yy, ym, yc, yv, ye, yo, b3, b6, c7, c8, c9, c10, c44, eq_self, ↓reduceIte, Bool.false_eq_true, Bool.not_false, Bool.not_true, Bool.and_true, Bool.and_false, Bool.true_and, Bool.false_and, decide_true, decide_false] <;> first | done | decide) | (simp [zMake, zMk, zMk1, zMk0, zS, zNew, zN, zE, yk, yn, yi, yt, ys, yr, yd, yy, ym, yc, yv, ye, yo, b3, b6, c7, c8, c9, c10, c44]; done) | (simp [zMake, zMk, zMk1, zMk0, zS, zNew, zN, zE, yk, yn, yi, yt, ys, yr, yd, yy, ym, yc, yv, ye, yo, b3, b6, c7, c8, c9, eq_true c10, c44]; done), by rw [ht]; exact hP, va_K.moved hW.alike hK, hD⟩, hS.F ht⟩) hS.2.2 dY_make_194
              · refine lv_aload_n hx hb dY_make_186 rfl (lv_at hl 1 rfl) ?_
                refine lv_iload_n hx hb dY_make_187 rfl (lv_at hl 4 rfl) ?_
                refine lv_iconst (v := 1) hx hb dY_make_188 (by decide) ?_
                refine lv_iadd hx hb dY_make_189 ?_
                have hf45 := xFree hD hS hA
                refine va_callv (va_runV (As := [.int (p2 + 1)]) (rest := []) ⟨hx, hb, hml, hown, hts⟩ (j_note l D G ((upd zk (zt + 1).toNatClampNeg p1), (upd zn (zt + 1).toNatClampNeg p2), (upd zi (zt + 1).toNatClampNeg (zs (p2 &&& 7).toNatClampNeg)), (zt + 1), (upd zs p0.toNatClampNeg (zt + 1)), zr, zd, zy, zm, zc, zv, (yShift ze 20), (zo + 1))  H.size (p2 + 1)) (cwV 1 hts (yV ylY_56 ym_note ys_note yc_note) rfl rfl rfl (by decide +kernel) ⟨Nat.le_of_ble_eq_true rfl, Nat.le_of_ble_eq_true rfl⟩) (yPre hK hP hD _) rfl rfl hl.1 rfl (lv_room (Nat.le_of_ble_eq_true rfl)) dY_make_190 ⟨Nat.le_of_ble_eq_true rfl, Nat.le_of_ble_eq_true rfl⟩) hS (fun q _ h => hf45 q h) hf45 (fun v47 t49 H1 locs ht hvm hw48 hB hz1 hk1 hS => ?_)
                obtain ⟨hP1, hK1, hD1⟩ := hB
                rw [ht] at hP1
                replace hD1 := hD1.weaken (fun _ _ _ h => hf45 _ h)
                generalize H1 = H at hP1 hS ⊢
                obtain rfl := (show v47 = ((upd zk (zt + 1).toNatClampNeg p1), (upd zn (zt + 1).toNatClampNeg p2), (upd zi (zt + 1).toNatClampNeg (zs (p2 &&& 7).toNatClampNeg)), (zt + 1), (upd zs p0.toNatClampNeg (zt + 1)), zr, zd, zy, zm, zc, zv, (yShift (yShift ze 20) (p2 + 1)), ((zo + 1) + 1)) from hw48)
                have hP : va_P D vwCl (yW G ((upd zk (zt + 1).toNatClampNeg p1), (upd zn (zt + 1).toNatClampNeg p2), (upd zi (zt + 1).toNatClampNeg (zs (p2 &&& 7).toNatClampNeg)), (zt + 1), (upd zs p0.toNatClampNeg (zt + 1)), zr, zd, zy, zm, zc, zv, (yShift (yShift ze 20) (p2 + 1)), ((zo + 1) + 1))) H := hP1
                have hD : va_D A (yW G ((upd zk (zt + 1).toNatClampNeg p1), (upd zn (zt + 1).toNatClampNeg p2), (upd zi (zt + 1).toNatClampNeg (zs (p2 &&& 7).toNatClampNeg)), (zt + 1), (upd zs p0.toNatClampNeg (zt + 1)), zr, zd, zy, zm, zc, zv, (yShift (yShift ze 20) (p2 + 1)), ((zo + 1) + 1))) := hD1
                refine lv_iconst (v := 0) hx hb dY_make_193 (by decide) ?_
                exact W.iret (v := 0) hx hb hr (fun tE ht hW => ⟨⟨0, ((upd zk (zt + 1).toNatClampNeg p1), (upd zn (zt + 1).toNatClampNeg p2), (upd zi (zt + 1).toNatClampNeg (zs (p2 &&& 7).toNatClampNeg)), (zt + 1), (upd zs p0.toNatClampNeg (zt + 1)), zr, zd, zy, zm, zc, zv, (yShift (yShift ze 20) (p2 + 1)), ((zo + 1) + 1)), rfl, by first | (simp only [zMake, zMk, zMk1, zMk0, zS, zNew, zN, zE, yk, yn, yi, yt, ys, yr, yd, yy, ym, yc, yv, ye, yo, b3, b6, c7, c8, c9, eq_true c10, eq_true c44, eq_self, ↓reduceIte, Bool.false_eq_true, Bool.not_false, Bool.not_true, Bool.and_true, Bool.and_false, Bool.true_and, Bool.false_and, decide_true, decide_false] <;> first | done | decide) | (simp only [zMake, zMk, zMk1, zMk0, zS, zNew, zN, zE, yk, yn, yi, yt, ys, yr, yd, yy, ym, yc, yv, ye, yo, b3, b6, c7, c8, c9, c10, c44, eq_self, ↓reduceIte, Bool.false_eq_true, Bool.not_false, Bool.not_true, Bool.and_true, Bool.and_false, Bool.true_and, Bool.false_and, decide_true, decide_false] <;> first | done | decide) | (simp [zMake, zMk, zMk1, zMk0, zS, zNew, zN, zE, yk, yn, yi, yt, ys, yr, yd, yy, ym, yc, yv, ye, yo, b3, b6, c7, c8, c9, c10, c44]; done) | (simp [zMake, zMk, zMk1, zMk0, zS, zNew, zN, zE, yk, yn, yi, yt, ys, yr, yd, yy, ym, yc, yv, ye, yo, b3, b6, c7, c8, c9, eq_true c10, eq_true c44]; done), by rw [ht]; exact hP, va_K.moved hW.alike hK, hD⟩, hS.F ht⟩) hS.2.2 dY_make_194
          · refine lv_iload hx hb dY_make_67 (lv_at hl 0 rfl) ?_
            refine lv_if_ne (tgt := 74) hx hb dY_make_69 (by decide) (fun c50 => ?_) (fun c50 => ?_)
            · refine lv_iload_n hx hb dY_make_74 rfl (lv_at hl 3 rfl) ?_
              refine lv_bipush (v := 8) hx hb dY_make_75 (by decide) ?_
              refine lv_icmp_ne (tgt := 92) hx hb dY_make_77 (by decide) (fun cz => absurd c9 cz) (fun _ => ?_)
              refine lv_aload_n hx hb dY_make_80 rfl (lv_at hl 1 rfl) ?_
              refine lv_iload hx hb dY_make_81 (lv_at hl 0 rfl) ?_
              have hf51 := xFree hD hS hA
              refine va_calli (va_runV (As := [.int (zs (p2 &&& 7).toNatClampNeg)]) (rest := []) ⟨hx, hb, hml, hown, hts⟩ (j_depth l D G (zk, zn, zi, zt, zs, zr, zd, zy, zm, zc, zv, ze, zo) hok H.size (zs (p2 &&& 7).toNatClampNeg) (hok.2.1 _ (hok.2.2.1 _))) (cwV 1 hts (yV ylY_52 ym_depth ys_depth yc_depth) rfl rfl rfl (by decide +kernel) ⟨Nat.le_of_ble_eq_true rfl, Nat.le_of_ble_eq_true rfl⟩) (yPre hK hP hD _) rfl rfl hl.1 rfl (lv_room (Nat.le_of_ble_eq_true rfl)) dY_make_83 ⟨Nat.le_of_ble_eq_true rfl, Nat.le_of_ble_eq_true rfl⟩) hS (fun q _ h => hf51 q h) hf51 (fun r52 v53 t55 H1 locs ht hvm hw54 hB hz1 hk1 hS => ?_)
              obtain ⟨hP1, hK1, hD1⟩ := hB
              rw [ht] at hP1
              replace hD1 := hD1.weaken (fun _ _ _ h => hf51 _ h)
              generalize H1 = H at hP1 hS ⊢
              obtain ⟨rfl, rfl⟩ := Prod.mk.inj (show (r52, v53) = ((fDep zk zi 4 (zs (p2 &&& 7).toNatClampNeg) 0), (zk, zn, zi, zt, zs, zr, zd, zy, zm, zc, zv, ze, zo)) from hw54)
              have hP : va_P D vwCl (yW G (zk, zn, zi, zt, zs, zr, zd, zy, zm, zc, zv, ze, zo)) H := hP1
              have hD : va_D A (yW G (zk, zn, zi, zt, zs, zr, zd, zy, zm, zc, zv, ze, zo)) := hD1
              refine lv_iconst (v := 3) hx hb dY_make_86 (by decide) ?_
              refine lv_icmp_ne (tgt := 92) hx hb dY_make_87 (by decide) (fun c56 => ?_) (fun c56 => ?_)
              · refine lv_aload_n hx hb dY_make_92 rfl (lv_at hl 1 rfl) ?_
                refine lv_dup hx hb dY_make_93 rfl ?_
                refine va_get (D := D) (ci := 2) (v := .int zt) (C := RY) (T := TY) (N := 13) hx hb hty inY hown hK hP 0 rfl rfl 3 (by decide) (hty _ yf_19) (fun _ h9 => h9) rfl dY_make_94 ?_
                refine lv_iconst (v := 1) hx hb dY_make_97 (by decide) ?_
                refine lv_iadd hx hb dY_make_98 ?_
                refine va_put (D := D) (ci := 2) (v := .int (zt + 1)) (ty := .int) (C := RY) (T := TY) (N := 13) hx hb hty inY tyY tyY_ok nmY hown hK hP hD hS 0 rfl rfl 3 (by decide) (hty _ yf_19) (fun _ h9 => h9) rfl (by decide +kernel) rfl rfl (Nat.le_of_ble_eq_true rfl) dY_make_99 (fun H locs hP hD hS => ?_)
                have hP : va_P D vwCl (yW G (zk, zn, zi, (zt + 1), zs, zr, zd, zy, zm, zc, zv, ze, zo)) H := hP
                have hD : va_D A (yW G (zk, zn, zi, (zt + 1), zs, zr, zd, zy, zm, zc, zv, ze, zo)) := hD
                refine lv_aload_n hx hb dY_make_102 rfl (lv_at hl 1 rfl) ?_
                refine va_get (D := D) (ci := 2) (v := .ref G.2.1) (C := RY) (T := TY) (N := 13) hx hb hty inY hown hK hP 0 rfl rfl 0 (by decide) (hty _ yf_7) (fun _ h9 => h9) rfl dY_make_103 ?_
                refine lv_aload_n hx hb dY_make_106 rfl (lv_at hl 1 rfl) ?_
                refine va_get (D := D) (ci := 2) (v := .int (zt + 1)) (C := RY) (T := TY) (N := 13) hx hb hty inY hown hK hP 0 rfl rfl 3 (by decide) (hty _ yf_19) (fun _ h9 => h9) rfl dY_make_107 ?_
                refine lv_iload_n hx hb dY_make_110 rfl (lv_at hl 3 rfl) ?_
                refine va_iast hx hb hK hP hD hS 1 0 rfl rfl hth dY_make_111 (fun H locs hP hD hS => ?_)
                have hP : va_P D vwCl (yW G ((upd zk (zt + 1).toNatClampNeg p1), zn, zi, (zt + 1), zs, zr, zd, zy, zm, zc, zv, ze, zo)) H := hP
                have hD : va_D A (yW G ((upd zk (zt + 1).toNatClampNeg p1), zn, zi, (zt + 1), zs, zr, zd, zy, zm, zc, zv, ze, zo)) := hD
                refine lv_aload_n hx hb dY_make_112 rfl (lv_at hl 1 rfl) ?_
                refine va_get (D := D) (ci := 2) (v := .ref G.2.2.1) (C := RY) (T := TY) (N := 13) hx hb hty inY hown hK hP 0 rfl rfl 1 (by decide) (hty _ yf_13) (fun _ h9 => h9) rfl dY_make_113 ?_
                refine lv_aload_n hx hb dY_make_116 rfl (lv_at hl 1 rfl) ?_
                refine va_get (D := D) (ci := 2) (v := .int (zt + 1)) (C := RY) (T := TY) (N := 13) hx hb hty inY hown hK hP 0 rfl rfl 3 (by decide) (hty _ yf_19) (fun _ h9 => h9) rfl dY_make_117 ?_
                refine lv_iload_n hx hb dY_make_120 rfl (lv_at hl 4 rfl) ?_
                refine va_iast hx hb hK hP hD hS 2 1 rfl rfl hth dY_make_121 (fun H locs hP hD hS => ?_)
                have hP : va_P D vwCl (yW G ((upd zk (zt + 1).toNatClampNeg p1), (upd zn (zt + 1).toNatClampNeg p2), zi, (zt + 1), zs, zr, zd, zy, zm, zc, zv, ze, zo)) H := hP
                have hD : va_D A (yW G ((upd zk (zt + 1).toNatClampNeg p1), (upd zn (zt + 1).toNatClampNeg p2), zi, (zt + 1), zs, zr, zd, zy, zm, zc, zv, ze, zo)) := hD
                refine lv_aload_n hx hb dY_make_122 rfl (lv_at hl 1 rfl) ?_
                refine va_get (D := D) (ci := 2) (v := .ref G.2.2.2.1) (C := RY) (T := TY) (N := 13) hx hb hty inY hown hK hP 0 rfl rfl 2 (by decide) (hty _ yf_16) (fun _ h9 => h9) rfl dY_make_123 ?_
                refine lv_aload_n hx hb dY_make_126 rfl (lv_at hl 1 rfl) ?_
                refine va_get (D := D) (ci := 2) (v := .int (zt + 1)) (C := RY) (T := TY) (N := 13) hx hb hty inY hown hK hP 0 rfl rfl 3 (by decide) (hty _ yf_19) (fun _ h9 => h9) rfl dY_make_127 ?_
                refine lv_iload hx hb dY_make_130 (lv_at hl 0 rfl) ?_
                refine va_iast hx hb hK hP hD hS 3 2 rfl rfl hth dY_make_132 (fun H locs hP hD hS => ?_)
                have hP : va_P D vwCl (yW G ((upd zk (zt + 1).toNatClampNeg p1), (upd zn (zt + 1).toNatClampNeg p2), (upd zi (zt + 1).toNatClampNeg (zs (p2 &&& 7).toNatClampNeg)), (zt + 1), zs, zr, zd, zy, zm, zc, zv, ze, zo)) H := hP
                have hD : va_D A (yW G ((upd zk (zt + 1).toNatClampNeg p1), (upd zn (zt + 1).toNatClampNeg p2), (upd zi (zt + 1).toNatClampNeg (zs (p2 &&& 7).toNatClampNeg)), (zt + 1), zs, zr, zd, zy, zm, zc, zv, ze, zo)) := hD
                refine lv_aload_n hx hb dY_make_133 rfl (lv_at hl 1 rfl) ?_
                refine va_get (D := D) (ci := 2) (v := .ref G.2.2.2.2.1) (C := RY) (T := TY) (N := 13) hx hb hty inY hown hK hP 0 rfl rfl 4 (by decide) (hty _ yf_23) (fun _ h9 => h9) rfl dY_make_134 ?_
                refine lv_iload_n hx hb dY_make_137 rfl (lv_at hl 2 rfl) ?_
                refine lv_aload_n hx hb dY_make_138 rfl (lv_at hl 1 rfl) ?_
                refine va_get (D := D) (ci := 2) (v := .int (zt + 1)) (C := RY) (T := TY) (N := 13) hx hb hty inY hown hK hP 0 rfl rfl 3 (by decide) (hty _ yf_19) (fun _ h9 => h9) rfl dY_make_139 ?_
                refine va_iast hx hb hK hP hD hS 4 3 rfl rfl (fIn_in7 b3) dY_make_142 (fun H locs hP hD hS => ?_)
                have hP : va_P D vwCl (yW G ((upd zk (zt + 1).toNatClampNeg p1), (upd zn (zt + 1).toNatClampNeg p2), (upd zi (zt + 1).toNatClampNeg (zs (p2 &&& 7).toNatClampNeg)), (zt + 1), (upd zs p0.toNatClampNeg (zt + 1)), zr, zd, zy, zm, zc, zv, ze, zo)) H := hP
                have hD : va_D A (yW G ((upd zk (zt + 1).toNatClampNeg p1), (upd zn (zt + 1).toNatClampNeg p2), (upd zi (zt + 1).toNatClampNeg (zs (p2 &&& 7).toNatClampNeg)), (zt + 1), (upd zs p0.toNatClampNeg (zt + 1)), zr, zd, zy, zm, zc, zv, ze, zo)) := hD
                refine lv_iload_n hx hb dY_make_143 rfl (lv_at hl 3 rfl) ?_
                refine lv_if_ne (tgt := 156) hx hb dY_make_144 (by decide) (fun c57 => ?_) (fun c57 => ?_)
                · refine lv_aload_n hx hb dY_make_156 rfl (lv_at hl 1 rfl) ?_
                  refine lv_aload_n hx hb dY_make_157 rfl (lv_at hl 1 rfl) ?_
                  refine va_get (D := D) (ci := 2) (v := .int (zt + 1)) (C := RY) (T := TY) (N := 13) hx hb hty inY hown hK hP 0 rfl rfl 3 (by decide) (hty _ yf_19) (fun _ h9 => h9) rfl dY_make_158 ?_
                  refine lv_iconst (v := 3) hx hb dY_make_161 (by decide) ?_
                  have hf58 := xFree hD hS hA
                  refine va_calli (va_runV (As := [.int (zt + 1), .int 3]) (rest := []) ⟨hx, hb, hml, hown, hts⟩ (j_of l D G ((upd zk (zt + 1).toNatClampNeg p1), (upd zn (zt + 1).toNatClampNeg p2), (upd zi (zt + 1).toNatClampNeg (zs (p2 &&& 7).toNatClampNeg)), (zt + 1), (upd zs p0.toNatClampNeg (zt + 1)), zr, zd, zy, zm, zc, zv, ze, zo)  H.size (zt + 1) 3 hth (by show vp_in ((upd zk (zt + 1).toNatClampNeg p1) (zt + 1).toNatClampNeg) 10; rw [pk_us]; exact (fIn_in9 b6))) (cwV 2 hts (yV ylY_60 ym_of ys_of yc_of) rfl rfl rfl (by decide +kernel) ⟨Nat.le_of_ble_eq_true rfl, Nat.le_of_ble_eq_true rfl⟩) (yPre hK hP hD _) rfl rfl hl.1 rfl (lv_room (Nat.le_of_ble_eq_true rfl)) dY_make_162 ⟨Nat.le_of_ble_eq_true rfl, Nat.le_of_ble_eq_true rfl⟩) hS (fun q _ h => hf58 q h) hf58 (fun r59 v60 t62 H1 locs ht hvm hw61 hB hz1 hk1 hS => ?_)
                  obtain ⟨hP1, hK1, hD1⟩ := hB
                  rw [ht] at hP1
                  replace hD1 := hD1.weaken (fun _ _ _ h => hf58 _ h)
                  generalize H1 = H at hP1 hS ⊢
                  obtain ⟨zhw61, rfl⟩ := Prod.mk.inj (show (r59, v60) = (bI (fOf ((upd zk (zt + 1).toNatClampNeg p1), (upd zn (zt + 1).toNatClampNeg p2), (upd zi (zt + 1).toNatClampNeg (zs (p2 &&& 7).toNatClampNeg)), (zt + 1), (upd zs p0.toNatClampNeg (zt + 1)), zr, zd, zy, zm, zc, zv, ze, zo) (zt + 1) 3), ((upd zk (zt + 1).toNatClampNeg p1), (upd zn (zt + 1).toNatClampNeg p2), (upd zi (zt + 1).toNatClampNeg (zs (p2 &&& 7).toNatClampNeg)), (zt + 1), (upd zs p0.toNatClampNeg (zt + 1)), zr, zd, zy, zm, zc, zv, ze, zo)) from hw61)
                  have hP : va_P D vwCl (yW G ((upd zk (zt + 1).toNatClampNeg p1), (upd zn (zt + 1).toNatClampNeg p2), (upd zi (zt + 1).toNatClampNeg (zs (p2 &&& 7).toNatClampNeg)), (zt + 1), (upd zs p0.toNatClampNeg (zt + 1)), zr, zd, zy, zm, zc, zv, ze, zo)) H := hP1
                  have hD : va_D A (yW G ((upd zk (zt + 1).toNatClampNeg p1), (upd zn (zt + 1).toNatClampNeg p2), (upd zi (zt + 1).toNatClampNeg (zs (p2 &&& 7).toNatClampNeg)), (zt + 1), (upd zs p0.toNatClampNeg (zt + 1)), zr, zd, zy, zm, zc, zv, ze, zo)) := hD1
                  rcases bI_c zhw61 with ⟨rfl, b63⟩ | ⟨rfl, b63⟩
                  · refine lv_if_eq (tgt := 180) hx hb dY_make_165 (by decide) (fun cz => absurd cz (by decide)) (fun _ => ?_)
                    refine lv_aload_n hx hb dY_make_168 rfl (lv_at hl 1 rfl) ?_
                    refine lv_aload_n hx hb dY_make_169 rfl (lv_at hl 1 rfl) ?_
                    refine lv_aload_n hx hb dY_make_170 rfl (lv_at hl 1 rfl) ?_
                    refine va_get (D := D) (ci := 2) (v := .int (zt + 1)) (C := RY) (T := TY) (N := 13) hx hb hty inY hown hK hP 0 rfl rfl 3 (by decide) (hty _ yf_19) (fun _ h9 => h9) rfl dY_make_171 ?_
                    have hf64 := xFree hD hS hA
                    refine va_calli (va_runV (As := [.int (zt + 1)]) (rest := [.ref G.1]) ⟨hx, hb, hml, hown, hts⟩ (j_seed l D G ((upd zk (zt + 1).toNatClampNeg p1), (upd zn (zt + 1).toNatClampNeg p2), (upd zi (zt + 1).toNatClampNeg (zs (p2 &&& 7).toNatClampNeg)), (zt + 1), (upd zs p0.toNatClampNeg (zt + 1)), zr, zd, zy, zm, zc, zv, ze, zo)  H.size (zt + 1) hth) (cwV 1 hts (yV ylY_64 ym_seed ys_seed yc_seed) rfl rfl rfl (by decide +kernel) ⟨Nat.le_of_ble_eq_true rfl, Nat.le_of_ble_eq_true rfl⟩) (yPre hK hP hD _) rfl rfl hl.1 rfl (lv_room (Nat.le_of_ble_eq_true rfl)) dY_make_174 ⟨Nat.le_of_ble_eq_true rfl, Nat.le_of_ble_eq_true rfl⟩) hS (fun q _ h => hf64 q h) hf64 (fun r65 v66 t68 H1 locs ht hvm hw67 hB hz1 hk1 hS => ?_)
                    obtain ⟨hP1, hK1, hD1⟩ := hB
                    rw [ht] at hP1
                    replace hD1 := hD1.weaken (fun _ _ _ h => hf64 _ h)
                    generalize H1 = H at hP1 hS ⊢
                    obtain ⟨rfl, rfl⟩ := Prod.mk.inj (show (r65, v66) = ((zSeed ((upd zk (zt + 1).toNatClampNeg p1), (upd zn (zt + 1).toNatClampNeg p2), (upd zi (zt + 1).toNatClampNeg (zs (p2 &&& 7).toNatClampNeg)), (zt + 1), (upd zs p0.toNatClampNeg (zt + 1)), zr, zd, zy, zm, zc, zv, ze, zo) (zt + 1)), ((upd zk (zt + 1).toNatClampNeg p1), (upd zn (zt + 1).toNatClampNeg p2), (upd zi (zt + 1).toNatClampNeg (zs (p2 &&& 7).toNatClampNeg)), (zt + 1), (upd zs p0.toNatClampNeg (zt + 1)), zr, zd, zy, zm, zc, zv, ze, zo)) from hw67)
                    have hP : va_P D vwCl (yW G ((upd zk (zt + 1).toNatClampNeg p1), (upd zn (zt + 1).toNatClampNeg p2), (upd zi (zt + 1).toNatClampNeg (zs (p2 &&& 7).toNatClampNeg)), (zt + 1), (upd zs p0.toNatClampNeg (zt + 1)), zr, zd, zy, zm, zc, zv, ze, zo)) H := hP1
                    have hD : va_D A (yW G ((upd zk (zt + 1).toNatClampNeg p1), (upd zn (zt + 1).toNatClampNeg p2), (upd zi (zt + 1).toNatClampNeg (zs (p2 &&& 7).toNatClampNeg)), (zt + 1), (upd zs p0.toNatClampNeg (zt + 1)), zr, zd, zy, zm, zc, zv, ze, zo)) := hD1
                    have hf69 := xFree hD hS hA
                    refine va_callv (va_runV (As := [.int (zSeed ((upd zk (zt + 1).toNatClampNeg p1), (upd zn (zt + 1).toNatClampNeg p2), (upd zi (zt + 1).toNatClampNeg (zs (p2 &&& 7).toNatClampNeg)), (zt + 1), (upd zs p0.toNatClampNeg (zt + 1)), zr, zd, zy, zm, zc, zv, ze, zo) (zt + 1))]) (rest := []) ⟨hx, hb, hml, hown, hts⟩ (j_note l D G ((upd zk (zt + 1).toNatClampNeg p1), (upd zn (zt + 1).toNatClampNeg p2), (upd zi (zt + 1).toNatClampNeg (zs (p2 &&& 7).toNatClampNeg)), (zt + 1), (upd zs p0.toNatClampNeg (zt + 1)), zr, zd, zy, zm, zc, zv, ze, zo)  H.size (zSeed ((upd zk (zt + 1).toNatClampNeg p1), (upd zn (zt + 1).toNatClampNeg p2), (upd zi (zt + 1).toNatClampNeg (zs (p2 &&& 7).toNatClampNeg)), (zt + 1), (upd zs p0.toNatClampNeg (zt + 1)), zr, zd, zy, zm, zc, zv, ze, zo) (zt + 1))) (cwV 1 hts (yV ylY_56 ym_note ys_note yc_note) rfl rfl rfl (by decide +kernel) ⟨Nat.le_of_ble_eq_true rfl, Nat.le_of_ble_eq_true rfl⟩) (yPre hK hP hD _) rfl rfl hl.1 rfl (lv_room (Nat.le_of_ble_eq_true rfl)) dY_make_177 ⟨Nat.le_of_ble_eq_true rfl, Nat.le_of_ble_eq_true rfl⟩) hS (fun q _ h => hf69 q h) hf69 (fun v71 t73 H1 locs ht hvm hw72 hB hz1 hk1 hS => ?_)
                    obtain ⟨hP1, hK1, hD1⟩ := hB
                    rw [ht] at hP1
                    replace hD1 := hD1.weaken (fun _ _ _ h => hf69 _ h)
                    generalize H1 = H at hP1 hS ⊢
                    obtain rfl := (show v71 = ((upd zk (zt + 1).toNatClampNeg p1), (upd zn (zt + 1).toNatClampNeg p2), (upd zi (zt + 1).toNatClampNeg (zs (p2 &&& 7).toNatClampNeg)), (zt + 1), (upd zs p0.toNatClampNeg (zt + 1)), zr, zd, zy, zm, zc, zv, (yShift ze (zSeed ((upd zk (zt + 1).toNatClampNeg p1), (upd zn (zt + 1).toNatClampNeg p2), (upd zi (zt + 1).toNatClampNeg (zs (p2 &&& 7).toNatClampNeg)), (zt + 1), (upd zs p0.toNatClampNeg (zt + 1)), zr, zd, zy, zm, zc, zv, ze, zo) (zt + 1))), (zo + 1)) from hw72)
                    have hP : va_P D vwCl (yW G ((upd zk (zt + 1).toNatClampNeg p1), (upd zn (zt + 1).toNatClampNeg p2), (upd zi (zt + 1).toNatClampNeg (zs (p2 &&& 7).toNatClampNeg)), (zt + 1), (upd zs p0.toNatClampNeg (zt + 1)), zr, zd, zy, zm, zc, zv, (yShift ze (zSeed ((upd zk (zt + 1).toNatClampNeg p1), (upd zn (zt + 1).toNatClampNeg p2), (upd zi (zt + 1).toNatClampNeg (zs (p2 &&& 7).toNatClampNeg)), (zt + 1), (upd zs p0.toNatClampNeg (zt + 1)), zr, zd, zy, zm, zc, zv, ze, zo) (zt + 1))), (zo + 1))) H := hP1
                    have hD : va_D A (yW G ((upd zk (zt + 1).toNatClampNeg p1), (upd zn (zt + 1).toNatClampNeg p2), (upd zi (zt + 1).toNatClampNeg (zs (p2 &&& 7).toNatClampNeg)), (zt + 1), (upd zs p0.toNatClampNeg (zt + 1)), zr, zd, zy, zm, zc, zv, (yShift ze (zSeed ((upd zk (zt + 1).toNatClampNeg p1), (upd zn (zt + 1).toNatClampNeg p2), (upd zi (zt + 1).toNatClampNeg (zs (p2 &&& 7).toNatClampNeg)), (zt + 1), (upd zs p0.toNatClampNeg (zt + 1)), zr, zd, zy, zm, zc, zv, ze, zo) (zt + 1))), (zo + 1))) := hD1
                    refine lv_iload_n hx hb dY_make_180 rfl (lv_at hl 3 rfl) ?_
                    refine lv_bipush (v := 9) hx hb dY_make_181 (by decide) ?_
                    refine lv_icmp_ne (tgt := 193) hx hb dY_make_183 (by decide) (fun c74 => ?_) (fun c74 => ?_)
                    · refine lv_iconst (v := 0) hx hb dY_make_193 (by decide) ?_
                      exact W.iret (v := 0) hx hb hr (fun tE ht hW => ⟨⟨0, ((upd zk (zt + 1).toNatClampNeg p1), (upd zn (zt + 1).toNatClampNeg p2), (upd zi (zt + 1).toNatClampNeg (zs (p2 &&& 7).toNatClampNeg)), (zt + 1), (upd zs p0.toNatClampNeg (zt + 1)), zr, zd, zy, zm, zc, zv, (yShift ze (zSeed ((upd zk (zt + 1).toNatClampNeg p1), (upd zn (zt + 1).toNatClampNeg p2), (upd zi (zt + 1).toNatClampNeg (zs (p2 &&& 7).toNatClampNeg)), (zt + 1), (upd zs p0.toNatClampNeg (zt + 1)), zr, zd, zy, zm, zc, zv, ze, zo) (zt + 1))), (zo + 1)), rfl, by first | (simp only [zMake, zMk, zMk1, zMk0, zS, zNew, zN, zE, yk, yn, yi, yt, ys, yr, yd, yy, ym, yc, yv, ye, yo, b3, b6, c7, c8, eq_true c9, c50, c56, c57, b63, c74, eq_self, ↓reduceIte, Bool.false_eq_true, Bool.not_false, Bool.not_true, Bool.and_true, Bool.and_false, Bool.true_and, Bool.false_and, decide_true, decide_false] <;> first | done | decide) | (simp only [zMake, zMk, zMk1, zMk0, zS, zNew, zN, zE, yk, yn, yi, yt, ys, yr, yd, yy, ym, yc, yv, ye, yo, b3, b6, c7, c8, c9, c50, c56, c57, b63, c74, eq_self, ↓reduceIte, Bool.false_eq_true, Bool.not_false, Bool.not_true, Bool.and_true, Bool.and_false, Bool.true_and, Bool.false_and, decide_true, decide_false] <;> first | done | decide) | (simp [zMake, zMk, zMk1, zMk0, zS, zNew, zN, zE, yk, yn, yi, yt, ys, yr, yd, yy, ym, yc, yv, ye, yo, b3, b6, c7, c8, c9, c50, c56, c57, b63, c74]; done) | (simp [zMake, zMk, zMk1, zMk0, zS, zNew, zN, zE, yk, yn, yi, yt, ys, yr, yd, yy, ym, yc, yv, ye, yo, b3, b6, c7, c8, eq_true c9, c50, c56, c57, b63, c74]; done), by rw [ht]; exact hP, va_K.moved hW.alike hK, hD⟩, hS.F ht⟩) hS.2.2 dY_make_194
                    · refine lv_aload_n hx hb dY_make_186 rfl (lv_at hl 1 rfl) ?_
                      refine lv_iload_n hx hb dY_make_187 rfl (lv_at hl 4 rfl) ?_
                      refine lv_iconst (v := 1) hx hb dY_make_188 (by decide) ?_
                      refine lv_iadd hx hb dY_make_189 ?_
                      have hf75 := xFree hD hS hA
                      refine va_callv (va_runV (As := [.int (p2 + 1)]) (rest := []) ⟨hx, hb, hml, hown, hts⟩ (j_note l D G ((upd zk (zt + 1).toNatClampNeg p1), (upd zn (zt + 1).toNatClampNeg p2), (upd zi (zt + 1).toNatClampNeg (zs (p2 &&& 7).toNatClampNeg)), (zt + 1), (upd zs p0.toNatClampNeg (zt + 1)), zr, zd, zy, zm, zc, zv, (yShift ze (zSeed ((upd zk (zt + 1).toNatClampNeg p1), (upd zn (zt + 1).toNatClampNeg p2), (upd zi (zt + 1).toNatClampNeg (zs (p2 &&& 7).toNatClampNeg)), (zt + 1), (upd zs p0.toNatClampNeg (zt + 1)), zr, zd, zy, zm, zc, zv, ze, zo) (zt + 1))), (zo + 1))  H.size (p2 + 1)) (cwV 1 hts (yV ylY_56 ym_note ys_note yc_note) rfl rfl rfl (by decide +kernel) ⟨Nat.le_of_ble_eq_true rfl, Nat.le_of_ble_eq_true rfl⟩) (yPre hK hP hD _) rfl rfl hl.1 rfl (lv_room (Nat.le_of_ble_eq_true rfl)) dY_make_190 ⟨Nat.le_of_ble_eq_true rfl, Nat.le_of_ble_eq_true rfl⟩) hS (fun q _ h => hf75 q h) hf75 (fun v77 t79 H1 locs ht hvm hw78 hB hz1 hk1 hS => ?_)
                      obtain ⟨hP1, hK1, hD1⟩ := hB
                      rw [ht] at hP1
                      replace hD1 := hD1.weaken (fun _ _ _ h => hf75 _ h)
                      generalize H1 = H at hP1 hS ⊢
                      obtain rfl := (show v77 = ((upd zk (zt + 1).toNatClampNeg p1), (upd zn (zt + 1).toNatClampNeg p2), (upd zi (zt + 1).toNatClampNeg (zs (p2 &&& 7).toNatClampNeg)), (zt + 1), (upd zs p0.toNatClampNeg (zt + 1)), zr, zd, zy, zm, zc, zv, (yShift (yShift ze (zSeed ((upd zk (zt + 1).toNatClampNeg p1), (upd zn (zt + 1).toNatClampNeg p2), (upd zi (zt + 1).toNatClampNeg (zs (p2 &&& 7).toNatClampNeg)), (zt + 1), (upd zs p0.toNatClampNeg (zt + 1)), zr, zd, zy, zm, zc, zv, ze, zo) (zt + 1))) (p2 + 1)), ((zo + 1) + 1)) from hw78)
                      have hP : va_P D vwCl (yW G ((upd zk (zt + 1).toNatClampNeg p1), (upd zn (zt + 1).toNatClampNeg p2), (upd zi (zt + 1).toNatClampNeg (zs (p2 &&& 7).toNatClampNeg)), (zt + 1), (upd zs p0.toNatClampNeg (zt + 1)), zr, zd, zy, zm, zc, zv, (yShift (yShift ze (zSeed ((upd zk (zt + 1).toNatClampNeg p1), (upd zn (zt + 1).toNatClampNeg p2), (upd zi (zt + 1).toNatClampNeg (zs (p2 &&& 7).toNatClampNeg)), (zt + 1), (upd zs p0.toNatClampNeg (zt + 1)), zr, zd, zy, zm, zc, zv, ze, zo) (zt + 1))) (p2 + 1)), ((zo + 1) + 1))) H := hP1
                      have hD : va_D A (yW G ((upd zk (zt + 1).toNatClampNeg p1), (upd zn (zt + 1).toNatClampNeg p2), (upd zi (zt + 1).toNatClampNeg (zs (p2 &&& 7).toNatClampNeg)), (zt + 1), (upd zs p0.toNatClampNeg (zt + 1)), zr, zd, zy, zm, zc, zv, (yShift (yShift ze (zSeed ((upd zk (zt + 1).toNatClampNeg p1), (upd zn (zt + 1).toNatClampNeg p2), (upd zi (zt + 1).toNatClampNeg (zs (p2 &&& 7).toNatClampNeg)), (zt + 1), (upd zs p0.toNatClampNeg (zt + 1)), zr, zd, zy, zm, zc, zv, ze, zo) (zt + 1))) (p2 + 1)), ((zo + 1) + 1))) := hD1
                      refine lv_iconst (v := 0) hx hb dY_make_193 (by decide) ?_
                      exact W.iret (v := 0) hx hb hr (fun tE ht hW => ⟨⟨0, ((upd zk (zt + 1).toNatClampNeg p1), (upd zn (zt + 1).toNatClampNeg p2), (upd zi (zt + 1).toNatClampNeg (zs (p2 &&& 7).toNatClampNeg)), (zt + 1), (upd zs p0.toNatClampNeg (zt + 1)), zr, zd, zy, zm, zc, zv, (yShift (yShift ze (zSeed ((upd zk (zt + 1).toNatClampNeg p1), (upd zn (zt + 1).toNatClampNeg p2), (upd zi (zt + 1).toNatClampNeg (zs (p2 &&& 7).toNatClampNeg)), (zt + 1), (upd zs p0.toNatClampNeg (zt + 1)), zr, zd, zy, zm, zc, zv, ze, zo) (zt + 1))) (p2 + 1)), ((zo + 1) + 1)), rfl, by first | (simp only [zMake, zMk, zMk1, zMk0, zS, zNew, zN, zE, yk, yn, yi, yt, ys, yr, yd, yy, ym, yc, yv, ye, yo, b3, b6, c7, c8, eq_true c9, c50, c56, c57, b63, eq_true c74, eq_self, ↓reduceIte, Bool.false_eq_true, Bool.not_false, Bool.not_true, Bool.and_true, Bool.and_false, Bool.true_and, Bool.false_and, decide_true, decide_false] <;> first | done | decide) | (simp only [zMake, zMk, zMk1, zMk0, zS, zNew, zN, zE, yk, yn, yi, yt, ys, yr, yd, yy, ym, yc, yv, ye, yo, b3, b6, c7, c8, c9, c50, c56, c57, b63, c74, eq_self, ↓reduceIte, Bool.false_eq_true, Bool.not_false, Bool.not_true, Bool.and_true, Bool.and_false, Bool.true_and, Bool.false_and, decide_true, decide_false] <;> first | done | decide) | (simp [zMake, zMk, zMk1, zMk0, zS, zNew, zN, zE, yk, yn, yi, yt, ys, yr, yd, yy, ym, yc, yv, ye, yo, b3, b6, c7, c8, c9, c50, c56, c57, b63, c74]; done) | (simp [zMake, zMk, zMk1, zMk0, zS, zNew, zN, zE, yk, yn, yi, yt, ys, yr, yd, yy, ym, yc, yv, ye, yo, b3, b6, c7, c8, eq_true c9, c50, c56, c57, b63, eq_true c74]; done), by rw [ht]; exact hP, va_K.moved hW.alike hK, hD⟩, hS.F ht⟩) hS.2.2 dY_make_194
                  · refine lv_if_eq (tgt := 180) hx hb dY_make_165 (by decide) (fun _ => ?_) (fun cz => absurd cz (by decide))
                    refine lv_iload_n hx hb dY_make_180 rfl (lv_at hl 3 rfl) ?_
                    refine lv_bipush (v := 9) hx hb dY_make_181 (by decide) ?_
                    refine lv_icmp_ne (tgt := 193) hx hb dY_make_183 (by decide) (fun c80 => ?_) (fun c80 => ?_)
                    · refine lv_iconst (v := 0) hx hb dY_make_193 (by decide) ?_
                      exact W.iret (v := 0) hx hb hr (fun tE ht hW => ⟨⟨0, ((upd zk (zt + 1).toNatClampNeg p1), (upd zn (zt + 1).toNatClampNeg p2), (upd zi (zt + 1).toNatClampNeg (zs (p2 &&& 7).toNatClampNeg)), (zt + 1), (upd zs p0.toNatClampNeg (zt + 1)), zr, zd, zy, zm, zc, zv, ze, zo), rfl, by first | (simp only [zMake, zMk, zMk1, zMk0, zS, zNew, zN, zE, yk, yn, yi, yt, ys, yr, yd, yy, ym, yc, yv, ye, yo, b3, b6, c7, c8, eq_true c9, c50, c56, c57, b63, c80, eq_self, ↓reduceIte, Bool.false_eq_true, Bool.not_false, Bool.not_true, Bool.and_true, Bool.and_false, Bool.true_and, Bool.false_and, decide_true, decide_false] <;> first | done | decide) | (simp only [zMake, zMk, zMk1, zMk0, zS, zNew, zN, zE, yk, yn, yi, yt, ys, yr, yd, yy, ym, yc, yv, ye, yo, b3, b6, c7, c8, c9, c50, c56, c57, b63, c80, eq_self, ↓reduceIte, Bool.false_eq_true, Bool.not_false, Bool.not_true, Bool.and_true, Bool.and_false, Bool.true_and, Bool.false_and, decide_true, decide_false] <;> first | done | decide) | (simp [zMake, zMk, zMk1, zMk0, zS, zNew, zN, zE, yk, yn, yi, yt, ys, yr, yd, yy, ym, yc, yv, ye, yo, b3, b6, c7, c8, c9, c50, c56, c57, b63, c80]; done) | (simp [zMake, zMk, zMk1, zMk0, zS, zNew, zN, zE, yk, yn, yi, yt, ys, yr, yd, yy, ym, yc, yv, ye, yo, b3, b6, c7, c8, eq_true c9, c50, c56, c57, b63, c80]; done), by rw [ht]; exact hP, va_K.moved hW.alike hK, hD⟩, hS.F ht⟩) hS.2.2 dY_make_194
                    · refine lv_aload_n hx hb dY_make_186 rfl (lv_at hl 1 rfl) ?_
                      refine lv_iload_n hx hb dY_make_187 rfl (lv_at hl 4 rfl) ?_
                      refine lv_iconst (v := 1) hx hb dY_make_188 (by decide) ?_
                      refine lv_iadd hx hb dY_make_189 ?_
                      have hf81 := xFree hD hS hA
                      refine va_callv (va_runV (As := [.int (p2 + 1)]) (rest := []) ⟨hx, hb, hml, hown, hts⟩ (j_note l D G ((upd zk (zt + 1).toNatClampNeg p1), (upd zn (zt + 1).toNatClampNeg p2), (upd zi (zt + 1).toNatClampNeg (zs (p2 &&& 7).toNatClampNeg)), (zt + 1), (upd zs p0.toNatClampNeg (zt + 1)), zr, zd, zy, zm, zc, zv, ze, zo)  H.size (p2 + 1)) (cwV 1 hts (yV ylY_56 ym_note ys_note yc_note) rfl rfl rfl (by decide +kernel) ⟨Nat.le_of_ble_eq_true rfl, Nat.le_of_ble_eq_true rfl⟩) (yPre hK hP hD _) rfl rfl hl.1 rfl (lv_room (Nat.le_of_ble_eq_true rfl)) dY_make_190 ⟨Nat.le_of_ble_eq_true rfl, Nat.le_of_ble_eq_true rfl⟩) hS (fun q _ h => hf81 q h) hf81 (fun v83 t85 H1 locs ht hvm hw84 hB hz1 hk1 hS => ?_)
                      obtain ⟨hP1, hK1, hD1⟩ := hB
                      rw [ht] at hP1
                      replace hD1 := hD1.weaken (fun _ _ _ h => hf81 _ h)
                      generalize H1 = H at hP1 hS ⊢
                      obtain rfl := (show v83 = ((upd zk (zt + 1).toNatClampNeg p1), (upd zn (zt + 1).toNatClampNeg p2), (upd zi (zt + 1).toNatClampNeg (zs (p2 &&& 7).toNatClampNeg)), (zt + 1), (upd zs p0.toNatClampNeg (zt + 1)), zr, zd, zy, zm, zc, zv, (yShift ze (p2 + 1)), (zo + 1)) from hw84)
                      have hP : va_P D vwCl (yW G ((upd zk (zt + 1).toNatClampNeg p1), (upd zn (zt + 1).toNatClampNeg p2), (upd zi (zt + 1).toNatClampNeg (zs (p2 &&& 7).toNatClampNeg)), (zt + 1), (upd zs p0.toNatClampNeg (zt + 1)), zr, zd, zy, zm, zc, zv, (yShift ze (p2 + 1)), (zo + 1))) H := hP1
                      have hD : va_D A (yW G ((upd zk (zt + 1).toNatClampNeg p1), (upd zn (zt + 1).toNatClampNeg p2), (upd zi (zt + 1).toNatClampNeg (zs (p2 &&& 7).toNatClampNeg)), (zt + 1), (upd zs p0.toNatClampNeg (zt + 1)), zr, zd, zy, zm, zc, zv, (yShift ze (p2 + 1)), (zo + 1))) := hD1
                      refine lv_iconst (v := 0) hx hb dY_make_193 (by decide) ?_
                      exact W.iret (v := 0) hx hb hr (fun tE ht hW => ⟨⟨0, ((upd zk (zt + 1).toNatClampNeg p1), (upd zn (zt + 1).toNatClampNeg p2), (upd zi (zt + 1).toNatClampNeg (zs (p2 &&& 7).toNatClampNeg)), (zt + 1), (upd zs p0.toNatClampNeg (zt + 1)), zr, zd, zy, zm, zc, zv, (yShift ze (p2 + 1)), (zo + 1)), rfl, by first | (simp only [zMake, zMk, zMk1, zMk0, zS, zNew, zN, zE, yk, yn, yi, yt, ys, yr, yd, yy, ym, yc, yv, ye, yo, b3, b6, c7, c8, eq_true c9, c50, c56, c57, b63, eq_true c80, eq_self, ↓reduceIte, Bool.false_eq_true, Bool.not_false, Bool.not_true, Bool.and_true, Bool.and_false, Bool.true_and, Bool.false_and, decide_true, decide_false] <;> first | done | decide) | (simp only [zMake, zMk, zMk1, zMk0, zS, zNew, zN, zE, yk, yn, yi, yt, ys, yr, yd, yy, ym, yc, yv, ye, yo, b3, b6, c7, c8, c9, c50, c56, c57, b63, c80, eq_self, ↓reduceIte, Bool.false_eq_true, Bool.not_false, Bool.not_true, Bool.and_true, Bool.and_false, Bool.true_and, Bool.false_and, decide_true, decide_false] <;> first | done | decide) | (simp [zMake, zMk, zMk1, zMk0, zS, zNew, zN, zE, yk, yn, yi, yt, ys, yr, yd, yy, ym, yc, yv, ye, yo, b3, b6, c7, c8, c9, c50, c56, c57, b63, c80]; done) | (simp [zMake, zMk, zMk1, zMk0, zS, zNew, zN, zE, yk, yn, yi, yt, ys, yr, yd, yy, ym, yc, yv, ye, yo, b3, b6, c7, c8, eq_true c9, c50, c56, c57, b63, eq_true c80]; done), by rw [ht]; exact hP, va_K.moved hW.alike hK, hD⟩, hS.F ht⟩) hS.2.2 dY_make_194
                · refine lv_aload_n hx hb dY_make_147 rfl (lv_at hl 1 rfl) ?_
                  refine lv_bipush (v := 20) hx hb dY_make_148 (by decide) ?_
                  have hf86 := xFree hD hS hA
                  refine va_callv (va_runV (As := [.int 20]) (rest := []) ⟨hx, hb, hml, hown, hts⟩ (j_note l D G ((upd zk (zt + 1).toNatClampNeg p1), (upd zn (zt + 1).toNatClampNeg p2), (upd zi (zt + 1).toNatClampNeg (zs (p2 &&& 7).toNatClampNeg)), (zt + 1), (upd zs p0.toNatClampNeg (zt + 1)), zr, zd, zy, zm, zc, zv, ze, zo)  H.size 20) (cwV 1 hts (yV ylY_56 ym_note ys_note yc_note) rfl rfl rfl (by decide +kernel) ⟨Nat.le_of_ble_eq_true rfl, Nat.le_of_ble_eq_true rfl⟩) (yPre hK hP hD _) rfl rfl hl.1 rfl (lv_room (Nat.le_of_ble_eq_true rfl)) dY_make_150 ⟨Nat.le_of_ble_eq_true rfl, Nat.le_of_ble_eq_true rfl⟩) hS (fun q _ h => hf86 q h) hf86 (fun v88 t90 H1 locs ht hvm hw89 hB hz1 hk1 hS => ?_)
                  obtain ⟨hP1, hK1, hD1⟩ := hB
                  rw [ht] at hP1
                  replace hD1 := hD1.weaken (fun _ _ _ h => hf86 _ h)
                  generalize H1 = H at hP1 hS ⊢
                  obtain rfl := (show v88 = ((upd zk (zt + 1).toNatClampNeg p1), (upd zn (zt + 1).toNatClampNeg p2), (upd zi (zt + 1).toNatClampNeg (zs (p2 &&& 7).toNatClampNeg)), (zt + 1), (upd zs p0.toNatClampNeg (zt + 1)), zr, zd, zy, zm, zc, zv, (yShift ze 20), (zo + 1)) from hw89)
                  have hP : va_P D vwCl (yW G ((upd zk (zt + 1).toNatClampNeg p1), (upd zn (zt + 1).toNatClampNeg p2), (upd zi (zt + 1).toNatClampNeg (zs (p2 &&& 7).toNatClampNeg)), (zt + 1), (upd zs p0.toNatClampNeg (zt + 1)), zr, zd, zy, zm, zc, zv, (yShift ze 20), (zo + 1))) H := hP1
                  have hD : va_D A (yW G ((upd zk (zt + 1).toNatClampNeg p1), (upd zn (zt + 1).toNatClampNeg p2), (upd zi (zt + 1).toNatClampNeg (zs (p2 &&& 7).toNatClampNeg)), (zt + 1), (upd zs p0.toNatClampNeg (zt + 1)), zr, zd, zy, zm, zc, zv, (yShift ze 20), (zo + 1))) := hD1
                  refine lv_goto (tgt := 180) hx hb dY_make_153 (by decide) ?_
                  refine lv_iload_n hx hb dY_make_180 rfl (lv_at hl 3 rfl) ?_
                  refine lv_bipush (v := 9) hx hb dY_make_181 (by decide) ?_
                  refine lv_icmp_ne (tgt := 193) hx hb dY_make_183 (by decide) (fun c91 => ?_) (fun c91 => ?_)
                  · refine lv_iconst (v := 0) hx hb dY_make_193 (by decide) ?_
                    exact W.iret (v := 0) hx hb hr (fun tE ht hW => ⟨⟨0, ((upd zk (zt + 1).toNatClampNeg p1), (upd zn (zt + 1).toNatClampNeg p2), (upd zi (zt + 1).toNatClampNeg (zs (p2 &&& 7).toNatClampNeg)), (zt + 1), (upd zs p0.toNatClampNeg (zt + 1)), zr, zd, zy, zm, zc, zv, (yShift ze 20), (zo + 1)), rfl, by first | (simp only [zMake, zMk, zMk1, zMk0, zS, zNew, zN, zE, yk, yn, yi, yt, ys, yr, yd, yy, ym, yc, yv, ye, yo, b3, b6, c7, c8, eq_true c9, c50, c56, eq_true c57, c91, eq_self, ↓reduceIte, Bool.false_eq_true, Bool.not_false, Bool.not_true, Bool.and_true, Bool.and_false, Bool.true_and, Bool.false_and, decide_true, decide_false] <;> first | done | decide) | (simp only [zMake, zMk, zMk1, zMk0, zS, zNew, zN, zE, yk, yn, yi, yt, ys, yr, yd, yy, ym, yc, yv, ye, yo, b3, b6, c7, c8, c9, c50, c56, c57, c91, eq_self, ↓reduceIte, Bool.false_eq_true, Bool.not_false, Bool.not_true, Bool.and_true, Bool.and_false, Bool.true_and, Bool.false_and, decide_true, decide_false] <;> first | done | decide) | (simp [zMake, zMk, zMk1, zMk0, zS, zNew, zN, zE, yk, yn, yi, yt, ys, yr, yd, yy, ym, yc, yv, ye, yo, b3, b6, c7, c8, c9, c50, c56, c57, c91]; done) | (simp [zMake, zMk, zMk1, zMk0, zS, zNew, zN, zE, yk, yn, yi, yt, ys, yr, yd, yy, ym, yc, yv, ye, yo, b3, b6, c7, c8, eq_true c9, c50, c56, eq_true c57, c91]; done), by rw [ht]; exact hP, va_K.moved hW.alike hK, hD⟩, hS.F ht⟩) hS.2.2 dY_make_194
                  · refine lv_aload_n hx hb dY_make_186 rfl (lv_at hl 1 rfl) ?_
                    refine lv_iload_n hx hb dY_make_187 rfl (lv_at hl 4 rfl) ?_
                    refine lv_iconst (v := 1) hx hb dY_make_188 (by decide) ?_
                    refine lv_iadd hx hb dY_make_189 ?_
                    have hf92 := xFree hD hS hA
                    refine va_callv (va_runV (As := [.int (p2 + 1)]) (rest := []) ⟨hx, hb, hml, hown, hts⟩ (j_note l D G ((upd zk (zt + 1).toNatClampNeg p1), (upd zn (zt + 1).toNatClampNeg p2), (upd zi (zt + 1).toNatClampNeg (zs (p2 &&& 7).toNatClampNeg)), (zt + 1), (upd zs p0.toNatClampNeg (zt + 1)), zr, zd, zy, zm, zc, zv, (yShift ze 20), (zo + 1))  H.size (p2 + 1)) (cwV 1 hts (yV ylY_56 ym_note ys_note yc_note) rfl rfl rfl (by decide +kernel) ⟨Nat.le_of_ble_eq_true rfl, Nat.le_of_ble_eq_true rfl⟩) (yPre hK hP hD _) rfl rfl hl.1 rfl (lv_room (Nat.le_of_ble_eq_true rfl)) dY_make_190 ⟨Nat.le_of_ble_eq_true rfl, Nat.le_of_ble_eq_true rfl⟩) hS (fun q _ h => hf92 q h) hf92 (fun v94 t96 H1 locs ht hvm hw95 hB hz1 hk1 hS => ?_)
                    obtain ⟨hP1, hK1, hD1⟩ := hB
                    rw [ht] at hP1
                    replace hD1 := hD1.weaken (fun _ _ _ h => hf92 _ h)
                    generalize H1 = H at hP1 hS ⊢
                    obtain rfl := (show v94 = ((upd zk (zt + 1).toNatClampNeg p1), (upd zn (zt + 1).toNatClampNeg p2), (upd zi (zt + 1).toNatClampNeg (zs (p2 &&& 7).toNatClampNeg)), (zt + 1), (upd zs p0.toNatClampNeg (zt + 1)), zr, zd, zy, zm, zc, zv, (yShift (yShift ze 20) (p2 + 1)), ((zo + 1) + 1)) from hw95)
                    have hP : va_P D vwCl (yW G ((upd zk (zt + 1).toNatClampNeg p1), (upd zn (zt + 1).toNatClampNeg p2), (upd zi (zt + 1).toNatClampNeg (zs (p2 &&& 7).toNatClampNeg)), (zt + 1), (upd zs p0.toNatClampNeg (zt + 1)), zr, zd, zy, zm, zc, zv, (yShift (yShift ze 20) (p2 + 1)), ((zo + 1) + 1))) H := hP1
                    have hD : va_D A (yW G ((upd zk (zt + 1).toNatClampNeg p1), (upd zn (zt + 1).toNatClampNeg p2), (upd zi (zt + 1).toNatClampNeg (zs (p2 &&& 7).toNatClampNeg)), (zt + 1), (upd zs p0.toNatClampNeg (zt + 1)), zr, zd, zy, zm, zc, zv, (yShift (yShift ze 20) (p2 + 1)), ((zo + 1) + 1))) := hD1
                    refine lv_iconst (v := 0) hx hb dY_make_193 (by decide) ?_
                    exact W.iret (v := 0) hx hb hr (fun tE ht hW => ⟨⟨0, ((upd zk (zt + 1).toNatClampNeg p1), (upd zn (zt + 1).toNatClampNeg p2), (upd zi (zt + 1).toNatClampNeg (zs (p2 &&& 7).toNatClampNeg)), (zt + 1), (upd zs p0.toNatClampNeg (zt + 1)), zr, zd, zy, zm, zc, zv, (yShift (yShift ze 20) (p2 + 1)), ((zo + 1) + 1)), rfl, by first | (simp only [zMake, zMk, zMk1, zMk0, zS, zNew, zN, zE, yk, yn, yi, yt, ys, yr, yd, yy, ym, yc, yv, ye, yo, b3, b6, c7, c8, eq_true c9, c50, c56, eq_true c57, eq_true c91, eq_self, ↓reduceIte, Bool.false_eq_true, Bool.not_false, Bool.not_true, Bool.and_true, Bool.and_false, Bool.true_and, Bool.false_and, decide_true, decide_false] <;> first | done | decide) | (simp only [zMake, zMk, zMk1, zMk0, zS, zNew, zN, zE, yk, yn, yi, yt, ys, yr, yd, yy, ym, yc, yv, ye, yo, b3, b6, c7, c8, c9, c50, c56, c57, c91, eq_self, ↓reduceIte, Bool.false_eq_true, Bool.not_false, Bool.not_true, Bool.and_true, Bool.and_false, Bool.true_and, Bool.false_and, decide_true, decide_false] <;> first | done | decide) | (simp [zMake, zMk, zMk1, zMk0, zS, zNew, zN, zE, yk, yn, yi, yt, ys, yr, yd, yy, ym, yc, yv, ye, yo, b3, b6, c7, c8, c9, c50, c56, c57, c91]; done) | (simp [zMake, zMk, zMk1, zMk0, zS, zNew, zN, zE, yk, yn, yi, yt, ys, yr, yd, yy, ym, yc, yv, ye, yo, b3, b6, c7, c8, eq_true c9, c50, c56, eq_true c57, eq_true c91]; done), by rw [ht]; exact hP, va_K.moved hW.alike hK, hD⟩, hS.F ht⟩) hS.2.2 dY_make_194
              · refine lv_iconst (v := (-1)) hx hb dY_make_90 (by decide) ?_
                exact W.iret (v := (-1)) hx hb hr (fun tE ht hW => ⟨⟨(-1), (zk, zn, zi, zt, zs, zr, zd, zy, zm, zc, zv, ze, zo), rfl, by first | (simp only [zMake, zMk, zMk1, zMk0, zS, zNew, zN, zE, yk, yn, yi, yt, ys, yr, yd, yy, ym, yc, yv, ye, yo, b3, b6, c7, c8, eq_true c9, c50, eq_true c56, eq_self, ↓reduceIte, Bool.false_eq_true, Bool.not_false, Bool.not_true, Bool.and_true, Bool.and_false, Bool.true_and, Bool.false_and, decide_true, decide_false] <;> first | done | decide) | (simp only [zMake, zMk, zMk1, zMk0, zS, zNew, zN, zE, yk, yn, yi, yt, ys, yr, yd, yy, ym, yc, yv, ye, yo, b3, b6, c7, c8, c9, c50, c56, eq_self, ↓reduceIte, Bool.false_eq_true, Bool.not_false, Bool.not_true, Bool.and_true, Bool.and_false, Bool.true_and, Bool.false_and, decide_true, decide_false] <;> first | done | decide) | (simp [zMake, zMk, zMk1, zMk0, zS, zNew, zN, zE, yk, yn, yi, yt, ys, yr, yd, yy, ym, yc, yv, ye, yo, b3, b6, c7, c8, c9, c50, c56]; done) | (simp [zMake, zMk, zMk1, zMk0, zS, zNew, zN, zE, yk, yn, yi, yt, ys, yr, yd, yy, ym, yc, yv, ye, yo, b3, b6, c7, c8, eq_true c9, c50, eq_true c56]; done), by rw [ht]; exact hP, va_K.moved hW.alike hK, hD⟩, hS.F ht⟩) hS.2.2 dY_make_91
            · refine lv_iconst (v := 2) hx hb dY_make_72 (by decide) ?_
              exact W.iret (v := 2) hx hb hr (fun tE ht hW => ⟨⟨2, (zk, zn, zi, zt, zs, zr, zd, zy, zm, zc, zv, ze, zo), rfl, by first | (simp only [zMake, zMk, zMk1, zMk0, zS, zNew, zN, zE, yk, yn, yi, yt, ys, yr, yd, yy, ym, yc, yv, ye, yo, b3, b6, c7, c8, eq_true c9, eq_true c50, eq_self, ↓reduceIte, Bool.false_eq_true, Bool.not_false, Bool.not_true, Bool.and_true, Bool.and_false, Bool.true_and, Bool.false_and, decide_true, decide_false] <;> first | done | decide) | (simp only [zMake, zMk, zMk1, zMk0, zS, zNew, zN, zE, yk, yn, yi, yt, ys, yr, yd, yy, ym, yc, yv, ye, yo, b3, b6, c7, c8, c9, c50, eq_self, ↓reduceIte, Bool.false_eq_true, Bool.not_false, Bool.not_true, Bool.and_true, Bool.and_false, Bool.true_and, Bool.false_and, decide_true, decide_false] <;> first | done | decide) | (simp [zMake, zMk, zMk1, zMk0, zS, zNew, zN, zE, yk, yn, yi, yt, ys, yr, yd, yy, ym, yc, yv, ye, yo, b3, b6, c7, c8, c9, c50]; done) | (simp [zMake, zMk, zMk1, zMk0, zS, zNew, zN, zE, yk, yn, yi, yt, ys, yr, yd, yy, ym, yc, yv, ye, yo, b3, b6, c7, c8, eq_true c9, eq_true c50]; done), by rw [ht]; exact hP, va_K.moved hW.alike hK, hD⟩, hS.F ht⟩) hS.2.2 dY_make_73
        · refine lv_aload_n hx hb dY_make_32 rfl (lv_at hl 0 rfl) ?_
          refine va_get (D := D) (ci := 2) (v := .ref G.2.2.2.2.1) (C := RY) (T := TY) (N := 13) hx hb hty inY hown hK hP 0 rfl rfl 4 (by decide) (hty _ yf_23) (fun _ h9 => h9) rfl dY_make_33 ?_
          refine lv_iload_n hx hb dY_make_36 rfl (lv_at hl 1 rfl) ?_
          refine lv_iload_n hx hb dY_make_37 rfl (lv_at hl 2 rfl) ?_
          refine lv_iconst (v := 4) hx hb dY_make_38 (by decide) ?_
          refine lv_icmp_ne (tgt := 46) hx hb dY_make_39 (by decide) (fun _ => ?_) (fun cz => absurd cz c7)
          refine lv_iconst (v := 2) hx hb dY_make_46 (by decide) ?_
          refine va_iast hx hb hK hP hD hS 4 3 rfl rfl (fIn_in7 b3) dY_make_47 (fun H locs hP hD hS => ?_)
          have hP : va_P D vwCl (yW G (zk, zn, zi, zt, (upd zs p0.toNatClampNeg 2), zr, zd, zy, zm, zc, zv, ze, zo)) H := hP
          have hD : va_D A (yW G (zk, zn, zi, zt, (upd zs p0.toNatClampNeg 2), zr, zd, zy, zm, zc, zv, ze, zo)) := hD
          refine lv_iconst (v := 0) hx hb dY_make_48 (by decide) ?_
          exact W.iret (v := 0) hx hb hr (fun tE ht hW => ⟨⟨0, (zk, zn, zi, zt, (upd zs p0.toNatClampNeg 2), zr, zd, zy, zm, zc, zv, ze, zo), rfl, by first | (simp only [zMake, zMk, zMk1, zMk0, zS, zNew, zN, zE, yk, yn, yi, yt, ys, yr, yd, yy, ym, yc, yv, ye, yo, b3, b6, c7, eq_true c8, eq_self, ↓reduceIte, Bool.false_eq_true, Bool.not_false, Bool.not_true, Bool.and_true, Bool.and_false, Bool.true_and, Bool.false_and, decide_true, decide_false] <;> first | done | decide) | (simp only [zMake, zMk, zMk1, zMk0, zS, zNew, zN, zE, yk, yn, yi, yt, ys, yr, yd, yy, ym, yc, yv, ye, yo, b3, b6, c7, c8, eq_self, ↓reduceIte, Bool.false_eq_true, Bool.not_false, Bool.not_true, Bool.and_true, Bool.and_false, Bool.true_and, Bool.false_and, decide_true, decide_false] <;> first | done | decide) | (simp [zMake, zMk, zMk1, zMk0, zS, zNew, zN, zE, yk, yn, yi, yt, ys, yr, yd, yy, ym, yc, yv, ye, yo, b3, b6, c7, c8]; done) | (simp [zMake, zMk, zMk1, zMk0, zS, zNew, zN, zE, yk, yn, yi, yt, ys, yr, yd, yy, ym, yc, yv, ye, yo, b3, b6, c7, eq_true c8]; done), by rw [ht]; exact hP, va_K.moved hW.alike hK, hD⟩, hS.F ht⟩) hS.2.2 dY_make_49
    · refine lv_if_ne (tgt := 22) hx hb dY_make_17 (by decide) (fun cz => absurd cz (by decide)) (fun _ => ?_)
      refine lv_iconst (v := (-1)) hx hb dY_make_20 (by decide) ?_
      exact W.iret (v := (-1)) hx hb hr (fun tE ht hW => ⟨⟨(-1), (zk, zn, zi, zt, zs, zr, zd, zy, zm, zc, zv, ze, zo), rfl, by first | (simp only [zMake, zMk, zMk1, zMk0, zS, zNew, zN, zE, yk, yn, yi, yt, ys, yr, yd, yy, ym, yc, yv, ye, yo, b3, b6, eq_self, ↓reduceIte, Bool.false_eq_true, Bool.not_false, Bool.not_true, Bool.and_true, Bool.and_false, Bool.true_and, Bool.false_and, decide_true, decide_false] <;> first | done | decide) | (simp [zMake, zMk, zMk1, zMk0, zS, zNew, zN, zE, yk, yn, yi, yt, ys, yr, yd, yy, ym, yc, yv, ye, yo, b3, b6]; done), by rw [ht]; exact hP, va_K.moved hW.alike hK, hD⟩, hS.F ht⟩) hS.2.2 dY_make_21
  · refine lv_if_eq (tgt := 20) hx hb dY_make_7 (by decide) (fun _ => ?_) (fun cz => absurd cz (by decide))
    refine lv_iconst (v := (-1)) hx hb dY_make_20 (by decide) ?_
    exact W.iret (v := (-1)) hx hb hr (fun tE ht hW => ⟨⟨(-1), (zk, zn, zi, zt, zs, zr, zd, zy, zm, zc, zv, ze, zo), rfl, by first | (simp only [zMake, zMk, zMk1, zMk0, zS, zNew, zN, zE, yk, yn, yi, yt, ys, yr, yd, yy, ym, yc, yv, ye, yo, b3, eq_self, ↓reduceIte, Bool.false_eq_true, Bool.not_false, Bool.not_true, Bool.and_true, Bool.and_false, Bool.true_and, Bool.false_and, decide_true, decide_false] <;> first | done | decide) | (simp [zMake, zMk, zMk1, zMk0, zS, zNew, zN, zE, yk, yn, yi, yt, ys, yr, yd, yy, ym, yc, yv, ye, yo, b3]; done), by rw [ht]; exact hP, va_K.moved hW.alike hK, hD⟩, hS.F ht⟩) hS.2.2 dY_make_21
