set_option maxHeartbeats 8000000 in
set_option maxRecDepth 100000 in
theorem j_note (l : Launch) (D : va_G) (G : YF) (v : YS) (sz : Nat) (p0 : Int32) : Met l yY_note wY_note ({ frames := 0, cells := 0, slots := 0, locals := 0 }) (yPc D G v sz [.ref G.1, .int p0]) (va_Qv (fun w : YS => w = zN v p0) (yB D G (va_A (yW G v) sz)) (va_A (yW G v) sz)) 0 0 (va_A (yW G v) sz) := by
  obtain ⟨zk, zn, zi, zt, zs, zr, zd, zy, zm, zc, zv, ze, zo⟩ := v
  refine Met.ofW (cc := cY_note) (maxL := 3) (ret := (Option.none : Option Jvm.ClassFile.FieldType)) (by decide) rfl ?_
  intro p e s m args below meth c s₁ B hml hv
  obtain ⟨rfl, hsz, hP, hK, hD0⟩ := hv
  have hx := B.exec
  have hb := B.bytes
  have hr := B.returns
  have hts := atoms_spec (ws := wY_note) B.pre
  have hty : ∀ w ∈ yAll, w.before _ s = true := fun w h => hts w (List.mem_cons_of_mem _ h)
  have hown : s.vm.findClass RY = some m.cls := findClass_of_methodNamed B.named
  have hlocks := B.notSynchronized
  subst hsz
  have hD := hD0.self (sz := s.heap.size)
  generalize hAe : va_A (yW G (zk, zn, zi, zt, zs, zr, zd, zy, zm, zc, zv, ze, zo)) s.heap.size = A at hD ⊢
  have hA : ∀ q : Nat, s.heap.size ≤ q → A q := fun q h => by rw [← hAe]; exact Or.inr h
  have hS : va_S A s.heap s.heap [] := va_S.rf
  refine xHeap (C := fun H => va_P D vwCl (yW G (zk, zn, zi, zt, zs, zr, zd, zy, zm, zc, zv, ze, zo)) H ∧ va_S A s.heap H []) ⟨hP, hS⟩ (fun H hC => ?_)
  obtain ⟨hP, hS⟩ := hC
  have hl := lv_entry ([.ref G.1, .int p0]) (n := 3) (Nat.le_of_ble_eq_true rfl)
  rw [lg_entry_eq]
  generalize (lg_sl ([.ref G.1, .int p0]) ++ List.replicate (3 - (lg_sl ([.ref G.1, .int p0])).length) Slot.unset).toArray = ls at hl ⊢
  have hl : lv_has ls 3 [(0, .ref G.1), (1, .int p0)] := hl
  refine lv_bipush (v := 15) hx hb dY_note_0 (by decide) ?_
  refine lv_istore_n (lv' := [(2, .int 15), (0, .ref G.1), (1, .int p0)]) hx hb dY_note_2 rfl hl (by decide) rfl (fun ls hl => ?_)
  refine lv_iload_n hx hb dY_note_3 rfl (lv_at hl 0 rfl) ?_
  refine lv_if_le (tgt := 27) hx hb dY_note_4 (by decide) (fun cz => absurd cz (by decide)) (fun _ => ?_)
  refine lv_aload_n hx hb dY_note_7 rfl (lv_at hl 1 rfl) ?_
  refine va_get (D := D) (ci := 2) (v := .ref G.2.2.2.2.2.2.2.2.2.1) (C := RY) (T := TY) (N := 13) hx hb hty inY hown hK hP 0 rfl rfl 11 (by decide) (hty _ yf_38) (fun _ h9 => h9) rfl dY_note_8 ?_
  refine lv_iload_n hx hb dY_note_11 rfl (lv_at hl 0 rfl) ?_
  refine lv_aload_n hx hb dY_note_12 rfl (lv_at hl 1 rfl) ?_
  refine va_get (D := D) (ci := 2) (v := .ref G.2.2.2.2.2.2.2.2.2.1) (C := RY) (T := TY) (N := 13) hx hb hty inY hown hK hP 0 rfl rfl 11 (by decide) (hty _ yf_38) (fun _ h9 => h9) rfl dY_note_13 ?_
  refine lv_iload_n hx hb dY_note_16 rfl (lv_at hl 0 rfl) ?_
  refine lv_iconst (v := 1) hx hb dY_note_17 (by decide) ?_
  refine lv_isub hx hb dY_note_18 ?_
  refine va_iald (f := ze) hx hb hK hP 9 8 rfl rfl (by unfold vp_in; decide) dY_note_19 ?_
  refine va_iast hx hb hK hP hD hS 9 8 rfl rfl (by unfold vp_in; decide) dY_note_20 (fun H locs hP hD hS => ?_)
  have hP : va_P D vwCl (yW G (zk, zn, zi, zt, zs, zr, zd, zy, zm, zc, zv, (upd ze 15 (ze 14)), zo)) H := hP
  have hD : va_D A (yW G (zk, zn, zi, zt, zs, zr, zd, zy, zm, zc, zv, (upd ze 15 (ze 14)), zo)) := hD
  refine lv_iinc (v := 14) (lv' := [(2, .int 14), (0, .ref G.1), (1, .int p0)]) hx hb dY_note_21 hl (k := 0) rfl (by decide) (by decide) rfl (fun ls hl => ?_)
  refine lv_goto (tgt := 3) hx hb dY_note_24 (by decide) ?_
  refine lv_iload_n hx hb dY_note_3 rfl (lv_at hl 0 rfl) ?_
  refine lv_if_le (tgt := 27) hx hb dY_note_4 (by decide) (fun cz => absurd cz (by decide)) (fun _ => ?_)
  refine lv_aload_n hx hb dY_note_7 rfl (lv_at hl 1 rfl) ?_
  refine va_get (D := D) (ci := 2) (v := .ref G.2.2.2.2.2.2.2.2.2.1) (C := RY) (T := TY) (N := 13) hx hb hty inY hown hK hP 0 rfl rfl 11 (by decide) (hty _ yf_38) (fun _ h9 => h9) rfl dY_note_8 ?_
  refine lv_iload_n hx hb dY_note_11 rfl (lv_at hl 0 rfl) ?_
  refine lv_aload_n hx hb dY_note_12 rfl (lv_at hl 1 rfl) ?_
  refine va_get (D := D) (ci := 2) (v := .ref G.2.2.2.2.2.2.2.2.2.1) (C := RY) (T := TY) (N := 13) hx hb hty inY hown hK hP 0 rfl rfl 11 (by decide) (hty _ yf_38) (fun _ h9 => h9) rfl dY_note_13 ?_
  refine lv_iload_n hx hb dY_note_16 rfl (lv_at hl 0 rfl) ?_
  refine lv_iconst (v := 1) hx hb dY_note_17 (by decide) ?_
  refine lv_isub hx hb dY_note_18 ?_
  refine va_iald (f := (upd ze 15 (ze 14))) hx hb hK hP 9 8 rfl rfl (by unfold vp_in; decide) dY_note_19 ?_
  refine va_iast hx hb hK hP hD hS 9 8 rfl rfl (by unfold vp_in; decide) dY_note_20 (fun H locs hP hD hS => ?_)
  have hP : va_P D vwCl (yW G (zk, zn, zi, zt, zs, zr, zd, zy, zm, zc, zv, (upd (upd ze 15 (ze 14)) 14 (ze 13)), zo)) H := hP
  have hD : va_D A (yW G (zk, zn, zi, zt, zs, zr, zd, zy, zm, zc, zv, (upd (upd ze 15 (ze 14)) 14 (ze 13)), zo)) := hD
  refine lv_iinc (v := 13) (lv' := [(2, .int 13), (0, .ref G.1), (1, .int p0)]) hx hb dY_note_21 hl (k := 0) rfl (by decide) (by decide) rfl (fun ls hl => ?_)
  refine lv_goto (tgt := 3) hx hb dY_note_24 (by decide) ?_
  refine lv_iload_n hx hb dY_note_3 rfl (lv_at hl 0 rfl) ?_
  refine lv_if_le (tgt := 27) hx hb dY_note_4 (by decide) (fun cz => absurd cz (by decide)) (fun _ => ?_)
  refine lv_aload_n hx hb dY_note_7 rfl (lv_at hl 1 rfl) ?_
  refine va_get (D := D) (ci := 2) (v := .ref G.2.2.2.2.2.2.2.2.2.1) (C := RY) (T := TY) (N := 13) hx hb hty inY hown hK hP 0 rfl rfl 11 (by decide) (hty _ yf_38) (fun _ h9 => h9) rfl dY_note_8 ?_
  refine lv_iload_n hx hb dY_note_11 rfl (lv_at hl 0 rfl) ?_
  refine lv_aload_n hx hb dY_note_12 rfl (lv_at hl 1 rfl) ?_
  refine va_get (D := D) (ci := 2) (v := .ref G.2.2.2.2.2.2.2.2.2.1) (C := RY) (T := TY) (N := 13) hx hb hty inY hown hK hP 0 rfl rfl 11 (by decide) (hty _ yf_38) (fun _ h9 => h9) rfl dY_note_13 ?_
  refine lv_iload_n hx hb dY_note_16 rfl (lv_at hl 0 rfl) ?_
  refine lv_iconst (v := 1) hx hb dY_note_17 (by decide) ?_
  refine lv_isub hx hb dY_note_18 ?_
  refine va_iald (f := (upd (upd ze 15 (ze 14)) 14 (ze 13))) hx hb hK hP 9 8 rfl rfl (by unfold vp_in; decide) dY_note_19 ?_
  refine va_iast hx hb hK hP hD hS 9 8 rfl rfl (by unfold vp_in; decide) dY_note_20 (fun H locs hP hD hS => ?_)
  have hP : va_P D vwCl (yW G (zk, zn, zi, zt, zs, zr, zd, zy, zm, zc, zv, (upd (upd (upd ze 15 (ze 14)) 14 (ze 13)) 13 (ze 12)), zo)) H := hP
  have hD : va_D A (yW G (zk, zn, zi, zt, zs, zr, zd, zy, zm, zc, zv, (upd (upd (upd ze 15 (ze 14)) 14 (ze 13)) 13 (ze 12)), zo)) := hD
  refine lv_iinc (v := 12) (lv' := [(2, .int 12), (0, .ref G.1), (1, .int p0)]) hx hb dY_note_21 hl (k := 0) rfl (by decide) (by decide) rfl (fun ls hl => ?_)
  refine lv_goto (tgt := 3) hx hb dY_note_24 (by decide) ?_
  refine lv_iload_n hx hb dY_note_3 rfl (lv_at hl 0 rfl) ?_
  refine lv_if_le (tgt := 27) hx hb dY_note_4 (by decide) (fun cz => absurd cz (by decide)) (fun _ => ?_)
  refine lv_aload_n hx hb dY_note_7 rfl (lv_at hl 1 rfl) ?_
  refine va_get (D := D) (ci := 2) (v := .ref G.2.2.2.2.2.2.2.2.2.1) (C := RY) (T := TY) (N := 13) hx hb hty inY hown hK hP 0 rfl rfl 11 (by decide) (hty _ yf_38) (fun _ h9 => h9) rfl dY_note_8 ?_
  refine lv_iload_n hx hb dY_note_11 rfl (lv_at hl 0 rfl) ?_
  refine lv_aload_n hx hb dY_note_12 rfl (lv_at hl 1 rfl) ?_
  refine va_get (D := D) (ci := 2) (v := .ref G.2.2.2.2.2.2.2.2.2.1) (C := RY) (T := TY) (N := 13) hx hb hty inY hown hK hP 0 rfl rfl 11 (by decide) (hty _ yf_38) (fun _ h9 => h9) rfl dY_note_13 ?_
  refine lv_iload_n hx hb dY_note_16 rfl (lv_at hl 0 rfl) ?_
  refine lv_iconst (v := 1) hx hb dY_note_17 (by decide) ?_
  refine lv_isub hx hb dY_note_18 ?_
  refine va_iald (f := (upd (upd (upd ze 15 (ze 14)) 14 (ze 13)) 13 (ze 12))) hx hb hK hP 9 8 rfl rfl (by unfold vp_in; decide) dY_note_19 ?_
  refine va_iast hx hb hK hP hD hS 9 8 rfl rfl (by unfold vp_in; decide) dY_note_20 (fun H locs hP hD hS => ?_)
  have hP : va_P D vwCl (yW G (zk, zn, zi, zt, zs, zr, zd, zy, zm, zc, zv, (upd (upd (upd (upd ze 15 (ze 14)) 14 (ze 13)) 13 (ze 12)) 12 (ze 11)), zo)) H := hP
  have hD : va_D A (yW G (zk, zn, zi, zt, zs, zr, zd, zy, zm, zc, zv, (upd (upd (upd (upd ze 15 (ze 14)) 14 (ze 13)) 13 (ze 12)) 12 (ze 11)), zo)) := hD
  refine lv_iinc (v := 11) (lv' := [(2, .int 11), (0, .ref G.1), (1, .int p0)]) hx hb dY_note_21 hl (k := 0) rfl (by decide) (by decide) rfl (fun ls hl => ?_)
  refine lv_goto (tgt := 3) hx hb dY_note_24 (by decide) ?_
  refine lv_iload_n hx hb dY_note_3 rfl (lv_at hl 0 rfl) ?_
  refine lv_if_le (tgt := 27) hx hb dY_note_4 (by decide) (fun cz => absurd cz (by decide)) (fun _ => ?_)
  refine lv_aload_n hx hb dY_note_7 rfl (lv_at hl 1 rfl) ?_
  refine va_get (D := D) (ci := 2) (v := .ref G.2.2.2.2.2.2.2.2.2.1) (C := RY) (T := TY) (N := 13) hx hb hty inY hown hK hP 0 rfl rfl 11 (by decide) (hty _ yf_38) (fun _ h9 => h9) rfl dY_note_8 ?_
  refine lv_iload_n hx hb dY_note_11 rfl (lv_at hl 0 rfl) ?_
  refine lv_aload_n hx hb dY_note_12 rfl (lv_at hl 1 rfl) ?_
  refine va_get (D := D) (ci := 2) (v := .ref G.2.2.2.2.2.2.2.2.2.1) (C := RY) (T := TY) (N := 13) hx hb hty inY hown hK hP 0 rfl rfl 11 (by decide) (hty _ yf_38) (fun _ h9 => h9) rfl dY_note_13 ?_
  refine lv_iload_n hx hb dY_note_16 rfl (lv_at hl 0 rfl) ?_
  refine lv_iconst (v := 1) hx hb dY_note_17 (by decide) ?_
  refine lv_isub hx hb dY_note_18 ?_
  refine va_iald (f := (upd (upd (upd (upd ze 15 (ze 14)) 14 (ze 13)) 13 (ze 12)) 12 (ze 11))) hx hb hK hP 9 8 rfl rfl (by unfold vp_in; decide) dY_note_19 ?_
  refine va_iast hx hb hK hP hD hS 9 8 rfl rfl (by unfold vp_in; decide) dY_note_20 (fun H locs hP hD hS => ?_)
  have hP : va_P D vwCl (yW G (zk, zn, zi, zt, zs, zr, zd, zy, zm, zc, zv, (upd (upd (upd (upd (upd ze 15 (ze 14)) 14 (ze 13)) 13 (ze 12)) 12 (ze 11)) 11 (ze 10)), zo)) H := hP
  have hD : va_D A (yW G (zk, zn, zi, zt, zs, zr, zd, zy, zm, zc, zv, (upd (upd (upd (upd (upd ze 15 (ze 14)) 14 (ze 13)) 13 (ze 12)) 12 (ze 11)) 11 (ze 10)), zo)) := hD
  refine lv_iinc (v := 10) (lv' := [(2, .int 10), (0, .ref G.1), (1, .int p0)]) hx hb dY_note_21 hl (k := 0) rfl (by decide) (by decide) rfl (fun ls hl => ?_)
  refine lv_goto (tgt := 3) hx hb dY_note_24 (by decide) ?_
  refine lv_iload_n hx hb dY_note_3 rfl (lv_at hl 0 rfl) ?_
  refine lv_if_le (tgt := 27) hx hb dY_note_4 (by decide) (fun cz => absurd cz (by decide)) (fun _ => ?_)
  refine lv_aload_n hx hb dY_note_7 rfl (lv_at hl 1 rfl) ?_
  refine va_get (D := D) (ci := 2) (v := .ref G.2.2.2.2.2.2.2.2.2.1) (C := RY) (T := TY) (N := 13) hx hb hty inY hown hK hP 0 rfl rfl 11 (by decide) (hty _ yf_38) (fun _ h9 => h9) rfl dY_note_8 ?_
  refine lv_iload_n hx hb dY_note_11 rfl (lv_at hl 0 rfl) ?_
  refine lv_aload_n hx hb dY_note_12 rfl (lv_at hl 1 rfl) ?_
  refine va_get (D := D) (ci := 2) (v := .ref G.2.2.2.2.2.2.2.2.2.1) (C := RY) (T := TY) (N := 13) hx hb hty inY hown hK hP 0 rfl rfl 11 (by decide) (hty _ yf_38) (fun _ h9 => h9) rfl dY_note_13 ?_
  refine lv_iload_n hx hb dY_note_16 rfl (lv_at hl 0 rfl) ?_
  refine lv_iconst (v := 1) hx hb dY_note_17 (by decide) ?_
  refine lv_isub hx hb dY_note_18 ?_
  refine va_iald (f := (upd (upd (upd (upd (upd ze 15 (ze 14)) 14 (ze 13)) 13 (ze 12)) 12 (ze 11)) 11 (ze 10))) hx hb hK hP 9 8 rfl rfl (by unfold vp_in; decide) dY_note_19 ?_
  refine va_iast hx hb hK hP hD hS 9 8 rfl rfl (by unfold vp_in; decide) dY_note_20 (fun H locs hP hD hS => ?_)
  have hP : va_P D vwCl (yW G (zk, zn, zi, zt, zs, zr, zd, zy, zm, zc, zv, (upd (upd (upd (upd (upd (upd ze 15 (ze 14)) 14 (ze 13)) 13 (ze 12)) 12 (ze 11)) 11 (ze 10)) 10 (ze 9)), zo)) H := hP
  have hD : va_D A (yW G (zk, zn, zi, zt, zs, zr, zd, zy, zm, zc, zv, (upd (upd (upd (upd (upd (upd ze 15 (ze 14)) 14 (ze 13)) 13 (ze 12)) 12 (ze 11)) 11 (ze 10)) 10 (ze 9)), zo)) := hD
  refine lv_iinc (v := 9) (lv' := [(2, .int 9), (0, .ref G.1), (1, .int p0)]) hx hb dY_note_21 hl (k := 0) rfl (by decide) (by decide) rfl (fun ls hl => ?_)
  refine lv_goto (tgt := 3) hx hb dY_note_24 (by decide) ?_
  refine lv_iload_n hx hb dY_note_3 rfl (lv_at hl 0 rfl) ?_
  refine lv_if_le (tgt := 27) hx hb dY_note_4 (by decide) (fun cz => absurd cz (by decide)) (fun _ => ?_)
  refine lv_aload_n hx hb dY_note_7 rfl (lv_at hl 1 rfl) ?_
  refine va_get (D := D) (ci := 2) (v := .ref G.2.2.2.2.2.2.2.2.2.1) (C := RY) (T := TY) (N := 13) hx hb hty inY hown hK hP 0 rfl rfl 11 (by decide) (hty _ yf_38) (fun _ h9 => h9) rfl dY_note_8 ?_
  refine lv_iload_n hx hb dY_note_11 rfl (lv_at hl 0 rfl) ?_
  refine lv_aload_n hx hb dY_note_12 rfl (lv_at hl 1 rfl) ?_
  refine va_get (D := D) (ci := 2) (v := .ref G.2.2.2.2.2.2.2.2.2.1) (C := RY) (T := TY) (N := 13) hx hb hty inY hown hK hP 0 rfl rfl 11 (by decide) (hty _ yf_38) (fun _ h9 => h9) rfl dY_note_13 ?_
  refine lv_iload_n hx hb dY_note_16 rfl (lv_at hl 0 rfl) ?_
  refine lv_iconst (v := 1) hx hb dY_note_17 (by decide) ?_
  refine lv_isub hx hb dY_note_18 ?_
  refine va_iald (f := (upd (upd (upd (upd (upd (upd ze 15 (ze 14)) 14 (ze 13)) 13 (ze 12)) 12 (ze 11)) 11 (ze 10)) 10 (ze 9))) hx hb hK hP 9 8 rfl rfl (by unfold vp_in; decide) dY_note_19 ?_
  refine va_iast hx hb hK hP hD hS 9 8 rfl rfl (by unfold vp_in; decide) dY_note_20 (fun H locs hP hD hS => ?_)
  have hP : va_P D vwCl (yW G (zk, zn, zi, zt, zs, zr, zd, zy, zm, zc, zv, (upd (upd (upd (upd (upd (upd (upd ze 15 (ze 14)) 14 (ze 13)) 13 (ze 12)) 12 (ze 11)) 11 (ze 10)) 10 (ze 9)) 9 (ze 8)), zo)) H := hP
  have hD : va_D A (yW G (zk, zn, zi, zt, zs, zr, zd, zy, zm, zc, zv, (upd (upd (upd (upd (upd (upd (upd ze 15 (ze 14)) 14 (ze 13)) 13 (ze 12)) 12 (ze 11)) 11 (ze 10)) 10 (ze 9)) 9 (ze 8)), zo)) := hD
  refine lv_iinc (v := 8) (lv' := [(2, .int 8), (0, .ref G.1), (1, .int p0)]) hx hb dY_note_21 hl (k := 0) rfl (by decide) (by decide) rfl (fun ls hl => ?_)
  refine lv_goto (tgt := 3) hx hb dY_note_24 (by decide) ?_
  refine lv_iload_n hx hb dY_note_3 rfl (lv_at hl 0 rfl) ?_
  refine lv_if_le (tgt := 27) hx hb dY_note_4 (by decide) (fun cz => absurd cz (by decide)) (fun _ => ?_)
  refine lv_aload_n hx hb dY_note_7 rfl (lv_at hl 1 rfl) ?_
  refine va_get (D := D) (ci := 2) (v := .ref G.2.2.2.2.2.2.2.2.2.1) (C := RY) (T := TY) (N := 13) hx hb hty inY hown hK hP 0 rfl rfl 11 (by decide) (hty _ yf_38) (fun _ h9 => h9) rfl dY_note_8 ?_
  refine lv_iload_n hx hb dY_note_11 rfl (lv_at hl 0 rfl) ?_
  refine lv_aload_n hx hb dY_note_12 rfl (lv_at hl 1 rfl) ?_
  refine va_get (D := D) (ci := 2) (v := .ref G.2.2.2.2.2.2.2.2.2.1) (C := RY) (T := TY) (N := 13) hx hb hty inY hown hK hP 0 rfl rfl 11 (by decide) (hty _ yf_38) (fun _ h9 => h9) rfl dY_note_13 ?_
  refine lv_iload_n hx hb dY_note_16 rfl (lv_at hl 0 rfl) ?_
  refine lv_iconst (v := 1) hx hb dY_note_17 (by decide) ?_
  refine lv_isub hx hb dY_note_18 ?_
  refine va_iald (f := (upd (upd (upd (upd (upd (upd (upd ze 15 (ze 14)) 14 (ze 13)) 13 (ze 12)) 12 (ze 11)) 11 (ze 10)) 10 (ze 9)) 9 (ze 8))) hx hb hK hP 9 8 rfl rfl (by unfold vp_in; decide) dY_note_19 ?_
  refine va_iast hx hb hK hP hD hS 9 8 rfl rfl (by unfold vp_in; decide) dY_note_20 (fun H locs hP hD hS => ?_)
  have hP : va_P D vwCl (yW G (zk, zn, zi, zt, zs, zr, zd, zy, zm, zc, zv, (upd (upd (upd (upd (upd (upd (upd (upd ze 15 (ze 14)) 14 (ze 13)) 13 (ze 12)) 12 (ze 11)) 11 (ze 10)) 10 (ze 9)) 9 (ze 8)) 8 (ze 7)), zo)) H := hP
  have hD : va_D A (yW G (zk, zn, zi, zt, zs, zr, zd, zy, zm, zc, zv, (upd (upd (upd (upd (upd (upd (upd (upd ze 15 (ze 14)) 14 (ze 13)) 13 (ze 12)) 12 (ze 11)) 11 (ze 10)) 10 (ze 9)) 9 (ze 8)) 8 (ze 7)), zo)) := hD
  refine lv_iinc (v := 7) (lv' := [(2, .int 7), (0, .ref G.1), (1, .int p0)]) hx hb dY_note_21 hl (k := 0) rfl (by decide) (by decide) rfl (fun ls hl => ?_)
  refine lv_goto (tgt := 3) hx hb dY_note_24 (by decide) ?_
  refine lv_iload_n hx hb dY_note_3 rfl (lv_at hl 0 rfl) ?_
  refine lv_if_le (tgt := 27) hx hb dY_note_4 (by decide) (fun cz => absurd cz (by decide)) (fun _ => ?_)
  refine lv_aload_n hx hb dY_note_7 rfl (lv_at hl 1 rfl) ?_
  refine va_get (D := D) (ci := 2) (v := .ref G.2.2.2.2.2.2.2.2.2.1) (C := RY) (T := TY) (N := 13) hx hb hty inY hown hK hP 0 rfl rfl 11 (by decide) (hty _ yf_38) (fun _ h9 => h9) rfl dY_note_8 ?_
  refine lv_iload_n hx hb dY_note_11 rfl (lv_at hl 0 rfl) ?_
  refine lv_aload_n hx hb dY_note_12 rfl (lv_at hl 1 rfl) ?_
  refine va_get (D := D) (ci := 2) (v := .ref G.2.2.2.2.2.2.2.2.2.1) (C := RY) (T := TY) (N := 13) hx hb hty inY hown hK hP 0 rfl rfl 11 (by decide) (hty _ yf_38) (fun _ h9 => h9) rfl dY_note_13 ?_
  refine lv_iload_n hx hb dY_note_16 rfl (lv_at hl 0 rfl) ?_
  refine lv_iconst (v := 1) hx hb dY_note_17 (by decide) ?_
  refine lv_isub hx hb dY_note_18 ?_
  refine va_iald (f := (upd (upd (upd (upd (upd (upd (upd (upd ze 15 (ze 14)) 14 (ze 13)) 13 (ze 12)) 12 (ze 11)) 11 (ze 10)) 10 (ze 9)) 9 (ze 8)) 8 (ze 7))) hx hb hK hP 9 8 rfl rfl (by unfold vp_in; decide) dY_note_19 ?_
  refine va_iast hx hb hK hP hD hS 9 8 rfl rfl (by unfold vp_in; decide) dY_note_20 (fun H locs hP hD hS => ?_)
  have hP : va_P D vwCl (yW G (zk, zn, zi, zt, zs, zr, zd, zy, zm, zc, zv, (upd (upd (upd (upd (upd (upd (upd (upd (upd ze 15 (ze 14)) 14 (ze 13)) 13 (ze 12)) 12 (ze 11)) 11 (ze 10)) 10 (ze 9)) 9 (ze 8)) 8 (ze 7)) 7 (ze 6)), zo)) H := hP
  have hD : va_D A (yW G (zk, zn, zi, zt, zs, zr, zd, zy, zm, zc, zv, (upd (upd (upd (upd (upd (upd (upd (upd (upd ze 15 (ze 14)) 14 (ze 13)) 13 (ze 12)) 12 (ze 11)) 11 (ze 10)) 10 (ze 9)) 9 (ze 8)) 8 (ze 7)) 7 (ze 6)), zo)) := hD
  refine lv_iinc (v := 6) (lv' := [(2, .int 6), (0, .ref G.1), (1, .int p0)]) hx hb dY_note_21 hl (k := 0) rfl (by decide) (by decide) rfl (fun ls hl => ?_)
  refine lv_goto (tgt := 3) hx hb dY_note_24 (by decide) ?_
  refine lv_iload_n hx hb dY_note_3 rfl (lv_at hl 0 rfl) ?_
  refine lv_if_le (tgt := 27) hx hb dY_note_4 (by decide) (fun cz => absurd cz (by decide)) (fun _ => ?_)
  refine lv_aload_n hx hb dY_note_7 rfl (lv_at hl 1 rfl) ?_
  refine va_get (D := D) (ci := 2) (v := .ref G.2.2.2.2.2.2.2.2.2.1) (C := RY) (T := TY) (N := 13) hx hb hty inY hown hK hP 0 rfl rfl 11 (by decide) (hty _ yf_38) (fun _ h9 => h9) rfl dY_note_8 ?_
  refine lv_iload_n hx hb dY_note_11 rfl (lv_at hl 0 rfl) ?_
  refine lv_aload_n hx hb dY_note_12 rfl (lv_at hl 1 rfl) ?_
  refine va_get (D := D) (ci := 2) (v := .ref G.2.2.2.2.2.2.2.2.2.1) (C := RY) (T := TY) (N := 13) hx hb hty inY hown hK hP 0 rfl rfl 11 (by decide) (hty _ yf_38) (fun _ h9 => h9) rfl dY_note_13 ?_
  refine lv_iload_n hx hb dY_note_16 rfl (lv_at hl 0 rfl) ?_
  refine lv_iconst (v := 1) hx hb dY_note_17 (by decide) ?_
  refine lv_isub hx hb dY_note_18 ?_
  refine va_iald (f := (upd (upd (upd (upd (upd (upd (upd (upd (upd ze 15 (ze 14)) 14 (ze 13)) 13 (ze 12)) 12 (ze 11)) 11 (ze 10)) 10 (ze 9)) 9 (ze 8)) 8 (ze 7)) 7 (ze 6))) hx hb hK hP 9 8 rfl rfl (by unfold vp_in; decide) dY_note_19 ?_
  refine va_iast hx hb hK hP hD hS 9 8 rfl rfl (by unfold vp_in; decide) dY_note_20 (fun H locs hP hD hS => ?_)
  have hP : va_P D vwCl (yW G (zk, zn, zi, zt, zs, zr, zd, zy, zm, zc, zv, (upd (upd (upd (upd (upd (upd (upd (upd (upd (upd ze 15 (ze 14)) 14 (ze 13)) 13 (ze 12)) 12 (ze 11)) 11 (ze 10)) 10 (ze 9)) 9 (ze 8)) 8 (ze 7)) 7 (ze 6)) 6 (ze 5)), zo)) H := hP
  have hD : va_D A (yW G (zk, zn, zi, zt, zs, zr, zd, zy, zm, zc, zv, (upd (upd (upd (upd (upd (upd (upd (upd (upd (upd ze 15 (ze 14)) 14 (ze 13)) 13 (ze 12)) 12 (ze 11)) 11 (ze 10)) 10 (ze 9)) 9 (ze 8)) 8 (ze 7)) 7 (ze 6)) 6 (ze 5)), zo)) := hD
  refine lv_iinc (v := 5) (lv' := [(2, .int 5), (0, .ref G.1), (1, .int p0)]) hx hb dY_note_21 hl (k := 0) rfl (by decide) (by decide) rfl (fun ls hl => ?_)
  refine lv_goto (tgt := 3) hx hb dY_note_24 (by decide) ?_
  refine lv_iload_n hx hb dY_note_3 rfl (lv_at hl 0 rfl) ?_
  refine lv_if_le (tgt := 27) hx hb dY_note_4 (by decide) (fun cz => absurd cz (by decide)) (fun _ => ?_)
  refine lv_aload_n hx hb dY_note_7 rfl (lv_at hl 1 rfl) ?_
  refine va_get (D := D) (ci := 2) (v := .ref G.2.2.2.2.2.2.2.2.2.1) (C := RY) (T := TY) (N := 13) hx hb hty inY hown hK hP 0 rfl rfl 11 (by decide) (hty _ yf_38) (fun _ h9 => h9) rfl dY_note_8 ?_
  refine lv_iload_n hx hb dY_note_11 rfl (lv_at hl 0 rfl) ?_
  refine lv_aload_n hx hb dY_note_12 rfl (lv_at hl 1 rfl) ?_
  refine va_get (D := D) (ci := 2) (v := .ref G.2.2.2.2.2.2.2.2.2.1) (C := RY) (T := TY) (N := 13) hx hb hty inY hown hK hP 0 rfl rfl 11 (by decide) (hty _ yf_38) (fun _ h9 => h9) rfl dY_note_13 ?_
  refine lv_iload_n hx hb dY_note_16 rfl (lv_at hl 0 rfl) ?_
  refine lv_iconst (v := 1) hx hb dY_note_17 (by decide) ?_
  refine lv_isub hx hb dY_note_18 ?_
  refine va_iald (f := (upd (upd (upd (upd (upd (upd (upd (upd (upd (upd ze 15 (ze 14)) 14 (ze 13)) 13 (ze 12)) 12 (ze 11)) 11 (ze 10)) 10 (ze 9)) 9 (ze 8)) 8 (ze 7)) 7 (ze 6)) 6 (ze 5))) hx hb hK hP 9 8 rfl rfl (by unfold vp_in; decide) dY_note_19 ?_
  refine va_iast hx hb hK hP hD hS 9 8 rfl rfl (by unfold vp_in; decide) dY_note_20 (fun H locs hP hD hS => ?_)
  have hP : va_P D vwCl (yW G (zk, zn, zi, zt, zs, zr, zd, zy, zm, zc, zv, (upd (upd (upd (upd (upd (upd (upd (upd (upd (upd (upd ze 15 (ze 14)) 14 (ze 13)) 13 (ze 12)) 12 (ze 11)) 11 (ze 10)) 10 (ze 9)) 9 (ze 8)) 8 (ze 7)) 7 (ze 6)) 6 (ze 5)) 5 (ze 4)), zo)) H := hP
  have hD : va_D A (yW G (zk, zn, zi, zt, zs, zr, zd, zy, zm, zc, zv, (upd (upd (upd (upd (upd (upd (upd (upd (upd (upd (upd ze 15 (ze 14)) 14 (ze 13)) 13 (ze 12)) 12 (ze 11)) 11 (ze 10)) 10 (ze 9)) 9 (ze 8)) 8 (ze 7)) 7 (ze 6)) 6 (ze 5)) 5 (ze 4)), zo)) := hD
  refine lv_iinc (v := 4) (lv' := [(2, .int 4), (0, .ref G.1), (1, .int p0)]) hx hb dY_note_21 hl (k := 0) rfl (by decide) (by decide) rfl (fun ls hl => ?_)
  refine lv_goto (tgt := 3) hx hb dY_note_24 (by decide) ?_
  refine lv_iload_n hx hb dY_note_3 rfl (lv_at hl 0 rfl) ?_
  refine lv_if_le (tgt := 27) hx hb dY_note_4 (by decide) (fun cz => absurd cz (by decide)) (fun _ => ?_)
  refine lv_aload_n hx hb dY_note_7 rfl (lv_at hl 1 rfl) ?_
  refine va_get (D := D) (ci := 2) (v := .ref G.2.2.2.2.2.2.2.2.2.1) (C := RY) (T := TY) (N := 13) hx hb hty inY hown hK hP 0 rfl rfl 11 (by decide) (hty _ yf_38) (fun _ h9 => h9) rfl dY_note_8 ?_
  refine lv_iload_n hx hb dY_note_11 rfl (lv_at hl 0 rfl) ?_
  refine lv_aload_n hx hb dY_note_12 rfl (lv_at hl 1 rfl) ?_
  refine va_get (D := D) (ci := 2) (v := .ref G.2.2.2.2.2.2.2.2.2.1) (C := RY) (T := TY) (N := 13) hx hb hty inY hown hK hP 0 rfl rfl 11 (by decide) (hty _ yf_38) (fun _ h9 => h9) rfl dY_note_13 ?_
  refine lv_iload_n hx hb dY_note_16 rfl (lv_at hl 0 rfl) ?_
  refine lv_iconst (v := 1) hx hb dY_note_17 (by decide) ?_
  refine lv_isub hx hb dY_note_18 ?_
  refine va_iald (f := (upd (upd (upd (upd (upd (upd (upd (upd (upd (upd (upd ze 15 (ze 14)) 14 (ze 13)) 13 (ze 12)) 12 (ze 11)) 11 (ze 10)) 10 (ze 9)) 9 (ze 8)) 8 (ze 7)) 7 (ze 6)) 6 (ze 5)) 5 (ze 4))) hx hb hK hP 9 8 rfl rfl (by unfold vp_in; decide) dY_note_19 ?_
  refine va_iast hx hb hK hP hD hS 9 8 rfl rfl (by unfold vp_in; decide) dY_note_20 (fun H locs hP hD hS => ?_)
  have hP : va_P D vwCl (yW G (zk, zn, zi, zt, zs, zr, zd, zy, zm, zc, zv, (upd (upd (upd (upd (upd (upd (upd (upd (upd (upd (upd (upd ze 15 (ze 14)) 14 (ze 13)) 13 (ze 12)) 12 (ze 11)) 11 (ze 10)) 10 (ze 9)) 9 (ze 8)) 8 (ze 7)) 7 (ze 6)) 6 (ze 5)) 5 (ze 4)) 4 (ze 3)), zo)) H := hP
  have hD : va_D A (yW G (zk, zn, zi, zt, zs, zr, zd, zy, zm, zc, zv, (upd (upd (upd (upd (upd (upd (upd (upd (upd (upd (upd (upd ze 15 (ze 14)) 14 (ze 13)) 13 (ze 12)) 12 (ze 11)) 11 (ze 10)) 10 (ze 9)) 9 (ze 8)) 8 (ze 7)) 7 (ze 6)) 6 (ze 5)) 5 (ze 4)) 4 (ze 3)), zo)) := hD
  refine lv_iinc (v := 3) (lv' := [(2, .int 3), (0, .ref G.1), (1, .int p0)]) hx hb dY_note_21 hl (k := 0) rfl (by decide) (by decide) rfl (fun ls hl => ?_)
  refine lv_goto (tgt := 3) hx hb dY_note_24 (by decide) ?_
  refine lv_iload_n hx hb dY_note_3 rfl (lv_at hl 0 rfl) ?_
  refine lv_if_le (tgt := 27) hx hb dY_note_4 (by decide) (fun cz => absurd cz (by decide)) (fun _ => ?_)
  refine lv_aload_n hx hb dY_note_7 rfl (lv_at hl 1 rfl) ?_
  refine va_get (D := D) (ci := 2) (v := .ref G.2.2.2.2.2.2.2.2.2.1) (C := RY) (T := TY) (N := 13) hx hb hty inY hown hK hP 0 rfl rfl 11 (by decide) (hty _ yf_38) (fun _ h9 => h9) rfl dY_note_8 ?_
  refine lv_iload_n hx hb dY_note_11 rfl (lv_at hl 0 rfl) ?_
  refine lv_aload_n hx hb dY_note_12 rfl (lv_at hl 1 rfl) ?_
  refine va_get (D := D) (ci := 2) (v := .ref G.2.2.2.2.2.2.2.2.2.1) (C := RY) (T := TY) (N := 13) hx hb hty inY hown hK hP 0 rfl rfl 11 (by decide) (hty _ yf_38) (fun _ h9 => h9) rfl dY_note_13 ?_
  refine lv_iload_n hx hb dY_note_16 rfl (lv_at hl 0 rfl) ?_
  refine lv_iconst (v := 1) hx hb dY_note_17 (by decide) ?_
  refine lv_isub hx hb dY_note_18 ?_
  refine va_iald (f := (upd (upd (upd (upd (upd (upd (upd (upd (upd (upd (upd (upd ze 15 (ze 14)) 14 (ze 13)) 13 (ze 12)) 12 (ze 11)) 11 (ze 10)) 10 (ze 9)) 9 (ze 8)) 8 (ze 7)) 7 (ze 6)) 6 (ze 5)) 5 (ze 4)) 4 (ze 3))) hx hb hK hP 9 8 rfl rfl (by unfold vp_in; decide) dY_note_19 ?_
  refine va_iast hx hb hK hP hD hS 9 8 rfl rfl (by unfold vp_in; decide) dY_note_20 (fun H locs hP hD hS => ?_)
  have hP : va_P D vwCl (yW G (zk, zn, zi, zt, zs, zr, zd, zy, zm, zc, zv, (upd (upd (upd (upd (upd (upd (upd (upd (upd (upd (upd (upd (upd ze 15 (ze 14)) 14 (ze 13)) 13 (ze 12)) 12 (ze 11)) 11 (ze 10)) 10 (ze 9)) 9 (ze 8)) 8 (ze 7)) 7 (ze 6)) 6 (ze 5)) 5 (ze 4)) 4 (ze 3)) 3 (ze 2)), zo)) H := hP
  have hD : va_D A (yW G (zk, zn, zi, zt, zs, zr, zd, zy, zm, zc, zv, (upd (upd (upd (upd (upd (upd (upd (upd (upd (upd (upd (upd (upd ze 15 (ze 14)) 14 (ze 13)) 13 (ze 12)) 12 (ze 11)) 11 (ze 10)) 10 (ze 9)) 9 (ze 8)) 8 (ze 7)) 7 (ze 6)) 6 (ze 5)) 5 (ze 4)) 4 (ze 3)) 3 (ze 2)), zo)) := hD
  refine lv_iinc (v := 2) (lv' := [(2, .int 2), (0, .ref G.1), (1, .int p0)]) hx hb dY_note_21 hl (k := 0) rfl (by decide) (by decide) rfl (fun ls hl => ?_)
  refine lv_goto (tgt := 3) hx hb dY_note_24 (by decide) ?_
  refine lv_iload_n hx hb dY_note_3 rfl (lv_at hl 0 rfl) ?_
  refine lv_if_le (tgt := 27) hx hb dY_note_4 (by decide) (fun cz => absurd cz (by decide)) (fun _ => ?_)
  refine lv_aload_n hx hb dY_note_7 rfl (lv_at hl 1 rfl) ?_
  refine va_get (D := D) (ci := 2) (v := .ref G.2.2.2.2.2.2.2.2.2.1) (C := RY) (T := TY) (N := 13) hx hb hty inY hown hK hP 0 rfl rfl 11 (by decide) (hty _ yf_38) (fun _ h9 => h9) rfl dY_note_8 ?_
  refine lv_iload_n hx hb dY_note_11 rfl (lv_at hl 0 rfl) ?_
  refine lv_aload_n hx hb dY_note_12 rfl (lv_at hl 1 rfl) ?_
  refine va_get (D := D) (ci := 2) (v := .ref G.2.2.2.2.2.2.2.2.2.1) (C := RY) (T := TY) (N := 13) hx hb hty inY hown hK hP 0 rfl rfl 11 (by decide) (hty _ yf_38) (fun _ h9 => h9) rfl dY_note_13 ?_
  refine lv_iload_n hx hb dY_note_16 rfl (lv_at hl 0 rfl) ?_
  refine lv_iconst (v := 1) hx hb dY_note_17 (by decide) ?_
  refine lv_isub hx hb dY_note_18 ?_
  refine va_iald (f := (upd (upd (upd (upd (upd (upd (upd (upd (upd (upd (upd (upd (upd ze 15 (ze 14)) 14 (ze 13)) 13 (ze 12)) 12 (ze 11)) 11 (ze 10)) 10 (ze 9)) 9 (ze 8)) 8 (ze 7)) 7 (ze 6)) 6 (ze 5)) 5 (ze 4)) 4 (ze 3)) 3 (ze 2))) hx hb hK hP 9 8 rfl rfl (by unfold vp_in; decide) dY_note_19 ?_
  refine va_iast hx hb hK hP hD hS 9 8 rfl rfl (by unfold vp_in; decide) dY_note_20 (fun H locs hP hD hS => ?_)
  have hP : va_P D vwCl (yW G (zk, zn, zi, zt, zs, zr, zd, zy, zm, zc, zv, (upd (upd (upd (upd (upd (upd (upd (upd (upd (upd (upd (upd (upd (upd ze 15 (ze 14)) 14 (ze 13)) 13 (ze 12)) 12 (ze 11)) 11 (ze 10)) 10 (ze 9)) 9 (ze 8)) 8 (ze 7)) 7 (ze 6)) 6 (ze 5)) 5 (ze 4)) 4 (ze 3)) 3 (ze 2)) 2 (ze 1)), zo)) H := hP
  have hD : va_D A (yW G (zk, zn, zi, zt, zs, zr, zd, zy, zm, zc, zv, (upd (upd (upd (upd (upd (upd (upd (upd (upd (upd (upd (upd (upd (upd ze 15 (ze 14)) 14 (ze 13)) 13 (ze 12)) 12 (ze 11)) 11 (ze 10)) 10 (ze 9)) 9 (ze 8)) 8 (ze 7)) 7 (ze 6)) 6 (ze 5)) 5 (ze 4)) 4 (ze 3)) 3 (ze 2)) 2 (ze 1)), zo)) := hD
  refine lv_iinc (v := 1) (lv' := [(2, .int 1), (0, .ref G.1), (1, .int p0)]) hx hb dY_note_21 hl (k := 0) rfl (by decide) (by decide) rfl (fun ls hl => ?_)
  refine lv_goto (tgt := 3) hx hb dY_note_24 (by decide) ?_
  refine lv_iload_n hx hb dY_note_3 rfl (lv_at hl 0 rfl) ?_
  refine lv_if_le (tgt := 27) hx hb dY_note_4 (by decide) (fun cz => absurd cz (by decide)) (fun _ => ?_)
  refine lv_aload_n hx hb dY_note_7 rfl (lv_at hl 1 rfl) ?_
  refine va_get (D := D) (ci := 2) (v := .ref G.2.2.2.2.2.2.2.2.2.1) (C := RY) (T := TY) (N := 13) hx hb hty inY hown hK hP 0 rfl rfl 11 (by decide) (hty _ yf_38) (fun _ h9 => h9) rfl dY_note_8 ?_
  refine lv_iload_n hx hb dY_note_11 rfl (lv_at hl 0 rfl) ?_
  refine lv_aload_n hx hb dY_note_12 rfl (lv_at hl 1 rfl) ?_
  refine va_get (D := D) (ci := 2) (v := .ref G.2.2.2.2.2.2.2.2.2.1) (C := RY) (T := TY) (N := 13) hx hb hty inY hown hK hP 0 rfl rfl 11 (by decide) (hty _ yf_38) (fun _ h9 => h9) rfl dY_note_13 ?_
  refine lv_iload_n hx hb dY_note_16 rfl (lv_at hl 0 rfl) ?_
  refine lv_iconst (v := 1) hx hb dY_note_17 (by decide) ?_
  refine lv_isub hx hb dY_note_18 ?_
  refine va_iald (f := (upd (upd (upd (upd (upd (upd (upd (upd (upd (upd (upd (upd (upd (upd ze 15 (ze 14)) 14 (ze 13)) 13 (ze 12)) 12 (ze 11)) 11 (ze 10)) 10 (ze 9)) 9 (ze 8)) 8 (ze 7)) 7 (ze 6)) 6 (ze 5)) 5 (ze 4)) 4 (ze 3)) 3 (ze 2)) 2 (ze 1))) hx hb hK hP 9 8 rfl rfl (by unfold vp_in; decide) dY_note_19 ?_
  refine va_iast hx hb hK hP hD hS 9 8 rfl rfl (by unfold vp_in; decide) dY_note_20 (fun H locs hP hD hS => ?_)
  have hP : va_P D vwCl (yW G (zk, zn, zi, zt, zs, zr, zd, zy, zm, zc, zv, (upd (upd (upd (upd (upd (upd (upd (upd (upd (upd (upd (upd (upd (upd (upd ze 15 (ze 14)) 14 (ze 13)) 13 (ze 12)) 12 (ze 11)) 11 (ze 10)) 10 (ze 9)) 9 (ze 8)) 8 (ze 7)) 7 (ze 6)) 6 (ze 5)) 5 (ze 4)) 4 (ze 3)) 3 (ze 2)) 2 (ze 1)) 1 (ze 0)), zo)) H := hP
  have hD : va_D A (yW G (zk, zn, zi, zt, zs, zr, zd, zy, zm, zc, zv, (upd (upd (upd (upd (upd (upd (upd (upd (upd (upd (upd (upd (upd (upd (upd ze 15 (ze 14)) 14 (ze 13)) 13 (ze 12)) 12 (ze 11)) 11 (ze 10)) 10 (ze 9)) 9 (ze 8)) 8 (ze 7)) 7 (ze 6)) 6 (ze 5)) 5 (ze 4)) 4 (ze 3)) 3 (ze 2)) 2 (ze 1)) 1 (ze 0)), zo)) := hD
  refine lv_iinc (v := 0) (lv' := [(2, .int 0), (0, .ref G.1), (1, .int p0)]) hx hb dY_note_21 hl (k := 0) rfl (by decide) (by decide) rfl (fun ls hl => ?_)
  refine lv_goto (tgt := 3) hx hb dY_note_24 (by decide) ?_
  refine lv_iload_n hx hb dY_note_3 rfl (lv_at hl 0 rfl) ?_
  refine lv_if_le (tgt := 27) hx hb dY_note_4 (by decide) (fun _ => ?_) (fun cz => absurd cz (by decide))
  refine lv_aload_n hx hb dY_note_27 rfl (lv_at hl 1 rfl) ?_
  refine va_get (D := D) (ci := 2) (v := .ref G.2.2.2.2.2.2.2.2.2.1) (C := RY) (T := TY) (N := 13) hx hb hty inY hown hK hP 0 rfl rfl 11 (by decide) (hty _ yf_38) (fun _ h9 => h9) rfl dY_note_28 ?_
  refine lv_iconst (v := 0) hx hb dY_note_31 (by decide) ?_
  refine lv_iload_n hx hb dY_note_32 rfl (lv_at hl 2 rfl) ?_
  refine va_iast hx hb hK hP hD hS 9 8 rfl rfl (by unfold vp_in; decide) dY_note_33 (fun H locs hP hD hS => ?_)
  have hP : va_P D vwCl (yW G (zk, zn, zi, zt, zs, zr, zd, zy, zm, zc, zv, (upd (upd (upd (upd (upd (upd (upd (upd (upd (upd (upd (upd (upd (upd (upd (upd ze 15 (ze 14)) 14 (ze 13)) 13 (ze 12)) 12 (ze 11)) 11 (ze 10)) 10 (ze 9)) 9 (ze 8)) 8 (ze 7)) 7 (ze 6)) 6 (ze 5)) 5 (ze 4)) 4 (ze 3)) 3 (ze 2)) 2 (ze 1)) 1 (ze 0)) 0 p0), zo)) H := hP
  have hD : va_D A (yW G (zk, zn, zi, zt, zs, zr, zd, zy, zm, zc, zv, (upd (upd (upd (upd (upd (upd (upd (upd (upd (upd (upd (upd (upd (upd (upd (upd ze 15 (ze 14)) 14 (ze 13)) 13 (ze 12)) 12 (ze 11)) 11 (ze 10)) 10 (ze 9)) 9 (ze 8)) 8 (ze 7)) 7 (ze 6)) 6 (ze 5)) 5 (ze 4)) 4 (ze 3)) 3 (ze 2)) 2 (ze 1)) 1 (ze 0)) 0 p0), zo)) := hD
  refine lv_aload_n hx hb dY_note_34 rfl (lv_at hl 1 rfl) ?_
  refine lv_dup hx hb dY_note_35 rfl ?_
  refine va_get (D := D) (ci := 2) (v := .int zo) (C := RY) (T := TY) (N := 13) hx hb hty inY hown hK hP 0 rfl rfl 12 (by decide) (hty _ yf_45) (fun _ h9 => h9) rfl dY_note_36 ?_
  refine lv_iconst (v := 1) hx hb dY_note_39 (by decide) ?_
  refine lv_iadd hx hb dY_note_40 ?_
  refine va_put (D := D) (ci := 2) (v := .int (zo + 1)) (ty := .int) (C := RY) (T := TY) (N := 13) hx hb hty inY tyY tyY_ok nmY hown hK hP hD hS 0 rfl rfl 12 (by decide) (hty _ yf_45) (fun _ h9 => h9) rfl (by decide +kernel) rfl rfl (Nat.le_of_ble_eq_true rfl) dY_note_41 (fun H locs hP hD hS => ?_)
  have hP : va_P D vwCl (yW G (zk, zn, zi, zt, zs, zr, zd, zy, zm, zc, zv, (upd (upd (upd (upd (upd (upd (upd (upd (upd (upd (upd (upd (upd (upd (upd (upd ze 15 (ze 14)) 14 (ze 13)) 13 (ze 12)) 12 (ze 11)) 11 (ze 10)) 10 (ze 9)) 9 (ze 8)) 8 (ze 7)) 7 (ze 6)) 6 (ze 5)) 5 (ze 4)) 4 (ze 3)) 3 (ze 2)) 2 (ze 1)) 1 (ze 0)) 0 p0), (zo + 1))) H := hP
  have hD : va_D A (yW G (zk, zn, zi, zt, zs, zr, zd, zy, zm, zc, zv, (upd (upd (upd (upd (upd (upd (upd (upd (upd (upd (upd (upd (upd (upd (upd (upd ze 15 (ze 14)) 14 (ze 13)) 13 (ze 12)) 12 (ze 11)) 11 (ze 10)) 10 (ze 9)) 9 (ze 8)) 8 (ze 7)) 7 (ze 6)) 6 (ze 5)) 5 (ze 4)) 4 (ze 3)) 3 (ze 2)) 2 (ze 1)) 1 (ze 0)) 0 p0), (zo + 1))) := hD
  exact W.vret hx hb hr (fun tE ht hW => ⟨⟨(zk, zn, zi, zt, zs, zr, zd, zy, zm, zc, zv, (upd (upd (upd (upd (upd (upd (upd (upd (upd (upd (upd (upd (upd (upd (upd (upd ze 15 (ze 14)) 14 (ze 13)) 13 (ze 12)) 12 (ze 11)) 11 (ze 10)) 10 (ze 9)) 9 (ze 8)) 8 (ze 7)) 7 (ze 6)) 6 (ze 5)) 5 (ze 4)) 4 (ze 3)) 3 (ze 2)) 2 (ze 1)) 1 (ze 0)) 0 p0), (zo + 1)), rfl, by simp only [zN, zE, yshift_lit], by rw [ht]; exact hP, va_K.moved hW.alike hK, hD⟩, hS.F ht⟩) hS.2.2 dY_note_44
set_option maxHeartbeats 8000000 in
set_option maxRecDepth 100000 in
theorem j_of (l : Launch) (D : va_G) (G : YF) (v : YS) (sz : Nat) (p0 p1 : Int32) (hr0 : vp_in p0 520) (hkd : vp_in (yk v p0.toNatClampNeg) 10) : Met l yY_of wY_of ({ frames := 0, cells := 0, slots := 0, locals := 0 }) (yPc D G v sz [.ref G.1, .int p0, .int p1]) (va_Qi (fun (r : Int32) (w : YS) => (r, w) = (bI (fOf v p0 p1), v)) (yB D G (va_A (yW G v) sz)) (va_A (yW G v) sz)) 0 0 (va_A (yW G v) sz) := by
  obtain ⟨zk, zn, zi, zt, zs, zr, zd, zy, zm, zc, zv, ze, zo⟩ := v
  refine Met.ofW (cc := cY_of) (maxL := 3) (ret := (Option.some Jvm.ClassFile.FieldType.boolean)) (by decide) rfl ?_
  intro p e s m args below meth c s₁ B hml hv
  obtain ⟨rfl, hsz, hP, hK, hD0⟩ := hv
  have hx := B.exec
  have hb := B.bytes
  have hr := B.returns
  have hts := atoms_spec (ws := wY_of) B.pre
  have hty : ∀ w ∈ yAll, w.before _ s = true := fun w h => hts w (List.mem_cons_of_mem _ h)
  have hown : s.vm.findClass RY = some m.cls := findClass_of_methodNamed B.named
  have hlocks := B.notSynchronized
  subst hsz
  have hD := hD0.self (sz := s.heap.size)
  generalize hAe : va_A (yW G (zk, zn, zi, zt, zs, zr, zd, zy, zm, zc, zv, ze, zo)) s.heap.size = A at hD ⊢
  have hA : ∀ q : Nat, s.heap.size ≤ q → A q := fun q h => by rw [← hAe]; exact Or.inr h
  have hS : va_S A s.heap s.heap [] := va_S.rf
  refine xHeap (C := fun H => va_P D vwCl (yW G (zk, zn, zi, zt, zs, zr, zd, zy, zm, zc, zv, ze, zo)) H ∧ va_S A s.heap H []) ⟨hP, hS⟩ (fun H hC => ?_)
  obtain ⟨hP, hS⟩ := hC
  have hl := lv_entry ([.ref G.1, .int p0, .int p1]) (n := 3) (Nat.le_of_ble_eq_true rfl)
  rw [lg_entry_eq]
  generalize (lg_sl ([.ref G.1, .int p0, .int p1]) ++ List.replicate (3 - (lg_sl ([.ref G.1, .int p0, .int p1])).length) Slot.unset).toArray = ls at hl ⊢
  have hl : lv_has ls 3 [(0, .ref G.1), (1, .int p0), (2, .int p1)] := hl
  refine lv_iload_n hx hb dY_of_0 rfl (lv_at hl 1 rfl) ?_
  refine lv_if_le (tgt := 26) hx hb dY_of_1 (by decide) (fun c1 => ?_) (fun c1 => ?_)
  · refine lv_iconst (v := 0) hx hb dY_of_26 (by decide) ?_
    exact W.zret (v := 0) hx hb hr rfl (fun tE ht hW => ⟨⟨0, (zk, zn, zi, zt, zs, zr, zd, zy, zm, zc, zv, ze, zo), rfl, by first | (simp only [fOf, bI, yk, yn, yi, yt, ys, yr, yd, yy, ym, yc, yv, ye, yo, eq_true c1, eq_self, ↓reduceIte, Bool.false_eq_true, Bool.not_false, Bool.not_true, Bool.and_true, Bool.and_false, Bool.true_and, Bool.false_and, decide_true, decide_false] <;> first | done | decide) | (simp only [fOf, bI, yk, yn, yi, yt, ys, yr, yd, yy, ym, yc, yv, ye, yo, c1, eq_self, ↓reduceIte, Bool.false_eq_true, Bool.not_false, Bool.not_true, Bool.and_true, Bool.and_false, Bool.true_and, Bool.false_and, decide_true, decide_false] <;> first | done | decide) | (simp [fOf, bI, yk, yn, yi, yt, ys, yr, yd, yy, ym, yc, yv, ye, yo, c1]; done) | (simp [fOf, bI, yk, yn, yi, yt, ys, yr, yd, yy, ym, yc, yv, ye, yo, eq_true c1]; done), by rw [ht]; exact hP, va_K.moved hW.alike hK, hD⟩, hS.F ht⟩) hS.2.2 dY_of_27
  · refine lv_aload_n hx hb dY_of_4 rfl (lv_at hl 0 rfl) ?_
    refine va_get (D := D) (ci := 2) (v := .ref G.2.2.2.2.2.2.2.1) (C := RY) (T := TY) (N := 13) hx hb hty inY hown hK hP 0 rfl rfl 7 (by decide) (hty _ yf_32) (fun _ h9 => h9) rfl dY_of_5 ?_
    refine lv_aload_n hx hb dY_of_8 rfl (lv_at hl 0 rfl) ?_
    refine va_get (D := D) (ci := 2) (v := .ref G.2.1) (C := RY) (T := TY) (N := 13) hx hb hty inY hown hK hP 0 rfl rfl 0 (by decide) (hty _ yf_7) (fun _ h9 => h9) rfl dY_of_9 ?_
    refine lv_iload_n hx hb dY_of_12 rfl (lv_at hl 1 rfl) ?_
    refine va_iald (f := zk) hx hb hK hP 1 0 rfl rfl hr0 dY_of_13 ?_
    refine va_iald (f := zy) hx hb hK hP 7 6 rfl rfl hkd dY_of_14 ?_
    refine lv_iload_n hx hb dY_of_15 rfl (lv_at hl 2 rfl) ?_
    refine lv_ishr hx hb dY_of_16 ?_
    refine lv_iconst (v := 1) hx hb dY_of_17 (by decide) ?_
    refine lv_iand hx hb dY_of_18 ?_
    refine lv_if_eq (tgt := 26) hx hb dY_of_19 (by decide) (fun c2 => ?_) (fun c2 => ?_)
    · refine lv_iconst (v := 0) hx hb dY_of_26 (by decide) ?_
      exact W.zret (v := 0) hx hb hr rfl (fun tE ht hW => ⟨⟨0, (zk, zn, zi, zt, zs, zr, zd, zy, zm, zc, zv, ze, zo), rfl, by first | (simp only [fOf, bI, yk, yn, yi, yt, ys, yr, yd, yy, ym, yc, yv, ye, yo, c1, eq_true c2, eq_self, ↓reduceIte, Bool.false_eq_true, Bool.not_false, Bool.not_true, Bool.and_true, Bool.and_false, Bool.true_and, Bool.false_and, decide_true, decide_false] <;> first | done | decide) | (simp only [fOf, bI, yk, yn, yi, yt, ys, yr, yd, yy, ym, yc, yv, ye, yo, c1, c2, eq_self, ↓reduceIte, Bool.false_eq_true, Bool.not_false, Bool.not_true, Bool.and_true, Bool.and_false, Bool.true_and, Bool.false_and, decide_true, decide_false] <;> first | done | decide) | (simp [fOf, bI, yk, yn, yi, yt, ys, yr, yd, yy, ym, yc, yv, ye, yo, c1, c2]; done) | (simp [fOf, bI, yk, yn, yi, yt, ys, yr, yd, yy, ym, yc, yv, ye, yo, c1, eq_true c2]; done), by rw [ht]; exact hP, va_K.moved hW.alike hK, hD⟩, hS.F ht⟩) hS.2.2 dY_of_27
    · refine lv_iconst (v := 1) hx hb dY_of_22 (by decide) ?_
      refine lv_goto (tgt := 27) hx hb dY_of_23 (by decide) ?_
      exact W.zret (v := 1) hx hb hr rfl (fun tE ht hW => ⟨⟨1, (zk, zn, zi, zt, zs, zr, zd, zy, zm, zc, zv, ze, zo), rfl, by first | (simp only [fOf, bI, yk, yn, yi, yt, ys, yr, yd, yy, ym, yc, yv, ye, yo, c1, c2, eq_self, ↓reduceIte, Bool.false_eq_true, Bool.not_false, Bool.not_true, Bool.and_true, Bool.and_false, Bool.true_and, Bool.false_and, decide_true, decide_false] <;> first | done | decide) | (simp [fOf, bI, yk, yn, yi, yt, ys, yr, yd, yy, ym, yc, yv, ye, yo, c1, c2]; done), by rw [ht]; exact hP, va_K.moved hW.alike hK, hD⟩, hS.F ht⟩) hS.2.2 dY_of_27
set_option maxHeartbeats 8000000 in
set_option maxRecDepth 100000 in
theorem j_depth (l : Launch) (D : va_G) (G : YF) (v : YS) (hok : yOk v) (sz : Nat) (p0 : Int32) (hc0 : yC (yk v) (yi v) 3 p0) : Met l yY_depth wY_depth ({ frames := 0, cells := 0, slots := 0, locals := 0 }) (yPc D G v sz [.ref G.1, .int p0]) (va_Qi (fun (r : Int32) (w : YS) => (r, w) = (fDep (yk v) (yi v) 4 p0 0, v)) (yB D G (va_A (yW G v) sz)) (va_A (yW G v) sz)) 0 0 (va_A (yW G v) sz) := by
  obtain ⟨zk, zn, zi, zt, zs, zr, zd, zy, zm, zc, zv, ze, zo⟩ := v
  refine Met.ofW (cc := cY_depth) (maxL := 4) (ret := (Option.some Jvm.ClassFile.FieldType.int)) (by decide) rfl ?_
  intro p e s m args below meth c s₁ B hml hv
  obtain ⟨rfl, hsz, hP, hK, hD0⟩ := hv
  have hx := B.exec
  have hb := B.bytes
  have hr := B.returns
  have hts := atoms_spec (ws := wY_depth) B.pre
  have hty : ∀ w ∈ yAll, w.before _ s = true := fun w h => hts w (List.mem_cons_of_mem _ h)
  have hown : s.vm.findClass RY = some m.cls := findClass_of_methodNamed B.named
  have hlocks := B.notSynchronized
  subst hsz
  have hD := hD0.self (sz := s.heap.size)
  generalize hAe : va_A (yW G (zk, zn, zi, zt, zs, zr, zd, zy, zm, zc, zv, ze, zo)) s.heap.size = A at hD ⊢
  have hA : ∀ q : Nat, s.heap.size ≤ q → A q := fun q h => by rw [← hAe]; exact Or.inr h
  have hS : va_S A s.heap s.heap [] := va_S.rf
  refine xHeap (C := fun H => va_P D vwCl (yW G (zk, zn, zi, zt, zs, zr, zd, zy, zm, zc, zv, ze, zo)) H ∧ va_S A s.heap H []) ⟨hP, hS⟩ (fun H hC => ?_)
  obtain ⟨hP, hS⟩ := hC
  have hl := lv_entry ([.ref G.1, .int p0]) (n := 4) (Nat.le_of_ble_eq_true rfl)
  rw [lg_entry_eq]
  generalize (lg_sl ([.ref G.1, .int p0]) ++ List.replicate (4 - (lg_sl ([.ref G.1, .int p0])).length) Slot.unset).toArray = ls at hl ⊢
  have hl : lv_has ls 4 [(0, .ref G.1), (1, .int p0)] := hl
  refine lv_iconst (v := 0) hx hb dY_depth_0 (by decide) ?_
  refine lv_istore_n (lv' := [(2, .int 0), (0, .ref G.1), (1, .int p0)]) hx hb dY_depth_1 rfl hl (by decide) rfl (fun ls hl => ?_)
  refine lv_iload_n hx hb dY_depth_2 rfl (lv_at hl 2 rfl) ?_
  refine lv_istore_n (lv' := [(3, .int p0), (2, .int 0), (0, .ref G.1), (1, .int p0)]) hx hb dY_depth_3 rfl hl (by decide) rfl (fun ls hl => ?_)
  refine lv_aload_n hx hb dY_depth_4 rfl (lv_at hl 2 rfl) ?_
  refine va_get (D := D) (ci := 2) (v := .ref G.2.1) (C := RY) (T := TY) (N := 13) hx hb hty inY hown hK hP 0 rfl rfl 0 (by decide) (hty _ yf_7) (fun _ h9 => h9) rfl dY_depth_5 ?_
  refine lv_iload_n hx hb dY_depth_8 rfl (lv_at hl 0 rfl) ?_
  refine va_iald (f := zk) hx hb hK hP 1 0 rfl rfl (yC.rg hc0) dY_depth_9 ?_
  refine lv_bipush (v := 8) hx hb dY_depth_10 (by decide) ?_
  refine lv_icmp_ne (tgt := 32) hx hb dY_depth_12 (by decide) (fun c1 => ?_) (fun c1 => ?_)
  · refine lv_iload_n hx hb dY_depth_32 rfl (lv_at hl 1 rfl) ?_
    exact W.iret (v := 0) hx hb hr (fun tE ht hW => ⟨⟨0, (zk, zn, zi, zt, zs, zr, zd, zy, zm, zc, zv, ze, zo), rfl, by first | (simp only [fDep, yk, yn, yi, yt, ys, yr, yd, yy, ym, yc, yv, ye, yo, c1, eq_self, ↓reduceIte, Bool.false_eq_true, Bool.not_false, Bool.not_true, Bool.and_true, Bool.and_false, Bool.true_and, Bool.false_and, decide_true, decide_false] <;> first | done | decide) | (simp [fDep, yk, yn, yi, yt, ys, yr, yd, yy, ym, yc, yv, ye, yo, c1]; done), by rw [ht]; exact hP, va_K.moved hW.alike hK, hD⟩, hS.F ht⟩) hS.2.2 dY_depth_33
  · refine lv_iload_n hx hb dY_depth_15 rfl (lv_at hl 0 rfl) ?_
    refine lv_if_le (tgt := 32) hx hb dY_depth_16 (by decide) (fun c2 => ?_) (fun c2 => ?_)
    · refine lv_iload_n hx hb dY_depth_32 rfl (lv_at hl 1 rfl) ?_
      exact W.iret (v := 0) hx hb hr (fun tE ht hW => ⟨⟨0, (zk, zn, zi, zt, zs, zr, zd, zy, zm, zc, zv, ze, zo), rfl, by first | (simp only [fDep, yk, yn, yi, yt, ys, yr, yd, yy, ym, yc, yv, ye, yo, eq_true c1, eq_true c2, eq_self, ↓reduceIte, Bool.false_eq_true, Bool.not_false, Bool.not_true, Bool.and_true, Bool.and_false, Bool.true_and, Bool.false_and, decide_true, decide_false] <;> first | done | decide) | (simp only [fDep, yk, yn, yi, yt, ys, yr, yd, yy, ym, yc, yv, ye, yo, c1, c2, eq_self, ↓reduceIte, Bool.false_eq_true, Bool.not_false, Bool.not_true, Bool.and_true, Bool.and_false, Bool.true_and, Bool.false_and, decide_true, decide_false] <;> first | done | decide) | (simp [fDep, yk, yn, yi, yt, ys, yr, yd, yy, ym, yc, yv, ye, yo, c1, c2]; done) | (simp [fDep, yk, yn, yi, yt, ys, yr, yd, yy, ym, yc, yv, ye, yo, eq_true c1, eq_true c2]; done), by rw [ht]; exact hP, va_K.moved hW.alike hK, hD⟩, hS.F ht⟩) hS.2.2 dY_depth_33
    · refine lv_iinc (v := 1) (lv' := [(2, .int 1), (3, .int p0), (0, .ref G.1), (1, .int p0)]) hx hb dY_depth_19 hl (k := 1) rfl (by decide) (by decide) rfl (fun ls hl => ?_)
      refine lv_aload_n hx hb dY_depth_22 rfl (lv_at hl 2 rfl) ?_
      refine va_get (D := D) (ci := 2) (v := .ref G.2.2.2.1) (C := RY) (T := TY) (N := 13) hx hb hty inY hown hK hP 0 rfl rfl 2 (by decide) (hty _ yf_16) (fun _ h9 => h9) rfl dY_depth_23 ?_
      refine lv_iload_n hx hb dY_depth_26 rfl (lv_at hl 1 rfl) ?_
      refine va_iald (f := zi) hx hb hK hP 3 2 rfl rfl (yC.rg hc0) dY_depth_27 ?_
      refine lv_istore_n (lv' := [(3, .int (zi p0.toNatClampNeg)), (2, .int 1), (0, .ref G.1), (1, .int p0)]) hx hb dY_depth_28 rfl hl (by decide) rfl (fun ls hl => ?_)
      refine lv_goto (tgt := 4) hx hb dY_depth_29 (by decide) ?_
      refine lv_aload_n hx hb dY_depth_4 rfl (lv_at hl 2 rfl) ?_
      refine va_get (D := D) (ci := 2) (v := .ref G.2.1) (C := RY) (T := TY) (N := 13) hx hb hty inY hown hK hP 0 rfl rfl 0 (by decide) (hty _ yf_7) (fun _ h9 => h9) rfl dY_depth_5 ?_
      refine lv_iload_n hx hb dY_depth_8 rfl (lv_at hl 0 rfl) ?_
      refine va_iald (f := zk) hx hb hK hP 1 0 rfl rfl (yC.rg (hc0.2 c1)) dY_depth_9 ?_
      refine lv_bipush (v := 8) hx hb dY_depth_10 (by decide) ?_
      refine lv_icmp_ne (tgt := 32) hx hb dY_depth_12 (by decide) (fun c3 => ?_) (fun c3 => ?_)
      · refine lv_iload_n hx hb dY_depth_32 rfl (lv_at hl 1 rfl) ?_
        exact W.iret (v := 1) hx hb hr (fun tE ht hW => ⟨⟨1, (zk, zn, zi, zt, zs, zr, zd, zy, zm, zc, zv, ze, zo), rfl, by first | (simp only [fDep, yk, yn, yi, yt, ys, yr, yd, yy, ym, yc, yv, ye, yo, eq_true c1, c2, c3, eq_self, ↓reduceIte, Bool.false_eq_true, Bool.not_false, Bool.not_true, Bool.and_true, Bool.and_false, Bool.true_and, Bool.false_and, decide_true, decide_false] <;> first | done | decide) | (simp only [fDep, yk, yn, yi, yt, ys, yr, yd, yy, ym, yc, yv, ye, yo, c1, c2, c3, eq_self, ↓reduceIte, Bool.false_eq_true, Bool.not_false, Bool.not_true, Bool.and_true, Bool.and_false, Bool.true_and, Bool.false_and, decide_true, decide_false] <;> first | done | decide) | (simp [fDep, yk, yn, yi, yt, ys, yr, yd, yy, ym, yc, yv, ye, yo, c1, c2, c3]; done) | (simp [fDep, yk, yn, yi, yt, ys, yr, yd, yy, ym, yc, yv, ye, yo, eq_true c1, c2, c3]; done), by rw [ht]; exact hP, va_K.moved hW.alike hK, hD⟩, hS.F ht⟩) hS.2.2 dY_depth_33
      · refine lv_iload_n hx hb dY_depth_15 rfl (lv_at hl 0 rfl) ?_
        refine lv_if_le (tgt := 32) hx hb dY_depth_16 (by decide) (fun c4 => ?_) (fun c4 => ?_)
        · refine lv_iload_n hx hb dY_depth_32 rfl (lv_at hl 1 rfl) ?_
          exact W.iret (v := 1) hx hb hr (fun tE ht hW => ⟨⟨1, (zk, zn, zi, zt, zs, zr, zd, zy, zm, zc, zv, ze, zo), rfl, by first | (simp only [fDep, yk, yn, yi, yt, ys, yr, yd, yy, ym, yc, yv, ye, yo, eq_true c1, c2, eq_true c3, eq_true c4, eq_self, ↓reduceIte, Bool.false_eq_true, Bool.not_false, Bool.not_true, Bool.and_true, Bool.and_false, Bool.true_and, Bool.false_and, decide_true, decide_false] <;> first | done | decide) | (simp only [fDep, yk, yn, yi, yt, ys, yr, yd, yy, ym, yc, yv, ye, yo, c1, c2, c3, c4, eq_self, ↓reduceIte, Bool.false_eq_true, Bool.not_false, Bool.not_true, Bool.and_true, Bool.and_false, Bool.true_and, Bool.false_and, decide_true, decide_false] <;> first | done | decide) | (simp [fDep, yk, yn, yi, yt, ys, yr, yd, yy, ym, yc, yv, ye, yo, c1, c2, c3, c4]; done) | (simp [fDep, yk, yn, yi, yt, ys, yr, yd, yy, ym, yc, yv, ye, yo, eq_true c1, c2, eq_true c3, eq_true c4]; done), by rw [ht]; exact hP, va_K.moved hW.alike hK, hD⟩, hS.F ht⟩) hS.2.2 dY_depth_33
        · refine lv_iinc (v := 2) (lv' := [(2, .int 2), (3, .int (zi p0.toNatClampNeg)), (0, .ref G.1), (1, .int p0)]) hx hb dY_depth_19 hl (k := 1) rfl (by decide) (by decide) rfl (fun ls hl => ?_)
          refine lv_aload_n hx hb dY_depth_22 rfl (lv_at hl 2 rfl) ?_
          refine va_get (D := D) (ci := 2) (v := .ref G.2.2.2.1) (C := RY) (T := TY) (N := 13) hx hb hty inY hown hK hP 0 rfl rfl 2 (by decide) (hty _ yf_16) (fun _ h9 => h9) rfl dY_depth_23 ?_
          refine lv_iload_n hx hb dY_depth_26 rfl (lv_at hl 1 rfl) ?_
          refine va_iald (f := zi) hx hb hK hP 3 2 rfl rfl (yC.rg (hc0.2 c1)) dY_depth_27 ?_
          refine lv_istore_n (lv' := [(3, .int (zi (zi p0.toNatClampNeg).toNatClampNeg)), (2, .int 2), (0, .ref G.1), (1, .int p0)]) hx hb dY_depth_28 rfl hl (by decide) rfl (fun ls hl => ?_)
          refine lv_goto (tgt := 4) hx hb dY_depth_29 (by decide) ?_
          refine lv_aload_n hx hb dY_depth_4 rfl (lv_at hl 2 rfl) ?_
          refine va_get (D := D) (ci := 2) (v := .ref G.2.1) (C := RY) (T := TY) (N := 13) hx hb hty inY hown hK hP 0 rfl rfl 0 (by decide) (hty _ yf_7) (fun _ h9 => h9) rfl dY_depth_5 ?_
          refine lv_iload_n hx hb dY_depth_8 rfl (lv_at hl 0 rfl) ?_
          refine va_iald (f := zk) hx hb hK hP 1 0 rfl rfl (yC.rg ((hc0.2 c1).2 c3)) dY_depth_9 ?_
          refine lv_bipush (v := 8) hx hb dY_depth_10 (by decide) ?_
          refine lv_icmp_ne (tgt := 32) hx hb dY_depth_12 (by decide) (fun c5 => ?_) (fun c5 => ?_)
          · refine lv_iload_n hx hb dY_depth_32 rfl (lv_at hl 1 rfl) ?_
            exact W.iret (v := 2) hx hb hr (fun tE ht hW => ⟨⟨2, (zk, zn, zi, zt, zs, zr, zd, zy, zm, zc, zv, ze, zo), rfl, by first | (simp only [fDep, yk, yn, yi, yt, ys, yr, yd, yy, ym, yc, yv, ye, yo, eq_true c1, c2, eq_true c3, c4, c5, eq_self, ↓reduceIte, Bool.false_eq_true, Bool.not_false, Bool.not_true, Bool.and_true, Bool.and_false, Bool.true_and, Bool.false_and, decide_true, decide_false] <;> first | done | decide) | (simp only [fDep, yk, yn, yi, yt, ys, yr, yd, yy, ym, yc, yv, ye, yo, c1, c2, c3, c4, c5, eq_self, ↓reduceIte, Bool.false_eq_true, Bool.not_false, Bool.not_true, Bool.and_true, Bool.and_false, Bool.true_and, Bool.false_and, decide_true, decide_false] <;> first | done | decide) | (simp [fDep, yk, yn, yi, yt, ys, yr, yd, yy, ym, yc, yv, ye, yo, c1, c2, c3, c4, c5]; done) | (simp [fDep, yk, yn, yi, yt, ys, yr, yd, yy, ym, yc, yv, ye, yo, eq_true c1, c2, eq_true c3, c4, c5]; done), by rw [ht]; exact hP, va_K.moved hW.alike hK, hD⟩, hS.F ht⟩) hS.2.2 dY_depth_33
          · refine lv_iload_n hx hb dY_depth_15 rfl (lv_at hl 0 rfl) ?_
            refine lv_if_le (tgt := 32) hx hb dY_depth_16 (by decide) (fun c6 => ?_) (fun c6 => ?_)
            · refine lv_iload_n hx hb dY_depth_32 rfl (lv_at hl 1 rfl) ?_
              exact W.iret (v := 2) hx hb hr (fun tE ht hW => ⟨⟨2, (zk, zn, zi, zt, zs, zr, zd, zy, zm, zc, zv, ze, zo), rfl, by first | (simp only [fDep, yk, yn, yi, yt, ys, yr, yd, yy, ym, yc, yv, ye, yo, eq_true c1, c2, eq_true c3, c4, eq_true c5, eq_true c6, eq_self, ↓reduceIte, Bool.false_eq_true, Bool.not_false, Bool.not_true, Bool.and_true, Bool.and_false, Bool.true_and, Bool.false_and, decide_true, decide_false] <;> first | done | decide) | (simp only [fDep, yk, yn, yi, yt, ys, yr, yd, yy, ym, yc, yv, ye, yo, c1, c2, c3, c4, c5, c6, eq_self, ↓reduceIte, Bool.false_eq_true, Bool.not_false, Bool.not_true, Bool.and_true, Bool.and_false, Bool.true_and, Bool.false_and, decide_true, decide_false] <;> first | done | decide) | (simp [fDep, yk, yn, yi, yt, ys, yr, yd, yy, ym, yc, yv, ye, yo, c1, c2, c3, c4, c5, c6]; done) | (simp [fDep, yk, yn, yi, yt, ys, yr, yd, yy, ym, yc, yv, ye, yo, eq_true c1, c2, eq_true c3, c4, eq_true c5, eq_true c6]; done), by rw [ht]; exact hP, va_K.moved hW.alike hK, hD⟩, hS.F ht⟩) hS.2.2 dY_depth_33
            · refine lv_iinc (v := 3) (lv' := [(2, .int 3), (3, .int (zi (zi p0.toNatClampNeg).toNatClampNeg)), (0, .ref G.1), (1, .int p0)]) hx hb dY_depth_19 hl (k := 1) rfl (by decide) (by decide) rfl (fun ls hl => ?_)
              refine lv_aload_n hx hb dY_depth_22 rfl (lv_at hl 2 rfl) ?_
              refine va_get (D := D) (ci := 2) (v := .ref G.2.2.2.1) (C := RY) (T := TY) (N := 13) hx hb hty inY hown hK hP 0 rfl rfl 2 (by decide) (hty _ yf_16) (fun _ h9 => h9) rfl dY_depth_23 ?_
              refine lv_iload_n hx hb dY_depth_26 rfl (lv_at hl 1 rfl) ?_
              refine va_iald (f := zi) hx hb hK hP 3 2 rfl rfl (yC.rg ((hc0.2 c1).2 c3)) dY_depth_27 ?_
              refine lv_istore_n (lv' := [(3, .int (zi (zi (zi p0.toNatClampNeg).toNatClampNeg).toNatClampNeg)), (2, .int 3), (0, .ref G.1), (1, .int p0)]) hx hb dY_depth_28 rfl hl (by decide) rfl (fun ls hl => ?_)
              refine lv_goto (tgt := 4) hx hb dY_depth_29 (by decide) ?_
              refine lv_aload_n hx hb dY_depth_4 rfl (lv_at hl 2 rfl) ?_
              refine va_get (D := D) (ci := 2) (v := .ref G.2.1) (C := RY) (T := TY) (N := 13) hx hb hty inY hown hK hP 0 rfl rfl 0 (by decide) (hty _ yf_7) (fun _ h9 => h9) rfl dY_depth_5 ?_
              refine lv_iload_n hx hb dY_depth_8 rfl (lv_at hl 0 rfl) ?_
              refine va_iald (f := zk) hx hb hK hP 1 0 rfl rfl (yC.rg (((hc0.2 c1).2 c3).2 c5)) dY_depth_9 ?_
              refine lv_bipush (v := 8) hx hb dY_depth_10 (by decide) ?_
              have c7 : ¬ (zk (zi (zi (zi p0.toNatClampNeg).toNatClampNeg).toNatClampNeg).toNatClampNeg) = 8 := (((hc0.2 c1).2 c3).2 c5).2
              refine lv_icmp_ne (tgt := 32) hx hb dY_depth_12 (by decide) (fun _ => ?_) (fun cz => absurd cz c7)
              refine lv_iload_n hx hb dY_depth_32 rfl (lv_at hl 1 rfl) ?_
              exact W.iret (v := 3) hx hb hr (fun tE ht hW => ⟨⟨3, (zk, zn, zi, zt, zs, zr, zd, zy, zm, zc, zv, ze, zo), rfl, by first | (simp only [fDep, yk, yn, yi, yt, ys, yr, yd, yy, ym, yc, yv, ye, yo, eq_true c1, c2, eq_true c3, c4, eq_true c5, c6, c7, eq_self, ↓reduceIte, Bool.false_eq_true, Bool.not_false, Bool.not_true, Bool.and_true, Bool.and_false, Bool.true_and, Bool.false_and, decide_true, decide_false] <;> first | done | decide) | (simp only [fDep, yk, yn, yi, yt, ys, yr, yd, yy, ym, yc, yv, ye, yo, c1, c2, c3, c4, c5, c6, c7, eq_self, ↓reduceIte, Bool.false_eq_true, Bool.not_false, Bool.not_true, Bool.and_true, Bool.and_false, Bool.true_and, Bool.false_and, decide_true, decide_false] <;> first | done | decide) | (simp [fDep, yk, yn, yi, yt, ys, yr, yd, yy, ym, yc, yv, ye, yo, c1, c2, c3, c4, c5, c6, c7]; done) | (simp [fDep, yk, yn, yi, yt, ys, yr, yd, yy, ym, yc, yv, ye, yo, eq_true c1, c2, eq_true c3, c4, eq_true c5, c6, c7]; done), by rw [ht]; exact hP, va_K.moved hW.alike hK, hD⟩, hS.F ht⟩) hS.2.2 dY_depth_33
set_option maxHeartbeats 8000000 in
set_option maxRecDepth 100000 in
theorem j_volume (l : Launch) (D : va_G) (G : YF) (v : YS) (sz : Nat) (p0 p1 : Int32) (hr0 : vp_in p0 520) : Met l yY_volume wY_volume ({ frames := 0, cells := 0, slots := 0, locals := 0 }) (yPc D G v sz [.ref G.1, .int p0, .int p1]) (va_Qi (fun (r : Int32) (w : YS) => (r, w) = (zVol v p0 p1, v)) (yB D G (va_A (yW G v) sz)) (va_A (yW G v) sz)) 0 0 (va_A (yW G v) sz) := by
  obtain ⟨zk, zn, zi, zt, zs, zr, zd, zy, zm, zc, zv, ze, zo⟩ := v
  refine Met.ofW (cc := cY_volume) (maxL := 4) (ret := (Option.some Jvm.ClassFile.FieldType.int)) (by decide) rfl ?_
  intro p e s m args below meth c s₁ B hml hv
  obtain ⟨rfl, hsz, hP, hK, hD0⟩ := hv
  have hx := B.exec
  have hb := B.bytes
  have hr := B.returns
  have hts := atoms_spec (ws := wY_volume) B.pre
  have hty : ∀ w ∈ yAll, w.before _ s = true := fun w h => hts w (List.mem_cons_of_mem _ h)
  have hown : s.vm.findClass RY = some m.cls := findClass_of_methodNamed B.named
  have hlocks := B.notSynchronized
  subst hsz
  have hD := hD0.self (sz := s.heap.size)
  generalize hAe : va_A (yW G (zk, zn, zi, zt, zs, zr, zd, zy, zm, zc, zv, ze, zo)) s.heap.size = A at hD ⊢
  have hA : ∀ q : Nat, s.heap.size ≤ q → A q := fun q h => by rw [← hAe]; exact Or.inr h
  have hS : va_S A s.heap s.heap [] := va_S.rf
  refine xHeap (C := fun H => va_P D vwCl (yW G (zk, zn, zi, zt, zs, zr, zd, zy, zm, zc, zv, ze, zo)) H ∧ va_S A s.heap H []) ⟨hP, hS⟩ (fun H hC => ?_)
  obtain ⟨hP, hS⟩ := hC
  have hl := lv_entry ([.ref G.1, .int p0, .int p1]) (n := 4) (Nat.le_of_ble_eq_true rfl)
  rw [lg_entry_eq]
  generalize (lg_sl ([.ref G.1, .int p0, .int p1]) ++ List.replicate (4 - (lg_sl ([.ref G.1, .int p0, .int p1])).length) Slot.unset).toArray = ls at hl ⊢
  have hl : lv_has ls 4 [(0, .ref G.1), (1, .int p0), (2, .int p1)] := hl
  refine lv_aload_n hx hb dY_volume_0 rfl (lv_at hl 0 rfl) ?_
  refine va_get (D := D) (ci := 2) (v := .ref G.2.1) (C := RY) (T := TY) (N := 13) hx hb hty inY hown hK hP 0 rfl rfl 0 (by decide) (hty _ yf_7) (fun _ h9 => h9) rfl dY_volume_1 ?_
  refine lv_iload_n hx hb dY_volume_4 rfl (lv_at hl 1 rfl) ?_
  refine va_iald (f := zk) hx hb hK hP 1 0 rfl rfl hr0 dY_volume_5 ?_
  refine lv_istore_n (lv' := [(3, .int (zk p0.toNatClampNeg)), (0, .ref G.1), (1, .int p0), (2, .int p1)]) hx hb dY_volume_6 rfl hl (by decide) rfl (fun ls hl => ?_)
  refine lv_iload_n hx hb dY_volume_7 rfl (lv_at hl 0 rfl) ?_
  refine lv_iconst (v := 2) hx hb dY_volume_8 (by decide) ?_
  refine lv_icmp_ne (tgt := 21) hx hb dY_volume_9 (by decide) (fun c1 => ?_) (fun c1 => ?_)
  · refine lv_iload_n hx hb dY_volume_21 rfl (lv_at hl 0 rfl) ?_
    refine lv_iconst (v := 1) hx hb dY_volume_22 (by decide) ?_
    refine lv_icmp_eq (tgt := 32) hx hb dY_volume_23 (by decide) (fun c2 => ?_) (fun c2 => ?_)
    · refine lv_iload_n hx hb dY_volume_32 rfl (lv_at hl 3 rfl) ?_
      refine lv_bipush (v := 10) hx hb dY_volume_33 (by decide) ?_
      refine lv_isub hx hb dY_volume_35 ?_
      refine lv_goto (tgt := 43) hx hb dY_volume_36 (by decide) ?_
      exact W.iret (v := (p1 - 10)) hx hb hr (fun tE ht hW => ⟨⟨(p1 - 10), (zk, zn, zi, zt, zs, zr, zd, zy, zm, zc, zv, ze, zo), rfl, by first | (simp only [zVol, yk, yn, yi, yt, ys, yr, yd, yy, ym, yc, yv, ye, yo, c1, eq_true c2, eq_self, ↓reduceIte, Bool.false_eq_true, Bool.not_false, Bool.not_true, Bool.and_true, Bool.and_false, Bool.true_and, Bool.false_and, decide_true, decide_false] <;> first | done | decide) | (simp only [zVol, yk, yn, yi, yt, ys, yr, yd, yy, ym, yc, yv, ye, yo, c1, c2, eq_self, ↓reduceIte, Bool.false_eq_true, Bool.not_false, Bool.not_true, Bool.and_true, Bool.and_false, Bool.true_and, Bool.false_and, decide_true, decide_false] <;> first | done | decide) | (simp [zVol, yk, yn, yi, yt, ys, yr, yd, yy, ym, yc, yv, ye, yo, c1, c2]; done) | (simp [zVol, yk, yn, yi, yt, ys, yr, yd, yy, ym, yc, yv, ye, yo, c1, eq_true c2]; done), by rw [ht]; exact hP, va_K.moved hW.alike hK, hD⟩, hS.F ht⟩) hS.2.2 dY_volume_43
    · refine lv_iload_n hx hb dY_volume_26 rfl (lv_at hl 0 rfl) ?_
      refine lv_bipush (v := 9) hx hb dY_volume_27 (by decide) ?_
      refine lv_icmp_ne (tgt := 39) hx hb dY_volume_29 (by decide) (fun c3 => ?_) (fun c3 => ?_)
      · refine lv_iload_n hx hb dY_volume_39 rfl (lv_at hl 3 rfl) ?_
        refine lv_bipush (v := 10) hx hb dY_volume_40 (by decide) ?_
        refine lv_iadd hx hb dY_volume_42 ?_
        exact W.iret (v := (p1 + 10)) hx hb hr (fun tE ht hW => ⟨⟨(p1 + 10), (zk, zn, zi, zt, zs, zr, zd, zy, zm, zc, zv, ze, zo), rfl, by first | (simp only [zVol, yk, yn, yi, yt, ys, yr, yd, yy, ym, yc, yv, ye, yo, c1, c2, c3, eq_self, ↓reduceIte, Bool.false_eq_true, Bool.not_false, Bool.not_true, Bool.and_true, Bool.and_false, Bool.true_and, Bool.false_and, decide_true, decide_false] <;> first | done | decide) | (simp [zVol, yk, yn, yi, yt, ys, yr, yd, yy, ym, yc, yv, ye, yo, c1, c2, c3]; done), by rw [ht]; exact hP, va_K.moved hW.alike hK, hD⟩, hS.F ht⟩) hS.2.2 dY_volume_43
      · refine lv_iload_n hx hb dY_volume_32 rfl (lv_at hl 3 rfl) ?_
        refine lv_bipush (v := 10) hx hb dY_volume_33 (by decide) ?_
        refine lv_isub hx hb dY_volume_35 ?_
        refine lv_goto (tgt := 43) hx hb dY_volume_36 (by decide) ?_
        exact W.iret (v := (p1 - 10)) hx hb hr (fun tE ht hW => ⟨⟨(p1 - 10), (zk, zn, zi, zt, zs, zr, zd, zy, zm, zc, zv, ze, zo), rfl, by first | (simp only [zVol, yk, yn, yi, yt, ys, yr, yd, yy, ym, yc, yv, ye, yo, c1, c2, eq_true c3, eq_self, ↓reduceIte, Bool.false_eq_true, Bool.not_false, Bool.not_true, Bool.and_true, Bool.and_false, Bool.true_and, Bool.false_and, decide_true, decide_false] <;> first | done | decide) | (simp only [zVol, yk, yn, yi, yt, ys, yr, yd, yy, ym, yc, yv, ye, yo, c1, c2, c3, eq_self, ↓reduceIte, Bool.false_eq_true, Bool.not_false, Bool.not_true, Bool.and_true, Bool.and_false, Bool.true_and, Bool.false_and, decide_true, decide_false] <;> first | done | decide) | (simp [zVol, yk, yn, yi, yt, ys, yr, yd, yy, ym, yc, yv, ye, yo, c1, c2, c3]; done) | (simp [zVol, yk, yn, yi, yt, ys, yr, yd, yy, ym, yc, yv, ye, yo, c1, c2, eq_true c3]; done), by rw [ht]; exact hP, va_K.moved hW.alike hK, hD⟩, hS.F ht⟩) hS.2.2 dY_volume_43
  · refine lv_iconst (v := 3) hx hb dY_volume_12 (by decide) ?_
    refine lv_iload_n hx hb dY_volume_13 rfl (lv_at hl 3 rfl) ?_
    refine lv_bipush (v := 10) hx hb dY_volume_14 (by decide) ?_
    refine lv_iadd hx hb dY_volume_16 ?_
    refine lv_imul hx hb dY_volume_17 ?_
    refine lv_goto (tgt := 43) hx hb dY_volume_18 (by decide) ?_
    exact W.iret (v := (3 * (p1 + 10))) hx hb hr (fun tE ht hW => ⟨⟨(3 * (p1 + 10)), (zk, zn, zi, zt, zs, zr, zd, zy, zm, zc, zv, ze, zo), rfl, by first | (simp only [zVol, yk, yn, yi, yt, ys, yr, yd, yy, ym, yc, yv, ye, yo, eq_true c1, eq_self, ↓reduceIte, Bool.false_eq_true, Bool.not_false, Bool.not_true, Bool.and_true, Bool.and_false, Bool.true_and, Bool.false_and, decide_true, decide_false] <;> first | done | decide) | (simp only [zVol, yk, yn, yi, yt, ys, yr, yd, yy, ym, yc, yv, ye, yo, c1, eq_self, ↓reduceIte, Bool.false_eq_true, Bool.not_false, Bool.not_true, Bool.and_true, Bool.and_false, Bool.true_and, Bool.false_and, decide_true, decide_false] <;> first | done | decide) | (simp [zVol, yk, yn, yi, yt, ys, yr, yd, yy, ym, yc, yv, ye, yo, c1]; done) | (simp [zVol, yk, yn, yi, yt, ys, yr, yd, yy, ym, yc, yv, ye, yo, eq_true c1]; done), by rw [ht]; exact hP, va_K.moved hW.alike hK, hD⟩, hS.F ht⟩) hS.2.2 dY_volume_43
set_option maxHeartbeats 8000000 in
set_option maxRecDepth 100000 in
theorem j_weight (l : Launch) (D : va_G) (G : YF) (v : YS) (sz : Nat) (p0 : Int32) (hr0 : vp_in p0 520) : Met l yY_weight wY_weight ({ frames := 0, cells := 0, slots := 0, locals := 0 }) (yPc D G v sz [.ref G.1, .int p0]) (va_Qi (fun (r : Int32) (w : YS) => (r, w) = (zWgt v p0, v)) (yB D G (va_A (yW G v) sz)) (va_A (yW G v) sz)) 0 0 (va_A (yW G v) sz) := by
  obtain ⟨zk, zn, zi, zt, zs, zr, zd, zy, zm, zc, zv, ze, zo⟩ := v
  refine Met.ofW (cc := cY_weight) (maxL := 2) (ret := (Option.some Jvm.ClassFile.FieldType.int)) (by decide) rfl ?_
  intro p e s m args below meth c s₁ B hml hv
  obtain ⟨rfl, hsz, hP, hK, hD0⟩ := hv
  have hx := B.exec
  have hb := B.bytes
  have hr := B.returns
  have hts := atoms_spec (ws := wY_weight) B.pre
  have hty : ∀ w ∈ yAll, w.before _ s = true := fun w h => hts w (List.mem_cons_of_mem _ h)
  have hown : s.vm.findClass RY = some m.cls := findClass_of_methodNamed B.named
  have hlocks := B.notSynchronized
  subst hsz
  have hD := hD0.self (sz := s.heap.size)
  generalize hAe : va_A (yW G (zk, zn, zi, zt, zs, zr, zd, zy, zm, zc, zv, ze, zo)) s.heap.size = A at hD ⊢
  have hA : ∀ q : Nat, s.heap.size ≤ q → A q := fun q h => by rw [← hAe]; exact Or.inr h
  have hS : va_S A s.heap s.heap [] := va_S.rf
  refine xHeap (C := fun H => va_P D vwCl (yW G (zk, zn, zi, zt, zs, zr, zd, zy, zm, zc, zv, ze, zo)) H ∧ va_S A s.heap H []) ⟨hP, hS⟩ (fun H hC => ?_)
  obtain ⟨hP, hS⟩ := hC
  have hl := lv_entry ([.ref G.1, .int p0]) (n := 2) (Nat.le_of_ble_eq_true rfl)
  rw [lg_entry_eq]
  generalize (lg_sl ([.ref G.1, .int p0]) ++ List.replicate (2 - (lg_sl ([.ref G.1, .int p0])).length) Slot.unset).toArray = ls at hl ⊢
  have hl : lv_has ls 2 [(0, .ref G.1), (1, .int p0)] := hl
  refine lv_aload_n hx hb dY_weight_0 rfl (lv_at hl 0 rfl) ?_
  refine va_get (D := D) (ci := 2) (v := .ref G.2.1) (C := RY) (T := TY) (N := 13) hx hb hty inY hown hK hP 0 rfl rfl 0 (by decide) (hty _ yf_7) (fun _ h9 => h9) rfl dY_weight_1 ?_
  refine lv_iload_n hx hb dY_weight_4 rfl (lv_at hl 1 rfl) ?_
  refine va_iald (f := zk) hx hb hK hP 1 0 rfl rfl hr0 dY_weight_5 ?_
  by_cases c1 : (zk p0.toNatClampNeg) = 0
  · refine lv_tableIn (off := 26) (tgt := 32) hx hb dY_weight_6 (by rw [c1]; decide) (by rw [c1]; decide) (by rw [c1]; rfl) (by decide) ?_
    refine lv_iconst (v := 2) hx hb dY_weight_32 (by decide) ?_
    refine lv_aload_n hx hb dY_weight_33 rfl (lv_at hl 0 rfl) ?_
    refine va_get (D := D) (ci := 2) (v := .ref G.2.2.1) (C := RY) (T := TY) (N := 13) hx hb hty inY hown hK hP 0 rfl rfl 1 (by decide) (hty _ yf_13) (fun _ h9 => h9) rfl dY_weight_34 ?_
    refine lv_iload_n hx hb dY_weight_37 rfl (lv_at hl 1 rfl) ?_
    refine va_iald (f := zn) hx hb hK hP 2 1 rfl rfl hr0 dY_weight_38 ?_
    refine lv_imul hx hb dY_weight_39 ?_
    refine lv_iconst (v := 1) hx hb dY_weight_40 (by decide) ?_
    refine lv_iadd hx hb dY_weight_41 ?_
    exact W.iret (v := ((2 * (zn p0.toNatClampNeg)) + 1)) hx hb hr (fun tE ht hW => ⟨⟨((2 * (zn p0.toNatClampNeg)) + 1), (zk, zn, zi, zt, zs, zr, zd, zy, zm, zc, zv, ze, zo), rfl, by first | (simp only [zWgt, yk, yn, yi, yt, ys, yr, yd, yy, ym, yc, yv, ye, yo, eq_true c1, eq_self, ↓reduceIte, Bool.false_eq_true, Bool.not_false, Bool.not_true, Bool.and_true, Bool.and_false, Bool.true_and, Bool.false_and, decide_true, decide_false] <;> first | done | decide) | (simp only [zWgt, yk, yn, yi, yt, ys, yr, yd, yy, ym, yc, yv, ye, yo, c1, eq_self, ↓reduceIte, Bool.false_eq_true, Bool.not_false, Bool.not_true, Bool.and_true, Bool.and_false, Bool.true_and, Bool.false_and, decide_true, decide_false] <;> first | done | decide) | (simp [zWgt, yk, yn, yi, yt, ys, yr, yd, yy, ym, yc, yv, ye, yo, c1]; done) | (simp [zWgt, yk, yn, yi, yt, ys, yr, yd, yy, ym, yc, yv, ye, yo, eq_true c1]; done), by rw [ht]; exact hP, va_K.moved hW.alike hK, hD⟩, hS.F ht⟩) hS.2.2 dY_weight_42
  by_cases c2 : (zk p0.toNatClampNeg) = 1
  · refine lv_tableIn (off := 37) (tgt := 43) hx hb dY_weight_6 (by rw [c2]; decide) (by rw [c2]; decide) (by rw [c2]; rfl) (by decide) ?_
    refine lv_iconst (v := 3) hx hb dY_weight_43 (by decide) ?_
    refine lv_aload_n hx hb dY_weight_44 rfl (lv_at hl 0 rfl) ?_
    refine va_get (D := D) (ci := 2) (v := .ref G.2.2.1) (C := RY) (T := TY) (N := 13) hx hb hty inY hown hK hP 0 rfl rfl 1 (by decide) (hty _ yf_13) (fun _ h9 => h9) rfl dY_weight_45 ?_
    refine lv_iload_n hx hb dY_weight_48 rfl (lv_at hl 1 rfl) ?_
    refine va_iald (f := zn) hx hb hK hP 2 1 rfl rfl hr0 dY_weight_49 ?_
    refine lv_imul hx hb dY_weight_50 ?_
    exact W.iret (v := (3 * (zn p0.toNatClampNeg))) hx hb hr (fun tE ht hW => ⟨⟨(3 * (zn p0.toNatClampNeg)), (zk, zn, zi, zt, zs, zr, zd, zy, zm, zc, zv, ze, zo), rfl, by first | (simp only [zWgt, yk, yn, yi, yt, ys, yr, yd, yy, ym, yc, yv, ye, yo, c1, eq_true c2, eq_self, ↓reduceIte, Bool.false_eq_true, Bool.not_false, Bool.not_true, Bool.and_true, Bool.and_false, Bool.true_and, Bool.false_and, decide_true, decide_false] <;> first | done | decide) | (simp only [zWgt, yk, yn, yi, yt, ys, yr, yd, yy, ym, yc, yv, ye, yo, c1, c2, eq_self, ↓reduceIte, Bool.false_eq_true, Bool.not_false, Bool.not_true, Bool.and_true, Bool.and_false, Bool.true_and, Bool.false_and, decide_true, decide_false] <;> first | done | decide) | (simp [zWgt, yk, yn, yi, yt, ys, yr, yd, yy, ym, yc, yv, ye, yo, c1, c2]; done) | (simp [zWgt, yk, yn, yi, yt, ys, yr, yd, yy, ym, yc, yv, ye, yo, c1, eq_true c2]; done), by rw [ht]; exact hP, va_K.moved hW.alike hK, hD⟩, hS.F ht⟩) hS.2.2 dY_weight_51
  by_cases c3 : (zk p0.toNatClampNeg) = 2
  · refine lv_tableIn (off := 46) (tgt := 52) hx hb dY_weight_6 (by rw [c3]; decide) (by rw [c3]; decide) (by rw [c3]; rfl) (by decide) ?_
    refine lv_bipush (v := 6) hx hb dY_weight_52 (by decide) ?_
    refine lv_aload_n hx hb dY_weight_54 rfl (lv_at hl 0 rfl) ?_
    refine va_get (D := D) (ci := 2) (v := .ref G.2.2.1) (C := RY) (T := TY) (N := 13) hx hb hty inY hown hK hP 0 rfl rfl 1 (by decide) (hty _ yf_13) (fun _ h9 => h9) rfl dY_weight_55 ?_
    refine lv_iload_n hx hb dY_weight_58 rfl (lv_at hl 1 rfl) ?_
    refine va_iald (f := zn) hx hb hK hP 2 1 rfl rfl hr0 dY_weight_59 ?_
    refine lv_imul hx hb dY_weight_60 ?_
    exact W.iret (v := (6 * (zn p0.toNatClampNeg))) hx hb hr (fun tE ht hW => ⟨⟨(6 * (zn p0.toNatClampNeg)), (zk, zn, zi, zt, zs, zr, zd, zy, zm, zc, zv, ze, zo), rfl, by first | (simp only [zWgt, yk, yn, yi, yt, ys, yr, yd, yy, ym, yc, yv, ye, yo, c1, c2, eq_true c3, eq_self, ↓reduceIte, Bool.false_eq_true, Bool.not_false, Bool.not_true, Bool.and_true, Bool.and_false, Bool.true_and, Bool.false_and, decide_true, decide_false] <;> first | done | decide) | (simp only [zWgt, yk, yn, yi, yt, ys, yr, yd, yy, ym, yc, yv, ye, yo, c1, c2, c3, eq_self, ↓reduceIte, Bool.false_eq_true, Bool.not_false, Bool.not_true, Bool.and_true, Bool.and_false, Bool.true_and, Bool.false_and, decide_true, decide_false] <;> first | done | decide) | (simp [zWgt, yk, yn, yi, yt, ys, yr, yd, yy, ym, yc, yv, ye, yo, c1, c2, c3]; done) | (simp [zWgt, yk, yn, yi, yt, ys, yr, yd, yy, ym, yc, yv, ye, yo, c1, c2, eq_true c3]; done), by rw [ht]; exact hP, va_K.moved hW.alike hK, hD⟩, hS.F ht⟩) hS.2.2 dY_weight_61
  refine lv_tableOut (tgt := 62) hx hb dY_weight_6 (by have z0 := lv_neT (k := 0) (a := 0) c1 (by decide); have z1 := lv_neT (k := 1) (a := 1) c2 (by decide); have z2 := lv_neT (k := 2) (a := 2) c3 (by decide); omega) (by decide) ?_
  refine lv_iconst (v := 4) hx hb dY_weight_62 (by decide) ?_
  refine lv_aload_n hx hb dY_weight_63 rfl (lv_at hl 0 rfl) ?_
  refine va_get (D := D) (ci := 2) (v := .ref G.2.2.1) (C := RY) (T := TY) (N := 13) hx hb hty inY hown hK hP 0 rfl rfl 1 (by decide) (hty _ yf_13) (fun _ h9 => h9) rfl dY_weight_64 ?_
  refine lv_iload_n hx hb dY_weight_67 rfl (lv_at hl 1 rfl) ?_
  refine va_iald (f := zn) hx hb hK hP 2 1 rfl rfl hr0 dY_weight_68 ?_
  refine lv_imul hx hb dY_weight_69 ?_
  refine lv_iconst (v := 1) hx hb dY_weight_70 (by decide) ?_
  refine lv_iadd hx hb dY_weight_71 ?_
  exact W.iret (v := ((4 * (zn p0.toNatClampNeg)) + 1)) hx hb hr (fun tE ht hW => ⟨⟨((4 * (zn p0.toNatClampNeg)) + 1), (zk, zn, zi, zt, zs, zr, zd, zy, zm, zc, zv, ze, zo), rfl, by first | (simp only [zWgt, yk, yn, yi, yt, ys, yr, yd, yy, ym, yc, yv, ye, yo, c1, c2, c3, eq_self, ↓reduceIte, Bool.false_eq_true, Bool.not_false, Bool.not_true, Bool.and_true, Bool.and_false, Bool.true_and, Bool.false_and, decide_true, decide_false] <;> first | done | decide) | (simp [zWgt, yk, yn, yi, yt, ys, yr, yd, yy, ym, yc, yv, ye, yo, c1, c2, c3]; done), by rw [ht]; exact hP, va_K.moved hW.alike hK, hD⟩, hS.F ht⟩) hS.2.2 dY_weight_72
set_option maxHeartbeats 8000000 in
set_option maxRecDepth 100000 in
theorem j_seed (l : Launch) (D : va_G) (G : YF) (v : YS) (sz : Nat) (p0 : Int32) (hr0 : vp_in p0 520) : Met l yY_seed wY_seed ({ frames := 0, cells := 0, slots := 0, locals := 0 }) (yPc D G v sz [.ref G.1, .int p0]) (va_Qi (fun (r : Int32) (w : YS) => (r, w) = (zSeed v p0, v)) (yB D G (va_A (yW G v) sz)) (va_A (yW G v) sz)) 0 0 (va_A (yW G v) sz) := by
  obtain ⟨zk, zn, zi, zt, zs, zr, zd, zy, zm, zc, zv, ze, zo⟩ := v
  refine Met.ofW (cc := cY_seed) (maxL := 2) (ret := (Option.some Jvm.ClassFile.FieldType.int)) (by decide) rfl ?_
  intro p e s m args below meth c s₁ B hml hv
  obtain ⟨rfl, hsz, hP, hK, hD0⟩ := hv
  have hx := B.exec
  have hb := B.bytes
  have hr := B.returns
  have hts := atoms_spec (ws := wY_seed) B.pre
  have hty : ∀ w ∈ yAll, w.before _ s = true := fun w h => hts w (List.mem_cons_of_mem _ h)
  have hown : s.vm.findClass RY = some m.cls := findClass_of_methodNamed B.named
  have hlocks := B.notSynchronized
  subst hsz
  have hD := hD0.self (sz := s.heap.size)
  generalize hAe : va_A (yW G (zk, zn, zi, zt, zs, zr, zd, zy, zm, zc, zv, ze, zo)) s.heap.size = A at hD ⊢
  have hA : ∀ q : Nat, s.heap.size ≤ q → A q := fun q h => by rw [← hAe]; exact Or.inr h
  have hS : va_S A s.heap s.heap [] := va_S.rf
  refine xHeap (C := fun H => va_P D vwCl (yW G (zk, zn, zi, zt, zs, zr, zd, zy, zm, zc, zv, ze, zo)) H ∧ va_S A s.heap H []) ⟨hP, hS⟩ (fun H hC => ?_)
  obtain ⟨hP, hS⟩ := hC
  have hl := lv_entry ([.ref G.1, .int p0]) (n := 2) (Nat.le_of_ble_eq_true rfl)
  rw [lg_entry_eq]
  generalize (lg_sl ([.ref G.1, .int p0]) ++ List.replicate (2 - (lg_sl ([.ref G.1, .int p0])).length) Slot.unset).toArray = ls at hl ⊢
  have hl : lv_has ls 2 [(0, .ref G.1), (1, .int p0)] := hl
  refine lv_aload_n hx hb dY_seed_0 rfl (lv_at hl 0 rfl) ?_
  refine va_get (D := D) (ci := 2) (v := .ref G.2.1) (C := RY) (T := TY) (N := 13) hx hb hty inY hown hK hP 0 rfl rfl 0 (by decide) (hty _ yf_7) (fun _ h9 => h9) rfl dY_seed_1 ?_
  refine lv_iload_n hx hb dY_seed_4 rfl (lv_at hl 1 rfl) ?_
  refine va_iald (f := zk) hx hb hK hP 1 0 rfl rfl hr0 dY_seed_5 ?_
  refine lv_if_ne (tgt := 14) hx hb dY_seed_6 (by decide) (fun c1 => ?_) (fun c1 => ?_)
  · refine lv_aload_n hx hb dY_seed_14 rfl (lv_at hl 0 rfl) ?_
    refine va_get (D := D) (ci := 2) (v := .ref G.2.1) (C := RY) (T := TY) (N := 13) hx hb hty inY hown hK hP 0 rfl rfl 0 (by decide) (hty _ yf_7) (fun _ h9 => h9) rfl dY_seed_15 ?_
    refine lv_iload_n hx hb dY_seed_18 rfl (lv_at hl 1 rfl) ?_
    refine va_iald (f := zk) hx hb hK hP 1 0 rfl rfl hr0 dY_seed_19 ?_
    refine lv_iconst (v := 2) hx hb dY_seed_20 (by decide) ?_
    refine lv_icmp_ne (tgt := 36) hx hb dY_seed_21 (by decide) (fun c2 => ?_) (fun c2 => ?_)
    · refine lv_iconst (v := 1) hx hb dY_seed_36 (by decide) ?_
      exact W.iret (v := 1) hx hb hr (fun tE ht hW => ⟨⟨1, (zk, zn, zi, zt, zs, zr, zd, zy, zm, zc, zv, ze, zo), rfl, by first | (simp only [zSeed, yk, yn, yi, yt, ys, yr, yd, yy, ym, yc, yv, ye, yo, c1, c2, eq_self, ↓reduceIte, Bool.false_eq_true, Bool.not_false, Bool.not_true, Bool.and_true, Bool.and_false, Bool.true_and, Bool.false_and, decide_true, decide_false] <;> first | done | decide) | (simp [zSeed, yk, yn, yi, yt, ys, yr, yd, yy, ym, yc, yv, ye, yo, c1, c2]; done), by rw [ht]; exact hP, va_K.moved hW.alike hK, hD⟩, hS.F ht⟩) hS.2.2 dY_seed_37
    · refine lv_bipush (v := 30) hx hb dY_seed_24 (by decide) ?_
      refine lv_aload_n hx hb dY_seed_26 rfl (lv_at hl 0 rfl) ?_
      refine va_get (D := D) (ci := 2) (v := .ref G.2.2.1) (C := RY) (T := TY) (N := 13) hx hb hty inY hown hK hP 0 rfl rfl 1 (by decide) (hty _ yf_13) (fun _ h9 => h9) rfl dY_seed_27 ?_
      refine lv_iload_n hx hb dY_seed_30 rfl (lv_at hl 1 rfl) ?_
      refine va_iald (f := zn) hx hb hK hP 2 1 rfl rfl hr0 dY_seed_31 ?_
      refine lv_iadd hx hb dY_seed_32 ?_
      refine lv_goto (tgt := 37) hx hb dY_seed_33 (by decide) ?_
      exact W.iret (v := (30 + (zn p0.toNatClampNeg))) hx hb hr (fun tE ht hW => ⟨⟨(30 + (zn p0.toNatClampNeg)), (zk, zn, zi, zt, zs, zr, zd, zy, zm, zc, zv, ze, zo), rfl, by first | (simp only [zSeed, yk, yn, yi, yt, ys, yr, yd, yy, ym, yc, yv, ye, yo, c1, eq_true c2, eq_self, ↓reduceIte, Bool.false_eq_true, Bool.not_false, Bool.not_true, Bool.and_true, Bool.and_false, Bool.true_and, Bool.false_and, decide_true, decide_false] <;> first | done | decide) | (simp only [zSeed, yk, yn, yi, yt, ys, yr, yd, yy, ym, yc, yv, ye, yo, c1, c2, eq_self, ↓reduceIte, Bool.false_eq_true, Bool.not_false, Bool.not_true, Bool.and_true, Bool.and_false, Bool.true_and, Bool.false_and, decide_true, decide_false] <;> first | done | decide) | (simp [zSeed, yk, yn, yi, yt, ys, yr, yd, yy, ym, yc, yv, ye, yo, c1, c2]; done) | (simp [zSeed, yk, yn, yi, yt, ys, yr, yd, yy, ym, yc, yv, ye, yo, c1, eq_true c2]; done), by rw [ht]; exact hP, va_K.moved hW.alike hK, hD⟩, hS.F ht⟩) hS.2.2 dY_seed_37
  · refine lv_bipush (v := 24) hx hb dY_seed_9 (by decide) ?_
    refine lv_goto (tgt := 37) hx hb dY_seed_11 (by decide) ?_
    exact W.iret (v := 24) hx hb hr (fun tE ht hW => ⟨⟨24, (zk, zn, zi, zt, zs, zr, zd, zy, zm, zc, zv, ze, zo), rfl, by first | (simp only [zSeed, yk, yn, yi, yt, ys, yr, yd, yy, ym, yc, yv, ye, yo, eq_true c1, eq_self, ↓reduceIte, Bool.false_eq_true, Bool.not_false, Bool.not_true, Bool.and_true, Bool.and_false, Bool.true_and, Bool.false_and, decide_true, decide_false] <;> first | done | decide) | (simp only [zSeed, yk, yn, yi, yt, ys, yr, yd, yy, ym, yc, yv, ye, yo, c1, eq_self, ↓reduceIte, Bool.false_eq_true, Bool.not_false, Bool.not_true, Bool.and_true, Bool.and_false, Bool.true_and, Bool.false_and, decide_true, decide_false] <;> first | done | decide) | (simp [zSeed, yk, yn, yi, yt, ys, yr, yd, yy, ym, yc, yv, ye, yo, c1]; done) | (simp [zSeed, yk, yn, yi, yt, ys, yr, yd, yy, ym, yc, yv, ye, yo, eq_true c1]; done), by rw [ht]; exact hP, va_K.moved hW.alike hK, hD⟩, hS.F ht⟩) hS.2.2 dY_seed_37
set_option maxHeartbeats 8000000 in
set_option maxRecDepth 100000 in
theorem j_value (l : Launch) (D : va_G) (G : YF) (v : YS) (sz : Nat) : Met l yY_value wY_value ({ frames := 0, cells := 0, slots := 0, locals := 0 }) (yPc D G v sz [.ref G.1]) (va_Qi (fun (r : Int32) (w : YS) => (r, w) = (yv v, v)) (yB D G (va_A (yW G v) sz)) (va_A (yW G v) sz)) 0 0 (va_A (yW G v) sz) := by
  obtain ⟨zk, zn, zi, zt, zs, zr, zd, zy, zm, zc, zv, ze, zo⟩ := v
  refine Met.ofW (cc := cY_value) (maxL := 1) (ret := (Option.some Jvm.ClassFile.FieldType.int)) (by decide) rfl ?_
  intro p e s m args below meth c s₁ B hml hv
  obtain ⟨rfl, hsz, hP, hK, hD0⟩ := hv
  have hx := B.exec
  have hb := B.bytes
  have hr := B.returns
  have hts := atoms_spec (ws := wY_value) B.pre
  have hty : ∀ w ∈ yAll, w.before _ s = true := fun w h => hts w (List.mem_cons_of_mem _ h)
  have hown : s.vm.findClass RY = some m.cls := findClass_of_methodNamed B.named
  have hlocks := B.notSynchronized
  subst hsz
  have hD := hD0.self (sz := s.heap.size)
  generalize hAe : va_A (yW G (zk, zn, zi, zt, zs, zr, zd, zy, zm, zc, zv, ze, zo)) s.heap.size = A at hD ⊢
  have hA : ∀ q : Nat, s.heap.size ≤ q → A q := fun q h => by rw [← hAe]; exact Or.inr h
  have hS : va_S A s.heap s.heap [] := va_S.rf
  refine xHeap (C := fun H => va_P D vwCl (yW G (zk, zn, zi, zt, zs, zr, zd, zy, zm, zc, zv, ze, zo)) H ∧ va_S A s.heap H []) ⟨hP, hS⟩ (fun H hC => ?_)
  obtain ⟨hP, hS⟩ := hC
  have hl := lv_entry ([.ref G.1]) (n := 1) (Nat.le_of_ble_eq_true rfl)
  rw [lg_entry_eq]
  generalize (lg_sl ([.ref G.1]) ++ List.replicate (1 - (lg_sl ([.ref G.1])).length) Slot.unset).toArray = ls at hl ⊢
  have hl : lv_has ls 1 [(0, .ref G.1)] := hl
  refine lv_aload_n hx hb dY_value_0 rfl (lv_at hl 0 rfl) ?_
  refine va_get (D := D) (ci := 2) (v := .int zv) (C := RY) (T := TY) (N := 13) hx hb hty inY hown hK hP 0 rfl rfl 10 (by decide) (hty _ yf_86) (fun _ h9 => h9) rfl dY_value_1 ?_
  exact W.iret (v := zv) hx hb hr (fun tE ht hW => ⟨⟨zv, (zk, zn, zi, zt, zs, zr, zd, zy, zm, zc, zv, ze, zo), rfl, by first | (simp only [yk, yn, yi, yt, ys, yr, yd, yy, ym, yc, yv, ye, yo, eq_self, ↓reduceIte, Bool.false_eq_true, Bool.not_false, Bool.not_true, Bool.and_true, Bool.and_false, Bool.true_and, Bool.false_and, decide_true, decide_false] <;> first | done | decide) | (simp [yk, yn, yi, yt, ys, yr, yd, yy, ym, yc, yv, ye, yo]; done), by rw [ht]; exact hP, va_K.moved hW.alike hK, hD⟩, hS.F ht⟩) hS.2.2 dY_value_4
set_option maxHeartbeats 8000000 in
set_option maxRecDepth 100000 in
theorem j_events (l : Launch) (D : va_G) (G : YF) (v : YS) (sz : Nat) : Met l yY_events wY_events ({ frames := 0, cells := 0, slots := 0, locals := 0 }) (yPc D G v sz [.ref G.1]) (va_Qi (fun (r : Int32) (w : YS) => (r, w) = (yo v, v)) (yB D G (va_A (yW G v) sz)) (va_A (yW G v) sz)) 0 0 (va_A (yW G v) sz) := by
  obtain ⟨zk, zn, zi, zt, zs, zr, zd, zy, zm, zc, zv, ze, zo⟩ := v
  refine Met.ofW (cc := cY_events) (maxL := 1) (ret := (Option.some Jvm.ClassFile.FieldType.int)) (by decide) rfl ?_
  intro p e s m args below meth c s₁ B hml hv
  obtain ⟨rfl, hsz, hP, hK, hD0⟩ := hv
  have hx := B.exec
  have hb := B.bytes
  have hr := B.returns
  have hts := atoms_spec (ws := wY_events) B.pre
  have hty : ∀ w ∈ yAll, w.before _ s = true := fun w h => hts w (List.mem_cons_of_mem _ h)
  have hown : s.vm.findClass RY = some m.cls := findClass_of_methodNamed B.named
  have hlocks := B.notSynchronized
  subst hsz
  have hD := hD0.self (sz := s.heap.size)
  generalize hAe : va_A (yW G (zk, zn, zi, zt, zs, zr, zd, zy, zm, zc, zv, ze, zo)) s.heap.size = A at hD ⊢
  have hA : ∀ q : Nat, s.heap.size ≤ q → A q := fun q h => by rw [← hAe]; exact Or.inr h
  have hS : va_S A s.heap s.heap [] := va_S.rf
  refine xHeap (C := fun H => va_P D vwCl (yW G (zk, zn, zi, zt, zs, zr, zd, zy, zm, zc, zv, ze, zo)) H ∧ va_S A s.heap H []) ⟨hP, hS⟩ (fun H hC => ?_)
  obtain ⟨hP, hS⟩ := hC
  have hl := lv_entry ([.ref G.1]) (n := 1) (Nat.le_of_ble_eq_true rfl)
  rw [lg_entry_eq]
  generalize (lg_sl ([.ref G.1]) ++ List.replicate (1 - (lg_sl ([.ref G.1])).length) Slot.unset).toArray = ls at hl ⊢
  have hl : lv_has ls 1 [(0, .ref G.1)] := hl
  refine lv_aload_n hx hb dY_events_0 rfl (lv_at hl 0 rfl) ?_
  refine va_get (D := D) (ci := 2) (v := .int zo) (C := RY) (T := TY) (N := 13) hx hb hty inY hown hK hP 0 rfl rfl 12 (by decide) (hty _ yf_45) (fun _ h9 => h9) rfl dY_events_1 ?_
  exact W.iret (v := zo) hx hb hr (fun tE ht hW => ⟨⟨zo, (zk, zn, zi, zt, zs, zr, zd, zy, zm, zc, zv, ze, zo), rfl, by first | (simp only [yk, yn, yi, yt, ys, yr, yd, yy, ym, yc, yv, ye, yo, eq_self, ↓reduceIte, Bool.false_eq_true, Bool.not_false, Bool.not_true, Bool.and_true, Bool.and_false, Bool.true_and, Bool.false_and, decide_true, decide_false] <;> first | done | decide) | (simp [yk, yn, yi, yt, ys, yr, yd, yy, ym, yc, yv, ye, yo]; done), by rw [ht]; exact hP, va_K.moved hW.alike hK, hD⟩, hS.F ht⟩) hS.2.2 dY_events_4
set_option maxHeartbeats 8000000 in
set_option maxRecDepth 100000 in
theorem j_event (l : Launch) (D : va_G) (G : YF) (v : YS) (sz : Nat) (p0 : Int32) : Met l yY_event wY_event ({ frames := 1, cells := 0, slots := 0, locals := 22 }) (yPc D G v sz [.ref G.1, .int p0]) (va_Qi (fun (r : Int32) (w : YS) => (r, w) = zEv v p0) (yB D G (va_A (yW G v) sz)) (va_A (yW G v) sz)) 0 0 (va_A (yW G v) sz) := by
  obtain ⟨zk, zn, zi, zt, zs, zr, zd, zy, zm, zc, zv, ze, zo⟩ := v
  refine Met.ofW (cc := cY_event) (maxL := 2) (ret := (Option.some Jvm.ClassFile.FieldType.int)) (by decide) rfl ?_
  intro p e s m args below meth c s₁ B hml hv
  obtain ⟨rfl, hsz, hP, hK, hD0⟩ := hv
  have hx := B.exec
  have hb := B.bytes
  have hr := B.returns
  have hts := atoms_spec (ws := wY_event) B.pre
  have hty : ∀ w ∈ yAll, w.before _ s = true := fun w h => hts w (List.mem_cons_of_mem _ h)
  have hown : s.vm.findClass RY = some m.cls := findClass_of_methodNamed B.named
  have hlocks := B.notSynchronized
  subst hsz
  have hD := hD0.self (sz := s.heap.size)
  generalize hAe : va_A (yW G (zk, zn, zi, zt, zs, zr, zd, zy, zm, zc, zv, ze, zo)) s.heap.size = A at hD ⊢
  have hA : ∀ q : Nat, s.heap.size ≤ q → A q := fun q h => by rw [← hAe]; exact Or.inr h
  have hS : va_S A s.heap s.heap [] := va_S.rf
  refine xHeap (C := fun H => va_P D vwCl (yW G (zk, zn, zi, zt, zs, zr, zd, zy, zm, zc, zv, ze, zo)) H ∧ va_S A s.heap H []) ⟨hP, hS⟩ (fun H hC => ?_)
  obtain ⟨hP, hS⟩ := hC
  have hl := lv_entry ([.ref G.1, .int p0]) (n := 2) (Nat.le_of_ble_eq_true rfl)
  rw [lg_entry_eq]
  generalize (lg_sl ([.ref G.1, .int p0]) ++ List.replicate (2 - (lg_sl ([.ref G.1, .int p0])).length) Slot.unset).toArray = ls at hl ⊢
  have hl : lv_has ls 2 [(0, .ref G.1), (1, .int p0)] := hl
  refine lv_iload_n hx hb dY_event_0 rfl (lv_at hl 1 rfl) ?_
  refine lv_iconst (v := 0) hx hb dY_event_1 (by decide) ?_
  refine lv_bipush (v := 15) hx hb dY_event_2 (by decide) ?_
  refine vp_callSi (va_Run.run (va_runS (As := [.int p0, .int 0, .int 15]) (rest := []) ⟨hx, hb, hml, hown, hts⟩ (j_inn l p0 0 15) (va_cwS 3 hts (yS ylY_48 ym_inn yini yc_inn) rfl rfl rfl (by decide +kernel) ⟨Nat.le_of_ble_eq_true rfl, Nat.le_of_ble_eq_true rfl⟩) preEq rfl rfl hl.1 rfl (lv_room (Nat.le_of_ble_eq_true rfl)) dY_event_4 ⟨Nat.le_of_ble_eq_true rfl, Nat.le_of_ble_eq_true rfl⟩)) (fun r1 hw2 => ?_)
  rcases bI_c hw2 with ⟨rfl, b3⟩ | ⟨rfl, b3⟩
  · refine lv_if_eq (tgt := 27) hx hb dY_event_7 (by decide) (fun cz => absurd cz (by decide)) (fun _ => ?_)
    refine lv_iload_n hx hb dY_event_10 rfl (lv_at hl 1 rfl) ?_
    refine lv_aload_n hx hb dY_event_11 rfl (lv_at hl 0 rfl) ?_
    refine va_get (D := D) (ci := 2) (v := .int zo) (C := RY) (T := TY) (N := 13) hx hb hty inY hown hK hP 0 rfl rfl 12 (by decide) (hty _ yf_45) (fun _ h9 => h9) rfl dY_event_12 ?_
    refine lv_icmp_ge (tgt := 27) hx hb dY_event_15 (by decide) (fun c4 => ?_) (fun c4 => ?_)
    · refine lv_iconst (v := (-1)) hx hb dY_event_27 (by decide) ?_
      exact W.iret (v := (-1)) hx hb hr (fun tE ht hW => ⟨⟨(-1), (zk, zn, zi, zt, zs, zr, zd, zy, zm, zc, zv, ze, zo), rfl, by first | (simp only [zEv, yk, yn, yi, yt, ys, yr, yd, yy, ym, yc, yv, ye, yo, b3, eq_true c4, eq_self, ↓reduceIte, Bool.false_eq_true, Bool.not_false, Bool.not_true, Bool.and_true, Bool.and_false, Bool.true_and, Bool.false_and, decide_true, decide_false] <;> first | done | decide) | (simp only [zEv, yk, yn, yi, yt, ys, yr, yd, yy, ym, yc, yv, ye, yo, b3, c4, eq_self, ↓reduceIte, Bool.false_eq_true, Bool.not_false, Bool.not_true, Bool.and_true, Bool.and_false, Bool.true_and, Bool.false_and, decide_true, decide_false] <;> first | done | decide) | (simp [zEv, yk, yn, yi, yt, ys, yr, yd, yy, ym, yc, yv, ye, yo, b3, c4]; done) | (simp [zEv, yk, yn, yi, yt, ys, yr, yd, yy, ym, yc, yv, ye, yo, b3, eq_true c4]; done), by rw [ht]; exact hP, va_K.moved hW.alike hK, hD⟩, hS.F ht⟩) hS.2.2 dY_event_28
    · refine lv_aload_n hx hb dY_event_18 rfl (lv_at hl 0 rfl) ?_
      refine va_get (D := D) (ci := 2) (v := .ref G.2.2.2.2.2.2.2.2.2.1) (C := RY) (T := TY) (N := 13) hx hb hty inY hown hK hP 0 rfl rfl 11 (by decide) (hty _ yf_38) (fun _ h9 => h9) rfl dY_event_19 ?_
      refine lv_iload_n hx hb dY_event_22 rfl (lv_at hl 1 rfl) ?_
      refine va_iald (f := ze) hx hb hK hP 9 8 rfl rfl (fIn_in15 b3) dY_event_23 ?_
      refine lv_goto (tgt := 28) hx hb dY_event_24 (by decide) ?_
      exact W.iret (v := (ze p0.toNatClampNeg)) hx hb hr (fun tE ht hW => ⟨⟨(ze p0.toNatClampNeg), (zk, zn, zi, zt, zs, zr, zd, zy, zm, zc, zv, ze, zo), rfl, by first | (simp only [zEv, yk, yn, yi, yt, ys, yr, yd, yy, ym, yc, yv, ye, yo, b3, c4, eq_self, ↓reduceIte, Bool.false_eq_true, Bool.not_false, Bool.not_true, Bool.and_true, Bool.and_false, Bool.true_and, Bool.false_and, decide_true, decide_false] <;> first | done | decide) | (simp [zEv, yk, yn, yi, yt, ys, yr, yd, yy, ym, yc, yv, ye, yo, b3, c4]; done), by rw [ht]; exact hP, va_K.moved hW.alike hK, hD⟩, hS.F ht⟩) hS.2.2 dY_event_28
  · refine lv_if_eq (tgt := 27) hx hb dY_event_7 (by decide) (fun _ => ?_) (fun cz => absurd cz (by decide))
    refine lv_iconst (v := (-1)) hx hb dY_event_27 (by decide) ?_
    exact W.iret (v := (-1)) hx hb hr (fun tE ht hW => ⟨⟨(-1), (zk, zn, zi, zt, zs, zr, zd, zy, zm, zc, zv, ze, zo), rfl, by first | (simp only [zEv, yk, yn, yi, yt, ys, yr, yd, yy, ym, yc, yv, ye, yo, b3, eq_self, ↓reduceIte, Bool.false_eq_true, Bool.not_false, Bool.not_true, Bool.and_true, Bool.and_false, Bool.true_and, Bool.false_and, decide_true, decide_false] <;> first | done | decide) | (simp [zEv, yk, yn, yi, yt, ys, yr, yd, yy, ym, yc, yv, ye, yo, b3]; done), by rw [ht]; exact hP, va_K.moved hW.alike hK, hD⟩, hS.F ht⟩) hS.2.2 dY_event_28
set_option maxHeartbeats 8000000 in
set_option maxRecDepth 100000 in
theorem j_given (l : Launch) (D : va_G) (G : YF) (v : YS) (sz : Nat) (p0 : Int32) : Met l yY_given wY_given ({ frames := 0, cells := 0, slots := 0, locals := 0 }) (yPc D G v sz [.ref G.1, .int p0]) (va_Qi (fun (r : Int32) (w : YS) => (r, w) = zGiv v p0) (yB D G (va_A (yW G v) sz)) (va_A (yW G v) sz)) 0 0 (va_A (yW G v) sz) := by
  obtain ⟨zk, zn, zi, zt, zs, zr, zd, zy, zm, zc, zv, ze, zo⟩ := v
  refine Met.ofW (cc := cY_given) (maxL := 2) (ret := (Option.some Jvm.ClassFile.FieldType.int)) (by decide) rfl ?_
  intro p e s m args below meth c s₁ B hml hv
  obtain ⟨rfl, hsz, hP, hK, hD0⟩ := hv
  have hx := B.exec
  have hb := B.bytes
  have hr := B.returns
  have hts := atoms_spec (ws := wY_given) B.pre
  have hty : ∀ w ∈ yAll, w.before _ s = true := fun w h => hts w (List.mem_cons_of_mem _ h)
  have hown : s.vm.findClass RY = some m.cls := findClass_of_methodNamed B.named
  have hlocks := B.notSynchronized
  subst hsz
  have hD := hD0.self (sz := s.heap.size)
  generalize hAe : va_A (yW G (zk, zn, zi, zt, zs, zr, zd, zy, zm, zc, zv, ze, zo)) s.heap.size = A at hD ⊢
  have hA : ∀ q : Nat, s.heap.size ≤ q → A q := fun q h => by rw [← hAe]; exact Or.inr h
  have hS : va_S A s.heap s.heap [] := va_S.rf
  refine xHeap (C := fun H => va_P D vwCl (yW G (zk, zn, zi, zt, zs, zr, zd, zy, zm, zc, zv, ze, zo)) H ∧ va_S A s.heap H []) ⟨hP, hS⟩ (fun H hC => ?_)
  obtain ⟨hP, hS⟩ := hC
  have hl := lv_entry ([.ref G.1, .int p0]) (n := 2) (Nat.le_of_ble_eq_true rfl)
  rw [lg_entry_eq]
  generalize (lg_sl ([.ref G.1, .int p0]) ++ List.replicate (2 - (lg_sl ([.ref G.1, .int p0])).length) Slot.unset).toArray = ls at hl ⊢
  have hl : lv_has ls 2 [(0, .ref G.1), (1, .int p0)] := hl
  refine lv_aload_n hx hb dY_given_0 rfl (lv_at hl 0 rfl) ?_
  refine lv_iload_n hx hb dY_given_1 rfl (lv_at hl 1 rfl) ?_
  refine va_put (D := D) (ci := 2) (v := .int p0) (ty := .int) (C := RY) (T := TY) (N := 13) hx hb hty inY tyY tyY_ok nmY hown hK hP hD hS 0 rfl rfl 10 (by decide) (hty _ yf_86) (fun _ h9 => h9) rfl (by decide +kernel) rfl rfl (Nat.le_of_ble_eq_true rfl) dY_given_2 (fun H locs hP hD hS => ?_)
  have hP : va_P D vwCl (yW G (zk, zn, zi, zt, zs, zr, zd, zy, zm, zc, p0, ze, zo)) H := hP
  have hD : va_D A (yW G (zk, zn, zi, zt, zs, zr, zd, zy, zm, zc, p0, ze, zo)) := hD
  refine lv_iconst (v := 0) hx hb dY_given_5 (by decide) ?_
  exact W.iret (v := 0) hx hb hr (fun tE ht hW => ⟨⟨0, (zk, zn, zi, zt, zs, zr, zd, zy, zm, zc, p0, ze, zo), rfl, by first | (simp only [zGiv, zV, yk, yn, yi, yt, ys, yr, yd, yy, ym, yc, yv, ye, yo, eq_self, ↓reduceIte, Bool.false_eq_true, Bool.not_false, Bool.not_true, Bool.and_true, Bool.and_false, Bool.true_and, Bool.false_and, decide_true, decide_false] <;> first | done | decide) | (simp [zGiv, zV, yk, yn, yi, yt, ys, yr, yd, yy, ym, yc, yv, ye, yo]; done), by rw [ht]; exact hP, va_K.moved hW.alike hK, hD⟩, hS.F ht⟩) hS.2.2 dY_given_6
