set_option maxHeartbeats 8000000 in
set_option maxRecDepth 100000 in
theorem j_rounded (l : Launch) (p0 : Int32) : Met l yY_rounded wY_rounded ({ frames := 0, cells := 0, slots := 0, locals := 0 }) (fun v _ => v = ([.int p0] : List Value).toArray) (vp_Sl (fun r => r = (fRnd p0))) 0 0 (fun _ => False) := by
  refine Met.ofW (cc := cY_rounded) (maxL := 9) (ret := (Option.some Jvm.ClassFile.FieldType.long)) (by decide) rfl ?_
  intro p e s m args below meth c s₁ B hml hv
  obtain rfl := hv
  have hx := B.exec
  have hb := B.bytes
  have hr := B.returns
  have hts := atoms_spec (ws := wY_rounded) B.pre
  have hty : ∀ w ∈ yAll, w.before _ s = true := fun w h => hts w (List.mem_cons_of_mem _ h)
  have hown : s.vm.findClass RY = some m.cls := findClass_of_methodNamed B.named
  have hlocks := B.notSynchronized
  have hl := lv_entry ([.int p0]) (n := 9) (Nat.le_of_ble_eq_true rfl)
  rw [lg_entry_eq]
  generalize (lg_sl ([.int p0]) ++ List.replicate (9 - (lg_sl ([.int p0])).length) Slot.unset).toArray = ls at hl ⊢
  have hl : lv_has ls 9 [(0, .int p0)] := hl
  refine lv_iload_n hx hb dY_rounded_0 rfl (lv_at hl 0 rfl) ?_
  refine lv_if_ge (tgt := 10) hx hb dY_rounded_1 (by decide) (fun c1 => ?_) (fun c1 => ?_)
  · refine lv_iload_n hx hb dY_rounded_10 rfl (lv_at hl 0 rfl) ?_
    refine lv_i2l hx hb dY_rounded_11 rfl ?_
    refine lv_lstore_n (lv' := [(1, .long (Int32.toInt64 p0)), (0, .int p0)]) hx hb dY_rounded_12 rfl hl (by decide) rfl (fun ls hl => ?_)
    refine lv_lconst (v := 1) hx hb dY_rounded_13 rfl ?_
    refine lv_lstore_n (lv' := [(3, .long 1), (1, .long (Int32.toInt64 p0)), (0, .int p0)]) hx hb dY_rounded_14 rfl hl (by decide) rfl (fun ls hl => ?_)
    refine lv_lload_n hx hb dY_rounded_15 rfl (lv_at hl 1 rfl) ?_
    refine lv_lload_n hx hb dY_rounded_16 rfl (lv_at hl 0 rfl) ?_
    refine lv_ldiv hx hb dY_rounded_17 (by decide) ?_
    refine lv_ldc2 (v := 16777216) hx hb hown (hty _ yk_105) dY_rounded_18 ?_
    refine W.lcmp hx hb dY_rounded_21 ?_
    refine lv_if_lt (tgt := 34) hx hb dY_rounded_22 (by decide) (fun c2 => ?_) (fun c2 => ?_)
    · refine lv_lload_n hx hb dY_rounded_34 rfl (lv_at hl 1 rfl) ?_
      refine lv_lload_n hx hb dY_rounded_35 rfl (lv_at hl 0 rfl) ?_
      refine lv_ldiv hx hb dY_rounded_36 (by decide) ?_
      refine lv_lload_n hx hb dY_rounded_37 rfl (lv_at hl 0 rfl) ?_
      refine lv_lmul hx hb dY_rounded_38 ?_
      refine lv_lstore (lv' := [(5, .long (((Int32.toInt64 p0) / 1) * 1)), (3, .long 1), (1, .long (Int32.toInt64 p0)), (0, .int p0)]) hx hb dY_rounded_39 hl (by decide) rfl (fun ls hl => ?_)
      refine lv_lload_n hx hb dY_rounded_41 rfl (lv_at hl 2 rfl) ?_
      refine lv_lload hx hb dY_rounded_42 (lv_at hl 0 rfl) ?_
      refine lv_lsub hx hb dY_rounded_44 ?_
      refine lv_lstore (lv' := [(7, .long ((Int32.toInt64 p0) - (((Int32.toInt64 p0) / 1) * 1))), (5, .long (((Int32.toInt64 p0) / 1) * 1)), (3, .long 1), (1, .long (Int32.toInt64 p0)), (0, .int p0)]) hx hb dY_rounded_45 hl (by decide) rfl (fun ls hl => ?_)
      refine lv_ldc2 (v := 2) hx hb hown (hty _ yk_107) dY_rounded_47 ?_
      refine lv_lload hx hb dY_rounded_50 (lv_at hl 0 rfl) ?_
      refine lv_lmul hx hb dY_rounded_52 ?_
      refine lv_lload_n hx hb dY_rounded_53 rfl (lv_at hl 2 rfl) ?_
      refine W.lcmp hx hb dY_rounded_54 ?_
      refine lv_if_gt (tgt := 81) hx hb dY_rounded_55 (by decide) (fun c3 => ?_) (fun c3 => ?_)
      · refine lv_lload hx hb dY_rounded_81 (lv_at hl 1 rfl) ?_
        refine lv_lload_n hx hb dY_rounded_83 rfl (lv_at hl 2 rfl) ?_
        refine lv_ladd hx hb dY_rounded_84 ?_
        refine lv_lstore (lv' := [(5, .long ((((Int32.toInt64 p0) / 1) * 1) + 1)), (7, .long ((Int32.toInt64 p0) - (((Int32.toInt64 p0) / 1) * 1))), (3, .long 1), (1, .long (Int32.toInt64 p0)), (0, .int p0)]) hx hb dY_rounded_85 hl (by decide) rfl (fun ls hl => ?_)
        refine lv_iload_n hx hb dY_rounded_87 rfl (lv_at hl 4 rfl) ?_
        refine lv_if_ge (tgt := 97) hx hb dY_rounded_88 (by decide) (fun _ => ?_) (fun cz => absurd c1 cz)
        refine lv_lload hx hb dY_rounded_97 (lv_at hl 0 rfl) ?_
        exact W.lret (v := ((((Int32.toInt64 p0) / 1) * 1) + 1)) hx hb hr (fun tE ht hW => ⟨((((Int32.toInt64 p0) / 1) * 1) + 1), rfl, by simp only [fRnd, fMag, fRu, fRl, eq_true c1, eq_true c2, eq_true c3, ↓reduceIte], ht⟩) (fun q h => by cases h) dY_rounded_99
      · refine lv_ldc2 (v := 2) hx hb hown (hty _ yk_107) dY_rounded_58 ?_
        refine lv_lload hx hb dY_rounded_61 (lv_at hl 0 rfl) ?_
        refine lv_lmul hx hb dY_rounded_63 ?_
        refine lv_lload_n hx hb dY_rounded_64 rfl (lv_at hl 2 rfl) ?_
        refine W.lcmp hx hb dY_rounded_65 ?_
        refine lv_if_ne (tgt := 87) hx hb dY_rounded_66 (by decide) (fun c4 => ?_) (fun c4 => ?_)
        · refine lv_iload_n hx hb dY_rounded_87 rfl (lv_at hl 4 rfl) ?_
          refine lv_if_ge (tgt := 97) hx hb dY_rounded_88 (by decide) (fun _ => ?_) (fun cz => absurd c1 cz)
          refine lv_lload hx hb dY_rounded_97 (lv_at hl 1 rfl) ?_
          exact W.lret (v := (((Int32.toInt64 p0) / 1) * 1)) hx hb hr (fun tE ht hW => ⟨(((Int32.toInt64 p0) / 1) * 1), rfl, by simp only [fRnd, fMag, fRu, fRl, eq_true c1, eq_true c2, c3, c4, ↓reduceIte], ht⟩) (fun q h => by cases h) dY_rounded_99
        · refine lv_lload_n hx hb dY_rounded_69 rfl (lv_at hl 3 rfl) ?_
          refine lv_lload_n hx hb dY_rounded_70 rfl (lv_at hl 2 rfl) ?_
          refine lv_ldiv hx hb dY_rounded_71 (by decide) ?_
          refine lv_ldc2 (v := 2) hx hb hown (hty _ yk_107) dY_rounded_72 ?_
          refine lv_lrem hx hb dY_rounded_75 (by decide) ?_
          refine lv_lconst (v := 1) hx hb dY_rounded_76 rfl ?_
          refine W.lcmp hx hb dY_rounded_77 ?_
          refine lv_if_ne (tgt := 87) hx hb dY_rounded_78 (by decide) (fun c5 => ?_) (fun c5 => ?_)
          · refine lv_iload_n hx hb dY_rounded_87 rfl (lv_at hl 4 rfl) ?_
            refine lv_if_ge (tgt := 97) hx hb dY_rounded_88 (by decide) (fun _ => ?_) (fun cz => absurd c1 cz)
            refine lv_lload hx hb dY_rounded_97 (lv_at hl 1 rfl) ?_
            exact W.lret (v := (((Int32.toInt64 p0) / 1) * 1)) hx hb hr (fun tE ht hW => ⟨(((Int32.toInt64 p0) / 1) * 1), rfl, by simp only [fRnd, fMag, fRu, fRl, eq_true c1, eq_true c2, c3, eq_true c4, c5, ↓reduceIte], ht⟩) (fun q h => by cases h) dY_rounded_99
          · refine lv_lload hx hb dY_rounded_81 (lv_at hl 1 rfl) ?_
            refine lv_lload_n hx hb dY_rounded_83 rfl (lv_at hl 2 rfl) ?_
            refine lv_ladd hx hb dY_rounded_84 ?_
            refine lv_lstore (lv' := [(5, .long ((((Int32.toInt64 p0) / 1) * 1) + 1)), (7, .long ((Int32.toInt64 p0) - (((Int32.toInt64 p0) / 1) * 1))), (3, .long 1), (1, .long (Int32.toInt64 p0)), (0, .int p0)]) hx hb dY_rounded_85 hl (by decide) rfl (fun ls hl => ?_)
            refine lv_iload_n hx hb dY_rounded_87 rfl (lv_at hl 4 rfl) ?_
            refine lv_if_ge (tgt := 97) hx hb dY_rounded_88 (by decide) (fun _ => ?_) (fun cz => absurd c1 cz)
            refine lv_lload hx hb dY_rounded_97 (lv_at hl 0 rfl) ?_
            exact W.lret (v := ((((Int32.toInt64 p0) / 1) * 1) + 1)) hx hb hr (fun tE ht hW => ⟨((((Int32.toInt64 p0) / 1) * 1) + 1), rfl, by simp only [fRnd, fMag, fRu, fRl, eq_true c1, eq_true c2, c3, eq_true c4, eq_true c5, ↓reduceIte], ht⟩) (fun q h => by cases h) dY_rounded_99
    · refine lv_lload_n hx hb dY_rounded_25 rfl (lv_at hl 0 rfl) ?_
      refine lv_ldc2 (v := 2) hx hb hown (hty _ yk_107) dY_rounded_26 ?_
      refine lv_lmul hx hb dY_rounded_29 ?_
      refine lv_lstore_n (lv' := [(3, .long 2), (1, .long (Int32.toInt64 p0)), (0, .int p0)]) hx hb dY_rounded_30 rfl hl (by decide) rfl (fun ls hl => ?_)
      refine lv_goto (tgt := 15) hx hb dY_rounded_31 (by decide) ?_
      refine lv_lload_n hx hb dY_rounded_15 rfl (lv_at hl 1 rfl) ?_
      refine lv_lload_n hx hb dY_rounded_16 rfl (lv_at hl 0 rfl) ?_
      refine lv_ldiv hx hb dY_rounded_17 (by decide) ?_
      refine lv_ldc2 (v := 16777216) hx hb hown (hty _ yk_105) dY_rounded_18 ?_
      refine W.lcmp hx hb dY_rounded_21 ?_
      refine lv_if_lt (tgt := 34) hx hb dY_rounded_22 (by decide) (fun c6 => ?_) (fun c6 => ?_)
      · refine lv_lload_n hx hb dY_rounded_34 rfl (lv_at hl 1 rfl) ?_
        refine lv_lload_n hx hb dY_rounded_35 rfl (lv_at hl 0 rfl) ?_
        refine lv_ldiv hx hb dY_rounded_36 (by decide) ?_
        refine lv_lload_n hx hb dY_rounded_37 rfl (lv_at hl 0 rfl) ?_
        refine lv_lmul hx hb dY_rounded_38 ?_
        refine lv_lstore (lv' := [(5, .long (((Int32.toInt64 p0) / 2) * 2)), (3, .long 2), (1, .long (Int32.toInt64 p0)), (0, .int p0)]) hx hb dY_rounded_39 hl (by decide) rfl (fun ls hl => ?_)
        refine lv_lload_n hx hb dY_rounded_41 rfl (lv_at hl 2 rfl) ?_
        refine lv_lload hx hb dY_rounded_42 (lv_at hl 0 rfl) ?_
        refine lv_lsub hx hb dY_rounded_44 ?_
        refine lv_lstore (lv' := [(7, .long ((Int32.toInt64 p0) - (((Int32.toInt64 p0) / 2) * 2))), (5, .long (((Int32.toInt64 p0) / 2) * 2)), (3, .long 2), (1, .long (Int32.toInt64 p0)), (0, .int p0)]) hx hb dY_rounded_45 hl (by decide) rfl (fun ls hl => ?_)
        refine lv_ldc2 (v := 2) hx hb hown (hty _ yk_107) dY_rounded_47 ?_
        refine lv_lload hx hb dY_rounded_50 (lv_at hl 0 rfl) ?_
        refine lv_lmul hx hb dY_rounded_52 ?_
        refine lv_lload_n hx hb dY_rounded_53 rfl (lv_at hl 2 rfl) ?_
        refine W.lcmp hx hb dY_rounded_54 ?_
        refine lv_if_gt (tgt := 81) hx hb dY_rounded_55 (by decide) (fun c7 => ?_) (fun c7 => ?_)
        · refine lv_lload hx hb dY_rounded_81 (lv_at hl 1 rfl) ?_
          refine lv_lload_n hx hb dY_rounded_83 rfl (lv_at hl 2 rfl) ?_
          refine lv_ladd hx hb dY_rounded_84 ?_
          refine lv_lstore (lv' := [(5, .long ((((Int32.toInt64 p0) / 2) * 2) + 2)), (7, .long ((Int32.toInt64 p0) - (((Int32.toInt64 p0) / 2) * 2))), (3, .long 2), (1, .long (Int32.toInt64 p0)), (0, .int p0)]) hx hb dY_rounded_85 hl (by decide) rfl (fun ls hl => ?_)
          refine lv_iload_n hx hb dY_rounded_87 rfl (lv_at hl 4 rfl) ?_
          refine lv_if_ge (tgt := 97) hx hb dY_rounded_88 (by decide) (fun _ => ?_) (fun cz => absurd c1 cz)
          refine lv_lload hx hb dY_rounded_97 (lv_at hl 0 rfl) ?_
          exact W.lret (v := ((((Int32.toInt64 p0) / 2) * 2) + 2)) hx hb hr (fun tE ht hW => ⟨((((Int32.toInt64 p0) / 2) * 2) + 2), rfl, by simp only [fRnd, fMag, fRu, fRl, eq_true c1, c2, eq_true c6, eq_true c7, ↓reduceIte], ht⟩) (fun q h => by cases h) dY_rounded_99
        · refine lv_ldc2 (v := 2) hx hb hown (hty _ yk_107) dY_rounded_58 ?_
          refine lv_lload hx hb dY_rounded_61 (lv_at hl 0 rfl) ?_
          refine lv_lmul hx hb dY_rounded_63 ?_
          refine lv_lload_n hx hb dY_rounded_64 rfl (lv_at hl 2 rfl) ?_
          refine W.lcmp hx hb dY_rounded_65 ?_
          refine lv_if_ne (tgt := 87) hx hb dY_rounded_66 (by decide) (fun c8 => ?_) (fun c8 => ?_)
          · refine lv_iload_n hx hb dY_rounded_87 rfl (lv_at hl 4 rfl) ?_
            refine lv_if_ge (tgt := 97) hx hb dY_rounded_88 (by decide) (fun _ => ?_) (fun cz => absurd c1 cz)
            refine lv_lload hx hb dY_rounded_97 (lv_at hl 1 rfl) ?_
            exact W.lret (v := (((Int32.toInt64 p0) / 2) * 2)) hx hb hr (fun tE ht hW => ⟨(((Int32.toInt64 p0) / 2) * 2), rfl, by simp only [fRnd, fMag, fRu, fRl, eq_true c1, c2, eq_true c6, c7, c8, ↓reduceIte], ht⟩) (fun q h => by cases h) dY_rounded_99
          · refine lv_lload_n hx hb dY_rounded_69 rfl (lv_at hl 3 rfl) ?_
            refine lv_lload_n hx hb dY_rounded_70 rfl (lv_at hl 2 rfl) ?_
            refine lv_ldiv hx hb dY_rounded_71 (by decide) ?_
            refine lv_ldc2 (v := 2) hx hb hown (hty _ yk_107) dY_rounded_72 ?_
            refine lv_lrem hx hb dY_rounded_75 (by decide) ?_
            refine lv_lconst (v := 1) hx hb dY_rounded_76 rfl ?_
            refine W.lcmp hx hb dY_rounded_77 ?_
            refine lv_if_ne (tgt := 87) hx hb dY_rounded_78 (by decide) (fun c9 => ?_) (fun c9 => ?_)
            · refine lv_iload_n hx hb dY_rounded_87 rfl (lv_at hl 4 rfl) ?_
              refine lv_if_ge (tgt := 97) hx hb dY_rounded_88 (by decide) (fun _ => ?_) (fun cz => absurd c1 cz)
              refine lv_lload hx hb dY_rounded_97 (lv_at hl 1 rfl) ?_
              exact W.lret (v := (((Int32.toInt64 p0) / 2) * 2)) hx hb hr (fun tE ht hW => ⟨(((Int32.toInt64 p0) / 2) * 2), rfl, by simp only [fRnd, fMag, fRu, fRl, eq_true c1, c2, eq_true c6, c7, eq_true c8, c9, ↓reduceIte], ht⟩) (fun q h => by cases h) dY_rounded_99
            · refine lv_lload hx hb dY_rounded_81 (lv_at hl 1 rfl) ?_
              refine lv_lload_n hx hb dY_rounded_83 rfl (lv_at hl 2 rfl) ?_
              refine lv_ladd hx hb dY_rounded_84 ?_
              refine lv_lstore (lv' := [(5, .long ((((Int32.toInt64 p0) / 2) * 2) + 2)), (7, .long ((Int32.toInt64 p0) - (((Int32.toInt64 p0) / 2) * 2))), (3, .long 2), (1, .long (Int32.toInt64 p0)), (0, .int p0)]) hx hb dY_rounded_85 hl (by decide) rfl (fun ls hl => ?_)
              refine lv_iload_n hx hb dY_rounded_87 rfl (lv_at hl 4 rfl) ?_
              refine lv_if_ge (tgt := 97) hx hb dY_rounded_88 (by decide) (fun _ => ?_) (fun cz => absurd c1 cz)
              refine lv_lload hx hb dY_rounded_97 (lv_at hl 0 rfl) ?_
              exact W.lret (v := ((((Int32.toInt64 p0) / 2) * 2) + 2)) hx hb hr (fun tE ht hW => ⟨((((Int32.toInt64 p0) / 2) * 2) + 2), rfl, by simp only [fRnd, fMag, fRu, fRl, eq_true c1, c2, eq_true c6, c7, eq_true c8, eq_true c9, ↓reduceIte], ht⟩) (fun q h => by cases h) dY_rounded_99
      · refine lv_lload_n hx hb dY_rounded_25 rfl (lv_at hl 0 rfl) ?_
        refine lv_ldc2 (v := 2) hx hb hown (hty _ yk_107) dY_rounded_26 ?_
        refine lv_lmul hx hb dY_rounded_29 ?_
        refine lv_lstore_n (lv' := [(3, .long 4), (1, .long (Int32.toInt64 p0)), (0, .int p0)]) hx hb dY_rounded_30 rfl hl (by decide) rfl (fun ls hl => ?_)
        refine lv_goto (tgt := 15) hx hb dY_rounded_31 (by decide) ?_
        refine lv_lload_n hx hb dY_rounded_15 rfl (lv_at hl 1 rfl) ?_
        refine lv_lload_n hx hb dY_rounded_16 rfl (lv_at hl 0 rfl) ?_
        refine lv_ldiv hx hb dY_rounded_17 (by decide) ?_
        refine lv_ldc2 (v := 16777216) hx hb hown (hty _ yk_105) dY_rounded_18 ?_
        refine W.lcmp hx hb dY_rounded_21 ?_
        refine lv_if_lt (tgt := 34) hx hb dY_rounded_22 (by decide) (fun c10 => ?_) (fun c10 => ?_)
        · refine lv_lload_n hx hb dY_rounded_34 rfl (lv_at hl 1 rfl) ?_
          refine lv_lload_n hx hb dY_rounded_35 rfl (lv_at hl 0 rfl) ?_
          refine lv_ldiv hx hb dY_rounded_36 (by decide) ?_
          refine lv_lload_n hx hb dY_rounded_37 rfl (lv_at hl 0 rfl) ?_
          refine lv_lmul hx hb dY_rounded_38 ?_
          refine lv_lstore (lv' := [(5, .long (((Int32.toInt64 p0) / 4) * 4)), (3, .long 4), (1, .long (Int32.toInt64 p0)), (0, .int p0)]) hx hb dY_rounded_39 hl (by decide) rfl (fun ls hl => ?_)
          refine lv_lload_n hx hb dY_rounded_41 rfl (lv_at hl 2 rfl) ?_
          refine lv_lload hx hb dY_rounded_42 (lv_at hl 0 rfl) ?_
          refine lv_lsub hx hb dY_rounded_44 ?_
          refine lv_lstore (lv' := [(7, .long ((Int32.toInt64 p0) - (((Int32.toInt64 p0) / 4) * 4))), (5, .long (((Int32.toInt64 p0) / 4) * 4)), (3, .long 4), (1, .long (Int32.toInt64 p0)), (0, .int p0)]) hx hb dY_rounded_45 hl (by decide) rfl (fun ls hl => ?_)
          refine lv_ldc2 (v := 2) hx hb hown (hty _ yk_107) dY_rounded_47 ?_
          refine lv_lload hx hb dY_rounded_50 (lv_at hl 0 rfl) ?_
          refine lv_lmul hx hb dY_rounded_52 ?_
          refine lv_lload_n hx hb dY_rounded_53 rfl (lv_at hl 2 rfl) ?_
          refine W.lcmp hx hb dY_rounded_54 ?_
          refine lv_if_gt (tgt := 81) hx hb dY_rounded_55 (by decide) (fun c11 => ?_) (fun c11 => ?_)
          · refine lv_lload hx hb dY_rounded_81 (lv_at hl 1 rfl) ?_
            refine lv_lload_n hx hb dY_rounded_83 rfl (lv_at hl 2 rfl) ?_
            refine lv_ladd hx hb dY_rounded_84 ?_
            refine lv_lstore (lv' := [(5, .long ((((Int32.toInt64 p0) / 4) * 4) + 4)), (7, .long ((Int32.toInt64 p0) - (((Int32.toInt64 p0) / 4) * 4))), (3, .long 4), (1, .long (Int32.toInt64 p0)), (0, .int p0)]) hx hb dY_rounded_85 hl (by decide) rfl (fun ls hl => ?_)
            refine lv_iload_n hx hb dY_rounded_87 rfl (lv_at hl 4 rfl) ?_
            refine lv_if_ge (tgt := 97) hx hb dY_rounded_88 (by decide) (fun _ => ?_) (fun cz => absurd c1 cz)
            refine lv_lload hx hb dY_rounded_97 (lv_at hl 0 rfl) ?_
            exact W.lret (v := ((((Int32.toInt64 p0) / 4) * 4) + 4)) hx hb hr (fun tE ht hW => ⟨((((Int32.toInt64 p0) / 4) * 4) + 4), rfl, by simp only [fRnd, fMag, fRu, fRl, eq_true c1, c2, c6, eq_true c10, eq_true c11, ↓reduceIte], ht⟩) (fun q h => by cases h) dY_rounded_99
          · refine lv_ldc2 (v := 2) hx hb hown (hty _ yk_107) dY_rounded_58 ?_
            refine lv_lload hx hb dY_rounded_61 (lv_at hl 0 rfl) ?_
            refine lv_lmul hx hb dY_rounded_63 ?_
            refine lv_lload_n hx hb dY_rounded_64 rfl (lv_at hl 2 rfl) ?_
            refine W.lcmp hx hb dY_rounded_65 ?_
            refine lv_if_ne (tgt := 87) hx hb dY_rounded_66 (by decide) (fun c12 => ?_) (fun c12 => ?_)
            · refine lv_iload_n hx hb dY_rounded_87 rfl (lv_at hl 4 rfl) ?_
              refine lv_if_ge (tgt := 97) hx hb dY_rounded_88 (by decide) (fun _ => ?_) (fun cz => absurd c1 cz)
              refine lv_lload hx hb dY_rounded_97 (lv_at hl 1 rfl) ?_
              exact W.lret (v := (((Int32.toInt64 p0) / 4) * 4)) hx hb hr (fun tE ht hW => ⟨(((Int32.toInt64 p0) / 4) * 4), rfl, by simp only [fRnd, fMag, fRu, fRl, eq_true c1, c2, c6, eq_true c10, c11, c12, ↓reduceIte], ht⟩) (fun q h => by cases h) dY_rounded_99
            · refine lv_lload_n hx hb dY_rounded_69 rfl (lv_at hl 3 rfl) ?_
              refine lv_lload_n hx hb dY_rounded_70 rfl (lv_at hl 2 rfl) ?_
              refine lv_ldiv hx hb dY_rounded_71 (by decide) ?_
              refine lv_ldc2 (v := 2) hx hb hown (hty _ yk_107) dY_rounded_72 ?_
              refine lv_lrem hx hb dY_rounded_75 (by decide) ?_
              refine lv_lconst (v := 1) hx hb dY_rounded_76 rfl ?_
              refine W.lcmp hx hb dY_rounded_77 ?_
              refine lv_if_ne (tgt := 87) hx hb dY_rounded_78 (by decide) (fun c13 => ?_) (fun c13 => ?_)
              · refine lv_iload_n hx hb dY_rounded_87 rfl (lv_at hl 4 rfl) ?_
                refine lv_if_ge (tgt := 97) hx hb dY_rounded_88 (by decide) (fun _ => ?_) (fun cz => absurd c1 cz)
                refine lv_lload hx hb dY_rounded_97 (lv_at hl 1 rfl) ?_
                exact W.lret (v := (((Int32.toInt64 p0) / 4) * 4)) hx hb hr (fun tE ht hW => ⟨(((Int32.toInt64 p0) / 4) * 4), rfl, by simp only [fRnd, fMag, fRu, fRl, eq_true c1, c2, c6, eq_true c10, c11, eq_true c12, c13, ↓reduceIte], ht⟩) (fun q h => by cases h) dY_rounded_99
              · refine lv_lload hx hb dY_rounded_81 (lv_at hl 1 rfl) ?_
                refine lv_lload_n hx hb dY_rounded_83 rfl (lv_at hl 2 rfl) ?_
                refine lv_ladd hx hb dY_rounded_84 ?_
                refine lv_lstore (lv' := [(5, .long ((((Int32.toInt64 p0) / 4) * 4) + 4)), (7, .long ((Int32.toInt64 p0) - (((Int32.toInt64 p0) / 4) * 4))), (3, .long 4), (1, .long (Int32.toInt64 p0)), (0, .int p0)]) hx hb dY_rounded_85 hl (by decide) rfl (fun ls hl => ?_)
                refine lv_iload_n hx hb dY_rounded_87 rfl (lv_at hl 4 rfl) ?_
                refine lv_if_ge (tgt := 97) hx hb dY_rounded_88 (by decide) (fun _ => ?_) (fun cz => absurd c1 cz)
                refine lv_lload hx hb dY_rounded_97 (lv_at hl 0 rfl) ?_
                exact W.lret (v := ((((Int32.toInt64 p0) / 4) * 4) + 4)) hx hb hr (fun tE ht hW => ⟨((((Int32.toInt64 p0) / 4) * 4) + 4), rfl, by simp only [fRnd, fMag, fRu, fRl, eq_true c1, c2, c6, eq_true c10, c11, eq_true c12, eq_true c13, ↓reduceIte], ht⟩) (fun q h => by cases h) dY_rounded_99
        · refine lv_lload_n hx hb dY_rounded_25 rfl (lv_at hl 0 rfl) ?_
          refine lv_ldc2 (v := 2) hx hb hown (hty _ yk_107) dY_rounded_26 ?_
          refine lv_lmul hx hb dY_rounded_29 ?_
          refine lv_lstore_n (lv' := [(3, .long 8), (1, .long (Int32.toInt64 p0)), (0, .int p0)]) hx hb dY_rounded_30 rfl hl (by decide) rfl (fun ls hl => ?_)
          refine lv_goto (tgt := 15) hx hb dY_rounded_31 (by decide) ?_
          refine lv_lload_n hx hb dY_rounded_15 rfl (lv_at hl 1 rfl) ?_
          refine lv_lload_n hx hb dY_rounded_16 rfl (lv_at hl 0 rfl) ?_
          refine lv_ldiv hx hb dY_rounded_17 (by decide) ?_
          refine lv_ldc2 (v := 16777216) hx hb hown (hty _ yk_105) dY_rounded_18 ?_
          refine W.lcmp hx hb dY_rounded_21 ?_
          refine lv_if_lt (tgt := 34) hx hb dY_rounded_22 (by decide) (fun c14 => ?_) (fun c14 => ?_)
          · refine lv_lload_n hx hb dY_rounded_34 rfl (lv_at hl 1 rfl) ?_
            refine lv_lload_n hx hb dY_rounded_35 rfl (lv_at hl 0 rfl) ?_
            refine lv_ldiv hx hb dY_rounded_36 (by decide) ?_
            refine lv_lload_n hx hb dY_rounded_37 rfl (lv_at hl 0 rfl) ?_
            refine lv_lmul hx hb dY_rounded_38 ?_
            refine lv_lstore (lv' := [(5, .long (((Int32.toInt64 p0) / 8) * 8)), (3, .long 8), (1, .long (Int32.toInt64 p0)), (0, .int p0)]) hx hb dY_rounded_39 hl (by decide) rfl (fun ls hl => ?_)
            refine lv_lload_n hx hb dY_rounded_41 rfl (lv_at hl 2 rfl) ?_
            refine lv_lload hx hb dY_rounded_42 (lv_at hl 0 rfl) ?_
            refine lv_lsub hx hb dY_rounded_44 ?_
            refine lv_lstore (lv' := [(7, .long ((Int32.toInt64 p0) - (((Int32.toInt64 p0) / 8) * 8))), (5, .long (((Int32.toInt64 p0) / 8) * 8)), (3, .long 8), (1, .long (Int32.toInt64 p0)), (0, .int p0)]) hx hb dY_rounded_45 hl (by decide) rfl (fun ls hl => ?_)
            refine lv_ldc2 (v := 2) hx hb hown (hty _ yk_107) dY_rounded_47 ?_
            refine lv_lload hx hb dY_rounded_50 (lv_at hl 0 rfl) ?_
            refine lv_lmul hx hb dY_rounded_52 ?_
            refine lv_lload_n hx hb dY_rounded_53 rfl (lv_at hl 2 rfl) ?_
            refine W.lcmp hx hb dY_rounded_54 ?_
            refine lv_if_gt (tgt := 81) hx hb dY_rounded_55 (by decide) (fun c15 => ?_) (fun c15 => ?_)
            · refine lv_lload hx hb dY_rounded_81 (lv_at hl 1 rfl) ?_
              refine lv_lload_n hx hb dY_rounded_83 rfl (lv_at hl 2 rfl) ?_
              refine lv_ladd hx hb dY_rounded_84 ?_
              refine lv_lstore (lv' := [(5, .long ((((Int32.toInt64 p0) / 8) * 8) + 8)), (7, .long ((Int32.toInt64 p0) - (((Int32.toInt64 p0) / 8) * 8))), (3, .long 8), (1, .long (Int32.toInt64 p0)), (0, .int p0)]) hx hb dY_rounded_85 hl (by decide) rfl (fun ls hl => ?_)
              refine lv_iload_n hx hb dY_rounded_87 rfl (lv_at hl 4 rfl) ?_
              refine lv_if_ge (tgt := 97) hx hb dY_rounded_88 (by decide) (fun _ => ?_) (fun cz => absurd c1 cz)
              refine lv_lload hx hb dY_rounded_97 (lv_at hl 0 rfl) ?_
              exact W.lret (v := ((((Int32.toInt64 p0) / 8) * 8) + 8)) hx hb hr (fun tE ht hW => ⟨((((Int32.toInt64 p0) / 8) * 8) + 8), rfl, by simp only [fRnd, fMag, fRu, fRl, eq_true c1, c2, c6, c10, eq_true c14, eq_true c15, ↓reduceIte], ht⟩) (fun q h => by cases h) dY_rounded_99
            · refine lv_ldc2 (v := 2) hx hb hown (hty _ yk_107) dY_rounded_58 ?_
              refine lv_lload hx hb dY_rounded_61 (lv_at hl 0 rfl) ?_
              refine lv_lmul hx hb dY_rounded_63 ?_
              refine lv_lload_n hx hb dY_rounded_64 rfl (lv_at hl 2 rfl) ?_
              refine W.lcmp hx hb dY_rounded_65 ?_
              refine lv_if_ne (tgt := 87) hx hb dY_rounded_66 (by decide) (fun c16 => ?_) (fun c16 => ?_)
              · refine lv_iload_n hx hb dY_rounded_87 rfl (lv_at hl 4 rfl) ?_
                refine lv_if_ge (tgt := 97) hx hb dY_rounded_88 (by decide) (fun _ => ?_) (fun cz => absurd c1 cz)
                refine lv_lload hx hb dY_rounded_97 (lv_at hl 1 rfl) ?_
                exact W.lret (v := (((Int32.toInt64 p0) / 8) * 8)) hx hb hr (fun tE ht hW => ⟨(((Int32.toInt64 p0) / 8) * 8), rfl, by simp only [fRnd, fMag, fRu, fRl, eq_true c1, c2, c6, c10, eq_true c14, c15, c16, ↓reduceIte], ht⟩) (fun q h => by cases h) dY_rounded_99
              · refine lv_lload_n hx hb dY_rounded_69 rfl (lv_at hl 3 rfl) ?_
                refine lv_lload_n hx hb dY_rounded_70 rfl (lv_at hl 2 rfl) ?_
                refine lv_ldiv hx hb dY_rounded_71 (by decide) ?_
                refine lv_ldc2 (v := 2) hx hb hown (hty _ yk_107) dY_rounded_72 ?_
                refine lv_lrem hx hb dY_rounded_75 (by decide) ?_
                refine lv_lconst (v := 1) hx hb dY_rounded_76 rfl ?_
                refine W.lcmp hx hb dY_rounded_77 ?_
                refine lv_if_ne (tgt := 87) hx hb dY_rounded_78 (by decide) (fun c17 => ?_) (fun c17 => ?_)
                · refine lv_iload_n hx hb dY_rounded_87 rfl (lv_at hl 4 rfl) ?_
                  refine lv_if_ge (tgt := 97) hx hb dY_rounded_88 (by decide) (fun _ => ?_) (fun cz => absurd c1 cz)
                  refine lv_lload hx hb dY_rounded_97 (lv_at hl 1 rfl) ?_
                  exact W.lret (v := (((Int32.toInt64 p0) / 8) * 8)) hx hb hr (fun tE ht hW => ⟨(((Int32.toInt64 p0) / 8) * 8), rfl, by simp only [fRnd, fMag, fRu, fRl, eq_true c1, c2, c6, c10, eq_true c14, c15, eq_true c16, c17, ↓reduceIte], ht⟩) (fun q h => by cases h) dY_rounded_99
                · refine lv_lload hx hb dY_rounded_81 (lv_at hl 1 rfl) ?_
                  refine lv_lload_n hx hb dY_rounded_83 rfl (lv_at hl 2 rfl) ?_
                  refine lv_ladd hx hb dY_rounded_84 ?_
                  refine lv_lstore (lv' := [(5, .long ((((Int32.toInt64 p0) / 8) * 8) + 8)), (7, .long ((Int32.toInt64 p0) - (((Int32.toInt64 p0) / 8) * 8))), (3, .long 8), (1, .long (Int32.toInt64 p0)), (0, .int p0)]) hx hb dY_rounded_85 hl (by decide) rfl (fun ls hl => ?_)
                  refine lv_iload_n hx hb dY_rounded_87 rfl (lv_at hl 4 rfl) ?_
                  refine lv_if_ge (tgt := 97) hx hb dY_rounded_88 (by decide) (fun _ => ?_) (fun cz => absurd c1 cz)
                  refine lv_lload hx hb dY_rounded_97 (lv_at hl 0 rfl) ?_
                  exact W.lret (v := ((((Int32.toInt64 p0) / 8) * 8) + 8)) hx hb hr (fun tE ht hW => ⟨((((Int32.toInt64 p0) / 8) * 8) + 8), rfl, by simp only [fRnd, fMag, fRu, fRl, eq_true c1, c2, c6, c10, eq_true c14, c15, eq_true c16, eq_true c17, ↓reduceIte], ht⟩) (fun q h => by cases h) dY_rounded_99
          · refine lv_lload_n hx hb dY_rounded_25 rfl (lv_at hl 0 rfl) ?_
            refine lv_ldc2 (v := 2) hx hb hown (hty _ yk_107) dY_rounded_26 ?_
            refine lv_lmul hx hb dY_rounded_29 ?_
            refine lv_lstore_n (lv' := [(3, .long 16), (1, .long (Int32.toInt64 p0)), (0, .int p0)]) hx hb dY_rounded_30 rfl hl (by decide) rfl (fun ls hl => ?_)
            refine lv_goto (tgt := 15) hx hb dY_rounded_31 (by decide) ?_
            refine lv_lload_n hx hb dY_rounded_15 rfl (lv_at hl 1 rfl) ?_
            refine lv_lload_n hx hb dY_rounded_16 rfl (lv_at hl 0 rfl) ?_
            refine lv_ldiv hx hb dY_rounded_17 (by decide) ?_
            refine lv_ldc2 (v := 16777216) hx hb hown (hty _ yk_105) dY_rounded_18 ?_
            refine W.lcmp hx hb dY_rounded_21 ?_
            refine lv_if_lt (tgt := 34) hx hb dY_rounded_22 (by decide) (fun c18 => ?_) (fun c18 => ?_)
            · refine lv_lload_n hx hb dY_rounded_34 rfl (lv_at hl 1 rfl) ?_
              refine lv_lload_n hx hb dY_rounded_35 rfl (lv_at hl 0 rfl) ?_
              refine lv_ldiv hx hb dY_rounded_36 (by decide) ?_
              refine lv_lload_n hx hb dY_rounded_37 rfl (lv_at hl 0 rfl) ?_
              refine lv_lmul hx hb dY_rounded_38 ?_
              refine lv_lstore (lv' := [(5, .long (((Int32.toInt64 p0) / 16) * 16)), (3, .long 16), (1, .long (Int32.toInt64 p0)), (0, .int p0)]) hx hb dY_rounded_39 hl (by decide) rfl (fun ls hl => ?_)
              refine lv_lload_n hx hb dY_rounded_41 rfl (lv_at hl 2 rfl) ?_
              refine lv_lload hx hb dY_rounded_42 (lv_at hl 0 rfl) ?_
              refine lv_lsub hx hb dY_rounded_44 ?_
              refine lv_lstore (lv' := [(7, .long ((Int32.toInt64 p0) - (((Int32.toInt64 p0) / 16) * 16))), (5, .long (((Int32.toInt64 p0) / 16) * 16)), (3, .long 16), (1, .long (Int32.toInt64 p0)), (0, .int p0)]) hx hb dY_rounded_45 hl (by decide) rfl (fun ls hl => ?_)
              refine lv_ldc2 (v := 2) hx hb hown (hty _ yk_107) dY_rounded_47 ?_
              refine lv_lload hx hb dY_rounded_50 (lv_at hl 0 rfl) ?_
              refine lv_lmul hx hb dY_rounded_52 ?_
              refine lv_lload_n hx hb dY_rounded_53 rfl (lv_at hl 2 rfl) ?_
              refine W.lcmp hx hb dY_rounded_54 ?_
              refine lv_if_gt (tgt := 81) hx hb dY_rounded_55 (by decide) (fun c19 => ?_) (fun c19 => ?_)
              · refine lv_lload hx hb dY_rounded_81 (lv_at hl 1 rfl) ?_
                refine lv_lload_n hx hb dY_rounded_83 rfl (lv_at hl 2 rfl) ?_
                refine lv_ladd hx hb dY_rounded_84 ?_
                refine lv_lstore (lv' := [(5, .long ((((Int32.toInt64 p0) / 16) * 16) + 16)), (7, .long ((Int32.toInt64 p0) - (((Int32.toInt64 p0) / 16) * 16))), (3, .long 16), (1, .long (Int32.toInt64 p0)), (0, .int p0)]) hx hb dY_rounded_85 hl (by decide) rfl (fun ls hl => ?_)
                refine lv_iload_n hx hb dY_rounded_87 rfl (lv_at hl 4 rfl) ?_
                refine lv_if_ge (tgt := 97) hx hb dY_rounded_88 (by decide) (fun _ => ?_) (fun cz => absurd c1 cz)
                refine lv_lload hx hb dY_rounded_97 (lv_at hl 0 rfl) ?_
                exact W.lret (v := ((((Int32.toInt64 p0) / 16) * 16) + 16)) hx hb hr (fun tE ht hW => ⟨((((Int32.toInt64 p0) / 16) * 16) + 16), rfl, by simp only [fRnd, fMag, fRu, fRl, eq_true c1, c2, c6, c10, c14, eq_true c18, eq_true c19, ↓reduceIte], ht⟩) (fun q h => by cases h) dY_rounded_99
              · refine lv_ldc2 (v := 2) hx hb hown (hty _ yk_107) dY_rounded_58 ?_
                refine lv_lload hx hb dY_rounded_61 (lv_at hl 0 rfl) ?_
                refine lv_lmul hx hb dY_rounded_63 ?_
                refine lv_lload_n hx hb dY_rounded_64 rfl (lv_at hl 2 rfl) ?_
                refine W.lcmp hx hb dY_rounded_65 ?_
                refine lv_if_ne (tgt := 87) hx hb dY_rounded_66 (by decide) (fun c20 => ?_) (fun c20 => ?_)
                · refine lv_iload_n hx hb dY_rounded_87 rfl (lv_at hl 4 rfl) ?_
                  refine lv_if_ge (tgt := 97) hx hb dY_rounded_88 (by decide) (fun _ => ?_) (fun cz => absurd c1 cz)
                  refine lv_lload hx hb dY_rounded_97 (lv_at hl 1 rfl) ?_
                  exact W.lret (v := (((Int32.toInt64 p0) / 16) * 16)) hx hb hr (fun tE ht hW => ⟨(((Int32.toInt64 p0) / 16) * 16), rfl, by simp only [fRnd, fMag, fRu, fRl, eq_true c1, c2, c6, c10, c14, eq_true c18, c19, c20, ↓reduceIte], ht⟩) (fun q h => by cases h) dY_rounded_99
                · refine lv_lload_n hx hb dY_rounded_69 rfl (lv_at hl 3 rfl) ?_
                  refine lv_lload_n hx hb dY_rounded_70 rfl (lv_at hl 2 rfl) ?_
                  refine lv_ldiv hx hb dY_rounded_71 (by decide) ?_
                  refine lv_ldc2 (v := 2) hx hb hown (hty _ yk_107) dY_rounded_72 ?_
                  refine lv_lrem hx hb dY_rounded_75 (by decide) ?_
                  refine lv_lconst (v := 1) hx hb dY_rounded_76 rfl ?_
                  refine W.lcmp hx hb dY_rounded_77 ?_
                  refine lv_if_ne (tgt := 87) hx hb dY_rounded_78 (by decide) (fun c21 => ?_) (fun c21 => ?_)
                  · refine lv_iload_n hx hb dY_rounded_87 rfl (lv_at hl 4 rfl) ?_
                    refine lv_if_ge (tgt := 97) hx hb dY_rounded_88 (by decide) (fun _ => ?_) (fun cz => absurd c1 cz)
                    refine lv_lload hx hb dY_rounded_97 (lv_at hl 1 rfl) ?_
                    exact W.lret (v := (((Int32.toInt64 p0) / 16) * 16)) hx hb hr (fun tE ht hW => ⟨(((Int32.toInt64 p0) / 16) * 16), rfl, by simp only [fRnd, fMag, fRu, fRl, eq_true c1, c2, c6, c10, c14, eq_true c18, c19, eq_true c20, c21, ↓reduceIte], ht⟩) (fun q h => by cases h) dY_rounded_99
                  · refine lv_lload hx hb dY_rounded_81 (lv_at hl 1 rfl) ?_
                    refine lv_lload_n hx hb dY_rounded_83 rfl (lv_at hl 2 rfl) ?_
                    refine lv_ladd hx hb dY_rounded_84 ?_
                    refine lv_lstore (lv' := [(5, .long ((((Int32.toInt64 p0) / 16) * 16) + 16)), (7, .long ((Int32.toInt64 p0) - (((Int32.toInt64 p0) / 16) * 16))), (3, .long 16), (1, .long (Int32.toInt64 p0)), (0, .int p0)]) hx hb dY_rounded_85 hl (by decide) rfl (fun ls hl => ?_)
                    refine lv_iload_n hx hb dY_rounded_87 rfl (lv_at hl 4 rfl) ?_
                    refine lv_if_ge (tgt := 97) hx hb dY_rounded_88 (by decide) (fun _ => ?_) (fun cz => absurd c1 cz)
                    refine lv_lload hx hb dY_rounded_97 (lv_at hl 0 rfl) ?_
                    exact W.lret (v := ((((Int32.toInt64 p0) / 16) * 16) + 16)) hx hb hr (fun tE ht hW => ⟨((((Int32.toInt64 p0) / 16) * 16) + 16), rfl, by simp only [fRnd, fMag, fRu, fRl, eq_true c1, c2, c6, c10, c14, eq_true c18, c19, eq_true c20, eq_true c21, ↓reduceIte], ht⟩) (fun q h => by cases h) dY_rounded_99
            · refine lv_lload_n hx hb dY_rounded_25 rfl (lv_at hl 0 rfl) ?_
              refine lv_ldc2 (v := 2) hx hb hown (hty _ yk_107) dY_rounded_26 ?_
              refine lv_lmul hx hb dY_rounded_29 ?_
              refine lv_lstore_n (lv' := [(3, .long 32), (1, .long (Int32.toInt64 p0)), (0, .int p0)]) hx hb dY_rounded_30 rfl hl (by decide) rfl (fun ls hl => ?_)
              refine lv_goto (tgt := 15) hx hb dY_rounded_31 (by decide) ?_
              refine lv_lload_n hx hb dY_rounded_15 rfl (lv_at hl 1 rfl) ?_
              refine lv_lload_n hx hb dY_rounded_16 rfl (lv_at hl 0 rfl) ?_
              refine lv_ldiv hx hb dY_rounded_17 (by decide) ?_
              refine lv_ldc2 (v := 16777216) hx hb hown (hty _ yk_105) dY_rounded_18 ?_
              refine W.lcmp hx hb dY_rounded_21 ?_
              refine lv_if_lt (tgt := 34) hx hb dY_rounded_22 (by decide) (fun c22 => ?_) (fun c22 => ?_)
              · refine lv_lload_n hx hb dY_rounded_34 rfl (lv_at hl 1 rfl) ?_
                refine lv_lload_n hx hb dY_rounded_35 rfl (lv_at hl 0 rfl) ?_
                refine lv_ldiv hx hb dY_rounded_36 (by decide) ?_
                refine lv_lload_n hx hb dY_rounded_37 rfl (lv_at hl 0 rfl) ?_
                refine lv_lmul hx hb dY_rounded_38 ?_
                refine lv_lstore (lv' := [(5, .long (((Int32.toInt64 p0) / 32) * 32)), (3, .long 32), (1, .long (Int32.toInt64 p0)), (0, .int p0)]) hx hb dY_rounded_39 hl (by decide) rfl (fun ls hl => ?_)
                refine lv_lload_n hx hb dY_rounded_41 rfl (lv_at hl 2 rfl) ?_
                refine lv_lload hx hb dY_rounded_42 (lv_at hl 0 rfl) ?_
                refine lv_lsub hx hb dY_rounded_44 ?_
                refine lv_lstore (lv' := [(7, .long ((Int32.toInt64 p0) - (((Int32.toInt64 p0) / 32) * 32))), (5, .long (((Int32.toInt64 p0) / 32) * 32)), (3, .long 32), (1, .long (Int32.toInt64 p0)), (0, .int p0)]) hx hb dY_rounded_45 hl (by decide) rfl (fun ls hl => ?_)
                refine lv_ldc2 (v := 2) hx hb hown (hty _ yk_107) dY_rounded_47 ?_
                refine lv_lload hx hb dY_rounded_50 (lv_at hl 0 rfl) ?_
                refine lv_lmul hx hb dY_rounded_52 ?_
                refine lv_lload_n hx hb dY_rounded_53 rfl (lv_at hl 2 rfl) ?_
                refine W.lcmp hx hb dY_rounded_54 ?_
                refine lv_if_gt (tgt := 81) hx hb dY_rounded_55 (by decide) (fun c23 => ?_) (fun c23 => ?_)
                · refine lv_lload hx hb dY_rounded_81 (lv_at hl 1 rfl) ?_
                  refine lv_lload_n hx hb dY_rounded_83 rfl (lv_at hl 2 rfl) ?_
                  refine lv_ladd hx hb dY_rounded_84 ?_
                  refine lv_lstore (lv' := [(5, .long ((((Int32.toInt64 p0) / 32) * 32) + 32)), (7, .long ((Int32.toInt64 p0) - (((Int32.toInt64 p0) / 32) * 32))), (3, .long 32), (1, .long (Int32.toInt64 p0)), (0, .int p0)]) hx hb dY_rounded_85 hl (by decide) rfl (fun ls hl => ?_)
                  refine lv_iload_n hx hb dY_rounded_87 rfl (lv_at hl 4 rfl) ?_
                  refine lv_if_ge (tgt := 97) hx hb dY_rounded_88 (by decide) (fun _ => ?_) (fun cz => absurd c1 cz)
                  refine lv_lload hx hb dY_rounded_97 (lv_at hl 0 rfl) ?_
                  exact W.lret (v := ((((Int32.toInt64 p0) / 32) * 32) + 32)) hx hb hr (fun tE ht hW => ⟨((((Int32.toInt64 p0) / 32) * 32) + 32), rfl, by simp only [fRnd, fMag, fRu, fRl, eq_true c1, c2, c6, c10, c14, c18, eq_true c22, eq_true c23, ↓reduceIte], ht⟩) (fun q h => by cases h) dY_rounded_99
                · refine lv_ldc2 (v := 2) hx hb hown (hty _ yk_107) dY_rounded_58 ?_
                  refine lv_lload hx hb dY_rounded_61 (lv_at hl 0 rfl) ?_
                  refine lv_lmul hx hb dY_rounded_63 ?_
                  refine lv_lload_n hx hb dY_rounded_64 rfl (lv_at hl 2 rfl) ?_
                  refine W.lcmp hx hb dY_rounded_65 ?_
                  refine lv_if_ne (tgt := 87) hx hb dY_rounded_66 (by decide) (fun c24 => ?_) (fun c24 => ?_)
                  · refine lv_iload_n hx hb dY_rounded_87 rfl (lv_at hl 4 rfl) ?_
                    refine lv_if_ge (tgt := 97) hx hb dY_rounded_88 (by decide) (fun _ => ?_) (fun cz => absurd c1 cz)
                    refine lv_lload hx hb dY_rounded_97 (lv_at hl 1 rfl) ?_
                    exact W.lret (v := (((Int32.toInt64 p0) / 32) * 32)) hx hb hr (fun tE ht hW => ⟨(((Int32.toInt64 p0) / 32) * 32), rfl, by simp only [fRnd, fMag, fRu, fRl, eq_true c1, c2, c6, c10, c14, c18, eq_true c22, c23, c24, ↓reduceIte], ht⟩) (fun q h => by cases h) dY_rounded_99
                  · refine lv_lload_n hx hb dY_rounded_69 rfl (lv_at hl 3 rfl) ?_
                    refine lv_lload_n hx hb dY_rounded_70 rfl (lv_at hl 2 rfl) ?_
                    refine lv_ldiv hx hb dY_rounded_71 (by decide) ?_
                    refine lv_ldc2 (v := 2) hx hb hown (hty _ yk_107) dY_rounded_72 ?_
                    refine lv_lrem hx hb dY_rounded_75 (by decide) ?_
                    refine lv_lconst (v := 1) hx hb dY_rounded_76 rfl ?_
                    refine W.lcmp hx hb dY_rounded_77 ?_
                    refine lv_if_ne (tgt := 87) hx hb dY_rounded_78 (by decide) (fun c25 => ?_) (fun c25 => ?_)
                    · refine lv_iload_n hx hb dY_rounded_87 rfl (lv_at hl 4 rfl) ?_
                      refine lv_if_ge (tgt := 97) hx hb dY_rounded_88 (by decide) (fun _ => ?_) (fun cz => absurd c1 cz)
                      refine lv_lload hx hb dY_rounded_97 (lv_at hl 1 rfl) ?_
                      exact W.lret (v := (((Int32.toInt64 p0) / 32) * 32)) hx hb hr (fun tE ht hW => ⟨(((Int32.toInt64 p0) / 32) * 32), rfl, by simp only [fRnd, fMag, fRu, fRl, eq_true c1, c2, c6, c10, c14, c18, eq_true c22, c23, eq_true c24, c25, ↓reduceIte], ht⟩) (fun q h => by cases h) dY_rounded_99
                    · refine lv_lload hx hb dY_rounded_81 (lv_at hl 1 rfl) ?_
                      refine lv_lload_n hx hb dY_rounded_83 rfl (lv_at hl 2 rfl) ?_
                      refine lv_ladd hx hb dY_rounded_84 ?_
                      refine lv_lstore (lv' := [(5, .long ((((Int32.toInt64 p0) / 32) * 32) + 32)), (7, .long ((Int32.toInt64 p0) - (((Int32.toInt64 p0) / 32) * 32))), (3, .long 32), (1, .long (Int32.toInt64 p0)), (0, .int p0)]) hx hb dY_rounded_85 hl (by decide) rfl (fun ls hl => ?_)
                      refine lv_iload_n hx hb dY_rounded_87 rfl (lv_at hl 4 rfl) ?_
                      refine lv_if_ge (tgt := 97) hx hb dY_rounded_88 (by decide) (fun _ => ?_) (fun cz => absurd c1 cz)
                      refine lv_lload hx hb dY_rounded_97 (lv_at hl 0 rfl) ?_
                      exact W.lret (v := ((((Int32.toInt64 p0) / 32) * 32) + 32)) hx hb hr (fun tE ht hW => ⟨((((Int32.toInt64 p0) / 32) * 32) + 32), rfl, by simp only [fRnd, fMag, fRu, fRl, eq_true c1, c2, c6, c10, c14, c18, eq_true c22, c23, eq_true c24, eq_true c25, ↓reduceIte], ht⟩) (fun q h => by cases h) dY_rounded_99
              · refine lv_lload_n hx hb dY_rounded_25 rfl (lv_at hl 0 rfl) ?_
                refine lv_ldc2 (v := 2) hx hb hown (hty _ yk_107) dY_rounded_26 ?_
                refine lv_lmul hx hb dY_rounded_29 ?_
                refine lv_lstore_n (lv' := [(3, .long 64), (1, .long (Int32.toInt64 p0)), (0, .int p0)]) hx hb dY_rounded_30 rfl hl (by decide) rfl (fun ls hl => ?_)
                refine lv_goto (tgt := 15) hx hb dY_rounded_31 (by decide) ?_
                refine lv_lload_n hx hb dY_rounded_15 rfl (lv_at hl 1 rfl) ?_
                refine lv_lload_n hx hb dY_rounded_16 rfl (lv_at hl 0 rfl) ?_
                refine lv_ldiv hx hb dY_rounded_17 (by decide) ?_
                refine lv_ldc2 (v := 16777216) hx hb hown (hty _ yk_105) dY_rounded_18 ?_
                refine W.lcmp hx hb dY_rounded_21 ?_
                refine lv_if_lt (tgt := 34) hx hb dY_rounded_22 (by decide) (fun c26 => ?_) (fun c26 => ?_)
                · refine lv_lload_n hx hb dY_rounded_34 rfl (lv_at hl 1 rfl) ?_
                  refine lv_lload_n hx hb dY_rounded_35 rfl (lv_at hl 0 rfl) ?_
                  refine lv_ldiv hx hb dY_rounded_36 (by decide) ?_
                  refine lv_lload_n hx hb dY_rounded_37 rfl (lv_at hl 0 rfl) ?_
                  refine lv_lmul hx hb dY_rounded_38 ?_
                  refine lv_lstore (lv' := [(5, .long (((Int32.toInt64 p0) / 64) * 64)), (3, .long 64), (1, .long (Int32.toInt64 p0)), (0, .int p0)]) hx hb dY_rounded_39 hl (by decide) rfl (fun ls hl => ?_)
                  refine lv_lload_n hx hb dY_rounded_41 rfl (lv_at hl 2 rfl) ?_
                  refine lv_lload hx hb dY_rounded_42 (lv_at hl 0 rfl) ?_
                  refine lv_lsub hx hb dY_rounded_44 ?_
                  refine lv_lstore (lv' := [(7, .long ((Int32.toInt64 p0) - (((Int32.toInt64 p0) / 64) * 64))), (5, .long (((Int32.toInt64 p0) / 64) * 64)), (3, .long 64), (1, .long (Int32.toInt64 p0)), (0, .int p0)]) hx hb dY_rounded_45 hl (by decide) rfl (fun ls hl => ?_)
                  refine lv_ldc2 (v := 2) hx hb hown (hty _ yk_107) dY_rounded_47 ?_
                  refine lv_lload hx hb dY_rounded_50 (lv_at hl 0 rfl) ?_
                  refine lv_lmul hx hb dY_rounded_52 ?_
                  refine lv_lload_n hx hb dY_rounded_53 rfl (lv_at hl 2 rfl) ?_
                  refine W.lcmp hx hb dY_rounded_54 ?_
                  refine lv_if_gt (tgt := 81) hx hb dY_rounded_55 (by decide) (fun c27 => ?_) (fun c27 => ?_)
                  · refine lv_lload hx hb dY_rounded_81 (lv_at hl 1 rfl) ?_
                    refine lv_lload_n hx hb dY_rounded_83 rfl (lv_at hl 2 rfl) ?_
                    refine lv_ladd hx hb dY_rounded_84 ?_
                    refine lv_lstore (lv' := [(5, .long ((((Int32.toInt64 p0) / 64) * 64) + 64)), (7, .long ((Int32.toInt64 p0) - (((Int32.toInt64 p0) / 64) * 64))), (3, .long 64), (1, .long (Int32.toInt64 p0)), (0, .int p0)]) hx hb dY_rounded_85 hl (by decide) rfl (fun ls hl => ?_)
                    refine lv_iload_n hx hb dY_rounded_87 rfl (lv_at hl 4 rfl) ?_
                    refine lv_if_ge (tgt := 97) hx hb dY_rounded_88 (by decide) (fun _ => ?_) (fun cz => absurd c1 cz)
                    refine lv_lload hx hb dY_rounded_97 (lv_at hl 0 rfl) ?_
                    exact W.lret (v := ((((Int32.toInt64 p0) / 64) * 64) + 64)) hx hb hr (fun tE ht hW => ⟨((((Int32.toInt64 p0) / 64) * 64) + 64), rfl, by simp only [fRnd, fMag, fRu, fRl, eq_true c1, c2, c6, c10, c14, c18, c22, eq_true c26, eq_true c27, ↓reduceIte], ht⟩) (fun q h => by cases h) dY_rounded_99
                  · refine lv_ldc2 (v := 2) hx hb hown (hty _ yk_107) dY_rounded_58 ?_
                    refine lv_lload hx hb dY_rounded_61 (lv_at hl 0 rfl) ?_
                    refine lv_lmul hx hb dY_rounded_63 ?_
                    refine lv_lload_n hx hb dY_rounded_64 rfl (lv_at hl 2 rfl) ?_
                    refine W.lcmp hx hb dY_rounded_65 ?_
                    refine lv_if_ne (tgt := 87) hx hb dY_rounded_66 (by decide) (fun c28 => ?_) (fun c28 => ?_)
                    · refine lv_iload_n hx hb dY_rounded_87 rfl (lv_at hl 4 rfl) ?_
                      refine lv_if_ge (tgt := 97) hx hb dY_rounded_88 (by decide) (fun _ => ?_) (fun cz => absurd c1 cz)
                      refine lv_lload hx hb dY_rounded_97 (lv_at hl 1 rfl) ?_
                      exact W.lret (v := (((Int32.toInt64 p0) / 64) * 64)) hx hb hr (fun tE ht hW => ⟨(((Int32.toInt64 p0) / 64) * 64), rfl, by simp only [fRnd, fMag, fRu, fRl, eq_true c1, c2, c6, c10, c14, c18, c22, eq_true c26, c27, c28, ↓reduceIte], ht⟩) (fun q h => by cases h) dY_rounded_99
                    · refine lv_lload_n hx hb dY_rounded_69 rfl (lv_at hl 3 rfl) ?_
                      refine lv_lload_n hx hb dY_rounded_70 rfl (lv_at hl 2 rfl) ?_
                      refine lv_ldiv hx hb dY_rounded_71 (by decide) ?_
                      refine lv_ldc2 (v := 2) hx hb hown (hty _ yk_107) dY_rounded_72 ?_
                      refine lv_lrem hx hb dY_rounded_75 (by decide) ?_
                      refine lv_lconst (v := 1) hx hb dY_rounded_76 rfl ?_
                      refine W.lcmp hx hb dY_rounded_77 ?_
                      refine lv_if_ne (tgt := 87) hx hb dY_rounded_78 (by decide) (fun c29 => ?_) (fun c29 => ?_)
                      · refine lv_iload_n hx hb dY_rounded_87 rfl (lv_at hl 4 rfl) ?_
                        refine lv_if_ge (tgt := 97) hx hb dY_rounded_88 (by decide) (fun _ => ?_) (fun cz => absurd c1 cz)
                        refine lv_lload hx hb dY_rounded_97 (lv_at hl 1 rfl) ?_
                        exact W.lret (v := (((Int32.toInt64 p0) / 64) * 64)) hx hb hr (fun tE ht hW => ⟨(((Int32.toInt64 p0) / 64) * 64), rfl, by simp only [fRnd, fMag, fRu, fRl, eq_true c1, c2, c6, c10, c14, c18, c22, eq_true c26, c27, eq_true c28, c29, ↓reduceIte], ht⟩) (fun q h => by cases h) dY_rounded_99
                      · refine lv_lload hx hb dY_rounded_81 (lv_at hl 1 rfl) ?_
                        refine lv_lload_n hx hb dY_rounded_83 rfl (lv_at hl 2 rfl) ?_
                        refine lv_ladd hx hb dY_rounded_84 ?_
                        refine lv_lstore (lv' := [(5, .long ((((Int32.toInt64 p0) / 64) * 64) + 64)), (7, .long ((Int32.toInt64 p0) - (((Int32.toInt64 p0) / 64) * 64))), (3, .long 64), (1, .long (Int32.toInt64 p0)), (0, .int p0)]) hx hb dY_rounded_85 hl (by decide) rfl (fun ls hl => ?_)
                        refine lv_iload_n hx hb dY_rounded_87 rfl (lv_at hl 4 rfl) ?_
                        refine lv_if_ge (tgt := 97) hx hb dY_rounded_88 (by decide) (fun _ => ?_) (fun cz => absurd c1 cz)
                        refine lv_lload hx hb dY_rounded_97 (lv_at hl 0 rfl) ?_
                        exact W.lret (v := ((((Int32.toInt64 p0) / 64) * 64) + 64)) hx hb hr (fun tE ht hW => ⟨((((Int32.toInt64 p0) / 64) * 64) + 64), rfl, by simp only [fRnd, fMag, fRu, fRl, eq_true c1, c2, c6, c10, c14, c18, c22, eq_true c26, c27, eq_true c28, eq_true c29, ↓reduceIte], ht⟩) (fun q h => by cases h) dY_rounded_99
                · refine lv_lload_n hx hb dY_rounded_25 rfl (lv_at hl 0 rfl) ?_
                  refine lv_ldc2 (v := 2) hx hb hown (hty _ yk_107) dY_rounded_26 ?_
                  refine lv_lmul hx hb dY_rounded_29 ?_
                  refine lv_lstore_n (lv' := [(3, .long 128), (1, .long (Int32.toInt64 p0)), (0, .int p0)]) hx hb dY_rounded_30 rfl hl (by decide) rfl (fun ls hl => ?_)
                  refine lv_goto (tgt := 15) hx hb dY_rounded_31 (by decide) ?_
                  refine lv_lload_n hx hb dY_rounded_15 rfl (lv_at hl 1 rfl) ?_
                  refine lv_lload_n hx hb dY_rounded_16 rfl (lv_at hl 0 rfl) ?_
                  refine lv_ldiv hx hb dY_rounded_17 (by decide) ?_
                  refine lv_ldc2 (v := 16777216) hx hb hown (hty _ yk_105) dY_rounded_18 ?_
                  refine W.lcmp hx hb dY_rounded_21 ?_
                  refine lv_if_lt (tgt := 34) hx hb dY_rounded_22 (by decide) (fun c30 => ?_) (fun c30 => ?_)
                  · refine lv_lload_n hx hb dY_rounded_34 rfl (lv_at hl 1 rfl) ?_
                    refine lv_lload_n hx hb dY_rounded_35 rfl (lv_at hl 0 rfl) ?_
                    refine lv_ldiv hx hb dY_rounded_36 (by decide) ?_
                    refine lv_lload_n hx hb dY_rounded_37 rfl (lv_at hl 0 rfl) ?_
                    refine lv_lmul hx hb dY_rounded_38 ?_
                    refine lv_lstore (lv' := [(5, .long (((Int32.toInt64 p0) / 128) * 128)), (3, .long 128), (1, .long (Int32.toInt64 p0)), (0, .int p0)]) hx hb dY_rounded_39 hl (by decide) rfl (fun ls hl => ?_)
                    refine lv_lload_n hx hb dY_rounded_41 rfl (lv_at hl 2 rfl) ?_
                    refine lv_lload hx hb dY_rounded_42 (lv_at hl 0 rfl) ?_
                    refine lv_lsub hx hb dY_rounded_44 ?_
                    refine lv_lstore (lv' := [(7, .long ((Int32.toInt64 p0) - (((Int32.toInt64 p0) / 128) * 128))), (5, .long (((Int32.toInt64 p0) / 128) * 128)), (3, .long 128), (1, .long (Int32.toInt64 p0)), (0, .int p0)]) hx hb dY_rounded_45 hl (by decide) rfl (fun ls hl => ?_)
                    refine lv_ldc2 (v := 2) hx hb hown (hty _ yk_107) dY_rounded_47 ?_
                    refine lv_lload hx hb dY_rounded_50 (lv_at hl 0 rfl) ?_
                    refine lv_lmul hx hb dY_rounded_52 ?_
                    refine lv_lload_n hx hb dY_rounded_53 rfl (lv_at hl 2 rfl) ?_
                    refine W.lcmp hx hb dY_rounded_54 ?_
                    refine lv_if_gt (tgt := 81) hx hb dY_rounded_55 (by decide) (fun c31 => ?_) (fun c31 => ?_)
                    · refine lv_lload hx hb dY_rounded_81 (lv_at hl 1 rfl) ?_
                      refine lv_lload_n hx hb dY_rounded_83 rfl (lv_at hl 2 rfl) ?_
                      refine lv_ladd hx hb dY_rounded_84 ?_
                      refine lv_lstore (lv' := [(5, .long ((((Int32.toInt64 p0) / 128) * 128) + 128)), (7, .long ((Int32.toInt64 p0) - (((Int32.toInt64 p0) / 128) * 128))), (3, .long 128), (1, .long (Int32.toInt64 p0)), (0, .int p0)]) hx hb dY_rounded_85 hl (by decide) rfl (fun ls hl => ?_)
                      refine lv_iload_n hx hb dY_rounded_87 rfl (lv_at hl 4 rfl) ?_
                      refine lv_if_ge (tgt := 97) hx hb dY_rounded_88 (by decide) (fun _ => ?_) (fun cz => absurd c1 cz)
                      refine lv_lload hx hb dY_rounded_97 (lv_at hl 0 rfl) ?_
                      exact W.lret (v := ((((Int32.toInt64 p0) / 128) * 128) + 128)) hx hb hr (fun tE ht hW => ⟨((((Int32.toInt64 p0) / 128) * 128) + 128), rfl, by simp only [fRnd, fMag, fRu, fRl, eq_true c1, c2, c6, c10, c14, c18, c22, c26, eq_true c30, eq_true c31, ↓reduceIte], ht⟩) (fun q h => by cases h) dY_rounded_99
                    · refine lv_ldc2 (v := 2) hx hb hown (hty _ yk_107) dY_rounded_58 ?_
                      refine lv_lload hx hb dY_rounded_61 (lv_at hl 0 rfl) ?_
                      refine lv_lmul hx hb dY_rounded_63 ?_
                      refine lv_lload_n hx hb dY_rounded_64 rfl (lv_at hl 2 rfl) ?_
                      refine W.lcmp hx hb dY_rounded_65 ?_
                      refine lv_if_ne (tgt := 87) hx hb dY_rounded_66 (by decide) (fun c32 => ?_) (fun c32 => ?_)
                      · refine lv_iload_n hx hb dY_rounded_87 rfl (lv_at hl 4 rfl) ?_
                        refine lv_if_ge (tgt := 97) hx hb dY_rounded_88 (by decide) (fun _ => ?_) (fun cz => absurd c1 cz)
                        refine lv_lload hx hb dY_rounded_97 (lv_at hl 1 rfl) ?_
                        exact W.lret (v := (((Int32.toInt64 p0) / 128) * 128)) hx hb hr (fun tE ht hW => ⟨(((Int32.toInt64 p0) / 128) * 128), rfl, by simp only [fRnd, fMag, fRu, fRl, eq_true c1, c2, c6, c10, c14, c18, c22, c26, eq_true c30, c31, c32, ↓reduceIte], ht⟩) (fun q h => by cases h) dY_rounded_99
                      · refine lv_lload_n hx hb dY_rounded_69 rfl (lv_at hl 3 rfl) ?_
                        refine lv_lload_n hx hb dY_rounded_70 rfl (lv_at hl 2 rfl) ?_
                        refine lv_ldiv hx hb dY_rounded_71 (by decide) ?_
                        refine lv_ldc2 (v := 2) hx hb hown (hty _ yk_107) dY_rounded_72 ?_
                        refine lv_lrem hx hb dY_rounded_75 (by decide) ?_
                        refine lv_lconst (v := 1) hx hb dY_rounded_76 rfl ?_
                        refine W.lcmp hx hb dY_rounded_77 ?_
                        refine lv_if_ne (tgt := 87) hx hb dY_rounded_78 (by decide) (fun c33 => ?_) (fun c33 => ?_)
                        · refine lv_iload_n hx hb dY_rounded_87 rfl (lv_at hl 4 rfl) ?_
                          refine lv_if_ge (tgt := 97) hx hb dY_rounded_88 (by decide) (fun _ => ?_) (fun cz => absurd c1 cz)
                          refine lv_lload hx hb dY_rounded_97 (lv_at hl 1 rfl) ?_
                          exact W.lret (v := (((Int32.toInt64 p0) / 128) * 128)) hx hb hr (fun tE ht hW => ⟨(((Int32.toInt64 p0) / 128) * 128), rfl, by simp only [fRnd, fMag, fRu, fRl, eq_true c1, c2, c6, c10, c14, c18, c22, c26, eq_true c30, c31, eq_true c32, c33, ↓reduceIte], ht⟩) (fun q h => by cases h) dY_rounded_99
                        · refine lv_lload hx hb dY_rounded_81 (lv_at hl 1 rfl) ?_
                          refine lv_lload_n hx hb dY_rounded_83 rfl (lv_at hl 2 rfl) ?_
                          refine lv_ladd hx hb dY_rounded_84 ?_
                          refine lv_lstore (lv' := [(5, .long ((((Int32.toInt64 p0) / 128) * 128) + 128)), (7, .long ((Int32.toInt64 p0) - (((Int32.toInt64 p0) / 128) * 128))), (3, .long 128), (1, .long (Int32.toInt64 p0)), (0, .int p0)]) hx hb dY_rounded_85 hl (by decide) rfl (fun ls hl => ?_)
                          refine lv_iload_n hx hb dY_rounded_87 rfl (lv_at hl 4 rfl) ?_
                          refine lv_if_ge (tgt := 97) hx hb dY_rounded_88 (by decide) (fun _ => ?_) (fun cz => absurd c1 cz)
                          refine lv_lload hx hb dY_rounded_97 (lv_at hl 0 rfl) ?_
                          exact W.lret (v := ((((Int32.toInt64 p0) / 128) * 128) + 128)) hx hb hr (fun tE ht hW => ⟨((((Int32.toInt64 p0) / 128) * 128) + 128), rfl, by simp only [fRnd, fMag, fRu, fRl, eq_true c1, c2, c6, c10, c14, c18, c22, c26, eq_true c30, c31, eq_true c32, eq_true c33, ↓reduceIte], ht⟩) (fun q h => by cases h) dY_rounded_99
                  · refine lv_lload_n hx hb dY_rounded_25 rfl (lv_at hl 0 rfl) ?_
                    refine lv_ldc2 (v := 2) hx hb hown (hty _ yk_107) dY_rounded_26 ?_
                    refine lv_lmul hx hb dY_rounded_29 ?_
                    refine lv_lstore_n (lv' := [(3, .long 256), (1, .long (Int32.toInt64 p0)), (0, .int p0)]) hx hb dY_rounded_30 rfl hl (by decide) rfl (fun ls hl => ?_)
                    refine lv_goto (tgt := 15) hx hb dY_rounded_31 (by decide) ?_
                    refine lv_lload_n hx hb dY_rounded_15 rfl (lv_at hl 1 rfl) ?_
                    refine lv_lload_n hx hb dY_rounded_16 rfl (lv_at hl 0 rfl) ?_
                    refine lv_ldiv hx hb dY_rounded_17 (by decide) ?_
                    refine lv_ldc2 (v := 16777216) hx hb hown (hty _ yk_105) dY_rounded_18 ?_
                    refine W.lcmp hx hb dY_rounded_21 ?_
                    have c34 : (lg_cmp ((Int32.toInt64 p0) / 256) 16777216) < 0 := (rnd_stop _ (by first | exact mag_pos (by assumption) | exact mag_neg (by assumption)))
                    refine lv_if_lt (tgt := 34) hx hb dY_rounded_22 (by decide) (fun _ => ?_) (fun cz => absurd c34 cz)
                    refine lv_lload_n hx hb dY_rounded_34 rfl (lv_at hl 1 rfl) ?_
                    refine lv_lload_n hx hb dY_rounded_35 rfl (lv_at hl 0 rfl) ?_
                    refine lv_ldiv hx hb dY_rounded_36 (by decide) ?_
                    refine lv_lload_n hx hb dY_rounded_37 rfl (lv_at hl 0 rfl) ?_
                    refine lv_lmul hx hb dY_rounded_38 ?_
                    refine lv_lstore (lv' := [(5, .long (((Int32.toInt64 p0) / 256) * 256)), (3, .long 256), (1, .long (Int32.toInt64 p0)), (0, .int p0)]) hx hb dY_rounded_39 hl (by decide) rfl (fun ls hl => ?_)
                    refine lv_lload_n hx hb dY_rounded_41 rfl (lv_at hl 2 rfl) ?_
                    refine lv_lload hx hb dY_rounded_42 (lv_at hl 0 rfl) ?_
                    refine lv_lsub hx hb dY_rounded_44 ?_
                    refine lv_lstore (lv' := [(7, .long ((Int32.toInt64 p0) - (((Int32.toInt64 p0) / 256) * 256))), (5, .long (((Int32.toInt64 p0) / 256) * 256)), (3, .long 256), (1, .long (Int32.toInt64 p0)), (0, .int p0)]) hx hb dY_rounded_45 hl (by decide) rfl (fun ls hl => ?_)
                    refine lv_ldc2 (v := 2) hx hb hown (hty _ yk_107) dY_rounded_47 ?_
                    refine lv_lload hx hb dY_rounded_50 (lv_at hl 0 rfl) ?_
                    refine lv_lmul hx hb dY_rounded_52 ?_
                    refine lv_lload_n hx hb dY_rounded_53 rfl (lv_at hl 2 rfl) ?_
                    refine W.lcmp hx hb dY_rounded_54 ?_
                    refine lv_if_gt (tgt := 81) hx hb dY_rounded_55 (by decide) (fun c35 => ?_) (fun c35 => ?_)
                    · refine lv_lload hx hb dY_rounded_81 (lv_at hl 1 rfl) ?_
                      refine lv_lload_n hx hb dY_rounded_83 rfl (lv_at hl 2 rfl) ?_
                      refine lv_ladd hx hb dY_rounded_84 ?_
                      refine lv_lstore (lv' := [(5, .long ((((Int32.toInt64 p0) / 256) * 256) + 256)), (7, .long ((Int32.toInt64 p0) - (((Int32.toInt64 p0) / 256) * 256))), (3, .long 256), (1, .long (Int32.toInt64 p0)), (0, .int p0)]) hx hb dY_rounded_85 hl (by decide) rfl (fun ls hl => ?_)
                      refine lv_iload_n hx hb dY_rounded_87 rfl (lv_at hl 4 rfl) ?_
                      refine lv_if_ge (tgt := 97) hx hb dY_rounded_88 (by decide) (fun _ => ?_) (fun cz => absurd c1 cz)
                      refine lv_lload hx hb dY_rounded_97 (lv_at hl 0 rfl) ?_
                      exact W.lret (v := ((((Int32.toInt64 p0) / 256) * 256) + 256)) hx hb hr (fun tE ht hW => ⟨((((Int32.toInt64 p0) / 256) * 256) + 256), rfl, by simp only [fRnd, fMag, fRu, fRl, eq_true c1, c2, c6, c10, c14, c18, c22, c26, c30, eq_true c34, eq_true c35, ↓reduceIte], ht⟩) (fun q h => by cases h) dY_rounded_99
                    · refine lv_ldc2 (v := 2) hx hb hown (hty _ yk_107) dY_rounded_58 ?_
                      refine lv_lload hx hb dY_rounded_61 (lv_at hl 0 rfl) ?_
                      refine lv_lmul hx hb dY_rounded_63 ?_
                      refine lv_lload_n hx hb dY_rounded_64 rfl (lv_at hl 2 rfl) ?_
                      refine W.lcmp hx hb dY_rounded_65 ?_
                      refine lv_if_ne (tgt := 87) hx hb dY_rounded_66 (by decide) (fun c36 => ?_) (fun c36 => ?_)
                      · refine lv_iload_n hx hb dY_rounded_87 rfl (lv_at hl 4 rfl) ?_
                        refine lv_if_ge (tgt := 97) hx hb dY_rounded_88 (by decide) (fun _ => ?_) (fun cz => absurd c1 cz)
                        refine lv_lload hx hb dY_rounded_97 (lv_at hl 1 rfl) ?_
                        exact W.lret (v := (((Int32.toInt64 p0) / 256) * 256)) hx hb hr (fun tE ht hW => ⟨(((Int32.toInt64 p0) / 256) * 256), rfl, by simp only [fRnd, fMag, fRu, fRl, eq_true c1, c2, c6, c10, c14, c18, c22, c26, c30, eq_true c34, c35, c36, ↓reduceIte], ht⟩) (fun q h => by cases h) dY_rounded_99
                      · refine lv_lload_n hx hb dY_rounded_69 rfl (lv_at hl 3 rfl) ?_
                        refine lv_lload_n hx hb dY_rounded_70 rfl (lv_at hl 2 rfl) ?_
                        refine lv_ldiv hx hb dY_rounded_71 (by decide) ?_
                        refine lv_ldc2 (v := 2) hx hb hown (hty _ yk_107) dY_rounded_72 ?_
                        refine lv_lrem hx hb dY_rounded_75 (by decide) ?_
                        refine lv_lconst (v := 1) hx hb dY_rounded_76 rfl ?_
                        refine W.lcmp hx hb dY_rounded_77 ?_
                        refine lv_if_ne (tgt := 87) hx hb dY_rounded_78 (by decide) (fun c37 => ?_) (fun c37 => ?_)
                        · refine lv_iload_n hx hb dY_rounded_87 rfl (lv_at hl 4 rfl) ?_
                          refine lv_if_ge (tgt := 97) hx hb dY_rounded_88 (by decide) (fun _ => ?_) (fun cz => absurd c1 cz)
                          refine lv_lload hx hb dY_rounded_97 (lv_at hl 1 rfl) ?_
                          exact W.lret (v := (((Int32.toInt64 p0) / 256) * 256)) hx hb hr (fun tE ht hW => ⟨(((Int32.toInt64 p0) / 256) * 256), rfl, by simp only [fRnd, fMag, fRu, fRl, eq_true c1, c2, c6, c10, c14, c18, c22, c26, c30, eq_true c34, c35, eq_true c36, c37, ↓reduceIte], ht⟩) (fun q h => by cases h) dY_rounded_99
                        · refine lv_lload hx hb dY_rounded_81 (lv_at hl 1 rfl) ?_
                          refine lv_lload_n hx hb dY_rounded_83 rfl (lv_at hl 2 rfl) ?_
                          refine lv_ladd hx hb dY_rounded_84 ?_
                          refine lv_lstore (lv' := [(5, .long ((((Int32.toInt64 p0) / 256) * 256) + 256)), (7, .long ((Int32.toInt64 p0) - (((Int32.toInt64 p0) / 256) * 256))), (3, .long 256), (1, .long (Int32.toInt64 p0)), (0, .int p0)]) hx hb dY_rounded_85 hl (by decide) rfl (fun ls hl => ?_)
                          refine lv_iload_n hx hb dY_rounded_87 rfl (lv_at hl 4 rfl) ?_
                          refine lv_if_ge (tgt := 97) hx hb dY_rounded_88 (by decide) (fun _ => ?_) (fun cz => absurd c1 cz)
                          refine lv_lload hx hb dY_rounded_97 (lv_at hl 0 rfl) ?_
                          exact W.lret (v := ((((Int32.toInt64 p0) / 256) * 256) + 256)) hx hb hr (fun tE ht hW => ⟨((((Int32.toInt64 p0) / 256) * 256) + 256), rfl, by simp only [fRnd, fMag, fRu, fRl, eq_true c1, c2, c6, c10, c14, c18, c22, c26, c30, eq_true c34, c35, eq_true c36, eq_true c37, ↓reduceIte], ht⟩) (fun q h => by cases h) dY_rounded_99
  · refine lv_iload_n hx hb dY_rounded_4 rfl (lv_at hl 0 rfl) ?_
    refine lv_i2l hx hb dY_rounded_5 rfl ?_
    refine lv_lneg hx hb dY_rounded_6 ?_
    refine lv_goto (tgt := 12) hx hb dY_rounded_7 (by decide) ?_
    refine lv_lstore_n (lv' := [(1, .long (-(Int32.toInt64 p0))), (0, .int p0)]) hx hb dY_rounded_12 rfl hl (by decide) rfl (fun ls hl => ?_)
    refine lv_lconst (v := 1) hx hb dY_rounded_13 rfl ?_
    refine lv_lstore_n (lv' := [(3, .long 1), (1, .long (-(Int32.toInt64 p0))), (0, .int p0)]) hx hb dY_rounded_14 rfl hl (by decide) rfl (fun ls hl => ?_)
    refine lv_lload_n hx hb dY_rounded_15 rfl (lv_at hl 1 rfl) ?_
    refine lv_lload_n hx hb dY_rounded_16 rfl (lv_at hl 0 rfl) ?_
    refine lv_ldiv hx hb dY_rounded_17 (by decide) ?_
    refine lv_ldc2 (v := 16777216) hx hb hown (hty _ yk_105) dY_rounded_18 ?_
    refine W.lcmp hx hb dY_rounded_21 ?_
    refine lv_if_lt (tgt := 34) hx hb dY_rounded_22 (by decide) (fun c38 => ?_) (fun c38 => ?_)
    · refine lv_lload_n hx hb dY_rounded_34 rfl (lv_at hl 1 rfl) ?_
      refine lv_lload_n hx hb dY_rounded_35 rfl (lv_at hl 0 rfl) ?_
      refine lv_ldiv hx hb dY_rounded_36 (by decide) ?_
      refine lv_lload_n hx hb dY_rounded_37 rfl (lv_at hl 0 rfl) ?_
      refine lv_lmul hx hb dY_rounded_38 ?_
      refine lv_lstore (lv' := [(5, .long (((-(Int32.toInt64 p0)) / 1) * 1)), (3, .long 1), (1, .long (-(Int32.toInt64 p0))), (0, .int p0)]) hx hb dY_rounded_39 hl (by decide) rfl (fun ls hl => ?_)
      refine lv_lload_n hx hb dY_rounded_41 rfl (lv_at hl 2 rfl) ?_
      refine lv_lload hx hb dY_rounded_42 (lv_at hl 0 rfl) ?_
      refine lv_lsub hx hb dY_rounded_44 ?_
      refine lv_lstore (lv' := [(7, .long ((-(Int32.toInt64 p0)) - (((-(Int32.toInt64 p0)) / 1) * 1))), (5, .long (((-(Int32.toInt64 p0)) / 1) * 1)), (3, .long 1), (1, .long (-(Int32.toInt64 p0))), (0, .int p0)]) hx hb dY_rounded_45 hl (by decide) rfl (fun ls hl => ?_)
      refine lv_ldc2 (v := 2) hx hb hown (hty _ yk_107) dY_rounded_47 ?_
      refine lv_lload hx hb dY_rounded_50 (lv_at hl 0 rfl) ?_
      refine lv_lmul hx hb dY_rounded_52 ?_
      refine lv_lload_n hx hb dY_rounded_53 rfl (lv_at hl 2 rfl) ?_
      refine W.lcmp hx hb dY_rounded_54 ?_
      refine lv_if_gt (tgt := 81) hx hb dY_rounded_55 (by decide) (fun c39 => ?_) (fun c39 => ?_)
      · refine lv_lload hx hb dY_rounded_81 (lv_at hl 1 rfl) ?_
        refine lv_lload_n hx hb dY_rounded_83 rfl (lv_at hl 2 rfl) ?_
        refine lv_ladd hx hb dY_rounded_84 ?_
        refine lv_lstore (lv' := [(5, .long ((((-(Int32.toInt64 p0)) / 1) * 1) + 1)), (7, .long ((-(Int32.toInt64 p0)) - (((-(Int32.toInt64 p0)) / 1) * 1))), (3, .long 1), (1, .long (-(Int32.toInt64 p0))), (0, .int p0)]) hx hb dY_rounded_85 hl (by decide) rfl (fun ls hl => ?_)
        refine lv_iload_n hx hb dY_rounded_87 rfl (lv_at hl 4 rfl) ?_
        refine lv_if_ge (tgt := 97) hx hb dY_rounded_88 (by decide) (fun cz => absurd cz c1) (fun _ => ?_)
        refine lv_lload hx hb dY_rounded_91 (lv_at hl 0 rfl) ?_
        refine lv_lneg hx hb dY_rounded_93 ?_
        refine lv_goto (tgt := 99) hx hb dY_rounded_94 (by decide) ?_
        exact W.lret (v := (-((((-(Int32.toInt64 p0)) / 1) * 1) + 1))) hx hb hr (fun tE ht hW => ⟨(-((((-(Int32.toInt64 p0)) / 1) * 1) + 1)), rfl, by simp only [fRnd, fMag, fRu, fRl, c1, eq_true c38, eq_true c39, ↓reduceIte], ht⟩) (fun q h => by cases h) dY_rounded_99
      · refine lv_ldc2 (v := 2) hx hb hown (hty _ yk_107) dY_rounded_58 ?_
        refine lv_lload hx hb dY_rounded_61 (lv_at hl 0 rfl) ?_
        refine lv_lmul hx hb dY_rounded_63 ?_
        refine lv_lload_n hx hb dY_rounded_64 rfl (lv_at hl 2 rfl) ?_
        refine W.lcmp hx hb dY_rounded_65 ?_
        refine lv_if_ne (tgt := 87) hx hb dY_rounded_66 (by decide) (fun c40 => ?_) (fun c40 => ?_)
        · refine lv_iload_n hx hb dY_rounded_87 rfl (lv_at hl 4 rfl) ?_
          refine lv_if_ge (tgt := 97) hx hb dY_rounded_88 (by decide) (fun cz => absurd cz c1) (fun _ => ?_)
          refine lv_lload hx hb dY_rounded_91 (lv_at hl 1 rfl) ?_
          refine lv_lneg hx hb dY_rounded_93 ?_
          refine lv_goto (tgt := 99) hx hb dY_rounded_94 (by decide) ?_
          exact W.lret (v := (-(((-(Int32.toInt64 p0)) / 1) * 1))) hx hb hr (fun tE ht hW => ⟨(-(((-(Int32.toInt64 p0)) / 1) * 1)), rfl, by simp only [fRnd, fMag, fRu, fRl, c1, eq_true c38, c39, c40, ↓reduceIte], ht⟩) (fun q h => by cases h) dY_rounded_99
        · refine lv_lload_n hx hb dY_rounded_69 rfl (lv_at hl 3 rfl) ?_
          refine lv_lload_n hx hb dY_rounded_70 rfl (lv_at hl 2 rfl) ?_
          refine lv_ldiv hx hb dY_rounded_71 (by decide) ?_
          refine lv_ldc2 (v := 2) hx hb hown (hty _ yk_107) dY_rounded_72 ?_
          refine lv_lrem hx hb dY_rounded_75 (by decide) ?_
          refine lv_lconst (v := 1) hx hb dY_rounded_76 rfl ?_
          refine W.lcmp hx hb dY_rounded_77 ?_
          refine lv_if_ne (tgt := 87) hx hb dY_rounded_78 (by decide) (fun c41 => ?_) (fun c41 => ?_)
          · refine lv_iload_n hx hb dY_rounded_87 rfl (lv_at hl 4 rfl) ?_
            refine lv_if_ge (tgt := 97) hx hb dY_rounded_88 (by decide) (fun cz => absurd cz c1) (fun _ => ?_)
            refine lv_lload hx hb dY_rounded_91 (lv_at hl 1 rfl) ?_
            refine lv_lneg hx hb dY_rounded_93 ?_
            refine lv_goto (tgt := 99) hx hb dY_rounded_94 (by decide) ?_
            exact W.lret (v := (-(((-(Int32.toInt64 p0)) / 1) * 1))) hx hb hr (fun tE ht hW => ⟨(-(((-(Int32.toInt64 p0)) / 1) * 1)), rfl, by simp only [fRnd, fMag, fRu, fRl, c1, eq_true c38, c39, eq_true c40, c41, ↓reduceIte], ht⟩) (fun q h => by cases h) dY_rounded_99
          · refine lv_lload hx hb dY_rounded_81 (lv_at hl 1 rfl) ?_
            refine lv_lload_n hx hb dY_rounded_83 rfl (lv_at hl 2 rfl) ?_
            refine lv_ladd hx hb dY_rounded_84 ?_
            refine lv_lstore (lv' := [(5, .long ((((-(Int32.toInt64 p0)) / 1) * 1) + 1)), (7, .long ((-(Int32.toInt64 p0)) - (((-(Int32.toInt64 p0)) / 1) * 1))), (3, .long 1), (1, .long (-(Int32.toInt64 p0))), (0, .int p0)]) hx hb dY_rounded_85 hl (by decide) rfl (fun ls hl => ?_)
            refine lv_iload_n hx hb dY_rounded_87 rfl (lv_at hl 4 rfl) ?_
            refine lv_if_ge (tgt := 97) hx hb dY_rounded_88 (by decide) (fun cz => absurd cz c1) (fun _ => ?_)
            refine lv_lload hx hb dY_rounded_91 (lv_at hl 0 rfl) ?_
            refine lv_lneg hx hb dY_rounded_93 ?_
            refine lv_goto (tgt := 99) hx hb dY_rounded_94 (by decide) ?_
            exact W.lret (v := (-((((-(Int32.toInt64 p0)) / 1) * 1) + 1))) hx hb hr (fun tE ht hW => ⟨(-((((-(Int32.toInt64 p0)) / 1) * 1) + 1)), rfl, by simp only [fRnd, fMag, fRu, fRl, c1, eq_true c38, c39, eq_true c40, eq_true c41, ↓reduceIte], ht⟩) (fun q h => by cases h) dY_rounded_99
    · refine lv_lload_n hx hb dY_rounded_25 rfl (lv_at hl 0 rfl) ?_
      refine lv_ldc2 (v := 2) hx hb hown (hty _ yk_107) dY_rounded_26 ?_
      refine lv_lmul hx hb dY_rounded_29 ?_
      refine lv_lstore_n (lv' := [(3, .long 2), (1, .long (-(Int32.toInt64 p0))), (0, .int p0)]) hx hb dY_rounded_30 rfl hl (by decide) rfl (fun ls hl => ?_)
      refine lv_goto (tgt := 15) hx hb dY_rounded_31 (by decide) ?_
      refine lv_lload_n hx hb dY_rounded_15 rfl (lv_at hl 1 rfl) ?_
      refine lv_lload_n hx hb dY_rounded_16 rfl (lv_at hl 0 rfl) ?_
      refine lv_ldiv hx hb dY_rounded_17 (by decide) ?_
      refine lv_ldc2 (v := 16777216) hx hb hown (hty _ yk_105) dY_rounded_18 ?_
      refine W.lcmp hx hb dY_rounded_21 ?_
      refine lv_if_lt (tgt := 34) hx hb dY_rounded_22 (by decide) (fun c42 => ?_) (fun c42 => ?_)
      · refine lv_lload_n hx hb dY_rounded_34 rfl (lv_at hl 1 rfl) ?_
        refine lv_lload_n hx hb dY_rounded_35 rfl (lv_at hl 0 rfl) ?_
        refine lv_ldiv hx hb dY_rounded_36 (by decide) ?_
        refine lv_lload_n hx hb dY_rounded_37 rfl (lv_at hl 0 rfl) ?_
        refine lv_lmul hx hb dY_rounded_38 ?_
        refine lv_lstore (lv' := [(5, .long (((-(Int32.toInt64 p0)) / 2) * 2)), (3, .long 2), (1, .long (-(Int32.toInt64 p0))), (0, .int p0)]) hx hb dY_rounded_39 hl (by decide) rfl (fun ls hl => ?_)
        refine lv_lload_n hx hb dY_rounded_41 rfl (lv_at hl 2 rfl) ?_
        refine lv_lload hx hb dY_rounded_42 (lv_at hl 0 rfl) ?_
        refine lv_lsub hx hb dY_rounded_44 ?_
        refine lv_lstore (lv' := [(7, .long ((-(Int32.toInt64 p0)) - (((-(Int32.toInt64 p0)) / 2) * 2))), (5, .long (((-(Int32.toInt64 p0)) / 2) * 2)), (3, .long 2), (1, .long (-(Int32.toInt64 p0))), (0, .int p0)]) hx hb dY_rounded_45 hl (by decide) rfl (fun ls hl => ?_)
        refine lv_ldc2 (v := 2) hx hb hown (hty _ yk_107) dY_rounded_47 ?_
        refine lv_lload hx hb dY_rounded_50 (lv_at hl 0 rfl) ?_
        refine lv_lmul hx hb dY_rounded_52 ?_
        refine lv_lload_n hx hb dY_rounded_53 rfl (lv_at hl 2 rfl) ?_
        refine W.lcmp hx hb dY_rounded_54 ?_
        refine lv_if_gt (tgt := 81) hx hb dY_rounded_55 (by decide) (fun c43 => ?_) (fun c43 => ?_)
        · refine lv_lload hx hb dY_rounded_81 (lv_at hl 1 rfl) ?_
          refine lv_lload_n hx hb dY_rounded_83 rfl (lv_at hl 2 rfl) ?_
          refine lv_ladd hx hb dY_rounded_84 ?_
          refine lv_lstore (lv' := [(5, .long ((((-(Int32.toInt64 p0)) / 2) * 2) + 2)), (7, .long ((-(Int32.toInt64 p0)) - (((-(Int32.toInt64 p0)) / 2) * 2))), (3, .long 2), (1, .long (-(Int32.toInt64 p0))), (0, .int p0)]) hx hb dY_rounded_85 hl (by decide) rfl (fun ls hl => ?_)
          refine lv_iload_n hx hb dY_rounded_87 rfl (lv_at hl 4 rfl) ?_
          refine lv_if_ge (tgt := 97) hx hb dY_rounded_88 (by decide) (fun cz => absurd cz c1) (fun _ => ?_)
          refine lv_lload hx hb dY_rounded_91 (lv_at hl 0 rfl) ?_
          refine lv_lneg hx hb dY_rounded_93 ?_
          refine lv_goto (tgt := 99) hx hb dY_rounded_94 (by decide) ?_
          exact W.lret (v := (-((((-(Int32.toInt64 p0)) / 2) * 2) + 2))) hx hb hr (fun tE ht hW => ⟨(-((((-(Int32.toInt64 p0)) / 2) * 2) + 2)), rfl, by simp only [fRnd, fMag, fRu, fRl, c1, c38, eq_true c42, eq_true c43, ↓reduceIte], ht⟩) (fun q h => by cases h) dY_rounded_99
        · refine lv_ldc2 (v := 2) hx hb hown (hty _ yk_107) dY_rounded_58 ?_
          refine lv_lload hx hb dY_rounded_61 (lv_at hl 0 rfl) ?_
          refine lv_lmul hx hb dY_rounded_63 ?_
          refine lv_lload_n hx hb dY_rounded_64 rfl (lv_at hl 2 rfl) ?_
          refine W.lcmp hx hb dY_rounded_65 ?_
          refine lv_if_ne (tgt := 87) hx hb dY_rounded_66 (by decide) (fun c44 => ?_) (fun c44 => ?_)
          · refine lv_iload_n hx hb dY_rounded_87 rfl (lv_at hl 4 rfl) ?_
            refine lv_if_ge (tgt := 97) hx hb dY_rounded_88 (by decide) (fun cz => absurd cz c1) (fun _ => ?_)
            refine lv_lload hx hb dY_rounded_91 (lv_at hl 1 rfl) ?_
            refine lv_lneg hx hb dY_rounded_93 ?_
            refine lv_goto (tgt := 99) hx hb dY_rounded_94 (by decide) ?_
            exact W.lret (v := (-(((-(Int32.toInt64 p0)) / 2) * 2))) hx hb hr (fun tE ht hW => ⟨(-(((-(Int32.toInt64 p0)) / 2) * 2)), rfl, by simp only [fRnd, fMag, fRu, fRl, c1, c38, eq_true c42, c43, c44, ↓reduceIte], ht⟩) (fun q h => by cases h) dY_rounded_99
          · refine lv_lload_n hx hb dY_rounded_69 rfl (lv_at hl 3 rfl) ?_
            refine lv_lload_n hx hb dY_rounded_70 rfl (lv_at hl 2 rfl) ?_
            refine lv_ldiv hx hb dY_rounded_71 (by decide) ?_
            refine lv_ldc2 (v := 2) hx hb hown (hty _ yk_107) dY_rounded_72 ?_
            refine lv_lrem hx hb dY_rounded_75 (by decide) ?_
            refine lv_lconst (v := 1) hx hb dY_rounded_76 rfl ?_
            refine W.lcmp hx hb dY_rounded_77 ?_
            refine lv_if_ne (tgt := 87) hx hb dY_rounded_78 (by decide) (fun c45 => ?_) (fun c45 => ?_)
            · refine lv_iload_n hx hb dY_rounded_87 rfl (lv_at hl 4 rfl) ?_
              refine lv_if_ge (tgt := 97) hx hb dY_rounded_88 (by decide) (fun cz => absurd cz c1) (fun _ => ?_)
              refine lv_lload hx hb dY_rounded_91 (lv_at hl 1 rfl) ?_
              refine lv_lneg hx hb dY_rounded_93 ?_
              refine lv_goto (tgt := 99) hx hb dY_rounded_94 (by decide) ?_
              exact W.lret (v := (-(((-(Int32.toInt64 p0)) / 2) * 2))) hx hb hr (fun tE ht hW => ⟨(-(((-(Int32.toInt64 p0)) / 2) * 2)), rfl, by simp only [fRnd, fMag, fRu, fRl, c1, c38, eq_true c42, c43, eq_true c44, c45, ↓reduceIte], ht⟩) (fun q h => by cases h) dY_rounded_99
            · refine lv_lload hx hb dY_rounded_81 (lv_at hl 1 rfl) ?_
              refine lv_lload_n hx hb dY_rounded_83 rfl (lv_at hl 2 rfl) ?_
              refine lv_ladd hx hb dY_rounded_84 ?_
              refine lv_lstore (lv' := [(5, .long ((((-(Int32.toInt64 p0)) / 2) * 2) + 2)), (7, .long ((-(Int32.toInt64 p0)) - (((-(Int32.toInt64 p0)) / 2) * 2))), (3, .long 2), (1, .long (-(Int32.toInt64 p0))), (0, .int p0)]) hx hb dY_rounded_85 hl (by decide) rfl (fun ls hl => ?_)
              refine lv_iload_n hx hb dY_rounded_87 rfl (lv_at hl 4 rfl) ?_
              refine lv_if_ge (tgt := 97) hx hb dY_rounded_88 (by decide) (fun cz => absurd cz c1) (fun _ => ?_)
              refine lv_lload hx hb dY_rounded_91 (lv_at hl 0 rfl) ?_
              refine lv_lneg hx hb dY_rounded_93 ?_
              refine lv_goto (tgt := 99) hx hb dY_rounded_94 (by decide) ?_
              exact W.lret (v := (-((((-(Int32.toInt64 p0)) / 2) * 2) + 2))) hx hb hr (fun tE ht hW => ⟨(-((((-(Int32.toInt64 p0)) / 2) * 2) + 2)), rfl, by simp only [fRnd, fMag, fRu, fRl, c1, c38, eq_true c42, c43, eq_true c44, eq_true c45, ↓reduceIte], ht⟩) (fun q h => by cases h) dY_rounded_99
      · refine lv_lload_n hx hb dY_rounded_25 rfl (lv_at hl 0 rfl) ?_
        refine lv_ldc2 (v := 2) hx hb hown (hty _ yk_107) dY_rounded_26 ?_
        refine lv_lmul hx hb dY_rounded_29 ?_
        refine lv_lstore_n (lv' := [(3, .long 4), (1, .long (-(Int32.toInt64 p0))), (0, .int p0)]) hx hb dY_rounded_30 rfl hl (by decide) rfl (fun ls hl => ?_)
        refine lv_goto (tgt := 15) hx hb dY_rounded_31 (by decide) ?_
        refine lv_lload_n hx hb dY_rounded_15 rfl (lv_at hl 1 rfl) ?_
        refine lv_lload_n hx hb dY_rounded_16 rfl (lv_at hl 0 rfl) ?_
        refine lv_ldiv hx hb dY_rounded_17 (by decide) ?_
        refine lv_ldc2 (v := 16777216) hx hb hown (hty _ yk_105) dY_rounded_18 ?_
        refine W.lcmp hx hb dY_rounded_21 ?_
        refine lv_if_lt (tgt := 34) hx hb dY_rounded_22 (by decide) (fun c46 => ?_) (fun c46 => ?_)
        · refine lv_lload_n hx hb dY_rounded_34 rfl (lv_at hl 1 rfl) ?_
          refine lv_lload_n hx hb dY_rounded_35 rfl (lv_at hl 0 rfl) ?_
          refine lv_ldiv hx hb dY_rounded_36 (by decide) ?_
          refine lv_lload_n hx hb dY_rounded_37 rfl (lv_at hl 0 rfl) ?_
          refine lv_lmul hx hb dY_rounded_38 ?_
          refine lv_lstore (lv' := [(5, .long (((-(Int32.toInt64 p0)) / 4) * 4)), (3, .long 4), (1, .long (-(Int32.toInt64 p0))), (0, .int p0)]) hx hb dY_rounded_39 hl (by decide) rfl (fun ls hl => ?_)
          refine lv_lload_n hx hb dY_rounded_41 rfl (lv_at hl 2 rfl) ?_
          refine lv_lload hx hb dY_rounded_42 (lv_at hl 0 rfl) ?_
          refine lv_lsub hx hb dY_rounded_44 ?_
          refine lv_lstore (lv' := [(7, .long ((-(Int32.toInt64 p0)) - (((-(Int32.toInt64 p0)) / 4) * 4))), (5, .long (((-(Int32.toInt64 p0)) / 4) * 4)), (3, .long 4), (1, .long (-(Int32.toInt64 p0))), (0, .int p0)]) hx hb dY_rounded_45 hl (by decide) rfl (fun ls hl => ?_)
          refine lv_ldc2 (v := 2) hx hb hown (hty _ yk_107) dY_rounded_47 ?_
          refine lv_lload hx hb dY_rounded_50 (lv_at hl 0 rfl) ?_
          refine lv_lmul hx hb dY_rounded_52 ?_
          refine lv_lload_n hx hb dY_rounded_53 rfl (lv_at hl 2 rfl) ?_
          refine W.lcmp hx hb dY_rounded_54 ?_
          refine lv_if_gt (tgt := 81) hx hb dY_rounded_55 (by decide) (fun c47 => ?_) (fun c47 => ?_)
          · refine lv_lload hx hb dY_rounded_81 (lv_at hl 1 rfl) ?_
            refine lv_lload_n hx hb dY_rounded_83 rfl (lv_at hl 2 rfl) ?_
            refine lv_ladd hx hb dY_rounded_84 ?_
            refine lv_lstore (lv' := [(5, .long ((((-(Int32.toInt64 p0)) / 4) * 4) + 4)), (7, .long ((-(Int32.toInt64 p0)) - (((-(Int32.toInt64 p0)) / 4) * 4))), (3, .long 4), (1, .long (-(Int32.toInt64 p0))), (0, .int p0)]) hx hb dY_rounded_85 hl (by decide) rfl (fun ls hl => ?_)
            refine lv_iload_n hx hb dY_rounded_87 rfl (lv_at hl 4 rfl) ?_
            refine lv_if_ge (tgt := 97) hx hb dY_rounded_88 (by decide) (fun cz => absurd cz c1) (fun _ => ?_)
            refine lv_lload hx hb dY_rounded_91 (lv_at hl 0 rfl) ?_
            refine lv_lneg hx hb dY_rounded_93 ?_
            refine lv_goto (tgt := 99) hx hb dY_rounded_94 (by decide) ?_
            exact W.lret (v := (-((((-(Int32.toInt64 p0)) / 4) * 4) + 4))) hx hb hr (fun tE ht hW => ⟨(-((((-(Int32.toInt64 p0)) / 4) * 4) + 4)), rfl, by simp only [fRnd, fMag, fRu, fRl, c1, c38, c42, eq_true c46, eq_true c47, ↓reduceIte], ht⟩) (fun q h => by cases h) dY_rounded_99
          · refine lv_ldc2 (v := 2) hx hb hown (hty _ yk_107) dY_rounded_58 ?_
            refine lv_lload hx hb dY_rounded_61 (lv_at hl 0 rfl) ?_
            refine lv_lmul hx hb dY_rounded_63 ?_
            refine lv_lload_n hx hb dY_rounded_64 rfl (lv_at hl 2 rfl) ?_
            refine W.lcmp hx hb dY_rounded_65 ?_
            refine lv_if_ne (tgt := 87) hx hb dY_rounded_66 (by decide) (fun c48 => ?_) (fun c48 => ?_)
            · refine lv_iload_n hx hb dY_rounded_87 rfl (lv_at hl 4 rfl) ?_
              refine lv_if_ge (tgt := 97) hx hb dY_rounded_88 (by decide) (fun cz => absurd cz c1) (fun _ => ?_)
              refine lv_lload hx hb dY_rounded_91 (lv_at hl 1 rfl) ?_
              refine lv_lneg hx hb dY_rounded_93 ?_
              refine lv_goto (tgt := 99) hx hb dY_rounded_94 (by decide) ?_
              exact W.lret (v := (-(((-(Int32.toInt64 p0)) / 4) * 4))) hx hb hr (fun tE ht hW => ⟨(-(((-(Int32.toInt64 p0)) / 4) * 4)), rfl, by simp only [fRnd, fMag, fRu, fRl, c1, c38, c42, eq_true c46, c47, c48, ↓reduceIte], ht⟩) (fun q h => by cases h) dY_rounded_99
            · refine lv_lload_n hx hb dY_rounded_69 rfl (lv_at hl 3 rfl) ?_
              refine lv_lload_n hx hb dY_rounded_70 rfl (lv_at hl 2 rfl) ?_
              refine lv_ldiv hx hb dY_rounded_71 (by decide) ?_
              refine lv_ldc2 (v := 2) hx hb hown (hty _ yk_107) dY_rounded_72 ?_
              refine lv_lrem hx hb dY_rounded_75 (by decide) ?_
              refine lv_lconst (v := 1) hx hb dY_rounded_76 rfl ?_
              refine W.lcmp hx hb dY_rounded_77 ?_
              refine lv_if_ne (tgt := 87) hx hb dY_rounded_78 (by decide) (fun c49 => ?_) (fun c49 => ?_)
              · refine lv_iload_n hx hb dY_rounded_87 rfl (lv_at hl 4 rfl) ?_
                refine lv_if_ge (tgt := 97) hx hb dY_rounded_88 (by decide) (fun cz => absurd cz c1) (fun _ => ?_)
                refine lv_lload hx hb dY_rounded_91 (lv_at hl 1 rfl) ?_
                refine lv_lneg hx hb dY_rounded_93 ?_
                refine lv_goto (tgt := 99) hx hb dY_rounded_94 (by decide) ?_
                exact W.lret (v := (-(((-(Int32.toInt64 p0)) / 4) * 4))) hx hb hr (fun tE ht hW => ⟨(-(((-(Int32.toInt64 p0)) / 4) * 4)), rfl, by simp only [fRnd, fMag, fRu, fRl, c1, c38, c42, eq_true c46, c47, eq_true c48, c49, ↓reduceIte], ht⟩) (fun q h => by cases h) dY_rounded_99
              · refine lv_lload hx hb dY_rounded_81 (lv_at hl 1 rfl) ?_
                refine lv_lload_n hx hb dY_rounded_83 rfl (lv_at hl 2 rfl) ?_
                refine lv_ladd hx hb dY_rounded_84 ?_
                refine lv_lstore (lv' := [(5, .long ((((-(Int32.toInt64 p0)) / 4) * 4) + 4)), (7, .long ((-(Int32.toInt64 p0)) - (((-(Int32.toInt64 p0)) / 4) * 4))), (3, .long 4), (1, .long (-(Int32.toInt64 p0))), (0, .int p0)]) hx hb dY_rounded_85 hl (by decide) rfl (fun ls hl => ?_)
                refine lv_iload_n hx hb dY_rounded_87 rfl (lv_at hl 4 rfl) ?_
                refine lv_if_ge (tgt := 97) hx hb dY_rounded_88 (by decide) (fun cz => absurd cz c1) (fun _ => ?_)
                refine lv_lload hx hb dY_rounded_91 (lv_at hl 0 rfl) ?_
                refine lv_lneg hx hb dY_rounded_93 ?_
                refine lv_goto (tgt := 99) hx hb dY_rounded_94 (by decide) ?_
                exact W.lret (v := (-((((-(Int32.toInt64 p0)) / 4) * 4) + 4))) hx hb hr (fun tE ht hW => ⟨(-((((-(Int32.toInt64 p0)) / 4) * 4) + 4)), rfl, by simp only [fRnd, fMag, fRu, fRl, c1, c38, c42, eq_true c46, c47, eq_true c48, eq_true c49, ↓reduceIte], ht⟩) (fun q h => by cases h) dY_rounded_99
        · refine lv_lload_n hx hb dY_rounded_25 rfl (lv_at hl 0 rfl) ?_
          refine lv_ldc2 (v := 2) hx hb hown (hty _ yk_107) dY_rounded_26 ?_
          refine lv_lmul hx hb dY_rounded_29 ?_
          refine lv_lstore_n (lv' := [(3, .long 8), (1, .long (-(Int32.toInt64 p0))), (0, .int p0)]) hx hb dY_rounded_30 rfl hl (by decide) rfl (fun ls hl => ?_)
          refine lv_goto (tgt := 15) hx hb dY_rounded_31 (by decide) ?_
          refine lv_lload_n hx hb dY_rounded_15 rfl (lv_at hl 1 rfl) ?_
          refine lv_lload_n hx hb dY_rounded_16 rfl (lv_at hl 0 rfl) ?_
          refine lv_ldiv hx hb dY_rounded_17 (by decide) ?_
          refine lv_ldc2 (v := 16777216) hx hb hown (hty _ yk_105) dY_rounded_18 ?_
          refine W.lcmp hx hb dY_rounded_21 ?_
          refine lv_if_lt (tgt := 34) hx hb dY_rounded_22 (by decide) (fun c50 => ?_) (fun c50 => ?_)
          · refine lv_lload_n hx hb dY_rounded_34 rfl (lv_at hl 1 rfl) ?_
            refine lv_lload_n hx hb dY_rounded_35 rfl (lv_at hl 0 rfl) ?_
            refine lv_ldiv hx hb dY_rounded_36 (by decide) ?_
            refine lv_lload_n hx hb dY_rounded_37 rfl (lv_at hl 0 rfl) ?_
            refine lv_lmul hx hb dY_rounded_38 ?_
            refine lv_lstore (lv' := [(5, .long (((-(Int32.toInt64 p0)) / 8) * 8)), (3, .long 8), (1, .long (-(Int32.toInt64 p0))), (0, .int p0)]) hx hb dY_rounded_39 hl (by decide) rfl (fun ls hl => ?_)
            refine lv_lload_n hx hb dY_rounded_41 rfl (lv_at hl 2 rfl) ?_
            refine lv_lload hx hb dY_rounded_42 (lv_at hl 0 rfl) ?_
            refine lv_lsub hx hb dY_rounded_44 ?_
            refine lv_lstore (lv' := [(7, .long ((-(Int32.toInt64 p0)) - (((-(Int32.toInt64 p0)) / 8) * 8))), (5, .long (((-(Int32.toInt64 p0)) / 8) * 8)), (3, .long 8), (1, .long (-(Int32.toInt64 p0))), (0, .int p0)]) hx hb dY_rounded_45 hl (by decide) rfl (fun ls hl => ?_)
            refine lv_ldc2 (v := 2) hx hb hown (hty _ yk_107) dY_rounded_47 ?_
            refine lv_lload hx hb dY_rounded_50 (lv_at hl 0 rfl) ?_
            refine lv_lmul hx hb dY_rounded_52 ?_
            refine lv_lload_n hx hb dY_rounded_53 rfl (lv_at hl 2 rfl) ?_
            refine W.lcmp hx hb dY_rounded_54 ?_
            refine lv_if_gt (tgt := 81) hx hb dY_rounded_55 (by decide) (fun c51 => ?_) (fun c51 => ?_)
            · refine lv_lload hx hb dY_rounded_81 (lv_at hl 1 rfl) ?_
              refine lv_lload_n hx hb dY_rounded_83 rfl (lv_at hl 2 rfl) ?_
              refine lv_ladd hx hb dY_rounded_84 ?_
              refine lv_lstore (lv' := [(5, .long ((((-(Int32.toInt64 p0)) / 8) * 8) + 8)), (7, .long ((-(Int32.toInt64 p0)) - (((-(Int32.toInt64 p0)) / 8) * 8))), (3, .long 8), (1, .long (-(Int32.toInt64 p0))), (0, .int p0)]) hx hb dY_rounded_85 hl (by decide) rfl (fun ls hl => ?_)
              refine lv_iload_n hx hb dY_rounded_87 rfl (lv_at hl 4 rfl) ?_
              refine lv_if_ge (tgt := 97) hx hb dY_rounded_88 (by decide) (fun cz => absurd cz c1) (fun _ => ?_)
              refine lv_lload hx hb dY_rounded_91 (lv_at hl 0 rfl) ?_
              refine lv_lneg hx hb dY_rounded_93 ?_
              refine lv_goto (tgt := 99) hx hb dY_rounded_94 (by decide) ?_
              exact W.lret (v := (-((((-(Int32.toInt64 p0)) / 8) * 8) + 8))) hx hb hr (fun tE ht hW => ⟨(-((((-(Int32.toInt64 p0)) / 8) * 8) + 8)), rfl, by simp only [fRnd, fMag, fRu, fRl, c1, c38, c42, c46, eq_true c50, eq_true c51, ↓reduceIte], ht⟩) (fun q h => by cases h) dY_rounded_99
            · refine lv_ldc2 (v := 2) hx hb hown (hty _ yk_107) dY_rounded_58 ?_
              refine lv_lload hx hb dY_rounded_61 (lv_at hl 0 rfl) ?_
              refine lv_lmul hx hb dY_rounded_63 ?_
              refine lv_lload_n hx hb dY_rounded_64 rfl (lv_at hl 2 rfl) ?_
              refine W.lcmp hx hb dY_rounded_65 ?_
              refine lv_if_ne (tgt := 87) hx hb dY_rounded_66 (by decide) (fun c52 => ?_) (fun c52 => ?_)
              · refine lv_iload_n hx hb dY_rounded_87 rfl (lv_at hl 4 rfl) ?_
                refine lv_if_ge (tgt := 97) hx hb dY_rounded_88 (by decide) (fun cz => absurd cz c1) (fun _ => ?_)
                refine lv_lload hx hb dY_rounded_91 (lv_at hl 1 rfl) ?_
                refine lv_lneg hx hb dY_rounded_93 ?_
                refine lv_goto (tgt := 99) hx hb dY_rounded_94 (by decide) ?_
                exact W.lret (v := (-(((-(Int32.toInt64 p0)) / 8) * 8))) hx hb hr (fun tE ht hW => ⟨(-(((-(Int32.toInt64 p0)) / 8) * 8)), rfl, by simp only [fRnd, fMag, fRu, fRl, c1, c38, c42, c46, eq_true c50, c51, c52, ↓reduceIte], ht⟩) (fun q h => by cases h) dY_rounded_99
              · refine lv_lload_n hx hb dY_rounded_69 rfl (lv_at hl 3 rfl) ?_
                refine lv_lload_n hx hb dY_rounded_70 rfl (lv_at hl 2 rfl) ?_
                refine lv_ldiv hx hb dY_rounded_71 (by decide) ?_
                refine lv_ldc2 (v := 2) hx hb hown (hty _ yk_107) dY_rounded_72 ?_
                refine lv_lrem hx hb dY_rounded_75 (by decide) ?_
                refine lv_lconst (v := 1) hx hb dY_rounded_76 rfl ?_
                refine W.lcmp hx hb dY_rounded_77 ?_
                refine lv_if_ne (tgt := 87) hx hb dY_rounded_78 (by decide) (fun c53 => ?_) (fun c53 => ?_)
                · refine lv_iload_n hx hb dY_rounded_87 rfl (lv_at hl 4 rfl) ?_
                  refine lv_if_ge (tgt := 97) hx hb dY_rounded_88 (by decide) (fun cz => absurd cz c1) (fun _ => ?_)
                  refine lv_lload hx hb dY_rounded_91 (lv_at hl 1 rfl) ?_
                  refine lv_lneg hx hb dY_rounded_93 ?_
                  refine lv_goto (tgt := 99) hx hb dY_rounded_94 (by decide) ?_
                  exact W.lret (v := (-(((-(Int32.toInt64 p0)) / 8) * 8))) hx hb hr (fun tE ht hW => ⟨(-(((-(Int32.toInt64 p0)) / 8) * 8)), rfl, by simp only [fRnd, fMag, fRu, fRl, c1, c38, c42, c46, eq_true c50, c51, eq_true c52, c53, ↓reduceIte], ht⟩) (fun q h => by cases h) dY_rounded_99
                · refine lv_lload hx hb dY_rounded_81 (lv_at hl 1 rfl) ?_
                  refine lv_lload_n hx hb dY_rounded_83 rfl (lv_at hl 2 rfl) ?_
                  refine lv_ladd hx hb dY_rounded_84 ?_
                  refine lv_lstore (lv' := [(5, .long ((((-(Int32.toInt64 p0)) / 8) * 8) + 8)), (7, .long ((-(Int32.toInt64 p0)) - (((-(Int32.toInt64 p0)) / 8) * 8))), (3, .long 8), (1, .long (-(Int32.toInt64 p0))), (0, .int p0)]) hx hb dY_rounded_85 hl (by decide) rfl (fun ls hl => ?_)
                  refine lv_iload_n hx hb dY_rounded_87 rfl (lv_at hl 4 rfl) ?_
                  refine lv_if_ge (tgt := 97) hx hb dY_rounded_88 (by decide) (fun cz => absurd cz c1) (fun _ => ?_)
                  refine lv_lload hx hb dY_rounded_91 (lv_at hl 0 rfl) ?_
                  refine lv_lneg hx hb dY_rounded_93 ?_
                  refine lv_goto (tgt := 99) hx hb dY_rounded_94 (by decide) ?_
                  exact W.lret (v := (-((((-(Int32.toInt64 p0)) / 8) * 8) + 8))) hx hb hr (fun tE ht hW => ⟨(-((((-(Int32.toInt64 p0)) / 8) * 8) + 8)), rfl, by simp only [fRnd, fMag, fRu, fRl, c1, c38, c42, c46, eq_true c50, c51, eq_true c52, eq_true c53, ↓reduceIte], ht⟩) (fun q h => by cases h) dY_rounded_99
          · refine lv_lload_n hx hb dY_rounded_25 rfl (lv_at hl 0 rfl) ?_
            refine lv_ldc2 (v := 2) hx hb hown (hty _ yk_107) dY_rounded_26 ?_
            refine lv_lmul hx hb dY_rounded_29 ?_
            refine lv_lstore_n (lv' := [(3, .long 16), (1, .long (-(Int32.toInt64 p0))), (0, .int p0)]) hx hb dY_rounded_30 rfl hl (by decide) rfl (fun ls hl => ?_)
            refine lv_goto (tgt := 15) hx hb dY_rounded_31 (by decide) ?_
            refine lv_lload_n hx hb dY_rounded_15 rfl (lv_at hl 1 rfl) ?_
            refine lv_lload_n hx hb dY_rounded_16 rfl (lv_at hl 0 rfl) ?_
            refine lv_ldiv hx hb dY_rounded_17 (by decide) ?_
            refine lv_ldc2 (v := 16777216) hx hb hown (hty _ yk_105) dY_rounded_18 ?_
            refine W.lcmp hx hb dY_rounded_21 ?_
            refine lv_if_lt (tgt := 34) hx hb dY_rounded_22 (by decide) (fun c54 => ?_) (fun c54 => ?_)
            · refine lv_lload_n hx hb dY_rounded_34 rfl (lv_at hl 1 rfl) ?_
              refine lv_lload_n hx hb dY_rounded_35 rfl (lv_at hl 0 rfl) ?_
              refine lv_ldiv hx hb dY_rounded_36 (by decide) ?_
              refine lv_lload_n hx hb dY_rounded_37 rfl (lv_at hl 0 rfl) ?_
              refine lv_lmul hx hb dY_rounded_38 ?_
              refine lv_lstore (lv' := [(5, .long (((-(Int32.toInt64 p0)) / 16) * 16)), (3, .long 16), (1, .long (-(Int32.toInt64 p0))), (0, .int p0)]) hx hb dY_rounded_39 hl (by decide) rfl (fun ls hl => ?_)
              refine lv_lload_n hx hb dY_rounded_41 rfl (lv_at hl 2 rfl) ?_
              refine lv_lload hx hb dY_rounded_42 (lv_at hl 0 rfl) ?_
              refine lv_lsub hx hb dY_rounded_44 ?_
              refine lv_lstore (lv' := [(7, .long ((-(Int32.toInt64 p0)) - (((-(Int32.toInt64 p0)) / 16) * 16))), (5, .long (((-(Int32.toInt64 p0)) / 16) * 16)), (3, .long 16), (1, .long (-(Int32.toInt64 p0))), (0, .int p0)]) hx hb dY_rounded_45 hl (by decide) rfl (fun ls hl => ?_)
              refine lv_ldc2 (v := 2) hx hb hown (hty _ yk_107) dY_rounded_47 ?_
              refine lv_lload hx hb dY_rounded_50 (lv_at hl 0 rfl) ?_
              refine lv_lmul hx hb dY_rounded_52 ?_
              refine lv_lload_n hx hb dY_rounded_53 rfl (lv_at hl 2 rfl) ?_
              refine W.lcmp hx hb dY_rounded_54 ?_
              refine lv_if_gt (tgt := 81) hx hb dY_rounded_55 (by decide) (fun c55 => ?_) (fun c55 => ?_)
              · refine lv_lload hx hb dY_rounded_81 (lv_at hl 1 rfl) ?_
                refine lv_lload_n hx hb dY_rounded_83 rfl (lv_at hl 2 rfl) ?_
                refine lv_ladd hx hb dY_rounded_84 ?_
                refine lv_lstore (lv' := [(5, .long ((((-(Int32.toInt64 p0)) / 16) * 16) + 16)), (7, .long ((-(Int32.toInt64 p0)) - (((-(Int32.toInt64 p0)) / 16) * 16))), (3, .long 16), (1, .long (-(Int32.toInt64 p0))), (0, .int p0)]) hx hb dY_rounded_85 hl (by decide) rfl (fun ls hl => ?_)
                refine lv_iload_n hx hb dY_rounded_87 rfl (lv_at hl 4 rfl) ?_
                refine lv_if_ge (tgt := 97) hx hb dY_rounded_88 (by decide) (fun cz => absurd cz c1) (fun _ => ?_)
                refine lv_lload hx hb dY_rounded_91 (lv_at hl 0 rfl) ?_
                refine lv_lneg hx hb dY_rounded_93 ?_
                refine lv_goto (tgt := 99) hx hb dY_rounded_94 (by decide) ?_
                exact W.lret (v := (-((((-(Int32.toInt64 p0)) / 16) * 16) + 16))) hx hb hr (fun tE ht hW => ⟨(-((((-(Int32.toInt64 p0)) / 16) * 16) + 16)), rfl, by simp only [fRnd, fMag, fRu, fRl, c1, c38, c42, c46, c50, eq_true c54, eq_true c55, ↓reduceIte], ht⟩) (fun q h => by cases h) dY_rounded_99
              · refine lv_ldc2 (v := 2) hx hb hown (hty _ yk_107) dY_rounded_58 ?_
                refine lv_lload hx hb dY_rounded_61 (lv_at hl 0 rfl) ?_
                refine lv_lmul hx hb dY_rounded_63 ?_
                refine lv_lload_n hx hb dY_rounded_64 rfl (lv_at hl 2 rfl) ?_
                refine W.lcmp hx hb dY_rounded_65 ?_
                refine lv_if_ne (tgt := 87) hx hb dY_rounded_66 (by decide) (fun c56 => ?_) (fun c56 => ?_)
                · refine lv_iload_n hx hb dY_rounded_87 rfl (lv_at hl 4 rfl) ?_
                  refine lv_if_ge (tgt := 97) hx hb dY_rounded_88 (by decide) (fun cz => absurd cz c1) (fun _ => ?_)
                  refine lv_lload hx hb dY_rounded_91 (lv_at hl 1 rfl) ?_
                  refine lv_lneg hx hb dY_rounded_93 ?_
                  refine lv_goto (tgt := 99) hx hb dY_rounded_94 (by decide) ?_
                  exact W.lret (v := (-(((-(Int32.toInt64 p0)) / 16) * 16))) hx hb hr (fun tE ht hW => ⟨(-(((-(Int32.toInt64 p0)) / 16) * 16)), rfl, by simp only [fRnd, fMag, fRu, fRl, c1, c38, c42, c46, c50, eq_true c54, c55, c56, ↓reduceIte], ht⟩) (fun q h => by cases h) dY_rounded_99
                · refine lv_lload_n hx hb dY_rounded_69 rfl (lv_at hl 3 rfl) ?_
                  refine lv_lload_n hx hb dY_rounded_70 rfl (lv_at hl 2 rfl) ?_
                  refine lv_ldiv hx hb dY_rounded_71 (by decide) ?_
                  refine lv_ldc2 (v := 2) hx hb hown (hty _ yk_107) dY_rounded_72 ?_
                  refine lv_lrem hx hb dY_rounded_75 (by decide) ?_
                  refine lv_lconst (v := 1) hx hb dY_rounded_76 rfl ?_
                  refine W.lcmp hx hb dY_rounded_77 ?_
                  refine lv_if_ne (tgt := 87) hx hb dY_rounded_78 (by decide) (fun c57 => ?_) (fun c57 => ?_)
                  · refine lv_iload_n hx hb dY_rounded_87 rfl (lv_at hl 4 rfl) ?_
                    refine lv_if_ge (tgt := 97) hx hb dY_rounded_88 (by decide) (fun cz => absurd cz c1) (fun _ => ?_)
                    refine lv_lload hx hb dY_rounded_91 (lv_at hl 1 rfl) ?_
                    refine lv_lneg hx hb dY_rounded_93 ?_
                    refine lv_goto (tgt := 99) hx hb dY_rounded_94 (by decide) ?_
                    exact W.lret (v := (-(((-(Int32.toInt64 p0)) / 16) * 16))) hx hb hr (fun tE ht hW => ⟨(-(((-(Int32.toInt64 p0)) / 16) * 16)), rfl, by simp only [fRnd, fMag, fRu, fRl, c1, c38, c42, c46, c50, eq_true c54, c55, eq_true c56, c57, ↓reduceIte], ht⟩) (fun q h => by cases h) dY_rounded_99
                  · refine lv_lload hx hb dY_rounded_81 (lv_at hl 1 rfl) ?_
                    refine lv_lload_n hx hb dY_rounded_83 rfl (lv_at hl 2 rfl) ?_
                    refine lv_ladd hx hb dY_rounded_84 ?_
                    refine lv_lstore (lv' := [(5, .long ((((-(Int32.toInt64 p0)) / 16) * 16) + 16)), (7, .long ((-(Int32.toInt64 p0)) - (((-(Int32.toInt64 p0)) / 16) * 16))), (3, .long 16), (1, .long (-(Int32.toInt64 p0))), (0, .int p0)]) hx hb dY_rounded_85 hl (by decide) rfl (fun ls hl => ?_)
                    refine lv_iload_n hx hb dY_rounded_87 rfl (lv_at hl 4 rfl) ?_
                    refine lv_if_ge (tgt := 97) hx hb dY_rounded_88 (by decide) (fun cz => absurd cz c1) (fun _ => ?_)
                    refine lv_lload hx hb dY_rounded_91 (lv_at hl 0 rfl) ?_
                    refine lv_lneg hx hb dY_rounded_93 ?_
                    refine lv_goto (tgt := 99) hx hb dY_rounded_94 (by decide) ?_
                    exact W.lret (v := (-((((-(Int32.toInt64 p0)) / 16) * 16) + 16))) hx hb hr (fun tE ht hW => ⟨(-((((-(Int32.toInt64 p0)) / 16) * 16) + 16)), rfl, by simp only [fRnd, fMag, fRu, fRl, c1, c38, c42, c46, c50, eq_true c54, c55, eq_true c56, eq_true c57, ↓reduceIte], ht⟩) (fun q h => by cases h) dY_rounded_99
            · refine lv_lload_n hx hb dY_rounded_25 rfl (lv_at hl 0 rfl) ?_
              refine lv_ldc2 (v := 2) hx hb hown (hty _ yk_107) dY_rounded_26 ?_
              refine lv_lmul hx hb dY_rounded_29 ?_
              refine lv_lstore_n (lv' := [(3, .long 32), (1, .long (-(Int32.toInt64 p0))), (0, .int p0)]) hx hb dY_rounded_30 rfl hl (by decide) rfl (fun ls hl => ?_)
              refine lv_goto (tgt := 15) hx hb dY_rounded_31 (by decide) ?_
              refine lv_lload_n hx hb dY_rounded_15 rfl (lv_at hl 1 rfl) ?_
              refine lv_lload_n hx hb dY_rounded_16 rfl (lv_at hl 0 rfl) ?_
              refine lv_ldiv hx hb dY_rounded_17 (by decide) ?_
              refine lv_ldc2 (v := 16777216) hx hb hown (hty _ yk_105) dY_rounded_18 ?_
              refine W.lcmp hx hb dY_rounded_21 ?_
              refine lv_if_lt (tgt := 34) hx hb dY_rounded_22 (by decide) (fun c58 => ?_) (fun c58 => ?_)
              · refine lv_lload_n hx hb dY_rounded_34 rfl (lv_at hl 1 rfl) ?_
                refine lv_lload_n hx hb dY_rounded_35 rfl (lv_at hl 0 rfl) ?_
                refine lv_ldiv hx hb dY_rounded_36 (by decide) ?_
                refine lv_lload_n hx hb dY_rounded_37 rfl (lv_at hl 0 rfl) ?_
                refine lv_lmul hx hb dY_rounded_38 ?_
                refine lv_lstore (lv' := [(5, .long (((-(Int32.toInt64 p0)) / 32) * 32)), (3, .long 32), (1, .long (-(Int32.toInt64 p0))), (0, .int p0)]) hx hb dY_rounded_39 hl (by decide) rfl (fun ls hl => ?_)
                refine lv_lload_n hx hb dY_rounded_41 rfl (lv_at hl 2 rfl) ?_
                refine lv_lload hx hb dY_rounded_42 (lv_at hl 0 rfl) ?_
                refine lv_lsub hx hb dY_rounded_44 ?_
                refine lv_lstore (lv' := [(7, .long ((-(Int32.toInt64 p0)) - (((-(Int32.toInt64 p0)) / 32) * 32))), (5, .long (((-(Int32.toInt64 p0)) / 32) * 32)), (3, .long 32), (1, .long (-(Int32.toInt64 p0))), (0, .int p0)]) hx hb dY_rounded_45 hl (by decide) rfl (fun ls hl => ?_)
                refine lv_ldc2 (v := 2) hx hb hown (hty _ yk_107) dY_rounded_47 ?_
                refine lv_lload hx hb dY_rounded_50 (lv_at hl 0 rfl) ?_
                refine lv_lmul hx hb dY_rounded_52 ?_
                refine lv_lload_n hx hb dY_rounded_53 rfl (lv_at hl 2 rfl) ?_
                refine W.lcmp hx hb dY_rounded_54 ?_
                refine lv_if_gt (tgt := 81) hx hb dY_rounded_55 (by decide) (fun c59 => ?_) (fun c59 => ?_)
                · refine lv_lload hx hb dY_rounded_81 (lv_at hl 1 rfl) ?_
                  refine lv_lload_n hx hb dY_rounded_83 rfl (lv_at hl 2 rfl) ?_
                  refine lv_ladd hx hb dY_rounded_84 ?_
                  refine lv_lstore (lv' := [(5, .long ((((-(Int32.toInt64 p0)) / 32) * 32) + 32)), (7, .long ((-(Int32.toInt64 p0)) - (((-(Int32.toInt64 p0)) / 32) * 32))), (3, .long 32), (1, .long (-(Int32.toInt64 p0))), (0, .int p0)]) hx hb dY_rounded_85 hl (by decide) rfl (fun ls hl => ?_)
                  refine lv_iload_n hx hb dY_rounded_87 rfl (lv_at hl 4 rfl) ?_
                  refine lv_if_ge (tgt := 97) hx hb dY_rounded_88 (by decide) (fun cz => absurd cz c1) (fun _ => ?_)
                  refine lv_lload hx hb dY_rounded_91 (lv_at hl 0 rfl) ?_
                  refine lv_lneg hx hb dY_rounded_93 ?_
                  refine lv_goto (tgt := 99) hx hb dY_rounded_94 (by decide) ?_
                  exact W.lret (v := (-((((-(Int32.toInt64 p0)) / 32) * 32) + 32))) hx hb hr (fun tE ht hW => ⟨(-((((-(Int32.toInt64 p0)) / 32) * 32) + 32)), rfl, by simp only [fRnd, fMag, fRu, fRl, c1, c38, c42, c46, c50, c54, eq_true c58, eq_true c59, ↓reduceIte], ht⟩) (fun q h => by cases h) dY_rounded_99
                · refine lv_ldc2 (v := 2) hx hb hown (hty _ yk_107) dY_rounded_58 ?_
                  refine lv_lload hx hb dY_rounded_61 (lv_at hl 0 rfl) ?_
                  refine lv_lmul hx hb dY_rounded_63 ?_
                  refine lv_lload_n hx hb dY_rounded_64 rfl (lv_at hl 2 rfl) ?_
                  refine W.lcmp hx hb dY_rounded_65 ?_
                  refine lv_if_ne (tgt := 87) hx hb dY_rounded_66 (by decide) (fun c60 => ?_) (fun c60 => ?_)
                  · refine lv_iload_n hx hb dY_rounded_87 rfl (lv_at hl 4 rfl) ?_
                    refine lv_if_ge (tgt := 97) hx hb dY_rounded_88 (by decide) (fun cz => absurd cz c1) (fun _ => ?_)
                    refine lv_lload hx hb dY_rounded_91 (lv_at hl 1 rfl) ?_
                    refine lv_lneg hx hb dY_rounded_93 ?_
                    refine lv_goto (tgt := 99) hx hb dY_rounded_94 (by decide) ?_
                    exact W.lret (v := (-(((-(Int32.toInt64 p0)) / 32) * 32))) hx hb hr (fun tE ht hW => ⟨(-(((-(Int32.toInt64 p0)) / 32) * 32)), rfl, by simp only [fRnd, fMag, fRu, fRl, c1, c38, c42, c46, c50, c54, eq_true c58, c59, c60, ↓reduceIte], ht⟩) (fun q h => by cases h) dY_rounded_99
                  · refine lv_lload_n hx hb dY_rounded_69 rfl (lv_at hl 3 rfl) ?_
                    refine lv_lload_n hx hb dY_rounded_70 rfl (lv_at hl 2 rfl) ?_
                    refine lv_ldiv hx hb dY_rounded_71 (by decide) ?_
                    refine lv_ldc2 (v := 2) hx hb hown (hty _ yk_107) dY_rounded_72 ?_
                    refine lv_lrem hx hb dY_rounded_75 (by decide) ?_
                    refine lv_lconst (v := 1) hx hb dY_rounded_76 rfl ?_
                    refine W.lcmp hx hb dY_rounded_77 ?_
                    refine lv_if_ne (tgt := 87) hx hb dY_rounded_78 (by decide) (fun c61 => ?_) (fun c61 => ?_)
                    · refine lv_iload_n hx hb dY_rounded_87 rfl (lv_at hl 4 rfl) ?_
                      refine lv_if_ge (tgt := 97) hx hb dY_rounded_88 (by decide) (fun cz => absurd cz c1) (fun _ => ?_)
                      refine lv_lload hx hb dY_rounded_91 (lv_at hl 1 rfl) ?_
                      refine lv_lneg hx hb dY_rounded_93 ?_
                      refine lv_goto (tgt := 99) hx hb dY_rounded_94 (by decide) ?_
                      exact W.lret (v := (-(((-(Int32.toInt64 p0)) / 32) * 32))) hx hb hr (fun tE ht hW => ⟨(-(((-(Int32.toInt64 p0)) / 32) * 32)), rfl, by simp only [fRnd, fMag, fRu, fRl, c1, c38, c42, c46, c50, c54, eq_true c58, c59, eq_true c60, c61, ↓reduceIte], ht⟩) (fun q h => by cases h) dY_rounded_99
                    · refine lv_lload hx hb dY_rounded_81 (lv_at hl 1 rfl) ?_
                      refine lv_lload_n hx hb dY_rounded_83 rfl (lv_at hl 2 rfl) ?_
                      refine lv_ladd hx hb dY_rounded_84 ?_
                      refine lv_lstore (lv' := [(5, .long ((((-(Int32.toInt64 p0)) / 32) * 32) + 32)), (7, .long ((-(Int32.toInt64 p0)) - (((-(Int32.toInt64 p0)) / 32) * 32))), (3, .long 32), (1, .long (-(Int32.toInt64 p0))), (0, .int p0)]) hx hb dY_rounded_85 hl (by decide) rfl (fun ls hl => ?_)
                      refine lv_iload_n hx hb dY_rounded_87 rfl (lv_at hl 4 rfl) ?_
                      refine lv_if_ge (tgt := 97) hx hb dY_rounded_88 (by decide) (fun cz => absurd cz c1) (fun _ => ?_)
                      refine lv_lload hx hb dY_rounded_91 (lv_at hl 0 rfl) ?_
                      refine lv_lneg hx hb dY_rounded_93 ?_
                      refine lv_goto (tgt := 99) hx hb dY_rounded_94 (by decide) ?_
                      exact W.lret (v := (-((((-(Int32.toInt64 p0)) / 32) * 32) + 32))) hx hb hr (fun tE ht hW => ⟨(-((((-(Int32.toInt64 p0)) / 32) * 32) + 32)), rfl, by simp only [fRnd, fMag, fRu, fRl, c1, c38, c42, c46, c50, c54, eq_true c58, c59, eq_true c60, eq_true c61, ↓reduceIte], ht⟩) (fun q h => by cases h) dY_rounded_99
              · refine lv_lload_n hx hb dY_rounded_25 rfl (lv_at hl 0 rfl) ?_
                refine lv_ldc2 (v := 2) hx hb hown (hty _ yk_107) dY_rounded_26 ?_
                refine lv_lmul hx hb dY_rounded_29 ?_
                refine lv_lstore_n (lv' := [(3, .long 64), (1, .long (-(Int32.toInt64 p0))), (0, .int p0)]) hx hb dY_rounded_30 rfl hl (by decide) rfl (fun ls hl => ?_)
                refine lv_goto (tgt := 15) hx hb dY_rounded_31 (by decide) ?_
                refine lv_lload_n hx hb dY_rounded_15 rfl (lv_at hl 1 rfl) ?_
                refine lv_lload_n hx hb dY_rounded_16 rfl (lv_at hl 0 rfl) ?_
                refine lv_ldiv hx hb dY_rounded_17 (by decide) ?_
                refine lv_ldc2 (v := 16777216) hx hb hown (hty _ yk_105) dY_rounded_18 ?_
                refine W.lcmp hx hb dY_rounded_21 ?_
                refine lv_if_lt (tgt := 34) hx hb dY_rounded_22 (by decide) (fun c62 => ?_) (fun c62 => ?_)
                · refine lv_lload_n hx hb dY_rounded_34 rfl (lv_at hl 1 rfl) ?_
                  refine lv_lload_n hx hb dY_rounded_35 rfl (lv_at hl 0 rfl) ?_
                  refine lv_ldiv hx hb dY_rounded_36 (by decide) ?_
                  refine lv_lload_n hx hb dY_rounded_37 rfl (lv_at hl 0 rfl) ?_
                  refine lv_lmul hx hb dY_rounded_38 ?_
                  refine lv_lstore (lv' := [(5, .long (((-(Int32.toInt64 p0)) / 64) * 64)), (3, .long 64), (1, .long (-(Int32.toInt64 p0))), (0, .int p0)]) hx hb dY_rounded_39 hl (by decide) rfl (fun ls hl => ?_)
                  refine lv_lload_n hx hb dY_rounded_41 rfl (lv_at hl 2 rfl) ?_
                  refine lv_lload hx hb dY_rounded_42 (lv_at hl 0 rfl) ?_
                  refine lv_lsub hx hb dY_rounded_44 ?_
                  refine lv_lstore (lv' := [(7, .long ((-(Int32.toInt64 p0)) - (((-(Int32.toInt64 p0)) / 64) * 64))), (5, .long (((-(Int32.toInt64 p0)) / 64) * 64)), (3, .long 64), (1, .long (-(Int32.toInt64 p0))), (0, .int p0)]) hx hb dY_rounded_45 hl (by decide) rfl (fun ls hl => ?_)
                  refine lv_ldc2 (v := 2) hx hb hown (hty _ yk_107) dY_rounded_47 ?_
                  refine lv_lload hx hb dY_rounded_50 (lv_at hl 0 rfl) ?_
                  refine lv_lmul hx hb dY_rounded_52 ?_
                  refine lv_lload_n hx hb dY_rounded_53 rfl (lv_at hl 2 rfl) ?_
                  refine W.lcmp hx hb dY_rounded_54 ?_
                  refine lv_if_gt (tgt := 81) hx hb dY_rounded_55 (by decide) (fun c63 => ?_) (fun c63 => ?_)
                  · refine lv_lload hx hb dY_rounded_81 (lv_at hl 1 rfl) ?_
                    refine lv_lload_n hx hb dY_rounded_83 rfl (lv_at hl 2 rfl) ?_
                    refine lv_ladd hx hb dY_rounded_84 ?_
                    refine lv_lstore (lv' := [(5, .long ((((-(Int32.toInt64 p0)) / 64) * 64) + 64)), (7, .long ((-(Int32.toInt64 p0)) - (((-(Int32.toInt64 p0)) / 64) * 64))), (3, .long 64), (1, .long (-(Int32.toInt64 p0))), (0, .int p0)]) hx hb dY_rounded_85 hl (by decide) rfl (fun ls hl => ?_)
                    refine lv_iload_n hx hb dY_rounded_87 rfl (lv_at hl 4 rfl) ?_
                    refine lv_if_ge (tgt := 97) hx hb dY_rounded_88 (by decide) (fun cz => absurd cz c1) (fun _ => ?_)
                    refine lv_lload hx hb dY_rounded_91 (lv_at hl 0 rfl) ?_
                    refine lv_lneg hx hb dY_rounded_93 ?_
                    refine lv_goto (tgt := 99) hx hb dY_rounded_94 (by decide) ?_
                    exact W.lret (v := (-((((-(Int32.toInt64 p0)) / 64) * 64) + 64))) hx hb hr (fun tE ht hW => ⟨(-((((-(Int32.toInt64 p0)) / 64) * 64) + 64)), rfl, by simp only [fRnd, fMag, fRu, fRl, c1, c38, c42, c46, c50, c54, c58, eq_true c62, eq_true c63, ↓reduceIte], ht⟩) (fun q h => by cases h) dY_rounded_99
                  · refine lv_ldc2 (v := 2) hx hb hown (hty _ yk_107) dY_rounded_58 ?_
                    refine lv_lload hx hb dY_rounded_61 (lv_at hl 0 rfl) ?_
                    refine lv_lmul hx hb dY_rounded_63 ?_
                    refine lv_lload_n hx hb dY_rounded_64 rfl (lv_at hl 2 rfl) ?_
                    refine W.lcmp hx hb dY_rounded_65 ?_
                    refine lv_if_ne (tgt := 87) hx hb dY_rounded_66 (by decide) (fun c64 => ?_) (fun c64 => ?_)
                    · refine lv_iload_n hx hb dY_rounded_87 rfl (lv_at hl 4 rfl) ?_
                      refine lv_if_ge (tgt := 97) hx hb dY_rounded_88 (by decide) (fun cz => absurd cz c1) (fun _ => ?_)
                      refine lv_lload hx hb dY_rounded_91 (lv_at hl 1 rfl) ?_
                      refine lv_lneg hx hb dY_rounded_93 ?_
                      refine lv_goto (tgt := 99) hx hb dY_rounded_94 (by decide) ?_
                      exact W.lret (v := (-(((-(Int32.toInt64 p0)) / 64) * 64))) hx hb hr (fun tE ht hW => ⟨(-(((-(Int32.toInt64 p0)) / 64) * 64)), rfl, by simp only [fRnd, fMag, fRu, fRl, c1, c38, c42, c46, c50, c54, c58, eq_true c62, c63, c64, ↓reduceIte], ht⟩) (fun q h => by cases h) dY_rounded_99
                    · refine lv_lload_n hx hb dY_rounded_69 rfl (lv_at hl 3 rfl) ?_
                      refine lv_lload_n hx hb dY_rounded_70 rfl (lv_at hl 2 rfl) ?_
                      refine lv_ldiv hx hb dY_rounded_71 (by decide) ?_
                      refine lv_ldc2 (v := 2) hx hb hown (hty _ yk_107) dY_rounded_72 ?_
                      refine lv_lrem hx hb dY_rounded_75 (by decide) ?_
                      refine lv_lconst (v := 1) hx hb dY_rounded_76 rfl ?_
                      refine W.lcmp hx hb dY_rounded_77 ?_
                      refine lv_if_ne (tgt := 87) hx hb dY_rounded_78 (by decide) (fun c65 => ?_) (fun c65 => ?_)
                      · refine lv_iload_n hx hb dY_rounded_87 rfl (lv_at hl 4 rfl) ?_
                        refine lv_if_ge (tgt := 97) hx hb dY_rounded_88 (by decide) (fun cz => absurd cz c1) (fun _ => ?_)
                        refine lv_lload hx hb dY_rounded_91 (lv_at hl 1 rfl) ?_
                        refine lv_lneg hx hb dY_rounded_93 ?_
                        refine lv_goto (tgt := 99) hx hb dY_rounded_94 (by decide) ?_
                        exact W.lret (v := (-(((-(Int32.toInt64 p0)) / 64) * 64))) hx hb hr (fun tE ht hW => ⟨(-(((-(Int32.toInt64 p0)) / 64) * 64)), rfl, by simp only [fRnd, fMag, fRu, fRl, c1, c38, c42, c46, c50, c54, c58, eq_true c62, c63, eq_true c64, c65, ↓reduceIte], ht⟩) (fun q h => by cases h) dY_rounded_99
                      · refine lv_lload hx hb dY_rounded_81 (lv_at hl 1 rfl) ?_
                        refine lv_lload_n hx hb dY_rounded_83 rfl (lv_at hl 2 rfl) ?_
                        refine lv_ladd hx hb dY_rounded_84 ?_
                        refine lv_lstore (lv' := [(5, .long ((((-(Int32.toInt64 p0)) / 64) * 64) + 64)), (7, .long ((-(Int32.toInt64 p0)) - (((-(Int32.toInt64 p0)) / 64) * 64))), (3, .long 64), (1, .long (-(Int32.toInt64 p0))), (0, .int p0)]) hx hb dY_rounded_85 hl (by decide) rfl (fun ls hl => ?_)
                        refine lv_iload_n hx hb dY_rounded_87 rfl (lv_at hl 4 rfl) ?_
                        refine lv_if_ge (tgt := 97) hx hb dY_rounded_88 (by decide) (fun cz => absurd cz c1) (fun _ => ?_)
                        refine lv_lload hx hb dY_rounded_91 (lv_at hl 0 rfl) ?_
                        refine lv_lneg hx hb dY_rounded_93 ?_
                        refine lv_goto (tgt := 99) hx hb dY_rounded_94 (by decide) ?_
                        exact W.lret (v := (-((((-(Int32.toInt64 p0)) / 64) * 64) + 64))) hx hb hr (fun tE ht hW => ⟨(-((((-(Int32.toInt64 p0)) / 64) * 64) + 64)), rfl, by simp only [fRnd, fMag, fRu, fRl, c1, c38, c42, c46, c50, c54, c58, eq_true c62, c63, eq_true c64, eq_true c65, ↓reduceIte], ht⟩) (fun q h => by cases h) dY_rounded_99
                · refine lv_lload_n hx hb dY_rounded_25 rfl (lv_at hl 0 rfl) ?_
                  refine lv_ldc2 (v := 2) hx hb hown (hty _ yk_107) dY_rounded_26 ?_
                  refine lv_lmul hx hb dY_rounded_29 ?_
                  refine lv_lstore_n (lv' := [(3, .long 128), (1, .long (-(Int32.toInt64 p0))), (0, .int p0)]) hx hb dY_rounded_30 rfl hl (by decide) rfl (fun ls hl => ?_)
                  refine lv_goto (tgt := 15) hx hb dY_rounded_31 (by decide) ?_
                  refine lv_lload_n hx hb dY_rounded_15 rfl (lv_at hl 1 rfl) ?_
                  refine lv_lload_n hx hb dY_rounded_16 rfl (lv_at hl 0 rfl) ?_
                  refine lv_ldiv hx hb dY_rounded_17 (by decide) ?_
                  refine lv_ldc2 (v := 16777216) hx hb hown (hty _ yk_105) dY_rounded_18 ?_
                  refine W.lcmp hx hb dY_rounded_21 ?_
                  refine lv_if_lt (tgt := 34) hx hb dY_rounded_22 (by decide) (fun c66 => ?_) (fun c66 => ?_)
                  · refine lv_lload_n hx hb dY_rounded_34 rfl (lv_at hl 1 rfl) ?_
                    refine lv_lload_n hx hb dY_rounded_35 rfl (lv_at hl 0 rfl) ?_
                    refine lv_ldiv hx hb dY_rounded_36 (by decide) ?_
                    refine lv_lload_n hx hb dY_rounded_37 rfl (lv_at hl 0 rfl) ?_
                    refine lv_lmul hx hb dY_rounded_38 ?_
                    refine lv_lstore (lv' := [(5, .long (((-(Int32.toInt64 p0)) / 128) * 128)), (3, .long 128), (1, .long (-(Int32.toInt64 p0))), (0, .int p0)]) hx hb dY_rounded_39 hl (by decide) rfl (fun ls hl => ?_)
                    refine lv_lload_n hx hb dY_rounded_41 rfl (lv_at hl 2 rfl) ?_
                    refine lv_lload hx hb dY_rounded_42 (lv_at hl 0 rfl) ?_
                    refine lv_lsub hx hb dY_rounded_44 ?_
                    refine lv_lstore (lv' := [(7, .long ((-(Int32.toInt64 p0)) - (((-(Int32.toInt64 p0)) / 128) * 128))), (5, .long (((-(Int32.toInt64 p0)) / 128) * 128)), (3, .long 128), (1, .long (-(Int32.toInt64 p0))), (0, .int p0)]) hx hb dY_rounded_45 hl (by decide) rfl (fun ls hl => ?_)
                    refine lv_ldc2 (v := 2) hx hb hown (hty _ yk_107) dY_rounded_47 ?_
                    refine lv_lload hx hb dY_rounded_50 (lv_at hl 0 rfl) ?_
                    refine lv_lmul hx hb dY_rounded_52 ?_
                    refine lv_lload_n hx hb dY_rounded_53 rfl (lv_at hl 2 rfl) ?_
                    refine W.lcmp hx hb dY_rounded_54 ?_
                    refine lv_if_gt (tgt := 81) hx hb dY_rounded_55 (by decide) (fun c67 => ?_) (fun c67 => ?_)
                    · refine lv_lload hx hb dY_rounded_81 (lv_at hl 1 rfl) ?_
                      refine lv_lload_n hx hb dY_rounded_83 rfl (lv_at hl 2 rfl) ?_
                      refine lv_ladd hx hb dY_rounded_84 ?_
                      refine lv_lstore (lv' := [(5, .long ((((-(Int32.toInt64 p0)) / 128) * 128) + 128)), (7, .long ((-(Int32.toInt64 p0)) - (((-(Int32.toInt64 p0)) / 128) * 128))), (3, .long 128), (1, .long (-(Int32.toInt64 p0))), (0, .int p0)]) hx hb dY_rounded_85 hl (by decide) rfl (fun ls hl => ?_)
                      refine lv_iload_n hx hb dY_rounded_87 rfl (lv_at hl 4 rfl) ?_
                      refine lv_if_ge (tgt := 97) hx hb dY_rounded_88 (by decide) (fun cz => absurd cz c1) (fun _ => ?_)
                      refine lv_lload hx hb dY_rounded_91 (lv_at hl 0 rfl) ?_
                      refine lv_lneg hx hb dY_rounded_93 ?_
                      refine lv_goto (tgt := 99) hx hb dY_rounded_94 (by decide) ?_
                      exact W.lret (v := (-((((-(Int32.toInt64 p0)) / 128) * 128) + 128))) hx hb hr (fun tE ht hW => ⟨(-((((-(Int32.toInt64 p0)) / 128) * 128) + 128)), rfl, by simp only [fRnd, fMag, fRu, fRl, c1, c38, c42, c46, c50, c54, c58, c62, eq_true c66, eq_true c67, ↓reduceIte], ht⟩) (fun q h => by cases h) dY_rounded_99
                    · refine lv_ldc2 (v := 2) hx hb hown (hty _ yk_107) dY_rounded_58 ?_
                      refine lv_lload hx hb dY_rounded_61 (lv_at hl 0 rfl) ?_
                      refine lv_lmul hx hb dY_rounded_63 ?_
                      refine lv_lload_n hx hb dY_rounded_64 rfl (lv_at hl 2 rfl) ?_
                      refine W.lcmp hx hb dY_rounded_65 ?_
                      refine lv_if_ne (tgt := 87) hx hb dY_rounded_66 (by decide) (fun c68 => ?_) (fun c68 => ?_)
                      · refine lv_iload_n hx hb dY_rounded_87 rfl (lv_at hl 4 rfl) ?_
                        refine lv_if_ge (tgt := 97) hx hb dY_rounded_88 (by decide) (fun cz => absurd cz c1) (fun _ => ?_)
                        refine lv_lload hx hb dY_rounded_91 (lv_at hl 1 rfl) ?_
                        refine lv_lneg hx hb dY_rounded_93 ?_
                        refine lv_goto (tgt := 99) hx hb dY_rounded_94 (by decide) ?_
                        exact W.lret (v := (-(((-(Int32.toInt64 p0)) / 128) * 128))) hx hb hr (fun tE ht hW => ⟨(-(((-(Int32.toInt64 p0)) / 128) * 128)), rfl, by simp only [fRnd, fMag, fRu, fRl, c1, c38, c42, c46, c50, c54, c58, c62, eq_true c66, c67, c68, ↓reduceIte], ht⟩) (fun q h => by cases h) dY_rounded_99
                      · refine lv_lload_n hx hb dY_rounded_69 rfl (lv_at hl 3 rfl) ?_
                        refine lv_lload_n hx hb dY_rounded_70 rfl (lv_at hl 2 rfl) ?_
                        refine lv_ldiv hx hb dY_rounded_71 (by decide) ?_
                        refine lv_ldc2 (v := 2) hx hb hown (hty _ yk_107) dY_rounded_72 ?_
                        refine lv_lrem hx hb dY_rounded_75 (by decide) ?_
                        refine lv_lconst (v := 1) hx hb dY_rounded_76 rfl ?_
                        refine W.lcmp hx hb dY_rounded_77 ?_
                        refine lv_if_ne (tgt := 87) hx hb dY_rounded_78 (by decide) (fun c69 => ?_) (fun c69 => ?_)
                        · refine lv_iload_n hx hb dY_rounded_87 rfl (lv_at hl 4 rfl) ?_
                          refine lv_if_ge (tgt := 97) hx hb dY_rounded_88 (by decide) (fun cz => absurd cz c1) (fun _ => ?_)
                          refine lv_lload hx hb dY_rounded_91 (lv_at hl 1 rfl) ?_
                          refine lv_lneg hx hb dY_rounded_93 ?_
                          refine lv_goto (tgt := 99) hx hb dY_rounded_94 (by decide) ?_
                          exact W.lret (v := (-(((-(Int32.toInt64 p0)) / 128) * 128))) hx hb hr (fun tE ht hW => ⟨(-(((-(Int32.toInt64 p0)) / 128) * 128)), rfl, by simp only [fRnd, fMag, fRu, fRl, c1, c38, c42, c46, c50, c54, c58, c62, eq_true c66, c67, eq_true c68, c69, ↓reduceIte], ht⟩) (fun q h => by cases h) dY_rounded_99
                        · refine lv_lload hx hb dY_rounded_81 (lv_at hl 1 rfl) ?_
                          refine lv_lload_n hx hb dY_rounded_83 rfl (lv_at hl 2 rfl) ?_
                          refine lv_ladd hx hb dY_rounded_84 ?_
                          refine lv_lstore (lv' := [(5, .long ((((-(Int32.toInt64 p0)) / 128) * 128) + 128)), (7, .long ((-(Int32.toInt64 p0)) - (((-(Int32.toInt64 p0)) / 128) * 128))), (3, .long 128), (1, .long (-(Int32.toInt64 p0))), (0, .int p0)]) hx hb dY_rounded_85 hl (by decide) rfl (fun ls hl => ?_)
                          refine lv_iload_n hx hb dY_rounded_87 rfl (lv_at hl 4 rfl) ?_
                          refine lv_if_ge (tgt := 97) hx hb dY_rounded_88 (by decide) (fun cz => absurd cz c1) (fun _ => ?_)
                          refine lv_lload hx hb dY_rounded_91 (lv_at hl 0 rfl) ?_
                          refine lv_lneg hx hb dY_rounded_93 ?_
                          refine lv_goto (tgt := 99) hx hb dY_rounded_94 (by decide) ?_
                          exact W.lret (v := (-((((-(Int32.toInt64 p0)) / 128) * 128) + 128))) hx hb hr (fun tE ht hW => ⟨(-((((-(Int32.toInt64 p0)) / 128) * 128) + 128)), rfl, by simp only [fRnd, fMag, fRu, fRl, c1, c38, c42, c46, c50, c54, c58, c62, eq_true c66, c67, eq_true c68, eq_true c69, ↓reduceIte], ht⟩) (fun q h => by cases h) dY_rounded_99
                  · refine lv_lload_n hx hb dY_rounded_25 rfl (lv_at hl 0 rfl) ?_
                    refine lv_ldc2 (v := 2) hx hb hown (hty _ yk_107) dY_rounded_26 ?_
                    refine lv_lmul hx hb dY_rounded_29 ?_
                    refine lv_lstore_n (lv' := [(3, .long 256), (1, .long (-(Int32.toInt64 p0))), (0, .int p0)]) hx hb dY_rounded_30 rfl hl (by decide) rfl (fun ls hl => ?_)
                    refine lv_goto (tgt := 15) hx hb dY_rounded_31 (by decide) ?_
                    refine lv_lload_n hx hb dY_rounded_15 rfl (lv_at hl 1 rfl) ?_
                    refine lv_lload_n hx hb dY_rounded_16 rfl (lv_at hl 0 rfl) ?_
                    refine lv_ldiv hx hb dY_rounded_17 (by decide) ?_
                    refine lv_ldc2 (v := 16777216) hx hb hown (hty _ yk_105) dY_rounded_18 ?_
                    refine W.lcmp hx hb dY_rounded_21 ?_
                    have c70 : (lg_cmp ((-(Int32.toInt64 p0)) / 256) 16777216) < 0 := (rnd_stop _ (by first | exact mag_pos (by assumption) | exact mag_neg (by assumption)))
                    refine lv_if_lt (tgt := 34) hx hb dY_rounded_22 (by decide) (fun _ => ?_) (fun cz => absurd c70 cz)
                    refine lv_lload_n hx hb dY_rounded_34 rfl (lv_at hl 1 rfl) ?_
                    refine lv_lload_n hx hb dY_rounded_35 rfl (lv_at hl 0 rfl) ?_
                    refine lv_ldiv hx hb dY_rounded_36 (by decide) ?_
                    refine lv_lload_n hx hb dY_rounded_37 rfl (lv_at hl 0 rfl) ?_
                    refine lv_lmul hx hb dY_rounded_38 ?_
                    refine lv_lstore (lv' := [(5, .long (((-(Int32.toInt64 p0)) / 256) * 256)), (3, .long 256), (1, .long (-(Int32.toInt64 p0))), (0, .int p0)]) hx hb dY_rounded_39 hl (by decide) rfl (fun ls hl => ?_)
                    refine lv_lload_n hx hb dY_rounded_41 rfl (lv_at hl 2 rfl) ?_
                    refine lv_lload hx hb dY_rounded_42 (lv_at hl 0 rfl) ?_
                    refine lv_lsub hx hb dY_rounded_44 ?_
                    refine lv_lstore (lv' := [(7, .long ((-(Int32.toInt64 p0)) - (((-(Int32.toInt64 p0)) / 256) * 256))), (5, .long (((-(Int32.toInt64 p0)) / 256) * 256)), (3, .long 256), (1, .long (-(Int32.toInt64 p0))), (0, .int p0)]) hx hb dY_rounded_45 hl (by decide) rfl (fun ls hl => ?_)
                    refine lv_ldc2 (v := 2) hx hb hown (hty _ yk_107) dY_rounded_47 ?_
                    refine lv_lload hx hb dY_rounded_50 (lv_at hl 0 rfl) ?_
                    refine lv_lmul hx hb dY_rounded_52 ?_
                    refine lv_lload_n hx hb dY_rounded_53 rfl (lv_at hl 2 rfl) ?_
                    refine W.lcmp hx hb dY_rounded_54 ?_
                    refine lv_if_gt (tgt := 81) hx hb dY_rounded_55 (by decide) (fun c71 => ?_) (fun c71 => ?_)
                    · refine lv_lload hx hb dY_rounded_81 (lv_at hl 1 rfl) ?_
                      refine lv_lload_n hx hb dY_rounded_83 rfl (lv_at hl 2 rfl) ?_
                      refine lv_ladd hx hb dY_rounded_84 ?_
                      refine lv_lstore (lv' := [(5, .long ((((-(Int32.toInt64 p0)) / 256) * 256) + 256)), (7, .long ((-(Int32.toInt64 p0)) - (((-(Int32.toInt64 p0)) / 256) * 256))), (3, .long 256), (1, .long (-(Int32.toInt64 p0))), (0, .int p0)]) hx hb dY_rounded_85 hl (by decide) rfl (fun ls hl => ?_)
                      refine lv_iload_n hx hb dY_rounded_87 rfl (lv_at hl 4 rfl) ?_
                      refine lv_if_ge (tgt := 97) hx hb dY_rounded_88 (by decide) (fun cz => absurd cz c1) (fun _ => ?_)
                      refine lv_lload hx hb dY_rounded_91 (lv_at hl 0 rfl) ?_
                      refine lv_lneg hx hb dY_rounded_93 ?_
                      refine lv_goto (tgt := 99) hx hb dY_rounded_94 (by decide) ?_
                      exact W.lret (v := (-((((-(Int32.toInt64 p0)) / 256) * 256) + 256))) hx hb hr (fun tE ht hW => ⟨(-((((-(Int32.toInt64 p0)) / 256) * 256) + 256)), rfl, by simp only [fRnd, fMag, fRu, fRl, c1, c38, c42, c46, c50, c54, c58, c62, c66, eq_true c70, eq_true c71, ↓reduceIte], ht⟩) (fun q h => by cases h) dY_rounded_99
                    · refine lv_ldc2 (v := 2) hx hb hown (hty _ yk_107) dY_rounded_58 ?_
                      refine lv_lload hx hb dY_rounded_61 (lv_at hl 0 rfl) ?_
                      refine lv_lmul hx hb dY_rounded_63 ?_
                      refine lv_lload_n hx hb dY_rounded_64 rfl (lv_at hl 2 rfl) ?_
                      refine W.lcmp hx hb dY_rounded_65 ?_
                      refine lv_if_ne (tgt := 87) hx hb dY_rounded_66 (by decide) (fun c72 => ?_) (fun c72 => ?_)
                      · refine lv_iload_n hx hb dY_rounded_87 rfl (lv_at hl 4 rfl) ?_
                        refine lv_if_ge (tgt := 97) hx hb dY_rounded_88 (by decide) (fun cz => absurd cz c1) (fun _ => ?_)
                        refine lv_lload hx hb dY_rounded_91 (lv_at hl 1 rfl) ?_
                        refine lv_lneg hx hb dY_rounded_93 ?_
                        refine lv_goto (tgt := 99) hx hb dY_rounded_94 (by decide) ?_
                        exact W.lret (v := (-(((-(Int32.toInt64 p0)) / 256) * 256))) hx hb hr (fun tE ht hW => ⟨(-(((-(Int32.toInt64 p0)) / 256) * 256)), rfl, by simp only [fRnd, fMag, fRu, fRl, c1, c38, c42, c46, c50, c54, c58, c62, c66, eq_true c70, c71, c72, ↓reduceIte], ht⟩) (fun q h => by cases h) dY_rounded_99
                      · refine lv_lload_n hx hb dY_rounded_69 rfl (lv_at hl 3 rfl) ?_
                        refine lv_lload_n hx hb dY_rounded_70 rfl (lv_at hl 2 rfl) ?_
                        refine lv_ldiv hx hb dY_rounded_71 (by decide) ?_
                        refine lv_ldc2 (v := 2) hx hb hown (hty _ yk_107) dY_rounded_72 ?_
                        refine lv_lrem hx hb dY_rounded_75 (by decide) ?_
                        refine lv_lconst (v := 1) hx hb dY_rounded_76 rfl ?_
                        refine W.lcmp hx hb dY_rounded_77 ?_
                        refine lv_if_ne (tgt := 87) hx hb dY_rounded_78 (by decide) (fun c73 => ?_) (fun c73 => ?_)
                        · refine lv_iload_n hx hb dY_rounded_87 rfl (lv_at hl 4 rfl) ?_
                          refine lv_if_ge (tgt := 97) hx hb dY_rounded_88 (by decide) (fun cz => absurd cz c1) (fun _ => ?_)
                          refine lv_lload hx hb dY_rounded_91 (lv_at hl 1 rfl) ?_
                          refine lv_lneg hx hb dY_rounded_93 ?_
                          refine lv_goto (tgt := 99) hx hb dY_rounded_94 (by decide) ?_
                          exact W.lret (v := (-(((-(Int32.toInt64 p0)) / 256) * 256))) hx hb hr (fun tE ht hW => ⟨(-(((-(Int32.toInt64 p0)) / 256) * 256)), rfl, by simp only [fRnd, fMag, fRu, fRl, c1, c38, c42, c46, c50, c54, c58, c62, c66, eq_true c70, c71, eq_true c72, c73, ↓reduceIte], ht⟩) (fun q h => by cases h) dY_rounded_99
                        · refine lv_lload hx hb dY_rounded_81 (lv_at hl 1 rfl) ?_
                          refine lv_lload_n hx hb dY_rounded_83 rfl (lv_at hl 2 rfl) ?_
                          refine lv_ladd hx hb dY_rounded_84 ?_
                          refine lv_lstore (lv' := [(5, .long ((((-(Int32.toInt64 p0)) / 256) * 256) + 256)), (7, .long ((-(Int32.toInt64 p0)) - (((-(Int32.toInt64 p0)) / 256) * 256))), (3, .long 256), (1, .long (-(Int32.toInt64 p0))), (0, .int p0)]) hx hb dY_rounded_85 hl (by decide) rfl (fun ls hl => ?_)
                          refine lv_iload_n hx hb dY_rounded_87 rfl (lv_at hl 4 rfl) ?_
                          refine lv_if_ge (tgt := 97) hx hb dY_rounded_88 (by decide) (fun cz => absurd cz c1) (fun _ => ?_)
                          refine lv_lload hx hb dY_rounded_91 (lv_at hl 0 rfl) ?_
                          refine lv_lneg hx hb dY_rounded_93 ?_
                          refine lv_goto (tgt := 99) hx hb dY_rounded_94 (by decide) ?_
                          exact W.lret (v := (-((((-(Int32.toInt64 p0)) / 256) * 256) + 256))) hx hb hr (fun tE ht hW => ⟨(-((((-(Int32.toInt64 p0)) / 256) * 256) + 256)), rfl, by simp only [fRnd, fMag, fRu, fRl, c1, c38, c42, c46, c50, c54, c58, c62, c66, eq_true c70, c71, eq_true c72, eq_true c73, ↓reduceIte], ht⟩) (fun q h => by cases h) dY_rounded_99
