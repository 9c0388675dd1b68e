set_option maxHeartbeats 8000000 in
set_option maxRecDepth 100000 in
theorem k_probe (l : Launch) (D : va_G) (F : XF) (u : XS) (hok : xOk F u) (sz : Nat) (p0 : Int32) (p1 : Int32) (p2 : Int32) (p3 : Int32) (p4 : Int32) : Met l yX1_probe wsX1_probe ({ frames := 4, cells := 0, slots := 0, locals := 92 }) (xPc D F u sz [.ref F.1, .int p0, .int p1, .int p2, .int p3, .int p4]) (va_Qi (fun (r : Int32) (v : XS) => (r, v) = sProbe u p0 p1 p2 p3 p4) (xB D F (va_A (xW F u) sz)) (va_A (xW F u) sz)) 0 0 (va_A (xW F u) sz) := by
  obtain ⟨sS, sP, sQ, sE, ec, sc, vl, LP, sT⟩ := u
  refine Met.ofW (cc := cX1_probe) (maxL := 7) (ret := (some .int)) (by decide) rfl ?_
  intro p e s m args below meth c s₁ B hml hv
  obtain ⟨rfl, hsz, hP, hK, hD0, hN, hZ⟩ := hv
  have hx := B.exec
  have hb := B.bytes
  have hr := B.returns
  have hts := atoms_spec (ws := wsX1_probe) B.pre
  have hown : s.vm.findClass RX1 = some m.cls := findClass_of_methodNamed B.named
  have hlocks := B.notSynchronized
  subst hsz
  have hD := hD0.self (sz := s.heap.size)
  generalize hAe : va_A (xW F (sS, sP, sQ, sE, ec, sc, vl, LP, sT)) s.heap.size = A at hD hZ ⊢
  have hA : ∀ q : Nat, s.heap.size ≤ q → A q := fun q h => by rw [← hAe]; exact Or.inr h
  have hS : va_S A s.heap s.heap [] := va_S.rf
  obtain ⟨tk, tm, tr, hztk, httk, hztm, httm, hztr, httr⟩ := id hZ
  refine xHeap (C := fun H => va_P D vwCl (xW F (sS, sP, sQ, sE, ec, sc, vl, LP, sT)) H ∧ va_S A s.heap H []) ⟨hP, hS⟩ (fun H hC => ?_)
  obtain ⟨hP, hS⟩ := hC
  have hl := lv_entry ([.ref F.1, .int p0, .int p1, .int p2, .int p3, .int p4]) (n := 7) (Nat.le_of_ble_eq_true rfl)
  rw [lg_entry_eq]
  generalize (lg_sl ([.ref F.1, .int p0, .int p1, .int p2, .int p3, .int p4]) ++ List.replicate (7 - (lg_sl ([.ref F.1, .int p0, .int p1, .int p2, .int p3, .int p4])).length) Slot.unset).toArray = ls at hl ⊢
  have hl : lv_has ls 7 [(0, .ref F.1), (1, .int p0), (2, .int p1), (3, .int p2), (4, .int p3), (5, .int p4)] := hl
  refine lv_iload_n hx hb dX1_probe_0 rfl (lv_at hl 1 rfl) ?_
  refine lv_bipush (v := 8) hx hb dX1_probe_1 (by decide) ?_
  refine vp_callSi (va_Run.run (va_runS (As := [.int p0, .int 8]) (rest := []) ⟨hx, hb, hml, hown, hts⟩ (k_isBelow l p0 8) (va_cwS 2 hts gX1_probe_X1_isBelow rfl rfl rfl (by decide +kernel) ⟨Nat.le_of_ble_eq_true rfl, Nat.le_of_ble_eq_true rfl⟩) preEq rfl rfl hl.1 rfl (lv_room (Nat.le_of_ble_eq_true rfl)) dX1_probe_3 ⟨Nat.le_of_ble_eq_true rfl, Nat.le_of_ble_eq_true rfl⟩)) (fun r1 hw2 => ?_)
  rcases bI_c hw2 with ⟨rfl, b3⟩ | ⟨rfl, b3⟩
  · refine lv_if_eq (tgt := 48) hx hb dX1_probe_6 (by decide) (fun cz => absurd cz (by decide)) (fun _ => ?_)
    refine lv_iload_n hx hb dX1_probe_9 rfl (lv_at hl 2 rfl) ?_
    refine lv_bipush (v := 9) hx hb dX1_probe_10 (by decide) ?_
    refine vp_callSi (va_Run.run (va_runS (As := [.int p1, .int 9]) (rest := []) ⟨hx, hb, hml, hown, hts⟩ (k_isBelow l p1 9) (va_cwS 2 hts gX1_probe_X1_isBelow rfl rfl rfl (by decide +kernel) ⟨Nat.le_of_ble_eq_true rfl, Nat.le_of_ble_eq_true rfl⟩) preEq rfl rfl hl.1 rfl (lv_room (Nat.le_of_ble_eq_true rfl)) dX1_probe_12 ⟨Nat.le_of_ble_eq_true rfl, Nat.le_of_ble_eq_true rfl⟩)) (fun r4 hw5 => ?_)
    rcases bI_c hw5 with ⟨rfl, b6⟩ | ⟨rfl, b6⟩
    · refine lv_if_eq (tgt := 48) hx hb dX1_probe_15 (by decide) (fun cz => absurd cz (by decide)) (fun _ => ?_)
      refine lv_iload_n hx hb dX1_probe_18 rfl (lv_at hl 3 rfl) ?_
      refine lv_bipush (v := 12) hx hb dX1_probe_19 (by decide) ?_
      refine vp_callSi (va_Run.run (va_runS (As := [.int p2, .int 12]) (rest := []) ⟨hx, hb, hml, hown, hts⟩ (k_isBelow l p2 12) (va_cwS 2 hts gX1_probe_X1_isBelow rfl rfl rfl (by decide +kernel) ⟨Nat.le_of_ble_eq_true rfl, Nat.le_of_ble_eq_true rfl⟩) preEq rfl rfl hl.1 rfl (lv_room (Nat.le_of_ble_eq_true rfl)) dX1_probe_21 ⟨Nat.le_of_ble_eq_true rfl, Nat.le_of_ble_eq_true rfl⟩)) (fun r7 hw8 => ?_)
      rcases bI_c hw8 with ⟨rfl, b9⟩ | ⟨rfl, b9⟩
      · refine lv_if_eq (tgt := 48) hx hb dX1_probe_24 (by decide) (fun cz => absurd cz (by decide)) (fun _ => ?_)
        refine lv_iload hx hb dX1_probe_27 (lv_at hl 5 rfl) ?_
        refine lv_iconst (v := 4) hx hb dX1_probe_29 (by decide) ?_
        refine vp_callSi (va_Run.run (va_runS (As := [.int p4, .int 4]) (rest := []) ⟨hx, hb, hml, hown, hts⟩ (k_isBelow l p4 4) (va_cwS 2 hts gX1_probe_X1_isBelow rfl rfl rfl (by decide +kernel) ⟨Nat.le_of_ble_eq_true rfl, Nat.le_of_ble_eq_true rfl⟩) preEq rfl rfl hl.1 rfl (lv_room (Nat.le_of_ble_eq_true rfl)) dX1_probe_30 ⟨Nat.le_of_ble_eq_true rfl, Nat.le_of_ble_eq_true rfl⟩)) (fun r10 hw11 => ?_)
        rcases bI_c hw11 with ⟨rfl, b12⟩ | ⟨rfl, b12⟩
        · refine lv_if_eq (tgt := 48) hx hb dX1_probe_33 (by decide) (fun cz => absurd cz (by decide)) (fun _ => ?_)
          refine va_gets hx hb hztm hS hown (hts (.fieldLink RX1 47 "FamilyProbes" "TYPES_WITH_MEMBER" "[I") (by decide +kernel)) (fun _ h9 => h9) dX1_probe_36 ?_
          refine lv_iload_n hx hb dX1_probe_39 rfl (lv_at hl 3 rfl) ?_
          refine va_ti (v := .int (memV p2.toNatClampNeg)) hx hb httm hS (isB_in12 b9) rfl dX1_probe_40 ?_
          refine lv_iload_n hx hb dX1_probe_41 rfl (lv_at hl 2 rfl) ?_
          refine vp_callSi (va_Run.run (va_runS (As := [.int (memV p2.toNatClampNeg), .int p1]) (rest := []) ⟨hx, hb, hml, hown, hts⟩ (k_holds l (memV p2.toNatClampNeg) p1) (va_cwS 2 hts gX1_probe_X1_holds rfl rfl rfl (by decide +kernel) ⟨Nat.le_of_ble_eq_true rfl, Nat.le_of_ble_eq_true rfl⟩) preEq rfl rfl hl.1 rfl (lv_room (Nat.le_of_ble_eq_true rfl)) dX1_probe_42 ⟨Nat.le_of_ble_eq_true rfl, Nat.le_of_ble_eq_true rfl⟩)) (fun r13 hw14 => ?_)
          rcases bI_c hw14 with ⟨rfl, b15⟩ | ⟨rfl, b15⟩
          · refine lv_if_ne (tgt := 50) hx hb dX1_probe_45 (by decide) (fun _ => ?_) (fun cz => absurd cz (by decide))
            refine lv_iload_n hx hb dX1_probe_50 rfl (lv_at hl 3 rfl) ?_
            refine lv_bipush (v := 7) hx hb dX1_probe_51 (by decide) ?_
            refine lv_icmp_ne (tgt := 65) hx hb dX1_probe_53 (by decide) (fun c16 => ?_) (fun c16 => ?_)
            · refine lv_iload_n hx hb dX1_probe_65 rfl (lv_at hl 3 rfl) ?_
              refine lv_bipush (v := 8) hx hb dX1_probe_66 (by decide) ?_
              refine lv_icmp_ne (tgt := 82) hx hb dX1_probe_68 (by decide) (fun c17 => ?_) (fun c17 => ?_)
              · refine lv_aload_n hx hb dX1_probe_82 rfl (lv_at hl 0 rfl) ?_
                refine va_get (D := D) (ci := 1) (v := .ref F.2.2.2.1) (C := RX1) (T := TX1) (N := 9) hx hb hts (by decide +kernel) hown hK hP 0 rfl rfl 2 (by decide) (hts (.fieldLink RX1 21 "FamilyProbes" "slots" "[LFamilyProbes$Thing;") (by decide +kernel)) (fun _ h9 => h9) rfl dX1_probe_83 ?_
                refine lv_iload_n hx hb dX1_probe_86 rfl (lv_at hl 1 rfl) ?_
                refine va_aldq (f := sS) hx hb hK hP 1 0 rfl rfl (isB_in8 b3) dX1_probe_87 ?_
                rcases ho18 : (sS p0.toNatClampNeg) with _ | q19
                · refine lv_astoreN (lv' := [(6, .null), (0, .ref F.1), (1, .int p0), (2, .int p1), (3, .int p2), (4, .int p3), (5, .int p4)]) hx hb dX1_probe_88 hl (by decide) rfl (fun ls hl => ?_)
                  refine lv_aloadN hx hb dX1_probe_90 (lv_at hl 0 rfl) ?_
                  refine lv_ifnonnullN hx hb dX1_probe_92 ?_
                  refine lv_iconst (v := 2) hx hb dX1_probe_95 (by decide) ?_
                  exact W.iret (v := 2) hx hb hr (fun tE ht hW => ⟨⟨2, (sS, sP, sQ, sE, ec, sc, vl, LP, sT), rfl, by first | (simp only [sProbe, uV, gS, gP, gQ, gE, gec, gsc, gvl, gL, gT, b3, b6, b9, b12, b15, c16, c17, ho18, eq_self, ↓reduceIte, Bool.false_eq_true, Bool.not_false, Bool.not_true, Bool.and_true, Bool.and_false, Bool.true_and, Bool.false_and, decide_true, decide_false] <;> first | done | decide) | (simp [sProbe, uV, gS, gP, gQ, gE, gec, gsc, gvl, gL, gT, b3, b6, b9, b12, b15, c16, c17, ho18]; done), by rw [ht]; exact hP, va_K.moved hW.alike hK, hD⟩, hS.F ht⟩) hS.2.2 dX1_probe_96
                · refine lv_astore (lv' := [(6, .ref q19), (0, .ref F.1), (1, .int p0), (2, .int p1), (3, .int p2), (4, .int p3), (5, .int p4)]) hx hb dX1_probe_88 hl (by decide) rfl (fun ls hl => ?_)
                  refine lv_aload hx hb dX1_probe_90 (lv_at hl 0 rfl) ?_
                  refine lv_ifnonnull (tgt := 97) hx hb dX1_probe_92 (by decide) ?_
                  refine lv_aload hx hb dX1_probe_97 (lv_at hl 0 rfl) ?_
                  refine lv_iload_n hx hb dX1_probe_99 rfl (lv_at hl 3 rfl) ?_
                  refine vp_callSi (va_Run.run (va_runS (As := [.ref q19, .int p1]) (rest := []) ⟨hx, hb, hml, hown, hts⟩ (k_isOfType l D q19 (sT q19) (hok.2.2.2.2.1 q19 (hok.1 p0.toNatClampNeg _ ho18)) p1) (va_cwS 2 hts gX1_probe_X1_isOfType rfl rfl rfl (by decide +kernel) ⟨Nat.le_of_ble_eq_true rfl, Nat.le_of_ble_eq_true rfl⟩) (rPre hN hK (x_one hP (hok.1 p0.toNatClampNeg _ ho18)) hS hZ xFalse _) rfl rfl hl.1 rfl (lv_room (Nat.le_of_ble_eq_true rfl)) dX1_probe_100 ⟨Nat.le_of_ble_eq_true rfl, Nat.le_of_ble_eq_true rfl⟩)) (fun r20 hw21 => ?_)
                  rcases bI_c hw21 with ⟨rfl, b22⟩ | ⟨rfl, b22⟩
                  · refine lv_if_ne (tgt := 108) hx hb dX1_probe_103 (by decide) (fun _ => ?_) (fun cz => absurd cz (by decide))
                    refine lv_aload_n hx hb dX1_probe_108 rfl (lv_at hl 1 rfl) ?_
                    refine lv_aload_n hx hb dX1_probe_109 rfl (lv_at hl 1 rfl) ?_
                    refine lv_aload hx hb dX1_probe_110 (lv_at hl 0 rfl) ?_
                    refine lv_iload_n hx hb dX1_probe_112 rfl (lv_at hl 3 rfl) ?_
                    refine lv_iload_n hx hb dX1_probe_113 rfl (lv_at hl 4 rfl) ?_
                    refine lv_iload hx hb dX1_probe_114 (lv_at hl 5 rfl) ?_
                    have hf23 := xFree hD hS hA
                    refine va_calli (va_runV (As := [.ref q19, .int p1, .int p2, .int p3]) (rest := [.ref F.1]) ⟨hx, hb, hml, hown, hts⟩ (k_answerOf l D F (sS, sP, sQ, sE, ec, sc, vl, LP, sT) hok H.size q19 (hok.1 p0.toNatClampNeg _ ho18) p1 p2 p3) (cwV 4 hts gX1_probe_X1_answerOf rfl rfl rfl (by decide +kernel) ⟨Nat.le_of_ble_eq_true rfl, Nat.le_of_ble_eq_true rfl⟩) (xPre hN hK hP hD hS hA hZ _) rfl rfl hl.1 rfl (lv_room (Nat.le_of_ble_eq_true rfl)) dX1_probe_116 ⟨Nat.le_of_ble_eq_true rfl, Nat.le_of_ble_eq_true rfl⟩) hS (fun q _ h => hf23 q h) hf23 (fun r24 v25 t27 H1 locs ht hvm hw26 hB hz1 hk1 hS => ?_)
                    obtain ⟨hP1, hK1, hD1⟩ := hB
                    rw [ht] at hP1
                    replace hD1 := hD1.weaken (fun _ _ _ h => hf23 _ h)
                    generalize H1 = H at hP1 hS ⊢
                    obtain ⟨rfl, rfl⟩ := Prod.mk.inj (show (r24, v25) = ((sAns (sS, sP, sQ, sE, ec, sc, vl, LP, sT) q19 p1 p2 p3).1, ((sAns (sS, sP, sQ, sE, ec, sc, vl, LP, sT) q19 p1 p2 p3).2.1, (sAns (sS, sP, sQ, sE, ec, sc, vl, LP, sT) q19 p1 p2 p3).2.2.1, (sAns (sS, sP, sQ, sE, ec, sc, vl, LP, sT) q19 p1 p2 p3).2.2.2.1, (sAns (sS, sP, sQ, sE, ec, sc, vl, LP, sT) q19 p1 p2 p3).2.2.2.2.1, (sAns (sS, sP, sQ, sE, ec, sc, vl, LP, sT) q19 p1 p2 p3).2.2.2.2.2.1, (sAns (sS, sP, sQ, sE, ec, sc, vl, LP, sT) q19 p1 p2 p3).2.2.2.2.2.2.1, (sAns (sS, sP, sQ, sE, ec, sc, vl, LP, sT) q19 p1 p2 p3).2.2.2.2.2.2.2.1, (sAns (sS, sP, sQ, sE, ec, sc, vl, LP, sT) q19 p1 p2 p3).2.2.2.2.2.2.2.2.1, (sAns (sS, sP, sQ, sE, ec, sc, vl, LP, sT) q19 p1 p2 p3).2.2.2.2.2.2.2.2.2)) from hw26)
                    have hP : va_P D vwCl (xW F ((sAns (sS, sP, sQ, sE, ec, sc, vl, LP, sT) q19 p1 p2 p3).2.1, (sAns (sS, sP, sQ, sE, ec, sc, vl, LP, sT) q19 p1 p2 p3).2.2.1, (sAns (sS, sP, sQ, sE, ec, sc, vl, LP, sT) q19 p1 p2 p3).2.2.2.1, (sAns (sS, sP, sQ, sE, ec, sc, vl, LP, sT) q19 p1 p2 p3).2.2.2.2.1, (sAns (sS, sP, sQ, sE, ec, sc, vl, LP, sT) q19 p1 p2 p3).2.2.2.2.2.1, (sAns (sS, sP, sQ, sE, ec, sc, vl, LP, sT) q19 p1 p2 p3).2.2.2.2.2.2.1, (sAns (sS, sP, sQ, sE, ec, sc, vl, LP, sT) q19 p1 p2 p3).2.2.2.2.2.2.2.1, (sAns (sS, sP, sQ, sE, ec, sc, vl, LP, sT) q19 p1 p2 p3).2.2.2.2.2.2.2.2.1, (sAns (sS, sP, sQ, sE, ec, sc, vl, LP, sT) q19 p1 p2 p3).2.2.2.2.2.2.2.2.2)) H := hP1
                    have hD : va_D A (xW F ((sAns (sS, sP, sQ, sE, ec, sc, vl, LP, sT) q19 p1 p2 p3).2.1, (sAns (sS, sP, sQ, sE, ec, sc, vl, LP, sT) q19 p1 p2 p3).2.2.1, (sAns (sS, sP, sQ, sE, ec, sc, vl, LP, sT) q19 p1 p2 p3).2.2.2.1, (sAns (sS, sP, sQ, sE, ec, sc, vl, LP, sT) q19 p1 p2 p3).2.2.2.2.1, (sAns (sS, sP, sQ, sE, ec, sc, vl, LP, sT) q19 p1 p2 p3).2.2.2.2.2.1, (sAns (sS, sP, sQ, sE, ec, sc, vl, LP, sT) q19 p1 p2 p3).2.2.2.2.2.2.1, (sAns (sS, sP, sQ, sE, ec, sc, vl, LP, sT) q19 p1 p2 p3).2.2.2.2.2.2.2.1, (sAns (sS, sP, sQ, sE, ec, sc, vl, LP, sT) q19 p1 p2 p3).2.2.2.2.2.2.2.2.1, (sAns (sS, sP, sQ, sE, ec, sc, vl, LP, sT) q19 p1 p2 p3).2.2.2.2.2.2.2.2.2)) := hD1
                    have hf28 := xFree hD hS hA
                    refine va_calli (va_runV (As := [.int ((sAns (sS, sP, sQ, sE, ec, sc, vl, LP, sT) q19 p1 p2 p3).1)]) (rest := []) ⟨hx, hb, hml, hown, hts⟩ (k_wentWith l D F ((sAns (sS, sP, sQ, sE, ec, sc, vl, LP, sT) q19 p1 p2 p3).2.1, (sAns (sS, sP, sQ, sE, ec, sc, vl, LP, sT) q19 p1 p2 p3).2.2.1, (sAns (sS, sP, sQ, sE, ec, sc, vl, LP, sT) q19 p1 p2 p3).2.2.2.1, (sAns (sS, sP, sQ, sE, ec, sc, vl, LP, sT) q19 p1 p2 p3).2.2.2.2.1, (sAns (sS, sP, sQ, sE, ec, sc, vl, LP, sT) q19 p1 p2 p3).2.2.2.2.2.1, (sAns (sS, sP, sQ, sE, ec, sc, vl, LP, sT) q19 p1 p2 p3).2.2.2.2.2.2.1, (sAns (sS, sP, sQ, sE, ec, sc, vl, LP, sT) q19 p1 p2 p3).2.2.2.2.2.2.2.1, (sAns (sS, sP, sQ, sE, ec, sc, vl, LP, sT) q19 p1 p2 p3).2.2.2.2.2.2.2.2.1, (sAns (sS, sP, sQ, sE, ec, sc, vl, LP, sT) q19 p1 p2 p3).2.2.2.2.2.2.2.2.2)  H.size ((sAns (sS, sP, sQ, sE, ec, sc, vl, LP, sT) q19 p1 p2 p3).1)) (cwV 1 hts gX1_probe_X1_wentWith rfl rfl rfl (by decide +kernel) ⟨Nat.le_of_ble_eq_true rfl, Nat.le_of_ble_eq_true rfl⟩) (xPre hN hK hP hD hS hA hZ _) rfl rfl hl.1 rfl (lv_room (Nat.le_of_ble_eq_true rfl)) dX1_probe_119 ⟨Nat.le_of_ble_eq_true rfl, Nat.le_of_ble_eq_true rfl⟩) hS (fun q _ h => hf28 q h) hf28 (fun r29 v30 t32 H1 locs ht hvm hw31 hB hz1 hk1 hS => ?_)
                    obtain ⟨hP1, hK1, hD1⟩ := hB
                    rw [ht] at hP1
                    replace hD1 := hD1.weaken (fun _ _ _ h => hf28 _ h)
                    generalize H1 = H at hP1 hS ⊢
                    obtain ⟨rfl, rfl⟩ := Prod.mk.inj (show (r29, v30) = (0, ((sAns (sS, sP, sQ, sE, ec, sc, vl, LP, sT) q19 p1 p2 p3).2.1, (sAns (sS, sP, sQ, sE, ec, sc, vl, LP, sT) q19 p1 p2 p3).2.2.1, (sAns (sS, sP, sQ, sE, ec, sc, vl, LP, sT) q19 p1 p2 p3).2.2.2.1, (sAns (sS, sP, sQ, sE, ec, sc, vl, LP, sT) q19 p1 p2 p3).2.2.2.2.1, (sAns (sS, sP, sQ, sE, ec, sc, vl, LP, sT) q19 p1 p2 p3).2.2.2.2.2.1, (sAns (sS, sP, sQ, sE, ec, sc, vl, LP, sT) q19 p1 p2 p3).2.2.2.2.2.2.1, ((sAns (sS, sP, sQ, sE, ec, sc, vl, LP, sT) q19 p1 p2 p3).1), (sAns (sS, sP, sQ, sE, ec, sc, vl, LP, sT) q19 p1 p2 p3).2.2.2.2.2.2.2.2.1, (sAns (sS, sP, sQ, sE, ec, sc, vl, LP, sT) q19 p1 p2 p3).2.2.2.2.2.2.2.2.2)) from hw31)
                    have hP : va_P D vwCl (xW F ((sAns (sS, sP, sQ, sE, ec, sc, vl, LP, sT) q19 p1 p2 p3).2.1, (sAns (sS, sP, sQ, sE, ec, sc, vl, LP, sT) q19 p1 p2 p3).2.2.1, (sAns (sS, sP, sQ, sE, ec, sc, vl, LP, sT) q19 p1 p2 p3).2.2.2.1, (sAns (sS, sP, sQ, sE, ec, sc, vl, LP, sT) q19 p1 p2 p3).2.2.2.2.1, (sAns (sS, sP, sQ, sE, ec, sc, vl, LP, sT) q19 p1 p2 p3).2.2.2.2.2.1, (sAns (sS, sP, sQ, sE, ec, sc, vl, LP, sT) q19 p1 p2 p3).2.2.2.2.2.2.1, ((sAns (sS, sP, sQ, sE, ec, sc, vl, LP, sT) q19 p1 p2 p3).1), (sAns (sS, sP, sQ, sE, ec, sc, vl, LP, sT) q19 p1 p2 p3).2.2.2.2.2.2.2.2.1, (sAns (sS, sP, sQ, sE, ec, sc, vl, LP, sT) q19 p1 p2 p3).2.2.2.2.2.2.2.2.2)) H := hP1
                    have hD : va_D A (xW F ((sAns (sS, sP, sQ, sE, ec, sc, vl, LP, sT) q19 p1 p2 p3).2.1, (sAns (sS, sP, sQ, sE, ec, sc, vl, LP, sT) q19 p1 p2 p3).2.2.1, (sAns (sS, sP, sQ, sE, ec, sc, vl, LP, sT) q19 p1 p2 p3).2.2.2.1, (sAns (sS, sP, sQ, sE, ec, sc, vl, LP, sT) q19 p1 p2 p3).2.2.2.2.1, (sAns (sS, sP, sQ, sE, ec, sc, vl, LP, sT) q19 p1 p2 p3).2.2.2.2.2.1, (sAns (sS, sP, sQ, sE, ec, sc, vl, LP, sT) q19 p1 p2 p3).2.2.2.2.2.2.1, ((sAns (sS, sP, sQ, sE, ec, sc, vl, LP, sT) q19 p1 p2 p3).1), (sAns (sS, sP, sQ, sE, ec, sc, vl, LP, sT) q19 p1 p2 p3).2.2.2.2.2.2.2.2.1, (sAns (sS, sP, sQ, sE, ec, sc, vl, LP, sT) q19 p1 p2 p3).2.2.2.2.2.2.2.2.2)) := hD1
                    exact W.iret (v := 0) hx hb hr (fun tE ht hW => ⟨⟨0, ((sAns (sS, sP, sQ, sE, ec, sc, vl, LP, sT) q19 p1 p2 p3).2.1, (sAns (sS, sP, sQ, sE, ec, sc, vl, LP, sT) q19 p1 p2 p3).2.2.1, (sAns (sS, sP, sQ, sE, ec, sc, vl, LP, sT) q19 p1 p2 p3).2.2.2.1, (sAns (sS, sP, sQ, sE, ec, sc, vl, LP, sT) q19 p1 p2 p3).2.2.2.2.1, (sAns (sS, sP, sQ, sE, ec, sc, vl, LP, sT) q19 p1 p2 p3).2.2.2.2.2.1, (sAns (sS, sP, sQ, sE, ec, sc, vl, LP, sT) q19 p1 p2 p3).2.2.2.2.2.2.1, ((sAns (sS, sP, sQ, sE, ec, sc, vl, LP, sT) q19 p1 p2 p3).1), (sAns (sS, sP, sQ, sE, ec, sc, vl, LP, sT) q19 p1 p2 p3).2.2.2.2.2.2.2.2.1, (sAns (sS, sP, sQ, sE, ec, sc, vl, LP, sT) q19 p1 p2 p3).2.2.2.2.2.2.2.2.2), rfl, by first | (simp only [sProbe, uV, gS, gP, gQ, gE, gec, gsc, gvl, gL, gT, b3, b6, b9, b12, b15, c16, c17, ho18, b22, eq_self, ↓reduceIte, Bool.false_eq_true, Bool.not_false, Bool.not_true, Bool.and_true, Bool.and_false, Bool.true_and, Bool.false_and, decide_true, decide_false] <;> first | done | decide) | (simp [sProbe, uV, gS, gP, gQ, gE, gec, gsc, gvl, gL, gT, b3, b6, b9, b12, b15, c16, c17, ho18, b22]; done), by rw [ht]; exact hP, va_K.moved hW.alike hK, hD⟩, hS.F ht⟩) hS.2.2 dX1_probe_122
                  · refine lv_if_ne (tgt := 108) hx hb dX1_probe_103 (by decide) (fun cz => absurd cz (by decide)) (fun _ => ?_)
                    refine lv_iconst (v := 1) hx hb dX1_probe_106 (by decide) ?_
                    exact W.iret (v := 1) hx hb hr (fun tE ht hW => ⟨⟨1, (sS, sP, sQ, sE, ec, sc, vl, LP, sT), rfl, by first | (simp only [sProbe, uV, gS, gP, gQ, gE, gec, gsc, gvl, gL, gT, b3, b6, b9, b12, b15, c16, c17, ho18, b22, eq_self, ↓reduceIte, Bool.false_eq_true, Bool.not_false, Bool.not_true, Bool.and_true, Bool.and_false, Bool.true_and, Bool.false_and, decide_true, decide_false] <;> first | done | decide) | (simp [sProbe, uV, gS, gP, gQ, gE, gec, gsc, gvl, gL, gT, b3, b6, b9, b12, b15, c16, c17, ho18, b22]; done), by rw [ht]; exact hP, va_K.moved hW.alike hK, hD⟩, hS.F ht⟩) hS.2.2 dX1_probe_107
              · refine lv_aload_n hx hb dX1_probe_71 rfl (lv_at hl 0 rfl) ?_
                refine lv_iload_n hx hb dX1_probe_72 rfl (lv_at hl 2 rfl) ?_
                refine lv_iload hx hb dX1_probe_73 (lv_at hl 4 rfl) ?_
                refine vp_callSi (va_Run.run (va_runS (As := [.int p1, .int p3]) (rest := [.ref F.1]) ⟨hx, hb, hml, hown, hts⟩ (k_rankOf l p1 p3) (va_cwS 2 hts gX1_probe_X1_rankOf rfl rfl rfl (by decide +kernel) ⟨Nat.le_of_ble_eq_true rfl, Nat.le_of_ble_eq_true rfl⟩) preEq rfl rfl hl.1 rfl (lv_room (Nat.le_of_ble_eq_true rfl)) dX1_probe_75 ⟨Nat.le_of_ble_eq_true rfl, Nat.le_of_ble_eq_true rfl⟩)) (fun r33 hw34 => ?_)
                subst hw34
                have hf35 := xFree hD hS hA
                refine va_calli (va_runV (As := [.int (fRank p1 p3)]) (rest := []) ⟨hx, hb, hml, hown, hts⟩ (k_wentWith l D F (sS, sP, sQ, sE, ec, sc, vl, LP, sT)  H.size (fRank p1 p3)) (cwV 1 hts gX1_probe_X1_wentWith rfl rfl rfl (by decide +kernel) ⟨Nat.le_of_ble_eq_true rfl, Nat.le_of_ble_eq_true rfl⟩) (xPre hN hK hP hD hS hA hZ _) rfl rfl hl.1 rfl (lv_room (Nat.le_of_ble_eq_true rfl)) dX1_probe_78 ⟨Nat.le_of_ble_eq_true rfl, Nat.le_of_ble_eq_true rfl⟩) hS (fun q _ h => hf35 q h) hf35 (fun r36 v37 t39 H1 locs ht hvm hw38 hB hz1 hk1 hS => ?_)
                obtain ⟨hP1, hK1, hD1⟩ := hB
                rw [ht] at hP1
                replace hD1 := hD1.weaken (fun _ _ _ h => hf35 _ h)
                generalize H1 = H at hP1 hS ⊢
                obtain ⟨rfl, rfl⟩ := Prod.mk.inj (show (r36, v37) = (0, (sS, sP, sQ, sE, ec, sc, (fRank p1 p3), LP, sT)) from hw38)
                have hP : va_P D vwCl (xW F (sS, sP, sQ, sE, ec, sc, (fRank p1 p3), LP, sT)) H := hP1
                have hD : va_D A (xW F (sS, sP, sQ, sE, ec, sc, (fRank p1 p3), LP, sT)) := hD1
                exact W.iret (v := 0) hx hb hr (fun tE ht hW => ⟨⟨0, (sS, sP, sQ, sE, ec, sc, (fRank p1 p3), LP, sT), rfl, by first | (simp only [sProbe, uV, gS, gP, gQ, gE, gec, gsc, gvl, gL, gT, b3, b6, b9, b12, b15, c16, eq_true c17, eq_self, ↓reduceIte, Bool.false_eq_true, Bool.not_false, Bool.not_true, Bool.and_true, Bool.and_false, Bool.true_and, Bool.false_and, decide_true, decide_false] <;> first | done | decide) | (simp only [sProbe, uV, gS, gP, gQ, gE, gec, gsc, gvl, gL, gT, b3, b6, b9, b12, b15, c16, c17, eq_self, ↓reduceIte, Bool.false_eq_true, Bool.not_false, Bool.not_true, Bool.and_true, Bool.and_false, Bool.true_and, Bool.false_and, decide_true, decide_false] <;> first | done | decide) | (simp [sProbe, uV, gS, gP, gQ, gE, gec, gsc, gvl, gL, gT, b3, b6, b9, b12, b15, c16, c17]; done) | (simp [sProbe, uV, gS, gP, gQ, gE, gec, gsc, gvl, gL, gT, b3, b6, b9, b12, b15, c16, eq_true c17]; done), by rw [ht]; exact hP, va_K.moved hW.alike hK, hD⟩, hS.F ht⟩) hS.2.2 dX1_probe_81
            · refine lv_aload_n hx hb dX1_probe_56 rfl (lv_at hl 0 rfl) ?_
              refine lv_iload_n hx hb dX1_probe_57 rfl (lv_at hl 2 rfl) ?_
              refine vp_callSi (va_Run.run (va_runS (As := [.int p1]) (rest := [.ref F.1]) ⟨hx, hb, hml, hown, hts⟩ (k_toneOf l p1) (va_cwS 1 hts gX1_probe_X1_toneOf rfl rfl rfl (by decide +kernel) ⟨Nat.le_of_ble_eq_true rfl, Nat.le_of_ble_eq_true rfl⟩) preEq rfl rfl hl.1 rfl (lv_room (Nat.le_of_ble_eq_true rfl)) dX1_probe_58 ⟨Nat.le_of_ble_eq_true rfl, Nat.le_of_ble_eq_true rfl⟩)) (fun r40 hw41 => ?_)
              subst hw41
              have hf42 := xFree hD hS hA
              refine va_calli (va_runV (As := [.int (fTone p1)]) (rest := []) ⟨hx, hb, hml, hown, hts⟩ (k_wentWith l D F (sS, sP, sQ, sE, ec, sc, vl, LP, sT)  H.size (fTone p1)) (cwV 1 hts gX1_probe_X1_wentWith rfl rfl rfl (by decide +kernel) ⟨Nat.le_of_ble_eq_true rfl, Nat.le_of_ble_eq_true rfl⟩) (xPre hN hK hP hD hS hA hZ _) rfl rfl hl.1 rfl (lv_room (Nat.le_of_ble_eq_true rfl)) dX1_probe_61 ⟨Nat.le_of_ble_eq_true rfl, Nat.le_of_ble_eq_true rfl⟩) hS (fun q _ h => hf42 q h) hf42 (fun r43 v44 t46 H1 locs ht hvm hw45 hB hz1 hk1 hS => ?_)
              obtain ⟨hP1, hK1, hD1⟩ := hB
              rw [ht] at hP1
              replace hD1 := hD1.weaken (fun _ _ _ h => hf42 _ h)
              generalize H1 = H at hP1 hS ⊢
              obtain ⟨rfl, rfl⟩ := Prod.mk.inj (show (r43, v44) = (0, (sS, sP, sQ, sE, ec, sc, (fTone p1), LP, sT)) from hw45)
              have hP : va_P D vwCl (xW F (sS, sP, sQ, sE, ec, sc, (fTone p1), LP, sT)) H := hP1
              have hD : va_D A (xW F (sS, sP, sQ, sE, ec, sc, (fTone p1), LP, sT)) := hD1
              exact W.iret (v := 0) hx hb hr (fun tE ht hW => ⟨⟨0, (sS, sP, sQ, sE, ec, sc, (fTone p1), LP, sT), rfl, by first | (simp only [sProbe, uV, gS, gP, gQ, gE, gec, gsc, gvl, gL, gT, b3, b6, b9, b12, b15, eq_true c16, eq_self, ↓reduceIte, Bool.false_eq_true, Bool.not_false, Bool.not_true, Bool.and_true, Bool.and_false, Bool.true_and, Bool.false_and, decide_true, decide_false] <;> first | done | decide) | (simp only [sProbe, uV, gS, gP, gQ, gE, gec, gsc, gvl, gL, gT, b3, b6, b9, b12, b15, c16, eq_self, ↓reduceIte, Bool.false_eq_true, Bool.not_false, Bool.not_true, Bool.and_true, Bool.and_false, Bool.true_and, Bool.false_and, decide_true, decide_false] <;> first | done | decide) | (simp [sProbe, uV, gS, gP, gQ, gE, gec, gsc, gvl, gL, gT, b3, b6, b9, b12, b15, c16]; done) | (simp [sProbe, uV, gS, gP, gQ, gE, gec, gsc, gvl, gL, gT, b3, b6, b9, b12, b15, eq_true c16]; done), by rw [ht]; exact hP, va_K.moved hW.alike hK, hD⟩, hS.F ht⟩) hS.2.2 dX1_probe_64
          · refine lv_if_ne (tgt := 50) hx hb dX1_probe_45 (by decide) (fun cz => absurd cz (by decide)) (fun _ => ?_)
            refine lv_iconst (v := (-1)) hx hb dX1_probe_48 (by decide) ?_
            exact W.iret (v := (-1)) hx hb hr (fun tE ht hW => ⟨⟨(-1), (sS, sP, sQ, sE, ec, sc, vl, LP, sT), rfl, by first | (simp only [sProbe, uV, gS, gP, gQ, gE, gec, gsc, gvl, gL, gT, b3, b6, b9, b12, b15, eq_self, ↓reduceIte, Bool.false_eq_true, Bool.not_false, Bool.not_true, Bool.and_true, Bool.and_false, Bool.true_and, Bool.false_and, decide_true, decide_false] <;> first | done | decide) | (simp [sProbe, uV, gS, gP, gQ, gE, gec, gsc, gvl, gL, gT, b3, b6, b9, b12, b15]; done), by rw [ht]; exact hP, va_K.moved hW.alike hK, hD⟩, hS.F ht⟩) hS.2.2 dX1_probe_49
        · refine lv_if_eq (tgt := 48) hx hb dX1_probe_33 (by decide) (fun _ => ?_) (fun cz => absurd cz (by decide))
          refine lv_iconst (v := (-1)) hx hb dX1_probe_48 (by decide) ?_
          exact W.iret (v := (-1)) hx hb hr (fun tE ht hW => ⟨⟨(-1), (sS, sP, sQ, sE, ec, sc, vl, LP, sT), rfl, by first | (simp only [sProbe, uV, gS, gP, gQ, gE, gec, gsc, gvl, gL, gT, b3, b6, b9, b12, eq_self, ↓reduceIte, Bool.false_eq_true, Bool.not_false, Bool.not_true, Bool.and_true, Bool.and_false, Bool.true_and, Bool.false_and, decide_true, decide_false] <;> first | done | decide) | (simp [sProbe, uV, gS, gP, gQ, gE, gec, gsc, gvl, gL, gT, b3, b6, b9, b12]; done), by rw [ht]; exact hP, va_K.moved hW.alike hK, hD⟩, hS.F ht⟩) hS.2.2 dX1_probe_49
      · refine lv_if_eq (tgt := 48) hx hb dX1_probe_24 (by decide) (fun _ => ?_) (fun cz => absurd cz (by decide))
        refine lv_iconst (v := (-1)) hx hb dX1_probe_48 (by decide) ?_
        exact W.iret (v := (-1)) hx hb hr (fun tE ht hW => ⟨⟨(-1), (sS, sP, sQ, sE, ec, sc, vl, LP, sT), rfl, by first | (simp only [sProbe, uV, gS, gP, gQ, gE, gec, gsc, gvl, gL, gT, b3, b6, b9, eq_self, ↓reduceIte, Bool.false_eq_true, Bool.not_false, Bool.not_true, Bool.and_true, Bool.and_false, Bool.true_and, Bool.false_and, decide_true, decide_false] <;> first | done | decide) | (simp [sProbe, uV, gS, gP, gQ, gE, gec, gsc, gvl, gL, gT, b3, b6, b9]; done), by rw [ht]; exact hP, va_K.moved hW.alike hK, hD⟩, hS.F ht⟩) hS.2.2 dX1_probe_49
    · refine lv_if_eq (tgt := 48) hx hb dX1_probe_15 (by decide) (fun _ => ?_) (fun cz => absurd cz (by decide))
      refine lv_iconst (v := (-1)) hx hb dX1_probe_48 (by decide) ?_
      exact W.iret (v := (-1)) hx hb hr (fun tE ht hW => ⟨⟨(-1), (sS, sP, sQ, sE, ec, sc, vl, LP, sT), rfl, by first | (simp only [sProbe, uV, gS, gP, gQ, gE, gec, gsc, gvl, gL, gT, b3, b6, eq_self, ↓reduceIte, Bool.false_eq_true, Bool.not_false, Bool.not_true, Bool.and_true, Bool.and_false, Bool.true_and, Bool.false_and, decide_true, decide_false] <;> first | done | decide) | (simp [sProbe, uV, gS, gP, gQ, gE, gec, gsc, gvl, gL, gT, b3, b6]; done), by rw [ht]; exact hP, va_K.moved hW.alike hK, hD⟩, hS.F ht⟩) hS.2.2 dX1_probe_49
  · refine lv_if_eq (tgt := 48) hx hb dX1_probe_6 (by decide) (fun _ => ?_) (fun cz => absurd cz (by decide))
    refine lv_iconst (v := (-1)) hx hb dX1_probe_48 (by decide) ?_
    exact W.iret (v := (-1)) hx hb hr (fun tE ht hW => ⟨⟨(-1), (sS, sP, sQ, sE, ec, sc, vl, LP, sT), rfl, by first | (simp only [sProbe, uV, gS, gP, gQ, gE, gec, gsc, gvl, gL, gT, b3, eq_self, ↓reduceIte, Bool.false_eq_true, Bool.not_false, Bool.not_true, Bool.and_true, Bool.and_false, Bool.true_and, Bool.false_and, decide_true, decide_false] <;> first | done | decide) | (simp [sProbe, uV, gS, gP, gQ, gE, gec, gsc, gvl, gL, gT, b3]; done), by rw [ht]; exact hP, va_K.moved hW.alike hK, hD⟩, hS.F ht⟩) hS.2.2 dX1_probe_49
set_option maxHeartbeats 8000000 in
set_option maxRecDepth 100000 in
theorem k_drop (l : Launch) (D : va_G) (F : XF) (u : XS) (hok : xOk F u) (sz : Nat) (p0 : Int32) : Met l yX1_drop wsX1_drop ({ frames := 1, cells := 0, slots := 0, locals := 21 }) (xPc D F u sz [.ref F.1, .int p0]) (va_Qi (fun (r : Int32) (v : XS) => (r, v) = sDrop u p0) (xB D F (va_A (xW F u) sz)) (va_A (xW F u) sz)) 0 0 (va_A (xW F u) sz) := by
  obtain ⟨sS, sP, sQ, sE, ec, sc, vl, LP, sT⟩ := u
  refine Met.ofW (cc := cX1_drop) (maxL := 3) (ret := (some .int)) (by decide) rfl ?_
  intro p e s m args below meth c s₁ B hml hv
  obtain ⟨rfl, hsz, hP, hK, hD0, hN, hZ⟩ := hv
  have hx := B.exec
  have hb := B.bytes
  have hr := B.returns
  have hts := atoms_spec (ws := wsX1_drop) B.pre
  have hown : s.vm.findClass RX1 = some m.cls := findClass_of_methodNamed B.named
  have hlocks := B.notSynchronized
  subst hsz
  have hD := hD0.self (sz := s.heap.size)
  generalize hAe : va_A (xW F (sS, sP, sQ, sE, ec, sc, vl, LP, sT)) s.heap.size = A at hD hZ ⊢
  have hA : ∀ q : Nat, s.heap.size ≤ q → A q := fun q h => by rw [← hAe]; exact Or.inr h
  have hS : va_S A s.heap s.heap [] := va_S.rf
  obtain ⟨tk, tm, tr, hztk, httk, hztm, httm, hztr, httr⟩ := id hZ
  refine xHeap (C := fun H => va_P D vwCl (xW F (sS, sP, sQ, sE, ec, sc, vl, LP, sT)) H ∧ va_S A s.heap H []) ⟨hP, hS⟩ (fun H hC => ?_)
  obtain ⟨hP, hS⟩ := hC
  have hl := lv_entry ([.ref F.1, .int p0]) (n := 3) (Nat.le_of_ble_eq_true rfl)
  rw [lg_entry_eq]
  generalize (lg_sl ([.ref F.1, .int p0]) ++ List.replicate (3 - (lg_sl ([.ref F.1, .int p0])).length) Slot.unset).toArray = ls at hl ⊢
  have hl : lv_has ls 3 [(0, .ref F.1), (1, .int p0)] := hl
  refine lv_iload_n hx hb dX1_drop_0 rfl (lv_at hl 1 rfl) ?_
  refine lv_bipush (v := 8) hx hb dX1_drop_1 (by decide) ?_
  refine vp_callSi (va_Run.run (va_runS (As := [.int p0, .int 8]) (rest := []) ⟨hx, hb, hml, hown, hts⟩ (k_isBelow l p0 8) (va_cwS 2 hts gX1_drop_X1_isBelow rfl rfl rfl (by decide +kernel) ⟨Nat.le_of_ble_eq_true rfl, Nat.le_of_ble_eq_true rfl⟩) preEq rfl rfl hl.1 rfl (lv_room (Nat.le_of_ble_eq_true rfl)) dX1_drop_3 ⟨Nat.le_of_ble_eq_true rfl, Nat.le_of_ble_eq_true rfl⟩)) (fun r1 hw2 => ?_)
  rcases bI_c hw2 with ⟨rfl, b3⟩ | ⟨rfl, b3⟩
  · refine lv_if_ne (tgt := 11) hx hb dX1_drop_6 (by decide) (fun _ => ?_) (fun cz => absurd cz (by decide))
    refine lv_aload_n hx hb dX1_drop_11 rfl (lv_at hl 0 rfl) ?_
    refine va_get (D := D) (ci := 1) (v := .ref F.2.2.2.1) (C := RX1) (T := TX1) (N := 9) hx hb hts (by decide +kernel) hown hK hP 0 rfl rfl 2 (by decide) (hts (.fieldLink RX1 21 "FamilyProbes" "slots" "[LFamilyProbes$Thing;") (by decide +kernel)) (fun _ h9 => h9) rfl dX1_drop_12 ?_
    refine lv_iload_n hx hb dX1_drop_15 rfl (lv_at hl 1 rfl) ?_
    refine va_aldq (f := sS) hx hb hK hP 1 0 rfl rfl (isB_in8 b3) dX1_drop_16 ?_
    rcases ho4 : (sS p0.toNatClampNeg) with _ | q5
    · refine lv_ifnonnullN hx hb dX1_drop_17 ?_
      refine lv_iconst (v := 2) hx hb dX1_drop_20 (by decide) ?_
      refine lv_goto (tgt := 25) hx hb dX1_drop_21 (by decide) ?_
      refine lv_istore_n (lv' := [(2, .int 2), (0, .ref F.1), (1, .int p0)]) hx hb dX1_drop_25 rfl hl (by decide) rfl (fun ls hl => ?_)
      refine lv_aload_n hx hb dX1_drop_26 rfl (lv_at hl 1 rfl) ?_
      refine va_get (D := D) (ci := 1) (v := .ref F.2.2.2.1) (C := RX1) (T := TX1) (N := 9) hx hb hts (by decide +kernel) hown hK hP 0 rfl rfl 2 (by decide) (hts (.fieldLink RX1 21 "FamilyProbes" "slots" "[LFamilyProbes$Thing;") (by decide +kernel)) (fun _ h9 => h9) rfl dX1_drop_27 ?_
      refine lv_iload_n hx hb dX1_drop_30 rfl (lv_at hl 2 rfl) ?_
      refine lv_null hx hb dX1_drop_31 ?_
      refine va_astqN hx hb hK hP hD hS 1 0 rfl rfl (isB_in8 b3) dX1_drop_32 (fun H locs hP hD hS => ?_)
      have hP : va_P D vwCl (xW F ((va_up sS p0.toNatClampNeg none), sP, sQ, sE, ec, sc, vl, LP, sT)) H := hP
      have hD : va_D A (xW F ((va_up sS p0.toNatClampNeg none), sP, sQ, sE, ec, sc, vl, LP, sT)) := hD
      refine lv_iload_n hx hb dX1_drop_33 rfl (lv_at hl 0 rfl) ?_
      exact W.iret (v := 2) hx hb hr (fun tE ht hW => ⟨⟨2, ((va_up sS p0.toNatClampNeg none), sP, sQ, sE, ec, sc, vl, LP, sT), rfl, by first | (simp only [sDrop, uS, gS, gP, gQ, gE, gec, gsc, gvl, gL, gT, b3, ho4, eq_self, ↓reduceIte, Bool.false_eq_true, Bool.not_false, Bool.not_true, Bool.and_true, Bool.and_false, Bool.true_and, Bool.false_and, decide_true, decide_false] <;> first | done | decide) | (simp [sDrop, uS, gS, gP, gQ, gE, gec, gsc, gvl, gL, gT, b3, ho4]; done), by rw [ht]; exact hP, va_K.moved hW.alike hK, hD⟩, hS.F ht⟩) hS.2.2 dX1_drop_34
    · refine lv_ifnonnull (tgt := 24) hx hb dX1_drop_17 (by decide) ?_
      refine lv_iconst (v := 0) hx hb dX1_drop_24 (by decide) ?_
      refine lv_istore_n (lv' := [(2, .int 0), (0, .ref F.1), (1, .int p0)]) hx hb dX1_drop_25 rfl hl (by decide) rfl (fun ls hl => ?_)
      refine lv_aload_n hx hb dX1_drop_26 rfl (lv_at hl 1 rfl) ?_
      refine va_get (D := D) (ci := 1) (v := .ref F.2.2.2.1) (C := RX1) (T := TX1) (N := 9) hx hb hts (by decide +kernel) hown hK hP 0 rfl rfl 2 (by decide) (hts (.fieldLink RX1 21 "FamilyProbes" "slots" "[LFamilyProbes$Thing;") (by decide +kernel)) (fun _ h9 => h9) rfl dX1_drop_27 ?_
      refine lv_iload_n hx hb dX1_drop_30 rfl (lv_at hl 2 rfl) ?_
      refine lv_null hx hb dX1_drop_31 ?_
      refine va_astqN hx hb hK hP hD hS 1 0 rfl rfl (isB_in8 b3) dX1_drop_32 (fun H locs hP hD hS => ?_)
      have hP : va_P D vwCl (xW F ((va_up sS p0.toNatClampNeg none), sP, sQ, sE, ec, sc, vl, LP, sT)) H := hP
      have hD : va_D A (xW F ((va_up sS p0.toNatClampNeg none), sP, sQ, sE, ec, sc, vl, LP, sT)) := hD
      refine lv_iload_n hx hb dX1_drop_33 rfl (lv_at hl 0 rfl) ?_
      exact W.iret (v := 0) hx hb hr (fun tE ht hW => ⟨⟨0, ((va_up sS p0.toNatClampNeg none), sP, sQ, sE, ec, sc, vl, LP, sT), rfl, by first | (simp only [sDrop, uS, gS, gP, gQ, gE, gec, gsc, gvl, gL, gT, b3, ho4, eq_self, ↓reduceIte, Bool.false_eq_true, Bool.not_false, Bool.not_true, Bool.and_true, Bool.and_false, Bool.true_and, Bool.false_and, decide_true, decide_false] <;> first | done | decide) | (simp [sDrop, uS, gS, gP, gQ, gE, gec, gsc, gvl, gL, gT, b3, ho4]; done), by rw [ht]; exact hP, va_K.moved hW.alike hK, hD⟩, hS.F ht⟩) hS.2.2 dX1_drop_34
  · refine lv_if_ne (tgt := 11) hx hb dX1_drop_6 (by decide) (fun cz => absurd cz (by decide)) (fun _ => ?_)
    refine lv_iconst (v := (-1)) hx hb dX1_drop_9 (by decide) ?_
    exact W.iret (v := (-1)) hx hb hr (fun tE ht hW => ⟨⟨(-1), (sS, sP, sQ, sE, ec, sc, vl, LP, sT), rfl, by first | (simp only [sDrop, uS, gS, gP, gQ, gE, gec, gsc, gvl, gL, gT, b3, eq_self, ↓reduceIte, Bool.false_eq_true, Bool.not_false, Bool.not_true, Bool.and_true, Bool.and_false, Bool.true_and, Bool.false_and, decide_true, decide_false] <;> first | done | decide) | (simp [sDrop, uS, gS, gP, gQ, gE, gec, gsc, gvl, gL, gT, b3]; done), by rw [ht]; exact hP, va_K.moved hW.alike hK, hD⟩, hS.F ht⟩) hS.2.2 dX1_drop_10
set_option maxHeartbeats 8000000 in
set_option maxRecDepth 100000 in
theorem k_value (l : Launch) (D : va_G) (F : XF) (u : XS) (sz : Nat)  : Met l yX1_value wsX1_value ({ frames := 0, cells := 0, slots := 0, locals := 0 }) (xPc D F u sz [.ref F.1]) (va_Qi (fun (r : Int32) (v : XS) => (r, v) = (gvl u, u)) (xB D F (va_A (xW F u) sz)) (va_A (xW F u) sz)) 0 0 (va_A (xW F u) sz) := by
  obtain ⟨sS, sP, sQ, sE, ec, sc, vl, LP, sT⟩ := u
  refine Met.ofW (cc := cX1_value) (maxL := 1) (ret := (some .int)) (by decide) rfl ?_
  intro p e s m args below meth c s₁ B hml hv
  obtain ⟨rfl, hsz, hP, hK, hD0, hN, hZ⟩ := hv
  have hx := B.exec
  have hb := B.bytes
  have hr := B.returns
  have hts := atoms_spec (ws := wsX1_value) B.pre
  have hown : s.vm.findClass RX1 = some m.cls := findClass_of_methodNamed B.named
  have hlocks := B.notSynchronized
  subst hsz
  have hD := hD0.self (sz := s.heap.size)
  generalize hAe : va_A (xW F (sS, sP, sQ, sE, ec, sc, vl, LP, sT)) s.heap.size = A at hD hZ ⊢
  have hA : ∀ q : Nat, s.heap.size ≤ q → A q := fun q h => by rw [← hAe]; exact Or.inr h
  have hS : va_S A s.heap s.heap [] := va_S.rf
  obtain ⟨tk, tm, tr, hztk, httk, hztm, httm, hztr, httr⟩ := id hZ
  refine xHeap (C := fun H => va_P D vwCl (xW F (sS, sP, sQ, sE, ec, sc, vl, LP, sT)) H ∧ va_S A s.heap H []) ⟨hP, hS⟩ (fun H hC => ?_)
  obtain ⟨hP, hS⟩ := hC
  have hl := lv_entry ([.ref F.1]) (n := 1) (Nat.le_of_ble_eq_true rfl)
  rw [lg_entry_eq]
  generalize (lg_sl ([.ref F.1]) ++ List.replicate (1 - (lg_sl ([.ref F.1])).length) Slot.unset).toArray = ls at hl ⊢
  have hl : lv_has ls 1 [(0, .ref F.1)] := hl
  refine lv_aload_n hx hb dX1_value_0 rfl (lv_at hl 0 rfl) ?_
  refine va_get (D := D) (ci := 1) (v := .int vl) (C := RX1) (T := TX1) (N := 9) hx hb hts (by decide +kernel) hown hK hP 0 rfl rfl 8 (by decide) (hts (.fieldLink RX1 72 "FamilyProbes" "lastValue" "I") (by decide +kernel)) (fun _ h9 => h9) rfl dX1_value_1 ?_
  exact W.iret (v := vl) hx hb hr (fun tE ht hW => ⟨⟨vl, (sS, sP, sQ, sE, ec, sc, vl, LP, sT), rfl, by first | (simp only [gS, gP, gQ, gE, gec, gsc, gvl, gL, gT, eq_self, ↓reduceIte, Bool.false_eq_true, Bool.not_false, Bool.not_true, Bool.and_true, Bool.and_false, Bool.true_and, Bool.false_and, decide_true, decide_false] <;> first | done | decide) | (simp [gS, gP, gQ, gE, gec, gsc, gvl, gL, gT]; done), by rw [ht]; exact hP, va_K.moved hW.alike hK, hD⟩, hS.F ht⟩) hS.2.2 dX1_value_4
set_option maxHeartbeats 8000000 in
set_option maxRecDepth 100000 in
theorem k_is (l : Launch) (D : va_G) (F : XF) (u : XS) (hok : xOk F u) (sz : Nat) (p0 : Int32) (p1 : Int32) : Met l yX1_is wsX1_is ({ frames := 2, cells := 0, slots := 0, locals := 42 }) (xPc D F u sz [.ref F.1, .int p0, .int p1]) (va_Qi (fun (r : Int32) (v : XS) => (r, v) = sIs u p0 p1) (xB D F (va_A (xW F u) sz)) (va_A (xW F u) sz)) 0 0 (va_A (xW F u) sz) := by
  obtain ⟨sS, sP, sQ, sE, ec, sc, vl, LP, sT⟩ := u
  refine Met.ofW (cc := cX1_is) (maxL := 4) (ret := (some .boolean)) (by decide) rfl ?_
  intro p e s m args below meth c s₁ B hml hv
  obtain ⟨rfl, hsz, hP, hK, hD0, hN, hZ⟩ := hv
  have hx := B.exec
  have hb := B.bytes
  have hr := B.returns
  have hts := atoms_spec (ws := wsX1_is) B.pre
  have hown : s.vm.findClass RX1 = some m.cls := findClass_of_methodNamed B.named
  have hlocks := B.notSynchronized
  subst hsz
  have hD := hD0.self (sz := s.heap.size)
  generalize hAe : va_A (xW F (sS, sP, sQ, sE, ec, sc, vl, LP, sT)) s.heap.size = A at hD hZ ⊢
  have hA : ∀ q : Nat, s.heap.size ≤ q → A q := fun q h => by rw [← hAe]; exact Or.inr h
  have hS : va_S A s.heap s.heap [] := va_S.rf
  obtain ⟨tk, tm, tr, hztk, httk, hztm, httm, hztr, httr⟩ := id hZ
  refine xHeap (C := fun H => va_P D vwCl (xW F (sS, sP, sQ, sE, ec, sc, vl, LP, sT)) H ∧ va_S A s.heap H []) ⟨hP, hS⟩ (fun H hC => ?_)
  obtain ⟨hP, hS⟩ := hC
  have hl := lv_entry ([.ref F.1, .int p0, .int p1]) (n := 4) (Nat.le_of_ble_eq_true rfl)
  rw [lg_entry_eq]
  generalize (lg_sl ([.ref F.1, .int p0, .int p1]) ++ List.replicate (4 - (lg_sl ([.ref F.1, .int p0, .int p1])).length) Slot.unset).toArray = ls at hl ⊢
  have hl : lv_has ls 4 [(0, .ref F.1), (1, .int p0), (2, .int p1)] := hl
  refine lv_iload_n hx hb dX1_is_0 rfl (lv_at hl 1 rfl) ?_
  refine lv_bipush (v := 8) hx hb dX1_is_1 (by decide) ?_
  refine vp_callSi (va_Run.run (va_runS (As := [.int p0, .int 8]) (rest := []) ⟨hx, hb, hml, hown, hts⟩ (k_isBelow l p0 8) (va_cwS 2 hts gX1_is_X1_isBelow rfl rfl rfl (by decide +kernel) ⟨Nat.le_of_ble_eq_true rfl, Nat.le_of_ble_eq_true rfl⟩) preEq rfl rfl hl.1 rfl (lv_room (Nat.le_of_ble_eq_true rfl)) dX1_is_3 ⟨Nat.le_of_ble_eq_true rfl, Nat.le_of_ble_eq_true rfl⟩)) (fun r1 hw2 => ?_)
  rcases bI_c hw2 with ⟨rfl, b3⟩ | ⟨rfl, b3⟩
  · refine lv_if_eq (tgt := 18) hx hb dX1_is_6 (by decide) (fun cz => absurd cz (by decide)) (fun _ => ?_)
    refine lv_iload_n hx hb dX1_is_9 rfl (lv_at hl 2 rfl) ?_
    refine lv_bipush (v := 9) hx hb dX1_is_10 (by decide) ?_
    refine vp_callSi (va_Run.run (va_runS (As := [.int p1, .int 9]) (rest := []) ⟨hx, hb, hml, hown, hts⟩ (k_isBelow l p1 9) (va_cwS 2 hts gX1_is_X1_isBelow rfl rfl rfl (by decide +kernel) ⟨Nat.le_of_ble_eq_true rfl, Nat.le_of_ble_eq_true rfl⟩) preEq rfl rfl hl.1 rfl (lv_room (Nat.le_of_ble_eq_true rfl)) dX1_is_12 ⟨Nat.le_of_ble_eq_true rfl, Nat.le_of_ble_eq_true rfl⟩)) (fun r4 hw5 => ?_)
    rcases bI_c hw5 with ⟨rfl, b6⟩ | ⟨rfl, b6⟩
    · refine lv_if_ne (tgt := 20) hx hb dX1_is_15 (by decide) (fun _ => ?_) (fun cz => absurd cz (by decide))
      refine lv_aload_n hx hb dX1_is_20 rfl (lv_at hl 0 rfl) ?_
      refine va_get (D := D) (ci := 1) (v := .ref F.2.2.2.1) (C := RX1) (T := TX1) (N := 9) hx hb hts (by decide +kernel) hown hK hP 0 rfl rfl 2 (by decide) (hts (.fieldLink RX1 21 "FamilyProbes" "slots" "[LFamilyProbes$Thing;") (by decide +kernel)) (fun _ h9 => h9) rfl dX1_is_21 ?_
      refine lv_iload_n hx hb dX1_is_24 rfl (lv_at hl 1 rfl) ?_
      refine va_aldq (f := sS) hx hb hK hP 1 0 rfl rfl (isB_in8 b3) dX1_is_25 ?_
      rcases ho7 : (sS p0.toNatClampNeg) with _ | q8
      · refine lv_astore_nN (lv' := [(3, .null), (0, .ref F.1), (1, .int p0), (2, .int p1)]) hx hb dX1_is_26 rfl hl (by decide) rfl (fun ls hl => ?_)
        refine lv_aload_nN hx hb dX1_is_27 rfl (lv_at hl 0 rfl) ?_
        refine lv_ifnullN (tgt := 43) hx hb dX1_is_28 (by decide) ?_
        refine lv_iconst (v := 0) hx hb dX1_is_43 (by decide) ?_
        exact W.zret (v := 0) hx hb hr rfl (fun tE ht hW => ⟨⟨0, (sS, sP, sQ, sE, ec, sc, vl, LP, sT), rfl, by first | (simp only [sIs, bI, gS, gP, gQ, gE, gec, gsc, gvl, gL, gT, b3, b6, ho7, eq_self, ↓reduceIte, Bool.false_eq_true, Bool.not_false, Bool.not_true, Bool.and_true, Bool.and_false, Bool.true_and, Bool.false_and, decide_true, decide_false] <;> first | done | decide) | (simp [sIs, bI, gS, gP, gQ, gE, gec, gsc, gvl, gL, gT, b3, b6, ho7]; done), by rw [ht]; exact hP, va_K.moved hW.alike hK, hD⟩, hS.F ht⟩) hS.2.2 dX1_is_44
      · refine lv_astore_n (lv' := [(3, .ref q8), (0, .ref F.1), (1, .int p0), (2, .int p1)]) hx hb dX1_is_26 rfl hl (by decide) rfl (fun ls hl => ?_)
        refine lv_aload_n hx hb dX1_is_27 rfl (lv_at hl 0 rfl) ?_
        refine lv_ifnull hx hb dX1_is_28 ?_
        refine lv_aload_n hx hb dX1_is_31 rfl (lv_at hl 0 rfl) ?_
        refine lv_iload_n hx hb dX1_is_32 rfl (lv_at hl 3 rfl) ?_
        refine vp_callSi (va_Run.run (va_runS (As := [.ref q8, .int p1]) (rest := []) ⟨hx, hb, hml, hown, hts⟩ (k_isOfType l D q8 (sT q8) (hok.2.2.2.2.1 q8 (hok.1 p0.toNatClampNeg _ ho7)) p1) (va_cwS 2 hts gX1_is_X1_isOfType rfl rfl rfl (by decide +kernel) ⟨Nat.le_of_ble_eq_true rfl, Nat.le_of_ble_eq_true rfl⟩) (rPre hN hK (x_one hP (hok.1 p0.toNatClampNeg _ ho7)) hS hZ xFalse _) rfl rfl hl.1 rfl (lv_room (Nat.le_of_ble_eq_true rfl)) dX1_is_33 ⟨Nat.le_of_ble_eq_true rfl, Nat.le_of_ble_eq_true rfl⟩)) (fun r9 hw10 => ?_)
        rcases bI_c hw10 with ⟨rfl, b11⟩ | ⟨rfl, b11⟩
        · refine lv_if_eq (tgt := 43) hx hb dX1_is_36 (by decide) (fun cz => absurd cz (by decide)) (fun _ => ?_)
          refine lv_iconst (v := 1) hx hb dX1_is_39 (by decide) ?_
          refine lv_goto (tgt := 44) hx hb dX1_is_40 (by decide) ?_
          exact W.zret (v := 1) hx hb hr rfl (fun tE ht hW => ⟨⟨1, (sS, sP, sQ, sE, ec, sc, vl, LP, sT), rfl, by first | (simp only [sIs, bI, gS, gP, gQ, gE, gec, gsc, gvl, gL, gT, b3, b6, ho7, b11, eq_self, ↓reduceIte, Bool.false_eq_true, Bool.not_false, Bool.not_true, Bool.and_true, Bool.and_false, Bool.true_and, Bool.false_and, decide_true, decide_false] <;> first | done | decide) | (simp [sIs, bI, gS, gP, gQ, gE, gec, gsc, gvl, gL, gT, b3, b6, ho7, b11]; done), by rw [ht]; exact hP, va_K.moved hW.alike hK, hD⟩, hS.F ht⟩) hS.2.2 dX1_is_44
        · refine lv_if_eq (tgt := 43) hx hb dX1_is_36 (by decide) (fun _ => ?_) (fun cz => absurd cz (by decide))
          refine lv_iconst (v := 0) hx hb dX1_is_43 (by decide) ?_
          exact W.zret (v := 0) hx hb hr rfl (fun tE ht hW => ⟨⟨0, (sS, sP, sQ, sE, ec, sc, vl, LP, sT), rfl, by first | (simp only [sIs, bI, gS, gP, gQ, gE, gec, gsc, gvl, gL, gT, b3, b6, ho7, b11, eq_self, ↓reduceIte, Bool.false_eq_true, Bool.not_false, Bool.not_true, Bool.and_true, Bool.and_false, Bool.true_and, Bool.false_and, decide_true, decide_false] <;> first | done | decide) | (simp [sIs, bI, gS, gP, gQ, gE, gec, gsc, gvl, gL, gT, b3, b6, ho7, b11]; done), by rw [ht]; exact hP, va_K.moved hW.alike hK, hD⟩, hS.F ht⟩) hS.2.2 dX1_is_44
    · refine lv_if_ne (tgt := 20) hx hb dX1_is_15 (by decide) (fun cz => absurd cz (by decide)) (fun _ => ?_)
      refine lv_iconst (v := 0) hx hb dX1_is_18 (by decide) ?_
      exact W.zret (v := 0) hx hb hr rfl (fun tE ht hW => ⟨⟨0, (sS, sP, sQ, sE, ec, sc, vl, LP, sT), rfl, by first | (simp only [sIs, bI, gS, gP, gQ, gE, gec, gsc, gvl, gL, gT, b3, b6, eq_self, ↓reduceIte, Bool.false_eq_true, Bool.not_false, Bool.not_true, Bool.and_true, Bool.and_false, Bool.true_and, Bool.false_and, decide_true, decide_false] <;> first | done | decide) | (simp [sIs, bI, gS, gP, gQ, gE, gec, gsc, gvl, gL, gT, b3, b6]; done), by rw [ht]; exact hP, va_K.moved hW.alike hK, hD⟩, hS.F ht⟩) hS.2.2 dX1_is_19
  · refine lv_if_eq (tgt := 18) hx hb dX1_is_6 (by decide) (fun _ => ?_) (fun cz => absurd cz (by decide))
    refine lv_iconst (v := 0) hx hb dX1_is_18 (by decide) ?_
    exact W.zret (v := 0) hx hb hr rfl (fun tE ht hW => ⟨⟨0, (sS, sP, sQ, sE, ec, sc, vl, LP, sT), rfl, by first | (simp only [sIs, bI, gS, gP, gQ, gE, gec, gsc, gvl, gL, gT, b3, eq_self, ↓reduceIte, Bool.false_eq_true, Bool.not_false, Bool.not_true, Bool.and_true, Bool.and_false, Bool.true_and, Bool.false_and, decide_true, decide_false] <;> first | done | decide) | (simp [sIs, bI, gS, gP, gQ, gE, gec, gsc, gvl, gL, gT, b3]; done), by rw [ht]; exact hP, va_K.moved hW.alike hK, hD⟩, hS.F ht⟩) hS.2.2 dX1_is_19
set_option maxHeartbeats 8000000 in
set_option maxRecDepth 100000 in
theorem k_same (l : Launch) (D : va_G) (F : XF) (u : XS) (hok : xOk F u) (sz : Nat) (p0 : Int32) (p1 : Int32) : Met l yX1_same wsX1_same ({ frames := 1, cells := 0, slots := 0, locals := 21 }) (xPc D F u sz [.ref F.1, .int p0, .int p1]) (va_Qi (fun (r : Int32) (v : XS) => (r, v) = sSame u p0 p1) (xB D F (va_A (xW F u) sz)) (va_A (xW F u) sz)) 0 0 (va_A (xW F u) sz) := by
  obtain ⟨sS, sP, sQ, sE, ec, sc, vl, LP, sT⟩ := u
  refine Met.ofW (cc := cX1_same) (maxL := 3) (ret := (some .boolean)) (by decide) rfl ?_
  intro p e s m args below meth c s₁ B hml hv
  obtain ⟨rfl, hsz, hP, hK, hD0, hN, hZ⟩ := hv
  have hx := B.exec
  have hb := B.bytes
  have hr := B.returns
  have hts := atoms_spec (ws := wsX1_same) B.pre
  have hown : s.vm.findClass RX1 = some m.cls := findClass_of_methodNamed B.named
  have hlocks := B.notSynchronized
  subst hsz
  have hD := hD0.self (sz := s.heap.size)
  generalize hAe : va_A (xW F (sS, sP, sQ, sE, ec, sc, vl, LP, sT)) s.heap.size = A at hD hZ ⊢
  have hA : ∀ q : Nat, s.heap.size ≤ q → A q := fun q h => by rw [← hAe]; exact Or.inr h
  have hS : va_S A s.heap s.heap [] := va_S.rf
  obtain ⟨tk, tm, tr, hztk, httk, hztm, httm, hztr, httr⟩ := id hZ
  refine xHeap (C := fun H => va_P D vwCl (xW F (sS, sP, sQ, sE, ec, sc, vl, LP, sT)) H ∧ va_S A s.heap H []) ⟨hP, hS⟩ (fun H hC => ?_)
  obtain ⟨hP, hS⟩ := hC
  have hl := lv_entry ([.ref F.1, .int p0, .int p1]) (n := 3) (Nat.le_of_ble_eq_true rfl)
  rw [lg_entry_eq]
  generalize (lg_sl ([.ref F.1, .int p0, .int p1]) ++ List.replicate (3 - (lg_sl ([.ref F.1, .int p0, .int p1])).length) Slot.unset).toArray = ls at hl ⊢
  have hl : lv_has ls 3 [(0, .ref F.1), (1, .int p0), (2, .int p1)] := hl
  refine lv_iload_n hx hb dX1_same_0 rfl (lv_at hl 1 rfl) ?_
  refine lv_bipush (v := 8) hx hb dX1_same_1 (by decide) ?_
  refine vp_callSi (va_Run.run (va_runS (As := [.int p0, .int 8]) (rest := []) ⟨hx, hb, hml, hown, hts⟩ (k_isBelow l p0 8) (va_cwS 2 hts gX1_same_X1_isBelow rfl rfl rfl (by decide +kernel) ⟨Nat.le_of_ble_eq_true rfl, Nat.le_of_ble_eq_true rfl⟩) preEq rfl rfl hl.1 rfl (lv_room (Nat.le_of_ble_eq_true rfl)) dX1_same_3 ⟨Nat.le_of_ble_eq_true rfl, Nat.le_of_ble_eq_true rfl⟩)) (fun r1 hw2 => ?_)
  rcases bI_c hw2 with ⟨rfl, b3⟩ | ⟨rfl, b3⟩
  · refine lv_if_eq (tgt := 37) hx hb dX1_same_6 (by decide) (fun cz => absurd cz (by decide)) (fun _ => ?_)
    refine lv_iload_n hx hb dX1_same_9 rfl (lv_at hl 2 rfl) ?_
    refine lv_bipush (v := 8) hx hb dX1_same_10 (by decide) ?_
    refine vp_callSi (va_Run.run (va_runS (As := [.int p1, .int 8]) (rest := []) ⟨hx, hb, hml, hown, hts⟩ (k_isBelow l p1 8) (va_cwS 2 hts gX1_same_X1_isBelow rfl rfl rfl (by decide +kernel) ⟨Nat.le_of_ble_eq_true rfl, Nat.le_of_ble_eq_true rfl⟩) preEq rfl rfl hl.1 rfl (lv_room (Nat.le_of_ble_eq_true rfl)) dX1_same_12 ⟨Nat.le_of_ble_eq_true rfl, Nat.le_of_ble_eq_true rfl⟩)) (fun r4 hw5 => ?_)
    rcases bI_c hw5 with ⟨rfl, b6⟩ | ⟨rfl, b6⟩
    · refine lv_if_eq (tgt := 37) hx hb dX1_same_15 (by decide) (fun cz => absurd cz (by decide)) (fun _ => ?_)
      refine lv_aload_n hx hb dX1_same_18 rfl (lv_at hl 0 rfl) ?_
      refine va_get (D := D) (ci := 1) (v := .ref F.2.2.2.1) (C := RX1) (T := TX1) (N := 9) hx hb hts (by decide +kernel) hown hK hP 0 rfl rfl 2 (by decide) (hts (.fieldLink RX1 21 "FamilyProbes" "slots" "[LFamilyProbes$Thing;") (by decide +kernel)) (fun _ h9 => h9) rfl dX1_same_19 ?_
      refine lv_iload_n hx hb dX1_same_22 rfl (lv_at hl 1 rfl) ?_
      refine va_aldq (f := sS) hx hb hK hP 1 0 rfl rfl (isB_in8 b3) dX1_same_23 ?_
      refine lv_aload_n hx hb dX1_same_24 rfl (lv_at hl 0 rfl) ?_
      refine va_get (D := D) (ci := 1) (v := .ref F.2.2.2.1) (C := RX1) (T := TX1) (N := 9) hx hb hts (by decide +kernel) hown hK hP 0 rfl rfl 2 (by decide) (hts (.fieldLink RX1 21 "FamilyProbes" "slots" "[LFamilyProbes$Thing;") (by decide +kernel)) (fun _ h9 => h9) rfl dX1_same_25 ?_
      refine lv_iload_n hx hb dX1_same_28 rfl (lv_at hl 2 rfl) ?_
      refine va_aldq (f := sS) hx hb hK hP 1 0 rfl rfl (isB_in8 b6) dX1_same_29 ?_
      refine lv_acmp_ne (rx := (sS p0.toNatClampNeg)) (ry := (sS p1.toNatClampNeg)) (tgt := 37) hx hb dX1_same_30 (by decide) (fun c7 => ?_) (fun c7 => ?_)
      · refine lv_iconst (v := 0) hx hb dX1_same_37 (by decide) ?_
        exact W.zret (v := 0) hx hb hr rfl (fun tE ht hW => ⟨⟨0, (sS, sP, sQ, sE, ec, sc, vl, LP, sT), rfl, by first | (simp only [sSame, bI, gS, gP, gQ, gE, gec, gsc, gvl, gL, gT, b3, b6, c7, eq_self, ↓reduceIte, Bool.false_eq_true, Bool.not_false, Bool.not_true, Bool.and_true, Bool.and_false, Bool.true_and, Bool.false_and, decide_true, decide_false] <;> first | done | decide) | (simp [sSame, bI, gS, gP, gQ, gE, gec, gsc, gvl, gL, gT, b3, b6, c7]; done), by rw [ht]; exact hP, va_K.moved hW.alike hK, hD⟩, hS.F ht⟩) hS.2.2 dX1_same_38
      · refine lv_iconst (v := 1) hx hb dX1_same_33 (by decide) ?_
        refine lv_goto (tgt := 38) hx hb dX1_same_34 (by decide) ?_
        exact W.zret (v := 1) hx hb hr rfl (fun tE ht hW => ⟨⟨1, (sS, sP, sQ, sE, ec, sc, vl, LP, sT), rfl, by first | (simp only [sSame, bI, gS, gP, gQ, gE, gec, gsc, gvl, gL, gT, b3, b6, eq_true c7, eq_self, ↓reduceIte, Bool.false_eq_true, Bool.not_false, Bool.not_true, Bool.and_true, Bool.and_false, Bool.true_and, Bool.false_and, decide_true, decide_false] <;> first | done | decide) | (simp only [sSame, bI, gS, gP, gQ, gE, gec, gsc, gvl, gL, gT, b3, b6, c7, eq_self, ↓reduceIte, Bool.false_eq_true, Bool.not_false, Bool.not_true, Bool.and_true, Bool.and_false, Bool.true_and, Bool.false_and, decide_true, decide_false] <;> first | done | decide) | (simp [sSame, bI, gS, gP, gQ, gE, gec, gsc, gvl, gL, gT, b3, b6, c7]; done) | (simp [sSame, bI, gS, gP, gQ, gE, gec, gsc, gvl, gL, gT, b3, b6, eq_true c7]; done), by rw [ht]; exact hP, va_K.moved hW.alike hK, hD⟩, hS.F ht⟩) hS.2.2 dX1_same_38
    · refine lv_if_eq (tgt := 37) hx hb dX1_same_15 (by decide) (fun _ => ?_) (fun cz => absurd cz (by decide))
      refine lv_iconst (v := 0) hx hb dX1_same_37 (by decide) ?_
      exact W.zret (v := 0) hx hb hr rfl (fun tE ht hW => ⟨⟨0, (sS, sP, sQ, sE, ec, sc, vl, LP, sT), rfl, by first | (simp only [sSame, bI, gS, gP, gQ, gE, gec, gsc, gvl, gL, gT, b3, b6, eq_self, ↓reduceIte, Bool.false_eq_true, Bool.not_false, Bool.not_true, Bool.and_true, Bool.and_false, Bool.true_and, Bool.false_and, decide_true, decide_false] <;> first | done | decide) | (simp [sSame, bI, gS, gP, gQ, gE, gec, gsc, gvl, gL, gT, b3, b6]; done), by rw [ht]; exact hP, va_K.moved hW.alike hK, hD⟩, hS.F ht⟩) hS.2.2 dX1_same_38
  · refine lv_if_eq (tgt := 37) hx hb dX1_same_6 (by decide) (fun _ => ?_) (fun cz => absurd cz (by decide))
    refine lv_iconst (v := 0) hx hb dX1_same_37 (by decide) ?_
    exact W.zret (v := 0) hx hb hr rfl (fun tE ht hW => ⟨⟨0, (sS, sP, sQ, sE, ec, sc, vl, LP, sT), rfl, by first | (simp only [sSame, bI, gS, gP, gQ, gE, gec, gsc, gvl, gL, gT, b3, eq_self, ↓reduceIte, Bool.false_eq_true, Bool.not_false, Bool.not_true, Bool.and_true, Bool.and_false, Bool.true_and, Bool.false_and, decide_true, decide_false] <;> first | done | decide) | (simp [sSame, bI, gS, gP, gQ, gE, gec, gsc, gvl, gL, gT, b3]; done), by rw [ht]; exact hP, va_K.moved hW.alike hK, hD⟩, hS.F ht⟩) hS.2.2 dX1_same_38
set_option maxHeartbeats 8000000 in
set_option maxRecDepth 100000 in
theorem k_putInRow (l : Launch) (D : va_G) (F : XF) (u : XS) (hok : xOk F u) (sz : Nat) (p0 : Int32) (p1 : Int32) (p2 : Option Nat) (hp2 : ∀ q, p2 = some q → q ∈ gL u) (hr0 : vp_in p0 4) (hr1 : vp_in p1 4) : Met l yX1_putInRow wsX1_putInRow ({ frames := 2, cells := 0, slots := 0, locals := 42 }) (xPc D F u sz [.ref F.1, .int p0, .int p1, va_rf p2]) (va_Qi (fun (r : Int32) (v : XS) => (r, v) = sPut u p0 p1 p2) (xB D F (va_A (xW F u) sz)) (va_A (xW F u) sz)) 0 0 (va_A (xW F u) sz) := by
  obtain ⟨sS, sP, sQ, sE, ec, sc, vl, LP, sT⟩ := u
  rcases p2 with _ | q0
  · refine Met.ofW (cc := cX1_putInRow) (maxL := 4) (ret := (some .int)) (by decide) rfl ?_
    intro p e s m args below meth c s₁ B hml hv
    obtain ⟨rfl, hsz, hP, hK, hD0, hN, hZ⟩ := hv
    have hx := B.exec
    have hb := B.bytes
    have hr := B.returns
    have hts := atoms_spec (ws := wsX1_putInRow) B.pre
    have hown : s.vm.findClass RX1 = some m.cls := findClass_of_methodNamed B.named
    have hlocks := B.notSynchronized
    subst hsz
    have hD := hD0.self (sz := s.heap.size)
    generalize hAe : va_A (xW F (sS, sP, sQ, sE, ec, sc, vl, LP, sT)) s.heap.size = A at hD hZ ⊢
    have hA : ∀ q : Nat, s.heap.size ≤ q → A q := fun q h => by rw [← hAe]; exact Or.inr h
    have hS : va_S A s.heap s.heap [] := va_S.rf
    obtain ⟨tk, tm, tr, hztk, httk, hztm, httm, hztr, httr⟩ := id hZ
    refine xHeap (C := fun H => va_P D vwCl (xW F (sS, sP, sQ, sE, ec, sc, vl, LP, sT)) H ∧ va_S A s.heap H []) ⟨hP, hS⟩ (fun H hC => ?_)
    obtain ⟨hP, hS⟩ := hC
    have hl := lv_entry ([.ref F.1, .int p0, .int p1, va_rf none]) (n := 4) (Nat.le_of_ble_eq_true rfl)
    rw [lg_entry_eq]
    generalize (lg_sl ([.ref F.1, .int p0, .int p1, va_rf none]) ++ List.replicate (4 - (lg_sl ([.ref F.1, .int p0, .int p1, va_rf none])).length) Slot.unset).toArray = ls at hl ⊢
    have hl : lv_has ls 4 [(0, .ref F.1), (1, .int p0), (2, .int p1), (3, .null)] := hl
    refine lv_aload_nN hx hb dX1_putInRow_0 rfl (lv_at hl 3 rfl) ?_
    refine lv_ifnullN (tgt := 18) hx hb dX1_putInRow_1 (by decide) ?_
    refine lv_aload_n hx hb dX1_putInRow_18 rfl (lv_at hl 0 rfl) ?_
    refine va_get (D := D) (ci := 1) (v := .ref F.2.2.2.2.1) (C := RX1) (T := TX1) (N := 9) hx hb hts (by decide +kernel) hown hK hP 0 rfl rfl 3 (by decide) (hts (.fieldLink RX1 25 "FamilyProbes" "places" "[LFamilyProbes$Thing;") (by decide +kernel)) (fun _ h9 => h9) rfl dX1_putInRow_19 ?_
    refine lv_iload_n hx hb dX1_putInRow_22 rfl (lv_at hl 1 rfl) ?_
    refine lv_iconst (v := 4) hx hb dX1_putInRow_23 (by decide) ?_
    refine lv_imul hx hb dX1_putInRow_24 ?_
    refine lv_iload_n hx hb dX1_putInRow_25 rfl (lv_at hl 2 rfl) ?_
    refine lv_iadd hx hb dX1_putInRow_26 ?_
    refine lv_aload_nN hx hb dX1_putInRow_27 rfl (lv_at hl 3 rfl) ?_
    refine va_astqN hx hb hK hP hD hS 2 1 rfl rfl (rng16 hr0 hr1) dX1_putInRow_28 (fun H locs hP hD hS => ?_)
    have hP : va_P D vwCl (xW F (sS, (va_up sP ((p0 * 4) + p1).toNatClampNeg none), sQ, sE, ec, sc, vl, LP, sT)) H := hP
    have hD : va_D A (xW F (sS, (va_up sP ((p0 * 4) + p1).toNatClampNeg none), sQ, sE, ec, sc, vl, LP, sT)) := hD
    refine lv_iconst (v := 0) hx hb dX1_putInRow_29 (by decide) ?_
    exact W.iret (v := 0) hx hb hr (fun tE ht hW => ⟨⟨0, (sS, (va_up sP ((p0 * 4) + p1).toNatClampNeg none), sQ, sE, ec, sc, vl, LP, sT), rfl, by first | (simp only [sPut, fFit, uP, gS, gP, gQ, gE, gec, gsc, gvl, gL, gT, eq_self, ↓reduceIte, Bool.false_eq_true, Bool.not_false, Bool.not_true, Bool.and_true, Bool.and_false, Bool.true_and, Bool.false_and, decide_true, decide_false] <;> first | done | decide) | (simp [sPut, fFit, uP, gS, gP, gQ, gE, gec, gsc, gvl, gL, gT]; done), by rw [ht]; exact hP, va_K.moved hW.alike hK, hD⟩, hS.F ht⟩) hS.2.2 dX1_putInRow_30
  · refine Met.ofW (cc := cX1_putInRow) (maxL := 4) (ret := (some .int)) (by decide) rfl ?_
    intro p e s m args below meth c s₁ B hml hv
    obtain ⟨rfl, hsz, hP, hK, hD0, hN, hZ⟩ := hv
    have hx := B.exec
    have hb := B.bytes
    have hr := B.returns
    have hts := atoms_spec (ws := wsX1_putInRow) B.pre
    have hown : s.vm.findClass RX1 = some m.cls := findClass_of_methodNamed B.named
    have hlocks := B.notSynchronized
    subst hsz
    have hD := hD0.self (sz := s.heap.size)
    generalize hAe : va_A (xW F (sS, sP, sQ, sE, ec, sc, vl, LP, sT)) s.heap.size = A at hD hZ ⊢
    have hA : ∀ q : Nat, s.heap.size ≤ q → A q := fun q h => by rw [← hAe]; exact Or.inr h
    have hS : va_S A s.heap s.heap [] := va_S.rf
    obtain ⟨tk, tm, tr, hztk, httk, hztm, httm, hztr, httr⟩ := id hZ
    refine xHeap (C := fun H => va_P D vwCl (xW F (sS, sP, sQ, sE, ec, sc, vl, LP, sT)) H ∧ va_S A s.heap H []) ⟨hP, hS⟩ (fun H hC => ?_)
    obtain ⟨hP, hS⟩ := hC
    have hl := lv_entry ([.ref F.1, .int p0, .int p1, va_rf (some q0)]) (n := 4) (Nat.le_of_ble_eq_true rfl)
    rw [lg_entry_eq]
    generalize (lg_sl ([.ref F.1, .int p0, .int p1, va_rf (some q0)]) ++ List.replicate (4 - (lg_sl ([.ref F.1, .int p0, .int p1, va_rf (some q0)])).length) Slot.unset).toArray = ls at hl ⊢
    have hl : lv_has ls 4 [(0, .ref F.1), (1, .int p0), (2, .int p1), (3, .ref q0)] := hl
    refine lv_aload_n hx hb dX1_putInRow_0 rfl (lv_at hl 3 rfl) ?_
    refine lv_ifnull hx hb dX1_putInRow_1 ?_
    refine lv_aload_n hx hb dX1_putInRow_4 rfl (lv_at hl 3 rfl) ?_
    refine va_gets hx hb hztr hS hown (hts (.fieldLink RX1 141 "FamilyProbes" "TYPE_OF_ROW" "[I") (by decide +kernel)) (fun _ h9 => h9) dX1_putInRow_5 ?_
    refine lv_iload_n hx hb dX1_putInRow_8 rfl (lv_at hl 1 rfl) ?_
    refine va_ti (v := .int (rowV p0.toNatClampNeg)) hx hb httr hS hr0 rfl dX1_putInRow_9 ?_
    refine vp_callSi (va_Run.run (va_runS (As := [.ref q0, .int (rowV p0.toNatClampNeg)]) (rest := []) ⟨hx, hb, hml, hown, hts⟩ (k_isOfType l D q0 (sT q0) (hok.2.2.2.2.1 q0 (hp2 q0 rfl)) (rowV p0.toNatClampNeg)) (va_cwS 2 hts gX1_putInRow_X1_isOfType rfl rfl rfl (by decide +kernel) ⟨Nat.le_of_ble_eq_true rfl, Nat.le_of_ble_eq_true rfl⟩) (rPre hN hK (x_one hP (hp2 q0 rfl)) hS hZ xFalse _) rfl rfl hl.1 rfl (lv_room (Nat.le_of_ble_eq_true rfl)) dX1_putInRow_10 ⟨Nat.le_of_ble_eq_true rfl, Nat.le_of_ble_eq_true rfl⟩)) (fun r1 hw2 => ?_)
    rcases bI_c hw2 with ⟨rfl, b3⟩ | ⟨rfl, b3⟩
    · refine lv_if_ne (tgt := 18) hx hb dX1_putInRow_13 (by decide) (fun _ => ?_) (fun cz => absurd cz (by decide))
      refine lv_aload_n hx hb dX1_putInRow_18 rfl (lv_at hl 0 rfl) ?_
      refine va_get (D := D) (ci := 1) (v := .ref F.2.2.2.2.1) (C := RX1) (T := TX1) (N := 9) hx hb hts (by decide +kernel) hown hK hP 0 rfl rfl 3 (by decide) (hts (.fieldLink RX1 25 "FamilyProbes" "places" "[LFamilyProbes$Thing;") (by decide +kernel)) (fun _ h9 => h9) rfl dX1_putInRow_19 ?_
      refine lv_iload_n hx hb dX1_putInRow_22 rfl (lv_at hl 1 rfl) ?_
      refine lv_iconst (v := 4) hx hb dX1_putInRow_23 (by decide) ?_
      refine lv_imul hx hb dX1_putInRow_24 ?_
      refine lv_iload_n hx hb dX1_putInRow_25 rfl (lv_at hl 2 rfl) ?_
      refine lv_iadd hx hb dX1_putInRow_26 ?_
      refine lv_aload_n hx hb dX1_putInRow_27 rfl (lv_at hl 3 rfl) ?_
      obtain ⟨k4, hk4⟩ := va_pl_get (X := xX F (sS, sP, sQ, sE, ec, sc, vl, LP, sT)) (f := thP sT) (hp2 q0 rfl)
      refine va_astq hx hb hK hP hD hS 2 1 k4 0 rfl (r := (RX0, TX0, 6)) rfl hk4 rfl (rng16 hr0 hr1) dX1_putInRow_28 (fun H locs hP hD hS => ?_)
      have hP : va_P D vwCl (xW F (sS, (va_up sP ((p0 * 4) + p1).toNatClampNeg (some q0)), sQ, sE, ec, sc, vl, LP, sT)) H := hP
      have hD : va_D A (xW F (sS, (va_up sP ((p0 * 4) + p1).toNatClampNeg (some q0)), sQ, sE, ec, sc, vl, LP, sT)) := hD
      refine lv_iconst (v := 0) hx hb dX1_putInRow_29 (by decide) ?_
      exact W.iret (v := 0) hx hb hr (fun tE ht hW => ⟨⟨0, (sS, (va_up sP ((p0 * 4) + p1).toNatClampNeg (some q0)), sQ, sE, ec, sc, vl, LP, sT), rfl, by first | (simp only [sPut, fFit, uP, gS, gP, gQ, gE, gec, gsc, gvl, gL, gT, b3, eq_self, ↓reduceIte, Bool.false_eq_true, Bool.not_false, Bool.not_true, Bool.and_true, Bool.and_false, Bool.true_and, Bool.false_and, decide_true, decide_false] <;> first | done | decide) | (simp [sPut, fFit, uP, gS, gP, gQ, gE, gec, gsc, gvl, gL, gT, b3]; done), by rw [ht]; exact hP, va_K.moved hW.alike hK, hD⟩, hS.F ht⟩) hS.2.2 dX1_putInRow_30
    · refine lv_if_ne (tgt := 18) hx hb dX1_putInRow_13 (by decide) (fun cz => absurd cz (by decide)) (fun _ => ?_)
      refine lv_iconst (v := 3) hx hb dX1_putInRow_16 (by decide) ?_
      exact W.iret (v := 3) hx hb hr (fun tE ht hW => ⟨⟨3, (sS, sP, sQ, sE, ec, sc, vl, LP, sT), rfl, by first | (simp only [sPut, fFit, uP, gS, gP, gQ, gE, gec, gsc, gvl, gL, gT, b3, eq_self, ↓reduceIte, Bool.false_eq_true, Bool.not_false, Bool.not_true, Bool.and_true, Bool.and_false, Bool.true_and, Bool.false_and, decide_true, decide_false] <;> first | done | decide) | (simp [sPut, fFit, uP, gS, gP, gQ, gE, gec, gsc, gvl, gL, gT, b3]; done), by rw [ht]; exact hP, va_K.moved hW.alike hK, hD⟩, hS.F ht⟩) hS.2.2 dX1_putInRow_17
set_option maxHeartbeats 8000000 in
set_option maxRecDepth 100000 in
theorem k_store (l : Launch) (D : va_G) (F : XF) (u : XS) (hok : xOk F u) (sz : Nat) (p0 : Int32) (p1 : Int32) (p2 : Int32) : Met l yX1_store wsX1_store ({ frames := 3, cells := 0, slots := 0, locals := 65 }) (xPc D F u sz [.ref F.1, .int p0, .int p1, .int p2]) (va_Qi (fun (r : Int32) (v : XS) => (r, v) = sStore u p0 p1 p2) (xB D F (va_A (xW F u) sz)) (va_A (xW F u) sz)) 0 0 (va_A (xW F u) sz) := by
  obtain ⟨sS, sP, sQ, sE, ec, sc, vl, LP, sT⟩ := u
  refine Met.ofW (cc := cX1_store) (maxL := 4) (ret := (some .int)) (by decide) rfl ?_
  intro p e s m args below meth c s₁ B hml hv
  obtain ⟨rfl, hsz, hP, hK, hD0, hN, hZ⟩ := hv
  have hx := B.exec
  have hb := B.bytes
  have hr := B.returns
  have hts := atoms_spec (ws := wsX1_store) B.pre
  have hown : s.vm.findClass RX1 = some m.cls := findClass_of_methodNamed B.named
  have hlocks := B.notSynchronized
  subst hsz
  have hD := hD0.self (sz := s.heap.size)
  generalize hAe : va_A (xW F (sS, sP, sQ, sE, ec, sc, vl, LP, sT)) s.heap.size = A at hD hZ ⊢
  have hA : ∀ q : Nat, s.heap.size ≤ q → A q := fun q h => by rw [← hAe]; exact Or.inr h
  have hS : va_S A s.heap s.heap [] := va_S.rf
  obtain ⟨tk, tm, tr, hztk, httk, hztm, httm, hztr, httr⟩ := id hZ
  refine xHeap (C := fun H => va_P D vwCl (xW F (sS, sP, sQ, sE, ec, sc, vl, LP, sT)) H ∧ va_S A s.heap H []) ⟨hP, hS⟩ (fun H hC => ?_)
  obtain ⟨hP, hS⟩ := hC
  have hl := lv_entry ([.ref F.1, .int p0, .int p1, .int p2]) (n := 4) (Nat.le_of_ble_eq_true rfl)
  rw [lg_entry_eq]
  generalize (lg_sl ([.ref F.1, .int p0, .int p1, .int p2]) ++ List.replicate (4 - (lg_sl ([.ref F.1, .int p0, .int p1, .int p2])).length) Slot.unset).toArray = ls at hl ⊢
  have hl : lv_has ls 4 [(0, .ref F.1), (1, .int p0), (2, .int p1), (3, .int p2)] := hl
  refine lv_iload_n hx hb dX1_store_0 rfl (lv_at hl 1 rfl) ?_
  refine lv_iconst (v := 4) hx hb dX1_store_1 (by decide) ?_
  refine vp_callSi (va_Run.run (va_runS (As := [.int p0, .int 4]) (rest := []) ⟨hx, hb, hml, hown, hts⟩ (k_isBelow l p0 4) (va_cwS 2 hts gX1_store_X1_isBelow rfl rfl rfl (by decide +kernel) ⟨Nat.le_of_ble_eq_true rfl, Nat.le_of_ble_eq_true rfl⟩) preEq rfl rfl hl.1 rfl (lv_room (Nat.le_of_ble_eq_true rfl)) dX1_store_2 ⟨Nat.le_of_ble_eq_true rfl, Nat.le_of_ble_eq_true rfl⟩)) (fun r1 hw2 => ?_)
  rcases bI_c hw2 with ⟨rfl, b3⟩ | ⟨rfl, b3⟩
  · refine lv_if_eq (tgt := 17) hx hb dX1_store_5 (by decide) (fun cz => absurd cz (by decide)) (fun _ => ?_)
    refine lv_iload_n hx hb dX1_store_8 rfl (lv_at hl 3 rfl) ?_
    refine lv_bipush (v := 8) hx hb dX1_store_9 (by decide) ?_
    refine vp_callSi (va_Run.run (va_runS (As := [.int p2, .int 8]) (rest := []) ⟨hx, hb, hml, hown, hts⟩ (k_isBelow l p2 8) (va_cwS 2 hts gX1_store_X1_isBelow rfl rfl rfl (by decide +kernel) ⟨Nat.le_of_ble_eq_true rfl, Nat.le_of_ble_eq_true rfl⟩) preEq rfl rfl hl.1 rfl (lv_room (Nat.le_of_ble_eq_true rfl)) dX1_store_11 ⟨Nat.le_of_ble_eq_true rfl, Nat.le_of_ble_eq_true rfl⟩)) (fun r4 hw5 => ?_)
    rcases bI_c hw5 with ⟨rfl, b6⟩ | ⟨rfl, b6⟩
    · refine lv_if_ne (tgt := 19) hx hb dX1_store_14 (by decide) (fun _ => ?_) (fun cz => absurd cz (by decide))
      refine lv_iload_n hx hb dX1_store_19 rfl (lv_at hl 2 rfl) ?_
      refine lv_iconst (v := 4) hx hb dX1_store_20 (by decide) ?_
      refine vp_callSi (va_Run.run (va_runS (As := [.int p1, .int 4]) (rest := []) ⟨hx, hb, hml, hown, hts⟩ (k_isBelow l p1 4) (va_cwS 2 hts gX1_store_X1_isBelow rfl rfl rfl (by decide +kernel) ⟨Nat.le_of_ble_eq_true rfl, Nat.le_of_ble_eq_true rfl⟩) preEq rfl rfl hl.1 rfl (lv_room (Nat.le_of_ble_eq_true rfl)) dX1_store_21 ⟨Nat.le_of_ble_eq_true rfl, Nat.le_of_ble_eq_true rfl⟩)) (fun r7 hw8 => ?_)
      rcases bI_c hw8 with ⟨rfl, b9⟩ | ⟨rfl, b9⟩
      · refine lv_if_ne (tgt := 29) hx hb dX1_store_24 (by decide) (fun _ => ?_) (fun cz => absurd cz (by decide))
        refine lv_aload_n hx hb dX1_store_29 rfl (lv_at hl 0 rfl) ?_
        refine lv_iload_n hx hb dX1_store_30 rfl (lv_at hl 1 rfl) ?_
        refine lv_iload_n hx hb dX1_store_31 rfl (lv_at hl 2 rfl) ?_
        refine lv_aload_n hx hb dX1_store_32 rfl (lv_at hl 0 rfl) ?_
        refine va_get (D := D) (ci := 1) (v := .ref F.2.2.2.1) (C := RX1) (T := TX1) (N := 9) hx hb hts (by decide +kernel) hown hK hP 0 rfl rfl 2 (by decide) (hts (.fieldLink RX1 21 "FamilyProbes" "slots" "[LFamilyProbes$Thing;") (by decide +kernel)) (fun _ h9 => h9) rfl dX1_store_33 ?_
        refine lv_iload_n hx hb dX1_store_36 rfl (lv_at hl 3 rfl) ?_
        refine va_aldq (f := sS) hx hb hK hP 1 0 rfl rfl (isB_in8 b6) dX1_store_37 ?_
        have hf10 := xFree hD hS hA
        refine va_calli (va_runV (As := [.int p0, .int p1, va_rf (sS p2.toNatClampNeg)]) (rest := []) ⟨hx, hb, hml, hown, hts⟩ (k_putInRow l D F (sS, sP, sQ, sE, ec, sc, vl, LP, sT) hok H.size p0 p1 (sS p2.toNatClampNeg) (fun _ h => hok.1 p2.toNatClampNeg _ h) (isB_in4 b3) (isB_in4 b9)) (cwV 3 hts gX1_store_X1_putInRow rfl rfl rfl (by decide +kernel) ⟨Nat.le_of_ble_eq_true rfl, Nat.le_of_ble_eq_true rfl⟩) (xPre hN hK hP hD hS hA hZ _) rfl rfl hl.1 rfl (lv_room (Nat.le_of_ble_eq_true rfl)) dX1_store_38 ⟨Nat.le_of_ble_eq_true rfl, Nat.le_of_ble_eq_true rfl⟩) hS (fun q _ h => hf10 q h) hf10 (fun r11 v12 t14 H1 locs ht hvm hw13 hB hz1 hk1 hS => ?_)
        obtain ⟨hP1, hK1, hD1⟩ := hB
        rw [ht] at hP1
        replace hD1 := hD1.weaken (fun _ _ _ h => hf10 _ h)
        generalize H1 = H at hP1 hS ⊢
        rcases sPut_c hw13 with ⟨rfl, rfl, b15⟩ | ⟨rfl, rfl, b16⟩
        · have hP : va_P D vwCl (xW F (sS, (va_up sP (p0 * 4 + p1).toNatClampNeg (sS p2.toNatClampNeg)), sQ, sE, ec, sc, vl, LP, sT)) H := hP1
          have hD : va_D A (xW F (sS, (va_up sP (p0 * 4 + p1).toNatClampNeg (sS p2.toNatClampNeg)), sQ, sE, ec, sc, vl, LP, sT)) := hD1
          exact W.iret (v := 0) hx hb hr (fun tE ht hW => ⟨⟨0, (sS, (va_up sP (p0 * 4 + p1).toNatClampNeg (sS p2.toNatClampNeg)), sQ, sE, ec, sc, vl, LP, sT), rfl, by first | (simp only [sStore, sPut, uP, gS, gP, gQ, gE, gec, gsc, gvl, gL, gT, b3, b6, b9, b15, eq_self, ↓reduceIte, Bool.false_eq_true, Bool.not_false, Bool.not_true, Bool.and_true, Bool.and_false, Bool.true_and, Bool.false_and, decide_true, decide_false] <;> first | done | decide) | (simp [sStore, sPut, uP, gS, gP, gQ, gE, gec, gsc, gvl, gL, gT, b3, b6, b9, b15]; done), by rw [ht]; exact hP, va_K.moved hW.alike hK, hD⟩, hS.F ht⟩) hS.2.2 dX1_store_41
        · have hP : va_P D vwCl (xW F (sS, sP, sQ, sE, ec, sc, vl, LP, sT)) H := hP1
          have hD : va_D A (xW F (sS, sP, sQ, sE, ec, sc, vl, LP, sT)) := hD1
          exact W.iret (v := 3) hx hb hr (fun tE ht hW => ⟨⟨3, (sS, sP, sQ, sE, ec, sc, vl, LP, sT), rfl, by first | (simp only [sStore, sPut, uP, gS, gP, gQ, gE, gec, gsc, gvl, gL, gT, b3, b6, b9, b16, eq_self, ↓reduceIte, Bool.false_eq_true, Bool.not_false, Bool.not_true, Bool.and_true, Bool.and_false, Bool.true_and, Bool.false_and, decide_true, decide_false] <;> first | done | decide) | (simp [sStore, sPut, uP, gS, gP, gQ, gE, gec, gsc, gvl, gL, gT, b3, b6, b9, b16]; done), by rw [ht]; exact hP, va_K.moved hW.alike hK, hD⟩, hS.F ht⟩) hS.2.2 dX1_store_41
      · refine lv_if_ne (tgt := 29) hx hb dX1_store_24 (by decide) (fun cz => absurd cz (by decide)) (fun _ => ?_)
        refine lv_iconst (v := 4) hx hb dX1_store_27 (by decide) ?_
        exact W.iret (v := 4) hx hb hr (fun tE ht hW => ⟨⟨4, (sS, sP, sQ, sE, ec, sc, vl, LP, sT), rfl, by first | (simp only [sStore, sPut, uP, gS, gP, gQ, gE, gec, gsc, gvl, gL, gT, b3, b6, b9, eq_self, ↓reduceIte, Bool.false_eq_true, Bool.not_false, Bool.not_true, Bool.and_true, Bool.and_false, Bool.true_and, Bool.false_and, decide_true, decide_false] <;> first | done | decide) | (simp [sStore, sPut, uP, gS, gP, gQ, gE, gec, gsc, gvl, gL, gT, b3, b6, b9]; done), by rw [ht]; exact hP, va_K.moved hW.alike hK, hD⟩, hS.F ht⟩) hS.2.2 dX1_store_28
    · refine lv_if_ne (tgt := 19) hx hb dX1_store_14 (by decide) (fun cz => absurd cz (by decide)) (fun _ => ?_)
      refine lv_iconst (v := (-1)) hx hb dX1_store_17 (by decide) ?_
      exact W.iret (v := (-1)) hx hb hr (fun tE ht hW => ⟨⟨(-1), (sS, sP, sQ, sE, ec, sc, vl, LP, sT), rfl, by first | (simp only [sStore, sPut, uP, gS, gP, gQ, gE, gec, gsc, gvl, gL, gT, b3, b6, eq_self, ↓reduceIte, Bool.false_eq_true, Bool.not_false, Bool.not_true, Bool.and_true, Bool.and_false, Bool.true_and, Bool.false_and, decide_true, decide_false] <;> first | done | decide) | (simp [sStore, sPut, uP, gS, gP, gQ, gE, gec, gsc, gvl, gL, gT, b3, b6]; done), by rw [ht]; exact hP, va_K.moved hW.alike hK, hD⟩, hS.F ht⟩) hS.2.2 dX1_store_18
  · refine lv_if_eq (tgt := 17) hx hb dX1_store_5 (by decide) (fun _ => ?_) (fun cz => absurd cz (by decide))
    refine lv_iconst (v := (-1)) hx hb dX1_store_17 (by decide) ?_
    exact W.iret (v := (-1)) hx hb hr (fun tE ht hW => ⟨⟨(-1), (sS, sP, sQ, sE, ec, sc, vl, LP, sT), rfl, by first | (simp only [sStore, sPut, uP, gS, gP, gQ, gE, gec, gsc, gvl, gL, gT, b3, eq_self, ↓reduceIte, Bool.false_eq_true, Bool.not_false, Bool.not_true, Bool.and_true, Bool.and_false, Bool.true_and, Bool.false_and, decide_true, decide_false] <;> first | done | decide) | (simp [sStore, sPut, uP, gS, gP, gQ, gE, gec, gsc, gvl, gL, gT, b3]; done), by rw [ht]; exact hP, va_K.moved hW.alike hK, hD⟩, hS.F ht⟩) hS.2.2 dX1_store_18
set_option maxHeartbeats 8000000 in
set_option maxRecDepth 100000 in
theorem k_load (l : Launch) (D : va_G) (F : XF) (u : XS) (hok : xOk F u) (sz : Nat) (p0 : Int32) (p1 : Int32) (p2 : Int32) : Met l yX1_load wsX1_load ({ frames := 1, cells := 0, slots := 0, locals := 21 }) (xPc D F u sz [.ref F.1, .int p0, .int p1, .int p2]) (va_Qi (fun (r : Int32) (v : XS) => (r, v) = sLoad u p0 p1 p2) (xB D F (va_A (xW F u) sz)) (va_A (xW F u) sz)) 0 0 (va_A (xW F u) sz) := by
  obtain ⟨sS, sP, sQ, sE, ec, sc, vl, LP, sT⟩ := u
  refine Met.ofW (cc := cX1_load) (maxL := 4) (ret := (some .int)) (by decide) rfl ?_
  intro p e s m args below meth c s₁ B hml hv
  obtain ⟨rfl, hsz, hP, hK, hD0, hN, hZ⟩ := hv
  have hx := B.exec
  have hb := B.bytes
  have hr := B.returns
  have hts := atoms_spec (ws := wsX1_load) B.pre
  have hown : s.vm.findClass RX1 = some m.cls := findClass_of_methodNamed B.named
  have hlocks := B.notSynchronized
  subst hsz
  have hD := hD0.self (sz := s.heap.size)
  generalize hAe : va_A (xW F (sS, sP, sQ, sE, ec, sc, vl, LP, sT)) s.heap.size = A at hD hZ ⊢
  have hA : ∀ q : Nat, s.heap.size ≤ q → A q := fun q h => by rw [← hAe]; exact Or.inr h
  have hS : va_S A s.heap s.heap [] := va_S.rf
  obtain ⟨tk, tm, tr, hztk, httk, hztm, httm, hztr, httr⟩ := id hZ
  refine xHeap (C := fun H => va_P D vwCl (xW F (sS, sP, sQ, sE, ec, sc, vl, LP, sT)) H ∧ va_S A s.heap H []) ⟨hP, hS⟩ (fun H hC => ?_)
  obtain ⟨hP, hS⟩ := hC
  have hl := lv_entry ([.ref F.1, .int p0, .int p1, .int p2]) (n := 4) (Nat.le_of_ble_eq_true rfl)
  rw [lg_entry_eq]
  generalize (lg_sl ([.ref F.1, .int p0, .int p1, .int p2]) ++ List.replicate (4 - (lg_sl ([.ref F.1, .int p0, .int p1, .int p2])).length) Slot.unset).toArray = ls at hl ⊢
  have hl : lv_has ls 4 [(0, .ref F.1), (1, .int p0), (2, .int p1), (3, .int p2)] := hl
  refine lv_iload_n hx hb dX1_load_0 rfl (lv_at hl 1 rfl) ?_
  refine lv_iconst (v := 4) hx hb dX1_load_1 (by decide) ?_
  refine vp_callSi (va_Run.run (va_runS (As := [.int p0, .int 4]) (rest := []) ⟨hx, hb, hml, hown, hts⟩ (k_isBelow l p0 4) (va_cwS 2 hts gX1_load_X1_isBelow rfl rfl rfl (by decide +kernel) ⟨Nat.le_of_ble_eq_true rfl, Nat.le_of_ble_eq_true rfl⟩) preEq rfl rfl hl.1 rfl (lv_room (Nat.le_of_ble_eq_true rfl)) dX1_load_2 ⟨Nat.le_of_ble_eq_true rfl, Nat.le_of_ble_eq_true rfl⟩)) (fun r1 hw2 => ?_)
  rcases bI_c hw2 with ⟨rfl, b3⟩ | ⟨rfl, b3⟩
  · refine lv_if_eq (tgt := 17) hx hb dX1_load_5 (by decide) (fun cz => absurd cz (by decide)) (fun _ => ?_)
    refine lv_iload_n hx hb dX1_load_8 rfl (lv_at hl 3 rfl) ?_
    refine lv_bipush (v := 8) hx hb dX1_load_9 (by decide) ?_
    refine vp_callSi (va_Run.run (va_runS (As := [.int p2, .int 8]) (rest := []) ⟨hx, hb, hml, hown, hts⟩ (k_isBelow l p2 8) (va_cwS 2 hts gX1_load_X1_isBelow rfl rfl rfl (by decide +kernel) ⟨Nat.le_of_ble_eq_true rfl, Nat.le_of_ble_eq_true rfl⟩) preEq rfl rfl hl.1 rfl (lv_room (Nat.le_of_ble_eq_true rfl)) dX1_load_11 ⟨Nat.le_of_ble_eq_true rfl, Nat.le_of_ble_eq_true rfl⟩)) (fun r4 hw5 => ?_)
    rcases bI_c hw5 with ⟨rfl, b6⟩ | ⟨rfl, b6⟩
    · refine lv_if_ne (tgt := 19) hx hb dX1_load_14 (by decide) (fun _ => ?_) (fun cz => absurd cz (by decide))
      refine lv_iload_n hx hb dX1_load_19 rfl (lv_at hl 2 rfl) ?_
      refine lv_iconst (v := 4) hx hb dX1_load_20 (by decide) ?_
      refine vp_callSi (va_Run.run (va_runS (As := [.int p1, .int 4]) (rest := []) ⟨hx, hb, hml, hown, hts⟩ (k_isBelow l p1 4) (va_cwS 2 hts gX1_load_X1_isBelow rfl rfl rfl (by decide +kernel) ⟨Nat.le_of_ble_eq_true rfl, Nat.le_of_ble_eq_true rfl⟩) preEq rfl rfl hl.1 rfl (lv_room (Nat.le_of_ble_eq_true rfl)) dX1_load_21 ⟨Nat.le_of_ble_eq_true rfl, Nat.le_of_ble_eq_true rfl⟩)) (fun r7 hw8 => ?_)
      rcases bI_c hw8 with ⟨rfl, b9⟩ | ⟨rfl, b9⟩
      · refine lv_if_ne (tgt := 29) hx hb dX1_load_24 (by decide) (fun _ => ?_) (fun cz => absurd cz (by decide))
        refine lv_aload_n hx hb dX1_load_29 rfl (lv_at hl 0 rfl) ?_
        refine va_get (D := D) (ci := 1) (v := .ref F.2.2.2.1) (C := RX1) (T := TX1) (N := 9) hx hb hts (by decide +kernel) hown hK hP 0 rfl rfl 2 (by decide) (hts (.fieldLink RX1 21 "FamilyProbes" "slots" "[LFamilyProbes$Thing;") (by decide +kernel)) (fun _ h9 => h9) rfl dX1_load_30 ?_
        refine lv_iload_n hx hb dX1_load_33 rfl (lv_at hl 3 rfl) ?_
        refine lv_aload_n hx hb dX1_load_34 rfl (lv_at hl 0 rfl) ?_
        refine va_get (D := D) (ci := 1) (v := .ref F.2.2.2.2.1) (C := RX1) (T := TX1) (N := 9) hx hb hts (by decide +kernel) hown hK hP 0 rfl rfl 3 (by decide) (hts (.fieldLink RX1 25 "FamilyProbes" "places" "[LFamilyProbes$Thing;") (by decide +kernel)) (fun _ h9 => h9) rfl dX1_load_35 ?_
        refine lv_iload_n hx hb dX1_load_38 rfl (lv_at hl 1 rfl) ?_
        refine lv_iconst (v := 4) hx hb dX1_load_39 (by decide) ?_
        refine lv_imul hx hb dX1_load_40 ?_
        refine lv_iload_n hx hb dX1_load_41 rfl (lv_at hl 2 rfl) ?_
        refine lv_iadd hx hb dX1_load_42 ?_
        refine va_aldq (f := sP) hx hb hK hP 2 1 rfl rfl (rng16 (isB_in4 b3) (isB_in4 b9)) dX1_load_43 ?_
        refine x_asto hx hb hK hP hD hS 1 0 rfl rfl (fun _ h => hok.2.1 (((p0 * 4) + p1).toNatClampNeg) _ h) (isB_in8 b6) dX1_load_44 (fun H locs hP hD hS => ?_)
        have hP : va_P D vwCl (xW F ((va_up sS p2.toNatClampNeg (sP ((p0 * 4) + p1).toNatClampNeg)), sP, sQ, sE, ec, sc, vl, LP, sT)) H := hP
        have hD : va_D A (xW F ((va_up sS p2.toNatClampNeg (sP ((p0 * 4) + p1).toNatClampNeg)), sP, sQ, sE, ec, sc, vl, LP, sT)) := hD
        refine lv_iconst (v := 0) hx hb dX1_load_45 (by decide) ?_
        exact W.iret (v := 0) hx hb hr (fun tE ht hW => ⟨⟨0, ((va_up sS p2.toNatClampNeg (sP ((p0 * 4) + p1).toNatClampNeg)), sP, sQ, sE, ec, sc, vl, LP, sT), rfl, by first | (simp only [sLoad, uS, gS, gP, gQ, gE, gec, gsc, gvl, gL, gT, b3, b6, b9, eq_self, ↓reduceIte, Bool.false_eq_true, Bool.not_false, Bool.not_true, Bool.and_true, Bool.and_false, Bool.true_and, Bool.false_and, decide_true, decide_false] <;> first | done | decide) | (simp [sLoad, uS, gS, gP, gQ, gE, gec, gsc, gvl, gL, gT, b3, b6, b9]; done), by rw [ht]; exact hP, va_K.moved hW.alike hK, hD⟩, hS.F ht⟩) hS.2.2 dX1_load_46
      · refine lv_if_ne (tgt := 29) hx hb dX1_load_24 (by decide) (fun cz => absurd cz (by decide)) (fun _ => ?_)
        refine lv_iconst (v := 4) hx hb dX1_load_27 (by decide) ?_
        exact W.iret (v := 4) hx hb hr (fun tE ht hW => ⟨⟨4, (sS, sP, sQ, sE, ec, sc, vl, LP, sT), rfl, by first | (simp only [sLoad, uS, gS, gP, gQ, gE, gec, gsc, gvl, gL, gT, b3, b6, b9, eq_self, ↓reduceIte, Bool.false_eq_true, Bool.not_false, Bool.not_true, Bool.and_true, Bool.and_false, Bool.true_and, Bool.false_and, decide_true, decide_false] <;> first | done | decide) | (simp [sLoad, uS, gS, gP, gQ, gE, gec, gsc, gvl, gL, gT, b3, b6, b9]; done), by rw [ht]; exact hP, va_K.moved hW.alike hK, hD⟩, hS.F ht⟩) hS.2.2 dX1_load_28
    · refine lv_if_ne (tgt := 19) hx hb dX1_load_14 (by decide) (fun cz => absurd cz (by decide)) (fun _ => ?_)
      refine lv_iconst (v := (-1)) hx hb dX1_load_17 (by decide) ?_
      exact W.iret (v := (-1)) hx hb hr (fun tE ht hW => ⟨⟨(-1), (sS, sP, sQ, sE, ec, sc, vl, LP, sT), rfl, by first | (simp only [sLoad, uS, gS, gP, gQ, gE, gec, gsc, gvl, gL, gT, b3, b6, eq_self, ↓reduceIte, Bool.false_eq_true, Bool.not_false, Bool.not_true, Bool.and_true, Bool.and_false, Bool.true_and, Bool.false_and, decide_true, decide_false] <;> first | done | decide) | (simp [sLoad, uS, gS, gP, gQ, gE, gec, gsc, gvl, gL, gT, b3, b6]; done), by rw [ht]; exact hP, va_K.moved hW.alike hK, hD⟩, hS.F ht⟩) hS.2.2 dX1_load_18
  · refine lv_if_eq (tgt := 17) hx hb dX1_load_5 (by decide) (fun _ => ?_) (fun cz => absurd cz (by decide))
    refine lv_iconst (v := (-1)) hx hb dX1_load_17 (by decide) ?_
    exact W.iret (v := (-1)) hx hb hr (fun tE ht hW => ⟨⟨(-1), (sS, sP, sQ, sE, ec, sc, vl, LP, sT), rfl, by first | (simp only [sLoad, uS, gS, gP, gQ, gE, gec, gsc, gvl, gL, gT, b3, eq_self, ↓reduceIte, Bool.false_eq_true, Bool.not_false, Bool.not_true, Bool.and_true, Bool.and_false, Bool.true_and, Bool.false_and, decide_true, decide_false] <;> first | done | decide) | (simp [sLoad, uS, gS, gP, gQ, gE, gec, gsc, gvl, gL, gT, b3]; done), by rw [ht]; exact hP, va_K.moved hW.alike hK, hD⟩, hS.F ht⟩) hS.2.2 dX1_load_18
set_option maxHeartbeats 8000000 in
set_option maxRecDepth 100000 in
theorem k_compare (l : Launch) (D : va_G) (F : XF) (u : XS) (hok : xOk F u) (sz : Nat) (p0 : Int32) (p1 : Int32) : Met l yX1_compare wsX1_compare ({ frames := 2, cells := 0, slots := 0, locals := 42 }) (xPc D F u sz [.ref F.1, .int p0, .int p1]) (va_Qi (fun (r : Int32) (v : XS) => (r, v) = sComp u p0 p1) (xB D F (va_A (xW F u) sz)) (va_A (xW F u) sz)) 0 0 (va_A (xW F u) sz) := by
  obtain ⟨sS, sP, sQ, sE, ec, sc, vl, LP, sT⟩ := u
  refine Met.ofW (cc := cX1_compare) (maxL := 5) (ret := (some .int)) (by decide) rfl ?_
  intro p e s m args below meth c s₁ B hml hv
  obtain ⟨rfl, hsz, hP, hK, hD0, hN, hZ⟩ := hv
  have hx := B.exec
  have hb := B.bytes
  have hr := B.returns
  have hts := atoms_spec (ws := wsX1_compare) B.pre
  have hown : s.vm.findClass RX1 = some m.cls := findClass_of_methodNamed B.named
  have hlocks := B.notSynchronized
  subst hsz
  have hD := hD0.self (sz := s.heap.size)
  generalize hAe : va_A (xW F (sS, sP, sQ, sE, ec, sc, vl, LP, sT)) s.heap.size = A at hD hZ ⊢
  have hA : ∀ q : Nat, s.heap.size ≤ q → A q := fun q h => by rw [← hAe]; exact Or.inr h
  have hS : va_S A s.heap s.heap [] := va_S.rf
  obtain ⟨tk, tm, tr, hztk, httk, hztm, httm, hztr, httr⟩ := id hZ
  refine xHeap (C := fun H => va_P D vwCl (xW F (sS, sP, sQ, sE, ec, sc, vl, LP, sT)) H ∧ va_S A s.heap H []) ⟨hP, hS⟩ (fun H hC => ?_)
  obtain ⟨hP, hS⟩ := hC
  have hl := lv_entry ([.ref F.1, .int p0, .int p1]) (n := 5) (Nat.le_of_ble_eq_true rfl)
  rw [lg_entry_eq]
  generalize (lg_sl ([.ref F.1, .int p0, .int p1]) ++ List.replicate (5 - (lg_sl ([.ref F.1, .int p0, .int p1])).length) Slot.unset).toArray = ls at hl ⊢
  have hl : lv_has ls 5 [(0, .ref F.1), (1, .int p0), (2, .int p1)] := hl
  refine lv_iload_n hx hb dX1_compare_0 rfl (lv_at hl 1 rfl) ?_
  refine lv_bipush (v := 8) hx hb dX1_compare_1 (by decide) ?_
  refine vp_callSi (va_Run.run (va_runS (As := [.int p0, .int 8]) (rest := []) ⟨hx, hb, hml, hown, hts⟩ (k_isBelow l p0 8) (va_cwS 2 hts gX1_compare_X1_isBelow rfl rfl rfl (by decide +kernel) ⟨Nat.le_of_ble_eq_true rfl, Nat.le_of_ble_eq_true rfl⟩) preEq rfl rfl hl.1 rfl (lv_room (Nat.le_of_ble_eq_true rfl)) dX1_compare_3 ⟨Nat.le_of_ble_eq_true rfl, Nat.le_of_ble_eq_true rfl⟩)) (fun r1 hw2 => ?_)
  rcases bI_c hw2 with ⟨rfl, b3⟩ | ⟨rfl, b3⟩
  · refine lv_if_eq (tgt := 18) hx hb dX1_compare_6 (by decide) (fun cz => absurd cz (by decide)) (fun _ => ?_)
    refine lv_iload_n hx hb dX1_compare_9 rfl (lv_at hl 2 rfl) ?_
    refine lv_bipush (v := 8) hx hb dX1_compare_10 (by decide) ?_
    refine vp_callSi (va_Run.run (va_runS (As := [.int p1, .int 8]) (rest := []) ⟨hx, hb, hml, hown, hts⟩ (k_isBelow l p1 8) (va_cwS 2 hts gX1_compare_X1_isBelow rfl rfl rfl (by decide +kernel) ⟨Nat.le_of_ble_eq_true rfl, Nat.le_of_ble_eq_true rfl⟩) preEq rfl rfl hl.1 rfl (lv_room (Nat.le_of_ble_eq_true rfl)) dX1_compare_12 ⟨Nat.le_of_ble_eq_true rfl, Nat.le_of_ble_eq_true rfl⟩)) (fun r4 hw5 => ?_)
    rcases bI_c hw5 with ⟨rfl, b6⟩ | ⟨rfl, b6⟩
    · refine lv_if_ne (tgt := 20) hx hb dX1_compare_15 (by decide) (fun _ => ?_) (fun cz => absurd cz (by decide))
      refine lv_aload_n hx hb dX1_compare_20 rfl (lv_at hl 0 rfl) ?_
      refine va_get (D := D) (ci := 1) (v := .ref F.2.2.2.1) (C := RX1) (T := TX1) (N := 9) hx hb hts (by decide +kernel) hown hK hP 0 rfl rfl 2 (by decide) (hts (.fieldLink RX1 21 "FamilyProbes" "slots" "[LFamilyProbes$Thing;") (by decide +kernel)) (fun _ h9 => h9) rfl dX1_compare_21 ?_
      refine lv_iload_n hx hb dX1_compare_24 rfl (lv_at hl 1 rfl) ?_
      refine va_aldq (f := sS) hx hb hK hP 1 0 rfl rfl (isB_in8 b3) dX1_compare_25 ?_
      rcases ho7 : (sS p0.toNatClampNeg) with _ | q8
      · refine lv_astore_nN (lv' := [(3, .null), (0, .ref F.1), (1, .int p0), (2, .int p1)]) hx hb dX1_compare_26 rfl hl (by decide) rfl (fun ls hl => ?_)
        refine lv_aload_n hx hb dX1_compare_27 rfl (lv_at hl 1 rfl) ?_
        refine va_get (D := D) (ci := 1) (v := .ref F.2.2.2.1) (C := RX1) (T := TX1) (N := 9) hx hb hts (by decide +kernel) hown hK hP 0 rfl rfl 2 (by decide) (hts (.fieldLink RX1 21 "FamilyProbes" "slots" "[LFamilyProbes$Thing;") (by decide +kernel)) (fun _ h9 => h9) rfl dX1_compare_28 ?_
        refine lv_iload_n hx hb dX1_compare_31 rfl (lv_at hl 3 rfl) ?_
        refine va_aldq (f := sS) hx hb hK hP 1 0 rfl rfl (isB_in8 b6) dX1_compare_32 ?_
        rcases ho9 : (sS p1.toNatClampNeg) with _ | q10
        · refine lv_astoreN (lv' := [(4, .null), (3, .null), (0, .ref F.1), (1, .int p0), (2, .int p1)]) hx hb dX1_compare_33 hl (by decide) rfl (fun ls hl => ?_)
          refine lv_aload_nN hx hb dX1_compare_35 rfl (lv_at hl 1 rfl) ?_
          refine lv_ifnullN (tgt := 44) hx hb dX1_compare_36 (by decide) ?_
          refine lv_iconst (v := 2) hx hb dX1_compare_44 (by decide) ?_
          exact W.iret (v := 2) hx hb hr (fun tE ht hW => ⟨⟨2, (sS, sP, sQ, sE, ec, sc, vl, LP, sT), rfl, by first | (simp only [sComp, uV, gS, gP, gQ, gE, gec, gsc, gvl, gL, gT, b3, b6, ho7, ho9, eq_self, ↓reduceIte, Bool.false_eq_true, Bool.not_false, Bool.not_true, Bool.and_true, Bool.and_false, Bool.true_and, Bool.false_and, decide_true, decide_false] <;> first | done | decide) | (simp [sComp, uV, gS, gP, gQ, gE, gec, gsc, gvl, gL, gT, b3, b6, ho7, ho9]; done), by rw [ht]; exact hP, va_K.moved hW.alike hK, hD⟩, hS.F ht⟩) hS.2.2 dX1_compare_45
        · refine lv_astore (lv' := [(4, .ref q10), (3, .null), (0, .ref F.1), (1, .int p0), (2, .int p1)]) hx hb dX1_compare_33 hl (by decide) rfl (fun ls hl => ?_)
          refine lv_aload_nN hx hb dX1_compare_35 rfl (lv_at hl 1 rfl) ?_
          refine lv_ifnullN (tgt := 44) hx hb dX1_compare_36 (by decide) ?_
          refine lv_iconst (v := 2) hx hb dX1_compare_44 (by decide) ?_
          exact W.iret (v := 2) hx hb hr (fun tE ht hW => ⟨⟨2, (sS, sP, sQ, sE, ec, sc, vl, LP, sT), rfl, by first | (simp only [sComp, uV, gS, gP, gQ, gE, gec, gsc, gvl, gL, gT, b3, b6, ho7, ho9, eq_self, ↓reduceIte, Bool.false_eq_true, Bool.not_false, Bool.not_true, Bool.and_true, Bool.and_false, Bool.true_and, Bool.false_and, decide_true, decide_false] <;> first | done | decide) | (simp [sComp, uV, gS, gP, gQ, gE, gec, gsc, gvl, gL, gT, b3, b6, ho7, ho9]; done), by rw [ht]; exact hP, va_K.moved hW.alike hK, hD⟩, hS.F ht⟩) hS.2.2 dX1_compare_45
      · refine lv_astore_n (lv' := [(3, .ref q8), (0, .ref F.1), (1, .int p0), (2, .int p1)]) hx hb dX1_compare_26 rfl hl (by decide) rfl (fun ls hl => ?_)
        refine lv_aload_n hx hb dX1_compare_27 rfl (lv_at hl 1 rfl) ?_
        refine va_get (D := D) (ci := 1) (v := .ref F.2.2.2.1) (C := RX1) (T := TX1) (N := 9) hx hb hts (by decide +kernel) hown hK hP 0 rfl rfl 2 (by decide) (hts (.fieldLink RX1 21 "FamilyProbes" "slots" "[LFamilyProbes$Thing;") (by decide +kernel)) (fun _ h9 => h9) rfl dX1_compare_28 ?_
        refine lv_iload_n hx hb dX1_compare_31 rfl (lv_at hl 3 rfl) ?_
        refine va_aldq (f := sS) hx hb hK hP 1 0 rfl rfl (isB_in8 b6) dX1_compare_32 ?_
        rcases ho11 : (sS p1.toNatClampNeg) with _ | q12
        · refine lv_astoreN (lv' := [(4, .null), (3, .ref q8), (0, .ref F.1), (1, .int p0), (2, .int p1)]) hx hb dX1_compare_33 hl (by decide) rfl (fun ls hl => ?_)
          refine lv_aload_n hx hb dX1_compare_35 rfl (lv_at hl 1 rfl) ?_
          refine lv_ifnull hx hb dX1_compare_36 ?_
          refine lv_aloadN hx hb dX1_compare_39 (lv_at hl 0 rfl) ?_
          refine lv_ifnonnullN hx hb dX1_compare_41 ?_
          refine lv_iconst (v := 2) hx hb dX1_compare_44 (by decide) ?_
          exact W.iret (v := 2) hx hb hr (fun tE ht hW => ⟨⟨2, (sS, sP, sQ, sE, ec, sc, vl, LP, sT), rfl, by first | (simp only [sComp, uV, gS, gP, gQ, gE, gec, gsc, gvl, gL, gT, b3, b6, ho7, ho11, eq_self, ↓reduceIte, Bool.false_eq_true, Bool.not_false, Bool.not_true, Bool.and_true, Bool.and_false, Bool.true_and, Bool.false_and, decide_true, decide_false] <;> first | done | decide) | (simp [sComp, uV, gS, gP, gQ, gE, gec, gsc, gvl, gL, gT, b3, b6, ho7, ho11]; done), by rw [ht]; exact hP, va_K.moved hW.alike hK, hD⟩, hS.F ht⟩) hS.2.2 dX1_compare_45
        · refine lv_astore (lv' := [(4, .ref q12), (3, .ref q8), (0, .ref F.1), (1, .int p0), (2, .int p1)]) hx hb dX1_compare_33 hl (by decide) rfl (fun ls hl => ?_)
          refine lv_aload_n hx hb dX1_compare_35 rfl (lv_at hl 1 rfl) ?_
          refine lv_ifnull hx hb dX1_compare_36 ?_
          refine lv_aload hx hb dX1_compare_39 (lv_at hl 0 rfl) ?_
          refine lv_ifnonnull (tgt := 46) hx hb dX1_compare_41 (by decide) ?_
          refine lv_aload_n hx hb dX1_compare_46 rfl (lv_at hl 1 rfl) ?_
          refine lv_iconst (v := 3) hx hb dX1_compare_47 (by decide) ?_
          refine vp_callSi (va_Run.run (va_runS (As := [.ref q8, .int 3]) (rest := []) ⟨hx, hb, hml, hown, hts⟩ (k_isOfType l D q8 (sT q8) (hok.2.2.2.2.1 q8 (hok.1 p0.toNatClampNeg _ ho7)) 3) (va_cwS 2 hts gX1_compare_X1_isOfType rfl rfl rfl (by decide +kernel) ⟨Nat.le_of_ble_eq_true rfl, Nat.le_of_ble_eq_true rfl⟩) (rPre hN hK (x_one hP (hok.1 p0.toNatClampNeg _ ho7)) hS hZ xFalse _) rfl rfl hl.1 rfl (lv_room (Nat.le_of_ble_eq_true rfl)) dX1_compare_48 ⟨Nat.le_of_ble_eq_true rfl, Nat.le_of_ble_eq_true rfl⟩)) (fun r13 hw14 => ?_)
          rcases bI_c hw14 with ⟨rfl, b15⟩ | ⟨rfl, b15⟩
          · refine lv_if_eq (tgt := 63) hx hb dX1_compare_51 (by decide) (fun cz => absurd cz (by decide)) (fun _ => ?_)
            refine lv_aload hx hb dX1_compare_54 (lv_at hl 0 rfl) ?_
            refine lv_iconst (v := 3) hx hb dX1_compare_56 (by decide) ?_
            refine vp_callSi (va_Run.run (va_runS (As := [.ref q12, .int 3]) (rest := []) ⟨hx, hb, hml, hown, hts⟩ (k_isOfType l D q12 (sT q12) (hok.2.2.2.2.1 q12 (hok.1 p1.toNatClampNeg _ ho11)) 3) (va_cwS 2 hts gX1_compare_X1_isOfType rfl rfl rfl (by decide +kernel) ⟨Nat.le_of_ble_eq_true rfl, Nat.le_of_ble_eq_true rfl⟩) (rPre hN hK (x_one hP (hok.1 p1.toNatClampNeg _ ho11)) hS hZ xFalse _) rfl rfl hl.1 rfl (lv_room (Nat.le_of_ble_eq_true rfl)) dX1_compare_57 ⟨Nat.le_of_ble_eq_true rfl, Nat.le_of_ble_eq_true rfl⟩)) (fun r16 hw17 => ?_)
            rcases bI_c hw17 with ⟨rfl, b18⟩ | ⟨rfl, b18⟩
            · refine lv_if_ne (tgt := 65) hx hb dX1_compare_60 (by decide) (fun _ => ?_) (fun cz => absurd cz (by decide))
              refine lv_aload_n hx hb dX1_compare_65 rfl (lv_at hl 2 rfl) ?_
              refine lv_aload_n hx hb dX1_compare_66 rfl (lv_at hl 1 rfl) ?_
              obtain ⟨k19, hk19⟩ := va_pl_get (X := xX F (sS, sP, sQ, sE, ec, sc, vl, LP, sT)) (f := thP sT) (hok.1 p0.toNatClampNeg _ ho7)
              refine va_getN (D := D) (ci := 0) (v := .int ((sT q8).2.1)) (C := RX0) (T := TX0) (N := 6) hx hb hts (by decide +kernel) hown hK hP k19 hk19 rfl 1 (by decide) (va_Nw.use rfl (hN (.fieldLinkNest RX1 83 "FamilyProbes$Thing" "n" "I" "FamilyProbes") (by decide +kernel))) (fun _ h9 => h9) rfl dX1_compare_67 ?_
              refine lv_aload hx hb dX1_compare_70 (lv_at hl 0 rfl) ?_
              obtain ⟨k20, hk20⟩ := va_pl_get (X := xX F (sS, sP, sQ, sE, ec, sc, vl, LP, sT)) (f := thP sT) (hok.1 p1.toNatClampNeg _ ho11)
              refine va_getN (D := D) (ci := 0) (v := .int ((sT q12).2.1)) (C := RX0) (T := TX0) (N := 6) hx hb hts (by decide +kernel) hown hK hP k20 hk20 rfl 1 (by decide) (va_Nw.use rfl (hN (.fieldLinkNest RX1 83 "FamilyProbes$Thing" "n" "I" "FamilyProbes") (by decide +kernel))) (fun _ h9 => h9) rfl dX1_compare_72 ?_
              refine lv_icmp_ge (tgt := 82) hx hb dX1_compare_75 (by decide) (fun c21 => ?_) (fun c21 => ?_)
              · refine lv_aload_n hx hb dX1_compare_82 rfl (lv_at hl 1 rfl) ?_
                obtain ⟨k22, hk22⟩ := va_pl_get (X := xX F (sS, sP, sQ, sE, ec, sc, vl, LP, sT)) (f := thP sT) (hok.1 p0.toNatClampNeg _ ho7)
                refine va_getN (D := D) (ci := 0) (v := .int ((sT q8).2.1)) (C := RX0) (T := TX0) (N := 6) hx hb hts (by decide +kernel) hown hK hP k22 hk22 rfl 1 (by decide) (va_Nw.use rfl (hN (.fieldLinkNest RX1 83 "FamilyProbes$Thing" "n" "I" "FamilyProbes") (by decide +kernel))) (fun _ h9 => h9) rfl dX1_compare_83 ?_
                refine lv_aload hx hb dX1_compare_86 (lv_at hl 0 rfl) ?_
                obtain ⟨k23, hk23⟩ := va_pl_get (X := xX F (sS, sP, sQ, sE, ec, sc, vl, LP, sT)) (f := thP sT) (hok.1 p1.toNatClampNeg _ ho11)
                refine va_getN (D := D) (ci := 0) (v := .int ((sT q12).2.1)) (C := RX0) (T := TX0) (N := 6) hx hb hts (by decide +kernel) hown hK hP k23 hk23 rfl 1 (by decide) (va_Nw.use rfl (hN (.fieldLinkNest RX1 83 "FamilyProbes$Thing" "n" "I" "FamilyProbes") (by decide +kernel))) (fun _ h9 => h9) rfl dX1_compare_88 ?_
                refine lv_icmp_le (tgt := 98) hx hb dX1_compare_91 (by decide) (fun c24 => ?_) (fun c24 => ?_)
                · refine lv_iconst (v := 0) hx hb dX1_compare_98 (by decide) ?_
                  have hf25 := xFree hD hS hA
                  refine va_calli (va_runV (As := [.int 0]) (rest := []) ⟨hx, hb, hml, hown, hts⟩ (k_wentWith l D F (sS, sP, sQ, sE, ec, sc, vl, LP, sT)  H.size 0) (cwV 1 hts gX1_compare_X1_wentWith rfl rfl rfl (by decide +kernel) ⟨Nat.le_of_ble_eq_true rfl, Nat.le_of_ble_eq_true rfl⟩) (xPre hN hK hP hD hS hA hZ _) rfl rfl hl.1 rfl (lv_room (Nat.le_of_ble_eq_true rfl)) dX1_compare_99 ⟨Nat.le_of_ble_eq_true rfl, Nat.le_of_ble_eq_true rfl⟩) hS (fun q _ h => hf25 q h) hf25 (fun r26 v27 t29 H1 locs ht hvm hw28 hB hz1 hk1 hS => ?_)
                  obtain ⟨hP1, hK1, hD1⟩ := hB
                  rw [ht] at hP1
                  replace hD1 := hD1.weaken (fun _ _ _ h => hf25 _ h)
                  generalize H1 = H at hP1 hS ⊢
                  obtain ⟨rfl, rfl⟩ := Prod.mk.inj (show (r26, v27) = (0, (sS, sP, sQ, sE, ec, sc, 0, LP, sT)) from hw28)
                  have hP : va_P D vwCl (xW F (sS, sP, sQ, sE, ec, sc, 0, LP, sT)) H := hP1
                  have hD : va_D A (xW F (sS, sP, sQ, sE, ec, sc, 0, LP, sT)) := hD1
                  exact W.iret (v := 0) hx hb hr (fun tE ht hW => ⟨⟨0, (sS, sP, sQ, sE, ec, sc, 0, LP, sT), rfl, by first | (simp only [sComp, uV, gS, gP, gQ, gE, gec, gsc, gvl, gL, gT, b3, b6, ho7, ho11, b15, b18, eq_true c21, eq_true c24, eq_self, ↓reduceIte, Bool.false_eq_true, Bool.not_false, Bool.not_true, Bool.and_true, Bool.and_false, Bool.true_and, Bool.false_and, decide_true, decide_false] <;> first | done | decide) | (simp only [sComp, uV, gS, gP, gQ, gE, gec, gsc, gvl, gL, gT, b3, b6, ho7, ho11, b15, b18, c21, c24, eq_self, ↓reduceIte, Bool.false_eq_true, Bool.not_false, Bool.not_true, Bool.and_true, Bool.and_false, Bool.true_and, Bool.false_and, decide_true, decide_false] <;> first | done | decide) | (simp [sComp, uV, gS, gP, gQ, gE, gec, gsc, gvl, gL, gT, b3, b6, ho7, ho11, b15, b18, c21, c24]; done) | (simp [sComp, uV, gS, gP, gQ, gE, gec, gsc, gvl, gL, gT, b3, b6, ho7, ho11, b15, b18, eq_true c21, eq_true c24]; done), by rw [ht]; exact hP, va_K.moved hW.alike hK, hD⟩, hS.F ht⟩) hS.2.2 dX1_compare_102
                · refine lv_iconst (v := 1) hx hb dX1_compare_94 (by decide) ?_
                  refine lv_goto (tgt := 99) hx hb dX1_compare_95 (by decide) ?_
                  have hf30 := xFree hD hS hA
                  refine va_calli (va_runV (As := [.int 1]) (rest := []) ⟨hx, hb, hml, hown, hts⟩ (k_wentWith l D F (sS, sP, sQ, sE, ec, sc, vl, LP, sT)  H.size 1) (cwV 1 hts gX1_compare_X1_wentWith rfl rfl rfl (by decide +kernel) ⟨Nat.le_of_ble_eq_true rfl, Nat.le_of_ble_eq_true rfl⟩) (xPre hN hK hP hD hS hA hZ _) rfl rfl hl.1 rfl (lv_room (Nat.le_of_ble_eq_true rfl)) dX1_compare_99 ⟨Nat.le_of_ble_eq_true rfl, Nat.le_of_ble_eq_true rfl⟩) hS (fun q _ h => hf30 q h) hf30 (fun r31 v32 t34 H1 locs ht hvm hw33 hB hz1 hk1 hS => ?_)
                  obtain ⟨hP1, hK1, hD1⟩ := hB
                  rw [ht] at hP1
                  replace hD1 := hD1.weaken (fun _ _ _ h => hf30 _ h)
                  generalize H1 = H at hP1 hS ⊢
                  obtain ⟨rfl, rfl⟩ := Prod.mk.inj (show (r31, v32) = (0, (sS, sP, sQ, sE, ec, sc, 1, LP, sT)) from hw33)
                  have hP : va_P D vwCl (xW F (sS, sP, sQ, sE, ec, sc, 1, LP, sT)) H := hP1
                  have hD : va_D A (xW F (sS, sP, sQ, sE, ec, sc, 1, LP, sT)) := hD1
                  exact W.iret (v := 0) hx hb hr (fun tE ht hW => ⟨⟨0, (sS, sP, sQ, sE, ec, sc, 1, LP, sT), rfl, by first | (simp only [sComp, uV, gS, gP, gQ, gE, gec, gsc, gvl, gL, gT, b3, b6, ho7, ho11, b15, b18, eq_true c21, c24, eq_self, ↓reduceIte, Bool.false_eq_true, Bool.not_false, Bool.not_true, Bool.and_true, Bool.and_false, Bool.true_and, Bool.false_and, decide_true, decide_false] <;> first | done | decide) | (simp only [sComp, uV, gS, gP, gQ, gE, gec, gsc, gvl, gL, gT, b3, b6, ho7, ho11, b15, b18, c21, c24, eq_self, ↓reduceIte, Bool.false_eq_true, Bool.not_false, Bool.not_true, Bool.and_true, Bool.and_false, Bool.true_and, Bool.false_and, decide_true, decide_false] <;> first | done | decide) | (simp [sComp, uV, gS, gP, gQ, gE, gec, gsc, gvl, gL, gT, b3, b6, ho7, ho11, b15, b18, c21, c24]; done) | (simp [sComp, uV, gS, gP, gQ, gE, gec, gsc, gvl, gL, gT, b3, b6, ho7, ho11, b15, b18, eq_true c21, c24]; done), by rw [ht]; exact hP, va_K.moved hW.alike hK, hD⟩, hS.F ht⟩) hS.2.2 dX1_compare_102
              · refine lv_iconst (v := (-1)) hx hb dX1_compare_78 (by decide) ?_
                refine lv_goto (tgt := 99) hx hb dX1_compare_79 (by decide) ?_
                have hf35 := xFree hD hS hA
                refine va_calli (va_runV (As := [.int (-1)]) (rest := []) ⟨hx, hb, hml, hown, hts⟩ (k_wentWith l D F (sS, sP, sQ, sE, ec, sc, vl, LP, sT)  H.size (-1)) (cwV 1 hts gX1_compare_X1_wentWith rfl rfl rfl (by decide +kernel) ⟨Nat.le_of_ble_eq_true rfl, Nat.le_of_ble_eq_true rfl⟩) (xPre hN hK hP hD hS hA hZ _) rfl rfl hl.1 rfl (lv_room (Nat.le_of_ble_eq_true rfl)) dX1_compare_99 ⟨Nat.le_of_ble_eq_true rfl, Nat.le_of_ble_eq_true rfl⟩) hS (fun q _ h => hf35 q h) hf35 (fun r36 v37 t39 H1 locs ht hvm hw38 hB hz1 hk1 hS => ?_)
                obtain ⟨hP1, hK1, hD1⟩ := hB
                rw [ht] at hP1
                replace hD1 := hD1.weaken (fun _ _ _ h => hf35 _ h)
                generalize H1 = H at hP1 hS ⊢
                obtain ⟨rfl, rfl⟩ := Prod.mk.inj (show (r36, v37) = (0, (sS, sP, sQ, sE, ec, sc, (-1), LP, sT)) from hw38)
                have hP : va_P D vwCl (xW F (sS, sP, sQ, sE, ec, sc, (-1), LP, sT)) H := hP1
                have hD : va_D A (xW F (sS, sP, sQ, sE, ec, sc, (-1), LP, sT)) := hD1
                exact W.iret (v := 0) hx hb hr (fun tE ht hW => ⟨⟨0, (sS, sP, sQ, sE, ec, sc, (-1), LP, sT), rfl, by first | (simp only [sComp, uV, gS, gP, gQ, gE, gec, gsc, gvl, gL, gT, b3, b6, ho7, ho11, b15, b18, c21, eq_self, ↓reduceIte, Bool.false_eq_true, Bool.not_false, Bool.not_true, Bool.and_true, Bool.and_false, Bool.true_and, Bool.false_and, decide_true, decide_false] <;> first | done | decide) | (simp [sComp, uV, gS, gP, gQ, gE, gec, gsc, gvl, gL, gT, b3, b6, ho7, ho11, b15, b18, c21]; done), by rw [ht]; exact hP, va_K.moved hW.alike hK, hD⟩, hS.F ht⟩) hS.2.2 dX1_compare_102
            · refine lv_if_ne (tgt := 65) hx hb dX1_compare_60 (by decide) (fun cz => absurd cz (by decide)) (fun _ => ?_)
              refine lv_iconst (v := 1) hx hb dX1_compare_63 (by decide) ?_
              exact W.iret (v := 1) hx hb hr (fun tE ht hW => ⟨⟨1, (sS, sP, sQ, sE, ec, sc, vl, LP, sT), rfl, by first | (simp only [sComp, uV, gS, gP, gQ, gE, gec, gsc, gvl, gL, gT, b3, b6, ho7, ho11, b15, b18, eq_self, ↓reduceIte, Bool.false_eq_true, Bool.not_false, Bool.not_true, Bool.and_true, Bool.and_false, Bool.true_and, Bool.false_and, decide_true, decide_false] <;> first | done | decide) | (simp [sComp, uV, gS, gP, gQ, gE, gec, gsc, gvl, gL, gT, b3, b6, ho7, ho11, b15, b18]; done), by rw [ht]; exact hP, va_K.moved hW.alike hK, hD⟩, hS.F ht⟩) hS.2.2 dX1_compare_64
          · refine lv_if_eq (tgt := 63) hx hb dX1_compare_51 (by decide) (fun _ => ?_) (fun cz => absurd cz (by decide))
            refine lv_iconst (v := 1) hx hb dX1_compare_63 (by decide) ?_
            exact W.iret (v := 1) hx hb hr (fun tE ht hW => ⟨⟨1, (sS, sP, sQ, sE, ec, sc, vl, LP, sT), rfl, by first | (simp only [sComp, uV, gS, gP, gQ, gE, gec, gsc, gvl, gL, gT, b3, b6, ho7, ho11, b15, eq_self, ↓reduceIte, Bool.false_eq_true, Bool.not_false, Bool.not_true, Bool.and_true, Bool.and_false, Bool.true_and, Bool.false_and, decide_true, decide_false] <;> first | done | decide) | (simp [sComp, uV, gS, gP, gQ, gE, gec, gsc, gvl, gL, gT, b3, b6, ho7, ho11, b15]; done), by rw [ht]; exact hP, va_K.moved hW.alike hK, hD⟩, hS.F ht⟩) hS.2.2 dX1_compare_64
    · refine lv_if_ne (tgt := 20) hx hb dX1_compare_15 (by decide) (fun cz => absurd cz (by decide)) (fun _ => ?_)
      refine lv_iconst (v := (-1)) hx hb dX1_compare_18 (by decide) ?_
      exact W.iret (v := (-1)) hx hb hr (fun tE ht hW => ⟨⟨(-1), (sS, sP, sQ, sE, ec, sc, vl, LP, sT), rfl, by first | (simp only [sComp, uV, gS, gP, gQ, gE, gec, gsc, gvl, gL, gT, b3, b6, eq_self, ↓reduceIte, Bool.false_eq_true, Bool.not_false, Bool.not_true, Bool.and_true, Bool.and_false, Bool.true_and, Bool.false_and, decide_true, decide_false] <;> first | done | decide) | (simp [sComp, uV, gS, gP, gQ, gE, gec, gsc, gvl, gL, gT, b3, b6]; done), by rw [ht]; exact hP, va_K.moved hW.alike hK, hD⟩, hS.F ht⟩) hS.2.2 dX1_compare_19
  · refine lv_if_eq (tgt := 18) hx hb dX1_compare_6 (by decide) (fun _ => ?_) (fun cz => absurd cz (by decide))
    refine lv_iconst (v := (-1)) hx hb dX1_compare_18 (by decide) ?_
    exact W.iret (v := (-1)) hx hb hr (fun tE ht hW => ⟨⟨(-1), (sS, sP, sQ, sE, ec, sc, vl, LP, sT), rfl, by first | (simp only [sComp, uV, gS, gP, gQ, gE, gec, gsc, gvl, gL, gT, b3, eq_self, ↓reduceIte, Bool.false_eq_true, Bool.not_false, Bool.not_true, Bool.and_true, Bool.and_false, Bool.true_and, Bool.false_and, decide_true, decide_false] <;> first | done | decide) | (simp [sComp, uV, gS, gP, gQ, gE, gec, gsc, gvl, gL, gT, b3]; done), by rw [ht]; exact hP, va_K.moved hW.alike hK, hD⟩, hS.F ht⟩) hS.2.2 dX1_compare_19
set_option maxHeartbeats 8000000 in
set_option maxRecDepth 100000 in
theorem k_events (l : Launch) (D : va_G) (F : XF) (u : XS) (sz : Nat)  : Met l yX1_events wsX1_events ({ frames := 0, cells := 0, slots := 0, locals := 0 }) (xPc D F u sz [.ref F.1]) (va_Qi (fun (r : Int32) (v : XS) => (r, v) = (gec u, u)) (xB D F (va_A (xW F u) sz)) (va_A (xW F u) sz)) 0 0 (va_A (xW F u) sz) := by
  obtain ⟨sS, sP, sQ, sE, ec, sc, vl, LP, sT⟩ := u
  refine Met.ofW (cc := cX1_events) (maxL := 1) (ret := (some .int)) (by decide) rfl ?_
  intro p e s m args below meth c s₁ B hml hv
  obtain ⟨rfl, hsz, hP, hK, hD0, hN, hZ⟩ := hv
  have hx := B.exec
  have hb := B.bytes
  have hr := B.returns
  have hts := atoms_spec (ws := wsX1_events) B.pre
  have hown : s.vm.findClass RX1 = some m.cls := findClass_of_methodNamed B.named
  have hlocks := B.notSynchronized
  subst hsz
  have hD := hD0.self (sz := s.heap.size)
  generalize hAe : va_A (xW F (sS, sP, sQ, sE, ec, sc, vl, LP, sT)) s.heap.size = A at hD hZ ⊢
  have hA : ∀ q : Nat, s.heap.size ≤ q → A q := fun q h => by rw [← hAe]; exact Or.inr h
  have hS : va_S A s.heap s.heap [] := va_S.rf
  obtain ⟨tk, tm, tr, hztk, httk, hztm, httm, hztr, httr⟩ := id hZ
  refine xHeap (C := fun H => va_P D vwCl (xW F (sS, sP, sQ, sE, ec, sc, vl, LP, sT)) H ∧ va_S A s.heap H []) ⟨hP, hS⟩ (fun H hC => ?_)
  obtain ⟨hP, hS⟩ := hC
  have hl := lv_entry ([.ref F.1]) (n := 1) (Nat.le_of_ble_eq_true rfl)
  rw [lg_entry_eq]
  generalize (lg_sl ([.ref F.1]) ++ List.replicate (1 - (lg_sl ([.ref F.1])).length) Slot.unset).toArray = ls at hl ⊢
  have hl : lv_has ls 1 [(0, .ref F.1)] := hl
  refine lv_aload_n hx hb dX1_events_0 rfl (lv_at hl 0 rfl) ?_
  refine va_get (D := D) (ci := 1) (v := .int ec) (C := RX1) (T := TX1) (N := 9) hx hb hts (by decide +kernel) hown hK hP 0 rfl rfl 6 (by decide) (hts (.fieldLink RX1 112 "FamilyProbes" "eventCount" "I") (by decide +kernel)) (fun _ h9 => h9) rfl dX1_events_1 ?_
  exact W.iret (v := ec) hx hb hr (fun tE ht hW => ⟨⟨ec, (sS, sP, sQ, sE, ec, sc, vl, LP, sT), rfl, by first | (simp only [gS, gP, gQ, gE, gec, gsc, gvl, gL, gT, eq_self, ↓reduceIte, Bool.false_eq_true, Bool.not_false, Bool.not_true, Bool.and_true, Bool.and_false, Bool.true_and, Bool.false_and, decide_true, decide_false] <;> first | done | decide) | (simp [gS, gP, gQ, gE, gec, gsc, gvl, gL, gT]; done), by rw [ht]; exact hP, va_K.moved hW.alike hK, hD⟩, hS.F ht⟩) hS.2.2 dX1_events_4
set_option maxHeartbeats 8000000 in
set_option maxRecDepth 100000 in
theorem k_event (l : Launch) (D : va_G) (F : XF) (u : XS) (sz : Nat) (p0 : Int32) : Met l yX1_event wsX1_event ({ frames := 1, cells := 0, slots := 0, locals := 21 }) (xPc D F u sz [.ref F.1, .int p0]) (va_Qi (fun (r : Int32) (v : XS) => (r, v) = sEv u p0) (xB D F (va_A (xW F u) sz)) (va_A (xW F u) sz)) 0 0 (va_A (xW F u) sz) := by
  obtain ⟨sS, sP, sQ, sE, ec, sc, vl, LP, sT⟩ := u
  refine Met.ofW (cc := cX1_event) (maxL := 2) (ret := (some .int)) (by decide) rfl ?_
  intro p e s m args below meth c s₁ B hml hv
  obtain ⟨rfl, hsz, hP, hK, hD0, hN, hZ⟩ := hv
  have hx := B.exec
  have hb := B.bytes
  have hr := B.returns
  have hts := atoms_spec (ws := wsX1_event) B.pre
  have hown : s.vm.findClass RX1 = some m.cls := findClass_of_methodNamed B.named
  have hlocks := B.notSynchronized
  subst hsz
  have hD := hD0.self (sz := s.heap.size)
  generalize hAe : va_A (xW F (sS, sP, sQ, sE, ec, sc, vl, LP, sT)) s.heap.size = A at hD hZ ⊢
  have hA : ∀ q : Nat, s.heap.size ≤ q → A q := fun q h => by rw [← hAe]; exact Or.inr h
  have hS : va_S A s.heap s.heap [] := va_S.rf
  obtain ⟨tk, tm, tr, hztk, httk, hztm, httm, hztr, httr⟩ := id hZ
  refine xHeap (C := fun H => va_P D vwCl (xW F (sS, sP, sQ, sE, ec, sc, vl, LP, sT)) H ∧ va_S A s.heap H []) ⟨hP, hS⟩ (fun H hC => ?_)
  obtain ⟨hP, hS⟩ := hC
  have hl := lv_entry ([.ref F.1, .int p0]) (n := 2) (Nat.le_of_ble_eq_true rfl)
  rw [lg_entry_eq]
  generalize (lg_sl ([.ref F.1, .int p0]) ++ List.replicate (2 - (lg_sl ([.ref F.1, .int p0])).length) Slot.unset).toArray = ls at hl ⊢
  have hl : lv_has ls 2 [(0, .ref F.1), (1, .int p0)] := hl
  refine lv_iload_n hx hb dX1_event_0 rfl (lv_at hl 1 rfl) ?_
  refine lv_bipush (v := 16) hx hb dX1_event_1 (by decide) ?_
  refine vp_callSi (va_Run.run (va_runS (As := [.int p0, .int 16]) (rest := []) ⟨hx, hb, hml, hown, hts⟩ (k_isBelow l p0 16) (va_cwS 2 hts gX1_event_X1_isBelow rfl rfl rfl (by decide +kernel) ⟨Nat.le_of_ble_eq_true rfl, Nat.le_of_ble_eq_true rfl⟩) preEq rfl rfl hl.1 rfl (lv_room (Nat.le_of_ble_eq_true rfl)) dX1_event_3 ⟨Nat.le_of_ble_eq_true rfl, Nat.le_of_ble_eq_true rfl⟩)) (fun r1 hw2 => ?_)
  rcases bI_c hw2 with ⟨rfl, b3⟩ | ⟨rfl, b3⟩
  · refine lv_if_eq (tgt := 17) hx hb dX1_event_6 (by decide) (fun cz => absurd cz (by decide)) (fun _ => ?_)
    refine lv_iload_n hx hb dX1_event_9 rfl (lv_at hl 1 rfl) ?_
    refine lv_aload_n hx hb dX1_event_10 rfl (lv_at hl 0 rfl) ?_
    refine va_get (D := D) (ci := 1) (v := .int ec) (C := RX1) (T := TX1) (N := 9) hx hb hts (by decide +kernel) hown hK hP 0 rfl rfl 6 (by decide) (hts (.fieldLink RX1 112 "FamilyProbes" "eventCount" "I") (by decide +kernel)) (fun _ h9 => h9) rfl dX1_event_11 ?_
    refine lv_icmp_lt (tgt := 19) hx hb dX1_event_14 (by decide) (fun c4 => ?_) (fun c4 => ?_)
    · refine lv_aload_n hx hb dX1_event_19 rfl (lv_at hl 0 rfl) ?_
      refine va_get (D := D) (ci := 1) (v := .ref F.2.2.2.2.2.2.1) (C := RX1) (T := TX1) (N := 9) hx hb hts (by decide +kernel) hown hK hP 0 rfl rfl 5 (by decide) (hts (.fieldLink RX1 31 "FamilyProbes" "lastEvents" "[I") (by decide +kernel)) (fun _ h9 => h9) rfl dX1_event_20 ?_
      refine lv_aload_n hx hb dX1_event_23 rfl (lv_at hl 0 rfl) ?_
      refine va_get (D := D) (ci := 1) (v := .int ec) (C := RX1) (T := TX1) (N := 9) hx hb hts (by decide +kernel) hown hK hP 0 rfl rfl 6 (by decide) (hts (.fieldLink RX1 112 "FamilyProbes" "eventCount" "I") (by decide +kernel)) (fun _ h9 => h9) rfl dX1_event_24 ?_
      refine lv_iconst (v := 1) hx hb dX1_event_27 (by decide) ?_
      refine lv_isub hx hb dX1_event_28 ?_
      refine lv_iload_n hx hb dX1_event_29 rfl (lv_at hl 1 rfl) ?_
      refine lv_isub hx hb dX1_event_30 ?_
      refine lv_bipush (v := 15) hx hb dX1_event_31 (by decide) ?_
      refine lv_iand hx hb dX1_event_33 ?_
      refine va_iald (f := sE) hx hb hK hP 4 3 rfl rfl (and_in16 _) dX1_event_34 ?_
      exact W.iret (v := (sE (((ec - 1) - p0) &&& 15).toNatClampNeg)) hx hb hr (fun tE ht hW => ⟨⟨(sE (((ec - 1) - p0) &&& 15).toNatClampNeg), (sS, sP, sQ, sE, ec, sc, vl, LP, sT), rfl, by first | (simp only [sEv, gS, gP, gQ, gE, gec, gsc, gvl, gL, gT, b3, eq_true c4, eq_self, ↓reduceIte, Bool.false_eq_true, Bool.not_false, Bool.not_true, Bool.and_true, Bool.and_false, Bool.true_and, Bool.false_and, decide_true, decide_false] <;> first | done | decide) | (simp only [sEv, gS, gP, gQ, gE, gec, gsc, gvl, gL, gT, b3, c4, eq_self, ↓reduceIte, Bool.false_eq_true, Bool.not_false, Bool.not_true, Bool.and_true, Bool.and_false, Bool.true_and, Bool.false_and, decide_true, decide_false] <;> first | done | decide) | (simp [sEv, gS, gP, gQ, gE, gec, gsc, gvl, gL, gT, b3, c4]; done) | (simp [sEv, gS, gP, gQ, gE, gec, gsc, gvl, gL, gT, b3, eq_true c4]; done), by rw [ht]; exact hP, va_K.moved hW.alike hK, hD⟩, hS.F ht⟩) hS.2.2 dX1_event_35
    · refine lv_iconst (v := (-1)) hx hb dX1_event_17 (by decide) ?_
      exact W.iret (v := (-1)) hx hb hr (fun tE ht hW => ⟨⟨(-1), (sS, sP, sQ, sE, ec, sc, vl, LP, sT), rfl, by first | (simp only [sEv, gS, gP, gQ, gE, gec, gsc, gvl, gL, gT, b3, c4, eq_self, ↓reduceIte, Bool.false_eq_true, Bool.not_false, Bool.not_true, Bool.and_true, Bool.and_false, Bool.true_and, Bool.false_and, decide_true, decide_false] <;> first | done | decide) | (simp [sEv, gS, gP, gQ, gE, gec, gsc, gvl, gL, gT, b3, c4]; done), by rw [ht]; exact hP, va_K.moved hW.alike hK, hD⟩, hS.F ht⟩) hS.2.2 dX1_event_18
  · refine lv_if_eq (tgt := 17) hx hb dX1_event_6 (by decide) (fun _ => ?_) (fun cz => absurd cz (by decide))
    refine lv_iconst (v := (-1)) hx hb dX1_event_17 (by decide) ?_
    exact W.iret (v := (-1)) hx hb hr (fun tE ht hW => ⟨⟨(-1), (sS, sP, sQ, sE, ec, sc, vl, LP, sT), rfl, by first | (simp only [sEv, gS, gP, gQ, gE, gec, gsc, gvl, gL, gT, b3, eq_self, ↓reduceIte, Bool.false_eq_true, Bool.not_false, Bool.not_true, Bool.and_true, Bool.and_false, Bool.true_and, Bool.false_and, decide_true, decide_false] <;> first | done | decide) | (simp [sEv, gS, gP, gQ, gE, gec, gsc, gvl, gL, gT, b3]; done), by rw [ht]; exact hP, va_K.moved hW.alike hK, hD⟩, hS.F ht⟩) hS.2.2 dX1_event_18
