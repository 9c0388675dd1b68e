theorem hd_in {L k : Nat} (hL : L ≤ 3072) (hk : k ≤ 512) (h : ¬ Int32.ofNat L - 6 < nI (6 * k)) : 6 * k + 6 ≤ L := by
  have h : ¬ nI L - nI 6 < nI (6 * k) := h
  rw [Int32.lt_iff_toInt_lt, pk_sub_toInt (by omega) (by decide), nI_toInt (by omega)] at h
  omega
set_option maxHeartbeats 4000000 in
/-- THE LAW'S LOOP -/
theorem law_loop {p : Program} {l : Launch} {e : Env} {s : State} {m : MethodId} {below : List Frame} {meth : Method} {c : Code} {b L : Nat} {xs : Nat → Int32} (hL : L ≤ 3072) (C0 : lw_At p s m meth c b L xs) {D : va_G} {F : XF} {G : YF} (hC : LCx D F G s) : ∀ (n k : Nat), k ≤ 512 → L < 6 * (k + n) → LN p l e s m below meth c b D F G k := by
  have body : ∀ k : Nat, k ≤ 512 → (6 * k + 6 ≤ L → LN p l e s m below meth c b D F G (k + 1)) → LN p l e s m below meth c b D F G k := by
    intro k hk512 ih u v ι c0 e0 H locs ls hI hl
    obtain ⟨hx, hb, hr, hml, hown, hts, hX, hbl, hlocks, hgv⟩ := id C0
    obtain ⟨hR, hc0, he0, hP, hD, hS⟩ := id hI
    have hbA : ¬ (fun q : Nat => s.heap.size ≤ q) b := Nat.not_le.mpr hbl
    refine lv_iload_n hx hb dL_law_18 rfl (lv_at hl 0 rfl) ?_
    refine lv_aload_n hx hb dL_law_19 rfl (lv_at hl 3 rfl) ?_
    refine va_slen hx hb hX hbl hbA hS dL_law_20 ?_
    refine lv_bipush (v := 6) hx hb dL_law_21 (by decide) ?_
    refine lv_isub hx hb dL_law_23 ?_
    refine lv_icmp_gt (tgt := 622) hx hb dL_law_24 (by decide) (fun cz => ?_) (fun cz => ?_)
    · refine lv_iconst (v := 1) hx hb dL_law_622 (by decide) ?_
      refine va_forget (fun q hq => hS.2.2 q hq) ?_
      refine W.widen (k := 600000) (n := 7302250) (by omega) (by omega) ?_
      exact lw_ret hx hb hr hlocks dL_law_623
    · have hk := hd_in hL hk512 cz
      exact law_go hL C0 hC k hk hI hl (ih hk)
  intro n
  induction n with
  | zero => intro k h1 h2; exact body k h1 (fun h => absurd h (by omega))
  | succ n ih => intro k h1 h2; exact body k h1 (fun h => ih (k + 1) (by omega) (by omega))
/-- the class's tables at the start -/
theorem st_of {b : Nat} {s : State} (hts : ∀ w ∈ lw_tbl, w.before #[Value.ref b] s = true) (hgv : (Jvm.Cond.and given_1 narrow_1).before #[Value.ref b] s = true) : xSt (fun q : Nat => s.heap.size ≤ q) s s.heap := by
  have hs := flat_of_before _ hgv
  have hA : ∀ a : Nat, a < s.heap.size → ¬ (fun q : Nat => s.heap.size ≤ q) a := fun a ha => Nat.not_le.mpr ha
  obtain ⟨tk, k1, k2⟩ := va_Tof (tm := .static "FamilyProbes" "TYPES_OF_KIND" "[I") (ty := .int) (N := 10) (f := fun k => .int (tokV k)) (A := fun q : Nat => s.heap.size ≤ q) (by decide) (hs _ (by decide +kernel)) (va_eqt (hs (.eq (.length (.static "FamilyProbes" "TYPES_OF_KIND" "[I")) (.int 10)) (by decide +kernel))) (fun j hj => by
    rcases (show j = 0 ∨ j = 1 ∨ j = 2 ∨ j = 3 ∨ j = 4 ∨ j = 5 ∨ j = 6 ∨ j = 7 ∨ j = 8 ∨ j = 9 by omega) with rfl | rfl | rfl | rfl | rfl | rfl | rfl | rfl | rfl | rfl <;> exact va_eqt (hs _ (by decide +kernel))) hA
  obtain ⟨tm, m1, m2⟩ := va_Tof (tm := .static "FamilyProbes" "TYPES_WITH_MEMBER" "[I") (ty := .int) (N := 12) (f := fun k => .int (memV k)) (A := fun q : Nat => s.heap.size ≤ q) (by decide) (hs _ (by decide +kernel)) (va_eqt (hs (.eq (.length (.static "FamilyProbes" "TYPES_WITH_MEMBER" "[I")) (.int 12)) (by decide +kernel))) (fun j hj => by
    rcases (show j = 0 ∨ j = 1 ∨ j = 2 ∨ j = 3 ∨ j = 4 ∨ j = 5 ∨ j = 6 ∨ j = 7 ∨ j = 8 ∨ j = 9 ∨ j = 10 ∨ j = 11 by omega) with rfl | rfl | rfl | rfl | rfl | rfl | rfl | rfl | rfl | rfl | rfl | rfl <;> exact va_eqt (hs _ (by decide +kernel))) hA
  obtain ⟨tr, r1, r2⟩ := va_Tof (tm := .static "FamilyProbes" "TYPE_OF_ROW" "[I") (ty := .int) (N := 4) (f := fun k => .int (rowV k)) (A := fun q : Nat => s.heap.size ≤ q) (by decide) (hs _ (by decide +kernel)) (va_eqt (hs (.eq (.length (.static "FamilyProbes" "TYPE_OF_ROW" "[I")) (.int 4)) (by decide +kernel))) (fun j hj => by
    rcases (show j = 0 ∨ j = 1 ∨ j = 2 ∨ j = 3 by omega) with rfl | rfl | rfl | rfl <;> exact va_eqt (hs _ (by decide +kernel))) hA
  have hini := hts (.initialized "FamilyProbes") (by decide +kernel)
  exact ⟨tk, tm, tr, va_Zref (hts (.laysStatic "FamilyProbes" "TYPES_OF_KIND" "[I") (by decide +kernel)) hini k1 hA, k2, va_Zref (hts (.laysStatic "FamilyProbes" "TYPES_WITH_MEMBER" "[I") (by decide +kernel)) hini m1 hA, m2, va_Zref (hts (.laysStatic "FamilyProbes" "TYPE_OF_ROW" "[I") (by decide +kernel)) hini r1 hA, r2⟩
theorem nl_in : ∀ w ∈ xNl, w ∈ lw_tbl := by decide +kernel
theorem nl_on : ∀ w ∈ xNl, w.onTables = true := by decide +kernel
theorem Rl0 (F : XF) (hne : F.2.1 ≠ F.2.2.1) : Rl F (xU0 F) yV0 (fun a => if a = F.2.1 then 1 else 2) 2 0 := by
  have hw : xT0 F.2.1 F.2.2.1 F.2.1 = (4, 2, none, 0, 0, 0) := xT0_w hne
  have ho : xT0 F.2.1 F.2.2.1 F.2.2.1 = (5, 9, none, 0, 0, 0) := xT0_o
  have mem : ∀ a, a ∈ gL (xU0 F) → a = F.2.1 ∨ a = F.2.2.1 := fun a ha => by
    have ha : a ∈ [F.2.1, F.2.2.1] := ha
    simpa using ha
  have m1 : F.2.1 ∈ gL (xU0 F) := List.mem_cons_self
  have m2 : F.2.2.1 ∈ gL (xU0 F) := List.mem_cons_of_mem _ List.mem_cons_self
  have i1 : (fun a => if a = F.2.1 then 1 else 2 : Nat → Nat) F.2.1 = 1 := if_pos rfl
  have i2 : (fun a => if a = F.2.1 then 1 else 2 : Nat → Nat) F.2.2.1 = 2 := if_neg (fun h => hne h.symm)
  have nn : ∀ (q : Nat), ¬ (none : Option Nat) = some q := fun q h => by cases h
  refine ⟨⟨fun i q h => absurd h (nn q), fun i q h => absurd h (nn q), fun i q h => absurd h (nn q), ?_, ?_, m1, m2⟩, ⟨rfl, by decide, by decide, rfl, ?_, ?_, ?_, ?_⟩, ⟨?_, ?_, ?_, i1, i2, ?_⟩, ⟨fun i => rfl, fun i => rfl⟩, ⟨rfl, rfl⟩, ⟨rfl, rfl, ?_⟩⟩
  · intro a ha q hq
    have hq : (xT0 F.2.1 F.2.2.1 a).2.2.1 = some q := hq
    rcases mem a ha with rfl | rfl
    · rw [hw] at hq; cases hq
    · rw [ho] at hq; cases hq
  · intro a ha
    show isB (xT0 F.2.1 F.2.2.1 a).1 10 = true
    rcases mem a ha with rfl | rfl
    · rw [hw]; decide
    · rw [ho]; decide
  · intro j hj
    show upd (upd (fun _ => 0) 1 4) 2 5 j = 0
    rw [pk_un (by omega), pk_un (by omega)]
  · intro j hj
    rcases (show j = 0 ∨ j = 1 ∨ j = 2 ∨ j = 3 ∨ j = 4 ∨ j = 5 ∨ j = 6 ∨ j = 7 ∨ j = 8 ∨ j = 9 by omega) with rfl | rfl | rfl | rfl | rfl | rfl | rfl | rfl | rfl | rfl <;> rfl
  · intro j hj
    rcases (show j = 0 ∨ j = 1 ∨ j = 2 ∨ j = 3 ∨ j = 4 ∨ j = 5 ∨ j = 6 ∨ j = 7 ∨ j = 8 by omega) with rfl | rfl | rfl | rfl | rfl | rfl | rfl | rfl | rfl <;> rfl
  · intro i
    exact vp_in_nI (n := 0) (by decide) (by decide)
  · intro a ha
    rcases mem a ha with rfl | rfl
    · rw [i1]; decide
    · rw [i2]; decide
  · intro a ha b hb hab
    rcases mem a ha with rfl | rfl <;> rcases mem b hb with rfl | rfl
    · rfl
    · rw [i1, i2] at hab; exact absurd hab (by decide)
    · rw [i1, i2] at hab; exact absurd hab (by decide)
    · rfl
  · intro j h1 h2
    rcases (show j = 1 ∨ j = 2 by omega) with rfl | rfl
    · exact ⟨_, m1, i1⟩
    · exact ⟨_, m2, i2⟩
  · intro a ha
    rcases mem a ha with rfl | rfl
    · show RTg (xT0 F.2.1 F.2.2.1) [F.2.1, F.2.2.1] (upd (upd (fun _ => 0) 1 4) 2 5) (upd (upd (fun _ => 0) 1 2) 2 9) (fun _ => 0) _ F.2.1
      unfold RTg
      rw [hw, i1]
      exact ⟨rfl, fun h => absurd h (by decide), fun _ => ⟨rfl, rfl, rfl⟩, fun h => absurd h (by decide), fun h => absurd h (by decide), fun _ => rfl, fun h => absurd h (by decide)⟩
    · show RTg (xT0 F.2.1 F.2.2.1) [F.2.1, F.2.2.1] (upd (upd (fun _ => 0) 1 4) 2 5) (upd (upd (fun _ => 0) 1 2) 2 9) (fun _ => 0) _ F.2.2.1
      unfold RTg
      rw [ho, i2]
      exact ⟨rfl, fun h => absurd h (by decide), fun _ => ⟨rfl, rfl, rfl⟩, fun h => absurd h (by decide), fun h => absurd h (by decide), fun h => absurd h (by decide), fun _ => rfl⟩
  · intro j _ h
    exact absurd h (by omega)
