/-! numbers: floats and doubles of the class against the model's whole numbers -/
theorem ad_eq (a : Int32) : fMag a = lN a.toInt.natAbs := by
  have h1 := a.toInt_lt
  have h2 := a.le_toInt
  have e : a.toInt64.toInt = a.toInt := Int32.toInt_toInt64 a
  apply Int64.toInt_inj.mp
  rw [pk_lT (by omega)]
  unfold fMag
  split
  · rename_i h
    rw [Int32.le_iff_toInt_le, Int32.toInt_zero] at h
    omega
  · rename_i h
    rw [Int32.le_iff_toInt_le, Int32.toInt_zero] at h
    have e2 : (-a.toInt64).toInt = -a.toInt := by
      rw [Int64.toInt_neg, e]
      exact Int.bmod_eq_of_le (by omega) (by omega)
    omega
theorem ad_le (a : Int32) : a.toInt.natAbs ≤ 2147483648 := by
  have h1 := a.toInt_lt
  have h2 := a.le_toInt
  omega
theorem dig_sim : ∀ (n : Nat) (k r : Int32) (j : Nat), j ≤ 2147483648 → r.toInt.natAbs = j / 10 → fDig n k r = fDigY n (lN j) k
  | 0, _, _, _, _, _ => rfl
  | n + 1, k, r, j, hj, h => by
    have e1 : lg_cmp (lN j) 9 ≤ 0 ↔ j ≤ 9 := by
      rw [lg_le]
      exact pk_lLE (b := 9) (by omega) (by decide)
    have e2 : r = 0 ↔ j ≤ 9 := by
      rw [← Int32.toInt_inj, Int32.toInt_zero]
      omega
    show (if r = 0 then k else fDig n (k + 1) (r / 10)) = (if lg_cmp (lN j) 9 ≤ 0 then k else fDigY n (lN j / 10) (k + 1))
    by_cases q : j ≤ 9
    · rw [if_pos (e1.mpr q), if_pos (e2.mpr q)]
    · rw [if_neg (fun z => q (e1.mp z)), if_neg (fun z => q (e2.mp z))]
      have e3 : lN j / 10 = lN (j / 10) := pk_lDiv (b := 10) (by omega) (by decide) (by decide)
      rw [e3]
      refine dig_sim n (k + 1) (r / 10) (j / 10) (by omega) ?_
      rw [Int32.toInt_div_of_ne_right r 10 (by decide), show (10 : Int32).toInt = 10 from by decide, Int.natAbs_tdiv, h]
      rfl
theorem dec_sim (a : Int32) : fDec a = fDecY a := by
  unfold fDec fDecY
  rw [ad_eq]
  refine dig_sim 9 _ _ _ (ad_le a) ?_
  rw [Int32.toInt_div_of_ne_right a 10 (by decide), show (10 : Int32).toInt = 10 from by decide, Int.natAbs_tdiv]
  rfl
theorem held_eq (v : Int64) : fHeld v = Int32.ofInt (max (-2 ^ 31) (min (2 ^ 31 - 1) v.toInt)) := by
  have e1 : lg_cmp v 2147483647 ≤ 0 ↔ v.toInt ≤ 2147483647 := by
    rw [lg_le, Int64.le_iff_toInt_le]
    exact Iff.rfl
  have e2 : 0 ≤ lg_cmp v (-2147483648) ↔ -2147483648 ≤ v.toInt := by
    rw [lg_cmp_ge, Int64.le_iff_toInt_le]
    exact Iff.rfl
  unfold fHeld
  by_cases h1 : v.toInt ≤ 2147483647
  · rw [if_pos (e1.mpr h1)]
    by_cases h2 : -2147483648 ≤ v.toInt
    · rw [if_pos (e2.mpr h2), show max (-2 ^ 31) (min (2 ^ 31 - 1) v.toInt) = v.toInt from by omega]
      apply Int32.toInt_inj.mp
      rw [Int64.toInt_toInt32, Int32.toInt_ofInt]
    · rw [if_neg (fun z => h2 (e2.mp z)), show max (-2 ^ 31) (min (2 ^ 31 - 1) v.toInt) = -2 ^ 31 from by omega]
      decide
  · rw [if_neg (fun z => h1 (e1.mp z)), show max (-2 ^ 31) (min (2 ^ 31 - 1) v.toInt) = 2 ^ 31 - 1 from by omega]
    decide
theorem near_whole (s : Bool) (j k : Nat) (h0 : 0 < j) (h1 : j < 2 ^ (24 + k)) (h2 : 2 ^ (23 + k) ≤ j) (hk : k ≤ 8) : FP.Core.Whole (FP.Core.signed s (FP.Core.nearest j (2 ^ k) * 2 ^ k)) (FP.Core.roundRatio FP.Core.b32 s j 1 0) := by
  have hp : (FP.Core.b32.p : Int) = 24 := rfl
  have hq : FP.Core.quantum FP.Core.b32 j 1 0 = (k : Int) := by
    refine FP.Core.quantum_eq h0 (by decide) ?_ ?_ (.inr ?_)
    · rw [FP.Core.qmin_b32]
      omega
    · unfold FP.Core.Below
      rw [hp, show (-((k : Int) - 0 + 24)).toNat = 0 from by omega, show ((k : Int) - 0 + 24).toNat = 24 + k from by omega]
      omega
    · unfold FP.Core.Below
      rw [hp, show (-((k : Int) - 0 + (24 - 1))).toNat = 0 from by omega, show ((k : Int) - 0 + (24 - 1)).toNat = 23 + k from by omega]
      omega
  unfold FP.Core.roundRatio
  rw [if_neg (by omega), hq]
  unfold FP.Core.roundAt
  have e1 : FP.Core.unitsNum j 0 k = j := by
    unfold FP.Core.unitsNum
    rw [show ((0 : Int) - k).toNat = 0 from by omega]
    omega
  have e2 : FP.Core.unitsDen 1 0 k = 2 ^ k := by
    unfold FP.Core.unitsDen
    rw [show ((k : Int) - 0).toNat = k from by omega]
    omega
  rw [e1, e2]
  have hn : FP.Core.nearest j (2 ^ k) ≤ 2 ^ 24 := FP.Core.nearest_le (Nat.two_pow_pos _) (by rw [← Nat.pow_add]; omega)
  have hm : FP.Core.b32.qmax = 104 := by decide
  have ht : FP.Core.b32.tails = 2 ^ 23 := by decide
  unfold FP.Core.settle FP.Core.bound
  by_cases hc : FP.Core.nearest j (2 ^ k) < 2 ^ FP.Core.b32.p
  · rw [if_pos hc, if_pos (by omega)]
    show FP.Core.signed s (FP.Core.nearest j (2 ^ k) * 2 ^ (k : Int).toNat) = FP.Core.signed s (FP.Core.nearest j (2 ^ k) * 2 ^ k) * ((2 ^ (-(k : Int)).toNat : Nat) : Int)
    rw [Int.toNat_natCast, show (-(k : Int)).toNat = 0 from by omega]
    exact (Int.mul_one _).symm
  · have hc' : FP.Core.nearest j (2 ^ k) = 2 ^ 24 := Nat.le_antisymm hn (Nat.le_of_not_lt hc)
    rw [if_neg hc, if_pos (by omega), hc', ht]
    show FP.Core.signed s (2 ^ 23 * 2 ^ ((k : Int) + 1).toNat) = FP.Core.signed s (2 ^ 24 * 2 ^ k) * ((2 ^ (-((k : Int) + 1)).toNat : Nat) : Int)
    rw [show ((k : Int) + 1).toNat = k + 1 from by omega, show (-((k : Int) + 1)).toNat = 0 from by omega, ← Nat.pow_add, ← Nat.pow_add, show 23 + (k + 1) = 24 + k from by omega]
    exact (Int.mul_one _).symm
theorem rl_near (j u : Nat) (hj : j ≤ 2147483648) (h0 : 0 < u) (hu : u ≤ 256) : fRl (lN j) (lN u) = lN (FP.Core.nearest j u * u) := by
  have h1 : lN j / lN u = lN (j / u) := pk_lDiv (by omega) h0 (by omega)
  have h2 : lN j - lN (j / u) * lN u = lN (j % u) := by
    rw [← h1]
    exact pk_lRem (by omega) h0 (by omega)
  have hm : j % u < u := Nat.mod_lt _ h0
  have hd : j / u ≤ j := Nat.div_le_self _ _
  have h3 : (2 : Int64) * lN (j % u) = lN (2 * (j % u)) := lN_mul 2 (j % u)
  have h4 : lN (j / u) - lN (j / u) / 2 * 2 = lN (j / u % 2) := pk_lRem (b := 2) (by omega) (by decide) (by decide)
  unfold fRl FP.Core.nearest
  rw [h1, h2, h3, h4, lN_mul, lN_add]
  have c1 : 0 < lg_cmp (lN (2 * (j % u))) (lN u) ↔ u < 2 * (j % u) := by
    rw [lg_cmp_gt]
    exact pk_lLT (by omega) (by omega)
  have c2 : lg_cmp (lN (2 * (j % u))) (lN u) = 0 ↔ 2 * (j % u) = u := by
    rw [lg_cmp_eq]
    exact pk_lEQ (by omega) (by omega)
  have c3 : lg_cmp (lN (j / u % 2)) 1 = 0 ↔ j / u % 2 = 1 := by
    rw [lg_cmp_eq]
    exact pk_lEQ (b := 1) (by omega) (by decide)
  by_cases q1 : u < 2 * (j % u)
  · rw [if_pos (c1.mpr q1), if_neg (by omega), if_pos q1, Nat.succ_mul]
  · rw [if_neg (fun z => q1 (c1.mp z))]
    by_cases q2 : 2 * (j % u) = u
    · rw [if_pos (c2.mpr q2), if_neg (show ¬ 2 * (j % u) < u from by omega), if_neg q1]
      by_cases q3 : j / u % 2 = 1
      · rw [if_pos (c3.mpr q3), q3, Nat.succ_mul]
      · rw [if_neg (fun z => q3 (c3.mp z)), show j / u % 2 = 0 from by omega]
        rfl
    · rw [if_neg (fun z => q2 (c2.mp z)), if_pos (by omega)]
theorem ru_lt (j u : Nat) (hj : j ≤ 2147483648) (h0 : 0 < u) (hu : u ≤ 256) : lg_cmp (lN j / lN u) 16777216 < 0 ↔ j / u < 16777216 := by
  rw [pk_lDiv (by omega) h0 (by omega), lg_lt]
  have hd : j / u ≤ j := Nat.div_le_self _ _
  exact pk_lLT (b := 16777216) (by omega) (by decide)
theorem ru_pow (j : Nat) (hj : j ≤ 2147483648) : ∃ k, k ≤ 8 ∧ fRu (lN j) = lN (2 ^ k) ∧ j < 2 ^ (24 + k) ∧ (k = 0 ∨ 2 ^ (23 + k) ≤ j) := by
  have a0 := ru_lt j 1 hj (by decide) (by decide)
  have a1 := ru_lt j 2 hj (by decide) (by decide)
  have a2 := ru_lt j 4 hj (by decide) (by decide)
  have a3 := ru_lt j 8 hj (by decide) (by decide)
  have a4 := ru_lt j 16 hj (by decide) (by decide)
  have a5 := ru_lt j 32 hj (by decide) (by decide)
  have a6 := ru_lt j 64 hj (by decide) (by decide)
  have a7 := ru_lt j 128 hj (by decide) (by decide)
  show ∃ k, k ≤ 8 ∧ (if lg_cmp (lN j / lN 1) 16777216 < 0 then lN 1 else if lg_cmp (lN j / lN 2) 16777216 < 0 then lN 2 else if lg_cmp (lN j / lN 4) 16777216 < 0 then lN 4 else if lg_cmp (lN j / lN 8) 16777216 < 0 then lN 8 else if lg_cmp (lN j / lN 16) 16777216 < 0 then lN 16 else if lg_cmp (lN j / lN 32) 16777216 < 0 then lN 32 else if lg_cmp (lN j / lN 64) 16777216 < 0 then lN 64 else if lg_cmp (lN j / lN 128) 16777216 < 0 then lN 128 else lN 256) = lN (2 ^ k) ∧ j < 2 ^ (24 + k) ∧ (k = 0 ∨ 2 ^ (23 + k) ≤ j)
  by_cases q0 : j / 1 < 16777216
  · exact ⟨0, by decide, by rw [if_pos (a0.mpr q0)], by omega, .inl rfl⟩
  rw [if_neg (fun z => q0 (a0.mp z))]
  by_cases q1 : j / 2 < 16777216
  · exact ⟨1, by decide, by rw [if_pos (a1.mpr q1)], by omega, .inr (by omega)⟩
  rw [if_neg (fun z => q1 (a1.mp z))]
  by_cases q2 : j / 4 < 16777216
  · exact ⟨2, by decide, by rw [if_pos (a2.mpr q2)], by omega, .inr (by omega)⟩
  rw [if_neg (fun z => q2 (a2.mp z))]
  by_cases q3 : j / 8 < 16777216
  · exact ⟨3, by decide, by rw [if_pos (a3.mpr q3)], by omega, .inr (by omega)⟩
  rw [if_neg (fun z => q3 (a3.mp z))]
  by_cases q4 : j / 16 < 16777216
  · exact ⟨4, by decide, by rw [if_pos (a4.mpr q4)], by omega, .inr (by omega)⟩
  rw [if_neg (fun z => q4 (a4.mp z))]
  by_cases q5 : j / 32 < 16777216
  · exact ⟨5, by decide, by rw [if_pos (a5.mpr q5)], by omega, .inr (by omega)⟩
  rw [if_neg (fun z => q5 (a5.mp z))]
  by_cases q6 : j / 64 < 16777216
  · exact ⟨6, by decide, by rw [if_pos (a6.mpr q6)], by omega, .inr (by omega)⟩
  rw [if_neg (fun z => q6 (a6.mp z))]
  by_cases q7 : j / 128 < 16777216
  · exact ⟨7, by decide, by rw [if_pos (a7.mpr q7)], by omega, .inr (by omega)⟩
  rw [if_neg (fun z => q7 (a7.mp z))]
  exact ⟨8, by decide, rfl, by omega, .inr (by omega)⟩
theorem rnd_bound (j k : Nat) (hk : k ≤ 8) (h1 : j < 2 ^ (24 + k)) : FP.Core.nearest j (2 ^ k) * 2 ^ k ≤ 2 ^ 32 := by
  have hn : FP.Core.nearest j (2 ^ k) ≤ 2 ^ 24 := FP.Core.nearest_le (Nat.two_pow_pos _) (by rw [← Nat.pow_add]; omega)
  have h2 : 2 ^ k ≤ 2 ^ 8 := Nat.pow_le_pow_right (by decide) hk
  exact Nat.le_trans (Nat.mul_le_mul hn h2) (by decide)
theorem rnd_whole (a : Int32) : FP.Core.FInt (fRnd a).toInt (FP.i2f a) := by
  unfold FP.Core.FInt
  rw [FP.Core.val32_i2f]
  obtain ⟨k, hk, e, h1, h2⟩ := ru_pow a.toInt.natAbs (ad_le a)
  have hb := rnd_bound a.toInt.natAbs k hk h1
  have h8 : 2 ^ k ≤ 2 ^ 8 := Nat.pow_le_pow_right (by decide) hk
  have e2 : fRl (fMag a) (fRu (fMag a)) = lN (FP.Core.nearest a.toInt.natAbs (2 ^ k) * 2 ^ k) := by
    rw [ad_eq, e]
    exact rl_near _ _ (ad_le a) (Nat.two_pow_pos _) h8
  have e3 : (fRnd a).toInt = FP.Core.signed (decide (a.toInt < 0)) (FP.Core.nearest a.toInt.natAbs (2 ^ k) * 2 ^ k) := by
    unfold fRnd
    rw [e2]
    by_cases h : 0 ≤ a
    · rw [if_pos h, pk_lT (by omega)]
      rw [Int32.le_iff_toInt_le, Int32.toInt_zero] at h
      unfold FP.Core.signed
      rw [if_neg (by simp; omega)]
    · rw [if_neg h, Int64.toInt_neg, pk_lT (by omega), Int.bmod_eq_of_le (by omega) (by omega)]
      rw [Int32.le_iff_toInt_le, Int32.toInt_zero] at h
      unfold FP.Core.signed
      rw [if_pos (by simp; omega)]
  rw [e3]
  rcases h2 with h2 | h2
  · subst h2
    have e4 : FP.Core.nearest a.toInt.natAbs (2 ^ 0) * 2 ^ 0 = a.toInt.natAbs := by
      have := FP.Core.nearest_exact (B := 1) a.toInt.natAbs (by decide)
      rw [Nat.mul_one] at this
      rw [Nat.pow_zero, Nat.mul_one, this]
    rw [e4]
    have e5 : FP.Core.signed (decide (a.toInt < 0)) a.toInt.natAbs = a.toInt := by
      unfold FP.Core.signed
      by_cases h : a.toInt < 0
      · rw [if_pos (by simp; omega)]
        omega
      · rw [if_neg (by simp; omega)]
        omega
    rw [e5]
    exact FP.Core.whole_round FP.Core.good_b32 FP.Core.wide_b32 (by show a.toInt.natAbs ≤ 2 ^ 24; omega) (FP.Core.whole_ofInt _)
  · exact near_whole (decide (a.toInt < 0)) a.toInt.natAbs k (by have := Nat.two_pow_pos (23 + k); omega) h1 h2 hk
theorem fp0 (a : Int32) : FP.f2i (FP.i2f a) = fHeld (fRnd a) := by
  have h := rnd_whole a
  rw [held_eq]
  show FP.Core.toI (FP.Core.val32 (FP.i2f a)) = _
  unfold FP.Core.FInt at h
  generalize FP.Core.val32 (FP.i2f a) = x at h
  cases x with
  | nan => exact h.elim
  | inf => exact h.elim
  | fin s c q =>
    show Int32.ofInt (max (-2 ^ 31) (min (2 ^ 31 - 1) (FP.Core.truncate s c q))) = _
    rw [FP.Core.truncate_whole h]
theorem fp7 (a b : Int32) : (Op.cmpValue (FP.fcmp (FP.i2f a) (FP.i2f b)) .l = 0) ↔ (lg_cmp (fRnd a) (fRnd b) = 0) := by
  have h : FP.fcmp (FP.i2f a) (FP.i2f b) = some (compare (fRnd a).toInt (fRnd b).toInt) := FP.Core.fcmp_int (rnd_whole a) (rnd_whole b)
  rw [h, lg_cmp_eq, ← Int64.toInt_inj, FP.Core.compare_ite]
  by_cases h1 : (fRnd a).toInt < (fRnd b).toInt
  · rw [if_pos h1]
    exact ⟨fun z => absurd z (by decide), fun z => by omega⟩
  · rw [if_neg h1]
    by_cases h2 : (fRnd a).toInt = (fRnd b).toInt
    · rw [if_pos h2]
      exact ⟨fun _ => h2, fun _ => by decide⟩
    · rw [if_neg h2]
      exact ⟨fun z => absurd z (by decide), fun z => absurd z h2⟩
theorem near_div (N D t : Nat) (hN : N ≤ 2 ^ 40) (hD : 0 < D) (h : 2 ^ 52 * D ≤ N * 2 ^ t) : FP.Core.nearest (N * 2 ^ t) D / 2 ^ t = N / D := by
  have hp : 0 < 2 ^ t := Nat.two_pow_pos t
  have hbig : D < 2 * 2 ^ t := by
    have h1 : N * 2 ^ t ≤ 2 ^ 40 * 2 ^ t := Nat.mul_le_mul_right _ hN
    generalize 2 ^ t = P at *
    omega
  have hs := (FP.Core.nearest_spec (N * 2 ^ t) D hD).2.1
  have h1 : N / D * 2 ^ t ≤ FP.Core.nearest (N * 2 ^ t) D := by
    refine FP.Core.nearest_ge hD ?_
    calc N / D * 2 ^ t * D = N / D * D * 2 ^ t := by rw [Nat.mul_assoc, Nat.mul_comm (2 ^ t) D, ← Nat.mul_assoc]
      _ ≤ N * 2 ^ t := Nat.mul_le_mul_right _ (Nat.div_mul_le_self N D)
  have h2 : FP.Core.nearest (N * 2 ^ t) D < (N / D + 1) * 2 ^ t := by
    apply Nat.lt_of_not_le
    intro hc
    have h3 : N + 1 ≤ (N / D + 1) * D := Nat.lt_mul_of_div_lt (Nat.lt_succ_self _) hD
    have h4 : (N + 1) * 2 ^ t ≤ FP.Core.nearest (N * 2 ^ t) D * D := by
      calc (N + 1) * 2 ^ t ≤ (N / D + 1) * D * 2 ^ t := Nat.mul_le_mul_right _ h3
        _ = (N / D + 1) * 2 ^ t * D := by rw [Nat.mul_assoc, Nat.mul_comm D, ← Nat.mul_assoc]
        _ ≤ FP.Core.nearest (N * 2 ^ t) D * D := Nat.mul_le_mul_right _ hc
    rw [Nat.mul_assoc] at hs
    rw [Nat.succ_mul] at h4
    omega
  exact Nat.le_antisymm (Nat.le_of_lt_succ ((Nat.div_lt_iff_lt_mul hp).mpr h2)) ((Nat.le_div_iff_mul_le hp).mpr h1)
theorem quot_toI (s : Bool) (N D : Nat) (hN : N ≤ 2 ^ 40) (hD : 0 < D) (hD2 : D ≤ 2 ^ 31) : FP.Core.toI (FP.Core.roundRatio FP.Core.b64 s N D 0) = Int32.ofInt (max (-2 ^ 31) (min (2 ^ 31 - 1) (FP.Core.signed s (N / D)))) := by
  have hm : FP.Core.b64.qmax = 971 := by decide
  have ht : FP.Core.b64.tails = 2 ^ 52 := by decide
  unfold FP.Core.roundRatio
  by_cases h0 : N = 0
  · rw [if_pos h0]
    subst h0
    show Int32.ofInt (max (-2 ^ 31) (min (2 ^ 31 - 1) (FP.Core.truncate s 0 FP.Core.b64.qmin))) = _
    unfold FP.Core.truncate
    rw [Nat.zero_mul, Nat.zero_div, Nat.zero_div]
  rw [if_neg h0]
  have hN0 : 0 < N := Nat.pos_of_ne_zero h0
  have hb := FP.Core.quantum_below (f := FP.Core.b64) hN0 hD 0
  have hg := FP.Core.quantum_not_below (f := FP.Core.b64) hN0 hD 0
  have hle := FP.Core.nearest_units_le (f := FP.Core.b64) hN0 hD 0
  generalize FP.Core.quantum FP.Core.b64 N D 0 = q at hb hg hle
  have hg2 : ¬ FP.Core.Below N D (q - 0 + ((FP.Core.b64.p : Int) - 1)) := by
    rcases hg with hg | hg
    · exfalso
      subst hg
      rw [FP.Core.qmin_b64] at hb
      have hb' : N * 2 ^ 1021 < D * 1 := hb
      have h5 : 2 ^ 31 ≤ 2 ^ 1021 := Nat.pow_le_pow_right (by decide) (by decide)
      have h6 : 1 * 2 ^ 1021 ≤ N * 2 ^ 1021 := Nat.mul_le_mul_right _ hN0
      generalize 2 ^ 1021 = P at *
      omega
    · exact hg
  have hu : 2 ^ 52 * FP.Core.unitsDen D 0 q ≤ FP.Core.unitsNum N 0 q := Nat.le_of_not_lt (fun z => hg2 ((FP.Core.units_below N D 0 q 52).mp z))
  have hq : q < 0 := by
    apply Int.lt_of_not_ge
    intro hc
    unfold FP.Core.unitsDen FP.Core.unitsNum at hu
    rw [show (0 - q).toNat = 0 from by omega] at hu
    have h7 : D * 1 ≤ D * 2 ^ (q - 0).toNat := Nat.mul_le_mul_left _ (Nat.two_pow_pos _)
    generalize D * 2 ^ (q - 0).toNat = P at *
    omega
  obtain ⟨t, ht2⟩ : ∃ t : Nat, q = -(t : Int) := ⟨(-q).toNat, by omega⟩
  subst ht2
  unfold FP.Core.roundAt
  have e1 : FP.Core.unitsNum N 0 (-(t : Int)) = N * 2 ^ t := by
    unfold FP.Core.unitsNum
    rw [show (0 - -(t : Int)).toNat = t from by omega]
  have e2 : FP.Core.unitsDen D 0 (-(t : Int)) = D := by
    unfold FP.Core.unitsDen
    rw [show (-(t : Int) - 0).toNat = 0 from by omega]
    exact Nat.mul_one _
  rw [e1, e2] at hu hle ⊢
  have hd := near_div N D t hN hD hu
  unfold FP.Core.settle FP.Core.bound
  by_cases hc : FP.Core.nearest (N * 2 ^ t) D < 2 ^ FP.Core.b64.p
  · rw [if_pos hc, if_pos (by omega)]
    show Int32.ofInt (max (-2 ^ 31) (min (2 ^ 31 - 1) (FP.Core.signed s (FP.Core.nearest (N * 2 ^ t) D * 2 ^ (-(t : Int)).toNat / 2 ^ (- -(t : Int)).toNat)))) = _
    rw [show (-(t : Int)).toNat = 0 from by omega, show (- -(t : Int)).toNat = t from by omega, Nat.pow_zero, Nat.mul_one, hd]
  · have hc' : FP.Core.nearest (N * 2 ^ t) D = 2 ^ 53 := Nat.le_antisymm hle (Nat.le_of_not_lt hc)
    rw [if_neg hc, if_pos (by omega), ht]
    show Int32.ofInt (max (-2 ^ 31) (min (2 ^ 31 - 1) (FP.Core.signed s (2 ^ 52 * 2 ^ (-(t : Int) + 1).toNat / 2 ^ (-(-(t : Int) + 1)).toNat)))) = _
    obtain ⟨r, rfl⟩ : ∃ r, t = r + 1 := ⟨t - 1, by omega⟩
    have hd : 2 ^ 52 / 2 ^ r = N / D := by
      rw [hc'] at hd
      rw [← hd]
      show 2 ^ 52 / 2 ^ r = (2 ^ 52 * 2) / (2 ^ r * 2)
      exact (Nat.mul_div_mul_right _ _ (by decide)).symm
    rw [show (-((r + 1 : Nat) : Int) + 1).toNat = 0 from by omega, show (-(-((r + 1 : Nat) : Int) + 1)).toNat = r from by omega, Nat.pow_zero, Nat.mul_one, hd]
theorem tdiv_signed (x y : Int) (s : Bool) (h : x.natAbs / y.natAbs ≠ 0 → s = (decide (x < 0) != decide (y < 0))) : FP.Core.signed s (x.natAbs / y.natAbs) = x.tdiv y := by
  have e : (x.tdiv y).natAbs = x.natAbs / y.natAbs := Int.natAbs_tdiv x y
  by_cases h0 : x.natAbs / y.natAbs = 0
  · rw [h0] at e ⊢
    rw [FP.Core.signed_zero]
    omega
  · rw [h h0]
    unfold FP.Core.signed
    rcases Int.lt_or_le x 0 with hx | hx
    · rcases Int.lt_or_le y 0 with hy | hy
      · rw [if_neg (by simp [hx, hy])]
        have : 0 ≤ x.tdiv y := Int.tdiv_nonneg_of_nonpos_of_nonpos (Int.le_of_lt hx) (Int.le_of_lt hy)
        omega
      · rw [if_pos (by simp [hx, Int.not_lt.mpr hy])]
        have : x.tdiv y ≤ 0 := by
          have z : 0 ≤ (-x).tdiv y := Int.tdiv_nonneg (by omega) hy
          rw [Int.neg_tdiv] at z
          omega
        omega
    · rcases Int.lt_or_le y 0 with hy | hy
      · rw [if_pos (by simp [hy, Int.not_lt.mpr hx])]
        have : x.tdiv y ≤ 0 := Int.tdiv_nonpos_of_nonneg_of_nonpos hx (Int.le_of_lt hy)
        omega
      · rw [if_neg (by simp [Int.not_lt.mpr hx, Int.not_lt.mpr hy])]
        have : 0 ≤ x.tdiv y := Int.tdiv_nonneg hx hy
        omega
theorem fp1 (a b : Int32) (hb : ¬ b = 0) : FP.d2i (FP.ddiv (FP.i2d a) (FP.i2d b)) = fHeld (a.toInt64 / b.toInt64) := by
  have ha := FP.Core.i2d_int a
  have hbb := FP.Core.i2d_int b
  have hb0 : b.toInt ≠ 0 := fun z => hb (Int32.toInt_inj.mp (by rw [z, Int32.toInt_zero]))
  have la := ad_le a
  have lb := ad_le b
  have a1 := a.toInt_lt
  have a2 := a.le_toInt
  show FP.Core.toI (FP.Core.val64 (FP.Core.ddiv (FP.Core.i2d a) (FP.Core.i2d b))) = _
  rw [FP.Core.val64_ddiv, held_eq]
  unfold FP.Core.DInt at ha hbb
  generalize FP.Core.val64 (FP.Core.i2d a) = x at ha
  generalize FP.Core.val64 (FP.Core.i2d b) = y at hbb
  cases x with
  | nan => exact ha.elim
  | inf => exact ha.elim
  | fin s c q =>
  cases y with
  | nan => exact hbb.elim
  | inf => exact hbb.elim
  | fin t d r =>
    have hd : d ≠ 0 := fun z => hb0 ((FP.Core.whole_zero hbb).mp z)
    show FP.Core.toI (if d = 0 then _ else FP.Core.roundRatio FP.Core.b64 (s != t) c d (q - r)) = _
    rw [if_neg hd]
    have n1 := FP.Core.whole_natAbs ha
    have n2 := FP.Core.whole_natAbs hbb
    have hr : FP.Core.roundRatio FP.Core.b64 (s != t) c d (q - r) = FP.Core.roundRatio FP.Core.b64 (s != t) a.toInt.natAbs b.toInt.natAbs 0 := by
      refine FP.Core.roundRatio_congr (by omega) (by omega) ?_
      generalize a.toInt.natAbs = A at *
      generalize b.toInt.natAbs = B at *
      have hx : (q - r - 0).toNat + (-q).toNat + r.toNat = (0 - (q - r)).toNat + q.toNat + (-r).toNat := by omega
      generalize (q - r - 0).toNat = u at *
      generalize (0 - (q - r)).toNat = v at *
      generalize q.toNat = q1 at *
      generalize (-q).toNat = q2 at *
      generalize r.toNat = r1 at *
      generalize (-r).toNat = r2 at *
      apply Nat.eq_of_mul_eq_mul_right (Nat.two_pow_pos (q1 + r2))
      calc c * B * 2 ^ u * 2 ^ (q1 + r2) = (c * 2 ^ q1) * (B * 2 ^ r2) * 2 ^ u := by rw [Nat.pow_add]; ac_rfl
        _ = (A * 2 ^ q2) * (d * 2 ^ r1) * 2 ^ u := by rw [n1, n2]
        _ = A * d * 2 ^ (u + q2 + r1) := by rw [Nat.pow_add, Nat.pow_add]; ac_rfl
        _ = A * d * 2 ^ v * 2 ^ (q1 + r2) := by rw [hx, Nat.pow_add, Nat.pow_add, Nat.pow_add]; ac_rfl
    rw [hr, quot_toI _ _ _ (by omega) (by omega) (by omega), tdiv_signed]
    · have e1 : (a.toInt64 / b.toInt64).toInt = a.toInt.tdiv b.toInt := by
        rw [Int64.toInt_div_of_ne_left _ _ (fun z => by
          have z1 := congrArg Int64.toInt z
          rw [Int32.toInt_toInt64, show Int64.minValue.toInt = -9223372036854775808 from by decide] at z1
          omega), Int32.toInt_toInt64, Int32.toInt_toInt64]
      rw [e1]
    · intro hz
      have ha0 : a.toInt ≠ 0 := fun z => hz (by rw [z]; exact Nat.zero_div _)
      rw [FP.Core.whole_sign ha ha0, FP.Core.whole_sign hbb hb0]
theorem fp8 (a : Int32) : FP.d2i (FP.dmul (FP.i2d a) 4604930618986332160) = (a.toInt64 * 3 / 4).toInt32 := by
  have ha := FP.Core.i2d_int a
  have la := ad_le a
  have a1 := a.toInt_lt
  have a2 := a.le_toInt
  have hv : FP.Core.val64 4604930618986332160 = .fin false 6755399441055744 (-53) := by decide +kernel
  show FP.Core.toI (FP.Core.val64 (FP.Core.dmul (FP.Core.i2d a) 4604930618986332160)) = _
  rw [FP.Core.val64_dmul, hv]
  unfold FP.Core.DInt at ha
  generalize FP.Core.val64 (FP.Core.i2d a) = x at ha
  cases x with
  | nan => exact ha.elim
  | inf => exact ha.elim
  | fin s c q =>
    show FP.Core.toI (FP.Core.roundRatio FP.Core.b64 (s != false) (c * 6755399441055744) 1 (q + -53)) = _
    have n1 := FP.Core.whole_natAbs ha
    have hr : FP.Core.roundRatio FP.Core.b64 (s != false) (c * 6755399441055744) 1 (q + -53) = FP.Core.roundRatio FP.Core.b64 (s != false) (a.toInt * 3).natAbs (4 : Int).natAbs 0 := by
      refine FP.Core.roundRatio_congr (by decide) (by decide) ?_
      rw [Int.natAbs_mul]
      show c * 6755399441055744 * 4 * 2 ^ (q + -53 - 0).toNat = a.toInt.natAbs * 3 * 1 * 2 ^ (0 - (q + -53)).toNat
      generalize a.toInt.natAbs = A at *
      have hx : (q + -53 - 0).toNat + (-q).toNat + 53 = (0 - (q + -53)).toNat + q.toNat := by omega
      generalize (q + -53 - 0).toNat = u at *
      generalize (0 - (q + -53)).toNat = v at *
      generalize q.toNat = q1 at *
      generalize (-q).toNat = q2 at *
      apply Nat.eq_of_mul_eq_mul_right (Nat.two_pow_pos q1)
      calc c * 6755399441055744 * 4 * 2 ^ u * 2 ^ q1 = (c * 2 ^ q1) * (6755399441055744 * 4) * 2 ^ u := by ac_rfl
        _ = (A * 2 ^ q2) * (3 * 2 ^ 53) * 2 ^ u := by rw [n1]
        _ = A * 3 * 2 ^ (u + q2 + 53) := by rw [Nat.pow_add, Nat.pow_add]; ac_rfl
        _ = A * 3 * 1 * 2 ^ v * 2 ^ q1 := by rw [hx, Nat.pow_add]; ac_rfl
    rw [hr, quot_toI _ _ _ (by omega) (by decide) (by decide), tdiv_signed]
    · have e0 : (a.toInt64 * 3).toInt = a.toInt * 3 := by
        rw [Int64.toInt_mul, Int32.toInt_toInt64]
        exact Int.bmod_eq_of_le (by show _ ≤ a.toInt * 3; omega) (by show a.toInt * 3 < _; omega)
      have e1 : (a.toInt64 * 3 / 4).toInt = (a.toInt * 3).tdiv 4 := by
        rw [Int64.toInt_div_of_ne_right _ _ (by decide), e0]
        rfl
      have e2 : ((a.toInt * 3).tdiv 4).natAbs = (a.toInt * 3).natAbs / 4 := Int.natAbs_tdiv _ _
      rw [show max (-2 ^ 31) (min (2 ^ 31 - 1) ((a.toInt * 3).tdiv 4)) = (a.toInt * 3).tdiv 4 from by omega]
      apply Int32.toInt_inj.mp
      rw [Int64.toInt_toInt32, Int32.toInt_ofInt, e1]
    · intro hz
      have ha0 : a.toInt ≠ 0 := fun z => hz (by rw [z]; rfl)
      rw [FP.Core.whole_sign ha ha0]
      by_cases h : a.toInt < 0
      · rw [decide_eq_true h, decide_eq_true (show a.toInt * 3 < 0 from by omega)]
        rfl
      · rw [decide_eq_false h, decide_eq_false (show ¬ a.toInt * 3 < 0 from by omega)]
        rfl
theorem quo_sim (a b : Int32) : fQuo a b = fQuoY a b := by
  unfold fQuo fQuoY
  by_cases hb : b = 0
  · rw [if_pos hb, if_pos hb]
    by_cases h0 : a = 0
    · subst h0
      decide
    · rw [if_neg h0]
      by_cases h1 : a ≤ 0
      · rw [if_pos h1, if_pos h1, if_neg]
        intro h2
        rw [Int32.le_iff_toInt_le] at h1 h2
        exact h0 (Int32.toInt_inj.mp (by rw [Int32.toInt_zero] at *; omega))
      · rw [if_neg h1, if_neg h1]
  · rw [if_neg hb, if_neg hb]
    exact fp1 a b hb
theorem chr_sim (b : Int32) : (b.toUInt32 % 65536).toInt32 = b &&& 65535 := by
  rw [pk_char, pk_and b (m := 65535) 16 (by decide)]
section RLS8
variable {F : XF} {ι : Nat → Nat} {c M : Nat}
theorem S_num {u : XS} {v : YS} {e : Nat} (h : Rl F u v ι c e) (he : e ≤ M) (k a b : Int32) : Rp F ι c M (sNum u k a b) (zNum v k a b) := by
  have hid : ∀ x y : Int32, x = y → Rp F ι c M (x, u) (y, v) := fun x y q => ⟨q, e, he, h⟩
  unfold sNum zNum
  by_cases k0 : k = 0
  · rw [if_pos k0, if_pos k0]
    exact go_sim (hid _ _ (fp0 a))
  rw [if_neg k0, if_neg k0]
  by_cases k1 : k = 1
  · rw [if_pos k1, if_pos k1]
    exact go_sim (hid _ _ (quo_sim a b))
  rw [if_neg k1, if_neg k1]
  by_cases k2 : k = 2
  · rw [if_pos k2, if_pos k2, chr_sim]
    exact go_sim (hid _ _ rfl)
  rw [if_neg k2, if_neg k2]
  by_cases k3 : k = 3
  · rw [if_pos k3, if_pos k3]
    exact go_sim (hid _ _ rfl)
  rw [if_neg k3, if_neg k3]
  by_cases k4 : k = 4
  · rw [if_pos k4, if_pos k4]
    by_cases hb : b = 0
    · rw [if_pos hb, if_pos hb]
      exact ⟨rfl, e, he, h⟩
    · rw [if_neg hb, if_neg hb]
      exact go_sim (hid _ _ rfl)
  rw [if_neg k4, if_neg k4]
  by_cases k5 : k = 5
  · rw [if_pos k5, if_pos k5]
    exact go_sim (hid _ _ rfl)
  rw [if_neg k5, if_neg k5]
  by_cases k6 : k = 6
  · rw [if_pos k6, if_pos k6]
    exact go_sim (hid _ _ rfl)
  rw [if_neg k6, if_neg k6]
  by_cases k7 : k = 7
  · rw [if_pos k7, if_pos k7]
    refine go_sim (hid _ _ ?_)
    by_cases q : lg_cmp (fRnd a) (fRnd b) = 0
    · rw [if_pos q, if_pos ((fp7 a b).mpr q)]
    · rw [if_neg q, if_neg (fun z => q ((fp7 a b).mp z))]
  rw [if_neg k7, if_neg k7]
  by_cases k8 : k = 8
  · rw [if_pos k8, if_pos k8]
    exact go_sim (hid _ _ (fp8 a))
  rw [if_neg k8, if_neg k8]
  by_cases k9 : k = 9
  · rw [if_pos k9, if_pos k9]
    exact go_sim (hid _ _ (by rw [dec_sim a, dec_sim b]))
  rw [if_neg k9, if_neg k9]
  exact ⟨rfl, e, he, h⟩
/-- a call on both sides: the same answer, states alike, at most one thing and five events more -/
def Qs (F : XF) (c e : Nat) (p : Int32 × XS) (q : Int32 × YS) : Prop := p.1 = q.1 ∧ ∃ (ι : Nat → Nat) (c' e' : Nat), c' ≤ c + 1 ∧ e' ≤ e + 5 ∧ Rl F p.2 q.2 ι c' e'
theorem Rp.q {e : Nat} {p : Int32 × XS} {q : Int32 × YS} (h : Rp F ι c (e + 5) p q) : Qs F c e p q := ⟨h.1, ι, c, h.2.choose, by omega, h.2.choose_spec.1, h.2.choose_spec.2⟩
theorem Qs.of {e : Nat} {p : Int32 × XS} {q : Int32 × YS} (h : p.1 = q.1 ∧ Rl F p.2 q.2 ι c e) : Qs F c e p q := ⟨h.1, ι, c, e, by omega, by omega, h.2⟩
variable {u : XS} {v : YS} {e : Nat}
theorem Q_drop (h : Rl F u v ι c e) (a : Int32) : Qs F c e (sDrop u a) (zDrop v a) := Qs.of (S_drop h a)
theorem Q_probe (h : Rl F u v ι c e) (a y m x w : Int32) : Qs F c e (sProbe u a y m x w) (zProbe v a y m x w) := Qs.of (S_probe h a y m x w)
theorem Q_value (h : Rl F u v ι c e) : Qs F c e (gvl u, u) (yv v, v) := Qs.of ⟨S_value h, h⟩
theorem Q_events (h : Rl F u v ι c e) : Qs F c e (gec u, u) (yo v, v) := Qs.of ⟨S_events h, h⟩
theorem Q_event (h : Rl F u v ι c e) (he : e < 2 ^ 30) (i : Int32) : Qs F c e (sEv u i) (zEv v i) := Qs.of ⟨(S_event h he i).1, by rw [(S_event h he i).2.1, (S_event h he i).2.2]; exact h⟩
theorem Q_is (h : Rl F u v ι c e) (a y : Int32) : Qs F c e (sIs u a y) (zIs v a y) := Qs.of ⟨S_is h a y, h⟩
theorem Q_same (h : Rl F u v ι c e) (a y : Int32) : Qs F c e (sSame u a y) (zSame v a y) := Qs.of ⟨S_same h a y, h⟩
theorem Q_store (h : Rl F u v ι c e) (r p a : Int32) : Qs F c e (sStore u r p a) (zStore v r p a) := Qs.of (S_store h r p a)
theorem Q_load (h : Rl F u v ι c e) (r p a : Int32) : Qs F c e (sLoad u r p a) (zLoad v r p a) := Qs.of (S_load h r p a)
theorem Q_compare (h : Rl F u v ι c e) (a b : Int32) : Qs F c e (sComp u a b) (zComp v a b) := Qs.of (S_comp h a b)
theorem Q_copy (h : Rl F u v ι c e) (f a t w n : Int32) : Qs F c e (sCopy u f a t w n) (zCopy v f a t w n) := (S_copy (M := e + 5) h (by omega) f a t w n).q
theorem Q_flow (h : Rl F u v ι c e) (he : e + 5 < 2 ^ 30) (k a b : Int32) : Qs F c e (sFlow u k a b) (zFlow v k a b) := (S_flow (M := e + 5) he (Nat.le_refl _) h k a b).q
theorem Q_number (h : Rl F u v ι c e) (k a b : Int32) : Qs F c e (sNum u k a b) (zNum v k a b) := (S_num (M := e + 5) h (by omega) k a b).q
theorem Q_make (h : Rl F u v ι c e) (hc : c + 1 < 519) (he : e + 2 < 2 ^ 30) {a k n r : Int32} {u' : XS} (hm : rMake F u a k n r u') : Qs F c e (r, u') (zMake v a k n) := by
  obtain ⟨h1, i2, c2, e2, h2, h3, h4⟩ := S_make h hc he hm
  exact ⟨h1, i2, c2, e2, h2, by omega, h4⟩
theorem Rl.th (h : Rl F u v ι c e) : vp_in (yt v + 1) 520 := by
  rw [h.2.1.1, nI_1]
  have := h.2.1.2.2.1
  exact vp_in_nI (by omega) (by decide)
end RLS8
