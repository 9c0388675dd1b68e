theorem i3 (C : Int32) : 2 * C + (C - 1) = 3 * C - 1 := by
  rw [show (3 : Int32) = 2 + 1 from rfl, Int32.add_mul, Int32.one_mul, Int32.sub_eq_add_neg, Int32.sub_eq_add_neg, ← Int32.add_assoc]
theorem i6 (n : Int32) : 2 * (3 * n) = 6 * n := by rw [← Int32.mul_assoc]; rfl
theorem i4 (n : Int32) : 3 * n + (n + 1) = 4 * n + 1 := by
  rw [← Int32.add_assoc, show (4 : Int32) = 3 + 1 from rfl, Int32.add_mul, Int32.one_mul]
def tabB (i j k : Nat) : Bool := !(fHold (memV i) (nI j) && fHold (tokV k) (nI j)) || ((!(decide (i = 3) || decide (i = 4) || decide (i = 9)) || decide (k = 0) || decide (k = 1) || decide (k = 2) || decide (k = 9)) && (!decide (i = 10) || !decide (k = 8)) && (!decide (i = 6) || decide (fMark (nI j) = (if nI j = 3 then 1 else if nI j = 4 then 2 else 3))) && (!decide (i = 11) || (decide (j = 4) && decide (k = 0)) || (!decide (j = 4) && !decide (k = 0) && !decide (k = 8))))
theorem tabC : ∀ i, i < 12 → ∀ j, j < 9 → ∀ k, k < 10 → tabB i j k = true := by decide +kernel
theorem tabA (i : Nat) (hi : i < 12) (j : Nat) (hj : j < 9) (k : Nat) (hk : k < 10) (h1 : fHold (memV i) (nI j) = true) (h2 : fHold (tokV k) (nI j) = true) : ((i = 3 ∨ i = 4 ∨ i = 9) → k = 0 ∨ k = 1 ∨ k = 2 ∨ k = 9) ∧ (i = 10 → ¬ k = 8) ∧ (i = 6 → fMark (nI j) = (if nI j = 3 then 1 else if nI j = 4 then 2 else 3)) ∧ (i = 11 → (j = 4 ∧ k = 0) ∨ (¬ j = 4 ∧ ¬ k = 0 ∧ ¬ k = 8)) := by
  have h := tabC i hi j hj k hk
  unfold tabB at h
  rw [h1, h2] at h
  simp only [Bool.and_self, Bool.not_true, Bool.false_or, Bool.and_eq_true, Bool.or_eq_true, Bool.not_eq_true', decide_eq_true_eq, decide_eq_false_iff_not, Bool.or_eq_false_iff] at h
  obtain ⟨⟨⟨a1, a2⟩, a3⟩, a4⟩ := h
  refine ⟨fun q => ?_, fun q => ?_, fun q => ?_, fun q => ?_⟩
  · rcases a1 with (((a1 | a1) | a1) | a1) | a1
    · obtain ⟨⟨z1, z2⟩, z3⟩ := a1
      rcases q with q | q | q
      · exact absurd q z1
      · exact absurd q z2
      · exact absurd q z3
    · exact Or.inl a1
    · exact Or.inr (Or.inl a1)
    · exact Or.inr (Or.inr (Or.inl a1))
    · exact Or.inr (Or.inr (Or.inr a1))
  · rcases a2 with a2 | a2
    · exact absurd q a2
    · exact a2
  · rcases a3 with a3 | a3
    · exact absurd q a3
    · exact a3
  · rcases a4 with (a4 | a4) | a4
    · exact absurd q a4
    · exact Or.inl a4
    · exact Or.inr ⟨a4.1.1, a4.1.2, a4.2⟩
theorem tab7 : ∀ j, j < 9 → fHold (memV 7) (nI j) = true → fTone (nI j) = (if nI j = 0 then 5 else if nI j = 2 then 5 else 7) := by decide +kernel
theorem rank_sim (y x : Int32) : fRank y x = x + (if y = 4 then 2 else if y = 6 then 6 else 1) := by
  unfold fRank
  by_cases h4 : y = 4
  · simp [h4]
  · by_cases h6 : y = 6
    · simp [h6]
    · simp [h4, h6]
section RLS3
variable {F : XF} {u : XS} {v : YS} {ι : Nat → Nat} {c e : Nat}
theorem S_tw (h : Rl F u v ι c e) {a : Nat} (ha : a ∈ gL u) (x : Int32) : (sTw u a x).1 = (zTw v (nI (ι a)) x).1 ∧ Rl F (sTw u a x).2 (zTw v (nI (ι a)) x).2 ι c e := by
  obtain ⟨r1, r2, r3, -⟩ := h.2.2.1.2.2.2.2.2 a ha
  obtain ⟨q1, q2⟩ := S_call h ha x
  unfold sTw zTw
  rw [h.cl ha, r1]
  by_cases k0 : (gT u a).1 = 0
  · simp only [k0, if_true, true_or]
    unfold sLoud
    exact ⟨by rw [q1], q2⟩
  by_cases k1 : (gT u a).1 = 1
  · simp [k1]
    unfold sSoft
    exact ⟨by rw [q1], q2⟩
  by_cases k2 : (gT u a).1 = 2
  · simp [k2]
    have hs : (gT u a).2.2.1 = none := (r3 (by rw [k2]; decide)).2.1
    have hc : ∀ w : XS, gT w = gT u → sCall w a x = (2 * (x - (gT u a).2.1), w) := by
      intro w hw
      unfold sCall
      rw [hw]
      have e1 : chase (gT u) 3 a = a := by unfold chase; rw [hs]
      rw [e1]
      unfold fCall
      simp [k2]
      rfl
    have hcu := hc u rfl
    have hl : (sLoud u a x).2 = u := by unfold sLoud; rw [hcu]
    rw [hl]
    have hz : (zCall v (nI (ι a)) x).1 = 2 * (x - (gT u a).2.1) := by rw [← q1, hcu]
    rw [hcu] at q2
    unfold sLoud sSoft
    rw [hcu, hz]
    exact ⟨i3 _, q2⟩
  by_cases k4 : (gT u a).1 = 4
  · simp [k4]
    unfold sLoud
    exact ⟨by rw [q1], q2⟩
  by_cases k5 : (gT u a).1 = 5
  · simp [k5]
    unfold sLoud
    exact ⟨by rw [q1], q2⟩
  by_cases k9 : (gT u a).1 = 9
  · simp [k9]
    unfold sSoft
    exact ⟨by rw [q1], q2⟩
  simp only [k0, k1, k2, k4, k5, k9, if_false, or_false]
  rw [← q1]
  exact S_call q2 ha _
theorem S_ans (h : Rl F u v ι c e) {a : Nat} (ha : a ∈ gL u) {y m : Int32} (h9 : isB y 9 = true) (h12 : isB m 12 = true) (hm : fHold (memV m.toNatClampNeg) y = true) (hi : fIs (gT u a) y = true) (h7 : ¬ m = 7) (h8 : ¬ m = 8) (x : Int32) :
    (sAns u a y m x).1 = (zAns v (nI (ι a)) y m x).1 ∧ Rl F (sAns u a y m x).2 (zAns v (nI (ι a)) y m x).2 ι c e := by
  obtain ⟨j, hj, rfl⟩ := vp_in_of (isB_in9 h9) (by decide)
  obtain ⟨i, hi2, rfl⟩ := vp_in_of (isB_in12 h12) (by decide)
  obtain ⟨k, hk, ek⟩ := h.kr ha
  obtain ⟨r1, r2, r3, rb, rx, -⟩ := h.2.2.1.2.2.2.2.2 a ha
  have T := tabA i hi2 j hj k hk (by rw [nI_clamp (by omega)] at hm; exact hm) (by unfold fIs at hi; rw [ek, nI_clamp (by omega)] at hi; exact hi)
  have ij : ∀ n, n < 12 → nI i = nI n → i = n := fun n hn q => nI_inj (by omega) (by omega) q
  have hk8 : ¬ k = 8 → yn v (ι a) = (gT u a).2.1 := fun q => (r3 (by rw [ek]; exact fun z => q (nI_inj (by omega) (by decide) z))).1
  unfold sAns zAns
  by_cases c0 : nI i = 0
  · rw [if_pos c0, if_pos c0]
    exact S_call h ha x
  rw [if_neg c0, if_neg c0]
  by_cases c1 : nI i = 1
  · rw [if_pos c1, if_pos c1]
    exact S_tw h ha x
  rw [if_neg c1, if_neg c1]
  by_cases c2 : nI i = 2
  · rw [if_pos c2, if_pos c2]
    refine ⟨?_, h⟩
    show fVol _ _ = zVol _ _ _
    unfold fVol zVol
    rw [h.cl ha, r1]
    by_cases k1 : (gT u a).1 = 1
    · simp [k1]
    by_cases k2 : (gT u a).1 = 2
    · simp [k2, Int32.mul_comm]
    simp [k1, k2]
  rw [if_neg c2, if_neg c2]
  have wg : (i = 3 ∨ i = 4 ∨ i = 9) → fWgt (gT u a) = zWgt v (nI (ι a)) := by
    intro q
    unfold fWgt zWgt fWB fWC
    rw [h.cl ha, r1, ek]
    rcases T.1 q with rfl | rfl | rfl | rfl
    · rw [hk8 (by decide)]
      simp [show nI 0 = 0 from rfl]
    · rw [hk8 (by decide)]
      simp [show nI 1 = 1 from rfl]
    · rw [hk8 (by decide)]
      simp [show nI 2 = 2 from rfl, i6]
    · rw [hk8 (by decide), rx (by rw [ek]; rfl)]
      simp [show nI 9 = 9 from rfl, i4]
  by_cases c3 : nI i = 3
  · rw [if_pos c3, if_pos c3]
    exact ⟨wg (Or.inl (ij 3 (by decide) c3)), h⟩
  rw [if_neg c3, if_neg c3]
  by_cases c4 : nI i = 4
  · rw [if_pos c4, if_pos c4]
    refine ⟨?_, h⟩
    show fWgt _ + 100 * fMark 3 = _
    rw [wg (Or.inr (Or.inl (ij 4 (by decide) c4))), show (100 : Int32) * fMark 3 = 100 from by decide]
  rw [if_neg c4, if_neg c4]
  by_cases c5 : nI i = 5
  · rw [if_pos c5, if_pos c5]
    exact ⟨rfl, h⟩
  rw [if_neg c5, if_neg c5]
  by_cases c6 : nI i = 6
  · rw [if_pos c6, if_pos c6]
    exact ⟨T.2.2.1 (ij 6 (by decide) c6), h⟩
  rw [if_neg c6, if_neg c6, if_neg h7, if_neg h8]
  by_cases c9 : nI i = 9
  · rw [if_pos c9, if_pos c9]
    refine ⟨?_, h⟩
    show fSeed _ = zSeed _ _
    unfold fSeed zSeed
    rw [h.cl ha, r1, ek]
    rcases T.1 (Or.inr (Or.inr (ij 9 (by decide) c9))) with rfl | rfl | rfl | rfl
    · rw [rb (by rw [ek]; rfl)]
      rfl
    · rfl
    · rw [hk8 (by decide)]
      rfl
    · rfl
  rw [if_neg c9, if_neg c9]
  by_cases c10 : nI i = 10
  · rw [if_pos c10, if_pos c10]
    refine ⟨?_, h⟩
    show _ = yn v _
    rw [h.cl ha, hk8 (T.2.1 (ij 10 (by decide) c10))]
  rw [if_neg c10, if_neg c10]
  have i11 : i = 11 := by
    have f : ∀ n, n < 12 → ¬ nI i = nI n → ¬ i = n := fun n hn q z => q (by rw [z])
    have f0 := f 0 (by decide) c0
    have f1 := f 1 (by decide) c1
    have f2 := f 2 (by decide) c2
    have f3 := f 3 (by decide) c3
    have f4 := f 4 (by decide) c4
    have f5 := f 5 (by decide) c5
    have f6 := f 6 (by decide) c6
    have f7 := f 7 (by decide) h7
    have f8 := f 8 (by decide) h8
    have f9 := f 9 (by decide) c9
    have f10 := f 10 (by decide) c10
    omega
  rw [h.cl ha, r1, ek]
  rcases T.2.2.2 i11 with ⟨rfl, rfl⟩ | ⟨z1, z2, z3⟩
  · rw [hk8 (by decide), if_pos (show nI 4 = 4 from rfl), if_pos (show nI 0 = 0 from rfl)]
    exact ⟨rfl, h⟩
  · rw [hk8 z3, if_neg (show ¬ nI j = 4 from fun q => z1 (nI_inj (by omega) (by decide) q)), if_neg (show ¬ nI k = 0 from fun q => z2 (nI_inj (by omega) (by decide) q))]
    exact ⟨rfl, h⟩
theorem S_probe (h : Rl F u v ι c e) (a y m x w : Int32) : (sProbe u a y m x w).1 = (zProbe v a y m x w).1 ∧ Rl F (sProbe u a y m x w).2 (zProbe v a y m x w).2 ι c e := by
  unfold sProbe zProbe
  rw [B8, B9, B12, B4]
  cases h1 : fIn a 0 7
  · simp
    exact h
  cases h2 : fIn y 0 8
  · simp
    exact h
  cases h3 : fIn m 0 11
  · simp
    exact h
  cases h4 : fIn w 0 3
  · simp
    exact h
  simp only [if_true]
  rw [← B9] at h2
  rw [← B12] at h3
  have hmb : fHold (memV m.toNatClampNeg) y = !decide (((ym v y.toNatClampNeg >>> (m &&& 31)) &&& 1) = 0) := by
    obtain ⟨j, hj, rfl⟩ := vp_in_of (isB_in9 h2) (by decide)
    obtain ⟨i, hi, rfl⟩ := vp_in_of (isB_in12 h3) (by decide)
    rw [nI_clamp (by omega), nI_clamp (by omega), h.2.1.2.2.2.2.2.2.1 j hj]
    exact tab_mb i hi j hj
  by_cases hz : ((ym v y.toNatClampNeg >>> (m &&& 31)) &&& 1) = 0
  · rw [if_pos hz]
    rw [decide_eq_true hz] at hmb
    rw [hmb]
    simp
    exact h
  rw [if_neg hz]
  rw [decide_eq_false hz] at hmb
  have hmb : fHold (memV m.toNatClampNeg) y = true := hmb
  rw [if_pos hmb]
  by_cases c7 : m = 7
  · subst c7
    rw [if_pos rfl, if_pos rfl]
    obtain ⟨j, hj, rfl⟩ := vp_in_of (isB_in9 h2) (by decide)
    have hv : (zAns v (ys v a.toNatClampNeg) (nI j) 7 x) = ((if nI j = 0 then 5 else if nI j = 2 then 5 else 7), v) := by
      unfold zAns
      simp
    unfold zSet
    rw [hv]
    refine ⟨rfl, ?_⟩
    rw [tab7 j hj hmb]
    exact h.setV _
  rw [if_neg c7, if_neg c7]
  by_cases c8 : m = 8
  · subst c8
    rw [if_pos rfl, if_pos rfl]
    have hv : (zAns v (ys v a.toNatClampNeg) y 8 x) = (x + (if y = 4 then 2 else if y = 6 then 6 else 1), v) := by
      unfold zAns
      simp
    unfold zSet
    rw [hv, rank_sim]
    exact ⟨rfl, h.setV _⟩
  rw [if_neg c8, if_neg c8]
  cases hs : gS u a.toNatClampNeg with
  | none =>
    rw [if_pos (h.s0 hs)]
    exact ⟨rfl, h⟩
  | some q =>
    obtain ⟨e1, hm, n1⟩ := h.s1 hs
    rw [if_neg n1, e1, h.of hm h2]
    cases hf : fIs (gT u q) y
    · simp [hf]
      exact h
    · simp only [hf, if_true]
      obtain ⟨q1, q2⟩ := S_ans h hm h2 h3 hmb hf c7 c8 x
      unfold zSet
      rw [← q1]
      exact ⟨rfl, q2.setV _⟩
end RLS3
