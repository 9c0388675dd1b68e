/-- answers alike, states alike -/
def Rp (F : XF) (ι : Nat → Nat) (c M : Nat) (p : Int32 × XS) (q : Int32 × YS) : Prop := p.1 = q.1 ∧ ∃ e, e ≤ M ∧ Rl F p.2 q.2 ι c e
section RLS4
variable {F : XF} {ι : Nat → Nat} {c M : Nat}
theorem go_sim {p : Int32 × XS} {q : Int32 × YS} (h : Rp F ι c M p q) : Rp F ι c M (sGo p) (zSet q) := by
  obtain ⟨h1, e, he, h2⟩ := h
  unfold sGo zSet
  rw [h1]
  exact ⟨rfl, e, he, h2.setV _⟩
theorem tS_sim (hM : M < 2 ^ 30) (l e0 i : Int32) {m : Nat} {k : Int32 → XS → Int32 × XS} {k' : Int32 → YS → Int32 × YS} (hk : ∀ (n : Int32) (u : XS) (v : YS) (e : Nat), e + m ≤ M → Rl F u v ι c e → Rp F ι c M (k n u) (k' n v)) :
    ∀ (n : Int32) (u : XS) (v : YS) (e : Nat), e + (m + 1) ≤ M → Rl F u v ι c e → Rp F ι c M (tS l e0 i k n u) (zTS l e0 i k' n v) := by
  intro n u v e he h
  have hn := h.note (by omega) i
  unfold tS zTS
  by_cases c1 : i = l
  · rw [if_pos c1, if_pos c1]
    exact hk n _ _ (e + 1) (by omega) hn
  rw [if_neg c1, if_neg c1]
  by_cases c2 : i = e0
  · rw [if_pos c2, if_pos c2]
    exact ⟨rfl, e + 1, by omega, hn⟩
  rw [if_neg c2, if_neg c2]
  exact hk _ _ _ (e + 1) (by omega) hn
theorem S_turn (hM : M < 2 ^ 30) {u : XS} {v : YS} {e : Nat} (he : e + 5 ≤ M) (h : Rl F u v ι c e) (a b : Int32) : Rp F ι c M (sTurn u (a &&& 7) (b &&& 7)) (zTurn v a b) := by
  unfold sTurn zTurn
  exact tS_sim hM _ _ 1 (tS_sim hM _ _ 2 (tS_sim hM _ _ 3 (tS_sim hM _ _ 4 (tS_sim hM _ _ 5 (m := 0) (fun n u v e he h => ⟨rfl, e, by omega, h⟩))))) 0 u v e he h
theorem S_open (hM : M < 2 ^ 30) {u : XS} {v : YS} {e : Nat} (he : e + 5 ≤ M) (h : Rl F u v ι c e) (a b : Int32) : Rp F ι c M (sOpen u a b) (zClose v a b) := by
  have l0 : ((0 : Int32) ≤ 0) = True := by decide
  have l1 : ((1 : Int32) ≤ 0) = False := by decide
  have l2 : ((2 : Int32) ≤ 0) = False := by decide
  have l3 : ((3 : Int32) ≤ 0) = False := by decide
  have n2 := (h.note (by omega) 10).note (by omega) 11
  have n3 := n2.note (by omega) 12
  have n4 := n3.note (by omega) 21
  have n5 := n4.note (by omega) 20
  have n6 := n2.note (by omega) 20
  unfold sOpen zClose oMid oEnd zMid zEnd
  by_cases c1 : (a &&& 1) = 0
  · by_cases c2 : (a &&& 2) = 0 <;> by_cases c3 : (b &&& 1) = 0 <;> by_cases c4 : (b &&& 2) = 0 <;> simp only [c1, c2, c3, c4, l0, l1, l2, l3, if_true, if_false] <;> exact ⟨by dsimp only; decide, _, by omega, n5⟩
  · by_cases c4 : (b &&& 2) = 0 <;> simp only [c1, c4, l0, l1, l2, l3, if_true, if_false] <;> exact ⟨by dsimp only; decide, _, by omega, n6⟩
theorem word_sim (a b : Int32) : fWord a (b &&& 3) = (if (b &&& 3) = 3 then -a else a + 2 * ((1 : Int32) <<< ((b &&& 3) &&& 31)) - 1) := by
  obtain ⟨j, hj, e⟩ := pk_andE b (m := 3) 2 (by decide)
  rw [e]
  have hj : j < 4 := hj
  unfold fWord
  rcases (show j = 0 ∨ j = 1 ∨ j = 2 ∨ j = 3 by omega) with rfl | rfl | rfl | rfl
  · rw [if_pos (show nI 0 = 0 from rfl), if_neg (show ¬ nI 0 = 3 by decide), show (2 : Int32) * ((1 : Int32) <<< (nI 0 &&& 31)) = 2 by decide, Int32.sub_eq_add_neg, Int32.add_assoc]
    rfl
  · rw [if_neg (show ¬ nI 1 = 0 by decide), if_pos (show nI 1 = 1 from rfl), if_neg (show ¬ nI 1 = 3 by decide), show (2 : Int32) * ((1 : Int32) <<< (nI 1 &&& 31)) = 4 by decide, Int32.sub_eq_add_neg, Int32.add_assoc, Int32.add_assoc]
    rfl
  · rw [if_neg (show ¬ nI 2 = 0 by decide), if_neg (show ¬ nI 2 = 1 by decide), if_pos (show nI 2 = 2 from rfl), if_neg (show ¬ nI 2 = 3 by decide), show (2 : Int32) * ((1 : Int32) <<< (nI 2 &&& 31)) = 8 by decide, Int32.sub_eq_add_neg, Int32.add_assoc, Int32.add_assoc, Int32.add_assoc]
    rfl
  · rw [if_neg (show ¬ nI 3 = 0 by decide), if_neg (show ¬ nI 3 = 1 by decide), if_neg (show ¬ nI 3 = 2 by decide), if_pos (show nI 3 = 3 from rfl)]
theorem place_sim (a : Int32) : fPlace (a &&& 1) = (if (a &&& 1) = 0 then 250809 else 72509) := by
  obtain ⟨j, hj, e⟩ := pk_andE a (m := 1) 1 (by decide)
  rw [e]
  have hj : j < 2 := hj
  rcases (show j = 0 ∨ j = 1 by omega) with rfl | rfl <;> decide +kernel
theorem sq_sim {a : Int32} (h0 : 0 ≤ a) (b : Int32) : isB b a = fIn b 0 (a - 1) := by
  refine isB_fIn ?_
  obtain ⟨j, hj, rfl⟩ := nI_of (x := a) (fun q => by rw [Int32.le_iff_toInt_le] at h0; rw [Int32.lt_iff_toInt_lt] at q; omega)
  rcases Nat.eq_zero_or_pos j with rfl | hp
  · decide
  · have e1 : nI j - 1 = nI (j - 1) := by rw [show j = (j - 1) + 1 by omega, nI_pred]; rfl
    rw [e1, nI_toInt (by omega), nI_toInt hj]
    omega
theorem S_flow (hM : M < 2 ^ 30) {u : XS} {v : YS} {e : Nat} (he : e + 5 ≤ M) (h : Rl F u v ι c e) (k a b : Int32) : Rp F ι c M (sFlow u k a b) (zFlow v k a b) := by
  have hid : ∀ x : Int32, Rp F ι c M (x, u) (x, v) := fun x => ⟨rfl, e, by omega, h⟩
  unfold sFlow zFlow
  by_cases k0 : k = 0
  · rw [if_pos k0, if_pos k0]
    exact go_sim ⟨rfl, e + 1, by omega, h.note (by omega) 1⟩
  rw [if_neg k0, if_neg k0]
  by_cases k1 : k = 1
  · rw [if_pos k1, if_pos k1]
    exact go_sim (S_turn hM he h a b)
  rw [if_neg k1, if_neg k1]
  by_cases k2 : k = 2
  · rw [if_pos k2, if_pos k2]
    exact go_sim (S_open hM he h a b)
  rw [if_neg k2, if_neg k2]
  by_cases k3 : k = 3
  · rw [if_pos k3, if_pos k3, word_sim]
    exact go_sim (hid _)
  rw [if_neg k3, if_neg k3]
  by_cases k4 : k = 4
  · rw [if_pos k4, if_pos k4]
    exact go_sim (hid _)
  rw [if_neg k4, if_neg k4]
  by_cases k5 : k = 5
  · rw [if_pos k5, if_pos k5]
    unfold sSq
    by_cases c1 : a ≤ 1000
    · rw [if_pos c1, if_pos c1]
      by_cases c2 : 0 ≤ a
      · rw [if_pos c2, if_pos c2, sq_sim c2]
        cases fIn b 0 (a - 1)
        · exact ⟨rfl, e, by omega, h⟩
        · exact go_sim (hid _)
      · rw [if_neg c2, if_neg c2]
        exact ⟨rfl, e, by omega, h⟩
    · rw [if_neg c1, if_neg c1]
      exact ⟨rfl, e, by omega, h⟩
  rw [if_neg k5, if_neg k5]
  by_cases k6 : k = 6
  · rw [if_pos k6, if_pos k6, place_sim]
    exact go_sim (hid _)
  rw [if_neg k6, if_neg k6]
  exact ⟨rfl, e, by omega, h⟩
end RLS4
