theorem str_tab : ∀ j, j < 5 → ∀ k, k < 5 → (fStr (nI j) (nI k) = decide (j + k ≤ 4)) ∧ (decide (0 < lg_cmp ((nI j).toInt64 + (nI k).toInt64) 4) = !decide (j + k ≤ 4)) := by decide +kernel
theorem str_sim (a n : Int32) : fStr a n = true ↔ ¬ a < 0 ∧ ¬ n < 0 ∧ ¬ 0 < lg_cmp (a.toInt64 + n.toInt64) 4 := by
  constructor
  · intro h
    obtain ⟨j, k, rfl, rfl, hjk⟩ := fStr_e h
    have t := (str_tab j (by omega) k (by omega)).2
    rw [decide_eq_true hjk] at t
    exact ⟨nI_pos (by omega), nI_pos (by omega), of_decide_eq_false t⟩
  · intro h
    obtain ⟨j, k, rfl, rfl, hjk⟩ := cpy_e h.1 h.2.1 h.2.2
    rw [(str_tab j (by omega) k (by omega)).1]
    exact decide_eq_true hjk
section RLS7
variable {F : XF} {ι : Nat → Nat} {c M : Nat}
/-- what the row between holds, on both sides -/
def Cq (u : XS) (v : YS) (ι : Nat → Nat) (a n : Int32) : Prop := ∀ i : Nat, i < 4 → ¬ n ≤ nI i → yd v (a + nI i).toNatClampNeg = cod ι (gQ u (nI i).toNatClampNeg)
theorem cp_step {n a t h i : Int32} {j : Nat} (hi : i = nI j) (hj : j < 4) (ht : isB t 4 = true) {k : XS → Int32 × XS} {k' : YS → Int32 × YS}
    (hk : ∀ (u : XS) (v : YS) (e : Nat), Rl F u v ι c e → Cq u v ι a n → e ≤ M → Rp F ι c M (k u) (k' v)) (u : XS) (v : YS) (e : Nat) (hR : Rl F u v ι c e) (hq : Cq u v ι a n) (he : e ≤ M) : Rp F ι c M (cpB1 n t h i k u) (zCp1 n a t h i k' v) := by
  subst hi
  unfold cpB1 zCp1
  by_cases c1 : n ≤ nI j
  · rw [if_pos c1, if_pos c1]
    exact ⟨rfl, e, he, hR⟩
  rw [if_neg c1, if_neg c1, hq j hj c1, hR.fit ht _ (hR.1.2.2.1 _)]
  cases hf : fFit u t (gQ u (nI j).toNatClampNeg)
  · exact ⟨rfl, e, he, hR⟩
  · simp only [if_true]
    have e1 : 4 * t + h + nI j = t * 4 + (h + nI j) := by rw [Int32.mul_comm, Int32.add_assoc]
    rw [e1]
    exact hk _ _ e (hR.setP _ rfl (hR.1.2.2.1 _)) hq he
theorem fill_at (r d : Nat → Int32) (f : Int32) : ∀ i, i < 4 → zFill r d f i = r (4 * f + nI i).toNatClampNeg := by
  intro i hi
  rcases (show i = 0 ∨ i = 1 ∨ i = 2 ∨ i = 3 by omega) with rfl | rfl | rfl | rfl <;> rfl
theorem fill_in (r d : Nat → Int32) (f : Int32) (hr : ∀ i, vp_in (r i) 520) (hd : ∀ i, vp_in (d i) 520) (i : Nat) : vp_in (zFill r d f i) 520 := by
  unfold zFill upd
  repeat' split
  all_goals first | exact hr _ | exact hd _
theorem cpA_at (P Q : Nat → Option Nat) (b n : Int32) (hn : n ≤ 4) (i : Nat) (hi : i < 4) (h : ¬ n ≤ nI i) : cpA P b n Q (nI i).toNatClampNeg = P (b + nI i).toNatClampNeg := by
  have mono : ∀ j, j < i → ¬ n ≤ nI j := by
    intro j hj q
    refine h ?_
    have h1 := nI_lt hj (by omega)
    rw [Int32.le_iff_toInt_le] at q ⊢
    rw [Int32.lt_iff_toInt_lt] at h1
    omega
  have t0 : (nI 0).toNatClampNeg = 0 := rfl
  have t1 : (nI 1).toNatClampNeg = 1 := rfl
  have t2 : (nI 2).toNatClampNeg = 2 := rfl
  have t3 : (nI 3).toNatClampNeg = 3 := rfl
  show cpA1 P b n (nI 0) (cpA1 P b n (nI 1) (cpA1 P b n (nI 2) (cpA1 P b n (nI 3) (fun Q => Q)))) Q _ = _
  unfold cpA1
  rw [nI_clamp (by omega : i < 2 ^ 31)]
  rcases (show i = 0 ∨ i = 1 ∨ i = 2 ∨ i = 3 by omega) with rfl | rfl | rfl | rfl
  · rw [if_neg h]
    by_cases c1 : n ≤ nI 1
    · simp only [c1, if_true, t0, va_up]
    · by_cases c2 : n ≤ nI 2
      · simp [c1, c2, t0, t1, va_up]
      · by_cases c3 : n ≤ nI 3
        · simp [c1, c2, c3, t0, t1, t2, va_up]
        · simp [c1, c2, c3, t0, t1, t2, t3, va_up]
  · have m0 := mono 0 (by decide)
    by_cases c2 : n ≤ nI 2
    · simp [m0, h, c2, t0, t1, va_up]
    · by_cases c3 : n ≤ nI 3
      · simp [m0, h, c2, c3, t0, t1, t2, va_up]
      · simp [m0, h, c2, c3, t0, t1, t2, t3, va_up]
  · have m0 := mono 0 (by decide)
    have m1 := mono 1 (by decide)
    by_cases c3 : n ≤ nI 3
    · simp [m0, m1, h, c3, t0, t1, t2, va_up]
    · simp [m0, m1, h, c3, t0, t1, t2, t3, va_up]
  · have m0 := mono 0 (by decide)
    have m1 := mono 1 (by decide)
    have m2 := mono 2 (by decide)
    simp [m0, m1, m2, h, t0, t1, t2, t3, va_up]
theorem cpA_mem {P : Nat → Option Nat} {L : List Nat} (b n : Int32) (hP : ∀ i q, P i = some q → q ∈ L) {Q : Nat → Option Nat} (hQ : ∀ i q, Q i = some q → q ∈ L) : ∀ i q, cpA P b n Q i = some q → q ∈ L := by
  have up : ∀ (Q : Nat → Option Nat) (m : Nat) (o : Nat), (∀ i q, Q i = some q → q ∈ L) → ∀ i q, va_up Q m (P o) i = some q → q ∈ L := by
    intro Q m o hQ i q
    unfold va_up
    split
    · exact hP o q
    · exact hQ i q
  have st : ∀ (i0 : Int32) (k : (Nat → Option Nat) → (Nat → Option Nat)), (∀ Q, (∀ i q, Q i = some q → q ∈ L) → ∀ i q, k Q i = some q → q ∈ L) → ∀ Q, (∀ i q, Q i = some q → q ∈ L) → ∀ i q, cpA1 P b n i0 k Q i = some q → q ∈ L := by
    intro i0 k hk Q hQ
    unfold cpA1
    split
    · exact hQ
    · exact hk _ (up Q _ _ hQ)
  exact st 0 _ (st 1 _ (st 2 _ (st 3 _ (fun Q h => h)))) Q hQ
theorem S_copy {u : XS} {v : YS} {e : Nat} (h : Rl F u v ι c e) (he : e ≤ M) (f a t w n : Int32) : Rp F ι c M (sCopy u f a t w n) (zCopy v f a t w n) := by
  have st : ∀ x : Int32, Rp F ι c M (x, u) (x, v) := fun x => ⟨rfl, e, he, h⟩
  unfold sCopy zCopy
  rw [B4, B4]
  cases h1 : fIn f 0 3
  · exact st _
  cases h2 : fIn t 0 3
  · exact st _
  simp only [if_true]
  rw [← B4] at h1 h2
  by_cases s1 : fStr a n = true
  · obtain ⟨c1, c3, c4⟩ := (str_sim a n).mp s1
    by_cases s2 : fStr w n = true
    · obtain ⟨c2, -, c5⟩ := (str_sim w n).mp s2
      have c5 : lg_cmp (w.toInt64 + n.toInt64) 4 ≤ 0 := by
        rw [lg_cmp_le]
        rw [lg_cmp_gt] at c5
        rw [Int64.lt_iff_toInt_lt] at c5
        rw [Int64.le_iff_toInt_le]
        omega
      rw [if_pos s1, if_pos s2, if_neg c1, if_neg c2, if_neg c3, if_neg c4, if_pos c5]
      obtain ⟨j, k, rfl, rfl, hjk⟩ := fStr_e s1
      have hok := h.ok
      have hR : Rl F (uQ u (cpA (gP u) (f * 4 + nI j) (nI k) (gQ u))) (zD v (zFill (yr v) (yd v) f)) ι c e := by
        obtain ⟨⟨o1, o2, o3, o4⟩, ⟨f1, f2, f3, f4, f5, f6, f7, f8⟩, r3, r4, r5, r6⟩ := h
        exact ⟨⟨o1, o2, cpA_mem _ _ o2 o3, o4⟩, ⟨f1, f2, f3, f4, f5, f6, f7, fill_in _ _ _ hok.2.2.2.1 f8⟩, r3, r4, r5, r6⟩
      have hq : Cq (uQ u (cpA (gP u) (f * 4 + nI j) (nI k) (gQ u))) (zD v (zFill (yr v) (yd v) f)) ι (nI j) (nI k) := by
        intro i hi hni
        have hik : i < k := by
          rcases Nat.lt_or_ge i k with q | q
          · exact q
          · exact absurd (nI_le q (by omega)) hni
        show zFill (yr v) (yd v) f (nI j + nI i).toNatClampNeg = cod ι (cpA (gP u) (f * 4 + nI j) (nI k) (gQ u) (nI i).toNatClampNeg)
        rw [cpA_at _ _ _ _ (fStr_le s1) i hi hni, nI_add, nI_clamp (by omega), fill_at _ _ _ _ (by omega), h.2.2.2.1.2, ← nI_add, ← Int32.add_assoc, Int32.mul_comm]
      unfold cpB zCp
      exact cp_step (j := 0) rfl (by decide) h2 (cp_step (j := 1) rfl (by decide) h2 (cp_step (j := 2) rfl (by decide) h2 (cp_step (j := 3) rfl (by decide) h2 (fun u v e h _ he => ⟨rfl, e, he, h⟩)))) _ _ e hR hq he
    · rw [if_pos s1, if_neg s2, if_neg c1, if_neg c3, if_neg c4]
      by_cases c2 : w < 0
      · rw [if_pos c2]
        exact st _
      · rw [if_neg c2, if_neg (fun q => s2 ((str_sim w n).mpr ⟨c2, c3, ngt_of_le q⟩))]
        exact st _
  · rw [if_neg s1]
    by_cases c1 : a < 0
    · rw [if_pos c1]
      exact st _
    rw [if_neg c1]
    by_cases c2 : w < 0
    · rw [if_pos c2]
      exact st _
    rw [if_neg c2]
    by_cases c3 : n < 0
    · rw [if_pos c3]
      exact st _
    rw [if_neg c3]
    by_cases c4 : 0 < lg_cmp (a.toInt64 + n.toInt64) 4
    · rw [if_pos c4]
      exact st _
    · exact absurd ((str_sim a n).mpr ⟨c1, c3, c4⟩) s1
end RLS7
