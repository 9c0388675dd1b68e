section RLS2
variable {F : XF} {u : XS} {v : YS} {ι : Nat → Nat} {c e : Nat}
theorem cod_up {f : Nat → Int32} {g : Nat → Option Nat} (h : ∀ i, f i = cod ι (g i)) (i : Nat) {x : Int32} {o : Option Nat} (hx : x = cod ι o) : ∀ j, upd f i x j = cod ι (va_up g i o j) := by
  intro j
  unfold upd va_up
  by_cases hj : j = i
  · rw [if_pos hj, if_pos hj, hx]
  · rw [if_neg hj, if_neg hj, h j]
theorem Rl.setS (h : Rl F u v ι c e) (i : Nat) {x : Int32} {o : Option Nat} (hx : x = cod ι o) (ho : ∀ q, o = some q → q ∈ gL u) : Rl F (uS u (va_up (gS u) i o)) (zS v (upd (ys v) i x)) ι c e :=
  ⟨xOk_S h.1 i o ho, h.2.1, h.2.2.1, ⟨cod_up h.2.2.2.1.1 i hx, h.2.2.2.1.2⟩, h.2.2.2.2.1, h.2.2.2.2.2⟩
theorem Rl.setP (h : Rl F u v ι c e) (i : Nat) {x : Int32} {o : Option Nat} (hx : x = cod ι o) (ho : ∀ q, o = some q → q ∈ gL u) : Rl F (uP u (va_up (gP u) i o)) (zR v (upd (yr v) i x)) ι c e :=
  ⟨xOk_P h.1 i o ho, h.2.1, h.2.2.1, ⟨h.2.2.2.1.1, cod_up h.2.2.2.1.2 i hx⟩, h.2.2.2.2.1, h.2.2.2.2.2⟩
theorem S_drop (h : Rl F u v ι c e) (a : Int32) : (sDrop u a).1 = (zDrop v a).1 ∧ Rl F (sDrop u a).2 (zDrop v a).2 ι c e := by
  unfold sDrop zDrop
  rw [B8]
  cases hb : fIn a 0 7
  · simp
    exact h
  · simp only [if_true]
    refine ⟨?_, h.setS _ rfl (fun q hq => by cases hq)⟩
    cases hs : gS u a.toNatClampNeg with
    | none => simp [h.s0 hs]
    | some q => simp [(h.s1 hs).2.2]
theorem four (r p : Int32) : 4 * r + p = r * 4 + p := by rw [Int32.mul_comm]
theorem S_load (h : Rl F u v ι c e) (r p a : Int32) : (sLoad u r p a).1 = (zLoad v r p a).1 ∧ Rl F (sLoad u r p a).2 (zLoad v r p a).2 ι c e := by
  unfold sLoad zLoad
  rw [B4, B8, B4]
  cases h1 : fIn r 0 3
  · simp
    exact h
  cases h2 : fIn a 0 7
  · simp
    exact h
  cases h3 : fIn p 0 3
  · simp
    exact h
  simp only [if_true]
  refine ⟨trivial, ?_⟩
  rw [four]
  exact h.setS _ (h.2.2.2.1.2 _) (h.1.2.1 _)
theorem rt_tab : ∀ j, j < 4 → fRt (nI j) = rowV j ∧ isB (rowV j) 9 = true := by decide +kernel
theorem Rl.fit (h : Rl F u v ι c e) {r : Int32} (hr : isB r 4 = true) (o : Option Nat) (ho : ∀ q, o = some q → q ∈ gL u) : fFits v (cod ι o) r = fFit u r o := by
  obtain ⟨j, hj, rfl⟩ := vp_in_of (isB_in4 hr) (by decide)
  obtain ⟨t1, t2⟩ := rt_tab j hj
  unfold fFits fFit
  cases o with
  | none => simp [cod]
  | some q =>
    have hm := ho q rfl
    have h1 := h.id hm
    show (decide (nI (ι q) = 0) || fOf v (nI (ι q)) (fRt (nI j))) = fIs (gT u q) (rowV (nI j).toNatClampNeg)
    rw [decide_eq_false (nI_ne0 (by omega) (by omega)), t1, nI_clamp (by omega), h.of hm t2]
    simp
theorem S_store (h : Rl F u v ι c e) (r p a : Int32) : (sStore u r p a).1 = (zStore v r p a).1 ∧ Rl F (sStore u r p a).2 (zStore v r p a).2 ι c e := by
  unfold sStore zStore
  rw [B4, B8, B4]
  cases h1 : fIn r 0 3
  · simp
    exact h
  cases h2 : fIn a 0 7
  · simp
    exact h
  cases h3 : fIn p 0 3
  · simp
    exact h
  simp only [if_true]
  unfold sPut
  rw [← B4] at h1
  rw [h.2.2.2.1.1, h.fit h1 _ (h.1.1 _)]
  cases hf : fFit u r (gS u a.toNatClampNeg)
  · simp
    exact h
  · simp only [if_true]
    refine ⟨trivial, ?_⟩
    rw [four]
    exact h.setP _ rfl (h.1.1 _)
theorem is3 : ∀ k, k < 10 → fHold (tokV k) 3 = true → ¬ nI k = 8 := by decide +kernel
theorem Rl.n3 (h : Rl F u v ι c e) {a : Nat} (ha : a ∈ gL u) (h3 : fIs (gT u a) 3 = true) : yn v (ι a) = (gT u a).2.1 := by
  obtain ⟨k, hk, ek⟩ := h.kr ha
  refine ((h.2.2.1.2.2.2.2.2 a ha).2.2.1 ?_).1
  rw [ek]
  refine is3 k hk ?_
  unfold fIs at h3
  rw [ek, nI_clamp (by omega)] at h3
  exact h3
theorem S_comp (h : Rl F u v ι c e) (a b : Int32) : (sComp u a b).1 = (zComp v a b).1 ∧ Rl F (sComp u a b).2 (zComp v a b).2 ι c e := by
  unfold sComp zComp
  rw [B8, B8]
  cases h1 : fIn a 0 7
  · simp
    exact h
  cases h2 : fIn b 0 7
  · simp
    exact h
  simp only [if_true]
  cases hs : gS u a.toNatClampNeg with
  | none =>
    simp [h.s0 hs]
    exact h
  | some p =>
    obtain ⟨e1, m1, n1⟩ := h.s1 hs
    cases ht : gS u b.toNatClampNeg with
    | none =>
      simp [n1, h.s0 ht]
      exact h
    | some q =>
      obtain ⟨e2, m2, n2⟩ := h.s1 ht
      have b3 : isB 3 9 = true := by decide
      rw [if_neg n1, if_neg n2, e1, e2, h.of m1 b3, h.of m2 b3]
      cases f1 : fIs (gT u p) 3
      · simp [f1]
        exact h
      cases f2 : fIs (gT u q) 3
      · simp [f1, f2]
        exact h
      simp only [f1, f2, if_true]
      rw [h.cl m1, h.cl m2, h.n3 m1 f1, h.n3 m2 f2]
      exact ⟨trivial, h.setV _⟩
/-! members -/
theorem chase_sim (h : Rl F u v ι c e) : ∀ (n a : Nat), a ∈ gL u → yChase (yk v) (yi v) n (nI (ι a)) = nI (ι (chase (gT u) n a)) ∧ chase (gT u) n a ∈ gL u := by
  intro n
  induction n with
  | zero => exact fun a ha => ⟨rfl, ha⟩
  | succ n ih =>
    intro a ha
    obtain ⟨r1, r2, r3, -⟩ := h.2.2.1.2.2.2.2.2 a ha
    unfold yChase chase
    rw [h.cl ha, r1]
    by_cases h8 : (gT u a).1 = 8
    · obtain ⟨b, d, s1, s2, s3, -⟩ := r2 h8
      rw [if_pos h8, s1, s3]
      exact ih b s2
    · obtain ⟨s1, s2, s3⟩ := r3 h8
      rw [if_neg h8, s2]
      exact ⟨rfl, ha⟩
theorem fc_sim (t : TH) (sc x : Int32) (h4 : t.1 = 4 → t.2.1 = 2) (h5 : t.1 = 5 → t.2.1 = 9) {n : Int32} (hn : ¬ t.1 = 8 → n = t.2.1) : fYC t.1 n sc x = fCall t sc x := by
  unfold fYC fCall
  by_cases e8 : t.1 = 8
  · simp [e8]
  · rw [hn e8]
    by_cases e4 : t.1 = 4
    · simp [e4, h4 e4]
    · by_cases e5 : t.1 = 5
      · simp [e5, h5 e5, Int32.mul_comm]
      · simp [e4, e5]
theorem S_call (h : Rl F u v ι c e) {a : Nat} (ha : a ∈ gL u) (x : Int32) : (sCall u a x).1 = (zCall v (nI (ι a)) x).1 ∧ Rl F (sCall u a x).2 (zCall v (nI (ι a)) x).2 ι c e := by
  obtain ⟨e1, hm⟩ := chase_sim h 3 a ha
  have hr := h.2.2.1.2.2.2.2.2 _ hm
  unfold sCall zCall
  have key : fYC (yk v (yChase (yk v) (yi v) 3 (nI (ι a))).toNatClampNeg) (yn v (yChase (yk v) (yi v) 3 (nI (ι a))).toNatClampNeg) (yc v) x = fCall (gT u (chase (gT u) 3 a)) (gsc u) x := by
    rw [e1, h.cl hm, hr.1, h.2.2.2.2.1.1]
    exact fc_sim _ _ _ hr.2.2.2.2.2.1 hr.2.2.2.2.2.2 (fun h8 => (hr.2.2.1 h8).1)
  rw [key]
  exact ⟨rfl, h.setC _⟩
end RLS2
