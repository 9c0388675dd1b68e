theorem vb_ne (u : XS) (k n : Int32) (q i : Nat) (h : ¬ k = 9) : uS (vBase u k n q) (va_up (gS (vBase u k n q)) i (some q)) = uN (uT (uS u (va_up (gS u) i (some q))) (gL u ++ [q]) (va_up (gT u) q (k, n, none, 0, (if k = 0 then 4 else 0), 0))) (fSeed (tNew k n)) := by
  unfold vBase
  rw [if_neg h]
  rfl
theorem vb_9 (u : XS) (n : Int32) (q i : Nat) : uS (vBase u 9 n q) (va_up (gS (vBase u 9 n q)) i (some q)) = uN (uN (uT (uS u (va_up (gS u) i (some q))) (gL u ++ [q]) (va_up (gT u) q (9, n, none, 0, 0, n + 1))) (fSeed (tNew 9 n))) (n + 1) := by
  unfold vBase
  rw [if_pos rfl]
  rfl
theorem tab3 : ∀ k, k < 10 → fHold (tokV k) 3 = (decide (k = 0) || decide (k = 1) || decide (k = 2) || decide (k = 9)) := by decide +kernel
section RLS6
variable {F : XF} {u : XS} {v : YS} {ι : Nat → Nat} {c e : Nat}
theorem of_new (h : Rl F u v ι c e) (hc : c + 1 < 519) (a n : Int32) {k : Nat} (hk : k < 10) : fOf (zMk0 v a (nI k) n) (yt (zMk0 v a (nI k) n)) 3 = (decide (k = 0) || decide (k = 1) || decide (k = 2) || decide (k = 9)) ∧ yk (zMk0 v a (nI k) n) (yt (zMk0 v a (nI k) n)).toNatClampNeg = nI k ∧ yn (zMk0 v a (nI k) n) (yt (zMk0 v a (nI k) n)).toNatClampNeg = n := by
  have ty : yt v + 1 = nI (c + 1) := by rw [h.2.1.1, nI_1]
  have e1 : yt (zMk0 v a (nI k) n) = nI (c + 1) := ty
  have e2 : yk (zMk0 v a (nI k) n) (nI (c + 1)).toNatClampNeg = nI k := by
    show upd (yk v) (yt v + 1).toNatClampNeg (nI k) _ = _
    rw [ty]
    exact pk_us
  have e3 : yn (zMk0 v a (nI k) n) (nI (c + 1)).toNatClampNeg = n := by
    show upd (yn v) (yt v + 1).toNatClampNeg n _ = _
    rw [ty]
    exact pk_us
  rw [e1]
  refine ⟨?_, e2, e3⟩
  unfold fOf
  rw [e2, nI_clamp (by omega), decide_eq_false (pos_nI (j := c + 1) (by omega) (by omega))]
  have e4 : yy (zMk0 v a (nI k) n) k = tokV k := h.2.1.2.2.2.2.2.1 k hk
  rw [e4, ← tab3 k hk, show (3 : Int32) = nI 3 from rfl, tab_of k hk 3 (by decide)]
  rfl
theorem S_make (h : Rl F u v ι c e) (hc : c + 1 < 519) (he : e + 2 < 2 ^ 30) {a k n r : Int32} {u' : XS} (hm : rMake F u a k n r u') : r = (zMake v a k n).1 ∧ ∃ (ι' : Nat → Nat) (c' e' : Nat), c' ≤ c + 1 ∧ e' ≤ e + 2 ∧ Rl F u' (zMake v a k n).2 ι' c' e' := by
  unfold rMake at hm
  unfold zMake
  rw [B8, B10] at hm
  have stay : ∀ x : Int32, r = x ∧ u' = u → r = (x, v).1 ∧ ∃ (ι' : Nat → Nat) (c' e' : Nat), c' ≤ c + 1 ∧ e' ≤ e + 2 ∧ Rl F u' (x, v).2 ι' c' e' := fun x q => ⟨q.1, ι, c, e, by omega, by omega, by rw [q.2]; exact h⟩
  cases h1 : fIn a 0 7
  · rw [h1] at hm
    exact stay _ hm
  rw [h1] at hm
  cases h2 : fIn k 0 9
  · rw [h2] at hm
    exact stay _ hm
  rw [h2] at hm
  simp only [if_true] at hm ⊢
  rw [← B10] at h2
  obtain ⟨kk, hkk, rfl⟩ := vp_in_of (isB_in10 h2) (by decide)
  obtain ⟨a1, a2, a3, a4, a5, a6⟩ := h.2.2.1
  by_cases k4 : nI kk = 4
  · rw [if_pos k4]
    rw [if_neg (by rw [k4]; decide)] at hm
    obtain ⟨rfl, w, q, hw, rfl⟩ := hm
    unfold rNew at hw
    rw [if_pos k4] at hw
    obtain ⟨rfl, rfl⟩ := Prod.mk.inj hw
    exact ⟨rfl, ι, c, e, by omega, by omega, h.setS _ (show (1 : Int32) = nI (ι F.2.1) by rw [a4]; rfl) (fun q hq => by cases hq; exact h.1.2.2.2.2.2.1)⟩
  rw [if_neg k4]
  by_cases k5 : nI kk = 5
  · rw [if_pos k5]
    rw [if_neg (by rw [k5]; decide)] at hm
    obtain ⟨rfl, w, q, hw, rfl⟩ := hm
    unfold rNew at hw
    rw [if_neg k4, if_pos k5] at hw
    obtain ⟨rfl, rfl⟩ := Prod.mk.inj hw
    exact ⟨rfl, ι, c, e, by omega, by omega, h.setS _ (show (2 : Int32) = nI (ι F.2.2.1) by rw [a5]; rfl) (fun q hq => by cases hq; exact h.1.2.2.2.2.2.2)⟩
  rw [if_neg k5]
  have n4 : ¬ kk = 4 := fun q => k4 (by rw [q]; rfl)
  have n5 : ¬ kk = 5 := fun q => k5 (by rw [q]; rfl)
  by_cases k8 : nI kk = 8
  · have e8 : kk = 8 := nI_inj (by omega) (by decide) k8
    subst e8
    rw [if_pos k8] at hm ⊢
    unfold rRep at hm
    cases hs : gS u (n &&& 7).toNatClampNeg with
    | none =>
      rw [hs] at hm
      rw [if_pos (h.s0 hs)]
      exact stay _ hm
    | some q =>
      rw [hs] at hm
      obtain ⟨e1, hq, ne⟩ := h.s1 hs
      obtain ⟨d, hd, ed⟩ := h.rep hq
      rw [if_neg ne, e1, dep_sim h 4 d q 0 hq ed (by omega) hd, show (0 : Int32) + nI d = nI d from Int32.zero_add _]
      have hm : (if (gT u q).2.2.2.1 < 3 then r = 0 ∧ ∃ z, z ∉ gL u ∧ u' = uT (uS u (va_up (gS u) a.toNatClampNeg (some z))) (gL u ++ [z]) (va_up (gT u) z (8, 0, some q, (gT u q).2.2.2.1 + 1, 0, 0)) else r = -1 ∧ u' = u) := hm
      rw [ed] at hm
      by_cases d3 : d = 3
      · subst d3
        rw [if_neg (show ¬ nI 3 < 3 by decide)] at hm
        rw [if_pos (show nI 3 = 3 from rfl)]
        exact stay _ hm
      · rw [if_pos (show nI d < 3 from nI_lt (b := 3) (by omega) (by decide))] at hm
        rw [if_neg (show ¬ nI d = 3 from fun z => d3 (nI_inj (by omega) (by decide) z))]
        obtain ⟨rfl, z, hz, rfl⟩ := hm
        obtain ⟨o1, -⟩ := of_new h hc a n (k := 8) (by decide)
        have hN := h.new hc hz a.toNatClampNeg (nI 8) n (nI (ι q)) (8, 0, some q, nI d + 1, 0, 0) h2 rfl (fun _ => ⟨q, d, rfl, hq, rfl, ed, by omega, nI_1 d⟩) (fun z => absurd rfl z) (fun z => absurd z (by decide)) (fun z => absurd z (by decide)) (fun z => absurd z (by decide)) (fun z => absurd z (by decide))
        unfold zMk zMk1
        rw [if_neg (show ¬ nI 8 = 9 by decide), if_neg (show ¬ nI 8 = 0 by decide), o1]
        refine ⟨rfl, va_up ι z (c + 1), c + 1, e, by omega, by omega, ?_⟩
        unfold zMk0
        rw [e1]
        exact hN
  rw [if_neg k8] at hm ⊢
  have n8 : ¬ kk = 8 := fun q => k8 (by rw [q]; rfl)
  obtain ⟨rfl, w, q, hw, rfl⟩ := hm
  unfold rNew at hw
  rw [if_neg k4, if_neg k5] at hw
  obtain ⟨o1, o2, o3⟩ := of_new h hc a n hkk
  unfold zMk zMk1
  rw [o1]
  have b9 : nI kk = 9 ↔ kk = 9 := ⟨fun z => nI_inj (by omega) (by decide) z, fun z => by rw [z]; rfl⟩
  have b0 : nI kk = 0 ↔ kk = 0 := ⟨fun z => nI_inj (by omega) (by decide) z, fun z => by rw [z]; rfl⟩
  have b1 : nI kk = 1 ↔ kk = 1 := ⟨fun z => nI_inj (by omega) (by decide) z, fun z => by rw [z]; rfl⟩
  have b2 : nI kk = 2 ↔ kk = 2 := ⟨fun z => nI_inj (by omega) (by decide) z, fun z => by rw [z]; rfl⟩
  have mk := fun (z : Nat) (hz : z ∉ gL u) (t : TH) (ht : t.1 = nI kk) (hn : n = t.2.1 ∧ t.2.2.1 = none ∧ t.2.2.2.1 = 0) (h0 : nI kk = 0 → t.2.2.2.2.1 = 4) (h9 : nI kk = 9 → t.2.2.2.2.2 = t.2.1 + 1) => h.new hc hz a.toNatClampNeg (nI kk) n (ys v (n &&& 7).toNatClampNeg) t h2 ht (fun z => absurd z k8) (fun _ => hn) h0 h9 (fun z => absurd z k4) (fun z => absurd z k5)
  by_cases base : nI kk = 0 ∨ nI kk = 1 ∨ nI kk = 2 ∨ nI kk = 9
  · rw [if_pos base] at hw
    obtain ⟨hz, hw⟩ := hw
    have hz : q ∉ gL u := hz
    have hw : w = vBase u (nI kk) n q := hw
    subst hw
    rw [b0, b1, b2, b9] at base
    by_cases c9 : kk = 9
    · subst c9
      have hN := mk q hz (9, n, none, 0, 0, n + 1) rfl ⟨rfl, rfl, rfl⟩ (fun z => absurd z (by decide)) (fun _ => rfl)
      refine ⟨rfl, va_up ι q (c + 1), c + 1, e + 1 + 1, by omega, by omega, ?_⟩
      have hs : zSeed (zMk0 v a (nI 9) n) (yt (zMk0 v a (nI 9) n)) = 1 := by
        unfold zSeed
        rw [o2]
        rfl
      rw [if_pos (show nI 9 = 9 from rfl), if_neg (show ¬ nI 9 = 0 by decide), if_pos (by decide), hs]
      have e3 := vb_9 u n q a.toNatClampNeg
      have e4 : fSeed (tNew 9 n) = 1 := rfl
      rw [e4] at e3
      show Rl F (uS (vBase u 9 n q) (va_up (gS (vBase u 9 n q)) a.toNatClampNeg (some q))) _ _ _ _
      rw [e3]
      exact (hN.note (by omega) 1).note (by omega) (n + 1)
    · rw [if_neg (fun z => c9 (b9.mp z))]
      rw [vb_ne u (nI kk) n q _ (fun z => c9 (b9.mp z))]
      have hN := mk q hz (nI kk, n, none, 0, (if nI kk = 0 then 4 else 0), 0) rfl ⟨rfl, rfl, rfl⟩ (fun z => if_pos z) (fun z => absurd (b9.mp z) c9)
      refine ⟨rfl, va_up ι q (c + 1), c + 1, e + 1, by omega, by omega, ?_⟩
      have ez : (if nI kk = 0 then zN (zMk0 v a (nI kk) n) 20 else if (decide (kk = 0) || decide (kk = 1) || decide (kk = 2) || decide (kk = 9)) = true then zN (zMk0 v a (nI kk) n) (zSeed (zMk0 v a (nI kk) n) (yt (zMk0 v a (nI kk) n))) else zMk0 v a (nI kk) n) = zN (zMk0 v a (nI kk) n) (fSeed (tNew (nI kk) n)) := by
        by_cases c0 : kk = 0
        · subst c0
          rw [if_pos (show nI 0 = 0 from rfl)]
          rfl
        · have hs : zSeed (zMk0 v a (nI kk) n) (yt (zMk0 v a (nI kk) n)) = fSeed (tNew (nI kk) n) := by
            unfold zSeed fSeed tNew
            rw [o2, o3, if_neg (fun z => c0 (b0.mp z)), if_neg (show ¬ (nI kk, n, (none : Option Nat), (0 : Int32), (0 : Int32), (0 : Int32)).1 = 0 from fun z => c0 (b0.mp z))]
          have hb : (decide (kk = 0) || decide (kk = 1) || decide (kk = 2) || decide (kk = 9)) = true := by
            simp only [Bool.or_eq_true, decide_eq_true_eq]
            rcases base with z | z | z | z
            · exact Or.inl (Or.inl (Or.inl z))
            · exact Or.inl (Or.inl (Or.inr z))
            · exact Or.inl (Or.inr z)
            · exact Or.inr z
          rw [if_neg (fun z => c0 (b0.mp z)), if_pos hb, hs]
      show Rl F _ (if nI kk = 0 then zN (zMk0 v a (nI kk) n) 20 else if (decide (kk = 0) || decide (kk = 1) || decide (kk = 2) || decide (kk = 9)) = true then zN (zMk0 v a (nI kk) n) (zSeed (zMk0 v a (nI kk) n) (yt (zMk0 v a (nI kk) n))) else zMk0 v a (nI kk) n) _ _ _
      rw [ez]
      exact hN.note (by omega) _
  · rw [if_neg base] at hw
    obtain ⟨hz, hw⟩ := hw
    have hz : q ∉ gL u := hz
    have hw : w = uT u (gL u ++ [q]) (va_up (gT u) q (tNew (nI kk) n)) := hw
    subst hw
    rw [b0, b1, b2, b9] at base
    have hN := mk q hz (tNew (nI kk) n) rfl ⟨rfl, rfl, rfl⟩ (fun z => absurd (Or.inl (b0.mp z)) base) (fun z => absurd (Or.inr (Or.inr (Or.inr (b9.mp z)))) base)
    refine ⟨rfl, va_up ι q (c + 1), c + 1, e, by omega, by omega, ?_⟩
    rw [if_neg (fun z => base (Or.inr (Or.inr (Or.inr (b9.mp z))))), if_neg (fun z => base (Or.inl (b0.mp z))), if_neg (by
      simp only [Bool.or_eq_true, decide_eq_true_eq]
      intro z
      rcases z with ((z | z) | z) | z
      · exact base (Or.inl z)
      · exact base (Or.inr (Or.inl z))
      · exact base (Or.inr (Or.inr (Or.inl z)))
      · exact base (Or.inr (Or.inr (Or.inr z))))]
    exact hN
end RLS6
