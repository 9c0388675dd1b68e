section RLS5
variable {F : XF} {u : XS} {v : YS} {ι : Nat → Nat} {c e : Nat}
theorem yC.up {k i : Nat → Int32} : ∀ (d : Nat) {t : Int32}, yC k i d t → yC k i (d + 1) t
  | 0, t, h => ⟨h.1, fun q => absurd q h.2⟩
  | d + 1, t, h => ⟨h.1, fun q => yC.up d (h.2 q)⟩
theorem yC.le {k i : Nat → Int32} {d n : Nat} {t : Int32} (h : yC k i d t) (hn : d ≤ n) : yC k i n t := by
  induction n with
  | zero => rw [show d = 0 by omega] at h; exact h
  | succ n ih =>
    by_cases hd : d = n + 1
    · rw [← hd]; exact h
    · exact yC.up n (ih (by omega))
/-- how many repeaters -/
theorem Rl.rep (h : Rl F u v ι c e) {a : Nat} (ha : a ∈ gL u) : ∃ d : Nat, d ≤ 3 ∧ (gT u a).2.2.2.1 = nI d := by
  obtain ⟨-, r2, r3, -⟩ := h.2.2.1.2.2.2.2.2 a ha
  by_cases h8 : (gT u a).1 = 8
  · obtain ⟨b, d, -, -, -, -, hd, he⟩ := r2 h8
    exact ⟨d + 1, by omega, he⟩
  · exact ⟨0, by omega, (r3 h8).2.2⟩
theorem Rl.yc (h : Rl F u v ι c e) : ∀ (d a : Nat), a ∈ gL u → (gT u a).2.2.2.1 = nI d → d ≤ 3 → yC (yk v) (yi v) d (nI (ι a)) := by
  intro d
  induction d with
  | zero =>
    intro a ha hd _
    have h1 := h.id ha
    refine ⟨vp_in_nI (by omega) (by decide), ?_⟩
    rw [h.cl ha, h.kd ha]
    intro h8
    obtain ⟨b, d, -, -, -, -, hd2, he⟩ := (h.2.2.1.2.2.2.2.2 a ha).2.1 h8
    rw [hd] at he
    exact absurd (nI_inj (by decide) (by omega) he) (by omega)
  | succ d ih =>
    intro a ha hd hd3
    have h1 := h.id ha
    refine ⟨vp_in_nI (by omega) (by decide), fun h8 => ?_⟩
    rw [h.cl ha, h.kd ha] at h8
    obtain ⟨b, d2, -, hb, hi, hr, hd2, he⟩ := (h.2.2.1.2.2.2.2.2 a ha).2.1 h8
    rw [h.cl ha, hi]
    rw [hd] at he
    have e1 := nI_inj (by omega) (by omega) he
    exact ih b hb (by rw [hr]; congr 1; omega) (by omega)
theorem Rl.ok (h : Rl F u v ι c e) : yOk v := by
  obtain ⟨f1, f2, f3, f4, f5, f6, f7, f8⟩ := h.2.1
  have sur := h.2.2.1.2.2.1
  have rg : ∀ o : Option Nat, (∀ q, o = some q → q ∈ gL u) → vp_in (cod ι o) 520 := by
    intro o ho
    cases o with
    | none => exact vp_in_nI (n := 0) (by decide) (by decide)
    | some q =>
      have h1 := h.id (ho q rfl)
      exact vp_in_nI (by omega) (by decide)
  refine ⟨fun j => ?_, fun x hx => ?_, fun j => ?_, fun j => ?_, f8⟩
  · rcases Nat.eq_zero_or_pos j with rfl | hj
    · rw [f4]
      unfold vp_in
      decide
    · rcases Nat.lt_or_ge c j with hc | hc
      · rw [f5 j hc]
        unfold vp_in
        decide
      · obtain ⟨a, ha, rfl⟩ := sur j (by omega) hc
        rw [h.kd ha]
        exact isB_in10 (h.1.2.2.2.2.1 a ha)
  · obtain ⟨j, hj, rfl⟩ := vp_in_of hx (by decide)
    have base : yk v j = 0 → yC (yk v) (yi v) 3 (nI j) := fun q => yC.le (d := 0) ⟨hx, by rw [nI_clamp (by omega), q]; decide⟩ (by omega)
    rcases Nat.eq_zero_or_pos j with rfl | hj2
    · exact base f4
    · rcases Nat.lt_or_ge c j with hc | hc
      · exact base (f5 j hc)
      · obtain ⟨a, ha, rfl⟩ := sur j (by omega) hc
        obtain ⟨d, hd, ed⟩ := h.rep ha
        exact (h.yc d a ha ed hd).le hd
  · rw [h.2.2.2.1.1]
    exact rg _ (h.1.1 _)
  · rw [h.2.2.2.1.2]
    exact rg _ (h.1.2.1 _)
theorem dep_sim (h : Rl F u v ι c e) : ∀ (m d a : Nat) (d0 : Int32), a ∈ gL u → (gT u a).2.2.2.1 = nI d → d < m → d ≤ 3 → fDep (yk v) (yi v) m (nI (ι a)) d0 = d0 + nI d := by
  intro m
  induction m with
  | zero => intro d a d0 _ _ h1 _; omega
  | succ m ih =>
    intro d a d0 ha hd hm h3
    obtain ⟨r1, r2, r3, -⟩ := h.2.2.1.2.2.2.2.2 a ha
    have h1 := h.id ha
    unfold fDep
    rw [h.cl ha, r1, if_neg (pos_nI h1.1 (by omega))]
    by_cases h8 : (gT u a).1 = 8
    · obtain ⟨b, d2, -, hb, hi, hr, hd2, he⟩ := r2 h8
      rw [hd] at he
      have e1 := nI_inj (by omega) (by omega) he
      subst e1
      rw [if_pos h8, hi, ih d2 b (d0 + 1) hb hr (by omega) (by omega), Int32.add_assoc]
      congr 1
      show nI 1 + nI d2 = _
      rw [nI_add, Nat.add_comm]
    · have e0 := (r3 h8).2.2
      rw [hd] at e0
      have e1 : d = 0 := nI_inj (by omega) (by decide) e0
      subst e1
      rw [if_neg h8]
      exact (Int32.add_zero d0).symm
/-- the model's state with a new thing -/
theorem Rl.new (h : Rl F u v ι c e) (hc : c + 1 < 519) {z : Nat} (hz : z ∉ gL u) (i : Nat) (k n fr : Int32) (t : TH) (hk : isB k 10 = true) (ht : t.1 = k)
    (h8 : k = 8 → ∃ b d : Nat, t.2.2.1 = some b ∧ b ∈ gL u ∧ fr = nI (ι b) ∧ (gT u b).2.2.2.1 = nI d ∧ d ≤ 2 ∧ t.2.2.2.1 = nI (d + 1)) (hn : ¬ k = 8 → n = t.2.1 ∧ t.2.2.1 = none ∧ t.2.2.2.1 = 0)
    (h0 : k = 0 → t.2.2.2.2.1 = 4) (h9 : k = 9 → t.2.2.2.2.2 = t.2.1 + 1) (h4 : k = 4 → t.2.1 = 2) (h5 : k = 5 → t.2.1 = 9) :
    Rl F (uT (uS u (va_up (gS u) i (some z))) (gL u ++ [z]) (va_up (gT u) z t)) (zS (zNew v (yt v + 1) k n fr) (upd (ys v) i (yt v + 1))) (va_up ι z (c + 1)) (c + 1) e := by
  obtain ⟨ok1, ok2, ok3, ok4, ok5, ok6, ok7⟩ := h.1
  obtain ⟨f1, f2, f3, f4, f5, f6, f7, f8⟩ := h.2.1
  obtain ⟨a1, a2, a3, a4, a5, a6⟩ := h.2.2.1
  have ty : yt v + 1 = nI (c + 1) := by rw [f1, nI_1]
  have tcl : (yt v + 1).toNatClampNeg = c + 1 := by rw [ty]; exact nI_clamp (by omega)
  have ml : ∀ {q}, q ∈ gL u → q ∈ gL u ++ [z] := fun hq => List.mem_append_left _ hq
  have mz : z ∈ gL u ++ [z] := List.mem_append_right _ (List.mem_singleton.mpr rfl)
  have nz : ∀ {q}, q ∈ gL u → q ≠ z := fun hq hqz => hz (hqz ▸ hq)
  have ιo : ∀ {q}, q ∈ gL u → va_up ι z (c + 1) q = ι q := fun hq => va_up_ne _ _ (nz hq)
  have ιz : va_up ι z (c + 1) z = c + 1 := va_up_self _ _ _
  have To : ∀ {q}, q ∈ gL u → va_up (gT u) z t q = gT u q := fun hq => va_up_ne _ _ (nz hq)
  have Tz : va_up (gT u) z t z = t := va_up_self _ _ _
  have up1 : ∀ (f : Nat → Int32) (x : Int32), upd f (yt v + 1).toNatClampNeg x (c + 1) = x := fun f x => by rw [tcl]; exact pk_us
  have up2 : ∀ (f : Nat → Int32) (x : Int32) (j : Nat), j ≠ c + 1 → upd f (yt v + 1).toNatClampNeg x j = f j := fun f x j hj => by rw [tcl]; exact pk_un hj
  have cdo : ∀ o : Option Nat, (∀ q, o = some q → q ∈ gL u) → cod (va_up ι z (c + 1)) o = cod ι o := by
    intro o ho
    cases o with
    | none => rfl
    | some q => exact congrArg nI (ιo (ho q rfl))
  refine ⟨⟨?_, ?_, ?_, ?_, ?_, ml ok6, ml ok7⟩, ⟨ty, by omega, hc, ?_, ?_, f6, f7, f8⟩, ⟨?_, ?_, ?_, ?_, ?_, ?_⟩, ⟨?_, ?_⟩, h.2.2.2.2.1, h.2.2.2.2.2⟩
  · intro j q hq
    have hq : va_up (gS u) i (some z) j = some q := hq
    by_cases hj : j = i
    · subst hj
      rw [va_up_self] at hq
      cases hq
      exact mz
    · rw [va_up_ne _ _ hj] at hq
      exact ml (ok1 j q hq)
  · exact fun j q hq => ml (ok2 j q hq)
  · exact fun j q hq => ml (ok3 j q hq)
  · intro a ha q hq
    have hq : (va_up (gT u) z t a).2.2.1 = some q := hq
    rcases List.mem_append.mp ha with ha | ha
    · rw [To ha] at hq
      exact ml (ok4 a ha q hq)
    · rw [List.mem_singleton.mp ha, Tz] at hq
      by_cases k8 : k = 8
      · obtain ⟨b, d, s1, s2, -⟩ := h8 k8
        rw [s1] at hq
        cases hq
        exact ml s2
      · rw [(hn k8).2.1] at hq
        cases hq
  · intro a ha
    show isB (va_up (gT u) z t a).1 10 = true
    rcases List.mem_append.mp ha with ha | ha
    · rw [To ha]
      exact ok5 a ha
    · rw [List.mem_singleton.mp ha, Tz, ht]
      exact hk
  · show upd (yk v) _ k 0 = 0
    rw [up2 _ _ 0 (by omega)]
    exact f4
  · intro j hj
    show upd (yk v) _ k j = 0
    rw [up2 _ _ j (by omega)]
    exact f5 j (by omega)
  · intro a ha
    rcases List.mem_append.mp ha with ha | ha
    · rw [ιo ha]
      have := a1 a ha
      omega
    · rw [List.mem_singleton.mp ha, ιz]
      omega
  · intro a ha b hb hab
    rcases List.mem_append.mp ha with ha | ha <;> rcases List.mem_append.mp hb with hb | hb
    · rw [ιo ha, ιo hb] at hab
      exact a2 a ha b hb hab
    · rw [ιo ha, List.mem_singleton.mp hb, ιz] at hab
      have := a1 a ha
      omega
    · rw [ιo hb, List.mem_singleton.mp ha, ιz] at hab
      have := a1 b hb
      omega
    · rw [List.mem_singleton.mp ha, List.mem_singleton.mp hb]
  · intro j h1 h2
    by_cases hj : j = c + 1
    · exact ⟨z, mz, by rw [ιz, hj]⟩
    · obtain ⟨a, ha, he⟩ := a3 j h1 (by omega)
      exact ⟨a, ml ha, by rw [ιo ha, he]⟩
  · rw [ιo ok6]
    exact a4
  · rw [ιo ok7]
    exact a5
  · intro a ha
    rcases List.mem_append.mp ha with ha | ha
    · obtain ⟨r1, r2, r3, r4, r5, r6, r7⟩ := a6 a ha
      have h1 := a1 a ha
      have ne : ι a ≠ c + 1 := by omega
      show RTg (va_up (gT u) z t) (gL u ++ [z]) (upd (yk v) (yt v + 1).toNatClampNeg k) (upd (yn v) (yt v + 1).toNatClampNeg n) (upd (yi v) (yt v + 1).toNatClampNeg fr) (va_up ι z (c + 1)) a
      unfold RTg
      rw [To ha, ιo ha, up2 _ _ _ ne, up2 _ _ _ ne, up2 _ _ _ ne]
      refine ⟨r1, fun q => ?_, r3, r4, r5, r6, r7⟩
      obtain ⟨b, d, s1, s2, s3, s4, s5, s6⟩ := r2 q
      exact ⟨b, d, s1, ml s2, by rw [ιo s2]; exact s3, by rw [To s2]; exact s4, s5, s6⟩
    · rw [List.mem_singleton.mp ha]
      show RTg (va_up (gT u) z t) (gL u ++ [z]) (upd (yk v) (yt v + 1).toNatClampNeg k) (upd (yn v) (yt v + 1).toNatClampNeg n) (upd (yi v) (yt v + 1).toNatClampNeg fr) (va_up ι z (c + 1)) z
      unfold RTg
      rw [Tz, ιz, up1, up1, up1, ht]
      refine ⟨rfl, fun q => ?_, hn, h0, h9, h4, h5⟩
      obtain ⟨b, d, s1, s2, s3, s4, s5, s6⟩ := h8 q
      exact ⟨b, d, s1, ml s2, by rw [ιo s2]; exact s3, by rw [To s2]; exact s4, s5, s6⟩
  · intro j
    show upd (ys v) i (yt v + 1) j = cod (va_up ι z (c + 1)) (va_up (gS u) i (some z) j)
    unfold upd
    by_cases hj : j = i
    · subst hj
      rw [if_pos rfl, va_up_self, ty]
      show _ = nI (va_up ι z (c + 1) z)
      rw [ιz]
    · rw [if_neg hj, va_up_ne _ _ hj, cdo _ (ok1 j)]
      exact h.2.2.2.1.1 j
  · intro j
    show yr v j = cod (va_up ι z (c + 1)) (gP u j)
    rw [cdo _ (ok2 j)]
    exact h.2.2.2.1.2 j
end RLS5
