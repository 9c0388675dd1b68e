/-! numbers: floats and doubles of the class against the model's whole numbers -/
theorem fp0 (a : Int32) : FP.f2i (FP.i2f a) = fHeld (fRnd a) := by
  sorry
theorem fp1 (a b : Int32) (hb : ¬ b = 0) : FP.d2i (FP.ddiv (FP.i2d a) (FP.i2d b)) = fHeld (a.toInt64 / b.toInt64) := by
  sorry
theorem fp7 (a b : Int32) : (Op.cmpValue (FP.fcmp (FP.i2f a) (FP.i2f b)) .l = 0) ↔ (lg_cmp (fRnd a) (fRnd b) = 0) := by
  sorry
theorem fp8 (a : Int32) : FP.d2i (FP.dmul (FP.i2d a) 4604930618986332160) = (a.toInt64 * 3 / 4).toInt32 := by
  sorry
theorem dec_sim (a : Int32) : fDec a = fDecY a := by
  sorry
theorem quo_sim (a b : Int32) : fQuo a b = fQuoY a b := by
  unfold fQuo fQuoY
  by_cases hb : b = 0
  · rw [if_pos hb, if_pos hb]
    by_cases h0 : a = 0
    · subst h0
      decide
    · rw [if_neg h0]
      by_cases h1 : a ≤ 0
      · rw [if_pos h1, if_pos h1, if_neg]
        intro h2
        rw [Int32.le_iff_toInt_le] at h1 h2
        exact h0 (Int32.toInt_inj.mp (by rw [Int32.toInt_zero] at *; omega))
      · rw [if_neg h1, if_neg h1]
  · rw [if_neg hb, if_neg hb]
    exact fp1 a b hb
theorem chr_sim (b : Int32) : (b.toUInt32 % 65536).toInt32 = b &&& 65535 := by
  rw [pk_char, pk_and b (m := 65535) 16 (by decide)]
section RLS8
variable {F : XF} {ι : Nat → Nat} {c M : Nat}
theorem S_num {u : XS} {v : YS} {e : Nat} (h : Rl F u v ι c e) (he : e ≤ M) (k a b : Int32) : Rp F ι c M (sNum u k a b) (zNum v k a b) := by
  have hid : ∀ x y : Int32, x = y → Rp F ι c M (x, u) (y, v) := fun x y q => ⟨q, e, he, h⟩
  unfold sNum zNum
  by_cases k0 : k = 0
  · rw [if_pos k0, if_pos k0]
    exact go_sim (hid _ _ (fp0 a))
  rw [if_neg k0, if_neg k0]
  by_cases k1 : k = 1
  · rw [if_pos k1, if_pos k1]
    exact go_sim (hid _ _ (quo_sim a b))
  rw [if_neg k1, if_neg k1]
  by_cases k2 : k = 2
  · rw [if_pos k2, if_pos k2, chr_sim]
    exact go_sim (hid _ _ rfl)
  rw [if_neg k2, if_neg k2]
  by_cases k3 : k = 3
  · rw [if_pos k3, if_pos k3]
    exact go_sim (hid _ _ rfl)
  rw [if_neg k3, if_neg k3]
  by_cases k4 : k = 4
  · rw [if_pos k4, if_pos k4]
    by_cases hb : b = 0
    · rw [if_pos hb, if_pos hb]
      exact ⟨rfl, e, he, h⟩
    · rw [if_neg hb, if_neg hb]
      exact go_sim (hid _ _ rfl)
  rw [if_neg k4, if_neg k4]
  by_cases k5 : k = 5
  · rw [if_pos k5, if_pos k5]
    exact go_sim (hid _ _ rfl)
  rw [if_neg k5, if_neg k5]
  by_cases k6 : k = 6
  · rw [if_pos k6, if_pos k6]
    exact go_sim (hid _ _ rfl)
  rw [if_neg k6, if_neg k6]
  by_cases k7 : k = 7
  · rw [if_pos k7, if_pos k7]
    refine go_sim (hid _ _ ?_)
    by_cases q : lg_cmp (fRnd a) (fRnd b) = 0
    · rw [if_pos q, if_pos ((fp7 a b).mpr q)]
    · rw [if_neg q, if_neg (fun z => q ((fp7 a b).mp z))]
  rw [if_neg k7, if_neg k7]
  by_cases k8 : k = 8
  · rw [if_pos k8, if_pos k8]
    exact go_sim (hid _ _ (fp8 a))
  rw [if_neg k8, if_neg k8]
  by_cases k9 : k = 9
  · rw [if_pos k9, if_pos k9]
    exact go_sim (hid _ _ (by rw [dec_sim a, dec_sim b]))
  rw [if_neg k9, if_neg k9]
  exact ⟨rfl, e, he, h⟩
/-- a call on both sides: the same answer, states alike, at most one thing and five events more -/
def Qs (F : XF) (c e : Nat) (p : Int32 × XS) (q : Int32 × YS) : Prop := p.1 = q.1 ∧ ∃ (ι : Nat → Nat) (c' e' : Nat), c' ≤ c + 1 ∧ e' ≤ e + 5 ∧ Rl F p.2 q.2 ι c' e'
theorem Rp.q {e : Nat} {p : Int32 × XS} {q : Int32 × YS} (h : Rp F ι c (e + 5) p q) : Qs F c e p q := ⟨h.1, ι, c, h.2.choose, by omega, h.2.choose_spec.1, h.2.choose_spec.2⟩
theorem Qs.of {e : Nat} {p : Int32 × XS} {q : Int32 × YS} (h : p.1 = q.1 ∧ Rl F p.2 q.2 ι c e) : Qs F c e p q := ⟨h.1, ι, c, e, by omega, by omega, h.2⟩
variable {u : XS} {v : YS} {e : Nat}
theorem Q_drop (h : Rl F u v ι c e) (a : Int32) : Qs F c e (sDrop u a) (zDrop v a) := Qs.of (S_drop h a)
theorem Q_probe (h : Rl F u v ι c e) (a y m x w : Int32) : Qs F c e (sProbe u a y m x w) (zProbe v a y m x w) := Qs.of (S_probe h a y m x w)
theorem Q_value (h : Rl F u v ι c e) : Qs F c e (gvl u, u) (yv v, v) := Qs.of ⟨S_value h, h⟩
theorem Q_events (h : Rl F u v ι c e) : Qs F c e (gec u, u) (yo v, v) := Qs.of ⟨S_events h, h⟩
theorem Q_event (h : Rl F u v ι c e) (he : e < 2 ^ 30) (i : Int32) : Qs F c e (sEv u i) (zEv v i) := Qs.of ⟨(S_event h he i).1, by rw [(S_event h he i).2.1, (S_event h he i).2.2]; exact h⟩
theorem Q_is (h : Rl F u v ι c e) (a y : Int32) : Qs F c e (sIs u a y) (zIs v a y) := Qs.of ⟨S_is h a y, h⟩
theorem Q_same (h : Rl F u v ι c e) (a y : Int32) : Qs F c e (sSame u a y) (zSame v a y) := Qs.of ⟨S_same h a y, h⟩
theorem Q_store (h : Rl F u v ι c e) (r p a : Int32) : Qs F c e (sStore u r p a) (zStore v r p a) := Qs.of (S_store h r p a)
theorem Q_load (h : Rl F u v ι c e) (r p a : Int32) : Qs F c e (sLoad u r p a) (zLoad v r p a) := Qs.of (S_load h r p a)
theorem Q_compare (h : Rl F u v ι c e) (a b : Int32) : Qs F c e (sComp u a b) (zComp v a b) := Qs.of (S_comp h a b)
theorem Q_copy (h : Rl F u v ι c e) (f a t w n : Int32) : Qs F c e (sCopy u f a t w n) (zCopy v f a t w n) := (S_copy (M := e + 5) h (by omega) f a t w n).q
theorem Q_flow (h : Rl F u v ι c e) (he : e + 5 < 2 ^ 30) (k a b : Int32) : Qs F c e (sFlow u k a b) (zFlow v k a b) := (S_flow (M := e + 5) he (Nat.le_refl _) h k a b).q
theorem Q_number (h : Rl F u v ι c e) (k a b : Int32) : Qs F c e (sNum u k a b) (zNum v k a b) := (S_num (M := e + 5) h (by omega) k a b).q
theorem Q_make (h : Rl F u v ι c e) (hc : c + 1 < 519) (he : e + 2 < 2 ^ 30) {a k n r : Int32} {u' : XS} (hm : rMake F u a k n r u') : Qs F c e (r, u') (zMake v a k n) := by
  obtain ⟨h1, i2, c2, e2, h2, h3, h4⟩ := S_make h hc he hm
  exact ⟨h1, i2, c2, e2, h2, by omega, h4⟩
theorem Rl.th (h : Rl F u v ι c e) : vp_in (yt v + 1) 520 := by
  rw [h.2.1.1, nI_1]
  have := h.2.1.2.2.1
  exact vp_in_nI (by omega) (by decide)
end RLS8
