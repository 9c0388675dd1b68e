/-! the two states side by side -/
def cod (ι : Nat → Nat) (o : Option Nat) : Int32 := match o with
  | none => 0
  | some q => nI (ι q)
def mbV (k : Nat) : Int32 := [131, 135, 135, 1915, 2943, 895, 2943, 1027, 135].getD k 0
def RTg (T : Nat → TH) (L : List Nat) (k n i : Nat → Int32) (ι : Nat → Nat) (a : Nat) : Prop := k (ι a) = (T a).1 ∧ ((T a).1 = 8 → ∃ b d : Nat, (T a).2.2.1 = some b ∧ b ∈ L ∧ i (ι a) = nI (ι b) ∧ (T b).2.2.2.1 = nI d ∧ d ≤ 2 ∧ (T a).2.2.2.1 = nI (d + 1)) ∧
  (¬ (T a).1 = 8 → n (ι a) = (T a).2.1 ∧ (T a).2.2.1 = none ∧ (T a).2.2.2.1 = 0) ∧ ((T a).1 = 0 → (T a).2.2.2.2.1 = 4) ∧ ((T a).1 = 9 → (T a).2.2.2.2.2 = (T a).2.1 + 1) ∧ ((T a).1 = 4 → (T a).2.1 = 2) ∧ ((T a).1 = 5 → (T a).2.1 = 9)
def RT (u : XS) (v : YS) (ι : Nat → Nat) (a : Nat) : Prop := RTg (gT u) (gL u) (yk v) (yn v) (yi v) ι a
/-- things: numbered 1 .. c -/
def RA (F : XF) (u : XS) (v : YS) (ι : Nat → Nat) (c : Nat) : Prop := (∀ a, a ∈ gL u → 1 ≤ ι a ∧ ι a ≤ c) ∧ (∀ a, a ∈ gL u → ∀ b, b ∈ gL u → ι a = ι b → a = b) ∧ (∀ j, 1 ≤ j → j ≤ c → ∃ a, a ∈ gL u ∧ ι a = j) ∧ ι F.2.1 = 1 ∧ ι F.2.2.1 = 2 ∧ (∀ a, a ∈ gL u → RT u v ι a)
def RE (u : XS) (v : YS) (e : Nat) : Prop := yo v = gec u ∧ gec u = nI e ∧ ∀ j, j < 16 → j < e → ye v j = gE u ((e - 1 - j) % 16)
def RF (v : YS) (c : Nat) : Prop := yt v = nI c ∧ 2 ≤ c ∧ c < 519 ∧ yk v 0 = 0 ∧ (∀ j, c < j → yk v j = 0) ∧ (∀ j, j < 10 → yy v j = tokV j) ∧ (∀ j, j < 9 → ym v j = mbV j) ∧ ∀ i, vp_in (yd v i) 520
def RS (u : XS) (v : YS) (ι : Nat → Nat) : Prop := (∀ i, ys v i = cod ι (gS u i)) ∧ (∀ i, yr v i = cod ι (gP u i))
def RC (u : XS) (v : YS) : Prop := yc v = gsc u ∧ yv v = gvl u
def Rl (F : XF) (u : XS) (v : YS) (ι : Nat → Nat) (c e : Nat) : Prop := xOk F u ∧ RF v c ∧ RA F u v ι c ∧ RS u v ι ∧ RC u v ∧ RE u v e
-- parts that only speak of some of the state
theorem Rl.setV {F : XF} {u : XS} {v : YS} {ι : Nat → Nat} {c e : Nat} (h : Rl F u v ι c e) (x : Int32) : Rl F (uV u x) (zV v x) ι c e := ⟨h.1, h.2.1, h.2.2.1, h.2.2.2.1, ⟨h.2.2.2.2.1.1, rfl⟩, h.2.2.2.2.2⟩
theorem Rl.setC {F : XF} {u : XS} {v : YS} {ι : Nat → Nat} {c e : Nat} (h : Rl F u v ι c e) (x : Int32) : Rl F (uC u x) (zC v x) ι c e := ⟨h.1, h.2.1, h.2.2.1, h.2.2.2.1, ⟨rfl, h.2.2.2.2.1.2⟩, h.2.2.2.2.2⟩
theorem Rl.note {F : XF} {u : XS} {v : YS} {ι : Nat → Nat} {c e : Nat} (h : Rl F u v ι c e) (he : e < 2 ^ 30) (x : Int32) : Rl F (uN u x) (zN v x) ι c (e + 1) := by
  obtain ⟨h1, h2, h3, h4, h5, h6, h7, h8⟩ := h
  refine ⟨h1, h2, h3, h4, h5, ?_, ?_, fun j hj hje => ?_⟩
  · show yo v + 1 = gec u + 1
    rw [h6]
  · show gec u + 1 = nI (e + 1)
    rw [h7, nI_1]
  · show yShift (ye v) x j = upd (gE u) (gec u &&& 15).toNatClampNeg x ((e + 1 - 1 - j) % 16)
    have hi : (gec u &&& 15).toNatClampNeg = e % 16 := by
      rw [h7, pk_andN (by omega) 4 (by decide)]
      exact nI_clamp (by omega)
    rw [hi]
    unfold yShift upd
    by_cases hj0 : j = 0
    · subst hj0
      simp
    · rw [if_neg hj0, if_pos hj, if_neg (by omega), h8 (j - 1) (by omega) (by omega)]
      congr 1
      omega
theorem nI_inj {a b : Nat} (ha : a < 2 ^ 31) (hb : b < 2 ^ 31) (h : nI a = nI b) : a = b := (nI_eq ha hb).mp h
theorem isB_fIn {x : Int32} {a b : Int32} (h : b.toInt + 1 = a.toInt) : isB x a = fIn x 0 b := by
  have e : (a ≤ x) ↔ (b < x) := by rw [Int32.le_iff_toInt_le, Int32.lt_iff_toInt_lt]; omega
  unfold isB fIn
  simp only [e]
theorem B8 (x : Int32) : isB x 8 = fIn x 0 7 := isB_fIn (by decide)
theorem B9 (x : Int32) : isB x 9 = fIn x 0 8 := isB_fIn (by decide)
theorem B10 (x : Int32) : isB x 10 = fIn x 0 9 := isB_fIn (by decide)
theorem B12 (x : Int32) : isB x 12 = fIn x 0 11 := isB_fIn (by decide)
theorem B4 (x : Int32) : isB x 4 = fIn x 0 3 := isB_fIn (by decide)
theorem B16 (x : Int32) : isB x 16 = fIn x 0 15 := isB_fIn (by decide)
-- the tables
theorem tab_of : ∀ k, k < 10 → ∀ y, y < 9 → fHold (tokV k) (nI y) = !decide (((tokV k >>> (nI y &&& 31)) &&& 1) = 0) := by decide +kernel
theorem tab_mb : ∀ m, m < 12 → ∀ y, y < 9 → fHold (memV m) (nI y) = !decide (((mbV y >>> (nI m &&& 31)) &&& 1) = 0) := by decide +kernel
theorem pos_nI {j : Nat} (h : 1 ≤ j) (h2 : j < 2 ^ 31) : ¬ nI j ≤ 0 := nI_nle (by omega) h2
section RLS
variable {F : XF} {u : XS} {v : YS} {ι : Nat → Nat} {c e : Nat}
theorem Rl.id (h : Rl F u v ι c e) {a : Nat} (ha : a ∈ gL u) : 1 ≤ ι a ∧ ι a ≤ c ∧ ι a < 519 := by
  have h1 := h.2.2.1.1 a ha
  have h2 := h.2.1.2.2.1
  exact ⟨h1.1, h1.2, by omega⟩
theorem Rl.cl (h : Rl F u v ι c e) {a : Nat} (ha : a ∈ gL u) : (nI (ι a)).toNatClampNeg = ι a := nI_clamp (by have := h.id ha; omega)
theorem Rl.kd (h : Rl F u v ι c e) {a : Nat} (ha : a ∈ gL u) : yk v (ι a) = (gT u a).1 := (h.2.2.1.2.2.2.2.2 a ha).1
theorem Rl.kr (h : Rl F u v ι c e) {a : Nat} (ha : a ∈ gL u) : ∃ k : Nat, k < 10 ∧ (gT u a).1 = nI k := vp_in_of (isB_in10 (h.1.2.2.2.2.1 a ha)) (by decide)
/-- a thing is of a type -/
theorem Rl.of (h : Rl F u v ι c e) {a : Nat} (ha : a ∈ gL u) {y : Int32} (hy : isB y 9 = true) : fOf v (nI (ι a)) y = fIs (gT u a) y := by
  obtain ⟨k, hk, ek⟩ := h.kr ha
  obtain ⟨j, hj, rfl⟩ := vp_in_of (isB_in9 hy) (by decide)
  have h1 := h.id ha
  unfold fOf fIs
  rw [h.cl ha, h.kd ha, ek, nI_clamp (by omega), h.2.1.2.2.2.2.2.1 k hk, tab_of k hk j hj, decide_eq_false (pos_nI h1.1 (by omega))]
  simp
theorem Rl.s0 (h : Rl F u v ι c e) {i : Nat} (hs : gS u i = none) : ys v i = 0 := by rw [h.2.2.2.1.1 i, hs]; rfl
theorem Rl.s1 (h : Rl F u v ι c e) {i q : Nat} (hs : gS u i = some q) : ys v i = nI (ι q) ∧ q ∈ gL u ∧ ¬ ys v i = 0 := by
  have hm := h.1.1 i q hs
  have e1 : ys v i = nI (ι q) := by rw [h.2.2.2.1.1 i, hs]; rfl
  have h1 := h.id hm
  exact ⟨e1, hm, by rw [e1]; exact nI_ne0 (by omega) (by omega)⟩
theorem cod_inj (h : Rl F u v ι c e) {o r : Option Nat} (ho : ∀ q, o = some q → q ∈ gL u) (hr : ∀ q, r = some q → q ∈ gL u) : cod ι o = cod ι r ↔ o = r := by
  constructor
  · intro q
    cases o with
    | none => cases r with
      | none => rfl
      | some b =>
        have h1 := h.id (hr b rfl)
        exact absurd q.symm (nI_ne0 (by omega) (by omega))
    | some a => cases r with
      | none =>
        have h1 := h.id (ho a rfl)
        exact absurd q (nI_ne0 (by omega) (by omega))
      | some b =>
        have h1 := h.id (ho a rfl)
        have h2 := h.id (hr b rfl)
        have h3 := nI_inj (by omega) (by omega) (show nI (ι a) = nI (ι b) from q)
        rw [h.2.2.1.2.1 a (ho a rfl) b (hr b rfl) h3]
  · intro q
    rw [q]
/-! the simple calls -/
theorem S_value (h : Rl F u v ι c e) : gvl u = yv v := h.2.2.2.2.1.2.symm
theorem S_events (h : Rl F u v ι c e) : gec u = yo v := h.2.2.2.2.2.1.symm
theorem S_event (h : Rl F u v ι c e) (he : e < 2 ^ 30) (i : Int32) : (sEv u i).1 = (zEv v i).1 ∧ (sEv u i).2 = u ∧ (zEv v i).2 = v := by
  unfold sEv zEv
  rw [B16]
  cases hb : fIn i 0 15
  · simp
  · rw [← B16] at hb
    obtain ⟨j, hj, rfl⟩ := vp_in_of (isB_in16 hb) (by decide)
    obtain ⟨h6, h7, h8⟩ := h.2.2.2.2.2
    simp only [if_true]
    rw [h6, h7]
    by_cases hje : j < e
    · rw [if_pos (nI_lt hje (by omega)), if_neg (nI_ge hje (by omega))]
      refine ⟨?_, rfl, rfl⟩
      show gE u _ = ye v _
      rw [nI_clamp (by omega), h8 j hj hje]
      congr 1
      have e1 : nI e - 1 - nI j = nI (e - 1 - j) := by
        rw [show nI e - 1 = nI (e - 1) from by rw [show e = (e - 1) + 1 by omega, nI_pred]; rfl, pk_sub (by omega)]
      rw [e1, pk_andN (by omega) 4 (by decide), nI_clamp (by omega)]
    · rw [if_neg (nI_nlt (by omega) (by omega)), if_pos (nI_le (by omega) (by omega))]
      exact ⟨rfl, rfl, rfl⟩
theorem S_is (h : Rl F u v ι c e) (a y : Int32) : (sIs u a y).1 = (zIs v a y).1 := by
  unfold sIs zIs
  rw [B8, B9]
  show bI _ = bI _
  congr 1
  cases hy : fIn y 0 8
  · simp
  · rw [← B9] at hy
    cases hs : gS u a.toNatClampNeg with
    | none => simp [h.s0 hs, fOf]
    | some q =>
      obtain ⟨e1, hm, -⟩ := h.s1 hs
      rw [e1, h.of hm hy]
theorem S_same (h : Rl F u v ι c e) (a b : Int32) : (sSame u a b).1 = (zSame v a b).1 := by
  unfold sSame zSame
  rw [B8, B8]
  show bI _ = bI _
  congr 2
  congr 1
  rw [h.2.2.2.1.1, h.2.2.2.1.1]
  exact decide_eq_decide.mpr (cod_inj h (h.1.1 _) (h.1.1 _)).symm
end RLS
