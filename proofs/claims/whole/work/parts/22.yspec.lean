def zFill (r d : Nat → Int32) (f : Int32) : Nat → Int32 := upd (upd (upd (upd d 0 (r (4 * f + 0).toNatClampNeg)) 1 (r (4 * f + 1).toNatClampNeg)) 2 (r (4 * f + 2).toNatClampNeg)) 3 (r (4 * f + 3).toNatClampNeg)
def zCp1 (n a t h i : Int32) (k : YS → Int32 × YS) (v : YS) : Int32 × YS := if n ≤ i then (0, v) else if fFits v (yd v (a + i).toNatClampNeg) t = true then k (zR v (upd (yr v) (4 * t + h + i).toNatClampNeg (yd v (a + i).toNatClampNeg))) else (3, v)
def zCp (n a t h : Int32) (v : YS) : Int32 × YS := zCp1 n a t h 0 (zCp1 n a t h 1 (zCp1 n a t h 2 (zCp1 n a t h 3 (fun v => (0, v))))) v
def zCopy (v : YS) (f a t h n : Int32) : Int32 × YS := if fIn f 0 3 = true then if fIn t 0 3 = true then if a < 0 then (4, v) else if h < 0 then (4, v) else if n < 0 then (4, v) else if 0 < lg_cmp (a.toInt64 + n.toInt64) 4 then (4, v) else if lg_cmp (h.toInt64 + n.toInt64) 4 ≤ 0 then zCp n a t h (zD v (zFill (yr v) (yd v) f)) else (4, v) else (-1, v) else (-1, v)
def zMk0 (v : YS) (s k n : Int32) : YS := zS (zNew v (yt v + 1) k n (ys v (n &&& 7).toNatClampNeg)) (upd (ys v) s.toNatClampNeg (yt v + 1))
def zMk1 (w : YS) (k : Int32) : YS := if k = 0 then zN w 20 else if fOf w (yt w) 3 = true then zN w (zSeed w (yt w)) else w
def zMk (v : YS) (s k n : Int32) : Int32 × YS := (0, if k = 9 then zN (zMk1 (zMk0 v s k n) k) (n + 1) else zMk1 (zMk0 v s k n) k)
def zMake (v : YS) (s k n : Int32) : Int32 × YS := if fIn s 0 7 = true then if fIn k 0 9 = true then if k = 4 then (0, zS v (upd (ys v) s.toNatClampNeg 1)) else if k = 5 then (0, zS v (upd (ys v) s.toNatClampNeg 2)) else if k = 8 then (if ys v (n &&& 7).toNatClampNeg = 0 then (2, v) else if fDep (yk v) (yi v) 4 (ys v (n &&& 7).toNatClampNeg) 0 = 3 then (-1, v) else zMk v s k n) else zMk v s k n else (-1, v) else (-1, v)
theorem lg_le {x y : Int64} : lg_cmp x y ≤ 0 ↔ x ≤ y := lg_cmp_le x y
theorem lg_lt {x y : Int64} : lg_cmp x y < 0 ↔ x < y := lg_cmp_lt x y
theorem ngt_of_le {x : Int32} (h : x ≤ 0) : ¬ 0 < x := by
  rw [Int32.le_iff_toInt_le, Int32.toInt_zero] at h
  rw [Int32.lt_iff_toInt_lt, Int32.toInt_zero]
  omega
theorem nz64 {x : Int32} (h : ¬ x = 0) : ¬ x.toInt64 = 0 := fun q => h (by
  have h1 : x.toInt64.toInt = (0 : Int64).toInt := by rw [q]
  rw [Int32.toInt_toInt64] at h1
  exact Int32.toInt_inj.mp (h1.trans (by decide)))
theorem mag_pos {a : Int32} (h : 0 ≤ a) : 0 ≤ (a.toInt64).toInt ∧ (a.toInt64).toInt ≤ 2147483648 := by
  have := mag_le a
  unfold fMag at this
  rw [if_pos h] at this
  exact this
theorem mag_neg {a : Int32} (h : ¬ 0 ≤ a) : 0 ≤ (-a.toInt64).toInt ∧ (-a.toInt64).toInt ≤ 2147483648 := by
  have := mag_le a
  unfold fMag at this
  rw [if_neg h] at this
  exact this
theorem lN_of {m : Int64} (h : 0 ≤ m.toInt ∧ m.toInt ≤ 2147483648) : ∃ j : Nat, j ≤ 2147483648 ∧ m = lN j := by
  obtain ⟨j, hj, rfl⟩ := pk_lOf (x := m) (by rw [Int64.lt_iff_toInt_lt, Int64.toInt_zero]; omega)
  rw [pk_lT hj] at h
  exact ⟨j, by omega, rfl⟩
theorem dec_stop (m : Int64) (h : 0 ≤ m.toInt ∧ m.toInt ≤ 2147483648) : lg_cmp (m / 10 / 10 / 10 / 10 / 10 / 10 / 10 / 10 / 10) 9 ≤ 0 := by
  rw [lg_le]
  obtain ⟨j, hj, rfl⟩ := lN_of h
  show lN j / lN 10 / lN 10 / lN 10 / lN 10 / lN 10 / lN 10 / lN 10 / lN 10 / lN 10 ≤ lN 9
  rw [pk_lDiv (by omega) (by decide) (by decide), pk_lDiv (by omega) (by decide) (by decide), pk_lDiv (by omega) (by decide) (by decide), pk_lDiv (by omega) (by decide) (by decide), pk_lDiv (by omega) (by decide) (by decide), pk_lDiv (by omega) (by decide) (by decide), pk_lDiv (by omega) (by decide) (by decide), pk_lDiv (by omega) (by decide) (by decide), pk_lDiv (by omega) (by decide) (by decide), pk_lLE (by omega) (by decide)]
  omega
theorem rnd_stop (m : Int64) (h : 0 ≤ m.toInt ∧ m.toInt ≤ 2147483648) : lg_cmp (m / 256) 16777216 < 0 := by
  rw [lg_lt]
  obtain ⟨j, hj, rfl⟩ := lN_of h
  show lN j / lN 256 < lN 16777216
  rw [pk_lDiv (by omega) (by decide) (by decide), pk_lLT (by omega) (by decide)]
  omega
theorem cpy_e {a n : Int32} (h1 : ¬ a < 0) (h2 : ¬ n < 0) (h3 : ¬ 0 < lg_cmp (a.toInt64 + n.toInt64) 4) : ∃ j k : Nat, a = nI j ∧ n = nI k ∧ j + k ≤ 4 := by
  obtain ⟨j, hj, rfl⟩ := nI_of h1
  obtain ⟨k, hk, rfl⟩ := nI_of h2
  refine ⟨j, k, rfl, rfl, ?_⟩
  rw [nI_l hj, nI_l hk, lN_add] at h3
  have h4 : lg_cmp (lN (j + k)) 4 ≤ 0 := by
    rw [Int32.lt_iff_toInt_lt, Int32.toInt_zero] at h3
    rw [Int32.le_iff_toInt_le, Int32.toInt_zero]
    omega
  rw [lg_le] at h4
  exact (pk_lLE (by omega) (by decide)).mp (show lN (j + k) ≤ lN 4 from h4)
theorem cpy_le {a n : Int32} (h1 : ¬ a < 0) (h2 : ¬ n < 0) (h3 : ¬ 0 < lg_cmp (a.toInt64 + n.toInt64) 4) : n ≤ 4 := by
  obtain ⟨j, k, -, rfl, h⟩ := cpy_e h1 h2 h3
  exact (show nI k ≤ nI 4 from nI_le (by omega) (by decide))
theorem cpy_rg (k : Nat) (hk : k < 4) {a n : Int32} (h1 : ¬ a < 0) (h2 : ¬ n < 0) (h3 : ¬ 0 < lg_cmp (a.toInt64 + n.toInt64) 4) {i : Int32} (hi : i = nI k) (h4 : ¬ n ≤ i) : vp_in (a + i) 4 := by
  subst hi
  obtain ⟨j, y, rfl, rfl, h⟩ := cpy_e h1 h2 h3
  have hy : k < y := by
    rcases Nat.lt_or_ge k y with q | q
    · exact q
    · exact absurd (nI_le q (by omega)) h4
  rw [nI_add]
  exact vp_in_nI (by omega) (by decide)
theorem cpy_rw (k : Nat) (hk : k < 4) {t a n : Int32} (h0 : vp_in t 4) (h1 : ¬ a < 0) (h2 : ¬ n < 0) (h3 : ¬ 0 < lg_cmp (a.toInt64 + n.toInt64) 4) {i : Int32} (hi : i = nI k) (h4 : ¬ n ≤ i) : vp_in (4 * t + a + i) 16 := by
  subst hi
  obtain ⟨z, hz, rfl⟩ := vp_in_of h0 (by decide)
  obtain ⟨j, y, rfl, rfl, h⟩ := cpy_e h1 h2 h3
  have hy : k < y := by
    rcases Nat.lt_or_ge k y with q | q
    · exact q
    · exact absurd (nI_le q (by omega)) h4
  show vp_in (nI 4 * nI z + nI j + nI k) 16
  rw [pk_mul, nI_add, nI_add]
  exact vp_in_nI (by omega) (by decide)
theorem yOk_D {v : YS} (h : yOk v) (j : Nat) (x : Int32) (hx : vp_in x 520) : yOk (zD v (upd (yd v) j x)) := by
  obtain ⟨h1, h2, h3, h4, h5⟩ := h
  refine ⟨h1, h2, h3, h4, fun i => ?_⟩
  show vp_in (upd (yd v) j x i) 520
  unfold upd
  split
  · exact hx
  · exact h5 i
theorem yOk_R {v : YS} (h : yOk v) (j : Nat) (x : Int32) (hx : vp_in x 520) : yOk (zR v (upd (yr v) j x)) := by
  obtain ⟨h1, h2, h3, h4, h5⟩ := h
  refine ⟨h1, h2, h3, fun i => ?_, h5⟩
  show vp_in (upd (yr v) j x i) 520
  unfold upd
  split
  · exact hx
  · exact h4 i
theorem yOk_S {v : YS} (h : yOk v) (j : Nat) (x : Int32) (hx : vp_in x 520) : yOk (zS v (upd (ys v) j x)) := by
  obtain ⟨h1, h2, h3, h4, h5⟩ := h
  refine ⟨h1, h2, fun i => ?_, h4, h5⟩
  show vp_in (upd (ys v) j x i) 520
  unfold upd
  split
  · exact hx
  · exact h3 i
