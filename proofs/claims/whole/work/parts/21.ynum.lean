def fHeld (v : Int64) : Int32 := if lg_cmp v 2147483647 ≤ 0 then (if 0 ≤ lg_cmp v (-2147483648) then v.toInt32 else -2147483648) else 2147483647
def fQuoY (a b : Int32) : Int32 := if b = 0 then (if a ≤ 0 then (if 0 ≤ a then 0 else -2147483648) else 2147483647) else fHeld (a.toInt64 / b.toInt64)
def fMag (a : Int32) : Int64 := if 0 ≤ a then a.toInt64 else -a.toInt64
def fDigY : Nat → Int64 → Int32 → Int32
  | 0, _, k => k
  | n + 1, m, k => if lg_cmp m 9 ≤ 0 then k else fDigY n (m / 10) (k + 1)
def fDecY (a : Int32) : Int32 := fDigY 9 (fMag a) (if 0 ≤ a then 1 else 2)
def fRu (m : Int64) : Int64 := if lg_cmp (m / 1) 16777216 < 0 then 1 else if lg_cmp (m / 2) 16777216 < 0 then 2 else if lg_cmp (m / 4) 16777216 < 0 then 4 else if lg_cmp (m / 8) 16777216 < 0 then 8 else if lg_cmp (m / 16) 16777216 < 0 then 16 else if lg_cmp (m / 32) 16777216 < 0 then 32 else if lg_cmp (m / 64) 16777216 < 0 then 64 else if lg_cmp (m / 128) 16777216 < 0 then 128 else 256
def fRl (m u : Int64) : Int64 := if 0 < lg_cmp (2 * (m - m / u * u)) u then m / u * u + u else if lg_cmp (2 * (m - m / u * u)) u = 0 then (if lg_cmp (m / u - m / u / 2 * 2) 1 = 0 then m / u * u + u else m / u * u) else m / u * u
def fRnd (a : Int32) : Int64 := if 0 ≤ a then fRl (fMag a) (fRu (fMag a)) else -(fRl (fMag a) (fRu (fMag a)))
def zGiv (v : YS) (x : Int32) : Int32 × YS := (0, zV v x)
def zNum (v : YS) (k a b : Int32) : Int32 × YS := if k = 0 then zSet (fHeld (fRnd a), v) else if k = 1 then zSet (fQuoY a b, v) else if k = 2 then zSet (a.toInt8.toInt32 * (b &&& 65535), v) else if k = 3 then zSet ((a >>> (b &&& 31)) + (a.toUInt32 >>> (b.toUInt32 &&& Int32.toUInt32 31)).toInt32 + (a <<< (b &&& 31)), v) else if k = 4 then (if b = 0 then (5, v) else zSet (a - a / b * b, v)) else if k = 5 then zSet ((a.toInt16.toInt32 + b).toInt16.toInt32, v) else if k = 6 then zSet (((a.toInt64 * b.toInt64) >>> ((16 : Int32).toInt64 &&& 63)).toInt32, v) else if k = 7 then zSet ((if lg_cmp (fRnd a) (fRnd b) = 0 then 1 else 0), v) else if k = 8 then zSet ((a.toInt64 * 3 / 4).toInt32, v) else if k = 9 then zSet (fDecY a + 1 + fDecY b, v) else (-1, v)
theorem yshift_lit (e : Nat → Int32) (x : Int32) : yShift e x = upd (upd (upd (upd (upd (upd (upd (upd (upd (upd (upd (upd (upd (upd (upd (upd e 15 (e 14)) 14 (e 13)) 13 (e 12)) 12 (e 11)) 11 (e 10)) 10 (e 9)) 9 (e 8)) 8 (e 7)) 7 (e 6)) 6 (e 5)) 5 (e 4)) 4 (e 3)) 3 (e 2)) 2 (e 1)) 1 (e 0)) 0 x := by
  funext j
  match j with
  | 0 => rfl
  | 1 => rfl
  | 2 => rfl
  | 3 => rfl
  | 4 => rfl
  | 5 => rfl
  | 6 => rfl
  | 7 => rfl
  | 8 => rfl
  | 9 => rfl
  | 10 => rfl
  | 11 => rfl
  | 12 => rfl
  | 13 => rfl
  | 14 => rfl
  | 15 => rfl
  | n + 16 =>
    simp [yShift, upd]
    intro h
    omega
theorem mag_le (a : Int32) : 0 ≤ (fMag a).toInt ∧ (fMag a).toInt ≤ 2147483648 := by
  have h1 := a.toInt_lt
  have h2 := a.le_toInt
  unfold fMag
  have e : a.toInt64.toInt = a.toInt := Int32.toInt_toInt64 a
  split
  · rename_i h
    rw [Int32.le_iff_toInt_le, Int32.toInt_zero] at h
    omega
  · rename_i h
    rw [Int32.le_iff_toInt_le, Int32.toInt_zero] at h
    have e2 : (-a.toInt64).toInt = -a.toInt := by
      rw [Int64.toInt_neg, e]
      exact Int.bmod_eq_of_le (by omega) (by omega)
    omega
