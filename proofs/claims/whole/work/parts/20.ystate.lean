/-! the model's state, in words -/
/-- this; kind, n, inner, slot, row, third, types, members, event; the classes of the nine arrays -/
abbrev YF : Type := Nat × Nat × Nat × Nat × Nat × Nat × Nat × Nat × Nat × Nat × ClassId × ClassId × ClassId × ClassId × ClassId × ClassId × ClassId × ClassId × ClassId
/-- kind, n, inner; things; slot, row, third, types, members; shadowCalls, value; event, events -/
abbrev YS : Type := (Nat → Int32) × (Nat → Int32) × (Nat → Int32) × Int32 × (Nat → Int32) × (Nat → Int32) × (Nat → Int32) × (Nat → Int32) × (Nat → Int32) × Int32 × Int32 × (Nat → Int32) × Int32
def yW (G : YF) (v : YS) : va_W := [(G.1, .inr (2, [.ref G.2.1, .ref G.2.2.1, .ref G.2.2.2.1, .int v.2.2.2.1, .ref G.2.2.2.2.1, .ref G.2.2.2.2.2.1, .ref G.2.2.2.2.2.2.1, .ref G.2.2.2.2.2.2.2.1, .ref G.2.2.2.2.2.2.2.2.1, .int v.2.2.2.2.2.2.2.2.2.1, .int v.2.2.2.2.2.2.2.2.2.2.1, .ref G.2.2.2.2.2.2.2.2.2.1, .int v.2.2.2.2.2.2.2.2.2.2.2.2])),
  (G.2.1, .inl (G.2.2.2.2.2.2.2.2.2.2.1, 520, .inl v.1)), (G.2.2.1, .inl (G.2.2.2.2.2.2.2.2.2.2.2.1, 520, .inl v.2.1)), (G.2.2.2.1, .inl (G.2.2.2.2.2.2.2.2.2.2.2.2.1, 520, .inl v.2.2.1)), (G.2.2.2.2.1, .inl (G.2.2.2.2.2.2.2.2.2.2.2.2.2.1, 8, .inl v.2.2.2.2.1)), (G.2.2.2.2.2.1, .inl (G.2.2.2.2.2.2.2.2.2.2.2.2.2.2.1, 16, .inl v.2.2.2.2.2.1)), (G.2.2.2.2.2.2.1, .inl (G.2.2.2.2.2.2.2.2.2.2.2.2.2.2.2.1, 4, .inl v.2.2.2.2.2.2.1)), (G.2.2.2.2.2.2.2.1, .inl (G.2.2.2.2.2.2.2.2.2.2.2.2.2.2.2.2.1, 10, .inl v.2.2.2.2.2.2.2.1)), (G.2.2.2.2.2.2.2.2.1, .inl (G.2.2.2.2.2.2.2.2.2.2.2.2.2.2.2.2.2.1, 9, .inl v.2.2.2.2.2.2.2.2.1)), (G.2.2.2.2.2.2.2.2.2.1, .inl (G.2.2.2.2.2.2.2.2.2.2.2.2.2.2.2.2.2.2, 16, .inl v.2.2.2.2.2.2.2.2.2.2.2.1))]
def yTy (G : YF) : List (ClassId × FieldType) := [(G.2.2.2.2.2.2.2.2.2.2.1, .int), (G.2.2.2.2.2.2.2.2.2.2.2.1, .int), (G.2.2.2.2.2.2.2.2.2.2.2.2.1, .int), (G.2.2.2.2.2.2.2.2.2.2.2.2.2.1, .int), (G.2.2.2.2.2.2.2.2.2.2.2.2.2.2.1, .int), (G.2.2.2.2.2.2.2.2.2.2.2.2.2.2.2.1, .int), (G.2.2.2.2.2.2.2.2.2.2.2.2.2.2.2.2.1, .int), (G.2.2.2.2.2.2.2.2.2.2.2.2.2.2.2.2.2.1, .int), (G.2.2.2.2.2.2.2.2.2.2.2.2.2.2.2.2.2.2, .int)]
abbrev yk (v : YS) : Nat → Int32 := v.1
abbrev yn (v : YS) : Nat → Int32 := v.2.1
abbrev yi (v : YS) : Nat → Int32 := v.2.2.1
abbrev yt (v : YS) : Int32 := v.2.2.2.1
abbrev ys (v : YS) : Nat → Int32 := v.2.2.2.2.1
abbrev yr (v : YS) : Nat → Int32 := v.2.2.2.2.2.1
abbrev yd (v : YS) : Nat → Int32 := v.2.2.2.2.2.2.1
abbrev yy (v : YS) : Nat → Int32 := v.2.2.2.2.2.2.2.1
abbrev ym (v : YS) : Nat → Int32 := v.2.2.2.2.2.2.2.2.1
abbrev yc (v : YS) : Int32 := v.2.2.2.2.2.2.2.2.2.1
abbrev yv (v : YS) : Int32 := v.2.2.2.2.2.2.2.2.2.2.1
abbrev ye (v : YS) : Nat → Int32 := v.2.2.2.2.2.2.2.2.2.2.2.1
abbrev yo (v : YS) : Int32 := v.2.2.2.2.2.2.2.2.2.2.2.2
/-- a chain of at most d repeaters, all within the tables -/
def yC (k i : Nat → Int32) : Nat → Int32 → Prop
  | 0, t => vp_in t 520 ∧ ¬ k t.toNatClampNeg = 8
  | d + 1, t => vp_in t 520 ∧ (k t.toNatClampNeg = 8 → yC k i d (i t.toNatClampNeg))
theorem yC.rg {k i : Nat → Int32} {d : Nat} {t : Int32} (h : yC k i d t) : vp_in t 520 := by
  cases d with
  | zero => exact h.1
  | succ d => exact h.1
/-- what always holds of the model's state -/
def yOk (v : YS) : Prop := (∀ j, vp_in (yk v j) 10) ∧ (∀ x, vp_in x 520 → yC (yk v) (yi v) 3 x) ∧ (∀ j, vp_in (ys v j) 520) ∧ (∀ j, vp_in (yr v j) 520) ∧ (∀ j, vp_in (yd v j) 520)
def yPc (D : va_G) (G : YF) (v : YS) (sz : Nat) (av : List Value) : Array Value → State → Prop := va_Pc av (fun U => U.heap.size = sz ∧ va_P D vwCl (yW G v) U.heap ∧ va_K D vwCl (yTy G) U ∧ va_D (fun _ => True) (yW G v))
def yB (D : va_G) (G : YF) (A : Nat → Prop) (v : YS) (t : State) : Prop := va_P D vwCl (yW G v) t.heap ∧ va_K D vwCl (yTy G) t ∧ va_D A (yW G v)
theorem yPre {D : va_G} {G : YF} {v : YS} {s : State} {A : Nat → Prop} {H : Heap} (hK : va_K D vwCl (yTy G) s) (hP : va_P D vwCl (yW G v) H) (hD : va_D A (yW G v)) (As : List Value) :
    PreV s H RY G.1 (yPc D G v H.size (.ref G.1 :: As)) As := by
  refine ⟨fun a U g mk q => ?_, va_recv hK hP (ci := 2) (q0 := 0) rfl rfl, fun U hU hW => ⟨rfl, by rw [hU], by rw [hU]; exact hP, va_K.moved hW.alike hK, hD.weaken (fun _ _ _ _ => trivial)⟩⟩
  obtain ⟨q0, q1, qP, qK, qD⟩ := q
  exact ⟨q0, q1, qP, va_K.moved (u := U) (U := U.calling g mk a) (Vm.Alike.refl U.vm) qK, qD⟩
/-! what each method of the model answers and does -/
def fIn (x a b : Int32) : Bool := !decide (x < a) && !decide (b < x)
theorem fIn_in {x : Int32} {n : Nat} {b : Int32} (hb : b.toInt + 1 = n) (h : fIn x 0 b = true) : vp_in x n := by
  simp only [fIn, Bool.and_eq_true, Bool.not_eq_true', decide_eq_false_iff_not] at h
  rw [vp_in_iff]
  obtain ⟨h1, h2⟩ := h
  rw [Int32.lt_iff_toInt_lt] at h1 h2
  rw [Int32.toInt_zero] at h1
  omega
theorem fIn_in7 {x : Int32} (h : fIn x 0 7 = true) : vp_in x 8 := fIn_in (by decide) h
theorem fIn_in8 {x : Int32} (h : fIn x 0 8 = true) : vp_in x 9 := fIn_in (by decide) h
theorem fIn_in3 {x : Int32} (h : fIn x 0 3 = true) : vp_in x 4 := fIn_in (by decide) h
theorem fIn_in9 {x : Int32} (h : fIn x 0 9 = true) : vp_in x 10 := fIn_in (by decide) h
theorem fIn_in15 {x : Int32} (h : fIn x 0 15 = true) : vp_in x 16 := fIn_in (by decide) h
theorem rngR {r p : Int32} (h0 : vp_in r 4) (h1 : vp_in p 4) : vp_in (4 * r + p) 16 := by
  obtain ⟨j, hj, rfl⟩ := vp_in_of h0 (by decide)
  obtain ⟨k, hk, rfl⟩ := vp_in_of h1 (by decide)
  show vp_in (nI 4 * nI j + nI k) 16
  rw [pk_mul, nI_add]
  exact vp_in_nI (by omega) (by decide)
def yShift (e : Nat → Int32) (x : Int32) : Nat → Int32 := fun j => if j = 0 then x else if j < 16 then e (j - 1) else e j
def zE (v : YS) (e : Nat → Int32) (o : Int32) : YS := (v.1, v.2.1, v.2.2.1, v.2.2.2.1, v.2.2.2.2.1, v.2.2.2.2.2.1, v.2.2.2.2.2.2.1, v.2.2.2.2.2.2.2.1, v.2.2.2.2.2.2.2.2.1, v.2.2.2.2.2.2.2.2.2.1, v.2.2.2.2.2.2.2.2.2.2.1, e, o)
def zN (v : YS) (x : Int32) : YS := zE v (yShift (ye v) x) (yo v + 1)
def zV (v : YS) (x : Int32) : YS := (v.1, v.2.1, v.2.2.1, v.2.2.2.1, v.2.2.2.2.1, v.2.2.2.2.2.1, v.2.2.2.2.2.2.1, v.2.2.2.2.2.2.2.1, v.2.2.2.2.2.2.2.2.1, v.2.2.2.2.2.2.2.2.2.1, x, v.2.2.2.2.2.2.2.2.2.2.2)
def zC (v : YS) (x : Int32) : YS := (v.1, v.2.1, v.2.2.1, v.2.2.2.1, v.2.2.2.2.1, v.2.2.2.2.2.1, v.2.2.2.2.2.2.1, v.2.2.2.2.2.2.2.1, v.2.2.2.2.2.2.2.2.1, x, v.2.2.2.2.2.2.2.2.2.2)
def zS (v : YS) (f : Nat → Int32) : YS := (v.1, v.2.1, v.2.2.1, v.2.2.2.1, f, v.2.2.2.2.2)
def zR (v : YS) (f : Nat → Int32) : YS := (v.1, v.2.1, v.2.2.1, v.2.2.2.1, v.2.2.2.2.1, f, v.2.2.2.2.2.2)
def zD (v : YS) (f : Nat → Int32) : YS := (v.1, v.2.1, v.2.2.1, v.2.2.2.1, v.2.2.2.2.1, v.2.2.2.2.2.1, f, v.2.2.2.2.2.2.2)
def zNew (v : YS) (t k n i : Int32) : YS := (upd (yk v) t.toNatClampNeg k, upd (yn v) t.toNatClampNeg n, upd (yi v) t.toNatClampNeg i, t, v.2.2.2.2)
def fBits (a b c d : Int32) : Int32 := ((((1 : Int32) <<< (a &&& 31)) ||| ((1 : Int32) <<< (b &&& 31))) ||| ((1 : Int32) <<< (c &&& 31))) ||| ((1 : Int32) <<< (d &&& 31))
def fOf (v : YS) (t y : Int32) : Bool := !decide (t ≤ 0) && !decide (((yy v (yk v t.toNatClampNeg).toNatClampNeg >>> (y &&& 31)) &&& 1) = 0)
def fDep (k i : Nat → Int32) : Nat → Int32 → Int32 → Int32
  | 0, _, d => d
  | n + 1, t, d => if k t.toNatClampNeg = 8 then if t ≤ 0 then d else fDep k i n (i t.toNatClampNeg) (d + 1) else d
def yChase (k i : Nat → Int32) : Nat → Int32 → Int32
  | 0, t => t
  | n + 1, t => if k t.toNatClampNeg = 8 then yChase k i n (i t.toNatClampNeg) else t
def fYC (k n sc x : Int32) : Int32 × Int32 := if k = 0 then (x + n, sc) else if k = 1 then (x - n, sc) else if k = 2 then (2 * (x - n), sc) else if k = 4 then (x + 2, sc) else if k = 5 then (9 * x, sc) else if k = 6 then (x + n + (sc + 1), sc + 1) else if k = 7 then (x * n, sc) else if k = 9 then (x - n, sc) else (x, sc)
def zCall (v : YS) (t x : Int32) : Int32 × YS := ((fYC (yk v (yChase (yk v) (yi v) 3 t).toNatClampNeg) (yn v (yChase (yk v) (yi v) 3 t).toNatClampNeg) (yc v) x).1, zC v (fYC (yk v (yChase (yk v) (yi v) 3 t).toNatClampNeg) (yn v (yChase (yk v) (yi v) 3 t).toNatClampNeg) (yc v) x).2)
def zTw (v : YS) (t x : Int32) : Int32 × YS := if yk v t.toNatClampNeg = 0 ∨ yk v t.toNatClampNeg = 4 ∨ yk v t.toNatClampNeg = 5 then (2 * (zCall v t x).1, (zCall v t x).2) else if yk v t.toNatClampNeg = 1 ∨ yk v t.toNatClampNeg = 9 then ((zCall v t x).1 - 1, (zCall v t x).2) else if yk v t.toNatClampNeg = 2 then (3 * (zCall v t x).1 - 1, (zCall v t x).2) else zCall (zCall v t x).2 t (zCall v t x).1
def zVol (v : YS) (t x : Int32) : Int32 := if yk v t.toNatClampNeg = 2 then 3 * (x + 10) else if yk v t.toNatClampNeg = 1 then x - 10 else if yk v t.toNatClampNeg = 9 then x - 10 else x + 10
def zWgt (v : YS) (t : Int32) : Int32 := if yk v t.toNatClampNeg = 0 then 2 * yn v t.toNatClampNeg + 1 else if yk v t.toNatClampNeg = 1 then 3 * yn v t.toNatClampNeg else if yk v t.toNatClampNeg = 2 then 6 * yn v t.toNatClampNeg else 4 * yn v t.toNatClampNeg + 1
def zSeed (v : YS) (t : Int32) : Int32 := if yk v t.toNatClampNeg = 0 then 24 else if yk v t.toNatClampNeg = 2 then 30 + yn v t.toNatClampNeg else 1
def zAns (v : YS) (t y m x : Int32) : Int32 × YS := if m = 0 then zCall v t x else if m = 1 then zTw v t x else if m = 2 then (zVol v t x, v) else if m = 3 then (zWgt v t, v) else if m = 4 then (zWgt v t + 100, v) else if m = 5 then (x + 100, v) else if m = 6 then ((if y = 3 then 1 else if y = 4 then 2 else 3), v) else if m = 7 then ((if y = 0 then 5 else if y = 2 then 5 else 7), v) else if m = 8 then (x + (if y = 4 then 2 else if y = 6 then 6 else 1), v) else if m = 9 then (zSeed v t, v) else if m = 10 then (yn v t.toNatClampNeg, v) else if yk v t.toNatClampNeg = 0 then (2 * yn v t.toNatClampNeg, v) else (3 * yn v t.toNatClampNeg, v)
def zSet (v : Int32 × YS) : Int32 × YS := (0, zV v.2 v.1)
def zProbe (v : YS) (a y m x w : Int32) : Int32 × YS := if fIn a 0 7 = true then if fIn y 0 8 = true then if fIn m 0 11 = true then if fIn w 0 3 = true then if ((ym v y.toNatClampNeg >>> (m &&& 31)) &&& 1) = 0 then (-1, v) else
  if m = 7 then zSet (zAns v (ys v a.toNatClampNeg) y m x) else if m = 8 then zSet (zAns v (ys v a.toNatClampNeg) y m x) else if ys v a.toNatClampNeg = 0 then (2, v) else if fOf v (ys v a.toNatClampNeg) y = true then zSet (zAns v (ys v a.toNatClampNeg) y m x) else (1, v)
  else (-1, v) else (-1, v) else (-1, v) else (-1, v)
def zDrop (v : YS) (a : Int32) : Int32 × YS := if fIn a 0 7 = true then ((if ys v a.toNatClampNeg = 0 then 2 else 0), zS v (upd (ys v) a.toNatClampNeg 0)) else (-1, v)
def zIs (v : YS) (a y : Int32) : Int32 × YS := (bI (fIn a 0 7 && (fIn y 0 8 && fOf v (ys v a.toNatClampNeg) y)), v)
def zSame (v : YS) (a b : Int32) : Int32 × YS := (bI (fIn a 0 7 && (fIn b 0 7 && decide (ys v a.toNatClampNeg = ys v b.toNatClampNeg))), v)
def fRt (r : Int32) : Int32 := if r = 0 then 0 else if r = 1 then 3 else if r = 2 then 5 else 4
def fFits (v : YS) (t r : Int32) : Bool := decide (t = 0) || fOf v t (fRt r)
def zStore (v : YS) (r p a : Int32) : Int32 × YS := if fIn r 0 3 = true then if fIn a 0 7 = true then if fIn p 0 3 = true then if fFits v (ys v a.toNatClampNeg) r = true then (0, zR v (upd (yr v) (4 * r + p).toNatClampNeg (ys v a.toNatClampNeg))) else (3, v) else (4, v) else (-1, v) else (-1, v)
def zLoad (v : YS) (r p a : Int32) : Int32 × YS := if fIn r 0 3 = true then if fIn a 0 7 = true then if fIn p 0 3 = true then (0, zS v (upd (ys v) a.toNatClampNeg (yr v (4 * r + p).toNatClampNeg))) else (4, v) else (-1, v) else (-1, v)
def zComp (v : YS) (a b : Int32) : Int32 × YS := if fIn a 0 7 = true then if fIn b 0 7 = true then if ys v a.toNatClampNeg = 0 then (2, v) else if ys v b.toNatClampNeg = 0 then (2, v) else if fOf v (ys v a.toNatClampNeg) 3 = true then if fOf v (ys v b.toNatClampNeg) 3 = true then (0, zV v (if yn v (ys v b.toNatClampNeg).toNatClampNeg ≤ yn v (ys v a.toNatClampNeg).toNatClampNeg then (if yn v (ys v a.toNatClampNeg).toNatClampNeg ≤ yn v (ys v b.toNatClampNeg).toNatClampNeg then 0 else 1) else -1)) else (1, v) else (1, v) else (-1, v) else (-1, v)
def zTS (l e i : Int32) (k : Int32 → YS → Int32 × YS) (n : Int32) (v : YS) : Int32 × YS := if i = l then k n (zN v i) else if i = e then (n, zN v i) else k (n + 1) (zN v i)
def zTurn (v : YS) (a b : Int32) : Int32 × YS := zTS (a &&& 7) (b &&& 7) 1 (zTS (a &&& 7) (b &&& 7) 2 (zTS (a &&& 7) (b &&& 7) 3 (zTS (a &&& 7) (b &&& 7) 4 (zTS (a &&& 7) (b &&& 7) 5 (fun n v => (n, v)))))) 0 v
def zEnd (v : YS) (b f y : Int32) : Int32 × YS := if (b &&& 2) = 0 then (100 * f + y, zN v 20) else if f ≤ 0 then (100 * 4 + y, zN v 20) else (100 * f + (y + 1), zN v 20)
def zMid (v : YS) (b f : Int32) : Int32 × YS := if (b &&& 1) = 0 then zEnd (zN v 21) b f 0 else if f ≤ 0 then zEnd (zN v 21) b 3 0 else zEnd (zN v 21) b f 1
def zClose (v : YS) (a b : Int32) : Int32 × YS := if (a &&& 1) = 0 then (if (a &&& 2) = 0 then zMid (zN (zN (zN v 10) 11) 12) b 0 else zMid (zN (zN (zN v 10) 11) 12) b 2) else zEnd (zN (zN v 10) 11) b 1 0
def zFlow (v : YS) (k a b : Int32) : Int32 × YS := if k = 0 then zSet ((if b = 0 then -1 else a / b), zN v 1) else if k = 1 then zSet (zTurn v a b) else if k = 2 then zSet (zClose v a b) else if k = 3 then zSet ((if (b &&& 3) = 3 then -a else a + 2 * ((1 : Int32) <<< ((b &&& 3) &&& 31)) - 1), v) else if k = 4 then zSet (a + (a + 1) * b + b, v) else if k = 5 then (if a ≤ 1000 then if 0 ≤ a then if fIn b 0 (a - 1) = true then zSet (b * b, v) else (4, v) else (6, v) else (-1, v)) else if k = 6 then zSet ((if (a &&& 1) = 0 then 250809 else 72509), v) else (-1, v)
def zEv (v : YS) (i : Int32) : Int32 × YS := if fIn i 0 15 = true then if yo v ≤ i then (-1, v) else (ye v i.toNatClampNeg, v) else (-1, v)
