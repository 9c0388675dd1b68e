/-! what each method of the class answers and does, in words -/
def fStr (s n : Int32) : Bool := !decide (s < 0) && (!decide (n < 0) && (!decide (4 < n) && !decide ((4 - n) < s)))
def fHold (t y : Int32) : Bool := !decide ((t &&& ((1 : Int32) <<< (y &&& 31))) = 0)
def fMark (t : Int32) : Int32 := if t = 4 then 2 else if t = 5 then 3 else if t = 6 then 3 else 1
def fTone (t : Int32) : Int32 := if t = 1 then 7 else if t = 8 then 7 else 5
def fRank (t x : Int32) : Int32 := if t = 4 then x + 2 else if t = 6 then x + 6 else x + 1
def fFail (o f : Int32) : Int32 := if o = 0 then 100 * f else o + 1
def fWord (a w : Int32) : Int32 := if w = 0 then a + 1 else if w = 1 then a + 2 + 1 else if w = 2 then a + 4 + 2 + 1 else -a
def fPlace (p : Int32) : Int32 := (if p = 0 then 25 else 7) * 10000 + (if p = 1 then 25 else 8) * 100 + 9
def fQuo (a b : Int32) : Int32 := if b = 0 then (if a = 0 then 0 else if a ≤ 0 then -2147483648 else 2147483647) else FP.d2i (FP.ddiv (FP.i2d a) (FP.i2d b))
def fDig : Nat → Int32 → Int32 → Int32
  | 0, n, _ => n
  | k + 1, n, r => if r = 0 then n else fDig k (n + 1) (r / 10)
def fDec (x : Int32) : Int32 := fDig 9 (if 0 ≤ x then 1 else 2) (x / 10)
def fIs (t : TH) (y : Int32) : Bool := fHold (tokV t.1.toNatClampNeg) y
def fVol (t : TH) (x : Int32) : Int32 := if t.1 = 1 then x - 10 else if t.1 = 2 then (x + 10) * 3 else if t.1 = 9 then x - 10 else x + 10
def fWB (t : TH) : Int32 := 2 * t.2.1
def fWC (t : TH) : Int32 := 3 * t.2.1
def fWgt (t : TH) : Int32 := if t.1 = 0 then fWB t + 1 else if t.1 = 2 then 2 * fWC t else if t.1 = 9 then fWC t + t.2.2.2.2.2 else fWC t
def fSeed (t : TH) : Int32 := if t.1 = 0 then 20 + t.2.2.2.2.1 else if t.1 = 2 then 30 + t.2.1 else 1
-- the state's parts, changed
def uS (u : XS) (f : Nat → Option Nat) : XS := (f, u.2)
def uP (u : XS) (f : Nat → Option Nat) : XS := (u.1, f, u.2.2)
def uQ (u : XS) (f : Nat → Option Nat) : XS := (u.1, u.2.1, f, u.2.2.2)
def uN (u : XS) (k : Int32) : XS := (u.1, u.2.1, u.2.2.1, upd u.2.2.2.1 (u.2.2.2.2.1 &&& 15).toNatClampNeg k, u.2.2.2.2.1 + 1, u.2.2.2.2.2)
def uC (u : XS) (k : Int32) : XS := (u.1, u.2.1, u.2.2.1, u.2.2.2.1, u.2.2.2.2.1, k, u.2.2.2.2.2.2)
def uV (u : XS) (k : Int32) : XS := (u.1, u.2.1, u.2.2.1, u.2.2.2.1, u.2.2.2.2.1, u.2.2.2.2.2.1, k, u.2.2.2.2.2.2.2)
def uT (u : XS) (L : List Nat) (T : Nat → TH) : XS := (u.1, u.2.1, u.2.2.1, u.2.2.2.1, u.2.2.2.2.1, u.2.2.2.2.2.1, u.2.2.2.2.2.2.1, L, T)
abbrev gS (u : XS) : Nat → Option Nat := u.1
abbrev gP (u : XS) : Nat → Option Nat := u.2.1
abbrev gQ (u : XS) : Nat → Option Nat := u.2.2.1
abbrev gE (u : XS) : Nat → Int32 := u.2.2.2.1
abbrev gec (u : XS) : Int32 := u.2.2.2.2.1
abbrev gsc (u : XS) : Int32 := u.2.2.2.2.2.1
abbrev gvl (u : XS) : Int32 := u.2.2.2.2.2.2.1
abbrev gL (u : XS) : List Nat := u.2.2.2.2.2.2.2.1
abbrev gT (u : XS) : Nat → TH := u.2.2.2.2.2.2.2.2
def sWent (u : XS) (x : Int32) : Int32 × XS := (0, uV u x)
def chase (T : Nat → TH) : Nat → Nat → Nat
  | 0, a => a
  | n + 1, a => match (T a).2.2.1 with
    | none => a
    | some b => chase T n b
def fCall (t : TH) (sc x : Int32) : Int32 × Int32 := if t.1 = 0 then (x + t.2.1, sc) else if t.1 = 1 then (x - t.2.1, sc) else if t.1 = 2 then (2 * (x - t.2.1), sc) else if t.1 = 4 then (x + t.2.1, sc) else if t.1 = 5 then (x * t.2.1, sc) else if t.1 = 6 then (x + t.2.1 + (sc + 1), sc + 1) else if t.1 = 7 then (x * t.2.1, sc) else if t.1 = 9 then (x - t.2.1, sc) else (x, sc)
def sCall (u : XS) (a : Nat) (x : Int32) : Int32 × XS := ((fCall (gT u (chase (gT u) 3 a)) (gsc u) x).1, uC u (fCall (gT u (chase (gT u) 3 a)) (gsc u) x).2)
def sLoud (u : XS) (a : Nat) (x : Int32) : Int32 × XS := (2 * (sCall u a x).1, (sCall u a x).2)
def sSoft (u : XS) (a : Nat) (x : Int32) : Int32 × XS := ((sCall u a x).1 - 1, (sCall u a x).2)
def sTw (u : XS) (a : Nat) (x : Int32) : Int32 × XS := if (gT u a).1 = 0 then sLoud u a x else if (gT u a).1 = 1 then sSoft u a x else if (gT u a).1 = 2 then ((sLoud u a x).1 + (sSoft (sLoud u a x).2 a x).1, (sSoft (sLoud u a x).2 a x).2) else if (gT u a).1 = 4 then sLoud u a x else if (gT u a).1 = 5 then sLoud u a x else if (gT u a).1 = 9 then sSoft u a x else sCall (sCall u a x).2 a (sCall u a x).1
def sAns (u : XS) (a : Nat) (y m x : Int32) : Int32 × XS := if m = 0 then sCall u a x else if m = 1 then sTw u a x else if m = 2 then (fVol (gT u a) x, u) else if m = 3 then (fWgt (gT u a), u) else if m = 4 then (fWgt (gT u a) + 100 * fMark 3, u) else if m = 5 then (x + 100, u) else if m = 6 then (fMark y, u) else if m = 9 then (fSeed (gT u a), u) else if m = 10 then ((gT u a).2.1, u) else if y = 4 then (fWB (gT u a), u) else (fWC (gT u a), u)
def sProbe (u : XS) (a y m x w : Int32) : Int32 × XS := if isB a 8 = true then if isB y 9 = true then if isB m 12 = true then if isB w 4 = true then if fHold (memV m.toNatClampNeg) y = true then
  if m = 7 then (0, uV u (fTone y)) else if m = 8 then (0, uV u (fRank y x)) else (match gS u a.toNatClampNeg with
    | none => (2, u)
    | some q => if fIs (gT u q) y = true then (0, uV (sAns u q y m x).2 (sAns u q y m x).1) else (1, u)) else (-1, u) else (-1, u) else (-1, u) else (-1, u) else (-1, u)
def sDrop (u : XS) (a : Int32) : Int32 × XS := if isB a 8 = true then ((match gS u a.toNatClampNeg with | none => 2 | some _ => 0), uS u (va_up (gS u) a.toNatClampNeg none)) else (-1, u)
def sIs (u : XS) (a y : Int32) : Int32 × XS := (bI (isB a 8 && (isB y 9 && (match gS u a.toNatClampNeg with | none => false | some q => fIs (gT u q) y))), u)
def sSame (u : XS) (a b : Int32) : Int32 × XS := (bI (isB a 8 && (isB b 8 && decide (gS u a.toNatClampNeg = gS u b.toNatClampNeg))), u)
def fFit (u : XS) (r : Int32) (o : Option Nat) : Bool := match o with
  | none => true
  | some q => fIs (gT u q) (rowV r.toNatClampNeg)
def sPut (u : XS) (r p : Int32) (o : Option Nat) : Int32 × XS := if fFit u r o = true then (0, uP u (va_up (gP u) (r * 4 + p).toNatClampNeg o)) else (3, u)
theorem sPut_c {u v : XS} {r p k : Int32} {o : Option Nat} (h : (k, v) = sPut u r p o) : (k = 0 ∧ v = uP u (va_up (gP u) (r * 4 + p).toNatClampNeg o) ∧ fFit u r o = true) ∨ (k = 3 ∧ v = u ∧ fFit u r o = false) := by
  unfold sPut at h
  cases hf : fFit u r o
  · rw [hf] at h
    simp at h
    exact Or.inr ⟨h.1, h.2, rfl⟩
  · rw [hf] at h
    simp at h
    exact Or.inl ⟨h.1, h.2, rfl⟩
def sStore (u : XS) (r p a : Int32) : Int32 × XS := if isB r 4 = true then if isB a 8 = true then if isB p 4 = true then sPut u r p (gS u a.toNatClampNeg) else (4, u) else (-1, u) else (-1, u)
def sLoad (u : XS) (r p a : Int32) : Int32 × XS := if isB r 4 = true then if isB a 8 = true then if isB p 4 = true then (0, uS u (va_up (gS u) a.toNatClampNeg (gP u (r * 4 + p).toNatClampNeg))) else (4, u) else (-1, u) else (-1, u)
def cpA1 (P : Nat → Option Nat) (b n i : Int32) (k : (Nat → Option Nat) → (Nat → Option Nat)) (Q : Nat → Option Nat) : Nat → Option Nat := if n ≤ i then Q else k (va_up Q i.toNatClampNeg (P (b + i).toNatClampNeg))
def cpA (P : Nat → Option Nat) (b n : Int32) (Q : Nat → Option Nat) : Nat → Option Nat := cpA1 P b n 0 (cpA1 P b n 1 (cpA1 P b n 2 (cpA1 P b n 3 (fun Q => Q)))) Q
def cpB1 (n t h i : Int32) (k : XS → Int32 × XS) (u : XS) : Int32 × XS := if n ≤ i then (0, u) else if fFit u t (gQ u i.toNatClampNeg) = true then k (uP u (va_up (gP u) (t * 4 + (h + i)).toNatClampNeg (gQ u i.toNatClampNeg))) else (3, u)
def cpB (n t h : Int32) (u : XS) : Int32 × XS := cpB1 n t h 0 (cpB1 n t h 1 (cpB1 n t h 2 (cpB1 n t h 3 (fun u => (0, u))))) u
def sCopy (u : XS) (f a t h n : Int32) : Int32 × XS := if isB f 4 = true then if isB t 4 = true then if fStr a n = true then if fStr h n = true then cpB n t h (uQ u (cpA (gP u) (f * 4 + a) n (gQ u))) else (4, u) else (4, u) else (-1, u) else (-1, u)
def sComp (u : XS) (a b : Int32) : Int32 × XS := if isB a 8 = true then if isB b 8 = true then (match gS u a.toNatClampNeg, gS u b.toNatClampNeg with
    | none, _ => (2, u)
    | some _, none => (2, u)
    | some p, some q => if fIs (gT u p) 3 = true then if fIs (gT u q) 3 = true then (0, uV u (if (gT u q).2.1 ≤ (gT u p).2.1 then (if (gT u p).2.1 ≤ (gT u q).2.1 then 0 else 1) else -1)) else (1, u) else (1, u)) else (-1, u) else (-1, u)
def sDiv (u : XS) (a b : Int32) : Int32 × XS := ((if b = 0 then -1 else a / b), uN u 1)
def tS (l e i : Int32) (k : Int32 → XS → Int32 × XS) (n : Int32) (u : XS) : Int32 × XS := if i = l then k n (uN u i) else if i = e then (n, uN u i) else k (n + 1) (uN u i)
def sTurn (u : XS) (l e : Int32) : Int32 × XS := tS l e 1 (tS l e 2 (tS l e 3 (tS l e 4 (tS l e 5 (fun n u => (n, u)))))) 0 u
def oEnd (u : XS) (b o : Int32) : Int32 × XS := if (b &&& 2) = 0 then (o, uN u 20) else (fFail o 4, uN u 20)
def oMid (u : XS) (b o : Int32) : Int32 × XS := if (b &&& 1) = 0 then oEnd (uN u 21) b o else oEnd (uN u 21) b (fFail o 3)
def sOpen (u : XS) (a b : Int32) : Int32 × XS := if (a &&& 1) = 0 then (if (a &&& 2) = 0 then oMid (uN (uN (uN u 10) 11) 12) b 0 else oMid (uN (uN (uN u 10) 11) 12) b (fFail 0 2)) else oEnd (uN (uN u 10) 11) b (fFail 0 1)
def sSq (u : XS) (n p : Int32) : Int32 × XS := if n ≤ 1000 then if 0 ≤ n then if isB p n = true then (0, uV u (p * p)) else (4, u) else (6, u) else (-1, u)
def sGo (v : Int32 × XS) : Int32 × XS := (0, uV v.2 v.1)
def sFlow (u : XS) (k a b : Int32) : Int32 × XS := if k = 0 then sGo (sDiv u a b) else if k = 1 then sGo (sTurn u (a &&& 7) (b &&& 7)) else if k = 2 then sGo (sOpen u a b) else if k = 3 then sGo (fWord a (b &&& 3), u) else if k = 4 then sGo (a + (a + 1) * b + b, u) else if k = 5 then sSq u a b else if k = 6 then sGo (fPlace (a &&& 1), u) else (-1, u)
def sNum (u : XS) (k a b : Int32) : Int32 × XS := if k = 0 then sGo (FP.f2i (FP.i2f a), u) else if k = 1 then sGo (fQuo a b, u) else if k = 2 then sGo (a.toInt8.toInt32 * (b.toUInt32 % 65536).toInt32, u) else if k = 3 then sGo ((a >>> (b &&& 31)) + (a.toUInt32 >>> (b.toUInt32 &&& Int32.toUInt32 31)).toInt32 + (a <<< (b &&& 31)), u) else if k = 4 then (if b = 0 then (5, u) else sGo (a - a / b * b, u)) else if k = 5 then sGo ((a.toInt16.toInt32 + b).toInt16.toInt32, u) else if k = 6 then sGo (((a.toInt64 * b.toInt64) >>> ((16 : Int32).toInt64 &&& 63)).toInt32, u) else if k = 7 then sGo ((if Op.cmpValue (FP.fcmp (FP.i2f a) (FP.i2f b)) .l = 0 then 1 else 0), u) else if k = 8 then sGo (FP.d2i (FP.dmul (FP.i2d a) 4604930618986332160), u) else if k = 9 then sGo (fDec a + 1 + fDec b, u) else (-1, u)
def sEv (u : XS) (i : Int32) : Int32 × XS := if isB i 16 = true then if i < gec u then (gE u ((gec u - 1 - i) &&& 15).toNatClampNeg, u) else (-1, u) else (-1, u)
-- making: the new thing's place is where the heap ends, so these are relations
def tNew (k n : Int32) : TH := (k, n, none, 0, 0, 0)
def vBase (u : XS) (k n : Int32) (q : Nat) : XS := if k = 9 then uN (uT (uN u (fSeed (tNew k n))) (gL u ++ [q]) (va_up (gT u) q (k, n, none, 0, 0, n + 1))) (n + 1) else uT (uN u (fSeed (tNew k n))) (gL u ++ [q]) (va_up (gT u) q (k, n, none, 0, (if k = 0 then 4 else 0), 0))
def rBase (u : XS) (k n : Int32) (v : XS × Nat) : Prop := v.2 ∉ gL u ∧ v.1 = vBase u k n v.2
def rNew (F : XF) (u : XS) (k n : Int32) (v : XS × Nat) : Prop := if k = 4 then v = (u, F.2.1) else if k = 5 then v = (u, F.2.2.1) else if k = 0 ∨ k = 1 ∨ k = 2 ∨ k = 9 then rBase u k n v else v.2 ∉ gL u ∧ v.1 = uT u (gL u ++ [v.2]) (va_up (gT u) v.2 (tNew k n))
def rRep (u : XS) (a : Int32) (o : Option Nat) (r : Int32) (v : XS) : Prop := match o with
  | none => r = 2 ∧ v = u
  | some q => if (gT u q).2.2.2.1 < 3 then r = 0 ∧ ∃ z, z ∉ gL u ∧ v = uT (uS u (va_up (gS u) a.toNatClampNeg (some z))) (gL u ++ [z]) (va_up (gT u) z (8, 0, some q, (gT u q).2.2.2.1 + 1, 0, 0)) else r = -1 ∧ v = u
def rMake (F : XF) (u : XS) (a k n r : Int32) (v : XS) : Prop := if isB a 8 = true then if isB k 10 = true then (if k = 8 then rRep u a (gS u (n &&& 7).toNatClampNeg) r v else r = 0 ∧ ∃ (w : XS) (q : Nat), rNew F u k n (w, q) ∧ v = uS w (va_up (gS w) a.toNatClampNeg (some q))) else r = -1 ∧ v = u else r = -1 ∧ v = u
