/-! the class's state, in words -/
/-- a thing: kind, n, source, repeaters, bonus, extra -/
abbrev TH : Type := Int32 × Int32 × Option Nat × Int32 × Int32 × Int32
def thE (t : TH) : va_E := .inr (0, [.int t.1, .int t.2.1, va_rf t.2.2.1, .int t.2.2.2.1, .int t.2.2.2.2.1, .int t.2.2.2.2.2])
def thP (T : Nat → TH) : Nat → va_E := fun a => thE (T a)
/-- the fixed addresses: this, wren, owl, slots, places, passing, lastEvents; the classes of the four arrays -/
abbrev XF : Type := Nat × Nat × Nat × Nat × Nat × Nat × Nat × ClassId × ClassId × ClassId × ClassId
/-- slots, places, passing, events; count of events, of shadow calls, last value; the things: where, what -/
abbrev XS : Type := (Nat → Option Nat) × (Nat → Option Nat) × (Nat → Option Nat) × (Nat → Int32) × Int32 × Int32 × Int32 × List Nat × (Nat → TH)
def xX (F : XF) (u : XS) : va_W := [(F.1, .inr (1, [.ref F.2.1, .ref F.2.2.1, .ref F.2.2.2.1, .ref F.2.2.2.2.1, .ref F.2.2.2.2.2.1, .ref F.2.2.2.2.2.2.1, .int u.2.2.2.2.1, .int u.2.2.2.2.2.1, .int u.2.2.2.2.2.2.1])),
  (F.2.2.2.1, .inl (F.2.2.2.2.2.2.2.1, 8, .inr (.inr (.inr (.inr u.1))))), (F.2.2.2.2.1, .inl (F.2.2.2.2.2.2.2.2.1, 16, .inr (.inr (.inr (.inr u.2.1))))), (F.2.2.2.2.2.1, .inl (F.2.2.2.2.2.2.2.2.2.1, 4, .inr (.inr (.inr (.inr u.2.2.1))))), (F.2.2.2.2.2.2.1, .inl (F.2.2.2.2.2.2.2.2.2.2, 16, .inl u.2.2.2.1))]
def xW (F : XF) (u : XS) : va_W := xX F u ++ va_pl u.2.2.2.2.2.2.2.1 (thP u.2.2.2.2.2.2.2.2)
def xTy (F : XF) : List (ClassId × FieldType) := [(F.2.2.2.2.2.2.2.1, .object "FamilyProbes$Thing"), (F.2.2.2.2.2.2.2.2.1, .object "FamilyProbes$Thing"), (F.2.2.2.2.2.2.2.2.2.1, .object "FamilyProbes$Thing"), (F.2.2.2.2.2.2.2.2.2.2, .int)]
def isB (x b : Int32) : Bool := !decide (x < 0) && !decide (b ≤ x)
/-- what always holds of the state: slots, places, passing hold things; sources are things; kinds are kinds; the birds -/
def xOk (F : XF) (u : XS) : Prop := (∀ i q, u.1 i = some q → q ∈ u.2.2.2.2.2.2.2.1) ∧ (∀ i q, u.2.1 i = some q → q ∈ u.2.2.2.2.2.2.2.1) ∧ (∀ i q, u.2.2.1 i = some q → q ∈ u.2.2.2.2.2.2.2.1) ∧
  (∀ a, a ∈ u.2.2.2.2.2.2.2.1 → ∀ q, (u.2.2.2.2.2.2.2.2 a).2.2.1 = some q → q ∈ u.2.2.2.2.2.2.2.1) ∧ (∀ a, a ∈ u.2.2.2.2.2.2.2.1 → isB (u.2.2.2.2.2.2.2.2 a).1 10 = true) ∧ F.2.1 ∈ u.2.2.2.2.2.2.2.1 ∧ F.2.2.1 ∈ u.2.2.2.2.2.2.2.1
/-- links between nest mates -/
def xNl : List Cond := [.fieldLinkNest RX1 118 "FamilyProbes$Thing" "kind" "I" "FamilyProbes", .fieldLinkNest RX1 83 "FamilyProbes$Thing" "n" "I" "FamilyProbes", .fieldLinkNest RX1 166 "FamilyProbes$Thing" "source" "LFamilyProbes$Thing;" "FamilyProbes", .fieldLinkNest RX1 121 "FamilyProbes$Thing" "repeaters" "I" "FamilyProbes", .fieldLinkNest RX1 135 "FamilyProbes$Thing" "bonus" "I" "FamilyProbes", .fieldLinkNest RX1 138 "FamilyProbes$Thing" "extra" "I" "FamilyProbes", .methodLinkNest RX1 11 yX0_init "FamilyProbes"]
def xN (U : State) : Prop := ∀ w ∈ xNl, va_Nw w U
theorem xN.warm {s U : State} (hW : s.WarmedH U.vm) (h : xN s) : xN U := by
  intro w hw
  have h1 := h w hw
  simp only [xNl, List.mem_cons, List.not_mem_nil, or_false] at hw
  rcases hw with rfl | rfl | rfl | rfl | rfl | rfl | rfl <;> first | exact va_Nw.warmF hW h1 | exact va_Nw.warmM hW h1
theorem xN.same {s U : State} (hv : s.vm = U.vm) (h : xN s) : xN U := by
  intro w hw
  have h1 := h w hw
  simp only [xNl, List.mem_cons, List.not_mem_nil, or_false] at hw
  rcases hw with rfl | rfl | rfl | rfl | rfl | rfl | rfl <;> exact va_Nw.same rfl hv h1
/-- the class's tables -/
def tokV (k : Nat) : Int32 := [27, 45, 111, 129, 259, 259, 1, 1, 1, 45].getD k 0
def memV (k : Nat) : Int32 := [511, 511, 374, 120, 120, 120, 120, 263, 120, 120, 136, 80].getD k 0
def rowV (k : Nat) : Int32 := [0, 3, 5, 4].getD k 0
def xSt (A : Nat → Prop) (U : State) (H : Heap) : Prop := ∃ tk tm tr : Nat,
  va_Z "FamilyProbes" "TYPES_OF_KIND" "[I" (.ref tk) A U H ∧ va_T .int tk 10 (fun k => .int (tokV k)) A U H ∧
  va_Z "FamilyProbes" "TYPES_WITH_MEMBER" "[I" (.ref tm) A U H ∧ va_T .int tm 12 (fun k => .int (memV k)) A U H ∧
  va_Z "FamilyProbes" "TYPE_OF_ROW" "[I" (.ref tr) A U H ∧ va_T .int tr 4 (fun k => .int (rowV k)) A U H
theorem xSt.go {A B : Nat → Prop} {s U : State} {H0 H : Heap} {locs : List Loc} (h : xSt A s H0) (hS : va_S A H0 H locs) (hF : ∀ q, B q → A q) (hvm : s.vm.Alike U.vm) (hU : U.heap = H) : xSt B U U.heap := by
  obtain ⟨tk, tm, tr, h1, h2, h3, h4, h5, h6⟩ := h
  have hq : ∀ a : Nat, a < H0.size → ¬ A a → U.heap[a]? = H0[a]? := fun a h1 h2 => by rw [hU]; exact hS.2.1 a h1 h2
  exact ⟨tk, tm, tr, ((h1.kept hq).narrow hF).moved hvm, ((h2.kept hq).narrow hF).moved hvm, ((h3.kept hq).narrow hF).moved hvm, ((h4.kept hq).narrow hF).moved hvm, ((h5.kept hq).narrow hF).moved hvm, ((h6.kept hq).narrow hF).moved hvm⟩
theorem xFalse {A : Nat → Prop} : ∀ q : Nat, (fun _ : Nat => False) q → A q := fun _ h => h.elim
/-- a method's start, on the whole state; its end -/
def xPc (D : va_G) (F : XF) (u : XS) (sz : Nat) (av : List Value) : Array Value → State → Prop := va_Pc av (fun U => U.heap.size = sz ∧ va_P D vwCl (xW F u) U.heap ∧ va_K D vwCl (xTy F) U ∧ va_D (fun _ => True) (xW F u) ∧ xN U ∧ xSt (va_A (xW F u) sz) U U.heap)
def xB (D : va_G) (F : XF) (A : Nat → Prop) (v : XS) (t : State) : Prop := va_P D vwCl (xW F v) t.heap ∧ va_K D vwCl (xTy F) t ∧ va_D A (xW F v)
theorem xFree {A : Nat → Prop} {ws : va_W} {H0 H : Heap} {locs : List Loc} (hD : va_D A ws) (hS : va_S A H0 H locs) (hA : ∀ q : Nat, H0.size ≤ q → A q) : ∀ q, va_A ws H.size q → A q := by
  intro q h
  rcases h with ⟨k, e, h⟩ | h
  · exact hD.2 k (q, e) h
  · exact hA q (Nat.le_trans hS.1 h)
theorem xPre {D : va_G} {F : XF} {u : XS} {s : State} {A : Nat → Prop} {H : Heap} {locs : List Loc} (hN : xN s) (hK : va_K D vwCl (xTy F) s) (hP : va_P D vwCl (xW F u) H) (hD : va_D A (xW F u)) (hS : va_S A s.heap H locs) (hA : ∀ q : Nat, s.heap.size ≤ q → A q) (hZ : xSt A s s.heap) (As : List Value) :
    PreV s H RX1 F.1 (xPc D F u H.size (.ref F.1 :: As)) As := by
  refine ⟨fun a U g mk q => ?_, va_recv hK hP (ci := 1) (q0 := 0) rfl rfl, fun U hU hW => ⟨rfl, by rw [hU], by rw [hU]; exact hP, va_K.moved hW.alike hK, hD.weaken (fun _ _ _ _ => trivial), hN.warm hW, ?_⟩⟩
  · obtain ⟨q0, q1, qP, qK, qD, qN, qZ⟩ := q
    exact ⟨q0, q1, qP, va_K.moved (u := U) (U := U.calling g mk a) (Vm.Alike.refl U.vm) qK, qD, xN.same (s := U) (U := U.calling g mk a) rfl qN, qZ.go (U := U.calling g mk a) (H := U.heap) (locs := []) va_S.rf (fun _ h => h) (Vm.Alike.refl U.vm) rfl⟩
  · exact hZ.go hS (xFree hD hS hA) hW.alike hU
/-- a reader of one thing -/
def rPc (D : va_G) (q : Nat) (t : TH) (av : List Value) : Array Value → State → Prop := va_Pc av (fun U => va_P D vwCl [(q, thE t)] U.heap ∧ va_K D vwCl [] U ∧ xN U ∧ xSt (fun _ => False) U U.heap)
theorem rPre {D : va_G} {q : Nat} {t : TH} {s : State} {A : Nat → Prop} {H : Heap} {locs : List Loc} {tys : List (ClassId × FieldType)} (hN : xN s) (hK : va_K D vwCl tys s) (hP : va_P D vwCl [(q, thE t)] H) (hS : va_S A s.heap H locs) (hZ : xSt A s s.heap) (hF : ∀ q : Nat, (fun _ : Nat => False) q → A q) (As : List Value) :
    PreS s H (rPc D q t As) As := by
  refine ⟨fun a U g mk z => ?_, fun U hU hW => ⟨rfl, by rw [hU]; exact hP, va_K.moved hW.alike (hK.sub [] rfl), hN.warm hW, hZ.go hS hF hW.alike hU⟩⟩
  obtain ⟨q0, qP, qK, qN, qZ⟩ := z
  exact ⟨q0, qP, va_K.moved (u := U) (U := U.calling g mk a) (Vm.Alike.refl U.vm) qK, xN.same (s := U) (U := U.calling g mk a) rfl qN, qZ.go (U := U.calling g mk a) (H := U.heap) (locs := []) va_S.rf (fun _ h => h) (Vm.Alike.refl U.vm) rfl⟩
theorem x_one {D : va_G} {cl : List vw_C} {F : XF} {u : XS} {H : Heap} {a : Nat} (hP : va_P D cl (xW F u) H) (h : a ∈ u.2.2.2.2.2.2.2.1) : va_P D cl [(a, thE (u.2.2.2.2.2.2.2.2 a))] H := by
  obtain ⟨k, hk⟩ := va_pl_get (X := xX F u) (f := thP u.2.2.2.2.2.2.2.2) h
  exact hP.by (fun _ => k) (fun j q hj => by
    have hz : j < 1 := (List.getElem?_eq_some_iff.mp hj).1
    rw [show j = 0 by omega] at hj
    cases hj
    exact hk)
def bI (b : Bool) : Int32 := match b with | true => 1 | false => 0
theorem bI_c {r : Int32} {b : Bool} (h : r = bI b) : (r = 1 ∧ b = true) ∨ (r = 0 ∧ b = false) := by
  cases b
  · exact Or.inr ⟨h, rfl⟩
  · exact Or.inl ⟨h, rfl⟩
theorem isB_in {x : Int32} {n : Nat} {b : Int32} (hb : b.toInt = n) (h : isB x b = true) : vp_in x n := by
  simp only [isB, Bool.and_eq_true, Bool.not_eq_true', decide_eq_false_iff_not] at h
  rw [vp_in_iff]
  obtain ⟨h1, h2⟩ := h
  rw [Int32.lt_iff_toInt_lt] at h1
  rw [Int32.le_iff_toInt_le] at h2
  rw [hb] at h2
  rw [Int32.toInt_zero] at h1
  omega
theorem isB_in8 {x : Int32} (h : isB x 8 = true) : vp_in x 8 := isB_in (by decide) h
theorem isB_in10 {x : Int32} (h : isB x 10 = true) : vp_in x 10 := isB_in (by decide) h
theorem isB_in9 {x : Int32} (h : isB x 9 = true) : vp_in x 9 := isB_in (by decide) h
theorem isB_in12 {x : Int32} (h : isB x 12 = true) : vp_in x 12 := isB_in (by decide) h
theorem isB_in4 {x : Int32} (h : isB x 4 = true) : vp_in x 4 := isB_in (by decide) h
theorem isB_in16 {x : Int32} (h : isB x 16 = true) : vp_in x 16 := isB_in (by decide) h
theorem and_in16 (x : Int32) : vp_in (x &&& 15) 16 := pk_andIn x 4 (by decide) (by decide)
theorem and_in8 (x : Int32) : vp_in (x &&& 7) 8 := pk_andIn x 3 (by decide) (by decide)
