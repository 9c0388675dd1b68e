theorem rng16 {r p : Int32} (h0 : vp_in r 4) (h1 : vp_in p 4) : vp_in (r * 4 + p) 16 := by
  obtain ⟨j, hj, rfl⟩ := vp_in_of h0 (by decide)
  obtain ⟨k, hk, rfl⟩ := vp_in_of h1 (by decide)
  show vp_in (nI j * nI 4 + nI k) 16
  rw [pk_mul, nI_add]
  exact vp_in_nI (by omega) (by decide)
theorem fStr_e {a n : Int32} (h : fStr a n = true) : ∃ j k : Nat, a = nI j ∧ n = nI k ∧ j + k ≤ 4 := by
  simp only [fStr, Bool.and_eq_true, Bool.not_eq_true', decide_eq_false_iff_not] at h
  obtain ⟨h1, h2, h3, h4⟩ := h
  obtain ⟨j, hj, rfl⟩ := nI_of h1
  obtain ⟨k, hk, rfl⟩ := nI_of h2
  have hk4 : k ≤ 4 := by
    rcases Nat.lt_or_ge 4 k with q | q
    · exact absurd (show nI 4 < nI k from nI_lt q (by omega)) h3
    · exact q
  refine ⟨j, k, rfl, rfl, ?_⟩
  have e : (4 : Int32) - nI k = nI (4 - k) := by
    show nI 4 - nI k = _
    exact pk_sub hk4
  rw [e] at h4
  rcases Nat.lt_or_ge (4 - k) j with q | q
  · exact absurd (nI_lt q (by omega)) h4
  · omega
theorem fStr_le {a n : Int32} (h : fStr a n = true) : n ≤ 4 := by
  obtain ⟨j, k, -, rfl, h1⟩ := fStr_e h
  exact (show nI k ≤ nI 4 from nI_le (by omega) (by decide))
theorem rngC {f a n : Int32} (k : Nat) (hk : k < 4) (h0 : vp_in f 4) (h1 : fStr a n = true) {i : Int32} (hi : i = nI k) (h2 : ¬ n ≤ i) : vp_in (f * 4 + a + i) 16 := by
  subst hi
  obtain ⟨z, hz, rfl⟩ := vp_in_of h0 (by decide)
  obtain ⟨j, y, rfl, rfl, h3⟩ := fStr_e h1
  have hy : k < y := by
    rcases Nat.lt_or_ge k y with q | q
    · exact q
    · exact absurd (nI_le q (by omega)) h2
  show vp_in (nI z * nI 4 + nI j + nI k) 16
  rw [pk_mul, nI_add, nI_add]
  exact vp_in_nI (by omega) (by decide)
theorem rngD {a n : Int32} (k : Nat) (hk : k < 4) (h1 : fStr a n = true) {i : Int32} (hi : i = nI k) (h2 : ¬ n ≤ i) : vp_in (a + i) 4 := by
  subst hi
  obtain ⟨j, y, rfl, rfl, h3⟩ := fStr_e h1
  have hy : k < y := by
    rcases Nat.lt_or_ge k y with q | q
    · exact q
    · exact absurd (nI_le q (by omega)) h2
  rw [nI_add]
  exact vp_in_nI (by omega) (by decide)
theorem xOk_P {F : XF} {u : XS} (h : xOk F u) (i : Nat) (o : Option Nat) (ho : ∀ q, o = some q → q ∈ gL u) : xOk F (uP u (va_up (gP u) i o)) := by
  obtain ⟨h1, h2, h3, h4⟩ := h
  refine ⟨h1, fun j q hq => ?_, h3, h4⟩
  by_cases hj : j = i
  · subst hj
    exact ho q (by rw [← hq]; exact (va_up_self _ _ _).symm)
  · exact h2 j q (by rw [← hq]; exact (va_up_ne _ _ hj).symm)
theorem xOk_Q {F : XF} {u : XS} (h : xOk F u) (i : Nat) (o : Option Nat) (ho : ∀ q, o = some q → q ∈ gL u) : xOk F (uQ u (va_up (gQ u) i o)) := by
  obtain ⟨h1, h2, h3, h4⟩ := h
  refine ⟨h1, h2, fun j q hq => ?_, h4⟩
  by_cases hj : j = i
  · subst hj
    exact ho q (by rw [← hq]; exact (va_up_self _ _ _).symm)
  · exact h3 j q (by rw [← hq]; exact (va_up_ne _ _ hj).symm)
theorem xOk_S {F : XF} {u : XS} (h : xOk F u) (i : Nat) (o : Option Nat) (ho : ∀ q, o = some q → q ∈ gL u) : xOk F (uS u (va_up (gS u) i o)) := by
  obtain ⟨h1, h2⟩ := h
  refine ⟨fun j q hq => ?_, h2⟩
  by_cases hj : j = i
  · subst hj
    exact ho q (by rw [← hq]; exact (va_up_self _ _ _).symm)
  · exact h1 j q (by rw [← hq]; exact (va_up_ne _ _ hj).symm)
theorem xHeap {p : Program} {l : Launch} {e : Env} {R : Room} {s : State} {m : MethodId} {args : Array Value} {below : List Frame} {meth : Method} {c : Code} {Q : State → Prop} {g : JFrame} {C : Heap → Prop} (h : C s.heap) (k : ∀ H : Heap, C H → W p l e R s m args below meth c H [] 0 0 Q g) : W p l e R s m args below meth c s.heap [] 0 0 Q g := k _ h
section XO
variable {p : Program} {l : Launch} {e : Env} {R : Room} {s : State} {m : MethodId} {args : Array Value} {below : List Frame} {meth : Method} {c : Code} {H : Heap} {locs : List Loc} {cells slots : Nat} {Q : State → Prop}
variable {cc : ByteArray} {pc : Nat} {ls : Array Slot} {rest : List Value} {D : va_G} {A : Nat → Prop} {H0 : Heap}
theorem x_asto {F : XF} {u : XS} {a : Nat} (hexec : p.tables.exec = Jvm.exec) (hb : c.code = cc) (hK : va_K D vwCl (xTy F) s) (hP : va_P D vwCl (xW F u) H) (hD : va_D A (xW F u)) (hS : va_S A H0 H locs) (q0 t0 : Nat) {cA : ClassId} {n : Nat} {f : Nat → Option Nat} (ha : (xW F u)[q0]? = some (a, .inl (cA, n, .inr (.inr (.inr (.inr f)))))) (ht : (xTy F)[t0]? = some (cA, .object RX0)) {o : Option Nat} (ho : ∀ q, o = some q → q ∈ gL u) {i : Int32} (hin : vp_in i n) (hdg : decode cc pc = .ok (.aastore, 1))
    (kk : ∀ (H1 : Heap) (locs1 : List Loc), va_P D vwCl ((xW F u).set q0 (a, .inl (cA, n, .inr (.inr (.inr (.inr (va_up f i.toNatClampNeg o))))))) H1 → va_D A ((xW F u).set q0 (a, .inl (cA, n, .inr (.inr (.inr (.inr (va_up f i.toNatClampNeg o))))))) → va_S A H0 H1 locs1 → W p l e R s m args below meth c H1 locs1 cells slots Q (F0 m (pc + 1) ls rest)) : W p l e R s m args below meth c H locs cells slots Q (F0 m pc ls (va_rf o :: .int i :: .ref a :: rest)) := by
  cases o with
  | none => exact va_astqN hexec hb hK hP hD hS q0 t0 ha ht hin hdg kk
  | some v =>
    obtain ⟨k, hk⟩ := va_pl_get (X := xX F u) (f := thP (gT u)) (ho v rfl)
    exact va_astq hexec hb hK hP hD hS q0 t0 k 0 ha (r := (RX0, TX0, 6)) ht hk rfl hin hdg kk
end XO
-- numbers that are no NaN
theorem nn64 {x : UInt64} {K : Nat} (h : x.toNat % 2 ^ 63 < K * 2 ^ 52) (hK : K ≤ 2047) : vf_n64 x := by
  unfold vf_n64
  rw [UInt64.le_iff_toNat_le, UInt64.toNat_and]
  show x.toNat &&& (2 ^ 63 - 1) ≤ 9218868437227405312
  rw [Nat.and_two_pow_sub_one_eq_mod]
  omega
theorem nn_ddiv (a b : Int32) (hb : ¬ b = 0) : vf_n64 (FP.ddiv (FP.i2d a) (FP.i2d b)) :=
  nn64 (FP.Core.ddiv_mag (FP.Core.i2d_mag a) (FP.Core.i2d_big (FP.Core.int32_ne hb)).1 (FP.Core.i2d_big (FP.Core.int32_ne hb)).2 (by decide) (by decide)) (by decide)
theorem nn_dmul (a : Int32) : vf_n64 (FP.dmul (FP.i2d a) 4604930618986332160) :=
  nn64 (FP.Core.dmul_mag (Kb := 1023) (FP.Core.i2d_mag a) (by decide) (by decide) (by decide)) (by decide)
theorem thP_up (T : Nat → TH) (q : Nat) (t : TH) : va_up (thP T) q (thE t) = thP (va_up T q t) := by
  funext a
  by_cases h : a = q
  · subst h
    simp [thP, va_up]
  · simp [thP, va_up, h]
theorem x_push {F : XF} {u : XS} {q : Nat} {t : TH} (h : q ∉ gL u) : xW F u ++ [(q, thE t)] = xW F (uT u (gL u ++ [q]) (va_up (gT u) q t)) := by
  show (xX F u ++ va_pl (gL u) (thP (gT u))) ++ [(q, thE t)] = xX F u ++ va_pl (gL u ++ [q]) (thP (va_up (gT u) q t))
  rw [List.append_assoc, va_pl_push h, thP_up]
theorem x_fresh {A : Nat → Prop} {F : XF} {u : XS} {q : Nat} {e : va_E} (hD : va_D A (xW F u ++ [(q, e)])) : q ∉ gL u := va_pl_fresh2 (X := xX F u) (f := thP (gT u)) hD
theorem x_setT {A : Nat → Prop} {F : XF} {u : XS} {q k : Nat} {t : TH} (hD : va_D A (xW F u)) (hq : q ∈ gL u) (hk : (xW F u)[k]? = some (q, thP (gT u) q)) : (xW F u).set k (q, thE t) = xW F (uT u (gL u) (va_up (gT u) q t)) := by
  have h := va_pl_set (e := thE t) (X := xX F u) (f := thP (gT u)) hD hq hk
  rw [thP_up] at h
  exact h
theorem x_upd {A : Nat → Prop} {D : va_G} {F : XF} {u : XS} {H H1 : Heap} {q : Nat} {e0 : va_E} {t : TH} (hP : va_P D vwCl (xW F u) H) (hD : va_D A (xW F u)) (hq : q ∈ gL u) (hk : ∀ a : Nat, a < H.size → ¬ va_A [(q, e0)] H.size a → H1[a]? = H[a]?) (hP1 : va_P D vwCl [(q, thE t)] H1) : va_P D vwCl (xW F (uT u (gL u) (va_up (gT u) q t))) H1 ∧ va_D A (xW F (uT u (gL u) (va_up (gT u) q t))) := by
  obtain ⟨k, hk0⟩ := va_pl_get (X := xX F u) (f := thP (gT u)) hq
  have hk0 : (xW F u)[k]? = some (q, thP (gT u) q) := hk0
  rw [← x_setT hD hq hk0]
  refine ⟨fun j x hx => ?_, hD.set hk0⟩
  have hl := (List.getElem?_eq_some_iff.mp hk0).1
  by_cases hj : j = k
  · subst hj
    rw [List.getElem?_set_self hl] at hx
    cases hx
    exact hP1 0 _ rfl
  · rw [List.getElem?_set_ne (Ne.symm hj)] at hx
    have hlt := (hP j x hx).lt
    refine (hP j x hx).kept (hk x.1 hlt (fun h => ?_))
    rcases h with ⟨i, e1, h⟩ | h
    · have hi : i < 1 := (List.getElem?_eq_some_iff.mp h).1
      rw [show i = 0 by omega] at h
      have hq1 : q = x.1 := by cases h; rfl
      exact hj (hD.1 j k x _ hx hk0 hq1.symm)
    · omega
def tZ : TH := (0, 0, none, 0, 0, 0)
theorem r_keep {A : Nat → Prop} {D : va_G} {b : Nat} {e : va_E} {H0 H : Heap} {locs : List Loc} (h : va_P D vwCl [(b, e)] H0) (hS : va_S A H0 H locs) (hb : ¬ A b) : va_P D vwCl [(b, e)] H := by
  refine h.kept (fun k q hk => ?_)
  have hz : k < 1 := (List.getElem?_eq_some_iff.mp hk).1
  have hl := (h k q hk).lt
  rw [show k = 0 by omega] at hk
  cases hk
  exact hS.2.1 b hl hb
def iPc (D : va_G) (q sz : Nat) (k n : Int32) (o : Option Nat) (tb : TH) : Array Value → State → Prop := va_Pc [.ref q, .int k, .int n, va_rf o] (fun U => U.heap.size = sz ∧ va_P D vwCl [(q, thE tZ)] U.heap ∧ va_K D vwCl [] U ∧ va_D (fun _ => True) [(q, thE tZ)] ∧ ∀ b, o = some b → ¬ va_A [(q, thE tZ)] sz b ∧ va_P D vwCl [(b, thE tb)] U.heap)
def iTh (k n : Int32) (o : Option Nat) (tb : TH) : TH := (k, n, o, (match o with | none => 0 | some _ => tb.2.2.2.1 + 1), 0, 0)
theorem iPre {D : va_G} {q : Nat} {s : State} {A : Nat → Prop} {H : Heap} {tys : List (ClassId × FieldType)} (hK : va_K D vwCl tys s) (hP : va_P D vwCl [(q, thE tZ)] H) (k n : Int32) (o : Option Nat) (tb : TH) (ho : ∀ b, o = some b → ¬ va_A [(q, thE tZ)] H.size b ∧ va_P D vwCl [(b, thE tb)] H) :
    PreS s H (iPc D q H.size k n o tb) (.ref q :: [.int k, .int n, va_rf o]) := by
  refine ⟨fun a U g mk z => ?_, fun U hU hW => ⟨rfl, by rw [hU], by rw [hU]; exact hP, va_K.moved hW.alike (hK.sub [] rfl), ?_, by rw [hU]; exact ho⟩⟩
  · obtain ⟨q0, q1, qP, qK, qD, qO⟩ := z
    exact ⟨q0, q1, qP, va_K.moved (u := U) (U := U.calling g mk a) (Vm.Alike.refl U.vm) qK, qD, qO⟩
  · refine ⟨fun i j x y hi hj _ => ?_, fun _ _ _ => trivial⟩
    have hi : i < 1 := (List.getElem?_eq_some_iff.mp hi).1
    have hj : j < 1 := (List.getElem?_eq_some_iff.mp hj).1
    omega
/-- the source of a new thing is another thing -/
theorem x_src {A : Nat → Prop} {D : va_G} {F : XF} {u : XS} {H : Heap} {q b : Nat} {e0 : va_E} (hP : va_P D vwCl (xW F u) H) (hb : b ∈ gL u) (hne : b ≠ q) : ¬ va_A [(q, e0)] H.size b ∧ va_P D vwCl [(b, thE (gT u b))] H := by
  have h1 := x_one hP hb
  refine ⟨fun h => ?_, h1⟩
  rcases h with ⟨i, e1, h⟩ | h
  · have hi : i < 1 := (List.getElem?_eq_some_iff.mp h).1
    rw [show i = 0 by omega] at h
    cases h
    exact hne rfl
  · have := (h1 0 _ rfl).lt
    have h2 : b < H.size := this
    omega
def xT0 (w o : Nat) : Nat → TH := va_up (va_up (fun _ => tZ) w (4, 2, none, 0, 0, 0)) o (5, 9, none, 0, 0, 0)
theorem xT0_o {w o : Nat} : xT0 w o o = (5, 9, none, 0, 0, 0) := va_up_self _ _ _
theorem xT0_w {w o : Nat} (h : w ≠ o) : xT0 w o w = (4, 2, none, 0, 0, 0) := by
  unfold xT0
  rw [va_up_ne _ _ h]
  exact va_up_self _ _ _
def xU0 (F : XF) : XS := ((fun _ => none), (fun _ => none), (fun _ => none), (fun _ => 0), 0, 0, 0, [F.2.1, F.2.2.1], xT0 F.2.1 F.2.2.1)
theorem rBase_mem {u v : XS} {k n : Int32} {q : Nat} (h : rBase u k n (v, q)) : q ∈ gL v := by
  obtain ⟨-, h⟩ := h
  have h : v = vBase u k n q := h
  subst h
  unfold vBase
  split <;> exact List.mem_append_right _ (List.mem_singleton.mpr rfl)
theorem rNew_mem {F : XF} {u v : XS} {k n : Int32} {q : Nat} (hok : xOk F u) (h : rNew F u k n (v, q)) : q ∈ gL v := by
  unfold rNew at h
  split at h
  · cases h
    exact hok.2.2.2.2.2.1
  · split at h
    · cases h
      exact hok.2.2.2.2.2.2
    · split at h
      · exact rBase_mem h
      · obtain ⟨-, h⟩ := h
        have h : v = uT u (gL u ++ [q]) (va_up (gT u) q (tNew k n)) := h
        subst h
        exact List.mem_append_right _ (List.mem_singleton.mpr rfl)
theorem x_oneT {D : va_G} {F : XF} {u : XS} {H : Heap} {a : Nat} {t : TH} (hP : va_P D vwCl (xW F u) H) (h : a ∈ gL u) (e : gT u a = t) : va_P D vwCl [(a, thE t)] H := by
  rw [← e]
  exact x_one hP h
theorem x_srcT {A : Nat → Prop} {D : va_G} {F : XF} {u : XS} {H : Heap} {q b : Nat} {e0 : va_E} {t : TH} (hP : va_P D vwCl (xW F u) H) (hb : b ∈ gL u) (hne : b ≠ q) (e : gT u b = t) : ¬ va_A [(q, e0)] H.size b ∧ va_P D vwCl [(b, thE t)] H := by
  rw [← e]
  exact x_src (A := A) hP hb hne
