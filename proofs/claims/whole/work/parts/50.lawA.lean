/-! THE CLAIM OUT OF ONE WALK OF THE LAW'S BODY. Your part is whole_start (and what it stands on); all else here is the same for every law, but numbers. -/
def R_law : String := "FamilyProbesLaw"
def lw_P (b : Addr) (xs : List Int32) (args : Array Value) (s : State) : Prop := args = #[.ref b] ∧ s.IntsAt b xs ∧ xs.length ≤ 3072 ∧ (Jvm.Cond.and given_1 narrow_1).before args s = true
def lw_Q (_ : Array Value) (s : State) (o : Outcome) (t : State) : Prop := o = .returned (some (.int 1)) ∧ Framed s o t [] 600000 7302250
def lw_Z (below : List Frame) (a : Array Value) (s : State) : State → Prop := fun t => ∃ o, t.status = .running ∧ Ended t below o ∧ lw_Q a s o t
/-- the law's own end, with 1 on the stack, nothing written that was there before, its room as the claim has it -/
theorem lw_ret {p : Program} {l : Launch} {e : Env} {s : State} {m : MethodId} {below : List Frame} {meth : Method} {c : Code} {b : Nat} (hx : p.tables.exec = Jvm.exec) (hb : c.code = code) (hr : meth.sig.returnType = ret) (hlocks : meth.locks = false) {pc : Nat} {H : Heap} {ls : Array Slot} (hdg : decode code pc = .ok (.ireturn, 1)) : W p l e room_1 s m #[Value.ref b] below meth c H [] 600000 7302250 (lw_Z below #[Value.ref b] s) (F0 m pc ls [.int 1]) := by
  intro T hT X
  obtain ⟨fs, hret, hrun, hended, hW, hframe⟩ := X.leave (v := some (.int 1)) (hlocks := hlocks) (fun h => by rw [hr] at h; cases h)
  have hmeth' : T.vm.method? m = some meth := X.method'
  refine ⟨T.setFrames fs, ?_, .returned (some (.int 1)), hrun, hended, rfl, ⟨_, rfl⟩, hW, hframe⟩
  jvm_step X.here [X.here.top, hx, hb, hdg, hmeth', hr, ret, narrow_b1]
  (try refine ⟨rfl, ?_⟩); (try refine ⟨rfl, ?_⟩)
  first | (intro acts; rw [hret _ acts rfl rfl rfl]) | rw [hret _ _ rfl rfl rfl]
  exact Steps.refl _
/-- what holds at the law's entry: the machine, the code, the tables' words (any of lw_tbl by 'hts w (by decide +kernel)'), the script of L ints xs at the cell b, what the Statement gives of the start (any of its parts by flat_of_before) -/
def lw_At (p : Program) (s : State) (m : MethodId) (meth : Method) (c : Code) (b L : Nat) (xs : Nat → Int32) : Prop :=
  p.tables.exec = Jvm.exec ∧ c.code = code ∧ meth.sig.returnType = ret ∧ c.maxLocals = 4 ∧ s.vm.findClass R_law = some m.cls ∧ (∀ w ∈ lw_tbl, w.before #[Value.ref b] s = true) ∧ va_X b L xs s s.heap ∧ b < s.heap.size ∧ meth.locks = false ∧ (Jvm.Cond.and given_1 narrow_1).before #[Value.ref b] s = true
theorem lG {L : List Cond} (h : ∀ w ∈ L, w ∈ yAll) : GoodIn lw_tbl L := fun w hw => ⟨(List.mem_filter.mp (h w hw)).1, good_of_word (List.mem_filter.mp (h w hw)).2⟩
theorem lV {idx : Nat} {y : MethodName} {b : ByteArray} {n : Nat} {r : Option FieldType} (h1 : Cond.methodLink RL idx y ∈ yAll) (h2 : Cond.instanceMethod y ∈ yAll) (h0 : Cond.selects RY y y ∈ yAll) (h4 : Cond.code y b n r ∈ yAll) : GoodIn lw_tbl (wsV RL idx RY y (Cond.code y b n r :: yAll)) := lG (fun w hw => by
  rcases List.mem_append.mp hw with hw | hw
  · simp only [List.mem_cons, List.not_mem_nil, or_false] at hw
    rcases hw with rfl | rfl | rfl | rfl
    · exact h1
    · exact h2
    · exact h0
    · exact yini
  · rcases List.mem_cons.mp hw with rfl | hw
    · exact h4
    · exact hw)
set_option maxRecDepth 20000 in
theorem gM_X1_events : GoodIn lw_tbl (wsV RL 67 RX1 yX1_events wsX1_events) := goodIn_p _ [270] (by decide +kernel) (by decide +kernel)
set_option maxRecDepth 20000 in
theorem gM_X1_event : GoodIn lw_tbl (wsV RL 71 RX1 yX1_event wsX1_event) := goodIn_p _ [274, 105] (by decide +kernel) (by decide +kernel)
theorem sc_in {k L : Nat} (j : Nat) (hj : j < 6) (hk : 6 * k + 6 ≤ L) (hL : L ≤ 3072) {i : Int32} (hi : i = nI j) : vp_in (nI (6 * k) + i) L := by
  subst hi
  rw [nI_add]
  exact vp_in_nI (by omega) (by omega)
theorem sc_in0 {k L : Nat} (hk : 6 * k + 6 ≤ L) (hL : L ≤ 3072) : vp_in (nI (6 * k)) L := vp_in_nI (by omega) (by omega)
theorem six (k : Nat) : nI (6 * k) + Int32.ofInt 6 = nI (6 * (k + 1)) := by
  show nI (6 * k) + nI 6 = _
  rw [nI_add]
  rfl
def LI (D : va_G) (F : XF) (G : YF) (s : State) (k : Nat) (u : XS) (v : YS) (ι : Nat → Nat) (c e : Nat) (H : Heap) (locs : List Loc) : Prop := Rl F u v ι c e ∧ c ≤ 2 + k ∧ e ≤ 5 * k ∧ va_P D vwCl (xW F u ++ yW G v) H ∧ va_D (fun q : Nat => s.heap.size ≤ q) (xW F u ++ yW G v) ∧ va_S (fun q : Nat => s.heap.size ≤ q) s.heap H locs
def LCx (D : va_G) (F : XF) (G : YF) (s : State) : Prop := va_K D vwCl (xTy F ++ yTy G) s ∧ xN s ∧ xSt (fun q : Nat => s.heap.size ≤ q) s s.heap
def LN (p : Program) (l : Launch) (e : Env) (s : State) (m : MethodId) (below : List Frame) (meth : Method) (c : Code) (b : Nat) (D : va_G) (F : XF) (G : YF) (k : Nat) : Prop := ∀ (u : XS) (v : YS) (ι : Nat → Nat) (c0 e0 : Nat) (H : Heap) (locs : List Loc) (ls : Array Slot), LI D F G s k u v ι c0 e0 H locs → lv_has ls 4 [(3, .int (nI (6 * k))), (2, .ref G.1), (1, .ref F.1), (0, .ref b)] → W p l e room_1 s m #[Value.ref b] below meth c H locs (17 + k) (1701 + 6 * k) (lw_Z below #[Value.ref b] s) (F0 m 18 ls [])
