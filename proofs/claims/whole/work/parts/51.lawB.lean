set_option maxHeartbeats 8000000 in
set_option maxRecDepth 100000 in
theorem law_c0 {p : Program} {l : Launch} {e : Env} {s : State} {m : MethodId} {below : List Frame} {meth : Method} {c : Code} {b L : Nat} {xs : Nat → Int32} (hL : L ≤ 3072) (C0 : lw_At p s m meth c b L xs) {D : va_G} {F : XF} {G : YF} (hC : LCx D F G s) (k : Nat) (hk : 6 * k + 6 ≤ L) {u : XS} {v : YS} {ι : Nat → Nat} {c0 e0 : Nat} {H : Heap} {locs : List Loc} (hI : LI D F G s k u v ι c0 e0 H locs) {ls : Array Slot} (hl : lv_has ls 4 [(3, .int (nI (6 * k))), (2, .ref G.1), (1, .ref F.1), (0, .ref b)]) (ih : LN p l e s m below meth c b D F G (k + 1)) : W p l e room_1 s m #[Value.ref b] below meth c H locs (17 + k) (1701 + 6 * k) (lw_Z below #[Value.ref b] s) (F0 m 104 ls []) := by
  obtain ⟨hx, hb, hr, hml, hown, hts, hX, hbl, hlocks, hgv⟩ := C0
  obtain ⟨hK, hN, hZ⟩ := hC
  obtain ⟨hR, hc0, he0, hP, hD, hS⟩ := hI
  have hA : ∀ q : Nat, s.heap.size ≤ q → (fun q : Nat => s.heap.size ≤ q) q := fun _ h => h
  have hbA : ¬ (fun q : Nat => s.heap.size ≤ q) b := Nat.not_le.mpr hbl
  have htl : ∀ w ∈ wsL_law, w.before #[Value.ref b] s = true := fun w h => hts w (wsL_law_in w h)
  refine lv_aload_n hx hb dL_law_104 rfl (lv_at hl 2 rfl) ?_
  refine lv_aload_n hx hb dL_law_105 rfl (lv_at hl 3 rfl) ?_
  refine lv_iload_n hx hb dL_law_106 rfl (lv_at hl 0 rfl) ?_
  refine lv_iconst (v := 1) hx hb dL_law_107 (by decide) ?_
  refine lv_iadd hx hb dL_law_108 ?_
  refine va_sld hx hb hX hbl hbA hS (sc_in 1 (by decide) hk hL rfl) dL_law_109 ?_
  refine lv_aload_n hx hb dL_law_110 rfl (lv_at hl 3 rfl) ?_
  refine lv_iload_n hx hb dL_law_111 rfl (lv_at hl 0 rfl) ?_
  refine lv_iconst (v := 2) hx hb dL_law_112 (by decide) ?_
  refine lv_iadd hx hb dL_law_113 ?_
  refine va_sld hx hb hX hbl hbA hS (sc_in 2 (by decide) hk hL rfl) dL_law_114 ?_
  refine lv_aload_n hx hb dL_law_115 rfl (lv_at hl 3 rfl) ?_
  refine lv_iload_n hx hb dL_law_116 rfl (lv_at hl 0 rfl) ?_
  refine lv_iconst (v := 3) hx hb dL_law_117 (by decide) ?_
  refine lv_iadd hx hb dL_law_118 ?_
  refine va_sld hx hb hX hbl hbA hS (sc_in 3 (by decide) hk hL rfl) dL_law_119 ?_
  have hf := xFree (wd_L hD) hS hA
  refine va_calli (va_runV (As := [.int (xs ((nI (6 * k)) + 1).toNatClampNeg), .int (xs ((nI (6 * k)) + 2).toNatClampNeg), .int (xs ((nI (6 * k)) + 3).toNatClampNeg)]) (rest := []) ⟨hx, hb, hml, hown, htl⟩ (k_make l D F u hR.1 H.size (xs ((nI (6 * k)) + 1).toNatClampNeg) (xs ((nI (6 * k)) + 2).toNatClampNeg) (xs ((nI (6 * k)) + 3).toNatClampNeg)) (cwV 3 htl gL_law_X1_make rfl rfl rfl (by decide +kernel) ⟨Nat.le_of_ble_eq_true rfl, Nat.le_of_ble_eq_true rfl⟩) (xPre hN (hK.sub (tys' := xTy F) [0, 1, 2, 3] rfl) (w_L hP) (wd_L hD) hS hA hZ _) rfl rfl hl.1 rfl (lv_room (Nat.le_of_ble_eq_true rfl)) dL_law_120 ⟨by show 17 + k + 1 ≤ 600000; omega, by show 1701 + 6 * k + 6 ≤ 7302250; omega⟩) hS (fun q _ h => hf q h) hf (fun rX uX tX H1 locs ht hvm hw hB hz1 hk1 hS => ?_)
  obtain ⟨hP1, hK1, hD1⟩ := hB
  rw [ht] at hP1
  obtain ⟨hP, hD⟩ := w_joinL hP hD hk1 hf hP1 hD1
  generalize H1 = H at hP hS ⊢
  refine lv_aload_n hx hb dL_law_123 rfl (lv_at hl 1 rfl) ?_
  refine lv_aload_n hx hb dL_law_124 rfl (lv_at hl 3 rfl) ?_
  refine lv_iload_n hx hb dL_law_125 rfl (lv_at hl 0 rfl) ?_
  refine lv_iconst (v := 1) hx hb dL_law_126 (by decide) ?_
  refine lv_iadd hx hb dL_law_127 ?_
  refine va_sld hx hb hX hbl hbA hS (sc_in 1 (by decide) hk hL rfl) dL_law_128 ?_
  refine lv_aload_n hx hb dL_law_129 rfl (lv_at hl 3 rfl) ?_
  refine lv_iload_n hx hb dL_law_130 rfl (lv_at hl 0 rfl) ?_
  refine lv_iconst (v := 2) hx hb dL_law_131 (by decide) ?_
  refine lv_iadd hx hb dL_law_132 ?_
  refine va_sld hx hb hX hbl hbA hS (sc_in 2 (by decide) hk hL rfl) dL_law_133 ?_
  refine lv_aload_n hx hb dL_law_134 rfl (lv_at hl 3 rfl) ?_
  refine lv_iload_n hx hb dL_law_135 rfl (lv_at hl 0 rfl) ?_
  refine lv_iconst (v := 3) hx hb dL_law_136 (by decide) ?_
  refine lv_iadd hx hb dL_law_137 ?_
  refine va_sld hx hb hX hbl hbA hS (sc_in 3 (by decide) hk hL rfl) dL_law_138 ?_
  have hf2 := xFree (wd_R hD) hS hA
  refine va_calli (va_runV (As := [.int (xs ((nI (6 * k)) + 1).toNatClampNeg), .int (xs ((nI (6 * k)) + 2).toNatClampNeg), .int (xs ((nI (6 * k)) + 3).toNatClampNeg)]) (rest := [.int rX]) ⟨hx, hb, hml, hown, hts⟩ (j_make l D G v hR.ok H.size (xs ((nI (6 * k)) + 1).toNatClampNeg) (xs ((nI (6 * k)) + 2).toNatClampNeg) (xs ((nI (6 * k)) + 3).toNatClampNeg) hR.th) (cwV 3 hts (lV ylL_17 ym_make ys_make yc_make) rfl rfl rfl (by decide +kernel) ⟨Nat.le_of_ble_eq_true rfl, Nat.le_of_ble_eq_true rfl⟩) (yPre (hK.sub (tys' := yTy G) [4, 5, 6, 7, 8, 9, 10, 11, 12] rfl) (w_R hP) (wd_R hD) _) rfl rfl hl.1 rfl (lv_room (Nat.le_of_ble_eq_true rfl)) dL_law_139 ⟨by show 17 + k + 1 + 0 ≤ 600000; omega, by show 1701 + 6 * k + 6 + 0 ≤ 7302250; omega⟩) hS (fun q _ h => hf2 q h) hf2 (fun rY vY tY H2 locs ht2 hvm2 hw2 hB2 hz2 hk2 hS => ?_)
  obtain ⟨hP2, hK2, hD2⟩ := hB2
  rw [ht2] at hP2
  obtain ⟨hP, hD⟩ := w_joinR hP hD hk2 hf2 hP2 hD2
  generalize H2 = H at hP hS ⊢
  obtain ⟨heq, ι2, c2, e2, hc2, he2, hR2⟩ := Q_make hR (by omega) (by omega) hw
  rw [← hw2] at heq hR2
  have heq : rX = rY := heq
  refine lv_icmp_eq (tgt := 616) hx hb dL_law_142 (by decide) (fun _ => ?_) (fun cz => absurd heq cz)
  refine lv_iinc (v := nI (6 * (k + 1))) (lv' := [(3, .int (nI (6 * (k + 1)))), (2, .ref G.1), (1, .ref F.1), (0, .ref b)]) hx hb dL_law_616 hl (k := 0) rfl (six k) (by decide) rfl (fun ls hl => ?_)
  refine lv_goto (tgt := 18) hx hb dL_law_619 (by decide) ?_
  refine W.widen (k := 17 + (k + 1)) (n := 1701 + 6 * (k + 1)) (by omega) (by omega) ?_
  exact ih _ _ _ _ _ _ _ _ ⟨hR2, by omega, by omega, hP, hD, hS⟩ hl
set_option maxHeartbeats 8000000 in
set_option maxRecDepth 100000 in
theorem law_c1 {p : Program} {l : Launch} {e : Env} {s : State} {m : MethodId} {below : List Frame} {meth : Method} {c : Code} {b L : Nat} {xs : Nat → Int32} (hL : L ≤ 3072) (C0 : lw_At p s m meth c b L xs) {D : va_G} {F : XF} {G : YF} (hC : LCx D F G s) (k : Nat) (hk : 6 * k + 6 ≤ L) {u : XS} {v : YS} {ι : Nat → Nat} {c0 e0 : Nat} {H : Heap} {locs : List Loc} (hI : LI D F G s k u v ι c0 e0 H locs) {ls : Array Slot} (hl : lv_has ls 4 [(3, .int (nI (6 * k))), (2, .ref G.1), (1, .ref F.1), (0, .ref b)]) (ih : LN p l e s m below meth c b D F G (k + 1)) : W p l e room_1 s m #[Value.ref b] below meth c H locs (17 + k) (1701 + 6 * k) (lw_Z below #[Value.ref b] s) (F0 m 147 ls []) := by
  obtain ⟨hx, hb, hr, hml, hown, hts, hX, hbl, hlocks, hgv⟩ := C0
  obtain ⟨hK, hN, hZ⟩ := hC
  obtain ⟨hR, hc0, he0, hP, hD, hS⟩ := hI
  have hA : ∀ q : Nat, s.heap.size ≤ q → (fun q : Nat => s.heap.size ≤ q) q := fun _ h => h
  have hbA : ¬ (fun q : Nat => s.heap.size ≤ q) b := Nat.not_le.mpr hbl
  have htl : ∀ w ∈ wsL_law, w.before #[Value.ref b] s = true := fun w h => hts w (wsL_law_in w h)
  refine lv_aload_n hx hb dL_law_147 rfl (lv_at hl 2 rfl) ?_
  refine lv_aload_n hx hb dL_law_148 rfl (lv_at hl 3 rfl) ?_
  refine lv_iload_n hx hb dL_law_149 rfl (lv_at hl 0 rfl) ?_
  refine lv_iconst (v := 1) hx hb dL_law_150 (by decide) ?_
  refine lv_iadd hx hb dL_law_151 ?_
  refine va_sld hx hb hX hbl hbA hS (sc_in 1 (by decide) hk hL rfl) dL_law_152 ?_
  have hf := xFree (wd_L hD) hS hA
  refine va_calli (va_runV (As := [.int (xs ((nI (6 * k)) + 1).toNatClampNeg)]) (rest := []) ⟨hx, hb, hml, hown, htl⟩ (k_drop l D F u hR.1 H.size (xs ((nI (6 * k)) + 1).toNatClampNeg)) (cwV 1 htl gL_law_X1_drop rfl rfl rfl (by decide +kernel) ⟨Nat.le_of_ble_eq_true rfl, Nat.le_of_ble_eq_true rfl⟩) (xPre hN (hK.sub (tys' := xTy F) [0, 1, 2, 3] rfl) (w_L hP) (wd_L hD) hS hA hZ _) rfl rfl hl.1 rfl (lv_room (Nat.le_of_ble_eq_true rfl)) dL_law_153 ⟨by show 17 + k + 0 ≤ 600000; omega, by show 1701 + 6 * k + 0 ≤ 7302250; omega⟩) hS (fun q _ h => hf q h) hf (fun rX uX tX H1 locs ht hvm hw hB hz1 hk1 hS => ?_)
  obtain ⟨hP1, hK1, hD1⟩ := hB
  rw [ht] at hP1
  obtain ⟨hP, hD⟩ := w_joinL hP hD hk1 hf hP1 hD1
  generalize H1 = H at hP hS ⊢
  refine lv_aload_n hx hb dL_law_156 rfl (lv_at hl 1 rfl) ?_
  refine lv_aload_n hx hb dL_law_157 rfl (lv_at hl 3 rfl) ?_
  refine lv_iload_n hx hb dL_law_158 rfl (lv_at hl 0 rfl) ?_
  refine lv_iconst (v := 1) hx hb dL_law_159 (by decide) ?_
  refine lv_iadd hx hb dL_law_160 ?_
  refine va_sld hx hb hX hbl hbA hS (sc_in 1 (by decide) hk hL rfl) dL_law_161 ?_
  have hf2 := xFree (wd_R hD) hS hA
  refine va_calli (va_runV (As := [.int (xs ((nI (6 * k)) + 1).toNatClampNeg)]) (rest := [.int rX]) ⟨hx, hb, hml, hown, hts⟩ (j_drop l D G v hR.ok H.size (xs ((nI (6 * k)) + 1).toNatClampNeg)) (cwV 1 hts (lV ylL_22 ym_drop ys_drop yc_drop) rfl rfl rfl (by decide +kernel) ⟨Nat.le_of_ble_eq_true rfl, Nat.le_of_ble_eq_true rfl⟩) (yPre (hK.sub (tys' := yTy G) [4, 5, 6, 7, 8, 9, 10, 11, 12] rfl) (w_R hP) (wd_R hD) _) rfl rfl hl.1 rfl (lv_room (Nat.le_of_ble_eq_true rfl)) dL_law_162 ⟨by show 17 + k + 0 + 0 ≤ 600000; omega, by show 1701 + 6 * k + 0 + 0 ≤ 7302250; omega⟩) hS (fun q _ h => hf2 q h) hf2 (fun rY vY tY H2 locs ht2 hvm2 hw2 hB2 hz2 hk2 hS => ?_)
  obtain ⟨hP2, hK2, hD2⟩ := hB2
  rw [ht2] at hP2
  obtain ⟨hP, hD⟩ := w_joinR hP hD hk2 hf2 hP2 hD2
  generalize H2 = H at hP hS ⊢
  obtain ⟨heq, ι2, c2, e2, hc2, he2, hR2⟩ := Q_drop hR (xs ((nI (6 * k)) + 1).toNatClampNeg)
  rw [← hw, ← hw2] at heq hR2
  have heq : rX = rY := heq
  refine lv_icmp_eq (tgt := 616) hx hb dL_law_165 (by decide) (fun _ => ?_) (fun cz => absurd heq cz)
  refine lv_iinc (v := nI (6 * (k + 1))) (lv' := [(3, .int (nI (6 * (k + 1)))), (2, .ref G.1), (1, .ref F.1), (0, .ref b)]) hx hb dL_law_616 hl (k := 0) rfl (six k) (by decide) rfl (fun ls hl => ?_)
  refine lv_goto (tgt := 18) hx hb dL_law_619 (by decide) ?_
  refine W.widen (k := 17 + (k + 1)) (n := 1701 + 6 * (k + 1)) (by omega) (by omega) ?_
  exact ih _ _ _ _ _ _ _ _ ⟨hR2, by omega, by omega, hP, hD, hS⟩ hl
set_option maxHeartbeats 8000000 in
set_option maxRecDepth 100000 in
theorem law_c2 {p : Program} {l : Launch} {e : Env} {s : State} {m : MethodId} {below : List Frame} {meth : Method} {c : Code} {b L : Nat} {xs : Nat → Int32} (hL : L ≤ 3072) (C0 : lw_At p s m meth c b L xs) {D : va_G} {F : XF} {G : YF} (hC : LCx D F G s) (k : Nat) (hk : 6 * k + 6 ≤ L) {u : XS} {v : YS} {ι : Nat → Nat} {c0 e0 : Nat} {H : Heap} {locs : List Loc} (hI : LI D F G s k u v ι c0 e0 H locs) {ls : Array Slot} (hl : lv_has ls 4 [(3, .int (nI (6 * k))), (2, .ref G.1), (1, .ref F.1), (0, .ref b)]) (ih : LN p l e s m below meth c b D F G (k + 1)) : W p l e room_1 s m #[Value.ref b] below meth c H locs (17 + k) (1701 + 6 * k) (lw_Z below #[Value.ref b] s) (F0 m 170 ls []) := by
  obtain ⟨hx, hb, hr, hml, hown, hts, hX, hbl, hlocks, hgv⟩ := C0
  obtain ⟨hK, hN, hZ⟩ := hC
  obtain ⟨hR, hc0, he0, hP, hD, hS⟩ := hI
  have hA : ∀ q : Nat, s.heap.size ≤ q → (fun q : Nat => s.heap.size ≤ q) q := fun _ h => h
  have hbA : ¬ (fun q : Nat => s.heap.size ≤ q) b := Nat.not_le.mpr hbl
  have htl : ∀ w ∈ wsL_law, w.before #[Value.ref b] s = true := fun w h => hts w (wsL_law_in w h)
  refine lv_aload_n hx hb dL_law_170 rfl (lv_at hl 2 rfl) ?_
  refine lv_aload_n hx hb dL_law_171 rfl (lv_at hl 3 rfl) ?_
  refine lv_iload_n hx hb dL_law_172 rfl (lv_at hl 0 rfl) ?_
  refine lv_iconst (v := 1) hx hb dL_law_173 (by decide) ?_
  refine lv_iadd hx hb dL_law_174 ?_
  refine va_sld hx hb hX hbl hbA hS (sc_in 1 (by decide) hk hL rfl) dL_law_175 ?_
  refine lv_aload_n hx hb dL_law_176 rfl (lv_at hl 3 rfl) ?_
  refine lv_iload_n hx hb dL_law_177 rfl (lv_at hl 0 rfl) ?_
  refine lv_iconst (v := 2) hx hb dL_law_178 (by decide) ?_
  refine lv_iadd hx hb dL_law_179 ?_
  refine va_sld hx hb hX hbl hbA hS (sc_in 2 (by decide) hk hL rfl) dL_law_180 ?_
  refine lv_aload_n hx hb dL_law_181 rfl (lv_at hl 3 rfl) ?_
  refine lv_iload_n hx hb dL_law_182 rfl (lv_at hl 0 rfl) ?_
  refine lv_iconst (v := 3) hx hb dL_law_183 (by decide) ?_
  refine lv_iadd hx hb dL_law_184 ?_
  refine va_sld hx hb hX hbl hbA hS (sc_in 3 (by decide) hk hL rfl) dL_law_185 ?_
  refine lv_aload_n hx hb dL_law_186 rfl (lv_at hl 3 rfl) ?_
  refine lv_iload_n hx hb dL_law_187 rfl (lv_at hl 0 rfl) ?_
  refine lv_iconst (v := 4) hx hb dL_law_188 (by decide) ?_
  refine lv_iadd hx hb dL_law_189 ?_
  refine va_sld hx hb hX hbl hbA hS (sc_in 4 (by decide) hk hL rfl) dL_law_190 ?_
  refine lv_aload_n hx hb dL_law_191 rfl (lv_at hl 3 rfl) ?_
  refine lv_iload_n hx hb dL_law_192 rfl (lv_at hl 0 rfl) ?_
  refine lv_iconst (v := 5) hx hb dL_law_193 (by decide) ?_
  refine lv_iadd hx hb dL_law_194 ?_
  refine va_sld hx hb hX hbl hbA hS (sc_in 5 (by decide) hk hL rfl) dL_law_195 ?_
  have hf := xFree (wd_L hD) hS hA
  refine va_calli (va_runV (As := [.int (xs ((nI (6 * k)) + 1).toNatClampNeg), .int (xs ((nI (6 * k)) + 2).toNatClampNeg), .int (xs ((nI (6 * k)) + 3).toNatClampNeg), .int (xs ((nI (6 * k)) + 4).toNatClampNeg), .int (xs ((nI (6 * k)) + 5).toNatClampNeg)]) (rest := []) ⟨hx, hb, hml, hown, htl⟩ (k_probe l D F u hR.1 H.size (xs ((nI (6 * k)) + 1).toNatClampNeg) (xs ((nI (6 * k)) + 2).toNatClampNeg) (xs ((nI (6 * k)) + 3).toNatClampNeg) (xs ((nI (6 * k)) + 4).toNatClampNeg) (xs ((nI (6 * k)) + 5).toNatClampNeg)) (cwV 5 htl gL_law_X1_probe rfl rfl rfl (by decide +kernel) ⟨Nat.le_of_ble_eq_true rfl, Nat.le_of_ble_eq_true rfl⟩) (xPre hN (hK.sub (tys' := xTy F) [0, 1, 2, 3] rfl) (w_L hP) (wd_L hD) hS hA hZ _) rfl rfl hl.1 rfl (lv_room (Nat.le_of_ble_eq_true rfl)) dL_law_196 ⟨by show 17 + k + 0 ≤ 600000; omega, by show 1701 + 6 * k + 0 ≤ 7302250; omega⟩) hS (fun q _ h => hf q h) hf (fun rX uX tX H1 locs ht hvm hw hB hz1 hk1 hS => ?_)
  obtain ⟨hP1, hK1, hD1⟩ := hB
  rw [ht] at hP1
  obtain ⟨hP, hD⟩ := w_joinL hP hD hk1 hf hP1 hD1
  generalize H1 = H at hP hS ⊢
  refine lv_aload_n hx hb dL_law_199 rfl (lv_at hl 1 rfl) ?_
  refine lv_aload_n hx hb dL_law_200 rfl (lv_at hl 3 rfl) ?_
  refine lv_iload_n hx hb dL_law_201 rfl (lv_at hl 0 rfl) ?_
  refine lv_iconst (v := 1) hx hb dL_law_202 (by decide) ?_
  refine lv_iadd hx hb dL_law_203 ?_
  refine va_sld hx hb hX hbl hbA hS (sc_in 1 (by decide) hk hL rfl) dL_law_204 ?_
  refine lv_aload_n hx hb dL_law_205 rfl (lv_at hl 3 rfl) ?_
  refine lv_iload_n hx hb dL_law_206 rfl (lv_at hl 0 rfl) ?_
  refine lv_iconst (v := 2) hx hb dL_law_207 (by decide) ?_
  refine lv_iadd hx hb dL_law_208 ?_
  refine va_sld hx hb hX hbl hbA hS (sc_in 2 (by decide) hk hL rfl) dL_law_209 ?_
  refine lv_aload_n hx hb dL_law_210 rfl (lv_at hl 3 rfl) ?_
  refine lv_iload_n hx hb dL_law_211 rfl (lv_at hl 0 rfl) ?_
  refine lv_iconst (v := 3) hx hb dL_law_212 (by decide) ?_
  refine lv_iadd hx hb dL_law_213 ?_
  refine va_sld hx hb hX hbl hbA hS (sc_in 3 (by decide) hk hL rfl) dL_law_214 ?_
  refine lv_aload_n hx hb dL_law_215 rfl (lv_at hl 3 rfl) ?_
  refine lv_iload_n hx hb dL_law_216 rfl (lv_at hl 0 rfl) ?_
  refine lv_iconst (v := 4) hx hb dL_law_217 (by decide) ?_
  refine lv_iadd hx hb dL_law_218 ?_
  refine va_sld hx hb hX hbl hbA hS (sc_in 4 (by decide) hk hL rfl) dL_law_219 ?_
  refine lv_aload_n hx hb dL_law_220 rfl (lv_at hl 3 rfl) ?_
  refine lv_iload_n hx hb dL_law_221 rfl (lv_at hl 0 rfl) ?_
  refine lv_iconst (v := 5) hx hb dL_law_222 (by decide) ?_
  refine lv_iadd hx hb dL_law_223 ?_
  refine va_sld hx hb hX hbl hbA hS (sc_in 5 (by decide) hk hL rfl) dL_law_224 ?_
  have hf2 := xFree (wd_R hD) hS hA
  refine va_calli (va_runV (As := [.int (xs ((nI (6 * k)) + 1).toNatClampNeg), .int (xs ((nI (6 * k)) + 2).toNatClampNeg), .int (xs ((nI (6 * k)) + 3).toNatClampNeg), .int (xs ((nI (6 * k)) + 4).toNatClampNeg), .int (xs ((nI (6 * k)) + 5).toNatClampNeg)]) (rest := [.int rX]) ⟨hx, hb, hml, hown, hts⟩ (j_probe l D G v hR.ok H.size (xs ((nI (6 * k)) + 1).toNatClampNeg) (xs ((nI (6 * k)) + 2).toNatClampNeg) (xs ((nI (6 * k)) + 3).toNatClampNeg) (xs ((nI (6 * k)) + 4).toNatClampNeg) (xs ((nI (6 * k)) + 5).toNatClampNeg)) (cwV 5 hts (lV ylL_27 ym_probe ys_probe yc_probe) rfl rfl rfl (by decide +kernel) ⟨Nat.le_of_ble_eq_true rfl, Nat.le_of_ble_eq_true rfl⟩) (yPre (hK.sub (tys' := yTy G) [4, 5, 6, 7, 8, 9, 10, 11, 12] rfl) (w_R hP) (wd_R hD) _) rfl rfl hl.1 rfl (lv_room (Nat.le_of_ble_eq_true rfl)) dL_law_225 ⟨by show 17 + k + 0 + 0 ≤ 600000; omega, by show 1701 + 6 * k + 0 + 0 ≤ 7302250; omega⟩) hS (fun q _ h => hf2 q h) hf2 (fun rY vY tY H2 locs ht2 hvm2 hw2 hB2 hz2 hk2 hS => ?_)
  obtain ⟨hP2, hK2, hD2⟩ := hB2
  rw [ht2] at hP2
  obtain ⟨hP, hD⟩ := w_joinR hP hD hk2 hf2 hP2 hD2
  generalize H2 = H at hP hS ⊢
  obtain ⟨heq, ι2, c2, e2, hc2, he2, hR2⟩ := Q_probe hR (xs ((nI (6 * k)) + 1).toNatClampNeg) (xs ((nI (6 * k)) + 2).toNatClampNeg) (xs ((nI (6 * k)) + 3).toNatClampNeg) (xs ((nI (6 * k)) + 4).toNatClampNeg) (xs ((nI (6 * k)) + 5).toNatClampNeg)
  rw [← hw, ← hw2] at heq hR2
  have heq : rX = rY := heq
  refine lv_icmp_eq (tgt := 616) hx hb dL_law_228 (by decide) (fun _ => ?_) (fun cz => absurd heq cz)
  refine lv_iinc (v := nI (6 * (k + 1))) (lv' := [(3, .int (nI (6 * (k + 1)))), (2, .ref G.1), (1, .ref F.1), (0, .ref b)]) hx hb dL_law_616 hl (k := 0) rfl (six k) (by decide) rfl (fun ls hl => ?_)
  refine lv_goto (tgt := 18) hx hb dL_law_619 (by decide) ?_
  refine W.widen (k := 17 + (k + 1)) (n := 1701 + 6 * (k + 1)) (by omega) (by omega) ?_
  exact ih _ _ _ _ _ _ _ _ ⟨hR2, by omega, by omega, hP, hD, hS⟩ hl
set_option maxHeartbeats 8000000 in
set_option maxRecDepth 100000 in
theorem law_c3 {p : Program} {l : Launch} {e : Env} {s : State} {m : MethodId} {below : List Frame} {meth : Method} {c : Code} {b L : Nat} {xs : Nat → Int32} (hL : L ≤ 3072) (C0 : lw_At p s m meth c b L xs) {D : va_G} {F : XF} {G : YF} (hC : LCx D F G s) (k : Nat) (hk : 6 * k + 6 ≤ L) {u : XS} {v : YS} {ι : Nat → Nat} {c0 e0 : Nat} {H : Heap} {locs : List Loc} (hI : LI D F G s k u v ι c0 e0 H locs) {ls : Array Slot} (hl : lv_has ls 4 [(3, .int (nI (6 * k))), (2, .ref G.1), (1, .ref F.1), (0, .ref b)]) (ih : LN p l e s m below meth c b D F G (k + 1)) : W p l e room_1 s m #[Value.ref b] below meth c H locs (17 + k) (1701 + 6 * k) (lw_Z below #[Value.ref b] s) (F0 m 233 ls []) := by
  obtain ⟨hx, hb, hr, hml, hown, hts, hX, hbl, hlocks, hgv⟩ := C0
  obtain ⟨hK, hN, hZ⟩ := hC
  obtain ⟨hR, hc0, he0, hP, hD, hS⟩ := hI
  have hA : ∀ q : Nat, s.heap.size ≤ q → (fun q : Nat => s.heap.size ≤ q) q := fun _ h => h
  have hbA : ¬ (fun q : Nat => s.heap.size ≤ q) b := Nat.not_le.mpr hbl
  have htl : ∀ w ∈ wsL_law, w.before #[Value.ref b] s = true := fun w h => hts w (wsL_law_in w h)
  refine lv_aload_n hx hb dL_law_233 rfl (lv_at hl 2 rfl) ?_
  have hf := xFree (wd_L hD) hS hA
  refine va_calli (va_runV (As := []) (rest := []) ⟨hx, hb, hml, hown, htl⟩ (k_value l D F u  H.size ) (cwV 0 htl gL_law_X1_value rfl rfl rfl (by decide +kernel) ⟨Nat.le_of_ble_eq_true rfl, Nat.le_of_ble_eq_true rfl⟩) (xPre hN (hK.sub (tys' := xTy F) [0, 1, 2, 3] rfl) (w_L hP) (wd_L hD) hS hA hZ _) rfl rfl hl.1 rfl (lv_room (Nat.le_of_ble_eq_true rfl)) dL_law_234 ⟨by show 17 + k + 0 ≤ 600000; omega, by show 1701 + 6 * k + 0 ≤ 7302250; omega⟩) hS (fun q _ h => hf q h) hf (fun rX uX tX H1 locs ht hvm hw hB hz1 hk1 hS => ?_)
  obtain ⟨hP1, hK1, hD1⟩ := hB
  rw [ht] at hP1
  obtain ⟨hP, hD⟩ := w_joinL hP hD hk1 hf hP1 hD1
  generalize H1 = H at hP hS ⊢
  refine lv_aload_n hx hb dL_law_237 rfl (lv_at hl 1 rfl) ?_
  have hf2 := xFree (wd_R hD) hS hA
  refine va_calli (va_runV (As := []) (rest := [.int rX]) ⟨hx, hb, hml, hown, hts⟩ (j_value l D G v  H.size ) (cwV 0 hts (lV ylL_32 ym_value ys_value yc_value) rfl rfl rfl (by decide +kernel) ⟨Nat.le_of_ble_eq_true rfl, Nat.le_of_ble_eq_true rfl⟩) (yPre (hK.sub (tys' := yTy G) [4, 5, 6, 7, 8, 9, 10, 11, 12] rfl) (w_R hP) (wd_R hD) _) rfl rfl hl.1 rfl (lv_room (Nat.le_of_ble_eq_true rfl)) dL_law_238 ⟨by show 17 + k + 0 + 0 ≤ 600000; omega, by show 1701 + 6 * k + 0 + 0 ≤ 7302250; omega⟩) hS (fun q _ h => hf2 q h) hf2 (fun rY vY tY H2 locs ht2 hvm2 hw2 hB2 hz2 hk2 hS => ?_)
  obtain ⟨hP2, hK2, hD2⟩ := hB2
  rw [ht2] at hP2
  obtain ⟨hP, hD⟩ := w_joinR hP hD hk2 hf2 hP2 hD2
  generalize H2 = H at hP hS ⊢
  obtain ⟨heq, ι2, c2, e2, hc2, he2, hR2⟩ := Q_value hR 
  rw [← hw, ← hw2] at heq hR2
  have heq : rX = rY := heq
  refine lv_icmp_eq (tgt := 616) hx hb dL_law_241 (by decide) (fun _ => ?_) (fun cz => absurd heq cz)
  refine lv_iinc (v := nI (6 * (k + 1))) (lv' := [(3, .int (nI (6 * (k + 1)))), (2, .ref G.1), (1, .ref F.1), (0, .ref b)]) hx hb dL_law_616 hl (k := 0) rfl (six k) (by decide) rfl (fun ls hl => ?_)
  refine lv_goto (tgt := 18) hx hb dL_law_619 (by decide) ?_
  refine W.widen (k := 17 + (k + 1)) (n := 1701 + 6 * (k + 1)) (by omega) (by omega) ?_
  exact ih _ _ _ _ _ _ _ _ ⟨hR2, by omega, by omega, hP, hD, hS⟩ hl
set_option maxHeartbeats 8000000 in
set_option maxRecDepth 100000 in
theorem law_c4 {p : Program} {l : Launch} {e : Env} {s : State} {m : MethodId} {below : List Frame} {meth : Method} {c : Code} {b L : Nat} {xs : Nat → Int32} (hL : L ≤ 3072) (C0 : lw_At p s m meth c b L xs) {D : va_G} {F : XF} {G : YF} (hC : LCx D F G s) (k : Nat) (hk : 6 * k + 6 ≤ L) {u : XS} {v : YS} {ι : Nat → Nat} {c0 e0 : Nat} {H : Heap} {locs : List Loc} (hI : LI D F G s k u v ι c0 e0 H locs) {ls : Array Slot} (hl : lv_has ls 4 [(3, .int (nI (6 * k))), (2, .ref G.1), (1, .ref F.1), (0, .ref b)]) (ih : LN p l e s m below meth c b D F G (k + 1)) : W p l e room_1 s m #[Value.ref b] below meth c H locs (17 + k) (1701 + 6 * k) (lw_Z below #[Value.ref b] s) (F0 m 246 ls []) := by
  obtain ⟨hx, hb, hr, hml, hown, hts, hX, hbl, hlocks, hgv⟩ := C0
  obtain ⟨hK, hN, hZ⟩ := hC
  obtain ⟨hR, hc0, he0, hP, hD, hS⟩ := hI
  have hA : ∀ q : Nat, s.heap.size ≤ q → (fun q : Nat => s.heap.size ≤ q) q := fun _ h => h
  have hbA : ¬ (fun q : Nat => s.heap.size ≤ q) b := Nat.not_le.mpr hbl
  have htl : ∀ w ∈ wsL_law, w.before #[Value.ref b] s = true := fun w h => hts w (wsL_law_in w h)
  refine lv_aload_n hx hb dL_law_246 rfl (lv_at hl 2 rfl) ?_
  refine lv_aload_n hx hb dL_law_247 rfl (lv_at hl 3 rfl) ?_
  refine lv_iload_n hx hb dL_law_248 rfl (lv_at hl 0 rfl) ?_
  refine lv_iconst (v := 1) hx hb dL_law_249 (by decide) ?_
  refine lv_iadd hx hb dL_law_250 ?_
  refine va_sld hx hb hX hbl hbA hS (sc_in 1 (by decide) hk hL rfl) dL_law_251 ?_
  refine lv_aload_n hx hb dL_law_252 rfl (lv_at hl 3 rfl) ?_
  refine lv_iload_n hx hb dL_law_253 rfl (lv_at hl 0 rfl) ?_
  refine lv_iconst (v := 2) hx hb dL_law_254 (by decide) ?_
  refine lv_iadd hx hb dL_law_255 ?_
  refine va_sld hx hb hX hbl hbA hS (sc_in 2 (by decide) hk hL rfl) dL_law_256 ?_
  have hf := xFree (wd_L hD) hS hA
  refine va_calli (va_runV (As := [.int (xs ((nI (6 * k)) + 1).toNatClampNeg), .int (xs ((nI (6 * k)) + 2).toNatClampNeg)]) (rest := []) ⟨hx, hb, hml, hown, htl⟩ (k_is l D F u hR.1 H.size (xs ((nI (6 * k)) + 1).toNatClampNeg) (xs ((nI (6 * k)) + 2).toNatClampNeg)) (cwV 2 htl gL_law_X1_is rfl rfl rfl (by decide +kernel) ⟨Nat.le_of_ble_eq_true rfl, Nat.le_of_ble_eq_true rfl⟩) (xPre hN (hK.sub (tys' := xTy F) [0, 1, 2, 3] rfl) (w_L hP) (wd_L hD) hS hA hZ _) rfl rfl hl.1 rfl (lv_room (Nat.le_of_ble_eq_true rfl)) dL_law_257 ⟨by show 17 + k + 0 ≤ 600000; omega, by show 1701 + 6 * k + 0 ≤ 7302250; omega⟩) hS (fun q _ h => hf q h) hf (fun rX uX tX H1 locs ht hvm hw hB hz1 hk1 hS => ?_)
  obtain ⟨hP1, hK1, hD1⟩ := hB
  rw [ht] at hP1
  obtain ⟨hP, hD⟩ := w_joinL hP hD hk1 hf hP1 hD1
  generalize H1 = H at hP hS ⊢
  refine lv_aload_n hx hb dL_law_260 rfl (lv_at hl 1 rfl) ?_
  refine lv_aload_n hx hb dL_law_261 rfl (lv_at hl 3 rfl) ?_
  refine lv_iload_n hx hb dL_law_262 rfl (lv_at hl 0 rfl) ?_
  refine lv_iconst (v := 1) hx hb dL_law_263 (by decide) ?_
  refine lv_iadd hx hb dL_law_264 ?_
  refine va_sld hx hb hX hbl hbA hS (sc_in 1 (by decide) hk hL rfl) dL_law_265 ?_
  refine lv_aload_n hx hb dL_law_266 rfl (lv_at hl 3 rfl) ?_
  refine lv_iload_n hx hb dL_law_267 rfl (lv_at hl 0 rfl) ?_
  refine lv_iconst (v := 2) hx hb dL_law_268 (by decide) ?_
  refine lv_iadd hx hb dL_law_269 ?_
  refine va_sld hx hb hX hbl hbA hS (sc_in 2 (by decide) hk hL rfl) dL_law_270 ?_
  have hf2 := xFree (wd_R hD) hS hA
  refine va_calli (va_runV (As := [.int (xs ((nI (6 * k)) + 1).toNatClampNeg), .int (xs ((nI (6 * k)) + 2).toNatClampNeg)]) (rest := [.int rX]) ⟨hx, hb, hml, hown, hts⟩ (j_is_ l D G v hR.ok H.size (xs ((nI (6 * k)) + 1).toNatClampNeg) (xs ((nI (6 * k)) + 2).toNatClampNeg)) (cwV 2 hts (lV ylL_37 ym_is_ ys_is_ yc_is_) rfl rfl rfl (by decide +kernel) ⟨Nat.le_of_ble_eq_true rfl, Nat.le_of_ble_eq_true rfl⟩) (yPre (hK.sub (tys' := yTy G) [4, 5, 6, 7, 8, 9, 10, 11, 12] rfl) (w_R hP) (wd_R hD) _) rfl rfl hl.1 rfl (lv_room (Nat.le_of_ble_eq_true rfl)) dL_law_271 ⟨by show 17 + k + 0 + 0 ≤ 600000; omega, by show 1701 + 6 * k + 0 + 0 ≤ 7302250; omega⟩) hS (fun q _ h => hf2 q h) hf2 (fun rY vY tY H2 locs ht2 hvm2 hw2 hB2 hz2 hk2 hS => ?_)
  obtain ⟨hP2, hK2, hD2⟩ := hB2
  rw [ht2] at hP2
  obtain ⟨hP, hD⟩ := w_joinR hP hD hk2 hf2 hP2 hD2
  generalize H2 = H at hP hS ⊢
  obtain ⟨heq, ι2, c2, e2, hc2, he2, hR2⟩ := Q_is hR (xs ((nI (6 * k)) + 1).toNatClampNeg) (xs ((nI (6 * k)) + 2).toNatClampNeg)
  rw [← hw, ← hw2] at heq hR2
  have heq : rX = rY := heq
  refine lv_icmp_eq (tgt := 616) hx hb dL_law_274 (by decide) (fun _ => ?_) (fun cz => absurd heq cz)
  refine lv_iinc (v := nI (6 * (k + 1))) (lv' := [(3, .int (nI (6 * (k + 1)))), (2, .ref G.1), (1, .ref F.1), (0, .ref b)]) hx hb dL_law_616 hl (k := 0) rfl (six k) (by decide) rfl (fun ls hl => ?_)
  refine lv_goto (tgt := 18) hx hb dL_law_619 (by decide) ?_
  refine W.widen (k := 17 + (k + 1)) (n := 1701 + 6 * (k + 1)) (by omega) (by omega) ?_
  exact ih _ _ _ _ _ _ _ _ ⟨hR2, by omega, by omega, hP, hD, hS⟩ hl
set_option maxHeartbeats 8000000 in
set_option maxRecDepth 100000 in
theorem law_c5 {p : Program} {l : Launch} {e : Env} {s : State} {m : MethodId} {below : List Frame} {meth : Method} {c : Code} {b L : Nat} {xs : Nat → Int32} (hL : L ≤ 3072) (C0 : lw_At p s m meth c b L xs) {D : va_G} {F : XF} {G : YF} (hC : LCx D F G s) (k : Nat) (hk : 6 * k + 6 ≤ L) {u : XS} {v : YS} {ι : Nat → Nat} {c0 e0 : Nat} {H : Heap} {locs : List Loc} (hI : LI D F G s k u v ι c0 e0 H locs) {ls : Array Slot} (hl : lv_has ls 4 [(3, .int (nI (6 * k))), (2, .ref G.1), (1, .ref F.1), (0, .ref b)]) (ih : LN p l e s m below meth c b D F G (k + 1)) : W p l e room_1 s m #[Value.ref b] below meth c H locs (17 + k) (1701 + 6 * k) (lw_Z below #[Value.ref b] s) (F0 m 279 ls []) := by
  obtain ⟨hx, hb, hr, hml, hown, hts, hX, hbl, hlocks, hgv⟩ := C0
  obtain ⟨hK, hN, hZ⟩ := hC
  obtain ⟨hR, hc0, he0, hP, hD, hS⟩ := hI
  have hA : ∀ q : Nat, s.heap.size ≤ q → (fun q : Nat => s.heap.size ≤ q) q := fun _ h => h
  have hbA : ¬ (fun q : Nat => s.heap.size ≤ q) b := Nat.not_le.mpr hbl
  have htl : ∀ w ∈ wsL_law, w.before #[Value.ref b] s = true := fun w h => hts w (wsL_law_in w h)
  refine lv_aload_n hx hb dL_law_279 rfl (lv_at hl 2 rfl) ?_
  refine lv_aload_n hx hb dL_law_280 rfl (lv_at hl 3 rfl) ?_
  refine lv_iload_n hx hb dL_law_281 rfl (lv_at hl 0 rfl) ?_
  refine lv_iconst (v := 1) hx hb dL_law_282 (by decide) ?_
  refine lv_iadd hx hb dL_law_283 ?_
  refine va_sld hx hb hX hbl hbA hS (sc_in 1 (by decide) hk hL rfl) dL_law_284 ?_
  refine lv_aload_n hx hb dL_law_285 rfl (lv_at hl 3 rfl) ?_
  refine lv_iload_n hx hb dL_law_286 rfl (lv_at hl 0 rfl) ?_
  refine lv_iconst (v := 2) hx hb dL_law_287 (by decide) ?_
  refine lv_iadd hx hb dL_law_288 ?_
  refine va_sld hx hb hX hbl hbA hS (sc_in 2 (by decide) hk hL rfl) dL_law_289 ?_
  have hf := xFree (wd_L hD) hS hA
  refine va_calli (va_runV (As := [.int (xs ((nI (6 * k)) + 1).toNatClampNeg), .int (xs ((nI (6 * k)) + 2).toNatClampNeg)]) (rest := []) ⟨hx, hb, hml, hown, htl⟩ (k_same l D F u hR.1 H.size (xs ((nI (6 * k)) + 1).toNatClampNeg) (xs ((nI (6 * k)) + 2).toNatClampNeg)) (cwV 2 htl gL_law_X1_same rfl rfl rfl (by decide +kernel) ⟨Nat.le_of_ble_eq_true rfl, Nat.le_of_ble_eq_true rfl⟩) (xPre hN (hK.sub (tys' := xTy F) [0, 1, 2, 3] rfl) (w_L hP) (wd_L hD) hS hA hZ _) rfl rfl hl.1 rfl (lv_room (Nat.le_of_ble_eq_true rfl)) dL_law_290 ⟨by show 17 + k + 0 ≤ 600000; omega, by show 1701 + 6 * k + 0 ≤ 7302250; omega⟩) hS (fun q _ h => hf q h) hf (fun rX uX tX H1 locs ht hvm hw hB hz1 hk1 hS => ?_)
  obtain ⟨hP1, hK1, hD1⟩ := hB
  rw [ht] at hP1
  obtain ⟨hP, hD⟩ := w_joinL hP hD hk1 hf hP1 hD1
  generalize H1 = H at hP hS ⊢
  refine lv_aload_n hx hb dL_law_293 rfl (lv_at hl 1 rfl) ?_
  refine lv_aload_n hx hb dL_law_294 rfl (lv_at hl 3 rfl) ?_
  refine lv_iload_n hx hb dL_law_295 rfl (lv_at hl 0 rfl) ?_
  refine lv_iconst (v := 1) hx hb dL_law_296 (by decide) ?_
  refine lv_iadd hx hb dL_law_297 ?_
  refine va_sld hx hb hX hbl hbA hS (sc_in 1 (by decide) hk hL rfl) dL_law_298 ?_
  refine lv_aload_n hx hb dL_law_299 rfl (lv_at hl 3 rfl) ?_
  refine lv_iload_n hx hb dL_law_300 rfl (lv_at hl 0 rfl) ?_
  refine lv_iconst (v := 2) hx hb dL_law_301 (by decide) ?_
  refine lv_iadd hx hb dL_law_302 ?_
  refine va_sld hx hb hX hbl hbA hS (sc_in 2 (by decide) hk hL rfl) dL_law_303 ?_
  have hf2 := xFree (wd_R hD) hS hA
  refine va_calli (va_runV (As := [.int (xs ((nI (6 * k)) + 1).toNatClampNeg), .int (xs ((nI (6 * k)) + 2).toNatClampNeg)]) (rest := [.int rX]) ⟨hx, hb, hml, hown, hts⟩ (j_same l D G v hR.ok H.size (xs ((nI (6 * k)) + 1).toNatClampNeg) (xs ((nI (6 * k)) + 2).toNatClampNeg)) (cwV 2 hts (lV ylL_41 ym_same ys_same yc_same) rfl rfl rfl (by decide +kernel) ⟨Nat.le_of_ble_eq_true rfl, Nat.le_of_ble_eq_true rfl⟩) (yPre (hK.sub (tys' := yTy G) [4, 5, 6, 7, 8, 9, 10, 11, 12] rfl) (w_R hP) (wd_R hD) _) rfl rfl hl.1 rfl (lv_room (Nat.le_of_ble_eq_true rfl)) dL_law_304 ⟨by show 17 + k + 0 + 0 ≤ 600000; omega, by show 1701 + 6 * k + 0 + 0 ≤ 7302250; omega⟩) hS (fun q _ h => hf2 q h) hf2 (fun rY vY tY H2 locs ht2 hvm2 hw2 hB2 hz2 hk2 hS => ?_)
  obtain ⟨hP2, hK2, hD2⟩ := hB2
  rw [ht2] at hP2
  obtain ⟨hP, hD⟩ := w_joinR hP hD hk2 hf2 hP2 hD2
  generalize H2 = H at hP hS ⊢
  obtain ⟨heq, ι2, c2, e2, hc2, he2, hR2⟩ := Q_same hR (xs ((nI (6 * k)) + 1).toNatClampNeg) (xs ((nI (6 * k)) + 2).toNatClampNeg)
  rw [← hw, ← hw2] at heq hR2
  have heq : rX = rY := heq
  refine lv_icmp_eq (tgt := 616) hx hb dL_law_307 (by decide) (fun _ => ?_) (fun cz => absurd heq cz)
  refine lv_iinc (v := nI (6 * (k + 1))) (lv' := [(3, .int (nI (6 * (k + 1)))), (2, .ref G.1), (1, .ref F.1), (0, .ref b)]) hx hb dL_law_616 hl (k := 0) rfl (six k) (by decide) rfl (fun ls hl => ?_)
  refine lv_goto (tgt := 18) hx hb dL_law_619 (by decide) ?_
  refine W.widen (k := 17 + (k + 1)) (n := 1701 + 6 * (k + 1)) (by omega) (by omega) ?_
  exact ih _ _ _ _ _ _ _ _ ⟨hR2, by omega, by omega, hP, hD, hS⟩ hl
set_option maxHeartbeats 8000000 in
set_option maxRecDepth 100000 in
theorem law_c6 {p : Program} {l : Launch} {e : Env} {s : State} {m : MethodId} {below : List Frame} {meth : Method} {c : Code} {b L : Nat} {xs : Nat → Int32} (hL : L ≤ 3072) (C0 : lw_At p s m meth c b L xs) {D : va_G} {F : XF} {G : YF} (hC : LCx D F G s) (k : Nat) (hk : 6 * k + 6 ≤ L) {u : XS} {v : YS} {ι : Nat → Nat} {c0 e0 : Nat} {H : Heap} {locs : List Loc} (hI : LI D F G s k u v ι c0 e0 H locs) {ls : Array Slot} (hl : lv_has ls 4 [(3, .int (nI (6 * k))), (2, .ref G.1), (1, .ref F.1), (0, .ref b)]) (ih : LN p l e s m below meth c b D F G (k + 1)) : W p l e room_1 s m #[Value.ref b] below meth c H locs (17 + k) (1701 + 6 * k) (lw_Z below #[Value.ref b] s) (F0 m 312 ls []) := by
  obtain ⟨hx, hb, hr, hml, hown, hts, hX, hbl, hlocks, hgv⟩ := C0
  obtain ⟨hK, hN, hZ⟩ := hC
  obtain ⟨hR, hc0, he0, hP, hD, hS⟩ := hI
  have hA : ∀ q : Nat, s.heap.size ≤ q → (fun q : Nat => s.heap.size ≤ q) q := fun _ h => h
  have hbA : ¬ (fun q : Nat => s.heap.size ≤ q) b := Nat.not_le.mpr hbl
  have htl : ∀ w ∈ wsL_law, w.before #[Value.ref b] s = true := fun w h => hts w (wsL_law_in w h)
  refine lv_aload_n hx hb dL_law_312 rfl (lv_at hl 2 rfl) ?_
  refine lv_aload_n hx hb dL_law_313 rfl (lv_at hl 3 rfl) ?_
  refine lv_iload_n hx hb dL_law_314 rfl (lv_at hl 0 rfl) ?_
  refine lv_iconst (v := 1) hx hb dL_law_315 (by decide) ?_
  refine lv_iadd hx hb dL_law_316 ?_
  refine va_sld hx hb hX hbl hbA hS (sc_in 1 (by decide) hk hL rfl) dL_law_317 ?_
  refine lv_aload_n hx hb dL_law_318 rfl (lv_at hl 3 rfl) ?_
  refine lv_iload_n hx hb dL_law_319 rfl (lv_at hl 0 rfl) ?_
  refine lv_iconst (v := 2) hx hb dL_law_320 (by decide) ?_
  refine lv_iadd hx hb dL_law_321 ?_
  refine va_sld hx hb hX hbl hbA hS (sc_in 2 (by decide) hk hL rfl) dL_law_322 ?_
  refine lv_aload_n hx hb dL_law_323 rfl (lv_at hl 3 rfl) ?_
  refine lv_iload_n hx hb dL_law_324 rfl (lv_at hl 0 rfl) ?_
  refine lv_iconst (v := 3) hx hb dL_law_325 (by decide) ?_
  refine lv_iadd hx hb dL_law_326 ?_
  refine va_sld hx hb hX hbl hbA hS (sc_in 3 (by decide) hk hL rfl) dL_law_327 ?_
  have hf := xFree (wd_L hD) hS hA
  refine va_calli (va_runV (As := [.int (xs ((nI (6 * k)) + 1).toNatClampNeg), .int (xs ((nI (6 * k)) + 2).toNatClampNeg), .int (xs ((nI (6 * k)) + 3).toNatClampNeg)]) (rest := []) ⟨hx, hb, hml, hown, htl⟩ (k_store l D F u hR.1 H.size (xs ((nI (6 * k)) + 1).toNatClampNeg) (xs ((nI (6 * k)) + 2).toNatClampNeg) (xs ((nI (6 * k)) + 3).toNatClampNeg)) (cwV 3 htl gL_law_X1_store rfl rfl rfl (by decide +kernel) ⟨Nat.le_of_ble_eq_true rfl, Nat.le_of_ble_eq_true rfl⟩) (xPre hN (hK.sub (tys' := xTy F) [0, 1, 2, 3] rfl) (w_L hP) (wd_L hD) hS hA hZ _) rfl rfl hl.1 rfl (lv_room (Nat.le_of_ble_eq_true rfl)) dL_law_328 ⟨by show 17 + k + 0 ≤ 600000; omega, by show 1701 + 6 * k + 0 ≤ 7302250; omega⟩) hS (fun q _ h => hf q h) hf (fun rX uX tX H1 locs ht hvm hw hB hz1 hk1 hS => ?_)
  obtain ⟨hP1, hK1, hD1⟩ := hB
  rw [ht] at hP1
  obtain ⟨hP, hD⟩ := w_joinL hP hD hk1 hf hP1 hD1
  generalize H1 = H at hP hS ⊢
  refine lv_aload_n hx hb dL_law_331 rfl (lv_at hl 1 rfl) ?_
  refine lv_aload_n hx hb dL_law_332 rfl (lv_at hl 3 rfl) ?_
  refine lv_iload_n hx hb dL_law_333 rfl (lv_at hl 0 rfl) ?_
  refine lv_iconst (v := 1) hx hb dL_law_334 (by decide) ?_
  refine lv_iadd hx hb dL_law_335 ?_
  refine va_sld hx hb hX hbl hbA hS (sc_in 1 (by decide) hk hL rfl) dL_law_336 ?_
  refine lv_aload_n hx hb dL_law_337 rfl (lv_at hl 3 rfl) ?_
  refine lv_iload_n hx hb dL_law_338 rfl (lv_at hl 0 rfl) ?_
  refine lv_iconst (v := 2) hx hb dL_law_339 (by decide) ?_
  refine lv_iadd hx hb dL_law_340 ?_
  refine va_sld hx hb hX hbl hbA hS (sc_in 2 (by decide) hk hL rfl) dL_law_341 ?_
  refine lv_aload_n hx hb dL_law_342 rfl (lv_at hl 3 rfl) ?_
  refine lv_iload_n hx hb dL_law_343 rfl (lv_at hl 0 rfl) ?_
  refine lv_iconst (v := 3) hx hb dL_law_344 (by decide) ?_
  refine lv_iadd hx hb dL_law_345 ?_
  refine va_sld hx hb hX hbl hbA hS (sc_in 3 (by decide) hk hL rfl) dL_law_346 ?_
  have hf2 := xFree (wd_R hD) hS hA
  refine va_calli (va_runV (As := [.int (xs ((nI (6 * k)) + 1).toNatClampNeg), .int (xs ((nI (6 * k)) + 2).toNatClampNeg), .int (xs ((nI (6 * k)) + 3).toNatClampNeg)]) (rest := [.int rX]) ⟨hx, hb, hml, hown, hts⟩ (j_store l D G v hR.ok H.size (xs ((nI (6 * k)) + 1).toNatClampNeg) (xs ((nI (6 * k)) + 2).toNatClampNeg) (xs ((nI (6 * k)) + 3).toNatClampNeg)) (cwV 3 hts (lV ylL_45 ym_store ys_store yc_store) rfl rfl rfl (by decide +kernel) ⟨Nat.le_of_ble_eq_true rfl, Nat.le_of_ble_eq_true rfl⟩) (yPre (hK.sub (tys' := yTy G) [4, 5, 6, 7, 8, 9, 10, 11, 12] rfl) (w_R hP) (wd_R hD) _) rfl rfl hl.1 rfl (lv_room (Nat.le_of_ble_eq_true rfl)) dL_law_347 ⟨by show 17 + k + 0 + 0 ≤ 600000; omega, by show 1701 + 6 * k + 0 + 0 ≤ 7302250; omega⟩) hS (fun q _ h => hf2 q h) hf2 (fun rY vY tY H2 locs ht2 hvm2 hw2 hB2 hz2 hk2 hS => ?_)
  obtain ⟨hP2, hK2, hD2⟩ := hB2
  rw [ht2] at hP2
  obtain ⟨hP, hD⟩ := w_joinR hP hD hk2 hf2 hP2 hD2
  generalize H2 = H at hP hS ⊢
  obtain ⟨heq, ι2, c2, e2, hc2, he2, hR2⟩ := Q_store hR (xs ((nI (6 * k)) + 1).toNatClampNeg) (xs ((nI (6 * k)) + 2).toNatClampNeg) (xs ((nI (6 * k)) + 3).toNatClampNeg)
  rw [← hw, ← hw2] at heq hR2
  have heq : rX = rY := heq
  refine lv_icmp_eq (tgt := 616) hx hb dL_law_350 (by decide) (fun _ => ?_) (fun cz => absurd heq cz)
  refine lv_iinc (v := nI (6 * (k + 1))) (lv' := [(3, .int (nI (6 * (k + 1)))), (2, .ref G.1), (1, .ref F.1), (0, .ref b)]) hx hb dL_law_616 hl (k := 0) rfl (six k) (by decide) rfl (fun ls hl => ?_)
  refine lv_goto (tgt := 18) hx hb dL_law_619 (by decide) ?_
  refine W.widen (k := 17 + (k + 1)) (n := 1701 + 6 * (k + 1)) (by omega) (by omega) ?_
  exact ih _ _ _ _ _ _ _ _ ⟨hR2, by omega, by omega, hP, hD, hS⟩ hl
