/-! methods of the class that may throw or make (by program: wip/gen/xgen.py) -/
def f_N_rowOf_29 (Kr : (Nat → Nat) → mS → Int32 → Int32 → Int32 → Nat → Option (bO Unit))  (x5 : Nat) (g : Nat → Nat) (v : mS) : Option (bO Nat) := gd (rowB x5) (some (.inl x5, g, v))
set_option maxHeartbeats 4000000 in
set_option maxRecDepth 100000 in
theorem w_N_rowOf_29 {p : Program} {l : Launch} {e : Env} {s : State} {m : MethodId} {args : Array Value} {below : List Frame} {meth : Method} {c : Code} {Z : bZ} {A : Nat → Prop} {q0 g0 : Nat → Nat} {o : bO Nat} {rB : Nat} {Kr : (Nat → Nat) → mS → Int32 → Int32 → Int32 → Nat → Option (bO Unit)} (hMr : ∀ {g : Nat → Nat} {v : mS} {z1 : Int32} {z2 : Int32} {z3 : Int32} {z4 : Nat} {o : bO Unit}, Kr g v z1 z2 z3 z4 = some o → gL g ≤ gL o.2.1) (hKr : ∀ {q g : Nat → Nat} {v : mS} {z1 : Int32} {z2 : Int32} {z3 : Int32} {z4 : Nat} {o : bO Unit}, Kr g v z1 z2 z3 z4 = some o → bx_M l Z rB y_N_work b_N_work 6 none [.ref (q 25), .int z1, .int z2, .int z3, .ref (q z4)] q g v enV o) (C0 : bn_C "FilterBench$Runner" b_N_rowOf 6 Z A p l s m args meth c) (hr : meth.sig.returnType = (some (.object "FilterBench$Row"))) (hnx : ∀ x ∈ c.exceptionTable.toList, False) : ∀ (x5 : Nat) (g : Nat → Nat) (v : mS) (q : Nat → Nat) (H : Heap) (locs : List Loc) (ls : Array Slot), f_N_rowOf_29 Kr  x5 g v = some o → qs q0 q → gL g0 ≤ gL g → gL g ≤ gL o.2.1 → bn_H Z A s (q, g, v) H locs → lv_has ls 6 [(5, .ref (q x5))] → bx_W p l e s m args below meth c Z A q0 g0 enR o (rB + 7) g H locs (F0 m 29 ls []) := by
  have hx := C0.1
  have hb := C0.2.1
  have hl0 := C0.2.2.2.2.2.2.2.2.2
  intro x5 g v q H locs ls h hq hm0 hm hH hl
  unfold f_N_rowOf_29 at h
  have hcl9 := bx_room (h0 := (rB + 7)) (o := o) hm0 hm
  obtain ⟨hgx5, h⟩ := gd_out h
  refine lv_aload hx hb d_N_rowOf_29 (lv_at hl 0 rfl) ?_
  exact bx_rret rfl C0 hr (Or.inl ⟨_, rfl⟩) hq hH hm0 d_N_rowOf_31 h
def f_N_rowOf (Kr : (Nat → Nat) → mS → Int32 → Int32 → Int32 → Nat → Option (bO Unit)) (g : Nat → Nat) (v : mS) (x1 : Int32) (x2 : Int32) (x3 : Int32) (x4 : Int32) : Option (bO Nat) := mg g (gd (inB ((x3 * 2) + x4) 16) (nm (28 + 2 * ((x3 * 2) + x4 : Int32).toNatClampNeg) fun j_2 => bv (f_R_clear g v j_2) fun v_3 => bo (Kr g v_3 x1 x2 (x3 + 1) j_2) fun r9 g9 v9 => f_N_rowOf_29 Kr j_2 g9 v9))
theorem mn_N_rowOf {Kr : (Nat → Nat) → mS → Int32 → Int32 → Int32 → Nat → Option (bO Unit)} {g : Nat → Nat} {v : mS}  {x1 : Int32} {x2 : Int32} {x3 : Int32} {x4 : Int32} {o : bO Nat} (h : f_N_rowOf Kr g v x1 x2 x3 x4 = some o) : gL g ≤ gL o.2.1 := (mg_out h).1
set_option maxHeartbeats 4000000 in
set_option maxRecDepth 100000 in
theorem c_N_rowOf {l : Launch} {Z : bZ} {rB : Nat} {Kr : (Nat → Nat) → mS → Int32 → Int32 → Int32 → Nat → Option (bO Unit)} (hMr : ∀ {g : Nat → Nat} {v : mS} {z1 : Int32} {z2 : Int32} {z3 : Int32} {z4 : Nat} {o : bO Unit}, Kr g v z1 z2 z3 z4 = some o → gL g ≤ gL o.2.1) (hKr : ∀ {q g : Nat → Nat} {v : mS} {z1 : Int32} {z2 : Int32} {z3 : Int32} {z4 : Nat} {o : bO Unit}, Kr g v z1 z2 z3 z4 = some o → bx_M l Z rB y_N_work b_N_work 6 none [.ref (q 25), .int z1, .int z2, .int z3, .ref (q z4)] q g v enV o) (hl0 : l.stackTraces = false) {q g : Nat → Nat} {v : mS}  {x1 : Int32} {x2 : Int32} {x3 : Int32} {x4 : Int32} {o : bO Nat} (h : f_N_rowOf Kr g v x1 x2 x3 x4 = some o) : bx_M l Z (rB + 7) y_N_rowOf b_N_rowOf 6 (some (.object "FilterBench$Row")) [.ref (q 25), .int x1, .int x2, .int x3, .int x4] q g v enR o := by
  refine bx_of hl0 (by decide +kernel) (Nat.le_of_ble_eq_true rfl) ?_
  intro p e s m args below meth c A ls C0 hr hnx hl hH
  have hx := C0.1
  have hb := C0.2.1
  have C0 : bn_C "FilterBench$Runner" b_N_rowOf 6 Z A p l s m args meth c := C0
  have hl : lv_has ls 6 [(0, .ref (q 25)), (1, .int x1), (2, .int x2), (3, .int x3), (4, .int x4)] := hl
  obtain ⟨hm, h⟩ := mg_out h
  have hm0 : gL g ≤ gL g := Nat.le_refl _
  have hq : qs q q := qs.rf
  have hcl9 := bx_room (h0 := (rB + 7)) (o := o) hm0 hm
  refine lv_aload_n hx hb d_N_rowOf_0 rfl (lv_at hl 0 rfl) ?_
  refine bn_g_N_rows ⟨by decide, by decide⟩ C0 hH d_N_rowOf_1 ?_
  refine lv_iload_n hx hb d_N_rowOf_4 rfl (lv_at hl 3 rfl) ?_
  refine lv_iconst (v := 2) hx hb d_N_rowOf_5 (by decide) ?_
  refine lv_imul hx hb d_N_rowOf_6 ?_
  refine lv_iload hx hb d_N_rowOf_7 (lv_at hl 4 rfl) ?_
  refine lv_iadd hx hb d_N_rowOf_9 ?_
  obtain ⟨g_1, h⟩ := gd_out h
  obtain ⟨j_2, hj_2, h⟩ := nm_out h
  have hgj_2 : rowB j_2 = true := by rw [hj_2]; exact row_of_in g_1
  refine bn_aldR C0 hH (inB_in g_1) d_N_rowOf_10 ?_
  rw [← hj_2]
  refine lv_astore (lv' := [(5, .ref (q j_2)), (0, .ref (q 25)), (1, .int x1), (2, .int x2), (3, .int x3), (4, .int x4)]) hx hb d_N_rowOf_11 hl (by decide) rfl (fun ls hl => ?_)
  refine lv_aload hx hb d_N_rowOf_13 (lv_at hl 0 rfl) ?_
  obtain ⟨v_3, hc_4, h⟩ := bv_out h
  refine bn_cv (w := (q, g, v_3)) (as := []) (rest := []) C0 hH (ci := 2) (rowB_k hgj_2) (by decide) rfl (c_R_clear hl0 hc_4) yy_R_clear q_603 ⟨by simp only [bn_rm, dK]; omega, by simp only [bn_rm, dK]; omega⟩ rfl hl.1 rfl (Nat.le_of_ble_eq_true rfl) hcl9 d_N_rowOf_15 (fun H locs hH => ?_)
  refine lv_aload_n hx hb d_N_rowOf_18 rfl (lv_at hl 1 rfl) ?_
  refine lv_iload_n hx hb d_N_rowOf_19 rfl (lv_at hl 2 rfl) ?_
  refine lv_iload_n hx hb d_N_rowOf_20 rfl (lv_at hl 3 rfl) ?_
  refine lv_iload_n hx hb d_N_rowOf_21 rfl (lv_at hl 4 rfl) ?_
  refine lv_iconst (v := 1) hx hb d_N_rowOf_22 (by decide) ?_
  refine lv_iadd hx hb d_N_rowOf_23 ?_
  refine lv_aload hx hb d_N_rowOf_24 (lv_at hl 0 rfl) ?_
  obtain ⟨o1, hc, hm2, ht9, hx1, hk9⟩ := bo_out h
  have hm1 := hMr hc
  refine bx_cV (as := [.int x1, .int x2, .int (x3 + 1), .ref (q j_2)]) (rest := []) C0 hnx hq hH hm0 hm1 hm2 ht9 (ci := 3) ⟨by decide, by decide⟩ (by decide) rfl (hKr hc) yy_N_work q_574 ⟨by first | omega | (simp only [dK]; omega), by first | omega | (simp only [dK]; omega)⟩ rfl hl.1 rfl (Nat.le_of_ble_eq_true rfl) d_N_rowOf_26 hx1 (fun r9 q1 H locs hr1 hq0 hq1 hm9 hH => ?_)
  have h := hk9 r9 hr1
  have e9 : q1 j_2 = q j_2 := (hq1 j_2 (rowB_ne hgj_2).1 (rowB_ne hgj_2).2)
  try rw [← e9] at hl
  try rw [← e9]
  exact w_N_rowOf_29 hMr hKr C0 hr hnx  _ _ _ _ _ _ _ h hq0 hm9 hm2 hH (lv_sub hl [0] rfl)
def f_N_choose_45 (Kr : (Nat → Nat) → mS → Int32 → Int32 → Int32 → Nat → Option (bO Unit))   (g : Nat → Nat) (v : mS) : Option (bO Unit) := some (.inl (), g, v)
set_option maxHeartbeats 4000000 in
set_option maxRecDepth 100000 in
theorem w_N_choose_45 {p : Program} {l : Launch} {e : Env} {s : State} {m : MethodId} {args : Array Value} {below : List Frame} {meth : Method} {c : Code} {Z : bZ} {A : Nat → Prop} {q0 g0 : Nat → Nat} {o : bO Unit} {rB : Nat} {Kr : (Nat → Nat) → mS → Int32 → Int32 → Int32 → Nat → Option (bO Unit)} (hMr : ∀ {g : Nat → Nat} {v : mS} {z1 : Int32} {z2 : Int32} {z3 : Int32} {z4 : Nat} {o : bO Unit}, Kr g v z1 z2 z3 z4 = some o → gL g ≤ gL o.2.1) (hKr : ∀ {q g : Nat → Nat} {v : mS} {z1 : Int32} {z2 : Int32} {z3 : Int32} {z4 : Nat} {o : bO Unit}, Kr g v z1 z2 z3 z4 = some o → bx_M l Z rB y_N_work b_N_work 6 none [.ref (q 25), .int z1, .int z2, .int z3, .ref (q z4)] q g v enV o) (C0 : bn_C "FilterBench$Runner" b_N_choose 7 Z A p l s m args meth c) (hr : meth.sig.returnType = none) (hnx : ∀ x ∈ c.exceptionTable.toList, False) : ∀  (g : Nat → Nat) (v : mS) (q : Nat → Nat) (H : Heap) (locs : List Loc) (ls : Array Slot), f_N_choose_45 Kr   g v = some o → qs q0 q → gL g0 ≤ gL g → gL g ≤ gL o.2.1 → bn_H Z A s (q, g, v) H locs → lv_has ls 7 [] → bx_W p l e s m args below meth c Z A q0 g0 enV o (rB + 7) g H locs (F0 m 45 ls []) := by
  have hx := C0.1
  have hb := C0.2.1
  have hl0 := C0.2.2.2.2.2.2.2.2.2
  intro  g v q H locs ls h hq hm0 hm hH hl
  unfold f_N_choose_45 at h
  have hcl9 := bx_room (h0 := (rB + 7)) (o := o) hm0 hm
  exact bx_vret C0 hr hq hH hm0 d_N_choose_45 h
def f_N_choose_30 (Kr : (Nat → Nat) → mS → Int32 → Int32 → Int32 → Nat → Option (bO Unit))  (x2 : Int32) (x4 : Int32) (x5 : Nat) (y0 : Int32) (g : Nat → Nat) (v : mS) : Option (bO Unit) := gd (rowB x5) (bo (Kr g v y0 x2 (x4 + 1) x5) fun r9 g9 v9 => f_N_choose_45 Kr g9 v9)
set_option maxHeartbeats 4000000 in
set_option maxRecDepth 100000 in
theorem w_N_choose_30 {p : Program} {l : Launch} {e : Env} {s : State} {m : MethodId} {args : Array Value} {below : List Frame} {meth : Method} {c : Code} {Z : bZ} {A : Nat → Prop} {q0 g0 : Nat → Nat} {o : bO Unit} {rB : Nat} {Kr : (Nat → Nat) → mS → Int32 → Int32 → Int32 → Nat → Option (bO Unit)} (hMr : ∀ {g : Nat → Nat} {v : mS} {z1 : Int32} {z2 : Int32} {z3 : Int32} {z4 : Nat} {o : bO Unit}, Kr g v z1 z2 z3 z4 = some o → gL g ≤ gL o.2.1) (hKr : ∀ {q g : Nat → Nat} {v : mS} {z1 : Int32} {z2 : Int32} {z3 : Int32} {z4 : Nat} {o : bO Unit}, Kr g v z1 z2 z3 z4 = some o → bx_M l Z rB y_N_work b_N_work 6 none [.ref (q 25), .int z1, .int z2, .int z3, .ref (q z4)] q g v enV o) (C0 : bn_C "FilterBench$Runner" b_N_choose 7 Z A p l s m args meth c) (hr : meth.sig.returnType = none) (hnx : ∀ x ∈ c.exceptionTable.toList, False) : ∀ (x2 : Int32) (x4 : Int32) (x5 : Nat) (y0 : Int32) (g : Nat → Nat) (v : mS) (q : Nat → Nat) (H : Heap) (locs : List Loc) (ls : Array Slot), f_N_choose_30 Kr  x2 x4 x5 y0 g v = some o → qs q0 q → gL g0 ≤ gL g → gL g ≤ gL o.2.1 → bn_H Z A s (q, g, v) H locs → lv_has ls 7 [(0, .ref (q 25)), (2, .int x2), (4, .int x4), (5, .ref (q x5))] → bx_W p l e s m args below meth c Z A q0 g0 enV o (rB + 7) g H locs (F0 m 30 ls [.int y0]) := by
  have hx := C0.1
  have hb := C0.2.1
  have hl0 := C0.2.2.2.2.2.2.2.2.2
  intro x2 x4 x5 y0 g v q H locs ls h hq hm0 hm hH hl
  unfold f_N_choose_30 at h
  have hcl9 := bx_room (h0 := (rB + 7)) (o := o) hm0 hm
  obtain ⟨hgx5, h⟩ := gd_out h
  refine lv_istore (lv' := [(6, .int y0), (0, .ref (q 25)), (2, .int x2), (4, .int x4), (5, .ref (q x5))]) hx hb d_N_choose_30 hl (by decide) rfl (fun ls hl => ?_)
  refine lv_aload_n hx hb d_N_choose_32 rfl (lv_at hl 1 rfl) ?_
  refine lv_iload hx hb d_N_choose_33 (lv_at hl 0 rfl) ?_
  refine lv_iload_n hx hb d_N_choose_35 rfl (lv_at hl 2 rfl) ?_
  refine lv_iload hx hb d_N_choose_36 (lv_at hl 3 rfl) ?_
  refine lv_iconst (v := 1) hx hb d_N_choose_38 (by decide) ?_
  refine lv_iadd hx hb d_N_choose_39 ?_
  refine lv_aload hx hb d_N_choose_40 (lv_at hl 4 rfl) ?_
  obtain ⟨o1, hc, hm2, ht9, hx1, hk9⟩ := bo_out h
  have hm1 := hMr hc
  refine bx_cV (as := [.int y0, .int x2, .int (x4 + 1), .ref (q x5)]) (rest := []) C0 hnx hq hH hm0 hm1 hm2 ht9 (ci := 3) ⟨by decide, by decide⟩ (by decide) rfl (hKr hc) yy_N_work q_574 ⟨by first | omega | (simp only [dK]; omega), by first | omega | (simp only [dK]; omega)⟩ rfl hl.1 rfl (Nat.le_of_ble_eq_true rfl) d_N_choose_42 hx1 (fun r9 q1 H locs hr1 hq0 hq1 hm9 hH => ?_)
  have h := hk9 r9 hr1
  exact w_N_choose_45 hMr hKr C0 hr hnx   _ _ _ _ _ _ h hq0 hm9 hm2 hH (lv_sub hl [] rfl)
def f_N_choose (Kr : (Nat → Nat) → mS → Int32 → Int32 → Int32 → Nat → Option (bO Unit)) (g : Nat → Nat) (v : mS) (x1 : Int32) (x2 : Int32) (x3 : Int32) (x4 : Int32) (x5 : Nat) : Option (bO Unit) := mg g (gd (rowB x5) (bi (f_V_isGood g v x3) fun r_3 v_1 => if r_3 = 0 then (gd (filB (9 + 4 * g 25)) (bi (f_F_thirdPart g v_1 ((9 + 4 * g 25)) x1) fun r_8 v_6 => f_N_choose_30 Kr x2 x4 x5 r_8 g v_6)) else (gd (filB (9 + 4 * g 25)) (bi (f_F_secondPart g v_1 ((9 + 4 * g 25)) x1) fun r_12 v_10 => f_N_choose_30 Kr x2 x4 x5 r_12 g v_10))))
theorem mn_N_choose {Kr : (Nat → Nat) → mS → Int32 → Int32 → Int32 → Nat → Option (bO Unit)} {g : Nat → Nat} {v : mS}  {x1 : Int32} {x2 : Int32} {x3 : Int32} {x4 : Int32} {x5 : Nat} {o : bO Unit} (h : f_N_choose Kr g v x1 x2 x3 x4 x5 = some o) : gL g ≤ gL o.2.1 := (mg_out h).1
set_option maxHeartbeats 4000000 in
set_option maxRecDepth 100000 in
theorem c_N_choose {l : Launch} {Z : bZ} {rB : Nat} {Kr : (Nat → Nat) → mS → Int32 → Int32 → Int32 → Nat → Option (bO Unit)} (hMr : ∀ {g : Nat → Nat} {v : mS} {z1 : Int32} {z2 : Int32} {z3 : Int32} {z4 : Nat} {o : bO Unit}, Kr g v z1 z2 z3 z4 = some o → gL g ≤ gL o.2.1) (hKr : ∀ {q g : Nat → Nat} {v : mS} {z1 : Int32} {z2 : Int32} {z3 : Int32} {z4 : Nat} {o : bO Unit}, Kr g v z1 z2 z3 z4 = some o → bx_M l Z rB y_N_work b_N_work 6 none [.ref (q 25), .int z1, .int z2, .int z3, .ref (q z4)] q g v enV o) (hl0 : l.stackTraces = false) {q g : Nat → Nat} {v : mS}  {x1 : Int32} {x2 : Int32} {x3 : Int32} {x4 : Int32} {x5 : Nat} {o : bO Unit} (h : f_N_choose Kr g v x1 x2 x3 x4 x5 = some o) : bx_M l Z (rB + 7) y_N_choose b_N_choose 7 none [.ref (q 25), .int x1, .int x2, .int x3, .int x4, .ref (q x5)] q g v enV o := by
  refine bx_of hl0 (by decide +kernel) (Nat.le_of_ble_eq_true rfl) ?_
  intro p e s m args below meth c A ls C0 hr hnx hl hH
  have hx := C0.1
  have hb := C0.2.1
  have C0 : bn_C "FilterBench$Runner" b_N_choose 7 Z A p l s m args meth c := C0
  have hl : lv_has ls 7 [(0, .ref (q 25)), (1, .int x1), (2, .int x2), (3, .int x3), (4, .int x4), (5, .ref (q x5))] := hl
  obtain ⟨hm, h⟩ := mg_out h
  have hm0 : gL g ≤ gL g := Nat.le_refl _
  have hq : qs q q := qs.rf
  have hcl9 := bx_room (h0 := (rB + 7)) (o := o) hm0 hm
  obtain ⟨hgx5, h⟩ := gd_out h
  refine lv_aload_n hx hb d_N_choose_0 rfl (lv_at hl 0 rfl) ?_
  refine bn_g_N_values ⟨by decide, by decide⟩ C0 hH d_N_choose_1 ?_
  refine lv_iload_n hx hb d_N_choose_4 rfl (lv_at hl 3 rfl) ?_
  obtain ⟨r_3, v_1, hc_2, h⟩ := bi_out h
  refine bn_ci (r := r_3) (w := (q, g, v_1)) (as := [.int x3]) (rest := []) C0 hH (ci := 4) ⟨by decide, by decide⟩ (by decide) rfl (c_V_isGood hl0 hc_2) yy_V_isGood q_708 ⟨by simp only [bn_rm, dK]; omega, by simp only [bn_rm, dK]; omega⟩ rfl hl.1 rfl (Nat.le_of_ble_eq_true rfl) hcl9 d_N_choose_5 (fun H locs hH => ?_)
  refine lv_if_eq (tgt := 22) hx hb d_N_choose_8 (by decide) (fun c_4 => ?_) (fun c_4 => ?_)
  · rw [if_pos c_4] at h
    refine lv_aload_n hx hb d_N_choose_22 rfl (lv_at hl 0 rfl) ?_
    obtain ⟨g_5, h⟩ := gd_out h
    refine bn_g_N_filter ⟨by decide, by decide⟩ C0 hH d_N_choose_23 ?_
    refine lv_iload_n hx hb d_N_choose_26 rfl (lv_at hl 1 rfl) ?_
    obtain ⟨r_8, v_6, hc_7, h⟩ := bi_out h
    refine bn_ci (r := r_8) (w := (q, g, v_6)) (as := [.int x1]) (rest := []) C0 hH (ci := 1) (filB_k g_5) (by decide) rfl (c_F_thirdPart hl0 hc_7) yy_F_thirdPart q_728 ⟨by simp only [bn_rm, dK]; omega, by simp only [bn_rm, dK]; omega⟩ rfl hl.1 rfl (Nat.le_of_ble_eq_true rfl) hcl9 d_N_choose_27 (fun H locs hH => ?_)
    exact w_N_choose_30 hMr hKr C0 hr hnx  _ _ _ _ _ _ _ _ _ _ h hq hm0 hm hH (lv_sub hl [0, 2, 4, 5] rfl)
  · rw [if_neg c_4] at h
    refine lv_aload_n hx hb d_N_choose_11 rfl (lv_at hl 0 rfl) ?_
    obtain ⟨g_9, h⟩ := gd_out h
    refine bn_g_N_filter ⟨by decide, by decide⟩ C0 hH d_N_choose_12 ?_
    refine lv_iload_n hx hb d_N_choose_15 rfl (lv_at hl 1 rfl) ?_
    obtain ⟨r_12, v_10, hc_11, h⟩ := bi_out h
    refine bn_ci (r := r_12) (w := (q, g, v_10)) (as := [.int x1]) (rest := []) C0 hH (ci := 1) (filB_k g_9) (by decide) rfl (c_F_secondPart hl0 hc_11) yy_F_secondPart q_579 ⟨by simp only [bn_rm, dK]; omega, by simp only [bn_rm, dK]; omega⟩ rfl hl.1 rfl (Nat.le_of_ble_eq_true rfl) hcl9 d_N_choose_16 (fun H locs hH => ?_)
    refine lv_goto (tgt := 30) hx hb d_N_choose_19 (by decide) ?_
    exact w_N_choose_30 hMr hKr C0 hr hnx  _ _ _ _ _ _ _ _ _ _ h hq hm0 hm hH (lv_sub hl [0, 2, 4, 5] rfl)
def f_N_bind_46 (Kr : (Nat → Nat) → mS → Int32 → Int32 → Int32 → Nat → Option (bO Unit))  (x6 : Int32) (x7 : Int32) (g : Nat → Nat) (v : mS) : Option (bO Unit) := gd (inB x6 4) (nm (sU v 26 (x6 : Int32).toNatClampNeg x7) fun v_2 => some (.inl (), g, v_2))
set_option maxHeartbeats 4000000 in
set_option maxRecDepth 100000 in
theorem w_N_bind_46 {p : Program} {l : Launch} {e : Env} {s : State} {m : MethodId} {args : Array Value} {below : List Frame} {meth : Method} {c : Code} {Z : bZ} {A : Nat → Prop} {q0 g0 : Nat → Nat} {o : bO Unit} {rB : Nat} {Kr : (Nat → Nat) → mS → Int32 → Int32 → Int32 → Nat → Option (bO Unit)} (hMr : ∀ {g : Nat → Nat} {v : mS} {z1 : Int32} {z2 : Int32} {z3 : Int32} {z4 : Nat} {o : bO Unit}, Kr g v z1 z2 z3 z4 = some o → gL g ≤ gL o.2.1) (hKr : ∀ {q g : Nat → Nat} {v : mS} {z1 : Int32} {z2 : Int32} {z3 : Int32} {z4 : Nat} {o : bO Unit}, Kr g v z1 z2 z3 z4 = some o → bx_M l Z rB y_N_work b_N_work 6 none [.ref (q 25), .int z1, .int z2, .int z3, .ref (q z4)] q g v enV o) (C0 : bn_C "FilterBench$Runner" b_N_bind 8 Z A p l s m args meth c) (hr : meth.sig.returnType = none) (hnx : ∀ x ∈ c.exceptionTable.toList, False) : ∀ (x6 : Int32) (x7 : Int32) (g : Nat → Nat) (v : mS) (q : Nat → Nat) (H : Heap) (locs : List Loc) (ls : Array Slot), f_N_bind_46 Kr  x6 x7 g v = some o → qs q0 q → gL g0 ≤ gL g → gL g ≤ gL o.2.1 → bn_H Z A s (q, g, v) H locs → lv_has ls 8 [(0, .ref (q 25)), (6, .int x6), (7, .int x7)] → bx_W p l e s m args below meth c Z A q0 g0 enV o (rB + 7) g H locs (F0 m 46 ls []) := by
  have hx := C0.1
  have hb := C0.2.1
  have hl0 := C0.2.2.2.2.2.2.2.2.2
  intro x6 x7 g v q H locs ls h hq hm0 hm hH hl
  unfold f_N_bind_46 at h
  have hcl9 := bx_room (h0 := (rB + 7)) (o := o) hm0 hm
  refine lv_aload_n hx hb d_N_bind_46 rfl (lv_at hl 0 rfl) ?_
  refine bn_g_N_variables ⟨by decide, by decide⟩ C0 hH d_N_bind_47 ?_
  refine lv_iload hx hb d_N_bind_50 (lv_at hl 1 rfl) ?_
  refine lv_iload hx hb d_N_bind_52 (lv_at hl 2 rfl) ?_
  obtain ⟨g_1, h⟩ := gd_out h
  obtain ⟨v_2, hv_2, h⟩ := nm_out h
  refine bn_sto ⟨by decide, by decide⟩ C0 hH (inB_in g_1) d_N_bind_54 (fun H locs hH => ?_)
  have hH : bn_H Z A s (q, g, v_2) H locs := by rw [hv_2]; exact hH
  exact bx_vret C0 hr hq hH hm0 d_N_bind_55 h
def f_N_bind (Kr : (Nat → Nat) → mS → Int32 → Int32 → Int32 → Nat → Option (bO Unit)) (g : Nat → Nat) (v : mS) (x1 : Int32) (x2 : Int32) (x3 : Int32) (x4 : Int32) (x5 : Nat) : Option (bO Unit) := mg g (gd (rowB x5) (gd (filB (9 + 4 * g 25)) (bi (f_F_choiceAt g v ((9 + 4 * g 25)) x1) fun r_4 v_2 => gd (inB r_4 4) (nm (v_2 26 (r_4 : Int32).toNatClampNeg) fun x7_6 => gd (inB r_4 4) (nm (sU v_2 26 (r_4 : Int32).toNatClampNeg x3) fun v_8 => gd (filB (9 + 4 * g 25)) (bi (f_F_secondPart g v_8 ((9 + 4 * g 25)) x1) fun r_12 v_10 => bo (Kr g v_10 r_12 x2 (x4 + 1) x5) fun r9 g9 v9 => f_N_bind_46 Kr r_4 x7_6 g9 v9))))))
theorem mn_N_bind {Kr : (Nat → Nat) → mS → Int32 → Int32 → Int32 → Nat → Option (bO Unit)} {g : Nat → Nat} {v : mS}  {x1 : Int32} {x2 : Int32} {x3 : Int32} {x4 : Int32} {x5 : Nat} {o : bO Unit} (h : f_N_bind Kr g v x1 x2 x3 x4 x5 = some o) : gL g ≤ gL o.2.1 := (mg_out h).1
set_option maxHeartbeats 4000000 in
set_option maxRecDepth 100000 in
theorem c_N_bind {l : Launch} {Z : bZ} {rB : Nat} {Kr : (Nat → Nat) → mS → Int32 → Int32 → Int32 → Nat → Option (bO Unit)} (hMr : ∀ {g : Nat → Nat} {v : mS} {z1 : Int32} {z2 : Int32} {z3 : Int32} {z4 : Nat} {o : bO Unit}, Kr g v z1 z2 z3 z4 = some o → gL g ≤ gL o.2.1) (hKr : ∀ {q g : Nat → Nat} {v : mS} {z1 : Int32} {z2 : Int32} {z3 : Int32} {z4 : Nat} {o : bO Unit}, Kr g v z1 z2 z3 z4 = some o → bx_M l Z rB y_N_work b_N_work 6 none [.ref (q 25), .int z1, .int z2, .int z3, .ref (q z4)] q g v enV o) (hl0 : l.stackTraces = false) {q g : Nat → Nat} {v : mS}  {x1 : Int32} {x2 : Int32} {x3 : Int32} {x4 : Int32} {x5 : Nat} {o : bO Unit} (h : f_N_bind Kr g v x1 x2 x3 x4 x5 = some o) : bx_M l Z (rB + 7) y_N_bind b_N_bind 8 none [.ref (q 25), .int x1, .int x2, .int x3, .int x4, .ref (q x5)] q g v enV o := by
  refine bx_of hl0 (by decide +kernel) (Nat.le_of_ble_eq_true rfl) ?_
  intro p e s m args below meth c A ls C0 hr hnx hl hH
  have hx := C0.1
  have hb := C0.2.1
  have C0 : bn_C "FilterBench$Runner" b_N_bind 8 Z A p l s m args meth c := C0
  have hl : lv_has ls 8 [(0, .ref (q 25)), (1, .int x1), (2, .int x2), (3, .int x3), (4, .int x4), (5, .ref (q x5))] := hl
  obtain ⟨hm, h⟩ := mg_out h
  have hm0 : gL g ≤ gL g := Nat.le_refl _
  have hq : qs q q := qs.rf
  have hcl9 := bx_room (h0 := (rB + 7)) (o := o) hm0 hm
  obtain ⟨hgx5, h⟩ := gd_out h
  refine lv_aload_n hx hb d_N_bind_0 rfl (lv_at hl 0 rfl) ?_
  obtain ⟨g_1, h⟩ := gd_out h
  refine bn_g_N_filter ⟨by decide, by decide⟩ C0 hH d_N_bind_1 ?_
  refine lv_iload_n hx hb d_N_bind_4 rfl (lv_at hl 1 rfl) ?_
  obtain ⟨r_4, v_2, hc_3, h⟩ := bi_out h
  refine bn_ci (r := r_4) (w := (q, g, v_2)) (as := [.int x1]) (rest := []) C0 hH (ci := 1) (filB_k g_1) (by decide) rfl (c_F_choiceAt hl0 hc_3) yy_F_choiceAt q_500 ⟨by simp only [bn_rm, dK]; omega, by simp only [bn_rm, dK]; omega⟩ rfl hl.1 rfl (Nat.le_of_ble_eq_true rfl) hcl9 d_N_bind_5 (fun H locs hH => ?_)
  refine lv_istore (lv' := [(6, .int r_4), (0, .ref (q 25)), (1, .int x1), (2, .int x2), (3, .int x3), (4, .int x4), (5, .ref (q x5))]) hx hb d_N_bind_8 hl (by decide) rfl (fun ls hl => ?_)
  refine lv_aload_n hx hb d_N_bind_10 rfl (lv_at hl 1 rfl) ?_
  refine bn_g_N_variables ⟨by decide, by decide⟩ C0 hH d_N_bind_11 ?_
  refine lv_iload hx hb d_N_bind_14 (lv_at hl 0 rfl) ?_
  obtain ⟨g_5, h⟩ := gd_out h
  refine bn_ld ⟨by decide, by decide⟩ C0 hH (inB_in g_5) d_N_bind_16 ?_
  obtain ⟨x7_6, hx7_6, h⟩ := nm_out h
  refine fu_i hx7_6 ?_
  refine lv_istore (lv' := [(7, .int x7_6), (6, .int r_4), (0, .ref (q 25)), (1, .int x1), (2, .int x2), (3, .int x3), (4, .int x4), (5, .ref (q x5))]) hx hb d_N_bind_17 hl (by decide) rfl (fun ls hl => ?_)
  refine lv_aload_n hx hb d_N_bind_19 rfl (lv_at hl 2 rfl) ?_
  refine bn_g_N_variables ⟨by decide, by decide⟩ C0 hH d_N_bind_20 ?_
  refine lv_iload hx hb d_N_bind_23 (lv_at hl 1 rfl) ?_
  refine lv_iload_n hx hb d_N_bind_25 rfl (lv_at hl 5 rfl) ?_
  obtain ⟨g_7, h⟩ := gd_out h
  obtain ⟨v_8, hv_8, h⟩ := nm_out h
  refine bn_sto ⟨by decide, by decide⟩ C0 hH (inB_in g_7) d_N_bind_26 (fun H locs hH => ?_)
  have hH : bn_H Z A s (q, g, v_8) H locs := by rw [hv_8]; exact hH
  refine lv_aload_n hx hb d_N_bind_27 rfl (lv_at hl 2 rfl) ?_
  refine lv_aload_n hx hb d_N_bind_28 rfl (lv_at hl 2 rfl) ?_
  obtain ⟨g_9, h⟩ := gd_out h
  refine bn_g_N_filter ⟨by decide, by decide⟩ C0 hH d_N_bind_29 ?_
  refine lv_iload_n hx hb d_N_bind_32 rfl (lv_at hl 3 rfl) ?_
  obtain ⟨r_12, v_10, hc_11, h⟩ := bi_out h
  refine bn_ci (r := r_12) (w := (q, g, v_10)) (as := [.int x1]) (rest := [.ref (q 25)]) C0 hH (ci := 1) (filB_k g_9) (by decide) rfl (c_F_secondPart hl0 hc_11) yy_F_secondPart q_579 ⟨by simp only [bn_rm, dK]; omega, by simp only [bn_rm, dK]; omega⟩ rfl hl.1 rfl (Nat.le_of_ble_eq_true rfl) hcl9 d_N_bind_33 (fun H locs hH => ?_)
  refine lv_iload_n hx hb d_N_bind_36 rfl (lv_at hl 4 rfl) ?_
  refine lv_iload hx hb d_N_bind_37 (lv_at hl 6 rfl) ?_
  refine lv_iconst (v := 1) hx hb d_N_bind_39 (by decide) ?_
  refine lv_iadd hx hb d_N_bind_40 ?_
  refine lv_aload hx hb d_N_bind_41 (lv_at hl 7 rfl) ?_
  obtain ⟨o1, hc, hm2, ht9, hx1, hk9⟩ := bo_out h
  have hm1 := hMr hc
  refine bx_cV (as := [.int r_12, .int x2, .int (x4 + 1), .ref (q x5)]) (rest := []) C0 hnx hq hH hm0 hm1 hm2 ht9 (ci := 3) ⟨by decide, by decide⟩ (by decide) rfl (hKr hc) yy_N_work q_574 ⟨by first | omega | (simp only [dK]; omega), by first | omega | (simp only [dK]; omega)⟩ rfl hl.1 rfl (Nat.le_of_ble_eq_true rfl) d_N_bind_43 hx1 (fun r9 q1 H locs hr1 hq0 hq1 hm9 hH => ?_)
  have h := hk9 r9 hr1
  have e9 : q1 25 = q 25 := (hq1 25 (by decide) (by decide))
  try rw [← e9] at hl
  try rw [← e9]
  exact w_N_bind_46 hMr hKr C0 hr hnx  _ _ _ _ _ _ _ _ h hq0 hm9 hm2 hH (lv_sub hl [2, 1, 0] rfl)
def f_N_bothOrEither_47 (Kr : (Nat → Nat) → mS → Int32 → Int32 → Int32 → Nat → Option (bO Unit))   (g : Nat → Nat) (v : mS) : Option (bO Unit) := some (.inl (), g, v)
set_option maxHeartbeats 4000000 in
set_option maxRecDepth 100000 in
theorem w_N_bothOrEither_47 {p : Program} {l : Launch} {e : Env} {s : State} {m : MethodId} {args : Array Value} {below : List Frame} {meth : Method} {c : Code} {Z : bZ} {A : Nat → Prop} {q0 g0 : Nat → Nat} {o : bO Unit} {rB : Nat} {Kr : (Nat → Nat) → mS → Int32 → Int32 → Int32 → Nat → Option (bO Unit)} (hMr : ∀ {g : Nat → Nat} {v : mS} {z1 : Int32} {z2 : Int32} {z3 : Int32} {z4 : Nat} {o : bO Unit}, Kr g v z1 z2 z3 z4 = some o → gL g ≤ gL o.2.1) (hKr : ∀ {q g : Nat → Nat} {v : mS} {z1 : Int32} {z2 : Int32} {z3 : Int32} {z4 : Nat} {o : bO Unit}, Kr g v z1 z2 z3 z4 = some o → bx_M l Z rB y_N_work b_N_work 6 none [.ref (q 25), .int z1, .int z2, .int z3, .ref (q z4)] q g v enV o) (C0 : bn_C "FilterBench$Runner" b_N_bothOrEither 9 Z A p l s m args meth c) (hr : meth.sig.returnType = none) (hnx : ∀ x ∈ c.exceptionTable.toList, False) : ∀  (g : Nat → Nat) (v : mS) (q : Nat → Nat) (H : Heap) (locs : List Loc) (ls : Array Slot), f_N_bothOrEither_47 Kr   g v = some o → qs q0 q → gL g0 ≤ gL g → gL g ≤ gL o.2.1 → bn_H Z A s (q, g, v) H locs → lv_has ls 9 [] → bx_W p l e s m args below meth c Z A q0 g0 enV o (rB + 8) g H locs (F0 m 47 ls []) := by
  have hx := C0.1
  have hb := C0.2.1
  have hl0 := C0.2.2.2.2.2.2.2.2.2
  intro  g v q H locs ls h hq hm0 hm hH hl
  unfold f_N_bothOrEither_47 at h
  have hcl9 := bx_room (h0 := (rB + 8)) (o := o) hm0 hm
  exact bx_vret C0 hr hq hH hm0 d_N_bothOrEither_47 h
def f_N_bothOrEither_105 (Kr : (Nat → Nat) → mS → Int32 → Int32 → Int32 → Nat → Option (bO Unit)) (K69 : Nat → Nat → Int32 → (Nat → Nat) → mS → Option (bO Unit)) (x5 : Nat) (x7 : Nat) (x8 : Int32) (g : Nat → Nat) (v : mS) : Option (bO Unit) := gd (rowB x5) (gd (rowB x7) (nm (x8 + 1) fun x8_1 => K69 x5 x7 x8_1 g v))
set_option maxHeartbeats 4000000 in
set_option maxRecDepth 100000 in
theorem w_N_bothOrEither_105 {p : Program} {l : Launch} {e : Env} {s : State} {m : MethodId} {args : Array Value} {below : List Frame} {meth : Method} {c : Code} {Z : bZ} {A : Nat → Prop} {q0 g0 : Nat → Nat} {o : bO Unit} {rB : Nat} {Kr : (Nat → Nat) → mS → Int32 → Int32 → Int32 → Nat → Option (bO Unit)} (hMr : ∀ {g : Nat → Nat} {v : mS} {z1 : Int32} {z2 : Int32} {z3 : Int32} {z4 : Nat} {o : bO Unit}, Kr g v z1 z2 z3 z4 = some o → gL g ≤ gL o.2.1) (hKr : ∀ {q g : Nat → Nat} {v : mS} {z1 : Int32} {z2 : Int32} {z3 : Int32} {z4 : Nat} {o : bO Unit}, Kr g v z1 z2 z3 z4 = some o → bx_M l Z rB y_N_work b_N_work 6 none [.ref (q 25), .int z1, .int z2, .int z3, .ref (q z4)] q g v enV o) (C0 : bn_C "FilterBench$Runner" b_N_bothOrEither 9 Z A p l s m args meth c) (hr : meth.sig.returnType = none) (hnx : ∀ x ∈ c.exceptionTable.toList, False) {K69 : Nat → Nat → Int32 → (Nat → Nat) → mS → Option (bO Unit)} (hK69 : ∀ (x5 : Nat) (x7 : Nat) (x8 : Int32) (g : Nat → Nat) (v : mS) (q : Nat → Nat) (H : Heap) (locs : List Loc) (ls : Array Slot), K69 x5 x7 x8 g v = some o → qs q0 q → gL g0 ≤ gL g → gL g ≤ gL o.2.1 → bn_H Z A s (q, g, v) H locs → lv_has ls 9 [(0, .ref (q 25)), (5, .ref (q x5)), (7, .ref (q x7)), (8, .int x8)] → bx_W p l e s m args below meth c Z A q0 g0 enV o (rB + 8) g H locs (F0 m 69 ls [])) : ∀ (x5 : Nat) (x7 : Nat) (x8 : Int32) (g : Nat → Nat) (v : mS) (q : Nat → Nat) (H : Heap) (locs : List Loc) (ls : Array Slot), f_N_bothOrEither_105 Kr K69 x5 x7 x8 g v = some o → qs q0 q → gL g0 ≤ gL g → gL g ≤ gL o.2.1 → bn_H Z A s (q, g, v) H locs → lv_has ls 9 [(0, .ref (q 25)), (5, .ref (q x5)), (7, .ref (q x7)), (8, .int x8)] → bx_W p l e s m args below meth c Z A q0 g0 enV o (rB + 8) g H locs (F0 m 105 ls []) := by
  have hx := C0.1
  have hb := C0.2.1
  have hl0 := C0.2.2.2.2.2.2.2.2.2
  intro x5 x7 x8 g v q H locs ls h hq hm0 hm hH hl
  unfold f_N_bothOrEither_105 at h
  have hcl9 := bx_room (h0 := (rB + 8)) (o := o) hm0 hm
  obtain ⟨hgx5, h⟩ := gd_out h
  obtain ⟨hgx7, h⟩ := gd_out h
  obtain ⟨x8_1, hx8_1, h⟩ := nm_out h
  refine lv_iinc (v := x8_1) (lv' := [(8, .int x8_1), (0, .ref (q 25)), (5, .ref (q x5)), (7, .ref (q x7))]) hx hb d_N_bothOrEither_105 hl (k := 3) rfl (by rw [hx8_1]; rfl) (by decide) rfl (fun ls hl => ?_)
  refine lv_goto (tgt := 69) hx hb d_N_bothOrEither_108 (by decide) ?_
  exact hK69 _ _ _ _ _ _ _ _ _ h hq hm0 hm hH (lv_sub hl [1, 2, 3, 0] rfl)
def f_N_bothOrEither_69 (Kr : (Nat → Nat) → mS → Int32 → Int32 → Int32 → Nat → Option (bO Unit))  : Nat → Nat → Nat → Int32 → (Nat → Nat) → mS → Option (bO Unit)
  | 0, _, _, _, _, _ => none
  | n + 1, x5, x7, x8, g, v => gd (rowB x5) (gd (rowB x7) (bi (f_R_size g v x7) fun r_3 v_1 => if r_3 ≤ x8 then (bv (f_R_endAs g v_1 x5 x7) fun v_5 => some (.inl (), g, v_5)) else (bi (f_R_at g v_1 x7 x8) fun r_9 v_7 => bi (f_V_isGood g v_7 r_9) fun r_12 v_10 => bi (f_V_truth g v_10 r_12) fun r_15 v_13 => bo (f_R_put g v_13 x5 r_15) fun r9 g9 v9 => f_N_bothOrEither_105 Kr (f_N_bothOrEither_69 Kr n) x5 x7 x8 g9 v9)))
set_option maxHeartbeats 4000000 in
set_option maxRecDepth 100000 in
theorem w_N_bothOrEither_69 {p : Program} {l : Launch} {e : Env} {s : State} {m : MethodId} {args : Array Value} {below : List Frame} {meth : Method} {c : Code} {Z : bZ} {A : Nat → Prop} {q0 g0 : Nat → Nat} {o : bO Unit} {rB : Nat} {Kr : (Nat → Nat) → mS → Int32 → Int32 → Int32 → Nat → Option (bO Unit)} (hMr : ∀ {g : Nat → Nat} {v : mS} {z1 : Int32} {z2 : Int32} {z3 : Int32} {z4 : Nat} {o : bO Unit}, Kr g v z1 z2 z3 z4 = some o → gL g ≤ gL o.2.1) (hKr : ∀ {q g : Nat → Nat} {v : mS} {z1 : Int32} {z2 : Int32} {z3 : Int32} {z4 : Nat} {o : bO Unit}, Kr g v z1 z2 z3 z4 = some o → bx_M l Z rB y_N_work b_N_work 6 none [.ref (q 25), .int z1, .int z2, .int z3, .ref (q z4)] q g v enV o) (C0 : bn_C "FilterBench$Runner" b_N_bothOrEither 9 Z A p l s m args meth c) (hr : meth.sig.returnType = none) (hnx : ∀ x ∈ c.exceptionTable.toList, False) : ∀ (n : Nat) (x5 : Nat) (x7 : Nat) (x8 : Int32) (g : Nat → Nat) (v : mS) (q : Nat → Nat) (H : Heap) (locs : List Loc) (ls : Array Slot), f_N_bothOrEither_69 Kr  n x5 x7 x8 g v = some o → qs q0 q → gL g0 ≤ gL g → gL g ≤ gL o.2.1 → bn_H Z A s (q, g, v) H locs → lv_has ls 9 [(0, .ref (q 25)), (5, .ref (q x5)), (7, .ref (q x7)), (8, .int x8)] → bx_W p l e s m args below meth c Z A q0 g0 enV o (rB + 8) g H locs (F0 m 69 ls []) := by
  have hx := C0.1
  have hb := C0.2.1
  have hl0 := C0.2.2.2.2.2.2.2.2.2
  intro n
  induction n with
  | zero =>
    intro x5 x7 x8 g v q H locs ls h hq hm0 hm hH hl
    cases h
  | succ n ih =>
    intro x5 x7 x8 g v q H locs ls h hq hm0 hm hH hl
    rw [f_N_bothOrEither_69] at h
    have hcl9 := bx_room (h0 := (rB + 8)) (o := o) hm0 hm
    obtain ⟨hgx5, h⟩ := gd_out h
    obtain ⟨hgx7, h⟩ := gd_out h
    refine lv_iload hx hb d_N_bothOrEither_69 (lv_at hl 3 rfl) ?_
    refine lv_aload hx hb d_N_bothOrEither_71 (lv_at hl 2 rfl) ?_
    obtain ⟨r_3, v_1, hc_2, h⟩ := bi_out h
    refine bn_ci (r := r_3) (w := (q, g, v_1)) (as := []) (rest := [.int x8]) C0 hH (ci := 2) (rowB_k hgx7) (by decide) rfl (c_R_size hl0 hc_2) yy_R_size q_613 ⟨by simp only [bn_rm, dK]; omega, by simp only [bn_rm, dK]; omega⟩ rfl hl.1 rfl (Nat.le_of_ble_eq_true rfl) hcl9 d_N_bothOrEither_73 (fun H locs hH => ?_)
    refine lv_icmp_ge (tgt := 111) hx hb d_N_bothOrEither_76 (by decide) (fun c_4 => ?_) (fun c_4 => ?_)
    · rw [if_pos c_4] at h
      refine lv_aload hx hb d_N_bothOrEither_111 (lv_at hl 1 rfl) ?_
      refine lv_aload hx hb d_N_bothOrEither_113 (lv_at hl 2 rfl) ?_
      obtain ⟨v_5, hc_6, h⟩ := bv_out h
      refine bn_cv (w := (q, g, v_5)) (as := [.ref (q x7)]) (rest := []) C0 hH (ci := 2) (rowB_k hgx5) (by decide) rfl (c_R_endAs hl0 hc_6) yy_R_endAs q_604 ⟨by simp only [bn_rm, dK]; omega, by simp only [bn_rm, dK]; omega⟩ rfl hl.1 rfl (Nat.le_of_ble_eq_true rfl) hcl9 d_N_bothOrEither_115 (fun H locs hH => ?_)
      exact bx_vret C0 hr hq hH hm0 d_N_bothOrEither_118 h
    · rw [if_neg c_4] at h
      refine lv_aload hx hb d_N_bothOrEither_79 (lv_at hl 1 rfl) ?_
      refine lv_aload_n hx hb d_N_bothOrEither_81 rfl (lv_at hl 0 rfl) ?_
      refine bn_g_N_values ⟨by decide, by decide⟩ C0 hH d_N_bothOrEither_82 ?_
      refine lv_aload_n hx hb d_N_bothOrEither_85 rfl (lv_at hl 0 rfl) ?_
      refine bn_g_N_values ⟨by decide, by decide⟩ C0 hH d_N_bothOrEither_86 ?_
      refine lv_aload hx hb d_N_bothOrEither_89 (lv_at hl 2 rfl) ?_
      refine lv_iload hx hb d_N_bothOrEither_91 (lv_at hl 3 rfl) ?_
      obtain ⟨r_9, v_7, hc_8, h⟩ := bi_out h
      refine bn_ci (r := r_9) (w := (q, g, v_7)) (as := [.int x8]) (rest := [.ref (q 1), .ref (q 1), .ref (q x5)]) C0 hH (ci := 2) (rowB_k hgx7) (by decide) rfl (c_R_at hl0 hc_8) yy_R_at q_637 ⟨by simp only [bn_rm, dK]; omega, by simp only [bn_rm, dK]; omega⟩ rfl hl.1 rfl (Nat.le_of_ble_eq_true rfl) hcl9 d_N_bothOrEither_93 (fun H locs hH => ?_)
      obtain ⟨r_12, v_10, hc_11, h⟩ := bi_out h
      refine bn_ci (r := r_12) (w := (q, g, v_10)) (as := [.int r_9]) (rest := [.ref (q 1), .ref (q x5)]) C0 hH (ci := 4) ⟨by decide, by decide⟩ (by decide) rfl (c_V_isGood hl0 hc_11) yy_V_isGood q_708 ⟨by simp only [bn_rm, dK]; omega, by simp only [bn_rm, dK]; omega⟩ rfl hl.1 rfl (Nat.le_of_ble_eq_true rfl) hcl9 d_N_bothOrEither_96 (fun H locs hH => ?_)
      obtain ⟨r_15, v_13, hc_14, h⟩ := bi_out h
      refine bn_ci (r := r_15) (w := (q, g, v_13)) (as := [.int r_12]) (rest := [.ref (q x5)]) C0 hH (ci := 4) ⟨by decide, by decide⟩ (by decide) rfl (c_V_truth hl0 hc_14) yy_V_truth q_674 ⟨by simp only [bn_rm, dK]; omega, by simp only [bn_rm, dK]; omega⟩ rfl hl.1 rfl (Nat.le_of_ble_eq_true rfl) hcl9 d_N_bothOrEither_99 (fun H locs hH => ?_)
      obtain ⟨o1, hc, hm2, ht9, hx1, hk9⟩ := bo_out h
      have hm1 := mn_R_put hc
      refine bx_cV (as := [.int r_15]) (rest := []) C0 hnx hq hH hm0 hm1 hm2 ht9 (ci := 2) (rowB_k hgx5) (by decide) rfl (c_R_put hl0 hc) yy_R_put q_508 ⟨by first | omega | (simp only [dK]; omega), by first | omega | (simp only [dK]; omega)⟩ rfl hl.1 rfl (Nat.le_of_ble_eq_true rfl) d_N_bothOrEither_102 hx1 (fun r9 q1 H locs hr1 hq0 hq1 hm9 hH => ?_)
      have h := hk9 r9 hr1
      have e9 : q1 25 = q 25 := (hq1 25 (by decide) (by decide))
      try rw [← e9] at hl
      try rw [← e9]
      have e9 : q1 x5 = q x5 := (hq1 x5 (rowB_ne hgx5).1 (rowB_ne hgx5).2)
      try rw [← e9] at hl
      try rw [← e9]
      have e9 : q1 x7 = q x7 := (hq1 x7 (rowB_ne hgx7).1 (rowB_ne hgx7).2)
      try rw [← e9] at hl
      try rw [← e9]
      exact w_N_bothOrEither_105 hMr hKr C0 hr hnx ih _ _ _ _ _ _ _ _ _ h hq0 hm9 hm2 hH (lv_sub hl [0, 1, 2, 3] rfl)
def f_N_bothOrEither_64 (Kr : (Nat → Nat) → mS → Int32 → Int32 → Int32 → Nat → Option (bO Unit))  (x5 : Nat) (y0 : Nat) (g : Nat → Nat) (v : mS) : Option (bO Unit) := gd (rowB x5) (gd (rowB y0) (f_N_bothOrEither_69 Kr fu x5 y0 0 g v))
set_option maxHeartbeats 4000000 in
set_option maxRecDepth 100000 in
theorem w_N_bothOrEither_64 {p : Program} {l : Launch} {e : Env} {s : State} {m : MethodId} {args : Array Value} {below : List Frame} {meth : Method} {c : Code} {Z : bZ} {A : Nat → Prop} {q0 g0 : Nat → Nat} {o : bO Unit} {rB : Nat} {Kr : (Nat → Nat) → mS → Int32 → Int32 → Int32 → Nat → Option (bO Unit)} (hMr : ∀ {g : Nat → Nat} {v : mS} {z1 : Int32} {z2 : Int32} {z3 : Int32} {z4 : Nat} {o : bO Unit}, Kr g v z1 z2 z3 z4 = some o → gL g ≤ gL o.2.1) (hKr : ∀ {q g : Nat → Nat} {v : mS} {z1 : Int32} {z2 : Int32} {z3 : Int32} {z4 : Nat} {o : bO Unit}, Kr g v z1 z2 z3 z4 = some o → bx_M l Z rB y_N_work b_N_work 6 none [.ref (q 25), .int z1, .int z2, .int z3, .ref (q z4)] q g v enV o) (C0 : bn_C "FilterBench$Runner" b_N_bothOrEither 9 Z A p l s m args meth c) (hr : meth.sig.returnType = none) (hnx : ∀ x ∈ c.exceptionTable.toList, False) : ∀ (x5 : Nat) (y0 : Nat) (g : Nat → Nat) (v : mS) (q : Nat → Nat) (H : Heap) (locs : List Loc) (ls : Array Slot), f_N_bothOrEither_64 Kr  x5 y0 g v = some o → qs q0 q → gL g0 ≤ gL g → gL g ≤ gL o.2.1 → bn_H Z A s (q, g, v) H locs → lv_has ls 9 [(0, .ref (q 25)), (5, .ref (q x5))] → bx_W p l e s m args below meth c Z A q0 g0 enV o (rB + 8) g H locs (F0 m 64 ls [.ref (q y0)]) := by
  have hx := C0.1
  have hb := C0.2.1
  have hl0 := C0.2.2.2.2.2.2.2.2.2
  intro x5 y0 g v q H locs ls h hq hm0 hm hH hl
  unfold f_N_bothOrEither_64 at h
  have hcl9 := bx_room (h0 := (rB + 8)) (o := o) hm0 hm
  obtain ⟨hgx5, h⟩ := gd_out h
  obtain ⟨hgy0, h⟩ := gd_out h
  refine lv_astore (lv' := [(7, .ref (q y0)), (0, .ref (q 25)), (5, .ref (q x5))]) hx hb d_N_bothOrEither_64 hl (by decide) rfl (fun ls hl => ?_)
  refine lv_iconst (v := 0) hx hb d_N_bothOrEither_66 (by decide) ?_
  refine lv_istore (lv' := [(8, .int 0), (7, .ref (q y0)), (0, .ref (q 25)), (5, .ref (q x5))]) hx hb d_N_bothOrEither_67 hl (by decide) rfl (fun ls hl => ?_)
  exact w_N_bothOrEither_69 hMr hKr C0 hr hnx  fu _ _ _ _ _ _ _ _ _ h hq hm0 hm hH (lv_sub hl [2, 3, 1, 0] rfl)
def f_N_bothOrEither_18 (Kr : (Nat → Nat) → mS → Int32 → Int32 → Int32 → Nat → Option (bO Unit))  (x1 : Int32) (x2 : Int32) (x3 : Int32) (x4 : Int32) (x5 : Nat) (y0 : Int32) (g : Nat → Nat) (v : mS) : Option (bO Unit) := gd (rowB x5) (bi (f_V_isGood g v x3) fun r_3 v_1 => if r_3 = y0 then (bi (f_V_truth g v_1 y0) fun r_11 v_9 => bo (f_R_put g v_9 x5 r_11) fun r9 g9 v9 => f_N_bothOrEither_47 Kr g9 v9) else (gd (filB (9 + 4 * g 25)) (bi (f_F_secondPart g v_1 ((9 + 4 * g 25)) x1) fun r_8 v_6 => bo (f_N_rowOf Kr g v_6 r_8 x2 x4 1) fun r9 g9 v9 => f_N_bothOrEither_64 Kr x5 r9 g9 v9)))
set_option maxHeartbeats 4000000 in
set_option maxRecDepth 100000 in
theorem w_N_bothOrEither_18 {p : Program} {l : Launch} {e : Env} {s : State} {m : MethodId} {args : Array Value} {below : List Frame} {meth : Method} {c : Code} {Z : bZ} {A : Nat → Prop} {q0 g0 : Nat → Nat} {o : bO Unit} {rB : Nat} {Kr : (Nat → Nat) → mS → Int32 → Int32 → Int32 → Nat → Option (bO Unit)} (hMr : ∀ {g : Nat → Nat} {v : mS} {z1 : Int32} {z2 : Int32} {z3 : Int32} {z4 : Nat} {o : bO Unit}, Kr g v z1 z2 z3 z4 = some o → gL g ≤ gL o.2.1) (hKr : ∀ {q g : Nat → Nat} {v : mS} {z1 : Int32} {z2 : Int32} {z3 : Int32} {z4 : Nat} {o : bO Unit}, Kr g v z1 z2 z3 z4 = some o → bx_M l Z rB y_N_work b_N_work 6 none [.ref (q 25), .int z1, .int z2, .int z3, .ref (q z4)] q g v enV o) (C0 : bn_C "FilterBench$Runner" b_N_bothOrEither 9 Z A p l s m args meth c) (hr : meth.sig.returnType = none) (hnx : ∀ x ∈ c.exceptionTable.toList, False) : ∀ (x1 : Int32) (x2 : Int32) (x3 : Int32) (x4 : Int32) (x5 : Nat) (y0 : Int32) (g : Nat → Nat) (v : mS) (q : Nat → Nat) (H : Heap) (locs : List Loc) (ls : Array Slot), f_N_bothOrEither_18 Kr  x1 x2 x3 x4 x5 y0 g v = some o → qs q0 q → gL g0 ≤ gL g → gL g ≤ gL o.2.1 → bn_H Z A s (q, g, v) H locs → lv_has ls 9 [(0, .ref (q 25)), (1, .int x1), (2, .int x2), (3, .int x3), (4, .int x4), (5, .ref (q x5))] → bx_W p l e s m args below meth c Z A q0 g0 enV o (rB + 8) g H locs (F0 m 18 ls [.int y0]) := by
  have hx := C0.1
  have hb := C0.2.1
  have hl0 := C0.2.2.2.2.2.2.2.2.2
  intro x1 x2 x3 x4 x5 y0 g v q H locs ls h hq hm0 hm hH hl
  unfold f_N_bothOrEither_18 at h
  have hcl9 := bx_room (h0 := (rB + 8)) (o := o) hm0 hm
  obtain ⟨hgx5, h⟩ := gd_out h
  refine lv_istore (lv' := [(6, .int y0), (0, .ref (q 25)), (1, .int x1), (2, .int x2), (3, .int x3), (4, .int x4), (5, .ref (q x5))]) hx hb d_N_bothOrEither_18 hl (by decide) rfl (fun ls hl => ?_)
  refine lv_aload_n hx hb d_N_bothOrEither_20 rfl (lv_at hl 1 rfl) ?_
  refine bn_g_N_values ⟨by decide, by decide⟩ C0 hH d_N_bothOrEither_21 ?_
  refine lv_iload_n hx hb d_N_bothOrEither_24 rfl (lv_at hl 4 rfl) ?_
  obtain ⟨r_3, v_1, hc_2, h⟩ := bi_out h
  refine bn_ci (r := r_3) (w := (q, g, v_1)) (as := [.int x3]) (rest := []) C0 hH (ci := 4) ⟨by decide, by decide⟩ (by decide) rfl (c_V_isGood hl0 hc_2) yy_V_isGood q_708 ⟨by simp only [bn_rm, dK]; omega, by simp only [bn_rm, dK]; omega⟩ rfl hl.1 rfl (Nat.le_of_ble_eq_true rfl) hcl9 d_N_bothOrEither_25 (fun H locs hH => ?_)
  refine lv_iload hx hb d_N_bothOrEither_28 (lv_at hl 0 rfl) ?_
  refine lv_icmp_ne (tgt := 48) hx hb d_N_bothOrEither_30 (by decide) (fun c_4 => ?_) (fun c_4 => ?_)
  · rw [if_neg c_4] at h
    refine lv_aload_n hx hb d_N_bothOrEither_48 rfl (lv_at hl 1 rfl) ?_
    refine lv_aload_n hx hb d_N_bothOrEither_49 rfl (lv_at hl 1 rfl) ?_
    obtain ⟨g_5, h⟩ := gd_out h
    refine bn_g_N_filter ⟨by decide, by decide⟩ C0 hH d_N_bothOrEither_50 ?_
    refine lv_iload_n hx hb d_N_bothOrEither_53 rfl (lv_at hl 2 rfl) ?_
    obtain ⟨r_8, v_6, hc_7, h⟩ := bi_out h
    refine bn_ci (r := r_8) (w := (q, g, v_6)) (as := [.int x1]) (rest := [.ref (q 25)]) C0 hH (ci := 1) (filB_k g_5) (by decide) rfl (c_F_secondPart hl0 hc_7) yy_F_secondPart q_579 ⟨by simp only [bn_rm, dK]; omega, by simp only [bn_rm, dK]; omega⟩ rfl hl.1 rfl (Nat.le_of_ble_eq_true rfl) hcl9 d_N_bothOrEither_54 (fun H locs hH => ?_)
    refine lv_iload_n hx hb d_N_bothOrEither_57 rfl (lv_at hl 3 rfl) ?_
    refine lv_iload hx hb d_N_bothOrEither_58 (lv_at hl 5 rfl) ?_
    refine lv_iconst (v := 1) hx hb d_N_bothOrEither_60 (by decide) ?_
    obtain ⟨o1, hc, hm2, ht9, hx1, hk9⟩ := bo_out h
    have hm1 := mn_N_rowOf hc
    refine bx_cV (as := [.int r_8, .int x2, .int x4, .int 1]) (rest := []) C0 hnx hq hH hm0 hm1 hm2 ht9 (ci := 3) ⟨by decide, by decide⟩ (by decide) rfl (c_N_rowOf hMr hKr hl0 hc) yy_N_rowOf q_599 ⟨by first | omega | (simp only [dK]; omega), by first | omega | (simp only [dK]; omega)⟩ rfl hl.1 rfl (Nat.le_of_ble_eq_true rfl) d_N_bothOrEither_61 hx1 (fun r9 q1 H locs hr1 hq0 hq1 hm9 hH => ?_)
    have h := hk9 r9 hr1
    have e9 : q1 25 = q 25 := (hq1 25 (by decide) (by decide))
    try rw [← e9] at hl
    try rw [← e9]
    have e9 : q1 x5 = q x5 := (hq1 x5 (rowB_ne hgx5).1 (rowB_ne hgx5).2)
    try rw [← e9] at hl
    try rw [← e9]
    exact w_N_bothOrEither_64 hMr hKr C0 hr hnx  _ _ _ _ _ _ _ _ h hq0 hm9 hm2 hH (lv_sub hl [1, 6] rfl)
  · rw [if_pos c_4] at h
    refine lv_aload hx hb d_N_bothOrEither_33 (lv_at hl 6 rfl) ?_
    refine lv_aload_n hx hb d_N_bothOrEither_35 rfl (lv_at hl 1 rfl) ?_
    refine bn_g_N_values ⟨by decide, by decide⟩ C0 hH d_N_bothOrEither_36 ?_
    refine lv_iload hx hb d_N_bothOrEither_39 (lv_at hl 0 rfl) ?_
    obtain ⟨r_11, v_9, hc_10, h⟩ := bi_out h
    refine bn_ci (r := r_11) (w := (q, g, v_9)) (as := [.int y0]) (rest := [.ref (q x5)]) C0 hH (ci := 4) ⟨by decide, by decide⟩ (by decide) rfl (c_V_truth hl0 hc_10) yy_V_truth q_674 ⟨by simp only [bn_rm, dK]; omega, by simp only [bn_rm, dK]; omega⟩ rfl hl.1 rfl (Nat.le_of_ble_eq_true rfl) hcl9 d_N_bothOrEither_41 (fun H locs hH => ?_)
    obtain ⟨o1, hc, hm2, ht9, hx1, hk9⟩ := bo_out h
    have hm1 := mn_R_put hc
    refine bx_cV (as := [.int r_11]) (rest := []) C0 hnx hq hH hm0 hm1 hm2 ht9 (ci := 2) (rowB_k hgx5) (by decide) rfl (c_R_put hl0 hc) yy_R_put q_508 ⟨by first | omega | (simp only [dK]; omega), by first | omega | (simp only [dK]; omega)⟩ rfl hl.1 rfl (Nat.le_of_ble_eq_true rfl) d_N_bothOrEither_44 hx1 (fun r9 q1 H locs hr1 hq0 hq1 hm9 hH => ?_)
    have h := hk9 r9 hr1
    exact w_N_bothOrEither_47 hMr hKr C0 hr hnx   _ _ _ _ _ _ h hq0 hm9 hm2 hH (lv_sub hl [] rfl)
def f_N_bothOrEither (Kr : (Nat → Nat) → mS → Int32 → Int32 → Int32 → Nat → Option (bO Unit)) (g : Nat → Nat) (v : mS) (x1 : Int32) (x2 : Int32) (x3 : Int32) (x4 : Int32) (x5 : Nat) : Option (bO Unit) := mg g (gd (rowB x5) (gd (filB (9 + 4 * g 25)) (bi (f_F_opAt g v ((9 + 4 * g 25)) x1) fun r_4 v_2 => if r_4 = 15 then (f_N_bothOrEither_18 Kr x1 x2 x3 x4 x5 1 g v_2) else (f_N_bothOrEither_18 Kr x1 x2 x3 x4 x5 0 g v_2))))
theorem mn_N_bothOrEither {Kr : (Nat → Nat) → mS → Int32 → Int32 → Int32 → Nat → Option (bO Unit)} {g : Nat → Nat} {v : mS}  {x1 : Int32} {x2 : Int32} {x3 : Int32} {x4 : Int32} {x5 : Nat} {o : bO Unit} (h : f_N_bothOrEither Kr g v x1 x2 x3 x4 x5 = some o) : gL g ≤ gL o.2.1 := (mg_out h).1
set_option maxHeartbeats 4000000 in
set_option maxRecDepth 100000 in
theorem c_N_bothOrEither {l : Launch} {Z : bZ} {rB : Nat} {Kr : (Nat → Nat) → mS → Int32 → Int32 → Int32 → Nat → Option (bO Unit)} (hMr : ∀ {g : Nat → Nat} {v : mS} {z1 : Int32} {z2 : Int32} {z3 : Int32} {z4 : Nat} {o : bO Unit}, Kr g v z1 z2 z3 z4 = some o → gL g ≤ gL o.2.1) (hKr : ∀ {q g : Nat → Nat} {v : mS} {z1 : Int32} {z2 : Int32} {z3 : Int32} {z4 : Nat} {o : bO Unit}, Kr g v z1 z2 z3 z4 = some o → bx_M l Z rB y_N_work b_N_work 6 none [.ref (q 25), .int z1, .int z2, .int z3, .ref (q z4)] q g v enV o) (hl0 : l.stackTraces = false) {q g : Nat → Nat} {v : mS}  {x1 : Int32} {x2 : Int32} {x3 : Int32} {x4 : Int32} {x5 : Nat} {o : bO Unit} (h : f_N_bothOrEither Kr g v x1 x2 x3 x4 x5 = some o) : bx_M l Z (rB + 8) y_N_bothOrEither b_N_bothOrEither 9 none [.ref (q 25), .int x1, .int x2, .int x3, .int x4, .ref (q x5)] q g v enV o := by
  refine bx_of hl0 (by decide +kernel) (Nat.le_of_ble_eq_true rfl) ?_
  intro p e s m args below meth c A ls C0 hr hnx hl hH
  have hx := C0.1
  have hb := C0.2.1
  have C0 : bn_C "FilterBench$Runner" b_N_bothOrEither 9 Z A p l s m args meth c := C0
  have hl : lv_has ls 9 [(0, .ref (q 25)), (1, .int x1), (2, .int x2), (3, .int x3), (4, .int x4), (5, .ref (q x5))] := hl
  obtain ⟨hm, h⟩ := mg_out h
  have hm0 : gL g ≤ gL g := Nat.le_refl _
  have hq : qs q q := qs.rf
  have hcl9 := bx_room (h0 := (rB + 8)) (o := o) hm0 hm
  obtain ⟨hgx5, h⟩ := gd_out h
  refine lv_aload_n hx hb d_N_bothOrEither_0 rfl (lv_at hl 0 rfl) ?_
  obtain ⟨g_1, h⟩ := gd_out h
  refine bn_g_N_filter ⟨by decide, by decide⟩ C0 hH d_N_bothOrEither_1 ?_
  refine lv_iload_n hx hb d_N_bothOrEither_4 rfl (lv_at hl 1 rfl) ?_
  obtain ⟨r_4, v_2, hc_3, h⟩ := bi_out h
  refine bn_ci (r := r_4) (w := (q, g, v_2)) (as := [.int x1]) (rest := []) C0 hH (ci := 1) (filB_k g_1) (by decide) rfl (c_F_opAt hl0 hc_3) yy_F_opAt q_504 ⟨by simp only [bn_rm, dK]; omega, by simp only [bn_rm, dK]; omega⟩ rfl hl.1 rfl (Nat.le_of_ble_eq_true rfl) hcl9 d_N_bothOrEither_5 (fun H locs hH => ?_)
  refine lv_bipush (v := 15) hx hb d_N_bothOrEither_8 (by decide) ?_
  refine lv_icmp_ne (tgt := 17) hx hb d_N_bothOrEither_10 (by decide) (fun c_5 => ?_) (fun c_5 => ?_)
  · rw [if_neg c_5] at h
    refine lv_iconst (v := 0) hx hb d_N_bothOrEither_17 (by decide) ?_
    exact w_N_bothOrEither_18 hMr hKr C0 hr hnx  _ _ _ _ _ _ _ _ _ _ _ _ h hq hm0 hm hH (lv_sub hl [0, 1, 2, 3, 4, 5] rfl)
  · rw [if_pos c_5] at h
    refine lv_iconst (v := 1) hx hb d_N_bothOrEither_13 (by decide) ?_
    refine lv_goto (tgt := 18) hx hb d_N_bothOrEither_14 (by decide) ?_
    exact w_N_bothOrEither_18 hMr hKr C0 hr hnx  _ _ _ _ _ _ _ _ _ _ _ _ h hq hm0 hm hH (lv_sub hl [0, 1, 2, 3, 4, 5] rfl)
def f_N_paired_81  (y0 : Int32) (g : Nat → Nat) (v : mS) : Option (bO Int32) := some (.inl (y0), g, v)
set_option maxHeartbeats 4000000 in
set_option maxRecDepth 100000 in
theorem w_N_paired_81 {p : Program} {l : Launch} {e : Env} {s : State} {m : MethodId} {args : Array Value} {below : List Frame} {meth : Method} {c : Code} {Z : bZ} {A : Nat → Prop} {q0 g0 : Nat → Nat} {o : bO Int32}  (C0 : bn_C "FilterBench$Runner" b_N_paired 5 Z A p l s m args meth c) (hr : meth.sig.returnType = (some .int)) (hnx : ∀ x ∈ c.exceptionTable.toList, False) : ∀ (y0 : Int32) (g : Nat → Nat) (v : mS) (q : Nat → Nat) (H : Heap) (locs : List Loc) (ls : Array Slot), f_N_paired_81  y0 g v = some o → qs q0 q → gL g0 ≤ gL g → gL g ≤ gL o.2.1 → bn_H Z A s (q, g, v) H locs → lv_has ls 5 [] → bx_W p l e s m args below meth c Z A q0 g0 enI o 32 g H locs (F0 m 81 ls [.int y0]) := by
  have hx := C0.1
  have hb := C0.2.1
  have hl0 := C0.2.2.2.2.2.2.2.2.2
  intro y0 g v q H locs ls h hq hm0 hm hH hl
  unfold f_N_paired_81 at h
  have hcl9 := bx_room (h0 := 32) (o := o) hm0 hm
  exact bx_iret C0 hr hq hH hm0 d_N_paired_81 h
def f_N_paired_91  (y0 : Int32) (g : Nat → Nat) (v : mS) : Option (bO Int32) := some (.inl (y0), g, v)
set_option maxHeartbeats 4000000 in
set_option maxRecDepth 100000 in
theorem w_N_paired_91 {p : Program} {l : Launch} {e : Env} {s : State} {m : MethodId} {args : Array Value} {below : List Frame} {meth : Method} {c : Code} {Z : bZ} {A : Nat → Prop} {q0 g0 : Nat → Nat} {o : bO Int32}  (C0 : bn_C "FilterBench$Runner" b_N_paired 5 Z A p l s m args meth c) (hr : meth.sig.returnType = (some .int)) (hnx : ∀ x ∈ c.exceptionTable.toList, False) : ∀ (y0 : Int32) (g : Nat → Nat) (v : mS) (q : Nat → Nat) (H : Heap) (locs : List Loc) (ls : Array Slot), f_N_paired_91  y0 g v = some o → qs q0 q → gL g0 ≤ gL g → gL g ≤ gL o.2.1 → bn_H Z A s (q, g, v) H locs → lv_has ls 5 [] → bx_W p l e s m args below meth c Z A q0 g0 enI o 32 g H locs (F0 m 91 ls [.int y0]) := by
  have hx := C0.1
  have hb := C0.2.1
  have hl0 := C0.2.2.2.2.2.2.2.2.2
  intro y0 g v q H locs ls h hq hm0 hm hH hl
  unfold f_N_paired_91 at h
  have hcl9 := bx_room (h0 := 32) (o := o) hm0 hm
  exact bx_iret C0 hr hq hH hm0 d_N_paired_91 h
def f_N_paired_101  (y0 : Int32) (g : Nat → Nat) (v : mS) : Option (bO Int32) := some (.inl (y0), g, v)
set_option maxHeartbeats 4000000 in
set_option maxRecDepth 100000 in
theorem w_N_paired_101 {p : Program} {l : Launch} {e : Env} {s : State} {m : MethodId} {args : Array Value} {below : List Frame} {meth : Method} {c : Code} {Z : bZ} {A : Nat → Prop} {q0 g0 : Nat → Nat} {o : bO Int32}  (C0 : bn_C "FilterBench$Runner" b_N_paired 5 Z A p l s m args meth c) (hr : meth.sig.returnType = (some .int)) (hnx : ∀ x ∈ c.exceptionTable.toList, False) : ∀ (y0 : Int32) (g : Nat → Nat) (v : mS) (q : Nat → Nat) (H : Heap) (locs : List Loc) (ls : Array Slot), f_N_paired_101  y0 g v = some o → qs q0 q → gL g0 ≤ gL g → gL g ≤ gL o.2.1 → bn_H Z A s (q, g, v) H locs → lv_has ls 5 [] → bx_W p l e s m args below meth c Z A q0 g0 enI o 32 g H locs (F0 m 101 ls [.int y0]) := by
  have hx := C0.1
  have hb := C0.2.1
  have hl0 := C0.2.2.2.2.2.2.2.2.2
  intro y0 g v q H locs ls h hq hm0 hm hH hl
  unfold f_N_paired_101 at h
  have hcl9 := bx_room (h0 := 32) (o := o) hm0 hm
  exact bx_iret C0 hr hq hH hm0 d_N_paired_101 h
def f_N_paired_111  (y0 : Int32) (g : Nat → Nat) (v : mS) : Option (bO Int32) := some (.inl (y0), g, v)
set_option maxHeartbeats 4000000 in
set_option maxRecDepth 100000 in
theorem w_N_paired_111 {p : Program} {l : Launch} {e : Env} {s : State} {m : MethodId} {args : Array Value} {below : List Frame} {meth : Method} {c : Code} {Z : bZ} {A : Nat → Prop} {q0 g0 : Nat → Nat} {o : bO Int32}  (C0 : bn_C "FilterBench$Runner" b_N_paired 5 Z A p l s m args meth c) (hr : meth.sig.returnType = (some .int)) (hnx : ∀ x ∈ c.exceptionTable.toList, False) : ∀ (y0 : Int32) (g : Nat → Nat) (v : mS) (q : Nat → Nat) (H : Heap) (locs : List Loc) (ls : Array Slot), f_N_paired_111  y0 g v = some o → qs q0 q → gL g0 ≤ gL g → gL g ≤ gL o.2.1 → bn_H Z A s (q, g, v) H locs → lv_has ls 5 [] → bx_W p l e s m args below meth c Z A q0 g0 enI o 32 g H locs (F0 m 111 ls [.int y0]) := by
  have hx := C0.1
  have hb := C0.2.1
  have hl0 := C0.2.2.2.2.2.2.2.2.2
  intro y0 g v q H locs ls h hq hm0 hm hH hl
  unfold f_N_paired_111 at h
  have hcl9 := bx_room (h0 := 32) (o := o) hm0 hm
  exact bx_iret C0 hr hq hH hm0 d_N_paired_111 h
def f_N_paired (g : Nat → Nat) (v : mS) (x1 : Int32) (x2 : Int32) (x3 : Int32) : Option (bO Int32) := mg g (gd (filB (9 + 4 * g 25)) (bi (f_F_choiceAt g v ((9 + 4 * g 25)) x1) fun r_4 v_2 => gd (filB (9 + 4 * g 25)) (bi (f_F_opAt g v_2 ((9 + 4 * g 25)) x1) fun r_8 v_6 => if r_8 = 13 then (bi (f_V_compared dK g v_6 x2 x3) fun r_15 v_13 => bi (f_N_holds g v_13 r_4 r_15) fun r_18 v_16 => bi (f_V_truth g v_16 r_18) fun r_21 v_19 => some (.inl (r_21), g, v_19)) else (if r_4 = 0 then (bo (f_V_plus g v_6 x2 x3) fun r9 g9 v9 => f_N_paired_81 r9 g9 v9) else if r_4 = 1 then (bo (f_V_minus g v_6 x2 x3) fun r9 g9 v9 => f_N_paired_91 r9 g9 v9) else if r_4 = 2 then (bo (f_V_times g v_6 x2 x3) fun r9 g9 v9 => f_N_paired_101 r9 g9 v9) else (bo (f_V_rest g v_6 x2 x3) fun r9 g9 v9 => f_N_paired_111 r9 g9 v9)))))
theorem mn_N_paired {g : Nat → Nat} {v : mS}  {x1 : Int32} {x2 : Int32} {x3 : Int32} {o : bO Int32} (h : f_N_paired g v x1 x2 x3 = some o) : gL g ≤ gL o.2.1 := (mg_out h).1
set_option maxHeartbeats 4000000 in
set_option maxRecDepth 100000 in
theorem c_N_paired {l : Launch} {Z : bZ} (hl0 : l.stackTraces = false) {q g : Nat → Nat} {v : mS}  {x1 : Int32} {x2 : Int32} {x3 : Int32} {o : bO Int32} (h : f_N_paired g v x1 x2 x3 = some o) : bx_M l Z 32 y_N_paired b_N_paired 5 (some .int) [.ref (q 25), .int x1, .int x2, .int x3] q g v enI o := by
  refine bx_of hl0 (by decide +kernel) (Nat.le_of_ble_eq_true rfl) ?_
  intro p e s m args below meth c A ls C0 hr hnx hl hH
  have hx := C0.1
  have hb := C0.2.1
  have C0 : bn_C "FilterBench$Runner" b_N_paired 5 Z A p l s m args meth c := C0
  have hl : lv_has ls 5 [(0, .ref (q 25)), (1, .int x1), (2, .int x2), (3, .int x3)] := hl
  obtain ⟨hm, h⟩ := mg_out h
  have hm0 : gL g ≤ gL g := Nat.le_refl _
  have hq : qs q q := qs.rf
  have hcl9 := bx_room (h0 := 32) (o := o) hm0 hm
  refine lv_aload_n hx hb d_N_paired_0 rfl (lv_at hl 0 rfl) ?_
  obtain ⟨g_1, h⟩ := gd_out h
  refine bn_g_N_filter ⟨by decide, by decide⟩ C0 hH d_N_paired_1 ?_
  refine lv_iload_n hx hb d_N_paired_4 rfl (lv_at hl 1 rfl) ?_
  obtain ⟨r_4, v_2, hc_3, h⟩ := bi_out h
  refine bn_ci (r := r_4) (w := (q, g, v_2)) (as := [.int x1]) (rest := []) C0 hH (ci := 1) (filB_k g_1) (by decide) rfl (c_F_choiceAt hl0 hc_3) yy_F_choiceAt q_500 ⟨by simp only [bn_rm, dK]; omega, by simp only [bn_rm, dK]; omega⟩ rfl hl.1 rfl (Nat.le_of_ble_eq_true rfl) hcl9 d_N_paired_5 (fun H locs hH => ?_)
  refine lv_istore (lv' := [(4, .int r_4), (0, .ref (q 25)), (1, .int x1), (2, .int x2), (3, .int x3)]) hx hb d_N_paired_8 hl (by decide) rfl (fun ls hl => ?_)
  refine lv_aload_n hx hb d_N_paired_10 rfl (lv_at hl 1 rfl) ?_
  obtain ⟨g_5, h⟩ := gd_out h
  refine bn_g_N_filter ⟨by decide, by decide⟩ C0 hH d_N_paired_11 ?_
  refine lv_iload_n hx hb d_N_paired_14 rfl (lv_at hl 2 rfl) ?_
  obtain ⟨r_8, v_6, hc_7, h⟩ := bi_out h
  refine bn_ci (r := r_8) (w := (q, g, v_6)) (as := [.int x1]) (rest := []) C0 hH (ci := 1) (filB_k g_5) (by decide) rfl (c_F_opAt hl0 hc_7) yy_F_opAt q_504 ⟨by simp only [bn_rm, dK]; omega, by simp only [bn_rm, dK]; omega⟩ rfl hl.1 rfl (Nat.le_of_ble_eq_true rfl) hcl9 d_N_paired_15 (fun H locs hH => ?_)
  refine lv_bipush (v := 13) hx hb d_N_paired_18 (by decide) ?_
  refine lv_icmp_ne (tgt := 45) hx hb d_N_paired_20 (by decide) (fun c_9 => ?_) (fun c_9 => ?_)
  · rw [if_neg c_9] at h
    refine lv_iload hx hb d_N_paired_45 (lv_at hl 0 rfl) ?_
    by_cases e_10 : r_4 = 0
    · rw [if_pos e_10] at h
      refine fu_hit (tgt := 72) 0 e_10 hx hb d_N_paired_47 (by decide) (by decide) rfl (by decide) ?_
      refine lv_aload_n hx hb d_N_paired_72 rfl (lv_at hl 1 rfl) ?_
      refine bn_g_N_values ⟨by decide, by decide⟩ C0 hH d_N_paired_73 ?_
      refine lv_iload_n hx hb d_N_paired_76 rfl (lv_at hl 3 rfl) ?_
      refine lv_iload_n hx hb d_N_paired_77 rfl (lv_at hl 4 rfl) ?_
      obtain ⟨o1, hc, hm2, ht9, hx1, hk9⟩ := bo_out h
      have hm1 := mn_V_plus hc
      refine bx_cV (as := [.int x2, .int x3]) (rest := []) C0 hnx hq hH hm0 hm1 hm2 ht9 (ci := 4) ⟨by decide, by decide⟩ (by decide) rfl (c_V_plus hl0 hc) yy_V_plus q_678 ⟨by first | omega | (simp only [dK]; omega), by first | omega | (simp only [dK]; omega)⟩ rfl hl.1 rfl (Nat.le_of_ble_eq_true rfl) d_N_paired_78 hx1 (fun r9 q1 H locs hr1 hq0 hq1 hm9 hH => ?_)
      have h := hk9 r9 hr1
      exact w_N_paired_81 C0 hr hnx  _ _ _ _ _ _ _ h hq0 hm9 hm2 hH (lv_sub hl [] rfl)
    rw [if_neg e_10] at h
    by_cases e_11 : r_4 = 1
    · rw [if_pos e_11] at h
      refine fu_hit (tgt := 82) 1 e_11 hx hb d_N_paired_47 (by decide) (by decide) rfl (by decide) ?_
      refine lv_aload_n hx hb d_N_paired_82 rfl (lv_at hl 1 rfl) ?_
      refine bn_g_N_values ⟨by decide, by decide⟩ C0 hH d_N_paired_83 ?_
      refine lv_iload_n hx hb d_N_paired_86 rfl (lv_at hl 3 rfl) ?_
      refine lv_iload_n hx hb d_N_paired_87 rfl (lv_at hl 4 rfl) ?_
      obtain ⟨o1, hc, hm2, ht9, hx1, hk9⟩ := bo_out h
      have hm1 := mn_V_minus hc
      refine bx_cV (as := [.int x2, .int x3]) (rest := []) C0 hnx hq hH hm0 hm1 hm2 ht9 (ci := 4) ⟨by decide, by decide⟩ (by decide) rfl (c_V_minus hl0 hc) yy_V_minus q_691 ⟨by first | omega | (simp only [dK]; omega), by first | omega | (simp only [dK]; omega)⟩ rfl hl.1 rfl (Nat.le_of_ble_eq_true rfl) d_N_paired_88 hx1 (fun r9 q1 H locs hr1 hq0 hq1 hm9 hH => ?_)
      have h := hk9 r9 hr1
      exact w_N_paired_91 C0 hr hnx  _ _ _ _ _ _ _ h hq0 hm9 hm2 hH (lv_sub hl [] rfl)
    rw [if_neg e_11] at h
    by_cases e_12 : r_4 = 2
    · rw [if_pos e_12] at h
      refine fu_hit (tgt := 92) 2 e_12 hx hb d_N_paired_47 (by decide) (by decide) rfl (by decide) ?_
      refine lv_aload_n hx hb d_N_paired_92 rfl (lv_at hl 1 rfl) ?_
      refine bn_g_N_values ⟨by decide, by decide⟩ C0 hH d_N_paired_93 ?_
      refine lv_iload_n hx hb d_N_paired_96 rfl (lv_at hl 3 rfl) ?_
      refine lv_iload_n hx hb d_N_paired_97 rfl (lv_at hl 4 rfl) ?_
      obtain ⟨o1, hc, hm2, ht9, hx1, hk9⟩ := bo_out h
      have hm1 := mn_V_times hc
      refine bx_cV (as := [.int x2, .int x3]) (rest := []) C0 hnx hq hH hm0 hm1 hm2 ht9 (ci := 4) ⟨by decide, by decide⟩ (by decide) rfl (c_V_times hl0 hc) yy_V_times q_696 ⟨by first | omega | (simp only [dK]; omega), by first | omega | (simp only [dK]; omega)⟩ rfl hl.1 rfl (Nat.le_of_ble_eq_true rfl) d_N_paired_98 hx1 (fun r9 q1 H locs hr1 hq0 hq1 hm9 hH => ?_)
      have h := hk9 r9 hr1
      exact w_N_paired_101 C0 hr hnx  _ _ _ _ _ _ _ h hq0 hm9 hm2 hH (lv_sub hl [] rfl)
    rw [if_neg e_12] at h
    refine lv_tableOut (tgt := 102) hx hb d_N_paired_47 (fu_out 3 (by decide) (fun k9 hk9 => match k9, hk9 with | 0, _ => lv_neT e_10 (by decide) | 1, _ => lv_neT e_11 (by decide) | 2, _ => lv_neT e_12 (by decide) | k9 + 3, hk9 => absurd hk9 (by omega))) (by decide) ?_
    refine lv_aload_n hx hb d_N_paired_102 rfl (lv_at hl 1 rfl) ?_
    refine bn_g_N_values ⟨by decide, by decide⟩ C0 hH d_N_paired_103 ?_
    refine lv_iload_n hx hb d_N_paired_106 rfl (lv_at hl 3 rfl) ?_
    refine lv_iload_n hx hb d_N_paired_107 rfl (lv_at hl 4 rfl) ?_
    obtain ⟨o1, hc, hm2, ht9, hx1, hk9⟩ := bo_out h
    have hm1 := mn_V_rest hc
    refine bx_cV (as := [.int x2, .int x3]) (rest := []) C0 hnx hq hH hm0 hm1 hm2 ht9 (ci := 4) ⟨by decide, by decide⟩ (by decide) rfl (c_V_rest hl0 hc) yy_V_rest q_700 ⟨by first | omega | (simp only [dK]; omega), by first | omega | (simp only [dK]; omega)⟩ rfl hl.1 rfl (Nat.le_of_ble_eq_true rfl) d_N_paired_108 hx1 (fun r9 q1 H locs hr1 hq0 hq1 hm9 hH => ?_)
    have h := hk9 r9 hr1
    exact w_N_paired_111 C0 hr hnx  _ _ _ _ _ _ _ h hq0 hm9 hm2 hH (lv_sub hl [] rfl)
  · rw [if_pos c_9] at h
    refine lv_aload_n hx hb d_N_paired_23 rfl (lv_at hl 1 rfl) ?_
    refine bn_g_N_values ⟨by decide, by decide⟩ C0 hH d_N_paired_24 ?_
    refine lv_iload hx hb d_N_paired_27 (lv_at hl 0 rfl) ?_
    refine lv_aload_n hx hb d_N_paired_29 rfl (lv_at hl 1 rfl) ?_
    refine bn_g_N_values ⟨by decide, by decide⟩ C0 hH d_N_paired_30 ?_
    refine lv_iload_n hx hb d_N_paired_33 rfl (lv_at hl 3 rfl) ?_
    refine lv_iload_n hx hb d_N_paired_34 rfl (lv_at hl 4 rfl) ?_
    obtain ⟨r_15, v_13, hc_14, h⟩ := bi_out h
    refine bn_ni (r := r_15) (w := (q, g, v_13)) (as := [.int x2, .int x3]) (rest := [.int r_4, .ref (q 1)]) C0 hH (ci := 4) ⟨by decide, by decide⟩ (by decide) rfl (c_V_comparedn hl0 dK hc_14) yy_V_compared (C0.2.2.2.2.2.2.2.2.1.2.2.2.2.2.2.1 _ (List.mem_of_getElem? (i := 6) rfl)) ⟨by simp only [bn_rm, dK]; omega, by simp only [bn_rm, dK]; omega⟩ rfl hl.1 rfl (Nat.le_of_ble_eq_true rfl) hcl9 d_N_paired_35 (fun H locs hH => ?_)
    obtain ⟨r_18, v_16, hc_17, h⟩ := bi_out h
    refine bn_si (r := r_18) (w := (q, g, v_16)) (as := [.int r_4, .int r_15]) (rest := [.ref (q 1)]) C0 hH (c_N_holds hl0 hc_17) yy_N_holds q_671 ⟨by simp only [bn_rm, dK]; omega, by simp only [bn_rm, dK]; omega⟩ rfl hl.1 rfl (Nat.le_of_ble_eq_true rfl) hcl9 d_N_paired_38 (fun H locs hH => ?_)
    obtain ⟨r_21, v_19, hc_20, h⟩ := bi_out h
    refine bn_ci (r := r_21) (w := (q, g, v_19)) (as := [.int r_18]) (rest := []) C0 hH (ci := 4) ⟨by decide, by decide⟩ (by decide) rfl (c_V_truth hl0 hc_20) yy_V_truth q_674 ⟨by simp only [bn_rm, dK]; omega, by simp only [bn_rm, dK]; omega⟩ rfl hl.1 rfl (Nat.le_of_ble_eq_true rfl) hcl9 d_N_paired_41 (fun H locs hH => ?_)
    exact bx_iret C0 hr hq hH hm0 d_N_paired_44 h
def f_N_follow_302 (Kr : (Nat → Nat) → mS → Int32 → Int32 → Int32 → Nat → Option (bO Unit))   (g : Nat → Nat) (v : mS) : Option (bO Unit) := some (.inl (), g, v)
set_option maxHeartbeats 4000000 in
set_option maxRecDepth 100000 in
theorem w_N_follow_302 {p : Program} {l : Launch} {e : Env} {s : State} {m : MethodId} {args : Array Value} {below : List Frame} {meth : Method} {c : Code} {Z : bZ} {A : Nat → Prop} {q0 g0 : Nat → Nat} {o : bO Unit} {rB : Nat} {Kr : (Nat → Nat) → mS → Int32 → Int32 → Int32 → Nat → Option (bO Unit)} (hMr : ∀ {g : Nat → Nat} {v : mS} {z1 : Int32} {z2 : Int32} {z3 : Int32} {z4 : Nat} {o : bO Unit}, Kr g v z1 z2 z3 z4 = some o → gL g ≤ gL o.2.1) (hKr : ∀ {q g : Nat → Nat} {v : mS} {z1 : Int32} {z2 : Int32} {z3 : Int32} {z4 : Nat} {o : bO Unit}, Kr g v z1 z2 z3 z4 = some o → bx_M l Z rB y_N_work b_N_work 6 none [.ref (q 25), .int z1, .int z2, .int z3, .ref (q z4)] q g v enV o) (C0 : bn_C "FilterBench$Runner" b_N_follow 6 Z A p l s m args meth c) (hr : meth.sig.returnType = none) (hnx : ∀ x ∈ c.exceptionTable.toList, False) : ∀  (g : Nat → Nat) (v : mS) (q : Nat → Nat) (H : Heap) (locs : List Loc) (ls : Array Slot), f_N_follow_302 Kr   g v = some o → qs q0 q → gL g0 ≤ gL g → gL g ≤ gL o.2.1 → bn_H Z A s (q, g, v) H locs → lv_has ls 6 [] → bx_W p l e s m args below meth c Z A q0 g0 enV o (rB + 33) g H locs (F0 m 302 ls []) := by
  have hx := C0.1
  have hb := C0.2.1
  have hl0 := C0.2.2.2.2.2.2.2.2.2
  intro  g v q H locs ls h hq hm0 hm hH hl
  unfold f_N_follow_302 at h
  have hcl9 := bx_room (h0 := (rB + 33)) (o := o) hm0 hm
  exact bx_vret C0 hr hq hH hm0 d_N_follow_302 h
def f_N_follow_167 (Kr : (Nat → Nat) → mS → Int32 → Int32 → Int32 → Nat → Option (bO Unit))   (g : Nat → Nat) (v : mS) : Option (bO Unit) := f_N_follow_302 Kr g v
set_option maxHeartbeats 4000000 in
set_option maxRecDepth 100000 in
theorem w_N_follow_167 {p : Program} {l : Launch} {e : Env} {s : State} {m : MethodId} {args : Array Value} {below : List Frame} {meth : Method} {c : Code} {Z : bZ} {A : Nat → Prop} {q0 g0 : Nat → Nat} {o : bO Unit} {rB : Nat} {Kr : (Nat → Nat) → mS → Int32 → Int32 → Int32 → Nat → Option (bO Unit)} (hMr : ∀ {g : Nat → Nat} {v : mS} {z1 : Int32} {z2 : Int32} {z3 : Int32} {z4 : Nat} {o : bO Unit}, Kr g v z1 z2 z3 z4 = some o → gL g ≤ gL o.2.1) (hKr : ∀ {q g : Nat → Nat} {v : mS} {z1 : Int32} {z2 : Int32} {z3 : Int32} {z4 : Nat} {o : bO Unit}, Kr g v z1 z2 z3 z4 = some o → bx_M l Z rB y_N_work b_N_work 6 none [.ref (q 25), .int z1, .int z2, .int z3, .ref (q z4)] q g v enV o) (C0 : bn_C "FilterBench$Runner" b_N_follow 6 Z A p l s m args meth c) (hr : meth.sig.returnType = none) (hnx : ∀ x ∈ c.exceptionTable.toList, False) : ∀  (g : Nat → Nat) (v : mS) (q : Nat → Nat) (H : Heap) (locs : List Loc) (ls : Array Slot), f_N_follow_167 Kr   g v = some o → qs q0 q → gL g0 ≤ gL g → gL g ≤ gL o.2.1 → bn_H Z A s (q, g, v) H locs → lv_has ls 6 [] → bx_W p l e s m args below meth c Z A q0 g0 enV o (rB + 33) g H locs (F0 m 167 ls []) := by
  have hx := C0.1
  have hb := C0.2.1
  have hl0 := C0.2.2.2.2.2.2.2.2.2
  intro  g v q H locs ls h hq hm0 hm hH hl
  unfold f_N_follow_167 at h
  have hcl9 := bx_room (h0 := (rB + 33)) (o := o) hm0 hm
  refine lv_goto (tgt := 302) hx hb d_N_follow_167 (by decide) ?_
  exact w_N_follow_302 hMr hKr C0 hr hnx   _ _ _ _ _ _ h hq hm0 hm hH (lv_sub hl [] rfl)
def f_N_follow_189 (Kr : (Nat → Nat) → mS → Int32 → Int32 → Int32 → Nat → Option (bO Unit))   (g : Nat → Nat) (v : mS) : Option (bO Unit) := f_N_follow_302 Kr g v
set_option maxHeartbeats 4000000 in
set_option maxRecDepth 100000 in
theorem w_N_follow_189 {p : Program} {l : Launch} {e : Env} {s : State} {m : MethodId} {args : Array Value} {below : List Frame} {meth : Method} {c : Code} {Z : bZ} {A : Nat → Prop} {q0 g0 : Nat → Nat} {o : bO Unit} {rB : Nat} {Kr : (Nat → Nat) → mS → Int32 → Int32 → Int32 → Nat → Option (bO Unit)} (hMr : ∀ {g : Nat → Nat} {v : mS} {z1 : Int32} {z2 : Int32} {z3 : Int32} {z4 : Nat} {o : bO Unit}, Kr g v z1 z2 z3 z4 = some o → gL g ≤ gL o.2.1) (hKr : ∀ {q g : Nat → Nat} {v : mS} {z1 : Int32} {z2 : Int32} {z3 : Int32} {z4 : Nat} {o : bO Unit}, Kr g v z1 z2 z3 z4 = some o → bx_M l Z rB y_N_work b_N_work 6 none [.ref (q 25), .int z1, .int z2, .int z3, .ref (q z4)] q g v enV o) (C0 : bn_C "FilterBench$Runner" b_N_follow 6 Z A p l s m args meth c) (hr : meth.sig.returnType = none) (hnx : ∀ x ∈ c.exceptionTable.toList, False) : ∀  (g : Nat → Nat) (v : mS) (q : Nat → Nat) (H : Heap) (locs : List Loc) (ls : Array Slot), f_N_follow_189 Kr   g v = some o → qs q0 q → gL g0 ≤ gL g → gL g ≤ gL o.2.1 → bn_H Z A s (q, g, v) H locs → lv_has ls 6 [] → bx_W p l e s m args below meth c Z A q0 g0 enV o (rB + 33) g H locs (F0 m 189 ls []) := by
  have hx := C0.1
  have hb := C0.2.1
  have hl0 := C0.2.2.2.2.2.2.2.2.2
  intro  g v q H locs ls h hq hm0 hm hH hl
  unfold f_N_follow_189 at h
  have hcl9 := bx_room (h0 := (rB + 33)) (o := o) hm0 hm
  refine lv_goto (tgt := 302) hx hb d_N_follow_189 (by decide) ?_
  exact w_N_follow_302 hMr hKr C0 hr hnx   _ _ _ _ _ _ h hq hm0 hm hH (lv_sub hl [] rfl)
def f_N_follow_218 (Kr : (Nat → Nat) → mS → Int32 → Int32 → Int32 → Nat → Option (bO Unit))   (g : Nat → Nat) (v : mS) : Option (bO Unit) := f_N_follow_302 Kr g v
set_option maxHeartbeats 4000000 in
set_option maxRecDepth 100000 in
theorem w_N_follow_218 {p : Program} {l : Launch} {e : Env} {s : State} {m : MethodId} {args : Array Value} {below : List Frame} {meth : Method} {c : Code} {Z : bZ} {A : Nat → Prop} {q0 g0 : Nat → Nat} {o : bO Unit} {rB : Nat} {Kr : (Nat → Nat) → mS → Int32 → Int32 → Int32 → Nat → Option (bO Unit)} (hMr : ∀ {g : Nat → Nat} {v : mS} {z1 : Int32} {z2 : Int32} {z3 : Int32} {z4 : Nat} {o : bO Unit}, Kr g v z1 z2 z3 z4 = some o → gL g ≤ gL o.2.1) (hKr : ∀ {q g : Nat → Nat} {v : mS} {z1 : Int32} {z2 : Int32} {z3 : Int32} {z4 : Nat} {o : bO Unit}, Kr g v z1 z2 z3 z4 = some o → bx_M l Z rB y_N_work b_N_work 6 none [.ref (q 25), .int z1, .int z2, .int z3, .ref (q z4)] q g v enV o) (C0 : bn_C "FilterBench$Runner" b_N_follow 6 Z A p l s m args meth c) (hr : meth.sig.returnType = none) (hnx : ∀ x ∈ c.exceptionTable.toList, False) : ∀  (g : Nat → Nat) (v : mS) (q : Nat → Nat) (H : Heap) (locs : List Loc) (ls : Array Slot), f_N_follow_218 Kr   g v = some o → qs q0 q → gL g0 ≤ gL g → gL g ≤ gL o.2.1 → bn_H Z A s (q, g, v) H locs → lv_has ls 6 [] → bx_W p l e s m args below meth c Z A q0 g0 enV o (rB + 33) g H locs (F0 m 218 ls []) := by
  have hx := C0.1
  have hb := C0.2.1
  have hl0 := C0.2.2.2.2.2.2.2.2.2
  intro  g v q H locs ls h hq hm0 hm hH hl
  unfold f_N_follow_218 at h
  have hcl9 := bx_room (h0 := (rB + 33)) (o := o) hm0 hm
  refine lv_goto (tgt := 302) hx hb d_N_follow_218 (by decide) ?_
  exact w_N_follow_302 hMr hKr C0 hr hnx   _ _ _ _ _ _ h hq hm0 hm hH (lv_sub hl [] rfl)
def f_N_follow_215 (Kr : (Nat → Nat) → mS → Int32 → Int32 → Int32 → Nat → Option (bO Unit))  (y0 : Nat) (y1 : Int32) (g : Nat → Nat) (v : mS) : Option (bO Unit) := gd (rowB y0) (bo (f_R_put g v y0 y1) fun r9 g9 v9 => f_N_follow_218 Kr g9 v9)
set_option maxHeartbeats 4000000 in
set_option maxRecDepth 100000 in
theorem w_N_follow_215 {p : Program} {l : Launch} {e : Env} {s : State} {m : MethodId} {args : Array Value} {below : List Frame} {meth : Method} {c : Code} {Z : bZ} {A : Nat → Prop} {q0 g0 : Nat → Nat} {o : bO Unit} {rB : Nat} {Kr : (Nat → Nat) → mS → Int32 → Int32 → Int32 → Nat → Option (bO Unit)} (hMr : ∀ {g : Nat → Nat} {v : mS} {z1 : Int32} {z2 : Int32} {z3 : Int32} {z4 : Nat} {o : bO Unit}, Kr g v z1 z2 z3 z4 = some o → gL g ≤ gL o.2.1) (hKr : ∀ {q g : Nat → Nat} {v : mS} {z1 : Int32} {z2 : Int32} {z3 : Int32} {z4 : Nat} {o : bO Unit}, Kr g v z1 z2 z3 z4 = some o → bx_M l Z rB y_N_work b_N_work 6 none [.ref (q 25), .int z1, .int z2, .int z3, .ref (q z4)] q g v enV o) (C0 : bn_C "FilterBench$Runner" b_N_follow 6 Z A p l s m args meth c) (hr : meth.sig.returnType = none) (hnx : ∀ x ∈ c.exceptionTable.toList, False) : ∀ (y0 : Nat) (y1 : Int32) (g : Nat → Nat) (v : mS) (q : Nat → Nat) (H : Heap) (locs : List Loc) (ls : Array Slot), f_N_follow_215 Kr  y0 y1 g v = some o → qs q0 q → gL g0 ≤ gL g → gL g ≤ gL o.2.1 → bn_H Z A s (q, g, v) H locs → lv_has ls 6 [] → bx_W p l e s m args below meth c Z A q0 g0 enV o (rB + 33) g H locs (F0 m 215 ls [.int y1, .ref (q y0)]) := by
  have hx := C0.1
  have hb := C0.2.1
  have hl0 := C0.2.2.2.2.2.2.2.2.2
  intro y0 y1 g v q H locs ls h hq hm0 hm hH hl
  unfold f_N_follow_215 at h
  have hcl9 := bx_room (h0 := (rB + 33)) (o := o) hm0 hm
  obtain ⟨hgy0, h⟩ := gd_out h
  obtain ⟨o1, hc, hm2, ht9, hx1, hk9⟩ := bo_out h
  have hm1 := mn_R_put hc
  refine bx_cV (as := [.int y1]) (rest := []) C0 hnx hq hH hm0 hm1 hm2 ht9 (ci := 2) (rowB_k hgy0) (by decide) rfl (c_R_put hl0 hc) yy_R_put q_508 ⟨by first | omega | (simp only [dK]; omega), by first | omega | (simp only [dK]; omega)⟩ rfl hl.1 rfl (Nat.le_of_ble_eq_true rfl) d_N_follow_215 hx1 (fun r9 q1 H locs hr1 hq0 hq1 hm9 hH => ?_)
  have h := hk9 r9 hr1
  exact w_N_follow_218 hMr hKr C0 hr hnx   _ _ _ _ _ _ h hq0 hm9 hm2 hH (lv_sub hl [] rfl)
def f_N_follow_232 (Kr : (Nat → Nat) → mS → Int32 → Int32 → Int32 → Nat → Option (bO Unit))   (g : Nat → Nat) (v : mS) : Option (bO Unit) := f_N_follow_302 Kr g v
set_option maxHeartbeats 4000000 in
set_option maxRecDepth 100000 in
theorem w_N_follow_232 {p : Program} {l : Launch} {e : Env} {s : State} {m : MethodId} {args : Array Value} {below : List Frame} {meth : Method} {c : Code} {Z : bZ} {A : Nat → Prop} {q0 g0 : Nat → Nat} {o : bO Unit} {rB : Nat} {Kr : (Nat → Nat) → mS → Int32 → Int32 → Int32 → Nat → Option (bO Unit)} (hMr : ∀ {g : Nat → Nat} {v : mS} {z1 : Int32} {z2 : Int32} {z3 : Int32} {z4 : Nat} {o : bO Unit}, Kr g v z1 z2 z3 z4 = some o → gL g ≤ gL o.2.1) (hKr : ∀ {q g : Nat → Nat} {v : mS} {z1 : Int32} {z2 : Int32} {z3 : Int32} {z4 : Nat} {o : bO Unit}, Kr g v z1 z2 z3 z4 = some o → bx_M l Z rB y_N_work b_N_work 6 none [.ref (q 25), .int z1, .int z2, .int z3, .ref (q z4)] q g v enV o) (C0 : bn_C "FilterBench$Runner" b_N_follow 6 Z A p l s m args meth c) (hr : meth.sig.returnType = none) (hnx : ∀ x ∈ c.exceptionTable.toList, False) : ∀  (g : Nat → Nat) (v : mS) (q : Nat → Nat) (H : Heap) (locs : List Loc) (ls : Array Slot), f_N_follow_232 Kr   g v = some o → qs q0 q → gL g0 ≤ gL g → gL g ≤ gL o.2.1 → bn_H Z A s (q, g, v) H locs → lv_has ls 6 [] → bx_W p l e s m args below meth c Z A q0 g0 enV o (rB + 33) g H locs (F0 m 232 ls []) := by
  have hx := C0.1
  have hb := C0.2.1
  have hl0 := C0.2.2.2.2.2.2.2.2.2
  intro  g v q H locs ls h hq hm0 hm hH hl
  unfold f_N_follow_232 at h
  have hcl9 := bx_room (h0 := (rB + 33)) (o := o) hm0 hm
  refine lv_goto (tgt := 302) hx hb d_N_follow_232 (by decide) ?_
  exact w_N_follow_302 hMr hKr C0 hr hnx   _ _ _ _ _ _ h hq hm0 hm hH (lv_sub hl [] rfl)
def f_N_follow_221 (Kr : (Nat → Nat) → mS → Int32 → Int32 → Int32 → Nat → Option (bO Unit))  (x1 : Int32) (x2 : Int32) (x3 : Int32) (x4 : Int32) (x5 : Nat) (g : Nat → Nat) (v : mS) : Option (bO Unit) := gd (rowB x5) (bo (f_N_bothOrEither Kr g v x1 x2 x3 x4 x5) fun r9 g9 v9 => f_N_follow_232 Kr g9 v9)
set_option maxHeartbeats 4000000 in
set_option maxRecDepth 100000 in
theorem w_N_follow_221 {p : Program} {l : Launch} {e : Env} {s : State} {m : MethodId} {args : Array Value} {below : List Frame} {meth : Method} {c : Code} {Z : bZ} {A : Nat → Prop} {q0 g0 : Nat → Nat} {o : bO Unit} {rB : Nat} {Kr : (Nat → Nat) → mS → Int32 → Int32 → Int32 → Nat → Option (bO Unit)} (hMr : ∀ {g : Nat → Nat} {v : mS} {z1 : Int32} {z2 : Int32} {z3 : Int32} {z4 : Nat} {o : bO Unit}, Kr g v z1 z2 z3 z4 = some o → gL g ≤ gL o.2.1) (hKr : ∀ {q g : Nat → Nat} {v : mS} {z1 : Int32} {z2 : Int32} {z3 : Int32} {z4 : Nat} {o : bO Unit}, Kr g v z1 z2 z3 z4 = some o → bx_M l Z rB y_N_work b_N_work 6 none [.ref (q 25), .int z1, .int z2, .int z3, .ref (q z4)] q g v enV o) (C0 : bn_C "FilterBench$Runner" b_N_follow 6 Z A p l s m args meth c) (hr : meth.sig.returnType = none) (hnx : ∀ x ∈ c.exceptionTable.toList, False) : ∀ (x1 : Int32) (x2 : Int32) (x3 : Int32) (x4 : Int32) (x5 : Nat) (g : Nat → Nat) (v : mS) (q : Nat → Nat) (H : Heap) (locs : List Loc) (ls : Array Slot), f_N_follow_221 Kr  x1 x2 x3 x4 x5 g v = some o → qs q0 q → gL g0 ≤ gL g → gL g ≤ gL o.2.1 → bn_H Z A s (q, g, v) H locs → lv_has ls 6 [(0, .ref (q 25)), (1, .int x1), (2, .int x2), (3, .int x3), (4, .int x4), (5, .ref (q x5))] → bx_W p l e s m args below meth c Z A q0 g0 enV o (rB + 33) g H locs (F0 m 221 ls []) := by
  have hx := C0.1
  have hb := C0.2.1
  have hl0 := C0.2.2.2.2.2.2.2.2.2
  intro x1 x2 x3 x4 x5 g v q H locs ls h hq hm0 hm hH hl
  unfold f_N_follow_221 at h
  have hcl9 := bx_room (h0 := (rB + 33)) (o := o) hm0 hm
  obtain ⟨hgx5, h⟩ := gd_out h
  refine lv_aload_n hx hb d_N_follow_221 rfl (lv_at hl 0 rfl) ?_
  refine lv_iload_n hx hb d_N_follow_222 rfl (lv_at hl 1 rfl) ?_
  refine lv_iload_n hx hb d_N_follow_223 rfl (lv_at hl 2 rfl) ?_
  refine lv_iload_n hx hb d_N_follow_224 rfl (lv_at hl 3 rfl) ?_
  refine lv_iload hx hb d_N_follow_225 (lv_at hl 4 rfl) ?_
  refine lv_aload hx hb d_N_follow_227 (lv_at hl 5 rfl) ?_
  obtain ⟨o1, hc, hm2, ht9, hx1, hk9⟩ := bo_out h
  have hm1 := mn_N_bothOrEither hc
  refine bx_cV (as := [.int x1, .int x2, .int x3, .int x4, .ref (q x5)]) (rest := []) C0 hnx hq hH hm0 hm1 hm2 ht9 (ci := 3) ⟨by decide, by decide⟩ (by decide) rfl (c_N_bothOrEither hMr hKr hl0 hc) yy_N_bothOrEither q_789 ⟨by first | omega | (simp only [dK]; omega), by first | omega | (simp only [dK]; omega)⟩ rfl hl.1 rfl (Nat.le_of_ble_eq_true rfl) d_N_follow_229 hx1 (fun r9 q1 H locs hr1 hq0 hq1 hm9 hH => ?_)
  have h := hk9 r9 hr1
  exact w_N_follow_232 hMr hKr C0 hr hnx   _ _ _ _ _ _ h hq0 hm9 hm2 hH (lv_sub hl [] rfl)
def f_N_follow_246 (Kr : (Nat → Nat) → mS → Int32 → Int32 → Int32 → Nat → Option (bO Unit))   (g : Nat → Nat) (v : mS) : Option (bO Unit) := f_N_follow_302 Kr g v
set_option maxHeartbeats 4000000 in
set_option maxRecDepth 100000 in
theorem w_N_follow_246 {p : Program} {l : Launch} {e : Env} {s : State} {m : MethodId} {args : Array Value} {below : List Frame} {meth : Method} {c : Code} {Z : bZ} {A : Nat → Prop} {q0 g0 : Nat → Nat} {o : bO Unit} {rB : Nat} {Kr : (Nat → Nat) → mS → Int32 → Int32 → Int32 → Nat → Option (bO Unit)} (hMr : ∀ {g : Nat → Nat} {v : mS} {z1 : Int32} {z2 : Int32} {z3 : Int32} {z4 : Nat} {o : bO Unit}, Kr g v z1 z2 z3 z4 = some o → gL g ≤ gL o.2.1) (hKr : ∀ {q g : Nat → Nat} {v : mS} {z1 : Int32} {z2 : Int32} {z3 : Int32} {z4 : Nat} {o : bO Unit}, Kr g v z1 z2 z3 z4 = some o → bx_M l Z rB y_N_work b_N_work 6 none [.ref (q 25), .int z1, .int z2, .int z3, .ref (q z4)] q g v enV o) (C0 : bn_C "FilterBench$Runner" b_N_follow 6 Z A p l s m args meth c) (hr : meth.sig.returnType = none) (hnx : ∀ x ∈ c.exceptionTable.toList, False) : ∀  (g : Nat → Nat) (v : mS) (q : Nat → Nat) (H : Heap) (locs : List Loc) (ls : Array Slot), f_N_follow_246 Kr   g v = some o → qs q0 q → gL g0 ≤ gL g → gL g ≤ gL o.2.1 → bn_H Z A s (q, g, v) H locs → lv_has ls 6 [] → bx_W p l e s m args below meth c Z A q0 g0 enV o (rB + 33) g H locs (F0 m 246 ls []) := by
  have hx := C0.1
  have hb := C0.2.1
  have hl0 := C0.2.2.2.2.2.2.2.2.2
  intro  g v q H locs ls h hq hm0 hm hH hl
  unfold f_N_follow_246 at h
  have hcl9 := bx_room (h0 := (rB + 33)) (o := o) hm0 hm
  refine lv_goto (tgt := 302) hx hb d_N_follow_246 (by decide) ?_
  exact w_N_follow_302 hMr hKr C0 hr hnx   _ _ _ _ _ _ h hq hm0 hm hH (lv_sub hl [] rfl)
def f_N_follow_260 (Kr : (Nat → Nat) → mS → Int32 → Int32 → Int32 → Nat → Option (bO Unit))   (g : Nat → Nat) (v : mS) : Option (bO Unit) := f_N_follow_302 Kr g v
set_option maxHeartbeats 4000000 in
set_option maxRecDepth 100000 in
theorem w_N_follow_260 {p : Program} {l : Launch} {e : Env} {s : State} {m : MethodId} {args : Array Value} {below : List Frame} {meth : Method} {c : Code} {Z : bZ} {A : Nat → Prop} {q0 g0 : Nat → Nat} {o : bO Unit} {rB : Nat} {Kr : (Nat → Nat) → mS → Int32 → Int32 → Int32 → Nat → Option (bO Unit)} (hMr : ∀ {g : Nat → Nat} {v : mS} {z1 : Int32} {z2 : Int32} {z3 : Int32} {z4 : Nat} {o : bO Unit}, Kr g v z1 z2 z3 z4 = some o → gL g ≤ gL o.2.1) (hKr : ∀ {q g : Nat → Nat} {v : mS} {z1 : Int32} {z2 : Int32} {z3 : Int32} {z4 : Nat} {o : bO Unit}, Kr g v z1 z2 z3 z4 = some o → bx_M l Z rB y_N_work b_N_work 6 none [.ref (q 25), .int z1, .int z2, .int z3, .ref (q z4)] q g v enV o) (C0 : bn_C "FilterBench$Runner" b_N_follow 6 Z A p l s m args meth c) (hr : meth.sig.returnType = none) (hnx : ∀ x ∈ c.exceptionTable.toList, False) : ∀  (g : Nat → Nat) (v : mS) (q : Nat → Nat) (H : Heap) (locs : List Loc) (ls : Array Slot), f_N_follow_260 Kr   g v = some o → qs q0 q → gL g0 ≤ gL g → gL g ≤ gL o.2.1 → bn_H Z A s (q, g, v) H locs → lv_has ls 6 [] → bx_W p l e s m args below meth c Z A q0 g0 enV o (rB + 33) g H locs (F0 m 260 ls []) := by
  have hx := C0.1
  have hb := C0.2.1
  have hl0 := C0.2.2.2.2.2.2.2.2.2
  intro  g v q H locs ls h hq hm0 hm hH hl
  unfold f_N_follow_260 at h
  have hcl9 := bx_room (h0 := (rB + 33)) (o := o) hm0 hm
  refine lv_goto (tgt := 302) hx hb d_N_follow_260 (by decide) ?_
  exact w_N_follow_302 hMr hKr C0 hr hnx   _ _ _ _ _ _ h hq hm0 hm hH (lv_sub hl [] rfl)
def f_N_follow_270 (Kr : (Nat → Nat) → mS → Int32 → Int32 → Int32 → Nat → Option (bO Unit))   (g : Nat → Nat) (v : mS) : Option (bO Unit) := f_N_follow_302 Kr g v
set_option maxHeartbeats 4000000 in
set_option maxRecDepth 100000 in
theorem w_N_follow_270 {p : Program} {l : Launch} {e : Env} {s : State} {m : MethodId} {args : Array Value} {below : List Frame} {meth : Method} {c : Code} {Z : bZ} {A : Nat → Prop} {q0 g0 : Nat → Nat} {o : bO Unit} {rB : Nat} {Kr : (Nat → Nat) → mS → Int32 → Int32 → Int32 → Nat → Option (bO Unit)} (hMr : ∀ {g : Nat → Nat} {v : mS} {z1 : Int32} {z2 : Int32} {z3 : Int32} {z4 : Nat} {o : bO Unit}, Kr g v z1 z2 z3 z4 = some o → gL g ≤ gL o.2.1) (hKr : ∀ {q g : Nat → Nat} {v : mS} {z1 : Int32} {z2 : Int32} {z3 : Int32} {z4 : Nat} {o : bO Unit}, Kr g v z1 z2 z3 z4 = some o → bx_M l Z rB y_N_work b_N_work 6 none [.ref (q 25), .int z1, .int z2, .int z3, .ref (q z4)] q g v enV o) (C0 : bn_C "FilterBench$Runner" b_N_follow 6 Z A p l s m args meth c) (hr : meth.sig.returnType = none) (hnx : ∀ x ∈ c.exceptionTable.toList, False) : ∀  (g : Nat → Nat) (v : mS) (q : Nat → Nat) (H : Heap) (locs : List Loc) (ls : Array Slot), f_N_follow_270 Kr   g v = some o → qs q0 q → gL g0 ≤ gL g → gL g ≤ gL o.2.1 → bn_H Z A s (q, g, v) H locs → lv_has ls 6 [] → bx_W p l e s m args below meth c Z A q0 g0 enV o (rB + 33) g H locs (F0 m 270 ls []) := by
  have hx := C0.1
  have hb := C0.2.1
  have hl0 := C0.2.2.2.2.2.2.2.2.2
  intro  g v q H locs ls h hq hm0 hm hH hl
  unfold f_N_follow_270 at h
  have hcl9 := bx_room (h0 := (rB + 33)) (o := o) hm0 hm
  refine lv_goto (tgt := 302) hx hb d_N_follow_270 (by decide) ?_
  exact w_N_follow_302 hMr hKr C0 hr hnx   _ _ _ _ _ _ h hq hm0 hm hH (lv_sub hl [] rfl)
def f_N_follow_288 (Kr : (Nat → Nat) → mS → Int32 → Int32 → Int32 → Nat → Option (bO Unit))   (g : Nat → Nat) (v : mS) : Option (bO Unit) := f_N_follow_302 Kr g v
set_option maxHeartbeats 4000000 in
set_option maxRecDepth 100000 in
theorem w_N_follow_288 {p : Program} {l : Launch} {e : Env} {s : State} {m : MethodId} {args : Array Value} {below : List Frame} {meth : Method} {c : Code} {Z : bZ} {A : Nat → Prop} {q0 g0 : Nat → Nat} {o : bO Unit} {rB : Nat} {Kr : (Nat → Nat) → mS → Int32 → Int32 → Int32 → Nat → Option (bO Unit)} (hMr : ∀ {g : Nat → Nat} {v : mS} {z1 : Int32} {z2 : Int32} {z3 : Int32} {z4 : Nat} {o : bO Unit}, Kr g v z1 z2 z3 z4 = some o → gL g ≤ gL o.2.1) (hKr : ∀ {q g : Nat → Nat} {v : mS} {z1 : Int32} {z2 : Int32} {z3 : Int32} {z4 : Nat} {o : bO Unit}, Kr g v z1 z2 z3 z4 = some o → bx_M l Z rB y_N_work b_N_work 6 none [.ref (q 25), .int z1, .int z2, .int z3, .ref (q z4)] q g v enV o) (C0 : bn_C "FilterBench$Runner" b_N_follow 6 Z A p l s m args meth c) (hr : meth.sig.returnType = none) (hnx : ∀ x ∈ c.exceptionTable.toList, False) : ∀  (g : Nat → Nat) (v : mS) (q : Nat → Nat) (H : Heap) (locs : List Loc) (ls : Array Slot), f_N_follow_288 Kr   g v = some o → qs q0 q → gL g0 ≤ gL g → gL g ≤ gL o.2.1 → bn_H Z A s (q, g, v) H locs → lv_has ls 6 [] → bx_W p l e s m args below meth c Z A q0 g0 enV o (rB + 33) g H locs (F0 m 288 ls []) := by
  have hx := C0.1
  have hb := C0.2.1
  have hl0 := C0.2.2.2.2.2.2.2.2.2
  intro  g v q H locs ls h hq hm0 hm hH hl
  unfold f_N_follow_288 at h
  have hcl9 := bx_room (h0 := (rB + 33)) (o := o) hm0 hm
  refine lv_goto (tgt := 302) hx hb d_N_follow_288 (by decide) ?_
  exact w_N_follow_302 hMr hKr C0 hr hnx   _ _ _ _ _ _ h hq hm0 hm hH (lv_sub hl [] rfl)
def f_N_follow_299 (Kr : (Nat → Nat) → mS → Int32 → Int32 → Int32 → Nat → Option (bO Unit))   (g : Nat → Nat) (v : mS) : Option (bO Unit) := f_N_follow_302 Kr g v
set_option maxHeartbeats 4000000 in
set_option maxRecDepth 100000 in
theorem w_N_follow_299 {p : Program} {l : Launch} {e : Env} {s : State} {m : MethodId} {args : Array Value} {below : List Frame} {meth : Method} {c : Code} {Z : bZ} {A : Nat → Prop} {q0 g0 : Nat → Nat} {o : bO Unit} {rB : Nat} {Kr : (Nat → Nat) → mS → Int32 → Int32 → Int32 → Nat → Option (bO Unit)} (hMr : ∀ {g : Nat → Nat} {v : mS} {z1 : Int32} {z2 : Int32} {z3 : Int32} {z4 : Nat} {o : bO Unit}, Kr g v z1 z2 z3 z4 = some o → gL g ≤ gL o.2.1) (hKr : ∀ {q g : Nat → Nat} {v : mS} {z1 : Int32} {z2 : Int32} {z3 : Int32} {z4 : Nat} {o : bO Unit}, Kr g v z1 z2 z3 z4 = some o → bx_M l Z rB y_N_work b_N_work 6 none [.ref (q 25), .int z1, .int z2, .int z3, .ref (q z4)] q g v enV o) (C0 : bn_C "FilterBench$Runner" b_N_follow 6 Z A p l s m args meth c) (hr : meth.sig.returnType = none) (hnx : ∀ x ∈ c.exceptionTable.toList, False) : ∀  (g : Nat → Nat) (v : mS) (q : Nat → Nat) (H : Heap) (locs : List Loc) (ls : Array Slot), f_N_follow_299 Kr   g v = some o → qs q0 q → gL g0 ≤ gL g → gL g ≤ gL o.2.1 → bn_H Z A s (q, g, v) H locs → lv_has ls 6 [] → bx_W p l e s m args below meth c Z A q0 g0 enV o (rB + 33) g H locs (F0 m 299 ls []) := by
  have hx := C0.1
  have hb := C0.2.1
  have hl0 := C0.2.2.2.2.2.2.2.2.2
  intro  g v q H locs ls h hq hm0 hm hH hl
  unfold f_N_follow_299 at h
  have hcl9 := bx_room (h0 := (rB + 33)) (o := o) hm0 hm
  refine lv_goto (tgt := 302) hx hb d_N_follow_299 (by decide) ?_
  exact w_N_follow_302 hMr hKr C0 hr hnx   _ _ _ _ _ _ h hq hm0 hm hH (lv_sub hl [] rfl)
def f_N_follow (Kr : (Nat → Nat) → mS → Int32 → Int32 → Int32 → Nat → Option (bO Unit)) (g : Nat → Nat) (v : mS) (x1 : Int32) (x2 : Int32) (x3 : Int32) (x4 : Int32) (x5 : Nat) : Option (bO Unit) := mg g (gd (rowB x5) (gd (filB (9 + 4 * g 25)) (bi (f_F_opAt g v ((9 + 4 * g 25)) x1) fun r_4 v_2 => if r_4 = 2 then (bi (f_V_indexed g v_2 x2 x3) fun r_7 v_5 => bo (f_N_give g v_5 r_7 x5) fun r9 g9 v9 => f_N_follow_167 Kr g9 v9) else if r_4 = 3 then (f_N_follow_302 Kr g v_2) else if r_4 = 4 then (gd (filB (9 + 4 * g 25)) (bi (f_F_secondPart g v_2 ((9 + 4 * g 25)) x1) fun r_13 v_11 => bo (Kr g v_11 r_13 x3 (x4 + 1) x5) fun r9 g9 v9 => f_N_follow_189 Kr g9 v9)) else if r_4 = 5 then (f_N_follow_302 Kr g v_2) else if r_4 = 6 then (f_N_follow_302 Kr g v_2) else if r_4 = 7 then (f_N_follow_302 Kr g v_2) else if r_4 = 8 then (f_N_follow_302 Kr g v_2) else if r_4 = 9 then (f_N_follow_302 Kr g v_2) else if r_4 = 10 then (f_N_follow_302 Kr g v_2) else if r_4 = 11 then (gd (filB (9 + 4 * g 25)) (bi (f_F_choiceAt g v_2 ((9 + 4 * g 25)) x1) fun r_24 v_22 => gd (inB r_24 8) (bo (f_V_objectOf g v_22 (v_22 7 (r_24 : Int32).toNatClampNeg) x3) fun r9 g9 v9 => f_N_follow_215 Kr x5 r9 g9 v9))) else if r_4 = 12 then (f_N_follow_302 Kr g v_2) else if r_4 = 13 then (f_N_follow_302 Kr g v_2) else if r_4 = 14 then (f_N_follow_221 Kr x1 x2 x3 x4 x5 g v_2) else if r_4 = 15 then (f_N_follow_221 Kr x1 x2 x3 x4 x5 g v_2) else if r_4 = 16 then (f_N_follow_302 Kr g v_2) else if r_4 = 17 then (bo (f_N_choose Kr g v_2 x1 x2 x3 x4 x5) fun r9 g9 v9 => f_N_follow_246 Kr g9 v9) else if r_4 = 18 then (f_N_follow_302 Kr g v_2) else if r_4 = 19 then (f_N_follow_302 Kr g v_2) else if r_4 = 20 then (bo (f_N_bind Kr g v_2 x1 x2 x3 x4 x5) fun r9 g9 v9 => f_N_follow_260 Kr g9 v9) else if r_4 = 21 then (f_N_follow_302 Kr g v_2) else if r_4 = 22 then (f_N_follow_302 Kr g v_2) else if r_4 = 23 then (f_N_follow_302 Kr g v_2) else if r_4 = 24 then (f_N_follow_302 Kr g v_2) else if r_4 = 25 then (f_N_follow_302 Kr g v_2) else if r_4 = 26 then (f_N_follow_302 Kr g v_2) else if r_4 = 27 then (f_N_follow_302 Kr g v_2) else if r_4 = 28 then (f_N_follow_302 Kr g v_2) else if r_4 = 29 then (bo (f_N_range g v_2 x3 x5) fun r9 g9 v9 => f_N_follow_270 Kr g9 v9) else if r_4 = 30 then (f_N_follow_302 Kr g v_2) else if r_4 = 31 then (f_N_follow_302 Kr g v_2) else if r_4 = 32 then (bi (f_V_has g v_2 x2 x3) fun r_49 v_47 => bo (f_N_give g v_47 r_49 x5) fun r9 g9 v9 => f_N_follow_288 Kr g9 v9) else if r_4 = 33 then (bo (f_N_select g v_2 x2 x3 x5) fun r9 g9 v9 => f_N_follow_299 Kr g9 v9) else (f_N_follow_302 Kr g v_2))))
theorem mn_N_follow {Kr : (Nat → Nat) → mS → Int32 → Int32 → Int32 → Nat → Option (bO Unit)} {g : Nat → Nat} {v : mS}  {x1 : Int32} {x2 : Int32} {x3 : Int32} {x4 : Int32} {x5 : Nat} {o : bO Unit} (h : f_N_follow Kr g v x1 x2 x3 x4 x5 = some o) : gL g ≤ gL o.2.1 := (mg_out h).1
set_option maxHeartbeats 4000000 in
set_option maxRecDepth 100000 in
theorem c_N_follow {l : Launch} {Z : bZ} {rB : Nat} {Kr : (Nat → Nat) → mS → Int32 → Int32 → Int32 → Nat → Option (bO Unit)} (hMr : ∀ {g : Nat → Nat} {v : mS} {z1 : Int32} {z2 : Int32} {z3 : Int32} {z4 : Nat} {o : bO Unit}, Kr g v z1 z2 z3 z4 = some o → gL g ≤ gL o.2.1) (hKr : ∀ {q g : Nat → Nat} {v : mS} {z1 : Int32} {z2 : Int32} {z3 : Int32} {z4 : Nat} {o : bO Unit}, Kr g v z1 z2 z3 z4 = some o → bx_M l Z rB y_N_work b_N_work 6 none [.ref (q 25), .int z1, .int z2, .int z3, .ref (q z4)] q g v enV o) (hl0 : l.stackTraces = false) {q g : Nat → Nat} {v : mS}  {x1 : Int32} {x2 : Int32} {x3 : Int32} {x4 : Int32} {x5 : Nat} {o : bO Unit} (h : f_N_follow Kr g v x1 x2 x3 x4 x5 = some o) : bx_M l Z (rB + 33) y_N_follow b_N_follow 6 none [.ref (q 25), .int x1, .int x2, .int x3, .int x4, .ref (q x5)] q g v enV o := by
  refine bx_of hl0 (by decide +kernel) (Nat.le_of_ble_eq_true rfl) ?_
  intro p e s m args below meth c A ls C0 hr hnx hl hH
  have hx := C0.1
  have hb := C0.2.1
  have C0 : bn_C "FilterBench$Runner" b_N_follow 6 Z A p l s m args meth c := C0
  have hl : lv_has ls 6 [(0, .ref (q 25)), (1, .int x1), (2, .int x2), (3, .int x3), (4, .int x4), (5, .ref (q x5))] := hl
  obtain ⟨hm, h⟩ := mg_out h
  have hm0 : gL g ≤ gL g := Nat.le_refl _
  have hq : qs q q := qs.rf
  have hcl9 := bx_room (h0 := (rB + 33)) (o := o) hm0 hm
  obtain ⟨hgx5, h⟩ := gd_out h
  refine lv_aload_n hx hb d_N_follow_0 rfl (lv_at hl 0 rfl) ?_
  obtain ⟨g_1, h⟩ := gd_out h
  refine bn_g_N_filter ⟨by decide, by decide⟩ C0 hH d_N_follow_1 ?_
  refine lv_iload_n hx hb d_N_follow_4 rfl (lv_at hl 1 rfl) ?_
  obtain ⟨r_4, v_2, hc_3, h⟩ := bi_out h
  refine bn_ci (r := r_4) (w := (q, g, v_2)) (as := [.int x1]) (rest := []) C0 hH (ci := 1) (filB_k g_1) (by decide) rfl (c_F_opAt hl0 hc_3) yy_F_opAt q_504 ⟨by simp only [bn_rm, dK]; omega, by simp only [bn_rm, dK]; omega⟩ rfl hl.1 rfl (Nat.le_of_ble_eq_true rfl) hcl9 d_N_follow_5 (fun H locs hH => ?_)
  by_cases e_8 : r_4 = 2
  · rw [if_pos e_8] at h
    refine fu_hit (tgt := 152) 2 e_8 hx hb d_N_follow_8 (by decide) (by decide) rfl (by decide) ?_
    refine lv_aload_n hx hb d_N_follow_152 rfl (lv_at hl 0 rfl) ?_
    refine lv_aload_n hx hb d_N_follow_153 rfl (lv_at hl 0 rfl) ?_
    refine bn_g_N_values ⟨by decide, by decide⟩ C0 hH d_N_follow_154 ?_
    refine lv_iload_n hx hb d_N_follow_157 rfl (lv_at hl 2 rfl) ?_
    refine lv_iload_n hx hb d_N_follow_158 rfl (lv_at hl 3 rfl) ?_
    obtain ⟨r_7, v_5, hc_6, h⟩ := bi_out h
    refine bn_ci (r := r_7) (w := (q, g, v_5)) (as := [.int x2, .int x3]) (rest := [.ref (q 25)]) C0 hH (ci := 4) ⟨by decide, by decide⟩ (by decide) rfl (c_V_indexed hl0 hc_6) yy_V_indexed q_780 ⟨by simp only [bn_rm, dK]; omega, by simp only [bn_rm, dK]; omega⟩ rfl hl.1 rfl (Nat.le_of_ble_eq_true rfl) hcl9 d_N_follow_159 (fun H locs hH => ?_)
    refine lv_aload hx hb d_N_follow_162 (lv_at hl 5 rfl) ?_
    obtain ⟨o1, hc, hm2, ht9, hx1, hk9⟩ := bo_out h
    have hm1 := mn_N_give hc
    refine bx_cV (as := [.int r_7, .ref (q x5)]) (rest := []) C0 hnx hq hH hm0 hm1 hm2 ht9 (ci := 3) ⟨by decide, by decide⟩ (by decide) rfl (c_N_give hl0 hc) yy_N_give q_547 ⟨by first | omega | (simp only [dK]; omega), by first | omega | (simp only [dK]; omega)⟩ rfl hl.1 rfl (Nat.le_of_ble_eq_true rfl) d_N_follow_164 hx1 (fun r9 q1 H locs hr1 hq0 hq1 hm9 hH => ?_)
    have h := hk9 r9 hr1
    exact w_N_follow_167 hMr hKr C0 hr hnx   _ _ _ _ _ _ h hq0 hm9 hm2 hH (lv_sub hl [] rfl)
  rw [if_neg e_8] at h
  by_cases e_9 : r_4 = 3
  · rw [if_pos e_9] at h
    refine fu_hit (tgt := 302) 3 e_9 hx hb d_N_follow_8 (by decide) (by decide) rfl (by decide) ?_
    exact w_N_follow_302 hMr hKr C0 hr hnx   _ _ _ _ _ _ h hq hm0 hm hH (lv_sub hl [] rfl)
  rw [if_neg e_9] at h
  by_cases e_14 : r_4 = 4
  · rw [if_pos e_14] at h
    refine fu_hit (tgt := 170) 4 e_14 hx hb d_N_follow_8 (by decide) (by decide) rfl (by decide) ?_
    refine lv_aload_n hx hb d_N_follow_170 rfl (lv_at hl 0 rfl) ?_
    refine lv_aload_n hx hb d_N_follow_171 rfl (lv_at hl 0 rfl) ?_
    obtain ⟨g_10, h⟩ := gd_out h
    refine bn_g_N_filter ⟨by decide, by decide⟩ C0 hH d_N_follow_172 ?_
    refine lv_iload_n hx hb d_N_follow_175 rfl (lv_at hl 1 rfl) ?_
    obtain ⟨r_13, v_11, hc_12, h⟩ := bi_out h
    refine bn_ci (r := r_13) (w := (q, g, v_11)) (as := [.int x1]) (rest := [.ref (q 25)]) C0 hH (ci := 1) (filB_k g_10) (by decide) rfl (c_F_secondPart hl0 hc_12) yy_F_secondPart q_579 ⟨by simp only [bn_rm, dK]; omega, by simp only [bn_rm, dK]; omega⟩ rfl hl.1 rfl (Nat.le_of_ble_eq_true rfl) hcl9 d_N_follow_176 (fun H locs hH => ?_)
    refine lv_iload_n hx hb d_N_follow_179 rfl (lv_at hl 3 rfl) ?_
    refine lv_iload hx hb d_N_follow_180 (lv_at hl 4 rfl) ?_
    refine lv_iconst (v := 1) hx hb d_N_follow_182 (by decide) ?_
    refine lv_iadd hx hb d_N_follow_183 ?_
    refine lv_aload hx hb d_N_follow_184 (lv_at hl 5 rfl) ?_
    obtain ⟨o1, hc, hm2, ht9, hx1, hk9⟩ := bo_out h
    have hm1 := hMr hc
    refine bx_cV (as := [.int r_13, .int x3, .int (x4 + 1), .ref (q x5)]) (rest := []) C0 hnx hq hH hm0 hm1 hm2 ht9 (ci := 3) ⟨by decide, by decide⟩ (by decide) rfl (hKr hc) yy_N_work q_574 ⟨by first | omega | (simp only [dK]; omega), by first | omega | (simp only [dK]; omega)⟩ rfl hl.1 rfl (Nat.le_of_ble_eq_true rfl) d_N_follow_186 hx1 (fun r9 q1 H locs hr1 hq0 hq1 hm9 hH => ?_)
    have h := hk9 r9 hr1
    exact w_N_follow_189 hMr hKr C0 hr hnx   _ _ _ _ _ _ h hq0 hm9 hm2 hH (lv_sub hl [] rfl)
  rw [if_neg e_14] at h
  by_cases e_15 : r_4 = 5
  · rw [if_pos e_15] at h
    refine fu_hit (tgt := 302) 5 e_15 hx hb d_N_follow_8 (by decide) (by decide) rfl (by decide) ?_
    exact w_N_follow_302 hMr hKr C0 hr hnx   _ _ _ _ _ _ h hq hm0 hm hH (lv_sub hl [] rfl)
  rw [if_neg e_15] at h
  by_cases e_16 : r_4 = 6
  · rw [if_pos e_16] at h
    refine fu_hit (tgt := 302) 6 e_16 hx hb d_N_follow_8 (by decide) (by decide) rfl (by decide) ?_
    exact w_N_follow_302 hMr hKr C0 hr hnx   _ _ _ _ _ _ h hq hm0 hm hH (lv_sub hl [] rfl)
  rw [if_neg e_16] at h
  by_cases e_17 : r_4 = 7
  · rw [if_pos e_17] at h
    refine fu_hit (tgt := 302) 7 e_17 hx hb d_N_follow_8 (by decide) (by decide) rfl (by decide) ?_
    exact w_N_follow_302 hMr hKr C0 hr hnx   _ _ _ _ _ _ h hq hm0 hm hH (lv_sub hl [] rfl)
  rw [if_neg e_17] at h
  by_cases e_18 : r_4 = 8
  · rw [if_pos e_18] at h
    refine fu_hit (tgt := 302) 8 e_18 hx hb d_N_follow_8 (by decide) (by decide) rfl (by decide) ?_
    exact w_N_follow_302 hMr hKr C0 hr hnx   _ _ _ _ _ _ h hq hm0 hm hH (lv_sub hl [] rfl)
  rw [if_neg e_18] at h
  by_cases e_19 : r_4 = 9
  · rw [if_pos e_19] at h
    refine fu_hit (tgt := 302) 9 e_19 hx hb d_N_follow_8 (by decide) (by decide) rfl (by decide) ?_
    exact w_N_follow_302 hMr hKr C0 hr hnx   _ _ _ _ _ _ h hq hm0 hm hH (lv_sub hl [] rfl)
  rw [if_neg e_19] at h
  by_cases e_20 : r_4 = 10
  · rw [if_pos e_20] at h
    refine fu_hit (tgt := 302) 10 e_20 hx hb d_N_follow_8 (by decide) (by decide) rfl (by decide) ?_
    exact w_N_follow_302 hMr hKr C0 hr hnx   _ _ _ _ _ _ h hq hm0 hm hH (lv_sub hl [] rfl)
  rw [if_neg e_20] at h
  by_cases e_26 : r_4 = 11
  · rw [if_pos e_26] at h
    refine fu_hit (tgt := 192) 11 e_26 hx hb d_N_follow_8 (by decide) (by decide) rfl (by decide) ?_
    refine lv_aload hx hb d_N_follow_192 (lv_at hl 5 rfl) ?_
    refine lv_aload_n hx hb d_N_follow_194 rfl (lv_at hl 0 rfl) ?_
    refine bn_g_N_values ⟨by decide, by decide⟩ C0 hH d_N_follow_195 ?_
    refine lv_aload_n hx hb d_N_follow_198 rfl (lv_at hl 0 rfl) ?_
    refine bn_g_N_strings ⟨by decide, by decide⟩ C0 hH d_N_follow_199 ?_
    refine lv_aload_n hx hb d_N_follow_202 rfl (lv_at hl 0 rfl) ?_
    obtain ⟨g_21, h⟩ := gd_out h
    refine bn_g_N_filter ⟨by decide, by decide⟩ C0 hH d_N_follow_203 ?_
    refine lv_iload_n hx hb d_N_follow_206 rfl (lv_at hl 1 rfl) ?_
    obtain ⟨r_24, v_22, hc_23, h⟩ := bi_out h
    refine bn_ci (r := r_24) (w := (q, g, v_22)) (as := [.int x1]) (rest := [.ref (q 7), .ref (q 1), .ref (q x5)]) C0 hH (ci := 1) (filB_k g_21) (by decide) rfl (c_F_choiceAt hl0 hc_23) yy_F_choiceAt q_500 ⟨by simp only [bn_rm, dK]; omega, by simp only [bn_rm, dK]; omega⟩ rfl hl.1 rfl (Nat.le_of_ble_eq_true rfl) hcl9 d_N_follow_207 (fun H locs hH => ?_)
    obtain ⟨g_25, h⟩ := gd_out h
    refine bn_ld ⟨by decide, by decide⟩ C0 hH (inB_in g_25) d_N_follow_210 ?_
    refine lv_iload_n hx hb d_N_follow_211 rfl (lv_at hl 3 rfl) ?_
    obtain ⟨o1, hc, hm2, ht9, hx1, hk9⟩ := bo_out h
    have hm1 := mn_V_objectOf hc
    refine bx_cV (as := [.int (v_22 7 (r_24 : Int32).toNatClampNeg), .int x3]) (rest := [.ref (q x5)]) C0 hnx hq hH hm0 hm1 hm2 ht9 (ci := 4) ⟨by decide, by decide⟩ (by decide) rfl (c_V_objectOf hl0 hc) yy_V_objectOf q_785 ⟨by first | omega | (simp only [dK]; omega), by first | omega | (simp only [dK]; omega)⟩ rfl hl.1 rfl (Nat.le_of_ble_eq_true rfl) d_N_follow_212 hx1 (fun r9 q1 H locs hr1 hq0 hq1 hm9 hH => ?_)
    have h := hk9 r9 hr1
    have e9 : q1 x5 = q x5 := (hq1 x5 (rowB_ne hgx5).1 (rowB_ne hgx5).2)
    try rw [← e9] at hl
    try rw [← e9]
    exact w_N_follow_215 hMr hKr C0 hr hnx  _ _ _ _ _ _ _ _ h hq0 hm9 hm2 hH (lv_sub hl [] rfl)
  rw [if_neg e_26] at h
  by_cases e_27 : r_4 = 12
  · rw [if_pos e_27] at h
    refine fu_hit (tgt := 302) 12 e_27 hx hb d_N_follow_8 (by decide) (by decide) rfl (by decide) ?_
    exact w_N_follow_302 hMr hKr C0 hr hnx   _ _ _ _ _ _ h hq hm0 hm hH (lv_sub hl [] rfl)
  rw [if_neg e_27] at h
  by_cases e_28 : r_4 = 13
  · rw [if_pos e_28] at h
    refine fu_hit (tgt := 302) 13 e_28 hx hb d_N_follow_8 (by decide) (by decide) rfl (by decide) ?_
    exact w_N_follow_302 hMr hKr C0 hr hnx   _ _ _ _ _ _ h hq hm0 hm hH (lv_sub hl [] rfl)
  rw [if_neg e_28] at h
  by_cases e_29 : r_4 = 14
  · rw [if_pos e_29] at h
    refine fu_hit (tgt := 221) 14 e_29 hx hb d_N_follow_8 (by decide) (by decide) rfl (by decide) ?_
    exact w_N_follow_221 hMr hKr C0 hr hnx  _ _ _ _ _ _ _ _ _ _ _ h hq hm0 hm hH (lv_sub hl [0, 1, 2, 3, 4, 5] rfl)
  rw [if_neg e_29] at h
  by_cases e_30 : r_4 = 15
  · rw [if_pos e_30] at h
    refine fu_hit (tgt := 221) 15 e_30 hx hb d_N_follow_8 (by decide) (by decide) rfl (by decide) ?_
    exact w_N_follow_221 hMr hKr C0 hr hnx  _ _ _ _ _ _ _ _ _ _ _ h hq hm0 hm hH (lv_sub hl [0, 1, 2, 3, 4, 5] rfl)
  rw [if_neg e_30] at h
  by_cases e_31 : r_4 = 16
  · rw [if_pos e_31] at h
    refine fu_hit (tgt := 302) 16 e_31 hx hb d_N_follow_8 (by decide) (by decide) rfl (by decide) ?_
    exact w_N_follow_302 hMr hKr C0 hr hnx   _ _ _ _ _ _ h hq hm0 hm hH (lv_sub hl [] rfl)
  rw [if_neg e_31] at h
  by_cases e_32 : r_4 = 17
  · rw [if_pos e_32] at h
    refine fu_hit (tgt := 235) 17 e_32 hx hb d_N_follow_8 (by decide) (by decide) rfl (by decide) ?_
    refine lv_aload_n hx hb d_N_follow_235 rfl (lv_at hl 0 rfl) ?_
    refine lv_iload_n hx hb d_N_follow_236 rfl (lv_at hl 1 rfl) ?_
    refine lv_iload_n hx hb d_N_follow_237 rfl (lv_at hl 2 rfl) ?_
    refine lv_iload_n hx hb d_N_follow_238 rfl (lv_at hl 3 rfl) ?_
    refine lv_iload hx hb d_N_follow_239 (lv_at hl 4 rfl) ?_
    refine lv_aload hx hb d_N_follow_241 (lv_at hl 5 rfl) ?_
    obtain ⟨o1, hc, hm2, ht9, hx1, hk9⟩ := bo_out h
    have hm1 := mn_N_choose hc
    refine bx_cV (as := [.int x1, .int x2, .int x3, .int x4, .ref (q x5)]) (rest := []) C0 hnx hq hH hm0 hm1 hm2 ht9 (ci := 3) ⟨by decide, by decide⟩ (by decide) rfl (c_N_choose hMr hKr hl0 hc) yy_N_choose q_793 ⟨by first | omega | (simp only [dK]; omega), by first | omega | (simp only [dK]; omega)⟩ rfl hl.1 rfl (Nat.le_of_ble_eq_true rfl) d_N_follow_243 hx1 (fun r9 q1 H locs hr1 hq0 hq1 hm9 hH => ?_)
    have h := hk9 r9 hr1
    exact w_N_follow_246 hMr hKr C0 hr hnx   _ _ _ _ _ _ h hq0 hm9 hm2 hH (lv_sub hl [] rfl)
  rw [if_neg e_32] at h
  by_cases e_33 : r_4 = 18
  · rw [if_pos e_33] at h
    refine fu_hit (tgt := 302) 18 e_33 hx hb d_N_follow_8 (by decide) (by decide) rfl (by decide) ?_
    exact w_N_follow_302 hMr hKr C0 hr hnx   _ _ _ _ _ _ h hq hm0 hm hH (lv_sub hl [] rfl)
  rw [if_neg e_33] at h
  by_cases e_34 : r_4 = 19
  · rw [if_pos e_34] at h
    refine fu_hit (tgt := 302) 19 e_34 hx hb d_N_follow_8 (by decide) (by decide) rfl (by decide) ?_
    exact w_N_follow_302 hMr hKr C0 hr hnx   _ _ _ _ _ _ h hq hm0 hm hH (lv_sub hl [] rfl)
  rw [if_neg e_34] at h
  by_cases e_35 : r_4 = 20
  · rw [if_pos e_35] at h
    refine fu_hit (tgt := 249) 20 e_35 hx hb d_N_follow_8 (by decide) (by decide) rfl (by decide) ?_
    refine lv_aload_n hx hb d_N_follow_249 rfl (lv_at hl 0 rfl) ?_
    refine lv_iload_n hx hb d_N_follow_250 rfl (lv_at hl 1 rfl) ?_
    refine lv_iload_n hx hb d_N_follow_251 rfl (lv_at hl 2 rfl) ?_
    refine lv_iload_n hx hb d_N_follow_252 rfl (lv_at hl 3 rfl) ?_
    refine lv_iload hx hb d_N_follow_253 (lv_at hl 4 rfl) ?_
    refine lv_aload hx hb d_N_follow_255 (lv_at hl 5 rfl) ?_
    obtain ⟨o1, hc, hm2, ht9, hx1, hk9⟩ := bo_out h
    have hm1 := mn_N_bind hc
    refine bx_cV (as := [.int x1, .int x2, .int x3, .int x4, .ref (q x5)]) (rest := []) C0 hnx hq hH hm0 hm1 hm2 ht9 (ci := 3) ⟨by decide, by decide⟩ (by decide) rfl (c_N_bind hMr hKr hl0 hc) yy_N_bind q_797 ⟨by first | omega | (simp only [dK]; omega), by first | omega | (simp only [dK]; omega)⟩ rfl hl.1 rfl (Nat.le_of_ble_eq_true rfl) d_N_follow_257 hx1 (fun r9 q1 H locs hr1 hq0 hq1 hm9 hH => ?_)
    have h := hk9 r9 hr1
    exact w_N_follow_260 hMr hKr C0 hr hnx   _ _ _ _ _ _ h hq0 hm9 hm2 hH (lv_sub hl [] rfl)
  rw [if_neg e_35] at h
  by_cases e_36 : r_4 = 21
  · rw [if_pos e_36] at h
    refine fu_hit (tgt := 302) 21 e_36 hx hb d_N_follow_8 (by decide) (by decide) rfl (by decide) ?_
    exact w_N_follow_302 hMr hKr C0 hr hnx   _ _ _ _ _ _ h hq hm0 hm hH (lv_sub hl [] rfl)
  rw [if_neg e_36] at h
  by_cases e_37 : r_4 = 22
  · rw [if_pos e_37] at h
    refine fu_hit (tgt := 302) 22 e_37 hx hb d_N_follow_8 (by decide) (by decide) rfl (by decide) ?_
    exact w_N_follow_302 hMr hKr C0 hr hnx   _ _ _ _ _ _ h hq hm0 hm hH (lv_sub hl [] rfl)
  rw [if_neg e_37] at h
  by_cases e_38 : r_4 = 23
  · rw [if_pos e_38] at h
    refine fu_hit (tgt := 302) 23 e_38 hx hb d_N_follow_8 (by decide) (by decide) rfl (by decide) ?_
    exact w_N_follow_302 hMr hKr C0 hr hnx   _ _ _ _ _ _ h hq hm0 hm hH (lv_sub hl [] rfl)
  rw [if_neg e_38] at h
  by_cases e_39 : r_4 = 24
  · rw [if_pos e_39] at h
    refine fu_hit (tgt := 302) 24 e_39 hx hb d_N_follow_8 (by decide) (by decide) rfl (by decide) ?_
    exact w_N_follow_302 hMr hKr C0 hr hnx   _ _ _ _ _ _ h hq hm0 hm hH (lv_sub hl [] rfl)
  rw [if_neg e_39] at h
  by_cases e_40 : r_4 = 25
  · rw [if_pos e_40] at h
    refine fu_hit (tgt := 302) 25 e_40 hx hb d_N_follow_8 (by decide) (by decide) rfl (by decide) ?_
    exact w_N_follow_302 hMr hKr C0 hr hnx   _ _ _ _ _ _ h hq hm0 hm hH (lv_sub hl [] rfl)
  rw [if_neg e_40] at h
  by_cases e_41 : r_4 = 26
  · rw [if_pos e_41] at h
    refine fu_hit (tgt := 302) 26 e_41 hx hb d_N_follow_8 (by decide) (by decide) rfl (by decide) ?_
    exact w_N_follow_302 hMr hKr C0 hr hnx   _ _ _ _ _ _ h hq hm0 hm hH (lv_sub hl [] rfl)
  rw [if_neg e_41] at h
  by_cases e_42 : r_4 = 27
  · rw [if_pos e_42] at h
    refine fu_hit (tgt := 302) 27 e_42 hx hb d_N_follow_8 (by decide) (by decide) rfl (by decide) ?_
    exact w_N_follow_302 hMr hKr C0 hr hnx   _ _ _ _ _ _ h hq hm0 hm hH (lv_sub hl [] rfl)
  rw [if_neg e_42] at h
  by_cases e_43 : r_4 = 28
  · rw [if_pos e_43] at h
    refine fu_hit (tgt := 302) 28 e_43 hx hb d_N_follow_8 (by decide) (by decide) rfl (by decide) ?_
    exact w_N_follow_302 hMr hKr C0 hr hnx   _ _ _ _ _ _ h hq hm0 hm hH (lv_sub hl [] rfl)
  rw [if_neg e_43] at h
  by_cases e_44 : r_4 = 29
  · rw [if_pos e_44] at h
    refine fu_hit (tgt := 263) 29 e_44 hx hb d_N_follow_8 (by decide) (by decide) rfl (by decide) ?_
    refine lv_aload_n hx hb d_N_follow_263 rfl (lv_at hl 0 rfl) ?_
    refine lv_iload_n hx hb d_N_follow_264 rfl (lv_at hl 3 rfl) ?_
    refine lv_aload hx hb d_N_follow_265 (lv_at hl 5 rfl) ?_
    obtain ⟨o1, hc, hm2, ht9, hx1, hk9⟩ := bo_out h
    have hm1 := mn_N_range hc
    refine bx_cV (as := [.int x3, .ref (q x5)]) (rest := []) C0 hnx hq hH hm0 hm1 hm2 ht9 (ci := 3) ⟨by decide, by decide⟩ (by decide) rfl (c_N_range hl0 hc) yy_N_range q_801 ⟨by first | omega | (simp only [dK]; omega), by first | omega | (simp only [dK]; omega)⟩ rfl hl.1 rfl (Nat.le_of_ble_eq_true rfl) d_N_follow_267 hx1 (fun r9 q1 H locs hr1 hq0 hq1 hm9 hH => ?_)
    have h := hk9 r9 hr1
    exact w_N_follow_270 hMr hKr C0 hr hnx   _ _ _ _ _ _ h hq0 hm9 hm2 hH (lv_sub hl [] rfl)
  rw [if_neg e_44] at h
  by_cases e_45 : r_4 = 30
  · rw [if_pos e_45] at h
    refine fu_hit (tgt := 302) 30 e_45 hx hb d_N_follow_8 (by decide) (by decide) rfl (by decide) ?_
    exact w_N_follow_302 hMr hKr C0 hr hnx   _ _ _ _ _ _ h hq hm0 hm hH (lv_sub hl [] rfl)
  rw [if_neg e_45] at h
  by_cases e_46 : r_4 = 31
  · rw [if_pos e_46] at h
    refine fu_hit (tgt := 302) 31 e_46 hx hb d_N_follow_8 (by decide) (by decide) rfl (by decide) ?_
    exact w_N_follow_302 hMr hKr C0 hr hnx   _ _ _ _ _ _ h hq hm0 hm hH (lv_sub hl [] rfl)
  rw [if_neg e_46] at h
  by_cases e_50 : r_4 = 32
  · rw [if_pos e_50] at h
    refine fu_hit (tgt := 273) 32 e_50 hx hb d_N_follow_8 (by decide) (by decide) rfl (by decide) ?_
    refine lv_aload_n hx hb d_N_follow_273 rfl (lv_at hl 0 rfl) ?_
    refine lv_aload_n hx hb d_N_follow_274 rfl (lv_at hl 0 rfl) ?_
    refine bn_g_N_values ⟨by decide, by decide⟩ C0 hH d_N_follow_275 ?_
    refine lv_iload_n hx hb d_N_follow_278 rfl (lv_at hl 2 rfl) ?_
    refine lv_iload_n hx hb d_N_follow_279 rfl (lv_at hl 3 rfl) ?_
    obtain ⟨r_49, v_47, hc_48, h⟩ := bi_out h
    refine bn_ci (r := r_49) (w := (q, g, v_47)) (as := [.int x2, .int x3]) (rest := [.ref (q 25)]) C0 hH (ci := 4) ⟨by decide, by decide⟩ (by decide) rfl (c_V_has hl0 hc_48) yy_V_has q_806 ⟨by simp only [bn_rm, dK]; omega, by simp only [bn_rm, dK]; omega⟩ rfl hl.1 rfl (Nat.le_of_ble_eq_true rfl) hcl9 d_N_follow_280 (fun H locs hH => ?_)
    refine lv_aload hx hb d_N_follow_283 (lv_at hl 5 rfl) ?_
    obtain ⟨o1, hc, hm2, ht9, hx1, hk9⟩ := bo_out h
    have hm1 := mn_N_give hc
    refine bx_cV (as := [.int r_49, .ref (q x5)]) (rest := []) C0 hnx hq hH hm0 hm1 hm2 ht9 (ci := 3) ⟨by decide, by decide⟩ (by decide) rfl (c_N_give hl0 hc) yy_N_give q_547 ⟨by first | omega | (simp only [dK]; omega), by first | omega | (simp only [dK]; omega)⟩ rfl hl.1 rfl (Nat.le_of_ble_eq_true rfl) d_N_follow_285 hx1 (fun r9 q1 H locs hr1 hq0 hq1 hm9 hH => ?_)
    have h := hk9 r9 hr1
    exact w_N_follow_288 hMr hKr C0 hr hnx   _ _ _ _ _ _ h hq0 hm9 hm2 hH (lv_sub hl [] rfl)
  rw [if_neg e_50] at h
  by_cases e_51 : r_4 = 33
  · rw [if_pos e_51] at h
    refine fu_hit (tgt := 291) 33 e_51 hx hb d_N_follow_8 (by decide) (by decide) rfl (by decide) ?_
    refine lv_aload_n hx hb d_N_follow_291 rfl (lv_at hl 0 rfl) ?_
    refine lv_iload_n hx hb d_N_follow_292 rfl (lv_at hl 2 rfl) ?_
    refine lv_iload_n hx hb d_N_follow_293 rfl (lv_at hl 3 rfl) ?_
    refine lv_aload hx hb d_N_follow_294 (lv_at hl 5 rfl) ?_
    obtain ⟨o1, hc, hm2, ht9, hx1, hk9⟩ := bo_out h
    have hm1 := mn_N_select hc
    refine bx_cV (as := [.int x2, .int x3, .ref (q x5)]) (rest := []) C0 hnx hq hH hm0 hm1 hm2 ht9 (ci := 3) ⟨by decide, by decide⟩ (by decide) rfl (c_N_select hl0 hc) yy_N_select q_811 ⟨by first | omega | (simp only [dK]; omega), by first | omega | (simp only [dK]; omega)⟩ rfl hl.1 rfl (Nat.le_of_ble_eq_true rfl) d_N_follow_296 hx1 (fun r9 q1 H locs hr1 hq0 hq1 hm9 hH => ?_)
    have h := hk9 r9 hr1
    exact w_N_follow_299 hMr hKr C0 hr hnx   _ _ _ _ _ _ h hq0 hm9 hm2 hH (lv_sub hl [] rfl)
  rw [if_neg e_51] at h
  refine lv_tableOut (tgt := 302) hx hb d_N_follow_8 (fu_out 32 (by decide) (fun k9 hk9 => match k9, hk9 with | 0, _ => lv_neT e_8 (by decide) | 1, _ => lv_neT e_9 (by decide) | 2, _ => lv_neT e_14 (by decide) | 3, _ => lv_neT e_15 (by decide) | 4, _ => lv_neT e_16 (by decide) | 5, _ => lv_neT e_17 (by decide) | 6, _ => lv_neT e_18 (by decide) | 7, _ => lv_neT e_19 (by decide) | 8, _ => lv_neT e_20 (by decide) | 9, _ => lv_neT e_26 (by decide) | 10, _ => lv_neT e_27 (by decide) | 11, _ => lv_neT e_28 (by decide) | 12, _ => lv_neT e_29 (by decide) | 13, _ => lv_neT e_30 (by decide) | 14, _ => lv_neT e_31 (by decide) | 15, _ => lv_neT e_32 (by decide) | 16, _ => lv_neT e_33 (by decide) | 17, _ => lv_neT e_34 (by decide) | 18, _ => lv_neT e_35 (by decide) | 19, _ => lv_neT e_36 (by decide) | 20, _ => lv_neT e_37 (by decide) | 21, _ => lv_neT e_38 (by decide) | 22, _ => lv_neT e_39 (by decide) | 23, _ => lv_neT e_40 (by decide) | 24, _ => lv_neT e_41 (by decide) | 25, _ => lv_neT e_42 (by decide) | 26, _ => lv_neT e_43 (by decide) | 27, _ => lv_neT e_44 (by decide) | 28, _ => lv_neT e_45 (by decide) | 29, _ => lv_neT e_46 (by decide) | 30, _ => lv_neT e_50 (by decide) | 31, _ => lv_neT e_51 (by decide) | k9 + 32, hk9 => absurd hk9 (by omega))) (by decide) ?_
  exact w_N_follow_302 hMr hKr C0 hr hnx   _ _ _ _ _ _ h hq hm0 hm hH (lv_sub hl [] rfl)
def f_N_forEach_54 (Kr : (Nat → Nat) → mS → Int32 → Int32 → Int32 → Nat → Option (bO Unit)) (K20 : Int32 → Int32 → Int32 → Nat → Nat → Int32 → (Nat → Nat) → mS → Option (bO Unit)) (x1 : Int32) (x2 : Int32) (x3 : Int32) (x4 : Nat) (x5 : Nat) (x6 : Int32) (g : Nat → Nat) (v : mS) : Option (bO Unit) := gd (rowB x4) (gd (rowB x5) (nm (x6 + 1) fun x6_1 => K20 x1 x2 x3 x4 x5 x6_1 g v))
set_option maxHeartbeats 4000000 in
set_option maxRecDepth 100000 in
theorem w_N_forEach_54 {p : Program} {l : Launch} {e : Env} {s : State} {m : MethodId} {args : Array Value} {below : List Frame} {meth : Method} {c : Code} {Z : bZ} {A : Nat → Prop} {q0 g0 : Nat → Nat} {o : bO Unit} {rB : Nat} {Kr : (Nat → Nat) → mS → Int32 → Int32 → Int32 → Nat → Option (bO Unit)} (hMr : ∀ {g : Nat → Nat} {v : mS} {z1 : Int32} {z2 : Int32} {z3 : Int32} {z4 : Nat} {o : bO Unit}, Kr g v z1 z2 z3 z4 = some o → gL g ≤ gL o.2.1) (hKr : ∀ {q g : Nat → Nat} {v : mS} {z1 : Int32} {z2 : Int32} {z3 : Int32} {z4 : Nat} {o : bO Unit}, Kr g v z1 z2 z3 z4 = some o → bx_M l Z rB y_N_work b_N_work 6 none [.ref (q 25), .int z1, .int z2, .int z3, .ref (q z4)] q g v enV o) (C0 : bn_C "FilterBench$Runner" b_N_forEach 7 Z A p l s m args meth c) (hr : meth.sig.returnType = none) (hnx : ∀ x ∈ c.exceptionTable.toList, False) {K20 : Int32 → Int32 → Int32 → Nat → Nat → Int32 → (Nat → Nat) → mS → Option (bO Unit)} (hK20 : ∀ (x1 : Int32) (x2 : Int32) (x3 : Int32) (x4 : Nat) (x5 : Nat) (x6 : Int32) (g : Nat → Nat) (v : mS) (q : Nat → Nat) (H : Heap) (locs : List Loc) (ls : Array Slot), K20 x1 x2 x3 x4 x5 x6 g v = some o → qs q0 q → gL g0 ≤ gL g → gL g ≤ gL o.2.1 → bn_H Z A s (q, g, v) H locs → lv_has ls 7 [(0, .ref (q 25)), (1, .int x1), (2, .int x2), (3, .int x3), (4, .ref (q x4)), (5, .ref (q x5)), (6, .int x6)] → bx_W p l e s m args below meth c Z A q0 g0 enV o (rB + 34) g H locs (F0 m 20 ls [])) : ∀ (x1 : Int32) (x2 : Int32) (x3 : Int32) (x4 : Nat) (x5 : Nat) (x6 : Int32) (g : Nat → Nat) (v : mS) (q : Nat → Nat) (H : Heap) (locs : List Loc) (ls : Array Slot), f_N_forEach_54 Kr K20 x1 x2 x3 x4 x5 x6 g v = some o → qs q0 q → gL g0 ≤ gL g → gL g ≤ gL o.2.1 → bn_H Z A s (q, g, v) H locs → lv_has ls 7 [(0, .ref (q 25)), (1, .int x1), (2, .int x2), (3, .int x3), (4, .ref (q x4)), (5, .ref (q x5)), (6, .int x6)] → bx_W p l e s m args below meth c Z A q0 g0 enV o (rB + 34) g H locs (F0 m 54 ls []) := by
  have hx := C0.1
  have hb := C0.2.1
  have hl0 := C0.2.2.2.2.2.2.2.2.2
  intro x1 x2 x3 x4 x5 x6 g v q H locs ls h hq hm0 hm hH hl
  unfold f_N_forEach_54 at h
  have hcl9 := bx_room (h0 := (rB + 34)) (o := o) hm0 hm
  obtain ⟨hgx4, h⟩ := gd_out h
  obtain ⟨hgx5, h⟩ := gd_out h
  obtain ⟨x6_1, hx6_1, h⟩ := nm_out h
  refine lv_iinc (v := x6_1) (lv' := [(6, .int x6_1), (0, .ref (q 25)), (1, .int x1), (2, .int x2), (3, .int x3), (4, .ref (q x4)), (5, .ref (q x5))]) hx hb d_N_forEach_54 hl (k := 6) rfl (by rw [hx6_1]; rfl) (by decide) rfl (fun ls hl => ?_)
  refine lv_goto (tgt := 20) hx hb d_N_forEach_57 (by decide) ?_
  exact hK20 _ _ _ _ _ _ _ _ _ _ _ _ h hq hm0 hm hH (lv_sub hl [1, 2, 3, 4, 5, 6, 0] rfl)
def f_N_forEach_60 (Kr : (Nat → Nat) → mS → Int32 → Int32 → Int32 → Nat → Option (bO Unit))  (x4 : Nat) (x5 : Nat) (g : Nat → Nat) (v : mS) : Option (bO Unit) := gd (rowB x4) (gd (rowB x5) (bv (f_R_endAs g v x4 x5) fun v_1 => some (.inl (), g, v_1)))
set_option maxHeartbeats 4000000 in
set_option maxRecDepth 100000 in
theorem w_N_forEach_60 {p : Program} {l : Launch} {e : Env} {s : State} {m : MethodId} {args : Array Value} {below : List Frame} {meth : Method} {c : Code} {Z : bZ} {A : Nat → Prop} {q0 g0 : Nat → Nat} {o : bO Unit} {rB : Nat} {Kr : (Nat → Nat) → mS → Int32 → Int32 → Int32 → Nat → Option (bO Unit)} (hMr : ∀ {g : Nat → Nat} {v : mS} {z1 : Int32} {z2 : Int32} {z3 : Int32} {z4 : Nat} {o : bO Unit}, Kr g v z1 z2 z3 z4 = some o → gL g ≤ gL o.2.1) (hKr : ∀ {q g : Nat → Nat} {v : mS} {z1 : Int32} {z2 : Int32} {z3 : Int32} {z4 : Nat} {o : bO Unit}, Kr g v z1 z2 z3 z4 = some o → bx_M l Z rB y_N_work b_N_work 6 none [.ref (q 25), .int z1, .int z2, .int z3, .ref (q z4)] q g v enV o) (C0 : bn_C "FilterBench$Runner" b_N_forEach 7 Z A p l s m args meth c) (hr : meth.sig.returnType = none) (hnx : ∀ x ∈ c.exceptionTable.toList, False) : ∀ (x4 : Nat) (x5 : Nat) (g : Nat → Nat) (v : mS) (q : Nat → Nat) (H : Heap) (locs : List Loc) (ls : Array Slot), f_N_forEach_60 Kr  x4 x5 g v = some o → qs q0 q → gL g0 ≤ gL g → gL g ≤ gL o.2.1 → bn_H Z A s (q, g, v) H locs → lv_has ls 7 [(4, .ref (q x4)), (5, .ref (q x5))] → bx_W p l e s m args below meth c Z A q0 g0 enV o (rB + 34) g H locs (F0 m 60 ls []) := by
  have hx := C0.1
  have hb := C0.2.1
  have hl0 := C0.2.2.2.2.2.2.2.2.2
  intro x4 x5 g v q H locs ls h hq hm0 hm hH hl
  unfold f_N_forEach_60 at h
  have hcl9 := bx_room (h0 := (rB + 34)) (o := o) hm0 hm
  obtain ⟨hgx4, h⟩ := gd_out h
  obtain ⟨hgx5, h⟩ := gd_out h
  refine lv_aload hx hb d_N_forEach_60 (lv_at hl 0 rfl) ?_
  refine lv_aload hx hb d_N_forEach_62 (lv_at hl 1 rfl) ?_
  obtain ⟨v_1, hc_2, h⟩ := bv_out h
  refine bn_cv (w := (q, g, v_1)) (as := [.ref (q x5)]) (rest := []) C0 hH (ci := 2) (rowB_k hgx4) (by decide) rfl (c_R_endAs hl0 hc_2) yy_R_endAs q_604 ⟨by simp only [bn_rm, dK]; omega, by simp only [bn_rm, dK]; omega⟩ rfl hl.1 rfl (Nat.le_of_ble_eq_true rfl) hcl9 d_N_forEach_64 (fun H locs hH => ?_)
  exact bx_vret C0 hr hq hH hm0 d_N_forEach_67 h
def f_N_forEach_20 (Kr : (Nat → Nat) → mS → Int32 → Int32 → Int32 → Nat → Option (bO Unit))  : Nat → Int32 → Int32 → Int32 → Nat → Nat → Int32 → (Nat → Nat) → mS → Option (bO Unit)
  | 0, _, _, _, _, _, _, _, _ => none
  | n + 1, x1, x2, x3, x4, x5, x6, g, v => gd (rowB x4) (gd (rowB x5) (bi (f_R_size g v x5) fun r_3 v_1 => if r_3 ≤ x6 then (f_N_forEach_60 Kr x4 x5 g v_1) else (bi (f_R_isEnded g v_1 x4) fun r_7 v_5 => if r_7 = 0 then (bi (f_R_at g v_5 x5 x6) fun r_11 v_9 => bo (f_N_follow Kr g v_9 x1 x2 r_11 x3 x4) fun r9 g9 v9 => f_N_forEach_54 Kr (f_N_forEach_20 Kr n) x1 x2 x3 x4 x5 x6 g9 v9) else (f_N_forEach_60 Kr x4 x5 g v_5))))
set_option maxHeartbeats 4000000 in
set_option maxRecDepth 100000 in
theorem w_N_forEach_20 {p : Program} {l : Launch} {e : Env} {s : State} {m : MethodId} {args : Array Value} {below : List Frame} {meth : Method} {c : Code} {Z : bZ} {A : Nat → Prop} {q0 g0 : Nat → Nat} {o : bO Unit} {rB : Nat} {Kr : (Nat → Nat) → mS → Int32 → Int32 → Int32 → Nat → Option (bO Unit)} (hMr : ∀ {g : Nat → Nat} {v : mS} {z1 : Int32} {z2 : Int32} {z3 : Int32} {z4 : Nat} {o : bO Unit}, Kr g v z1 z2 z3 z4 = some o → gL g ≤ gL o.2.1) (hKr : ∀ {q g : Nat → Nat} {v : mS} {z1 : Int32} {z2 : Int32} {z3 : Int32} {z4 : Nat} {o : bO Unit}, Kr g v z1 z2 z3 z4 = some o → bx_M l Z rB y_N_work b_N_work 6 none [.ref (q 25), .int z1, .int z2, .int z3, .ref (q z4)] q g v enV o) (C0 : bn_C "FilterBench$Runner" b_N_forEach 7 Z A p l s m args meth c) (hr : meth.sig.returnType = none) (hnx : ∀ x ∈ c.exceptionTable.toList, False) : ∀ (n : Nat) (x1 : Int32) (x2 : Int32) (x3 : Int32) (x4 : Nat) (x5 : Nat) (x6 : Int32) (g : Nat → Nat) (v : mS) (q : Nat → Nat) (H : Heap) (locs : List Loc) (ls : Array Slot), f_N_forEach_20 Kr  n x1 x2 x3 x4 x5 x6 g v = some o → qs q0 q → gL g0 ≤ gL g → gL g ≤ gL o.2.1 → bn_H Z A s (q, g, v) H locs → lv_has ls 7 [(0, .ref (q 25)), (1, .int x1), (2, .int x2), (3, .int x3), (4, .ref (q x4)), (5, .ref (q x5)), (6, .int x6)] → bx_W p l e s m args below meth c Z A q0 g0 enV o (rB + 34) g H locs (F0 m 20 ls []) := by
  have hx := C0.1
  have hb := C0.2.1
  have hl0 := C0.2.2.2.2.2.2.2.2.2
  intro n
  induction n with
  | zero =>
    intro x1 x2 x3 x4 x5 x6 g v q H locs ls h hq hm0 hm hH hl
    cases h
  | succ n ih =>
    intro x1 x2 x3 x4 x5 x6 g v q H locs ls h hq hm0 hm hH hl
    rw [f_N_forEach_20] at h
    have hcl9 := bx_room (h0 := (rB + 34)) (o := o) hm0 hm
    obtain ⟨hgx4, h⟩ := gd_out h
    obtain ⟨hgx5, h⟩ := gd_out h
    refine lv_iload hx hb d_N_forEach_20 (lv_at hl 6 rfl) ?_
    refine lv_aload hx hb d_N_forEach_22 (lv_at hl 5 rfl) ?_
    obtain ⟨r_3, v_1, hc_2, h⟩ := bi_out h
    refine bn_ci (r := r_3) (w := (q, g, v_1)) (as := []) (rest := [.int x6]) C0 hH (ci := 2) (rowB_k hgx5) (by decide) rfl (c_R_size hl0 hc_2) yy_R_size q_613 ⟨by simp only [bn_rm, dK]; omega, by simp only [bn_rm, dK]; omega⟩ rfl hl.1 rfl (Nat.le_of_ble_eq_true rfl) hcl9 d_N_forEach_24 (fun H locs hH => ?_)
    refine lv_icmp_ge (tgt := 60) hx hb d_N_forEach_27 (by decide) (fun c_4 => ?_) (fun c_4 => ?_)
    · rw [if_pos c_4] at h
      exact w_N_forEach_60 hMr hKr C0 hr hnx  _ _ _ _ _ _ _ _ h hq hm0 hm hH (lv_sub hl [4, 5] rfl)
    · rw [if_neg c_4] at h
      refine lv_aload hx hb d_N_forEach_30 (lv_at hl 4 rfl) ?_
      obtain ⟨r_7, v_5, hc_6, h⟩ := bi_out h
      refine bn_ci (r := r_7) (w := (q, g, v_5)) (as := []) (rest := []) C0 hH (ci := 2) (rowB_k hgx4) (by decide) rfl (c_R_isEnded hl0 hc_6) yy_R_isEnded q_575 ⟨by simp only [bn_rm, dK]; omega, by simp only [bn_rm, dK]; omega⟩ rfl hl.1 rfl (Nat.le_of_ble_eq_true rfl) hcl9 d_N_forEach_32 (fun H locs hH => ?_)
      refine lv_if_ne (tgt := 60) hx hb d_N_forEach_35 (by decide) (fun c_8 => ?_) (fun c_8 => ?_)
      · rw [if_neg c_8] at h
        exact w_N_forEach_60 hMr hKr C0 hr hnx  _ _ _ _ _ _ _ _ h hq hm0 hm hH (lv_sub hl [4, 5] rfl)
      · rw [if_pos c_8] at h
        refine lv_aload_n hx hb d_N_forEach_38 rfl (lv_at hl 0 rfl) ?_
        refine lv_iload_n hx hb d_N_forEach_39 rfl (lv_at hl 1 rfl) ?_
        refine lv_iload_n hx hb d_N_forEach_40 rfl (lv_at hl 2 rfl) ?_
        refine lv_aload hx hb d_N_forEach_41 (lv_at hl 5 rfl) ?_
        refine lv_iload hx hb d_N_forEach_43 (lv_at hl 6 rfl) ?_
        obtain ⟨r_11, v_9, hc_10, h⟩ := bi_out h
        refine bn_ci (r := r_11) (w := (q, g, v_9)) (as := [.int x6]) (rest := [.int x2, .int x1, .ref (q 25)]) C0 hH (ci := 2) (rowB_k hgx5) (by decide) rfl (c_R_at hl0 hc_10) yy_R_at q_637 ⟨by simp only [bn_rm, dK]; omega, by simp only [bn_rm, dK]; omega⟩ rfl hl.1 rfl (Nat.le_of_ble_eq_true rfl) hcl9 d_N_forEach_45 (fun H locs hH => ?_)
        refine lv_iload_n hx hb d_N_forEach_48 rfl (lv_at hl 3 rfl) ?_
        refine lv_aload hx hb d_N_forEach_49 (lv_at hl 4 rfl) ?_
        obtain ⟨o1, hc, hm2, ht9, hx1, hk9⟩ := bo_out h
        have hm1 := mn_N_follow hc
        refine bx_cV (as := [.int x1, .int x2, .int r_11, .int x3, .ref (q x4)]) (rest := []) C0 hnx hq hH hm0 hm1 hm2 ht9 (ci := 3) ⟨by decide, by decide⟩ (by decide) rfl (c_N_follow hMr hKr hl0 hc) yy_N_follow q_776 ⟨by first | omega | (simp only [dK]; omega), by first | omega | (simp only [dK]; omega)⟩ rfl hl.1 rfl (Nat.le_of_ble_eq_true rfl) d_N_forEach_51 hx1 (fun r9 q1 H locs hr1 hq0 hq1 hm9 hH => ?_)
        have h := hk9 r9 hr1
        have e9 : q1 25 = q 25 := (hq1 25 (by decide) (by decide))
        try rw [← e9] at hl
        try rw [← e9]
        have e9 : q1 x4 = q x4 := (hq1 x4 (rowB_ne hgx4).1 (rowB_ne hgx4).2)
        try rw [← e9] at hl
        try rw [← e9]
        have e9 : q1 x5 = q x5 := (hq1 x5 (rowB_ne hgx5).1 (rowB_ne hgx5).2)
        try rw [← e9] at hl
        try rw [← e9]
        exact w_N_forEach_54 hMr hKr C0 hr hnx ih _ _ _ _ _ _ _ _ _ _ _ _ h hq0 hm9 hm2 hH (lv_sub hl [0, 1, 2, 3, 4, 5, 6] rfl)
def f_N_forEach_15 (Kr : (Nat → Nat) → mS → Int32 → Int32 → Int32 → Nat → Option (bO Unit))  (x1 : Int32) (x2 : Int32) (x3 : Int32) (x4 : Nat) (y0 : Nat) (g : Nat → Nat) (v : mS) : Option (bO Unit) := gd (rowB x4) (gd (rowB y0) (f_N_forEach_20 Kr fu x1 x2 x3 x4 y0 0 g v))
set_option maxHeartbeats 4000000 in
set_option maxRecDepth 100000 in
theorem w_N_forEach_15 {p : Program} {l : Launch} {e : Env} {s : State} {m : MethodId} {args : Array Value} {below : List Frame} {meth : Method} {c : Code} {Z : bZ} {A : Nat → Prop} {q0 g0 : Nat → Nat} {o : bO Unit} {rB : Nat} {Kr : (Nat → Nat) → mS → Int32 → Int32 → Int32 → Nat → Option (bO Unit)} (hMr : ∀ {g : Nat → Nat} {v : mS} {z1 : Int32} {z2 : Int32} {z3 : Int32} {z4 : Nat} {o : bO Unit}, Kr g v z1 z2 z3 z4 = some o → gL g ≤ gL o.2.1) (hKr : ∀ {q g : Nat → Nat} {v : mS} {z1 : Int32} {z2 : Int32} {z3 : Int32} {z4 : Nat} {o : bO Unit}, Kr g v z1 z2 z3 z4 = some o → bx_M l Z rB y_N_work b_N_work 6 none [.ref (q 25), .int z1, .int z2, .int z3, .ref (q z4)] q g v enV o) (C0 : bn_C "FilterBench$Runner" b_N_forEach 7 Z A p l s m args meth c) (hr : meth.sig.returnType = none) (hnx : ∀ x ∈ c.exceptionTable.toList, False) : ∀ (x1 : Int32) (x2 : Int32) (x3 : Int32) (x4 : Nat) (y0 : Nat) (g : Nat → Nat) (v : mS) (q : Nat → Nat) (H : Heap) (locs : List Loc) (ls : Array Slot), f_N_forEach_15 Kr  x1 x2 x3 x4 y0 g v = some o → qs q0 q → gL g0 ≤ gL g → gL g ≤ gL o.2.1 → bn_H Z A s (q, g, v) H locs → lv_has ls 7 [(0, .ref (q 25)), (1, .int x1), (2, .int x2), (3, .int x3), (4, .ref (q x4))] → bx_W p l e s m args below meth c Z A q0 g0 enV o (rB + 34) g H locs (F0 m 15 ls [.ref (q y0)]) := by
  have hx := C0.1
  have hb := C0.2.1
  have hl0 := C0.2.2.2.2.2.2.2.2.2
  intro x1 x2 x3 x4 y0 g v q H locs ls h hq hm0 hm hH hl
  unfold f_N_forEach_15 at h
  have hcl9 := bx_room (h0 := (rB + 34)) (o := o) hm0 hm
  obtain ⟨hgx4, h⟩ := gd_out h
  obtain ⟨hgy0, h⟩ := gd_out h
  refine lv_astore (lv' := [(5, .ref (q y0)), (0, .ref (q 25)), (1, .int x1), (2, .int x2), (3, .int x3), (4, .ref (q x4))]) hx hb d_N_forEach_15 hl (by decide) rfl (fun ls hl => ?_)
  refine lv_iconst (v := 0) hx hb d_N_forEach_17 (by decide) ?_
  refine lv_istore (lv' := [(6, .int 0), (5, .ref (q y0)), (0, .ref (q 25)), (1, .int x1), (2, .int x2), (3, .int x3), (4, .ref (q x4))]) hx hb d_N_forEach_18 hl (by decide) rfl (fun ls hl => ?_)
  exact w_N_forEach_20 hMr hKr C0 hr hnx  fu _ _ _ _ _ _ _ _ _ _ _ _ h hq hm0 hm hH (lv_sub hl [2, 3, 4, 5, 6, 1, 0] rfl)
def f_N_forEach (Kr : (Nat → Nat) → mS → Int32 → Int32 → Int32 → Nat → Option (bO Unit)) (g : Nat → Nat) (v : mS) (x1 : Int32) (x2 : Int32) (x3 : Int32) (x4 : Nat) : Option (bO Unit) := mg g (gd (rowB x4) (gd (filB (9 + 4 * g 25)) (bi (f_F_firstPart g v ((9 + 4 * g 25)) x1) fun r_4 v_2 => bo (f_N_rowOf Kr g v_2 r_4 x2 x3 0) fun r9 g9 v9 => f_N_forEach_15 Kr x1 x2 x3 x4 r9 g9 v9)))
theorem mn_N_forEach {Kr : (Nat → Nat) → mS → Int32 → Int32 → Int32 → Nat → Option (bO Unit)} {g : Nat → Nat} {v : mS}  {x1 : Int32} {x2 : Int32} {x3 : Int32} {x4 : Nat} {o : bO Unit} (h : f_N_forEach Kr g v x1 x2 x3 x4 = some o) : gL g ≤ gL o.2.1 := (mg_out h).1
set_option maxHeartbeats 4000000 in
set_option maxRecDepth 100000 in
theorem c_N_forEach {l : Launch} {Z : bZ} {rB : Nat} {Kr : (Nat → Nat) → mS → Int32 → Int32 → Int32 → Nat → Option (bO Unit)} (hMr : ∀ {g : Nat → Nat} {v : mS} {z1 : Int32} {z2 : Int32} {z3 : Int32} {z4 : Nat} {o : bO Unit}, Kr g v z1 z2 z3 z4 = some o → gL g ≤ gL o.2.1) (hKr : ∀ {q g : Nat → Nat} {v : mS} {z1 : Int32} {z2 : Int32} {z3 : Int32} {z4 : Nat} {o : bO Unit}, Kr g v z1 z2 z3 z4 = some o → bx_M l Z rB y_N_work b_N_work 6 none [.ref (q 25), .int z1, .int z2, .int z3, .ref (q z4)] q g v enV o) (hl0 : l.stackTraces = false) {q g : Nat → Nat} {v : mS}  {x1 : Int32} {x2 : Int32} {x3 : Int32} {x4 : Nat} {o : bO Unit} (h : f_N_forEach Kr g v x1 x2 x3 x4 = some o) : bx_M l Z (rB + 34) y_N_forEach b_N_forEach 7 none [.ref (q 25), .int x1, .int x2, .int x3, .ref (q x4)] q g v enV o := by
  refine bx_of hl0 (by decide +kernel) (Nat.le_of_ble_eq_true rfl) ?_
  intro p e s m args below meth c A ls C0 hr hnx hl hH
  have hx := C0.1
  have hb := C0.2.1
  have C0 : bn_C "FilterBench$Runner" b_N_forEach 7 Z A p l s m args meth c := C0
  have hl : lv_has ls 7 [(0, .ref (q 25)), (1, .int x1), (2, .int x2), (3, .int x3), (4, .ref (q x4))] := hl
  obtain ⟨hm, h⟩ := mg_out h
  have hm0 : gL g ≤ gL g := Nat.le_refl _
  have hq : qs q q := qs.rf
  have hcl9 := bx_room (h0 := (rB + 34)) (o := o) hm0 hm
  obtain ⟨hgx4, h⟩ := gd_out h
  refine lv_aload_n hx hb d_N_forEach_0 rfl (lv_at hl 0 rfl) ?_
  refine lv_aload_n hx hb d_N_forEach_1 rfl (lv_at hl 0 rfl) ?_
  obtain ⟨g_1, h⟩ := gd_out h
  refine bn_g_N_filter ⟨by decide, by decide⟩ C0 hH d_N_forEach_2 ?_
  refine lv_iload_n hx hb d_N_forEach_5 rfl (lv_at hl 1 rfl) ?_
  obtain ⟨r_4, v_2, hc_3, h⟩ := bi_out h
  refine bn_ci (r := r_4) (w := (q, g, v_2)) (as := [.int x1]) (rest := [.ref (q 25)]) C0 hH (ci := 1) (filB_k g_1) (by decide) rfl (c_F_firstPart hl0 hc_3) yy_F_firstPart q_570 ⟨by simp only [bn_rm, dK]; omega, by simp only [bn_rm, dK]; omega⟩ rfl hl.1 rfl (Nat.le_of_ble_eq_true rfl) hcl9 d_N_forEach_6 (fun H locs hH => ?_)
  refine lv_iload_n hx hb d_N_forEach_9 rfl (lv_at hl 2 rfl) ?_
  refine lv_iload_n hx hb d_N_forEach_10 rfl (lv_at hl 3 rfl) ?_
  refine lv_iconst (v := 0) hx hb d_N_forEach_11 (by decide) ?_
  obtain ⟨o1, hc, hm2, ht9, hx1, hk9⟩ := bo_out h
  have hm1 := mn_N_rowOf hc
  refine bx_cV (as := [.int r_4, .int x2, .int x3, .int 0]) (rest := []) C0 hnx hq hH hm0 hm1 hm2 ht9 (ci := 3) ⟨by decide, by decide⟩ (by decide) rfl (c_N_rowOf hMr hKr hl0 hc) yy_N_rowOf q_599 ⟨by first | omega | (simp only [dK]; omega), by first | omega | (simp only [dK]; omega)⟩ rfl hl.1 rfl (Nat.le_of_ble_eq_true rfl) d_N_forEach_12 hx1 (fun r9 q1 H locs hr1 hq0 hq1 hm9 hH => ?_)
  have h := hk9 r9 hr1
  have e9 : q1 25 = q 25 := (hq1 25 (by decide) (by decide))
  try rw [← e9] at hl
  try rw [← e9]
  have e9 : q1 x4 = q x4 := (hq1 x4 (rowB_ne hgx4).1 (rowB_ne hgx4).2)
  try rw [← e9] at hl
  try rw [← e9]
  exact w_N_forEach_15 hMr hKr C0 hr hnx  _ _ _ _ _ _ _ _ _ _ _ h hq0 hm9 hm2 hH (lv_sub hl [0, 1, 2, 3, 4] rfl)
def f_N_forEachPair_101 (Kr : (Nat → Nat) → mS → Int32 → Int32 → Int32 → Nat → Option (bO Unit)) (K20 : Int32 → Int32 → Int32 → Nat → Nat → Int32 → (Nat → Nat) → mS → Option (bO Unit)) (K58 : Int32 → Int32 → Int32 → Nat → Nat → Int32 → Nat → Int32 → (Nat → Nat) → mS → Option (bO Unit)) (x1 : Int32) (x2 : Int32) (x3 : Int32) (x4 : Nat) (x5 : Nat) (x6 : Int32) (x7 : Nat) (x8 : Int32) (g : Nat → Nat) (v : mS) : Option (bO Unit) := gd (rowB x4) (gd (rowB x5) (gd (rowB x7) (nm (x8 + 1) fun x8_1 => K58 x1 x2 x3 x4 x5 x6 x7 x8_1 g v)))
set_option maxHeartbeats 4000000 in
set_option maxRecDepth 100000 in
theorem w_N_forEachPair_101 {p : Program} {l : Launch} {e : Env} {s : State} {m : MethodId} {args : Array Value} {below : List Frame} {meth : Method} {c : Code} {Z : bZ} {A : Nat → Prop} {q0 g0 : Nat → Nat} {o : bO Unit} {rB : Nat} {Kr : (Nat → Nat) → mS → Int32 → Int32 → Int32 → Nat → Option (bO Unit)} (hMr : ∀ {g : Nat → Nat} {v : mS} {z1 : Int32} {z2 : Int32} {z3 : Int32} {z4 : Nat} {o : bO Unit}, Kr g v z1 z2 z3 z4 = some o → gL g ≤ gL o.2.1) (hKr : ∀ {q g : Nat → Nat} {v : mS} {z1 : Int32} {z2 : Int32} {z3 : Int32} {z4 : Nat} {o : bO Unit}, Kr g v z1 z2 z3 z4 = some o → bx_M l Z rB y_N_work b_N_work 6 none [.ref (q 25), .int z1, .int z2, .int z3, .ref (q z4)] q g v enV o) (C0 : bn_C "FilterBench$Runner" b_N_forEachPair 9 Z A p l s m args meth c) (hr : meth.sig.returnType = none) (hnx : ∀ x ∈ c.exceptionTable.toList, False) {K20 : Int32 → Int32 → Int32 → Nat → Nat → Int32 → (Nat → Nat) → mS → Option (bO Unit)} (hK20 : ∀ (x1 : Int32) (x2 : Int32) (x3 : Int32) (x4 : Nat) (x5 : Nat) (x6 : Int32) (g : Nat → Nat) (v : mS) (q : Nat → Nat) (H : Heap) (locs : List Loc) (ls : Array Slot), K20 x1 x2 x3 x4 x5 x6 g v = some o → qs q0 q → gL g0 ≤ gL g → gL g ≤ gL o.2.1 → bn_H Z A s (q, g, v) H locs → lv_has ls 9 [(0, .ref (q 25)), (1, .int x1), (2, .int x2), (3, .int x3), (4, .ref (q x4)), (5, .ref (q x5)), (6, .int x6)] → bx_W p l e s m args below meth c Z A q0 g0 enV o (rB + 34) g H locs (F0 m 20 ls [])) {K58 : Int32 → Int32 → Int32 → Nat → Nat → Int32 → Nat → Int32 → (Nat → Nat) → mS → Option (bO Unit)} (hK58 : ∀ (x1 : Int32) (x2 : Int32) (x3 : Int32) (x4 : Nat) (x5 : Nat) (x6 : Int32) (x7 : Nat) (x8 : Int32) (g : Nat → Nat) (v : mS) (q : Nat → Nat) (H : Heap) (locs : List Loc) (ls : Array Slot), K58 x1 x2 x3 x4 x5 x6 x7 x8 g v = some o → qs q0 q → gL g0 ≤ gL g → gL g ≤ gL o.2.1 → bn_H Z A s (q, g, v) H locs → lv_has ls 9 [(0, .ref (q 25)), (1, .int x1), (2, .int x2), (3, .int x3), (4, .ref (q x4)), (5, .ref (q x5)), (6, .int x6), (7, .ref (q x7)), (8, .int x8)] → bx_W p l e s m args below meth c Z A q0 g0 enV o (rB + 34) g H locs (F0 m 58 ls [])) : ∀ (x1 : Int32) (x2 : Int32) (x3 : Int32) (x4 : Nat) (x5 : Nat) (x6 : Int32) (x7 : Nat) (x8 : Int32) (g : Nat → Nat) (v : mS) (q : Nat → Nat) (H : Heap) (locs : List Loc) (ls : Array Slot), f_N_forEachPair_101 Kr K20 K58 x1 x2 x3 x4 x5 x6 x7 x8 g v = some o → qs q0 q → gL g0 ≤ gL g → gL g ≤ gL o.2.1 → bn_H Z A s (q, g, v) H locs → lv_has ls 9 [(0, .ref (q 25)), (1, .int x1), (2, .int x2), (3, .int x3), (4, .ref (q x4)), (5, .ref (q x5)), (6, .int x6), (7, .ref (q x7)), (8, .int x8)] → bx_W p l e s m args below meth c Z A q0 g0 enV o (rB + 34) g H locs (F0 m 101 ls []) := by
  have hx := C0.1
  have hb := C0.2.1
  have hl0 := C0.2.2.2.2.2.2.2.2.2
  intro x1 x2 x3 x4 x5 x6 x7 x8 g v q H locs ls h hq hm0 hm hH hl
  unfold f_N_forEachPair_101 at h
  have hcl9 := bx_room (h0 := (rB + 34)) (o := o) hm0 hm
  obtain ⟨hgx4, h⟩ := gd_out h
  obtain ⟨hgx5, h⟩ := gd_out h
  obtain ⟨hgx7, h⟩ := gd_out h
  obtain ⟨x8_1, hx8_1, h⟩ := nm_out h
  refine lv_iinc (v := x8_1) (lv' := [(8, .int x8_1), (0, .ref (q 25)), (1, .int x1), (2, .int x2), (3, .int x3), (4, .ref (q x4)), (5, .ref (q x5)), (6, .int x6), (7, .ref (q x7))]) hx hb d_N_forEachPair_101 hl (k := 8) rfl (by rw [hx8_1]; rfl) (by decide) rfl (fun ls hl => ?_)
  refine lv_goto (tgt := 58) hx hb d_N_forEachPair_104 (by decide) ?_
  exact hK58 _ _ _ _ _ _ _ _ _ _ _ _ _ _ h hq hm0 hm hH (lv_sub hl [1, 2, 3, 4, 5, 6, 7, 8, 0] rfl)
def f_N_forEachPair_96 (Kr : (Nat → Nat) → mS → Int32 → Int32 → Int32 → Nat → Option (bO Unit)) (K20 : Int32 → Int32 → Int32 → Nat → Nat → Int32 → (Nat → Nat) → mS → Option (bO Unit)) (K58 : Int32 → Int32 → Int32 → Nat → Nat → Int32 → Nat → Int32 → (Nat → Nat) → mS → Option (bO Unit)) (x1 : Int32) (x2 : Int32) (x3 : Int32) (x4 : Nat) (x5 : Nat) (x6 : Int32) (x7 : Nat) (x8 : Int32) (y1 : Int32) (g : Nat → Nat) (v : mS) : Option (bO Unit) := gd (rowB x4) (gd (rowB x5) (gd (rowB x7) (bo (f_N_give g v y1 x4) fun r9 g9 v9 => f_N_forEachPair_101 Kr K20 K58 x1 x2 x3 x4 x5 x6 x7 x8 g9 v9)))
set_option maxHeartbeats 4000000 in
set_option maxRecDepth 100000 in
theorem w_N_forEachPair_96 {p : Program} {l : Launch} {e : Env} {s : State} {m : MethodId} {args : Array Value} {below : List Frame} {meth : Method} {c : Code} {Z : bZ} {A : Nat → Prop} {q0 g0 : Nat → Nat} {o : bO Unit} {rB : Nat} {Kr : (Nat → Nat) → mS → Int32 → Int32 → Int32 → Nat → Option (bO Unit)} (hMr : ∀ {g : Nat → Nat} {v : mS} {z1 : Int32} {z2 : Int32} {z3 : Int32} {z4 : Nat} {o : bO Unit}, Kr g v z1 z2 z3 z4 = some o → gL g ≤ gL o.2.1) (hKr : ∀ {q g : Nat → Nat} {v : mS} {z1 : Int32} {z2 : Int32} {z3 : Int32} {z4 : Nat} {o : bO Unit}, Kr g v z1 z2 z3 z4 = some o → bx_M l Z rB y_N_work b_N_work 6 none [.ref (q 25), .int z1, .int z2, .int z3, .ref (q z4)] q g v enV o) (C0 : bn_C "FilterBench$Runner" b_N_forEachPair 9 Z A p l s m args meth c) (hr : meth.sig.returnType = none) (hnx : ∀ x ∈ c.exceptionTable.toList, False) {K20 : Int32 → Int32 → Int32 → Nat → Nat → Int32 → (Nat → Nat) → mS → Option (bO Unit)} (hK20 : ∀ (x1 : Int32) (x2 : Int32) (x3 : Int32) (x4 : Nat) (x5 : Nat) (x6 : Int32) (g : Nat → Nat) (v : mS) (q : Nat → Nat) (H : Heap) (locs : List Loc) (ls : Array Slot), K20 x1 x2 x3 x4 x5 x6 g v = some o → qs q0 q → gL g0 ≤ gL g → gL g ≤ gL o.2.1 → bn_H Z A s (q, g, v) H locs → lv_has ls 9 [(0, .ref (q 25)), (1, .int x1), (2, .int x2), (3, .int x3), (4, .ref (q x4)), (5, .ref (q x5)), (6, .int x6)] → bx_W p l e s m args below meth c Z A q0 g0 enV o (rB + 34) g H locs (F0 m 20 ls [])) {K58 : Int32 → Int32 → Int32 → Nat → Nat → Int32 → Nat → Int32 → (Nat → Nat) → mS → Option (bO Unit)} (hK58 : ∀ (x1 : Int32) (x2 : Int32) (x3 : Int32) (x4 : Nat) (x5 : Nat) (x6 : Int32) (x7 : Nat) (x8 : Int32) (g : Nat → Nat) (v : mS) (q : Nat → Nat) (H : Heap) (locs : List Loc) (ls : Array Slot), K58 x1 x2 x3 x4 x5 x6 x7 x8 g v = some o → qs q0 q → gL g0 ≤ gL g → gL g ≤ gL o.2.1 → bn_H Z A s (q, g, v) H locs → lv_has ls 9 [(0, .ref (q 25)), (1, .int x1), (2, .int x2), (3, .int x3), (4, .ref (q x4)), (5, .ref (q x5)), (6, .int x6), (7, .ref (q x7)), (8, .int x8)] → bx_W p l e s m args below meth c Z A q0 g0 enV o (rB + 34) g H locs (F0 m 58 ls [])) : ∀ (x1 : Int32) (x2 : Int32) (x3 : Int32) (x4 : Nat) (x5 : Nat) (x6 : Int32) (x7 : Nat) (x8 : Int32) (y1 : Int32) (g : Nat → Nat) (v : mS) (q : Nat → Nat) (H : Heap) (locs : List Loc) (ls : Array Slot), f_N_forEachPair_96 Kr K20 K58 x1 x2 x3 x4 x5 x6 x7 x8 y1 g v = some o → qs q0 q → gL g0 ≤ gL g → gL g ≤ gL o.2.1 → bn_H Z A s (q, g, v) H locs → lv_has ls 9 [(0, .ref (q 25)), (1, .int x1), (2, .int x2), (3, .int x3), (4, .ref (q x4)), (5, .ref (q x5)), (6, .int x6), (7, .ref (q x7)), (8, .int x8)] → bx_W p l e s m args below meth c Z A q0 g0 enV o (rB + 34) g H locs (F0 m 96 ls [.int y1, .ref (q 25)]) := by
  have hx := C0.1
  have hb := C0.2.1
  have hl0 := C0.2.2.2.2.2.2.2.2.2
  intro x1 x2 x3 x4 x5 x6 x7 x8 y1 g v q H locs ls h hq hm0 hm hH hl
  unfold f_N_forEachPair_96 at h
  have hcl9 := bx_room (h0 := (rB + 34)) (o := o) hm0 hm
  obtain ⟨hgx4, h⟩ := gd_out h
  obtain ⟨hgx5, h⟩ := gd_out h
  obtain ⟨hgx7, h⟩ := gd_out h
  refine lv_aload hx hb d_N_forEachPair_96 (lv_at hl 4 rfl) ?_
  obtain ⟨o1, hc, hm2, ht9, hx1, hk9⟩ := bo_out h
  have hm1 := mn_N_give hc
  refine bx_cV (as := [.int y1, .ref (q x4)]) (rest := []) C0 hnx hq hH hm0 hm1 hm2 ht9 (ci := 3) ⟨by decide, by decide⟩ (by decide) rfl (c_N_give hl0 hc) yy_N_give q_547 ⟨by first | omega | (simp only [dK]; omega), by first | omega | (simp only [dK]; omega)⟩ rfl hl.1 rfl (Nat.le_of_ble_eq_true rfl) d_N_forEachPair_98 hx1 (fun r9 q1 H locs hr1 hq0 hq1 hm9 hH => ?_)
  have h := hk9 r9 hr1
  have e9 : q1 25 = q 25 := (hq1 25 (by decide) (by decide))
  try rw [← e9] at hl
  try rw [← e9]
  have e9 : q1 x4 = q x4 := (hq1 x4 (rowB_ne hgx4).1 (rowB_ne hgx4).2)
  try rw [← e9] at hl
  try rw [← e9]
  have e9 : q1 x5 = q x5 := (hq1 x5 (rowB_ne hgx5).1 (rowB_ne hgx5).2)
  try rw [← e9] at hl
  try rw [← e9]
  have e9 : q1 x7 = q x7 := (hq1 x7 (rowB_ne hgx7).1 (rowB_ne hgx7).2)
  try rw [← e9] at hl
  try rw [← e9]
  exact w_N_forEachPair_101 hMr hKr C0 hr hnx hK20 hK58 _ _ _ _ _ _ _ _ _ _ _ _ _ _ h hq0 hm9 hm2 hH (lv_sub hl [0, 1, 2, 3, 4, 5, 6, 7, 8] rfl)
def f_N_forEachPair_107 (Kr : (Nat → Nat) → mS → Int32 → Int32 → Int32 → Nat → Option (bO Unit)) (K20 : Int32 → Int32 → Int32 → Nat → Nat → Int32 → (Nat → Nat) → mS → Option (bO Unit)) (x1 : Int32) (x2 : Int32) (x3 : Int32) (x4 : Nat) (x5 : Nat) (x6 : Int32) (x7 : Nat) (g : Nat → Nat) (v : mS) : Option (bO Unit) := gd (rowB x4) (gd (rowB x5) (gd (rowB x7) (bv (f_R_endAs g v x4 x7) fun v_1 => nm (x6 + 1) fun x6_3 => K20 x1 x2 x3 x4 x5 x6_3 g v_1)))
set_option maxHeartbeats 4000000 in
set_option maxRecDepth 100000 in
theorem w_N_forEachPair_107 {p : Program} {l : Launch} {e : Env} {s : State} {m : MethodId} {args : Array Value} {below : List Frame} {meth : Method} {c : Code} {Z : bZ} {A : Nat → Prop} {q0 g0 : Nat → Nat} {o : bO Unit} {rB : Nat} {Kr : (Nat → Nat) → mS → Int32 → Int32 → Int32 → Nat → Option (bO Unit)} (hMr : ∀ {g : Nat → Nat} {v : mS} {z1 : Int32} {z2 : Int32} {z3 : Int32} {z4 : Nat} {o : bO Unit}, Kr g v z1 z2 z3 z4 = some o → gL g ≤ gL o.2.1) (hKr : ∀ {q g : Nat → Nat} {v : mS} {z1 : Int32} {z2 : Int32} {z3 : Int32} {z4 : Nat} {o : bO Unit}, Kr g v z1 z2 z3 z4 = some o → bx_M l Z rB y_N_work b_N_work 6 none [.ref (q 25), .int z1, .int z2, .int z3, .ref (q z4)] q g v enV o) (C0 : bn_C "FilterBench$Runner" b_N_forEachPair 9 Z A p l s m args meth c) (hr : meth.sig.returnType = none) (hnx : ∀ x ∈ c.exceptionTable.toList, False) {K20 : Int32 → Int32 → Int32 → Nat → Nat → Int32 → (Nat → Nat) → mS → Option (bO Unit)} (hK20 : ∀ (x1 : Int32) (x2 : Int32) (x3 : Int32) (x4 : Nat) (x5 : Nat) (x6 : Int32) (g : Nat → Nat) (v : mS) (q : Nat → Nat) (H : Heap) (locs : List Loc) (ls : Array Slot), K20 x1 x2 x3 x4 x5 x6 g v = some o → qs q0 q → gL g0 ≤ gL g → gL g ≤ gL o.2.1 → bn_H Z A s (q, g, v) H locs → lv_has ls 9 [(0, .ref (q 25)), (1, .int x1), (2, .int x2), (3, .int x3), (4, .ref (q x4)), (5, .ref (q x5)), (6, .int x6)] → bx_W p l e s m args below meth c Z A q0 g0 enV o (rB + 34) g H locs (F0 m 20 ls [])) : ∀ (x1 : Int32) (x2 : Int32) (x3 : Int32) (x4 : Nat) (x5 : Nat) (x6 : Int32) (x7 : Nat) (g : Nat → Nat) (v : mS) (q : Nat → Nat) (H : Heap) (locs : List Loc) (ls : Array Slot), f_N_forEachPair_107 Kr K20 x1 x2 x3 x4 x5 x6 x7 g v = some o → qs q0 q → gL g0 ≤ gL g → gL g ≤ gL o.2.1 → bn_H Z A s (q, g, v) H locs → lv_has ls 9 [(0, .ref (q 25)), (1, .int x1), (2, .int x2), (3, .int x3), (4, .ref (q x4)), (5, .ref (q x5)), (6, .int x6), (7, .ref (q x7))] → bx_W p l e s m args below meth c Z A q0 g0 enV o (rB + 34) g H locs (F0 m 107 ls []) := by
  have hx := C0.1
  have hb := C0.2.1
  have hl0 := C0.2.2.2.2.2.2.2.2.2
  intro x1 x2 x3 x4 x5 x6 x7 g v q H locs ls h hq hm0 hm hH hl
  unfold f_N_forEachPair_107 at h
  have hcl9 := bx_room (h0 := (rB + 34)) (o := o) hm0 hm
  obtain ⟨hgx4, h⟩ := gd_out h
  obtain ⟨hgx5, h⟩ := gd_out h
  obtain ⟨hgx7, h⟩ := gd_out h
  refine lv_aload hx hb d_N_forEachPair_107 (lv_at hl 4 rfl) ?_
  refine lv_aload hx hb d_N_forEachPair_109 (lv_at hl 7 rfl) ?_
  obtain ⟨v_1, hc_2, h⟩ := bv_out h
  refine bn_cv (w := (q, g, v_1)) (as := [.ref (q x7)]) (rest := []) C0 hH (ci := 2) (rowB_k hgx4) (by decide) rfl (c_R_endAs hl0 hc_2) yy_R_endAs q_604 ⟨by simp only [bn_rm, dK]; omega, by simp only [bn_rm, dK]; omega⟩ rfl hl.1 rfl (Nat.le_of_ble_eq_true rfl) hcl9 d_N_forEachPair_111 (fun H locs hH => ?_)
  obtain ⟨x6_3, hx6_3, h⟩ := nm_out h
  refine lv_iinc (v := x6_3) (lv' := [(6, .int x6_3), (0, .ref (q 25)), (1, .int x1), (2, .int x2), (3, .int x3), (4, .ref (q x4)), (5, .ref (q x5)), (7, .ref (q x7))]) hx hb d_N_forEachPair_114 hl (k := 6) rfl (by rw [hx6_3]; rfl) (by decide) rfl (fun ls hl => ?_)
  refine lv_goto (tgt := 20) hx hb d_N_forEachPair_117 (by decide) ?_
  exact hK20 _ _ _ _ _ _ _ _ _ _ _ _ h hq hm0 hm hH (lv_sub hl [1, 2, 3, 4, 5, 6, 0] rfl)
def f_N_forEachPair_58 (Kr : (Nat → Nat) → mS → Int32 → Int32 → Int32 → Nat → Option (bO Unit)) (K20 : Int32 → Int32 → Int32 → Nat → Nat → Int32 → (Nat → Nat) → mS → Option (bO Unit)) : Nat → Int32 → Int32 → Int32 → Nat → Nat → Int32 → Nat → Int32 → (Nat → Nat) → mS → Option (bO Unit)
  | 0, _, _, _, _, _, _, _, _, _, _ => none
  | n + 1, x1, x2, x3, x4, x5, x6, x7, x8, g, v => gd (rowB x4) (gd (rowB x5) (gd (rowB x7) (bi (f_R_size g v x7) fun r_3 v_1 => if r_3 ≤ x8 then (f_N_forEachPair_107 Kr K20 x1 x2 x3 x4 x5 x6 x7 g v_1) else (bi (f_R_isEnded g v_1 x4) fun r_7 v_5 => if r_7 = 0 then (bi (f_R_at g v_5 x7 x8) fun r_11 v_9 => bi (f_R_at g v_9 x5 x6) fun r_14 v_12 => bo (f_N_paired g v_12 x1 r_11 r_14) fun r9 g9 v9 => f_N_forEachPair_96 Kr K20 (f_N_forEachPair_58 Kr K20 n) x1 x2 x3 x4 x5 x6 x7 x8 r9 g9 v9) else (f_N_forEachPair_107 Kr K20 x1 x2 x3 x4 x5 x6 x7 g v_5)))))
set_option maxHeartbeats 4000000 in
set_option maxRecDepth 100000 in
theorem w_N_forEachPair_58 {p : Program} {l : Launch} {e : Env} {s : State} {m : MethodId} {args : Array Value} {below : List Frame} {meth : Method} {c : Code} {Z : bZ} {A : Nat → Prop} {q0 g0 : Nat → Nat} {o : bO Unit} {rB : Nat} {Kr : (Nat → Nat) → mS → Int32 → Int32 → Int32 → Nat → Option (bO Unit)} (hMr : ∀ {g : Nat → Nat} {v : mS} {z1 : Int32} {z2 : Int32} {z3 : Int32} {z4 : Nat} {o : bO Unit}, Kr g v z1 z2 z3 z4 = some o → gL g ≤ gL o.2.1) (hKr : ∀ {q g : Nat → Nat} {v : mS} {z1 : Int32} {z2 : Int32} {z3 : Int32} {z4 : Nat} {o : bO Unit}, Kr g v z1 z2 z3 z4 = some o → bx_M l Z rB y_N_work b_N_work 6 none [.ref (q 25), .int z1, .int z2, .int z3, .ref (q z4)] q g v enV o) (C0 : bn_C "FilterBench$Runner" b_N_forEachPair 9 Z A p l s m args meth c) (hr : meth.sig.returnType = none) (hnx : ∀ x ∈ c.exceptionTable.toList, False) {K20 : Int32 → Int32 → Int32 → Nat → Nat → Int32 → (Nat → Nat) → mS → Option (bO Unit)} (hK20 : ∀ (x1 : Int32) (x2 : Int32) (x3 : Int32) (x4 : Nat) (x5 : Nat) (x6 : Int32) (g : Nat → Nat) (v : mS) (q : Nat → Nat) (H : Heap) (locs : List Loc) (ls : Array Slot), K20 x1 x2 x3 x4 x5 x6 g v = some o → qs q0 q → gL g0 ≤ gL g → gL g ≤ gL o.2.1 → bn_H Z A s (q, g, v) H locs → lv_has ls 9 [(0, .ref (q 25)), (1, .int x1), (2, .int x2), (3, .int x3), (4, .ref (q x4)), (5, .ref (q x5)), (6, .int x6)] → bx_W p l e s m args below meth c Z A q0 g0 enV o (rB + 34) g H locs (F0 m 20 ls [])) : ∀ (n : Nat) (x1 : Int32) (x2 : Int32) (x3 : Int32) (x4 : Nat) (x5 : Nat) (x6 : Int32) (x7 : Nat) (x8 : Int32) (g : Nat → Nat) (v : mS) (q : Nat → Nat) (H : Heap) (locs : List Loc) (ls : Array Slot), f_N_forEachPair_58 Kr K20 n x1 x2 x3 x4 x5 x6 x7 x8 g v = some o → qs q0 q → gL g0 ≤ gL g → gL g ≤ gL o.2.1 → bn_H Z A s (q, g, v) H locs → lv_has ls 9 [(0, .ref (q 25)), (1, .int x1), (2, .int x2), (3, .int x3), (4, .ref (q x4)), (5, .ref (q x5)), (6, .int x6), (7, .ref (q x7)), (8, .int x8)] → bx_W p l e s m args below meth c Z A q0 g0 enV o (rB + 34) g H locs (F0 m 58 ls []) := by
  have hx := C0.1
  have hb := C0.2.1
  have hl0 := C0.2.2.2.2.2.2.2.2.2
  intro n
  induction n with
  | zero =>
    intro x1 x2 x3 x4 x5 x6 x7 x8 g v q H locs ls h hq hm0 hm hH hl
    cases h
  | succ n ih =>
    intro x1 x2 x3 x4 x5 x6 x7 x8 g v q H locs ls h hq hm0 hm hH hl
    rw [f_N_forEachPair_58] at h
    have hcl9 := bx_room (h0 := (rB + 34)) (o := o) hm0 hm
    obtain ⟨hgx4, h⟩ := gd_out h
    obtain ⟨hgx5, h⟩ := gd_out h
    obtain ⟨hgx7, h⟩ := gd_out h
    refine lv_iload hx hb d_N_forEachPair_58 (lv_at hl 8 rfl) ?_
    refine lv_aload hx hb d_N_forEachPair_60 (lv_at hl 7 rfl) ?_
    obtain ⟨r_3, v_1, hc_2, h⟩ := bi_out h
    refine bn_ci (r := r_3) (w := (q, g, v_1)) (as := []) (rest := [.int x8]) C0 hH (ci := 2) (rowB_k hgx7) (by decide) rfl (c_R_size hl0 hc_2) yy_R_size q_613 ⟨by simp only [bn_rm, dK]; omega, by simp only [bn_rm, dK]; omega⟩ rfl hl.1 rfl (Nat.le_of_ble_eq_true rfl) hcl9 d_N_forEachPair_62 (fun H locs hH => ?_)
    refine lv_icmp_ge (tgt := 107) hx hb d_N_forEachPair_65 (by decide) (fun c_4 => ?_) (fun c_4 => ?_)
    · rw [if_pos c_4] at h
      exact w_N_forEachPair_107 hMr hKr C0 hr hnx hK20 _ _ _ _ _ _ _ _ _ _ _ _ _ h hq hm0 hm hH (lv_sub hl [0, 1, 2, 3, 4, 5, 6, 7] rfl)
    · rw [if_neg c_4] at h
      refine lv_aload hx hb d_N_forEachPair_68 (lv_at hl 4 rfl) ?_
      obtain ⟨r_7, v_5, hc_6, h⟩ := bi_out h
      refine bn_ci (r := r_7) (w := (q, g, v_5)) (as := []) (rest := []) C0 hH (ci := 2) (rowB_k hgx4) (by decide) rfl (c_R_isEnded hl0 hc_6) yy_R_isEnded q_575 ⟨by simp only [bn_rm, dK]; omega, by simp only [bn_rm, dK]; omega⟩ rfl hl.1 rfl (Nat.le_of_ble_eq_true rfl) hcl9 d_N_forEachPair_70 (fun H locs hH => ?_)
      refine lv_if_ne (tgt := 107) hx hb d_N_forEachPair_73 (by decide) (fun c_8 => ?_) (fun c_8 => ?_)
      · rw [if_neg c_8] at h
        exact w_N_forEachPair_107 hMr hKr C0 hr hnx hK20 _ _ _ _ _ _ _ _ _ _ _ _ _ h hq hm0 hm hH (lv_sub hl [0, 1, 2, 3, 4, 5, 6, 7] rfl)
      · rw [if_pos c_8] at h
        refine lv_aload_n hx hb d_N_forEachPair_76 rfl (lv_at hl 0 rfl) ?_
        refine lv_aload_n hx hb d_N_forEachPair_77 rfl (lv_at hl 0 rfl) ?_
        refine lv_iload_n hx hb d_N_forEachPair_78 rfl (lv_at hl 1 rfl) ?_
        refine lv_aload hx hb d_N_forEachPair_79 (lv_at hl 7 rfl) ?_
        refine lv_iload hx hb d_N_forEachPair_81 (lv_at hl 8 rfl) ?_
        obtain ⟨r_11, v_9, hc_10, h⟩ := bi_out h
        refine bn_ci (r := r_11) (w := (q, g, v_9)) (as := [.int x8]) (rest := [.int x1, .ref (q 25), .ref (q 25)]) C0 hH (ci := 2) (rowB_k hgx7) (by decide) rfl (c_R_at hl0 hc_10) yy_R_at q_637 ⟨by simp only [bn_rm, dK]; omega, by simp only [bn_rm, dK]; omega⟩ rfl hl.1 rfl (Nat.le_of_ble_eq_true rfl) hcl9 d_N_forEachPair_83 (fun H locs hH => ?_)
        refine lv_aload hx hb d_N_forEachPair_86 (lv_at hl 5 rfl) ?_
        refine lv_iload hx hb d_N_forEachPair_88 (lv_at hl 6 rfl) ?_
        obtain ⟨r_14, v_12, hc_13, h⟩ := bi_out h
        refine bn_ci (r := r_14) (w := (q, g, v_12)) (as := [.int x6]) (rest := [.int r_11, .int x1, .ref (q 25), .ref (q 25)]) C0 hH (ci := 2) (rowB_k hgx5) (by decide) rfl (c_R_at hl0 hc_13) yy_R_at q_637 ⟨by simp only [bn_rm, dK]; omega, by simp only [bn_rm, dK]; omega⟩ rfl hl.1 rfl (Nat.le_of_ble_eq_true rfl) hcl9 d_N_forEachPair_90 (fun H locs hH => ?_)
        obtain ⟨o1, hc, hm2, ht9, hx1, hk9⟩ := bo_out h
        have hm1 := mn_N_paired hc
        refine bx_cV (as := [.int x1, .int r_11, .int r_14]) (rest := [.ref (q 25)]) C0 hnx hq hH hm0 hm1 hm2 ht9 (ci := 3) ⟨by decide, by decide⟩ (by decide) rfl (c_N_paired hl0 hc) yy_N_paired q_641 ⟨by first | omega | (simp only [dK]; omega), by first | omega | (simp only [dK]; omega)⟩ rfl hl.1 rfl (Nat.le_of_ble_eq_true rfl) d_N_forEachPair_93 hx1 (fun r9 q1 H locs hr1 hq0 hq1 hm9 hH => ?_)
        have h := hk9 r9 hr1
        have e9 : q1 25 = q 25 := (hq1 25 (by decide) (by decide))
        try rw [← e9] at hl
        try rw [← e9]
        have e9 : q1 x4 = q x4 := (hq1 x4 (rowB_ne hgx4).1 (rowB_ne hgx4).2)
        try rw [← e9] at hl
        try rw [← e9]
        have e9 : q1 x5 = q x5 := (hq1 x5 (rowB_ne hgx5).1 (rowB_ne hgx5).2)
        try rw [← e9] at hl
        try rw [← e9]
        have e9 : q1 x7 = q x7 := (hq1 x7 (rowB_ne hgx7).1 (rowB_ne hgx7).2)
        try rw [← e9] at hl
        try rw [← e9]
        exact w_N_forEachPair_96 hMr hKr C0 hr hnx hK20 ih _ _ _ _ _ _ _ _ _ _ _ _ _ _ _ h hq0 hm9 hm2 hH (lv_sub hl [0, 1, 2, 3, 4, 5, 6, 7, 8] rfl)
def f_N_forEachPair_53 (Kr : (Nat → Nat) → mS → Int32 → Int32 → Int32 → Nat → Option (bO Unit)) (K20 : Int32 → Int32 → Int32 → Nat → Nat → Int32 → (Nat → Nat) → mS → Option (bO Unit)) (x1 : Int32) (x2 : Int32) (x3 : Int32) (x4 : Nat) (x5 : Nat) (x6 : Int32) (y0 : Nat) (g : Nat → Nat) (v : mS) : Option (bO Unit) := gd (rowB x4) (gd (rowB x5) (gd (rowB y0) (f_N_forEachPair_58 Kr K20 fu x1 x2 x3 x4 x5 x6 y0 0 g v)))
set_option maxHeartbeats 4000000 in
set_option maxRecDepth 100000 in
theorem w_N_forEachPair_53 {p : Program} {l : Launch} {e : Env} {s : State} {m : MethodId} {args : Array Value} {below : List Frame} {meth : Method} {c : Code} {Z : bZ} {A : Nat → Prop} {q0 g0 : Nat → Nat} {o : bO Unit} {rB : Nat} {Kr : (Nat → Nat) → mS → Int32 → Int32 → Int32 → Nat → Option (bO Unit)} (hMr : ∀ {g : Nat → Nat} {v : mS} {z1 : Int32} {z2 : Int32} {z3 : Int32} {z4 : Nat} {o : bO Unit}, Kr g v z1 z2 z3 z4 = some o → gL g ≤ gL o.2.1) (hKr : ∀ {q g : Nat → Nat} {v : mS} {z1 : Int32} {z2 : Int32} {z3 : Int32} {z4 : Nat} {o : bO Unit}, Kr g v z1 z2 z3 z4 = some o → bx_M l Z rB y_N_work b_N_work 6 none [.ref (q 25), .int z1, .int z2, .int z3, .ref (q z4)] q g v enV o) (C0 : bn_C "FilterBench$Runner" b_N_forEachPair 9 Z A p l s m args meth c) (hr : meth.sig.returnType = none) (hnx : ∀ x ∈ c.exceptionTable.toList, False) {K20 : Int32 → Int32 → Int32 → Nat → Nat → Int32 → (Nat → Nat) → mS → Option (bO Unit)} (hK20 : ∀ (x1 : Int32) (x2 : Int32) (x3 : Int32) (x4 : Nat) (x5 : Nat) (x6 : Int32) (g : Nat → Nat) (v : mS) (q : Nat → Nat) (H : Heap) (locs : List Loc) (ls : Array Slot), K20 x1 x2 x3 x4 x5 x6 g v = some o → qs q0 q → gL g0 ≤ gL g → gL g ≤ gL o.2.1 → bn_H Z A s (q, g, v) H locs → lv_has ls 9 [(0, .ref (q 25)), (1, .int x1), (2, .int x2), (3, .int x3), (4, .ref (q x4)), (5, .ref (q x5)), (6, .int x6)] → bx_W p l e s m args below meth c Z A q0 g0 enV o (rB + 34) g H locs (F0 m 20 ls [])) : ∀ (x1 : Int32) (x2 : Int32) (x3 : Int32) (x4 : Nat) (x5 : Nat) (x6 : Int32) (y0 : Nat) (g : Nat → Nat) (v : mS) (q : Nat → Nat) (H : Heap) (locs : List Loc) (ls : Array Slot), f_N_forEachPair_53 Kr K20 x1 x2 x3 x4 x5 x6 y0 g v = some o → qs q0 q → gL g0 ≤ gL g → gL g ≤ gL o.2.1 → bn_H Z A s (q, g, v) H locs → lv_has ls 9 [(0, .ref (q 25)), (1, .int x1), (2, .int x2), (3, .int x3), (4, .ref (q x4)), (5, .ref (q x5)), (6, .int x6)] → bx_W p l e s m args below meth c Z A q0 g0 enV o (rB + 34) g H locs (F0 m 53 ls [.ref (q y0)]) := by
  have hx := C0.1
  have hb := C0.2.1
  have hl0 := C0.2.2.2.2.2.2.2.2.2
  intro x1 x2 x3 x4 x5 x6 y0 g v q H locs ls h hq hm0 hm hH hl
  unfold f_N_forEachPair_53 at h
  have hcl9 := bx_room (h0 := (rB + 34)) (o := o) hm0 hm
  obtain ⟨hgx4, h⟩ := gd_out h
  obtain ⟨hgx5, h⟩ := gd_out h
  obtain ⟨hgy0, h⟩ := gd_out h
  refine lv_astore (lv' := [(7, .ref (q y0)), (0, .ref (q 25)), (1, .int x1), (2, .int x2), (3, .int x3), (4, .ref (q x4)), (5, .ref (q x5)), (6, .int x6)]) hx hb d_N_forEachPair_53 hl (by decide) rfl (fun ls hl => ?_)
  refine lv_iconst (v := 0) hx hb d_N_forEachPair_55 (by decide) ?_
  refine lv_istore (lv' := [(8, .int 0), (7, .ref (q y0)), (0, .ref (q 25)), (1, .int x1), (2, .int x2), (3, .int x3), (4, .ref (q x4)), (5, .ref (q x5)), (6, .int x6)]) hx hb d_N_forEachPair_56 hl (by decide) rfl (fun ls hl => ?_)
  exact w_N_forEachPair_58 hMr hKr C0 hr hnx hK20 fu _ _ _ _ _ _ _ _ _ _ _ _ _ _ h hq hm0 hm hH (lv_sub hl [2, 3, 4, 5, 6, 7, 8, 1, 0] rfl)
def f_N_forEachPair_120 (Kr : (Nat → Nat) → mS → Int32 → Int32 → Int32 → Nat → Option (bO Unit))  (x4 : Nat) (x5 : Nat) (g : Nat → Nat) (v : mS) : Option (bO Unit) := gd (rowB x4) (gd (rowB x5) (bv (f_R_endAs g v x4 x5) fun v_1 => some (.inl (), g, v_1)))
set_option maxHeartbeats 4000000 in
set_option maxRecDepth 100000 in
theorem w_N_forEachPair_120 {p : Program} {l : Launch} {e : Env} {s : State} {m : MethodId} {args : Array Value} {below : List Frame} {meth : Method} {c : Code} {Z : bZ} {A : Nat → Prop} {q0 g0 : Nat → Nat} {o : bO Unit} {rB : Nat} {Kr : (Nat → Nat) → mS → Int32 → Int32 → Int32 → Nat → Option (bO Unit)} (hMr : ∀ {g : Nat → Nat} {v : mS} {z1 : Int32} {z2 : Int32} {z3 : Int32} {z4 : Nat} {o : bO Unit}, Kr g v z1 z2 z3 z4 = some o → gL g ≤ gL o.2.1) (hKr : ∀ {q g : Nat → Nat} {v : mS} {z1 : Int32} {z2 : Int32} {z3 : Int32} {z4 : Nat} {o : bO Unit}, Kr g v z1 z2 z3 z4 = some o → bx_M l Z rB y_N_work b_N_work 6 none [.ref (q 25), .int z1, .int z2, .int z3, .ref (q z4)] q g v enV o) (C0 : bn_C "FilterBench$Runner" b_N_forEachPair 9 Z A p l s m args meth c) (hr : meth.sig.returnType = none) (hnx : ∀ x ∈ c.exceptionTable.toList, False) : ∀ (x4 : Nat) (x5 : Nat) (g : Nat → Nat) (v : mS) (q : Nat → Nat) (H : Heap) (locs : List Loc) (ls : Array Slot), f_N_forEachPair_120 Kr  x4 x5 g v = some o → qs q0 q → gL g0 ≤ gL g → gL g ≤ gL o.2.1 → bn_H Z A s (q, g, v) H locs → lv_has ls 9 [(4, .ref (q x4)), (5, .ref (q x5))] → bx_W p l e s m args below meth c Z A q0 g0 enV o (rB + 34) g H locs (F0 m 120 ls []) := by
  have hx := C0.1
  have hb := C0.2.1
  have hl0 := C0.2.2.2.2.2.2.2.2.2
  intro x4 x5 g v q H locs ls h hq hm0 hm hH hl
  unfold f_N_forEachPair_120 at h
  have hcl9 := bx_room (h0 := (rB + 34)) (o := o) hm0 hm
  obtain ⟨hgx4, h⟩ := gd_out h
  obtain ⟨hgx5, h⟩ := gd_out h
  refine lv_aload hx hb d_N_forEachPair_120 (lv_at hl 0 rfl) ?_
  refine lv_aload hx hb d_N_forEachPair_122 (lv_at hl 1 rfl) ?_
  obtain ⟨v_1, hc_2, h⟩ := bv_out h
  refine bn_cv (w := (q, g, v_1)) (as := [.ref (q x5)]) (rest := []) C0 hH (ci := 2) (rowB_k hgx4) (by decide) rfl (c_R_endAs hl0 hc_2) yy_R_endAs q_604 ⟨by simp only [bn_rm, dK]; omega, by simp only [bn_rm, dK]; omega⟩ rfl hl.1 rfl (Nat.le_of_ble_eq_true rfl) hcl9 d_N_forEachPair_124 (fun H locs hH => ?_)
  exact bx_vret C0 hr hq hH hm0 d_N_forEachPair_127 h
def f_N_forEachPair_20 (Kr : (Nat → Nat) → mS → Int32 → Int32 → Int32 → Nat → Option (bO Unit))  : Nat → Int32 → Int32 → Int32 → Nat → Nat → Int32 → (Nat → Nat) → mS → Option (bO Unit)
  | 0, _, _, _, _, _, _, _, _ => none
  | n + 1, x1, x2, x3, x4, x5, x6, g, v => gd (rowB x4) (gd (rowB x5) (bi (f_R_size g v x5) fun r_3 v_1 => if r_3 ≤ x6 then (f_N_forEachPair_120 Kr x4 x5 g v_1) else (bi (f_R_isEnded g v_1 x4) fun r_7 v_5 => if r_7 = 0 then (gd (filB (9 + 4 * g 25)) (bi (f_F_firstPart g v_5 ((9 + 4 * g 25)) x1) fun r_12 v_10 => bo (f_N_rowOf Kr g v_10 r_12 x2 x3 1) fun r9 g9 v9 => f_N_forEachPair_53 Kr (f_N_forEachPair_20 Kr n) x1 x2 x3 x4 x5 x6 r9 g9 v9)) else (f_N_forEachPair_120 Kr x4 x5 g v_5))))
set_option maxHeartbeats 4000000 in
set_option maxRecDepth 100000 in
theorem w_N_forEachPair_20 {p : Program} {l : Launch} {e : Env} {s : State} {m : MethodId} {args : Array Value} {below : List Frame} {meth : Method} {c : Code} {Z : bZ} {A : Nat → Prop} {q0 g0 : Nat → Nat} {o : bO Unit} {rB : Nat} {Kr : (Nat → Nat) → mS → Int32 → Int32 → Int32 → Nat → Option (bO Unit)} (hMr : ∀ {g : Nat → Nat} {v : mS} {z1 : Int32} {z2 : Int32} {z3 : Int32} {z4 : Nat} {o : bO Unit}, Kr g v z1 z2 z3 z4 = some o → gL g ≤ gL o.2.1) (hKr : ∀ {q g : Nat → Nat} {v : mS} {z1 : Int32} {z2 : Int32} {z3 : Int32} {z4 : Nat} {o : bO Unit}, Kr g v z1 z2 z3 z4 = some o → bx_M l Z rB y_N_work b_N_work 6 none [.ref (q 25), .int z1, .int z2, .int z3, .ref (q z4)] q g v enV o) (C0 : bn_C "FilterBench$Runner" b_N_forEachPair 9 Z A p l s m args meth c) (hr : meth.sig.returnType = none) (hnx : ∀ x ∈ c.exceptionTable.toList, False) : ∀ (n : Nat) (x1 : Int32) (x2 : Int32) (x3 : Int32) (x4 : Nat) (x5 : Nat) (x6 : Int32) (g : Nat → Nat) (v : mS) (q : Nat → Nat) (H : Heap) (locs : List Loc) (ls : Array Slot), f_N_forEachPair_20 Kr  n x1 x2 x3 x4 x5 x6 g v = some o → qs q0 q → gL g0 ≤ gL g → gL g ≤ gL o.2.1 → bn_H Z A s (q, g, v) H locs → lv_has ls 9 [(0, .ref (q 25)), (1, .int x1), (2, .int x2), (3, .int x3), (4, .ref (q x4)), (5, .ref (q x5)), (6, .int x6)] → bx_W p l e s m args below meth c Z A q0 g0 enV o (rB + 34) g H locs (F0 m 20 ls []) := by
  have hx := C0.1
  have hb := C0.2.1
  have hl0 := C0.2.2.2.2.2.2.2.2.2
  intro n
  induction n with
  | zero =>
    intro x1 x2 x3 x4 x5 x6 g v q H locs ls h hq hm0 hm hH hl
    cases h
  | succ n ih =>
    intro x1 x2 x3 x4 x5 x6 g v q H locs ls h hq hm0 hm hH hl
    rw [f_N_forEachPair_20] at h
    have hcl9 := bx_room (h0 := (rB + 34)) (o := o) hm0 hm
    obtain ⟨hgx4, h⟩ := gd_out h
    obtain ⟨hgx5, h⟩ := gd_out h
    refine lv_iload hx hb d_N_forEachPair_20 (lv_at hl 6 rfl) ?_
    refine lv_aload hx hb d_N_forEachPair_22 (lv_at hl 5 rfl) ?_
    obtain ⟨r_3, v_1, hc_2, h⟩ := bi_out h
    refine bn_ci (r := r_3) (w := (q, g, v_1)) (as := []) (rest := [.int x6]) C0 hH (ci := 2) (rowB_k hgx5) (by decide) rfl (c_R_size hl0 hc_2) yy_R_size q_613 ⟨by simp only [bn_rm, dK]; omega, by simp only [bn_rm, dK]; omega⟩ rfl hl.1 rfl (Nat.le_of_ble_eq_true rfl) hcl9 d_N_forEachPair_24 (fun H locs hH => ?_)
    refine lv_icmp_ge (tgt := 120) hx hb d_N_forEachPair_27 (by decide) (fun c_4 => ?_) (fun c_4 => ?_)
    · rw [if_pos c_4] at h
      exact w_N_forEachPair_120 hMr hKr C0 hr hnx  _ _ _ _ _ _ _ _ h hq hm0 hm hH (lv_sub hl [4, 5] rfl)
    · rw [if_neg c_4] at h
      refine lv_aload hx hb d_N_forEachPair_30 (lv_at hl 4 rfl) ?_
      obtain ⟨r_7, v_5, hc_6, h⟩ := bi_out h
      refine bn_ci (r := r_7) (w := (q, g, v_5)) (as := []) (rest := []) C0 hH (ci := 2) (rowB_k hgx4) (by decide) rfl (c_R_isEnded hl0 hc_6) yy_R_isEnded q_575 ⟨by simp only [bn_rm, dK]; omega, by simp only [bn_rm, dK]; omega⟩ rfl hl.1 rfl (Nat.le_of_ble_eq_true rfl) hcl9 d_N_forEachPair_32 (fun H locs hH => ?_)
      refine lv_if_ne (tgt := 120) hx hb d_N_forEachPair_35 (by decide) (fun c_8 => ?_) (fun c_8 => ?_)
      · rw [if_neg c_8] at h
        exact w_N_forEachPair_120 hMr hKr C0 hr hnx  _ _ _ _ _ _ _ _ h hq hm0 hm hH (lv_sub hl [4, 5] rfl)
      · rw [if_pos c_8] at h
        refine lv_aload_n hx hb d_N_forEachPair_38 rfl (lv_at hl 0 rfl) ?_
        refine lv_aload_n hx hb d_N_forEachPair_39 rfl (lv_at hl 0 rfl) ?_
        obtain ⟨g_9, h⟩ := gd_out h
        refine bn_g_N_filter ⟨by decide, by decide⟩ C0 hH d_N_forEachPair_40 ?_
        refine lv_iload_n hx hb d_N_forEachPair_43 rfl (lv_at hl 1 rfl) ?_
        obtain ⟨r_12, v_10, hc_11, h⟩ := bi_out h
        refine bn_ci (r := r_12) (w := (q, g, v_10)) (as := [.int x1]) (rest := [.ref (q 25)]) C0 hH (ci := 1) (filB_k g_9) (by decide) rfl (c_F_firstPart hl0 hc_11) yy_F_firstPart q_570 ⟨by simp only [bn_rm, dK]; omega, by simp only [bn_rm, dK]; omega⟩ rfl hl.1 rfl (Nat.le_of_ble_eq_true rfl) hcl9 d_N_forEachPair_44 (fun H locs hH => ?_)
        refine lv_iload_n hx hb d_N_forEachPair_47 rfl (lv_at hl 2 rfl) ?_
        refine lv_iload_n hx hb d_N_forEachPair_48 rfl (lv_at hl 3 rfl) ?_
        refine lv_iconst (v := 1) hx hb d_N_forEachPair_49 (by decide) ?_
        obtain ⟨o1, hc, hm2, ht9, hx1, hk9⟩ := bo_out h
        have hm1 := mn_N_rowOf hc
        refine bx_cV (as := [.int r_12, .int x2, .int x3, .int 1]) (rest := []) C0 hnx hq hH hm0 hm1 hm2 ht9 (ci := 3) ⟨by decide, by decide⟩ (by decide) rfl (c_N_rowOf hMr hKr hl0 hc) yy_N_rowOf q_599 ⟨by first | omega | (simp only [dK]; omega), by first | omega | (simp only [dK]; omega)⟩ rfl hl.1 rfl (Nat.le_of_ble_eq_true rfl) d_N_forEachPair_50 hx1 (fun r9 q1 H locs hr1 hq0 hq1 hm9 hH => ?_)
        have h := hk9 r9 hr1
        have e9 : q1 25 = q 25 := (hq1 25 (by decide) (by decide))
        try rw [← e9] at hl
        try rw [← e9]
        have e9 : q1 x4 = q x4 := (hq1 x4 (rowB_ne hgx4).1 (rowB_ne hgx4).2)
        try rw [← e9] at hl
        try rw [← e9]
        have e9 : q1 x5 = q x5 := (hq1 x5 (rowB_ne hgx5).1 (rowB_ne hgx5).2)
        try rw [← e9] at hl
        try rw [← e9]
        exact w_N_forEachPair_53 hMr hKr C0 hr hnx ih _ _ _ _ _ _ _ _ _ _ _ _ _ h hq0 hm9 hm2 hH (lv_sub hl [0, 1, 2, 3, 4, 5, 6] rfl)
def f_N_forEachPair_15 (Kr : (Nat → Nat) → mS → Int32 → Int32 → Int32 → Nat → Option (bO Unit))  (x1 : Int32) (x2 : Int32) (x3 : Int32) (x4 : Nat) (y0 : Nat) (g : Nat → Nat) (v : mS) : Option (bO Unit) := gd (rowB x4) (gd (rowB y0) (f_N_forEachPair_20 Kr fu x1 x2 x3 x4 y0 0 g v))
set_option maxHeartbeats 4000000 in
set_option maxRecDepth 100000 in
theorem w_N_forEachPair_15 {p : Program} {l : Launch} {e : Env} {s : State} {m : MethodId} {args : Array Value} {below : List Frame} {meth : Method} {c : Code} {Z : bZ} {A : Nat → Prop} {q0 g0 : Nat → Nat} {o : bO Unit} {rB : Nat} {Kr : (Nat → Nat) → mS → Int32 → Int32 → Int32 → Nat → Option (bO Unit)} (hMr : ∀ {g : Nat → Nat} {v : mS} {z1 : Int32} {z2 : Int32} {z3 : Int32} {z4 : Nat} {o : bO Unit}, Kr g v z1 z2 z3 z4 = some o → gL g ≤ gL o.2.1) (hKr : ∀ {q g : Nat → Nat} {v : mS} {z1 : Int32} {z2 : Int32} {z3 : Int32} {z4 : Nat} {o : bO Unit}, Kr g v z1 z2 z3 z4 = some o → bx_M l Z rB y_N_work b_N_work 6 none [.ref (q 25), .int z1, .int z2, .int z3, .ref (q z4)] q g v enV o) (C0 : bn_C "FilterBench$Runner" b_N_forEachPair 9 Z A p l s m args meth c) (hr : meth.sig.returnType = none) (hnx : ∀ x ∈ c.exceptionTable.toList, False) : ∀ (x1 : Int32) (x2 : Int32) (x3 : Int32) (x4 : Nat) (y0 : Nat) (g : Nat → Nat) (v : mS) (q : Nat → Nat) (H : Heap) (locs : List Loc) (ls : Array Slot), f_N_forEachPair_15 Kr  x1 x2 x3 x4 y0 g v = some o → qs q0 q → gL g0 ≤ gL g → gL g ≤ gL o.2.1 → bn_H Z A s (q, g, v) H locs → lv_has ls 9 [(0, .ref (q 25)), (1, .int x1), (2, .int x2), (3, .int x3), (4, .ref (q x4))] → bx_W p l e s m args below meth c Z A q0 g0 enV o (rB + 34) g H locs (F0 m 15 ls [.ref (q y0)]) := by
  have hx := C0.1
  have hb := C0.2.1
  have hl0 := C0.2.2.2.2.2.2.2.2.2
  intro x1 x2 x3 x4 y0 g v q H locs ls h hq hm0 hm hH hl
  unfold f_N_forEachPair_15 at h
  have hcl9 := bx_room (h0 := (rB + 34)) (o := o) hm0 hm
  obtain ⟨hgx4, h⟩ := gd_out h
  obtain ⟨hgy0, h⟩ := gd_out h
  refine lv_astore (lv' := [(5, .ref (q y0)), (0, .ref (q 25)), (1, .int x1), (2, .int x2), (3, .int x3), (4, .ref (q x4))]) hx hb d_N_forEachPair_15 hl (by decide) rfl (fun ls hl => ?_)
  refine lv_iconst (v := 0) hx hb d_N_forEachPair_17 (by decide) ?_
  refine lv_istore (lv' := [(6, .int 0), (5, .ref (q y0)), (0, .ref (q 25)), (1, .int x1), (2, .int x2), (3, .int x3), (4, .ref (q x4))]) hx hb d_N_forEachPair_18 hl (by decide) rfl (fun ls hl => ?_)
  exact w_N_forEachPair_20 hMr hKr C0 hr hnx  fu _ _ _ _ _ _ _ _ _ _ _ _ h hq hm0 hm hH (lv_sub hl [2, 3, 4, 5, 6, 1, 0] rfl)
def f_N_forEachPair (Kr : (Nat → Nat) → mS → Int32 → Int32 → Int32 → Nat → Option (bO Unit)) (g : Nat → Nat) (v : mS) (x1 : Int32) (x2 : Int32) (x3 : Int32) (x4 : Nat) : Option (bO Unit) := mg g (gd (rowB x4) (gd (filB (9 + 4 * g 25)) (bi (f_F_secondPart g v ((9 + 4 * g 25)) x1) fun r_4 v_2 => bo (f_N_rowOf Kr g v_2 r_4 x2 x3 0) fun r9 g9 v9 => f_N_forEachPair_15 Kr x1 x2 x3 x4 r9 g9 v9)))
theorem mn_N_forEachPair {Kr : (Nat → Nat) → mS → Int32 → Int32 → Int32 → Nat → Option (bO Unit)} {g : Nat → Nat} {v : mS}  {x1 : Int32} {x2 : Int32} {x3 : Int32} {x4 : Nat} {o : bO Unit} (h : f_N_forEachPair Kr g v x1 x2 x3 x4 = some o) : gL g ≤ gL o.2.1 := (mg_out h).1
set_option maxHeartbeats 4000000 in
set_option maxRecDepth 100000 in
theorem c_N_forEachPair {l : Launch} {Z : bZ} {rB : Nat} {Kr : (Nat → Nat) → mS → Int32 → Int32 → Int32 → Nat → Option (bO Unit)} (hMr : ∀ {g : Nat → Nat} {v : mS} {z1 : Int32} {z2 : Int32} {z3 : Int32} {z4 : Nat} {o : bO Unit}, Kr g v z1 z2 z3 z4 = some o → gL g ≤ gL o.2.1) (hKr : ∀ {q g : Nat → Nat} {v : mS} {z1 : Int32} {z2 : Int32} {z3 : Int32} {z4 : Nat} {o : bO Unit}, Kr g v z1 z2 z3 z4 = some o → bx_M l Z rB y_N_work b_N_work 6 none [.ref (q 25), .int z1, .int z2, .int z3, .ref (q z4)] q g v enV o) (hl0 : l.stackTraces = false) {q g : Nat → Nat} {v : mS}  {x1 : Int32} {x2 : Int32} {x3 : Int32} {x4 : Nat} {o : bO Unit} (h : f_N_forEachPair Kr g v x1 x2 x3 x4 = some o) : bx_M l Z (rB + 34) y_N_forEachPair b_N_forEachPair 9 none [.ref (q 25), .int x1, .int x2, .int x3, .ref (q x4)] q g v enV o := by
  refine bx_of hl0 (by decide +kernel) (Nat.le_of_ble_eq_true rfl) ?_
  intro p e s m args below meth c A ls C0 hr hnx hl hH
  have hx := C0.1
  have hb := C0.2.1
  have C0 : bn_C "FilterBench$Runner" b_N_forEachPair 9 Z A p l s m args meth c := C0
  have hl : lv_has ls 9 [(0, .ref (q 25)), (1, .int x1), (2, .int x2), (3, .int x3), (4, .ref (q x4))] := hl
  obtain ⟨hm, h⟩ := mg_out h
  have hm0 : gL g ≤ gL g := Nat.le_refl _
  have hq : qs q q := qs.rf
  have hcl9 := bx_room (h0 := (rB + 34)) (o := o) hm0 hm
  obtain ⟨hgx4, h⟩ := gd_out h
  refine lv_aload_n hx hb d_N_forEachPair_0 rfl (lv_at hl 0 rfl) ?_
  refine lv_aload_n hx hb d_N_forEachPair_1 rfl (lv_at hl 0 rfl) ?_
  obtain ⟨g_1, h⟩ := gd_out h
  refine bn_g_N_filter ⟨by decide, by decide⟩ C0 hH d_N_forEachPair_2 ?_
  refine lv_iload_n hx hb d_N_forEachPair_5 rfl (lv_at hl 1 rfl) ?_
  obtain ⟨r_4, v_2, hc_3, h⟩ := bi_out h
  refine bn_ci (r := r_4) (w := (q, g, v_2)) (as := [.int x1]) (rest := [.ref (q 25)]) C0 hH (ci := 1) (filB_k g_1) (by decide) rfl (c_F_secondPart hl0 hc_3) yy_F_secondPart q_579 ⟨by simp only [bn_rm, dK]; omega, by simp only [bn_rm, dK]; omega⟩ rfl hl.1 rfl (Nat.le_of_ble_eq_true rfl) hcl9 d_N_forEachPair_6 (fun H locs hH => ?_)
  refine lv_iload_n hx hb d_N_forEachPair_9 rfl (lv_at hl 2 rfl) ?_
  refine lv_iload_n hx hb d_N_forEachPair_10 rfl (lv_at hl 3 rfl) ?_
  refine lv_iconst (v := 0) hx hb d_N_forEachPair_11 (by decide) ?_
  obtain ⟨o1, hc, hm2, ht9, hx1, hk9⟩ := bo_out h
  have hm1 := mn_N_rowOf hc
  refine bx_cV (as := [.int r_4, .int x2, .int x3, .int 0]) (rest := []) C0 hnx hq hH hm0 hm1 hm2 ht9 (ci := 3) ⟨by decide, by decide⟩ (by decide) rfl (c_N_rowOf hMr hKr hl0 hc) yy_N_rowOf q_599 ⟨by first | omega | (simp only [dK]; omega), by first | omega | (simp only [dK]; omega)⟩ rfl hl.1 rfl (Nat.le_of_ble_eq_true rfl) d_N_forEachPair_12 hx1 (fun r9 q1 H locs hr1 hq0 hq1 hm9 hH => ?_)
  have h := hk9 r9 hr1
  have e9 : q1 25 = q 25 := (hq1 25 (by decide) (by decide))
  try rw [← e9] at hl
  try rw [← e9]
  have e9 : q1 x4 = q x4 := (hq1 x4 (rowB_ne hgx4).1 (rowB_ne hgx4).2)
  try rw [← e9] at hl
  try rw [← e9]
  exact w_N_forEachPair_15 hMr hKr C0 hr hnx  _ _ _ _ _ _ _ _ _ _ _ h hq0 hm9 hm2 hH (lv_sub hl [0, 1, 2, 3, 4] rfl)
