/-! methods of the class that may throw or make (by program: wip/gen/xgen.py) -/
def f_N_comma_44 (Kr : (Nat → Nat) → mS → Int32 → Int32 → Int32 → Nat → Option (bO Unit))   (g : Nat → Nat) (v : mS) : Option (bO Unit) := some (.inl (), g, v)
set_option maxHeartbeats 4000000 in
set_option maxRecDepth 100000 in
theorem w_N_comma_44 {p : Program} {l : Launch} {e : Env} {s : State} {m : MethodId} {args : Array Value} {below : List Frame} {meth : Method} {c : Code} {Z : bZ} {A : Nat → Prop} {q0 g0 : Nat → Nat} {o : bO Unit} {rB : Nat} {Kr : (Nat → Nat) → mS → Int32 → Int32 → Int32 → Nat → Option (bO Unit)} (hMr : ∀ {g : Nat → Nat} {v : mS} {z1 : Int32} {z2 : Int32} {z3 : Int32} {z4 : Nat} {o : bO Unit}, Kr g v z1 z2 z3 z4 = some o → gL g ≤ gL o.2.1) (hKr : ∀ {q g : Nat → Nat} {v : mS} {z1 : Int32} {z2 : Int32} {z3 : Int32} {z4 : Nat} {o : bO Unit}, Kr g v z1 z2 z3 z4 = some o → bx_M l Z rB y_N_work b_N_work 6 none [.ref (q 25), .int z1, .int z2, .int z3, .ref (q z4)] q g v enV o) (C0 : bn_C "FilterBench$Runner" b_N_comma 5 Z A p l s m args meth c) (hr : meth.sig.returnType = none) (hnx : ∀ x ∈ c.exceptionTable.toList, False) : ∀  (g : Nat → Nat) (v : mS) (q : Nat → Nat) (H : Heap) (locs : List Loc) (ls : Array Slot), f_N_comma_44 Kr   g v = some o → qs q0 q → gL g0 ≤ gL g → gL g ≤ gL o.2.1 → bn_H Z A s (q, g, v) H locs → lv_has ls 5 [] → bx_W p l e s m args below meth c Z A q0 g0 enV o (rB + 7) g H locs (F0 m 44 ls []) := by
  have hx := C0.1
  have hb := C0.2.1
  have hl0 := C0.2.2.2.2.2.2.2.2.2
  intro  g v q H locs ls h hq hm0 hm hH hl
  unfold f_N_comma_44 at h
  have hcl9 := bx_room (h0 := (rB + 7)) (o := o) hm0 hm
  exact bx_vret C0 hr hq hH hm0 d_N_comma_44 h
def f_N_comma_18 (Kr : (Nat → Nat) → mS → Int32 → Int32 → Int32 → Nat → Option (bO Unit))  (x1 : Int32) (x2 : Int32) (x3 : Int32) (x4 : Nat) (g : Nat → Nat) (v : mS) : Option (bO Unit) := gd (rowB x4) (bi (f_R_isEnded g v x4) fun r_3 v_1 => if r_3 = 0 then (gd (filB (9 + 4 * g 25)) (bi (f_F_secondPart g v_1 ((9 + 4 * g 25)) x1) fun r_8 v_6 => bo (Kr g v_6 r_8 x2 (x3 + 1) x4) fun r9 g9 v9 => f_N_comma_44 Kr g9 v9)) else (f_N_comma_44 Kr g v_1))
set_option maxHeartbeats 4000000 in
set_option maxRecDepth 100000 in
theorem w_N_comma_18 {p : Program} {l : Launch} {e : Env} {s : State} {m : MethodId} {args : Array Value} {below : List Frame} {meth : Method} {c : Code} {Z : bZ} {A : Nat → Prop} {q0 g0 : Nat → Nat} {o : bO Unit} {rB : Nat} {Kr : (Nat → Nat) → mS → Int32 → Int32 → Int32 → Nat → Option (bO Unit)} (hMr : ∀ {g : Nat → Nat} {v : mS} {z1 : Int32} {z2 : Int32} {z3 : Int32} {z4 : Nat} {o : bO Unit}, Kr g v z1 z2 z3 z4 = some o → gL g ≤ gL o.2.1) (hKr : ∀ {q g : Nat → Nat} {v : mS} {z1 : Int32} {z2 : Int32} {z3 : Int32} {z4 : Nat} {o : bO Unit}, Kr g v z1 z2 z3 z4 = some o → bx_M l Z rB y_N_work b_N_work 6 none [.ref (q 25), .int z1, .int z2, .int z3, .ref (q z4)] q g v enV o) (C0 : bn_C "FilterBench$Runner" b_N_comma 5 Z A p l s m args meth c) (hr : meth.sig.returnType = none) (hnx : ∀ x ∈ c.exceptionTable.toList, False) : ∀ (x1 : Int32) (x2 : Int32) (x3 : Int32) (x4 : Nat) (g : Nat → Nat) (v : mS) (q : Nat → Nat) (H : Heap) (locs : List Loc) (ls : Array Slot), f_N_comma_18 Kr  x1 x2 x3 x4 g v = some o → qs q0 q → gL g0 ≤ gL g → gL g ≤ gL o.2.1 → bn_H Z A s (q, g, v) H locs → lv_has ls 5 [(0, .ref (q 25)), (1, .int x1), (2, .int x2), (3, .int x3), (4, .ref (q x4))] → bx_W p l e s m args below meth c Z A q0 g0 enV o (rB + 7) g H locs (F0 m 18 ls []) := by
  have hx := C0.1
  have hb := C0.2.1
  have hl0 := C0.2.2.2.2.2.2.2.2.2
  intro x1 x2 x3 x4 g v q H locs ls h hq hm0 hm hH hl
  unfold f_N_comma_18 at h
  have hcl9 := bx_room (h0 := (rB + 7)) (o := o) hm0 hm
  obtain ⟨hgx4, h⟩ := gd_out h
  refine lv_aload hx hb d_N_comma_18 (lv_at hl 4 rfl) ?_
  obtain ⟨r_3, v_1, hc_2, h⟩ := bi_out h
  refine bn_ci (r := r_3) (w := (q, g, v_1)) (as := []) (rest := []) C0 hH (ci := 2) (rowB_k hgx4) (by decide) rfl (c_R_isEnded hl0 hc_2) yy_R_isEnded q_575 ⟨by simp only [bn_rm, dK]; omega, by simp only [bn_rm, dK]; omega⟩ rfl hl.1 rfl (Nat.le_of_ble_eq_true rfl) hcl9 d_N_comma_20 (fun H locs hH => ?_)
  refine lv_if_ne (tgt := 44) hx hb d_N_comma_23 (by decide) (fun c_4 => ?_) (fun c_4 => ?_)
  · rw [if_neg c_4] at h
    exact w_N_comma_44 hMr hKr C0 hr hnx   _ _ _ _ _ _ h hq hm0 hm hH (lv_sub hl [] rfl)
  · rw [if_pos c_4] at h
    refine lv_aload_n hx hb d_N_comma_26 rfl (lv_at hl 0 rfl) ?_
    refine lv_aload_n hx hb d_N_comma_27 rfl (lv_at hl 0 rfl) ?_
    obtain ⟨g_5, h⟩ := gd_out h
    refine bn_g_N_filter ⟨by decide, by decide⟩ C0 hH d_N_comma_28 ?_
    refine lv_iload_n hx hb d_N_comma_31 rfl (lv_at hl 1 rfl) ?_
    obtain ⟨r_8, v_6, hc_7, h⟩ := bi_out h
    refine bn_ci (r := r_8) (w := (q, g, v_6)) (as := [.int x1]) (rest := [.ref (q 25)]) C0 hH (ci := 1) (filB_k g_5) (by decide) rfl (c_F_secondPart hl0 hc_7) yy_F_secondPart q_579 ⟨by simp only [bn_rm, dK]; omega, by simp only [bn_rm, dK]; omega⟩ rfl hl.1 rfl (Nat.le_of_ble_eq_true rfl) hcl9 d_N_comma_32 (fun H locs hH => ?_)
    refine lv_iload_n hx hb d_N_comma_35 rfl (lv_at hl 2 rfl) ?_
    refine lv_iload_n hx hb d_N_comma_36 rfl (lv_at hl 3 rfl) ?_
    refine lv_iconst (v := 1) hx hb d_N_comma_37 (by decide) ?_
    refine lv_iadd hx hb d_N_comma_38 ?_
    refine lv_aload hx hb d_N_comma_39 (lv_at hl 4 rfl) ?_
    obtain ⟨o1, hc, hm2, ht9, hx1, hk9⟩ := bo_out h
    have hm1 := hMr hc
    refine bx_cV (as := [.int r_8, .int x2, .int (x3 + 1), .ref (q x4)]) (rest := []) C0 hnx hq hH hm0 hm1 hm2 ht9 (ci := 3) ⟨by decide, by decide⟩ (by decide) rfl (hKr hc) yy_N_work q_574 ⟨by first | omega | (simp only [dK]; omega), by first | omega | (simp only [dK]; omega)⟩ rfl hl.1 rfl (Nat.le_of_ble_eq_true rfl) d_N_comma_41 hx1 (fun r9 q1 H locs hr1 hq0 hq1 hm9 hH => ?_)
    have h := hk9 r9 hr1
    exact w_N_comma_44 hMr hKr C0 hr hnx   _ _ _ _ _ _ h hq0 hm9 hm2 hH (lv_sub hl [] rfl)
def f_N_comma (Kr : (Nat → Nat) → mS → Int32 → Int32 → Int32 → Nat → Option (bO Unit)) (g : Nat → Nat) (v : mS) (x1 : Int32) (x2 : Int32) (x3 : Int32) (x4 : Nat) : Option (bO Unit) := mg g (gd (rowB x4) (gd (filB (9 + 4 * g 25)) (bi (f_F_firstPart g v ((9 + 4 * g 25)) x1) fun r_4 v_2 => bo (Kr g v_2 r_4 x2 (x3 + 1) x4) fun r9 g9 v9 => f_N_comma_18 Kr x1 x2 x3 x4 g9 v9)))
theorem mn_N_comma {Kr : (Nat → Nat) → mS → Int32 → Int32 → Int32 → Nat → Option (bO Unit)} {g : Nat → Nat} {v : mS}  {x1 : Int32} {x2 : Int32} {x3 : Int32} {x4 : Nat} {o : bO Unit} (h : f_N_comma Kr g v x1 x2 x3 x4 = some o) : gL g ≤ gL o.2.1 := (mg_out h).1
set_option maxHeartbeats 4000000 in
set_option maxRecDepth 100000 in
theorem c_N_comma {l : Launch} {Z : bZ} {rB : Nat} {Kr : (Nat → Nat) → mS → Int32 → Int32 → Int32 → Nat → Option (bO Unit)} (hMr : ∀ {g : Nat → Nat} {v : mS} {z1 : Int32} {z2 : Int32} {z3 : Int32} {z4 : Nat} {o : bO Unit}, Kr g v z1 z2 z3 z4 = some o → gL g ≤ gL o.2.1) (hKr : ∀ {q g : Nat → Nat} {v : mS} {z1 : Int32} {z2 : Int32} {z3 : Int32} {z4 : Nat} {o : bO Unit}, Kr g v z1 z2 z3 z4 = some o → bx_M l Z rB y_N_work b_N_work 6 none [.ref (q 25), .int z1, .int z2, .int z3, .ref (q z4)] q g v enV o) (hl0 : l.stackTraces = false) {q g : Nat → Nat} {v : mS}  {x1 : Int32} {x2 : Int32} {x3 : Int32} {x4 : Nat} {o : bO Unit} (h : f_N_comma Kr g v x1 x2 x3 x4 = some o) : bx_M l Z (rB + 7) y_N_comma b_N_comma 5 none [.ref (q 25), .int x1, .int x2, .int x3, .ref (q x4)] q g v enV o := by
  refine bx_of hl0 (by decide +kernel) (Nat.le_of_ble_eq_true rfl) ?_
  intro p e s m args below meth c A ls C0 hr hnx hl hH
  have hx := C0.1
  have hb := C0.2.1
  have C0 : bn_C "FilterBench$Runner" b_N_comma 5 Z A p l s m args meth c := C0
  have hl : lv_has ls 5 [(0, .ref (q 25)), (1, .int x1), (2, .int x2), (3, .int x3), (4, .ref (q x4))] := hl
  obtain ⟨hm, h⟩ := mg_out h
  have hm0 : gL g ≤ gL g := Nat.le_refl _
  have hq : qs q q := qs.rf
  have hcl9 := bx_room (h0 := (rB + 7)) (o := o) hm0 hm
  obtain ⟨hgx4, h⟩ := gd_out h
  refine lv_aload_n hx hb d_N_comma_0 rfl (lv_at hl 0 rfl) ?_
  refine lv_aload_n hx hb d_N_comma_1 rfl (lv_at hl 0 rfl) ?_
  obtain ⟨g_1, h⟩ := gd_out h
  refine bn_g_N_filter ⟨by decide, by decide⟩ C0 hH d_N_comma_2 ?_
  refine lv_iload_n hx hb d_N_comma_5 rfl (lv_at hl 1 rfl) ?_
  obtain ⟨r_4, v_2, hc_3, h⟩ := bi_out h
  refine bn_ci (r := r_4) (w := (q, g, v_2)) (as := [.int x1]) (rest := [.ref (q 25)]) C0 hH (ci := 1) (filB_k g_1) (by decide) rfl (c_F_firstPart hl0 hc_3) yy_F_firstPart q_570 ⟨by simp only [bn_rm, dK]; omega, by simp only [bn_rm, dK]; omega⟩ rfl hl.1 rfl (Nat.le_of_ble_eq_true rfl) hcl9 d_N_comma_6 (fun H locs hH => ?_)
  refine lv_iload_n hx hb d_N_comma_9 rfl (lv_at hl 2 rfl) ?_
  refine lv_iload_n hx hb d_N_comma_10 rfl (lv_at hl 3 rfl) ?_
  refine lv_iconst (v := 1) hx hb d_N_comma_11 (by decide) ?_
  refine lv_iadd hx hb d_N_comma_12 ?_
  refine lv_aload hx hb d_N_comma_13 (lv_at hl 4 rfl) ?_
  obtain ⟨o1, hc, hm2, ht9, hx1, hk9⟩ := bo_out h
  have hm1 := hMr hc
  refine bx_cV (as := [.int r_4, .int x2, .int (x3 + 1), .ref (q x4)]) (rest := []) C0 hnx hq hH hm0 hm1 hm2 ht9 (ci := 3) ⟨by decide, by decide⟩ (by decide) rfl (hKr hc) yy_N_work q_574 ⟨by first | omega | (simp only [dK]; omega), by first | omega | (simp only [dK]; omega)⟩ rfl hl.1 rfl (Nat.le_of_ble_eq_true rfl) d_N_comma_15 hx1 (fun r9 q1 H locs hr1 hq0 hq1 hm9 hH => ?_)
  have h := hk9 r9 hr1
  have e9 : q1 25 = q 25 := (hq1 25 (by decide) (by decide))
  try rw [← e9] at hl
  try rw [← e9]
  have e9 : q1 x4 = q x4 := (hq1 x4 (rowB_ne hgx4).1 (rowB_ne hgx4).2)
  try rw [← e9] at hl
  try rw [← e9]
  exact w_N_comma_18 hMr hKr C0 hr hnx  _ _ _ _ _ _ _ _ _ _ h hq0 hm9 hm2 hH (lv_sub hl [0, 1, 2, 3, 4] rfl)
def f_N_array_57 (Kr : (Nat → Nat) → mS → Int32 → Int32 → Int32 → Nat → Option (bO Unit))   (g : Nat → Nat) (v : mS) : Option (bO Unit) := some (.inl (), g, v)
set_option maxHeartbeats 4000000 in
set_option maxRecDepth 100000 in
theorem w_N_array_57 {p : Program} {l : Launch} {e : Env} {s : State} {m : MethodId} {args : Array Value} {below : List Frame} {meth : Method} {c : Code} {Z : bZ} {A : Nat → Prop} {q0 g0 : Nat → Nat} {o : bO Unit} {rB : Nat} {Kr : (Nat → Nat) → mS → Int32 → Int32 → Int32 → Nat → Option (bO Unit)} (hMr : ∀ {g : Nat → Nat} {v : mS} {z1 : Int32} {z2 : Int32} {z3 : Int32} {z4 : Nat} {o : bO Unit}, Kr g v z1 z2 z3 z4 = some o → gL g ≤ gL o.2.1) (hKr : ∀ {q g : Nat → Nat} {v : mS} {z1 : Int32} {z2 : Int32} {z3 : Int32} {z4 : Nat} {o : bO Unit}, Kr g v z1 z2 z3 z4 = some o → bx_M l Z rB y_N_work b_N_work 6 none [.ref (q 25), .int z1, .int z2, .int z3, .ref (q z4)] q g v enV o) (C0 : bn_C "FilterBench$Runner" b_N_array 6 Z A p l s m args meth c) (hr : meth.sig.returnType = none) (hnx : ∀ x ∈ c.exceptionTable.toList, False) : ∀  (g : Nat → Nat) (v : mS) (q : Nat → Nat) (H : Heap) (locs : List Loc) (ls : Array Slot), f_N_array_57 Kr   g v = some o → qs q0 q → gL g0 ≤ gL g → gL g ≤ gL o.2.1 → bn_H Z A s (q, g, v) H locs → lv_has ls 6 [] → bx_W p l e s m args below meth c Z A q0 g0 enV o (rB + 10) g H locs (F0 m 57 ls []) := by
  have hx := C0.1
  have hb := C0.2.1
  have hl0 := C0.2.2.2.2.2.2.2.2.2
  intro  g v q H locs ls h hq hm0 hm hH hl
  unfold f_N_array_57 at h
  have hcl9 := bx_room (h0 := (rB + 10)) (o := o) hm0 hm
  exact bx_vret C0 hr hq hH hm0 d_N_array_57 h
def f_N_array_54 (Kr : (Nat → Nat) → mS → Int32 → Int32 → Int32 → Nat → Option (bO Unit))  (y0 : Nat) (y1 : Int32) (g : Nat → Nat) (v : mS) : Option (bO Unit) := gd (rowB y0) (bo (f_R_put g v y0 y1) fun r9 g9 v9 => f_N_array_57 Kr g9 v9)
set_option maxHeartbeats 4000000 in
set_option maxRecDepth 100000 in
theorem w_N_array_54 {p : Program} {l : Launch} {e : Env} {s : State} {m : MethodId} {args : Array Value} {below : List Frame} {meth : Method} {c : Code} {Z : bZ} {A : Nat → Prop} {q0 g0 : Nat → Nat} {o : bO Unit} {rB : Nat} {Kr : (Nat → Nat) → mS → Int32 → Int32 → Int32 → Nat → Option (bO Unit)} (hMr : ∀ {g : Nat → Nat} {v : mS} {z1 : Int32} {z2 : Int32} {z3 : Int32} {z4 : Nat} {o : bO Unit}, Kr g v z1 z2 z3 z4 = some o → gL g ≤ gL o.2.1) (hKr : ∀ {q g : Nat → Nat} {v : mS} {z1 : Int32} {z2 : Int32} {z3 : Int32} {z4 : Nat} {o : bO Unit}, Kr g v z1 z2 z3 z4 = some o → bx_M l Z rB y_N_work b_N_work 6 none [.ref (q 25), .int z1, .int z2, .int z3, .ref (q z4)] q g v enV o) (C0 : bn_C "FilterBench$Runner" b_N_array 6 Z A p l s m args meth c) (hr : meth.sig.returnType = none) (hnx : ∀ x ∈ c.exceptionTable.toList, False) : ∀ (y0 : Nat) (y1 : Int32) (g : Nat → Nat) (v : mS) (q : Nat → Nat) (H : Heap) (locs : List Loc) (ls : Array Slot), f_N_array_54 Kr  y0 y1 g v = some o → qs q0 q → gL g0 ≤ gL g → gL g ≤ gL o.2.1 → bn_H Z A s (q, g, v) H locs → lv_has ls 6 [] → bx_W p l e s m args below meth c Z A q0 g0 enV o (rB + 10) g H locs (F0 m 54 ls [.int y1, .ref (q y0)]) := by
  have hx := C0.1
  have hb := C0.2.1
  have hl0 := C0.2.2.2.2.2.2.2.2.2
  intro y0 y1 g v q H locs ls h hq hm0 hm hH hl
  unfold f_N_array_54 at h
  have hcl9 := bx_room (h0 := (rB + 10)) (o := o) hm0 hm
  obtain ⟨hgy0, h⟩ := gd_out h
  obtain ⟨o1, hc, hm2, ht9, hx1, hk9⟩ := bo_out h
  have hm1 := mn_R_put hc
  refine bx_cV (as := [.int y1]) (rest := []) C0 hnx hq hH hm0 hm1 hm2 ht9 (ci := 2) (rowB_k hgy0) (by decide) rfl (c_R_put hl0 hc) yy_R_put q_508 ⟨by first | omega | (simp only [dK]; omega), by first | omega | (simp only [dK]; omega)⟩ rfl hl.1 rfl (Nat.le_of_ble_eq_true rfl) d_N_array_54 hx1 (fun r9 q1 H locs hr1 hq0 hq1 hm9 hH => ?_)
  have h := hk9 r9 hr1
  exact w_N_array_57 hMr hKr C0 hr hnx   _ _ _ _ _ _ h hq0 hm9 hm2 hH (lv_sub hl [] rfl)
def f_N_array_15 (Kr : (Nat → Nat) → mS → Int32 → Int32 → Int32 → Nat → Option (bO Unit))  (x4 : Nat) (y0 : Nat) (g : Nat → Nat) (v : mS) : Option (bO Unit) := gd (rowB x4) (gd (rowB y0) (bi (f_R_isEnded g v y0) fun r_3 v_1 => if r_3 = 0 then (bi (f_R_items g v_1 y0) fun r_7 v_5 => bi (f_R_size g v_5 y0) fun r_10 v_8 => bo (f_V_arrayOf g v_8 r_7 r_10) fun r9 g9 v9 => f_N_array_54 Kr x4 r9 g9 v9) else (bv (f_R_endAs g v_1 x4 y0) fun v_11 => f_N_array_57 Kr g v_11)))
set_option maxHeartbeats 4000000 in
set_option maxRecDepth 100000 in
theorem w_N_array_15 {p : Program} {l : Launch} {e : Env} {s : State} {m : MethodId} {args : Array Value} {below : List Frame} {meth : Method} {c : Code} {Z : bZ} {A : Nat → Prop} {q0 g0 : Nat → Nat} {o : bO Unit} {rB : Nat} {Kr : (Nat → Nat) → mS → Int32 → Int32 → Int32 → Nat → Option (bO Unit)} (hMr : ∀ {g : Nat → Nat} {v : mS} {z1 : Int32} {z2 : Int32} {z3 : Int32} {z4 : Nat} {o : bO Unit}, Kr g v z1 z2 z3 z4 = some o → gL g ≤ gL o.2.1) (hKr : ∀ {q g : Nat → Nat} {v : mS} {z1 : Int32} {z2 : Int32} {z3 : Int32} {z4 : Nat} {o : bO Unit}, Kr g v z1 z2 z3 z4 = some o → bx_M l Z rB y_N_work b_N_work 6 none [.ref (q 25), .int z1, .int z2, .int z3, .ref (q z4)] q g v enV o) (C0 : bn_C "FilterBench$Runner" b_N_array 6 Z A p l s m args meth c) (hr : meth.sig.returnType = none) (hnx : ∀ x ∈ c.exceptionTable.toList, False) : ∀ (x4 : Nat) (y0 : Nat) (g : Nat → Nat) (v : mS) (q : Nat → Nat) (H : Heap) (locs : List Loc) (ls : Array Slot), f_N_array_15 Kr  x4 y0 g v = some o → qs q0 q → gL g0 ≤ gL g → gL g ≤ gL o.2.1 → bn_H Z A s (q, g, v) H locs → lv_has ls 6 [(0, .ref (q 25)), (4, .ref (q x4))] → bx_W p l e s m args below meth c Z A q0 g0 enV o (rB + 10) g H locs (F0 m 15 ls [.ref (q y0)]) := by
  have hx := C0.1
  have hb := C0.2.1
  have hl0 := C0.2.2.2.2.2.2.2.2.2
  intro x4 y0 g v q H locs ls h hq hm0 hm hH hl
  unfold f_N_array_15 at h
  have hcl9 := bx_room (h0 := (rB + 10)) (o := o) hm0 hm
  obtain ⟨hgx4, h⟩ := gd_out h
  obtain ⟨hgy0, h⟩ := gd_out h
  refine lv_astore (lv' := [(5, .ref (q y0)), (0, .ref (q 25)), (4, .ref (q x4))]) hx hb d_N_array_15 hl (by decide) rfl (fun ls hl => ?_)
  refine lv_aload hx hb d_N_array_17 (lv_at hl 0 rfl) ?_
  obtain ⟨r_3, v_1, hc_2, h⟩ := bi_out h
  refine bn_ci (r := r_3) (w := (q, g, v_1)) (as := []) (rest := []) C0 hH (ci := 2) (rowB_k hgy0) (by decide) rfl (c_R_isEnded hl0 hc_2) yy_R_isEnded q_575 ⟨by simp only [bn_rm, dK]; omega, by simp only [bn_rm, dK]; omega⟩ rfl hl.1 rfl (Nat.le_of_ble_eq_true rfl) hcl9 d_N_array_19 (fun H locs hH => ?_)
  refine lv_if_eq (tgt := 35) hx hb d_N_array_22 (by decide) (fun c_4 => ?_) (fun c_4 => ?_)
  · rw [if_pos c_4] at h
    refine lv_aload hx hb d_N_array_35 (lv_at hl 2 rfl) ?_
    refine lv_aload_n hx hb d_N_array_37 rfl (lv_at hl 1 rfl) ?_
    refine bn_g_N_values ⟨by decide, by decide⟩ C0 hH d_N_array_38 ?_
    refine lv_aload hx hb d_N_array_41 (lv_at hl 0 rfl) ?_
    obtain ⟨r_7, v_5, hc_6, h⟩ := bi_out h
    refine bn_cr (r := r_7) (w := (q, g, v_5)) (as := []) (rest := [.ref (q 1), .ref (q x4)]) C0 hH (ci := 2) (rowB_k hgy0) (by decide) rfl (c_R_items hl0 hc_6) yy_R_items q_609 ⟨by simp only [bn_rm, dK]; omega, by simp only [bn_rm, dK]; omega⟩ rfl hl.1 rfl (Nat.le_of_ble_eq_true rfl) hcl9 d_N_array_43 (fun H locs hH => ?_)
    refine lv_aload hx hb d_N_array_46 (lv_at hl 0 rfl) ?_
    obtain ⟨r_10, v_8, hc_9, h⟩ := bi_out h
    refine bn_ci (r := r_10) (w := (q, g, v_8)) (as := []) (rest := [.ref (q r_7), .ref (q 1), .ref (q x4)]) C0 hH (ci := 2) (rowB_k hgy0) (by decide) rfl (c_R_size hl0 hc_9) yy_R_size q_613 ⟨by simp only [bn_rm, dK]; omega, by simp only [bn_rm, dK]; omega⟩ rfl hl.1 rfl (Nat.le_of_ble_eq_true rfl) hcl9 d_N_array_48 (fun H locs hH => ?_)
    obtain ⟨o1, hc, hm2, ht9, hx1, hk9⟩ := bo_out h
    have hm1 := mn_V_arrayOf hc
    refine bx_cV (as := [.ref (q r_7), .int r_10]) (rest := [.ref (q x4)]) C0 hnx hq hH hm0 hm1 hm2 ht9 (ci := 4) ⟨by decide, by decide⟩ (by decide) rfl (c_V_arrayOf hl0 hc) yy_V_arrayOf q_617 ⟨by first | omega | (simp only [dK]; omega), by first | omega | (simp only [dK]; omega)⟩ rfl hl.1 rfl (Nat.le_of_ble_eq_true rfl) d_N_array_51 hx1 (fun r9 q1 H locs hr1 hq0 hq1 hm9 hH => ?_)
    have h := hk9 r9 hr1
    have e9 : q1 x4 = q x4 := (hq1 x4 (rowB_ne hgx4).1 (rowB_ne hgx4).2)
    try rw [← e9] at hl
    try rw [← e9]
    exact w_N_array_54 hMr hKr C0 hr hnx  _ _ _ _ _ _ _ _ h hq0 hm9 hm2 hH (lv_sub hl [] rfl)
  · rw [if_neg c_4] at h
    refine lv_aload hx hb d_N_array_25 (lv_at hl 2 rfl) ?_
    refine lv_aload hx hb d_N_array_27 (lv_at hl 0 rfl) ?_
    obtain ⟨v_11, hc_12, h⟩ := bv_out h
    refine bn_cv (w := (q, g, v_11)) (as := [.ref (q y0)]) (rest := []) C0 hH (ci := 2) (rowB_k hgx4) (by decide) rfl (c_R_endAs hl0 hc_12) yy_R_endAs q_604 ⟨by simp only [bn_rm, dK]; omega, by simp only [bn_rm, dK]; omega⟩ rfl hl.1 rfl (Nat.le_of_ble_eq_true rfl) hcl9 d_N_array_29 (fun H locs hH => ?_)
    refine lv_goto (tgt := 57) hx hb d_N_array_32 (by decide) ?_
    exact w_N_array_57 hMr hKr C0 hr hnx   _ _ _ _ _ _ h hq hm0 hm hH (lv_sub hl [] rfl)
def f_N_array (Kr : (Nat → Nat) → mS → Int32 → Int32 → Int32 → Nat → Option (bO Unit)) (g : Nat → Nat) (v : mS) (x1 : Int32) (x2 : Int32) (x3 : Int32) (x4 : Nat) : Option (bO Unit) := mg g (gd (rowB x4) (gd (filB (9 + 4 * g 25)) (bi (f_F_firstPart g v ((9 + 4 * g 25)) x1) fun r_4 v_2 => bo (f_N_rowOf Kr g v_2 r_4 x2 x3 0) fun r9 g9 v9 => f_N_array_15 Kr x4 r9 g9 v9)))
theorem mn_N_array {Kr : (Nat → Nat) → mS → Int32 → Int32 → Int32 → Nat → Option (bO Unit)} {g : Nat → Nat} {v : mS}  {x1 : Int32} {x2 : Int32} {x3 : Int32} {x4 : Nat} {o : bO Unit} (h : f_N_array Kr g v x1 x2 x3 x4 = some o) : gL g ≤ gL o.2.1 := (mg_out h).1
set_option maxHeartbeats 4000000 in
set_option maxRecDepth 100000 in
theorem c_N_array {l : Launch} {Z : bZ} {rB : Nat} {Kr : (Nat → Nat) → mS → Int32 → Int32 → Int32 → Nat → Option (bO Unit)} (hMr : ∀ {g : Nat → Nat} {v : mS} {z1 : Int32} {z2 : Int32} {z3 : Int32} {z4 : Nat} {o : bO Unit}, Kr g v z1 z2 z3 z4 = some o → gL g ≤ gL o.2.1) (hKr : ∀ {q g : Nat → Nat} {v : mS} {z1 : Int32} {z2 : Int32} {z3 : Int32} {z4 : Nat} {o : bO Unit}, Kr g v z1 z2 z3 z4 = some o → bx_M l Z rB y_N_work b_N_work 6 none [.ref (q 25), .int z1, .int z2, .int z3, .ref (q z4)] q g v enV o) (hl0 : l.stackTraces = false) {q g : Nat → Nat} {v : mS}  {x1 : Int32} {x2 : Int32} {x3 : Int32} {x4 : Nat} {o : bO Unit} (h : f_N_array Kr g v x1 x2 x3 x4 = some o) : bx_M l Z (rB + 10) y_N_array b_N_array 6 none [.ref (q 25), .int x1, .int x2, .int x3, .ref (q x4)] q g v enV o := by
  refine bx_of hl0 (by decide +kernel) (Nat.le_of_ble_eq_true rfl) ?_
  intro p e s m args below meth c A ls C0 hr hnx hl hH
  have hx := C0.1
  have hb := C0.2.1
  have C0 : bn_C "FilterBench$Runner" b_N_array 6 Z A p l s m args meth c := C0
  have hl : lv_has ls 6 [(0, .ref (q 25)), (1, .int x1), (2, .int x2), (3, .int x3), (4, .ref (q x4))] := hl
  obtain ⟨hm, h⟩ := mg_out h
  have hm0 : gL g ≤ gL g := Nat.le_refl _
  have hq : qs q q := qs.rf
  have hcl9 := bx_room (h0 := (rB + 10)) (o := o) hm0 hm
  obtain ⟨hgx4, h⟩ := gd_out h
  refine lv_aload_n hx hb d_N_array_0 rfl (lv_at hl 0 rfl) ?_
  refine lv_aload_n hx hb d_N_array_1 rfl (lv_at hl 0 rfl) ?_
  obtain ⟨g_1, h⟩ := gd_out h
  refine bn_g_N_filter ⟨by decide, by decide⟩ C0 hH d_N_array_2 ?_
  refine lv_iload_n hx hb d_N_array_5 rfl (lv_at hl 1 rfl) ?_
  obtain ⟨r_4, v_2, hc_3, h⟩ := bi_out h
  refine bn_ci (r := r_4) (w := (q, g, v_2)) (as := [.int x1]) (rest := [.ref (q 25)]) C0 hH (ci := 1) (filB_k g_1) (by decide) rfl (c_F_firstPart hl0 hc_3) yy_F_firstPart q_570 ⟨by simp only [bn_rm, dK]; omega, by simp only [bn_rm, dK]; omega⟩ rfl hl.1 rfl (Nat.le_of_ble_eq_true rfl) hcl9 d_N_array_6 (fun H locs hH => ?_)
  refine lv_iload_n hx hb d_N_array_9 rfl (lv_at hl 2 rfl) ?_
  refine lv_iload_n hx hb d_N_array_10 rfl (lv_at hl 3 rfl) ?_
  refine lv_iconst (v := 0) hx hb d_N_array_11 (by decide) ?_
  obtain ⟨o1, hc, hm2, ht9, hx1, hk9⟩ := bo_out h
  have hm1 := mn_N_rowOf hc
  refine bx_cV (as := [.int r_4, .int x2, .int x3, .int 0]) (rest := []) C0 hnx hq hH hm0 hm1 hm2 ht9 (ci := 3) ⟨by decide, by decide⟩ (by decide) rfl (c_N_rowOf hMr hKr hl0 hc) yy_N_rowOf q_599 ⟨by first | omega | (simp only [dK]; omega), by first | omega | (simp only [dK]; omega)⟩ rfl hl.1 rfl (Nat.le_of_ble_eq_true rfl) d_N_array_12 hx1 (fun r9 q1 H locs hr1 hq0 hq1 hm9 hH => ?_)
  have h := hk9 r9 hr1
  have e9 : q1 25 = q 25 := (hq1 25 (by decide) (by decide))
  try rw [← e9] at hl
  try rw [← e9]
  have e9 : q1 x4 = q x4 := (hq1 x4 (rowB_ne hgx4).1 (rowB_ne hgx4).2)
  try rw [← e9] at hl
  try rw [← e9]
  exact w_N_array_15 hMr hKr C0 hr hnx  _ _ _ _ _ _ _ _ h hq0 hm9 hm2 hH (lv_sub hl [0, 4] rfl)
def f_N_attempt_48 (Kr : (Nat → Nat) → mS → Int32 → Int32 → Int32 → Nat → Option (bO Unit))   (g : Nat → Nat) (v : mS) : Option (bO Unit) := some (.inl (), g, v)
set_option maxHeartbeats 4000000 in
set_option maxRecDepth 100000 in
theorem w_N_attempt_48 {p : Program} {l : Launch} {e : Env} {s : State} {m : MethodId} {args : Array Value} {below : List Frame} {meth : Method} {c : Code} {Z : bZ} {A : Nat → Prop} {q0 g0 : Nat → Nat} {o : bO Unit} {rB : Nat} {Kr : (Nat → Nat) → mS → Int32 → Int32 → Int32 → Nat → Option (bO Unit)} (hMr : ∀ {g : Nat → Nat} {v : mS} {z1 : Int32} {z2 : Int32} {z3 : Int32} {z4 : Nat} {o : bO Unit}, Kr g v z1 z2 z3 z4 = some o → gL g ≤ gL o.2.1) (hKr : ∀ {q g : Nat → Nat} {v : mS} {z1 : Int32} {z2 : Int32} {z3 : Int32} {z4 : Nat} {o : bO Unit}, Kr g v z1 z2 z3 z4 = some o → bx_M l Z rB y_N_work b_N_work 6 none [.ref (q 25), .int z1, .int z2, .int z3, .ref (q z4)] q g v enV o) (C0 : bn_C "FilterBench$Runner" b_N_attempt 5 Z A p l s m args meth c) (hr : meth.sig.returnType = none) (hnx : ∀ x ∈ c.exceptionTable.toList, False) : ∀  (g : Nat → Nat) (v : mS) (q : Nat → Nat) (H : Heap) (locs : List Loc) (ls : Array Slot), f_N_attempt_48 Kr   g v = some o → qs q0 q → gL g0 ≤ gL g → gL g ≤ gL o.2.1 → bn_H Z A s (q, g, v) H locs → lv_has ls 5 [] → bx_W p l e s m args below meth c Z A q0 g0 enV o (rB + 7) g H locs (F0 m 48 ls []) := by
  have hx := C0.1
  have hb := C0.2.1
  have hl0 := C0.2.2.2.2.2.2.2.2.2
  intro  g v q H locs ls h hq hm0 hm hH hl
  unfold f_N_attempt_48 at h
  have hcl9 := bx_room (h0 := (rB + 7)) (o := o) hm0 hm
  exact bx_vret C0 hr hq hH hm0 d_N_attempt_48 h
def f_N_attempt_18 (Kr : (Nat → Nat) → mS → Int32 → Int32 → Int32 → Nat → Option (bO Unit))  (x1 : Int32) (x3 : Int32) (x4 : Nat) (g : Nat → Nat) (v : mS) : Option (bO Unit) := gd (rowB x4) (bi (f_R_isEnded g v x4) fun r_3 v_1 => if r_3 = 0 then (f_N_attempt_48 Kr g v_1) else (gd (filB (9 + 4 * g 25)) (bi (f_F_secondPart g v_1 ((9 + 4 * g 25)) x1) fun r_8 v_6 => bi (f_R_caught g v_6 x4) fun r_11 v_9 => bo (Kr g v_9 r_8 r_11 (x3 + 1) x4) fun r9 g9 v9 => f_N_attempt_48 Kr g9 v9)))
set_option maxHeartbeats 4000000 in
set_option maxRecDepth 100000 in
theorem w_N_attempt_18 {p : Program} {l : Launch} {e : Env} {s : State} {m : MethodId} {args : Array Value} {below : List Frame} {meth : Method} {c : Code} {Z : bZ} {A : Nat → Prop} {q0 g0 : Nat → Nat} {o : bO Unit} {rB : Nat} {Kr : (Nat → Nat) → mS → Int32 → Int32 → Int32 → Nat → Option (bO Unit)} (hMr : ∀ {g : Nat → Nat} {v : mS} {z1 : Int32} {z2 : Int32} {z3 : Int32} {z4 : Nat} {o : bO Unit}, Kr g v z1 z2 z3 z4 = some o → gL g ≤ gL o.2.1) (hKr : ∀ {q g : Nat → Nat} {v : mS} {z1 : Int32} {z2 : Int32} {z3 : Int32} {z4 : Nat} {o : bO Unit}, Kr g v z1 z2 z3 z4 = some o → bx_M l Z rB y_N_work b_N_work 6 none [.ref (q 25), .int z1, .int z2, .int z3, .ref (q z4)] q g v enV o) (C0 : bn_C "FilterBench$Runner" b_N_attempt 5 Z A p l s m args meth c) (hr : meth.sig.returnType = none) (hnx : ∀ x ∈ c.exceptionTable.toList, False) : ∀ (x1 : Int32) (x3 : Int32) (x4 : Nat) (g : Nat → Nat) (v : mS) (q : Nat → Nat) (H : Heap) (locs : List Loc) (ls : Array Slot), f_N_attempt_18 Kr  x1 x3 x4 g v = some o → qs q0 q → gL g0 ≤ gL g → gL g ≤ gL o.2.1 → bn_H Z A s (q, g, v) H locs → lv_has ls 5 [(0, .ref (q 25)), (1, .int x1), (3, .int x3), (4, .ref (q x4))] → bx_W p l e s m args below meth c Z A q0 g0 enV o (rB + 7) g H locs (F0 m 18 ls []) := by
  have hx := C0.1
  have hb := C0.2.1
  have hl0 := C0.2.2.2.2.2.2.2.2.2
  intro x1 x3 x4 g v q H locs ls h hq hm0 hm hH hl
  unfold f_N_attempt_18 at h
  have hcl9 := bx_room (h0 := (rB + 7)) (o := o) hm0 hm
  obtain ⟨hgx4, h⟩ := gd_out h
  refine lv_aload hx hb d_N_attempt_18 (lv_at hl 3 rfl) ?_
  obtain ⟨r_3, v_1, hc_2, h⟩ := bi_out h
  refine bn_ci (r := r_3) (w := (q, g, v_1)) (as := []) (rest := []) C0 hH (ci := 2) (rowB_k hgx4) (by decide) rfl (c_R_isEnded hl0 hc_2) yy_R_isEnded q_575 ⟨by simp only [bn_rm, dK]; omega, by simp only [bn_rm, dK]; omega⟩ rfl hl.1 rfl (Nat.le_of_ble_eq_true rfl) hcl9 d_N_attempt_20 (fun H locs hH => ?_)
  refine lv_if_eq (tgt := 48) hx hb d_N_attempt_23 (by decide) (fun c_4 => ?_) (fun c_4 => ?_)
  · rw [if_pos c_4] at h
    exact w_N_attempt_48 hMr hKr C0 hr hnx   _ _ _ _ _ _ h hq hm0 hm hH (lv_sub hl [] rfl)
  · rw [if_neg c_4] at h
    refine lv_aload_n hx hb d_N_attempt_26 rfl (lv_at hl 0 rfl) ?_
    refine lv_aload_n hx hb d_N_attempt_27 rfl (lv_at hl 0 rfl) ?_
    obtain ⟨g_5, h⟩ := gd_out h
    refine bn_g_N_filter ⟨by decide, by decide⟩ C0 hH d_N_attempt_28 ?_
    refine lv_iload_n hx hb d_N_attempt_31 rfl (lv_at hl 1 rfl) ?_
    obtain ⟨r_8, v_6, hc_7, h⟩ := bi_out h
    refine bn_ci (r := r_8) (w := (q, g, v_6)) (as := [.int x1]) (rest := [.ref (q 25)]) C0 hH (ci := 1) (filB_k g_5) (by decide) rfl (c_F_secondPart hl0 hc_7) yy_F_secondPart q_579 ⟨by simp only [bn_rm, dK]; omega, by simp only [bn_rm, dK]; omega⟩ rfl hl.1 rfl (Nat.le_of_ble_eq_true rfl) hcl9 d_N_attempt_32 (fun H locs hH => ?_)
    refine lv_aload hx hb d_N_attempt_35 (lv_at hl 3 rfl) ?_
    obtain ⟨r_11, v_9, hc_10, h⟩ := bi_out h
    refine bn_ci (r := r_11) (w := (q, g, v_9)) (as := []) (rest := [.int r_8, .ref (q 25)]) C0 hH (ci := 2) (rowB_k hgx4) (by decide) rfl (c_R_caught hl0 hc_10) yy_R_caught q_716 ⟨by simp only [bn_rm, dK]; omega, by simp only [bn_rm, dK]; omega⟩ rfl hl.1 rfl (Nat.le_of_ble_eq_true rfl) hcl9 d_N_attempt_37 (fun H locs hH => ?_)
    refine lv_iload_n hx hb d_N_attempt_40 rfl (lv_at hl 2 rfl) ?_
    refine lv_iconst (v := 1) hx hb d_N_attempt_41 (by decide) ?_
    refine lv_iadd hx hb d_N_attempt_42 ?_
    refine lv_aload hx hb d_N_attempt_43 (lv_at hl 3 rfl) ?_
    obtain ⟨o1, hc, hm2, ht9, hx1, hk9⟩ := bo_out h
    have hm1 := hMr hc
    refine bx_cV (as := [.int r_8, .int r_11, .int (x3 + 1), .ref (q x4)]) (rest := []) C0 hnx hq hH hm0 hm1 hm2 ht9 (ci := 3) ⟨by decide, by decide⟩ (by decide) rfl (hKr hc) yy_N_work q_574 ⟨by first | omega | (simp only [dK]; omega), by first | omega | (simp only [dK]; omega)⟩ rfl hl.1 rfl (Nat.le_of_ble_eq_true rfl) d_N_attempt_45 hx1 (fun r9 q1 H locs hr1 hq0 hq1 hm9 hH => ?_)
    have h := hk9 r9 hr1
    exact w_N_attempt_48 hMr hKr C0 hr hnx   _ _ _ _ _ _ h hq0 hm9 hm2 hH (lv_sub hl [] rfl)
def f_N_attempt (Kr : (Nat → Nat) → mS → Int32 → Int32 → Int32 → Nat → Option (bO Unit)) (g : Nat → Nat) (v : mS) (x1 : Int32) (x2 : Int32) (x3 : Int32) (x4 : Nat) : Option (bO Unit) := mg g (gd (rowB x4) (gd (filB (9 + 4 * g 25)) (bi (f_F_firstPart g v ((9 + 4 * g 25)) x1) fun r_4 v_2 => bo (Kr g v_2 r_4 x2 (x3 + 1) x4) fun r9 g9 v9 => f_N_attempt_18 Kr x1 x3 x4 g9 v9)))
theorem mn_N_attempt {Kr : (Nat → Nat) → mS → Int32 → Int32 → Int32 → Nat → Option (bO Unit)} {g : Nat → Nat} {v : mS}  {x1 : Int32} {x2 : Int32} {x3 : Int32} {x4 : Nat} {o : bO Unit} (h : f_N_attempt Kr g v x1 x2 x3 x4 = some o) : gL g ≤ gL o.2.1 := (mg_out h).1
set_option maxHeartbeats 4000000 in
set_option maxRecDepth 100000 in
theorem c_N_attempt {l : Launch} {Z : bZ} {rB : Nat} {Kr : (Nat → Nat) → mS → Int32 → Int32 → Int32 → Nat → Option (bO Unit)} (hMr : ∀ {g : Nat → Nat} {v : mS} {z1 : Int32} {z2 : Int32} {z3 : Int32} {z4 : Nat} {o : bO Unit}, Kr g v z1 z2 z3 z4 = some o → gL g ≤ gL o.2.1) (hKr : ∀ {q g : Nat → Nat} {v : mS} {z1 : Int32} {z2 : Int32} {z3 : Int32} {z4 : Nat} {o : bO Unit}, Kr g v z1 z2 z3 z4 = some o → bx_M l Z rB y_N_work b_N_work 6 none [.ref (q 25), .int z1, .int z2, .int z3, .ref (q z4)] q g v enV o) (hl0 : l.stackTraces = false) {q g : Nat → Nat} {v : mS}  {x1 : Int32} {x2 : Int32} {x3 : Int32} {x4 : Nat} {o : bO Unit} (h : f_N_attempt Kr g v x1 x2 x3 x4 = some o) : bx_M l Z (rB + 7) y_N_attempt b_N_attempt 5 none [.ref (q 25), .int x1, .int x2, .int x3, .ref (q x4)] q g v enV o := by
  refine bx_of hl0 (by decide +kernel) (Nat.le_of_ble_eq_true rfl) ?_
  intro p e s m args below meth c A ls C0 hr hnx hl hH
  have hx := C0.1
  have hb := C0.2.1
  have C0 : bn_C "FilterBench$Runner" b_N_attempt 5 Z A p l s m args meth c := C0
  have hl : lv_has ls 5 [(0, .ref (q 25)), (1, .int x1), (2, .int x2), (3, .int x3), (4, .ref (q x4))] := hl
  obtain ⟨hm, h⟩ := mg_out h
  have hm0 : gL g ≤ gL g := Nat.le_refl _
  have hq : qs q q := qs.rf
  have hcl9 := bx_room (h0 := (rB + 7)) (o := o) hm0 hm
  obtain ⟨hgx4, h⟩ := gd_out h
  refine lv_aload_n hx hb d_N_attempt_0 rfl (lv_at hl 0 rfl) ?_
  refine lv_aload_n hx hb d_N_attempt_1 rfl (lv_at hl 0 rfl) ?_
  obtain ⟨g_1, h⟩ := gd_out h
  refine bn_g_N_filter ⟨by decide, by decide⟩ C0 hH d_N_attempt_2 ?_
  refine lv_iload_n hx hb d_N_attempt_5 rfl (lv_at hl 1 rfl) ?_
  obtain ⟨r_4, v_2, hc_3, h⟩ := bi_out h
  refine bn_ci (r := r_4) (w := (q, g, v_2)) (as := [.int x1]) (rest := [.ref (q 25)]) C0 hH (ci := 1) (filB_k g_1) (by decide) rfl (c_F_firstPart hl0 hc_3) yy_F_firstPart q_570 ⟨by simp only [bn_rm, dK]; omega, by simp only [bn_rm, dK]; omega⟩ rfl hl.1 rfl (Nat.le_of_ble_eq_true rfl) hcl9 d_N_attempt_6 (fun H locs hH => ?_)
  refine lv_iload_n hx hb d_N_attempt_9 rfl (lv_at hl 2 rfl) ?_
  refine lv_iload_n hx hb d_N_attempt_10 rfl (lv_at hl 3 rfl) ?_
  refine lv_iconst (v := 1) hx hb d_N_attempt_11 (by decide) ?_
  refine lv_iadd hx hb d_N_attempt_12 ?_
  refine lv_aload hx hb d_N_attempt_13 (lv_at hl 4 rfl) ?_
  obtain ⟨o1, hc, hm2, ht9, hx1, hk9⟩ := bo_out h
  have hm1 := hMr hc
  refine bx_cV (as := [.int r_4, .int x2, .int (x3 + 1), .ref (q x4)]) (rest := []) C0 hnx hq hH hm0 hm1 hm2 ht9 (ci := 3) ⟨by decide, by decide⟩ (by decide) rfl (hKr hc) yy_N_work q_574 ⟨by first | omega | (simp only [dK]; omega), by first | omega | (simp only [dK]; omega)⟩ rfl hl.1 rfl (Nat.le_of_ble_eq_true rfl) d_N_attempt_15 hx1 (fun r9 q1 H locs hr1 hq0 hq1 hm9 hH => ?_)
  have h := hk9 r9 hr1
  have e9 : q1 25 = q 25 := (hq1 25 (by decide) (by decide))
  try rw [← e9] at hl
  try rw [← e9]
  have e9 : q1 x4 = q x4 := (hq1 x4 (rowB_ne hgx4).1 (rowB_ne hgx4).2)
  try rw [← e9] at hl
  try rw [← e9]
  exact w_N_attempt_18 hMr hKr C0 hr hnx  _ _ _ _ _ _ _ _ _ h hq0 hm9 hm2 hH (lv_sub hl [0, 1, 3, 4] rfl)
def f_N_alternative_65 (Kr : (Nat → Nat) → mS → Int32 → Int32 → Int32 → Nat → Option (bO Unit)) (K23 : Int32 → Int32 → Int32 → Nat → Nat → Int32 → Int32 → (Nat → Nat) → mS → Option (bO Unit)) (x1 : Int32) (x2 : Int32) (x3 : Int32) (x4 : Nat) (x5 : Nat) (x6 : Int32) (x7 : Int32) (g : Nat → Nat) (v : mS) : Option (bO Unit) := gd (rowB x4) (gd (rowB x5) (nm (x7 + 1) fun x7_1 => K23 x1 x2 x3 x4 x5 x6 x7_1 g v))
set_option maxHeartbeats 4000000 in
set_option maxRecDepth 100000 in
theorem w_N_alternative_65 {p : Program} {l : Launch} {e : Env} {s : State} {m : MethodId} {args : Array Value} {below : List Frame} {meth : Method} {c : Code} {Z : bZ} {A : Nat → Prop} {q0 g0 : Nat → Nat} {o : bO Unit} {rB : Nat} {Kr : (Nat → Nat) → mS → Int32 → Int32 → Int32 → Nat → Option (bO Unit)} (hMr : ∀ {g : Nat → Nat} {v : mS} {z1 : Int32} {z2 : Int32} {z3 : Int32} {z4 : Nat} {o : bO Unit}, Kr g v z1 z2 z3 z4 = some o → gL g ≤ gL o.2.1) (hKr : ∀ {q g : Nat → Nat} {v : mS} {z1 : Int32} {z2 : Int32} {z3 : Int32} {z4 : Nat} {o : bO Unit}, Kr g v z1 z2 z3 z4 = some o → bx_M l Z rB y_N_work b_N_work 6 none [.ref (q 25), .int z1, .int z2, .int z3, .ref (q z4)] q g v enV o) (C0 : bn_C "FilterBench$Runner" b_N_alternative 8 Z A p l s m args meth c) (hr : meth.sig.returnType = none) (hnx : ∀ x ∈ c.exceptionTable.toList, False) {K23 : Int32 → Int32 → Int32 → Nat → Nat → Int32 → Int32 → (Nat → Nat) → mS → Option (bO Unit)} (hK23 : ∀ (x1 : Int32) (x2 : Int32) (x3 : Int32) (x4 : Nat) (x5 : Nat) (x6 : Int32) (x7 : Int32) (g : Nat → Nat) (v : mS) (q : Nat → Nat) (H : Heap) (locs : List Loc) (ls : Array Slot), K23 x1 x2 x3 x4 x5 x6 x7 g v = some o → qs q0 q → gL g0 ≤ gL g → gL g ≤ gL o.2.1 → bn_H Z A s (q, g, v) H locs → lv_has ls 8 [(0, .ref (q 25)), (1, .int x1), (2, .int x2), (3, .int x3), (4, .ref (q x4)), (5, .ref (q x5)), (6, .int x6), (7, .int x7)] → bx_W p l e s m args below meth c Z A q0 g0 enV o (rB + 8) g H locs (F0 m 23 ls [])) : ∀ (x1 : Int32) (x2 : Int32) (x3 : Int32) (x4 : Nat) (x5 : Nat) (x6 : Int32) (x7 : Int32) (g : Nat → Nat) (v : mS) (q : Nat → Nat) (H : Heap) (locs : List Loc) (ls : Array Slot), f_N_alternative_65 Kr K23 x1 x2 x3 x4 x5 x6 x7 g v = some o → qs q0 q → gL g0 ≤ gL g → gL g ≤ gL o.2.1 → bn_H Z A s (q, g, v) H locs → lv_has ls 8 [(0, .ref (q 25)), (1, .int x1), (2, .int x2), (3, .int x3), (4, .ref (q x4)), (5, .ref (q x5)), (6, .int x6), (7, .int x7)] → bx_W p l e s m args below meth c Z A q0 g0 enV o (rB + 8) g H locs (F0 m 65 ls []) := by
  have hx := C0.1
  have hb := C0.2.1
  have hl0 := C0.2.2.2.2.2.2.2.2.2
  intro x1 x2 x3 x4 x5 x6 x7 g v q H locs ls h hq hm0 hm hH hl
  unfold f_N_alternative_65 at h
  have hcl9 := bx_room (h0 := (rB + 8)) (o := o) hm0 hm
  obtain ⟨hgx4, h⟩ := gd_out h
  obtain ⟨hgx5, h⟩ := gd_out h
  obtain ⟨x7_1, hx7_1, h⟩ := nm_out h
  refine lv_iinc (v := x7_1) (lv' := [(7, .int x7_1), (0, .ref (q 25)), (1, .int x1), (2, .int x2), (3, .int x3), (4, .ref (q x4)), (5, .ref (q x5)), (6, .int x6)]) hx hb d_N_alternative_65 hl (k := 7) rfl (by rw [hx7_1]; rfl) (by decide) rfl (fun ls hl => ?_)
  refine lv_goto (tgt := 23) hx hb d_N_alternative_68 (by decide) ?_
  exact hK23 _ _ _ _ _ _ _ _ _ _ _ _ _ h hq hm0 hm hH (lv_sub hl [1, 2, 3, 4, 5, 6, 7, 0] rfl)
def f_N_alternative_62 (Kr : (Nat → Nat) → mS → Int32 → Int32 → Int32 → Nat → Option (bO Unit)) (K23 : Int32 → Int32 → Int32 → Nat → Nat → Int32 → Int32 → (Nat → Nat) → mS → Option (bO Unit)) (x1 : Int32) (x2 : Int32) (x3 : Int32) (x4 : Nat) (x5 : Nat) (x7 : Int32) (g : Nat → Nat) (v : mS) : Option (bO Unit) := gd (rowB x4) (gd (rowB x5) (f_N_alternative_65 Kr K23 x1 x2 x3 x4 x5 0 x7 g v))
set_option maxHeartbeats 4000000 in
set_option maxRecDepth 100000 in
theorem w_N_alternative_62 {p : Program} {l : Launch} {e : Env} {s : State} {m : MethodId} {args : Array Value} {below : List Frame} {meth : Method} {c : Code} {Z : bZ} {A : Nat → Prop} {q0 g0 : Nat → Nat} {o : bO Unit} {rB : Nat} {Kr : (Nat → Nat) → mS → Int32 → Int32 → Int32 → Nat → Option (bO Unit)} (hMr : ∀ {g : Nat → Nat} {v : mS} {z1 : Int32} {z2 : Int32} {z3 : Int32} {z4 : Nat} {o : bO Unit}, Kr g v z1 z2 z3 z4 = some o → gL g ≤ gL o.2.1) (hKr : ∀ {q g : Nat → Nat} {v : mS} {z1 : Int32} {z2 : Int32} {z3 : Int32} {z4 : Nat} {o : bO Unit}, Kr g v z1 z2 z3 z4 = some o → bx_M l Z rB y_N_work b_N_work 6 none [.ref (q 25), .int z1, .int z2, .int z3, .ref (q z4)] q g v enV o) (C0 : bn_C "FilterBench$Runner" b_N_alternative 8 Z A p l s m args meth c) (hr : meth.sig.returnType = none) (hnx : ∀ x ∈ c.exceptionTable.toList, False) {K23 : Int32 → Int32 → Int32 → Nat → Nat → Int32 → Int32 → (Nat → Nat) → mS → Option (bO Unit)} (hK23 : ∀ (x1 : Int32) (x2 : Int32) (x3 : Int32) (x4 : Nat) (x5 : Nat) (x6 : Int32) (x7 : Int32) (g : Nat → Nat) (v : mS) (q : Nat → Nat) (H : Heap) (locs : List Loc) (ls : Array Slot), K23 x1 x2 x3 x4 x5 x6 x7 g v = some o → qs q0 q → gL g0 ≤ gL g → gL g ≤ gL o.2.1 → bn_H Z A s (q, g, v) H locs → lv_has ls 8 [(0, .ref (q 25)), (1, .int x1), (2, .int x2), (3, .int x3), (4, .ref (q x4)), (5, .ref (q x5)), (6, .int x6), (7, .int x7)] → bx_W p l e s m args below meth c Z A q0 g0 enV o (rB + 8) g H locs (F0 m 23 ls [])) : ∀ (x1 : Int32) (x2 : Int32) (x3 : Int32) (x4 : Nat) (x5 : Nat) (x7 : Int32) (g : Nat → Nat) (v : mS) (q : Nat → Nat) (H : Heap) (locs : List Loc) (ls : Array Slot), f_N_alternative_62 Kr K23 x1 x2 x3 x4 x5 x7 g v = some o → qs q0 q → gL g0 ≤ gL g → gL g ≤ gL o.2.1 → bn_H Z A s (q, g, v) H locs → lv_has ls 8 [(0, .ref (q 25)), (1, .int x1), (2, .int x2), (3, .int x3), (4, .ref (q x4)), (5, .ref (q x5)), (7, .int x7)] → bx_W p l e s m args below meth c Z A q0 g0 enV o (rB + 8) g H locs (F0 m 62 ls []) := by
  have hx := C0.1
  have hb := C0.2.1
  have hl0 := C0.2.2.2.2.2.2.2.2.2
  intro x1 x2 x3 x4 x5 x7 g v q H locs ls h hq hm0 hm hH hl
  unfold f_N_alternative_62 at h
  have hcl9 := bx_room (h0 := (rB + 8)) (o := o) hm0 hm
  obtain ⟨hgx4, h⟩ := gd_out h
  obtain ⟨hgx5, h⟩ := gd_out h
  refine lv_iconst (v := 0) hx hb d_N_alternative_62 (by decide) ?_
  refine lv_istore (lv' := [(6, .int 0), (0, .ref (q 25)), (1, .int x1), (2, .int x2), (3, .int x3), (4, .ref (q x4)), (5, .ref (q x5)), (7, .int x7)]) hx hb d_N_alternative_63 hl (by decide) rfl (fun ls hl => ?_)
  exact w_N_alternative_65 hMr hKr C0 hr hnx hK23 _ _ _ _ _ _ _ _ _ _ _ _ _ h hq hm0 hm hH (lv_sub hl [1, 2, 3, 4, 5, 6, 0, 7] rfl)
def f_N_alternative_94 (Kr : (Nat → Nat) → mS → Int32 → Int32 → Int32 → Nat → Option (bO Unit))   (g : Nat → Nat) (v : mS) : Option (bO Unit) := some (.inl (), g, v)
set_option maxHeartbeats 4000000 in
set_option maxRecDepth 100000 in
theorem w_N_alternative_94 {p : Program} {l : Launch} {e : Env} {s : State} {m : MethodId} {args : Array Value} {below : List Frame} {meth : Method} {c : Code} {Z : bZ} {A : Nat → Prop} {q0 g0 : Nat → Nat} {o : bO Unit} {rB : Nat} {Kr : (Nat → Nat) → mS → Int32 → Int32 → Int32 → Nat → Option (bO Unit)} (hMr : ∀ {g : Nat → Nat} {v : mS} {z1 : Int32} {z2 : Int32} {z3 : Int32} {z4 : Nat} {o : bO Unit}, Kr g v z1 z2 z3 z4 = some o → gL g ≤ gL o.2.1) (hKr : ∀ {q g : Nat → Nat} {v : mS} {z1 : Int32} {z2 : Int32} {z3 : Int32} {z4 : Nat} {o : bO Unit}, Kr g v z1 z2 z3 z4 = some o → bx_M l Z rB y_N_work b_N_work 6 none [.ref (q 25), .int z1, .int z2, .int z3, .ref (q z4)] q g v enV o) (C0 : bn_C "FilterBench$Runner" b_N_alternative 8 Z A p l s m args meth c) (hr : meth.sig.returnType = none) (hnx : ∀ x ∈ c.exceptionTable.toList, False) : ∀  (g : Nat → Nat) (v : mS) (q : Nat → Nat) (H : Heap) (locs : List Loc) (ls : Array Slot), f_N_alternative_94 Kr   g v = some o → qs q0 q → gL g0 ≤ gL g → gL g ≤ gL o.2.1 → bn_H Z A s (q, g, v) H locs → lv_has ls 8 [] → bx_W p l e s m args below meth c Z A q0 g0 enV o (rB + 8) g H locs (F0 m 94 ls []) := by
  have hx := C0.1
  have hb := C0.2.1
  have hl0 := C0.2.2.2.2.2.2.2.2.2
  intro  g v q H locs ls h hq hm0 hm hH hl
  unfold f_N_alternative_94 at h
  have hcl9 := bx_room (h0 := (rB + 8)) (o := o) hm0 hm
  exact bx_vret C0 hr hq hH hm0 d_N_alternative_94 h
def f_N_alternative_23 (Kr : (Nat → Nat) → mS → Int32 → Int32 → Int32 → Nat → Option (bO Unit))  : Nat → Int32 → Int32 → Int32 → Nat → Nat → Int32 → Int32 → (Nat → Nat) → mS → Option (bO Unit)
  | 0, _, _, _, _, _, _, _, _, _ => none
  | n + 1, x1, x2, x3, x4, x5, x6, x7, g, v => gd (rowB x4) (gd (rowB x5) (bi (f_R_size g v x5) fun r_3 v_1 => if r_3 ≤ x7 then (if x6 = 0 then (f_N_alternative_94 Kr g v_1) else (gd (filB (9 + 4 * g 25)) (bi (f_F_secondPart g v_1 ((9 + 4 * g 25)) x1) fun r_9 v_7 => bo (Kr g v_7 r_9 x2 (x3 + 1) x4) fun r9 g9 v9 => f_N_alternative_94 Kr g9 v9))) else (bi (f_R_at g v_1 x5 x7) fun r_12 v_10 => bi (f_V_isGood g v_10 r_12) fun r_15 v_13 => if r_15 = 0 then (f_N_alternative_65 Kr (f_N_alternative_23 Kr n) x1 x2 x3 x4 x5 x6 x7 g v_13) else (bi (f_R_at g v_13 x5 x7) fun r_19 v_17 => bo (f_R_put g v_17 x4 r_19) fun r9 g9 v9 => f_N_alternative_62 Kr (f_N_alternative_23 Kr n) x1 x2 x3 x4 x5 x7 g9 v9))))
set_option maxHeartbeats 4000000 in
set_option maxRecDepth 100000 in
theorem w_N_alternative_23 {p : Program} {l : Launch} {e : Env} {s : State} {m : MethodId} {args : Array Value} {below : List Frame} {meth : Method} {c : Code} {Z : bZ} {A : Nat → Prop} {q0 g0 : Nat → Nat} {o : bO Unit} {rB : Nat} {Kr : (Nat → Nat) → mS → Int32 → Int32 → Int32 → Nat → Option (bO Unit)} (hMr : ∀ {g : Nat → Nat} {v : mS} {z1 : Int32} {z2 : Int32} {z3 : Int32} {z4 : Nat} {o : bO Unit}, Kr g v z1 z2 z3 z4 = some o → gL g ≤ gL o.2.1) (hKr : ∀ {q g : Nat → Nat} {v : mS} {z1 : Int32} {z2 : Int32} {z3 : Int32} {z4 : Nat} {o : bO Unit}, Kr g v z1 z2 z3 z4 = some o → bx_M l Z rB y_N_work b_N_work 6 none [.ref (q 25), .int z1, .int z2, .int z3, .ref (q z4)] q g v enV o) (C0 : bn_C "FilterBench$Runner" b_N_alternative 8 Z A p l s m args meth c) (hr : meth.sig.returnType = none) (hnx : ∀ x ∈ c.exceptionTable.toList, False) : ∀ (n : Nat) (x1 : Int32) (x2 : Int32) (x3 : Int32) (x4 : Nat) (x5 : Nat) (x6 : Int32) (x7 : Int32) (g : Nat → Nat) (v : mS) (q : Nat → Nat) (H : Heap) (locs : List Loc) (ls : Array Slot), f_N_alternative_23 Kr  n x1 x2 x3 x4 x5 x6 x7 g v = some o → qs q0 q → gL g0 ≤ gL g → gL g ≤ gL o.2.1 → bn_H Z A s (q, g, v) H locs → lv_has ls 8 [(0, .ref (q 25)), (1, .int x1), (2, .int x2), (3, .int x3), (4, .ref (q x4)), (5, .ref (q x5)), (6, .int x6), (7, .int x7)] → bx_W p l e s m args below meth c Z A q0 g0 enV o (rB + 8) g H locs (F0 m 23 ls []) := by
  have hx := C0.1
  have hb := C0.2.1
  have hl0 := C0.2.2.2.2.2.2.2.2.2
  intro n
  induction n with
  | zero =>
    intro x1 x2 x3 x4 x5 x6 x7 g v q H locs ls h hq hm0 hm hH hl
    cases h
  | succ n ih =>
    intro x1 x2 x3 x4 x5 x6 x7 g v q H locs ls h hq hm0 hm hH hl
    rw [f_N_alternative_23] at h
    have hcl9 := bx_room (h0 := (rB + 8)) (o := o) hm0 hm
    obtain ⟨hgx4, h⟩ := gd_out h
    obtain ⟨hgx5, h⟩ := gd_out h
    refine lv_iload hx hb d_N_alternative_23 (lv_at hl 7 rfl) ?_
    refine lv_aload hx hb d_N_alternative_25 (lv_at hl 5 rfl) ?_
    obtain ⟨r_3, v_1, hc_2, h⟩ := bi_out h
    refine bn_ci (r := r_3) (w := (q, g, v_1)) (as := []) (rest := [.int x7]) C0 hH (ci := 2) (rowB_k hgx5) (by decide) rfl (c_R_size hl0 hc_2) yy_R_size q_613 ⟨by simp only [bn_rm, dK]; omega, by simp only [bn_rm, dK]; omega⟩ rfl hl.1 rfl (Nat.le_of_ble_eq_true rfl) hcl9 d_N_alternative_27 (fun H locs hH => ?_)
    refine lv_icmp_ge (tgt := 71) hx hb d_N_alternative_30 (by decide) (fun c_4 => ?_) (fun c_4 => ?_)
    · rw [if_pos c_4] at h
      refine lv_iload hx hb d_N_alternative_71 (lv_at hl 6 rfl) ?_
      refine lv_if_eq (tgt := 94) hx hb d_N_alternative_73 (by decide) (fun c_5 => ?_) (fun c_5 => ?_)
      · rw [if_pos c_5] at h
        exact w_N_alternative_94 hMr hKr C0 hr hnx   _ _ _ _ _ _ h hq hm0 hm hH (lv_sub hl [] rfl)
      · rw [if_neg c_5] at h
        refine lv_aload_n hx hb d_N_alternative_76 rfl (lv_at hl 0 rfl) ?_
        refine lv_aload_n hx hb d_N_alternative_77 rfl (lv_at hl 0 rfl) ?_
        obtain ⟨g_6, h⟩ := gd_out h
        refine bn_g_N_filter ⟨by decide, by decide⟩ C0 hH d_N_alternative_78 ?_
        refine lv_iload_n hx hb d_N_alternative_81 rfl (lv_at hl 1 rfl) ?_
        obtain ⟨r_9, v_7, hc_8, h⟩ := bi_out h
        refine bn_ci (r := r_9) (w := (q, g, v_7)) (as := [.int x1]) (rest := [.ref (q 25)]) C0 hH (ci := 1) (filB_k g_6) (by decide) rfl (c_F_secondPart hl0 hc_8) yy_F_secondPart q_579 ⟨by simp only [bn_rm, dK]; omega, by simp only [bn_rm, dK]; omega⟩ rfl hl.1 rfl (Nat.le_of_ble_eq_true rfl) hcl9 d_N_alternative_82 (fun H locs hH => ?_)
        refine lv_iload_n hx hb d_N_alternative_85 rfl (lv_at hl 2 rfl) ?_
        refine lv_iload_n hx hb d_N_alternative_86 rfl (lv_at hl 3 rfl) ?_
        refine lv_iconst (v := 1) hx hb d_N_alternative_87 (by decide) ?_
        refine lv_iadd hx hb d_N_alternative_88 ?_
        refine lv_aload hx hb d_N_alternative_89 (lv_at hl 4 rfl) ?_
        obtain ⟨o1, hc, hm2, ht9, hx1, hk9⟩ := bo_out h
        have hm1 := hMr hc
        refine bx_cV (as := [.int r_9, .int x2, .int (x3 + 1), .ref (q x4)]) (rest := []) C0 hnx hq hH hm0 hm1 hm2 ht9 (ci := 3) ⟨by decide, by decide⟩ (by decide) rfl (hKr hc) yy_N_work q_574 ⟨by first | omega | (simp only [dK]; omega), by first | omega | (simp only [dK]; omega)⟩ rfl hl.1 rfl (Nat.le_of_ble_eq_true rfl) d_N_alternative_91 hx1 (fun r9 q1 H locs hr1 hq0 hq1 hm9 hH => ?_)
        have h := hk9 r9 hr1
        exact w_N_alternative_94 hMr hKr C0 hr hnx   _ _ _ _ _ _ h hq0 hm9 hm2 hH (lv_sub hl [] rfl)
    · rw [if_neg c_4] at h
      refine lv_aload_n hx hb d_N_alternative_33 rfl (lv_at hl 0 rfl) ?_
      refine bn_g_N_values ⟨by decide, by decide⟩ C0 hH d_N_alternative_34 ?_
      refine lv_aload hx hb d_N_alternative_37 (lv_at hl 5 rfl) ?_
      refine lv_iload hx hb d_N_alternative_39 (lv_at hl 7 rfl) ?_
      obtain ⟨r_12, v_10, hc_11, h⟩ := bi_out h
      refine bn_ci (r := r_12) (w := (q, g, v_10)) (as := [.int x7]) (rest := [.ref (q 1)]) C0 hH (ci := 2) (rowB_k hgx5) (by decide) rfl (c_R_at hl0 hc_11) yy_R_at q_637 ⟨by simp only [bn_rm, dK]; omega, by simp only [bn_rm, dK]; omega⟩ rfl hl.1 rfl (Nat.le_of_ble_eq_true rfl) hcl9 d_N_alternative_41 (fun H locs hH => ?_)
      obtain ⟨r_15, v_13, hc_14, h⟩ := bi_out h
      refine bn_ci (r := r_15) (w := (q, g, v_13)) (as := [.int r_12]) (rest := []) C0 hH (ci := 4) ⟨by decide, by decide⟩ (by decide) rfl (c_V_isGood hl0 hc_14) yy_V_isGood q_708 ⟨by simp only [bn_rm, dK]; omega, by simp only [bn_rm, dK]; omega⟩ rfl hl.1 rfl (Nat.le_of_ble_eq_true rfl) hcl9 d_N_alternative_44 (fun H locs hH => ?_)
      refine lv_if_eq (tgt := 65) hx hb d_N_alternative_47 (by decide) (fun c_16 => ?_) (fun c_16 => ?_)
      · rw [if_pos c_16] at h
        exact w_N_alternative_65 hMr hKr C0 hr hnx ih _ _ _ _ _ _ _ _ _ _ _ _ _ h hq hm0 hm hH (lv_sub hl [0, 1, 2, 3, 4, 5, 6, 7] rfl)
      · rw [if_neg c_16] at h
        refine lv_aload hx hb d_N_alternative_50 (lv_at hl 4 rfl) ?_
        refine lv_aload hx hb d_N_alternative_52 (lv_at hl 5 rfl) ?_
        refine lv_iload hx hb d_N_alternative_54 (lv_at hl 7 rfl) ?_
        obtain ⟨r_19, v_17, hc_18, h⟩ := bi_out h
        refine bn_ci (r := r_19) (w := (q, g, v_17)) (as := [.int x7]) (rest := [.ref (q x4)]) C0 hH (ci := 2) (rowB_k hgx5) (by decide) rfl (c_R_at hl0 hc_18) yy_R_at q_637 ⟨by simp only [bn_rm, dK]; omega, by simp only [bn_rm, dK]; omega⟩ rfl hl.1 rfl (Nat.le_of_ble_eq_true rfl) hcl9 d_N_alternative_56 (fun H locs hH => ?_)
        obtain ⟨o1, hc, hm2, ht9, hx1, hk9⟩ := bo_out h
        have hm1 := mn_R_put hc
        refine bx_cV (as := [.int r_19]) (rest := []) C0 hnx hq hH hm0 hm1 hm2 ht9 (ci := 2) (rowB_k hgx4) (by decide) rfl (c_R_put hl0 hc) yy_R_put q_508 ⟨by first | omega | (simp only [dK]; omega), by first | omega | (simp only [dK]; omega)⟩ rfl hl.1 rfl (Nat.le_of_ble_eq_true rfl) d_N_alternative_59 hx1 (fun r9 q1 H locs hr1 hq0 hq1 hm9 hH => ?_)
        have h := hk9 r9 hr1
        have e9 : q1 25 = q 25 := (hq1 25 (by decide) (by decide))
        try rw [← e9] at hl
        try rw [← e9]
        have e9 : q1 x4 = q x4 := (hq1 x4 (rowB_ne hgx4).1 (rowB_ne hgx4).2)
        try rw [← e9] at hl
        try rw [← e9]
        have e9 : q1 x5 = q x5 := (hq1 x5 (rowB_ne hgx5).1 (rowB_ne hgx5).2)
        try rw [← e9] at hl
        try rw [← e9]
        exact w_N_alternative_62 hMr hKr C0 hr hnx ih _ _ _ _ _ _ _ _ _ _ _ _ h hq0 hm9 hm2 hH (lv_sub hl [0, 1, 2, 3, 4, 5, 7] rfl)
def f_N_alternative_15 (Kr : (Nat → Nat) → mS → Int32 → Int32 → Int32 → Nat → Option (bO Unit))  (x1 : Int32) (x2 : Int32) (x3 : Int32) (x4 : Nat) (y0 : Nat) (g : Nat → Nat) (v : mS) : Option (bO Unit) := gd (rowB x4) (gd (rowB y0) (f_N_alternative_23 Kr fu x1 x2 x3 x4 y0 1 0 g v))
set_option maxHeartbeats 4000000 in
set_option maxRecDepth 100000 in
theorem w_N_alternative_15 {p : Program} {l : Launch} {e : Env} {s : State} {m : MethodId} {args : Array Value} {below : List Frame} {meth : Method} {c : Code} {Z : bZ} {A : Nat → Prop} {q0 g0 : Nat → Nat} {o : bO Unit} {rB : Nat} {Kr : (Nat → Nat) → mS → Int32 → Int32 → Int32 → Nat → Option (bO Unit)} (hMr : ∀ {g : Nat → Nat} {v : mS} {z1 : Int32} {z2 : Int32} {z3 : Int32} {z4 : Nat} {o : bO Unit}, Kr g v z1 z2 z3 z4 = some o → gL g ≤ gL o.2.1) (hKr : ∀ {q g : Nat → Nat} {v : mS} {z1 : Int32} {z2 : Int32} {z3 : Int32} {z4 : Nat} {o : bO Unit}, Kr g v z1 z2 z3 z4 = some o → bx_M l Z rB y_N_work b_N_work 6 none [.ref (q 25), .int z1, .int z2, .int z3, .ref (q z4)] q g v enV o) (C0 : bn_C "FilterBench$Runner" b_N_alternative 8 Z A p l s m args meth c) (hr : meth.sig.returnType = none) (hnx : ∀ x ∈ c.exceptionTable.toList, False) : ∀ (x1 : Int32) (x2 : Int32) (x3 : Int32) (x4 : Nat) (y0 : Nat) (g : Nat → Nat) (v : mS) (q : Nat → Nat) (H : Heap) (locs : List Loc) (ls : Array Slot), f_N_alternative_15 Kr  x1 x2 x3 x4 y0 g v = some o → qs q0 q → gL g0 ≤ gL g → gL g ≤ gL o.2.1 → bn_H Z A s (q, g, v) H locs → lv_has ls 8 [(0, .ref (q 25)), (1, .int x1), (2, .int x2), (3, .int x3), (4, .ref (q x4))] → bx_W p l e s m args below meth c Z A q0 g0 enV o (rB + 8) g H locs (F0 m 15 ls [.ref (q y0)]) := by
  have hx := C0.1
  have hb := C0.2.1
  have hl0 := C0.2.2.2.2.2.2.2.2.2
  intro x1 x2 x3 x4 y0 g v q H locs ls h hq hm0 hm hH hl
  unfold f_N_alternative_15 at h
  have hcl9 := bx_room (h0 := (rB + 8)) (o := o) hm0 hm
  obtain ⟨hgx4, h⟩ := gd_out h
  obtain ⟨hgy0, h⟩ := gd_out h
  refine lv_astore (lv' := [(5, .ref (q y0)), (0, .ref (q 25)), (1, .int x1), (2, .int x2), (3, .int x3), (4, .ref (q x4))]) hx hb d_N_alternative_15 hl (by decide) rfl (fun ls hl => ?_)
  refine lv_iconst (v := 1) hx hb d_N_alternative_17 (by decide) ?_
  refine lv_istore (lv' := [(6, .int 1), (5, .ref (q y0)), (0, .ref (q 25)), (1, .int x1), (2, .int x2), (3, .int x3), (4, .ref (q x4))]) hx hb d_N_alternative_18 hl (by decide) rfl (fun ls hl => ?_)
  refine lv_iconst (v := 0) hx hb d_N_alternative_20 (by decide) ?_
  refine lv_istore (lv' := [(7, .int 0), (6, .int 1), (5, .ref (q y0)), (0, .ref (q 25)), (1, .int x1), (2, .int x2), (3, .int x3), (4, .ref (q x4))]) hx hb d_N_alternative_21 hl (by decide) rfl (fun ls hl => ?_)
  exact w_N_alternative_23 hMr hKr C0 hr hnx  fu _ _ _ _ _ _ _ _ _ _ _ _ _ h hq hm0 hm hH (lv_sub hl [3, 4, 5, 6, 7, 2, 1, 0] rfl)
def f_N_alternative (Kr : (Nat → Nat) → mS → Int32 → Int32 → Int32 → Nat → Option (bO Unit)) (g : Nat → Nat) (v : mS) (x1 : Int32) (x2 : Int32) (x3 : Int32) (x4 : Nat) : Option (bO Unit) := mg g (gd (rowB x4) (gd (filB (9 + 4 * g 25)) (bi (f_F_firstPart g v ((9 + 4 * g 25)) x1) fun r_4 v_2 => bo (f_N_rowOf Kr g v_2 r_4 x2 x3 0) fun r9 g9 v9 => f_N_alternative_15 Kr x1 x2 x3 x4 r9 g9 v9)))
theorem mn_N_alternative {Kr : (Nat → Nat) → mS → Int32 → Int32 → Int32 → Nat → Option (bO Unit)} {g : Nat → Nat} {v : mS}  {x1 : Int32} {x2 : Int32} {x3 : Int32} {x4 : Nat} {o : bO Unit} (h : f_N_alternative Kr g v x1 x2 x3 x4 = some o) : gL g ≤ gL o.2.1 := (mg_out h).1
set_option maxHeartbeats 4000000 in
set_option maxRecDepth 100000 in
theorem c_N_alternative {l : Launch} {Z : bZ} {rB : Nat} {Kr : (Nat → Nat) → mS → Int32 → Int32 → Int32 → Nat → Option (bO Unit)} (hMr : ∀ {g : Nat → Nat} {v : mS} {z1 : Int32} {z2 : Int32} {z3 : Int32} {z4 : Nat} {o : bO Unit}, Kr g v z1 z2 z3 z4 = some o → gL g ≤ gL o.2.1) (hKr : ∀ {q g : Nat → Nat} {v : mS} {z1 : Int32} {z2 : Int32} {z3 : Int32} {z4 : Nat} {o : bO Unit}, Kr g v z1 z2 z3 z4 = some o → bx_M l Z rB y_N_work b_N_work 6 none [.ref (q 25), .int z1, .int z2, .int z3, .ref (q z4)] q g v enV o) (hl0 : l.stackTraces = false) {q g : Nat → Nat} {v : mS}  {x1 : Int32} {x2 : Int32} {x3 : Int32} {x4 : Nat} {o : bO Unit} (h : f_N_alternative Kr g v x1 x2 x3 x4 = some o) : bx_M l Z (rB + 8) y_N_alternative b_N_alternative 8 none [.ref (q 25), .int x1, .int x2, .int x3, .ref (q x4)] q g v enV o := by
  refine bx_of hl0 (by decide +kernel) (Nat.le_of_ble_eq_true rfl) ?_
  intro p e s m args below meth c A ls C0 hr hnx hl hH
  have hx := C0.1
  have hb := C0.2.1
  have C0 : bn_C "FilterBench$Runner" b_N_alternative 8 Z A p l s m args meth c := C0
  have hl : lv_has ls 8 [(0, .ref (q 25)), (1, .int x1), (2, .int x2), (3, .int x3), (4, .ref (q x4))] := hl
  obtain ⟨hm, h⟩ := mg_out h
  have hm0 : gL g ≤ gL g := Nat.le_refl _
  have hq : qs q q := qs.rf
  have hcl9 := bx_room (h0 := (rB + 8)) (o := o) hm0 hm
  obtain ⟨hgx4, h⟩ := gd_out h
  refine lv_aload_n hx hb d_N_alternative_0 rfl (lv_at hl 0 rfl) ?_
  refine lv_aload_n hx hb d_N_alternative_1 rfl (lv_at hl 0 rfl) ?_
  obtain ⟨g_1, h⟩ := gd_out h
  refine bn_g_N_filter ⟨by decide, by decide⟩ C0 hH d_N_alternative_2 ?_
  refine lv_iload_n hx hb d_N_alternative_5 rfl (lv_at hl 1 rfl) ?_
  obtain ⟨r_4, v_2, hc_3, h⟩ := bi_out h
  refine bn_ci (r := r_4) (w := (q, g, v_2)) (as := [.int x1]) (rest := [.ref (q 25)]) C0 hH (ci := 1) (filB_k g_1) (by decide) rfl (c_F_firstPart hl0 hc_3) yy_F_firstPart q_570 ⟨by simp only [bn_rm, dK]; omega, by simp only [bn_rm, dK]; omega⟩ rfl hl.1 rfl (Nat.le_of_ble_eq_true rfl) hcl9 d_N_alternative_6 (fun H locs hH => ?_)
  refine lv_iload_n hx hb d_N_alternative_9 rfl (lv_at hl 2 rfl) ?_
  refine lv_iload_n hx hb d_N_alternative_10 rfl (lv_at hl 3 rfl) ?_
  refine lv_iconst (v := 0) hx hb d_N_alternative_11 (by decide) ?_
  obtain ⟨o1, hc, hm2, ht9, hx1, hk9⟩ := bo_out h
  have hm1 := mn_N_rowOf hc
  refine bx_cV (as := [.int r_4, .int x2, .int x3, .int 0]) (rest := []) C0 hnx hq hH hm0 hm1 hm2 ht9 (ci := 3) ⟨by decide, by decide⟩ (by decide) rfl (c_N_rowOf hMr hKr hl0 hc) yy_N_rowOf q_599 ⟨by first | omega | (simp only [dK]; omega), by first | omega | (simp only [dK]; omega)⟩ rfl hl.1 rfl (Nat.le_of_ble_eq_true rfl) d_N_alternative_12 hx1 (fun r9 q1 H locs hr1 hq0 hq1 hm9 hH => ?_)
  have h := hk9 r9 hr1
  have e9 : q1 25 = q 25 := (hq1 25 (by decide) (by decide))
  try rw [← e9] at hl
  try rw [← e9]
  have e9 : q1 x4 = q x4 := (hq1 x4 (rowB_ne hgx4).1 (rowB_ne hgx4).2)
  try rw [← e9] at hl
  try rw [← e9]
  exact w_N_alternative_15 hMr hKr C0 hr hnx  _ _ _ _ _ _ _ _ _ _ _ h hq0 hm9 hm2 hH (lv_sub hl [0, 1, 2, 3, 4] rfl)
def f_N_limit_65 (Kr : (Nat → Nat) → mS → Int32 → Int32 → Int32 → Nat → Option (bO Unit)) (K36 : Nat → Int32 → Nat → Int32 → (Nat → Nat) → mS → Option (bO Unit)) (x4 : Nat) (x5 : Int32) (x6 : Nat) (x7 : Int32) (g : Nat → Nat) (v : mS) : Option (bO Unit) := gd (rowB x4) (gd (rowB x6) (nm (x7 + 1) fun x7_1 => K36 x4 x5 x6 x7_1 g v))
set_option maxHeartbeats 4000000 in
set_option maxRecDepth 100000 in
theorem w_N_limit_65 {p : Program} {l : Launch} {e : Env} {s : State} {m : MethodId} {args : Array Value} {below : List Frame} {meth : Method} {c : Code} {Z : bZ} {A : Nat → Prop} {q0 g0 : Nat → Nat} {o : bO Unit} {rB : Nat} {Kr : (Nat → Nat) → mS → Int32 → Int32 → Int32 → Nat → Option (bO Unit)} (hMr : ∀ {g : Nat → Nat} {v : mS} {z1 : Int32} {z2 : Int32} {z3 : Int32} {z4 : Nat} {o : bO Unit}, Kr g v z1 z2 z3 z4 = some o → gL g ≤ gL o.2.1) (hKr : ∀ {q g : Nat → Nat} {v : mS} {z1 : Int32} {z2 : Int32} {z3 : Int32} {z4 : Nat} {o : bO Unit}, Kr g v z1 z2 z3 z4 = some o → bx_M l Z rB y_N_work b_N_work 6 none [.ref (q 25), .int z1, .int z2, .int z3, .ref (q z4)] q g v enV o) (C0 : bn_C "FilterBench$Runner" b_N_limit 8 Z A p l s m args meth c) (hr : meth.sig.returnType = none) (hnx : ∀ x ∈ c.exceptionTable.toList, False) {K36 : Nat → Int32 → Nat → Int32 → (Nat → Nat) → mS → Option (bO Unit)} (hK36 : ∀ (x4 : Nat) (x5 : Int32) (x6 : Nat) (x7 : Int32) (g : Nat → Nat) (v : mS) (q : Nat → Nat) (H : Heap) (locs : List Loc) (ls : Array Slot), K36 x4 x5 x6 x7 g v = some o → qs q0 q → gL g0 ≤ gL g → gL g ≤ gL o.2.1 → bn_H Z A s (q, g, v) H locs → lv_has ls 8 [(4, .ref (q x4)), (5, .int x5), (6, .ref (q x6)), (7, .int x7)] → bx_W p l e s m args below meth c Z A q0 g0 enV o (rB + 8) g H locs (F0 m 36 ls [])) : ∀ (x4 : Nat) (x5 : Int32) (x6 : Nat) (x7 : Int32) (g : Nat → Nat) (v : mS) (q : Nat → Nat) (H : Heap) (locs : List Loc) (ls : Array Slot), f_N_limit_65 Kr K36 x4 x5 x6 x7 g v = some o → qs q0 q → gL g0 ≤ gL g → gL g ≤ gL o.2.1 → bn_H Z A s (q, g, v) H locs → lv_has ls 8 [(4, .ref (q x4)), (5, .int x5), (6, .ref (q x6)), (7, .int x7)] → bx_W p l e s m args below meth c Z A q0 g0 enV o (rB + 8) g H locs (F0 m 65 ls []) := by
  have hx := C0.1
  have hb := C0.2.1
  have hl0 := C0.2.2.2.2.2.2.2.2.2
  intro x4 x5 x6 x7 g v q H locs ls h hq hm0 hm hH hl
  unfold f_N_limit_65 at h
  have hcl9 := bx_room (h0 := (rB + 8)) (o := o) hm0 hm
  obtain ⟨hgx4, h⟩ := gd_out h
  obtain ⟨hgx6, h⟩ := gd_out h
  obtain ⟨x7_1, hx7_1, h⟩ := nm_out h
  refine lv_iinc (v := x7_1) (lv' := [(7, .int x7_1), (4, .ref (q x4)), (5, .int x5), (6, .ref (q x6))]) hx hb d_N_limit_65 hl (k := 3) rfl (by rw [hx7_1]; rfl) (by decide) rfl (fun ls hl => ?_)
  refine lv_goto (tgt := 36) hx hb d_N_limit_68 (by decide) ?_
  exact hK36 _ _ _ _ _ _ _ _ _ _ h hq hm0 hm hH (lv_sub hl [1, 2, 3, 0] rfl)
def f_N_limit_88 (Kr : (Nat → Nat) → mS → Int32 → Int32 → Int32 → Nat → Option (bO Unit))   (g : Nat → Nat) (v : mS) : Option (bO Unit) := some (.inl (), g, v)
set_option maxHeartbeats 4000000 in
set_option maxRecDepth 100000 in
theorem w_N_limit_88 {p : Program} {l : Launch} {e : Env} {s : State} {m : MethodId} {args : Array Value} {below : List Frame} {meth : Method} {c : Code} {Z : bZ} {A : Nat → Prop} {q0 g0 : Nat → Nat} {o : bO Unit} {rB : Nat} {Kr : (Nat → Nat) → mS → Int32 → Int32 → Int32 → Nat → Option (bO Unit)} (hMr : ∀ {g : Nat → Nat} {v : mS} {z1 : Int32} {z2 : Int32} {z3 : Int32} {z4 : Nat} {o : bO Unit}, Kr g v z1 z2 z3 z4 = some o → gL g ≤ gL o.2.1) (hKr : ∀ {q g : Nat → Nat} {v : mS} {z1 : Int32} {z2 : Int32} {z3 : Int32} {z4 : Nat} {o : bO Unit}, Kr g v z1 z2 z3 z4 = some o → bx_M l Z rB y_N_work b_N_work 6 none [.ref (q 25), .int z1, .int z2, .int z3, .ref (q z4)] q g v enV o) (C0 : bn_C "FilterBench$Runner" b_N_limit 8 Z A p l s m args meth c) (hr : meth.sig.returnType = none) (hnx : ∀ x ∈ c.exceptionTable.toList, False) : ∀  (g : Nat → Nat) (v : mS) (q : Nat → Nat) (H : Heap) (locs : List Loc) (ls : Array Slot), f_N_limit_88 Kr   g v = some o → qs q0 q → gL g0 ≤ gL g → gL g ≤ gL o.2.1 → bn_H Z A s (q, g, v) H locs → lv_has ls 8 [] → bx_W p l e s m args below meth c Z A q0 g0 enV o (rB + 8) g H locs (F0 m 88 ls []) := by
  have hx := C0.1
  have hb := C0.2.1
  have hl0 := C0.2.2.2.2.2.2.2.2.2
  intro  g v q H locs ls h hq hm0 hm hH hl
  unfold f_N_limit_88 at h
  have hcl9 := bx_room (h0 := (rB + 8)) (o := o) hm0 hm
  exact bx_vret C0 hr hq hH hm0 d_N_limit_88 h
def f_N_limit_71 (Kr : (Nat → Nat) → mS → Int32 → Int32 → Int32 → Nat → Option (bO Unit))  (x4 : Nat) (x5 : Int32) (x6 : Nat) (g : Nat → Nat) (v : mS) : Option (bO Unit) := gd (rowB x4) (gd (rowB x6) (bi (f_R_size g v x6) fun r_3 v_1 => if x5 ≤ r_3 then (f_N_limit_88 Kr g v_1) else (bv (f_R_endAs g v_1 x4 x6) fun v_5 => f_N_limit_88 Kr g v_5)))
set_option maxHeartbeats 4000000 in
set_option maxRecDepth 100000 in
theorem w_N_limit_71 {p : Program} {l : Launch} {e : Env} {s : State} {m : MethodId} {args : Array Value} {below : List Frame} {meth : Method} {c : Code} {Z : bZ} {A : Nat → Prop} {q0 g0 : Nat → Nat} {o : bO Unit} {rB : Nat} {Kr : (Nat → Nat) → mS → Int32 → Int32 → Int32 → Nat → Option (bO Unit)} (hMr : ∀ {g : Nat → Nat} {v : mS} {z1 : Int32} {z2 : Int32} {z3 : Int32} {z4 : Nat} {o : bO Unit}, Kr g v z1 z2 z3 z4 = some o → gL g ≤ gL o.2.1) (hKr : ∀ {q g : Nat → Nat} {v : mS} {z1 : Int32} {z2 : Int32} {z3 : Int32} {z4 : Nat} {o : bO Unit}, Kr g v z1 z2 z3 z4 = some o → bx_M l Z rB y_N_work b_N_work 6 none [.ref (q 25), .int z1, .int z2, .int z3, .ref (q z4)] q g v enV o) (C0 : bn_C "FilterBench$Runner" b_N_limit 8 Z A p l s m args meth c) (hr : meth.sig.returnType = none) (hnx : ∀ x ∈ c.exceptionTable.toList, False) : ∀ (x4 : Nat) (x5 : Int32) (x6 : Nat) (g : Nat → Nat) (v : mS) (q : Nat → Nat) (H : Heap) (locs : List Loc) (ls : Array Slot), f_N_limit_71 Kr  x4 x5 x6 g v = some o → qs q0 q → gL g0 ≤ gL g → gL g ≤ gL o.2.1 → bn_H Z A s (q, g, v) H locs → lv_has ls 8 [(4, .ref (q x4)), (5, .int x5), (6, .ref (q x6))] → bx_W p l e s m args below meth c Z A q0 g0 enV o (rB + 8) g H locs (F0 m 71 ls []) := by
  have hx := C0.1
  have hb := C0.2.1
  have hl0 := C0.2.2.2.2.2.2.2.2.2
  intro x4 x5 x6 g v q H locs ls h hq hm0 hm hH hl
  unfold f_N_limit_71 at h
  have hcl9 := bx_room (h0 := (rB + 8)) (o := o) hm0 hm
  obtain ⟨hgx4, h⟩ := gd_out h
  obtain ⟨hgx6, h⟩ := gd_out h
  refine lv_aload hx hb d_N_limit_71 (lv_at hl 2 rfl) ?_
  obtain ⟨r_3, v_1, hc_2, h⟩ := bi_out h
  refine bn_ci (r := r_3) (w := (q, g, v_1)) (as := []) (rest := []) C0 hH (ci := 2) (rowB_k hgx6) (by decide) rfl (c_R_size hl0 hc_2) yy_R_size q_613 ⟨by simp only [bn_rm, dK]; omega, by simp only [bn_rm, dK]; omega⟩ rfl hl.1 rfl (Nat.le_of_ble_eq_true rfl) hcl9 d_N_limit_73 (fun H locs hH => ?_)
  refine lv_iload hx hb d_N_limit_76 (lv_at hl 1 rfl) ?_
  refine lv_icmp_ge (tgt := 88) hx hb d_N_limit_78 (by decide) (fun c_4 => ?_) (fun c_4 => ?_)
  · rw [if_pos c_4] at h
    exact w_N_limit_88 hMr hKr C0 hr hnx   _ _ _ _ _ _ h hq hm0 hm hH (lv_sub hl [] rfl)
  · rw [if_neg c_4] at h
    refine lv_aload hx hb d_N_limit_81 (lv_at hl 0 rfl) ?_
    refine lv_aload hx hb d_N_limit_83 (lv_at hl 2 rfl) ?_
    obtain ⟨v_5, hc_6, h⟩ := bv_out h
    refine bn_cv (w := (q, g, v_5)) (as := [.ref (q x6)]) (rest := []) C0 hH (ci := 2) (rowB_k hgx4) (by decide) rfl (c_R_endAs hl0 hc_6) yy_R_endAs q_604 ⟨by simp only [bn_rm, dK]; omega, by simp only [bn_rm, dK]; omega⟩ rfl hl.1 rfl (Nat.le_of_ble_eq_true rfl) hcl9 d_N_limit_85 (fun H locs hH => ?_)
    exact w_N_limit_88 hMr hKr C0 hr hnx   _ _ _ _ _ _ h hq hm0 hm hH (lv_sub hl [] rfl)
def f_N_limit_36 (Kr : (Nat → Nat) → mS → Int32 → Int32 → Int32 → Nat → Option (bO Unit))  : Nat → Nat → Int32 → Nat → Int32 → (Nat → Nat) → mS → Option (bO Unit)
  | 0, _, _, _, _, _, _ => none
  | n + 1, x4, x5, x6, x7, g, v => gd (rowB x4) (gd (rowB x6) (bi (f_R_size g v x6) fun r_3 v_1 => if r_3 ≤ x7 then (f_N_limit_71 Kr x4 x5 x6 g v_1) else (if x5 ≤ x7 then (f_N_limit_71 Kr x4 x5 x6 g v_1) else (bi (f_R_at g v_1 x6 x7) fun r_8 v_6 => bo (f_R_put g v_6 x4 r_8) fun r9 g9 v9 => f_N_limit_65 Kr (f_N_limit_36 Kr n) x4 x5 x6 x7 g9 v9))))
set_option maxHeartbeats 4000000 in
set_option maxRecDepth 100000 in
theorem w_N_limit_36 {p : Program} {l : Launch} {e : Env} {s : State} {m : MethodId} {args : Array Value} {below : List Frame} {meth : Method} {c : Code} {Z : bZ} {A : Nat → Prop} {q0 g0 : Nat → Nat} {o : bO Unit} {rB : Nat} {Kr : (Nat → Nat) → mS → Int32 → Int32 → Int32 → Nat → Option (bO Unit)} (hMr : ∀ {g : Nat → Nat} {v : mS} {z1 : Int32} {z2 : Int32} {z3 : Int32} {z4 : Nat} {o : bO Unit}, Kr g v z1 z2 z3 z4 = some o → gL g ≤ gL o.2.1) (hKr : ∀ {q g : Nat → Nat} {v : mS} {z1 : Int32} {z2 : Int32} {z3 : Int32} {z4 : Nat} {o : bO Unit}, Kr g v z1 z2 z3 z4 = some o → bx_M l Z rB y_N_work b_N_work 6 none [.ref (q 25), .int z1, .int z2, .int z3, .ref (q z4)] q g v enV o) (C0 : bn_C "FilterBench$Runner" b_N_limit 8 Z A p l s m args meth c) (hr : meth.sig.returnType = none) (hnx : ∀ x ∈ c.exceptionTable.toList, False) : ∀ (n : Nat) (x4 : Nat) (x5 : Int32) (x6 : Nat) (x7 : Int32) (g : Nat → Nat) (v : mS) (q : Nat → Nat) (H : Heap) (locs : List Loc) (ls : Array Slot), f_N_limit_36 Kr  n x4 x5 x6 x7 g v = some o → qs q0 q → gL g0 ≤ gL g → gL g ≤ gL o.2.1 → bn_H Z A s (q, g, v) H locs → lv_has ls 8 [(4, .ref (q x4)), (5, .int x5), (6, .ref (q x6)), (7, .int x7)] → bx_W p l e s m args below meth c Z A q0 g0 enV o (rB + 8) g H locs (F0 m 36 ls []) := by
  have hx := C0.1
  have hb := C0.2.1
  have hl0 := C0.2.2.2.2.2.2.2.2.2
  intro n
  induction n with
  | zero =>
    intro x4 x5 x6 x7 g v q H locs ls h hq hm0 hm hH hl
    cases h
  | succ n ih =>
    intro x4 x5 x6 x7 g v q H locs ls h hq hm0 hm hH hl
    rw [f_N_limit_36] at h
    have hcl9 := bx_room (h0 := (rB + 8)) (o := o) hm0 hm
    obtain ⟨hgx4, h⟩ := gd_out h
    obtain ⟨hgx6, h⟩ := gd_out h
    refine lv_iload hx hb d_N_limit_36 (lv_at hl 3 rfl) ?_
    refine lv_aload hx hb d_N_limit_38 (lv_at hl 2 rfl) ?_
    obtain ⟨r_3, v_1, hc_2, h⟩ := bi_out h
    refine bn_ci (r := r_3) (w := (q, g, v_1)) (as := []) (rest := [.int x7]) C0 hH (ci := 2) (rowB_k hgx6) (by decide) rfl (c_R_size hl0 hc_2) yy_R_size q_613 ⟨by simp only [bn_rm, dK]; omega, by simp only [bn_rm, dK]; omega⟩ rfl hl.1 rfl (Nat.le_of_ble_eq_true rfl) hcl9 d_N_limit_40 (fun H locs hH => ?_)
    refine lv_icmp_ge (tgt := 71) hx hb d_N_limit_43 (by decide) (fun c_4 => ?_) (fun c_4 => ?_)
    · rw [if_pos c_4] at h
      exact w_N_limit_71 hMr hKr C0 hr hnx  _ _ _ _ _ _ _ _ _ h hq hm0 hm hH (lv_sub hl [0, 1, 2] rfl)
    · rw [if_neg c_4] at h
      refine lv_iload hx hb d_N_limit_46 (lv_at hl 3 rfl) ?_
      refine lv_iload hx hb d_N_limit_48 (lv_at hl 1 rfl) ?_
      refine lv_icmp_ge (tgt := 71) hx hb d_N_limit_50 (by decide) (fun c_5 => ?_) (fun c_5 => ?_)
      · rw [if_pos c_5] at h
        exact w_N_limit_71 hMr hKr C0 hr hnx  _ _ _ _ _ _ _ _ _ h hq hm0 hm hH (lv_sub hl [0, 1, 2] rfl)
      · rw [if_neg c_5] at h
        refine lv_aload hx hb d_N_limit_53 (lv_at hl 0 rfl) ?_
        refine lv_aload hx hb d_N_limit_55 (lv_at hl 2 rfl) ?_
        refine lv_iload hx hb d_N_limit_57 (lv_at hl 3 rfl) ?_
        obtain ⟨r_8, v_6, hc_7, h⟩ := bi_out h
        refine bn_ci (r := r_8) (w := (q, g, v_6)) (as := [.int x7]) (rest := [.ref (q x4)]) C0 hH (ci := 2) (rowB_k hgx6) (by decide) rfl (c_R_at hl0 hc_7) yy_R_at q_637 ⟨by simp only [bn_rm, dK]; omega, by simp only [bn_rm, dK]; omega⟩ rfl hl.1 rfl (Nat.le_of_ble_eq_true rfl) hcl9 d_N_limit_59 (fun H locs hH => ?_)
        obtain ⟨o1, hc, hm2, ht9, hx1, hk9⟩ := bo_out h
        have hm1 := mn_R_put hc
        refine bx_cV (as := [.int r_8]) (rest := []) C0 hnx hq hH hm0 hm1 hm2 ht9 (ci := 2) (rowB_k hgx4) (by decide) rfl (c_R_put hl0 hc) yy_R_put q_508 ⟨by first | omega | (simp only [dK]; omega), by first | omega | (simp only [dK]; omega)⟩ rfl hl.1 rfl (Nat.le_of_ble_eq_true rfl) d_N_limit_62 hx1 (fun r9 q1 H locs hr1 hq0 hq1 hm9 hH => ?_)
        have h := hk9 r9 hr1
        have e9 : q1 x4 = q x4 := (hq1 x4 (rowB_ne hgx4).1 (rowB_ne hgx4).2)
        try rw [← e9] at hl
        try rw [← e9]
        have e9 : q1 x6 = q x6 := (hq1 x6 (rowB_ne hgx6).1 (rowB_ne hgx6).2)
        try rw [← e9] at hl
        try rw [← e9]
        exact w_N_limit_65 hMr hKr C0 hr hnx ih _ _ _ _ _ _ _ _ _ _ h hq0 hm9 hm2 hH (lv_sub hl [0, 1, 2, 3] rfl)
def f_N_limit_31 (Kr : (Nat → Nat) → mS → Int32 → Int32 → Int32 → Nat → Option (bO Unit))  (x4 : Nat) (x5 : Int32) (y0 : Nat) (g : Nat → Nat) (v : mS) : Option (bO Unit) := gd (rowB x4) (gd (rowB y0) (f_N_limit_36 Kr fu x4 x5 y0 0 g v))
set_option maxHeartbeats 4000000 in
set_option maxRecDepth 100000 in
theorem w_N_limit_31 {p : Program} {l : Launch} {e : Env} {s : State} {m : MethodId} {args : Array Value} {below : List Frame} {meth : Method} {c : Code} {Z : bZ} {A : Nat → Prop} {q0 g0 : Nat → Nat} {o : bO Unit} {rB : Nat} {Kr : (Nat → Nat) → mS → Int32 → Int32 → Int32 → Nat → Option (bO Unit)} (hMr : ∀ {g : Nat → Nat} {v : mS} {z1 : Int32} {z2 : Int32} {z3 : Int32} {z4 : Nat} {o : bO Unit}, Kr g v z1 z2 z3 z4 = some o → gL g ≤ gL o.2.1) (hKr : ∀ {q g : Nat → Nat} {v : mS} {z1 : Int32} {z2 : Int32} {z3 : Int32} {z4 : Nat} {o : bO Unit}, Kr g v z1 z2 z3 z4 = some o → bx_M l Z rB y_N_work b_N_work 6 none [.ref (q 25), .int z1, .int z2, .int z3, .ref (q z4)] q g v enV o) (C0 : bn_C "FilterBench$Runner" b_N_limit 8 Z A p l s m args meth c) (hr : meth.sig.returnType = none) (hnx : ∀ x ∈ c.exceptionTable.toList, False) : ∀ (x4 : Nat) (x5 : Int32) (y0 : Nat) (g : Nat → Nat) (v : mS) (q : Nat → Nat) (H : Heap) (locs : List Loc) (ls : Array Slot), f_N_limit_31 Kr  x4 x5 y0 g v = some o → qs q0 q → gL g0 ≤ gL g → gL g ≤ gL o.2.1 → bn_H Z A s (q, g, v) H locs → lv_has ls 8 [(4, .ref (q x4)), (5, .int x5)] → bx_W p l e s m args below meth c Z A q0 g0 enV o (rB + 8) g H locs (F0 m 31 ls [.ref (q y0)]) := by
  have hx := C0.1
  have hb := C0.2.1
  have hl0 := C0.2.2.2.2.2.2.2.2.2
  intro x4 x5 y0 g v q H locs ls h hq hm0 hm hH hl
  unfold f_N_limit_31 at h
  have hcl9 := bx_room (h0 := (rB + 8)) (o := o) hm0 hm
  obtain ⟨hgx4, h⟩ := gd_out h
  obtain ⟨hgy0, h⟩ := gd_out h
  refine lv_astore (lv' := [(6, .ref (q y0)), (4, .ref (q x4)), (5, .int x5)]) hx hb d_N_limit_31 hl (by decide) rfl (fun ls hl => ?_)
  refine lv_iconst (v := 0) hx hb d_N_limit_33 (by decide) ?_
  refine lv_istore (lv' := [(7, .int 0), (6, .ref (q y0)), (4, .ref (q x4)), (5, .int x5)]) hx hb d_N_limit_34 hl (by decide) rfl (fun ls hl => ?_)
  exact w_N_limit_36 hMr hKr C0 hr hnx  fu _ _ _ _ _ _ _ _ _ _ h hq hm0 hm hH (lv_sub hl [2, 3, 1, 0] rfl)
def f_N_limit (Kr : (Nat → Nat) → mS → Int32 → Int32 → Int32 → Nat → Option (bO Unit)) (g : Nat → Nat) (v : mS) (x1 : Int32) (x2 : Int32) (x3 : Int32) (x4 : Nat) : Option (bO Unit) := mg g (gd (rowB x4) (gd (filB (9 + 4 * g 25)) (bi (f_F_choiceAt g v ((9 + 4 * g 25)) x1) fun r_4 v_2 => if r_4 = 0 then (some (.inl (), g, v_2)) else (gd (filB (9 + 4 * g 25)) (bi (f_F_firstPart g v_2 ((9 + 4 * g 25)) x1) fun r_9 v_7 => bo (f_N_rowOf Kr g v_7 r_9 x2 x3 0) fun r9 g9 v9 => f_N_limit_31 Kr x4 r_4 r9 g9 v9)))))
theorem mn_N_limit {Kr : (Nat → Nat) → mS → Int32 → Int32 → Int32 → Nat → Option (bO Unit)} {g : Nat → Nat} {v : mS}  {x1 : Int32} {x2 : Int32} {x3 : Int32} {x4 : Nat} {o : bO Unit} (h : f_N_limit Kr g v x1 x2 x3 x4 = some o) : gL g ≤ gL o.2.1 := (mg_out h).1
set_option maxHeartbeats 4000000 in
set_option maxRecDepth 100000 in
theorem c_N_limit {l : Launch} {Z : bZ} {rB : Nat} {Kr : (Nat → Nat) → mS → Int32 → Int32 → Int32 → Nat → Option (bO Unit)} (hMr : ∀ {g : Nat → Nat} {v : mS} {z1 : Int32} {z2 : Int32} {z3 : Int32} {z4 : Nat} {o : bO Unit}, Kr g v z1 z2 z3 z4 = some o → gL g ≤ gL o.2.1) (hKr : ∀ {q g : Nat → Nat} {v : mS} {z1 : Int32} {z2 : Int32} {z3 : Int32} {z4 : Nat} {o : bO Unit}, Kr g v z1 z2 z3 z4 = some o → bx_M l Z rB y_N_work b_N_work 6 none [.ref (q 25), .int z1, .int z2, .int z3, .ref (q z4)] q g v enV o) (hl0 : l.stackTraces = false) {q g : Nat → Nat} {v : mS}  {x1 : Int32} {x2 : Int32} {x3 : Int32} {x4 : Nat} {o : bO Unit} (h : f_N_limit Kr g v x1 x2 x3 x4 = some o) : bx_M l Z (rB + 8) y_N_limit b_N_limit 8 none [.ref (q 25), .int x1, .int x2, .int x3, .ref (q x4)] q g v enV o := by
  refine bx_of hl0 (by decide +kernel) (Nat.le_of_ble_eq_true rfl) ?_
  intro p e s m args below meth c A ls C0 hr hnx hl hH
  have hx := C0.1
  have hb := C0.2.1
  have C0 : bn_C "FilterBench$Runner" b_N_limit 8 Z A p l s m args meth c := C0
  have hl : lv_has ls 8 [(0, .ref (q 25)), (1, .int x1), (2, .int x2), (3, .int x3), (4, .ref (q x4))] := hl
  obtain ⟨hm, h⟩ := mg_out h
  have hm0 : gL g ≤ gL g := Nat.le_refl _
  have hq : qs q q := qs.rf
  have hcl9 := bx_room (h0 := (rB + 8)) (o := o) hm0 hm
  obtain ⟨hgx4, h⟩ := gd_out h
  refine lv_aload_n hx hb d_N_limit_0 rfl (lv_at hl 0 rfl) ?_
  obtain ⟨g_1, h⟩ := gd_out h
  refine bn_g_N_filter ⟨by decide, by decide⟩ C0 hH d_N_limit_1 ?_
  refine lv_iload_n hx hb d_N_limit_4 rfl (lv_at hl 1 rfl) ?_
  obtain ⟨r_4, v_2, hc_3, h⟩ := bi_out h
  refine bn_ci (r := r_4) (w := (q, g, v_2)) (as := [.int x1]) (rest := []) C0 hH (ci := 1) (filB_k g_1) (by decide) rfl (c_F_choiceAt hl0 hc_3) yy_F_choiceAt q_500 ⟨by simp only [bn_rm, dK]; omega, by simp only [bn_rm, dK]; omega⟩ rfl hl.1 rfl (Nat.le_of_ble_eq_true rfl) hcl9 d_N_limit_5 (fun H locs hH => ?_)
  refine lv_istore (lv' := [(5, .int r_4), (0, .ref (q 25)), (1, .int x1), (2, .int x2), (3, .int x3), (4, .ref (q x4))]) hx hb d_N_limit_8 hl (by decide) rfl (fun ls hl => ?_)
  refine lv_iload hx hb d_N_limit_10 (lv_at hl 0 rfl) ?_
  refine lv_if_ne (tgt := 16) hx hb d_N_limit_12 (by decide) (fun c_5 => ?_) (fun c_5 => ?_)
  · rw [if_neg c_5] at h
    refine lv_aload_n hx hb d_N_limit_16 rfl (lv_at hl 1 rfl) ?_
    refine lv_aload_n hx hb d_N_limit_17 rfl (lv_at hl 1 rfl) ?_
    obtain ⟨g_6, h⟩ := gd_out h
    refine bn_g_N_filter ⟨by decide, by decide⟩ C0 hH d_N_limit_18 ?_
    refine lv_iload_n hx hb d_N_limit_21 rfl (lv_at hl 2 rfl) ?_
    obtain ⟨r_9, v_7, hc_8, h⟩ := bi_out h
    refine bn_ci (r := r_9) (w := (q, g, v_7)) (as := [.int x1]) (rest := [.ref (q 25)]) C0 hH (ci := 1) (filB_k g_6) (by decide) rfl (c_F_firstPart hl0 hc_8) yy_F_firstPart q_570 ⟨by simp only [bn_rm, dK]; omega, by simp only [bn_rm, dK]; omega⟩ rfl hl.1 rfl (Nat.le_of_ble_eq_true rfl) hcl9 d_N_limit_22 (fun H locs hH => ?_)
    refine lv_iload_n hx hb d_N_limit_25 rfl (lv_at hl 3 rfl) ?_
    refine lv_iload_n hx hb d_N_limit_26 rfl (lv_at hl 4 rfl) ?_
    refine lv_iconst (v := 0) hx hb d_N_limit_27 (by decide) ?_
    obtain ⟨o1, hc, hm2, ht9, hx1, hk9⟩ := bo_out h
    have hm1 := mn_N_rowOf hc
    refine bx_cV (as := [.int r_9, .int x2, .int x3, .int 0]) (rest := []) C0 hnx hq hH hm0 hm1 hm2 ht9 (ci := 3) ⟨by decide, by decide⟩ (by decide) rfl (c_N_rowOf hMr hKr hl0 hc) yy_N_rowOf q_599 ⟨by first | omega | (simp only [dK]; omega), by first | omega | (simp only [dK]; omega)⟩ rfl hl.1 rfl (Nat.le_of_ble_eq_true rfl) d_N_limit_28 hx1 (fun r9 q1 H locs hr1 hq0 hq1 hm9 hH => ?_)
    have h := hk9 r9 hr1
    have e9 : q1 x4 = q x4 := (hq1 x4 (rowB_ne hgx4).1 (rowB_ne hgx4).2)
    try rw [← e9] at hl
    try rw [← e9]
    exact w_N_limit_31 hMr hKr C0 hr hnx  _ _ _ _ _ _ _ _ _ h hq0 hm9 hm2 hH (lv_sub hl [5, 0] rfl)
  · rw [if_pos c_5] at h
    exact bx_vret C0 hr hq hH hm0 d_N_limit_15 h
def f_N_reduce_166 (Kr : (Nat → Nat) → mS → Int32 → Int32 → Int32 → Nat → Option (bO Unit)) (K92 : Int32 → Int32 → Nat → Int32 → Int32 → Int32 → Nat → Int32 → (Nat → Nat) → mS → Option (bO Unit)) (x1 : Int32) (x3 : Int32) (x4 : Nat) (x7 : Int32) (x8 : Int32) (x9 : Nat) (x10 : Int32) (x11 : Nat) (y0 : Int32) (g : Nat → Nat) (v : mS) : Option (bO Unit) := gd (rowB x4) (gd (rowB x9) (gd (rowB x11) (bv (f_R_endAs g v x4 x11) fun v_1 => nm (x10 + 1) fun x10_3 => K92 x1 x3 x4 y0 x7 x8 x9 x10_3 g v_1)))
set_option maxHeartbeats 4000000 in
set_option maxRecDepth 100000 in
theorem w_N_reduce_166 {p : Program} {l : Launch} {e : Env} {s : State} {m : MethodId} {args : Array Value} {below : List Frame} {meth : Method} {c : Code} {Z : bZ} {A : Nat → Prop} {q0 g0 : Nat → Nat} {o : bO Unit} {rB : Nat} {Kr : (Nat → Nat) → mS → Int32 → Int32 → Int32 → Nat → Option (bO Unit)} (hMr : ∀ {g : Nat → Nat} {v : mS} {z1 : Int32} {z2 : Int32} {z3 : Int32} {z4 : Nat} {o : bO Unit}, Kr g v z1 z2 z3 z4 = some o → gL g ≤ gL o.2.1) (hKr : ∀ {q g : Nat → Nat} {v : mS} {z1 : Int32} {z2 : Int32} {z3 : Int32} {z4 : Nat} {o : bO Unit}, Kr g v z1 z2 z3 z4 = some o → bx_M l Z rB y_N_work b_N_work 6 none [.ref (q 25), .int z1, .int z2, .int z3, .ref (q z4)] q g v enV o) (C0 : bn_C "FilterBench$Runner" b_N_reduce 12 Z A p l s m args meth c) (hr : meth.sig.returnType = none) (hnx : ∀ x ∈ c.exceptionTable.toList, False) {K92 : Int32 → Int32 → Nat → Int32 → Int32 → Int32 → Nat → Int32 → (Nat → Nat) → mS → Option (bO Unit)} (hK92 : ∀ (x1 : Int32) (x3 : Int32) (x4 : Nat) (x6 : Int32) (x7 : Int32) (x8 : Int32) (x9 : Nat) (x10 : Int32) (g : Nat → Nat) (v : mS) (q : Nat → Nat) (H : Heap) (locs : List Loc) (ls : Array Slot), K92 x1 x3 x4 x6 x7 x8 x9 x10 g v = some o → qs q0 q → gL g0 ≤ gL g → gL g ≤ gL o.2.1 → bn_H Z A s (q, g, v) H locs → lv_has ls 12 [(0, .ref (q 25)), (1, .int x1), (3, .int x3), (4, .ref (q x4)), (6, .int x6), (7, .int x7), (8, .int x8), (9, .ref (q x9)), (10, .int x10)] → bx_W p l e s m args below meth c Z A q0 g0 enV o (rB + 8) g H locs (F0 m 92 ls [])) : ∀ (x1 : Int32) (x3 : Int32) (x4 : Nat) (x7 : Int32) (x8 : Int32) (x9 : Nat) (x10 : Int32) (x11 : Nat) (y0 : Int32) (g : Nat → Nat) (v : mS) (q : Nat → Nat) (H : Heap) (locs : List Loc) (ls : Array Slot), f_N_reduce_166 Kr K92 x1 x3 x4 x7 x8 x9 x10 x11 y0 g v = some o → qs q0 q → gL g0 ≤ gL g → gL g ≤ gL o.2.1 → bn_H Z A s (q, g, v) H locs → lv_has ls 12 [(0, .ref (q 25)), (1, .int x1), (3, .int x3), (4, .ref (q x4)), (7, .int x7), (8, .int x8), (9, .ref (q x9)), (10, .int x10), (11, .ref (q x11))] → bx_W p l e s m args below meth c Z A q0 g0 enV o (rB + 8) g H locs (F0 m 166 ls [.int y0]) := by
  have hx := C0.1
  have hb := C0.2.1
  have hl0 := C0.2.2.2.2.2.2.2.2.2
  intro x1 x3 x4 x7 x8 x9 x10 x11 y0 g v q H locs ls h hq hm0 hm hH hl
  unfold f_N_reduce_166 at h
  have hcl9 := bx_room (h0 := (rB + 8)) (o := o) hm0 hm
  obtain ⟨hgx4, h⟩ := gd_out h
  obtain ⟨hgx9, h⟩ := gd_out h
  obtain ⟨hgx11, h⟩ := gd_out h
  refine lv_istore (lv' := [(6, .int y0), (0, .ref (q 25)), (1, .int x1), (3, .int x3), (4, .ref (q x4)), (7, .int x7), (8, .int x8), (9, .ref (q x9)), (10, .int x10), (11, .ref (q x11))]) hx hb d_N_reduce_166 hl (by decide) rfl (fun ls hl => ?_)
  refine lv_aload hx hb d_N_reduce_168 (lv_at hl 4 rfl) ?_
  refine lv_aload hx hb d_N_reduce_170 (lv_at hl 9 rfl) ?_
  obtain ⟨v_1, hc_2, h⟩ := bv_out h
  refine bn_cv (w := (q, g, v_1)) (as := [.ref (q x11)]) (rest := []) C0 hH (ci := 2) (rowB_k hgx4) (by decide) rfl (c_R_endAs hl0 hc_2) yy_R_endAs q_604 ⟨by simp only [bn_rm, dK]; omega, by simp only [bn_rm, dK]; omega⟩ rfl hl.1 rfl (Nat.le_of_ble_eq_true rfl) hcl9 d_N_reduce_172 (fun H locs hH => ?_)
  obtain ⟨x10_3, hx10_3, h⟩ := nm_out h
  refine lv_iinc (v := x10_3) (lv' := [(10, .int x10_3), (6, .int y0), (0, .ref (q 25)), (1, .int x1), (3, .int x3), (4, .ref (q x4)), (7, .int x7), (8, .int x8), (9, .ref (q x9)), (11, .ref (q x11))]) hx hb d_N_reduce_175 hl (k := 8) rfl (by rw [hx10_3]; rfl) (by decide) rfl (fun ls hl => ?_)
  refine lv_goto (tgt := 92) hx hb d_N_reduce_178 (by decide) ?_
  exact hK92 _ _ _ _ _ _ _ _ _ _ _ _ _ _ h hq hm0 hm hH (lv_sub hl [2, 3, 4, 5, 1, 6, 7, 8, 0] rfl)
def f_N_reduce_140 (Kr : (Nat → Nat) → mS → Int32 → Int32 → Int32 → Nat → Option (bO Unit)) (K92 : Int32 → Int32 → Nat → Int32 → Int32 → Int32 → Nat → Int32 → (Nat → Nat) → mS → Option (bO Unit)) (x1 : Int32) (x3 : Int32) (x4 : Nat) (x7 : Int32) (x8 : Int32) (x9 : Nat) (x10 : Int32) (y0 : Nat) (g : Nat → Nat) (v : mS) : Option (bO Unit) := gd (rowB x4) (gd (rowB x9) (gd (rowB y0) (bi (f_R_size g v y0) fun r_3 v_1 => if r_3 = 0 then (f_N_reduce_166 Kr K92 x1 x3 x4 x7 x8 x9 x10 y0 0 g v_1) else (bi (f_R_size g v_1 y0) fun r_7 v_5 => bi (f_R_at g v_5 y0 (r_7 - 1)) fun r_10 v_8 => f_N_reduce_166 Kr K92 x1 x3 x4 x7 x8 x9 x10 y0 r_10 g v_8))))
set_option maxHeartbeats 4000000 in
set_option maxRecDepth 100000 in
theorem w_N_reduce_140 {p : Program} {l : Launch} {e : Env} {s : State} {m : MethodId} {args : Array Value} {below : List Frame} {meth : Method} {c : Code} {Z : bZ} {A : Nat → Prop} {q0 g0 : Nat → Nat} {o : bO Unit} {rB : Nat} {Kr : (Nat → Nat) → mS → Int32 → Int32 → Int32 → Nat → Option (bO Unit)} (hMr : ∀ {g : Nat → Nat} {v : mS} {z1 : Int32} {z2 : Int32} {z3 : Int32} {z4 : Nat} {o : bO Unit}, Kr g v z1 z2 z3 z4 = some o → gL g ≤ gL o.2.1) (hKr : ∀ {q g : Nat → Nat} {v : mS} {z1 : Int32} {z2 : Int32} {z3 : Int32} {z4 : Nat} {o : bO Unit}, Kr g v z1 z2 z3 z4 = some o → bx_M l Z rB y_N_work b_N_work 6 none [.ref (q 25), .int z1, .int z2, .int z3, .ref (q z4)] q g v enV o) (C0 : bn_C "FilterBench$Runner" b_N_reduce 12 Z A p l s m args meth c) (hr : meth.sig.returnType = none) (hnx : ∀ x ∈ c.exceptionTable.toList, False) {K92 : Int32 → Int32 → Nat → Int32 → Int32 → Int32 → Nat → Int32 → (Nat → Nat) → mS → Option (bO Unit)} (hK92 : ∀ (x1 : Int32) (x3 : Int32) (x4 : Nat) (x6 : Int32) (x7 : Int32) (x8 : Int32) (x9 : Nat) (x10 : Int32) (g : Nat → Nat) (v : mS) (q : Nat → Nat) (H : Heap) (locs : List Loc) (ls : Array Slot), K92 x1 x3 x4 x6 x7 x8 x9 x10 g v = some o → qs q0 q → gL g0 ≤ gL g → gL g ≤ gL o.2.1 → bn_H Z A s (q, g, v) H locs → lv_has ls 12 [(0, .ref (q 25)), (1, .int x1), (3, .int x3), (4, .ref (q x4)), (6, .int x6), (7, .int x7), (8, .int x8), (9, .ref (q x9)), (10, .int x10)] → bx_W p l e s m args below meth c Z A q0 g0 enV o (rB + 8) g H locs (F0 m 92 ls [])) : ∀ (x1 : Int32) (x3 : Int32) (x4 : Nat) (x7 : Int32) (x8 : Int32) (x9 : Nat) (x10 : Int32) (y0 : Nat) (g : Nat → Nat) (v : mS) (q : Nat → Nat) (H : Heap) (locs : List Loc) (ls : Array Slot), f_N_reduce_140 Kr K92 x1 x3 x4 x7 x8 x9 x10 y0 g v = some o → qs q0 q → gL g0 ≤ gL g → gL g ≤ gL o.2.1 → bn_H Z A s (q, g, v) H locs → lv_has ls 12 [(0, .ref (q 25)), (1, .int x1), (3, .int x3), (4, .ref (q x4)), (7, .int x7), (8, .int x8), (9, .ref (q x9)), (10, .int x10)] → bx_W p l e s m args below meth c Z A q0 g0 enV o (rB + 8) g H locs (F0 m 140 ls [.ref (q y0)]) := by
  have hx := C0.1
  have hb := C0.2.1
  have hl0 := C0.2.2.2.2.2.2.2.2.2
  intro x1 x3 x4 x7 x8 x9 x10 y0 g v q H locs ls h hq hm0 hm hH hl
  unfold f_N_reduce_140 at h
  have hcl9 := bx_room (h0 := (rB + 8)) (o := o) hm0 hm
  obtain ⟨hgx4, h⟩ := gd_out h
  obtain ⟨hgx9, h⟩ := gd_out h
  obtain ⟨hgy0, h⟩ := gd_out h
  refine lv_astore (lv' := [(11, .ref (q y0)), (0, .ref (q 25)), (1, .int x1), (3, .int x3), (4, .ref (q x4)), (7, .int x7), (8, .int x8), (9, .ref (q x9)), (10, .int x10)]) hx hb d_N_reduce_140 hl (by decide) rfl (fun ls hl => ?_)
  refine lv_aload hx hb d_N_reduce_142 (lv_at hl 0 rfl) ?_
  obtain ⟨r_3, v_1, hc_2, h⟩ := bi_out h
  refine bn_ci (r := r_3) (w := (q, g, v_1)) (as := []) (rest := []) C0 hH (ci := 2) (rowB_k hgy0) (by decide) rfl (c_R_size hl0 hc_2) yy_R_size q_613 ⟨by simp only [bn_rm, dK]; omega, by simp only [bn_rm, dK]; omega⟩ rfl hl.1 rfl (Nat.le_of_ble_eq_true rfl) hcl9 d_N_reduce_144 (fun H locs hH => ?_)
  refine lv_if_ne (tgt := 154) hx hb d_N_reduce_147 (by decide) (fun c_4 => ?_) (fun c_4 => ?_)
  · rw [if_neg c_4] at h
    refine lv_aload hx hb d_N_reduce_154 (lv_at hl 0 rfl) ?_
    refine lv_aload hx hb d_N_reduce_156 (lv_at hl 0 rfl) ?_
    obtain ⟨r_7, v_5, hc_6, h⟩ := bi_out h
    refine bn_ci (r := r_7) (w := (q, g, v_5)) (as := []) (rest := [.ref (q y0)]) C0 hH (ci := 2) (rowB_k hgy0) (by decide) rfl (c_R_size hl0 hc_6) yy_R_size q_613 ⟨by simp only [bn_rm, dK]; omega, by simp only [bn_rm, dK]; omega⟩ rfl hl.1 rfl (Nat.le_of_ble_eq_true rfl) hcl9 d_N_reduce_158 (fun H locs hH => ?_)
    refine lv_iconst (v := 1) hx hb d_N_reduce_161 (by decide) ?_
    refine lv_isub hx hb d_N_reduce_162 ?_
    obtain ⟨r_10, v_8, hc_9, h⟩ := bi_out h
    refine bn_ci (r := r_10) (w := (q, g, v_8)) (as := [.int (r_7 - 1)]) (rest := []) C0 hH (ci := 2) (rowB_k hgy0) (by decide) rfl (c_R_at hl0 hc_9) yy_R_at q_637 ⟨by simp only [bn_rm, dK]; omega, by simp only [bn_rm, dK]; omega⟩ rfl hl.1 rfl (Nat.le_of_ble_eq_true rfl) hcl9 d_N_reduce_163 (fun H locs hH => ?_)
    exact w_N_reduce_166 hMr hKr C0 hr hnx hK92 _ _ _ _ _ _ _ _ _ _ _ _ _ _ _ h hq hm0 hm hH (lv_sub hl [1, 2, 3, 4, 5, 6, 7, 8, 0] rfl)
  · rw [if_pos c_4] at h
    refine lv_iconst (v := 0) hx hb d_N_reduce_150 (by decide) ?_
    refine lv_goto (tgt := 166) hx hb d_N_reduce_151 (by decide) ?_
    exact w_N_reduce_166 hMr hKr C0 hr hnx hK92 _ _ _ _ _ _ _ _ _ _ _ _ _ _ _ h hq hm0 hm hH (lv_sub hl [1, 2, 3, 4, 5, 6, 7, 8, 0] rfl)
def f_N_reduce_212 (Kr : (Nat → Nat) → mS → Int32 → Int32 → Int32 → Nat → Option (bO Unit))   (g : Nat → Nat) (v : mS) : Option (bO Unit) := some (.inl (), g, v)
set_option maxHeartbeats 4000000 in
set_option maxRecDepth 100000 in
theorem w_N_reduce_212 {p : Program} {l : Launch} {e : Env} {s : State} {m : MethodId} {args : Array Value} {below : List Frame} {meth : Method} {c : Code} {Z : bZ} {A : Nat → Prop} {q0 g0 : Nat → Nat} {o : bO Unit} {rB : Nat} {Kr : (Nat → Nat) → mS → Int32 → Int32 → Int32 → Nat → Option (bO Unit)} (hMr : ∀ {g : Nat → Nat} {v : mS} {z1 : Int32} {z2 : Int32} {z3 : Int32} {z4 : Nat} {o : bO Unit}, Kr g v z1 z2 z3 z4 = some o → gL g ≤ gL o.2.1) (hKr : ∀ {q g : Nat → Nat} {v : mS} {z1 : Int32} {z2 : Int32} {z3 : Int32} {z4 : Nat} {o : bO Unit}, Kr g v z1 z2 z3 z4 = some o → bx_M l Z rB y_N_work b_N_work 6 none [.ref (q 25), .int z1, .int z2, .int z3, .ref (q z4)] q g v enV o) (C0 : bn_C "FilterBench$Runner" b_N_reduce 12 Z A p l s m args meth c) (hr : meth.sig.returnType = none) (hnx : ∀ x ∈ c.exceptionTable.toList, False) : ∀  (g : Nat → Nat) (v : mS) (q : Nat → Nat) (H : Heap) (locs : List Loc) (ls : Array Slot), f_N_reduce_212 Kr   g v = some o → qs q0 q → gL g0 ≤ gL g → gL g ≤ gL o.2.1 → bn_H Z A s (q, g, v) H locs → lv_has ls 12 [] → bx_W p l e s m args below meth c Z A q0 g0 enV o (rB + 8) g H locs (F0 m 212 ls []) := by
  have hx := C0.1
  have hb := C0.2.1
  have hl0 := C0.2.2.2.2.2.2.2.2.2
  intro  g v q H locs ls h hq hm0 hm hH hl
  unfold f_N_reduce_212 at h
  have hcl9 := bx_room (h0 := (rB + 8)) (o := o) hm0 hm
  exact bx_vret C0 hr hq hH hm0 d_N_reduce_212 h
def f_N_reduce_181 (Kr : (Nat → Nat) → mS → Int32 → Int32 → Int32 → Nat → Option (bO Unit))  (x4 : Nat) (x6 : Int32) (x7 : Int32) (x8 : Int32) (x9 : Nat) (g : Nat → Nat) (v : mS) : Option (bO Unit) := gd (rowB x4) (gd (rowB x9) (gd (inB x7 4) (nm (sU v 26 (x7 : Int32).toNatClampNeg x8) fun v_2 => bv (f_R_endAs g v_2 x4 x9) fun v_3 => bi (f_R_isEnded g v_3 x4) fun r_7 v_5 => if r_7 = 0 then (bo (f_R_put g v_5 x4 x6) fun r9 g9 v9 => f_N_reduce_212 Kr g9 v9) else (f_N_reduce_212 Kr g v_5))))
set_option maxHeartbeats 4000000 in
set_option maxRecDepth 100000 in
theorem w_N_reduce_181 {p : Program} {l : Launch} {e : Env} {s : State} {m : MethodId} {args : Array Value} {below : List Frame} {meth : Method} {c : Code} {Z : bZ} {A : Nat → Prop} {q0 g0 : Nat → Nat} {o : bO Unit} {rB : Nat} {Kr : (Nat → Nat) → mS → Int32 → Int32 → Int32 → Nat → Option (bO Unit)} (hMr : ∀ {g : Nat → Nat} {v : mS} {z1 : Int32} {z2 : Int32} {z3 : Int32} {z4 : Nat} {o : bO Unit}, Kr g v z1 z2 z3 z4 = some o → gL g ≤ gL o.2.1) (hKr : ∀ {q g : Nat → Nat} {v : mS} {z1 : Int32} {z2 : Int32} {z3 : Int32} {z4 : Nat} {o : bO Unit}, Kr g v z1 z2 z3 z4 = some o → bx_M l Z rB y_N_work b_N_work 6 none [.ref (q 25), .int z1, .int z2, .int z3, .ref (q z4)] q g v enV o) (C0 : bn_C "FilterBench$Runner" b_N_reduce 12 Z A p l s m args meth c) (hr : meth.sig.returnType = none) (hnx : ∀ x ∈ c.exceptionTable.toList, False) : ∀ (x4 : Nat) (x6 : Int32) (x7 : Int32) (x8 : Int32) (x9 : Nat) (g : Nat → Nat) (v : mS) (q : Nat → Nat) (H : Heap) (locs : List Loc) (ls : Array Slot), f_N_reduce_181 Kr  x4 x6 x7 x8 x9 g v = some o → qs q0 q → gL g0 ≤ gL g → gL g ≤ gL o.2.1 → bn_H Z A s (q, g, v) H locs → lv_has ls 12 [(0, .ref (q 25)), (4, .ref (q x4)), (6, .int x6), (7, .int x7), (8, .int x8), (9, .ref (q x9))] → bx_W p l e s m args below meth c Z A q0 g0 enV o (rB + 8) g H locs (F0 m 181 ls []) := by
  have hx := C0.1
  have hb := C0.2.1
  have hl0 := C0.2.2.2.2.2.2.2.2.2
  intro x4 x6 x7 x8 x9 g v q H locs ls h hq hm0 hm hH hl
  unfold f_N_reduce_181 at h
  have hcl9 := bx_room (h0 := (rB + 8)) (o := o) hm0 hm
  obtain ⟨hgx4, h⟩ := gd_out h
  obtain ⟨hgx9, h⟩ := gd_out h
  refine lv_aload_n hx hb d_N_reduce_181 rfl (lv_at hl 0 rfl) ?_
  refine bn_g_N_variables ⟨by decide, by decide⟩ C0 hH d_N_reduce_182 ?_
  refine lv_iload hx hb d_N_reduce_185 (lv_at hl 3 rfl) ?_
  refine lv_iload hx hb d_N_reduce_187 (lv_at hl 4 rfl) ?_
  obtain ⟨g_1, h⟩ := gd_out h
  obtain ⟨v_2, hv_2, h⟩ := nm_out h
  refine bn_sto ⟨by decide, by decide⟩ C0 hH (inB_in g_1) d_N_reduce_189 (fun H locs hH => ?_)
  have hH : bn_H Z A s (q, g, v_2) H locs := by rw [hv_2]; exact hH
  refine lv_aload hx hb d_N_reduce_190 (lv_at hl 1 rfl) ?_
  refine lv_aload hx hb d_N_reduce_192 (lv_at hl 5 rfl) ?_
  obtain ⟨v_3, hc_4, h⟩ := bv_out h
  refine bn_cv (w := (q, g, v_3)) (as := [.ref (q x9)]) (rest := []) C0 hH (ci := 2) (rowB_k hgx4) (by decide) rfl (c_R_endAs hl0 hc_4) yy_R_endAs q_604 ⟨by simp only [bn_rm, dK]; omega, by simp only [bn_rm, dK]; omega⟩ rfl hl.1 rfl (Nat.le_of_ble_eq_true rfl) hcl9 d_N_reduce_194 (fun H locs hH => ?_)
  refine lv_aload hx hb d_N_reduce_197 (lv_at hl 1 rfl) ?_
  obtain ⟨r_7, v_5, hc_6, h⟩ := bi_out h
  refine bn_ci (r := r_7) (w := (q, g, v_5)) (as := []) (rest := []) C0 hH (ci := 2) (rowB_k hgx4) (by decide) rfl (c_R_isEnded hl0 hc_6) yy_R_isEnded q_575 ⟨by simp only [bn_rm, dK]; omega, by simp only [bn_rm, dK]; omega⟩ rfl hl.1 rfl (Nat.le_of_ble_eq_true rfl) hcl9 d_N_reduce_199 (fun H locs hH => ?_)
  refine lv_if_ne (tgt := 212) hx hb d_N_reduce_202 (by decide) (fun c_8 => ?_) (fun c_8 => ?_)
  · rw [if_neg c_8] at h
    exact w_N_reduce_212 hMr hKr C0 hr hnx   _ _ _ _ _ _ h hq hm0 hm hH (lv_sub hl [] rfl)
  · rw [if_pos c_8] at h
    refine lv_aload hx hb d_N_reduce_205 (lv_at hl 1 rfl) ?_
    refine lv_iload hx hb d_N_reduce_207 (lv_at hl 2 rfl) ?_
    obtain ⟨o1, hc, hm2, ht9, hx1, hk9⟩ := bo_out h
    have hm1 := mn_R_put hc
    refine bx_cV (as := [.int x6]) (rest := []) C0 hnx hq hH hm0 hm1 hm2 ht9 (ci := 2) (rowB_k hgx4) (by decide) rfl (c_R_put hl0 hc) yy_R_put q_508 ⟨by first | omega | (simp only [dK]; omega), by first | omega | (simp only [dK]; omega)⟩ rfl hl.1 rfl (Nat.le_of_ble_eq_true rfl) d_N_reduce_209 hx1 (fun r9 q1 H locs hr1 hq0 hq1 hm9 hH => ?_)
    have h := hk9 r9 hr1
    exact w_N_reduce_212 hMr hKr C0 hr hnx   _ _ _ _ _ _ h hq0 hm9 hm2 hH (lv_sub hl [] rfl)
def f_N_reduce_92 (Kr : (Nat → Nat) → mS → Int32 → Int32 → Int32 → Nat → Option (bO Unit))  : Nat → Int32 → Int32 → Nat → Int32 → Int32 → Int32 → Nat → Int32 → (Nat → Nat) → mS → Option (bO Unit)
  | 0, _, _, _, _, _, _, _, _, _, _ => none
  | n + 1, x1, x3, x4, x6, x7, x8, x9, x10, g, v => gd (rowB x4) (gd (rowB x9) (bi (f_R_size g v x9) fun r_3 v_1 => if r_3 ≤ x10 then (f_N_reduce_181 Kr x4 x6 x7 x8 x9 g v_1) else (bi (f_R_isEnded g v_1 x4) fun r_7 v_5 => if r_7 = 0 then (bi (f_R_at g v_5 x9 x10) fun r_11 v_9 => gd (inB x7 4) (nm (sU v_9 26 (x7 : Int32).toNatClampNeg r_11) fun v_13 => gd (filB (9 + 4 * g 25)) (bi (f_F_thirdPart g v_13 ((9 + 4 * g 25)) x1) fun r_17 v_15 => bo (f_N_rowOf Kr g v_15 r_17 x6 x3 1) fun r9 g9 v9 => f_N_reduce_140 Kr (f_N_reduce_92 Kr n) x1 x3 x4 x7 x8 x9 x10 r9 g9 v9))) else (f_N_reduce_181 Kr x4 x6 x7 x8 x9 g v_5))))
set_option maxHeartbeats 4000000 in
set_option maxRecDepth 100000 in
theorem w_N_reduce_92 {p : Program} {l : Launch} {e : Env} {s : State} {m : MethodId} {args : Array Value} {below : List Frame} {meth : Method} {c : Code} {Z : bZ} {A : Nat → Prop} {q0 g0 : Nat → Nat} {o : bO Unit} {rB : Nat} {Kr : (Nat → Nat) → mS → Int32 → Int32 → Int32 → Nat → Option (bO Unit)} (hMr : ∀ {g : Nat → Nat} {v : mS} {z1 : Int32} {z2 : Int32} {z3 : Int32} {z4 : Nat} {o : bO Unit}, Kr g v z1 z2 z3 z4 = some o → gL g ≤ gL o.2.1) (hKr : ∀ {q g : Nat → Nat} {v : mS} {z1 : Int32} {z2 : Int32} {z3 : Int32} {z4 : Nat} {o : bO Unit}, Kr g v z1 z2 z3 z4 = some o → bx_M l Z rB y_N_work b_N_work 6 none [.ref (q 25), .int z1, .int z2, .int z3, .ref (q z4)] q g v enV o) (C0 : bn_C "FilterBench$Runner" b_N_reduce 12 Z A p l s m args meth c) (hr : meth.sig.returnType = none) (hnx : ∀ x ∈ c.exceptionTable.toList, False) : ∀ (n : Nat) (x1 : Int32) (x3 : Int32) (x4 : Nat) (x6 : Int32) (x7 : Int32) (x8 : Int32) (x9 : Nat) (x10 : Int32) (g : Nat → Nat) (v : mS) (q : Nat → Nat) (H : Heap) (locs : List Loc) (ls : Array Slot), f_N_reduce_92 Kr  n x1 x3 x4 x6 x7 x8 x9 x10 g v = some o → qs q0 q → gL g0 ≤ gL g → gL g ≤ gL o.2.1 → bn_H Z A s (q, g, v) H locs → lv_has ls 12 [(0, .ref (q 25)), (1, .int x1), (3, .int x3), (4, .ref (q x4)), (6, .int x6), (7, .int x7), (8, .int x8), (9, .ref (q x9)), (10, .int x10)] → bx_W p l e s m args below meth c Z A q0 g0 enV o (rB + 8) g H locs (F0 m 92 ls []) := by
  have hx := C0.1
  have hb := C0.2.1
  have hl0 := C0.2.2.2.2.2.2.2.2.2
  intro n
  induction n with
  | zero =>
    intro x1 x3 x4 x6 x7 x8 x9 x10 g v q H locs ls h hq hm0 hm hH hl
    cases h
  | succ n ih =>
    intro x1 x3 x4 x6 x7 x8 x9 x10 g v q H locs ls h hq hm0 hm hH hl
    rw [f_N_reduce_92] at h
    have hcl9 := bx_room (h0 := (rB + 8)) (o := o) hm0 hm
    obtain ⟨hgx4, h⟩ := gd_out h
    obtain ⟨hgx9, h⟩ := gd_out h
    refine lv_iload hx hb d_N_reduce_92 (lv_at hl 8 rfl) ?_
    refine lv_aload hx hb d_N_reduce_94 (lv_at hl 7 rfl) ?_
    obtain ⟨r_3, v_1, hc_2, h⟩ := bi_out h
    refine bn_ci (r := r_3) (w := (q, g, v_1)) (as := []) (rest := [.int x10]) C0 hH (ci := 2) (rowB_k hgx9) (by decide) rfl (c_R_size hl0 hc_2) yy_R_size q_613 ⟨by simp only [bn_rm, dK]; omega, by simp only [bn_rm, dK]; omega⟩ rfl hl.1 rfl (Nat.le_of_ble_eq_true rfl) hcl9 d_N_reduce_96 (fun H locs hH => ?_)
    refine lv_icmp_ge (tgt := 181) hx hb d_N_reduce_99 (by decide) (fun c_4 => ?_) (fun c_4 => ?_)
    · rw [if_pos c_4] at h
      exact w_N_reduce_181 hMr hKr C0 hr hnx  _ _ _ _ _ _ _ _ _ _ _ h hq hm0 hm hH (lv_sub hl [0, 3, 4, 5, 6, 7] rfl)
    · rw [if_neg c_4] at h
      refine lv_aload hx hb d_N_reduce_102 (lv_at hl 3 rfl) ?_
      obtain ⟨r_7, v_5, hc_6, h⟩ := bi_out h
      refine bn_ci (r := r_7) (w := (q, g, v_5)) (as := []) (rest := []) C0 hH (ci := 2) (rowB_k hgx4) (by decide) rfl (c_R_isEnded hl0 hc_6) yy_R_isEnded q_575 ⟨by simp only [bn_rm, dK]; omega, by simp only [bn_rm, dK]; omega⟩ rfl hl.1 rfl (Nat.le_of_ble_eq_true rfl) hcl9 d_N_reduce_104 (fun H locs hH => ?_)
      refine lv_if_ne (tgt := 181) hx hb d_N_reduce_107 (by decide) (fun c_8 => ?_) (fun c_8 => ?_)
      · rw [if_neg c_8] at h
        exact w_N_reduce_181 hMr hKr C0 hr hnx  _ _ _ _ _ _ _ _ _ _ _ h hq hm0 hm hH (lv_sub hl [0, 3, 4, 5, 6, 7] rfl)
      · rw [if_pos c_8] at h
        refine lv_aload_n hx hb d_N_reduce_110 rfl (lv_at hl 0 rfl) ?_
        refine bn_g_N_variables ⟨by decide, by decide⟩ C0 hH d_N_reduce_111 ?_
        refine lv_iload hx hb d_N_reduce_114 (lv_at hl 5 rfl) ?_
        refine lv_aload hx hb d_N_reduce_116 (lv_at hl 7 rfl) ?_
        refine lv_iload hx hb d_N_reduce_118 (lv_at hl 8 rfl) ?_
        obtain ⟨r_11, v_9, hc_10, h⟩ := bi_out h
        refine bn_ci (r := r_11) (w := (q, g, v_9)) (as := [.int x10]) (rest := [.int x7, .ref (q 26)]) C0 hH (ci := 2) (rowB_k hgx9) (by decide) rfl (c_R_at hl0 hc_10) yy_R_at q_637 ⟨by simp only [bn_rm, dK]; omega, by simp only [bn_rm, dK]; omega⟩ rfl hl.1 rfl (Nat.le_of_ble_eq_true rfl) hcl9 d_N_reduce_120 (fun H locs hH => ?_)
        obtain ⟨g_12, h⟩ := gd_out h
        obtain ⟨v_13, hv_13, h⟩ := nm_out h
        refine bn_sto ⟨by decide, by decide⟩ C0 hH (inB_in g_12) d_N_reduce_123 (fun H locs hH => ?_)
        have hH : bn_H Z A s (q, g, v_13) H locs := by rw [hv_13]; exact hH
        refine lv_aload_n hx hb d_N_reduce_124 rfl (lv_at hl 0 rfl) ?_
        refine lv_aload_n hx hb d_N_reduce_125 rfl (lv_at hl 0 rfl) ?_
        obtain ⟨g_14, h⟩ := gd_out h
        refine bn_g_N_filter ⟨by decide, by decide⟩ C0 hH d_N_reduce_126 ?_
        refine lv_iload_n hx hb d_N_reduce_129 rfl (lv_at hl 1 rfl) ?_
        obtain ⟨r_17, v_15, hc_16, h⟩ := bi_out h
        refine bn_ci (r := r_17) (w := (q, g, v_15)) (as := [.int x1]) (rest := [.ref (q 25)]) C0 hH (ci := 1) (filB_k g_14) (by decide) rfl (c_F_thirdPart hl0 hc_16) yy_F_thirdPart q_728 ⟨by simp only [bn_rm, dK]; omega, by simp only [bn_rm, dK]; omega⟩ rfl hl.1 rfl (Nat.le_of_ble_eq_true rfl) hcl9 d_N_reduce_130 (fun H locs hH => ?_)
        refine lv_iload hx hb d_N_reduce_133 (lv_at hl 4 rfl) ?_
        refine lv_iload_n hx hb d_N_reduce_135 rfl (lv_at hl 2 rfl) ?_
        refine lv_iconst (v := 1) hx hb d_N_reduce_136 (by decide) ?_
        obtain ⟨o1, hc, hm2, ht9, hx1, hk9⟩ := bo_out h
        have hm1 := mn_N_rowOf hc
        refine bx_cV (as := [.int r_17, .int x6, .int x3, .int 1]) (rest := []) C0 hnx hq hH hm0 hm1 hm2 ht9 (ci := 3) ⟨by decide, by decide⟩ (by decide) rfl (c_N_rowOf hMr hKr hl0 hc) yy_N_rowOf q_599 ⟨by first | omega | (simp only [dK]; omega), by first | omega | (simp only [dK]; omega)⟩ rfl hl.1 rfl (Nat.le_of_ble_eq_true rfl) d_N_reduce_137 hx1 (fun r9 q1 H locs hr1 hq0 hq1 hm9 hH => ?_)
        have h := hk9 r9 hr1
        have e9 : q1 25 = q 25 := (hq1 25 (by decide) (by decide))
        try rw [← e9] at hl
        try rw [← e9]
        have e9 : q1 x4 = q x4 := (hq1 x4 (rowB_ne hgx4).1 (rowB_ne hgx4).2)
        try rw [← e9] at hl
        try rw [← e9]
        have e9 : q1 x9 = q x9 := (hq1 x9 (rowB_ne hgx9).1 (rowB_ne hgx9).2)
        try rw [← e9] at hl
        try rw [← e9]
        exact w_N_reduce_140 hMr hKr C0 hr hnx ih _ _ _ _ _ _ _ _ _ _ _ _ _ _ h hq0 hm9 hm2 hH (lv_sub hl [0, 1, 2, 3, 5, 6, 7, 8] rfl)
def f_N_reduce_87 (Kr : (Nat → Nat) → mS → Int32 → Int32 → Int32 → Nat → Option (bO Unit))  (x1 : Int32) (x3 : Int32) (x4 : Nat) (x6 : Int32) (x7 : Int32) (x8 : Int32) (y0 : Nat) (g : Nat → Nat) (v : mS) : Option (bO Unit) := gd (rowB x4) (gd (rowB y0) (f_N_reduce_92 Kr fu x1 x3 x4 x6 x7 x8 y0 0 g v))
set_option maxHeartbeats 4000000 in
set_option maxRecDepth 100000 in
theorem w_N_reduce_87 {p : Program} {l : Launch} {e : Env} {s : State} {m : MethodId} {args : Array Value} {below : List Frame} {meth : Method} {c : Code} {Z : bZ} {A : Nat → Prop} {q0 g0 : Nat → Nat} {o : bO Unit} {rB : Nat} {Kr : (Nat → Nat) → mS → Int32 → Int32 → Int32 → Nat → Option (bO Unit)} (hMr : ∀ {g : Nat → Nat} {v : mS} {z1 : Int32} {z2 : Int32} {z3 : Int32} {z4 : Nat} {o : bO Unit}, Kr g v z1 z2 z3 z4 = some o → gL g ≤ gL o.2.1) (hKr : ∀ {q g : Nat → Nat} {v : mS} {z1 : Int32} {z2 : Int32} {z3 : Int32} {z4 : Nat} {o : bO Unit}, Kr g v z1 z2 z3 z4 = some o → bx_M l Z rB y_N_work b_N_work 6 none [.ref (q 25), .int z1, .int z2, .int z3, .ref (q z4)] q g v enV o) (C0 : bn_C "FilterBench$Runner" b_N_reduce 12 Z A p l s m args meth c) (hr : meth.sig.returnType = none) (hnx : ∀ x ∈ c.exceptionTable.toList, False) : ∀ (x1 : Int32) (x3 : Int32) (x4 : Nat) (x6 : Int32) (x7 : Int32) (x8 : Int32) (y0 : Nat) (g : Nat → Nat) (v : mS) (q : Nat → Nat) (H : Heap) (locs : List Loc) (ls : Array Slot), f_N_reduce_87 Kr  x1 x3 x4 x6 x7 x8 y0 g v = some o → qs q0 q → gL g0 ≤ gL g → gL g ≤ gL o.2.1 → bn_H Z A s (q, g, v) H locs → lv_has ls 12 [(0, .ref (q 25)), (1, .int x1), (3, .int x3), (4, .ref (q x4)), (6, .int x6), (7, .int x7), (8, .int x8)] → bx_W p l e s m args below meth c Z A q0 g0 enV o (rB + 8) g H locs (F0 m 87 ls [.ref (q y0)]) := by
  have hx := C0.1
  have hb := C0.2.1
  have hl0 := C0.2.2.2.2.2.2.2.2.2
  intro x1 x3 x4 x6 x7 x8 y0 g v q H locs ls h hq hm0 hm hH hl
  unfold f_N_reduce_87 at h
  have hcl9 := bx_room (h0 := (rB + 8)) (o := o) hm0 hm
  obtain ⟨hgx4, h⟩ := gd_out h
  obtain ⟨hgy0, h⟩ := gd_out h
  refine lv_astore (lv' := [(9, .ref (q y0)), (0, .ref (q 25)), (1, .int x1), (3, .int x3), (4, .ref (q x4)), (6, .int x6), (7, .int x7), (8, .int x8)]) hx hb d_N_reduce_87 hl (by decide) rfl (fun ls hl => ?_)
  refine lv_iconst (v := 0) hx hb d_N_reduce_89 (by decide) ?_
  refine lv_istore (lv' := [(10, .int 0), (9, .ref (q y0)), (0, .ref (q 25)), (1, .int x1), (3, .int x3), (4, .ref (q x4)), (6, .int x6), (7, .int x7), (8, .int x8)]) hx hb d_N_reduce_90 hl (by decide) rfl (fun ls hl => ?_)
  exact w_N_reduce_92 hMr hKr C0 hr hnx  fu _ _ _ _ _ _ _ _ _ _ _ _ _ _ h hq hm0 hm hH (lv_sub hl [2, 3, 4, 5, 6, 7, 8, 1, 0] rfl)
def f_N_reduce_51 (Kr : (Nat → Nat) → mS → Int32 → Int32 → Int32 → Nat → Option (bO Unit))  (x1 : Int32) (x2 : Int32) (x3 : Int32) (x4 : Nat) (y0 : Int32) (g : Nat → Nat) (v : mS) : Option (bO Unit) := gd (rowB x4) (gd (filB (9 + 4 * g 25)) (bi (f_F_choiceAt g v ((9 + 4 * g 25)) x1) fun r_4 v_2 => gd (inB r_4 4) (nm (v_2 26 (r_4 : Int32).toNatClampNeg) fun x8_6 => gd (filB (9 + 4 * g 25)) (bi (f_F_firstPart g v_2 ((9 + 4 * g 25)) x1) fun r_10 v_8 => bo (f_N_rowOf Kr g v_8 r_10 x2 x3 0) fun r9 g9 v9 => f_N_reduce_87 Kr x1 x3 x4 y0 r_4 x8_6 r9 g9 v9))))
set_option maxHeartbeats 4000000 in
set_option maxRecDepth 100000 in
theorem w_N_reduce_51 {p : Program} {l : Launch} {e : Env} {s : State} {m : MethodId} {args : Array Value} {below : List Frame} {meth : Method} {c : Code} {Z : bZ} {A : Nat → Prop} {q0 g0 : Nat → Nat} {o : bO Unit} {rB : Nat} {Kr : (Nat → Nat) → mS → Int32 → Int32 → Int32 → Nat → Option (bO Unit)} (hMr : ∀ {g : Nat → Nat} {v : mS} {z1 : Int32} {z2 : Int32} {z3 : Int32} {z4 : Nat} {o : bO Unit}, Kr g v z1 z2 z3 z4 = some o → gL g ≤ gL o.2.1) (hKr : ∀ {q g : Nat → Nat} {v : mS} {z1 : Int32} {z2 : Int32} {z3 : Int32} {z4 : Nat} {o : bO Unit}, Kr g v z1 z2 z3 z4 = some o → bx_M l Z rB y_N_work b_N_work 6 none [.ref (q 25), .int z1, .int z2, .int z3, .ref (q z4)] q g v enV o) (C0 : bn_C "FilterBench$Runner" b_N_reduce 12 Z A p l s m args meth c) (hr : meth.sig.returnType = none) (hnx : ∀ x ∈ c.exceptionTable.toList, False) : ∀ (x1 : Int32) (x2 : Int32) (x3 : Int32) (x4 : Nat) (y0 : Int32) (g : Nat → Nat) (v : mS) (q : Nat → Nat) (H : Heap) (locs : List Loc) (ls : Array Slot), f_N_reduce_51 Kr  x1 x2 x3 x4 y0 g v = some o → qs q0 q → gL g0 ≤ gL g → gL g ≤ gL o.2.1 → bn_H Z A s (q, g, v) H locs → lv_has ls 12 [(0, .ref (q 25)), (1, .int x1), (2, .int x2), (3, .int x3), (4, .ref (q x4))] → bx_W p l e s m args below meth c Z A q0 g0 enV o (rB + 8) g H locs (F0 m 51 ls [.int y0]) := by
  have hx := C0.1
  have hb := C0.2.1
  have hl0 := C0.2.2.2.2.2.2.2.2.2
  intro x1 x2 x3 x4 y0 g v q H locs ls h hq hm0 hm hH hl
  unfold f_N_reduce_51 at h
  have hcl9 := bx_room (h0 := (rB + 8)) (o := o) hm0 hm
  obtain ⟨hgx4, h⟩ := gd_out h
  refine lv_istore (lv' := [(6, .int y0), (0, .ref (q 25)), (1, .int x1), (2, .int x2), (3, .int x3), (4, .ref (q x4))]) hx hb d_N_reduce_51 hl (by decide) rfl (fun ls hl => ?_)
  refine lv_aload_n hx hb d_N_reduce_53 rfl (lv_at hl 1 rfl) ?_
  obtain ⟨g_1, h⟩ := gd_out h
  refine bn_g_N_filter ⟨by decide, by decide⟩ C0 hH d_N_reduce_54 ?_
  refine lv_iload_n hx hb d_N_reduce_57 rfl (lv_at hl 2 rfl) ?_
  obtain ⟨r_4, v_2, hc_3, h⟩ := bi_out h
  refine bn_ci (r := r_4) (w := (q, g, v_2)) (as := [.int x1]) (rest := []) C0 hH (ci := 1) (filB_k g_1) (by decide) rfl (c_F_choiceAt hl0 hc_3) yy_F_choiceAt q_500 ⟨by simp only [bn_rm, dK]; omega, by simp only [bn_rm, dK]; omega⟩ rfl hl.1 rfl (Nat.le_of_ble_eq_true rfl) hcl9 d_N_reduce_58 (fun H locs hH => ?_)
  refine lv_istore (lv' := [(7, .int r_4), (6, .int y0), (0, .ref (q 25)), (1, .int x1), (2, .int x2), (3, .int x3), (4, .ref (q x4))]) hx hb d_N_reduce_61 hl (by decide) rfl (fun ls hl => ?_)
  refine lv_aload_n hx hb d_N_reduce_63 rfl (lv_at hl 2 rfl) ?_
  refine bn_g_N_variables ⟨by decide, by decide⟩ C0 hH d_N_reduce_64 ?_
  refine lv_iload hx hb d_N_reduce_67 (lv_at hl 0 rfl) ?_
  obtain ⟨g_5, h⟩ := gd_out h
  refine bn_ld ⟨by decide, by decide⟩ C0 hH (inB_in g_5) d_N_reduce_69 ?_
  obtain ⟨x8_6, hx8_6, h⟩ := nm_out h
  refine fu_i hx8_6 ?_
  refine lv_istore (lv' := [(8, .int x8_6), (7, .int r_4), (6, .int y0), (0, .ref (q 25)), (1, .int x1), (2, .int x2), (3, .int x3), (4, .ref (q x4))]) hx hb d_N_reduce_70 hl (by decide) rfl (fun ls hl => ?_)
  refine lv_aload_n hx hb d_N_reduce_72 rfl (lv_at hl 3 rfl) ?_
  refine lv_aload_n hx hb d_N_reduce_73 rfl (lv_at hl 3 rfl) ?_
  obtain ⟨g_7, h⟩ := gd_out h
  refine bn_g_N_filter ⟨by decide, by decide⟩ C0 hH d_N_reduce_74 ?_
  refine lv_iload_n hx hb d_N_reduce_77 rfl (lv_at hl 4 rfl) ?_
  obtain ⟨r_10, v_8, hc_9, h⟩ := bi_out h
  refine bn_ci (r := r_10) (w := (q, g, v_8)) (as := [.int x1]) (rest := [.ref (q 25)]) C0 hH (ci := 1) (filB_k g_7) (by decide) rfl (c_F_firstPart hl0 hc_9) yy_F_firstPart q_570 ⟨by simp only [bn_rm, dK]; omega, by simp only [bn_rm, dK]; omega⟩ rfl hl.1 rfl (Nat.le_of_ble_eq_true rfl) hcl9 d_N_reduce_78 (fun H locs hH => ?_)
  refine lv_iload_n hx hb d_N_reduce_81 rfl (lv_at hl 5 rfl) ?_
  refine lv_iload_n hx hb d_N_reduce_82 rfl (lv_at hl 6 rfl) ?_
  refine lv_iconst (v := 0) hx hb d_N_reduce_83 (by decide) ?_
  obtain ⟨o1, hc, hm2, ht9, hx1, hk9⟩ := bo_out h
  have hm1 := mn_N_rowOf hc
  refine bx_cV (as := [.int r_10, .int x2, .int x3, .int 0]) (rest := []) C0 hnx hq hH hm0 hm1 hm2 ht9 (ci := 3) ⟨by decide, by decide⟩ (by decide) rfl (c_N_rowOf hMr hKr hl0 hc) yy_N_rowOf q_599 ⟨by first | omega | (simp only [dK]; omega), by first | omega | (simp only [dK]; omega)⟩ rfl hl.1 rfl (Nat.le_of_ble_eq_true rfl) d_N_reduce_84 hx1 (fun r9 q1 H locs hr1 hq0 hq1 hm9 hH => ?_)
  have h := hk9 r9 hr1
  have e9 : q1 25 = q 25 := (hq1 25 (by decide) (by decide))
  try rw [← e9] at hl
  try rw [← e9]
  have e9 : q1 x4 = q x4 := (hq1 x4 (rowB_ne hgx4).1 (rowB_ne hgx4).2)
  try rw [← e9] at hl
  try rw [← e9]
  exact w_N_reduce_87 hMr hKr C0 hr hnx  _ _ _ _ _ _ _ _ _ _ _ _ _ h hq0 hm9 hm2 hH (lv_sub hl [3, 4, 6, 7, 2, 1, 0] rfl)
def f_N_reduce_15 (Kr : (Nat → Nat) → mS → Int32 → Int32 → Int32 → Nat → Option (bO Unit))  (x1 : Int32) (x2 : Int32) (x3 : Int32) (x4 : Nat) (y0 : Nat) (g : Nat → Nat) (v : mS) : Option (bO Unit) := gd (rowB x4) (gd (rowB y0) (bi (f_R_isEnded g v y0) fun r_3 v_1 => if r_3 = 0 then (bi (f_R_size g v_1 y0) fun r_7 v_5 => if r_7 = 0 then (f_N_reduce_51 Kr x1 x2 x3 x4 0 g v_5) else (bi (f_R_at g v_5 y0 0) fun r_11 v_9 => f_N_reduce_51 Kr x1 x2 x3 x4 r_11 g v_9)) else (bv (f_R_endAs g v_1 x4 y0) fun v_12 => some (.inl (), g, v_12))))
set_option maxHeartbeats 4000000 in
set_option maxRecDepth 100000 in
theorem w_N_reduce_15 {p : Program} {l : Launch} {e : Env} {s : State} {m : MethodId} {args : Array Value} {below : List Frame} {meth : Method} {c : Code} {Z : bZ} {A : Nat → Prop} {q0 g0 : Nat → Nat} {o : bO Unit} {rB : Nat} {Kr : (Nat → Nat) → mS → Int32 → Int32 → Int32 → Nat → Option (bO Unit)} (hMr : ∀ {g : Nat → Nat} {v : mS} {z1 : Int32} {z2 : Int32} {z3 : Int32} {z4 : Nat} {o : bO Unit}, Kr g v z1 z2 z3 z4 = some o → gL g ≤ gL o.2.1) (hKr : ∀ {q g : Nat → Nat} {v : mS} {z1 : Int32} {z2 : Int32} {z3 : Int32} {z4 : Nat} {o : bO Unit}, Kr g v z1 z2 z3 z4 = some o → bx_M l Z rB y_N_work b_N_work 6 none [.ref (q 25), .int z1, .int z2, .int z3, .ref (q z4)] q g v enV o) (C0 : bn_C "FilterBench$Runner" b_N_reduce 12 Z A p l s m args meth c) (hr : meth.sig.returnType = none) (hnx : ∀ x ∈ c.exceptionTable.toList, False) : ∀ (x1 : Int32) (x2 : Int32) (x3 : Int32) (x4 : Nat) (y0 : Nat) (g : Nat → Nat) (v : mS) (q : Nat → Nat) (H : Heap) (locs : List Loc) (ls : Array Slot), f_N_reduce_15 Kr  x1 x2 x3 x4 y0 g v = some o → qs q0 q → gL g0 ≤ gL g → gL g ≤ gL o.2.1 → bn_H Z A s (q, g, v) H locs → lv_has ls 12 [(0, .ref (q 25)), (1, .int x1), (2, .int x2), (3, .int x3), (4, .ref (q x4))] → bx_W p l e s m args below meth c Z A q0 g0 enV o (rB + 8) g H locs (F0 m 15 ls [.ref (q y0)]) := by
  have hx := C0.1
  have hb := C0.2.1
  have hl0 := C0.2.2.2.2.2.2.2.2.2
  intro x1 x2 x3 x4 y0 g v q H locs ls h hq hm0 hm hH hl
  unfold f_N_reduce_15 at h
  have hcl9 := bx_room (h0 := (rB + 8)) (o := o) hm0 hm
  obtain ⟨hgx4, h⟩ := gd_out h
  obtain ⟨hgy0, h⟩ := gd_out h
  refine lv_astore (lv' := [(5, .ref (q y0)), (0, .ref (q 25)), (1, .int x1), (2, .int x2), (3, .int x3), (4, .ref (q x4))]) hx hb d_N_reduce_15 hl (by decide) rfl (fun ls hl => ?_)
  refine lv_aload hx hb d_N_reduce_17 (lv_at hl 0 rfl) ?_
  obtain ⟨r_3, v_1, hc_2, h⟩ := bi_out h
  refine bn_ci (r := r_3) (w := (q, g, v_1)) (as := []) (rest := []) C0 hH (ci := 2) (rowB_k hgy0) (by decide) rfl (c_R_isEnded hl0 hc_2) yy_R_isEnded q_575 ⟨by simp only [bn_rm, dK]; omega, by simp only [bn_rm, dK]; omega⟩ rfl hl.1 rfl (Nat.le_of_ble_eq_true rfl) hcl9 d_N_reduce_19 (fun H locs hH => ?_)
  refine lv_if_eq (tgt := 33) hx hb d_N_reduce_22 (by decide) (fun c_4 => ?_) (fun c_4 => ?_)
  · rw [if_pos c_4] at h
    refine lv_aload hx hb d_N_reduce_33 (lv_at hl 0 rfl) ?_
    obtain ⟨r_7, v_5, hc_6, h⟩ := bi_out h
    refine bn_ci (r := r_7) (w := (q, g, v_5)) (as := []) (rest := []) C0 hH (ci := 2) (rowB_k hgy0) (by decide) rfl (c_R_size hl0 hc_6) yy_R_size q_613 ⟨by simp only [bn_rm, dK]; omega, by simp only [bn_rm, dK]; omega⟩ rfl hl.1 rfl (Nat.le_of_ble_eq_true rfl) hcl9 d_N_reduce_35 (fun H locs hH => ?_)
    refine lv_if_ne (tgt := 45) hx hb d_N_reduce_38 (by decide) (fun c_8 => ?_) (fun c_8 => ?_)
    · rw [if_neg c_8] at h
      refine lv_aload hx hb d_N_reduce_45 (lv_at hl 0 rfl) ?_
      refine lv_iconst (v := 0) hx hb d_N_reduce_47 (by decide) ?_
      obtain ⟨r_11, v_9, hc_10, h⟩ := bi_out h
      refine bn_ci (r := r_11) (w := (q, g, v_9)) (as := [.int 0]) (rest := []) C0 hH (ci := 2) (rowB_k hgy0) (by decide) rfl (c_R_at hl0 hc_10) yy_R_at q_637 ⟨by simp only [bn_rm, dK]; omega, by simp only [bn_rm, dK]; omega⟩ rfl hl.1 rfl (Nat.le_of_ble_eq_true rfl) hcl9 d_N_reduce_48 (fun H locs hH => ?_)
      exact w_N_reduce_51 hMr hKr C0 hr hnx  _ _ _ _ _ _ _ _ _ _ _ h hq hm0 hm hH (lv_sub hl [1, 2, 3, 4, 5] rfl)
    · rw [if_pos c_8] at h
      refine lv_iconst (v := 0) hx hb d_N_reduce_41 (by decide) ?_
      refine lv_goto (tgt := 51) hx hb d_N_reduce_42 (by decide) ?_
      exact w_N_reduce_51 hMr hKr C0 hr hnx  _ _ _ _ _ _ _ _ _ _ _ h hq hm0 hm hH (lv_sub hl [1, 2, 3, 4, 5] rfl)
  · rw [if_neg c_4] at h
    refine lv_aload hx hb d_N_reduce_25 (lv_at hl 5 rfl) ?_
    refine lv_aload hx hb d_N_reduce_27 (lv_at hl 0 rfl) ?_
    obtain ⟨v_12, hc_13, h⟩ := bv_out h
    refine bn_cv (w := (q, g, v_12)) (as := [.ref (q y0)]) (rest := []) C0 hH (ci := 2) (rowB_k hgx4) (by decide) rfl (c_R_endAs hl0 hc_13) yy_R_endAs q_604 ⟨by simp only [bn_rm, dK]; omega, by simp only [bn_rm, dK]; omega⟩ rfl hl.1 rfl (Nat.le_of_ble_eq_true rfl) hcl9 d_N_reduce_29 (fun H locs hH => ?_)
    exact bx_vret C0 hr hq hH hm0 d_N_reduce_32 h
def f_N_reduce (Kr : (Nat → Nat) → mS → Int32 → Int32 → Int32 → Nat → Option (bO Unit)) (g : Nat → Nat) (v : mS) (x1 : Int32) (x2 : Int32) (x3 : Int32) (x4 : Nat) : Option (bO Unit) := mg g (gd (rowB x4) (gd (filB (9 + 4 * g 25)) (bi (f_F_secondPart g v ((9 + 4 * g 25)) x1) fun r_4 v_2 => bo (f_N_rowOf Kr g v_2 r_4 x2 x3 1) fun r9 g9 v9 => f_N_reduce_15 Kr x1 x2 x3 x4 r9 g9 v9)))
theorem mn_N_reduce {Kr : (Nat → Nat) → mS → Int32 → Int32 → Int32 → Nat → Option (bO Unit)} {g : Nat → Nat} {v : mS}  {x1 : Int32} {x2 : Int32} {x3 : Int32} {x4 : Nat} {o : bO Unit} (h : f_N_reduce Kr g v x1 x2 x3 x4 = some o) : gL g ≤ gL o.2.1 := (mg_out h).1
set_option maxHeartbeats 4000000 in
set_option maxRecDepth 100000 in
theorem c_N_reduce {l : Launch} {Z : bZ} {rB : Nat} {Kr : (Nat → Nat) → mS → Int32 → Int32 → Int32 → Nat → Option (bO Unit)} (hMr : ∀ {g : Nat → Nat} {v : mS} {z1 : Int32} {z2 : Int32} {z3 : Int32} {z4 : Nat} {o : bO Unit}, Kr g v z1 z2 z3 z4 = some o → gL g ≤ gL o.2.1) (hKr : ∀ {q g : Nat → Nat} {v : mS} {z1 : Int32} {z2 : Int32} {z3 : Int32} {z4 : Nat} {o : bO Unit}, Kr g v z1 z2 z3 z4 = some o → bx_M l Z rB y_N_work b_N_work 6 none [.ref (q 25), .int z1, .int z2, .int z3, .ref (q z4)] q g v enV o) (hl0 : l.stackTraces = false) {q g : Nat → Nat} {v : mS}  {x1 : Int32} {x2 : Int32} {x3 : Int32} {x4 : Nat} {o : bO Unit} (h : f_N_reduce Kr g v x1 x2 x3 x4 = some o) : bx_M l Z (rB + 8) y_N_reduce b_N_reduce 12 none [.ref (q 25), .int x1, .int x2, .int x3, .ref (q x4)] q g v enV o := by
  refine bx_of hl0 (by decide +kernel) (Nat.le_of_ble_eq_true rfl) ?_
  intro p e s m args below meth c A ls C0 hr hnx hl hH
  have hx := C0.1
  have hb := C0.2.1
  have C0 : bn_C "FilterBench$Runner" b_N_reduce 12 Z A p l s m args meth c := C0
  have hl : lv_has ls 12 [(0, .ref (q 25)), (1, .int x1), (2, .int x2), (3, .int x3), (4, .ref (q x4))] := hl
  obtain ⟨hm, h⟩ := mg_out h
  have hm0 : gL g ≤ gL g := Nat.le_refl _
  have hq : qs q q := qs.rf
  have hcl9 := bx_room (h0 := (rB + 8)) (o := o) hm0 hm
  obtain ⟨hgx4, h⟩ := gd_out h
  refine lv_aload_n hx hb d_N_reduce_0 rfl (lv_at hl 0 rfl) ?_
  refine lv_aload_n hx hb d_N_reduce_1 rfl (lv_at hl 0 rfl) ?_
  obtain ⟨g_1, h⟩ := gd_out h
  refine bn_g_N_filter ⟨by decide, by decide⟩ C0 hH d_N_reduce_2 ?_
  refine lv_iload_n hx hb d_N_reduce_5 rfl (lv_at hl 1 rfl) ?_
  obtain ⟨r_4, v_2, hc_3, h⟩ := bi_out h
  refine bn_ci (r := r_4) (w := (q, g, v_2)) (as := [.int x1]) (rest := [.ref (q 25)]) C0 hH (ci := 1) (filB_k g_1) (by decide) rfl (c_F_secondPart hl0 hc_3) yy_F_secondPart q_579 ⟨by simp only [bn_rm, dK]; omega, by simp only [bn_rm, dK]; omega⟩ rfl hl.1 rfl (Nat.le_of_ble_eq_true rfl) hcl9 d_N_reduce_6 (fun H locs hH => ?_)
  refine lv_iload_n hx hb d_N_reduce_9 rfl (lv_at hl 2 rfl) ?_
  refine lv_iload_n hx hb d_N_reduce_10 rfl (lv_at hl 3 rfl) ?_
  refine lv_iconst (v := 1) hx hb d_N_reduce_11 (by decide) ?_
  obtain ⟨o1, hc, hm2, ht9, hx1, hk9⟩ := bo_out h
  have hm1 := mn_N_rowOf hc
  refine bx_cV (as := [.int r_4, .int x2, .int x3, .int 1]) (rest := []) C0 hnx hq hH hm0 hm1 hm2 ht9 (ci := 3) ⟨by decide, by decide⟩ (by decide) rfl (c_N_rowOf hMr hKr hl0 hc) yy_N_rowOf q_599 ⟨by first | omega | (simp only [dK]; omega), by first | omega | (simp only [dK]; omega)⟩ rfl hl.1 rfl (Nat.le_of_ble_eq_true rfl) d_N_reduce_12 hx1 (fun r9 q1 H locs hr1 hq0 hq1 hm9 hH => ?_)
  have h := hk9 r9 hr1
  have e9 : q1 25 = q 25 := (hq1 25 (by decide) (by decide))
  try rw [← e9] at hl
  try rw [← e9]
  have e9 : q1 x4 = q x4 := (hq1 x4 (rowB_ne hgx4).1 (rowB_ne hgx4).2)
  try rw [← e9] at hl
  try rw [← e9]
  exact w_N_reduce_15 hMr hKr C0 hr hnx  _ _ _ _ _ _ _ _ _ _ _ h hq0 hm9 hm2 hH (lv_sub hl [0, 1, 2, 3, 4] rfl)
def f_N_work_559 (Kr : (Nat → Nat) → mS → Int32 → Int32 → Int32 → Nat → Option (bO Unit))   (g : Nat → Nat) (v : mS) : Option (bO Unit) := some (.inl (), g, v)
set_option maxHeartbeats 4000000 in
set_option maxRecDepth 100000 in
theorem w_N_work_559 {p : Program} {l : Launch} {e : Env} {s : State} {m : MethodId} {args : Array Value} {below : List Frame} {meth : Method} {c : Code} {Z : bZ} {A : Nat → Prop} {q0 g0 : Nat → Nat} {o : bO Unit} {rB : Nat} {Kr : (Nat → Nat) → mS → Int32 → Int32 → Int32 → Nat → Option (bO Unit)} (hMr : ∀ {g : Nat → Nat} {v : mS} {z1 : Int32} {z2 : Int32} {z3 : Int32} {z4 : Nat} {o : bO Unit}, Kr g v z1 z2 z3 z4 = some o → gL g ≤ gL o.2.1) (hKr : ∀ {q g : Nat → Nat} {v : mS} {z1 : Int32} {z2 : Int32} {z3 : Int32} {z4 : Nat} {o : bO Unit}, Kr g v z1 z2 z3 z4 = some o → bx_M l Z rB y_N_work b_N_work 6 none [.ref (q 25), .int z1, .int z2, .int z3, .ref (q z4)] q g v enV o) (C0 : bn_C "FilterBench$Runner" b_N_work 6 Z A p l s m args meth c) (hr : meth.sig.returnType = none) (hnx : ∀ x ∈ c.exceptionTable.toList, False) : ∀  (g : Nat → Nat) (v : mS) (q : Nat → Nat) (H : Heap) (locs : List Loc) (ls : Array Slot), f_N_work_559 Kr   g v = some o → qs q0 q → gL g0 ≤ gL g → gL g ≤ gL o.2.1 → bn_H Z A s (q, g, v) H locs → lv_has ls 6 [] → bx_W p l e s m args below meth c Z A q0 g0 enV o (rB + 82) g H locs (F0 m 559 ls []) := by
  have hx := C0.1
  have hb := C0.2.1
  have hl0 := C0.2.2.2.2.2.2.2.2.2
  intro  g v q H locs ls h hq hm0 hm hH hl
  unfold f_N_work_559 at h
  have hcl9 := bx_room (h0 := (rB + 82)) (o := o) hm0 hm
  exact bx_vret C0 hr hq hH hm0 d_N_work_559 h
def f_N_work_210 (Kr : (Nat → Nat) → mS → Int32 → Int32 → Int32 → Nat → Option (bO Unit))   (g : Nat → Nat) (v : mS) : Option (bO Unit) := f_N_work_559 Kr g v
set_option maxHeartbeats 4000000 in
set_option maxRecDepth 100000 in
theorem w_N_work_210 {p : Program} {l : Launch} {e : Env} {s : State} {m : MethodId} {args : Array Value} {below : List Frame} {meth : Method} {c : Code} {Z : bZ} {A : Nat → Prop} {q0 g0 : Nat → Nat} {o : bO Unit} {rB : Nat} {Kr : (Nat → Nat) → mS → Int32 → Int32 → Int32 → Nat → Option (bO Unit)} (hMr : ∀ {g : Nat → Nat} {v : mS} {z1 : Int32} {z2 : Int32} {z3 : Int32} {z4 : Nat} {o : bO Unit}, Kr g v z1 z2 z3 z4 = some o → gL g ≤ gL o.2.1) (hKr : ∀ {q g : Nat → Nat} {v : mS} {z1 : Int32} {z2 : Int32} {z3 : Int32} {z4 : Nat} {o : bO Unit}, Kr g v z1 z2 z3 z4 = some o → bx_M l Z rB y_N_work b_N_work 6 none [.ref (q 25), .int z1, .int z2, .int z3, .ref (q z4)] q g v enV o) (C0 : bn_C "FilterBench$Runner" b_N_work 6 Z A p l s m args meth c) (hr : meth.sig.returnType = none) (hnx : ∀ x ∈ c.exceptionTable.toList, False) : ∀  (g : Nat → Nat) (v : mS) (q : Nat → Nat) (H : Heap) (locs : List Loc) (ls : Array Slot), f_N_work_210 Kr   g v = some o → qs q0 q → gL g0 ≤ gL g → gL g ≤ gL o.2.1 → bn_H Z A s (q, g, v) H locs → lv_has ls 6 [] → bx_W p l e s m args below meth c Z A q0 g0 enV o (rB + 82) g H locs (F0 m 210 ls []) := by
  have hx := C0.1
  have hb := C0.2.1
  have hl0 := C0.2.2.2.2.2.2.2.2.2
  intro  g v q H locs ls h hq hm0 hm hH hl
  unfold f_N_work_210 at h
  have hcl9 := bx_room (h0 := (rB + 82)) (o := o) hm0 hm
  refine lv_goto (tgt := 559) hx hb d_N_work_210 (by decide) ?_
  exact w_N_work_559 hMr hKr C0 hr hnx   _ _ _ _ _ _ h hq hm0 hm hH (lv_sub hl [] rfl)
def f_N_work_234 (Kr : (Nat → Nat) → mS → Int32 → Int32 → Int32 → Nat → Option (bO Unit))   (g : Nat → Nat) (v : mS) : Option (bO Unit) := f_N_work_559 Kr g v
set_option maxHeartbeats 4000000 in
set_option maxRecDepth 100000 in
theorem w_N_work_234 {p : Program} {l : Launch} {e : Env} {s : State} {m : MethodId} {args : Array Value} {below : List Frame} {meth : Method} {c : Code} {Z : bZ} {A : Nat → Prop} {q0 g0 : Nat → Nat} {o : bO Unit} {rB : Nat} {Kr : (Nat → Nat) → mS → Int32 → Int32 → Int32 → Nat → Option (bO Unit)} (hMr : ∀ {g : Nat → Nat} {v : mS} {z1 : Int32} {z2 : Int32} {z3 : Int32} {z4 : Nat} {o : bO Unit}, Kr g v z1 z2 z3 z4 = some o → gL g ≤ gL o.2.1) (hKr : ∀ {q g : Nat → Nat} {v : mS} {z1 : Int32} {z2 : Int32} {z3 : Int32} {z4 : Nat} {o : bO Unit}, Kr g v z1 z2 z3 z4 = some o → bx_M l Z rB y_N_work b_N_work 6 none [.ref (q 25), .int z1, .int z2, .int z3, .ref (q z4)] q g v enV o) (C0 : bn_C "FilterBench$Runner" b_N_work 6 Z A p l s m args meth c) (hr : meth.sig.returnType = none) (hnx : ∀ x ∈ c.exceptionTable.toList, False) : ∀  (g : Nat → Nat) (v : mS) (q : Nat → Nat) (H : Heap) (locs : List Loc) (ls : Array Slot), f_N_work_234 Kr   g v = some o → qs q0 q → gL g0 ≤ gL g → gL g ≤ gL o.2.1 → bn_H Z A s (q, g, v) H locs → lv_has ls 6 [] → bx_W p l e s m args below meth c Z A q0 g0 enV o (rB + 82) g H locs (F0 m 234 ls []) := by
  have hx := C0.1
  have hb := C0.2.1
  have hl0 := C0.2.2.2.2.2.2.2.2.2
  intro  g v q H locs ls h hq hm0 hm hH hl
  unfold f_N_work_234 at h
  have hcl9 := bx_room (h0 := (rB + 82)) (o := o) hm0 hm
  refine lv_goto (tgt := 559) hx hb d_N_work_234 (by decide) ?_
  exact w_N_work_559 hMr hKr C0 hr hnx   _ _ _ _ _ _ h hq hm0 hm hH (lv_sub hl [] rfl)
def f_N_work_244 (Kr : (Nat → Nat) → mS → Int32 → Int32 → Int32 → Nat → Option (bO Unit))   (g : Nat → Nat) (v : mS) : Option (bO Unit) := f_N_work_559 Kr g v
set_option maxHeartbeats 4000000 in
set_option maxRecDepth 100000 in
theorem w_N_work_244 {p : Program} {l : Launch} {e : Env} {s : State} {m : MethodId} {args : Array Value} {below : List Frame} {meth : Method} {c : Code} {Z : bZ} {A : Nat → Prop} {q0 g0 : Nat → Nat} {o : bO Unit} {rB : Nat} {Kr : (Nat → Nat) → mS → Int32 → Int32 → Int32 → Nat → Option (bO Unit)} (hMr : ∀ {g : Nat → Nat} {v : mS} {z1 : Int32} {z2 : Int32} {z3 : Int32} {z4 : Nat} {o : bO Unit}, Kr g v z1 z2 z3 z4 = some o → gL g ≤ gL o.2.1) (hKr : ∀ {q g : Nat → Nat} {v : mS} {z1 : Int32} {z2 : Int32} {z3 : Int32} {z4 : Nat} {o : bO Unit}, Kr g v z1 z2 z3 z4 = some o → bx_M l Z rB y_N_work b_N_work 6 none [.ref (q 25), .int z1, .int z2, .int z3, .ref (q z4)] q g v enV o) (C0 : bn_C "FilterBench$Runner" b_N_work 6 Z A p l s m args meth c) (hr : meth.sig.returnType = none) (hnx : ∀ x ∈ c.exceptionTable.toList, False) : ∀  (g : Nat → Nat) (v : mS) (q : Nat → Nat) (H : Heap) (locs : List Loc) (ls : Array Slot), f_N_work_244 Kr   g v = some o → qs q0 q → gL g0 ≤ gL g → gL g ≤ gL o.2.1 → bn_H Z A s (q, g, v) H locs → lv_has ls 6 [] → bx_W p l e s m args below meth c Z A q0 g0 enV o (rB + 82) g H locs (F0 m 244 ls []) := by
  have hx := C0.1
  have hb := C0.2.1
  have hl0 := C0.2.2.2.2.2.2.2.2.2
  intro  g v q H locs ls h hq hm0 hm hH hl
  unfold f_N_work_244 at h
  have hcl9 := bx_room (h0 := (rB + 82)) (o := o) hm0 hm
  refine lv_goto (tgt := 559) hx hb d_N_work_244 (by decide) ?_
  exact w_N_work_559 hMr hKr C0 hr hnx   _ _ _ _ _ _ h hq hm0 hm hH (lv_sub hl [] rfl)
def f_N_work_256 (Kr : (Nat → Nat) → mS → Int32 → Int32 → Int32 → Nat → Option (bO Unit))   (g : Nat → Nat) (v : mS) : Option (bO Unit) := f_N_work_559 Kr g v
set_option maxHeartbeats 4000000 in
set_option maxRecDepth 100000 in
theorem w_N_work_256 {p : Program} {l : Launch} {e : Env} {s : State} {m : MethodId} {args : Array Value} {below : List Frame} {meth : Method} {c : Code} {Z : bZ} {A : Nat → Prop} {q0 g0 : Nat → Nat} {o : bO Unit} {rB : Nat} {Kr : (Nat → Nat) → mS → Int32 → Int32 → Int32 → Nat → Option (bO Unit)} (hMr : ∀ {g : Nat → Nat} {v : mS} {z1 : Int32} {z2 : Int32} {z3 : Int32} {z4 : Nat} {o : bO Unit}, Kr g v z1 z2 z3 z4 = some o → gL g ≤ gL o.2.1) (hKr : ∀ {q g : Nat → Nat} {v : mS} {z1 : Int32} {z2 : Int32} {z3 : Int32} {z4 : Nat} {o : bO Unit}, Kr g v z1 z2 z3 z4 = some o → bx_M l Z rB y_N_work b_N_work 6 none [.ref (q 25), .int z1, .int z2, .int z3, .ref (q z4)] q g v enV o) (C0 : bn_C "FilterBench$Runner" b_N_work 6 Z A p l s m args meth c) (hr : meth.sig.returnType = none) (hnx : ∀ x ∈ c.exceptionTable.toList, False) : ∀  (g : Nat → Nat) (v : mS) (q : Nat → Nat) (H : Heap) (locs : List Loc) (ls : Array Slot), f_N_work_256 Kr   g v = some o → qs q0 q → gL g0 ≤ gL g → gL g ≤ gL o.2.1 → bn_H Z A s (q, g, v) H locs → lv_has ls 6 [] → bx_W p l e s m args below meth c Z A q0 g0 enV o (rB + 82) g H locs (F0 m 256 ls []) := by
  have hx := C0.1
  have hb := C0.2.1
  have hl0 := C0.2.2.2.2.2.2.2.2.2
  intro  g v q H locs ls h hq hm0 hm hH hl
  unfold f_N_work_256 at h
  have hcl9 := bx_room (h0 := (rB + 82)) (o := o) hm0 hm
  refine lv_goto (tgt := 559) hx hb d_N_work_256 (by decide) ?_
  exact w_N_work_559 hMr hKr C0 hr hnx   _ _ _ _ _ _ h hq hm0 hm hH (lv_sub hl [] rfl)
def f_N_work_275 (Kr : (Nat → Nat) → mS → Int32 → Int32 → Int32 → Nat → Option (bO Unit))   (g : Nat → Nat) (v : mS) : Option (bO Unit) := f_N_work_559 Kr g v
set_option maxHeartbeats 4000000 in
set_option maxRecDepth 100000 in
theorem w_N_work_275 {p : Program} {l : Launch} {e : Env} {s : State} {m : MethodId} {args : Array Value} {below : List Frame} {meth : Method} {c : Code} {Z : bZ} {A : Nat → Prop} {q0 g0 : Nat → Nat} {o : bO Unit} {rB : Nat} {Kr : (Nat → Nat) → mS → Int32 → Int32 → Int32 → Nat → Option (bO Unit)} (hMr : ∀ {g : Nat → Nat} {v : mS} {z1 : Int32} {z2 : Int32} {z3 : Int32} {z4 : Nat} {o : bO Unit}, Kr g v z1 z2 z3 z4 = some o → gL g ≤ gL o.2.1) (hKr : ∀ {q g : Nat → Nat} {v : mS} {z1 : Int32} {z2 : Int32} {z3 : Int32} {z4 : Nat} {o : bO Unit}, Kr g v z1 z2 z3 z4 = some o → bx_M l Z rB y_N_work b_N_work 6 none [.ref (q 25), .int z1, .int z2, .int z3, .ref (q z4)] q g v enV o) (C0 : bn_C "FilterBench$Runner" b_N_work 6 Z A p l s m args meth c) (hr : meth.sig.returnType = none) (hnx : ∀ x ∈ c.exceptionTable.toList, False) : ∀  (g : Nat → Nat) (v : mS) (q : Nat → Nat) (H : Heap) (locs : List Loc) (ls : Array Slot), f_N_work_275 Kr   g v = some o → qs q0 q → gL g0 ≤ gL g → gL g ≤ gL o.2.1 → bn_H Z A s (q, g, v) H locs → lv_has ls 6 [] → bx_W p l e s m args below meth c Z A q0 g0 enV o (rB + 82) g H locs (F0 m 275 ls []) := by
  have hx := C0.1
  have hb := C0.2.1
  have hl0 := C0.2.2.2.2.2.2.2.2.2
  intro  g v q H locs ls h hq hm0 hm hH hl
  unfold f_N_work_275 at h
  have hcl9 := bx_room (h0 := (rB + 82)) (o := o) hm0 hm
  refine lv_goto (tgt := 559) hx hb d_N_work_275 (by decide) ?_
  exact w_N_work_559 hMr hKr C0 hr hnx   _ _ _ _ _ _ h hq hm0 hm hH (lv_sub hl [] rfl)
def f_N_work_272 (Kr : (Nat → Nat) → mS → Int32 → Int32 → Int32 → Nat → Option (bO Unit))  (y0 : Nat) (y1 : Int32) (g : Nat → Nat) (v : mS) : Option (bO Unit) := gd (rowB y0) (bo (f_R_put g v y0 y1) fun r9 g9 v9 => f_N_work_275 Kr g9 v9)
set_option maxHeartbeats 4000000 in
set_option maxRecDepth 100000 in
theorem w_N_work_272 {p : Program} {l : Launch} {e : Env} {s : State} {m : MethodId} {args : Array Value} {below : List Frame} {meth : Method} {c : Code} {Z : bZ} {A : Nat → Prop} {q0 g0 : Nat → Nat} {o : bO Unit} {rB : Nat} {Kr : (Nat → Nat) → mS → Int32 → Int32 → Int32 → Nat → Option (bO Unit)} (hMr : ∀ {g : Nat → Nat} {v : mS} {z1 : Int32} {z2 : Int32} {z3 : Int32} {z4 : Nat} {o : bO Unit}, Kr g v z1 z2 z3 z4 = some o → gL g ≤ gL o.2.1) (hKr : ∀ {q g : Nat → Nat} {v : mS} {z1 : Int32} {z2 : Int32} {z3 : Int32} {z4 : Nat} {o : bO Unit}, Kr g v z1 z2 z3 z4 = some o → bx_M l Z rB y_N_work b_N_work 6 none [.ref (q 25), .int z1, .int z2, .int z3, .ref (q z4)] q g v enV o) (C0 : bn_C "FilterBench$Runner" b_N_work 6 Z A p l s m args meth c) (hr : meth.sig.returnType = none) (hnx : ∀ x ∈ c.exceptionTable.toList, False) : ∀ (y0 : Nat) (y1 : Int32) (g : Nat → Nat) (v : mS) (q : Nat → Nat) (H : Heap) (locs : List Loc) (ls : Array Slot), f_N_work_272 Kr  y0 y1 g v = some o → qs q0 q → gL g0 ≤ gL g → gL g ≤ gL o.2.1 → bn_H Z A s (q, g, v) H locs → lv_has ls 6 [] → bx_W p l e s m args below meth c Z A q0 g0 enV o (rB + 82) g H locs (F0 m 272 ls [.int y1, .ref (q y0)]) := by
  have hx := C0.1
  have hb := C0.2.1
  have hl0 := C0.2.2.2.2.2.2.2.2.2
  intro y0 y1 g v q H locs ls h hq hm0 hm hH hl
  unfold f_N_work_272 at h
  have hcl9 := bx_room (h0 := (rB + 82)) (o := o) hm0 hm
  obtain ⟨hgy0, h⟩ := gd_out h
  obtain ⟨o1, hc, hm2, ht9, hx1, hk9⟩ := bo_out h
  have hm1 := mn_R_put hc
  refine bx_cV (as := [.int y1]) (rest := []) C0 hnx hq hH hm0 hm1 hm2 ht9 (ci := 2) (rowB_k hgy0) (by decide) rfl (c_R_put hl0 hc) yy_R_put q_508 ⟨by first | omega | (simp only [dK]; omega), by first | omega | (simp only [dK]; omega)⟩ rfl hl.1 rfl (Nat.le_of_ble_eq_true rfl) d_N_work_272 hx1 (fun r9 q1 H locs hr1 hq0 hq1 hm9 hH => ?_)
  have h := hk9 r9 hr1
  exact w_N_work_275 hMr hKr C0 hr hnx   _ _ _ _ _ _ h hq0 hm9 hm2 hH (lv_sub hl [] rfl)
def f_N_work_290 (Kr : (Nat → Nat) → mS → Int32 → Int32 → Int32 → Nat → Option (bO Unit))   (g : Nat → Nat) (v : mS) : Option (bO Unit) := f_N_work_559 Kr g v
set_option maxHeartbeats 4000000 in
set_option maxRecDepth 100000 in
theorem w_N_work_290 {p : Program} {l : Launch} {e : Env} {s : State} {m : MethodId} {args : Array Value} {below : List Frame} {meth : Method} {c : Code} {Z : bZ} {A : Nat → Prop} {q0 g0 : Nat → Nat} {o : bO Unit} {rB : Nat} {Kr : (Nat → Nat) → mS → Int32 → Int32 → Int32 → Nat → Option (bO Unit)} (hMr : ∀ {g : Nat → Nat} {v : mS} {z1 : Int32} {z2 : Int32} {z3 : Int32} {z4 : Nat} {o : bO Unit}, Kr g v z1 z2 z3 z4 = some o → gL g ≤ gL o.2.1) (hKr : ∀ {q g : Nat → Nat} {v : mS} {z1 : Int32} {z2 : Int32} {z3 : Int32} {z4 : Nat} {o : bO Unit}, Kr g v z1 z2 z3 z4 = some o → bx_M l Z rB y_N_work b_N_work 6 none [.ref (q 25), .int z1, .int z2, .int z3, .ref (q z4)] q g v enV o) (C0 : bn_C "FilterBench$Runner" b_N_work 6 Z A p l s m args meth c) (hr : meth.sig.returnType = none) (hnx : ∀ x ∈ c.exceptionTable.toList, False) : ∀  (g : Nat → Nat) (v : mS) (q : Nat → Nat) (H : Heap) (locs : List Loc) (ls : Array Slot), f_N_work_290 Kr   g v = some o → qs q0 q → gL g0 ≤ gL g → gL g ≤ gL o.2.1 → bn_H Z A s (q, g, v) H locs → lv_has ls 6 [] → bx_W p l e s m args below meth c Z A q0 g0 enV o (rB + 82) g H locs (F0 m 290 ls []) := by
  have hx := C0.1
  have hb := C0.2.1
  have hl0 := C0.2.2.2.2.2.2.2.2.2
  intro  g v q H locs ls h hq hm0 hm hH hl
  unfold f_N_work_290 at h
  have hcl9 := bx_room (h0 := (rB + 82)) (o := o) hm0 hm
  refine lv_goto (tgt := 559) hx hb d_N_work_290 (by decide) ?_
  exact w_N_work_559 hMr hKr C0 hr hnx   _ _ _ _ _ _ h hq hm0 hm hH (lv_sub hl [] rfl)
def f_N_work_307 (Kr : (Nat → Nat) → mS → Int32 → Int32 → Int32 → Nat → Option (bO Unit))   (g : Nat → Nat) (v : mS) : Option (bO Unit) := f_N_work_559 Kr g v
set_option maxHeartbeats 4000000 in
set_option maxRecDepth 100000 in
theorem w_N_work_307 {p : Program} {l : Launch} {e : Env} {s : State} {m : MethodId} {args : Array Value} {below : List Frame} {meth : Method} {c : Code} {Z : bZ} {A : Nat → Prop} {q0 g0 : Nat → Nat} {o : bO Unit} {rB : Nat} {Kr : (Nat → Nat) → mS → Int32 → Int32 → Int32 → Nat → Option (bO Unit)} (hMr : ∀ {g : Nat → Nat} {v : mS} {z1 : Int32} {z2 : Int32} {z3 : Int32} {z4 : Nat} {o : bO Unit}, Kr g v z1 z2 z3 z4 = some o → gL g ≤ gL o.2.1) (hKr : ∀ {q g : Nat → Nat} {v : mS} {z1 : Int32} {z2 : Int32} {z3 : Int32} {z4 : Nat} {o : bO Unit}, Kr g v z1 z2 z3 z4 = some o → bx_M l Z rB y_N_work b_N_work 6 none [.ref (q 25), .int z1, .int z2, .int z3, .ref (q z4)] q g v enV o) (C0 : bn_C "FilterBench$Runner" b_N_work 6 Z A p l s m args meth c) (hr : meth.sig.returnType = none) (hnx : ∀ x ∈ c.exceptionTable.toList, False) : ∀  (g : Nat → Nat) (v : mS) (q : Nat → Nat) (H : Heap) (locs : List Loc) (ls : Array Slot), f_N_work_307 Kr   g v = some o → qs q0 q → gL g0 ≤ gL g → gL g ≤ gL o.2.1 → bn_H Z A s (q, g, v) H locs → lv_has ls 6 [] → bx_W p l e s m args below meth c Z A q0 g0 enV o (rB + 82) g H locs (F0 m 307 ls []) := by
  have hx := C0.1
  have hb := C0.2.1
  have hl0 := C0.2.2.2.2.2.2.2.2.2
  intro  g v q H locs ls h hq hm0 hm hH hl
  unfold f_N_work_307 at h
  have hcl9 := bx_room (h0 := (rB + 82)) (o := o) hm0 hm
  refine lv_goto (tgt := 559) hx hb d_N_work_307 (by decide) ?_
  exact w_N_work_559 hMr hKr C0 hr hnx   _ _ _ _ _ _ h hq hm0 hm hH (lv_sub hl [] rfl)
def f_N_work_319 (Kr : (Nat → Nat) → mS → Int32 → Int32 → Int32 → Nat → Option (bO Unit))   (g : Nat → Nat) (v : mS) : Option (bO Unit) := f_N_work_559 Kr g v
set_option maxHeartbeats 4000000 in
set_option maxRecDepth 100000 in
theorem w_N_work_319 {p : Program} {l : Launch} {e : Env} {s : State} {m : MethodId} {args : Array Value} {below : List Frame} {meth : Method} {c : Code} {Z : bZ} {A : Nat → Prop} {q0 g0 : Nat → Nat} {o : bO Unit} {rB : Nat} {Kr : (Nat → Nat) → mS → Int32 → Int32 → Int32 → Nat → Option (bO Unit)} (hMr : ∀ {g : Nat → Nat} {v : mS} {z1 : Int32} {z2 : Int32} {z3 : Int32} {z4 : Nat} {o : bO Unit}, Kr g v z1 z2 z3 z4 = some o → gL g ≤ gL o.2.1) (hKr : ∀ {q g : Nat → Nat} {v : mS} {z1 : Int32} {z2 : Int32} {z3 : Int32} {z4 : Nat} {o : bO Unit}, Kr g v z1 z2 z3 z4 = some o → bx_M l Z rB y_N_work b_N_work 6 none [.ref (q 25), .int z1, .int z2, .int z3, .ref (q z4)] q g v enV o) (C0 : bn_C "FilterBench$Runner" b_N_work 6 Z A p l s m args meth c) (hr : meth.sig.returnType = none) (hnx : ∀ x ∈ c.exceptionTable.toList, False) : ∀  (g : Nat → Nat) (v : mS) (q : Nat → Nat) (H : Heap) (locs : List Loc) (ls : Array Slot), f_N_work_319 Kr   g v = some o → qs q0 q → gL g0 ≤ gL g → gL g ≤ gL o.2.1 → bn_H Z A s (q, g, v) H locs → lv_has ls 6 [] → bx_W p l e s m args below meth c Z A q0 g0 enV o (rB + 82) g H locs (F0 m 319 ls []) := by
  have hx := C0.1
  have hb := C0.2.1
  have hl0 := C0.2.2.2.2.2.2.2.2.2
  intro  g v q H locs ls h hq hm0 hm hH hl
  unfold f_N_work_319 at h
  have hcl9 := bx_room (h0 := (rB + 82)) (o := o) hm0 hm
  refine lv_goto (tgt := 559) hx hb d_N_work_319 (by decide) ?_
  exact w_N_work_559 hMr hKr C0 hr hnx   _ _ _ _ _ _ h hq hm0 hm hH (lv_sub hl [] rfl)
def f_N_work_334 (Kr : (Nat → Nat) → mS → Int32 → Int32 → Int32 → Nat → Option (bO Unit))   (g : Nat → Nat) (v : mS) : Option (bO Unit) := f_N_work_559 Kr g v
set_option maxHeartbeats 4000000 in
set_option maxRecDepth 100000 in
theorem w_N_work_334 {p : Program} {l : Launch} {e : Env} {s : State} {m : MethodId} {args : Array Value} {below : List Frame} {meth : Method} {c : Code} {Z : bZ} {A : Nat → Prop} {q0 g0 : Nat → Nat} {o : bO Unit} {rB : Nat} {Kr : (Nat → Nat) → mS → Int32 → Int32 → Int32 → Nat → Option (bO Unit)} (hMr : ∀ {g : Nat → Nat} {v : mS} {z1 : Int32} {z2 : Int32} {z3 : Int32} {z4 : Nat} {o : bO Unit}, Kr g v z1 z2 z3 z4 = some o → gL g ≤ gL o.2.1) (hKr : ∀ {q g : Nat → Nat} {v : mS} {z1 : Int32} {z2 : Int32} {z3 : Int32} {z4 : Nat} {o : bO Unit}, Kr g v z1 z2 z3 z4 = some o → bx_M l Z rB y_N_work b_N_work 6 none [.ref (q 25), .int z1, .int z2, .int z3, .ref (q z4)] q g v enV o) (C0 : bn_C "FilterBench$Runner" b_N_work 6 Z A p l s m args meth c) (hr : meth.sig.returnType = none) (hnx : ∀ x ∈ c.exceptionTable.toList, False) : ∀  (g : Nat → Nat) (v : mS) (q : Nat → Nat) (H : Heap) (locs : List Loc) (ls : Array Slot), f_N_work_334 Kr   g v = some o → qs q0 q → gL g0 ≤ gL g → gL g ≤ gL o.2.1 → bn_H Z A s (q, g, v) H locs → lv_has ls 6 [] → bx_W p l e s m args below meth c Z A q0 g0 enV o (rB + 82) g H locs (F0 m 334 ls []) := by
  have hx := C0.1
  have hb := C0.2.1
  have hl0 := C0.2.2.2.2.2.2.2.2.2
  intro  g v q H locs ls h hq hm0 hm hH hl
  unfold f_N_work_334 at h
  have hcl9 := bx_room (h0 := (rB + 82)) (o := o) hm0 hm
  refine lv_goto (tgt := 559) hx hb d_N_work_334 (by decide) ?_
  exact w_N_work_559 hMr hKr C0 hr hnx   _ _ _ _ _ _ h hq hm0 hm hH (lv_sub hl [] rfl)
def f_N_work_331 (Kr : (Nat → Nat) → mS → Int32 → Int32 → Int32 → Nat → Option (bO Unit))  (y0 : Nat) (y1 : Int32) (g : Nat → Nat) (v : mS) : Option (bO Unit) := gd (rowB y0) (bo (f_R_put g v y0 y1) fun r9 g9 v9 => f_N_work_334 Kr g9 v9)
set_option maxHeartbeats 4000000 in
set_option maxRecDepth 100000 in
theorem w_N_work_331 {p : Program} {l : Launch} {e : Env} {s : State} {m : MethodId} {args : Array Value} {below : List Frame} {meth : Method} {c : Code} {Z : bZ} {A : Nat → Prop} {q0 g0 : Nat → Nat} {o : bO Unit} {rB : Nat} {Kr : (Nat → Nat) → mS → Int32 → Int32 → Int32 → Nat → Option (bO Unit)} (hMr : ∀ {g : Nat → Nat} {v : mS} {z1 : Int32} {z2 : Int32} {z3 : Int32} {z4 : Nat} {o : bO Unit}, Kr g v z1 z2 z3 z4 = some o → gL g ≤ gL o.2.1) (hKr : ∀ {q g : Nat → Nat} {v : mS} {z1 : Int32} {z2 : Int32} {z3 : Int32} {z4 : Nat} {o : bO Unit}, Kr g v z1 z2 z3 z4 = some o → bx_M l Z rB y_N_work b_N_work 6 none [.ref (q 25), .int z1, .int z2, .int z3, .ref (q z4)] q g v enV o) (C0 : bn_C "FilterBench$Runner" b_N_work 6 Z A p l s m args meth c) (hr : meth.sig.returnType = none) (hnx : ∀ x ∈ c.exceptionTable.toList, False) : ∀ (y0 : Nat) (y1 : Int32) (g : Nat → Nat) (v : mS) (q : Nat → Nat) (H : Heap) (locs : List Loc) (ls : Array Slot), f_N_work_331 Kr  y0 y1 g v = some o → qs q0 q → gL g0 ≤ gL g → gL g ≤ gL o.2.1 → bn_H Z A s (q, g, v) H locs → lv_has ls 6 [] → bx_W p l e s m args below meth c Z A q0 g0 enV o (rB + 82) g H locs (F0 m 331 ls [.int y1, .ref (q y0)]) := by
  have hx := C0.1
  have hb := C0.2.1
  have hl0 := C0.2.2.2.2.2.2.2.2.2
  intro y0 y1 g v q H locs ls h hq hm0 hm hH hl
  unfold f_N_work_331 at h
  have hcl9 := bx_room (h0 := (rB + 82)) (o := o) hm0 hm
  obtain ⟨hgy0, h⟩ := gd_out h
  obtain ⟨o1, hc, hm2, ht9, hx1, hk9⟩ := bo_out h
  have hm1 := mn_R_put hc
  refine bx_cV (as := [.int y1]) (rest := []) C0 hnx hq hH hm0 hm1 hm2 ht9 (ci := 2) (rowB_k hgy0) (by decide) rfl (c_R_put hl0 hc) yy_R_put q_508 ⟨by first | omega | (simp only [dK]; omega), by first | omega | (simp only [dK]; omega)⟩ rfl hl.1 rfl (Nat.le_of_ble_eq_true rfl) d_N_work_331 hx1 (fun r9 q1 H locs hr1 hq0 hq1 hm9 hH => ?_)
  have h := hk9 r9 hr1
  exact w_N_work_334 hMr hKr C0 hr hnx   _ _ _ _ _ _ h hq0 hm9 hm2 hH (lv_sub hl [] rfl)
def f_N_work_346 (Kr : (Nat → Nat) → mS → Int32 → Int32 → Int32 → Nat → Option (bO Unit))   (g : Nat → Nat) (v : mS) : Option (bO Unit) := f_N_work_559 Kr g v
set_option maxHeartbeats 4000000 in
set_option maxRecDepth 100000 in
theorem w_N_work_346 {p : Program} {l : Launch} {e : Env} {s : State} {m : MethodId} {args : Array Value} {below : List Frame} {meth : Method} {c : Code} {Z : bZ} {A : Nat → Prop} {q0 g0 : Nat → Nat} {o : bO Unit} {rB : Nat} {Kr : (Nat → Nat) → mS → Int32 → Int32 → Int32 → Nat → Option (bO Unit)} (hMr : ∀ {g : Nat → Nat} {v : mS} {z1 : Int32} {z2 : Int32} {z3 : Int32} {z4 : Nat} {o : bO Unit}, Kr g v z1 z2 z3 z4 = some o → gL g ≤ gL o.2.1) (hKr : ∀ {q g : Nat → Nat} {v : mS} {z1 : Int32} {z2 : Int32} {z3 : Int32} {z4 : Nat} {o : bO Unit}, Kr g v z1 z2 z3 z4 = some o → bx_M l Z rB y_N_work b_N_work 6 none [.ref (q 25), .int z1, .int z2, .int z3, .ref (q z4)] q g v enV o) (C0 : bn_C "FilterBench$Runner" b_N_work 6 Z A p l s m args meth c) (hr : meth.sig.returnType = none) (hnx : ∀ x ∈ c.exceptionTable.toList, False) : ∀  (g : Nat → Nat) (v : mS) (q : Nat → Nat) (H : Heap) (locs : List Loc) (ls : Array Slot), f_N_work_346 Kr   g v = some o → qs q0 q → gL g0 ≤ gL g → gL g ≤ gL o.2.1 → bn_H Z A s (q, g, v) H locs → lv_has ls 6 [] → bx_W p l e s m args below meth c Z A q0 g0 enV o (rB + 82) g H locs (F0 m 346 ls []) := by
  have hx := C0.1
  have hb := C0.2.1
  have hl0 := C0.2.2.2.2.2.2.2.2.2
  intro  g v q H locs ls h hq hm0 hm hH hl
  unfold f_N_work_346 at h
  have hcl9 := bx_room (h0 := (rB + 82)) (o := o) hm0 hm
  refine lv_goto (tgt := 559) hx hb d_N_work_346 (by decide) ?_
  exact w_N_work_559 hMr hKr C0 hr hnx   _ _ _ _ _ _ h hq hm0 hm hH (lv_sub hl [] rfl)
def f_N_work_337 (Kr : (Nat → Nat) → mS → Int32 → Int32 → Int32 → Nat → Option (bO Unit))  (x1 : Int32) (x2 : Int32) (x3 : Int32) (x4 : Nat) (g : Nat → Nat) (v : mS) : Option (bO Unit) := gd (rowB x4) (bo (f_N_forEachPair Kr g v x1 x2 x3 x4) fun r9 g9 v9 => f_N_work_346 Kr g9 v9)
set_option maxHeartbeats 4000000 in
set_option maxRecDepth 100000 in
theorem w_N_work_337 {p : Program} {l : Launch} {e : Env} {s : State} {m : MethodId} {args : Array Value} {below : List Frame} {meth : Method} {c : Code} {Z : bZ} {A : Nat → Prop} {q0 g0 : Nat → Nat} {o : bO Unit} {rB : Nat} {Kr : (Nat → Nat) → mS → Int32 → Int32 → Int32 → Nat → Option (bO Unit)} (hMr : ∀ {g : Nat → Nat} {v : mS} {z1 : Int32} {z2 : Int32} {z3 : Int32} {z4 : Nat} {o : bO Unit}, Kr g v z1 z2 z3 z4 = some o → gL g ≤ gL o.2.1) (hKr : ∀ {q g : Nat → Nat} {v : mS} {z1 : Int32} {z2 : Int32} {z3 : Int32} {z4 : Nat} {o : bO Unit}, Kr g v z1 z2 z3 z4 = some o → bx_M l Z rB y_N_work b_N_work 6 none [.ref (q 25), .int z1, .int z2, .int z3, .ref (q z4)] q g v enV o) (C0 : bn_C "FilterBench$Runner" b_N_work 6 Z A p l s m args meth c) (hr : meth.sig.returnType = none) (hnx : ∀ x ∈ c.exceptionTable.toList, False) : ∀ (x1 : Int32) (x2 : Int32) (x3 : Int32) (x4 : Nat) (g : Nat → Nat) (v : mS) (q : Nat → Nat) (H : Heap) (locs : List Loc) (ls : Array Slot), f_N_work_337 Kr  x1 x2 x3 x4 g v = some o → qs q0 q → gL g0 ≤ gL g → gL g ≤ gL o.2.1 → bn_H Z A s (q, g, v) H locs → lv_has ls 6 [(0, .ref (q 25)), (1, .int x1), (2, .int x2), (3, .int x3), (4, .ref (q x4))] → bx_W p l e s m args below meth c Z A q0 g0 enV o (rB + 82) g H locs (F0 m 337 ls []) := by
  have hx := C0.1
  have hb := C0.2.1
  have hl0 := C0.2.2.2.2.2.2.2.2.2
  intro x1 x2 x3 x4 g v q H locs ls h hq hm0 hm hH hl
  unfold f_N_work_337 at h
  have hcl9 := bx_room (h0 := (rB + 82)) (o := o) hm0 hm
  obtain ⟨hgx4, h⟩ := gd_out h
  refine lv_aload_n hx hb d_N_work_337 rfl (lv_at hl 0 rfl) ?_
  refine lv_iload_n hx hb d_N_work_338 rfl (lv_at hl 1 rfl) ?_
  refine lv_iload_n hx hb d_N_work_339 rfl (lv_at hl 2 rfl) ?_
  refine lv_iload_n hx hb d_N_work_340 rfl (lv_at hl 3 rfl) ?_
  refine lv_aload hx hb d_N_work_341 (lv_at hl 4 rfl) ?_
  obtain ⟨o1, hc, hm2, ht9, hx1, hk9⟩ := bo_out h
  have hm1 := mn_N_forEachPair hc
  refine bx_cV (as := [.int x1, .int x2, .int x3, .ref (q x4)]) (rest := []) C0 hnx hq hH hm0 hm1 hm2 ht9 (ci := 3) ⟨by decide, by decide⟩ (by decide) rfl (c_N_forEachPair hMr hKr hl0 hc) yy_N_forEachPair q_633 ⟨by first | omega | (simp only [dK]; omega), by first | omega | (simp only [dK]; omega)⟩ rfl hl.1 rfl (Nat.le_of_ble_eq_true rfl) d_N_work_343 hx1 (fun r9 q1 H locs hr1 hq0 hq1 hm9 hH => ?_)
  have h := hk9 r9 hr1
  exact w_N_work_346 hMr hKr C0 hr hnx   _ _ _ _ _ _ h hq0 hm9 hm2 hH (lv_sub hl [] rfl)
def f_N_work_377 (Kr : (Nat → Nat) → mS → Int32 → Int32 → Int32 → Nat → Option (bO Unit))   (g : Nat → Nat) (v : mS) : Option (bO Unit) := f_N_work_559 Kr g v
set_option maxHeartbeats 4000000 in
set_option maxRecDepth 100000 in
theorem w_N_work_377 {p : Program} {l : Launch} {e : Env} {s : State} {m : MethodId} {args : Array Value} {below : List Frame} {meth : Method} {c : Code} {Z : bZ} {A : Nat → Prop} {q0 g0 : Nat → Nat} {o : bO Unit} {rB : Nat} {Kr : (Nat → Nat) → mS → Int32 → Int32 → Int32 → Nat → Option (bO Unit)} (hMr : ∀ {g : Nat → Nat} {v : mS} {z1 : Int32} {z2 : Int32} {z3 : Int32} {z4 : Nat} {o : bO Unit}, Kr g v z1 z2 z3 z4 = some o → gL g ≤ gL o.2.1) (hKr : ∀ {q g : Nat → Nat} {v : mS} {z1 : Int32} {z2 : Int32} {z3 : Int32} {z4 : Nat} {o : bO Unit}, Kr g v z1 z2 z3 z4 = some o → bx_M l Z rB y_N_work b_N_work 6 none [.ref (q 25), .int z1, .int z2, .int z3, .ref (q z4)] q g v enV o) (C0 : bn_C "FilterBench$Runner" b_N_work 6 Z A p l s m args meth c) (hr : meth.sig.returnType = none) (hnx : ∀ x ∈ c.exceptionTable.toList, False) : ∀  (g : Nat → Nat) (v : mS) (q : Nat → Nat) (H : Heap) (locs : List Loc) (ls : Array Slot), f_N_work_377 Kr   g v = some o → qs q0 q → gL g0 ≤ gL g → gL g ≤ gL o.2.1 → bn_H Z A s (q, g, v) H locs → lv_has ls 6 [] → bx_W p l e s m args below meth c Z A q0 g0 enV o (rB + 82) g H locs (F0 m 377 ls []) := by
  have hx := C0.1
  have hb := C0.2.1
  have hl0 := C0.2.2.2.2.2.2.2.2.2
  intro  g v q H locs ls h hq hm0 hm hH hl
  unfold f_N_work_377 at h
  have hcl9 := bx_room (h0 := (rB + 82)) (o := o) hm0 hm
  refine lv_goto (tgt := 559) hx hb d_N_work_377 (by decide) ?_
  exact w_N_work_559 hMr hKr C0 hr hnx   _ _ _ _ _ _ h hq hm0 hm hH (lv_sub hl [] rfl)
def f_N_work_371 (Kr : (Nat → Nat) → mS → Int32 → Int32 → Int32 → Nat → Option (bO Unit))  (y0 : Nat) (y2 : Int32) (g : Nat → Nat) (v : mS) : Option (bO Unit) := gd (rowB y0) (bi (f_V_truth g v y2) fun r_3 v_1 => bo (f_R_put g v_1 y0 r_3) fun r9 g9 v9 => f_N_work_377 Kr g9 v9)
set_option maxHeartbeats 4000000 in
set_option maxRecDepth 100000 in
theorem w_N_work_371 {p : Program} {l : Launch} {e : Env} {s : State} {m : MethodId} {args : Array Value} {below : List Frame} {meth : Method} {c : Code} {Z : bZ} {A : Nat → Prop} {q0 g0 : Nat → Nat} {o : bO Unit} {rB : Nat} {Kr : (Nat → Nat) → mS → Int32 → Int32 → Int32 → Nat → Option (bO Unit)} (hMr : ∀ {g : Nat → Nat} {v : mS} {z1 : Int32} {z2 : Int32} {z3 : Int32} {z4 : Nat} {o : bO Unit}, Kr g v z1 z2 z3 z4 = some o → gL g ≤ gL o.2.1) (hKr : ∀ {q g : Nat → Nat} {v : mS} {z1 : Int32} {z2 : Int32} {z3 : Int32} {z4 : Nat} {o : bO Unit}, Kr g v z1 z2 z3 z4 = some o → bx_M l Z rB y_N_work b_N_work 6 none [.ref (q 25), .int z1, .int z2, .int z3, .ref (q z4)] q g v enV o) (C0 : bn_C "FilterBench$Runner" b_N_work 6 Z A p l s m args meth c) (hr : meth.sig.returnType = none) (hnx : ∀ x ∈ c.exceptionTable.toList, False) : ∀ (y0 : Nat) (y2 : Int32) (g : Nat → Nat) (v : mS) (q : Nat → Nat) (H : Heap) (locs : List Loc) (ls : Array Slot), f_N_work_371 Kr  y0 y2 g v = some o → qs q0 q → gL g0 ≤ gL g → gL g ≤ gL o.2.1 → bn_H Z A s (q, g, v) H locs → lv_has ls 6 [] → bx_W p l e s m args below meth c Z A q0 g0 enV o (rB + 82) g H locs (F0 m 371 ls [.int y2, .ref (q 1), .ref (q y0)]) := by
  have hx := C0.1
  have hb := C0.2.1
  have hl0 := C0.2.2.2.2.2.2.2.2.2
  intro y0 y2 g v q H locs ls h hq hm0 hm hH hl
  unfold f_N_work_371 at h
  have hcl9 := bx_room (h0 := (rB + 82)) (o := o) hm0 hm
  obtain ⟨hgy0, h⟩ := gd_out h
  obtain ⟨r_3, v_1, hc_2, h⟩ := bi_out h
  refine bn_ci (r := r_3) (w := (q, g, v_1)) (as := [.int y2]) (rest := [.ref (q y0)]) C0 hH (ci := 4) ⟨by decide, by decide⟩ (by decide) rfl (c_V_truth hl0 hc_2) yy_V_truth q_674 ⟨by simp only [bn_rm, dK]; omega, by simp only [bn_rm, dK]; omega⟩ rfl hl.1 rfl (Nat.le_of_ble_eq_true rfl) hcl9 d_N_work_371 (fun H locs hH => ?_)
  obtain ⟨o1, hc, hm2, ht9, hx1, hk9⟩ := bo_out h
  have hm1 := mn_R_put hc
  refine bx_cV (as := [.int r_3]) (rest := []) C0 hnx hq hH hm0 hm1 hm2 ht9 (ci := 2) (rowB_k hgy0) (by decide) rfl (c_R_put hl0 hc) yy_R_put q_508 ⟨by first | omega | (simp only [dK]; omega), by first | omega | (simp only [dK]; omega)⟩ rfl hl.1 rfl (Nat.le_of_ble_eq_true rfl) d_N_work_374 hx1 (fun r9 q1 H locs hr1 hq0 hq1 hm9 hH => ?_)
  have h := hk9 r9 hr1
  exact w_N_work_377 hMr hKr C0 hr hnx   _ _ _ _ _ _ h hq0 hm9 hm2 hH (lv_sub hl [] rfl)
def f_N_work_389 (Kr : (Nat → Nat) → mS → Int32 → Int32 → Int32 → Nat → Option (bO Unit))   (g : Nat → Nat) (v : mS) : Option (bO Unit) := f_N_work_559 Kr g v
set_option maxHeartbeats 4000000 in
set_option maxRecDepth 100000 in
theorem w_N_work_389 {p : Program} {l : Launch} {e : Env} {s : State} {m : MethodId} {args : Array Value} {below : List Frame} {meth : Method} {c : Code} {Z : bZ} {A : Nat → Prop} {q0 g0 : Nat → Nat} {o : bO Unit} {rB : Nat} {Kr : (Nat → Nat) → mS → Int32 → Int32 → Int32 → Nat → Option (bO Unit)} (hMr : ∀ {g : Nat → Nat} {v : mS} {z1 : Int32} {z2 : Int32} {z3 : Int32} {z4 : Nat} {o : bO Unit}, Kr g v z1 z2 z3 z4 = some o → gL g ≤ gL o.2.1) (hKr : ∀ {q g : Nat → Nat} {v : mS} {z1 : Int32} {z2 : Int32} {z3 : Int32} {z4 : Nat} {o : bO Unit}, Kr g v z1 z2 z3 z4 = some o → bx_M l Z rB y_N_work b_N_work 6 none [.ref (q 25), .int z1, .int z2, .int z3, .ref (q z4)] q g v enV o) (C0 : bn_C "FilterBench$Runner" b_N_work 6 Z A p l s m args meth c) (hr : meth.sig.returnType = none) (hnx : ∀ x ∈ c.exceptionTable.toList, False) : ∀  (g : Nat → Nat) (v : mS) (q : Nat → Nat) (H : Heap) (locs : List Loc) (ls : Array Slot), f_N_work_389 Kr   g v = some o → qs q0 q → gL g0 ≤ gL g → gL g ≤ gL o.2.1 → bn_H Z A s (q, g, v) H locs → lv_has ls 6 [] → bx_W p l e s m args below meth c Z A q0 g0 enV o (rB + 82) g H locs (F0 m 389 ls []) := by
  have hx := C0.1
  have hb := C0.2.1
  have hl0 := C0.2.2.2.2.2.2.2.2.2
  intro  g v q H locs ls h hq hm0 hm hH hl
  unfold f_N_work_389 at h
  have hcl9 := bx_room (h0 := (rB + 82)) (o := o) hm0 hm
  refine lv_goto (tgt := 559) hx hb d_N_work_389 (by decide) ?_
  exact w_N_work_559 hMr hKr C0 hr hnx   _ _ _ _ _ _ h hq hm0 hm hH (lv_sub hl [] rfl)
def f_N_work_401 (Kr : (Nat → Nat) → mS → Int32 → Int32 → Int32 → Nat → Option (bO Unit))   (g : Nat → Nat) (v : mS) : Option (bO Unit) := f_N_work_559 Kr g v
set_option maxHeartbeats 4000000 in
set_option maxRecDepth 100000 in
theorem w_N_work_401 {p : Program} {l : Launch} {e : Env} {s : State} {m : MethodId} {args : Array Value} {below : List Frame} {meth : Method} {c : Code} {Z : bZ} {A : Nat → Prop} {q0 g0 : Nat → Nat} {o : bO Unit} {rB : Nat} {Kr : (Nat → Nat) → mS → Int32 → Int32 → Int32 → Nat → Option (bO Unit)} (hMr : ∀ {g : Nat → Nat} {v : mS} {z1 : Int32} {z2 : Int32} {z3 : Int32} {z4 : Nat} {o : bO Unit}, Kr g v z1 z2 z3 z4 = some o → gL g ≤ gL o.2.1) (hKr : ∀ {q g : Nat → Nat} {v : mS} {z1 : Int32} {z2 : Int32} {z3 : Int32} {z4 : Nat} {o : bO Unit}, Kr g v z1 z2 z3 z4 = some o → bx_M l Z rB y_N_work b_N_work 6 none [.ref (q 25), .int z1, .int z2, .int z3, .ref (q z4)] q g v enV o) (C0 : bn_C "FilterBench$Runner" b_N_work 6 Z A p l s m args meth c) (hr : meth.sig.returnType = none) (hnx : ∀ x ∈ c.exceptionTable.toList, False) : ∀  (g : Nat → Nat) (v : mS) (q : Nat → Nat) (H : Heap) (locs : List Loc) (ls : Array Slot), f_N_work_401 Kr   g v = some o → qs q0 q → gL g0 ≤ gL g → gL g ≤ gL o.2.1 → bn_H Z A s (q, g, v) H locs → lv_has ls 6 [] → bx_W p l e s m args below meth c Z A q0 g0 enV o (rB + 82) g H locs (F0 m 401 ls []) := by
  have hx := C0.1
  have hb := C0.2.1
  have hl0 := C0.2.2.2.2.2.2.2.2.2
  intro  g v q H locs ls h hq hm0 hm hH hl
  unfold f_N_work_401 at h
  have hcl9 := bx_room (h0 := (rB + 82)) (o := o) hm0 hm
  refine lv_goto (tgt := 559) hx hb d_N_work_401 (by decide) ?_
  exact w_N_work_559 hMr hKr C0 hr hnx   _ _ _ _ _ _ h hq hm0 hm hH (lv_sub hl [] rfl)
def f_N_work_416 (Kr : (Nat → Nat) → mS → Int32 → Int32 → Int32 → Nat → Option (bO Unit))   (g : Nat → Nat) (v : mS) : Option (bO Unit) := f_N_work_559 Kr g v
set_option maxHeartbeats 4000000 in
set_option maxRecDepth 100000 in
theorem w_N_work_416 {p : Program} {l : Launch} {e : Env} {s : State} {m : MethodId} {args : Array Value} {below : List Frame} {meth : Method} {c : Code} {Z : bZ} {A : Nat → Prop} {q0 g0 : Nat → Nat} {o : bO Unit} {rB : Nat} {Kr : (Nat → Nat) → mS → Int32 → Int32 → Int32 → Nat → Option (bO Unit)} (hMr : ∀ {g : Nat → Nat} {v : mS} {z1 : Int32} {z2 : Int32} {z3 : Int32} {z4 : Nat} {o : bO Unit}, Kr g v z1 z2 z3 z4 = some o → gL g ≤ gL o.2.1) (hKr : ∀ {q g : Nat → Nat} {v : mS} {z1 : Int32} {z2 : Int32} {z3 : Int32} {z4 : Nat} {o : bO Unit}, Kr g v z1 z2 z3 z4 = some o → bx_M l Z rB y_N_work b_N_work 6 none [.ref (q 25), .int z1, .int z2, .int z3, .ref (q z4)] q g v enV o) (C0 : bn_C "FilterBench$Runner" b_N_work 6 Z A p l s m args meth c) (hr : meth.sig.returnType = none) (hnx : ∀ x ∈ c.exceptionTable.toList, False) : ∀  (g : Nat → Nat) (v : mS) (q : Nat → Nat) (H : Heap) (locs : List Loc) (ls : Array Slot), f_N_work_416 Kr   g v = some o → qs q0 q → gL g0 ≤ gL g → gL g ≤ gL o.2.1 → bn_H Z A s (q, g, v) H locs → lv_has ls 6 [] → bx_W p l e s m args below meth c Z A q0 g0 enV o (rB + 82) g H locs (F0 m 416 ls []) := by
  have hx := C0.1
  have hb := C0.2.1
  have hl0 := C0.2.2.2.2.2.2.2.2.2
  intro  g v q H locs ls h hq hm0 hm hH hl
  unfold f_N_work_416 at h
  have hcl9 := bx_room (h0 := (rB + 82)) (o := o) hm0 hm
  refine lv_goto (tgt := 559) hx hb d_N_work_416 (by decide) ?_
  exact w_N_work_559 hMr hKr C0 hr hnx   _ _ _ _ _ _ h hq hm0 hm hH (lv_sub hl [] rfl)
def f_N_work_428 (Kr : (Nat → Nat) → mS → Int32 → Int32 → Int32 → Nat → Option (bO Unit))   (g : Nat → Nat) (v : mS) : Option (bO Unit) := f_N_work_559 Kr g v
set_option maxHeartbeats 4000000 in
set_option maxRecDepth 100000 in
theorem w_N_work_428 {p : Program} {l : Launch} {e : Env} {s : State} {m : MethodId} {args : Array Value} {below : List Frame} {meth : Method} {c : Code} {Z : bZ} {A : Nat → Prop} {q0 g0 : Nat → Nat} {o : bO Unit} {rB : Nat} {Kr : (Nat → Nat) → mS → Int32 → Int32 → Int32 → Nat → Option (bO Unit)} (hMr : ∀ {g : Nat → Nat} {v : mS} {z1 : Int32} {z2 : Int32} {z3 : Int32} {z4 : Nat} {o : bO Unit}, Kr g v z1 z2 z3 z4 = some o → gL g ≤ gL o.2.1) (hKr : ∀ {q g : Nat → Nat} {v : mS} {z1 : Int32} {z2 : Int32} {z3 : Int32} {z4 : Nat} {o : bO Unit}, Kr g v z1 z2 z3 z4 = some o → bx_M l Z rB y_N_work b_N_work 6 none [.ref (q 25), .int z1, .int z2, .int z3, .ref (q z4)] q g v enV o) (C0 : bn_C "FilterBench$Runner" b_N_work 6 Z A p l s m args meth c) (hr : meth.sig.returnType = none) (hnx : ∀ x ∈ c.exceptionTable.toList, False) : ∀  (g : Nat → Nat) (v : mS) (q : Nat → Nat) (H : Heap) (locs : List Loc) (ls : Array Slot), f_N_work_428 Kr   g v = some o → qs q0 q → gL g0 ≤ gL g → gL g ≤ gL o.2.1 → bn_H Z A s (q, g, v) H locs → lv_has ls 6 [] → bx_W p l e s m args below meth c Z A q0 g0 enV o (rB + 82) g H locs (F0 m 428 ls []) := by
  have hx := C0.1
  have hb := C0.2.1
  have hl0 := C0.2.2.2.2.2.2.2.2.2
  intro  g v q H locs ls h hq hm0 hm hH hl
  unfold f_N_work_428 at h
  have hcl9 := bx_room (h0 := (rB + 82)) (o := o) hm0 hm
  refine lv_goto (tgt := 559) hx hb d_N_work_428 (by decide) ?_
  exact w_N_work_559 hMr hKr C0 hr hnx   _ _ _ _ _ _ h hq hm0 hm hH (lv_sub hl [] rfl)
def f_N_work_445 (Kr : (Nat → Nat) → mS → Int32 → Int32 → Int32 → Nat → Option (bO Unit))   (g : Nat → Nat) (v : mS) : Option (bO Unit) := f_N_work_559 Kr g v
set_option maxHeartbeats 4000000 in
set_option maxRecDepth 100000 in
theorem w_N_work_445 {p : Program} {l : Launch} {e : Env} {s : State} {m : MethodId} {args : Array Value} {below : List Frame} {meth : Method} {c : Code} {Z : bZ} {A : Nat → Prop} {q0 g0 : Nat → Nat} {o : bO Unit} {rB : Nat} {Kr : (Nat → Nat) → mS → Int32 → Int32 → Int32 → Nat → Option (bO Unit)} (hMr : ∀ {g : Nat → Nat} {v : mS} {z1 : Int32} {z2 : Int32} {z3 : Int32} {z4 : Nat} {o : bO Unit}, Kr g v z1 z2 z3 z4 = some o → gL g ≤ gL o.2.1) (hKr : ∀ {q g : Nat → Nat} {v : mS} {z1 : Int32} {z2 : Int32} {z3 : Int32} {z4 : Nat} {o : bO Unit}, Kr g v z1 z2 z3 z4 = some o → bx_M l Z rB y_N_work b_N_work 6 none [.ref (q 25), .int z1, .int z2, .int z3, .ref (q z4)] q g v enV o) (C0 : bn_C "FilterBench$Runner" b_N_work 6 Z A p l s m args meth c) (hr : meth.sig.returnType = none) (hnx : ∀ x ∈ c.exceptionTable.toList, False) : ∀  (g : Nat → Nat) (v : mS) (q : Nat → Nat) (H : Heap) (locs : List Loc) (ls : Array Slot), f_N_work_445 Kr   g v = some o → qs q0 q → gL g0 ≤ gL g → gL g ≤ gL o.2.1 → bn_H Z A s (q, g, v) H locs → lv_has ls 6 [] → bx_W p l e s m args below meth c Z A q0 g0 enV o (rB + 82) g H locs (F0 m 445 ls []) := by
  have hx := C0.1
  have hb := C0.2.1
  have hl0 := C0.2.2.2.2.2.2.2.2.2
  intro  g v q H locs ls h hq hm0 hm hH hl
  unfold f_N_work_445 at h
  have hcl9 := bx_room (h0 := (rB + 82)) (o := o) hm0 hm
  refine lv_goto (tgt := 559) hx hb d_N_work_445 (by decide) ?_
  exact w_N_work_559 hMr hKr C0 hr hnx   _ _ _ _ _ _ h hq hm0 hm hH (lv_sub hl [] rfl)
def f_N_work_440 (Kr : (Nat → Nat) → mS → Int32 → Int32 → Int32 → Nat → Option (bO Unit))  (x4 : Nat) (y1 : Int32) (g : Nat → Nat) (v : mS) : Option (bO Unit) := gd (rowB x4) (bo (f_N_give g v y1 x4) fun r9 g9 v9 => f_N_work_445 Kr g9 v9)
set_option maxHeartbeats 4000000 in
set_option maxRecDepth 100000 in
theorem w_N_work_440 {p : Program} {l : Launch} {e : Env} {s : State} {m : MethodId} {args : Array Value} {below : List Frame} {meth : Method} {c : Code} {Z : bZ} {A : Nat → Prop} {q0 g0 : Nat → Nat} {o : bO Unit} {rB : Nat} {Kr : (Nat → Nat) → mS → Int32 → Int32 → Int32 → Nat → Option (bO Unit)} (hMr : ∀ {g : Nat → Nat} {v : mS} {z1 : Int32} {z2 : Int32} {z3 : Int32} {z4 : Nat} {o : bO Unit}, Kr g v z1 z2 z3 z4 = some o → gL g ≤ gL o.2.1) (hKr : ∀ {q g : Nat → Nat} {v : mS} {z1 : Int32} {z2 : Int32} {z3 : Int32} {z4 : Nat} {o : bO Unit}, Kr g v z1 z2 z3 z4 = some o → bx_M l Z rB y_N_work b_N_work 6 none [.ref (q 25), .int z1, .int z2, .int z3, .ref (q z4)] q g v enV o) (C0 : bn_C "FilterBench$Runner" b_N_work 6 Z A p l s m args meth c) (hr : meth.sig.returnType = none) (hnx : ∀ x ∈ c.exceptionTable.toList, False) : ∀ (x4 : Nat) (y1 : Int32) (g : Nat → Nat) (v : mS) (q : Nat → Nat) (H : Heap) (locs : List Loc) (ls : Array Slot), f_N_work_440 Kr  x4 y1 g v = some o → qs q0 q → gL g0 ≤ gL g → gL g ≤ gL o.2.1 → bn_H Z A s (q, g, v) H locs → lv_has ls 6 [(4, .ref (q x4))] → bx_W p l e s m args below meth c Z A q0 g0 enV o (rB + 82) g H locs (F0 m 440 ls [.int y1, .ref (q 25)]) := by
  have hx := C0.1
  have hb := C0.2.1
  have hl0 := C0.2.2.2.2.2.2.2.2.2
  intro x4 y1 g v q H locs ls h hq hm0 hm hH hl
  unfold f_N_work_440 at h
  have hcl9 := bx_room (h0 := (rB + 82)) (o := o) hm0 hm
  obtain ⟨hgx4, h⟩ := gd_out h
  refine lv_aload hx hb d_N_work_440 (lv_at hl 0 rfl) ?_
  obtain ⟨o1, hc, hm2, ht9, hx1, hk9⟩ := bo_out h
  have hm1 := mn_N_give hc
  refine bx_cV (as := [.int y1, .ref (q x4)]) (rest := []) C0 hnx hq hH hm0 hm1 hm2 ht9 (ci := 3) ⟨by decide, by decide⟩ (by decide) rfl (c_N_give hl0 hc) yy_N_give q_547 ⟨by first | omega | (simp only [dK]; omega), by first | omega | (simp only [dK]; omega)⟩ rfl hl.1 rfl (Nat.le_of_ble_eq_true rfl) d_N_work_442 hx1 (fun r9 q1 H locs hr1 hq0 hq1 hm9 hH => ?_)
  have h := hk9 r9 hr1
  exact w_N_work_445 hMr hKr C0 hr hnx   _ _ _ _ _ _ h hq0 hm9 hm2 hH (lv_sub hl [] rfl)
def f_N_work_462 (Kr : (Nat → Nat) → mS → Int32 → Int32 → Int32 → Nat → Option (bO Unit))   (g : Nat → Nat) (v : mS) : Option (bO Unit) := f_N_work_559 Kr g v
set_option maxHeartbeats 4000000 in
set_option maxRecDepth 100000 in
theorem w_N_work_462 {p : Program} {l : Launch} {e : Env} {s : State} {m : MethodId} {args : Array Value} {below : List Frame} {meth : Method} {c : Code} {Z : bZ} {A : Nat → Prop} {q0 g0 : Nat → Nat} {o : bO Unit} {rB : Nat} {Kr : (Nat → Nat) → mS → Int32 → Int32 → Int32 → Nat → Option (bO Unit)} (hMr : ∀ {g : Nat → Nat} {v : mS} {z1 : Int32} {z2 : Int32} {z3 : Int32} {z4 : Nat} {o : bO Unit}, Kr g v z1 z2 z3 z4 = some o → gL g ≤ gL o.2.1) (hKr : ∀ {q g : Nat → Nat} {v : mS} {z1 : Int32} {z2 : Int32} {z3 : Int32} {z4 : Nat} {o : bO Unit}, Kr g v z1 z2 z3 z4 = some o → bx_M l Z rB y_N_work b_N_work 6 none [.ref (q 25), .int z1, .int z2, .int z3, .ref (q z4)] q g v enV o) (C0 : bn_C "FilterBench$Runner" b_N_work 6 Z A p l s m args meth c) (hr : meth.sig.returnType = none) (hnx : ∀ x ∈ c.exceptionTable.toList, False) : ∀  (g : Nat → Nat) (v : mS) (q : Nat → Nat) (H : Heap) (locs : List Loc) (ls : Array Slot), f_N_work_462 Kr   g v = some o → qs q0 q → gL g0 ≤ gL g → gL g ≤ gL o.2.1 → bn_H Z A s (q, g, v) H locs → lv_has ls 6 [] → bx_W p l e s m args below meth c Z A q0 g0 enV o (rB + 82) g H locs (F0 m 462 ls []) := by
  have hx := C0.1
  have hb := C0.2.1
  have hl0 := C0.2.2.2.2.2.2.2.2.2
  intro  g v q H locs ls h hq hm0 hm hH hl
  unfold f_N_work_462 at h
  have hcl9 := bx_room (h0 := (rB + 82)) (o := o) hm0 hm
  refine lv_goto (tgt := 559) hx hb d_N_work_462 (by decide) ?_
  exact w_N_work_559 hMr hKr C0 hr hnx   _ _ _ _ _ _ h hq hm0 hm hH (lv_sub hl [] rfl)
def f_N_work_457 (Kr : (Nat → Nat) → mS → Int32 → Int32 → Int32 → Nat → Option (bO Unit))  (x4 : Nat) (y1 : Int32) (g : Nat → Nat) (v : mS) : Option (bO Unit) := gd (rowB x4) (bo (f_N_give g v y1 x4) fun r9 g9 v9 => f_N_work_462 Kr g9 v9)
set_option maxHeartbeats 4000000 in
set_option maxRecDepth 100000 in
theorem w_N_work_457 {p : Program} {l : Launch} {e : Env} {s : State} {m : MethodId} {args : Array Value} {below : List Frame} {meth : Method} {c : Code} {Z : bZ} {A : Nat → Prop} {q0 g0 : Nat → Nat} {o : bO Unit} {rB : Nat} {Kr : (Nat → Nat) → mS → Int32 → Int32 → Int32 → Nat → Option (bO Unit)} (hMr : ∀ {g : Nat → Nat} {v : mS} {z1 : Int32} {z2 : Int32} {z3 : Int32} {z4 : Nat} {o : bO Unit}, Kr g v z1 z2 z3 z4 = some o → gL g ≤ gL o.2.1) (hKr : ∀ {q g : Nat → Nat} {v : mS} {z1 : Int32} {z2 : Int32} {z3 : Int32} {z4 : Nat} {o : bO Unit}, Kr g v z1 z2 z3 z4 = some o → bx_M l Z rB y_N_work b_N_work 6 none [.ref (q 25), .int z1, .int z2, .int z3, .ref (q z4)] q g v enV o) (C0 : bn_C "FilterBench$Runner" b_N_work 6 Z A p l s m args meth c) (hr : meth.sig.returnType = none) (hnx : ∀ x ∈ c.exceptionTable.toList, False) : ∀ (x4 : Nat) (y1 : Int32) (g : Nat → Nat) (v : mS) (q : Nat → Nat) (H : Heap) (locs : List Loc) (ls : Array Slot), f_N_work_457 Kr  x4 y1 g v = some o → qs q0 q → gL g0 ≤ gL g → gL g ≤ gL o.2.1 → bn_H Z A s (q, g, v) H locs → lv_has ls 6 [(4, .ref (q x4))] → bx_W p l e s m args below meth c Z A q0 g0 enV o (rB + 82) g H locs (F0 m 457 ls [.int y1, .ref (q 25)]) := by
  have hx := C0.1
  have hb := C0.2.1
  have hl0 := C0.2.2.2.2.2.2.2.2.2
  intro x4 y1 g v q H locs ls h hq hm0 hm hH hl
  unfold f_N_work_457 at h
  have hcl9 := bx_room (h0 := (rB + 82)) (o := o) hm0 hm
  obtain ⟨hgx4, h⟩ := gd_out h
  refine lv_aload hx hb d_N_work_457 (lv_at hl 0 rfl) ?_
  obtain ⟨o1, hc, hm2, ht9, hx1, hk9⟩ := bo_out h
  have hm1 := mn_N_give hc
  refine bx_cV (as := [.int y1, .ref (q x4)]) (rest := []) C0 hnx hq hH hm0 hm1 hm2 ht9 (ci := 3) ⟨by decide, by decide⟩ (by decide) rfl (c_N_give hl0 hc) yy_N_give q_547 ⟨by first | omega | (simp only [dK]; omega), by first | omega | (simp only [dK]; omega)⟩ rfl hl.1 rfl (Nat.le_of_ble_eq_true rfl) d_N_work_459 hx1 (fun r9 q1 H locs hr1 hq0 hq1 hm9 hH => ?_)
  have h := hk9 r9 hr1
  exact w_N_work_462 hMr hKr C0 hr hnx   _ _ _ _ _ _ h hq0 hm9 hm2 hH (lv_sub hl [] rfl)
def f_N_work_491 (Kr : (Nat → Nat) → mS → Int32 → Int32 → Int32 → Nat → Option (bO Unit))   (g : Nat → Nat) (v : mS) : Option (bO Unit) := f_N_work_559 Kr g v
set_option maxHeartbeats 4000000 in
set_option maxRecDepth 100000 in
theorem w_N_work_491 {p : Program} {l : Launch} {e : Env} {s : State} {m : MethodId} {args : Array Value} {below : List Frame} {meth : Method} {c : Code} {Z : bZ} {A : Nat → Prop} {q0 g0 : Nat → Nat} {o : bO Unit} {rB : Nat} {Kr : (Nat → Nat) → mS → Int32 → Int32 → Int32 → Nat → Option (bO Unit)} (hMr : ∀ {g : Nat → Nat} {v : mS} {z1 : Int32} {z2 : Int32} {z3 : Int32} {z4 : Nat} {o : bO Unit}, Kr g v z1 z2 z3 z4 = some o → gL g ≤ gL o.2.1) (hKr : ∀ {q g : Nat → Nat} {v : mS} {z1 : Int32} {z2 : Int32} {z3 : Int32} {z4 : Nat} {o : bO Unit}, Kr g v z1 z2 z3 z4 = some o → bx_M l Z rB y_N_work b_N_work 6 none [.ref (q 25), .int z1, .int z2, .int z3, .ref (q z4)] q g v enV o) (C0 : bn_C "FilterBench$Runner" b_N_work 6 Z A p l s m args meth c) (hr : meth.sig.returnType = none) (hnx : ∀ x ∈ c.exceptionTable.toList, False) : ∀  (g : Nat → Nat) (v : mS) (q : Nat → Nat) (H : Heap) (locs : List Loc) (ls : Array Slot), f_N_work_491 Kr   g v = some o → qs q0 q → gL g0 ≤ gL g → gL g ≤ gL o.2.1 → bn_H Z A s (q, g, v) H locs → lv_has ls 6 [] → bx_W p l e s m args below meth c Z A q0 g0 enV o (rB + 82) g H locs (F0 m 491 ls []) := by
  have hx := C0.1
  have hb := C0.2.1
  have hl0 := C0.2.2.2.2.2.2.2.2.2
  intro  g v q H locs ls h hq hm0 hm hH hl
  unfold f_N_work_491 at h
  have hcl9 := bx_room (h0 := (rB + 82)) (o := o) hm0 hm
  refine lv_goto (tgt := 559) hx hb d_N_work_491 (by decide) ?_
  exact w_N_work_559 hMr hKr C0 hr hnx   _ _ _ _ _ _ h hq hm0 hm hH (lv_sub hl [] rfl)
def f_N_work_486 (Kr : (Nat → Nat) → mS → Int32 → Int32 → Int32 → Nat → Option (bO Unit))  (x4 : Nat) (y1 : Int32) (g : Nat → Nat) (v : mS) : Option (bO Unit) := gd (rowB x4) (bo (f_N_give g v y1 x4) fun r9 g9 v9 => f_N_work_491 Kr g9 v9)
set_option maxHeartbeats 4000000 in
set_option maxRecDepth 100000 in
theorem w_N_work_486 {p : Program} {l : Launch} {e : Env} {s : State} {m : MethodId} {args : Array Value} {below : List Frame} {meth : Method} {c : Code} {Z : bZ} {A : Nat → Prop} {q0 g0 : Nat → Nat} {o : bO Unit} {rB : Nat} {Kr : (Nat → Nat) → mS → Int32 → Int32 → Int32 → Nat → Option (bO Unit)} (hMr : ∀ {g : Nat → Nat} {v : mS} {z1 : Int32} {z2 : Int32} {z3 : Int32} {z4 : Nat} {o : bO Unit}, Kr g v z1 z2 z3 z4 = some o → gL g ≤ gL o.2.1) (hKr : ∀ {q g : Nat → Nat} {v : mS} {z1 : Int32} {z2 : Int32} {z3 : Int32} {z4 : Nat} {o : bO Unit}, Kr g v z1 z2 z3 z4 = some o → bx_M l Z rB y_N_work b_N_work 6 none [.ref (q 25), .int z1, .int z2, .int z3, .ref (q z4)] q g v enV o) (C0 : bn_C "FilterBench$Runner" b_N_work 6 Z A p l s m args meth c) (hr : meth.sig.returnType = none) (hnx : ∀ x ∈ c.exceptionTable.toList, False) : ∀ (x4 : Nat) (y1 : Int32) (g : Nat → Nat) (v : mS) (q : Nat → Nat) (H : Heap) (locs : List Loc) (ls : Array Slot), f_N_work_486 Kr  x4 y1 g v = some o → qs q0 q → gL g0 ≤ gL g → gL g ≤ gL o.2.1 → bn_H Z A s (q, g, v) H locs → lv_has ls 6 [(4, .ref (q x4))] → bx_W p l e s m args below meth c Z A q0 g0 enV o (rB + 82) g H locs (F0 m 486 ls [.int y1, .ref (q 25)]) := by
  have hx := C0.1
  have hb := C0.2.1
  have hl0 := C0.2.2.2.2.2.2.2.2.2
  intro x4 y1 g v q H locs ls h hq hm0 hm hH hl
  unfold f_N_work_486 at h
  have hcl9 := bx_room (h0 := (rB + 82)) (o := o) hm0 hm
  obtain ⟨hgx4, h⟩ := gd_out h
  refine lv_aload hx hb d_N_work_486 (lv_at hl 0 rfl) ?_
  obtain ⟨o1, hc, hm2, ht9, hx1, hk9⟩ := bo_out h
  have hm1 := mn_N_give hc
  refine bx_cV (as := [.int y1, .ref (q x4)]) (rest := []) C0 hnx hq hH hm0 hm1 hm2 ht9 (ci := 3) ⟨by decide, by decide⟩ (by decide) rfl (c_N_give hl0 hc) yy_N_give q_547 ⟨by first | omega | (simp only [dK]; omega), by first | omega | (simp only [dK]; omega)⟩ rfl hl.1 rfl (Nat.le_of_ble_eq_true rfl) d_N_work_488 hx1 (fun r9 q1 H locs hr1 hq0 hq1 hm9 hH => ?_)
  have h := hk9 r9 hr1
  exact w_N_work_491 hMr hKr C0 hr hnx   _ _ _ _ _ _ h hq0 hm9 hm2 hH (lv_sub hl [] rfl)
def f_N_work_508 (Kr : (Nat → Nat) → mS → Int32 → Int32 → Int32 → Nat → Option (bO Unit))   (g : Nat → Nat) (v : mS) : Option (bO Unit) := f_N_work_559 Kr g v
set_option maxHeartbeats 4000000 in
set_option maxRecDepth 100000 in
theorem w_N_work_508 {p : Program} {l : Launch} {e : Env} {s : State} {m : MethodId} {args : Array Value} {below : List Frame} {meth : Method} {c : Code} {Z : bZ} {A : Nat → Prop} {q0 g0 : Nat → Nat} {o : bO Unit} {rB : Nat} {Kr : (Nat → Nat) → mS → Int32 → Int32 → Int32 → Nat → Option (bO Unit)} (hMr : ∀ {g : Nat → Nat} {v : mS} {z1 : Int32} {z2 : Int32} {z3 : Int32} {z4 : Nat} {o : bO Unit}, Kr g v z1 z2 z3 z4 = some o → gL g ≤ gL o.2.1) (hKr : ∀ {q g : Nat → Nat} {v : mS} {z1 : Int32} {z2 : Int32} {z3 : Int32} {z4 : Nat} {o : bO Unit}, Kr g v z1 z2 z3 z4 = some o → bx_M l Z rB y_N_work b_N_work 6 none [.ref (q 25), .int z1, .int z2, .int z3, .ref (q z4)] q g v enV o) (C0 : bn_C "FilterBench$Runner" b_N_work 6 Z A p l s m args meth c) (hr : meth.sig.returnType = none) (hnx : ∀ x ∈ c.exceptionTable.toList, False) : ∀  (g : Nat → Nat) (v : mS) (q : Nat → Nat) (H : Heap) (locs : List Loc) (ls : Array Slot), f_N_work_508 Kr   g v = some o → qs q0 q → gL g0 ≤ gL g → gL g ≤ gL o.2.1 → bn_H Z A s (q, g, v) H locs → lv_has ls 6 [] → bx_W p l e s m args below meth c Z A q0 g0 enV o (rB + 82) g H locs (F0 m 508 ls []) := by
  have hx := C0.1
  have hb := C0.2.1
  have hl0 := C0.2.2.2.2.2.2.2.2.2
  intro  g v q H locs ls h hq hm0 hm hH hl
  unfold f_N_work_508 at h
  have hcl9 := bx_room (h0 := (rB + 82)) (o := o) hm0 hm
  refine lv_goto (tgt := 559) hx hb d_N_work_508 (by decide) ?_
  exact w_N_work_559 hMr hKr C0 hr hnx   _ _ _ _ _ _ h hq hm0 hm hH (lv_sub hl [] rfl)
def f_N_work_503 (Kr : (Nat → Nat) → mS → Int32 → Int32 → Int32 → Nat → Option (bO Unit))  (x4 : Nat) (y1 : Int32) (g : Nat → Nat) (v : mS) : Option (bO Unit) := gd (rowB x4) (bo (f_N_give g v y1 x4) fun r9 g9 v9 => f_N_work_508 Kr g9 v9)
set_option maxHeartbeats 4000000 in
set_option maxRecDepth 100000 in
theorem w_N_work_503 {p : Program} {l : Launch} {e : Env} {s : State} {m : MethodId} {args : Array Value} {below : List Frame} {meth : Method} {c : Code} {Z : bZ} {A : Nat → Prop} {q0 g0 : Nat → Nat} {o : bO Unit} {rB : Nat} {Kr : (Nat → Nat) → mS → Int32 → Int32 → Int32 → Nat → Option (bO Unit)} (hMr : ∀ {g : Nat → Nat} {v : mS} {z1 : Int32} {z2 : Int32} {z3 : Int32} {z4 : Nat} {o : bO Unit}, Kr g v z1 z2 z3 z4 = some o → gL g ≤ gL o.2.1) (hKr : ∀ {q g : Nat → Nat} {v : mS} {z1 : Int32} {z2 : Int32} {z3 : Int32} {z4 : Nat} {o : bO Unit}, Kr g v z1 z2 z3 z4 = some o → bx_M l Z rB y_N_work b_N_work 6 none [.ref (q 25), .int z1, .int z2, .int z3, .ref (q z4)] q g v enV o) (C0 : bn_C "FilterBench$Runner" b_N_work 6 Z A p l s m args meth c) (hr : meth.sig.returnType = none) (hnx : ∀ x ∈ c.exceptionTable.toList, False) : ∀ (x4 : Nat) (y1 : Int32) (g : Nat → Nat) (v : mS) (q : Nat → Nat) (H : Heap) (locs : List Loc) (ls : Array Slot), f_N_work_503 Kr  x4 y1 g v = some o → qs q0 q → gL g0 ≤ gL g → gL g ≤ gL o.2.1 → bn_H Z A s (q, g, v) H locs → lv_has ls 6 [(4, .ref (q x4))] → bx_W p l e s m args below meth c Z A q0 g0 enV o (rB + 82) g H locs (F0 m 503 ls [.int y1, .ref (q 25)]) := by
  have hx := C0.1
  have hb := C0.2.1
  have hl0 := C0.2.2.2.2.2.2.2.2.2
  intro x4 y1 g v q H locs ls h hq hm0 hm hH hl
  unfold f_N_work_503 at h
  have hcl9 := bx_room (h0 := (rB + 82)) (o := o) hm0 hm
  obtain ⟨hgx4, h⟩ := gd_out h
  refine lv_aload hx hb d_N_work_503 (lv_at hl 0 rfl) ?_
  obtain ⟨o1, hc, hm2, ht9, hx1, hk9⟩ := bo_out h
  have hm1 := mn_N_give hc
  refine bx_cV (as := [.int y1, .ref (q x4)]) (rest := []) C0 hnx hq hH hm0 hm1 hm2 ht9 (ci := 3) ⟨by decide, by decide⟩ (by decide) rfl (c_N_give hl0 hc) yy_N_give q_547 ⟨by first | omega | (simp only [dK]; omega), by first | omega | (simp only [dK]; omega)⟩ rfl hl.1 rfl (Nat.le_of_ble_eq_true rfl) d_N_work_505 hx1 (fun r9 q1 H locs hr1 hq0 hq1 hm9 hH => ?_)
  have h := hk9 r9 hr1
  exact w_N_work_508 hMr hKr C0 hr hnx   _ _ _ _ _ _ h hq0 hm9 hm2 hH (lv_sub hl [] rfl)
def f_N_work_518 (Kr : (Nat → Nat) → mS → Int32 → Int32 → Int32 → Nat → Option (bO Unit))   (g : Nat → Nat) (v : mS) : Option (bO Unit) := f_N_work_559 Kr g v
set_option maxHeartbeats 4000000 in
set_option maxRecDepth 100000 in
theorem w_N_work_518 {p : Program} {l : Launch} {e : Env} {s : State} {m : MethodId} {args : Array Value} {below : List Frame} {meth : Method} {c : Code} {Z : bZ} {A : Nat → Prop} {q0 g0 : Nat → Nat} {o : bO Unit} {rB : Nat} {Kr : (Nat → Nat) → mS → Int32 → Int32 → Int32 → Nat → Option (bO Unit)} (hMr : ∀ {g : Nat → Nat} {v : mS} {z1 : Int32} {z2 : Int32} {z3 : Int32} {z4 : Nat} {o : bO Unit}, Kr g v z1 z2 z3 z4 = some o → gL g ≤ gL o.2.1) (hKr : ∀ {q g : Nat → Nat} {v : mS} {z1 : Int32} {z2 : Int32} {z3 : Int32} {z4 : Nat} {o : bO Unit}, Kr g v z1 z2 z3 z4 = some o → bx_M l Z rB y_N_work b_N_work 6 none [.ref (q 25), .int z1, .int z2, .int z3, .ref (q z4)] q g v enV o) (C0 : bn_C "FilterBench$Runner" b_N_work 6 Z A p l s m args meth c) (hr : meth.sig.returnType = none) (hnx : ∀ x ∈ c.exceptionTable.toList, False) : ∀  (g : Nat → Nat) (v : mS) (q : Nat → Nat) (H : Heap) (locs : List Loc) (ls : Array Slot), f_N_work_518 Kr   g v = some o → qs q0 q → gL g0 ≤ gL g → gL g ≤ gL o.2.1 → bn_H Z A s (q, g, v) H locs → lv_has ls 6 [] → bx_W p l e s m args below meth c Z A q0 g0 enV o (rB + 82) g H locs (F0 m 518 ls []) := by
  have hx := C0.1
  have hb := C0.2.1
  have hl0 := C0.2.2.2.2.2.2.2.2.2
  intro  g v q H locs ls h hq hm0 hm hH hl
  unfold f_N_work_518 at h
  have hcl9 := bx_room (h0 := (rB + 82)) (o := o) hm0 hm
  refine lv_goto (tgt := 559) hx hb d_N_work_518 (by decide) ?_
  exact w_N_work_559 hMr hKr C0 hr hnx   _ _ _ _ _ _ h hq hm0 hm hH (lv_sub hl [] rfl)
def f_N_work_530 (Kr : (Nat → Nat) → mS → Int32 → Int32 → Int32 → Nat → Option (bO Unit))   (g : Nat → Nat) (v : mS) : Option (bO Unit) := f_N_work_559 Kr g v
set_option maxHeartbeats 4000000 in
set_option maxRecDepth 100000 in
theorem w_N_work_530 {p : Program} {l : Launch} {e : Env} {s : State} {m : MethodId} {args : Array Value} {below : List Frame} {meth : Method} {c : Code} {Z : bZ} {A : Nat → Prop} {q0 g0 : Nat → Nat} {o : bO Unit} {rB : Nat} {Kr : (Nat → Nat) → mS → Int32 → Int32 → Int32 → Nat → Option (bO Unit)} (hMr : ∀ {g : Nat → Nat} {v : mS} {z1 : Int32} {z2 : Int32} {z3 : Int32} {z4 : Nat} {o : bO Unit}, Kr g v z1 z2 z3 z4 = some o → gL g ≤ gL o.2.1) (hKr : ∀ {q g : Nat → Nat} {v : mS} {z1 : Int32} {z2 : Int32} {z3 : Int32} {z4 : Nat} {o : bO Unit}, Kr g v z1 z2 z3 z4 = some o → bx_M l Z rB y_N_work b_N_work 6 none [.ref (q 25), .int z1, .int z2, .int z3, .ref (q z4)] q g v enV o) (C0 : bn_C "FilterBench$Runner" b_N_work 6 Z A p l s m args meth c) (hr : meth.sig.returnType = none) (hnx : ∀ x ∈ c.exceptionTable.toList, False) : ∀  (g : Nat → Nat) (v : mS) (q : Nat → Nat) (H : Heap) (locs : List Loc) (ls : Array Slot), f_N_work_530 Kr   g v = some o → qs q0 q → gL g0 ≤ gL g → gL g ≤ gL o.2.1 → bn_H Z A s (q, g, v) H locs → lv_has ls 6 [] → bx_W p l e s m args below meth c Z A q0 g0 enV o (rB + 82) g H locs (F0 m 530 ls []) := by
  have hx := C0.1
  have hb := C0.2.1
  have hl0 := C0.2.2.2.2.2.2.2.2.2
  intro  g v q H locs ls h hq hm0 hm hH hl
  unfold f_N_work_530 at h
  have hcl9 := bx_room (h0 := (rB + 82)) (o := o) hm0 hm
  refine lv_goto (tgt := 559) hx hb d_N_work_530 (by decide) ?_
  exact w_N_work_559 hMr hKr C0 hr hnx   _ _ _ _ _ _ h hq hm0 hm hH (lv_sub hl [] rfl)
def f_N_work_547 (Kr : (Nat → Nat) → mS → Int32 → Int32 → Int32 → Nat → Option (bO Unit))   (g : Nat → Nat) (v : mS) : Option (bO Unit) := f_N_work_559 Kr g v
set_option maxHeartbeats 4000000 in
set_option maxRecDepth 100000 in
theorem w_N_work_547 {p : Program} {l : Launch} {e : Env} {s : State} {m : MethodId} {args : Array Value} {below : List Frame} {meth : Method} {c : Code} {Z : bZ} {A : Nat → Prop} {q0 g0 : Nat → Nat} {o : bO Unit} {rB : Nat} {Kr : (Nat → Nat) → mS → Int32 → Int32 → Int32 → Nat → Option (bO Unit)} (hMr : ∀ {g : Nat → Nat} {v : mS} {z1 : Int32} {z2 : Int32} {z3 : Int32} {z4 : Nat} {o : bO Unit}, Kr g v z1 z2 z3 z4 = some o → gL g ≤ gL o.2.1) (hKr : ∀ {q g : Nat → Nat} {v : mS} {z1 : Int32} {z2 : Int32} {z3 : Int32} {z4 : Nat} {o : bO Unit}, Kr g v z1 z2 z3 z4 = some o → bx_M l Z rB y_N_work b_N_work 6 none [.ref (q 25), .int z1, .int z2, .int z3, .ref (q z4)] q g v enV o) (C0 : bn_C "FilterBench$Runner" b_N_work 6 Z A p l s m args meth c) (hr : meth.sig.returnType = none) (hnx : ∀ x ∈ c.exceptionTable.toList, False) : ∀  (g : Nat → Nat) (v : mS) (q : Nat → Nat) (H : Heap) (locs : List Loc) (ls : Array Slot), f_N_work_547 Kr   g v = some o → qs q0 q → gL g0 ≤ gL g → gL g ≤ gL o.2.1 → bn_H Z A s (q, g, v) H locs → lv_has ls 6 [] → bx_W p l e s m args below meth c Z A q0 g0 enV o (rB + 82) g H locs (F0 m 547 ls []) := by
  have hx := C0.1
  have hb := C0.2.1
  have hl0 := C0.2.2.2.2.2.2.2.2.2
  intro  g v q H locs ls h hq hm0 hm hH hl
  unfold f_N_work_547 at h
  have hcl9 := bx_room (h0 := (rB + 82)) (o := o) hm0 hm
  refine lv_goto (tgt := 559) hx hb d_N_work_547 (by decide) ?_
  exact w_N_work_559 hMr hKr C0 hr hnx   _ _ _ _ _ _ h hq hm0 hm hH (lv_sub hl [] rfl)
def f_N_work_542 (Kr : (Nat → Nat) → mS → Int32 → Int32 → Int32 → Nat → Option (bO Unit))  (x4 : Nat) (y1 : Int32) (g : Nat → Nat) (v : mS) : Option (bO Unit) := gd (rowB x4) (bo (f_N_give g v y1 x4) fun r9 g9 v9 => f_N_work_547 Kr g9 v9)
set_option maxHeartbeats 4000000 in
set_option maxRecDepth 100000 in
theorem w_N_work_542 {p : Program} {l : Launch} {e : Env} {s : State} {m : MethodId} {args : Array Value} {below : List Frame} {meth : Method} {c : Code} {Z : bZ} {A : Nat → Prop} {q0 g0 : Nat → Nat} {o : bO Unit} {rB : Nat} {Kr : (Nat → Nat) → mS → Int32 → Int32 → Int32 → Nat → Option (bO Unit)} (hMr : ∀ {g : Nat → Nat} {v : mS} {z1 : Int32} {z2 : Int32} {z3 : Int32} {z4 : Nat} {o : bO Unit}, Kr g v z1 z2 z3 z4 = some o → gL g ≤ gL o.2.1) (hKr : ∀ {q g : Nat → Nat} {v : mS} {z1 : Int32} {z2 : Int32} {z3 : Int32} {z4 : Nat} {o : bO Unit}, Kr g v z1 z2 z3 z4 = some o → bx_M l Z rB y_N_work b_N_work 6 none [.ref (q 25), .int z1, .int z2, .int z3, .ref (q z4)] q g v enV o) (C0 : bn_C "FilterBench$Runner" b_N_work 6 Z A p l s m args meth c) (hr : meth.sig.returnType = none) (hnx : ∀ x ∈ c.exceptionTable.toList, False) : ∀ (x4 : Nat) (y1 : Int32) (g : Nat → Nat) (v : mS) (q : Nat → Nat) (H : Heap) (locs : List Loc) (ls : Array Slot), f_N_work_542 Kr  x4 y1 g v = some o → qs q0 q → gL g0 ≤ gL g → gL g ≤ gL o.2.1 → bn_H Z A s (q, g, v) H locs → lv_has ls 6 [(4, .ref (q x4))] → bx_W p l e s m args below meth c Z A q0 g0 enV o (rB + 82) g H locs (F0 m 542 ls [.int y1, .ref (q 25)]) := by
  have hx := C0.1
  have hb := C0.2.1
  have hl0 := C0.2.2.2.2.2.2.2.2.2
  intro x4 y1 g v q H locs ls h hq hm0 hm hH hl
  unfold f_N_work_542 at h
  have hcl9 := bx_room (h0 := (rB + 82)) (o := o) hm0 hm
  obtain ⟨hgx4, h⟩ := gd_out h
  refine lv_aload hx hb d_N_work_542 (lv_at hl 0 rfl) ?_
  obtain ⟨o1, hc, hm2, ht9, hx1, hk9⟩ := bo_out h
  have hm1 := mn_N_give hc
  refine bx_cV (as := [.int y1, .ref (q x4)]) (rest := []) C0 hnx hq hH hm0 hm1 hm2 ht9 (ci := 3) ⟨by decide, by decide⟩ (by decide) rfl (c_N_give hl0 hc) yy_N_give q_547 ⟨by first | omega | (simp only [dK]; omega), by first | omega | (simp only [dK]; omega)⟩ rfl hl.1 rfl (Nat.le_of_ble_eq_true rfl) d_N_work_544 hx1 (fun r9 q1 H locs hr1 hq0 hq1 hm9 hH => ?_)
  have h := hk9 r9 hr1
  exact w_N_work_547 hMr hKr C0 hr hnx   _ _ _ _ _ _ h hq0 hm9 hm2 hH (lv_sub hl [] rfl)
def f_N_work_550 (Kr : (Nat → Nat) → mS → Int32 → Int32 → Int32 → Nat → Option (bO Unit))  (x1 : Int32) (x2 : Int32) (x3 : Int32) (x4 : Nat) (g : Nat → Nat) (v : mS) : Option (bO Unit) := gd (rowB x4) (bo (f_N_forEach Kr g v x1 x2 x3 x4) fun r9 g9 v9 => f_N_work_559 Kr g9 v9)
set_option maxHeartbeats 4000000 in
set_option maxRecDepth 100000 in
theorem w_N_work_550 {p : Program} {l : Launch} {e : Env} {s : State} {m : MethodId} {args : Array Value} {below : List Frame} {meth : Method} {c : Code} {Z : bZ} {A : Nat → Prop} {q0 g0 : Nat → Nat} {o : bO Unit} {rB : Nat} {Kr : (Nat → Nat) → mS → Int32 → Int32 → Int32 → Nat → Option (bO Unit)} (hMr : ∀ {g : Nat → Nat} {v : mS} {z1 : Int32} {z2 : Int32} {z3 : Int32} {z4 : Nat} {o : bO Unit}, Kr g v z1 z2 z3 z4 = some o → gL g ≤ gL o.2.1) (hKr : ∀ {q g : Nat → Nat} {v : mS} {z1 : Int32} {z2 : Int32} {z3 : Int32} {z4 : Nat} {o : bO Unit}, Kr g v z1 z2 z3 z4 = some o → bx_M l Z rB y_N_work b_N_work 6 none [.ref (q 25), .int z1, .int z2, .int z3, .ref (q z4)] q g v enV o) (C0 : bn_C "FilterBench$Runner" b_N_work 6 Z A p l s m args meth c) (hr : meth.sig.returnType = none) (hnx : ∀ x ∈ c.exceptionTable.toList, False) : ∀ (x1 : Int32) (x2 : Int32) (x3 : Int32) (x4 : Nat) (g : Nat → Nat) (v : mS) (q : Nat → Nat) (H : Heap) (locs : List Loc) (ls : Array Slot), f_N_work_550 Kr  x1 x2 x3 x4 g v = some o → qs q0 q → gL g0 ≤ gL g → gL g ≤ gL o.2.1 → bn_H Z A s (q, g, v) H locs → lv_has ls 6 [(0, .ref (q 25)), (1, .int x1), (2, .int x2), (3, .int x3), (4, .ref (q x4))] → bx_W p l e s m args below meth c Z A q0 g0 enV o (rB + 82) g H locs (F0 m 550 ls []) := by
  have hx := C0.1
  have hb := C0.2.1
  have hl0 := C0.2.2.2.2.2.2.2.2.2
  intro x1 x2 x3 x4 g v q H locs ls h hq hm0 hm hH hl
  unfold f_N_work_550 at h
  have hcl9 := bx_room (h0 := (rB + 82)) (o := o) hm0 hm
  obtain ⟨hgx4, h⟩ := gd_out h
  refine lv_aload_n hx hb d_N_work_550 rfl (lv_at hl 0 rfl) ?_
  refine lv_iload_n hx hb d_N_work_551 rfl (lv_at hl 1 rfl) ?_
  refine lv_iload_n hx hb d_N_work_552 rfl (lv_at hl 2 rfl) ?_
  refine lv_iload_n hx hb d_N_work_553 rfl (lv_at hl 3 rfl) ?_
  refine lv_aload hx hb d_N_work_554 (lv_at hl 4 rfl) ?_
  obtain ⟨o1, hc, hm2, ht9, hx1, hk9⟩ := bo_out h
  have hm1 := mn_N_forEach hc
  refine bx_cV (as := [.int x1, .int x2, .int x3, .ref (q x4)]) (rest := []) C0 hnx hq hH hm0 hm1 hm2 ht9 (ci := 3) ⟨by decide, by decide⟩ (by decide) rfl (c_N_forEach hMr hKr hl0 hc) yy_N_forEach q_772 ⟨by first | omega | (simp only [dK]; omega), by first | omega | (simp only [dK]; omega)⟩ rfl hl.1 rfl (Nat.le_of_ble_eq_true rfl) d_N_work_556 hx1 (fun r9 q1 H locs hr1 hq0 hq1 hm9 hH => ?_)
  have h := hk9 r9 hr1
  exact w_N_work_559 hMr hKr C0 hr hnx   _ _ _ _ _ _ h hq0 hm9 hm2 hH (lv_sub hl [] rfl)
def f_N_workb (Kr : (Nat → Nat) → mS → Int32 → Int32 → Int32 → Nat → Option (bO Unit)) (g : Nat → Nat) (v : mS) (x1 : Int32) (x2 : Int32) (x3 : Int32) (x4 : Nat) : Option (bO Unit) := mg g (gd (rowB x4) (if (v 25 5) = 150 then (some (.inr 3, g, v)) else (nm (sU v 25 5 ((v 25 5) + 1)) fun v_2 => gd (filB (9 + 4 * g 25)) (bi (f_F_choiceAt g v_2 ((9 + 4 * g 25)) x1) fun r_6 v_4 => gd (filB (9 + 4 * g 25)) (bi (f_F_opAt g v_4 ((9 + 4 * g 25)) x1) fun r_10 v_8 => if r_10 = 0 then (bo (f_R_put g v_8 x4 x2) fun r9 g9 v9 => f_N_work_210 Kr g9 v9) else if r_10 = 1 then (gd (inB r_6 8) (bi (f_V_fieldOf g v_8 x2 (v_8 7 (r_6 : Int32).toNatClampNeg)) fun r_15 v_13 => bo (f_N_give g v_13 r_15 x4) fun r9 g9 v9 => f_N_work_234 Kr g9 v9)) else if r_10 = 2 then (f_N_work_550 Kr x1 x2 x3 x4 g v_8) else if r_10 = 3 then (bo (f_N_each g v_8 x2 x4) fun r9 g9 v9 => f_N_work_244 Kr g9 v9) else if r_10 = 4 then (f_N_work_550 Kr x1 x2 x3 x4 g v_8) else if r_10 = 5 then (bo (f_N_comma Kr g v_8 x1 x2 x3 x4) fun r9 g9 v9 => f_N_work_256 Kr g9 v9) else if r_10 = 6 then (bo (f_V_numberOf g v_8 ((r_6 : Int32).toInt64) 3) fun r9 g9 v9 => f_N_work_272 Kr x4 r9 g9 v9) else if r_10 = 7 then (gd (inB r_6 8) (bo (f_R_put g v_8 x4 (v_8 7 (r_6 : Int32).toNatClampNeg)) fun r9 g9 v9 => f_N_work_290 Kr g9 v9)) else if r_10 = 8 then (bi (f_V_wordFor g v_8 r_6) fun r_26 v_24 => bo (f_R_put g v_24 x4 r_26) fun r9 g9 v9 => f_N_work_307 Kr g9 v9) else if r_10 = 9 then (bo (f_N_array Kr g v_8 x1 x2 x3 x4) fun r9 g9 v9 => f_N_work_319 Kr g9 v9) else if r_10 = 10 then (bo (f_V_emptyArray g v_8 ) fun r9 g9 v9 => f_N_work_331 Kr x4 r9 g9 v9) else if r_10 = 11 then (f_N_work_550 Kr x1 x2 x3 x4 g v_8) else if r_10 = 12 then (f_N_work_337 Kr x1 x2 x3 x4 g v_8) else if r_10 = 13 then (f_N_work_337 Kr x1 x2 x3 x4 g v_8) else if r_10 = 14 then (f_N_work_550 Kr x1 x2 x3 x4 g v_8) else if r_10 = 15 then (f_N_work_550 Kr x1 x2 x3 x4 g v_8) else if r_10 = 16 then (bi (f_V_isGood g v_8 x2) fun r_37 v_35 => if r_37 = 0 then (f_N_work_371 Kr x4 1 g v_35) else (f_N_work_371 Kr x4 0 g v_35)) else if r_10 = 17 then (f_N_work_550 Kr x1 x2 x3 x4 g v_8) else if r_10 = 18 then (bo (f_N_attempt Kr g v_8 x1 x2 x3 x4) fun r9 g9 v9 => f_N_work_389 Kr g9 v9) else if r_10 = 19 then (bo (f_N_alternative Kr g v_8 x1 x2 x3 x4) fun r9 g9 v9 => f_N_work_401 Kr g9 v9) else if r_10 = 20 then (f_N_work_550 Kr x1 x2 x3 x4 g v_8) else if r_10 = 21 then (gd (inB r_6 4) (bo (f_R_put g v_8 x4 (v_8 26 (r_6 : Int32).toNatClampNeg)) fun r9 g9 v9 => f_N_work_416 Kr g9 v9)) else if r_10 = 22 then (bo (f_N_reduce Kr g v_8 x1 x2 x3 x4) fun r9 g9 v9 => f_N_work_428 Kr g9 v9) else if r_10 = 23 then (bo (f_V_measured g v_8 x2) fun r9 g9 v9 => f_N_work_440 Kr x4 r9 g9 v9) else if r_10 = 24 then (bo (f_V_keysOf g v_8 x2) fun r9 g9 v9 => f_N_work_457 Kr x4 r9 g9 v9) else if r_10 = 25 then (f_N_work_559 Kr g v_8) else if r_10 = 26 then (bv (f_R_end g v_8 x4 x2) fun v_50 => f_N_work_559 Kr g v_50) else if r_10 = 27 then (bo (f_V_sorted g v_8 x2) fun r9 g9 v9 => f_N_work_486 Kr x4 r9 g9 v9) else if r_10 = 28 then (bo (f_V_sumOf g v_8 x2) fun r9 g9 v9 => f_N_work_503 Kr x4 r9 g9 v9) else if r_10 = 29 then (f_N_work_550 Kr x1 x2 x3 x4 g v_8) else if r_10 = 30 then (bo (f_N_all dK g v_8 x2 x4) fun r9 g9 v9 => f_N_work_518 Kr g9 v9) else if r_10 = 31 then (bo (f_N_limit Kr g v_8 x1 x2 x3 x4) fun r9 g9 v9 => f_N_work_530 Kr g9 v9) else if r_10 = 32 then (f_N_work_550 Kr x1 x2 x3 x4 g v_8) else if r_10 = 33 then (f_N_work_550 Kr x1 x2 x3 x4 g v_8) else if r_10 = 34 then (bo (f_V_floored g v_8 x2) fun r9 g9 v9 => f_N_work_542 Kr x4 r9 g9 v9) else (f_N_work_550 Kr x1 x2 x3 x4 g v_8))))))
theorem mn_N_workb {Kr : (Nat → Nat) → mS → Int32 → Int32 → Int32 → Nat → Option (bO Unit)} {g : Nat → Nat} {v : mS}  {x1 : Int32} {x2 : Int32} {x3 : Int32} {x4 : Nat} {o : bO Unit} (h : f_N_workb Kr g v x1 x2 x3 x4 = some o) : gL g ≤ gL o.2.1 := (mg_out h).1
set_option maxHeartbeats 4000000 in
set_option maxRecDepth 100000 in
theorem c_N_workb {l : Launch} {Z : bZ} {rB : Nat} {Kr : (Nat → Nat) → mS → Int32 → Int32 → Int32 → Nat → Option (bO Unit)} (hMr : ∀ {g : Nat → Nat} {v : mS} {z1 : Int32} {z2 : Int32} {z3 : Int32} {z4 : Nat} {o : bO Unit}, Kr g v z1 z2 z3 z4 = some o → gL g ≤ gL o.2.1) (hKr : ∀ {q g : Nat → Nat} {v : mS} {z1 : Int32} {z2 : Int32} {z3 : Int32} {z4 : Nat} {o : bO Unit}, Kr g v z1 z2 z3 z4 = some o → bx_M l Z rB y_N_work b_N_work 6 none [.ref (q 25), .int z1, .int z2, .int z3, .ref (q z4)] q g v enV o) (hl0 : l.stackTraces = false) {q g : Nat → Nat} {v : mS}  {x1 : Int32} {x2 : Int32} {x3 : Int32} {x4 : Nat} {o : bO Unit} (h : f_N_workb Kr g v x1 x2 x3 x4 = some o) : bx_M l Z (rB + 82) y_N_work b_N_work 6 none [.ref (q 25), .int x1, .int x2, .int x3, .ref (q x4)] q g v enV o := by
  refine bx_of hl0 (by decide +kernel) (Nat.le_of_ble_eq_true rfl) ?_
  intro p e s m args below meth c A ls C0 hr hnx hl hH
  have hx := C0.1
  have hb := C0.2.1
  have C0 : bn_C "FilterBench$Runner" b_N_work 6 Z A p l s m args meth c := C0
  have hl : lv_has ls 6 [(0, .ref (q 25)), (1, .int x1), (2, .int x2), (3, .int x3), (4, .ref (q x4))] := hl
  obtain ⟨hm, h⟩ := mg_out h
  have hm0 : gL g ≤ gL g := Nat.le_refl _
  have hq : qs q q := qs.rf
  have hcl9 := bx_room (h0 := (rB + 82)) (o := o) hm0 hm
  obtain ⟨hgx4, h⟩ := gd_out h
  refine lv_aload_n hx hb d_N_work_0 rfl (lv_at hl 0 rfl) ?_
  refine bn_g_N_steps ⟨by decide, by decide⟩ C0 hH d_N_work_1 ?_
  refine lv_sipush (v := 150) hx hb d_N_work_4 (by decide) ?_
  refine lv_icmp_ne (tgt := 20) hx hb d_N_work_7 (by decide) (fun c_1 => ?_) (fun c_1 => ?_)
  · rw [if_neg c_1] at h
    refine lv_aload_n hx hb d_N_work_20 rfl (lv_at hl 0 rfl) ?_
    refine lv_dup hx hb d_N_work_21 rfl ?_
    refine bn_g_N_steps ⟨by decide, by decide⟩ C0 hH d_N_work_22 ?_
    refine lv_iconst (v := 1) hx hb d_N_work_25 (by decide) ?_
    refine lv_iadd hx hb d_N_work_26 ?_
    obtain ⟨v_2, hv_2, h⟩ := nm_out h
    refine bn_p_N_steps ⟨by decide, by decide⟩ C0 hH d_N_work_27 (fun H locs hH => ?_)
    have hH : bn_H Z A s (q, g, v_2) H locs := by rw [hv_2]; exact hH
    refine lv_aload_n hx hb d_N_work_30 rfl (lv_at hl 0 rfl) ?_
    obtain ⟨g_3, h⟩ := gd_out h
    refine bn_g_N_filter ⟨by decide, by decide⟩ C0 hH d_N_work_31 ?_
    refine lv_iload_n hx hb d_N_work_34 rfl (lv_at hl 1 rfl) ?_
    obtain ⟨r_6, v_4, hc_5, h⟩ := bi_out h
    refine bn_ci (r := r_6) (w := (q, g, v_4)) (as := [.int x1]) (rest := []) C0 hH (ci := 1) (filB_k g_3) (by decide) rfl (c_F_choiceAt hl0 hc_5) yy_F_choiceAt q_500 ⟨by simp only [bn_rm, dK]; omega, by simp only [bn_rm, dK]; omega⟩ rfl hl.1 rfl (Nat.le_of_ble_eq_true rfl) hcl9 d_N_work_35 (fun H locs hH => ?_)
    refine lv_istore (lv' := [(5, .int r_6), (0, .ref (q 25)), (1, .int x1), (2, .int x2), (3, .int x3), (4, .ref (q x4))]) hx hb d_N_work_38 hl (by decide) rfl (fun ls hl => ?_)
    refine lv_aload_n hx hb d_N_work_40 rfl (lv_at hl 1 rfl) ?_
    obtain ⟨g_7, h⟩ := gd_out h
    refine bn_g_N_filter ⟨by decide, by decide⟩ C0 hH d_N_work_41 ?_
    refine lv_iload_n hx hb d_N_work_44 rfl (lv_at hl 2 rfl) ?_
    obtain ⟨r_10, v_8, hc_9, h⟩ := bi_out h
    refine bn_ci (r := r_10) (w := (q, g, v_8)) (as := [.int x1]) (rest := []) C0 hH (ci := 1) (filB_k g_7) (by decide) rfl (c_F_opAt hl0 hc_9) yy_F_opAt q_504 ⟨by simp only [bn_rm, dK]; omega, by simp only [bn_rm, dK]; omega⟩ rfl hl.1 rfl (Nat.le_of_ble_eq_true rfl) hcl9 d_N_work_45 (fun H locs hH => ?_)
    by_cases e_11 : r_10 = 0
    · rw [if_pos e_11] at h
      refine fu_hit (tgt := 204) 0 e_11 hx hb d_N_work_48 (by decide) (by decide) rfl (by decide) ?_
      refine lv_aload hx hb d_N_work_204 (lv_at hl 5 rfl) ?_
      refine lv_iload_n hx hb d_N_work_206 rfl (lv_at hl 3 rfl) ?_
      obtain ⟨o1, hc, hm2, ht9, hx1, hk9⟩ := bo_out h
      have hm1 := mn_R_put hc
      refine bx_cV (as := [.int x2]) (rest := []) C0 hnx hq hH hm0 hm1 hm2 ht9 (ci := 2) (rowB_k hgx4) (by decide) rfl (c_R_put hl0 hc) yy_R_put q_508 ⟨by first | omega | (simp only [dK]; omega), by first | omega | (simp only [dK]; omega)⟩ rfl hl.1 rfl (Nat.le_of_ble_eq_true rfl) d_N_work_207 hx1 (fun r9 q1 H locs hr1 hq0 hq1 hm9 hH => ?_)
      have h := hk9 r9 hr1
      exact w_N_work_210 hMr hKr C0 hr hnx   _ _ _ _ _ _ h hq0 hm9 hm2 hH (lv_sub hl [] rfl)
    rw [if_neg e_11] at h
    by_cases e_16 : r_10 = 1
    · rw [if_pos e_16] at h
      refine fu_hit (tgt := 213) 1 e_16 hx hb d_N_work_48 (by decide) (by decide) rfl (by decide) ?_
      refine lv_aload_n hx hb d_N_work_213 rfl (lv_at hl 1 rfl) ?_
      refine lv_aload_n hx hb d_N_work_214 rfl (lv_at hl 1 rfl) ?_
      refine bn_g_N_values ⟨by decide, by decide⟩ C0 hH d_N_work_215 ?_
      refine lv_iload_n hx hb d_N_work_218 rfl (lv_at hl 3 rfl) ?_
      refine lv_aload_n hx hb d_N_work_219 rfl (lv_at hl 1 rfl) ?_
      refine bn_g_N_strings ⟨by decide, by decide⟩ C0 hH d_N_work_220 ?_
      refine lv_iload hx hb d_N_work_223 (lv_at hl 0 rfl) ?_
      obtain ⟨g_12, h⟩ := gd_out h
      refine bn_ld ⟨by decide, by decide⟩ C0 hH (inB_in g_12) d_N_work_225 ?_
      obtain ⟨r_15, v_13, hc_14, h⟩ := bi_out h
      refine bn_ci (r := r_15) (w := (q, g, v_13)) (as := [.int x2, .int (v_8 7 (r_6 : Int32).toNatClampNeg)]) (rest := [.ref (q 25)]) C0 hH (ci := 4) ⟨by decide, by decide⟩ (by decide) rfl (c_V_fieldOf hl0 hc_14) yy_V_fieldOf q_515 ⟨by simp only [bn_rm, dK]; omega, by simp only [bn_rm, dK]; omega⟩ rfl hl.1 rfl (Nat.le_of_ble_eq_true rfl) hcl9 d_N_work_226 (fun H locs hH => ?_)
      refine lv_aload hx hb d_N_work_229 (lv_at hl 5 rfl) ?_
      obtain ⟨o1, hc, hm2, ht9, hx1, hk9⟩ := bo_out h
      have hm1 := mn_N_give hc
      refine bx_cV (as := [.int r_15, .ref (q x4)]) (rest := []) C0 hnx hq hH hm0 hm1 hm2 ht9 (ci := 3) ⟨by decide, by decide⟩ (by decide) rfl (c_N_give hl0 hc) yy_N_give q_547 ⟨by first | omega | (simp only [dK]; omega), by first | omega | (simp only [dK]; omega)⟩ rfl hl.1 rfl (Nat.le_of_ble_eq_true rfl) d_N_work_231 hx1 (fun r9 q1 H locs hr1 hq0 hq1 hm9 hH => ?_)
      have h := hk9 r9 hr1
      exact w_N_work_234 hMr hKr C0 hr hnx   _ _ _ _ _ _ h hq0 hm9 hm2 hH (lv_sub hl [] rfl)
    rw [if_neg e_16] at h
    by_cases e_17 : r_10 = 2
    · rw [if_pos e_17] at h
      refine fu_hit (tgt := 550) 2 e_17 hx hb d_N_work_48 (by decide) (by decide) rfl (by decide) ?_
      exact w_N_work_550 hMr hKr C0 hr hnx  _ _ _ _ _ _ _ _ _ _ h hq hm0 hm hH (lv_sub hl [1, 2, 3, 4, 5] rfl)
    rw [if_neg e_17] at h
    by_cases e_18 : r_10 = 3
    · rw [if_pos e_18] at h
      refine fu_hit (tgt := 237) 3 e_18 hx hb d_N_work_48 (by decide) (by decide) rfl (by decide) ?_
      refine lv_aload_n hx hb d_N_work_237 rfl (lv_at hl 1 rfl) ?_
      refine lv_iload_n hx hb d_N_work_238 rfl (lv_at hl 3 rfl) ?_
      refine lv_aload hx hb d_N_work_239 (lv_at hl 5 rfl) ?_
      obtain ⟨o1, hc, hm2, ht9, hx1, hk9⟩ := bo_out h
      have hm1 := mn_N_each hc
      refine bx_cV (as := [.int x2, .ref (q x4)]) (rest := []) C0 hnx hq hH hm0 hm1 hm2 ht9 (ci := 3) ⟨by decide, by decide⟩ (by decide) rfl (c_N_each hl0 hc) yy_N_each q_556 ⟨by first | omega | (simp only [dK]; omega), by first | omega | (simp only [dK]; omega)⟩ rfl hl.1 rfl (Nat.le_of_ble_eq_true rfl) d_N_work_241 hx1 (fun r9 q1 H locs hr1 hq0 hq1 hm9 hH => ?_)
      have h := hk9 r9 hr1
      exact w_N_work_244 hMr hKr C0 hr hnx   _ _ _ _ _ _ h hq0 hm9 hm2 hH (lv_sub hl [] rfl)
    rw [if_neg e_18] at h
    by_cases e_19 : r_10 = 4
    · rw [if_pos e_19] at h
      refine fu_hit (tgt := 550) 4 e_19 hx hb d_N_work_48 (by decide) (by decide) rfl (by decide) ?_
      exact w_N_work_550 hMr hKr C0 hr hnx  _ _ _ _ _ _ _ _ _ _ h hq hm0 hm hH (lv_sub hl [1, 2, 3, 4, 5] rfl)
    rw [if_neg e_19] at h
    by_cases e_20 : r_10 = 5
    · rw [if_pos e_20] at h
      refine fu_hit (tgt := 247) 5 e_20 hx hb d_N_work_48 (by decide) (by decide) rfl (by decide) ?_
      refine lv_aload_n hx hb d_N_work_247 rfl (lv_at hl 1 rfl) ?_
      refine lv_iload_n hx hb d_N_work_248 rfl (lv_at hl 2 rfl) ?_
      refine lv_iload_n hx hb d_N_work_249 rfl (lv_at hl 3 rfl) ?_
      refine lv_iload_n hx hb d_N_work_250 rfl (lv_at hl 4 rfl) ?_
      refine lv_aload hx hb d_N_work_251 (lv_at hl 5 rfl) ?_
      obtain ⟨o1, hc, hm2, ht9, hx1, hk9⟩ := bo_out h
      have hm1 := mn_N_comma hc
      refine bx_cV (as := [.int x1, .int x2, .int x3, .ref (q x4)]) (rest := []) C0 hnx hq hH hm0 hm1 hm2 ht9 (ci := 3) ⟨by decide, by decide⟩ (by decide) rfl (c_N_comma hMr hKr hl0 hc) yy_N_comma q_566 ⟨by first | omega | (simp only [dK]; omega), by first | omega | (simp only [dK]; omega)⟩ rfl hl.1 rfl (Nat.le_of_ble_eq_true rfl) d_N_work_253 hx1 (fun r9 q1 H locs hr1 hq0 hq1 hm9 hH => ?_)
      have h := hk9 r9 hr1
      exact w_N_work_256 hMr hKr C0 hr hnx   _ _ _ _ _ _ h hq0 hm9 hm2 hH (lv_sub hl [] rfl)
    rw [if_neg e_20] at h
    by_cases e_21 : r_10 = 6
    · rw [if_pos e_21] at h
      refine fu_hit (tgt := 259) 6 e_21 hx hb d_N_work_48 (by decide) (by decide) rfl (by decide) ?_
      refine lv_aload hx hb d_N_work_259 (lv_at hl 5 rfl) ?_
      refine lv_aload_n hx hb d_N_work_261 rfl (lv_at hl 1 rfl) ?_
      refine bn_g_N_values ⟨by decide, by decide⟩ C0 hH d_N_work_262 ?_
      refine lv_iload hx hb d_N_work_265 (lv_at hl 0 rfl) ?_
      refine lv_i2l hx hb d_N_work_267 rfl ?_
      refine lv_iconst (v := 3) hx hb d_N_work_268 (by decide) ?_
      obtain ⟨o1, hc, hm2, ht9, hx1, hk9⟩ := bo_out h
      have hm1 := mn_V_numberOf hc
      refine bx_cV (as := [.long ((r_6 : Int32).toInt64), .int 3]) (rest := [.ref (q x4)]) C0 hnx hq hH hm0 hm1 hm2 ht9 (ci := 4) ⟨by decide, by decide⟩ (by decide) rfl (c_V_numberOf hl0 hc) yy_V_numberOf q_583 ⟨by first | omega | (simp only [dK]; omega), by first | omega | (simp only [dK]; omega)⟩ rfl hl.1 rfl (Nat.le_of_ble_eq_true rfl) d_N_work_269 hx1 (fun r9 q1 H locs hr1 hq0 hq1 hm9 hH => ?_)
      have h := hk9 r9 hr1
      have e9 : q1 x4 = q x4 := (hq1 x4 (rowB_ne hgx4).1 (rowB_ne hgx4).2)
      try rw [← e9] at hl
      try rw [← e9]
      exact w_N_work_272 hMr hKr C0 hr hnx  _ _ _ _ _ _ _ _ h hq0 hm9 hm2 hH (lv_sub hl [] rfl)
    rw [if_neg e_21] at h
    by_cases e_23 : r_10 = 7
    · rw [if_pos e_23] at h
      refine fu_hit (tgt := 278) 7 e_23 hx hb d_N_work_48 (by decide) (by decide) rfl (by decide) ?_
      refine lv_aload hx hb d_N_work_278 (lv_at hl 5 rfl) ?_
      refine lv_aload_n hx hb d_N_work_280 rfl (lv_at hl 1 rfl) ?_
      refine bn_g_N_strings ⟨by decide, by decide⟩ C0 hH d_N_work_281 ?_
      refine lv_iload hx hb d_N_work_284 (lv_at hl 0 rfl) ?_
      obtain ⟨g_22, h⟩ := gd_out h
      refine bn_ld ⟨by decide, by decide⟩ C0 hH (inB_in g_22) d_N_work_286 ?_
      obtain ⟨o1, hc, hm2, ht9, hx1, hk9⟩ := bo_out h
      have hm1 := mn_R_put hc
      refine bx_cV (as := [.int (v_8 7 (r_6 : Int32).toNatClampNeg)]) (rest := []) C0 hnx hq hH hm0 hm1 hm2 ht9 (ci := 2) (rowB_k hgx4) (by decide) rfl (c_R_put hl0 hc) yy_R_put q_508 ⟨by first | omega | (simp only [dK]; omega), by first | omega | (simp only [dK]; omega)⟩ rfl hl.1 rfl (Nat.le_of_ble_eq_true rfl) d_N_work_287 hx1 (fun r9 q1 H locs hr1 hq0 hq1 hm9 hH => ?_)
      have h := hk9 r9 hr1
      exact w_N_work_290 hMr hKr C0 hr hnx   _ _ _ _ _ _ h hq0 hm9 hm2 hH (lv_sub hl [] rfl)
    rw [if_neg e_23] at h
    by_cases e_27 : r_10 = 8
    · rw [if_pos e_27] at h
      refine fu_hit (tgt := 293) 8 e_27 hx hb d_N_work_48 (by decide) (by decide) rfl (by decide) ?_
      refine lv_aload hx hb d_N_work_293 (lv_at hl 5 rfl) ?_
      refine lv_aload_n hx hb d_N_work_295 rfl (lv_at hl 1 rfl) ?_
      refine bn_g_N_values ⟨by decide, by decide⟩ C0 hH d_N_work_296 ?_
      refine lv_iload hx hb d_N_work_299 (lv_at hl 0 rfl) ?_
      obtain ⟨r_26, v_24, hc_25, h⟩ := bi_out h
      refine bn_ci (r := r_26) (w := (q, g, v_24)) (as := [.int r_6]) (rest := [.ref (q x4)]) C0 hH (ci := 4) ⟨by decide, by decide⟩ (by decide) rfl (c_V_wordFor hl0 hc_25) yy_V_wordFor q_591 ⟨by simp only [bn_rm, dK]; omega, by simp only [bn_rm, dK]; omega⟩ rfl hl.1 rfl (Nat.le_of_ble_eq_true rfl) hcl9 d_N_work_301 (fun H locs hH => ?_)
      obtain ⟨o1, hc, hm2, ht9, hx1, hk9⟩ := bo_out h
      have hm1 := mn_R_put hc
      refine bx_cV (as := [.int r_26]) (rest := []) C0 hnx hq hH hm0 hm1 hm2 ht9 (ci := 2) (rowB_k hgx4) (by decide) rfl (c_R_put hl0 hc) yy_R_put q_508 ⟨by first | omega | (simp only [dK]; omega), by first | omega | (simp only [dK]; omega)⟩ rfl hl.1 rfl (Nat.le_of_ble_eq_true rfl) d_N_work_304 hx1 (fun r9 q1 H locs hr1 hq0 hq1 hm9 hH => ?_)
      have h := hk9 r9 hr1
      exact w_N_work_307 hMr hKr C0 hr hnx   _ _ _ _ _ _ h hq0 hm9 hm2 hH (lv_sub hl [] rfl)
    rw [if_neg e_27] at h
    by_cases e_28 : r_10 = 9
    · rw [if_pos e_28] at h
      refine fu_hit (tgt := 310) 9 e_28 hx hb d_N_work_48 (by decide) (by decide) rfl (by decide) ?_
      refine lv_aload_n hx hb d_N_work_310 rfl (lv_at hl 1 rfl) ?_
      refine lv_iload_n hx hb d_N_work_311 rfl (lv_at hl 2 rfl) ?_
      refine lv_iload_n hx hb d_N_work_312 rfl (lv_at hl 3 rfl) ?_
      refine lv_iload_n hx hb d_N_work_313 rfl (lv_at hl 4 rfl) ?_
      refine lv_aload hx hb d_N_work_314 (lv_at hl 5 rfl) ?_
      obtain ⟨o1, hc, hm2, ht9, hx1, hk9⟩ := bo_out h
      have hm1 := mn_N_array hc
      refine bx_cV (as := [.int x1, .int x2, .int x3, .ref (q x4)]) (rest := []) C0 hnx hq hH hm0 hm1 hm2 ht9 (ci := 3) ⟨by decide, by decide⟩ (by decide) rfl (c_N_array hMr hKr hl0 hc) yy_N_array q_595 ⟨by first | omega | (simp only [dK]; omega), by first | omega | (simp only [dK]; omega)⟩ rfl hl.1 rfl (Nat.le_of_ble_eq_true rfl) d_N_work_316 hx1 (fun r9 q1 H locs hr1 hq0 hq1 hm9 hH => ?_)
      have h := hk9 r9 hr1
      exact w_N_work_319 hMr hKr C0 hr hnx   _ _ _ _ _ _ h hq0 hm9 hm2 hH (lv_sub hl [] rfl)
    rw [if_neg e_28] at h
    by_cases e_29 : r_10 = 10
    · rw [if_pos e_29] at h
      refine fu_hit (tgt := 322) 10 e_29 hx hb d_N_work_48 (by decide) (by decide) rfl (by decide) ?_
      refine lv_aload hx hb d_N_work_322 (lv_at hl 5 rfl) ?_
      refine lv_aload_n hx hb d_N_work_324 rfl (lv_at hl 1 rfl) ?_
      refine bn_g_N_values ⟨by decide, by decide⟩ C0 hH d_N_work_325 ?_
      obtain ⟨o1, hc, hm2, ht9, hx1, hk9⟩ := bo_out h
      have hm1 := mn_V_emptyArray hc
      refine bx_cV (as := []) (rest := [.ref (q x4)]) C0 hnx hq hH hm0 hm1 hm2 ht9 (ci := 4) ⟨by decide, by decide⟩ (by decide) rfl (c_V_emptyArray hl0 hc) yy_V_emptyArray q_629 ⟨by first | omega | (simp only [dK]; omega), by first | omega | (simp only [dK]; omega)⟩ rfl hl.1 rfl (Nat.le_of_ble_eq_true rfl) d_N_work_328 hx1 (fun r9 q1 H locs hr1 hq0 hq1 hm9 hH => ?_)
      have h := hk9 r9 hr1
      have e9 : q1 x4 = q x4 := (hq1 x4 (rowB_ne hgx4).1 (rowB_ne hgx4).2)
      try rw [← e9] at hl
      try rw [← e9]
      exact w_N_work_331 hMr hKr C0 hr hnx  _ _ _ _ _ _ _ _ h hq0 hm9 hm2 hH (lv_sub hl [] rfl)
    rw [if_neg e_29] at h
    by_cases e_30 : r_10 = 11
    · rw [if_pos e_30] at h
      refine fu_hit (tgt := 550) 11 e_30 hx hb d_N_work_48 (by decide) (by decide) rfl (by decide) ?_
      exact w_N_work_550 hMr hKr C0 hr hnx  _ _ _ _ _ _ _ _ _ _ h hq hm0 hm hH (lv_sub hl [1, 2, 3, 4, 5] rfl)
    rw [if_neg e_30] at h
    by_cases e_31 : r_10 = 12
    · rw [if_pos e_31] at h
      refine fu_hit (tgt := 337) 12 e_31 hx hb d_N_work_48 (by decide) (by decide) rfl (by decide) ?_
      exact w_N_work_337 hMr hKr C0 hr hnx  _ _ _ _ _ _ _ _ _ _ h hq hm0 hm hH (lv_sub hl [1, 2, 3, 4, 5] rfl)
    rw [if_neg e_31] at h
    by_cases e_32 : r_10 = 13
    · rw [if_pos e_32] at h
      refine fu_hit (tgt := 337) 13 e_32 hx hb d_N_work_48 (by decide) (by decide) rfl (by decide) ?_
      exact w_N_work_337 hMr hKr C0 hr hnx  _ _ _ _ _ _ _ _ _ _ h hq hm0 hm hH (lv_sub hl [1, 2, 3, 4, 5] rfl)
    rw [if_neg e_32] at h
    by_cases e_33 : r_10 = 14
    · rw [if_pos e_33] at h
      refine fu_hit (tgt := 550) 14 e_33 hx hb d_N_work_48 (by decide) (by decide) rfl (by decide) ?_
      exact w_N_work_550 hMr hKr C0 hr hnx  _ _ _ _ _ _ _ _ _ _ h hq hm0 hm hH (lv_sub hl [1, 2, 3, 4, 5] rfl)
    rw [if_neg e_33] at h
    by_cases e_34 : r_10 = 15
    · rw [if_pos e_34] at h
      refine fu_hit (tgt := 550) 15 e_34 hx hb d_N_work_48 (by decide) (by decide) rfl (by decide) ?_
      exact w_N_work_550 hMr hKr C0 hr hnx  _ _ _ _ _ _ _ _ _ _ h hq hm0 hm hH (lv_sub hl [1, 2, 3, 4, 5] rfl)
    rw [if_neg e_34] at h
    by_cases e_39 : r_10 = 16
    · rw [if_pos e_39] at h
      refine fu_hit (tgt := 349) 16 e_39 hx hb d_N_work_48 (by decide) (by decide) rfl (by decide) ?_
      refine lv_aload hx hb d_N_work_349 (lv_at hl 5 rfl) ?_
      refine lv_aload_n hx hb d_N_work_351 rfl (lv_at hl 1 rfl) ?_
      refine bn_g_N_values ⟨by decide, by decide⟩ C0 hH d_N_work_352 ?_
      refine lv_aload_n hx hb d_N_work_355 rfl (lv_at hl 1 rfl) ?_
      refine bn_g_N_values ⟨by decide, by decide⟩ C0 hH d_N_work_356 ?_
      refine lv_iload_n hx hb d_N_work_359 rfl (lv_at hl 3 rfl) ?_
      obtain ⟨r_37, v_35, hc_36, h⟩ := bi_out h
      refine bn_ci (r := r_37) (w := (q, g, v_35)) (as := [.int x2]) (rest := [.ref (q 1), .ref (q x4)]) C0 hH (ci := 4) ⟨by decide, by decide⟩ (by decide) rfl (c_V_isGood hl0 hc_36) yy_V_isGood q_708 ⟨by simp only [bn_rm, dK]; omega, by simp only [bn_rm, dK]; omega⟩ rfl hl.1 rfl (Nat.le_of_ble_eq_true rfl) hcl9 d_N_work_360 (fun H locs hH => ?_)
      refine lv_if_ne (tgt := 370) hx hb d_N_work_363 (by decide) (fun c_38 => ?_) (fun c_38 => ?_)
      · rw [if_neg c_38] at h
        refine lv_iconst (v := 0) hx hb d_N_work_370 (by decide) ?_
        exact w_N_work_371 hMr hKr C0 hr hnx  _ _ _ _ _ _ _ _ h hq hm0 hm hH (lv_sub hl [] rfl)
      · rw [if_pos c_38] at h
        refine lv_iconst (v := 1) hx hb d_N_work_366 (by decide) ?_
        refine lv_goto (tgt := 371) hx hb d_N_work_367 (by decide) ?_
        exact w_N_work_371 hMr hKr C0 hr hnx  _ _ _ _ _ _ _ _ h hq hm0 hm hH (lv_sub hl [] rfl)
    rw [if_neg e_39] at h
    by_cases e_40 : r_10 = 17
    · rw [if_pos e_40] at h
      refine fu_hit (tgt := 550) 17 e_40 hx hb d_N_work_48 (by decide) (by decide) rfl (by decide) ?_
      exact w_N_work_550 hMr hKr C0 hr hnx  _ _ _ _ _ _ _ _ _ _ h hq hm0 hm hH (lv_sub hl [1, 2, 3, 4, 5] rfl)
    rw [if_neg e_40] at h
    by_cases e_41 : r_10 = 18
    · rw [if_pos e_41] at h
      refine fu_hit (tgt := 380) 18 e_41 hx hb d_N_work_48 (by decide) (by decide) rfl (by decide) ?_
      refine lv_aload_n hx hb d_N_work_380 rfl (lv_at hl 1 rfl) ?_
      refine lv_iload_n hx hb d_N_work_381 rfl (lv_at hl 2 rfl) ?_
      refine lv_iload_n hx hb d_N_work_382 rfl (lv_at hl 3 rfl) ?_
      refine lv_iload_n hx hb d_N_work_383 rfl (lv_at hl 4 rfl) ?_
      refine lv_aload hx hb d_N_work_384 (lv_at hl 5 rfl) ?_
      obtain ⟨o1, hc, hm2, ht9, hx1, hk9⟩ := bo_out h
      have hm1 := mn_N_attempt hc
      refine bx_cV (as := [.int x1, .int x2, .int x3, .ref (q x4)]) (rest := []) C0 hnx hq hH hm0 hm1 hm2 ht9 (ci := 3) ⟨by decide, by decide⟩ (by decide) rfl (c_N_attempt hMr hKr hl0 hc) yy_N_attempt q_712 ⟨by first | omega | (simp only [dK]; omega), by first | omega | (simp only [dK]; omega)⟩ rfl hl.1 rfl (Nat.le_of_ble_eq_true rfl) d_N_work_386 hx1 (fun r9 q1 H locs hr1 hq0 hq1 hm9 hH => ?_)
      have h := hk9 r9 hr1
      exact w_N_work_389 hMr hKr C0 hr hnx   _ _ _ _ _ _ h hq0 hm9 hm2 hH (lv_sub hl [] rfl)
    rw [if_neg e_41] at h
    by_cases e_42 : r_10 = 19
    · rw [if_pos e_42] at h
      refine fu_hit (tgt := 392) 19 e_42 hx hb d_N_work_48 (by decide) (by decide) rfl (by decide) ?_
      refine lv_aload_n hx hb d_N_work_392 rfl (lv_at hl 1 rfl) ?_
      refine lv_iload_n hx hb d_N_work_393 rfl (lv_at hl 2 rfl) ?_
      refine lv_iload_n hx hb d_N_work_394 rfl (lv_at hl 3 rfl) ?_
      refine lv_iload_n hx hb d_N_work_395 rfl (lv_at hl 4 rfl) ?_
      refine lv_aload hx hb d_N_work_396 (lv_at hl 5 rfl) ?_
      obtain ⟨o1, hc, hm2, ht9, hx1, hk9⟩ := bo_out h
      have hm1 := mn_N_alternative hc
      refine bx_cV (as := [.int x1, .int x2, .int x3, .ref (q x4)]) (rest := []) C0 hnx hq hH hm0 hm1 hm2 ht9 (ci := 3) ⟨by decide, by decide⟩ (by decide) rfl (c_N_alternative hMr hKr hl0 hc) yy_N_alternative q_720 ⟨by first | omega | (simp only [dK]; omega), by first | omega | (simp only [dK]; omega)⟩ rfl hl.1 rfl (Nat.le_of_ble_eq_true rfl) d_N_work_398 hx1 (fun r9 q1 H locs hr1 hq0 hq1 hm9 hH => ?_)
      have h := hk9 r9 hr1
      exact w_N_work_401 hMr hKr C0 hr hnx   _ _ _ _ _ _ h hq0 hm9 hm2 hH (lv_sub hl [] rfl)
    rw [if_neg e_42] at h
    by_cases e_43 : r_10 = 20
    · rw [if_pos e_43] at h
      refine fu_hit (tgt := 550) 20 e_43 hx hb d_N_work_48 (by decide) (by decide) rfl (by decide) ?_
      exact w_N_work_550 hMr hKr C0 hr hnx  _ _ _ _ _ _ _ _ _ _ h hq hm0 hm hH (lv_sub hl [1, 2, 3, 4, 5] rfl)
    rw [if_neg e_43] at h
    by_cases e_45 : r_10 = 21
    · rw [if_pos e_45] at h
      refine fu_hit (tgt := 404) 21 e_45 hx hb d_N_work_48 (by decide) (by decide) rfl (by decide) ?_
      refine lv_aload hx hb d_N_work_404 (lv_at hl 5 rfl) ?_
      refine lv_aload_n hx hb d_N_work_406 rfl (lv_at hl 1 rfl) ?_
      refine bn_g_N_variables ⟨by decide, by decide⟩ C0 hH d_N_work_407 ?_
      refine lv_iload hx hb d_N_work_410 (lv_at hl 0 rfl) ?_
      obtain ⟨g_44, h⟩ := gd_out h
      refine bn_ld ⟨by decide, by decide⟩ C0 hH (inB_in g_44) d_N_work_412 ?_
      obtain ⟨o1, hc, hm2, ht9, hx1, hk9⟩ := bo_out h
      have hm1 := mn_R_put hc
      refine bx_cV (as := [.int (v_8 26 (r_6 : Int32).toNatClampNeg)]) (rest := []) C0 hnx hq hH hm0 hm1 hm2 ht9 (ci := 2) (rowB_k hgx4) (by decide) rfl (c_R_put hl0 hc) yy_R_put q_508 ⟨by first | omega | (simp only [dK]; omega), by first | omega | (simp only [dK]; omega)⟩ rfl hl.1 rfl (Nat.le_of_ble_eq_true rfl) d_N_work_413 hx1 (fun r9 q1 H locs hr1 hq0 hq1 hm9 hH => ?_)
      have h := hk9 r9 hr1
      exact w_N_work_416 hMr hKr C0 hr hnx   _ _ _ _ _ _ h hq0 hm9 hm2 hH (lv_sub hl [] rfl)
    rw [if_neg e_45] at h
    by_cases e_46 : r_10 = 22
    · rw [if_pos e_46] at h
      refine fu_hit (tgt := 419) 22 e_46 hx hb d_N_work_48 (by decide) (by decide) rfl (by decide) ?_
      refine lv_aload_n hx hb d_N_work_419 rfl (lv_at hl 1 rfl) ?_
      refine lv_iload_n hx hb d_N_work_420 rfl (lv_at hl 2 rfl) ?_
      refine lv_iload_n hx hb d_N_work_421 rfl (lv_at hl 3 rfl) ?_
      refine lv_iload_n hx hb d_N_work_422 rfl (lv_at hl 4 rfl) ?_
      refine lv_aload hx hb d_N_work_423 (lv_at hl 5 rfl) ?_
      obtain ⟨o1, hc, hm2, ht9, hx1, hk9⟩ := bo_out h
      have hm1 := mn_N_reduce hc
      refine bx_cV (as := [.int x1, .int x2, .int x3, .ref (q x4)]) (rest := []) C0 hnx hq hH hm0 hm1 hm2 ht9 (ci := 3) ⟨by decide, by decide⟩ (by decide) rfl (c_N_reduce hMr hKr hl0 hc) yy_N_reduce q_724 ⟨by first | omega | (simp only [dK]; omega), by first | omega | (simp only [dK]; omega)⟩ rfl hl.1 rfl (Nat.le_of_ble_eq_true rfl) d_N_work_425 hx1 (fun r9 q1 H locs hr1 hq0 hq1 hm9 hH => ?_)
      have h := hk9 r9 hr1
      exact w_N_work_428 hMr hKr C0 hr hnx   _ _ _ _ _ _ h hq0 hm9 hm2 hH (lv_sub hl [] rfl)
    rw [if_neg e_46] at h
    by_cases e_47 : r_10 = 23
    · rw [if_pos e_47] at h
      refine fu_hit (tgt := 431) 23 e_47 hx hb d_N_work_48 (by decide) (by decide) rfl (by decide) ?_
      refine lv_aload_n hx hb d_N_work_431 rfl (lv_at hl 1 rfl) ?_
      refine lv_aload_n hx hb d_N_work_432 rfl (lv_at hl 1 rfl) ?_
      refine bn_g_N_values ⟨by decide, by decide⟩ C0 hH d_N_work_433 ?_
      refine lv_iload_n hx hb d_N_work_436 rfl (lv_at hl 3 rfl) ?_
      obtain ⟨o1, hc, hm2, ht9, hx1, hk9⟩ := bo_out h
      have hm1 := mn_V_measured hc
      refine bx_cV (as := [.int x2]) (rest := [.ref (q 25)]) C0 hnx hq hH hm0 hm1 hm2 ht9 (ci := 4) ⟨by decide, by decide⟩ (by decide) rfl (c_V_measured hl0 hc) yy_V_measured q_732 ⟨by first | omega | (simp only [dK]; omega), by first | omega | (simp only [dK]; omega)⟩ rfl hl.1 rfl (Nat.le_of_ble_eq_true rfl) d_N_work_437 hx1 (fun r9 q1 H locs hr1 hq0 hq1 hm9 hH => ?_)
      have h := hk9 r9 hr1
      have e9 : q1 x4 = q x4 := (hq1 x4 (rowB_ne hgx4).1 (rowB_ne hgx4).2)
      try rw [← e9] at hl
      try rw [← e9]
      have e9 : q1 25 = q 25 := (hq1 25 (by decide) (by decide))
      try rw [← e9] at hl
      try rw [← e9]
      exact w_N_work_440 hMr hKr C0 hr hnx  _ _ _ _ _ _ _ _ h hq0 hm9 hm2 hH (lv_sub hl [5] rfl)
    rw [if_neg e_47] at h
    by_cases e_48 : r_10 = 24
    · rw [if_pos e_48] at h
      refine fu_hit (tgt := 448) 24 e_48 hx hb d_N_work_48 (by decide) (by decide) rfl (by decide) ?_
      refine lv_aload_n hx hb d_N_work_448 rfl (lv_at hl 1 rfl) ?_
      refine lv_aload_n hx hb d_N_work_449 rfl (lv_at hl 1 rfl) ?_
      refine bn_g_N_values ⟨by decide, by decide⟩ C0 hH d_N_work_450 ?_
      refine lv_iload_n hx hb d_N_work_453 rfl (lv_at hl 3 rfl) ?_
      obtain ⟨o1, hc, hm2, ht9, hx1, hk9⟩ := bo_out h
      have hm1 := mn_V_keysOf hc
      refine bx_cV (as := [.int x2]) (rest := [.ref (q 25)]) C0 hnx hq hH hm0 hm1 hm2 ht9 (ci := 4) ⟨by decide, by decide⟩ (by decide) rfl (c_V_keysOf hl0 hc) yy_V_keysOf q_739 ⟨by first | omega | (simp only [dK]; omega), by first | omega | (simp only [dK]; omega)⟩ rfl hl.1 rfl (Nat.le_of_ble_eq_true rfl) d_N_work_454 hx1 (fun r9 q1 H locs hr1 hq0 hq1 hm9 hH => ?_)
      have h := hk9 r9 hr1
      have e9 : q1 x4 = q x4 := (hq1 x4 (rowB_ne hgx4).1 (rowB_ne hgx4).2)
      try rw [← e9] at hl
      try rw [← e9]
      have e9 : q1 25 = q 25 := (hq1 25 (by decide) (by decide))
      try rw [← e9] at hl
      try rw [← e9]
      exact w_N_work_457 hMr hKr C0 hr hnx  _ _ _ _ _ _ _ _ h hq0 hm9 hm2 hH (lv_sub hl [5] rfl)
    rw [if_neg e_48] at h
    by_cases e_49 : r_10 = 25
    · rw [if_pos e_49] at h
      refine fu_hit (tgt := 465) 25 e_49 hx hb d_N_work_48 (by decide) (by decide) rfl (by decide) ?_
      refine lv_goto (tgt := 559) hx hb d_N_work_465 (by decide) ?_
      exact w_N_work_559 hMr hKr C0 hr hnx   _ _ _ _ _ _ h hq hm0 hm hH (lv_sub hl [] rfl)
    rw [if_neg e_49] at h
    by_cases e_52 : r_10 = 26
    · rw [if_pos e_52] at h
      refine fu_hit (tgt := 468) 26 e_52 hx hb d_N_work_48 (by decide) (by decide) rfl (by decide) ?_
      refine lv_aload hx hb d_N_work_468 (lv_at hl 5 rfl) ?_
      refine lv_iload_n hx hb d_N_work_470 rfl (lv_at hl 3 rfl) ?_
      obtain ⟨v_50, hc_51, h⟩ := bv_out h
      refine bn_cv (w := (q, g, v_50)) (as := [.int x2]) (rest := []) C0 hH (ci := 2) (rowB_k hgx4) (by decide) rfl (c_R_end hl0 hc_51) yy_R_end q_552 ⟨by simp only [bn_rm, dK]; omega, by simp only [bn_rm, dK]; omega⟩ rfl hl.1 rfl (Nat.le_of_ble_eq_true rfl) hcl9 d_N_work_471 (fun H locs hH => ?_)
      refine lv_goto (tgt := 559) hx hb d_N_work_474 (by decide) ?_
      exact w_N_work_559 hMr hKr C0 hr hnx   _ _ _ _ _ _ h hq hm0 hm hH (lv_sub hl [] rfl)
    rw [if_neg e_52] at h
    by_cases e_53 : r_10 = 27
    · rw [if_pos e_53] at h
      refine fu_hit (tgt := 477) 27 e_53 hx hb d_N_work_48 (by decide) (by decide) rfl (by decide) ?_
      refine lv_aload_n hx hb d_N_work_477 rfl (lv_at hl 1 rfl) ?_
      refine lv_aload_n hx hb d_N_work_478 rfl (lv_at hl 1 rfl) ?_
      refine bn_g_N_values ⟨by decide, by decide⟩ C0 hH d_N_work_479 ?_
      refine lv_iload_n hx hb d_N_work_482 rfl (lv_at hl 3 rfl) ?_
      obtain ⟨o1, hc, hm2, ht9, hx1, hk9⟩ := bo_out h
      have hm1 := mn_V_sorted hc
      refine bx_cV (as := [.int x2]) (rest := [.ref (q 25)]) C0 hnx hq hH hm0 hm1 hm2 ht9 (ci := 4) ⟨by decide, by decide⟩ (by decide) rfl (c_V_sorted hl0 hc) yy_V_sorted q_744 ⟨by first | omega | (simp only [dK]; omega), by first | omega | (simp only [dK]; omega)⟩ rfl hl.1 rfl (Nat.le_of_ble_eq_true rfl) d_N_work_483 hx1 (fun r9 q1 H locs hr1 hq0 hq1 hm9 hH => ?_)
      have h := hk9 r9 hr1
      have e9 : q1 x4 = q x4 := (hq1 x4 (rowB_ne hgx4).1 (rowB_ne hgx4).2)
      try rw [← e9] at hl
      try rw [← e9]
      have e9 : q1 25 = q 25 := (hq1 25 (by decide) (by decide))
      try rw [← e9] at hl
      try rw [← e9]
      exact w_N_work_486 hMr hKr C0 hr hnx  _ _ _ _ _ _ _ _ h hq0 hm9 hm2 hH (lv_sub hl [5] rfl)
    rw [if_neg e_53] at h
    by_cases e_54 : r_10 = 28
    · rw [if_pos e_54] at h
      refine fu_hit (tgt := 494) 28 e_54 hx hb d_N_work_48 (by decide) (by decide) rfl (by decide) ?_
      refine lv_aload_n hx hb d_N_work_494 rfl (lv_at hl 1 rfl) ?_
      refine lv_aload_n hx hb d_N_work_495 rfl (lv_at hl 1 rfl) ?_
      refine bn_g_N_values ⟨by decide, by decide⟩ C0 hH d_N_work_496 ?_
      refine lv_iload_n hx hb d_N_work_499 rfl (lv_at hl 3 rfl) ?_
      obtain ⟨o1, hc, hm2, ht9, hx1, hk9⟩ := bo_out h
      have hm1 := mn_V_sumOf hc
      refine bx_cV (as := [.int x2]) (rest := [.ref (q 25)]) C0 hnx hq hH hm0 hm1 hm2 ht9 (ci := 4) ⟨by decide, by decide⟩ (by decide) rfl (c_V_sumOf hl0 hc) yy_V_sumOf q_748 ⟨by first | omega | (simp only [dK]; omega), by first | omega | (simp only [dK]; omega)⟩ rfl hl.1 rfl (Nat.le_of_ble_eq_true rfl) d_N_work_500 hx1 (fun r9 q1 H locs hr1 hq0 hq1 hm9 hH => ?_)
      have h := hk9 r9 hr1
      have e9 : q1 x4 = q x4 := (hq1 x4 (rowB_ne hgx4).1 (rowB_ne hgx4).2)
      try rw [← e9] at hl
      try rw [← e9]
      have e9 : q1 25 = q 25 := (hq1 25 (by decide) (by decide))
      try rw [← e9] at hl
      try rw [← e9]
      exact w_N_work_503 hMr hKr C0 hr hnx  _ _ _ _ _ _ _ _ h hq0 hm9 hm2 hH (lv_sub hl [5] rfl)
    rw [if_neg e_54] at h
    by_cases e_55 : r_10 = 29
    · rw [if_pos e_55] at h
      refine fu_hit (tgt := 550) 29 e_55 hx hb d_N_work_48 (by decide) (by decide) rfl (by decide) ?_
      exact w_N_work_550 hMr hKr C0 hr hnx  _ _ _ _ _ _ _ _ _ _ h hq hm0 hm hH (lv_sub hl [1, 2, 3, 4, 5] rfl)
    rw [if_neg e_55] at h
    by_cases e_56 : r_10 = 30
    · rw [if_pos e_56] at h
      refine fu_hit (tgt := 511) 30 e_56 hx hb d_N_work_48 (by decide) (by decide) rfl (by decide) ?_
      refine lv_aload_n hx hb d_N_work_511 rfl (lv_at hl 1 rfl) ?_
      refine lv_iload_n hx hb d_N_work_512 rfl (lv_at hl 3 rfl) ?_
      refine lv_aload hx hb d_N_work_513 (lv_at hl 5 rfl) ?_
      obtain ⟨o1, hc, hm2, ht9, hx1, hk9⟩ := bo_out h
      have hm1 := mn_N_all hc
      refine bx_cV (as := [.int x2, .ref (q x4)]) (rest := []) C0 hnx hq hH hm0 hm1 hm2 ht9 (ci := 3) ⟨by decide, by decide⟩ (by decide) rfl (c_N_alln hl0 dK hc) yy_N_all q_753 ⟨by first | omega | (simp only [dK]; omega), by first | omega | (simp only [dK]; omega)⟩ rfl hl.1 rfl (Nat.le_of_ble_eq_true rfl) d_N_work_515 hx1 (fun r9 q1 H locs hr1 hq0 hq1 hm9 hH => ?_)
      have h := hk9 r9 hr1
      exact w_N_work_518 hMr hKr C0 hr hnx   _ _ _ _ _ _ h hq0 hm9 hm2 hH (lv_sub hl [] rfl)
    rw [if_neg e_56] at h
    by_cases e_57 : r_10 = 31
    · rw [if_pos e_57] at h
      refine fu_hit (tgt := 521) 31 e_57 hx hb d_N_work_48 (by decide) (by decide) rfl (by decide) ?_
      refine lv_aload_n hx hb d_N_work_521 rfl (lv_at hl 1 rfl) ?_
      refine lv_iload_n hx hb d_N_work_522 rfl (lv_at hl 2 rfl) ?_
      refine lv_iload_n hx hb d_N_work_523 rfl (lv_at hl 3 rfl) ?_
      refine lv_iload_n hx hb d_N_work_524 rfl (lv_at hl 4 rfl) ?_
      refine lv_aload hx hb d_N_work_525 (lv_at hl 5 rfl) ?_
      obtain ⟨o1, hc, hm2, ht9, hx1, hk9⟩ := bo_out h
      have hm1 := mn_N_limit hc
      refine bx_cV (as := [.int x1, .int x2, .int x3, .ref (q x4)]) (rest := []) C0 hnx hq hH hm0 hm1 hm2 ht9 (ci := 3) ⟨by decide, by decide⟩ (by decide) rfl (c_N_limit hMr hKr hl0 hc) yy_N_limit q_757 ⟨by first | omega | (simp only [dK]; omega), by first | omega | (simp only [dK]; omega)⟩ rfl hl.1 rfl (Nat.le_of_ble_eq_true rfl) d_N_work_527 hx1 (fun r9 q1 H locs hr1 hq0 hq1 hm9 hH => ?_)
      have h := hk9 r9 hr1
      exact w_N_work_530 hMr hKr C0 hr hnx   _ _ _ _ _ _ h hq0 hm9 hm2 hH (lv_sub hl [] rfl)
    rw [if_neg e_57] at h
    by_cases e_58 : r_10 = 32
    · rw [if_pos e_58] at h
      refine fu_hit (tgt := 550) 32 e_58 hx hb d_N_work_48 (by decide) (by decide) rfl (by decide) ?_
      exact w_N_work_550 hMr hKr C0 hr hnx  _ _ _ _ _ _ _ _ _ _ h hq hm0 hm hH (lv_sub hl [1, 2, 3, 4, 5] rfl)
    rw [if_neg e_58] at h
    by_cases e_59 : r_10 = 33
    · rw [if_pos e_59] at h
      refine fu_hit (tgt := 550) 33 e_59 hx hb d_N_work_48 (by decide) (by decide) rfl (by decide) ?_
      exact w_N_work_550 hMr hKr C0 hr hnx  _ _ _ _ _ _ _ _ _ _ h hq hm0 hm hH (lv_sub hl [1, 2, 3, 4, 5] rfl)
    rw [if_neg e_59] at h
    by_cases e_60 : r_10 = 34
    · rw [if_pos e_60] at h
      refine fu_hit (tgt := 533) 34 e_60 hx hb d_N_work_48 (by decide) (by decide) rfl (by decide) ?_
      refine lv_aload_n hx hb d_N_work_533 rfl (lv_at hl 1 rfl) ?_
      refine lv_aload_n hx hb d_N_work_534 rfl (lv_at hl 1 rfl) ?_
      refine bn_g_N_values ⟨by decide, by decide⟩ C0 hH d_N_work_535 ?_
      refine lv_iload_n hx hb d_N_work_538 rfl (lv_at hl 3 rfl) ?_
      obtain ⟨o1, hc, hm2, ht9, hx1, hk9⟩ := bo_out h
      have hm1 := mn_V_floored hc
      refine bx_cV (as := [.int x2]) (rest := [.ref (q 25)]) C0 hnx hq hH hm0 hm1 hm2 ht9 (ci := 4) ⟨by decide, by decide⟩ (by decide) rfl (c_V_floored hl0 hc) yy_V_floored q_761 ⟨by first | omega | (simp only [dK]; omega), by first | omega | (simp only [dK]; omega)⟩ rfl hl.1 rfl (Nat.le_of_ble_eq_true rfl) d_N_work_539 hx1 (fun r9 q1 H locs hr1 hq0 hq1 hm9 hH => ?_)
      have h := hk9 r9 hr1
      have e9 : q1 x4 = q x4 := (hq1 x4 (rowB_ne hgx4).1 (rowB_ne hgx4).2)
      try rw [← e9] at hl
      try rw [← e9]
      have e9 : q1 25 = q 25 := (hq1 25 (by decide) (by decide))
      try rw [← e9] at hl
      try rw [← e9]
      exact w_N_work_542 hMr hKr C0 hr hnx  _ _ _ _ _ _ _ _ h hq0 hm9 hm2 hH (lv_sub hl [5] rfl)
    rw [if_neg e_60] at h
    refine lv_tableOut (tgt := 550) hx hb d_N_work_48 (fu_out 35 (by decide) (fun k9 hk9 => match k9, hk9 with | 0, _ => lv_neT e_11 (by decide) | 1, _ => lv_neT e_16 (by decide) | 2, _ => lv_neT e_17 (by decide) | 3, _ => lv_neT e_18 (by decide) | 4, _ => lv_neT e_19 (by decide) | 5, _ => lv_neT e_20 (by decide) | 6, _ => lv_neT e_21 (by decide) | 7, _ => lv_neT e_23 (by decide) | 8, _ => lv_neT e_27 (by decide) | 9, _ => lv_neT e_28 (by decide) | 10, _ => lv_neT e_29 (by decide) | 11, _ => lv_neT e_30 (by decide) | 12, _ => lv_neT e_31 (by decide) | 13, _ => lv_neT e_32 (by decide) | 14, _ => lv_neT e_33 (by decide) | 15, _ => lv_neT e_34 (by decide) | 16, _ => lv_neT e_39 (by decide) | 17, _ => lv_neT e_40 (by decide) | 18, _ => lv_neT e_41 (by decide) | 19, _ => lv_neT e_42 (by decide) | 20, _ => lv_neT e_43 (by decide) | 21, _ => lv_neT e_45 (by decide) | 22, _ => lv_neT e_46 (by decide) | 23, _ => lv_neT e_47 (by decide) | 24, _ => lv_neT e_48 (by decide) | 25, _ => lv_neT e_49 (by decide) | 26, _ => lv_neT e_52 (by decide) | 27, _ => lv_neT e_53 (by decide) | 28, _ => lv_neT e_54 (by decide) | 29, _ => lv_neT e_55 (by decide) | 30, _ => lv_neT e_56 (by decide) | 31, _ => lv_neT e_57 (by decide) | 32, _ => lv_neT e_58 (by decide) | 33, _ => lv_neT e_59 (by decide) | 34, _ => lv_neT e_60 (by decide) | k9 + 35, hk9 => absurd hk9 (by omega))) (by decide) ?_
    exact w_N_work_550 hMr hKr C0 hr hnx  _ _ _ _ _ _ _ _ _ _ h hq hm0 hm hH (lv_sub hl [1, 2, 3, 4, 5] rfl)
  · rw [if_pos c_1] at h
    exact bx_throw (k := 3) (i := 5) (cls := "java/lang/IllegalStateException") (rest := []) C0 hnx hq hH hm0 (by decide +kernel) rfl q_497 q_114 rfl tw_N_51.1 tw_N_51.2.1 tw_N_51.2.2 (by decide +kernel) hl.1 d_N_work_10 d_N_work_13 d_N_work_14 d_N_work_16 d_N_work_19 (Nat.le_of_ble_eq_true rfl) (Nat.le_of_ble_eq_true rfl) h
def f_N_work : Nat → (Nat → Nat) → mS → Int32 → Int32 → Int32 → Nat → Option (bO Unit)
  | 0 => fun _ _ _ _ _ _ => none
  | n + 1 => f_N_workb (f_N_work n)
theorem mn_N_work {n : Nat} {g : Nat → Nat} {v : mS}  {x1 : Int32} {x2 : Int32} {x3 : Int32} {x4 : Nat} {o : bO Unit} (h : f_N_work n g v x1 x2 x3 x4 = some o) : gL g ≤ gL o.2.1 := by
  cases n with
  | zero => cases h
  | succ n => exact mn_N_workb h
theorem c_N_workn {l : Launch} {Z : bZ} (hl0 : l.stackTraces = false) : ∀ (n : Nat) {q g : Nat → Nat} {v : mS}  {x1 : Int32} {x2 : Int32} {x3 : Int32} {x4 : Nat} {o : bO Unit}, f_N_work n g v x1 x2 x3 x4 = some o → bx_M l Z (82 * n) y_N_work b_N_work 6 none [.ref (q 25), .int x1, .int x2, .int x3, .ref (q x4)] q g v enV o := by
  intro n
  induction n with
  | zero => intro q g v x1 x2 x3 x4 o h; cases h
  | succ n ih =>
    intro q g v x1 x2 x3 x4 o h
    have h2 := c_N_workb (Z := Z) (q := q) (rB := 82 * n) (fun h => mn_N_work h) (fun h => ih h) hl0 h
    rw [show 82 * (n + 1) = 82 * n + 82 by omega]
    exact h2
