/-! methods of the class that may throw or make (by program: wip/gen/xgen.py) -/
def f_R_put (g : Nat → Nat) (v : mS) (j : Nat) (x1 : Int32) : Option (bO Unit) := mg g (gd (rowB j) (if (v j 1) = 16 then (some (.inr 3, g, v)) else (gd (inB (v j 1) 16) (nm (sU v (j + 1) (v j 1 : Int32).toNatClampNeg x1) fun v_3 => nm (sU v_3 j 1 ((v_3 j 1) + 1)) fun v_4 => some (.inl (), g, v_4)))))
theorem mn_R_put {g : Nat → Nat} {v : mS} {j : Nat} {x1 : Int32} {o : bO Unit} (h : f_R_put g v j x1 = some o) : gL g ≤ gL o.2.1 := (mg_out h).1
set_option maxHeartbeats 4000000 in
set_option maxRecDepth 100000 in
theorem c_R_put {l : Launch} {Z : bZ} (hl0 : l.stackTraces = false) {q g : Nat → Nat} {v : mS} {j : Nat} {x1 : Int32} {o : bO Unit} (h : f_R_put g v j x1 = some o) : bx_M l Z 6 y_R_put b_R_put 2 none [.ref (q j), .int x1] q g v enV o := by
  refine bx_of hl0 (by decide +kernel) (Nat.le_of_ble_eq_true rfl) ?_
  intro p e s m args below meth c A ls C0 hr hnx hl hH
  have hx := C0.1
  have hb := C0.2.1
  have C0 : bn_C "FilterBench$Row" b_R_put 2 Z A p l s m args meth c := C0
  have hl : lv_has ls 2 [(0, .ref (q j)), (1, .int x1)] := hl
  obtain ⟨hm, h⟩ := mg_out h
  have hm0 : gL g ≤ gL g := Nat.le_refl _
  have hq : qs q q := qs.rf
  have hcl9 := bx_room (h0 := 6) (o := o) hm0 hm
  obtain ⟨hgj, h⟩ := gd_out h
  refine lv_aload_n hx hb d_R_put_0 rfl (lv_at hl 0 rfl) ?_
  refine bn_g_R_size (rowB_k hgj) C0 hH d_R_put_1 ?_
  refine lv_bipush (v := 16) hx hb d_R_put_4 (by decide) ?_
  refine lv_icmp_ne (tgt := 19) hx hb d_R_put_6 (by decide) (fun c_1 => ?_) (fun c_1 => ?_)
  · rw [if_neg c_1] at h
    refine lv_aload_n hx hb d_R_put_19 rfl (lv_at hl 0 rfl) ?_
    refine bn_g_R_items (rowB_k hgj) C0 hH d_R_put_20 ?_
    refine lv_aload_n hx hb d_R_put_23 rfl (lv_at hl 0 rfl) ?_
    refine bn_g_R_size (rowB_k hgj) C0 hH d_R_put_24 ?_
    refine lv_iload_n hx hb d_R_put_27 rfl (lv_at hl 1 rfl) ?_
    obtain ⟨g_2, h⟩ := gd_out h
    obtain ⟨v_3, hv_3, h⟩ := nm_out h
    refine bn_sto (row_items hgj) C0 hH (by rw [row_len hgj]; exact (inB_in g_2)) d_R_put_28 (fun H locs hH => ?_)
    have hH : bn_H Z A s (q, g, v_3) H locs := by rw [hv_3]; exact hH
    refine lv_aload_n hx hb d_R_put_29 rfl (lv_at hl 0 rfl) ?_
    refine lv_dup hx hb d_R_put_30 rfl ?_
    refine bn_g_R_size (rowB_k hgj) C0 hH d_R_put_31 ?_
    refine lv_iconst (v := 1) hx hb d_R_put_34 (by decide) ?_
    refine lv_iadd hx hb d_R_put_35 ?_
    obtain ⟨v_4, hv_4, h⟩ := nm_out h
    refine bn_p_R_size (rowB_k hgj) C0 hH d_R_put_36 (fun H locs hH => ?_)
    have hH : bn_H Z A s (q, g, v_4) H locs := by rw [hv_4]; exact hH
    exact bx_vret C0 hr hq hH hm0 d_R_put_39 h
  · rw [if_pos c_1] at h
    exact bx_throw (k := 3) (i := 6) (cls := "java/lang/IllegalStateException") (rest := []) C0 hnx hq hH hm0 (by decide +kernel) rfl q_512 q_114 rfl tw_R_24.1 tw_R_24.2.1 tw_R_24.2.2 (by decide +kernel) hl.1 d_R_put_9 d_R_put_12 d_R_put_13 d_R_put_15 d_R_put_18 (Nat.le_of_ble_eq_true rfl) (Nat.le_of_ble_eq_true rfl) h
def f_N_give_25   (g : Nat → Nat) (v : mS) : Option (bO Unit) := some (.inl (), g, v)
set_option maxHeartbeats 4000000 in
set_option maxRecDepth 100000 in
theorem w_N_give_25 {p : Program} {l : Launch} {e : Env} {s : State} {m : MethodId} {args : Array Value} {below : List Frame} {meth : Method} {c : Code} {Z : bZ} {A : Nat → Prop} {q0 g0 : Nat → Nat} {o : bO Unit}  (C0 : bn_C "FilterBench$Runner" b_N_give 3 Z A p l s m args meth c) (hr : meth.sig.returnType = none) (hnx : ∀ x ∈ c.exceptionTable.toList, False) : ∀  (g : Nat → Nat) (v : mS) (q : Nat → Nat) (H : Heap) (locs : List Loc) (ls : Array Slot), f_N_give_25   g v = some o → qs q0 q → gL g0 ≤ gL g → gL g ≤ gL o.2.1 → bn_H Z A s (q, g, v) H locs → lv_has ls 3 [] → bx_W p l e s m args below meth c Z A q0 g0 enV o 7 g H locs (F0 m 25 ls []) := by
  have hx := C0.1
  have hb := C0.2.1
  have hl0 := C0.2.2.2.2.2.2.2.2.2
  intro  g v q H locs ls h hq hm0 hm hH hl
  unfold f_N_give_25 at h
  have hcl9 := bx_room (h0 := 7) (o := o) hm0 hm
  exact bx_vret C0 hr hq hH hm0 d_N_give_25 h
def f_N_give_9   (g : Nat → Nat) (v : mS) : Option (bO Unit) := f_N_give_25 g v
set_option maxHeartbeats 4000000 in
set_option maxRecDepth 100000 in
theorem w_N_give_9 {p : Program} {l : Launch} {e : Env} {s : State} {m : MethodId} {args : Array Value} {below : List Frame} {meth : Method} {c : Code} {Z : bZ} {A : Nat → Prop} {q0 g0 : Nat → Nat} {o : bO Unit}  (C0 : bn_C "FilterBench$Runner" b_N_give 3 Z A p l s m args meth c) (hr : meth.sig.returnType = none) (hnx : ∀ x ∈ c.exceptionTable.toList, False) : ∀  (g : Nat → Nat) (v : mS) (q : Nat → Nat) (H : Heap) (locs : List Loc) (ls : Array Slot), f_N_give_9   g v = some o → qs q0 q → gL g0 ≤ gL g → gL g ≤ gL o.2.1 → bn_H Z A s (q, g, v) H locs → lv_has ls 3 [] → bx_W p l e s m args below meth c Z A q0 g0 enV o 7 g H locs (F0 m 9 ls []) := by
  have hx := C0.1
  have hb := C0.2.1
  have hl0 := C0.2.2.2.2.2.2.2.2.2
  intro  g v q H locs ls h hq hm0 hm hH hl
  unfold f_N_give_9 at h
  have hcl9 := bx_room (h0 := 7) (o := o) hm0 hm
  refine lv_goto (tgt := 25) hx hb d_N_give_9 (by decide) ?_
  exact w_N_give_25 C0 hr hnx   _ _ _ _ _ _ h hq hm0 hm hH (lv_sub hl [] rfl)
def f_N_give (g : Nat → Nat) (v : mS) (x1 : Int32) (x2 : Nat) : Option (bO Unit) := mg g (gd (rowB x2) (if x1 < 0 then (bi (f_V_small g v (-x1)) fun r_4 v_2 => bv (f_R_end g v_2 x2 r_4) fun v_5 => f_N_give_25 g v_5) else (bo (f_R_put g v x2 x1) fun r9 g9 v9 => f_N_give_9 g9 v9)))
theorem mn_N_give {g : Nat → Nat} {v : mS}  {x1 : Int32} {x2 : Nat} {o : bO Unit} (h : f_N_give g v x1 x2 = some o) : gL g ≤ gL o.2.1 := (mg_out h).1
set_option maxHeartbeats 4000000 in
set_option maxRecDepth 100000 in
theorem c_N_give {l : Launch} {Z : bZ} (hl0 : l.stackTraces = false) {q g : Nat → Nat} {v : mS}  {x1 : Int32} {x2 : Nat} {o : bO Unit} (h : f_N_give g v x1 x2 = some o) : bx_M l Z 7 y_N_give b_N_give 3 none [.ref (q 25), .int x1, .ref (q x2)] q g v enV o := by
  refine bx_of hl0 (by decide +kernel) (Nat.le_of_ble_eq_true rfl) ?_
  intro p e s m args below meth c A ls C0 hr hnx hl hH
  have hx := C0.1
  have hb := C0.2.1
  have C0 : bn_C "FilterBench$Runner" b_N_give 3 Z A p l s m args meth c := C0
  have hl : lv_has ls 3 [(0, .ref (q 25)), (1, .int x1), (2, .ref (q x2))] := hl
  obtain ⟨hm, h⟩ := mg_out h
  have hm0 : gL g ≤ gL g := Nat.le_refl _
  have hq : qs q q := qs.rf
  have hcl9 := bx_room (h0 := 7) (o := o) hm0 hm
  obtain ⟨hgx2, h⟩ := gd_out h
  refine lv_iload_n hx hb d_N_give_0 rfl (lv_at hl 1 rfl) ?_
  refine lv_if_lt (tgt := 12) hx hb d_N_give_1 (by decide) (fun c_1 => ?_) (fun c_1 => ?_)
  · rw [if_pos c_1] at h
    refine lv_aload_n hx hb d_N_give_12 rfl (lv_at hl 2 rfl) ?_
    refine lv_aload_n hx hb d_N_give_13 rfl (lv_at hl 0 rfl) ?_
    refine bn_g_N_values ⟨by decide, by decide⟩ C0 hH d_N_give_14 ?_
    refine lv_iload_n hx hb d_N_give_17 rfl (lv_at hl 1 rfl) ?_
    refine lv_ineg hx hb d_N_give_18 ?_
    obtain ⟨r_4, v_2, hc_3, h⟩ := bi_out h
    refine bn_ci (r := r_4) (w := (q, g, v_2)) (as := [.int (-x1)]) (rest := [.ref (q x2)]) C0 hH (ci := 4) ⟨by decide, by decide⟩ (by decide) rfl (c_V_small hl0 hc_3) yy_V_small q_551 ⟨by simp only [bn_rm, dK]; omega, by simp only [bn_rm, dK]; omega⟩ rfl hl.1 rfl (Nat.le_of_ble_eq_true rfl) hcl9 d_N_give_19 (fun H locs hH => ?_)
    obtain ⟨v_5, hc_6, h⟩ := bv_out h
    refine bn_cv (w := (q, g, v_5)) (as := [.int r_4]) (rest := []) C0 hH (ci := 2) (rowB_k hgx2) (by decide) rfl (c_R_end hl0 hc_6) yy_R_end q_552 ⟨by simp only [bn_rm, dK]; omega, by simp only [bn_rm, dK]; omega⟩ rfl hl.1 rfl (Nat.le_of_ble_eq_true rfl) hcl9 d_N_give_22 (fun H locs hH => ?_)
    exact w_N_give_25 C0 hr hnx   _ _ _ _ _ _ h hq hm0 hm hH (lv_sub hl [] rfl)
  · rw [if_neg c_1] at h
    refine lv_aload_n hx hb d_N_give_4 rfl (lv_at hl 2 rfl) ?_
    refine lv_iload_n hx hb d_N_give_5 rfl (lv_at hl 1 rfl) ?_
    obtain ⟨o1, hc, hm2, ht9, hx1, hk9⟩ := bo_out h
    have hm1 := mn_R_put hc
    refine bx_cV (as := [.int x1]) (rest := []) C0 hnx hq hH hm0 hm1 hm2 ht9 (ci := 2) (rowB_k hgx2) (by decide) rfl (c_R_put hl0 hc) yy_R_put q_508 ⟨by first | omega | (simp only [dK]; omega), by first | omega | (simp only [dK]; omega)⟩ rfl hl.1 rfl (Nat.le_of_ble_eq_true rfl) d_N_give_6 hx1 (fun r9 q1 H locs hr1 hq0 hq1 hm9 hH => ?_)
    have h := hk9 r9 hr1
    exact w_N_give_9 C0 hr hnx   _ _ _ _ _ _ h hq0 hm9 hm2 hH (lv_sub hl [] rfl)
def f_N_select_16   (g : Nat → Nat) (v : mS) : Option (bO Unit) := some (.inl (), g, v)
set_option maxHeartbeats 4000000 in
set_option maxRecDepth 100000 in
theorem w_N_select_16 {p : Program} {l : Launch} {e : Env} {s : State} {m : MethodId} {args : Array Value} {below : List Frame} {meth : Method} {c : Code} {Z : bZ} {A : Nat → Prop} {q0 g0 : Nat → Nat} {o : bO Unit}  (C0 : bn_C "FilterBench$Runner" b_N_select 4 Z A p l s m args meth c) (hr : meth.sig.returnType = none) (hnx : ∀ x ∈ c.exceptionTable.toList, False) : ∀  (g : Nat → Nat) (v : mS) (q : Nat → Nat) (H : Heap) (locs : List Loc) (ls : Array Slot), f_N_select_16   g v = some o → qs q0 q → gL g0 ≤ gL g → gL g ≤ gL o.2.1 → bn_H Z A s (q, g, v) H locs → lv_has ls 4 [] → bx_W p l e s m args below meth c Z A q0 g0 enV o 7 g H locs (F0 m 16 ls []) := by
  have hx := C0.1
  have hb := C0.2.1
  have hl0 := C0.2.2.2.2.2.2.2.2.2
  intro  g v q H locs ls h hq hm0 hm hH hl
  unfold f_N_select_16 at h
  have hcl9 := bx_room (h0 := 7) (o := o) hm0 hm
  exact bx_vret C0 hr hq hH hm0 d_N_select_16 h
def f_N_select (g : Nat → Nat) (v : mS) (x1 : Int32) (x2 : Int32) (x3 : Nat) : Option (bO Unit) := mg g (gd (rowB x3) (bi (f_V_isGood g v x2) fun r_3 v_1 => if r_3 = 0 then (f_N_select_16 g v_1) else (bo (f_R_put g v_1 x3 x1) fun r9 g9 v9 => f_N_select_16 g9 v9)))
theorem mn_N_select {g : Nat → Nat} {v : mS}  {x1 : Int32} {x2 : Int32} {x3 : Nat} {o : bO Unit} (h : f_N_select g v x1 x2 x3 = some o) : gL g ≤ gL o.2.1 := (mg_out h).1
set_option maxHeartbeats 4000000 in
set_option maxRecDepth 100000 in
theorem c_N_select {l : Launch} {Z : bZ} (hl0 : l.stackTraces = false) {q g : Nat → Nat} {v : mS}  {x1 : Int32} {x2 : Int32} {x3 : Nat} {o : bO Unit} (h : f_N_select g v x1 x2 x3 = some o) : bx_M l Z 7 y_N_select b_N_select 4 none [.ref (q 25), .int x1, .int x2, .ref (q x3)] q g v enV o := by
  refine bx_of hl0 (by decide +kernel) (Nat.le_of_ble_eq_true rfl) ?_
  intro p e s m args below meth c A ls C0 hr hnx hl hH
  have hx := C0.1
  have hb := C0.2.1
  have C0 : bn_C "FilterBench$Runner" b_N_select 4 Z A p l s m args meth c := C0
  have hl : lv_has ls 4 [(0, .ref (q 25)), (1, .int x1), (2, .int x2), (3, .ref (q x3))] := hl
  obtain ⟨hm, h⟩ := mg_out h
  have hm0 : gL g ≤ gL g := Nat.le_refl _
  have hq : qs q q := qs.rf
  have hcl9 := bx_room (h0 := 7) (o := o) hm0 hm
  obtain ⟨hgx3, h⟩ := gd_out h
  refine lv_aload_n hx hb d_N_select_0 rfl (lv_at hl 0 rfl) ?_
  refine bn_g_N_values ⟨by decide, by decide⟩ C0 hH d_N_select_1 ?_
  refine lv_iload_n hx hb d_N_select_4 rfl (lv_at hl 2 rfl) ?_
  obtain ⟨r_3, v_1, hc_2, h⟩ := bi_out h
  refine bn_ci (r := r_3) (w := (q, g, v_1)) (as := [.int x2]) (rest := []) C0 hH (ci := 4) ⟨by decide, by decide⟩ (by decide) rfl (c_V_isGood hl0 hc_2) yy_V_isGood q_708 ⟨by simp only [bn_rm, dK]; omega, by simp only [bn_rm, dK]; omega⟩ rfl hl.1 rfl (Nat.le_of_ble_eq_true rfl) hcl9 d_N_select_5 (fun H locs hH => ?_)
  refine lv_if_eq (tgt := 16) hx hb d_N_select_8 (by decide) (fun c_4 => ?_) (fun c_4 => ?_)
  · rw [if_pos c_4] at h
    exact w_N_select_16 C0 hr hnx   _ _ _ _ _ _ h hq hm0 hm hH (lv_sub hl [] rfl)
  · rw [if_neg c_4] at h
    refine lv_aload_n hx hb d_N_select_11 rfl (lv_at hl 3 rfl) ?_
    refine lv_iload_n hx hb d_N_select_12 rfl (lv_at hl 1 rfl) ?_
    obtain ⟨o1, hc, hm2, ht9, hx1, hk9⟩ := bo_out h
    have hm1 := mn_R_put hc
    refine bx_cV (as := [.int x1]) (rest := []) C0 hnx hq hH hm0 hm1 hm2 ht9 (ci := 2) (rowB_k hgx3) (by decide) rfl (c_R_put hl0 hc) yy_R_put q_508 ⟨by first | omega | (simp only [dK]; omega), by first | omega | (simp only [dK]; omega)⟩ rfl hl.1 rfl (Nat.le_of_ble_eq_true rfl) d_N_select_13 hx1 (fun r9 q1 H locs hr1 hq0 hq1 hm9 hH => ?_)
    have h := hk9 r9 hr1
    exact w_N_select_16 C0 hr hnx   _ _ _ _ _ _ h hq0 hm9 hm2 hH (lv_sub hl [] rfl)
