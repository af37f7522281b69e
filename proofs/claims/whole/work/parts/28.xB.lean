/-! methods of the class that may throw or make (by program: wip/gen/xgen.py) -/
def f_N_each_17   (g : Nat → Nat) (v : mS) : Option (bO Unit) := some (.inl (), g, v)
set_option maxHeartbeats 4000000 in
set_option maxRecDepth 100000 in
theorem w_N_each_17 {p : Program} {l : Launch} {e : Env} {s : State} {m : MethodId} {args : Array Value} {below : List Frame} {meth : Method} {c : Code} {Z : bZ} {A : Nat → Prop} {q0 g0 : Nat → Nat} {o : bO Unit}  (C0 : bn_C "FilterBench$Runner" b_N_each 4 Z A p l s m args meth c) (hr : meth.sig.returnType = none) (hnx : ∀ x ∈ c.exceptionTable.toList, False) : ∀  (g : Nat → Nat) (v : mS) (q : Nat → Nat) (H : Heap) (locs : List Loc) (ls : Array Slot), f_N_each_17   g v = some o → qs q0 q → gL g0 ≤ gL g → gL g ≤ gL o.2.1 → bn_H Z A s (q, g, v) H locs → lv_has ls 4 [] → bx_W p l e s m args below meth c Z A q0 g0 enV o 8 g H locs (F0 m 17 ls []) := by
  have hx := C0.1
  have hb := C0.2.1
  have hl0 := C0.2.2.2.2.2.2.2.2.2
  intro  g v q H locs ls h hq hm0 hm hH hl
  unfold f_N_each_17 at h
  have hcl9 := bx_room (h0 := 8) (o := o) hm0 hm
  exact bx_vret C0 hr hq hH hm0 d_N_each_17 h
def f_N_each_45 (K20 : Int32 → Nat → Int32 → (Nat → Nat) → mS → Option (bO Unit)) (x1 : Int32) (x2 : Nat) (x3 : Int32) (g : Nat → Nat) (v : mS) : Option (bO Unit) := gd (rowB x2) (nm (x3 + 1) fun x3_1 => K20 x1 x2 x3_1 g v)
set_option maxHeartbeats 4000000 in
set_option maxRecDepth 100000 in
theorem w_N_each_45 {p : Program} {l : Launch} {e : Env} {s : State} {m : MethodId} {args : Array Value} {below : List Frame} {meth : Method} {c : Code} {Z : bZ} {A : Nat → Prop} {q0 g0 : Nat → Nat} {o : bO Unit}  (C0 : bn_C "FilterBench$Runner" b_N_each 4 Z A p l s m args meth c) (hr : meth.sig.returnType = none) (hnx : ∀ x ∈ c.exceptionTable.toList, False) {K20 : Int32 → Nat → Int32 → (Nat → Nat) → mS → Option (bO Unit)} (hK20 : ∀ (x1 : Int32) (x2 : Nat) (x3 : Int32) (g : Nat → Nat) (v : mS) (q : Nat → Nat) (H : Heap) (locs : List Loc) (ls : Array Slot), K20 x1 x2 x3 g v = some o → qs q0 q → gL g0 ≤ gL g → gL g ≤ gL o.2.1 → bn_H Z A s (q, g, v) H locs → lv_has ls 4 [(0, .ref (q 25)), (1, .int x1), (2, .ref (q x2)), (3, .int x3)] → bx_W p l e s m args below meth c Z A q0 g0 enV o 8 g H locs (F0 m 20 ls [])) : ∀ (x1 : Int32) (x2 : Nat) (x3 : Int32) (g : Nat → Nat) (v : mS) (q : Nat → Nat) (H : Heap) (locs : List Loc) (ls : Array Slot), f_N_each_45 K20 x1 x2 x3 g v = some o → qs q0 q → gL g0 ≤ gL g → gL g ≤ gL o.2.1 → bn_H Z A s (q, g, v) H locs → lv_has ls 4 [(0, .ref (q 25)), (1, .int x1), (2, .ref (q x2)), (3, .int x3)] → bx_W p l e s m args below meth c Z A q0 g0 enV o 8 g H locs (F0 m 45 ls []) := by
  have hx := C0.1
  have hb := C0.2.1
  have hl0 := C0.2.2.2.2.2.2.2.2.2
  intro x1 x2 x3 g v q H locs ls h hq hm0 hm hH hl
  unfold f_N_each_45 at h
  have hcl9 := bx_room (h0 := 8) (o := o) hm0 hm
  obtain ⟨hgx2, h⟩ := gd_out h
  obtain ⟨x3_1, hx3_1, h⟩ := nm_out h
  refine lv_iinc (v := x3_1) (lv' := [(3, .int x3_1), (0, .ref (q 25)), (1, .int x1), (2, .ref (q x2))]) hx hb d_N_each_45 hl (k := 3) rfl (by rw [hx3_1]; rfl) (by decide) rfl (fun ls hl => ?_)
  refine lv_goto (tgt := 20) hx hb d_N_each_48 (by decide) ?_
  exact hK20 _ _ _ _ _ _ _ _ _ h hq hm0 hm hH (lv_sub hl [1, 2, 3, 0] rfl)
def f_N_each_20  : Nat → Int32 → Nat → Int32 → (Nat → Nat) → mS → Option (bO Unit)
  | 0, _, _, _, _, _ => none
  | n + 1, x1, x2, x3, g, v => gd (rowB x2) (bi (f_V_lengthOf g v x1) fun r_3 v_1 => if r_3 ≤ x3 then (some (.inl (), g, v_1)) else (bi (f_V_itemAt g v_1 x1 x3) fun r_7 v_5 => bo (f_R_put g v_5 x2 r_7) fun r9 g9 v9 => f_N_each_45 (f_N_each_20 n) x1 x2 x3 g9 v9))
set_option maxHeartbeats 4000000 in
set_option maxRecDepth 100000 in
theorem w_N_each_20 {p : Program} {l : Launch} {e : Env} {s : State} {m : MethodId} {args : Array Value} {below : List Frame} {meth : Method} {c : Code} {Z : bZ} {A : Nat → Prop} {q0 g0 : Nat → Nat} {o : bO Unit}  (C0 : bn_C "FilterBench$Runner" b_N_each 4 Z A p l s m args meth c) (hr : meth.sig.returnType = none) (hnx : ∀ x ∈ c.exceptionTable.toList, False) : ∀ (n : Nat) (x1 : Int32) (x2 : Nat) (x3 : Int32) (g : Nat → Nat) (v : mS) (q : Nat → Nat) (H : Heap) (locs : List Loc) (ls : Array Slot), f_N_each_20  n x1 x2 x3 g v = some o → qs q0 q → gL g0 ≤ gL g → gL g ≤ gL o.2.1 → bn_H Z A s (q, g, v) H locs → lv_has ls 4 [(0, .ref (q 25)), (1, .int x1), (2, .ref (q x2)), (3, .int x3)] → bx_W p l e s m args below meth c Z A q0 g0 enV o 8 g H locs (F0 m 20 ls []) := by
  have hx := C0.1
  have hb := C0.2.1
  have hl0 := C0.2.2.2.2.2.2.2.2.2
  intro n
  induction n with
  | zero =>
    intro x1 x2 x3 g v q H locs ls h hq hm0 hm hH hl
    cases h
  | succ n ih =>
    intro x1 x2 x3 g v q H locs ls h hq hm0 hm hH hl
    rw [f_N_each_20] at h
    have hcl9 := bx_room (h0 := 8) (o := o) hm0 hm
    obtain ⟨hgx2, h⟩ := gd_out h
    refine lv_iload_n hx hb d_N_each_20 rfl (lv_at hl 3 rfl) ?_
    refine lv_aload_n hx hb d_N_each_21 rfl (lv_at hl 0 rfl) ?_
    refine bn_g_N_values ⟨by decide, by decide⟩ C0 hH d_N_each_22 ?_
    refine lv_iload_n hx hb d_N_each_25 rfl (lv_at hl 1 rfl) ?_
    obtain ⟨r_3, v_1, hc_2, h⟩ := bi_out h
    refine bn_ci (r := r_3) (w := (q, g, v_1)) (as := [.int x1]) (rest := [.int x3]) C0 hH (ci := 4) ⟨by decide, by decide⟩ (by decide) rfl (c_V_lengthOf hl0 hc_2) yy_V_lengthOf q_564 ⟨by simp only [bn_rm, dK]; omega, by simp only [bn_rm, dK]; omega⟩ rfl hl.1 rfl (Nat.le_of_ble_eq_true rfl) hcl9 d_N_each_26 (fun H locs hH => ?_)
    refine lv_icmp_ge (tgt := 51) hx hb d_N_each_29 (by decide) (fun c_4 => ?_) (fun c_4 => ?_)
    · rw [if_pos c_4] at h
      exact bx_vret C0 hr hq hH hm0 d_N_each_51 h
    · rw [if_neg c_4] at h
      refine lv_aload_n hx hb d_N_each_32 rfl (lv_at hl 2 rfl) ?_
      refine lv_aload_n hx hb d_N_each_33 rfl (lv_at hl 0 rfl) ?_
      refine bn_g_N_values ⟨by decide, by decide⟩ C0 hH d_N_each_34 ?_
      refine lv_iload_n hx hb d_N_each_37 rfl (lv_at hl 1 rfl) ?_
      refine lv_iload_n hx hb d_N_each_38 rfl (lv_at hl 3 rfl) ?_
      obtain ⟨r_7, v_5, hc_6, h⟩ := bi_out h
      refine bn_ci (r := r_7) (w := (q, g, v_5)) (as := [.int x1, .int x3]) (rest := [.ref (q x2)]) C0 hH (ci := 4) ⟨by decide, by decide⟩ (by decide) rfl (c_V_itemAt hl0 hc_6) yy_V_itemAt q_565 ⟨by simp only [bn_rm, dK]; omega, by simp only [bn_rm, dK]; omega⟩ rfl hl.1 rfl (Nat.le_of_ble_eq_true rfl) hcl9 d_N_each_39 (fun H locs hH => ?_)
      obtain ⟨o1, hc, hm2, ht9, hx1, hk9⟩ := bo_out h
      have hm1 := mn_R_put hc
      refine bx_cV (as := [.int r_7]) (rest := []) C0 hnx hq hH hm0 hm1 hm2 ht9 (ci := 2) (rowB_k hgx2) (by decide) rfl (c_R_put hl0 hc) yy_R_put q_508 ⟨by first | omega | (simp only [dK]; omega), by first | omega | (simp only [dK]; omega)⟩ rfl hl.1 rfl (Nat.le_of_ble_eq_true rfl) d_N_each_42 hx1 (fun r9 q1 H locs hr1 hq0 hq1 hm9 hH => ?_)
      have h := hk9 r9 hr1
      have e9 : q1 25 = q 25 := (hq1 25 (by decide) (by decide))
      try rw [← e9] at hl
      try rw [← e9]
      have e9 : q1 x2 = q x2 := (hq1 x2 (rowB_ne hgx2).1 (rowB_ne hgx2).2)
      try rw [← e9] at hl
      try rw [← e9]
      exact w_N_each_45 C0 hr hnx ih _ _ _ _ _ _ _ _ _ h hq0 hm9 hm2 hH (lv_sub hl [0, 1, 2, 3] rfl)
def f_N_each (g : Nat → Nat) (v : mS) (x1 : Int32) (x2 : Nat) : Option (bO Unit) := mg g (gd (rowB x2) (bi (f_V_hasParts g v x1) fun r_3 v_1 => if r_3 = 0 then (bo (f_N_give g v_1 (-1) x2) fun r9 g9 v9 => f_N_each_17 g9 v9) else (f_N_each_20 fu x1 x2 0 g v_1)))
theorem mn_N_each {g : Nat → Nat} {v : mS}  {x1 : Int32} {x2 : Nat} {o : bO Unit} (h : f_N_each g v x1 x2 = some o) : gL g ≤ gL o.2.1 := (mg_out h).1
set_option maxHeartbeats 4000000 in
set_option maxRecDepth 100000 in
theorem c_N_each {l : Launch} {Z : bZ} (hl0 : l.stackTraces = false) {q g : Nat → Nat} {v : mS}  {x1 : Int32} {x2 : Nat} {o : bO Unit} (h : f_N_each g v x1 x2 = some o) : bx_M l Z 8 y_N_each b_N_each 4 none [.ref (q 25), .int x1, .ref (q x2)] q g v enV o := by
  refine bx_of hl0 (by decide +kernel) (Nat.le_of_ble_eq_true rfl) ?_
  intro p e s m args below meth c A ls C0 hr hnx hl hH
  have hx := C0.1
  have hb := C0.2.1
  have C0 : bn_C "FilterBench$Runner" b_N_each 4 Z A p l s m args meth c := C0
  have hl : lv_has ls 4 [(0, .ref (q 25)), (1, .int x1), (2, .ref (q x2))] := hl
  obtain ⟨hm, h⟩ := mg_out h
  have hm0 : gL g ≤ gL g := Nat.le_refl _
  have hq : qs q q := qs.rf
  have hcl9 := bx_room (h0 := 8) (o := o) hm0 hm
  obtain ⟨hgx2, h⟩ := gd_out h
  refine lv_aload_n hx hb d_N_each_0 rfl (lv_at hl 0 rfl) ?_
  refine bn_g_N_values ⟨by decide, by decide⟩ C0 hH d_N_each_1 ?_
  refine lv_iload_n hx hb d_N_each_4 rfl (lv_at hl 1 rfl) ?_
  obtain ⟨r_3, v_1, hc_2, h⟩ := bi_out h
  refine bn_ci (r := r_3) (w := (q, g, v_1)) (as := [.int x1]) (rest := []) C0 hH (ci := 4) ⟨by decide, by decide⟩ (by decide) rfl (c_V_hasParts hl0 hc_2) yy_V_hasParts q_560 ⟨by simp only [bn_rm, dK]; omega, by simp only [bn_rm, dK]; omega⟩ rfl hl.1 rfl (Nat.le_of_ble_eq_true rfl) hcl9 d_N_each_5 (fun H locs hH => ?_)
  refine lv_if_ne (tgt := 18) hx hb d_N_each_8 (by decide) (fun c_4 => ?_) (fun c_4 => ?_)
  · rw [if_neg c_4] at h
    refine lv_iconst (v := 0) hx hb d_N_each_18 (by decide) ?_
    refine lv_istore_n (lv' := [(3, .int 0), (0, .ref (q 25)), (1, .int x1), (2, .ref (q x2))]) hx hb d_N_each_19 rfl hl (by decide) rfl (fun ls hl => ?_)
    exact w_N_each_20 C0 hr hnx  fu _ _ _ _ _ _ _ _ _ h hq hm0 hm hH (lv_sub hl [1, 2, 3, 0] rfl)
  · rw [if_pos c_4] at h
    refine lv_aload_n hx hb d_N_each_11 rfl (lv_at hl 0 rfl) ?_
    refine lv_iconst (v := (-1)) hx hb d_N_each_12 (by decide) ?_
    refine lv_aload_n hx hb d_N_each_13 rfl (lv_at hl 2 rfl) ?_
    obtain ⟨o1, hc, hm2, ht9, hx1, hk9⟩ := bo_out h
    have hm1 := mn_N_give hc
    refine bx_cV (as := [.int (-1), .ref (q x2)]) (rest := []) C0 hnx hq hH hm0 hm1 hm2 ht9 (ci := 3) ⟨by decide, by decide⟩ (by decide) rfl (c_N_give hl0 hc) yy_N_give q_547 ⟨by first | omega | (simp only [dK]; omega), by first | omega | (simp only [dK]; omega)⟩ rfl hl.1 rfl (Nat.le_of_ble_eq_true rfl) d_N_each_14 hx1 (fun r9 q1 H locs hr1 hq0 hq1 hm9 hH => ?_)
    have h := hk9 r9 hr1
    exact w_N_each_17 C0 hr hnx   _ _ _ _ _ _ h hq0 hm9 hm2 hH (lv_sub hl [] rfl)
def f_N_range_18   (g : Nat → Nat) (v : mS) : Option (bO Unit) := some (.inl (), g, v)
set_option maxHeartbeats 4000000 in
set_option maxRecDepth 100000 in
theorem w_N_range_18 {p : Program} {l : Launch} {e : Env} {s : State} {m : MethodId} {args : Array Value} {below : List Frame} {meth : Method} {c : Code} {Z : bZ} {A : Nat → Prop} {q0 g0 : Nat → Nat} {o : bO Unit}  (C0 : bn_C "FilterBench$Runner" b_N_range 4 Z A p l s m args meth c) (hr : meth.sig.returnType = none) (hnx : ∀ x ∈ c.exceptionTable.toList, False) : ∀  (g : Nat → Nat) (v : mS) (q : Nat → Nat) (H : Heap) (locs : List Loc) (ls : Array Slot), f_N_range_18   g v = some o → qs q0 q → gL g0 ≤ gL g → gL g ≤ gL o.2.1 → bn_H Z A s (q, g, v) H locs → lv_has ls 4 [] → bx_W p l e s m args below meth c Z A q0 g0 enV o 31 g H locs (F0 m 18 ls []) := by
  have hx := C0.1
  have hb := C0.2.1
  have hl0 := C0.2.2.2.2.2.2.2.2.2
  intro  g v q H locs ls h hq hm0 hm hH hl
  unfold f_N_range_18 at h
  have hcl9 := bx_room (h0 := 31) (o := o) hm0 hm
  exact bx_vret C0 hr hq hH hm0 d_N_range_18 h
def f_N_range_58 (K21 : Int32 → Nat → Int32 → (Nat → Nat) → mS → Option (bO Unit)) (x1 : Int32) (x2 : Nat) (x3 : Int32) (g : Nat → Nat) (v : mS) : Option (bO Unit) := gd (rowB x2) (nm (x3 + 1) fun x3_1 => K21 x1 x2 x3_1 g v)
set_option maxHeartbeats 4000000 in
set_option maxRecDepth 100000 in
theorem w_N_range_58 {p : Program} {l : Launch} {e : Env} {s : State} {m : MethodId} {args : Array Value} {below : List Frame} {meth : Method} {c : Code} {Z : bZ} {A : Nat → Prop} {q0 g0 : Nat → Nat} {o : bO Unit}  (C0 : bn_C "FilterBench$Runner" b_N_range 4 Z A p l s m args meth c) (hr : meth.sig.returnType = none) (hnx : ∀ x ∈ c.exceptionTable.toList, False) {K21 : Int32 → Nat → Int32 → (Nat → Nat) → mS → Option (bO Unit)} (hK21 : ∀ (x1 : Int32) (x2 : Nat) (x3 : Int32) (g : Nat → Nat) (v : mS) (q : Nat → Nat) (H : Heap) (locs : List Loc) (ls : Array Slot), K21 x1 x2 x3 g v = some o → qs q0 q → gL g0 ≤ gL g → gL g ≤ gL o.2.1 → bn_H Z A s (q, g, v) H locs → lv_has ls 4 [(0, .ref (q 25)), (1, .int x1), (2, .ref (q x2)), (3, .int x3)] → bx_W p l e s m args below meth c Z A q0 g0 enV o 31 g H locs (F0 m 21 ls [])) : ∀ (x1 : Int32) (x2 : Nat) (x3 : Int32) (g : Nat → Nat) (v : mS) (q : Nat → Nat) (H : Heap) (locs : List Loc) (ls : Array Slot), f_N_range_58 K21 x1 x2 x3 g v = some o → qs q0 q → gL g0 ≤ gL g → gL g ≤ gL o.2.1 → bn_H Z A s (q, g, v) H locs → lv_has ls 4 [(0, .ref (q 25)), (1, .int x1), (2, .ref (q x2)), (3, .int x3)] → bx_W p l e s m args below meth c Z A q0 g0 enV o 31 g H locs (F0 m 58 ls []) := by
  have hx := C0.1
  have hb := C0.2.1
  have hl0 := C0.2.2.2.2.2.2.2.2.2
  intro x1 x2 x3 g v q H locs ls h hq hm0 hm hH hl
  unfold f_N_range_58 at h
  have hcl9 := bx_room (h0 := 31) (o := o) hm0 hm
  obtain ⟨hgx2, h⟩ := gd_out h
  obtain ⟨x3_1, hx3_1, h⟩ := nm_out h
  refine lv_iinc (v := x3_1) (lv' := [(3, .int x3_1), (0, .ref (q 25)), (1, .int x1), (2, .ref (q x2))]) hx hb d_N_range_58 hl (k := 3) rfl (by rw [hx3_1]; rfl) (by decide) rfl (fun ls hl => ?_)
  refine lv_goto (tgt := 21) hx hb d_N_range_61 (by decide) ?_
  exact hK21 _ _ _ _ _ _ _ _ _ h hq hm0 hm hH (lv_sub hl [1, 2, 3, 0] rfl)
def f_N_range_64   (g : Nat → Nat) (v : mS) : Option (bO Unit) := some (.inl (), g, v)
set_option maxHeartbeats 4000000 in
set_option maxRecDepth 100000 in
theorem w_N_range_64 {p : Program} {l : Launch} {e : Env} {s : State} {m : MethodId} {args : Array Value} {below : List Frame} {meth : Method} {c : Code} {Z : bZ} {A : Nat → Prop} {q0 g0 : Nat → Nat} {o : bO Unit}  (C0 : bn_C "FilterBench$Runner" b_N_range 4 Z A p l s m args meth c) (hr : meth.sig.returnType = none) (hnx : ∀ x ∈ c.exceptionTable.toList, False) : ∀  (g : Nat → Nat) (v : mS) (q : Nat → Nat) (H : Heap) (locs : List Loc) (ls : Array Slot), f_N_range_64   g v = some o → qs q0 q → gL g0 ≤ gL g → gL g ≤ gL o.2.1 → bn_H Z A s (q, g, v) H locs → lv_has ls 4 [] → bx_W p l e s m args below meth c Z A q0 g0 enV o 31 g H locs (F0 m 64 ls []) := by
  have hx := C0.1
  have hb := C0.2.1
  have hl0 := C0.2.2.2.2.2.2.2.2.2
  intro  g v q H locs ls h hq hm0 hm hH hl
  unfold f_N_range_64 at h
  have hcl9 := bx_room (h0 := 31) (o := o) hm0 hm
  exact bx_vret C0 hr hq hH hm0 d_N_range_64 h
def f_N_range_21  : Nat → Int32 → Nat → Int32 → (Nat → Nat) → mS → Option (bO Unit)
  | 0, _, _, _, _, _ => none
  | n + 1, x1, x2, x3, g, v => gd (rowB x2) (if 16 < x3 then (f_N_range_64 g v) else (bi (f_V_small g v x3) fun r_4 v_2 => bi (f_V_compared dK g v_2 r_4 x1) fun r_7 v_5 => if 0 ≤ r_7 then (f_N_range_64 g v_5) else (bi (f_V_small g v_5 x3) fun r_11 v_9 => bo (f_R_put g v_9 x2 r_11) fun r9 g9 v9 => f_N_range_58 (f_N_range_21 n) x1 x2 x3 g9 v9)))
set_option maxHeartbeats 4000000 in
set_option maxRecDepth 100000 in
theorem w_N_range_21 {p : Program} {l : Launch} {e : Env} {s : State} {m : MethodId} {args : Array Value} {below : List Frame} {meth : Method} {c : Code} {Z : bZ} {A : Nat → Prop} {q0 g0 : Nat → Nat} {o : bO Unit}  (C0 : bn_C "FilterBench$Runner" b_N_range 4 Z A p l s m args meth c) (hr : meth.sig.returnType = none) (hnx : ∀ x ∈ c.exceptionTable.toList, False) : ∀ (n : Nat) (x1 : Int32) (x2 : Nat) (x3 : Int32) (g : Nat → Nat) (v : mS) (q : Nat → Nat) (H : Heap) (locs : List Loc) (ls : Array Slot), f_N_range_21  n x1 x2 x3 g v = some o → qs q0 q → gL g0 ≤ gL g → gL g ≤ gL o.2.1 → bn_H Z A s (q, g, v) H locs → lv_has ls 4 [(0, .ref (q 25)), (1, .int x1), (2, .ref (q x2)), (3, .int x3)] → bx_W p l e s m args below meth c Z A q0 g0 enV o 31 g H locs (F0 m 21 ls []) := by
  have hx := C0.1
  have hb := C0.2.1
  have hl0 := C0.2.2.2.2.2.2.2.2.2
  intro n
  induction n with
  | zero =>
    intro x1 x2 x3 g v q H locs ls h hq hm0 hm hH hl
    cases h
  | succ n ih =>
    intro x1 x2 x3 g v q H locs ls h hq hm0 hm hH hl
    rw [f_N_range_21] at h
    have hcl9 := bx_room (h0 := 31) (o := o) hm0 hm
    obtain ⟨hgx2, h⟩ := gd_out h
    refine lv_iload_n hx hb d_N_range_21 rfl (lv_at hl 3 rfl) ?_
    refine lv_bipush (v := 16) hx hb d_N_range_22 (by decide) ?_
    refine lv_icmp_gt (tgt := 64) hx hb d_N_range_24 (by decide) (fun c_1 => ?_) (fun c_1 => ?_)
    · rw [if_pos c_1] at h
      exact w_N_range_64 C0 hr hnx   _ _ _ _ _ _ h hq hm0 hm hH (lv_sub hl [] rfl)
    · rw [if_neg c_1] at h
      refine lv_aload_n hx hb d_N_range_27 rfl (lv_at hl 0 rfl) ?_
      refine bn_g_N_values ⟨by decide, by decide⟩ C0 hH d_N_range_28 ?_
      refine lv_aload_n hx hb d_N_range_31 rfl (lv_at hl 0 rfl) ?_
      refine bn_g_N_values ⟨by decide, by decide⟩ C0 hH d_N_range_32 ?_
      refine lv_iload_n hx hb d_N_range_35 rfl (lv_at hl 3 rfl) ?_
      obtain ⟨r_4, v_2, hc_3, h⟩ := bi_out h
      refine bn_ci (r := r_4) (w := (q, g, v_2)) (as := [.int x3]) (rest := [.ref (q 1)]) C0 hH (ci := 4) ⟨by decide, by decide⟩ (by decide) rfl (c_V_small hl0 hc_3) yy_V_small q_551 ⟨by simp only [bn_rm, dK]; omega, by simp only [bn_rm, dK]; omega⟩ rfl hl.1 rfl (Nat.le_of_ble_eq_true rfl) hcl9 d_N_range_36 (fun H locs hH => ?_)
      refine lv_iload_n hx hb d_N_range_39 rfl (lv_at hl 1 rfl) ?_
      obtain ⟨r_7, v_5, hc_6, h⟩ := bi_out h
      refine bn_ni (r := r_7) (w := (q, g, v_5)) (as := [.int r_4, .int x1]) (rest := []) C0 hH (ci := 4) ⟨by decide, by decide⟩ (by decide) rfl (c_V_comparedn hl0 dK hc_6) yy_V_compared (C0.2.2.2.2.2.2.2.2.1.2.2.2.2.2.2.1 _ (List.mem_of_getElem? (i := 6) rfl)) ⟨by simp only [bn_rm, dK]; omega, by simp only [bn_rm, dK]; omega⟩ rfl hl.1 rfl (Nat.le_of_ble_eq_true rfl) hcl9 d_N_range_40 (fun H locs hH => ?_)
      refine lv_if_ge (tgt := 64) hx hb d_N_range_43 (by decide) (fun c_8 => ?_) (fun c_8 => ?_)
      · rw [if_pos c_8] at h
        exact w_N_range_64 C0 hr hnx   _ _ _ _ _ _ h hq hm0 hm hH (lv_sub hl [] rfl)
      · rw [if_neg c_8] at h
        refine lv_aload_n hx hb d_N_range_46 rfl (lv_at hl 2 rfl) ?_
        refine lv_aload_n hx hb d_N_range_47 rfl (lv_at hl 0 rfl) ?_
        refine bn_g_N_values ⟨by decide, by decide⟩ C0 hH d_N_range_48 ?_
        refine lv_iload_n hx hb d_N_range_51 rfl (lv_at hl 3 rfl) ?_
        obtain ⟨r_11, v_9, hc_10, h⟩ := bi_out h
        refine bn_ci (r := r_11) (w := (q, g, v_9)) (as := [.int x3]) (rest := [.ref (q x2)]) C0 hH (ci := 4) ⟨by decide, by decide⟩ (by decide) rfl (c_V_small hl0 hc_10) yy_V_small q_551 ⟨by simp only [bn_rm, dK]; omega, by simp only [bn_rm, dK]; omega⟩ rfl hl.1 rfl (Nat.le_of_ble_eq_true rfl) hcl9 d_N_range_52 (fun H locs hH => ?_)
        obtain ⟨o1, hc, hm2, ht9, hx1, hk9⟩ := bo_out h
        have hm1 := mn_R_put hc
        refine bx_cV (as := [.int r_11]) (rest := []) C0 hnx hq hH hm0 hm1 hm2 ht9 (ci := 2) (rowB_k hgx2) (by decide) rfl (c_R_put hl0 hc) yy_R_put q_508 ⟨by first | omega | (simp only [dK]; omega), by first | omega | (simp only [dK]; omega)⟩ rfl hl.1 rfl (Nat.le_of_ble_eq_true rfl) d_N_range_55 hx1 (fun r9 q1 H locs hr1 hq0 hq1 hm9 hH => ?_)
        have h := hk9 r9 hr1
        have e9 : q1 25 = q 25 := (hq1 25 (by decide) (by decide))
        try rw [← e9] at hl
        try rw [← e9]
        have e9 : q1 x2 = q x2 := (hq1 x2 (rowB_ne hgx2).1 (rowB_ne hgx2).2)
        try rw [← e9] at hl
        try rw [← e9]
        exact w_N_range_58 C0 hr hnx ih _ _ _ _ _ _ _ _ _ h hq0 hm9 hm2 hH (lv_sub hl [0, 1, 2, 3] rfl)
def f_N_range (g : Nat → Nat) (v : mS) (x1 : Int32) (x2 : Nat) : Option (bO Unit) := mg g (gd (rowB x2) (bi (f_V_kindOf g v x1) fun r_3 v_1 => if r_3 = 3 then (f_N_range_21 fu x1 x2 0 g v_1) else (bo (f_N_give g v_1 (-1) x2) fun r9 g9 v9 => f_N_range_18 g9 v9)))
theorem mn_N_range {g : Nat → Nat} {v : mS}  {x1 : Int32} {x2 : Nat} {o : bO Unit} (h : f_N_range g v x1 x2 = some o) : gL g ≤ gL o.2.1 := (mg_out h).1
set_option maxHeartbeats 4000000 in
set_option maxRecDepth 100000 in
theorem c_N_range {l : Launch} {Z : bZ} (hl0 : l.stackTraces = false) {q g : Nat → Nat} {v : mS}  {x1 : Int32} {x2 : Nat} {o : bO Unit} (h : f_N_range g v x1 x2 = some o) : bx_M l Z 31 y_N_range b_N_range 4 none [.ref (q 25), .int x1, .ref (q x2)] q g v enV o := by
  refine bx_of hl0 (by decide +kernel) (Nat.le_of_ble_eq_true rfl) ?_
  intro p e s m args below meth c A ls C0 hr hnx hl hH
  have hx := C0.1
  have hb := C0.2.1
  have C0 : bn_C "FilterBench$Runner" b_N_range 4 Z A p l s m args meth c := C0
  have hl : lv_has ls 4 [(0, .ref (q 25)), (1, .int x1), (2, .ref (q x2))] := hl
  obtain ⟨hm, h⟩ := mg_out h
  have hm0 : gL g ≤ gL g := Nat.le_refl _
  have hq : qs q q := qs.rf
  have hcl9 := bx_room (h0 := 31) (o := o) hm0 hm
  obtain ⟨hgx2, h⟩ := gd_out h
  refine lv_aload_n hx hb d_N_range_0 rfl (lv_at hl 0 rfl) ?_
  refine bn_g_N_values ⟨by decide, by decide⟩ C0 hH d_N_range_1 ?_
  refine lv_iload_n hx hb d_N_range_4 rfl (lv_at hl 1 rfl) ?_
  obtain ⟨r_3, v_1, hc_2, h⟩ := bi_out h
  refine bn_ci (r := r_3) (w := (q, g, v_1)) (as := [.int x1]) (rest := []) C0 hH (ci := 4) ⟨by decide, by decide⟩ (by decide) rfl (c_V_kindOf hl0 hc_2) yy_V_kindOf q_805 ⟨by simp only [bn_rm, dK]; omega, by simp only [bn_rm, dK]; omega⟩ rfl hl.1 rfl (Nat.le_of_ble_eq_true rfl) hcl9 d_N_range_5 (fun H locs hH => ?_)
  refine lv_iconst (v := 3) hx hb d_N_range_8 (by decide) ?_
  refine lv_icmp_eq (tgt := 19) hx hb d_N_range_9 (by decide) (fun c_4 => ?_) (fun c_4 => ?_)
  · rw [if_pos c_4] at h
    refine lv_iconst (v := 0) hx hb d_N_range_19 (by decide) ?_
    refine lv_istore_n (lv' := [(3, .int 0), (0, .ref (q 25)), (1, .int x1), (2, .ref (q x2))]) hx hb d_N_range_20 rfl hl (by decide) rfl (fun ls hl => ?_)
    exact w_N_range_21 C0 hr hnx  fu _ _ _ _ _ _ _ _ _ h hq hm0 hm hH (lv_sub hl [1, 2, 3, 0] rfl)
  · rw [if_neg c_4] at h
    refine lv_aload_n hx hb d_N_range_12 rfl (lv_at hl 0 rfl) ?_
    refine lv_iconst (v := (-1)) hx hb d_N_range_13 (by decide) ?_
    refine lv_aload_n hx hb d_N_range_14 rfl (lv_at hl 2 rfl) ?_
    obtain ⟨o1, hc, hm2, ht9, hx1, hk9⟩ := bo_out h
    have hm1 := mn_N_give hc
    refine bx_cV (as := [.int (-1), .ref (q x2)]) (rest := []) C0 hnx hq hH hm0 hm1 hm2 ht9 (ci := 3) ⟨by decide, by decide⟩ (by decide) rfl (c_N_give hl0 hc) yy_N_give q_547 ⟨by first | omega | (simp only [dK]; omega), by first | omega | (simp only [dK]; omega)⟩ rfl hl.1 rfl (Nat.le_of_ble_eq_true rfl) d_N_range_15 hx1 (fun r9 q1 H locs hr1 hq0 hq1 hm9 hH => ?_)
    have h := hk9 r9 hr1
    exact w_N_range_18 C0 hr hnx   _ _ _ _ _ _ h hq0 hm9 hm2 hH (lv_sub hl [] rfl)
def f_N_all_44 (Kr : (Nat → Nat) → mS → Int32 → Nat → Option (bO Unit)) (K18 : Int32 → Nat → Int32 → (Nat → Nat) → mS → Option (bO Unit)) (x1 : Int32) (x2 : Nat) (x3 : Int32) (g : Nat → Nat) (v : mS) : Option (bO Unit) := gd (rowB x2) (nm (x3 + 1) fun x3_1 => K18 x1 x2 x3_1 g v)
set_option maxHeartbeats 4000000 in
set_option maxRecDepth 100000 in
theorem w_N_all_44 {p : Program} {l : Launch} {e : Env} {s : State} {m : MethodId} {args : Array Value} {below : List Frame} {meth : Method} {c : Code} {Z : bZ} {A : Nat → Prop} {q0 g0 : Nat → Nat} {o : bO Unit} {rB : Nat} {Kr : (Nat → Nat) → mS → Int32 → Nat → Option (bO Unit)} (hMr : ∀ {g : Nat → Nat} {v : mS} {z1 : Int32} {z2 : Nat} {o : bO Unit}, Kr g v z1 z2 = some o → gL g ≤ gL o.2.1) (hKr : ∀ {q g : Nat → Nat} {v : mS} {z1 : Int32} {z2 : Nat} {o : bO Unit}, Kr g v z1 z2 = some o → bx_M l Z rB y_N_all b_N_all 4 none [.ref (q 25), .int z1, .ref (q z2)] q g v enV o) (C0 : bn_C "FilterBench$Runner" b_N_all 4 Z A p l s m args meth c) (hr : meth.sig.returnType = none) (hnx : ∀ x ∈ c.exceptionTable.toList, False) {K18 : Int32 → Nat → Int32 → (Nat → Nat) → mS → Option (bO Unit)} (hK18 : ∀ (x1 : Int32) (x2 : Nat) (x3 : Int32) (g : Nat → Nat) (v : mS) (q : Nat → Nat) (H : Heap) (locs : List Loc) (ls : Array Slot), K18 x1 x2 x3 g v = some o → qs q0 q → gL g0 ≤ gL g → gL g ≤ gL o.2.1 → bn_H Z A s (q, g, v) H locs → lv_has ls 4 [(0, .ref (q 25)), (1, .int x1), (2, .ref (q x2)), (3, .int x3)] → bx_W p l e s m args below meth c Z A q0 g0 enV o (rB + 8) g H locs (F0 m 18 ls [])) : ∀ (x1 : Int32) (x2 : Nat) (x3 : Int32) (g : Nat → Nat) (v : mS) (q : Nat → Nat) (H : Heap) (locs : List Loc) (ls : Array Slot), f_N_all_44 Kr K18 x1 x2 x3 g v = some o → qs q0 q → gL g0 ≤ gL g → gL g ≤ gL o.2.1 → bn_H Z A s (q, g, v) H locs → lv_has ls 4 [(0, .ref (q 25)), (1, .int x1), (2, .ref (q x2)), (3, .int x3)] → bx_W p l e s m args below meth c Z A q0 g0 enV o (rB + 8) g H locs (F0 m 44 ls []) := by
  have hx := C0.1
  have hb := C0.2.1
  have hl0 := C0.2.2.2.2.2.2.2.2.2
  intro x1 x2 x3 g v q H locs ls h hq hm0 hm hH hl
  unfold f_N_all_44 at h
  have hcl9 := bx_room (h0 := (rB + 8)) (o := o) hm0 hm
  obtain ⟨hgx2, h⟩ := gd_out h
  obtain ⟨x3_1, hx3_1, h⟩ := nm_out h
  refine lv_iinc (v := x3_1) (lv' := [(3, .int x3_1), (0, .ref (q 25)), (1, .int x1), (2, .ref (q x2))]) hx hb d_N_all_44 hl (k := 3) rfl (by rw [hx3_1]; rfl) (by decide) rfl (fun ls hl => ?_)
  refine lv_goto (tgt := 18) hx hb d_N_all_47 (by decide) ?_
  exact hK18 _ _ _ _ _ _ _ _ _ h hq hm0 hm hH (lv_sub hl [1, 2, 3, 0] rfl)
def f_N_all_50 (Kr : (Nat → Nat) → mS → Int32 → Nat → Option (bO Unit))   (g : Nat → Nat) (v : mS) : Option (bO Unit) := some (.inl (), g, v)
set_option maxHeartbeats 4000000 in
set_option maxRecDepth 100000 in
theorem w_N_all_50 {p : Program} {l : Launch} {e : Env} {s : State} {m : MethodId} {args : Array Value} {below : List Frame} {meth : Method} {c : Code} {Z : bZ} {A : Nat → Prop} {q0 g0 : Nat → Nat} {o : bO Unit} {rB : Nat} {Kr : (Nat → Nat) → mS → Int32 → Nat → Option (bO Unit)} (hMr : ∀ {g : Nat → Nat} {v : mS} {z1 : Int32} {z2 : Nat} {o : bO Unit}, Kr g v z1 z2 = some o → gL g ≤ gL o.2.1) (hKr : ∀ {q g : Nat → Nat} {v : mS} {z1 : Int32} {z2 : Nat} {o : bO Unit}, Kr g v z1 z2 = some o → bx_M l Z rB y_N_all b_N_all 4 none [.ref (q 25), .int z1, .ref (q z2)] q g v enV o) (C0 : bn_C "FilterBench$Runner" b_N_all 4 Z A p l s m args meth c) (hr : meth.sig.returnType = none) (hnx : ∀ x ∈ c.exceptionTable.toList, False) : ∀  (g : Nat → Nat) (v : mS) (q : Nat → Nat) (H : Heap) (locs : List Loc) (ls : Array Slot), f_N_all_50 Kr   g v = some o → qs q0 q → gL g0 ≤ gL g → gL g ≤ gL o.2.1 → bn_H Z A s (q, g, v) H locs → lv_has ls 4 [] → bx_W p l e s m args below meth c Z A q0 g0 enV o (rB + 8) g H locs (F0 m 50 ls []) := by
  have hx := C0.1
  have hb := C0.2.1
  have hl0 := C0.2.2.2.2.2.2.2.2.2
  intro  g v q H locs ls h hq hm0 hm hH hl
  unfold f_N_all_50 at h
  have hcl9 := bx_room (h0 := (rB + 8)) (o := o) hm0 hm
  exact bx_vret C0 hr hq hH hm0 d_N_all_50 h
def f_N_all_18 (Kr : (Nat → Nat) → mS → Int32 → Nat → Option (bO Unit))  : Nat → Int32 → Nat → Int32 → (Nat → Nat) → mS → Option (bO Unit)
  | 0, _, _, _, _, _ => none
  | n + 1, x1, x2, x3, g, v => gd (rowB x2) (bi (f_V_lengthOf g v x1) fun r_3 v_1 => if r_3 ≤ x3 then (f_N_all_50 Kr g v_1) else (bi (f_V_itemAt g v_1 x1 x3) fun r_7 v_5 => bo (Kr g v_5 r_7 x2) fun r9 g9 v9 => f_N_all_44 Kr (f_N_all_18 Kr n) x1 x2 x3 g9 v9))
set_option maxHeartbeats 4000000 in
set_option maxRecDepth 100000 in
theorem w_N_all_18 {p : Program} {l : Launch} {e : Env} {s : State} {m : MethodId} {args : Array Value} {below : List Frame} {meth : Method} {c : Code} {Z : bZ} {A : Nat → Prop} {q0 g0 : Nat → Nat} {o : bO Unit} {rB : Nat} {Kr : (Nat → Nat) → mS → Int32 → Nat → Option (bO Unit)} (hMr : ∀ {g : Nat → Nat} {v : mS} {z1 : Int32} {z2 : Nat} {o : bO Unit}, Kr g v z1 z2 = some o → gL g ≤ gL o.2.1) (hKr : ∀ {q g : Nat → Nat} {v : mS} {z1 : Int32} {z2 : Nat} {o : bO Unit}, Kr g v z1 z2 = some o → bx_M l Z rB y_N_all b_N_all 4 none [.ref (q 25), .int z1, .ref (q z2)] q g v enV o) (C0 : bn_C "FilterBench$Runner" b_N_all 4 Z A p l s m args meth c) (hr : meth.sig.returnType = none) (hnx : ∀ x ∈ c.exceptionTable.toList, False) : ∀ (n : Nat) (x1 : Int32) (x2 : Nat) (x3 : Int32) (g : Nat → Nat) (v : mS) (q : Nat → Nat) (H : Heap) (locs : List Loc) (ls : Array Slot), f_N_all_18 Kr  n x1 x2 x3 g v = some o → qs q0 q → gL g0 ≤ gL g → gL g ≤ gL o.2.1 → bn_H Z A s (q, g, v) H locs → lv_has ls 4 [(0, .ref (q 25)), (1, .int x1), (2, .ref (q x2)), (3, .int x3)] → bx_W p l e s m args below meth c Z A q0 g0 enV o (rB + 8) g H locs (F0 m 18 ls []) := by
  have hx := C0.1
  have hb := C0.2.1
  have hl0 := C0.2.2.2.2.2.2.2.2.2
  intro n
  induction n with
  | zero =>
    intro x1 x2 x3 g v q H locs ls h hq hm0 hm hH hl
    cases h
  | succ n ih =>
    intro x1 x2 x3 g v q H locs ls h hq hm0 hm hH hl
    rw [f_N_all_18] at h
    have hcl9 := bx_room (h0 := (rB + 8)) (o := o) hm0 hm
    obtain ⟨hgx2, h⟩ := gd_out h
    refine lv_iload_n hx hb d_N_all_18 rfl (lv_at hl 3 rfl) ?_
    refine lv_aload_n hx hb d_N_all_19 rfl (lv_at hl 0 rfl) ?_
    refine bn_g_N_values ⟨by decide, by decide⟩ C0 hH d_N_all_20 ?_
    refine lv_iload_n hx hb d_N_all_23 rfl (lv_at hl 1 rfl) ?_
    obtain ⟨r_3, v_1, hc_2, h⟩ := bi_out h
    refine bn_ci (r := r_3) (w := (q, g, v_1)) (as := [.int x1]) (rest := [.int x3]) C0 hH (ci := 4) ⟨by decide, by decide⟩ (by decide) rfl (c_V_lengthOf hl0 hc_2) yy_V_lengthOf q_564 ⟨by simp only [bn_rm, dK]; omega, by simp only [bn_rm, dK]; omega⟩ rfl hl.1 rfl (Nat.le_of_ble_eq_true rfl) hcl9 d_N_all_24 (fun H locs hH => ?_)
    refine lv_icmp_ge (tgt := 50) hx hb d_N_all_27 (by decide) (fun c_4 => ?_) (fun c_4 => ?_)
    · rw [if_pos c_4] at h
      exact w_N_all_50 hMr hKr C0 hr hnx   _ _ _ _ _ _ h hq hm0 hm hH (lv_sub hl [] rfl)
    · rw [if_neg c_4] at h
      refine lv_aload_n hx hb d_N_all_30 rfl (lv_at hl 0 rfl) ?_
      refine lv_aload_n hx hb d_N_all_31 rfl (lv_at hl 0 rfl) ?_
      refine bn_g_N_values ⟨by decide, by decide⟩ C0 hH d_N_all_32 ?_
      refine lv_iload_n hx hb d_N_all_35 rfl (lv_at hl 1 rfl) ?_
      refine lv_iload_n hx hb d_N_all_36 rfl (lv_at hl 3 rfl) ?_
      obtain ⟨r_7, v_5, hc_6, h⟩ := bi_out h
      refine bn_ci (r := r_7) (w := (q, g, v_5)) (as := [.int x1, .int x3]) (rest := [.ref (q 25)]) C0 hH (ci := 4) ⟨by decide, by decide⟩ (by decide) rfl (c_V_itemAt hl0 hc_6) yy_V_itemAt q_565 ⟨by simp only [bn_rm, dK]; omega, by simp only [bn_rm, dK]; omega⟩ rfl hl.1 rfl (Nat.le_of_ble_eq_true rfl) hcl9 d_N_all_37 (fun H locs hH => ?_)
      refine lv_aload_n hx hb d_N_all_40 rfl (lv_at hl 2 rfl) ?_
      obtain ⟨o1, hc, hm2, ht9, hx1, hk9⟩ := bo_out h
      have hm1 := hMr hc
      refine bx_cV (as := [.int r_7, .ref (q x2)]) (rest := []) C0 hnx hq hH hm0 hm1 hm2 ht9 (ci := 3) ⟨by decide, by decide⟩ (by decide) rfl (hKr hc) yy_N_all q_753 ⟨by first | omega | (simp only [dK]; omega), by first | omega | (simp only [dK]; omega)⟩ rfl hl.1 rfl (Nat.le_of_ble_eq_true rfl) d_N_all_41 hx1 (fun r9 q1 H locs hr1 hq0 hq1 hm9 hH => ?_)
      have h := hk9 r9 hr1
      have e9 : q1 25 = q 25 := (hq1 25 (by decide) (by decide))
      try rw [← e9] at hl
      try rw [← e9]
      have e9 : q1 x2 = q x2 := (hq1 x2 (rowB_ne hgx2).1 (rowB_ne hgx2).2)
      try rw [← e9] at hl
      try rw [← e9]
      exact w_N_all_44 hMr hKr C0 hr hnx ih _ _ _ _ _ _ _ _ _ h hq0 hm9 hm2 hH (lv_sub hl [0, 1, 2, 3] rfl)
def f_N_all_5 (Kr : (Nat → Nat) → mS → Int32 → Nat → Option (bO Unit))  (x1 : Int32) (x2 : Nat) (g : Nat → Nat) (v : mS) : Option (bO Unit) := gd (rowB x2) (bi (f_V_hasParts g v x1) fun r_3 v_1 => if r_3 = 0 then (f_N_all_50 Kr g v_1) else (f_N_all_18 Kr fu x1 x2 0 g v_1))
set_option maxHeartbeats 4000000 in
set_option maxRecDepth 100000 in
theorem w_N_all_5 {p : Program} {l : Launch} {e : Env} {s : State} {m : MethodId} {args : Array Value} {below : List Frame} {meth : Method} {c : Code} {Z : bZ} {A : Nat → Prop} {q0 g0 : Nat → Nat} {o : bO Unit} {rB : Nat} {Kr : (Nat → Nat) → mS → Int32 → Nat → Option (bO Unit)} (hMr : ∀ {g : Nat → Nat} {v : mS} {z1 : Int32} {z2 : Nat} {o : bO Unit}, Kr g v z1 z2 = some o → gL g ≤ gL o.2.1) (hKr : ∀ {q g : Nat → Nat} {v : mS} {z1 : Int32} {z2 : Nat} {o : bO Unit}, Kr g v z1 z2 = some o → bx_M l Z rB y_N_all b_N_all 4 none [.ref (q 25), .int z1, .ref (q z2)] q g v enV o) (C0 : bn_C "FilterBench$Runner" b_N_all 4 Z A p l s m args meth c) (hr : meth.sig.returnType = none) (hnx : ∀ x ∈ c.exceptionTable.toList, False) : ∀ (x1 : Int32) (x2 : Nat) (g : Nat → Nat) (v : mS) (q : Nat → Nat) (H : Heap) (locs : List Loc) (ls : Array Slot), f_N_all_5 Kr  x1 x2 g v = some o → qs q0 q → gL g0 ≤ gL g → gL g ≤ gL o.2.1 → bn_H Z A s (q, g, v) H locs → lv_has ls 4 [(0, .ref (q 25)), (1, .int x1), (2, .ref (q x2))] → bx_W p l e s m args below meth c Z A q0 g0 enV o (rB + 8) g H locs (F0 m 5 ls []) := by
  have hx := C0.1
  have hb := C0.2.1
  have hl0 := C0.2.2.2.2.2.2.2.2.2
  intro x1 x2 g v q H locs ls h hq hm0 hm hH hl
  unfold f_N_all_5 at h
  have hcl9 := bx_room (h0 := (rB + 8)) (o := o) hm0 hm
  obtain ⟨hgx2, h⟩ := gd_out h
  refine lv_aload_n hx hb d_N_all_5 rfl (lv_at hl 0 rfl) ?_
  refine bn_g_N_values ⟨by decide, by decide⟩ C0 hH d_N_all_6 ?_
  refine lv_iload_n hx hb d_N_all_9 rfl (lv_at hl 1 rfl) ?_
  obtain ⟨r_3, v_1, hc_2, h⟩ := bi_out h
  refine bn_ci (r := r_3) (w := (q, g, v_1)) (as := [.int x1]) (rest := []) C0 hH (ci := 4) ⟨by decide, by decide⟩ (by decide) rfl (c_V_hasParts hl0 hc_2) yy_V_hasParts q_560 ⟨by simp only [bn_rm, dK]; omega, by simp only [bn_rm, dK]; omega⟩ rfl hl.1 rfl (Nat.le_of_ble_eq_true rfl) hcl9 d_N_all_10 (fun H locs hH => ?_)
  refine lv_if_eq (tgt := 50) hx hb d_N_all_13 (by decide) (fun c_4 => ?_) (fun c_4 => ?_)
  · rw [if_pos c_4] at h
    exact w_N_all_50 hMr hKr C0 hr hnx   _ _ _ _ _ _ h hq hm0 hm hH (lv_sub hl [] rfl)
  · rw [if_neg c_4] at h
    refine lv_iconst (v := 0) hx hb d_N_all_16 (by decide) ?_
    refine lv_istore_n (lv' := [(3, .int 0), (0, .ref (q 25)), (1, .int x1), (2, .ref (q x2))]) hx hb d_N_all_17 rfl hl (by decide) rfl (fun ls hl => ?_)
    exact w_N_all_18 hMr hKr C0 hr hnx  fu _ _ _ _ _ _ _ _ _ h hq hm0 hm hH (lv_sub hl [1, 2, 3, 0] rfl)
def f_N_allb (Kr : (Nat → Nat) → mS → Int32 → Nat → Option (bO Unit)) (g : Nat → Nat) (v : mS) (x1 : Int32) (x2 : Nat) : Option (bO Unit) := mg g (gd (rowB x2) (bo (f_R_put g v x2 x1) fun r9 g9 v9 => f_N_all_5 Kr x1 x2 g9 v9))
theorem mn_N_allb {Kr : (Nat → Nat) → mS → Int32 → Nat → Option (bO Unit)} {g : Nat → Nat} {v : mS}  {x1 : Int32} {x2 : Nat} {o : bO Unit} (h : f_N_allb Kr g v x1 x2 = some o) : gL g ≤ gL o.2.1 := (mg_out h).1
set_option maxHeartbeats 4000000 in
set_option maxRecDepth 100000 in
theorem c_N_allb {l : Launch} {Z : bZ} {rB : Nat} {Kr : (Nat → Nat) → mS → Int32 → Nat → Option (bO Unit)} (hMr : ∀ {g : Nat → Nat} {v : mS} {z1 : Int32} {z2 : Nat} {o : bO Unit}, Kr g v z1 z2 = some o → gL g ≤ gL o.2.1) (hKr : ∀ {q g : Nat → Nat} {v : mS} {z1 : Int32} {z2 : Nat} {o : bO Unit}, Kr g v z1 z2 = some o → bx_M l Z rB y_N_all b_N_all 4 none [.ref (q 25), .int z1, .ref (q z2)] q g v enV o) (hl0 : l.stackTraces = false) {q g : Nat → Nat} {v : mS}  {x1 : Int32} {x2 : Nat} {o : bO Unit} (h : f_N_allb Kr g v x1 x2 = some o) : bx_M l Z (rB + 8) y_N_all b_N_all 4 none [.ref (q 25), .int x1, .ref (q x2)] q g v enV o := by
  refine bx_of hl0 (by decide +kernel) (Nat.le_of_ble_eq_true rfl) ?_
  intro p e s m args below meth c A ls C0 hr hnx hl hH
  have hx := C0.1
  have hb := C0.2.1
  have C0 : bn_C "FilterBench$Runner" b_N_all 4 Z A p l s m args meth c := C0
  have hl : lv_has ls 4 [(0, .ref (q 25)), (1, .int x1), (2, .ref (q x2))] := hl
  obtain ⟨hm, h⟩ := mg_out h
  have hm0 : gL g ≤ gL g := Nat.le_refl _
  have hq : qs q q := qs.rf
  have hcl9 := bx_room (h0 := (rB + 8)) (o := o) hm0 hm
  obtain ⟨hgx2, h⟩ := gd_out h
  refine lv_aload_n hx hb d_N_all_0 rfl (lv_at hl 2 rfl) ?_
  refine lv_iload_n hx hb d_N_all_1 rfl (lv_at hl 1 rfl) ?_
  obtain ⟨o1, hc, hm2, ht9, hx1, hk9⟩ := bo_out h
  have hm1 := mn_R_put hc
  refine bx_cV (as := [.int x1]) (rest := []) C0 hnx hq hH hm0 hm1 hm2 ht9 (ci := 2) (rowB_k hgx2) (by decide) rfl (c_R_put hl0 hc) yy_R_put q_508 ⟨by first | omega | (simp only [dK]; omega), by first | omega | (simp only [dK]; omega)⟩ rfl hl.1 rfl (Nat.le_of_ble_eq_true rfl) d_N_all_2 hx1 (fun r9 q1 H locs hr1 hq0 hq1 hm9 hH => ?_)
  have h := hk9 r9 hr1
  have e9 : q1 25 = q 25 := (hq1 25 (by decide) (by decide))
  try rw [← e9] at hl
  try rw [← e9]
  have e9 : q1 x2 = q x2 := (hq1 x2 (rowB_ne hgx2).1 (rowB_ne hgx2).2)
  try rw [← e9] at hl
  try rw [← e9]
  exact w_N_all_5 hMr hKr C0 hr hnx  _ _ _ _ _ _ _ _ h hq0 hm9 hm2 hH (lv_sub hl [0, 1, 2] rfl)
def f_N_all : Nat → (Nat → Nat) → mS → Int32 → Nat → Option (bO Unit)
  | 0 => fun _ _ _ _ => none
  | n + 1 => f_N_allb (f_N_all n)
theorem mn_N_all {n : Nat} {g : Nat → Nat} {v : mS}  {x1 : Int32} {x2 : Nat} {o : bO Unit} (h : f_N_all n g v x1 x2 = some o) : gL g ≤ gL o.2.1 := by
  cases n with
  | zero => cases h
  | succ n => exact mn_N_allb h
theorem c_N_alln {l : Launch} {Z : bZ} (hl0 : l.stackTraces = false) : ∀ (n : Nat) {q g : Nat → Nat} {v : mS}  {x1 : Int32} {x2 : Nat} {o : bO Unit}, f_N_all n g v x1 x2 = some o → bx_M l Z (8 * n) y_N_all b_N_all 4 none [.ref (q 25), .int x1, .ref (q x2)] q g v enV o := by
  intro n
  induction n with
  | zero => intro q g v x1 x2 o h; cases h
  | succ n ih =>
    intro q g v x1 x2 o h
    have h2 := c_N_allb (Z := Z) (q := q) (rB := 8 * n) (fun h => mn_N_all h) (fun h => ih h) hl0 h
    rw [show 8 * (n + 1) = 8 * n + 8 by omega]
    exact h2
def f_V_closed_79   (g : Nat → Nat) (v : mS) : Option (bO Int32) := some (.inr 3, g, v)
set_option maxHeartbeats 4000000 in
set_option maxRecDepth 100000 in
theorem w_V_closed_79 {p : Program} {l : Launch} {e : Env} {s : State} {m : MethodId} {args : Array Value} {below : List Frame} {meth : Method} {c : Code} {Z : bZ} {A : Nat → Prop} {q0 g0 : Nat → Nat} {o : bO Int32}  (C0 : bn_C "FilterBench$Values" b_V_closed 5 Z A p l s m args meth c) (hr : meth.sig.returnType = (some .int)) (hnx : ∀ x ∈ c.exceptionTable.toList, False) : ∀  (g : Nat → Nat) (v : mS) (q : Nat → Nat) (H : Heap) (locs : List Loc) (ls : Array Slot), f_V_closed_79   g v = some o → qs q0 q → gL g0 ≤ gL g → gL g ≤ gL o.2.1 → bn_H Z A s (q, g, v) H locs → lv_has ls 5 [] → bx_W p l e s m args below meth c Z A q0 g0 enI o 7 g H locs (F0 m 79 ls []) := by
  have hx := C0.1
  have hb := C0.2.1
  have hl0 := C0.2.2.2.2.2.2.2.2.2
  intro  g v q H locs ls h hq hm0 hm hH hl
  unfold f_V_closed_79 at h
  have hcl9 := bx_room (h0 := 7) (o := o) hm0 hm
  exact bx_throw (k := 3) (i := 8) (cls := "java/lang/IllegalStateException") (rest := []) C0 hnx hq hH hm0 (by decide +kernel) rfl q_388 q_114 rfl tw_V_76.1 tw_V_76.2.1 tw_V_76.2.2 (by decide +kernel) hl.1 d_V_closed_79 d_V_closed_82 d_V_closed_83 d_V_closed_85 d_V_closed_88 (Nat.le_of_ble_eq_true rfl) (Nat.le_of_ble_eq_true rfl) h
def f_V_closed_9  : Nat → Int32 → Int32 → Int32 → Int32 → (Nat → Nat) → mS → Option (bO Int32)
  | 0, _, _, _, _, _, _ => none
  | n + 1, x1, x2, x3, x4, g, v => gd (inB (x1 + 1) (g 4)) (if ((x1 + 4) + (v 4 (x1 + 1 : Int32).toNatClampNeg)) ≤ x4 then (if 24 < x2 then (f_V_closed_79 g v) else (if x3 = 5 then (f_V_closed_79 g v) else (gd (inB (x1 + 2) (g 4)) (nm (sU v 4 (x1 + 2 : Int32).toNatClampNeg x2) fun v_6 => gd (inB (x1 + 3) (g 4)) (nm (sU v_6 4 (x1 + 3 : Int32).toNatClampNeg (x3 + 1)) fun v_8 => some (.inl (x1), g, v_8)))))) else (gd (inB x4 (g 4)) (gd (inB ((v 4 (x4 : Int32).toNatClampNeg) + 2) (g 4)) (nm (x2 + (v 4 ((v 4 (x4 : Int32).toNatClampNeg) + 2 : Int32).toNatClampNeg)) fun x2_11 => gd (inB x4 (g 4)) (gd (inB ((v 4 (x4 : Int32).toNatClampNeg) + 3) (g 4)) (nm (if x3 < (v 4 ((v 4 (x4 : Int32).toNatClampNeg) + 3 : Int32).toNatClampNeg) then (v 4 ((v 4 (x4 : Int32).toNatClampNeg) + 3 : Int32).toNatClampNeg) else x3) fun x3_14 => nm (x4 + 1) fun x4_15 => f_V_closed_9 n x1 x2_11 x3_14 x4_15 g v))))))
set_option maxHeartbeats 4000000 in
set_option maxRecDepth 100000 in
theorem w_V_closed_9 {p : Program} {l : Launch} {e : Env} {s : State} {m : MethodId} {args : Array Value} {below : List Frame} {meth : Method} {c : Code} {Z : bZ} {A : Nat → Prop} {q0 g0 : Nat → Nat} {o : bO Int32}  (C0 : bn_C "FilterBench$Values" b_V_closed 5 Z A p l s m args meth c) (hr : meth.sig.returnType = (some .int)) (hnx : ∀ x ∈ c.exceptionTable.toList, False) : ∀ (n : Nat) (x1 : Int32) (x2 : Int32) (x3 : Int32) (x4 : Int32) (g : Nat → Nat) (v : mS) (q : Nat → Nat) (H : Heap) (locs : List Loc) (ls : Array Slot), f_V_closed_9  n x1 x2 x3 x4 g v = some o → qs q0 q → gL g0 ≤ gL g → gL g ≤ gL o.2.1 → bn_H Z A s (q, g, v) H locs → lv_has ls 5 [(0, .ref (q 1)), (1, .int x1), (2, .int x2), (3, .int x3), (4, .int x4)] → bx_W p l e s m args below meth c Z A q0 g0 enI o 7 g H locs (F0 m 9 ls []) := by
  have hx := C0.1
  have hb := C0.2.1
  have hl0 := C0.2.2.2.2.2.2.2.2.2
  intro n
  induction n with
  | zero =>
    intro x1 x2 x3 x4 g v q H locs ls h hq hm0 hm hH hl
    cases h
  | succ n ih =>
    intro x1 x2 x3 x4 g v q H locs ls h hq hm0 hm hH hl
    rw [f_V_closed_9] at h
    have hcl9 := bx_room (h0 := 7) (o := o) hm0 hm
    refine lv_iload hx hb d_V_closed_9 (lv_at hl 4 rfl) ?_
    refine lv_iload_n hx hb d_V_closed_11 rfl (lv_at hl 1 rfl) ?_
    refine lv_iconst (v := 4) hx hb d_V_closed_12 (by decide) ?_
    refine lv_iadd hx hb d_V_closed_13 ?_
    refine lv_aload_n hx hb d_V_closed_14 rfl (lv_at hl 0 rfl) ?_
    refine bn_g_V_cells ⟨by decide, by decide⟩ C0 hH d_V_closed_15 ?_
    refine lv_iload_n hx hb d_V_closed_18 rfl (lv_at hl 1 rfl) ?_
    refine lv_iconst (v := 1) hx hb d_V_closed_19 (by decide) ?_
    refine lv_iadd hx hb d_V_closed_20 ?_
    obtain ⟨g_1, h⟩ := gd_out h
    refine bn_ld ⟨by decide, by decide⟩ C0 hH (inB_in g_1) d_V_closed_21 ?_
    refine lv_iadd hx hb d_V_closed_22 ?_
    refine lv_icmp_ge (tgt := 68) hx hb d_V_closed_23 (by decide) (fun c_2 => ?_) (fun c_2 => ?_)
    · rw [if_pos c_2] at h
      refine lv_iload_n hx hb d_V_closed_68 rfl (lv_at hl 2 rfl) ?_
      refine lv_bipush (v := 24) hx hb d_V_closed_69 (by decide) ?_
      refine lv_icmp_gt (tgt := 79) hx hb d_V_closed_71 (by decide) (fun c_3 => ?_) (fun c_3 => ?_)
      · rw [if_pos c_3] at h
        exact w_V_closed_79 C0 hr hnx   _ _ _ _ _ _ h hq hm0 hm hH (lv_sub hl [] rfl)
      · rw [if_neg c_3] at h
        refine lv_iload_n hx hb d_V_closed_74 rfl (lv_at hl 3 rfl) ?_
        refine lv_iconst (v := 5) hx hb d_V_closed_75 (by decide) ?_
        refine lv_icmp_ne (tgt := 89) hx hb d_V_closed_76 (by decide) (fun c_4 => ?_) (fun c_4 => ?_)
        · rw [if_neg c_4] at h
          refine lv_aload_n hx hb d_V_closed_89 rfl (lv_at hl 0 rfl) ?_
          refine bn_g_V_cells ⟨by decide, by decide⟩ C0 hH d_V_closed_90 ?_
          refine lv_iload_n hx hb d_V_closed_93 rfl (lv_at hl 1 rfl) ?_
          refine lv_iconst (v := 2) hx hb d_V_closed_94 (by decide) ?_
          refine lv_iadd hx hb d_V_closed_95 ?_
          refine lv_iload_n hx hb d_V_closed_96 rfl (lv_at hl 2 rfl) ?_
          obtain ⟨g_5, h⟩ := gd_out h
          obtain ⟨v_6, hv_6, h⟩ := nm_out h
          refine bn_sto ⟨by decide, by decide⟩ C0 hH (inB_in g_5) d_V_closed_97 (fun H locs hH => ?_)
          have hH : bn_H Z A s (q, g, v_6) H locs := by rw [hv_6]; exact hH
          refine lv_aload_n hx hb d_V_closed_98 rfl (lv_at hl 0 rfl) ?_
          refine bn_g_V_cells ⟨by decide, by decide⟩ C0 hH d_V_closed_99 ?_
          refine lv_iload_n hx hb d_V_closed_102 rfl (lv_at hl 1 rfl) ?_
          refine lv_iconst (v := 3) hx hb d_V_closed_103 (by decide) ?_
          refine lv_iadd hx hb d_V_closed_104 ?_
          refine lv_iload_n hx hb d_V_closed_105 rfl (lv_at hl 3 rfl) ?_
          refine lv_iconst (v := 1) hx hb d_V_closed_106 (by decide) ?_
          refine lv_iadd hx hb d_V_closed_107 ?_
          obtain ⟨g_7, h⟩ := gd_out h
          obtain ⟨v_8, hv_8, h⟩ := nm_out h
          refine bn_sto ⟨by decide, by decide⟩ C0 hH (inB_in g_7) d_V_closed_108 (fun H locs hH => ?_)
          have hH : bn_H Z A s (q, g, v_8) H locs := by rw [hv_8]; exact hH
          refine lv_iload_n hx hb d_V_closed_109 rfl (lv_at hl 1 rfl) ?_
          exact bx_iret C0 hr hq hH hm0 d_V_closed_110 h
        · rw [if_pos c_4] at h
          exact w_V_closed_79 C0 hr hnx   _ _ _ _ _ _ h hq hm0 hm hH (lv_sub hl [] rfl)
    · rw [if_neg c_2] at h
      refine lv_iload_n hx hb d_V_closed_26 rfl (lv_at hl 2 rfl) ?_
      refine lv_aload_n hx hb d_V_closed_27 rfl (lv_at hl 0 rfl) ?_
      refine bn_g_V_cells ⟨by decide, by decide⟩ C0 hH d_V_closed_28 ?_
      refine lv_aload_n hx hb d_V_closed_31 rfl (lv_at hl 0 rfl) ?_
      refine bn_g_V_cells ⟨by decide, by decide⟩ C0 hH d_V_closed_32 ?_
      refine lv_iload hx hb d_V_closed_35 (lv_at hl 4 rfl) ?_
      obtain ⟨g_9, h⟩ := gd_out h
      refine bn_ld ⟨by decide, by decide⟩ C0 hH (inB_in g_9) d_V_closed_37 ?_
      refine lv_iconst (v := 2) hx hb d_V_closed_38 (by decide) ?_
      refine lv_iadd hx hb d_V_closed_39 ?_
      obtain ⟨g_10, h⟩ := gd_out h
      refine bn_ld ⟨by decide, by decide⟩ C0 hH (inB_in g_10) d_V_closed_40 ?_
      refine lv_iadd hx hb d_V_closed_41 ?_
      obtain ⟨x2_11, hx2_11, h⟩ := nm_out h
      refine fu_i hx2_11 ?_
      refine lv_istore_n (lv' := [(2, .int x2_11), (0, .ref (q 1)), (1, .int x1), (3, .int x3), (4, .int x4)]) hx hb d_V_closed_42 rfl hl (by decide) rfl (fun ls hl => ?_)
      refine lv_iload_n hx hb d_V_closed_43 rfl (lv_at hl 3 rfl) ?_
      refine lv_aload_n hx hb d_V_closed_44 rfl (lv_at hl 1 rfl) ?_
      refine bn_g_V_cells ⟨by decide, by decide⟩ C0 hH d_V_closed_45 ?_
      refine lv_aload_n hx hb d_V_closed_48 rfl (lv_at hl 1 rfl) ?_
      refine bn_g_V_cells ⟨by decide, by decide⟩ C0 hH d_V_closed_49 ?_
      refine lv_iload hx hb d_V_closed_52 (lv_at hl 4 rfl) ?_
      obtain ⟨g_12, h⟩ := gd_out h
      refine bn_ld ⟨by decide, by decide⟩ C0 hH (inB_in g_12) d_V_closed_54 ?_
      refine lv_iconst (v := 3) hx hb d_V_closed_55 (by decide) ?_
      refine lv_iadd hx hb d_V_closed_56 ?_
      obtain ⟨g_13, h⟩ := gd_out h
      refine bn_ld ⟨by decide, by decide⟩ C0 hH (inB_in g_13) d_V_closed_57 ?_
      refine va_mmax hx hb (C0.2.2.2.2.2.1.trans hl.1.symm) C0.2.2.1 (C0.2.2.2.1 _ q_625) (C0.2.2.2.1 _ q_626) (C0.2.2.2.1 _ q_115) (C0.2.2.2.1 _ q_627) (by first | exact Nat.le_of_ble_eq_true rfl | (simp [bn_rm]; omega)) (by first | exact Nat.le_of_ble_eq_true rfl | (simp [bn_rm]; omega)) hcl9.1 hcl9.2 d_V_closed_58 ?_
      obtain ⟨x3_14, hx3_14, h⟩ := nm_out h
      refine fu_i hx3_14 ?_
      refine lv_istore_n (lv' := [(3, .int x3_14), (2, .int x2_11), (0, .ref (q 1)), (1, .int x1), (4, .int x4)]) hx hb d_V_closed_61 rfl hl (by decide) rfl (fun ls hl => ?_)
      obtain ⟨x4_15, hx4_15, h⟩ := nm_out h
      refine lv_iinc (v := x4_15) (lv' := [(4, .int x4_15), (3, .int x3_14), (2, .int x2_11), (0, .ref (q 1)), (1, .int x1)]) hx hb d_V_closed_62 hl (k := 4) rfl (by rw [hx4_15]; rfl) (by decide) rfl (fun ls hl => ?_)
      refine lv_goto (tgt := 9) hx hb d_V_closed_65 (by decide) ?_
      exact ih _ _ _ _ _ _ _ _ _ _ h hq hm0 hm hH (lv_sub hl [3, 4, 2, 1, 0] rfl)
def f_V_closed (g : Nat → Nat) (v : mS) (x1 : Int32) : Option (bO Int32) := mg g (nm (x1 + 4) fun x4_1 => f_V_closed_9 fu x1 1 0 x4_1 g v)
theorem mn_V_closed {g : Nat → Nat} {v : mS}  {x1 : Int32} {o : bO Int32} (h : f_V_closed g v x1 = some o) : gL g ≤ gL o.2.1 := (mg_out h).1
set_option maxHeartbeats 4000000 in
set_option maxRecDepth 100000 in
theorem c_V_closed {l : Launch} {Z : bZ} (hl0 : l.stackTraces = false) {q g : Nat → Nat} {v : mS}  {x1 : Int32} {o : bO Int32} (h : f_V_closed g v x1 = some o) : bx_M l Z 7 y_V_closed b_V_closed 5 (some .int) [.ref (q 1), .int x1] q g v enI o := by
  refine bx_of hl0 (by decide +kernel) (Nat.le_of_ble_eq_true rfl) ?_
  intro p e s m args below meth c A ls C0 hr hnx hl hH
  have hx := C0.1
  have hb := C0.2.1
  have C0 : bn_C "FilterBench$Values" b_V_closed 5 Z A p l s m args meth c := C0
  have hl : lv_has ls 5 [(0, .ref (q 1)), (1, .int x1)] := hl
  obtain ⟨hm, h⟩ := mg_out h
  have hm0 : gL g ≤ gL g := Nat.le_refl _
  have hq : qs q q := qs.rf
  have hcl9 := bx_room (h0 := 7) (o := o) hm0 hm
  refine lv_iconst (v := 1) hx hb d_V_closed_0 (by decide) ?_
  refine lv_istore_n (lv' := [(2, .int 1), (0, .ref (q 1)), (1, .int x1)]) hx hb d_V_closed_1 rfl hl (by decide) rfl (fun ls hl => ?_)
  refine lv_iconst (v := 0) hx hb d_V_closed_2 (by decide) ?_
  refine lv_istore_n (lv' := [(3, .int 0), (2, .int 1), (0, .ref (q 1)), (1, .int x1)]) hx hb d_V_closed_3 rfl hl (by decide) rfl (fun ls hl => ?_)
  refine lv_iload_n hx hb d_V_closed_4 rfl (lv_at hl 3 rfl) ?_
  refine lv_iconst (v := 4) hx hb d_V_closed_5 (by decide) ?_
  refine lv_iadd hx hb d_V_closed_6 ?_
  obtain ⟨x4_1, hx4_1, h⟩ := nm_out h
  refine fu_i hx4_1 ?_
  refine lv_istore (lv' := [(4, .int x4_1), (3, .int 0), (2, .int 1), (0, .ref (q 1)), (1, .int x1)]) hx hb d_V_closed_7 hl (by decide) rfl (fun ls hl => ?_)
  exact w_V_closed_9 C0 hr hnx  fu _ _ _ _ _ _ _ _ _ _ h hq hm0 hm hH (lv_sub hl [3, 4, 2, 1, 0] rfl)
def f_B_require (g : Nat → Nat) (v : mS) (x0 : Int32) : Option (bO Unit) := mg g (if x0 = 0 then (some (.inr 0, g, v)) else (some (.inl (), g, v)))
theorem mn_B_require {g : Nat → Nat} {v : mS}  {x0 : Int32} {o : bO Unit} (h : f_B_require g v x0 = some o) : gL g ≤ gL o.2.1 := (mg_out h).1
set_option maxHeartbeats 4000000 in
set_option maxRecDepth 100000 in
theorem c_B_require {l : Launch} {Z : bZ} (hl0 : l.stackTraces = false) {q g : Nat → Nat} {v : mS}  {x0 : Int32} {o : bO Unit} (h : f_B_require g v x0 = some o) : bx_M l Z 6 y_B_require b_B_require 1 none [.int x0] q g v enV o := by
  refine bx_of hl0 (by decide +kernel) (Nat.le_of_ble_eq_true rfl) ?_
  intro p e s m args below meth c A ls C0 hr hnx hl hH
  have hx := C0.1
  have hb := C0.2.1
  have C0 : bn_C "FilterBench" b_B_require 1 Z A p l s m args meth c := C0
  have hl : lv_has ls 1 [(0, .int x0)] := hl
  obtain ⟨hm, h⟩ := mg_out h
  have hm0 : gL g ≤ gL g := Nat.le_refl _
  have hq : qs q q := qs.rf
  have hcl9 := bx_room (h0 := 6) (o := o) hm0 hm
  refine lv_iload_n hx hb d_B_require_0 rfl (lv_at hl 0 rfl) ?_
  refine lv_if_ne (tgt := 14) hx hb d_B_require_1 (by decide) (fun c_1 => ?_) (fun c_1 => ?_)
  · rw [if_neg c_1] at h
    exact bx_vret C0 hr hq hH hm0 d_B_require_14 h
  · rw [if_pos c_1] at h
    exact bx_throw (k := 0) (i := 0) (cls := "java/lang/IllegalArgumentException") (rest := []) C0 hnx hq hH hm0 (by decide +kernel) rfl q_290 q_113 rfl tw_B_194.1 tw_B_194.2.1 tw_B_194.2.2 (by decide +kernel) hl.1 d_B_require_4 d_B_require_7 d_B_require_8 d_B_require_10 d_B_require_13 (Nat.le_of_ble_eq_true rfl) (Nat.le_of_ble_eq_true rfl) h
