/-! methods of the class that may throw or make (by program: wip/gen/xgen.py) -/
def f_V_joined_89  (y0 : Int32) (g : Nat → Nat) (v : mS) : Option (bO Int32) := some (.inl (y0), g, v)
set_option maxHeartbeats 4000000 in
set_option maxRecDepth 100000 in
theorem w_V_joined_89 {p : Program} {l : Launch} {e : Env} {s : State} {m : MethodId} {args : Array Value} {below : List Frame} {meth : Method} {c : Code} {Z : bZ} {A : Nat → Prop} {q0 g0 : Nat → Nat} {o : bO Int32}  (C0 : bn_C "FilterBench$Values" b_V_joined 4 Z A p l s m args meth c) (hr : meth.sig.returnType = (some .int)) (hnx : ∀ x ∈ c.exceptionTable.toList, False) : ∀ (y0 : Int32) (g : Nat → Nat) (v : mS) (q : Nat → Nat) (H : Heap) (locs : List Loc) (ls : Array Slot), f_V_joined_89  y0 g v = some o → qs q0 q → gL g0 ≤ gL g → gL g ≤ gL o.2.1 → bn_H Z A s (q, g, v) H locs → lv_has ls 4 [] → bx_W p l e s m args below meth c Z A q0 g0 enI o 8 g H locs (F0 m 89 ls [.int y0]) := by
  have hx := C0.1
  have hb := C0.2.1
  have hl0 := C0.2.2.2.2.2.2.2.2.2
  intro y0 g v q H locs ls h hq hm0 hm hH hl
  unfold f_V_joined_89 at h
  have hcl9 := bx_room (h0 := 8) (o := o) hm0 hm
  exact bx_iret C0 hr hq hH hm0 d_V_joined_89 h
def f_V_joined_85  (y0 : Int32) (g : Nat → Nat) (v : mS) : Option (bO Int32) := f_V_joined_89 y0 g v
set_option maxHeartbeats 4000000 in
set_option maxRecDepth 100000 in
theorem w_V_joined_85 {p : Program} {l : Launch} {e : Env} {s : State} {m : MethodId} {args : Array Value} {below : List Frame} {meth : Method} {c : Code} {Z : bZ} {A : Nat → Prop} {q0 g0 : Nat → Nat} {o : bO Int32}  (C0 : bn_C "FilterBench$Values" b_V_joined 4 Z A p l s m args meth c) (hr : meth.sig.returnType = (some .int)) (hnx : ∀ x ∈ c.exceptionTable.toList, False) : ∀ (y0 : Int32) (g : Nat → Nat) (v : mS) (q : Nat → Nat) (H : Heap) (locs : List Loc) (ls : Array Slot), f_V_joined_85  y0 g v = some o → qs q0 q → gL g0 ≤ gL g → gL g ≤ gL o.2.1 → bn_H Z A s (q, g, v) H locs → lv_has ls 4 [] → bx_W p l e s m args below meth c Z A q0 g0 enI o 8 g H locs (F0 m 85 ls [.int y0]) := by
  have hx := C0.1
  have hb := C0.2.1
  have hl0 := C0.2.2.2.2.2.2.2.2.2
  intro y0 g v q H locs ls h hq hm0 hm hH hl
  unfold f_V_joined_85 at h
  have hcl9 := bx_room (h0 := 8) (o := o) hm0 hm
  refine lv_goto (tgt := 89) hx hb d_V_joined_85 (by decide) ?_
  exact w_V_joined_89 C0 hr hnx  _ _ _ _ _ _ _ h hq hm0 hm hH (lv_sub hl [] rfl)
def f_V_joined_20  (x1 : Int32) (x2 : Int32) (y0 : Int32) (g : Nat → Nat) (v : mS) : Option (bO Int32) := bi (f_V_lengthOf g v x1) fun r_3 v_1 => gd (cpB (x1 + 4) (y0 + 4) r_3 (g 4) (g 4)) (nm (sC v_1 4 4 (x1 + 4 : Int32).toNatClampNeg (y0 + 4 : Int32).toNatClampNeg (r_3 : Int32).toNatClampNeg) fun v_5 => bi (f_V_lengthOf g v_5 x1) fun r_8 v_6 => bi (f_V_lengthOf g v_6 x2) fun r_11 v_9 => gd (cpB (x2 + 4) ((y0 + 4) + r_8) r_11 (g 4) (g 4)) (nm (sC v_9 4 4 (x2 + 4 : Int32).toNatClampNeg ((y0 + 4) + r_8 : Int32).toNatClampNeg (r_11 : Int32).toNatClampNeg) fun v_13 => bi (f_V_kindOf g v_13 x1) fun r_16 v_14 => if r_16 = 5 then (bo (f_V_closed g v_14 y0) fun r9 g9 v9 => f_V_joined_85 r9 g9 v9) else (f_V_joined_89 y0 g v_14)))
set_option maxHeartbeats 4000000 in
set_option maxRecDepth 100000 in
theorem w_V_joined_20 {p : Program} {l : Launch} {e : Env} {s : State} {m : MethodId} {args : Array Value} {below : List Frame} {meth : Method} {c : Code} {Z : bZ} {A : Nat → Prop} {q0 g0 : Nat → Nat} {o : bO Int32}  (C0 : bn_C "FilterBench$Values" b_V_joined 4 Z A p l s m args meth c) (hr : meth.sig.returnType = (some .int)) (hnx : ∀ x ∈ c.exceptionTable.toList, False) : ∀ (x1 : Int32) (x2 : Int32) (y0 : Int32) (g : Nat → Nat) (v : mS) (q : Nat → Nat) (H : Heap) (locs : List Loc) (ls : Array Slot), f_V_joined_20  x1 x2 y0 g v = some o → qs q0 q → gL g0 ≤ gL g → gL g ≤ gL o.2.1 → bn_H Z A s (q, g, v) H locs → lv_has ls 4 [(0, .ref (q 1)), (1, .int x1), (2, .int x2)] → bx_W p l e s m args below meth c Z A q0 g0 enI o 8 g H locs (F0 m 20 ls [.int y0]) := by
  have hx := C0.1
  have hb := C0.2.1
  have hl0 := C0.2.2.2.2.2.2.2.2.2
  intro x1 x2 y0 g v q H locs ls h hq hm0 hm hH hl
  unfold f_V_joined_20 at h
  have hcl9 := bx_room (h0 := 8) (o := o) hm0 hm
  refine lv_istore_n (lv' := [(3, .int y0), (0, .ref (q 1)), (1, .int x1), (2, .int x2)]) hx hb d_V_joined_20 rfl hl (by decide) rfl (fun ls hl => ?_)
  refine lv_aload_n hx hb d_V_joined_21 rfl (lv_at hl 1 rfl) ?_
  refine bn_g_V_cells ⟨by decide, by decide⟩ C0 hH d_V_joined_22 ?_
  refine lv_iload_n hx hb d_V_joined_25 rfl (lv_at hl 2 rfl) ?_
  refine lv_iconst (v := 4) hx hb d_V_joined_26 (by decide) ?_
  refine lv_iadd hx hb d_V_joined_27 ?_
  refine lv_aload_n hx hb d_V_joined_28 rfl (lv_at hl 1 rfl) ?_
  refine bn_g_V_cells ⟨by decide, by decide⟩ C0 hH d_V_joined_29 ?_
  refine lv_iload_n hx hb d_V_joined_32 rfl (lv_at hl 0 rfl) ?_
  refine lv_iconst (v := 4) hx hb d_V_joined_33 (by decide) ?_
  refine lv_iadd hx hb d_V_joined_34 ?_
  refine lv_aload_n hx hb d_V_joined_35 rfl (lv_at hl 1 rfl) ?_
  refine lv_iload_n hx hb d_V_joined_36 rfl (lv_at hl 2 rfl) ?_
  obtain ⟨r_3, v_1, hc_2, h⟩ := bi_out h
  refine bn_ci (r := r_3) (w := (q, g, v_1)) (as := [.int x1]) (rest := [.int (y0 + 4), .ref (q 4), .int (x1 + 4), .ref (q 4)]) C0 hH (ci := 4) ⟨by decide, by decide⟩ (by decide) rfl (c_V_lengthOf hl0 hc_2) yy_V_lengthOf q_383 ⟨by simp only [bn_rm, dK]; omega, by simp only [bn_rm, dK]; omega⟩ rfl hl.1 rfl (Nat.le_of_ble_eq_true rfl) hcl9 d_V_joined_37 (fun H locs hH => ?_)
  obtain ⟨g_4, h⟩ := gd_out h
  obtain ⟨v_5, hv_5, h⟩ := nm_out h
  refine bn_copy ⟨by decide, by decide⟩ ⟨by decide, by decide⟩ C0 hH rfl rfl g_4 q_405 q_403 q_116 hl.1 (Nat.le_of_ble_eq_true rfl) (Nat.le_of_ble_eq_true rfl) d_V_joined_40 (fun H locs hH => ?_)
  have hH : bn_H Z A s (q, g, v_5) H locs := by rw [hv_5]; exact hH
  refine lv_aload_n hx hb d_V_joined_43 rfl (lv_at hl 1 rfl) ?_
  refine bn_g_V_cells ⟨by decide, by decide⟩ C0 hH d_V_joined_44 ?_
  refine lv_iload_n hx hb d_V_joined_47 rfl (lv_at hl 3 rfl) ?_
  refine lv_iconst (v := 4) hx hb d_V_joined_48 (by decide) ?_
  refine lv_iadd hx hb d_V_joined_49 ?_
  refine lv_aload_n hx hb d_V_joined_50 rfl (lv_at hl 1 rfl) ?_
  refine bn_g_V_cells ⟨by decide, by decide⟩ C0 hH d_V_joined_51 ?_
  refine lv_iload_n hx hb d_V_joined_54 rfl (lv_at hl 0 rfl) ?_
  refine lv_iconst (v := 4) hx hb d_V_joined_55 (by decide) ?_
  refine lv_iadd hx hb d_V_joined_56 ?_
  refine lv_aload_n hx hb d_V_joined_57 rfl (lv_at hl 1 rfl) ?_
  refine lv_iload_n hx hb d_V_joined_58 rfl (lv_at hl 2 rfl) ?_
  obtain ⟨r_8, v_6, hc_7, h⟩ := bi_out h
  refine bn_ci (r := r_8) (w := (q, g, v_6)) (as := [.int x1]) (rest := [.int (y0 + 4), .ref (q 4), .int (x2 + 4), .ref (q 4)]) C0 hH (ci := 4) ⟨by decide, by decide⟩ (by decide) rfl (c_V_lengthOf hl0 hc_7) yy_V_lengthOf q_383 ⟨by simp only [bn_rm, dK]; omega, by simp only [bn_rm, dK]; omega⟩ rfl hl.1 rfl (Nat.le_of_ble_eq_true rfl) hcl9 d_V_joined_59 (fun H locs hH => ?_)
  refine lv_iadd hx hb d_V_joined_62 ?_
  refine lv_aload_n hx hb d_V_joined_63 rfl (lv_at hl 1 rfl) ?_
  refine lv_iload_n hx hb d_V_joined_64 rfl (lv_at hl 3 rfl) ?_
  obtain ⟨r_11, v_9, hc_10, h⟩ := bi_out h
  refine bn_ci (r := r_11) (w := (q, g, v_9)) (as := [.int x2]) (rest := [.int ((y0 + 4) + r_8), .ref (q 4), .int (x2 + 4), .ref (q 4)]) C0 hH (ci := 4) ⟨by decide, by decide⟩ (by decide) rfl (c_V_lengthOf hl0 hc_10) yy_V_lengthOf q_383 ⟨by simp only [bn_rm, dK]; omega, by simp only [bn_rm, dK]; omega⟩ rfl hl.1 rfl (Nat.le_of_ble_eq_true rfl) hcl9 d_V_joined_65 (fun H locs hH => ?_)
  obtain ⟨g_12, h⟩ := gd_out h
  obtain ⟨v_13, hv_13, h⟩ := nm_out h
  refine bn_copy ⟨by decide, by decide⟩ ⟨by decide, by decide⟩ C0 hH rfl rfl g_12 q_405 q_403 q_116 hl.1 (Nat.le_of_ble_eq_true rfl) (Nat.le_of_ble_eq_true rfl) d_V_joined_68 (fun H locs hH => ?_)
  have hH : bn_H Z A s (q, g, v_13) H locs := by rw [hv_13]; exact hH
  refine lv_aload_n hx hb d_V_joined_71 rfl (lv_at hl 1 rfl) ?_
  refine lv_iload_n hx hb d_V_joined_72 rfl (lv_at hl 2 rfl) ?_
  obtain ⟨r_16, v_14, hc_15, h⟩ := bi_out h
  refine bn_ci (r := r_16) (w := (q, g, v_14)) (as := [.int x1]) (rest := []) C0 hH (ci := 4) ⟨by decide, by decide⟩ (by decide) rfl (c_V_kindOf hl0 hc_15) yy_V_kindOf q_519 ⟨by simp only [bn_rm, dK]; omega, by simp only [bn_rm, dK]; omega⟩ rfl hl.1 rfl (Nat.le_of_ble_eq_true rfl) hcl9 d_V_joined_73 (fun H locs hH => ?_)
  refine lv_iconst (v := 5) hx hb d_V_joined_76 (by decide) ?_
  refine lv_icmp_ne (tgt := 88) hx hb d_V_joined_77 (by decide) (fun c_17 => ?_) (fun c_17 => ?_)
  · rw [if_neg c_17] at h
    refine lv_iload_n hx hb d_V_joined_88 rfl (lv_at hl 0 rfl) ?_
    exact w_V_joined_89 C0 hr hnx  _ _ _ _ _ _ _ h hq hm0 hm hH (lv_sub hl [] rfl)
  · rw [if_pos c_17] at h
    refine lv_aload_n hx hb d_V_joined_80 rfl (lv_at hl 1 rfl) ?_
    refine lv_iload_n hx hb d_V_joined_81 rfl (lv_at hl 0 rfl) ?_
    obtain ⟨o1, hc, hm2, ht9, hx1, hk9⟩ := bo_out h
    have hm1 := mn_V_closed hc
    refine bx_cV (as := [.int y0]) (rest := []) C0 hnx hq hH hm0 hm1 hm2 ht9 (ci := 4) ⟨by decide, by decide⟩ (by decide) rfl (c_V_closed hl0 hc) yy_V_closed q_621 ⟨by first | omega | (simp only [dK]; omega), by first | omega | (simp only [dK]; omega)⟩ rfl hl.1 rfl (Nat.le_of_ble_eq_true rfl) d_V_joined_82 hx1 (fun r9 q1 H locs hr1 hq0 hq1 hm9 hH => ?_)
    have h := hk9 r9 hr1
    exact w_V_joined_85 C0 hr hnx  _ _ _ _ _ _ _ h hq0 hm9 hm2 hH (lv_sub hl [] rfl)
def f_V_joined (g : Nat → Nat) (v : mS) (x1 : Int32) (x2 : Int32) : Option (bO Int32) := mg g (bi (f_V_kindOf g v x1) fun r_3 v_1 => bi (f_V_lengthOf g v_1 x1) fun r_6 v_4 => bi (f_V_lengthOf g v_4 x2) fun r_9 v_7 => bo (f_V_open g v_7 r_3 (r_6 + r_9)) fun r9 g9 v9 => f_V_joined_20 x1 x2 r9 g9 v9)
theorem mn_V_joined {g : Nat → Nat} {v : mS}  {x1 : Int32} {x2 : Int32} {o : bO Int32} (h : f_V_joined g v x1 x2 = some o) : gL g ≤ gL o.2.1 := (mg_out h).1
set_option maxHeartbeats 4000000 in
set_option maxRecDepth 100000 in
theorem c_V_joined {l : Launch} {Z : bZ} (hl0 : l.stackTraces = false) {q g : Nat → Nat} {v : mS}  {x1 : Int32} {x2 : Int32} {o : bO Int32} (h : f_V_joined g v x1 x2 = some o) : bx_M l Z 8 y_V_joined b_V_joined 4 (some .int) [.ref (q 1), .int x1, .int x2] q g v enI o := by
  refine bx_of hl0 (by decide +kernel) (Nat.le_of_ble_eq_true rfl) ?_
  intro p e s m args below meth c A ls C0 hr hnx hl hH
  have hx := C0.1
  have hb := C0.2.1
  have C0 : bn_C "FilterBench$Values" b_V_joined 4 Z A p l s m args meth c := C0
  have hl : lv_has ls 4 [(0, .ref (q 1)), (1, .int x1), (2, .int x2)] := hl
  obtain ⟨hm, h⟩ := mg_out h
  have hm0 : gL g ≤ gL g := Nat.le_refl _
  have hq : qs q q := qs.rf
  have hcl9 := bx_room (h0 := 8) (o := o) hm0 hm
  refine lv_aload_n hx hb d_V_joined_0 rfl (lv_at hl 0 rfl) ?_
  refine lv_aload_n hx hb d_V_joined_1 rfl (lv_at hl 0 rfl) ?_
  refine lv_iload_n hx hb d_V_joined_2 rfl (lv_at hl 1 rfl) ?_
  obtain ⟨r_3, v_1, hc_2, h⟩ := bi_out h
  refine bn_ci (r := r_3) (w := (q, g, v_1)) (as := [.int x1]) (rest := [.ref (q 1)]) C0 hH (ci := 4) ⟨by decide, by decide⟩ (by decide) rfl (c_V_kindOf hl0 hc_2) yy_V_kindOf q_519 ⟨by simp only [bn_rm, dK]; omega, by simp only [bn_rm, dK]; omega⟩ rfl hl.1 rfl (Nat.le_of_ble_eq_true rfl) hcl9 d_V_joined_3 (fun H locs hH => ?_)
  refine lv_aload_n hx hb d_V_joined_6 rfl (lv_at hl 0 rfl) ?_
  refine lv_iload_n hx hb d_V_joined_7 rfl (lv_at hl 1 rfl) ?_
  obtain ⟨r_6, v_4, hc_5, h⟩ := bi_out h
  refine bn_ci (r := r_6) (w := (q, g, v_4)) (as := [.int x1]) (rest := [.int r_3, .ref (q 1)]) C0 hH (ci := 4) ⟨by decide, by decide⟩ (by decide) rfl (c_V_lengthOf hl0 hc_5) yy_V_lengthOf q_383 ⟨by simp only [bn_rm, dK]; omega, by simp only [bn_rm, dK]; omega⟩ rfl hl.1 rfl (Nat.le_of_ble_eq_true rfl) hcl9 d_V_joined_8 (fun H locs hH => ?_)
  refine lv_aload_n hx hb d_V_joined_11 rfl (lv_at hl 0 rfl) ?_
  refine lv_iload_n hx hb d_V_joined_12 rfl (lv_at hl 2 rfl) ?_
  obtain ⟨r_9, v_7, hc_8, h⟩ := bi_out h
  refine bn_ci (r := r_9) (w := (q, g, v_7)) (as := [.int x2]) (rest := [.int r_6, .int r_3, .ref (q 1)]) C0 hH (ci := 4) ⟨by decide, by decide⟩ (by decide) rfl (c_V_lengthOf hl0 hc_8) yy_V_lengthOf q_383 ⟨by simp only [bn_rm, dK]; omega, by simp only [bn_rm, dK]; omega⟩ rfl hl.1 rfl (Nat.le_of_ble_eq_true rfl) hcl9 d_V_joined_13 (fun H locs hH => ?_)
  refine lv_iadd hx hb d_V_joined_16 ?_
  obtain ⟨o1, hc, hm2, ht9, hx1, hk9⟩ := bo_out h
  have hm1 := mn_V_open hc
  refine bx_cV (as := [.int r_3, .int (r_6 + r_9)]) (rest := []) C0 hnx hq hH hm0 hm1 hm2 ht9 (ci := 4) ⟨by decide, by decide⟩ (by decide) rfl (c_V_open hl0 hc) yy_V_open q_384 ⟨by first | omega | (simp only [dK]; omega), by first | omega | (simp only [dK]; omega)⟩ rfl hl.1 rfl (Nat.le_of_ble_eq_true rfl) d_V_joined_17 hx1 (fun r9 q1 H locs hr1 hq0 hq1 hm9 hH => ?_)
  have h := hk9 r9 hr1
  have e9 : q1 1 = q 1 := (hq1 1 (by decide) (by decide))
  try rw [← e9] at hl
  try rw [← e9]
  exact w_V_joined_20 C0 hr hnx  _ _ _ _ _ _ _ _ _ h hq0 hm9 hm2 hH (lv_sub hl [0, 1, 2] rfl)
def f_V_merged_181 (K8 : Int32 → Int32 → Int32 → Int32 → Int32 → (Nat → Nat) → mS → Option (bO Int32)) (x1 : Int32) (x2 : Int32) (x3 : Int32) (x5 : Int32) (y0 : Int32) (y1 : Int32) (g : Nat → Nat) (v : mS) : Option (bO Int32) := nm (y0 + y1) fun x4_1 => K8 x1 x2 x3 x4_1 x5 g v
set_option maxHeartbeats 4000000 in
set_option maxRecDepth 100000 in
theorem w_V_merged_181 {p : Program} {l : Launch} {e : Env} {s : State} {m : MethodId} {args : Array Value} {below : List Frame} {meth : Method} {c : Code} {Z : bZ} {A : Nat → Prop} {q0 g0 : Nat → Nat} {o : bO Int32}  (C0 : bn_C "FilterBench$Values" b_V_merged 9 Z A p l s m args meth c) (hr : meth.sig.returnType = (some .int)) (hnx : ∀ x ∈ c.exceptionTable.toList, False) {K8 : Int32 → Int32 → Int32 → Int32 → Int32 → (Nat → Nat) → mS → Option (bO Int32)} (hK8 : ∀ (x1 : Int32) (x2 : Int32) (x3 : Int32) (x4 : Int32) (x5 : Int32) (g : Nat → Nat) (v : mS) (q : Nat → Nat) (H : Heap) (locs : List Loc) (ls : Array Slot), K8 x1 x2 x3 x4 x5 g v = some o → qs q0 q → gL g0 ≤ gL g → gL g ≤ gL o.2.1 → bn_H Z A s (q, g, v) H locs → lv_has ls 9 [(0, .ref (q 1)), (1, .int x1), (2, .int x2), (3, .int x3), (4, .int x4), (5, .int x5)] → bx_W p l e s m args below meth c Z A q0 g0 enI o 8 g H locs (F0 m 8 ls [])) : ∀ (x1 : Int32) (x2 : Int32) (x3 : Int32) (x5 : Int32) (y0 : Int32) (y1 : Int32) (g : Nat → Nat) (v : mS) (q : Nat → Nat) (H : Heap) (locs : List Loc) (ls : Array Slot), f_V_merged_181 K8 x1 x2 x3 x5 y0 y1 g v = some o → qs q0 q → gL g0 ≤ gL g → gL g ≤ gL o.2.1 → bn_H Z A s (q, g, v) H locs → lv_has ls 9 [(0, .ref (q 1)), (1, .int x1), (2, .int x2), (3, .int x3), (5, .int x5)] → bx_W p l e s m args below meth c Z A q0 g0 enI o 8 g H locs (F0 m 181 ls [.int y1, .int y0]) := by
  have hx := C0.1
  have hb := C0.2.1
  have hl0 := C0.2.2.2.2.2.2.2.2.2
  intro x1 x2 x3 x5 y0 y1 g v q H locs ls h hq hm0 hm hH hl
  unfold f_V_merged_181 at h
  have hcl9 := bx_room (h0 := 8) (o := o) hm0 hm
  refine lv_iadd hx hb d_V_merged_181 ?_
  obtain ⟨x4_1, hx4_1, h⟩ := nm_out h
  refine fu_i hx4_1 ?_
  refine lv_istore (lv' := [(4, .int x4_1), (0, .ref (q 1)), (1, .int x1), (2, .int x2), (3, .int x3), (5, .int x5)]) hx hb d_V_merged_182 hl (by decide) rfl (fun ls hl => ?_)
  refine lv_goto (tgt := 8) hx hb d_V_merged_184 (by decide) ?_
  exact hK8 _ _ _ _ _ _ _ _ _ _ _ h hq hm0 hm hH (lv_sub hl [1, 2, 3, 4, 0, 5] rfl)
def f_V_merged_167 (K8 : Int32 → Int32 → Int32 → Int32 → Int32 → (Nat → Nat) → mS → Option (bO Int32)) (x1 : Int32) (x2 : Int32) (x4 : Int32) (x5 : Int32) (x8 : Int32) (y0 : Int32) (y1 : Int32) (g : Nat → Nat) (v : mS) : Option (bO Int32) := nm (y0 + y1) fun x3_1 => if x8 < 0 then (f_V_merged_181 K8 x1 x2 x3_1 x5 x4 0 g v) else (f_V_merged_181 K8 x1 x2 x3_1 x5 x4 1 g v)
set_option maxHeartbeats 4000000 in
set_option maxRecDepth 100000 in
theorem w_V_merged_167 {p : Program} {l : Launch} {e : Env} {s : State} {m : MethodId} {args : Array Value} {below : List Frame} {meth : Method} {c : Code} {Z : bZ} {A : Nat → Prop} {q0 g0 : Nat → Nat} {o : bO Int32}  (C0 : bn_C "FilterBench$Values" b_V_merged 9 Z A p l s m args meth c) (hr : meth.sig.returnType = (some .int)) (hnx : ∀ x ∈ c.exceptionTable.toList, False) {K8 : Int32 → Int32 → Int32 → Int32 → Int32 → (Nat → Nat) → mS → Option (bO Int32)} (hK8 : ∀ (x1 : Int32) (x2 : Int32) (x3 : Int32) (x4 : Int32) (x5 : Int32) (g : Nat → Nat) (v : mS) (q : Nat → Nat) (H : Heap) (locs : List Loc) (ls : Array Slot), K8 x1 x2 x3 x4 x5 g v = some o → qs q0 q → gL g0 ≤ gL g → gL g ≤ gL o.2.1 → bn_H Z A s (q, g, v) H locs → lv_has ls 9 [(0, .ref (q 1)), (1, .int x1), (2, .int x2), (3, .int x3), (4, .int x4), (5, .int x5)] → bx_W p l e s m args below meth c Z A q0 g0 enI o 8 g H locs (F0 m 8 ls [])) : ∀ (x1 : Int32) (x2 : Int32) (x4 : Int32) (x5 : Int32) (x8 : Int32) (y0 : Int32) (y1 : Int32) (g : Nat → Nat) (v : mS) (q : Nat → Nat) (H : Heap) (locs : List Loc) (ls : Array Slot), f_V_merged_167 K8 x1 x2 x4 x5 x8 y0 y1 g v = some o → qs q0 q → gL g0 ≤ gL g → gL g ≤ gL o.2.1 → bn_H Z A s (q, g, v) H locs → lv_has ls 9 [(0, .ref (q 1)), (1, .int x1), (2, .int x2), (4, .int x4), (5, .int x5), (8, .int x8)] → bx_W p l e s m args below meth c Z A q0 g0 enI o 8 g H locs (F0 m 167 ls [.int y1, .int y0]) := by
  have hx := C0.1
  have hb := C0.2.1
  have hl0 := C0.2.2.2.2.2.2.2.2.2
  intro x1 x2 x4 x5 x8 y0 y1 g v q H locs ls h hq hm0 hm hH hl
  unfold f_V_merged_167 at h
  have hcl9 := bx_room (h0 := 8) (o := o) hm0 hm
  refine lv_iadd hx hb d_V_merged_167 ?_
  obtain ⟨x3_1, hx3_1, h⟩ := nm_out h
  refine fu_i hx3_1 ?_
  refine lv_istore_n (lv' := [(3, .int x3_1), (0, .ref (q 1)), (1, .int x1), (2, .int x2), (4, .int x4), (5, .int x5), (8, .int x8)]) hx hb d_V_merged_168 rfl hl (by decide) rfl (fun ls hl => ?_)
  refine lv_iload hx hb d_V_merged_169 (lv_at hl 4 rfl) ?_
  refine lv_iload hx hb d_V_merged_171 (lv_at hl 6 rfl) ?_
  refine lv_if_lt (tgt := 180) hx hb d_V_merged_173 (by decide) (fun c_2 => ?_) (fun c_2 => ?_)
  · rw [if_pos c_2] at h
    refine lv_iconst (v := 0) hx hb d_V_merged_180 (by decide) ?_
    exact w_V_merged_181 C0 hr hnx hK8 _ _ _ _ _ _ _ _ _ _ _ _ h hq hm0 hm hH (lv_sub hl [1, 2, 3, 0, 5] rfl)
  · rw [if_neg c_2] at h
    refine lv_iconst (v := 1) hx hb d_V_merged_176 (by decide) ?_
    refine lv_goto (tgt := 181) hx hb d_V_merged_177 (by decide) ?_
    exact w_V_merged_181 C0 hr hnx hK8 _ _ _ _ _ _ _ _ _ _ _ _ h hq hm0 hm hH (lv_sub hl [1, 2, 3, 0, 5] rfl)
def f_V_merged_152 (K8 : Int32 → Int32 → Int32 → Int32 → Int32 → (Nat → Nat) → mS → Option (bO Int32)) (x1 : Int32) (x2 : Int32) (x3 : Int32) (x4 : Int32) (x5 : Int32) (x8 : Int32) (y1 : Int32) (y2 : Int32) (g : Nat → Nat) (v : mS) : Option (bO Int32) := gd (inB y1 24) (nm (sU v 2 (y1 : Int32).toNatClampNeg y2) fun v_2 => nm (x5 + 1) fun x5_3 => if 0 < x8 then (f_V_merged_167 K8 x1 x2 x4 x5_3 x8 x3 0 g v_2) else (f_V_merged_167 K8 x1 x2 x4 x5_3 x8 x3 1 g v_2))
set_option maxHeartbeats 4000000 in
set_option maxRecDepth 100000 in
theorem w_V_merged_152 {p : Program} {l : Launch} {e : Env} {s : State} {m : MethodId} {args : Array Value} {below : List Frame} {meth : Method} {c : Code} {Z : bZ} {A : Nat → Prop} {q0 g0 : Nat → Nat} {o : bO Int32}  (C0 : bn_C "FilterBench$Values" b_V_merged 9 Z A p l s m args meth c) (hr : meth.sig.returnType = (some .int)) (hnx : ∀ x ∈ c.exceptionTable.toList, False) {K8 : Int32 → Int32 → Int32 → Int32 → Int32 → (Nat → Nat) → mS → Option (bO Int32)} (hK8 : ∀ (x1 : Int32) (x2 : Int32) (x3 : Int32) (x4 : Int32) (x5 : Int32) (g : Nat → Nat) (v : mS) (q : Nat → Nat) (H : Heap) (locs : List Loc) (ls : Array Slot), K8 x1 x2 x3 x4 x5 g v = some o → qs q0 q → gL g0 ≤ gL g → gL g ≤ gL o.2.1 → bn_H Z A s (q, g, v) H locs → lv_has ls 9 [(0, .ref (q 1)), (1, .int x1), (2, .int x2), (3, .int x3), (4, .int x4), (5, .int x5)] → bx_W p l e s m args below meth c Z A q0 g0 enI o 8 g H locs (F0 m 8 ls [])) : ∀ (x1 : Int32) (x2 : Int32) (x3 : Int32) (x4 : Int32) (x5 : Int32) (x8 : Int32) (y1 : Int32) (y2 : Int32) (g : Nat → Nat) (v : mS) (q : Nat → Nat) (H : Heap) (locs : List Loc) (ls : Array Slot), f_V_merged_152 K8 x1 x2 x3 x4 x5 x8 y1 y2 g v = some o → qs q0 q → gL g0 ≤ gL g → gL g ≤ gL o.2.1 → bn_H Z A s (q, g, v) H locs → lv_has ls 9 [(0, .ref (q 1)), (1, .int x1), (2, .int x2), (3, .int x3), (4, .int x4), (5, .int x5), (8, .int x8)] → bx_W p l e s m args below meth c Z A q0 g0 enI o 8 g H locs (F0 m 152 ls [.int y2, .int y1, .ref (q 2)]) := by
  have hx := C0.1
  have hb := C0.2.1
  have hl0 := C0.2.2.2.2.2.2.2.2.2
  intro x1 x2 x3 x4 x5 x8 y1 y2 g v q H locs ls h hq hm0 hm hH hl
  unfold f_V_merged_152 at h
  have hcl9 := bx_room (h0 := 8) (o := o) hm0 hm
  obtain ⟨g_1, h⟩ := gd_out h
  obtain ⟨v_2, hv_2, h⟩ := nm_out h
  refine bn_sto ⟨by decide, by decide⟩ C0 hH (inB_in g_1) d_V_merged_152 (fun H locs hH => ?_)
  have hH : bn_H Z A s (q, g, v_2) H locs := by rw [hv_2]; exact hH
  obtain ⟨x5_3, hx5_3, h⟩ := nm_out h
  refine lv_iinc (v := x5_3) (lv' := [(5, .int x5_3), (0, .ref (q 1)), (1, .int x1), (2, .int x2), (3, .int x3), (4, .int x4), (8, .int x8)]) hx hb d_V_merged_153 hl (k := 5) rfl (by rw [hx5_3]; rfl) (by decide) rfl (fun ls hl => ?_)
  refine lv_iload_n hx hb d_V_merged_156 rfl (lv_at hl 4 rfl) ?_
  refine lv_iload hx hb d_V_merged_157 (lv_at hl 6 rfl) ?_
  refine lv_if_gt (tgt := 166) hx hb d_V_merged_159 (by decide) (fun c_4 => ?_) (fun c_4 => ?_)
  · rw [if_pos c_4] at h
    refine lv_iconst (v := 0) hx hb d_V_merged_166 (by decide) ?_
    exact w_V_merged_167 C0 hr hnx hK8 _ _ _ _ _ _ _ _ _ _ _ _ _ h hq hm0 hm hH (lv_sub hl [1, 2, 3, 5, 0, 6] rfl)
  · rw [if_neg c_4] at h
    refine lv_iconst (v := 1) hx hb d_V_merged_162 (by decide) ?_
    refine lv_goto (tgt := 167) hx hb d_V_merged_163 (by decide) ?_
    exact w_V_merged_167 C0 hr hnx hK8 _ _ _ _ _ _ _ _ _ _ _ _ _ h hq hm0 hm hH (lv_sub hl [1, 2, 3, 5, 0, 6] rfl)
def f_V_merged_124 (K8 : Int32 → Int32 → Int32 → Int32 → Int32 → (Nat → Nat) → mS → Option (bO Int32)) (x1 : Int32) (x2 : Int32) (x3 : Int32) (x4 : Int32) (x5 : Int32) (x8 : Int32) (y1 : Int32) (y2 : Int32) (g : Nat → Nat) (v : mS) : Option (bO Int32) := gd (inB y1 12) (nm (sU v 3 (y1 : Int32).toNatClampNeg y2) fun v_2 => if 0 ≤ x8 then (bi (f_V_itemAt g v_2 x2 x4) fun r_6 v_4 => f_V_merged_152 K8 x1 x2 x3 x4 x5 x8 x5 r_6 g v_4) else (bi (f_V_itemAt g v_2 x1 x3) fun r_9 v_7 => f_V_merged_152 K8 x1 x2 x3 x4 x5 x8 x5 r_9 g v_7))
set_option maxHeartbeats 4000000 in
set_option maxRecDepth 100000 in
theorem w_V_merged_124 {p : Program} {l : Launch} {e : Env} {s : State} {m : MethodId} {args : Array Value} {below : List Frame} {meth : Method} {c : Code} {Z : bZ} {A : Nat → Prop} {q0 g0 : Nat → Nat} {o : bO Int32}  (C0 : bn_C "FilterBench$Values" b_V_merged 9 Z A p l s m args meth c) (hr : meth.sig.returnType = (some .int)) (hnx : ∀ x ∈ c.exceptionTable.toList, False) {K8 : Int32 → Int32 → Int32 → Int32 → Int32 → (Nat → Nat) → mS → Option (bO Int32)} (hK8 : ∀ (x1 : Int32) (x2 : Int32) (x3 : Int32) (x4 : Int32) (x5 : Int32) (g : Nat → Nat) (v : mS) (q : Nat → Nat) (H : Heap) (locs : List Loc) (ls : Array Slot), K8 x1 x2 x3 x4 x5 g v = some o → qs q0 q → gL g0 ≤ gL g → gL g ≤ gL o.2.1 → bn_H Z A s (q, g, v) H locs → lv_has ls 9 [(0, .ref (q 1)), (1, .int x1), (2, .int x2), (3, .int x3), (4, .int x4), (5, .int x5)] → bx_W p l e s m args below meth c Z A q0 g0 enI o 8 g H locs (F0 m 8 ls [])) : ∀ (x1 : Int32) (x2 : Int32) (x3 : Int32) (x4 : Int32) (x5 : Int32) (x8 : Int32) (y1 : Int32) (y2 : Int32) (g : Nat → Nat) (v : mS) (q : Nat → Nat) (H : Heap) (locs : List Loc) (ls : Array Slot), f_V_merged_124 K8 x1 x2 x3 x4 x5 x8 y1 y2 g v = some o → qs q0 q → gL g0 ≤ gL g → gL g ≤ gL o.2.1 → bn_H Z A s (q, g, v) H locs → lv_has ls 9 [(0, .ref (q 1)), (1, .int x1), (2, .int x2), (3, .int x3), (4, .int x4), (5, .int x5), (8, .int x8)] → bx_W p l e s m args below meth c Z A q0 g0 enI o 8 g H locs (F0 m 124 ls [.int y2, .int y1, .ref (q 3)]) := by
  have hx := C0.1
  have hb := C0.2.1
  have hl0 := C0.2.2.2.2.2.2.2.2.2
  intro x1 x2 x3 x4 x5 x8 y1 y2 g v q H locs ls h hq hm0 hm hH hl
  unfold f_V_merged_124 at h
  have hcl9 := bx_room (h0 := 8) (o := o) hm0 hm
  obtain ⟨g_1, h⟩ := gd_out h
  obtain ⟨v_2, hv_2, h⟩ := nm_out h
  refine bn_sto ⟨by decide, by decide⟩ C0 hH (inB_in g_1) d_V_merged_124 (fun H locs hH => ?_)
  have hH : bn_H Z A s (q, g, v_2) H locs := by rw [hv_2]; exact hH
  refine lv_aload_n hx hb d_V_merged_125 rfl (lv_at hl 0 rfl) ?_
  refine bn_g_V_items ⟨by decide, by decide⟩ C0 hH d_V_merged_126 ?_
  refine lv_iload hx hb d_V_merged_129 (lv_at hl 5 rfl) ?_
  refine lv_iload hx hb d_V_merged_131 (lv_at hl 6 rfl) ?_
  refine lv_if_ge (tgt := 145) hx hb d_V_merged_133 (by decide) (fun c_3 => ?_) (fun c_3 => ?_)
  · rw [if_pos c_3] at h
    refine lv_aload_n hx hb d_V_merged_145 rfl (lv_at hl 0 rfl) ?_
    refine lv_iload_n hx hb d_V_merged_146 rfl (lv_at hl 2 rfl) ?_
    refine lv_iload hx hb d_V_merged_147 (lv_at hl 4 rfl) ?_
    obtain ⟨r_6, v_4, hc_5, h⟩ := bi_out h
    refine bn_ci (r := r_6) (w := (q, g, v_4)) (as := [.int x2, .int x4]) (rest := [.int x5, .ref (q 2)]) C0 hH (ci := 4) ⟨by decide, by decide⟩ (by decide) rfl (c_V_itemAt hl0 hc_5) yy_V_itemAt q_543 ⟨by simp only [bn_rm, dK]; omega, by simp only [bn_rm, dK]; omega⟩ rfl hl.1 rfl (Nat.le_of_ble_eq_true rfl) hcl9 d_V_merged_149 (fun H locs hH => ?_)
    exact w_V_merged_152 C0 hr hnx hK8 _ _ _ _ _ _ _ _ _ _ _ _ _ _ h hq hm0 hm hH (lv_sub hl [0, 1, 2, 3, 4, 5, 6] rfl)
  · rw [if_neg c_3] at h
    refine lv_aload_n hx hb d_V_merged_136 rfl (lv_at hl 0 rfl) ?_
    refine lv_iload_n hx hb d_V_merged_137 rfl (lv_at hl 1 rfl) ?_
    refine lv_iload_n hx hb d_V_merged_138 rfl (lv_at hl 3 rfl) ?_
    obtain ⟨r_9, v_7, hc_8, h⟩ := bi_out h
    refine bn_ci (r := r_9) (w := (q, g, v_7)) (as := [.int x1, .int x3]) (rest := [.int x5, .ref (q 2)]) C0 hH (ci := 4) ⟨by decide, by decide⟩ (by decide) rfl (c_V_itemAt hl0 hc_8) yy_V_itemAt q_543 ⟨by simp only [bn_rm, dK]; omega, by simp only [bn_rm, dK]; omega⟩ rfl hl.1 rfl (Nat.le_of_ble_eq_true rfl) hcl9 d_V_merged_139 (fun H locs hH => ?_)
    refine lv_goto (tgt := 152) hx hb d_V_merged_142 (by decide) ?_
    exact w_V_merged_152 C0 hr hnx hK8 _ _ _ _ _ _ _ _ _ _ _ _ _ _ h hq hm0 hm hH (lv_sub hl [0, 1, 2, 3, 4, 5, 6] rfl)
def f_V_merged_95 (K8 : Int32 → Int32 → Int32 → Int32 → Int32 → (Nat → Nat) → mS → Option (bO Int32)) (x1 : Int32) (x2 : Int32) (x3 : Int32) (x4 : Int32) (x5 : Int32) (y0 : Int32) (g : Nat → Nat) (v : mS) : Option (bO Int32) := if 0 ≤ y0 then (bi (f_V_nameAt g v x2 x4) fun r_4 v_2 => f_V_merged_124 K8 x1 x2 x3 x4 x5 y0 x5 r_4 g v_2) else (bi (f_V_nameAt g v x1 x3) fun r_7 v_5 => f_V_merged_124 K8 x1 x2 x3 x4 x5 y0 x5 r_7 g v_5)
set_option maxHeartbeats 4000000 in
set_option maxRecDepth 100000 in
theorem w_V_merged_95 {p : Program} {l : Launch} {e : Env} {s : State} {m : MethodId} {args : Array Value} {below : List Frame} {meth : Method} {c : Code} {Z : bZ} {A : Nat → Prop} {q0 g0 : Nat → Nat} {o : bO Int32}  (C0 : bn_C "FilterBench$Values" b_V_merged 9 Z A p l s m args meth c) (hr : meth.sig.returnType = (some .int)) (hnx : ∀ x ∈ c.exceptionTable.toList, False) {K8 : Int32 → Int32 → Int32 → Int32 → Int32 → (Nat → Nat) → mS → Option (bO Int32)} (hK8 : ∀ (x1 : Int32) (x2 : Int32) (x3 : Int32) (x4 : Int32) (x5 : Int32) (g : Nat → Nat) (v : mS) (q : Nat → Nat) (H : Heap) (locs : List Loc) (ls : Array Slot), K8 x1 x2 x3 x4 x5 g v = some o → qs q0 q → gL g0 ≤ gL g → gL g ≤ gL o.2.1 → bn_H Z A s (q, g, v) H locs → lv_has ls 9 [(0, .ref (q 1)), (1, .int x1), (2, .int x2), (3, .int x3), (4, .int x4), (5, .int x5)] → bx_W p l e s m args below meth c Z A q0 g0 enI o 8 g H locs (F0 m 8 ls [])) : ∀ (x1 : Int32) (x2 : Int32) (x3 : Int32) (x4 : Int32) (x5 : Int32) (y0 : Int32) (g : Nat → Nat) (v : mS) (q : Nat → Nat) (H : Heap) (locs : List Loc) (ls : Array Slot), f_V_merged_95 K8 x1 x2 x3 x4 x5 y0 g v = some o → qs q0 q → gL g0 ≤ gL g → gL g ≤ gL o.2.1 → bn_H Z A s (q, g, v) H locs → lv_has ls 9 [(0, .ref (q 1)), (1, .int x1), (2, .int x2), (3, .int x3), (4, .int x4), (5, .int x5)] → bx_W p l e s m args below meth c Z A q0 g0 enI o 8 g H locs (F0 m 95 ls [.int y0]) := by
  have hx := C0.1
  have hb := C0.2.1
  have hl0 := C0.2.2.2.2.2.2.2.2.2
  intro x1 x2 x3 x4 x5 y0 g v q H locs ls h hq hm0 hm hH hl
  unfold f_V_merged_95 at h
  have hcl9 := bx_room (h0 := 8) (o := o) hm0 hm
  refine lv_istore (lv' := [(8, .int y0), (0, .ref (q 1)), (1, .int x1), (2, .int x2), (3, .int x3), (4, .int x4), (5, .int x5)]) hx hb d_V_merged_95 hl (by decide) rfl (fun ls hl => ?_)
  refine lv_aload_n hx hb d_V_merged_97 rfl (lv_at hl 1 rfl) ?_
  refine bn_g_V_names ⟨by decide, by decide⟩ C0 hH d_V_merged_98 ?_
  refine lv_iload hx hb d_V_merged_101 (lv_at hl 6 rfl) ?_
  refine lv_iload hx hb d_V_merged_103 (lv_at hl 0 rfl) ?_
  refine lv_if_ge (tgt := 117) hx hb d_V_merged_105 (by decide) (fun c_1 => ?_) (fun c_1 => ?_)
  · rw [if_pos c_1] at h
    refine lv_aload_n hx hb d_V_merged_117 rfl (lv_at hl 1 rfl) ?_
    refine lv_iload_n hx hb d_V_merged_118 rfl (lv_at hl 3 rfl) ?_
    refine lv_iload hx hb d_V_merged_119 (lv_at hl 5 rfl) ?_
    obtain ⟨r_4, v_2, hc_3, h⟩ := bi_out h
    refine bn_ci (r := r_4) (w := (q, g, v_2)) (as := [.int x2, .int x4]) (rest := [.int x5, .ref (q 3)]) C0 hH (ci := 4) ⟨by decide, by decide⟩ (by decide) rfl (c_V_nameAt hl0 hc_3) yy_V_nameAt q_527 ⟨by simp only [bn_rm, dK]; omega, by simp only [bn_rm, dK]; omega⟩ rfl hl.1 rfl (Nat.le_of_ble_eq_true rfl) hcl9 d_V_merged_121 (fun H locs hH => ?_)
    exact w_V_merged_124 C0 hr hnx hK8 _ _ _ _ _ _ _ _ _ _ _ _ _ _ h hq hm0 hm hH (lv_sub hl [1, 2, 3, 4, 5, 6, 0] rfl)
  · rw [if_neg c_1] at h
    refine lv_aload_n hx hb d_V_merged_108 rfl (lv_at hl 1 rfl) ?_
    refine lv_iload_n hx hb d_V_merged_109 rfl (lv_at hl 2 rfl) ?_
    refine lv_iload_n hx hb d_V_merged_110 rfl (lv_at hl 4 rfl) ?_
    obtain ⟨r_7, v_5, hc_6, h⟩ := bi_out h
    refine bn_ci (r := r_7) (w := (q, g, v_5)) (as := [.int x1, .int x3]) (rest := [.int x5, .ref (q 3)]) C0 hH (ci := 4) ⟨by decide, by decide⟩ (by decide) rfl (c_V_nameAt hl0 hc_6) yy_V_nameAt q_527 ⟨by simp only [bn_rm, dK]; omega, by simp only [bn_rm, dK]; omega⟩ rfl hl.1 rfl (Nat.le_of_ble_eq_true rfl) hcl9 d_V_merged_111 (fun H locs hH => ?_)
    refine lv_goto (tgt := 124) hx hb d_V_merged_114 (by decide) ?_
    exact w_V_merged_124 C0 hr hnx hK8 _ _ _ _ _ _ _ _ _ _ _ _ _ _ h hq hm0 hm hH (lv_sub hl [1, 2, 3, 4, 5, 6, 0] rfl)
def f_V_merged_58 (K8 : Int32 → Int32 → Int32 → Int32 → Int32 → (Nat → Nat) → mS → Option (bO Int32)) (x1 : Int32) (x2 : Int32) (x3 : Int32) (x4 : Int32) (x5 : Int32) (x6 : Int32) (y0 : Int32) (g : Nat → Nat) (v : mS) : Option (bO Int32) := if x6 = 0 then (if y0 = 0 then (bi (f_V_nameAt g v x1 x3) fun r_5 v_3 => bi (f_V_nameAt g v_3 x2 x4) fun r_8 v_6 => bi (f_V_comparedTexts g v_6 r_5 r_8) fun r_11 v_9 => f_V_merged_95 K8 x1 x2 x3 x4 x5 r_11 g v_9) else (f_V_merged_95 K8 x1 x2 x3 x4 x5 1 g v)) else (f_V_merged_95 K8 x1 x2 x3 x4 x5 (-1) g v)
set_option maxHeartbeats 4000000 in
set_option maxRecDepth 100000 in
theorem w_V_merged_58 {p : Program} {l : Launch} {e : Env} {s : State} {m : MethodId} {args : Array Value} {below : List Frame} {meth : Method} {c : Code} {Z : bZ} {A : Nat → Prop} {q0 g0 : Nat → Nat} {o : bO Int32}  (C0 : bn_C "FilterBench$Values" b_V_merged 9 Z A p l s m args meth c) (hr : meth.sig.returnType = (some .int)) (hnx : ∀ x ∈ c.exceptionTable.toList, False) {K8 : Int32 → Int32 → Int32 → Int32 → Int32 → (Nat → Nat) → mS → Option (bO Int32)} (hK8 : ∀ (x1 : Int32) (x2 : Int32) (x3 : Int32) (x4 : Int32) (x5 : Int32) (g : Nat → Nat) (v : mS) (q : Nat → Nat) (H : Heap) (locs : List Loc) (ls : Array Slot), K8 x1 x2 x3 x4 x5 g v = some o → qs q0 q → gL g0 ≤ gL g → gL g ≤ gL o.2.1 → bn_H Z A s (q, g, v) H locs → lv_has ls 9 [(0, .ref (q 1)), (1, .int x1), (2, .int x2), (3, .int x3), (4, .int x4), (5, .int x5)] → bx_W p l e s m args below meth c Z A q0 g0 enI o 8 g H locs (F0 m 8 ls [])) : ∀ (x1 : Int32) (x2 : Int32) (x3 : Int32) (x4 : Int32) (x5 : Int32) (x6 : Int32) (y0 : Int32) (g : Nat → Nat) (v : mS) (q : Nat → Nat) (H : Heap) (locs : List Loc) (ls : Array Slot), f_V_merged_58 K8 x1 x2 x3 x4 x5 x6 y0 g v = some o → qs q0 q → gL g0 ≤ gL g → gL g ≤ gL o.2.1 → bn_H Z A s (q, g, v) H locs → lv_has ls 9 [(0, .ref (q 1)), (1, .int x1), (2, .int x2), (3, .int x3), (4, .int x4), (5, .int x5), (6, .int x6)] → bx_W p l e s m args below meth c Z A q0 g0 enI o 8 g H locs (F0 m 58 ls [.int y0]) := by
  have hx := C0.1
  have hb := C0.2.1
  have hl0 := C0.2.2.2.2.2.2.2.2.2
  intro x1 x2 x3 x4 x5 x6 y0 g v q H locs ls h hq hm0 hm hH hl
  unfold f_V_merged_58 at h
  have hcl9 := bx_room (h0 := 8) (o := o) hm0 hm
  refine lv_istore (lv' := [(7, .int y0), (0, .ref (q 1)), (1, .int x1), (2, .int x2), (3, .int x3), (4, .int x4), (5, .int x5), (6, .int x6)]) hx hb d_V_merged_58 hl (by decide) rfl (fun ls hl => ?_)
  refine lv_iload hx hb d_V_merged_60 (lv_at hl 7 rfl) ?_
  refine lv_if_eq (tgt := 69) hx hb d_V_merged_62 (by decide) (fun c_1 => ?_) (fun c_1 => ?_)
  · rw [if_pos c_1] at h
    refine lv_iload hx hb d_V_merged_69 (lv_at hl 0 rfl) ?_
    refine lv_if_eq (tgt := 78) hx hb d_V_merged_71 (by decide) (fun c_2 => ?_) (fun c_2 => ?_)
    · rw [if_pos c_2] at h
      refine lv_aload_n hx hb d_V_merged_78 rfl (lv_at hl 1 rfl) ?_
      refine lv_aload_n hx hb d_V_merged_79 rfl (lv_at hl 1 rfl) ?_
      refine lv_iload_n hx hb d_V_merged_80 rfl (lv_at hl 2 rfl) ?_
      refine lv_iload_n hx hb d_V_merged_81 rfl (lv_at hl 4 rfl) ?_
      obtain ⟨r_5, v_3, hc_4, h⟩ := bi_out h
      refine bn_ci (r := r_5) (w := (q, g, v_3)) (as := [.int x1, .int x3]) (rest := [.ref (q 1)]) C0 hH (ci := 4) ⟨by decide, by decide⟩ (by decide) rfl (c_V_nameAt hl0 hc_4) yy_V_nameAt q_527 ⟨by simp only [bn_rm, dK]; omega, by simp only [bn_rm, dK]; omega⟩ rfl hl.1 rfl (Nat.le_of_ble_eq_true rfl) hcl9 d_V_merged_82 (fun H locs hH => ?_)
      refine lv_aload_n hx hb d_V_merged_85 rfl (lv_at hl 1 rfl) ?_
      refine lv_iload_n hx hb d_V_merged_86 rfl (lv_at hl 3 rfl) ?_
      refine lv_iload hx hb d_V_merged_87 (lv_at hl 5 rfl) ?_
      obtain ⟨r_8, v_6, hc_7, h⟩ := bi_out h
      refine bn_ci (r := r_8) (w := (q, g, v_6)) (as := [.int x2, .int x4]) (rest := [.int r_5, .ref (q 1)]) C0 hH (ci := 4) ⟨by decide, by decide⟩ (by decide) rfl (c_V_nameAt hl0 hc_7) yy_V_nameAt q_527 ⟨by simp only [bn_rm, dK]; omega, by simp only [bn_rm, dK]; omega⟩ rfl hl.1 rfl (Nat.le_of_ble_eq_true rfl) hcl9 d_V_merged_89 (fun H locs hH => ?_)
      obtain ⟨r_11, v_9, hc_10, h⟩ := bi_out h
      refine bn_ci (r := r_11) (w := (q, g, v_9)) (as := [.int r_5, .int r_8]) (rest := []) C0 hH (ci := 4) ⟨by decide, by decide⟩ (by decide) rfl (c_V_comparedTexts hl0 hc_10) yy_V_comparedTexts q_531 ⟨by simp only [bn_rm, dK]; omega, by simp only [bn_rm, dK]; omega⟩ rfl hl.1 rfl (Nat.le_of_ble_eq_true rfl) hcl9 d_V_merged_92 (fun H locs hH => ?_)
      exact w_V_merged_95 C0 hr hnx hK8 _ _ _ _ _ _ _ _ _ _ _ _ h hq hm0 hm hH (lv_sub hl [1, 2, 3, 4, 5, 6] rfl)
    · rw [if_neg c_2] at h
      refine lv_iconst (v := 1) hx hb d_V_merged_74 (by decide) ?_
      refine lv_goto (tgt := 95) hx hb d_V_merged_75 (by decide) ?_
      exact w_V_merged_95 C0 hr hnx hK8 _ _ _ _ _ _ _ _ _ _ _ _ h hq hm0 hm hH (lv_sub hl [1, 2, 3, 4, 5, 6] rfl)
  · rw [if_neg c_1] at h
    refine lv_iconst (v := (-1)) hx hb d_V_merged_65 (by decide) ?_
    refine lv_goto (tgt := 95) hx hb d_V_merged_66 (by decide) ?_
    exact w_V_merged_95 C0 hr hnx hK8 _ _ _ _ _ _ _ _ _ _ _ _ h hq hm0 hm hH (lv_sub hl [1, 2, 3, 4, 5, 6] rfl)
def f_V_merged_42 (K8 : Int32 → Int32 → Int32 → Int32 → Int32 → (Nat → Nat) → mS → Option (bO Int32)) (x1 : Int32) (x2 : Int32) (x3 : Int32) (x4 : Int32) (x5 : Int32) (y0 : Int32) (g : Nat → Nat) (v : mS) : Option (bO Int32) := bi (f_V_lengthOf g v x1) fun r_3 v_1 => if x3 = r_3 then (f_V_merged_58 K8 x1 x2 x3 x4 x5 y0 1 g v_1) else (f_V_merged_58 K8 x1 x2 x3 x4 x5 y0 0 g v_1)
set_option maxHeartbeats 4000000 in
set_option maxRecDepth 100000 in
theorem w_V_merged_42 {p : Program} {l : Launch} {e : Env} {s : State} {m : MethodId} {args : Array Value} {below : List Frame} {meth : Method} {c : Code} {Z : bZ} {A : Nat → Prop} {q0 g0 : Nat → Nat} {o : bO Int32}  (C0 : bn_C "FilterBench$Values" b_V_merged 9 Z A p l s m args meth c) (hr : meth.sig.returnType = (some .int)) (hnx : ∀ x ∈ c.exceptionTable.toList, False) {K8 : Int32 → Int32 → Int32 → Int32 → Int32 → (Nat → Nat) → mS → Option (bO Int32)} (hK8 : ∀ (x1 : Int32) (x2 : Int32) (x3 : Int32) (x4 : Int32) (x5 : Int32) (g : Nat → Nat) (v : mS) (q : Nat → Nat) (H : Heap) (locs : List Loc) (ls : Array Slot), K8 x1 x2 x3 x4 x5 g v = some o → qs q0 q → gL g0 ≤ gL g → gL g ≤ gL o.2.1 → bn_H Z A s (q, g, v) H locs → lv_has ls 9 [(0, .ref (q 1)), (1, .int x1), (2, .int x2), (3, .int x3), (4, .int x4), (5, .int x5)] → bx_W p l e s m args below meth c Z A q0 g0 enI o 8 g H locs (F0 m 8 ls [])) : ∀ (x1 : Int32) (x2 : Int32) (x3 : Int32) (x4 : Int32) (x5 : Int32) (y0 : Int32) (g : Nat → Nat) (v : mS) (q : Nat → Nat) (H : Heap) (locs : List Loc) (ls : Array Slot), f_V_merged_42 K8 x1 x2 x3 x4 x5 y0 g v = some o → qs q0 q → gL g0 ≤ gL g → gL g ≤ gL o.2.1 → bn_H Z A s (q, g, v) H locs → lv_has ls 9 [(0, .ref (q 1)), (1, .int x1), (2, .int x2), (3, .int x3), (4, .int x4), (5, .int x5)] → bx_W p l e s m args below meth c Z A q0 g0 enI o 8 g H locs (F0 m 42 ls [.int y0]) := by
  have hx := C0.1
  have hb := C0.2.1
  have hl0 := C0.2.2.2.2.2.2.2.2.2
  intro x1 x2 x3 x4 x5 y0 g v q H locs ls h hq hm0 hm hH hl
  unfold f_V_merged_42 at h
  have hcl9 := bx_room (h0 := 8) (o := o) hm0 hm
  refine lv_istore (lv' := [(6, .int y0), (0, .ref (q 1)), (1, .int x1), (2, .int x2), (3, .int x3), (4, .int x4), (5, .int x5)]) hx hb d_V_merged_42 hl (by decide) rfl (fun ls hl => ?_)
  refine lv_iload_n hx hb d_V_merged_44 rfl (lv_at hl 4 rfl) ?_
  refine lv_aload_n hx hb d_V_merged_45 rfl (lv_at hl 1 rfl) ?_
  refine lv_iload_n hx hb d_V_merged_46 rfl (lv_at hl 2 rfl) ?_
  obtain ⟨r_3, v_1, hc_2, h⟩ := bi_out h
  refine bn_ci (r := r_3) (w := (q, g, v_1)) (as := [.int x1]) (rest := [.int x3]) C0 hH (ci := 4) ⟨by decide, by decide⟩ (by decide) rfl (c_V_lengthOf hl0 hc_2) yy_V_lengthOf q_383 ⟨by simp only [bn_rm, dK]; omega, by simp only [bn_rm, dK]; omega⟩ rfl hl.1 rfl (Nat.le_of_ble_eq_true rfl) hcl9 d_V_merged_47 (fun H locs hH => ?_)
  refine lv_icmp_ne (tgt := 57) hx hb d_V_merged_50 (by decide) (fun c_4 => ?_) (fun c_4 => ?_)
  · rw [if_neg c_4] at h
    refine lv_iconst (v := 0) hx hb d_V_merged_57 (by decide) ?_
    exact w_V_merged_58 C0 hr hnx hK8 _ _ _ _ _ _ _ _ _ _ _ _ _ h hq hm0 hm hH (lv_sub hl [1, 2, 3, 4, 5, 6, 0] rfl)
  · rw [if_pos c_4] at h
    refine lv_iconst (v := 1) hx hb d_V_merged_53 (by decide) ?_
    refine lv_goto (tgt := 58) hx hb d_V_merged_54 (by decide) ?_
    exact w_V_merged_58 C0 hr hnx hK8 _ _ _ _ _ _ _ _ _ _ _ _ _ h hq hm0 hm hH (lv_sub hl [1, 2, 3, 4, 5, 6, 0] rfl)
def f_V_merged_27 (K8 : Int32 → Int32 → Int32 → Int32 → Int32 → (Nat → Nat) → mS → Option (bO Int32)) (x1 : Int32) (x2 : Int32) (x3 : Int32) (x4 : Int32) (x5 : Int32) (g : Nat → Nat) (v : mS) : Option (bO Int32) := bi (f_V_lengthOf g v x2) fun r_3 v_1 => if x4 = r_3 then (f_V_merged_42 K8 x1 x2 x3 x4 x5 1 g v_1) else (f_V_merged_42 K8 x1 x2 x3 x4 x5 0 g v_1)
set_option maxHeartbeats 4000000 in
set_option maxRecDepth 100000 in
theorem w_V_merged_27 {p : Program} {l : Launch} {e : Env} {s : State} {m : MethodId} {args : Array Value} {below : List Frame} {meth : Method} {c : Code} {Z : bZ} {A : Nat → Prop} {q0 g0 : Nat → Nat} {o : bO Int32}  (C0 : bn_C "FilterBench$Values" b_V_merged 9 Z A p l s m args meth c) (hr : meth.sig.returnType = (some .int)) (hnx : ∀ x ∈ c.exceptionTable.toList, False) {K8 : Int32 → Int32 → Int32 → Int32 → Int32 → (Nat → Nat) → mS → Option (bO Int32)} (hK8 : ∀ (x1 : Int32) (x2 : Int32) (x3 : Int32) (x4 : Int32) (x5 : Int32) (g : Nat → Nat) (v : mS) (q : Nat → Nat) (H : Heap) (locs : List Loc) (ls : Array Slot), K8 x1 x2 x3 x4 x5 g v = some o → qs q0 q → gL g0 ≤ gL g → gL g ≤ gL o.2.1 → bn_H Z A s (q, g, v) H locs → lv_has ls 9 [(0, .ref (q 1)), (1, .int x1), (2, .int x2), (3, .int x3), (4, .int x4), (5, .int x5)] → bx_W p l e s m args below meth c Z A q0 g0 enI o 8 g H locs (F0 m 8 ls [])) : ∀ (x1 : Int32) (x2 : Int32) (x3 : Int32) (x4 : Int32) (x5 : Int32) (g : Nat → Nat) (v : mS) (q : Nat → Nat) (H : Heap) (locs : List Loc) (ls : Array Slot), f_V_merged_27 K8 x1 x2 x3 x4 x5 g v = some o → qs q0 q → gL g0 ≤ gL g → gL g ≤ gL o.2.1 → bn_H Z A s (q, g, v) H locs → lv_has ls 9 [(0, .ref (q 1)), (1, .int x1), (2, .int x2), (3, .int x3), (4, .int x4), (5, .int x5)] → bx_W p l e s m args below meth c Z A q0 g0 enI o 8 g H locs (F0 m 27 ls []) := by
  have hx := C0.1
  have hb := C0.2.1
  have hl0 := C0.2.2.2.2.2.2.2.2.2
  intro x1 x2 x3 x4 x5 g v q H locs ls h hq hm0 hm hH hl
  unfold f_V_merged_27 at h
  have hcl9 := bx_room (h0 := 8) (o := o) hm0 hm
  refine lv_iload hx hb d_V_merged_27 (lv_at hl 4 rfl) ?_
  refine lv_aload_n hx hb d_V_merged_29 rfl (lv_at hl 0 rfl) ?_
  refine lv_iload_n hx hb d_V_merged_30 rfl (lv_at hl 2 rfl) ?_
  obtain ⟨r_3, v_1, hc_2, h⟩ := bi_out h
  refine bn_ci (r := r_3) (w := (q, g, v_1)) (as := [.int x2]) (rest := [.int x4]) C0 hH (ci := 4) ⟨by decide, by decide⟩ (by decide) rfl (c_V_lengthOf hl0 hc_2) yy_V_lengthOf q_383 ⟨by simp only [bn_rm, dK]; omega, by simp only [bn_rm, dK]; omega⟩ rfl hl.1 rfl (Nat.le_of_ble_eq_true rfl) hcl9 d_V_merged_31 (fun H locs hH => ?_)
  refine lv_icmp_ne (tgt := 41) hx hb d_V_merged_34 (by decide) (fun c_4 => ?_) (fun c_4 => ?_)
  · rw [if_neg c_4] at h
    refine lv_iconst (v := 0) hx hb d_V_merged_41 (by decide) ?_
    exact w_V_merged_42 C0 hr hnx hK8 _ _ _ _ _ _ _ _ _ _ _ _ h hq hm0 hm hH (lv_sub hl [0, 1, 2, 3, 4, 5] rfl)
  · rw [if_pos c_4] at h
    refine lv_iconst (v := 1) hx hb d_V_merged_37 (by decide) ?_
    refine lv_goto (tgt := 42) hx hb d_V_merged_38 (by decide) ?_
    exact w_V_merged_42 C0 hr hnx hK8 _ _ _ _ _ _ _ _ _ _ _ _ h hq hm0 hm hH (lv_sub hl [0, 1, 2, 3, 4, 5] rfl)
def f_V_merged_242  (y0 : Int32) (g : Nat → Nat) (v : mS) : Option (bO Int32) := some (.inl (y0), g, v)
set_option maxHeartbeats 4000000 in
set_option maxRecDepth 100000 in
theorem w_V_merged_242 {p : Program} {l : Launch} {e : Env} {s : State} {m : MethodId} {args : Array Value} {below : List Frame} {meth : Method} {c : Code} {Z : bZ} {A : Nat → Prop} {q0 g0 : Nat → Nat} {o : bO Int32}  (C0 : bn_C "FilterBench$Values" b_V_merged 9 Z A p l s m args meth c) (hr : meth.sig.returnType = (some .int)) (hnx : ∀ x ∈ c.exceptionTable.toList, False) : ∀ (y0 : Int32) (g : Nat → Nat) (v : mS) (q : Nat → Nat) (H : Heap) (locs : List Loc) (ls : Array Slot), f_V_merged_242  y0 g v = some o → qs q0 q → gL g0 ≤ gL g → gL g ≤ gL o.2.1 → bn_H Z A s (q, g, v) H locs → lv_has ls 9 [] → bx_W p l e s m args below meth c Z A q0 g0 enI o 8 g H locs (F0 m 242 ls [.int y0]) := by
  have hx := C0.1
  have hb := C0.2.1
  have hl0 := C0.2.2.2.2.2.2.2.2.2
  intro y0 g v q H locs ls h hq hm0 hm hH hl
  unfold f_V_merged_242 at h
  have hcl9 := bx_room (h0 := 8) (o := o) hm0 hm
  exact bx_iret C0 hr hq hH hm0 d_V_merged_242 h
def f_V_merged_195  (x5 : Int32) (y0 : Int32) (g : Nat → Nat) (v : mS) : Option (bO Int32) := gd (cpB 0 (y0 + 4) x5 24 (g 4)) (nm (sC v 2 4 (0 : Int32).toNatClampNeg (y0 + 4 : Int32).toNatClampNeg (x5 : Int32).toNatClampNeg) fun v_2 => gd (cpB 0 ((y0 + 4) + x5) x5 12 (g 4)) (nm (sC v_2 3 4 (0 : Int32).toNatClampNeg ((y0 + 4) + x5 : Int32).toNatClampNeg (x5 : Int32).toNatClampNeg) fun v_4 => bo (f_V_closed g v_4 y0) fun r9 g9 v9 => f_V_merged_242 r9 g9 v9))
set_option maxHeartbeats 4000000 in
set_option maxRecDepth 100000 in
theorem w_V_merged_195 {p : Program} {l : Launch} {e : Env} {s : State} {m : MethodId} {args : Array Value} {below : List Frame} {meth : Method} {c : Code} {Z : bZ} {A : Nat → Prop} {q0 g0 : Nat → Nat} {o : bO Int32}  (C0 : bn_C "FilterBench$Values" b_V_merged 9 Z A p l s m args meth c) (hr : meth.sig.returnType = (some .int)) (hnx : ∀ x ∈ c.exceptionTable.toList, False) : ∀ (x5 : Int32) (y0 : Int32) (g : Nat → Nat) (v : mS) (q : Nat → Nat) (H : Heap) (locs : List Loc) (ls : Array Slot), f_V_merged_195  x5 y0 g v = some o → qs q0 q → gL g0 ≤ gL g → gL g ≤ gL o.2.1 → bn_H Z A s (q, g, v) H locs → lv_has ls 9 [(0, .ref (q 1)), (5, .int x5)] → bx_W p l e s m args below meth c Z A q0 g0 enI o 8 g H locs (F0 m 195 ls [.int y0]) := by
  have hx := C0.1
  have hb := C0.2.1
  have hl0 := C0.2.2.2.2.2.2.2.2.2
  intro x5 y0 g v q H locs ls h hq hm0 hm hH hl
  unfold f_V_merged_195 at h
  have hcl9 := bx_room (h0 := 8) (o := o) hm0 hm
  refine lv_istore (lv' := [(6, .int y0), (0, .ref (q 1)), (5, .int x5)]) hx hb d_V_merged_195 hl (by decide) rfl (fun ls hl => ?_)
  refine lv_aload_n hx hb d_V_merged_197 rfl (lv_at hl 1 rfl) ?_
  refine bn_g_V_items ⟨by decide, by decide⟩ C0 hH d_V_merged_198 ?_
  refine lv_iconst (v := 0) hx hb d_V_merged_201 (by decide) ?_
  refine lv_aload_n hx hb d_V_merged_202 rfl (lv_at hl 1 rfl) ?_
  refine bn_g_V_cells ⟨by decide, by decide⟩ C0 hH d_V_merged_203 ?_
  refine lv_iload hx hb d_V_merged_206 (lv_at hl 0 rfl) ?_
  refine lv_iconst (v := 4) hx hb d_V_merged_208 (by decide) ?_
  refine lv_iadd hx hb d_V_merged_209 ?_
  refine lv_iload hx hb d_V_merged_210 (lv_at hl 2 rfl) ?_
  obtain ⟨g_1, h⟩ := gd_out h
  obtain ⟨v_2, hv_2, h⟩ := nm_out h
  refine bn_copy ⟨by decide, by decide⟩ ⟨by decide, by decide⟩ C0 hH rfl rfl g_1 q_405 q_403 q_116 hl.1 (Nat.le_of_ble_eq_true rfl) (Nat.le_of_ble_eq_true rfl) d_V_merged_212 (fun H locs hH => ?_)
  have hH : bn_H Z A s (q, g, v_2) H locs := by rw [hv_2]; exact hH
  refine lv_aload_n hx hb d_V_merged_215 rfl (lv_at hl 1 rfl) ?_
  refine bn_g_V_names ⟨by decide, by decide⟩ C0 hH d_V_merged_216 ?_
  refine lv_iconst (v := 0) hx hb d_V_merged_219 (by decide) ?_
  refine lv_aload_n hx hb d_V_merged_220 rfl (lv_at hl 1 rfl) ?_
  refine bn_g_V_cells ⟨by decide, by decide⟩ C0 hH d_V_merged_221 ?_
  refine lv_iload hx hb d_V_merged_224 (lv_at hl 0 rfl) ?_
  refine lv_iconst (v := 4) hx hb d_V_merged_226 (by decide) ?_
  refine lv_iadd hx hb d_V_merged_227 ?_
  refine lv_iload hx hb d_V_merged_228 (lv_at hl 2 rfl) ?_
  refine lv_iadd hx hb d_V_merged_230 ?_
  refine lv_iload hx hb d_V_merged_231 (lv_at hl 2 rfl) ?_
  obtain ⟨g_3, h⟩ := gd_out h
  obtain ⟨v_4, hv_4, h⟩ := nm_out h
  refine bn_copy ⟨by decide, by decide⟩ ⟨by decide, by decide⟩ C0 hH rfl rfl g_3 q_405 q_403 q_116 hl.1 (Nat.le_of_ble_eq_true rfl) (Nat.le_of_ble_eq_true rfl) d_V_merged_233 (fun H locs hH => ?_)
  have hH : bn_H Z A s (q, g, v_4) H locs := by rw [hv_4]; exact hH
  refine lv_aload_n hx hb d_V_merged_236 rfl (lv_at hl 1 rfl) ?_
  refine lv_iload hx hb d_V_merged_237 (lv_at hl 0 rfl) ?_
  obtain ⟨o1, hc, hm2, ht9, hx1, hk9⟩ := bo_out h
  have hm1 := mn_V_closed hc
  refine bx_cV (as := [.int y0]) (rest := []) C0 hnx hq hH hm0 hm1 hm2 ht9 (ci := 4) ⟨by decide, by decide⟩ (by decide) rfl (c_V_closed hl0 hc) yy_V_closed q_621 ⟨by first | omega | (simp only [dK]; omega), by first | omega | (simp only [dK]; omega)⟩ rfl hl.1 rfl (Nat.le_of_ble_eq_true rfl) d_V_merged_239 hx1 (fun r9 q1 H locs hr1 hq0 hq1 hm9 hH => ?_)
  have h := hk9 r9 hr1
  exact w_V_merged_242 C0 hr hnx  _ _ _ _ _ _ _ h hq0 hm9 hm2 hH (lv_sub hl [] rfl)
def f_V_merged_8  : Nat → Int32 → Int32 → Int32 → Int32 → Int32 → (Nat → Nat) → mS → Option (bO Int32)
  | 0, _, _, _, _, _, _, _ => none
  | n + 1, x1, x2, x3, x4, x5, g, v => bi (f_V_lengthOf g v x1) fun r_3 v_1 => if x3 < r_3 then (f_V_merged_27 (f_V_merged_8 n) x1 x2 x3 x4 x5 g v_1) else (bi (f_V_lengthOf g v_1 x2) fun r_7 v_5 => if r_7 ≤ x4 then (bo (f_V_open g v_5 6 x5) fun r9 g9 v9 => f_V_merged_195 x5 r9 g9 v9) else (f_V_merged_27 (f_V_merged_8 n) x1 x2 x3 x4 x5 g v_5))
set_option maxHeartbeats 4000000 in
set_option maxRecDepth 100000 in
theorem w_V_merged_8 {p : Program} {l : Launch} {e : Env} {s : State} {m : MethodId} {args : Array Value} {below : List Frame} {meth : Method} {c : Code} {Z : bZ} {A : Nat → Prop} {q0 g0 : Nat → Nat} {o : bO Int32}  (C0 : bn_C "FilterBench$Values" b_V_merged 9 Z A p l s m args meth c) (hr : meth.sig.returnType = (some .int)) (hnx : ∀ x ∈ c.exceptionTable.toList, False) : ∀ (n : Nat) (x1 : Int32) (x2 : Int32) (x3 : Int32) (x4 : Int32) (x5 : Int32) (g : Nat → Nat) (v : mS) (q : Nat → Nat) (H : Heap) (locs : List Loc) (ls : Array Slot), f_V_merged_8  n x1 x2 x3 x4 x5 g v = some o → qs q0 q → gL g0 ≤ gL g → gL g ≤ gL o.2.1 → bn_H Z A s (q, g, v) H locs → lv_has ls 9 [(0, .ref (q 1)), (1, .int x1), (2, .int x2), (3, .int x3), (4, .int x4), (5, .int x5)] → bx_W p l e s m args below meth c Z A q0 g0 enI o 8 g H locs (F0 m 8 ls []) := by
  have hx := C0.1
  have hb := C0.2.1
  have hl0 := C0.2.2.2.2.2.2.2.2.2
  intro n
  induction n with
  | zero =>
    intro x1 x2 x3 x4 x5 g v q H locs ls h hq hm0 hm hH hl
    cases h
  | succ n ih =>
    intro x1 x2 x3 x4 x5 g v q H locs ls h hq hm0 hm hH hl
    rw [f_V_merged_8] at h
    have hcl9 := bx_room (h0 := 8) (o := o) hm0 hm
    refine lv_iload_n hx hb d_V_merged_8 rfl (lv_at hl 3 rfl) ?_
    refine lv_aload_n hx hb d_V_merged_9 rfl (lv_at hl 0 rfl) ?_
    refine lv_iload_n hx hb d_V_merged_10 rfl (lv_at hl 1 rfl) ?_
    obtain ⟨r_3, v_1, hc_2, h⟩ := bi_out h
    refine bn_ci (r := r_3) (w := (q, g, v_1)) (as := [.int x1]) (rest := [.int x3]) C0 hH (ci := 4) ⟨by decide, by decide⟩ (by decide) rfl (c_V_lengthOf hl0 hc_2) yy_V_lengthOf q_383 ⟨by simp only [bn_rm, dK]; omega, by simp only [bn_rm, dK]; omega⟩ rfl hl.1 rfl (Nat.le_of_ble_eq_true rfl) hcl9 d_V_merged_11 (fun H locs hH => ?_)
    refine lv_icmp_lt (tgt := 27) hx hb d_V_merged_14 (by decide) (fun c_4 => ?_) (fun c_4 => ?_)
    · rw [if_pos c_4] at h
      exact w_V_merged_27 C0 hr hnx ih _ _ _ _ _ _ _ _ _ _ _ h hq hm0 hm hH (lv_sub hl [0, 1, 2, 3, 4, 5] rfl)
    · rw [if_neg c_4] at h
      refine lv_iload hx hb d_V_merged_17 (lv_at hl 4 rfl) ?_
      refine lv_aload_n hx hb d_V_merged_19 rfl (lv_at hl 0 rfl) ?_
      refine lv_iload_n hx hb d_V_merged_20 rfl (lv_at hl 2 rfl) ?_
      obtain ⟨r_7, v_5, hc_6, h⟩ := bi_out h
      refine bn_ci (r := r_7) (w := (q, g, v_5)) (as := [.int x2]) (rest := [.int x4]) C0 hH (ci := 4) ⟨by decide, by decide⟩ (by decide) rfl (c_V_lengthOf hl0 hc_6) yy_V_lengthOf q_383 ⟨by simp only [bn_rm, dK]; omega, by simp only [bn_rm, dK]; omega⟩ rfl hl.1 rfl (Nat.le_of_ble_eq_true rfl) hcl9 d_V_merged_21 (fun H locs hH => ?_)
      refine lv_icmp_ge (tgt := 187) hx hb d_V_merged_24 (by decide) (fun c_8 => ?_) (fun c_8 => ?_)
      · rw [if_pos c_8] at h
        refine lv_aload_n hx hb d_V_merged_187 rfl (lv_at hl 0 rfl) ?_
        refine lv_bipush (v := 6) hx hb d_V_merged_188 (by decide) ?_
        refine lv_iload hx hb d_V_merged_190 (lv_at hl 5 rfl) ?_
        obtain ⟨o1, hc, hm2, ht9, hx1, hk9⟩ := bo_out h
        have hm1 := mn_V_open hc
        refine bx_cV (as := [.int 6, .int x5]) (rest := []) C0 hnx hq hH hm0 hm1 hm2 ht9 (ci := 4) ⟨by decide, by decide⟩ (by decide) rfl (c_V_open hl0 hc) yy_V_open q_384 ⟨by first | omega | (simp only [dK]; omega), by first | omega | (simp only [dK]; omega)⟩ rfl hl.1 rfl (Nat.le_of_ble_eq_true rfl) d_V_merged_192 hx1 (fun r9 q1 H locs hr1 hq0 hq1 hm9 hH => ?_)
        have h := hk9 r9 hr1
        have e9 : q1 1 = q 1 := (hq1 1 (by decide) (by decide))
        try rw [← e9] at hl
        try rw [← e9]
        exact w_V_merged_195 C0 hr hnx  _ _ _ _ _ _ _ _ h hq0 hm9 hm2 hH (lv_sub hl [0, 5] rfl)
      · rw [if_neg c_8] at h
        exact w_V_merged_27 C0 hr hnx ih _ _ _ _ _ _ _ _ _ _ _ h hq hm0 hm hH (lv_sub hl [0, 1, 2, 3, 4, 5] rfl)
def f_V_merged (g : Nat → Nat) (v : mS) (x1 : Int32) (x2 : Int32) : Option (bO Int32) := mg g (f_V_merged_8 fu x1 x2 0 0 0 g v)
theorem mn_V_merged {g : Nat → Nat} {v : mS}  {x1 : Int32} {x2 : Int32} {o : bO Int32} (h : f_V_merged g v x1 x2 = some o) : gL g ≤ gL o.2.1 := (mg_out h).1
set_option maxHeartbeats 4000000 in
set_option maxRecDepth 100000 in
theorem c_V_merged {l : Launch} {Z : bZ} (hl0 : l.stackTraces = false) {q g : Nat → Nat} {v : mS}  {x1 : Int32} {x2 : Int32} {o : bO Int32} (h : f_V_merged g v x1 x2 = some o) : bx_M l Z 8 y_V_merged b_V_merged 9 (some .int) [.ref (q 1), .int x1, .int x2] q g v enI o := by
  refine bx_of hl0 (by decide +kernel) (Nat.le_of_ble_eq_true rfl) ?_
  intro p e s m args below meth c A ls C0 hr hnx hl hH
  have hx := C0.1
  have hb := C0.2.1
  have C0 : bn_C "FilterBench$Values" b_V_merged 9 Z A p l s m args meth c := C0
  have hl : lv_has ls 9 [(0, .ref (q 1)), (1, .int x1), (2, .int x2)] := hl
  obtain ⟨hm, h⟩ := mg_out h
  have hm0 : gL g ≤ gL g := Nat.le_refl _
  have hq : qs q q := qs.rf
  have hcl9 := bx_room (h0 := 8) (o := o) hm0 hm
  refine lv_iconst (v := 0) hx hb d_V_merged_0 (by decide) ?_
  refine lv_istore_n (lv' := [(3, .int 0), (0, .ref (q 1)), (1, .int x1), (2, .int x2)]) hx hb d_V_merged_1 rfl hl (by decide) rfl (fun ls hl => ?_)
  refine lv_iconst (v := 0) hx hb d_V_merged_2 (by decide) ?_
  refine lv_istore (lv' := [(4, .int 0), (3, .int 0), (0, .ref (q 1)), (1, .int x1), (2, .int x2)]) hx hb d_V_merged_3 hl (by decide) rfl (fun ls hl => ?_)
  refine lv_iconst (v := 0) hx hb d_V_merged_5 (by decide) ?_
  refine lv_istore (lv' := [(5, .int 0), (4, .int 0), (3, .int 0), (0, .ref (q 1)), (1, .int x1), (2, .int x2)]) hx hb d_V_merged_6 hl (by decide) rfl (fun ls hl => ?_)
  exact w_V_merged_8 C0 hr hnx  fu _ _ _ _ _ _ _ _ _ _ _ h hq hm0 hm hH (lv_sub hl [3, 4, 5, 2, 1, 0] rfl)
def f_V_plus_89  (y0 : Int32) (g : Nat → Nat) (v : mS) : Option (bO Int32) := some (.inl (y0), g, v)
set_option maxHeartbeats 4000000 in
set_option maxRecDepth 100000 in
theorem w_V_plus_89 {p : Program} {l : Launch} {e : Env} {s : State} {m : MethodId} {args : Array Value} {below : List Frame} {meth : Method} {c : Code} {Z : bZ} {A : Nat → Prop} {q0 g0 : Nat → Nat} {o : bO Int32}  (C0 : bn_C "FilterBench$Values" b_V_plus 3 Z A p l s m args meth c) (hr : meth.sig.returnType = (some .int)) (hnx : ∀ x ∈ c.exceptionTable.toList, False) : ∀ (y0 : Int32) (g : Nat → Nat) (v : mS) (q : Nat → Nat) (H : Heap) (locs : List Loc) (ls : Array Slot), f_V_plus_89  y0 g v = some o → qs q0 q → gL g0 ≤ gL g → gL g ≤ gL o.2.1 → bn_H Z A s (q, g, v) H locs → lv_has ls 3 [] → bx_W p l e s m args below meth c Z A q0 g0 enI o 9 g H locs (F0 m 89 ls [.int y0]) := by
  have hx := C0.1
  have hb := C0.2.1
  have hl0 := C0.2.2.2.2.2.2.2.2.2
  intro y0 g v q H locs ls h hq hm0 hm hH hl
  unfold f_V_plus_89 at h
  have hcl9 := bx_room (h0 := 9) (o := o) hm0 hm
  exact bx_iret C0 hr hq hH hm0 d_V_plus_89 h
def f_V_plus_96  (y0 : Int32) (g : Nat → Nat) (v : mS) : Option (bO Int32) := some (.inl (y0), g, v)
set_option maxHeartbeats 4000000 in
set_option maxRecDepth 100000 in
theorem w_V_plus_96 {p : Program} {l : Launch} {e : Env} {s : State} {m : MethodId} {args : Array Value} {below : List Frame} {meth : Method} {c : Code} {Z : bZ} {A : Nat → Prop} {q0 g0 : Nat → Nat} {o : bO Int32}  (C0 : bn_C "FilterBench$Values" b_V_plus 3 Z A p l s m args meth c) (hr : meth.sig.returnType = (some .int)) (hnx : ∀ x ∈ c.exceptionTable.toList, False) : ∀ (y0 : Int32) (g : Nat → Nat) (v : mS) (q : Nat → Nat) (H : Heap) (locs : List Loc) (ls : Array Slot), f_V_plus_96  y0 g v = some o → qs q0 q → gL g0 ≤ gL g → gL g ≤ gL o.2.1 → bn_H Z A s (q, g, v) H locs → lv_has ls 3 [] → bx_W p l e s m args below meth c Z A q0 g0 enI o 9 g H locs (F0 m 96 ls [.int y0]) := by
  have hx := C0.1
  have hb := C0.2.1
  have hl0 := C0.2.2.2.2.2.2.2.2.2
  intro y0 g v q H locs ls h hq hm0 hm hH hl
  unfold f_V_plus_96 at h
  have hcl9 := bx_room (h0 := 9) (o := o) hm0 hm
  exact bx_iret C0 hr hq hH hm0 d_V_plus_96 h
def f_V_plus_90  (x1 : Int32) (x2 : Int32) (g : Nat → Nat) (v : mS) : Option (bO Int32) := bo (f_V_joined g v x1 x2) fun r9 g9 v9 => f_V_plus_96 r9 g9 v9
set_option maxHeartbeats 4000000 in
set_option maxRecDepth 100000 in
theorem w_V_plus_90 {p : Program} {l : Launch} {e : Env} {s : State} {m : MethodId} {args : Array Value} {below : List Frame} {meth : Method} {c : Code} {Z : bZ} {A : Nat → Prop} {q0 g0 : Nat → Nat} {o : bO Int32}  (C0 : bn_C "FilterBench$Values" b_V_plus 3 Z A p l s m args meth c) (hr : meth.sig.returnType = (some .int)) (hnx : ∀ x ∈ c.exceptionTable.toList, False) : ∀ (x1 : Int32) (x2 : Int32) (g : Nat → Nat) (v : mS) (q : Nat → Nat) (H : Heap) (locs : List Loc) (ls : Array Slot), f_V_plus_90  x1 x2 g v = some o → qs q0 q → gL g0 ≤ gL g → gL g ≤ gL o.2.1 → bn_H Z A s (q, g, v) H locs → lv_has ls 3 [(0, .ref (q 1)), (1, .int x1), (2, .int x2)] → bx_W p l e s m args below meth c Z A q0 g0 enI o 9 g H locs (F0 m 90 ls []) := by
  have hx := C0.1
  have hb := C0.2.1
  have hl0 := C0.2.2.2.2.2.2.2.2.2
  intro x1 x2 g v q H locs ls h hq hm0 hm hH hl
  unfold f_V_plus_90 at h
  have hcl9 := bx_room (h0 := 9) (o := o) hm0 hm
  refine lv_aload_n hx hb d_V_plus_90 rfl (lv_at hl 0 rfl) ?_
  refine lv_iload_n hx hb d_V_plus_91 rfl (lv_at hl 1 rfl) ?_
  refine lv_iload_n hx hb d_V_plus_92 rfl (lv_at hl 2 rfl) ?_
  obtain ⟨o1, hc, hm2, ht9, hx1, hk9⟩ := bo_out h
  have hm1 := mn_V_joined hc
  refine bx_cV (as := [.int x1, .int x2]) (rest := []) C0 hnx hq hH hm0 hm1 hm2 ht9 (ci := 4) ⟨by decide, by decide⟩ (by decide) rfl (c_V_joined hl0 hc) yy_V_joined q_683 ⟨by first | omega | (simp only [dK]; omega), by first | omega | (simp only [dK]; omega)⟩ rfl hl.1 rfl (Nat.le_of_ble_eq_true rfl) d_V_plus_93 hx1 (fun r9 q1 H locs hr1 hq0 hq1 hm9 hH => ?_)
  have h := hk9 r9 hr1
  exact w_V_plus_96 C0 hr hnx  _ _ _ _ _ _ _ h hq0 hm9 hm2 hH (lv_sub hl [] rfl)
def f_V_plus_103  (y0 : Int32) (g : Nat → Nat) (v : mS) : Option (bO Int32) := some (.inl (y0), g, v)
set_option maxHeartbeats 4000000 in
set_option maxRecDepth 100000 in
theorem w_V_plus_103 {p : Program} {l : Launch} {e : Env} {s : State} {m : MethodId} {args : Array Value} {below : List Frame} {meth : Method} {c : Code} {Z : bZ} {A : Nat → Prop} {q0 g0 : Nat → Nat} {o : bO Int32}  (C0 : bn_C "FilterBench$Values" b_V_plus 3 Z A p l s m args meth c) (hr : meth.sig.returnType = (some .int)) (hnx : ∀ x ∈ c.exceptionTable.toList, False) : ∀ (y0 : Int32) (g : Nat → Nat) (v : mS) (q : Nat → Nat) (H : Heap) (locs : List Loc) (ls : Array Slot), f_V_plus_103  y0 g v = some o → qs q0 q → gL g0 ≤ gL g → gL g ≤ gL o.2.1 → bn_H Z A s (q, g, v) H locs → lv_has ls 3 [] → bx_W p l e s m args below meth c Z A q0 g0 enI o 9 g H locs (F0 m 103 ls [.int y0]) := by
  have hx := C0.1
  have hb := C0.2.1
  have hl0 := C0.2.2.2.2.2.2.2.2.2
  intro y0 g v q H locs ls h hq hm0 hm hH hl
  unfold f_V_plus_103 at h
  have hcl9 := bx_room (h0 := 9) (o := o) hm0 hm
  exact bx_iret C0 hr hq hH hm0 d_V_plus_103 h
def f_V_plus (g : Nat → Nat) (v : mS) (x1 : Int32) (x2 : Int32) : Option (bO Int32) := mg g (bi (f_V_kindOf g v x1) fun r_3 v_1 => if r_3 = 0 then (some (.inl (x2), g, v_1)) else (bi (f_V_kindOf g v_1 x2) fun r_7 v_5 => if r_7 = 0 then (some (.inl (x1), g, v_5)) else (bi (f_V_kindOf g v_5 x1) fun r_11 v_9 => bi (f_V_kindOf g v_9 x2) fun r_14 v_12 => if r_11 = r_14 then (bi (f_V_kindOf g v_12 x1) fun r_18 v_16 => if r_18 = 3 then (bi (f_V_millionthsOf g v_16 x1) fun r_21 v_19 => bi (f_V_millionthsOf g v_19 x2) fun r_24 v_22 => bo (f_V_numberOf g v_22 (r_21 + r_24) 6) fun r9 g9 v9 => f_V_plus_89 r9 g9 v9) else if r_18 = 4 then (f_V_plus_90 x1 x2 g v_16) else if r_18 = 5 then (f_V_plus_90 x1 x2 g v_16) else if r_18 = 6 then (bo (f_V_merged g v_16 x1 x2) fun r9 g9 v9 => f_V_plus_103 r9 g9 v9) else (some (.inl ((-1)), g, v_16))) else (some (.inl ((-1)), g, v_12)))))
theorem mn_V_plus {g : Nat → Nat} {v : mS}  {x1 : Int32} {x2 : Int32} {o : bO Int32} (h : f_V_plus g v x1 x2 = some o) : gL g ≤ gL o.2.1 := (mg_out h).1
set_option maxHeartbeats 4000000 in
set_option maxRecDepth 100000 in
theorem c_V_plus {l : Launch} {Z : bZ} (hl0 : l.stackTraces = false) {q g : Nat → Nat} {v : mS}  {x1 : Int32} {x2 : Int32} {o : bO Int32} (h : f_V_plus g v x1 x2 = some o) : bx_M l Z 9 y_V_plus b_V_plus 3 (some .int) [.ref (q 1), .int x1, .int x2] q g v enI o := by
  refine bx_of hl0 (by decide +kernel) (Nat.le_of_ble_eq_true rfl) ?_
  intro p e s m args below meth c A ls C0 hr hnx hl hH
  have hx := C0.1
  have hb := C0.2.1
  have C0 : bn_C "FilterBench$Values" b_V_plus 3 Z A p l s m args meth c := C0
  have hl : lv_has ls 3 [(0, .ref (q 1)), (1, .int x1), (2, .int x2)] := hl
  obtain ⟨hm, h⟩ := mg_out h
  have hm0 : gL g ≤ gL g := Nat.le_refl _
  have hq : qs q q := qs.rf
  have hcl9 := bx_room (h0 := 9) (o := o) hm0 hm
  refine lv_aload_n hx hb d_V_plus_0 rfl (lv_at hl 0 rfl) ?_
  refine lv_iload_n hx hb d_V_plus_1 rfl (lv_at hl 1 rfl) ?_
  obtain ⟨r_3, v_1, hc_2, h⟩ := bi_out h
  refine bn_ci (r := r_3) (w := (q, g, v_1)) (as := [.int x1]) (rest := []) C0 hH (ci := 4) ⟨by decide, by decide⟩ (by decide) rfl (c_V_kindOf hl0 hc_2) yy_V_kindOf q_519 ⟨by simp only [bn_rm, dK]; omega, by simp only [bn_rm, dK]; omega⟩ rfl hl.1 rfl (Nat.le_of_ble_eq_true rfl) hcl9 d_V_plus_2 (fun H locs hH => ?_)
  refine lv_if_ne (tgt := 10) hx hb d_V_plus_5 (by decide) (fun c_4 => ?_) (fun c_4 => ?_)
  · rw [if_neg c_4] at h
    refine lv_aload_n hx hb d_V_plus_10 rfl (lv_at hl 0 rfl) ?_
    refine lv_iload_n hx hb d_V_plus_11 rfl (lv_at hl 2 rfl) ?_
    obtain ⟨r_7, v_5, hc_6, h⟩ := bi_out h
    refine bn_ci (r := r_7) (w := (q, g, v_5)) (as := [.int x2]) (rest := []) C0 hH (ci := 4) ⟨by decide, by decide⟩ (by decide) rfl (c_V_kindOf hl0 hc_6) yy_V_kindOf q_519 ⟨by simp only [bn_rm, dK]; omega, by simp only [bn_rm, dK]; omega⟩ rfl hl.1 rfl (Nat.le_of_ble_eq_true rfl) hcl9 d_V_plus_12 (fun H locs hH => ?_)
    refine lv_if_ne (tgt := 20) hx hb d_V_plus_15 (by decide) (fun c_8 => ?_) (fun c_8 => ?_)
    · rw [if_neg c_8] at h
      refine lv_aload_n hx hb d_V_plus_20 rfl (lv_at hl 0 rfl) ?_
      refine lv_iload_n hx hb d_V_plus_21 rfl (lv_at hl 1 rfl) ?_
      obtain ⟨r_11, v_9, hc_10, h⟩ := bi_out h
      refine bn_ci (r := r_11) (w := (q, g, v_9)) (as := [.int x1]) (rest := []) C0 hH (ci := 4) ⟨by decide, by decide⟩ (by decide) rfl (c_V_kindOf hl0 hc_10) yy_V_kindOf q_519 ⟨by simp only [bn_rm, dK]; omega, by simp only [bn_rm, dK]; omega⟩ rfl hl.1 rfl (Nat.le_of_ble_eq_true rfl) hcl9 d_V_plus_22 (fun H locs hH => ?_)
      refine lv_aload_n hx hb d_V_plus_25 rfl (lv_at hl 0 rfl) ?_
      refine lv_iload_n hx hb d_V_plus_26 rfl (lv_at hl 2 rfl) ?_
      obtain ⟨r_14, v_12, hc_13, h⟩ := bi_out h
      refine bn_ci (r := r_14) (w := (q, g, v_12)) (as := [.int x2]) (rest := [.int r_11]) C0 hH (ci := 4) ⟨by decide, by decide⟩ (by decide) rfl (c_V_kindOf hl0 hc_13) yy_V_kindOf q_519 ⟨by simp only [bn_rm, dK]; omega, by simp only [bn_rm, dK]; omega⟩ rfl hl.1 rfl (Nat.le_of_ble_eq_true rfl) hcl9 d_V_plus_27 (fun H locs hH => ?_)
      refine lv_icmp_eq (tgt := 35) hx hb d_V_plus_30 (by decide) (fun c_15 => ?_) (fun c_15 => ?_)
      · rw [if_pos c_15] at h
        refine lv_aload_n hx hb d_V_plus_35 rfl (lv_at hl 0 rfl) ?_
        refine lv_iload_n hx hb d_V_plus_36 rfl (lv_at hl 1 rfl) ?_
        obtain ⟨r_18, v_16, hc_17, h⟩ := bi_out h
        refine bn_ci (r := r_18) (w := (q, g, v_16)) (as := [.int x1]) (rest := []) C0 hH (ci := 4) ⟨by decide, by decide⟩ (by decide) rfl (c_V_kindOf hl0 hc_17) yy_V_kindOf q_519 ⟨by simp only [bn_rm, dK]; omega, by simp only [bn_rm, dK]; omega⟩ rfl hl.1 rfl (Nat.le_of_ble_eq_true rfl) hcl9 d_V_plus_37 (fun H locs hH => ?_)
        by_cases e_25 : r_18 = 3
        · rw [if_pos e_25] at h
          refine fu_hit (tgt := 72) 3 e_25 hx hb d_V_plus_40 (by decide) (by decide) rfl (by decide) ?_
          refine lv_aload_n hx hb d_V_plus_72 rfl (lv_at hl 0 rfl) ?_
          refine lv_aload_n hx hb d_V_plus_73 rfl (lv_at hl 0 rfl) ?_
          refine lv_iload_n hx hb d_V_plus_74 rfl (lv_at hl 1 rfl) ?_
          obtain ⟨r_21, v_19, hc_20, h⟩ := bi_out h
          refine bn_cl (r := r_21) (w := (q, g, v_19)) (as := [.int x1]) (rest := [.ref (q 1)]) C0 hH (ci := 4) ⟨by decide, by decide⟩ (by decide) rfl (c_V_millionthsOf hl0 hc_20) yy_V_millionthsOf q_649 ⟨by simp only [bn_rm, dK]; omega, by simp only [bn_rm, dK]; omega⟩ rfl hl.1 rfl (Nat.le_of_ble_eq_true rfl) hcl9 d_V_plus_75 (fun H locs hH => ?_)
          refine lv_aload_n hx hb d_V_plus_78 rfl (lv_at hl 0 rfl) ?_
          refine lv_iload_n hx hb d_V_plus_79 rfl (lv_at hl 2 rfl) ?_
          obtain ⟨r_24, v_22, hc_23, h⟩ := bi_out h
          refine bn_cl (r := r_24) (w := (q, g, v_22)) (as := [.int x2]) (rest := [.long r_21, .ref (q 1)]) C0 hH (ci := 4) ⟨by decide, by decide⟩ (by decide) rfl (c_V_millionthsOf hl0 hc_23) yy_V_millionthsOf q_649 ⟨by simp only [bn_rm, dK]; omega, by simp only [bn_rm, dK]; omega⟩ rfl hl.1 rfl (Nat.le_of_ble_eq_true rfl) hcl9 d_V_plus_80 (fun H locs hH => ?_)
          refine lv_ladd hx hb d_V_plus_83 ?_
          refine lv_bipush (v := 6) hx hb d_V_plus_84 (by decide) ?_
          obtain ⟨o1, hc, hm2, ht9, hx1, hk9⟩ := bo_out h
          have hm1 := mn_V_numberOf hc
          refine bx_cV (as := [.long (r_21 + r_24), .int 6]) (rest := []) C0 hnx hq hH hm0 hm1 hm2 ht9 (ci := 4) ⟨by decide, by decide⟩ (by decide) rfl (c_V_numberOf hl0 hc) yy_V_numberOf q_682 ⟨by first | omega | (simp only [dK]; omega), by first | omega | (simp only [dK]; omega)⟩ rfl hl.1 rfl (Nat.le_of_ble_eq_true rfl) d_V_plus_86 hx1 (fun r9 q1 H locs hr1 hq0 hq1 hm9 hH => ?_)
          have h := hk9 r9 hr1
          exact w_V_plus_89 C0 hr hnx  _ _ _ _ _ _ _ h hq0 hm9 hm2 hH (lv_sub hl [] rfl)
        rw [if_neg e_25] at h
        by_cases e_26 : r_18 = 4
        · rw [if_pos e_26] at h
          refine fu_hit (tgt := 90) 4 e_26 hx hb d_V_plus_40 (by decide) (by decide) rfl (by decide) ?_
          exact w_V_plus_90 C0 hr hnx  _ _ _ _ _ _ _ _ h hq hm0 hm hH (lv_sub hl [0, 1, 2] rfl)
        rw [if_neg e_26] at h
        by_cases e_27 : r_18 = 5
        · rw [if_pos e_27] at h
          refine fu_hit (tgt := 90) 5 e_27 hx hb d_V_plus_40 (by decide) (by decide) rfl (by decide) ?_
          exact w_V_plus_90 C0 hr hnx  _ _ _ _ _ _ _ _ h hq hm0 hm hH (lv_sub hl [0, 1, 2] rfl)
        rw [if_neg e_27] at h
        by_cases e_28 : r_18 = 6
        · rw [if_pos e_28] at h
          refine fu_hit (tgt := 97) 6 e_28 hx hb d_V_plus_40 (by decide) (by decide) rfl (by decide) ?_
          refine lv_aload_n hx hb d_V_plus_97 rfl (lv_at hl 0 rfl) ?_
          refine lv_iload_n hx hb d_V_plus_98 rfl (lv_at hl 1 rfl) ?_
          refine lv_iload_n hx hb d_V_plus_99 rfl (lv_at hl 2 rfl) ?_
          obtain ⟨o1, hc, hm2, ht9, hx1, hk9⟩ := bo_out h
          have hm1 := mn_V_merged hc
          refine bx_cV (as := [.int x1, .int x2]) (rest := []) C0 hnx hq hH hm0 hm1 hm2 ht9 (ci := 4) ⟨by decide, by decide⟩ (by decide) rfl (c_V_merged hl0 hc) yy_V_merged q_687 ⟨by first | omega | (simp only [dK]; omega), by first | omega | (simp only [dK]; omega)⟩ rfl hl.1 rfl (Nat.le_of_ble_eq_true rfl) d_V_plus_100 hx1 (fun r9 q1 H locs hr1 hq0 hq1 hm9 hH => ?_)
          have h := hk9 r9 hr1
          exact w_V_plus_103 C0 hr hnx  _ _ _ _ _ _ _ h hq0 hm9 hm2 hH (lv_sub hl [] rfl)
        rw [if_neg e_28] at h
        refine lv_tableOut (tgt := 104) hx hb d_V_plus_40 (fu_out 4 (by decide) (fun k9 hk9 => match k9, hk9 with | 0, _ => lv_neT e_25 (by decide) | 1, _ => lv_neT e_26 (by decide) | 2, _ => lv_neT e_27 (by decide) | 3, _ => lv_neT e_28 (by decide) | k9 + 4, hk9 => absurd hk9 (by omega))) (by decide) ?_
        refine lv_iconst (v := (-1)) hx hb d_V_plus_104 (by decide) ?_
        exact bx_iret C0 hr hq hH hm0 d_V_plus_105 h
      · rw [if_neg c_15] at h
        refine lv_iconst (v := (-1)) hx hb d_V_plus_33 (by decide) ?_
        exact bx_iret C0 hr hq hH hm0 d_V_plus_34 h
    · rw [if_pos c_8] at h
      refine lv_iload_n hx hb d_V_plus_18 rfl (lv_at hl 1 rfl) ?_
      exact bx_iret C0 hr hq hH hm0 d_V_plus_19 h
  · rw [if_pos c_4] at h
    refine lv_iload_n hx hb d_V_plus_8 rfl (lv_at hl 2 rfl) ?_
    exact bx_iret C0 hr hq hH hm0 d_V_plus_9 h
def f_V_minus_35  (y0 : Int32) (g : Nat → Nat) (v : mS) : Option (bO Int32) := some (.inl (y0), g, v)
set_option maxHeartbeats 4000000 in
set_option maxRecDepth 100000 in
theorem w_V_minus_35 {p : Program} {l : Launch} {e : Env} {s : State} {m : MethodId} {args : Array Value} {below : List Frame} {meth : Method} {c : Code} {Z : bZ} {A : Nat → Prop} {q0 g0 : Nat → Nat} {o : bO Int32}  (C0 : bn_C "FilterBench$Values" b_V_minus 6 Z A p l s m args meth c) (hr : meth.sig.returnType = (some .int)) (hnx : ∀ x ∈ c.exceptionTable.toList, False) : ∀ (y0 : Int32) (g : Nat → Nat) (v : mS) (q : Nat → Nat) (H : Heap) (locs : List Loc) (ls : Array Slot), f_V_minus_35  y0 g v = some o → qs q0 q → gL g0 ≤ gL g → gL g ≤ gL o.2.1 → bn_H Z A s (q, g, v) H locs → lv_has ls 6 [] → bx_W p l e s m args below meth c Z A q0 g0 enI o 31 g H locs (F0 m 35 ls [.int y0]) := by
  have hx := C0.1
  have hb := C0.2.1
  have hl0 := C0.2.2.2.2.2.2.2.2.2
  intro y0 g v q H locs ls h hq hm0 hm hH hl
  unfold f_V_minus_35 at h
  have hcl9 := bx_room (h0 := 31) (o := o) hm0 hm
  exact bx_iret C0 hr hq hH hm0 d_V_minus_35 h
def f_V_minus_54   (g : Nat → Nat) (v : mS) : Option (bO Int32) := some (.inl ((-1)), g, v)
set_option maxHeartbeats 4000000 in
set_option maxRecDepth 100000 in
theorem w_V_minus_54 {p : Program} {l : Launch} {e : Env} {s : State} {m : MethodId} {args : Array Value} {below : List Frame} {meth : Method} {c : Code} {Z : bZ} {A : Nat → Prop} {q0 g0 : Nat → Nat} {o : bO Int32}  (C0 : bn_C "FilterBench$Values" b_V_minus 6 Z A p l s m args meth c) (hr : meth.sig.returnType = (some .int)) (hnx : ∀ x ∈ c.exceptionTable.toList, False) : ∀  (g : Nat → Nat) (v : mS) (q : Nat → Nat) (H : Heap) (locs : List Loc) (ls : Array Slot), f_V_minus_54   g v = some o → qs q0 q → gL g0 ≤ gL g → gL g ≤ gL o.2.1 → bn_H Z A s (q, g, v) H locs → lv_has ls 6 [] → bx_W p l e s m args below meth c Z A q0 g0 enI o 31 g H locs (F0 m 54 ls []) := by
  have hx := C0.1
  have hb := C0.2.1
  have hl0 := C0.2.2.2.2.2.2.2.2.2
  intro  g v q H locs ls h hq hm0 hm hH hl
  unfold f_V_minus_54 at h
  have hcl9 := bx_room (h0 := 31) (o := o) hm0 hm
  refine lv_iconst (v := (-1)) hx hb d_V_minus_54 (by decide) ?_
  exact bx_iret C0 hr hq hH hm0 d_V_minus_55 h
def f_V_minus_137 (K61 : Int32 → Int32 → Int32 → Int32 → (Nat → Nat) → mS → Option (bO Int32)) (x1 : Int32) (x2 : Int32) (x3 : Int32) (x4 : Int32) (g : Nat → Nat) (v : mS) : Option (bO Int32) := nm (x4 + 1) fun x4_1 => K61 x1 x2 x3 x4_1 g v
set_option maxHeartbeats 4000000 in
set_option maxRecDepth 100000 in
theorem w_V_minus_137 {p : Program} {l : Launch} {e : Env} {s : State} {m : MethodId} {args : Array Value} {below : List Frame} {meth : Method} {c : Code} {Z : bZ} {A : Nat → Prop} {q0 g0 : Nat → Nat} {o : bO Int32}  (C0 : bn_C "FilterBench$Values" b_V_minus 6 Z A p l s m args meth c) (hr : meth.sig.returnType = (some .int)) (hnx : ∀ x ∈ c.exceptionTable.toList, False) {K61 : Int32 → Int32 → Int32 → Int32 → (Nat → Nat) → mS → Option (bO Int32)} (hK61 : ∀ (x1 : Int32) (x2 : Int32) (x3 : Int32) (x4 : Int32) (g : Nat → Nat) (v : mS) (q : Nat → Nat) (H : Heap) (locs : List Loc) (ls : Array Slot), K61 x1 x2 x3 x4 g v = some o → qs q0 q → gL g0 ≤ gL g → gL g ≤ gL o.2.1 → bn_H Z A s (q, g, v) H locs → lv_has ls 6 [(0, .ref (q 1)), (1, .int x1), (2, .int x2), (3, .int x3), (4, .int x4)] → bx_W p l e s m args below meth c Z A q0 g0 enI o 31 g H locs (F0 m 61 ls [])) : ∀ (x1 : Int32) (x2 : Int32) (x3 : Int32) (x4 : Int32) (g : Nat → Nat) (v : mS) (q : Nat → Nat) (H : Heap) (locs : List Loc) (ls : Array Slot), f_V_minus_137 K61 x1 x2 x3 x4 g v = some o → qs q0 q → gL g0 ≤ gL g → gL g ≤ gL o.2.1 → bn_H Z A s (q, g, v) H locs → lv_has ls 6 [(0, .ref (q 1)), (1, .int x1), (2, .int x2), (3, .int x3), (4, .int x4)] → bx_W p l e s m args below meth c Z A q0 g0 enI o 31 g H locs (F0 m 137 ls []) := by
  have hx := C0.1
  have hb := C0.2.1
  have hl0 := C0.2.2.2.2.2.2.2.2.2
  intro x1 x2 x3 x4 g v q H locs ls h hq hm0 hm hH hl
  unfold f_V_minus_137 at h
  have hcl9 := bx_room (h0 := 31) (o := o) hm0 hm
  obtain ⟨x4_1, hx4_1, h⟩ := nm_out h
  refine lv_iinc (v := x4_1) (lv' := [(4, .int x4_1), (0, .ref (q 1)), (1, .int x1), (2, .int x2), (3, .int x3)]) hx hb d_V_minus_137 hl (k := 4) rfl (by rw [hx4_1]; rfl) (by decide) rfl (fun ls hl => ?_)
  refine lv_goto (tgt := 61) hx hb d_V_minus_140 (by decide) ?_
  exact hK61 _ _ _ _ _ _ _ _ _ _ h hq hm0 hm hH (lv_sub hl [1, 2, 3, 4, 0] rfl)
def f_V_minus_111 (K61 : Int32 → Int32 → Int32 → Int32 → (Nat → Nat) → mS → Option (bO Int32)) (x1 : Int32) (x2 : Int32) (x3 : Int32) (x4 : Int32) (x5 : Int32) (g : Nat → Nat) (v : mS) : Option (bO Int32) := bi (f_V_lengthOf g v x2) fun r_3 v_1 => if x5 = r_3 then (bi (f_V_itemAt g v_1 x1 x4) fun r_7 v_5 => gd (inB x3 24) (nm (sU v_5 2 (x3 : Int32).toNatClampNeg r_7) fun v_9 => nm (x3 + 1) fun x3_10 => f_V_minus_137 K61 x1 x2 x3_10 x4 g v_9)) else (f_V_minus_137 K61 x1 x2 x3 x4 g v_1)
set_option maxHeartbeats 4000000 in
set_option maxRecDepth 100000 in
theorem w_V_minus_111 {p : Program} {l : Launch} {e : Env} {s : State} {m : MethodId} {args : Array Value} {below : List Frame} {meth : Method} {c : Code} {Z : bZ} {A : Nat → Prop} {q0 g0 : Nat → Nat} {o : bO Int32}  (C0 : bn_C "FilterBench$Values" b_V_minus 6 Z A p l s m args meth c) (hr : meth.sig.returnType = (some .int)) (hnx : ∀ x ∈ c.exceptionTable.toList, False) {K61 : Int32 → Int32 → Int32 → Int32 → (Nat → Nat) → mS → Option (bO Int32)} (hK61 : ∀ (x1 : Int32) (x2 : Int32) (x3 : Int32) (x4 : Int32) (g : Nat → Nat) (v : mS) (q : Nat → Nat) (H : Heap) (locs : List Loc) (ls : Array Slot), K61 x1 x2 x3 x4 g v = some o → qs q0 q → gL g0 ≤ gL g → gL g ≤ gL o.2.1 → bn_H Z A s (q, g, v) H locs → lv_has ls 6 [(0, .ref (q 1)), (1, .int x1), (2, .int x2), (3, .int x3), (4, .int x4)] → bx_W p l e s m args below meth c Z A q0 g0 enI o 31 g H locs (F0 m 61 ls [])) : ∀ (x1 : Int32) (x2 : Int32) (x3 : Int32) (x4 : Int32) (x5 : Int32) (g : Nat → Nat) (v : mS) (q : Nat → Nat) (H : Heap) (locs : List Loc) (ls : Array Slot), f_V_minus_111 K61 x1 x2 x3 x4 x5 g v = some o → qs q0 q → gL g0 ≤ gL g → gL g ≤ gL o.2.1 → bn_H Z A s (q, g, v) H locs → lv_has ls 6 [(0, .ref (q 1)), (1, .int x1), (2, .int x2), (3, .int x3), (4, .int x4), (5, .int x5)] → bx_W p l e s m args below meth c Z A q0 g0 enI o 31 g H locs (F0 m 111 ls []) := by
  have hx := C0.1
  have hb := C0.2.1
  have hl0 := C0.2.2.2.2.2.2.2.2.2
  intro x1 x2 x3 x4 x5 g v q H locs ls h hq hm0 hm hH hl
  unfold f_V_minus_111 at h
  have hcl9 := bx_room (h0 := 31) (o := o) hm0 hm
  refine lv_iload hx hb d_V_minus_111 (lv_at hl 5 rfl) ?_
  refine lv_aload_n hx hb d_V_minus_113 rfl (lv_at hl 0 rfl) ?_
  refine lv_iload_n hx hb d_V_minus_114 rfl (lv_at hl 2 rfl) ?_
  obtain ⟨r_3, v_1, hc_2, h⟩ := bi_out h
  refine bn_ci (r := r_3) (w := (q, g, v_1)) (as := [.int x2]) (rest := [.int x5]) C0 hH (ci := 4) ⟨by decide, by decide⟩ (by decide) rfl (c_V_lengthOf hl0 hc_2) yy_V_lengthOf q_383 ⟨by simp only [bn_rm, dK]; omega, by simp only [bn_rm, dK]; omega⟩ rfl hl.1 rfl (Nat.le_of_ble_eq_true rfl) hcl9 d_V_minus_115 (fun H locs hH => ?_)
  refine lv_icmp_ne (tgt := 137) hx hb d_V_minus_118 (by decide) (fun c_4 => ?_) (fun c_4 => ?_)
  · rw [if_neg c_4] at h
    exact w_V_minus_137 C0 hr hnx hK61 _ _ _ _ _ _ _ _ _ _ h hq hm0 hm hH (lv_sub hl [0, 1, 2, 3, 4] rfl)
  · rw [if_pos c_4] at h
    refine lv_aload_n hx hb d_V_minus_121 rfl (lv_at hl 0 rfl) ?_
    refine bn_g_V_items ⟨by decide, by decide⟩ C0 hH d_V_minus_122 ?_
    refine lv_iload_n hx hb d_V_minus_125 rfl (lv_at hl 3 rfl) ?_
    refine lv_aload_n hx hb d_V_minus_126 rfl (lv_at hl 0 rfl) ?_
    refine lv_iload_n hx hb d_V_minus_127 rfl (lv_at hl 1 rfl) ?_
    refine lv_iload hx hb d_V_minus_128 (lv_at hl 4 rfl) ?_
    obtain ⟨r_7, v_5, hc_6, h⟩ := bi_out h
    refine bn_ci (r := r_7) (w := (q, g, v_5)) (as := [.int x1, .int x4]) (rest := [.int x3, .ref (q 2)]) C0 hH (ci := 4) ⟨by decide, by decide⟩ (by decide) rfl (c_V_itemAt hl0 hc_6) yy_V_itemAt q_543 ⟨by simp only [bn_rm, dK]; omega, by simp only [bn_rm, dK]; omega⟩ rfl hl.1 rfl (Nat.le_of_ble_eq_true rfl) hcl9 d_V_minus_130 (fun H locs hH => ?_)
    obtain ⟨g_8, h⟩ := gd_out h
    obtain ⟨v_9, hv_9, h⟩ := nm_out h
    refine bn_sto ⟨by decide, by decide⟩ C0 hH (inB_in g_8) d_V_minus_133 (fun H locs hH => ?_)
    have hH : bn_H Z A s (q, g, v_9) H locs := by rw [hv_9]; exact hH
    obtain ⟨x3_10, hx3_10, h⟩ := nm_out h
    refine lv_iinc (v := x3_10) (lv' := [(3, .int x3_10), (0, .ref (q 1)), (1, .int x1), (2, .int x2), (4, .int x4), (5, .int x5)]) hx hb d_V_minus_134 hl (k := 3) rfl (by rw [hx3_10]; rfl) (by decide) rfl (fun ls hl => ?_)
    exact w_V_minus_137 C0 hr hnx hK61 _ _ _ _ _ _ _ _ _ _ h hq hm0 hm hH (lv_sub hl [1, 2, 3, 0, 4] rfl)
def f_V_minus_74 (K61 : Int32 → Int32 → Int32 → Int32 → (Nat → Nat) → mS → Option (bO Int32)) : Nat → Int32 → Int32 → Int32 → Int32 → Int32 → (Nat → Nat) → mS → Option (bO Int32)
  | 0, _, _, _, _, _, _, _ => none
  | n + 1, x1, x2, x3, x4, x5, g, v => bi (f_V_lengthOf g v x2) fun r_3 v_1 => if r_3 ≤ x5 then (f_V_minus_111 K61 x1 x2 x3 x4 x5 g v_1) else (bi (f_V_itemAt g v_1 x1 x4) fun r_7 v_5 => bi (f_V_itemAt g v_5 x2 x5) fun r_10 v_8 => bi (f_V_compared dK g v_8 r_7 r_10) fun r_13 v_11 => if r_13 = 0 then (f_V_minus_111 K61 x1 x2 x3 x4 x5 g v_11) else (nm (x5 + 1) fun x5_15 => f_V_minus_74 K61 n x1 x2 x3 x4 x5_15 g v_11))
set_option maxHeartbeats 4000000 in
set_option maxRecDepth 100000 in
theorem w_V_minus_74 {p : Program} {l : Launch} {e : Env} {s : State} {m : MethodId} {args : Array Value} {below : List Frame} {meth : Method} {c : Code} {Z : bZ} {A : Nat → Prop} {q0 g0 : Nat → Nat} {o : bO Int32}  (C0 : bn_C "FilterBench$Values" b_V_minus 6 Z A p l s m args meth c) (hr : meth.sig.returnType = (some .int)) (hnx : ∀ x ∈ c.exceptionTable.toList, False) {K61 : Int32 → Int32 → Int32 → Int32 → (Nat → Nat) → mS → Option (bO Int32)} (hK61 : ∀ (x1 : Int32) (x2 : Int32) (x3 : Int32) (x4 : Int32) (g : Nat → Nat) (v : mS) (q : Nat → Nat) (H : Heap) (locs : List Loc) (ls : Array Slot), K61 x1 x2 x3 x4 g v = some o → qs q0 q → gL g0 ≤ gL g → gL g ≤ gL o.2.1 → bn_H Z A s (q, g, v) H locs → lv_has ls 6 [(0, .ref (q 1)), (1, .int x1), (2, .int x2), (3, .int x3), (4, .int x4)] → bx_W p l e s m args below meth c Z A q0 g0 enI o 31 g H locs (F0 m 61 ls [])) : ∀ (n : Nat) (x1 : Int32) (x2 : Int32) (x3 : Int32) (x4 : Int32) (x5 : Int32) (g : Nat → Nat) (v : mS) (q : Nat → Nat) (H : Heap) (locs : List Loc) (ls : Array Slot), f_V_minus_74 K61 n x1 x2 x3 x4 x5 g v = some o → qs q0 q → gL g0 ≤ gL g → gL g ≤ gL o.2.1 → bn_H Z A s (q, g, v) H locs → lv_has ls 6 [(0, .ref (q 1)), (1, .int x1), (2, .int x2), (3, .int x3), (4, .int x4), (5, .int x5)] → bx_W p l e s m args below meth c Z A q0 g0 enI o 31 g H locs (F0 m 74 ls []) := by
  have hx := C0.1
  have hb := C0.2.1
  have hl0 := C0.2.2.2.2.2.2.2.2.2
  intro n
  induction n with
  | zero =>
    intro x1 x2 x3 x4 x5 g v q H locs ls h hq hm0 hm hH hl
    cases h
  | succ n ih =>
    intro x1 x2 x3 x4 x5 g v q H locs ls h hq hm0 hm hH hl
    rw [f_V_minus_74] at h
    have hcl9 := bx_room (h0 := 31) (o := o) hm0 hm
    refine lv_iload hx hb d_V_minus_74 (lv_at hl 5 rfl) ?_
    refine lv_aload_n hx hb d_V_minus_76 rfl (lv_at hl 0 rfl) ?_
    refine lv_iload_n hx hb d_V_minus_77 rfl (lv_at hl 2 rfl) ?_
    obtain ⟨r_3, v_1, hc_2, h⟩ := bi_out h
    refine bn_ci (r := r_3) (w := (q, g, v_1)) (as := [.int x2]) (rest := [.int x5]) C0 hH (ci := 4) ⟨by decide, by decide⟩ (by decide) rfl (c_V_lengthOf hl0 hc_2) yy_V_lengthOf q_383 ⟨by simp only [bn_rm, dK]; omega, by simp only [bn_rm, dK]; omega⟩ rfl hl.1 rfl (Nat.le_of_ble_eq_true rfl) hcl9 d_V_minus_78 (fun H locs hH => ?_)
    refine lv_icmp_ge (tgt := 111) hx hb d_V_minus_81 (by decide) (fun c_4 => ?_) (fun c_4 => ?_)
    · rw [if_pos c_4] at h
      exact w_V_minus_111 C0 hr hnx hK61 _ _ _ _ _ _ _ _ _ _ _ h hq hm0 hm hH (lv_sub hl [0, 1, 2, 3, 4, 5] rfl)
    · rw [if_neg c_4] at h
      refine lv_aload_n hx hb d_V_minus_84 rfl (lv_at hl 0 rfl) ?_
      refine lv_aload_n hx hb d_V_minus_85 rfl (lv_at hl 0 rfl) ?_
      refine lv_iload_n hx hb d_V_minus_86 rfl (lv_at hl 1 rfl) ?_
      refine lv_iload hx hb d_V_minus_87 (lv_at hl 4 rfl) ?_
      obtain ⟨r_7, v_5, hc_6, h⟩ := bi_out h
      refine bn_ci (r := r_7) (w := (q, g, v_5)) (as := [.int x1, .int x4]) (rest := [.ref (q 1)]) C0 hH (ci := 4) ⟨by decide, by decide⟩ (by decide) rfl (c_V_itemAt hl0 hc_6) yy_V_itemAt q_543 ⟨by simp only [bn_rm, dK]; omega, by simp only [bn_rm, dK]; omega⟩ rfl hl.1 rfl (Nat.le_of_ble_eq_true rfl) hcl9 d_V_minus_89 (fun H locs hH => ?_)
      refine lv_aload_n hx hb d_V_minus_92 rfl (lv_at hl 0 rfl) ?_
      refine lv_iload_n hx hb d_V_minus_93 rfl (lv_at hl 2 rfl) ?_
      refine lv_iload hx hb d_V_minus_94 (lv_at hl 5 rfl) ?_
      obtain ⟨r_10, v_8, hc_9, h⟩ := bi_out h
      refine bn_ci (r := r_10) (w := (q, g, v_8)) (as := [.int x2, .int x5]) (rest := [.int r_7, .ref (q 1)]) C0 hH (ci := 4) ⟨by decide, by decide⟩ (by decide) rfl (c_V_itemAt hl0 hc_9) yy_V_itemAt q_543 ⟨by simp only [bn_rm, dK]; omega, by simp only [bn_rm, dK]; omega⟩ rfl hl.1 rfl (Nat.le_of_ble_eq_true rfl) hcl9 d_V_minus_96 (fun H locs hH => ?_)
      obtain ⟨r_13, v_11, hc_12, h⟩ := bi_out h
      refine bn_ci (r := r_13) (w := (q, g, v_11)) (as := [.int r_7, .int r_10]) (rest := []) C0 hH (ci := 4) ⟨by decide, by decide⟩ (by decide) rfl (c_V_comparedn hl0 dK hc_12) yy_V_compared q_670 ⟨by simp only [bn_rm, dK]; omega, by simp only [bn_rm, dK]; omega⟩ rfl hl.1 rfl (Nat.le_of_ble_eq_true rfl) hcl9 d_V_minus_99 (fun H locs hH => ?_)
      refine lv_if_eq (tgt := 111) hx hb d_V_minus_102 (by decide) (fun c_14 => ?_) (fun c_14 => ?_)
      · rw [if_pos c_14] at h
        exact w_V_minus_111 C0 hr hnx hK61 _ _ _ _ _ _ _ _ _ _ _ h hq hm0 hm hH (lv_sub hl [0, 1, 2, 3, 4, 5] rfl)
      · rw [if_neg c_14] at h
        obtain ⟨x5_15, hx5_15, h⟩ := nm_out h
        refine lv_iinc (v := x5_15) (lv' := [(5, .int x5_15), (0, .ref (q 1)), (1, .int x1), (2, .int x2), (3, .int x3), (4, .int x4)]) hx hb d_V_minus_105 hl (k := 5) rfl (by rw [hx5_15]; rfl) (by decide) rfl (fun ls hl => ?_)
        refine lv_goto (tgt := 74) hx hb d_V_minus_108 (by decide) ?_
        exact ih _ _ _ _ _ _ _ _ _ _ _ h hq hm0 hm hH (lv_sub hl [1, 2, 3, 4, 5, 0] rfl)
def f_V_minus_152  (y0 : Int32) (g : Nat → Nat) (v : mS) : Option (bO Int32) := some (.inl (y0), g, v)
set_option maxHeartbeats 4000000 in
set_option maxRecDepth 100000 in
theorem w_V_minus_152 {p : Program} {l : Launch} {e : Env} {s : State} {m : MethodId} {args : Array Value} {below : List Frame} {meth : Method} {c : Code} {Z : bZ} {A : Nat → Prop} {q0 g0 : Nat → Nat} {o : bO Int32}  (C0 : bn_C "FilterBench$Values" b_V_minus 6 Z A p l s m args meth c) (hr : meth.sig.returnType = (some .int)) (hnx : ∀ x ∈ c.exceptionTable.toList, False) : ∀ (y0 : Int32) (g : Nat → Nat) (v : mS) (q : Nat → Nat) (H : Heap) (locs : List Loc) (ls : Array Slot), f_V_minus_152  y0 g v = some o → qs q0 q → gL g0 ≤ gL g → gL g ≤ gL o.2.1 → bn_H Z A s (q, g, v) H locs → lv_has ls 6 [] → bx_W p l e s m args below meth c Z A q0 g0 enI o 31 g H locs (F0 m 152 ls [.int y0]) := by
  have hx := C0.1
  have hb := C0.2.1
  have hl0 := C0.2.2.2.2.2.2.2.2.2
  intro y0 g v q H locs ls h hq hm0 hm hH hl
  unfold f_V_minus_152 at h
  have hcl9 := bx_room (h0 := 31) (o := o) hm0 hm
  exact bx_iret C0 hr hq hH hm0 d_V_minus_152 h
def f_V_minus_61  : Nat → Int32 → Int32 → Int32 → Int32 → (Nat → Nat) → mS → Option (bO Int32)
  | 0, _, _, _, _, _, _ => none
  | n + 1, x1, x2, x3, x4, g, v => bi (f_V_lengthOf g v x1) fun r_3 v_1 => if r_3 ≤ x4 then (bo (f_V_arrayOf g v_1 2 x3) fun r9 g9 v9 => f_V_minus_152 r9 g9 v9) else (f_V_minus_74 (f_V_minus_61 n) fu x1 x2 x3 x4 0 g v_1)
set_option maxHeartbeats 4000000 in
set_option maxRecDepth 100000 in
theorem w_V_minus_61 {p : Program} {l : Launch} {e : Env} {s : State} {m : MethodId} {args : Array Value} {below : List Frame} {meth : Method} {c : Code} {Z : bZ} {A : Nat → Prop} {q0 g0 : Nat → Nat} {o : bO Int32}  (C0 : bn_C "FilterBench$Values" b_V_minus 6 Z A p l s m args meth c) (hr : meth.sig.returnType = (some .int)) (hnx : ∀ x ∈ c.exceptionTable.toList, False) : ∀ (n : Nat) (x1 : Int32) (x2 : Int32) (x3 : Int32) (x4 : Int32) (g : Nat → Nat) (v : mS) (q : Nat → Nat) (H : Heap) (locs : List Loc) (ls : Array Slot), f_V_minus_61  n x1 x2 x3 x4 g v = some o → qs q0 q → gL g0 ≤ gL g → gL g ≤ gL o.2.1 → bn_H Z A s (q, g, v) H locs → lv_has ls 6 [(0, .ref (q 1)), (1, .int x1), (2, .int x2), (3, .int x3), (4, .int x4)] → bx_W p l e s m args below meth c Z A q0 g0 enI o 31 g H locs (F0 m 61 ls []) := by
  have hx := C0.1
  have hb := C0.2.1
  have hl0 := C0.2.2.2.2.2.2.2.2.2
  intro n
  induction n with
  | zero =>
    intro x1 x2 x3 x4 g v q H locs ls h hq hm0 hm hH hl
    cases h
  | succ n ih =>
    intro x1 x2 x3 x4 g v q H locs ls h hq hm0 hm hH hl
    rw [f_V_minus_61] at h
    have hcl9 := bx_room (h0 := 31) (o := o) hm0 hm
    refine lv_iload hx hb d_V_minus_61 (lv_at hl 4 rfl) ?_
    refine lv_aload_n hx hb d_V_minus_63 rfl (lv_at hl 0 rfl) ?_
    refine lv_iload_n hx hb d_V_minus_64 rfl (lv_at hl 1 rfl) ?_
    obtain ⟨r_3, v_1, hc_2, h⟩ := bi_out h
    refine bn_ci (r := r_3) (w := (q, g, v_1)) (as := [.int x1]) (rest := [.int x4]) C0 hH (ci := 4) ⟨by decide, by decide⟩ (by decide) rfl (c_V_lengthOf hl0 hc_2) yy_V_lengthOf q_383 ⟨by simp only [bn_rm, dK]; omega, by simp only [bn_rm, dK]; omega⟩ rfl hl.1 rfl (Nat.le_of_ble_eq_true rfl) hcl9 d_V_minus_65 (fun H locs hH => ?_)
    refine lv_icmp_ge (tgt := 143) hx hb d_V_minus_68 (by decide) (fun c_4 => ?_) (fun c_4 => ?_)
    · rw [if_pos c_4] at h
      refine lv_aload_n hx hb d_V_minus_143 rfl (lv_at hl 0 rfl) ?_
      refine lv_aload_n hx hb d_V_minus_144 rfl (lv_at hl 0 rfl) ?_
      refine bn_g_V_items ⟨by decide, by decide⟩ C0 hH d_V_minus_145 ?_
      refine lv_iload_n hx hb d_V_minus_148 rfl (lv_at hl 3 rfl) ?_
      obtain ⟨o1, hc, hm2, ht9, hx1, hk9⟩ := bo_out h
      have hm1 := mn_V_arrayOf hc
      refine bx_cV (as := [.ref (q 2), .int x3]) (rest := []) C0 hnx hq hH hm0 hm1 hm2 ht9 (ci := 4) ⟨by decide, by decide⟩ (by decide) rfl (c_V_arrayOf hl0 hc) yy_V_arrayOf q_695 ⟨by first | omega | (simp only [dK]; omega), by first | omega | (simp only [dK]; omega)⟩ rfl hl.1 rfl (Nat.le_of_ble_eq_true rfl) d_V_minus_149 hx1 (fun r9 q1 H locs hr1 hq0 hq1 hm9 hH => ?_)
      have h := hk9 r9 hr1
      exact w_V_minus_152 C0 hr hnx  _ _ _ _ _ _ _ h hq0 hm9 hm2 hH (lv_sub hl [] rfl)
    · rw [if_neg c_4] at h
      refine lv_iconst (v := 0) hx hb d_V_minus_71 (by decide) ?_
      refine lv_istore (lv' := [(5, .int 0), (0, .ref (q 1)), (1, .int x1), (2, .int x2), (3, .int x3), (4, .int x4)]) hx hb d_V_minus_72 hl (by decide) rfl (fun ls hl => ?_)
      exact w_V_minus_74 C0 hr hnx ih fu _ _ _ _ _ _ _ _ _ _ _ h hq hm0 hm hH (lv_sub hl [1, 2, 3, 4, 5, 0] rfl)
def f_V_minus_36  (x1 : Int32) (x2 : Int32) (g : Nat → Nat) (v : mS) : Option (bO Int32) := bi (f_V_kindOf g v x1) fun r_3 v_1 => if r_3 = 5 then (bi (f_V_kindOf g v_1 x2) fun r_7 v_5 => if r_7 = 5 then (f_V_minus_61 fu x1 x2 0 0 g v_5) else (f_V_minus_54 g v_5)) else (f_V_minus_54 g v_1)
set_option maxHeartbeats 4000000 in
set_option maxRecDepth 100000 in
theorem w_V_minus_36 {p : Program} {l : Launch} {e : Env} {s : State} {m : MethodId} {args : Array Value} {below : List Frame} {meth : Method} {c : Code} {Z : bZ} {A : Nat → Prop} {q0 g0 : Nat → Nat} {o : bO Int32}  (C0 : bn_C "FilterBench$Values" b_V_minus 6 Z A p l s m args meth c) (hr : meth.sig.returnType = (some .int)) (hnx : ∀ x ∈ c.exceptionTable.toList, False) : ∀ (x1 : Int32) (x2 : Int32) (g : Nat → Nat) (v : mS) (q : Nat → Nat) (H : Heap) (locs : List Loc) (ls : Array Slot), f_V_minus_36  x1 x2 g v = some o → qs q0 q → gL g0 ≤ gL g → gL g ≤ gL o.2.1 → bn_H Z A s (q, g, v) H locs → lv_has ls 6 [(0, .ref (q 1)), (1, .int x1), (2, .int x2)] → bx_W p l e s m args below meth c Z A q0 g0 enI o 31 g H locs (F0 m 36 ls []) := by
  have hx := C0.1
  have hb := C0.2.1
  have hl0 := C0.2.2.2.2.2.2.2.2.2
  intro x1 x2 g v q H locs ls h hq hm0 hm hH hl
  unfold f_V_minus_36 at h
  have hcl9 := bx_room (h0 := 31) (o := o) hm0 hm
  refine lv_aload_n hx hb d_V_minus_36 rfl (lv_at hl 0 rfl) ?_
  refine lv_iload_n hx hb d_V_minus_37 rfl (lv_at hl 1 rfl) ?_
  obtain ⟨r_3, v_1, hc_2, h⟩ := bi_out h
  refine bn_ci (r := r_3) (w := (q, g, v_1)) (as := [.int x1]) (rest := []) C0 hH (ci := 4) ⟨by decide, by decide⟩ (by decide) rfl (c_V_kindOf hl0 hc_2) yy_V_kindOf q_519 ⟨by simp only [bn_rm, dK]; omega, by simp only [bn_rm, dK]; omega⟩ rfl hl.1 rfl (Nat.le_of_ble_eq_true rfl) hcl9 d_V_minus_38 (fun H locs hH => ?_)
  refine lv_iconst (v := 5) hx hb d_V_minus_41 (by decide) ?_
  refine lv_icmp_ne (tgt := 54) hx hb d_V_minus_42 (by decide) (fun c_4 => ?_) (fun c_4 => ?_)
  · rw [if_neg c_4] at h
    exact w_V_minus_54 C0 hr hnx   _ _ _ _ _ _ h hq hm0 hm hH (lv_sub hl [] rfl)
  · rw [if_pos c_4] at h
    refine lv_aload_n hx hb d_V_minus_45 rfl (lv_at hl 0 rfl) ?_
    refine lv_iload_n hx hb d_V_minus_46 rfl (lv_at hl 2 rfl) ?_
    obtain ⟨r_7, v_5, hc_6, h⟩ := bi_out h
    refine bn_ci (r := r_7) (w := (q, g, v_5)) (as := [.int x2]) (rest := []) C0 hH (ci := 4) ⟨by decide, by decide⟩ (by decide) rfl (c_V_kindOf hl0 hc_6) yy_V_kindOf q_519 ⟨by simp only [bn_rm, dK]; omega, by simp only [bn_rm, dK]; omega⟩ rfl hl.1 rfl (Nat.le_of_ble_eq_true rfl) hcl9 d_V_minus_47 (fun H locs hH => ?_)
    refine lv_iconst (v := 5) hx hb d_V_minus_50 (by decide) ?_
    refine lv_icmp_eq (tgt := 56) hx hb d_V_minus_51 (by decide) (fun c_8 => ?_) (fun c_8 => ?_)
    · rw [if_pos c_8] at h
      refine lv_iconst (v := 0) hx hb d_V_minus_56 (by decide) ?_
      refine lv_istore_n (lv' := [(3, .int 0), (0, .ref (q 1)), (1, .int x1), (2, .int x2)]) hx hb d_V_minus_57 rfl hl (by decide) rfl (fun ls hl => ?_)
      refine lv_iconst (v := 0) hx hb d_V_minus_58 (by decide) ?_
      refine lv_istore (lv' := [(4, .int 0), (3, .int 0), (0, .ref (q 1)), (1, .int x1), (2, .int x2)]) hx hb d_V_minus_59 hl (by decide) rfl (fun ls hl => ?_)
      exact w_V_minus_61 C0 hr hnx  fu _ _ _ _ _ _ _ _ _ _ h hq hm0 hm hH (lv_sub hl [2, 3, 4, 1, 0] rfl)
    · rw [if_neg c_8] at h
      exact w_V_minus_54 C0 hr hnx   _ _ _ _ _ _ h hq hm0 hm hH (lv_sub hl [] rfl)
def f_V_minus (g : Nat → Nat) (v : mS) (x1 : Int32) (x2 : Int32) : Option (bO Int32) := mg g (bi (f_V_kindOf g v x1) fun r_3 v_1 => if r_3 = 3 then (bi (f_V_kindOf g v_1 x2) fun r_7 v_5 => if r_7 = 3 then (bi (f_V_millionthsOf g v_5 x1) fun r_11 v_9 => bi (f_V_millionthsOf g v_9 x2) fun r_14 v_12 => bo (f_V_numberOf g v_12 (r_11 - r_14) 6) fun r9 g9 v9 => f_V_minus_35 r9 g9 v9) else (f_V_minus_36 x1 x2 g v_5)) else (f_V_minus_36 x1 x2 g v_1))
theorem mn_V_minus {g : Nat → Nat} {v : mS}  {x1 : Int32} {x2 : Int32} {o : bO Int32} (h : f_V_minus g v x1 x2 = some o) : gL g ≤ gL o.2.1 := (mg_out h).1
set_option maxHeartbeats 4000000 in
set_option maxRecDepth 100000 in
theorem c_V_minus {l : Launch} {Z : bZ} (hl0 : l.stackTraces = false) {q g : Nat → Nat} {v : mS}  {x1 : Int32} {x2 : Int32} {o : bO Int32} (h : f_V_minus g v x1 x2 = some o) : bx_M l Z 31 y_V_minus b_V_minus 6 (some .int) [.ref (q 1), .int x1, .int x2] q g v enI o := by
  refine bx_of hl0 (by decide +kernel) (Nat.le_of_ble_eq_true rfl) ?_
  intro p e s m args below meth c A ls C0 hr hnx hl hH
  have hx := C0.1
  have hb := C0.2.1
  have C0 : bn_C "FilterBench$Values" b_V_minus 6 Z A p l s m args meth c := C0
  have hl : lv_has ls 6 [(0, .ref (q 1)), (1, .int x1), (2, .int x2)] := hl
  obtain ⟨hm, h⟩ := mg_out h
  have hm0 : gL g ≤ gL g := Nat.le_refl _
  have hq : qs q q := qs.rf
  have hcl9 := bx_room (h0 := 31) (o := o) hm0 hm
  refine lv_aload_n hx hb d_V_minus_0 rfl (lv_at hl 0 rfl) ?_
  refine lv_iload_n hx hb d_V_minus_1 rfl (lv_at hl 1 rfl) ?_
  obtain ⟨r_3, v_1, hc_2, h⟩ := bi_out h
  refine bn_ci (r := r_3) (w := (q, g, v_1)) (as := [.int x1]) (rest := []) C0 hH (ci := 4) ⟨by decide, by decide⟩ (by decide) rfl (c_V_kindOf hl0 hc_2) yy_V_kindOf q_519 ⟨by simp only [bn_rm, dK]; omega, by simp only [bn_rm, dK]; omega⟩ rfl hl.1 rfl (Nat.le_of_ble_eq_true rfl) hcl9 d_V_minus_2 (fun H locs hH => ?_)
  refine lv_iconst (v := 3) hx hb d_V_minus_5 (by decide) ?_
  refine lv_icmp_ne (tgt := 36) hx hb d_V_minus_6 (by decide) (fun c_4 => ?_) (fun c_4 => ?_)
  · rw [if_neg c_4] at h
    exact w_V_minus_36 C0 hr hnx  _ _ _ _ _ _ _ _ h hq hm0 hm hH (lv_sub hl [0, 1, 2] rfl)
  · rw [if_pos c_4] at h
    refine lv_aload_n hx hb d_V_minus_9 rfl (lv_at hl 0 rfl) ?_
    refine lv_iload_n hx hb d_V_minus_10 rfl (lv_at hl 2 rfl) ?_
    obtain ⟨r_7, v_5, hc_6, h⟩ := bi_out h
    refine bn_ci (r := r_7) (w := (q, g, v_5)) (as := [.int x2]) (rest := []) C0 hH (ci := 4) ⟨by decide, by decide⟩ (by decide) rfl (c_V_kindOf hl0 hc_6) yy_V_kindOf q_519 ⟨by simp only [bn_rm, dK]; omega, by simp only [bn_rm, dK]; omega⟩ rfl hl.1 rfl (Nat.le_of_ble_eq_true rfl) hcl9 d_V_minus_11 (fun H locs hH => ?_)
    refine lv_iconst (v := 3) hx hb d_V_minus_14 (by decide) ?_
    refine lv_icmp_ne (tgt := 36) hx hb d_V_minus_15 (by decide) (fun c_8 => ?_) (fun c_8 => ?_)
    · rw [if_neg c_8] at h
      exact w_V_minus_36 C0 hr hnx  _ _ _ _ _ _ _ _ h hq hm0 hm hH (lv_sub hl [0, 1, 2] rfl)
    · rw [if_pos c_8] at h
      refine lv_aload_n hx hb d_V_minus_18 rfl (lv_at hl 0 rfl) ?_
      refine lv_aload_n hx hb d_V_minus_19 rfl (lv_at hl 0 rfl) ?_
      refine lv_iload_n hx hb d_V_minus_20 rfl (lv_at hl 1 rfl) ?_
      obtain ⟨r_11, v_9, hc_10, h⟩ := bi_out h
      refine bn_cl (r := r_11) (w := (q, g, v_9)) (as := [.int x1]) (rest := [.ref (q 1)]) C0 hH (ci := 4) ⟨by decide, by decide⟩ (by decide) rfl (c_V_millionthsOf hl0 hc_10) yy_V_millionthsOf q_649 ⟨by simp only [bn_rm, dK]; omega, by simp only [bn_rm, dK]; omega⟩ rfl hl.1 rfl (Nat.le_of_ble_eq_true rfl) hcl9 d_V_minus_21 (fun H locs hH => ?_)
      refine lv_aload_n hx hb d_V_minus_24 rfl (lv_at hl 0 rfl) ?_
      refine lv_iload_n hx hb d_V_minus_25 rfl (lv_at hl 2 rfl) ?_
      obtain ⟨r_14, v_12, hc_13, h⟩ := bi_out h
      refine bn_cl (r := r_14) (w := (q, g, v_12)) (as := [.int x2]) (rest := [.long r_11, .ref (q 1)]) C0 hH (ci := 4) ⟨by decide, by decide⟩ (by decide) rfl (c_V_millionthsOf hl0 hc_13) yy_V_millionthsOf q_649 ⟨by simp only [bn_rm, dK]; omega, by simp only [bn_rm, dK]; omega⟩ rfl hl.1 rfl (Nat.le_of_ble_eq_true rfl) hcl9 d_V_minus_26 (fun H locs hH => ?_)
      refine lv_lsub hx hb d_V_minus_29 ?_
      refine lv_bipush (v := 6) hx hb d_V_minus_30 (by decide) ?_
      obtain ⟨o1, hc, hm2, ht9, hx1, hk9⟩ := bo_out h
      have hm1 := mn_V_numberOf hc
      refine bx_cV (as := [.long (r_11 - r_14), .int 6]) (rest := []) C0 hnx hq hH hm0 hm1 hm2 ht9 (ci := 4) ⟨by decide, by decide⟩ (by decide) rfl (c_V_numberOf hl0 hc) yy_V_numberOf q_682 ⟨by first | omega | (simp only [dK]; omega), by first | omega | (simp only [dK]; omega)⟩ rfl hl.1 rfl (Nat.le_of_ble_eq_true rfl) d_V_minus_32 hx1 (fun r9 q1 H locs hr1 hq0 hq1 hm9 hH => ?_)
      have h := hk9 r9 hr1
      exact w_V_minus_35 C0 hr hnx  _ _ _ _ _ _ _ h hq0 hm9 hm2 hH (lv_sub hl [] rfl)
def f_V_times_18   (g : Nat → Nat) (v : mS) : Option (bO Int32) := some (.inl ((-1)), g, v)
set_option maxHeartbeats 4000000 in
set_option maxRecDepth 100000 in
theorem w_V_times_18 {p : Program} {l : Launch} {e : Env} {s : State} {m : MethodId} {args : Array Value} {below : List Frame} {meth : Method} {c : Code} {Z : bZ} {A : Nat → Prop} {q0 g0 : Nat → Nat} {o : bO Int32}  (C0 : bn_C "FilterBench$Values" b_V_times 3 Z A p l s m args meth c) (hr : meth.sig.returnType = (some .int)) (hnx : ∀ x ∈ c.exceptionTable.toList, False) : ∀  (g : Nat → Nat) (v : mS) (q : Nat → Nat) (H : Heap) (locs : List Loc) (ls : Array Slot), f_V_times_18   g v = some o → qs q0 q → gL g0 ≤ gL g → gL g ≤ gL o.2.1 → bn_H Z A s (q, g, v) H locs → lv_has ls 3 [] → bx_W p l e s m args below meth c Z A q0 g0 enI o 8 g H locs (F0 m 18 ls []) := by
  have hx := C0.1
  have hb := C0.2.1
  have hl0 := C0.2.2.2.2.2.2.2.2.2
  intro  g v q H locs ls h hq hm0 hm hH hl
  unfold f_V_times_18 at h
  have hcl9 := bx_room (h0 := 8) (o := o) hm0 hm
  refine lv_iconst (v := (-1)) hx hb d_V_times_18 (by decide) ?_
  exact bx_iret C0 hr hq hH hm0 d_V_times_19 h
def f_V_times_48  (y0 : Int32) (g : Nat → Nat) (v : mS) : Option (bO Int32) := some (.inl (y0), g, v)
set_option maxHeartbeats 4000000 in
set_option maxRecDepth 100000 in
theorem w_V_times_48 {p : Program} {l : Launch} {e : Env} {s : State} {m : MethodId} {args : Array Value} {below : List Frame} {meth : Method} {c : Code} {Z : bZ} {A : Nat → Prop} {q0 g0 : Nat → Nat} {o : bO Int32}  (C0 : bn_C "FilterBench$Values" b_V_times 3 Z A p l s m args meth c) (hr : meth.sig.returnType = (some .int)) (hnx : ∀ x ∈ c.exceptionTable.toList, False) : ∀ (y0 : Int32) (g : Nat → Nat) (v : mS) (q : Nat → Nat) (H : Heap) (locs : List Loc) (ls : Array Slot), f_V_times_48  y0 g v = some o → qs q0 q → gL g0 ≤ gL g → gL g ≤ gL o.2.1 → bn_H Z A s (q, g, v) H locs → lv_has ls 3 [] → bx_W p l e s m args below meth c Z A q0 g0 enI o 8 g H locs (F0 m 48 ls [.int y0]) := by
  have hx := C0.1
  have hb := C0.2.1
  have hl0 := C0.2.2.2.2.2.2.2.2.2
  intro y0 g v q H locs ls h hq hm0 hm hH hl
  unfold f_V_times_48 at h
  have hcl9 := bx_room (h0 := 8) (o := o) hm0 hm
  exact bx_iret C0 hr hq hH hm0 d_V_times_48 h
def f_V_times (g : Nat → Nat) (v : mS) (x1 : Int32) (x2 : Int32) : Option (bO Int32) := mg g (bi (f_V_kindOf g v x1) fun r_3 v_1 => if r_3 = 3 then (bi (f_V_kindOf g v_1 x2) fun r_7 v_5 => if r_7 = 3 then (bi (f_V_wholeOf g v_5 x1) fun r_11 v_9 => bi (f_V_wholeOf g v_9 x2) fun r_14 v_12 => bi (f_V_scaleOf g v_12 x1) fun r_17 v_15 => bi (f_V_scaleOf g v_15 x2) fun r_20 v_18 => bo (f_V_numberOf g v_18 (((r_11 : Int32).toInt64) * ((r_14 : Int32).toInt64)) (r_17 + r_20)) fun r9 g9 v9 => f_V_times_48 r9 g9 v9) else (f_V_times_18 g v_5)) else (f_V_times_18 g v_1))
theorem mn_V_times {g : Nat → Nat} {v : mS}  {x1 : Int32} {x2 : Int32} {o : bO Int32} (h : f_V_times g v x1 x2 = some o) : gL g ≤ gL o.2.1 := (mg_out h).1
set_option maxHeartbeats 4000000 in
set_option maxRecDepth 100000 in
theorem c_V_times {l : Launch} {Z : bZ} (hl0 : l.stackTraces = false) {q g : Nat → Nat} {v : mS}  {x1 : Int32} {x2 : Int32} {o : bO Int32} (h : f_V_times g v x1 x2 = some o) : bx_M l Z 8 y_V_times b_V_times 3 (some .int) [.ref (q 1), .int x1, .int x2] q g v enI o := by
  refine bx_of hl0 (by decide +kernel) (Nat.le_of_ble_eq_true rfl) ?_
  intro p e s m args below meth c A ls C0 hr hnx hl hH
  have hx := C0.1
  have hb := C0.2.1
  have C0 : bn_C "FilterBench$Values" b_V_times 3 Z A p l s m args meth c := C0
  have hl : lv_has ls 3 [(0, .ref (q 1)), (1, .int x1), (2, .int x2)] := hl
  obtain ⟨hm, h⟩ := mg_out h
  have hm0 : gL g ≤ gL g := Nat.le_refl _
  have hq : qs q q := qs.rf
  have hcl9 := bx_room (h0 := 8) (o := o) hm0 hm
  refine lv_aload_n hx hb d_V_times_0 rfl (lv_at hl 0 rfl) ?_
  refine lv_iload_n hx hb d_V_times_1 rfl (lv_at hl 1 rfl) ?_
  obtain ⟨r_3, v_1, hc_2, h⟩ := bi_out h
  refine bn_ci (r := r_3) (w := (q, g, v_1)) (as := [.int x1]) (rest := []) C0 hH (ci := 4) ⟨by decide, by decide⟩ (by decide) rfl (c_V_kindOf hl0 hc_2) yy_V_kindOf q_519 ⟨by simp only [bn_rm, dK]; omega, by simp only [bn_rm, dK]; omega⟩ rfl hl.1 rfl (Nat.le_of_ble_eq_true rfl) hcl9 d_V_times_2 (fun H locs hH => ?_)
  refine lv_iconst (v := 3) hx hb d_V_times_5 (by decide) ?_
  refine lv_icmp_ne (tgt := 18) hx hb d_V_times_6 (by decide) (fun c_4 => ?_) (fun c_4 => ?_)
  · rw [if_neg c_4] at h
    exact w_V_times_18 C0 hr hnx   _ _ _ _ _ _ h hq hm0 hm hH (lv_sub hl [] rfl)
  · rw [if_pos c_4] at h
    refine lv_aload_n hx hb d_V_times_9 rfl (lv_at hl 0 rfl) ?_
    refine lv_iload_n hx hb d_V_times_10 rfl (lv_at hl 2 rfl) ?_
    obtain ⟨r_7, v_5, hc_6, h⟩ := bi_out h
    refine bn_ci (r := r_7) (w := (q, g, v_5)) (as := [.int x2]) (rest := []) C0 hH (ci := 4) ⟨by decide, by decide⟩ (by decide) rfl (c_V_kindOf hl0 hc_6) yy_V_kindOf q_519 ⟨by simp only [bn_rm, dK]; omega, by simp only [bn_rm, dK]; omega⟩ rfl hl.1 rfl (Nat.le_of_ble_eq_true rfl) hcl9 d_V_times_11 (fun H locs hH => ?_)
    refine lv_iconst (v := 3) hx hb d_V_times_14 (by decide) ?_
    refine lv_icmp_eq (tgt := 20) hx hb d_V_times_15 (by decide) (fun c_8 => ?_) (fun c_8 => ?_)
    · rw [if_pos c_8] at h
      refine lv_aload_n hx hb d_V_times_20 rfl (lv_at hl 0 rfl) ?_
      refine lv_aload_n hx hb d_V_times_21 rfl (lv_at hl 0 rfl) ?_
      refine lv_iload_n hx hb d_V_times_22 rfl (lv_at hl 1 rfl) ?_
      obtain ⟨r_11, v_9, hc_10, h⟩ := bi_out h
      refine bn_ci (r := r_11) (w := (q, g, v_9)) (as := [.int x1]) (rest := [.ref (q 1)]) C0 hH (ci := 4) ⟨by decide, by decide⟩ (by decide) rfl (c_V_wholeOf hl0 hc_10) yy_V_wholeOf q_653 ⟨by simp only [bn_rm, dK]; omega, by simp only [bn_rm, dK]; omega⟩ rfl hl.1 rfl (Nat.le_of_ble_eq_true rfl) hcl9 d_V_times_23 (fun H locs hH => ?_)
      refine lv_i2l hx hb d_V_times_26 rfl ?_
      refine lv_aload_n hx hb d_V_times_27 rfl (lv_at hl 0 rfl) ?_
      refine lv_iload_n hx hb d_V_times_28 rfl (lv_at hl 2 rfl) ?_
      obtain ⟨r_14, v_12, hc_13, h⟩ := bi_out h
      refine bn_ci (r := r_14) (w := (q, g, v_12)) (as := [.int x2]) (rest := [.long ((r_11 : Int32).toInt64), .ref (q 1)]) C0 hH (ci := 4) ⟨by decide, by decide⟩ (by decide) rfl (c_V_wholeOf hl0 hc_13) yy_V_wholeOf q_653 ⟨by simp only [bn_rm, dK]; omega, by simp only [bn_rm, dK]; omega⟩ rfl hl.1 rfl (Nat.le_of_ble_eq_true rfl) hcl9 d_V_times_29 (fun H locs hH => ?_)
      refine lv_i2l hx hb d_V_times_32 rfl ?_
      refine lv_lmul hx hb d_V_times_33 ?_
      refine lv_aload_n hx hb d_V_times_34 rfl (lv_at hl 0 rfl) ?_
      refine lv_iload_n hx hb d_V_times_35 rfl (lv_at hl 1 rfl) ?_
      obtain ⟨r_17, v_15, hc_16, h⟩ := bi_out h
      refine bn_ci (r := r_17) (w := (q, g, v_15)) (as := [.int x1]) (rest := [.long (((r_11 : Int32).toInt64) * ((r_14 : Int32).toInt64)), .ref (q 1)]) C0 hH (ci := 4) ⟨by decide, by decide⟩ (by decide) rfl (c_V_scaleOf hl0 hc_16) yy_V_scaleOf q_659 ⟨by simp only [bn_rm, dK]; omega, by simp only [bn_rm, dK]; omega⟩ rfl hl.1 rfl (Nat.le_of_ble_eq_true rfl) hcl9 d_V_times_36 (fun H locs hH => ?_)
      refine lv_aload_n hx hb d_V_times_39 rfl (lv_at hl 0 rfl) ?_
      refine lv_iload_n hx hb d_V_times_40 rfl (lv_at hl 2 rfl) ?_
      obtain ⟨r_20, v_18, hc_19, h⟩ := bi_out h
      refine bn_ci (r := r_20) (w := (q, g, v_18)) (as := [.int x2]) (rest := [.int r_17, .long (((r_11 : Int32).toInt64) * ((r_14 : Int32).toInt64)), .ref (q 1)]) C0 hH (ci := 4) ⟨by decide, by decide⟩ (by decide) rfl (c_V_scaleOf hl0 hc_19) yy_V_scaleOf q_659 ⟨by simp only [bn_rm, dK]; omega, by simp only [bn_rm, dK]; omega⟩ rfl hl.1 rfl (Nat.le_of_ble_eq_true rfl) hcl9 d_V_times_41 (fun H locs hH => ?_)
      refine lv_iadd hx hb d_V_times_44 ?_
      obtain ⟨o1, hc, hm2, ht9, hx1, hk9⟩ := bo_out h
      have hm1 := mn_V_numberOf hc
      refine bx_cV (as := [.long (((r_11 : Int32).toInt64) * ((r_14 : Int32).toInt64)), .int (r_17 + r_20)]) (rest := []) C0 hnx hq hH hm0 hm1 hm2 ht9 (ci := 4) ⟨by decide, by decide⟩ (by decide) rfl (c_V_numberOf hl0 hc) yy_V_numberOf q_682 ⟨by first | omega | (simp only [dK]; omega), by first | omega | (simp only [dK]; omega)⟩ rfl hl.1 rfl (Nat.le_of_ble_eq_true rfl) d_V_times_45 hx1 (fun r9 q1 H locs hr1 hq0 hq1 hm9 hH => ?_)
      have h := hk9 r9 hr1
      exact w_V_times_48 C0 hr hnx  _ _ _ _ _ _ _ h hq0 hm9 hm2 hH (lv_sub hl [] rfl)
    · rw [if_neg c_8] at h
      exact w_V_times_18 C0 hr hnx   _ _ _ _ _ _ h hq hm0 hm hH (lv_sub hl [] rfl)
def f_V_rest_18   (g : Nat → Nat) (v : mS) : Option (bO Int32) := some (.inl ((-1)), g, v)
set_option maxHeartbeats 4000000 in
set_option maxRecDepth 100000 in
theorem w_V_rest_18 {p : Program} {l : Launch} {e : Env} {s : State} {m : MethodId} {args : Array Value} {below : List Frame} {meth : Method} {c : Code} {Z : bZ} {A : Nat → Prop} {q0 g0 : Nat → Nat} {o : bO Int32}  (C0 : bn_C "FilterBench$Values" b_V_rest 4 Z A p l s m args meth c) (hr : meth.sig.returnType = (some .int)) (hnx : ∀ x ∈ c.exceptionTable.toList, False) : ∀  (g : Nat → Nat) (v : mS) (q : Nat → Nat) (H : Heap) (locs : List Loc) (ls : Array Slot), f_V_rest_18   g v = some o → qs q0 q → gL g0 ≤ gL g → gL g ≤ gL o.2.1 → bn_H Z A s (q, g, v) H locs → lv_has ls 4 [] → bx_W p l e s m args below meth c Z A q0 g0 enI o 8 g H locs (F0 m 18 ls []) := by
  have hx := C0.1
  have hb := C0.2.1
  have hl0 := C0.2.2.2.2.2.2.2.2.2
  intro  g v q H locs ls h hq hm0 hm hH hl
  unfold f_V_rest_18 at h
  have hcl9 := bx_room (h0 := 8) (o := o) hm0 hm
  refine lv_iconst (v := (-1)) hx hb d_V_rest_18 (by decide) ?_
  exact bx_iret C0 hr hq hH hm0 d_V_rest_19 h
def f_V_rest_48  (y0 : Int32) (g : Nat → Nat) (v : mS) : Option (bO Int32) := some (.inl (y0), g, v)
set_option maxHeartbeats 4000000 in
set_option maxRecDepth 100000 in
theorem w_V_rest_48 {p : Program} {l : Launch} {e : Env} {s : State} {m : MethodId} {args : Array Value} {below : List Frame} {meth : Method} {c : Code} {Z : bZ} {A : Nat → Prop} {q0 g0 : Nat → Nat} {o : bO Int32}  (C0 : bn_C "FilterBench$Values" b_V_rest 4 Z A p l s m args meth c) (hr : meth.sig.returnType = (some .int)) (hnx : ∀ x ∈ c.exceptionTable.toList, False) : ∀ (y0 : Int32) (g : Nat → Nat) (v : mS) (q : Nat → Nat) (H : Heap) (locs : List Loc) (ls : Array Slot), f_V_rest_48  y0 g v = some o → qs q0 q → gL g0 ≤ gL g → gL g ≤ gL o.2.1 → bn_H Z A s (q, g, v) H locs → lv_has ls 4 [] → bx_W p l e s m args below meth c Z A q0 g0 enI o 8 g H locs (F0 m 48 ls [.int y0]) := by
  have hx := C0.1
  have hb := C0.2.1
  have hl0 := C0.2.2.2.2.2.2.2.2.2
  intro y0 g v q H locs ls h hq hm0 hm hH hl
  unfold f_V_rest_48 at h
  have hcl9 := bx_room (h0 := 8) (o := o) hm0 hm
  exact bx_iret C0 hr hq hH hm0 d_V_rest_48 h
def f_V_rest (g : Nat → Nat) (v : mS) (x1 : Int32) (x2 : Int32) : Option (bO Int32) := mg g (bi (f_V_kindOf g v x1) fun r_3 v_1 => if r_3 = 3 then (bi (f_V_kindOf g v_1 x2) fun r_7 v_5 => if r_7 = 3 then (bi (f_V_towardZero g v_5 x2) fun r_11 v_9 => if r_11 = 0 then (f_V_rest_48 (-2) g v_9) else (bi (f_V_towardZero g v_9 x1) fun r_15 v_13 => gd (decide (r_11 ≠ 0)) (bo (f_V_numberOf g v_13 ((r_15 - r_15 / r_11 * r_11 : Int32).toInt64) 0) fun r9 g9 v9 => f_V_rest_48 r9 g9 v9))) else (f_V_rest_18 g v_5)) else (f_V_rest_18 g v_1))
theorem mn_V_rest {g : Nat → Nat} {v : mS}  {x1 : Int32} {x2 : Int32} {o : bO Int32} (h : f_V_rest g v x1 x2 = some o) : gL g ≤ gL o.2.1 := (mg_out h).1
set_option maxHeartbeats 4000000 in
set_option maxRecDepth 100000 in
theorem c_V_rest {l : Launch} {Z : bZ} (hl0 : l.stackTraces = false) {q g : Nat → Nat} {v : mS}  {x1 : Int32} {x2 : Int32} {o : bO Int32} (h : f_V_rest g v x1 x2 = some o) : bx_M l Z 8 y_V_rest b_V_rest 4 (some .int) [.ref (q 1), .int x1, .int x2] q g v enI o := by
  refine bx_of hl0 (by decide +kernel) (Nat.le_of_ble_eq_true rfl) ?_
  intro p e s m args below meth c A ls C0 hr hnx hl hH
  have hx := C0.1
  have hb := C0.2.1
  have C0 : bn_C "FilterBench$Values" b_V_rest 4 Z A p l s m args meth c := C0
  have hl : lv_has ls 4 [(0, .ref (q 1)), (1, .int x1), (2, .int x2)] := hl
  obtain ⟨hm, h⟩ := mg_out h
  have hm0 : gL g ≤ gL g := Nat.le_refl _
  have hq : qs q q := qs.rf
  have hcl9 := bx_room (h0 := 8) (o := o) hm0 hm
  refine lv_aload_n hx hb d_V_rest_0 rfl (lv_at hl 0 rfl) ?_
  refine lv_iload_n hx hb d_V_rest_1 rfl (lv_at hl 1 rfl) ?_
  obtain ⟨r_3, v_1, hc_2, h⟩ := bi_out h
  refine bn_ci (r := r_3) (w := (q, g, v_1)) (as := [.int x1]) (rest := []) C0 hH (ci := 4) ⟨by decide, by decide⟩ (by decide) rfl (c_V_kindOf hl0 hc_2) yy_V_kindOf q_519 ⟨by simp only [bn_rm, dK]; omega, by simp only [bn_rm, dK]; omega⟩ rfl hl.1 rfl (Nat.le_of_ble_eq_true rfl) hcl9 d_V_rest_2 (fun H locs hH => ?_)
  refine lv_iconst (v := 3) hx hb d_V_rest_5 (by decide) ?_
  refine lv_icmp_ne (tgt := 18) hx hb d_V_rest_6 (by decide) (fun c_4 => ?_) (fun c_4 => ?_)
  · rw [if_neg c_4] at h
    exact w_V_rest_18 C0 hr hnx   _ _ _ _ _ _ h hq hm0 hm hH (lv_sub hl [] rfl)
  · rw [if_pos c_4] at h
    refine lv_aload_n hx hb d_V_rest_9 rfl (lv_at hl 0 rfl) ?_
    refine lv_iload_n hx hb d_V_rest_10 rfl (lv_at hl 2 rfl) ?_
    obtain ⟨r_7, v_5, hc_6, h⟩ := bi_out h
    refine bn_ci (r := r_7) (w := (q, g, v_5)) (as := [.int x2]) (rest := []) C0 hH (ci := 4) ⟨by decide, by decide⟩ (by decide) rfl (c_V_kindOf hl0 hc_6) yy_V_kindOf q_519 ⟨by simp only [bn_rm, dK]; omega, by simp only [bn_rm, dK]; omega⟩ rfl hl.1 rfl (Nat.le_of_ble_eq_true rfl) hcl9 d_V_rest_11 (fun H locs hH => ?_)
    refine lv_iconst (v := 3) hx hb d_V_rest_14 (by decide) ?_
    refine lv_icmp_eq (tgt := 20) hx hb d_V_rest_15 (by decide) (fun c_8 => ?_) (fun c_8 => ?_)
    · rw [if_pos c_8] at h
      refine lv_aload_n hx hb d_V_rest_20 rfl (lv_at hl 0 rfl) ?_
      refine lv_iload_n hx hb d_V_rest_21 rfl (lv_at hl 2 rfl) ?_
      obtain ⟨r_11, v_9, hc_10, h⟩ := bi_out h
      refine bn_ci (r := r_11) (w := (q, g, v_9)) (as := [.int x2]) (rest := []) C0 hH (ci := 4) ⟨by decide, by decide⟩ (by decide) rfl (c_V_towardZero hl0 hc_10) yy_V_towardZero q_704 ⟨by simp only [bn_rm, dK]; omega, by simp only [bn_rm, dK]; omega⟩ rfl hl.1 rfl (Nat.le_of_ble_eq_true rfl) hcl9 d_V_rest_22 (fun H locs hH => ?_)
      refine lv_istore_n (lv' := [(3, .int r_11), (0, .ref (q 1)), (1, .int x1), (2, .int x2)]) hx hb d_V_rest_25 rfl hl (by decide) rfl (fun ls hl => ?_)
      refine lv_iload_n hx hb d_V_rest_26 rfl (lv_at hl 0 rfl) ?_
      refine lv_if_ne (tgt := 35) hx hb d_V_rest_27 (by decide) (fun c_12 => ?_) (fun c_12 => ?_)
      · rw [if_neg c_12] at h
        refine lv_aload_n hx hb d_V_rest_35 rfl (lv_at hl 1 rfl) ?_
        refine lv_aload_n hx hb d_V_rest_36 rfl (lv_at hl 1 rfl) ?_
        refine lv_iload_n hx hb d_V_rest_37 rfl (lv_at hl 2 rfl) ?_
        obtain ⟨r_15, v_13, hc_14, h⟩ := bi_out h
        refine bn_ci (r := r_15) (w := (q, g, v_13)) (as := [.int x1]) (rest := [.ref (q 1)]) C0 hH (ci := 4) ⟨by decide, by decide⟩ (by decide) rfl (c_V_towardZero hl0 hc_14) yy_V_towardZero q_704 ⟨by simp only [bn_rm, dK]; omega, by simp only [bn_rm, dK]; omega⟩ rfl hl.1 rfl (Nat.le_of_ble_eq_true rfl) hcl9 d_V_rest_38 (fun H locs hH => ?_)
        refine lv_iload_n hx hb d_V_rest_41 rfl (lv_at hl 0 rfl) ?_
        obtain ⟨g_16, h⟩ := gd_out h
        refine lv_irem hx hb d_V_rest_42 (ne_gd g_16) ?_
        refine lv_i2l hx hb d_V_rest_43 rfl ?_
        refine lv_iconst (v := 0) hx hb d_V_rest_44 (by decide) ?_
        obtain ⟨o1, hc, hm2, ht9, hx1, hk9⟩ := bo_out h
        have hm1 := mn_V_numberOf hc
        refine bx_cV (as := [.long ((r_15 - r_15 / r_11 * r_11 : Int32).toInt64), .int 0]) (rest := []) C0 hnx hq hH hm0 hm1 hm2 ht9 (ci := 4) ⟨by decide, by decide⟩ (by decide) rfl (c_V_numberOf hl0 hc) yy_V_numberOf q_682 ⟨by first | omega | (simp only [dK]; omega), by first | omega | (simp only [dK]; omega)⟩ rfl hl.1 rfl (Nat.le_of_ble_eq_true rfl) d_V_rest_45 hx1 (fun r9 q1 H locs hr1 hq0 hq1 hm9 hH => ?_)
        have h := hk9 r9 hr1
        exact w_V_rest_48 C0 hr hnx  _ _ _ _ _ _ _ h hq0 hm9 hm2 hH (lv_sub hl [] rfl)
      · rw [if_pos c_12] at h
        refine lv_bipush (v := (-2)) hx hb d_V_rest_30 (by decide) ?_
        refine lv_goto (tgt := 48) hx hb d_V_rest_32 (by decide) ?_
        exact w_V_rest_48 C0 hr hnx  _ _ _ _ _ _ _ h hq hm0 hm hH (lv_sub hl [] rfl)
    · rw [if_neg c_8] at h
      exact w_V_rest_18 C0 hr hnx   _ _ _ _ _ _ h hq hm0 hm hH (lv_sub hl [] rfl)
def f_V_sumOf_40 (K15 : Int32 → Int32 → Int32 → (Nat → Nat) → mS → Option (bO Int32)) (x1 : Int32) (x3 : Int32) (y0 : Int32) (g : Nat → Nat) (v : mS) : Option (bO Int32) := nm (x3 + 1) fun x3_1 => K15 x1 y0 x3_1 g v
set_option maxHeartbeats 4000000 in
set_option maxRecDepth 100000 in
theorem w_V_sumOf_40 {p : Program} {l : Launch} {e : Env} {s : State} {m : MethodId} {args : Array Value} {below : List Frame} {meth : Method} {c : Code} {Z : bZ} {A : Nat → Prop} {q0 g0 : Nat → Nat} {o : bO Int32}  (C0 : bn_C "FilterBench$Values" b_V_sumOf 4 Z A p l s m args meth c) (hr : meth.sig.returnType = (some .int)) (hnx : ∀ x ∈ c.exceptionTable.toList, False) {K15 : Int32 → Int32 → Int32 → (Nat → Nat) → mS → Option (bO Int32)} (hK15 : ∀ (x1 : Int32) (x2 : Int32) (x3 : Int32) (g : Nat → Nat) (v : mS) (q : Nat → Nat) (H : Heap) (locs : List Loc) (ls : Array Slot), K15 x1 x2 x3 g v = some o → qs q0 q → gL g0 ≤ gL g → gL g ≤ gL o.2.1 → bn_H Z A s (q, g, v) H locs → lv_has ls 4 [(0, .ref (q 1)), (1, .int x1), (2, .int x2), (3, .int x3)] → bx_W p l e s m args below meth c Z A q0 g0 enI o 10 g H locs (F0 m 15 ls [])) : ∀ (x1 : Int32) (x3 : Int32) (y0 : Int32) (g : Nat → Nat) (v : mS) (q : Nat → Nat) (H : Heap) (locs : List Loc) (ls : Array Slot), f_V_sumOf_40 K15 x1 x3 y0 g v = some o → qs q0 q → gL g0 ≤ gL g → gL g ≤ gL o.2.1 → bn_H Z A s (q, g, v) H locs → lv_has ls 4 [(0, .ref (q 1)), (1, .int x1), (3, .int x3)] → bx_W p l e s m args below meth c Z A q0 g0 enI o 10 g H locs (F0 m 40 ls [.int y0]) := by
  have hx := C0.1
  have hb := C0.2.1
  have hl0 := C0.2.2.2.2.2.2.2.2.2
  intro x1 x3 y0 g v q H locs ls h hq hm0 hm hH hl
  unfold f_V_sumOf_40 at h
  have hcl9 := bx_room (h0 := 10) (o := o) hm0 hm
  refine lv_istore_n (lv' := [(2, .int y0), (0, .ref (q 1)), (1, .int x1), (3, .int x3)]) hx hb d_V_sumOf_40 rfl hl (by decide) rfl (fun ls hl => ?_)
  obtain ⟨x3_1, hx3_1, h⟩ := nm_out h
  refine lv_iinc (v := x3_1) (lv' := [(3, .int x3_1), (2, .int y0), (0, .ref (q 1)), (1, .int x1)]) hx hb d_V_sumOf_41 hl (k := 3) rfl (by rw [hx3_1]; rfl) (by decide) rfl (fun ls hl => ?_)
  refine lv_goto (tgt := 15) hx hb d_V_sumOf_44 (by decide) ?_
  exact hK15 _ _ _ _ _ _ _ _ _ h hq hm0 hm hH (lv_sub hl [2, 3, 1, 0] rfl)
def f_V_sumOf_47  (x2 : Int32) (g : Nat → Nat) (v : mS) : Option (bO Int32) := some (.inl (x2), g, v)
set_option maxHeartbeats 4000000 in
set_option maxRecDepth 100000 in
theorem w_V_sumOf_47 {p : Program} {l : Launch} {e : Env} {s : State} {m : MethodId} {args : Array Value} {below : List Frame} {meth : Method} {c : Code} {Z : bZ} {A : Nat → Prop} {q0 g0 : Nat → Nat} {o : bO Int32}  (C0 : bn_C "FilterBench$Values" b_V_sumOf 4 Z A p l s m args meth c) (hr : meth.sig.returnType = (some .int)) (hnx : ∀ x ∈ c.exceptionTable.toList, False) : ∀ (x2 : Int32) (g : Nat → Nat) (v : mS) (q : Nat → Nat) (H : Heap) (locs : List Loc) (ls : Array Slot), f_V_sumOf_47  x2 g v = some o → qs q0 q → gL g0 ≤ gL g → gL g ≤ gL o.2.1 → bn_H Z A s (q, g, v) H locs → lv_has ls 4 [(2, .int x2)] → bx_W p l e s m args below meth c Z A q0 g0 enI o 10 g H locs (F0 m 47 ls []) := by
  have hx := C0.1
  have hb := C0.2.1
  have hl0 := C0.2.2.2.2.2.2.2.2.2
  intro x2 g v q H locs ls h hq hm0 hm hH hl
  unfold f_V_sumOf_47 at h
  have hcl9 := bx_room (h0 := 10) (o := o) hm0 hm
  refine lv_iload_n hx hb d_V_sumOf_47 rfl (lv_at hl 0 rfl) ?_
  exact bx_iret C0 hr hq hH hm0 d_V_sumOf_48 h
def f_V_sumOf_15  : Nat → Int32 → Int32 → Int32 → (Nat → Nat) → mS → Option (bO Int32)
  | 0, _, _, _, _, _ => none
  | n + 1, x1, x2, x3, g, v => bi (f_V_lengthOf g v x1) fun r_3 v_1 => if r_3 ≤ x3 then (f_V_sumOf_47 x2 g v_1) else (if x2 = (-1) then (f_V_sumOf_47 x2 g v_1) else (bi (f_V_itemAt g v_1 x1 x3) fun r_8 v_6 => bo (f_V_plus g v_6 x2 r_8) fun r9 g9 v9 => f_V_sumOf_40 (f_V_sumOf_15 n) x1 x3 r9 g9 v9))
set_option maxHeartbeats 4000000 in
set_option maxRecDepth 100000 in
theorem w_V_sumOf_15 {p : Program} {l : Launch} {e : Env} {s : State} {m : MethodId} {args : Array Value} {below : List Frame} {meth : Method} {c : Code} {Z : bZ} {A : Nat → Prop} {q0 g0 : Nat → Nat} {o : bO Int32}  (C0 : bn_C "FilterBench$Values" b_V_sumOf 4 Z A p l s m args meth c) (hr : meth.sig.returnType = (some .int)) (hnx : ∀ x ∈ c.exceptionTable.toList, False) : ∀ (n : Nat) (x1 : Int32) (x2 : Int32) (x3 : Int32) (g : Nat → Nat) (v : mS) (q : Nat → Nat) (H : Heap) (locs : List Loc) (ls : Array Slot), f_V_sumOf_15  n x1 x2 x3 g v = some o → qs q0 q → gL g0 ≤ gL g → gL g ≤ gL o.2.1 → bn_H Z A s (q, g, v) H locs → lv_has ls 4 [(0, .ref (q 1)), (1, .int x1), (2, .int x2), (3, .int x3)] → bx_W p l e s m args below meth c Z A q0 g0 enI o 10 g H locs (F0 m 15 ls []) := by
  have hx := C0.1
  have hb := C0.2.1
  have hl0 := C0.2.2.2.2.2.2.2.2.2
  intro n
  induction n with
  | zero =>
    intro x1 x2 x3 g v q H locs ls h hq hm0 hm hH hl
    cases h
  | succ n ih =>
    intro x1 x2 x3 g v q H locs ls h hq hm0 hm hH hl
    rw [f_V_sumOf_15] at h
    have hcl9 := bx_room (h0 := 10) (o := o) hm0 hm
    refine lv_iload_n hx hb d_V_sumOf_15 rfl (lv_at hl 3 rfl) ?_
    refine lv_aload_n hx hb d_V_sumOf_16 rfl (lv_at hl 0 rfl) ?_
    refine lv_iload_n hx hb d_V_sumOf_17 rfl (lv_at hl 1 rfl) ?_
    obtain ⟨r_3, v_1, hc_2, h⟩ := bi_out h
    refine bn_ci (r := r_3) (w := (q, g, v_1)) (as := [.int x1]) (rest := [.int x3]) C0 hH (ci := 4) ⟨by decide, by decide⟩ (by decide) rfl (c_V_lengthOf hl0 hc_2) yy_V_lengthOf q_383 ⟨by simp only [bn_rm, dK]; omega, by simp only [bn_rm, dK]; omega⟩ rfl hl.1 rfl (Nat.le_of_ble_eq_true rfl) hcl9 d_V_sumOf_18 (fun H locs hH => ?_)
    refine lv_icmp_ge (tgt := 47) hx hb d_V_sumOf_21 (by decide) (fun c_4 => ?_) (fun c_4 => ?_)
    · rw [if_pos c_4] at h
      exact w_V_sumOf_47 C0 hr hnx  _ _ _ _ _ _ _ h hq hm0 hm hH (lv_sub hl [2] rfl)
    · rw [if_neg c_4] at h
      refine lv_iload_n hx hb d_V_sumOf_24 rfl (lv_at hl 2 rfl) ?_
      refine lv_iconst (v := (-1)) hx hb d_V_sumOf_25 (by decide) ?_
      refine lv_icmp_eq (tgt := 47) hx hb d_V_sumOf_26 (by decide) (fun c_5 => ?_) (fun c_5 => ?_)
      · rw [if_pos c_5] at h
        exact w_V_sumOf_47 C0 hr hnx  _ _ _ _ _ _ _ h hq hm0 hm hH (lv_sub hl [2] rfl)
      · rw [if_neg c_5] at h
        refine lv_aload_n hx hb d_V_sumOf_29 rfl (lv_at hl 0 rfl) ?_
        refine lv_iload_n hx hb d_V_sumOf_30 rfl (lv_at hl 2 rfl) ?_
        refine lv_aload_n hx hb d_V_sumOf_31 rfl (lv_at hl 0 rfl) ?_
        refine lv_iload_n hx hb d_V_sumOf_32 rfl (lv_at hl 1 rfl) ?_
        refine lv_iload_n hx hb d_V_sumOf_33 rfl (lv_at hl 3 rfl) ?_
        obtain ⟨r_8, v_6, hc_7, h⟩ := bi_out h
        refine bn_ci (r := r_8) (w := (q, g, v_6)) (as := [.int x1, .int x3]) (rest := [.int x2, .ref (q 1)]) C0 hH (ci := 4) ⟨by decide, by decide⟩ (by decide) rfl (c_V_itemAt hl0 hc_7) yy_V_itemAt q_543 ⟨by simp only [bn_rm, dK]; omega, by simp only [bn_rm, dK]; omega⟩ rfl hl.1 rfl (Nat.le_of_ble_eq_true rfl) hcl9 d_V_sumOf_34 (fun H locs hH => ?_)
        obtain ⟨o1, hc, hm2, ht9, hx1, hk9⟩ := bo_out h
        have hm1 := mn_V_plus hc
        refine bx_cV (as := [.int x2, .int r_8]) (rest := []) C0 hnx hq hH hm0 hm1 hm2 ht9 (ci := 4) ⟨by decide, by decide⟩ (by decide) rfl (c_V_plus hl0 hc) yy_V_plus q_752 ⟨by first | omega | (simp only [dK]; omega), by first | omega | (simp only [dK]; omega)⟩ rfl hl.1 rfl (Nat.le_of_ble_eq_true rfl) d_V_sumOf_37 hx1 (fun r9 q1 H locs hr1 hq0 hq1 hm9 hH => ?_)
        have h := hk9 r9 hr1
        have e9 : q1 1 = q 1 := (hq1 1 (by decide) (by decide))
        try rw [← e9] at hl
        try rw [← e9]
        exact w_V_sumOf_40 C0 hr hnx ih _ _ _ _ _ _ _ _ _ h hq0 hm9 hm2 hH (lv_sub hl [0, 1, 3] rfl)
def f_V_sumOf (g : Nat → Nat) (v : mS) (x1 : Int32) : Option (bO Int32) := mg g (bi (f_V_kindOf g v x1) fun r_3 v_1 => if r_3 = 5 then (f_V_sumOf_15 fu x1 0 0 g v_1) else (some (.inl ((-1)), g, v_1)))
theorem mn_V_sumOf {g : Nat → Nat} {v : mS}  {x1 : Int32} {o : bO Int32} (h : f_V_sumOf g v x1 = some o) : gL g ≤ gL o.2.1 := (mg_out h).1
set_option maxHeartbeats 4000000 in
set_option maxRecDepth 100000 in
theorem c_V_sumOf {l : Launch} {Z : bZ} (hl0 : l.stackTraces = false) {q g : Nat → Nat} {v : mS}  {x1 : Int32} {o : bO Int32} (h : f_V_sumOf g v x1 = some o) : bx_M l Z 10 y_V_sumOf b_V_sumOf 4 (some .int) [.ref (q 1), .int x1] q g v enI o := by
  refine bx_of hl0 (by decide +kernel) (Nat.le_of_ble_eq_true rfl) ?_
  intro p e s m args below meth c A ls C0 hr hnx hl hH
  have hx := C0.1
  have hb := C0.2.1
  have C0 : bn_C "FilterBench$Values" b_V_sumOf 4 Z A p l s m args meth c := C0
  have hl : lv_has ls 4 [(0, .ref (q 1)), (1, .int x1)] := hl
  obtain ⟨hm, h⟩ := mg_out h
  have hm0 : gL g ≤ gL g := Nat.le_refl _
  have hq : qs q q := qs.rf
  have hcl9 := bx_room (h0 := 10) (o := o) hm0 hm
  refine lv_aload_n hx hb d_V_sumOf_0 rfl (lv_at hl 0 rfl) ?_
  refine lv_iload_n hx hb d_V_sumOf_1 rfl (lv_at hl 1 rfl) ?_
  obtain ⟨r_3, v_1, hc_2, h⟩ := bi_out h
  refine bn_ci (r := r_3) (w := (q, g, v_1)) (as := [.int x1]) (rest := []) C0 hH (ci := 4) ⟨by decide, by decide⟩ (by decide) rfl (c_V_kindOf hl0 hc_2) yy_V_kindOf q_519 ⟨by simp only [bn_rm, dK]; omega, by simp only [bn_rm, dK]; omega⟩ rfl hl.1 rfl (Nat.le_of_ble_eq_true rfl) hcl9 d_V_sumOf_2 (fun H locs hH => ?_)
  refine lv_iconst (v := 5) hx hb d_V_sumOf_5 (by decide) ?_
  refine lv_icmp_eq (tgt := 11) hx hb d_V_sumOf_6 (by decide) (fun c_4 => ?_) (fun c_4 => ?_)
  · rw [if_pos c_4] at h
    refine lv_iconst (v := 0) hx hb d_V_sumOf_11 (by decide) ?_
    refine lv_istore_n (lv' := [(2, .int 0), (0, .ref (q 1)), (1, .int x1)]) hx hb d_V_sumOf_12 rfl hl (by decide) rfl (fun ls hl => ?_)
    refine lv_iconst (v := 0) hx hb d_V_sumOf_13 (by decide) ?_
    refine lv_istore_n (lv' := [(3, .int 0), (2, .int 0), (0, .ref (q 1)), (1, .int x1)]) hx hb d_V_sumOf_14 rfl hl (by decide) rfl (fun ls hl => ?_)
    exact w_V_sumOf_15 C0 hr hnx  fu _ _ _ _ _ _ _ _ _ h hq hm0 hm hH (lv_sub hl [2, 3, 1, 0] rfl)
  · rw [if_neg c_4] at h
    refine lv_iconst (v := (-1)) hx hb d_V_sumOf_9 (by decide) ?_
    exact bx_iret C0 hr hq hH hm0 d_V_sumOf_10 h
def f_V_measured_32   (g : Nat → Nat) (v : mS) : Option (bO Int32) := some (.inl ((-1)), g, v)
set_option maxHeartbeats 4000000 in
set_option maxRecDepth 100000 in
theorem w_V_measured_32 {p : Program} {l : Launch} {e : Env} {s : State} {m : MethodId} {args : Array Value} {below : List Frame} {meth : Method} {c : Code} {Z : bZ} {A : Nat → Prop} {q0 g0 : Nat → Nat} {o : bO Int32}  (C0 : bn_C "FilterBench$Values" b_V_measured 2 Z A p l s m args meth c) (hr : meth.sig.returnType = (some .int)) (hnx : ∀ x ∈ c.exceptionTable.toList, False) : ∀  (g : Nat → Nat) (v : mS) (q : Nat → Nat) (H : Heap) (locs : List Loc) (ls : Array Slot), f_V_measured_32   g v = some o → qs q0 q → gL g0 ≤ gL g → gL g ≤ gL o.2.1 → bn_H Z A s (q, g, v) H locs → lv_has ls 2 [] → bx_W p l e s m args below meth c Z A q0 g0 enI o 8 g H locs (F0 m 32 ls []) := by
  have hx := C0.1
  have hb := C0.2.1
  have hl0 := C0.2.2.2.2.2.2.2.2.2
  intro  g v q H locs ls h hq hm0 hm hH hl
  unfold f_V_measured_32 at h
  have hcl9 := bx_room (h0 := 8) (o := o) hm0 hm
  refine lv_iconst (v := (-1)) hx hb d_V_measured_32 (by decide) ?_
  exact bx_iret C0 hr hq hH hm0 d_V_measured_33 h
def f_V_measured_52  (y0 : Int32) (g : Nat → Nat) (v : mS) : Option (bO Int32) := some (.inl (y0), g, v)
set_option maxHeartbeats 4000000 in
set_option maxRecDepth 100000 in
theorem w_V_measured_52 {p : Program} {l : Launch} {e : Env} {s : State} {m : MethodId} {args : Array Value} {below : List Frame} {meth : Method} {c : Code} {Z : bZ} {A : Nat → Prop} {q0 g0 : Nat → Nat} {o : bO Int32}  (C0 : bn_C "FilterBench$Values" b_V_measured 2 Z A p l s m args meth c) (hr : meth.sig.returnType = (some .int)) (hnx : ∀ x ∈ c.exceptionTable.toList, False) : ∀ (y0 : Int32) (g : Nat → Nat) (v : mS) (q : Nat → Nat) (H : Heap) (locs : List Loc) (ls : Array Slot), f_V_measured_52  y0 g v = some o → qs q0 q → gL g0 ≤ gL g → gL g ≤ gL o.2.1 → bn_H Z A s (q, g, v) H locs → lv_has ls 2 [] → bx_W p l e s m args below meth c Z A q0 g0 enI o 8 g H locs (F0 m 52 ls [.int y0]) := by
  have hx := C0.1
  have hb := C0.2.1
  have hl0 := C0.2.2.2.2.2.2.2.2.2
  intro y0 g v q H locs ls h hq hm0 hm hH hl
  unfold f_V_measured_52 at h
  have hcl9 := bx_room (h0 := 8) (o := o) hm0 hm
  exact bx_iret C0 hr hq hH hm0 d_V_measured_52 h
def f_V_measured (g : Nat → Nat) (v : mS) (x1 : Int32) : Option (bO Int32) := mg g (bi (f_V_kindOf g v x1) fun r_3 v_1 => if r_3 = 1 then (f_V_measured_32 g v_1) else if r_3 = 2 then (f_V_measured_32 g v_1) else if r_3 = 3 then (bi (f_V_wholeOf g v_1 x1) fun r_14 v_12 => bi (f_V_scaleOf g v_12 x1) fun r_17 v_15 => bo (f_V_numberOf g v_15 ((if 0 ≤ r_14 then r_14 else 0 - r_14 : Int32).toInt64) r_17) fun r9 g9 v9 => f_V_measured_52 r9 g9 v9) else (bi (f_V_lengthOf g v_1 x1) fun r_6 v_4 => bi (f_V_small g v_4 r_6) fun r_9 v_7 => some (.inl (r_9), g, v_7)))
theorem mn_V_measured {g : Nat → Nat} {v : mS}  {x1 : Int32} {o : bO Int32} (h : f_V_measured g v x1 = some o) : gL g ≤ gL o.2.1 := (mg_out h).1
set_option maxHeartbeats 4000000 in
set_option maxRecDepth 100000 in
theorem c_V_measured {l : Launch} {Z : bZ} (hl0 : l.stackTraces = false) {q g : Nat → Nat} {v : mS}  {x1 : Int32} {o : bO Int32} (h : f_V_measured g v x1 = some o) : bx_M l Z 8 y_V_measured b_V_measured 2 (some .int) [.ref (q 1), .int x1] q g v enI o := by
  refine bx_of hl0 (by decide +kernel) (Nat.le_of_ble_eq_true rfl) ?_
  intro p e s m args below meth c A ls C0 hr hnx hl hH
  have hx := C0.1
  have hb := C0.2.1
  have C0 : bn_C "FilterBench$Values" b_V_measured 2 Z A p l s m args meth c := C0
  have hl : lv_has ls 2 [(0, .ref (q 1)), (1, .int x1)] := hl
  obtain ⟨hm, h⟩ := mg_out h
  have hm0 : gL g ≤ gL g := Nat.le_refl _
  have hq : qs q q := qs.rf
  have hcl9 := bx_room (h0 := 8) (o := o) hm0 hm
  refine lv_aload_n hx hb d_V_measured_0 rfl (lv_at hl 0 rfl) ?_
  refine lv_iload_n hx hb d_V_measured_1 rfl (lv_at hl 1 rfl) ?_
  obtain ⟨r_3, v_1, hc_2, h⟩ := bi_out h
  refine bn_ci (r := r_3) (w := (q, g, v_1)) (as := [.int x1]) (rest := []) C0 hH (ci := 4) ⟨by decide, by decide⟩ (by decide) rfl (c_V_kindOf hl0 hc_2) yy_V_kindOf q_519 ⟨by simp only [bn_rm, dK]; omega, by simp only [bn_rm, dK]; omega⟩ rfl hl.1 rfl (Nat.le_of_ble_eq_true rfl) hcl9 d_V_measured_2 (fun H locs hH => ?_)
  by_cases e_10 : r_3 = 1
  · rw [if_pos e_10] at h
    refine fu_hit (tgt := 32) 1 e_10 hx hb d_V_measured_5 (by decide) (by decide) rfl (by decide) ?_
    exact w_V_measured_32 C0 hr hnx   _ _ _ _ _ _ h hq hm0 hm hH (lv_sub hl [] rfl)
  rw [if_neg e_10] at h
  by_cases e_11 : r_3 = 2
  · rw [if_pos e_11] at h
    refine fu_hit (tgt := 32) 2 e_11 hx hb d_V_measured_5 (by decide) (by decide) rfl (by decide) ?_
    exact w_V_measured_32 C0 hr hnx   _ _ _ _ _ _ h hq hm0 hm hH (lv_sub hl [] rfl)
  rw [if_neg e_11] at h
  by_cases e_18 : r_3 = 3
  · rw [if_pos e_18] at h
    refine fu_hit (tgt := 34) 3 e_18 hx hb d_V_measured_5 (by decide) (by decide) rfl (by decide) ?_
    refine lv_aload_n hx hb d_V_measured_34 rfl (lv_at hl 0 rfl) ?_
    refine lv_aload_n hx hb d_V_measured_35 rfl (lv_at hl 0 rfl) ?_
    refine lv_iload_n hx hb d_V_measured_36 rfl (lv_at hl 1 rfl) ?_
    obtain ⟨r_14, v_12, hc_13, h⟩ := bi_out h
    refine bn_ci (r := r_14) (w := (q, g, v_12)) (as := [.int x1]) (rest := [.ref (q 1)]) C0 hH (ci := 4) ⟨by decide, by decide⟩ (by decide) rfl (c_V_wholeOf hl0 hc_13) yy_V_wholeOf q_653 ⟨by simp only [bn_rm, dK]; omega, by simp only [bn_rm, dK]; omega⟩ rfl hl.1 rfl (Nat.le_of_ble_eq_true rfl) hcl9 d_V_measured_37 (fun H locs hH => ?_)
    refine va_mabs hx hb (C0.2.2.2.2.2.1.trans hl.1.symm) C0.2.2.1 (C0.2.2.2.1 _ q_736) (C0.2.2.2.1 _ q_737) (C0.2.2.2.1 _ q_115) (C0.2.2.2.1 _ q_738) (by first | exact Nat.le_of_ble_eq_true rfl | (simp [bn_rm]; omega)) (by first | exact Nat.le_of_ble_eq_true rfl | (simp [bn_rm]; omega)) hcl9.1 hcl9.2 d_V_measured_40 ?_
    refine lv_i2l hx hb d_V_measured_43 rfl ?_
    refine lv_aload_n hx hb d_V_measured_44 rfl (lv_at hl 0 rfl) ?_
    refine lv_iload_n hx hb d_V_measured_45 rfl (lv_at hl 1 rfl) ?_
    obtain ⟨r_17, v_15, hc_16, h⟩ := bi_out h
    refine bn_ci (r := r_17) (w := (q, g, v_15)) (as := [.int x1]) (rest := [.long ((if 0 ≤ r_14 then r_14 else 0 - r_14 : Int32).toInt64), .ref (q 1)]) C0 hH (ci := 4) ⟨by decide, by decide⟩ (by decide) rfl (c_V_scaleOf hl0 hc_16) yy_V_scaleOf q_659 ⟨by simp only [bn_rm, dK]; omega, by simp only [bn_rm, dK]; omega⟩ rfl hl.1 rfl (Nat.le_of_ble_eq_true rfl) hcl9 d_V_measured_46 (fun H locs hH => ?_)
    obtain ⟨o1, hc, hm2, ht9, hx1, hk9⟩ := bo_out h
    have hm1 := mn_V_numberOf hc
    refine bx_cV (as := [.long ((if 0 ≤ r_14 then r_14 else 0 - r_14 : Int32).toInt64), .int r_17]) (rest := []) C0 hnx hq hH hm0 hm1 hm2 ht9 (ci := 4) ⟨by decide, by decide⟩ (by decide) rfl (c_V_numberOf hl0 hc) yy_V_numberOf q_682 ⟨by first | omega | (simp only [dK]; omega), by first | omega | (simp only [dK]; omega)⟩ rfl hl.1 rfl (Nat.le_of_ble_eq_true rfl) d_V_measured_49 hx1 (fun r9 q1 H locs hr1 hq0 hq1 hm9 hH => ?_)
    have h := hk9 r9 hr1
    exact w_V_measured_52 C0 hr hnx  _ _ _ _ _ _ _ h hq0 hm9 hm2 hH (lv_sub hl [] rfl)
  rw [if_neg e_18] at h
  refine lv_tableOut (tgt := 53) hx hb d_V_measured_5 (fu_out 3 (by decide) (fun k9 hk9 => match k9, hk9 with | 0, _ => lv_neT e_10 (by decide) | 1, _ => lv_neT e_11 (by decide) | 2, _ => lv_neT e_18 (by decide) | k9 + 3, hk9 => absurd hk9 (by omega))) (by decide) ?_
  refine lv_aload_n hx hb d_V_measured_53 rfl (lv_at hl 0 rfl) ?_
  refine lv_aload_n hx hb d_V_measured_54 rfl (lv_at hl 0 rfl) ?_
  refine lv_iload_n hx hb d_V_measured_55 rfl (lv_at hl 1 rfl) ?_
  obtain ⟨r_6, v_4, hc_5, h⟩ := bi_out h
  refine bn_ci (r := r_6) (w := (q, g, v_4)) (as := [.int x1]) (rest := [.ref (q 1)]) C0 hH (ci := 4) ⟨by decide, by decide⟩ (by decide) rfl (c_V_lengthOf hl0 hc_5) yy_V_lengthOf q_383 ⟨by simp only [bn_rm, dK]; omega, by simp only [bn_rm, dK]; omega⟩ rfl hl.1 rfl (Nat.le_of_ble_eq_true rfl) hcl9 d_V_measured_56 (fun H locs hH => ?_)
  obtain ⟨r_9, v_7, hc_8, h⟩ := bi_out h
  refine bn_ci (r := r_9) (w := (q, g, v_7)) (as := [.int r_6]) (rest := []) C0 hH (ci := 4) ⟨by decide, by decide⟩ (by decide) rfl (c_V_small hl0 hc_8) yy_V_small q_140 ⟨by simp only [bn_rm, dK]; omega, by simp only [bn_rm, dK]; omega⟩ rfl hl.1 rfl (Nat.le_of_ble_eq_true rfl) hcl9 d_V_measured_59 (fun H locs hH => ?_)
  exact bx_iret C0 hr hq hH hm0 d_V_measured_62 h
def f_V_floored_24  (y0 : Int32) (g : Nat → Nat) (v : mS) : Option (bO Int32) := some (.inl (y0), g, v)
set_option maxHeartbeats 4000000 in
set_option maxRecDepth 100000 in
theorem w_V_floored_24 {p : Program} {l : Launch} {e : Env} {s : State} {m : MethodId} {args : Array Value} {below : List Frame} {meth : Method} {c : Code} {Z : bZ} {A : Nat → Prop} {q0 g0 : Nat → Nat} {o : bO Int32}  (C0 : bn_C "FilterBench$Values" b_V_floored 2 Z A p l s m args meth c) (hr : meth.sig.returnType = (some .int)) (hnx : ∀ x ∈ c.exceptionTable.toList, False) : ∀ (y0 : Int32) (g : Nat → Nat) (v : mS) (q : Nat → Nat) (H : Heap) (locs : List Loc) (ls : Array Slot), f_V_floored_24  y0 g v = some o → qs q0 q → gL g0 ≤ gL g → gL g ≤ gL o.2.1 → bn_H Z A s (q, g, v) H locs → lv_has ls 2 [] → bx_W p l e s m args below meth c Z A q0 g0 enI o 8 g H locs (F0 m 24 ls [.int y0]) := by
  have hx := C0.1
  have hb := C0.2.1
  have hl0 := C0.2.2.2.2.2.2.2.2.2
  intro y0 g v q H locs ls h hq hm0 hm hH hl
  unfold f_V_floored_24 at h
  have hcl9 := bx_room (h0 := 8) (o := o) hm0 hm
  exact bx_iret C0 hr hq hH hm0 d_V_floored_24 h
def f_V_floored_20  (y0 : Int32) (g : Nat → Nat) (v : mS) : Option (bO Int32) := f_V_floored_24 y0 g v
set_option maxHeartbeats 4000000 in
set_option maxRecDepth 100000 in
theorem w_V_floored_20 {p : Program} {l : Launch} {e : Env} {s : State} {m : MethodId} {args : Array Value} {below : List Frame} {meth : Method} {c : Code} {Z : bZ} {A : Nat → Prop} {q0 g0 : Nat → Nat} {o : bO Int32}  (C0 : bn_C "FilterBench$Values" b_V_floored 2 Z A p l s m args meth c) (hr : meth.sig.returnType = (some .int)) (hnx : ∀ x ∈ c.exceptionTable.toList, False) : ∀ (y0 : Int32) (g : Nat → Nat) (v : mS) (q : Nat → Nat) (H : Heap) (locs : List Loc) (ls : Array Slot), f_V_floored_20  y0 g v = some o → qs q0 q → gL g0 ≤ gL g → gL g ≤ gL o.2.1 → bn_H Z A s (q, g, v) H locs → lv_has ls 2 [] → bx_W p l e s m args below meth c Z A q0 g0 enI o 8 g H locs (F0 m 20 ls [.int y0]) := by
  have hx := C0.1
  have hb := C0.2.1
  have hl0 := C0.2.2.2.2.2.2.2.2.2
  intro y0 g v q H locs ls h hq hm0 hm hH hl
  unfold f_V_floored_20 at h
  have hcl9 := bx_room (h0 := 8) (o := o) hm0 hm
  refine lv_goto (tgt := 24) hx hb d_V_floored_20 (by decide) ?_
  exact w_V_floored_24 C0 hr hnx  _ _ _ _ _ _ _ h hq hm0 hm hH (lv_sub hl [] rfl)
def f_V_floored (g : Nat → Nat) (v : mS) (x1 : Int32) : Option (bO Int32) := mg g (bi (f_V_kindOf g v x1) fun r_3 v_1 => if r_3 = 3 then (bi (f_V_floorOf g v_1 x1) fun r_7 v_5 => bo (f_V_numberOf g v_5 ((r_7 : Int32).toInt64) 0) fun r9 g9 v9 => f_V_floored_20 r9 g9 v9) else (f_V_floored_24 (-1) g v_1))
theorem mn_V_floored {g : Nat → Nat} {v : mS}  {x1 : Int32} {o : bO Int32} (h : f_V_floored g v x1 = some o) : gL g ≤ gL o.2.1 := (mg_out h).1
set_option maxHeartbeats 4000000 in
set_option maxRecDepth 100000 in
theorem c_V_floored {l : Launch} {Z : bZ} (hl0 : l.stackTraces = false) {q g : Nat → Nat} {v : mS}  {x1 : Int32} {o : bO Int32} (h : f_V_floored g v x1 = some o) : bx_M l Z 8 y_V_floored b_V_floored 2 (some .int) [.ref (q 1), .int x1] q g v enI o := by
  refine bx_of hl0 (by decide +kernel) (Nat.le_of_ble_eq_true rfl) ?_
  intro p e s m args below meth c A ls C0 hr hnx hl hH
  have hx := C0.1
  have hb := C0.2.1
  have C0 : bn_C "FilterBench$Values" b_V_floored 2 Z A p l s m args meth c := C0
  have hl : lv_has ls 2 [(0, .ref (q 1)), (1, .int x1)] := hl
  obtain ⟨hm, h⟩ := mg_out h
  have hm0 : gL g ≤ gL g := Nat.le_refl _
  have hq : qs q q := qs.rf
  have hcl9 := bx_room (h0 := 8) (o := o) hm0 hm
  refine lv_aload_n hx hb d_V_floored_0 rfl (lv_at hl 0 rfl) ?_
  refine lv_iload_n hx hb d_V_floored_1 rfl (lv_at hl 1 rfl) ?_
  obtain ⟨r_3, v_1, hc_2, h⟩ := bi_out h
  refine bn_ci (r := r_3) (w := (q, g, v_1)) (as := [.int x1]) (rest := []) C0 hH (ci := 4) ⟨by decide, by decide⟩ (by decide) rfl (c_V_kindOf hl0 hc_2) yy_V_kindOf q_519 ⟨by simp only [bn_rm, dK]; omega, by simp only [bn_rm, dK]; omega⟩ rfl hl.1 rfl (Nat.le_of_ble_eq_true rfl) hcl9 d_V_floored_2 (fun H locs hH => ?_)
  refine lv_iconst (v := 3) hx hb d_V_floored_5 (by decide) ?_
  refine lv_icmp_ne (tgt := 23) hx hb d_V_floored_6 (by decide) (fun c_4 => ?_) (fun c_4 => ?_)
  · rw [if_neg c_4] at h
    refine lv_iconst (v := (-1)) hx hb d_V_floored_23 (by decide) ?_
    exact w_V_floored_24 C0 hr hnx  _ _ _ _ _ _ _ h hq hm0 hm hH (lv_sub hl [] rfl)
  · rw [if_pos c_4] at h
    refine lv_aload_n hx hb d_V_floored_9 rfl (lv_at hl 0 rfl) ?_
    refine lv_aload_n hx hb d_V_floored_10 rfl (lv_at hl 0 rfl) ?_
    refine lv_iload_n hx hb d_V_floored_11 rfl (lv_at hl 1 rfl) ?_
    obtain ⟨r_7, v_5, hc_6, h⟩ := bi_out h
    refine bn_ci (r := r_7) (w := (q, g, v_5)) (as := [.int x1]) (rest := [.ref (q 1)]) C0 hH (ci := 4) ⟨by decide, by decide⟩ (by decide) rfl (c_V_floorOf hl0 hc_6) yy_V_floorOf q_765 ⟨by simp only [bn_rm, dK]; omega, by simp only [bn_rm, dK]; omega⟩ rfl hl.1 rfl (Nat.le_of_ble_eq_true rfl) hcl9 d_V_floored_12 (fun H locs hH => ?_)
    refine lv_i2l hx hb d_V_floored_15 rfl ?_
    refine lv_iconst (v := 0) hx hb d_V_floored_16 (by decide) ?_
    obtain ⟨o1, hc, hm2, ht9, hx1, hk9⟩ := bo_out h
    have hm1 := mn_V_numberOf hc
    refine bx_cV (as := [.long ((r_7 : Int32).toInt64), .int 0]) (rest := []) C0 hnx hq hH hm0 hm1 hm2 ht9 (ci := 4) ⟨by decide, by decide⟩ (by decide) rfl (c_V_numberOf hl0 hc) yy_V_numberOf q_682 ⟨by first | omega | (simp only [dK]; omega), by first | omega | (simp only [dK]; omega)⟩ rfl hl.1 rfl (Nat.le_of_ble_eq_true rfl) d_V_floored_17 hx1 (fun r9 q1 H locs hr1 hq0 hq1 hm9 hH => ?_)
    have h := hk9 r9 hr1
    exact w_V_floored_20 C0 hr hnx  _ _ _ _ _ _ _ h hq0 hm9 hm2 hH (lv_sub hl [] rfl)
def f_V_keysOf_50 (K12 : Int32 → Int32 → (Nat → Nat) → mS → Option (bO Int32)) (x1 : Int32) (x2 : Int32) (y1 : Int32) (y2 : Int32) (g : Nat → Nat) (v : mS) : Option (bO Int32) := gd (inB y1 24) (nm (sU v 2 (y1 : Int32).toNatClampNeg y2) fun v_2 => nm (x2 + 1) fun x2_3 => K12 x1 x2_3 g v_2)
set_option maxHeartbeats 4000000 in
set_option maxRecDepth 100000 in
theorem w_V_keysOf_50 {p : Program} {l : Launch} {e : Env} {s : State} {m : MethodId} {args : Array Value} {below : List Frame} {meth : Method} {c : Code} {Z : bZ} {A : Nat → Prop} {q0 g0 : Nat → Nat} {o : bO Int32}  (C0 : bn_C "FilterBench$Values" b_V_keysOf 3 Z A p l s m args meth c) (hr : meth.sig.returnType = (some .int)) (hnx : ∀ x ∈ c.exceptionTable.toList, False) {K12 : Int32 → Int32 → (Nat → Nat) → mS → Option (bO Int32)} (hK12 : ∀ (x1 : Int32) (x2 : Int32) (g : Nat → Nat) (v : mS) (q : Nat → Nat) (H : Heap) (locs : List Loc) (ls : Array Slot), K12 x1 x2 g v = some o → qs q0 q → gL g0 ≤ gL g → gL g ≤ gL o.2.1 → bn_H Z A s (q, g, v) H locs → lv_has ls 3 [(0, .ref (q 1)), (1, .int x1), (2, .int x2)] → bx_W p l e s m args below meth c Z A q0 g0 enI o 9 g H locs (F0 m 12 ls [])) : ∀ (x1 : Int32) (x2 : Int32) (y1 : Int32) (y2 : Int32) (g : Nat → Nat) (v : mS) (q : Nat → Nat) (H : Heap) (locs : List Loc) (ls : Array Slot), f_V_keysOf_50 K12 x1 x2 y1 y2 g v = some o → qs q0 q → gL g0 ≤ gL g → gL g ≤ gL o.2.1 → bn_H Z A s (q, g, v) H locs → lv_has ls 3 [(0, .ref (q 1)), (1, .int x1), (2, .int x2)] → bx_W p l e s m args below meth c Z A q0 g0 enI o 9 g H locs (F0 m 50 ls [.int y2, .int y1, .ref (q 2)]) := by
  have hx := C0.1
  have hb := C0.2.1
  have hl0 := C0.2.2.2.2.2.2.2.2.2
  intro x1 x2 y1 y2 g v q H locs ls h hq hm0 hm hH hl
  unfold f_V_keysOf_50 at h
  have hcl9 := bx_room (h0 := 9) (o := o) hm0 hm
  obtain ⟨g_1, h⟩ := gd_out h
  obtain ⟨v_2, hv_2, h⟩ := nm_out h
  refine bn_sto ⟨by decide, by decide⟩ C0 hH (inB_in g_1) d_V_keysOf_50 (fun H locs hH => ?_)
  have hH : bn_H Z A s (q, g, v_2) H locs := by rw [hv_2]; exact hH
  obtain ⟨x2_3, hx2_3, h⟩ := nm_out h
  refine lv_iinc (v := x2_3) (lv' := [(2, .int x2_3), (0, .ref (q 1)), (1, .int x1)]) hx hb d_V_keysOf_51 hl (k := 2) rfl (by rw [hx2_3]; rfl) (by decide) rfl (fun ls hl => ?_)
  refine lv_goto (tgt := 12) hx hb d_V_keysOf_54 (by decide) ?_
  exact hK12 _ _ _ _ _ _ _ _ h hq hm0 hm hH (lv_sub hl [1, 2, 0] rfl)
def f_V_keysOf_70  (y0 : Int32) (g : Nat → Nat) (v : mS) : Option (bO Int32) := some (.inl (y0), g, v)
set_option maxHeartbeats 4000000 in
set_option maxRecDepth 100000 in
theorem w_V_keysOf_70 {p : Program} {l : Launch} {e : Env} {s : State} {m : MethodId} {args : Array Value} {below : List Frame} {meth : Method} {c : Code} {Z : bZ} {A : Nat → Prop} {q0 g0 : Nat → Nat} {o : bO Int32}  (C0 : bn_C "FilterBench$Values" b_V_keysOf 3 Z A p l s m args meth c) (hr : meth.sig.returnType = (some .int)) (hnx : ∀ x ∈ c.exceptionTable.toList, False) : ∀ (y0 : Int32) (g : Nat → Nat) (v : mS) (q : Nat → Nat) (H : Heap) (locs : List Loc) (ls : Array Slot), f_V_keysOf_70  y0 g v = some o → qs q0 q → gL g0 ≤ gL g → gL g ≤ gL o.2.1 → bn_H Z A s (q, g, v) H locs → lv_has ls 3 [] → bx_W p l e s m args below meth c Z A q0 g0 enI o 9 g H locs (F0 m 70 ls [.int y0]) := by
  have hx := C0.1
  have hb := C0.2.1
  have hl0 := C0.2.2.2.2.2.2.2.2.2
  intro y0 g v q H locs ls h hq hm0 hm hH hl
  unfold f_V_keysOf_70 at h
  have hcl9 := bx_room (h0 := 9) (o := o) hm0 hm
  exact bx_iret C0 hr hq hH hm0 d_V_keysOf_70 h
def f_V_keysOf_12  : Nat → Int32 → Int32 → (Nat → Nat) → mS → Option (bO Int32)
  | 0, _, _, _, _ => none
  | n + 1, x1, x2, g, v => bi (f_V_lengthOf g v x1) fun r_3 v_1 => if r_3 ≤ x2 then (bi (f_V_lengthOf g v_1 x1) fun r_7 v_5 => bo (f_V_arrayOf g v_5 2 r_7) fun r9 g9 v9 => f_V_keysOf_70 r9 g9 v9) else (bi (f_V_kindOf g v_1 x1) fun r_10 v_8 => if r_10 = 6 then (bi (f_V_nameAt g v_8 x1 x2) fun r_17 v_15 => f_V_keysOf_50 (f_V_keysOf_12 n) x1 x2 x2 r_17 g v_15) else (bi (f_V_small g v_8 x2) fun r_14 v_12 => f_V_keysOf_50 (f_V_keysOf_12 n) x1 x2 x2 r_14 g v_12))
set_option maxHeartbeats 4000000 in
set_option maxRecDepth 100000 in
theorem w_V_keysOf_12 {p : Program} {l : Launch} {e : Env} {s : State} {m : MethodId} {args : Array Value} {below : List Frame} {meth : Method} {c : Code} {Z : bZ} {A : Nat → Prop} {q0 g0 : Nat → Nat} {o : bO Int32}  (C0 : bn_C "FilterBench$Values" b_V_keysOf 3 Z A p l s m args meth c) (hr : meth.sig.returnType = (some .int)) (hnx : ∀ x ∈ c.exceptionTable.toList, False) : ∀ (n : Nat) (x1 : Int32) (x2 : Int32) (g : Nat → Nat) (v : mS) (q : Nat → Nat) (H : Heap) (locs : List Loc) (ls : Array Slot), f_V_keysOf_12  n x1 x2 g v = some o → qs q0 q → gL g0 ≤ gL g → gL g ≤ gL o.2.1 → bn_H Z A s (q, g, v) H locs → lv_has ls 3 [(0, .ref (q 1)), (1, .int x1), (2, .int x2)] → bx_W p l e s m args below meth c Z A q0 g0 enI o 9 g H locs (F0 m 12 ls []) := by
  have hx := C0.1
  have hb := C0.2.1
  have hl0 := C0.2.2.2.2.2.2.2.2.2
  intro n
  induction n with
  | zero =>
    intro x1 x2 g v q H locs ls h hq hm0 hm hH hl
    cases h
  | succ n ih =>
    intro x1 x2 g v q H locs ls h hq hm0 hm hH hl
    rw [f_V_keysOf_12] at h
    have hcl9 := bx_room (h0 := 9) (o := o) hm0 hm
    refine lv_iload_n hx hb d_V_keysOf_12 rfl (lv_at hl 2 rfl) ?_
    refine lv_aload_n hx hb d_V_keysOf_13 rfl (lv_at hl 0 rfl) ?_
    refine lv_iload_n hx hb d_V_keysOf_14 rfl (lv_at hl 1 rfl) ?_
    obtain ⟨r_3, v_1, hc_2, h⟩ := bi_out h
    refine bn_ci (r := r_3) (w := (q, g, v_1)) (as := [.int x1]) (rest := [.int x2]) C0 hH (ci := 4) ⟨by decide, by decide⟩ (by decide) rfl (c_V_lengthOf hl0 hc_2) yy_V_lengthOf q_383 ⟨by simp only [bn_rm, dK]; omega, by simp only [bn_rm, dK]; omega⟩ rfl hl.1 rfl (Nat.le_of_ble_eq_true rfl) hcl9 d_V_keysOf_15 (fun H locs hH => ?_)
    refine lv_icmp_ge (tgt := 57) hx hb d_V_keysOf_18 (by decide) (fun c_4 => ?_) (fun c_4 => ?_)
    · rw [if_pos c_4] at h
      refine lv_aload_n hx hb d_V_keysOf_57 rfl (lv_at hl 0 rfl) ?_
      refine lv_aload_n hx hb d_V_keysOf_58 rfl (lv_at hl 0 rfl) ?_
      refine bn_g_V_items ⟨by decide, by decide⟩ C0 hH d_V_keysOf_59 ?_
      refine lv_aload_n hx hb d_V_keysOf_62 rfl (lv_at hl 0 rfl) ?_
      refine lv_iload_n hx hb d_V_keysOf_63 rfl (lv_at hl 1 rfl) ?_
      obtain ⟨r_7, v_5, hc_6, h⟩ := bi_out h
      refine bn_ci (r := r_7) (w := (q, g, v_5)) (as := [.int x1]) (rest := [.ref (q 2), .ref (q 1)]) C0 hH (ci := 4) ⟨by decide, by decide⟩ (by decide) rfl (c_V_lengthOf hl0 hc_6) yy_V_lengthOf q_383 ⟨by simp only [bn_rm, dK]; omega, by simp only [bn_rm, dK]; omega⟩ rfl hl.1 rfl (Nat.le_of_ble_eq_true rfl) hcl9 d_V_keysOf_64 (fun H locs hH => ?_)
      obtain ⟨o1, hc, hm2, ht9, hx1, hk9⟩ := bo_out h
      have hm1 := mn_V_arrayOf hc
      refine bx_cV (as := [.ref (q 2), .int r_7]) (rest := []) C0 hnx hq hH hm0 hm1 hm2 ht9 (ci := 4) ⟨by decide, by decide⟩ (by decide) rfl (c_V_arrayOf hl0 hc) yy_V_arrayOf q_695 ⟨by first | omega | (simp only [dK]; omega), by first | omega | (simp only [dK]; omega)⟩ rfl hl.1 rfl (Nat.le_of_ble_eq_true rfl) d_V_keysOf_67 hx1 (fun r9 q1 H locs hr1 hq0 hq1 hm9 hH => ?_)
      have h := hk9 r9 hr1
      exact w_V_keysOf_70 C0 hr hnx  _ _ _ _ _ _ _ h hq0 hm9 hm2 hH (lv_sub hl [] rfl)
    · rw [if_neg c_4] at h
      refine lv_aload_n hx hb d_V_keysOf_21 rfl (lv_at hl 0 rfl) ?_
      refine bn_g_V_items ⟨by decide, by decide⟩ C0 hH d_V_keysOf_22 ?_
      refine lv_iload_n hx hb d_V_keysOf_25 rfl (lv_at hl 2 rfl) ?_
      refine lv_aload_n hx hb d_V_keysOf_26 rfl (lv_at hl 0 rfl) ?_
      refine lv_iload_n hx hb d_V_keysOf_27 rfl (lv_at hl 1 rfl) ?_
      obtain ⟨r_10, v_8, hc_9, h⟩ := bi_out h
      refine bn_ci (r := r_10) (w := (q, g, v_8)) (as := [.int x1]) (rest := [.int x2, .ref (q 2)]) C0 hH (ci := 4) ⟨by decide, by decide⟩ (by decide) rfl (c_V_kindOf hl0 hc_9) yy_V_kindOf q_519 ⟨by simp only [bn_rm, dK]; omega, by simp only [bn_rm, dK]; omega⟩ rfl hl.1 rfl (Nat.le_of_ble_eq_true rfl) hcl9 d_V_keysOf_28 (fun H locs hH => ?_)
      refine lv_bipush (v := 6) hx hb d_V_keysOf_31 (by decide) ?_
      refine lv_icmp_ne (tgt := 45) hx hb d_V_keysOf_33 (by decide) (fun c_11 => ?_) (fun c_11 => ?_)
      · rw [if_neg c_11] at h
        refine lv_aload_n hx hb d_V_keysOf_45 rfl (lv_at hl 0 rfl) ?_
        refine lv_iload_n hx hb d_V_keysOf_46 rfl (lv_at hl 2 rfl) ?_
        obtain ⟨r_14, v_12, hc_13, h⟩ := bi_out h
        refine bn_ci (r := r_14) (w := (q, g, v_12)) (as := [.int x2]) (rest := [.int x2, .ref (q 2)]) C0 hH (ci := 4) ⟨by decide, by decide⟩ (by decide) rfl (c_V_small hl0 hc_13) yy_V_small q_140 ⟨by simp only [bn_rm, dK]; omega, by simp only [bn_rm, dK]; omega⟩ rfl hl.1 rfl (Nat.le_of_ble_eq_true rfl) hcl9 d_V_keysOf_47 (fun H locs hH => ?_)
        exact w_V_keysOf_50 C0 hr hnx ih _ _ _ _ _ _ _ _ _ _ h hq hm0 hm hH (lv_sub hl [0, 1, 2] rfl)
      · rw [if_pos c_11] at h
        refine lv_aload_n hx hb d_V_keysOf_36 rfl (lv_at hl 0 rfl) ?_
        refine lv_iload_n hx hb d_V_keysOf_37 rfl (lv_at hl 1 rfl) ?_
        refine lv_iload_n hx hb d_V_keysOf_38 rfl (lv_at hl 2 rfl) ?_
        obtain ⟨r_17, v_15, hc_16, h⟩ := bi_out h
        refine bn_ci (r := r_17) (w := (q, g, v_15)) (as := [.int x1, .int x2]) (rest := [.int x2, .ref (q 2)]) C0 hH (ci := 4) ⟨by decide, by decide⟩ (by decide) rfl (c_V_nameAt hl0 hc_16) yy_V_nameAt q_527 ⟨by simp only [bn_rm, dK]; omega, by simp only [bn_rm, dK]; omega⟩ rfl hl.1 rfl (Nat.le_of_ble_eq_true rfl) hcl9 d_V_keysOf_39 (fun H locs hH => ?_)
        refine lv_goto (tgt := 50) hx hb d_V_keysOf_42 (by decide) ?_
        exact w_V_keysOf_50 C0 hr hnx ih _ _ _ _ _ _ _ _ _ _ h hq hm0 hm hH (lv_sub hl [0, 1, 2] rfl)
def f_V_keysOf (g : Nat → Nat) (v : mS) (x1 : Int32) : Option (bO Int32) := mg g (bi (f_V_hasParts g v x1) fun r_3 v_1 => if r_3 = 0 then (some (.inl ((-1)), g, v_1)) else (f_V_keysOf_12 fu x1 0 g v_1))
theorem mn_V_keysOf {g : Nat → Nat} {v : mS}  {x1 : Int32} {o : bO Int32} (h : f_V_keysOf g v x1 = some o) : gL g ≤ gL o.2.1 := (mg_out h).1
set_option maxHeartbeats 4000000 in
set_option maxRecDepth 100000 in
theorem c_V_keysOf {l : Launch} {Z : bZ} (hl0 : l.stackTraces = false) {q g : Nat → Nat} {v : mS}  {x1 : Int32} {o : bO Int32} (h : f_V_keysOf g v x1 = some o) : bx_M l Z 9 y_V_keysOf b_V_keysOf 3 (some .int) [.ref (q 1), .int x1] q g v enI o := by
  refine bx_of hl0 (by decide +kernel) (Nat.le_of_ble_eq_true rfl) ?_
  intro p e s m args below meth c A ls C0 hr hnx hl hH
  have hx := C0.1
  have hb := C0.2.1
  have C0 : bn_C "FilterBench$Values" b_V_keysOf 3 Z A p l s m args meth c := C0
  have hl : lv_has ls 3 [(0, .ref (q 1)), (1, .int x1)] := hl
  obtain ⟨hm, h⟩ := mg_out h
  have hm0 : gL g ≤ gL g := Nat.le_refl _
  have hq : qs q q := qs.rf
  have hcl9 := bx_room (h0 := 9) (o := o) hm0 hm
  refine lv_aload_n hx hb d_V_keysOf_0 rfl (lv_at hl 0 rfl) ?_
  refine lv_iload_n hx hb d_V_keysOf_1 rfl (lv_at hl 1 rfl) ?_
  obtain ⟨r_3, v_1, hc_2, h⟩ := bi_out h
  refine bn_ci (r := r_3) (w := (q, g, v_1)) (as := [.int x1]) (rest := []) C0 hH (ci := 4) ⟨by decide, by decide⟩ (by decide) rfl (c_V_hasParts hl0 hc_2) yy_V_hasParts q_743 ⟨by simp only [bn_rm, dK]; omega, by simp only [bn_rm, dK]; omega⟩ rfl hl.1 rfl (Nat.le_of_ble_eq_true rfl) hcl9 d_V_keysOf_2 (fun H locs hH => ?_)
  refine lv_if_ne (tgt := 10) hx hb d_V_keysOf_5 (by decide) (fun c_4 => ?_) (fun c_4 => ?_)
  · rw [if_neg c_4] at h
    refine lv_iconst (v := 0) hx hb d_V_keysOf_10 (by decide) ?_
    refine lv_istore_n (lv' := [(2, .int 0), (0, .ref (q 1)), (1, .int x1)]) hx hb d_V_keysOf_11 rfl hl (by decide) rfl (fun ls hl => ?_)
    exact w_V_keysOf_12 C0 hr hnx  fu _ _ _ _ _ _ _ _ h hq hm0 hm hH (lv_sub hl [1, 2, 0] rfl)
  · rw [if_pos c_4] at h
    refine lv_iconst (v := (-1)) hx hb d_V_keysOf_8 (by decide) ?_
    exact bx_iret C0 hr hq hH hm0 d_V_keysOf_9 h
def f_V_sorted_69 (K13 : Int32 → Int32 → (Nat → Nat) → mS → Option (bO Int32)) (x1 : Int32) (x2 : Int32) (x3 : Int32) (g : Nat → Nat) (v : mS) : Option (bO Int32) := bi (f_V_itemAt g v x1 x2) fun r_3 v_1 => gd (inB x3 24) (nm (sU v_1 2 (x3 : Int32).toNatClampNeg r_3) fun v_5 => nm (x2 + 1) fun x2_6 => K13 x1 x2_6 g v_5)
set_option maxHeartbeats 4000000 in
set_option maxRecDepth 100000 in
theorem w_V_sorted_69 {p : Program} {l : Launch} {e : Env} {s : State} {m : MethodId} {args : Array Value} {below : List Frame} {meth : Method} {c : Code} {Z : bZ} {A : Nat → Prop} {q0 g0 : Nat → Nat} {o : bO Int32}  (C0 : bn_C "FilterBench$Values" b_V_sorted 4 Z A p l s m args meth c) (hr : meth.sig.returnType = (some .int)) (hnx : ∀ x ∈ c.exceptionTable.toList, False) {K13 : Int32 → Int32 → (Nat → Nat) → mS → Option (bO Int32)} (hK13 : ∀ (x1 : Int32) (x2 : Int32) (g : Nat → Nat) (v : mS) (q : Nat → Nat) (H : Heap) (locs : List Loc) (ls : Array Slot), K13 x1 x2 g v = some o → qs q0 q → gL g0 ≤ gL g → gL g ≤ gL o.2.1 → bn_H Z A s (q, g, v) H locs → lv_has ls 4 [(0, .ref (q 1)), (1, .int x1), (2, .int x2)] → bx_W p l e s m args below meth c Z A q0 g0 enI o 31 g H locs (F0 m 13 ls [])) : ∀ (x1 : Int32) (x2 : Int32) (x3 : Int32) (g : Nat → Nat) (v : mS) (q : Nat → Nat) (H : Heap) (locs : List Loc) (ls : Array Slot), f_V_sorted_69 K13 x1 x2 x3 g v = some o → qs q0 q → gL g0 ≤ gL g → gL g ≤ gL o.2.1 → bn_H Z A s (q, g, v) H locs → lv_has ls 4 [(0, .ref (q 1)), (1, .int x1), (2, .int x2), (3, .int x3)] → bx_W p l e s m args below meth c Z A q0 g0 enI o 31 g H locs (F0 m 69 ls []) := by
  have hx := C0.1
  have hb := C0.2.1
  have hl0 := C0.2.2.2.2.2.2.2.2.2
  intro x1 x2 x3 g v q H locs ls h hq hm0 hm hH hl
  unfold f_V_sorted_69 at h
  have hcl9 := bx_room (h0 := 31) (o := o) hm0 hm
  refine lv_aload_n hx hb d_V_sorted_69 rfl (lv_at hl 0 rfl) ?_
  refine bn_g_V_items ⟨by decide, by decide⟩ C0 hH d_V_sorted_70 ?_
  refine lv_iload_n hx hb d_V_sorted_73 rfl (lv_at hl 3 rfl) ?_
  refine lv_aload_n hx hb d_V_sorted_74 rfl (lv_at hl 0 rfl) ?_
  refine lv_iload_n hx hb d_V_sorted_75 rfl (lv_at hl 1 rfl) ?_
  refine lv_iload_n hx hb d_V_sorted_76 rfl (lv_at hl 2 rfl) ?_
  obtain ⟨r_3, v_1, hc_2, h⟩ := bi_out h
  refine bn_ci (r := r_3) (w := (q, g, v_1)) (as := [.int x1, .int x2]) (rest := [.int x3, .ref (q 2)]) C0 hH (ci := 4) ⟨by decide, by decide⟩ (by decide) rfl (c_V_itemAt hl0 hc_2) yy_V_itemAt q_543 ⟨by simp only [bn_rm, dK]; omega, by simp only [bn_rm, dK]; omega⟩ rfl hl.1 rfl (Nat.le_of_ble_eq_true rfl) hcl9 d_V_sorted_77 (fun H locs hH => ?_)
  obtain ⟨g_4, h⟩ := gd_out h
  obtain ⟨v_5, hv_5, h⟩ := nm_out h
  refine bn_sto ⟨by decide, by decide⟩ C0 hH (inB_in g_4) d_V_sorted_80 (fun H locs hH => ?_)
  have hH : bn_H Z A s (q, g, v_5) H locs := by rw [hv_5]; exact hH
  obtain ⟨x2_6, hx2_6, h⟩ := nm_out h
  refine lv_iinc (v := x2_6) (lv' := [(2, .int x2_6), (0, .ref (q 1)), (1, .int x1), (3, .int x3)]) hx hb d_V_sorted_81 hl (k := 2) rfl (by rw [hx2_6]; rfl) (by decide) rfl (fun ls hl => ?_)
  refine lv_goto (tgt := 13) hx hb d_V_sorted_84 (by decide) ?_
  exact hK13 _ _ _ _ _ _ _ _ h hq hm0 hm hH (lv_sub hl [1, 2, 0] rfl)
def f_V_sorted_24 (K13 : Int32 → Int32 → (Nat → Nat) → mS → Option (bO Int32)) : Nat → Int32 → Int32 → Int32 → (Nat → Nat) → mS → Option (bO Int32)
  | 0, _, _, _, _, _ => none
  | n + 1, x1, x2, x3, g, v => if x3 ≤ 0 then (f_V_sorted_69 K13 x1 x2 x3 g v) else (gd (inB (x3 - 1) 24) (bi (f_V_itemAt g v x1 x2) fun r_5 v_3 => bi (f_V_compared dK g v_3 (v 2 (x3 - 1 : Int32).toNatClampNeg) r_5) fun r_8 v_6 => if r_8 ≤ 0 then (f_V_sorted_69 K13 x1 x2 x3 g v_6) else (gd (inB (x3 - 1) 24) (gd (inB x3 24) (nm (sU v_6 2 (x3 : Int32).toNatClampNeg (v_6 2 (x3 - 1 : Int32).toNatClampNeg)) fun v_12 => nm (x3 + (-1)) fun x3_13 => f_V_sorted_24 K13 n x1 x2 x3_13 g v_12)))))
set_option maxHeartbeats 4000000 in
set_option maxRecDepth 100000 in
theorem w_V_sorted_24 {p : Program} {l : Launch} {e : Env} {s : State} {m : MethodId} {args : Array Value} {below : List Frame} {meth : Method} {c : Code} {Z : bZ} {A : Nat → Prop} {q0 g0 : Nat → Nat} {o : bO Int32}  (C0 : bn_C "FilterBench$Values" b_V_sorted 4 Z A p l s m args meth c) (hr : meth.sig.returnType = (some .int)) (hnx : ∀ x ∈ c.exceptionTable.toList, False) {K13 : Int32 → Int32 → (Nat → Nat) → mS → Option (bO Int32)} (hK13 : ∀ (x1 : Int32) (x2 : Int32) (g : Nat → Nat) (v : mS) (q : Nat → Nat) (H : Heap) (locs : List Loc) (ls : Array Slot), K13 x1 x2 g v = some o → qs q0 q → gL g0 ≤ gL g → gL g ≤ gL o.2.1 → bn_H Z A s (q, g, v) H locs → lv_has ls 4 [(0, .ref (q 1)), (1, .int x1), (2, .int x2)] → bx_W p l e s m args below meth c Z A q0 g0 enI o 31 g H locs (F0 m 13 ls [])) : ∀ (n : Nat) (x1 : Int32) (x2 : Int32) (x3 : Int32) (g : Nat → Nat) (v : mS) (q : Nat → Nat) (H : Heap) (locs : List Loc) (ls : Array Slot), f_V_sorted_24 K13 n x1 x2 x3 g v = some o → qs q0 q → gL g0 ≤ gL g → gL g ≤ gL o.2.1 → bn_H Z A s (q, g, v) H locs → lv_has ls 4 [(0, .ref (q 1)), (1, .int x1), (2, .int x2), (3, .int x3)] → bx_W p l e s m args below meth c Z A q0 g0 enI o 31 g H locs (F0 m 24 ls []) := by
  have hx := C0.1
  have hb := C0.2.1
  have hl0 := C0.2.2.2.2.2.2.2.2.2
  intro n
  induction n with
  | zero =>
    intro x1 x2 x3 g v q H locs ls h hq hm0 hm hH hl
    cases h
  | succ n ih =>
    intro x1 x2 x3 g v q H locs ls h hq hm0 hm hH hl
    rw [f_V_sorted_24] at h
    have hcl9 := bx_room (h0 := 31) (o := o) hm0 hm
    refine lv_iload_n hx hb d_V_sorted_24 rfl (lv_at hl 3 rfl) ?_
    refine lv_if_le (tgt := 69) hx hb d_V_sorted_25 (by decide) (fun c_1 => ?_) (fun c_1 => ?_)
    · rw [if_pos c_1] at h
      exact w_V_sorted_69 C0 hr hnx hK13 _ _ _ _ _ _ _ _ _ h hq hm0 hm hH (lv_sub hl [0, 1, 2, 3] rfl)
    · rw [if_neg c_1] at h
      refine lv_aload_n hx hb d_V_sorted_28 rfl (lv_at hl 0 rfl) ?_
      refine lv_aload_n hx hb d_V_sorted_29 rfl (lv_at hl 0 rfl) ?_
      refine bn_g_V_items ⟨by decide, by decide⟩ C0 hH d_V_sorted_30 ?_
      refine lv_iload_n hx hb d_V_sorted_33 rfl (lv_at hl 3 rfl) ?_
      refine lv_iconst (v := 1) hx hb d_V_sorted_34 (by decide) ?_
      refine lv_isub hx hb d_V_sorted_35 ?_
      obtain ⟨g_2, h⟩ := gd_out h
      refine bn_ld ⟨by decide, by decide⟩ C0 hH (inB_in g_2) d_V_sorted_36 ?_
      refine lv_aload_n hx hb d_V_sorted_37 rfl (lv_at hl 0 rfl) ?_
      refine lv_iload_n hx hb d_V_sorted_38 rfl (lv_at hl 1 rfl) ?_
      refine lv_iload_n hx hb d_V_sorted_39 rfl (lv_at hl 2 rfl) ?_
      obtain ⟨r_5, v_3, hc_4, h⟩ := bi_out h
      refine bn_ci (r := r_5) (w := (q, g, v_3)) (as := [.int x1, .int x2]) (rest := [.int (v 2 (x3 - 1 : Int32).toNatClampNeg), .ref (q 1)]) C0 hH (ci := 4) ⟨by decide, by decide⟩ (by decide) rfl (c_V_itemAt hl0 hc_4) yy_V_itemAt q_543 ⟨by simp only [bn_rm, dK]; omega, by simp only [bn_rm, dK]; omega⟩ rfl hl.1 rfl (Nat.le_of_ble_eq_true rfl) hcl9 d_V_sorted_40 (fun H locs hH => ?_)
      obtain ⟨r_8, v_6, hc_7, h⟩ := bi_out h
      refine bn_ci (r := r_8) (w := (q, g, v_6)) (as := [.int (v 2 (x3 - 1 : Int32).toNatClampNeg), .int r_5]) (rest := []) C0 hH (ci := 4) ⟨by decide, by decide⟩ (by decide) rfl (c_V_comparedn hl0 dK hc_7) yy_V_compared q_670 ⟨by simp only [bn_rm, dK]; omega, by simp only [bn_rm, dK]; omega⟩ rfl hl.1 rfl (Nat.le_of_ble_eq_true rfl) hcl9 d_V_sorted_43 (fun H locs hH => ?_)
      refine lv_if_le (tgt := 69) hx hb d_V_sorted_46 (by decide) (fun c_9 => ?_) (fun c_9 => ?_)
      · rw [if_pos c_9] at h
        exact w_V_sorted_69 C0 hr hnx hK13 _ _ _ _ _ _ _ _ _ h hq hm0 hm hH (lv_sub hl [0, 1, 2, 3] rfl)
      · rw [if_neg c_9] at h
        refine lv_aload_n hx hb d_V_sorted_49 rfl (lv_at hl 0 rfl) ?_
        refine bn_g_V_items ⟨by decide, by decide⟩ C0 hH d_V_sorted_50 ?_
        refine lv_iload_n hx hb d_V_sorted_53 rfl (lv_at hl 3 rfl) ?_
        refine lv_aload_n hx hb d_V_sorted_54 rfl (lv_at hl 0 rfl) ?_
        refine bn_g_V_items ⟨by decide, by decide⟩ C0 hH d_V_sorted_55 ?_
        refine lv_iload_n hx hb d_V_sorted_58 rfl (lv_at hl 3 rfl) ?_
        refine lv_iconst (v := 1) hx hb d_V_sorted_59 (by decide) ?_
        refine lv_isub hx hb d_V_sorted_60 ?_
        obtain ⟨g_10, h⟩ := gd_out h
        refine bn_ld ⟨by decide, by decide⟩ C0 hH (inB_in g_10) d_V_sorted_61 ?_
        obtain ⟨g_11, h⟩ := gd_out h
        obtain ⟨v_12, hv_12, h⟩ := nm_out h
        refine bn_sto ⟨by decide, by decide⟩ C0 hH (inB_in g_11) d_V_sorted_62 (fun H locs hH => ?_)
        have hH : bn_H Z A s (q, g, v_12) H locs := by rw [hv_12]; exact hH
        obtain ⟨x3_13, hx3_13, h⟩ := nm_out h
        refine lv_iinc (v := x3_13) (lv' := [(3, .int x3_13), (0, .ref (q 1)), (1, .int x1), (2, .int x2)]) hx hb d_V_sorted_63 hl (k := 3) rfl (by rw [hx3_13]; rfl) (by decide) rfl (fun ls hl => ?_)
        refine lv_goto (tgt := 24) hx hb d_V_sorted_66 (by decide) ?_
        exact ih _ _ _ _ _ _ _ _ _ h hq hm0 hm hH (lv_sub hl [1, 2, 3, 0] rfl)
def f_V_sorted_100  (y0 : Int32) (g : Nat → Nat) (v : mS) : Option (bO Int32) := some (.inl (y0), g, v)
set_option maxHeartbeats 4000000 in
set_option maxRecDepth 100000 in
theorem w_V_sorted_100 {p : Program} {l : Launch} {e : Env} {s : State} {m : MethodId} {args : Array Value} {below : List Frame} {meth : Method} {c : Code} {Z : bZ} {A : Nat → Prop} {q0 g0 : Nat → Nat} {o : bO Int32}  (C0 : bn_C "FilterBench$Values" b_V_sorted 4 Z A p l s m args meth c) (hr : meth.sig.returnType = (some .int)) (hnx : ∀ x ∈ c.exceptionTable.toList, False) : ∀ (y0 : Int32) (g : Nat → Nat) (v : mS) (q : Nat → Nat) (H : Heap) (locs : List Loc) (ls : Array Slot), f_V_sorted_100  y0 g v = some o → qs q0 q → gL g0 ≤ gL g → gL g ≤ gL o.2.1 → bn_H Z A s (q, g, v) H locs → lv_has ls 4 [] → bx_W p l e s m args below meth c Z A q0 g0 enI o 31 g H locs (F0 m 100 ls [.int y0]) := by
  have hx := C0.1
  have hb := C0.2.1
  have hl0 := C0.2.2.2.2.2.2.2.2.2
  intro y0 g v q H locs ls h hq hm0 hm hH hl
  unfold f_V_sorted_100 at h
  have hcl9 := bx_room (h0 := 31) (o := o) hm0 hm
  exact bx_iret C0 hr hq hH hm0 d_V_sorted_100 h
def f_V_sorted_13  : Nat → Int32 → Int32 → (Nat → Nat) → mS → Option (bO Int32)
  | 0, _, _, _, _ => none
  | n + 1, x1, x2, g, v => bi (f_V_lengthOf g v x1) fun r_3 v_1 => if r_3 ≤ x2 then (bi (f_V_lengthOf g v_1 x1) fun r_7 v_5 => bo (f_V_arrayOf g v_5 2 r_7) fun r9 g9 v9 => f_V_sorted_100 r9 g9 v9) else (f_V_sorted_24 (f_V_sorted_13 n) fu x1 x2 x2 g v_1)
set_option maxHeartbeats 4000000 in
set_option maxRecDepth 100000 in
theorem w_V_sorted_13 {p : Program} {l : Launch} {e : Env} {s : State} {m : MethodId} {args : Array Value} {below : List Frame} {meth : Method} {c : Code} {Z : bZ} {A : Nat → Prop} {q0 g0 : Nat → Nat} {o : bO Int32}  (C0 : bn_C "FilterBench$Values" b_V_sorted 4 Z A p l s m args meth c) (hr : meth.sig.returnType = (some .int)) (hnx : ∀ x ∈ c.exceptionTable.toList, False) : ∀ (n : Nat) (x1 : Int32) (x2 : Int32) (g : Nat → Nat) (v : mS) (q : Nat → Nat) (H : Heap) (locs : List Loc) (ls : Array Slot), f_V_sorted_13  n x1 x2 g v = some o → qs q0 q → gL g0 ≤ gL g → gL g ≤ gL o.2.1 → bn_H Z A s (q, g, v) H locs → lv_has ls 4 [(0, .ref (q 1)), (1, .int x1), (2, .int x2)] → bx_W p l e s m args below meth c Z A q0 g0 enI o 31 g H locs (F0 m 13 ls []) := by
  have hx := C0.1
  have hb := C0.2.1
  have hl0 := C0.2.2.2.2.2.2.2.2.2
  intro n
  induction n with
  | zero =>
    intro x1 x2 g v q H locs ls h hq hm0 hm hH hl
    cases h
  | succ n ih =>
    intro x1 x2 g v q H locs ls h hq hm0 hm hH hl
    rw [f_V_sorted_13] at h
    have hcl9 := bx_room (h0 := 31) (o := o) hm0 hm
    refine lv_iload_n hx hb d_V_sorted_13 rfl (lv_at hl 2 rfl) ?_
    refine lv_aload_n hx hb d_V_sorted_14 rfl (lv_at hl 0 rfl) ?_
    refine lv_iload_n hx hb d_V_sorted_15 rfl (lv_at hl 1 rfl) ?_
    obtain ⟨r_3, v_1, hc_2, h⟩ := bi_out h
    refine bn_ci (r := r_3) (w := (q, g, v_1)) (as := [.int x1]) (rest := [.int x2]) C0 hH (ci := 4) ⟨by decide, by decide⟩ (by decide) rfl (c_V_lengthOf hl0 hc_2) yy_V_lengthOf q_383 ⟨by simp only [bn_rm, dK]; omega, by simp only [bn_rm, dK]; omega⟩ rfl hl.1 rfl (Nat.le_of_ble_eq_true rfl) hcl9 d_V_sorted_16 (fun H locs hH => ?_)
    refine lv_icmp_ge (tgt := 87) hx hb d_V_sorted_19 (by decide) (fun c_4 => ?_) (fun c_4 => ?_)
    · rw [if_pos c_4] at h
      refine lv_aload_n hx hb d_V_sorted_87 rfl (lv_at hl 0 rfl) ?_
      refine lv_aload_n hx hb d_V_sorted_88 rfl (lv_at hl 0 rfl) ?_
      refine bn_g_V_items ⟨by decide, by decide⟩ C0 hH d_V_sorted_89 ?_
      refine lv_aload_n hx hb d_V_sorted_92 rfl (lv_at hl 0 rfl) ?_
      refine lv_iload_n hx hb d_V_sorted_93 rfl (lv_at hl 1 rfl) ?_
      obtain ⟨r_7, v_5, hc_6, h⟩ := bi_out h
      refine bn_ci (r := r_7) (w := (q, g, v_5)) (as := [.int x1]) (rest := [.ref (q 2), .ref (q 1)]) C0 hH (ci := 4) ⟨by decide, by decide⟩ (by decide) rfl (c_V_lengthOf hl0 hc_6) yy_V_lengthOf q_383 ⟨by simp only [bn_rm, dK]; omega, by simp only [bn_rm, dK]; omega⟩ rfl hl.1 rfl (Nat.le_of_ble_eq_true rfl) hcl9 d_V_sorted_94 (fun H locs hH => ?_)
      obtain ⟨o1, hc, hm2, ht9, hx1, hk9⟩ := bo_out h
      have hm1 := mn_V_arrayOf hc
      refine bx_cV (as := [.ref (q 2), .int r_7]) (rest := []) C0 hnx hq hH hm0 hm1 hm2 ht9 (ci := 4) ⟨by decide, by decide⟩ (by decide) rfl (c_V_arrayOf hl0 hc) yy_V_arrayOf q_695 ⟨by first | omega | (simp only [dK]; omega), by first | omega | (simp only [dK]; omega)⟩ rfl hl.1 rfl (Nat.le_of_ble_eq_true rfl) d_V_sorted_97 hx1 (fun r9 q1 H locs hr1 hq0 hq1 hm9 hH => ?_)
      have h := hk9 r9 hr1
      exact w_V_sorted_100 C0 hr hnx  _ _ _ _ _ _ _ h hq0 hm9 hm2 hH (lv_sub hl [] rfl)
    · rw [if_neg c_4] at h
      refine lv_iload_n hx hb d_V_sorted_22 rfl (lv_at hl 2 rfl) ?_
      refine lv_istore_n (lv' := [(3, .int x2), (0, .ref (q 1)), (1, .int x1), (2, .int x2)]) hx hb d_V_sorted_23 rfl hl (by decide) rfl (fun ls hl => ?_)
      exact w_V_sorted_24 C0 hr hnx ih fu _ _ _ _ _ _ _ _ _ h hq hm0 hm hH (lv_sub hl [1, 2, 3, 0] rfl)
def f_V_sorted (g : Nat → Nat) (v : mS) (x1 : Int32) : Option (bO Int32) := mg g (bi (f_V_kindOf g v x1) fun r_3 v_1 => if r_3 = 5 then (f_V_sorted_13 fu x1 0 g v_1) else (some (.inl ((-1)), g, v_1)))
theorem mn_V_sorted {g : Nat → Nat} {v : mS}  {x1 : Int32} {o : bO Int32} (h : f_V_sorted g v x1 = some o) : gL g ≤ gL o.2.1 := (mg_out h).1
set_option maxHeartbeats 4000000 in
set_option maxRecDepth 100000 in
theorem c_V_sorted {l : Launch} {Z : bZ} (hl0 : l.stackTraces = false) {q g : Nat → Nat} {v : mS}  {x1 : Int32} {o : bO Int32} (h : f_V_sorted g v x1 = some o) : bx_M l Z 31 y_V_sorted b_V_sorted 4 (some .int) [.ref (q 1), .int x1] q g v enI o := by
  refine bx_of hl0 (by decide +kernel) (Nat.le_of_ble_eq_true rfl) ?_
  intro p e s m args below meth c A ls C0 hr hnx hl hH
  have hx := C0.1
  have hb := C0.2.1
  have C0 : bn_C "FilterBench$Values" b_V_sorted 4 Z A p l s m args meth c := C0
  have hl : lv_has ls 4 [(0, .ref (q 1)), (1, .int x1)] := hl
  obtain ⟨hm, h⟩ := mg_out h
  have hm0 : gL g ≤ gL g := Nat.le_refl _
  have hq : qs q q := qs.rf
  have hcl9 := bx_room (h0 := 31) (o := o) hm0 hm
  refine lv_aload_n hx hb d_V_sorted_0 rfl (lv_at hl 0 rfl) ?_
  refine lv_iload_n hx hb d_V_sorted_1 rfl (lv_at hl 1 rfl) ?_
  obtain ⟨r_3, v_1, hc_2, h⟩ := bi_out h
  refine bn_ci (r := r_3) (w := (q, g, v_1)) (as := [.int x1]) (rest := []) C0 hH (ci := 4) ⟨by decide, by decide⟩ (by decide) rfl (c_V_kindOf hl0 hc_2) yy_V_kindOf q_519 ⟨by simp only [bn_rm, dK]; omega, by simp only [bn_rm, dK]; omega⟩ rfl hl.1 rfl (Nat.le_of_ble_eq_true rfl) hcl9 d_V_sorted_2 (fun H locs hH => ?_)
  refine lv_iconst (v := 5) hx hb d_V_sorted_5 (by decide) ?_
  refine lv_icmp_eq (tgt := 11) hx hb d_V_sorted_6 (by decide) (fun c_4 => ?_) (fun c_4 => ?_)
  · rw [if_pos c_4] at h
    refine lv_iconst (v := 0) hx hb d_V_sorted_11 (by decide) ?_
    refine lv_istore_n (lv' := [(2, .int 0), (0, .ref (q 1)), (1, .int x1)]) hx hb d_V_sorted_12 rfl hl (by decide) rfl (fun ls hl => ?_)
    exact w_V_sorted_13 C0 hr hnx  fu _ _ _ _ _ _ _ _ h hq hm0 hm hH (lv_sub hl [1, 2, 0] rfl)
  · rw [if_neg c_4] at h
    refine lv_iconst (v := (-1)) hx hb d_V_sorted_9 (by decide) ?_
    exact bx_iret C0 hr hq hH hm0 d_V_sorted_10 h
