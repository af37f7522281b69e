/-! methods of the reference (by program: wip/gen/mgen.py fail thrown within node kindOf size num good item name room) -/
theorem yy_M_fail : mo_Y y_M_fail b_M_fail 2 (some .int) 1 := ⟨rfl, q_1055, q_39, q_1056, by decide +kernel⟩
def f_M_fail (v : mS) (x1 : Int32) : Option (Int32 × mS) := nm (sU v 0 0 x1) fun v_1 => some (0, v_1)
set_option maxHeartbeats 4000000 in
set_option maxRecDepth 100000 in
theorem c_M_fail {l : Launch} {D : va_G} {cI : ClassId} {q : Nat → Nat} {v : mS} {x1 : Int32} {o : Int32 × mS} (h : f_M_fail v x1 = some o) : mo_M l D cI q 0 y_M_fail b_M_fail 2 (some .int) [.ref (q 0), .int x1] v (mo_Qi D cI q o.1 o.2) := by
  refine mo_of (by decide +kernel) rfl (Nat.le_of_ble_eq_true rfl) ?_
  intro p e s m below meth c A ls C0 hr hl hH
  have hx := C0.1
  have hb := C0.2.1
  have hl : lv_has ls 2 [(0, .ref (q 0)), (1, .int x1)] := hl
  unfold f_M_fail at h
  refine lv_aload_n hx hb d_M_fail_0 rfl (lv_at hl 0 rfl) ?_
  refine lv_iload_n hx hb d_M_fail_1 rfl (lv_at hl 1 rfl) ?_
  obtain ⟨v_1, hv_1, h⟩ := nm_out h
  refine mo_p_code C0 hH d_M_fail_2 (fun H locs hH => ?_)
  rw [← hv_1] at hH
  refine lv_iconst (v := 0) hx hb d_M_fail_5 (by decide) ?_
  exact mo_iret C0 hr hH d_M_fail_6 h
theorem yy_M_thrown : mo_Y y_M_thrown b_M_thrown 1 (some .int) 0 := ⟨rfl, q_1043, q_1044, q_1045, by decide +kernel⟩
def f_M_thrown (v : mS)  : Option (Int32 × mS) := some (v 0 0, v)
set_option maxHeartbeats 4000000 in
set_option maxRecDepth 100000 in
theorem c_M_thrown {l : Launch} {D : va_G} {cI : ClassId} {q : Nat → Nat} {v : mS}  {o : Int32 × mS} (h : f_M_thrown v  = some o) : mo_M l D cI q 0 y_M_thrown b_M_thrown 1 (some .int) [.ref (q 0)] v (mo_Qi D cI q o.1 o.2) := by
  refine mo_of (by decide +kernel) rfl (Nat.le_of_ble_eq_true rfl) ?_
  intro p e s m below meth c A ls C0 hr hl hH
  have hx := C0.1
  have hb := C0.2.1
  have hl : lv_has ls 1 [(0, .ref (q 0))] := hl
  unfold f_M_thrown at h
  refine lv_aload_n hx hb d_M_thrown_0 rfl (lv_at hl 0 rfl) ?_
  refine mo_g_code C0 hH d_M_thrown_1 ?_
  exact mo_iret C0 hr hH d_M_thrown_4 h
theorem yy_M_within : mo_YS y_M_within b_M_within 3 (some .boolean) 3 := ⟨rfl, q_1051, q_1052, by decide +kernel⟩
def f_M_within_15  (y0 : Int32) (v : mS) : Option (Int32 × mS) := gd (decide (y0 = 0 ∨ y0 = 1)) (some (y0, v))
set_option maxHeartbeats 4000000 in
set_option maxRecDepth 100000 in
theorem w_M_within_15 {p : Program} {l : Launch} {e : Env} {s : State} {m : MethodId} {args : Array Value} {below : List Frame} {meth : Method} {c : Code} {D : va_G} {cI : ClassId} {A : Nat → Prop} {q : Nat → Nat} {o : Int32 × mS} (C0 : mo_C b_M_within 3 D cI A p s m args meth c) (hr : meth.sig.returnType = (some .boolean)) : ∀ (y0 : Int32) (v : mS) (H : Heap) (locs : List Loc) (ls : Array Slot), f_M_within_15  y0 v = some o → mo_H D cI A s q v H locs → lv_has ls 3 [] → W p l e (mo_rm 0) s m args below meth c H locs 0 0 (MQ below (mo_Qi D cI q o.1 o.2 A) args s 0 0 A) (F0 m 15 ls [.int y0]) := by
  have hx := C0.1
  have hb := C0.2.1
  intro y0 v H locs ls h hH hl
  unfold f_M_within_15 at h
  obtain ⟨g_1, h⟩ := gd_out h
  exact mo_zret (z01 g_1) C0 hr hH d_M_within_15 h
def f_M_within_14   (v : mS) : Option (Int32 × mS) := f_M_within_15 0 v
set_option maxHeartbeats 4000000 in
set_option maxRecDepth 100000 in
theorem w_M_within_14 {p : Program} {l : Launch} {e : Env} {s : State} {m : MethodId} {args : Array Value} {below : List Frame} {meth : Method} {c : Code} {D : va_G} {cI : ClassId} {A : Nat → Prop} {q : Nat → Nat} {o : Int32 × mS} (C0 : mo_C b_M_within 3 D cI A p s m args meth c) (hr : meth.sig.returnType = (some .boolean)) : ∀  (v : mS) (H : Heap) (locs : List Loc) (ls : Array Slot), f_M_within_14   v = some o → mo_H D cI A s q v H locs → lv_has ls 3 [] → W p l e (mo_rm 0) s m args below meth c H locs 0 0 (MQ below (mo_Qi D cI q o.1 o.2 A) args s 0 0 A) (F0 m 14 ls []) := by
  have hx := C0.1
  have hb := C0.2.1
  intro  v H locs ls h hH hl
  unfold f_M_within_14 at h
  refine lv_iconst (v := 0) hx hb d_M_within_14 (by decide) ?_
  exact w_M_within_15 C0 hr  _ _ _ _ _ h hH (lv_sub hl [] rfl)
def f_M_within (v : mS) (x0 : Int32) (x1 : Int32) (x2 : Int32) : Option (Int32 × mS) := if x0 < x1 then (f_M_within_14 v) else (if x2 < x0 then (f_M_within_14 v) else (f_M_within_15 1 v))
set_option maxHeartbeats 4000000 in
set_option maxRecDepth 100000 in
theorem c_M_within {l : Launch} {D : va_G} {cI : ClassId} {q : Nat → Nat} {v : mS} {x0 : Int32} {x1 : Int32} {x2 : Int32} {o : Int32 × mS} (h : f_M_within v x0 x1 x2 = some o) : mo_M l D cI q 0 y_M_within b_M_within 3 (some .boolean) [.int x0, .int x1, .int x2] v (mo_Qi D cI q o.1 o.2) := by
  refine mo_of (by decide +kernel) rfl (Nat.le_of_ble_eq_true rfl) ?_
  intro p e s m below meth c A ls C0 hr hl hH
  have hx := C0.1
  have hb := C0.2.1
  have hl : lv_has ls 3 [(0, .int x0), (1, .int x1), (2, .int x2)] := hl
  unfold f_M_within at h
  refine lv_iload_n hx hb d_M_within_0 rfl (lv_at hl 0 rfl) ?_
  refine lv_iload_n hx hb d_M_within_1 rfl (lv_at hl 1 rfl) ?_
  refine lv_icmp_lt (tgt := 14) hx hb d_M_within_2 (by decide) (fun c_1 => ?_) (fun c_1 => ?_)
  · rw [if_pos c_1] at h
    exact w_M_within_14 C0 hr   _ _ _ _ h hH (lv_sub hl [] rfl)
  · rw [if_neg c_1] at h
    refine lv_iload_n hx hb d_M_within_5 rfl (lv_at hl 0 rfl) ?_
    refine lv_iload_n hx hb d_M_within_6 rfl (lv_at hl 2 rfl) ?_
    refine lv_icmp_gt (tgt := 14) hx hb d_M_within_7 (by decide) (fun c_2 => ?_) (fun c_2 => ?_)
    · rw [if_pos c_2] at h
      exact w_M_within_14 C0 hr   _ _ _ _ h hH (lv_sub hl [] rfl)
    · rw [if_neg c_2] at h
      refine lv_iconst (v := 1) hx hb d_M_within_10 (by decide) ?_
      refine lv_goto (tgt := 15) hx hb d_M_within_11 (by decide) ?_
      exact w_M_within_15 C0 hr  _ _ _ _ _ h hH (lv_sub hl [] rfl)
theorem yy_M_node : mo_Y y_M_node b_M_node 5 (some .int) 3 := ⟨rfl, q_1117, q_50, q_1118, by decide +kernel⟩
def f_M_node (v : mS) (x1 : Int32) (x2 : Int32) (x3 : Int32) : Option (Int32 × mS) := nm (v 0 7) fun x4_1 => gd (inB x4_1 64000) (nm (sU v 6 (x4_1 : Int32).toNatClampNeg x1) fun v_3 => gd (inB (x4_1 + 1) 64000) (nm (sU v_3 6 (x4_1 + 1 : Int32).toNatClampNeg 1) fun v_5 => gd (inB (x4_1 + 2) 64000) (nm (sU v_5 6 (x4_1 + 2 : Int32).toNatClampNeg 0) fun v_7 => gd (inB (x4_1 + 3) 64000) (nm (sU v_7 6 (x4_1 + 3 : Int32).toNatClampNeg x2) fun v_9 => nm (sU v_9 0 7 ((v_9 0 7) + (4 + x3))) fun v_10 => some (x4_1, v_10)))))
set_option maxHeartbeats 4000000 in
set_option maxRecDepth 100000 in
theorem c_M_node {l : Launch} {D : va_G} {cI : ClassId} {q : Nat → Nat} {v : mS} {x1 : Int32} {x2 : Int32} {x3 : Int32} {o : Int32 × mS} (h : f_M_node v x1 x2 x3 = some o) : mo_M l D cI q 0 y_M_node b_M_node 5 (some .int) [.ref (q 0), .int x1, .int x2, .int x3] v (mo_Qi D cI q o.1 o.2) := by
  refine mo_of (by decide +kernel) rfl (Nat.le_of_ble_eq_true rfl) ?_
  intro p e s m below meth c A ls C0 hr hl hH
  have hx := C0.1
  have hb := C0.2.1
  have hl : lv_has ls 5 [(0, .ref (q 0)), (1, .int x1), (2, .int x2), (3, .int x3)] := hl
  unfold f_M_node at h
  refine lv_aload_n hx hb d_M_node_0 rfl (lv_at hl 0 rfl) ?_
  refine mo_g_top C0 hH d_M_node_1 ?_
  obtain ⟨x4_1, hx4_1, h⟩ := nm_out h
  refine fu_i hx4_1 ?_
  refine lv_istore (lv' := [(4, .int x4_1), (0, .ref (q 0)), (1, .int x1), (2, .int x2), (3, .int x3)]) hx hb d_M_node_4 hl (by decide) rfl (fun ls hl => ?_)
  refine lv_aload_n hx hb d_M_node_6 rfl (lv_at hl 1 rfl) ?_
  refine mo_r_heap C0 hH d_M_node_7 ?_
  refine lv_iload hx hb d_M_node_10 (lv_at hl 0 rfl) ?_
  refine lv_iload_n hx hb d_M_node_12 rfl (lv_at hl 2 rfl) ?_
  obtain ⟨g_2, h⟩ := gd_out h
  obtain ⟨v_3, hv_3, h⟩ := nm_out h
  refine mo_st 6 (by decide) (by decide) C0 hH (inB_in g_2) d_M_node_13 (fun H locs hH => ?_)
  rw [← hv_3] at hH
  refine lv_aload_n hx hb d_M_node_14 rfl (lv_at hl 1 rfl) ?_
  refine mo_r_heap C0 hH d_M_node_15 ?_
  refine lv_iload hx hb d_M_node_18 (lv_at hl 0 rfl) ?_
  refine lv_iconst (v := 1) hx hb d_M_node_20 (by decide) ?_
  refine lv_iadd hx hb d_M_node_21 ?_
  refine lv_iconst (v := 1) hx hb d_M_node_22 (by decide) ?_
  obtain ⟨g_4, h⟩ := gd_out h
  obtain ⟨v_5, hv_5, h⟩ := nm_out h
  refine mo_st 6 (by decide) (by decide) C0 hH (inB_in g_4) d_M_node_23 (fun H locs hH => ?_)
  rw [← hv_5] at hH
  refine lv_aload_n hx hb d_M_node_24 rfl (lv_at hl 1 rfl) ?_
  refine mo_r_heap C0 hH d_M_node_25 ?_
  refine lv_iload hx hb d_M_node_28 (lv_at hl 0 rfl) ?_
  refine lv_iconst (v := 2) hx hb d_M_node_30 (by decide) ?_
  refine lv_iadd hx hb d_M_node_31 ?_
  refine lv_iconst (v := 0) hx hb d_M_node_32 (by decide) ?_
  obtain ⟨g_6, h⟩ := gd_out h
  obtain ⟨v_7, hv_7, h⟩ := nm_out h
  refine mo_st 6 (by decide) (by decide) C0 hH (inB_in g_6) d_M_node_33 (fun H locs hH => ?_)
  rw [← hv_7] at hH
  refine lv_aload_n hx hb d_M_node_34 rfl (lv_at hl 1 rfl) ?_
  refine mo_r_heap C0 hH d_M_node_35 ?_
  refine lv_iload hx hb d_M_node_38 (lv_at hl 0 rfl) ?_
  refine lv_iconst (v := 3) hx hb d_M_node_40 (by decide) ?_
  refine lv_iadd hx hb d_M_node_41 ?_
  refine lv_iload_n hx hb d_M_node_42 rfl (lv_at hl 3 rfl) ?_
  obtain ⟨g_8, h⟩ := gd_out h
  obtain ⟨v_9, hv_9, h⟩ := nm_out h
  refine mo_st 6 (by decide) (by decide) C0 hH (inB_in g_8) d_M_node_43 (fun H locs hH => ?_)
  rw [← hv_9] at hH
  refine lv_aload_n hx hb d_M_node_44 rfl (lv_at hl 1 rfl) ?_
  refine lv_dup hx hb d_M_node_45 rfl ?_
  refine mo_g_top C0 hH d_M_node_46 ?_
  refine lv_iconst (v := 4) hx hb d_M_node_49 (by decide) ?_
  refine lv_iload_n hx hb d_M_node_50 rfl (lv_at hl 4 rfl) ?_
  refine lv_iadd hx hb d_M_node_51 ?_
  refine lv_iadd hx hb d_M_node_52 ?_
  obtain ⟨v_10, hv_10, h⟩ := nm_out h
  refine mo_p_top C0 hH d_M_node_53 (fun H locs hH => ?_)
  rw [← hv_10] at hH
  refine lv_iload hx hb d_M_node_56 (lv_at hl 0 rfl) ?_
  exact mo_iret C0 hr hH d_M_node_58 h
theorem yy_M_kindOf : mo_Y y_M_kindOf b_M_kindOf 2 (some .int) 1 := ⟨rfl, q_1109, q_48, q_1110, by decide +kernel⟩
def f_M_kindOf (v : mS) (x1 : Int32) : Option (Int32 × mS) := gd (inB x1 64000) (some (v 6 (x1 : Int32).toNatClampNeg, v))
set_option maxHeartbeats 4000000 in
set_option maxRecDepth 100000 in
theorem c_M_kindOf {l : Launch} {D : va_G} {cI : ClassId} {q : Nat → Nat} {v : mS} {x1 : Int32} {o : Int32 × mS} (h : f_M_kindOf v x1 = some o) : mo_M l D cI q 0 y_M_kindOf b_M_kindOf 2 (some .int) [.ref (q 0), .int x1] v (mo_Qi D cI q o.1 o.2) := by
  refine mo_of (by decide +kernel) rfl (Nat.le_of_ble_eq_true rfl) ?_
  intro p e s m below meth c A ls C0 hr hl hH
  have hx := C0.1
  have hb := C0.2.1
  have hl : lv_has ls 2 [(0, .ref (q 0)), (1, .int x1)] := hl
  unfold f_M_kindOf at h
  refine lv_aload_n hx hb d_M_kindOf_0 rfl (lv_at hl 0 rfl) ?_
  refine mo_r_heap C0 hH d_M_kindOf_1 ?_
  refine lv_iload_n hx hb d_M_kindOf_4 rfl (lv_at hl 1 rfl) ?_
  obtain ⟨g_1, h⟩ := gd_out h
  refine mo_ld 6 (by decide) (by decide) C0 hH (inB_in g_1) d_M_kindOf_5 ?_
  exact mo_iret C0 hr hH d_M_kindOf_6 h
theorem yy_M_size : mo_Y y_M_size b_M_size 2 (some .int) 1 := ⟨rfl, q_1129, q_53, q_1130, by decide +kernel⟩
def f_M_size (v : mS) (x1 : Int32) : Option (Int32 × mS) := gd (inB (x1 + 3) 64000) (some (v 6 (x1 + 3 : Int32).toNatClampNeg, v))
set_option maxHeartbeats 4000000 in
set_option maxRecDepth 100000 in
theorem c_M_size {l : Launch} {D : va_G} {cI : ClassId} {q : Nat → Nat} {v : mS} {x1 : Int32} {o : Int32 × mS} (h : f_M_size v x1 = some o) : mo_M l D cI q 0 y_M_size b_M_size 2 (some .int) [.ref (q 0), .int x1] v (mo_Qi D cI q o.1 o.2) := by
  refine mo_of (by decide +kernel) rfl (Nat.le_of_ble_eq_true rfl) ?_
  intro p e s m below meth c A ls C0 hr hl hH
  have hx := C0.1
  have hb := C0.2.1
  have hl : lv_has ls 2 [(0, .ref (q 0)), (1, .int x1)] := hl
  unfold f_M_size at h
  refine lv_aload_n hx hb d_M_size_0 rfl (lv_at hl 0 rfl) ?_
  refine mo_r_heap C0 hH d_M_size_1 ?_
  refine lv_iload_n hx hb d_M_size_4 rfl (lv_at hl 1 rfl) ?_
  refine lv_iconst (v := 3) hx hb d_M_size_5 (by decide) ?_
  refine lv_iadd hx hb d_M_size_6 ?_
  obtain ⟨g_1, h⟩ := gd_out h
  refine mo_ld 6 (by decide) (by decide) C0 hH (inB_in g_1) d_M_size_7 ?_
  exact mo_iret C0 hr hH d_M_size_8 h
theorem yy_M_num : mo_Y y_M_num b_M_num 2 (some .long) 1 := ⟨rfl, q_1184, q_65, q_1185, by decide +kernel⟩
def f_M_num (v : mS) (x1 : Int32) : Option (Int64 × mS) := gd (inB (x1 + 4) 64000) (gd (inB (x1 + 5) 64000) (some ((((v 6 (x1 + 4 : Int32).toNatClampNeg : Int32).toInt64) <<< ((32 : Int32).toInt64 &&& 63)) ||| (((v 6 (x1 + 5 : Int32).toNatClampNeg : Int32).toInt64) &&& 4294967295), v)))
set_option maxHeartbeats 4000000 in
set_option maxRecDepth 100000 in
theorem c_M_num {l : Launch} {D : va_G} {cI : ClassId} {q : Nat → Nat} {v : mS} {x1 : Int32} {o : Int64 × mS} (h : f_M_num v x1 = some o) : mo_M l D cI q 0 y_M_num b_M_num 2 (some .long) [.ref (q 0), .int x1] v (mo_Ql D cI q o.1 o.2) := by
  refine mo_of (by decide +kernel) rfl (Nat.le_of_ble_eq_true rfl) ?_
  intro p e s m below meth c A ls C0 hr hl hH
  have hx := C0.1
  have hb := C0.2.1
  have hl : lv_has ls 2 [(0, .ref (q 0)), (1, .int x1)] := hl
  unfold f_M_num at h
  refine lv_aload_n hx hb d_M_num_0 rfl (lv_at hl 0 rfl) ?_
  refine mo_r_heap C0 hH d_M_num_1 ?_
  refine lv_iload_n hx hb d_M_num_4 rfl (lv_at hl 1 rfl) ?_
  refine lv_iconst (v := 4) hx hb d_M_num_5 (by decide) ?_
  refine lv_iadd hx hb d_M_num_6 ?_
  obtain ⟨g_1, h⟩ := gd_out h
  refine mo_ld 6 (by decide) (by decide) C0 hH (inB_in g_1) d_M_num_7 ?_
  refine lv_i2l hx hb d_M_num_8 rfl ?_
  refine lv_bipush (v := 32) hx hb d_M_num_9 (by decide) ?_
  refine lv_lshl hx hb d_M_num_11 rfl ?_
  refine lv_aload_n hx hb d_M_num_12 rfl (lv_at hl 0 rfl) ?_
  refine mo_r_heap C0 hH d_M_num_13 ?_
  refine lv_iload_n hx hb d_M_num_16 rfl (lv_at hl 1 rfl) ?_
  refine lv_iconst (v := 5) hx hb d_M_num_17 (by decide) ?_
  refine lv_iadd hx hb d_M_num_18 ?_
  obtain ⟨g_2, h⟩ := gd_out h
  refine mo_ld 6 (by decide) (by decide) C0 hH (inB_in g_2) d_M_num_19 ?_
  refine lv_i2l hx hb d_M_num_20 rfl ?_
  refine lv_ldc2 (v := 4294967295) hx hb C0.2.2.1 (C0.2.2.2.1 _ q_1186) d_M_num_21 ?_
  refine lv_land hx hb d_M_num_24 ?_
  refine lv_lor hx hb d_M_num_25 ?_
  exact mo_lret C0 hr hH d_M_num_26 h
theorem yy_M_good : mo_Y y_M_good b_M_good 2 (some .boolean) 1 := ⟨rfl, q_1176, q_63, q_1177, by decide +kernel⟩
def f_M_good_15  (y0 : Int32) (v : mS) : Option (Int32 × mS) := gd (decide (y0 = 0 ∨ y0 = 1)) (some (y0, v))
set_option maxHeartbeats 4000000 in
set_option maxRecDepth 100000 in
theorem w_M_good_15 {p : Program} {l : Launch} {e : Env} {s : State} {m : MethodId} {args : Array Value} {below : List Frame} {meth : Method} {c : Code} {D : va_G} {cI : ClassId} {A : Nat → Prop} {q : Nat → Nat} {o : Int32 × mS} (C0 : mo_C b_M_good 2 D cI A p s m args meth c) (hr : meth.sig.returnType = (some .boolean)) : ∀ (y0 : Int32) (v : mS) (H : Heap) (locs : List Loc) (ls : Array Slot), f_M_good_15  y0 v = some o → mo_H D cI A s q v H locs → lv_has ls 2 [] → W p l e (mo_rm 0) s m args below meth c H locs 0 0 (MQ below (mo_Qi D cI q o.1 o.2 A) args s 0 0 A) (F0 m 15 ls [.int y0]) := by
  have hx := C0.1
  have hb := C0.2.1
  intro y0 v H locs ls h hH hl
  unfold f_M_good_15 at h
  obtain ⟨g_1, h⟩ := gd_out h
  exact mo_zret (z01 g_1) C0 hr hH d_M_good_15 h
def f_M_good (v : mS) (x1 : Int32) : Option (Int32 × mS) := gd (inB x1 64000) (if (v 6 (x1 : Int32).toNatClampNeg) ≤ 1 then (f_M_good_15 0 v) else (f_M_good_15 1 v))
set_option maxHeartbeats 4000000 in
set_option maxRecDepth 100000 in
theorem c_M_good {l : Launch} {D : va_G} {cI : ClassId} {q : Nat → Nat} {v : mS} {x1 : Int32} {o : Int32 × mS} (h : f_M_good v x1 = some o) : mo_M l D cI q 0 y_M_good b_M_good 2 (some .boolean) [.ref (q 0), .int x1] v (mo_Qi D cI q o.1 o.2) := by
  refine mo_of (by decide +kernel) rfl (Nat.le_of_ble_eq_true rfl) ?_
  intro p e s m below meth c A ls C0 hr hl hH
  have hx := C0.1
  have hb := C0.2.1
  have hl : lv_has ls 2 [(0, .ref (q 0)), (1, .int x1)] := hl
  unfold f_M_good at h
  refine lv_aload_n hx hb d_M_good_0 rfl (lv_at hl 0 rfl) ?_
  refine mo_r_heap C0 hH d_M_good_1 ?_
  refine lv_iload_n hx hb d_M_good_4 rfl (lv_at hl 1 rfl) ?_
  obtain ⟨g_1, h⟩ := gd_out h
  refine mo_ld 6 (by decide) (by decide) C0 hH (inB_in g_1) d_M_good_5 ?_
  refine lv_iconst (v := 1) hx hb d_M_good_6 (by decide) ?_
  refine lv_icmp_le (tgt := 14) hx hb d_M_good_7 (by decide) (fun c_2 => ?_) (fun c_2 => ?_)
  · rw [if_pos c_2] at h
    refine lv_iconst (v := 0) hx hb d_M_good_14 (by decide) ?_
    exact w_M_good_15 C0 hr  _ _ _ _ _ h hH (lv_sub hl [] rfl)
  · rw [if_neg c_2] at h
    refine lv_iconst (v := 1) hx hb d_M_good_10 (by decide) ?_
    refine lv_goto (tgt := 15) hx hb d_M_good_11 (by decide) ?_
    exact w_M_good_15 C0 hr  _ _ _ _ _ h hH (lv_sub hl [] rfl)
theorem yy_M_item : mo_Y y_M_item b_M_item 3 (some .int) 2 := ⟨rfl, q_1144, q_56, q_1145, by decide +kernel⟩
def f_M_item_30  (x2 : Int32) (y1 : Int32) (y2 : Int32) (v : mS) : Option (Int32 × mS) := gd (inB ((y1 + y2) + x2) 64000) (some (v 6 ((y1 + y2) + x2 : Int32).toNatClampNeg, v))
set_option maxHeartbeats 4000000 in
set_option maxRecDepth 100000 in
theorem w_M_item_30 {p : Program} {l : Launch} {e : Env} {s : State} {m : MethodId} {args : Array Value} {below : List Frame} {meth : Method} {c : Code} {D : va_G} {cI : ClassId} {A : Nat → Prop} {q : Nat → Nat} {o : Int32 × mS} (C0 : mo_C b_M_item 3 D cI A p s m args meth c) (hr : meth.sig.returnType = (some .int)) : ∀ (x2 : Int32) (y1 : Int32) (y2 : Int32) (v : mS) (H : Heap) (locs : List Loc) (ls : Array Slot), f_M_item_30  x2 y1 y2 v = some o → mo_H D cI A s q v H locs → lv_has ls 3 [(2, .int x2)] → W p l e (mo_rm 0) s m args below meth c H locs 0 0 (MQ below (mo_Qi D cI q o.1 o.2 A) args s 0 0 A) (F0 m 30 ls [.int y2, .int y1, .ref (q 6)]) := by
  have hx := C0.1
  have hb := C0.2.1
  intro x2 y1 y2 v H locs ls h hH hl
  unfold f_M_item_30 at h
  refine lv_iadd hx hb d_M_item_30 ?_
  refine lv_iload_n hx hb d_M_item_31 rfl (lv_at hl 0 rfl) ?_
  refine lv_iadd hx hb d_M_item_32 ?_
  obtain ⟨g_1, h⟩ := gd_out h
  refine mo_ld 6 (by decide) (by decide) C0 hH (inB_in g_1) d_M_item_33 ?_
  exact mo_iret C0 hr hH d_M_item_34 h
def f_M_item (v : mS) (x1 : Int32) (x2 : Int32) : Option (Int32 × mS) := gd (inB x1 64000) (if (v 6 (x1 : Int32).toNatClampNeg) = 6 then (gd (inB (x1 + 3) 64000) (f_M_item_30 x2 (x1 + 4) (v 6 (x1 + 3 : Int32).toNatClampNeg) v)) else (f_M_item_30 x2 (x1 + 4) 0 v))
set_option maxHeartbeats 4000000 in
set_option maxRecDepth 100000 in
theorem c_M_item {l : Launch} {D : va_G} {cI : ClassId} {q : Nat → Nat} {v : mS} {x1 : Int32} {x2 : Int32} {o : Int32 × mS} (h : f_M_item v x1 x2 = some o) : mo_M l D cI q 0 y_M_item b_M_item 3 (some .int) [.ref (q 0), .int x1, .int x2] v (mo_Qi D cI q o.1 o.2) := by
  refine mo_of (by decide +kernel) rfl (Nat.le_of_ble_eq_true rfl) ?_
  intro p e s m below meth c A ls C0 hr hl hH
  have hx := C0.1
  have hb := C0.2.1
  have hl : lv_has ls 3 [(0, .ref (q 0)), (1, .int x1), (2, .int x2)] := hl
  unfold f_M_item at h
  refine lv_aload_n hx hb d_M_item_0 rfl (lv_at hl 0 rfl) ?_
  refine mo_r_heap C0 hH d_M_item_1 ?_
  refine lv_iload_n hx hb d_M_item_4 rfl (lv_at hl 1 rfl) ?_
  refine lv_iconst (v := 4) hx hb d_M_item_5 (by decide) ?_
  refine lv_iadd hx hb d_M_item_6 ?_
  refine lv_aload_n hx hb d_M_item_7 rfl (lv_at hl 0 rfl) ?_
  refine mo_r_heap C0 hH d_M_item_8 ?_
  refine lv_iload_n hx hb d_M_item_11 rfl (lv_at hl 1 rfl) ?_
  obtain ⟨g_1, h⟩ := gd_out h
  refine mo_ld 6 (by decide) (by decide) C0 hH (inB_in g_1) d_M_item_12 ?_
  refine lv_bipush (v := 6) hx hb d_M_item_13 (by decide) ?_
  refine lv_icmp_ne (tgt := 29) hx hb d_M_item_15 (by decide) (fun c_2 => ?_) (fun c_2 => ?_)
  · rw [if_neg c_2] at h
    refine lv_iconst (v := 0) hx hb d_M_item_29 (by decide) ?_
    exact w_M_item_30 C0 hr  _ _ _ _ _ _ _ h hH (lv_sub hl [2] rfl)
  · rw [if_pos c_2] at h
    refine lv_aload_n hx hb d_M_item_18 rfl (lv_at hl 0 rfl) ?_
    refine mo_r_heap C0 hH d_M_item_19 ?_
    refine lv_iload_n hx hb d_M_item_22 rfl (lv_at hl 1 rfl) ?_
    refine lv_iconst (v := 3) hx hb d_M_item_23 (by decide) ?_
    refine lv_iadd hx hb d_M_item_24 ?_
    obtain ⟨g_3, h⟩ := gd_out h
    refine mo_ld 6 (by decide) (by decide) C0 hH (inB_in g_3) d_M_item_25 ?_
    refine lv_goto (tgt := 30) hx hb d_M_item_26 (by decide) ?_
    exact w_M_item_30 C0 hr  _ _ _ _ _ _ _ h hH (lv_sub hl [2] rfl)
theorem yy_M_name : mo_Y y_M_name b_M_name 3 (some .int) 2 := ⟨rfl, q_1133, q_54, q_1134, by decide +kernel⟩
def f_M_name (v : mS) (x1 : Int32) (x2 : Int32) : Option (Int32 × mS) := gd (inB ((x1 + 4) + x2) 64000) (some (v 6 ((x1 + 4) + x2 : Int32).toNatClampNeg, v))
set_option maxHeartbeats 4000000 in
set_option maxRecDepth 100000 in
theorem c_M_name {l : Launch} {D : va_G} {cI : ClassId} {q : Nat → Nat} {v : mS} {x1 : Int32} {x2 : Int32} {o : Int32 × mS} (h : f_M_name v x1 x2 = some o) : mo_M l D cI q 0 y_M_name b_M_name 3 (some .int) [.ref (q 0), .int x1, .int x2] v (mo_Qi D cI q o.1 o.2) := by
  refine mo_of (by decide +kernel) rfl (Nat.le_of_ble_eq_true rfl) ?_
  intro p e s m below meth c A ls C0 hr hl hH
  have hx := C0.1
  have hb := C0.2.1
  have hl : lv_has ls 3 [(0, .ref (q 0)), (1, .int x1), (2, .int x2)] := hl
  unfold f_M_name at h
  refine lv_aload_n hx hb d_M_name_0 rfl (lv_at hl 0 rfl) ?_
  refine mo_r_heap C0 hH d_M_name_1 ?_
  refine lv_iload_n hx hb d_M_name_4 rfl (lv_at hl 1 rfl) ?_
  refine lv_iconst (v := 4) hx hb d_M_name_5 (by decide) ?_
  refine lv_iadd hx hb d_M_name_6 ?_
  refine lv_iload_n hx hb d_M_name_7 rfl (lv_at hl 2 rfl) ?_
  refine lv_iadd hx hb d_M_name_8 ?_
  obtain ⟨g_1, h⟩ := gd_out h
  refine mo_ld 6 (by decide) (by decide) C0 hH (inB_in g_1) d_M_name_9 ?_
  exact mo_iret C0 hr hH d_M_name_10 h
theorem yy_M_room : mo_Y y_M_room b_M_room 1 (some .int) 0 := ⟨rfl, q_1164, q_60, q_1165, by decide +kernel⟩
def f_M_room (v : mS)  : Option (Int32 × mS) := nm (sU v 0 21 1) fun v_1 => some (4, v_1)
set_option maxHeartbeats 4000000 in
set_option maxRecDepth 100000 in
theorem c_M_room {l : Launch} {D : va_G} {cI : ClassId} {q : Nat → Nat} {v : mS}  {o : Int32 × mS} (h : f_M_room v  = some o) : mo_M l D cI q 0 y_M_room b_M_room 1 (some .int) [.ref (q 0)] v (mo_Qi D cI q o.1 o.2) := by
  refine mo_of (by decide +kernel) rfl (Nat.le_of_ble_eq_true rfl) ?_
  intro p e s m below meth c A ls C0 hr hl hH
  have hx := C0.1
  have hb := C0.2.1
  have hl : lv_has ls 1 [(0, .ref (q 0))] := hl
  unfold f_M_room at h
  refine lv_aload_n hx hb d_M_room_0 rfl (lv_at hl 0 rfl) ?_
  refine lv_iconst (v := 1) hx hb d_M_room_1 (by decide) ?_
  obtain ⟨v_1, hv_1, h⟩ := nm_out h
  refine mo_p_noRoom (Or.inr rfl) C0 hH d_M_room_2 (fun H locs hH => ?_)
  rw [← hv_1] at hH
  refine lv_iconst (v := 4) hx hb d_M_room_5 (by decide) ?_
  exact mo_iret C0 hr hH d_M_room_6 h
