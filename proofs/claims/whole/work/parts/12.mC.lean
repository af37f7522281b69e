/-! methods of the reference (by program: wip/gen/mgen.py object sign textOrder pair likeOrder) -/
theorem yy_M_object : mo_Y y_M_object b_M_object 4 (some .int) 1 := ⟨rfl, q_1230, q_76, q_1231, by decide +kernel⟩
def f_M_object_24  : Nat → Int32 → Int32 → Int32 → mS → Option (Int32 × mS)
  | 0, _, _, _, _ => none
  | n + 1, x1, x2, x3, v => if x1 ≤ x3 then (bi (f_M_weighed v x2) fun r_4 v_2 => some (r_4, v_2)) else (gd (inB x3 64) (gd (inB ((x2 + 4) + x3) 64000) (nm (sU v 6 ((x2 + 4) + x3 : Int32).toNatClampNeg (v 11 (x3 : Int32).toNatClampNeg)) fun v_7 => gd (inB x3 64) (gd (inB (((x2 + 4) + x1) + x3) 64000) (nm (sU v_7 6 (((x2 + 4) + x1) + x3 : Int32).toNatClampNeg (v_7 10 (x3 : Int32).toNatClampNeg)) fun v_10 => nm (x3 + 1) fun x3_11 => f_M_object_24 n x1 x2 x3_11 v_10)))))
set_option maxHeartbeats 4000000 in
set_option maxRecDepth 100000 in
theorem w_M_object_24 {p : Program} {l : Launch} {e : Env} {s : State} {m : MethodId} {args : Array Value} {below : List Frame} {meth : Method} {c : Code} {D : va_G} {cI : ClassId} {A : Nat → Prop} {q : Nat → Nat} {o : Int32 × mS} (C0 : mo_C b_M_object 4 D cI A p s m args meth c) (hr : meth.sig.returnType = (some .int)) : ∀ (n : Nat) (x1 : Int32) (x2 : Int32) (x3 : Int32) (v : mS) (H : Heap) (locs : List Loc) (ls : Array Slot), f_M_object_24  n x1 x2 x3 v = some o → mo_H D cI A s q v H locs → lv_has ls 4 [(0, .ref (q 0)), (1, .int x1), (2, .int x2), (3, .int x3)] → W p l e (mo_rm 2) s m args below meth c H locs 0 0 (MQ below (mo_Qi D cI q o.1 o.2 A) args s 0 0 A) (F0 m 24 ls []) := by
  have hx := C0.1
  have hb := C0.2.1
  intro n
  induction n with
  | zero =>
    intro x1 x2 x3 v H locs ls h hH hl
    cases h
  | succ n ih =>
    intro x1 x2 x3 v H locs ls h hH hl
    rw [f_M_object_24] at h
    refine lv_iload_n hx hb d_M_object_24 rfl (lv_at hl 3 rfl) ?_
    refine lv_iload_n hx hb d_M_object_25 rfl (lv_at hl 1 rfl) ?_
    refine lv_icmp_ge (tgt := 69) hx hb d_M_object_26 (by decide) (fun c_1 => ?_) (fun c_1 => ?_)
    · rw [if_pos c_1] at h
      refine lv_aload_n hx hb d_M_object_69 rfl (lv_at hl 0 rfl) ?_
      refine lv_iload_n hx hb d_M_object_70 rfl (lv_at hl 2 rfl) ?_
      obtain ⟨r_4, v_2, hc_3, h⟩ := bi_out h
      refine mo_ci (r := r_4) (w := v_2) (as := [.int x2]) (rest := []) C0 hH (c_M_weighed hc_3) yy_M_weighed q_1170 q_109 (by decide) rfl hl.1 rfl (Nat.le_of_ble_eq_true rfl) ⟨Nat.zero_le _, Nat.zero_le _⟩ d_M_object_71 (fun H locs hH => ?_)
      exact mo_iret C0 hr hH d_M_object_74 h
    · rw [if_neg c_1] at h
      refine lv_aload_n hx hb d_M_object_29 rfl (lv_at hl 0 rfl) ?_
      refine mo_r_heap C0 hH d_M_object_30 ?_
      refine lv_iload_n hx hb d_M_object_33 rfl (lv_at hl 2 rfl) ?_
      refine lv_iconst (v := 4) hx hb d_M_object_34 (by decide) ?_
      refine lv_iadd hx hb d_M_object_35 ?_
      refine lv_iload_n hx hb d_M_object_36 rfl (lv_at hl 3 rfl) ?_
      refine lv_iadd hx hb d_M_object_37 ?_
      refine lv_aload_n hx hb d_M_object_38 rfl (lv_at hl 0 rfl) ?_
      refine mo_r_names C0 hH d_M_object_39 ?_
      refine lv_iload_n hx hb d_M_object_42 rfl (lv_at hl 3 rfl) ?_
      obtain ⟨g_5, h⟩ := gd_out h
      refine mo_ld 11 (by decide) (by decide) C0 hH (inB_in g_5) d_M_object_43 ?_
      obtain ⟨g_6, h⟩ := gd_out h
      obtain ⟨v_7, hv_7, h⟩ := nm_out h
      refine mo_st 6 (by decide) (by decide) C0 hH (inB_in g_6) d_M_object_44 (fun H locs hH => ?_)
      rw [← hv_7] at hH
      refine lv_aload_n hx hb d_M_object_45 rfl (lv_at hl 0 rfl) ?_
      refine mo_r_heap C0 hH d_M_object_46 ?_
      refine lv_iload_n hx hb d_M_object_49 rfl (lv_at hl 2 rfl) ?_
      refine lv_iconst (v := 4) hx hb d_M_object_50 (by decide) ?_
      refine lv_iadd hx hb d_M_object_51 ?_
      refine lv_iload_n hx hb d_M_object_52 rfl (lv_at hl 1 rfl) ?_
      refine lv_iadd hx hb d_M_object_53 ?_
      refine lv_iload_n hx hb d_M_object_54 rfl (lv_at hl 3 rfl) ?_
      refine lv_iadd hx hb d_M_object_55 ?_
      refine lv_aload_n hx hb d_M_object_56 rfl (lv_at hl 0 rfl) ?_
      refine mo_r_items C0 hH d_M_object_57 ?_
      refine lv_iload_n hx hb d_M_object_60 rfl (lv_at hl 3 rfl) ?_
      obtain ⟨g_8, h⟩ := gd_out h
      refine mo_ld 10 (by decide) (by decide) C0 hH (inB_in g_8) d_M_object_61 ?_
      obtain ⟨g_9, h⟩ := gd_out h
      obtain ⟨v_10, hv_10, h⟩ := nm_out h
      refine mo_st 6 (by decide) (by decide) C0 hH (inB_in g_9) d_M_object_62 (fun H locs hH => ?_)
      rw [← hv_10] at hH
      obtain ⟨x3_11, hx3_11, h⟩ := nm_out h
      refine lv_iinc (v := x3_11) (lv' := [(3, .int x3_11), (0, .ref (q 0)), (1, .int x1), (2, .int x2)]) hx hb d_M_object_63 hl (k := 3) rfl (by rw [hx3_11]; rfl) (by decide) rfl (fun ls hl => ?_)
      refine lv_goto (tgt := 24) hx hb d_M_object_66 (by decide) ?_
      exact ih _ _ _ _ _ _ _ h hH (lv_sub hl [1, 2, 3, 0] rfl)
def f_M_object (v : mS) (x1 : Int32) : Option (Int32 × mS) := if x1 ≤ 6 then (bi (f_M_node v 6 x1 (2 * x1)) fun r_4 v_2 => f_M_object_24 fu x1 r_4 0 v_2) else (bi (f_M_room v) fun r_7 v_5 => some (r_7, v_5))
set_option maxHeartbeats 4000000 in
set_option maxRecDepth 100000 in
theorem c_M_object {l : Launch} {D : va_G} {cI : ClassId} {q : Nat → Nat} {v : mS} {x1 : Int32} {o : Int32 × mS} (h : f_M_object v x1 = some o) : mo_M l D cI q 2 y_M_object b_M_object 4 (some .int) [.ref (q 0), .int x1] v (mo_Qi D cI q o.1 o.2) := by
  refine mo_of (by decide +kernel) rfl (Nat.le_of_ble_eq_true rfl) ?_
  intro p e s m below meth c A ls C0 hr hl hH
  have hx := C0.1
  have hb := C0.2.1
  have hl : lv_has ls 4 [(0, .ref (q 0)), (1, .int x1)] := hl
  unfold f_M_object at h
  refine lv_iload_n hx hb d_M_object_0 rfl (lv_at hl 1 rfl) ?_
  refine lv_bipush (v := 6) hx hb d_M_object_1 (by decide) ?_
  refine lv_icmp_le (tgt := 11) hx hb d_M_object_3 (by decide) (fun c_1 => ?_) (fun c_1 => ?_)
  · rw [if_pos c_1] at h
    refine lv_aload_n hx hb d_M_object_11 rfl (lv_at hl 0 rfl) ?_
    refine lv_bipush (v := 6) hx hb d_M_object_12 (by decide) ?_
    refine lv_iload_n hx hb d_M_object_14 rfl (lv_at hl 1 rfl) ?_
    refine lv_iconst (v := 2) hx hb d_M_object_15 (by decide) ?_
    refine lv_iload_n hx hb d_M_object_16 rfl (lv_at hl 1 rfl) ?_
    refine lv_imul hx hb d_M_object_17 ?_
    obtain ⟨r_4, v_2, hc_3, h⟩ := bi_out h
    refine mo_ci (r := r_4) (w := v_2) (as := [.int 6, .int x1, .int (2 * x1)]) (rest := []) C0 hH (c_M_node hc_3) yy_M_node q_1115 q_109 (by decide) rfl hl.1 rfl (Nat.le_of_ble_eq_true rfl) ⟨Nat.zero_le _, Nat.zero_le _⟩ d_M_object_18 (fun H locs hH => ?_)
    refine lv_istore_n (lv' := [(2, .int r_4), (0, .ref (q 0)), (1, .int x1)]) hx hb d_M_object_21 rfl hl (by decide) rfl (fun ls hl => ?_)
    refine lv_iconst (v := 0) hx hb d_M_object_22 (by decide) ?_
    refine lv_istore_n (lv' := [(3, .int 0), (2, .int r_4), (0, .ref (q 0)), (1, .int x1)]) hx hb d_M_object_23 rfl hl (by decide) rfl (fun ls hl => ?_)
    exact w_M_object_24 C0 hr  fu _ _ _ _ _ _ _ h hH (lv_sub hl [2, 3, 1, 0] rfl)
  · rw [if_neg c_1] at h
    refine lv_aload_n hx hb d_M_object_6 rfl (lv_at hl 0 rfl) ?_
    obtain ⟨r_7, v_5, hc_6, h⟩ := bi_out h
    refine mo_ci (r := r_7) (w := v_5) (as := []) (rest := []) C0 hH (c_M_room hc_6) yy_M_room q_1162 q_109 (by decide) rfl hl.1 rfl (Nat.le_of_ble_eq_true rfl) ⟨Nat.zero_le _, Nat.zero_le _⟩ d_M_object_7 (fun H locs hH => ?_)
    exact mo_iret C0 hr hH d_M_object_10 h
theorem yy_M_sign : mo_YS y_M_sign b_M_sign 2 (some .int) 1 := ⟨rfl, q_1140, q_1141, by decide +kernel⟩
def f_M_sign_21  (y0 : Int32) (v : mS) : Option (Int32 × mS) := some (y0, v)
set_option maxHeartbeats 4000000 in
set_option maxRecDepth 100000 in
theorem w_M_sign_21 {p : Program} {l : Launch} {e : Env} {s : State} {m : MethodId} {args : Array Value} {below : List Frame} {meth : Method} {c : Code} {D : va_G} {cI : ClassId} {A : Nat → Prop} {q : Nat → Nat} {o : Int32 × mS} (C0 : mo_C b_M_sign 2 D cI A p s m args meth c) (hr : meth.sig.returnType = (some .int)) : ∀ (y0 : Int32) (v : mS) (H : Heap) (locs : List Loc) (ls : Array Slot), f_M_sign_21  y0 v = some o → mo_H D cI A s q v H locs → lv_has ls 2 [] → W p l e (mo_rm 0) s m args below meth c H locs 0 0 (MQ below (mo_Qi D cI q o.1 o.2 A) args s 0 0 A) (F0 m 21 ls [.int y0]) := by
  have hx := C0.1
  have hb := C0.2.1
  intro y0 v H locs ls h hH hl
  unfold f_M_sign_21 at h
  exact mo_iret C0 hr hH d_M_sign_21 h
def f_M_sign (v : mS) (x0 : Int64) : Option (Int32 × mS) := if 0 ≤ (lg_cmp x0 0) then (if (lg_cmp x0 0) ≤ 0 then (f_M_sign_21 0 v) else (f_M_sign_21 1 v)) else (f_M_sign_21 (-1) v)
set_option maxHeartbeats 4000000 in
set_option maxRecDepth 100000 in
theorem c_M_sign {l : Launch} {D : va_G} {cI : ClassId} {q : Nat → Nat} {v : mS} {x0 : Int64} {o : Int32 × mS} (h : f_M_sign v x0 = some o) : mo_M l D cI q 0 y_M_sign b_M_sign 2 (some .int) [.long x0] v (mo_Qi D cI q o.1 o.2) := by
  refine mo_of (by decide +kernel) rfl (Nat.le_of_ble_eq_true rfl) ?_
  intro p e s m below meth c A ls C0 hr hl hH
  have hx := C0.1
  have hb := C0.2.1
  have hl : lv_has ls 2 [(0, .long x0)] := hl
  unfold f_M_sign at h
  refine lv_lload_n hx hb d_M_sign_0 rfl (lv_at hl 0 rfl) ?_
  refine lv_lconst (v := 0) hx hb d_M_sign_1 (by decide) ?_
  refine W.lcmp hx hb d_M_sign_2 ?_
  refine lv_if_ge (tgt := 10) hx hb d_M_sign_3 (by decide) (fun c_1 => ?_) (fun c_1 => ?_)
  · rw [if_pos c_1] at h
    refine lv_lload_n hx hb d_M_sign_10 rfl (lv_at hl 0 rfl) ?_
    refine lv_lconst (v := 0) hx hb d_M_sign_11 (by decide) ?_
    refine W.lcmp hx hb d_M_sign_12 ?_
    refine lv_if_le (tgt := 20) hx hb d_M_sign_13 (by decide) (fun c_2 => ?_) (fun c_2 => ?_)
    · rw [if_pos c_2] at h
      refine lv_iconst (v := 0) hx hb d_M_sign_20 (by decide) ?_
      exact w_M_sign_21 C0 hr  _ _ _ _ _ h hH (lv_sub hl [] rfl)
    · rw [if_neg c_2] at h
      refine lv_iconst (v := 1) hx hb d_M_sign_16 (by decide) ?_
      refine lv_goto (tgt := 21) hx hb d_M_sign_17 (by decide) ?_
      exact w_M_sign_21 C0 hr  _ _ _ _ _ h hH (lv_sub hl [] rfl)
  · rw [if_neg c_1] at h
    refine lv_iconst (v := (-1)) hx hb d_M_sign_6 (by decide) ?_
    refine lv_goto (tgt := 21) hx hb d_M_sign_7 (by decide) ?_
    exact w_M_sign_21 C0 hr  _ _ _ _ _ h hH (lv_sub hl [] rfl)
theorem yy_M_textOrder : mo_Y y_M_textOrder b_M_textOrder 4 (some .int) 2 := ⟨rfl, q_1137, q_55, q_1138, by decide +kernel⟩
def f_M_textOrder_75  (x1 : Int32) (x2 : Int32) (v : mS) : Option (Int32 × mS) := bi (f_M_size v x1) fun r_3 v_1 => bi (f_M_size v_1 x2) fun r_6 v_4 => bi (f_M_sign v_4 ((r_3 - r_6 : Int32).toInt64)) fun r_9 v_7 => some (r_9, v_7)
set_option maxHeartbeats 4000000 in
set_option maxRecDepth 100000 in
theorem w_M_textOrder_75 {p : Program} {l : Launch} {e : Env} {s : State} {m : MethodId} {args : Array Value} {below : List Frame} {meth : Method} {c : Code} {D : va_G} {cI : ClassId} {A : Nat → Prop} {q : Nat → Nat} {o : Int32 × mS} (C0 : mo_C b_M_textOrder 4 D cI A p s m args meth c) (hr : meth.sig.returnType = (some .int)) : ∀ (x1 : Int32) (x2 : Int32) (v : mS) (H : Heap) (locs : List Loc) (ls : Array Slot), f_M_textOrder_75  x1 x2 v = some o → mo_H D cI A s q v H locs → lv_has ls 4 [(0, .ref (q 0)), (1, .int x1), (2, .int x2)] → W p l e (mo_rm 1) s m args below meth c H locs 0 0 (MQ below (mo_Qi D cI q o.1 o.2 A) args s 0 0 A) (F0 m 75 ls []) := by
  have hx := C0.1
  have hb := C0.2.1
  intro x1 x2 v H locs ls h hH hl
  unfold f_M_textOrder_75 at h
  refine lv_aload_n hx hb d_M_textOrder_75 rfl (lv_at hl 0 rfl) ?_
  refine lv_iload_n hx hb d_M_textOrder_76 rfl (lv_at hl 1 rfl) ?_
  obtain ⟨r_3, v_1, hc_2, h⟩ := bi_out h
  refine mo_ci (r := r_3) (w := v_1) (as := [.int x1]) (rest := []) C0 hH (c_M_size hc_2) yy_M_size q_1127 q_109 (by decide) rfl hl.1 rfl (Nat.le_of_ble_eq_true rfl) ⟨Nat.zero_le _, Nat.zero_le _⟩ d_M_textOrder_77 (fun H locs hH => ?_)
  refine lv_aload_n hx hb d_M_textOrder_80 rfl (lv_at hl 0 rfl) ?_
  refine lv_iload_n hx hb d_M_textOrder_81 rfl (lv_at hl 2 rfl) ?_
  obtain ⟨r_6, v_4, hc_5, h⟩ := bi_out h
  refine mo_ci (r := r_6) (w := v_4) (as := [.int x2]) (rest := [.int r_3]) C0 hH (c_M_size hc_5) yy_M_size q_1127 q_109 (by decide) rfl hl.1 rfl (Nat.le_of_ble_eq_true rfl) ⟨Nat.zero_le _, Nat.zero_le _⟩ d_M_textOrder_82 (fun H locs hH => ?_)
  refine lv_isub hx hb d_M_textOrder_85 ?_
  refine lv_i2l hx hb d_M_textOrder_86 rfl ?_
  obtain ⟨r_9, v_7, hc_8, h⟩ := bi_out h
  refine mo_si (r := r_9) (w := v_7) (as := [.long ((r_3 - r_6 : Int32).toInt64)]) (rest := []) C0 hH (c_M_sign hc_8) yy_M_sign q_1139 q_109 (by decide) rfl hl.1 rfl (Nat.le_of_ble_eq_true rfl) ⟨Nat.zero_le _, Nat.zero_le _⟩ d_M_textOrder_87 (fun H locs hH => ?_)
  exact mo_iret C0 hr hH d_M_textOrder_90 h
def f_M_textOrder_2  : Nat → Int32 → Int32 → Int32 → mS → Option (Int32 × mS)
  | 0, _, _, _, _ => none
  | n + 1, x1, x2, x3, v => bi (f_M_size v x1) fun r_3 v_1 => if r_3 ≤ x3 then (f_M_textOrder_75 x1 x2 v_1) else (bi (f_M_size v_1 x2) fun r_7 v_5 => if r_7 ≤ x3 then (f_M_textOrder_75 x1 x2 v_5) else (gd (inB ((x1 + 4) + x3) 64000) (gd (inB ((x2 + 4) + x3) 64000) (if (v_5 6 ((x1 + 4) + x3 : Int32).toNatClampNeg) = (v_5 6 ((x2 + 4) + x3 : Int32).toNatClampNeg) then (nm (x3 + 1) fun x3_12 => f_M_textOrder_2 n x1 x2 x3_12 v_5) else (gd (inB ((x1 + 4) + x3) 64000) (gd (inB ((x2 + 4) + x3) 64000) (bi (f_M_sign v_5 (((v_5 6 ((x1 + 4) + x3 : Int32).toNatClampNeg) - (v_5 6 ((x2 + 4) + x3 : Int32).toNatClampNeg) : Int32).toInt64)) fun r_17 v_15 => some (r_17, v_15))))))))
set_option maxHeartbeats 4000000 in
set_option maxRecDepth 100000 in
theorem w_M_textOrder_2 {p : Program} {l : Launch} {e : Env} {s : State} {m : MethodId} {args : Array Value} {below : List Frame} {meth : Method} {c : Code} {D : va_G} {cI : ClassId} {A : Nat → Prop} {q : Nat → Nat} {o : Int32 × mS} (C0 : mo_C b_M_textOrder 4 D cI A p s m args meth c) (hr : meth.sig.returnType = (some .int)) : ∀ (n : Nat) (x1 : Int32) (x2 : Int32) (x3 : Int32) (v : mS) (H : Heap) (locs : List Loc) (ls : Array Slot), f_M_textOrder_2  n x1 x2 x3 v = some o → mo_H D cI A s q v H locs → lv_has ls 4 [(0, .ref (q 0)), (1, .int x1), (2, .int x2), (3, .int x3)] → W p l e (mo_rm 1) s m args below meth c H locs 0 0 (MQ below (mo_Qi D cI q o.1 o.2 A) args s 0 0 A) (F0 m 2 ls []) := by
  have hx := C0.1
  have hb := C0.2.1
  intro n
  induction n with
  | zero =>
    intro x1 x2 x3 v H locs ls h hH hl
    cases h
  | succ n ih =>
    intro x1 x2 x3 v H locs ls h hH hl
    rw [f_M_textOrder_2] at h
    refine lv_iload_n hx hb d_M_textOrder_2 rfl (lv_at hl 3 rfl) ?_
    refine lv_aload_n hx hb d_M_textOrder_3 rfl (lv_at hl 0 rfl) ?_
    refine lv_iload_n hx hb d_M_textOrder_4 rfl (lv_at hl 1 rfl) ?_
    obtain ⟨r_3, v_1, hc_2, h⟩ := bi_out h
    refine mo_ci (r := r_3) (w := v_1) (as := [.int x1]) (rest := [.int x3]) C0 hH (c_M_size hc_2) yy_M_size q_1127 q_109 (by decide) rfl hl.1 rfl (Nat.le_of_ble_eq_true rfl) ⟨Nat.zero_le _, Nat.zero_le _⟩ d_M_textOrder_5 (fun H locs hH => ?_)
    refine lv_icmp_ge (tgt := 75) hx hb d_M_textOrder_8 (by decide) (fun c_4 => ?_) (fun c_4 => ?_)
    · rw [if_pos c_4] at h
      exact w_M_textOrder_75 C0 hr  _ _ _ _ _ _ h hH (lv_sub hl [0, 1, 2] rfl)
    · rw [if_neg c_4] at h
      refine lv_iload_n hx hb d_M_textOrder_11 rfl (lv_at hl 3 rfl) ?_
      refine lv_aload_n hx hb d_M_textOrder_12 rfl (lv_at hl 0 rfl) ?_
      refine lv_iload_n hx hb d_M_textOrder_13 rfl (lv_at hl 2 rfl) ?_
      obtain ⟨r_7, v_5, hc_6, h⟩ := bi_out h
      refine mo_ci (r := r_7) (w := v_5) (as := [.int x2]) (rest := [.int x3]) C0 hH (c_M_size hc_6) yy_M_size q_1127 q_109 (by decide) rfl hl.1 rfl (Nat.le_of_ble_eq_true rfl) ⟨Nat.zero_le _, Nat.zero_le _⟩ d_M_textOrder_14 (fun H locs hH => ?_)
      refine lv_icmp_ge (tgt := 75) hx hb d_M_textOrder_17 (by decide) (fun c_8 => ?_) (fun c_8 => ?_)
      · rw [if_pos c_8] at h
        exact w_M_textOrder_75 C0 hr  _ _ _ _ _ _ h hH (lv_sub hl [0, 1, 2] rfl)
      · rw [if_neg c_8] at h
        refine lv_aload_n hx hb d_M_textOrder_20 rfl (lv_at hl 0 rfl) ?_
        refine mo_r_heap C0 hH d_M_textOrder_21 ?_
        refine lv_iload_n hx hb d_M_textOrder_24 rfl (lv_at hl 1 rfl) ?_
        refine lv_iconst (v := 4) hx hb d_M_textOrder_25 (by decide) ?_
        refine lv_iadd hx hb d_M_textOrder_26 ?_
        refine lv_iload_n hx hb d_M_textOrder_27 rfl (lv_at hl 3 rfl) ?_
        refine lv_iadd hx hb d_M_textOrder_28 ?_
        obtain ⟨g_9, h⟩ := gd_out h
        refine mo_ld 6 (by decide) (by decide) C0 hH (inB_in g_9) d_M_textOrder_29 ?_
        refine lv_aload_n hx hb d_M_textOrder_30 rfl (lv_at hl 0 rfl) ?_
        refine mo_r_heap C0 hH d_M_textOrder_31 ?_
        refine lv_iload_n hx hb d_M_textOrder_34 rfl (lv_at hl 2 rfl) ?_
        refine lv_iconst (v := 4) hx hb d_M_textOrder_35 (by decide) ?_
        refine lv_iadd hx hb d_M_textOrder_36 ?_
        refine lv_iload_n hx hb d_M_textOrder_37 rfl (lv_at hl 3 rfl) ?_
        refine lv_iadd hx hb d_M_textOrder_38 ?_
        obtain ⟨g_10, h⟩ := gd_out h
        refine mo_ld 6 (by decide) (by decide) C0 hH (inB_in g_10) d_M_textOrder_39 ?_
        refine lv_icmp_eq (tgt := 69) hx hb d_M_textOrder_40 (by decide) (fun c_11 => ?_) (fun c_11 => ?_)
        · rw [if_pos c_11] at h
          obtain ⟨x3_12, hx3_12, h⟩ := nm_out h
          refine lv_iinc (v := x3_12) (lv' := [(3, .int x3_12), (0, .ref (q 0)), (1, .int x1), (2, .int x2)]) hx hb d_M_textOrder_69 hl (k := 3) rfl (by rw [hx3_12]; rfl) (by decide) rfl (fun ls hl => ?_)
          refine lv_goto (tgt := 2) hx hb d_M_textOrder_72 (by decide) ?_
          exact ih _ _ _ _ _ _ _ h hH (lv_sub hl [1, 2, 3, 0] rfl)
        · rw [if_neg c_11] at h
          refine lv_aload_n hx hb d_M_textOrder_43 rfl (lv_at hl 0 rfl) ?_
          refine mo_r_heap C0 hH d_M_textOrder_44 ?_
          refine lv_iload_n hx hb d_M_textOrder_47 rfl (lv_at hl 1 rfl) ?_
          refine lv_iconst (v := 4) hx hb d_M_textOrder_48 (by decide) ?_
          refine lv_iadd hx hb d_M_textOrder_49 ?_
          refine lv_iload_n hx hb d_M_textOrder_50 rfl (lv_at hl 3 rfl) ?_
          refine lv_iadd hx hb d_M_textOrder_51 ?_
          obtain ⟨g_13, h⟩ := gd_out h
          refine mo_ld 6 (by decide) (by decide) C0 hH (inB_in g_13) d_M_textOrder_52 ?_
          refine lv_aload_n hx hb d_M_textOrder_53 rfl (lv_at hl 0 rfl) ?_
          refine mo_r_heap C0 hH d_M_textOrder_54 ?_
          refine lv_iload_n hx hb d_M_textOrder_57 rfl (lv_at hl 2 rfl) ?_
          refine lv_iconst (v := 4) hx hb d_M_textOrder_58 (by decide) ?_
          refine lv_iadd hx hb d_M_textOrder_59 ?_
          refine lv_iload_n hx hb d_M_textOrder_60 rfl (lv_at hl 3 rfl) ?_
          refine lv_iadd hx hb d_M_textOrder_61 ?_
          obtain ⟨g_14, h⟩ := gd_out h
          refine mo_ld 6 (by decide) (by decide) C0 hH (inB_in g_14) d_M_textOrder_62 ?_
          refine lv_isub hx hb d_M_textOrder_63 ?_
          refine lv_i2l hx hb d_M_textOrder_64 rfl ?_
          obtain ⟨r_17, v_15, hc_16, h⟩ := bi_out h
          refine mo_si (r := r_17) (w := v_15) (as := [.long (((v_5 6 ((x1 + 4) + x3 : Int32).toNatClampNeg) - (v_5 6 ((x2 + 4) + x3 : Int32).toNatClampNeg) : Int32).toInt64)]) (rest := []) C0 hH (c_M_sign hc_16) yy_M_sign q_1139 q_109 (by decide) rfl hl.1 rfl (Nat.le_of_ble_eq_true rfl) ⟨Nat.zero_le _, Nat.zero_le _⟩ d_M_textOrder_65 (fun H locs hH => ?_)
          exact mo_iret C0 hr hH d_M_textOrder_68 h
def f_M_textOrder (v : mS) (x1 : Int32) (x2 : Int32) : Option (Int32 × mS) := f_M_textOrder_2 fu x1 x2 0 v
set_option maxHeartbeats 4000000 in
set_option maxRecDepth 100000 in
theorem c_M_textOrder {l : Launch} {D : va_G} {cI : ClassId} {q : Nat → Nat} {v : mS} {x1 : Int32} {x2 : Int32} {o : Int32 × mS} (h : f_M_textOrder v x1 x2 = some o) : mo_M l D cI q 1 y_M_textOrder b_M_textOrder 4 (some .int) [.ref (q 0), .int x1, .int x2] v (mo_Qi D cI q o.1 o.2) := by
  refine mo_of (by decide +kernel) rfl (Nat.le_of_ble_eq_true rfl) ?_
  intro p e s m below meth c A ls C0 hr hl hH
  have hx := C0.1
  have hb := C0.2.1
  have hl : lv_has ls 4 [(0, .ref (q 0)), (1, .int x1), (2, .int x2)] := hl
  unfold f_M_textOrder at h
  refine lv_iconst (v := 0) hx hb d_M_textOrder_0 (by decide) ?_
  refine lv_istore_n (lv' := [(3, .int 0), (0, .ref (q 0)), (1, .int x1), (2, .int x2)]) hx hb d_M_textOrder_1 rfl hl (by decide) rfl (fun ls hl => ?_)
  exact w_M_textOrder_2 C0 hr  fu _ _ _ _ _ _ _ h hH (lv_sub hl [1, 2, 3, 0] rfl)
theorem yy_M_pair : mo_Y y_M_pair b_M_pair 3 none 2 := ⟨rfl, q_1089, q_43, q_1090, by decide +kernel⟩
def f_M_pair (v : mS) (x1 : Int32) (x2 : Int32) : Option (mS) := gd (inB (v 0 18) 400) (nm (sU v 12 (v 0 18 : Int32).toNatClampNeg x1) fun v_2 => gd (inB (v_2 0 18) 400) (nm (sU v_2 13 (v_2 0 18 : Int32).toNatClampNeg x2) fun v_4 => nm (sU v_4 0 18 ((v_4 0 18) + 1)) fun v_5 => some v_5))
set_option maxHeartbeats 4000000 in
set_option maxRecDepth 100000 in
theorem c_M_pair {l : Launch} {D : va_G} {cI : ClassId} {q : Nat → Nat} {v : mS} {x1 : Int32} {x2 : Int32} {o : mS} (h : f_M_pair v x1 x2 = some o) : mo_M l D cI q 0 y_M_pair b_M_pair 3 none [.ref (q 0), .int x1, .int x2] v (mo_Qv D cI q o) := by
  refine mo_of (by decide +kernel) rfl (Nat.le_of_ble_eq_true rfl) ?_
  intro p e s m below meth c A ls C0 hr hl hH
  have hx := C0.1
  have hb := C0.2.1
  have hl : lv_has ls 3 [(0, .ref (q 0)), (1, .int x1), (2, .int x2)] := hl
  unfold f_M_pair at h
  refine lv_aload_n hx hb d_M_pair_0 rfl (lv_at hl 0 rfl) ?_
  refine mo_r_stack C0 hH d_M_pair_1 ?_
  refine lv_aload_n hx hb d_M_pair_4 rfl (lv_at hl 0 rfl) ?_
  refine mo_g_depth C0 hH d_M_pair_5 ?_
  refine lv_iload_n hx hb d_M_pair_8 rfl (lv_at hl 1 rfl) ?_
  obtain ⟨g_1, h⟩ := gd_out h
  obtain ⟨v_2, hv_2, h⟩ := nm_out h
  refine mo_st 12 (by decide) (by decide) C0 hH (inB_in g_1) d_M_pair_9 (fun H locs hH => ?_)
  rw [← hv_2] at hH
  refine lv_aload_n hx hb d_M_pair_10 rfl (lv_at hl 0 rfl) ?_
  refine mo_r_other C0 hH d_M_pair_11 ?_
  refine lv_aload_n hx hb d_M_pair_14 rfl (lv_at hl 0 rfl) ?_
  refine mo_g_depth C0 hH d_M_pair_15 ?_
  refine lv_iload_n hx hb d_M_pair_18 rfl (lv_at hl 2 rfl) ?_
  obtain ⟨g_3, h⟩ := gd_out h
  obtain ⟨v_4, hv_4, h⟩ := nm_out h
  refine mo_st 13 (by decide) (by decide) C0 hH (inB_in g_3) d_M_pair_19 (fun H locs hH => ?_)
  rw [← hv_4] at hH
  refine lv_aload_n hx hb d_M_pair_20 rfl (lv_at hl 0 rfl) ?_
  refine lv_dup hx hb d_M_pair_21 rfl ?_
  refine mo_g_depth C0 hH d_M_pair_22 ?_
  refine lv_iconst (v := 1) hx hb d_M_pair_25 (by decide) ?_
  refine lv_iadd hx hb d_M_pair_26 ?_
  obtain ⟨v_5, hv_5, h⟩ := nm_out h
  refine mo_p_depth C0 hH d_M_pair_27 (fun H locs hH => ?_)
  rw [← hv_5] at hH
  exact mo_vret C0 hr hH d_M_pair_30 h
theorem yy_M_likeOrder : mo_Y y_M_likeOrder b_M_likeOrder 6 (some .int) 2 := ⟨rfl, q_1214, q_72, q_1215, by decide +kernel⟩
def f_M_likeOrder_195  : Nat → Int32 → Int32 → Int32 → mS → Option (Int32 × mS)
  | 0, _, _, _, _ => none
  | n + 1, x1, x2, x5, v => if x5 < 0 then (some (0, v)) else (bi (f_M_item v x1 x5) fun r_4 v_2 => bi (f_M_item v_2 x2 x5) fun r_7 v_5 => bv (f_M_pair v_5 r_4 r_7) fun v_8 => nm (x5 + (-1)) fun x5_10 => f_M_likeOrder_195 n x1 x2 x5_10 v_8)
set_option maxHeartbeats 4000000 in
set_option maxRecDepth 100000 in
theorem w_M_likeOrder_195 {p : Program} {l : Launch} {e : Env} {s : State} {m : MethodId} {args : Array Value} {below : List Frame} {meth : Method} {c : Code} {D : va_G} {cI : ClassId} {A : Nat → Prop} {q : Nat → Nat} {o : Int32 × mS} (C0 : mo_C b_M_likeOrder 6 D cI A p s m args meth c) (hr : meth.sig.returnType = (some .int)) : ∀ (n : Nat) (x1 : Int32) (x2 : Int32) (x5 : Int32) (v : mS) (H : Heap) (locs : List Loc) (ls : Array Slot), f_M_likeOrder_195  n x1 x2 x5 v = some o → mo_H D cI A s q v H locs → lv_has ls 6 [(0, .ref (q 0)), (1, .int x1), (2, .int x2), (5, .int x5)] → W p l e (mo_rm 2) s m args below meth c H locs 0 0 (MQ below (mo_Qi D cI q o.1 o.2 A) args s 0 0 A) (F0 m 195 ls []) := by
  have hx := C0.1
  have hb := C0.2.1
  intro n
  induction n with
  | zero =>
    intro x1 x2 x5 v H locs ls h hH hl
    cases h
  | succ n ih =>
    intro x1 x2 x5 v H locs ls h hH hl
    rw [f_M_likeOrder_195] at h
    refine lv_iload hx hb d_M_likeOrder_195 (lv_at hl 3 rfl) ?_
    refine lv_if_lt (tgt := 224) hx hb d_M_likeOrder_197 (by decide) (fun c_1 => ?_) (fun c_1 => ?_)
    · rw [if_pos c_1] at h
      refine lv_iconst (v := 0) hx hb d_M_likeOrder_224 (by decide) ?_
      exact mo_iret C0 hr hH d_M_likeOrder_225 h
    · rw [if_neg c_1] at h
      refine lv_aload_n hx hb d_M_likeOrder_200 rfl (lv_at hl 0 rfl) ?_
      refine lv_aload_n hx hb d_M_likeOrder_201 rfl (lv_at hl 0 rfl) ?_
      refine lv_iload_n hx hb d_M_likeOrder_202 rfl (lv_at hl 1 rfl) ?_
      refine lv_iload hx hb d_M_likeOrder_203 (lv_at hl 3 rfl) ?_
      obtain ⟨r_4, v_2, hc_3, h⟩ := bi_out h
      refine mo_ci (r := r_4) (w := v_2) (as := [.int x1, .int x5]) (rest := [.ref (q 0)]) C0 hH (c_M_item hc_3) yy_M_item q_1142 q_109 (by decide) rfl hl.1 rfl (Nat.le_of_ble_eq_true rfl) ⟨Nat.zero_le _, Nat.zero_le _⟩ d_M_likeOrder_205 (fun H locs hH => ?_)
      refine lv_aload_n hx hb d_M_likeOrder_208 rfl (lv_at hl 0 rfl) ?_
      refine lv_iload_n hx hb d_M_likeOrder_209 rfl (lv_at hl 2 rfl) ?_
      refine lv_iload hx hb d_M_likeOrder_210 (lv_at hl 3 rfl) ?_
      obtain ⟨r_7, v_5, hc_6, h⟩ := bi_out h
      refine mo_ci (r := r_7) (w := v_5) (as := [.int x2, .int x5]) (rest := [.int r_4, .ref (q 0)]) C0 hH (c_M_item hc_6) yy_M_item q_1142 q_109 (by decide) rfl hl.1 rfl (Nat.le_of_ble_eq_true rfl) ⟨Nat.zero_le _, Nat.zero_le _⟩ d_M_likeOrder_212 (fun H locs hH => ?_)
      obtain ⟨v_8, hc_9, h⟩ := bv_out h
      refine mo_cv (w := v_8) (as := [.int r_4, .int r_7]) (rest := []) C0 hH (c_M_pair hc_9) yy_M_pair q_1087 q_109 (by decide) rfl hl.1 rfl (Nat.le_of_ble_eq_true rfl) ⟨Nat.zero_le _, Nat.zero_le _⟩ d_M_likeOrder_215 (fun H locs hH => ?_)
      obtain ⟨x5_10, hx5_10, h⟩ := nm_out h
      refine lv_iinc (v := x5_10) (lv' := [(5, .int x5_10), (0, .ref (q 0)), (1, .int x1), (2, .int x2)]) hx hb d_M_likeOrder_218 hl (k := 3) rfl (by rw [hx5_10]; rfl) (by decide) rfl (fun ls hl => ?_)
      refine lv_goto (tgt := 195) hx hb d_M_likeOrder_221 (by decide) ?_
      exact ih _ _ _ _ _ _ _ h hH (lv_sub hl [1, 2, 3, 0] rfl)
def f_M_likeOrder_189  (x1 : Int32) (x2 : Int32) (x4 : Int32) (v : mS) : Option (Int32 × mS) := nm (x4 - 1) fun x5_1 => f_M_likeOrder_195 fu x1 x2 x5_1 v
set_option maxHeartbeats 4000000 in
set_option maxRecDepth 100000 in
theorem w_M_likeOrder_189 {p : Program} {l : Launch} {e : Env} {s : State} {m : MethodId} {args : Array Value} {below : List Frame} {meth : Method} {c : Code} {D : va_G} {cI : ClassId} {A : Nat → Prop} {q : Nat → Nat} {o : Int32 × mS} (C0 : mo_C b_M_likeOrder 6 D cI A p s m args meth c) (hr : meth.sig.returnType = (some .int)) : ∀ (x1 : Int32) (x2 : Int32) (x4 : Int32) (v : mS) (H : Heap) (locs : List Loc) (ls : Array Slot), f_M_likeOrder_189  x1 x2 x4 v = some o → mo_H D cI A s q v H locs → lv_has ls 6 [(0, .ref (q 0)), (1, .int x1), (2, .int x2), (4, .int x4)] → W p l e (mo_rm 2) s m args below meth c H locs 0 0 (MQ below (mo_Qi D cI q o.1 o.2 A) args s 0 0 A) (F0 m 189 ls []) := by
  have hx := C0.1
  have hb := C0.2.1
  intro x1 x2 x4 v H locs ls h hH hl
  unfold f_M_likeOrder_189 at h
  refine lv_iload hx hb d_M_likeOrder_189 (lv_at hl 3 rfl) ?_
  refine lv_iconst (v := 1) hx hb d_M_likeOrder_191 (by decide) ?_
  refine lv_isub hx hb d_M_likeOrder_192 ?_
  obtain ⟨x5_1, hx5_1, h⟩ := nm_out h
  refine fu_i hx5_1 ?_
  refine lv_istore (lv' := [(5, .int x5_1), (0, .ref (q 0)), (1, .int x1), (2, .int x2), (4, .int x4)]) hx hb d_M_likeOrder_193 hl (by decide) rfl (fun ls hl => ?_)
  exact w_M_likeOrder_195 C0 hr  fu _ _ _ _ _ _ _ h hH (lv_sub hl [1, 2, 3, 0] rfl)
def f_M_likeOrder_107  : Nat → Int32 → Int32 → Int32 → Int32 → mS → Option (Int32 × mS)
  | 0, _, _, _, _, _ => none
  | n + 1, x1, x2, x4, x5, v => if x4 ≤ x5 then (bi (f_M_size v x1) fun r_4 v_2 => bi (f_M_size v_2 x2) fun r_7 v_5 => if r_4 = r_7 then (f_M_likeOrder_189 x1 x2 x4 v_5) else (bi (f_M_size v_5 x1) fun r_11 v_9 => bi (f_M_size v_9 x2) fun r_14 v_12 => bi (f_M_sign v_12 ((r_11 - r_14 : Int32).toInt64)) fun r_17 v_15 => some (r_17, v_15))) else (bi (f_M_name v x1 x5) fun r_20 v_18 => bi (f_M_name v_18 x2 x5) fun r_23 v_21 => bi (f_M_textOrder v_21 r_20 r_23) fun r_26 v_24 => if r_26 = 0 then (nm (x5 + 1) fun x5_28 => f_M_likeOrder_107 n x1 x2 x4 x5_28 v_24) else (bi (f_M_name v_24 x1 x5) fun r_31 v_29 => bi (f_M_name v_29 x2 x5) fun r_34 v_32 => bi (f_M_textOrder v_32 r_31 r_34) fun r_37 v_35 => some (r_37, v_35)))
set_option maxHeartbeats 4000000 in
set_option maxRecDepth 100000 in
theorem w_M_likeOrder_107 {p : Program} {l : Launch} {e : Env} {s : State} {m : MethodId} {args : Array Value} {below : List Frame} {meth : Method} {c : Code} {D : va_G} {cI : ClassId} {A : Nat → Prop} {q : Nat → Nat} {o : Int32 × mS} (C0 : mo_C b_M_likeOrder 6 D cI A p s m args meth c) (hr : meth.sig.returnType = (some .int)) : ∀ (n : Nat) (x1 : Int32) (x2 : Int32) (x4 : Int32) (x5 : Int32) (v : mS) (H : Heap) (locs : List Loc) (ls : Array Slot), f_M_likeOrder_107  n x1 x2 x4 x5 v = some o → mo_H D cI A s q v H locs → lv_has ls 6 [(0, .ref (q 0)), (1, .int x1), (2, .int x2), (4, .int x4), (5, .int x5)] → W p l e (mo_rm 2) s m args below meth c H locs 0 0 (MQ below (mo_Qi D cI q o.1 o.2 A) args s 0 0 A) (F0 m 107 ls []) := by
  have hx := C0.1
  have hb := C0.2.1
  intro n
  induction n with
  | zero =>
    intro x1 x2 x4 x5 v H locs ls h hH hl
    cases h
  | succ n ih =>
    intro x1 x2 x4 x5 v H locs ls h hH hl
    rw [f_M_likeOrder_107] at h
    refine lv_iload hx hb d_M_likeOrder_107 (lv_at hl 4 rfl) ?_
    refine lv_iload hx hb d_M_likeOrder_109 (lv_at hl 3 rfl) ?_
    refine lv_icmp_ge (tgt := 160) hx hb d_M_likeOrder_111 (by decide) (fun c_1 => ?_) (fun c_1 => ?_)
    · rw [if_pos c_1] at h
      refine lv_aload_n hx hb d_M_likeOrder_160 rfl (lv_at hl 0 rfl) ?_
      refine lv_iload_n hx hb d_M_likeOrder_161 rfl (lv_at hl 1 rfl) ?_
      obtain ⟨r_4, v_2, hc_3, h⟩ := bi_out h
      refine mo_ci (r := r_4) (w := v_2) (as := [.int x1]) (rest := []) C0 hH (c_M_size hc_3) yy_M_size q_1127 q_109 (by decide) rfl hl.1 rfl (Nat.le_of_ble_eq_true rfl) ⟨Nat.zero_le _, Nat.zero_le _⟩ d_M_likeOrder_162 (fun H locs hH => ?_)
      refine lv_aload_n hx hb d_M_likeOrder_165 rfl (lv_at hl 0 rfl) ?_
      refine lv_iload_n hx hb d_M_likeOrder_166 rfl (lv_at hl 2 rfl) ?_
      obtain ⟨r_7, v_5, hc_6, h⟩ := bi_out h
      refine mo_ci (r := r_7) (w := v_5) (as := [.int x2]) (rest := [.int r_4]) C0 hH (c_M_size hc_6) yy_M_size q_1127 q_109 (by decide) rfl hl.1 rfl (Nat.le_of_ble_eq_true rfl) ⟨Nat.zero_le _, Nat.zero_le _⟩ d_M_likeOrder_167 (fun H locs hH => ?_)
      refine lv_icmp_eq (tgt := 189) hx hb d_M_likeOrder_170 (by decide) (fun c_8 => ?_) (fun c_8 => ?_)
      · rw [if_pos c_8] at h
        exact w_M_likeOrder_189 C0 hr  _ _ _ _ _ _ _ h hH (lv_sub hl [0, 1, 2, 3] rfl)
      · rw [if_neg c_8] at h
        refine lv_aload_n hx hb d_M_likeOrder_173 rfl (lv_at hl 0 rfl) ?_
        refine lv_iload_n hx hb d_M_likeOrder_174 rfl (lv_at hl 1 rfl) ?_
        obtain ⟨r_11, v_9, hc_10, h⟩ := bi_out h
        refine mo_ci (r := r_11) (w := v_9) (as := [.int x1]) (rest := []) C0 hH (c_M_size hc_10) yy_M_size q_1127 q_109 (by decide) rfl hl.1 rfl (Nat.le_of_ble_eq_true rfl) ⟨Nat.zero_le _, Nat.zero_le _⟩ d_M_likeOrder_175 (fun H locs hH => ?_)
        refine lv_aload_n hx hb d_M_likeOrder_178 rfl (lv_at hl 0 rfl) ?_
        refine lv_iload_n hx hb d_M_likeOrder_179 rfl (lv_at hl 2 rfl) ?_
        obtain ⟨r_14, v_12, hc_13, h⟩ := bi_out h
        refine mo_ci (r := r_14) (w := v_12) (as := [.int x2]) (rest := [.int r_11]) C0 hH (c_M_size hc_13) yy_M_size q_1127 q_109 (by decide) rfl hl.1 rfl (Nat.le_of_ble_eq_true rfl) ⟨Nat.zero_le _, Nat.zero_le _⟩ d_M_likeOrder_180 (fun H locs hH => ?_)
        refine lv_isub hx hb d_M_likeOrder_183 ?_
        refine lv_i2l hx hb d_M_likeOrder_184 rfl ?_
        obtain ⟨r_17, v_15, hc_16, h⟩ := bi_out h
        refine mo_si (r := r_17) (w := v_15) (as := [.long ((r_11 - r_14 : Int32).toInt64)]) (rest := []) C0 hH (c_M_sign hc_16) yy_M_sign q_1139 q_109 (by decide) rfl hl.1 rfl (Nat.le_of_ble_eq_true rfl) ⟨Nat.zero_le _, Nat.zero_le _⟩ d_M_likeOrder_185 (fun H locs hH => ?_)
        exact mo_iret C0 hr hH d_M_likeOrder_188 h
    · rw [if_neg c_1] at h
      refine lv_aload_n hx hb d_M_likeOrder_114 rfl (lv_at hl 0 rfl) ?_
      refine lv_aload_n hx hb d_M_likeOrder_115 rfl (lv_at hl 0 rfl) ?_
      refine lv_iload_n hx hb d_M_likeOrder_116 rfl (lv_at hl 1 rfl) ?_
      refine lv_iload hx hb d_M_likeOrder_117 (lv_at hl 4 rfl) ?_
      obtain ⟨r_20, v_18, hc_19, h⟩ := bi_out h
      refine mo_ci (r := r_20) (w := v_18) (as := [.int x1, .int x5]) (rest := [.ref (q 0)]) C0 hH (c_M_name hc_19) yy_M_name q_1131 q_109 (by decide) rfl hl.1 rfl (Nat.le_of_ble_eq_true rfl) ⟨Nat.zero_le _, Nat.zero_le _⟩ d_M_likeOrder_119 (fun H locs hH => ?_)
      refine lv_aload_n hx hb d_M_likeOrder_122 rfl (lv_at hl 0 rfl) ?_
      refine lv_iload_n hx hb d_M_likeOrder_123 rfl (lv_at hl 2 rfl) ?_
      refine lv_iload hx hb d_M_likeOrder_124 (lv_at hl 4 rfl) ?_
      obtain ⟨r_23, v_21, hc_22, h⟩ := bi_out h
      refine mo_ci (r := r_23) (w := v_21) (as := [.int x2, .int x5]) (rest := [.int r_20, .ref (q 0)]) C0 hH (c_M_name hc_22) yy_M_name q_1131 q_109 (by decide) rfl hl.1 rfl (Nat.le_of_ble_eq_true rfl) ⟨Nat.zero_le _, Nat.zero_le _⟩ d_M_likeOrder_126 (fun H locs hH => ?_)
      obtain ⟨r_26, v_24, hc_25, h⟩ := bi_out h
      refine mo_ci (r := r_26) (w := v_24) (as := [.int r_20, .int r_23]) (rest := []) C0 hH (c_M_textOrder hc_25) yy_M_textOrder q_1135 q_109 (by decide) rfl hl.1 rfl (Nat.le_of_ble_eq_true rfl) ⟨Nat.zero_le _, Nat.zero_le _⟩ d_M_likeOrder_129 (fun H locs hH => ?_)
      refine lv_if_eq (tgt := 154) hx hb d_M_likeOrder_132 (by decide) (fun c_27 => ?_) (fun c_27 => ?_)
      · rw [if_pos c_27] at h
        obtain ⟨x5_28, hx5_28, h⟩ := nm_out h
        refine lv_iinc (v := x5_28) (lv' := [(5, .int x5_28), (0, .ref (q 0)), (1, .int x1), (2, .int x2), (4, .int x4)]) hx hb d_M_likeOrder_154 hl (k := 4) rfl (by rw [hx5_28]; rfl) (by decide) rfl (fun ls hl => ?_)
        refine lv_goto (tgt := 107) hx hb d_M_likeOrder_157 (by decide) ?_
        exact ih _ _ _ _ _ _ _ _ h hH (lv_sub hl [1, 2, 3, 4, 0] rfl)
      · rw [if_neg c_27] at h
        refine lv_aload_n hx hb d_M_likeOrder_135 rfl (lv_at hl 0 rfl) ?_
        refine lv_aload_n hx hb d_M_likeOrder_136 rfl (lv_at hl 0 rfl) ?_
        refine lv_iload_n hx hb d_M_likeOrder_137 rfl (lv_at hl 1 rfl) ?_
        refine lv_iload hx hb d_M_likeOrder_138 (lv_at hl 4 rfl) ?_
        obtain ⟨r_31, v_29, hc_30, h⟩ := bi_out h
        refine mo_ci (r := r_31) (w := v_29) (as := [.int x1, .int x5]) (rest := [.ref (q 0)]) C0 hH (c_M_name hc_30) yy_M_name q_1131 q_109 (by decide) rfl hl.1 rfl (Nat.le_of_ble_eq_true rfl) ⟨Nat.zero_le _, Nat.zero_le _⟩ d_M_likeOrder_140 (fun H locs hH => ?_)
        refine lv_aload_n hx hb d_M_likeOrder_143 rfl (lv_at hl 0 rfl) ?_
        refine lv_iload_n hx hb d_M_likeOrder_144 rfl (lv_at hl 2 rfl) ?_
        refine lv_iload hx hb d_M_likeOrder_145 (lv_at hl 4 rfl) ?_
        obtain ⟨r_34, v_32, hc_33, h⟩ := bi_out h
        refine mo_ci (r := r_34) (w := v_32) (as := [.int x2, .int x5]) (rest := [.int r_31, .ref (q 0)]) C0 hH (c_M_name hc_33) yy_M_name q_1131 q_109 (by decide) rfl hl.1 rfl (Nat.le_of_ble_eq_true rfl) ⟨Nat.zero_le _, Nat.zero_le _⟩ d_M_likeOrder_147 (fun H locs hH => ?_)
        obtain ⟨r_37, v_35, hc_36, h⟩ := bi_out h
        refine mo_ci (r := r_37) (w := v_35) (as := [.int r_31, .int r_34]) (rest := []) C0 hH (c_M_textOrder hc_36) yy_M_textOrder q_1135 q_109 (by decide) rfl hl.1 rfl (Nat.le_of_ble_eq_true rfl) ⟨Nat.zero_le _, Nat.zero_le _⟩ d_M_likeOrder_150 (fun H locs hH => ?_)
        exact mo_iret C0 hr hH d_M_likeOrder_153 h
def f_M_likeOrder_98  (x1 : Int32) (x2 : Int32) (x3 : Int32) (x4 : Int32) (v : mS) : Option (Int32 × mS) := if x3 = 6 then (f_M_likeOrder_107 fu x1 x2 x4 0 v) else (f_M_likeOrder_189 x1 x2 x4 v)
set_option maxHeartbeats 4000000 in
set_option maxRecDepth 100000 in
theorem w_M_likeOrder_98 {p : Program} {l : Launch} {e : Env} {s : State} {m : MethodId} {args : Array Value} {below : List Frame} {meth : Method} {c : Code} {D : va_G} {cI : ClassId} {A : Nat → Prop} {q : Nat → Nat} {o : Int32 × mS} (C0 : mo_C b_M_likeOrder 6 D cI A p s m args meth c) (hr : meth.sig.returnType = (some .int)) : ∀ (x1 : Int32) (x2 : Int32) (x3 : Int32) (x4 : Int32) (v : mS) (H : Heap) (locs : List Loc) (ls : Array Slot), f_M_likeOrder_98  x1 x2 x3 x4 v = some o → mo_H D cI A s q v H locs → lv_has ls 6 [(0, .ref (q 0)), (1, .int x1), (2, .int x2), (3, .int x3), (4, .int x4)] → W p l e (mo_rm 2) s m args below meth c H locs 0 0 (MQ below (mo_Qi D cI q o.1 o.2 A) args s 0 0 A) (F0 m 98 ls []) := by
  have hx := C0.1
  have hb := C0.2.1
  intro x1 x2 x3 x4 v H locs ls h hH hl
  unfold f_M_likeOrder_98 at h
  refine lv_iload_n hx hb d_M_likeOrder_98 rfl (lv_at hl 3 rfl) ?_
  refine lv_bipush (v := 6) hx hb d_M_likeOrder_99 (by decide) ?_
  refine lv_icmp_ne (tgt := 189) hx hb d_M_likeOrder_101 (by decide) (fun c_1 => ?_) (fun c_1 => ?_)
  · rw [if_neg c_1] at h
    exact w_M_likeOrder_189 C0 hr  _ _ _ _ _ _ _ h hH (lv_sub hl [0, 1, 2, 4] rfl)
  · rw [if_pos c_1] at h
    refine lv_iconst (v := 0) hx hb d_M_likeOrder_104 (by decide) ?_
    refine lv_istore (lv' := [(5, .int 0), (0, .ref (q 0)), (1, .int x1), (2, .int x2), (3, .int x3), (4, .int x4)]) hx hb d_M_likeOrder_105 hl (by decide) rfl (fun ls hl => ?_)
    exact w_M_likeOrder_107 C0 hr  fu _ _ _ _ _ _ _ _ h hH (lv_sub hl [1, 2, 3, 5, 0] rfl)
def f_M_likeOrder_71  (x1 : Int32) (x2 : Int32) (x3 : Int32) (y0 : Int32) (v : mS) : Option (Int32 × mS) := if x3 = 5 then (bi (f_M_size v x1) fun r_4 v_2 => bi (f_M_size v_2 x2) fun r_7 v_5 => bi (f_M_sign v_5 ((r_4 - r_7 : Int32).toInt64)) fun r_10 v_8 => bv (f_M_pair v_8 0 r_10) fun v_11 => f_M_likeOrder_98 x1 x2 x3 y0 v_11) else (f_M_likeOrder_98 x1 x2 x3 y0 v)
set_option maxHeartbeats 4000000 in
set_option maxRecDepth 100000 in
theorem w_M_likeOrder_71 {p : Program} {l : Launch} {e : Env} {s : State} {m : MethodId} {args : Array Value} {below : List Frame} {meth : Method} {c : Code} {D : va_G} {cI : ClassId} {A : Nat → Prop} {q : Nat → Nat} {o : Int32 × mS} (C0 : mo_C b_M_likeOrder 6 D cI A p s m args meth c) (hr : meth.sig.returnType = (some .int)) : ∀ (x1 : Int32) (x2 : Int32) (x3 : Int32) (y0 : Int32) (v : mS) (H : Heap) (locs : List Loc) (ls : Array Slot), f_M_likeOrder_71  x1 x2 x3 y0 v = some o → mo_H D cI A s q v H locs → lv_has ls 6 [(0, .ref (q 0)), (1, .int x1), (2, .int x2), (3, .int x3)] → W p l e (mo_rm 2) s m args below meth c H locs 0 0 (MQ below (mo_Qi D cI q o.1 o.2 A) args s 0 0 A) (F0 m 71 ls [.int y0]) := by
  have hx := C0.1
  have hb := C0.2.1
  intro x1 x2 x3 y0 v H locs ls h hH hl
  unfold f_M_likeOrder_71 at h
  refine lv_istore (lv' := [(4, .int y0), (0, .ref (q 0)), (1, .int x1), (2, .int x2), (3, .int x3)]) hx hb d_M_likeOrder_71 hl (by decide) rfl (fun ls hl => ?_)
  refine lv_iload_n hx hb d_M_likeOrder_73 rfl (lv_at hl 4 rfl) ?_
  refine lv_iconst (v := 5) hx hb d_M_likeOrder_74 (by decide) ?_
  refine lv_icmp_ne (tgt := 98) hx hb d_M_likeOrder_75 (by decide) (fun c_1 => ?_) (fun c_1 => ?_)
  · rw [if_neg c_1] at h
    exact w_M_likeOrder_98 C0 hr  _ _ _ _ _ _ _ _ h hH (lv_sub hl [1, 2, 3, 4, 0] rfl)
  · rw [if_pos c_1] at h
    refine lv_aload_n hx hb d_M_likeOrder_78 rfl (lv_at hl 1 rfl) ?_
    refine lv_iconst (v := 0) hx hb d_M_likeOrder_79 (by decide) ?_
    refine lv_aload_n hx hb d_M_likeOrder_80 rfl (lv_at hl 1 rfl) ?_
    refine lv_iload_n hx hb d_M_likeOrder_81 rfl (lv_at hl 2 rfl) ?_
    obtain ⟨r_4, v_2, hc_3, h⟩ := bi_out h
    refine mo_ci (r := r_4) (w := v_2) (as := [.int x1]) (rest := [.int 0, .ref (q 0)]) C0 hH (c_M_size hc_3) yy_M_size q_1127 q_109 (by decide) rfl hl.1 rfl (Nat.le_of_ble_eq_true rfl) ⟨Nat.zero_le _, Nat.zero_le _⟩ d_M_likeOrder_82 (fun H locs hH => ?_)
    refine lv_aload_n hx hb d_M_likeOrder_85 rfl (lv_at hl 1 rfl) ?_
    refine lv_iload_n hx hb d_M_likeOrder_86 rfl (lv_at hl 3 rfl) ?_
    obtain ⟨r_7, v_5, hc_6, h⟩ := bi_out h
    refine mo_ci (r := r_7) (w := v_5) (as := [.int x2]) (rest := [.int r_4, .int 0, .ref (q 0)]) C0 hH (c_M_size hc_6) yy_M_size q_1127 q_109 (by decide) rfl hl.1 rfl (Nat.le_of_ble_eq_true rfl) ⟨Nat.zero_le _, Nat.zero_le _⟩ d_M_likeOrder_87 (fun H locs hH => ?_)
    refine lv_isub hx hb d_M_likeOrder_90 ?_
    refine lv_i2l hx hb d_M_likeOrder_91 rfl ?_
    obtain ⟨r_10, v_8, hc_9, h⟩ := bi_out h
    refine mo_si (r := r_10) (w := v_8) (as := [.long ((r_4 - r_7 : Int32).toInt64)]) (rest := [.int 0, .ref (q 0)]) C0 hH (c_M_sign hc_9) yy_M_sign q_1139 q_109 (by decide) rfl hl.1 rfl (Nat.le_of_ble_eq_true rfl) ⟨Nat.zero_le _, Nat.zero_le _⟩ d_M_likeOrder_92 (fun H locs hH => ?_)
    obtain ⟨v_11, hc_12, h⟩ := bv_out h
    refine mo_cv (w := v_11) (as := [.int 0, .int r_10]) (rest := []) C0 hH (c_M_pair hc_12) yy_M_pair q_1087 q_109 (by decide) rfl hl.1 rfl (Nat.le_of_ble_eq_true rfl) ⟨Nat.zero_le _, Nat.zero_le _⟩ d_M_likeOrder_95 (fun H locs hH => ?_)
    exact w_M_likeOrder_98 C0 hr  _ _ _ _ _ _ _ _ h hH (lv_sub hl [1, 2, 3, 4, 0] rfl)
def f_M_likeOrder (v : mS) (x1 : Int32) (x2 : Int32) : Option (Int32 × mS) := bi (f_M_kindOf v x1) fun r_3 v_1 => if 3 ≤ r_3 then (if r_3 = 3 then (bi (f_M_num v_1 x1) fun r_25 v_23 => bi (f_M_num v_23 x2) fun r_28 v_26 => bi (f_M_sign v_26 (r_25 - r_28)) fun r_31 v_29 => some (r_31, v_29)) else (if r_3 = 4 then (bi (f_M_textOrder v_1 x1 x2) fun r_22 v_20 => some (r_22, v_20)) else (bi (f_M_size v_1 x1) fun r_9 v_7 => bi (f_M_size v_7 x2) fun r_12 v_10 => if r_12 ≤ r_9 then (bi (f_M_size v_10 x2) fun r_16 v_14 => f_M_likeOrder_71 x1 x2 r_3 r_16 v_14) else (bi (f_M_size v_10 x1) fun r_19 v_17 => f_M_likeOrder_71 x1 x2 r_3 r_19 v_17)))) else (some (0, v_1))
set_option maxHeartbeats 4000000 in
set_option maxRecDepth 100000 in
theorem c_M_likeOrder {l : Launch} {D : va_G} {cI : ClassId} {q : Nat → Nat} {v : mS} {x1 : Int32} {x2 : Int32} {o : Int32 × mS} (h : f_M_likeOrder v x1 x2 = some o) : mo_M l D cI q 2 y_M_likeOrder b_M_likeOrder 6 (some .int) [.ref (q 0), .int x1, .int x2] v (mo_Qi D cI q o.1 o.2) := by
  refine mo_of (by decide +kernel) rfl (Nat.le_of_ble_eq_true rfl) ?_
  intro p e s m below meth c A ls C0 hr hl hH
  have hx := C0.1
  have hb := C0.2.1
  have hl : lv_has ls 6 [(0, .ref (q 0)), (1, .int x1), (2, .int x2)] := hl
  unfold f_M_likeOrder at h
  refine lv_aload_n hx hb d_M_likeOrder_0 rfl (lv_at hl 0 rfl) ?_
  refine lv_iload_n hx hb d_M_likeOrder_1 rfl (lv_at hl 1 rfl) ?_
  obtain ⟨r_3, v_1, hc_2, h⟩ := bi_out h
  refine mo_ci (r := r_3) (w := v_1) (as := [.int x1]) (rest := []) C0 hH (c_M_kindOf hc_2) yy_M_kindOf q_1107 q_109 (by decide) rfl hl.1 rfl (Nat.le_of_ble_eq_true rfl) ⟨Nat.zero_le _, Nat.zero_le _⟩ d_M_likeOrder_2 (fun H locs hH => ?_)
  refine lv_istore_n (lv' := [(3, .int r_3), (0, .ref (q 0)), (1, .int x1), (2, .int x2)]) hx hb d_M_likeOrder_5 rfl hl (by decide) rfl (fun ls hl => ?_)
  refine lv_iload_n hx hb d_M_likeOrder_6 rfl (lv_at hl 0 rfl) ?_
  refine lv_iconst (v := 3) hx hb d_M_likeOrder_7 (by decide) ?_
  refine lv_icmp_ge (tgt := 13) hx hb d_M_likeOrder_8 (by decide) (fun c_4 => ?_) (fun c_4 => ?_)
  · rw [if_pos c_4] at h
    refine lv_iload_n hx hb d_M_likeOrder_13 rfl (lv_at hl 0 rfl) ?_
    refine lv_iconst (v := 3) hx hb d_M_likeOrder_14 (by decide) ?_
    refine lv_icmp_ne (tgt := 33) hx hb d_M_likeOrder_15 (by decide) (fun c_5 => ?_) (fun c_5 => ?_)
    · rw [if_neg c_5] at h
      refine lv_iload_n hx hb d_M_likeOrder_33 rfl (lv_at hl 0 rfl) ?_
      refine lv_iconst (v := 4) hx hb d_M_likeOrder_34 (by decide) ?_
      refine lv_icmp_ne (tgt := 45) hx hb d_M_likeOrder_35 (by decide) (fun c_6 => ?_) (fun c_6 => ?_)
      · rw [if_neg c_6] at h
        refine lv_aload_n hx hb d_M_likeOrder_45 rfl (lv_at hl 1 rfl) ?_
        refine lv_iload_n hx hb d_M_likeOrder_46 rfl (lv_at hl 2 rfl) ?_
        obtain ⟨r_9, v_7, hc_8, h⟩ := bi_out h
        refine mo_ci (r := r_9) (w := v_7) (as := [.int x1]) (rest := []) C0 hH (c_M_size hc_8) yy_M_size q_1127 q_109 (by decide) rfl hl.1 rfl (Nat.le_of_ble_eq_true rfl) ⟨Nat.zero_le _, Nat.zero_le _⟩ d_M_likeOrder_47 (fun H locs hH => ?_)
        refine lv_aload_n hx hb d_M_likeOrder_50 rfl (lv_at hl 1 rfl) ?_
        refine lv_iload_n hx hb d_M_likeOrder_51 rfl (lv_at hl 3 rfl) ?_
        obtain ⟨r_12, v_10, hc_11, h⟩ := bi_out h
        refine mo_ci (r := r_12) (w := v_10) (as := [.int x2]) (rest := [.int r_9]) C0 hH (c_M_size hc_11) yy_M_size q_1127 q_109 (by decide) rfl hl.1 rfl (Nat.le_of_ble_eq_true rfl) ⟨Nat.zero_le _, Nat.zero_le _⟩ d_M_likeOrder_52 (fun H locs hH => ?_)
        refine lv_icmp_ge (tgt := 66) hx hb d_M_likeOrder_55 (by decide) (fun c_13 => ?_) (fun c_13 => ?_)
        · rw [if_pos c_13] at h
          refine lv_aload_n hx hb d_M_likeOrder_66 rfl (lv_at hl 1 rfl) ?_
          refine lv_iload_n hx hb d_M_likeOrder_67 rfl (lv_at hl 3 rfl) ?_
          obtain ⟨r_16, v_14, hc_15, h⟩ := bi_out h
          refine mo_ci (r := r_16) (w := v_14) (as := [.int x2]) (rest := []) C0 hH (c_M_size hc_15) yy_M_size q_1127 q_109 (by decide) rfl hl.1 rfl (Nat.le_of_ble_eq_true rfl) ⟨Nat.zero_le _, Nat.zero_le _⟩ d_M_likeOrder_68 (fun H locs hH => ?_)
          exact w_M_likeOrder_71 C0 hr  _ _ _ _ _ _ _ _ h hH (lv_sub hl [1, 2, 3, 0] rfl)
        · rw [if_neg c_13] at h
          refine lv_aload_n hx hb d_M_likeOrder_58 rfl (lv_at hl 1 rfl) ?_
          refine lv_iload_n hx hb d_M_likeOrder_59 rfl (lv_at hl 2 rfl) ?_
          obtain ⟨r_19, v_17, hc_18, h⟩ := bi_out h
          refine mo_ci (r := r_19) (w := v_17) (as := [.int x1]) (rest := []) C0 hH (c_M_size hc_18) yy_M_size q_1127 q_109 (by decide) rfl hl.1 rfl (Nat.le_of_ble_eq_true rfl) ⟨Nat.zero_le _, Nat.zero_le _⟩ d_M_likeOrder_60 (fun H locs hH => ?_)
          refine lv_goto (tgt := 71) hx hb d_M_likeOrder_63 (by decide) ?_
          exact w_M_likeOrder_71 C0 hr  _ _ _ _ _ _ _ _ h hH (lv_sub hl [1, 2, 3, 0] rfl)
      · rw [if_pos c_6] at h
        refine lv_aload_n hx hb d_M_likeOrder_38 rfl (lv_at hl 1 rfl) ?_
        refine lv_iload_n hx hb d_M_likeOrder_39 rfl (lv_at hl 2 rfl) ?_
        refine lv_iload_n hx hb d_M_likeOrder_40 rfl (lv_at hl 3 rfl) ?_
        obtain ⟨r_22, v_20, hc_21, h⟩ := bi_out h
        refine mo_ci (r := r_22) (w := v_20) (as := [.int x1, .int x2]) (rest := []) C0 hH (c_M_textOrder hc_21) yy_M_textOrder q_1135 q_109 (by decide) rfl hl.1 rfl (Nat.le_of_ble_eq_true rfl) ⟨Nat.zero_le _, Nat.zero_le _⟩ d_M_likeOrder_41 (fun H locs hH => ?_)
        exact mo_iret C0 hr hH d_M_likeOrder_44 h
    · rw [if_pos c_5] at h
      refine lv_aload_n hx hb d_M_likeOrder_18 rfl (lv_at hl 1 rfl) ?_
      refine lv_iload_n hx hb d_M_likeOrder_19 rfl (lv_at hl 2 rfl) ?_
      obtain ⟨r_25, v_23, hc_24, h⟩ := bi_out h
      refine mo_cl (r := r_25) (w := v_23) (as := [.int x1]) (rest := []) C0 hH (c_M_num hc_24) yy_M_num q_1182 q_109 (by decide) rfl hl.1 rfl (Nat.le_of_ble_eq_true rfl) ⟨Nat.zero_le _, Nat.zero_le _⟩ d_M_likeOrder_20 (fun H locs hH => ?_)
      refine lv_aload_n hx hb d_M_likeOrder_23 rfl (lv_at hl 1 rfl) ?_
      refine lv_iload_n hx hb d_M_likeOrder_24 rfl (lv_at hl 3 rfl) ?_
      obtain ⟨r_28, v_26, hc_27, h⟩ := bi_out h
      refine mo_cl (r := r_28) (w := v_26) (as := [.int x2]) (rest := [.long r_25]) C0 hH (c_M_num hc_27) yy_M_num q_1182 q_109 (by decide) rfl hl.1 rfl (Nat.le_of_ble_eq_true rfl) ⟨Nat.zero_le _, Nat.zero_le _⟩ d_M_likeOrder_25 (fun H locs hH => ?_)
      refine lv_lsub hx hb d_M_likeOrder_28 ?_
      obtain ⟨r_31, v_29, hc_30, h⟩ := bi_out h
      refine mo_si (r := r_31) (w := v_29) (as := [.long (r_25 - r_28)]) (rest := []) C0 hH (c_M_sign hc_30) yy_M_sign q_1139 q_109 (by decide) rfl hl.1 rfl (Nat.le_of_ble_eq_true rfl) ⟨Nat.zero_le _, Nat.zero_le _⟩ d_M_likeOrder_29 (fun H locs hH => ?_)
      exact mo_iret C0 hr hH d_M_likeOrder_32 h
  · rw [if_neg c_4] at h
    refine lv_iconst (v := 0) hx hb d_M_likeOrder_11 (by decide) ?_
    exact mo_iret C0 hr hH d_M_likeOrder_12 h
