/-! methods of the reference (by program: wip/gen/mgen.py begin decimal scaleOf mantissa whole floor stringOf weighed array) -/
theorem yy_M_begin : mo_Y y_M_begin b_M_begin 2 none 0 := ⟨rfl, q_922, q_38, q_923, by decide +kernel⟩
def f_M_begin_7  : Nat → Int32 → mS → Option (mS)
  | 0, _, _ => none
  | n + 1, x1, v => if 3 ≤ x1 then (some v) else (gd (inB (v 0 7) 64000) (nm (sU v 6 (v 0 7 : Int32).toNatClampNeg x1) fun v_3 => gd (inB ((v_3 0 7) + 1) 64000) (nm (sU v_3 6 ((v_3 0 7) + 1 : Int32).toNatClampNeg 1) fun v_5 => gd (inB ((v_5 0 7) + 2) 64000) (nm (sU v_5 6 ((v_5 0 7) + 2 : Int32).toNatClampNeg 0) fun v_7 => gd (inB ((v_7 0 7) + 3) 64000) (nm (sU v_7 6 ((v_7 0 7) + 3 : Int32).toNatClampNeg 0) fun v_9 => nm (sU v_9 0 7 ((v_9 0 7) + 4)) fun v_10 => nm (x1 + 1) fun x1_11 => f_M_begin_7 n x1_11 v_10)))))
set_option maxHeartbeats 4000000 in
set_option maxRecDepth 100000 in
theorem w_M_begin_7 {p : Program} {l : Launch} {e : Env} {s : State} {m : MethodId} {args : Array Value} {below : List Frame} {meth : Method} {c : Code} {D : va_G} {cI : ClassId} {A : Nat → Prop} {q : Nat → Nat} {o : mS} (C0 : mo_C b_M_begin 2 D cI A p s m args meth c) (hr : meth.sig.returnType = none) : ∀ (n : Nat) (x1 : Int32) (v : mS) (H : Heap) (locs : List Loc) (ls : Array Slot), f_M_begin_7  n x1 v = some o → mo_H D cI A s q v H locs → lv_has ls 2 [(0, .ref (q 0)), (1, .int x1)] → W p l e (mo_rm 0) s m args below meth c H locs 0 0 (MQ below (mo_Qv D cI q o A) args s 0 0 A) (F0 m 7 ls []) := by
  have hx := C0.1
  have hb := C0.2.1
  intro n
  induction n with
  | zero =>
    intro x1 v H locs ls h hH hl
    cases h
  | succ n ih =>
    intro x1 v H locs ls h hH hl
    rw [f_M_begin_7] at h
    refine lv_iload_n hx hb d_M_begin_7 rfl (lv_at hl 1 rfl) ?_
    refine lv_iconst (v := 3) hx hb d_M_begin_8 (by decide) ?_
    refine lv_icmp_ge (tgt := 74) hx hb d_M_begin_9 (by decide) (fun c_1 => ?_) (fun c_1 => ?_)
    · rw [if_pos c_1] at h
      exact mo_vret C0 hr hH d_M_begin_74 h
    · rw [if_neg c_1] at h
      refine lv_aload_n hx hb d_M_begin_12 rfl (lv_at hl 0 rfl) ?_
      refine mo_r_heap C0 hH d_M_begin_13 ?_
      refine lv_aload_n hx hb d_M_begin_16 rfl (lv_at hl 0 rfl) ?_
      refine mo_g_top C0 hH d_M_begin_17 ?_
      refine lv_iload_n hx hb d_M_begin_20 rfl (lv_at hl 1 rfl) ?_
      obtain ⟨g_2, h⟩ := gd_out h
      obtain ⟨v_3, hv_3, h⟩ := nm_out h
      refine mo_st 6 (by decide) (by decide) C0 hH (inB_in g_2) d_M_begin_21 (fun H locs hH => ?_)
      rw [← hv_3] at hH
      refine lv_aload_n hx hb d_M_begin_22 rfl (lv_at hl 0 rfl) ?_
      refine mo_r_heap C0 hH d_M_begin_23 ?_
      refine lv_aload_n hx hb d_M_begin_26 rfl (lv_at hl 0 rfl) ?_
      refine mo_g_top C0 hH d_M_begin_27 ?_
      refine lv_iconst (v := 1) hx hb d_M_begin_30 (by decide) ?_
      refine lv_iadd hx hb d_M_begin_31 ?_
      refine lv_iconst (v := 1) hx hb d_M_begin_32 (by decide) ?_
      obtain ⟨g_4, h⟩ := gd_out h
      obtain ⟨v_5, hv_5, h⟩ := nm_out h
      refine mo_st 6 (by decide) (by decide) C0 hH (inB_in g_4) d_M_begin_33 (fun H locs hH => ?_)
      rw [← hv_5] at hH
      refine lv_aload_n hx hb d_M_begin_34 rfl (lv_at hl 0 rfl) ?_
      refine mo_r_heap C0 hH d_M_begin_35 ?_
      refine lv_aload_n hx hb d_M_begin_38 rfl (lv_at hl 0 rfl) ?_
      refine mo_g_top C0 hH d_M_begin_39 ?_
      refine lv_iconst (v := 2) hx hb d_M_begin_42 (by decide) ?_
      refine lv_iadd hx hb d_M_begin_43 ?_
      refine lv_iconst (v := 0) hx hb d_M_begin_44 (by decide) ?_
      obtain ⟨g_6, h⟩ := gd_out h
      obtain ⟨v_7, hv_7, h⟩ := nm_out h
      refine mo_st 6 (by decide) (by decide) C0 hH (inB_in g_6) d_M_begin_45 (fun H locs hH => ?_)
      rw [← hv_7] at hH
      refine lv_aload_n hx hb d_M_begin_46 rfl (lv_at hl 0 rfl) ?_
      refine mo_r_heap C0 hH d_M_begin_47 ?_
      refine lv_aload_n hx hb d_M_begin_50 rfl (lv_at hl 0 rfl) ?_
      refine mo_g_top C0 hH d_M_begin_51 ?_
      refine lv_iconst (v := 3) hx hb d_M_begin_54 (by decide) ?_
      refine lv_iadd hx hb d_M_begin_55 ?_
      refine lv_iconst (v := 0) hx hb d_M_begin_56 (by decide) ?_
      obtain ⟨g_8, h⟩ := gd_out h
      obtain ⟨v_9, hv_9, h⟩ := nm_out h
      refine mo_st 6 (by decide) (by decide) C0 hH (inB_in g_8) d_M_begin_57 (fun H locs hH => ?_)
      rw [← hv_9] at hH
      refine lv_aload_n hx hb d_M_begin_58 rfl (lv_at hl 0 rfl) ?_
      refine lv_dup hx hb d_M_begin_59 rfl ?_
      refine mo_g_top C0 hH d_M_begin_60 ?_
      refine lv_iconst (v := 4) hx hb d_M_begin_63 (by decide) ?_
      refine lv_iadd hx hb d_M_begin_64 ?_
      obtain ⟨v_10, hv_10, h⟩ := nm_out h
      refine mo_p_top C0 hH d_M_begin_65 (fun H locs hH => ?_)
      rw [← hv_10] at hH
      obtain ⟨x1_11, hx1_11, h⟩ := nm_out h
      refine lv_iinc (v := x1_11) (lv' := [(1, .int x1_11), (0, .ref (q 0))]) hx hb d_M_begin_68 hl (k := 1) rfl (by rw [hx1_11]; rfl) (by decide) rfl (fun ls hl => ?_)
      refine lv_goto (tgt := 7) hx hb d_M_begin_71 (by decide) ?_
      exact ih _ _ _ _ _ h hH (lv_sub hl [1, 0] rfl)
def f_M_begin (v : mS)  : Option (mS) := nm (sU v 0 7 4) fun v_1 => f_M_begin_7 fu 0 v_1
set_option maxHeartbeats 4000000 in
set_option maxRecDepth 100000 in
theorem c_M_begin {l : Launch} {D : va_G} {cI : ClassId} {q : Nat → Nat} {v : mS}  {o : mS} (h : f_M_begin v  = some o) : mo_M l D cI q 0 y_M_begin b_M_begin 2 none [.ref (q 0)] v (mo_Qv D cI q o) := by
  refine mo_of (by decide +kernel) rfl (Nat.le_of_ble_eq_true rfl) ?_
  intro p e s m below meth c A ls C0 hr hl hH
  have hx := C0.1
  have hb := C0.2.1
  have hl : lv_has ls 2 [(0, .ref (q 0))] := hl
  unfold f_M_begin at h
  refine lv_aload_n hx hb d_M_begin_0 rfl (lv_at hl 0 rfl) ?_
  refine lv_iconst (v := 4) hx hb d_M_begin_1 (by decide) ?_
  obtain ⟨v_1, hv_1, h⟩ := nm_out h
  refine mo_p_top C0 hH d_M_begin_2 (fun H locs hH => ?_)
  rw [← hv_1] at hH
  refine lv_iconst (v := 0) hx hb d_M_begin_5 (by decide) ?_
  refine lv_istore_n (lv' := [(1, .int 0), (0, .ref (q 0))]) hx hb d_M_begin_6 rfl hl (by decide) rfl (fun ls hl => ?_)
  exact w_M_begin_7 C0 hr  fu _ _ _ _ _ h hH (lv_sub hl [1, 0] rfl)
theorem yy_M_decimal : mo_Y y_M_decimal b_M_decimal 7 (some .int) 1 := ⟨rfl, q_1157, q_59, q_1158, by decide +kernel⟩
def f_M_decimal_49   (v : mS) : Option (Int32 × mS) := bi (f_M_room v) fun r_3 v_1 => some (r_3, v_1)
set_option maxHeartbeats 4000000 in
set_option maxRecDepth 100000 in
theorem w_M_decimal_49 {p : Program} {l : Launch} {e : Env} {s : State} {m : MethodId} {args : Array Value} {below : List Frame} {meth : Method} {c : Code} {D : va_G} {cI : ClassId} {A : Nat → Prop} {q : Nat → Nat} {o : Int32 × mS} (C0 : mo_C b_M_decimal 7 D cI A p s m args meth c) (hr : meth.sig.returnType = (some .int)) : ∀  (v : mS) (H : Heap) (locs : List Loc) (ls : Array Slot), f_M_decimal_49   v = some o → mo_H D cI A s q v H locs → lv_has ls 7 [(0, .ref (q 0))] → W p l e (mo_rm 1) s m args below meth c H locs 0 0 (MQ below (mo_Qi D cI q o.1 o.2 A) args s 0 0 A) (F0 m 49 ls []) := by
  have hx := C0.1
  have hb := C0.2.1
  intro  v H locs ls h hH hl
  unfold f_M_decimal_49 at h
  refine lv_aload_n hx hb d_M_decimal_49 rfl (lv_at hl 0 rfl) ?_
  obtain ⟨r_3, v_1, hc_2, h⟩ := bi_out h
  refine mo_ci (r := r_3) (w := v_1) (as := []) (rest := []) C0 hH (c_M_room hc_2) yy_M_room q_1162 q_109 (by decide) rfl hl.1 rfl (Nat.le_of_ble_eq_true rfl) ⟨Nat.zero_le _, Nat.zero_le _⟩ d_M_decimal_50 (fun H locs hH => ?_)
  exact mo_iret C0 hr hH d_M_decimal_53 h
def f_M_decimal_33  (x1 : Int64) (x3 : Int64) (v : mS) : Option (Int32 × mS) := if 0 < (lg_cmp x3 999999999) then (f_M_decimal_49 v) else (if 0 ≤ (lg_cmp x3 (-999999999)) then (bi (f_M_node v 3 0 2) fun r_5 v_3 => gd (inB (r_5 + 4) 64000) (nm (sU v_3 6 (r_5 + 4 : Int32).toNatClampNeg ((x1 >>> ((32 : Int32).toInt64 &&& 63) : Int64).toInt32)) fun v_7 => gd (inB (r_5 + 5) 64000) (nm (sU v_7 6 (r_5 + 5 : Int32).toNatClampNeg ((x1 : Int64).toInt32)) fun v_9 => some (r_5, v_9)))) else (f_M_decimal_49 v))
set_option maxHeartbeats 4000000 in
set_option maxRecDepth 100000 in
theorem w_M_decimal_33 {p : Program} {l : Launch} {e : Env} {s : State} {m : MethodId} {args : Array Value} {below : List Frame} {meth : Method} {c : Code} {D : va_G} {cI : ClassId} {A : Nat → Prop} {q : Nat → Nat} {o : Int32 × mS} (C0 : mo_C b_M_decimal 7 D cI A p s m args meth c) (hr : meth.sig.returnType = (some .int)) : ∀ (x1 : Int64) (x3 : Int64) (v : mS) (H : Heap) (locs : List Loc) (ls : Array Slot), f_M_decimal_33  x1 x3 v = some o → mo_H D cI A s q v H locs → lv_has ls 7 [(0, .ref (q 0)), (1, .long x1), (3, .long x3)] → W p l e (mo_rm 1) s m args below meth c H locs 0 0 (MQ below (mo_Qi D cI q o.1 o.2 A) args s 0 0 A) (F0 m 33 ls []) := by
  have hx := C0.1
  have hb := C0.2.1
  intro x1 x3 v H locs ls h hH hl
  unfold f_M_decimal_33 at h
  refine lv_lload_n hx hb d_M_decimal_33 rfl (lv_at hl 2 rfl) ?_
  refine lv_ldc2 (v := 999999999) hx hb C0.2.2.1 (C0.2.2.2.1 _ q_1160) d_M_decimal_34 ?_
  refine W.lcmp hx hb d_M_decimal_37 ?_
  refine lv_if_gt (tgt := 49) hx hb d_M_decimal_38 (by decide) (fun c_1 => ?_) (fun c_1 => ?_)
  · rw [if_pos c_1] at h
    exact w_M_decimal_49 C0 hr   _ _ _ _ h hH (lv_sub hl [0] rfl)
  · rw [if_neg c_1] at h
    refine lv_lload_n hx hb d_M_decimal_41 rfl (lv_at hl 2 rfl) ?_
    refine lv_ldc2 (v := (-999999999)) hx hb C0.2.2.1 (C0.2.2.2.1 _ q_1161) d_M_decimal_42 ?_
    refine W.lcmp hx hb d_M_decimal_45 ?_
    refine lv_if_ge (tgt := 54) hx hb d_M_decimal_46 (by decide) (fun c_2 => ?_) (fun c_2 => ?_)
    · rw [if_pos c_2] at h
      refine lv_aload_n hx hb d_M_decimal_54 rfl (lv_at hl 0 rfl) ?_
      refine lv_iconst (v := 3) hx hb d_M_decimal_55 (by decide) ?_
      refine lv_iconst (v := 0) hx hb d_M_decimal_56 (by decide) ?_
      refine lv_iconst (v := 2) hx hb d_M_decimal_57 (by decide) ?_
      obtain ⟨r_5, v_3, hc_4, h⟩ := bi_out h
      refine mo_ci (r := r_5) (w := v_3) (as := [.int 3, .int 0, .int 2]) (rest := []) C0 hH (c_M_node hc_4) yy_M_node q_1115 q_109 (by decide) rfl hl.1 rfl (Nat.le_of_ble_eq_true rfl) ⟨Nat.zero_le _, Nat.zero_le _⟩ d_M_decimal_58 (fun H locs hH => ?_)
      refine lv_istore (lv' := [(6, .int r_5), (0, .ref (q 0)), (1, .long x1), (3, .long x3)]) hx hb d_M_decimal_61 hl (by decide) rfl (fun ls hl => ?_)
      refine lv_aload_n hx hb d_M_decimal_63 rfl (lv_at hl 1 rfl) ?_
      refine mo_r_heap C0 hH d_M_decimal_64 ?_
      refine lv_iload hx hb d_M_decimal_67 (lv_at hl 0 rfl) ?_
      refine lv_iconst (v := 4) hx hb d_M_decimal_69 (by decide) ?_
      refine lv_iadd hx hb d_M_decimal_70 ?_
      refine lv_lload_n hx hb d_M_decimal_71 rfl (lv_at hl 2 rfl) ?_
      refine lv_bipush (v := 32) hx hb d_M_decimal_72 (by decide) ?_
      refine lv_lshr hx hb d_M_decimal_74 rfl ?_
      refine lv_l2i hx hb d_M_decimal_75 rfl ?_
      obtain ⟨g_6, h⟩ := gd_out h
      obtain ⟨v_7, hv_7, h⟩ := nm_out h
      refine mo_st 6 (by decide) (by decide) C0 hH (inB_in g_6) d_M_decimal_76 (fun H locs hH => ?_)
      rw [← hv_7] at hH
      refine lv_aload_n hx hb d_M_decimal_77 rfl (lv_at hl 1 rfl) ?_
      refine mo_r_heap C0 hH d_M_decimal_78 ?_
      refine lv_iload hx hb d_M_decimal_81 (lv_at hl 0 rfl) ?_
      refine lv_iconst (v := 5) hx hb d_M_decimal_83 (by decide) ?_
      refine lv_iadd hx hb d_M_decimal_84 ?_
      refine lv_lload_n hx hb d_M_decimal_85 rfl (lv_at hl 2 rfl) ?_
      refine lv_l2i hx hb d_M_decimal_86 rfl ?_
      obtain ⟨g_8, h⟩ := gd_out h
      obtain ⟨v_9, hv_9, h⟩ := nm_out h
      refine mo_st 6 (by decide) (by decide) C0 hH (inB_in g_8) d_M_decimal_87 (fun H locs hH => ?_)
      rw [← hv_9] at hH
      refine lv_iload hx hb d_M_decimal_88 (lv_at hl 0 rfl) ?_
      exact mo_iret C0 hr hH d_M_decimal_90 h
    · rw [if_neg c_2] at h
      exact w_M_decimal_49 C0 hr   _ _ _ _ h hH (lv_sub hl [0] rfl)
def f_M_decimal_6  : Nat → Int64 → Int64 → Int32 → mS → Option (Int32 × mS)
  | 0, _, _, _, _ => none
  | n + 1, x1, x3, x5, v => if x5 ≤ 0 then (f_M_decimal_33 x1 x3 v) else (if (lg_cmp (x3 - x3 / 10 * 10) 0) = 0 then (nm (x3 / 10) fun x3_5 => nm (x5 + (-1)) fun x5_6 => f_M_decimal_6 n x1 x3_5 x5_6 v) else (f_M_decimal_33 x1 x3 v))
set_option maxHeartbeats 4000000 in
set_option maxRecDepth 100000 in
theorem w_M_decimal_6 {p : Program} {l : Launch} {e : Env} {s : State} {m : MethodId} {args : Array Value} {below : List Frame} {meth : Method} {c : Code} {D : va_G} {cI : ClassId} {A : Nat → Prop} {q : Nat → Nat} {o : Int32 × mS} (C0 : mo_C b_M_decimal 7 D cI A p s m args meth c) (hr : meth.sig.returnType = (some .int)) : ∀ (n : Nat) (x1 : Int64) (x3 : Int64) (x5 : Int32) (v : mS) (H : Heap) (locs : List Loc) (ls : Array Slot), f_M_decimal_6  n x1 x3 x5 v = some o → mo_H D cI A s q v H locs → lv_has ls 7 [(0, .ref (q 0)), (1, .long x1), (3, .long x3), (5, .int x5)] → W p l e (mo_rm 1) s m args below meth c H locs 0 0 (MQ below (mo_Qi D cI q o.1 o.2 A) args s 0 0 A) (F0 m 6 ls []) := by
  have hx := C0.1
  have hb := C0.2.1
  intro n
  induction n with
  | zero =>
    intro x1 x3 x5 v H locs ls h hH hl
    cases h
  | succ n ih =>
    intro x1 x3 x5 v H locs ls h hH hl
    rw [f_M_decimal_6] at h
    refine lv_iload hx hb d_M_decimal_6 (lv_at hl 3 rfl) ?_
    refine lv_if_le (tgt := 33) hx hb d_M_decimal_8 (by decide) (fun c_1 => ?_) (fun c_1 => ?_)
    · rw [if_pos c_1] at h
      exact w_M_decimal_33 C0 hr  _ _ _ _ _ _ h hH (lv_sub hl [0, 1, 2] rfl)
    · rw [if_neg c_1] at h
      refine lv_lload_n hx hb d_M_decimal_11 rfl (lv_at hl 2 rfl) ?_
      refine lv_ldc2 (v := 10) hx hb C0.2.2.1 (C0.2.2.2.1 _ q_1159) d_M_decimal_12 ?_
      refine lv_lrem hx hb d_M_decimal_15 (by decide) ?_
      refine lv_lconst (v := 0) hx hb d_M_decimal_16 (by decide) ?_
      refine W.lcmp hx hb d_M_decimal_17 ?_
      refine lv_if_ne (tgt := 33) hx hb d_M_decimal_18 (by decide) (fun c_3 => ?_) (fun c_3 => ?_)
      · rw [if_neg c_3] at h
        exact w_M_decimal_33 C0 hr  _ _ _ _ _ _ h hH (lv_sub hl [0, 1, 2] rfl)
      · rw [if_pos c_3] at h
        refine lv_lload_n hx hb d_M_decimal_21 rfl (lv_at hl 2 rfl) ?_
        refine lv_ldc2 (v := 10) hx hb C0.2.2.1 (C0.2.2.2.1 _ q_1159) d_M_decimal_22 ?_
        refine lv_ldiv hx hb d_M_decimal_25 (by decide) ?_
        obtain ⟨x3_5, hx3_5, h⟩ := nm_out h
        refine fu_l hx3_5 ?_
        refine lv_lstore_n (lv' := [(3, .long x3_5), (0, .ref (q 0)), (1, .long x1), (5, .int x5)]) hx hb d_M_decimal_26 rfl hl (by decide) rfl (fun ls hl => ?_)
        obtain ⟨x5_6, hx5_6, h⟩ := nm_out h
        refine lv_iinc (v := x5_6) (lv' := [(5, .int x5_6), (3, .long x3_5), (0, .ref (q 0)), (1, .long x1)]) hx hb d_M_decimal_27 hl (k := 3) rfl (by rw [hx5_6]; rfl) (by decide) rfl (fun ls hl => ?_)
        refine lv_goto (tgt := 6) hx hb d_M_decimal_30 (by decide) ?_
        exact ih _ _ _ _ _ _ _ h hH (lv_sub hl [2, 3, 1, 0] rfl)
def f_M_decimal (v : mS) (x1 : Int64) : Option (Int32 × mS) := f_M_decimal_6 fu x1 x1 6 v
set_option maxHeartbeats 4000000 in
set_option maxRecDepth 100000 in
theorem c_M_decimal {l : Launch} {D : va_G} {cI : ClassId} {q : Nat → Nat} {v : mS} {x1 : Int64} {o : Int32 × mS} (h : f_M_decimal v x1 = some o) : mo_M l D cI q 1 y_M_decimal b_M_decimal 7 (some .int) [.ref (q 0), .long x1] v (mo_Qi D cI q o.1 o.2) := by
  refine mo_of (by decide +kernel) rfl (Nat.le_of_ble_eq_true rfl) ?_
  intro p e s m below meth c A ls C0 hr hl hH
  have hx := C0.1
  have hb := C0.2.1
  have hl : lv_has ls 7 [(0, .ref (q 0)), (1, .long x1)] := hl
  unfold f_M_decimal at h
  refine lv_lload_n hx hb d_M_decimal_0 rfl (lv_at hl 1 rfl) ?_
  refine lv_lstore_n (lv' := [(3, .long x1), (0, .ref (q 0)), (1, .long x1)]) hx hb d_M_decimal_1 rfl hl (by decide) rfl (fun ls hl => ?_)
  refine lv_bipush (v := 6) hx hb d_M_decimal_2 (by decide) ?_
  refine lv_istore (lv' := [(5, .int 6), (3, .long x1), (0, .ref (q 0)), (1, .long x1)]) hx hb d_M_decimal_4 hl (by decide) rfl (fun ls hl => ?_)
  exact w_M_decimal_6 C0 hr  fu _ _ _ _ _ _ _ h hH (lv_sub hl [2, 3, 1, 0] rfl)
theorem yy_M_scaleOf : mo_Y y_M_scaleOf b_M_scaleOf 5 (some .int) 1 := ⟨rfl, q_1325, q_99, q_1326, by decide +kernel⟩
def f_M_scaleOf_37  (x4 : Int32) (v : mS) : Option (Int32 × mS) := some (x4, v)
set_option maxHeartbeats 4000000 in
set_option maxRecDepth 100000 in
theorem w_M_scaleOf_37 {p : Program} {l : Launch} {e : Env} {s : State} {m : MethodId} {args : Array Value} {below : List Frame} {meth : Method} {c : Code} {D : va_G} {cI : ClassId} {A : Nat → Prop} {q : Nat → Nat} {o : Int32 × mS} (C0 : mo_C b_M_scaleOf 5 D cI A p s m args meth c) (hr : meth.sig.returnType = (some .int)) : ∀ (x4 : Int32) (v : mS) (H : Heap) (locs : List Loc) (ls : Array Slot), f_M_scaleOf_37  x4 v = some o → mo_H D cI A s q v H locs → lv_has ls 5 [(4, .int x4)] → W p l e (mo_rm 1) s m args below meth c H locs 0 0 (MQ below (mo_Qi D cI q o.1 o.2 A) args s 0 0 A) (F0 m 37 ls []) := by
  have hx := C0.1
  have hb := C0.2.1
  intro x4 v H locs ls h hH hl
  unfold f_M_scaleOf_37 at h
  refine lv_iload hx hb d_M_scaleOf_37 (lv_at hl 0 rfl) ?_
  exact mo_iret C0 hr hH d_M_scaleOf_39 h
def f_M_scaleOf_10  : Nat → Int64 → Int32 → mS → Option (Int32 × mS)
  | 0, _, _, _ => none
  | n + 1, x2, x4, v => if x4 ≤ 0 then (f_M_scaleOf_37 x4 v) else (if (lg_cmp (x2 - x2 / 10 * 10) 0) = 0 then (nm (x2 / 10) fun x2_5 => nm (x4 + (-1)) fun x4_6 => f_M_scaleOf_10 n x2_5 x4_6 v) else (f_M_scaleOf_37 x4 v))
set_option maxHeartbeats 4000000 in
set_option maxRecDepth 100000 in
theorem w_M_scaleOf_10 {p : Program} {l : Launch} {e : Env} {s : State} {m : MethodId} {args : Array Value} {below : List Frame} {meth : Method} {c : Code} {D : va_G} {cI : ClassId} {A : Nat → Prop} {q : Nat → Nat} {o : Int32 × mS} (C0 : mo_C b_M_scaleOf 5 D cI A p s m args meth c) (hr : meth.sig.returnType = (some .int)) : ∀ (n : Nat) (x2 : Int64) (x4 : Int32) (v : mS) (H : Heap) (locs : List Loc) (ls : Array Slot), f_M_scaleOf_10  n x2 x4 v = some o → mo_H D cI A s q v H locs → lv_has ls 5 [(2, .long x2), (4, .int x4)] → W p l e (mo_rm 1) s m args below meth c H locs 0 0 (MQ below (mo_Qi D cI q o.1 o.2 A) args s 0 0 A) (F0 m 10 ls []) := by
  have hx := C0.1
  have hb := C0.2.1
  intro n
  induction n with
  | zero =>
    intro x2 x4 v H locs ls h hH hl
    cases h
  | succ n ih =>
    intro x2 x4 v H locs ls h hH hl
    rw [f_M_scaleOf_10] at h
    refine lv_iload hx hb d_M_scaleOf_10 (lv_at hl 1 rfl) ?_
    refine lv_if_le (tgt := 37) hx hb d_M_scaleOf_12 (by decide) (fun c_1 => ?_) (fun c_1 => ?_)
    · rw [if_pos c_1] at h
      exact w_M_scaleOf_37 C0 hr  _ _ _ _ _ h hH (lv_sub hl [1] rfl)
    · rw [if_neg c_1] at h
      refine lv_lload_n hx hb d_M_scaleOf_15 rfl (lv_at hl 0 rfl) ?_
      refine lv_ldc2 (v := 10) hx hb C0.2.2.1 (C0.2.2.2.1 _ q_1159) d_M_scaleOf_16 ?_
      refine lv_lrem hx hb d_M_scaleOf_19 (by decide) ?_
      refine lv_lconst (v := 0) hx hb d_M_scaleOf_20 (by decide) ?_
      refine W.lcmp hx hb d_M_scaleOf_21 ?_
      refine lv_if_ne (tgt := 37) hx hb d_M_scaleOf_22 (by decide) (fun c_3 => ?_) (fun c_3 => ?_)
      · rw [if_neg c_3] at h
        exact w_M_scaleOf_37 C0 hr  _ _ _ _ _ h hH (lv_sub hl [1] rfl)
      · rw [if_pos c_3] at h
        refine lv_lload_n hx hb d_M_scaleOf_25 rfl (lv_at hl 0 rfl) ?_
        refine lv_ldc2 (v := 10) hx hb C0.2.2.1 (C0.2.2.2.1 _ q_1159) d_M_scaleOf_26 ?_
        refine lv_ldiv hx hb d_M_scaleOf_29 (by decide) ?_
        obtain ⟨x2_5, hx2_5, h⟩ := nm_out h
        refine fu_l hx2_5 ?_
        refine lv_lstore_n (lv' := [(2, .long x2_5), (4, .int x4)]) hx hb d_M_scaleOf_30 rfl hl (by decide) rfl (fun ls hl => ?_)
        obtain ⟨x4_6, hx4_6, h⟩ := nm_out h
        refine lv_iinc (v := x4_6) (lv' := [(4, .int x4_6), (2, .long x2_5)]) hx hb d_M_scaleOf_31 hl (k := 1) rfl (by rw [hx4_6]; rfl) (by decide) rfl (fun ls hl => ?_)
        refine lv_goto (tgt := 10) hx hb d_M_scaleOf_34 (by decide) ?_
        exact ih _ _ _ _ _ _ h hH (lv_sub hl [1, 0] rfl)
def f_M_scaleOf (v : mS) (x1 : Int32) : Option (Int32 × mS) := bi (f_M_num v x1) fun r_3 v_1 => f_M_scaleOf_10 fu r_3 6 v_1
set_option maxHeartbeats 4000000 in
set_option maxRecDepth 100000 in
theorem c_M_scaleOf {l : Launch} {D : va_G} {cI : ClassId} {q : Nat → Nat} {v : mS} {x1 : Int32} {o : Int32 × mS} (h : f_M_scaleOf v x1 = some o) : mo_M l D cI q 1 y_M_scaleOf b_M_scaleOf 5 (some .int) [.ref (q 0), .int x1] v (mo_Qi D cI q o.1 o.2) := by
  refine mo_of (by decide +kernel) rfl (Nat.le_of_ble_eq_true rfl) ?_
  intro p e s m below meth c A ls C0 hr hl hH
  have hx := C0.1
  have hb := C0.2.1
  have hl : lv_has ls 5 [(0, .ref (q 0)), (1, .int x1)] := hl
  unfold f_M_scaleOf at h
  refine lv_aload_n hx hb d_M_scaleOf_0 rfl (lv_at hl 0 rfl) ?_
  refine lv_iload_n hx hb d_M_scaleOf_1 rfl (lv_at hl 1 rfl) ?_
  obtain ⟨r_3, v_1, hc_2, h⟩ := bi_out h
  refine mo_cl (r := r_3) (w := v_1) (as := [.int x1]) (rest := []) C0 hH (c_M_num hc_2) yy_M_num q_1182 q_109 (by decide) rfl hl.1 rfl (Nat.le_of_ble_eq_true rfl) ⟨Nat.zero_le _, Nat.zero_le _⟩ d_M_scaleOf_2 (fun H locs hH => ?_)
  refine lv_lstore_n (lv' := [(2, .long r_3), (0, .ref (q 0)), (1, .int x1)]) hx hb d_M_scaleOf_5 rfl hl (by decide) rfl (fun ls hl => ?_)
  refine lv_bipush (v := 6) hx hb d_M_scaleOf_6 (by decide) ?_
  refine lv_istore (lv' := [(4, .int 6), (2, .long r_3), (0, .ref (q 0)), (1, .int x1)]) hx hb d_M_scaleOf_8 hl (by decide) rfl (fun ls hl => ?_)
  exact w_M_scaleOf_10 C0 hr  fu _ _ _ _ _ _ h hH (lv_sub hl [1, 0] rfl)
theorem yy_M_mantissa : mo_Y y_M_mantissa b_M_mantissa 5 (some .long) 1 := ⟨rfl, q_1321, q_98, q_1322, by decide +kernel⟩
def f_M_mantissa_13  : Nat → Int64 → Int32 → mS → Option (Int64 × mS)
  | 0, _, _, _ => none
  | n + 1, x2, x4, v => if 6 ≤ x4 then (some (x2, v)) else (nm (x2 / 10) fun x2_3 => nm (x4 + 1) fun x4_4 => f_M_mantissa_13 n x2_3 x4_4 v)
set_option maxHeartbeats 4000000 in
set_option maxRecDepth 100000 in
theorem w_M_mantissa_13 {p : Program} {l : Launch} {e : Env} {s : State} {m : MethodId} {args : Array Value} {below : List Frame} {meth : Method} {c : Code} {D : va_G} {cI : ClassId} {A : Nat → Prop} {q : Nat → Nat} {o : Int64 × mS} (C0 : mo_C b_M_mantissa 5 D cI A p s m args meth c) (hr : meth.sig.returnType = (some .long)) : ∀ (n : Nat) (x2 : Int64) (x4 : Int32) (v : mS) (H : Heap) (locs : List Loc) (ls : Array Slot), f_M_mantissa_13  n x2 x4 v = some o → mo_H D cI A s q v H locs → lv_has ls 5 [(2, .long x2), (4, .int x4)] → W p l e (mo_rm 2) s m args below meth c H locs 0 0 (MQ below (mo_Ql D cI q o.1 o.2 A) args s 0 0 A) (F0 m 13 ls []) := by
  have hx := C0.1
  have hb := C0.2.1
  intro n
  induction n with
  | zero =>
    intro x2 x4 v H locs ls h hH hl
    cases h
  | succ n ih =>
    intro x2 x4 v H locs ls h hH hl
    rw [f_M_mantissa_13] at h
    refine lv_iload hx hb d_M_mantissa_13 (lv_at hl 1 rfl) ?_
    refine lv_bipush (v := 6) hx hb d_M_mantissa_15 (by decide) ?_
    refine lv_icmp_ge (tgt := 32) hx hb d_M_mantissa_17 (by decide) (fun c_1 => ?_) (fun c_1 => ?_)
    · rw [if_pos c_1] at h
      refine lv_lload_n hx hb d_M_mantissa_32 rfl (lv_at hl 0 rfl) ?_
      exact mo_lret C0 hr hH d_M_mantissa_33 h
    · rw [if_neg c_1] at h
      refine lv_lload_n hx hb d_M_mantissa_20 rfl (lv_at hl 0 rfl) ?_
      refine lv_ldc2 (v := 10) hx hb C0.2.2.1 (C0.2.2.2.1 _ q_1159) d_M_mantissa_21 ?_
      refine lv_ldiv hx hb d_M_mantissa_24 (by decide) ?_
      obtain ⟨x2_3, hx2_3, h⟩ := nm_out h
      refine fu_l hx2_3 ?_
      refine lv_lstore_n (lv' := [(2, .long x2_3), (4, .int x4)]) hx hb d_M_mantissa_25 rfl hl (by decide) rfl (fun ls hl => ?_)
      obtain ⟨x4_4, hx4_4, h⟩ := nm_out h
      refine lv_iinc (v := x4_4) (lv' := [(4, .int x4_4), (2, .long x2_3)]) hx hb d_M_mantissa_26 hl (k := 1) rfl (by rw [hx4_4]; rfl) (by decide) rfl (fun ls hl => ?_)
      refine lv_goto (tgt := 13) hx hb d_M_mantissa_29 (by decide) ?_
      exact ih _ _ _ _ _ _ h hH (lv_sub hl [1, 0] rfl)
def f_M_mantissa (v : mS) (x1 : Int32) : Option (Int64 × mS) := bi (f_M_num v x1) fun r_3 v_1 => bi (f_M_scaleOf v_1 x1) fun r_6 v_4 => f_M_mantissa_13 fu r_3 r_6 v_4
set_option maxHeartbeats 4000000 in
set_option maxRecDepth 100000 in
theorem c_M_mantissa {l : Launch} {D : va_G} {cI : ClassId} {q : Nat → Nat} {v : mS} {x1 : Int32} {o : Int64 × mS} (h : f_M_mantissa v x1 = some o) : mo_M l D cI q 2 y_M_mantissa b_M_mantissa 5 (some .long) [.ref (q 0), .int x1] v (mo_Ql D cI q o.1 o.2) := by
  refine mo_of (by decide +kernel) rfl (Nat.le_of_ble_eq_true rfl) ?_
  intro p e s m below meth c A ls C0 hr hl hH
  have hx := C0.1
  have hb := C0.2.1
  have hl : lv_has ls 5 [(0, .ref (q 0)), (1, .int x1)] := hl
  unfold f_M_mantissa at h
  refine lv_aload_n hx hb d_M_mantissa_0 rfl (lv_at hl 0 rfl) ?_
  refine lv_iload_n hx hb d_M_mantissa_1 rfl (lv_at hl 1 rfl) ?_
  obtain ⟨r_3, v_1, hc_2, h⟩ := bi_out h
  refine mo_cl (r := r_3) (w := v_1) (as := [.int x1]) (rest := []) C0 hH (c_M_num hc_2) yy_M_num q_1182 q_109 (by decide) rfl hl.1 rfl (Nat.le_of_ble_eq_true rfl) ⟨Nat.zero_le _, Nat.zero_le _⟩ d_M_mantissa_2 (fun H locs hH => ?_)
  refine lv_lstore_n (lv' := [(2, .long r_3), (0, .ref (q 0)), (1, .int x1)]) hx hb d_M_mantissa_5 rfl hl (by decide) rfl (fun ls hl => ?_)
  refine lv_aload_n hx hb d_M_mantissa_6 rfl (lv_at hl 1 rfl) ?_
  refine lv_iload_n hx hb d_M_mantissa_7 rfl (lv_at hl 2 rfl) ?_
  obtain ⟨r_6, v_4, hc_5, h⟩ := bi_out h
  refine mo_ci (r := r_6) (w := v_4) (as := [.int x1]) (rest := []) C0 hH (c_M_scaleOf hc_5) yy_M_scaleOf q_1323 q_109 (by decide) rfl hl.1 rfl (Nat.le_of_ble_eq_true rfl) ⟨Nat.zero_le _, Nat.zero_le _⟩ d_M_mantissa_8 (fun H locs hH => ?_)
  refine lv_istore (lv' := [(4, .int r_6), (2, .long r_3), (0, .ref (q 0)), (1, .int x1)]) hx hb d_M_mantissa_11 hl (by decide) rfl (fun ls hl => ?_)
  exact w_M_mantissa_13 C0 hr  fu _ _ _ _ _ _ h hH (lv_sub hl [1, 0] rfl)
theorem yy_M_whole : mo_Y y_M_whole b_M_whole 3 (some .int) 1 := ⟨rfl, q_1189, q_66, q_1190, by decide +kernel⟩
def f_M_whole (v : mS) (x1 : Int64) : Option (Int32 × mS) := bi (f_M_decimal v (x1 * 1000000)) fun r_3 v_1 => some (r_3, v_1)
set_option maxHeartbeats 4000000 in
set_option maxRecDepth 100000 in
theorem c_M_whole {l : Launch} {D : va_G} {cI : ClassId} {q : Nat → Nat} {v : mS} {x1 : Int64} {o : Int32 × mS} (h : f_M_whole v x1 = some o) : mo_M l D cI q 2 y_M_whole b_M_whole 3 (some .int) [.ref (q 0), .long x1] v (mo_Qi D cI q o.1 o.2) := by
  refine mo_of (by decide +kernel) rfl (Nat.le_of_ble_eq_true rfl) ?_
  intro p e s m below meth c A ls C0 hr hl hH
  have hx := C0.1
  have hb := C0.2.1
  have hl : lv_has ls 3 [(0, .ref (q 0)), (1, .long x1)] := hl
  unfold f_M_whole at h
  refine lv_aload_n hx hb d_M_whole_0 rfl (lv_at hl 0 rfl) ?_
  refine lv_lload_n hx hb d_M_whole_1 rfl (lv_at hl 1 rfl) ?_
  refine lv_ldc2 (v := 1000000) hx hb C0.2.2.1 (C0.2.2.2.1 _ q_1191) d_M_whole_2 ?_
  refine lv_lmul hx hb d_M_whole_5 ?_
  obtain ⟨r_3, v_1, hc_2, h⟩ := bi_out h
  refine mo_ci (r := r_3) (w := v_1) (as := [.long (x1 * 1000000)]) (rest := []) C0 hH (c_M_decimal hc_2) yy_M_decimal q_1155 q_109 (by decide) rfl hl.1 rfl (Nat.le_of_ble_eq_true rfl) ⟨Nat.zero_le _, Nat.zero_le _⟩ d_M_whole_6 (fun H locs hH => ?_)
  exact mo_iret C0 hr hH d_M_whole_9 h
theorem yy_M_floor : mo_YS y_M_floor b_M_floor 4 (some .long) 1 := ⟨rfl, q_1237, q_1238, by decide +kernel⟩
def f_M_floor_23  (y0 : Int64) (v : mS) : Option (Int64 × mS) := some (y0, v)
set_option maxHeartbeats 4000000 in
set_option maxRecDepth 100000 in
theorem w_M_floor_23 {p : Program} {l : Launch} {e : Env} {s : State} {m : MethodId} {args : Array Value} {below : List Frame} {meth : Method} {c : Code} {D : va_G} {cI : ClassId} {A : Nat → Prop} {q : Nat → Nat} {o : Int64 × mS} (C0 : mo_C b_M_floor 4 D cI A p s m args meth c) (hr : meth.sig.returnType = (some .long)) : ∀ (y0 : Int64) (v : mS) (H : Heap) (locs : List Loc) (ls : Array Slot), f_M_floor_23  y0 v = some o → mo_H D cI A s q v H locs → lv_has ls 4 [] → W p l e (mo_rm 0) s m args below meth c H locs 0 0 (MQ below (mo_Ql D cI q o.1 o.2 A) args s 0 0 A) (F0 m 23 ls [.long y0]) := by
  have hx := C0.1
  have hb := C0.2.1
  intro y0 v H locs ls h hH hl
  unfold f_M_floor_23 at h
  exact mo_lret C0 hr hH d_M_floor_23 h
def f_M_floor (v : mS) (x0 : Int64) : Option (Int64 × mS) := nm (x0 / 1000000) fun x2_2 => if (lg_cmp (x2_2 * 1000000) x0) ≤ 0 then (f_M_floor_23 x2_2 v) else (f_M_floor_23 (x2_2 - 1) v)
set_option maxHeartbeats 4000000 in
set_option maxRecDepth 100000 in
theorem c_M_floor {l : Launch} {D : va_G} {cI : ClassId} {q : Nat → Nat} {v : mS} {x0 : Int64} {o : Int64 × mS} (h : f_M_floor v x0 = some o) : mo_M l D cI q 0 y_M_floor b_M_floor 4 (some .long) [.long x0] v (mo_Ql D cI q o.1 o.2) := by
  refine mo_of (by decide +kernel) rfl (Nat.le_of_ble_eq_true rfl) ?_
  intro p e s m below meth c A ls C0 hr hl hH
  have hx := C0.1
  have hb := C0.2.1
  have hl : lv_has ls 4 [(0, .long x0)] := hl
  unfold f_M_floor at h
  refine lv_lload_n hx hb d_M_floor_0 rfl (lv_at hl 0 rfl) ?_
  refine lv_ldc2 (v := 1000000) hx hb C0.2.2.1 (C0.2.2.2.1 _ q_1191) d_M_floor_1 ?_
  refine lv_ldiv hx hb d_M_floor_4 (by decide) ?_
  obtain ⟨x2_2, hx2_2, h⟩ := nm_out h
  refine fu_l hx2_2 ?_
  refine lv_lstore_n (lv' := [(2, .long x2_2), (0, .long x0)]) hx hb d_M_floor_5 rfl hl (by decide) rfl (fun ls hl => ?_)
  refine lv_lload_n hx hb d_M_floor_6 rfl (lv_at hl 0 rfl) ?_
  refine lv_ldc2 (v := 1000000) hx hb C0.2.2.1 (C0.2.2.2.1 _ q_1191) d_M_floor_7 ?_
  refine lv_lmul hx hb d_M_floor_10 ?_
  refine lv_lload_n hx hb d_M_floor_11 rfl (lv_at hl 1 rfl) ?_
  refine W.lcmp hx hb d_M_floor_12 ?_
  refine lv_if_le (tgt := 22) hx hb d_M_floor_13 (by decide) (fun c_3 => ?_) (fun c_3 => ?_)
  · rw [if_pos c_3] at h
    refine lv_lload_n hx hb d_M_floor_22 rfl (lv_at hl 0 rfl) ?_
    exact w_M_floor_23 C0 hr  _ _ _ _ _ h hH (lv_sub hl [] rfl)
  · rw [if_neg c_3] at h
    refine lv_lload_n hx hb d_M_floor_16 rfl (lv_at hl 0 rfl) ?_
    refine lv_lconst (v := 1) hx hb d_M_floor_17 (by decide) ?_
    refine lv_lsub hx hb d_M_floor_18 ?_
    refine lv_goto (tgt := 23) hx hb d_M_floor_19 (by decide) ?_
    exact w_M_floor_23 C0 hr  _ _ _ _ _ h hH (lv_sub hl [] rfl)
theorem yy_M_stringOf : mo_Y y_M_stringOf b_M_stringOf 4 (some .int) 1 := ⟨rfl, q_1113, q_49, q_1114, by decide +kernel⟩
def f_M_stringOf_20  : Nat → Int32 → Int32 → Int32 → mS → Option (Int32 × mS)
  | 0, _, _, _, _ => none
  | n + 1, x1, x2, x3, v => gd (inB x1 8) (if (v 2 (x1 : Int32).toNatClampNeg) ≤ x3 then (some (x2, v)) else (gd (inB ((12 * x1) + x3) 96) (gd (inB ((x2 + 4) + x3) 64000) (nm (sU v 6 ((x2 + 4) + x3 : Int32).toNatClampNeg (v 1 ((12 * x1) + x3 : Int32).toNatClampNeg)) fun v_5 => nm (x3 + 1) fun x3_6 => f_M_stringOf_20 n x1 x2 x3_6 v_5))))
set_option maxHeartbeats 4000000 in
set_option maxRecDepth 100000 in
theorem w_M_stringOf_20 {p : Program} {l : Launch} {e : Env} {s : State} {m : MethodId} {args : Array Value} {below : List Frame} {meth : Method} {c : Code} {D : va_G} {cI : ClassId} {A : Nat → Prop} {q : Nat → Nat} {o : Int32 × mS} (C0 : mo_C b_M_stringOf 4 D cI A p s m args meth c) (hr : meth.sig.returnType = (some .int)) : ∀ (n : Nat) (x1 : Int32) (x2 : Int32) (x3 : Int32) (v : mS) (H : Heap) (locs : List Loc) (ls : Array Slot), f_M_stringOf_20  n x1 x2 x3 v = some o → mo_H D cI A s q v H locs → lv_has ls 4 [(0, .ref (q 0)), (1, .int x1), (2, .int x2), (3, .int x3)] → W p l e (mo_rm 1) s m args below meth c H locs 0 0 (MQ below (mo_Qi D cI q o.1 o.2 A) args s 0 0 A) (F0 m 20 ls []) := by
  have hx := C0.1
  have hb := C0.2.1
  intro n
  induction n with
  | zero =>
    intro x1 x2 x3 v H locs ls h hH hl
    cases h
  | succ n ih =>
    intro x1 x2 x3 v H locs ls h hH hl
    rw [f_M_stringOf_20] at h
    refine lv_iload_n hx hb d_M_stringOf_20 rfl (lv_at hl 3 rfl) ?_
    refine lv_aload_n hx hb d_M_stringOf_21 rfl (lv_at hl 0 rfl) ?_
    refine mo_r_textSize C0 hH d_M_stringOf_22 ?_
    refine lv_iload_n hx hb d_M_stringOf_25 rfl (lv_at hl 1 rfl) ?_
    obtain ⟨g_1, h⟩ := gd_out h
    refine mo_ld 2 (by decide) (by decide) C0 hH (inB_in g_1) d_M_stringOf_26 ?_
    refine lv_icmp_ge (tgt := 57) hx hb d_M_stringOf_27 (by decide) (fun c_2 => ?_) (fun c_2 => ?_)
    · rw [if_pos c_2] at h
      refine lv_iload_n hx hb d_M_stringOf_57 rfl (lv_at hl 2 rfl) ?_
      exact mo_iret C0 hr hH d_M_stringOf_58 h
    · rw [if_neg c_2] at h
      refine lv_aload_n hx hb d_M_stringOf_30 rfl (lv_at hl 0 rfl) ?_
      refine mo_r_heap C0 hH d_M_stringOf_31 ?_
      refine lv_iload_n hx hb d_M_stringOf_34 rfl (lv_at hl 2 rfl) ?_
      refine lv_iconst (v := 4) hx hb d_M_stringOf_35 (by decide) ?_
      refine lv_iadd hx hb d_M_stringOf_36 ?_
      refine lv_iload_n hx hb d_M_stringOf_37 rfl (lv_at hl 3 rfl) ?_
      refine lv_iadd hx hb d_M_stringOf_38 ?_
      refine lv_aload_n hx hb d_M_stringOf_39 rfl (lv_at hl 0 rfl) ?_
      refine mo_r_text C0 hH d_M_stringOf_40 ?_
      refine lv_bipush (v := 12) hx hb d_M_stringOf_43 (by decide) ?_
      refine lv_iload_n hx hb d_M_stringOf_45 rfl (lv_at hl 1 rfl) ?_
      refine lv_imul hx hb d_M_stringOf_46 ?_
      refine lv_iload_n hx hb d_M_stringOf_47 rfl (lv_at hl 3 rfl) ?_
      refine lv_iadd hx hb d_M_stringOf_48 ?_
      obtain ⟨g_3, h⟩ := gd_out h
      refine mo_ld 1 (by decide) (by decide) C0 hH (inB_in g_3) d_M_stringOf_49 ?_
      obtain ⟨g_4, h⟩ := gd_out h
      obtain ⟨v_5, hv_5, h⟩ := nm_out h
      refine mo_st 6 (by decide) (by decide) C0 hH (inB_in g_4) d_M_stringOf_50 (fun H locs hH => ?_)
      rw [← hv_5] at hH
      obtain ⟨x3_6, hx3_6, h⟩ := nm_out h
      refine lv_iinc (v := x3_6) (lv' := [(3, .int x3_6), (0, .ref (q 0)), (1, .int x1), (2, .int x2)]) hx hb d_M_stringOf_51 hl (k := 3) rfl (by rw [hx3_6]; rfl) (by decide) rfl (fun ls hl => ?_)
      refine lv_goto (tgt := 20) hx hb d_M_stringOf_54 (by decide) ?_
      exact ih _ _ _ _ _ _ _ h hH (lv_sub hl [1, 2, 3, 0] rfl)
def f_M_stringOf (v : mS) (x1 : Int32) : Option (Int32 × mS) := gd (inB x1 8) (gd (inB x1 8) (bi (f_M_node v 4 (v 2 (x1 : Int32).toNatClampNeg) (v 2 (x1 : Int32).toNatClampNeg)) fun r_5 v_3 => f_M_stringOf_20 fu x1 r_5 0 v_3))
set_option maxHeartbeats 4000000 in
set_option maxRecDepth 100000 in
theorem c_M_stringOf {l : Launch} {D : va_G} {cI : ClassId} {q : Nat → Nat} {v : mS} {x1 : Int32} {o : Int32 × mS} (h : f_M_stringOf v x1 = some o) : mo_M l D cI q 1 y_M_stringOf b_M_stringOf 4 (some .int) [.ref (q 0), .int x1] v (mo_Qi D cI q o.1 o.2) := by
  refine mo_of (by decide +kernel) rfl (Nat.le_of_ble_eq_true rfl) ?_
  intro p e s m below meth c A ls C0 hr hl hH
  have hx := C0.1
  have hb := C0.2.1
  have hl : lv_has ls 4 [(0, .ref (q 0)), (1, .int x1)] := hl
  unfold f_M_stringOf at h
  refine lv_aload_n hx hb d_M_stringOf_0 rfl (lv_at hl 0 rfl) ?_
  refine lv_iconst (v := 4) hx hb d_M_stringOf_1 (by decide) ?_
  refine lv_aload_n hx hb d_M_stringOf_2 rfl (lv_at hl 0 rfl) ?_
  refine mo_r_textSize C0 hH d_M_stringOf_3 ?_
  refine lv_iload_n hx hb d_M_stringOf_6 rfl (lv_at hl 1 rfl) ?_
  obtain ⟨g_1, h⟩ := gd_out h
  refine mo_ld 2 (by decide) (by decide) C0 hH (inB_in g_1) d_M_stringOf_7 ?_
  refine lv_aload_n hx hb d_M_stringOf_8 rfl (lv_at hl 0 rfl) ?_
  refine mo_r_textSize C0 hH d_M_stringOf_9 ?_
  refine lv_iload_n hx hb d_M_stringOf_12 rfl (lv_at hl 1 rfl) ?_
  obtain ⟨g_2, h⟩ := gd_out h
  refine mo_ld 2 (by decide) (by decide) C0 hH (inB_in g_2) d_M_stringOf_13 ?_
  obtain ⟨r_5, v_3, hc_4, h⟩ := bi_out h
  refine mo_ci (r := r_5) (w := v_3) (as := [.int 4, .int (v 2 (x1 : Int32).toNatClampNeg), .int (v 2 (x1 : Int32).toNatClampNeg)]) (rest := []) C0 hH (c_M_node hc_4) yy_M_node q_1115 q_109 (by decide) rfl hl.1 rfl (Nat.le_of_ble_eq_true rfl) ⟨Nat.zero_le _, Nat.zero_le _⟩ d_M_stringOf_14 (fun H locs hH => ?_)
  refine lv_istore_n (lv' := [(2, .int r_5), (0, .ref (q 0)), (1, .int x1)]) hx hb d_M_stringOf_17 rfl hl (by decide) rfl (fun ls hl => ?_)
  refine lv_iconst (v := 0) hx hb d_M_stringOf_18 (by decide) ?_
  refine lv_istore_n (lv' := [(3, .int 0), (2, .int r_5), (0, .ref (q 0)), (1, .int x1)]) hx hb d_M_stringOf_19 rfl hl (by decide) rfl (fun ls hl => ?_)
  exact w_M_stringOf_20 C0 hr  fu _ _ _ _ _ _ _ h hH (lv_sub hl [2, 3, 1, 0] rfl)
theorem yy_M_weighed : mo_Y y_M_weighed b_M_weighed 5 (some .int) 1 := ⟨rfl, q_1172, q_62, q_1173, by decide +kernel⟩
def f_M_weighed_67 (K7 : Int32 → Int32 → Int32 → Int32 → mS → Option (Int32 × mS)) (x1 : Int32) (x2 : Int32) (x3 : Int32) (x4 : Int32) (v : mS) : Option (Int32 × mS) := nm (x4 + 1) fun x4_1 => K7 x1 x2 x3 x4_1 v
set_option maxHeartbeats 4000000 in
set_option maxRecDepth 100000 in
theorem w_M_weighed_67 {p : Program} {l : Launch} {e : Env} {s : State} {m : MethodId} {args : Array Value} {below : List Frame} {meth : Method} {c : Code} {D : va_G} {cI : ClassId} {A : Nat → Prop} {q : Nat → Nat} {o : Int32 × mS} (C0 : mo_C b_M_weighed 5 D cI A p s m args meth c) (hr : meth.sig.returnType = (some .int)) {K7 : Int32 → Int32 → Int32 → Int32 → mS → Option (Int32 × mS)} (hK7 : ∀ (x1 : Int32) (x2 : Int32) (x3 : Int32) (x4 : Int32) (v : mS) (H : Heap) (locs : List Loc) (ls : Array Slot), K7 x1 x2 x3 x4 v = some o → mo_H D cI A s q v H locs → lv_has ls 5 [(0, .ref (q 0)), (1, .int x1), (2, .int x2), (3, .int x3), (4, .int x4)] → W p l e (mo_rm 1) s m args below meth c H locs 0 0 (MQ below (mo_Qi D cI q o.1 o.2 A) args s 0 0 A) (F0 m 7 ls [])) : ∀ (x1 : Int32) (x2 : Int32) (x3 : Int32) (x4 : Int32) (v : mS) (H : Heap) (locs : List Loc) (ls : Array Slot), f_M_weighed_67 K7 x1 x2 x3 x4 v = some o → mo_H D cI A s q v H locs → lv_has ls 5 [(0, .ref (q 0)), (1, .int x1), (2, .int x2), (3, .int x3), (4, .int x4)] → W p l e (mo_rm 1) s m args below meth c H locs 0 0 (MQ below (mo_Qi D cI q o.1 o.2 A) args s 0 0 A) (F0 m 67 ls []) := by
  have hx := C0.1
  have hb := C0.2.1
  intro x1 x2 x3 x4 v H locs ls h hH hl
  unfold f_M_weighed_67 at h
  obtain ⟨x4_1, hx4_1, h⟩ := nm_out h
  refine lv_iinc (v := x4_1) (lv' := [(4, .int x4_1), (0, .ref (q 0)), (1, .int x1), (2, .int x2), (3, .int x3)]) hx hb d_M_weighed_67 hl (k := 4) rfl (by rw [hx4_1]; rfl) (by decide) rfl (fun ls hl => ?_)
  refine lv_goto (tgt := 7) hx hb d_M_weighed_70 (by decide) ?_
  exact hK7 _ _ _ _ _ _ _ _ h hH (lv_sub hl [1, 2, 3, 4, 0] rfl)
def f_M_weighed_112  (y0 : Int32) (v : mS) : Option (Int32 × mS) := some (y0, v)
set_option maxHeartbeats 4000000 in
set_option maxRecDepth 100000 in
theorem w_M_weighed_112 {p : Program} {l : Launch} {e : Env} {s : State} {m : MethodId} {args : Array Value} {below : List Frame} {meth : Method} {c : Code} {D : va_G} {cI : ClassId} {A : Nat → Prop} {q : Nat → Nat} {o : Int32 × mS} (C0 : mo_C b_M_weighed 5 D cI A p s m args meth c) (hr : meth.sig.returnType = (some .int)) : ∀ (y0 : Int32) (v : mS) (H : Heap) (locs : List Loc) (ls : Array Slot), f_M_weighed_112  y0 v = some o → mo_H D cI A s q v H locs → lv_has ls 5 [] → W p l e (mo_rm 1) s m args below meth c H locs 0 0 (MQ below (mo_Qi D cI q o.1 o.2 A) args s 0 0 A) (F0 m 112 ls [.int y0]) := by
  have hx := C0.1
  have hb := C0.2.1
  intro y0 v H locs ls h hH hl
  unfold f_M_weighed_112 at h
  exact mo_iret C0 hr hH d_M_weighed_112 h
def f_M_weighed_104   (v : mS) : Option (Int32 × mS) := bi (f_M_room v) fun r_3 v_1 => f_M_weighed_112 r_3 v_1
set_option maxHeartbeats 4000000 in
set_option maxRecDepth 100000 in
theorem w_M_weighed_104 {p : Program} {l : Launch} {e : Env} {s : State} {m : MethodId} {args : Array Value} {below : List Frame} {meth : Method} {c : Code} {D : va_G} {cI : ClassId} {A : Nat → Prop} {q : Nat → Nat} {o : Int32 × mS} (C0 : mo_C b_M_weighed 5 D cI A p s m args meth c) (hr : meth.sig.returnType = (some .int)) : ∀  (v : mS) (H : Heap) (locs : List Loc) (ls : Array Slot), f_M_weighed_104   v = some o → mo_H D cI A s q v H locs → lv_has ls 5 [(0, .ref (q 0))] → W p l e (mo_rm 1) s m args below meth c H locs 0 0 (MQ below (mo_Qi D cI q o.1 o.2 A) args s 0 0 A) (F0 m 104 ls []) := by
  have hx := C0.1
  have hb := C0.2.1
  intro  v H locs ls h hH hl
  unfold f_M_weighed_104 at h
  refine lv_aload_n hx hb d_M_weighed_104 rfl (lv_at hl 0 rfl) ?_
  obtain ⟨r_3, v_1, hc_2, h⟩ := bi_out h
  refine mo_ci (r := r_3) (w := v_1) (as := []) (rest := []) C0 hH (c_M_room hc_2) yy_M_room q_1162 q_109 (by decide) rfl hl.1 rfl (Nat.le_of_ble_eq_true rfl) ⟨Nat.zero_le _, Nat.zero_le _⟩ d_M_weighed_105 (fun H locs hH => ?_)
  refine lv_goto (tgt := 112) hx hb d_M_weighed_108 (by decide) ?_
  exact w_M_weighed_112 C0 hr  _ _ _ _ _ h hH (lv_sub hl [] rfl)
def f_M_weighed_7  : Nat → Int32 → Int32 → Int32 → Int32 → mS → Option (Int32 × mS)
  | 0, _, _, _, _, _ => none
  | n + 1, x1, x2, x3, x4, v => bi (f_M_size v x1) fun r_3 v_1 => if r_3 ≤ x4 then (gd (inB (x1 + 1) 64000) (nm (sU v_1 6 (x1 + 1 : Int32).toNatClampNeg x2) fun v_6 => gd (inB (x1 + 2) 64000) (nm (sU v_6 6 (x1 + 2 : Int32).toNatClampNeg (x3 + 1)) fun v_8 => if 24 < x2 then (f_M_weighed_104 v_8) else (if x3 ≤ 4 then (f_M_weighed_112 x1 v_8) else (f_M_weighed_104 v_8))))) else (bi (f_M_item v_1 x1 x4) fun r_13 v_11 => gd (inB (r_13 + 1) 64000) (nm (x2 + (v_11 6 (r_13 + 1 : Int32).toNatClampNeg)) fun x2_15 => bi (f_M_item v_11 x1 x4) fun r_18 v_16 => gd (inB (r_18 + 2) 64000) (if (v_16 6 (r_18 + 2 : Int32).toNatClampNeg) ≤ x3 then (f_M_weighed_67 (f_M_weighed_7 n) x1 x2_15 x3 x4 v_16) else (bi (f_M_item v_16 x1 x4) fun r_23 v_21 => gd (inB (r_23 + 2) 64000) (nm (v_21 6 (r_23 + 2 : Int32).toNatClampNeg) fun x3_25 => f_M_weighed_67 (f_M_weighed_7 n) x1 x2_15 x3_25 x4 v_21)))))
set_option maxHeartbeats 4000000 in
set_option maxRecDepth 100000 in
theorem w_M_weighed_7 {p : Program} {l : Launch} {e : Env} {s : State} {m : MethodId} {args : Array Value} {below : List Frame} {meth : Method} {c : Code} {D : va_G} {cI : ClassId} {A : Nat → Prop} {q : Nat → Nat} {o : Int32 × mS} (C0 : mo_C b_M_weighed 5 D cI A p s m args meth c) (hr : meth.sig.returnType = (some .int)) : ∀ (n : Nat) (x1 : Int32) (x2 : Int32) (x3 : Int32) (x4 : Int32) (v : mS) (H : Heap) (locs : List Loc) (ls : Array Slot), f_M_weighed_7  n x1 x2 x3 x4 v = some o → mo_H D cI A s q v H locs → lv_has ls 5 [(0, .ref (q 0)), (1, .int x1), (2, .int x2), (3, .int x3), (4, .int x4)] → W p l e (mo_rm 1) s m args below meth c H locs 0 0 (MQ below (mo_Qi D cI q o.1 o.2 A) args s 0 0 A) (F0 m 7 ls []) := by
  have hx := C0.1
  have hb := C0.2.1
  intro n
  induction n with
  | zero =>
    intro x1 x2 x3 x4 v H locs ls h hH hl
    cases h
  | succ n ih =>
    intro x1 x2 x3 x4 v H locs ls h hH hl
    rw [f_M_weighed_7] at h
    refine lv_iload hx hb d_M_weighed_7 (lv_at hl 4 rfl) ?_
    refine lv_aload_n hx hb d_M_weighed_9 rfl (lv_at hl 0 rfl) ?_
    refine lv_iload_n hx hb d_M_weighed_10 rfl (lv_at hl 1 rfl) ?_
    obtain ⟨r_3, v_1, hc_2, h⟩ := bi_out h
    refine mo_ci (r := r_3) (w := v_1) (as := [.int x1]) (rest := [.int x4]) C0 hH (c_M_size hc_2) yy_M_size q_1127 q_109 (by decide) rfl hl.1 rfl (Nat.le_of_ble_eq_true rfl) ⟨Nat.zero_le _, Nat.zero_le _⟩ d_M_weighed_11 (fun H locs hH => ?_)
    refine lv_icmp_ge (tgt := 73) hx hb d_M_weighed_14 (by decide) (fun c_4 => ?_) (fun c_4 => ?_)
    · rw [if_pos c_4] at h
      refine lv_aload_n hx hb d_M_weighed_73 rfl (lv_at hl 0 rfl) ?_
      refine mo_r_heap C0 hH d_M_weighed_74 ?_
      refine lv_iload_n hx hb d_M_weighed_77 rfl (lv_at hl 1 rfl) ?_
      refine lv_iconst (v := 1) hx hb d_M_weighed_78 (by decide) ?_
      refine lv_iadd hx hb d_M_weighed_79 ?_
      refine lv_iload_n hx hb d_M_weighed_80 rfl (lv_at hl 2 rfl) ?_
      obtain ⟨g_5, h⟩ := gd_out h
      obtain ⟨v_6, hv_6, h⟩ := nm_out h
      refine mo_st 6 (by decide) (by decide) C0 hH (inB_in g_5) d_M_weighed_81 (fun H locs hH => ?_)
      rw [← hv_6] at hH
      refine lv_aload_n hx hb d_M_weighed_82 rfl (lv_at hl 0 rfl) ?_
      refine mo_r_heap C0 hH d_M_weighed_83 ?_
      refine lv_iload_n hx hb d_M_weighed_86 rfl (lv_at hl 1 rfl) ?_
      refine lv_iconst (v := 2) hx hb d_M_weighed_87 (by decide) ?_
      refine lv_iadd hx hb d_M_weighed_88 ?_
      refine lv_iload_n hx hb d_M_weighed_89 rfl (lv_at hl 3 rfl) ?_
      refine lv_iconst (v := 1) hx hb d_M_weighed_90 (by decide) ?_
      refine lv_iadd hx hb d_M_weighed_91 ?_
      obtain ⟨g_7, h⟩ := gd_out h
      obtain ⟨v_8, hv_8, h⟩ := nm_out h
      refine mo_st 6 (by decide) (by decide) C0 hH (inB_in g_7) d_M_weighed_92 (fun H locs hH => ?_)
      rw [← hv_8] at hH
      refine lv_iload_n hx hb d_M_weighed_93 rfl (lv_at hl 2 rfl) ?_
      refine lv_bipush (v := 24) hx hb d_M_weighed_94 (by decide) ?_
      refine lv_icmp_gt (tgt := 104) hx hb d_M_weighed_96 (by decide) (fun c_9 => ?_) (fun c_9 => ?_)
      · rw [if_pos c_9] at h
        exact w_M_weighed_104 C0 hr   _ _ _ _ h hH (lv_sub hl [0] rfl)
      · rw [if_neg c_9] at h
        refine lv_iload_n hx hb d_M_weighed_99 rfl (lv_at hl 3 rfl) ?_
        refine lv_iconst (v := 4) hx hb d_M_weighed_100 (by decide) ?_
        refine lv_icmp_le (tgt := 111) hx hb d_M_weighed_101 (by decide) (fun c_10 => ?_) (fun c_10 => ?_)
        · rw [if_pos c_10] at h
          refine lv_iload_n hx hb d_M_weighed_111 rfl (lv_at hl 1 rfl) ?_
          exact w_M_weighed_112 C0 hr  _ _ _ _ _ h hH (lv_sub hl [] rfl)
        · rw [if_neg c_10] at h
          exact w_M_weighed_104 C0 hr   _ _ _ _ h hH (lv_sub hl [0] rfl)
    · rw [if_neg c_4] at h
      refine lv_iload_n hx hb d_M_weighed_17 rfl (lv_at hl 2 rfl) ?_
      refine lv_aload_n hx hb d_M_weighed_18 rfl (lv_at hl 0 rfl) ?_
      refine mo_r_heap C0 hH d_M_weighed_19 ?_
      refine lv_aload_n hx hb d_M_weighed_22 rfl (lv_at hl 0 rfl) ?_
      refine lv_iload_n hx hb d_M_weighed_23 rfl (lv_at hl 1 rfl) ?_
      refine lv_iload hx hb d_M_weighed_24 (lv_at hl 4 rfl) ?_
      obtain ⟨r_13, v_11, hc_12, h⟩ := bi_out h
      refine mo_ci (r := r_13) (w := v_11) (as := [.int x1, .int x4]) (rest := [.ref (q 6), .int x2]) C0 hH (c_M_item hc_12) yy_M_item q_1142 q_109 (by decide) rfl hl.1 rfl (Nat.le_of_ble_eq_true rfl) ⟨Nat.zero_le _, Nat.zero_le _⟩ d_M_weighed_26 (fun H locs hH => ?_)
      refine lv_iconst (v := 1) hx hb d_M_weighed_29 (by decide) ?_
      refine lv_iadd hx hb d_M_weighed_30 ?_
      obtain ⟨g_14, h⟩ := gd_out h
      refine mo_ld 6 (by decide) (by decide) C0 hH (inB_in g_14) d_M_weighed_31 ?_
      refine lv_iadd hx hb d_M_weighed_32 ?_
      obtain ⟨x2_15, hx2_15, h⟩ := nm_out h
      refine fu_i hx2_15 ?_
      refine lv_istore_n (lv' := [(2, .int x2_15), (0, .ref (q 0)), (1, .int x1), (3, .int x3), (4, .int x4)]) hx hb d_M_weighed_33 rfl hl (by decide) rfl (fun ls hl => ?_)
      refine lv_aload_n hx hb d_M_weighed_34 rfl (lv_at hl 1 rfl) ?_
      refine mo_r_heap C0 hH d_M_weighed_35 ?_
      refine lv_aload_n hx hb d_M_weighed_38 rfl (lv_at hl 1 rfl) ?_
      refine lv_iload_n hx hb d_M_weighed_39 rfl (lv_at hl 2 rfl) ?_
      refine lv_iload hx hb d_M_weighed_40 (lv_at hl 4 rfl) ?_
      obtain ⟨r_18, v_16, hc_17, h⟩ := bi_out h
      refine mo_ci (r := r_18) (w := v_16) (as := [.int x1, .int x4]) (rest := [.ref (q 6)]) C0 hH (c_M_item hc_17) yy_M_item q_1142 q_109 (by decide) rfl hl.1 rfl (Nat.le_of_ble_eq_true rfl) ⟨Nat.zero_le _, Nat.zero_le _⟩ d_M_weighed_42 (fun H locs hH => ?_)
      refine lv_iconst (v := 2) hx hb d_M_weighed_45 (by decide) ?_
      refine lv_iadd hx hb d_M_weighed_46 ?_
      obtain ⟨g_19, h⟩ := gd_out h
      refine mo_ld 6 (by decide) (by decide) C0 hH (inB_in g_19) d_M_weighed_47 ?_
      refine lv_iload_n hx hb d_M_weighed_48 rfl (lv_at hl 3 rfl) ?_
      refine lv_icmp_le (tgt := 67) hx hb d_M_weighed_49 (by decide) (fun c_20 => ?_) (fun c_20 => ?_)
      · rw [if_pos c_20] at h
        exact w_M_weighed_67 C0 hr ih _ _ _ _ _ _ _ _ h hH (lv_sub hl [1, 2, 0, 3, 4] rfl)
      · rw [if_neg c_20] at h
        refine lv_aload_n hx hb d_M_weighed_52 rfl (lv_at hl 1 rfl) ?_
        refine mo_r_heap C0 hH d_M_weighed_53 ?_
        refine lv_aload_n hx hb d_M_weighed_56 rfl (lv_at hl 1 rfl) ?_
        refine lv_iload_n hx hb d_M_weighed_57 rfl (lv_at hl 2 rfl) ?_
        refine lv_iload hx hb d_M_weighed_58 (lv_at hl 4 rfl) ?_
        obtain ⟨r_23, v_21, hc_22, h⟩ := bi_out h
        refine mo_ci (r := r_23) (w := v_21) (as := [.int x1, .int x4]) (rest := [.ref (q 6)]) C0 hH (c_M_item hc_22) yy_M_item q_1142 q_109 (by decide) rfl hl.1 rfl (Nat.le_of_ble_eq_true rfl) ⟨Nat.zero_le _, Nat.zero_le _⟩ d_M_weighed_60 (fun H locs hH => ?_)
        refine lv_iconst (v := 2) hx hb d_M_weighed_63 (by decide) ?_
        refine lv_iadd hx hb d_M_weighed_64 ?_
        obtain ⟨g_24, h⟩ := gd_out h
        refine mo_ld 6 (by decide) (by decide) C0 hH (inB_in g_24) d_M_weighed_65 ?_
        obtain ⟨x3_25, hx3_25, h⟩ := nm_out h
        refine fu_i hx3_25 ?_
        refine lv_istore_n (lv' := [(3, .int x3_25), (2, .int x2_15), (0, .ref (q 0)), (1, .int x1), (4, .int x4)]) hx hb d_M_weighed_66 rfl hl (by decide) rfl (fun ls hl => ?_)
        exact w_M_weighed_67 C0 hr ih _ _ _ _ _ _ _ _ h hH (lv_sub hl [2, 3, 1, 0, 4] rfl)
def f_M_weighed (v : mS) (x1 : Int32) : Option (Int32 × mS) := f_M_weighed_7 fu x1 1 0 0 v
set_option maxHeartbeats 4000000 in
set_option maxRecDepth 100000 in
theorem c_M_weighed {l : Launch} {D : va_G} {cI : ClassId} {q : Nat → Nat} {v : mS} {x1 : Int32} {o : Int32 × mS} (h : f_M_weighed v x1 = some o) : mo_M l D cI q 1 y_M_weighed b_M_weighed 5 (some .int) [.ref (q 0), .int x1] v (mo_Qi D cI q o.1 o.2) := by
  refine mo_of (by decide +kernel) rfl (Nat.le_of_ble_eq_true rfl) ?_
  intro p e s m below meth c A ls C0 hr hl hH
  have hx := C0.1
  have hb := C0.2.1
  have hl : lv_has ls 5 [(0, .ref (q 0)), (1, .int x1)] := hl
  unfold f_M_weighed at h
  refine lv_iconst (v := 1) hx hb d_M_weighed_0 (by decide) ?_
  refine lv_istore_n (lv' := [(2, .int 1), (0, .ref (q 0)), (1, .int x1)]) hx hb d_M_weighed_1 rfl hl (by decide) rfl (fun ls hl => ?_)
  refine lv_iconst (v := 0) hx hb d_M_weighed_2 (by decide) ?_
  refine lv_istore_n (lv' := [(3, .int 0), (2, .int 1), (0, .ref (q 0)), (1, .int x1)]) hx hb d_M_weighed_3 rfl hl (by decide) rfl (fun ls hl => ?_)
  refine lv_iconst (v := 0) hx hb d_M_weighed_4 (by decide) ?_
  refine lv_istore (lv' := [(4, .int 0), (3, .int 0), (2, .int 1), (0, .ref (q 0)), (1, .int x1)]) hx hb d_M_weighed_5 hl (by decide) rfl (fun ls hl => ?_)
  exact w_M_weighed_7 C0 hr  fu _ _ _ _ _ _ _ _ h hH (lv_sub hl [3, 4, 2, 1, 0] rfl)
theorem yy_M_array : mo_Y y_M_array b_M_array 4 (some .int) 1 := ⟨rfl, q_1168, q_61, q_1169, by decide +kernel⟩
def f_M_array_21  : Nat → Int32 → Int32 → Int32 → mS → Option (Int32 × mS)
  | 0, _, _, _, _ => none
  | n + 1, x1, x2, x3, v => if x1 ≤ x3 then (bi (f_M_weighed v x2) fun r_4 v_2 => some (r_4, v_2)) else (gd (inB x3 64) (gd (inB ((x2 + 4) + x3) 64000) (nm (sU v 6 ((x2 + 4) + x3 : Int32).toNatClampNeg (v 10 (x3 : Int32).toNatClampNeg)) fun v_7 => nm (x3 + 1) fun x3_8 => f_M_array_21 n x1 x2 x3_8 v_7)))
set_option maxHeartbeats 4000000 in
set_option maxRecDepth 100000 in
theorem w_M_array_21 {p : Program} {l : Launch} {e : Env} {s : State} {m : MethodId} {args : Array Value} {below : List Frame} {meth : Method} {c : Code} {D : va_G} {cI : ClassId} {A : Nat → Prop} {q : Nat → Nat} {o : Int32 × mS} (C0 : mo_C b_M_array 4 D cI A p s m args meth c) (hr : meth.sig.returnType = (some .int)) : ∀ (n : Nat) (x1 : Int32) (x2 : Int32) (x3 : Int32) (v : mS) (H : Heap) (locs : List Loc) (ls : Array Slot), f_M_array_21  n x1 x2 x3 v = some o → mo_H D cI A s q v H locs → lv_has ls 4 [(0, .ref (q 0)), (1, .int x1), (2, .int x2), (3, .int x3)] → W p l e (mo_rm 2) s m args below meth c H locs 0 0 (MQ below (mo_Qi D cI q o.1 o.2 A) args s 0 0 A) (F0 m 21 ls []) := by
  have hx := C0.1
  have hb := C0.2.1
  intro n
  induction n with
  | zero =>
    intro x1 x2 x3 v H locs ls h hH hl
    cases h
  | succ n ih =>
    intro x1 x2 x3 v H locs ls h hH hl
    rw [f_M_array_21] at h
    refine lv_iload_n hx hb d_M_array_21 rfl (lv_at hl 3 rfl) ?_
    refine lv_iload_n hx hb d_M_array_22 rfl (lv_at hl 1 rfl) ?_
    refine lv_icmp_ge (tgt := 48) hx hb d_M_array_23 (by decide) (fun c_1 => ?_) (fun c_1 => ?_)
    · rw [if_pos c_1] at h
      refine lv_aload_n hx hb d_M_array_48 rfl (lv_at hl 0 rfl) ?_
      refine lv_iload_n hx hb d_M_array_49 rfl (lv_at hl 2 rfl) ?_
      obtain ⟨r_4, v_2, hc_3, h⟩ := bi_out h
      refine mo_ci (r := r_4) (w := v_2) (as := [.int x2]) (rest := []) C0 hH (c_M_weighed hc_3) yy_M_weighed q_1170 q_109 (by decide) rfl hl.1 rfl (Nat.le_of_ble_eq_true rfl) ⟨Nat.zero_le _, Nat.zero_le _⟩ d_M_array_50 (fun H locs hH => ?_)
      exact mo_iret C0 hr hH d_M_array_53 h
    · rw [if_neg c_1] at h
      refine lv_aload_n hx hb d_M_array_26 rfl (lv_at hl 0 rfl) ?_
      refine mo_r_heap C0 hH d_M_array_27 ?_
      refine lv_iload_n hx hb d_M_array_30 rfl (lv_at hl 2 rfl) ?_
      refine lv_iconst (v := 4) hx hb d_M_array_31 (by decide) ?_
      refine lv_iadd hx hb d_M_array_32 ?_
      refine lv_iload_n hx hb d_M_array_33 rfl (lv_at hl 3 rfl) ?_
      refine lv_iadd hx hb d_M_array_34 ?_
      refine lv_aload_n hx hb d_M_array_35 rfl (lv_at hl 0 rfl) ?_
      refine mo_r_items C0 hH d_M_array_36 ?_
      refine lv_iload_n hx hb d_M_array_39 rfl (lv_at hl 3 rfl) ?_
      obtain ⟨g_5, h⟩ := gd_out h
      refine mo_ld 10 (by decide) (by decide) C0 hH (inB_in g_5) d_M_array_40 ?_
      obtain ⟨g_6, h⟩ := gd_out h
      obtain ⟨v_7, hv_7, h⟩ := nm_out h
      refine mo_st 6 (by decide) (by decide) C0 hH (inB_in g_6) d_M_array_41 (fun H locs hH => ?_)
      rw [← hv_7] at hH
      obtain ⟨x3_8, hx3_8, h⟩ := nm_out h
      refine lv_iinc (v := x3_8) (lv' := [(3, .int x3_8), (0, .ref (q 0)), (1, .int x1), (2, .int x2)]) hx hb d_M_array_42 hl (k := 3) rfl (by rw [hx3_8]; rfl) (by decide) rfl (fun ls hl => ?_)
      refine lv_goto (tgt := 21) hx hb d_M_array_45 (by decide) ?_
      exact ih _ _ _ _ _ _ _ h hH (lv_sub hl [1, 2, 3, 0] rfl)
def f_M_array (v : mS) (x1 : Int32) : Option (Int32 × mS) := if x1 ≤ 12 then (bi (f_M_node v 5 x1 x1) fun r_4 v_2 => f_M_array_21 fu x1 r_4 0 v_2) else (bi (f_M_room v) fun r_7 v_5 => some (r_7, v_5))
set_option maxHeartbeats 4000000 in
set_option maxRecDepth 100000 in
theorem c_M_array {l : Launch} {D : va_G} {cI : ClassId} {q : Nat → Nat} {v : mS} {x1 : Int32} {o : Int32 × mS} (h : f_M_array v x1 = some o) : mo_M l D cI q 2 y_M_array b_M_array 4 (some .int) [.ref (q 0), .int x1] v (mo_Qi D cI q o.1 o.2) := by
  refine mo_of (by decide +kernel) rfl (Nat.le_of_ble_eq_true rfl) ?_
  intro p e s m below meth c A ls C0 hr hl hH
  have hx := C0.1
  have hb := C0.2.1
  have hl : lv_has ls 4 [(0, .ref (q 0)), (1, .int x1)] := hl
  unfold f_M_array at h
  refine lv_iload_n hx hb d_M_array_0 rfl (lv_at hl 1 rfl) ?_
  refine lv_bipush (v := 12) hx hb d_M_array_1 (by decide) ?_
  refine lv_icmp_le (tgt := 11) hx hb d_M_array_3 (by decide) (fun c_1 => ?_) (fun c_1 => ?_)
  · rw [if_pos c_1] at h
    refine lv_aload_n hx hb d_M_array_11 rfl (lv_at hl 0 rfl) ?_
    refine lv_iconst (v := 5) hx hb d_M_array_12 (by decide) ?_
    refine lv_iload_n hx hb d_M_array_13 rfl (lv_at hl 1 rfl) ?_
    refine lv_iload_n hx hb d_M_array_14 rfl (lv_at hl 1 rfl) ?_
    obtain ⟨r_4, v_2, hc_3, h⟩ := bi_out h
    refine mo_ci (r := r_4) (w := v_2) (as := [.int 5, .int x1, .int x1]) (rest := []) C0 hH (c_M_node hc_3) yy_M_node q_1115 q_109 (by decide) rfl hl.1 rfl (Nat.le_of_ble_eq_true rfl) ⟨Nat.zero_le _, Nat.zero_le _⟩ d_M_array_15 (fun H locs hH => ?_)
    refine lv_istore_n (lv' := [(2, .int r_4), (0, .ref (q 0)), (1, .int x1)]) hx hb d_M_array_18 rfl hl (by decide) rfl (fun ls hl => ?_)
    refine lv_iconst (v := 0) hx hb d_M_array_19 (by decide) ?_
    refine lv_istore_n (lv' := [(3, .int 0), (2, .int r_4), (0, .ref (q 0)), (1, .int x1)]) hx hb d_M_array_20 rfl hl (by decide) rfl (fun ls hl => ?_)
    exact w_M_array_21 C0 hr  fu _ _ _ _ _ _ _ h hH (lv_sub hl [2, 3, 1, 0] rfl)
  · rw [if_neg c_1] at h
    refine lv_aload_n hx hb d_M_array_6 rfl (lv_at hl 0 rfl) ?_
    obtain ⟨r_7, v_5, hc_6, h⟩ := bi_out h
    refine mo_ci (r := r_7) (w := v_5) (as := []) (rest := []) C0 hH (c_M_room hc_6) yy_M_room q_1162 q_109 (by decide) rfl hl.1 rfl (Nat.le_of_ble_eq_true rfl) ⟨Nat.zero_le _, Nat.zero_le _⟩ d_M_array_7 (fun H locs hH => ?_)
    exact mo_iret C0 hr hH d_M_array_10 h
