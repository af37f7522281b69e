/-! methods of the reference (by program: wip/gen/mgen.py ordered alike member letter most token wipe parts) -/
theorem yy_M_ordered : mo_Y y_M_ordered b_M_ordered 6 (some .int) 2 := ⟨rfl, q_1210, q_71, q_1211, by decide +kernel⟩
def f_M_ordered_94 (K11 : mS → Option (Int32 × mS)) (x5 : Int32) (v : mS) : Option (Int32 × mS) := if x5 = 0 then (K11 v) else (some (x5, v))
set_option maxHeartbeats 4000000 in
set_option maxRecDepth 100000 in
theorem w_M_ordered_94 {p : Program} {l : Launch} {e : Env} {s : State} {m : MethodId} {args : Array Value} {below : List Frame} {meth : Method} {c : Code} {D : va_G} {cI : ClassId} {A : Nat → Prop} {q : Nat → Nat} {o : Int32 × mS} (C0 : mo_C b_M_ordered 6 D cI A p s m args meth c) (hr : meth.sig.returnType = (some .int)) {K11 : mS → Option (Int32 × mS)} (hK11 : ∀  (v : mS) (H : Heap) (locs : List Loc) (ls : Array Slot), K11 v = some o → mo_H D cI A s q v H locs → lv_has ls 6 [(0, .ref (q 0))] → W p l e (mo_rm 3) s m args below meth c H locs 0 0 (MQ below (mo_Qi D cI q o.1 o.2 A) args s 0 0 A) (F0 m 11 ls [])) : ∀ (x5 : Int32) (v : mS) (H : Heap) (locs : List Loc) (ls : Array Slot), f_M_ordered_94 K11 x5 v = some o → mo_H D cI A s q v H locs → lv_has ls 6 [(0, .ref (q 0)), (5, .int x5)] → W p l e (mo_rm 3) s m args below meth c H locs 0 0 (MQ below (mo_Qi D cI q o.1 o.2 A) args s 0 0 A) (F0 m 94 ls []) := by
  have hx := C0.1
  have hb := C0.2.1
  intro x5 v H locs ls h hH hl
  unfold f_M_ordered_94 at h
  refine lv_iload hx hb d_M_ordered_94 (lv_at hl 1 rfl) ?_
  refine lv_if_eq (tgt := 102) hx hb d_M_ordered_96 (by decide) (fun c_1 => ?_) (fun c_1 => ?_)
  · rw [if_pos c_1] at h
    refine lv_goto (tgt := 11) hx hb d_M_ordered_102 (by decide) ?_
    exact hK11  _ _ _ _ h hH (lv_sub hl [0] rfl)
  · rw [if_neg c_1] at h
    refine lv_iload hx hb d_M_ordered_99 (lv_at hl 1 rfl) ?_
    exact mo_iret C0 hr hH d_M_ordered_101 h
def f_M_ordered_74 (K11 : mS → Option (Int32 × mS)) (x3 : Int32) (x4 : Int32) (y0 : Int32) (v : mS) : Option (Int32 × mS) := if y0 = 0 then (if x3 ≤ 0 then (f_M_ordered_94 K11 y0 v) else (bi (f_M_likeOrder v x3 x4) fun r_5 v_3 => f_M_ordered_94 K11 r_5 v_3)) else (f_M_ordered_94 K11 y0 v)
set_option maxHeartbeats 4000000 in
set_option maxRecDepth 100000 in
theorem w_M_ordered_74 {p : Program} {l : Launch} {e : Env} {s : State} {m : MethodId} {args : Array Value} {below : List Frame} {meth : Method} {c : Code} {D : va_G} {cI : ClassId} {A : Nat → Prop} {q : Nat → Nat} {o : Int32 × mS} (C0 : mo_C b_M_ordered 6 D cI A p s m args meth c) (hr : meth.sig.returnType = (some .int)) {K11 : mS → Option (Int32 × mS)} (hK11 : ∀  (v : mS) (H : Heap) (locs : List Loc) (ls : Array Slot), K11 v = some o → mo_H D cI A s q v H locs → lv_has ls 6 [(0, .ref (q 0))] → W p l e (mo_rm 3) s m args below meth c H locs 0 0 (MQ below (mo_Qi D cI q o.1 o.2 A) args s 0 0 A) (F0 m 11 ls [])) : ∀ (x3 : Int32) (x4 : Int32) (y0 : Int32) (v : mS) (H : Heap) (locs : List Loc) (ls : Array Slot), f_M_ordered_74 K11 x3 x4 y0 v = some o → mo_H D cI A s q v H locs → lv_has ls 6 [(0, .ref (q 0)), (3, .int x3), (4, .int x4)] → W p l e (mo_rm 3) s m args below meth c H locs 0 0 (MQ below (mo_Qi D cI q o.1 o.2 A) args s 0 0 A) (F0 m 74 ls [.int y0]) := by
  have hx := C0.1
  have hb := C0.2.1
  intro x3 x4 y0 v H locs ls h hH hl
  unfold f_M_ordered_74 at h
  refine lv_istore (lv' := [(5, .int y0), (0, .ref (q 0)), (3, .int x3), (4, .int x4)]) hx hb d_M_ordered_74 hl (by decide) rfl (fun ls hl => ?_)
  refine lv_iload hx hb d_M_ordered_76 (lv_at hl 0 rfl) ?_
  refine lv_if_ne (tgt := 94) hx hb d_M_ordered_78 (by decide) (fun c_1 => ?_) (fun c_1 => ?_)
  · rw [if_neg c_1] at h
    exact w_M_ordered_94 C0 hr hK11 _ _ _ _ _ h hH (lv_sub hl [1, 0] rfl)
  · rw [if_pos c_1] at h
    refine lv_iload_n hx hb d_M_ordered_81 rfl (lv_at hl 2 rfl) ?_
    refine lv_if_le (tgt := 94) hx hb d_M_ordered_82 (by decide) (fun c_2 => ?_) (fun c_2 => ?_)
    · rw [if_pos c_2] at h
      exact w_M_ordered_94 C0 hr hK11 _ _ _ _ _ h hH (lv_sub hl [1, 0] rfl)
    · rw [if_neg c_2] at h
      refine lv_aload_n hx hb d_M_ordered_85 rfl (lv_at hl 1 rfl) ?_
      refine lv_iload_n hx hb d_M_ordered_86 rfl (lv_at hl 2 rfl) ?_
      refine lv_iload hx hb d_M_ordered_87 (lv_at hl 3 rfl) ?_
      obtain ⟨r_5, v_3, hc_4, h⟩ := bi_out h
      refine mo_ci (r := r_5) (w := v_3) (as := [.int x3, .int x4]) (rest := []) C0 hH (c_M_likeOrder hc_4) yy_M_likeOrder q_1212 q_109 (by decide) rfl hl.1 rfl (Nat.le_of_ble_eq_true rfl) ⟨Nat.zero_le _, Nat.zero_le _⟩ d_M_ordered_89 (fun H locs hH => ?_)
      refine lv_istore (lv' := [(5, .int r_5), (0, .ref (q 0)), (3, .int x3), (4, .int x4)]) hx hb d_M_ordered_92 hl (by decide) rfl (fun ls hl => ?_)
      exact w_M_ordered_94 C0 hr hK11 _ _ _ _ _ h hH (lv_sub hl [1, 0] rfl)
def f_M_ordered_11  : Nat → mS → Option (Int32 × mS)
  | 0, _ => none
  | n + 1, v => if (v 0 18) ≤ 0 then (some (0, v)) else (nm (sU v 0 18 ((v 0 18) - 1)) fun v_2 => gd (inB (v_2 0 18) 400) (nm (v_2 12 (v_2 0 18 : Int32).toNatClampNeg) fun x3_4 => gd (inB (v_2 0 18) 400) (nm (v_2 13 (v_2 0 18 : Int32).toNatClampNeg) fun x4_6 => if x3_4 = 0 then (f_M_ordered_74 (f_M_ordered_11 n) x3_4 x4_6 x4_6 v_2) else (bi (f_M_kindOf v_2 x3_4) fun r_10 v_8 => bi (f_M_kindOf v_8 x4_6) fun r_13 v_11 => bi (f_M_sign v_11 ((r_10 - r_13 : Int32).toInt64)) fun r_16 v_14 => f_M_ordered_74 (f_M_ordered_11 n) x3_4 x4_6 r_16 v_14))))
set_option maxHeartbeats 4000000 in
set_option maxRecDepth 100000 in
theorem w_M_ordered_11 {p : Program} {l : Launch} {e : Env} {s : State} {m : MethodId} {args : Array Value} {below : List Frame} {meth : Method} {c : Code} {D : va_G} {cI : ClassId} {A : Nat → Prop} {q : Nat → Nat} {o : Int32 × mS} (C0 : mo_C b_M_ordered 6 D cI A p s m args meth c) (hr : meth.sig.returnType = (some .int)) : ∀ (n : Nat)  (v : mS) (H : Heap) (locs : List Loc) (ls : Array Slot), f_M_ordered_11  n  v = some o → mo_H D cI A s q v H locs → lv_has ls 6 [(0, .ref (q 0))] → W p l e (mo_rm 3) s m args below meth c H locs 0 0 (MQ below (mo_Qi D cI q o.1 o.2 A) args s 0 0 A) (F0 m 11 ls []) := by
  have hx := C0.1
  have hb := C0.2.1
  intro n
  induction n with
  | zero =>
    intro  v H locs ls h hH hl
    cases h
  | succ n ih =>
    intro  v H locs ls h hH hl
    rw [f_M_ordered_11] at h
    refine lv_aload_n hx hb d_M_ordered_11 rfl (lv_at hl 0 rfl) ?_
    refine mo_g_depth C0 hH d_M_ordered_12 ?_
    refine lv_if_le (tgt := 105) hx hb d_M_ordered_15 (by decide) (fun c_1 => ?_) (fun c_1 => ?_)
    · rw [if_pos c_1] at h
      refine lv_iconst (v := 0) hx hb d_M_ordered_105 (by decide) ?_
      exact mo_iret C0 hr hH d_M_ordered_106 h
    · rw [if_neg c_1] at h
      refine lv_aload_n hx hb d_M_ordered_18 rfl (lv_at hl 0 rfl) ?_
      refine lv_dup hx hb d_M_ordered_19 rfl ?_
      refine mo_g_depth C0 hH d_M_ordered_20 ?_
      refine lv_iconst (v := 1) hx hb d_M_ordered_23 (by decide) ?_
      refine lv_isub hx hb d_M_ordered_24 ?_
      obtain ⟨v_2, hv_2, h⟩ := nm_out h
      refine mo_p_depth C0 hH d_M_ordered_25 (fun H locs hH => ?_)
      rw [← hv_2] at hH
      refine lv_aload_n hx hb d_M_ordered_28 rfl (lv_at hl 0 rfl) ?_
      refine mo_r_stack C0 hH d_M_ordered_29 ?_
      refine lv_aload_n hx hb d_M_ordered_32 rfl (lv_at hl 0 rfl) ?_
      refine mo_g_depth C0 hH d_M_ordered_33 ?_
      obtain ⟨g_3, h⟩ := gd_out h
      refine mo_ld 12 (by decide) (by decide) C0 hH (inB_in g_3) d_M_ordered_36 ?_
      obtain ⟨x3_4, hx3_4, h⟩ := nm_out h
      refine fu_i hx3_4 ?_
      refine lv_istore_n (lv' := [(3, .int x3_4), (0, .ref (q 0))]) hx hb d_M_ordered_37 rfl hl (by decide) rfl (fun ls hl => ?_)
      refine lv_aload_n hx hb d_M_ordered_38 rfl (lv_at hl 1 rfl) ?_
      refine mo_r_other C0 hH d_M_ordered_39 ?_
      refine lv_aload_n hx hb d_M_ordered_42 rfl (lv_at hl 1 rfl) ?_
      refine mo_g_depth C0 hH d_M_ordered_43 ?_
      obtain ⟨g_5, h⟩ := gd_out h
      refine mo_ld 13 (by decide) (by decide) C0 hH (inB_in g_5) d_M_ordered_46 ?_
      obtain ⟨x4_6, hx4_6, h⟩ := nm_out h
      refine fu_i hx4_6 ?_
      refine lv_istore (lv' := [(4, .int x4_6), (3, .int x3_4), (0, .ref (q 0))]) hx hb d_M_ordered_47 hl (by decide) rfl (fun ls hl => ?_)
      refine lv_iload_n hx hb d_M_ordered_49 rfl (lv_at hl 1 rfl) ?_
      refine lv_if_ne (tgt := 58) hx hb d_M_ordered_50 (by decide) (fun c_7 => ?_) (fun c_7 => ?_)
      · rw [if_neg c_7] at h
        refine lv_aload_n hx hb d_M_ordered_58 rfl (lv_at hl 2 rfl) ?_
        refine lv_iload_n hx hb d_M_ordered_59 rfl (lv_at hl 1 rfl) ?_
        obtain ⟨r_10, v_8, hc_9, h⟩ := bi_out h
        refine mo_ci (r := r_10) (w := v_8) (as := [.int x3_4]) (rest := []) C0 hH (c_M_kindOf hc_9) yy_M_kindOf q_1107 q_109 (by decide) rfl hl.1 rfl (Nat.le_of_ble_eq_true rfl) ⟨Nat.zero_le _, Nat.zero_le _⟩ d_M_ordered_60 (fun H locs hH => ?_)
        refine lv_aload_n hx hb d_M_ordered_63 rfl (lv_at hl 2 rfl) ?_
        refine lv_iload hx hb d_M_ordered_64 (lv_at hl 0 rfl) ?_
        obtain ⟨r_13, v_11, hc_12, h⟩ := bi_out h
        refine mo_ci (r := r_13) (w := v_11) (as := [.int x4_6]) (rest := [.int r_10]) C0 hH (c_M_kindOf hc_12) yy_M_kindOf q_1107 q_109 (by decide) rfl hl.1 rfl (Nat.le_of_ble_eq_true rfl) ⟨Nat.zero_le _, Nat.zero_le _⟩ d_M_ordered_66 (fun H locs hH => ?_)
        refine lv_isub hx hb d_M_ordered_69 ?_
        refine lv_i2l hx hb d_M_ordered_70 rfl ?_
        obtain ⟨r_16, v_14, hc_15, h⟩ := bi_out h
        refine mo_si (r := r_16) (w := v_14) (as := [.long ((r_10 - r_13 : Int32).toInt64)]) (rest := []) C0 hH (c_M_sign hc_15) yy_M_sign q_1139 q_109 (by decide) rfl hl.1 rfl (Nat.le_of_ble_eq_true rfl) ⟨Nat.zero_le _, Nat.zero_le _⟩ d_M_ordered_71 (fun H locs hH => ?_)
        exact w_M_ordered_74 C0 hr ih _ _ _ _ _ _ _ h hH (lv_sub hl [2, 1, 0] rfl)
      · rw [if_pos c_7] at h
        refine lv_iload hx hb d_M_ordered_53 (lv_at hl 0 rfl) ?_
        refine lv_goto (tgt := 74) hx hb d_M_ordered_55 (by decide) ?_
        exact w_M_ordered_74 C0 hr ih _ _ _ _ _ _ _ h hH (lv_sub hl [2, 1, 0] rfl)
def f_M_ordered (v : mS) (x1 : Int32) (x2 : Int32) : Option (Int32 × mS) := nm (sU v 0 18 0) fun v_1 => bv (f_M_pair v_1 x1 x2) fun v_2 => f_M_ordered_11 fu v_2
set_option maxHeartbeats 4000000 in
set_option maxRecDepth 100000 in
theorem c_M_ordered {l : Launch} {D : va_G} {cI : ClassId} {q : Nat → Nat} {v : mS} {x1 : Int32} {x2 : Int32} {o : Int32 × mS} (h : f_M_ordered v x1 x2 = some o) : mo_M l D cI q 3 y_M_ordered b_M_ordered 6 (some .int) [.ref (q 0), .int x1, .int x2] v (mo_Qi D cI q o.1 o.2) := by
  refine mo_of (by decide +kernel) rfl (Nat.le_of_ble_eq_true rfl) ?_
  intro p e s m below meth c A ls C0 hr hl hH
  have hx := C0.1
  have hb := C0.2.1
  have hl : lv_has ls 6 [(0, .ref (q 0)), (1, .int x1), (2, .int x2)] := hl
  unfold f_M_ordered at h
  refine lv_aload_n hx hb d_M_ordered_0 rfl (lv_at hl 0 rfl) ?_
  refine lv_iconst (v := 0) hx hb d_M_ordered_1 (by decide) ?_
  obtain ⟨v_1, hv_1, h⟩ := nm_out h
  refine mo_p_depth C0 hH d_M_ordered_2 (fun H locs hH => ?_)
  rw [← hv_1] at hH
  refine lv_aload_n hx hb d_M_ordered_5 rfl (lv_at hl 0 rfl) ?_
  refine lv_iload_n hx hb d_M_ordered_6 rfl (lv_at hl 1 rfl) ?_
  refine lv_iload_n hx hb d_M_ordered_7 rfl (lv_at hl 2 rfl) ?_
  obtain ⟨v_2, hc_3, h⟩ := bv_out h
  refine mo_cv (w := v_2) (as := [.int x1, .int x2]) (rest := []) C0 hH (c_M_pair hc_3) yy_M_pair q_1087 q_109 (by decide) rfl hl.1 rfl (Nat.le_of_ble_eq_true rfl) ⟨Nat.zero_le _, Nat.zero_le _⟩ d_M_ordered_8 (fun H locs hH => ?_)
  exact w_M_ordered_11 C0 hr  fu _ _ _ _ h hH (lv_sub hl [0] rfl)
theorem yy_M_alike : mo_Y y_M_alike b_M_alike 3 (some .boolean) 2 := ⟨rfl, q_1313, q_96, q_1314, by decide +kernel⟩
def f_M_alike_14  (y0 : Int32) (v : mS) : Option (Int32 × mS) := gd (decide (y0 = 0 ∨ y0 = 1)) (some (y0, v))
set_option maxHeartbeats 4000000 in
set_option maxRecDepth 100000 in
theorem w_M_alike_14 {p : Program} {l : Launch} {e : Env} {s : State} {m : MethodId} {args : Array Value} {below : List Frame} {meth : Method} {c : Code} {D : va_G} {cI : ClassId} {A : Nat → Prop} {q : Nat → Nat} {o : Int32 × mS} (C0 : mo_C b_M_alike 3 D cI A p s m args meth c) (hr : meth.sig.returnType = (some .boolean)) : ∀ (y0 : Int32) (v : mS) (H : Heap) (locs : List Loc) (ls : Array Slot), f_M_alike_14  y0 v = some o → mo_H D cI A s q v H locs → lv_has ls 3 [] → W p l e (mo_rm 4) s m args below meth c H locs 0 0 (MQ below (mo_Qi D cI q o.1 o.2 A) args s 0 0 A) (F0 m 14 ls [.int y0]) := by
  have hx := C0.1
  have hb := C0.2.1
  intro y0 v H locs ls h hH hl
  unfold f_M_alike_14 at h
  obtain ⟨g_1, h⟩ := gd_out h
  exact mo_zret (z01 g_1) C0 hr hH d_M_alike_14 h
def f_M_alike (v : mS) (x1 : Int32) (x2 : Int32) : Option (Int32 × mS) := bi (f_M_ordered v x1 x2) fun r_3 v_1 => if r_3 = 0 then (f_M_alike_14 1 v_1) else (f_M_alike_14 0 v_1)
set_option maxHeartbeats 4000000 in
set_option maxRecDepth 100000 in
theorem c_M_alike {l : Launch} {D : va_G} {cI : ClassId} {q : Nat → Nat} {v : mS} {x1 : Int32} {x2 : Int32} {o : Int32 × mS} (h : f_M_alike v x1 x2 = some o) : mo_M l D cI q 4 y_M_alike b_M_alike 3 (some .boolean) [.ref (q 0), .int x1, .int x2] v (mo_Qi D cI q o.1 o.2) := by
  refine mo_of (by decide +kernel) rfl (Nat.le_of_ble_eq_true rfl) ?_
  intro p e s m below meth c A ls C0 hr hl hH
  have hx := C0.1
  have hb := C0.2.1
  have hl : lv_has ls 3 [(0, .ref (q 0)), (1, .int x1), (2, .int x2)] := hl
  unfold f_M_alike at h
  refine lv_aload_n hx hb d_M_alike_0 rfl (lv_at hl 0 rfl) ?_
  refine lv_iload_n hx hb d_M_alike_1 rfl (lv_at hl 1 rfl) ?_
  refine lv_iload_n hx hb d_M_alike_2 rfl (lv_at hl 2 rfl) ?_
  obtain ⟨r_3, v_1, hc_2, h⟩ := bi_out h
  refine mo_ci (r := r_3) (w := v_1) (as := [.int x1, .int x2]) (rest := []) C0 hH (c_M_ordered hc_2) yy_M_ordered q_1208 q_109 (by decide) rfl hl.1 rfl (Nat.le_of_ble_eq_true rfl) ⟨Nat.zero_le _, Nat.zero_le _⟩ d_M_alike_3 (fun H locs hH => ?_)
  refine lv_if_ne (tgt := 13) hx hb d_M_alike_6 (by decide) (fun c_4 => ?_) (fun c_4 => ?_)
  · rw [if_neg c_4] at h
    refine lv_iconst (v := 0) hx hb d_M_alike_13 (by decide) ?_
    exact w_M_alike_14 C0 hr  _ _ _ _ _ h hH (lv_sub hl [] rfl)
  · rw [if_pos c_4] at h
    refine lv_iconst (v := 1) hx hb d_M_alike_9 (by decide) ?_
    refine lv_goto (tgt := 14) hx hb d_M_alike_10 (by decide) ?_
    exact w_M_alike_14 C0 hr  _ _ _ _ _ h hH (lv_sub hl [] rfl)
theorem yy_M_member : mo_Y y_M_member b_M_member 4 (some .int) 2 := ⟨rfl, q_1125, q_52, q_1126, by decide +kernel⟩
def f_M_member_2  : Nat → Int32 → Int32 → Int32 → mS → Option (Int32 × mS)
  | 0, _, _, _, _ => none
  | n + 1, x1, x2, x3, v => bi (f_M_size v x1) fun r_3 v_1 => if r_3 ≤ x3 then (some ((-1), v_1)) else (bi (f_M_name v_1 x1 x3) fun r_7 v_5 => bi (f_M_textOrder v_5 r_7 x2) fun r_10 v_8 => if r_10 = 0 then (some (x3, v_8)) else (nm (x3 + 1) fun x3_12 => f_M_member_2 n x1 x2 x3_12 v_8))
set_option maxHeartbeats 4000000 in
set_option maxRecDepth 100000 in
theorem w_M_member_2 {p : Program} {l : Launch} {e : Env} {s : State} {m : MethodId} {args : Array Value} {below : List Frame} {meth : Method} {c : Code} {D : va_G} {cI : ClassId} {A : Nat → Prop} {q : Nat → Nat} {o : Int32 × mS} (C0 : mo_C b_M_member 4 D cI A p s m args meth c) (hr : meth.sig.returnType = (some .int)) : ∀ (n : Nat) (x1 : Int32) (x2 : Int32) (x3 : Int32) (v : mS) (H : Heap) (locs : List Loc) (ls : Array Slot), f_M_member_2  n x1 x2 x3 v = some o → mo_H D cI A s q v H locs → lv_has ls 4 [(0, .ref (q 0)), (1, .int x1), (2, .int x2), (3, .int x3)] → W p l e (mo_rm 2) s m args below meth c H locs 0 0 (MQ below (mo_Qi D cI q o.1 o.2 A) args s 0 0 A) (F0 m 2 ls []) := by
  have hx := C0.1
  have hb := C0.2.1
  intro n
  induction n with
  | zero =>
    intro x1 x2 x3 v H locs ls h hH hl
    cases h
  | succ n ih =>
    intro x1 x2 x3 v H locs ls h hH hl
    rw [f_M_member_2] at h
    refine lv_iload_n hx hb d_M_member_2 rfl (lv_at hl 3 rfl) ?_
    refine lv_aload_n hx hb d_M_member_3 rfl (lv_at hl 0 rfl) ?_
    refine lv_iload_n hx hb d_M_member_4 rfl (lv_at hl 1 rfl) ?_
    obtain ⟨r_3, v_1, hc_2, h⟩ := bi_out h
    refine mo_ci (r := r_3) (w := v_1) (as := [.int x1]) (rest := [.int x3]) C0 hH (c_M_size hc_2) yy_M_size q_1127 q_109 (by decide) rfl hl.1 rfl (Nat.le_of_ble_eq_true rfl) ⟨Nat.zero_le _, Nat.zero_le _⟩ d_M_member_5 (fun H locs hH => ?_)
    refine lv_icmp_ge (tgt := 33) hx hb d_M_member_8 (by decide) (fun c_4 => ?_) (fun c_4 => ?_)
    · rw [if_pos c_4] at h
      refine lv_iconst (v := (-1)) hx hb d_M_member_33 (by decide) ?_
      exact mo_iret C0 hr hH d_M_member_34 h
    · rw [if_neg c_4] at h
      refine lv_aload_n hx hb d_M_member_11 rfl (lv_at hl 0 rfl) ?_
      refine lv_aload_n hx hb d_M_member_12 rfl (lv_at hl 0 rfl) ?_
      refine lv_iload_n hx hb d_M_member_13 rfl (lv_at hl 1 rfl) ?_
      refine lv_iload_n hx hb d_M_member_14 rfl (lv_at hl 3 rfl) ?_
      obtain ⟨r_7, v_5, hc_6, h⟩ := bi_out h
      refine mo_ci (r := r_7) (w := v_5) (as := [.int x1, .int x3]) (rest := [.ref (q 0)]) C0 hH (c_M_name hc_6) yy_M_name q_1131 q_109 (by decide) rfl hl.1 rfl (Nat.le_of_ble_eq_true rfl) ⟨Nat.zero_le _, Nat.zero_le _⟩ d_M_member_15 (fun H locs hH => ?_)
      refine lv_iload_n hx hb d_M_member_18 rfl (lv_at hl 2 rfl) ?_
      obtain ⟨r_10, v_8, hc_9, h⟩ := bi_out h
      refine mo_ci (r := r_10) (w := v_8) (as := [.int r_7, .int x2]) (rest := []) C0 hH (c_M_textOrder hc_9) yy_M_textOrder q_1135 q_109 (by decide) rfl hl.1 rfl (Nat.le_of_ble_eq_true rfl) ⟨Nat.zero_le _, Nat.zero_le _⟩ d_M_member_19 (fun H locs hH => ?_)
      refine lv_if_ne (tgt := 27) hx hb d_M_member_22 (by decide) (fun c_11 => ?_) (fun c_11 => ?_)
      · rw [if_neg c_11] at h
        obtain ⟨x3_12, hx3_12, h⟩ := nm_out h
        refine lv_iinc (v := x3_12) (lv' := [(3, .int x3_12), (0, .ref (q 0)), (1, .int x1), (2, .int x2)]) hx hb d_M_member_27 hl (k := 3) rfl (by rw [hx3_12]; rfl) (by decide) rfl (fun ls hl => ?_)
        refine lv_goto (tgt := 2) hx hb d_M_member_30 (by decide) ?_
        exact ih _ _ _ _ _ _ _ h hH (lv_sub hl [1, 2, 3, 0] rfl)
      · rw [if_pos c_11] at h
        refine lv_iload_n hx hb d_M_member_25 rfl (lv_at hl 3 rfl) ?_
        exact mo_iret C0 hr hH d_M_member_26 h
def f_M_member (v : mS) (x1 : Int32) (x2 : Int32) : Option (Int32 × mS) := f_M_member_2 fu x1 x2 0 v
set_option maxHeartbeats 4000000 in
set_option maxRecDepth 100000 in
theorem c_M_member {l : Launch} {D : va_G} {cI : ClassId} {q : Nat → Nat} {v : mS} {x1 : Int32} {x2 : Int32} {o : Int32 × mS} (h : f_M_member v x1 x2 = some o) : mo_M l D cI q 2 y_M_member b_M_member 4 (some .int) [.ref (q 0), .int x1, .int x2] v (mo_Qi D cI q o.1 o.2) := by
  refine mo_of (by decide +kernel) rfl (Nat.le_of_ble_eq_true rfl) ?_
  intro p e s m below meth c A ls C0 hr hl hH
  have hx := C0.1
  have hb := C0.2.1
  have hl : lv_has ls 4 [(0, .ref (q 0)), (1, .int x1), (2, .int x2)] := hl
  unfold f_M_member at h
  refine lv_iconst (v := 0) hx hb d_M_member_0 (by decide) ?_
  refine lv_istore_n (lv' := [(3, .int 0), (0, .ref (q 0)), (1, .int x1), (2, .int x2)]) hx hb d_M_member_1 rfl hl (by decide) rfl (fun ls hl => ?_)
  exact w_M_member_2 C0 hr  fu _ _ _ _ _ _ _ h hH (lv_sub hl [1, 2, 3, 0] rfl)
theorem yy_M_letter : mo_Y y_M_letter b_M_letter 3 (some .int) 2 := ⟨rfl, q_1047, q_1048, q_1049, by decide +kernel⟩
def f_M_letter_26   (v : mS) : Option (Int32 × mS) := bi (f_M_fail v 1) fun r_3 v_1 => some (r_3, v_1)
set_option maxHeartbeats 4000000 in
set_option maxRecDepth 100000 in
theorem w_M_letter_26 {p : Program} {l : Launch} {e : Env} {s : State} {m : MethodId} {args : Array Value} {below : List Frame} {meth : Method} {c : Code} {D : va_G} {cI : ClassId} {A : Nat → Prop} {q : Nat → Nat} {o : Int32 × mS} (C0 : mo_C b_M_letter 3 D cI A p s m args meth c) (hr : meth.sig.returnType = (some .int)) : ∀  (v : mS) (H : Heap) (locs : List Loc) (ls : Array Slot), f_M_letter_26   v = some o → mo_H D cI A s q v H locs → lv_has ls 3 [(0, .ref (q 0))] → W p l e (mo_rm 1) s m args below meth c H locs 0 0 (MQ below (mo_Qi D cI q o.1 o.2 A) args s 0 0 A) (F0 m 26 ls []) := by
  have hx := C0.1
  have hb := C0.2.1
  intro  v H locs ls h hH hl
  unfold f_M_letter_26 at h
  refine lv_aload_n hx hb d_M_letter_26 rfl (lv_at hl 0 rfl) ?_
  refine lv_iconst (v := 1) hx hb d_M_letter_27 (by decide) ?_
  obtain ⟨r_3, v_1, hc_2, h⟩ := bi_out h
  refine mo_ci (r := r_3) (w := v_1) (as := [.int 1]) (rest := []) C0 hH (c_M_fail hc_2) yy_M_fail q_1053 q_109 (by decide) rfl hl.1 rfl (Nat.le_of_ble_eq_true rfl) ⟨Nat.zero_le _, Nat.zero_le _⟩ d_M_letter_28 (fun H locs hH => ?_)
  exact mo_iret C0 hr hH d_M_letter_31 h
def f_M_letter (v : mS) (x1 : Int32) (x2 : Int32) : Option (Int32 × mS) := nm (sU v 0 0 0) fun v_1 => bi (f_M_within v_1 x1 0 7) fun r_4 v_2 => if r_4 = 0 then (f_M_letter_26 v_2) else (bi (f_M_within v_2 x2 32 126) fun r_8 v_6 => if r_8 = 0 then (f_M_letter_26 v_6) else (gd (inB x1 8) (if (v_6 2 (x1 : Int32).toNatClampNeg) = 12 then (bi (f_M_fail v_6 4) fun r_21 v_19 => some (r_21, v_19)) else (gd (inB x1 8) (gd (inB ((12 * x1) + (v_6 2 (x1 : Int32).toNatClampNeg)) 96) (nm (sU v_6 1 ((12 * x1) + (v_6 2 (x1 : Int32).toNatClampNeg) : Int32).toNatClampNeg x2) fun v_14 => gd (inB x1 8) (gd (inB x1 8) (nm (sU v_14 2 (x1 : Int32).toNatClampNeg ((v_14 2 (x1 : Int32).toNatClampNeg) + 1)) fun v_17 => gd (inB x1 8) (some (v_17 2 (x1 : Int32).toNatClampNeg, v_17))))))))))
set_option maxHeartbeats 4000000 in
set_option maxRecDepth 100000 in
theorem c_M_letter {l : Launch} {D : va_G} {cI : ClassId} {q : Nat → Nat} {v : mS} {x1 : Int32} {x2 : Int32} {o : Int32 × mS} (h : f_M_letter v x1 x2 = some o) : mo_M l D cI q 1 y_M_letter b_M_letter 3 (some .int) [.ref (q 0), .int x1, .int x2] v (mo_Qi D cI q o.1 o.2) := by
  refine mo_of (by decide +kernel) rfl (Nat.le_of_ble_eq_true rfl) ?_
  intro p e s m below meth c A ls C0 hr hl hH
  have hx := C0.1
  have hb := C0.2.1
  have hl : lv_has ls 3 [(0, .ref (q 0)), (1, .int x1), (2, .int x2)] := hl
  unfold f_M_letter at h
  refine lv_aload_n hx hb d_M_letter_0 rfl (lv_at hl 0 rfl) ?_
  refine lv_iconst (v := 0) hx hb d_M_letter_1 (by decide) ?_
  obtain ⟨v_1, hv_1, h⟩ := nm_out h
  refine mo_p_code C0 hH d_M_letter_2 (fun H locs hH => ?_)
  rw [← hv_1] at hH
  refine lv_iload_n hx hb d_M_letter_5 rfl (lv_at hl 1 rfl) ?_
  refine lv_iconst (v := 0) hx hb d_M_letter_6 (by decide) ?_
  refine lv_bipush (v := 7) hx hb d_M_letter_7 (by decide) ?_
  obtain ⟨r_4, v_2, hc_3, h⟩ := bi_out h
  refine mo_si (r := r_4) (w := v_2) (as := [.int x1, .int 0, .int 7]) (rest := []) C0 hH (c_M_within hc_3) yy_M_within q_1050 q_109 (by decide) rfl hl.1 rfl (Nat.le_of_ble_eq_true rfl) ⟨Nat.zero_le _, Nat.zero_le _⟩ d_M_letter_9 (fun H locs hH => ?_)
  refine lv_if_eq (tgt := 26) hx hb d_M_letter_12 (by decide) (fun c_5 => ?_) (fun c_5 => ?_)
  · rw [if_pos c_5] at h
    exact w_M_letter_26 C0 hr   _ _ _ _ h hH (lv_sub hl [0] rfl)
  · rw [if_neg c_5] at h
    refine lv_iload_n hx hb d_M_letter_15 rfl (lv_at hl 2 rfl) ?_
    refine lv_bipush (v := 32) hx hb d_M_letter_16 (by decide) ?_
    refine lv_bipush (v := 126) hx hb d_M_letter_18 (by decide) ?_
    obtain ⟨r_8, v_6, hc_7, h⟩ := bi_out h
    refine mo_si (r := r_8) (w := v_6) (as := [.int x2, .int 32, .int 126]) (rest := []) C0 hH (c_M_within hc_7) yy_M_within q_1050 q_109 (by decide) rfl hl.1 rfl (Nat.le_of_ble_eq_true rfl) ⟨Nat.zero_le _, Nat.zero_le _⟩ d_M_letter_20 (fun H locs hH => ?_)
    refine lv_if_ne (tgt := 32) hx hb d_M_letter_23 (by decide) (fun c_9 => ?_) (fun c_9 => ?_)
    · rw [if_neg c_9] at h
      refine lv_aload_n hx hb d_M_letter_32 rfl (lv_at hl 0 rfl) ?_
      refine mo_r_textSize C0 hH d_M_letter_33 ?_
      refine lv_iload_n hx hb d_M_letter_36 rfl (lv_at hl 1 rfl) ?_
      obtain ⟨g_10, h⟩ := gd_out h
      refine mo_ld 2 (by decide) (by decide) C0 hH (inB_in g_10) d_M_letter_37 ?_
      refine lv_bipush (v := 12) hx hb d_M_letter_38 (by decide) ?_
      refine lv_icmp_ne (tgt := 49) hx hb d_M_letter_40 (by decide) (fun c_11 => ?_) (fun c_11 => ?_)
      · rw [if_neg c_11] at h
        refine lv_aload_n hx hb d_M_letter_49 rfl (lv_at hl 0 rfl) ?_
        refine mo_r_text C0 hH d_M_letter_50 ?_
        refine lv_bipush (v := 12) hx hb d_M_letter_53 (by decide) ?_
        refine lv_iload_n hx hb d_M_letter_55 rfl (lv_at hl 1 rfl) ?_
        refine lv_imul hx hb d_M_letter_56 ?_
        refine lv_aload_n hx hb d_M_letter_57 rfl (lv_at hl 0 rfl) ?_
        refine mo_r_textSize C0 hH d_M_letter_58 ?_
        refine lv_iload_n hx hb d_M_letter_61 rfl (lv_at hl 1 rfl) ?_
        obtain ⟨g_12, h⟩ := gd_out h
        refine mo_ld 2 (by decide) (by decide) C0 hH (inB_in g_12) d_M_letter_62 ?_
        refine lv_iadd hx hb d_M_letter_63 ?_
        refine lv_iload_n hx hb d_M_letter_64 rfl (lv_at hl 2 rfl) ?_
        obtain ⟨g_13, h⟩ := gd_out h
        obtain ⟨v_14, hv_14, h⟩ := nm_out h
        refine mo_st 1 (by decide) (by decide) C0 hH (inB_in g_13) d_M_letter_65 (fun H locs hH => ?_)
        rw [← hv_14] at hH
        refine lv_aload_n hx hb d_M_letter_66 rfl (lv_at hl 0 rfl) ?_
        refine mo_r_textSize C0 hH d_M_letter_67 ?_
        refine lv_iload_n hx hb d_M_letter_70 rfl (lv_at hl 1 rfl) ?_
        refine lv_dup2_11 hx hb d_M_letter_71 rfl rfl ?_
        obtain ⟨g_15, h⟩ := gd_out h
        refine mo_ld 2 (by decide) (by decide) C0 hH (inB_in g_15) d_M_letter_72 ?_
        refine lv_iconst (v := 1) hx hb d_M_letter_73 (by decide) ?_
        refine lv_iadd hx hb d_M_letter_74 ?_
        obtain ⟨g_16, h⟩ := gd_out h
        obtain ⟨v_17, hv_17, h⟩ := nm_out h
        refine mo_st 2 (by decide) (by decide) C0 hH (inB_in g_16) d_M_letter_75 (fun H locs hH => ?_)
        rw [← hv_17] at hH
        refine lv_aload_n hx hb d_M_letter_76 rfl (lv_at hl 0 rfl) ?_
        refine mo_r_textSize C0 hH d_M_letter_77 ?_
        refine lv_iload_n hx hb d_M_letter_80 rfl (lv_at hl 1 rfl) ?_
        obtain ⟨g_18, h⟩ := gd_out h
        refine mo_ld 2 (by decide) (by decide) C0 hH (inB_in g_18) d_M_letter_81 ?_
        exact mo_iret C0 hr hH d_M_letter_82 h
      · rw [if_pos c_11] at h
        refine lv_aload_n hx hb d_M_letter_43 rfl (lv_at hl 0 rfl) ?_
        refine lv_iconst (v := 4) hx hb d_M_letter_44 (by decide) ?_
        obtain ⟨r_21, v_19, hc_20, h⟩ := bi_out h
        refine mo_ci (r := r_21) (w := v_19) (as := [.int 4]) (rest := []) C0 hH (c_M_fail hc_20) yy_M_fail q_1053 q_109 (by decide) rfl hl.1 rfl (Nat.le_of_ble_eq_true rfl) ⟨Nat.zero_le _, Nat.zero_le _⟩ d_M_letter_45 (fun H locs hH => ?_)
        exact mo_iret C0 hr hH d_M_letter_48 h
    · rw [if_pos c_9] at h
      exact w_M_letter_26 C0 hr   _ _ _ _ h hH (lv_sub hl [0] rfl)
theorem yy_M_most : mo_YS y_M_most b_M_most 1 (some .int) 1 := ⟨rfl, q_1062, q_1063, by decide +kernel⟩
def f_M_most_140   (v : mS) : Option (Int32 × mS) := some (7, v)
set_option maxHeartbeats 4000000 in
set_option maxRecDepth 100000 in
theorem w_M_most_140 {p : Program} {l : Launch} {e : Env} {s : State} {m : MethodId} {args : Array Value} {below : List Frame} {meth : Method} {c : Code} {D : va_G} {cI : ClassId} {A : Nat → Prop} {q : Nat → Nat} {o : Int32 × mS} (C0 : mo_C b_M_most 1 D cI A p s m args meth c) (hr : meth.sig.returnType = (some .int)) : ∀  (v : mS) (H : Heap) (locs : List Loc) (ls : Array Slot), f_M_most_140   v = some o → mo_H D cI A s q v H locs → lv_has ls 1 [] → W p l e (mo_rm 0) s m args below meth c H locs 0 0 (MQ below (mo_Qi D cI q o.1 o.2 A) args s 0 0 A) (F0 m 140 ls []) := by
  have hx := C0.1
  have hb := C0.2.1
  intro  v H locs ls h hH hl
  unfold f_M_most_140 at h
  refine lv_bipush (v := 7) hx hb d_M_most_140 (by decide) ?_
  exact mo_iret C0 hr hH d_M_most_142 h
def f_M_most_143   (v : mS) : Option (Int32 × mS) := some (3, v)
set_option maxHeartbeats 4000000 in
set_option maxRecDepth 100000 in
theorem w_M_most_143 {p : Program} {l : Launch} {e : Env} {s : State} {m : MethodId} {args : Array Value} {below : List Frame} {meth : Method} {c : Code} {D : va_G} {cI : ClassId} {A : Nat → Prop} {q : Nat → Nat} {o : Int32 × mS} (C0 : mo_C b_M_most 1 D cI A p s m args meth c) (hr : meth.sig.returnType = (some .int)) : ∀  (v : mS) (H : Heap) (locs : List Loc) (ls : Array Slot), f_M_most_143   v = some o → mo_H D cI A s q v H locs → lv_has ls 1 [] → W p l e (mo_rm 0) s m args below meth c H locs 0 0 (MQ below (mo_Qi D cI q o.1 o.2 A) args s 0 0 A) (F0 m 143 ls []) := by
  have hx := C0.1
  have hb := C0.2.1
  intro  v H locs ls h hH hl
  unfold f_M_most_143 at h
  refine lv_iconst (v := 3) hx hb d_M_most_143 (by decide) ?_
  exact mo_iret C0 hr hH d_M_most_144 h
def f_M_most_152   (v : mS) : Option (Int32 × mS) := some ((-1), v)
set_option maxHeartbeats 4000000 in
set_option maxRecDepth 100000 in
theorem w_M_most_152 {p : Program} {l : Launch} {e : Env} {s : State} {m : MethodId} {args : Array Value} {below : List Frame} {meth : Method} {c : Code} {D : va_G} {cI : ClassId} {A : Nat → Prop} {q : Nat → Nat} {o : Int32 × mS} (C0 : mo_C b_M_most 1 D cI A p s m args meth c) (hr : meth.sig.returnType = (some .int)) : ∀  (v : mS) (H : Heap) (locs : List Loc) (ls : Array Slot), f_M_most_152   v = some o → mo_H D cI A s q v H locs → lv_has ls 1 [] → W p l e (mo_rm 0) s m args below meth c H locs 0 0 (MQ below (mo_Qi D cI q o.1 o.2 A) args s 0 0 A) (F0 m 152 ls []) := by
  have hx := C0.1
  have hb := C0.2.1
  intro  v H locs ls h hH hl
  unfold f_M_most_152 at h
  refine lv_iconst (v := (-1)) hx hb d_M_most_152 (by decide) ?_
  exact mo_iret C0 hr hH d_M_most_153 h
def f_M_most (v : mS) (x0 : Int32) : Option (Int32 × mS) := if x0 = 1 then (f_M_most_140 v) else if x0 = 2 then (f_M_most_152 v) else if x0 = 3 then (f_M_most_152 v) else if x0 = 4 then (f_M_most_152 v) else if x0 = 5 then (f_M_most_152 v) else if x0 = 6 then (f_M_most_152 v) else if x0 = 7 then (f_M_most_140 v) else if x0 = 8 then (some (2, v)) else if x0 = 9 then (f_M_most_152 v) else if x0 = 10 then (f_M_most_152 v) else if x0 = 11 then (f_M_most_140 v) else if x0 = 12 then (f_M_most_143 v) else if x0 = 13 then (some (5, v)) else if x0 = 14 then (f_M_most_152 v) else if x0 = 15 then (f_M_most_152 v) else if x0 = 16 then (f_M_most_152 v) else if x0 = 17 then (f_M_most_152 v) else if x0 = 18 then (f_M_most_152 v) else if x0 = 19 then (f_M_most_152 v) else if x0 = 20 then (f_M_most_143 v) else if x0 = 21 then (f_M_most_143 v) else if x0 = 22 then (f_M_most_143 v) else if x0 = 23 then (f_M_most_152 v) else if x0 = 24 then (f_M_most_152 v) else if x0 = 25 then (f_M_most_152 v) else if x0 = 26 then (f_M_most_152 v) else if x0 = 27 then (f_M_most_152 v) else if x0 = 28 then (f_M_most_152 v) else if x0 = 29 then (f_M_most_152 v) else if x0 = 30 then (f_M_most_152 v) else if x0 = 31 then (some (9, v)) else (f_M_most_152 v)
set_option maxHeartbeats 4000000 in
set_option maxRecDepth 100000 in
theorem c_M_most {l : Launch} {D : va_G} {cI : ClassId} {q : Nat → Nat} {v : mS} {x0 : Int32} {o : Int32 × mS} (h : f_M_most v x0 = some o) : mo_M l D cI q 0 y_M_most b_M_most 1 (some .int) [.int x0] v (mo_Qi D cI q o.1 o.2) := by
  refine mo_of (by decide +kernel) rfl (Nat.le_of_ble_eq_true rfl) ?_
  intro p e s m below meth c A ls C0 hr hl hH
  have hx := C0.1
  have hb := C0.2.1
  have hl : lv_has ls 1 [(0, .int x0)] := hl
  unfold f_M_most at h
  refine lv_iload_n hx hb d_M_most_0 rfl (lv_at hl 0 rfl) ?_
  by_cases e_1 : x0 = 1
  · rw [if_pos e_1] at h
    refine fu_hit (tgt := 140) 1 e_1 hx hb d_M_most_1 (by decide) (by decide) rfl (by decide) ?_
    exact w_M_most_140 C0 hr   _ _ _ _ h hH (lv_sub hl [] rfl)
  rw [if_neg e_1] at h
  by_cases e_2 : x0 = 2
  · rw [if_pos e_2] at h
    refine fu_hit (tgt := 152) 2 e_2 hx hb d_M_most_1 (by decide) (by decide) rfl (by decide) ?_
    exact w_M_most_152 C0 hr   _ _ _ _ h hH (lv_sub hl [] rfl)
  rw [if_neg e_2] at h
  by_cases e_3 : x0 = 3
  · rw [if_pos e_3] at h
    refine fu_hit (tgt := 152) 3 e_3 hx hb d_M_most_1 (by decide) (by decide) rfl (by decide) ?_
    exact w_M_most_152 C0 hr   _ _ _ _ h hH (lv_sub hl [] rfl)
  rw [if_neg e_3] at h
  by_cases e_4 : x0 = 4
  · rw [if_pos e_4] at h
    refine fu_hit (tgt := 152) 4 e_4 hx hb d_M_most_1 (by decide) (by decide) rfl (by decide) ?_
    exact w_M_most_152 C0 hr   _ _ _ _ h hH (lv_sub hl [] rfl)
  rw [if_neg e_4] at h
  by_cases e_5 : x0 = 5
  · rw [if_pos e_5] at h
    refine fu_hit (tgt := 152) 5 e_5 hx hb d_M_most_1 (by decide) (by decide) rfl (by decide) ?_
    exact w_M_most_152 C0 hr   _ _ _ _ h hH (lv_sub hl [] rfl)
  rw [if_neg e_5] at h
  by_cases e_6 : x0 = 6
  · rw [if_pos e_6] at h
    refine fu_hit (tgt := 152) 6 e_6 hx hb d_M_most_1 (by decide) (by decide) rfl (by decide) ?_
    exact w_M_most_152 C0 hr   _ _ _ _ h hH (lv_sub hl [] rfl)
  rw [if_neg e_6] at h
  by_cases e_7 : x0 = 7
  · rw [if_pos e_7] at h
    refine fu_hit (tgt := 140) 7 e_7 hx hb d_M_most_1 (by decide) (by decide) rfl (by decide) ?_
    exact w_M_most_140 C0 hr   _ _ _ _ h hH (lv_sub hl [] rfl)
  rw [if_neg e_7] at h
  by_cases e_8 : x0 = 8
  · rw [if_pos e_8] at h
    refine fu_hit (tgt := 147) 8 e_8 hx hb d_M_most_1 (by decide) (by decide) rfl (by decide) ?_
    refine lv_iconst (v := 2) hx hb d_M_most_147 (by decide) ?_
    exact mo_iret C0 hr hH d_M_most_148 h
  rw [if_neg e_8] at h
  by_cases e_9 : x0 = 9
  · rw [if_pos e_9] at h
    refine fu_hit (tgt := 152) 9 e_9 hx hb d_M_most_1 (by decide) (by decide) rfl (by decide) ?_
    exact w_M_most_152 C0 hr   _ _ _ _ h hH (lv_sub hl [] rfl)
  rw [if_neg e_9] at h
  by_cases e_10 : x0 = 10
  · rw [if_pos e_10] at h
    refine fu_hit (tgt := 152) 10 e_10 hx hb d_M_most_1 (by decide) (by decide) rfl (by decide) ?_
    exact w_M_most_152 C0 hr   _ _ _ _ h hH (lv_sub hl [] rfl)
  rw [if_neg e_10] at h
  by_cases e_11 : x0 = 11
  · rw [if_pos e_11] at h
    refine fu_hit (tgt := 140) 11 e_11 hx hb d_M_most_1 (by decide) (by decide) rfl (by decide) ?_
    exact w_M_most_140 C0 hr   _ _ _ _ h hH (lv_sub hl [] rfl)
  rw [if_neg e_11] at h
  by_cases e_12 : x0 = 12
  · rw [if_pos e_12] at h
    refine fu_hit (tgt := 143) 12 e_12 hx hb d_M_most_1 (by decide) (by decide) rfl (by decide) ?_
    exact w_M_most_143 C0 hr   _ _ _ _ h hH (lv_sub hl [] rfl)
  rw [if_neg e_12] at h
  by_cases e_13 : x0 = 13
  · rw [if_pos e_13] at h
    refine fu_hit (tgt := 145) 13 e_13 hx hb d_M_most_1 (by decide) (by decide) rfl (by decide) ?_
    refine lv_iconst (v := 5) hx hb d_M_most_145 (by decide) ?_
    exact mo_iret C0 hr hH d_M_most_146 h
  rw [if_neg e_13] at h
  by_cases e_14 : x0 = 14
  · rw [if_pos e_14] at h
    refine fu_hit (tgt := 152) 14 e_14 hx hb d_M_most_1 (by decide) (by decide) rfl (by decide) ?_
    exact w_M_most_152 C0 hr   _ _ _ _ h hH (lv_sub hl [] rfl)
  rw [if_neg e_14] at h
  by_cases e_15 : x0 = 15
  · rw [if_pos e_15] at h
    refine fu_hit (tgt := 152) 15 e_15 hx hb d_M_most_1 (by decide) (by decide) rfl (by decide) ?_
    exact w_M_most_152 C0 hr   _ _ _ _ h hH (lv_sub hl [] rfl)
  rw [if_neg e_15] at h
  by_cases e_16 : x0 = 16
  · rw [if_pos e_16] at h
    refine fu_hit (tgt := 152) 16 e_16 hx hb d_M_most_1 (by decide) (by decide) rfl (by decide) ?_
    exact w_M_most_152 C0 hr   _ _ _ _ h hH (lv_sub hl [] rfl)
  rw [if_neg e_16] at h
  by_cases e_17 : x0 = 17
  · rw [if_pos e_17] at h
    refine fu_hit (tgt := 152) 17 e_17 hx hb d_M_most_1 (by decide) (by decide) rfl (by decide) ?_
    exact w_M_most_152 C0 hr   _ _ _ _ h hH (lv_sub hl [] rfl)
  rw [if_neg e_17] at h
  by_cases e_18 : x0 = 18
  · rw [if_pos e_18] at h
    refine fu_hit (tgt := 152) 18 e_18 hx hb d_M_most_1 (by decide) (by decide) rfl (by decide) ?_
    exact w_M_most_152 C0 hr   _ _ _ _ h hH (lv_sub hl [] rfl)
  rw [if_neg e_18] at h
  by_cases e_19 : x0 = 19
  · rw [if_pos e_19] at h
    refine fu_hit (tgt := 152) 19 e_19 hx hb d_M_most_1 (by decide) (by decide) rfl (by decide) ?_
    exact w_M_most_152 C0 hr   _ _ _ _ h hH (lv_sub hl [] rfl)
  rw [if_neg e_19] at h
  by_cases e_20 : x0 = 20
  · rw [if_pos e_20] at h
    refine fu_hit (tgt := 143) 20 e_20 hx hb d_M_most_1 (by decide) (by decide) rfl (by decide) ?_
    exact w_M_most_143 C0 hr   _ _ _ _ h hH (lv_sub hl [] rfl)
  rw [if_neg e_20] at h
  by_cases e_21 : x0 = 21
  · rw [if_pos e_21] at h
    refine fu_hit (tgt := 143) 21 e_21 hx hb d_M_most_1 (by decide) (by decide) rfl (by decide) ?_
    exact w_M_most_143 C0 hr   _ _ _ _ h hH (lv_sub hl [] rfl)
  rw [if_neg e_21] at h
  by_cases e_22 : x0 = 22
  · rw [if_pos e_22] at h
    refine fu_hit (tgt := 143) 22 e_22 hx hb d_M_most_1 (by decide) (by decide) rfl (by decide) ?_
    exact w_M_most_143 C0 hr   _ _ _ _ h hH (lv_sub hl [] rfl)
  rw [if_neg e_22] at h
  by_cases e_23 : x0 = 23
  · rw [if_pos e_23] at h
    refine fu_hit (tgt := 152) 23 e_23 hx hb d_M_most_1 (by decide) (by decide) rfl (by decide) ?_
    exact w_M_most_152 C0 hr   _ _ _ _ h hH (lv_sub hl [] rfl)
  rw [if_neg e_23] at h
  by_cases e_24 : x0 = 24
  · rw [if_pos e_24] at h
    refine fu_hit (tgt := 152) 24 e_24 hx hb d_M_most_1 (by decide) (by decide) rfl (by decide) ?_
    exact w_M_most_152 C0 hr   _ _ _ _ h hH (lv_sub hl [] rfl)
  rw [if_neg e_24] at h
  by_cases e_25 : x0 = 25
  · rw [if_pos e_25] at h
    refine fu_hit (tgt := 152) 25 e_25 hx hb d_M_most_1 (by decide) (by decide) rfl (by decide) ?_
    exact w_M_most_152 C0 hr   _ _ _ _ h hH (lv_sub hl [] rfl)
  rw [if_neg e_25] at h
  by_cases e_26 : x0 = 26
  · rw [if_pos e_26] at h
    refine fu_hit (tgt := 152) 26 e_26 hx hb d_M_most_1 (by decide) (by decide) rfl (by decide) ?_
    exact w_M_most_152 C0 hr   _ _ _ _ h hH (lv_sub hl [] rfl)
  rw [if_neg e_26] at h
  by_cases e_27 : x0 = 27
  · rw [if_pos e_27] at h
    refine fu_hit (tgt := 152) 27 e_27 hx hb d_M_most_1 (by decide) (by decide) rfl (by decide) ?_
    exact w_M_most_152 C0 hr   _ _ _ _ h hH (lv_sub hl [] rfl)
  rw [if_neg e_27] at h
  by_cases e_28 : x0 = 28
  · rw [if_pos e_28] at h
    refine fu_hit (tgt := 152) 28 e_28 hx hb d_M_most_1 (by decide) (by decide) rfl (by decide) ?_
    exact w_M_most_152 C0 hr   _ _ _ _ h hH (lv_sub hl [] rfl)
  rw [if_neg e_28] at h
  by_cases e_29 : x0 = 29
  · rw [if_pos e_29] at h
    refine fu_hit (tgt := 152) 29 e_29 hx hb d_M_most_1 (by decide) (by decide) rfl (by decide) ?_
    exact w_M_most_152 C0 hr   _ _ _ _ h hH (lv_sub hl [] rfl)
  rw [if_neg e_29] at h
  by_cases e_30 : x0 = 30
  · rw [if_pos e_30] at h
    refine fu_hit (tgt := 152) 30 e_30 hx hb d_M_most_1 (by decide) (by decide) rfl (by decide) ?_
    exact w_M_most_152 C0 hr   _ _ _ _ h hH (lv_sub hl [] rfl)
  rw [if_neg e_30] at h
  by_cases e_31 : x0 = 31
  · rw [if_pos e_31] at h
    refine fu_hit (tgt := 149) 31 e_31 hx hb d_M_most_1 (by decide) (by decide) rfl (by decide) ?_
    refine lv_bipush (v := 9) hx hb d_M_most_149 (by decide) ?_
    exact mo_iret C0 hr hH d_M_most_151 h
  rw [if_neg e_31] at h
  refine lv_tableOut (tgt := 152) hx hb d_M_most_1 (fu_out 31 (by decide) (fun k9 hk9 => match k9, hk9 with | 0, _ => lv_neT e_1 (by decide) | 1, _ => lv_neT e_2 (by decide) | 2, _ => lv_neT e_3 (by decide) | 3, _ => lv_neT e_4 (by decide) | 4, _ => lv_neT e_5 (by decide) | 5, _ => lv_neT e_6 (by decide) | 6, _ => lv_neT e_7 (by decide) | 7, _ => lv_neT e_8 (by decide) | 8, _ => lv_neT e_9 (by decide) | 9, _ => lv_neT e_10 (by decide) | 10, _ => lv_neT e_11 (by decide) | 11, _ => lv_neT e_12 (by decide) | 12, _ => lv_neT e_13 (by decide) | 13, _ => lv_neT e_14 (by decide) | 14, _ => lv_neT e_15 (by decide) | 15, _ => lv_neT e_16 (by decide) | 16, _ => lv_neT e_17 (by decide) | 17, _ => lv_neT e_18 (by decide) | 18, _ => lv_neT e_19 (by decide) | 19, _ => lv_neT e_20 (by decide) | 20, _ => lv_neT e_21 (by decide) | 21, _ => lv_neT e_22 (by decide) | 22, _ => lv_neT e_23 (by decide) | 23, _ => lv_neT e_24 (by decide) | 24, _ => lv_neT e_25 (by decide) | 25, _ => lv_neT e_26 (by decide) | 26, _ => lv_neT e_27 (by decide) | 27, _ => lv_neT e_28 (by decide) | 28, _ => lv_neT e_29 (by decide) | 29, _ => lv_neT e_30 (by decide) | 30, _ => lv_neT e_31 (by decide) | k9 + 31, hk9 => absurd hk9 (by omega))) (by decide) ?_
  exact w_M_most_152 C0 hr   _ _ _ _ h hH (lv_sub hl [] rfl)
theorem yy_M_token : mo_Y y_M_token b_M_token 4 (some .int) 3 := ⟨rfl, q_1058, q_1059, q_1060, by decide +kernel⟩
def f_M_token_43   (v : mS) : Option (Int32 × mS) := bi (f_M_fail v 1) fun r_3 v_1 => some (r_3, v_1)
set_option maxHeartbeats 4000000 in
set_option maxRecDepth 100000 in
theorem w_M_token_43 {p : Program} {l : Launch} {e : Env} {s : State} {m : MethodId} {args : Array Value} {below : List Frame} {meth : Method} {c : Code} {D : va_G} {cI : ClassId} {A : Nat → Prop} {q : Nat → Nat} {o : Int32 × mS} (C0 : mo_C b_M_token 4 D cI A p s m args meth c) (hr : meth.sig.returnType = (some .int)) : ∀  (v : mS) (H : Heap) (locs : List Loc) (ls : Array Slot), f_M_token_43   v = some o → mo_H D cI A s q v H locs → lv_has ls 4 [(0, .ref (q 0))] → W p l e (mo_rm 1) s m args below meth c H locs 0 0 (MQ below (mo_Qi D cI q o.1 o.2 A) args s 0 0 A) (F0 m 43 ls []) := by
  have hx := C0.1
  have hb := C0.2.1
  intro  v H locs ls h hH hl
  unfold f_M_token_43 at h
  refine lv_aload_n hx hb d_M_token_43 rfl (lv_at hl 0 rfl) ?_
  refine lv_iconst (v := 1) hx hb d_M_token_44 (by decide) ?_
  obtain ⟨r_3, v_1, hc_2, h⟩ := bi_out h
  refine mo_ci (r := r_3) (w := v_1) (as := [.int 1]) (rest := []) C0 hH (c_M_fail hc_2) yy_M_fail q_1053 q_109 (by decide) rfl hl.1 rfl (Nat.le_of_ble_eq_true rfl) ⟨Nat.zero_le _, Nat.zero_le _⟩ d_M_token_45 (fun H locs hH => ?_)
  exact mo_iret C0 hr hH d_M_token_48 h
def f_M_token_49  (x1 : Int32) (x2 : Int32) (x3 : Int32) (v : mS) : Option (Int32 × mS) := gd (inB x1 4) (if (v 5 (x1 : Int32).toNatClampNeg) = 32 then (bi (f_M_fail v 4) fun r_15 v_13 => some (r_15, v_13)) else (gd (inB x1 4) (gd (inB ((32 * x1) + (v 5 (x1 : Int32).toNatClampNeg)) 128) (nm (sU v 3 ((32 * x1) + (v 5 (x1 : Int32).toNatClampNeg) : Int32).toNatClampNeg x2) fun v_5 => gd (inB x1 4) (gd (inB ((32 * x1) + (v_5 5 (x1 : Int32).toNatClampNeg)) 128) (nm (sU v_5 4 ((32 * x1) + (v_5 5 (x1 : Int32).toNatClampNeg) : Int32).toNatClampNeg x3) fun v_8 => gd (inB x1 4) (gd (inB x1 4) (nm (sU v_8 5 (x1 : Int32).toNatClampNeg ((v_8 5 (x1 : Int32).toNatClampNeg) + 1)) fun v_11 => gd (inB x1 4) (some (v_11 5 (x1 : Int32).toNatClampNeg, v_11))))))))))
set_option maxHeartbeats 4000000 in
set_option maxRecDepth 100000 in
theorem w_M_token_49 {p : Program} {l : Launch} {e : Env} {s : State} {m : MethodId} {args : Array Value} {below : List Frame} {meth : Method} {c : Code} {D : va_G} {cI : ClassId} {A : Nat → Prop} {q : Nat → Nat} {o : Int32 × mS} (C0 : mo_C b_M_token 4 D cI A p s m args meth c) (hr : meth.sig.returnType = (some .int)) : ∀ (x1 : Int32) (x2 : Int32) (x3 : Int32) (v : mS) (H : Heap) (locs : List Loc) (ls : Array Slot), f_M_token_49  x1 x2 x3 v = some o → mo_H D cI A s q v H locs → lv_has ls 4 [(0, .ref (q 0)), (1, .int x1), (2, .int x2), (3, .int x3)] → W p l e (mo_rm 1) s m args below meth c H locs 0 0 (MQ below (mo_Qi D cI q o.1 o.2 A) args s 0 0 A) (F0 m 49 ls []) := by
  have hx := C0.1
  have hb := C0.2.1
  intro x1 x2 x3 v H locs ls h hH hl
  unfold f_M_token_49 at h
  refine lv_aload_n hx hb d_M_token_49 rfl (lv_at hl 0 rfl) ?_
  refine mo_r_tokens C0 hH d_M_token_50 ?_
  refine lv_iload_n hx hb d_M_token_53 rfl (lv_at hl 1 rfl) ?_
  obtain ⟨g_1, h⟩ := gd_out h
  refine mo_ld 5 (by decide) (by decide) C0 hH (inB_in g_1) d_M_token_54 ?_
  refine lv_bipush (v := 32) hx hb d_M_token_55 (by decide) ?_
  refine lv_icmp_ne (tgt := 66) hx hb d_M_token_57 (by decide) (fun c_2 => ?_) (fun c_2 => ?_)
  · rw [if_neg c_2] at h
    refine lv_aload_n hx hb d_M_token_66 rfl (lv_at hl 0 rfl) ?_
    refine mo_r_op C0 hH d_M_token_67 ?_
    refine lv_bipush (v := 32) hx hb d_M_token_70 (by decide) ?_
    refine lv_iload_n hx hb d_M_token_72 rfl (lv_at hl 1 rfl) ?_
    refine lv_imul hx hb d_M_token_73 ?_
    refine lv_aload_n hx hb d_M_token_74 rfl (lv_at hl 0 rfl) ?_
    refine mo_r_tokens C0 hH d_M_token_75 ?_
    refine lv_iload_n hx hb d_M_token_78 rfl (lv_at hl 1 rfl) ?_
    obtain ⟨g_3, h⟩ := gd_out h
    refine mo_ld 5 (by decide) (by decide) C0 hH (inB_in g_3) d_M_token_79 ?_
    refine lv_iadd hx hb d_M_token_80 ?_
    refine lv_iload_n hx hb d_M_token_81 rfl (lv_at hl 2 rfl) ?_
    obtain ⟨g_4, h⟩ := gd_out h
    obtain ⟨v_5, hv_5, h⟩ := nm_out h
    refine mo_st 3 (by decide) (by decide) C0 hH (inB_in g_4) d_M_token_82 (fun H locs hH => ?_)
    rw [← hv_5] at hH
    refine lv_aload_n hx hb d_M_token_83 rfl (lv_at hl 0 rfl) ?_
    refine mo_r_arg C0 hH d_M_token_84 ?_
    refine lv_bipush (v := 32) hx hb d_M_token_87 (by decide) ?_
    refine lv_iload_n hx hb d_M_token_89 rfl (lv_at hl 1 rfl) ?_
    refine lv_imul hx hb d_M_token_90 ?_
    refine lv_aload_n hx hb d_M_token_91 rfl (lv_at hl 0 rfl) ?_
    refine mo_r_tokens C0 hH d_M_token_92 ?_
    refine lv_iload_n hx hb d_M_token_95 rfl (lv_at hl 1 rfl) ?_
    obtain ⟨g_6, h⟩ := gd_out h
    refine mo_ld 5 (by decide) (by decide) C0 hH (inB_in g_6) d_M_token_96 ?_
    refine lv_iadd hx hb d_M_token_97 ?_
    refine lv_iload_n hx hb d_M_token_98 rfl (lv_at hl 3 rfl) ?_
    obtain ⟨g_7, h⟩ := gd_out h
    obtain ⟨v_8, hv_8, h⟩ := nm_out h
    refine mo_st 4 (by decide) (by decide) C0 hH (inB_in g_7) d_M_token_99 (fun H locs hH => ?_)
    rw [← hv_8] at hH
    refine lv_aload_n hx hb d_M_token_100 rfl (lv_at hl 0 rfl) ?_
    refine mo_r_tokens C0 hH d_M_token_101 ?_
    refine lv_iload_n hx hb d_M_token_104 rfl (lv_at hl 1 rfl) ?_
    refine lv_dup2_11 hx hb d_M_token_105 rfl rfl ?_
    obtain ⟨g_9, h⟩ := gd_out h
    refine mo_ld 5 (by decide) (by decide) C0 hH (inB_in g_9) d_M_token_106 ?_
    refine lv_iconst (v := 1) hx hb d_M_token_107 (by decide) ?_
    refine lv_iadd hx hb d_M_token_108 ?_
    obtain ⟨g_10, h⟩ := gd_out h
    obtain ⟨v_11, hv_11, h⟩ := nm_out h
    refine mo_st 5 (by decide) (by decide) C0 hH (inB_in g_10) d_M_token_109 (fun H locs hH => ?_)
    rw [← hv_11] at hH
    refine lv_aload_n hx hb d_M_token_110 rfl (lv_at hl 0 rfl) ?_
    refine mo_r_tokens C0 hH d_M_token_111 ?_
    refine lv_iload_n hx hb d_M_token_114 rfl (lv_at hl 1 rfl) ?_
    obtain ⟨g_12, h⟩ := gd_out h
    refine mo_ld 5 (by decide) (by decide) C0 hH (inB_in g_12) d_M_token_115 ?_
    exact mo_iret C0 hr hH d_M_token_116 h
  · rw [if_pos c_2] at h
    refine lv_aload_n hx hb d_M_token_60 rfl (lv_at hl 0 rfl) ?_
    refine lv_iconst (v := 4) hx hb d_M_token_61 (by decide) ?_
    obtain ⟨r_15, v_13, hc_14, h⟩ := bi_out h
    refine mo_ci (r := r_15) (w := v_13) (as := [.int 4]) (rest := []) C0 hH (c_M_fail hc_14) yy_M_fail q_1053 q_109 (by decide) rfl hl.1 rfl (Nat.le_of_ble_eq_true rfl) ⟨Nat.zero_le _, Nat.zero_le _⟩ d_M_token_62 (fun H locs hH => ?_)
    exact mo_iret C0 hr hH d_M_token_65 h
def f_M_token (v : mS) (x1 : Int32) (x2 : Int32) (x3 : Int32) : Option (Int32 × mS) := nm (sU v 0 0 0) fun v_1 => bi (f_M_within v_1 x1 0 3) fun r_4 v_2 => if r_4 = 0 then (f_M_token_43 v_2) else (bi (f_M_within v_2 x2 0 34) fun r_8 v_6 => if r_8 = 0 then (f_M_token_43 v_6) else (bi (f_M_most v_6 x2) fun r_12 v_10 => if r_12 < 0 then (f_M_token_49 x1 x2 x3 v_10) else (bi (f_M_most v_10 x2) fun r_16 v_14 => bi (f_M_within v_14 x3 0 r_16) fun r_19 v_17 => if r_19 = 0 then (f_M_token_43 v_17) else (f_M_token_49 x1 x2 x3 v_17))))
set_option maxHeartbeats 4000000 in
set_option maxRecDepth 100000 in
theorem c_M_token {l : Launch} {D : va_G} {cI : ClassId} {q : Nat → Nat} {v : mS} {x1 : Int32} {x2 : Int32} {x3 : Int32} {o : Int32 × mS} (h : f_M_token v x1 x2 x3 = some o) : mo_M l D cI q 1 y_M_token b_M_token 4 (some .int) [.ref (q 0), .int x1, .int x2, .int x3] v (mo_Qi D cI q o.1 o.2) := by
  refine mo_of (by decide +kernel) rfl (Nat.le_of_ble_eq_true rfl) ?_
  intro p e s m below meth c A ls C0 hr hl hH
  have hx := C0.1
  have hb := C0.2.1
  have hl : lv_has ls 4 [(0, .ref (q 0)), (1, .int x1), (2, .int x2), (3, .int x3)] := hl
  unfold f_M_token at h
  refine lv_aload_n hx hb d_M_token_0 rfl (lv_at hl 0 rfl) ?_
  refine lv_iconst (v := 0) hx hb d_M_token_1 (by decide) ?_
  obtain ⟨v_1, hv_1, h⟩ := nm_out h
  refine mo_p_code C0 hH d_M_token_2 (fun H locs hH => ?_)
  rw [← hv_1] at hH
  refine lv_iload_n hx hb d_M_token_5 rfl (lv_at hl 1 rfl) ?_
  refine lv_iconst (v := 0) hx hb d_M_token_6 (by decide) ?_
  refine lv_iconst (v := 3) hx hb d_M_token_7 (by decide) ?_
  obtain ⟨r_4, v_2, hc_3, h⟩ := bi_out h
  refine mo_si (r := r_4) (w := v_2) (as := [.int x1, .int 0, .int 3]) (rest := []) C0 hH (c_M_within hc_3) yy_M_within q_1050 q_109 (by decide) rfl hl.1 rfl (Nat.le_of_ble_eq_true rfl) ⟨Nat.zero_le _, Nat.zero_le _⟩ d_M_token_8 (fun H locs hH => ?_)
  refine lv_if_eq (tgt := 43) hx hb d_M_token_11 (by decide) (fun c_5 => ?_) (fun c_5 => ?_)
  · rw [if_pos c_5] at h
    exact w_M_token_43 C0 hr   _ _ _ _ h hH (lv_sub hl [0] rfl)
  · rw [if_neg c_5] at h
    refine lv_iload_n hx hb d_M_token_14 rfl (lv_at hl 2 rfl) ?_
    refine lv_iconst (v := 0) hx hb d_M_token_15 (by decide) ?_
    refine lv_bipush (v := 34) hx hb d_M_token_16 (by decide) ?_
    obtain ⟨r_8, v_6, hc_7, h⟩ := bi_out h
    refine mo_si (r := r_8) (w := v_6) (as := [.int x2, .int 0, .int 34]) (rest := []) C0 hH (c_M_within hc_7) yy_M_within q_1050 q_109 (by decide) rfl hl.1 rfl (Nat.le_of_ble_eq_true rfl) ⟨Nat.zero_le _, Nat.zero_le _⟩ d_M_token_18 (fun H locs hH => ?_)
    refine lv_if_eq (tgt := 43) hx hb d_M_token_21 (by decide) (fun c_9 => ?_) (fun c_9 => ?_)
    · rw [if_pos c_9] at h
      exact w_M_token_43 C0 hr   _ _ _ _ h hH (lv_sub hl [0] rfl)
    · rw [if_neg c_9] at h
      refine lv_iload_n hx hb d_M_token_24 rfl (lv_at hl 2 rfl) ?_
      obtain ⟨r_12, v_10, hc_11, h⟩ := bi_out h
      refine mo_si (r := r_12) (w := v_10) (as := [.int x2]) (rest := []) C0 hH (c_M_most hc_11) yy_M_most q_1061 q_109 (by decide) rfl hl.1 rfl (Nat.le_of_ble_eq_true rfl) ⟨Nat.zero_le _, Nat.zero_le _⟩ d_M_token_25 (fun H locs hH => ?_)
      refine lv_if_lt (tgt := 49) hx hb d_M_token_28 (by decide) (fun c_13 => ?_) (fun c_13 => ?_)
      · rw [if_pos c_13] at h
        exact w_M_token_49 C0 hr  _ _ _ _ _ _ _ h hH (lv_sub hl [0, 1, 2, 3] rfl)
      · rw [if_neg c_13] at h
        refine lv_iload_n hx hb d_M_token_31 rfl (lv_at hl 3 rfl) ?_
        refine lv_iconst (v := 0) hx hb d_M_token_32 (by decide) ?_
        refine lv_iload_n hx hb d_M_token_33 rfl (lv_at hl 2 rfl) ?_
        obtain ⟨r_16, v_14, hc_15, h⟩ := bi_out h
        refine mo_si (r := r_16) (w := v_14) (as := [.int x2]) (rest := [.int 0, .int x3]) C0 hH (c_M_most hc_15) yy_M_most q_1061 q_109 (by decide) rfl hl.1 rfl (Nat.le_of_ble_eq_true rfl) ⟨Nat.zero_le _, Nat.zero_le _⟩ d_M_token_34 (fun H locs hH => ?_)
        obtain ⟨r_19, v_17, hc_18, h⟩ := bi_out h
        refine mo_si (r := r_19) (w := v_17) (as := [.int x3, .int 0, .int r_16]) (rest := []) C0 hH (c_M_within hc_18) yy_M_within q_1050 q_109 (by decide) rfl hl.1 rfl (Nat.le_of_ble_eq_true rfl) ⟨Nat.zero_le _, Nat.zero_le _⟩ d_M_token_37 (fun H locs hH => ?_)
        refine lv_if_ne (tgt := 49) hx hb d_M_token_40 (by decide) (fun c_20 => ?_) (fun c_20 => ?_)
        · rw [if_neg c_20] at h
          exact w_M_token_49 C0 hr  _ _ _ _ _ _ _ h hH (lv_sub hl [0, 1, 2, 3] rfl)
        · rw [if_pos c_20] at h
          exact w_M_token_43 C0 hr   _ _ _ _ h hH (lv_sub hl [0] rfl)
theorem yy_M_wipe : mo_Y y_M_wipe b_M_wipe 4 (some .int) 2 := ⟨rfl, q_1065, q_1066, q_1067, by decide +kernel⟩
def f_M_wipe_32   (v : mS) : Option (Int32 × mS) := bi (f_M_fail v 1) fun r_3 v_1 => some (r_3, v_1)
set_option maxHeartbeats 4000000 in
set_option maxRecDepth 100000 in
theorem w_M_wipe_32 {p : Program} {l : Launch} {e : Env} {s : State} {m : MethodId} {args : Array Value} {below : List Frame} {meth : Method} {c : Code} {D : va_G} {cI : ClassId} {A : Nat → Prop} {q : Nat → Nat} {o : Int32 × mS} (C0 : mo_C b_M_wipe 4 D cI A p s m args meth c) (hr : meth.sig.returnType = (some .int)) : ∀  (v : mS) (H : Heap) (locs : List Loc) (ls : Array Slot), f_M_wipe_32   v = some o → mo_H D cI A s q v H locs → lv_has ls 4 [(0, .ref (q 0))] → W p l e (mo_rm 1) s m args below meth c H locs 0 0 (MQ below (mo_Qi D cI q o.1 o.2 A) args s 0 0 A) (F0 m 32 ls []) := by
  have hx := C0.1
  have hb := C0.2.1
  intro  v H locs ls h hH hl
  unfold f_M_wipe_32 at h
  refine lv_aload_n hx hb d_M_wipe_32 rfl (lv_at hl 0 rfl) ?_
  refine lv_iconst (v := 1) hx hb d_M_wipe_33 (by decide) ?_
  obtain ⟨r_3, v_1, hc_2, h⟩ := bi_out h
  refine mo_ci (r := r_3) (w := v_1) (as := [.int 1]) (rest := []) C0 hH (c_M_fail hc_2) yy_M_fail q_1053 q_109 (by decide) rfl hl.1 rfl (Nat.le_of_ble_eq_true rfl) ⟨Nat.zero_le _, Nat.zero_le _⟩ d_M_wipe_34 (fun H locs hH => ?_)
  exact mo_iret C0 hr hH d_M_wipe_37 h
def f_M_wipe_79  (x3 : Int32) (v : mS) : Option (Int32 × mS) := some (x3, v)
set_option maxHeartbeats 4000000 in
set_option maxRecDepth 100000 in
theorem w_M_wipe_79 {p : Program} {l : Launch} {e : Env} {s : State} {m : MethodId} {args : Array Value} {below : List Frame} {meth : Method} {c : Code} {D : va_G} {cI : ClassId} {A : Nat → Prop} {q : Nat → Nat} {o : Int32 × mS} (C0 : mo_C b_M_wipe 4 D cI A p s m args meth c) (hr : meth.sig.returnType = (some .int)) : ∀ (x3 : Int32) (v : mS) (H : Heap) (locs : List Loc) (ls : Array Slot), f_M_wipe_79  x3 v = some o → mo_H D cI A s q v H locs → lv_has ls 4 [(3, .int x3)] → W p l e (mo_rm 1) s m args below meth c H locs 0 0 (MQ below (mo_Qi D cI q o.1 o.2 A) args s 0 0 A) (F0 m 79 ls []) := by
  have hx := C0.1
  have hb := C0.2.1
  intro x3 v H locs ls h hH hl
  unfold f_M_wipe_79 at h
  refine lv_iload_n hx hb d_M_wipe_79 rfl (lv_at hl 0 rfl) ?_
  exact mo_iret C0 hr hH d_M_wipe_80 h
def f_M_wipe_57  (x1 : Int32) (x2 : Int32) (y0 : Int32) (v : mS) : Option (Int32 × mS) := if x1 = 0 then (gd (inB x2 4) (nm (sU v 5 (x2 : Int32).toNatClampNeg 0) fun v_5 => f_M_wipe_79 y0 v_5)) else (gd (inB x2 8) (nm (sU v 2 (x2 : Int32).toNatClampNeg 0) fun v_3 => f_M_wipe_79 y0 v_3))
set_option maxHeartbeats 4000000 in
set_option maxRecDepth 100000 in
theorem w_M_wipe_57 {p : Program} {l : Launch} {e : Env} {s : State} {m : MethodId} {args : Array Value} {below : List Frame} {meth : Method} {c : Code} {D : va_G} {cI : ClassId} {A : Nat → Prop} {q : Nat → Nat} {o : Int32 × mS} (C0 : mo_C b_M_wipe 4 D cI A p s m args meth c) (hr : meth.sig.returnType = (some .int)) : ∀ (x1 : Int32) (x2 : Int32) (y0 : Int32) (v : mS) (H : Heap) (locs : List Loc) (ls : Array Slot), f_M_wipe_57  x1 x2 y0 v = some o → mo_H D cI A s q v H locs → lv_has ls 4 [(0, .ref (q 0)), (1, .int x1), (2, .int x2)] → W p l e (mo_rm 1) s m args below meth c H locs 0 0 (MQ below (mo_Qi D cI q o.1 o.2 A) args s 0 0 A) (F0 m 57 ls [.int y0]) := by
  have hx := C0.1
  have hb := C0.2.1
  intro x1 x2 y0 v H locs ls h hH hl
  unfold f_M_wipe_57 at h
  refine lv_istore_n (lv' := [(3, .int y0), (0, .ref (q 0)), (1, .int x1), (2, .int x2)]) hx hb d_M_wipe_57 rfl hl (by decide) rfl (fun ls hl => ?_)
  refine lv_iload_n hx hb d_M_wipe_58 rfl (lv_at hl 2 rfl) ?_
  refine lv_if_ne (tgt := 72) hx hb d_M_wipe_59 (by decide) (fun c_1 => ?_) (fun c_1 => ?_)
  · rw [if_neg c_1] at h
    refine lv_aload_n hx hb d_M_wipe_72 rfl (lv_at hl 1 rfl) ?_
    refine mo_r_textSize C0 hH d_M_wipe_73 ?_
    refine lv_iload_n hx hb d_M_wipe_76 rfl (lv_at hl 3 rfl) ?_
    refine lv_iconst (v := 0) hx hb d_M_wipe_77 (by decide) ?_
    obtain ⟨g_2, h⟩ := gd_out h
    obtain ⟨v_3, hv_3, h⟩ := nm_out h
    refine mo_st 2 (by decide) (by decide) C0 hH (inB_in g_2) d_M_wipe_78 (fun H locs hH => ?_)
    rw [← hv_3] at hH
    exact w_M_wipe_79 C0 hr  _ _ _ _ _ h hH (lv_sub hl [0] rfl)
  · rw [if_pos c_1] at h
    refine lv_aload_n hx hb d_M_wipe_62 rfl (lv_at hl 1 rfl) ?_
    refine mo_r_tokens C0 hH d_M_wipe_63 ?_
    refine lv_iload_n hx hb d_M_wipe_66 rfl (lv_at hl 3 rfl) ?_
    refine lv_iconst (v := 0) hx hb d_M_wipe_67 (by decide) ?_
    obtain ⟨g_4, h⟩ := gd_out h
    obtain ⟨v_5, hv_5, h⟩ := nm_out h
    refine mo_st 5 (by decide) (by decide) C0 hH (inB_in g_4) d_M_wipe_68 (fun H locs hH => ?_)
    rw [← hv_5] at hH
    refine lv_goto (tgt := 79) hx hb d_M_wipe_69 (by decide) ?_
    exact w_M_wipe_79 C0 hr  _ _ _ _ _ h hH (lv_sub hl [0] rfl)
def f_M_wipe_26  (x1 : Int32) (x2 : Int32) (y0 : Int32) (y1 : Int32) (y2 : Int32) (v : mS) : Option (Int32 × mS) := bi (f_M_within v y0 y1 y2) fun r_3 v_1 => if r_3 = 0 then (f_M_wipe_32 v_1) else (if x1 = 0 then (gd (inB x2 4) (f_M_wipe_57 x1 x2 (v_1 5 (x2 : Int32).toNatClampNeg) v_1)) else (gd (inB x2 8) (f_M_wipe_57 x1 x2 (v_1 2 (x2 : Int32).toNatClampNeg) v_1)))
set_option maxHeartbeats 4000000 in
set_option maxRecDepth 100000 in
theorem w_M_wipe_26 {p : Program} {l : Launch} {e : Env} {s : State} {m : MethodId} {args : Array Value} {below : List Frame} {meth : Method} {c : Code} {D : va_G} {cI : ClassId} {A : Nat → Prop} {q : Nat → Nat} {o : Int32 × mS} (C0 : mo_C b_M_wipe 4 D cI A p s m args meth c) (hr : meth.sig.returnType = (some .int)) : ∀ (x1 : Int32) (x2 : Int32) (y0 : Int32) (y1 : Int32) (y2 : Int32) (v : mS) (H : Heap) (locs : List Loc) (ls : Array Slot), f_M_wipe_26  x1 x2 y0 y1 y2 v = some o → mo_H D cI A s q v H locs → lv_has ls 4 [(0, .ref (q 0)), (1, .int x1), (2, .int x2)] → W p l e (mo_rm 1) s m args below meth c H locs 0 0 (MQ below (mo_Qi D cI q o.1 o.2 A) args s 0 0 A) (F0 m 26 ls [.int y2, .int y1, .int y0]) := by
  have hx := C0.1
  have hb := C0.2.1
  intro x1 x2 y0 y1 y2 v H locs ls h hH hl
  unfold f_M_wipe_26 at h
  obtain ⟨r_3, v_1, hc_2, h⟩ := bi_out h
  refine mo_si (r := r_3) (w := v_1) (as := [.int y0, .int y1, .int y2]) (rest := []) C0 hH (c_M_within hc_2) yy_M_within q_1050 q_109 (by decide) rfl hl.1 rfl (Nat.le_of_ble_eq_true rfl) ⟨Nat.zero_le _, Nat.zero_le _⟩ d_M_wipe_26 (fun H locs hH => ?_)
  refine lv_if_ne (tgt := 38) hx hb d_M_wipe_29 (by decide) (fun c_4 => ?_) (fun c_4 => ?_)
  · rw [if_neg c_4] at h
    refine lv_iload_n hx hb d_M_wipe_38 rfl (lv_at hl 1 rfl) ?_
    refine lv_if_ne (tgt := 51) hx hb d_M_wipe_39 (by decide) (fun c_5 => ?_) (fun c_5 => ?_)
    · rw [if_neg c_5] at h
      refine lv_aload_n hx hb d_M_wipe_51 rfl (lv_at hl 0 rfl) ?_
      refine mo_r_textSize C0 hH d_M_wipe_52 ?_
      refine lv_iload_n hx hb d_M_wipe_55 rfl (lv_at hl 2 rfl) ?_
      obtain ⟨g_6, h⟩ := gd_out h
      refine mo_ld 2 (by decide) (by decide) C0 hH (inB_in g_6) d_M_wipe_56 ?_
      exact w_M_wipe_57 C0 hr  _ _ _ _ _ _ _ h hH (lv_sub hl [0, 1, 2] rfl)
    · rw [if_pos c_5] at h
      refine lv_aload_n hx hb d_M_wipe_42 rfl (lv_at hl 0 rfl) ?_
      refine mo_r_tokens C0 hH d_M_wipe_43 ?_
      refine lv_iload_n hx hb d_M_wipe_46 rfl (lv_at hl 2 rfl) ?_
      obtain ⟨g_7, h⟩ := gd_out h
      refine mo_ld 5 (by decide) (by decide) C0 hH (inB_in g_7) d_M_wipe_47 ?_
      refine lv_goto (tgt := 57) hx hb d_M_wipe_48 (by decide) ?_
      exact w_M_wipe_57 C0 hr  _ _ _ _ _ _ _ h hH (lv_sub hl [0, 1, 2] rfl)
  · rw [if_pos c_4] at h
    exact w_M_wipe_32 C0 hr   _ _ _ _ h hH (lv_sub hl [0] rfl)
def f_M_wipe (v : mS) (x1 : Int32) (x2 : Int32) : Option (Int32 × mS) := nm (sU v 0 0 0) fun v_1 => bi (f_M_within v_1 x1 0 1) fun r_4 v_2 => if r_4 = 0 then (f_M_wipe_32 v_2) else (if x1 = 0 then (f_M_wipe_26 x1 x2 x2 0 3 v_2) else (f_M_wipe_26 x1 x2 x2 0 7 v_2))
set_option maxHeartbeats 4000000 in
set_option maxRecDepth 100000 in
theorem c_M_wipe {l : Launch} {D : va_G} {cI : ClassId} {q : Nat → Nat} {v : mS} {x1 : Int32} {x2 : Int32} {o : Int32 × mS} (h : f_M_wipe v x1 x2 = some o) : mo_M l D cI q 1 y_M_wipe b_M_wipe 4 (some .int) [.ref (q 0), .int x1, .int x2] v (mo_Qi D cI q o.1 o.2) := by
  refine mo_of (by decide +kernel) rfl (Nat.le_of_ble_eq_true rfl) ?_
  intro p e s m below meth c A ls C0 hr hl hH
  have hx := C0.1
  have hb := C0.2.1
  have hl : lv_has ls 4 [(0, .ref (q 0)), (1, .int x1), (2, .int x2)] := hl
  unfold f_M_wipe at h
  refine lv_aload_n hx hb d_M_wipe_0 rfl (lv_at hl 0 rfl) ?_
  refine lv_iconst (v := 0) hx hb d_M_wipe_1 (by decide) ?_
  obtain ⟨v_1, hv_1, h⟩ := nm_out h
  refine mo_p_code C0 hH d_M_wipe_2 (fun H locs hH => ?_)
  rw [← hv_1] at hH
  refine lv_iload_n hx hb d_M_wipe_5 rfl (lv_at hl 1 rfl) ?_
  refine lv_iconst (v := 0) hx hb d_M_wipe_6 (by decide) ?_
  refine lv_iconst (v := 1) hx hb d_M_wipe_7 (by decide) ?_
  obtain ⟨r_4, v_2, hc_3, h⟩ := bi_out h
  refine mo_si (r := r_4) (w := v_2) (as := [.int x1, .int 0, .int 1]) (rest := []) C0 hH (c_M_within hc_3) yy_M_within q_1050 q_109 (by decide) rfl hl.1 rfl (Nat.le_of_ble_eq_true rfl) ⟨Nat.zero_le _, Nat.zero_le _⟩ d_M_wipe_8 (fun H locs hH => ?_)
  refine lv_if_eq (tgt := 32) hx hb d_M_wipe_11 (by decide) (fun c_5 => ?_) (fun c_5 => ?_)
  · rw [if_pos c_5] at h
    exact w_M_wipe_32 C0 hr   _ _ _ _ h hH (lv_sub hl [0] rfl)
  · rw [if_neg c_5] at h
    refine lv_iload_n hx hb d_M_wipe_14 rfl (lv_at hl 2 rfl) ?_
    refine lv_iconst (v := 0) hx hb d_M_wipe_15 (by decide) ?_
    refine lv_iload_n hx hb d_M_wipe_16 rfl (lv_at hl 1 rfl) ?_
    refine lv_if_ne (tgt := 24) hx hb d_M_wipe_17 (by decide) (fun c_6 => ?_) (fun c_6 => ?_)
    · rw [if_neg c_6] at h
      refine lv_bipush (v := 7) hx hb d_M_wipe_24 (by decide) ?_
      exact w_M_wipe_26 C0 hr  _ _ _ _ _ _ _ _ _ h hH (lv_sub hl [0, 1, 2] rfl)
    · rw [if_pos c_6] at h
      refine lv_iconst (v := 3) hx hb d_M_wipe_20 (by decide) ?_
      refine lv_goto (tgt := 26) hx hb d_M_wipe_21 (by decide) ?_
      exact w_M_wipe_26 C0 hr  _ _ _ _ _ _ _ _ _ h hH (lv_sub hl [0, 1, 2] rfl)
theorem yy_M_parts : mo_YS y_M_parts b_M_parts 1 (some .int) 1 := ⟨rfl, q_1077, q_1078, by decide +kernel⟩
def f_M_parts_144   (v : mS) : Option (Int32 × mS) := some (1, v)
set_option maxHeartbeats 4000000 in
set_option maxRecDepth 100000 in
theorem w_M_parts_144 {p : Program} {l : Launch} {e : Env} {s : State} {m : MethodId} {args : Array Value} {below : List Frame} {meth : Method} {c : Code} {D : va_G} {cI : ClassId} {A : Nat → Prop} {q : Nat → Nat} {o : Int32 × mS} (C0 : mo_C b_M_parts 1 D cI A p s m args meth c) (hr : meth.sig.returnType = (some .int)) : ∀  (v : mS) (H : Heap) (locs : List Loc) (ls : Array Slot), f_M_parts_144   v = some o → mo_H D cI A s q v H locs → lv_has ls 1 [] → W p l e (mo_rm 0) s m args below meth c H locs 0 0 (MQ below (mo_Qi D cI q o.1 o.2 A) args s 0 0 A) (F0 m 144 ls []) := by
  have hx := C0.1
  have hb := C0.2.1
  intro  v H locs ls h hH hl
  unfold f_M_parts_144 at h
  refine lv_iconst (v := 1) hx hb d_M_parts_144 (by decide) ?_
  exact mo_iret C0 hr hH d_M_parts_145 h
def f_M_parts_146   (v : mS) : Option (Int32 × mS) := some (2, v)
set_option maxHeartbeats 4000000 in
set_option maxRecDepth 100000 in
theorem w_M_parts_146 {p : Program} {l : Launch} {e : Env} {s : State} {m : MethodId} {args : Array Value} {below : List Frame} {meth : Method} {c : Code} {D : va_G} {cI : ClassId} {A : Nat → Prop} {q : Nat → Nat} {o : Int32 × mS} (C0 : mo_C b_M_parts 1 D cI A p s m args meth c) (hr : meth.sig.returnType = (some .int)) : ∀  (v : mS) (H : Heap) (locs : List Loc) (ls : Array Slot), f_M_parts_146   v = some o → mo_H D cI A s q v H locs → lv_has ls 1 [] → W p l e (mo_rm 0) s m args below meth c H locs 0 0 (MQ below (mo_Qi D cI q o.1 o.2 A) args s 0 0 A) (F0 m 146 ls []) := by
  have hx := C0.1
  have hb := C0.2.1
  intro  v H locs ls h hH hl
  unfold f_M_parts_146 at h
  refine lv_iconst (v := 2) hx hb d_M_parts_146 (by decide) ?_
  exact mo_iret C0 hr hH d_M_parts_147 h
def f_M_parts_148   (v : mS) : Option (Int32 × mS) := some (3, v)
set_option maxHeartbeats 4000000 in
set_option maxRecDepth 100000 in
theorem w_M_parts_148 {p : Program} {l : Launch} {e : Env} {s : State} {m : MethodId} {args : Array Value} {below : List Frame} {meth : Method} {c : Code} {D : va_G} {cI : ClassId} {A : Nat → Prop} {q : Nat → Nat} {o : Int32 × mS} (C0 : mo_C b_M_parts 1 D cI A p s m args meth c) (hr : meth.sig.returnType = (some .int)) : ∀  (v : mS) (H : Heap) (locs : List Loc) (ls : Array Slot), f_M_parts_148   v = some o → mo_H D cI A s q v H locs → lv_has ls 1 [] → W p l e (mo_rm 0) s m args below meth c H locs 0 0 (MQ below (mo_Qi D cI q o.1 o.2 A) args s 0 0 A) (F0 m 148 ls []) := by
  have hx := C0.1
  have hb := C0.2.1
  intro  v H locs ls h hH hl
  unfold f_M_parts_148 at h
  refine lv_iconst (v := 3) hx hb d_M_parts_148 (by decide) ?_
  exact mo_iret C0 hr hH d_M_parts_149 h
def f_M_parts_150   (v : mS) : Option (Int32 × mS) := some (0, v)
set_option maxHeartbeats 4000000 in
set_option maxRecDepth 100000 in
theorem w_M_parts_150 {p : Program} {l : Launch} {e : Env} {s : State} {m : MethodId} {args : Array Value} {below : List Frame} {meth : Method} {c : Code} {D : va_G} {cI : ClassId} {A : Nat → Prop} {q : Nat → Nat} {o : Int32 × mS} (C0 : mo_C b_M_parts 1 D cI A p s m args meth c) (hr : meth.sig.returnType = (some .int)) : ∀  (v : mS) (H : Heap) (locs : List Loc) (ls : Array Slot), f_M_parts_150   v = some o → mo_H D cI A s q v H locs → lv_has ls 1 [] → W p l e (mo_rm 0) s m args below meth c H locs 0 0 (MQ below (mo_Qi D cI q o.1 o.2 A) args s 0 0 A) (F0 m 150 ls []) := by
  have hx := C0.1
  have hb := C0.2.1
  intro  v H locs ls h hH hl
  unfold f_M_parts_150 at h
  refine lv_iconst (v := 0) hx hb d_M_parts_150 (by decide) ?_
  exact mo_iret C0 hr hH d_M_parts_151 h
def f_M_parts (v : mS) (x0 : Int32) : Option (Int32 × mS) := if x0 = 2 then (f_M_parts_144 v) else if x0 = 3 then (f_M_parts_150 v) else if x0 = 4 then (f_M_parts_146 v) else if x0 = 5 then (f_M_parts_146 v) else if x0 = 6 then (f_M_parts_150 v) else if x0 = 7 then (f_M_parts_150 v) else if x0 = 8 then (f_M_parts_150 v) else if x0 = 9 then (f_M_parts_144 v) else if x0 = 10 then (f_M_parts_150 v) else if x0 = 11 then (f_M_parts_144 v) else if x0 = 12 then (f_M_parts_146 v) else if x0 = 13 then (f_M_parts_146 v) else if x0 = 14 then (f_M_parts_146 v) else if x0 = 15 then (f_M_parts_146 v) else if x0 = 16 then (f_M_parts_150 v) else if x0 = 17 then (f_M_parts_148 v) else if x0 = 18 then (f_M_parts_146 v) else if x0 = 19 then (f_M_parts_146 v) else if x0 = 20 then (f_M_parts_146 v) else if x0 = 21 then (f_M_parts_150 v) else if x0 = 22 then (f_M_parts_148 v) else if x0 = 23 then (f_M_parts_150 v) else if x0 = 24 then (f_M_parts_150 v) else if x0 = 25 then (f_M_parts_150 v) else if x0 = 26 then (f_M_parts_150 v) else if x0 = 27 then (f_M_parts_150 v) else if x0 = 28 then (f_M_parts_150 v) else if x0 = 29 then (f_M_parts_144 v) else if x0 = 30 then (f_M_parts_150 v) else if x0 = 31 then (f_M_parts_144 v) else if x0 = 32 then (f_M_parts_144 v) else if x0 = 33 then (f_M_parts_144 v) else (f_M_parts_150 v)
set_option maxHeartbeats 4000000 in
set_option maxRecDepth 100000 in
theorem c_M_parts {l : Launch} {D : va_G} {cI : ClassId} {q : Nat → Nat} {v : mS} {x0 : Int32} {o : Int32 × mS} (h : f_M_parts v x0 = some o) : mo_M l D cI q 0 y_M_parts b_M_parts 1 (some .int) [.int x0] v (mo_Qi D cI q o.1 o.2) := by
  refine mo_of (by decide +kernel) rfl (Nat.le_of_ble_eq_true rfl) ?_
  intro p e s m below meth c A ls C0 hr hl hH
  have hx := C0.1
  have hb := C0.2.1
  have hl : lv_has ls 1 [(0, .int x0)] := hl
  unfold f_M_parts at h
  refine lv_iload_n hx hb d_M_parts_0 rfl (lv_at hl 0 rfl) ?_
  by_cases e_1 : x0 = 2
  · rw [if_pos e_1] at h
    refine fu_hit (tgt := 144) 2 e_1 hx hb d_M_parts_1 (by decide) (by decide) rfl (by decide) ?_
    exact w_M_parts_144 C0 hr   _ _ _ _ h hH (lv_sub hl [] rfl)
  rw [if_neg e_1] at h
  by_cases e_2 : x0 = 3
  · rw [if_pos e_2] at h
    refine fu_hit (tgt := 150) 3 e_2 hx hb d_M_parts_1 (by decide) (by decide) rfl (by decide) ?_
    exact w_M_parts_150 C0 hr   _ _ _ _ h hH (lv_sub hl [] rfl)
  rw [if_neg e_2] at h
  by_cases e_3 : x0 = 4
  · rw [if_pos e_3] at h
    refine fu_hit (tgt := 146) 4 e_3 hx hb d_M_parts_1 (by decide) (by decide) rfl (by decide) ?_
    exact w_M_parts_146 C0 hr   _ _ _ _ h hH (lv_sub hl [] rfl)
  rw [if_neg e_3] at h
  by_cases e_4 : x0 = 5
  · rw [if_pos e_4] at h
    refine fu_hit (tgt := 146) 5 e_4 hx hb d_M_parts_1 (by decide) (by decide) rfl (by decide) ?_
    exact w_M_parts_146 C0 hr   _ _ _ _ h hH (lv_sub hl [] rfl)
  rw [if_neg e_4] at h
  by_cases e_5 : x0 = 6
  · rw [if_pos e_5] at h
    refine fu_hit (tgt := 150) 6 e_5 hx hb d_M_parts_1 (by decide) (by decide) rfl (by decide) ?_
    exact w_M_parts_150 C0 hr   _ _ _ _ h hH (lv_sub hl [] rfl)
  rw [if_neg e_5] at h
  by_cases e_6 : x0 = 7
  · rw [if_pos e_6] at h
    refine fu_hit (tgt := 150) 7 e_6 hx hb d_M_parts_1 (by decide) (by decide) rfl (by decide) ?_
    exact w_M_parts_150 C0 hr   _ _ _ _ h hH (lv_sub hl [] rfl)
  rw [if_neg e_6] at h
  by_cases e_7 : x0 = 8
  · rw [if_pos e_7] at h
    refine fu_hit (tgt := 150) 8 e_7 hx hb d_M_parts_1 (by decide) (by decide) rfl (by decide) ?_
    exact w_M_parts_150 C0 hr   _ _ _ _ h hH (lv_sub hl [] rfl)
  rw [if_neg e_7] at h
  by_cases e_8 : x0 = 9
  · rw [if_pos e_8] at h
    refine fu_hit (tgt := 144) 9 e_8 hx hb d_M_parts_1 (by decide) (by decide) rfl (by decide) ?_
    exact w_M_parts_144 C0 hr   _ _ _ _ h hH (lv_sub hl [] rfl)
  rw [if_neg e_8] at h
  by_cases e_9 : x0 = 10
  · rw [if_pos e_9] at h
    refine fu_hit (tgt := 150) 10 e_9 hx hb d_M_parts_1 (by decide) (by decide) rfl (by decide) ?_
    exact w_M_parts_150 C0 hr   _ _ _ _ h hH (lv_sub hl [] rfl)
  rw [if_neg e_9] at h
  by_cases e_10 : x0 = 11
  · rw [if_pos e_10] at h
    refine fu_hit (tgt := 144) 11 e_10 hx hb d_M_parts_1 (by decide) (by decide) rfl (by decide) ?_
    exact w_M_parts_144 C0 hr   _ _ _ _ h hH (lv_sub hl [] rfl)
  rw [if_neg e_10] at h
  by_cases e_11 : x0 = 12
  · rw [if_pos e_11] at h
    refine fu_hit (tgt := 146) 12 e_11 hx hb d_M_parts_1 (by decide) (by decide) rfl (by decide) ?_
    exact w_M_parts_146 C0 hr   _ _ _ _ h hH (lv_sub hl [] rfl)
  rw [if_neg e_11] at h
  by_cases e_12 : x0 = 13
  · rw [if_pos e_12] at h
    refine fu_hit (tgt := 146) 13 e_12 hx hb d_M_parts_1 (by decide) (by decide) rfl (by decide) ?_
    exact w_M_parts_146 C0 hr   _ _ _ _ h hH (lv_sub hl [] rfl)
  rw [if_neg e_12] at h
  by_cases e_13 : x0 = 14
  · rw [if_pos e_13] at h
    refine fu_hit (tgt := 146) 14 e_13 hx hb d_M_parts_1 (by decide) (by decide) rfl (by decide) ?_
    exact w_M_parts_146 C0 hr   _ _ _ _ h hH (lv_sub hl [] rfl)
  rw [if_neg e_13] at h
  by_cases e_14 : x0 = 15
  · rw [if_pos e_14] at h
    refine fu_hit (tgt := 146) 15 e_14 hx hb d_M_parts_1 (by decide) (by decide) rfl (by decide) ?_
    exact w_M_parts_146 C0 hr   _ _ _ _ h hH (lv_sub hl [] rfl)
  rw [if_neg e_14] at h
  by_cases e_15 : x0 = 16
  · rw [if_pos e_15] at h
    refine fu_hit (tgt := 150) 16 e_15 hx hb d_M_parts_1 (by decide) (by decide) rfl (by decide) ?_
    exact w_M_parts_150 C0 hr   _ _ _ _ h hH (lv_sub hl [] rfl)
  rw [if_neg e_15] at h
  by_cases e_16 : x0 = 17
  · rw [if_pos e_16] at h
    refine fu_hit (tgt := 148) 17 e_16 hx hb d_M_parts_1 (by decide) (by decide) rfl (by decide) ?_
    exact w_M_parts_148 C0 hr   _ _ _ _ h hH (lv_sub hl [] rfl)
  rw [if_neg e_16] at h
  by_cases e_17 : x0 = 18
  · rw [if_pos e_17] at h
    refine fu_hit (tgt := 146) 18 e_17 hx hb d_M_parts_1 (by decide) (by decide) rfl (by decide) ?_
    exact w_M_parts_146 C0 hr   _ _ _ _ h hH (lv_sub hl [] rfl)
  rw [if_neg e_17] at h
  by_cases e_18 : x0 = 19
  · rw [if_pos e_18] at h
    refine fu_hit (tgt := 146) 19 e_18 hx hb d_M_parts_1 (by decide) (by decide) rfl (by decide) ?_
    exact w_M_parts_146 C0 hr   _ _ _ _ h hH (lv_sub hl [] rfl)
  rw [if_neg e_18] at h
  by_cases e_19 : x0 = 20
  · rw [if_pos e_19] at h
    refine fu_hit (tgt := 146) 20 e_19 hx hb d_M_parts_1 (by decide) (by decide) rfl (by decide) ?_
    exact w_M_parts_146 C0 hr   _ _ _ _ h hH (lv_sub hl [] rfl)
  rw [if_neg e_19] at h
  by_cases e_20 : x0 = 21
  · rw [if_pos e_20] at h
    refine fu_hit (tgt := 150) 21 e_20 hx hb d_M_parts_1 (by decide) (by decide) rfl (by decide) ?_
    exact w_M_parts_150 C0 hr   _ _ _ _ h hH (lv_sub hl [] rfl)
  rw [if_neg e_20] at h
  by_cases e_21 : x0 = 22
  · rw [if_pos e_21] at h
    refine fu_hit (tgt := 148) 22 e_21 hx hb d_M_parts_1 (by decide) (by decide) rfl (by decide) ?_
    exact w_M_parts_148 C0 hr   _ _ _ _ h hH (lv_sub hl [] rfl)
  rw [if_neg e_21] at h
  by_cases e_22 : x0 = 23
  · rw [if_pos e_22] at h
    refine fu_hit (tgt := 150) 23 e_22 hx hb d_M_parts_1 (by decide) (by decide) rfl (by decide) ?_
    exact w_M_parts_150 C0 hr   _ _ _ _ h hH (lv_sub hl [] rfl)
  rw [if_neg e_22] at h
  by_cases e_23 : x0 = 24
  · rw [if_pos e_23] at h
    refine fu_hit (tgt := 150) 24 e_23 hx hb d_M_parts_1 (by decide) (by decide) rfl (by decide) ?_
    exact w_M_parts_150 C0 hr   _ _ _ _ h hH (lv_sub hl [] rfl)
  rw [if_neg e_23] at h
  by_cases e_24 : x0 = 25
  · rw [if_pos e_24] at h
    refine fu_hit (tgt := 150) 25 e_24 hx hb d_M_parts_1 (by decide) (by decide) rfl (by decide) ?_
    exact w_M_parts_150 C0 hr   _ _ _ _ h hH (lv_sub hl [] rfl)
  rw [if_neg e_24] at h
  by_cases e_25 : x0 = 26
  · rw [if_pos e_25] at h
    refine fu_hit (tgt := 150) 26 e_25 hx hb d_M_parts_1 (by decide) (by decide) rfl (by decide) ?_
    exact w_M_parts_150 C0 hr   _ _ _ _ h hH (lv_sub hl [] rfl)
  rw [if_neg e_25] at h
  by_cases e_26 : x0 = 27
  · rw [if_pos e_26] at h
    refine fu_hit (tgt := 150) 27 e_26 hx hb d_M_parts_1 (by decide) (by decide) rfl (by decide) ?_
    exact w_M_parts_150 C0 hr   _ _ _ _ h hH (lv_sub hl [] rfl)
  rw [if_neg e_26] at h
  by_cases e_27 : x0 = 28
  · rw [if_pos e_27] at h
    refine fu_hit (tgt := 150) 28 e_27 hx hb d_M_parts_1 (by decide) (by decide) rfl (by decide) ?_
    exact w_M_parts_150 C0 hr   _ _ _ _ h hH (lv_sub hl [] rfl)
  rw [if_neg e_27] at h
  by_cases e_28 : x0 = 29
  · rw [if_pos e_28] at h
    refine fu_hit (tgt := 144) 29 e_28 hx hb d_M_parts_1 (by decide) (by decide) rfl (by decide) ?_
    exact w_M_parts_144 C0 hr   _ _ _ _ h hH (lv_sub hl [] rfl)
  rw [if_neg e_28] at h
  by_cases e_29 : x0 = 30
  · rw [if_pos e_29] at h
    refine fu_hit (tgt := 150) 30 e_29 hx hb d_M_parts_1 (by decide) (by decide) rfl (by decide) ?_
    exact w_M_parts_150 C0 hr   _ _ _ _ h hH (lv_sub hl [] rfl)
  rw [if_neg e_29] at h
  by_cases e_30 : x0 = 31
  · rw [if_pos e_30] at h
    refine fu_hit (tgt := 144) 31 e_30 hx hb d_M_parts_1 (by decide) (by decide) rfl (by decide) ?_
    exact w_M_parts_144 C0 hr   _ _ _ _ h hH (lv_sub hl [] rfl)
  rw [if_neg e_30] at h
  by_cases e_31 : x0 = 32
  · rw [if_pos e_31] at h
    refine fu_hit (tgt := 144) 32 e_31 hx hb d_M_parts_1 (by decide) (by decide) rfl (by decide) ?_
    exact w_M_parts_144 C0 hr   _ _ _ _ h hH (lv_sub hl [] rfl)
  rw [if_neg e_31] at h
  by_cases e_32 : x0 = 33
  · rw [if_pos e_32] at h
    refine fu_hit (tgt := 144) 33 e_32 hx hb d_M_parts_1 (by decide) (by decide) rfl (by decide) ?_
    exact w_M_parts_144 C0 hr   _ _ _ _ h hH (lv_sub hl [] rfl)
  rw [if_neg e_32] at h
  refine lv_tableOut (tgt := 150) hx hb d_M_parts_1 (fu_out 32 (by decide) (fun k9 hk9 => match k9, hk9 with | 0, _ => lv_neT e_1 (by decide) | 1, _ => lv_neT e_2 (by decide) | 2, _ => lv_neT e_3 (by decide) | 3, _ => lv_neT e_4 (by decide) | 4, _ => lv_neT e_5 (by decide) | 5, _ => lv_neT e_6 (by decide) | 6, _ => lv_neT e_7 (by decide) | 7, _ => lv_neT e_8 (by decide) | 8, _ => lv_neT e_9 (by decide) | 9, _ => lv_neT e_10 (by decide) | 10, _ => lv_neT e_11 (by decide) | 11, _ => lv_neT e_12 (by decide) | 12, _ => lv_neT e_13 (by decide) | 13, _ => lv_neT e_14 (by decide) | 14, _ => lv_neT e_15 (by decide) | 15, _ => lv_neT e_16 (by decide) | 16, _ => lv_neT e_17 (by decide) | 17, _ => lv_neT e_18 (by decide) | 18, _ => lv_neT e_19 (by decide) | 19, _ => lv_neT e_20 (by decide) | 20, _ => lv_neT e_21 (by decide) | 21, _ => lv_neT e_22 (by decide) | 22, _ => lv_neT e_23 (by decide) | 23, _ => lv_neT e_24 (by decide) | 24, _ => lv_neT e_25 (by decide) | 25, _ => lv_neT e_26 (by decide) | 26, _ => lv_neT e_27 (by decide) | 27, _ => lv_neT e_28 (by decide) | 28, _ => lv_neT e_29 (by decide) | 29, _ => lv_neT e_30 (by decide) | 30, _ => lv_neT e_31 (by decide) | 31, _ => lv_neT e_32 (by decide) | k9 + 32, hk9 => absurd hk9 (by omega))) (by decide) ?_
  exact w_M_parts_150 C0 hr   _ _ _ _ h hH (lv_sub hl [] rfl)
