/-! methods of the reference (by program: wip/gen/mgen.py keepRow field each measure stepTo keys sorted) -/
theorem yy_M_keepRow : mo_Y y_M_keepRow b_M_keepRow 3 none 1 := ⟨rfl, q_1097, q_45, q_1098, by decide +kernel⟩
def f_M_keepRow_29  : Nat → Int32 → Int32 → mS → Option (mS)
  | 0, _, _, _ => none
  | n + 1, x1, x2, v => if (v 0 37) ≤ x2 then (gd (inB x1 10) (nm (sU v 17 (x1 : Int32).toNatClampNeg 2) fun v_3 => some v_3)) else (gd (inB x2 17) (gd (inB ((17 * x1) + x2) 170) (nm (sU v 23 ((17 * x1) + x2 : Int32).toNatClampNeg (v 26 (x2 : Int32).toNatClampNeg)) fun v_6 => nm (x2 + 1) fun x2_7 => f_M_keepRow_29 n x1 x2_7 v_6)))
set_option maxHeartbeats 4000000 in
set_option maxRecDepth 100000 in
theorem w_M_keepRow_29 {p : Program} {l : Launch} {e : Env} {s : State} {m : MethodId} {args : Array Value} {below : List Frame} {meth : Method} {c : Code} {D : va_G} {cI : ClassId} {A : Nat → Prop} {q : Nat → Nat} {o : mS} (C0 : mo_C b_M_keepRow 3 D cI A p s m args meth c) (hr : meth.sig.returnType = none) : ∀ (n : Nat) (x1 : Int32) (x2 : Int32) (v : mS) (H : Heap) (locs : List Loc) (ls : Array Slot), f_M_keepRow_29  n x1 x2 v = some o → mo_H D cI A s q v H locs → lv_has ls 3 [(0, .ref (q 0)), (1, .int x1), (2, .int x2)] → W p l e (mo_rm 0) s m args below meth c H locs 0 0 (MQ below (mo_Qv D cI q o A) args s 0 0 A) (F0 m 29 ls []) := by
  have hx := C0.1
  have hb := C0.2.1
  intro n
  induction n with
  | zero =>
    intro x1 x2 v H locs ls h hH hl
    cases h
  | succ n ih =>
    intro x1 x2 v H locs ls h hH hl
    rw [f_M_keepRow_29] at h
    refine lv_iload_n hx hb d_M_keepRow_29 rfl (lv_at hl 2 rfl) ?_
    refine lv_aload_n hx hb d_M_keepRow_30 rfl (lv_at hl 0 rfl) ?_
    refine mo_g_gots C0 hH d_M_keepRow_31 ?_
    refine lv_icmp_ge (tgt := 60) hx hb d_M_keepRow_34 (by decide) (fun c_1 => ?_) (fun c_1 => ?_)
    · rw [if_pos c_1] at h
      refine lv_aload_n hx hb d_M_keepRow_60 rfl (lv_at hl 0 rfl) ?_
      refine mo_r_phase C0 hH d_M_keepRow_61 ?_
      refine lv_iload_n hx hb d_M_keepRow_64 rfl (lv_at hl 1 rfl) ?_
      refine lv_iconst (v := 2) hx hb d_M_keepRow_65 (by decide) ?_
      obtain ⟨g_2, h⟩ := gd_out h
      obtain ⟨v_3, hv_3, h⟩ := nm_out h
      refine mo_st 17 (by decide) (by decide) C0 hH (inB_in g_2) d_M_keepRow_66 (fun H locs hH => ?_)
      rw [← hv_3] at hH
      exact mo_vret C0 hr hH d_M_keepRow_67 h
    · rw [if_neg c_1] at h
      refine lv_aload_n hx hb d_M_keepRow_37 rfl (lv_at hl 0 rfl) ?_
      refine mo_r_row C0 hH d_M_keepRow_38 ?_
      refine lv_bipush (v := 17) hx hb d_M_keepRow_41 (by decide) ?_
      refine lv_iload_n hx hb d_M_keepRow_43 rfl (lv_at hl 1 rfl) ?_
      refine lv_imul hx hb d_M_keepRow_44 ?_
      refine lv_iload_n hx hb d_M_keepRow_45 rfl (lv_at hl 2 rfl) ?_
      refine lv_iadd hx hb d_M_keepRow_46 ?_
      refine lv_aload_n hx hb d_M_keepRow_47 rfl (lv_at hl 0 rfl) ?_
      refine mo_r_got C0 hH d_M_keepRow_48 ?_
      refine lv_iload_n hx hb d_M_keepRow_51 rfl (lv_at hl 2 rfl) ?_
      obtain ⟨g_4, h⟩ := gd_out h
      refine mo_ld 26 (by decide) (by decide) C0 hH (inB_in g_4) d_M_keepRow_52 ?_
      obtain ⟨g_5, h⟩ := gd_out h
      obtain ⟨v_6, hv_6, h⟩ := nm_out h
      refine mo_st 23 (by decide) (by decide) C0 hH (inB_in g_5) d_M_keepRow_53 (fun H locs hH => ?_)
      rw [← hv_6] at hH
      obtain ⟨x2_7, hx2_7, h⟩ := nm_out h
      refine lv_iinc (v := x2_7) (lv' := [(2, .int x2_7), (0, .ref (q 0)), (1, .int x1)]) hx hb d_M_keepRow_54 hl (k := 2) rfl (by rw [hx2_7]; rfl) (by decide) rfl (fun ls hl => ?_)
      refine lv_goto (tgt := 29) hx hb d_M_keepRow_57 (by decide) ?_
      exact ih _ _ _ _ _ _ h hH (lv_sub hl [1, 2, 0] rfl)
def f_M_keepRow (v : mS) (x1 : Int32) : Option (mS) := gd (inB x1 10) (nm (sU v 19 (x1 : Int32).toNatClampNeg (v 0 37)) fun v_2 => gd (inB x1 10) (nm (sU v_2 20 (x1 : Int32).toNatClampNeg (v_2 0 38)) fun v_4 => gd (inB x1 10) (nm (sU v_4 18 (x1 : Int32).toNatClampNeg 0) fun v_6 => f_M_keepRow_29 fu x1 0 v_6)))
set_option maxHeartbeats 4000000 in
set_option maxRecDepth 100000 in
theorem c_M_keepRow {l : Launch} {D : va_G} {cI : ClassId} {q : Nat → Nat} {v : mS} {x1 : Int32} {o : mS} (h : f_M_keepRow v x1 = some o) : mo_M l D cI q 0 y_M_keepRow b_M_keepRow 3 none [.ref (q 0), .int x1] v (mo_Qv D cI q o) := by
  refine mo_of (by decide +kernel) rfl (Nat.le_of_ble_eq_true rfl) ?_
  intro p e s m below meth c A ls C0 hr hl hH
  have hx := C0.1
  have hb := C0.2.1
  have hl : lv_has ls 3 [(0, .ref (q 0)), (1, .int x1)] := hl
  unfold f_M_keepRow at h
  refine lv_aload_n hx hb d_M_keepRow_0 rfl (lv_at hl 0 rfl) ?_
  refine mo_r_rows C0 hH d_M_keepRow_1 ?_
  refine lv_iload_n hx hb d_M_keepRow_4 rfl (lv_at hl 1 rfl) ?_
  refine lv_aload_n hx hb d_M_keepRow_5 rfl (lv_at hl 0 rfl) ?_
  refine mo_g_gots C0 hH d_M_keepRow_6 ?_
  obtain ⟨g_1, h⟩ := gd_out h
  obtain ⟨v_2, hv_2, h⟩ := nm_out h
  refine mo_st 19 (by decide) (by decide) C0 hH (inB_in g_1) d_M_keepRow_9 (fun H locs hH => ?_)
  rw [← hv_2] at hH
  refine lv_aload_n hx hb d_M_keepRow_10 rfl (lv_at hl 0 rfl) ?_
  refine mo_r_rowError C0 hH d_M_keepRow_11 ?_
  refine lv_iload_n hx hb d_M_keepRow_14 rfl (lv_at hl 1 rfl) ?_
  refine lv_aload_n hx hb d_M_keepRow_15 rfl (lv_at hl 0 rfl) ?_
  refine mo_g_gotError C0 hH d_M_keepRow_16 ?_
  obtain ⟨g_3, h⟩ := gd_out h
  obtain ⟨v_4, hv_4, h⟩ := nm_out h
  refine mo_st 20 (by decide) (by decide) C0 hH (inB_in g_3) d_M_keepRow_19 (fun H locs hH => ?_)
  rw [← hv_4] at hH
  refine lv_aload_n hx hb d_M_keepRow_20 rfl (lv_at hl 0 rfl) ?_
  refine mo_r_at C0 hH d_M_keepRow_21 ?_
  refine lv_iload_n hx hb d_M_keepRow_24 rfl (lv_at hl 1 rfl) ?_
  refine lv_iconst (v := 0) hx hb d_M_keepRow_25 (by decide) ?_
  obtain ⟨g_5, h⟩ := gd_out h
  obtain ⟨v_6, hv_6, h⟩ := nm_out h
  refine mo_st 18 (by decide) (by decide) C0 hH (inB_in g_5) d_M_keepRow_26 (fun H locs hH => ?_)
  rw [← hv_6] at hH
  refine lv_iconst (v := 0) hx hb d_M_keepRow_27 (by decide) ?_
  refine lv_istore_n (lv' := [(2, .int 0), (0, .ref (q 0)), (1, .int x1)]) hx hb d_M_keepRow_28 rfl hl (by decide) rfl (fun ls hl => ?_)
  exact w_M_keepRow_29 C0 hr  fu _ _ _ _ _ _ h hH (lv_sub hl [1, 2, 0] rfl)
theorem yy_M_field : mo_Y y_M_field b_M_field 5 (some .boolean) 3 := ⟨rfl, q_1121, q_51, q_1122, by decide +kernel⟩
def f_M_field_60  (y1 : Int32) (y2 : Int32) (v : mS) : Option (Int32 × mS) := bv (f_M_emit v y1 y2) fun v_1 => some (1, v_1)
set_option maxHeartbeats 4000000 in
set_option maxRecDepth 100000 in
theorem w_M_field_60 {p : Program} {l : Launch} {e : Env} {s : State} {m : MethodId} {args : Array Value} {below : List Frame} {meth : Method} {c : Code} {D : va_G} {cI : ClassId} {A : Nat → Prop} {q : Nat → Nat} {o : Int32 × mS} (C0 : mo_C b_M_field 5 D cI A p s m args meth c) (hr : meth.sig.returnType = (some .boolean)) : ∀ (y1 : Int32) (y2 : Int32) (v : mS) (H : Heap) (locs : List Loc) (ls : Array Slot), f_M_field_60  y1 y2 v = some o → mo_H D cI A s q v H locs → lv_has ls 5 [] → W p l e (mo_rm 3) s m args below meth c H locs 0 0 (MQ below (mo_Qi D cI q o.1 o.2 A) args s 0 0 A) (F0 m 60 ls [.int y2, .int y1, .ref (q 0)]) := by
  have hx := C0.1
  have hb := C0.2.1
  intro y1 y2 v H locs ls h hH hl
  unfold f_M_field_60 at h
  obtain ⟨v_1, hc_2, h⟩ := bv_out h
  refine mo_cv (w := v_1) (as := [.int y1, .int y2]) (rest := []) C0 hH (c_M_emit hc_2) yy_M_emit q_1146 q_109 (by decide) rfl hl.1 rfl (Nat.le_of_ble_eq_true rfl) ⟨Nat.zero_le _, Nat.zero_le _⟩ d_M_field_60 (fun H locs hH => ?_)
  refine lv_iconst (v := 1) hx hb d_M_field_63 (by decide) ?_
  exact mo_zret (Or.inr rfl) C0 hr hH d_M_field_64 h
def f_M_field_40  (x1 : Int32) (x2 : Int32) (y0 : Int32) (v : mS) : Option (Int32 × mS) := if 0 ≤ y0 then (bi (f_M_item v x2 y0) fun r_4 v_2 => f_M_field_60 x1 r_4 v_2) else (f_M_field_60 x1 4 v)
set_option maxHeartbeats 4000000 in
set_option maxRecDepth 100000 in
theorem w_M_field_40 {p : Program} {l : Launch} {e : Env} {s : State} {m : MethodId} {args : Array Value} {below : List Frame} {meth : Method} {c : Code} {D : va_G} {cI : ClassId} {A : Nat → Prop} {q : Nat → Nat} {o : Int32 × mS} (C0 : mo_C b_M_field 5 D cI A p s m args meth c) (hr : meth.sig.returnType = (some .boolean)) : ∀ (x1 : Int32) (x2 : Int32) (y0 : Int32) (v : mS) (H : Heap) (locs : List Loc) (ls : Array Slot), f_M_field_40  x1 x2 y0 v = some o → mo_H D cI A s q v H locs → lv_has ls 5 [(0, .ref (q 0)), (1, .int x1), (2, .int x2)] → W p l e (mo_rm 3) s m args below meth c H locs 0 0 (MQ below (mo_Qi D cI q o.1 o.2 A) args s 0 0 A) (F0 m 40 ls [.int y0]) := by
  have hx := C0.1
  have hb := C0.2.1
  intro x1 x2 y0 v H locs ls h hH hl
  unfold f_M_field_40 at h
  refine lv_istore (lv' := [(4, .int y0), (0, .ref (q 0)), (1, .int x1), (2, .int x2)]) hx hb d_M_field_40 hl (by decide) rfl (fun ls hl => ?_)
  refine lv_aload_n hx hb d_M_field_42 rfl (lv_at hl 1 rfl) ?_
  refine lv_iload_n hx hb d_M_field_43 rfl (lv_at hl 2 rfl) ?_
  refine lv_iload hx hb d_M_field_44 (lv_at hl 0 rfl) ?_
  refine lv_if_ge (tgt := 53) hx hb d_M_field_46 (by decide) (fun c_1 => ?_) (fun c_1 => ?_)
  · rw [if_pos c_1] at h
    refine lv_aload_n hx hb d_M_field_53 rfl (lv_at hl 1 rfl) ?_
    refine lv_iload_n hx hb d_M_field_54 rfl (lv_at hl 3 rfl) ?_
    refine lv_iload hx hb d_M_field_55 (lv_at hl 0 rfl) ?_
    obtain ⟨r_4, v_2, hc_3, h⟩ := bi_out h
    refine mo_ci (r := r_4) (w := v_2) (as := [.int x2, .int y0]) (rest := [.int x1, .ref (q 0)]) C0 hH (c_M_item hc_3) yy_M_item q_1142 q_109 (by decide) rfl hl.1 rfl (Nat.le_of_ble_eq_true rfl) ⟨Nat.zero_le _, Nat.zero_le _⟩ d_M_field_57 (fun H locs hH => ?_)
    exact w_M_field_60 C0 hr  _ _ _ _ _ _ h hH (lv_sub hl [] rfl)
  · rw [if_neg c_1] at h
    refine lv_iconst (v := 4) hx hb d_M_field_49 (by decide) ?_
    refine lv_goto (tgt := 60) hx hb d_M_field_50 (by decide) ?_
    exact w_M_field_60 C0 hr  _ _ _ _ _ _ h hH (lv_sub hl [] rfl)
def f_M_field_20  (x1 : Int32) (x2 : Int32) (x3 : Int32) (v : mS) : Option (Int32 × mS) := bi (f_M_kindOf v x2) fun r_3 v_1 => if r_3 = 6 then (bi (f_M_member v_1 x2 x3) fun r_7 v_5 => f_M_field_40 x1 x2 r_7 v_5) else (f_M_field_40 x1 x2 (-1) v_1)
set_option maxHeartbeats 4000000 in
set_option maxRecDepth 100000 in
theorem w_M_field_20 {p : Program} {l : Launch} {e : Env} {s : State} {m : MethodId} {args : Array Value} {below : List Frame} {meth : Method} {c : Code} {D : va_G} {cI : ClassId} {A : Nat → Prop} {q : Nat → Nat} {o : Int32 × mS} (C0 : mo_C b_M_field 5 D cI A p s m args meth c) (hr : meth.sig.returnType = (some .boolean)) : ∀ (x1 : Int32) (x2 : Int32) (x3 : Int32) (v : mS) (H : Heap) (locs : List Loc) (ls : Array Slot), f_M_field_20  x1 x2 x3 v = some o → mo_H D cI A s q v H locs → lv_has ls 5 [(0, .ref (q 0)), (1, .int x1), (2, .int x2), (3, .int x3)] → W p l e (mo_rm 3) s m args below meth c H locs 0 0 (MQ below (mo_Qi D cI q o.1 o.2 A) args s 0 0 A) (F0 m 20 ls []) := by
  have hx := C0.1
  have hb := C0.2.1
  intro x1 x2 x3 v H locs ls h hH hl
  unfold f_M_field_20 at h
  refine lv_aload_n hx hb d_M_field_20 rfl (lv_at hl 0 rfl) ?_
  refine lv_iload_n hx hb d_M_field_21 rfl (lv_at hl 2 rfl) ?_
  obtain ⟨r_3, v_1, hc_2, h⟩ := bi_out h
  refine mo_ci (r := r_3) (w := v_1) (as := [.int x2]) (rest := []) C0 hH (c_M_kindOf hc_2) yy_M_kindOf q_1107 q_109 (by decide) rfl hl.1 rfl (Nat.le_of_ble_eq_true rfl) ⟨Nat.zero_le _, Nat.zero_le _⟩ d_M_field_22 (fun H locs hH => ?_)
  refine lv_bipush (v := 6) hx hb d_M_field_25 (by decide) ?_
  refine lv_icmp_ne (tgt := 39) hx hb d_M_field_27 (by decide) (fun c_4 => ?_) (fun c_4 => ?_)
  · rw [if_neg c_4] at h
    refine lv_iconst (v := (-1)) hx hb d_M_field_39 (by decide) ?_
    exact w_M_field_40 C0 hr  _ _ _ _ _ _ _ h hH (lv_sub hl [0, 1, 2] rfl)
  · rw [if_pos c_4] at h
    refine lv_aload_n hx hb d_M_field_30 rfl (lv_at hl 0 rfl) ?_
    refine lv_iload_n hx hb d_M_field_31 rfl (lv_at hl 2 rfl) ?_
    refine lv_iload_n hx hb d_M_field_32 rfl (lv_at hl 3 rfl) ?_
    obtain ⟨r_7, v_5, hc_6, h⟩ := bi_out h
    refine mo_ci (r := r_7) (w := v_5) (as := [.int x2, .int x3]) (rest := []) C0 hH (c_M_member hc_6) yy_M_member q_1123 q_109 (by decide) rfl hl.1 rfl (Nat.le_of_ble_eq_true rfl) ⟨Nat.zero_le _, Nat.zero_le _⟩ d_M_field_33 (fun H locs hH => ?_)
    refine lv_goto (tgt := 40) hx hb d_M_field_36 (by decide) ?_
    exact w_M_field_40 C0 hr  _ _ _ _ _ _ _ h hH (lv_sub hl [0, 1, 2] rfl)
def f_M_field (v : mS) (x1 : Int32) (x2 : Int32) (x3 : Int32) : Option (Int32 × mS) := bi (f_M_kindOf v x2) fun r_3 v_1 => if r_3 = 0 then (f_M_field_20 x1 x2 x3 v_1) else (bi (f_M_kindOf v_1 x2) fun r_7 v_5 => if r_7 = 6 then (f_M_field_20 x1 x2 x3 v_5) else (some (0, v_5)))
set_option maxHeartbeats 4000000 in
set_option maxRecDepth 100000 in
theorem c_M_field {l : Launch} {D : va_G} {cI : ClassId} {q : Nat → Nat} {v : mS} {x1 : Int32} {x2 : Int32} {x3 : Int32} {o : Int32 × mS} (h : f_M_field v x1 x2 x3 = some o) : mo_M l D cI q 3 y_M_field b_M_field 5 (some .boolean) [.ref (q 0), .int x1, .int x2, .int x3] v (mo_Qi D cI q o.1 o.2) := by
  refine mo_of (by decide +kernel) rfl (Nat.le_of_ble_eq_true rfl) ?_
  intro p e s m below meth c A ls C0 hr hl hH
  have hx := C0.1
  have hb := C0.2.1
  have hl : lv_has ls 5 [(0, .ref (q 0)), (1, .int x1), (2, .int x2), (3, .int x3)] := hl
  unfold f_M_field at h
  refine lv_aload_n hx hb d_M_field_0 rfl (lv_at hl 0 rfl) ?_
  refine lv_iload_n hx hb d_M_field_1 rfl (lv_at hl 2 rfl) ?_
  obtain ⟨r_3, v_1, hc_2, h⟩ := bi_out h
  refine mo_ci (r := r_3) (w := v_1) (as := [.int x2]) (rest := []) C0 hH (c_M_kindOf hc_2) yy_M_kindOf q_1107 q_109 (by decide) rfl hl.1 rfl (Nat.le_of_ble_eq_true rfl) ⟨Nat.zero_le _, Nat.zero_le _⟩ d_M_field_2 (fun H locs hH => ?_)
  refine lv_if_eq (tgt := 20) hx hb d_M_field_5 (by decide) (fun c_4 => ?_) (fun c_4 => ?_)
  · rw [if_pos c_4] at h
    exact w_M_field_20 C0 hr  _ _ _ _ _ _ _ h hH (lv_sub hl [0, 1, 2, 3] rfl)
  · rw [if_neg c_4] at h
    refine lv_aload_n hx hb d_M_field_8 rfl (lv_at hl 0 rfl) ?_
    refine lv_iload_n hx hb d_M_field_9 rfl (lv_at hl 2 rfl) ?_
    obtain ⟨r_7, v_5, hc_6, h⟩ := bi_out h
    refine mo_ci (r := r_7) (w := v_5) (as := [.int x2]) (rest := []) C0 hH (c_M_kindOf hc_6) yy_M_kindOf q_1107 q_109 (by decide) rfl hl.1 rfl (Nat.le_of_ble_eq_true rfl) ⟨Nat.zero_le _, Nat.zero_le _⟩ d_M_field_10 (fun H locs hH => ?_)
    refine lv_bipush (v := 6) hx hb d_M_field_13 (by decide) ?_
    refine lv_icmp_eq (tgt := 20) hx hb d_M_field_15 (by decide) (fun c_8 => ?_) (fun c_8 => ?_)
    · rw [if_pos c_8] at h
      exact w_M_field_20 C0 hr  _ _ _ _ _ _ _ h hH (lv_sub hl [0, 1, 2, 3] rfl)
    · rw [if_neg c_8] at h
      refine lv_iconst (v := 0) hx hb d_M_field_18 (by decide) ?_
      exact mo_zret (Or.inl rfl) C0 hr hH d_M_field_19 h
theorem yy_M_each : mo_Y y_M_each b_M_each 4 (some .boolean) 2 := ⟨rfl, q_1152, q_58, q_1153, by decide +kernel⟩
def f_M_each_13  : Nat → Int32 → Int32 → Int32 → mS → Option (Int32 × mS)
  | 0, _, _, _, _ => none
  | n + 1, x1, x2, x3, v => bi (f_M_size v x2) fun r_3 v_1 => if r_3 ≤ x3 then (some (1, v_1)) else (bi (f_M_item v_1 x2 x3) fun r_7 v_5 => bv (f_M_emit v_5 x1 r_7) fun v_8 => nm (x3 + 1) fun x3_10 => f_M_each_13 n x1 x2 x3_10 v_8)
set_option maxHeartbeats 4000000 in
set_option maxRecDepth 100000 in
theorem w_M_each_13 {p : Program} {l : Launch} {e : Env} {s : State} {m : MethodId} {args : Array Value} {below : List Frame} {meth : Method} {c : Code} {D : va_G} {cI : ClassId} {A : Nat → Prop} {q : Nat → Nat} {o : Int32 × mS} (C0 : mo_C b_M_each 4 D cI A p s m args meth c) (hr : meth.sig.returnType = (some .boolean)) : ∀ (n : Nat) (x1 : Int32) (x2 : Int32) (x3 : Int32) (v : mS) (H : Heap) (locs : List Loc) (ls : Array Slot), f_M_each_13  n x1 x2 x3 v = some o → mo_H D cI A s q v H locs → lv_has ls 4 [(0, .ref (q 0)), (1, .int x1), (2, .int x2), (3, .int x3)] → W p l e (mo_rm 1) s m args below meth c H locs 0 0 (MQ below (mo_Qi D cI q o.1 o.2 A) args s 0 0 A) (F0 m 13 ls []) := by
  have hx := C0.1
  have hb := C0.2.1
  intro n
  induction n with
  | zero =>
    intro x1 x2 x3 v H locs ls h hH hl
    cases h
  | succ n ih =>
    intro x1 x2 x3 v H locs ls h hH hl
    rw [f_M_each_13] at h
    refine lv_iload_n hx hb d_M_each_13 rfl (lv_at hl 3 rfl) ?_
    refine lv_aload_n hx hb d_M_each_14 rfl (lv_at hl 0 rfl) ?_
    refine lv_iload_n hx hb d_M_each_15 rfl (lv_at hl 2 rfl) ?_
    obtain ⟨r_3, v_1, hc_2, h⟩ := bi_out h
    refine mo_ci (r := r_3) (w := v_1) (as := [.int x2]) (rest := [.int x3]) C0 hH (c_M_size hc_2) yy_M_size q_1127 q_109 (by decide) rfl hl.1 rfl (Nat.le_of_ble_eq_true rfl) ⟨Nat.zero_le _, Nat.zero_le _⟩ d_M_each_16 (fun H locs hH => ?_)
    refine lv_icmp_ge (tgt := 39) hx hb d_M_each_19 (by decide) (fun c_4 => ?_) (fun c_4 => ?_)
    · rw [if_pos c_4] at h
      refine lv_iconst (v := 1) hx hb d_M_each_39 (by decide) ?_
      exact mo_zret (Or.inr rfl) C0 hr hH d_M_each_40 h
    · rw [if_neg c_4] at h
      refine lv_aload_n hx hb d_M_each_22 rfl (lv_at hl 0 rfl) ?_
      refine lv_iload_n hx hb d_M_each_23 rfl (lv_at hl 1 rfl) ?_
      refine lv_aload_n hx hb d_M_each_24 rfl (lv_at hl 0 rfl) ?_
      refine lv_iload_n hx hb d_M_each_25 rfl (lv_at hl 2 rfl) ?_
      refine lv_iload_n hx hb d_M_each_26 rfl (lv_at hl 3 rfl) ?_
      obtain ⟨r_7, v_5, hc_6, h⟩ := bi_out h
      refine mo_ci (r := r_7) (w := v_5) (as := [.int x2, .int x3]) (rest := [.int x1, .ref (q 0)]) C0 hH (c_M_item hc_6) yy_M_item q_1142 q_109 (by decide) rfl hl.1 rfl (Nat.le_of_ble_eq_true rfl) ⟨Nat.zero_le _, Nat.zero_le _⟩ d_M_each_27 (fun H locs hH => ?_)
      obtain ⟨v_8, hc_9, h⟩ := bv_out h
      refine mo_cv (w := v_8) (as := [.int x1, .int r_7]) (rest := []) C0 hH (c_M_emit hc_9) yy_M_emit q_1146 q_109 (by decide) rfl hl.1 rfl (Nat.le_of_ble_eq_true rfl) ⟨Nat.zero_le _, Nat.zero_le _⟩ d_M_each_30 (fun H locs hH => ?_)
      obtain ⟨x3_10, hx3_10, h⟩ := nm_out h
      refine lv_iinc (v := x3_10) (lv' := [(3, .int x3_10), (0, .ref (q 0)), (1, .int x1), (2, .int x2)]) hx hb d_M_each_33 hl (k := 3) rfl (by rw [hx3_10]; rfl) (by decide) rfl (fun ls hl => ?_)
      refine lv_goto (tgt := 13) hx hb d_M_each_36 (by decide) ?_
      exact ih _ _ _ _ _ _ _ h hH (lv_sub hl [1, 2, 3, 0] rfl)
def f_M_each (v : mS) (x1 : Int32) (x2 : Int32) : Option (Int32 × mS) := bi (f_M_kindOf v x2) fun r_3 v_1 => if 5 ≤ r_3 then (f_M_each_13 fu x1 x2 0 v_1) else (some (0, v_1))
set_option maxHeartbeats 4000000 in
set_option maxRecDepth 100000 in
theorem c_M_each {l : Launch} {D : va_G} {cI : ClassId} {q : Nat → Nat} {v : mS} {x1 : Int32} {x2 : Int32} {o : Int32 × mS} (h : f_M_each v x1 x2 = some o) : mo_M l D cI q 1 y_M_each b_M_each 4 (some .boolean) [.ref (q 0), .int x1, .int x2] v (mo_Qi D cI q o.1 o.2) := by
  refine mo_of (by decide +kernel) rfl (Nat.le_of_ble_eq_true rfl) ?_
  intro p e s m below meth c A ls C0 hr hl hH
  have hx := C0.1
  have hb := C0.2.1
  have hl : lv_has ls 4 [(0, .ref (q 0)), (1, .int x1), (2, .int x2)] := hl
  unfold f_M_each at h
  refine lv_aload_n hx hb d_M_each_0 rfl (lv_at hl 0 rfl) ?_
  refine lv_iload_n hx hb d_M_each_1 rfl (lv_at hl 2 rfl) ?_
  obtain ⟨r_3, v_1, hc_2, h⟩ := bi_out h
  refine mo_ci (r := r_3) (w := v_1) (as := [.int x2]) (rest := []) C0 hH (c_M_kindOf hc_2) yy_M_kindOf q_1107 q_109 (by decide) rfl hl.1 rfl (Nat.le_of_ble_eq_true rfl) ⟨Nat.zero_le _, Nat.zero_le _⟩ d_M_each_2 (fun H locs hH => ?_)
  refine lv_iconst (v := 5) hx hb d_M_each_5 (by decide) ?_
  refine lv_icmp_ge (tgt := 11) hx hb d_M_each_6 (by decide) (fun c_4 => ?_) (fun c_4 => ?_)
  · rw [if_pos c_4] at h
    refine lv_iconst (v := 0) hx hb d_M_each_11 (by decide) ?_
    refine lv_istore_n (lv' := [(3, .int 0), (0, .ref (q 0)), (1, .int x1), (2, .int x2)]) hx hb d_M_each_12 rfl hl (by decide) rfl (fun ls hl => ?_)
    exact w_M_each_13 C0 hr  fu _ _ _ _ _ _ _ h hH (lv_sub hl [1, 2, 3, 0] rfl)
  · rw [if_neg c_4] at h
    refine lv_iconst (v := 0) hx hb d_M_each_9 (by decide) ?_
    exact mo_zret (Or.inl rfl) C0 hr hH d_M_each_10 h
theorem yy_M_measure : mo_Y y_M_measure b_M_measure 3 (some .int) 1 := ⟨rfl, q_1180, q_64, q_1181, by decide +kernel⟩
def f_M_measure_16   (v : mS) : Option (Int32 × mS) := some ((-1), v)
set_option maxHeartbeats 4000000 in
set_option maxRecDepth 100000 in
theorem w_M_measure_16 {p : Program} {l : Launch} {e : Env} {s : State} {m : MethodId} {args : Array Value} {below : List Frame} {meth : Method} {c : Code} {D : va_G} {cI : ClassId} {A : Nat → Prop} {q : Nat → Nat} {o : Int32 × mS} (C0 : mo_C b_M_measure 3 D cI A p s m args meth c) (hr : meth.sig.returnType = (some .int)) : ∀  (v : mS) (H : Heap) (locs : List Loc) (ls : Array Slot), f_M_measure_16   v = some o → mo_H D cI A s q v H locs → lv_has ls 3 [] → W p l e (mo_rm 3) s m args below meth c H locs 0 0 (MQ below (mo_Qi D cI q o.1 o.2 A) args s 0 0 A) (F0 m 16 ls []) := by
  have hx := C0.1
  have hb := C0.2.1
  intro  v H locs ls h hH hl
  unfold f_M_measure_16 at h
  refine lv_iconst (v := (-1)) hx hb d_M_measure_16 (by decide) ?_
  exact mo_iret C0 hr hH d_M_measure_17 h
def f_M_measure_72  (y0 : Int32) (v : mS) : Option (Int32 × mS) := some (y0, v)
set_option maxHeartbeats 4000000 in
set_option maxRecDepth 100000 in
theorem w_M_measure_72 {p : Program} {l : Launch} {e : Env} {s : State} {m : MethodId} {args : Array Value} {below : List Frame} {meth : Method} {c : Code} {D : va_G} {cI : ClassId} {A : Nat → Prop} {q : Nat → Nat} {o : Int32 × mS} (C0 : mo_C b_M_measure 3 D cI A p s m args meth c) (hr : meth.sig.returnType = (some .int)) : ∀ (y0 : Int32) (v : mS) (H : Heap) (locs : List Loc) (ls : Array Slot), f_M_measure_72  y0 v = some o → mo_H D cI A s q v H locs → lv_has ls 3 [] → W p l e (mo_rm 3) s m args below meth c H locs 0 0 (MQ below (mo_Qi D cI q o.1 o.2 A) args s 0 0 A) (F0 m 72 ls [.int y0]) := by
  have hx := C0.1
  have hb := C0.2.1
  intro y0 v H locs ls h hH hl
  unfold f_M_measure_72 at h
  exact mo_iret C0 hr hH d_M_measure_72 h
def f_M_measure_48  (y1 : Int64) (v : mS) : Option (Int32 × mS) := bi (f_M_decimal v y1) fun r_3 v_1 => f_M_measure_72 r_3 v_1
set_option maxHeartbeats 4000000 in
set_option maxRecDepth 100000 in
theorem w_M_measure_48 {p : Program} {l : Launch} {e : Env} {s : State} {m : MethodId} {args : Array Value} {below : List Frame} {meth : Method} {c : Code} {D : va_G} {cI : ClassId} {A : Nat → Prop} {q : Nat → Nat} {o : Int32 × mS} (C0 : mo_C b_M_measure 3 D cI A p s m args meth c) (hr : meth.sig.returnType = (some .int)) : ∀ (y1 : Int64) (v : mS) (H : Heap) (locs : List Loc) (ls : Array Slot), f_M_measure_48  y1 v = some o → mo_H D cI A s q v H locs → lv_has ls 3 [] → W p l e (mo_rm 3) s m args below meth c H locs 0 0 (MQ below (mo_Qi D cI q o.1 o.2 A) args s 0 0 A) (F0 m 48 ls [.long y1, .ref (q 0)]) := by
  have hx := C0.1
  have hb := C0.2.1
  intro y1 v H locs ls h hH hl
  unfold f_M_measure_48 at h
  obtain ⟨r_3, v_1, hc_2, h⟩ := bi_out h
  refine mo_ci (r := r_3) (w := v_1) (as := [.long y1]) (rest := []) C0 hH (c_M_decimal hc_2) yy_M_decimal q_1155 q_109 (by decide) rfl hl.1 rfl (Nat.le_of_ble_eq_true rfl) ⟨Nat.zero_le _, Nat.zero_le _⟩ d_M_measure_48 (fun H locs hH => ?_)
  refine lv_goto (tgt := 72) hx hb d_M_measure_51 (by decide) ?_
  exact w_M_measure_72 C0 hr  _ _ _ _ _ h hH (lv_sub hl [] rfl)
def f_M_measure_69  (y1 : Int64) (v : mS) : Option (Int32 × mS) := bi (f_M_whole v y1) fun r_3 v_1 => f_M_measure_72 r_3 v_1
set_option maxHeartbeats 4000000 in
set_option maxRecDepth 100000 in
theorem w_M_measure_69 {p : Program} {l : Launch} {e : Env} {s : State} {m : MethodId} {args : Array Value} {below : List Frame} {meth : Method} {c : Code} {D : va_G} {cI : ClassId} {A : Nat → Prop} {q : Nat → Nat} {o : Int32 × mS} (C0 : mo_C b_M_measure 3 D cI A p s m args meth c) (hr : meth.sig.returnType = (some .int)) : ∀ (y1 : Int64) (v : mS) (H : Heap) (locs : List Loc) (ls : Array Slot), f_M_measure_69  y1 v = some o → mo_H D cI A s q v H locs → lv_has ls 3 [] → W p l e (mo_rm 3) s m args below meth c H locs 0 0 (MQ below (mo_Qi D cI q o.1 o.2 A) args s 0 0 A) (F0 m 69 ls [.long y1, .ref (q 0)]) := by
  have hx := C0.1
  have hb := C0.2.1
  intro y1 v H locs ls h hH hl
  unfold f_M_measure_69 at h
  obtain ⟨r_3, v_1, hc_2, h⟩ := bi_out h
  refine mo_ci (r := r_3) (w := v_1) (as := [.long y1]) (rest := []) C0 hH (c_M_whole hc_2) yy_M_whole q_1187 q_109 (by decide) rfl hl.1 rfl (Nat.le_of_ble_eq_true rfl) ⟨Nat.zero_le _, Nat.zero_le _⟩ d_M_measure_69 (fun H locs hH => ?_)
  exact w_M_measure_72 C0 hr  _ _ _ _ _ h hH (lv_sub hl [] rfl)
def f_M_measure (v : mS) (x1 : Int32) : Option (Int32 × mS) := bi (f_M_kindOf v x1) fun r_3 v_1 => if r_3 = 1 then (f_M_measure_16 v_1) else (if r_3 = 2 then (f_M_measure_16 v_1) else (if r_3 = 3 then (bi (f_M_num v_1 x1) fun r_13 v_11 => if 0 ≤ (lg_cmp r_13 0) then (bi (f_M_num v_11 x1) fun r_17 v_15 => f_M_measure_48 r_17 v_15) else (bi (f_M_num v_11 x1) fun r_20 v_18 => f_M_measure_48 (-r_20) v_18)) else (if r_3 = 0 then (f_M_measure_69 0 v_1) else (bi (f_M_size v_1 x1) fun r_10 v_8 => f_M_measure_69 ((r_10 : Int32).toInt64) v_8))))
set_option maxHeartbeats 4000000 in
set_option maxRecDepth 100000 in
theorem c_M_measure {l : Launch} {D : va_G} {cI : ClassId} {q : Nat → Nat} {v : mS} {x1 : Int32} {o : Int32 × mS} (h : f_M_measure v x1 = some o) : mo_M l D cI q 3 y_M_measure b_M_measure 3 (some .int) [.ref (q 0), .int x1] v (mo_Qi D cI q o.1 o.2) := by
  refine mo_of (by decide +kernel) rfl (Nat.le_of_ble_eq_true rfl) ?_
  intro p e s m below meth c A ls C0 hr hl hH
  have hx := C0.1
  have hb := C0.2.1
  have hl : lv_has ls 3 [(0, .ref (q 0)), (1, .int x1)] := hl
  unfold f_M_measure at h
  refine lv_aload_n hx hb d_M_measure_0 rfl (lv_at hl 0 rfl) ?_
  refine lv_iload_n hx hb d_M_measure_1 rfl (lv_at hl 1 rfl) ?_
  obtain ⟨r_3, v_1, hc_2, h⟩ := bi_out h
  refine mo_ci (r := r_3) (w := v_1) (as := [.int x1]) (rest := []) C0 hH (c_M_kindOf hc_2) yy_M_kindOf q_1107 q_109 (by decide) rfl hl.1 rfl (Nat.le_of_ble_eq_true rfl) ⟨Nat.zero_le _, Nat.zero_le _⟩ d_M_measure_2 (fun H locs hH => ?_)
  refine lv_istore_n (lv' := [(2, .int r_3), (0, .ref (q 0)), (1, .int x1)]) hx hb d_M_measure_5 rfl hl (by decide) rfl (fun ls hl => ?_)
  refine lv_iload_n hx hb d_M_measure_6 rfl (lv_at hl 0 rfl) ?_
  refine lv_iconst (v := 1) hx hb d_M_measure_7 (by decide) ?_
  refine lv_icmp_eq (tgt := 16) hx hb d_M_measure_8 (by decide) (fun c_4 => ?_) (fun c_4 => ?_)
  · rw [if_pos c_4] at h
    exact w_M_measure_16 C0 hr   _ _ _ _ h hH (lv_sub hl [] rfl)
  · rw [if_neg c_4] at h
    refine lv_iload_n hx hb d_M_measure_11 rfl (lv_at hl 0 rfl) ?_
    refine lv_iconst (v := 2) hx hb d_M_measure_12 (by decide) ?_
    refine lv_icmp_ne (tgt := 18) hx hb d_M_measure_13 (by decide) (fun c_5 => ?_) (fun c_5 => ?_)
    · rw [if_neg c_5] at h
      refine lv_iload_n hx hb d_M_measure_18 rfl (lv_at hl 0 rfl) ?_
      refine lv_iconst (v := 3) hx hb d_M_measure_19 (by decide) ?_
      refine lv_icmp_ne (tgt := 54) hx hb d_M_measure_20 (by decide) (fun c_6 => ?_) (fun c_6 => ?_)
      · rw [if_neg c_6] at h
        refine lv_aload_n hx hb d_M_measure_54 rfl (lv_at hl 1 rfl) ?_
        refine lv_iload_n hx hb d_M_measure_55 rfl (lv_at hl 0 rfl) ?_
        refine lv_if_ne (tgt := 63) hx hb d_M_measure_56 (by decide) (fun c_7 => ?_) (fun c_7 => ?_)
        · rw [if_neg c_7] at h
          refine lv_aload_n hx hb d_M_measure_63 rfl (lv_at hl 1 rfl) ?_
          refine lv_iload_n hx hb d_M_measure_64 rfl (lv_at hl 2 rfl) ?_
          obtain ⟨r_10, v_8, hc_9, h⟩ := bi_out h
          refine mo_ci (r := r_10) (w := v_8) (as := [.int x1]) (rest := [.ref (q 0)]) C0 hH (c_M_size hc_9) yy_M_size q_1127 q_109 (by decide) rfl hl.1 rfl (Nat.le_of_ble_eq_true rfl) ⟨Nat.zero_le _, Nat.zero_le _⟩ d_M_measure_65 (fun H locs hH => ?_)
          refine lv_i2l hx hb d_M_measure_68 rfl ?_
          exact w_M_measure_69 C0 hr  _ _ _ _ _ h hH (lv_sub hl [] rfl)
        · rw [if_pos c_7] at h
          refine lv_lconst (v := 0) hx hb d_M_measure_59 (by decide) ?_
          refine lv_goto (tgt := 69) hx hb d_M_measure_60 (by decide) ?_
          exact w_M_measure_69 C0 hr  _ _ _ _ _ h hH (lv_sub hl [] rfl)
      · rw [if_pos c_6] at h
        refine lv_aload_n hx hb d_M_measure_23 rfl (lv_at hl 1 rfl) ?_
        refine lv_aload_n hx hb d_M_measure_24 rfl (lv_at hl 1 rfl) ?_
        refine lv_iload_n hx hb d_M_measure_25 rfl (lv_at hl 2 rfl) ?_
        obtain ⟨r_13, v_11, hc_12, h⟩ := bi_out h
        refine mo_cl (r := r_13) (w := v_11) (as := [.int x1]) (rest := [.ref (q 0)]) C0 hH (c_M_num hc_12) yy_M_num q_1182 q_109 (by decide) rfl hl.1 rfl (Nat.le_of_ble_eq_true rfl) ⟨Nat.zero_le _, Nat.zero_le _⟩ d_M_measure_26 (fun H locs hH => ?_)
        refine lv_lconst (v := 0) hx hb d_M_measure_29 (by decide) ?_
        refine W.lcmp hx hb d_M_measure_30 ?_
        refine lv_if_ge (tgt := 43) hx hb d_M_measure_31 (by decide) (fun c_14 => ?_) (fun c_14 => ?_)
        · rw [if_pos c_14] at h
          refine lv_aload_n hx hb d_M_measure_43 rfl (lv_at hl 1 rfl) ?_
          refine lv_iload_n hx hb d_M_measure_44 rfl (lv_at hl 2 rfl) ?_
          obtain ⟨r_17, v_15, hc_16, h⟩ := bi_out h
          refine mo_cl (r := r_17) (w := v_15) (as := [.int x1]) (rest := [.ref (q 0)]) C0 hH (c_M_num hc_16) yy_M_num q_1182 q_109 (by decide) rfl hl.1 rfl (Nat.le_of_ble_eq_true rfl) ⟨Nat.zero_le _, Nat.zero_le _⟩ d_M_measure_45 (fun H locs hH => ?_)
          exact w_M_measure_48 C0 hr  _ _ _ _ _ h hH (lv_sub hl [] rfl)
        · rw [if_neg c_14] at h
          refine lv_aload_n hx hb d_M_measure_34 rfl (lv_at hl 1 rfl) ?_
          refine lv_iload_n hx hb d_M_measure_35 rfl (lv_at hl 2 rfl) ?_
          obtain ⟨r_20, v_18, hc_19, h⟩ := bi_out h
          refine mo_cl (r := r_20) (w := v_18) (as := [.int x1]) (rest := [.ref (q 0)]) C0 hH (c_M_num hc_19) yy_M_num q_1182 q_109 (by decide) rfl hl.1 rfl (Nat.le_of_ble_eq_true rfl) ⟨Nat.zero_le _, Nat.zero_le _⟩ d_M_measure_36 (fun H locs hH => ?_)
          refine lv_lneg hx hb d_M_measure_39 ?_
          refine lv_goto (tgt := 48) hx hb d_M_measure_40 (by decide) ?_
          exact w_M_measure_48 C0 hr  _ _ _ _ _ h hH (lv_sub hl [] rfl)
    · rw [if_pos c_5] at h
      exact w_M_measure_16 C0 hr   _ _ _ _ h hH (lv_sub hl [] rfl)
theorem yy_M_stepTo : mo_Y y_M_stepTo b_M_stepTo 3 (some .int) 2 := ⟨rfl, q_1198, q_68, q_1199, by decide +kernel⟩
def f_M_stepTo_25  (y0 : Int32) (v : mS) : Option (Int32 × mS) := some (y0, v)
set_option maxHeartbeats 4000000 in
set_option maxRecDepth 100000 in
theorem w_M_stepTo_25 {p : Program} {l : Launch} {e : Env} {s : State} {m : MethodId} {args : Array Value} {below : List Frame} {meth : Method} {c : Code} {D : va_G} {cI : ClassId} {A : Nat → Prop} {q : Nat → Nat} {o : Int32 × mS} (C0 : mo_C b_M_stepTo 3 D cI A p s m args meth c) (hr : meth.sig.returnType = (some .int)) : ∀ (y0 : Int32) (v : mS) (H : Heap) (locs : List Loc) (ls : Array Slot), f_M_stepTo_25  y0 v = some o → mo_H D cI A s q v H locs → lv_has ls 3 [] → W p l e (mo_rm 3) s m args below meth c H locs 0 0 (MQ below (mo_Qi D cI q o.1 o.2 A) args s 0 0 A) (F0 m 25 ls [.int y0]) := by
  have hx := C0.1
  have hb := C0.2.1
  intro y0 v H locs ls h hH hl
  unfold f_M_stepTo_25 at h
  exact mo_iret C0 hr hH d_M_stepTo_25 h
def f_M_stepTo (v : mS) (x1 : Int32) (x2 : Int32) : Option (Int32 × mS) := bi (f_M_kindOf v x1) fun r_3 v_1 => if r_3 = 6 then (bi (f_M_name v_1 x1 x2) fun r_10 v_8 => f_M_stepTo_25 r_10 v_8) else (bi (f_M_whole v_1 ((x2 : Int32).toInt64)) fun r_7 v_5 => f_M_stepTo_25 r_7 v_5)
set_option maxHeartbeats 4000000 in
set_option maxRecDepth 100000 in
theorem c_M_stepTo {l : Launch} {D : va_G} {cI : ClassId} {q : Nat → Nat} {v : mS} {x1 : Int32} {x2 : Int32} {o : Int32 × mS} (h : f_M_stepTo v x1 x2 = some o) : mo_M l D cI q 3 y_M_stepTo b_M_stepTo 3 (some .int) [.ref (q 0), .int x1, .int x2] v (mo_Qi D cI q o.1 o.2) := by
  refine mo_of (by decide +kernel) rfl (Nat.le_of_ble_eq_true rfl) ?_
  intro p e s m below meth c A ls C0 hr hl hH
  have hx := C0.1
  have hb := C0.2.1
  have hl : lv_has ls 3 [(0, .ref (q 0)), (1, .int x1), (2, .int x2)] := hl
  unfold f_M_stepTo at h
  refine lv_aload_n hx hb d_M_stepTo_0 rfl (lv_at hl 0 rfl) ?_
  refine lv_iload_n hx hb d_M_stepTo_1 rfl (lv_at hl 1 rfl) ?_
  obtain ⟨r_3, v_1, hc_2, h⟩ := bi_out h
  refine mo_ci (r := r_3) (w := v_1) (as := [.int x1]) (rest := []) C0 hH (c_M_kindOf hc_2) yy_M_kindOf q_1107 q_109 (by decide) rfl hl.1 rfl (Nat.le_of_ble_eq_true rfl) ⟨Nat.zero_le _, Nat.zero_le _⟩ d_M_stepTo_2 (fun H locs hH => ?_)
  refine lv_bipush (v := 6) hx hb d_M_stepTo_5 (by decide) ?_
  refine lv_icmp_ne (tgt := 19) hx hb d_M_stepTo_7 (by decide) (fun c_4 => ?_) (fun c_4 => ?_)
  · rw [if_neg c_4] at h
    refine lv_aload_n hx hb d_M_stepTo_19 rfl (lv_at hl 0 rfl) ?_
    refine lv_iload_n hx hb d_M_stepTo_20 rfl (lv_at hl 2 rfl) ?_
    refine lv_i2l hx hb d_M_stepTo_21 rfl ?_
    obtain ⟨r_7, v_5, hc_6, h⟩ := bi_out h
    refine mo_ci (r := r_7) (w := v_5) (as := [.long ((x2 : Int32).toInt64)]) (rest := []) C0 hH (c_M_whole hc_6) yy_M_whole q_1187 q_109 (by decide) rfl hl.1 rfl (Nat.le_of_ble_eq_true rfl) ⟨Nat.zero_le _, Nat.zero_le _⟩ d_M_stepTo_22 (fun H locs hH => ?_)
    exact w_M_stepTo_25 C0 hr  _ _ _ _ _ h hH (lv_sub hl [] rfl)
  · rw [if_pos c_4] at h
    refine lv_aload_n hx hb d_M_stepTo_10 rfl (lv_at hl 0 rfl) ?_
    refine lv_iload_n hx hb d_M_stepTo_11 rfl (lv_at hl 1 rfl) ?_
    refine lv_iload_n hx hb d_M_stepTo_12 rfl (lv_at hl 2 rfl) ?_
    obtain ⟨r_10, v_8, hc_9, h⟩ := bi_out h
    refine mo_ci (r := r_10) (w := v_8) (as := [.int x1, .int x2]) (rest := []) C0 hH (c_M_name hc_9) yy_M_name q_1131 q_109 (by decide) rfl hl.1 rfl (Nat.le_of_ble_eq_true rfl) ⟨Nat.zero_le _, Nat.zero_le _⟩ d_M_stepTo_13 (fun H locs hH => ?_)
    refine lv_goto (tgt := 25) hx hb d_M_stepTo_16 (by decide) ?_
    exact w_M_stepTo_25 C0 hr  _ _ _ _ _ h hH (lv_sub hl [] rfl)
theorem yy_M_keys : mo_Y y_M_keys b_M_keys 4 (some .int) 1 := ⟨rfl, q_1194, q_67, q_1195, by decide +kernel⟩
def f_M_keys_47  : Nat → Int32 → Int32 → mS → Option (Int32 × mS)
  | 0, _, _, _ => none
  | n + 1, x2, x3, v => if x2 ≤ x3 then (bi (f_M_array v x2) fun r_4 v_2 => some (r_4, v_2)) else (gd (inB (32 + x3) 64) (gd (inB x3 64) (nm (sU v 10 (x3 : Int32).toNatClampNeg (v 11 (32 + x3 : Int32).toNatClampNeg)) fun v_7 => nm (x3 + 1) fun x3_8 => f_M_keys_47 n x2 x3_8 v_7)))
set_option maxHeartbeats 4000000 in
set_option maxRecDepth 100000 in
theorem w_M_keys_47 {p : Program} {l : Launch} {e : Env} {s : State} {m : MethodId} {args : Array Value} {below : List Frame} {meth : Method} {c : Code} {D : va_G} {cI : ClassId} {A : Nat → Prop} {q : Nat → Nat} {o : Int32 × mS} (C0 : mo_C b_M_keys 4 D cI A p s m args meth c) (hr : meth.sig.returnType = (some .int)) : ∀ (n : Nat) (x2 : Int32) (x3 : Int32) (v : mS) (H : Heap) (locs : List Loc) (ls : Array Slot), f_M_keys_47  n x2 x3 v = some o → mo_H D cI A s q v H locs → lv_has ls 4 [(0, .ref (q 0)), (2, .int x2), (3, .int x3)] → W p l e (mo_rm 4) s m args below meth c H locs 0 0 (MQ below (mo_Qi D cI q o.1 o.2 A) args s 0 0 A) (F0 m 47 ls []) := by
  have hx := C0.1
  have hb := C0.2.1
  intro n
  induction n with
  | zero =>
    intro x2 x3 v H locs ls h hH hl
    cases h
  | succ n ih =>
    intro x2 x3 v H locs ls h hH hl
    rw [f_M_keys_47] at h
    refine lv_iload_n hx hb d_M_keys_47 rfl (lv_at hl 2 rfl) ?_
    refine lv_iload_n hx hb d_M_keys_48 rfl (lv_at hl 1 rfl) ?_
    refine lv_icmp_ge (tgt := 73) hx hb d_M_keys_49 (by decide) (fun c_1 => ?_) (fun c_1 => ?_)
    · rw [if_pos c_1] at h
      refine lv_aload_n hx hb d_M_keys_73 rfl (lv_at hl 0 rfl) ?_
      refine lv_iload_n hx hb d_M_keys_74 rfl (lv_at hl 1 rfl) ?_
      obtain ⟨r_4, v_2, hc_3, h⟩ := bi_out h
      refine mo_ci (r := r_4) (w := v_2) (as := [.int x2]) (rest := []) C0 hH (c_M_array hc_3) yy_M_array q_1166 q_109 (by decide) rfl hl.1 rfl (Nat.le_of_ble_eq_true rfl) ⟨Nat.zero_le _, Nat.zero_le _⟩ d_M_keys_75 (fun H locs hH => ?_)
      exact mo_iret C0 hr hH d_M_keys_78 h
    · rw [if_neg c_1] at h
      refine lv_aload_n hx hb d_M_keys_52 rfl (lv_at hl 0 rfl) ?_
      refine mo_r_items C0 hH d_M_keys_53 ?_
      refine lv_iload_n hx hb d_M_keys_56 rfl (lv_at hl 2 rfl) ?_
      refine lv_aload_n hx hb d_M_keys_57 rfl (lv_at hl 0 rfl) ?_
      refine mo_r_names C0 hH d_M_keys_58 ?_
      refine lv_bipush (v := 32) hx hb d_M_keys_61 (by decide) ?_
      refine lv_iload_n hx hb d_M_keys_63 rfl (lv_at hl 2 rfl) ?_
      refine lv_iadd hx hb d_M_keys_64 ?_
      obtain ⟨g_5, h⟩ := gd_out h
      refine mo_ld 11 (by decide) (by decide) C0 hH (inB_in g_5) d_M_keys_65 ?_
      obtain ⟨g_6, h⟩ := gd_out h
      obtain ⟨v_7, hv_7, h⟩ := nm_out h
      refine mo_st 10 (by decide) (by decide) C0 hH (inB_in g_6) d_M_keys_66 (fun H locs hH => ?_)
      rw [← hv_7] at hH
      obtain ⟨x3_8, hx3_8, h⟩ := nm_out h
      refine lv_iinc (v := x3_8) (lv' := [(3, .int x3_8), (0, .ref (q 0)), (2, .int x2)]) hx hb d_M_keys_67 hl (k := 2) rfl (by rw [hx3_8]; rfl) (by decide) rfl (fun ls hl => ?_)
      refine lv_goto (tgt := 47) hx hb d_M_keys_70 (by decide) ?_
      exact ih _ _ _ _ _ _ h hH (lv_sub hl [1, 2, 0] rfl)
def f_M_keys_19  : Nat → Int32 → Int32 → Int32 → mS → Option (Int32 × mS)
  | 0, _, _, _, _ => none
  | n + 1, x1, x2, x3, v => if x2 ≤ x3 then (f_M_keys_47 fu x2 0 v) else (bi (f_M_stepTo v x1 x3) fun r_4 v_2 => gd (inB (32 + x3) 64) (nm (sU v_2 11 (32 + x3 : Int32).toNatClampNeg r_4) fun v_6 => nm (x3 + 1) fun x3_7 => f_M_keys_19 n x1 x2 x3_7 v_6))
set_option maxHeartbeats 4000000 in
set_option maxRecDepth 100000 in
theorem w_M_keys_19 {p : Program} {l : Launch} {e : Env} {s : State} {m : MethodId} {args : Array Value} {below : List Frame} {meth : Method} {c : Code} {D : va_G} {cI : ClassId} {A : Nat → Prop} {q : Nat → Nat} {o : Int32 × mS} (C0 : mo_C b_M_keys 4 D cI A p s m args meth c) (hr : meth.sig.returnType = (some .int)) : ∀ (n : Nat) (x1 : Int32) (x2 : Int32) (x3 : Int32) (v : mS) (H : Heap) (locs : List Loc) (ls : Array Slot), f_M_keys_19  n x1 x2 x3 v = some o → mo_H D cI A s q v H locs → lv_has ls 4 [(0, .ref (q 0)), (1, .int x1), (2, .int x2), (3, .int x3)] → W p l e (mo_rm 4) s m args below meth c H locs 0 0 (MQ below (mo_Qi D cI q o.1 o.2 A) args s 0 0 A) (F0 m 19 ls []) := by
  have hx := C0.1
  have hb := C0.2.1
  intro n
  induction n with
  | zero =>
    intro x1 x2 x3 v H locs ls h hH hl
    cases h
  | succ n ih =>
    intro x1 x2 x3 v H locs ls h hH hl
    rw [f_M_keys_19] at h
    refine lv_iload_n hx hb d_M_keys_19 rfl (lv_at hl 3 rfl) ?_
    refine lv_iload_n hx hb d_M_keys_20 rfl (lv_at hl 2 rfl) ?_
    refine lv_icmp_ge (tgt := 45) hx hb d_M_keys_21 (by decide) (fun c_1 => ?_) (fun c_1 => ?_)
    · rw [if_pos c_1] at h
      refine lv_iconst (v := 0) hx hb d_M_keys_45 (by decide) ?_
      refine lv_istore_n (lv' := [(3, .int 0), (0, .ref (q 0)), (1, .int x1), (2, .int x2)]) hx hb d_M_keys_46 rfl hl (by decide) rfl (fun ls hl => ?_)
      exact w_M_keys_47 C0 hr  fu _ _ _ _ _ _ h hH (lv_sub hl [1, 3, 0] rfl)
    · rw [if_neg c_1] at h
      refine lv_aload_n hx hb d_M_keys_24 rfl (lv_at hl 0 rfl) ?_
      refine mo_r_names C0 hH d_M_keys_25 ?_
      refine lv_bipush (v := 32) hx hb d_M_keys_28 (by decide) ?_
      refine lv_iload_n hx hb d_M_keys_30 rfl (lv_at hl 3 rfl) ?_
      refine lv_iadd hx hb d_M_keys_31 ?_
      refine lv_aload_n hx hb d_M_keys_32 rfl (lv_at hl 0 rfl) ?_
      refine lv_iload_n hx hb d_M_keys_33 rfl (lv_at hl 1 rfl) ?_
      refine lv_iload_n hx hb d_M_keys_34 rfl (lv_at hl 3 rfl) ?_
      obtain ⟨r_4, v_2, hc_3, h⟩ := bi_out h
      refine mo_ci (r := r_4) (w := v_2) (as := [.int x1, .int x3]) (rest := [.int (32 + x3), .ref (q 11)]) C0 hH (c_M_stepTo hc_3) yy_M_stepTo q_1196 q_109 (by decide) rfl hl.1 rfl (Nat.le_of_ble_eq_true rfl) ⟨Nat.zero_le _, Nat.zero_le _⟩ d_M_keys_35 (fun H locs hH => ?_)
      obtain ⟨g_5, h⟩ := gd_out h
      obtain ⟨v_6, hv_6, h⟩ := nm_out h
      refine mo_st 11 (by decide) (by decide) C0 hH (inB_in g_5) d_M_keys_38 (fun H locs hH => ?_)
      rw [← hv_6] at hH
      obtain ⟨x3_7, hx3_7, h⟩ := nm_out h
      refine lv_iinc (v := x3_7) (lv' := [(3, .int x3_7), (0, .ref (q 0)), (1, .int x1), (2, .int x2)]) hx hb d_M_keys_39 hl (k := 3) rfl (by rw [hx3_7]; rfl) (by decide) rfl (fun ls hl => ?_)
      refine lv_goto (tgt := 19) hx hb d_M_keys_42 (by decide) ?_
      exact ih _ _ _ _ _ _ _ h hH (lv_sub hl [1, 2, 3, 0] rfl)
def f_M_keys (v : mS) (x1 : Int32) : Option (Int32 × mS) := bi (f_M_kindOf v x1) fun r_3 v_1 => if 5 ≤ r_3 then (bi (f_M_size v_1 x1) fun r_7 v_5 => f_M_keys_19 fu x1 r_7 0 v_5) else (some ((-1), v_1))
set_option maxHeartbeats 4000000 in
set_option maxRecDepth 100000 in
theorem c_M_keys {l : Launch} {D : va_G} {cI : ClassId} {q : Nat → Nat} {v : mS} {x1 : Int32} {o : Int32 × mS} (h : f_M_keys v x1 = some o) : mo_M l D cI q 4 y_M_keys b_M_keys 4 (some .int) [.ref (q 0), .int x1] v (mo_Qi D cI q o.1 o.2) := by
  refine mo_of (by decide +kernel) rfl (Nat.le_of_ble_eq_true rfl) ?_
  intro p e s m below meth c A ls C0 hr hl hH
  have hx := C0.1
  have hb := C0.2.1
  have hl : lv_has ls 4 [(0, .ref (q 0)), (1, .int x1)] := hl
  unfold f_M_keys at h
  refine lv_aload_n hx hb d_M_keys_0 rfl (lv_at hl 0 rfl) ?_
  refine lv_iload_n hx hb d_M_keys_1 rfl (lv_at hl 1 rfl) ?_
  obtain ⟨r_3, v_1, hc_2, h⟩ := bi_out h
  refine mo_ci (r := r_3) (w := v_1) (as := [.int x1]) (rest := []) C0 hH (c_M_kindOf hc_2) yy_M_kindOf q_1107 q_109 (by decide) rfl hl.1 rfl (Nat.le_of_ble_eq_true rfl) ⟨Nat.zero_le _, Nat.zero_le _⟩ d_M_keys_2 (fun H locs hH => ?_)
  refine lv_iconst (v := 5) hx hb d_M_keys_5 (by decide) ?_
  refine lv_icmp_ge (tgt := 11) hx hb d_M_keys_6 (by decide) (fun c_4 => ?_) (fun c_4 => ?_)
  · rw [if_pos c_4] at h
    refine lv_aload_n hx hb d_M_keys_11 rfl (lv_at hl 0 rfl) ?_
    refine lv_iload_n hx hb d_M_keys_12 rfl (lv_at hl 1 rfl) ?_
    obtain ⟨r_7, v_5, hc_6, h⟩ := bi_out h
    refine mo_ci (r := r_7) (w := v_5) (as := [.int x1]) (rest := []) C0 hH (c_M_size hc_6) yy_M_size q_1127 q_109 (by decide) rfl hl.1 rfl (Nat.le_of_ble_eq_true rfl) ⟨Nat.zero_le _, Nat.zero_le _⟩ d_M_keys_13 (fun H locs hH => ?_)
    refine lv_istore_n (lv' := [(2, .int r_7), (0, .ref (q 0)), (1, .int x1)]) hx hb d_M_keys_16 rfl hl (by decide) rfl (fun ls hl => ?_)
    refine lv_iconst (v := 0) hx hb d_M_keys_17 (by decide) ?_
    refine lv_istore_n (lv' := [(3, .int 0), (2, .int r_7), (0, .ref (q 0)), (1, .int x1)]) hx hb d_M_keys_18 rfl hl (by decide) rfl (fun ls hl => ?_)
    exact w_M_keys_19 C0 hr  fu _ _ _ _ _ _ _ h hH (lv_sub hl [2, 3, 1, 0] rfl)
  · rw [if_neg c_4] at h
    refine lv_iconst (v := (-1)) hx hb d_M_keys_9 (by decide) ?_
    exact mo_iret C0 hr hH d_M_keys_10 h
theorem yy_M_sorted : mo_Y y_M_sorted b_M_sorted 6 (some .int) 1 := ⟨rfl, q_1206, q_70, q_1207, by decide +kernel⟩
def f_M_sorted_69 (K8 : Int32 → Int32 → Int32 → mS → Option (Int32 × mS)) (x1 : Int32) (x2 : Int32) (x3 : Int32) (x4 : Int32) (x5 : Int32) (v : mS) : Option (Int32 × mS) := gd (inB x5 64) (nm (sU v 10 (x5 : Int32).toNatClampNeg x4) fun v_2 => nm (x3 + 1) fun x3_3 => K8 x1 x2 x3_3 v_2)
set_option maxHeartbeats 4000000 in
set_option maxRecDepth 100000 in
theorem w_M_sorted_69 {p : Program} {l : Launch} {e : Env} {s : State} {m : MethodId} {args : Array Value} {below : List Frame} {meth : Method} {c : Code} {D : va_G} {cI : ClassId} {A : Nat → Prop} {q : Nat → Nat} {o : Int32 × mS} (C0 : mo_C b_M_sorted 6 D cI A p s m args meth c) (hr : meth.sig.returnType = (some .int)) {K8 : Int32 → Int32 → Int32 → mS → Option (Int32 × mS)} (hK8 : ∀ (x1 : Int32) (x2 : Int32) (x3 : Int32) (v : mS) (H : Heap) (locs : List Loc) (ls : Array Slot), K8 x1 x2 x3 v = some o → mo_H D cI A s q v H locs → lv_has ls 6 [(0, .ref (q 0)), (1, .int x1), (2, .int x2), (3, .int x3)] → W p l e (mo_rm 4) s m args below meth c H locs 0 0 (MQ below (mo_Qi D cI q o.1 o.2 A) args s 0 0 A) (F0 m 8 ls [])) : ∀ (x1 : Int32) (x2 : Int32) (x3 : Int32) (x4 : Int32) (x5 : Int32) (v : mS) (H : Heap) (locs : List Loc) (ls : Array Slot), f_M_sorted_69 K8 x1 x2 x3 x4 x5 v = some o → mo_H D cI A s q v H locs → lv_has ls 6 [(0, .ref (q 0)), (1, .int x1), (2, .int x2), (3, .int x3), (4, .int x4), (5, .int x5)] → W p l e (mo_rm 4) s m args below meth c H locs 0 0 (MQ below (mo_Qi D cI q o.1 o.2 A) args s 0 0 A) (F0 m 69 ls []) := by
  have hx := C0.1
  have hb := C0.2.1
  intro x1 x2 x3 x4 x5 v H locs ls h hH hl
  unfold f_M_sorted_69 at h
  refine lv_aload_n hx hb d_M_sorted_69 rfl (lv_at hl 0 rfl) ?_
  refine mo_r_items C0 hH d_M_sorted_70 ?_
  refine lv_iload hx hb d_M_sorted_73 (lv_at hl 5 rfl) ?_
  refine lv_iload hx hb d_M_sorted_75 (lv_at hl 4 rfl) ?_
  obtain ⟨g_1, h⟩ := gd_out h
  obtain ⟨v_2, hv_2, h⟩ := nm_out h
  refine mo_st 10 (by decide) (by decide) C0 hH (inB_in g_1) d_M_sorted_77 (fun H locs hH => ?_)
  rw [← hv_2] at hH
  obtain ⟨x3_3, hx3_3, h⟩ := nm_out h
  refine lv_iinc (v := x3_3) (lv' := [(3, .int x3_3), (0, .ref (q 0)), (1, .int x1), (2, .int x2), (4, .int x4), (5, .int x5)]) hx hb d_M_sorted_78 hl (k := 3) rfl (by rw [hx3_3]; rfl) (by decide) rfl (fun ls hl => ?_)
  refine lv_goto (tgt := 8) hx hb d_M_sorted_81 (by decide) ?_
  exact hK8 _ _ _ _ _ _ _ h hH (lv_sub hl [1, 2, 3, 0] rfl)
def f_M_sorted_24 (K8 : Int32 → Int32 → Int32 → mS → Option (Int32 × mS)) : Nat → Int32 → Int32 → Int32 → Int32 → Int32 → mS → Option (Int32 × mS)
  | 0, _, _, _, _, _, _ => none
  | n + 1, x1, x2, x3, x4, x5, v => if x5 ≤ 0 then (f_M_sorted_69 K8 x1 x2 x3 x4 x5 v) else (gd (inB (x5 - 1) 64) (bi (f_M_ordered v (v 10 (x5 - 1 : Int32).toNatClampNeg) x4) fun r_5 v_3 => if r_5 ≤ 0 then (f_M_sorted_69 K8 x1 x2 x3 x4 x5 v_3) else (gd (inB (x5 - 1) 64) (gd (inB x5 64) (nm (sU v_3 10 (x5 : Int32).toNatClampNeg (v_3 10 (x5 - 1 : Int32).toNatClampNeg)) fun v_9 => nm (x5 + (-1)) fun x5_10 => f_M_sorted_24 K8 n x1 x2 x3 x4 x5_10 v_9)))))
set_option maxHeartbeats 4000000 in
set_option maxRecDepth 100000 in
theorem w_M_sorted_24 {p : Program} {l : Launch} {e : Env} {s : State} {m : MethodId} {args : Array Value} {below : List Frame} {meth : Method} {c : Code} {D : va_G} {cI : ClassId} {A : Nat → Prop} {q : Nat → Nat} {o : Int32 × mS} (C0 : mo_C b_M_sorted 6 D cI A p s m args meth c) (hr : meth.sig.returnType = (some .int)) {K8 : Int32 → Int32 → Int32 → mS → Option (Int32 × mS)} (hK8 : ∀ (x1 : Int32) (x2 : Int32) (x3 : Int32) (v : mS) (H : Heap) (locs : List Loc) (ls : Array Slot), K8 x1 x2 x3 v = some o → mo_H D cI A s q v H locs → lv_has ls 6 [(0, .ref (q 0)), (1, .int x1), (2, .int x2), (3, .int x3)] → W p l e (mo_rm 4) s m args below meth c H locs 0 0 (MQ below (mo_Qi D cI q o.1 o.2 A) args s 0 0 A) (F0 m 8 ls [])) : ∀ (n : Nat) (x1 : Int32) (x2 : Int32) (x3 : Int32) (x4 : Int32) (x5 : Int32) (v : mS) (H : Heap) (locs : List Loc) (ls : Array Slot), f_M_sorted_24 K8 n x1 x2 x3 x4 x5 v = some o → mo_H D cI A s q v H locs → lv_has ls 6 [(0, .ref (q 0)), (1, .int x1), (2, .int x2), (3, .int x3), (4, .int x4), (5, .int x5)] → W p l e (mo_rm 4) s m args below meth c H locs 0 0 (MQ below (mo_Qi D cI q o.1 o.2 A) args s 0 0 A) (F0 m 24 ls []) := by
  have hx := C0.1
  have hb := C0.2.1
  intro n
  induction n with
  | zero =>
    intro x1 x2 x3 x4 x5 v H locs ls h hH hl
    cases h
  | succ n ih =>
    intro x1 x2 x3 x4 x5 v H locs ls h hH hl
    rw [f_M_sorted_24] at h
    refine lv_iload hx hb d_M_sorted_24 (lv_at hl 5 rfl) ?_
    refine lv_if_le (tgt := 69) hx hb d_M_sorted_26 (by decide) (fun c_1 => ?_) (fun c_1 => ?_)
    · rw [if_pos c_1] at h
      exact w_M_sorted_69 C0 hr hK8 _ _ _ _ _ _ _ _ _ h hH (lv_sub hl [0, 1, 2, 3, 4, 5] rfl)
    · rw [if_neg c_1] at h
      refine lv_aload_n hx hb d_M_sorted_29 rfl (lv_at hl 0 rfl) ?_
      refine lv_aload_n hx hb d_M_sorted_30 rfl (lv_at hl 0 rfl) ?_
      refine mo_r_items C0 hH d_M_sorted_31 ?_
      refine lv_iload hx hb d_M_sorted_34 (lv_at hl 5 rfl) ?_
      refine lv_iconst (v := 1) hx hb d_M_sorted_36 (by decide) ?_
      refine lv_isub hx hb d_M_sorted_37 ?_
      obtain ⟨g_2, h⟩ := gd_out h
      refine mo_ld 10 (by decide) (by decide) C0 hH (inB_in g_2) d_M_sorted_38 ?_
      refine lv_iload hx hb d_M_sorted_39 (lv_at hl 4 rfl) ?_
      obtain ⟨r_5, v_3, hc_4, h⟩ := bi_out h
      refine mo_ci (r := r_5) (w := v_3) (as := [.int (v 10 (x5 - 1 : Int32).toNatClampNeg), .int x4]) (rest := []) C0 hH (c_M_ordered hc_4) yy_M_ordered q_1208 q_109 (by decide) rfl hl.1 rfl (Nat.le_of_ble_eq_true rfl) ⟨Nat.zero_le _, Nat.zero_le _⟩ d_M_sorted_41 (fun H locs hH => ?_)
      refine lv_if_le (tgt := 69) hx hb d_M_sorted_44 (by decide) (fun c_6 => ?_) (fun c_6 => ?_)
      · rw [if_pos c_6] at h
        exact w_M_sorted_69 C0 hr hK8 _ _ _ _ _ _ _ _ _ h hH (lv_sub hl [0, 1, 2, 3, 4, 5] rfl)
      · rw [if_neg c_6] at h
        refine lv_aload_n hx hb d_M_sorted_47 rfl (lv_at hl 0 rfl) ?_
        refine mo_r_items C0 hH d_M_sorted_48 ?_
        refine lv_iload hx hb d_M_sorted_51 (lv_at hl 5 rfl) ?_
        refine lv_aload_n hx hb d_M_sorted_53 rfl (lv_at hl 0 rfl) ?_
        refine mo_r_items C0 hH d_M_sorted_54 ?_
        refine lv_iload hx hb d_M_sorted_57 (lv_at hl 5 rfl) ?_
        refine lv_iconst (v := 1) hx hb d_M_sorted_59 (by decide) ?_
        refine lv_isub hx hb d_M_sorted_60 ?_
        obtain ⟨g_7, h⟩ := gd_out h
        refine mo_ld 10 (by decide) (by decide) C0 hH (inB_in g_7) d_M_sorted_61 ?_
        obtain ⟨g_8, h⟩ := gd_out h
        obtain ⟨v_9, hv_9, h⟩ := nm_out h
        refine mo_st 10 (by decide) (by decide) C0 hH (inB_in g_8) d_M_sorted_62 (fun H locs hH => ?_)
        rw [← hv_9] at hH
        obtain ⟨x5_10, hx5_10, h⟩ := nm_out h
        refine lv_iinc (v := x5_10) (lv' := [(5, .int x5_10), (0, .ref (q 0)), (1, .int x1), (2, .int x2), (3, .int x3), (4, .int x4)]) hx hb d_M_sorted_63 hl (k := 5) rfl (by rw [hx5_10]; rfl) (by decide) rfl (fun ls hl => ?_)
        refine lv_goto (tgt := 24) hx hb d_M_sorted_66 (by decide) ?_
        exact ih _ _ _ _ _ _ _ _ _ h hH (lv_sub hl [1, 2, 3, 4, 5, 0] rfl)
def f_M_sorted_8  : Nat → Int32 → Int32 → Int32 → mS → Option (Int32 × mS)
  | 0, _, _, _, _ => none
  | n + 1, x1, x2, x3, v => if x2 ≤ x3 then (bi (f_M_array v x2) fun r_4 v_2 => some (r_4, v_2)) else (bi (f_M_item v x1 x3) fun r_7 v_5 => f_M_sorted_24 (f_M_sorted_8 n) fu x1 x2 x3 r_7 x3 v_5)
set_option maxHeartbeats 4000000 in
set_option maxRecDepth 100000 in
theorem w_M_sorted_8 {p : Program} {l : Launch} {e : Env} {s : State} {m : MethodId} {args : Array Value} {below : List Frame} {meth : Method} {c : Code} {D : va_G} {cI : ClassId} {A : Nat → Prop} {q : Nat → Nat} {o : Int32 × mS} (C0 : mo_C b_M_sorted 6 D cI A p s m args meth c) (hr : meth.sig.returnType = (some .int)) : ∀ (n : Nat) (x1 : Int32) (x2 : Int32) (x3 : Int32) (v : mS) (H : Heap) (locs : List Loc) (ls : Array Slot), f_M_sorted_8  n x1 x2 x3 v = some o → mo_H D cI A s q v H locs → lv_has ls 6 [(0, .ref (q 0)), (1, .int x1), (2, .int x2), (3, .int x3)] → W p l e (mo_rm 4) s m args below meth c H locs 0 0 (MQ below (mo_Qi D cI q o.1 o.2 A) args s 0 0 A) (F0 m 8 ls []) := by
  have hx := C0.1
  have hb := C0.2.1
  intro n
  induction n with
  | zero =>
    intro x1 x2 x3 v H locs ls h hH hl
    cases h
  | succ n ih =>
    intro x1 x2 x3 v H locs ls h hH hl
    rw [f_M_sorted_8] at h
    refine lv_iload_n hx hb d_M_sorted_8 rfl (lv_at hl 3 rfl) ?_
    refine lv_iload_n hx hb d_M_sorted_9 rfl (lv_at hl 2 rfl) ?_
    refine lv_icmp_ge (tgt := 84) hx hb d_M_sorted_10 (by decide) (fun c_1 => ?_) (fun c_1 => ?_)
    · rw [if_pos c_1] at h
      refine lv_aload_n hx hb d_M_sorted_84 rfl (lv_at hl 0 rfl) ?_
      refine lv_iload_n hx hb d_M_sorted_85 rfl (lv_at hl 2 rfl) ?_
      obtain ⟨r_4, v_2, hc_3, h⟩ := bi_out h
      refine mo_ci (r := r_4) (w := v_2) (as := [.int x2]) (rest := []) C0 hH (c_M_array hc_3) yy_M_array q_1166 q_109 (by decide) rfl hl.1 rfl (Nat.le_of_ble_eq_true rfl) ⟨Nat.zero_le _, Nat.zero_le _⟩ d_M_sorted_86 (fun H locs hH => ?_)
      exact mo_iret C0 hr hH d_M_sorted_89 h
    · rw [if_neg c_1] at h
      refine lv_aload_n hx hb d_M_sorted_13 rfl (lv_at hl 0 rfl) ?_
      refine lv_iload_n hx hb d_M_sorted_14 rfl (lv_at hl 1 rfl) ?_
      refine lv_iload_n hx hb d_M_sorted_15 rfl (lv_at hl 3 rfl) ?_
      obtain ⟨r_7, v_5, hc_6, h⟩ := bi_out h
      refine mo_ci (r := r_7) (w := v_5) (as := [.int x1, .int x3]) (rest := []) C0 hH (c_M_item hc_6) yy_M_item q_1142 q_109 (by decide) rfl hl.1 rfl (Nat.le_of_ble_eq_true rfl) ⟨Nat.zero_le _, Nat.zero_le _⟩ d_M_sorted_16 (fun H locs hH => ?_)
      refine lv_istore (lv' := [(4, .int r_7), (0, .ref (q 0)), (1, .int x1), (2, .int x2), (3, .int x3)]) hx hb d_M_sorted_19 hl (by decide) rfl (fun ls hl => ?_)
      refine lv_iload_n hx hb d_M_sorted_21 rfl (lv_at hl 4 rfl) ?_
      refine lv_istore (lv' := [(5, .int x3), (4, .int r_7), (0, .ref (q 0)), (1, .int x1), (2, .int x2), (3, .int x3)]) hx hb d_M_sorted_22 hl (by decide) rfl (fun ls hl => ?_)
      exact w_M_sorted_24 C0 hr ih fu _ _ _ _ _ _ _ _ _ h hH (lv_sub hl [2, 3, 4, 5, 1, 0] rfl)
def f_M_sorted (v : mS) (x1 : Int32) : Option (Int32 × mS) := bi (f_M_size v x1) fun r_3 v_1 => f_M_sorted_8 fu x1 r_3 0 v_1
set_option maxHeartbeats 4000000 in
set_option maxRecDepth 100000 in
theorem c_M_sorted {l : Launch} {D : va_G} {cI : ClassId} {q : Nat → Nat} {v : mS} {x1 : Int32} {o : Int32 × mS} (h : f_M_sorted v x1 = some o) : mo_M l D cI q 4 y_M_sorted b_M_sorted 6 (some .int) [.ref (q 0), .int x1] v (mo_Qi D cI q o.1 o.2) := by
  refine mo_of (by decide +kernel) rfl (Nat.le_of_ble_eq_true rfl) ?_
  intro p e s m below meth c A ls C0 hr hl hH
  have hx := C0.1
  have hb := C0.2.1
  have hl : lv_has ls 6 [(0, .ref (q 0)), (1, .int x1)] := hl
  unfold f_M_sorted at h
  refine lv_aload_n hx hb d_M_sorted_0 rfl (lv_at hl 0 rfl) ?_
  refine lv_iload_n hx hb d_M_sorted_1 rfl (lv_at hl 1 rfl) ?_
  obtain ⟨r_3, v_1, hc_2, h⟩ := bi_out h
  refine mo_ci (r := r_3) (w := v_1) (as := [.int x1]) (rest := []) C0 hH (c_M_size hc_2) yy_M_size q_1127 q_109 (by decide) rfl hl.1 rfl (Nat.le_of_ble_eq_true rfl) ⟨Nat.zero_le _, Nat.zero_le _⟩ d_M_sorted_2 (fun H locs hH => ?_)
  refine lv_istore_n (lv' := [(2, .int r_3), (0, .ref (q 0)), (1, .int x1)]) hx hb d_M_sorted_5 rfl hl (by decide) rfl (fun ls hl => ?_)
  refine lv_iconst (v := 0) hx hb d_M_sorted_6 (by decide) ?_
  refine lv_istore_n (lv' := [(3, .int 0), (2, .int r_3), (0, .ref (q 0)), (1, .int x1)]) hx hb d_M_sorted_7 rfl hl (by decide) rfl (fun ls hl => ?_)
  exact w_M_sorted_8 C0 hr  fu _ _ _ _ _ _ _ h hH (lv_sub hl [2, 3, 1, 0] rfl)
