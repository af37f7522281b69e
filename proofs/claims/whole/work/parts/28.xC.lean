/-! methods of the class that may throw or make (by program: wip/gen/xgen.py) -/
def f_V_open_75  (x1 : Int32) (x2 : Int32) (x3 : Int32) (g : Nat → Nat) (v : mS) : Option (bO Int32) := bv (f_V_setHead g v x3 x1 x2) fun v_1 => some (.inl (x3), g, v_1)
set_option maxHeartbeats 4000000 in
set_option maxRecDepth 100000 in
theorem w_V_open_75 {p : Program} {l : Launch} {e : Env} {s : State} {m : MethodId} {args : Array Value} {below : List Frame} {meth : Method} {c : Code} {Z : bZ} {A : Nat → Prop} {q0 g0 : Nat → Nat} {o : bO Int32}  (C0 : bn_C "FilterBench$Values" b_V_open 4 Z A p l s m args meth c) (hr : meth.sig.returnType = (some .int)) (hnx : ∀ x ∈ c.exceptionTable.toList, False) : ∀ (x1 : Int32) (x2 : Int32) (x3 : Int32) (g : Nat → Nat) (v : mS) (q : Nat → Nat) (H : Heap) (locs : List Loc) (ls : Array Slot), f_V_open_75  x1 x2 x3 g v = some o → qs q0 q → gL g0 ≤ gL g → gL g ≤ gL o.2.1 → bn_H Z A s (q, g, v) H locs → lv_has ls 4 [(0, .ref (q 1)), (1, .int x1), (2, .int x2), (3, .int x3)] → bx_W p l e s m args below meth c Z A q0 g0 enI o 6 g H locs (F0 m 75 ls []) := by
  have hx := C0.1
  have hb := C0.2.1
  have hl0 := C0.2.2.2.2.2.2.2.2.2
  intro x1 x2 x3 g v q H locs ls h hq hm0 hm hH hl
  unfold f_V_open_75 at h
  have hcl9 := bx_room (h0 := 6) (o := o) hm0 hm
  refine lv_aload_n hx hb d_V_open_75 rfl (lv_at hl 0 rfl) ?_
  refine lv_iload_n hx hb d_V_open_76 rfl (lv_at hl 3 rfl) ?_
  refine lv_iload_n hx hb d_V_open_77 rfl (lv_at hl 1 rfl) ?_
  refine lv_iload_n hx hb d_V_open_78 rfl (lv_at hl 2 rfl) ?_
  obtain ⟨v_1, hc_2, h⟩ := bv_out h
  refine bn_cv (w := (q, g, v_1)) (as := [.int x3, .int x1, .int x2]) (rest := []) C0 hH (ci := 4) ⟨by decide, by decide⟩ (by decide) rfl (c_V_setHead hl0 hc_2) yy_V_setHead q_136 ⟨by simp only [bn_rm, dK]; omega, by simp only [bn_rm, dK]; omega⟩ rfl hl.1 rfl (Nat.le_of_ble_eq_true rfl) hcl9 d_V_open_79 (fun H locs hH => ?_)
  refine lv_iload_n hx hb d_V_open_82 rfl (lv_at hl 3 rfl) ?_
  exact bx_iret C0 hr hq hH hm0 d_V_open_83 h
def f_V_open_14  (x1 : Int32) (x2 : Int32) (y0 : Int32) (y1 : Int32) (g : Nat → Nat) (v : mS) : Option (bO Int32) := if y0 ≤ y1 then (nm (v 1 4) fun x3_2 => bi (f_V_cellsFor g v x1 x2) fun r_5 v_3 => nm (sU v_3 1 4 ((v 1 4) + r_5)) fun v_6 => if (v_6 1 4) ≤ (Int32.ofNat (g 4)) then (f_V_open_75 x1 x2 x3_2 g v_6) else (bo (f_V_grow g v_6 (2 * (v_6 1 4))) fun r9 g9 v9 => f_V_open_75 x1 x2 x3_2 g9 v9)) else (some (.inr 3, g, v))
set_option maxHeartbeats 4000000 in
set_option maxRecDepth 100000 in
theorem w_V_open_14 {p : Program} {l : Launch} {e : Env} {s : State} {m : MethodId} {args : Array Value} {below : List Frame} {meth : Method} {c : Code} {Z : bZ} {A : Nat → Prop} {q0 g0 : Nat → Nat} {o : bO Int32}  (C0 : bn_C "FilterBench$Values" b_V_open 4 Z A p l s m args meth c) (hr : meth.sig.returnType = (some .int)) (hnx : ∀ x ∈ c.exceptionTable.toList, False) : ∀ (x1 : Int32) (x2 : Int32) (y0 : Int32) (y1 : Int32) (g : Nat → Nat) (v : mS) (q : Nat → Nat) (H : Heap) (locs : List Loc) (ls : Array Slot), f_V_open_14  x1 x2 y0 y1 g v = some o → qs q0 q → gL g0 ≤ gL g → gL g ≤ gL o.2.1 → bn_H Z A s (q, g, v) H locs → lv_has ls 4 [(0, .ref (q 1)), (1, .int x1), (2, .int x2)] → bx_W p l e s m args below meth c Z A q0 g0 enI o 6 g H locs (F0 m 14 ls [.int y1, .int y0]) := by
  have hx := C0.1
  have hb := C0.2.1
  have hl0 := C0.2.2.2.2.2.2.2.2.2
  intro x1 x2 y0 y1 g v q H locs ls h hq hm0 hm hH hl
  unfold f_V_open_14 at h
  have hcl9 := bx_room (h0 := 6) (o := o) hm0 hm
  refine lv_icmp_le (tgt := 27) hx hb d_V_open_14 (by decide) (fun c_1 => ?_) (fun c_1 => ?_)
  · rw [if_pos c_1] at h
    refine lv_aload_n hx hb d_V_open_27 rfl (lv_at hl 0 rfl) ?_
    refine bn_g_V_top ⟨by decide, by decide⟩ C0 hH d_V_open_28 ?_
    obtain ⟨x3_2, hx3_2, h⟩ := nm_out h
    refine fu_i hx3_2 ?_
    refine lv_istore_n (lv' := [(3, .int x3_2), (0, .ref (q 1)), (1, .int x1), (2, .int x2)]) hx hb d_V_open_31 rfl hl (by decide) rfl (fun ls hl => ?_)
    refine lv_aload_n hx hb d_V_open_32 rfl (lv_at hl 1 rfl) ?_
    refine lv_dup hx hb d_V_open_33 rfl ?_
    refine bn_g_V_top ⟨by decide, by decide⟩ C0 hH d_V_open_34 ?_
    refine lv_iload_n hx hb d_V_open_37 rfl (lv_at hl 2 rfl) ?_
    refine lv_iload_n hx hb d_V_open_38 rfl (lv_at hl 3 rfl) ?_
    obtain ⟨r_5, v_3, hc_4, h⟩ := bi_out h
    refine bn_si (r := r_5) (w := (q, g, v_3)) (as := [.int x1, .int x2]) (rest := [.int (v 1 4), .ref (q 1)]) C0 hH (c_V_cellsFor hl0 hc_4) yy_V_cellsFor q_391 ⟨by simp only [bn_rm, dK]; omega, by simp only [bn_rm, dK]; omega⟩ rfl hl.1 rfl (Nat.le_of_ble_eq_true rfl) hcl9 d_V_open_39 (fun H locs hH => ?_)
    refine lv_iadd hx hb d_V_open_42 ?_
    obtain ⟨v_6, hv_6, h⟩ := nm_out h
    refine bn_p_V_top ⟨by decide, by decide⟩ C0 hH d_V_open_43 (fun H locs hH => ?_)
    have hH : bn_H Z A s (q, g, v_6) H locs := by rw [hv_6]; exact hH
    refine lv_aload_n hx hb d_V_open_46 rfl (lv_at hl 1 rfl) ?_
    refine bn_g_V_top ⟨by decide, by decide⟩ C0 hH d_V_open_47 ?_
    refine lv_aload_n hx hb d_V_open_50 rfl (lv_at hl 1 rfl) ?_
    refine bn_g_V_cells ⟨by decide, by decide⟩ C0 hH d_V_open_51 ?_
    refine bn_alen ⟨by decide, by decide⟩ C0 hH d_V_open_54 ?_
    refine fu_i (show Int32.ofNat (g 4) = Int32.ofNat (bn_len (q, g, v_6) 4) from rfl) ?_
    refine lv_icmp_le (tgt := 75) hx hb d_V_open_55 (by decide) (fun c_7 => ?_) (fun c_7 => ?_)
    · rw [if_pos c_7] at h
      exact w_V_open_75 C0 hr hnx  _ _ _ _ _ _ _ _ _ h hq hm0 hm hH (lv_sub hl [1, 2, 3, 0] rfl)
    · rw [if_neg c_7] at h
      refine lv_aload_n hx hb d_V_open_58 rfl (lv_at hl 1 rfl) ?_
      refine lv_aload_n hx hb d_V_open_59 rfl (lv_at hl 1 rfl) ?_
      refine bn_g_V_cells ⟨by decide, by decide⟩ C0 hH d_V_open_60 ?_
      refine lv_iconst (v := 2) hx hb d_V_open_63 (by decide) ?_
      refine lv_aload_n hx hb d_V_open_64 rfl (lv_at hl 1 rfl) ?_
      refine bn_g_V_top ⟨by decide, by decide⟩ C0 hH d_V_open_65 ?_
      refine lv_imul hx hb d_V_open_68 ?_
      obtain ⟨o1, hc, hm2, ht9, hx1, hk9⟩ := bo_out h
      have hm1 := mn_V_grow hc
      refine bh_grow C0 hnx hq hH hm0 hm1 hm2 hc hl.1 (Nat.le_of_ble_eq_true rfl) rfl d_V_open_69 d_V_open_72 (fun r9 q1 H locs hr1 hq0 hq1 hm9 hH => ?_)
      have h := hk9 r9 hr1
      have e9 : q1 1 = q 1 := (hq1 1 (by decide) (by decide))
      try rw [← e9] at hl
      try rw [← e9]
      exact w_V_open_75 C0 hr hnx  _ _ _ _ _ _ _ _ _ h hq0 hm9 hm2 hH (lv_sub hl [1, 2, 3, 0] rfl)
  · rw [if_neg c_1] at h
    exact bx_throw (k := 3) (i := 2) (cls := "java/lang/IllegalStateException") (rest := []) C0 hnx hq hH hm0 (by decide +kernel) rfl q_388 q_114 rfl tw_V_76.1 tw_V_76.2.1 tw_V_76.2.2 (by decide +kernel) hl.1 d_V_open_17 d_V_open_20 d_V_open_21 d_V_open_23 d_V_open_26 (Nat.le_of_ble_eq_true rfl) (Nat.le_of_ble_eq_true rfl) h
def f_V_open (g : Nat → Nat) (v : mS) (x1 : Int32) (x2 : Int32) : Option (bO Int32) := mg g (if x1 = 6 then (f_V_open_14 x1 x2 x2 6 g v) else (f_V_open_14 x1 x2 x2 12 g v))
theorem mn_V_open {g : Nat → Nat} {v : mS}  {x1 : Int32} {x2 : Int32} {o : bO Int32} (h : f_V_open g v x1 x2 = some o) : gL g ≤ gL o.2.1 := (mg_out h).1
set_option maxHeartbeats 4000000 in
set_option maxRecDepth 100000 in
theorem c_V_open {l : Launch} {Z : bZ} (hl0 : l.stackTraces = false) {q g : Nat → Nat} {v : mS}  {x1 : Int32} {x2 : Int32} {o : bO Int32} (h : f_V_open g v x1 x2 = some o) : bx_M l Z 6 y_V_open b_V_open 4 (some .int) [.ref (q 1), .int x1, .int x2] q g v enI o := by
  refine bx_of hl0 (by decide +kernel) (Nat.le_of_ble_eq_true rfl) ?_
  intro p e s m args below meth c A ls C0 hr hnx hl hH
  have hx := C0.1
  have hb := C0.2.1
  have C0 : bn_C "FilterBench$Values" b_V_open 4 Z A p l s m args meth c := C0
  have hl : lv_has ls 4 [(0, .ref (q 1)), (1, .int x1), (2, .int x2)] := hl
  obtain ⟨hm, h⟩ := mg_out h
  have hm0 : gL g ≤ gL g := Nat.le_refl _
  have hq : qs q q := qs.rf
  have hcl9 := bx_room (h0 := 6) (o := o) hm0 hm
  refine lv_iload_n hx hb d_V_open_0 rfl (lv_at hl 2 rfl) ?_
  refine lv_iload_n hx hb d_V_open_1 rfl (lv_at hl 1 rfl) ?_
  refine lv_bipush (v := 6) hx hb d_V_open_2 (by decide) ?_
  refine lv_icmp_ne (tgt := 12) hx hb d_V_open_4 (by decide) (fun c_1 => ?_) (fun c_1 => ?_)
  · rw [if_neg c_1] at h
    refine lv_bipush (v := 12) hx hb d_V_open_12 (by decide) ?_
    exact w_V_open_14 C0 hr hnx  _ _ _ _ _ _ _ _ _ _ h hq hm0 hm hH (lv_sub hl [0, 1, 2] rfl)
  · rw [if_pos c_1] at h
    refine lv_bipush (v := 6) hx hb d_V_open_7 (by decide) ?_
    refine lv_goto (tgt := 14) hx hb d_V_open_9 (by decide) ?_
    exact w_V_open_14 C0 hr hnx  _ _ _ _ _ _ _ _ _ _ h hq hm0 hm hH (lv_sub hl [0, 1, 2] rfl)
def f_V_numberOf_61   (g : Nat → Nat) (v : mS) : Option (bO Int32) := some (.inr 3, g, v)
set_option maxHeartbeats 4000000 in
set_option maxRecDepth 100000 in
theorem w_V_numberOf_61 {p : Program} {l : Launch} {e : Env} {s : State} {m : MethodId} {args : Array Value} {below : List Frame} {meth : Method} {c : Code} {Z : bZ} {A : Nat → Prop} {q0 g0 : Nat → Nat} {o : bO Int32}  (C0 : bn_C "FilterBench$Values" b_V_numberOf 8 Z A p l s m args meth c) (hr : meth.sig.returnType = (some .int)) (hnx : ∀ x ∈ c.exceptionTable.toList, False) : ∀  (g : Nat → Nat) (v : mS) (q : Nat → Nat) (H : Heap) (locs : List Loc) (ls : Array Slot), f_V_numberOf_61   g v = some o → qs q0 q → gL g0 ≤ gL g → gL g ≤ gL o.2.1 → bn_H Z A s (q, g, v) H locs → lv_has ls 8 [] → bx_W p l e s m args below meth c Z A q0 g0 enI o 7 g H locs (F0 m 61 ls []) := by
  have hx := C0.1
  have hb := C0.2.1
  have hl0 := C0.2.2.2.2.2.2.2.2.2
  intro  g v q H locs ls h hq hm0 hm hH hl
  unfold f_V_numberOf_61 at h
  have hcl9 := bx_room (h0 := 7) (o := o) hm0 hm
  exact bx_throw (k := 3) (i := 7) (cls := "java/lang/IllegalStateException") (rest := []) C0 hnx hq hH hm0 (by decide +kernel) rfl q_388 q_114 rfl tw_V_76.1 tw_V_76.2.1 tw_V_76.2.2 (by decide +kernel) hl.1 d_V_numberOf_61 d_V_numberOf_64 d_V_numberOf_65 d_V_numberOf_67 d_V_numberOf_70 (Nat.le_of_ble_eq_true rfl) (Nat.le_of_ble_eq_true rfl) h
def f_V_numberOf_77  (x4 : Int64) (x6 : Int32) (y0 : Int32) (g : Nat → Nat) (v : mS) : Option (bO Int32) := gd (inB (y0 + 4) (g 4)) (nm (sU v 4 (y0 + 4 : Int32).toNatClampNeg ((x4 : Int64).toInt32)) fun v_2 => gd (inB ((y0 + 4) + 1) (g 4)) (nm (sU v_2 4 ((y0 + 4) + 1 : Int32).toNatClampNeg x6) fun v_4 => some (.inl (y0), g, v_4)))
set_option maxHeartbeats 4000000 in
set_option maxRecDepth 100000 in
theorem w_V_numberOf_77 {p : Program} {l : Launch} {e : Env} {s : State} {m : MethodId} {args : Array Value} {below : List Frame} {meth : Method} {c : Code} {Z : bZ} {A : Nat → Prop} {q0 g0 : Nat → Nat} {o : bO Int32}  (C0 : bn_C "FilterBench$Values" b_V_numberOf 8 Z A p l s m args meth c) (hr : meth.sig.returnType = (some .int)) (hnx : ∀ x ∈ c.exceptionTable.toList, False) : ∀ (x4 : Int64) (x6 : Int32) (y0 : Int32) (g : Nat → Nat) (v : mS) (q : Nat → Nat) (H : Heap) (locs : List Loc) (ls : Array Slot), f_V_numberOf_77  x4 x6 y0 g v = some o → qs q0 q → gL g0 ≤ gL g → gL g ≤ gL o.2.1 → bn_H Z A s (q, g, v) H locs → lv_has ls 8 [(0, .ref (q 1)), (4, .long x4), (6, .int x6)] → bx_W p l e s m args below meth c Z A q0 g0 enI o 7 g H locs (F0 m 77 ls [.int y0]) := by
  have hx := C0.1
  have hb := C0.2.1
  have hl0 := C0.2.2.2.2.2.2.2.2.2
  intro x4 x6 y0 g v q H locs ls h hq hm0 hm hH hl
  unfold f_V_numberOf_77 at h
  have hcl9 := bx_room (h0 := 7) (o := o) hm0 hm
  refine lv_istore (lv' := [(7, .int y0), (0, .ref (q 1)), (4, .long x4), (6, .int x6)]) hx hb d_V_numberOf_77 hl (by decide) rfl (fun ls hl => ?_)
  refine lv_aload_n hx hb d_V_numberOf_79 rfl (lv_at hl 1 rfl) ?_
  refine bn_g_V_cells ⟨by decide, by decide⟩ C0 hH d_V_numberOf_80 ?_
  refine lv_iload hx hb d_V_numberOf_83 (lv_at hl 0 rfl) ?_
  refine lv_iconst (v := 4) hx hb d_V_numberOf_85 (by decide) ?_
  refine lv_iadd hx hb d_V_numberOf_86 ?_
  refine lv_lload hx hb d_V_numberOf_87 (lv_at hl 2 rfl) ?_
  refine lv_l2i hx hb d_V_numberOf_89 rfl ?_
  obtain ⟨g_1, h⟩ := gd_out h
  obtain ⟨v_2, hv_2, h⟩ := nm_out h
  refine bn_sto ⟨by decide, by decide⟩ C0 hH (inB_in g_1) d_V_numberOf_90 (fun H locs hH => ?_)
  have hH : bn_H Z A s (q, g, v_2) H locs := by rw [hv_2]; exact hH
  refine lv_aload_n hx hb d_V_numberOf_91 rfl (lv_at hl 1 rfl) ?_
  refine bn_g_V_cells ⟨by decide, by decide⟩ C0 hH d_V_numberOf_92 ?_
  refine lv_iload hx hb d_V_numberOf_95 (lv_at hl 0 rfl) ?_
  refine lv_iconst (v := 4) hx hb d_V_numberOf_97 (by decide) ?_
  refine lv_iadd hx hb d_V_numberOf_98 ?_
  refine lv_iconst (v := 1) hx hb d_V_numberOf_99 (by decide) ?_
  refine lv_iadd hx hb d_V_numberOf_100 ?_
  refine lv_iload hx hb d_V_numberOf_101 (lv_at hl 3 rfl) ?_
  obtain ⟨g_3, h⟩ := gd_out h
  obtain ⟨v_4, hv_4, h⟩ := nm_out h
  refine bn_sto ⟨by decide, by decide⟩ C0 hH (inB_in g_3) d_V_numberOf_103 (fun H locs hH => ?_)
  have hH : bn_H Z A s (q, g, v_4) H locs := by rw [hv_4]; exact hH
  refine lv_iload hx hb d_V_numberOf_104 (lv_at hl 0 rfl) ?_
  exact bx_iret C0 hr hq hH hm0 d_V_numberOf_106 h
def f_V_numberOf_36  (x4 : Int64) (x6 : Int32) (g : Nat → Nat) (v : mS) : Option (bO Int32) := if 6 < x6 then (f_V_numberOf_61 g v) else (if 0 < (lg_cmp x4 999999999) then (f_V_numberOf_61 g v) else (if 0 ≤ (lg_cmp x4 (-999999999)) then (bo (f_V_open g v 3 0) fun r9 g9 v9 => f_V_numberOf_77 x4 x6 r9 g9 v9) else (f_V_numberOf_61 g v)))
set_option maxHeartbeats 4000000 in
set_option maxRecDepth 100000 in
theorem w_V_numberOf_36 {p : Program} {l : Launch} {e : Env} {s : State} {m : MethodId} {args : Array Value} {below : List Frame} {meth : Method} {c : Code} {Z : bZ} {A : Nat → Prop} {q0 g0 : Nat → Nat} {o : bO Int32}  (C0 : bn_C "FilterBench$Values" b_V_numberOf 8 Z A p l s m args meth c) (hr : meth.sig.returnType = (some .int)) (hnx : ∀ x ∈ c.exceptionTable.toList, False) : ∀ (x4 : Int64) (x6 : Int32) (g : Nat → Nat) (v : mS) (q : Nat → Nat) (H : Heap) (locs : List Loc) (ls : Array Slot), f_V_numberOf_36  x4 x6 g v = some o → qs q0 q → gL g0 ≤ gL g → gL g ≤ gL o.2.1 → bn_H Z A s (q, g, v) H locs → lv_has ls 8 [(0, .ref (q 1)), (4, .long x4), (6, .int x6)] → bx_W p l e s m args below meth c Z A q0 g0 enI o 7 g H locs (F0 m 36 ls []) := by
  have hx := C0.1
  have hb := C0.2.1
  have hl0 := C0.2.2.2.2.2.2.2.2.2
  intro x4 x6 g v q H locs ls h hq hm0 hm hH hl
  unfold f_V_numberOf_36 at h
  have hcl9 := bx_room (h0 := 7) (o := o) hm0 hm
  refine lv_iload hx hb d_V_numberOf_36 (lv_at hl 2 rfl) ?_
  refine lv_bipush (v := 6) hx hb d_V_numberOf_38 (by decide) ?_
  refine lv_icmp_gt (tgt := 61) hx hb d_V_numberOf_40 (by decide) (fun c_1 => ?_) (fun c_1 => ?_)
  · rw [if_pos c_1] at h
    exact w_V_numberOf_61 C0 hr hnx   _ _ _ _ _ _ h hq hm0 hm hH (lv_sub hl [] rfl)
  · rw [if_neg c_1] at h
    refine lv_lload hx hb d_V_numberOf_43 (lv_at hl 1 rfl) ?_
    refine lv_ldc2 (v := 999999999) hx hb C0.2.2.1 (C0.2.2.2.1 _ q_588) d_V_numberOf_45 ?_
    refine W.lcmp hx hb d_V_numberOf_48 ?_
    refine lv_if_gt (tgt := 61) hx hb d_V_numberOf_49 (by decide) (fun c_2 => ?_) (fun c_2 => ?_)
    · rw [if_pos c_2] at h
      exact w_V_numberOf_61 C0 hr hnx   _ _ _ _ _ _ h hq hm0 hm hH (lv_sub hl [] rfl)
    · rw [if_neg c_2] at h
      refine lv_lload hx hb d_V_numberOf_52 (lv_at hl 1 rfl) ?_
      refine lv_ldc2 (v := (-999999999)) hx hb C0.2.2.1 (C0.2.2.2.1 _ q_589) d_V_numberOf_54 ?_
      refine W.lcmp hx hb d_V_numberOf_57 ?_
      refine lv_if_ge (tgt := 71) hx hb d_V_numberOf_58 (by decide) (fun c_3 => ?_) (fun c_3 => ?_)
      · rw [if_pos c_3] at h
        refine lv_aload_n hx hb d_V_numberOf_71 rfl (lv_at hl 0 rfl) ?_
        refine lv_iconst (v := 3) hx hb d_V_numberOf_72 (by decide) ?_
        refine lv_iconst (v := 0) hx hb d_V_numberOf_73 (by decide) ?_
        obtain ⟨o1, hc, hm2, ht9, hx1, hk9⟩ := bo_out h
        have hm1 := mn_V_open hc
        refine bx_cV (as := [.int 3, .int 0]) (rest := []) C0 hnx hq hH hm0 hm1 hm2 ht9 (ci := 4) ⟨by decide, by decide⟩ (by decide) rfl (c_V_open hl0 hc) yy_V_open q_384 ⟨by first | omega | (simp only [dK]; omega), by first | omega | (simp only [dK]; omega)⟩ rfl hl.1 rfl (Nat.le_of_ble_eq_true rfl) d_V_numberOf_74 hx1 (fun r9 q1 H locs hr1 hq0 hq1 hm9 hH => ?_)
        have h := hk9 r9 hr1
        have e9 : q1 1 = q 1 := (hq1 1 (by decide) (by decide))
        try rw [← e9] at hl
        try rw [← e9]
        exact w_V_numberOf_77 C0 hr hnx  _ _ _ _ _ _ _ _ _ h hq0 hm9 hm2 hH (lv_sub hl [0, 1, 2] rfl)
      · rw [if_neg c_3] at h
        exact w_V_numberOf_61 C0 hr hnx   _ _ _ _ _ _ h hq hm0 hm hH (lv_sub hl [] rfl)
def f_V_numberOf_6  : Nat → Int64 → Int32 → (Nat → Nat) → mS → Option (bO Int32)
  | 0, _, _, _, _ => none
  | n + 1, x4, x6, g, v => if x6 ≤ 0 then (f_V_numberOf_36 x4 x6 g v) else (if (lg_cmp (x4 - x4 / 10 * 10) 0) = 0 then (nm (x4 / 10) fun x4_5 => nm (x6 + (-1)) fun x6_6 => f_V_numberOf_6 n x4_5 x6_6 g v) else (f_V_numberOf_36 x4 x6 g v))
set_option maxHeartbeats 4000000 in
set_option maxRecDepth 100000 in
theorem w_V_numberOf_6 {p : Program} {l : Launch} {e : Env} {s : State} {m : MethodId} {args : Array Value} {below : List Frame} {meth : Method} {c : Code} {Z : bZ} {A : Nat → Prop} {q0 g0 : Nat → Nat} {o : bO Int32}  (C0 : bn_C "FilterBench$Values" b_V_numberOf 8 Z A p l s m args meth c) (hr : meth.sig.returnType = (some .int)) (hnx : ∀ x ∈ c.exceptionTable.toList, False) : ∀ (n : Nat) (x4 : Int64) (x6 : Int32) (g : Nat → Nat) (v : mS) (q : Nat → Nat) (H : Heap) (locs : List Loc) (ls : Array Slot), f_V_numberOf_6  n x4 x6 g v = some o → qs q0 q → gL g0 ≤ gL g → gL g ≤ gL o.2.1 → bn_H Z A s (q, g, v) H locs → lv_has ls 8 [(0, .ref (q 1)), (4, .long x4), (6, .int x6)] → bx_W p l e s m args below meth c Z A q0 g0 enI o 7 g H locs (F0 m 6 ls []) := by
  have hx := C0.1
  have hb := C0.2.1
  have hl0 := C0.2.2.2.2.2.2.2.2.2
  intro n
  induction n with
  | zero =>
    intro x4 x6 g v q H locs ls h hq hm0 hm hH hl
    cases h
  | succ n ih =>
    intro x4 x6 g v q H locs ls h hq hm0 hm hH hl
    rw [f_V_numberOf_6] at h
    have hcl9 := bx_room (h0 := 7) (o := o) hm0 hm
    refine lv_iload hx hb d_V_numberOf_6 (lv_at hl 2 rfl) ?_
    refine lv_if_le (tgt := 36) hx hb d_V_numberOf_8 (by decide) (fun c_1 => ?_) (fun c_1 => ?_)
    · rw [if_pos c_1] at h
      exact w_V_numberOf_36 C0 hr hnx  _ _ _ _ _ _ _ _ h hq hm0 hm hH (lv_sub hl [0, 1, 2] rfl)
    · rw [if_neg c_1] at h
      refine lv_lload hx hb d_V_numberOf_11 (lv_at hl 1 rfl) ?_
      refine lv_ldc2 (v := 10) hx hb C0.2.2.1 (C0.2.2.2.1 _ q_587) d_V_numberOf_13 ?_
      refine lv_lrem hx hb d_V_numberOf_16 (by decide) ?_
      refine lv_lconst (v := 0) hx hb d_V_numberOf_17 (by decide) ?_
      refine W.lcmp hx hb d_V_numberOf_18 ?_
      refine lv_if_ne (tgt := 36) hx hb d_V_numberOf_19 (by decide) (fun c_3 => ?_) (fun c_3 => ?_)
      · rw [if_neg c_3] at h
        exact w_V_numberOf_36 C0 hr hnx  _ _ _ _ _ _ _ _ h hq hm0 hm hH (lv_sub hl [0, 1, 2] rfl)
      · rw [if_pos c_3] at h
        refine lv_lload hx hb d_V_numberOf_22 (lv_at hl 1 rfl) ?_
        refine lv_ldc2 (v := 10) hx hb C0.2.2.1 (C0.2.2.2.1 _ q_587) d_V_numberOf_24 ?_
        refine lv_ldiv hx hb d_V_numberOf_27 (by decide) ?_
        obtain ⟨x4_5, hx4_5, h⟩ := nm_out h
        refine fu_l hx4_5 ?_
        refine lv_lstore (lv' := [(4, .long x4_5), (0, .ref (q 1)), (6, .int x6)]) hx hb d_V_numberOf_28 hl (by decide) rfl (fun ls hl => ?_)
        obtain ⟨x6_6, hx6_6, h⟩ := nm_out h
        refine lv_iinc (v := x6_6) (lv' := [(6, .int x6_6), (4, .long x4_5), (0, .ref (q 1))]) hx hb d_V_numberOf_30 hl (k := 2) rfl (by rw [hx6_6]; rfl) (by decide) rfl (fun ls hl => ?_)
        refine lv_goto (tgt := 6) hx hb d_V_numberOf_33 (by decide) ?_
        exact ih _ _ _ _ _ _ _ _ h hq hm0 hm hH (lv_sub hl [2, 1, 0] rfl)
def f_V_numberOf (g : Nat → Nat) (v : mS) (x1 : Int64) (x3 : Int32) : Option (bO Int32) := mg g (f_V_numberOf_6 fu x1 x3 g v)
theorem mn_V_numberOf {g : Nat → Nat} {v : mS}  {x1 : Int64} {x3 : Int32} {o : bO Int32} (h : f_V_numberOf g v x1 x3 = some o) : gL g ≤ gL o.2.1 := (mg_out h).1
set_option maxHeartbeats 4000000 in
set_option maxRecDepth 100000 in
theorem c_V_numberOf {l : Launch} {Z : bZ} (hl0 : l.stackTraces = false) {q g : Nat → Nat} {v : mS}  {x1 : Int64} {x3 : Int32} {o : bO Int32} (h : f_V_numberOf g v x1 x3 = some o) : bx_M l Z 7 y_V_numberOf b_V_numberOf 8 (some .int) [.ref (q 1), .long x1, .int x3] q g v enI o := by
  refine bx_of hl0 (by decide +kernel) (Nat.le_of_ble_eq_true rfl) ?_
  intro p e s m args below meth c A ls C0 hr hnx hl hH
  have hx := C0.1
  have hb := C0.2.1
  have C0 : bn_C "FilterBench$Values" b_V_numberOf 8 Z A p l s m args meth c := C0
  have hl : lv_has ls 8 [(0, .ref (q 1)), (1, .long x1), (3, .int x3)] := hl
  obtain ⟨hm, h⟩ := mg_out h
  have hm0 : gL g ≤ gL g := Nat.le_refl _
  have hq : qs q q := qs.rf
  have hcl9 := bx_room (h0 := 7) (o := o) hm0 hm
  refine lv_lload_n hx hb d_V_numberOf_0 rfl (lv_at hl 1 rfl) ?_
  refine lv_lstore (lv' := [(4, .long x1), (0, .ref (q 1)), (1, .long x1), (3, .int x3)]) hx hb d_V_numberOf_1 hl (by decide) rfl (fun ls hl => ?_)
  refine lv_iload_n hx hb d_V_numberOf_3 rfl (lv_at hl 3 rfl) ?_
  refine lv_istore (lv' := [(6, .int x3), (4, .long x1), (0, .ref (q 1)), (1, .long x1), (3, .int x3)]) hx hb d_V_numberOf_4 hl (by decide) rfl (fun ls hl => ?_)
  exact w_V_numberOf_6 C0 hr hnx  fu _ _ _ _ _ _ _ _ h hq hm0 hm hH (lv_sub hl [2, 1, 0] rfl)
def f_V_longer_14  (x1 : Int32) (x2 : Int32) (x3 : Int32) (y0 : Int32) (g : Nat → Nat) (v : mS) : Option (bO Int32) := gd (cpB (x1 + 4) (y0 + 4) x3 (g 4) (g 4)) (nm (sC v 4 4 (x1 + 4 : Int32).toNatClampNeg (y0 + 4 : Int32).toNatClampNeg (x3 : Int32).toNatClampNeg) fun v_2 => gd (inB ((y0 + 4) + x3) (g 4)) (nm (sU v_2 4 ((y0 + 4) + x3 : Int32).toNatClampNeg x2) fun v_4 => some (.inl (y0), g, v_4)))
set_option maxHeartbeats 4000000 in
set_option maxRecDepth 100000 in
theorem w_V_longer_14 {p : Program} {l : Launch} {e : Env} {s : State} {m : MethodId} {args : Array Value} {below : List Frame} {meth : Method} {c : Code} {Z : bZ} {A : Nat → Prop} {q0 g0 : Nat → Nat} {o : bO Int32}  (C0 : bn_C "FilterBench$Values" b_V_longer 5 Z A p l s m args meth c) (hr : meth.sig.returnType = (some .int)) (hnx : ∀ x ∈ c.exceptionTable.toList, False) : ∀ (x1 : Int32) (x2 : Int32) (x3 : Int32) (y0 : Int32) (g : Nat → Nat) (v : mS) (q : Nat → Nat) (H : Heap) (locs : List Loc) (ls : Array Slot), f_V_longer_14  x1 x2 x3 y0 g v = some o → qs q0 q → gL g0 ≤ gL g → gL g ≤ gL o.2.1 → bn_H Z A s (q, g, v) H locs → lv_has ls 5 [(0, .ref (q 1)), (1, .int x1), (2, .int x2), (3, .int x3)] → bx_W p l e s m args below meth c Z A q0 g0 enI o 7 g H locs (F0 m 14 ls [.int y0]) := by
  have hx := C0.1
  have hb := C0.2.1
  have hl0 := C0.2.2.2.2.2.2.2.2.2
  intro x1 x2 x3 y0 g v q H locs ls h hq hm0 hm hH hl
  unfold f_V_longer_14 at h
  have hcl9 := bx_room (h0 := 7) (o := o) hm0 hm
  refine lv_istore (lv' := [(4, .int y0), (0, .ref (q 1)), (1, .int x1), (2, .int x2), (3, .int x3)]) hx hb d_V_longer_14 hl (by decide) rfl (fun ls hl => ?_)
  refine lv_aload_n hx hb d_V_longer_16 rfl (lv_at hl 1 rfl) ?_
  refine bn_g_V_cells ⟨by decide, by decide⟩ C0 hH d_V_longer_17 ?_
  refine lv_iload_n hx hb d_V_longer_20 rfl (lv_at hl 2 rfl) ?_
  refine lv_iconst (v := 4) hx hb d_V_longer_21 (by decide) ?_
  refine lv_iadd hx hb d_V_longer_22 ?_
  refine lv_aload_n hx hb d_V_longer_23 rfl (lv_at hl 1 rfl) ?_
  refine bn_g_V_cells ⟨by decide, by decide⟩ C0 hH d_V_longer_24 ?_
  refine lv_iload hx hb d_V_longer_27 (lv_at hl 0 rfl) ?_
  refine lv_iconst (v := 4) hx hb d_V_longer_29 (by decide) ?_
  refine lv_iadd hx hb d_V_longer_30 ?_
  refine lv_iload_n hx hb d_V_longer_31 rfl (lv_at hl 4 rfl) ?_
  obtain ⟨g_1, h⟩ := gd_out h
  obtain ⟨v_2, hv_2, h⟩ := nm_out h
  refine bn_copy ⟨by decide, by decide⟩ ⟨by decide, by decide⟩ C0 hH rfl rfl g_1 q_405 q_403 q_116 hl.1 (Nat.le_of_ble_eq_true rfl) (Nat.le_of_ble_eq_true rfl) d_V_longer_32 (fun H locs hH => ?_)
  have hH : bn_H Z A s (q, g, v_2) H locs := by rw [hv_2]; exact hH
  refine lv_aload_n hx hb d_V_longer_35 rfl (lv_at hl 1 rfl) ?_
  refine bn_g_V_cells ⟨by decide, by decide⟩ C0 hH d_V_longer_36 ?_
  refine lv_iload hx hb d_V_longer_39 (lv_at hl 0 rfl) ?_
  refine lv_iconst (v := 4) hx hb d_V_longer_41 (by decide) ?_
  refine lv_iadd hx hb d_V_longer_42 ?_
  refine lv_iload_n hx hb d_V_longer_43 rfl (lv_at hl 4 rfl) ?_
  refine lv_iadd hx hb d_V_longer_44 ?_
  refine lv_iload_n hx hb d_V_longer_45 rfl (lv_at hl 3 rfl) ?_
  obtain ⟨g_3, h⟩ := gd_out h
  obtain ⟨v_4, hv_4, h⟩ := nm_out h
  refine bn_sto ⟨by decide, by decide⟩ C0 hH (inB_in g_3) d_V_longer_46 (fun H locs hH => ?_)
  have hH : bn_H Z A s (q, g, v_4) H locs := by rw [hv_4]; exact hH
  refine lv_iload hx hb d_V_longer_47 (lv_at hl 0 rfl) ?_
  exact bx_iret C0 hr hq hH hm0 d_V_longer_49 h
def f_V_longer (g : Nat → Nat) (v : mS) (x1 : Int32) (x2 : Int32) : Option (bO Int32) := mg g (bi (f_V_lengthOf g v x1) fun r_3 v_1 => bo (f_V_open g v_1 4 (r_3 + 1)) fun r9 g9 v9 => f_V_longer_14 x1 x2 r_3 r9 g9 v9)
theorem mn_V_longer {g : Nat → Nat} {v : mS}  {x1 : Int32} {x2 : Int32} {o : bO Int32} (h : f_V_longer g v x1 x2 = some o) : gL g ≤ gL o.2.1 := (mg_out h).1
set_option maxHeartbeats 4000000 in
set_option maxRecDepth 100000 in
theorem c_V_longer {l : Launch} {Z : bZ} (hl0 : l.stackTraces = false) {q g : Nat → Nat} {v : mS}  {x1 : Int32} {x2 : Int32} {o : bO Int32} (h : f_V_longer g v x1 x2 = some o) : bx_M l Z 7 y_V_longer b_V_longer 5 (some .int) [.ref (q 1), .int x1, .int x2] q g v enI o := by
  refine bx_of hl0 (by decide +kernel) (Nat.le_of_ble_eq_true rfl) ?_
  intro p e s m args below meth c A ls C0 hr hnx hl hH
  have hx := C0.1
  have hb := C0.2.1
  have C0 : bn_C "FilterBench$Values" b_V_longer 5 Z A p l s m args meth c := C0
  have hl : lv_has ls 5 [(0, .ref (q 1)), (1, .int x1), (2, .int x2)] := hl
  obtain ⟨hm, h⟩ := mg_out h
  have hm0 : gL g ≤ gL g := Nat.le_refl _
  have hq : qs q q := qs.rf
  have hcl9 := bx_room (h0 := 7) (o := o) hm0 hm
  refine lv_aload_n hx hb d_V_longer_0 rfl (lv_at hl 0 rfl) ?_
  refine lv_iload_n hx hb d_V_longer_1 rfl (lv_at hl 1 rfl) ?_
  obtain ⟨r_3, v_1, hc_2, h⟩ := bi_out h
  refine bn_ci (r := r_3) (w := (q, g, v_1)) (as := [.int x1]) (rest := []) C0 hH (ci := 4) ⟨by decide, by decide⟩ (by decide) rfl (c_V_lengthOf hl0 hc_2) yy_V_lengthOf q_383 ⟨by simp only [bn_rm, dK]; omega, by simp only [bn_rm, dK]; omega⟩ rfl hl.1 rfl (Nat.le_of_ble_eq_true rfl) hcl9 d_V_longer_2 (fun H locs hH => ?_)
  refine lv_istore_n (lv' := [(3, .int r_3), (0, .ref (q 1)), (1, .int x1), (2, .int x2)]) hx hb d_V_longer_5 rfl hl (by decide) rfl (fun ls hl => ?_)
  refine lv_aload_n hx hb d_V_longer_6 rfl (lv_at hl 1 rfl) ?_
  refine lv_iconst (v := 4) hx hb d_V_longer_7 (by decide) ?_
  refine lv_iload_n hx hb d_V_longer_8 rfl (lv_at hl 0 rfl) ?_
  refine lv_iconst (v := 1) hx hb d_V_longer_9 (by decide) ?_
  refine lv_iadd hx hb d_V_longer_10 ?_
  obtain ⟨o1, hc, hm2, ht9, hx1, hk9⟩ := bo_out h
  have hm1 := mn_V_open hc
  refine bx_cV (as := [.int 4, .int (r_3 + 1)]) (rest := []) C0 hnx hq hH hm0 hm1 hm2 ht9 (ci := 4) ⟨by decide, by decide⟩ (by decide) rfl (c_V_open hl0 hc) yy_V_open q_384 ⟨by first | omega | (simp only [dK]; omega), by first | omega | (simp only [dK]; omega)⟩ rfl hl.1 rfl (Nat.le_of_ble_eq_true rfl) d_V_longer_11 hx1 (fun r9 q1 H locs hr1 hq0 hq1 hm9 hH => ?_)
  have h := hk9 r9 hr1
  have e9 : q1 1 = q 1 := (hq1 1 (by decide) (by decide))
  try rw [← e9] at hl
  try rw [← e9]
  exact w_V_longer_14 C0 hr hnx  _ _ _ _ _ _ _ _ _ _ h hq0 hm9 hm2 hH (lv_sub hl [1, 2, 3, 0] rfl)
def f_V_arrayOf_25  (y0 : Int32) (g : Nat → Nat) (v : mS) : Option (bO Int32) := some (.inl (y0), g, v)
set_option maxHeartbeats 4000000 in
set_option maxRecDepth 100000 in
theorem w_V_arrayOf_25 {p : Program} {l : Launch} {e : Env} {s : State} {m : MethodId} {args : Array Value} {below : List Frame} {meth : Method} {c : Code} {Z : bZ} {A : Nat → Prop} {q0 g0 : Nat → Nat} {o : bO Int32}  (C0 : bn_C "FilterBench$Values" b_V_arrayOf 4 Z A p l s m args meth c) (hr : meth.sig.returnType = (some .int)) (hnx : ∀ x ∈ c.exceptionTable.toList, False) : ∀ (y0 : Int32) (g : Nat → Nat) (v : mS) (q : Nat → Nat) (H : Heap) (locs : List Loc) (ls : Array Slot), f_V_arrayOf_25  y0 g v = some o → qs q0 q → gL g0 ≤ gL g → gL g ≤ gL o.2.1 → bn_H Z A s (q, g, v) H locs → lv_has ls 4 [] → bx_W p l e s m args below meth c Z A q0 g0 enI o 8 g H locs (F0 m 25 ls [.int y0]) := by
  have hx := C0.1
  have hb := C0.2.1
  have hl0 := C0.2.2.2.2.2.2.2.2.2
  intro y0 g v q H locs ls h hq hm0 hm hH hl
  unfold f_V_arrayOf_25 at h
  have hcl9 := bx_room (h0 := 8) (o := o) hm0 hm
  exact bx_iret C0 hr hq hH hm0 d_V_arrayOf_25 h
def f_V_arrayOf_6  (x1 : Nat) (x2 : Int32) (y0 : Int32) (g : Nat → Nat) (v : mS) : Option (bO Int32) := gd (inrB x1) (gd (cpB 0 (y0 + 4) x2 (bn_len (q0z g v) x1) (g 4)) (nm (sC v x1 4 (0 : Int32).toNatClampNeg (y0 + 4 : Int32).toNatClampNeg (x2 : Int32).toNatClampNeg) fun v_2 => bo (f_V_closed g v_2 y0) fun r9 g9 v9 => f_V_arrayOf_25 r9 g9 v9))
set_option maxHeartbeats 4000000 in
set_option maxRecDepth 100000 in
theorem w_V_arrayOf_6 {p : Program} {l : Launch} {e : Env} {s : State} {m : MethodId} {args : Array Value} {below : List Frame} {meth : Method} {c : Code} {Z : bZ} {A : Nat → Prop} {q0 g0 : Nat → Nat} {o : bO Int32}  (C0 : bn_C "FilterBench$Values" b_V_arrayOf 4 Z A p l s m args meth c) (hr : meth.sig.returnType = (some .int)) (hnx : ∀ x ∈ c.exceptionTable.toList, False) : ∀ (x1 : Nat) (x2 : Int32) (y0 : Int32) (g : Nat → Nat) (v : mS) (q : Nat → Nat) (H : Heap) (locs : List Loc) (ls : Array Slot), f_V_arrayOf_6  x1 x2 y0 g v = some o → qs q0 q → gL g0 ≤ gL g → gL g ≤ gL o.2.1 → bn_H Z A s (q, g, v) H locs → lv_has ls 4 [(0, .ref (q 1)), (1, .ref (q x1)), (2, .int x2)] → bx_W p l e s m args below meth c Z A q0 g0 enI o 8 g H locs (F0 m 6 ls [.int y0]) := by
  have hx := C0.1
  have hb := C0.2.1
  have hl0 := C0.2.2.2.2.2.2.2.2.2
  intro x1 x2 y0 g v q H locs ls h hq hm0 hm hH hl
  unfold f_V_arrayOf_6 at h
  have hcl9 := bx_room (h0 := 8) (o := o) hm0 hm
  obtain ⟨hgx1, h⟩ := gd_out h
  refine lv_istore_n (lv' := [(3, .int y0), (0, .ref (q 1)), (1, .ref (q x1)), (2, .int x2)]) hx hb d_V_arrayOf_6 rfl hl (by decide) rfl (fun ls hl => ?_)
  refine lv_aload_n hx hb d_V_arrayOf_7 rfl (lv_at hl 2 rfl) ?_
  refine lv_iconst (v := 0) hx hb d_V_arrayOf_8 (by decide) ?_
  refine lv_aload_n hx hb d_V_arrayOf_9 rfl (lv_at hl 1 rfl) ?_
  refine bn_g_V_cells ⟨by decide, by decide⟩ C0 hH d_V_arrayOf_10 ?_
  refine lv_iload_n hx hb d_V_arrayOf_13 rfl (lv_at hl 0 rfl) ?_
  refine lv_iconst (v := 4) hx hb d_V_arrayOf_14 (by decide) ?_
  refine lv_iadd hx hb d_V_arrayOf_15 ?_
  refine lv_iload_n hx hb d_V_arrayOf_16 rfl (lv_at hl 3 rfl) ?_
  obtain ⟨g_1, h⟩ := gd_out h
  obtain ⟨v_2, hv_2, h⟩ := nm_out h
  refine bn_copy (inrB_k hgx1) ⟨by decide, by decide⟩ C0 hH rfl rfl g_1 q_405 q_403 q_116 hl.1 (Nat.le_of_ble_eq_true rfl) (Nat.le_of_ble_eq_true rfl) d_V_arrayOf_17 (fun H locs hH => ?_)
  have hH : bn_H Z A s (q, g, v_2) H locs := by rw [hv_2]; exact hH
  refine lv_aload_n hx hb d_V_arrayOf_20 rfl (lv_at hl 1 rfl) ?_
  refine lv_iload_n hx hb d_V_arrayOf_21 rfl (lv_at hl 0 rfl) ?_
  obtain ⟨o1, hc, hm2, ht9, hx1, hk9⟩ := bo_out h
  have hm1 := mn_V_closed hc
  refine bx_cV (as := [.int y0]) (rest := []) C0 hnx hq hH hm0 hm1 hm2 ht9 (ci := 4) ⟨by decide, by decide⟩ (by decide) rfl (c_V_closed hl0 hc) yy_V_closed q_621 ⟨by first | omega | (simp only [dK]; omega), by first | omega | (simp only [dK]; omega)⟩ rfl hl.1 rfl (Nat.le_of_ble_eq_true rfl) d_V_arrayOf_22 hx1 (fun r9 q1 H locs hr1 hq0 hq1 hm9 hH => ?_)
  have h := hk9 r9 hr1
  exact w_V_arrayOf_25 C0 hr hnx  _ _ _ _ _ _ _ h hq0 hm9 hm2 hH (lv_sub hl [] rfl)
def f_V_arrayOf (g : Nat → Nat) (v : mS) (x1 : Nat) (x2 : Int32) : Option (bO Int32) := mg g (gd (inrB x1) (bo (f_V_open g v 5 x2) fun r9 g9 v9 => f_V_arrayOf_6 x1 x2 r9 g9 v9))
theorem mn_V_arrayOf {g : Nat → Nat} {v : mS}  {x1 : Nat} {x2 : Int32} {o : bO Int32} (h : f_V_arrayOf g v x1 x2 = some o) : gL g ≤ gL o.2.1 := (mg_out h).1
set_option maxHeartbeats 4000000 in
set_option maxRecDepth 100000 in
theorem c_V_arrayOf {l : Launch} {Z : bZ} (hl0 : l.stackTraces = false) {q g : Nat → Nat} {v : mS}  {x1 : Nat} {x2 : Int32} {o : bO Int32} (h : f_V_arrayOf g v x1 x2 = some o) : bx_M l Z 8 y_V_arrayOf b_V_arrayOf 4 (some .int) [.ref (q 1), .ref (q x1), .int x2] q g v enI o := by
  refine bx_of hl0 (by decide +kernel) (Nat.le_of_ble_eq_true rfl) ?_
  intro p e s m args below meth c A ls C0 hr hnx hl hH
  have hx := C0.1
  have hb := C0.2.1
  have C0 : bn_C "FilterBench$Values" b_V_arrayOf 4 Z A p l s m args meth c := C0
  have hl : lv_has ls 4 [(0, .ref (q 1)), (1, .ref (q x1)), (2, .int x2)] := hl
  obtain ⟨hm, h⟩ := mg_out h
  have hm0 : gL g ≤ gL g := Nat.le_refl _
  have hq : qs q q := qs.rf
  have hcl9 := bx_room (h0 := 8) (o := o) hm0 hm
  obtain ⟨hgx1, h⟩ := gd_out h
  refine lv_aload_n hx hb d_V_arrayOf_0 rfl (lv_at hl 0 rfl) ?_
  refine lv_iconst (v := 5) hx hb d_V_arrayOf_1 (by decide) ?_
  refine lv_iload_n hx hb d_V_arrayOf_2 rfl (lv_at hl 2 rfl) ?_
  obtain ⟨o1, hc, hm2, ht9, hx1, hk9⟩ := bo_out h
  have hm1 := mn_V_open hc
  refine bx_cV (as := [.int 5, .int x2]) (rest := []) C0 hnx hq hH hm0 hm1 hm2 ht9 (ci := 4) ⟨by decide, by decide⟩ (by decide) rfl (c_V_open hl0 hc) yy_V_open q_384 ⟨by first | omega | (simp only [dK]; omega), by first | omega | (simp only [dK]; omega)⟩ rfl hl.1 rfl (Nat.le_of_ble_eq_true rfl) d_V_arrayOf_3 hx1 (fun r9 q1 H locs hr1 hq0 hq1 hm9 hH => ?_)
  have h := hk9 r9 hr1
  have e9 : q1 1 = q 1 := (hq1 1 (by decide) (by decide))
  try rw [← e9] at hl
  try rw [← e9]
  have e9 : q1 x1 = q x1 := (hq1 x1 (inrB_ne hgx1).1 (inrB_ne hgx1).2)
  try rw [← e9] at hl
  try rw [← e9]
  exact w_V_arrayOf_6 C0 hr hnx  _ _ _ _ _ _ _ _ _ h hq0 hm9 hm2 hH (lv_sub hl [0, 1, 2] rfl)
def f_V_emptyArray_10  (y0 : Int32) (g : Nat → Nat) (v : mS) : Option (bO Int32) := some (.inl (y0), g, v)
set_option maxHeartbeats 4000000 in
set_option maxRecDepth 100000 in
theorem w_V_emptyArray_10 {p : Program} {l : Launch} {e : Env} {s : State} {m : MethodId} {args : Array Value} {below : List Frame} {meth : Method} {c : Code} {Z : bZ} {A : Nat → Prop} {q0 g0 : Nat → Nat} {o : bO Int32}  (C0 : bn_C "FilterBench$Values" b_V_emptyArray 1 Z A p l s m args meth c) (hr : meth.sig.returnType = (some .int)) (hnx : ∀ x ∈ c.exceptionTable.toList, False) : ∀ (y0 : Int32) (g : Nat → Nat) (v : mS) (q : Nat → Nat) (H : Heap) (locs : List Loc) (ls : Array Slot), f_V_emptyArray_10  y0 g v = some o → qs q0 q → gL g0 ≤ gL g → gL g ≤ gL o.2.1 → bn_H Z A s (q, g, v) H locs → lv_has ls 1 [] → bx_W p l e s m args below meth c Z A q0 g0 enI o 8 g H locs (F0 m 10 ls [.int y0]) := by
  have hx := C0.1
  have hb := C0.2.1
  have hl0 := C0.2.2.2.2.2.2.2.2.2
  intro y0 g v q H locs ls h hq hm0 hm hH hl
  unfold f_V_emptyArray_10 at h
  have hcl9 := bx_room (h0 := 8) (o := o) hm0 hm
  exact bx_iret C0 hr hq hH hm0 d_V_emptyArray_10 h
def f_V_emptyArray_7  (y1 : Int32) (g : Nat → Nat) (v : mS) : Option (bO Int32) := bo (f_V_closed g v y1) fun r9 g9 v9 => f_V_emptyArray_10 r9 g9 v9
set_option maxHeartbeats 4000000 in
set_option maxRecDepth 100000 in
theorem w_V_emptyArray_7 {p : Program} {l : Launch} {e : Env} {s : State} {m : MethodId} {args : Array Value} {below : List Frame} {meth : Method} {c : Code} {Z : bZ} {A : Nat → Prop} {q0 g0 : Nat → Nat} {o : bO Int32}  (C0 : bn_C "FilterBench$Values" b_V_emptyArray 1 Z A p l s m args meth c) (hr : meth.sig.returnType = (some .int)) (hnx : ∀ x ∈ c.exceptionTable.toList, False) : ∀ (y1 : Int32) (g : Nat → Nat) (v : mS) (q : Nat → Nat) (H : Heap) (locs : List Loc) (ls : Array Slot), f_V_emptyArray_7  y1 g v = some o → qs q0 q → gL g0 ≤ gL g → gL g ≤ gL o.2.1 → bn_H Z A s (q, g, v) H locs → lv_has ls 1 [] → bx_W p l e s m args below meth c Z A q0 g0 enI o 8 g H locs (F0 m 7 ls [.int y1, .ref (q 1)]) := by
  have hx := C0.1
  have hb := C0.2.1
  have hl0 := C0.2.2.2.2.2.2.2.2.2
  intro y1 g v q H locs ls h hq hm0 hm hH hl
  unfold f_V_emptyArray_7 at h
  have hcl9 := bx_room (h0 := 8) (o := o) hm0 hm
  obtain ⟨o1, hc, hm2, ht9, hx1, hk9⟩ := bo_out h
  have hm1 := mn_V_closed hc
  refine bx_cV (as := [.int y1]) (rest := []) C0 hnx hq hH hm0 hm1 hm2 ht9 (ci := 4) ⟨by decide, by decide⟩ (by decide) rfl (c_V_closed hl0 hc) yy_V_closed q_621 ⟨by first | omega | (simp only [dK]; omega), by first | omega | (simp only [dK]; omega)⟩ rfl hl.1 rfl (Nat.le_of_ble_eq_true rfl) d_V_emptyArray_7 hx1 (fun r9 q1 H locs hr1 hq0 hq1 hm9 hH => ?_)
  have h := hk9 r9 hr1
  exact w_V_emptyArray_10 C0 hr hnx  _ _ _ _ _ _ _ h hq0 hm9 hm2 hH (lv_sub hl [] rfl)
def f_V_emptyArray (g : Nat → Nat) (v : mS)  : Option (bO Int32) := mg g (bo (f_V_open g v 5 0) fun r9 g9 v9 => f_V_emptyArray_7 r9 g9 v9)
theorem mn_V_emptyArray {g : Nat → Nat} {v : mS}   {o : bO Int32} (h : f_V_emptyArray g v  = some o) : gL g ≤ gL o.2.1 := (mg_out h).1
set_option maxHeartbeats 4000000 in
set_option maxRecDepth 100000 in
theorem c_V_emptyArray {l : Launch} {Z : bZ} (hl0 : l.stackTraces = false) {q g : Nat → Nat} {v : mS}   {o : bO Int32} (h : f_V_emptyArray g v  = some o) : bx_M l Z 8 y_V_emptyArray b_V_emptyArray 1 (some .int) [.ref (q 1)] q g v enI o := by
  refine bx_of hl0 (by decide +kernel) (Nat.le_of_ble_eq_true rfl) ?_
  intro p e s m args below meth c A ls C0 hr hnx hl hH
  have hx := C0.1
  have hb := C0.2.1
  have C0 : bn_C "FilterBench$Values" b_V_emptyArray 1 Z A p l s m args meth c := C0
  have hl : lv_has ls 1 [(0, .ref (q 1))] := hl
  obtain ⟨hm, h⟩ := mg_out h
  have hm0 : gL g ≤ gL g := Nat.le_refl _
  have hq : qs q q := qs.rf
  have hcl9 := bx_room (h0 := 8) (o := o) hm0 hm
  refine lv_aload_n hx hb d_V_emptyArray_0 rfl (lv_at hl 0 rfl) ?_
  refine lv_aload_n hx hb d_V_emptyArray_1 rfl (lv_at hl 0 rfl) ?_
  refine lv_iconst (v := 5) hx hb d_V_emptyArray_2 (by decide) ?_
  refine lv_iconst (v := 0) hx hb d_V_emptyArray_3 (by decide) ?_
  obtain ⟨o1, hc, hm2, ht9, hx1, hk9⟩ := bo_out h
  have hm1 := mn_V_open hc
  refine bx_cV (as := [.int 5, .int 0]) (rest := [.ref (q 1)]) C0 hnx hq hH hm0 hm1 hm2 ht9 (ci := 4) ⟨by decide, by decide⟩ (by decide) rfl (c_V_open hl0 hc) yy_V_open q_384 ⟨by first | omega | (simp only [dK]; omega), by first | omega | (simp only [dK]; omega)⟩ rfl hl.1 rfl (Nat.le_of_ble_eq_true rfl) d_V_emptyArray_4 hx1 (fun r9 q1 H locs hr1 hq0 hq1 hm9 hH => ?_)
  have h := hk9 r9 hr1
  have e9 : q1 1 = q 1 := (hq1 1 (by decide) (by decide))
  try rw [← e9] at hl
  try rw [← e9]
  exact w_V_emptyArray_7 C0 hr hnx  _ _ _ _ _ _ _ h hq0 hm9 hm2 hH (lv_sub hl [] rfl)
def f_V_objectOf_33  (y0 : Int32) (g : Nat → Nat) (v : mS) : Option (bO Int32) := some (.inl (y0), g, v)
set_option maxHeartbeats 4000000 in
set_option maxRecDepth 100000 in
theorem w_V_objectOf_33 {p : Program} {l : Launch} {e : Env} {s : State} {m : MethodId} {args : Array Value} {below : List Frame} {meth : Method} {c : Code} {Z : bZ} {A : Nat → Prop} {q0 g0 : Nat → Nat} {o : bO Int32}  (C0 : bn_C "FilterBench$Values" b_V_objectOf 4 Z A p l s m args meth c) (hr : meth.sig.returnType = (some .int)) (hnx : ∀ x ∈ c.exceptionTable.toList, False) : ∀ (y0 : Int32) (g : Nat → Nat) (v : mS) (q : Nat → Nat) (H : Heap) (locs : List Loc) (ls : Array Slot), f_V_objectOf_33  y0 g v = some o → qs q0 q → gL g0 ≤ gL g → gL g ≤ gL o.2.1 → bn_H Z A s (q, g, v) H locs → lv_has ls 4 [] → bx_W p l e s m args below meth c Z A q0 g0 enI o 8 g H locs (F0 m 33 ls [.int y0]) := by
  have hx := C0.1
  have hb := C0.2.1
  have hl0 := C0.2.2.2.2.2.2.2.2.2
  intro y0 g v q H locs ls h hq hm0 hm hH hl
  unfold f_V_objectOf_33 at h
  have hcl9 := bx_room (h0 := 8) (o := o) hm0 hm
  exact bx_iret C0 hr hq hH hm0 d_V_objectOf_33 h
def f_V_objectOf_7  (x1 : Int32) (x2 : Int32) (y0 : Int32) (g : Nat → Nat) (v : mS) : Option (bO Int32) := gd (inB (y0 + 4) (g 4)) (nm (sU v 4 (y0 + 4 : Int32).toNatClampNeg x2) fun v_2 => gd (inB ((y0 + 4) + 1) (g 4)) (nm (sU v_2 4 ((y0 + 4) + 1 : Int32).toNatClampNeg x1) fun v_4 => bo (f_V_closed g v_4 y0) fun r9 g9 v9 => f_V_objectOf_33 r9 g9 v9))
set_option maxHeartbeats 4000000 in
set_option maxRecDepth 100000 in
theorem w_V_objectOf_7 {p : Program} {l : Launch} {e : Env} {s : State} {m : MethodId} {args : Array Value} {below : List Frame} {meth : Method} {c : Code} {Z : bZ} {A : Nat → Prop} {q0 g0 : Nat → Nat} {o : bO Int32}  (C0 : bn_C "FilterBench$Values" b_V_objectOf 4 Z A p l s m args meth c) (hr : meth.sig.returnType = (some .int)) (hnx : ∀ x ∈ c.exceptionTable.toList, False) : ∀ (x1 : Int32) (x2 : Int32) (y0 : Int32) (g : Nat → Nat) (v : mS) (q : Nat → Nat) (H : Heap) (locs : List Loc) (ls : Array Slot), f_V_objectOf_7  x1 x2 y0 g v = some o → qs q0 q → gL g0 ≤ gL g → gL g ≤ gL o.2.1 → bn_H Z A s (q, g, v) H locs → lv_has ls 4 [(0, .ref (q 1)), (1, .int x1), (2, .int x2)] → bx_W p l e s m args below meth c Z A q0 g0 enI o 8 g H locs (F0 m 7 ls [.int y0]) := by
  have hx := C0.1
  have hb := C0.2.1
  have hl0 := C0.2.2.2.2.2.2.2.2.2
  intro x1 x2 y0 g v q H locs ls h hq hm0 hm hH hl
  unfold f_V_objectOf_7 at h
  have hcl9 := bx_room (h0 := 8) (o := o) hm0 hm
  refine lv_istore_n (lv' := [(3, .int y0), (0, .ref (q 1)), (1, .int x1), (2, .int x2)]) hx hb d_V_objectOf_7 rfl hl (by decide) rfl (fun ls hl => ?_)
  refine lv_aload_n hx hb d_V_objectOf_8 rfl (lv_at hl 1 rfl) ?_
  refine bn_g_V_cells ⟨by decide, by decide⟩ C0 hH d_V_objectOf_9 ?_
  refine lv_iload_n hx hb d_V_objectOf_12 rfl (lv_at hl 0 rfl) ?_
  refine lv_iconst (v := 4) hx hb d_V_objectOf_13 (by decide) ?_
  refine lv_iadd hx hb d_V_objectOf_14 ?_
  refine lv_iload_n hx hb d_V_objectOf_15 rfl (lv_at hl 3 rfl) ?_
  obtain ⟨g_1, h⟩ := gd_out h
  obtain ⟨v_2, hv_2, h⟩ := nm_out h
  refine bn_sto ⟨by decide, by decide⟩ C0 hH (inB_in g_1) d_V_objectOf_16 (fun H locs hH => ?_)
  have hH : bn_H Z A s (q, g, v_2) H locs := by rw [hv_2]; exact hH
  refine lv_aload_n hx hb d_V_objectOf_17 rfl (lv_at hl 1 rfl) ?_
  refine bn_g_V_cells ⟨by decide, by decide⟩ C0 hH d_V_objectOf_18 ?_
  refine lv_iload_n hx hb d_V_objectOf_21 rfl (lv_at hl 0 rfl) ?_
  refine lv_iconst (v := 4) hx hb d_V_objectOf_22 (by decide) ?_
  refine lv_iadd hx hb d_V_objectOf_23 ?_
  refine lv_iconst (v := 1) hx hb d_V_objectOf_24 (by decide) ?_
  refine lv_iadd hx hb d_V_objectOf_25 ?_
  refine lv_iload_n hx hb d_V_objectOf_26 rfl (lv_at hl 2 rfl) ?_
  obtain ⟨g_3, h⟩ := gd_out h
  obtain ⟨v_4, hv_4, h⟩ := nm_out h
  refine bn_sto ⟨by decide, by decide⟩ C0 hH (inB_in g_3) d_V_objectOf_27 (fun H locs hH => ?_)
  have hH : bn_H Z A s (q, g, v_4) H locs := by rw [hv_4]; exact hH
  refine lv_aload_n hx hb d_V_objectOf_28 rfl (lv_at hl 1 rfl) ?_
  refine lv_iload_n hx hb d_V_objectOf_29 rfl (lv_at hl 0 rfl) ?_
  obtain ⟨o1, hc, hm2, ht9, hx1, hk9⟩ := bo_out h
  have hm1 := mn_V_closed hc
  refine bx_cV (as := [.int y0]) (rest := []) C0 hnx hq hH hm0 hm1 hm2 ht9 (ci := 4) ⟨by decide, by decide⟩ (by decide) rfl (c_V_closed hl0 hc) yy_V_closed q_621 ⟨by first | omega | (simp only [dK]; omega), by first | omega | (simp only [dK]; omega)⟩ rfl hl.1 rfl (Nat.le_of_ble_eq_true rfl) d_V_objectOf_30 hx1 (fun r9 q1 H locs hr1 hq0 hq1 hm9 hH => ?_)
  have h := hk9 r9 hr1
  exact w_V_objectOf_33 C0 hr hnx  _ _ _ _ _ _ _ h hq0 hm9 hm2 hH (lv_sub hl [] rfl)
def f_V_objectOf (g : Nat → Nat) (v : mS) (x1 : Int32) (x2 : Int32) : Option (bO Int32) := mg g (bo (f_V_open g v 6 1) fun r9 g9 v9 => f_V_objectOf_7 x1 x2 r9 g9 v9)
theorem mn_V_objectOf {g : Nat → Nat} {v : mS}  {x1 : Int32} {x2 : Int32} {o : bO Int32} (h : f_V_objectOf g v x1 x2 = some o) : gL g ≤ gL o.2.1 := (mg_out h).1
set_option maxHeartbeats 4000000 in
set_option maxRecDepth 100000 in
theorem c_V_objectOf {l : Launch} {Z : bZ} (hl0 : l.stackTraces = false) {q g : Nat → Nat} {v : mS}  {x1 : Int32} {x2 : Int32} {o : bO Int32} (h : f_V_objectOf g v x1 x2 = some o) : bx_M l Z 8 y_V_objectOf b_V_objectOf 4 (some .int) [.ref (q 1), .int x1, .int x2] q g v enI o := by
  refine bx_of hl0 (by decide +kernel) (Nat.le_of_ble_eq_true rfl) ?_
  intro p e s m args below meth c A ls C0 hr hnx hl hH
  have hx := C0.1
  have hb := C0.2.1
  have C0 : bn_C "FilterBench$Values" b_V_objectOf 4 Z A p l s m args meth c := C0
  have hl : lv_has ls 4 [(0, .ref (q 1)), (1, .int x1), (2, .int x2)] := hl
  obtain ⟨hm, h⟩ := mg_out h
  have hm0 : gL g ≤ gL g := Nat.le_refl _
  have hq : qs q q := qs.rf
  have hcl9 := bx_room (h0 := 8) (o := o) hm0 hm
  refine lv_aload_n hx hb d_V_objectOf_0 rfl (lv_at hl 0 rfl) ?_
  refine lv_bipush (v := 6) hx hb d_V_objectOf_1 (by decide) ?_
  refine lv_iconst (v := 1) hx hb d_V_objectOf_3 (by decide) ?_
  obtain ⟨o1, hc, hm2, ht9, hx1, hk9⟩ := bo_out h
  have hm1 := mn_V_open hc
  refine bx_cV (as := [.int 6, .int 1]) (rest := []) C0 hnx hq hH hm0 hm1 hm2 ht9 (ci := 4) ⟨by decide, by decide⟩ (by decide) rfl (c_V_open hl0 hc) yy_V_open q_384 ⟨by first | omega | (simp only [dK]; omega), by first | omega | (simp only [dK]; omega)⟩ rfl hl.1 rfl (Nat.le_of_ble_eq_true rfl) d_V_objectOf_4 hx1 (fun r9 q1 H locs hr1 hq0 hq1 hm9 hH => ?_)
  have h := hk9 r9 hr1
  have e9 : q1 1 = q 1 := (hq1 1 (by decide) (by decide))
  try rw [← e9] at hl
  try rw [← e9]
  exact w_V_objectOf_7 C0 hr hnx  _ _ _ _ _ _ _ _ _ h hq0 hm9 hm2 hH (lv_sub hl [0, 1, 2] rfl)
def f_V_moved_111 (Kr : (Nat → Nat) → mS → Int32 → Option (bO Int32)) (K66 : Int32 → Int32 → Int32 → Int32 → (Nat → Nat) → mS → Option (bO Int32)) (x1 : Int32) (x2 : Int32) (x3 : Int32) (x4 : Int32) (y0 : Int32) (g : Nat → Nat) (v : mS) : Option (bO Int32) := gd (inB ((x3 - x1) + x4) (g 4)) (nm (sU v 4 ((x3 - x1) + x4 : Int32).toNatClampNeg y0) fun v_2 => nm (x4 + 1) fun x4_3 => K66 x1 x2 x3 x4_3 g v_2)
set_option maxHeartbeats 4000000 in
set_option maxRecDepth 100000 in
theorem w_V_moved_111 {p : Program} {l : Launch} {e : Env} {s : State} {m : MethodId} {args : Array Value} {below : List Frame} {meth : Method} {c : Code} {Z : bZ} {A : Nat → Prop} {q0 g0 : Nat → Nat} {o : bO Int32} {rB : Nat} {Kr : (Nat → Nat) → mS → Int32 → Option (bO Int32)} (hMr : ∀ {g : Nat → Nat} {v : mS} {z1 : Int32} {o : bO Int32}, Kr g v z1 = some o → gL g ≤ gL o.2.1) (hKr : ∀ {q g : Nat → Nat} {v : mS} {z1 : Int32} {o : bO Int32}, Kr g v z1 = some o → bx_M l Z rB y_V_moved b_V_moved 6 (some .int) [.ref (q 1), .int z1] q g v enI o) (C0 : bn_C "FilterBench$Values" b_V_moved 6 Z A p l s m args meth c) (hr : meth.sig.returnType = (some .int)) (hnx : ∀ x ∈ c.exceptionTable.toList, False) {K66 : Int32 → Int32 → Int32 → Int32 → (Nat → Nat) → mS → Option (bO Int32)} (hK66 : ∀ (x1 : Int32) (x2 : Int32) (x3 : Int32) (x4 : Int32) (g : Nat → Nat) (v : mS) (q : Nat → Nat) (H : Heap) (locs : List Loc) (ls : Array Slot), K66 x1 x2 x3 x4 g v = some o → qs q0 q → gL g0 ≤ gL g → gL g ≤ gL o.2.1 → bn_H Z A s (q, g, v) H locs → lv_has ls 6 [(0, .ref (q 1)), (1, .int x1), (2, .int x2), (3, .int x3), (4, .int x4)] → bx_W p l e s m args below meth c Z A q0 g0 enI o (rB + 8) g H locs (F0 m 66 ls [])) : ∀ (x1 : Int32) (x2 : Int32) (x3 : Int32) (x4 : Int32) (y0 : Int32) (g : Nat → Nat) (v : mS) (q : Nat → Nat) (H : Heap) (locs : List Loc) (ls : Array Slot), f_V_moved_111 Kr K66 x1 x2 x3 x4 y0 g v = some o → qs q0 q → gL g0 ≤ gL g → gL g ≤ gL o.2.1 → bn_H Z A s (q, g, v) H locs → lv_has ls 6 [(0, .ref (q 1)), (1, .int x1), (2, .int x2), (3, .int x3), (4, .int x4)] → bx_W p l e s m args below meth c Z A q0 g0 enI o (rB + 8) g H locs (F0 m 111 ls [.int y0]) := by
  have hx := C0.1
  have hb := C0.2.1
  have hl0 := C0.2.2.2.2.2.2.2.2.2
  intro x1 x2 x3 x4 y0 g v q H locs ls h hq hm0 hm hH hl
  unfold f_V_moved_111 at h
  have hcl9 := bx_room (h0 := (rB + 8)) (o := o) hm0 hm
  refine lv_istore (lv' := [(5, .int y0), (0, .ref (q 1)), (1, .int x1), (2, .int x2), (3, .int x3), (4, .int x4)]) hx hb d_V_moved_111 hl (by decide) rfl (fun ls hl => ?_)
  refine lv_aload_n hx hb d_V_moved_113 rfl (lv_at hl 1 rfl) ?_
  refine bn_g_V_cells ⟨by decide, by decide⟩ C0 hH d_V_moved_114 ?_
  refine lv_iload_n hx hb d_V_moved_117 rfl (lv_at hl 4 rfl) ?_
  refine lv_iload_n hx hb d_V_moved_118 rfl (lv_at hl 2 rfl) ?_
  refine lv_isub hx hb d_V_moved_119 ?_
  refine lv_iload hx hb d_V_moved_120 (lv_at hl 5 rfl) ?_
  refine lv_iadd hx hb d_V_moved_122 ?_
  refine lv_iload hx hb d_V_moved_123 (lv_at hl 0 rfl) ?_
  obtain ⟨g_1, h⟩ := gd_out h
  obtain ⟨v_2, hv_2, h⟩ := nm_out h
  refine bn_sto ⟨by decide, by decide⟩ C0 hH (inB_in g_1) d_V_moved_125 (fun H locs hH => ?_)
  have hH : bn_H Z A s (q, g, v_2) H locs := by rw [hv_2]; exact hH
  obtain ⟨x4_3, hx4_3, h⟩ := nm_out h
  refine lv_iinc (v := x4_3) (lv' := [(4, .int x4_3), (5, .int y0), (0, .ref (q 1)), (1, .int x1), (2, .int x2), (3, .int x3)]) hx hb d_V_moved_126 hl (k := 5) rfl (by rw [hx4_3]; rfl) (by decide) rfl (fun ls hl => ?_)
  refine lv_goto (tgt := 66) hx hb d_V_moved_129 (by decide) ?_
  exact hK66 _ _ _ _ _ _ _ _ _ _ h hq hm0 hm hH (lv_sub hl [2, 3, 4, 5, 0] rfl)
def f_V_moved_101 (Kr : (Nat → Nat) → mS → Int32 → Option (bO Int32)) (K66 : Int32 → Int32 → Int32 → Int32 → (Nat → Nat) → mS → Option (bO Int32)) (x1 : Int32) (x2 : Int32) (x3 : Int32) (x4 : Int32) (y0 : Int32) (g : Nat → Nat) (v : mS) : Option (bO Int32) := f_V_moved_111 Kr K66 x1 x2 x3 x4 y0 g v
set_option maxHeartbeats 4000000 in
set_option maxRecDepth 100000 in
theorem w_V_moved_101 {p : Program} {l : Launch} {e : Env} {s : State} {m : MethodId} {args : Array Value} {below : List Frame} {meth : Method} {c : Code} {Z : bZ} {A : Nat → Prop} {q0 g0 : Nat → Nat} {o : bO Int32} {rB : Nat} {Kr : (Nat → Nat) → mS → Int32 → Option (bO Int32)} (hMr : ∀ {g : Nat → Nat} {v : mS} {z1 : Int32} {o : bO Int32}, Kr g v z1 = some o → gL g ≤ gL o.2.1) (hKr : ∀ {q g : Nat → Nat} {v : mS} {z1 : Int32} {o : bO Int32}, Kr g v z1 = some o → bx_M l Z rB y_V_moved b_V_moved 6 (some .int) [.ref (q 1), .int z1] q g v enI o) (C0 : bn_C "FilterBench$Values" b_V_moved 6 Z A p l s m args meth c) (hr : meth.sig.returnType = (some .int)) (hnx : ∀ x ∈ c.exceptionTable.toList, False) {K66 : Int32 → Int32 → Int32 → Int32 → (Nat → Nat) → mS → Option (bO Int32)} (hK66 : ∀ (x1 : Int32) (x2 : Int32) (x3 : Int32) (x4 : Int32) (g : Nat → Nat) (v : mS) (q : Nat → Nat) (H : Heap) (locs : List Loc) (ls : Array Slot), K66 x1 x2 x3 x4 g v = some o → qs q0 q → gL g0 ≤ gL g → gL g ≤ gL o.2.1 → bn_H Z A s (q, g, v) H locs → lv_has ls 6 [(0, .ref (q 1)), (1, .int x1), (2, .int x2), (3, .int x3), (4, .int x4)] → bx_W p l e s m args below meth c Z A q0 g0 enI o (rB + 8) g H locs (F0 m 66 ls [])) : ∀ (x1 : Int32) (x2 : Int32) (x3 : Int32) (x4 : Int32) (y0 : Int32) (g : Nat → Nat) (v : mS) (q : Nat → Nat) (H : Heap) (locs : List Loc) (ls : Array Slot), f_V_moved_101 Kr K66 x1 x2 x3 x4 y0 g v = some o → qs q0 q → gL g0 ≤ gL g → gL g ≤ gL o.2.1 → bn_H Z A s (q, g, v) H locs → lv_has ls 6 [(0, .ref (q 1)), (1, .int x1), (2, .int x2), (3, .int x3), (4, .int x4)] → bx_W p l e s m args below meth c Z A q0 g0 enI o (rB + 8) g H locs (F0 m 101 ls [.int y0]) := by
  have hx := C0.1
  have hb := C0.2.1
  have hl0 := C0.2.2.2.2.2.2.2.2.2
  intro x1 x2 x3 x4 y0 g v q H locs ls h hq hm0 hm hH hl
  unfold f_V_moved_101 at h
  have hcl9 := bx_room (h0 := (rB + 8)) (o := o) hm0 hm
  refine lv_goto (tgt := 111) hx hb d_V_moved_101 (by decide) ?_
  exact w_V_moved_111 hMr hKr C0 hr hnx hK66 _ _ _ _ _ _ _ _ _ _ _ h hq hm0 hm hH (lv_sub hl [0, 1, 2, 3, 4] rfl)
def f_V_moved_66 (Kr : (Nat → Nat) → mS → Int32 → Option (bO Int32))  : Nat → Int32 → Int32 → Int32 → Int32 → (Nat → Nat) → mS → Option (bO Int32)
  | 0, _, _, _, _, _, _ => none
  | n + 1, x1, x2, x3, x4, g, v => gd (inB (x1 + 1) (g 5)) (bi (f_V_cellsFor g v x2 (v 5 (x1 + 1 : Int32).toNatClampNeg)) fun r_4 v_2 => if (x1 + r_4) ≤ x4 then (some (.inl (x3), g, v_2)) else (if x2 < 5 then (gd (inB x4 (g 5)) (f_V_moved_111 Kr (f_V_moved_66 Kr n) x1 x2 x3 x4 (v_2 5 (x4 : Int32).toNatClampNeg) g v_2)) else (gd (inB x4 (g 5)) (bo (Kr g v_2 (v_2 5 (x4 : Int32).toNatClampNeg)) fun r9 g9 v9 => f_V_moved_101 Kr (f_V_moved_66 Kr n) x1 x2 x3 x4 r9 g9 v9))))
set_option maxHeartbeats 4000000 in
set_option maxRecDepth 100000 in
theorem w_V_moved_66 {p : Program} {l : Launch} {e : Env} {s : State} {m : MethodId} {args : Array Value} {below : List Frame} {meth : Method} {c : Code} {Z : bZ} {A : Nat → Prop} {q0 g0 : Nat → Nat} {o : bO Int32} {rB : Nat} {Kr : (Nat → Nat) → mS → Int32 → Option (bO Int32)} (hMr : ∀ {g : Nat → Nat} {v : mS} {z1 : Int32} {o : bO Int32}, Kr g v z1 = some o → gL g ≤ gL o.2.1) (hKr : ∀ {q g : Nat → Nat} {v : mS} {z1 : Int32} {o : bO Int32}, Kr g v z1 = some o → bx_M l Z rB y_V_moved b_V_moved 6 (some .int) [.ref (q 1), .int z1] q g v enI o) (C0 : bn_C "FilterBench$Values" b_V_moved 6 Z A p l s m args meth c) (hr : meth.sig.returnType = (some .int)) (hnx : ∀ x ∈ c.exceptionTable.toList, False) : ∀ (n : Nat) (x1 : Int32) (x2 : Int32) (x3 : Int32) (x4 : Int32) (g : Nat → Nat) (v : mS) (q : Nat → Nat) (H : Heap) (locs : List Loc) (ls : Array Slot), f_V_moved_66 Kr  n x1 x2 x3 x4 g v = some o → qs q0 q → gL g0 ≤ gL g → gL g ≤ gL o.2.1 → bn_H Z A s (q, g, v) H locs → lv_has ls 6 [(0, .ref (q 1)), (1, .int x1), (2, .int x2), (3, .int x3), (4, .int x4)] → bx_W p l e s m args below meth c Z A q0 g0 enI o (rB + 8) g H locs (F0 m 66 ls []) := by
  have hx := C0.1
  have hb := C0.2.1
  have hl0 := C0.2.2.2.2.2.2.2.2.2
  intro n
  induction n with
  | zero =>
    intro x1 x2 x3 x4 g v q H locs ls h hq hm0 hm hH hl
    cases h
  | succ n ih =>
    intro x1 x2 x3 x4 g v q H locs ls h hq hm0 hm hH hl
    rw [f_V_moved_66] at h
    have hcl9 := bx_room (h0 := (rB + 8)) (o := o) hm0 hm
    refine lv_iload hx hb d_V_moved_66 (lv_at hl 4 rfl) ?_
    refine lv_iload_n hx hb d_V_moved_68 rfl (lv_at hl 1 rfl) ?_
    refine lv_iload_n hx hb d_V_moved_69 rfl (lv_at hl 2 rfl) ?_
    refine lv_aload_n hx hb d_V_moved_70 rfl (lv_at hl 0 rfl) ?_
    refine bn_g_V_before ⟨by decide, by decide⟩ C0 hH d_V_moved_71 ?_
    refine lv_iload_n hx hb d_V_moved_74 rfl (lv_at hl 1 rfl) ?_
    refine lv_iconst (v := 1) hx hb d_V_moved_75 (by decide) ?_
    refine lv_iadd hx hb d_V_moved_76 ?_
    obtain ⟨g_1, h⟩ := gd_out h
    refine bn_ld ⟨by decide, by decide⟩ C0 hH (inB_in g_1) d_V_moved_77 ?_
    obtain ⟨r_4, v_2, hc_3, h⟩ := bi_out h
    refine bn_si (r := r_4) (w := (q, g, v_2)) (as := [.int x2, .int (v 5 (x1 + 1 : Int32).toNatClampNeg)]) (rest := [.int x1, .int x4]) C0 hH (c_V_cellsFor hl0 hc_3) yy_V_cellsFor q_391 ⟨by simp only [bn_rm, dK]; omega, by simp only [bn_rm, dK]; omega⟩ rfl hl.1 rfl (Nat.le_of_ble_eq_true rfl) hcl9 d_V_moved_78 (fun H locs hH => ?_)
    refine lv_iadd hx hb d_V_moved_81 ?_
    refine lv_icmp_ge (tgt := 132) hx hb d_V_moved_82 (by decide) (fun c_5 => ?_) (fun c_5 => ?_)
    · rw [if_pos c_5] at h
      refine lv_iload_n hx hb d_V_moved_132 rfl (lv_at hl 3 rfl) ?_
      exact bx_iret C0 hr hq hH hm0 d_V_moved_133 h
    · rw [if_neg c_5] at h
      refine lv_iload_n hx hb d_V_moved_85 rfl (lv_at hl 2 rfl) ?_
      refine lv_iconst (v := 5) hx hb d_V_moved_86 (by decide) ?_
      refine lv_icmp_lt (tgt := 104) hx hb d_V_moved_87 (by decide) (fun c_6 => ?_) (fun c_6 => ?_)
      · rw [if_pos c_6] at h
        refine lv_aload_n hx hb d_V_moved_104 rfl (lv_at hl 0 rfl) ?_
        refine bn_g_V_before ⟨by decide, by decide⟩ C0 hH d_V_moved_105 ?_
        refine lv_iload hx hb d_V_moved_108 (lv_at hl 4 rfl) ?_
        obtain ⟨g_7, h⟩ := gd_out h
        refine bn_ld ⟨by decide, by decide⟩ C0 hH (inB_in g_7) d_V_moved_110 ?_
        exact w_V_moved_111 hMr hKr C0 hr hnx ih _ _ _ _ _ _ _ _ _ _ _ h hq hm0 hm hH (lv_sub hl [0, 1, 2, 3, 4] rfl)
      · rw [if_neg c_6] at h
        refine lv_aload_n hx hb d_V_moved_90 rfl (lv_at hl 0 rfl) ?_
        refine lv_aload_n hx hb d_V_moved_91 rfl (lv_at hl 0 rfl) ?_
        refine bn_g_V_before ⟨by decide, by decide⟩ C0 hH d_V_moved_92 ?_
        refine lv_iload hx hb d_V_moved_95 (lv_at hl 4 rfl) ?_
        obtain ⟨g_8, h⟩ := gd_out h
        refine bn_ld ⟨by decide, by decide⟩ C0 hH (inB_in g_8) d_V_moved_97 ?_
        obtain ⟨o1, hc, hm2, ht9, hx1, hk9⟩ := bo_out h
        have hm1 := hMr hc
        refine bx_cV (as := [.int (v_2 5 (x4 : Int32).toNatClampNeg)]) (rest := []) C0 hnx hq hH hm0 hm1 hm2 ht9 (ci := 4) ⟨by decide, by decide⟩ (by decide) rfl (hKr hc) yy_V_moved q_487 ⟨by first | omega | (simp only [dK]; omega), by first | omega | (simp only [dK]; omega)⟩ rfl hl.1 rfl (Nat.le_of_ble_eq_true rfl) d_V_moved_98 hx1 (fun r9 q1 H locs hr1 hq0 hq1 hm9 hH => ?_)
        have h := hk9 r9 hr1
        have e9 : q1 1 = q 1 := (hq1 1 (by decide) (by decide))
        try rw [← e9] at hl
        try rw [← e9]
        exact w_V_moved_101 hMr hKr C0 hr hnx ih _ _ _ _ _ _ _ _ _ _ _ h hq0 hm9 hm2 hH (lv_sub hl [0, 1, 2, 3, 4] rfl)
def f_V_moved_28 (Kr : (Nat → Nat) → mS → Int32 → Option (bO Int32))  (x1 : Int32) (x2 : Int32) (y0 : Int32) (g : Nat → Nat) (v : mS) : Option (bO Int32) := gd (inB (x1 + 2) (g 5)) (gd (inB (y0 + 2) (g 4)) (nm (sU v 4 (y0 + 2 : Int32).toNatClampNeg (v 5 (x1 + 2 : Int32).toNatClampNeg)) fun v_3 => gd (inB (x1 + 3) (g 5)) (gd (inB (y0 + 3) (g 4)) (nm (sU v_3 4 (y0 + 3 : Int32).toNatClampNeg (v_3 5 (x1 + 3 : Int32).toNatClampNeg)) fun v_6 => nm (x1 + 4) fun x4_7 => f_V_moved_66 Kr fu x1 x2 y0 x4_7 g v_6))))
set_option maxHeartbeats 4000000 in
set_option maxRecDepth 100000 in
theorem w_V_moved_28 {p : Program} {l : Launch} {e : Env} {s : State} {m : MethodId} {args : Array Value} {below : List Frame} {meth : Method} {c : Code} {Z : bZ} {A : Nat → Prop} {q0 g0 : Nat → Nat} {o : bO Int32} {rB : Nat} {Kr : (Nat → Nat) → mS → Int32 → Option (bO Int32)} (hMr : ∀ {g : Nat → Nat} {v : mS} {z1 : Int32} {o : bO Int32}, Kr g v z1 = some o → gL g ≤ gL o.2.1) (hKr : ∀ {q g : Nat → Nat} {v : mS} {z1 : Int32} {o : bO Int32}, Kr g v z1 = some o → bx_M l Z rB y_V_moved b_V_moved 6 (some .int) [.ref (q 1), .int z1] q g v enI o) (C0 : bn_C "FilterBench$Values" b_V_moved 6 Z A p l s m args meth c) (hr : meth.sig.returnType = (some .int)) (hnx : ∀ x ∈ c.exceptionTable.toList, False) : ∀ (x1 : Int32) (x2 : Int32) (y0 : Int32) (g : Nat → Nat) (v : mS) (q : Nat → Nat) (H : Heap) (locs : List Loc) (ls : Array Slot), f_V_moved_28 Kr  x1 x2 y0 g v = some o → qs q0 q → gL g0 ≤ gL g → gL g ≤ gL o.2.1 → bn_H Z A s (q, g, v) H locs → lv_has ls 6 [(0, .ref (q 1)), (1, .int x1), (2, .int x2)] → bx_W p l e s m args below meth c Z A q0 g0 enI o (rB + 8) g H locs (F0 m 28 ls [.int y0]) := by
  have hx := C0.1
  have hb := C0.2.1
  have hl0 := C0.2.2.2.2.2.2.2.2.2
  intro x1 x2 y0 g v q H locs ls h hq hm0 hm hH hl
  unfold f_V_moved_28 at h
  have hcl9 := bx_room (h0 := (rB + 8)) (o := o) hm0 hm
  refine lv_istore_n (lv' := [(3, .int y0), (0, .ref (q 1)), (1, .int x1), (2, .int x2)]) hx hb d_V_moved_28 rfl hl (by decide) rfl (fun ls hl => ?_)
  refine lv_aload_n hx hb d_V_moved_29 rfl (lv_at hl 1 rfl) ?_
  refine bn_g_V_cells ⟨by decide, by decide⟩ C0 hH d_V_moved_30 ?_
  refine lv_iload_n hx hb d_V_moved_33 rfl (lv_at hl 0 rfl) ?_
  refine lv_iconst (v := 2) hx hb d_V_moved_34 (by decide) ?_
  refine lv_iadd hx hb d_V_moved_35 ?_
  refine lv_aload_n hx hb d_V_moved_36 rfl (lv_at hl 1 rfl) ?_
  refine bn_g_V_before ⟨by decide, by decide⟩ C0 hH d_V_moved_37 ?_
  refine lv_iload_n hx hb d_V_moved_40 rfl (lv_at hl 2 rfl) ?_
  refine lv_iconst (v := 2) hx hb d_V_moved_41 (by decide) ?_
  refine lv_iadd hx hb d_V_moved_42 ?_
  obtain ⟨g_1, h⟩ := gd_out h
  refine bn_ld ⟨by decide, by decide⟩ C0 hH (inB_in g_1) d_V_moved_43 ?_
  obtain ⟨g_2, h⟩ := gd_out h
  obtain ⟨v_3, hv_3, h⟩ := nm_out h
  refine bn_sto ⟨by decide, by decide⟩ C0 hH (inB_in g_2) d_V_moved_44 (fun H locs hH => ?_)
  have hH : bn_H Z A s (q, g, v_3) H locs := by rw [hv_3]; exact hH
  refine lv_aload_n hx hb d_V_moved_45 rfl (lv_at hl 1 rfl) ?_
  refine bn_g_V_cells ⟨by decide, by decide⟩ C0 hH d_V_moved_46 ?_
  refine lv_iload_n hx hb d_V_moved_49 rfl (lv_at hl 0 rfl) ?_
  refine lv_iconst (v := 3) hx hb d_V_moved_50 (by decide) ?_
  refine lv_iadd hx hb d_V_moved_51 ?_
  refine lv_aload_n hx hb d_V_moved_52 rfl (lv_at hl 1 rfl) ?_
  refine bn_g_V_before ⟨by decide, by decide⟩ C0 hH d_V_moved_53 ?_
  refine lv_iload_n hx hb d_V_moved_56 rfl (lv_at hl 2 rfl) ?_
  refine lv_iconst (v := 3) hx hb d_V_moved_57 (by decide) ?_
  refine lv_iadd hx hb d_V_moved_58 ?_
  obtain ⟨g_4, h⟩ := gd_out h
  refine bn_ld ⟨by decide, by decide⟩ C0 hH (inB_in g_4) d_V_moved_59 ?_
  obtain ⟨g_5, h⟩ := gd_out h
  obtain ⟨v_6, hv_6, h⟩ := nm_out h
  refine bn_sto ⟨by decide, by decide⟩ C0 hH (inB_in g_5) d_V_moved_60 (fun H locs hH => ?_)
  have hH : bn_H Z A s (q, g, v_6) H locs := by rw [hv_6]; exact hH
  refine lv_iload_n hx hb d_V_moved_61 rfl (lv_at hl 2 rfl) ?_
  refine lv_iconst (v := 4) hx hb d_V_moved_62 (by decide) ?_
  refine lv_iadd hx hb d_V_moved_63 ?_
  obtain ⟨x4_7, hx4_7, h⟩ := nm_out h
  refine fu_i hx4_7 ?_
  refine lv_istore (lv' := [(4, .int x4_7), (3, .int y0), (0, .ref (q 1)), (1, .int x1), (2, .int x2)]) hx hb d_V_moved_64 hl (by decide) rfl (fun ls hl => ?_)
  exact w_V_moved_66 hMr hKr C0 hr hnx  fu _ _ _ _ _ _ _ _ _ _ h hq hm0 hm hH (lv_sub hl [2, 3, 4, 1, 0] rfl)
def f_V_movedb (Kr : (Nat → Nat) → mS → Int32 → Option (bO Int32)) (g : Nat → Nat) (v : mS) (x1 : Int32) : Option (bO Int32) := mg g (if 118 ≤ x1 then (gd (inB x1 (g 5)) (nm (v 5 (x1 : Int32).toNatClampNeg) fun x2_3 => gd (inB (x1 + 1) (g 5)) (bo (f_V_open g v x2_3 (v 5 (x1 + 1 : Int32).toNatClampNeg)) fun r9 g9 v9 => f_V_moved_28 Kr x1 x2_3 r9 g9 v9))) else (some (.inl (x1), g, v)))
theorem mn_V_movedb {Kr : (Nat → Nat) → mS → Int32 → Option (bO Int32)} {g : Nat → Nat} {v : mS}  {x1 : Int32} {o : bO Int32} (h : f_V_movedb Kr g v x1 = some o) : gL g ≤ gL o.2.1 := (mg_out h).1
set_option maxHeartbeats 4000000 in
set_option maxRecDepth 100000 in
theorem c_V_movedb {l : Launch} {Z : bZ} {rB : Nat} {Kr : (Nat → Nat) → mS → Int32 → Option (bO Int32)} (hMr : ∀ {g : Nat → Nat} {v : mS} {z1 : Int32} {o : bO Int32}, Kr g v z1 = some o → gL g ≤ gL o.2.1) (hKr : ∀ {q g : Nat → Nat} {v : mS} {z1 : Int32} {o : bO Int32}, Kr g v z1 = some o → bx_M l Z rB y_V_moved b_V_moved 6 (some .int) [.ref (q 1), .int z1] q g v enI o) (hl0 : l.stackTraces = false) {q g : Nat → Nat} {v : mS}  {x1 : Int32} {o : bO Int32} (h : f_V_movedb Kr g v x1 = some o) : bx_M l Z (rB + 8) y_V_moved b_V_moved 6 (some .int) [.ref (q 1), .int x1] q g v enI o := by
  refine bx_of hl0 (by decide +kernel) (Nat.le_of_ble_eq_true rfl) ?_
  intro p e s m args below meth c A ls C0 hr hnx hl hH
  have hx := C0.1
  have hb := C0.2.1
  have C0 : bn_C "FilterBench$Values" b_V_moved 6 Z A p l s m args meth c := C0
  have hl : lv_has ls 6 [(0, .ref (q 1)), (1, .int x1)] := hl
  obtain ⟨hm, h⟩ := mg_out h
  have hm0 : gL g ≤ gL g := Nat.le_refl _
  have hq : qs q q := qs.rf
  have hcl9 := bx_room (h0 := (rB + 8)) (o := o) hm0 hm
  refine lv_iload_n hx hb d_V_moved_0 rfl (lv_at hl 1 rfl) ?_
  refine lv_bipush (v := 118) hx hb d_V_moved_1 (by decide) ?_
  refine lv_icmp_ge (tgt := 8) hx hb d_V_moved_3 (by decide) (fun c_1 => ?_) (fun c_1 => ?_)
  · rw [if_pos c_1] at h
    refine lv_aload_n hx hb d_V_moved_8 rfl (lv_at hl 0 rfl) ?_
    refine bn_g_V_before ⟨by decide, by decide⟩ C0 hH d_V_moved_9 ?_
    refine lv_iload_n hx hb d_V_moved_12 rfl (lv_at hl 1 rfl) ?_
    obtain ⟨g_2, h⟩ := gd_out h
    refine bn_ld ⟨by decide, by decide⟩ C0 hH (inB_in g_2) d_V_moved_13 ?_
    obtain ⟨x2_3, hx2_3, h⟩ := nm_out h
    refine fu_i hx2_3 ?_
    refine lv_istore_n (lv' := [(2, .int x2_3), (0, .ref (q 1)), (1, .int x1)]) hx hb d_V_moved_14 rfl hl (by decide) rfl (fun ls hl => ?_)
    refine lv_aload_n hx hb d_V_moved_15 rfl (lv_at hl 1 rfl) ?_
    refine lv_iload_n hx hb d_V_moved_16 rfl (lv_at hl 0 rfl) ?_
    refine lv_aload_n hx hb d_V_moved_17 rfl (lv_at hl 1 rfl) ?_
    refine bn_g_V_before ⟨by decide, by decide⟩ C0 hH d_V_moved_18 ?_
    refine lv_iload_n hx hb d_V_moved_21 rfl (lv_at hl 2 rfl) ?_
    refine lv_iconst (v := 1) hx hb d_V_moved_22 (by decide) ?_
    refine lv_iadd hx hb d_V_moved_23 ?_
    obtain ⟨g_4, h⟩ := gd_out h
    refine bn_ld ⟨by decide, by decide⟩ C0 hH (inB_in g_4) d_V_moved_24 ?_
    obtain ⟨o1, hc, hm2, ht9, hx1, hk9⟩ := bo_out h
    have hm1 := mn_V_open hc
    refine bx_cV (as := [.int x2_3, .int (v 5 (x1 + 1 : Int32).toNatClampNeg)]) (rest := []) C0 hnx hq hH hm0 hm1 hm2 ht9 (ci := 4) ⟨by decide, by decide⟩ (by decide) rfl (c_V_open hl0 hc) yy_V_open q_384 ⟨by first | omega | (simp only [dK]; omega), by first | omega | (simp only [dK]; omega)⟩ rfl hl.1 rfl (Nat.le_of_ble_eq_true rfl) d_V_moved_25 hx1 (fun r9 q1 H locs hr1 hq0 hq1 hm9 hH => ?_)
    have h := hk9 r9 hr1
    have e9 : q1 1 = q 1 := (hq1 1 (by decide) (by decide))
    try rw [← e9] at hl
    try rw [← e9]
    exact w_V_moved_28 hMr hKr C0 hr hnx  _ _ _ _ _ _ _ _ _ h hq0 hm9 hm2 hH (lv_sub hl [1, 2, 0] rfl)
  · rw [if_neg c_1] at h
    refine lv_iload_n hx hb d_V_moved_6 rfl (lv_at hl 1 rfl) ?_
    exact bx_iret C0 hr hq hH hm0 d_V_moved_7 h
def f_V_moved : Nat → (Nat → Nat) → mS → Int32 → Option (bO Int32)
  | 0 => fun _ _ _ => none
  | n + 1 => f_V_movedb (f_V_moved n)
theorem mn_V_moved {n : Nat} {g : Nat → Nat} {v : mS}  {x1 : Int32} {o : bO Int32} (h : f_V_moved n g v x1 = some o) : gL g ≤ gL o.2.1 := by
  cases n with
  | zero => cases h
  | succ n => exact mn_V_movedb h
theorem c_V_movedn {l : Launch} {Z : bZ} (hl0 : l.stackTraces = false) : ∀ (n : Nat) {q g : Nat → Nat} {v : mS}  {x1 : Int32} {o : bO Int32}, f_V_moved n g v x1 = some o → bx_M l Z (8 * n) y_V_moved b_V_moved 6 (some .int) [.ref (q 1), .int x1] q g v enI o := by
  intro n
  induction n with
  | zero => intro q g v x1 o h; cases h
  | succ n ih =>
    intro q g v x1 o h
    have h2 := c_V_movedb (Z := Z) (q := q) (rB := 8 * n) (fun h => mn_V_moved h) (fun h => ih h) hl0 h
    rw [show 8 * (n + 1) = 8 * n + 8 by omega]
    exact h2
