/-! methods of the reference (by program: wip/gen/mgen.py merged added summed) -/
theorem yy_M_merged : mo_Y y_M_merged b_M_merged 7 (some .int) 2 := ⟨rfl, q_1226, q_75, q_1227, by decide +kernel⟩
def f_M_merged_151 (K8 : Int32 → Int32 → Int32 → Int32 → Int32 → mS → Option (Int32 × mS)) (x1 : Int32) (x2 : Int32) (x3 : Int32) (x4 : Int32) (x5 : Int32) (v : mS) : Option (Int32 × mS) := K8 x1 x2 x3 x4 x5 v
set_option maxHeartbeats 4000000 in
set_option maxRecDepth 100000 in
theorem w_M_merged_151 {p : Program} {l : Launch} {e : Env} {s : State} {m : MethodId} {args : Array Value} {below : List Frame} {meth : Method} {c : Code} {D : va_G} {cI : ClassId} {A : Nat → Prop} {q : Nat → Nat} {o : Int32 × mS} (C0 : mo_C b_M_merged 7 D cI A p s m args meth c) (hr : meth.sig.returnType = (some .int)) {K8 : Int32 → Int32 → Int32 → Int32 → Int32 → mS → Option (Int32 × mS)} (hK8 : ∀ (x1 : Int32) (x2 : Int32) (x3 : Int32) (x4 : Int32) (x5 : Int32) (v : mS) (H : Heap) (locs : List Loc) (ls : Array Slot), K8 x1 x2 x3 x4 x5 v = some o → mo_H D cI A s q v H locs → lv_has ls 7 [(0, .ref (q 0)), (1, .int x1), (2, .int x2), (3, .int x3), (4, .int x4), (5, .int x5)] → W p l e (mo_rm 3) s m args below meth c H locs 0 0 (MQ below (mo_Qi D cI q o.1 o.2 A) args s 0 0 A) (F0 m 8 ls [])) : ∀ (x1 : Int32) (x2 : Int32) (x3 : Int32) (x4 : Int32) (x5 : Int32) (v : mS) (H : Heap) (locs : List Loc) (ls : Array Slot), f_M_merged_151 K8 x1 x2 x3 x4 x5 v = some o → mo_H D cI A s q v H locs → lv_has ls 7 [(0, .ref (q 0)), (1, .int x1), (2, .int x2), (3, .int x3), (4, .int x4), (5, .int x5)] → W p l e (mo_rm 3) s m args below meth c H locs 0 0 (MQ below (mo_Qi D cI q o.1 o.2 A) args s 0 0 A) (F0 m 151 ls []) := by
  have hx := C0.1
  have hb := C0.2.1
  intro x1 x2 x3 x4 x5 v H locs ls h hH hl
  unfold f_M_merged_151 at h
  refine lv_goto (tgt := 8) hx hb d_M_merged_151 (by decide) ?_
  exact hK8 _ _ _ _ _ _ _ _ _ h hH (lv_sub hl [0, 1, 2, 3, 4, 5] rfl)
def f_M_merged_143 (K8 : Int32 → Int32 → Int32 → Int32 → Int32 → mS → Option (Int32 × mS)) (x1 : Int32) (x2 : Int32) (x3 : Int32) (x4 : Int32) (x5 : Int32) (x6 : Int32) (v : mS) : Option (Int32 × mS) := if x6 < 0 then (f_M_merged_151 K8 x1 x2 x3 x4 x5 v) else (nm (x5 + 1) fun x5_2 => f_M_merged_151 K8 x1 x2 x3 x4 x5_2 v)
set_option maxHeartbeats 4000000 in
set_option maxRecDepth 100000 in
theorem w_M_merged_143 {p : Program} {l : Launch} {e : Env} {s : State} {m : MethodId} {args : Array Value} {below : List Frame} {meth : Method} {c : Code} {D : va_G} {cI : ClassId} {A : Nat → Prop} {q : Nat → Nat} {o : Int32 × mS} (C0 : mo_C b_M_merged 7 D cI A p s m args meth c) (hr : meth.sig.returnType = (some .int)) {K8 : Int32 → Int32 → Int32 → Int32 → Int32 → mS → Option (Int32 × mS)} (hK8 : ∀ (x1 : Int32) (x2 : Int32) (x3 : Int32) (x4 : Int32) (x5 : Int32) (v : mS) (H : Heap) (locs : List Loc) (ls : Array Slot), K8 x1 x2 x3 x4 x5 v = some o → mo_H D cI A s q v H locs → lv_has ls 7 [(0, .ref (q 0)), (1, .int x1), (2, .int x2), (3, .int x3), (4, .int x4), (5, .int x5)] → W p l e (mo_rm 3) s m args below meth c H locs 0 0 (MQ below (mo_Qi D cI q o.1 o.2 A) args s 0 0 A) (F0 m 8 ls [])) : ∀ (x1 : Int32) (x2 : Int32) (x3 : Int32) (x4 : Int32) (x5 : Int32) (x6 : Int32) (v : mS) (H : Heap) (locs : List Loc) (ls : Array Slot), f_M_merged_143 K8 x1 x2 x3 x4 x5 x6 v = some o → mo_H D cI A s q v H locs → lv_has ls 7 [(0, .ref (q 0)), (1, .int x1), (2, .int x2), (3, .int x3), (4, .int x4), (5, .int x5), (6, .int x6)] → W p l e (mo_rm 3) s m args below meth c H locs 0 0 (MQ below (mo_Qi D cI q o.1 o.2 A) args s 0 0 A) (F0 m 143 ls []) := by
  have hx := C0.1
  have hb := C0.2.1
  intro x1 x2 x3 x4 x5 x6 v H locs ls h hH hl
  unfold f_M_merged_143 at h
  refine lv_iload hx hb d_M_merged_143 (lv_at hl 6 rfl) ?_
  refine lv_if_lt (tgt := 151) hx hb d_M_merged_145 (by decide) (fun c_1 => ?_) (fun c_1 => ?_)
  · rw [if_pos c_1] at h
    exact w_M_merged_151 C0 hr hK8 _ _ _ _ _ _ _ _ _ h hH (lv_sub hl [0, 1, 2, 3, 4, 5] rfl)
  · rw [if_neg c_1] at h
    obtain ⟨x5_2, hx5_2, h⟩ := nm_out h
    refine lv_iinc (v := x5_2) (lv' := [(5, .int x5_2), (0, .ref (q 0)), (1, .int x1), (2, .int x2), (3, .int x3), (4, .int x4), (6, .int x6)]) hx hb d_M_merged_148 hl (k := 5) rfl (by rw [hx5_2]; rfl) (by decide) rfl (fun ls hl => ?_)
    exact w_M_merged_151 C0 hr hK8 _ _ _ _ _ _ _ _ _ h hH (lv_sub hl [1, 2, 3, 4, 5, 0] rfl)
def f_M_merged_131 (K8 : Int32 → Int32 → Int32 → Int32 → Int32 → mS → Option (Int32 × mS)) (x1 : Int32) (x2 : Int32) (x3 : Int32) (x4 : Int32) (x5 : Int32) (x6 : Int32) (y1 : Int32) (y2 : Int32) (v : mS) : Option (Int32 × mS) := gd (inB y1 64) (nm (sU v 10 (y1 : Int32).toNatClampNeg y2) fun v_2 => nm (x3 + 1) fun x3_3 => if 0 < x6 then (f_M_merged_143 K8 x1 x2 x3_3 x4 x5 x6 v_2) else (nm (x4 + 1) fun x4_5 => f_M_merged_143 K8 x1 x2 x3_3 x4_5 x5 x6 v_2))
set_option maxHeartbeats 4000000 in
set_option maxRecDepth 100000 in
theorem w_M_merged_131 {p : Program} {l : Launch} {e : Env} {s : State} {m : MethodId} {args : Array Value} {below : List Frame} {meth : Method} {c : Code} {D : va_G} {cI : ClassId} {A : Nat → Prop} {q : Nat → Nat} {o : Int32 × mS} (C0 : mo_C b_M_merged 7 D cI A p s m args meth c) (hr : meth.sig.returnType = (some .int)) {K8 : Int32 → Int32 → Int32 → Int32 → Int32 → mS → Option (Int32 × mS)} (hK8 : ∀ (x1 : Int32) (x2 : Int32) (x3 : Int32) (x4 : Int32) (x5 : Int32) (v : mS) (H : Heap) (locs : List Loc) (ls : Array Slot), K8 x1 x2 x3 x4 x5 v = some o → mo_H D cI A s q v H locs → lv_has ls 7 [(0, .ref (q 0)), (1, .int x1), (2, .int x2), (3, .int x3), (4, .int x4), (5, .int x5)] → W p l e (mo_rm 3) s m args below meth c H locs 0 0 (MQ below (mo_Qi D cI q o.1 o.2 A) args s 0 0 A) (F0 m 8 ls [])) : ∀ (x1 : Int32) (x2 : Int32) (x3 : Int32) (x4 : Int32) (x5 : Int32) (x6 : Int32) (y1 : Int32) (y2 : Int32) (v : mS) (H : Heap) (locs : List Loc) (ls : Array Slot), f_M_merged_131 K8 x1 x2 x3 x4 x5 x6 y1 y2 v = some o → mo_H D cI A s q v H locs → lv_has ls 7 [(0, .ref (q 0)), (1, .int x1), (2, .int x2), (3, .int x3), (4, .int x4), (5, .int x5), (6, .int x6)] → W p l e (mo_rm 3) s m args below meth c H locs 0 0 (MQ below (mo_Qi D cI q o.1 o.2 A) args s 0 0 A) (F0 m 131 ls [.int y2, .int y1, .ref (q 10)]) := by
  have hx := C0.1
  have hb := C0.2.1
  intro x1 x2 x3 x4 x5 x6 y1 y2 v H locs ls h hH hl
  unfold f_M_merged_131 at h
  obtain ⟨g_1, h⟩ := gd_out h
  obtain ⟨v_2, hv_2, h⟩ := nm_out h
  refine mo_st 10 (by decide) (by decide) C0 hH (inB_in g_1) d_M_merged_131 (fun H locs hH => ?_)
  rw [← hv_2] at hH
  obtain ⟨x3_3, hx3_3, h⟩ := nm_out h
  refine lv_iinc (v := x3_3) (lv' := [(3, .int x3_3), (0, .ref (q 0)), (1, .int x1), (2, .int x2), (4, .int x4), (5, .int x5), (6, .int x6)]) hx hb d_M_merged_132 hl (k := 3) rfl (by rw [hx3_3]; rfl) (by decide) rfl (fun ls hl => ?_)
  refine lv_iload hx hb d_M_merged_135 (lv_at hl 6 rfl) ?_
  refine lv_if_gt (tgt := 143) hx hb d_M_merged_137 (by decide) (fun c_4 => ?_) (fun c_4 => ?_)
  · rw [if_pos c_4] at h
    exact w_M_merged_143 C0 hr hK8 _ _ _ _ _ _ _ _ _ _ h hH (lv_sub hl [1, 2, 3, 0, 4, 5, 6] rfl)
  · rw [if_neg c_4] at h
    obtain ⟨x4_5, hx4_5, h⟩ := nm_out h
    refine lv_iinc (v := x4_5) (lv' := [(4, .int x4_5), (3, .int x3_3), (0, .ref (q 0)), (1, .int x1), (2, .int x2), (5, .int x5), (6, .int x6)]) hx hb d_M_merged_140 hl (k := 4) rfl (by rw [hx4_5]; rfl) (by decide) rfl (fun ls hl => ?_)
    exact w_M_merged_143 C0 hr hK8 _ _ _ _ _ _ _ _ _ _ h hH (lv_sub hl [2, 3, 4, 1, 0, 5, 6] rfl)
def f_M_merged_103 (K8 : Int32 → Int32 → Int32 → Int32 → Int32 → mS → Option (Int32 × mS)) (x1 : Int32) (x2 : Int32) (x3 : Int32) (x4 : Int32) (x5 : Int32) (x6 : Int32) (y1 : Int32) (y2 : Int32) (v : mS) : Option (Int32 × mS) := gd (inB y1 64) (nm (sU v 11 (y1 : Int32).toNatClampNeg y2) fun v_2 => if 0 ≤ x6 then (bi (f_M_item v_2 x2 x5) fun r_6 v_4 => f_M_merged_131 K8 x1 x2 x3 x4 x5 x6 x3 r_6 v_4) else (bi (f_M_item v_2 x1 x4) fun r_9 v_7 => f_M_merged_131 K8 x1 x2 x3 x4 x5 x6 x3 r_9 v_7))
set_option maxHeartbeats 4000000 in
set_option maxRecDepth 100000 in
theorem w_M_merged_103 {p : Program} {l : Launch} {e : Env} {s : State} {m : MethodId} {args : Array Value} {below : List Frame} {meth : Method} {c : Code} {D : va_G} {cI : ClassId} {A : Nat → Prop} {q : Nat → Nat} {o : Int32 × mS} (C0 : mo_C b_M_merged 7 D cI A p s m args meth c) (hr : meth.sig.returnType = (some .int)) {K8 : Int32 → Int32 → Int32 → Int32 → Int32 → mS → Option (Int32 × mS)} (hK8 : ∀ (x1 : Int32) (x2 : Int32) (x3 : Int32) (x4 : Int32) (x5 : Int32) (v : mS) (H : Heap) (locs : List Loc) (ls : Array Slot), K8 x1 x2 x3 x4 x5 v = some o → mo_H D cI A s q v H locs → lv_has ls 7 [(0, .ref (q 0)), (1, .int x1), (2, .int x2), (3, .int x3), (4, .int x4), (5, .int x5)] → W p l e (mo_rm 3) s m args below meth c H locs 0 0 (MQ below (mo_Qi D cI q o.1 o.2 A) args s 0 0 A) (F0 m 8 ls [])) : ∀ (x1 : Int32) (x2 : Int32) (x3 : Int32) (x4 : Int32) (x5 : Int32) (x6 : Int32) (y1 : Int32) (y2 : Int32) (v : mS) (H : Heap) (locs : List Loc) (ls : Array Slot), f_M_merged_103 K8 x1 x2 x3 x4 x5 x6 y1 y2 v = some o → mo_H D cI A s q v H locs → lv_has ls 7 [(0, .ref (q 0)), (1, .int x1), (2, .int x2), (3, .int x3), (4, .int x4), (5, .int x5), (6, .int x6)] → W p l e (mo_rm 3) s m args below meth c H locs 0 0 (MQ below (mo_Qi D cI q o.1 o.2 A) args s 0 0 A) (F0 m 103 ls [.int y2, .int y1, .ref (q 11)]) := by
  have hx := C0.1
  have hb := C0.2.1
  intro x1 x2 x3 x4 x5 x6 y1 y2 v H locs ls h hH hl
  unfold f_M_merged_103 at h
  obtain ⟨g_1, h⟩ := gd_out h
  obtain ⟨v_2, hv_2, h⟩ := nm_out h
  refine mo_st 11 (by decide) (by decide) C0 hH (inB_in g_1) d_M_merged_103 (fun H locs hH => ?_)
  rw [← hv_2] at hH
  refine lv_aload_n hx hb d_M_merged_104 rfl (lv_at hl 0 rfl) ?_
  refine mo_r_items C0 hH d_M_merged_105 ?_
  refine lv_iload_n hx hb d_M_merged_108 rfl (lv_at hl 3 rfl) ?_
  refine lv_iload hx hb d_M_merged_109 (lv_at hl 6 rfl) ?_
  refine lv_if_ge (tgt := 124) hx hb d_M_merged_111 (by decide) (fun c_3 => ?_) (fun c_3 => ?_)
  · rw [if_pos c_3] at h
    refine lv_aload_n hx hb d_M_merged_124 rfl (lv_at hl 0 rfl) ?_
    refine lv_iload_n hx hb d_M_merged_125 rfl (lv_at hl 2 rfl) ?_
    refine lv_iload hx hb d_M_merged_126 (lv_at hl 5 rfl) ?_
    obtain ⟨r_6, v_4, hc_5, h⟩ := bi_out h
    refine mo_ci (r := r_6) (w := v_4) (as := [.int x2, .int x5]) (rest := [.int x3, .ref (q 10)]) C0 hH (c_M_item hc_5) yy_M_item q_1142 q_109 (by decide) rfl hl.1 rfl (Nat.le_of_ble_eq_true rfl) ⟨Nat.zero_le _, Nat.zero_le _⟩ d_M_merged_128 (fun H locs hH => ?_)
    exact w_M_merged_131 C0 hr hK8 _ _ _ _ _ _ _ _ _ _ _ _ h hH (lv_sub hl [0, 1, 2, 3, 4, 5, 6] rfl)
  · rw [if_neg c_3] at h
    refine lv_aload_n hx hb d_M_merged_114 rfl (lv_at hl 0 rfl) ?_
    refine lv_iload_n hx hb d_M_merged_115 rfl (lv_at hl 1 rfl) ?_
    refine lv_iload hx hb d_M_merged_116 (lv_at hl 4 rfl) ?_
    obtain ⟨r_9, v_7, hc_8, h⟩ := bi_out h
    refine mo_ci (r := r_9) (w := v_7) (as := [.int x1, .int x4]) (rest := [.int x3, .ref (q 10)]) C0 hH (c_M_item hc_8) yy_M_item q_1142 q_109 (by decide) rfl hl.1 rfl (Nat.le_of_ble_eq_true rfl) ⟨Nat.zero_le _, Nat.zero_le _⟩ d_M_merged_118 (fun H locs hH => ?_)
    refine lv_goto (tgt := 131) hx hb d_M_merged_121 (by decide) ?_
    exact w_M_merged_131 C0 hr hK8 _ _ _ _ _ _ _ _ _ _ _ _ h hH (lv_sub hl [0, 1, 2, 3, 4, 5, 6] rfl)
def f_M_merged_74 (K8 : Int32 → Int32 → Int32 → Int32 → Int32 → mS → Option (Int32 × mS)) (x1 : Int32) (x2 : Int32) (x3 : Int32) (x4 : Int32) (x5 : Int32) (y0 : Int32) (v : mS) : Option (Int32 × mS) := if 0 ≤ y0 then (bi (f_M_name v x2 x5) fun r_4 v_2 => f_M_merged_103 K8 x1 x2 x3 x4 x5 y0 x3 r_4 v_2) else (bi (f_M_name v x1 x4) fun r_7 v_5 => f_M_merged_103 K8 x1 x2 x3 x4 x5 y0 x3 r_7 v_5)
set_option maxHeartbeats 4000000 in
set_option maxRecDepth 100000 in
theorem w_M_merged_74 {p : Program} {l : Launch} {e : Env} {s : State} {m : MethodId} {args : Array Value} {below : List Frame} {meth : Method} {c : Code} {D : va_G} {cI : ClassId} {A : Nat → Prop} {q : Nat → Nat} {o : Int32 × mS} (C0 : mo_C b_M_merged 7 D cI A p s m args meth c) (hr : meth.sig.returnType = (some .int)) {K8 : Int32 → Int32 → Int32 → Int32 → Int32 → mS → Option (Int32 × mS)} (hK8 : ∀ (x1 : Int32) (x2 : Int32) (x3 : Int32) (x4 : Int32) (x5 : Int32) (v : mS) (H : Heap) (locs : List Loc) (ls : Array Slot), K8 x1 x2 x3 x4 x5 v = some o → mo_H D cI A s q v H locs → lv_has ls 7 [(0, .ref (q 0)), (1, .int x1), (2, .int x2), (3, .int x3), (4, .int x4), (5, .int x5)] → W p l e (mo_rm 3) s m args below meth c H locs 0 0 (MQ below (mo_Qi D cI q o.1 o.2 A) args s 0 0 A) (F0 m 8 ls [])) : ∀ (x1 : Int32) (x2 : Int32) (x3 : Int32) (x4 : Int32) (x5 : Int32) (y0 : Int32) (v : mS) (H : Heap) (locs : List Loc) (ls : Array Slot), f_M_merged_74 K8 x1 x2 x3 x4 x5 y0 v = some o → mo_H D cI A s q v H locs → lv_has ls 7 [(0, .ref (q 0)), (1, .int x1), (2, .int x2), (3, .int x3), (4, .int x4), (5, .int x5)] → W p l e (mo_rm 3) s m args below meth c H locs 0 0 (MQ below (mo_Qi D cI q o.1 o.2 A) args s 0 0 A) (F0 m 74 ls [.int y0]) := by
  have hx := C0.1
  have hb := C0.2.1
  intro x1 x2 x3 x4 x5 y0 v H locs ls h hH hl
  unfold f_M_merged_74 at h
  refine lv_istore (lv' := [(6, .int y0), (0, .ref (q 0)), (1, .int x1), (2, .int x2), (3, .int x3), (4, .int x4), (5, .int x5)]) hx hb d_M_merged_74 hl (by decide) rfl (fun ls hl => ?_)
  refine lv_aload_n hx hb d_M_merged_76 rfl (lv_at hl 1 rfl) ?_
  refine mo_r_names C0 hH d_M_merged_77 ?_
  refine lv_iload_n hx hb d_M_merged_80 rfl (lv_at hl 4 rfl) ?_
  refine lv_iload hx hb d_M_merged_81 (lv_at hl 0 rfl) ?_
  refine lv_if_ge (tgt := 96) hx hb d_M_merged_83 (by decide) (fun c_1 => ?_) (fun c_1 => ?_)
  · rw [if_pos c_1] at h
    refine lv_aload_n hx hb d_M_merged_96 rfl (lv_at hl 1 rfl) ?_
    refine lv_iload_n hx hb d_M_merged_97 rfl (lv_at hl 3 rfl) ?_
    refine lv_iload hx hb d_M_merged_98 (lv_at hl 6 rfl) ?_
    obtain ⟨r_4, v_2, hc_3, h⟩ := bi_out h
    refine mo_ci (r := r_4) (w := v_2) (as := [.int x2, .int x5]) (rest := [.int x3, .ref (q 11)]) C0 hH (c_M_name hc_3) yy_M_name q_1131 q_109 (by decide) rfl hl.1 rfl (Nat.le_of_ble_eq_true rfl) ⟨Nat.zero_le _, Nat.zero_le _⟩ d_M_merged_100 (fun H locs hH => ?_)
    exact w_M_merged_103 C0 hr hK8 _ _ _ _ _ _ _ _ _ _ _ _ h hH (lv_sub hl [1, 2, 3, 4, 5, 6, 0] rfl)
  · rw [if_neg c_1] at h
    refine lv_aload_n hx hb d_M_merged_86 rfl (lv_at hl 1 rfl) ?_
    refine lv_iload_n hx hb d_M_merged_87 rfl (lv_at hl 2 rfl) ?_
    refine lv_iload hx hb d_M_merged_88 (lv_at hl 5 rfl) ?_
    obtain ⟨r_7, v_5, hc_6, h⟩ := bi_out h
    refine mo_ci (r := r_7) (w := v_5) (as := [.int x1, .int x4]) (rest := [.int x3, .ref (q 11)]) C0 hH (c_M_name hc_6) yy_M_name q_1131 q_109 (by decide) rfl hl.1 rfl (Nat.le_of_ble_eq_true rfl) ⟨Nat.zero_le _, Nat.zero_le _⟩ d_M_merged_90 (fun H locs hH => ?_)
    refine lv_goto (tgt := 103) hx hb d_M_merged_93 (by decide) ?_
    exact w_M_merged_103 C0 hr hK8 _ _ _ _ _ _ _ _ _ _ _ _ h hH (lv_sub hl [1, 2, 3, 4, 5, 6, 0] rfl)
def f_M_merged_28 (K8 : Int32 → Int32 → Int32 → Int32 → Int32 → mS → Option (Int32 × mS)) (x1 : Int32) (x2 : Int32) (x3 : Int32) (x4 : Int32) (x5 : Int32) (v : mS) : Option (Int32 × mS) := bi (f_M_size v x1) fun r_3 v_1 => if x4 = r_3 then (f_M_merged_74 K8 x1 x2 x3 x4 x5 1 v_1) else (bi (f_M_size v_1 x2) fun r_7 v_5 => if x5 = r_7 then (f_M_merged_74 K8 x1 x2 x3 x4 x5 (-1) v_5) else (bi (f_M_name v_5 x1 x4) fun r_11 v_9 => bi (f_M_name v_9 x2 x5) fun r_14 v_12 => bi (f_M_textOrder v_12 r_11 r_14) fun r_17 v_15 => f_M_merged_74 K8 x1 x2 x3 x4 x5 r_17 v_15))
set_option maxHeartbeats 4000000 in
set_option maxRecDepth 100000 in
theorem w_M_merged_28 {p : Program} {l : Launch} {e : Env} {s : State} {m : MethodId} {args : Array Value} {below : List Frame} {meth : Method} {c : Code} {D : va_G} {cI : ClassId} {A : Nat → Prop} {q : Nat → Nat} {o : Int32 × mS} (C0 : mo_C b_M_merged 7 D cI A p s m args meth c) (hr : meth.sig.returnType = (some .int)) {K8 : Int32 → Int32 → Int32 → Int32 → Int32 → mS → Option (Int32 × mS)} (hK8 : ∀ (x1 : Int32) (x2 : Int32) (x3 : Int32) (x4 : Int32) (x5 : Int32) (v : mS) (H : Heap) (locs : List Loc) (ls : Array Slot), K8 x1 x2 x3 x4 x5 v = some o → mo_H D cI A s q v H locs → lv_has ls 7 [(0, .ref (q 0)), (1, .int x1), (2, .int x2), (3, .int x3), (4, .int x4), (5, .int x5)] → W p l e (mo_rm 3) s m args below meth c H locs 0 0 (MQ below (mo_Qi D cI q o.1 o.2 A) args s 0 0 A) (F0 m 8 ls [])) : ∀ (x1 : Int32) (x2 : Int32) (x3 : Int32) (x4 : Int32) (x5 : Int32) (v : mS) (H : Heap) (locs : List Loc) (ls : Array Slot), f_M_merged_28 K8 x1 x2 x3 x4 x5 v = some o → mo_H D cI A s q v H locs → lv_has ls 7 [(0, .ref (q 0)), (1, .int x1), (2, .int x2), (3, .int x3), (4, .int x4), (5, .int x5)] → W p l e (mo_rm 3) s m args below meth c H locs 0 0 (MQ below (mo_Qi D cI q o.1 o.2 A) args s 0 0 A) (F0 m 28 ls []) := by
  have hx := C0.1
  have hb := C0.2.1
  intro x1 x2 x3 x4 x5 v H locs ls h hH hl
  unfold f_M_merged_28 at h
  refine lv_iload hx hb d_M_merged_28 (lv_at hl 4 rfl) ?_
  refine lv_aload_n hx hb d_M_merged_30 rfl (lv_at hl 0 rfl) ?_
  refine lv_iload_n hx hb d_M_merged_31 rfl (lv_at hl 1 rfl) ?_
  obtain ⟨r_3, v_1, hc_2, h⟩ := bi_out h
  refine mo_ci (r := r_3) (w := v_1) (as := [.int x1]) (rest := [.int x4]) C0 hH (c_M_size hc_2) yy_M_size q_1127 q_109 (by decide) rfl hl.1 rfl (Nat.le_of_ble_eq_true rfl) ⟨Nat.zero_le _, Nat.zero_le _⟩ d_M_merged_32 (fun H locs hH => ?_)
  refine lv_icmp_ne (tgt := 42) hx hb d_M_merged_35 (by decide) (fun c_4 => ?_) (fun c_4 => ?_)
  · rw [if_neg c_4] at h
    refine lv_iload hx hb d_M_merged_42 (lv_at hl 5 rfl) ?_
    refine lv_aload_n hx hb d_M_merged_44 rfl (lv_at hl 0 rfl) ?_
    refine lv_iload_n hx hb d_M_merged_45 rfl (lv_at hl 2 rfl) ?_
    obtain ⟨r_7, v_5, hc_6, h⟩ := bi_out h
    refine mo_ci (r := r_7) (w := v_5) (as := [.int x2]) (rest := [.int x5]) C0 hH (c_M_size hc_6) yy_M_size q_1127 q_109 (by decide) rfl hl.1 rfl (Nat.le_of_ble_eq_true rfl) ⟨Nat.zero_le _, Nat.zero_le _⟩ d_M_merged_46 (fun H locs hH => ?_)
    refine lv_icmp_ne (tgt := 56) hx hb d_M_merged_49 (by decide) (fun c_8 => ?_) (fun c_8 => ?_)
    · rw [if_neg c_8] at h
      refine lv_aload_n hx hb d_M_merged_56 rfl (lv_at hl 0 rfl) ?_
      refine lv_aload_n hx hb d_M_merged_57 rfl (lv_at hl 0 rfl) ?_
      refine lv_iload_n hx hb d_M_merged_58 rfl (lv_at hl 1 rfl) ?_
      refine lv_iload hx hb d_M_merged_59 (lv_at hl 4 rfl) ?_
      obtain ⟨r_11, v_9, hc_10, h⟩ := bi_out h
      refine mo_ci (r := r_11) (w := v_9) (as := [.int x1, .int x4]) (rest := [.ref (q 0)]) C0 hH (c_M_name hc_10) yy_M_name q_1131 q_109 (by decide) rfl hl.1 rfl (Nat.le_of_ble_eq_true rfl) ⟨Nat.zero_le _, Nat.zero_le _⟩ d_M_merged_61 (fun H locs hH => ?_)
      refine lv_aload_n hx hb d_M_merged_64 rfl (lv_at hl 0 rfl) ?_
      refine lv_iload_n hx hb d_M_merged_65 rfl (lv_at hl 2 rfl) ?_
      refine lv_iload hx hb d_M_merged_66 (lv_at hl 5 rfl) ?_
      obtain ⟨r_14, v_12, hc_13, h⟩ := bi_out h
      refine mo_ci (r := r_14) (w := v_12) (as := [.int x2, .int x5]) (rest := [.int r_11, .ref (q 0)]) C0 hH (c_M_name hc_13) yy_M_name q_1131 q_109 (by decide) rfl hl.1 rfl (Nat.le_of_ble_eq_true rfl) ⟨Nat.zero_le _, Nat.zero_le _⟩ d_M_merged_68 (fun H locs hH => ?_)
      obtain ⟨r_17, v_15, hc_16, h⟩ := bi_out h
      refine mo_ci (r := r_17) (w := v_15) (as := [.int r_11, .int r_14]) (rest := []) C0 hH (c_M_textOrder hc_16) yy_M_textOrder q_1135 q_109 (by decide) rfl hl.1 rfl (Nat.le_of_ble_eq_true rfl) ⟨Nat.zero_le _, Nat.zero_le _⟩ d_M_merged_71 (fun H locs hH => ?_)
      exact w_M_merged_74 C0 hr hK8 _ _ _ _ _ _ _ _ _ _ h hH (lv_sub hl [0, 1, 2, 3, 4, 5] rfl)
    · rw [if_pos c_8] at h
      refine lv_iconst (v := (-1)) hx hb d_M_merged_52 (by decide) ?_
      refine lv_goto (tgt := 74) hx hb d_M_merged_53 (by decide) ?_
      exact w_M_merged_74 C0 hr hK8 _ _ _ _ _ _ _ _ _ _ h hH (lv_sub hl [0, 1, 2, 3, 4, 5] rfl)
  · rw [if_pos c_4] at h
    refine lv_iconst (v := 1) hx hb d_M_merged_38 (by decide) ?_
    refine lv_goto (tgt := 74) hx hb d_M_merged_39 (by decide) ?_
    exact w_M_merged_74 C0 hr hK8 _ _ _ _ _ _ _ _ _ _ h hH (lv_sub hl [0, 1, 2, 3, 4, 5] rfl)
def f_M_merged_8  : Nat → Int32 → Int32 → Int32 → Int32 → Int32 → mS → Option (Int32 × mS)
  | 0, _, _, _, _, _, _ => none
  | n + 1, x1, x2, x3, x4, x5, v => bi (f_M_size v x1) fun r_3 v_1 => if x4 < r_3 then (f_M_merged_28 (f_M_merged_8 n) x1 x2 x3 x4 x5 v_1) else (bi (f_M_size v_1 x2) fun r_7 v_5 => if r_7 ≤ x5 then (bi (f_M_object v_5 x3) fun r_11 v_9 => some (r_11, v_9)) else (f_M_merged_28 (f_M_merged_8 n) x1 x2 x3 x4 x5 v_5))
set_option maxHeartbeats 4000000 in
set_option maxRecDepth 100000 in
theorem w_M_merged_8 {p : Program} {l : Launch} {e : Env} {s : State} {m : MethodId} {args : Array Value} {below : List Frame} {meth : Method} {c : Code} {D : va_G} {cI : ClassId} {A : Nat → Prop} {q : Nat → Nat} {o : Int32 × mS} (C0 : mo_C b_M_merged 7 D cI A p s m args meth c) (hr : meth.sig.returnType = (some .int)) : ∀ (n : Nat) (x1 : Int32) (x2 : Int32) (x3 : Int32) (x4 : Int32) (x5 : Int32) (v : mS) (H : Heap) (locs : List Loc) (ls : Array Slot), f_M_merged_8  n x1 x2 x3 x4 x5 v = some o → mo_H D cI A s q v H locs → lv_has ls 7 [(0, .ref (q 0)), (1, .int x1), (2, .int x2), (3, .int x3), (4, .int x4), (5, .int x5)] → W p l e (mo_rm 3) s m args below meth c H locs 0 0 (MQ below (mo_Qi D cI q o.1 o.2 A) args s 0 0 A) (F0 m 8 ls []) := by
  have hx := C0.1
  have hb := C0.2.1
  intro n
  induction n with
  | zero =>
    intro x1 x2 x3 x4 x5 v H locs ls h hH hl
    cases h
  | succ n ih =>
    intro x1 x2 x3 x4 x5 v H locs ls h hH hl
    rw [f_M_merged_8] at h
    refine lv_iload hx hb d_M_merged_8 (lv_at hl 4 rfl) ?_
    refine lv_aload_n hx hb d_M_merged_10 rfl (lv_at hl 0 rfl) ?_
    refine lv_iload_n hx hb d_M_merged_11 rfl (lv_at hl 1 rfl) ?_
    obtain ⟨r_3, v_1, hc_2, h⟩ := bi_out h
    refine mo_ci (r := r_3) (w := v_1) (as := [.int x1]) (rest := [.int x4]) C0 hH (c_M_size hc_2) yy_M_size q_1127 q_109 (by decide) rfl hl.1 rfl (Nat.le_of_ble_eq_true rfl) ⟨Nat.zero_le _, Nat.zero_le _⟩ d_M_merged_12 (fun H locs hH => ?_)
    refine lv_icmp_lt (tgt := 28) hx hb d_M_merged_15 (by decide) (fun c_4 => ?_) (fun c_4 => ?_)
    · rw [if_pos c_4] at h
      exact w_M_merged_28 C0 hr ih _ _ _ _ _ _ _ _ _ h hH (lv_sub hl [0, 1, 2, 3, 4, 5] rfl)
    · rw [if_neg c_4] at h
      refine lv_iload hx hb d_M_merged_18 (lv_at hl 5 rfl) ?_
      refine lv_aload_n hx hb d_M_merged_20 rfl (lv_at hl 0 rfl) ?_
      refine lv_iload_n hx hb d_M_merged_21 rfl (lv_at hl 2 rfl) ?_
      obtain ⟨r_7, v_5, hc_6, h⟩ := bi_out h
      refine mo_ci (r := r_7) (w := v_5) (as := [.int x2]) (rest := [.int x5]) C0 hH (c_M_size hc_6) yy_M_size q_1127 q_109 (by decide) rfl hl.1 rfl (Nat.le_of_ble_eq_true rfl) ⟨Nat.zero_le _, Nat.zero_le _⟩ d_M_merged_22 (fun H locs hH => ?_)
      refine lv_icmp_ge (tgt := 154) hx hb d_M_merged_25 (by decide) (fun c_8 => ?_) (fun c_8 => ?_)
      · rw [if_pos c_8] at h
        refine lv_aload_n hx hb d_M_merged_154 rfl (lv_at hl 0 rfl) ?_
        refine lv_iload_n hx hb d_M_merged_155 rfl (lv_at hl 3 rfl) ?_
        obtain ⟨r_11, v_9, hc_10, h⟩ := bi_out h
        refine mo_ci (r := r_11) (w := v_9) (as := [.int x3]) (rest := []) C0 hH (c_M_object hc_10) yy_M_object q_1228 q_109 (by decide) rfl hl.1 rfl (Nat.le_of_ble_eq_true rfl) ⟨Nat.zero_le _, Nat.zero_le _⟩ d_M_merged_156 (fun H locs hH => ?_)
        exact mo_iret C0 hr hH d_M_merged_159 h
      · rw [if_neg c_8] at h
        exact w_M_merged_28 C0 hr ih _ _ _ _ _ _ _ _ _ h hH (lv_sub hl [0, 1, 2, 3, 4, 5] rfl)
def f_M_merged (v : mS) (x1 : Int32) (x2 : Int32) : Option (Int32 × mS) := f_M_merged_8 fu x1 x2 0 0 0 v
set_option maxHeartbeats 4000000 in
set_option maxRecDepth 100000 in
theorem c_M_merged {l : Launch} {D : va_G} {cI : ClassId} {q : Nat → Nat} {v : mS} {x1 : Int32} {x2 : Int32} {o : Int32 × mS} (h : f_M_merged v x1 x2 = some o) : mo_M l D cI q 3 y_M_merged b_M_merged 7 (some .int) [.ref (q 0), .int x1, .int x2] v (mo_Qi D cI q o.1 o.2) := by
  refine mo_of (by decide +kernel) rfl (Nat.le_of_ble_eq_true rfl) ?_
  intro p e s m below meth c A ls C0 hr hl hH
  have hx := C0.1
  have hb := C0.2.1
  have hl : lv_has ls 7 [(0, .ref (q 0)), (1, .int x1), (2, .int x2)] := hl
  unfold f_M_merged at h
  refine lv_iconst (v := 0) hx hb d_M_merged_0 (by decide) ?_
  refine lv_istore_n (lv' := [(3, .int 0), (0, .ref (q 0)), (1, .int x1), (2, .int x2)]) hx hb d_M_merged_1 rfl hl (by decide) rfl (fun ls hl => ?_)
  refine lv_iconst (v := 0) hx hb d_M_merged_2 (by decide) ?_
  refine lv_istore (lv' := [(4, .int 0), (3, .int 0), (0, .ref (q 0)), (1, .int x1), (2, .int x2)]) hx hb d_M_merged_3 hl (by decide) rfl (fun ls hl => ?_)
  refine lv_iconst (v := 0) hx hb d_M_merged_5 (by decide) ?_
  refine lv_istore (lv' := [(5, .int 0), (4, .int 0), (3, .int 0), (0, .ref (q 0)), (1, .int x1), (2, .int x2)]) hx hb d_M_merged_6 hl (by decide) rfl (fun ls hl => ?_)
  exact w_M_merged_8 C0 hr  fu _ _ _ _ _ _ _ _ _ h hH (lv_sub hl [3, 4, 5, 2, 1, 0] rfl)
theorem yy_M_added : mo_Y y_M_added b_M_added 8 (some .int) 2 := ⟨rfl, q_1222, q_74, q_1223, by decide +kernel⟩
def f_M_added_27  (y0 : Int32) (v : mS) : Option (Int32 × mS) := some (y0, v)
set_option maxHeartbeats 4000000 in
set_option maxRecDepth 100000 in
theorem w_M_added_27 {p : Program} {l : Launch} {e : Env} {s : State} {m : MethodId} {args : Array Value} {below : List Frame} {meth : Method} {c : Code} {D : va_G} {cI : ClassId} {A : Nat → Prop} {q : Nat → Nat} {o : Int32 × mS} (C0 : mo_C b_M_added 8 D cI A p s m args meth c) (hr : meth.sig.returnType = (some .int)) : ∀ (y0 : Int32) (v : mS) (H : Heap) (locs : List Loc) (ls : Array Slot), f_M_added_27  y0 v = some o → mo_H D cI A s q v H locs → lv_has ls 8 [] → W p l e (mo_rm 4) s m args below meth c H locs 0 0 (MQ below (mo_Qi D cI q o.1 o.2 A) args s 0 0 A) (F0 m 27 ls [.int y0]) := by
  have hx := C0.1
  have hb := C0.2.1
  intro y0 v H locs ls h hH hl
  unfold f_M_added_27 at h
  exact mo_iret C0 hr hH d_M_added_27 h
def f_M_added_18  (x1 : Int32) (x2 : Int32) (x3 : Int32) (v : mS) : Option (Int32 × mS) := if x3 = 0 then (f_M_added_27 x2 v) else (f_M_added_27 x1 v)
set_option maxHeartbeats 4000000 in
set_option maxRecDepth 100000 in
theorem w_M_added_18 {p : Program} {l : Launch} {e : Env} {s : State} {m : MethodId} {args : Array Value} {below : List Frame} {meth : Method} {c : Code} {D : va_G} {cI : ClassId} {A : Nat → Prop} {q : Nat → Nat} {o : Int32 × mS} (C0 : mo_C b_M_added 8 D cI A p s m args meth c) (hr : meth.sig.returnType = (some .int)) : ∀ (x1 : Int32) (x2 : Int32) (x3 : Int32) (v : mS) (H : Heap) (locs : List Loc) (ls : Array Slot), f_M_added_18  x1 x2 x3 v = some o → mo_H D cI A s q v H locs → lv_has ls 8 [(1, .int x1), (2, .int x2), (3, .int x3)] → W p l e (mo_rm 4) s m args below meth c H locs 0 0 (MQ below (mo_Qi D cI q o.1 o.2 A) args s 0 0 A) (F0 m 18 ls []) := by
  have hx := C0.1
  have hb := C0.2.1
  intro x1 x2 x3 v H locs ls h hH hl
  unfold f_M_added_18 at h
  refine lv_iload_n hx hb d_M_added_18 rfl (lv_at hl 2 rfl) ?_
  refine lv_if_ne (tgt := 26) hx hb d_M_added_19 (by decide) (fun c_1 => ?_) (fun c_1 => ?_)
  · rw [if_neg c_1] at h
    refine lv_iload_n hx hb d_M_added_26 rfl (lv_at hl 0 rfl) ?_
    exact w_M_added_27 C0 hr  _ _ _ _ _ h hH (lv_sub hl [] rfl)
  · rw [if_pos c_1] at h
    refine lv_iload_n hx hb d_M_added_22 rfl (lv_at hl 1 rfl) ?_
    refine lv_goto (tgt := 27) hx hb d_M_added_23 (by decide) ?_
    exact w_M_added_27 C0 hr  _ _ _ _ _ h hH (lv_sub hl [] rfl)
def f_M_added_42   (v : mS) : Option (Int32 × mS) := some ((-1), v)
set_option maxHeartbeats 4000000 in
set_option maxRecDepth 100000 in
theorem w_M_added_42 {p : Program} {l : Launch} {e : Env} {s : State} {m : MethodId} {args : Array Value} {below : List Frame} {meth : Method} {c : Code} {D : va_G} {cI : ClassId} {A : Nat → Prop} {q : Nat → Nat} {o : Int32 × mS} (C0 : mo_C b_M_added 8 D cI A p s m args meth c) (hr : meth.sig.returnType = (some .int)) : ∀  (v : mS) (H : Heap) (locs : List Loc) (ls : Array Slot), f_M_added_42   v = some o → mo_H D cI A s q v H locs → lv_has ls 8 [] → W p l e (mo_rm 4) s m args below meth c H locs 0 0 (MQ below (mo_Qi D cI q o.1 o.2 A) args s 0 0 A) (F0 m 42 ls []) := by
  have hx := C0.1
  have hb := C0.2.1
  intro  v H locs ls h hH hl
  unfold f_M_added_42 at h
  refine lv_iconst (v := (-1)) hx hb d_M_added_42 (by decide) ?_
  exact mo_iret C0 hr hH d_M_added_43 h
def f_M_added_175 (K119 : Int32 → Int32 → Int32 → Int32 → Int32 → Int32 → mS → Option (Int32 × mS)) (x1 : Int32) (x2 : Int32) (x4 : Int32) (x5 : Int32) (x6 : Int32) (x7 : Int32) (y1 : Int32) (y2 : Int32) (v : mS) : Option (Int32 × mS) := gd (inB y1 64000) (nm (sU v 6 (y1 : Int32).toNatClampNeg y2) fun v_2 => nm (x7 + 1) fun x7_3 => K119 x1 x2 x4 x5 x6 x7_3 v_2)
set_option maxHeartbeats 4000000 in
set_option maxRecDepth 100000 in
theorem w_M_added_175 {p : Program} {l : Launch} {e : Env} {s : State} {m : MethodId} {args : Array Value} {below : List Frame} {meth : Method} {c : Code} {D : va_G} {cI : ClassId} {A : Nat → Prop} {q : Nat → Nat} {o : Int32 × mS} (C0 : mo_C b_M_added 8 D cI A p s m args meth c) (hr : meth.sig.returnType = (some .int)) {K119 : Int32 → Int32 → Int32 → Int32 → Int32 → Int32 → mS → Option (Int32 × mS)} (hK119 : ∀ (x1 : Int32) (x2 : Int32) (x4 : Int32) (x5 : Int32) (x6 : Int32) (x7 : Int32) (v : mS) (H : Heap) (locs : List Loc) (ls : Array Slot), K119 x1 x2 x4 x5 x6 x7 v = some o → mo_H D cI A s q v H locs → lv_has ls 8 [(0, .ref (q 0)), (1, .int x1), (2, .int x2), (4, .int x4), (5, .int x5), (6, .int x6), (7, .int x7)] → W p l e (mo_rm 4) s m args below meth c H locs 0 0 (MQ below (mo_Qi D cI q o.1 o.2 A) args s 0 0 A) (F0 m 119 ls [])) : ∀ (x1 : Int32) (x2 : Int32) (x4 : Int32) (x5 : Int32) (x6 : Int32) (x7 : Int32) (y1 : Int32) (y2 : Int32) (v : mS) (H : Heap) (locs : List Loc) (ls : Array Slot), f_M_added_175 K119 x1 x2 x4 x5 x6 x7 y1 y2 v = some o → mo_H D cI A s q v H locs → lv_has ls 8 [(0, .ref (q 0)), (1, .int x1), (2, .int x2), (4, .int x4), (5, .int x5), (6, .int x6), (7, .int x7)] → W p l e (mo_rm 4) s m args below meth c H locs 0 0 (MQ below (mo_Qi D cI q o.1 o.2 A) args s 0 0 A) (F0 m 175 ls [.int y2, .int y1, .ref (q 6)]) := by
  have hx := C0.1
  have hb := C0.2.1
  intro x1 x2 x4 x5 x6 x7 y1 y2 v H locs ls h hH hl
  unfold f_M_added_175 at h
  obtain ⟨g_1, h⟩ := gd_out h
  obtain ⟨v_2, hv_2, h⟩ := nm_out h
  refine mo_st 6 (by decide) (by decide) C0 hH (inB_in g_1) d_M_added_175 (fun H locs hH => ?_)
  rw [← hv_2] at hH
  obtain ⟨x7_3, hx7_3, h⟩ := nm_out h
  refine lv_iinc (v := x7_3) (lv' := [(7, .int x7_3), (0, .ref (q 0)), (1, .int x1), (2, .int x2), (4, .int x4), (5, .int x5), (6, .int x6)]) hx hb d_M_added_176 hl (k := 6) rfl (by rw [hx7_3]; rfl) (by decide) rfl (fun ls hl => ?_)
  refine lv_goto (tgt := 119) hx hb d_M_added_179 (by decide) ?_
  exact hK119 _ _ _ _ _ _ _ _ _ _ h hH (lv_sub hl [1, 2, 3, 4, 5, 6, 0] rfl)
def f_M_added_119  : Nat → Int32 → Int32 → Int32 → Int32 → Int32 → Int32 → mS → Option (Int32 × mS)
  | 0, _, _, _, _, _, _, _ => none
  | n + 1, x1, x2, x4, x5, x6, x7, v => if (x4 + x5) ≤ x7 then (some (x6, v)) else (if x4 ≤ x7 then (gd (inB (((x2 + 4) + x7) - x4) 64000) (f_M_added_175 (f_M_added_119 n) x1 x2 x4 x5 x6 x7 ((x6 + 4) + x7) (v 6 (((x2 + 4) + x7) - x4 : Int32).toNatClampNeg) v)) else (gd (inB ((x1 + 4) + x7) 64000) (f_M_added_175 (f_M_added_119 n) x1 x2 x4 x5 x6 x7 ((x6 + 4) + x7) (v 6 ((x1 + 4) + x7 : Int32).toNatClampNeg) v)))
set_option maxHeartbeats 4000000 in
set_option maxRecDepth 100000 in
theorem w_M_added_119 {p : Program} {l : Launch} {e : Env} {s : State} {m : MethodId} {args : Array Value} {below : List Frame} {meth : Method} {c : Code} {D : va_G} {cI : ClassId} {A : Nat → Prop} {q : Nat → Nat} {o : Int32 × mS} (C0 : mo_C b_M_added 8 D cI A p s m args meth c) (hr : meth.sig.returnType = (some .int)) : ∀ (n : Nat) (x1 : Int32) (x2 : Int32) (x4 : Int32) (x5 : Int32) (x6 : Int32) (x7 : Int32) (v : mS) (H : Heap) (locs : List Loc) (ls : Array Slot), f_M_added_119  n x1 x2 x4 x5 x6 x7 v = some o → mo_H D cI A s q v H locs → lv_has ls 8 [(0, .ref (q 0)), (1, .int x1), (2, .int x2), (4, .int x4), (5, .int x5), (6, .int x6), (7, .int x7)] → W p l e (mo_rm 4) s m args below meth c H locs 0 0 (MQ below (mo_Qi D cI q o.1 o.2 A) args s 0 0 A) (F0 m 119 ls []) := by
  have hx := C0.1
  have hb := C0.2.1
  intro n
  induction n with
  | zero =>
    intro x1 x2 x4 x5 x6 x7 v H locs ls h hH hl
    cases h
  | succ n ih =>
    intro x1 x2 x4 x5 x6 x7 v H locs ls h hH hl
    rw [f_M_added_119] at h
    refine lv_iload hx hb d_M_added_119 (lv_at hl 6 rfl) ?_
    refine lv_iload hx hb d_M_added_121 (lv_at hl 3 rfl) ?_
    refine lv_iload hx hb d_M_added_123 (lv_at hl 4 rfl) ?_
    refine lv_iadd hx hb d_M_added_125 ?_
    refine lv_icmp_ge (tgt := 182) hx hb d_M_added_126 (by decide) (fun c_1 => ?_) (fun c_1 => ?_)
    · rw [if_pos c_1] at h
      refine lv_iload hx hb d_M_added_182 (lv_at hl 5 rfl) ?_
      exact mo_iret C0 hr hH d_M_added_184 h
    · rw [if_neg c_1] at h
      refine lv_aload_n hx hb d_M_added_129 rfl (lv_at hl 0 rfl) ?_
      refine mo_r_heap C0 hH d_M_added_130 ?_
      refine lv_iload hx hb d_M_added_133 (lv_at hl 5 rfl) ?_
      refine lv_iconst (v := 4) hx hb d_M_added_135 (by decide) ?_
      refine lv_iadd hx hb d_M_added_136 ?_
      refine lv_iload hx hb d_M_added_137 (lv_at hl 6 rfl) ?_
      refine lv_iadd hx hb d_M_added_139 ?_
      refine lv_iload hx hb d_M_added_140 (lv_at hl 6 rfl) ?_
      refine lv_iload hx hb d_M_added_142 (lv_at hl 3 rfl) ?_
      refine lv_icmp_ge (tgt := 161) hx hb d_M_added_144 (by decide) (fun c_2 => ?_) (fun c_2 => ?_)
      · rw [if_pos c_2] at h
        refine lv_aload_n hx hb d_M_added_161 rfl (lv_at hl 0 rfl) ?_
        refine mo_r_heap C0 hH d_M_added_162 ?_
        refine lv_iload_n hx hb d_M_added_165 rfl (lv_at hl 2 rfl) ?_
        refine lv_iconst (v := 4) hx hb d_M_added_166 (by decide) ?_
        refine lv_iadd hx hb d_M_added_167 ?_
        refine lv_iload hx hb d_M_added_168 (lv_at hl 6 rfl) ?_
        refine lv_iadd hx hb d_M_added_170 ?_
        refine lv_iload hx hb d_M_added_171 (lv_at hl 3 rfl) ?_
        refine lv_isub hx hb d_M_added_173 ?_
        obtain ⟨g_3, h⟩ := gd_out h
        refine mo_ld 6 (by decide) (by decide) C0 hH (inB_in g_3) d_M_added_174 ?_
        exact w_M_added_175 C0 hr ih _ _ _ _ _ _ _ _ _ _ _ _ h hH (lv_sub hl [0, 1, 2, 3, 4, 5, 6] rfl)
      · rw [if_neg c_2] at h
        refine lv_aload_n hx hb d_M_added_147 rfl (lv_at hl 0 rfl) ?_
        refine mo_r_heap C0 hH d_M_added_148 ?_
        refine lv_iload_n hx hb d_M_added_151 rfl (lv_at hl 1 rfl) ?_
        refine lv_iconst (v := 4) hx hb d_M_added_152 (by decide) ?_
        refine lv_iadd hx hb d_M_added_153 ?_
        refine lv_iload hx hb d_M_added_154 (lv_at hl 6 rfl) ?_
        refine lv_iadd hx hb d_M_added_156 ?_
        obtain ⟨g_4, h⟩ := gd_out h
        refine mo_ld 6 (by decide) (by decide) C0 hH (inB_in g_4) d_M_added_157 ?_
        refine lv_goto (tgt := 175) hx hb d_M_added_158 (by decide) ?_
        exact w_M_added_175 C0 hr ih _ _ _ _ _ _ _ _ _ _ _ _ h hH (lv_sub hl [0, 1, 2, 3, 4, 5, 6] rfl)
def f_M_added_236 (K193 : Int32 → Int32 → Int32 → Int32 → Int32 → mS → Option (Int32 × mS)) (x1 : Int32) (x2 : Int32) (x4 : Int32) (x5 : Int32) (x6 : Int32) (y1 : Int32) (y2 : Int32) (v : mS) : Option (Int32 × mS) := gd (inB y1 64) (nm (sU v 10 (y1 : Int32).toNatClampNeg y2) fun v_2 => nm (x6 + 1) fun x6_3 => K193 x1 x2 x4 x5 x6_3 v_2)
set_option maxHeartbeats 4000000 in
set_option maxRecDepth 100000 in
theorem w_M_added_236 {p : Program} {l : Launch} {e : Env} {s : State} {m : MethodId} {args : Array Value} {below : List Frame} {meth : Method} {c : Code} {D : va_G} {cI : ClassId} {A : Nat → Prop} {q : Nat → Nat} {o : Int32 × mS} (C0 : mo_C b_M_added 8 D cI A p s m args meth c) (hr : meth.sig.returnType = (some .int)) {K193 : Int32 → Int32 → Int32 → Int32 → Int32 → mS → Option (Int32 × mS)} (hK193 : ∀ (x1 : Int32) (x2 : Int32) (x4 : Int32) (x5 : Int32) (x6 : Int32) (v : mS) (H : Heap) (locs : List Loc) (ls : Array Slot), K193 x1 x2 x4 x5 x6 v = some o → mo_H D cI A s q v H locs → lv_has ls 8 [(0, .ref (q 0)), (1, .int x1), (2, .int x2), (4, .int x4), (5, .int x5), (6, .int x6)] → W p l e (mo_rm 4) s m args below meth c H locs 0 0 (MQ below (mo_Qi D cI q o.1 o.2 A) args s 0 0 A) (F0 m 193 ls [])) : ∀ (x1 : Int32) (x2 : Int32) (x4 : Int32) (x5 : Int32) (x6 : Int32) (y1 : Int32) (y2 : Int32) (v : mS) (H : Heap) (locs : List Loc) (ls : Array Slot), f_M_added_236 K193 x1 x2 x4 x5 x6 y1 y2 v = some o → mo_H D cI A s q v H locs → lv_has ls 8 [(0, .ref (q 0)), (1, .int x1), (2, .int x2), (4, .int x4), (5, .int x5), (6, .int x6)] → W p l e (mo_rm 4) s m args below meth c H locs 0 0 (MQ below (mo_Qi D cI q o.1 o.2 A) args s 0 0 A) (F0 m 236 ls [.int y2, .int y1, .ref (q 10)]) := by
  have hx := C0.1
  have hb := C0.2.1
  intro x1 x2 x4 x5 x6 y1 y2 v H locs ls h hH hl
  unfold f_M_added_236 at h
  obtain ⟨g_1, h⟩ := gd_out h
  obtain ⟨v_2, hv_2, h⟩ := nm_out h
  refine mo_st 10 (by decide) (by decide) C0 hH (inB_in g_1) d_M_added_236 (fun H locs hH => ?_)
  rw [← hv_2] at hH
  obtain ⟨x6_3, hx6_3, h⟩ := nm_out h
  refine lv_iinc (v := x6_3) (lv' := [(6, .int x6_3), (0, .ref (q 0)), (1, .int x1), (2, .int x2), (4, .int x4), (5, .int x5)]) hx hb d_M_added_237 hl (k := 5) rfl (by rw [hx6_3]; rfl) (by decide) rfl (fun ls hl => ?_)
  refine lv_goto (tgt := 193) hx hb d_M_added_240 (by decide) ?_
  exact hK193 _ _ _ _ _ _ _ _ _ h hH (lv_sub hl [1, 2, 3, 4, 5, 0] rfl)
def f_M_added_193  : Nat → Int32 → Int32 → Int32 → Int32 → Int32 → mS → Option (Int32 × mS)
  | 0, _, _, _, _, _, _ => none
  | n + 1, x1, x2, x4, x5, x6, v => if (x4 + x5) ≤ x6 then (bi (f_M_array v (x4 + x5)) fun r_4 v_2 => some (r_4, v_2)) else (if x4 ≤ x6 then (bi (f_M_item v x2 (x6 - x4)) fun r_8 v_6 => f_M_added_236 (f_M_added_193 n) x1 x2 x4 x5 x6 x6 r_8 v_6) else (bi (f_M_item v x1 x6) fun r_11 v_9 => f_M_added_236 (f_M_added_193 n) x1 x2 x4 x5 x6 x6 r_11 v_9))
set_option maxHeartbeats 4000000 in
set_option maxRecDepth 100000 in
theorem w_M_added_193 {p : Program} {l : Launch} {e : Env} {s : State} {m : MethodId} {args : Array Value} {below : List Frame} {meth : Method} {c : Code} {D : va_G} {cI : ClassId} {A : Nat → Prop} {q : Nat → Nat} {o : Int32 × mS} (C0 : mo_C b_M_added 8 D cI A p s m args meth c) (hr : meth.sig.returnType = (some .int)) : ∀ (n : Nat) (x1 : Int32) (x2 : Int32) (x4 : Int32) (x5 : Int32) (x6 : Int32) (v : mS) (H : Heap) (locs : List Loc) (ls : Array Slot), f_M_added_193  n x1 x2 x4 x5 x6 v = some o → mo_H D cI A s q v H locs → lv_has ls 8 [(0, .ref (q 0)), (1, .int x1), (2, .int x2), (4, .int x4), (5, .int x5), (6, .int x6)] → W p l e (mo_rm 4) s m args below meth c H locs 0 0 (MQ below (mo_Qi D cI q o.1 o.2 A) args s 0 0 A) (F0 m 193 ls []) := by
  have hx := C0.1
  have hb := C0.2.1
  intro n
  induction n with
  | zero =>
    intro x1 x2 x4 x5 x6 v H locs ls h hH hl
    cases h
  | succ n ih =>
    intro x1 x2 x4 x5 x6 v H locs ls h hH hl
    rw [f_M_added_193] at h
    refine lv_iload hx hb d_M_added_193 (lv_at hl 5 rfl) ?_
    refine lv_iload hx hb d_M_added_195 (lv_at hl 3 rfl) ?_
    refine lv_iload hx hb d_M_added_197 (lv_at hl 4 rfl) ?_
    refine lv_iadd hx hb d_M_added_199 ?_
    refine lv_icmp_ge (tgt := 243) hx hb d_M_added_200 (by decide) (fun c_1 => ?_) (fun c_1 => ?_)
    · rw [if_pos c_1] at h
      refine lv_aload_n hx hb d_M_added_243 rfl (lv_at hl 0 rfl) ?_
      refine lv_iload hx hb d_M_added_244 (lv_at hl 3 rfl) ?_
      refine lv_iload hx hb d_M_added_246 (lv_at hl 4 rfl) ?_
      refine lv_iadd hx hb d_M_added_248 ?_
      obtain ⟨r_4, v_2, hc_3, h⟩ := bi_out h
      refine mo_ci (r := r_4) (w := v_2) (as := [.int (x4 + x5)]) (rest := []) C0 hH (c_M_array hc_3) yy_M_array q_1166 q_109 (by decide) rfl hl.1 rfl (Nat.le_of_ble_eq_true rfl) ⟨Nat.zero_le _, Nat.zero_le _⟩ d_M_added_249 (fun H locs hH => ?_)
      exact mo_iret C0 hr hH d_M_added_252 h
    · rw [if_neg c_1] at h
      refine lv_aload_n hx hb d_M_added_203 rfl (lv_at hl 0 rfl) ?_
      refine mo_r_items C0 hH d_M_added_204 ?_
      refine lv_iload hx hb d_M_added_207 (lv_at hl 5 rfl) ?_
      refine lv_iload hx hb d_M_added_209 (lv_at hl 5 rfl) ?_
      refine lv_iload hx hb d_M_added_211 (lv_at hl 3 rfl) ?_
      refine lv_icmp_ge (tgt := 226) hx hb d_M_added_213 (by decide) (fun c_5 => ?_) (fun c_5 => ?_)
      · rw [if_pos c_5] at h
        refine lv_aload_n hx hb d_M_added_226 rfl (lv_at hl 0 rfl) ?_
        refine lv_iload_n hx hb d_M_added_227 rfl (lv_at hl 2 rfl) ?_
        refine lv_iload hx hb d_M_added_228 (lv_at hl 5 rfl) ?_
        refine lv_iload hx hb d_M_added_230 (lv_at hl 3 rfl) ?_
        refine lv_isub hx hb d_M_added_232 ?_
        obtain ⟨r_8, v_6, hc_7, h⟩ := bi_out h
        refine mo_ci (r := r_8) (w := v_6) (as := [.int x2, .int (x6 - x4)]) (rest := [.int x6, .ref (q 10)]) C0 hH (c_M_item hc_7) yy_M_item q_1142 q_109 (by decide) rfl hl.1 rfl (Nat.le_of_ble_eq_true rfl) ⟨Nat.zero_le _, Nat.zero_le _⟩ d_M_added_233 (fun H locs hH => ?_)
        exact w_M_added_236 C0 hr ih _ _ _ _ _ _ _ _ _ _ _ h hH (lv_sub hl [0, 1, 2, 3, 4, 5] rfl)
      · rw [if_neg c_5] at h
        refine lv_aload_n hx hb d_M_added_216 rfl (lv_at hl 0 rfl) ?_
        refine lv_iload_n hx hb d_M_added_217 rfl (lv_at hl 1 rfl) ?_
        refine lv_iload hx hb d_M_added_218 (lv_at hl 5 rfl) ?_
        obtain ⟨r_11, v_9, hc_10, h⟩ := bi_out h
        refine mo_ci (r := r_11) (w := v_9) (as := [.int x1, .int x6]) (rest := [.int x6, .ref (q 10)]) C0 hH (c_M_item hc_10) yy_M_item q_1142 q_109 (by decide) rfl hl.1 rfl (Nat.le_of_ble_eq_true rfl) ⟨Nat.zero_le _, Nat.zero_le _⟩ d_M_added_220 (fun H locs hH => ?_)
        refine lv_goto (tgt := 236) hx hb d_M_added_223 (by decide) ?_
        exact w_M_added_236 C0 hr ih _ _ _ _ _ _ _ _ _ _ _ h hH (lv_sub hl [0, 1, 2, 3, 4, 5] rfl)
def f_M_added_284 (K259 : Int32 → Int32 → Int32 → Int32 → Int32 → Int32 → mS → Option (Int32 × mS)) (x1 : Int32) (x2 : Int32) (x4 : Int32) (x5 : Int32) (x6 : Int32) (x7 : Int32) (v : mS) : Option (Int32 × mS) := nm (x7 + 1) fun x7_1 => K259 x1 x2 x4 x5 x6 x7_1 v
set_option maxHeartbeats 4000000 in
set_option maxRecDepth 100000 in
theorem w_M_added_284 {p : Program} {l : Launch} {e : Env} {s : State} {m : MethodId} {args : Array Value} {below : List Frame} {meth : Method} {c : Code} {D : va_G} {cI : ClassId} {A : Nat → Prop} {q : Nat → Nat} {o : Int32 × mS} (C0 : mo_C b_M_added 8 D cI A p s m args meth c) (hr : meth.sig.returnType = (some .int)) {K259 : Int32 → Int32 → Int32 → Int32 → Int32 → Int32 → mS → Option (Int32 × mS)} (hK259 : ∀ (x1 : Int32) (x2 : Int32) (x4 : Int32) (x5 : Int32) (x6 : Int32) (x7 : Int32) (v : mS) (H : Heap) (locs : List Loc) (ls : Array Slot), K259 x1 x2 x4 x5 x6 x7 v = some o → mo_H D cI A s q v H locs → lv_has ls 8 [(0, .ref (q 0)), (1, .int x1), (2, .int x2), (4, .int x4), (5, .int x5), (6, .int x6), (7, .int x7)] → W p l e (mo_rm 4) s m args below meth c H locs 0 0 (MQ below (mo_Qi D cI q o.1 o.2 A) args s 0 0 A) (F0 m 259 ls [])) : ∀ (x1 : Int32) (x2 : Int32) (x4 : Int32) (x5 : Int32) (x6 : Int32) (x7 : Int32) (v : mS) (H : Heap) (locs : List Loc) (ls : Array Slot), f_M_added_284 K259 x1 x2 x4 x5 x6 x7 v = some o → mo_H D cI A s q v H locs → lv_has ls 8 [(0, .ref (q 0)), (1, .int x1), (2, .int x2), (4, .int x4), (5, .int x5), (6, .int x6), (7, .int x7)] → W p l e (mo_rm 4) s m args below meth c H locs 0 0 (MQ below (mo_Qi D cI q o.1 o.2 A) args s 0 0 A) (F0 m 284 ls []) := by
  have hx := C0.1
  have hb := C0.2.1
  intro x1 x2 x4 x5 x6 x7 v H locs ls h hH hl
  unfold f_M_added_284 at h
  obtain ⟨x7_1, hx7_1, h⟩ := nm_out h
  refine lv_iinc (v := x7_1) (lv' := [(7, .int x7_1), (0, .ref (q 0)), (1, .int x1), (2, .int x2), (4, .int x4), (5, .int x5), (6, .int x6)]) hx hb d_M_added_284 hl (k := 6) rfl (by rw [hx7_1]; rfl) (by decide) rfl (fun ls hl => ?_)
  refine lv_goto (tgt := 259) hx hb d_M_added_287 (by decide) ?_
  exact hK259 _ _ _ _ _ _ _ _ _ _ h hH (lv_sub hl [1, 2, 3, 4, 5, 6, 0] rfl)
def f_M_added_259  : Nat → Int32 → Int32 → Int32 → Int32 → Int32 → Int32 → mS → Option (Int32 × mS)
  | 0, _, _, _, _, _, _, _ => none
  | n + 1, x1, x2, x4, x5, x6, x7, v => if x5 ≤ x7 then (if (x4 + x6) ≤ 6 then (bi (f_M_merged v x1 x2) fun r_5 v_3 => some (r_5, v_3)) else (bi (f_M_room v) fun r_8 v_6 => some (r_8, v_6))) else (bi (f_M_name v x2 x7) fun r_11 v_9 => bi (f_M_member v_9 x1 r_11) fun r_14 v_12 => if 0 ≤ r_14 then (f_M_added_284 (f_M_added_259 n) x1 x2 x4 x5 x6 x7 v_12) else (nm (x6 + 1) fun x6_16 => f_M_added_284 (f_M_added_259 n) x1 x2 x4 x5 x6_16 x7 v_12))
set_option maxHeartbeats 4000000 in
set_option maxRecDepth 100000 in
theorem w_M_added_259 {p : Program} {l : Launch} {e : Env} {s : State} {m : MethodId} {args : Array Value} {below : List Frame} {meth : Method} {c : Code} {D : va_G} {cI : ClassId} {A : Nat → Prop} {q : Nat → Nat} {o : Int32 × mS} (C0 : mo_C b_M_added 8 D cI A p s m args meth c) (hr : meth.sig.returnType = (some .int)) : ∀ (n : Nat) (x1 : Int32) (x2 : Int32) (x4 : Int32) (x5 : Int32) (x6 : Int32) (x7 : Int32) (v : mS) (H : Heap) (locs : List Loc) (ls : Array Slot), f_M_added_259  n x1 x2 x4 x5 x6 x7 v = some o → mo_H D cI A s q v H locs → lv_has ls 8 [(0, .ref (q 0)), (1, .int x1), (2, .int x2), (4, .int x4), (5, .int x5), (6, .int x6), (7, .int x7)] → W p l e (mo_rm 4) s m args below meth c H locs 0 0 (MQ below (mo_Qi D cI q o.1 o.2 A) args s 0 0 A) (F0 m 259 ls []) := by
  have hx := C0.1
  have hb := C0.2.1
  intro n
  induction n with
  | zero =>
    intro x1 x2 x4 x5 x6 x7 v H locs ls h hH hl
    cases h
  | succ n ih =>
    intro x1 x2 x4 x5 x6 x7 v H locs ls h hH hl
    rw [f_M_added_259] at h
    refine lv_iload hx hb d_M_added_259 (lv_at hl 6 rfl) ?_
    refine lv_iload hx hb d_M_added_261 (lv_at hl 4 rfl) ?_
    refine lv_icmp_ge (tgt := 290) hx hb d_M_added_263 (by decide) (fun c_1 => ?_) (fun c_1 => ?_)
    · rw [if_pos c_1] at h
      refine lv_iload hx hb d_M_added_290 (lv_at hl 3 rfl) ?_
      refine lv_iload hx hb d_M_added_292 (lv_at hl 5 rfl) ?_
      refine lv_iadd hx hb d_M_added_294 ?_
      refine lv_bipush (v := 6) hx hb d_M_added_295 (by decide) ?_
      refine lv_icmp_le (tgt := 305) hx hb d_M_added_297 (by decide) (fun c_2 => ?_) (fun c_2 => ?_)
      · rw [if_pos c_2] at h
        refine lv_aload_n hx hb d_M_added_305 rfl (lv_at hl 0 rfl) ?_
        refine lv_iload_n hx hb d_M_added_306 rfl (lv_at hl 1 rfl) ?_
        refine lv_iload_n hx hb d_M_added_307 rfl (lv_at hl 2 rfl) ?_
        obtain ⟨r_5, v_3, hc_4, h⟩ := bi_out h
        refine mo_ci (r := r_5) (w := v_3) (as := [.int x1, .int x2]) (rest := []) C0 hH (c_M_merged hc_4) yy_M_merged q_1224 q_109 (by decide) rfl hl.1 rfl (Nat.le_of_ble_eq_true rfl) ⟨Nat.zero_le _, Nat.zero_le _⟩ d_M_added_308 (fun H locs hH => ?_)
        exact mo_iret C0 hr hH d_M_added_311 h
      · rw [if_neg c_2] at h
        refine lv_aload_n hx hb d_M_added_300 rfl (lv_at hl 0 rfl) ?_
        obtain ⟨r_8, v_6, hc_7, h⟩ := bi_out h
        refine mo_ci (r := r_8) (w := v_6) (as := []) (rest := []) C0 hH (c_M_room hc_7) yy_M_room q_1162 q_109 (by decide) rfl hl.1 rfl (Nat.le_of_ble_eq_true rfl) ⟨Nat.zero_le _, Nat.zero_le _⟩ d_M_added_301 (fun H locs hH => ?_)
        exact mo_iret C0 hr hH d_M_added_304 h
    · rw [if_neg c_1] at h
      refine lv_aload_n hx hb d_M_added_266 rfl (lv_at hl 0 rfl) ?_
      refine lv_iload_n hx hb d_M_added_267 rfl (lv_at hl 1 rfl) ?_
      refine lv_aload_n hx hb d_M_added_268 rfl (lv_at hl 0 rfl) ?_
      refine lv_iload_n hx hb d_M_added_269 rfl (lv_at hl 2 rfl) ?_
      refine lv_iload hx hb d_M_added_270 (lv_at hl 6 rfl) ?_
      obtain ⟨r_11, v_9, hc_10, h⟩ := bi_out h
      refine mo_ci (r := r_11) (w := v_9) (as := [.int x2, .int x7]) (rest := [.int x1, .ref (q 0)]) C0 hH (c_M_name hc_10) yy_M_name q_1131 q_109 (by decide) rfl hl.1 rfl (Nat.le_of_ble_eq_true rfl) ⟨Nat.zero_le _, Nat.zero_le _⟩ d_M_added_272 (fun H locs hH => ?_)
      obtain ⟨r_14, v_12, hc_13, h⟩ := bi_out h
      refine mo_ci (r := r_14) (w := v_12) (as := [.int x1, .int r_11]) (rest := []) C0 hH (c_M_member hc_13) yy_M_member q_1123 q_109 (by decide) rfl hl.1 rfl (Nat.le_of_ble_eq_true rfl) ⟨Nat.zero_le _, Nat.zero_le _⟩ d_M_added_275 (fun H locs hH => ?_)
      refine lv_if_ge (tgt := 284) hx hb d_M_added_278 (by decide) (fun c_15 => ?_) (fun c_15 => ?_)
      · rw [if_pos c_15] at h
        exact w_M_added_284 C0 hr ih _ _ _ _ _ _ _ _ _ _ h hH (lv_sub hl [0, 1, 2, 3, 4, 5, 6] rfl)
      · rw [if_neg c_15] at h
        obtain ⟨x6_16, hx6_16, h⟩ := nm_out h
        refine lv_iinc (v := x6_16) (lv' := [(6, .int x6_16), (0, .ref (q 0)), (1, .int x1), (2, .int x2), (4, .int x4), (5, .int x5), (7, .int x7)]) hx hb d_M_added_281 hl (k := 5) rfl (by rw [hx6_16]; rfl) (by decide) rfl (fun ls hl => ?_)
        exact w_M_added_284 C0 hr ih _ _ _ _ _ _ _ _ _ _ h hH (lv_sub hl [1, 2, 3, 4, 5, 0, 6] rfl)
def f_M_added (v : mS) (x1 : Int32) (x2 : Int32) : Option (Int32 × mS) := bi (f_M_kindOf v x1) fun r_3 v_1 => if r_3 = 0 then (f_M_added_18 x1 x2 r_3 v_1) else (bi (f_M_kindOf v_1 x2) fun r_7 v_5 => if r_7 = 0 then (f_M_added_18 x1 x2 r_3 v_5) else (bi (f_M_kindOf v_5 x2) fun r_11 v_9 => if r_3 = r_11 then (if 3 ≤ r_3 then (bi (f_M_size v_9 x1) fun r_16 v_14 => bi (f_M_size v_14 x2) fun r_19 v_17 => if r_3 = 3 then (bi (f_M_num v_17 x1) fun r_32 v_30 => bi (f_M_num v_30 x2) fun r_35 v_33 => bi (f_M_decimal v_33 (r_32 + r_35)) fun r_38 v_36 => some (r_38, v_36)) else (if r_3 = 4 then (if (r_16 + r_19) ≤ 12 then (bi (f_M_node v_17 4 (r_16 + r_19) (r_16 + r_19)) fun r_26 v_24 => f_M_added_119 fu x1 x2 r_16 r_19 r_26 0 v_24) else (bi (f_M_room v_17) fun r_29 v_27 => some (r_29, v_27))) else (if r_3 = 5 then (f_M_added_193 fu x1 x2 r_16 r_19 0 v_17) else (f_M_added_259 fu x1 x2 r_16 r_19 0 0 v_17)))) else (f_M_added_42 v_9)) else (f_M_added_42 v_9)))
set_option maxHeartbeats 4000000 in
set_option maxRecDepth 100000 in
theorem c_M_added {l : Launch} {D : va_G} {cI : ClassId} {q : Nat → Nat} {v : mS} {x1 : Int32} {x2 : Int32} {o : Int32 × mS} (h : f_M_added v x1 x2 = some o) : mo_M l D cI q 4 y_M_added b_M_added 8 (some .int) [.ref (q 0), .int x1, .int x2] v (mo_Qi D cI q o.1 o.2) := by
  refine mo_of (by decide +kernel) rfl (Nat.le_of_ble_eq_true rfl) ?_
  intro p e s m below meth c A ls C0 hr hl hH
  have hx := C0.1
  have hb := C0.2.1
  have hl : lv_has ls 8 [(0, .ref (q 0)), (1, .int x1), (2, .int x2)] := hl
  unfold f_M_added at h
  refine lv_aload_n hx hb d_M_added_0 rfl (lv_at hl 0 rfl) ?_
  refine lv_iload_n hx hb d_M_added_1 rfl (lv_at hl 1 rfl) ?_
  obtain ⟨r_3, v_1, hc_2, h⟩ := bi_out h
  refine mo_ci (r := r_3) (w := v_1) (as := [.int x1]) (rest := []) C0 hH (c_M_kindOf hc_2) yy_M_kindOf q_1107 q_109 (by decide) rfl hl.1 rfl (Nat.le_of_ble_eq_true rfl) ⟨Nat.zero_le _, Nat.zero_le _⟩ d_M_added_2 (fun H locs hH => ?_)
  refine lv_istore_n (lv' := [(3, .int r_3), (0, .ref (q 0)), (1, .int x1), (2, .int x2)]) hx hb d_M_added_5 rfl hl (by decide) rfl (fun ls hl => ?_)
  refine lv_iload_n hx hb d_M_added_6 rfl (lv_at hl 0 rfl) ?_
  refine lv_if_eq (tgt := 18) hx hb d_M_added_7 (by decide) (fun c_4 => ?_) (fun c_4 => ?_)
  · rw [if_pos c_4] at h
    exact w_M_added_18 C0 hr  _ _ _ _ _ _ _ h hH (lv_sub hl [2, 3, 0] rfl)
  · rw [if_neg c_4] at h
    refine lv_aload_n hx hb d_M_added_10 rfl (lv_at hl 1 rfl) ?_
    refine lv_iload_n hx hb d_M_added_11 rfl (lv_at hl 3 rfl) ?_
    obtain ⟨r_7, v_5, hc_6, h⟩ := bi_out h
    refine mo_ci (r := r_7) (w := v_5) (as := [.int x2]) (rest := []) C0 hH (c_M_kindOf hc_6) yy_M_kindOf q_1107 q_109 (by decide) rfl hl.1 rfl (Nat.le_of_ble_eq_true rfl) ⟨Nat.zero_le _, Nat.zero_le _⟩ d_M_added_12 (fun H locs hH => ?_)
    refine lv_if_ne (tgt := 28) hx hb d_M_added_15 (by decide) (fun c_8 => ?_) (fun c_8 => ?_)
    · rw [if_neg c_8] at h
      refine lv_iload_n hx hb d_M_added_28 rfl (lv_at hl 0 rfl) ?_
      refine lv_aload_n hx hb d_M_added_29 rfl (lv_at hl 1 rfl) ?_
      refine lv_iload_n hx hb d_M_added_30 rfl (lv_at hl 3 rfl) ?_
      obtain ⟨r_11, v_9, hc_10, h⟩ := bi_out h
      refine mo_ci (r := r_11) (w := v_9) (as := [.int x2]) (rest := [.int r_3]) C0 hH (c_M_kindOf hc_10) yy_M_kindOf q_1107 q_109 (by decide) rfl hl.1 rfl (Nat.le_of_ble_eq_true rfl) ⟨Nat.zero_le _, Nat.zero_le _⟩ d_M_added_31 (fun H locs hH => ?_)
      refine lv_icmp_ne (tgt := 42) hx hb d_M_added_34 (by decide) (fun c_12 => ?_) (fun c_12 => ?_)
      · rw [if_neg c_12] at h
        exact w_M_added_42 C0 hr   _ _ _ _ h hH (lv_sub hl [] rfl)
      · rw [if_pos c_12] at h
        refine lv_iload_n hx hb d_M_added_37 rfl (lv_at hl 0 rfl) ?_
        refine lv_iconst (v := 3) hx hb d_M_added_38 (by decide) ?_
        refine lv_icmp_ge (tgt := 44) hx hb d_M_added_39 (by decide) (fun c_13 => ?_) (fun c_13 => ?_)
        · rw [if_pos c_13] at h
          refine lv_aload_n hx hb d_M_added_44 rfl (lv_at hl 1 rfl) ?_
          refine lv_iload_n hx hb d_M_added_45 rfl (lv_at hl 2 rfl) ?_
          obtain ⟨r_16, v_14, hc_15, h⟩ := bi_out h
          refine mo_ci (r := r_16) (w := v_14) (as := [.int x1]) (rest := []) C0 hH (c_M_size hc_15) yy_M_size q_1127 q_109 (by decide) rfl hl.1 rfl (Nat.le_of_ble_eq_true rfl) ⟨Nat.zero_le _, Nat.zero_le _⟩ d_M_added_46 (fun H locs hH => ?_)
          refine lv_istore (lv' := [(4, .int r_16), (3, .int r_3), (0, .ref (q 0)), (1, .int x1), (2, .int x2)]) hx hb d_M_added_49 hl (by decide) rfl (fun ls hl => ?_)
          refine lv_aload_n hx hb d_M_added_51 rfl (lv_at hl 2 rfl) ?_
          refine lv_iload_n hx hb d_M_added_52 rfl (lv_at hl 4 rfl) ?_
          obtain ⟨r_19, v_17, hc_18, h⟩ := bi_out h
          refine mo_ci (r := r_19) (w := v_17) (as := [.int x2]) (rest := []) C0 hH (c_M_size hc_18) yy_M_size q_1127 q_109 (by decide) rfl hl.1 rfl (Nat.le_of_ble_eq_true rfl) ⟨Nat.zero_le _, Nat.zero_le _⟩ d_M_added_53 (fun H locs hH => ?_)
          refine lv_istore (lv' := [(5, .int r_19), (4, .int r_16), (3, .int r_3), (0, .ref (q 0)), (1, .int x1), (2, .int x2)]) hx hb d_M_added_56 hl (by decide) rfl (fun ls hl => ?_)
          refine lv_iload_n hx hb d_M_added_58 rfl (lv_at hl 2 rfl) ?_
          refine lv_iconst (v := 3) hx hb d_M_added_59 (by decide) ?_
          refine lv_icmp_ne (tgt := 79) hx hb d_M_added_60 (by decide) (fun c_20 => ?_) (fun c_20 => ?_)
          · rw [if_neg c_20] at h
            refine lv_iload_n hx hb d_M_added_79 rfl (lv_at hl 2 rfl) ?_
            refine lv_iconst (v := 4) hx hb d_M_added_80 (by decide) ?_
            refine lv_icmp_ne (tgt := 185) hx hb d_M_added_81 (by decide) (fun c_21 => ?_) (fun c_21 => ?_)
            · rw [if_neg c_21] at h
              refine lv_iload_n hx hb d_M_added_185 rfl (lv_at hl 2 rfl) ?_
              refine lv_iconst (v := 5) hx hb d_M_added_186 (by decide) ?_
              refine lv_icmp_ne (tgt := 253) hx hb d_M_added_187 (by decide) (fun c_22 => ?_) (fun c_22 => ?_)
              · rw [if_neg c_22] at h
                refine lv_iconst (v := 0) hx hb d_M_added_253 (by decide) ?_
                refine lv_istore (lv' := [(6, .int 0), (5, .int r_19), (4, .int r_16), (3, .int r_3), (0, .ref (q 0)), (1, .int x1), (2, .int x2)]) hx hb d_M_added_254 hl (by decide) rfl (fun ls hl => ?_)
                refine lv_iconst (v := 0) hx hb d_M_added_256 (by decide) ?_
                refine lv_istore (lv' := [(7, .int 0), (6, .int 0), (5, .int r_19), (4, .int r_16), (3, .int r_3), (0, .ref (q 0)), (1, .int x1), (2, .int x2)]) hx hb d_M_added_257 hl (by decide) rfl (fun ls hl => ?_)
                exact w_M_added_259 C0 hr  fu _ _ _ _ _ _ _ _ _ _ h hH (lv_sub hl [5, 6, 7, 3, 2, 1, 0] rfl)
              · rw [if_pos c_22] at h
                refine lv_iconst (v := 0) hx hb d_M_added_190 (by decide) ?_
                refine lv_istore (lv' := [(6, .int 0), (5, .int r_19), (4, .int r_16), (3, .int r_3), (0, .ref (q 0)), (1, .int x1), (2, .int x2)]) hx hb d_M_added_191 hl (by decide) rfl (fun ls hl => ?_)
                exact w_M_added_193 C0 hr  fu _ _ _ _ _ _ _ _ _ h hH (lv_sub hl [4, 5, 6, 2, 1, 0] rfl)
            · rw [if_pos c_21] at h
              refine lv_iload hx hb d_M_added_84 (lv_at hl 1 rfl) ?_
              refine lv_iload hx hb d_M_added_86 (lv_at hl 0 rfl) ?_
              refine lv_iadd hx hb d_M_added_88 ?_
              refine lv_bipush (v := 12) hx hb d_M_added_89 (by decide) ?_
              refine lv_icmp_le (tgt := 99) hx hb d_M_added_91 (by decide) (fun c_23 => ?_) (fun c_23 => ?_)
              · rw [if_pos c_23] at h
                refine lv_aload_n hx hb d_M_added_99 rfl (lv_at hl 3 rfl) ?_
                refine lv_iconst (v := 4) hx hb d_M_added_100 (by decide) ?_
                refine lv_iload hx hb d_M_added_101 (lv_at hl 1 rfl) ?_
                refine lv_iload hx hb d_M_added_103 (lv_at hl 0 rfl) ?_
                refine lv_iadd hx hb d_M_added_105 ?_
                refine lv_iload hx hb d_M_added_106 (lv_at hl 1 rfl) ?_
                refine lv_iload hx hb d_M_added_108 (lv_at hl 0 rfl) ?_
                refine lv_iadd hx hb d_M_added_110 ?_
                obtain ⟨r_26, v_24, hc_25, h⟩ := bi_out h
                refine mo_ci (r := r_26) (w := v_24) (as := [.int 4, .int (r_16 + r_19), .int (r_16 + r_19)]) (rest := []) C0 hH (c_M_node hc_25) yy_M_node q_1115 q_109 (by decide) rfl hl.1 rfl (Nat.le_of_ble_eq_true rfl) ⟨Nat.zero_le _, Nat.zero_le _⟩ d_M_added_111 (fun H locs hH => ?_)
                refine lv_istore (lv' := [(6, .int r_26), (5, .int r_19), (4, .int r_16), (3, .int r_3), (0, .ref (q 0)), (1, .int x1), (2, .int x2)]) hx hb d_M_added_114 hl (by decide) rfl (fun ls hl => ?_)
                refine lv_iconst (v := 0) hx hb d_M_added_116 (by decide) ?_
                refine lv_istore (lv' := [(7, .int 0), (6, .int r_26), (5, .int r_19), (4, .int r_16), (3, .int r_3), (0, .ref (q 0)), (1, .int x1), (2, .int x2)]) hx hb d_M_added_117 hl (by decide) rfl (fun ls hl => ?_)
                exact w_M_added_119 C0 hr  fu _ _ _ _ _ _ _ _ _ _ h hH (lv_sub hl [5, 6, 7, 3, 2, 1, 0] rfl)
              · rw [if_neg c_23] at h
                refine lv_aload_n hx hb d_M_added_94 rfl (lv_at hl 3 rfl) ?_
                obtain ⟨r_29, v_27, hc_28, h⟩ := bi_out h
                refine mo_ci (r := r_29) (w := v_27) (as := []) (rest := []) C0 hH (c_M_room hc_28) yy_M_room q_1162 q_109 (by decide) rfl hl.1 rfl (Nat.le_of_ble_eq_true rfl) ⟨Nat.zero_le _, Nat.zero_le _⟩ d_M_added_95 (fun H locs hH => ?_)
                exact mo_iret C0 hr hH d_M_added_98 h
          · rw [if_pos c_20] at h
            refine lv_aload_n hx hb d_M_added_63 rfl (lv_at hl 3 rfl) ?_
            refine lv_aload_n hx hb d_M_added_64 rfl (lv_at hl 3 rfl) ?_
            refine lv_iload_n hx hb d_M_added_65 rfl (lv_at hl 4 rfl) ?_
            obtain ⟨r_32, v_30, hc_31, h⟩ := bi_out h
            refine mo_cl (r := r_32) (w := v_30) (as := [.int x1]) (rest := [.ref (q 0)]) C0 hH (c_M_num hc_31) yy_M_num q_1182 q_109 (by decide) rfl hl.1 rfl (Nat.le_of_ble_eq_true rfl) ⟨Nat.zero_le _, Nat.zero_le _⟩ d_M_added_66 (fun H locs hH => ?_)
            refine lv_aload_n hx hb d_M_added_69 rfl (lv_at hl 3 rfl) ?_
            refine lv_iload_n hx hb d_M_added_70 rfl (lv_at hl 5 rfl) ?_
            obtain ⟨r_35, v_33, hc_34, h⟩ := bi_out h
            refine mo_cl (r := r_35) (w := v_33) (as := [.int x2]) (rest := [.long r_32, .ref (q 0)]) C0 hH (c_M_num hc_34) yy_M_num q_1182 q_109 (by decide) rfl hl.1 rfl (Nat.le_of_ble_eq_true rfl) ⟨Nat.zero_le _, Nat.zero_le _⟩ d_M_added_71 (fun H locs hH => ?_)
            refine lv_ladd hx hb d_M_added_74 ?_
            obtain ⟨r_38, v_36, hc_37, h⟩ := bi_out h
            refine mo_ci (r := r_38) (w := v_36) (as := [.long (r_32 + r_35)]) (rest := []) C0 hH (c_M_decimal hc_37) yy_M_decimal q_1155 q_109 (by decide) rfl hl.1 rfl (Nat.le_of_ble_eq_true rfl) ⟨Nat.zero_le _, Nat.zero_le _⟩ d_M_added_75 (fun H locs hH => ?_)
            exact mo_iret C0 hr hH d_M_added_78 h
        · rw [if_neg c_13] at h
          exact w_M_added_42 C0 hr   _ _ _ _ h hH (lv_sub hl [] rfl)
    · rw [if_pos c_8] at h
      exact w_M_added_18 C0 hr  _ _ _ _ _ _ _ h hH (lv_sub hl [2, 3, 0] rfl)
theorem yy_M_summed : mo_Y y_M_summed b_M_summed 4 (some .int) 1 := ⟨rfl, q_1218, q_73, q_1219, by decide +kernel⟩
def f_M_summed_35  (x2 : Int32) (v : mS) : Option (Int32 × mS) := some (x2, v)
set_option maxHeartbeats 4000000 in
set_option maxRecDepth 100000 in
theorem w_M_summed_35 {p : Program} {l : Launch} {e : Env} {s : State} {m : MethodId} {args : Array Value} {below : List Frame} {meth : Method} {c : Code} {D : va_G} {cI : ClassId} {A : Nat → Prop} {q : Nat → Nat} {o : Int32 × mS} (C0 : mo_C b_M_summed 4 D cI A p s m args meth c) (hr : meth.sig.returnType = (some .int)) : ∀ (x2 : Int32) (v : mS) (H : Heap) (locs : List Loc) (ls : Array Slot), f_M_summed_35  x2 v = some o → mo_H D cI A s q v H locs → lv_has ls 4 [(2, .int x2)] → W p l e (mo_rm 5) s m args below meth c H locs 0 0 (MQ below (mo_Qi D cI q o.1 o.2 A) args s 0 0 A) (F0 m 35 ls []) := by
  have hx := C0.1
  have hb := C0.2.1
  intro x2 v H locs ls h hH hl
  unfold f_M_summed_35 at h
  refine lv_iload_n hx hb d_M_summed_35 rfl (lv_at hl 0 rfl) ?_
  exact mo_iret C0 hr hH d_M_summed_36 h
def f_M_summed_4  : Nat → Int32 → Int32 → Int32 → mS → Option (Int32 × mS)
  | 0, _, _, _, _ => none
  | n + 1, x1, x2, x3, v => bi (f_M_size v x1) fun r_3 v_1 => if r_3 ≤ x3 then (f_M_summed_35 x2 v_1) else (if x2 < 0 then (f_M_summed_35 x2 v_1) else (bi (f_M_item v_1 x1 x3) fun r_8 v_6 => bi (f_M_added v_6 x2 r_8) fun r_11 v_9 => nm (x3 + 1) fun x3_12 => f_M_summed_4 n x1 r_11 x3_12 v_9))
set_option maxHeartbeats 4000000 in
set_option maxRecDepth 100000 in
theorem w_M_summed_4 {p : Program} {l : Launch} {e : Env} {s : State} {m : MethodId} {args : Array Value} {below : List Frame} {meth : Method} {c : Code} {D : va_G} {cI : ClassId} {A : Nat → Prop} {q : Nat → Nat} {o : Int32 × mS} (C0 : mo_C b_M_summed 4 D cI A p s m args meth c) (hr : meth.sig.returnType = (some .int)) : ∀ (n : Nat) (x1 : Int32) (x2 : Int32) (x3 : Int32) (v : mS) (H : Heap) (locs : List Loc) (ls : Array Slot), f_M_summed_4  n x1 x2 x3 v = some o → mo_H D cI A s q v H locs → lv_has ls 4 [(0, .ref (q 0)), (1, .int x1), (2, .int x2), (3, .int x3)] → W p l e (mo_rm 5) s m args below meth c H locs 0 0 (MQ below (mo_Qi D cI q o.1 o.2 A) args s 0 0 A) (F0 m 4 ls []) := by
  have hx := C0.1
  have hb := C0.2.1
  intro n
  induction n with
  | zero =>
    intro x1 x2 x3 v H locs ls h hH hl
    cases h
  | succ n ih =>
    intro x1 x2 x3 v H locs ls h hH hl
    rw [f_M_summed_4] at h
    refine lv_iload_n hx hb d_M_summed_4 rfl (lv_at hl 3 rfl) ?_
    refine lv_aload_n hx hb d_M_summed_5 rfl (lv_at hl 0 rfl) ?_
    refine lv_iload_n hx hb d_M_summed_6 rfl (lv_at hl 1 rfl) ?_
    obtain ⟨r_3, v_1, hc_2, h⟩ := bi_out h
    refine mo_ci (r := r_3) (w := v_1) (as := [.int x1]) (rest := [.int x3]) C0 hH (c_M_size hc_2) yy_M_size q_1127 q_109 (by decide) rfl hl.1 rfl (Nat.le_of_ble_eq_true rfl) ⟨Nat.zero_le _, Nat.zero_le _⟩ d_M_summed_7 (fun H locs hH => ?_)
    refine lv_icmp_ge (tgt := 35) hx hb d_M_summed_10 (by decide) (fun c_4 => ?_) (fun c_4 => ?_)
    · rw [if_pos c_4] at h
      exact w_M_summed_35 C0 hr  _ _ _ _ _ h hH (lv_sub hl [2] rfl)
    · rw [if_neg c_4] at h
      refine lv_iload_n hx hb d_M_summed_13 rfl (lv_at hl 2 rfl) ?_
      refine lv_if_lt (tgt := 35) hx hb d_M_summed_14 (by decide) (fun c_5 => ?_) (fun c_5 => ?_)
      · rw [if_pos c_5] at h
        exact w_M_summed_35 C0 hr  _ _ _ _ _ h hH (lv_sub hl [2] rfl)
      · rw [if_neg c_5] at h
        refine lv_aload_n hx hb d_M_summed_17 rfl (lv_at hl 0 rfl) ?_
        refine lv_iload_n hx hb d_M_summed_18 rfl (lv_at hl 2 rfl) ?_
        refine lv_aload_n hx hb d_M_summed_19 rfl (lv_at hl 0 rfl) ?_
        refine lv_iload_n hx hb d_M_summed_20 rfl (lv_at hl 1 rfl) ?_
        refine lv_iload_n hx hb d_M_summed_21 rfl (lv_at hl 3 rfl) ?_
        obtain ⟨r_8, v_6, hc_7, h⟩ := bi_out h
        refine mo_ci (r := r_8) (w := v_6) (as := [.int x1, .int x3]) (rest := [.int x2, .ref (q 0)]) C0 hH (c_M_item hc_7) yy_M_item q_1142 q_109 (by decide) rfl hl.1 rfl (Nat.le_of_ble_eq_true rfl) ⟨Nat.zero_le _, Nat.zero_le _⟩ d_M_summed_22 (fun H locs hH => ?_)
        obtain ⟨r_11, v_9, hc_10, h⟩ := bi_out h
        refine mo_ci (r := r_11) (w := v_9) (as := [.int x2, .int r_8]) (rest := []) C0 hH (c_M_added hc_10) yy_M_added q_1220 q_109 (by decide) rfl hl.1 rfl (Nat.le_of_ble_eq_true rfl) ⟨Nat.zero_le _, Nat.zero_le _⟩ d_M_summed_25 (fun H locs hH => ?_)
        refine lv_istore_n (lv' := [(2, .int r_11), (0, .ref (q 0)), (1, .int x1), (3, .int x3)]) hx hb d_M_summed_28 rfl hl (by decide) rfl (fun ls hl => ?_)
        obtain ⟨x3_12, hx3_12, h⟩ := nm_out h
        refine lv_iinc (v := x3_12) (lv' := [(3, .int x3_12), (2, .int r_11), (0, .ref (q 0)), (1, .int x1)]) hx hb d_M_summed_29 hl (k := 3) rfl (by rw [hx3_12]; rfl) (by decide) rfl (fun ls hl => ?_)
        refine lv_goto (tgt := 4) hx hb d_M_summed_32 (by decide) ?_
        exact ih _ _ _ _ _ _ _ h hH (lv_sub hl [2, 3, 1, 0] rfl)
def f_M_summed (v : mS) (x1 : Int32) : Option (Int32 × mS) := f_M_summed_4 fu x1 4 0 v
set_option maxHeartbeats 4000000 in
set_option maxRecDepth 100000 in
theorem c_M_summed {l : Launch} {D : va_G} {cI : ClassId} {q : Nat → Nat} {v : mS} {x1 : Int32} {o : Int32 × mS} (h : f_M_summed v x1 = some o) : mo_M l D cI q 5 y_M_summed b_M_summed 4 (some .int) [.ref (q 0), .int x1] v (mo_Qi D cI q o.1 o.2) := by
  refine mo_of (by decide +kernel) rfl (Nat.le_of_ble_eq_true rfl) ?_
  intro p e s m below meth c A ls C0 hr hl hH
  have hx := C0.1
  have hb := C0.2.1
  have hl : lv_has ls 4 [(0, .ref (q 0)), (1, .int x1)] := hl
  unfold f_M_summed at h
  refine lv_iconst (v := 4) hx hb d_M_summed_0 (by decide) ?_
  refine lv_istore_n (lv' := [(2, .int 4), (0, .ref (q 0)), (1, .int x1)]) hx hb d_M_summed_1 rfl hl (by decide) rfl (fun ls hl => ?_)
  refine lv_iconst (v := 0) hx hb d_M_summed_2 (by decide) ?_
  refine lv_istore_n (lv' := [(3, .int 0), (2, .int 4), (0, .ref (q 0)), (1, .int x1)]) hx hb d_M_summed_3 rfl hl (by decide) rfl (fun ls hl => ?_)
  exact w_M_summed_4 C0 hr  fu _ _ _ _ _ _ _ h hH (lv_sub hl [2, 3, 1, 0] rfl)
