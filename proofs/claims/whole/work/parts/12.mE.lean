/-! methods of the reference (by program: wip/gen/mgen.py right partOf work ask emit end err alone take) -/
theorem yy_M_right : mo_Y y_M_right b_M_right 4 (some .boolean) 1 := ⟨rfl, q_1074, q_40, q_1075, by decide +kernel⟩
def f_M_right_40   (v : mS) : Option (Int32 × mS) := some (0, v)
set_option maxHeartbeats 4000000 in
set_option maxRecDepth 100000 in
theorem w_M_right_40 {p : Program} {l : Launch} {e : Env} {s : State} {m : MethodId} {args : Array Value} {below : List Frame} {meth : Method} {c : Code} {D : va_G} {cI : ClassId} {A : Nat → Prop} {q : Nat → Nat} {o : Int32 × mS} (C0 : mo_C b_M_right 4 D cI A p s m args meth c) (hr : meth.sig.returnType = (some .boolean)) : ∀  (v : mS) (H : Heap) (locs : List Loc) (ls : Array Slot), f_M_right_40   v = some o → mo_H D cI A s q v H locs → lv_has ls 4 [] → W p l e (mo_rm 1) s m args below meth c H locs 0 0 (MQ below (mo_Qi D cI q o.1 o.2 A) args s 0 0 A) (F0 m 40 ls []) := by
  have hx := C0.1
  have hb := C0.2.1
  intro  v H locs ls h hH hl
  unfold f_M_right_40 at h
  refine lv_iconst (v := 0) hx hb d_M_right_40 (by decide) ?_
  exact mo_zret (Or.inl rfl) C0 hr hH d_M_right_41 h
def f_M_right_150 (K12 : Int32 → Int32 → Int32 → mS → Option (Int32 × mS)) (x1 : Int32) (x3 : Int32) (y0 : Int32) (v : mS) : Option (Int32 × mS) := nm (x3 + 1) fun x3_1 => K12 x1 y0 x3_1 v
set_option maxHeartbeats 4000000 in
set_option maxRecDepth 100000 in
theorem w_M_right_150 {p : Program} {l : Launch} {e : Env} {s : State} {m : MethodId} {args : Array Value} {below : List Frame} {meth : Method} {c : Code} {D : va_G} {cI : ClassId} {A : Nat → Prop} {q : Nat → Nat} {o : Int32 × mS} (C0 : mo_C b_M_right 4 D cI A p s m args meth c) (hr : meth.sig.returnType = (some .boolean)) {K12 : Int32 → Int32 → Int32 → mS → Option (Int32 × mS)} (hK12 : ∀ (x1 : Int32) (x2 : Int32) (x3 : Int32) (v : mS) (H : Heap) (locs : List Loc) (ls : Array Slot), K12 x1 x2 x3 v = some o → mo_H D cI A s q v H locs → lv_has ls 4 [(0, .ref (q 0)), (1, .int x1), (2, .int x2), (3, .int x3)] → W p l e (mo_rm 1) s m args below meth c H locs 0 0 (MQ below (mo_Qi D cI q o.1 o.2 A) args s 0 0 A) (F0 m 12 ls [])) : ∀ (x1 : Int32) (x3 : Int32) (y0 : Int32) (v : mS) (H : Heap) (locs : List Loc) (ls : Array Slot), f_M_right_150 K12 x1 x3 y0 v = some o → mo_H D cI A s q v H locs → lv_has ls 4 [(0, .ref (q 0)), (1, .int x1), (3, .int x3)] → W p l e (mo_rm 1) s m args below meth c H locs 0 0 (MQ below (mo_Qi D cI q o.1 o.2 A) args s 0 0 A) (F0 m 150 ls [.int y0]) := by
  have hx := C0.1
  have hb := C0.2.1
  intro x1 x3 y0 v H locs ls h hH hl
  unfold f_M_right_150 at h
  refine lv_istore_n (lv' := [(2, .int y0), (0, .ref (q 0)), (1, .int x1), (3, .int x3)]) hx hb d_M_right_150 rfl hl (by decide) rfl (fun ls hl => ?_)
  obtain ⟨x3_1, hx3_1, h⟩ := nm_out h
  refine lv_iinc (v := x3_1) (lv' := [(3, .int x3_1), (2, .int y0), (0, .ref (q 0)), (1, .int x1)]) hx hb d_M_right_151 hl (k := 3) rfl (by rw [hx3_1]; rfl) (by decide) rfl (fun ls hl => ?_)
  refine lv_goto (tgt := 12) hx hb d_M_right_154 (by decide) ?_
  exact hK12 _ _ _ _ _ _ _ h hH (lv_sub hl [2, 3, 1, 0] rfl)
def f_M_right_138 (K12 : Int32 → Int32 → Int32 → mS → Option (Int32 × mS)) (x1 : Int32) (x3 : Int32) (v : mS) : Option (Int32 × mS) := if (v 0 18) = 0 then (f_M_right_150 K12 x1 x3 1 v) else (f_M_right_150 K12 x1 x3 0 v)
set_option maxHeartbeats 4000000 in
set_option maxRecDepth 100000 in
theorem w_M_right_138 {p : Program} {l : Launch} {e : Env} {s : State} {m : MethodId} {args : Array Value} {below : List Frame} {meth : Method} {c : Code} {D : va_G} {cI : ClassId} {A : Nat → Prop} {q : Nat → Nat} {o : Int32 × mS} (C0 : mo_C b_M_right 4 D cI A p s m args meth c) (hr : meth.sig.returnType = (some .boolean)) {K12 : Int32 → Int32 → Int32 → mS → Option (Int32 × mS)} (hK12 : ∀ (x1 : Int32) (x2 : Int32) (x3 : Int32) (v : mS) (H : Heap) (locs : List Loc) (ls : Array Slot), K12 x1 x2 x3 v = some o → mo_H D cI A s q v H locs → lv_has ls 4 [(0, .ref (q 0)), (1, .int x1), (2, .int x2), (3, .int x3)] → W p l e (mo_rm 1) s m args below meth c H locs 0 0 (MQ below (mo_Qi D cI q o.1 o.2 A) args s 0 0 A) (F0 m 12 ls [])) : ∀ (x1 : Int32) (x3 : Int32) (v : mS) (H : Heap) (locs : List Loc) (ls : Array Slot), f_M_right_138 K12 x1 x3 v = some o → mo_H D cI A s q v H locs → lv_has ls 4 [(0, .ref (q 0)), (1, .int x1), (3, .int x3)] → W p l e (mo_rm 1) s m args below meth c H locs 0 0 (MQ below (mo_Qi D cI q o.1 o.2 A) args s 0 0 A) (F0 m 138 ls []) := by
  have hx := C0.1
  have hb := C0.2.1
  intro x1 x3 v H locs ls h hH hl
  unfold f_M_right_138 at h
  refine lv_aload_n hx hb d_M_right_138 rfl (lv_at hl 0 rfl) ?_
  refine mo_g_depth C0 hH d_M_right_139 ?_
  refine lv_if_ne (tgt := 149) hx hb d_M_right_142 (by decide) (fun c_1 => ?_) (fun c_1 => ?_)
  · rw [if_neg c_1] at h
    refine lv_iconst (v := 0) hx hb d_M_right_149 (by decide) ?_
    exact w_M_right_150 C0 hr hK12 _ _ _ _ _ _ _ h hH (lv_sub hl [0, 1, 2] rfl)
  · rw [if_pos c_1] at h
    refine lv_iconst (v := 1) hx hb d_M_right_145 (by decide) ?_
    refine lv_goto (tgt := 150) hx hb d_M_right_146 (by decide) ?_
    exact w_M_right_150 C0 hr hK12 _ _ _ _ _ _ _ h hH (lv_sub hl [0, 1, 2] rfl)
def f_M_right_104 (K12 : Int32 → Int32 → Int32 → mS → Option (Int32 × mS)) : Nat → Int32 → Int32 → mS → Option (Int32 × mS)
  | 0, _, _, _ => none
  | n + 1, x1, x3, v => if (v 0 18) ≤ 0 then (f_M_right_138 K12 x1 x3 v) else (gd (inB ((v 0 18) - 1) 400) (if (v 12 ((v 0 18) - 1 : Int32).toNatClampNeg) = 0 then (nm (sU v 0 18 ((v 0 18) - 1)) fun v_4 => f_M_right_104 K12 n x1 x3 v_4) else (f_M_right_138 K12 x1 x3 v)))
set_option maxHeartbeats 4000000 in
set_option maxRecDepth 100000 in
theorem w_M_right_104 {p : Program} {l : Launch} {e : Env} {s : State} {m : MethodId} {args : Array Value} {below : List Frame} {meth : Method} {c : Code} {D : va_G} {cI : ClassId} {A : Nat → Prop} {q : Nat → Nat} {o : Int32 × mS} (C0 : mo_C b_M_right 4 D cI A p s m args meth c) (hr : meth.sig.returnType = (some .boolean)) {K12 : Int32 → Int32 → Int32 → mS → Option (Int32 × mS)} (hK12 : ∀ (x1 : Int32) (x2 : Int32) (x3 : Int32) (v : mS) (H : Heap) (locs : List Loc) (ls : Array Slot), K12 x1 x2 x3 v = some o → mo_H D cI A s q v H locs → lv_has ls 4 [(0, .ref (q 0)), (1, .int x1), (2, .int x2), (3, .int x3)] → W p l e (mo_rm 1) s m args below meth c H locs 0 0 (MQ below (mo_Qi D cI q o.1 o.2 A) args s 0 0 A) (F0 m 12 ls [])) : ∀ (n : Nat) (x1 : Int32) (x3 : Int32) (v : mS) (H : Heap) (locs : List Loc) (ls : Array Slot), f_M_right_104 K12 n x1 x3 v = some o → mo_H D cI A s q v H locs → lv_has ls 4 [(0, .ref (q 0)), (1, .int x1), (3, .int x3)] → W p l e (mo_rm 1) s m args below meth c H locs 0 0 (MQ below (mo_Qi D cI q o.1 o.2 A) args s 0 0 A) (F0 m 104 ls []) := by
  have hx := C0.1
  have hb := C0.2.1
  intro n
  induction n with
  | zero =>
    intro x1 x3 v H locs ls h hH hl
    cases h
  | succ n ih =>
    intro x1 x3 v H locs ls h hH hl
    rw [f_M_right_104] at h
    refine lv_aload_n hx hb d_M_right_104 rfl (lv_at hl 0 rfl) ?_
    refine mo_g_depth C0 hH d_M_right_105 ?_
    refine lv_if_le (tgt := 138) hx hb d_M_right_108 (by decide) (fun c_1 => ?_) (fun c_1 => ?_)
    · rw [if_pos c_1] at h
      exact w_M_right_138 C0 hr hK12 _ _ _ _ _ _ h hH (lv_sub hl [0, 1, 2] rfl)
    · rw [if_neg c_1] at h
      refine lv_aload_n hx hb d_M_right_111 rfl (lv_at hl 0 rfl) ?_
      refine mo_r_stack C0 hH d_M_right_112 ?_
      refine lv_aload_n hx hb d_M_right_115 rfl (lv_at hl 0 rfl) ?_
      refine mo_g_depth C0 hH d_M_right_116 ?_
      refine lv_iconst (v := 1) hx hb d_M_right_119 (by decide) ?_
      refine lv_isub hx hb d_M_right_120 ?_
      obtain ⟨g_2, h⟩ := gd_out h
      refine mo_ld 12 (by decide) (by decide) C0 hH (inB_in g_2) d_M_right_121 ?_
      refine lv_if_ne (tgt := 138) hx hb d_M_right_122 (by decide) (fun c_3 => ?_) (fun c_3 => ?_)
      · rw [if_neg c_3] at h
        exact w_M_right_138 C0 hr hK12 _ _ _ _ _ _ h hH (lv_sub hl [0, 1, 2] rfl)
      · rw [if_pos c_3] at h
        refine lv_aload_n hx hb d_M_right_125 rfl (lv_at hl 0 rfl) ?_
        refine lv_dup hx hb d_M_right_126 rfl ?_
        refine mo_g_depth C0 hH d_M_right_127 ?_
        refine lv_iconst (v := 1) hx hb d_M_right_130 (by decide) ?_
        refine lv_isub hx hb d_M_right_131 ?_
        obtain ⟨v_4, hv_4, h⟩ := nm_out h
        refine mo_p_depth C0 hH d_M_right_132 (fun H locs hH => ?_)
        rw [← hv_4] at hH
        refine lv_goto (tgt := 104) hx hb d_M_right_135 (by decide) ?_
        exact ih _ _ _ _ _ _ h hH (lv_sub hl [0, 1, 2] rfl)
def f_M_right_64 (K12 : Int32 → Int32 → Int32 → mS → Option (Int32 × mS)) (x1 : Int32) (x3 : Int32) (v : mS) : Option (Int32 × mS) := gd (inB x3 128) (bi (f_M_parts v (v 3 (x3 : Int32).toNatClampNeg)) fun r_4 v_2 => if r_4 ≤ 0 then (f_M_right_104 K12 fu x1 x3 v_2) else (gd (inB x3 128) (bi (f_M_parts v_2 (v_2 3 (x3 : Int32).toNatClampNeg)) fun r_9 v_7 => gd (inB (v_2 0 18) 400) (nm (sU v_7 12 (v_2 0 18 : Int32).toNatClampNeg r_9) fun v_11 => nm (sU v_11 0 18 ((v_11 0 18) + 1)) fun v_12 => f_M_right_104 K12 fu x1 x3 v_12))))
set_option maxHeartbeats 4000000 in
set_option maxRecDepth 100000 in
theorem w_M_right_64 {p : Program} {l : Launch} {e : Env} {s : State} {m : MethodId} {args : Array Value} {below : List Frame} {meth : Method} {c : Code} {D : va_G} {cI : ClassId} {A : Nat → Prop} {q : Nat → Nat} {o : Int32 × mS} (C0 : mo_C b_M_right 4 D cI A p s m args meth c) (hr : meth.sig.returnType = (some .boolean)) {K12 : Int32 → Int32 → Int32 → mS → Option (Int32 × mS)} (hK12 : ∀ (x1 : Int32) (x2 : Int32) (x3 : Int32) (v : mS) (H : Heap) (locs : List Loc) (ls : Array Slot), K12 x1 x2 x3 v = some o → mo_H D cI A s q v H locs → lv_has ls 4 [(0, .ref (q 0)), (1, .int x1), (2, .int x2), (3, .int x3)] → W p l e (mo_rm 1) s m args below meth c H locs 0 0 (MQ below (mo_Qi D cI q o.1 o.2 A) args s 0 0 A) (F0 m 12 ls [])) : ∀ (x1 : Int32) (x3 : Int32) (v : mS) (H : Heap) (locs : List Loc) (ls : Array Slot), f_M_right_64 K12 x1 x3 v = some o → mo_H D cI A s q v H locs → lv_has ls 4 [(0, .ref (q 0)), (1, .int x1), (3, .int x3)] → W p l e (mo_rm 1) s m args below meth c H locs 0 0 (MQ below (mo_Qi D cI q o.1 o.2 A) args s 0 0 A) (F0 m 64 ls []) := by
  have hx := C0.1
  have hb := C0.2.1
  intro x1 x3 v H locs ls h hH hl
  unfold f_M_right_64 at h
  refine lv_aload_n hx hb d_M_right_64 rfl (lv_at hl 0 rfl) ?_
  refine mo_r_op C0 hH d_M_right_65 ?_
  refine lv_iload_n hx hb d_M_right_68 rfl (lv_at hl 2 rfl) ?_
  obtain ⟨g_1, h⟩ := gd_out h
  refine mo_ld 3 (by decide) (by decide) C0 hH (inB_in g_1) d_M_right_69 ?_
  obtain ⟨r_4, v_2, hc_3, h⟩ := bi_out h
  refine mo_si (r := r_4) (w := v_2) (as := [.int (v 3 (x3 : Int32).toNatClampNeg)]) (rest := []) C0 hH (c_M_parts hc_3) yy_M_parts q_1076 q_109 (by decide) rfl hl.1 rfl (Nat.le_of_ble_eq_true rfl) ⟨Nat.zero_le _, Nat.zero_le _⟩ d_M_right_70 (fun H locs hH => ?_)
  refine lv_if_le (tgt := 104) hx hb d_M_right_73 (by decide) (fun c_5 => ?_) (fun c_5 => ?_)
  · rw [if_pos c_5] at h
    exact w_M_right_104 C0 hr hK12 fu _ _ _ _ _ _ h hH (lv_sub hl [0, 1, 2] rfl)
  · rw [if_neg c_5] at h
    refine lv_aload_n hx hb d_M_right_76 rfl (lv_at hl 0 rfl) ?_
    refine mo_r_stack C0 hH d_M_right_77 ?_
    refine lv_aload_n hx hb d_M_right_80 rfl (lv_at hl 0 rfl) ?_
    refine mo_g_depth C0 hH d_M_right_81 ?_
    refine lv_aload_n hx hb d_M_right_84 rfl (lv_at hl 0 rfl) ?_
    refine mo_r_op C0 hH d_M_right_85 ?_
    refine lv_iload_n hx hb d_M_right_88 rfl (lv_at hl 2 rfl) ?_
    obtain ⟨g_6, h⟩ := gd_out h
    refine mo_ld 3 (by decide) (by decide) C0 hH (inB_in g_6) d_M_right_89 ?_
    obtain ⟨r_9, v_7, hc_8, h⟩ := bi_out h
    refine mo_si (r := r_9) (w := v_7) (as := [.int (v_2 3 (x3 : Int32).toNatClampNeg)]) (rest := [.int (v_2 0 18), .ref (q 12)]) C0 hH (c_M_parts hc_8) yy_M_parts q_1076 q_109 (by decide) rfl hl.1 rfl (Nat.le_of_ble_eq_true rfl) ⟨Nat.zero_le _, Nat.zero_le _⟩ d_M_right_90 (fun H locs hH => ?_)
    obtain ⟨g_10, h⟩ := gd_out h
    obtain ⟨v_11, hv_11, h⟩ := nm_out h
    refine mo_st 12 (by decide) (by decide) C0 hH (inB_in g_10) d_M_right_93 (fun H locs hH => ?_)
    rw [← hv_11] at hH
    refine lv_aload_n hx hb d_M_right_94 rfl (lv_at hl 0 rfl) ?_
    refine lv_dup hx hb d_M_right_95 rfl ?_
    refine mo_g_depth C0 hH d_M_right_96 ?_
    refine lv_iconst (v := 1) hx hb d_M_right_99 (by decide) ?_
    refine lv_iadd hx hb d_M_right_100 ?_
    obtain ⟨v_12, hv_12, h⟩ := nm_out h
    refine mo_p_depth C0 hH d_M_right_101 (fun H locs hH => ?_)
    rw [← hv_12] at hH
    exact w_M_right_104 C0 hr hK12 fu _ _ _ _ _ _ h hH (lv_sub hl [0, 1, 2] rfl)
def f_M_right_12  : Nat → Int32 → Int32 → Int32 → mS → Option (Int32 × mS)
  | 0, _, _, _, _ => none
  | n + 1, x1, x2, x3, v => gd (inB x1 4) (if ((32 * x1) + (v 5 (x1 : Int32).toNatClampNeg)) ≤ x3 then (gd (decide (x2 = 0 ∨ x2 = 1)) (some (x2, v))) else (if x2 = 0 then (if (v 0 18) ≤ 7 then (if (v 0 18) ≤ 0 then (f_M_right_64 (f_M_right_12 n) x1 x3 v) else (gd (inB ((v 0 18) - 1) 400) (gd (inB ((v 0 18) - 1) 400) (nm (sU v 12 ((v 0 18) - 1 : Int32).toNatClampNeg ((v 12 ((v 0 18) - 1 : Int32).toNatClampNeg) - 1)) fun v_9 => f_M_right_64 (f_M_right_12 n) x1 x3 v_9)))) else (f_M_right_40 v)) else (f_M_right_40 v)))
set_option maxHeartbeats 4000000 in
set_option maxRecDepth 100000 in
theorem w_M_right_12 {p : Program} {l : Launch} {e : Env} {s : State} {m : MethodId} {args : Array Value} {below : List Frame} {meth : Method} {c : Code} {D : va_G} {cI : ClassId} {A : Nat → Prop} {q : Nat → Nat} {o : Int32 × mS} (C0 : mo_C b_M_right 4 D cI A p s m args meth c) (hr : meth.sig.returnType = (some .boolean)) : ∀ (n : Nat) (x1 : Int32) (x2 : Int32) (x3 : Int32) (v : mS) (H : Heap) (locs : List Loc) (ls : Array Slot), f_M_right_12  n x1 x2 x3 v = some o → mo_H D cI A s q v H locs → lv_has ls 4 [(0, .ref (q 0)), (1, .int x1), (2, .int x2), (3, .int x3)] → W p l e (mo_rm 1) s m args below meth c H locs 0 0 (MQ below (mo_Qi D cI q o.1 o.2 A) args s 0 0 A) (F0 m 12 ls []) := by
  have hx := C0.1
  have hb := C0.2.1
  intro n
  induction n with
  | zero =>
    intro x1 x2 x3 v H locs ls h hH hl
    cases h
  | succ n ih =>
    intro x1 x2 x3 v H locs ls h hH hl
    rw [f_M_right_12] at h
    refine lv_iload_n hx hb d_M_right_12 rfl (lv_at hl 3 rfl) ?_
    refine lv_bipush (v := 32) hx hb d_M_right_13 (by decide) ?_
    refine lv_iload_n hx hb d_M_right_15 rfl (lv_at hl 1 rfl) ?_
    refine lv_imul hx hb d_M_right_16 ?_
    refine lv_aload_n hx hb d_M_right_17 rfl (lv_at hl 0 rfl) ?_
    refine mo_r_tokens C0 hH d_M_right_18 ?_
    refine lv_iload_n hx hb d_M_right_21 rfl (lv_at hl 1 rfl) ?_
    obtain ⟨g_1, h⟩ := gd_out h
    refine mo_ld 5 (by decide) (by decide) C0 hH (inB_in g_1) d_M_right_22 ?_
    refine lv_iadd hx hb d_M_right_23 ?_
    refine lv_icmp_ge (tgt := 157) hx hb d_M_right_24 (by decide) (fun c_2 => ?_) (fun c_2 => ?_)
    · rw [if_pos c_2] at h
      refine lv_iload_n hx hb d_M_right_157 rfl (lv_at hl 2 rfl) ?_
      obtain ⟨g_3, h⟩ := gd_out h
      exact mo_zret (z01 g_3) C0 hr hH d_M_right_158 h
    · rw [if_neg c_2] at h
      refine lv_iload_n hx hb d_M_right_27 rfl (lv_at hl 2 rfl) ?_
      refine lv_if_ne (tgt := 40) hx hb d_M_right_28 (by decide) (fun c_4 => ?_) (fun c_4 => ?_)
      · rw [if_neg c_4] at h
        exact w_M_right_40 C0 hr   _ _ _ _ h hH (lv_sub hl [] rfl)
      · rw [if_pos c_4] at h
        refine lv_aload_n hx hb d_M_right_31 rfl (lv_at hl 0 rfl) ?_
        refine mo_g_depth C0 hH d_M_right_32 ?_
        refine lv_bipush (v := 7) hx hb d_M_right_35 (by decide) ?_
        refine lv_icmp_le (tgt := 42) hx hb d_M_right_37 (by decide) (fun c_5 => ?_) (fun c_5 => ?_)
        · rw [if_pos c_5] at h
          refine lv_aload_n hx hb d_M_right_42 rfl (lv_at hl 0 rfl) ?_
          refine mo_g_depth C0 hH d_M_right_43 ?_
          refine lv_if_le (tgt := 64) hx hb d_M_right_46 (by decide) (fun c_6 => ?_) (fun c_6 => ?_)
          · rw [if_pos c_6] at h
            exact w_M_right_64 C0 hr ih _ _ _ _ _ _ h hH (lv_sub hl [0, 1, 3] rfl)
          · rw [if_neg c_6] at h
            refine lv_aload_n hx hb d_M_right_49 rfl (lv_at hl 0 rfl) ?_
            refine mo_r_stack C0 hH d_M_right_50 ?_
            refine lv_aload_n hx hb d_M_right_53 rfl (lv_at hl 0 rfl) ?_
            refine mo_g_depth C0 hH d_M_right_54 ?_
            refine lv_iconst (v := 1) hx hb d_M_right_57 (by decide) ?_
            refine lv_isub hx hb d_M_right_58 ?_
            refine lv_dup2_11 hx hb d_M_right_59 rfl rfl ?_
            obtain ⟨g_7, h⟩ := gd_out h
            refine mo_ld 12 (by decide) (by decide) C0 hH (inB_in g_7) d_M_right_60 ?_
            refine lv_iconst (v := 1) hx hb d_M_right_61 (by decide) ?_
            refine lv_isub hx hb d_M_right_62 ?_
            obtain ⟨g_8, h⟩ := gd_out h
            obtain ⟨v_9, hv_9, h⟩ := nm_out h
            refine mo_st 12 (by decide) (by decide) C0 hH (inB_in g_8) d_M_right_63 (fun H locs hH => ?_)
            rw [← hv_9] at hH
            exact w_M_right_64 C0 hr ih _ _ _ _ _ _ h hH (lv_sub hl [0, 1, 3] rfl)
        · rw [if_neg c_5] at h
          exact w_M_right_40 C0 hr   _ _ _ _ h hH (lv_sub hl [] rfl)
def f_M_right (v : mS) (x1 : Int32) : Option (Int32 × mS) := nm (sU v 0 18 0) fun v_1 => nm (32 * x1) fun x3_2 => f_M_right_12 fu x1 0 x3_2 v_1
set_option maxHeartbeats 4000000 in
set_option maxRecDepth 100000 in
theorem c_M_right {l : Launch} {D : va_G} {cI : ClassId} {q : Nat → Nat} {v : mS} {x1 : Int32} {o : Int32 × mS} (h : f_M_right v x1 = some o) : mo_M l D cI q 1 y_M_right b_M_right 4 (some .boolean) [.ref (q 0), .int x1] v (mo_Qi D cI q o.1 o.2) := by
  refine mo_of (by decide +kernel) rfl (Nat.le_of_ble_eq_true rfl) ?_
  intro p e s m below meth c A ls C0 hr hl hH
  have hx := C0.1
  have hb := C0.2.1
  have hl : lv_has ls 4 [(0, .ref (q 0)), (1, .int x1)] := hl
  unfold f_M_right at h
  refine lv_aload_n hx hb d_M_right_0 rfl (lv_at hl 0 rfl) ?_
  refine lv_iconst (v := 0) hx hb d_M_right_1 (by decide) ?_
  obtain ⟨v_1, hv_1, h⟩ := nm_out h
  refine mo_p_depth C0 hH d_M_right_2 (fun H locs hH => ?_)
  rw [← hv_1] at hH
  refine lv_iconst (v := 0) hx hb d_M_right_5 (by decide) ?_
  refine lv_istore_n (lv' := [(2, .int 0), (0, .ref (q 0)), (1, .int x1)]) hx hb d_M_right_6 rfl hl (by decide) rfl (fun ls hl => ?_)
  refine lv_bipush (v := 32) hx hb d_M_right_7 (by decide) ?_
  refine lv_iload_n hx hb d_M_right_9 rfl (lv_at hl 2 rfl) ?_
  refine lv_imul hx hb d_M_right_10 ?_
  obtain ⟨x3_2, hx3_2, h⟩ := nm_out h
  refine fu_i hx3_2 ?_
  refine lv_istore_n (lv' := [(3, .int x3_2), (2, .int 0), (0, .ref (q 0)), (1, .int x1)]) hx hb d_M_right_11 rfl hl (by decide) rfl (fun ls hl => ?_)
  exact w_M_right_12 C0 hr  fu _ _ _ _ _ _ _ h hH (lv_sub hl [2, 3, 1, 0] rfl)
theorem yy_M_partOf : mo_Y y_M_partOf b_M_partOf 6 (some .int) 2 := ⟨rfl, q_1253, q_81, q_1254, by decide +kernel⟩
def f_M_partOf_16 (K7 : Int32 → Int32 → Int32 → mS → Option (Int32 × mS)) : Nat → Int32 → Int32 → Int32 → Int32 → mS → Option (Int32 × mS)
  | 0, _, _, _, _, _ => none
  | n + 1, x2, x3, x4, x5, v => if x5 ≤ 0 then (nm (x4 + 1) fun x4_2 => K7 x2 x3 x4_2 v) else (gd (inB x3 128) (bi (f_M_parts v (v 3 (x3 : Int32).toNatClampNeg)) fun r_6 v_4 => nm (x5 + (r_6 - 1)) fun x5_7 => nm (x3 + 1) fun x3_8 => f_M_partOf_16 K7 n x2 x3_8 x4 x5_7 v_4))
set_option maxHeartbeats 4000000 in
set_option maxRecDepth 100000 in
theorem w_M_partOf_16 {p : Program} {l : Launch} {e : Env} {s : State} {m : MethodId} {args : Array Value} {below : List Frame} {meth : Method} {c : Code} {D : va_G} {cI : ClassId} {A : Nat → Prop} {q : Nat → Nat} {o : Int32 × mS} (C0 : mo_C b_M_partOf 6 D cI A p s m args meth c) (hr : meth.sig.returnType = (some .int)) {K7 : Int32 → Int32 → Int32 → mS → Option (Int32 × mS)} (hK7 : ∀ (x2 : Int32) (x3 : Int32) (x4 : Int32) (v : mS) (H : Heap) (locs : List Loc) (ls : Array Slot), K7 x2 x3 x4 v = some o → mo_H D cI A s q v H locs → lv_has ls 6 [(0, .ref (q 0)), (2, .int x2), (3, .int x3), (4, .int x4)] → W p l e (mo_rm 1) s m args below meth c H locs 0 0 (MQ below (mo_Qi D cI q o.1 o.2 A) args s 0 0 A) (F0 m 7 ls [])) : ∀ (n : Nat) (x2 : Int32) (x3 : Int32) (x4 : Int32) (x5 : Int32) (v : mS) (H : Heap) (locs : List Loc) (ls : Array Slot), f_M_partOf_16 K7 n x2 x3 x4 x5 v = some o → mo_H D cI A s q v H locs → lv_has ls 6 [(0, .ref (q 0)), (2, .int x2), (3, .int x3), (4, .int x4), (5, .int x5)] → W p l e (mo_rm 1) s m args below meth c H locs 0 0 (MQ below (mo_Qi D cI q o.1 o.2 A) args s 0 0 A) (F0 m 16 ls []) := by
  have hx := C0.1
  have hb := C0.2.1
  intro n
  induction n with
  | zero =>
    intro x2 x3 x4 x5 v H locs ls h hH hl
    cases h
  | succ n ih =>
    intro x2 x3 x4 x5 v H locs ls h hH hl
    rw [f_M_partOf_16] at h
    refine lv_iload hx hb d_M_partOf_16 (lv_at hl 4 rfl) ?_
    refine lv_if_le (tgt := 43) hx hb d_M_partOf_18 (by decide) (fun c_1 => ?_) (fun c_1 => ?_)
    · rw [if_pos c_1] at h
      obtain ⟨x4_2, hx4_2, h⟩ := nm_out h
      refine lv_iinc (v := x4_2) (lv' := [(4, .int x4_2), (0, .ref (q 0)), (2, .int x2), (3, .int x3), (5, .int x5)]) hx hb d_M_partOf_43 hl (k := 3) rfl (by rw [hx4_2]; rfl) (by decide) rfl (fun ls hl => ?_)
      refine lv_goto (tgt := 7) hx hb d_M_partOf_46 (by decide) ?_
      exact hK7 _ _ _ _ _ _ _ h hH (lv_sub hl [1, 2, 3, 0] rfl)
    · rw [if_neg c_1] at h
      refine lv_iload hx hb d_M_partOf_21 (lv_at hl 4 rfl) ?_
      refine lv_aload_n hx hb d_M_partOf_23 rfl (lv_at hl 0 rfl) ?_
      refine mo_r_op C0 hH d_M_partOf_24 ?_
      refine lv_iload_n hx hb d_M_partOf_27 rfl (lv_at hl 2 rfl) ?_
      obtain ⟨g_3, h⟩ := gd_out h
      refine mo_ld 3 (by decide) (by decide) C0 hH (inB_in g_3) d_M_partOf_28 ?_
      obtain ⟨r_6, v_4, hc_5, h⟩ := bi_out h
      refine mo_si (r := r_6) (w := v_4) (as := [.int (v 3 (x3 : Int32).toNatClampNeg)]) (rest := [.int x5]) C0 hH (c_M_parts hc_5) yy_M_parts q_1076 q_109 (by decide) rfl hl.1 rfl (Nat.le_of_ble_eq_true rfl) ⟨Nat.zero_le _, Nat.zero_le _⟩ d_M_partOf_29 (fun H locs hH => ?_)
      refine lv_iconst (v := 1) hx hb d_M_partOf_32 (by decide) ?_
      refine lv_isub hx hb d_M_partOf_33 ?_
      refine lv_iadd hx hb d_M_partOf_34 ?_
      obtain ⟨x5_7, hx5_7, h⟩ := nm_out h
      refine fu_i hx5_7 ?_
      refine lv_istore (lv' := [(5, .int x5_7), (0, .ref (q 0)), (2, .int x2), (3, .int x3), (4, .int x4)]) hx hb d_M_partOf_35 hl (by decide) rfl (fun ls hl => ?_)
      obtain ⟨x3_8, hx3_8, h⟩ := nm_out h
      refine lv_iinc (v := x3_8) (lv' := [(3, .int x3_8), (5, .int x5_7), (0, .ref (q 0)), (2, .int x2), (4, .int x4)]) hx hb d_M_partOf_37 hl (k := 3) rfl (by rw [hx3_8]; rfl) (by decide) rfl (fun ls hl => ?_)
      refine lv_goto (tgt := 16) hx hb d_M_partOf_40 (by decide) ?_
      exact ih _ _ _ _ _ _ _ _ h hH (lv_sub hl [2, 3, 0, 4, 1] rfl)
def f_M_partOf_7  : Nat → Int32 → Int32 → Int32 → mS → Option (Int32 × mS)
  | 0, _, _, _, _ => none
  | n + 1, x2, x3, x4, v => if x2 ≤ x4 then (some (x3, v)) else (f_M_partOf_16 (f_M_partOf_7 n) fu x2 x3 x4 1 v)
set_option maxHeartbeats 4000000 in
set_option maxRecDepth 100000 in
theorem w_M_partOf_7 {p : Program} {l : Launch} {e : Env} {s : State} {m : MethodId} {args : Array Value} {below : List Frame} {meth : Method} {c : Code} {D : va_G} {cI : ClassId} {A : Nat → Prop} {q : Nat → Nat} {o : Int32 × mS} (C0 : mo_C b_M_partOf 6 D cI A p s m args meth c) (hr : meth.sig.returnType = (some .int)) : ∀ (n : Nat) (x2 : Int32) (x3 : Int32) (x4 : Int32) (v : mS) (H : Heap) (locs : List Loc) (ls : Array Slot), f_M_partOf_7  n x2 x3 x4 v = some o → mo_H D cI A s q v H locs → lv_has ls 6 [(0, .ref (q 0)), (2, .int x2), (3, .int x3), (4, .int x4)] → W p l e (mo_rm 1) s m args below meth c H locs 0 0 (MQ below (mo_Qi D cI q o.1 o.2 A) args s 0 0 A) (F0 m 7 ls []) := by
  have hx := C0.1
  have hb := C0.2.1
  intro n
  induction n with
  | zero =>
    intro x2 x3 x4 v H locs ls h hH hl
    cases h
  | succ n ih =>
    intro x2 x3 x4 v H locs ls h hH hl
    rw [f_M_partOf_7] at h
    refine lv_iload hx hb d_M_partOf_7 (lv_at hl 3 rfl) ?_
    refine lv_iload_n hx hb d_M_partOf_9 rfl (lv_at hl 1 rfl) ?_
    refine lv_icmp_ge (tgt := 49) hx hb d_M_partOf_10 (by decide) (fun c_1 => ?_) (fun c_1 => ?_)
    · rw [if_pos c_1] at h
      refine lv_iload_n hx hb d_M_partOf_49 rfl (lv_at hl 2 rfl) ?_
      exact mo_iret C0 hr hH d_M_partOf_50 h
    · rw [if_neg c_1] at h
      refine lv_iconst (v := 1) hx hb d_M_partOf_13 (by decide) ?_
      refine lv_istore (lv' := [(5, .int 1), (0, .ref (q 0)), (2, .int x2), (3, .int x3), (4, .int x4)]) hx hb d_M_partOf_14 hl (by decide) rfl (fun ls hl => ?_)
      exact w_M_partOf_16 C0 hr ih fu _ _ _ _ _ _ _ _ h hH (lv_sub hl [1, 2, 3, 4, 0] rfl)
def f_M_partOf (v : mS) (x1 : Int32) (x2 : Int32) : Option (Int32 × mS) := nm (x1 + 1) fun x3_1 => f_M_partOf_7 fu x2 x3_1 0 v
set_option maxHeartbeats 4000000 in
set_option maxRecDepth 100000 in
theorem c_M_partOf {l : Launch} {D : va_G} {cI : ClassId} {q : Nat → Nat} {v : mS} {x1 : Int32} {x2 : Int32} {o : Int32 × mS} (h : f_M_partOf v x1 x2 = some o) : mo_M l D cI q 1 y_M_partOf b_M_partOf 6 (some .int) [.ref (q 0), .int x1, .int x2] v (mo_Qi D cI q o.1 o.2) := by
  refine mo_of (by decide +kernel) rfl (Nat.le_of_ble_eq_true rfl) ?_
  intro p e s m below meth c A ls C0 hr hl hH
  have hx := C0.1
  have hb := C0.2.1
  have hl : lv_has ls 6 [(0, .ref (q 0)), (1, .int x1), (2, .int x2)] := hl
  unfold f_M_partOf at h
  refine lv_iload_n hx hb d_M_partOf_0 rfl (lv_at hl 1 rfl) ?_
  refine lv_iconst (v := 1) hx hb d_M_partOf_1 (by decide) ?_
  refine lv_iadd hx hb d_M_partOf_2 ?_
  obtain ⟨x3_1, hx3_1, h⟩ := nm_out h
  refine fu_i hx3_1 ?_
  refine lv_istore_n (lv' := [(3, .int x3_1), (0, .ref (q 0)), (1, .int x1), (2, .int x2)]) hx hb d_M_partOf_3 rfl hl (by decide) rfl (fun ls hl => ?_)
  refine lv_iconst (v := 0) hx hb d_M_partOf_4 (by decide) ?_
  refine lv_istore (lv' := [(4, .int 0), (3, .int x3_1), (0, .ref (q 0)), (1, .int x1), (2, .int x2)]) hx hb d_M_partOf_5 hl (by decide) rfl (fun ls hl => ?_)
  exact w_M_partOf_7 C0 hr  fu _ _ _ _ _ _ _ h hH (lv_sub hl [2, 4, 1, 0] rfl)
theorem yy_M_work : mo_Y y_M_work b_M_work 3 none 2 := ⟨rfl, q_1093, q_44, q_1094, by decide +kernel⟩
def f_M_work (v : mS) (x1 : Int32) (x2 : Int32) : Option (mS) := nm (sU v 0 20 ((v 0 20) + 1)) fun v_1 => if (v_1 0 20) ≤ 150 then (gd (inB (v_1 0 24) 10) (nm (sU v_1 15 (v_1 0 24 : Int32).toNatClampNeg x1) fun v_4 => gd (inB (v_4 0 24) 10) (nm (sU v_4 16 (v_4 0 24 : Int32).toNatClampNeg x2) fun v_6 => gd (inB (v_6 0 24) 10) (nm (sU v_6 17 (v_6 0 24 : Int32).toNatClampNeg 0) fun v_8 => gd (inB (v_8 0 24) 10) (nm (sU v_8 18 (v_8 0 24 : Int32).toNatClampNeg 0) fun v_10 => gd (inB (v_10 0 24) 10) (nm (sU v_10 19 (v_10 0 24 : Int32).toNatClampNeg 0) fun v_12 => gd (inB (v_12 0 24) 10) (nm (sU v_12 20 (v_12 0 24 : Int32).toNatClampNeg 0) fun v_14 => gd (inB (v_14 0 24) 10) (nm (sU v_14 24 (v_14 0 24 : Int32).toNatClampNeg 0) fun v_16 => nm (sU v_16 0 24 ((v_16 0 24) + 1)) fun v_17 => some v_17)))))))) else (nm (sU v_1 0 21 1) fun v_18 => some v_18)
set_option maxHeartbeats 4000000 in
set_option maxRecDepth 100000 in
theorem c_M_work {l : Launch} {D : va_G} {cI : ClassId} {q : Nat → Nat} {v : mS} {x1 : Int32} {x2 : Int32} {o : mS} (h : f_M_work v x1 x2 = some o) : mo_M l D cI q 0 y_M_work b_M_work 3 none [.ref (q 0), .int x1, .int x2] v (mo_Qv D cI q o) := by
  refine mo_of (by decide +kernel) rfl (Nat.le_of_ble_eq_true rfl) ?_
  intro p e s m below meth c A ls C0 hr hl hH
  have hx := C0.1
  have hb := C0.2.1
  have hl : lv_has ls 3 [(0, .ref (q 0)), (1, .int x1), (2, .int x2)] := hl
  unfold f_M_work at h
  refine lv_aload_n hx hb d_M_work_0 rfl (lv_at hl 0 rfl) ?_
  refine lv_dup hx hb d_M_work_1 rfl ?_
  refine mo_g_steps C0 hH d_M_work_2 ?_
  refine lv_iconst (v := 1) hx hb d_M_work_5 (by decide) ?_
  refine lv_iadd hx hb d_M_work_6 ?_
  obtain ⟨v_1, hv_1, h⟩ := nm_out h
  refine mo_p_steps C0 hH d_M_work_7 (fun H locs hH => ?_)
  rw [← hv_1] at hH
  refine lv_aload_n hx hb d_M_work_10 rfl (lv_at hl 0 rfl) ?_
  refine mo_g_steps C0 hH d_M_work_11 ?_
  refine lv_sipush (v := 150) hx hb d_M_work_14 (by decide) ?_
  refine lv_icmp_le (tgt := 26) hx hb d_M_work_17 (by decide) (fun c_2 => ?_) (fun c_2 => ?_)
  · rw [if_pos c_2] at h
    refine lv_aload_n hx hb d_M_work_26 rfl (lv_at hl 0 rfl) ?_
    refine mo_r_tok C0 hH d_M_work_27 ?_
    refine lv_aload_n hx hb d_M_work_30 rfl (lv_at hl 0 rfl) ?_
    refine mo_g_frames C0 hH d_M_work_31 ?_
    refine lv_iload_n hx hb d_M_work_34 rfl (lv_at hl 1 rfl) ?_
    obtain ⟨g_3, h⟩ := gd_out h
    obtain ⟨v_4, hv_4, h⟩ := nm_out h
    refine mo_st 15 (by decide) (by decide) C0 hH (inB_in g_3) d_M_work_35 (fun H locs hH => ?_)
    rw [← hv_4] at hH
    refine lv_aload_n hx hb d_M_work_36 rfl (lv_at hl 0 rfl) ?_
    refine mo_r_val C0 hH d_M_work_37 ?_
    refine lv_aload_n hx hb d_M_work_40 rfl (lv_at hl 0 rfl) ?_
    refine mo_g_frames C0 hH d_M_work_41 ?_
    refine lv_iload_n hx hb d_M_work_44 rfl (lv_at hl 2 rfl) ?_
    obtain ⟨g_5, h⟩ := gd_out h
    obtain ⟨v_6, hv_6, h⟩ := nm_out h
    refine mo_st 16 (by decide) (by decide) C0 hH (inB_in g_5) d_M_work_45 (fun H locs hH => ?_)
    rw [← hv_6] at hH
    refine lv_aload_n hx hb d_M_work_46 rfl (lv_at hl 0 rfl) ?_
    refine mo_r_phase C0 hH d_M_work_47 ?_
    refine lv_aload_n hx hb d_M_work_50 rfl (lv_at hl 0 rfl) ?_
    refine mo_g_frames C0 hH d_M_work_51 ?_
    refine lv_iconst (v := 0) hx hb d_M_work_54 (by decide) ?_
    obtain ⟨g_7, h⟩ := gd_out h
    obtain ⟨v_8, hv_8, h⟩ := nm_out h
    refine mo_st 17 (by decide) (by decide) C0 hH (inB_in g_7) d_M_work_55 (fun H locs hH => ?_)
    rw [← hv_8] at hH
    refine lv_aload_n hx hb d_M_work_56 rfl (lv_at hl 0 rfl) ?_
    refine mo_r_at C0 hH d_M_work_57 ?_
    refine lv_aload_n hx hb d_M_work_60 rfl (lv_at hl 0 rfl) ?_
    refine mo_g_frames C0 hH d_M_work_61 ?_
    refine lv_iconst (v := 0) hx hb d_M_work_64 (by decide) ?_
    obtain ⟨g_9, h⟩ := gd_out h
    obtain ⟨v_10, hv_10, h⟩ := nm_out h
    refine mo_st 18 (by decide) (by decide) C0 hH (inB_in g_9) d_M_work_65 (fun H locs hH => ?_)
    rw [← hv_10] at hH
    refine lv_aload_n hx hb d_M_work_66 rfl (lv_at hl 0 rfl) ?_
    refine mo_r_rows C0 hH d_M_work_67 ?_
    refine lv_aload_n hx hb d_M_work_70 rfl (lv_at hl 0 rfl) ?_
    refine mo_g_frames C0 hH d_M_work_71 ?_
    refine lv_iconst (v := 0) hx hb d_M_work_74 (by decide) ?_
    obtain ⟨g_11, h⟩ := gd_out h
    obtain ⟨v_12, hv_12, h⟩ := nm_out h
    refine mo_st 19 (by decide) (by decide) C0 hH (inB_in g_11) d_M_work_75 (fun H locs hH => ?_)
    rw [← hv_12] at hH
    refine lv_aload_n hx hb d_M_work_76 rfl (lv_at hl 0 rfl) ?_
    refine mo_r_rowError C0 hH d_M_work_77 ?_
    refine lv_aload_n hx hb d_M_work_80 rfl (lv_at hl 0 rfl) ?_
    refine mo_g_frames C0 hH d_M_work_81 ?_
    refine lv_iconst (v := 0) hx hb d_M_work_84 (by decide) ?_
    obtain ⟨g_13, h⟩ := gd_out h
    obtain ⟨v_14, hv_14, h⟩ := nm_out h
    refine mo_st 20 (by decide) (by decide) C0 hH (inB_in g_13) d_M_work_85 (fun H locs hH => ?_)
    rw [← hv_14] at hH
    refine lv_aload_n hx hb d_M_work_86 rfl (lv_at hl 0 rfl) ?_
    refine mo_r_outs C0 hH d_M_work_87 ?_
    refine lv_aload_n hx hb d_M_work_90 rfl (lv_at hl 0 rfl) ?_
    refine mo_g_frames C0 hH d_M_work_91 ?_
    refine lv_iconst (v := 0) hx hb d_M_work_94 (by decide) ?_
    obtain ⟨g_15, h⟩ := gd_out h
    obtain ⟨v_16, hv_16, h⟩ := nm_out h
    refine mo_st 24 (by decide) (by decide) C0 hH (inB_in g_15) d_M_work_95 (fun H locs hH => ?_)
    rw [← hv_16] at hH
    refine lv_aload_n hx hb d_M_work_96 rfl (lv_at hl 0 rfl) ?_
    refine lv_dup hx hb d_M_work_97 rfl ?_
    refine mo_g_frames C0 hH d_M_work_98 ?_
    refine lv_iconst (v := 1) hx hb d_M_work_101 (by decide) ?_
    refine lv_iadd hx hb d_M_work_102 ?_
    obtain ⟨v_17, hv_17, h⟩ := nm_out h
    refine mo_p_frames C0 hH d_M_work_103 (fun H locs hH => ?_)
    rw [← hv_17] at hH
    exact mo_vret C0 hr hH d_M_work_106 h
  · rw [if_neg c_2] at h
    refine lv_aload_n hx hb d_M_work_20 rfl (lv_at hl 0 rfl) ?_
    refine lv_iconst (v := 1) hx hb d_M_work_21 (by decide) ?_
    obtain ⟨v_18, hv_18, h⟩ := nm_out h
    refine mo_p_noRoom (Or.inr rfl) C0 hH d_M_work_22 (fun H locs hH => ?_)
    rw [← hv_18] at hH
    exact mo_vret C0 hr hH d_M_work_25 h
theorem yy_M_ask : mo_Y y_M_ask b_M_ask 5 none 4 := ⟨rfl, q_1249, q_80, q_1250, by decide +kernel⟩
def f_M_ask (v : mS) (x1 : Int32) (x2 : Int32) (x3 : Int32) (x4 : Int32) : Option (mS) := gd (inB x1 10) (nm (sU v 17 (x1 : Int32).toNatClampNeg x4) fun v_2 => gd (inB x1 10) (bi (f_M_partOf v_2 (v_2 15 (x1 : Int32).toNatClampNeg) x2) fun r_6 v_4 => bv (f_M_work v_4 r_6 x3) fun v_7 => some v_7))
set_option maxHeartbeats 4000000 in
set_option maxRecDepth 100000 in
theorem c_M_ask {l : Launch} {D : va_G} {cI : ClassId} {q : Nat → Nat} {v : mS} {x1 : Int32} {x2 : Int32} {x3 : Int32} {x4 : Int32} {o : mS} (h : f_M_ask v x1 x2 x3 x4 = some o) : mo_M l D cI q 2 y_M_ask b_M_ask 5 none [.ref (q 0), .int x1, .int x2, .int x3, .int x4] v (mo_Qv D cI q o) := by
  refine mo_of (by decide +kernel) rfl (Nat.le_of_ble_eq_true rfl) ?_
  intro p e s m below meth c A ls C0 hr hl hH
  have hx := C0.1
  have hb := C0.2.1
  have hl : lv_has ls 5 [(0, .ref (q 0)), (1, .int x1), (2, .int x2), (3, .int x3), (4, .int x4)] := hl
  unfold f_M_ask at h
  refine lv_aload_n hx hb d_M_ask_0 rfl (lv_at hl 0 rfl) ?_
  refine mo_r_phase C0 hH d_M_ask_1 ?_
  refine lv_iload_n hx hb d_M_ask_4 rfl (lv_at hl 1 rfl) ?_
  refine lv_iload hx hb d_M_ask_5 (lv_at hl 4 rfl) ?_
  obtain ⟨g_1, h⟩ := gd_out h
  obtain ⟨v_2, hv_2, h⟩ := nm_out h
  refine mo_st 17 (by decide) (by decide) C0 hH (inB_in g_1) d_M_ask_7 (fun H locs hH => ?_)
  rw [← hv_2] at hH
  refine lv_aload_n hx hb d_M_ask_8 rfl (lv_at hl 0 rfl) ?_
  refine lv_aload_n hx hb d_M_ask_9 rfl (lv_at hl 0 rfl) ?_
  refine lv_aload_n hx hb d_M_ask_10 rfl (lv_at hl 0 rfl) ?_
  refine mo_r_tok C0 hH d_M_ask_11 ?_
  refine lv_iload_n hx hb d_M_ask_14 rfl (lv_at hl 1 rfl) ?_
  obtain ⟨g_3, h⟩ := gd_out h
  refine mo_ld 15 (by decide) (by decide) C0 hH (inB_in g_3) d_M_ask_15 ?_
  refine lv_iload_n hx hb d_M_ask_16 rfl (lv_at hl 2 rfl) ?_
  obtain ⟨r_6, v_4, hc_5, h⟩ := bi_out h
  refine mo_ci (r := r_6) (w := v_4) (as := [.int (v_2 15 (x1 : Int32).toNatClampNeg), .int x2]) (rest := [.ref (q 0)]) C0 hH (c_M_partOf hc_5) yy_M_partOf q_1251 q_109 (by decide) rfl hl.1 rfl (Nat.le_of_ble_eq_true rfl) ⟨Nat.zero_le _, Nat.zero_le _⟩ d_M_ask_17 (fun H locs hH => ?_)
  refine lv_iload_n hx hb d_M_ask_20 rfl (lv_at hl 3 rfl) ?_
  obtain ⟨v_7, hc_8, h⟩ := bv_out h
  refine mo_cv (w := v_7) (as := [.int r_6, .int x3]) (rest := []) C0 hH (c_M_work hc_8) yy_M_work q_1091 q_109 (by decide) rfl hl.1 rfl (Nat.le_of_ble_eq_true rfl) ⟨Nat.zero_le _, Nat.zero_le _⟩ d_M_ask_21 (fun H locs hH => ?_)
  exact mo_vret C0 hr hH d_M_ask_24 h
theorem yy_M_emit : mo_Y y_M_emit b_M_emit 3 none 2 := ⟨rfl, q_1148, q_57, q_1149, by decide +kernel⟩
def f_M_emit (v : mS) (x1 : Int32) (x2 : Int32) : Option (mS) := if (v 0 21) = 0 then (gd (inB x1 10) (if (v 24 (x1 : Int32).toNatClampNeg) = 16 then (nm (sU v 0 21 1) fun v_10 => some v_10) else (gd (inB x1 10) (gd (inB ((17 * x1) + (v 24 (x1 : Int32).toNatClampNeg)) 170) (nm (sU v 25 ((17 * x1) + (v 24 (x1 : Int32).toNatClampNeg) : Int32).toNatClampNeg x2) fun v_6 => gd (inB x1 10) (gd (inB x1 10) (nm (sU v_6 24 (x1 : Int32).toNatClampNeg ((v_6 24 (x1 : Int32).toNatClampNeg) + 1)) fun v_9 => some v_9))))))) else (some v)
set_option maxHeartbeats 4000000 in
set_option maxRecDepth 100000 in
theorem c_M_emit {l : Launch} {D : va_G} {cI : ClassId} {q : Nat → Nat} {v : mS} {x1 : Int32} {x2 : Int32} {o : mS} (h : f_M_emit v x1 x2 = some o) : mo_M l D cI q 0 y_M_emit b_M_emit 3 none [.ref (q 0), .int x1, .int x2] v (mo_Qv D cI q o) := by
  refine mo_of (by decide +kernel) rfl (Nat.le_of_ble_eq_true rfl) ?_
  intro p e s m below meth c A ls C0 hr hl hH
  have hx := C0.1
  have hb := C0.2.1
  have hl : lv_has ls 3 [(0, .ref (q 0)), (1, .int x1), (2, .int x2)] := hl
  unfold f_M_emit at h
  refine lv_aload_n hx hb d_M_emit_0 rfl (lv_at hl 0 rfl) ?_
  refine mo_g_noRoom C0 hH d_M_emit_1 ?_
  refine lv_if_eq (tgt := 8) hx hb d_M_emit_4 (by decide) (fun c_1 => ?_) (fun c_1 => ?_)
  · rw [if_pos c_1] at h
    refine lv_aload_n hx hb d_M_emit_8 rfl (lv_at hl 0 rfl) ?_
    refine mo_r_outs C0 hH d_M_emit_9 ?_
    refine lv_iload_n hx hb d_M_emit_12 rfl (lv_at hl 1 rfl) ?_
    obtain ⟨g_2, h⟩ := gd_out h
    refine mo_ld 24 (by decide) (by decide) C0 hH (inB_in g_2) d_M_emit_13 ?_
    refine lv_bipush (v := 16) hx hb d_M_emit_14 (by decide) ?_
    refine lv_icmp_ne (tgt := 25) hx hb d_M_emit_16 (by decide) (fun c_3 => ?_) (fun c_3 => ?_)
    · rw [if_neg c_3] at h
      refine lv_aload_n hx hb d_M_emit_25 rfl (lv_at hl 0 rfl) ?_
      refine mo_r_out C0 hH d_M_emit_26 ?_
      refine lv_bipush (v := 17) hx hb d_M_emit_29 (by decide) ?_
      refine lv_iload_n hx hb d_M_emit_31 rfl (lv_at hl 1 rfl) ?_
      refine lv_imul hx hb d_M_emit_32 ?_
      refine lv_aload_n hx hb d_M_emit_33 rfl (lv_at hl 0 rfl) ?_
      refine mo_r_outs C0 hH d_M_emit_34 ?_
      refine lv_iload_n hx hb d_M_emit_37 rfl (lv_at hl 1 rfl) ?_
      obtain ⟨g_4, h⟩ := gd_out h
      refine mo_ld 24 (by decide) (by decide) C0 hH (inB_in g_4) d_M_emit_38 ?_
      refine lv_iadd hx hb d_M_emit_39 ?_
      refine lv_iload_n hx hb d_M_emit_40 rfl (lv_at hl 2 rfl) ?_
      obtain ⟨g_5, h⟩ := gd_out h
      obtain ⟨v_6, hv_6, h⟩ := nm_out h
      refine mo_st 25 (by decide) (by decide) C0 hH (inB_in g_5) d_M_emit_41 (fun H locs hH => ?_)
      rw [← hv_6] at hH
      refine lv_aload_n hx hb d_M_emit_42 rfl (lv_at hl 0 rfl) ?_
      refine mo_r_outs C0 hH d_M_emit_43 ?_
      refine lv_iload_n hx hb d_M_emit_46 rfl (lv_at hl 1 rfl) ?_
      refine lv_dup2_11 hx hb d_M_emit_47 rfl rfl ?_
      obtain ⟨g_7, h⟩ := gd_out h
      refine mo_ld 24 (by decide) (by decide) C0 hH (inB_in g_7) d_M_emit_48 ?_
      refine lv_iconst (v := 1) hx hb d_M_emit_49 (by decide) ?_
      refine lv_iadd hx hb d_M_emit_50 ?_
      obtain ⟨g_8, h⟩ := gd_out h
      obtain ⟨v_9, hv_9, h⟩ := nm_out h
      refine mo_st 24 (by decide) (by decide) C0 hH (inB_in g_8) d_M_emit_51 (fun H locs hH => ?_)
      rw [← hv_9] at hH
      exact mo_vret C0 hr hH d_M_emit_52 h
    · rw [if_pos c_3] at h
      refine lv_aload_n hx hb d_M_emit_19 rfl (lv_at hl 0 rfl) ?_
      refine lv_iconst (v := 1) hx hb d_M_emit_20 (by decide) ?_
      obtain ⟨v_10, hv_10, h⟩ := nm_out h
      refine mo_p_noRoom (Or.inr rfl) C0 hH d_M_emit_21 (fun H locs hH => ?_)
      rw [← hv_10] at hH
      exact mo_vret C0 hr hH d_M_emit_24 h
  · rw [if_neg c_1] at h
    exact mo_vret C0 hr hH d_M_emit_7 h
theorem yy_M_end : mo_Y y_M_end b_M_end 4 none 2 := ⟨rfl, q_1202, q_69, q_1203, by decide +kernel⟩
def f_M_end_27  : Nat → Int32 → Int32 → mS → Option (mS)
  | 0, _, _, _ => none
  | n + 1, x1, x3, v => if (v 0 37) ≤ x3 then (some v) else (gd (inB ((17 * x1) + x3) 170) (gd (inB x3 17) (nm (sU v 26 (x3 : Int32).toNatClampNeg (v 25 ((17 * x1) + x3 : Int32).toNatClampNeg)) fun v_4 => nm (x3 + 1) fun x3_5 => f_M_end_27 n x1 x3_5 v_4)))
set_option maxHeartbeats 4000000 in
set_option maxRecDepth 100000 in
theorem w_M_end_27 {p : Program} {l : Launch} {e : Env} {s : State} {m : MethodId} {args : Array Value} {below : List Frame} {meth : Method} {c : Code} {D : va_G} {cI : ClassId} {A : Nat → Prop} {q : Nat → Nat} {o : mS} (C0 : mo_C b_M_end 4 D cI A p s m args meth c) (hr : meth.sig.returnType = none) : ∀ (n : Nat) (x1 : Int32) (x3 : Int32) (v : mS) (H : Heap) (locs : List Loc) (ls : Array Slot), f_M_end_27  n x1 x3 v = some o → mo_H D cI A s q v H locs → lv_has ls 4 [(0, .ref (q 0)), (1, .int x1), (3, .int x3)] → W p l e (mo_rm 0) s m args below meth c H locs 0 0 (MQ below (mo_Qv D cI q o A) args s 0 0 A) (F0 m 27 ls []) := by
  have hx := C0.1
  have hb := C0.2.1
  intro n
  induction n with
  | zero =>
    intro x1 x3 v H locs ls h hH hl
    cases h
  | succ n ih =>
    intro x1 x3 v H locs ls h hH hl
    rw [f_M_end_27] at h
    refine lv_iload_n hx hb d_M_end_27 rfl (lv_at hl 2 rfl) ?_
    refine lv_aload_n hx hb d_M_end_28 rfl (lv_at hl 0 rfl) ?_
    refine mo_g_gots C0 hH d_M_end_29 ?_
    refine lv_icmp_ge (tgt := 58) hx hb d_M_end_32 (by decide) (fun c_1 => ?_) (fun c_1 => ?_)
    · rw [if_pos c_1] at h
      exact mo_vret C0 hr hH d_M_end_58 h
    · rw [if_neg c_1] at h
      refine lv_aload_n hx hb d_M_end_35 rfl (lv_at hl 0 rfl) ?_
      refine mo_r_got C0 hH d_M_end_36 ?_
      refine lv_iload_n hx hb d_M_end_39 rfl (lv_at hl 2 rfl) ?_
      refine lv_aload_n hx hb d_M_end_40 rfl (lv_at hl 0 rfl) ?_
      refine mo_r_out C0 hH d_M_end_41 ?_
      refine lv_bipush (v := 17) hx hb d_M_end_44 (by decide) ?_
      refine lv_iload_n hx hb d_M_end_46 rfl (lv_at hl 1 rfl) ?_
      refine lv_imul hx hb d_M_end_47 ?_
      refine lv_iload_n hx hb d_M_end_48 rfl (lv_at hl 2 rfl) ?_
      refine lv_iadd hx hb d_M_end_49 ?_
      obtain ⟨g_2, h⟩ := gd_out h
      refine mo_ld 25 (by decide) (by decide) C0 hH (inB_in g_2) d_M_end_50 ?_
      obtain ⟨g_3, h⟩ := gd_out h
      obtain ⟨v_4, hv_4, h⟩ := nm_out h
      refine mo_st 26 (by decide) (by decide) C0 hH (inB_in g_3) d_M_end_51 (fun H locs hH => ?_)
      rw [← hv_4] at hH
      obtain ⟨x3_5, hx3_5, h⟩ := nm_out h
      refine lv_iinc (v := x3_5) (lv' := [(3, .int x3_5), (0, .ref (q 0)), (1, .int x1)]) hx hb d_M_end_52 hl (k := 2) rfl (by rw [hx3_5]; rfl) (by decide) rfl (fun ls hl => ?_)
      refine lv_goto (tgt := 27) hx hb d_M_end_55 (by decide) ?_
      exact ih _ _ _ _ _ _ h hH (lv_sub hl [1, 2, 0] rfl)
def f_M_end (v : mS) (x1 : Int32) (x2 : Int32) : Option (mS) := nm (sU v 0 24 ((v 0 24) - 1)) fun v_1 => gd (inB x1 10) (nm (sU v_1 0 37 (v_1 24 (x1 : Int32).toNatClampNeg)) fun v_3 => nm (sU v_3 0 38 x2) fun v_4 => f_M_end_27 fu x1 0 v_4)
set_option maxHeartbeats 4000000 in
set_option maxRecDepth 100000 in
theorem c_M_end {l : Launch} {D : va_G} {cI : ClassId} {q : Nat → Nat} {v : mS} {x1 : Int32} {x2 : Int32} {o : mS} (h : f_M_end v x1 x2 = some o) : mo_M l D cI q 0 y_M_end b_M_end 4 none [.ref (q 0), .int x1, .int x2] v (mo_Qv D cI q o) := by
  refine mo_of (by decide +kernel) rfl (Nat.le_of_ble_eq_true rfl) ?_
  intro p e s m below meth c A ls C0 hr hl hH
  have hx := C0.1
  have hb := C0.2.1
  have hl : lv_has ls 4 [(0, .ref (q 0)), (1, .int x1), (2, .int x2)] := hl
  unfold f_M_end at h
  refine lv_aload_n hx hb d_M_end_0 rfl (lv_at hl 0 rfl) ?_
  refine lv_dup hx hb d_M_end_1 rfl ?_
  refine mo_g_frames C0 hH d_M_end_2 ?_
  refine lv_iconst (v := 1) hx hb d_M_end_5 (by decide) ?_
  refine lv_isub hx hb d_M_end_6 ?_
  obtain ⟨v_1, hv_1, h⟩ := nm_out h
  refine mo_p_frames C0 hH d_M_end_7 (fun H locs hH => ?_)
  rw [← hv_1] at hH
  refine lv_aload_n hx hb d_M_end_10 rfl (lv_at hl 0 rfl) ?_
  refine lv_aload_n hx hb d_M_end_11 rfl (lv_at hl 0 rfl) ?_
  refine mo_r_outs C0 hH d_M_end_12 ?_
  refine lv_iload_n hx hb d_M_end_15 rfl (lv_at hl 1 rfl) ?_
  obtain ⟨g_2, h⟩ := gd_out h
  refine mo_ld 24 (by decide) (by decide) C0 hH (inB_in g_2) d_M_end_16 ?_
  obtain ⟨v_3, hv_3, h⟩ := nm_out h
  refine mo_p_gots C0 hH d_M_end_17 (fun H locs hH => ?_)
  rw [← hv_3] at hH
  refine lv_aload_n hx hb d_M_end_20 rfl (lv_at hl 0 rfl) ?_
  refine lv_iload_n hx hb d_M_end_21 rfl (lv_at hl 2 rfl) ?_
  obtain ⟨v_4, hv_4, h⟩ := nm_out h
  refine mo_p_gotError C0 hH d_M_end_22 (fun H locs hH => ?_)
  rw [← hv_4] at hH
  refine lv_iconst (v := 0) hx hb d_M_end_25 (by decide) ?_
  refine lv_istore_n (lv' := [(3, .int 0), (0, .ref (q 0)), (1, .int x1), (2, .int x2)]) hx hb d_M_end_26 rfl hl (by decide) rfl (fun ls hl => ?_)
  exact w_M_end_27 C0 hr  fu _ _ _ _ _ _ h hH (lv_sub hl [1, 2, 0] rfl)
theorem yy_M_err : mo_Y y_M_err b_M_err 3 none 2 := ⟨rfl, q_1241, q_78, q_1242, by decide +kernel⟩
def f_M_err (v : mS) (x1 : Int32) (x2 : Int32) : Option (mS) := bi (f_M_whole v ((x2 : Int32).toInt64)) fun r_3 v_1 => bv (f_M_end v_1 x1 r_3) fun v_4 => some v_4
set_option maxHeartbeats 4000000 in
set_option maxRecDepth 100000 in
theorem c_M_err {l : Launch} {D : va_G} {cI : ClassId} {q : Nat → Nat} {v : mS} {x1 : Int32} {x2 : Int32} {o : mS} (h : f_M_err v x1 x2 = some o) : mo_M l D cI q 3 y_M_err b_M_err 3 none [.ref (q 0), .int x1, .int x2] v (mo_Qv D cI q o) := by
  refine mo_of (by decide +kernel) rfl (Nat.le_of_ble_eq_true rfl) ?_
  intro p e s m below meth c A ls C0 hr hl hH
  have hx := C0.1
  have hb := C0.2.1
  have hl : lv_has ls 3 [(0, .ref (q 0)), (1, .int x1), (2, .int x2)] := hl
  unfold f_M_err at h
  refine lv_aload_n hx hb d_M_err_0 rfl (lv_at hl 0 rfl) ?_
  refine lv_iload_n hx hb d_M_err_1 rfl (lv_at hl 1 rfl) ?_
  refine lv_aload_n hx hb d_M_err_2 rfl (lv_at hl 0 rfl) ?_
  refine lv_iload_n hx hb d_M_err_3 rfl (lv_at hl 2 rfl) ?_
  refine lv_i2l hx hb d_M_err_4 rfl ?_
  obtain ⟨r_3, v_1, hc_2, h⟩ := bi_out h
  refine mo_ci (r := r_3) (w := v_1) (as := [.long ((x2 : Int32).toInt64)]) (rest := [.int x1, .ref (q 0)]) C0 hH (c_M_whole hc_2) yy_M_whole q_1187 q_109 (by decide) rfl hl.1 rfl (Nat.le_of_ble_eq_true rfl) ⟨Nat.zero_le _, Nat.zero_le _⟩ d_M_err_5 (fun H locs hH => ?_)
  obtain ⟨v_4, hc_5, h⟩ := bv_out h
  refine mo_cv (w := v_4) (as := [.int x1, .int r_3]) (rest := []) C0 hH (c_M_end hc_5) yy_M_end q_1200 q_109 (by decide) rfl hl.1 rfl (Nat.le_of_ble_eq_true rfl) ⟨Nat.zero_le _, Nat.zero_le _⟩ d_M_err_8 (fun H locs hH => ?_)
  exact mo_vret C0 hr hH d_M_err_11 h
theorem yy_M_alone : mo_Y y_M_alone b_M_alone 3 none 2 := ⟨rfl, q_1285, q_89, q_1286, by decide +kernel⟩
def f_M_alone (v : mS) (x1 : Int32) (x2 : Int32) : Option (mS) := gd (inB x1 10) (nm (sU v 24 (x1 : Int32).toNatClampNeg 0) fun v_2 => bv (f_M_end v_2 x1 x2) fun v_3 => some v_3)
set_option maxHeartbeats 4000000 in
set_option maxRecDepth 100000 in
theorem c_M_alone {l : Launch} {D : va_G} {cI : ClassId} {q : Nat → Nat} {v : mS} {x1 : Int32} {x2 : Int32} {o : mS} (h : f_M_alone v x1 x2 = some o) : mo_M l D cI q 1 y_M_alone b_M_alone 3 none [.ref (q 0), .int x1, .int x2] v (mo_Qv D cI q o) := by
  refine mo_of (by decide +kernel) rfl (Nat.le_of_ble_eq_true rfl) ?_
  intro p e s m below meth c A ls C0 hr hl hH
  have hx := C0.1
  have hb := C0.2.1
  have hl : lv_has ls 3 [(0, .ref (q 0)), (1, .int x1), (2, .int x2)] := hl
  unfold f_M_alone at h
  refine lv_aload_n hx hb d_M_alone_0 rfl (lv_at hl 0 rfl) ?_
  refine mo_r_outs C0 hH d_M_alone_1 ?_
  refine lv_iload_n hx hb d_M_alone_4 rfl (lv_at hl 1 rfl) ?_
  refine lv_iconst (v := 0) hx hb d_M_alone_5 (by decide) ?_
  obtain ⟨g_1, h⟩ := gd_out h
  obtain ⟨v_2, hv_2, h⟩ := nm_out h
  refine mo_st 24 (by decide) (by decide) C0 hH (inB_in g_1) d_M_alone_6 (fun H locs hH => ?_)
  rw [← hv_2] at hH
  refine lv_aload_n hx hb d_M_alone_7 rfl (lv_at hl 0 rfl) ?_
  refine lv_iload_n hx hb d_M_alone_8 rfl (lv_at hl 1 rfl) ?_
  refine lv_iload_n hx hb d_M_alone_9 rfl (lv_at hl 2 rfl) ?_
  obtain ⟨v_3, hc_4, h⟩ := bv_out h
  refine mo_cv (w := v_3) (as := [.int x1, .int x2]) (rest := []) C0 hH (c_M_end hc_4) yy_M_end q_1200 q_109 (by decide) rfl hl.1 rfl (Nat.le_of_ble_eq_true rfl) ⟨Nat.zero_le _, Nat.zero_le _⟩ d_M_alone_10 (fun H locs hH => ?_)
  exact mo_vret C0 hr hH d_M_alone_13 h
theorem yy_M_take : mo_Y y_M_take b_M_take 3 none 1 := ⟨rfl, q_1261, q_83, q_1262, by decide +kernel⟩
def f_M_take_2  : Nat → Int32 → Int32 → mS → Option (mS)
  | 0, _, _, _ => none
  | n + 1, x1, x2, v => if (v 0 37) ≤ x2 then (some v) else (gd (inB x2 17) (bv (f_M_emit v x1 (v 26 (x2 : Int32).toNatClampNeg)) fun v_3 => nm (x2 + 1) fun x2_5 => f_M_take_2 n x1 x2_5 v_3))
set_option maxHeartbeats 4000000 in
set_option maxRecDepth 100000 in
theorem w_M_take_2 {p : Program} {l : Launch} {e : Env} {s : State} {m : MethodId} {args : Array Value} {below : List Frame} {meth : Method} {c : Code} {D : va_G} {cI : ClassId} {A : Nat → Prop} {q : Nat → Nat} {o : mS} (C0 : mo_C b_M_take 3 D cI A p s m args meth c) (hr : meth.sig.returnType = none) : ∀ (n : Nat) (x1 : Int32) (x2 : Int32) (v : mS) (H : Heap) (locs : List Loc) (ls : Array Slot), f_M_take_2  n x1 x2 v = some o → mo_H D cI A s q v H locs → lv_has ls 3 [(0, .ref (q 0)), (1, .int x1), (2, .int x2)] → W p l e (mo_rm 1) s m args below meth c H locs 0 0 (MQ below (mo_Qv D cI q o A) args s 0 0 A) (F0 m 2 ls []) := by
  have hx := C0.1
  have hb := C0.2.1
  intro n
  induction n with
  | zero =>
    intro x1 x2 v H locs ls h hH hl
    cases h
  | succ n ih =>
    intro x1 x2 v H locs ls h hH hl
    rw [f_M_take_2] at h
    refine lv_iload_n hx hb d_M_take_2 rfl (lv_at hl 2 rfl) ?_
    refine lv_aload_n hx hb d_M_take_3 rfl (lv_at hl 0 rfl) ?_
    refine mo_g_gots C0 hH d_M_take_4 ?_
    refine lv_icmp_ge (tgt := 27) hx hb d_M_take_7 (by decide) (fun c_1 => ?_) (fun c_1 => ?_)
    · rw [if_pos c_1] at h
      exact mo_vret C0 hr hH d_M_take_27 h
    · rw [if_neg c_1] at h
      refine lv_aload_n hx hb d_M_take_10 rfl (lv_at hl 0 rfl) ?_
      refine lv_iload_n hx hb d_M_take_11 rfl (lv_at hl 1 rfl) ?_
      refine lv_aload_n hx hb d_M_take_12 rfl (lv_at hl 0 rfl) ?_
      refine mo_r_got C0 hH d_M_take_13 ?_
      refine lv_iload_n hx hb d_M_take_16 rfl (lv_at hl 2 rfl) ?_
      obtain ⟨g_2, h⟩ := gd_out h
      refine mo_ld 26 (by decide) (by decide) C0 hH (inB_in g_2) d_M_take_17 ?_
      obtain ⟨v_3, hc_4, h⟩ := bv_out h
      refine mo_cv (w := v_3) (as := [.int x1, .int (v 26 (x2 : Int32).toNatClampNeg)]) (rest := []) C0 hH (c_M_emit hc_4) yy_M_emit q_1146 q_109 (by decide) rfl hl.1 rfl (Nat.le_of_ble_eq_true rfl) ⟨Nat.zero_le _, Nat.zero_le _⟩ d_M_take_18 (fun H locs hH => ?_)
      obtain ⟨x2_5, hx2_5, h⟩ := nm_out h
      refine lv_iinc (v := x2_5) (lv' := [(2, .int x2_5), (0, .ref (q 0)), (1, .int x1)]) hx hb d_M_take_21 hl (k := 2) rfl (by rw [hx2_5]; rfl) (by decide) rfl (fun ls hl => ?_)
      refine lv_goto (tgt := 2) hx hb d_M_take_24 (by decide) ?_
      exact ih _ _ _ _ _ _ h hH (lv_sub hl [1, 2, 0] rfl)
def f_M_take (v : mS) (x1 : Int32) : Option (mS) := f_M_take_2 fu x1 0 v
set_option maxHeartbeats 4000000 in
set_option maxRecDepth 100000 in
theorem c_M_take {l : Launch} {D : va_G} {cI : ClassId} {q : Nat → Nat} {v : mS} {x1 : Int32} {o : mS} (h : f_M_take v x1 = some o) : mo_M l D cI q 1 y_M_take b_M_take 3 none [.ref (q 0), .int x1] v (mo_Qv D cI q o) := by
  refine mo_of (by decide +kernel) rfl (Nat.le_of_ble_eq_true rfl) ?_
  intro p e s m below meth c A ls C0 hr hl hH
  have hx := C0.1
  have hb := C0.2.1
  have hl : lv_has ls 3 [(0, .ref (q 0)), (1, .int x1)] := hl
  unfold f_M_take at h
  refine lv_iconst (v := 0) hx hb d_M_take_0 (by decide) ?_
  refine lv_istore_n (lv' := [(2, .int 0), (0, .ref (q 0)), (1, .int x1)]) hx hb d_M_take_1 rfl hl (by decide) rfl (fun ls hl => ?_)
  exact w_M_take_2 C0 hr  fu _ _ _ _ _ _ h hH (lv_sub hl [1, 2, 0] rfl)
