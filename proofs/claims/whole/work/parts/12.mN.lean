/-! methods of the reference (by program: wip/gen/mgen.py keep part kind length number character order count) -/
theorem yy_M_keep : mo_Y y_M_keep b_M_keep 3 (some .int) 2 := ⟨rfl, q_1332, q_1333, q_1334, by decide +kernel⟩
def f_M_keep_63  (x1 : Int32) (y1 : Int32) (y2 : Int32) (v : mS) : Option (Int32 × mS) := gd (inB y1 8) (nm (sU v 8 (y1 : Int32).toNatClampNeg y2) fun v_2 => gd (inB x1 8) (gd (inB ((v_2 8 (x1 : Int32).toNatClampNeg) + 1) 64000) (some (v_2 6 ((v_2 8 (x1 : Int32).toNatClampNeg) + 1 : Int32).toNatClampNeg, v_2))))
set_option maxHeartbeats 4000000 in
set_option maxRecDepth 100000 in
theorem w_M_keep_63 {p : Program} {l : Launch} {e : Env} {s : State} {m : MethodId} {args : Array Value} {below : List Frame} {meth : Method} {c : Code} {D : va_G} {cI : ClassId} {A : Nat → Prop} {q : Nat → Nat} {o : Int32 × mS} (C0 : mo_C b_M_keep 3 D cI A p s m args meth c) (hr : meth.sig.returnType = (some .int)) : ∀ (x1 : Int32) (y1 : Int32) (y2 : Int32) (v : mS) (H : Heap) (locs : List Loc) (ls : Array Slot), f_M_keep_63  x1 y1 y2 v = some o → mo_H D cI A s q v H locs → lv_has ls 3 [(0, .ref (q 0)), (1, .int x1)] → W p l e (mo_rm 1) s m args below meth c H locs 0 0 (MQ below (mo_Qi D cI q o.1 o.2 A) args s 0 0 A) (F0 m 63 ls [.int y2, .int y1, .ref (q 8)]) := by
  have hx := C0.1
  have hb := C0.2.1
  intro x1 y1 y2 v H locs ls h hH hl
  unfold f_M_keep_63 at h
  obtain ⟨g_1, h⟩ := gd_out h
  obtain ⟨v_2, hv_2, h⟩ := nm_out h
  refine mo_st 8 (by decide) (by decide) C0 hH (inB_in g_1) d_M_keep_63 (fun H locs hH => ?_)
  rw [← hv_2] at hH
  refine lv_aload_n hx hb d_M_keep_64 rfl (lv_at hl 0 rfl) ?_
  refine mo_r_heap C0 hH d_M_keep_65 ?_
  refine lv_aload_n hx hb d_M_keep_68 rfl (lv_at hl 0 rfl) ?_
  refine mo_r_slot C0 hH d_M_keep_69 ?_
  refine lv_iload_n hx hb d_M_keep_72 rfl (lv_at hl 1 rfl) ?_
  obtain ⟨g_3, h⟩ := gd_out h
  refine mo_ld 8 (by decide) (by decide) C0 hH (inB_in g_3) d_M_keep_73 ?_
  refine lv_iconst (v := 1) hx hb d_M_keep_74 (by decide) ?_
  refine lv_iadd hx hb d_M_keep_75 ?_
  obtain ⟨g_4, h⟩ := gd_out h
  refine mo_ld 6 (by decide) (by decide) C0 hH (inB_in g_4) d_M_keep_76 ?_
  exact mo_iret C0 hr hH d_M_keep_77 h
def f_M_keep (v : mS) (x1 : Int32) (x2 : Int32) : Option (Int32 × mS) := nm (sU v 0 0 0) fun v_1 => bi (f_M_within v_1 x1 0 7) fun r_4 v_2 => if r_4 = 0 then (bi (f_M_fail v_2 1) fun r_17 v_15 => some (r_17, v_15)) else (bi (f_M_within v_2 x2 (-1) ((v_2 0 12) - 1)) fun r_8 v_6 => if r_8 = 0 then (bi (f_M_fail v_6 2) fun r_14 v_12 => some (r_14, v_12)) else (if 0 ≤ x2 then (gd (inB x2 17) (f_M_keep_63 x1 x1 (v_6 9 (x2 : Int32).toNatClampNeg) v_6)) else (f_M_keep_63 x1 x1 (v_6 0 13) v_6)))
set_option maxHeartbeats 4000000 in
set_option maxRecDepth 100000 in
theorem c_M_keep {l : Launch} {D : va_G} {cI : ClassId} {q : Nat → Nat} {v : mS} {x1 : Int32} {x2 : Int32} {o : Int32 × mS} (h : f_M_keep v x1 x2 = some o) : mo_M l D cI q 1 y_M_keep b_M_keep 3 (some .int) [.ref (q 0), .int x1, .int x2] v (mo_Qi D cI q o.1 o.2) := by
  refine mo_of (by decide +kernel) rfl (Nat.le_of_ble_eq_true rfl) ?_
  intro p e s m below meth c A ls C0 hr hl hH
  have hx := C0.1
  have hb := C0.2.1
  have hl : lv_has ls 3 [(0, .ref (q 0)), (1, .int x1), (2, .int x2)] := hl
  unfold f_M_keep at h
  refine lv_aload_n hx hb d_M_keep_0 rfl (lv_at hl 0 rfl) ?_
  refine lv_iconst (v := 0) hx hb d_M_keep_1 (by decide) ?_
  obtain ⟨v_1, hv_1, h⟩ := nm_out h
  refine mo_p_code C0 hH d_M_keep_2 (fun H locs hH => ?_)
  rw [← hv_1] at hH
  refine lv_iload_n hx hb d_M_keep_5 rfl (lv_at hl 1 rfl) ?_
  refine lv_iconst (v := 0) hx hb d_M_keep_6 (by decide) ?_
  refine lv_bipush (v := 7) hx hb d_M_keep_7 (by decide) ?_
  obtain ⟨r_4, v_2, hc_3, h⟩ := bi_out h
  refine mo_si (r := r_4) (w := v_2) (as := [.int x1, .int 0, .int 7]) (rest := []) C0 hH (c_M_within hc_3) yy_M_within q_1050 q_109 (by decide) rfl hl.1 rfl (Nat.le_of_ble_eq_true rfl) ⟨Nat.zero_le _, Nat.zero_le _⟩ d_M_keep_9 (fun H locs hH => ?_)
  refine lv_if_ne (tgt := 21) hx hb d_M_keep_12 (by decide) (fun c_5 => ?_) (fun c_5 => ?_)
  · rw [if_neg c_5] at h
    refine lv_iload_n hx hb d_M_keep_21 rfl (lv_at hl 2 rfl) ?_
    refine lv_iconst (v := (-1)) hx hb d_M_keep_22 (by decide) ?_
    refine lv_aload_n hx hb d_M_keep_23 rfl (lv_at hl 0 rfl) ?_
    refine mo_g_outputs C0 hH d_M_keep_24 ?_
    refine lv_iconst (v := 1) hx hb d_M_keep_27 (by decide) ?_
    refine lv_isub hx hb d_M_keep_28 ?_
    obtain ⟨r_8, v_6, hc_7, h⟩ := bi_out h
    refine mo_si (r := r_8) (w := v_6) (as := [.int x2, .int (-1), .int ((v_2 0 12) - 1)]) (rest := []) C0 hH (c_M_within hc_7) yy_M_within q_1050 q_109 (by decide) rfl hl.1 rfl (Nat.le_of_ble_eq_true rfl) ⟨Nat.zero_le _, Nat.zero_le _⟩ d_M_keep_29 (fun H locs hH => ?_)
    refine lv_if_ne (tgt := 41) hx hb d_M_keep_32 (by decide) (fun c_9 => ?_) (fun c_9 => ?_)
    · rw [if_neg c_9] at h
      refine lv_aload_n hx hb d_M_keep_41 rfl (lv_at hl 0 rfl) ?_
      refine mo_r_slot C0 hH d_M_keep_42 ?_
      refine lv_iload_n hx hb d_M_keep_45 rfl (lv_at hl 1 rfl) ?_
      refine lv_iload_n hx hb d_M_keep_46 rfl (lv_at hl 2 rfl) ?_
      refine lv_if_ge (tgt := 57) hx hb d_M_keep_47 (by decide) (fun c_10 => ?_) (fun c_10 => ?_)
      · rw [if_pos c_10] at h
        refine lv_aload_n hx hb d_M_keep_57 rfl (lv_at hl 0 rfl) ?_
        refine mo_r_output C0 hH d_M_keep_58 ?_
        refine lv_iload_n hx hb d_M_keep_61 rfl (lv_at hl 2 rfl) ?_
        obtain ⟨g_11, h⟩ := gd_out h
        refine mo_ld 9 (by decide) (by decide) C0 hH (inB_in g_11) d_M_keep_62 ?_
        exact w_M_keep_63 C0 hr  _ _ _ _ _ _ _ h hH (lv_sub hl [0, 1] rfl)
      · rw [if_neg c_10] at h
        refine lv_aload_n hx hb d_M_keep_50 rfl (lv_at hl 0 rfl) ?_
        refine mo_g_fault C0 hH d_M_keep_51 ?_
        refine lv_goto (tgt := 63) hx hb d_M_keep_54 (by decide) ?_
        exact w_M_keep_63 C0 hr  _ _ _ _ _ _ _ h hH (lv_sub hl [0, 1] rfl)
    · rw [if_pos c_9] at h
      refine lv_aload_n hx hb d_M_keep_35 rfl (lv_at hl 0 rfl) ?_
      refine lv_iconst (v := 2) hx hb d_M_keep_36 (by decide) ?_
      obtain ⟨r_14, v_12, hc_13, h⟩ := bi_out h
      refine mo_ci (r := r_14) (w := v_12) (as := [.int 2]) (rest := []) C0 hH (c_M_fail hc_13) yy_M_fail q_1053 q_109 (by decide) rfl hl.1 rfl (Nat.le_of_ble_eq_true rfl) ⟨Nat.zero_le _, Nat.zero_le _⟩ d_M_keep_37 (fun H locs hH => ?_)
      exact mo_iret C0 hr hH d_M_keep_40 h
  · rw [if_pos c_5] at h
    refine lv_aload_n hx hb d_M_keep_15 rfl (lv_at hl 0 rfl) ?_
    refine lv_iconst (v := 1) hx hb d_M_keep_16 (by decide) ?_
    obtain ⟨r_17, v_15, hc_16, h⟩ := bi_out h
    refine mo_ci (r := r_17) (w := v_15) (as := [.int 1]) (rest := []) C0 hH (c_M_fail hc_16) yy_M_fail q_1053 q_109 (by decide) rfl hl.1 rfl (Nat.le_of_ble_eq_true rfl) ⟨Nat.zero_le _, Nat.zero_le _⟩ d_M_keep_17 (fun H locs hH => ?_)
    exact mo_iret C0 hr hH d_M_keep_20 h
theorem yy_M_part : mo_Y y_M_part b_M_part 6 (some .int) 2 := ⟨rfl, q_1341, q_101, q_1342, by decide +kernel⟩
def f_M_part_182 (K71 : Int32 → mS → Option (Int32 × mS)) (K145 : Int32 → Int32 → Int32 → mS → Option (Int32 × mS)) (x3 : Int32) (x4 : Int32) (x5 : Int32) (y1 : Int32) (y2 : Int32) (v : mS) : Option (Int32 × mS) := bv (f_M_pair v y1 y2) fun v_1 => nm (x5 + (-1)) fun x5_3 => K145 x3 x4 x5_3 v_1
set_option maxHeartbeats 4000000 in
set_option maxRecDepth 100000 in
theorem w_M_part_182 {p : Program} {l : Launch} {e : Env} {s : State} {m : MethodId} {args : Array Value} {below : List Frame} {meth : Method} {c : Code} {D : va_G} {cI : ClassId} {A : Nat → Prop} {q : Nat → Nat} {o : Int32 × mS} (C0 : mo_C b_M_part 6 D cI A p s m args meth c) (hr : meth.sig.returnType = (some .int)) {K71 : Int32 → mS → Option (Int32 × mS)} (hK71 : ∀ (x3 : Int32) (v : mS) (H : Heap) (locs : List Loc) (ls : Array Slot), K71 x3 v = some o → mo_H D cI A s q v H locs → lv_has ls 6 [(0, .ref (q 0)), (3, .int x3)] → W p l e (mo_rm 1) s m args below meth c H locs 0 0 (MQ below (mo_Qi D cI q o.1 o.2 A) args s 0 0 A) (F0 m 71 ls [])) {K145 : Int32 → Int32 → Int32 → mS → Option (Int32 × mS)} (hK145 : ∀ (x3 : Int32) (x4 : Int32) (x5 : Int32) (v : mS) (H : Heap) (locs : List Loc) (ls : Array Slot), K145 x3 x4 x5 v = some o → mo_H D cI A s q v H locs → lv_has ls 6 [(0, .ref (q 0)), (3, .int x3), (4, .int x4), (5, .int x5)] → W p l e (mo_rm 1) s m args below meth c H locs 0 0 (MQ below (mo_Qi D cI q o.1 o.2 A) args s 0 0 A) (F0 m 145 ls [])) : ∀ (x3 : Int32) (x4 : Int32) (x5 : Int32) (y1 : Int32) (y2 : Int32) (v : mS) (H : Heap) (locs : List Loc) (ls : Array Slot), f_M_part_182 K71 K145 x3 x4 x5 y1 y2 v = some o → mo_H D cI A s q v H locs → lv_has ls 6 [(0, .ref (q 0)), (3, .int x3), (4, .int x4), (5, .int x5)] → W p l e (mo_rm 1) s m args below meth c H locs 0 0 (MQ below (mo_Qi D cI q o.1 o.2 A) args s 0 0 A) (F0 m 182 ls [.int y2, .int y1, .ref (q 0)]) := by
  have hx := C0.1
  have hb := C0.2.1
  intro x3 x4 x5 y1 y2 v H locs ls h hH hl
  unfold f_M_part_182 at h
  obtain ⟨v_1, hc_2, h⟩ := bv_out h
  refine mo_cv (w := v_1) (as := [.int y1, .int y2]) (rest := []) C0 hH (c_M_pair hc_2) yy_M_pair q_1087 q_109 (by decide) rfl hl.1 rfl (Nat.le_of_ble_eq_true rfl) ⟨Nat.zero_le _, Nat.zero_le _⟩ d_M_part_182 (fun H locs hH => ?_)
  obtain ⟨x5_3, hx5_3, h⟩ := nm_out h
  refine lv_iinc (v := x5_3) (lv' := [(5, .int x5_3), (0, .ref (q 0)), (3, .int x3), (4, .int x4)]) hx hb d_M_part_185 hl (k := 3) rfl (by rw [hx5_3]; rfl) (by decide) rfl (fun ls hl => ?_)
  refine lv_goto (tgt := 145) hx hb d_M_part_188 (by decide) ?_
  exact hK145 _ _ _ _ _ _ _ h hH (lv_sub hl [1, 2, 3, 0] rfl)
def f_M_part_145 (K71 : Int32 → mS → Option (Int32 × mS)) : Nat → Int32 → Int32 → Int32 → mS → Option (Int32 × mS)
  | 0, _, _, _, _ => none
  | n + 1, x3, x4, x5, v => if x5 < 0 then (K71 x3 v) else (bi (f_M_item v x4 x5) fun r_4 v_2 => bi (f_M_kindOf v_2 x4) fun r_7 v_5 => if r_7 = 6 then (bi (f_M_name v_5 x4 x5) fun r_11 v_9 => f_M_part_182 K71 (f_M_part_145 K71 n) x3 x4 x5 r_4 r_11 v_9) else (f_M_part_182 K71 (f_M_part_145 K71 n) x3 x4 x5 r_4 0 v_5))
set_option maxHeartbeats 4000000 in
set_option maxRecDepth 100000 in
theorem w_M_part_145 {p : Program} {l : Launch} {e : Env} {s : State} {m : MethodId} {args : Array Value} {below : List Frame} {meth : Method} {c : Code} {D : va_G} {cI : ClassId} {A : Nat → Prop} {q : Nat → Nat} {o : Int32 × mS} (C0 : mo_C b_M_part 6 D cI A p s m args meth c) (hr : meth.sig.returnType = (some .int)) {K71 : Int32 → mS → Option (Int32 × mS)} (hK71 : ∀ (x3 : Int32) (v : mS) (H : Heap) (locs : List Loc) (ls : Array Slot), K71 x3 v = some o → mo_H D cI A s q v H locs → lv_has ls 6 [(0, .ref (q 0)), (3, .int x3)] → W p l e (mo_rm 1) s m args below meth c H locs 0 0 (MQ below (mo_Qi D cI q o.1 o.2 A) args s 0 0 A) (F0 m 71 ls [])) : ∀ (n : Nat) (x3 : Int32) (x4 : Int32) (x5 : Int32) (v : mS) (H : Heap) (locs : List Loc) (ls : Array Slot), f_M_part_145 K71 n x3 x4 x5 v = some o → mo_H D cI A s q v H locs → lv_has ls 6 [(0, .ref (q 0)), (3, .int x3), (4, .int x4), (5, .int x5)] → W p l e (mo_rm 1) s m args below meth c H locs 0 0 (MQ below (mo_Qi D cI q o.1 o.2 A) args s 0 0 A) (F0 m 145 ls []) := by
  have hx := C0.1
  have hb := C0.2.1
  intro n
  induction n with
  | zero =>
    intro x3 x4 x5 v H locs ls h hH hl
    cases h
  | succ n ih =>
    intro x3 x4 x5 v H locs ls h hH hl
    rw [f_M_part_145] at h
    refine lv_iload hx hb d_M_part_145 (lv_at hl 3 rfl) ?_
    refine lv_if_lt (tgt := 191) hx hb d_M_part_147 (by decide) (fun c_1 => ?_) (fun c_1 => ?_)
    · rw [if_pos c_1] at h
      refine lv_goto (tgt := 71) hx hb d_M_part_191 (by decide) ?_
      exact hK71 _ _ _ _ _ h hH (lv_sub hl [0, 1] rfl)
    · rw [if_neg c_1] at h
      refine lv_aload_n hx hb d_M_part_150 rfl (lv_at hl 0 rfl) ?_
      refine lv_aload_n hx hb d_M_part_151 rfl (lv_at hl 0 rfl) ?_
      refine lv_iload hx hb d_M_part_152 (lv_at hl 2 rfl) ?_
      refine lv_iload hx hb d_M_part_154 (lv_at hl 3 rfl) ?_
      obtain ⟨r_4, v_2, hc_3, h⟩ := bi_out h
      refine mo_ci (r := r_4) (w := v_2) (as := [.int x4, .int x5]) (rest := [.ref (q 0)]) C0 hH (c_M_item hc_3) yy_M_item q_1142 q_109 (by decide) rfl hl.1 rfl (Nat.le_of_ble_eq_true rfl) ⟨Nat.zero_le _, Nat.zero_le _⟩ d_M_part_156 (fun H locs hH => ?_)
      refine lv_aload_n hx hb d_M_part_159 rfl (lv_at hl 0 rfl) ?_
      refine lv_iload hx hb d_M_part_160 (lv_at hl 2 rfl) ?_
      obtain ⟨r_7, v_5, hc_6, h⟩ := bi_out h
      refine mo_ci (r := r_7) (w := v_5) (as := [.int x4]) (rest := [.int r_4, .ref (q 0)]) C0 hH (c_M_kindOf hc_6) yy_M_kindOf q_1107 q_109 (by decide) rfl hl.1 rfl (Nat.le_of_ble_eq_true rfl) ⟨Nat.zero_le _, Nat.zero_le _⟩ d_M_part_162 (fun H locs hH => ?_)
      refine lv_bipush (v := 6) hx hb d_M_part_165 (by decide) ?_
      refine lv_icmp_ne (tgt := 181) hx hb d_M_part_167 (by decide) (fun c_8 => ?_) (fun c_8 => ?_)
      · rw [if_neg c_8] at h
        refine lv_iconst (v := 0) hx hb d_M_part_181 (by decide) ?_
        exact w_M_part_182 C0 hr hK71 ih _ _ _ _ _ _ _ _ _ h hH (lv_sub hl [0, 1, 2, 3] rfl)
      · rw [if_pos c_8] at h
        refine lv_aload_n hx hb d_M_part_170 rfl (lv_at hl 0 rfl) ?_
        refine lv_iload hx hb d_M_part_171 (lv_at hl 2 rfl) ?_
        refine lv_iload hx hb d_M_part_173 (lv_at hl 3 rfl) ?_
        obtain ⟨r_11, v_9, hc_10, h⟩ := bi_out h
        refine mo_ci (r := r_11) (w := v_9) (as := [.int x4, .int x5]) (rest := [.int r_4, .ref (q 0)]) C0 hH (c_M_name hc_10) yy_M_name q_1131 q_109 (by decide) rfl hl.1 rfl (Nat.le_of_ble_eq_true rfl) ⟨Nat.zero_le _, Nat.zero_le _⟩ d_M_part_175 (fun H locs hH => ?_)
        refine lv_goto (tgt := 182) hx hb d_M_part_178 (by decide) ?_
        exact w_M_part_182 C0 hr hK71 ih _ _ _ _ _ _ _ _ _ h hH (lv_sub hl [0, 1, 2, 3] rfl)
def f_M_part_71  : Nat → Int32 → mS → Option (Int32 × mS)
  | 0, _, _ => none
  | n + 1, x3, v => if x3 < 0 then (some ((-1), v)) else (nm (sU v 0 18 ((v 0 18) - 1)) fun v_2 => gd (inB (v_2 0 18) 400) (nm (v_2 12 (v_2 0 18 : Int32).toNatClampNeg) fun x4_4 => gd (inB (v_2 0 18) 400) (gd (inB 62 64) (nm (sU v_2 10 (62 : Int32).toNatClampNeg (v_2 13 (v_2 0 18 : Int32).toNatClampNeg)) fun v_7 => if x3 = 0 then (some (x4_4, v_7)) else (nm (x3 + (-1)) fun x3_9 => bi (f_M_kindOf v_7 x4_4) fun r_12 v_10 => if 5 ≤ r_12 then (bi (f_M_size v_10 x4_4) fun r_16 v_14 => nm (r_16 - 1) fun x5_17 => f_M_part_145 (f_M_part_71 n) fu x3_9 x4_4 x5_17 v_14) else (f_M_part_71 n x3_9 v_10))))))
set_option maxHeartbeats 4000000 in
set_option maxRecDepth 100000 in
theorem w_M_part_71 {p : Program} {l : Launch} {e : Env} {s : State} {m : MethodId} {args : Array Value} {below : List Frame} {meth : Method} {c : Code} {D : va_G} {cI : ClassId} {A : Nat → Prop} {q : Nat → Nat} {o : Int32 × mS} (C0 : mo_C b_M_part 6 D cI A p s m args meth c) (hr : meth.sig.returnType = (some .int)) : ∀ (n : Nat) (x3 : Int32) (v : mS) (H : Heap) (locs : List Loc) (ls : Array Slot), f_M_part_71  n x3 v = some o → mo_H D cI A s q v H locs → lv_has ls 6 [(0, .ref (q 0)), (3, .int x3)] → W p l e (mo_rm 1) s m args below meth c H locs 0 0 (MQ below (mo_Qi D cI q o.1 o.2 A) args s 0 0 A) (F0 m 71 ls []) := by
  have hx := C0.1
  have hb := C0.2.1
  intro n
  induction n with
  | zero =>
    intro x3 v H locs ls h hH hl
    cases h
  | succ n ih =>
    intro x3 v H locs ls h hH hl
    rw [f_M_part_71] at h
    refine lv_iload_n hx hb d_M_part_71 rfl (lv_at hl 1 rfl) ?_
    refine lv_if_lt (tgt := 194) hx hb d_M_part_72 (by decide) (fun c_1 => ?_) (fun c_1 => ?_)
    · rw [if_pos c_1] at h
      refine lv_iconst (v := (-1)) hx hb d_M_part_194 (by decide) ?_
      exact mo_iret C0 hr hH d_M_part_195 h
    · rw [if_neg c_1] at h
      refine lv_aload_n hx hb d_M_part_75 rfl (lv_at hl 0 rfl) ?_
      refine lv_dup hx hb d_M_part_76 rfl ?_
      refine mo_g_depth C0 hH d_M_part_77 ?_
      refine lv_iconst (v := 1) hx hb d_M_part_80 (by decide) ?_
      refine lv_isub hx hb d_M_part_81 ?_
      obtain ⟨v_2, hv_2, h⟩ := nm_out h
      refine mo_p_depth C0 hH d_M_part_82 (fun H locs hH => ?_)
      rw [← hv_2] at hH
      refine lv_aload_n hx hb d_M_part_85 rfl (lv_at hl 0 rfl) ?_
      refine mo_r_stack C0 hH d_M_part_86 ?_
      refine lv_aload_n hx hb d_M_part_89 rfl (lv_at hl 0 rfl) ?_
      refine mo_g_depth C0 hH d_M_part_90 ?_
      obtain ⟨g_3, h⟩ := gd_out h
      refine mo_ld 12 (by decide) (by decide) C0 hH (inB_in g_3) d_M_part_93 ?_
      obtain ⟨x4_4, hx4_4, h⟩ := nm_out h
      refine fu_i hx4_4 ?_
      refine lv_istore (lv' := [(4, .int x4_4), (0, .ref (q 0)), (3, .int x3)]) hx hb d_M_part_94 hl (by decide) rfl (fun ls hl => ?_)
      refine lv_aload_n hx hb d_M_part_96 rfl (lv_at hl 1 rfl) ?_
      refine mo_r_items C0 hH d_M_part_97 ?_
      refine lv_bipush (v := 62) hx hb d_M_part_100 (by decide) ?_
      refine lv_aload_n hx hb d_M_part_102 rfl (lv_at hl 1 rfl) ?_
      refine mo_r_other C0 hH d_M_part_103 ?_
      refine lv_aload_n hx hb d_M_part_106 rfl (lv_at hl 1 rfl) ?_
      refine mo_g_depth C0 hH d_M_part_107 ?_
      obtain ⟨g_5, h⟩ := gd_out h
      refine mo_ld 13 (by decide) (by decide) C0 hH (inB_in g_5) d_M_part_110 ?_
      obtain ⟨g_6, h⟩ := gd_out h
      obtain ⟨v_7, hv_7, h⟩ := nm_out h
      refine mo_st 10 (by decide) (by decide) C0 hH (inB_in g_6) d_M_part_111 (fun H locs hH => ?_)
      rw [← hv_7] at hH
      refine lv_iload_n hx hb d_M_part_112 rfl (lv_at hl 2 rfl) ?_
      refine lv_if_ne (tgt := 119) hx hb d_M_part_113 (by decide) (fun c_8 => ?_) (fun c_8 => ?_)
      · rw [if_neg c_8] at h
        obtain ⟨x3_9, hx3_9, h⟩ := nm_out h
        refine lv_iinc (v := x3_9) (lv' := [(3, .int x3_9), (4, .int x4_4), (0, .ref (q 0))]) hx hb d_M_part_119 hl (k := 2) rfl (by rw [hx3_9]; rfl) (by decide) rfl (fun ls hl => ?_)
        refine lv_aload_n hx hb d_M_part_122 rfl (lv_at hl 2 rfl) ?_
        refine lv_iload hx hb d_M_part_123 (lv_at hl 1 rfl) ?_
        obtain ⟨r_12, v_10, hc_11, h⟩ := bi_out h
        refine mo_ci (r := r_12) (w := v_10) (as := [.int x4_4]) (rest := []) C0 hH (c_M_kindOf hc_11) yy_M_kindOf q_1107 q_109 (by decide) rfl hl.1 rfl (Nat.le_of_ble_eq_true rfl) ⟨Nat.zero_le _, Nat.zero_le _⟩ d_M_part_125 (fun H locs hH => ?_)
        refine lv_iconst (v := 5) hx hb d_M_part_128 (by decide) ?_
        refine lv_icmp_ge (tgt := 135) hx hb d_M_part_129 (by decide) (fun c_13 => ?_) (fun c_13 => ?_)
        · rw [if_pos c_13] at h
          refine lv_aload_n hx hb d_M_part_135 rfl (lv_at hl 2 rfl) ?_
          refine lv_iload hx hb d_M_part_136 (lv_at hl 1 rfl) ?_
          obtain ⟨r_16, v_14, hc_15, h⟩ := bi_out h
          refine mo_ci (r := r_16) (w := v_14) (as := [.int x4_4]) (rest := []) C0 hH (c_M_size hc_15) yy_M_size q_1127 q_109 (by decide) rfl hl.1 rfl (Nat.le_of_ble_eq_true rfl) ⟨Nat.zero_le _, Nat.zero_le _⟩ d_M_part_138 (fun H locs hH => ?_)
          refine lv_iconst (v := 1) hx hb d_M_part_141 (by decide) ?_
          refine lv_isub hx hb d_M_part_142 ?_
          obtain ⟨x5_17, hx5_17, h⟩ := nm_out h
          refine fu_i hx5_17 ?_
          refine lv_istore (lv' := [(5, .int x5_17), (3, .int x3_9), (4, .int x4_4), (0, .ref (q 0))]) hx hb d_M_part_143 hl (by decide) rfl (fun ls hl => ?_)
          exact w_M_part_145 C0 hr ih fu _ _ _ _ _ _ _ h hH (lv_sub hl [3, 1, 2, 0] rfl)
        · rw [if_neg c_13] at h
          refine lv_goto (tgt := 71) hx hb d_M_part_132 (by decide) ?_
          exact ih _ _ _ _ _ h hH (lv_sub hl [2, 0] rfl)
      · rw [if_pos c_8] at h
        refine lv_iload hx hb d_M_part_116 (lv_at hl 0 rfl) ?_
        exact mo_iret C0 hr hH d_M_part_118 h
def f_M_part_41  (x1 : Int32) (x2 : Int32) (y1 : Int32) (v : mS) : Option (Int32 × mS) := nm (sU v 0 0 y1) fun v_1 => if (v_1 0 0) = 0 then (nm (sU v_1 0 18 0) fun v_3 => gd (inB x1 8) (bv (f_M_pair v_3 (v_3 8 (x1 : Int32).toNatClampNeg) 0) fun v_5 => f_M_part_71 fu x2 v_5)) else (some ((-1), v_1))
set_option maxHeartbeats 4000000 in
set_option maxRecDepth 100000 in
theorem w_M_part_41 {p : Program} {l : Launch} {e : Env} {s : State} {m : MethodId} {args : Array Value} {below : List Frame} {meth : Method} {c : Code} {D : va_G} {cI : ClassId} {A : Nat → Prop} {q : Nat → Nat} {o : Int32 × mS} (C0 : mo_C b_M_part 6 D cI A p s m args meth c) (hr : meth.sig.returnType = (some .int)) : ∀ (x1 : Int32) (x2 : Int32) (y1 : Int32) (v : mS) (H : Heap) (locs : List Loc) (ls : Array Slot), f_M_part_41  x1 x2 y1 v = some o → mo_H D cI A s q v H locs → lv_has ls 6 [(0, .ref (q 0)), (1, .int x1), (2, .int x2)] → W p l e (mo_rm 1) s m args below meth c H locs 0 0 (MQ below (mo_Qi D cI q o.1 o.2 A) args s 0 0 A) (F0 m 41 ls [.int y1, .ref (q 0)]) := by
  have hx := C0.1
  have hb := C0.2.1
  intro x1 x2 y1 v H locs ls h hH hl
  unfold f_M_part_41 at h
  obtain ⟨v_1, hv_1, h⟩ := nm_out h
  refine mo_p_code C0 hH d_M_part_41 (fun H locs hH => ?_)
  rw [← hv_1] at hH
  refine lv_aload_n hx hb d_M_part_44 rfl (lv_at hl 0 rfl) ?_
  refine mo_g_code C0 hH d_M_part_45 ?_
  refine lv_if_eq (tgt := 53) hx hb d_M_part_48 (by decide) (fun c_2 => ?_) (fun c_2 => ?_)
  · rw [if_pos c_2] at h
    refine lv_aload_n hx hb d_M_part_53 rfl (lv_at hl 0 rfl) ?_
    refine lv_iconst (v := 0) hx hb d_M_part_54 (by decide) ?_
    obtain ⟨v_3, hv_3, h⟩ := nm_out h
    refine mo_p_depth C0 hH d_M_part_55 (fun H locs hH => ?_)
    rw [← hv_3] at hH
    refine lv_aload_n hx hb d_M_part_58 rfl (lv_at hl 0 rfl) ?_
    refine lv_aload_n hx hb d_M_part_59 rfl (lv_at hl 0 rfl) ?_
    refine mo_r_slot C0 hH d_M_part_60 ?_
    refine lv_iload_n hx hb d_M_part_63 rfl (lv_at hl 1 rfl) ?_
    obtain ⟨g_4, h⟩ := gd_out h
    refine mo_ld 8 (by decide) (by decide) C0 hH (inB_in g_4) d_M_part_64 ?_
    refine lv_iconst (v := 0) hx hb d_M_part_65 (by decide) ?_
    obtain ⟨v_5, hc_6, h⟩ := bv_out h
    refine mo_cv (w := v_5) (as := [.int (v_3 8 (x1 : Int32).toNatClampNeg), .int 0]) (rest := []) C0 hH (c_M_pair hc_6) yy_M_pair q_1087 q_109 (by decide) rfl hl.1 rfl (Nat.le_of_ble_eq_true rfl) ⟨Nat.zero_le _, Nat.zero_le _⟩ d_M_part_66 (fun H locs hH => ?_)
    refine lv_iload_n hx hb d_M_part_69 rfl (lv_at hl 2 rfl) ?_
    refine lv_istore_n (lv' := [(3, .int x2), (0, .ref (q 0)), (1, .int x1), (2, .int x2)]) hx hb d_M_part_70 rfl hl (by decide) rfl (fun ls hl => ?_)
    exact w_M_part_71 C0 hr  fu _ _ _ _ _ h hH (lv_sub hl [1, 0] rfl)
  · rw [if_neg c_2] at h
    refine lv_iconst (v := (-1)) hx hb d_M_part_51 (by decide) ?_
    exact mo_iret C0 hr hH d_M_part_52 h
def f_M_part_36  (x1 : Int32) (x2 : Int32) (v : mS) : Option (Int32 × mS) := f_M_part_41 x1 x2 2 v
set_option maxHeartbeats 4000000 in
set_option maxRecDepth 100000 in
theorem w_M_part_36 {p : Program} {l : Launch} {e : Env} {s : State} {m : MethodId} {args : Array Value} {below : List Frame} {meth : Method} {c : Code} {D : va_G} {cI : ClassId} {A : Nat → Prop} {q : Nat → Nat} {o : Int32 × mS} (C0 : mo_C b_M_part 6 D cI A p s m args meth c) (hr : meth.sig.returnType = (some .int)) : ∀ (x1 : Int32) (x2 : Int32) (v : mS) (H : Heap) (locs : List Loc) (ls : Array Slot), f_M_part_36  x1 x2 v = some o → mo_H D cI A s q v H locs → lv_has ls 6 [(0, .ref (q 0)), (1, .int x1), (2, .int x2)] → W p l e (mo_rm 1) s m args below meth c H locs 0 0 (MQ below (mo_Qi D cI q o.1 o.2 A) args s 0 0 A) (F0 m 36 ls [.ref (q 0)]) := by
  have hx := C0.1
  have hb := C0.2.1
  intro x1 x2 v H locs ls h hH hl
  unfold f_M_part_36 at h
  refine lv_iconst (v := 2) hx hb d_M_part_36 (by decide) ?_
  refine lv_goto (tgt := 41) hx hb d_M_part_37 (by decide) ?_
  exact w_M_part_41 C0 hr  _ _ _ _ _ _ _ h hH (lv_sub hl [0, 1, 2] rfl)
def f_M_part (v : mS) (x1 : Int32) (x2 : Int32) : Option (Int32 × mS) := bi (f_M_within v x1 0 7) fun r_3 v_1 => if r_3 = 0 then (f_M_part_41 x1 x2 1 v_1) else (if x2 < 0 then (f_M_part_36 x1 x2 v_1) else (gd (inB x1 8) (gd (inB ((v_1 8 (x1 : Int32).toNatClampNeg) + 1) 64000) (if x2 < (v_1 6 ((v_1 8 (x1 : Int32).toNatClampNeg) + 1 : Int32).toNatClampNeg) then (f_M_part_41 x1 x2 0 v_1) else (f_M_part_36 x1 x2 v_1)))))
set_option maxHeartbeats 4000000 in
set_option maxRecDepth 100000 in
theorem c_M_part {l : Launch} {D : va_G} {cI : ClassId} {q : Nat → Nat} {v : mS} {x1 : Int32} {x2 : Int32} {o : Int32 × mS} (h : f_M_part v x1 x2 = some o) : mo_M l D cI q 1 y_M_part b_M_part 6 (some .int) [.ref (q 0), .int x1, .int x2] v (mo_Qi D cI q o.1 o.2) := by
  refine mo_of (by decide +kernel) rfl (Nat.le_of_ble_eq_true rfl) ?_
  intro p e s m below meth c A ls C0 hr hl hH
  have hx := C0.1
  have hb := C0.2.1
  have hl : lv_has ls 6 [(0, .ref (q 0)), (1, .int x1), (2, .int x2)] := hl
  unfold f_M_part at h
  refine lv_aload_n hx hb d_M_part_0 rfl (lv_at hl 0 rfl) ?_
  refine lv_iload_n hx hb d_M_part_1 rfl (lv_at hl 1 rfl) ?_
  refine lv_iconst (v := 0) hx hb d_M_part_2 (by decide) ?_
  refine lv_bipush (v := 7) hx hb d_M_part_3 (by decide) ?_
  obtain ⟨r_3, v_1, hc_2, h⟩ := bi_out h
  refine mo_si (r := r_3) (w := v_1) (as := [.int x1, .int 0, .int 7]) (rest := [.ref (q 0)]) C0 hH (c_M_within hc_2) yy_M_within q_1050 q_109 (by decide) rfl hl.1 rfl (Nat.le_of_ble_eq_true rfl) ⟨Nat.zero_le _, Nat.zero_le _⟩ d_M_part_5 (fun H locs hH => ?_)
  refine lv_if_ne (tgt := 15) hx hb d_M_part_8 (by decide) (fun c_4 => ?_) (fun c_4 => ?_)
  · rw [if_neg c_4] at h
    refine lv_iload_n hx hb d_M_part_15 rfl (lv_at hl 2 rfl) ?_
    refine lv_if_lt (tgt := 36) hx hb d_M_part_16 (by decide) (fun c_5 => ?_) (fun c_5 => ?_)
    · rw [if_pos c_5] at h
      exact w_M_part_36 C0 hr  _ _ _ _ _ _ h hH (lv_sub hl [0, 1, 2] rfl)
    · rw [if_neg c_5] at h
      refine lv_iload_n hx hb d_M_part_19 rfl (lv_at hl 2 rfl) ?_
      refine lv_aload_n hx hb d_M_part_20 rfl (lv_at hl 0 rfl) ?_
      refine mo_r_heap C0 hH d_M_part_21 ?_
      refine lv_aload_n hx hb d_M_part_24 rfl (lv_at hl 0 rfl) ?_
      refine mo_r_slot C0 hH d_M_part_25 ?_
      refine lv_iload_n hx hb d_M_part_28 rfl (lv_at hl 1 rfl) ?_
      obtain ⟨g_6, h⟩ := gd_out h
      refine mo_ld 8 (by decide) (by decide) C0 hH (inB_in g_6) d_M_part_29 ?_
      refine lv_iconst (v := 1) hx hb d_M_part_30 (by decide) ?_
      refine lv_iadd hx hb d_M_part_31 ?_
      obtain ⟨g_7, h⟩ := gd_out h
      refine mo_ld 6 (by decide) (by decide) C0 hH (inB_in g_7) d_M_part_32 ?_
      refine lv_icmp_lt (tgt := 40) hx hb d_M_part_33 (by decide) (fun c_8 => ?_) (fun c_8 => ?_)
      · rw [if_pos c_8] at h
        refine lv_iconst (v := 0) hx hb d_M_part_40 (by decide) ?_
        exact w_M_part_41 C0 hr  _ _ _ _ _ _ _ h hH (lv_sub hl [0, 1, 2] rfl)
      · rw [if_neg c_8] at h
        exact w_M_part_36 C0 hr  _ _ _ _ _ _ h hH (lv_sub hl [0, 1, 2] rfl)
  · rw [if_pos c_4] at h
    refine lv_iconst (v := 1) hx hb d_M_part_11 (by decide) ?_
    refine lv_goto (tgt := 41) hx hb d_M_part_12 (by decide) ?_
    exact w_M_part_41 C0 hr  _ _ _ _ _ _ _ h hH (lv_sub hl [0, 1, 2] rfl)
theorem yy_M_kind : mo_Y y_M_kind b_M_kind 4 (some .int) 2 := ⟨rfl, q_1336, q_1337, q_1338, by decide +kernel⟩
def f_M_kind_20  (y0 : Int32) (v : mS) : Option (Int32 × mS) := some (y0, v)
set_option maxHeartbeats 4000000 in
set_option maxRecDepth 100000 in
theorem w_M_kind_20 {p : Program} {l : Launch} {e : Env} {s : State} {m : MethodId} {args : Array Value} {below : List Frame} {meth : Method} {c : Code} {D : va_G} {cI : ClassId} {A : Nat → Prop} {q : Nat → Nat} {o : Int32 × mS} (C0 : mo_C b_M_kind 4 D cI A p s m args meth c) (hr : meth.sig.returnType = (some .int)) : ∀ (y0 : Int32) (v : mS) (H : Heap) (locs : List Loc) (ls : Array Slot), f_M_kind_20  y0 v = some o → mo_H D cI A s q v H locs → lv_has ls 4 [] → W p l e (mo_rm 2) s m args below meth c H locs 0 0 (MQ below (mo_Qi D cI q o.1 o.2 A) args s 0 0 A) (F0 m 20 ls [.int y0]) := by
  have hx := C0.1
  have hb := C0.2.1
  intro y0 v H locs ls h hH hl
  unfold f_M_kind_20 at h
  exact mo_iret C0 hr hH d_M_kind_20 h
def f_M_kind (v : mS) (x1 : Int32) (x2 : Int32) : Option (Int32 × mS) := bi (f_M_part v x1 x2) fun r_3 v_1 => if 0 ≤ r_3 then (bi (f_M_kindOf v_1 r_3) fun r_7 v_5 => f_M_kind_20 r_7 v_5) else (f_M_kind_20 0 v_1)
set_option maxHeartbeats 4000000 in
set_option maxRecDepth 100000 in
theorem c_M_kind {l : Launch} {D : va_G} {cI : ClassId} {q : Nat → Nat} {v : mS} {x1 : Int32} {x2 : Int32} {o : Int32 × mS} (h : f_M_kind v x1 x2 = some o) : mo_M l D cI q 2 y_M_kind b_M_kind 4 (some .int) [.ref (q 0), .int x1, .int x2] v (mo_Qi D cI q o.1 o.2) := by
  refine mo_of (by decide +kernel) rfl (Nat.le_of_ble_eq_true rfl) ?_
  intro p e s m below meth c A ls C0 hr hl hH
  have hx := C0.1
  have hb := C0.2.1
  have hl : lv_has ls 4 [(0, .ref (q 0)), (1, .int x1), (2, .int x2)] := hl
  unfold f_M_kind at h
  refine lv_aload_n hx hb d_M_kind_0 rfl (lv_at hl 0 rfl) ?_
  refine lv_iload_n hx hb d_M_kind_1 rfl (lv_at hl 1 rfl) ?_
  refine lv_iload_n hx hb d_M_kind_2 rfl (lv_at hl 2 rfl) ?_
  obtain ⟨r_3, v_1, hc_2, h⟩ := bi_out h
  refine mo_ci (r := r_3) (w := v_1) (as := [.int x1, .int x2]) (rest := []) C0 hH (c_M_part hc_2) yy_M_part q_1339 q_109 (by decide) rfl hl.1 rfl (Nat.le_of_ble_eq_true rfl) ⟨Nat.zero_le _, Nat.zero_le _⟩ d_M_kind_3 (fun H locs hH => ?_)
  refine lv_istore_n (lv' := [(3, .int r_3), (0, .ref (q 0)), (1, .int x1), (2, .int x2)]) hx hb d_M_kind_6 rfl hl (by decide) rfl (fun ls hl => ?_)
  refine lv_iload_n hx hb d_M_kind_7 rfl (lv_at hl 0 rfl) ?_
  refine lv_if_ge (tgt := 15) hx hb d_M_kind_8 (by decide) (fun c_4 => ?_) (fun c_4 => ?_)
  · rw [if_pos c_4] at h
    refine lv_aload_n hx hb d_M_kind_15 rfl (lv_at hl 1 rfl) ?_
    refine lv_iload_n hx hb d_M_kind_16 rfl (lv_at hl 0 rfl) ?_
    obtain ⟨r_7, v_5, hc_6, h⟩ := bi_out h
    refine mo_ci (r := r_7) (w := v_5) (as := [.int r_3]) (rest := []) C0 hH (c_M_kindOf hc_6) yy_M_kindOf q_1107 q_109 (by decide) rfl hl.1 rfl (Nat.le_of_ble_eq_true rfl) ⟨Nat.zero_le _, Nat.zero_le _⟩ d_M_kind_17 (fun H locs hH => ?_)
    exact w_M_kind_20 C0 hr  _ _ _ _ _ h hH (lv_sub hl [] rfl)
  · rw [if_neg c_4] at h
    refine lv_iconst (v := 0) hx hb d_M_kind_11 (by decide) ?_
    refine lv_goto (tgt := 20) hx hb d_M_kind_12 (by decide) ?_
    exact w_M_kind_20 C0 hr  _ _ _ _ _ h hH (lv_sub hl [] rfl)
theorem yy_M_length : mo_Y y_M_length b_M_length 4 (some .int) 2 := ⟨rfl, q_1344, q_1345, q_1346, by decide +kernel⟩
def f_M_length_29  (y0 : Int32) (v : mS) : Option (Int32 × mS) := some (y0, v)
set_option maxHeartbeats 4000000 in
set_option maxRecDepth 100000 in
theorem w_M_length_29 {p : Program} {l : Launch} {e : Env} {s : State} {m : MethodId} {args : Array Value} {below : List Frame} {meth : Method} {c : Code} {D : va_G} {cI : ClassId} {A : Nat → Prop} {q : Nat → Nat} {o : Int32 × mS} (C0 : mo_C b_M_length 4 D cI A p s m args meth c) (hr : meth.sig.returnType = (some .int)) : ∀ (y0 : Int32) (v : mS) (H : Heap) (locs : List Loc) (ls : Array Slot), f_M_length_29  y0 v = some o → mo_H D cI A s q v H locs → lv_has ls 4 [] → W p l e (mo_rm 2) s m args below meth c H locs 0 0 (MQ below (mo_Qi D cI q o.1 o.2 A) args s 0 0 A) (F0 m 29 ls [.int y0]) := by
  have hx := C0.1
  have hb := C0.2.1
  intro y0 v H locs ls h hH hl
  unfold f_M_length_29 at h
  exact mo_iret C0 hr hH d_M_length_29 h
def f_M_length_20   (v : mS) : Option (Int32 × mS) := f_M_length_29 0 v
set_option maxHeartbeats 4000000 in
set_option maxRecDepth 100000 in
theorem w_M_length_20 {p : Program} {l : Launch} {e : Env} {s : State} {m : MethodId} {args : Array Value} {below : List Frame} {meth : Method} {c : Code} {D : va_G} {cI : ClassId} {A : Nat → Prop} {q : Nat → Nat} {o : Int32 × mS} (C0 : mo_C b_M_length 4 D cI A p s m args meth c) (hr : meth.sig.returnType = (some .int)) : ∀  (v : mS) (H : Heap) (locs : List Loc) (ls : Array Slot), f_M_length_20   v = some o → mo_H D cI A s q v H locs → lv_has ls 4 [] → W p l e (mo_rm 2) s m args below meth c H locs 0 0 (MQ below (mo_Qi D cI q o.1 o.2 A) args s 0 0 A) (F0 m 20 ls []) := by
  have hx := C0.1
  have hb := C0.2.1
  intro  v H locs ls h hH hl
  unfold f_M_length_20 at h
  refine lv_iconst (v := 0) hx hb d_M_length_20 (by decide) ?_
  refine lv_goto (tgt := 29) hx hb d_M_length_21 (by decide) ?_
  exact w_M_length_29 C0 hr  _ _ _ _ _ h hH (lv_sub hl [] rfl)
def f_M_length (v : mS) (x1 : Int32) (x2 : Int32) : Option (Int32 × mS) := bi (f_M_part v x1 x2) fun r_3 v_1 => if r_3 < 0 then (f_M_length_20 v_1) else (bi (f_M_kindOf v_1 r_3) fun r_7 v_5 => if 4 ≤ r_7 then (bi (f_M_size v_5 r_3) fun r_11 v_9 => f_M_length_29 r_11 v_9) else (f_M_length_20 v_5))
set_option maxHeartbeats 4000000 in
set_option maxRecDepth 100000 in
theorem c_M_length {l : Launch} {D : va_G} {cI : ClassId} {q : Nat → Nat} {v : mS} {x1 : Int32} {x2 : Int32} {o : Int32 × mS} (h : f_M_length v x1 x2 = some o) : mo_M l D cI q 2 y_M_length b_M_length 4 (some .int) [.ref (q 0), .int x1, .int x2] v (mo_Qi D cI q o.1 o.2) := by
  refine mo_of (by decide +kernel) rfl (Nat.le_of_ble_eq_true rfl) ?_
  intro p e s m below meth c A ls C0 hr hl hH
  have hx := C0.1
  have hb := C0.2.1
  have hl : lv_has ls 4 [(0, .ref (q 0)), (1, .int x1), (2, .int x2)] := hl
  unfold f_M_length at h
  refine lv_aload_n hx hb d_M_length_0 rfl (lv_at hl 0 rfl) ?_
  refine lv_iload_n hx hb d_M_length_1 rfl (lv_at hl 1 rfl) ?_
  refine lv_iload_n hx hb d_M_length_2 rfl (lv_at hl 2 rfl) ?_
  obtain ⟨r_3, v_1, hc_2, h⟩ := bi_out h
  refine mo_ci (r := r_3) (w := v_1) (as := [.int x1, .int x2]) (rest := []) C0 hH (c_M_part hc_2) yy_M_part q_1339 q_109 (by decide) rfl hl.1 rfl (Nat.le_of_ble_eq_true rfl) ⟨Nat.zero_le _, Nat.zero_le _⟩ d_M_length_3 (fun H locs hH => ?_)
  refine lv_istore_n (lv' := [(3, .int r_3), (0, .ref (q 0)), (1, .int x1), (2, .int x2)]) hx hb d_M_length_6 rfl hl (by decide) rfl (fun ls hl => ?_)
  refine lv_iload_n hx hb d_M_length_7 rfl (lv_at hl 0 rfl) ?_
  refine lv_if_lt (tgt := 20) hx hb d_M_length_8 (by decide) (fun c_4 => ?_) (fun c_4 => ?_)
  · rw [if_pos c_4] at h
    exact w_M_length_20 C0 hr   _ _ _ _ h hH (lv_sub hl [] rfl)
  · rw [if_neg c_4] at h
    refine lv_aload_n hx hb d_M_length_11 rfl (lv_at hl 1 rfl) ?_
    refine lv_iload_n hx hb d_M_length_12 rfl (lv_at hl 0 rfl) ?_
    obtain ⟨r_7, v_5, hc_6, h⟩ := bi_out h
    refine mo_ci (r := r_7) (w := v_5) (as := [.int r_3]) (rest := []) C0 hH (c_M_kindOf hc_6) yy_M_kindOf q_1107 q_109 (by decide) rfl hl.1 rfl (Nat.le_of_ble_eq_true rfl) ⟨Nat.zero_le _, Nat.zero_le _⟩ d_M_length_13 (fun H locs hH => ?_)
    refine lv_iconst (v := 4) hx hb d_M_length_16 (by decide) ?_
    refine lv_icmp_ge (tgt := 24) hx hb d_M_length_17 (by decide) (fun c_8 => ?_) (fun c_8 => ?_)
    · rw [if_pos c_8] at h
      refine lv_aload_n hx hb d_M_length_24 rfl (lv_at hl 1 rfl) ?_
      refine lv_iload_n hx hb d_M_length_25 rfl (lv_at hl 0 rfl) ?_
      obtain ⟨r_11, v_9, hc_10, h⟩ := bi_out h
      refine mo_ci (r := r_11) (w := v_9) (as := [.int r_3]) (rest := []) C0 hH (c_M_size hc_10) yy_M_size q_1127 q_109 (by decide) rfl hl.1 rfl (Nat.le_of_ble_eq_true rfl) ⟨Nat.zero_le _, Nat.zero_le _⟩ d_M_length_26 (fun H locs hH => ?_)
      exact w_M_length_29 C0 hr  _ _ _ _ _ h hH (lv_sub hl [] rfl)
    · rw [if_neg c_8] at h
      exact w_M_length_20 C0 hr   _ _ _ _ h hH (lv_sub hl [] rfl)
theorem yy_M_number : mo_Y y_M_number b_M_number 5 (some .int) 3 := ⟨rfl, q_1348, q_1349, q_1350, by decide +kernel⟩
def f_M_number_23   (v : mS) : Option (Int32 × mS) := some (0, v)
set_option maxHeartbeats 4000000 in
set_option maxRecDepth 100000 in
theorem w_M_number_23 {p : Program} {l : Launch} {e : Env} {s : State} {m : MethodId} {args : Array Value} {below : List Frame} {meth : Method} {c : Code} {D : va_G} {cI : ClassId} {A : Nat → Prop} {q : Nat → Nat} {o : Int32 × mS} (C0 : mo_C b_M_number 5 D cI A p s m args meth c) (hr : meth.sig.returnType = (some .int)) : ∀  (v : mS) (H : Heap) (locs : List Loc) (ls : Array Slot), f_M_number_23   v = some o → mo_H D cI A s q v H locs → lv_has ls 5 [] → W p l e (mo_rm 3) s m args below meth c H locs 0 0 (MQ below (mo_Qi D cI q o.1 o.2 A) args s 0 0 A) (F0 m 23 ls []) := by
  have hx := C0.1
  have hb := C0.2.1
  intro  v H locs ls h hH hl
  unfold f_M_number_23 at h
  refine lv_iconst (v := 0) hx hb d_M_number_23 (by decide) ?_
  exact mo_iret C0 hr hH d_M_number_24 h
def f_M_number_45  (y0 : Int32) (v : mS) : Option (Int32 × mS) := some (y0, v)
set_option maxHeartbeats 4000000 in
set_option maxRecDepth 100000 in
theorem w_M_number_45 {p : Program} {l : Launch} {e : Env} {s : State} {m : MethodId} {args : Array Value} {below : List Frame} {meth : Method} {c : Code} {D : va_G} {cI : ClassId} {A : Nat → Prop} {q : Nat → Nat} {o : Int32 × mS} (C0 : mo_C b_M_number 5 D cI A p s m args meth c) (hr : meth.sig.returnType = (some .int)) : ∀ (y0 : Int32) (v : mS) (H : Heap) (locs : List Loc) (ls : Array Slot), f_M_number_45  y0 v = some o → mo_H D cI A s q v H locs → lv_has ls 5 [] → W p l e (mo_rm 3) s m args below meth c H locs 0 0 (MQ below (mo_Qi D cI q o.1 o.2 A) args s 0 0 A) (F0 m 45 ls [.int y0]) := by
  have hx := C0.1
  have hb := C0.2.1
  intro y0 v H locs ls h hH hl
  unfold f_M_number_45 at h
  exact mo_iret C0 hr hH d_M_number_45 h
def f_M_number (v : mS) (x1 : Int32) (x2 : Int32) (x3 : Int32) : Option (Int32 × mS) := bi (f_M_part v x1 x2) fun r_3 v_1 => if r_3 < 0 then (f_M_number_23 v_1) else (bi (f_M_kindOf v_1 r_3) fun r_7 v_5 => if r_7 = 3 then (if x3 = 0 then (bi (f_M_mantissa v_5 r_3) fun r_12 v_10 => f_M_number_45 ((r_12 : Int64).toInt32) v_10) else (bi (f_M_scaleOf v_5 r_3) fun r_15 v_13 => f_M_number_45 r_15 v_13)) else (f_M_number_23 v_5))
set_option maxHeartbeats 4000000 in
set_option maxRecDepth 100000 in
theorem c_M_number {l : Launch} {D : va_G} {cI : ClassId} {q : Nat → Nat} {v : mS} {x1 : Int32} {x2 : Int32} {x3 : Int32} {o : Int32 × mS} (h : f_M_number v x1 x2 x3 = some o) : mo_M l D cI q 3 y_M_number b_M_number 5 (some .int) [.ref (q 0), .int x1, .int x2, .int x3] v (mo_Qi D cI q o.1 o.2) := by
  refine mo_of (by decide +kernel) rfl (Nat.le_of_ble_eq_true rfl) ?_
  intro p e s m below meth c A ls C0 hr hl hH
  have hx := C0.1
  have hb := C0.2.1
  have hl : lv_has ls 5 [(0, .ref (q 0)), (1, .int x1), (2, .int x2), (3, .int x3)] := hl
  unfold f_M_number at h
  refine lv_aload_n hx hb d_M_number_0 rfl (lv_at hl 0 rfl) ?_
  refine lv_iload_n hx hb d_M_number_1 rfl (lv_at hl 1 rfl) ?_
  refine lv_iload_n hx hb d_M_number_2 rfl (lv_at hl 2 rfl) ?_
  obtain ⟨r_3, v_1, hc_2, h⟩ := bi_out h
  refine mo_ci (r := r_3) (w := v_1) (as := [.int x1, .int x2]) (rest := []) C0 hH (c_M_part hc_2) yy_M_part q_1339 q_109 (by decide) rfl hl.1 rfl (Nat.le_of_ble_eq_true rfl) ⟨Nat.zero_le _, Nat.zero_le _⟩ d_M_number_3 (fun H locs hH => ?_)
  refine lv_istore (lv' := [(4, .int r_3), (0, .ref (q 0)), (1, .int x1), (2, .int x2), (3, .int x3)]) hx hb d_M_number_6 hl (by decide) rfl (fun ls hl => ?_)
  refine lv_iload hx hb d_M_number_8 (lv_at hl 0 rfl) ?_
  refine lv_if_lt (tgt := 23) hx hb d_M_number_10 (by decide) (fun c_4 => ?_) (fun c_4 => ?_)
  · rw [if_pos c_4] at h
    exact w_M_number_23 C0 hr   _ _ _ _ h hH (lv_sub hl [] rfl)
  · rw [if_neg c_4] at h
    refine lv_aload_n hx hb d_M_number_13 rfl (lv_at hl 1 rfl) ?_
    refine lv_iload hx hb d_M_number_14 (lv_at hl 0 rfl) ?_
    obtain ⟨r_7, v_5, hc_6, h⟩ := bi_out h
    refine mo_ci (r := r_7) (w := v_5) (as := [.int r_3]) (rest := []) C0 hH (c_M_kindOf hc_6) yy_M_kindOf q_1107 q_109 (by decide) rfl hl.1 rfl (Nat.le_of_ble_eq_true rfl) ⟨Nat.zero_le _, Nat.zero_le _⟩ d_M_number_16 (fun H locs hH => ?_)
    refine lv_iconst (v := 3) hx hb d_M_number_19 (by decide) ?_
    refine lv_icmp_eq (tgt := 25) hx hb d_M_number_20 (by decide) (fun c_8 => ?_) (fun c_8 => ?_)
    · rw [if_pos c_8] at h
      refine lv_iload_n hx hb d_M_number_25 rfl (lv_at hl 4 rfl) ?_
      refine lv_if_eq (tgt := 38) hx hb d_M_number_26 (by decide) (fun c_9 => ?_) (fun c_9 => ?_)
      · rw [if_pos c_9] at h
        refine lv_aload_n hx hb d_M_number_38 rfl (lv_at hl 1 rfl) ?_
        refine lv_iload hx hb d_M_number_39 (lv_at hl 0 rfl) ?_
        obtain ⟨r_12, v_10, hc_11, h⟩ := bi_out h
        refine mo_cl (r := r_12) (w := v_10) (as := [.int r_3]) (rest := []) C0 hH (c_M_mantissa hc_11) yy_M_mantissa q_1319 q_109 (by decide) rfl hl.1 rfl (Nat.le_of_ble_eq_true rfl) ⟨Nat.zero_le _, Nat.zero_le _⟩ d_M_number_41 (fun H locs hH => ?_)
        refine lv_l2i hx hb d_M_number_44 rfl ?_
        exact w_M_number_45 C0 hr  _ _ _ _ _ h hH (lv_sub hl [] rfl)
      · rw [if_neg c_9] at h
        refine lv_aload_n hx hb d_M_number_29 rfl (lv_at hl 1 rfl) ?_
        refine lv_iload hx hb d_M_number_30 (lv_at hl 0 rfl) ?_
        obtain ⟨r_15, v_13, hc_14, h⟩ := bi_out h
        refine mo_ci (r := r_15) (w := v_13) (as := [.int r_3]) (rest := []) C0 hH (c_M_scaleOf hc_14) yy_M_scaleOf q_1323 q_109 (by decide) rfl hl.1 rfl (Nat.le_of_ble_eq_true rfl) ⟨Nat.zero_le _, Nat.zero_le _⟩ d_M_number_32 (fun H locs hH => ?_)
        refine lv_goto (tgt := 45) hx hb d_M_number_35 (by decide) ?_
        exact w_M_number_45 C0 hr  _ _ _ _ _ h hH (lv_sub hl [] rfl)
    · rw [if_neg c_8] at h
      exact w_M_number_23 C0 hr   _ _ _ _ h hH (lv_sub hl [] rfl)
theorem yy_M_character : mo_Y y_M_character b_M_character 7 (some .int) 4 := ⟨rfl, q_1352, q_1353, q_1354, by decide +kernel⟩
def f_M_character_86  (y0 : Int32) (v : mS) : Option (Int32 × mS) := some (y0, v)
set_option maxHeartbeats 4000000 in
set_option maxRecDepth 100000 in
theorem w_M_character_86 {p : Program} {l : Launch} {e : Env} {s : State} {m : MethodId} {args : Array Value} {below : List Frame} {meth : Method} {c : Code} {D : va_G} {cI : ClassId} {A : Nat → Prop} {q : Nat → Nat} {o : Int32 × mS} (C0 : mo_C b_M_character 7 D cI A p s m args meth c) (hr : meth.sig.returnType = (some .int)) : ∀ (y0 : Int32) (v : mS) (H : Heap) (locs : List Loc) (ls : Array Slot), f_M_character_86  y0 v = some o → mo_H D cI A s q v H locs → lv_has ls 7 [] → W p l e (mo_rm 2) s m args below meth c H locs 0 0 (MQ below (mo_Qi D cI q o.1 o.2 A) args s 0 0 A) (F0 m 86 ls [.int y0]) := by
  have hx := C0.1
  have hb := C0.2.1
  intro y0 v H locs ls h hH hl
  unfold f_M_character_86 at h
  exact mo_iret C0 hr hH d_M_character_86 h
def f_M_character_67   (v : mS) : Option (Int32 × mS) := bi (f_M_fail v 2) fun r_3 v_1 => f_M_character_86 r_3 v_1
set_option maxHeartbeats 4000000 in
set_option maxRecDepth 100000 in
theorem w_M_character_67 {p : Program} {l : Launch} {e : Env} {s : State} {m : MethodId} {args : Array Value} {below : List Frame} {meth : Method} {c : Code} {D : va_G} {cI : ClassId} {A : Nat → Prop} {q : Nat → Nat} {o : Int32 × mS} (C0 : mo_C b_M_character 7 D cI A p s m args meth c) (hr : meth.sig.returnType = (some .int)) : ∀  (v : mS) (H : Heap) (locs : List Loc) (ls : Array Slot), f_M_character_67   v = some o → mo_H D cI A s q v H locs → lv_has ls 7 [(0, .ref (q 0))] → W p l e (mo_rm 2) s m args below meth c H locs 0 0 (MQ below (mo_Qi D cI q o.1 o.2 A) args s 0 0 A) (F0 m 67 ls []) := by
  have hx := C0.1
  have hb := C0.2.1
  intro  v H locs ls h hH hl
  unfold f_M_character_67 at h
  refine lv_aload_n hx hb d_M_character_67 rfl (lv_at hl 0 rfl) ?_
  refine lv_iconst (v := 2) hx hb d_M_character_68 (by decide) ?_
  obtain ⟨r_3, v_1, hc_2, h⟩ := bi_out h
  refine mo_ci (r := r_3) (w := v_1) (as := [.int 2]) (rest := []) C0 hH (c_M_fail hc_2) yy_M_fail q_1053 q_109 (by decide) rfl hl.1 rfl (Nat.le_of_ble_eq_true rfl) ⟨Nat.zero_le _, Nat.zero_le _⟩ d_M_character_69 (fun H locs hH => ?_)
  refine lv_goto (tgt := 86) hx hb d_M_character_72 (by decide) ?_
  exact w_M_character_86 C0 hr  _ _ _ _ _ h hH (lv_sub hl [] rfl)
def f_M_character_46  (x3 : Int32) (y0 : Int32) (v : mS) : Option (Int32 × mS) := if y0 = 0 then (f_M_character_67 v) else (if x3 < 0 then (f_M_character_67 v) else (bi (f_M_size v y0) fun r_5 v_3 => if x3 < r_5 then (gd (inB ((y0 + 4) + x3) 64000) (f_M_character_86 (v_3 6 ((y0 + 4) + x3 : Int32).toNatClampNeg) v_3)) else (f_M_character_67 v_3)))
set_option maxHeartbeats 4000000 in
set_option maxRecDepth 100000 in
theorem w_M_character_46 {p : Program} {l : Launch} {e : Env} {s : State} {m : MethodId} {args : Array Value} {below : List Frame} {meth : Method} {c : Code} {D : va_G} {cI : ClassId} {A : Nat → Prop} {q : Nat → Nat} {o : Int32 × mS} (C0 : mo_C b_M_character 7 D cI A p s m args meth c) (hr : meth.sig.returnType = (some .int)) : ∀ (x3 : Int32) (y0 : Int32) (v : mS) (H : Heap) (locs : List Loc) (ls : Array Slot), f_M_character_46  x3 y0 v = some o → mo_H D cI A s q v H locs → lv_has ls 7 [(0, .ref (q 0)), (3, .int x3)] → W p l e (mo_rm 2) s m args below meth c H locs 0 0 (MQ below (mo_Qi D cI q o.1 o.2 A) args s 0 0 A) (F0 m 46 ls [.int y0]) := by
  have hx := C0.1
  have hb := C0.2.1
  intro x3 y0 v H locs ls h hH hl
  unfold f_M_character_46 at h
  refine lv_istore (lv' := [(6, .int y0), (0, .ref (q 0)), (3, .int x3)]) hx hb d_M_character_46 hl (by decide) rfl (fun ls hl => ?_)
  refine lv_iload hx hb d_M_character_48 (lv_at hl 0 rfl) ?_
  refine lv_if_eq (tgt := 67) hx hb d_M_character_50 (by decide) (fun c_1 => ?_) (fun c_1 => ?_)
  · rw [if_pos c_1] at h
    exact w_M_character_67 C0 hr   _ _ _ _ h hH (lv_sub hl [1] rfl)
  · rw [if_neg c_1] at h
    refine lv_iload_n hx hb d_M_character_53 rfl (lv_at hl 2 rfl) ?_
    refine lv_if_lt (tgt := 67) hx hb d_M_character_54 (by decide) (fun c_2 => ?_) (fun c_2 => ?_)
    · rw [if_pos c_2] at h
      exact w_M_character_67 C0 hr   _ _ _ _ h hH (lv_sub hl [1] rfl)
    · rw [if_neg c_2] at h
      refine lv_iload_n hx hb d_M_character_57 rfl (lv_at hl 2 rfl) ?_
      refine lv_aload_n hx hb d_M_character_58 rfl (lv_at hl 1 rfl) ?_
      refine lv_iload hx hb d_M_character_59 (lv_at hl 0 rfl) ?_
      obtain ⟨r_5, v_3, hc_4, h⟩ := bi_out h
      refine mo_ci (r := r_5) (w := v_3) (as := [.int y0]) (rest := [.int x3]) C0 hH (c_M_size hc_4) yy_M_size q_1127 q_109 (by decide) rfl hl.1 rfl (Nat.le_of_ble_eq_true rfl) ⟨Nat.zero_le _, Nat.zero_le _⟩ d_M_character_61 (fun H locs hH => ?_)
      refine lv_icmp_lt (tgt := 75) hx hb d_M_character_64 (by decide) (fun c_6 => ?_) (fun c_6 => ?_)
      · rw [if_pos c_6] at h
        refine lv_aload_n hx hb d_M_character_75 rfl (lv_at hl 1 rfl) ?_
        refine mo_r_heap C0 hH d_M_character_76 ?_
        refine lv_iload hx hb d_M_character_79 (lv_at hl 0 rfl) ?_
        refine lv_iconst (v := 4) hx hb d_M_character_81 (by decide) ?_
        refine lv_iadd hx hb d_M_character_82 ?_
        refine lv_iload_n hx hb d_M_character_83 rfl (lv_at hl 2 rfl) ?_
        refine lv_iadd hx hb d_M_character_84 ?_
        obtain ⟨g_7, h⟩ := gd_out h
        refine mo_ld 6 (by decide) (by decide) C0 hH (inB_in g_7) d_M_character_85 ?_
        exact w_M_character_86 C0 hr  _ _ _ _ _ h hH (lv_sub hl [] rfl)
      · rw [if_neg c_6] at h
        exact w_M_character_67 C0 hr   _ _ _ _ h hH (lv_sub hl [1] rfl)
def f_M_character (v : mS) (x1 : Int32) (x2 : Int32) (x3 : Int32) (x4 : Int32) : Option (Int32 × mS) := bi (f_M_part v x1 x2) fun r_3 v_1 => if 0 ≤ r_3 then (if x4 = 0 then (bi (f_M_kindOf v_1 r_3) fun r_8 v_6 => if r_8 = 4 then (f_M_character_46 x3 r_3 v_6) else (f_M_character_46 x3 0 v_6)) else (gd (inB 62 64) (f_M_character_46 x3 (v_1 10 (62 : Int32).toNatClampNeg) v_1))) else (some (0, v_1))
set_option maxHeartbeats 4000000 in
set_option maxRecDepth 100000 in
theorem c_M_character {l : Launch} {D : va_G} {cI : ClassId} {q : Nat → Nat} {v : mS} {x1 : Int32} {x2 : Int32} {x3 : Int32} {x4 : Int32} {o : Int32 × mS} (h : f_M_character v x1 x2 x3 x4 = some o) : mo_M l D cI q 2 y_M_character b_M_character 7 (some .int) [.ref (q 0), .int x1, .int x2, .int x3, .int x4] v (mo_Qi D cI q o.1 o.2) := by
  refine mo_of (by decide +kernel) rfl (Nat.le_of_ble_eq_true rfl) ?_
  intro p e s m below meth c A ls C0 hr hl hH
  have hx := C0.1
  have hb := C0.2.1
  have hl : lv_has ls 7 [(0, .ref (q 0)), (1, .int x1), (2, .int x2), (3, .int x3), (4, .int x4)] := hl
  unfold f_M_character at h
  refine lv_aload_n hx hb d_M_character_0 rfl (lv_at hl 0 rfl) ?_
  refine lv_iload_n hx hb d_M_character_1 rfl (lv_at hl 1 rfl) ?_
  refine lv_iload_n hx hb d_M_character_2 rfl (lv_at hl 2 rfl) ?_
  obtain ⟨r_3, v_1, hc_2, h⟩ := bi_out h
  refine mo_ci (r := r_3) (w := v_1) (as := [.int x1, .int x2]) (rest := []) C0 hH (c_M_part hc_2) yy_M_part q_1339 q_109 (by decide) rfl hl.1 rfl (Nat.le_of_ble_eq_true rfl) ⟨Nat.zero_le _, Nat.zero_le _⟩ d_M_character_3 (fun H locs hH => ?_)
  refine lv_istore (lv' := [(5, .int r_3), (0, .ref (q 0)), (1, .int x1), (2, .int x2), (3, .int x3), (4, .int x4)]) hx hb d_M_character_6 hl (by decide) rfl (fun ls hl => ?_)
  refine lv_iload hx hb d_M_character_8 (lv_at hl 0 rfl) ?_
  refine lv_if_ge (tgt := 15) hx hb d_M_character_10 (by decide) (fun c_4 => ?_) (fun c_4 => ?_)
  · rw [if_pos c_4] at h
    refine lv_iload hx hb d_M_character_15 (lv_at hl 5 rfl) ?_
    refine lv_if_eq (tgt := 30) hx hb d_M_character_17 (by decide) (fun c_5 => ?_) (fun c_5 => ?_)
    · rw [if_pos c_5] at h
      refine lv_aload_n hx hb d_M_character_30 rfl (lv_at hl 1 rfl) ?_
      refine lv_iload hx hb d_M_character_31 (lv_at hl 0 rfl) ?_
      obtain ⟨r_8, v_6, hc_7, h⟩ := bi_out h
      refine mo_ci (r := r_8) (w := v_6) (as := [.int r_3]) (rest := []) C0 hH (c_M_kindOf hc_7) yy_M_kindOf q_1107 q_109 (by decide) rfl hl.1 rfl (Nat.le_of_ble_eq_true rfl) ⟨Nat.zero_le _, Nat.zero_le _⟩ d_M_character_33 (fun H locs hH => ?_)
      refine lv_iconst (v := 4) hx hb d_M_character_36 (by decide) ?_
      refine lv_icmp_ne (tgt := 45) hx hb d_M_character_37 (by decide) (fun c_9 => ?_) (fun c_9 => ?_)
      · rw [if_neg c_9] at h
        refine lv_iconst (v := 0) hx hb d_M_character_45 (by decide) ?_
        exact w_M_character_46 C0 hr  _ _ _ _ _ _ h hH (lv_sub hl [1, 4] rfl)
      · rw [if_pos c_9] at h
        refine lv_iload hx hb d_M_character_40 (lv_at hl 0 rfl) ?_
        refine lv_goto (tgt := 46) hx hb d_M_character_42 (by decide) ?_
        exact w_M_character_46 C0 hr  _ _ _ _ _ _ h hH (lv_sub hl [1, 4] rfl)
    · rw [if_neg c_5] at h
      refine lv_aload_n hx hb d_M_character_20 rfl (lv_at hl 1 rfl) ?_
      refine mo_r_items C0 hH d_M_character_21 ?_
      refine lv_bipush (v := 62) hx hb d_M_character_24 (by decide) ?_
      obtain ⟨g_10, h⟩ := gd_out h
      refine mo_ld 10 (by decide) (by decide) C0 hH (inB_in g_10) d_M_character_26 ?_
      refine lv_goto (tgt := 46) hx hb d_M_character_27 (by decide) ?_
      exact w_M_character_46 C0 hr  _ _ _ _ _ _ h hH (lv_sub hl [1, 4] rfl)
  · rw [if_neg c_4] at h
    refine lv_iconst (v := 0) hx hb d_M_character_13 (by decide) ?_
    exact mo_iret C0 hr hH d_M_character_14 h
theorem yy_M_order : mo_Y y_M_order b_M_order 3 (some .int) 2 := ⟨rfl, q_1356, q_1357, q_1358, by decide +kernel⟩
def f_M_order_25   (v : mS) : Option (Int32 × mS) := bi (f_M_fail v 1) fun r_3 v_1 => some (r_3, v_1)
set_option maxHeartbeats 4000000 in
set_option maxRecDepth 100000 in
theorem w_M_order_25 {p : Program} {l : Launch} {e : Env} {s : State} {m : MethodId} {args : Array Value} {below : List Frame} {meth : Method} {c : Code} {D : va_G} {cI : ClassId} {A : Nat → Prop} {q : Nat → Nat} {o : Int32 × mS} (C0 : mo_C b_M_order 3 D cI A p s m args meth c) (hr : meth.sig.returnType = (some .int)) : ∀  (v : mS) (H : Heap) (locs : List Loc) (ls : Array Slot), f_M_order_25   v = some o → mo_H D cI A s q v H locs → lv_has ls 3 [(0, .ref (q 0))] → W p l e (mo_rm 4) s m args below meth c H locs 0 0 (MQ below (mo_Qi D cI q o.1 o.2 A) args s 0 0 A) (F0 m 25 ls []) := by
  have hx := C0.1
  have hb := C0.2.1
  intro  v H locs ls h hH hl
  unfold f_M_order_25 at h
  refine lv_aload_n hx hb d_M_order_25 rfl (lv_at hl 0 rfl) ?_
  refine lv_iconst (v := 1) hx hb d_M_order_26 (by decide) ?_
  obtain ⟨r_3, v_1, hc_2, h⟩ := bi_out h
  refine mo_ci (r := r_3) (w := v_1) (as := [.int 1]) (rest := []) C0 hH (c_M_fail hc_2) yy_M_fail q_1053 q_109 (by decide) rfl hl.1 rfl (Nat.le_of_ble_eq_true rfl) ⟨Nat.zero_le _, Nat.zero_le _⟩ d_M_order_27 (fun H locs hH => ?_)
  exact mo_iret C0 hr hH d_M_order_30 h
def f_M_order (v : mS) (x1 : Int32) (x2 : Int32) : Option (Int32 × mS) := nm (sU v 0 0 0) fun v_1 => bi (f_M_within v_1 x1 0 7) fun r_4 v_2 => if r_4 = 0 then (f_M_order_25 v_2) else (bi (f_M_within v_2 x2 0 7) fun r_8 v_6 => if r_8 = 0 then (f_M_order_25 v_6) else (gd (inB x1 8) (gd (inB x2 8) (bi (f_M_ordered v_6 (v_6 8 (x1 : Int32).toNatClampNeg) (v_6 8 (x2 : Int32).toNatClampNeg)) fun r_14 v_12 => some (r_14, v_12)))))
set_option maxHeartbeats 4000000 in
set_option maxRecDepth 100000 in
theorem c_M_order {l : Launch} {D : va_G} {cI : ClassId} {q : Nat → Nat} {v : mS} {x1 : Int32} {x2 : Int32} {o : Int32 × mS} (h : f_M_order v x1 x2 = some o) : mo_M l D cI q 4 y_M_order b_M_order 3 (some .int) [.ref (q 0), .int x1, .int x2] v (mo_Qi D cI q o.1 o.2) := by
  refine mo_of (by decide +kernel) rfl (Nat.le_of_ble_eq_true rfl) ?_
  intro p e s m below meth c A ls C0 hr hl hH
  have hx := C0.1
  have hb := C0.2.1
  have hl : lv_has ls 3 [(0, .ref (q 0)), (1, .int x1), (2, .int x2)] := hl
  unfold f_M_order at h
  refine lv_aload_n hx hb d_M_order_0 rfl (lv_at hl 0 rfl) ?_
  refine lv_iconst (v := 0) hx hb d_M_order_1 (by decide) ?_
  obtain ⟨v_1, hv_1, h⟩ := nm_out h
  refine mo_p_code C0 hH d_M_order_2 (fun H locs hH => ?_)
  rw [← hv_1] at hH
  refine lv_iload_n hx hb d_M_order_5 rfl (lv_at hl 1 rfl) ?_
  refine lv_iconst (v := 0) hx hb d_M_order_6 (by decide) ?_
  refine lv_bipush (v := 7) hx hb d_M_order_7 (by decide) ?_
  obtain ⟨r_4, v_2, hc_3, h⟩ := bi_out h
  refine mo_si (r := r_4) (w := v_2) (as := [.int x1, .int 0, .int 7]) (rest := []) C0 hH (c_M_within hc_3) yy_M_within q_1050 q_109 (by decide) rfl hl.1 rfl (Nat.le_of_ble_eq_true rfl) ⟨Nat.zero_le _, Nat.zero_le _⟩ d_M_order_9 (fun H locs hH => ?_)
  refine lv_if_eq (tgt := 25) hx hb d_M_order_12 (by decide) (fun c_5 => ?_) (fun c_5 => ?_)
  · rw [if_pos c_5] at h
    exact w_M_order_25 C0 hr   _ _ _ _ h hH (lv_sub hl [0] rfl)
  · rw [if_neg c_5] at h
    refine lv_iload_n hx hb d_M_order_15 rfl (lv_at hl 2 rfl) ?_
    refine lv_iconst (v := 0) hx hb d_M_order_16 (by decide) ?_
    refine lv_bipush (v := 7) hx hb d_M_order_17 (by decide) ?_
    obtain ⟨r_8, v_6, hc_7, h⟩ := bi_out h
    refine mo_si (r := r_8) (w := v_6) (as := [.int x2, .int 0, .int 7]) (rest := []) C0 hH (c_M_within hc_7) yy_M_within q_1050 q_109 (by decide) rfl hl.1 rfl (Nat.le_of_ble_eq_true rfl) ⟨Nat.zero_le _, Nat.zero_le _⟩ d_M_order_19 (fun H locs hH => ?_)
    refine lv_if_ne (tgt := 31) hx hb d_M_order_22 (by decide) (fun c_9 => ?_) (fun c_9 => ?_)
    · rw [if_neg c_9] at h
      refine lv_aload_n hx hb d_M_order_31 rfl (lv_at hl 0 rfl) ?_
      refine lv_aload_n hx hb d_M_order_32 rfl (lv_at hl 0 rfl) ?_
      refine mo_r_slot C0 hH d_M_order_33 ?_
      refine lv_iload_n hx hb d_M_order_36 rfl (lv_at hl 1 rfl) ?_
      obtain ⟨g_10, h⟩ := gd_out h
      refine mo_ld 8 (by decide) (by decide) C0 hH (inB_in g_10) d_M_order_37 ?_
      refine lv_aload_n hx hb d_M_order_38 rfl (lv_at hl 0 rfl) ?_
      refine mo_r_slot C0 hH d_M_order_39 ?_
      refine lv_iload_n hx hb d_M_order_42 rfl (lv_at hl 2 rfl) ?_
      obtain ⟨g_11, h⟩ := gd_out h
      refine mo_ld 8 (by decide) (by decide) C0 hH (inB_in g_11) d_M_order_43 ?_
      obtain ⟨r_14, v_12, hc_13, h⟩ := bi_out h
      refine mo_ci (r := r_14) (w := v_12) (as := [.int (v_6 8 (x1 : Int32).toNatClampNeg), .int (v_6 8 (x2 : Int32).toNatClampNeg)]) (rest := []) C0 hH (c_M_ordered hc_13) yy_M_ordered q_1208 q_109 (by decide) rfl hl.1 rfl (Nat.le_of_ble_eq_true rfl) ⟨Nat.zero_le _, Nat.zero_le _⟩ d_M_order_44 (fun H locs hH => ?_)
      exact mo_iret C0 hr hH d_M_order_47 h
    · rw [if_pos c_9] at h
      exact w_M_order_25 C0 hr   _ _ _ _ h hH (lv_sub hl [0] rfl)
theorem yy_M_count : mo_Y y_M_count b_M_count 2 (some .int) 1 := ⟨rfl, q_1360, q_1361, q_1362, by decide +kernel⟩
def f_M_count_53  (y0 : Int32) (v : mS) : Option (Int32 × mS) := some (y0, v)
set_option maxHeartbeats 4000000 in
set_option maxRecDepth 100000 in
theorem w_M_count_53 {p : Program} {l : Launch} {e : Env} {s : State} {m : MethodId} {args : Array Value} {below : List Frame} {meth : Method} {c : Code} {D : va_G} {cI : ClassId} {A : Nat → Prop} {q : Nat → Nat} {o : Int32 × mS} (C0 : mo_C b_M_count 2 D cI A p s m args meth c) (hr : meth.sig.returnType = (some .int)) : ∀ (y0 : Int32) (v : mS) (H : Heap) (locs : List Loc) (ls : Array Slot), f_M_count_53  y0 v = some o → mo_H D cI A s q v H locs → lv_has ls 2 [] → W p l e (mo_rm 0) s m args below meth c H locs 0 0 (MQ below (mo_Qi D cI q o.1 o.2 A) args s 0 0 A) (F0 m 53 ls [.int y0]) := by
  have hx := C0.1
  have hb := C0.2.1
  intro y0 v H locs ls h hH hl
  unfold f_M_count_53 at h
  exact mo_iret C0 hr hH d_M_count_53 h
def f_M_count (v : mS) (x1 : Int32) : Option (Int32 × mS) := nm (sU v 0 0 0) fun v_1 => if x1 = 0 then (f_M_count_53 (v_1 0 12) v_1) else (if x1 = 1 then (f_M_count_53 (v_1 0 20) v_1) else (if x1 = 2 then (f_M_count_53 (v_1 0 22) v_1) else (if x1 = 3 then (f_M_count_53 (v_1 0 23) v_1) else (f_M_count_53 (-1) v_1))))
set_option maxHeartbeats 4000000 in
set_option maxRecDepth 100000 in
theorem c_M_count {l : Launch} {D : va_G} {cI : ClassId} {q : Nat → Nat} {v : mS} {x1 : Int32} {o : Int32 × mS} (h : f_M_count v x1 = some o) : mo_M l D cI q 0 y_M_count b_M_count 2 (some .int) [.ref (q 0), .int x1] v (mo_Qi D cI q o.1 o.2) := by
  refine mo_of (by decide +kernel) rfl (Nat.le_of_ble_eq_true rfl) ?_
  intro p e s m below meth c A ls C0 hr hl hH
  have hx := C0.1
  have hb := C0.2.1
  have hl : lv_has ls 2 [(0, .ref (q 0)), (1, .int x1)] := hl
  unfold f_M_count at h
  refine lv_aload_n hx hb d_M_count_0 rfl (lv_at hl 0 rfl) ?_
  refine lv_iconst (v := 0) hx hb d_M_count_1 (by decide) ?_
  obtain ⟨v_1, hv_1, h⟩ := nm_out h
  refine mo_p_code C0 hH d_M_count_2 (fun H locs hH => ?_)
  rw [← hv_1] at hH
  refine lv_iload_n hx hb d_M_count_5 rfl (lv_at hl 1 rfl) ?_
  refine lv_if_ne (tgt := 16) hx hb d_M_count_6 (by decide) (fun c_2 => ?_) (fun c_2 => ?_)
  · rw [if_neg c_2] at h
    refine lv_iload_n hx hb d_M_count_16 rfl (lv_at hl 1 rfl) ?_
    refine lv_iconst (v := 1) hx hb d_M_count_17 (by decide) ?_
    refine lv_icmp_ne (tgt := 28) hx hb d_M_count_18 (by decide) (fun c_3 => ?_) (fun c_3 => ?_)
    · rw [if_neg c_3] at h
      refine lv_iload_n hx hb d_M_count_28 rfl (lv_at hl 1 rfl) ?_
      refine lv_iconst (v := 2) hx hb d_M_count_29 (by decide) ?_
      refine lv_icmp_ne (tgt := 40) hx hb d_M_count_30 (by decide) (fun c_4 => ?_) (fun c_4 => ?_)
      · rw [if_neg c_4] at h
        refine lv_iload_n hx hb d_M_count_40 rfl (lv_at hl 1 rfl) ?_
        refine lv_iconst (v := 3) hx hb d_M_count_41 (by decide) ?_
        refine lv_icmp_ne (tgt := 52) hx hb d_M_count_42 (by decide) (fun c_5 => ?_) (fun c_5 => ?_)
        · rw [if_neg c_5] at h
          refine lv_iconst (v := (-1)) hx hb d_M_count_52 (by decide) ?_
          exact w_M_count_53 C0 hr  _ _ _ _ _ h hH (lv_sub hl [] rfl)
        · rw [if_pos c_5] at h
          refine lv_aload_n hx hb d_M_count_45 rfl (lv_at hl 0 rfl) ?_
          refine mo_g_roomless C0 hH d_M_count_46 ?_
          refine lv_goto (tgt := 53) hx hb d_M_count_49 (by decide) ?_
          exact w_M_count_53 C0 hr  _ _ _ _ _ h hH (lv_sub hl [] rfl)
      · rw [if_pos c_4] at h
        refine lv_aload_n hx hb d_M_count_33 rfl (lv_at hl 0 rfl) ?_
        refine mo_g_errors C0 hH d_M_count_34 ?_
        refine lv_goto (tgt := 53) hx hb d_M_count_37 (by decide) ?_
        exact w_M_count_53 C0 hr  _ _ _ _ _ h hH (lv_sub hl [] rfl)
    · rw [if_pos c_3] at h
      refine lv_aload_n hx hb d_M_count_21 rfl (lv_at hl 0 rfl) ?_
      refine mo_g_steps C0 hH d_M_count_22 ?_
      refine lv_goto (tgt := 53) hx hb d_M_count_25 (by decide) ?_
      exact w_M_count_53 C0 hr  _ _ _ _ _ h hH (lv_sub hl [] rfl)
  · rw [if_pos c_2] at h
    refine lv_aload_n hx hb d_M_count_9 rfl (lv_at hl 0 rfl) ?_
    refine mo_g_outputs C0 hH d_M_count_10 ?_
    refine lv_goto (tgt := 53) hx hb d_M_count_13 (by decide) ?_
    exact w_M_count_53 C0 hr  _ _ _ _ _ h hH (lv_sub hl [] rfl)
