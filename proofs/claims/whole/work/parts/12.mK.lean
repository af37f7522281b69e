/-! methods of the reference (by program: wip/gen/mgen.py without product calc compared) -/
theorem yy_M_without : mo_Y y_M_without b_M_without 7 (some .int) 2 := ⟨rfl, q_1309, q_95, q_1310, by decide +kernel⟩
def f_M_without_55 (K5 : Int32 → Int32 → Int32 → Int32 → mS → Option (Int32 × mS)) (K21 : Int32 → Int32 → Int32 → Int32 → Int32 → Int32 → mS → Option (Int32 × mS)) (x1 : Int32) (x2 : Int32) (x3 : Int32) (x4 : Int32) (x5 : Int32) (x6 : Int32) (v : mS) : Option (Int32 × mS) := nm (x6 + 1) fun x6_1 => K21 x1 x2 x3 x4 x5 x6_1 v
set_option maxHeartbeats 4000000 in
set_option maxRecDepth 100000 in
theorem w_M_without_55 {p : Program} {l : Launch} {e : Env} {s : State} {m : MethodId} {args : Array Value} {below : List Frame} {meth : Method} {c : Code} {D : va_G} {cI : ClassId} {A : Nat → Prop} {q : Nat → Nat} {o : Int32 × mS} (C0 : mo_C b_M_without 7 D cI A p s m args meth c) (hr : meth.sig.returnType = (some .int)) {K5 : Int32 → Int32 → Int32 → Int32 → mS → Option (Int32 × mS)} (hK5 : ∀ (x1 : Int32) (x2 : Int32) (x3 : Int32) (x4 : Int32) (v : mS) (H : Heap) (locs : List Loc) (ls : Array Slot), K5 x1 x2 x3 x4 v = some o → mo_H D cI A s q v H locs → lv_has ls 7 [(0, .ref (q 0)), (1, .int x1), (2, .int x2), (3, .int x3), (4, .int x4)] → W p l e (mo_rm 5) s m args below meth c H locs 0 0 (MQ below (mo_Qi D cI q o.1 o.2 A) args s 0 0 A) (F0 m 5 ls [])) {K21 : Int32 → Int32 → Int32 → Int32 → Int32 → Int32 → mS → Option (Int32 × mS)} (hK21 : ∀ (x1 : Int32) (x2 : Int32) (x3 : Int32) (x4 : Int32) (x5 : Int32) (x6 : Int32) (v : mS) (H : Heap) (locs : List Loc) (ls : Array Slot), K21 x1 x2 x3 x4 x5 x6 v = some o → mo_H D cI A s q v H locs → lv_has ls 7 [(0, .ref (q 0)), (1, .int x1), (2, .int x2), (3, .int x3), (4, .int x4), (5, .int x5), (6, .int x6)] → W p l e (mo_rm 5) s m args below meth c H locs 0 0 (MQ below (mo_Qi D cI q o.1 o.2 A) args s 0 0 A) (F0 m 21 ls [])) : ∀ (x1 : Int32) (x2 : Int32) (x3 : Int32) (x4 : Int32) (x5 : Int32) (x6 : Int32) (v : mS) (H : Heap) (locs : List Loc) (ls : Array Slot), f_M_without_55 K5 K21 x1 x2 x3 x4 x5 x6 v = some o → mo_H D cI A s q v H locs → lv_has ls 7 [(0, .ref (q 0)), (1, .int x1), (2, .int x2), (3, .int x3), (4, .int x4), (5, .int x5), (6, .int x6)] → W p l e (mo_rm 5) s m args below meth c H locs 0 0 (MQ below (mo_Qi D cI q o.1 o.2 A) args s 0 0 A) (F0 m 55 ls []) := by
  have hx := C0.1
  have hb := C0.2.1
  intro x1 x2 x3 x4 x5 x6 v H locs ls h hH hl
  unfold f_M_without_55 at h
  obtain ⟨x6_1, hx6_1, h⟩ := nm_out h
  refine lv_iinc (v := x6_1) (lv' := [(6, .int x6_1), (0, .ref (q 0)), (1, .int x1), (2, .int x2), (3, .int x3), (4, .int x4), (5, .int x5)]) hx hb d_M_without_55 hl (k := 6) rfl (by rw [hx6_1]; rfl) (by decide) rfl (fun ls hl => ?_)
  refine lv_goto (tgt := 21) hx hb d_M_without_58 (by decide) ?_
  exact hK21 _ _ _ _ _ _ _ _ _ _ h hH (lv_sub hl [1, 2, 3, 4, 5, 6, 0] rfl)
def f_M_without_85 (K5 : Int32 → Int32 → Int32 → Int32 → mS → Option (Int32 × mS)) (x1 : Int32) (x2 : Int32) (x3 : Int32) (x4 : Int32) (v : mS) : Option (Int32 × mS) := nm (x4 + 1) fun x4_1 => K5 x1 x2 x3 x4_1 v
set_option maxHeartbeats 4000000 in
set_option maxRecDepth 100000 in
theorem w_M_without_85 {p : Program} {l : Launch} {e : Env} {s : State} {m : MethodId} {args : Array Value} {below : List Frame} {meth : Method} {c : Code} {D : va_G} {cI : ClassId} {A : Nat → Prop} {q : Nat → Nat} {o : Int32 × mS} (C0 : mo_C b_M_without 7 D cI A p s m args meth c) (hr : meth.sig.returnType = (some .int)) {K5 : Int32 → Int32 → Int32 → Int32 → mS → Option (Int32 × mS)} (hK5 : ∀ (x1 : Int32) (x2 : Int32) (x3 : Int32) (x4 : Int32) (v : mS) (H : Heap) (locs : List Loc) (ls : Array Slot), K5 x1 x2 x3 x4 v = some o → mo_H D cI A s q v H locs → lv_has ls 7 [(0, .ref (q 0)), (1, .int x1), (2, .int x2), (3, .int x3), (4, .int x4)] → W p l e (mo_rm 5) s m args below meth c H locs 0 0 (MQ below (mo_Qi D cI q o.1 o.2 A) args s 0 0 A) (F0 m 5 ls [])) : ∀ (x1 : Int32) (x2 : Int32) (x3 : Int32) (x4 : Int32) (v : mS) (H : Heap) (locs : List Loc) (ls : Array Slot), f_M_without_85 K5 x1 x2 x3 x4 v = some o → mo_H D cI A s q v H locs → lv_has ls 7 [(0, .ref (q 0)), (1, .int x1), (2, .int x2), (3, .int x3), (4, .int x4)] → W p l e (mo_rm 5) s m args below meth c H locs 0 0 (MQ below (mo_Qi D cI q o.1 o.2 A) args s 0 0 A) (F0 m 85 ls []) := by
  have hx := C0.1
  have hb := C0.2.1
  intro x1 x2 x3 x4 v H locs ls h hH hl
  unfold f_M_without_85 at h
  obtain ⟨x4_1, hx4_1, h⟩ := nm_out h
  refine lv_iinc (v := x4_1) (lv' := [(4, .int x4_1), (0, .ref (q 0)), (1, .int x1), (2, .int x2), (3, .int x3)]) hx hb d_M_without_85 hl (k := 4) rfl (by rw [hx4_1]; rfl) (by decide) rfl (fun ls hl => ?_)
  refine lv_goto (tgt := 5) hx hb d_M_without_88 (by decide) ?_
  exact hK5 _ _ _ _ _ _ _ _ h hH (lv_sub hl [1, 2, 3, 4, 0] rfl)
def f_M_without_21 (K5 : Int32 → Int32 → Int32 → Int32 → mS → Option (Int32 × mS)) : Nat → Int32 → Int32 → Int32 → Int32 → Int32 → Int32 → mS → Option (Int32 × mS)
  | 0, _, _, _, _, _, _, _ => none
  | n + 1, x1, x2, x3, x4, x5, x6, v => bi (f_M_size v x2) fun r_3 v_1 => if r_3 ≤ x6 then (if x5 = 0 then (bi (f_M_item v_1 x1 x4) fun r_8 v_6 => gd (inB x3 64) (nm (sU v_6 10 (x3 : Int32).toNatClampNeg r_8) fun v_10 => nm (x3 + 1) fun x3_11 => f_M_without_85 K5 x1 x2 x3_11 x4 v_10)) else (f_M_without_85 K5 x1 x2 x3 x4 v_1)) else (bi (f_M_item v_1 x1 x4) fun r_14 v_12 => bi (f_M_item v_12 x2 x6) fun r_17 v_15 => bi (f_M_alike v_15 r_14 r_17) fun r_20 v_18 => if r_20 = 0 then (f_M_without_55 K5 (f_M_without_21 K5 n) x1 x2 x3 x4 x5 x6 v_18) else (f_M_without_55 K5 (f_M_without_21 K5 n) x1 x2 x3 x4 1 x6 v_18))
set_option maxHeartbeats 4000000 in
set_option maxRecDepth 100000 in
theorem w_M_without_21 {p : Program} {l : Launch} {e : Env} {s : State} {m : MethodId} {args : Array Value} {below : List Frame} {meth : Method} {c : Code} {D : va_G} {cI : ClassId} {A : Nat → Prop} {q : Nat → Nat} {o : Int32 × mS} (C0 : mo_C b_M_without 7 D cI A p s m args meth c) (hr : meth.sig.returnType = (some .int)) {K5 : Int32 → Int32 → Int32 → Int32 → mS → Option (Int32 × mS)} (hK5 : ∀ (x1 : Int32) (x2 : Int32) (x3 : Int32) (x4 : Int32) (v : mS) (H : Heap) (locs : List Loc) (ls : Array Slot), K5 x1 x2 x3 x4 v = some o → mo_H D cI A s q v H locs → lv_has ls 7 [(0, .ref (q 0)), (1, .int x1), (2, .int x2), (3, .int x3), (4, .int x4)] → W p l e (mo_rm 5) s m args below meth c H locs 0 0 (MQ below (mo_Qi D cI q o.1 o.2 A) args s 0 0 A) (F0 m 5 ls [])) : ∀ (n : Nat) (x1 : Int32) (x2 : Int32) (x3 : Int32) (x4 : Int32) (x5 : Int32) (x6 : Int32) (v : mS) (H : Heap) (locs : List Loc) (ls : Array Slot), f_M_without_21 K5 n x1 x2 x3 x4 x5 x6 v = some o → mo_H D cI A s q v H locs → lv_has ls 7 [(0, .ref (q 0)), (1, .int x1), (2, .int x2), (3, .int x3), (4, .int x4), (5, .int x5), (6, .int x6)] → W p l e (mo_rm 5) s m args below meth c H locs 0 0 (MQ below (mo_Qi D cI q o.1 o.2 A) args s 0 0 A) (F0 m 21 ls []) := by
  have hx := C0.1
  have hb := C0.2.1
  intro n
  induction n with
  | zero =>
    intro x1 x2 x3 x4 x5 x6 v H locs ls h hH hl
    cases h
  | succ n ih =>
    intro x1 x2 x3 x4 x5 x6 v H locs ls h hH hl
    rw [f_M_without_21] at h
    refine lv_iload hx hb d_M_without_21 (lv_at hl 6 rfl) ?_
    refine lv_aload_n hx hb d_M_without_23 rfl (lv_at hl 0 rfl) ?_
    refine lv_iload_n hx hb d_M_without_24 rfl (lv_at hl 2 rfl) ?_
    obtain ⟨r_3, v_1, hc_2, h⟩ := bi_out h
    refine mo_ci (r := r_3) (w := v_1) (as := [.int x2]) (rest := [.int x6]) C0 hH (c_M_size hc_2) yy_M_size q_1127 q_109 (by decide) rfl hl.1 rfl (Nat.le_of_ble_eq_true rfl) ⟨Nat.zero_le _, Nat.zero_le _⟩ d_M_without_25 (fun H locs hH => ?_)
    refine lv_icmp_ge (tgt := 61) hx hb d_M_without_28 (by decide) (fun c_4 => ?_) (fun c_4 => ?_)
    · rw [if_pos c_4] at h
      refine lv_iload hx hb d_M_without_61 (lv_at hl 5 rfl) ?_
      refine lv_if_eq (tgt := 69) hx hb d_M_without_63 (by decide) (fun c_5 => ?_) (fun c_5 => ?_)
      · rw [if_pos c_5] at h
        refine lv_aload_n hx hb d_M_without_69 rfl (lv_at hl 0 rfl) ?_
        refine mo_r_items C0 hH d_M_without_70 ?_
        refine lv_iload_n hx hb d_M_without_73 rfl (lv_at hl 3 rfl) ?_
        refine lv_aload_n hx hb d_M_without_74 rfl (lv_at hl 0 rfl) ?_
        refine lv_iload_n hx hb d_M_without_75 rfl (lv_at hl 1 rfl) ?_
        refine lv_iload hx hb d_M_without_76 (lv_at hl 4 rfl) ?_
        obtain ⟨r_8, v_6, hc_7, h⟩ := bi_out h
        refine mo_ci (r := r_8) (w := v_6) (as := [.int x1, .int x4]) (rest := [.int x3, .ref (q 10)]) C0 hH (c_M_item hc_7) yy_M_item q_1142 q_109 (by decide) rfl hl.1 rfl (Nat.le_of_ble_eq_true rfl) ⟨Nat.zero_le _, Nat.zero_le _⟩ d_M_without_78 (fun H locs hH => ?_)
        obtain ⟨g_9, h⟩ := gd_out h
        obtain ⟨v_10, hv_10, h⟩ := nm_out h
        refine mo_st 10 (by decide) (by decide) C0 hH (inB_in g_9) d_M_without_81 (fun H locs hH => ?_)
        rw [← hv_10] at hH
        obtain ⟨x3_11, hx3_11, h⟩ := nm_out h
        refine lv_iinc (v := x3_11) (lv' := [(3, .int x3_11), (0, .ref (q 0)), (1, .int x1), (2, .int x2), (4, .int x4), (5, .int x5), (6, .int x6)]) hx hb d_M_without_82 hl (k := 3) rfl (by rw [hx3_11]; rfl) (by decide) rfl (fun ls hl => ?_)
        exact w_M_without_85 C0 hr hK5 _ _ _ _ _ _ _ _ h hH (lv_sub hl [1, 2, 3, 0, 4] rfl)
      · rw [if_neg c_5] at h
        refine lv_goto (tgt := 85) hx hb d_M_without_66 (by decide) ?_
        exact w_M_without_85 C0 hr hK5 _ _ _ _ _ _ _ _ h hH (lv_sub hl [0, 1, 2, 3, 4] rfl)
    · rw [if_neg c_4] at h
      refine lv_aload_n hx hb d_M_without_31 rfl (lv_at hl 0 rfl) ?_
      refine lv_aload_n hx hb d_M_without_32 rfl (lv_at hl 0 rfl) ?_
      refine lv_iload_n hx hb d_M_without_33 rfl (lv_at hl 1 rfl) ?_
      refine lv_iload hx hb d_M_without_34 (lv_at hl 4 rfl) ?_
      obtain ⟨r_14, v_12, hc_13, h⟩ := bi_out h
      refine mo_ci (r := r_14) (w := v_12) (as := [.int x1, .int x4]) (rest := [.ref (q 0)]) C0 hH (c_M_item hc_13) yy_M_item q_1142 q_109 (by decide) rfl hl.1 rfl (Nat.le_of_ble_eq_true rfl) ⟨Nat.zero_le _, Nat.zero_le _⟩ d_M_without_36 (fun H locs hH => ?_)
      refine lv_aload_n hx hb d_M_without_39 rfl (lv_at hl 0 rfl) ?_
      refine lv_iload_n hx hb d_M_without_40 rfl (lv_at hl 2 rfl) ?_
      refine lv_iload hx hb d_M_without_41 (lv_at hl 6 rfl) ?_
      obtain ⟨r_17, v_15, hc_16, h⟩ := bi_out h
      refine mo_ci (r := r_17) (w := v_15) (as := [.int x2, .int x6]) (rest := [.int r_14, .ref (q 0)]) C0 hH (c_M_item hc_16) yy_M_item q_1142 q_109 (by decide) rfl hl.1 rfl (Nat.le_of_ble_eq_true rfl) ⟨Nat.zero_le _, Nat.zero_le _⟩ d_M_without_43 (fun H locs hH => ?_)
      obtain ⟨r_20, v_18, hc_19, h⟩ := bi_out h
      refine mo_ci (r := r_20) (w := v_18) (as := [.int r_14, .int r_17]) (rest := []) C0 hH (c_M_alike hc_19) yy_M_alike q_1311 q_109 (by decide) rfl hl.1 rfl (Nat.le_of_ble_eq_true rfl) ⟨Nat.zero_le _, Nat.zero_le _⟩ d_M_without_46 (fun H locs hH => ?_)
      refine lv_if_eq (tgt := 55) hx hb d_M_without_49 (by decide) (fun c_21 => ?_) (fun c_21 => ?_)
      · rw [if_pos c_21] at h
        exact w_M_without_55 C0 hr hK5 ih _ _ _ _ _ _ _ _ _ _ h hH (lv_sub hl [0, 1, 2, 3, 4, 5, 6] rfl)
      · rw [if_neg c_21] at h
        refine lv_iconst (v := 1) hx hb d_M_without_52 (by decide) ?_
        refine lv_istore (lv' := [(5, .int 1), (0, .ref (q 0)), (1, .int x1), (2, .int x2), (3, .int x3), (4, .int x4), (6, .int x6)]) hx hb d_M_without_53 hl (by decide) rfl (fun ls hl => ?_)
        exact w_M_without_55 C0 hr hK5 ih _ _ _ _ _ _ _ _ _ _ h hH (lv_sub hl [1, 2, 3, 4, 5, 0, 6] rfl)
def f_M_without_5  : Nat → Int32 → Int32 → Int32 → Int32 → mS → Option (Int32 × mS)
  | 0, _, _, _, _, _ => none
  | n + 1, x1, x2, x3, x4, v => bi (f_M_size v x1) fun r_3 v_1 => if r_3 ≤ x4 then (bi (f_M_array v_1 x3) fun r_7 v_5 => some (r_7, v_5)) else (f_M_without_21 (f_M_without_5 n) fu x1 x2 x3 x4 0 0 v_1)
set_option maxHeartbeats 4000000 in
set_option maxRecDepth 100000 in
theorem w_M_without_5 {p : Program} {l : Launch} {e : Env} {s : State} {m : MethodId} {args : Array Value} {below : List Frame} {meth : Method} {c : Code} {D : va_G} {cI : ClassId} {A : Nat → Prop} {q : Nat → Nat} {o : Int32 × mS} (C0 : mo_C b_M_without 7 D cI A p s m args meth c) (hr : meth.sig.returnType = (some .int)) : ∀ (n : Nat) (x1 : Int32) (x2 : Int32) (x3 : Int32) (x4 : Int32) (v : mS) (H : Heap) (locs : List Loc) (ls : Array Slot), f_M_without_5  n x1 x2 x3 x4 v = some o → mo_H D cI A s q v H locs → lv_has ls 7 [(0, .ref (q 0)), (1, .int x1), (2, .int x2), (3, .int x3), (4, .int x4)] → W p l e (mo_rm 5) s m args below meth c H locs 0 0 (MQ below (mo_Qi D cI q o.1 o.2 A) args s 0 0 A) (F0 m 5 ls []) := by
  have hx := C0.1
  have hb := C0.2.1
  intro n
  induction n with
  | zero =>
    intro x1 x2 x3 x4 v H locs ls h hH hl
    cases h
  | succ n ih =>
    intro x1 x2 x3 x4 v H locs ls h hH hl
    rw [f_M_without_5] at h
    refine lv_iload hx hb d_M_without_5 (lv_at hl 4 rfl) ?_
    refine lv_aload_n hx hb d_M_without_7 rfl (lv_at hl 0 rfl) ?_
    refine lv_iload_n hx hb d_M_without_8 rfl (lv_at hl 1 rfl) ?_
    obtain ⟨r_3, v_1, hc_2, h⟩ := bi_out h
    refine mo_ci (r := r_3) (w := v_1) (as := [.int x1]) (rest := [.int x4]) C0 hH (c_M_size hc_2) yy_M_size q_1127 q_109 (by decide) rfl hl.1 rfl (Nat.le_of_ble_eq_true rfl) ⟨Nat.zero_le _, Nat.zero_le _⟩ d_M_without_9 (fun H locs hH => ?_)
    refine lv_icmp_ge (tgt := 91) hx hb d_M_without_12 (by decide) (fun c_4 => ?_) (fun c_4 => ?_)
    · rw [if_pos c_4] at h
      refine lv_aload_n hx hb d_M_without_91 rfl (lv_at hl 0 rfl) ?_
      refine lv_iload_n hx hb d_M_without_92 rfl (lv_at hl 3 rfl) ?_
      obtain ⟨r_7, v_5, hc_6, h⟩ := bi_out h
      refine mo_ci (r := r_7) (w := v_5) (as := [.int x3]) (rest := []) C0 hH (c_M_array hc_6) yy_M_array q_1166 q_109 (by decide) rfl hl.1 rfl (Nat.le_of_ble_eq_true rfl) ⟨Nat.zero_le _, Nat.zero_le _⟩ d_M_without_93 (fun H locs hH => ?_)
      exact mo_iret C0 hr hH d_M_without_96 h
    · rw [if_neg c_4] at h
      refine lv_iconst (v := 0) hx hb d_M_without_15 (by decide) ?_
      refine lv_istore (lv' := [(5, .int 0), (0, .ref (q 0)), (1, .int x1), (2, .int x2), (3, .int x3), (4, .int x4)]) hx hb d_M_without_16 hl (by decide) rfl (fun ls hl => ?_)
      refine lv_iconst (v := 0) hx hb d_M_without_18 (by decide) ?_
      refine lv_istore (lv' := [(6, .int 0), (5, .int 0), (0, .ref (q 0)), (1, .int x1), (2, .int x2), (3, .int x3), (4, .int x4)]) hx hb d_M_without_19 hl (by decide) rfl (fun ls hl => ?_)
      exact w_M_without_21 C0 hr ih fu _ _ _ _ _ _ _ _ _ _ h hH (lv_sub hl [2, 3, 4, 5, 6, 1, 0] rfl)
def f_M_without (v : mS) (x1 : Int32) (x2 : Int32) : Option (Int32 × mS) := f_M_without_5 fu x1 x2 0 0 v
set_option maxHeartbeats 4000000 in
set_option maxRecDepth 100000 in
theorem c_M_without {l : Launch} {D : va_G} {cI : ClassId} {q : Nat → Nat} {v : mS} {x1 : Int32} {x2 : Int32} {o : Int32 × mS} (h : f_M_without v x1 x2 = some o) : mo_M l D cI q 5 y_M_without b_M_without 7 (some .int) [.ref (q 0), .int x1, .int x2] v (mo_Qi D cI q o.1 o.2) := by
  refine mo_of (by decide +kernel) rfl (Nat.le_of_ble_eq_true rfl) ?_
  intro p e s m below meth c A ls C0 hr hl hH
  have hx := C0.1
  have hb := C0.2.1
  have hl : lv_has ls 7 [(0, .ref (q 0)), (1, .int x1), (2, .int x2)] := hl
  unfold f_M_without at h
  refine lv_iconst (v := 0) hx hb d_M_without_0 (by decide) ?_
  refine lv_istore_n (lv' := [(3, .int 0), (0, .ref (q 0)), (1, .int x1), (2, .int x2)]) hx hb d_M_without_1 rfl hl (by decide) rfl (fun ls hl => ?_)
  refine lv_iconst (v := 0) hx hb d_M_without_2 (by decide) ?_
  refine lv_istore (lv' := [(4, .int 0), (3, .int 0), (0, .ref (q 0)), (1, .int x1), (2, .int x2)]) hx hb d_M_without_3 hl (by decide) rfl (fun ls hl => ?_)
  exact w_M_without_5 C0 hr  fu _ _ _ _ _ _ _ _ h hH (lv_sub hl [2, 3, 4, 1, 0] rfl)
theorem yy_M_product : mo_Y y_M_product b_M_product 7 (some .int) 2 := ⟨rfl, q_1317, q_97, q_1318, by decide +kernel⟩
def f_M_product_75   (v : mS) : Option (Int32 × mS) := bi (f_M_room v) fun r_3 v_1 => some (r_3, v_1)
set_option maxHeartbeats 4000000 in
set_option maxRecDepth 100000 in
theorem w_M_product_75 {p : Program} {l : Launch} {e : Env} {s : State} {m : MethodId} {args : Array Value} {below : List Frame} {meth : Method} {c : Code} {D : va_G} {cI : ClassId} {A : Nat → Prop} {q : Nat → Nat} {o : Int32 × mS} (C0 : mo_C b_M_product 7 D cI A p s m args meth c) (hr : meth.sig.returnType = (some .int)) : ∀  (v : mS) (H : Heap) (locs : List Loc) (ls : Array Slot), f_M_product_75   v = some o → mo_H D cI A s q v H locs → lv_has ls 7 [(0, .ref (q 0))] → W p l e (mo_rm 3) s m args below meth c H locs 0 0 (MQ below (mo_Qi D cI q o.1 o.2 A) args s 0 0 A) (F0 m 75 ls []) := by
  have hx := C0.1
  have hb := C0.2.1
  intro  v H locs ls h hH hl
  unfold f_M_product_75 at h
  refine lv_aload_n hx hb d_M_product_75 rfl (lv_at hl 0 rfl) ?_
  obtain ⟨r_3, v_1, hc_2, h⟩ := bi_out h
  refine mo_ci (r := r_3) (w := v_1) (as := []) (rest := []) C0 hH (c_M_room hc_2) yy_M_room q_1162 q_109 (by decide) rfl hl.1 rfl (Nat.le_of_ble_eq_true rfl) ⟨Nat.zero_le _, Nat.zero_le _⟩ d_M_product_76 (fun H locs hH => ?_)
  exact mo_iret C0 hr hH d_M_product_79 h
def f_M_product_84  : Nat → Int64 → Int32 → mS → Option (Int32 × mS)
  | 0, _, _, _ => none
  | n + 1, x3, x6, v => if 6 ≤ x6 then (bi (f_M_decimal v x3) fun r_4 v_2 => some (r_4, v_2)) else (nm (x3 * 10) fun x3_5 => nm (x6 + 1) fun x6_6 => f_M_product_84 n x3_5 x6_6 v)
set_option maxHeartbeats 4000000 in
set_option maxRecDepth 100000 in
theorem w_M_product_84 {p : Program} {l : Launch} {e : Env} {s : State} {m : MethodId} {args : Array Value} {below : List Frame} {meth : Method} {c : Code} {D : va_G} {cI : ClassId} {A : Nat → Prop} {q : Nat → Nat} {o : Int32 × mS} (C0 : mo_C b_M_product 7 D cI A p s m args meth c) (hr : meth.sig.returnType = (some .int)) : ∀ (n : Nat) (x3 : Int64) (x6 : Int32) (v : mS) (H : Heap) (locs : List Loc) (ls : Array Slot), f_M_product_84  n x3 x6 v = some o → mo_H D cI A s q v H locs → lv_has ls 7 [(0, .ref (q 0)), (3, .long x3), (6, .int x6)] → W p l e (mo_rm 3) s m args below meth c H locs 0 0 (MQ below (mo_Qi D cI q o.1 o.2 A) args s 0 0 A) (F0 m 84 ls []) := by
  have hx := C0.1
  have hb := C0.2.1
  intro n
  induction n with
  | zero =>
    intro x3 x6 v H locs ls h hH hl
    cases h
  | succ n ih =>
    intro x3 x6 v H locs ls h hH hl
    rw [f_M_product_84] at h
    refine lv_iload hx hb d_M_product_84 (lv_at hl 2 rfl) ?_
    refine lv_bipush (v := 6) hx hb d_M_product_86 (by decide) ?_
    refine lv_icmp_ge (tgt := 103) hx hb d_M_product_88 (by decide) (fun c_1 => ?_) (fun c_1 => ?_)
    · rw [if_pos c_1] at h
      refine lv_aload_n hx hb d_M_product_103 rfl (lv_at hl 0 rfl) ?_
      refine lv_lload_n hx hb d_M_product_104 rfl (lv_at hl 1 rfl) ?_
      obtain ⟨r_4, v_2, hc_3, h⟩ := bi_out h
      refine mo_ci (r := r_4) (w := v_2) (as := [.long x3]) (rest := []) C0 hH (c_M_decimal hc_3) yy_M_decimal q_1155 q_109 (by decide) rfl hl.1 rfl (Nat.le_of_ble_eq_true rfl) ⟨Nat.zero_le _, Nat.zero_le _⟩ d_M_product_105 (fun H locs hH => ?_)
      exact mo_iret C0 hr hH d_M_product_108 h
    · rw [if_neg c_1] at h
      refine lv_lload_n hx hb d_M_product_91 rfl (lv_at hl 1 rfl) ?_
      refine lv_ldc2 (v := 10) hx hb C0.2.2.1 (C0.2.2.2.1 _ q_1159) d_M_product_92 ?_
      refine lv_lmul hx hb d_M_product_95 ?_
      obtain ⟨x3_5, hx3_5, h⟩ := nm_out h
      refine fu_l hx3_5 ?_
      refine lv_lstore_n (lv' := [(3, .long x3_5), (0, .ref (q 0)), (6, .int x6)]) hx hb d_M_product_96 rfl hl (by decide) rfl (fun ls hl => ?_)
      obtain ⟨x6_6, hx6_6, h⟩ := nm_out h
      refine lv_iinc (v := x6_6) (lv' := [(6, .int x6_6), (3, .long x3_5), (0, .ref (q 0))]) hx hb d_M_product_97 hl (k := 2) rfl (by rw [hx6_6]; rfl) (by decide) rfl (fun ls hl => ?_)
      refine lv_goto (tgt := 84) hx hb d_M_product_100 (by decide) ?_
      exact ih _ _ _ _ _ _ h hH (lv_sub hl [2, 1, 0] rfl)
def f_M_product_52  (x3 : Int64) (x5 : Int32) (v : mS) : Option (Int32 × mS) := if 6 < x5 then (f_M_product_75 v) else (if 0 < (lg_cmp x3 999999999) then (f_M_product_75 v) else (if 0 ≤ (lg_cmp x3 (-999999999)) then (f_M_product_84 fu x3 x5 v) else (f_M_product_75 v)))
set_option maxHeartbeats 4000000 in
set_option maxRecDepth 100000 in
theorem w_M_product_52 {p : Program} {l : Launch} {e : Env} {s : State} {m : MethodId} {args : Array Value} {below : List Frame} {meth : Method} {c : Code} {D : va_G} {cI : ClassId} {A : Nat → Prop} {q : Nat → Nat} {o : Int32 × mS} (C0 : mo_C b_M_product 7 D cI A p s m args meth c) (hr : meth.sig.returnType = (some .int)) : ∀ (x3 : Int64) (x5 : Int32) (v : mS) (H : Heap) (locs : List Loc) (ls : Array Slot), f_M_product_52  x3 x5 v = some o → mo_H D cI A s q v H locs → lv_has ls 7 [(0, .ref (q 0)), (3, .long x3), (5, .int x5)] → W p l e (mo_rm 3) s m args below meth c H locs 0 0 (MQ below (mo_Qi D cI q o.1 o.2 A) args s 0 0 A) (F0 m 52 ls []) := by
  have hx := C0.1
  have hb := C0.2.1
  intro x3 x5 v H locs ls h hH hl
  unfold f_M_product_52 at h
  refine lv_iload hx hb d_M_product_52 (lv_at hl 2 rfl) ?_
  refine lv_bipush (v := 6) hx hb d_M_product_54 (by decide) ?_
  refine lv_icmp_gt (tgt := 75) hx hb d_M_product_56 (by decide) (fun c_1 => ?_) (fun c_1 => ?_)
  · rw [if_pos c_1] at h
    exact w_M_product_75 C0 hr   _ _ _ _ h hH (lv_sub hl [0] rfl)
  · rw [if_neg c_1] at h
    refine lv_lload_n hx hb d_M_product_59 rfl (lv_at hl 1 rfl) ?_
    refine lv_ldc2 (v := 999999999) hx hb C0.2.2.1 (C0.2.2.2.1 _ q_1160) d_M_product_60 ?_
    refine W.lcmp hx hb d_M_product_63 ?_
    refine lv_if_gt (tgt := 75) hx hb d_M_product_64 (by decide) (fun c_2 => ?_) (fun c_2 => ?_)
    · rw [if_pos c_2] at h
      exact w_M_product_75 C0 hr   _ _ _ _ h hH (lv_sub hl [0] rfl)
    · rw [if_neg c_2] at h
      refine lv_lload_n hx hb d_M_product_67 rfl (lv_at hl 1 rfl) ?_
      refine lv_ldc2 (v := (-999999999)) hx hb C0.2.2.1 (C0.2.2.2.1 _ q_1161) d_M_product_68 ?_
      refine W.lcmp hx hb d_M_product_71 ?_
      refine lv_if_ge (tgt := 80) hx hb d_M_product_72 (by decide) (fun c_3 => ?_) (fun c_3 => ?_)
      · rw [if_pos c_3] at h
        refine lv_iload hx hb d_M_product_80 (lv_at hl 2 rfl) ?_
        refine lv_istore (lv' := [(6, .int x5), (0, .ref (q 0)), (3, .long x3), (5, .int x5)]) hx hb d_M_product_82 hl (by decide) rfl (fun ls hl => ?_)
        exact w_M_product_84 C0 hr  fu _ _ _ _ _ _ h hH (lv_sub hl [1, 2, 0] rfl)
      · rw [if_neg c_3] at h
        exact w_M_product_75 C0 hr   _ _ _ _ h hH (lv_sub hl [0] rfl)
def f_M_product_25  : Nat → Int64 → Int32 → mS → Option (Int32 × mS)
  | 0, _, _, _ => none
  | n + 1, x3, x5, v => if x5 ≤ 0 then (f_M_product_52 x3 x5 v) else (if (lg_cmp (x3 - x3 / 10 * 10) 0) = 0 then (nm (x3 / 10) fun x3_5 => nm (x5 + (-1)) fun x5_6 => f_M_product_25 n x3_5 x5_6 v) else (f_M_product_52 x3 x5 v))
set_option maxHeartbeats 4000000 in
set_option maxRecDepth 100000 in
theorem w_M_product_25 {p : Program} {l : Launch} {e : Env} {s : State} {m : MethodId} {args : Array Value} {below : List Frame} {meth : Method} {c : Code} {D : va_G} {cI : ClassId} {A : Nat → Prop} {q : Nat → Nat} {o : Int32 × mS} (C0 : mo_C b_M_product 7 D cI A p s m args meth c) (hr : meth.sig.returnType = (some .int)) : ∀ (n : Nat) (x3 : Int64) (x5 : Int32) (v : mS) (H : Heap) (locs : List Loc) (ls : Array Slot), f_M_product_25  n x3 x5 v = some o → mo_H D cI A s q v H locs → lv_has ls 7 [(0, .ref (q 0)), (3, .long x3), (5, .int x5)] → W p l e (mo_rm 3) s m args below meth c H locs 0 0 (MQ below (mo_Qi D cI q o.1 o.2 A) args s 0 0 A) (F0 m 25 ls []) := by
  have hx := C0.1
  have hb := C0.2.1
  intro n
  induction n with
  | zero =>
    intro x3 x5 v H locs ls h hH hl
    cases h
  | succ n ih =>
    intro x3 x5 v H locs ls h hH hl
    rw [f_M_product_25] at h
    refine lv_iload hx hb d_M_product_25 (lv_at hl 2 rfl) ?_
    refine lv_if_le (tgt := 52) hx hb d_M_product_27 (by decide) (fun c_1 => ?_) (fun c_1 => ?_)
    · rw [if_pos c_1] at h
      exact w_M_product_52 C0 hr  _ _ _ _ _ _ h hH (lv_sub hl [0, 1, 2] rfl)
    · rw [if_neg c_1] at h
      refine lv_lload_n hx hb d_M_product_30 rfl (lv_at hl 1 rfl) ?_
      refine lv_ldc2 (v := 10) hx hb C0.2.2.1 (C0.2.2.2.1 _ q_1159) d_M_product_31 ?_
      refine lv_lrem hx hb d_M_product_34 (by decide) ?_
      refine lv_lconst (v := 0) hx hb d_M_product_35 (by decide) ?_
      refine W.lcmp hx hb d_M_product_36 ?_
      refine lv_if_ne (tgt := 52) hx hb d_M_product_37 (by decide) (fun c_3 => ?_) (fun c_3 => ?_)
      · rw [if_neg c_3] at h
        exact w_M_product_52 C0 hr  _ _ _ _ _ _ h hH (lv_sub hl [0, 1, 2] rfl)
      · rw [if_pos c_3] at h
        refine lv_lload_n hx hb d_M_product_40 rfl (lv_at hl 1 rfl) ?_
        refine lv_ldc2 (v := 10) hx hb C0.2.2.1 (C0.2.2.2.1 _ q_1159) d_M_product_41 ?_
        refine lv_ldiv hx hb d_M_product_44 (by decide) ?_
        obtain ⟨x3_5, hx3_5, h⟩ := nm_out h
        refine fu_l hx3_5 ?_
        refine lv_lstore_n (lv' := [(3, .long x3_5), (0, .ref (q 0)), (5, .int x5)]) hx hb d_M_product_45 rfl hl (by decide) rfl (fun ls hl => ?_)
        obtain ⟨x5_6, hx5_6, h⟩ := nm_out h
        refine lv_iinc (v := x5_6) (lv' := [(5, .int x5_6), (3, .long x3_5), (0, .ref (q 0))]) hx hb d_M_product_46 hl (k := 2) rfl (by rw [hx5_6]; rfl) (by decide) rfl (fun ls hl => ?_)
        refine lv_goto (tgt := 25) hx hb d_M_product_49 (by decide) ?_
        exact ih _ _ _ _ _ _ h hH (lv_sub hl [2, 1, 0] rfl)
def f_M_product (v : mS) (x1 : Int32) (x2 : Int32) : Option (Int32 × mS) := bi (f_M_mantissa v x1) fun r_3 v_1 => bi (f_M_mantissa v_1 x2) fun r_6 v_4 => nm (r_3 * r_6) fun x3_7 => bi (f_M_scaleOf v_4 x1) fun r_10 v_8 => bi (f_M_scaleOf v_8 x2) fun r_13 v_11 => nm (r_10 + r_13) fun x5_14 => f_M_product_25 fu x3_7 x5_14 v_11
set_option maxHeartbeats 4000000 in
set_option maxRecDepth 100000 in
theorem c_M_product {l : Launch} {D : va_G} {cI : ClassId} {q : Nat → Nat} {v : mS} {x1 : Int32} {x2 : Int32} {o : Int32 × mS} (h : f_M_product v x1 x2 = some o) : mo_M l D cI q 3 y_M_product b_M_product 7 (some .int) [.ref (q 0), .int x1, .int x2] v (mo_Qi D cI q o.1 o.2) := by
  refine mo_of (by decide +kernel) rfl (Nat.le_of_ble_eq_true rfl) ?_
  intro p e s m below meth c A ls C0 hr hl hH
  have hx := C0.1
  have hb := C0.2.1
  have hl : lv_has ls 7 [(0, .ref (q 0)), (1, .int x1), (2, .int x2)] := hl
  unfold f_M_product at h
  refine lv_aload_n hx hb d_M_product_0 rfl (lv_at hl 0 rfl) ?_
  refine lv_iload_n hx hb d_M_product_1 rfl (lv_at hl 1 rfl) ?_
  obtain ⟨r_3, v_1, hc_2, h⟩ := bi_out h
  refine mo_cl (r := r_3) (w := v_1) (as := [.int x1]) (rest := []) C0 hH (c_M_mantissa hc_2) yy_M_mantissa q_1319 q_109 (by decide) rfl hl.1 rfl (Nat.le_of_ble_eq_true rfl) ⟨Nat.zero_le _, Nat.zero_le _⟩ d_M_product_2 (fun H locs hH => ?_)
  refine lv_aload_n hx hb d_M_product_5 rfl (lv_at hl 0 rfl) ?_
  refine lv_iload_n hx hb d_M_product_6 rfl (lv_at hl 2 rfl) ?_
  obtain ⟨r_6, v_4, hc_5, h⟩ := bi_out h
  refine mo_cl (r := r_6) (w := v_4) (as := [.int x2]) (rest := [.long r_3]) C0 hH (c_M_mantissa hc_5) yy_M_mantissa q_1319 q_109 (by decide) rfl hl.1 rfl (Nat.le_of_ble_eq_true rfl) ⟨Nat.zero_le _, Nat.zero_le _⟩ d_M_product_7 (fun H locs hH => ?_)
  refine lv_lmul hx hb d_M_product_10 ?_
  obtain ⟨x3_7, hx3_7, h⟩ := nm_out h
  refine fu_l hx3_7 ?_
  refine lv_lstore_n (lv' := [(3, .long x3_7), (0, .ref (q 0)), (1, .int x1), (2, .int x2)]) hx hb d_M_product_11 rfl hl (by decide) rfl (fun ls hl => ?_)
  refine lv_aload_n hx hb d_M_product_12 rfl (lv_at hl 1 rfl) ?_
  refine lv_iload_n hx hb d_M_product_13 rfl (lv_at hl 2 rfl) ?_
  obtain ⟨r_10, v_8, hc_9, h⟩ := bi_out h
  refine mo_ci (r := r_10) (w := v_8) (as := [.int x1]) (rest := []) C0 hH (c_M_scaleOf hc_9) yy_M_scaleOf q_1323 q_109 (by decide) rfl hl.1 rfl (Nat.le_of_ble_eq_true rfl) ⟨Nat.zero_le _, Nat.zero_le _⟩ d_M_product_14 (fun H locs hH => ?_)
  refine lv_aload_n hx hb d_M_product_17 rfl (lv_at hl 1 rfl) ?_
  refine lv_iload_n hx hb d_M_product_18 rfl (lv_at hl 3 rfl) ?_
  obtain ⟨r_13, v_11, hc_12, h⟩ := bi_out h
  refine mo_ci (r := r_13) (w := v_11) (as := [.int x2]) (rest := [.int r_10]) C0 hH (c_M_scaleOf hc_12) yy_M_scaleOf q_1323 q_109 (by decide) rfl hl.1 rfl (Nat.le_of_ble_eq_true rfl) ⟨Nat.zero_le _, Nat.zero_le _⟩ d_M_product_19 (fun H locs hH => ?_)
  refine lv_iadd hx hb d_M_product_22 ?_
  obtain ⟨x5_14, hx5_14, h⟩ := nm_out h
  refine fu_i hx5_14 ?_
  refine lv_istore (lv' := [(5, .int x5_14), (3, .long x3_7), (0, .ref (q 0)), (1, .int x1), (2, .int x2)]) hx hb d_M_product_23 hl (by decide) rfl (fun ls hl => ?_)
  exact w_M_product_25 C0 hr  fu _ _ _ _ _ _ h hH (lv_sub hl [2, 1, 0] rfl)
theorem yy_M_calc : mo_Y y_M_calc b_M_calc 6 (some .int) 3 := ⟨rfl, q_1305, q_94, q_1306, by decide +kernel⟩
def f_M_calc_59   (v : mS) : Option (Int32 × mS) := some ((-1), v)
set_option maxHeartbeats 4000000 in
set_option maxRecDepth 100000 in
theorem w_M_calc_59 {p : Program} {l : Launch} {e : Env} {s : State} {m : MethodId} {args : Array Value} {below : List Frame} {meth : Method} {c : Code} {D : va_G} {cI : ClassId} {A : Nat → Prop} {q : Nat → Nat} {o : Int32 × mS} (C0 : mo_C b_M_calc 6 D cI A p s m args meth c) (hr : meth.sig.returnType = (some .int)) : ∀  (v : mS) (H : Heap) (locs : List Loc) (ls : Array Slot), f_M_calc_59   v = some o → mo_H D cI A s q v H locs → lv_has ls 6 [] → W p l e (mo_rm 6) s m args below meth c H locs 0 0 (MQ below (mo_Qi D cI q o.1 o.2 A) args s 0 0 A) (F0 m 59 ls []) := by
  have hx := C0.1
  have hb := C0.2.1
  intro  v H locs ls h hH hl
  unfold f_M_calc_59 at h
  refine lv_iconst (v := (-1)) hx hb d_M_calc_59 (by decide) ?_
  exact mo_iret C0 hr hH d_M_calc_60 h
def f_M_calc_133  (y0 : Int32) (v : mS) : Option (Int32 × mS) := some (y0, v)
set_option maxHeartbeats 4000000 in
set_option maxRecDepth 100000 in
theorem w_M_calc_133 {p : Program} {l : Launch} {e : Env} {s : State} {m : MethodId} {args : Array Value} {below : List Frame} {meth : Method} {c : Code} {D : va_G} {cI : ClassId} {A : Nat → Prop} {q : Nat → Nat} {o : Int32 × mS} (C0 : mo_C b_M_calc 6 D cI A p s m args meth c) (hr : meth.sig.returnType = (some .int)) : ∀ (y0 : Int32) (v : mS) (H : Heap) (locs : List Loc) (ls : Array Slot), f_M_calc_133  y0 v = some o → mo_H D cI A s q v H locs → lv_has ls 6 [] → W p l e (mo_rm 6) s m args below meth c H locs 0 0 (MQ below (mo_Qi D cI q o.1 o.2 A) args s 0 0 A) (F0 m 133 ls [.int y0]) := by
  have hx := C0.1
  have hb := C0.2.1
  intro y0 v H locs ls h hH hl
  unfold f_M_calc_133 at h
  exact mo_iret C0 hr hH d_M_calc_133 h
def f_M_calc_41  (x1 : Int32) (x2 : Int32) (x3 : Int32) (v : mS) : Option (Int32 × mS) := bi (f_M_kindOf v x2) fun r_3 v_1 => if r_3 = 3 then (bi (f_M_kindOf v_1 x3) fun r_7 v_5 => if r_7 = 3 then (if x1 = 1 then (bi (f_M_num v_5 x2) fun r_30 v_28 => bi (f_M_num v_28 x3) fun r_33 v_31 => bi (f_M_decimal v_31 (r_30 - r_33)) fun r_36 v_34 => some (r_36, v_34)) else (if x1 = 2 then (bi (f_M_product v_5 x2 x3) fun r_27 v_25 => some (r_27, v_25)) else (bi (f_M_num v_5 x3) fun r_13 v_11 => nm (r_13 / 1000000) fun x4_15 => if (lg_cmp x4_15 0) = 0 then (f_M_calc_133 (-2) v_11) else (bi (f_M_num v_11 x2) fun r_19 v_17 => gd (decide (x4_15 ≠ 0)) (bi (f_M_whole v_17 ((r_19 / 1000000) - (r_19 / 1000000) / x4_15 * x4_15)) fun r_24 v_22 => f_M_calc_133 r_24 v_22))))) else (f_M_calc_59 v_5)) else (f_M_calc_59 v_1)
set_option maxHeartbeats 4000000 in
set_option maxRecDepth 100000 in
theorem w_M_calc_41 {p : Program} {l : Launch} {e : Env} {s : State} {m : MethodId} {args : Array Value} {below : List Frame} {meth : Method} {c : Code} {D : va_G} {cI : ClassId} {A : Nat → Prop} {q : Nat → Nat} {o : Int32 × mS} (C0 : mo_C b_M_calc 6 D cI A p s m args meth c) (hr : meth.sig.returnType = (some .int)) : ∀ (x1 : Int32) (x2 : Int32) (x3 : Int32) (v : mS) (H : Heap) (locs : List Loc) (ls : Array Slot), f_M_calc_41  x1 x2 x3 v = some o → mo_H D cI A s q v H locs → lv_has ls 6 [(0, .ref (q 0)), (1, .int x1), (2, .int x2), (3, .int x3)] → W p l e (mo_rm 6) s m args below meth c H locs 0 0 (MQ below (mo_Qi D cI q o.1 o.2 A) args s 0 0 A) (F0 m 41 ls []) := by
  have hx := C0.1
  have hb := C0.2.1
  intro x1 x2 x3 v H locs ls h hH hl
  unfold f_M_calc_41 at h
  refine lv_aload_n hx hb d_M_calc_41 rfl (lv_at hl 0 rfl) ?_
  refine lv_iload_n hx hb d_M_calc_42 rfl (lv_at hl 2 rfl) ?_
  obtain ⟨r_3, v_1, hc_2, h⟩ := bi_out h
  refine mo_ci (r := r_3) (w := v_1) (as := [.int x2]) (rest := []) C0 hH (c_M_kindOf hc_2) yy_M_kindOf q_1107 q_109 (by decide) rfl hl.1 rfl (Nat.le_of_ble_eq_true rfl) ⟨Nat.zero_le _, Nat.zero_le _⟩ d_M_calc_43 (fun H locs hH => ?_)
  refine lv_iconst (v := 3) hx hb d_M_calc_46 (by decide) ?_
  refine lv_icmp_ne (tgt := 59) hx hb d_M_calc_47 (by decide) (fun c_4 => ?_) (fun c_4 => ?_)
  · rw [if_neg c_4] at h
    exact w_M_calc_59 C0 hr   _ _ _ _ h hH (lv_sub hl [] rfl)
  · rw [if_pos c_4] at h
    refine lv_aload_n hx hb d_M_calc_50 rfl (lv_at hl 0 rfl) ?_
    refine lv_iload_n hx hb d_M_calc_51 rfl (lv_at hl 3 rfl) ?_
    obtain ⟨r_7, v_5, hc_6, h⟩ := bi_out h
    refine mo_ci (r := r_7) (w := v_5) (as := [.int x3]) (rest := []) C0 hH (c_M_kindOf hc_6) yy_M_kindOf q_1107 q_109 (by decide) rfl hl.1 rfl (Nat.le_of_ble_eq_true rfl) ⟨Nat.zero_le _, Nat.zero_le _⟩ d_M_calc_52 (fun H locs hH => ?_)
    refine lv_iconst (v := 3) hx hb d_M_calc_55 (by decide) ?_
    refine lv_icmp_eq (tgt := 61) hx hb d_M_calc_56 (by decide) (fun c_8 => ?_) (fun c_8 => ?_)
    · rw [if_pos c_8] at h
      refine lv_iload_n hx hb d_M_calc_61 rfl (lv_at hl 1 rfl) ?_
      refine lv_iconst (v := 1) hx hb d_M_calc_62 (by decide) ?_
      refine lv_icmp_ne (tgt := 82) hx hb d_M_calc_63 (by decide) (fun c_9 => ?_) (fun c_9 => ?_)
      · rw [if_neg c_9] at h
        refine lv_iload_n hx hb d_M_calc_82 rfl (lv_at hl 1 rfl) ?_
        refine lv_iconst (v := 2) hx hb d_M_calc_83 (by decide) ?_
        refine lv_icmp_ne (tgt := 94) hx hb d_M_calc_84 (by decide) (fun c_10 => ?_) (fun c_10 => ?_)
        · rw [if_neg c_10] at h
          refine lv_aload_n hx hb d_M_calc_94 rfl (lv_at hl 0 rfl) ?_
          refine lv_iload_n hx hb d_M_calc_95 rfl (lv_at hl 3 rfl) ?_
          obtain ⟨r_13, v_11, hc_12, h⟩ := bi_out h
          refine mo_cl (r := r_13) (w := v_11) (as := [.int x3]) (rest := []) C0 hH (c_M_num hc_12) yy_M_num q_1182 q_109 (by decide) rfl hl.1 rfl (Nat.le_of_ble_eq_true rfl) ⟨Nat.zero_le _, Nat.zero_le _⟩ d_M_calc_96 (fun H locs hH => ?_)
          refine lv_ldc2 (v := 1000000) hx hb C0.2.2.1 (C0.2.2.2.1 _ q_1191) d_M_calc_99 ?_
          refine lv_ldiv hx hb d_M_calc_102 (by decide) ?_
          obtain ⟨x4_15, hx4_15, h⟩ := nm_out h
          refine fu_l hx4_15 ?_
          refine lv_lstore (lv' := [(4, .long x4_15), (0, .ref (q 0)), (1, .int x1), (2, .int x2), (3, .int x3)]) hx hb d_M_calc_103 hl (by decide) rfl (fun ls hl => ?_)
          refine lv_lload hx hb d_M_calc_105 (lv_at hl 0 rfl) ?_
          refine lv_lconst (v := 0) hx hb d_M_calc_107 (by decide) ?_
          refine W.lcmp hx hb d_M_calc_108 ?_
          refine lv_if_ne (tgt := 117) hx hb d_M_calc_109 (by decide) (fun c_16 => ?_) (fun c_16 => ?_)
          · rw [if_neg c_16] at h
            refine lv_aload_n hx hb d_M_calc_117 rfl (lv_at hl 1 rfl) ?_
            refine lv_aload_n hx hb d_M_calc_118 rfl (lv_at hl 1 rfl) ?_
            refine lv_iload_n hx hb d_M_calc_119 rfl (lv_at hl 3 rfl) ?_
            obtain ⟨r_19, v_17, hc_18, h⟩ := bi_out h
            refine mo_cl (r := r_19) (w := v_17) (as := [.int x2]) (rest := [.ref (q 0)]) C0 hH (c_M_num hc_18) yy_M_num q_1182 q_109 (by decide) rfl hl.1 rfl (Nat.le_of_ble_eq_true rfl) ⟨Nat.zero_le _, Nat.zero_le _⟩ d_M_calc_120 (fun H locs hH => ?_)
            refine lv_ldc2 (v := 1000000) hx hb C0.2.2.1 (C0.2.2.2.1 _ q_1191) d_M_calc_123 ?_
            refine lv_ldiv hx hb d_M_calc_126 (by decide) ?_
            refine lv_lload hx hb d_M_calc_127 (lv_at hl 0 rfl) ?_
            obtain ⟨g_21, h⟩ := gd_out h
            refine lv_lrem hx hb d_M_calc_129 (ne_gdl g_21) ?_
            obtain ⟨r_24, v_22, hc_23, h⟩ := bi_out h
            refine mo_ci (r := r_24) (w := v_22) (as := [.long ((r_19 / 1000000) - (r_19 / 1000000) / x4_15 * x4_15)]) (rest := []) C0 hH (c_M_whole hc_23) yy_M_whole q_1187 q_109 (by decide) rfl hl.1 rfl (Nat.le_of_ble_eq_true rfl) ⟨Nat.zero_le _, Nat.zero_le _⟩ d_M_calc_130 (fun H locs hH => ?_)
            exact w_M_calc_133 C0 hr  _ _ _ _ _ h hH (lv_sub hl [] rfl)
          · rw [if_pos c_16] at h
            refine lv_bipush (v := (-2)) hx hb d_M_calc_112 (by decide) ?_
            refine lv_goto (tgt := 133) hx hb d_M_calc_114 (by decide) ?_
            exact w_M_calc_133 C0 hr  _ _ _ _ _ h hH (lv_sub hl [] rfl)
        · rw [if_pos c_10] at h
          refine lv_aload_n hx hb d_M_calc_87 rfl (lv_at hl 0 rfl) ?_
          refine lv_iload_n hx hb d_M_calc_88 rfl (lv_at hl 2 rfl) ?_
          refine lv_iload_n hx hb d_M_calc_89 rfl (lv_at hl 3 rfl) ?_
          obtain ⟨r_27, v_25, hc_26, h⟩ := bi_out h
          refine mo_ci (r := r_27) (w := v_25) (as := [.int x2, .int x3]) (rest := []) C0 hH (c_M_product hc_26) yy_M_product q_1315 q_109 (by decide) rfl hl.1 rfl (Nat.le_of_ble_eq_true rfl) ⟨Nat.zero_le _, Nat.zero_le _⟩ d_M_calc_90 (fun H locs hH => ?_)
          exact mo_iret C0 hr hH d_M_calc_93 h
      · rw [if_pos c_9] at h
        refine lv_aload_n hx hb d_M_calc_66 rfl (lv_at hl 0 rfl) ?_
        refine lv_aload_n hx hb d_M_calc_67 rfl (lv_at hl 0 rfl) ?_
        refine lv_iload_n hx hb d_M_calc_68 rfl (lv_at hl 2 rfl) ?_
        obtain ⟨r_30, v_28, hc_29, h⟩ := bi_out h
        refine mo_cl (r := r_30) (w := v_28) (as := [.int x2]) (rest := [.ref (q 0)]) C0 hH (c_M_num hc_29) yy_M_num q_1182 q_109 (by decide) rfl hl.1 rfl (Nat.le_of_ble_eq_true rfl) ⟨Nat.zero_le _, Nat.zero_le _⟩ d_M_calc_69 (fun H locs hH => ?_)
        refine lv_aload_n hx hb d_M_calc_72 rfl (lv_at hl 0 rfl) ?_
        refine lv_iload_n hx hb d_M_calc_73 rfl (lv_at hl 3 rfl) ?_
        obtain ⟨r_33, v_31, hc_32, h⟩ := bi_out h
        refine mo_cl (r := r_33) (w := v_31) (as := [.int x3]) (rest := [.long r_30, .ref (q 0)]) C0 hH (c_M_num hc_32) yy_M_num q_1182 q_109 (by decide) rfl hl.1 rfl (Nat.le_of_ble_eq_true rfl) ⟨Nat.zero_le _, Nat.zero_le _⟩ d_M_calc_74 (fun H locs hH => ?_)
        refine lv_lsub hx hb d_M_calc_77 ?_
        obtain ⟨r_36, v_34, hc_35, h⟩ := bi_out h
        refine mo_ci (r := r_36) (w := v_34) (as := [.long (r_30 - r_33)]) (rest := []) C0 hH (c_M_decimal hc_35) yy_M_decimal q_1155 q_109 (by decide) rfl hl.1 rfl (Nat.le_of_ble_eq_true rfl) ⟨Nat.zero_le _, Nat.zero_le _⟩ d_M_calc_78 (fun H locs hH => ?_)
        exact mo_iret C0 hr hH d_M_calc_81 h
    · rw [if_neg c_8] at h
      exact w_M_calc_59 C0 hr   _ _ _ _ h hH (lv_sub hl [] rfl)
def f_M_calc (v : mS) (x1 : Int32) (x2 : Int32) (x3 : Int32) : Option (Int32 × mS) := if x1 = 0 then (bi (f_M_added v x2 x3) fun r_16 v_14 => some (r_16, v_14)) else (if x1 = 1 then (bi (f_M_kindOf v x2) fun r_5 v_3 => if r_5 = 5 then (bi (f_M_kindOf v_3 x3) fun r_9 v_7 => if r_9 = 5 then (bi (f_M_without v_7 x2 x3) fun r_13 v_11 => some (r_13, v_11)) else (f_M_calc_41 x1 x2 x3 v_7)) else (f_M_calc_41 x1 x2 x3 v_3)) else (f_M_calc_41 x1 x2 x3 v))
set_option maxHeartbeats 4000000 in
set_option maxRecDepth 100000 in
theorem c_M_calc {l : Launch} {D : va_G} {cI : ClassId} {q : Nat → Nat} {v : mS} {x1 : Int32} {x2 : Int32} {x3 : Int32} {o : Int32 × mS} (h : f_M_calc v x1 x2 x3 = some o) : mo_M l D cI q 6 y_M_calc b_M_calc 6 (some .int) [.ref (q 0), .int x1, .int x2, .int x3] v (mo_Qi D cI q o.1 o.2) := by
  refine mo_of (by decide +kernel) rfl (Nat.le_of_ble_eq_true rfl) ?_
  intro p e s m below meth c A ls C0 hr hl hH
  have hx := C0.1
  have hb := C0.2.1
  have hl : lv_has ls 6 [(0, .ref (q 0)), (1, .int x1), (2, .int x2), (3, .int x3)] := hl
  unfold f_M_calc at h
  refine lv_iload_n hx hb d_M_calc_0 rfl (lv_at hl 1 rfl) ?_
  refine lv_if_ne (tgt := 11) hx hb d_M_calc_1 (by decide) (fun c_1 => ?_) (fun c_1 => ?_)
  · rw [if_neg c_1] at h
    refine lv_iload_n hx hb d_M_calc_11 rfl (lv_at hl 1 rfl) ?_
    refine lv_iconst (v := 1) hx hb d_M_calc_12 (by decide) ?_
    refine lv_icmp_ne (tgt := 41) hx hb d_M_calc_13 (by decide) (fun c_2 => ?_) (fun c_2 => ?_)
    · rw [if_neg c_2] at h
      exact w_M_calc_41 C0 hr  _ _ _ _ _ _ _ h hH (lv_sub hl [0, 1, 2, 3] rfl)
    · rw [if_pos c_2] at h
      refine lv_aload_n hx hb d_M_calc_16 rfl (lv_at hl 0 rfl) ?_
      refine lv_iload_n hx hb d_M_calc_17 rfl (lv_at hl 2 rfl) ?_
      obtain ⟨r_5, v_3, hc_4, h⟩ := bi_out h
      refine mo_ci (r := r_5) (w := v_3) (as := [.int x2]) (rest := []) C0 hH (c_M_kindOf hc_4) yy_M_kindOf q_1107 q_109 (by decide) rfl hl.1 rfl (Nat.le_of_ble_eq_true rfl) ⟨Nat.zero_le _, Nat.zero_le _⟩ d_M_calc_18 (fun H locs hH => ?_)
      refine lv_iconst (v := 5) hx hb d_M_calc_21 (by decide) ?_
      refine lv_icmp_ne (tgt := 41) hx hb d_M_calc_22 (by decide) (fun c_6 => ?_) (fun c_6 => ?_)
      · rw [if_neg c_6] at h
        exact w_M_calc_41 C0 hr  _ _ _ _ _ _ _ h hH (lv_sub hl [0, 1, 2, 3] rfl)
      · rw [if_pos c_6] at h
        refine lv_aload_n hx hb d_M_calc_25 rfl (lv_at hl 0 rfl) ?_
        refine lv_iload_n hx hb d_M_calc_26 rfl (lv_at hl 3 rfl) ?_
        obtain ⟨r_9, v_7, hc_8, h⟩ := bi_out h
        refine mo_ci (r := r_9) (w := v_7) (as := [.int x3]) (rest := []) C0 hH (c_M_kindOf hc_8) yy_M_kindOf q_1107 q_109 (by decide) rfl hl.1 rfl (Nat.le_of_ble_eq_true rfl) ⟨Nat.zero_le _, Nat.zero_le _⟩ d_M_calc_27 (fun H locs hH => ?_)
        refine lv_iconst (v := 5) hx hb d_M_calc_30 (by decide) ?_
        refine lv_icmp_ne (tgt := 41) hx hb d_M_calc_31 (by decide) (fun c_10 => ?_) (fun c_10 => ?_)
        · rw [if_neg c_10] at h
          exact w_M_calc_41 C0 hr  _ _ _ _ _ _ _ h hH (lv_sub hl [0, 1, 2, 3] rfl)
        · rw [if_pos c_10] at h
          refine lv_aload_n hx hb d_M_calc_34 rfl (lv_at hl 0 rfl) ?_
          refine lv_iload_n hx hb d_M_calc_35 rfl (lv_at hl 2 rfl) ?_
          refine lv_iload_n hx hb d_M_calc_36 rfl (lv_at hl 3 rfl) ?_
          obtain ⟨r_13, v_11, hc_12, h⟩ := bi_out h
          refine mo_ci (r := r_13) (w := v_11) (as := [.int x2, .int x3]) (rest := []) C0 hH (c_M_without hc_12) yy_M_without q_1307 q_109 (by decide) rfl hl.1 rfl (Nat.le_of_ble_eq_true rfl) ⟨Nat.zero_le _, Nat.zero_le _⟩ d_M_calc_37 (fun H locs hH => ?_)
          exact mo_iret C0 hr hH d_M_calc_40 h
  · rw [if_pos c_1] at h
    refine lv_aload_n hx hb d_M_calc_4 rfl (lv_at hl 0 rfl) ?_
    refine lv_iload_n hx hb d_M_calc_5 rfl (lv_at hl 2 rfl) ?_
    refine lv_iload_n hx hb d_M_calc_6 rfl (lv_at hl 3 rfl) ?_
    obtain ⟨r_16, v_14, hc_15, h⟩ := bi_out h
    refine mo_ci (r := r_16) (w := v_14) (as := [.int x2, .int x3]) (rest := []) C0 hH (c_M_added hc_15) yy_M_added q_1220 q_109 (by decide) rfl hl.1 rfl (Nat.le_of_ble_eq_true rfl) ⟨Nat.zero_le _, Nat.zero_le _⟩ d_M_calc_7 (fun H locs hH => ?_)
    exact mo_iret C0 hr hH d_M_calc_10 h
theorem yy_M_compared : mo_Y y_M_compared b_M_compared 6 (some .int) 3 := ⟨rfl, q_1329, q_100, q_1330, by decide +kernel⟩
def f_M_compared_121  (y0 : Int32) (v : mS) : Option (Int32 × mS) := some (y0, v)
set_option maxHeartbeats 4000000 in
set_option maxRecDepth 100000 in
theorem w_M_compared_121 {p : Program} {l : Launch} {e : Env} {s : State} {m : MethodId} {args : Array Value} {below : List Frame} {meth : Method} {c : Code} {D : va_G} {cI : ClassId} {A : Nat → Prop} {q : Nat → Nat} {o : Int32 × mS} (C0 : mo_C b_M_compared 6 D cI A p s m args meth c) (hr : meth.sig.returnType = (some .int)) : ∀ (y0 : Int32) (v : mS) (H : Heap) (locs : List Loc) (ls : Array Slot), f_M_compared_121  y0 v = some o → mo_H D cI A s q v H locs → lv_has ls 6 [] → W p l e (mo_rm 4) s m args below meth c H locs 0 0 (MQ below (mo_Qi D cI q o.1 o.2 A) args s 0 0 A) (F0 m 121 ls [.int y0]) := by
  have hx := C0.1
  have hb := C0.2.1
  intro y0 v H locs ls h hH hl
  unfold f_M_compared_121 at h
  exact mo_iret C0 hr hH d_M_compared_121 h
def f_M_compared_107  (y0 : Int32) (v : mS) : Option (Int32 × mS) := if y0 = 0 then (f_M_compared_121 8 v) else (f_M_compared_121 12 v)
set_option maxHeartbeats 4000000 in
set_option maxRecDepth 100000 in
theorem w_M_compared_107 {p : Program} {l : Launch} {e : Env} {s : State} {m : MethodId} {args : Array Value} {below : List Frame} {meth : Method} {c : Code} {D : va_G} {cI : ClassId} {A : Nat → Prop} {q : Nat → Nat} {o : Int32 × mS} (C0 : mo_C b_M_compared 6 D cI A p s m args meth c) (hr : meth.sig.returnType = (some .int)) : ∀ (y0 : Int32) (v : mS) (H : Heap) (locs : List Loc) (ls : Array Slot), f_M_compared_107  y0 v = some o → mo_H D cI A s q v H locs → lv_has ls 6 [] → W p l e (mo_rm 4) s m args below meth c H locs 0 0 (MQ below (mo_Qi D cI q o.1 o.2 A) args s 0 0 A) (F0 m 107 ls [.int y0]) := by
  have hx := C0.1
  have hb := C0.2.1
  intro y0 v H locs ls h hH hl
  unfold f_M_compared_107 at h
  refine lv_istore (lv' := [(5, .int y0)]) hx hb d_M_compared_107 hl (by decide) rfl (fun ls hl => ?_)
  refine lv_iload hx hb d_M_compared_109 (lv_at hl 0 rfl) ?_
  refine lv_if_eq (tgt := 119) hx hb d_M_compared_111 (by decide) (fun c_1 => ?_) (fun c_1 => ?_)
  · rw [if_pos c_1] at h
    refine lv_bipush (v := 8) hx hb d_M_compared_119 (by decide) ?_
    exact w_M_compared_121 C0 hr  _ _ _ _ _ h hH (lv_sub hl [] rfl)
  · rw [if_neg c_1] at h
    refine lv_bipush (v := 12) hx hb d_M_compared_114 (by decide) ?_
    refine lv_goto (tgt := 121) hx hb d_M_compared_116 (by decide) ?_
    exact w_M_compared_121 C0 hr  _ _ _ _ _ h hH (lv_sub hl [] rfl)
def f_M_compared (v : mS) (x1 : Int32) (x2 : Int32) (x3 : Int32) : Option (Int32 × mS) := bi (f_M_ordered v x2 x3) fun r_3 v_1 => if x1 = 0 then (if r_3 = 0 then (f_M_compared_107 1 v_1) else (f_M_compared_107 0 v_1)) else (if x1 = 1 then (if r_3 = 0 then (f_M_compared_107 0 v_1) else (f_M_compared_107 1 v_1)) else (if x1 = 2 then (if 0 ≤ r_3 then (f_M_compared_107 0 v_1) else (f_M_compared_107 1 v_1)) else (if x1 = 3 then (if 0 < r_3 then (f_M_compared_107 0 v_1) else (f_M_compared_107 1 v_1)) else (if x1 = 4 then (if r_3 ≤ 0 then (f_M_compared_107 0 v_1) else (f_M_compared_107 1 v_1)) else (if r_3 < 0 then (f_M_compared_107 0 v_1) else (f_M_compared_107 1 v_1))))))
set_option maxHeartbeats 4000000 in
set_option maxRecDepth 100000 in
theorem c_M_compared {l : Launch} {D : va_G} {cI : ClassId} {q : Nat → Nat} {v : mS} {x1 : Int32} {x2 : Int32} {x3 : Int32} {o : Int32 × mS} (h : f_M_compared v x1 x2 x3 = some o) : mo_M l D cI q 4 y_M_compared b_M_compared 6 (some .int) [.ref (q 0), .int x1, .int x2, .int x3] v (mo_Qi D cI q o.1 o.2) := by
  refine mo_of (by decide +kernel) rfl (Nat.le_of_ble_eq_true rfl) ?_
  intro p e s m below meth c A ls C0 hr hl hH
  have hx := C0.1
  have hb := C0.2.1
  have hl : lv_has ls 6 [(0, .ref (q 0)), (1, .int x1), (2, .int x2), (3, .int x3)] := hl
  unfold f_M_compared at h
  refine lv_aload_n hx hb d_M_compared_0 rfl (lv_at hl 0 rfl) ?_
  refine lv_iload_n hx hb d_M_compared_1 rfl (lv_at hl 2 rfl) ?_
  refine lv_iload_n hx hb d_M_compared_2 rfl (lv_at hl 3 rfl) ?_
  obtain ⟨r_3, v_1, hc_2, h⟩ := bi_out h
  refine mo_ci (r := r_3) (w := v_1) (as := [.int x2, .int x3]) (rest := []) C0 hH (c_M_ordered hc_2) yy_M_ordered q_1208 q_109 (by decide) rfl hl.1 rfl (Nat.le_of_ble_eq_true rfl) ⟨Nat.zero_le _, Nat.zero_le _⟩ d_M_compared_3 (fun H locs hH => ?_)
  refine lv_istore (lv' := [(4, .int r_3), (0, .ref (q 0)), (1, .int x1), (2, .int x2), (3, .int x3)]) hx hb d_M_compared_6 hl (by decide) rfl (fun ls hl => ?_)
  refine lv_iload_n hx hb d_M_compared_8 rfl (lv_at hl 2 rfl) ?_
  refine lv_if_ne (tgt := 25) hx hb d_M_compared_9 (by decide) (fun c_4 => ?_) (fun c_4 => ?_)
  · rw [if_neg c_4] at h
    refine lv_iload_n hx hb d_M_compared_25 rfl (lv_at hl 2 rfl) ?_
    refine lv_iconst (v := 1) hx hb d_M_compared_26 (by decide) ?_
    refine lv_icmp_ne (tgt := 43) hx hb d_M_compared_27 (by decide) (fun c_5 => ?_) (fun c_5 => ?_)
    · rw [if_neg c_5] at h
      refine lv_iload_n hx hb d_M_compared_43 rfl (lv_at hl 2 rfl) ?_
      refine lv_iconst (v := 2) hx hb d_M_compared_44 (by decide) ?_
      refine lv_icmp_ne (tgt := 61) hx hb d_M_compared_45 (by decide) (fun c_6 => ?_) (fun c_6 => ?_)
      · rw [if_neg c_6] at h
        refine lv_iload_n hx hb d_M_compared_61 rfl (lv_at hl 2 rfl) ?_
        refine lv_iconst (v := 3) hx hb d_M_compared_62 (by decide) ?_
        refine lv_icmp_ne (tgt := 79) hx hb d_M_compared_63 (by decide) (fun c_7 => ?_) (fun c_7 => ?_)
        · rw [if_neg c_7] at h
          refine lv_iload_n hx hb d_M_compared_79 rfl (lv_at hl 2 rfl) ?_
          refine lv_iconst (v := 4) hx hb d_M_compared_80 (by decide) ?_
          refine lv_icmp_ne (tgt := 97) hx hb d_M_compared_81 (by decide) (fun c_8 => ?_) (fun c_8 => ?_)
          · rw [if_neg c_8] at h
            refine lv_iload hx hb d_M_compared_97 (lv_at hl 0 rfl) ?_
            refine lv_if_lt (tgt := 106) hx hb d_M_compared_99 (by decide) (fun c_9 => ?_) (fun c_9 => ?_)
            · rw [if_pos c_9] at h
              refine lv_iconst (v := 0) hx hb d_M_compared_106 (by decide) ?_
              exact w_M_compared_107 C0 hr  _ _ _ _ _ h hH (lv_sub hl [] rfl)
            · rw [if_neg c_9] at h
              refine lv_iconst (v := 1) hx hb d_M_compared_102 (by decide) ?_
              refine lv_goto (tgt := 107) hx hb d_M_compared_103 (by decide) ?_
              exact w_M_compared_107 C0 hr  _ _ _ _ _ h hH (lv_sub hl [] rfl)
          · rw [if_pos c_8] at h
            refine lv_iload hx hb d_M_compared_84 (lv_at hl 0 rfl) ?_
            refine lv_if_le (tgt := 93) hx hb d_M_compared_86 (by decide) (fun c_10 => ?_) (fun c_10 => ?_)
            · rw [if_pos c_10] at h
              refine lv_iconst (v := 0) hx hb d_M_compared_93 (by decide) ?_
              refine lv_goto (tgt := 107) hx hb d_M_compared_94 (by decide) ?_
              exact w_M_compared_107 C0 hr  _ _ _ _ _ h hH (lv_sub hl [] rfl)
            · rw [if_neg c_10] at h
              refine lv_iconst (v := 1) hx hb d_M_compared_89 (by decide) ?_
              refine lv_goto (tgt := 107) hx hb d_M_compared_90 (by decide) ?_
              exact w_M_compared_107 C0 hr  _ _ _ _ _ h hH (lv_sub hl [] rfl)
        · rw [if_pos c_7] at h
          refine lv_iload hx hb d_M_compared_66 (lv_at hl 0 rfl) ?_
          refine lv_if_gt (tgt := 75) hx hb d_M_compared_68 (by decide) (fun c_11 => ?_) (fun c_11 => ?_)
          · rw [if_pos c_11] at h
            refine lv_iconst (v := 0) hx hb d_M_compared_75 (by decide) ?_
            refine lv_goto (tgt := 107) hx hb d_M_compared_76 (by decide) ?_
            exact w_M_compared_107 C0 hr  _ _ _ _ _ h hH (lv_sub hl [] rfl)
          · rw [if_neg c_11] at h
            refine lv_iconst (v := 1) hx hb d_M_compared_71 (by decide) ?_
            refine lv_goto (tgt := 107) hx hb d_M_compared_72 (by decide) ?_
            exact w_M_compared_107 C0 hr  _ _ _ _ _ h hH (lv_sub hl [] rfl)
      · rw [if_pos c_6] at h
        refine lv_iload hx hb d_M_compared_48 (lv_at hl 0 rfl) ?_
        refine lv_if_ge (tgt := 57) hx hb d_M_compared_50 (by decide) (fun c_12 => ?_) (fun c_12 => ?_)
        · rw [if_pos c_12] at h
          refine lv_iconst (v := 0) hx hb d_M_compared_57 (by decide) ?_
          refine lv_goto (tgt := 107) hx hb d_M_compared_58 (by decide) ?_
          exact w_M_compared_107 C0 hr  _ _ _ _ _ h hH (lv_sub hl [] rfl)
        · rw [if_neg c_12] at h
          refine lv_iconst (v := 1) hx hb d_M_compared_53 (by decide) ?_
          refine lv_goto (tgt := 107) hx hb d_M_compared_54 (by decide) ?_
          exact w_M_compared_107 C0 hr  _ _ _ _ _ h hH (lv_sub hl [] rfl)
    · rw [if_pos c_5] at h
      refine lv_iload hx hb d_M_compared_30 (lv_at hl 0 rfl) ?_
      refine lv_if_eq (tgt := 39) hx hb d_M_compared_32 (by decide) (fun c_13 => ?_) (fun c_13 => ?_)
      · rw [if_pos c_13] at h
        refine lv_iconst (v := 0) hx hb d_M_compared_39 (by decide) ?_
        refine lv_goto (tgt := 107) hx hb d_M_compared_40 (by decide) ?_
        exact w_M_compared_107 C0 hr  _ _ _ _ _ h hH (lv_sub hl [] rfl)
      · rw [if_neg c_13] at h
        refine lv_iconst (v := 1) hx hb d_M_compared_35 (by decide) ?_
        refine lv_goto (tgt := 107) hx hb d_M_compared_36 (by decide) ?_
        exact w_M_compared_107 C0 hr  _ _ _ _ _ h hH (lv_sub hl [] rfl)
  · rw [if_pos c_4] at h
    refine lv_iload hx hb d_M_compared_12 (lv_at hl 0 rfl) ?_
    refine lv_if_ne (tgt := 21) hx hb d_M_compared_14 (by decide) (fun c_14 => ?_) (fun c_14 => ?_)
    · rw [if_neg c_14] at h
      refine lv_iconst (v := 0) hx hb d_M_compared_21 (by decide) ?_
      refine lv_goto (tgt := 107) hx hb d_M_compared_22 (by decide) ?_
      exact w_M_compared_107 C0 hr  _ _ _ _ _ h hH (lv_sub hl [] rfl)
    · rw [if_pos c_14] at h
      refine lv_iconst (v := 1) hx hb d_M_compared_17 (by decide) ?_
      refine lv_goto (tgt := 107) hx hb d_M_compared_18 (by decide) ?_
      exact w_M_compared_107 C0 hr  _ _ _ _ _ h hH (lv_sub hl [] rfl)
