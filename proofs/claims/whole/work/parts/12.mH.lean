/-! methods of the reference (by program: wip/gen/mgen.py all leaf first arrayOfGot finish) -/
theorem yy_M_all : mo_Y y_M_all b_M_all 4 none 1 := ⟨rfl, q_1234, q_77, q_1235, by decide +kernel⟩
def f_M_all_76 (K16 : Int32 → mS → Option (mS)) : Nat → Int32 → Int32 → Int32 → mS → Option (mS)
  | 0, _, _, _, _ => none
  | n + 1, x1, x2, x3, v => if x3 < 0 then (K16 x1 v) else (bi (f_M_item v x2 x3) fun r_4 v_2 => bv (f_M_pair v_2 r_4 0) fun v_5 => nm (x3 + (-1)) fun x3_7 => f_M_all_76 K16 n x1 x2 x3_7 v_5)
set_option maxHeartbeats 4000000 in
set_option maxRecDepth 100000 in
theorem w_M_all_76 {p : Program} {l : Launch} {e : Env} {s : State} {m : MethodId} {args : Array Value} {below : List Frame} {meth : Method} {c : Code} {D : va_G} {cI : ClassId} {A : Nat → Prop} {q : Nat → Nat} {o : mS} (C0 : mo_C b_M_all 4 D cI A p s m args meth c) (hr : meth.sig.returnType = none) {K16 : Int32 → mS → Option (mS)} (hK16 : ∀ (x1 : Int32) (v : mS) (H : Heap) (locs : List Loc) (ls : Array Slot), K16 x1 v = some o → mo_H D cI A s q v H locs → lv_has ls 4 [(0, .ref (q 0)), (1, .int x1)] → W p l e (mo_rm 1) s m args below meth c H locs 0 0 (MQ below (mo_Qv D cI q o A) args s 0 0 A) (F0 m 16 ls [])) : ∀ (n : Nat) (x1 : Int32) (x2 : Int32) (x3 : Int32) (v : mS) (H : Heap) (locs : List Loc) (ls : Array Slot), f_M_all_76 K16 n x1 x2 x3 v = some o → mo_H D cI A s q v H locs → lv_has ls 4 [(0, .ref (q 0)), (1, .int x1), (2, .int x2), (3, .int x3)] → W p l e (mo_rm 1) s m args below meth c H locs 0 0 (MQ below (mo_Qv D cI q o A) args s 0 0 A) (F0 m 76 ls []) := by
  have hx := C0.1
  have hb := C0.2.1
  intro n
  induction n with
  | zero =>
    intro x1 x2 x3 v H locs ls h hH hl
    cases h
  | succ n ih =>
    intro x1 x2 x3 v H locs ls h hH hl
    rw [f_M_all_76] at h
    refine lv_iload_n hx hb d_M_all_76 rfl (lv_at hl 3 rfl) ?_
    refine lv_if_lt (tgt := 97) hx hb d_M_all_77 (by decide) (fun c_1 => ?_) (fun c_1 => ?_)
    · rw [if_pos c_1] at h
      refine lv_goto (tgt := 16) hx hb d_M_all_97 (by decide) ?_
      exact hK16 _ _ _ _ _ h hH (lv_sub hl [0, 1] rfl)
    · rw [if_neg c_1] at h
      refine lv_aload_n hx hb d_M_all_80 rfl (lv_at hl 0 rfl) ?_
      refine lv_aload_n hx hb d_M_all_81 rfl (lv_at hl 0 rfl) ?_
      refine lv_iload_n hx hb d_M_all_82 rfl (lv_at hl 2 rfl) ?_
      refine lv_iload_n hx hb d_M_all_83 rfl (lv_at hl 3 rfl) ?_
      obtain ⟨r_4, v_2, hc_3, h⟩ := bi_out h
      refine mo_ci (r := r_4) (w := v_2) (as := [.int x2, .int x3]) (rest := [.ref (q 0)]) C0 hH (c_M_item hc_3) yy_M_item q_1142 q_109 (by decide) rfl hl.1 rfl (Nat.le_of_ble_eq_true rfl) ⟨Nat.zero_le _, Nat.zero_le _⟩ d_M_all_84 (fun H locs hH => ?_)
      refine lv_iconst (v := 0) hx hb d_M_all_87 (by decide) ?_
      obtain ⟨v_5, hc_6, h⟩ := bv_out h
      refine mo_cv (w := v_5) (as := [.int r_4, .int 0]) (rest := []) C0 hH (c_M_pair hc_6) yy_M_pair q_1087 q_109 (by decide) rfl hl.1 rfl (Nat.le_of_ble_eq_true rfl) ⟨Nat.zero_le _, Nat.zero_le _⟩ d_M_all_88 (fun H locs hH => ?_)
      obtain ⟨x3_7, hx3_7, h⟩ := nm_out h
      refine lv_iinc (v := x3_7) (lv' := [(3, .int x3_7), (0, .ref (q 0)), (1, .int x1), (2, .int x2)]) hx hb d_M_all_91 hl (k := 3) rfl (by rw [hx3_7]; rfl) (by decide) rfl (fun ls hl => ?_)
      refine lv_goto (tgt := 76) hx hb d_M_all_94 (by decide) ?_
      exact ih _ _ _ _ _ _ _ h hH (lv_sub hl [1, 2, 3, 0] rfl)
def f_M_all_100   (v : mS) : Option (mS) := some v
set_option maxHeartbeats 4000000 in
set_option maxRecDepth 100000 in
theorem w_M_all_100 {p : Program} {l : Launch} {e : Env} {s : State} {m : MethodId} {args : Array Value} {below : List Frame} {meth : Method} {c : Code} {D : va_G} {cI : ClassId} {A : Nat → Prop} {q : Nat → Nat} {o : mS} (C0 : mo_C b_M_all 4 D cI A p s m args meth c) (hr : meth.sig.returnType = none) : ∀  (v : mS) (H : Heap) (locs : List Loc) (ls : Array Slot), f_M_all_100   v = some o → mo_H D cI A s q v H locs → lv_has ls 4 [] → W p l e (mo_rm 1) s m args below meth c H locs 0 0 (MQ below (mo_Qv D cI q o A) args s 0 0 A) (F0 m 100 ls []) := by
  have hx := C0.1
  have hb := C0.2.1
  intro  v H locs ls h hH hl
  unfold f_M_all_100 at h
  exact mo_vret C0 hr hH d_M_all_100 h
def f_M_all_16  : Nat → Int32 → mS → Option (mS)
  | 0, _, _ => none
  | n + 1, x1, v => if (v 0 18) ≤ 0 then (f_M_all_100 v) else (if (v 0 21) = 0 then (nm (sU v 0 18 ((v 0 18) - 1)) fun v_3 => gd (inB (v_3 0 18) 400) (nm (v_3 12 (v_3 0 18 : Int32).toNatClampNeg) fun x2_5 => bv (f_M_emit v_3 x1 x2_5) fun v_6 => bi (f_M_kindOf v_6 x2_5) fun r_10 v_8 => if 5 ≤ r_10 then (bi (f_M_size v_8 x2_5) fun r_14 v_12 => nm (r_14 - 1) fun x3_15 => f_M_all_76 (f_M_all_16 n) fu x1 x2_5 x3_15 v_12) else (f_M_all_16 n x1 v_8))) else (f_M_all_100 v))
set_option maxHeartbeats 4000000 in
set_option maxRecDepth 100000 in
theorem w_M_all_16 {p : Program} {l : Launch} {e : Env} {s : State} {m : MethodId} {args : Array Value} {below : List Frame} {meth : Method} {c : Code} {D : va_G} {cI : ClassId} {A : Nat → Prop} {q : Nat → Nat} {o : mS} (C0 : mo_C b_M_all 4 D cI A p s m args meth c) (hr : meth.sig.returnType = none) : ∀ (n : Nat) (x1 : Int32) (v : mS) (H : Heap) (locs : List Loc) (ls : Array Slot), f_M_all_16  n x1 v = some o → mo_H D cI A s q v H locs → lv_has ls 4 [(0, .ref (q 0)), (1, .int x1)] → W p l e (mo_rm 1) s m args below meth c H locs 0 0 (MQ below (mo_Qv D cI q o A) args s 0 0 A) (F0 m 16 ls []) := by
  have hx := C0.1
  have hb := C0.2.1
  intro n
  induction n with
  | zero =>
    intro x1 v H locs ls h hH hl
    cases h
  | succ n ih =>
    intro x1 v H locs ls h hH hl
    rw [f_M_all_16] at h
    refine lv_aload_n hx hb d_M_all_16 rfl (lv_at hl 0 rfl) ?_
    refine mo_g_depth C0 hH d_M_all_17 ?_
    refine lv_if_le (tgt := 100) hx hb d_M_all_20 (by decide) (fun c_1 => ?_) (fun c_1 => ?_)
    · rw [if_pos c_1] at h
      exact w_M_all_100 C0 hr   _ _ _ _ h hH (lv_sub hl [] rfl)
    · rw [if_neg c_1] at h
      refine lv_aload_n hx hb d_M_all_23 rfl (lv_at hl 0 rfl) ?_
      refine mo_g_noRoom C0 hH d_M_all_24 ?_
      refine lv_if_ne (tgt := 100) hx hb d_M_all_27 (by decide) (fun c_2 => ?_) (fun c_2 => ?_)
      · rw [if_neg c_2] at h
        exact w_M_all_100 C0 hr   _ _ _ _ h hH (lv_sub hl [] rfl)
      · rw [if_pos c_2] at h
        refine lv_aload_n hx hb d_M_all_30 rfl (lv_at hl 0 rfl) ?_
        refine lv_dup hx hb d_M_all_31 rfl ?_
        refine mo_g_depth C0 hH d_M_all_32 ?_
        refine lv_iconst (v := 1) hx hb d_M_all_35 (by decide) ?_
        refine lv_isub hx hb d_M_all_36 ?_
        obtain ⟨v_3, hv_3, h⟩ := nm_out h
        refine mo_p_depth C0 hH d_M_all_37 (fun H locs hH => ?_)
        rw [← hv_3] at hH
        refine lv_aload_n hx hb d_M_all_40 rfl (lv_at hl 0 rfl) ?_
        refine mo_r_stack C0 hH d_M_all_41 ?_
        refine lv_aload_n hx hb d_M_all_44 rfl (lv_at hl 0 rfl) ?_
        refine mo_g_depth C0 hH d_M_all_45 ?_
        obtain ⟨g_4, h⟩ := gd_out h
        refine mo_ld 12 (by decide) (by decide) C0 hH (inB_in g_4) d_M_all_48 ?_
        obtain ⟨x2_5, hx2_5, h⟩ := nm_out h
        refine fu_i hx2_5 ?_
        refine lv_istore_n (lv' := [(2, .int x2_5), (0, .ref (q 0)), (1, .int x1)]) hx hb d_M_all_49 rfl hl (by decide) rfl (fun ls hl => ?_)
        refine lv_aload_n hx hb d_M_all_50 rfl (lv_at hl 1 rfl) ?_
        refine lv_iload_n hx hb d_M_all_51 rfl (lv_at hl 2 rfl) ?_
        refine lv_iload_n hx hb d_M_all_52 rfl (lv_at hl 0 rfl) ?_
        obtain ⟨v_6, hc_7, h⟩ := bv_out h
        refine mo_cv (w := v_6) (as := [.int x1, .int x2_5]) (rest := []) C0 hH (c_M_emit hc_7) yy_M_emit q_1146 q_109 (by decide) rfl hl.1 rfl (Nat.le_of_ble_eq_true rfl) ⟨Nat.zero_le _, Nat.zero_le _⟩ d_M_all_53 (fun H locs hH => ?_)
        refine lv_aload_n hx hb d_M_all_56 rfl (lv_at hl 1 rfl) ?_
        refine lv_iload_n hx hb d_M_all_57 rfl (lv_at hl 0 rfl) ?_
        obtain ⟨r_10, v_8, hc_9, h⟩ := bi_out h
        refine mo_ci (r := r_10) (w := v_8) (as := [.int x2_5]) (rest := []) C0 hH (c_M_kindOf hc_9) yy_M_kindOf q_1107 q_109 (by decide) rfl hl.1 rfl (Nat.le_of_ble_eq_true rfl) ⟨Nat.zero_le _, Nat.zero_le _⟩ d_M_all_58 (fun H locs hH => ?_)
        refine lv_iconst (v := 5) hx hb d_M_all_61 (by decide) ?_
        refine lv_icmp_ge (tgt := 68) hx hb d_M_all_62 (by decide) (fun c_11 => ?_) (fun c_11 => ?_)
        · rw [if_pos c_11] at h
          refine lv_aload_n hx hb d_M_all_68 rfl (lv_at hl 1 rfl) ?_
          refine lv_iload_n hx hb d_M_all_69 rfl (lv_at hl 0 rfl) ?_
          obtain ⟨r_14, v_12, hc_13, h⟩ := bi_out h
          refine mo_ci (r := r_14) (w := v_12) (as := [.int x2_5]) (rest := []) C0 hH (c_M_size hc_13) yy_M_size q_1127 q_109 (by decide) rfl hl.1 rfl (Nat.le_of_ble_eq_true rfl) ⟨Nat.zero_le _, Nat.zero_le _⟩ d_M_all_70 (fun H locs hH => ?_)
          refine lv_iconst (v := 1) hx hb d_M_all_73 (by decide) ?_
          refine lv_isub hx hb d_M_all_74 ?_
          obtain ⟨x3_15, hx3_15, h⟩ := nm_out h
          refine fu_i hx3_15 ?_
          refine lv_istore_n (lv' := [(3, .int x3_15), (2, .int x2_5), (0, .ref (q 0)), (1, .int x1)]) hx hb d_M_all_75 rfl hl (by decide) rfl (fun ls hl => ?_)
          exact w_M_all_76 C0 hr ih fu _ _ _ _ _ _ _ h hH (lv_sub hl [2, 3, 1, 0] rfl)
        · rw [if_neg c_11] at h
          refine lv_goto (tgt := 16) hx hb d_M_all_65 (by decide) ?_
          exact ih _ _ _ _ _ h hH (lv_sub hl [1, 2] rfl)
def f_M_all (v : mS) (x1 : Int32) : Option (mS) := nm (sU v 0 18 0) fun v_1 => gd (inB x1 10) (bv (f_M_pair v_1 (v_1 16 (x1 : Int32).toNatClampNeg) 0) fun v_3 => f_M_all_16 fu x1 v_3)
set_option maxHeartbeats 4000000 in
set_option maxRecDepth 100000 in
theorem c_M_all {l : Launch} {D : va_G} {cI : ClassId} {q : Nat → Nat} {v : mS} {x1 : Int32} {o : mS} (h : f_M_all v x1 = some o) : mo_M l D cI q 1 y_M_all b_M_all 4 none [.ref (q 0), .int x1] v (mo_Qv D cI q o) := by
  refine mo_of (by decide +kernel) rfl (Nat.le_of_ble_eq_true rfl) ?_
  intro p e s m below meth c A ls C0 hr hl hH
  have hx := C0.1
  have hb := C0.2.1
  have hl : lv_has ls 4 [(0, .ref (q 0)), (1, .int x1)] := hl
  unfold f_M_all at h
  refine lv_aload_n hx hb d_M_all_0 rfl (lv_at hl 0 rfl) ?_
  refine lv_iconst (v := 0) hx hb d_M_all_1 (by decide) ?_
  obtain ⟨v_1, hv_1, h⟩ := nm_out h
  refine mo_p_depth C0 hH d_M_all_2 (fun H locs hH => ?_)
  rw [← hv_1] at hH
  refine lv_aload_n hx hb d_M_all_5 rfl (lv_at hl 0 rfl) ?_
  refine lv_aload_n hx hb d_M_all_6 rfl (lv_at hl 0 rfl) ?_
  refine mo_r_val C0 hH d_M_all_7 ?_
  refine lv_iload_n hx hb d_M_all_10 rfl (lv_at hl 1 rfl) ?_
  obtain ⟨g_2, h⟩ := gd_out h
  refine mo_ld 16 (by decide) (by decide) C0 hH (inB_in g_2) d_M_all_11 ?_
  refine lv_iconst (v := 0) hx hb d_M_all_12 (by decide) ?_
  obtain ⟨v_3, hc_4, h⟩ := bv_out h
  refine mo_cv (w := v_3) (as := [.int (v_1 16 (x1 : Int32).toNatClampNeg), .int 0]) (rest := []) C0 hH (c_M_pair hc_4) yy_M_pair q_1087 q_109 (by decide) rfl hl.1 rfl (Nat.le_of_ble_eq_true rfl) ⟨Nat.zero_le _, Nat.zero_le _⟩ d_M_all_13 (fun H locs hH => ?_)
  exact w_M_all_16 C0 hr  fu _ _ _ _ _ h hH (lv_sub hl [0, 1] rfl)
theorem yy_M_leaf : mo_Y y_M_leaf b_M_leaf 7 none 2 := ⟨rfl, q_1105, q_47, q_1106, by decide +kernel⟩
def f_M_leaf_454   (v : mS) : Option (mS) := some v
set_option maxHeartbeats 4000000 in
set_option maxRecDepth 100000 in
theorem w_M_leaf_454 {p : Program} {l : Launch} {e : Env} {s : State} {m : MethodId} {args : Array Value} {below : List Frame} {meth : Method} {c : Code} {D : va_G} {cI : ClassId} {A : Nat → Prop} {q : Nat → Nat} {o : mS} (C0 : mo_C b_M_leaf 7 D cI A p s m args meth c) (hr : meth.sig.returnType = none) : ∀  (v : mS) (H : Heap) (locs : List Loc) (ls : Array Slot), f_M_leaf_454   v = some o → mo_H D cI A s q v H locs → lv_has ls 7 [] → W p l e (mo_rm 6) s m args below meth c H locs 0 0 (MQ below (mo_Qv D cI q o A) args s 0 0 A) (F0 m 454 ls []) := by
  have hx := C0.1
  have hb := C0.2.1
  intro  v H locs ls h hH hl
  unfold f_M_leaf_454 at h
  exact mo_vret C0 hr hH d_M_leaf_454 h
def f_M_leaf_434  (x1 : Int32) (x6 : Int32) (v : mS) : Option (mS) := if 0 ≤ x6 then (bv (f_M_end v x1 0) fun v_2 => f_M_leaf_454 v_2) else (bv (f_M_err v x1 1) fun v_4 => f_M_leaf_454 v_4)
set_option maxHeartbeats 4000000 in
set_option maxRecDepth 100000 in
theorem w_M_leaf_434 {p : Program} {l : Launch} {e : Env} {s : State} {m : MethodId} {args : Array Value} {below : List Frame} {meth : Method} {c : Code} {D : va_G} {cI : ClassId} {A : Nat → Prop} {q : Nat → Nat} {o : mS} (C0 : mo_C b_M_leaf 7 D cI A p s m args meth c) (hr : meth.sig.returnType = none) : ∀ (x1 : Int32) (x6 : Int32) (v : mS) (H : Heap) (locs : List Loc) (ls : Array Slot), f_M_leaf_434  x1 x6 v = some o → mo_H D cI A s q v H locs → lv_has ls 7 [(0, .ref (q 0)), (1, .int x1), (6, .int x6)] → W p l e (mo_rm 6) s m args below meth c H locs 0 0 (MQ below (mo_Qv D cI q o A) args s 0 0 A) (F0 m 434 ls []) := by
  have hx := C0.1
  have hb := C0.2.1
  intro x1 x6 v H locs ls h hH hl
  unfold f_M_leaf_434 at h
  refine lv_iload hx hb d_M_leaf_434 (lv_at hl 2 rfl) ?_
  refine lv_if_ge (tgt := 448) hx hb d_M_leaf_436 (by decide) (fun c_1 => ?_) (fun c_1 => ?_)
  · rw [if_pos c_1] at h
    refine lv_aload_n hx hb d_M_leaf_448 rfl (lv_at hl 0 rfl) ?_
    refine lv_iload_n hx hb d_M_leaf_449 rfl (lv_at hl 1 rfl) ?_
    refine lv_iconst (v := 0) hx hb d_M_leaf_450 (by decide) ?_
    obtain ⟨v_2, hc_3, h⟩ := bv_out h
    refine mo_cv (w := v_2) (as := [.int x1, .int 0]) (rest := []) C0 hH (c_M_end hc_3) yy_M_end q_1200 q_109 (by decide) rfl hl.1 rfl (Nat.le_of_ble_eq_true rfl) ⟨Nat.zero_le _, Nat.zero_le _⟩ d_M_leaf_451 (fun H locs hH => ?_)
    exact w_M_leaf_454 C0 hr   _ _ _ _ h hH (lv_sub hl [] rfl)
  · rw [if_neg c_1] at h
    refine lv_aload_n hx hb d_M_leaf_439 rfl (lv_at hl 0 rfl) ?_
    refine lv_iload_n hx hb d_M_leaf_440 rfl (lv_at hl 1 rfl) ?_
    refine lv_iconst (v := 1) hx hb d_M_leaf_441 (by decide) ?_
    obtain ⟨v_4, hc_5, h⟩ := bv_out h
    refine mo_cv (w := v_4) (as := [.int x1, .int 1]) (rest := []) C0 hH (c_M_err hc_5) yy_M_err q_1239 q_109 (by decide) rfl hl.1 rfl (Nat.le_of_ble_eq_true rfl) ⟨Nat.zero_le _, Nat.zero_le _⟩ d_M_leaf_442 (fun H locs hH => ?_)
    refine lv_goto (tgt := 454) hx hb d_M_leaf_445 (by decide) ?_
    exact w_M_leaf_454 C0 hr   _ _ _ _ h hH (lv_sub hl [] rfl)
def f_M_leaf_422  (x1 : Int32) (x6 : Int32) (v : mS) : Option (mS) := if x6 ≤ 0 then (f_M_leaf_434 x1 x6 v) else (bv (f_M_emit v x1 x6) fun v_2 => f_M_leaf_434 x1 x6 v_2)
set_option maxHeartbeats 4000000 in
set_option maxRecDepth 100000 in
theorem w_M_leaf_422 {p : Program} {l : Launch} {e : Env} {s : State} {m : MethodId} {args : Array Value} {below : List Frame} {meth : Method} {c : Code} {D : va_G} {cI : ClassId} {A : Nat → Prop} {q : Nat → Nat} {o : mS} (C0 : mo_C b_M_leaf 7 D cI A p s m args meth c) (hr : meth.sig.returnType = none) : ∀ (x1 : Int32) (x6 : Int32) (v : mS) (H : Heap) (locs : List Loc) (ls : Array Slot), f_M_leaf_422  x1 x6 v = some o → mo_H D cI A s q v H locs → lv_has ls 7 [(0, .ref (q 0)), (1, .int x1), (6, .int x6)] → W p l e (mo_rm 6) s m args below meth c H locs 0 0 (MQ below (mo_Qv D cI q o A) args s 0 0 A) (F0 m 422 ls []) := by
  have hx := C0.1
  have hb := C0.2.1
  intro x1 x6 v H locs ls h hH hl
  unfold f_M_leaf_422 at h
  refine lv_iload hx hb d_M_leaf_422 (lv_at hl 2 rfl) ?_
  refine lv_if_le (tgt := 434) hx hb d_M_leaf_424 (by decide) (fun c_1 => ?_) (fun c_1 => ?_)
  · rw [if_pos c_1] at h
    exact w_M_leaf_434 C0 hr  _ _ _ _ _ _ h hH (lv_sub hl [0, 1, 2] rfl)
  · rw [if_neg c_1] at h
    refine lv_aload_n hx hb d_M_leaf_427 rfl (lv_at hl 0 rfl) ?_
    refine lv_iload_n hx hb d_M_leaf_428 rfl (lv_at hl 1 rfl) ?_
    refine lv_iload hx hb d_M_leaf_429 (lv_at hl 2 rfl) ?_
    obtain ⟨v_2, hc_3, h⟩ := bv_out h
    refine mo_cv (w := v_2) (as := [.int x1, .int x6]) (rest := []) C0 hH (c_M_emit hc_3) yy_M_emit q_1146 q_109 (by decide) rfl hl.1 rfl (Nat.le_of_ble_eq_true rfl) ⟨Nat.zero_le _, Nat.zero_le _⟩ d_M_leaf_431 (fun H locs hH => ?_)
    exact w_M_leaf_434 C0 hr  _ _ _ _ _ _ h hH (lv_sub hl [0, 1, 2] rfl)
def f_M_leaf_194  (x1 : Int32) (y0 : Int32) (v : mS) : Option (mS) := f_M_leaf_422 x1 y0 v
set_option maxHeartbeats 4000000 in
set_option maxRecDepth 100000 in
theorem w_M_leaf_194 {p : Program} {l : Launch} {e : Env} {s : State} {m : MethodId} {args : Array Value} {below : List Frame} {meth : Method} {c : Code} {D : va_G} {cI : ClassId} {A : Nat → Prop} {q : Nat → Nat} {o : mS} (C0 : mo_C b_M_leaf 7 D cI A p s m args meth c) (hr : meth.sig.returnType = none) : ∀ (x1 : Int32) (y0 : Int32) (v : mS) (H : Heap) (locs : List Loc) (ls : Array Slot), f_M_leaf_194  x1 y0 v = some o → mo_H D cI A s q v H locs → lv_has ls 7 [(0, .ref (q 0)), (1, .int x1)] → W p l e (mo_rm 6) s m args below meth c H locs 0 0 (MQ below (mo_Qv D cI q o A) args s 0 0 A) (F0 m 194 ls [.int y0]) := by
  have hx := C0.1
  have hb := C0.2.1
  intro x1 y0 v H locs ls h hH hl
  unfold f_M_leaf_194 at h
  refine lv_istore (lv' := [(6, .int y0), (0, .ref (q 0)), (1, .int x1)]) hx hb d_M_leaf_194 hl (by decide) rfl (fun ls hl => ?_)
  refine lv_goto (tgt := 422) hx hb d_M_leaf_196 (by decide) ?_
  exact w_M_leaf_422 C0 hr  _ _ _ _ _ _ h hH (lv_sub hl [1, 2, 0] rfl)
def f_M_leaf_213  (x1 : Int32) (y0 : Int32) (v : mS) : Option (mS) := f_M_leaf_422 x1 y0 v
set_option maxHeartbeats 4000000 in
set_option maxRecDepth 100000 in
theorem w_M_leaf_213 {p : Program} {l : Launch} {e : Env} {s : State} {m : MethodId} {args : Array Value} {below : List Frame} {meth : Method} {c : Code} {D : va_G} {cI : ClassId} {A : Nat → Prop} {q : Nat → Nat} {o : mS} (C0 : mo_C b_M_leaf 7 D cI A p s m args meth c) (hr : meth.sig.returnType = none) : ∀ (x1 : Int32) (y0 : Int32) (v : mS) (H : Heap) (locs : List Loc) (ls : Array Slot), f_M_leaf_213  x1 y0 v = some o → mo_H D cI A s q v H locs → lv_has ls 7 [(0, .ref (q 0)), (1, .int x1)] → W p l e (mo_rm 6) s m args below meth c H locs 0 0 (MQ below (mo_Qv D cI q o A) args s 0 0 A) (F0 m 213 ls [.int y0]) := by
  have hx := C0.1
  have hb := C0.2.1
  intro x1 y0 v H locs ls h hH hl
  unfold f_M_leaf_213 at h
  refine lv_istore (lv' := [(6, .int y0), (0, .ref (q 0)), (1, .int x1)]) hx hb d_M_leaf_213 hl (by decide) rfl (fun ls hl => ?_)
  refine lv_goto (tgt := 422) hx hb d_M_leaf_215 (by decide) ?_
  exact w_M_leaf_422 C0 hr  _ _ _ _ _ _ h hH (lv_sub hl [1, 2, 0] rfl)
def f_M_leaf_267  (x1 : Int32) (y0 : Int32) (v : mS) : Option (mS) := f_M_leaf_422 x1 y0 v
set_option maxHeartbeats 4000000 in
set_option maxRecDepth 100000 in
theorem w_M_leaf_267 {p : Program} {l : Launch} {e : Env} {s : State} {m : MethodId} {args : Array Value} {below : List Frame} {meth : Method} {c : Code} {D : va_G} {cI : ClassId} {A : Nat → Prop} {q : Nat → Nat} {o : mS} (C0 : mo_C b_M_leaf 7 D cI A p s m args meth c) (hr : meth.sig.returnType = none) : ∀ (x1 : Int32) (y0 : Int32) (v : mS) (H : Heap) (locs : List Loc) (ls : Array Slot), f_M_leaf_267  x1 y0 v = some o → mo_H D cI A s q v H locs → lv_has ls 7 [(0, .ref (q 0)), (1, .int x1)] → W p l e (mo_rm 6) s m args below meth c H locs 0 0 (MQ below (mo_Qv D cI q o A) args s 0 0 A) (F0 m 267 ls [.int y0]) := by
  have hx := C0.1
  have hb := C0.2.1
  intro x1 y0 v H locs ls h hH hl
  unfold f_M_leaf_267 at h
  refine lv_istore (lv' := [(6, .int y0), (0, .ref (q 0)), (1, .int x1)]) hx hb d_M_leaf_267 hl (by decide) rfl (fun ls hl => ?_)
  refine lv_goto (tgt := 422) hx hb d_M_leaf_269 (by decide) ?_
  exact w_M_leaf_422 C0 hr  _ _ _ _ _ _ h hH (lv_sub hl [1, 2, 0] rfl)
def f_M_leaf_297  (x1 : Int32) (y0 : Int32) (v : mS) : Option (mS) := f_M_leaf_422 x1 y0 v
set_option maxHeartbeats 4000000 in
set_option maxRecDepth 100000 in
theorem w_M_leaf_297 {p : Program} {l : Launch} {e : Env} {s : State} {m : MethodId} {args : Array Value} {below : List Frame} {meth : Method} {c : Code} {D : va_G} {cI : ClassId} {A : Nat → Prop} {q : Nat → Nat} {o : mS} (C0 : mo_C b_M_leaf 7 D cI A p s m args meth c) (hr : meth.sig.returnType = none) : ∀ (x1 : Int32) (y0 : Int32) (v : mS) (H : Heap) (locs : List Loc) (ls : Array Slot), f_M_leaf_297  x1 y0 v = some o → mo_H D cI A s q v H locs → lv_has ls 7 [(0, .ref (q 0)), (1, .int x1)] → W p l e (mo_rm 6) s m args below meth c H locs 0 0 (MQ below (mo_Qv D cI q o A) args s 0 0 A) (F0 m 297 ls [.int y0]) := by
  have hx := C0.1
  have hb := C0.2.1
  intro x1 y0 v H locs ls h hH hl
  unfold f_M_leaf_297 at h
  refine lv_istore (lv' := [(6, .int y0), (0, .ref (q 0)), (1, .int x1)]) hx hb d_M_leaf_297 hl (by decide) rfl (fun ls hl => ?_)
  refine lv_goto (tgt := 422) hx hb d_M_leaf_299 (by decide) ?_
  exact w_M_leaf_422 C0 hr  _ _ _ _ _ _ h hH (lv_sub hl [1, 2, 0] rfl)
def f_M_leaf_362  (x1 : Int32) (y0 : Int32) (v : mS) : Option (mS) := f_M_leaf_422 x1 y0 v
set_option maxHeartbeats 4000000 in
set_option maxRecDepth 100000 in
theorem w_M_leaf_362 {p : Program} {l : Launch} {e : Env} {s : State} {m : MethodId} {args : Array Value} {below : List Frame} {meth : Method} {c : Code} {D : va_G} {cI : ClassId} {A : Nat → Prop} {q : Nat → Nat} {o : mS} (C0 : mo_C b_M_leaf 7 D cI A p s m args meth c) (hr : meth.sig.returnType = none) : ∀ (x1 : Int32) (y0 : Int32) (v : mS) (H : Heap) (locs : List Loc) (ls : Array Slot), f_M_leaf_362  x1 y0 v = some o → mo_H D cI A s q v H locs → lv_has ls 7 [(0, .ref (q 0)), (1, .int x1)] → W p l e (mo_rm 6) s m args below meth c H locs 0 0 (MQ below (mo_Qv D cI q o A) args s 0 0 A) (F0 m 362 ls [.int y0]) := by
  have hx := C0.1
  have hb := C0.2.1
  intro x1 y0 v H locs ls h hH hl
  unfold f_M_leaf_362 at h
  refine lv_istore (lv' := [(6, .int y0), (0, .ref (q 0)), (1, .int x1)]) hx hb d_M_leaf_362 hl (by decide) rfl (fun ls hl => ?_)
  refine lv_goto (tgt := 422) hx hb d_M_leaf_364 (by decide) ?_
  exact w_M_leaf_422 C0 hr  _ _ _ _ _ _ h hH (lv_sub hl [1, 2, 0] rfl)
def f_M_leaf_382  (x1 : Int32) (y0 : Int32) (v : mS) : Option (mS) := f_M_leaf_422 x1 y0 v
set_option maxHeartbeats 4000000 in
set_option maxRecDepth 100000 in
theorem w_M_leaf_382 {p : Program} {l : Launch} {e : Env} {s : State} {m : MethodId} {args : Array Value} {below : List Frame} {meth : Method} {c : Code} {D : va_G} {cI : ClassId} {A : Nat → Prop} {q : Nat → Nat} {o : mS} (C0 : mo_C b_M_leaf 7 D cI A p s m args meth c) (hr : meth.sig.returnType = none) : ∀ (x1 : Int32) (y0 : Int32) (v : mS) (H : Heap) (locs : List Loc) (ls : Array Slot), f_M_leaf_382  x1 y0 v = some o → mo_H D cI A s q v H locs → lv_has ls 7 [(0, .ref (q 0)), (1, .int x1)] → W p l e (mo_rm 6) s m args below meth c H locs 0 0 (MQ below (mo_Qv D cI q o A) args s 0 0 A) (F0 m 382 ls [.int y0]) := by
  have hx := C0.1
  have hb := C0.2.1
  intro x1 y0 v H locs ls h hH hl
  unfold f_M_leaf_382 at h
  refine lv_istore (lv' := [(6, .int y0), (0, .ref (q 0)), (1, .int x1)]) hx hb d_M_leaf_382 hl (by decide) rfl (fun ls hl => ?_)
  refine lv_goto (tgt := 422) hx hb d_M_leaf_384 (by decide) ?_
  exact w_M_leaf_422 C0 hr  _ _ _ _ _ _ h hH (lv_sub hl [1, 2, 0] rfl)
def f_M_leaf_420  (x1 : Int32) (y0 : Int32) (v : mS) : Option (mS) := f_M_leaf_422 x1 y0 v
set_option maxHeartbeats 4000000 in
set_option maxRecDepth 100000 in
theorem w_M_leaf_420 {p : Program} {l : Launch} {e : Env} {s : State} {m : MethodId} {args : Array Value} {below : List Frame} {meth : Method} {c : Code} {D : va_G} {cI : ClassId} {A : Nat → Prop} {q : Nat → Nat} {o : mS} (C0 : mo_C b_M_leaf 7 D cI A p s m args meth c) (hr : meth.sig.returnType = none) : ∀ (x1 : Int32) (y0 : Int32) (v : mS) (H : Heap) (locs : List Loc) (ls : Array Slot), f_M_leaf_420  x1 y0 v = some o → mo_H D cI A s q v H locs → lv_has ls 7 [(0, .ref (q 0)), (1, .int x1)] → W p l e (mo_rm 6) s m args below meth c H locs 0 0 (MQ below (mo_Qv D cI q o A) args s 0 0 A) (F0 m 420 ls [.int y0]) := by
  have hx := C0.1
  have hb := C0.2.1
  intro x1 y0 v H locs ls h hH hl
  unfold f_M_leaf_420 at h
  refine lv_istore (lv' := [(6, .int y0), (0, .ref (q 0)), (1, .int x1)]) hx hb d_M_leaf_420 hl (by decide) rfl (fun ls hl => ?_)
  exact w_M_leaf_422 C0 hr  _ _ _ _ _ _ h hH (lv_sub hl [1, 2, 0] rfl)
def f_M_leaf_398  (x1 : Int32) (x3 : Int32) (x5 : Int32) (v : mS) : Option (mS) := if x5 = 3 then (bi (f_M_num v x3) fun r_4 v_2 => bi (f_M_floor v_2 r_4) fun r_7 v_5 => bi (f_M_whole v_5 r_7) fun r_10 v_8 => f_M_leaf_420 x1 r_10 v_8) else (f_M_leaf_420 x1 (-1) v)
set_option maxHeartbeats 4000000 in
set_option maxRecDepth 100000 in
theorem w_M_leaf_398 {p : Program} {l : Launch} {e : Env} {s : State} {m : MethodId} {args : Array Value} {below : List Frame} {meth : Method} {c : Code} {D : va_G} {cI : ClassId} {A : Nat → Prop} {q : Nat → Nat} {o : mS} (C0 : mo_C b_M_leaf 7 D cI A p s m args meth c) (hr : meth.sig.returnType = none) : ∀ (x1 : Int32) (x3 : Int32) (x5 : Int32) (v : mS) (H : Heap) (locs : List Loc) (ls : Array Slot), f_M_leaf_398  x1 x3 x5 v = some o → mo_H D cI A s q v H locs → lv_has ls 7 [(0, .ref (q 0)), (1, .int x1), (3, .int x3), (5, .int x5)] → W p l e (mo_rm 6) s m args below meth c H locs 0 0 (MQ below (mo_Qv D cI q o A) args s 0 0 A) (F0 m 398 ls []) := by
  have hx := C0.1
  have hb := C0.2.1
  intro x1 x3 x5 v H locs ls h hH hl
  unfold f_M_leaf_398 at h
  refine lv_iload hx hb d_M_leaf_398 (lv_at hl 3 rfl) ?_
  refine lv_iconst (v := 3) hx hb d_M_leaf_400 (by decide) ?_
  refine lv_icmp_ne (tgt := 419) hx hb d_M_leaf_401 (by decide) (fun c_1 => ?_) (fun c_1 => ?_)
  · rw [if_neg c_1] at h
    refine lv_iconst (v := (-1)) hx hb d_M_leaf_419 (by decide) ?_
    exact w_M_leaf_420 C0 hr  _ _ _ _ _ _ h hH (lv_sub hl [0, 1] rfl)
  · rw [if_pos c_1] at h
    refine lv_aload_n hx hb d_M_leaf_404 rfl (lv_at hl 0 rfl) ?_
    refine lv_aload_n hx hb d_M_leaf_405 rfl (lv_at hl 0 rfl) ?_
    refine lv_iload_n hx hb d_M_leaf_406 rfl (lv_at hl 2 rfl) ?_
    obtain ⟨r_4, v_2, hc_3, h⟩ := bi_out h
    refine mo_cl (r := r_4) (w := v_2) (as := [.int x3]) (rest := [.ref (q 0)]) C0 hH (c_M_num hc_3) yy_M_num q_1182 q_109 (by decide) rfl hl.1 rfl (Nat.le_of_ble_eq_true rfl) ⟨Nat.zero_le _, Nat.zero_le _⟩ d_M_leaf_407 (fun H locs hH => ?_)
    obtain ⟨r_7, v_5, hc_6, h⟩ := bi_out h
    refine mo_sl (r := r_7) (w := v_5) (as := [.long r_4]) (rest := [.ref (q 0)]) C0 hH (c_M_floor hc_6) yy_M_floor q_1236 q_109 (by decide) rfl hl.1 rfl (Nat.le_of_ble_eq_true rfl) ⟨Nat.zero_le _, Nat.zero_le _⟩ d_M_leaf_410 (fun H locs hH => ?_)
    obtain ⟨r_10, v_8, hc_9, h⟩ := bi_out h
    refine mo_ci (r := r_10) (w := v_8) (as := [.long r_7]) (rest := []) C0 hH (c_M_whole hc_9) yy_M_whole q_1187 q_109 (by decide) rfl hl.1 rfl (Nat.le_of_ble_eq_true rfl) ⟨Nat.zero_le _, Nat.zero_le _⟩ d_M_leaf_413 (fun H locs hH => ?_)
    refine lv_goto (tgt := 420) hx hb d_M_leaf_416 (by decide) ?_
    exact w_M_leaf_420 C0 hr  _ _ _ _ _ _ h hH (lv_sub hl [0, 1] rfl)
def f_M_leaf (v : mS) (x1 : Int32) (x2 : Int32) : Option (mS) := gd (inB x1 10) (nm (v 16 (x1 : Int32).toNatClampNeg) fun x3_2 => gd (inB x1 10) (gd (inB (v 15 (x1 : Int32).toNatClampNeg) 128) (nm (v 4 (v 15 (x1 : Int32).toNatClampNeg : Int32).toNatClampNeg) fun x4_5 => bi (f_M_kindOf v x3_2) fun r_8 v_6 => if x2 = 0 then (f_M_leaf_422 x1 x3_2 v_6) else if x2 = 1 then (bi (f_M_stringOf v_6 x4_5) fun r_12 v_10 => bi (f_M_field v_10 x1 x3_2 r_12) fun r_15 v_13 => if r_15 = 0 then (f_M_leaf_194 x1 (-1) v_13) else (f_M_leaf_194 x1 0 v_13)) else if x2 = 2 then (f_M_leaf_398 x1 x3_2 r_8 v_6) else if x2 = 3 then (bi (f_M_each v_6 x1 x3_2) fun r_21 v_19 => if r_21 = 0 then (f_M_leaf_213 x1 (-1) v_19) else (f_M_leaf_213 x1 0 v_19)) else if x2 = 4 then (f_M_leaf_398 x1 x3_2 r_8 v_6) else if x2 = 5 then (f_M_leaf_398 x1 x3_2 r_8 v_6) else if x2 = 6 then (bi (f_M_decimal v_6 (((x4_5 : Int32).toInt64) * 1000)) fun r_28 v_26 => f_M_leaf_422 x1 r_28 v_26) else if x2 = 7 then (bi (f_M_stringOf v_6 x4_5) fun r_32 v_30 => f_M_leaf_422 x1 r_32 v_30) else if x2 = 8 then (if x4_5 = 0 then (f_M_leaf_267 x1 4 v_6) else (if x4_5 = 1 then (f_M_leaf_267 x1 8 v_6) else (f_M_leaf_267 x1 12 v_6))) else if x2 = 9 then (f_M_leaf_398 x1 x3_2 r_8 v_6) else if x2 = 10 then (bi (f_M_array v_6 0) fun r_40 v_38 => f_M_leaf_422 x1 r_40 v_38) else if x2 = 11 then (f_M_leaf_398 x1 x3_2 r_8 v_6) else if x2 = 12 then (f_M_leaf_398 x1 x3_2 r_8 v_6) else if x2 = 13 then (f_M_leaf_398 x1 x3_2 r_8 v_6) else if x2 = 14 then (f_M_leaf_398 x1 x3_2 r_8 v_6) else if x2 = 15 then (f_M_leaf_398 x1 x3_2 r_8 v_6) else if x2 = 16 then (bi (f_M_good v_6 x3_2) fun r_49 v_47 => if r_49 = 0 then (f_M_leaf_297 x1 12 v_47) else (f_M_leaf_297 x1 8 v_47)) else if x2 = 17 then (f_M_leaf_398 x1 x3_2 r_8 v_6) else if x2 = 18 then (f_M_leaf_398 x1 x3_2 r_8 v_6) else if x2 = 19 then (f_M_leaf_398 x1 x3_2 r_8 v_6) else if x2 = 20 then (f_M_leaf_398 x1 x3_2 r_8 v_6) else if x2 = 21 then (gd (inB x4_5 4) (nm (v_6 14 (x4_5 : Int32).toNatClampNeg) fun x6_57 => f_M_leaf_422 x1 x6_57 v_6)) else if x2 = 22 then (f_M_leaf_398 x1 x3_2 r_8 v_6) else if x2 = 23 then (bi (f_M_measure v_6 x3_2) fun r_62 v_60 => f_M_leaf_422 x1 r_62 v_60) else if x2 = 24 then (bi (f_M_keys v_6 x3_2) fun r_66 v_64 => f_M_leaf_422 x1 r_66 v_64) else if x2 = 25 then (f_M_leaf_422 x1 0 v_6) else if x2 = 26 then (bv (f_M_end v_6 x1 x3_2) fun v_69 => some v_69) else if x2 = 27 then (if r_8 = 5 then (bi (f_M_sorted v_6 x3_2) fun r_75 v_73 => f_M_leaf_362 x1 r_75 v_73) else (f_M_leaf_362 x1 (-1) v_6)) else if x2 = 28 then (if r_8 = 5 then (bi (f_M_summed v_6 x3_2) fun r_80 v_78 => f_M_leaf_382 x1 r_80 v_78) else (f_M_leaf_382 x1 (-1) v_6)) else if x2 = 29 then (f_M_leaf_398 x1 x3_2 r_8 v_6) else if x2 = 30 then (bv (f_M_all v_6 x1) fun v_83 => f_M_leaf_422 x1 0 v_83) else (f_M_leaf_398 x1 x3_2 r_8 v_6))))
set_option maxHeartbeats 4000000 in
set_option maxRecDepth 100000 in
theorem c_M_leaf {l : Launch} {D : va_G} {cI : ClassId} {q : Nat → Nat} {v : mS} {x1 : Int32} {x2 : Int32} {o : mS} (h : f_M_leaf v x1 x2 = some o) : mo_M l D cI q 6 y_M_leaf b_M_leaf 7 none [.ref (q 0), .int x1, .int x2] v (mo_Qv D cI q o) := by
  refine mo_of (by decide +kernel) rfl (Nat.le_of_ble_eq_true rfl) ?_
  intro p e s m below meth c A ls C0 hr hl hH
  have hx := C0.1
  have hb := C0.2.1
  have hl : lv_has ls 7 [(0, .ref (q 0)), (1, .int x1), (2, .int x2)] := hl
  unfold f_M_leaf at h
  refine lv_aload_n hx hb d_M_leaf_0 rfl (lv_at hl 0 rfl) ?_
  refine mo_r_val C0 hH d_M_leaf_1 ?_
  refine lv_iload_n hx hb d_M_leaf_4 rfl (lv_at hl 1 rfl) ?_
  obtain ⟨g_1, h⟩ := gd_out h
  refine mo_ld 16 (by decide) (by decide) C0 hH (inB_in g_1) d_M_leaf_5 ?_
  obtain ⟨x3_2, hx3_2, h⟩ := nm_out h
  refine fu_i hx3_2 ?_
  refine lv_istore_n (lv' := [(3, .int x3_2), (0, .ref (q 0)), (1, .int x1), (2, .int x2)]) hx hb d_M_leaf_6 rfl hl (by decide) rfl (fun ls hl => ?_)
  refine lv_aload_n hx hb d_M_leaf_7 rfl (lv_at hl 1 rfl) ?_
  refine mo_r_arg C0 hH d_M_leaf_8 ?_
  refine lv_aload_n hx hb d_M_leaf_11 rfl (lv_at hl 1 rfl) ?_
  refine mo_r_tok C0 hH d_M_leaf_12 ?_
  refine lv_iload_n hx hb d_M_leaf_15 rfl (lv_at hl 2 rfl) ?_
  obtain ⟨g_3, h⟩ := gd_out h
  refine mo_ld 15 (by decide) (by decide) C0 hH (inB_in g_3) d_M_leaf_16 ?_
  obtain ⟨g_4, h⟩ := gd_out h
  refine mo_ld 4 (by decide) (by decide) C0 hH (inB_in g_4) d_M_leaf_17 ?_
  obtain ⟨x4_5, hx4_5, h⟩ := nm_out h
  refine fu_i hx4_5 ?_
  refine lv_istore (lv' := [(4, .int x4_5), (3, .int x3_2), (0, .ref (q 0)), (1, .int x1), (2, .int x2)]) hx hb d_M_leaf_18 hl (by decide) rfl (fun ls hl => ?_)
  refine lv_aload_n hx hb d_M_leaf_20 rfl (lv_at hl 2 rfl) ?_
  refine lv_iload_n hx hb d_M_leaf_21 rfl (lv_at hl 1 rfl) ?_
  obtain ⟨r_8, v_6, hc_7, h⟩ := bi_out h
  refine mo_ci (r := r_8) (w := v_6) (as := [.int x3_2]) (rest := []) C0 hH (c_M_kindOf hc_7) yy_M_kindOf q_1107 q_109 (by decide) rfl hl.1 rfl (Nat.le_of_ble_eq_true rfl) ⟨Nat.zero_le _, Nat.zero_le _⟩ d_M_leaf_22 (fun H locs hH => ?_)
  refine lv_istore (lv' := [(5, .int r_8), (4, .int x4_5), (3, .int x3_2), (0, .ref (q 0)), (1, .int x1), (2, .int x2)]) hx hb d_M_leaf_25 hl (by decide) rfl (fun ls hl => ?_)
  refine lv_iconst (v := (-1)) hx hb d_M_leaf_27 (by decide) ?_
  refine lv_istore (lv' := [(6, .int (-1)), (5, .int r_8), (4, .int x4_5), (3, .int x3_2), (0, .ref (q 0)), (1, .int x1), (2, .int x2)]) hx hb d_M_leaf_28 hl (by decide) rfl (fun ls hl => ?_)
  refine lv_iload_n hx hb d_M_leaf_30 rfl (lv_at hl 6 rfl) ?_
  by_cases e_9 : x2 = 0
  · rw [if_pos e_9] at h
    refine fu_hit (tgt := 168) 0 e_9 hx hb d_M_leaf_31 (by decide) (by decide) rfl (by decide) ?_
    refine lv_iload_n hx hb d_M_leaf_168 rfl (lv_at hl 3 rfl) ?_
    refine lv_istore (lv' := [(6, .int x3_2), (5, .int r_8), (4, .int x4_5), (3, .int x3_2), (0, .ref (q 0)), (1, .int x1), (2, .int x2)]) hx hb d_M_leaf_169 hl (by decide) rfl (fun ls hl => ?_)
    refine lv_goto (tgt := 422) hx hb d_M_leaf_171 (by decide) ?_
    exact w_M_leaf_422 C0 hr  _ _ _ _ _ _ h hH (lv_sub hl [4, 5, 0] rfl)
  rw [if_neg e_9] at h
  by_cases e_17 : x2 = 1
  · rw [if_pos e_17] at h
    refine fu_hit (tgt := 174) 1 e_17 hx hb d_M_leaf_31 (by decide) (by decide) rfl (by decide) ?_
    refine lv_aload_n hx hb d_M_leaf_174 rfl (lv_at hl 4 rfl) ?_
    refine lv_iload_n hx hb d_M_leaf_175 rfl (lv_at hl 5 rfl) ?_
    refine lv_iload_n hx hb d_M_leaf_176 rfl (lv_at hl 3 rfl) ?_
    refine lv_aload_n hx hb d_M_leaf_177 rfl (lv_at hl 4 rfl) ?_
    refine lv_iload hx hb d_M_leaf_178 (lv_at hl 2 rfl) ?_
    obtain ⟨r_12, v_10, hc_11, h⟩ := bi_out h
    refine mo_ci (r := r_12) (w := v_10) (as := [.int x4_5]) (rest := [.int x3_2, .int x1, .ref (q 0)]) C0 hH (c_M_stringOf hc_11) yy_M_stringOf q_1111 q_109 (by decide) rfl hl.1 rfl (Nat.le_of_ble_eq_true rfl) ⟨Nat.zero_le _, Nat.zero_le _⟩ d_M_leaf_180 (fun H locs hH => ?_)
    obtain ⟨r_15, v_13, hc_14, h⟩ := bi_out h
    refine mo_ci (r := r_15) (w := v_13) (as := [.int x1, .int x3_2, .int r_12]) (rest := []) C0 hH (c_M_field hc_14) yy_M_field q_1119 q_109 (by decide) rfl hl.1 rfl (Nat.le_of_ble_eq_true rfl) ⟨Nat.zero_le _, Nat.zero_le _⟩ d_M_leaf_183 (fun H locs hH => ?_)
    refine lv_if_eq (tgt := 193) hx hb d_M_leaf_186 (by decide) (fun c_16 => ?_) (fun c_16 => ?_)
    · rw [if_pos c_16] at h
      refine lv_iconst (v := (-1)) hx hb d_M_leaf_193 (by decide) ?_
      exact w_M_leaf_194 C0 hr  _ _ _ _ _ _ h hH (lv_sub hl [4, 5] rfl)
    · rw [if_neg c_16] at h
      refine lv_iconst (v := 0) hx hb d_M_leaf_189 (by decide) ?_
      refine lv_goto (tgt := 194) hx hb d_M_leaf_190 (by decide) ?_
      exact w_M_leaf_194 C0 hr  _ _ _ _ _ _ h hH (lv_sub hl [4, 5] rfl)
  rw [if_neg e_17] at h
  by_cases e_18 : x2 = 2
  · rw [if_pos e_18] at h
    refine fu_hit (tgt := 398) 2 e_18 hx hb d_M_leaf_31 (by decide) (by decide) rfl (by decide) ?_
    exact w_M_leaf_398 C0 hr  _ _ _ _ _ _ _ h hH (lv_sub hl [4, 5, 3, 1] rfl)
  rw [if_neg e_18] at h
  by_cases e_23 : x2 = 3
  · rw [if_pos e_23] at h
    refine fu_hit (tgt := 199) 3 e_23 hx hb d_M_leaf_31 (by decide) (by decide) rfl (by decide) ?_
    refine lv_aload_n hx hb d_M_leaf_199 rfl (lv_at hl 4 rfl) ?_
    refine lv_iload_n hx hb d_M_leaf_200 rfl (lv_at hl 5 rfl) ?_
    refine lv_iload_n hx hb d_M_leaf_201 rfl (lv_at hl 3 rfl) ?_
    obtain ⟨r_21, v_19, hc_20, h⟩ := bi_out h
    refine mo_ci (r := r_21) (w := v_19) (as := [.int x1, .int x3_2]) (rest := []) C0 hH (c_M_each hc_20) yy_M_each q_1150 q_109 (by decide) rfl hl.1 rfl (Nat.le_of_ble_eq_true rfl) ⟨Nat.zero_le _, Nat.zero_le _⟩ d_M_leaf_202 (fun H locs hH => ?_)
    refine lv_if_eq (tgt := 212) hx hb d_M_leaf_205 (by decide) (fun c_22 => ?_) (fun c_22 => ?_)
    · rw [if_pos c_22] at h
      refine lv_iconst (v := (-1)) hx hb d_M_leaf_212 (by decide) ?_
      exact w_M_leaf_213 C0 hr  _ _ _ _ _ _ h hH (lv_sub hl [4, 5] rfl)
    · rw [if_neg c_22] at h
      refine lv_iconst (v := 0) hx hb d_M_leaf_208 (by decide) ?_
      refine lv_goto (tgt := 213) hx hb d_M_leaf_209 (by decide) ?_
      exact w_M_leaf_213 C0 hr  _ _ _ _ _ _ h hH (lv_sub hl [4, 5] rfl)
  rw [if_neg e_23] at h
  by_cases e_24 : x2 = 4
  · rw [if_pos e_24] at h
    refine fu_hit (tgt := 398) 4 e_24 hx hb d_M_leaf_31 (by decide) (by decide) rfl (by decide) ?_
    exact w_M_leaf_398 C0 hr  _ _ _ _ _ _ _ h hH (lv_sub hl [4, 5, 3, 1] rfl)
  rw [if_neg e_24] at h
  by_cases e_25 : x2 = 5
  · rw [if_pos e_25] at h
    refine fu_hit (tgt := 398) 5 e_25 hx hb d_M_leaf_31 (by decide) (by decide) rfl (by decide) ?_
    exact w_M_leaf_398 C0 hr  _ _ _ _ _ _ _ h hH (lv_sub hl [4, 5, 3, 1] rfl)
  rw [if_neg e_25] at h
  by_cases e_29 : x2 = 6
  · rw [if_pos e_29] at h
    refine fu_hit (tgt := 218) 6 e_29 hx hb d_M_leaf_31 (by decide) (by decide) rfl (by decide) ?_
    refine lv_aload_n hx hb d_M_leaf_218 rfl (lv_at hl 4 rfl) ?_
    refine lv_iload hx hb d_M_leaf_219 (lv_at hl 2 rfl) ?_
    refine lv_i2l hx hb d_M_leaf_221 rfl ?_
    refine lv_ldc2 (v := 1000) hx hb C0.2.2.1 (C0.2.2.2.1 _ q_1154) d_M_leaf_222 ?_
    refine lv_lmul hx hb d_M_leaf_225 ?_
    obtain ⟨r_28, v_26, hc_27, h⟩ := bi_out h
    refine mo_ci (r := r_28) (w := v_26) (as := [.long (((x4_5 : Int32).toInt64) * 1000)]) (rest := []) C0 hH (c_M_decimal hc_27) yy_M_decimal q_1155 q_109 (by decide) rfl hl.1 rfl (Nat.le_of_ble_eq_true rfl) ⟨Nat.zero_le _, Nat.zero_le _⟩ d_M_leaf_226 (fun H locs hH => ?_)
    refine lv_istore (lv' := [(6, .int r_28), (5, .int r_8), (4, .int x4_5), (3, .int x3_2), (0, .ref (q 0)), (1, .int x1), (2, .int x2)]) hx hb d_M_leaf_229 hl (by decide) rfl (fun ls hl => ?_)
    refine lv_goto (tgt := 422) hx hb d_M_leaf_231 (by decide) ?_
    exact w_M_leaf_422 C0 hr  _ _ _ _ _ _ h hH (lv_sub hl [4, 5, 0] rfl)
  rw [if_neg e_29] at h
  by_cases e_33 : x2 = 7
  · rw [if_pos e_33] at h
    refine fu_hit (tgt := 234) 7 e_33 hx hb d_M_leaf_31 (by decide) (by decide) rfl (by decide) ?_
    refine lv_aload_n hx hb d_M_leaf_234 rfl (lv_at hl 4 rfl) ?_
    refine lv_iload hx hb d_M_leaf_235 (lv_at hl 2 rfl) ?_
    obtain ⟨r_32, v_30, hc_31, h⟩ := bi_out h
    refine mo_ci (r := r_32) (w := v_30) (as := [.int x4_5]) (rest := []) C0 hH (c_M_stringOf hc_31) yy_M_stringOf q_1111 q_109 (by decide) rfl hl.1 rfl (Nat.le_of_ble_eq_true rfl) ⟨Nat.zero_le _, Nat.zero_le _⟩ d_M_leaf_237 (fun H locs hH => ?_)
    refine lv_istore (lv' := [(6, .int r_32), (5, .int r_8), (4, .int x4_5), (3, .int x3_2), (0, .ref (q 0)), (1, .int x1), (2, .int x2)]) hx hb d_M_leaf_240 hl (by decide) rfl (fun ls hl => ?_)
    refine lv_goto (tgt := 422) hx hb d_M_leaf_242 (by decide) ?_
    exact w_M_leaf_422 C0 hr  _ _ _ _ _ _ h hH (lv_sub hl [4, 5, 0] rfl)
  rw [if_neg e_33] at h
  by_cases e_36 : x2 = 8
  · rw [if_pos e_36] at h
    refine fu_hit (tgt := 245) 8 e_36 hx hb d_M_leaf_31 (by decide) (by decide) rfl (by decide) ?_
    refine lv_iload hx hb d_M_leaf_245 (lv_at hl 2 rfl) ?_
    refine lv_if_ne (tgt := 254) hx hb d_M_leaf_247 (by decide) (fun c_34 => ?_) (fun c_34 => ?_)
    · rw [if_neg c_34] at h
      refine lv_iload hx hb d_M_leaf_254 (lv_at hl 2 rfl) ?_
      refine lv_iconst (v := 1) hx hb d_M_leaf_256 (by decide) ?_
      refine lv_icmp_ne (tgt := 265) hx hb d_M_leaf_257 (by decide) (fun c_35 => ?_) (fun c_35 => ?_)
      · rw [if_neg c_35] at h
        refine lv_bipush (v := 12) hx hb d_M_leaf_265 (by decide) ?_
        exact w_M_leaf_267 C0 hr  _ _ _ _ _ _ h hH (lv_sub hl [4, 5] rfl)
      · rw [if_pos c_35] at h
        refine lv_bipush (v := 8) hx hb d_M_leaf_260 (by decide) ?_
        refine lv_goto (tgt := 267) hx hb d_M_leaf_262 (by decide) ?_
        exact w_M_leaf_267 C0 hr  _ _ _ _ _ _ h hH (lv_sub hl [4, 5] rfl)
    · rw [if_pos c_34] at h
      refine lv_iconst (v := 4) hx hb d_M_leaf_250 (by decide) ?_
      refine lv_goto (tgt := 267) hx hb d_M_leaf_251 (by decide) ?_
      exact w_M_leaf_267 C0 hr  _ _ _ _ _ _ h hH (lv_sub hl [4, 5] rfl)
  rw [if_neg e_36] at h
  by_cases e_37 : x2 = 9
  · rw [if_pos e_37] at h
    refine fu_hit (tgt := 398) 9 e_37 hx hb d_M_leaf_31 (by decide) (by decide) rfl (by decide) ?_
    exact w_M_leaf_398 C0 hr  _ _ _ _ _ _ _ h hH (lv_sub hl [4, 5, 3, 1] rfl)
  rw [if_neg e_37] at h
  by_cases e_41 : x2 = 10
  · rw [if_pos e_41] at h
    refine fu_hit (tgt := 272) 10 e_41 hx hb d_M_leaf_31 (by decide) (by decide) rfl (by decide) ?_
    refine lv_aload_n hx hb d_M_leaf_272 rfl (lv_at hl 4 rfl) ?_
    refine lv_iconst (v := 0) hx hb d_M_leaf_273 (by decide) ?_
    obtain ⟨r_40, v_38, hc_39, h⟩ := bi_out h
    refine mo_ci (r := r_40) (w := v_38) (as := [.int 0]) (rest := []) C0 hH (c_M_array hc_39) yy_M_array q_1166 q_109 (by decide) rfl hl.1 rfl (Nat.le_of_ble_eq_true rfl) ⟨Nat.zero_le _, Nat.zero_le _⟩ d_M_leaf_274 (fun H locs hH => ?_)
    refine lv_istore (lv' := [(6, .int r_40), (5, .int r_8), (4, .int x4_5), (3, .int x3_2), (0, .ref (q 0)), (1, .int x1), (2, .int x2)]) hx hb d_M_leaf_277 hl (by decide) rfl (fun ls hl => ?_)
    refine lv_goto (tgt := 422) hx hb d_M_leaf_279 (by decide) ?_
    exact w_M_leaf_422 C0 hr  _ _ _ _ _ _ h hH (lv_sub hl [4, 5, 0] rfl)
  rw [if_neg e_41] at h
  by_cases e_42 : x2 = 11
  · rw [if_pos e_42] at h
    refine fu_hit (tgt := 398) 11 e_42 hx hb d_M_leaf_31 (by decide) (by decide) rfl (by decide) ?_
    exact w_M_leaf_398 C0 hr  _ _ _ _ _ _ _ h hH (lv_sub hl [4, 5, 3, 1] rfl)
  rw [if_neg e_42] at h
  by_cases e_43 : x2 = 12
  · rw [if_pos e_43] at h
    refine fu_hit (tgt := 398) 12 e_43 hx hb d_M_leaf_31 (by decide) (by decide) rfl (by decide) ?_
    exact w_M_leaf_398 C0 hr  _ _ _ _ _ _ _ h hH (lv_sub hl [4, 5, 3, 1] rfl)
  rw [if_neg e_43] at h
  by_cases e_44 : x2 = 13
  · rw [if_pos e_44] at h
    refine fu_hit (tgt := 398) 13 e_44 hx hb d_M_leaf_31 (by decide) (by decide) rfl (by decide) ?_
    exact w_M_leaf_398 C0 hr  _ _ _ _ _ _ _ h hH (lv_sub hl [4, 5, 3, 1] rfl)
  rw [if_neg e_44] at h
  by_cases e_45 : x2 = 14
  · rw [if_pos e_45] at h
    refine fu_hit (tgt := 398) 14 e_45 hx hb d_M_leaf_31 (by decide) (by decide) rfl (by decide) ?_
    exact w_M_leaf_398 C0 hr  _ _ _ _ _ _ _ h hH (lv_sub hl [4, 5, 3, 1] rfl)
  rw [if_neg e_45] at h
  by_cases e_46 : x2 = 15
  · rw [if_pos e_46] at h
    refine fu_hit (tgt := 398) 15 e_46 hx hb d_M_leaf_31 (by decide) (by decide) rfl (by decide) ?_
    exact w_M_leaf_398 C0 hr  _ _ _ _ _ _ _ h hH (lv_sub hl [4, 5, 3, 1] rfl)
  rw [if_neg e_46] at h
  by_cases e_51 : x2 = 16
  · rw [if_pos e_51] at h
    refine fu_hit (tgt := 282) 16 e_51 hx hb d_M_leaf_31 (by decide) (by decide) rfl (by decide) ?_
    refine lv_aload_n hx hb d_M_leaf_282 rfl (lv_at hl 4 rfl) ?_
    refine lv_iload_n hx hb d_M_leaf_283 rfl (lv_at hl 3 rfl) ?_
    obtain ⟨r_49, v_47, hc_48, h⟩ := bi_out h
    refine mo_ci (r := r_49) (w := v_47) (as := [.int x3_2]) (rest := []) C0 hH (c_M_good hc_48) yy_M_good q_1174 q_109 (by decide) rfl hl.1 rfl (Nat.le_of_ble_eq_true rfl) ⟨Nat.zero_le _, Nat.zero_le _⟩ d_M_leaf_284 (fun H locs hH => ?_)
    refine lv_if_eq (tgt := 295) hx hb d_M_leaf_287 (by decide) (fun c_50 => ?_) (fun c_50 => ?_)
    · rw [if_pos c_50] at h
      refine lv_bipush (v := 12) hx hb d_M_leaf_295 (by decide) ?_
      exact w_M_leaf_297 C0 hr  _ _ _ _ _ _ h hH (lv_sub hl [4, 5] rfl)
    · rw [if_neg c_50] at h
      refine lv_bipush (v := 8) hx hb d_M_leaf_290 (by decide) ?_
      refine lv_goto (tgt := 297) hx hb d_M_leaf_292 (by decide) ?_
      exact w_M_leaf_297 C0 hr  _ _ _ _ _ _ h hH (lv_sub hl [4, 5] rfl)
  rw [if_neg e_51] at h
  by_cases e_52 : x2 = 17
  · rw [if_pos e_52] at h
    refine fu_hit (tgt := 398) 17 e_52 hx hb d_M_leaf_31 (by decide) (by decide) rfl (by decide) ?_
    exact w_M_leaf_398 C0 hr  _ _ _ _ _ _ _ h hH (lv_sub hl [4, 5, 3, 1] rfl)
  rw [if_neg e_52] at h
  by_cases e_53 : x2 = 18
  · rw [if_pos e_53] at h
    refine fu_hit (tgt := 398) 18 e_53 hx hb d_M_leaf_31 (by decide) (by decide) rfl (by decide) ?_
    exact w_M_leaf_398 C0 hr  _ _ _ _ _ _ _ h hH (lv_sub hl [4, 5, 3, 1] rfl)
  rw [if_neg e_53] at h
  by_cases e_54 : x2 = 19
  · rw [if_pos e_54] at h
    refine fu_hit (tgt := 398) 19 e_54 hx hb d_M_leaf_31 (by decide) (by decide) rfl (by decide) ?_
    exact w_M_leaf_398 C0 hr  _ _ _ _ _ _ _ h hH (lv_sub hl [4, 5, 3, 1] rfl)
  rw [if_neg e_54] at h
  by_cases e_55 : x2 = 20
  · rw [if_pos e_55] at h
    refine fu_hit (tgt := 398) 20 e_55 hx hb d_M_leaf_31 (by decide) (by decide) rfl (by decide) ?_
    exact w_M_leaf_398 C0 hr  _ _ _ _ _ _ _ h hH (lv_sub hl [4, 5, 3, 1] rfl)
  rw [if_neg e_55] at h
  by_cases e_58 : x2 = 21
  · rw [if_pos e_58] at h
    refine fu_hit (tgt := 302) 21 e_58 hx hb d_M_leaf_31 (by decide) (by decide) rfl (by decide) ?_
    refine lv_aload_n hx hb d_M_leaf_302 rfl (lv_at hl 4 rfl) ?_
    refine mo_r_variable C0 hH d_M_leaf_303 ?_
    refine lv_iload hx hb d_M_leaf_306 (lv_at hl 2 rfl) ?_
    obtain ⟨g_56, h⟩ := gd_out h
    refine mo_ld 14 (by decide) (by decide) C0 hH (inB_in g_56) d_M_leaf_308 ?_
    obtain ⟨x6_57, hx6_57, h⟩ := nm_out h
    refine fu_i hx6_57 ?_
    refine lv_istore (lv' := [(6, .int x6_57), (5, .int r_8), (4, .int x4_5), (3, .int x3_2), (0, .ref (q 0)), (1, .int x1), (2, .int x2)]) hx hb d_M_leaf_309 hl (by decide) rfl (fun ls hl => ?_)
    refine lv_goto (tgt := 422) hx hb d_M_leaf_311 (by decide) ?_
    exact w_M_leaf_422 C0 hr  _ _ _ _ _ _ h hH (lv_sub hl [4, 5, 0] rfl)
  rw [if_neg e_58] at h
  by_cases e_59 : x2 = 22
  · rw [if_pos e_59] at h
    refine fu_hit (tgt := 398) 22 e_59 hx hb d_M_leaf_31 (by decide) (by decide) rfl (by decide) ?_
    exact w_M_leaf_398 C0 hr  _ _ _ _ _ _ _ h hH (lv_sub hl [4, 5, 3, 1] rfl)
  rw [if_neg e_59] at h
  by_cases e_63 : x2 = 23
  · rw [if_pos e_63] at h
    refine fu_hit (tgt := 314) 23 e_63 hx hb d_M_leaf_31 (by decide) (by decide) rfl (by decide) ?_
    refine lv_aload_n hx hb d_M_leaf_314 rfl (lv_at hl 4 rfl) ?_
    refine lv_iload_n hx hb d_M_leaf_315 rfl (lv_at hl 3 rfl) ?_
    obtain ⟨r_62, v_60, hc_61, h⟩ := bi_out h
    refine mo_ci (r := r_62) (w := v_60) (as := [.int x3_2]) (rest := []) C0 hH (c_M_measure hc_61) yy_M_measure q_1178 q_109 (by decide) rfl hl.1 rfl (Nat.le_of_ble_eq_true rfl) ⟨Nat.zero_le _, Nat.zero_le _⟩ d_M_leaf_316 (fun H locs hH => ?_)
    refine lv_istore (lv' := [(6, .int r_62), (5, .int r_8), (4, .int x4_5), (3, .int x3_2), (0, .ref (q 0)), (1, .int x1), (2, .int x2)]) hx hb d_M_leaf_319 hl (by decide) rfl (fun ls hl => ?_)
    refine lv_goto (tgt := 422) hx hb d_M_leaf_321 (by decide) ?_
    exact w_M_leaf_422 C0 hr  _ _ _ _ _ _ h hH (lv_sub hl [4, 5, 0] rfl)
  rw [if_neg e_63] at h
  by_cases e_67 : x2 = 24
  · rw [if_pos e_67] at h
    refine fu_hit (tgt := 324) 24 e_67 hx hb d_M_leaf_31 (by decide) (by decide) rfl (by decide) ?_
    refine lv_aload_n hx hb d_M_leaf_324 rfl (lv_at hl 4 rfl) ?_
    refine lv_iload_n hx hb d_M_leaf_325 rfl (lv_at hl 3 rfl) ?_
    obtain ⟨r_66, v_64, hc_65, h⟩ := bi_out h
    refine mo_ci (r := r_66) (w := v_64) (as := [.int x3_2]) (rest := []) C0 hH (c_M_keys hc_65) yy_M_keys q_1192 q_109 (by decide) rfl hl.1 rfl (Nat.le_of_ble_eq_true rfl) ⟨Nat.zero_le _, Nat.zero_le _⟩ d_M_leaf_326 (fun H locs hH => ?_)
    refine lv_istore (lv' := [(6, .int r_66), (5, .int r_8), (4, .int x4_5), (3, .int x3_2), (0, .ref (q 0)), (1, .int x1), (2, .int x2)]) hx hb d_M_leaf_329 hl (by decide) rfl (fun ls hl => ?_)
    refine lv_goto (tgt := 422) hx hb d_M_leaf_331 (by decide) ?_
    exact w_M_leaf_422 C0 hr  _ _ _ _ _ _ h hH (lv_sub hl [4, 5, 0] rfl)
  rw [if_neg e_67] at h
  by_cases e_68 : x2 = 25
  · rw [if_pos e_68] at h
    refine fu_hit (tgt := 334) 25 e_68 hx hb d_M_leaf_31 (by decide) (by decide) rfl (by decide) ?_
    refine lv_iconst (v := 0) hx hb d_M_leaf_334 (by decide) ?_
    refine lv_istore (lv' := [(6, .int 0), (5, .int r_8), (4, .int x4_5), (3, .int x3_2), (0, .ref (q 0)), (1, .int x1), (2, .int x2)]) hx hb d_M_leaf_335 hl (by decide) rfl (fun ls hl => ?_)
    refine lv_goto (tgt := 422) hx hb d_M_leaf_337 (by decide) ?_
    exact w_M_leaf_422 C0 hr  _ _ _ _ _ _ h hH (lv_sub hl [4, 5, 0] rfl)
  rw [if_neg e_68] at h
  by_cases e_71 : x2 = 26
  · rw [if_pos e_71] at h
    refine fu_hit (tgt := 340) 26 e_71 hx hb d_M_leaf_31 (by decide) (by decide) rfl (by decide) ?_
    refine lv_aload_n hx hb d_M_leaf_340 rfl (lv_at hl 4 rfl) ?_
    refine lv_iload_n hx hb d_M_leaf_341 rfl (lv_at hl 5 rfl) ?_
    refine lv_iload_n hx hb d_M_leaf_342 rfl (lv_at hl 3 rfl) ?_
    obtain ⟨v_69, hc_70, h⟩ := bv_out h
    refine mo_cv (w := v_69) (as := [.int x1, .int x3_2]) (rest := []) C0 hH (c_M_end hc_70) yy_M_end q_1200 q_109 (by decide) rfl hl.1 rfl (Nat.le_of_ble_eq_true rfl) ⟨Nat.zero_le _, Nat.zero_le _⟩ d_M_leaf_343 (fun H locs hH => ?_)
    exact mo_vret C0 hr hH d_M_leaf_346 h
  rw [if_neg e_71] at h
  by_cases e_76 : x2 = 27
  · rw [if_pos e_76] at h
    refine fu_hit (tgt := 347) 27 e_76 hx hb d_M_leaf_31 (by decide) (by decide) rfl (by decide) ?_
    refine lv_iload hx hb d_M_leaf_347 (lv_at hl 1 rfl) ?_
    refine lv_iconst (v := 5) hx hb d_M_leaf_349 (by decide) ?_
    refine lv_icmp_ne (tgt := 361) hx hb d_M_leaf_350 (by decide) (fun c_72 => ?_) (fun c_72 => ?_)
    · rw [if_neg c_72] at h
      refine lv_iconst (v := (-1)) hx hb d_M_leaf_361 (by decide) ?_
      exact w_M_leaf_362 C0 hr  _ _ _ _ _ _ h hH (lv_sub hl [4, 5] rfl)
    · rw [if_pos c_72] at h
      refine lv_aload_n hx hb d_M_leaf_353 rfl (lv_at hl 4 rfl) ?_
      refine lv_iload_n hx hb d_M_leaf_354 rfl (lv_at hl 3 rfl) ?_
      obtain ⟨r_75, v_73, hc_74, h⟩ := bi_out h
      refine mo_ci (r := r_75) (w := v_73) (as := [.int x3_2]) (rest := []) C0 hH (c_M_sorted hc_74) yy_M_sorted q_1204 q_109 (by decide) rfl hl.1 rfl (Nat.le_of_ble_eq_true rfl) ⟨Nat.zero_le _, Nat.zero_le _⟩ d_M_leaf_355 (fun H locs hH => ?_)
      refine lv_goto (tgt := 362) hx hb d_M_leaf_358 (by decide) ?_
      exact w_M_leaf_362 C0 hr  _ _ _ _ _ _ h hH (lv_sub hl [4, 5] rfl)
  rw [if_neg e_76] at h
  by_cases e_81 : x2 = 28
  · rw [if_pos e_81] at h
    refine fu_hit (tgt := 367) 28 e_81 hx hb d_M_leaf_31 (by decide) (by decide) rfl (by decide) ?_
    refine lv_iload hx hb d_M_leaf_367 (lv_at hl 1 rfl) ?_
    refine lv_iconst (v := 5) hx hb d_M_leaf_369 (by decide) ?_
    refine lv_icmp_ne (tgt := 381) hx hb d_M_leaf_370 (by decide) (fun c_77 => ?_) (fun c_77 => ?_)
    · rw [if_neg c_77] at h
      refine lv_iconst (v := (-1)) hx hb d_M_leaf_381 (by decide) ?_
      exact w_M_leaf_382 C0 hr  _ _ _ _ _ _ h hH (lv_sub hl [4, 5] rfl)
    · rw [if_pos c_77] at h
      refine lv_aload_n hx hb d_M_leaf_373 rfl (lv_at hl 4 rfl) ?_
      refine lv_iload_n hx hb d_M_leaf_374 rfl (lv_at hl 3 rfl) ?_
      obtain ⟨r_80, v_78, hc_79, h⟩ := bi_out h
      refine mo_ci (r := r_80) (w := v_78) (as := [.int x3_2]) (rest := []) C0 hH (c_M_summed hc_79) yy_M_summed q_1216 q_109 (by decide) rfl hl.1 rfl (Nat.le_of_ble_eq_true rfl) ⟨Nat.zero_le _, Nat.zero_le _⟩ d_M_leaf_375 (fun H locs hH => ?_)
      refine lv_goto (tgt := 382) hx hb d_M_leaf_378 (by decide) ?_
      exact w_M_leaf_382 C0 hr  _ _ _ _ _ _ h hH (lv_sub hl [4, 5] rfl)
  rw [if_neg e_81] at h
  by_cases e_82 : x2 = 29
  · rw [if_pos e_82] at h
    refine fu_hit (tgt := 398) 29 e_82 hx hb d_M_leaf_31 (by decide) (by decide) rfl (by decide) ?_
    exact w_M_leaf_398 C0 hr  _ _ _ _ _ _ _ h hH (lv_sub hl [4, 5, 3, 1] rfl)
  rw [if_neg e_82] at h
  by_cases e_85 : x2 = 30
  · rw [if_pos e_85] at h
    refine fu_hit (tgt := 387) 30 e_85 hx hb d_M_leaf_31 (by decide) (by decide) rfl (by decide) ?_
    refine lv_aload_n hx hb d_M_leaf_387 rfl (lv_at hl 4 rfl) ?_
    refine lv_iload_n hx hb d_M_leaf_388 rfl (lv_at hl 5 rfl) ?_
    obtain ⟨v_83, hc_84, h⟩ := bv_out h
    refine mo_cv (w := v_83) (as := [.int x1]) (rest := []) C0 hH (c_M_all hc_84) yy_M_all q_1232 q_109 (by decide) rfl hl.1 rfl (Nat.le_of_ble_eq_true rfl) ⟨Nat.zero_le _, Nat.zero_le _⟩ d_M_leaf_389 (fun H locs hH => ?_)
    refine lv_iconst (v := 0) hx hb d_M_leaf_392 (by decide) ?_
    refine lv_istore (lv' := [(6, .int 0), (5, .int r_8), (4, .int x4_5), (3, .int x3_2), (0, .ref (q 0)), (1, .int x1), (2, .int x2)]) hx hb d_M_leaf_393 hl (by decide) rfl (fun ls hl => ?_)
    refine lv_goto (tgt := 422) hx hb d_M_leaf_395 (by decide) ?_
    exact w_M_leaf_422 C0 hr  _ _ _ _ _ _ h hH (lv_sub hl [4, 5, 0] rfl)
  rw [if_neg e_85] at h
  refine lv_tableOut (tgt := 398) hx hb d_M_leaf_31 (fu_out 31 (by decide) (fun k9 hk9 => match k9, hk9 with | 0, _ => lv_neT e_9 (by decide) | 1, _ => lv_neT e_17 (by decide) | 2, _ => lv_neT e_18 (by decide) | 3, _ => lv_neT e_23 (by decide) | 4, _ => lv_neT e_24 (by decide) | 5, _ => lv_neT e_25 (by decide) | 6, _ => lv_neT e_29 (by decide) | 7, _ => lv_neT e_33 (by decide) | 8, _ => lv_neT e_36 (by decide) | 9, _ => lv_neT e_37 (by decide) | 10, _ => lv_neT e_41 (by decide) | 11, _ => lv_neT e_42 (by decide) | 12, _ => lv_neT e_43 (by decide) | 13, _ => lv_neT e_44 (by decide) | 14, _ => lv_neT e_45 (by decide) | 15, _ => lv_neT e_46 (by decide) | 16, _ => lv_neT e_51 (by decide) | 17, _ => lv_neT e_52 (by decide) | 18, _ => lv_neT e_53 (by decide) | 19, _ => lv_neT e_54 (by decide) | 20, _ => lv_neT e_55 (by decide) | 21, _ => lv_neT e_58 (by decide) | 22, _ => lv_neT e_59 (by decide) | 23, _ => lv_neT e_63 (by decide) | 24, _ => lv_neT e_67 (by decide) | 25, _ => lv_neT e_68 (by decide) | 26, _ => lv_neT e_71 (by decide) | 27, _ => lv_neT e_76 (by decide) | 28, _ => lv_neT e_81 (by decide) | 29, _ => lv_neT e_82 (by decide) | 30, _ => lv_neT e_85 (by decide) | k9 + 31, hk9 => absurd hk9 (by omega))) (by decide) ?_
  exact w_M_leaf_398 C0 hr  _ _ _ _ _ _ _ h hH (lv_sub hl [4, 5, 3, 1] rfl)
theorem yy_M_first : mo_Y y_M_first b_M_first 4 none 2 := ⟨rfl, q_1245, q_79, q_1246, by decide +kernel⟩
def f_M_first_62  (x1 : Int32) (y1 : Int32) (y2 : Int32) (v : mS) : Option (mS) := gd (inB x1 10) (bv (f_M_ask v y1 y2 (v 16 (x1 : Int32).toNatClampNeg) 1) fun v_2 => some v_2)
set_option maxHeartbeats 4000000 in
set_option maxRecDepth 100000 in
theorem w_M_first_62 {p : Program} {l : Launch} {e : Env} {s : State} {m : MethodId} {args : Array Value} {below : List Frame} {meth : Method} {c : Code} {D : va_G} {cI : ClassId} {A : Nat → Prop} {q : Nat → Nat} {o : mS} (C0 : mo_C b_M_first 4 D cI A p s m args meth c) (hr : meth.sig.returnType = none) : ∀ (x1 : Int32) (y1 : Int32) (y2 : Int32) (v : mS) (H : Heap) (locs : List Loc) (ls : Array Slot), f_M_first_62  x1 y1 y2 v = some o → mo_H D cI A s q v H locs → lv_has ls 4 [(0, .ref (q 0)), (1, .int x1)] → W p l e (mo_rm 3) s m args below meth c H locs 0 0 (MQ below (mo_Qv D cI q o A) args s 0 0 A) (F0 m 62 ls [.int y2, .int y1, .ref (q 0)]) := by
  have hx := C0.1
  have hb := C0.2.1
  intro x1 y1 y2 v H locs ls h hH hl
  unfold f_M_first_62 at h
  refine lv_aload_n hx hb d_M_first_62 rfl (lv_at hl 0 rfl) ?_
  refine mo_r_val C0 hH d_M_first_63 ?_
  refine lv_iload_n hx hb d_M_first_66 rfl (lv_at hl 1 rfl) ?_
  obtain ⟨g_1, h⟩ := gd_out h
  refine mo_ld 16 (by decide) (by decide) C0 hH (inB_in g_1) d_M_first_67 ?_
  refine lv_iconst (v := 1) hx hb d_M_first_68 (by decide) ?_
  obtain ⟨v_2, hc_3, h⟩ := bv_out h
  refine mo_cv (w := v_2) (as := [.int y1, .int y2, .int (v 16 (x1 : Int32).toNatClampNeg), .int 1]) (rest := []) C0 hH (c_M_ask hc_3) yy_M_ask q_1247 q_109 (by decide) rfl hl.1 rfl (Nat.le_of_ble_eq_true rfl) ⟨Nat.zero_le _, Nat.zero_le _⟩ d_M_first_69 (fun H locs hH => ?_)
  exact mo_vret C0 hr hH d_M_first_72 h
def f_M_first_51  (x1 : Int32) (x3 : Int32) (v : mS) : Option (mS) := if x3 = 0 then (f_M_first_62 x1 x1 0 v) else (f_M_first_62 x1 x1 1 v)
set_option maxHeartbeats 4000000 in
set_option maxRecDepth 100000 in
theorem w_M_first_51 {p : Program} {l : Launch} {e : Env} {s : State} {m : MethodId} {args : Array Value} {below : List Frame} {meth : Method} {c : Code} {D : va_G} {cI : ClassId} {A : Nat → Prop} {q : Nat → Nat} {o : mS} (C0 : mo_C b_M_first 4 D cI A p s m args meth c) (hr : meth.sig.returnType = none) : ∀ (x1 : Int32) (x3 : Int32) (v : mS) (H : Heap) (locs : List Loc) (ls : Array Slot), f_M_first_51  x1 x3 v = some o → mo_H D cI A s q v H locs → lv_has ls 4 [(0, .ref (q 0)), (1, .int x1), (3, .int x3)] → W p l e (mo_rm 3) s m args below meth c H locs 0 0 (MQ below (mo_Qv D cI q o A) args s 0 0 A) (F0 m 51 ls []) := by
  have hx := C0.1
  have hb := C0.2.1
  intro x1 x3 v H locs ls h hH hl
  unfold f_M_first_51 at h
  refine lv_aload_n hx hb d_M_first_51 rfl (lv_at hl 0 rfl) ?_
  refine lv_iload_n hx hb d_M_first_52 rfl (lv_at hl 1 rfl) ?_
  refine lv_iload_n hx hb d_M_first_53 rfl (lv_at hl 2 rfl) ?_
  refine lv_if_eq (tgt := 61) hx hb d_M_first_54 (by decide) (fun c_1 => ?_) (fun c_1 => ?_)
  · rw [if_pos c_1] at h
    refine lv_iconst (v := 0) hx hb d_M_first_61 (by decide) ?_
    exact w_M_first_62 C0 hr  _ _ _ _ _ _ _ h hH (lv_sub hl [0, 1] rfl)
  · rw [if_neg c_1] at h
    refine lv_iconst (v := 1) hx hb d_M_first_57 (by decide) ?_
    refine lv_goto (tgt := 62) hx hb d_M_first_58 (by decide) ?_
    exact w_M_first_62 C0 hr  _ _ _ _ _ _ _ h hH (lv_sub hl [0, 1] rfl)
def f_M_first_23  (x1 : Int32) (x2 : Int32) (y0 : Int32) (v : mS) : Option (mS) := if x2 = 31 then (gd (inB x1 10) (gd (inB (v 15 (x1 : Int32).toNatClampNeg) 128) (if (v 4 (v 15 (x1 : Int32).toNatClampNeg : Int32).toNatClampNeg) = 0 then (bv (f_M_end v x1 0) fun v_5 => some v_5) else (f_M_first_51 x1 y0 v)))) else (f_M_first_51 x1 y0 v)
set_option maxHeartbeats 4000000 in
set_option maxRecDepth 100000 in
theorem w_M_first_23 {p : Program} {l : Launch} {e : Env} {s : State} {m : MethodId} {args : Array Value} {below : List Frame} {meth : Method} {c : Code} {D : va_G} {cI : ClassId} {A : Nat → Prop} {q : Nat → Nat} {o : mS} (C0 : mo_C b_M_first 4 D cI A p s m args meth c) (hr : meth.sig.returnType = none) : ∀ (x1 : Int32) (x2 : Int32) (y0 : Int32) (v : mS) (H : Heap) (locs : List Loc) (ls : Array Slot), f_M_first_23  x1 x2 y0 v = some o → mo_H D cI A s q v H locs → lv_has ls 4 [(0, .ref (q 0)), (1, .int x1), (2, .int x2)] → W p l e (mo_rm 3) s m args below meth c H locs 0 0 (MQ below (mo_Qv D cI q o A) args s 0 0 A) (F0 m 23 ls [.int y0]) := by
  have hx := C0.1
  have hb := C0.2.1
  intro x1 x2 y0 v H locs ls h hH hl
  unfold f_M_first_23 at h
  refine lv_istore_n (lv' := [(3, .int y0), (0, .ref (q 0)), (1, .int x1), (2, .int x2)]) hx hb d_M_first_23 rfl hl (by decide) rfl (fun ls hl => ?_)
  refine lv_iload_n hx hb d_M_first_24 rfl (lv_at hl 3 rfl) ?_
  refine lv_bipush (v := 31) hx hb d_M_first_25 (by decide) ?_
  refine lv_icmp_ne (tgt := 51) hx hb d_M_first_27 (by decide) (fun c_1 => ?_) (fun c_1 => ?_)
  · rw [if_neg c_1] at h
    exact w_M_first_51 C0 hr  _ _ _ _ _ _ h hH (lv_sub hl [1, 2, 0] rfl)
  · rw [if_pos c_1] at h
    refine lv_aload_n hx hb d_M_first_30 rfl (lv_at hl 1 rfl) ?_
    refine mo_r_arg C0 hH d_M_first_31 ?_
    refine lv_aload_n hx hb d_M_first_34 rfl (lv_at hl 1 rfl) ?_
    refine mo_r_tok C0 hH d_M_first_35 ?_
    refine lv_iload_n hx hb d_M_first_38 rfl (lv_at hl 2 rfl) ?_
    obtain ⟨g_2, h⟩ := gd_out h
    refine mo_ld 15 (by decide) (by decide) C0 hH (inB_in g_2) d_M_first_39 ?_
    obtain ⟨g_3, h⟩ := gd_out h
    refine mo_ld 4 (by decide) (by decide) C0 hH (inB_in g_3) d_M_first_40 ?_
    refine lv_if_ne (tgt := 51) hx hb d_M_first_41 (by decide) (fun c_4 => ?_) (fun c_4 => ?_)
    · rw [if_neg c_4] at h
      exact w_M_first_51 C0 hr  _ _ _ _ _ _ h hH (lv_sub hl [1, 2, 0] rfl)
    · rw [if_pos c_4] at h
      refine lv_aload_n hx hb d_M_first_44 rfl (lv_at hl 1 rfl) ?_
      refine lv_iload_n hx hb d_M_first_45 rfl (lv_at hl 2 rfl) ?_
      refine lv_iconst (v := 0) hx hb d_M_first_46 (by decide) ?_
      obtain ⟨v_5, hc_6, h⟩ := bv_out h
      refine mo_cv (w := v_5) (as := [.int x1, .int 0]) (rest := []) C0 hH (c_M_end hc_6) yy_M_end q_1200 q_109 (by decide) rfl hl.1 rfl (Nat.le_of_ble_eq_true rfl) ⟨Nat.zero_le _, Nat.zero_le _⟩ d_M_first_47 (fun H locs hH => ?_)
      exact mo_vret C0 hr hH d_M_first_50 h
def f_M_first_18  (x1 : Int32) (x2 : Int32) (v : mS) : Option (mS) := f_M_first_23 x1 x2 1 v
set_option maxHeartbeats 4000000 in
set_option maxRecDepth 100000 in
theorem w_M_first_18 {p : Program} {l : Launch} {e : Env} {s : State} {m : MethodId} {args : Array Value} {below : List Frame} {meth : Method} {c : Code} {D : va_G} {cI : ClassId} {A : Nat → Prop} {q : Nat → Nat} {o : mS} (C0 : mo_C b_M_first 4 D cI A p s m args meth c) (hr : meth.sig.returnType = none) : ∀ (x1 : Int32) (x2 : Int32) (v : mS) (H : Heap) (locs : List Loc) (ls : Array Slot), f_M_first_18  x1 x2 v = some o → mo_H D cI A s q v H locs → lv_has ls 4 [(0, .ref (q 0)), (1, .int x1), (2, .int x2)] → W p l e (mo_rm 3) s m args below meth c H locs 0 0 (MQ below (mo_Qv D cI q o A) args s 0 0 A) (F0 m 18 ls []) := by
  have hx := C0.1
  have hb := C0.2.1
  intro x1 x2 v H locs ls h hH hl
  unfold f_M_first_18 at h
  refine lv_iconst (v := 1) hx hb d_M_first_18 (by decide) ?_
  refine lv_goto (tgt := 23) hx hb d_M_first_19 (by decide) ?_
  exact w_M_first_23 C0 hr  _ _ _ _ _ _ _ h hH (lv_sub hl [0, 1, 2] rfl)
def f_M_first (v : mS) (x1 : Int32) (x2 : Int32) : Option (mS) := if x2 = 12 then (f_M_first_18 x1 x2 v) else (if x2 = 13 then (f_M_first_18 x1 x2 v) else (if x2 = 22 then (f_M_first_18 x1 x2 v) else (f_M_first_23 x1 x2 0 v)))
set_option maxHeartbeats 4000000 in
set_option maxRecDepth 100000 in
theorem c_M_first {l : Launch} {D : va_G} {cI : ClassId} {q : Nat → Nat} {v : mS} {x1 : Int32} {x2 : Int32} {o : mS} (h : f_M_first v x1 x2 = some o) : mo_M l D cI q 3 y_M_first b_M_first 4 none [.ref (q 0), .int x1, .int x2] v (mo_Qv D cI q o) := by
  refine mo_of (by decide +kernel) rfl (Nat.le_of_ble_eq_true rfl) ?_
  intro p e s m below meth c A ls C0 hr hl hH
  have hx := C0.1
  have hb := C0.2.1
  have hl : lv_has ls 4 [(0, .ref (q 0)), (1, .int x1), (2, .int x2)] := hl
  unfold f_M_first at h
  refine lv_iload_n hx hb d_M_first_0 rfl (lv_at hl 2 rfl) ?_
  refine lv_bipush (v := 12) hx hb d_M_first_1 (by decide) ?_
  refine lv_icmp_eq (tgt := 18) hx hb d_M_first_3 (by decide) (fun c_1 => ?_) (fun c_1 => ?_)
  · rw [if_pos c_1] at h
    exact w_M_first_18 C0 hr  _ _ _ _ _ _ h hH (lv_sub hl [0, 1, 2] rfl)
  · rw [if_neg c_1] at h
    refine lv_iload_n hx hb d_M_first_6 rfl (lv_at hl 2 rfl) ?_
    refine lv_bipush (v := 13) hx hb d_M_first_7 (by decide) ?_
    refine lv_icmp_eq (tgt := 18) hx hb d_M_first_9 (by decide) (fun c_2 => ?_) (fun c_2 => ?_)
    · rw [if_pos c_2] at h
      exact w_M_first_18 C0 hr  _ _ _ _ _ _ h hH (lv_sub hl [0, 1, 2] rfl)
    · rw [if_neg c_2] at h
      refine lv_iload_n hx hb d_M_first_12 rfl (lv_at hl 2 rfl) ?_
      refine lv_bipush (v := 22) hx hb d_M_first_13 (by decide) ?_
      refine lv_icmp_ne (tgt := 22) hx hb d_M_first_15 (by decide) (fun c_3 => ?_) (fun c_3 => ?_)
      · rw [if_neg c_3] at h
        refine lv_iconst (v := 0) hx hb d_M_first_22 (by decide) ?_
        exact w_M_first_23 C0 hr  _ _ _ _ _ _ _ h hH (lv_sub hl [0, 1, 2] rfl)
      · rw [if_pos c_3] at h
        exact w_M_first_18 C0 hr  _ _ _ _ _ _ h hH (lv_sub hl [0, 1, 2] rfl)
theorem yy_M_arrayOfGot : mo_Y y_M_arrayOfGot b_M_arrayOfGot 2 (some .int) 0 := ⟨rfl, q_1265, q_84, q_1266, by decide +kernel⟩
def f_M_arrayOfGot_16  : Nat → Int32 → mS → Option (Int32 × mS)
  | 0, _, _ => none
  | n + 1, x1, v => if (v 0 37) ≤ x1 then (bi (f_M_array v (v 0 37)) fun r_4 v_2 => some (r_4, v_2)) else (gd (inB x1 17) (gd (inB x1 64) (nm (sU v 10 (x1 : Int32).toNatClampNeg (v 26 (x1 : Int32).toNatClampNeg)) fun v_7 => nm (x1 + 1) fun x1_8 => f_M_arrayOfGot_16 n x1_8 v_7)))
set_option maxHeartbeats 4000000 in
set_option maxRecDepth 100000 in
theorem w_M_arrayOfGot_16 {p : Program} {l : Launch} {e : Env} {s : State} {m : MethodId} {args : Array Value} {below : List Frame} {meth : Method} {c : Code} {D : va_G} {cI : ClassId} {A : Nat → Prop} {q : Nat → Nat} {o : Int32 × mS} (C0 : mo_C b_M_arrayOfGot 2 D cI A p s m args meth c) (hr : meth.sig.returnType = (some .int)) : ∀ (n : Nat) (x1 : Int32) (v : mS) (H : Heap) (locs : List Loc) (ls : Array Slot), f_M_arrayOfGot_16  n x1 v = some o → mo_H D cI A s q v H locs → lv_has ls 2 [(0, .ref (q 0)), (1, .int x1)] → W p l e (mo_rm 3) s m args below meth c H locs 0 0 (MQ below (mo_Qi D cI q o.1 o.2 A) args s 0 0 A) (F0 m 16 ls []) := by
  have hx := C0.1
  have hb := C0.2.1
  intro n
  induction n with
  | zero =>
    intro x1 v H locs ls h hH hl
    cases h
  | succ n ih =>
    intro x1 v H locs ls h hH hl
    rw [f_M_arrayOfGot_16] at h
    refine lv_iload_n hx hb d_M_arrayOfGot_16 rfl (lv_at hl 1 rfl) ?_
    refine lv_aload_n hx hb d_M_arrayOfGot_17 rfl (lv_at hl 0 rfl) ?_
    refine mo_g_gots C0 hH d_M_arrayOfGot_18 ?_
    refine lv_icmp_ge (tgt := 42) hx hb d_M_arrayOfGot_21 (by decide) (fun c_1 => ?_) (fun c_1 => ?_)
    · rw [if_pos c_1] at h
      refine lv_aload_n hx hb d_M_arrayOfGot_42 rfl (lv_at hl 0 rfl) ?_
      refine lv_aload_n hx hb d_M_arrayOfGot_43 rfl (lv_at hl 0 rfl) ?_
      refine mo_g_gots C0 hH d_M_arrayOfGot_44 ?_
      obtain ⟨r_4, v_2, hc_3, h⟩ := bi_out h
      refine mo_ci (r := r_4) (w := v_2) (as := [.int (v 0 37)]) (rest := []) C0 hH (c_M_array hc_3) yy_M_array q_1166 q_109 (by decide) rfl hl.1 rfl (Nat.le_of_ble_eq_true rfl) ⟨Nat.zero_le _, Nat.zero_le _⟩ d_M_arrayOfGot_47 (fun H locs hH => ?_)
      exact mo_iret C0 hr hH d_M_arrayOfGot_50 h
    · rw [if_neg c_1] at h
      refine lv_aload_n hx hb d_M_arrayOfGot_24 rfl (lv_at hl 0 rfl) ?_
      refine mo_r_items C0 hH d_M_arrayOfGot_25 ?_
      refine lv_iload_n hx hb d_M_arrayOfGot_28 rfl (lv_at hl 1 rfl) ?_
      refine lv_aload_n hx hb d_M_arrayOfGot_29 rfl (lv_at hl 0 rfl) ?_
      refine mo_r_got C0 hH d_M_arrayOfGot_30 ?_
      refine lv_iload_n hx hb d_M_arrayOfGot_33 rfl (lv_at hl 1 rfl) ?_
      obtain ⟨g_5, h⟩ := gd_out h
      refine mo_ld 26 (by decide) (by decide) C0 hH (inB_in g_5) d_M_arrayOfGot_34 ?_
      obtain ⟨g_6, h⟩ := gd_out h
      obtain ⟨v_7, hv_7, h⟩ := nm_out h
      refine mo_st 10 (by decide) (by decide) C0 hH (inB_in g_6) d_M_arrayOfGot_35 (fun H locs hH => ?_)
      rw [← hv_7] at hH
      obtain ⟨x1_8, hx1_8, h⟩ := nm_out h
      refine lv_iinc (v := x1_8) (lv' := [(1, .int x1_8), (0, .ref (q 0))]) hx hb d_M_arrayOfGot_36 hl (k := 1) rfl (by rw [hx1_8]; rfl) (by decide) rfl (fun ls hl => ?_)
      refine lv_goto (tgt := 16) hx hb d_M_arrayOfGot_39 (by decide) ?_
      exact ih _ _ _ _ _ h hH (lv_sub hl [1, 0] rfl)
def f_M_arrayOfGot (v : mS)  : Option (Int32 × mS) := if (v 0 37) ≤ 12 then (f_M_arrayOfGot_16 fu 0 v) else (bi (f_M_room v) fun r_4 v_2 => some (r_4, v_2))
set_option maxHeartbeats 4000000 in
set_option maxRecDepth 100000 in
theorem c_M_arrayOfGot {l : Launch} {D : va_G} {cI : ClassId} {q : Nat → Nat} {v : mS}  {o : Int32 × mS} (h : f_M_arrayOfGot v  = some o) : mo_M l D cI q 3 y_M_arrayOfGot b_M_arrayOfGot 2 (some .int) [.ref (q 0)] v (mo_Qi D cI q o.1 o.2) := by
  refine mo_of (by decide +kernel) rfl (Nat.le_of_ble_eq_true rfl) ?_
  intro p e s m below meth c A ls C0 hr hl hH
  have hx := C0.1
  have hb := C0.2.1
  have hl : lv_has ls 2 [(0, .ref (q 0))] := hl
  unfold f_M_arrayOfGot at h
  refine lv_aload_n hx hb d_M_arrayOfGot_0 rfl (lv_at hl 0 rfl) ?_
  refine mo_g_gots C0 hH d_M_arrayOfGot_1 ?_
  refine lv_bipush (v := 12) hx hb d_M_arrayOfGot_4 (by decide) ?_
  refine lv_icmp_le (tgt := 14) hx hb d_M_arrayOfGot_6 (by decide) (fun c_1 => ?_) (fun c_1 => ?_)
  · rw [if_pos c_1] at h
    refine lv_iconst (v := 0) hx hb d_M_arrayOfGot_14 (by decide) ?_
    refine lv_istore_n (lv' := [(1, .int 0), (0, .ref (q 0))]) hx hb d_M_arrayOfGot_15 rfl hl (by decide) rfl (fun ls hl => ?_)
    exact w_M_arrayOfGot_16 C0 hr  fu _ _ _ _ _ h hH (lv_sub hl [1, 0] rfl)
  · rw [if_neg c_1] at h
    refine lv_aload_n hx hb d_M_arrayOfGot_9 rfl (lv_at hl 0 rfl) ?_
    obtain ⟨r_4, v_2, hc_3, h⟩ := bi_out h
    refine mo_ci (r := r_4) (w := v_2) (as := []) (rest := []) C0 hH (c_M_room hc_3) yy_M_room q_1162 q_109 (by decide) rfl hl.1 rfl (Nat.le_of_ble_eq_true rfl) ⟨Nat.zero_le _, Nat.zero_le _⟩ d_M_arrayOfGot_10 (fun H locs hH => ?_)
    exact mo_iret C0 hr hH d_M_arrayOfGot_13 h
theorem yy_M_finish : mo_Y y_M_finish b_M_finish 3 none 2 := ⟨rfl, q_1269, q_85, q_1270, by decide +kernel⟩
def f_M_finish (v : mS) (x1 : Int32) (x2 : Int32) : Option (mS) := bv (f_M_emit v x1 x2) fun v_1 => bv (f_M_end v_1 x1 0) fun v_3 => some v_3
set_option maxHeartbeats 4000000 in
set_option maxRecDepth 100000 in
theorem c_M_finish {l : Launch} {D : va_G} {cI : ClassId} {q : Nat → Nat} {v : mS} {x1 : Int32} {x2 : Int32} {o : mS} (h : f_M_finish v x1 x2 = some o) : mo_M l D cI q 1 y_M_finish b_M_finish 3 none [.ref (q 0), .int x1, .int x2] v (mo_Qv D cI q o) := by
  refine mo_of (by decide +kernel) rfl (Nat.le_of_ble_eq_true rfl) ?_
  intro p e s m below meth c A ls C0 hr hl hH
  have hx := C0.1
  have hb := C0.2.1
  have hl : lv_has ls 3 [(0, .ref (q 0)), (1, .int x1), (2, .int x2)] := hl
  unfold f_M_finish at h
  refine lv_aload_n hx hb d_M_finish_0 rfl (lv_at hl 0 rfl) ?_
  refine lv_iload_n hx hb d_M_finish_1 rfl (lv_at hl 1 rfl) ?_
  refine lv_iload_n hx hb d_M_finish_2 rfl (lv_at hl 2 rfl) ?_
  obtain ⟨v_1, hc_2, h⟩ := bv_out h
  refine mo_cv (w := v_1) (as := [.int x1, .int x2]) (rest := []) C0 hH (c_M_emit hc_2) yy_M_emit q_1146 q_109 (by decide) rfl hl.1 rfl (Nat.le_of_ble_eq_true rfl) ⟨Nat.zero_le _, Nat.zero_le _⟩ d_M_finish_3 (fun H locs hH => ?_)
  refine lv_aload_n hx hb d_M_finish_6 rfl (lv_at hl 0 rfl) ?_
  refine lv_iload_n hx hb d_M_finish_7 rfl (lv_at hl 1 rfl) ?_
  refine lv_iconst (v := 0) hx hb d_M_finish_8 (by decide) ?_
  obtain ⟨v_3, hc_4, h⟩ := bv_out h
  refine mo_cv (w := v_3) (as := [.int x1, .int 0]) (rest := []) C0 hH (c_M_end hc_4) yy_M_end q_1200 q_109 (by decide) rfl hl.1 rfl (Nat.le_of_ble_eq_true rfl) ⟨Nat.zero_le _, Nat.zero_le _⟩ d_M_finish_9 (fun H locs hH => ?_)
  exact mo_vret C0 hr hH d_M_finish_12 h
