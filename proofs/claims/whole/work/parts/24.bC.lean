/-! methods of the class that neither throw nor make (by program: wip/gen/allb.py): compared floorDiv floorOf towardZero memberOf fieldOf indexed has steps holds -/
def f_V_compared_31 (Kr : (Nat → Nat) → mS → Int32 → Int32 → Option (Int32 × mS)) (g : Nat → Nat)  (y0 : Int32) (v : mS) : Option (Int32 × mS) := some (y0, v)
set_option maxHeartbeats 4000000 in
set_option maxRecDepth 100000 in
theorem w_V_compared_31 {p : Program} {l : Launch} {e : Env} {s : State} {m : MethodId} {args : Array Value} {below : List Frame} {meth : Method} {c : Code} {Z : bZ} {A : Nat → Prop} {q g : Nat → Nat} {o : Int32 × mS} {rB : Nat} {Kr : (Nat → Nat) → mS → Int32 → Int32 → Option (Int32 × mS)} (hKr : ∀ {v : mS} {z1 : Int32} {z2 : Int32} {o : Int32 × mS}, Kr g v z1 z2 = some o → bn_M l Z rB y_V_compared b_V_compared 4 (some .int) [.ref (q 1), .int z1, .int z2] (q, g, v) (bn_Qi Z o.1 (q, g, o.2))) (C0 : bn_C "FilterBench$Values" b_V_compared 4 Z A p l s m args meth c) (hr : meth.sig.returnType = (some .int)) : ∀ (y0 : Int32) (v : mS) (H : Heap) (locs : List Loc) (ls : Array Slot), f_V_compared_31 Kr g  y0 v = some o → bn_H Z A s (q, g, v) H locs → lv_has ls 4 [] → W p l e (mo_rm (rB + 3)) s m args below meth c H locs 0 0 (MQ below (bn_Qi Z o.1 (q, g, o.2) A) args s 0 0 A) (F0 m 31 ls [.int y0]) := by
  have hx := C0.1
  have hb := C0.2.1
  have hl0 := C0.2.2.2.2.2.2.2.2.2
  intro y0 v H locs ls h hH hl
  unfold f_V_compared_31 at h
  exact bn_iret C0 hr hH d_V_compared_31 (pq h)
def f_V_compared_131 (Kr : (Nat → Nat) → mS → Int32 → Int32 → Option (Int32 × mS)) (g : Nat → Nat)  (y0 : Int32) (v : mS) : Option (Int32 × mS) := some (y0, v)
set_option maxHeartbeats 4000000 in
set_option maxRecDepth 100000 in
theorem w_V_compared_131 {p : Program} {l : Launch} {e : Env} {s : State} {m : MethodId} {args : Array Value} {below : List Frame} {meth : Method} {c : Code} {Z : bZ} {A : Nat → Prop} {q g : Nat → Nat} {o : Int32 × mS} {rB : Nat} {Kr : (Nat → Nat) → mS → Int32 → Int32 → Option (Int32 × mS)} (hKr : ∀ {v : mS} {z1 : Int32} {z2 : Int32} {o : Int32 × mS}, Kr g v z1 z2 = some o → bn_M l Z rB y_V_compared b_V_compared 4 (some .int) [.ref (q 1), .int z1, .int z2] (q, g, v) (bn_Qi Z o.1 (q, g, o.2))) (C0 : bn_C "FilterBench$Values" b_V_compared 4 Z A p l s m args meth c) (hr : meth.sig.returnType = (some .int)) : ∀ (y0 : Int32) (v : mS) (H : Heap) (locs : List Loc) (ls : Array Slot), f_V_compared_131 Kr g  y0 v = some o → bn_H Z A s (q, g, v) H locs → lv_has ls 4 [] → W p l e (mo_rm (rB + 3)) s m args below meth c H locs 0 0 (MQ below (bn_Qi Z o.1 (q, g, o.2) A) args s 0 0 A) (F0 m 131 ls [.int y0]) := by
  have hx := C0.1
  have hb := C0.2.1
  have hl0 := C0.2.2.2.2.2.2.2.2.2
  intro y0 v H locs ls h hH hl
  unfold f_V_compared_131 at h
  exact bn_iret C0 hr hH d_V_compared_131 (pq h)
def f_V_comparedb (Kr : (Nat → Nat) → mS → Int32 → Int32 → Option (Int32 × mS)) (g : Nat → Nat) (v : mS) (x1 : Int32) (x2 : Int32) : Option (Int32 × mS) := bi (f_V_kindOf g v x1) fun r_3 v_1 => bi (f_V_kindOf g v_1 x2) fun r_6 v_4 => if r_3 = r_6 then (bi (f_V_kindOf g v_4 x1) fun r_10 v_8 => if r_10 = 3 then (bi (f_V_millionthsOf g v_8 x1) fun r_13 v_11 => bi (f_V_millionthsOf g v_11 x2) fun r_16 v_14 => bi (f_J_lcompare g v_14 r_13 r_16) fun r_19 v_17 => some (r_19, v_17)) else if r_10 = 4 then (bi (f_V_comparedTexts g v_8 x1 x2) fun r_23 v_21 => some (r_23, v_21)) else if r_10 = 5 then (bi (f_V_comparedParts Kr g v_8 x1 x2 0 0) fun r_27 v_25 => some (r_27, v_25)) else if r_10 = 6 then (bi (f_V_lengthOf g v_8 x1) fun r_31 v_29 => bi (f_V_lengthOf g v_29 x2) fun r_34 v_32 => bi (f_V_comparedParts Kr g v_32 x1 x2 r_31 r_34) fun r_37 v_35 => if r_37 = 0 then (bi (f_V_comparedParts Kr g v_35 x1 x2 0 0) fun r_41 v_39 => f_V_compared_131 Kr g r_41 v_39) else (f_V_compared_131 Kr g r_37 v_35)) else (some (0, v_8))) else (bi (f_V_kindOf g v_4 x1) fun r_45 v_43 => bi (f_V_kindOf g v_43 x2) fun r_48 v_46 => if r_48 ≤ r_45 then (f_V_compared_31 Kr g 1 v_46) else (f_V_compared_31 Kr g (-1) v_46))
set_option maxHeartbeats 4000000 in
set_option maxRecDepth 100000 in
theorem c_V_comparedb {l : Launch} {Z : bZ} {q g : Nat → Nat} {rB : Nat} {Kr : (Nat → Nat) → mS → Int32 → Int32 → Option (Int32 × mS)} (hKr : ∀ {v : mS} {z1 : Int32} {z2 : Int32} {o : Int32 × mS}, Kr g v z1 z2 = some o → bn_M l Z rB y_V_compared b_V_compared 4 (some .int) [.ref (q 1), .int z1, .int z2] (q, g, v) (bn_Qi Z o.1 (q, g, o.2))) (hl0 : l.stackTraces = false) {v : mS}  {x1 : Int32} {x2 : Int32} {o : Int32 × mS} (h : f_V_comparedb Kr g v x1 x2 = some o) : bn_M l Z (rB + 3) y_V_compared b_V_compared 4 (some .int) [.ref (q 1), .int x1, .int x2] (q, g, v) (bn_Qi Z o.1 (q, g, o.2)) := by
  refine bn_of hl0 (by decide +kernel) (Nat.le_of_ble_eq_true rfl) ?_
  intro p e s m below meth c A ls C0 hr hl hH
  have hx := C0.1
  have hb := C0.2.1
  have C0 : bn_C "FilterBench$Values" b_V_compared 4 Z A p l s m _ meth c := C0
  have hl : lv_has ls 4 [(0, .ref (q 1)), (1, .int x1), (2, .int x2)] := hl
  unfold f_V_comparedb at h
  refine lv_aload_n hx hb d_V_compared_0 rfl (lv_at hl 0 rfl) ?_
  refine lv_iload_n hx hb d_V_compared_1 rfl (lv_at hl 1 rfl) ?_
  obtain ⟨r_3, v_1, hc_2, h⟩ := bi_out h
  refine bn_ci (r := r_3) (w := (q, g, v_1)) (as := [.int x1]) (rest := []) C0 hH (ci := 4) ⟨by decide, by decide⟩ (by decide) rfl (c_V_kindOf hl0 hc_2) yy_V_kindOf q_519 ⟨by simp only [mo_rm]; omega, by simp only [mo_rm]; omega⟩ rfl hl.1 rfl (Nat.le_of_ble_eq_true rfl) ⟨Nat.zero_le _, Nat.zero_le _⟩ d_V_compared_2 (fun H locs hH => ?_)
  refine lv_aload_n hx hb d_V_compared_5 rfl (lv_at hl 0 rfl) ?_
  refine lv_iload_n hx hb d_V_compared_6 rfl (lv_at hl 2 rfl) ?_
  obtain ⟨r_6, v_4, hc_5, h⟩ := bi_out h
  refine bn_ci (r := r_6) (w := (q, g, v_4)) (as := [.int x2]) (rest := [.int r_3]) C0 hH (ci := 4) ⟨by decide, by decide⟩ (by decide) rfl (c_V_kindOf hl0 hc_5) yy_V_kindOf q_519 ⟨by simp only [mo_rm]; omega, by simp only [mo_rm]; omega⟩ rfl hl.1 rfl (Nat.le_of_ble_eq_true rfl) ⟨Nat.zero_le _, Nat.zero_le _⟩ d_V_compared_7 (fun H locs hH => ?_)
  refine lv_icmp_eq (tgt := 32) hx hb d_V_compared_10 (by decide) (fun c_7 => ?_) (fun c_7 => ?_)
  · rw [if_pos c_7] at h
    refine lv_aload_n hx hb d_V_compared_32 rfl (lv_at hl 0 rfl) ?_
    refine lv_iload_n hx hb d_V_compared_33 rfl (lv_at hl 1 rfl) ?_
    obtain ⟨r_10, v_8, hc_9, h⟩ := bi_out h
    refine bn_ci (r := r_10) (w := (q, g, v_8)) (as := [.int x1]) (rest := []) C0 hH (ci := 4) ⟨by decide, by decide⟩ (by decide) rfl (c_V_kindOf hl0 hc_9) yy_V_kindOf q_519 ⟨by simp only [mo_rm]; omega, by simp only [mo_rm]; omega⟩ rfl hl.1 rfl (Nat.le_of_ble_eq_true rfl) ⟨Nat.zero_le _, Nat.zero_le _⟩ d_V_compared_34 (fun H locs hH => ?_)
    by_cases e_20 : r_10 = 3
    · rw [if_pos e_20] at h
      refine fu_hit (tgt := 68) 3 e_20 hx hb d_V_compared_37 (by decide) (by decide) rfl (by decide) ?_
      refine lv_aload_n hx hb d_V_compared_68 rfl (lv_at hl 0 rfl) ?_
      refine lv_iload_n hx hb d_V_compared_69 rfl (lv_at hl 1 rfl) ?_
      obtain ⟨r_13, v_11, hc_12, h⟩ := bi_out h
      refine bn_cl (r := r_13) (w := (q, g, v_11)) (as := [.int x1]) (rest := []) C0 hH (ci := 4) ⟨by decide, by decide⟩ (by decide) rfl (c_V_millionthsOf hl0 hc_12) yy_V_millionthsOf q_649 ⟨by simp only [mo_rm]; omega, by simp only [mo_rm]; omega⟩ rfl hl.1 rfl (Nat.le_of_ble_eq_true rfl) ⟨Nat.zero_le _, Nat.zero_le _⟩ d_V_compared_70 (fun H locs hH => ?_)
      refine lv_aload_n hx hb d_V_compared_73 rfl (lv_at hl 0 rfl) ?_
      refine lv_iload_n hx hb d_V_compared_74 rfl (lv_at hl 2 rfl) ?_
      obtain ⟨r_16, v_14, hc_15, h⟩ := bi_out h
      refine bn_cl (r := r_16) (w := (q, g, v_14)) (as := [.int x2]) (rest := [.long r_13]) C0 hH (ci := 4) ⟨by decide, by decide⟩ (by decide) rfl (c_V_millionthsOf hl0 hc_15) yy_V_millionthsOf q_649 ⟨by simp only [mo_rm]; omega, by simp only [mo_rm]; omega⟩ rfl hl.1 rfl (Nat.le_of_ble_eq_true rfl) ⟨Nat.zero_le _, Nat.zero_le _⟩ d_V_compared_75 (fun H locs hH => ?_)
      obtain ⟨r_19, v_17, hc_18, h⟩ := bi_out h
      refine bn_si (r := r_19) (w := (q, g, v_17)) (as := [.long r_13, .long r_16]) (rest := []) C0 hH (c_J_lcompare hl0 hc_18) yy_J_lcompare q_663 ⟨by simp only [mo_rm]; omega, by simp only [mo_rm]; omega⟩ rfl hl.1 rfl (Nat.le_of_ble_eq_true rfl) ⟨Nat.zero_le _, Nat.zero_le _⟩ d_V_compared_78 (fun H locs hH => ?_)
      exact bn_iret C0 hr hH d_V_compared_81 (pq h)
    rw [if_neg e_20] at h
    by_cases e_24 : r_10 = 4
    · rw [if_pos e_24] at h
      refine fu_hit (tgt := 82) 4 e_24 hx hb d_V_compared_37 (by decide) (by decide) rfl (by decide) ?_
      refine lv_aload_n hx hb d_V_compared_82 rfl (lv_at hl 0 rfl) ?_
      refine lv_iload_n hx hb d_V_compared_83 rfl (lv_at hl 1 rfl) ?_
      refine lv_iload_n hx hb d_V_compared_84 rfl (lv_at hl 2 rfl) ?_
      obtain ⟨r_23, v_21, hc_22, h⟩ := bi_out h
      refine bn_ci (r := r_23) (w := (q, g, v_21)) (as := [.int x1, .int x2]) (rest := []) C0 hH (ci := 4) ⟨by decide, by decide⟩ (by decide) rfl (c_V_comparedTexts hl0 hc_22) yy_V_comparedTexts q_531 ⟨by simp only [mo_rm]; omega, by simp only [mo_rm]; omega⟩ rfl hl.1 rfl (Nat.le_of_ble_eq_true rfl) ⟨Nat.zero_le _, Nat.zero_le _⟩ d_V_compared_85 (fun H locs hH => ?_)
      exact bn_iret C0 hr hH d_V_compared_88 (pq h)
    rw [if_neg e_24] at h
    by_cases e_28 : r_10 = 5
    · rw [if_pos e_28] at h
      refine fu_hit (tgt := 89) 5 e_28 hx hb d_V_compared_37 (by decide) (by decide) rfl (by decide) ?_
      refine lv_aload_n hx hb d_V_compared_89 rfl (lv_at hl 0 rfl) ?_
      refine lv_iload_n hx hb d_V_compared_90 rfl (lv_at hl 1 rfl) ?_
      refine lv_iload_n hx hb d_V_compared_91 rfl (lv_at hl 2 rfl) ?_
      refine lv_iconst (v := 0) hx hb d_V_compared_92 (by decide) ?_
      refine lv_iconst (v := 0) hx hb d_V_compared_93 (by decide) ?_
      obtain ⟨r_27, v_25, hc_26, h⟩ := bi_out h
      refine bn_ci (r := r_27) (w := (q, g, v_25)) (as := [.int x1, .int x2, .int 0, .int 0]) (rest := []) C0 hH (ci := 4) ⟨by decide, by decide⟩ (by decide) rfl (c_V_comparedParts hKr hl0 hc_26) yy_V_comparedParts q_666 ⟨by simp only [mo_rm]; omega, by simp only [mo_rm]; omega⟩ rfl hl.1 rfl (Nat.le_of_ble_eq_true rfl) ⟨Nat.zero_le _, Nat.zero_le _⟩ d_V_compared_94 (fun H locs hH => ?_)
      exact bn_iret C0 hr hH d_V_compared_97 (pq h)
    rw [if_neg e_28] at h
    by_cases e_42 : r_10 = 6
    · rw [if_pos e_42] at h
      refine fu_hit (tgt := 98) 6 e_42 hx hb d_V_compared_37 (by decide) (by decide) rfl (by decide) ?_
      refine lv_aload_n hx hb d_V_compared_98 rfl (lv_at hl 0 rfl) ?_
      refine lv_iload_n hx hb d_V_compared_99 rfl (lv_at hl 1 rfl) ?_
      refine lv_iload_n hx hb d_V_compared_100 rfl (lv_at hl 2 rfl) ?_
      refine lv_aload_n hx hb d_V_compared_101 rfl (lv_at hl 0 rfl) ?_
      refine lv_iload_n hx hb d_V_compared_102 rfl (lv_at hl 1 rfl) ?_
      obtain ⟨r_31, v_29, hc_30, h⟩ := bi_out h
      refine bn_ci (r := r_31) (w := (q, g, v_29)) (as := [.int x1]) (rest := [.int x2, .int x1, .ref (q 1)]) C0 hH (ci := 4) ⟨by decide, by decide⟩ (by decide) rfl (c_V_lengthOf hl0 hc_30) yy_V_lengthOf q_383 ⟨by simp only [mo_rm]; omega, by simp only [mo_rm]; omega⟩ rfl hl.1 rfl (Nat.le_of_ble_eq_true rfl) ⟨Nat.zero_le _, Nat.zero_le _⟩ d_V_compared_103 (fun H locs hH => ?_)
      refine lv_aload_n hx hb d_V_compared_106 rfl (lv_at hl 0 rfl) ?_
      refine lv_iload_n hx hb d_V_compared_107 rfl (lv_at hl 2 rfl) ?_
      obtain ⟨r_34, v_32, hc_33, h⟩ := bi_out h
      refine bn_ci (r := r_34) (w := (q, g, v_32)) (as := [.int x2]) (rest := [.int r_31, .int x2, .int x1, .ref (q 1)]) C0 hH (ci := 4) ⟨by decide, by decide⟩ (by decide) rfl (c_V_lengthOf hl0 hc_33) yy_V_lengthOf q_383 ⟨by simp only [mo_rm]; omega, by simp only [mo_rm]; omega⟩ rfl hl.1 rfl (Nat.le_of_ble_eq_true rfl) ⟨Nat.zero_le _, Nat.zero_le _⟩ d_V_compared_108 (fun H locs hH => ?_)
      obtain ⟨r_37, v_35, hc_36, h⟩ := bi_out h
      refine bn_ci (r := r_37) (w := (q, g, v_35)) (as := [.int x1, .int x2, .int r_31, .int r_34]) (rest := []) C0 hH (ci := 4) ⟨by decide, by decide⟩ (by decide) rfl (c_V_comparedParts hKr hl0 hc_36) yy_V_comparedParts q_666 ⟨by simp only [mo_rm]; omega, by simp only [mo_rm]; omega⟩ rfl hl.1 rfl (Nat.le_of_ble_eq_true rfl) ⟨Nat.zero_le _, Nat.zero_le _⟩ d_V_compared_111 (fun H locs hH => ?_)
      refine lv_istore_n (lv' := [(3, .int r_37), (0, .ref (q 1)), (1, .int x1), (2, .int x2)]) hx hb d_V_compared_114 rfl hl (by decide) rfl (fun ls hl => ?_)
      refine lv_iload_n hx hb d_V_compared_115 rfl (lv_at hl 0 rfl) ?_
      refine lv_if_eq (tgt := 123) hx hb d_V_compared_116 (by decide) (fun c_38 => ?_) (fun c_38 => ?_)
      · rw [if_pos c_38] at h
        refine lv_aload_n hx hb d_V_compared_123 rfl (lv_at hl 1 rfl) ?_
        refine lv_iload_n hx hb d_V_compared_124 rfl (lv_at hl 2 rfl) ?_
        refine lv_iload_n hx hb d_V_compared_125 rfl (lv_at hl 3 rfl) ?_
        refine lv_iconst (v := 0) hx hb d_V_compared_126 (by decide) ?_
        refine lv_iconst (v := 0) hx hb d_V_compared_127 (by decide) ?_
        obtain ⟨r_41, v_39, hc_40, h⟩ := bi_out h
        refine bn_ci (r := r_41) (w := (q, g, v_39)) (as := [.int x1, .int x2, .int 0, .int 0]) (rest := []) C0 hH (ci := 4) ⟨by decide, by decide⟩ (by decide) rfl (c_V_comparedParts hKr hl0 hc_40) yy_V_comparedParts q_666 ⟨by simp only [mo_rm]; omega, by simp only [mo_rm]; omega⟩ rfl hl.1 rfl (Nat.le_of_ble_eq_true rfl) ⟨Nat.zero_le _, Nat.zero_le _⟩ d_V_compared_128 (fun H locs hH => ?_)
        exact w_V_compared_131 hKr C0 hr  _ _ _ _ _ h hH (lv_sub hl [] rfl)
      · rw [if_neg c_38] at h
        refine lv_iload_n hx hb d_V_compared_119 rfl (lv_at hl 0 rfl) ?_
        refine lv_goto (tgt := 131) hx hb d_V_compared_120 (by decide) ?_
        exact w_V_compared_131 hKr C0 hr  _ _ _ _ _ h hH (lv_sub hl [] rfl)
    rw [if_neg e_42] at h
    refine lv_tableOut (tgt := 132) hx hb d_V_compared_37 (fu_out 4 (by decide) (fun k9 hk9 => match k9, hk9 with | 0, _ => lv_neT e_20 (by decide) | 1, _ => lv_neT e_24 (by decide) | 2, _ => lv_neT e_28 (by decide) | 3, _ => lv_neT e_42 (by decide) | k9 + 4, hk9 => absurd hk9 (by omega))) (by decide) ?_
    refine lv_iconst (v := 0) hx hb d_V_compared_132 (by decide) ?_
    exact bn_iret C0 hr hH d_V_compared_133 (pq h)
  · rw [if_neg c_7] at h
    refine lv_aload_n hx hb d_V_compared_13 rfl (lv_at hl 0 rfl) ?_
    refine lv_iload_n hx hb d_V_compared_14 rfl (lv_at hl 1 rfl) ?_
    obtain ⟨r_45, v_43, hc_44, h⟩ := bi_out h
    refine bn_ci (r := r_45) (w := (q, g, v_43)) (as := [.int x1]) (rest := []) C0 hH (ci := 4) ⟨by decide, by decide⟩ (by decide) rfl (c_V_kindOf hl0 hc_44) yy_V_kindOf q_519 ⟨by simp only [mo_rm]; omega, by simp only [mo_rm]; omega⟩ rfl hl.1 rfl (Nat.le_of_ble_eq_true rfl) ⟨Nat.zero_le _, Nat.zero_le _⟩ d_V_compared_15 (fun H locs hH => ?_)
    refine lv_aload_n hx hb d_V_compared_18 rfl (lv_at hl 0 rfl) ?_
    refine lv_iload_n hx hb d_V_compared_19 rfl (lv_at hl 2 rfl) ?_
    obtain ⟨r_48, v_46, hc_47, h⟩ := bi_out h
    refine bn_ci (r := r_48) (w := (q, g, v_46)) (as := [.int x2]) (rest := [.int r_45]) C0 hH (ci := 4) ⟨by decide, by decide⟩ (by decide) rfl (c_V_kindOf hl0 hc_47) yy_V_kindOf q_519 ⟨by simp only [mo_rm]; omega, by simp only [mo_rm]; omega⟩ rfl hl.1 rfl (Nat.le_of_ble_eq_true rfl) ⟨Nat.zero_le _, Nat.zero_le _⟩ d_V_compared_20 (fun H locs hH => ?_)
    refine lv_icmp_ge (tgt := 30) hx hb d_V_compared_23 (by decide) (fun c_49 => ?_) (fun c_49 => ?_)
    · rw [if_pos c_49] at h
      refine lv_iconst (v := 1) hx hb d_V_compared_30 (by decide) ?_
      exact w_V_compared_31 hKr C0 hr  _ _ _ _ _ h hH (lv_sub hl [] rfl)
    · rw [if_neg c_49] at h
      refine lv_iconst (v := (-1)) hx hb d_V_compared_26 (by decide) ?_
      refine lv_goto (tgt := 31) hx hb d_V_compared_27 (by decide) ?_
      exact w_V_compared_31 hKr C0 hr  _ _ _ _ _ h hH (lv_sub hl [] rfl)
def f_V_compared : Nat → (Nat → Nat) → mS → Int32 → Int32 → Option (Int32 × mS)
  | 0 => fun _ _ _ _ => none
  | n + 1 => f_V_comparedb (f_V_compared n)
theorem c_V_comparedn {l : Launch} {Z : bZ} {q g : Nat → Nat} (hl0 : l.stackTraces = false) : ∀ (n : Nat) {v : mS}  {x1 : Int32} {x2 : Int32} {o : Int32 × mS}, f_V_compared n g v x1 x2 = some o → bn_M l Z (3 * n) y_V_compared b_V_compared 4 (some .int) [.ref (q 1), .int x1, .int x2] (q, g, v) (bn_Qi Z o.1 (q, g, o.2)) := by
  intro n
  induction n with
  | zero => intro v x1 x2 o h; cases h
  | succ n ih =>
    intro v x1 x2 o h
    have h2 := c_V_comparedb (rB := 3 * n) (fun h => ih h) hl0 h
    rw [show 3 * (n + 1) = 3 * n + 3 by omega]
    exact h2
def f_J_floorDiv_21 (g : Nat → Nat)  (x2 : Int32) (v : mS) : Option (Int32 × mS) := some (x2, v)
set_option maxHeartbeats 4000000 in
set_option maxRecDepth 100000 in
theorem w_J_floorDiv_21 {p : Program} {l : Launch} {e : Env} {s : State} {m : MethodId} {args : Array Value} {below : List Frame} {meth : Method} {c : Code} {Z : bZ} {A : Nat → Prop} {q g : Nat → Nat} {o : Int32 × mS}  (C0 : bn_C "java/lang/Math" b_J_floorDiv 3 Z A p l s m args meth c) (hr : meth.sig.returnType = (some .int)) : ∀ (x2 : Int32) (v : mS) (H : Heap) (locs : List Loc) (ls : Array Slot), f_J_floorDiv_21 g  x2 v = some o → bn_H Z A s (q, g, v) H locs → lv_has ls 3 [(2, .int x2)] → W p l e (mo_rm 0) s m args below meth c H locs 0 0 (MQ below (bn_Qi Z o.1 (q, g, o.2) A) args s 0 0 A) (F0 m 21 ls []) := by
  have hx := C0.1
  have hb := C0.2.1
  have hl0 := C0.2.2.2.2.2.2.2.2.2
  intro x2 v H locs ls h hH hl
  unfold f_J_floorDiv_21 at h
  refine lv_iload_n hx hb d_J_floorDiv_21 rfl (lv_at hl 0 rfl) ?_
  exact bn_iret C0 hr hH d_J_floorDiv_22 (pq h)
def f_J_floorDiv (g : Nat → Nat) (v : mS) (x0 : Int32) (x1 : Int32) : Option (Int32 × mS) := gd (decide (x1 ≠ 0)) (nm (x0 / x1) fun x2_2 => if 0 ≤ (x0 ^^^ x1) then (f_J_floorDiv_21 g x2_2 v) else (if (x2_2 * x1) = x0 then (f_J_floorDiv_21 g x2_2 v) else (some (x2_2 - 1, v))))
set_option maxHeartbeats 4000000 in
set_option maxRecDepth 100000 in
theorem c_J_floorDiv {l : Launch} {Z : bZ} {q g : Nat → Nat} (hl0 : l.stackTraces = false) {v : mS}  {x0 : Int32} {x1 : Int32} {o : Int32 × mS} (h : f_J_floorDiv g v x0 x1 = some o) : bn_M l Z 0 y_J_floorDiv b_J_floorDiv 3 (some .int) [.int x0, .int x1] (q, g, v) (bn_Qi Z o.1 (q, g, o.2)) := by
  refine bn_ofF hl0 (by decide +kernel) (Nat.le_of_ble_eq_true rfl) ?_
  intro p e s m below meth c A ls C0 hr hl hH
  have hx := C0.1
  have hb := C0.2.1
  have C0 : bn_C "java/lang/Math" b_J_floorDiv 3 Z A p l s m _ meth c := C0
  have hl : lv_has ls 3 [(0, .int x0), (1, .int x1)] := hl
  unfold f_J_floorDiv at h
  refine lv_iload_n hx hb d_J_floorDiv_0 rfl (lv_at hl 0 rfl) ?_
  refine lv_iload_n hx hb d_J_floorDiv_1 rfl (lv_at hl 1 rfl) ?_
  obtain ⟨g_1, h⟩ := gd_out h
  refine lv_idiv hx hb d_J_floorDiv_2 (ne_gd g_1) ?_
  obtain ⟨x2_2, hx2_2, h⟩ := nm_out h
  refine fu_i hx2_2 ?_
  refine lv_istore_n (lv' := [(2, .int x2_2), (0, .int x0), (1, .int x1)]) hx hb d_J_floorDiv_3 rfl hl (by decide) rfl (fun ls hl => ?_)
  refine lv_iload_n hx hb d_J_floorDiv_4 rfl (lv_at hl 1 rfl) ?_
  refine lv_iload_n hx hb d_J_floorDiv_5 rfl (lv_at hl 2 rfl) ?_
  refine lv_ixor hx hb d_J_floorDiv_6 ?_
  refine lv_if_ge (tgt := 21) hx hb d_J_floorDiv_7 (by decide) (fun c_3 => ?_) (fun c_3 => ?_)
  · rw [if_pos c_3] at h
    exact w_J_floorDiv_21 C0 hr  _ _ _ _ _ h hH (lv_sub hl [0] rfl)
  · rw [if_neg c_3] at h
    refine lv_iload_n hx hb d_J_floorDiv_10 rfl (lv_at hl 0 rfl) ?_
    refine lv_iload_n hx hb d_J_floorDiv_11 rfl (lv_at hl 2 rfl) ?_
    refine lv_imul hx hb d_J_floorDiv_12 ?_
    refine lv_iload_n hx hb d_J_floorDiv_13 rfl (lv_at hl 1 rfl) ?_
    refine lv_icmp_eq (tgt := 21) hx hb d_J_floorDiv_14 (by decide) (fun c_4 => ?_) (fun c_4 => ?_)
    · rw [if_pos c_4] at h
      exact w_J_floorDiv_21 C0 hr  _ _ _ _ _ h hH (lv_sub hl [0] rfl)
    · rw [if_neg c_4] at h
      refine lv_iload_n hx hb d_J_floorDiv_17 rfl (lv_at hl 0 rfl) ?_
      refine lv_iconst (v := 1) hx hb d_J_floorDiv_18 (by decide) ?_
      refine lv_isub hx hb d_J_floorDiv_19 ?_
      exact bn_iret C0 hr hH d_J_floorDiv_20 (pq h)
def f_V_floorOf (g : Nat → Nat) (v : mS) (x1 : Int32) : Option (Int32 × mS) := bi (f_V_wholeOf g v x1) fun r_3 v_1 => bi (f_V_scaleOf g v_1 x1) fun r_6 v_4 => gd (inB r_6 7) (bi (f_J_floorDiv g v_4 r_3 (pw (r_6 : Int32).toNatClampNeg)) fun r_10 v_8 => some (r_10, v_8))
set_option maxHeartbeats 4000000 in
set_option maxRecDepth 100000 in
theorem c_V_floorOf {l : Launch} {Z : bZ} {q g : Nat → Nat} (hl0 : l.stackTraces = false) {v : mS}  {x1 : Int32} {o : Int32 × mS} (h : f_V_floorOf g v x1 = some o) : bn_M l Z 1 y_V_floorOf b_V_floorOf 2 (some .int) [.ref (q 1), .int x1] (q, g, v) (bn_Qi Z o.1 (q, g, o.2)) := by
  refine bn_of hl0 (by decide +kernel) (Nat.le_of_ble_eq_true rfl) ?_
  intro p e s m below meth c A ls C0 hr hl hH
  have hx := C0.1
  have hb := C0.2.1
  have C0 : bn_C "FilterBench$Values" b_V_floorOf 2 Z A p l s m _ meth c := C0
  have hl : lv_has ls 2 [(0, .ref (q 1)), (1, .int x1)] := hl
  unfold f_V_floorOf at h
  refine lv_aload_n hx hb d_V_floorOf_0 rfl (lv_at hl 0 rfl) ?_
  refine lv_iload_n hx hb d_V_floorOf_1 rfl (lv_at hl 1 rfl) ?_
  obtain ⟨r_3, v_1, hc_2, h⟩ := bi_out h
  refine bn_ci (r := r_3) (w := (q, g, v_1)) (as := [.int x1]) (rest := []) C0 hH (ci := 4) ⟨by decide, by decide⟩ (by decide) rfl (c_V_wholeOf hl0 hc_2) yy_V_wholeOf q_653 (by decide) rfl hl.1 rfl (Nat.le_of_ble_eq_true rfl) ⟨Nat.zero_le _, Nat.zero_le _⟩ d_V_floorOf_2 (fun H locs hH => ?_)
  refine bn_pows C0 hH q_657 d_V_floorOf_5 ?_
  refine lv_aload_n hx hb d_V_floorOf_8 rfl (lv_at hl 0 rfl) ?_
  refine lv_iload_n hx hb d_V_floorOf_9 rfl (lv_at hl 1 rfl) ?_
  obtain ⟨r_6, v_4, hc_5, h⟩ := bi_out h
  refine bn_ci (r := r_6) (w := (q, g, v_4)) (as := [.int x1]) (rest := [.ref Z.2.2.2.2.2, .int r_3]) C0 hH (ci := 4) ⟨by decide, by decide⟩ (by decide) rfl (c_V_scaleOf hl0 hc_5) yy_V_scaleOf q_659 (by decide) rfl hl.1 rfl (Nat.le_of_ble_eq_true rfl) ⟨Nat.zero_le _, Nat.zero_le _⟩ d_V_floorOf_10 (fun H locs hH => ?_)
  obtain ⟨g_7, h⟩ := gd_out h
  refine bn_pow C0 hH (inB_in g_7) d_V_floorOf_13 ?_
  obtain ⟨r_10, v_8, hc_9, h⟩ := bi_out h
  refine bn_si (r := r_10) (w := (q, g, v_8)) (as := [.int r_3, .int (pw (r_6 : Int32).toNatClampNeg)]) (rest := []) C0 hH (c_J_floorDiv hl0 hc_9) yy_J_floorDiv q_769 (by decide) rfl hl.1 rfl (Nat.le_of_ble_eq_true rfl) ⟨Nat.zero_le _, Nat.zero_le _⟩ d_V_floorOf_14 (fun H locs hH => ?_)
  exact bn_iret C0 hr hH d_V_floorOf_17 (pq h)
def f_V_towardZero (g : Nat → Nat) (v : mS) (x1 : Int32) : Option (Int32 × mS) := bi (f_V_wholeOf g v x1) fun r_3 v_1 => bi (f_V_scaleOf g v_1 x1) fun r_6 v_4 => gd (inB r_6 7) (gd (decide ((pw (r_6 : Int32).toNatClampNeg) ≠ 0)) (some (r_3 / (pw (r_6 : Int32).toNatClampNeg), v_4)))
set_option maxHeartbeats 4000000 in
set_option maxRecDepth 100000 in
theorem c_V_towardZero {l : Launch} {Z : bZ} {q g : Nat → Nat} (hl0 : l.stackTraces = false) {v : mS}  {x1 : Int32} {o : Int32 × mS} (h : f_V_towardZero g v x1 = some o) : bn_M l Z 1 y_V_towardZero b_V_towardZero 2 (some .int) [.ref (q 1), .int x1] (q, g, v) (bn_Qi Z o.1 (q, g, o.2)) := by
  refine bn_of hl0 (by decide +kernel) (Nat.le_of_ble_eq_true rfl) ?_
  intro p e s m below meth c A ls C0 hr hl hH
  have hx := C0.1
  have hb := C0.2.1
  have C0 : bn_C "FilterBench$Values" b_V_towardZero 2 Z A p l s m _ meth c := C0
  have hl : lv_has ls 2 [(0, .ref (q 1)), (1, .int x1)] := hl
  unfold f_V_towardZero at h
  refine lv_aload_n hx hb d_V_towardZero_0 rfl (lv_at hl 0 rfl) ?_
  refine lv_iload_n hx hb d_V_towardZero_1 rfl (lv_at hl 1 rfl) ?_
  obtain ⟨r_3, v_1, hc_2, h⟩ := bi_out h
  refine bn_ci (r := r_3) (w := (q, g, v_1)) (as := [.int x1]) (rest := []) C0 hH (ci := 4) ⟨by decide, by decide⟩ (by decide) rfl (c_V_wholeOf hl0 hc_2) yy_V_wholeOf q_653 (by decide) rfl hl.1 rfl (Nat.le_of_ble_eq_true rfl) ⟨Nat.zero_le _, Nat.zero_le _⟩ d_V_towardZero_2 (fun H locs hH => ?_)
  refine bn_pows C0 hH q_657 d_V_towardZero_5 ?_
  refine lv_aload_n hx hb d_V_towardZero_8 rfl (lv_at hl 0 rfl) ?_
  refine lv_iload_n hx hb d_V_towardZero_9 rfl (lv_at hl 1 rfl) ?_
  obtain ⟨r_6, v_4, hc_5, h⟩ := bi_out h
  refine bn_ci (r := r_6) (w := (q, g, v_4)) (as := [.int x1]) (rest := [.ref Z.2.2.2.2.2, .int r_3]) C0 hH (ci := 4) ⟨by decide, by decide⟩ (by decide) rfl (c_V_scaleOf hl0 hc_5) yy_V_scaleOf q_659 (by decide) rfl hl.1 rfl (Nat.le_of_ble_eq_true rfl) ⟨Nat.zero_le _, Nat.zero_le _⟩ d_V_towardZero_10 (fun H locs hH => ?_)
  obtain ⟨g_7, h⟩ := gd_out h
  refine bn_pow C0 hH (inB_in g_7) d_V_towardZero_13 ?_
  obtain ⟨g_8, h⟩ := gd_out h
  refine lv_idiv hx hb d_V_towardZero_14 (ne_gd g_8) ?_
  exact bn_iret C0 hr hH d_V_towardZero_15 (pq h)
def f_V_memberOf_3 (g : Nat → Nat)  : Nat → Int32 → Int32 → Int32 → Int32 → mS → Option (Int32 × mS)
  | 0, _, _, _, _, _ => none
  | n + 1, x1, x2, x3, x4, v => bi (f_V_lengthOf g v x1) fun r_3 v_1 => if r_3 ≤ x4 then (some (x3, v_1)) else (bi (f_V_nameAt g v_1 x1 x4) fun r_7 v_5 => bi (f_V_comparedTexts g v_5 r_7 x2) fun r_10 v_8 => if r_10 = 0 then (bi (f_V_itemAt g v_8 x1 x4) fun r_15 v_13 => some (r_15, v_13)) else (nm (x4 + 1) fun x4_12 => f_V_memberOf_3 g n x1 x2 x3 x4_12 v_8))
set_option maxHeartbeats 4000000 in
set_option maxRecDepth 100000 in
theorem w_V_memberOf_3 {p : Program} {l : Launch} {e : Env} {s : State} {m : MethodId} {args : Array Value} {below : List Frame} {meth : Method} {c : Code} {Z : bZ} {A : Nat → Prop} {q g : Nat → Nat} {o : Int32 × mS}  (C0 : bn_C "FilterBench$Values" b_V_memberOf 5 Z A p l s m args meth c) (hr : meth.sig.returnType = (some .int)) : ∀ (n : Nat) (x1 : Int32) (x2 : Int32) (x3 : Int32) (x4 : Int32) (v : mS) (H : Heap) (locs : List Loc) (ls : Array Slot), f_V_memberOf_3 g  n x1 x2 x3 x4 v = some o → bn_H Z A s (q, g, v) H locs → lv_has ls 5 [(0, .ref (q 1)), (1, .int x1), (2, .int x2), (3, .int x3), (4, .int x4)] → W p l e (mo_rm 2) s m args below meth c H locs 0 0 (MQ below (bn_Qi Z o.1 (q, g, o.2) A) args s 0 0 A) (F0 m 3 ls []) := by
  have hx := C0.1
  have hb := C0.2.1
  have hl0 := C0.2.2.2.2.2.2.2.2.2
  intro n
  induction n with
  | zero =>
    intro x1 x2 x3 x4 v H locs ls h hH hl
    cases h
  | succ n ih =>
    intro x1 x2 x3 x4 v H locs ls h hH hl
    rw [f_V_memberOf_3] at h
    refine lv_iload hx hb d_V_memberOf_3 (lv_at hl 4 rfl) ?_
    refine lv_aload_n hx hb d_V_memberOf_5 rfl (lv_at hl 0 rfl) ?_
    refine lv_iload_n hx hb d_V_memberOf_6 rfl (lv_at hl 1 rfl) ?_
    obtain ⟨r_3, v_1, hc_2, h⟩ := bi_out h
    refine bn_ci (r := r_3) (w := (q, g, v_1)) (as := [.int x1]) (rest := [.int x4]) C0 hH (ci := 4) ⟨by decide, by decide⟩ (by decide) rfl (c_V_lengthOf hl0 hc_2) yy_V_lengthOf q_383 (by decide) rfl hl.1 rfl (Nat.le_of_ble_eq_true rfl) ⟨Nat.zero_le _, Nat.zero_le _⟩ d_V_memberOf_7 (fun H locs hH => ?_)
    refine lv_icmp_ge (tgt := 42) hx hb d_V_memberOf_10 (by decide) (fun c_4 => ?_) (fun c_4 => ?_)
    · rw [if_pos c_4] at h
      refine lv_iload_n hx hb d_V_memberOf_42 rfl (lv_at hl 3 rfl) ?_
      exact bn_iret C0 hr hH d_V_memberOf_43 (pq h)
    · rw [if_neg c_4] at h
      refine lv_aload_n hx hb d_V_memberOf_13 rfl (lv_at hl 0 rfl) ?_
      refine lv_aload_n hx hb d_V_memberOf_14 rfl (lv_at hl 0 rfl) ?_
      refine lv_iload_n hx hb d_V_memberOf_15 rfl (lv_at hl 1 rfl) ?_
      refine lv_iload hx hb d_V_memberOf_16 (lv_at hl 4 rfl) ?_
      obtain ⟨r_7, v_5, hc_6, h⟩ := bi_out h
      refine bn_ci (r := r_7) (w := (q, g, v_5)) (as := [.int x1, .int x4]) (rest := [.ref (q 1)]) C0 hH (ci := 4) ⟨by decide, by decide⟩ (by decide) rfl (c_V_nameAt hl0 hc_6) yy_V_nameAt q_527 (by decide) rfl hl.1 rfl (Nat.le_of_ble_eq_true rfl) ⟨Nat.zero_le _, Nat.zero_le _⟩ d_V_memberOf_18 (fun H locs hH => ?_)
      refine lv_iload_n hx hb d_V_memberOf_21 rfl (lv_at hl 2 rfl) ?_
      obtain ⟨r_10, v_8, hc_9, h⟩ := bi_out h
      refine bn_ci (r := r_10) (w := (q, g, v_8)) (as := [.int r_7, .int x2]) (rest := []) C0 hH (ci := 4) ⟨by decide, by decide⟩ (by decide) rfl (c_V_comparedTexts hl0 hc_9) yy_V_comparedTexts q_531 (by decide) rfl hl.1 rfl (Nat.le_of_ble_eq_true rfl) ⟨Nat.zero_le _, Nat.zero_le _⟩ d_V_memberOf_22 (fun H locs hH => ?_)
      refine lv_if_ne (tgt := 36) hx hb d_V_memberOf_25 (by decide) (fun c_11 => ?_) (fun c_11 => ?_)
      · rw [if_neg c_11] at h
        obtain ⟨x4_12, hx4_12, h⟩ := nm_out h
        refine lv_iinc (v := x4_12) (lv' := [(4, .int x4_12), (0, .ref (q 1)), (1, .int x1), (2, .int x2), (3, .int x3)]) hx hb d_V_memberOf_36 hl (k := 4) rfl (by rw [hx4_12]; rfl) (by decide) rfl (fun ls hl => ?_)
        refine lv_goto (tgt := 3) hx hb d_V_memberOf_39 (by decide) ?_
        exact ih _ _ _ _ _ _ _ _ h hH (lv_sub hl [1, 2, 3, 4, 0] rfl)
      · rw [if_pos c_11] at h
        refine lv_aload_n hx hb d_V_memberOf_28 rfl (lv_at hl 0 rfl) ?_
        refine lv_iload_n hx hb d_V_memberOf_29 rfl (lv_at hl 1 rfl) ?_
        refine lv_iload hx hb d_V_memberOf_30 (lv_at hl 4 rfl) ?_
        obtain ⟨r_15, v_13, hc_14, h⟩ := bi_out h
        refine bn_ci (r := r_15) (w := (q, g, v_13)) (as := [.int x1, .int x4]) (rest := []) C0 hH (ci := 4) ⟨by decide, by decide⟩ (by decide) rfl (c_V_itemAt hl0 hc_14) yy_V_itemAt q_543 (by decide) rfl hl.1 rfl (Nat.le_of_ble_eq_true rfl) ⟨Nat.zero_le _, Nat.zero_le _⟩ d_V_memberOf_32 (fun H locs hH => ?_)
        exact bn_iret C0 hr hH d_V_memberOf_35 (pq h)
def f_V_memberOf (g : Nat → Nat) (v : mS) (x1 : Int32) (x2 : Int32) (x3 : Int32) : Option (Int32 × mS) := f_V_memberOf_3 g fu x1 x2 x3 0 v
set_option maxHeartbeats 4000000 in
set_option maxRecDepth 100000 in
theorem c_V_memberOf {l : Launch} {Z : bZ} {q g : Nat → Nat} (hl0 : l.stackTraces = false) {v : mS}  {x1 : Int32} {x2 : Int32} {x3 : Int32} {o : Int32 × mS} (h : f_V_memberOf g v x1 x2 x3 = some o) : bn_M l Z 2 y_V_memberOf b_V_memberOf 5 (some .int) [.ref (q 1), .int x1, .int x2, .int x3] (q, g, v) (bn_Qi Z o.1 (q, g, o.2)) := by
  refine bn_of hl0 (by decide +kernel) (Nat.le_of_ble_eq_true rfl) ?_
  intro p e s m below meth c A ls C0 hr hl hH
  have hx := C0.1
  have hb := C0.2.1
  have C0 : bn_C "FilterBench$Values" b_V_memberOf 5 Z A p l s m _ meth c := C0
  have hl : lv_has ls 5 [(0, .ref (q 1)), (1, .int x1), (2, .int x2), (3, .int x3)] := hl
  unfold f_V_memberOf at h
  refine lv_iconst (v := 0) hx hb d_V_memberOf_0 (by decide) ?_
  refine lv_istore (lv' := [(4, .int 0), (0, .ref (q 1)), (1, .int x1), (2, .int x2), (3, .int x3)]) hx hb d_V_memberOf_1 hl (by decide) rfl (fun ls hl => ?_)
  exact w_V_memberOf_3 C0 hr  fu _ _ _ _ _ _ _ _ h hH (lv_sub hl [1, 2, 3, 4, 0] rfl)
def f_V_fieldOf (g : Nat → Nat) (v : mS) (x1 : Int32) (x2 : Int32) : Option (Int32 × mS) := bi (f_V_kindOf g v x1) fun r_3 v_1 => if r_3 = 0 then (some (0, v_1)) else (bi (f_V_kindOf g v_1 x1) fun r_7 v_5 => if r_7 = 6 then (bi (f_V_memberOf g v_5 x1 x2 0) fun r_11 v_9 => some (r_11, v_9)) else (some ((-1), v_5)))
set_option maxHeartbeats 4000000 in
set_option maxRecDepth 100000 in
theorem c_V_fieldOf {l : Launch} {Z : bZ} {q g : Nat → Nat} (hl0 : l.stackTraces = false) {v : mS}  {x1 : Int32} {x2 : Int32} {o : Int32 × mS} (h : f_V_fieldOf g v x1 x2 = some o) : bn_M l Z 3 y_V_fieldOf b_V_fieldOf 3 (some .int) [.ref (q 1), .int x1, .int x2] (q, g, v) (bn_Qi Z o.1 (q, g, o.2)) := by
  refine bn_of hl0 (by decide +kernel) (Nat.le_of_ble_eq_true rfl) ?_
  intro p e s m below meth c A ls C0 hr hl hH
  have hx := C0.1
  have hb := C0.2.1
  have C0 : bn_C "FilterBench$Values" b_V_fieldOf 3 Z A p l s m _ meth c := C0
  have hl : lv_has ls 3 [(0, .ref (q 1)), (1, .int x1), (2, .int x2)] := hl
  unfold f_V_fieldOf at h
  refine lv_aload_n hx hb d_V_fieldOf_0 rfl (lv_at hl 0 rfl) ?_
  refine lv_iload_n hx hb d_V_fieldOf_1 rfl (lv_at hl 1 rfl) ?_
  obtain ⟨r_3, v_1, hc_2, h⟩ := bi_out h
  refine bn_ci (r := r_3) (w := (q, g, v_1)) (as := [.int x1]) (rest := []) C0 hH (ci := 4) ⟨by decide, by decide⟩ (by decide) rfl (c_V_kindOf hl0 hc_2) yy_V_kindOf q_519 (by decide) rfl hl.1 rfl (Nat.le_of_ble_eq_true rfl) ⟨Nat.zero_le _, Nat.zero_le _⟩ d_V_fieldOf_2 (fun H locs hH => ?_)
  refine lv_if_ne (tgt := 10) hx hb d_V_fieldOf_5 (by decide) (fun c_4 => ?_) (fun c_4 => ?_)
  · rw [if_neg c_4] at h
    refine lv_aload_n hx hb d_V_fieldOf_10 rfl (lv_at hl 0 rfl) ?_
    refine lv_iload_n hx hb d_V_fieldOf_11 rfl (lv_at hl 1 rfl) ?_
    obtain ⟨r_7, v_5, hc_6, h⟩ := bi_out h
    refine bn_ci (r := r_7) (w := (q, g, v_5)) (as := [.int x1]) (rest := []) C0 hH (ci := 4) ⟨by decide, by decide⟩ (by decide) rfl (c_V_kindOf hl0 hc_6) yy_V_kindOf q_519 (by decide) rfl hl.1 rfl (Nat.le_of_ble_eq_true rfl) ⟨Nat.zero_le _, Nat.zero_le _⟩ d_V_fieldOf_12 (fun H locs hH => ?_)
    refine lv_bipush (v := 6) hx hb d_V_fieldOf_15 (by decide) ?_
    refine lv_icmp_eq (tgt := 22) hx hb d_V_fieldOf_17 (by decide) (fun c_8 => ?_) (fun c_8 => ?_)
    · rw [if_pos c_8] at h
      refine lv_aload_n hx hb d_V_fieldOf_22 rfl (lv_at hl 0 rfl) ?_
      refine lv_iload_n hx hb d_V_fieldOf_23 rfl (lv_at hl 1 rfl) ?_
      refine lv_iload_n hx hb d_V_fieldOf_24 rfl (lv_at hl 2 rfl) ?_
      refine lv_iconst (v := 0) hx hb d_V_fieldOf_25 (by decide) ?_
      obtain ⟨r_11, v_9, hc_10, h⟩ := bi_out h
      refine bn_ci (r := r_11) (w := (q, g, v_9)) (as := [.int x1, .int x2, .int 0]) (rest := []) C0 hH (ci := 4) ⟨by decide, by decide⟩ (by decide) rfl (c_V_memberOf hl0 hc_10) yy_V_memberOf q_523 (by decide) rfl hl.1 rfl (Nat.le_of_ble_eq_true rfl) ⟨Nat.zero_le _, Nat.zero_le _⟩ d_V_fieldOf_26 (fun H locs hH => ?_)
      exact bn_iret C0 hr hH d_V_fieldOf_29 (pq h)
    · rw [if_neg c_8] at h
      refine lv_iconst (v := (-1)) hx hb d_V_fieldOf_20 (by decide) ?_
      exact bn_iret C0 hr hH d_V_fieldOf_21 (pq h)
  · rw [if_pos c_4] at h
    refine lv_iconst (v := 0) hx hb d_V_fieldOf_8 (by decide) ?_
    exact bn_iret C0 hr hH d_V_fieldOf_9 (pq h)
def f_V_indexed_55 (g : Nat → Nat)   (v : mS) : Option (Int32 × mS) := some ((-1), v)
set_option maxHeartbeats 4000000 in
set_option maxRecDepth 100000 in
theorem w_V_indexed_55 {p : Program} {l : Launch} {e : Env} {s : State} {m : MethodId} {args : Array Value} {below : List Frame} {meth : Method} {c : Code} {Z : bZ} {A : Nat → Prop} {q g : Nat → Nat} {o : Int32 × mS}  (C0 : bn_C "FilterBench$Values" b_V_indexed 4 Z A p l s m args meth c) (hr : meth.sig.returnType = (some .int)) : ∀  (v : mS) (H : Heap) (locs : List Loc) (ls : Array Slot), f_V_indexed_55 g   v = some o → bn_H Z A s (q, g, v) H locs → lv_has ls 4 [] → W p l e (mo_rm 3) s m args below meth c H locs 0 0 (MQ below (bn_Qi Z o.1 (q, g, o.2) A) args s 0 0 A) (F0 m 55 ls []) := by
  have hx := C0.1
  have hb := C0.2.1
  have hl0 := C0.2.2.2.2.2.2.2.2.2
  intro  v H locs ls h hH hl
  unfold f_V_indexed_55 at h
  refine lv_iconst (v := (-1)) hx hb d_V_indexed_55 (by decide) ?_
  exact bn_iret C0 hr hH d_V_indexed_56 (pq h)
def f_V_indexed_107 (g : Nat → Nat)  (y0 : Int32) (v : mS) : Option (Int32 × mS) := some (y0, v)
set_option maxHeartbeats 4000000 in
set_option maxRecDepth 100000 in
theorem w_V_indexed_107 {p : Program} {l : Launch} {e : Env} {s : State} {m : MethodId} {args : Array Value} {below : List Frame} {meth : Method} {c : Code} {Z : bZ} {A : Nat → Prop} {q g : Nat → Nat} {o : Int32 × mS}  (C0 : bn_C "FilterBench$Values" b_V_indexed 4 Z A p l s m args meth c) (hr : meth.sig.returnType = (some .int)) : ∀ (y0 : Int32) (v : mS) (H : Heap) (locs : List Loc) (ls : Array Slot), f_V_indexed_107 g  y0 v = some o → bn_H Z A s (q, g, v) H locs → lv_has ls 4 [] → W p l e (mo_rm 3) s m args below meth c H locs 0 0 (MQ below (bn_Qi Z o.1 (q, g, o.2) A) args s 0 0 A) (F0 m 107 ls [.int y0]) := by
  have hx := C0.1
  have hb := C0.2.1
  have hl0 := C0.2.2.2.2.2.2.2.2.2
  intro y0 v H locs ls h hH hl
  unfold f_V_indexed_107 at h
  exact bn_iret C0 hr hH d_V_indexed_107 (pq h)
def f_V_indexed_84 (g : Nat → Nat)  (x1 : Int32) (y0 : Int32) (v : mS) : Option (Int32 × mS) := bi (f_V_lengthOf g v x1) fun r_3 v_1 => bi (f_B_isBelow g v_1 y0 r_3) fun r_6 v_4 => if r_6 = 0 then (f_V_indexed_107 g 0 v_4) else (bi (f_V_itemAt g v_4 x1 y0) fun r_10 v_8 => f_V_indexed_107 g r_10 v_8)
set_option maxHeartbeats 4000000 in
set_option maxRecDepth 100000 in
theorem w_V_indexed_84 {p : Program} {l : Launch} {e : Env} {s : State} {m : MethodId} {args : Array Value} {below : List Frame} {meth : Method} {c : Code} {Z : bZ} {A : Nat → Prop} {q g : Nat → Nat} {o : Int32 × mS}  (C0 : bn_C "FilterBench$Values" b_V_indexed 4 Z A p l s m args meth c) (hr : meth.sig.returnType = (some .int)) : ∀ (x1 : Int32) (y0 : Int32) (v : mS) (H : Heap) (locs : List Loc) (ls : Array Slot), f_V_indexed_84 g  x1 y0 v = some o → bn_H Z A s (q, g, v) H locs → lv_has ls 4 [(0, .ref (q 1)), (1, .int x1)] → W p l e (mo_rm 3) s m args below meth c H locs 0 0 (MQ below (bn_Qi Z o.1 (q, g, o.2) A) args s 0 0 A) (F0 m 84 ls [.int y0]) := by
  have hx := C0.1
  have hb := C0.2.1
  have hl0 := C0.2.2.2.2.2.2.2.2.2
  intro x1 y0 v H locs ls h hH hl
  unfold f_V_indexed_84 at h
  refine lv_istore_n (lv' := [(3, .int y0), (0, .ref (q 1)), (1, .int x1)]) hx hb d_V_indexed_84 rfl hl (by decide) rfl (fun ls hl => ?_)
  refine lv_iload_n hx hb d_V_indexed_85 rfl (lv_at hl 0 rfl) ?_
  refine lv_aload_n hx hb d_V_indexed_86 rfl (lv_at hl 1 rfl) ?_
  refine lv_iload_n hx hb d_V_indexed_87 rfl (lv_at hl 2 rfl) ?_
  obtain ⟨r_3, v_1, hc_2, h⟩ := bi_out h
  refine bn_ci (r := r_3) (w := (q, g, v_1)) (as := [.int x1]) (rest := [.int y0]) C0 hH (ci := 4) ⟨by decide, by decide⟩ (by decide) rfl (c_V_lengthOf hl0 hc_2) yy_V_lengthOf q_383 (by decide) rfl hl.1 rfl (Nat.le_of_ble_eq_true rfl) ⟨Nat.zero_le _, Nat.zero_le _⟩ d_V_indexed_88 (fun H locs hH => ?_)
  obtain ⟨r_6, v_4, hc_5, h⟩ := bi_out h
  refine bn_ti (r := r_6) (w := (q, g, v_4)) (as := [.int y0, .int r_3]) (rest := []) C0 hH (c_B_isBelow hl0 hc_5) yy_B_isBelow (C0.2.2.2.2.2.2.2.2.1.2.2.2.2.2.2.1 _ (List.mem_of_getElem? (i := 7) rfl)) (by decide) rfl hl.1 rfl (Nat.le_of_ble_eq_true rfl) ⟨Nat.zero_le _, Nat.zero_le _⟩ d_V_indexed_91 (fun H locs hH => ?_)
  refine lv_if_eq (tgt := 106) hx hb d_V_indexed_94 (by decide) (fun c_7 => ?_) (fun c_7 => ?_)
  · rw [if_pos c_7] at h
    refine lv_iconst (v := 0) hx hb d_V_indexed_106 (by decide) ?_
    exact w_V_indexed_107 C0 hr  _ _ _ _ _ h hH (lv_sub hl [] rfl)
  · rw [if_neg c_7] at h
    refine lv_aload_n hx hb d_V_indexed_97 rfl (lv_at hl 1 rfl) ?_
    refine lv_iload_n hx hb d_V_indexed_98 rfl (lv_at hl 2 rfl) ?_
    refine lv_iload_n hx hb d_V_indexed_99 rfl (lv_at hl 0 rfl) ?_
    obtain ⟨r_10, v_8, hc_9, h⟩ := bi_out h
    refine bn_ci (r := r_10) (w := (q, g, v_8)) (as := [.int x1, .int y0]) (rest := []) C0 hH (ci := 4) ⟨by decide, by decide⟩ (by decide) rfl (c_V_itemAt hl0 hc_9) yy_V_itemAt q_543 (by decide) rfl hl.1 rfl (Nat.le_of_ble_eq_true rfl) ⟨Nat.zero_le _, Nat.zero_le _⟩ d_V_indexed_100 (fun H locs hH => ?_)
    refine lv_goto (tgt := 107) hx hb d_V_indexed_103 (by decide) ?_
    exact w_V_indexed_107 C0 hr  _ _ _ _ _ h hH (lv_sub hl [] rfl)
def f_V_indexed_37 (g : Nat → Nat)  (x1 : Int32) (x2 : Int32) (v : mS) : Option (Int32 × mS) := bi (f_V_kindOf g v x1) fun r_3 v_1 => if r_3 = 5 then (bi (f_V_kindOf g v_1 x2) fun r_7 v_5 => if r_7 = 3 then (bi (f_V_floorOf g v_5 x2) fun r_11 v_9 => if 0 ≤ r_11 then (bi (f_V_floorOf g v_9 x2) fun r_15 v_13 => f_V_indexed_84 g x1 r_15 v_13) else (bi (f_V_floorOf g v_9 x2) fun r_18 v_16 => bi (f_V_lengthOf g v_16 x1) fun r_21 v_19 => f_V_indexed_84 g x1 (r_18 + r_21) v_19)) else (f_V_indexed_55 g v_5)) else (f_V_indexed_55 g v_1)
set_option maxHeartbeats 4000000 in
set_option maxRecDepth 100000 in
theorem w_V_indexed_37 {p : Program} {l : Launch} {e : Env} {s : State} {m : MethodId} {args : Array Value} {below : List Frame} {meth : Method} {c : Code} {Z : bZ} {A : Nat → Prop} {q g : Nat → Nat} {o : Int32 × mS}  (C0 : bn_C "FilterBench$Values" b_V_indexed 4 Z A p l s m args meth c) (hr : meth.sig.returnType = (some .int)) : ∀ (x1 : Int32) (x2 : Int32) (v : mS) (H : Heap) (locs : List Loc) (ls : Array Slot), f_V_indexed_37 g  x1 x2 v = some o → bn_H Z A s (q, g, v) H locs → lv_has ls 4 [(0, .ref (q 1)), (1, .int x1), (2, .int x2)] → W p l e (mo_rm 3) s m args below meth c H locs 0 0 (MQ below (bn_Qi Z o.1 (q, g, o.2) A) args s 0 0 A) (F0 m 37 ls []) := by
  have hx := C0.1
  have hb := C0.2.1
  have hl0 := C0.2.2.2.2.2.2.2.2.2
  intro x1 x2 v H locs ls h hH hl
  unfold f_V_indexed_37 at h
  refine lv_aload_n hx hb d_V_indexed_37 rfl (lv_at hl 0 rfl) ?_
  refine lv_iload_n hx hb d_V_indexed_38 rfl (lv_at hl 1 rfl) ?_
  obtain ⟨r_3, v_1, hc_2, h⟩ := bi_out h
  refine bn_ci (r := r_3) (w := (q, g, v_1)) (as := [.int x1]) (rest := []) C0 hH (ci := 4) ⟨by decide, by decide⟩ (by decide) rfl (c_V_kindOf hl0 hc_2) yy_V_kindOf q_519 (by decide) rfl hl.1 rfl (Nat.le_of_ble_eq_true rfl) ⟨Nat.zero_le _, Nat.zero_le _⟩ d_V_indexed_39 (fun H locs hH => ?_)
  refine lv_iconst (v := 5) hx hb d_V_indexed_42 (by decide) ?_
  refine lv_icmp_ne (tgt := 55) hx hb d_V_indexed_43 (by decide) (fun c_4 => ?_) (fun c_4 => ?_)
  · rw [if_neg c_4] at h
    exact w_V_indexed_55 C0 hr   _ _ _ _ h hH (lv_sub hl [] rfl)
  · rw [if_pos c_4] at h
    refine lv_aload_n hx hb d_V_indexed_46 rfl (lv_at hl 0 rfl) ?_
    refine lv_iload_n hx hb d_V_indexed_47 rfl (lv_at hl 2 rfl) ?_
    obtain ⟨r_7, v_5, hc_6, h⟩ := bi_out h
    refine bn_ci (r := r_7) (w := (q, g, v_5)) (as := [.int x2]) (rest := []) C0 hH (ci := 4) ⟨by decide, by decide⟩ (by decide) rfl (c_V_kindOf hl0 hc_6) yy_V_kindOf q_519 (by decide) rfl hl.1 rfl (Nat.le_of_ble_eq_true rfl) ⟨Nat.zero_le _, Nat.zero_le _⟩ d_V_indexed_48 (fun H locs hH => ?_)
    refine lv_iconst (v := 3) hx hb d_V_indexed_51 (by decide) ?_
    refine lv_icmp_eq (tgt := 57) hx hb d_V_indexed_52 (by decide) (fun c_8 => ?_) (fun c_8 => ?_)
    · rw [if_pos c_8] at h
      refine lv_aload_n hx hb d_V_indexed_57 rfl (lv_at hl 0 rfl) ?_
      refine lv_iload_n hx hb d_V_indexed_58 rfl (lv_at hl 2 rfl) ?_
      obtain ⟨r_11, v_9, hc_10, h⟩ := bi_out h
      refine bn_ci (r := r_11) (w := (q, g, v_9)) (as := [.int x2]) (rest := []) C0 hH (ci := 4) ⟨by decide, by decide⟩ (by decide) rfl (c_V_floorOf hl0 hc_10) yy_V_floorOf q_765 (by decide) rfl hl.1 rfl (Nat.le_of_ble_eq_true rfl) ⟨Nat.zero_le _, Nat.zero_le _⟩ d_V_indexed_59 (fun H locs hH => ?_)
      refine lv_if_ge (tgt := 79) hx hb d_V_indexed_62 (by decide) (fun c_12 => ?_) (fun c_12 => ?_)
      · rw [if_pos c_12] at h
        refine lv_aload_n hx hb d_V_indexed_79 rfl (lv_at hl 0 rfl) ?_
        refine lv_iload_n hx hb d_V_indexed_80 rfl (lv_at hl 2 rfl) ?_
        obtain ⟨r_15, v_13, hc_14, h⟩ := bi_out h
        refine bn_ci (r := r_15) (w := (q, g, v_13)) (as := [.int x2]) (rest := []) C0 hH (ci := 4) ⟨by decide, by decide⟩ (by decide) rfl (c_V_floorOf hl0 hc_14) yy_V_floorOf q_765 (by decide) rfl hl.1 rfl (Nat.le_of_ble_eq_true rfl) ⟨Nat.zero_le _, Nat.zero_le _⟩ d_V_indexed_81 (fun H locs hH => ?_)
        exact w_V_indexed_84 C0 hr  _ _ _ _ _ _ h hH (lv_sub hl [0, 1] rfl)
      · rw [if_neg c_12] at h
        refine lv_aload_n hx hb d_V_indexed_65 rfl (lv_at hl 0 rfl) ?_
        refine lv_iload_n hx hb d_V_indexed_66 rfl (lv_at hl 2 rfl) ?_
        obtain ⟨r_18, v_16, hc_17, h⟩ := bi_out h
        refine bn_ci (r := r_18) (w := (q, g, v_16)) (as := [.int x2]) (rest := []) C0 hH (ci := 4) ⟨by decide, by decide⟩ (by decide) rfl (c_V_floorOf hl0 hc_17) yy_V_floorOf q_765 (by decide) rfl hl.1 rfl (Nat.le_of_ble_eq_true rfl) ⟨Nat.zero_le _, Nat.zero_le _⟩ d_V_indexed_67 (fun H locs hH => ?_)
        refine lv_aload_n hx hb d_V_indexed_70 rfl (lv_at hl 0 rfl) ?_
        refine lv_iload_n hx hb d_V_indexed_71 rfl (lv_at hl 1 rfl) ?_
        obtain ⟨r_21, v_19, hc_20, h⟩ := bi_out h
        refine bn_ci (r := r_21) (w := (q, g, v_19)) (as := [.int x1]) (rest := [.int r_18]) C0 hH (ci := 4) ⟨by decide, by decide⟩ (by decide) rfl (c_V_lengthOf hl0 hc_20) yy_V_lengthOf q_383 (by decide) rfl hl.1 rfl (Nat.le_of_ble_eq_true rfl) ⟨Nat.zero_le _, Nat.zero_le _⟩ d_V_indexed_72 (fun H locs hH => ?_)
        refine lv_iadd hx hb d_V_indexed_75 ?_
        refine lv_goto (tgt := 84) hx hb d_V_indexed_76 (by decide) ?_
        exact w_V_indexed_84 C0 hr  _ _ _ _ _ _ h hH (lv_sub hl [0, 1] rfl)
    · rw [if_neg c_8] at h
      exact w_V_indexed_55 C0 hr   _ _ _ _ h hH (lv_sub hl [] rfl)
def f_V_indexed (g : Nat → Nat) (v : mS) (x1 : Int32) (x2 : Int32) : Option (Int32 × mS) := bi (f_V_kindOf g v x1) fun r_3 v_1 => if r_3 = 0 then (some (0, v_1)) else (bi (f_V_kindOf g v_1 x1) fun r_7 v_5 => if r_7 = 6 then (bi (f_V_kindOf g v_5 x2) fun r_11 v_9 => if r_11 = 4 then (bi (f_V_memberOf g v_9 x1 x2 0) fun r_15 v_13 => some (r_15, v_13)) else (f_V_indexed_37 g x1 x2 v_9)) else (f_V_indexed_37 g x1 x2 v_5))
set_option maxHeartbeats 4000000 in
set_option maxRecDepth 100000 in
theorem c_V_indexed {l : Launch} {Z : bZ} {q g : Nat → Nat} (hl0 : l.stackTraces = false) {v : mS}  {x1 : Int32} {x2 : Int32} {o : Int32 × mS} (h : f_V_indexed g v x1 x2 = some o) : bn_M l Z 3 y_V_indexed b_V_indexed 4 (some .int) [.ref (q 1), .int x1, .int x2] (q, g, v) (bn_Qi Z o.1 (q, g, o.2)) := by
  refine bn_of hl0 (by decide +kernel) (Nat.le_of_ble_eq_true rfl) ?_
  intro p e s m below meth c A ls C0 hr hl hH
  have hx := C0.1
  have hb := C0.2.1
  have C0 : bn_C "FilterBench$Values" b_V_indexed 4 Z A p l s m _ meth c := C0
  have hl : lv_has ls 4 [(0, .ref (q 1)), (1, .int x1), (2, .int x2)] := hl
  unfold f_V_indexed at h
  refine lv_aload_n hx hb d_V_indexed_0 rfl (lv_at hl 0 rfl) ?_
  refine lv_iload_n hx hb d_V_indexed_1 rfl (lv_at hl 1 rfl) ?_
  obtain ⟨r_3, v_1, hc_2, h⟩ := bi_out h
  refine bn_ci (r := r_3) (w := (q, g, v_1)) (as := [.int x1]) (rest := []) C0 hH (ci := 4) ⟨by decide, by decide⟩ (by decide) rfl (c_V_kindOf hl0 hc_2) yy_V_kindOf q_519 (by decide) rfl hl.1 rfl (Nat.le_of_ble_eq_true rfl) ⟨Nat.zero_le _, Nat.zero_le _⟩ d_V_indexed_2 (fun H locs hH => ?_)
  refine lv_if_ne (tgt := 10) hx hb d_V_indexed_5 (by decide) (fun c_4 => ?_) (fun c_4 => ?_)
  · rw [if_neg c_4] at h
    refine lv_aload_n hx hb d_V_indexed_10 rfl (lv_at hl 0 rfl) ?_
    refine lv_iload_n hx hb d_V_indexed_11 rfl (lv_at hl 1 rfl) ?_
    obtain ⟨r_7, v_5, hc_6, h⟩ := bi_out h
    refine bn_ci (r := r_7) (w := (q, g, v_5)) (as := [.int x1]) (rest := []) C0 hH (ci := 4) ⟨by decide, by decide⟩ (by decide) rfl (c_V_kindOf hl0 hc_6) yy_V_kindOf q_519 (by decide) rfl hl.1 rfl (Nat.le_of_ble_eq_true rfl) ⟨Nat.zero_le _, Nat.zero_le _⟩ d_V_indexed_12 (fun H locs hH => ?_)
    refine lv_bipush (v := 6) hx hb d_V_indexed_15 (by decide) ?_
    refine lv_icmp_ne (tgt := 37) hx hb d_V_indexed_17 (by decide) (fun c_8 => ?_) (fun c_8 => ?_)
    · rw [if_neg c_8] at h
      exact w_V_indexed_37 C0 hr  _ _ _ _ _ _ h hH (lv_sub hl [0, 1, 2] rfl)
    · rw [if_pos c_8] at h
      refine lv_aload_n hx hb d_V_indexed_20 rfl (lv_at hl 0 rfl) ?_
      refine lv_iload_n hx hb d_V_indexed_21 rfl (lv_at hl 2 rfl) ?_
      obtain ⟨r_11, v_9, hc_10, h⟩ := bi_out h
      refine bn_ci (r := r_11) (w := (q, g, v_9)) (as := [.int x2]) (rest := []) C0 hH (ci := 4) ⟨by decide, by decide⟩ (by decide) rfl (c_V_kindOf hl0 hc_10) yy_V_kindOf q_519 (by decide) rfl hl.1 rfl (Nat.le_of_ble_eq_true rfl) ⟨Nat.zero_le _, Nat.zero_le _⟩ d_V_indexed_22 (fun H locs hH => ?_)
      refine lv_iconst (v := 4) hx hb d_V_indexed_25 (by decide) ?_
      refine lv_icmp_ne (tgt := 37) hx hb d_V_indexed_26 (by decide) (fun c_12 => ?_) (fun c_12 => ?_)
      · rw [if_neg c_12] at h
        exact w_V_indexed_37 C0 hr  _ _ _ _ _ _ h hH (lv_sub hl [0, 1, 2] rfl)
      · rw [if_pos c_12] at h
        refine lv_aload_n hx hb d_V_indexed_29 rfl (lv_at hl 0 rfl) ?_
        refine lv_iload_n hx hb d_V_indexed_30 rfl (lv_at hl 1 rfl) ?_
        refine lv_iload_n hx hb d_V_indexed_31 rfl (lv_at hl 2 rfl) ?_
        refine lv_iconst (v := 0) hx hb d_V_indexed_32 (by decide) ?_
        obtain ⟨r_15, v_13, hc_14, h⟩ := bi_out h
        refine bn_ci (r := r_15) (w := (q, g, v_13)) (as := [.int x1, .int x2, .int 0]) (rest := []) C0 hH (ci := 4) ⟨by decide, by decide⟩ (by decide) rfl (c_V_memberOf hl0 hc_14) yy_V_memberOf q_523 (by decide) rfl hl.1 rfl (Nat.le_of_ble_eq_true rfl) ⟨Nat.zero_le _, Nat.zero_le _⟩ d_V_indexed_33 (fun H locs hH => ?_)
        exact bn_iret C0 hr hH d_V_indexed_36 (pq h)
  · rw [if_pos c_4] at h
    refine lv_iconst (v := 0) hx hb d_V_indexed_8 (by decide) ?_
    exact bn_iret C0 hr hH d_V_indexed_9 (pq h)
def f_V_has_36 (g : Nat → Nat)  (y1 : Int32) (v : mS) : Option (Int32 × mS) := bi (f_V_truth g v y1) fun r_3 v_1 => some (r_3, v_1)
set_option maxHeartbeats 4000000 in
set_option maxRecDepth 100000 in
theorem w_V_has_36 {p : Program} {l : Launch} {e : Env} {s : State} {m : MethodId} {args : Array Value} {below : List Frame} {meth : Method} {c : Code} {Z : bZ} {A : Nat → Prop} {q g : Nat → Nat} {o : Int32 × mS}  (C0 : bn_C "FilterBench$Values" b_V_has 3 Z A p l s m args meth c) (hr : meth.sig.returnType = (some .int)) : ∀ (y1 : Int32) (v : mS) (H : Heap) (locs : List Loc) (ls : Array Slot), f_V_has_36 g  y1 v = some o → bn_H Z A s (q, g, v) H locs → lv_has ls 3 [] → W p l e (mo_rm 3) s m args below meth c H locs 0 0 (MQ below (bn_Qi Z o.1 (q, g, o.2) A) args s 0 0 A) (F0 m 36 ls [.int y1, .ref (q 1)]) := by
  have hx := C0.1
  have hb := C0.2.1
  have hl0 := C0.2.2.2.2.2.2.2.2.2
  intro y1 v H locs ls h hH hl
  unfold f_V_has_36 at h
  obtain ⟨r_3, v_1, hc_2, h⟩ := bi_out h
  refine bn_ci (r := r_3) (w := (q, g, v_1)) (as := [.int y1]) (rest := []) C0 hH (ci := 4) ⟨by decide, by decide⟩ (by decide) rfl (c_V_truth hl0 hc_2) yy_V_truth q_810 (by decide) rfl hl.1 rfl (Nat.le_of_ble_eq_true rfl) ⟨Nat.zero_le _, Nat.zero_le _⟩ d_V_has_36 (fun H locs hH => ?_)
  exact bn_iret C0 hr hH d_V_has_39 (pq h)
def f_V_has_76 (g : Nat → Nat)   (v : mS) : Option (Int32 × mS) := some ((-1), v)
set_option maxHeartbeats 4000000 in
set_option maxRecDepth 100000 in
theorem w_V_has_76 {p : Program} {l : Launch} {e : Env} {s : State} {m : MethodId} {args : Array Value} {below : List Frame} {meth : Method} {c : Code} {Z : bZ} {A : Nat → Prop} {q g : Nat → Nat} {o : Int32 × mS}  (C0 : bn_C "FilterBench$Values" b_V_has 3 Z A p l s m args meth c) (hr : meth.sig.returnType = (some .int)) : ∀  (v : mS) (H : Heap) (locs : List Loc) (ls : Array Slot), f_V_has_76 g   v = some o → bn_H Z A s (q, g, v) H locs → lv_has ls 3 [] → W p l e (mo_rm 3) s m args below meth c H locs 0 0 (MQ below (bn_Qi Z o.1 (q, g, o.2) A) args s 0 0 A) (F0 m 76 ls []) := by
  have hx := C0.1
  have hb := C0.2.1
  have hl0 := C0.2.2.2.2.2.2.2.2.2
  intro  v H locs ls h hH hl
  unfold f_V_has_76 at h
  refine lv_iconst (v := (-1)) hx hb d_V_has_76 (by decide) ?_
  exact bn_iret C0 hr hH d_V_has_77 (pq h)
def f_V_has_40 (g : Nat → Nat)  (x1 : Int32) (x2 : Int32) (v : mS) : Option (Int32 × mS) := bi (f_V_kindOf g v x1) fun r_3 v_1 => if r_3 = 5 then (bi (f_V_kindOf g v_1 x2) fun r_7 v_5 => if r_7 = 3 then (bi (f_V_floorOf g v_5 x2) fun r_11 v_9 => bi (f_V_lengthOf g v_9 x1) fun r_14 v_12 => bi (f_B_isBelow g v_12 r_11 r_14) fun r_17 v_15 => bi (f_V_truth g v_15 r_17) fun r_20 v_18 => some (r_20, v_18)) else (f_V_has_76 g v_5)) else (f_V_has_76 g v_1)
set_option maxHeartbeats 4000000 in
set_option maxRecDepth 100000 in
theorem w_V_has_40 {p : Program} {l : Launch} {e : Env} {s : State} {m : MethodId} {args : Array Value} {below : List Frame} {meth : Method} {c : Code} {Z : bZ} {A : Nat → Prop} {q g : Nat → Nat} {o : Int32 × mS}  (C0 : bn_C "FilterBench$Values" b_V_has 3 Z A p l s m args meth c) (hr : meth.sig.returnType = (some .int)) : ∀ (x1 : Int32) (x2 : Int32) (v : mS) (H : Heap) (locs : List Loc) (ls : Array Slot), f_V_has_40 g  x1 x2 v = some o → bn_H Z A s (q, g, v) H locs → lv_has ls 3 [(0, .ref (q 1)), (1, .int x1), (2, .int x2)] → W p l e (mo_rm 3) s m args below meth c H locs 0 0 (MQ below (bn_Qi Z o.1 (q, g, o.2) A) args s 0 0 A) (F0 m 40 ls []) := by
  have hx := C0.1
  have hb := C0.2.1
  have hl0 := C0.2.2.2.2.2.2.2.2.2
  intro x1 x2 v H locs ls h hH hl
  unfold f_V_has_40 at h
  refine lv_aload_n hx hb d_V_has_40 rfl (lv_at hl 0 rfl) ?_
  refine lv_iload_n hx hb d_V_has_41 rfl (lv_at hl 1 rfl) ?_
  obtain ⟨r_3, v_1, hc_2, h⟩ := bi_out h
  refine bn_ci (r := r_3) (w := (q, g, v_1)) (as := [.int x1]) (rest := []) C0 hH (ci := 4) ⟨by decide, by decide⟩ (by decide) rfl (c_V_kindOf hl0 hc_2) yy_V_kindOf q_519 (by decide) rfl hl.1 rfl (Nat.le_of_ble_eq_true rfl) ⟨Nat.zero_le _, Nat.zero_le _⟩ d_V_has_42 (fun H locs hH => ?_)
  refine lv_iconst (v := 5) hx hb d_V_has_45 (by decide) ?_
  refine lv_icmp_ne (tgt := 76) hx hb d_V_has_46 (by decide) (fun c_4 => ?_) (fun c_4 => ?_)
  · rw [if_neg c_4] at h
    exact w_V_has_76 C0 hr   _ _ _ _ h hH (lv_sub hl [] rfl)
  · rw [if_pos c_4] at h
    refine lv_aload_n hx hb d_V_has_49 rfl (lv_at hl 0 rfl) ?_
    refine lv_iload_n hx hb d_V_has_50 rfl (lv_at hl 2 rfl) ?_
    obtain ⟨r_7, v_5, hc_6, h⟩ := bi_out h
    refine bn_ci (r := r_7) (w := (q, g, v_5)) (as := [.int x2]) (rest := []) C0 hH (ci := 4) ⟨by decide, by decide⟩ (by decide) rfl (c_V_kindOf hl0 hc_6) yy_V_kindOf q_519 (by decide) rfl hl.1 rfl (Nat.le_of_ble_eq_true rfl) ⟨Nat.zero_le _, Nat.zero_le _⟩ d_V_has_51 (fun H locs hH => ?_)
    refine lv_iconst (v := 3) hx hb d_V_has_54 (by decide) ?_
    refine lv_icmp_ne (tgt := 76) hx hb d_V_has_55 (by decide) (fun c_8 => ?_) (fun c_8 => ?_)
    · rw [if_neg c_8] at h
      exact w_V_has_76 C0 hr   _ _ _ _ h hH (lv_sub hl [] rfl)
    · rw [if_pos c_8] at h
      refine lv_aload_n hx hb d_V_has_58 rfl (lv_at hl 0 rfl) ?_
      refine lv_aload_n hx hb d_V_has_59 rfl (lv_at hl 0 rfl) ?_
      refine lv_iload_n hx hb d_V_has_60 rfl (lv_at hl 2 rfl) ?_
      obtain ⟨r_11, v_9, hc_10, h⟩ := bi_out h
      refine bn_ci (r := r_11) (w := (q, g, v_9)) (as := [.int x2]) (rest := [.ref (q 1)]) C0 hH (ci := 4) ⟨by decide, by decide⟩ (by decide) rfl (c_V_floorOf hl0 hc_10) yy_V_floorOf q_765 (by decide) rfl hl.1 rfl (Nat.le_of_ble_eq_true rfl) ⟨Nat.zero_le _, Nat.zero_le _⟩ d_V_has_61 (fun H locs hH => ?_)
      refine lv_aload_n hx hb d_V_has_64 rfl (lv_at hl 0 rfl) ?_
      refine lv_iload_n hx hb d_V_has_65 rfl (lv_at hl 1 rfl) ?_
      obtain ⟨r_14, v_12, hc_13, h⟩ := bi_out h
      refine bn_ci (r := r_14) (w := (q, g, v_12)) (as := [.int x1]) (rest := [.int r_11, .ref (q 1)]) C0 hH (ci := 4) ⟨by decide, by decide⟩ (by decide) rfl (c_V_lengthOf hl0 hc_13) yy_V_lengthOf q_383 (by decide) rfl hl.1 rfl (Nat.le_of_ble_eq_true rfl) ⟨Nat.zero_le _, Nat.zero_le _⟩ d_V_has_66 (fun H locs hH => ?_)
      obtain ⟨r_17, v_15, hc_16, h⟩ := bi_out h
      refine bn_ti (r := r_17) (w := (q, g, v_15)) (as := [.int r_11, .int r_14]) (rest := [.ref (q 1)]) C0 hH (c_B_isBelow hl0 hc_16) yy_B_isBelow (C0.2.2.2.2.2.2.2.2.1.2.2.2.2.2.2.1 _ (List.mem_of_getElem? (i := 7) rfl)) (by decide) rfl hl.1 rfl (Nat.le_of_ble_eq_true rfl) ⟨Nat.zero_le _, Nat.zero_le _⟩ d_V_has_69 (fun H locs hH => ?_)
      obtain ⟨r_20, v_18, hc_19, h⟩ := bi_out h
      refine bn_ci (r := r_20) (w := (q, g, v_18)) (as := [.int r_17]) (rest := []) C0 hH (ci := 4) ⟨by decide, by decide⟩ (by decide) rfl (c_V_truth hl0 hc_19) yy_V_truth q_810 (by decide) rfl hl.1 rfl (Nat.le_of_ble_eq_true rfl) ⟨Nat.zero_le _, Nat.zero_le _⟩ d_V_has_72 (fun H locs hH => ?_)
      exact bn_iret C0 hr hH d_V_has_75 (pq h)
def f_V_has (g : Nat → Nat) (v : mS) (x1 : Int32) (x2 : Int32) : Option (Int32 × mS) := bi (f_V_kindOf g v x1) fun r_3 v_1 => if r_3 = 6 then (bi (f_V_kindOf g v_1 x2) fun r_7 v_5 => if r_7 = 4 then (bi (f_V_memberOf g v_5 x1 x2 (-1)) fun r_11 v_9 => if r_11 = (-1) then (f_V_has_36 g 0 v_9) else (f_V_has_36 g 1 v_9)) else (f_V_has_40 g x1 x2 v_5)) else (f_V_has_40 g x1 x2 v_1)
set_option maxHeartbeats 4000000 in
set_option maxRecDepth 100000 in
theorem c_V_has {l : Launch} {Z : bZ} {q g : Nat → Nat} (hl0 : l.stackTraces = false) {v : mS}  {x1 : Int32} {x2 : Int32} {o : Int32 × mS} (h : f_V_has g v x1 x2 = some o) : bn_M l Z 3 y_V_has b_V_has 3 (some .int) [.ref (q 1), .int x1, .int x2] (q, g, v) (bn_Qi Z o.1 (q, g, o.2)) := by
  refine bn_of hl0 (by decide +kernel) (Nat.le_of_ble_eq_true rfl) ?_
  intro p e s m below meth c A ls C0 hr hl hH
  have hx := C0.1
  have hb := C0.2.1
  have C0 : bn_C "FilterBench$Values" b_V_has 3 Z A p l s m _ meth c := C0
  have hl : lv_has ls 3 [(0, .ref (q 1)), (1, .int x1), (2, .int x2)] := hl
  unfold f_V_has at h
  refine lv_aload_n hx hb d_V_has_0 rfl (lv_at hl 0 rfl) ?_
  refine lv_iload_n hx hb d_V_has_1 rfl (lv_at hl 1 rfl) ?_
  obtain ⟨r_3, v_1, hc_2, h⟩ := bi_out h
  refine bn_ci (r := r_3) (w := (q, g, v_1)) (as := [.int x1]) (rest := []) C0 hH (ci := 4) ⟨by decide, by decide⟩ (by decide) rfl (c_V_kindOf hl0 hc_2) yy_V_kindOf q_519 (by decide) rfl hl.1 rfl (Nat.le_of_ble_eq_true rfl) ⟨Nat.zero_le _, Nat.zero_le _⟩ d_V_has_2 (fun H locs hH => ?_)
  refine lv_bipush (v := 6) hx hb d_V_has_5 (by decide) ?_
  refine lv_icmp_ne (tgt := 40) hx hb d_V_has_7 (by decide) (fun c_4 => ?_) (fun c_4 => ?_)
  · rw [if_neg c_4] at h
    exact w_V_has_40 C0 hr  _ _ _ _ _ _ h hH (lv_sub hl [0, 1, 2] rfl)
  · rw [if_pos c_4] at h
    refine lv_aload_n hx hb d_V_has_10 rfl (lv_at hl 0 rfl) ?_
    refine lv_iload_n hx hb d_V_has_11 rfl (lv_at hl 2 rfl) ?_
    obtain ⟨r_7, v_5, hc_6, h⟩ := bi_out h
    refine bn_ci (r := r_7) (w := (q, g, v_5)) (as := [.int x2]) (rest := []) C0 hH (ci := 4) ⟨by decide, by decide⟩ (by decide) rfl (c_V_kindOf hl0 hc_6) yy_V_kindOf q_519 (by decide) rfl hl.1 rfl (Nat.le_of_ble_eq_true rfl) ⟨Nat.zero_le _, Nat.zero_le _⟩ d_V_has_12 (fun H locs hH => ?_)
    refine lv_iconst (v := 4) hx hb d_V_has_15 (by decide) ?_
    refine lv_icmp_ne (tgt := 40) hx hb d_V_has_16 (by decide) (fun c_8 => ?_) (fun c_8 => ?_)
    · rw [if_neg c_8] at h
      exact w_V_has_40 C0 hr  _ _ _ _ _ _ h hH (lv_sub hl [0, 1, 2] rfl)
    · rw [if_pos c_8] at h
      refine lv_aload_n hx hb d_V_has_19 rfl (lv_at hl 0 rfl) ?_
      refine lv_aload_n hx hb d_V_has_20 rfl (lv_at hl 0 rfl) ?_
      refine lv_iload_n hx hb d_V_has_21 rfl (lv_at hl 1 rfl) ?_
      refine lv_iload_n hx hb d_V_has_22 rfl (lv_at hl 2 rfl) ?_
      refine lv_iconst (v := (-1)) hx hb d_V_has_23 (by decide) ?_
      obtain ⟨r_11, v_9, hc_10, h⟩ := bi_out h
      refine bn_ci (r := r_11) (w := (q, g, v_9)) (as := [.int x1, .int x2, .int (-1)]) (rest := [.ref (q 1)]) C0 hH (ci := 4) ⟨by decide, by decide⟩ (by decide) rfl (c_V_memberOf hl0 hc_10) yy_V_memberOf q_523 (by decide) rfl hl.1 rfl (Nat.le_of_ble_eq_true rfl) ⟨Nat.zero_le _, Nat.zero_le _⟩ d_V_has_24 (fun H locs hH => ?_)
      refine lv_iconst (v := (-1)) hx hb d_V_has_27 (by decide) ?_
      refine lv_icmp_eq (tgt := 35) hx hb d_V_has_28 (by decide) (fun c_12 => ?_) (fun c_12 => ?_)
      · rw [if_pos c_12] at h
        refine lv_iconst (v := 0) hx hb d_V_has_35 (by decide) ?_
        exact w_V_has_36 C0 hr  _ _ _ _ _ h hH (lv_sub hl [] rfl)
      · rw [if_neg c_12] at h
        refine lv_iconst (v := 1) hx hb d_V_has_31 (by decide) ?_
        refine lv_goto (tgt := 36) hx hb d_V_has_32 (by decide) ?_
        exact w_V_has_36 C0 hr  _ _ _ _ _ h hH (lv_sub hl [] rfl)
def f_N_steps (g : Nat → Nat) (v : mS)  : Option (Int32 × mS) := some (v 25 5, v)
set_option maxHeartbeats 4000000 in
set_option maxRecDepth 100000 in
theorem c_N_steps {l : Launch} {Z : bZ} {q g : Nat → Nat} (hl0 : l.stackTraces = false) {v : mS}   {o : Int32 × mS} (h : f_N_steps g v  = some o) : bn_M l Z 0 y_N_steps b_N_steps 1 (some .int) [.ref (q 25)] (q, g, v) (bn_Qi Z o.1 (q, g, o.2)) := by
  refine bn_of hl0 (by decide +kernel) (Nat.le_of_ble_eq_true rfl) ?_
  intro p e s m below meth c A ls C0 hr hl hH
  have hx := C0.1
  have hb := C0.2.1
  have C0 : bn_C "FilterBench$Runner" b_N_steps 1 Z A p l s m _ meth c := C0
  have hl : lv_has ls 1 [(0, .ref (q 25))] := hl
  unfold f_N_steps at h
  refine lv_aload_n hx hb d_N_steps_0 rfl (lv_at hl 0 rfl) ?_
  refine bn_g_N_steps ⟨by decide, by decide⟩ C0 hH d_N_steps_1 ?_
  exact bn_iret C0 hr hH d_N_steps_4 (pq h)
def f_N_holds_45 (g : Nat → Nat)  (y0 : Int32) (v : mS) : Option (Int32 × mS) := gd (decide (y0 = 0 ∨ y0 = 1)) (some (y0, v))
set_option maxHeartbeats 4000000 in
set_option maxRecDepth 100000 in
theorem w_N_holds_45 {p : Program} {l : Launch} {e : Env} {s : State} {m : MethodId} {args : Array Value} {below : List Frame} {meth : Method} {c : Code} {Z : bZ} {A : Nat → Prop} {q g : Nat → Nat} {o : Int32 × mS}  (C0 : bn_C "FilterBench$Runner" b_N_holds 2 Z A p l s m args meth c) (hr : meth.sig.returnType = (some .boolean)) : ∀ (y0 : Int32) (v : mS) (H : Heap) (locs : List Loc) (ls : Array Slot), f_N_holds_45 g  y0 v = some o → bn_H Z A s (q, g, v) H locs → lv_has ls 2 [] → W p l e (mo_rm 0) s m args below meth c H locs 0 0 (MQ below (bn_Qi Z o.1 (q, g, o.2) A) args s 0 0 A) (F0 m 45 ls [.int y0]) := by
  have hx := C0.1
  have hb := C0.2.1
  have hl0 := C0.2.2.2.2.2.2.2.2.2
  intro y0 v H locs ls h hH hl
  unfold f_N_holds_45 at h
  obtain ⟨g_1, h⟩ := gd_out h
  exact bn_zret (z01 g_1) C0 hr hH d_N_holds_45 (pq h)
def f_N_holds_55 (g : Nat → Nat)  (y0 : Int32) (v : mS) : Option (Int32 × mS) := gd (decide (y0 = 0 ∨ y0 = 1)) (some (y0, v))
set_option maxHeartbeats 4000000 in
set_option maxRecDepth 100000 in
theorem w_N_holds_55 {p : Program} {l : Launch} {e : Env} {s : State} {m : MethodId} {args : Array Value} {below : List Frame} {meth : Method} {c : Code} {Z : bZ} {A : Nat → Prop} {q g : Nat → Nat} {o : Int32 × mS}  (C0 : bn_C "FilterBench$Runner" b_N_holds 2 Z A p l s m args meth c) (hr : meth.sig.returnType = (some .boolean)) : ∀ (y0 : Int32) (v : mS) (H : Heap) (locs : List Loc) (ls : Array Slot), f_N_holds_55 g  y0 v = some o → bn_H Z A s (q, g, v) H locs → lv_has ls 2 [] → W p l e (mo_rm 0) s m args below meth c H locs 0 0 (MQ below (bn_Qi Z o.1 (q, g, o.2) A) args s 0 0 A) (F0 m 55 ls [.int y0]) := by
  have hx := C0.1
  have hb := C0.2.1
  have hl0 := C0.2.2.2.2.2.2.2.2.2
  intro y0 v H locs ls h hH hl
  unfold f_N_holds_55 at h
  obtain ⟨g_1, h⟩ := gd_out h
  exact bn_zret (z01 g_1) C0 hr hH d_N_holds_55 (pq h)
def f_N_holds_65 (g : Nat → Nat)  (y0 : Int32) (v : mS) : Option (Int32 × mS) := gd (decide (y0 = 0 ∨ y0 = 1)) (some (y0, v))
set_option maxHeartbeats 4000000 in
set_option maxRecDepth 100000 in
theorem w_N_holds_65 {p : Program} {l : Launch} {e : Env} {s : State} {m : MethodId} {args : Array Value} {below : List Frame} {meth : Method} {c : Code} {Z : bZ} {A : Nat → Prop} {q g : Nat → Nat} {o : Int32 × mS}  (C0 : bn_C "FilterBench$Runner" b_N_holds 2 Z A p l s m args meth c) (hr : meth.sig.returnType = (some .boolean)) : ∀ (y0 : Int32) (v : mS) (H : Heap) (locs : List Loc) (ls : Array Slot), f_N_holds_65 g  y0 v = some o → bn_H Z A s (q, g, v) H locs → lv_has ls 2 [] → W p l e (mo_rm 0) s m args below meth c H locs 0 0 (MQ below (bn_Qi Z o.1 (q, g, o.2) A) args s 0 0 A) (F0 m 65 ls [.int y0]) := by
  have hx := C0.1
  have hb := C0.2.1
  have hl0 := C0.2.2.2.2.2.2.2.2.2
  intro y0 v H locs ls h hH hl
  unfold f_N_holds_65 at h
  obtain ⟨g_1, h⟩ := gd_out h
  exact bn_zret (z01 g_1) C0 hr hH d_N_holds_65 (pq h)
def f_N_holds_75 (g : Nat → Nat)  (y0 : Int32) (v : mS) : Option (Int32 × mS) := gd (decide (y0 = 0 ∨ y0 = 1)) (some (y0, v))
set_option maxHeartbeats 4000000 in
set_option maxRecDepth 100000 in
theorem w_N_holds_75 {p : Program} {l : Launch} {e : Env} {s : State} {m : MethodId} {args : Array Value} {below : List Frame} {meth : Method} {c : Code} {Z : bZ} {A : Nat → Prop} {q g : Nat → Nat} {o : Int32 × mS}  (C0 : bn_C "FilterBench$Runner" b_N_holds 2 Z A p l s m args meth c) (hr : meth.sig.returnType = (some .boolean)) : ∀ (y0 : Int32) (v : mS) (H : Heap) (locs : List Loc) (ls : Array Slot), f_N_holds_75 g  y0 v = some o → bn_H Z A s (q, g, v) H locs → lv_has ls 2 [] → W p l e (mo_rm 0) s m args below meth c H locs 0 0 (MQ below (bn_Qi Z o.1 (q, g, o.2) A) args s 0 0 A) (F0 m 75 ls [.int y0]) := by
  have hx := C0.1
  have hb := C0.2.1
  have hl0 := C0.2.2.2.2.2.2.2.2.2
  intro y0 v H locs ls h hH hl
  unfold f_N_holds_75 at h
  obtain ⟨g_1, h⟩ := gd_out h
  exact bn_zret (z01 g_1) C0 hr hH d_N_holds_75 (pq h)
def f_N_holds_85 (g : Nat → Nat)  (y0 : Int32) (v : mS) : Option (Int32 × mS) := gd (decide (y0 = 0 ∨ y0 = 1)) (some (y0, v))
set_option maxHeartbeats 4000000 in
set_option maxRecDepth 100000 in
theorem w_N_holds_85 {p : Program} {l : Launch} {e : Env} {s : State} {m : MethodId} {args : Array Value} {below : List Frame} {meth : Method} {c : Code} {Z : bZ} {A : Nat → Prop} {q g : Nat → Nat} {o : Int32 × mS}  (C0 : bn_C "FilterBench$Runner" b_N_holds 2 Z A p l s m args meth c) (hr : meth.sig.returnType = (some .boolean)) : ∀ (y0 : Int32) (v : mS) (H : Heap) (locs : List Loc) (ls : Array Slot), f_N_holds_85 g  y0 v = some o → bn_H Z A s (q, g, v) H locs → lv_has ls 2 [] → W p l e (mo_rm 0) s m args below meth c H locs 0 0 (MQ below (bn_Qi Z o.1 (q, g, o.2) A) args s 0 0 A) (F0 m 85 ls [.int y0]) := by
  have hx := C0.1
  have hb := C0.2.1
  have hl0 := C0.2.2.2.2.2.2.2.2.2
  intro y0 v H locs ls h hH hl
  unfold f_N_holds_85 at h
  obtain ⟨g_1, h⟩ := gd_out h
  exact bn_zret (z01 g_1) C0 hr hH d_N_holds_85 (pq h)
def f_N_holds_95 (g : Nat → Nat)  (y0 : Int32) (v : mS) : Option (Int32 × mS) := gd (decide (y0 = 0 ∨ y0 = 1)) (some (y0, v))
set_option maxHeartbeats 4000000 in
set_option maxRecDepth 100000 in
theorem w_N_holds_95 {p : Program} {l : Launch} {e : Env} {s : State} {m : MethodId} {args : Array Value} {below : List Frame} {meth : Method} {c : Code} {Z : bZ} {A : Nat → Prop} {q g : Nat → Nat} {o : Int32 × mS}  (C0 : bn_C "FilterBench$Runner" b_N_holds 2 Z A p l s m args meth c) (hr : meth.sig.returnType = (some .boolean)) : ∀ (y0 : Int32) (v : mS) (H : Heap) (locs : List Loc) (ls : Array Slot), f_N_holds_95 g  y0 v = some o → bn_H Z A s (q, g, v) H locs → lv_has ls 2 [] → W p l e (mo_rm 0) s m args below meth c H locs 0 0 (MQ below (bn_Qi Z o.1 (q, g, o.2) A) args s 0 0 A) (F0 m 95 ls [.int y0]) := by
  have hx := C0.1
  have hb := C0.2.1
  have hl0 := C0.2.2.2.2.2.2.2.2.2
  intro y0 v H locs ls h hH hl
  unfold f_N_holds_95 at h
  obtain ⟨g_1, h⟩ := gd_out h
  exact bn_zret (z01 g_1) C0 hr hH d_N_holds_95 (pq h)
def f_N_holds (g : Nat → Nat) (v : mS) (x0 : Int32) (x1 : Int32) : Option (Int32 × mS) := if x0 = 0 then (if x1 = 0 then (f_N_holds_45 g 1 v) else (f_N_holds_45 g 0 v)) else if x0 = 1 then (if x1 = 0 then (f_N_holds_55 g 0 v) else (f_N_holds_55 g 1 v)) else if x0 = 2 then (if 0 ≤ x1 then (f_N_holds_65 g 0 v) else (f_N_holds_65 g 1 v)) else if x0 = 3 then (if 0 < x1 then (f_N_holds_75 g 0 v) else (f_N_holds_75 g 1 v)) else if x0 = 4 then (if x1 ≤ 0 then (f_N_holds_85 g 0 v) else (f_N_holds_85 g 1 v)) else if x1 < 0 then (f_N_holds_95 g 0 v) else (f_N_holds_95 g 1 v)
set_option maxHeartbeats 4000000 in
set_option maxRecDepth 100000 in
theorem c_N_holds {l : Launch} {Z : bZ} {q g : Nat → Nat} (hl0 : l.stackTraces = false) {v : mS}  {x0 : Int32} {x1 : Int32} {o : Int32 × mS} (h : f_N_holds g v x0 x1 = some o) : bn_M l Z 0 y_N_holds b_N_holds 2 (some .boolean) [.int x0, .int x1] (q, g, v) (bn_Qi Z o.1 (q, g, o.2)) := by
  refine bn_of hl0 (by decide +kernel) (Nat.le_of_ble_eq_true rfl) ?_
  intro p e s m below meth c A ls C0 hr hl hH
  have hx := C0.1
  have hb := C0.2.1
  have C0 : bn_C "FilterBench$Runner" b_N_holds 2 Z A p l s m _ meth c := C0
  have hl : lv_has ls 2 [(0, .int x0), (1, .int x1)] := hl
  unfold f_N_holds at h
  refine lv_iload_n hx hb d_N_holds_0 rfl (lv_at hl 0 rfl) ?_
  by_cases e_3 : x0 = 0
  · rw [if_pos e_3] at h
    refine fu_hit (tgt := 36) 0 e_3 hx hb d_N_holds_1 (by decide) (by decide) rfl (by decide) ?_
    refine lv_iload_n hx hb d_N_holds_36 rfl (lv_at hl 1 rfl) ?_
    refine lv_if_ne (tgt := 44) hx hb d_N_holds_37 (by decide) (fun c_2 => ?_) (fun c_2 => ?_)
    · rw [if_neg c_2] at h
      refine lv_iconst (v := 0) hx hb d_N_holds_44 (by decide) ?_
      exact w_N_holds_45 C0 hr  _ _ _ _ _ h hH (lv_sub hl [] rfl)
    · rw [if_pos c_2] at h
      refine lv_iconst (v := 1) hx hb d_N_holds_40 (by decide) ?_
      refine lv_goto (tgt := 45) hx hb d_N_holds_41 (by decide) ?_
      exact w_N_holds_45 C0 hr  _ _ _ _ _ h hH (lv_sub hl [] rfl)
  rw [if_neg e_3] at h
  by_cases e_5 : x0 = 1
  · rw [if_pos e_5] at h
    refine fu_hit (tgt := 46) 1 e_5 hx hb d_N_holds_1 (by decide) (by decide) rfl (by decide) ?_
    refine lv_iload_n hx hb d_N_holds_46 rfl (lv_at hl 1 rfl) ?_
    refine lv_if_eq (tgt := 54) hx hb d_N_holds_47 (by decide) (fun c_4 => ?_) (fun c_4 => ?_)
    · rw [if_pos c_4] at h
      refine lv_iconst (v := 0) hx hb d_N_holds_54 (by decide) ?_
      exact w_N_holds_55 C0 hr  _ _ _ _ _ h hH (lv_sub hl [] rfl)
    · rw [if_neg c_4] at h
      refine lv_iconst (v := 1) hx hb d_N_holds_50 (by decide) ?_
      refine lv_goto (tgt := 55) hx hb d_N_holds_51 (by decide) ?_
      exact w_N_holds_55 C0 hr  _ _ _ _ _ h hH (lv_sub hl [] rfl)
  rw [if_neg e_5] at h
  by_cases e_7 : x0 = 2
  · rw [if_pos e_7] at h
    refine fu_hit (tgt := 56) 2 e_7 hx hb d_N_holds_1 (by decide) (by decide) rfl (by decide) ?_
    refine lv_iload_n hx hb d_N_holds_56 rfl (lv_at hl 1 rfl) ?_
    refine lv_if_ge (tgt := 64) hx hb d_N_holds_57 (by decide) (fun c_6 => ?_) (fun c_6 => ?_)
    · rw [if_pos c_6] at h
      refine lv_iconst (v := 0) hx hb d_N_holds_64 (by decide) ?_
      exact w_N_holds_65 C0 hr  _ _ _ _ _ h hH (lv_sub hl [] rfl)
    · rw [if_neg c_6] at h
      refine lv_iconst (v := 1) hx hb d_N_holds_60 (by decide) ?_
      refine lv_goto (tgt := 65) hx hb d_N_holds_61 (by decide) ?_
      exact w_N_holds_65 C0 hr  _ _ _ _ _ h hH (lv_sub hl [] rfl)
  rw [if_neg e_7] at h
  by_cases e_9 : x0 = 3
  · rw [if_pos e_9] at h
    refine fu_hit (tgt := 66) 3 e_9 hx hb d_N_holds_1 (by decide) (by decide) rfl (by decide) ?_
    refine lv_iload_n hx hb d_N_holds_66 rfl (lv_at hl 1 rfl) ?_
    refine lv_if_gt (tgt := 74) hx hb d_N_holds_67 (by decide) (fun c_8 => ?_) (fun c_8 => ?_)
    · rw [if_pos c_8] at h
      refine lv_iconst (v := 0) hx hb d_N_holds_74 (by decide) ?_
      exact w_N_holds_75 C0 hr  _ _ _ _ _ h hH (lv_sub hl [] rfl)
    · rw [if_neg c_8] at h
      refine lv_iconst (v := 1) hx hb d_N_holds_70 (by decide) ?_
      refine lv_goto (tgt := 75) hx hb d_N_holds_71 (by decide) ?_
      exact w_N_holds_75 C0 hr  _ _ _ _ _ h hH (lv_sub hl [] rfl)
  rw [if_neg e_9] at h
  by_cases e_11 : x0 = 4
  · rw [if_pos e_11] at h
    refine fu_hit (tgt := 76) 4 e_11 hx hb d_N_holds_1 (by decide) (by decide) rfl (by decide) ?_
    refine lv_iload_n hx hb d_N_holds_76 rfl (lv_at hl 1 rfl) ?_
    refine lv_if_le (tgt := 84) hx hb d_N_holds_77 (by decide) (fun c_10 => ?_) (fun c_10 => ?_)
    · rw [if_pos c_10] at h
      refine lv_iconst (v := 0) hx hb d_N_holds_84 (by decide) ?_
      exact w_N_holds_85 C0 hr  _ _ _ _ _ h hH (lv_sub hl [] rfl)
    · rw [if_neg c_10] at h
      refine lv_iconst (v := 1) hx hb d_N_holds_80 (by decide) ?_
      refine lv_goto (tgt := 85) hx hb d_N_holds_81 (by decide) ?_
      exact w_N_holds_85 C0 hr  _ _ _ _ _ h hH (lv_sub hl [] rfl)
  rw [if_neg e_11] at h
  refine lv_tableOut (tgt := 86) hx hb d_N_holds_1 (fu_out 5 (by decide) (fun k9 hk9 => match k9, hk9 with | 0, _ => lv_neT e_3 (by decide) | 1, _ => lv_neT e_5 (by decide) | 2, _ => lv_neT e_7 (by decide) | 3, _ => lv_neT e_9 (by decide) | 4, _ => lv_neT e_11 (by decide) | k9 + 5, hk9 => absurd hk9 (by omega))) (by decide) ?_
  refine lv_iload_n hx hb d_N_holds_86 rfl (lv_at hl 1 rfl) ?_
  refine lv_if_lt (tgt := 94) hx hb d_N_holds_87 (by decide) (fun c_1 => ?_) (fun c_1 => ?_)
  · rw [if_pos c_1] at h
    refine lv_iconst (v := 0) hx hb d_N_holds_94 (by decide) ?_
    exact w_N_holds_95 C0 hr  _ _ _ _ _ h hH (lv_sub hl [] rfl)
  · rw [if_neg c_1] at h
    refine lv_iconst (v := 1) hx hb d_N_holds_90 (by decide) ?_
    refine lv_goto (tgt := 95) hx hb d_N_holds_91 (by decide) ?_
    exact w_N_holds_95 C0 hr  _ _ _ _ _ h hH (lv_sub hl [] rfl)
