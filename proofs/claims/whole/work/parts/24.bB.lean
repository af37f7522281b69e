/-! methods of the class that neither throw nor make (by program: wip/gen/allb.py): isGood found partAt nameOfPart cellsFor setHead truth wordFor small compare comparedTexts millionthsOf compare comparedParts -/
def f_V_isGood_14 (g : Nat → Nat)  (y0 : Int32) (v : mS) : Option (Int32 × mS) := gd (decide (y0 = 0 ∨ y0 = 1)) (some (y0, v))
set_option maxHeartbeats 4000000 in
set_option maxRecDepth 100000 in
theorem w_V_isGood_14 {p : Program} {l : Launch} {e : Env} {s : State} {m : MethodId} {args : Array Value} {below : List Frame} {meth : Method} {c : Code} {Z : bZ} {A : Nat → Prop} {q g : Nat → Nat} {o : Int32 × mS}  (C0 : bn_C "FilterBench$Values" b_V_isGood 2 Z A p l s m args meth c) (hr : meth.sig.returnType = (some .boolean)) : ∀ (y0 : Int32) (v : mS) (H : Heap) (locs : List Loc) (ls : Array Slot), f_V_isGood_14 g  y0 v = some o → bn_H Z A s (q, g, v) H locs → lv_has ls 2 [] → W p l e (mo_rm 1) s m args below meth c H locs 0 0 (MQ below (bn_Qi Z o.1 (q, g, o.2) A) args s 0 0 A) (F0 m 14 ls [.int y0]) := by
  have hx := C0.1
  have hb := C0.2.1
  have hl0 := C0.2.2.2.2.2.2.2.2.2
  intro y0 v H locs ls h hH hl
  unfold f_V_isGood_14 at h
  obtain ⟨g_1, h⟩ := gd_out h
  exact bn_zret (z01 g_1) C0 hr hH d_V_isGood_14 (pq h)
def f_V_isGood (g : Nat → Nat) (v : mS) (x1 : Int32) : Option (Int32 × mS) := bi (f_V_kindOf g v x1) fun r_3 v_1 => if r_3 < 2 then (f_V_isGood_14 g 0 v_1) else (f_V_isGood_14 g 1 v_1)
set_option maxHeartbeats 4000000 in
set_option maxRecDepth 100000 in
theorem c_V_isGood {l : Launch} {Z : bZ} {q g : Nat → Nat} (hl0 : l.stackTraces = false) {v : mS}  {x1 : Int32} {o : Int32 × mS} (h : f_V_isGood g v x1 = some o) : bn_M l Z 1 y_V_isGood b_V_isGood 2 (some .boolean) [.ref (q 1), .int x1] (q, g, v) (bn_Qi Z o.1 (q, g, o.2)) := by
  refine bn_of hl0 (by decide +kernel) (Nat.le_of_ble_eq_true rfl) ?_
  intro p e s m below meth c A ls C0 hr hl hH
  have hx := C0.1
  have hb := C0.2.1
  have C0 : bn_C "FilterBench$Values" b_V_isGood 2 Z A p l s m _ meth c := C0
  have hl : lv_has ls 2 [(0, .ref (q 1)), (1, .int x1)] := hl
  unfold f_V_isGood at h
  refine lv_aload_n hx hb d_V_isGood_0 rfl (lv_at hl 0 rfl) ?_
  refine lv_iload_n hx hb d_V_isGood_1 rfl (lv_at hl 1 rfl) ?_
  obtain ⟨r_3, v_1, hc_2, h⟩ := bi_out h
  refine bn_ci (r := r_3) (w := (q, g, v_1)) (as := [.int x1]) (rest := []) C0 hH (ci := 4) ⟨by decide, by decide⟩ (by decide) rfl (c_V_kindOf hl0 hc_2) yy_V_kindOf q_519 (by decide) rfl hl.1 rfl (Nat.le_of_ble_eq_true rfl) ⟨Nat.zero_le _, Nat.zero_le _⟩ d_V_isGood_2 (fun H locs hH => ?_)
  refine lv_iconst (v := 2) hx hb d_V_isGood_5 (by decide) ?_
  refine lv_icmp_lt (tgt := 13) hx hb d_V_isGood_6 (by decide) (fun c_4 => ?_) (fun c_4 => ?_)
  · rw [if_pos c_4] at h
    refine lv_iconst (v := 0) hx hb d_V_isGood_13 (by decide) ?_
    exact w_V_isGood_14 C0 hr  _ _ _ _ _ h hH (lv_sub hl [] rfl)
  · rw [if_neg c_4] at h
    refine lv_iconst (v := 1) hx hb d_V_isGood_9 (by decide) ?_
    refine lv_goto (tgt := 14) hx hb d_V_isGood_10 (by decide) ?_
    exact w_V_isGood_14 C0 hr  _ _ _ _ _ h hH (lv_sub hl [] rfl)
def f_V_found_105 (g : Nat → Nat) (K12 : Int32 → Int32 → Int32 → Int32 → Int32 → mS → Option (Int32 × mS)) (x3 : Int32) (x4 : Int32) (x6 : Int32) (x7 : Int32) (x8 : Int32) (y0 : Int32) (v : mS) : Option (Int32 × mS) := bi (f_V_itemAt g v x4 x8) fun r_3 v_1 => nm (x7 + 1) fun x7_4 => K12 x3 r_3 y0 x6 x7_4 v_1
set_option maxHeartbeats 4000000 in
set_option maxRecDepth 100000 in
theorem w_V_found_105 {p : Program} {l : Launch} {e : Env} {s : State} {m : MethodId} {args : Array Value} {below : List Frame} {meth : Method} {c : Code} {Z : bZ} {A : Nat → Prop} {q g : Nat → Nat} {o : Int32 × mS}  (C0 : bn_C "FilterBench$Values" b_V_found 9 Z A p l s m args meth c) (hr : meth.sig.returnType = (some .int)) {K12 : Int32 → Int32 → Int32 → Int32 → Int32 → mS → Option (Int32 × mS)} (hK12 : ∀ (x3 : Int32) (x4 : Int32) (x5 : Int32) (x6 : Int32) (x7 : Int32) (v : mS) (H : Heap) (locs : List Loc) (ls : Array Slot), K12 x3 x4 x5 x6 x7 v = some o → bn_H Z A s (q, g, v) H locs → lv_has ls 9 [(0, .ref (q 1)), (3, .int x3), (4, .int x4), (5, .int x5), (6, .int x6), (7, .int x7)] → W p l e (mo_rm 1) s m args below meth c H locs 0 0 (MQ below (bn_Qi Z o.1 (q, g, o.2) A) args s 0 0 A) (F0 m 12 ls [])) : ∀ (x3 : Int32) (x4 : Int32) (x6 : Int32) (x7 : Int32) (x8 : Int32) (y0 : Int32) (v : mS) (H : Heap) (locs : List Loc) (ls : Array Slot), f_V_found_105 g K12 x3 x4 x6 x7 x8 y0 v = some o → bn_H Z A s (q, g, v) H locs → lv_has ls 9 [(0, .ref (q 1)), (3, .int x3), (4, .int x4), (6, .int x6), (7, .int x7), (8, .int x8)] → W p l e (mo_rm 1) s m args below meth c H locs 0 0 (MQ below (bn_Qi Z o.1 (q, g, o.2) A) args s 0 0 A) (F0 m 105 ls [.int y0]) := by
  have hx := C0.1
  have hb := C0.2.1
  have hl0 := C0.2.2.2.2.2.2.2.2.2
  intro x3 x4 x6 x7 x8 y0 v H locs ls h hH hl
  unfold f_V_found_105 at h
  refine lv_istore (lv' := [(5, .int y0), (0, .ref (q 1)), (3, .int x3), (4, .int x4), (6, .int x6), (7, .int x7), (8, .int x8)]) hx hb d_V_found_105 hl (by decide) rfl (fun ls hl => ?_)
  refine lv_aload_n hx hb d_V_found_107 rfl (lv_at hl 1 rfl) ?_
  refine lv_iload hx hb d_V_found_108 (lv_at hl 3 rfl) ?_
  refine lv_iload hx hb d_V_found_110 (lv_at hl 6 rfl) ?_
  obtain ⟨r_3, v_1, hc_2, h⟩ := bi_out h
  refine bn_ci (r := r_3) (w := (q, g, v_1)) (as := [.int x4, .int x8]) (rest := []) C0 hH (ci := 4) ⟨by decide, by decide⟩ (by decide) rfl (c_V_itemAt hl0 hc_2) yy_V_itemAt q_543 (by decide) rfl hl.1 rfl (Nat.le_of_ble_eq_true rfl) ⟨Nat.zero_le _, Nat.zero_le _⟩ d_V_found_112 (fun H locs hH => ?_)
  refine lv_istore (lv' := [(4, .int r_3), (5, .int y0), (0, .ref (q 1)), (3, .int x3), (6, .int x6), (7, .int x7), (8, .int x8)]) hx hb d_V_found_115 hl (by decide) rfl (fun ls hl => ?_)
  obtain ⟨x7_4, hx7_4, h⟩ := nm_out h
  refine lv_iinc (v := x7_4) (lv' := [(7, .int x7_4), (4, .int r_3), (5, .int y0), (0, .ref (q 1)), (3, .int x3), (6, .int x6), (8, .int x8)]) hx hb d_V_found_117 hl (k := 5) rfl (by rw [hx7_4]; rfl) (by decide) rfl (fun ls hl => ?_)
  refine lv_goto (tgt := 12) hx hb d_V_found_120 (by decide) ?_
  exact hK12 _ _ _ _ _ _ _ _ _ h hH (lv_sub hl [3, 4, 1, 2, 5, 0] rfl)
def f_V_found_82 (g : Nat → Nat) (K12 : Int32 → Int32 → Int32 → Int32 → Int32 → mS → Option (Int32 × mS)) (x3 : Int32) (x4 : Int32) (x6 : Int32) (x7 : Int32) (x8 : Int32) (v : mS) : Option (Int32 × mS) := bi (f_V_kindOf g v x4) fun r_3 v_1 => if r_3 = 6 then (bi (f_V_nameAt g v_1 x4 x8) fun r_7 v_5 => f_V_found_105 g K12 x3 x4 x6 x7 x8 r_7 v_5) else (f_V_found_105 g K12 x3 x4 x6 x7 x8 0 v_1)
set_option maxHeartbeats 4000000 in
set_option maxRecDepth 100000 in
theorem w_V_found_82 {p : Program} {l : Launch} {e : Env} {s : State} {m : MethodId} {args : Array Value} {below : List Frame} {meth : Method} {c : Code} {Z : bZ} {A : Nat → Prop} {q g : Nat → Nat} {o : Int32 × mS}  (C0 : bn_C "FilterBench$Values" b_V_found 9 Z A p l s m args meth c) (hr : meth.sig.returnType = (some .int)) {K12 : Int32 → Int32 → Int32 → Int32 → Int32 → mS → Option (Int32 × mS)} (hK12 : ∀ (x3 : Int32) (x4 : Int32) (x5 : Int32) (x6 : Int32) (x7 : Int32) (v : mS) (H : Heap) (locs : List Loc) (ls : Array Slot), K12 x3 x4 x5 x6 x7 v = some o → bn_H Z A s (q, g, v) H locs → lv_has ls 9 [(0, .ref (q 1)), (3, .int x3), (4, .int x4), (5, .int x5), (6, .int x6), (7, .int x7)] → W p l e (mo_rm 1) s m args below meth c H locs 0 0 (MQ below (bn_Qi Z o.1 (q, g, o.2) A) args s 0 0 A) (F0 m 12 ls [])) : ∀ (x3 : Int32) (x4 : Int32) (x6 : Int32) (x7 : Int32) (x8 : Int32) (v : mS) (H : Heap) (locs : List Loc) (ls : Array Slot), f_V_found_82 g K12 x3 x4 x6 x7 x8 v = some o → bn_H Z A s (q, g, v) H locs → lv_has ls 9 [(0, .ref (q 1)), (3, .int x3), (4, .int x4), (6, .int x6), (7, .int x7), (8, .int x8)] → W p l e (mo_rm 1) s m args below meth c H locs 0 0 (MQ below (bn_Qi Z o.1 (q, g, o.2) A) args s 0 0 A) (F0 m 82 ls []) := by
  have hx := C0.1
  have hb := C0.2.1
  have hl0 := C0.2.2.2.2.2.2.2.2.2
  intro x3 x4 x6 x7 x8 v H locs ls h hH hl
  unfold f_V_found_82 at h
  refine lv_aload_n hx hb d_V_found_82 rfl (lv_at hl 0 rfl) ?_
  refine lv_iload hx hb d_V_found_83 (lv_at hl 2 rfl) ?_
  obtain ⟨r_3, v_1, hc_2, h⟩ := bi_out h
  refine bn_ci (r := r_3) (w := (q, g, v_1)) (as := [.int x4]) (rest := []) C0 hH (ci := 4) ⟨by decide, by decide⟩ (by decide) rfl (c_V_kindOf hl0 hc_2) yy_V_kindOf q_519 (by decide) rfl hl.1 rfl (Nat.le_of_ble_eq_true rfl) ⟨Nat.zero_le _, Nat.zero_le _⟩ d_V_found_85 (fun H locs hH => ?_)
  refine lv_bipush (v := 6) hx hb d_V_found_88 (by decide) ?_
  refine lv_icmp_ne (tgt := 104) hx hb d_V_found_90 (by decide) (fun c_4 => ?_) (fun c_4 => ?_)
  · rw [if_neg c_4] at h
    refine lv_iconst (v := 0) hx hb d_V_found_104 (by decide) ?_
    exact w_V_found_105 C0 hr hK12 _ _ _ _ _ _ _ _ _ _ h hH (lv_sub hl [0, 1, 2, 3, 4, 5] rfl)
  · rw [if_pos c_4] at h
    refine lv_aload_n hx hb d_V_found_93 rfl (lv_at hl 0 rfl) ?_
    refine lv_iload hx hb d_V_found_94 (lv_at hl 2 rfl) ?_
    refine lv_iload hx hb d_V_found_96 (lv_at hl 5 rfl) ?_
    obtain ⟨r_7, v_5, hc_6, h⟩ := bi_out h
    refine bn_ci (r := r_7) (w := (q, g, v_5)) (as := [.int x4, .int x8]) (rest := []) C0 hH (ci := 4) ⟨by decide, by decide⟩ (by decide) rfl (c_V_nameAt hl0 hc_6) yy_V_nameAt q_527 (by decide) rfl hl.1 rfl (Nat.le_of_ble_eq_true rfl) ⟨Nat.zero_le _, Nat.zero_le _⟩ d_V_found_98 (fun H locs hH => ?_)
    refine lv_goto (tgt := 105) hx hb d_V_found_101 (by decide) ?_
    exact w_V_found_105 C0 hr hK12 _ _ _ _ _ _ _ _ _ _ h hH (lv_sub hl [0, 1, 2, 3, 4, 5] rfl)
def f_V_found_29 (g : Nat → Nat) (K12 : Int32 → Int32 → Int32 → Int32 → Int32 → mS → Option (Int32 × mS)) : Nat → Int32 → Int32 → Int32 → Int32 → Int32 → mS → Option (Int32 × mS)
  | 0, _, _, _, _, _, _ => none
  | n + 1, x3, x4, x6, x7, x8, v => bi (f_V_lengthOf g v x4) fun r_3 v_1 => if (r_3 - 1) ≤ x8 then (f_V_found_82 g K12 x3 x4 x6 x7 x8 v_1) else (bi (f_V_itemAt g v_1 x4 x8) fun r_7 v_5 => bi (f_V_sizeOf g v_5 r_7) fun r_10 v_8 => if x6 < r_10 then (f_V_found_82 g K12 x3 x4 x6 x7 x8 v_8) else (bi (f_V_itemAt g v_8 x4 x8) fun r_14 v_12 => bi (f_V_sizeOf g v_12 r_14) fun r_17 v_15 => nm (x6 - r_17) fun x6_18 => nm (x8 + 1) fun x8_19 => f_V_found_29 g K12 n x3 x4 x6_18 x7 x8_19 v_15))
set_option maxHeartbeats 4000000 in
set_option maxRecDepth 100000 in
theorem w_V_found_29 {p : Program} {l : Launch} {e : Env} {s : State} {m : MethodId} {args : Array Value} {below : List Frame} {meth : Method} {c : Code} {Z : bZ} {A : Nat → Prop} {q g : Nat → Nat} {o : Int32 × mS}  (C0 : bn_C "FilterBench$Values" b_V_found 9 Z A p l s m args meth c) (hr : meth.sig.returnType = (some .int)) {K12 : Int32 → Int32 → Int32 → Int32 → Int32 → mS → Option (Int32 × mS)} (hK12 : ∀ (x3 : Int32) (x4 : Int32) (x5 : Int32) (x6 : Int32) (x7 : Int32) (v : mS) (H : Heap) (locs : List Loc) (ls : Array Slot), K12 x3 x4 x5 x6 x7 v = some o → bn_H Z A s (q, g, v) H locs → lv_has ls 9 [(0, .ref (q 1)), (3, .int x3), (4, .int x4), (5, .int x5), (6, .int x6), (7, .int x7)] → W p l e (mo_rm 1) s m args below meth c H locs 0 0 (MQ below (bn_Qi Z o.1 (q, g, o.2) A) args s 0 0 A) (F0 m 12 ls [])) : ∀ (n : Nat) (x3 : Int32) (x4 : Int32) (x6 : Int32) (x7 : Int32) (x8 : Int32) (v : mS) (H : Heap) (locs : List Loc) (ls : Array Slot), f_V_found_29 g K12 n x3 x4 x6 x7 x8 v = some o → bn_H Z A s (q, g, v) H locs → lv_has ls 9 [(0, .ref (q 1)), (3, .int x3), (4, .int x4), (6, .int x6), (7, .int x7), (8, .int x8)] → W p l e (mo_rm 1) s m args below meth c H locs 0 0 (MQ below (bn_Qi Z o.1 (q, g, o.2) A) args s 0 0 A) (F0 m 29 ls []) := by
  have hx := C0.1
  have hb := C0.2.1
  have hl0 := C0.2.2.2.2.2.2.2.2.2
  intro n
  induction n with
  | zero =>
    intro x3 x4 x6 x7 x8 v H locs ls h hH hl
    cases h
  | succ n ih =>
    intro x3 x4 x6 x7 x8 v H locs ls h hH hl
    rw [f_V_found_29] at h
    refine lv_iload hx hb d_V_found_29 (lv_at hl 5 rfl) ?_
    refine lv_aload_n hx hb d_V_found_31 rfl (lv_at hl 0 rfl) ?_
    refine lv_iload hx hb d_V_found_32 (lv_at hl 2 rfl) ?_
    obtain ⟨r_3, v_1, hc_2, h⟩ := bi_out h
    refine bn_ci (r := r_3) (w := (q, g, v_1)) (as := [.int x4]) (rest := [.int x8]) C0 hH (ci := 4) ⟨by decide, by decide⟩ (by decide) rfl (c_V_lengthOf hl0 hc_2) yy_V_lengthOf q_383 (by decide) rfl hl.1 rfl (Nat.le_of_ble_eq_true rfl) ⟨Nat.zero_le _, Nat.zero_le _⟩ d_V_found_34 (fun H locs hH => ?_)
    refine lv_iconst (v := 1) hx hb d_V_found_37 (by decide) ?_
    refine lv_isub hx hb d_V_found_38 ?_
    refine lv_icmp_ge (tgt := 82) hx hb d_V_found_39 (by decide) (fun c_4 => ?_) (fun c_4 => ?_)
    · rw [if_pos c_4] at h
      exact w_V_found_82 C0 hr hK12 _ _ _ _ _ _ _ _ _ h hH (lv_sub hl [0, 1, 2, 3, 4, 5] rfl)
    · rw [if_neg c_4] at h
      refine lv_iload hx hb d_V_found_42 (lv_at hl 3 rfl) ?_
      refine lv_aload_n hx hb d_V_found_44 rfl (lv_at hl 0 rfl) ?_
      refine lv_aload_n hx hb d_V_found_45 rfl (lv_at hl 0 rfl) ?_
      refine lv_iload hx hb d_V_found_46 (lv_at hl 2 rfl) ?_
      refine lv_iload hx hb d_V_found_48 (lv_at hl 5 rfl) ?_
      obtain ⟨r_7, v_5, hc_6, h⟩ := bi_out h
      refine bn_ci (r := r_7) (w := (q, g, v_5)) (as := [.int x4, .int x8]) (rest := [.ref (q 1), .int x6]) C0 hH (ci := 4) ⟨by decide, by decide⟩ (by decide) rfl (c_V_itemAt hl0 hc_6) yy_V_itemAt q_543 (by decide) rfl hl.1 rfl (Nat.le_of_ble_eq_true rfl) ⟨Nat.zero_le _, Nat.zero_le _⟩ d_V_found_50 (fun H locs hH => ?_)
      obtain ⟨r_10, v_8, hc_9, h⟩ := bi_out h
      refine bn_ci (r := r_10) (w := (q, g, v_8)) (as := [.int r_7]) (rest := [.int x6]) C0 hH (ci := 4) ⟨by decide, by decide⟩ (by decide) rfl (c_V_sizeOf hl0 hc_9) yy_V_sizeOf q_874 (by decide) rfl hl.1 rfl (Nat.le_of_ble_eq_true rfl) ⟨Nat.zero_le _, Nat.zero_le _⟩ d_V_found_53 (fun H locs hH => ?_)
      refine lv_icmp_lt (tgt := 82) hx hb d_V_found_56 (by decide) (fun c_11 => ?_) (fun c_11 => ?_)
      · rw [if_pos c_11] at h
        exact w_V_found_82 C0 hr hK12 _ _ _ _ _ _ _ _ _ h hH (lv_sub hl [0, 1, 2, 3, 4, 5] rfl)
      · rw [if_neg c_11] at h
        refine lv_iload hx hb d_V_found_59 (lv_at hl 3 rfl) ?_
        refine lv_aload_n hx hb d_V_found_61 rfl (lv_at hl 0 rfl) ?_
        refine lv_aload_n hx hb d_V_found_62 rfl (lv_at hl 0 rfl) ?_
        refine lv_iload hx hb d_V_found_63 (lv_at hl 2 rfl) ?_
        refine lv_iload hx hb d_V_found_65 (lv_at hl 5 rfl) ?_
        obtain ⟨r_14, v_12, hc_13, h⟩ := bi_out h
        refine bn_ci (r := r_14) (w := (q, g, v_12)) (as := [.int x4, .int x8]) (rest := [.ref (q 1), .int x6]) C0 hH (ci := 4) ⟨by decide, by decide⟩ (by decide) rfl (c_V_itemAt hl0 hc_13) yy_V_itemAt q_543 (by decide) rfl hl.1 rfl (Nat.le_of_ble_eq_true rfl) ⟨Nat.zero_le _, Nat.zero_le _⟩ d_V_found_67 (fun H locs hH => ?_)
        obtain ⟨r_17, v_15, hc_16, h⟩ := bi_out h
        refine bn_ci (r := r_17) (w := (q, g, v_15)) (as := [.int r_14]) (rest := [.int x6]) C0 hH (ci := 4) ⟨by decide, by decide⟩ (by decide) rfl (c_V_sizeOf hl0 hc_16) yy_V_sizeOf q_874 (by decide) rfl hl.1 rfl (Nat.le_of_ble_eq_true rfl) ⟨Nat.zero_le _, Nat.zero_le _⟩ d_V_found_70 (fun H locs hH => ?_)
        refine lv_isub hx hb d_V_found_73 ?_
        obtain ⟨x6_18, hx6_18, h⟩ := nm_out h
        refine fu_i hx6_18 ?_
        refine lv_istore (lv' := [(6, .int x6_18), (0, .ref (q 1)), (3, .int x3), (4, .int x4), (7, .int x7), (8, .int x8)]) hx hb d_V_found_74 hl (by decide) rfl (fun ls hl => ?_)
        obtain ⟨x8_19, hx8_19, h⟩ := nm_out h
        refine lv_iinc (v := x8_19) (lv' := [(8, .int x8_19), (6, .int x6_18), (0, .ref (q 1)), (3, .int x3), (4, .int x4), (7, .int x7)]) hx hb d_V_found_76 hl (k := 5) rfl (by rw [hx8_19]; rfl) (by decide) rfl (fun ls hl => ?_)
        refine lv_goto (tgt := 29) hx hb d_V_found_79 (by decide) ?_
        exact ih _ _ _ _ _ _ _ _ _ h hH (lv_sub hl [2, 3, 4, 1, 5, 0] rfl)
def f_V_found_134 (g : Nat → Nat)  (y0 : Int32) (v : mS) : Option (Int32 × mS) := some (y0, v)
set_option maxHeartbeats 4000000 in
set_option maxRecDepth 100000 in
theorem w_V_found_134 {p : Program} {l : Launch} {e : Env} {s : State} {m : MethodId} {args : Array Value} {below : List Frame} {meth : Method} {c : Code} {Z : bZ} {A : Nat → Prop} {q g : Nat → Nat} {o : Int32 × mS}  (C0 : bn_C "FilterBench$Values" b_V_found 9 Z A p l s m args meth c) (hr : meth.sig.returnType = (some .int)) : ∀ (y0 : Int32) (v : mS) (H : Heap) (locs : List Loc) (ls : Array Slot), f_V_found_134 g  y0 v = some o → bn_H Z A s (q, g, v) H locs → lv_has ls 9 [] → W p l e (mo_rm 1) s m args below meth c H locs 0 0 (MQ below (bn_Qi Z o.1 (q, g, o.2) A) args s 0 0 A) (F0 m 134 ls [.int y0]) := by
  have hx := C0.1
  have hb := C0.2.1
  have hl0 := C0.2.2.2.2.2.2.2.2.2
  intro y0 v H locs ls h hH hl
  unfold f_V_found_134 at h
  exact bn_iret C0 hr hH d_V_found_134 (pq h)
def f_V_found_123 (g : Nat → Nat)  (x3 : Int32) (x4 : Int32) (x5 : Int32) (v : mS) : Option (Int32 × mS) := if x3 = 0 then (f_V_found_134 g x4 v) else (f_V_found_134 g x5 v)
set_option maxHeartbeats 4000000 in
set_option maxRecDepth 100000 in
theorem w_V_found_123 {p : Program} {l : Launch} {e : Env} {s : State} {m : MethodId} {args : Array Value} {below : List Frame} {meth : Method} {c : Code} {Z : bZ} {A : Nat → Prop} {q g : Nat → Nat} {o : Int32 × mS}  (C0 : bn_C "FilterBench$Values" b_V_found 9 Z A p l s m args meth c) (hr : meth.sig.returnType = (some .int)) : ∀ (x3 : Int32) (x4 : Int32) (x5 : Int32) (v : mS) (H : Heap) (locs : List Loc) (ls : Array Slot), f_V_found_123 g  x3 x4 x5 v = some o → bn_H Z A s (q, g, v) H locs → lv_has ls 9 [(3, .int x3), (4, .int x4), (5, .int x5)] → W p l e (mo_rm 1) s m args below meth c H locs 0 0 (MQ below (bn_Qi Z o.1 (q, g, o.2) A) args s 0 0 A) (F0 m 123 ls []) := by
  have hx := C0.1
  have hb := C0.2.1
  have hl0 := C0.2.2.2.2.2.2.2.2.2
  intro x3 x4 x5 v H locs ls h hH hl
  unfold f_V_found_123 at h
  refine lv_iload_n hx hb d_V_found_123 rfl (lv_at hl 0 rfl) ?_
  refine lv_if_eq (tgt := 132) hx hb d_V_found_124 (by decide) (fun c_1 => ?_) (fun c_1 => ?_)
  · rw [if_pos c_1] at h
    refine lv_iload hx hb d_V_found_132 (lv_at hl 1 rfl) ?_
    exact w_V_found_134 C0 hr  _ _ _ _ _ h hH (lv_sub hl [] rfl)
  · rw [if_neg c_1] at h
    refine lv_iload hx hb d_V_found_127 (lv_at hl 2 rfl) ?_
    refine lv_goto (tgt := 134) hx hb d_V_found_129 (by decide) ?_
    exact w_V_found_134 C0 hr  _ _ _ _ _ h hH (lv_sub hl [] rfl)
def f_V_found_12 (g : Nat → Nat)  : Nat → Int32 → Int32 → Int32 → Int32 → Int32 → mS → Option (Int32 × mS)
  | 0, _, _, _, _, _, _ => none
  | n + 1, x3, x4, x5, x6, x7, v => if 5 ≤ x7 then (f_V_found_123 g x3 x4 x5 v) else (if x6 ≤ 0 then (f_V_found_123 g x3 x4 x5 v) else (nm (x6 + (-1)) fun x6_3 => f_V_found_29 g (f_V_found_12 g n) fu x3 x4 x6_3 x7 0 v))
set_option maxHeartbeats 4000000 in
set_option maxRecDepth 100000 in
theorem w_V_found_12 {p : Program} {l : Launch} {e : Env} {s : State} {m : MethodId} {args : Array Value} {below : List Frame} {meth : Method} {c : Code} {Z : bZ} {A : Nat → Prop} {q g : Nat → Nat} {o : Int32 × mS}  (C0 : bn_C "FilterBench$Values" b_V_found 9 Z A p l s m args meth c) (hr : meth.sig.returnType = (some .int)) : ∀ (n : Nat) (x3 : Int32) (x4 : Int32) (x5 : Int32) (x6 : Int32) (x7 : Int32) (v : mS) (H : Heap) (locs : List Loc) (ls : Array Slot), f_V_found_12 g  n x3 x4 x5 x6 x7 v = some o → bn_H Z A s (q, g, v) H locs → lv_has ls 9 [(0, .ref (q 1)), (3, .int x3), (4, .int x4), (5, .int x5), (6, .int x6), (7, .int x7)] → W p l e (mo_rm 1) s m args below meth c H locs 0 0 (MQ below (bn_Qi Z o.1 (q, g, o.2) A) args s 0 0 A) (F0 m 12 ls []) := by
  have hx := C0.1
  have hb := C0.2.1
  have hl0 := C0.2.2.2.2.2.2.2.2.2
  intro n
  induction n with
  | zero =>
    intro x3 x4 x5 x6 x7 v H locs ls h hH hl
    cases h
  | succ n ih =>
    intro x3 x4 x5 x6 x7 v H locs ls h hH hl
    rw [f_V_found_12] at h
    refine lv_iload hx hb d_V_found_12 (lv_at hl 5 rfl) ?_
    refine lv_iconst (v := 5) hx hb d_V_found_14 (by decide) ?_
    refine lv_icmp_ge (tgt := 123) hx hb d_V_found_15 (by decide) (fun c_1 => ?_) (fun c_1 => ?_)
    · rw [if_pos c_1] at h
      exact w_V_found_123 C0 hr  _ _ _ _ _ _ _ h hH (lv_sub hl [1, 2, 3] rfl)
    · rw [if_neg c_1] at h
      refine lv_iload hx hb d_V_found_18 (lv_at hl 4 rfl) ?_
      refine lv_if_le (tgt := 123) hx hb d_V_found_20 (by decide) (fun c_2 => ?_) (fun c_2 => ?_)
      · rw [if_pos c_2] at h
        exact w_V_found_123 C0 hr  _ _ _ _ _ _ _ h hH (lv_sub hl [1, 2, 3] rfl)
      · rw [if_neg c_2] at h
        obtain ⟨x6_3, hx6_3, h⟩ := nm_out h
        refine lv_iinc (v := x6_3) (lv' := [(6, .int x6_3), (0, .ref (q 1)), (3, .int x3), (4, .int x4), (5, .int x5), (7, .int x7)]) hx hb d_V_found_23 hl (k := 4) rfl (by rw [hx6_3]; rfl) (by decide) rfl (fun ls hl => ?_)
        refine lv_iconst (v := 0) hx hb d_V_found_26 (by decide) ?_
        refine lv_istore (lv' := [(8, .int 0), (6, .int x6_3), (0, .ref (q 1)), (3, .int x3), (4, .int x4), (5, .int x5), (7, .int x7)]) hx hb d_V_found_27 hl (by decide) rfl (fun ls hl => ?_)
        exact w_V_found_29 C0 hr ih fu _ _ _ _ _ _ _ _ _ h hH (lv_sub hl [2, 3, 4, 1, 6, 0] rfl)
def f_V_found (g : Nat → Nat) (v : mS) (x1 : Int32) (x2 : Int32) (x3 : Int32) : Option (Int32 × mS) := f_V_found_12 g fu x3 x1 0 x2 0 v
set_option maxHeartbeats 4000000 in
set_option maxRecDepth 100000 in
theorem c_V_found {l : Launch} {Z : bZ} {q g : Nat → Nat} (hl0 : l.stackTraces = false) {v : mS}  {x1 : Int32} {x2 : Int32} {x3 : Int32} {o : Int32 × mS} (h : f_V_found g v x1 x2 x3 = some o) : bn_M l Z 1 y_V_found b_V_found 9 (some .int) [.ref (q 1), .int x1, .int x2, .int x3] (q, g, v) (bn_Qi Z o.1 (q, g, o.2)) := by
  refine bn_of hl0 (by decide +kernel) (Nat.le_of_ble_eq_true rfl) ?_
  intro p e s m below meth c A ls C0 hr hl hH
  have hx := C0.1
  have hb := C0.2.1
  have C0 : bn_C "FilterBench$Values" b_V_found 9 Z A p l s m _ meth c := C0
  have hl : lv_has ls 9 [(0, .ref (q 1)), (1, .int x1), (2, .int x2), (3, .int x3)] := hl
  unfold f_V_found at h
  refine lv_iload_n hx hb d_V_found_0 rfl (lv_at hl 1 rfl) ?_
  refine lv_istore (lv' := [(4, .int x1), (0, .ref (q 1)), (1, .int x1), (2, .int x2), (3, .int x3)]) hx hb d_V_found_1 hl (by decide) rfl (fun ls hl => ?_)
  refine lv_iconst (v := 0) hx hb d_V_found_3 (by decide) ?_
  refine lv_istore (lv' := [(5, .int 0), (4, .int x1), (0, .ref (q 1)), (1, .int x1), (2, .int x2), (3, .int x3)]) hx hb d_V_found_4 hl (by decide) rfl (fun ls hl => ?_)
  refine lv_iload_n hx hb d_V_found_6 rfl (lv_at hl 4 rfl) ?_
  refine lv_istore (lv' := [(6, .int x2), (5, .int 0), (4, .int x1), (0, .ref (q 1)), (1, .int x1), (2, .int x2), (3, .int x3)]) hx hb d_V_found_7 hl (by decide) rfl (fun ls hl => ?_)
  refine lv_iconst (v := 0) hx hb d_V_found_9 (by decide) ?_
  refine lv_istore (lv' := [(7, .int 0), (6, .int x2), (5, .int 0), (4, .int x1), (0, .ref (q 1)), (1, .int x1), (2, .int x2), (3, .int x3)]) hx hb d_V_found_10 hl (by decide) rfl (fun ls hl => ?_)
  exact w_V_found_12 C0 hr  fu _ _ _ _ _ _ _ _ _ h hH (lv_sub hl [4, 7, 3, 2, 1, 0] rfl)
def f_V_partAt (g : Nat → Nat) (v : mS) (x1 : Int32) (x2 : Int32) : Option (Int32 × mS) := bi (f_V_found g v x1 x2 0) fun r_3 v_1 => some (r_3, v_1)
set_option maxHeartbeats 4000000 in
set_option maxRecDepth 100000 in
theorem c_V_partAt {l : Launch} {Z : bZ} {q g : Nat → Nat} (hl0 : l.stackTraces = false) {v : mS}  {x1 : Int32} {x2 : Int32} {o : Int32 × mS} (h : f_V_partAt g v x1 x2 = some o) : bn_M l Z 2 y_V_partAt b_V_partAt 3 (some .int) [.ref (q 1), .int x1, .int x2] (q, g, v) (bn_Qi Z o.1 (q, g, o.2)) := by
  refine bn_of hl0 (by decide +kernel) (Nat.le_of_ble_eq_true rfl) ?_
  intro p e s m below meth c A ls C0 hr hl hH
  have hx := C0.1
  have hb := C0.2.1
  have C0 : bn_C "FilterBench$Values" b_V_partAt 3 Z A p l s m _ meth c := C0
  have hl : lv_has ls 3 [(0, .ref (q 1)), (1, .int x1), (2, .int x2)] := hl
  unfold f_V_partAt at h
  refine lv_aload_n hx hb d_V_partAt_0 rfl (lv_at hl 0 rfl) ?_
  refine lv_iload_n hx hb d_V_partAt_1 rfl (lv_at hl 1 rfl) ?_
  refine lv_iload_n hx hb d_V_partAt_2 rfl (lv_at hl 2 rfl) ?_
  refine lv_iconst (v := 0) hx hb d_V_partAt_3 (by decide) ?_
  obtain ⟨r_3, v_1, hc_2, h⟩ := bi_out h
  refine bn_ci (r := r_3) (w := (q, g, v_1)) (as := [.int x1, .int x2, .int 0]) (rest := []) C0 hH (ci := 4) ⟨by decide, by decide⟩ (by decide) rfl (c_V_found hl0 hc_2) yy_V_found q_870 (by decide) rfl hl.1 rfl (Nat.le_of_ble_eq_true rfl) ⟨Nat.zero_le _, Nat.zero_le _⟩ d_V_partAt_4 (fun H locs hH => ?_)
  exact bn_iret C0 hr hH d_V_partAt_7 (pq h)
def f_V_nameOfPart (g : Nat → Nat) (v : mS) (x1 : Int32) (x2 : Int32) : Option (Int32 × mS) := bi (f_V_found g v x1 x2 1) fun r_3 v_1 => some (r_3, v_1)
set_option maxHeartbeats 4000000 in
set_option maxRecDepth 100000 in
theorem c_V_nameOfPart {l : Launch} {Z : bZ} {q g : Nat → Nat} (hl0 : l.stackTraces = false) {v : mS}  {x1 : Int32} {x2 : Int32} {o : Int32 × mS} (h : f_V_nameOfPart g v x1 x2 = some o) : bn_M l Z 2 y_V_nameOfPart b_V_nameOfPart 3 (some .int) [.ref (q 1), .int x1, .int x2] (q, g, v) (bn_Qi Z o.1 (q, g, o.2)) := by
  refine bn_of hl0 (by decide +kernel) (Nat.le_of_ble_eq_true rfl) ?_
  intro p e s m below meth c A ls C0 hr hl hH
  have hx := C0.1
  have hb := C0.2.1
  have C0 : bn_C "FilterBench$Values" b_V_nameOfPart 3 Z A p l s m _ meth c := C0
  have hl : lv_has ls 3 [(0, .ref (q 1)), (1, .int x1), (2, .int x2)] := hl
  unfold f_V_nameOfPart at h
  refine lv_aload_n hx hb d_V_nameOfPart_0 rfl (lv_at hl 0 rfl) ?_
  refine lv_iload_n hx hb d_V_nameOfPart_1 rfl (lv_at hl 1 rfl) ?_
  refine lv_iload_n hx hb d_V_nameOfPart_2 rfl (lv_at hl 2 rfl) ?_
  refine lv_iconst (v := 1) hx hb d_V_nameOfPart_3 (by decide) ?_
  obtain ⟨r_3, v_1, hc_2, h⟩ := bi_out h
  refine bn_ci (r := r_3) (w := (q, g, v_1)) (as := [.int x1, .int x2, .int 1]) (rest := []) C0 hH (ci := 4) ⟨by decide, by decide⟩ (by decide) rfl (c_V_found hl0 hc_2) yy_V_found q_870 (by decide) rfl hl.1 rfl (Nat.le_of_ble_eq_true rfl) ⟨Nat.zero_le _, Nat.zero_le _⟩ d_V_nameOfPart_4 (fun H locs hH => ?_)
  exact bn_iret C0 hr hH d_V_nameOfPart_7 (pq h)
def f_V_cellsFor (g : Nat → Nat) (v : mS) (x0 : Int32) (x1 : Int32) : Option (Int32 × mS) := if x0 = 3 then (some (6, v)) else if x0 = 6 then (some (4 + (2 * x1), v)) else (some (4 + x1, v))
set_option maxHeartbeats 4000000 in
set_option maxRecDepth 100000 in
theorem c_V_cellsFor {l : Launch} {Z : bZ} {q g : Nat → Nat} (hl0 : l.stackTraces = false) {v : mS}  {x0 : Int32} {x1 : Int32} {o : Int32 × mS} (h : f_V_cellsFor g v x0 x1 = some o) : bn_M l Z 0 y_V_cellsFor b_V_cellsFor 2 (some .int) [.int x0, .int x1] (q, g, v) (bn_Qi Z o.1 (q, g, o.2)) := by
  refine bn_of hl0 (by decide +kernel) (Nat.le_of_ble_eq_true rfl) ?_
  intro p e s m below meth c A ls C0 hr hl hH
  have hx := C0.1
  have hb := C0.2.1
  have C0 : bn_C "FilterBench$Values" b_V_cellsFor 2 Z A p l s m _ meth c := C0
  have hl : lv_has ls 2 [(0, .int x0), (1, .int x1)] := hl
  unfold f_V_cellsFor at h
  refine lv_iload_n hx hb d_V_cellsFor_0 rfl (lv_at hl 0 rfl) ?_
  by_cases e_1 : x0 = 3
  · rw [if_pos e_1] at h
    refine fu_lhit (tgt := 28) (off := 27) 3 e_1 hx hb d_V_cellsFor_1 (by decide) (by decide) (by decide) ?_
    refine lv_bipush (v := 6) hx hb d_V_cellsFor_28 (by decide) ?_
    exact bn_iret C0 hr hH d_V_cellsFor_30 (pq h)
  rw [if_neg e_1] at h
  by_cases e_2 : x0 = 6
  · rw [if_pos e_2] at h
    refine fu_lhit (tgt := 31) (off := 30) 6 e_2 hx hb d_V_cellsFor_1 (by decide) (by decide) (by decide) ?_
    refine lv_iconst (v := 4) hx hb d_V_cellsFor_31 (by decide) ?_
    refine lv_iconst (v := 2) hx hb d_V_cellsFor_32 (by decide) ?_
    refine lv_iload_n hx hb d_V_cellsFor_33 rfl (lv_at hl 1 rfl) ?_
    refine lv_imul hx hb d_V_cellsFor_34 ?_
    refine lv_iadd hx hb d_V_cellsFor_35 ?_
    exact bn_iret C0 hr hH d_V_cellsFor_36 (pq h)
  rw [if_neg e_2] at h
  refine lv_lookup (tgt := 37) (off := 36) hx hb d_V_cellsFor_1 (by decide) (by show Op.lookupswitch.offset [(3, 27), (6, 30)] _ _ = _; rw [lv_osw e_1 (by decide), lv_osw e_2 (by decide)]; rfl) (by decide) ?_
  refine lv_iconst (v := 4) hx hb d_V_cellsFor_37 (by decide) ?_
  refine lv_iload_n hx hb d_V_cellsFor_38 rfl (lv_at hl 1 rfl) ?_
  refine lv_iadd hx hb d_V_cellsFor_39 ?_
  exact bn_iret C0 hr hH d_V_cellsFor_40 (pq h)
def f_V_setHead (g : Nat → Nat) (v : mS) (x1 : Int32) (x2 : Int32) (x3 : Int32) : Option (mS) := gd (inB x1 (g 4)) (nm (sU v 4 (x1 : Int32).toNatClampNeg x2) fun v_2 => gd (inB (x1 + 1) (g 4)) (nm (sU v_2 4 (x1 + 1 : Int32).toNatClampNeg x3) fun v_4 => gd (inB (x1 + 2) (g 4)) (nm (sU v_4 4 (x1 + 2 : Int32).toNatClampNeg 1) fun v_6 => gd (inB (x1 + 3) (g 4)) (nm (sU v_6 4 (x1 + 3 : Int32).toNatClampNeg 0) fun v_8 => some v_8))))
set_option maxHeartbeats 4000000 in
set_option maxRecDepth 100000 in
theorem c_V_setHead {l : Launch} {Z : bZ} {q g : Nat → Nat} (hl0 : l.stackTraces = false) {v : mS}  {x1 : Int32} {x2 : Int32} {x3 : Int32} {o : mS} (h : f_V_setHead g v x1 x2 x3 = some o) : bn_M l Z 0 y_V_setHead b_V_setHead 4 none [.ref (q 1), .int x1, .int x2, .int x3] (q, g, v) (bn_Qv Z (q, g, o)) := by
  refine bn_of hl0 (by decide +kernel) (Nat.le_of_ble_eq_true rfl) ?_
  intro p e s m below meth c A ls C0 hr hl hH
  have hx := C0.1
  have hb := C0.2.1
  have C0 : bn_C "FilterBench$Values" b_V_setHead 4 Z A p l s m _ meth c := C0
  have hl : lv_has ls 4 [(0, .ref (q 1)), (1, .int x1), (2, .int x2), (3, .int x3)] := hl
  unfold f_V_setHead at h
  refine lv_aload_n hx hb d_V_setHead_0 rfl (lv_at hl 0 rfl) ?_
  refine bn_g_V_cells ⟨by decide, by decide⟩ C0 hH d_V_setHead_1 ?_
  refine lv_iload_n hx hb d_V_setHead_4 rfl (lv_at hl 1 rfl) ?_
  refine lv_iload_n hx hb d_V_setHead_5 rfl (lv_at hl 2 rfl) ?_
  obtain ⟨g_1, h⟩ := gd_out h
  obtain ⟨v_2, hv_2, h⟩ := nm_out h
  refine bn_sto ⟨by decide, by decide⟩ C0 hH (inB_in g_1) d_V_setHead_6 (fun H locs hH => ?_)
  have hH : bn_H Z A s (q, g, v_2) H locs := by rw [hv_2]; exact hH
  refine lv_aload_n hx hb d_V_setHead_7 rfl (lv_at hl 0 rfl) ?_
  refine bn_g_V_cells ⟨by decide, by decide⟩ C0 hH d_V_setHead_8 ?_
  refine lv_iload_n hx hb d_V_setHead_11 rfl (lv_at hl 1 rfl) ?_
  refine lv_iconst (v := 1) hx hb d_V_setHead_12 (by decide) ?_
  refine lv_iadd hx hb d_V_setHead_13 ?_
  refine lv_iload_n hx hb d_V_setHead_14 rfl (lv_at hl 3 rfl) ?_
  obtain ⟨g_3, h⟩ := gd_out h
  obtain ⟨v_4, hv_4, h⟩ := nm_out h
  refine bn_sto ⟨by decide, by decide⟩ C0 hH (inB_in g_3) d_V_setHead_15 (fun H locs hH => ?_)
  have hH : bn_H Z A s (q, g, v_4) H locs := by rw [hv_4]; exact hH
  refine lv_aload_n hx hb d_V_setHead_16 rfl (lv_at hl 0 rfl) ?_
  refine bn_g_V_cells ⟨by decide, by decide⟩ C0 hH d_V_setHead_17 ?_
  refine lv_iload_n hx hb d_V_setHead_20 rfl (lv_at hl 1 rfl) ?_
  refine lv_iconst (v := 2) hx hb d_V_setHead_21 (by decide) ?_
  refine lv_iadd hx hb d_V_setHead_22 ?_
  refine lv_iconst (v := 1) hx hb d_V_setHead_23 (by decide) ?_
  obtain ⟨g_5, h⟩ := gd_out h
  obtain ⟨v_6, hv_6, h⟩ := nm_out h
  refine bn_sto ⟨by decide, by decide⟩ C0 hH (inB_in g_5) d_V_setHead_24 (fun H locs hH => ?_)
  have hH : bn_H Z A s (q, g, v_6) H locs := by rw [hv_6]; exact hH
  refine lv_aload_n hx hb d_V_setHead_25 rfl (lv_at hl 0 rfl) ?_
  refine bn_g_V_cells ⟨by decide, by decide⟩ C0 hH d_V_setHead_26 ?_
  refine lv_iload_n hx hb d_V_setHead_29 rfl (lv_at hl 1 rfl) ?_
  refine lv_iconst (v := 3) hx hb d_V_setHead_30 (by decide) ?_
  refine lv_iadd hx hb d_V_setHead_31 ?_
  refine lv_iconst (v := 0) hx hb d_V_setHead_32 (by decide) ?_
  obtain ⟨g_7, h⟩ := gd_out h
  obtain ⟨v_8, hv_8, h⟩ := nm_out h
  refine bn_sto ⟨by decide, by decide⟩ C0 hH (inB_in g_7) d_V_setHead_33 (fun H locs hH => ?_)
  have hH : bn_H Z A s (q, g, v_8) H locs := by rw [hv_8]; exact hH
  exact bn_vret C0 hr hH d_V_setHead_34 (pw1 h)
def f_V_truth_10 (g : Nat → Nat)  (y0 : Int32) (v : mS) : Option (Int32 × mS) := some (y0, v)
set_option maxHeartbeats 4000000 in
set_option maxRecDepth 100000 in
theorem w_V_truth_10 {p : Program} {l : Launch} {e : Env} {s : State} {m : MethodId} {args : Array Value} {below : List Frame} {meth : Method} {c : Code} {Z : bZ} {A : Nat → Prop} {q g : Nat → Nat} {o : Int32 × mS}  (C0 : bn_C "FilterBench$Values" b_V_truth 2 Z A p l s m args meth c) (hr : meth.sig.returnType = (some .int)) : ∀ (y0 : Int32) (v : mS) (H : Heap) (locs : List Loc) (ls : Array Slot), f_V_truth_10 g  y0 v = some o → bn_H Z A s (q, g, v) H locs → lv_has ls 2 [] → W p l e (mo_rm 0) s m args below meth c H locs 0 0 (MQ below (bn_Qi Z o.1 (q, g, o.2) A) args s 0 0 A) (F0 m 10 ls [.int y0]) := by
  have hx := C0.1
  have hb := C0.2.1
  have hl0 := C0.2.2.2.2.2.2.2.2.2
  intro y0 v H locs ls h hH hl
  unfold f_V_truth_10 at h
  exact bn_iret C0 hr hH d_V_truth_10 (pq h)
def f_V_truth (g : Nat → Nat) (v : mS) (x1 : Int32) : Option (Int32 × mS) := if x1 = 0 then (f_V_truth_10 g 4 v) else (f_V_truth_10 g 8 v)
set_option maxHeartbeats 4000000 in
set_option maxRecDepth 100000 in
theorem c_V_truth {l : Launch} {Z : bZ} {q g : Nat → Nat} (hl0 : l.stackTraces = false) {v : mS}  {x1 : Int32} {o : Int32 × mS} (h : f_V_truth g v x1 = some o) : bn_M l Z 0 y_V_truth b_V_truth 2 (some .int) [.ref (q 1), .int x1] (q, g, v) (bn_Qi Z o.1 (q, g, o.2)) := by
  refine bn_of hl0 (by decide +kernel) (Nat.le_of_ble_eq_true rfl) ?_
  intro p e s m below meth c A ls C0 hr hl hH
  have hx := C0.1
  have hb := C0.2.1
  have C0 : bn_C "FilterBench$Values" b_V_truth 2 Z A p l s m _ meth c := C0
  have hl : lv_has ls 2 [(0, .ref (q 1)), (1, .int x1)] := hl
  unfold f_V_truth at h
  refine lv_iload_n hx hb d_V_truth_0 rfl (lv_at hl 1 rfl) ?_
  refine lv_if_eq (tgt := 9) hx hb d_V_truth_1 (by decide) (fun c_1 => ?_) (fun c_1 => ?_)
  · rw [if_pos c_1] at h
    refine lv_iconst (v := 4) hx hb d_V_truth_9 (by decide) ?_
    exact w_V_truth_10 C0 hr  _ _ _ _ _ h hH (lv_sub hl [] rfl)
  · rw [if_neg c_1] at h
    refine lv_bipush (v := 8) hx hb d_V_truth_4 (by decide) ?_
    refine lv_goto (tgt := 10) hx hb d_V_truth_6 (by decide) ?_
    exact w_V_truth_10 C0 hr  _ _ _ _ _ h hH (lv_sub hl [] rfl)
def f_V_wordFor (g : Nat → Nat) (v : mS) (x1 : Int32) : Option (Int32 × mS) := some (x1 * 4, v)
set_option maxHeartbeats 4000000 in
set_option maxRecDepth 100000 in
theorem c_V_wordFor {l : Launch} {Z : bZ} {q g : Nat → Nat} (hl0 : l.stackTraces = false) {v : mS}  {x1 : Int32} {o : Int32 × mS} (h : f_V_wordFor g v x1 = some o) : bn_M l Z 0 y_V_wordFor b_V_wordFor 2 (some .int) [.ref (q 1), .int x1] (q, g, v) (bn_Qi Z o.1 (q, g, o.2)) := by
  refine bn_of hl0 (by decide +kernel) (Nat.le_of_ble_eq_true rfl) ?_
  intro p e s m below meth c A ls C0 hr hl hH
  have hx := C0.1
  have hb := C0.2.1
  have C0 : bn_C "FilterBench$Values" b_V_wordFor 2 Z A p l s m _ meth c := C0
  have hl : lv_has ls 2 [(0, .ref (q 1)), (1, .int x1)] := hl
  unfold f_V_wordFor at h
  refine lv_iload_n hx hb d_V_wordFor_0 rfl (lv_at hl 1 rfl) ?_
  refine lv_iconst (v := 4) hx hb d_V_wordFor_1 (by decide) ?_
  refine lv_imul hx hb d_V_wordFor_2 ?_
  exact bn_iret C0 hr hH d_V_wordFor_3 (pq h)
def f_V_small (g : Nat → Nat) (v : mS) (x1 : Int32) : Option (Int32 × mS) := some (16 + (x1 * 6), v)
set_option maxHeartbeats 4000000 in
set_option maxRecDepth 100000 in
theorem c_V_small {l : Launch} {Z : bZ} {q g : Nat → Nat} (hl0 : l.stackTraces = false) {v : mS}  {x1 : Int32} {o : Int32 × mS} (h : f_V_small g v x1 = some o) : bn_M l Z 0 y_V_small b_V_small 2 (some .int) [.ref (q 1), .int x1] (q, g, v) (bn_Qi Z o.1 (q, g, o.2)) := by
  refine bn_of hl0 (by decide +kernel) (Nat.le_of_ble_eq_true rfl) ?_
  intro p e s m below meth c A ls C0 hr hl hH
  have hx := C0.1
  have hb := C0.2.1
  have C0 : bn_C "FilterBench$Values" b_V_small 2 Z A p l s m _ meth c := C0
  have hl : lv_has ls 2 [(0, .ref (q 1)), (1, .int x1)] := hl
  unfold f_V_small at h
  refine lv_bipush (v := 16) hx hb d_V_small_0 (by decide) ?_
  refine lv_iload_n hx hb d_V_small_2 rfl (lv_at hl 1 rfl) ?_
  refine lv_bipush (v := 6) hx hb d_V_small_3 (by decide) ?_
  refine lv_imul hx hb d_V_small_5 ?_
  refine lv_iadd hx hb d_V_small_6 ?_
  exact bn_iret C0 hr hH d_V_small_7 (pq h)
def f_J_icompare_19 (g : Nat → Nat)  (y0 : Int32) (v : mS) : Option (Int32 × mS) := some (y0, v)
set_option maxHeartbeats 4000000 in
set_option maxRecDepth 100000 in
theorem w_J_icompare_19 {p : Program} {l : Launch} {e : Env} {s : State} {m : MethodId} {args : Array Value} {below : List Frame} {meth : Method} {c : Code} {Z : bZ} {A : Nat → Prop} {q g : Nat → Nat} {o : Int32 × mS}  (C0 : bn_C "java/lang/Integer" b_J_icompare 2 Z A p l s m args meth c) (hr : meth.sig.returnType = (some .int)) : ∀ (y0 : Int32) (v : mS) (H : Heap) (locs : List Loc) (ls : Array Slot), f_J_icompare_19 g  y0 v = some o → bn_H Z A s (q, g, v) H locs → lv_has ls 2 [] → W p l e (mo_rm 0) s m args below meth c H locs 0 0 (MQ below (bn_Qi Z o.1 (q, g, o.2) A) args s 0 0 A) (F0 m 19 ls [.int y0]) := by
  have hx := C0.1
  have hb := C0.2.1
  have hl0 := C0.2.2.2.2.2.2.2.2.2
  intro y0 v H locs ls h hH hl
  unfold f_J_icompare_19 at h
  exact bn_iret C0 hr hH d_J_icompare_19 (pq h)
def f_J_icompare (g : Nat → Nat) (v : mS) (x0 : Int32) (x1 : Int32) : Option (Int32 × mS) := if x1 ≤ x0 then (if x0 = x1 then (f_J_icompare_19 g 0 v) else (f_J_icompare_19 g 1 v)) else (f_J_icompare_19 g (-1) v)
set_option maxHeartbeats 4000000 in
set_option maxRecDepth 100000 in
theorem c_J_icompare {l : Launch} {Z : bZ} {q g : Nat → Nat} (hl0 : l.stackTraces = false) {v : mS}  {x0 : Int32} {x1 : Int32} {o : Int32 × mS} (h : f_J_icompare g v x0 x1 = some o) : bn_M l Z 0 y_J_icompare b_J_icompare 2 (some .int) [.int x0, .int x1] (q, g, v) (bn_Qi Z o.1 (q, g, o.2)) := by
  refine bn_ofF hl0 (by decide +kernel) (Nat.le_of_ble_eq_true rfl) ?_
  intro p e s m below meth c A ls C0 hr hl hH
  have hx := C0.1
  have hb := C0.2.1
  have C0 : bn_C "java/lang/Integer" b_J_icompare 2 Z A p l s m _ meth c := C0
  have hl : lv_has ls 2 [(0, .int x0), (1, .int x1)] := hl
  unfold f_J_icompare at h
  refine lv_iload_n hx hb d_J_icompare_0 rfl (lv_at hl 0 rfl) ?_
  refine lv_iload_n hx hb d_J_icompare_1 rfl (lv_at hl 1 rfl) ?_
  refine lv_icmp_ge (tgt := 9) hx hb d_J_icompare_2 (by decide) (fun c_1 => ?_) (fun c_1 => ?_)
  · rw [if_pos c_1] at h
    refine lv_iload_n hx hb d_J_icompare_9 rfl (lv_at hl 0 rfl) ?_
    refine lv_iload_n hx hb d_J_icompare_10 rfl (lv_at hl 1 rfl) ?_
    refine lv_icmp_ne (tgt := 18) hx hb d_J_icompare_11 (by decide) (fun c_2 => ?_) (fun c_2 => ?_)
    · rw [if_neg c_2] at h
      refine lv_iconst (v := 1) hx hb d_J_icompare_18 (by decide) ?_
      exact w_J_icompare_19 C0 hr  _ _ _ _ _ h hH (lv_sub hl [] rfl)
    · rw [if_pos c_2] at h
      refine lv_iconst (v := 0) hx hb d_J_icompare_14 (by decide) ?_
      refine lv_goto (tgt := 19) hx hb d_J_icompare_15 (by decide) ?_
      exact w_J_icompare_19 C0 hr  _ _ _ _ _ h hH (lv_sub hl [] rfl)
  · rw [if_neg c_1] at h
    refine lv_iconst (v := (-1)) hx hb d_J_icompare_5 (by decide) ?_
    refine lv_goto (tgt := 19) hx hb d_J_icompare_6 (by decide) ?_
    exact w_J_icompare_19 C0 hr  _ _ _ _ _ h hH (lv_sub hl [] rfl)
def f_V_comparedTexts_62 (g : Nat → Nat)  (y0 : Int32) (v : mS) : Option (Int32 × mS) := some (y0, v)
set_option maxHeartbeats 4000000 in
set_option maxRecDepth 100000 in
theorem w_V_comparedTexts_62 {p : Program} {l : Launch} {e : Env} {s : State} {m : MethodId} {args : Array Value} {below : List Frame} {meth : Method} {c : Code} {Z : bZ} {A : Nat → Prop} {q g : Nat → Nat} {o : Int32 × mS}  (C0 : bn_C "FilterBench$Values" b_V_comparedTexts 5 Z A p l s m args meth c) (hr : meth.sig.returnType = (some .int)) : ∀ (y0 : Int32) (v : mS) (H : Heap) (locs : List Loc) (ls : Array Slot), f_V_comparedTexts_62 g  y0 v = some o → bn_H Z A s (q, g, v) H locs → lv_has ls 5 [] → W p l e (mo_rm 1) s m args below meth c H locs 0 0 (MQ below (bn_Qi Z o.1 (q, g, o.2) A) args s 0 0 A) (F0 m 62 ls [.int y0]) := by
  have hx := C0.1
  have hb := C0.2.1
  have hl0 := C0.2.2.2.2.2.2.2.2.2
  intro y0 v H locs ls h hH hl
  unfold f_V_comparedTexts_62 at h
  exact bn_iret C0 hr hH d_V_comparedTexts_62 (pq h)
def f_V_comparedTexts_17 (g : Nat → Nat)  : Nat → Int32 → Int32 → Int32 → Int32 → mS → Option (Int32 × mS)
  | 0, _, _, _, _, _ => none
  | n + 1, x1, x2, x3, x4, v => if x3 ≤ x4 then (bi (f_V_lengthOf g v x1) fun r_4 v_2 => bi (f_V_lengthOf g v_2 x2) fun r_7 v_5 => bi (f_J_icompare g v_5 r_4 r_7) fun r_10 v_8 => some (r_10, v_8)) else (bi (f_V_letterAt g v x1 x4) fun r_13 v_11 => bi (f_V_letterAt g v_11 x2 x4) fun r_16 v_14 => if r_13 = r_16 then (nm (x4 + 1) fun x4_18 => f_V_comparedTexts_17 g n x1 x2 x3 x4_18 v_14) else (bi (f_V_letterAt g v_14 x1 x4) fun r_21 v_19 => bi (f_V_letterAt g v_19 x2 x4) fun r_24 v_22 => if r_24 ≤ r_21 then (f_V_comparedTexts_62 g 1 v_22) else (f_V_comparedTexts_62 g (-1) v_22)))
set_option maxHeartbeats 4000000 in
set_option maxRecDepth 100000 in
theorem w_V_comparedTexts_17 {p : Program} {l : Launch} {e : Env} {s : State} {m : MethodId} {args : Array Value} {below : List Frame} {meth : Method} {c : Code} {Z : bZ} {A : Nat → Prop} {q g : Nat → Nat} {o : Int32 × mS}  (C0 : bn_C "FilterBench$Values" b_V_comparedTexts 5 Z A p l s m args meth c) (hr : meth.sig.returnType = (some .int)) : ∀ (n : Nat) (x1 : Int32) (x2 : Int32) (x3 : Int32) (x4 : Int32) (v : mS) (H : Heap) (locs : List Loc) (ls : Array Slot), f_V_comparedTexts_17 g  n x1 x2 x3 x4 v = some o → bn_H Z A s (q, g, v) H locs → lv_has ls 5 [(0, .ref (q 1)), (1, .int x1), (2, .int x2), (3, .int x3), (4, .int x4)] → W p l e (mo_rm 1) s m args below meth c H locs 0 0 (MQ below (bn_Qi Z o.1 (q, g, o.2) A) args s 0 0 A) (F0 m 17 ls []) := by
  have hx := C0.1
  have hb := C0.2.1
  have hl0 := C0.2.2.2.2.2.2.2.2.2
  intro n
  induction n with
  | zero =>
    intro x1 x2 x3 x4 v H locs ls h hH hl
    cases h
  | succ n ih =>
    intro x1 x2 x3 x4 v H locs ls h hH hl
    rw [f_V_comparedTexts_17] at h
    refine lv_iload hx hb d_V_comparedTexts_17 (lv_at hl 4 rfl) ?_
    refine lv_iload_n hx hb d_V_comparedTexts_19 rfl (lv_at hl 3 rfl) ?_
    refine lv_icmp_ge (tgt := 69) hx hb d_V_comparedTexts_20 (by decide) (fun c_1 => ?_) (fun c_1 => ?_)
    · rw [if_pos c_1] at h
      refine lv_aload_n hx hb d_V_comparedTexts_69 rfl (lv_at hl 0 rfl) ?_
      refine lv_iload_n hx hb d_V_comparedTexts_70 rfl (lv_at hl 1 rfl) ?_
      obtain ⟨r_4, v_2, hc_3, h⟩ := bi_out h
      refine bn_ci (r := r_4) (w := (q, g, v_2)) (as := [.int x1]) (rest := []) C0 hH (ci := 4) ⟨by decide, by decide⟩ (by decide) rfl (c_V_lengthOf hl0 hc_3) yy_V_lengthOf q_383 (by decide) rfl hl.1 rfl (Nat.le_of_ble_eq_true rfl) ⟨Nat.zero_le _, Nat.zero_le _⟩ d_V_comparedTexts_71 (fun H locs hH => ?_)
      refine lv_aload_n hx hb d_V_comparedTexts_74 rfl (lv_at hl 0 rfl) ?_
      refine lv_iload_n hx hb d_V_comparedTexts_75 rfl (lv_at hl 2 rfl) ?_
      obtain ⟨r_7, v_5, hc_6, h⟩ := bi_out h
      refine bn_ci (r := r_7) (w := (q, g, v_5)) (as := [.int x2]) (rest := [.int r_4]) C0 hH (ci := 4) ⟨by decide, by decide⟩ (by decide) rfl (c_V_lengthOf hl0 hc_6) yy_V_lengthOf q_383 (by decide) rfl hl.1 rfl (Nat.le_of_ble_eq_true rfl) ⟨Nat.zero_le _, Nat.zero_le _⟩ d_V_comparedTexts_76 (fun H locs hH => ?_)
      obtain ⟨r_10, v_8, hc_9, h⟩ := bi_out h
      refine bn_si (r := r_10) (w := (q, g, v_8)) (as := [.int r_4, .int r_7]) (rest := []) C0 hH (c_J_icompare hl0 hc_9) yy_J_icompare q_540 (by decide) rfl hl.1 rfl (Nat.le_of_ble_eq_true rfl) ⟨Nat.zero_le _, Nat.zero_le _⟩ d_V_comparedTexts_79 (fun H locs hH => ?_)
      exact bn_iret C0 hr hH d_V_comparedTexts_82 (pq h)
    · rw [if_neg c_1] at h
      refine lv_aload_n hx hb d_V_comparedTexts_23 rfl (lv_at hl 0 rfl) ?_
      refine lv_iload_n hx hb d_V_comparedTexts_24 rfl (lv_at hl 1 rfl) ?_
      refine lv_iload hx hb d_V_comparedTexts_25 (lv_at hl 4 rfl) ?_
      obtain ⟨r_13, v_11, hc_12, h⟩ := bi_out h
      refine bn_ci (r := r_13) (w := (q, g, v_11)) (as := [.int x1, .int x4]) (rest := []) C0 hH (ci := 4) ⟨by decide, by decide⟩ (by decide) rfl (c_V_letterAt hl0 hc_12) yy_V_letterAt q_536 (by decide) rfl hl.1 rfl (Nat.le_of_ble_eq_true rfl) ⟨Nat.zero_le _, Nat.zero_le _⟩ d_V_comparedTexts_27 (fun H locs hH => ?_)
      refine lv_aload_n hx hb d_V_comparedTexts_30 rfl (lv_at hl 0 rfl) ?_
      refine lv_iload_n hx hb d_V_comparedTexts_31 rfl (lv_at hl 2 rfl) ?_
      refine lv_iload hx hb d_V_comparedTexts_32 (lv_at hl 4 rfl) ?_
      obtain ⟨r_16, v_14, hc_15, h⟩ := bi_out h
      refine bn_ci (r := r_16) (w := (q, g, v_14)) (as := [.int x2, .int x4]) (rest := [.int r_13]) C0 hH (ci := 4) ⟨by decide, by decide⟩ (by decide) rfl (c_V_letterAt hl0 hc_15) yy_V_letterAt q_536 (by decide) rfl hl.1 rfl (Nat.le_of_ble_eq_true rfl) ⟨Nat.zero_le _, Nat.zero_le _⟩ d_V_comparedTexts_34 (fun H locs hH => ?_)
      refine lv_icmp_eq (tgt := 63) hx hb d_V_comparedTexts_37 (by decide) (fun c_17 => ?_) (fun c_17 => ?_)
      · rw [if_pos c_17] at h
        obtain ⟨x4_18, hx4_18, h⟩ := nm_out h
        refine lv_iinc (v := x4_18) (lv' := [(4, .int x4_18), (0, .ref (q 1)), (1, .int x1), (2, .int x2), (3, .int x3)]) hx hb d_V_comparedTexts_63 hl (k := 4) rfl (by rw [hx4_18]; rfl) (by decide) rfl (fun ls hl => ?_)
        refine lv_goto (tgt := 17) hx hb d_V_comparedTexts_66 (by decide) ?_
        exact ih _ _ _ _ _ _ _ _ h hH (lv_sub hl [1, 2, 3, 4, 0] rfl)
      · rw [if_neg c_17] at h
        refine lv_aload_n hx hb d_V_comparedTexts_40 rfl (lv_at hl 0 rfl) ?_
        refine lv_iload_n hx hb d_V_comparedTexts_41 rfl (lv_at hl 1 rfl) ?_
        refine lv_iload hx hb d_V_comparedTexts_42 (lv_at hl 4 rfl) ?_
        obtain ⟨r_21, v_19, hc_20, h⟩ := bi_out h
        refine bn_ci (r := r_21) (w := (q, g, v_19)) (as := [.int x1, .int x4]) (rest := []) C0 hH (ci := 4) ⟨by decide, by decide⟩ (by decide) rfl (c_V_letterAt hl0 hc_20) yy_V_letterAt q_536 (by decide) rfl hl.1 rfl (Nat.le_of_ble_eq_true rfl) ⟨Nat.zero_le _, Nat.zero_le _⟩ d_V_comparedTexts_44 (fun H locs hH => ?_)
        refine lv_aload_n hx hb d_V_comparedTexts_47 rfl (lv_at hl 0 rfl) ?_
        refine lv_iload_n hx hb d_V_comparedTexts_48 rfl (lv_at hl 2 rfl) ?_
        refine lv_iload hx hb d_V_comparedTexts_49 (lv_at hl 4 rfl) ?_
        obtain ⟨r_24, v_22, hc_23, h⟩ := bi_out h
        refine bn_ci (r := r_24) (w := (q, g, v_22)) (as := [.int x2, .int x4]) (rest := [.int r_21]) C0 hH (ci := 4) ⟨by decide, by decide⟩ (by decide) rfl (c_V_letterAt hl0 hc_23) yy_V_letterAt q_536 (by decide) rfl hl.1 rfl (Nat.le_of_ble_eq_true rfl) ⟨Nat.zero_le _, Nat.zero_le _⟩ d_V_comparedTexts_51 (fun H locs hH => ?_)
        refine lv_icmp_ge (tgt := 61) hx hb d_V_comparedTexts_54 (by decide) (fun c_25 => ?_) (fun c_25 => ?_)
        · rw [if_pos c_25] at h
          refine lv_iconst (v := 1) hx hb d_V_comparedTexts_61 (by decide) ?_
          exact w_V_comparedTexts_62 C0 hr  _ _ _ _ _ h hH (lv_sub hl [] rfl)
        · rw [if_neg c_25] at h
          refine lv_iconst (v := (-1)) hx hb d_V_comparedTexts_57 (by decide) ?_
          refine lv_goto (tgt := 62) hx hb d_V_comparedTexts_58 (by decide) ?_
          exact w_V_comparedTexts_62 C0 hr  _ _ _ _ _ h hH (lv_sub hl [] rfl)
def f_V_comparedTexts (g : Nat → Nat) (v : mS) (x1 : Int32) (x2 : Int32) : Option (Int32 × mS) := bi (f_V_lengthOf g v x1) fun r_3 v_1 => bi (f_V_lengthOf g v_1 x2) fun r_6 v_4 => nm (if r_6 < r_3 then r_6 else r_3) fun x3_7 => f_V_comparedTexts_17 g fu x1 x2 x3_7 0 v_4
set_option maxHeartbeats 4000000 in
set_option maxRecDepth 100000 in
theorem c_V_comparedTexts {l : Launch} {Z : bZ} {q g : Nat → Nat} (hl0 : l.stackTraces = false) {v : mS}  {x1 : Int32} {x2 : Int32} {o : Int32 × mS} (h : f_V_comparedTexts g v x1 x2 = some o) : bn_M l Z 1 y_V_comparedTexts b_V_comparedTexts 5 (some .int) [.ref (q 1), .int x1, .int x2] (q, g, v) (bn_Qi Z o.1 (q, g, o.2)) := by
  refine bn_of hl0 (by decide +kernel) (Nat.le_of_ble_eq_true rfl) ?_
  intro p e s m below meth c A ls C0 hr hl hH
  have hx := C0.1
  have hb := C0.2.1
  have C0 : bn_C "FilterBench$Values" b_V_comparedTexts 5 Z A p l s m _ meth c := C0
  have hl : lv_has ls 5 [(0, .ref (q 1)), (1, .int x1), (2, .int x2)] := hl
  unfold f_V_comparedTexts at h
  refine lv_aload_n hx hb d_V_comparedTexts_0 rfl (lv_at hl 0 rfl) ?_
  refine lv_iload_n hx hb d_V_comparedTexts_1 rfl (lv_at hl 1 rfl) ?_
  obtain ⟨r_3, v_1, hc_2, h⟩ := bi_out h
  refine bn_ci (r := r_3) (w := (q, g, v_1)) (as := [.int x1]) (rest := []) C0 hH (ci := 4) ⟨by decide, by decide⟩ (by decide) rfl (c_V_lengthOf hl0 hc_2) yy_V_lengthOf q_383 (by decide) rfl hl.1 rfl (Nat.le_of_ble_eq_true rfl) ⟨Nat.zero_le _, Nat.zero_le _⟩ d_V_comparedTexts_2 (fun H locs hH => ?_)
  refine lv_aload_n hx hb d_V_comparedTexts_5 rfl (lv_at hl 0 rfl) ?_
  refine lv_iload_n hx hb d_V_comparedTexts_6 rfl (lv_at hl 2 rfl) ?_
  obtain ⟨r_6, v_4, hc_5, h⟩ := bi_out h
  refine bn_ci (r := r_6) (w := (q, g, v_4)) (as := [.int x2]) (rest := [.int r_3]) C0 hH (ci := 4) ⟨by decide, by decide⟩ (by decide) rfl (c_V_lengthOf hl0 hc_5) yy_V_lengthOf q_383 (by decide) rfl hl.1 rfl (Nat.le_of_ble_eq_true rfl) ⟨Nat.zero_le _, Nat.zero_le _⟩ d_V_comparedTexts_7 (fun H locs hH => ?_)
  refine va_mmin hx hb (C0.2.2.2.2.2.1.trans hl.1.symm) C0.2.2.1 (C0.2.2.2.1 _ q_535) (C0.2.2.2.1 _ q_400) (C0.2.2.2.1 _ q_115) (C0.2.2.2.1 _ q_401) (Nat.le_of_ble_eq_true rfl) (Nat.le_of_ble_eq_true rfl) (Nat.zero_le _) (Nat.zero_le _) d_V_comparedTexts_10 ?_
  obtain ⟨x3_7, hx3_7, h⟩ := nm_out h
  refine fu_i hx3_7 ?_
  refine lv_istore_n (lv' := [(3, .int x3_7), (0, .ref (q 1)), (1, .int x1), (2, .int x2)]) hx hb d_V_comparedTexts_13 rfl hl (by decide) rfl (fun ls hl => ?_)
  refine lv_iconst (v := 0) hx hb d_V_comparedTexts_14 (by decide) ?_
  refine lv_istore (lv' := [(4, .int 0), (3, .int x3_7), (0, .ref (q 1)), (1, .int x1), (2, .int x2)]) hx hb d_V_comparedTexts_15 hl (by decide) rfl (fun ls hl => ?_)
  exact w_V_comparedTexts_17 C0 hr  fu _ _ _ _ _ _ _ _ h hH (lv_sub hl [2, 3, 4, 1, 0] rfl)
def f_V_millionthsOf (g : Nat → Nat) (v : mS) (x1 : Int32) : Option (Int64 × mS) := bi (f_V_wholeOf g v x1) fun r_3 v_1 => bi (f_V_scaleOf g v_1 x1) fun r_6 v_4 => gd (inB (6 - r_6) 7) (some (((r_3 : Int32).toInt64) * ((pw (6 - r_6 : Int32).toNatClampNeg : Int32).toInt64), v_4))
set_option maxHeartbeats 4000000 in
set_option maxRecDepth 100000 in
theorem c_V_millionthsOf {l : Launch} {Z : bZ} {q g : Nat → Nat} (hl0 : l.stackTraces = false) {v : mS}  {x1 : Int32} {o : Int64 × mS} (h : f_V_millionthsOf g v x1 = some o) : bn_M l Z 1 y_V_millionthsOf b_V_millionthsOf 2 (some .long) [.ref (q 1), .int x1] (q, g, v) (bn_Ql Z o.1 (q, g, o.2)) := by
  refine bn_of hl0 (by decide +kernel) (Nat.le_of_ble_eq_true rfl) ?_
  intro p e s m below meth c A ls C0 hr hl hH
  have hx := C0.1
  have hb := C0.2.1
  have C0 : bn_C "FilterBench$Values" b_V_millionthsOf 2 Z A p l s m _ meth c := C0
  have hl : lv_has ls 2 [(0, .ref (q 1)), (1, .int x1)] := hl
  unfold f_V_millionthsOf at h
  refine lv_aload_n hx hb d_V_millionthsOf_0 rfl (lv_at hl 0 rfl) ?_
  refine lv_iload_n hx hb d_V_millionthsOf_1 rfl (lv_at hl 1 rfl) ?_
  obtain ⟨r_3, v_1, hc_2, h⟩ := bi_out h
  refine bn_ci (r := r_3) (w := (q, g, v_1)) (as := [.int x1]) (rest := []) C0 hH (ci := 4) ⟨by decide, by decide⟩ (by decide) rfl (c_V_wholeOf hl0 hc_2) yy_V_wholeOf q_653 (by decide) rfl hl.1 rfl (Nat.le_of_ble_eq_true rfl) ⟨Nat.zero_le _, Nat.zero_le _⟩ d_V_millionthsOf_2 (fun H locs hH => ?_)
  refine lv_i2l hx hb d_V_millionthsOf_5 rfl ?_
  refine bn_pows C0 hH q_657 d_V_millionthsOf_6 ?_
  refine lv_bipush (v := 6) hx hb d_V_millionthsOf_9 (by decide) ?_
  refine lv_aload_n hx hb d_V_millionthsOf_11 rfl (lv_at hl 0 rfl) ?_
  refine lv_iload_n hx hb d_V_millionthsOf_12 rfl (lv_at hl 1 rfl) ?_
  obtain ⟨r_6, v_4, hc_5, h⟩ := bi_out h
  refine bn_ci (r := r_6) (w := (q, g, v_4)) (as := [.int x1]) (rest := [.int 6, .ref Z.2.2.2.2.2, .long ((r_3 : Int32).toInt64)]) C0 hH (ci := 4) ⟨by decide, by decide⟩ (by decide) rfl (c_V_scaleOf hl0 hc_5) yy_V_scaleOf q_659 (by decide) rfl hl.1 rfl (Nat.le_of_ble_eq_true rfl) ⟨Nat.zero_le _, Nat.zero_le _⟩ d_V_millionthsOf_13 (fun H locs hH => ?_)
  refine lv_isub hx hb d_V_millionthsOf_16 ?_
  obtain ⟨g_7, h⟩ := gd_out h
  refine bn_pow C0 hH (inB_in g_7) d_V_millionthsOf_17 ?_
  refine lv_i2l hx hb d_V_millionthsOf_18 rfl ?_
  refine lv_lmul hx hb d_V_millionthsOf_19 ?_
  exact bn_lret C0 hr hH d_V_millionthsOf_20 (pq h)
def f_J_lcompare_21 (g : Nat → Nat)  (y0 : Int32) (v : mS) : Option (Int32 × mS) := some (y0, v)
set_option maxHeartbeats 4000000 in
set_option maxRecDepth 100000 in
theorem w_J_lcompare_21 {p : Program} {l : Launch} {e : Env} {s : State} {m : MethodId} {args : Array Value} {below : List Frame} {meth : Method} {c : Code} {Z : bZ} {A : Nat → Prop} {q g : Nat → Nat} {o : Int32 × mS}  (C0 : bn_C "java/lang/Long" b_J_lcompare 4 Z A p l s m args meth c) (hr : meth.sig.returnType = (some .int)) : ∀ (y0 : Int32) (v : mS) (H : Heap) (locs : List Loc) (ls : Array Slot), f_J_lcompare_21 g  y0 v = some o → bn_H Z A s (q, g, v) H locs → lv_has ls 4 [] → W p l e (mo_rm 0) s m args below meth c H locs 0 0 (MQ below (bn_Qi Z o.1 (q, g, o.2) A) args s 0 0 A) (F0 m 21 ls [.int y0]) := by
  have hx := C0.1
  have hb := C0.2.1
  have hl0 := C0.2.2.2.2.2.2.2.2.2
  intro y0 v H locs ls h hH hl
  unfold f_J_lcompare_21 at h
  exact bn_iret C0 hr hH d_J_lcompare_21 (pq h)
def f_J_lcompare (g : Nat → Nat) (v : mS) (x0 : Int64) (x2 : Int64) : Option (Int32 × mS) := if 0 ≤ (lg_cmp x0 x2) then (if (lg_cmp x0 x2) = 0 then (f_J_lcompare_21 g 0 v) else (f_J_lcompare_21 g 1 v)) else (f_J_lcompare_21 g (-1) v)
set_option maxHeartbeats 4000000 in
set_option maxRecDepth 100000 in
theorem c_J_lcompare {l : Launch} {Z : bZ} {q g : Nat → Nat} (hl0 : l.stackTraces = false) {v : mS}  {x0 : Int64} {x2 : Int64} {o : Int32 × mS} (h : f_J_lcompare g v x0 x2 = some o) : bn_M l Z 0 y_J_lcompare b_J_lcompare 4 (some .int) [.long x0, .long x2] (q, g, v) (bn_Qi Z o.1 (q, g, o.2)) := by
  refine bn_ofF hl0 (by decide +kernel) (Nat.le_of_ble_eq_true rfl) ?_
  intro p e s m below meth c A ls C0 hr hl hH
  have hx := C0.1
  have hb := C0.2.1
  have C0 : bn_C "java/lang/Long" b_J_lcompare 4 Z A p l s m _ meth c := C0
  have hl : lv_has ls 4 [(0, .long x0), (2, .long x2)] := hl
  unfold f_J_lcompare at h
  refine lv_lload_n hx hb d_J_lcompare_0 rfl (lv_at hl 0 rfl) ?_
  refine lv_lload_n hx hb d_J_lcompare_1 rfl (lv_at hl 1 rfl) ?_
  refine W.lcmp hx hb d_J_lcompare_2 ?_
  refine lv_if_ge (tgt := 10) hx hb d_J_lcompare_3 (by decide) (fun c_1 => ?_) (fun c_1 => ?_)
  · rw [if_pos c_1] at h
    refine lv_lload_n hx hb d_J_lcompare_10 rfl (lv_at hl 0 rfl) ?_
    refine lv_lload_n hx hb d_J_lcompare_11 rfl (lv_at hl 1 rfl) ?_
    refine W.lcmp hx hb d_J_lcompare_12 ?_
    refine lv_if_ne (tgt := 20) hx hb d_J_lcompare_13 (by decide) (fun c_2 => ?_) (fun c_2 => ?_)
    · rw [if_neg c_2] at h
      refine lv_iconst (v := 1) hx hb d_J_lcompare_20 (by decide) ?_
      exact w_J_lcompare_21 C0 hr  _ _ _ _ _ h hH (lv_sub hl [] rfl)
    · rw [if_pos c_2] at h
      refine lv_iconst (v := 0) hx hb d_J_lcompare_16 (by decide) ?_
      refine lv_goto (tgt := 21) hx hb d_J_lcompare_17 (by decide) ?_
      exact w_J_lcompare_21 C0 hr  _ _ _ _ _ h hH (lv_sub hl [] rfl)
  · rw [if_neg c_1] at h
    refine lv_iconst (v := (-1)) hx hb d_J_lcompare_6 (by decide) ?_
    refine lv_goto (tgt := 21) hx hb d_J_lcompare_7 (by decide) ?_
    exact w_J_lcompare_21 C0 hr  _ _ _ _ _ h hH (lv_sub hl [] rfl)
def f_V_comparedParts_18 (Kr : (Nat → Nat) → mS → Int32 → Int32 → Option (Int32 × mS)) (g : Nat → Nat)  : Nat → Int32 → Int32 → Int32 → Int32 → Int32 → Int32 → mS → Option (Int32 × mS)
  | 0, _, _, _, _, _, _, _ => none
  | n + 1, x1, x2, x3, x4, x5, x6, v => if x5 ≤ x6 then (bi (f_V_lengthOf g v x1) fun r_4 v_2 => bi (f_V_lengthOf g v_2 x2) fun r_7 v_5 => bi (f_J_icompare g v_5 r_4 r_7) fun r_10 v_8 => some (r_10, v_8)) else (bi (f_V_itemAt g v x1 (x3 + x6)) fun r_13 v_11 => bi (f_V_itemAt g v_11 x2 (x4 + x6)) fun r_16 v_14 => bi (Kr g v_14 r_13 r_16) fun r_19 v_17 => if r_19 = 0 then (nm (x6 + 1) fun x6_21 => f_V_comparedParts_18 Kr g n x1 x2 x3 x4 x5 x6_21 v_17) else (some (r_19, v_17)))
set_option maxHeartbeats 4000000 in
set_option maxRecDepth 100000 in
theorem w_V_comparedParts_18 {p : Program} {l : Launch} {e : Env} {s : State} {m : MethodId} {args : Array Value} {below : List Frame} {meth : Method} {c : Code} {Z : bZ} {A : Nat → Prop} {q g : Nat → Nat} {o : Int32 × mS} {rB : Nat} {Kr : (Nat → Nat) → mS → Int32 → Int32 → Option (Int32 × mS)} (hKr : ∀ {v : mS} {z1 : Int32} {z2 : Int32} {o : Int32 × mS}, Kr g v z1 z2 = some o → bn_M l Z rB y_V_compared b_V_compared 4 (some .int) [.ref (q 1), .int z1, .int z2] (q, g, v) (bn_Qi Z o.1 (q, g, o.2))) (C0 : bn_C "FilterBench$Values" b_V_comparedParts 8 Z A p l s m args meth c) (hr : meth.sig.returnType = (some .int)) : ∀ (n : Nat) (x1 : Int32) (x2 : Int32) (x3 : Int32) (x4 : Int32) (x5 : Int32) (x6 : Int32) (v : mS) (H : Heap) (locs : List Loc) (ls : Array Slot), f_V_comparedParts_18 Kr g  n x1 x2 x3 x4 x5 x6 v = some o → bn_H Z A s (q, g, v) H locs → lv_has ls 8 [(0, .ref (q 1)), (1, .int x1), (2, .int x2), (3, .int x3), (4, .int x4), (5, .int x5), (6, .int x6)] → W p l e (mo_rm (rB + 2)) s m args below meth c H locs 0 0 (MQ below (bn_Qi Z o.1 (q, g, o.2) A) args s 0 0 A) (F0 m 18 ls []) := by
  have hx := C0.1
  have hb := C0.2.1
  have hl0 := C0.2.2.2.2.2.2.2.2.2
  intro n
  induction n with
  | zero =>
    intro x1 x2 x3 x4 x5 x6 v H locs ls h hH hl
    cases h
  | succ n ih =>
    intro x1 x2 x3 x4 x5 x6 v H locs ls h hH hl
    rw [f_V_comparedParts_18] at h
    refine lv_iload hx hb d_V_comparedParts_18 (lv_at hl 6 rfl) ?_
    refine lv_iload hx hb d_V_comparedParts_20 (lv_at hl 5 rfl) ?_
    refine lv_icmp_ge (tgt := 64) hx hb d_V_comparedParts_22 (by decide) (fun c_1 => ?_) (fun c_1 => ?_)
    · rw [if_pos c_1] at h
      refine lv_aload_n hx hb d_V_comparedParts_64 rfl (lv_at hl 0 rfl) ?_
      refine lv_iload_n hx hb d_V_comparedParts_65 rfl (lv_at hl 1 rfl) ?_
      obtain ⟨r_4, v_2, hc_3, h⟩ := bi_out h
      refine bn_ci (r := r_4) (w := (q, g, v_2)) (as := [.int x1]) (rest := []) C0 hH (ci := 4) ⟨by decide, by decide⟩ (by decide) rfl (c_V_lengthOf hl0 hc_3) yy_V_lengthOf q_383 ⟨by simp only [mo_rm]; omega, by simp only [mo_rm]; omega⟩ rfl hl.1 rfl (Nat.le_of_ble_eq_true rfl) ⟨Nat.zero_le _, Nat.zero_le _⟩ d_V_comparedParts_66 (fun H locs hH => ?_)
      refine lv_aload_n hx hb d_V_comparedParts_69 rfl (lv_at hl 0 rfl) ?_
      refine lv_iload_n hx hb d_V_comparedParts_70 rfl (lv_at hl 2 rfl) ?_
      obtain ⟨r_7, v_5, hc_6, h⟩ := bi_out h
      refine bn_ci (r := r_7) (w := (q, g, v_5)) (as := [.int x2]) (rest := [.int r_4]) C0 hH (ci := 4) ⟨by decide, by decide⟩ (by decide) rfl (c_V_lengthOf hl0 hc_6) yy_V_lengthOf q_383 ⟨by simp only [mo_rm]; omega, by simp only [mo_rm]; omega⟩ rfl hl.1 rfl (Nat.le_of_ble_eq_true rfl) ⟨Nat.zero_le _, Nat.zero_le _⟩ d_V_comparedParts_71 (fun H locs hH => ?_)
      obtain ⟨r_10, v_8, hc_9, h⟩ := bi_out h
      refine bn_si (r := r_10) (w := (q, g, v_8)) (as := [.int r_4, .int r_7]) (rest := []) C0 hH (c_J_icompare hl0 hc_9) yy_J_icompare q_540 ⟨by simp only [mo_rm]; omega, by simp only [mo_rm]; omega⟩ rfl hl.1 rfl (Nat.le_of_ble_eq_true rfl) ⟨Nat.zero_le _, Nat.zero_le _⟩ d_V_comparedParts_74 (fun H locs hH => ?_)
      exact bn_iret C0 hr hH d_V_comparedParts_77 (pq h)
    · rw [if_neg c_1] at h
      refine lv_aload_n hx hb d_V_comparedParts_25 rfl (lv_at hl 0 rfl) ?_
      refine lv_aload_n hx hb d_V_comparedParts_26 rfl (lv_at hl 0 rfl) ?_
      refine lv_iload_n hx hb d_V_comparedParts_27 rfl (lv_at hl 1 rfl) ?_
      refine lv_iload_n hx hb d_V_comparedParts_28 rfl (lv_at hl 3 rfl) ?_
      refine lv_iload hx hb d_V_comparedParts_29 (lv_at hl 6 rfl) ?_
      refine lv_iadd hx hb d_V_comparedParts_31 ?_
      obtain ⟨r_13, v_11, hc_12, h⟩ := bi_out h
      refine bn_ci (r := r_13) (w := (q, g, v_11)) (as := [.int x1, .int (x3 + x6)]) (rest := [.ref (q 1)]) C0 hH (ci := 4) ⟨by decide, by decide⟩ (by decide) rfl (c_V_itemAt hl0 hc_12) yy_V_itemAt q_543 ⟨by simp only [mo_rm]; omega, by simp only [mo_rm]; omega⟩ rfl hl.1 rfl (Nat.le_of_ble_eq_true rfl) ⟨Nat.zero_le _, Nat.zero_le _⟩ d_V_comparedParts_32 (fun H locs hH => ?_)
      refine lv_aload_n hx hb d_V_comparedParts_35 rfl (lv_at hl 0 rfl) ?_
      refine lv_iload_n hx hb d_V_comparedParts_36 rfl (lv_at hl 2 rfl) ?_
      refine lv_iload hx hb d_V_comparedParts_37 (lv_at hl 4 rfl) ?_
      refine lv_iload hx hb d_V_comparedParts_39 (lv_at hl 6 rfl) ?_
      refine lv_iadd hx hb d_V_comparedParts_41 ?_
      obtain ⟨r_16, v_14, hc_15, h⟩ := bi_out h
      refine bn_ci (r := r_16) (w := (q, g, v_14)) (as := [.int x2, .int (x4 + x6)]) (rest := [.int r_13, .ref (q 1)]) C0 hH (ci := 4) ⟨by decide, by decide⟩ (by decide) rfl (c_V_itemAt hl0 hc_15) yy_V_itemAt q_543 ⟨by simp only [mo_rm]; omega, by simp only [mo_rm]; omega⟩ rfl hl.1 rfl (Nat.le_of_ble_eq_true rfl) ⟨Nat.zero_le _, Nat.zero_le _⟩ d_V_comparedParts_42 (fun H locs hH => ?_)
      obtain ⟨r_19, v_17, hc_18, h⟩ := bi_out h
      refine bn_ci (r := r_19) (w := (q, g, v_17)) (as := [.int r_13, .int r_16]) (rest := []) C0 hH (ci := 4) ⟨by decide, by decide⟩ (by decide) rfl (hKr hc_18) yy_V_compared q_670 ⟨by simp only [mo_rm]; omega, by simp only [mo_rm]; omega⟩ rfl hl.1 rfl (Nat.le_of_ble_eq_true rfl) ⟨Nat.zero_le _, Nat.zero_le _⟩ d_V_comparedParts_45 (fun H locs hH => ?_)
      refine lv_istore (lv' := [(7, .int r_19), (0, .ref (q 1)), (1, .int x1), (2, .int x2), (3, .int x3), (4, .int x4), (5, .int x5), (6, .int x6)]) hx hb d_V_comparedParts_48 hl (by decide) rfl (fun ls hl => ?_)
      refine lv_iload hx hb d_V_comparedParts_50 (lv_at hl 0 rfl) ?_
      refine lv_if_eq (tgt := 58) hx hb d_V_comparedParts_52 (by decide) (fun c_20 => ?_) (fun c_20 => ?_)
      · rw [if_pos c_20] at h
        obtain ⟨x6_21, hx6_21, h⟩ := nm_out h
        refine lv_iinc (v := x6_21) (lv' := [(6, .int x6_21), (7, .int r_19), (0, .ref (q 1)), (1, .int x1), (2, .int x2), (3, .int x3), (4, .int x4), (5, .int x5)]) hx hb d_V_comparedParts_58 hl (k := 7) rfl (by rw [hx6_21]; rfl) (by decide) rfl (fun ls hl => ?_)
        refine lv_goto (tgt := 18) hx hb d_V_comparedParts_61 (by decide) ?_
        exact ih _ _ _ _ _ _ _ _ _ _ h hH (lv_sub hl [2, 3, 4, 5, 6, 7, 0] rfl)
      · rw [if_neg c_20] at h
        refine lv_iload hx hb d_V_comparedParts_55 (lv_at hl 0 rfl) ?_
        exact bn_iret C0 hr hH d_V_comparedParts_57 (pq h)
def f_V_comparedParts (Kr : (Nat → Nat) → mS → Int32 → Int32 → Option (Int32 × mS)) (g : Nat → Nat) (v : mS) (x1 : Int32) (x2 : Int32) (x3 : Int32) (x4 : Int32) : Option (Int32 × mS) := bi (f_V_lengthOf g v x1) fun r_3 v_1 => bi (f_V_lengthOf g v_1 x2) fun r_6 v_4 => nm (if r_6 < r_3 then r_6 else r_3) fun x5_7 => f_V_comparedParts_18 Kr g fu x1 x2 x3 x4 x5_7 0 v_4
set_option maxHeartbeats 4000000 in
set_option maxRecDepth 100000 in
theorem c_V_comparedParts {l : Launch} {Z : bZ} {q g : Nat → Nat} {rB : Nat} {Kr : (Nat → Nat) → mS → Int32 → Int32 → Option (Int32 × mS)} (hKr : ∀ {v : mS} {z1 : Int32} {z2 : Int32} {o : Int32 × mS}, Kr g v z1 z2 = some o → bn_M l Z rB y_V_compared b_V_compared 4 (some .int) [.ref (q 1), .int z1, .int z2] (q, g, v) (bn_Qi Z o.1 (q, g, o.2))) (hl0 : l.stackTraces = false) {v : mS}  {x1 : Int32} {x2 : Int32} {x3 : Int32} {x4 : Int32} {o : Int32 × mS} (h : f_V_comparedParts Kr g v x1 x2 x3 x4 = some o) : bn_M l Z (rB + 2) y_V_comparedParts b_V_comparedParts 8 (some .int) [.ref (q 1), .int x1, .int x2, .int x3, .int x4] (q, g, v) (bn_Qi Z o.1 (q, g, o.2)) := by
  refine bn_of hl0 (by decide +kernel) (Nat.le_of_ble_eq_true rfl) ?_
  intro p e s m below meth c A ls C0 hr hl hH
  have hx := C0.1
  have hb := C0.2.1
  have C0 : bn_C "FilterBench$Values" b_V_comparedParts 8 Z A p l s m _ meth c := C0
  have hl : lv_has ls 8 [(0, .ref (q 1)), (1, .int x1), (2, .int x2), (3, .int x3), (4, .int x4)] := hl
  unfold f_V_comparedParts at h
  refine lv_aload_n hx hb d_V_comparedParts_0 rfl (lv_at hl 0 rfl) ?_
  refine lv_iload_n hx hb d_V_comparedParts_1 rfl (lv_at hl 1 rfl) ?_
  obtain ⟨r_3, v_1, hc_2, h⟩ := bi_out h
  refine bn_ci (r := r_3) (w := (q, g, v_1)) (as := [.int x1]) (rest := []) C0 hH (ci := 4) ⟨by decide, by decide⟩ (by decide) rfl (c_V_lengthOf hl0 hc_2) yy_V_lengthOf q_383 ⟨by simp only [mo_rm]; omega, by simp only [mo_rm]; omega⟩ rfl hl.1 rfl (Nat.le_of_ble_eq_true rfl) ⟨Nat.zero_le _, Nat.zero_le _⟩ d_V_comparedParts_2 (fun H locs hH => ?_)
  refine lv_aload_n hx hb d_V_comparedParts_5 rfl (lv_at hl 0 rfl) ?_
  refine lv_iload_n hx hb d_V_comparedParts_6 rfl (lv_at hl 2 rfl) ?_
  obtain ⟨r_6, v_4, hc_5, h⟩ := bi_out h
  refine bn_ci (r := r_6) (w := (q, g, v_4)) (as := [.int x2]) (rest := [.int r_3]) C0 hH (ci := 4) ⟨by decide, by decide⟩ (by decide) rfl (c_V_lengthOf hl0 hc_5) yy_V_lengthOf q_383 ⟨by simp only [mo_rm]; omega, by simp only [mo_rm]; omega⟩ rfl hl.1 rfl (Nat.le_of_ble_eq_true rfl) ⟨Nat.zero_le _, Nat.zero_le _⟩ d_V_comparedParts_7 (fun H locs hH => ?_)
  refine va_mmin hx hb (C0.2.2.2.2.2.1.trans hl.1.symm) C0.2.2.1 (C0.2.2.2.1 _ q_535) (C0.2.2.2.1 _ q_400) (C0.2.2.2.1 _ q_115) (C0.2.2.2.1 _ q_401) (Nat.le_of_ble_eq_true rfl) (Nat.le_of_ble_eq_true rfl) (Nat.zero_le _) (Nat.zero_le _) d_V_comparedParts_10 ?_
  obtain ⟨x5_7, hx5_7, h⟩ := nm_out h
  refine fu_i hx5_7 ?_
  refine lv_istore (lv' := [(5, .int x5_7), (0, .ref (q 1)), (1, .int x1), (2, .int x2), (3, .int x3), (4, .int x4)]) hx hb d_V_comparedParts_13 hl (by decide) rfl (fun ls hl => ?_)
  refine lv_iconst (v := 0) hx hb d_V_comparedParts_15 (by decide) ?_
  refine lv_istore (lv' := [(6, .int 0), (5, .int x5_7), (0, .ref (q 1)), (1, .int x1), (2, .int x2), (3, .int x3), (4, .int x4)]) hx hb d_V_comparedParts_16 hl (by decide) rfl (fun ls hl => ?_)
  exact w_V_comparedParts_18 hKr C0 hr  fu _ _ _ _ _ _ _ _ _ _ h hH (lv_sub hl [2, 3, 4, 5, 6, 1, 0] rfl)
