/-! methods of the class that may throw or make (by program: wip/gen/xgen.py) -/
def f_B_requirePart_9  (x1 : Int32) (x2 : Int32) (g : Nat → Nat) (v : mS) : Option (bO Unit) := gd (inB x1 8) (bi (f_V_sizeOf g v (v 6 (x1 : Int32).toNatClampNeg)) fun r_4 v_2 => bi (f_B_isBelow g v_2 x2 r_4) fun r_7 v_5 => if r_7 = 0 then (some (.inr 1, g, v_5)) else (some (.inl (), g, v_5)))
set_option maxHeartbeats 4000000 in
set_option maxRecDepth 100000 in
theorem w_B_requirePart_9 {p : Program} {l : Launch} {e : Env} {s : State} {m : MethodId} {args : Array Value} {below : List Frame} {meth : Method} {c : Code} {Z : bZ} {A : Nat → Prop} {q0 g0 : Nat → Nat} {o : bO Unit}  (C0 : bn_C "FilterBench" b_B_requirePart 3 Z A p l s m args meth c) (hr : meth.sig.returnType = none) (hnx : ∀ x ∈ c.exceptionTable.toList, False) : ∀ (x1 : Int32) (x2 : Int32) (g : Nat → Nat) (v : mS) (q : Nat → Nat) (H : Heap) (locs : List Loc) (ls : Array Slot), f_B_requirePart_9  x1 x2 g v = some o → qs q0 q → gL g0 ≤ gL g → gL g ≤ gL o.2.1 → bn_H Z A s (q, g, v) H locs → lv_has ls 3 [(0, .ref (q 0)), (1, .int x1), (2, .int x2)] → bx_W p l e s m args below meth c Z A q0 g0 enV o 7 g H locs (F0 m 9 ls []) := by
  have hx := C0.1
  have hb := C0.2.1
  have hl0 := C0.2.2.2.2.2.2.2.2.2
  intro x1 x2 g v q H locs ls h hq hm0 hm hH hl
  unfold f_B_requirePart_9 at h
  have hcl9 := bx_room (h0 := 7) (o := o) hm0 hm
  refine lv_iload_n hx hb d_B_requirePart_9 rfl (lv_at hl 2 rfl) ?_
  refine lv_aload_n hx hb d_B_requirePart_10 rfl (lv_at hl 0 rfl) ?_
  refine bn_g_B_values ⟨by decide, by decide⟩ C0 hH d_B_requirePart_11 ?_
  refine lv_aload_n hx hb d_B_requirePart_14 rfl (lv_at hl 0 rfl) ?_
  refine bn_g_B_slots ⟨by decide, by decide⟩ C0 hH d_B_requirePart_15 ?_
  refine lv_iload_n hx hb d_B_requirePart_18 rfl (lv_at hl 1 rfl) ?_
  obtain ⟨g_1, h⟩ := gd_out h
  refine bn_ld ⟨by decide, by decide⟩ C0 hH (inB_in g_1) d_B_requirePart_19 ?_
  obtain ⟨r_4, v_2, hc_3, h⟩ := bi_out h
  refine bn_ci (r := r_4) (w := (q, g, v_2)) (as := [.int (v 6 (x1 : Int32).toNatClampNeg)]) (rest := [.int x2]) C0 hH (ci := 4) ⟨by decide, by decide⟩ (by decide) rfl (c_V_sizeOf hl0 hc_3) yy_V_sizeOf q_850 ⟨by simp only [bn_rm, dK]; omega, by simp only [bn_rm, dK]; omega⟩ rfl hl.1 rfl (Nat.le_of_ble_eq_true rfl) hcl9 d_B_requirePart_20 (fun H locs hH => ?_)
  obtain ⟨r_7, v_5, hc_6, h⟩ := bi_out h
  refine bn_si (r := r_7) (w := (q, g, v_5)) (as := [.int x2, .int r_4]) (rest := []) C0 hH (c_B_isBelow hl0 hc_6) yy_B_isBelow q_284 ⟨by simp only [bn_rm, dK]; omega, by simp only [bn_rm, dK]; omega⟩ rfl hl.1 rfl (Nat.le_of_ble_eq_true rfl) hcl9 d_B_requirePart_23 (fun H locs hH => ?_)
  refine lv_if_ne (tgt := 39) hx hb d_B_requirePart_26 (by decide) (fun c_8 => ?_) (fun c_8 => ?_)
  · rw [if_neg c_8] at h
    exact bx_vret C0 hr hq hH hm0 d_B_requirePart_39 h
  · rw [if_pos c_8] at h
    exact bx_throwN (i := 11) (rest := []) C0 hnx hq hH hm0 rfl hl.1 d_B_requirePart_29 d_B_requirePart_32 d_B_requirePart_33 d_B_requirePart_35 d_B_requirePart_38 (Nat.le_of_ble_eq_true rfl) (Nat.le_of_ble_eq_true rfl) h
def f_B_requirePart (g : Nat → Nat) (v : mS) (x1 : Int32) (x2 : Int32) : Option (bO Unit) := mg g (bi (f_B_isBelow g v x1 8) fun r_3 v_1 => bo (f_B_require g v_1 r_3) fun r9 g9 v9 => f_B_requirePart_9 x1 x2 g9 v9)
theorem mn_B_requirePart {g : Nat → Nat} {v : mS}  {x1 : Int32} {x2 : Int32} {o : bO Unit} (h : f_B_requirePart g v x1 x2 = some o) : gL g ≤ gL o.2.1 := (mg_out h).1
set_option maxHeartbeats 4000000 in
set_option maxRecDepth 100000 in
theorem c_B_requirePart {l : Launch} {Z : bZ} (hl0 : l.stackTraces = false) {q g : Nat → Nat} {v : mS}  {x1 : Int32} {x2 : Int32} {o : bO Unit} (h : f_B_requirePart g v x1 x2 = some o) : bx_M l Z 7 y_B_requirePart b_B_requirePart 3 none [.ref (q 0), .int x1, .int x2] q g v enV o := by
  refine bx_of hl0 (by decide +kernel) (Nat.le_of_ble_eq_true rfl) ?_
  intro p e s m args below meth c A ls C0 hr hnx hl hH
  have hx := C0.1
  have hb := C0.2.1
  have C0 : bn_C "FilterBench" b_B_requirePart 3 Z A p l s m args meth c := C0
  have hl : lv_has ls 3 [(0, .ref (q 0)), (1, .int x1), (2, .int x2)] := hl
  obtain ⟨hm, h⟩ := mg_out h
  have hm0 : gL g ≤ gL g := Nat.le_refl _
  have hq : qs q q := qs.rf
  have hcl9 := bx_room (h0 := 7) (o := o) hm0 hm
  refine lv_iload_n hx hb d_B_requirePart_0 rfl (lv_at hl 1 rfl) ?_
  refine lv_bipush (v := 8) hx hb d_B_requirePart_1 (by decide) ?_
  obtain ⟨r_3, v_1, hc_2, h⟩ := bi_out h
  refine bn_si (r := r_3) (w := (q, g, v_1)) (as := [.int x1, .int 8]) (rest := []) C0 hH (c_B_isBelow hl0 hc_2) yy_B_isBelow q_284 ⟨by simp only [bn_rm, dK]; omega, by simp only [bn_rm, dK]; omega⟩ rfl hl.1 rfl (Nat.le_of_ble_eq_true rfl) hcl9 d_B_requirePart_3 (fun H locs hH => ?_)
  obtain ⟨o1, hc, hm2, ht9, hx1, hk9⟩ := bo_out h
  have hm1 := mn_B_require hc
  refine bx_cS (as := [.int r_3]) (rest := []) C0 hnx hq hH hm0 hm1 hm2 ht9 (c_B_require hl0 hc) yy_B_require q_287 ⟨by first | omega | (simp only [dK]; omega), by first | omega | (simp only [dK]; omega)⟩ rfl hl.1 rfl (Nat.le_of_ble_eq_true rfl) d_B_requirePart_6 hx1 (fun r9 q1 H locs hr1 hq0 hq1 hm9 hH => ?_)
  have h := hk9 r9 hr1
  have e9 : q1 0 = q 0 := (hq1 0 (by decide) (by decide))
  try rw [← e9] at hl
  try rw [← e9]
  exact w_B_requirePart_9 C0 hr hnx  _ _ _ _ _ _ _ _ h hq0 hm9 hm2 hH (lv_sub hl [0, 1, 2] rfl)
def f_B_forgetLastRun_55 (K31 : Int32 → (Nat → Nat) → mS → Option (bO Unit)) (x1 : Int32) (y1 : Int32) (y2 : Int32) (g : Nat → Nat) (v : mS) : Option (bO Unit) := gd (inB y1 8) (nm (sU v 6 (y1 : Int32).toNatClampNeg y2) fun v_2 => nm (x1 + 1) fun x1_3 => K31 x1_3 g v_2)
set_option maxHeartbeats 4000000 in
set_option maxRecDepth 100000 in
theorem w_B_forgetLastRun_55 {p : Program} {l : Launch} {e : Env} {s : State} {m : MethodId} {args : Array Value} {below : List Frame} {meth : Method} {c : Code} {Z : bZ} {A : Nat → Prop} {q0 g0 : Nat → Nat} {o : bO Unit}  (C0 : bn_C "FilterBench" b_B_forgetLastRun 2 Z A p l s m args meth c) (hr : meth.sig.returnType = none) (hnx : ∀ x ∈ c.exceptionTable.toList, False) {K31 : Int32 → (Nat → Nat) → mS → Option (bO Unit)} (hK31 : ∀ (x1 : Int32) (g : Nat → Nat) (v : mS) (q : Nat → Nat) (H : Heap) (locs : List Loc) (ls : Array Slot), K31 x1 g v = some o → qs q0 q → gL g0 ≤ gL g → gL g ≤ gL o.2.1 → bn_H Z A s (q, g, v) H locs → lv_has ls 2 [(0, .ref (q 0)), (1, .int x1)] → bx_W p l e s m args below meth c Z A q0 g0 enV o 81 g H locs (F0 m 31 ls [])) : ∀ (x1 : Int32) (y1 : Int32) (y2 : Int32) (g : Nat → Nat) (v : mS) (q : Nat → Nat) (H : Heap) (locs : List Loc) (ls : Array Slot), f_B_forgetLastRun_55 K31 x1 y1 y2 g v = some o → qs q0 q → gL g0 ≤ gL g → gL g ≤ gL o.2.1 → bn_H Z A s (q, g, v) H locs → lv_has ls 2 [(0, .ref (q 0)), (1, .int x1)] → bx_W p l e s m args below meth c Z A q0 g0 enV o 81 g H locs (F0 m 55 ls [.int y2, .int y1, .ref (q 6)]) := by
  have hx := C0.1
  have hb := C0.2.1
  have hl0 := C0.2.2.2.2.2.2.2.2.2
  intro x1 y1 y2 g v q H locs ls h hq hm0 hm hH hl
  unfold f_B_forgetLastRun_55 at h
  have hcl9 := bx_room (h0 := 81) (o := o) hm0 hm
  obtain ⟨g_1, h⟩ := gd_out h
  obtain ⟨v_2, hv_2, h⟩ := nm_out h
  refine bn_sto ⟨by decide, by decide⟩ C0 hH (inB_in g_1) d_B_forgetLastRun_55 (fun H locs hH => ?_)
  have hH : bn_H Z A s (q, g, v_2) H locs := by rw [hv_2]; exact hH
  obtain ⟨x1_3, hx1_3, h⟩ := nm_out h
  refine lv_iinc (v := x1_3) (lv' := [(1, .int x1_3), (0, .ref (q 0))]) hx hb d_B_forgetLastRun_56 hl (k := 1) rfl (by rw [hx1_3]; rfl) (by decide) rfl (fun ls hl => ?_)
  refine lv_goto (tgt := 31) hx hb d_B_forgetLastRun_59 (by decide) ?_
  exact hK31 _ _ _ _ _ _ _ h hq hm0 hm hH (lv_sub hl [1, 0] rfl)
def f_B_forgetLastRun_88 (K64 : Int32 → (Nat → Nat) → mS → Option (bO Unit)) (x1 : Int32) (y1 : Int32) (y2 : Int32) (g : Nat → Nat) (v : mS) : Option (bO Unit) := gd (inB y1 8) (nm (sU v 7 (y1 : Int32).toNatClampNeg y2) fun v_2 => nm (x1 + 1) fun x1_3 => K64 x1_3 g v_2)
set_option maxHeartbeats 4000000 in
set_option maxRecDepth 100000 in
theorem w_B_forgetLastRun_88 {p : Program} {l : Launch} {e : Env} {s : State} {m : MethodId} {args : Array Value} {below : List Frame} {meth : Method} {c : Code} {Z : bZ} {A : Nat → Prop} {q0 g0 : Nat → Nat} {o : bO Unit}  (C0 : bn_C "FilterBench" b_B_forgetLastRun 2 Z A p l s m args meth c) (hr : meth.sig.returnType = none) (hnx : ∀ x ∈ c.exceptionTable.toList, False) {K64 : Int32 → (Nat → Nat) → mS → Option (bO Unit)} (hK64 : ∀ (x1 : Int32) (g : Nat → Nat) (v : mS) (q : Nat → Nat) (H : Heap) (locs : List Loc) (ls : Array Slot), K64 x1 g v = some o → qs q0 q → gL g0 ≤ gL g → gL g ≤ gL o.2.1 → bn_H Z A s (q, g, v) H locs → lv_has ls 2 [(0, .ref (q 0)), (1, .int x1)] → bx_W p l e s m args below meth c Z A q0 g0 enV o 81 g H locs (F0 m 64 ls [])) : ∀ (x1 : Int32) (y1 : Int32) (y2 : Int32) (g : Nat → Nat) (v : mS) (q : Nat → Nat) (H : Heap) (locs : List Loc) (ls : Array Slot), f_B_forgetLastRun_88 K64 x1 y1 y2 g v = some o → qs q0 q → gL g0 ≤ gL g → gL g ≤ gL o.2.1 → bn_H Z A s (q, g, v) H locs → lv_has ls 2 [(0, .ref (q 0)), (1, .int x1)] → bx_W p l e s m args below meth c Z A q0 g0 enV o 81 g H locs (F0 m 88 ls [.int y2, .int y1, .ref (q 7)]) := by
  have hx := C0.1
  have hb := C0.2.1
  have hl0 := C0.2.2.2.2.2.2.2.2.2
  intro x1 y1 y2 g v q H locs ls h hq hm0 hm hH hl
  unfold f_B_forgetLastRun_88 at h
  have hcl9 := bx_room (h0 := 81) (o := o) hm0 hm
  obtain ⟨g_1, h⟩ := gd_out h
  obtain ⟨v_2, hv_2, h⟩ := nm_out h
  refine bn_sto ⟨by decide, by decide⟩ C0 hH (inB_in g_1) d_B_forgetLastRun_88 (fun H locs hH => ?_)
  have hH : bn_H Z A s (q, g, v_2) H locs := by rw [hv_2]; exact hH
  obtain ⟨x1_3, hx1_3, h⟩ := nm_out h
  refine lv_iinc (v := x1_3) (lv' := [(1, .int x1_3), (0, .ref (q 0))]) hx hb d_B_forgetLastRun_89 hl (k := 1) rfl (by rw [hx1_3]; rfl) (by decide) rfl (fun ls hl => ?_)
  refine lv_goto (tgt := 64) hx hb d_B_forgetLastRun_92 (by decide) ?_
  exact hK64 _ _ _ _ _ _ _ h hq hm0 hm hH (lv_sub hl [1, 0] rfl)
def f_B_forgetLastRun_64  : Nat → Int32 → (Nat → Nat) → mS → Option (bO Unit)
  | 0, _, _, _ => none
  | n + 1, x1, g, v => if 8 ≤ x1 then (some (.inl (), g, v)) else (gd (inB x1 8) (bo (f_V_moved dK g v (v 7 (x1 : Int32).toNatClampNeg)) fun r9 g9 v9 => f_B_forgetLastRun_88 (f_B_forgetLastRun_64 n) x1 x1 r9 g9 v9))
set_option maxHeartbeats 4000000 in
set_option maxRecDepth 100000 in
theorem w_B_forgetLastRun_64 {p : Program} {l : Launch} {e : Env} {s : State} {m : MethodId} {args : Array Value} {below : List Frame} {meth : Method} {c : Code} {Z : bZ} {A : Nat → Prop} {q0 g0 : Nat → Nat} {o : bO Unit}  (C0 : bn_C "FilterBench" b_B_forgetLastRun 2 Z A p l s m args meth c) (hr : meth.sig.returnType = none) (hnx : ∀ x ∈ c.exceptionTable.toList, False) : ∀ (n : Nat) (x1 : Int32) (g : Nat → Nat) (v : mS) (q : Nat → Nat) (H : Heap) (locs : List Loc) (ls : Array Slot), f_B_forgetLastRun_64  n x1 g v = some o → qs q0 q → gL g0 ≤ gL g → gL g ≤ gL o.2.1 → bn_H Z A s (q, g, v) H locs → lv_has ls 2 [(0, .ref (q 0)), (1, .int x1)] → bx_W p l e s m args below meth c Z A q0 g0 enV o 81 g H locs (F0 m 64 ls []) := by
  have hx := C0.1
  have hb := C0.2.1
  have hl0 := C0.2.2.2.2.2.2.2.2.2
  intro n
  induction n with
  | zero =>
    intro x1 g v q H locs ls h hq hm0 hm hH hl
    cases h
  | succ n ih =>
    intro x1 g v q H locs ls h hq hm0 hm hH hl
    rw [f_B_forgetLastRun_64] at h
    have hcl9 := bx_room (h0 := 81) (o := o) hm0 hm
    refine lv_iload_n hx hb d_B_forgetLastRun_64 rfl (lv_at hl 1 rfl) ?_
    refine lv_bipush (v := 8) hx hb d_B_forgetLastRun_65 (by decide) ?_
    refine lv_icmp_ge (tgt := 95) hx hb d_B_forgetLastRun_67 (by decide) (fun c_1 => ?_) (fun c_1 => ?_)
    · rw [if_pos c_1] at h
      exact bx_vret C0 hr hq hH hm0 d_B_forgetLastRun_95 h
    · rw [if_neg c_1] at h
      refine lv_aload_n hx hb d_B_forgetLastRun_70 rfl (lv_at hl 0 rfl) ?_
      refine bn_g_B_strings ⟨by decide, by decide⟩ C0 hH d_B_forgetLastRun_71 ?_
      refine lv_iload_n hx hb d_B_forgetLastRun_74 rfl (lv_at hl 1 rfl) ?_
      refine lv_aload_n hx hb d_B_forgetLastRun_75 rfl (lv_at hl 0 rfl) ?_
      refine bn_g_B_values ⟨by decide, by decide⟩ C0 hH d_B_forgetLastRun_76 ?_
      refine lv_aload_n hx hb d_B_forgetLastRun_79 rfl (lv_at hl 0 rfl) ?_
      refine bn_g_B_strings ⟨by decide, by decide⟩ C0 hH d_B_forgetLastRun_80 ?_
      refine lv_iload_n hx hb d_B_forgetLastRun_83 rfl (lv_at hl 1 rfl) ?_
      obtain ⟨g_2, h⟩ := gd_out h
      refine bn_ld ⟨by decide, by decide⟩ C0 hH (inB_in g_2) d_B_forgetLastRun_84 ?_
      obtain ⟨o1, hc, hm2, ht9, hx1, hk9⟩ := bo_out h
      have hm1 := mn_V_moved hc
      refine bx_cN (as := [.int (v 7 (x1 : Int32).toNatClampNeg)]) (rest := [.int x1, .ref (q 7)]) C0 hnx hq hH hm0 hm1 hm2 ht9 (ci := 4) ⟨by decide, by decide⟩ (by decide) rfl (c_V_movedn hl0 dK hc) yy_V_moved (C0.2.2.2.2.2.2.2.2.1.2.2.2.2.2.2.1 _ (List.mem_of_getElem? (i := 4) rfl)) ⟨by first | omega | (simp only [dK]; omega), by first | omega | (simp only [dK]; omega)⟩ rfl hl.1 rfl (Nat.le_of_ble_eq_true rfl) d_B_forgetLastRun_85 hx1 (fun r9 q1 H locs hr1 hq0 hq1 hm9 hH => ?_)
      have h := hk9 r9 hr1
      have e9 : q1 0 = q 0 := (hq1 0 (by decide) (by decide))
      try rw [← e9] at hl
      try rw [← e9]
      have e9 : q1 7 = q 7 := (hq1 7 (by decide) (by decide))
      try rw [← e9] at hl
      try rw [← e9]
      exact w_B_forgetLastRun_88 C0 hr hnx ih _ _ _ _ _ _ _ _ _ h hq0 hm9 hm2 hH (lv_sub hl [0, 1] rfl)
def f_B_forgetLastRun_31  : Nat → Int32 → (Nat → Nat) → mS → Option (bO Unit)
  | 0, _, _, _ => none
  | n + 1, x1, g, v => if 8 ≤ x1 then (f_B_forgetLastRun_64 fu 0 g v) else (gd (inB x1 8) (bo (f_V_moved dK g v (v 6 (x1 : Int32).toNatClampNeg)) fun r9 g9 v9 => f_B_forgetLastRun_55 (f_B_forgetLastRun_31 n) x1 x1 r9 g9 v9))
set_option maxHeartbeats 4000000 in
set_option maxRecDepth 100000 in
theorem w_B_forgetLastRun_31 {p : Program} {l : Launch} {e : Env} {s : State} {m : MethodId} {args : Array Value} {below : List Frame} {meth : Method} {c : Code} {Z : bZ} {A : Nat → Prop} {q0 g0 : Nat → Nat} {o : bO Unit}  (C0 : bn_C "FilterBench" b_B_forgetLastRun 2 Z A p l s m args meth c) (hr : meth.sig.returnType = none) (hnx : ∀ x ∈ c.exceptionTable.toList, False) : ∀ (n : Nat) (x1 : Int32) (g : Nat → Nat) (v : mS) (q : Nat → Nat) (H : Heap) (locs : List Loc) (ls : Array Slot), f_B_forgetLastRun_31  n x1 g v = some o → qs q0 q → gL g0 ≤ gL g → gL g ≤ gL o.2.1 → bn_H Z A s (q, g, v) H locs → lv_has ls 2 [(0, .ref (q 0)), (1, .int x1)] → bx_W p l e s m args below meth c Z A q0 g0 enV o 81 g H locs (F0 m 31 ls []) := by
  have hx := C0.1
  have hb := C0.2.1
  have hl0 := C0.2.2.2.2.2.2.2.2.2
  intro n
  induction n with
  | zero =>
    intro x1 g v q H locs ls h hq hm0 hm hH hl
    cases h
  | succ n ih =>
    intro x1 g v q H locs ls h hq hm0 hm hH hl
    rw [f_B_forgetLastRun_31] at h
    have hcl9 := bx_room (h0 := 81) (o := o) hm0 hm
    refine lv_iload_n hx hb d_B_forgetLastRun_31 rfl (lv_at hl 1 rfl) ?_
    refine lv_bipush (v := 8) hx hb d_B_forgetLastRun_32 (by decide) ?_
    refine lv_icmp_ge (tgt := 62) hx hb d_B_forgetLastRun_34 (by decide) (fun c_1 => ?_) (fun c_1 => ?_)
    · rw [if_pos c_1] at h
      refine lv_iconst (v := 0) hx hb d_B_forgetLastRun_62 (by decide) ?_
      refine lv_istore_n (lv' := [(1, .int 0), (0, .ref (q 0))]) hx hb d_B_forgetLastRun_63 rfl hl (by decide) rfl (fun ls hl => ?_)
      exact w_B_forgetLastRun_64 C0 hr hnx  fu _ _ _ _ _ _ _ h hq hm0 hm hH (lv_sub hl [1, 0] rfl)
    · rw [if_neg c_1] at h
      refine lv_aload_n hx hb d_B_forgetLastRun_37 rfl (lv_at hl 0 rfl) ?_
      refine bn_g_B_slots ⟨by decide, by decide⟩ C0 hH d_B_forgetLastRun_38 ?_
      refine lv_iload_n hx hb d_B_forgetLastRun_41 rfl (lv_at hl 1 rfl) ?_
      refine lv_aload_n hx hb d_B_forgetLastRun_42 rfl (lv_at hl 0 rfl) ?_
      refine bn_g_B_values ⟨by decide, by decide⟩ C0 hH d_B_forgetLastRun_43 ?_
      refine lv_aload_n hx hb d_B_forgetLastRun_46 rfl (lv_at hl 0 rfl) ?_
      refine bn_g_B_slots ⟨by decide, by decide⟩ C0 hH d_B_forgetLastRun_47 ?_
      refine lv_iload_n hx hb d_B_forgetLastRun_50 rfl (lv_at hl 1 rfl) ?_
      obtain ⟨g_2, h⟩ := gd_out h
      refine bn_ld ⟨by decide, by decide⟩ C0 hH (inB_in g_2) d_B_forgetLastRun_51 ?_
      obtain ⟨o1, hc, hm2, ht9, hx1, hk9⟩ := bo_out h
      have hm1 := mn_V_moved hc
      refine bx_cN (as := [.int (v 6 (x1 : Int32).toNatClampNeg)]) (rest := [.int x1, .ref (q 6)]) C0 hnx hq hH hm0 hm1 hm2 ht9 (ci := 4) ⟨by decide, by decide⟩ (by decide) rfl (c_V_movedn hl0 dK hc) yy_V_moved (C0.2.2.2.2.2.2.2.2.1.2.2.2.2.2.2.1 _ (List.mem_of_getElem? (i := 4) rfl)) ⟨by first | omega | (simp only [dK]; omega), by first | omega | (simp only [dK]; omega)⟩ rfl hl.1 rfl (Nat.le_of_ble_eq_true rfl) d_B_forgetLastRun_52 hx1 (fun r9 q1 H locs hr1 hq0 hq1 hm9 hH => ?_)
      have h := hk9 r9 hr1
      have e9 : q1 0 = q 0 := (hq1 0 (by decide) (by decide))
      try rw [← e9] at hl
      try rw [← e9]
      have e9 : q1 6 = q 6 := (hq1 6 (by decide) (by decide))
      try rw [← e9] at hl
      try rw [← e9]
      exact w_B_forgetLastRun_55 C0 hr hnx ih _ _ _ _ _ _ _ _ _ h hq0 hm9 hm2 hH (lv_sub hl [0, 1] rfl)
def f_B_forgetLastRun_29   (g : Nat → Nat) (v : mS) : Option (bO Unit) := f_B_forgetLastRun_31 fu 0 g v
set_option maxHeartbeats 4000000 in
set_option maxRecDepth 100000 in
theorem w_B_forgetLastRun_29 {p : Program} {l : Launch} {e : Env} {s : State} {m : MethodId} {args : Array Value} {below : List Frame} {meth : Method} {c : Code} {Z : bZ} {A : Nat → Prop} {q0 g0 : Nat → Nat} {o : bO Unit}  (C0 : bn_C "FilterBench" b_B_forgetLastRun 2 Z A p l s m args meth c) (hr : meth.sig.returnType = none) (hnx : ∀ x ∈ c.exceptionTable.toList, False) : ∀  (g : Nat → Nat) (v : mS) (q : Nat → Nat) (H : Heap) (locs : List Loc) (ls : Array Slot), f_B_forgetLastRun_29   g v = some o → qs q0 q → gL g0 ≤ gL g → gL g ≤ gL o.2.1 → bn_H Z A s (q, g, v) H locs → lv_has ls 2 [(0, .ref (q 0))] → bx_W p l e s m args below meth c Z A q0 g0 enV o 81 g H locs (F0 m 29 ls []) := by
  have hx := C0.1
  have hb := C0.2.1
  have hl0 := C0.2.2.2.2.2.2.2.2.2
  intro  g v q H locs ls h hq hm0 hm hH hl
  unfold f_B_forgetLastRun_29 at h
  have hcl9 := bx_room (h0 := 81) (o := o) hm0 hm
  refine lv_iconst (v := 0) hx hb d_B_forgetLastRun_29 (by decide) ?_
  refine lv_istore_n (lv' := [(1, .int 0), (0, .ref (q 0))]) hx hb d_B_forgetLastRun_30 rfl hl (by decide) rfl (fun ls hl => ?_)
  exact w_B_forgetLastRun_31 C0 hr hnx  fu _ _ _ _ _ _ _ h hq hm0 hm hH (lv_sub hl [1, 0] rfl)
def f_B_forgetLastRun (g : Nat → Nat) (v : mS)  : Option (bO Unit) := mg g (nm (sU v 0 6 0) fun v_1 => nm (sU v_1 0 7 0) fun v_2 => nm (sU v_2 0 8 0) fun v_3 => bv (f_R_clear g v_3 60) fun v_4 => bo (f_V_turnOver g v_4 ) fun r9 g9 v9 => f_B_forgetLastRun_29 g9 v9)
theorem mn_B_forgetLastRun {g : Nat → Nat} {v : mS}   {o : bO Unit} (h : f_B_forgetLastRun g v  = some o) : gL g ≤ gL o.2.1 := (mg_out h).1
set_option maxHeartbeats 4000000 in
set_option maxRecDepth 100000 in
theorem c_B_forgetLastRun {l : Launch} {Z : bZ} (hl0 : l.stackTraces = false) {q g : Nat → Nat} {v : mS}   {o : bO Unit} (h : f_B_forgetLastRun g v  = some o) : bx_M l Z 81 y_B_forgetLastRun b_B_forgetLastRun 2 none [.ref (q 0)] q g v enV o := by
  refine bx_of hl0 (by decide +kernel) (Nat.le_of_ble_eq_true rfl) ?_
  intro p e s m args below meth c A ls C0 hr hnx hl hH
  have hx := C0.1
  have hb := C0.2.1
  have C0 : bn_C "FilterBench" b_B_forgetLastRun 2 Z A p l s m args meth c := C0
  have hl : lv_has ls 2 [(0, .ref (q 0))] := hl
  obtain ⟨hm, h⟩ := mg_out h
  have hm0 : gL g ≤ gL g := Nat.le_refl _
  have hq : qs q q := qs.rf
  have hcl9 := bx_room (h0 := 81) (o := o) hm0 hm
  refine lv_aload_n hx hb d_B_forgetLastRun_0 rfl (lv_at hl 0 rfl) ?_
  refine lv_iconst (v := 0) hx hb d_B_forgetLastRun_1 (by decide) ?_
  obtain ⟨v_1, hv_1, h⟩ := nm_out h
  refine bn_p_B_outputs ⟨by decide, by decide⟩ C0 hH d_B_forgetLastRun_2 (fun H locs hH => ?_)
  have hH : bn_H Z A s (q, g, v_1) H locs := by rw [hv_1]; exact hH
  refine lv_aload_n hx hb d_B_forgetLastRun_5 rfl (lv_at hl 0 rfl) ?_
  refine lv_iconst (v := 0) hx hb d_B_forgetLastRun_6 (by decide) ?_
  obtain ⟨v_2, hv_2, h⟩ := nm_out h
  refine bn_p_B_fault ⟨by decide, by decide⟩ C0 hH d_B_forgetLastRun_7 (fun H locs hH => ?_)
  have hH : bn_H Z A s (q, g, v_2) H locs := by rw [hv_2]; exact hH
  refine lv_aload_n hx hb d_B_forgetLastRun_10 rfl (lv_at hl 0 rfl) ?_
  refine lv_iconst (v := 0) hx hb d_B_forgetLastRun_11 (by decide) ?_
  obtain ⟨v_3, hv_3, h⟩ := nm_out h
  refine bn_p_B_steps ⟨by decide, by decide⟩ C0 hH d_B_forgetLastRun_12 (fun H locs hH => ?_)
  have hH : bn_H Z A s (q, g, v_3) H locs := by rw [hv_3]; exact hH
  refine lv_aload_n hx hb d_B_forgetLastRun_15 rfl (lv_at hl 0 rfl) ?_
  refine bn_g_B_row ⟨by decide, by decide⟩ C0 hH d_B_forgetLastRun_16 ?_
  obtain ⟨v_4, hc_5, h⟩ := bv_out h
  refine bn_cv (w := (q, g, v_4)) (as := []) (rest := []) C0 hH (ci := 2) (rowB_k (j := 60) (by decide)) (by decide) rfl (c_R_clear hl0 hc_5) yy_R_clear q_475 ⟨by simp only [bn_rm, dK]; omega, by simp only [bn_rm, dK]; omega⟩ rfl hl.1 rfl (Nat.le_of_ble_eq_true rfl) hcl9 d_B_forgetLastRun_19 (fun H locs hH => ?_)
  refine lv_aload_n hx hb d_B_forgetLastRun_22 rfl (lv_at hl 0 rfl) ?_
  refine bn_g_B_values ⟨by decide, by decide⟩ C0 hH d_B_forgetLastRun_23 ?_
  obtain ⟨o1, hc, hm2, ht9, hx1, hk9⟩ := bo_out h
  have hm1 := mn_V_turnOver hc
  refine bx_cV (as := []) (rest := []) C0 hnx hq hH hm0 hm1 hm2 ht9 (ci := 4) ⟨by decide, by decide⟩ (by decide) rfl (c_V_turnOver hl0 hc) yy_V_turnOver q_479 ⟨by first | omega | (simp only [dK]; omega), by first | omega | (simp only [dK]; omega)⟩ rfl hl.1 rfl (Nat.le_of_ble_eq_true rfl) d_B_forgetLastRun_26 hx1 (fun r9 q1 H locs hr1 hq0 hq1 hm9 hH => ?_)
  have h := hk9 r9 hr1
  have e9 : q1 0 = q 0 := (hq1 0 (by decide) (by decide))
  try rw [← e9] at hl
  try rw [← e9]
  exact w_B_forgetLastRun_29 C0 hr hnx   _ _ _ _ _ _ h hq0 hm9 hm2 hH (lv_sub hl [0] rfl)
def f_B_letter_76  (x1 : Int32) (y1 : Int32) (y2 : Int32) (g : Nat → Nat) (v : mS) : Option (bO Int32) := gd (inB y1 8) (nm (sU v 7 (y1 : Int32).toNatClampNeg y2) fun v_2 => gd (inB x1 8) (bi (f_V_lengthOf g v_2 (v_2 7 (x1 : Int32).toNatClampNeg)) fun r_6 v_4 => some (.inl (r_6), g, v_4)))
set_option maxHeartbeats 4000000 in
set_option maxRecDepth 100000 in
theorem w_B_letter_76 {p : Program} {l : Launch} {e : Env} {s : State} {m : MethodId} {args : Array Value} {below : List Frame} {meth : Method} {c : Code} {Z : bZ} {A : Nat → Prop} {q0 g0 : Nat → Nat} {o : bO Int32}  (C0 : bn_C "FilterBench" b_B_letter 3 Z A p l s m args meth c) (hr : meth.sig.returnType = (some .int)) (hnx : ∀ x ∈ c.exceptionTable.toList, False) : ∀ (x1 : Int32) (y1 : Int32) (y2 : Int32) (g : Nat → Nat) (v : mS) (q : Nat → Nat) (H : Heap) (locs : List Loc) (ls : Array Slot), f_B_letter_76  x1 y1 y2 g v = some o → qs q0 q → gL g0 ≤ gL g → gL g ≤ gL o.2.1 → bn_H Z A s (q, g, v) H locs → lv_has ls 3 [(0, .ref (q 0)), (1, .int x1)] → bx_W p l e s m args below meth c Z A q0 g0 enI o 8 g H locs (F0 m 76 ls [.int y2, .int y1, .ref (q 7)]) := by
  have hx := C0.1
  have hb := C0.2.1
  have hl0 := C0.2.2.2.2.2.2.2.2.2
  intro x1 y1 y2 g v q H locs ls h hq hm0 hm hH hl
  unfold f_B_letter_76 at h
  have hcl9 := bx_room (h0 := 8) (o := o) hm0 hm
  obtain ⟨g_1, h⟩ := gd_out h
  obtain ⟨v_2, hv_2, h⟩ := nm_out h
  refine bn_sto ⟨by decide, by decide⟩ C0 hH (inB_in g_1) d_B_letter_76 (fun H locs hH => ?_)
  have hH : bn_H Z A s (q, g, v_2) H locs := by rw [hv_2]; exact hH
  refine lv_aload_n hx hb d_B_letter_77 rfl (lv_at hl 0 rfl) ?_
  refine bn_g_B_values ⟨by decide, by decide⟩ C0 hH d_B_letter_78 ?_
  refine lv_aload_n hx hb d_B_letter_81 rfl (lv_at hl 0 rfl) ?_
  refine bn_g_B_strings ⟨by decide, by decide⟩ C0 hH d_B_letter_82 ?_
  refine lv_iload_n hx hb d_B_letter_85 rfl (lv_at hl 1 rfl) ?_
  obtain ⟨g_3, h⟩ := gd_out h
  refine bn_ld ⟨by decide, by decide⟩ C0 hH (inB_in g_3) d_B_letter_86 ?_
  obtain ⟨r_6, v_4, hc_5, h⟩ := bi_out h
  refine bn_ci (r := r_6) (w := (q, g, v_4)) (as := [.int (v_2 7 (x1 : Int32).toNatClampNeg)]) (rest := []) C0 hH (ci := 4) ⟨by decide, by decide⟩ (by decide) rfl (c_V_lengthOf hl0 hc_5) yy_V_lengthOf q_359 ⟨by simp only [bn_rm, dK]; omega, by simp only [bn_rm, dK]; omega⟩ rfl hl.1 rfl (Nat.le_of_ble_eq_true rfl) hcl9 d_B_letter_87 (fun H locs hH => ?_)
  exact bx_iret C0 hr hq hH hm0 d_B_letter_90 h
def f_B_letter_29  (x1 : Int32) (x2 : Int32) (g : Nat → Nat) (v : mS) : Option (bO Int32) := gd (inB x1 8) (bi (f_V_lengthOf g v (v 7 (x1 : Int32).toNatClampNeg)) fun r_4 v_2 => if r_4 = 12 then (some (.inr 3, g, v_2)) else (gd (inB x1 8) (bo (f_V_longer g v_2 (v_2 7 (x1 : Int32).toNatClampNeg) x2) fun r9 g9 v9 => f_B_letter_76 x1 x1 r9 g9 v9)))
set_option maxHeartbeats 4000000 in
set_option maxRecDepth 100000 in
theorem w_B_letter_29 {p : Program} {l : Launch} {e : Env} {s : State} {m : MethodId} {args : Array Value} {below : List Frame} {meth : Method} {c : Code} {Z : bZ} {A : Nat → Prop} {q0 g0 : Nat → Nat} {o : bO Int32}  (C0 : bn_C "FilterBench" b_B_letter 3 Z A p l s m args meth c) (hr : meth.sig.returnType = (some .int)) (hnx : ∀ x ∈ c.exceptionTable.toList, False) : ∀ (x1 : Int32) (x2 : Int32) (g : Nat → Nat) (v : mS) (q : Nat → Nat) (H : Heap) (locs : List Loc) (ls : Array Slot), f_B_letter_29  x1 x2 g v = some o → qs q0 q → gL g0 ≤ gL g → gL g ≤ gL o.2.1 → bn_H Z A s (q, g, v) H locs → lv_has ls 3 [(0, .ref (q 0)), (1, .int x1), (2, .int x2)] → bx_W p l e s m args below meth c Z A q0 g0 enI o 8 g H locs (F0 m 29 ls []) := by
  have hx := C0.1
  have hb := C0.2.1
  have hl0 := C0.2.2.2.2.2.2.2.2.2
  intro x1 x2 g v q H locs ls h hq hm0 hm hH hl
  unfold f_B_letter_29 at h
  have hcl9 := bx_room (h0 := 8) (o := o) hm0 hm
  refine lv_aload_n hx hb d_B_letter_29 rfl (lv_at hl 0 rfl) ?_
  refine bn_g_B_values ⟨by decide, by decide⟩ C0 hH d_B_letter_30 ?_
  refine lv_aload_n hx hb d_B_letter_33 rfl (lv_at hl 0 rfl) ?_
  refine bn_g_B_strings ⟨by decide, by decide⟩ C0 hH d_B_letter_34 ?_
  refine lv_iload_n hx hb d_B_letter_37 rfl (lv_at hl 1 rfl) ?_
  obtain ⟨g_1, h⟩ := gd_out h
  refine bn_ld ⟨by decide, by decide⟩ C0 hH (inB_in g_1) d_B_letter_38 ?_
  obtain ⟨r_4, v_2, hc_3, h⟩ := bi_out h
  refine bn_ci (r := r_4) (w := (q, g, v_2)) (as := [.int (v 7 (x1 : Int32).toNatClampNeg)]) (rest := []) C0 hH (ci := 4) ⟨by decide, by decide⟩ (by decide) rfl (c_V_lengthOf hl0 hc_3) yy_V_lengthOf q_359 ⟨by simp only [bn_rm, dK]; omega, by simp only [bn_rm, dK]; omega⟩ rfl hl.1 rfl (Nat.le_of_ble_eq_true rfl) hcl9 d_B_letter_39 (fun H locs hH => ?_)
  refine lv_bipush (v := 12) hx hb d_B_letter_42 (by decide) ?_
  refine lv_icmp_ne (tgt := 57) hx hb d_B_letter_44 (by decide) (fun c_5 => ?_) (fun c_5 => ?_)
  · rw [if_neg c_5] at h
    refine lv_aload_n hx hb d_B_letter_57 rfl (lv_at hl 0 rfl) ?_
    refine bn_g_B_strings ⟨by decide, by decide⟩ C0 hH d_B_letter_58 ?_
    refine lv_iload_n hx hb d_B_letter_61 rfl (lv_at hl 1 rfl) ?_
    refine lv_aload_n hx hb d_B_letter_62 rfl (lv_at hl 0 rfl) ?_
    refine bn_g_B_values ⟨by decide, by decide⟩ C0 hH d_B_letter_63 ?_
    refine lv_aload_n hx hb d_B_letter_66 rfl (lv_at hl 0 rfl) ?_
    refine bn_g_B_strings ⟨by decide, by decide⟩ C0 hH d_B_letter_67 ?_
    refine lv_iload_n hx hb d_B_letter_70 rfl (lv_at hl 1 rfl) ?_
    obtain ⟨g_6, h⟩ := gd_out h
    refine bn_ld ⟨by decide, by decide⟩ C0 hH (inB_in g_6) d_B_letter_71 ?_
    refine lv_iload_n hx hb d_B_letter_72 rfl (lv_at hl 2 rfl) ?_
    obtain ⟨o1, hc, hm2, ht9, hx1, hk9⟩ := bo_out h
    have hm1 := mn_V_longer hc
    refine bx_cV (as := [.int (v_2 7 (x1 : Int32).toNatClampNeg), .int x2]) (rest := [.int x1, .ref (q 7)]) C0 hnx hq hH hm0 hm1 hm2 ht9 (ci := 4) ⟨by decide, by decide⟩ (by decide) rfl (c_V_longer hl0 hc) yy_V_longer q_379 ⟨by first | omega | (simp only [dK]; omega), by first | omega | (simp only [dK]; omega)⟩ rfl hl.1 rfl (Nat.le_of_ble_eq_true rfl) d_B_letter_73 hx1 (fun r9 q1 H locs hr1 hq0 hq1 hm9 hH => ?_)
    have h := hk9 r9 hr1
    have e9 : q1 0 = q 0 := (hq1 0 (by decide) (by decide))
    try rw [← e9] at hl
    try rw [← e9]
    have e9 : q1 7 = q 7 := (hq1 7 (by decide) (by decide))
    try rw [← e9] at hl
    try rw [← e9]
    exact w_B_letter_76 C0 hr hnx  _ _ _ _ _ _ _ _ _ h hq0 hm9 hm2 hH (lv_sub hl [0, 1] rfl)
  · rw [if_pos c_5] at h
    exact bx_throw (k := 3) (i := 1) (cls := "java/lang/IllegalStateException") (rest := []) C0 hnx hq hH hm0 (by decide +kernel) rfl q_363 q_114 rfl tw_B_72.1 tw_B_72.2.1 tw_B_72.2.2 (by decide +kernel) hl.1 d_B_letter_47 d_B_letter_50 d_B_letter_51 d_B_letter_53 d_B_letter_56 (Nat.le_of_ble_eq_true rfl) (Nat.le_of_ble_eq_true rfl) h
def f_B_letter_26  (x1 : Int32) (x2 : Int32) (y0 : Int32) (g : Nat → Nat) (v : mS) : Option (bO Int32) := bo (f_B_require g v y0) fun r9 g9 v9 => f_B_letter_29 x1 x2 g9 v9
set_option maxHeartbeats 4000000 in
set_option maxRecDepth 100000 in
theorem w_B_letter_26 {p : Program} {l : Launch} {e : Env} {s : State} {m : MethodId} {args : Array Value} {below : List Frame} {meth : Method} {c : Code} {Z : bZ} {A : Nat → Prop} {q0 g0 : Nat → Nat} {o : bO Int32}  (C0 : bn_C "FilterBench" b_B_letter 3 Z A p l s m args meth c) (hr : meth.sig.returnType = (some .int)) (hnx : ∀ x ∈ c.exceptionTable.toList, False) : ∀ (x1 : Int32) (x2 : Int32) (y0 : Int32) (g : Nat → Nat) (v : mS) (q : Nat → Nat) (H : Heap) (locs : List Loc) (ls : Array Slot), f_B_letter_26  x1 x2 y0 g v = some o → qs q0 q → gL g0 ≤ gL g → gL g ≤ gL o.2.1 → bn_H Z A s (q, g, v) H locs → lv_has ls 3 [(0, .ref (q 0)), (1, .int x1), (2, .int x2)] → bx_W p l e s m args below meth c Z A q0 g0 enI o 8 g H locs (F0 m 26 ls [.int y0]) := by
  have hx := C0.1
  have hb := C0.2.1
  have hl0 := C0.2.2.2.2.2.2.2.2.2
  intro x1 x2 y0 g v q H locs ls h hq hm0 hm hH hl
  unfold f_B_letter_26 at h
  have hcl9 := bx_room (h0 := 8) (o := o) hm0 hm
  obtain ⟨o1, hc, hm2, ht9, hx1, hk9⟩ := bo_out h
  have hm1 := mn_B_require hc
  refine bx_cS (as := [.int y0]) (rest := []) C0 hnx hq hH hm0 hm1 hm2 ht9 (c_B_require hl0 hc) yy_B_require q_287 ⟨by first | omega | (simp only [dK]; omega), by first | omega | (simp only [dK]; omega)⟩ rfl hl.1 rfl (Nat.le_of_ble_eq_true rfl) d_B_letter_26 hx1 (fun r9 q1 H locs hr1 hq0 hq1 hm9 hH => ?_)
  have h := hk9 r9 hr1
  have e9 : q1 0 = q 0 := (hq1 0 (by decide) (by decide))
  try rw [← e9] at hl
  try rw [← e9]
  exact w_B_letter_29 C0 hr hnx  _ _ _ _ _ _ _ _ h hq0 hm9 hm2 hH (lv_sub hl [0, 1, 2] rfl)
def f_B_letter_25  (x1 : Int32) (x2 : Int32) (g : Nat → Nat) (v : mS) : Option (bO Int32) := f_B_letter_26 x1 x2 0 g v
set_option maxHeartbeats 4000000 in
set_option maxRecDepth 100000 in
theorem w_B_letter_25 {p : Program} {l : Launch} {e : Env} {s : State} {m : MethodId} {args : Array Value} {below : List Frame} {meth : Method} {c : Code} {Z : bZ} {A : Nat → Prop} {q0 g0 : Nat → Nat} {o : bO Int32}  (C0 : bn_C "FilterBench" b_B_letter 3 Z A p l s m args meth c) (hr : meth.sig.returnType = (some .int)) (hnx : ∀ x ∈ c.exceptionTable.toList, False) : ∀ (x1 : Int32) (x2 : Int32) (g : Nat → Nat) (v : mS) (q : Nat → Nat) (H : Heap) (locs : List Loc) (ls : Array Slot), f_B_letter_25  x1 x2 g v = some o → qs q0 q → gL g0 ≤ gL g → gL g ≤ gL o.2.1 → bn_H Z A s (q, g, v) H locs → lv_has ls 3 [(0, .ref (q 0)), (1, .int x1), (2, .int x2)] → bx_W p l e s m args below meth c Z A q0 g0 enI o 8 g H locs (F0 m 25 ls []) := by
  have hx := C0.1
  have hb := C0.2.1
  have hl0 := C0.2.2.2.2.2.2.2.2.2
  intro x1 x2 g v q H locs ls h hq hm0 hm hH hl
  unfold f_B_letter_25 at h
  have hcl9 := bx_room (h0 := 8) (o := o) hm0 hm
  refine lv_iconst (v := 0) hx hb d_B_letter_25 (by decide) ?_
  exact w_B_letter_26 C0 hr hnx  _ _ _ _ _ _ _ _ _ h hq hm0 hm hH (lv_sub hl [0, 1, 2] rfl)
def f_B_letter (g : Nat → Nat) (v : mS) (x1 : Int32) (x2 : Int32) : Option (bO Int32) := mg g (bi (f_B_isBelow g v x1 8) fun r_3 v_1 => if r_3 = 0 then (f_B_letter_25 x1 x2 g v_1) else (if x2 < 32 then (f_B_letter_25 x1 x2 g v_1) else (if 126 < x2 then (f_B_letter_25 x1 x2 g v_1) else (f_B_letter_26 x1 x2 1 g v_1))))
theorem mn_B_letter {g : Nat → Nat} {v : mS}  {x1 : Int32} {x2 : Int32} {o : bO Int32} (h : f_B_letter g v x1 x2 = some o) : gL g ≤ gL o.2.1 := (mg_out h).1
set_option maxHeartbeats 4000000 in
set_option maxRecDepth 100000 in
theorem c_B_letter {l : Launch} {Z : bZ} (hl0 : l.stackTraces = false) {q g : Nat → Nat} {v : mS}  {x1 : Int32} {x2 : Int32} {o : bO Int32} (h : f_B_letter g v x1 x2 = some o) : bx_M l Z 8 y_B_letter b_B_letter 3 (some .int) [.ref (q 0), .int x1, .int x2] q g v enI o := by
  refine bx_of hl0 (by decide +kernel) (Nat.le_of_ble_eq_true rfl) ?_
  intro p e s m args below meth c A ls C0 hr hnx hl hH
  have hx := C0.1
  have hb := C0.2.1
  have C0 : bn_C "FilterBench" b_B_letter 3 Z A p l s m args meth c := C0
  have hl : lv_has ls 3 [(0, .ref (q 0)), (1, .int x1), (2, .int x2)] := hl
  obtain ⟨hm, h⟩ := mg_out h
  have hm0 : gL g ≤ gL g := Nat.le_refl _
  have hq : qs q q := qs.rf
  have hcl9 := bx_room (h0 := 8) (o := o) hm0 hm
  refine lv_iload_n hx hb d_B_letter_0 rfl (lv_at hl 1 rfl) ?_
  refine lv_bipush (v := 8) hx hb d_B_letter_1 (by decide) ?_
  obtain ⟨r_3, v_1, hc_2, h⟩ := bi_out h
  refine bn_si (r := r_3) (w := (q, g, v_1)) (as := [.int x1, .int 8]) (rest := []) C0 hH (c_B_isBelow hl0 hc_2) yy_B_isBelow q_284 ⟨by simp only [bn_rm, dK]; omega, by simp only [bn_rm, dK]; omega⟩ rfl hl.1 rfl (Nat.le_of_ble_eq_true rfl) hcl9 d_B_letter_3 (fun H locs hH => ?_)
  refine lv_if_eq (tgt := 25) hx hb d_B_letter_6 (by decide) (fun c_4 => ?_) (fun c_4 => ?_)
  · rw [if_pos c_4] at h
    exact w_B_letter_25 C0 hr hnx  _ _ _ _ _ _ _ _ h hq hm0 hm hH (lv_sub hl [0, 1, 2] rfl)
  · rw [if_neg c_4] at h
    refine lv_iload_n hx hb d_B_letter_9 rfl (lv_at hl 2 rfl) ?_
    refine lv_bipush (v := 32) hx hb d_B_letter_10 (by decide) ?_
    refine lv_icmp_lt (tgt := 25) hx hb d_B_letter_12 (by decide) (fun c_5 => ?_) (fun c_5 => ?_)
    · rw [if_pos c_5] at h
      exact w_B_letter_25 C0 hr hnx  _ _ _ _ _ _ _ _ h hq hm0 hm hH (lv_sub hl [0, 1, 2] rfl)
    · rw [if_neg c_5] at h
      refine lv_iload_n hx hb d_B_letter_15 rfl (lv_at hl 2 rfl) ?_
      refine lv_bipush (v := 126) hx hb d_B_letter_16 (by decide) ?_
      refine lv_icmp_gt (tgt := 25) hx hb d_B_letter_18 (by decide) (fun c_6 => ?_) (fun c_6 => ?_)
      · rw [if_pos c_6] at h
        exact w_B_letter_25 C0 hr hnx  _ _ _ _ _ _ _ _ h hq hm0 hm hH (lv_sub hl [0, 1, 2] rfl)
      · rw [if_neg c_6] at h
        refine lv_iconst (v := 1) hx hb d_B_letter_21 (by decide) ?_
        refine lv_goto (tgt := 26) hx hb d_B_letter_22 (by decide) ?_
        exact w_B_letter_26 C0 hr hnx  _ _ _ _ _ _ _ _ _ h hq hm0 hm hH (lv_sub hl [0, 1, 2] rfl)
def f_B_token_33  (x1 : Int32) (x2 : Int32) (x3 : Int32) (g : Nat → Nat) (v : mS) : Option (bO Int32) := gd (inB x1 4) (nm (9 + 4 * (x1 : Int32).toNatClampNeg) fun j_2 => bi (f_F_size g v j_2) fun r_5 v_3 => if r_5 = 32 then (some (.inr 3, g, v_3)) else (gd (inB x1 4) (nm (9 + 4 * (x1 : Int32).toNatClampNeg) fun j_8 => bv (f_F_add g v_3 j_8 x2 x3) fun v_9 => gd (inB x1 4) (nm (9 + 4 * (x1 : Int32).toNatClampNeg) fun j_12 => bi (f_F_size g v_9 j_12) fun r_15 v_13 => some (.inl (r_15), g, v_13)))))
set_option maxHeartbeats 4000000 in
set_option maxRecDepth 100000 in
theorem w_B_token_33 {p : Program} {l : Launch} {e : Env} {s : State} {m : MethodId} {args : Array Value} {below : List Frame} {meth : Method} {c : Code} {Z : bZ} {A : Nat → Prop} {q0 g0 : Nat → Nat} {o : bO Int32}  (C0 : bn_C "FilterBench" b_B_token 4 Z A p l s m args meth c) (hr : meth.sig.returnType = (some .int)) (hnx : ∀ x ∈ c.exceptionTable.toList, False) : ∀ (x1 : Int32) (x2 : Int32) (x3 : Int32) (g : Nat → Nat) (v : mS) (q : Nat → Nat) (H : Heap) (locs : List Loc) (ls : Array Slot), f_B_token_33  x1 x2 x3 g v = some o → qs q0 q → gL g0 ≤ gL g → gL g ≤ gL o.2.1 → bn_H Z A s (q, g, v) H locs → lv_has ls 4 [(0, .ref (q 0)), (1, .int x1), (2, .int x2), (3, .int x3)] → bx_W p l e s m args below meth c Z A q0 g0 enI o 7 g H locs (F0 m 33 ls []) := by
  have hx := C0.1
  have hb := C0.2.1
  have hl0 := C0.2.2.2.2.2.2.2.2.2
  intro x1 x2 x3 g v q H locs ls h hq hm0 hm hH hl
  unfold f_B_token_33 at h
  have hcl9 := bx_room (h0 := 7) (o := o) hm0 hm
  refine lv_aload_n hx hb d_B_token_33 rfl (lv_at hl 0 rfl) ?_
  refine bn_g_B_filters ⟨by decide, by decide⟩ C0 hH d_B_token_34 ?_
  refine lv_iload_n hx hb d_B_token_37 rfl (lv_at hl 1 rfl) ?_
  obtain ⟨g_1, h⟩ := gd_out h
  obtain ⟨j_2, hj_2, h⟩ := nm_out h
  have hgj_2 : filB j_2 = true := by rw [hj_2]; exact fil_of_in g_1
  refine bn_aldF C0 hH (inB_in g_1) d_B_token_38 ?_
  rw [← hj_2]
  obtain ⟨r_5, v_3, hc_4, h⟩ := bi_out h
  refine bn_ci (r := r_5) (w := (q, g, v_3)) (as := []) (rest := []) C0 hH (ci := 1) (filB_k hgj_2) (by decide) rfl (c_F_size hl0 hc_4) yy_F_size q_417 ⟨by simp only [bn_rm, dK]; omega, by simp only [bn_rm, dK]; omega⟩ rfl hl.1 rfl (Nat.le_of_ble_eq_true rfl) hcl9 d_B_token_39 (fun H locs hH => ?_)
  refine lv_bipush (v := 32) hx hb d_B_token_42 (by decide) ?_
  refine lv_icmp_ne (tgt := 57) hx hb d_B_token_44 (by decide) (fun c_6 => ?_) (fun c_6 => ?_)
  · rw [if_neg c_6] at h
    refine lv_aload_n hx hb d_B_token_57 rfl (lv_at hl 0 rfl) ?_
    refine bn_g_B_filters ⟨by decide, by decide⟩ C0 hH d_B_token_58 ?_
    refine lv_iload_n hx hb d_B_token_61 rfl (lv_at hl 1 rfl) ?_
    obtain ⟨g_7, h⟩ := gd_out h
    obtain ⟨j_8, hj_8, h⟩ := nm_out h
    have hgj_8 : filB j_8 = true := by rw [hj_8]; exact fil_of_in g_7
    refine bn_aldF C0 hH (inB_in g_7) d_B_token_62 ?_
    rw [← hj_8]
    refine lv_iload_n hx hb d_B_token_63 rfl (lv_at hl 2 rfl) ?_
    refine lv_iload_n hx hb d_B_token_64 rfl (lv_at hl 3 rfl) ?_
    obtain ⟨v_9, hc_10, h⟩ := bv_out h
    refine bn_cv (w := (q, g, v_9)) (as := [.int x2, .int x3]) (rest := []) C0 hH (ci := 1) (filB_k hgj_8) (by decide) rfl (c_F_add hl0 hc_10) yy_F_add q_422 ⟨by simp only [bn_rm, dK]; omega, by simp only [bn_rm, dK]; omega⟩ rfl hl.1 rfl (Nat.le_of_ble_eq_true rfl) hcl9 d_B_token_65 (fun H locs hH => ?_)
    refine lv_aload_n hx hb d_B_token_68 rfl (lv_at hl 0 rfl) ?_
    refine bn_g_B_filters ⟨by decide, by decide⟩ C0 hH d_B_token_69 ?_
    refine lv_iload_n hx hb d_B_token_72 rfl (lv_at hl 1 rfl) ?_
    obtain ⟨g_11, h⟩ := gd_out h
    obtain ⟨j_12, hj_12, h⟩ := nm_out h
    have hgj_12 : filB j_12 = true := by rw [hj_12]; exact fil_of_in g_11
    refine bn_aldF C0 hH (inB_in g_11) d_B_token_73 ?_
    rw [← hj_12]
    obtain ⟨r_15, v_13, hc_14, h⟩ := bi_out h
    refine bn_ci (r := r_15) (w := (q, g, v_13)) (as := []) (rest := []) C0 hH (ci := 1) (filB_k hgj_12) (by decide) rfl (c_F_size hl0 hc_14) yy_F_size q_417 ⟨by simp only [bn_rm, dK]; omega, by simp only [bn_rm, dK]; omega⟩ rfl hl.1 rfl (Nat.le_of_ble_eq_true rfl) hcl9 d_B_token_74 (fun H locs hH => ?_)
    exact bx_iret C0 hr hq hH hm0 d_B_token_77 h
  · rw [if_pos c_6] at h
    exact bx_throw (k := 3) (i := 3) (cls := "java/lang/IllegalStateException") (rest := []) C0 hnx hq hH hm0 (by decide +kernel) rfl q_363 q_114 rfl tw_B_72.1 tw_B_72.2.1 tw_B_72.2.2 (by decide +kernel) hl.1 d_B_token_47 d_B_token_50 d_B_token_51 d_B_token_53 d_B_token_56 (Nat.le_of_ble_eq_true rfl) (Nat.le_of_ble_eq_true rfl) h
def f_B_token_30  (x1 : Int32) (x2 : Int32) (x3 : Int32) (y0 : Int32) (g : Nat → Nat) (v : mS) : Option (bO Int32) := bo (f_B_require g v y0) fun r9 g9 v9 => f_B_token_33 x1 x2 x3 g9 v9
set_option maxHeartbeats 4000000 in
set_option maxRecDepth 100000 in
theorem w_B_token_30 {p : Program} {l : Launch} {e : Env} {s : State} {m : MethodId} {args : Array Value} {below : List Frame} {meth : Method} {c : Code} {Z : bZ} {A : Nat → Prop} {q0 g0 : Nat → Nat} {o : bO Int32}  (C0 : bn_C "FilterBench" b_B_token 4 Z A p l s m args meth c) (hr : meth.sig.returnType = (some .int)) (hnx : ∀ x ∈ c.exceptionTable.toList, False) : ∀ (x1 : Int32) (x2 : Int32) (x3 : Int32) (y0 : Int32) (g : Nat → Nat) (v : mS) (q : Nat → Nat) (H : Heap) (locs : List Loc) (ls : Array Slot), f_B_token_30  x1 x2 x3 y0 g v = some o → qs q0 q → gL g0 ≤ gL g → gL g ≤ gL o.2.1 → bn_H Z A s (q, g, v) H locs → lv_has ls 4 [(0, .ref (q 0)), (1, .int x1), (2, .int x2), (3, .int x3)] → bx_W p l e s m args below meth c Z A q0 g0 enI o 7 g H locs (F0 m 30 ls [.int y0]) := by
  have hx := C0.1
  have hb := C0.2.1
  have hl0 := C0.2.2.2.2.2.2.2.2.2
  intro x1 x2 x3 y0 g v q H locs ls h hq hm0 hm hH hl
  unfold f_B_token_30 at h
  have hcl9 := bx_room (h0 := 7) (o := o) hm0 hm
  obtain ⟨o1, hc, hm2, ht9, hx1, hk9⟩ := bo_out h
  have hm1 := mn_B_require hc
  refine bx_cS (as := [.int y0]) (rest := []) C0 hnx hq hH hm0 hm1 hm2 ht9 (c_B_require hl0 hc) yy_B_require q_287 ⟨by first | omega | (simp only [dK]; omega), by first | omega | (simp only [dK]; omega)⟩ rfl hl.1 rfl (Nat.le_of_ble_eq_true rfl) d_B_token_30 hx1 (fun r9 q1 H locs hr1 hq0 hq1 hm9 hH => ?_)
  have h := hk9 r9 hr1
  have e9 : q1 0 = q 0 := (hq1 0 (by decide) (by decide))
  try rw [← e9] at hl
  try rw [← e9]
  exact w_B_token_33 C0 hr hnx  _ _ _ _ _ _ _ _ _ h hq0 hm9 hm2 hH (lv_sub hl [0, 1, 2, 3] rfl)
def f_B_token_29  (x1 : Int32) (x2 : Int32) (x3 : Int32) (g : Nat → Nat) (v : mS) : Option (bO Int32) := f_B_token_30 x1 x2 x3 0 g v
set_option maxHeartbeats 4000000 in
set_option maxRecDepth 100000 in
theorem w_B_token_29 {p : Program} {l : Launch} {e : Env} {s : State} {m : MethodId} {args : Array Value} {below : List Frame} {meth : Method} {c : Code} {Z : bZ} {A : Nat → Prop} {q0 g0 : Nat → Nat} {o : bO Int32}  (C0 : bn_C "FilterBench" b_B_token 4 Z A p l s m args meth c) (hr : meth.sig.returnType = (some .int)) (hnx : ∀ x ∈ c.exceptionTable.toList, False) : ∀ (x1 : Int32) (x2 : Int32) (x3 : Int32) (g : Nat → Nat) (v : mS) (q : Nat → Nat) (H : Heap) (locs : List Loc) (ls : Array Slot), f_B_token_29  x1 x2 x3 g v = some o → qs q0 q → gL g0 ≤ gL g → gL g ≤ gL o.2.1 → bn_H Z A s (q, g, v) H locs → lv_has ls 4 [(0, .ref (q 0)), (1, .int x1), (2, .int x2), (3, .int x3)] → bx_W p l e s m args below meth c Z A q0 g0 enI o 7 g H locs (F0 m 29 ls []) := by
  have hx := C0.1
  have hb := C0.2.1
  have hl0 := C0.2.2.2.2.2.2.2.2.2
  intro x1 x2 x3 g v q H locs ls h hq hm0 hm hH hl
  unfold f_B_token_29 at h
  have hcl9 := bx_room (h0 := 7) (o := o) hm0 hm
  refine lv_iconst (v := 0) hx hb d_B_token_29 (by decide) ?_
  exact w_B_token_30 C0 hr hnx  _ _ _ _ _ _ _ _ _ _ h hq hm0 hm hH (lv_sub hl [0, 1, 2, 3] rfl)
def f_B_token (g : Nat → Nat) (v : mS) (x1 : Int32) (x2 : Int32) (x3 : Int32) : Option (bO Int32) := mg g (bi (f_B_isBelow g v x1 4) fun r_3 v_1 => if r_3 = 0 then (f_B_token_29 x1 x2 x3 g v_1) else (bi (f_B_isBelow g v_1 x2 35) fun r_7 v_5 => if r_7 = 0 then (f_B_token_29 x1 x2 x3 g v_5) else (bi (f_O_takes g v_5 x2 x3) fun r_11 v_9 => if r_11 = 0 then (f_B_token_29 x1 x2 x3 g v_9) else (f_B_token_30 x1 x2 x3 1 g v_9))))
theorem mn_B_token {g : Nat → Nat} {v : mS}  {x1 : Int32} {x2 : Int32} {x3 : Int32} {o : bO Int32} (h : f_B_token g v x1 x2 x3 = some o) : gL g ≤ gL o.2.1 := (mg_out h).1
set_option maxHeartbeats 4000000 in
set_option maxRecDepth 100000 in
theorem c_B_token {l : Launch} {Z : bZ} (hl0 : l.stackTraces = false) {q g : Nat → Nat} {v : mS}  {x1 : Int32} {x2 : Int32} {x3 : Int32} {o : bO Int32} (h : f_B_token g v x1 x2 x3 = some o) : bx_M l Z 7 y_B_token b_B_token 4 (some .int) [.ref (q 0), .int x1, .int x2, .int x3] q g v enI o := by
  refine bx_of hl0 (by decide +kernel) (Nat.le_of_ble_eq_true rfl) ?_
  intro p e s m args below meth c A ls C0 hr hnx hl hH
  have hx := C0.1
  have hb := C0.2.1
  have C0 : bn_C "FilterBench" b_B_token 4 Z A p l s m args meth c := C0
  have hl : lv_has ls 4 [(0, .ref (q 0)), (1, .int x1), (2, .int x2), (3, .int x3)] := hl
  obtain ⟨hm, h⟩ := mg_out h
  have hm0 : gL g ≤ gL g := Nat.le_refl _
  have hq : qs q q := qs.rf
  have hcl9 := bx_room (h0 := 7) (o := o) hm0 hm
  refine lv_iload_n hx hb d_B_token_0 rfl (lv_at hl 1 rfl) ?_
  refine lv_iconst (v := 4) hx hb d_B_token_1 (by decide) ?_
  obtain ⟨r_3, v_1, hc_2, h⟩ := bi_out h
  refine bn_si (r := r_3) (w := (q, g, v_1)) (as := [.int x1, .int 4]) (rest := []) C0 hH (c_B_isBelow hl0 hc_2) yy_B_isBelow q_284 ⟨by simp only [bn_rm, dK]; omega, by simp only [bn_rm, dK]; omega⟩ rfl hl.1 rfl (Nat.le_of_ble_eq_true rfl) hcl9 d_B_token_2 (fun H locs hH => ?_)
  refine lv_if_eq (tgt := 29) hx hb d_B_token_5 (by decide) (fun c_4 => ?_) (fun c_4 => ?_)
  · rw [if_pos c_4] at h
    exact w_B_token_29 C0 hr hnx  _ _ _ _ _ _ _ _ _ h hq hm0 hm hH (lv_sub hl [0, 1, 2, 3] rfl)
  · rw [if_neg c_4] at h
    refine lv_iload_n hx hb d_B_token_8 rfl (lv_at hl 2 rfl) ?_
    refine lv_bipush (v := 35) hx hb d_B_token_9 (by decide) ?_
    obtain ⟨r_7, v_5, hc_6, h⟩ := bi_out h
    refine bn_si (r := r_7) (w := (q, g, v_5)) (as := [.int x2, .int 35]) (rest := []) C0 hH (c_B_isBelow hl0 hc_6) yy_B_isBelow q_284 ⟨by simp only [bn_rm, dK]; omega, by simp only [bn_rm, dK]; omega⟩ rfl hl.1 rfl (Nat.le_of_ble_eq_true rfl) hcl9 d_B_token_11 (fun H locs hH => ?_)
    refine lv_if_eq (tgt := 29) hx hb d_B_token_14 (by decide) (fun c_8 => ?_) (fun c_8 => ?_)
    · rw [if_pos c_8] at h
      exact w_B_token_29 C0 hr hnx  _ _ _ _ _ _ _ _ _ h hq hm0 hm hH (lv_sub hl [0, 1, 2, 3] rfl)
    · rw [if_neg c_8] at h
      refine lv_iload_n hx hb d_B_token_17 rfl (lv_at hl 2 rfl) ?_
      refine lv_iload_n hx hb d_B_token_18 rfl (lv_at hl 3 rfl) ?_
      obtain ⟨r_11, v_9, hc_10, h⟩ := bi_out h
      refine bn_si (r := r_11) (w := (q, g, v_9)) (as := [.int x2, .int x3]) (rest := []) C0 hH (c_O_takes hl0 hc_10) yy_O_takes q_413 ⟨by simp only [bn_rm, dK]; omega, by simp only [bn_rm, dK]; omega⟩ rfl hl.1 rfl (Nat.le_of_ble_eq_true rfl) hcl9 d_B_token_19 (fun H locs hH => ?_)
      refine lv_if_eq (tgt := 29) hx hb d_B_token_22 (by decide) (fun c_12 => ?_) (fun c_12 => ?_)
      · rw [if_pos c_12] at h
        exact w_B_token_29 C0 hr hnx  _ _ _ _ _ _ _ _ _ h hq hm0 hm hH (lv_sub hl [0, 1, 2, 3] rfl)
      · rw [if_neg c_12] at h
        refine lv_iconst (v := 1) hx hb d_B_token_25 (by decide) ?_
        refine lv_goto (tgt := 30) hx hb d_B_token_26 (by decide) ?_
        exact w_B_token_30 C0 hr hnx  _ _ _ _ _ _ _ _ _ _ h hq hm0 hm hH (lv_sub hl [0, 1, 2, 3] rfl)
def f_B_wipe_34  (x1 : Int32) (x2 : Int32) (g : Nat → Nat) (v : mS) : Option (bO Int32) := if x1 = 0 then (gd (inB x2 4) (nm (9 + 4 * (x2 : Int32).toNatClampNeg) fun j_9 => bi (f_F_cleared g v j_9) fun r_12 v_10 => some (.inl (r_12), g, v_10))) else (gd (inB x2 8) (bi (f_V_lengthOf g v (v 7 (x2 : Int32).toNatClampNeg)) fun r_5 v_3 => gd (inB x2 8) (nm (sU v_3 7 (x2 : Int32).toNatClampNeg 12) fun v_7 => some (.inl (r_5), g, v_7))))
set_option maxHeartbeats 4000000 in
set_option maxRecDepth 100000 in
theorem w_B_wipe_34 {p : Program} {l : Launch} {e : Env} {s : State} {m : MethodId} {args : Array Value} {below : List Frame} {meth : Method} {c : Code} {Z : bZ} {A : Nat → Prop} {q0 g0 : Nat → Nat} {o : bO Int32}  (C0 : bn_C "FilterBench" b_B_wipe 4 Z A p l s m args meth c) (hr : meth.sig.returnType = (some .int)) (hnx : ∀ x ∈ c.exceptionTable.toList, False) : ∀ (x1 : Int32) (x2 : Int32) (g : Nat → Nat) (v : mS) (q : Nat → Nat) (H : Heap) (locs : List Loc) (ls : Array Slot), f_B_wipe_34  x1 x2 g v = some o → qs q0 q → gL g0 ≤ gL g → gL g ≤ gL o.2.1 → bn_H Z A s (q, g, v) H locs → lv_has ls 4 [(0, .ref (q 0)), (1, .int x1), (2, .int x2)] → bx_W p l e s m args below meth c Z A q0 g0 enI o 7 g H locs (F0 m 34 ls []) := by
  have hx := C0.1
  have hb := C0.2.1
  have hl0 := C0.2.2.2.2.2.2.2.2.2
  intro x1 x2 g v q H locs ls h hq hm0 hm hH hl
  unfold f_B_wipe_34 at h
  have hcl9 := bx_room (h0 := 7) (o := o) hm0 hm
  refine lv_iload_n hx hb d_B_wipe_34 rfl (lv_at hl 1 rfl) ?_
  refine lv_if_ne (tgt := 48) hx hb d_B_wipe_35 (by decide) (fun c_1 => ?_) (fun c_1 => ?_)
  · rw [if_neg c_1] at h
    refine lv_aload_n hx hb d_B_wipe_48 rfl (lv_at hl 0 rfl) ?_
    refine bn_g_B_values ⟨by decide, by decide⟩ C0 hH d_B_wipe_49 ?_
    refine lv_aload_n hx hb d_B_wipe_52 rfl (lv_at hl 0 rfl) ?_
    refine bn_g_B_strings ⟨by decide, by decide⟩ C0 hH d_B_wipe_53 ?_
    refine lv_iload_n hx hb d_B_wipe_56 rfl (lv_at hl 2 rfl) ?_
    obtain ⟨g_2, h⟩ := gd_out h
    refine bn_ld ⟨by decide, by decide⟩ C0 hH (inB_in g_2) d_B_wipe_57 ?_
    obtain ⟨r_5, v_3, hc_4, h⟩ := bi_out h
    refine bn_ci (r := r_5) (w := (q, g, v_3)) (as := [.int (v 7 (x2 : Int32).toNatClampNeg)]) (rest := []) C0 hH (ci := 4) ⟨by decide, by decide⟩ (by decide) rfl (c_V_lengthOf hl0 hc_4) yy_V_lengthOf q_359 ⟨by simp only [bn_rm, dK]; omega, by simp only [bn_rm, dK]; omega⟩ rfl hl.1 rfl (Nat.le_of_ble_eq_true rfl) hcl9 d_B_wipe_58 (fun H locs hH => ?_)
    refine lv_istore_n (lv' := [(3, .int r_5), (0, .ref (q 0)), (1, .int x1), (2, .int x2)]) hx hb d_B_wipe_61 rfl hl (by decide) rfl (fun ls hl => ?_)
    refine lv_aload_n hx hb d_B_wipe_62 rfl (lv_at hl 1 rfl) ?_
    refine bn_g_B_strings ⟨by decide, by decide⟩ C0 hH d_B_wipe_63 ?_
    refine lv_iload_n hx hb d_B_wipe_66 rfl (lv_at hl 3 rfl) ?_
    refine lv_bipush (v := 12) hx hb d_B_wipe_67 (by decide) ?_
    obtain ⟨g_6, h⟩ := gd_out h
    obtain ⟨v_7, hv_7, h⟩ := nm_out h
    refine bn_sto ⟨by decide, by decide⟩ C0 hH (inB_in g_6) d_B_wipe_69 (fun H locs hH => ?_)
    have hH : bn_H Z A s (q, g, v_7) H locs := by rw [hv_7]; exact hH
    refine lv_iload_n hx hb d_B_wipe_70 rfl (lv_at hl 0 rfl) ?_
    exact bx_iret C0 hr hq hH hm0 d_B_wipe_71 h
  · rw [if_pos c_1] at h
    refine lv_aload_n hx hb d_B_wipe_38 rfl (lv_at hl 0 rfl) ?_
    refine bn_g_B_filters ⟨by decide, by decide⟩ C0 hH d_B_wipe_39 ?_
    refine lv_iload_n hx hb d_B_wipe_42 rfl (lv_at hl 2 rfl) ?_
    obtain ⟨g_8, h⟩ := gd_out h
    obtain ⟨j_9, hj_9, h⟩ := nm_out h
    have hgj_9 : filB j_9 = true := by rw [hj_9]; exact fil_of_in g_8
    refine bn_aldF C0 hH (inB_in g_8) d_B_wipe_43 ?_
    rw [← hj_9]
    obtain ⟨r_12, v_10, hc_11, h⟩ := bi_out h
    refine bn_ci (r := r_12) (w := (q, g, v_10)) (as := []) (rest := []) C0 hH (ci := 1) (filB_k hgj_9) (by decide) rfl (c_F_cleared hl0 hc_11) yy_F_cleared q_433 ⟨by simp only [bn_rm, dK]; omega, by simp only [bn_rm, dK]; omega⟩ rfl hl.1 rfl (Nat.le_of_ble_eq_true rfl) hcl9 d_B_wipe_44 (fun H locs hH => ?_)
    exact bx_iret C0 hr hq hH hm0 d_B_wipe_47 h
def f_B_wipe_31  (x1 : Int32) (x2 : Int32) (y0 : Int32) (g : Nat → Nat) (v : mS) : Option (bO Int32) := bo (f_B_require g v y0) fun r9 g9 v9 => f_B_wipe_34 x1 x2 g9 v9
set_option maxHeartbeats 4000000 in
set_option maxRecDepth 100000 in
theorem w_B_wipe_31 {p : Program} {l : Launch} {e : Env} {s : State} {m : MethodId} {args : Array Value} {below : List Frame} {meth : Method} {c : Code} {Z : bZ} {A : Nat → Prop} {q0 g0 : Nat → Nat} {o : bO Int32}  (C0 : bn_C "FilterBench" b_B_wipe 4 Z A p l s m args meth c) (hr : meth.sig.returnType = (some .int)) (hnx : ∀ x ∈ c.exceptionTable.toList, False) : ∀ (x1 : Int32) (x2 : Int32) (y0 : Int32) (g : Nat → Nat) (v : mS) (q : Nat → Nat) (H : Heap) (locs : List Loc) (ls : Array Slot), f_B_wipe_31  x1 x2 y0 g v = some o → qs q0 q → gL g0 ≤ gL g → gL g ≤ gL o.2.1 → bn_H Z A s (q, g, v) H locs → lv_has ls 4 [(0, .ref (q 0)), (1, .int x1), (2, .int x2)] → bx_W p l e s m args below meth c Z A q0 g0 enI o 7 g H locs (F0 m 31 ls [.int y0]) := by
  have hx := C0.1
  have hb := C0.2.1
  have hl0 := C0.2.2.2.2.2.2.2.2.2
  intro x1 x2 y0 g v q H locs ls h hq hm0 hm hH hl
  unfold f_B_wipe_31 at h
  have hcl9 := bx_room (h0 := 7) (o := o) hm0 hm
  obtain ⟨o1, hc, hm2, ht9, hx1, hk9⟩ := bo_out h
  have hm1 := mn_B_require hc
  refine bx_cS (as := [.int y0]) (rest := []) C0 hnx hq hH hm0 hm1 hm2 ht9 (c_B_require hl0 hc) yy_B_require q_287 ⟨by first | omega | (simp only [dK]; omega), by first | omega | (simp only [dK]; omega)⟩ rfl hl.1 rfl (Nat.le_of_ble_eq_true rfl) d_B_wipe_31 hx1 (fun r9 q1 H locs hr1 hq0 hq1 hm9 hH => ?_)
  have h := hk9 r9 hr1
  have e9 : q1 0 = q 0 := (hq1 0 (by decide) (by decide))
  try rw [← e9] at hl
  try rw [← e9]
  exact w_B_wipe_34 C0 hr hnx  _ _ _ _ _ _ _ _ h hq0 hm9 hm2 hH (lv_sub hl [0, 1, 2] rfl)
def f_B_wipe_26  (x1 : Int32) (x2 : Int32) (g : Nat → Nat) (v : mS) : Option (bO Int32) := f_B_wipe_31 x1 x2 1 g v
set_option maxHeartbeats 4000000 in
set_option maxRecDepth 100000 in
theorem w_B_wipe_26 {p : Program} {l : Launch} {e : Env} {s : State} {m : MethodId} {args : Array Value} {below : List Frame} {meth : Method} {c : Code} {Z : bZ} {A : Nat → Prop} {q0 g0 : Nat → Nat} {o : bO Int32}  (C0 : bn_C "FilterBench" b_B_wipe 4 Z A p l s m args meth c) (hr : meth.sig.returnType = (some .int)) (hnx : ∀ x ∈ c.exceptionTable.toList, False) : ∀ (x1 : Int32) (x2 : Int32) (g : Nat → Nat) (v : mS) (q : Nat → Nat) (H : Heap) (locs : List Loc) (ls : Array Slot), f_B_wipe_26  x1 x2 g v = some o → qs q0 q → gL g0 ≤ gL g → gL g ≤ gL o.2.1 → bn_H Z A s (q, g, v) H locs → lv_has ls 4 [(0, .ref (q 0)), (1, .int x1), (2, .int x2)] → bx_W p l e s m args below meth c Z A q0 g0 enI o 7 g H locs (F0 m 26 ls []) := by
  have hx := C0.1
  have hb := C0.2.1
  have hl0 := C0.2.2.2.2.2.2.2.2.2
  intro x1 x2 g v q H locs ls h hq hm0 hm hH hl
  unfold f_B_wipe_26 at h
  have hcl9 := bx_room (h0 := 7) (o := o) hm0 hm
  refine lv_iconst (v := 1) hx hb d_B_wipe_26 (by decide) ?_
  refine lv_goto (tgt := 31) hx hb d_B_wipe_27 (by decide) ?_
  exact w_B_wipe_31 C0 hr hnx  _ _ _ _ _ _ _ _ _ h hq hm0 hm hH (lv_sub hl [0, 1, 2] rfl)
def f_B_wipe_30  (x1 : Int32) (x2 : Int32) (g : Nat → Nat) (v : mS) : Option (bO Int32) := f_B_wipe_31 x1 x2 0 g v
set_option maxHeartbeats 4000000 in
set_option maxRecDepth 100000 in
theorem w_B_wipe_30 {p : Program} {l : Launch} {e : Env} {s : State} {m : MethodId} {args : Array Value} {below : List Frame} {meth : Method} {c : Code} {Z : bZ} {A : Nat → Prop} {q0 g0 : Nat → Nat} {o : bO Int32}  (C0 : bn_C "FilterBench" b_B_wipe 4 Z A p l s m args meth c) (hr : meth.sig.returnType = (some .int)) (hnx : ∀ x ∈ c.exceptionTable.toList, False) : ∀ (x1 : Int32) (x2 : Int32) (g : Nat → Nat) (v : mS) (q : Nat → Nat) (H : Heap) (locs : List Loc) (ls : Array Slot), f_B_wipe_30  x1 x2 g v = some o → qs q0 q → gL g0 ≤ gL g → gL g ≤ gL o.2.1 → bn_H Z A s (q, g, v) H locs → lv_has ls 4 [(0, .ref (q 0)), (1, .int x1), (2, .int x2)] → bx_W p l e s m args below meth c Z A q0 g0 enI o 7 g H locs (F0 m 30 ls []) := by
  have hx := C0.1
  have hb := C0.2.1
  have hl0 := C0.2.2.2.2.2.2.2.2.2
  intro x1 x2 g v q H locs ls h hq hm0 hm hH hl
  unfold f_B_wipe_30 at h
  have hcl9 := bx_room (h0 := 7) (o := o) hm0 hm
  refine lv_iconst (v := 0) hx hb d_B_wipe_30 (by decide) ?_
  exact w_B_wipe_31 C0 hr hnx  _ _ _ _ _ _ _ _ _ h hq hm0 hm hH (lv_sub hl [0, 1, 2] rfl)
def f_B_wipe_12  (x1 : Int32) (x2 : Int32) (g : Nat → Nat) (v : mS) : Option (bO Int32) := if x1 = 1 then (bi (f_B_isBelow g v x2 8) fun r_4 v_2 => if r_4 = 0 then (f_B_wipe_30 x1 x2 g v_2) else (f_B_wipe_26 x1 x2 g v_2)) else (f_B_wipe_30 x1 x2 g v)
set_option maxHeartbeats 4000000 in
set_option maxRecDepth 100000 in
theorem w_B_wipe_12 {p : Program} {l : Launch} {e : Env} {s : State} {m : MethodId} {args : Array Value} {below : List Frame} {meth : Method} {c : Code} {Z : bZ} {A : Nat → Prop} {q0 g0 : Nat → Nat} {o : bO Int32}  (C0 : bn_C "FilterBench" b_B_wipe 4 Z A p l s m args meth c) (hr : meth.sig.returnType = (some .int)) (hnx : ∀ x ∈ c.exceptionTable.toList, False) : ∀ (x1 : Int32) (x2 : Int32) (g : Nat → Nat) (v : mS) (q : Nat → Nat) (H : Heap) (locs : List Loc) (ls : Array Slot), f_B_wipe_12  x1 x2 g v = some o → qs q0 q → gL g0 ≤ gL g → gL g ≤ gL o.2.1 → bn_H Z A s (q, g, v) H locs → lv_has ls 4 [(0, .ref (q 0)), (1, .int x1), (2, .int x2)] → bx_W p l e s m args below meth c Z A q0 g0 enI o 7 g H locs (F0 m 12 ls []) := by
  have hx := C0.1
  have hb := C0.2.1
  have hl0 := C0.2.2.2.2.2.2.2.2.2
  intro x1 x2 g v q H locs ls h hq hm0 hm hH hl
  unfold f_B_wipe_12 at h
  have hcl9 := bx_room (h0 := 7) (o := o) hm0 hm
  refine lv_iload_n hx hb d_B_wipe_12 rfl (lv_at hl 1 rfl) ?_
  refine lv_iconst (v := 1) hx hb d_B_wipe_13 (by decide) ?_
  refine lv_icmp_ne (tgt := 30) hx hb d_B_wipe_14 (by decide) (fun c_1 => ?_) (fun c_1 => ?_)
  · rw [if_neg c_1] at h
    exact w_B_wipe_30 C0 hr hnx  _ _ _ _ _ _ _ _ h hq hm0 hm hH (lv_sub hl [0, 1, 2] rfl)
  · rw [if_pos c_1] at h
    refine lv_iload_n hx hb d_B_wipe_17 rfl (lv_at hl 2 rfl) ?_
    refine lv_bipush (v := 8) hx hb d_B_wipe_18 (by decide) ?_
    obtain ⟨r_4, v_2, hc_3, h⟩ := bi_out h
    refine bn_si (r := r_4) (w := (q, g, v_2)) (as := [.int x2, .int 8]) (rest := []) C0 hH (c_B_isBelow hl0 hc_3) yy_B_isBelow q_284 ⟨by simp only [bn_rm, dK]; omega, by simp only [bn_rm, dK]; omega⟩ rfl hl.1 rfl (Nat.le_of_ble_eq_true rfl) hcl9 d_B_wipe_20 (fun H locs hH => ?_)
    refine lv_if_eq (tgt := 30) hx hb d_B_wipe_23 (by decide) (fun c_5 => ?_) (fun c_5 => ?_)
    · rw [if_pos c_5] at h
      exact w_B_wipe_30 C0 hr hnx  _ _ _ _ _ _ _ _ h hq hm0 hm hH (lv_sub hl [0, 1, 2] rfl)
    · rw [if_neg c_5] at h
      exact w_B_wipe_26 C0 hr hnx  _ _ _ _ _ _ _ _ h hq hm0 hm hH (lv_sub hl [0, 1, 2] rfl)
def f_B_wipe (g : Nat → Nat) (v : mS) (x1 : Int32) (x2 : Int32) : Option (bO Int32) := mg g (if x1 = 0 then (bi (f_B_isBelow g v x2 4) fun r_4 v_2 => if r_4 = 0 then (f_B_wipe_12 x1 x2 g v_2) else (f_B_wipe_26 x1 x2 g v_2)) else (f_B_wipe_12 x1 x2 g v))
theorem mn_B_wipe {g : Nat → Nat} {v : mS}  {x1 : Int32} {x2 : Int32} {o : bO Int32} (h : f_B_wipe g v x1 x2 = some o) : gL g ≤ gL o.2.1 := (mg_out h).1
set_option maxHeartbeats 4000000 in
set_option maxRecDepth 100000 in
theorem c_B_wipe {l : Launch} {Z : bZ} (hl0 : l.stackTraces = false) {q g : Nat → Nat} {v : mS}  {x1 : Int32} {x2 : Int32} {o : bO Int32} (h : f_B_wipe g v x1 x2 = some o) : bx_M l Z 7 y_B_wipe b_B_wipe 4 (some .int) [.ref (q 0), .int x1, .int x2] q g v enI o := by
  refine bx_of hl0 (by decide +kernel) (Nat.le_of_ble_eq_true rfl) ?_
  intro p e s m args below meth c A ls C0 hr hnx hl hH
  have hx := C0.1
  have hb := C0.2.1
  have C0 : bn_C "FilterBench" b_B_wipe 4 Z A p l s m args meth c := C0
  have hl : lv_has ls 4 [(0, .ref (q 0)), (1, .int x1), (2, .int x2)] := hl
  obtain ⟨hm, h⟩ := mg_out h
  have hm0 : gL g ≤ gL g := Nat.le_refl _
  have hq : qs q q := qs.rf
  have hcl9 := bx_room (h0 := 7) (o := o) hm0 hm
  refine lv_iload_n hx hb d_B_wipe_0 rfl (lv_at hl 1 rfl) ?_
  refine lv_if_ne (tgt := 12) hx hb d_B_wipe_1 (by decide) (fun c_1 => ?_) (fun c_1 => ?_)
  · rw [if_neg c_1] at h
    exact w_B_wipe_12 C0 hr hnx  _ _ _ _ _ _ _ _ h hq hm0 hm hH (lv_sub hl [0, 1, 2] rfl)
  · rw [if_pos c_1] at h
    refine lv_iload_n hx hb d_B_wipe_4 rfl (lv_at hl 2 rfl) ?_
    refine lv_iconst (v := 4) hx hb d_B_wipe_5 (by decide) ?_
    obtain ⟨r_4, v_2, hc_3, h⟩ := bi_out h
    refine bn_si (r := r_4) (w := (q, g, v_2)) (as := [.int x2, .int 4]) (rest := []) C0 hH (c_B_isBelow hl0 hc_3) yy_B_isBelow q_284 ⟨by simp only [bn_rm, dK]; omega, by simp only [bn_rm, dK]; omega⟩ rfl hl.1 rfl (Nat.le_of_ble_eq_true rfl) hcl9 d_B_wipe_6 (fun H locs hH => ?_)
    refine lv_if_ne (tgt := 26) hx hb d_B_wipe_9 (by decide) (fun c_5 => ?_) (fun c_5 => ?_)
    · rw [if_neg c_5] at h
      exact w_B_wipe_26 C0 hr hnx  _ _ _ _ _ _ _ _ h hq hm0 hm hH (lv_sub hl [0, 1, 2] rfl)
    · rw [if_pos c_5] at h
      exact w_B_wipe_12 C0 hr hnx  _ _ _ _ _ _ _ _ h hq hm0 hm hH (lv_sub hl [0, 1, 2] rfl)
def f_B_keep_22   (g : Nat → Nat) (v : mS) : Option (bO Int32) := some (.inr 1, g, v)
set_option maxHeartbeats 4000000 in
set_option maxRecDepth 100000 in
theorem w_B_keep_22 {p : Program} {l : Launch} {e : Env} {s : State} {m : MethodId} {args : Array Value} {below : List Frame} {meth : Method} {c : Code} {Z : bZ} {A : Nat → Prop} {q0 g0 : Nat → Nat} {o : bO Int32}  (C0 : bn_C "FilterBench" b_B_keep 3 Z A p l s m args meth c) (hr : meth.sig.returnType = (some .int)) (hnx : ∀ x ∈ c.exceptionTable.toList, False) : ∀  (g : Nat → Nat) (v : mS) (q : Nat → Nat) (H : Heap) (locs : List Loc) (ls : Array Slot), f_B_keep_22   g v = some o → qs q0 q → gL g0 ≤ gL g → gL g ≤ gL o.2.1 → bn_H Z A s (q, g, v) H locs → lv_has ls 3 [] → bx_W p l e s m args below meth c Z A q0 g0 enI o 7 g H locs (F0 m 22 ls []) := by
  have hx := C0.1
  have hb := C0.2.1
  have hl0 := C0.2.2.2.2.2.2.2.2.2
  intro  g v q H locs ls h hq hm0 hm hH hl
  unfold f_B_keep_22 at h
  have hcl9 := bx_room (h0 := 7) (o := o) hm0 hm
  exact bx_throwN (i := 10) (rest := []) C0 hnx hq hH hm0 rfl hl.1 d_B_keep_22 d_B_keep_25 d_B_keep_26 d_B_keep_28 d_B_keep_31 (Nat.le_of_ble_eq_true rfl) (Nat.le_of_ble_eq_true rfl) h
def f_B_keep_56  (x1 : Int32) (y1 : Int32) (y2 : Int32) (g : Nat → Nat) (v : mS) : Option (bO Int32) := gd (inB y1 8) (nm (sU v 6 (y1 : Int32).toNatClampNeg y2) fun v_2 => gd (inB x1 8) (bi (f_V_sizeOf g v_2 (v_2 6 (x1 : Int32).toNatClampNeg)) fun r_6 v_4 => some (.inl (r_6), g, v_4)))
set_option maxHeartbeats 4000000 in
set_option maxRecDepth 100000 in
theorem w_B_keep_56 {p : Program} {l : Launch} {e : Env} {s : State} {m : MethodId} {args : Array Value} {below : List Frame} {meth : Method} {c : Code} {Z : bZ} {A : Nat → Prop} {q0 g0 : Nat → Nat} {o : bO Int32}  (C0 : bn_C "FilterBench" b_B_keep 3 Z A p l s m args meth c) (hr : meth.sig.returnType = (some .int)) (hnx : ∀ x ∈ c.exceptionTable.toList, False) : ∀ (x1 : Int32) (y1 : Int32) (y2 : Int32) (g : Nat → Nat) (v : mS) (q : Nat → Nat) (H : Heap) (locs : List Loc) (ls : Array Slot), f_B_keep_56  x1 y1 y2 g v = some o → qs q0 q → gL g0 ≤ gL g → gL g ≤ gL o.2.1 → bn_H Z A s (q, g, v) H locs → lv_has ls 3 [(0, .ref (q 0)), (1, .int x1)] → bx_W p l e s m args below meth c Z A q0 g0 enI o 7 g H locs (F0 m 56 ls [.int y2, .int y1, .ref (q 6)]) := by
  have hx := C0.1
  have hb := C0.2.1
  have hl0 := C0.2.2.2.2.2.2.2.2.2
  intro x1 y1 y2 g v q H locs ls h hq hm0 hm hH hl
  unfold f_B_keep_56 at h
  have hcl9 := bx_room (h0 := 7) (o := o) hm0 hm
  obtain ⟨g_1, h⟩ := gd_out h
  obtain ⟨v_2, hv_2, h⟩ := nm_out h
  refine bn_sto ⟨by decide, by decide⟩ C0 hH (inB_in g_1) d_B_keep_56 (fun H locs hH => ?_)
  have hH : bn_H Z A s (q, g, v_2) H locs := by rw [hv_2]; exact hH
  refine lv_aload_n hx hb d_B_keep_57 rfl (lv_at hl 0 rfl) ?_
  refine bn_g_B_values ⟨by decide, by decide⟩ C0 hH d_B_keep_58 ?_
  refine lv_aload_n hx hb d_B_keep_61 rfl (lv_at hl 0 rfl) ?_
  refine bn_g_B_slots ⟨by decide, by decide⟩ C0 hH d_B_keep_62 ?_
  refine lv_iload_n hx hb d_B_keep_65 rfl (lv_at hl 1 rfl) ?_
  obtain ⟨g_3, h⟩ := gd_out h
  refine bn_ld ⟨by decide, by decide⟩ C0 hH (inB_in g_3) d_B_keep_66 ?_
  obtain ⟨r_6, v_4, hc_5, h⟩ := bi_out h
  refine bn_ci (r := r_6) (w := (q, g, v_4)) (as := [.int (v_2 6 (x1 : Int32).toNatClampNeg)]) (rest := []) C0 hH (ci := 4) ⟨by decide, by decide⟩ (by decide) rfl (c_V_sizeOf hl0 hc_5) yy_V_sizeOf q_850 ⟨by simp only [bn_rm, dK]; omega, by simp only [bn_rm, dK]; omega⟩ rfl hl.1 rfl (Nat.le_of_ble_eq_true rfl) hcl9 d_B_keep_67 (fun H locs hH => ?_)
  exact bx_iret C0 hr hq hH hm0 d_B_keep_70 h
def f_B_keep_9  (x1 : Int32) (x2 : Int32) (g : Nat → Nat) (v : mS) : Option (bO Int32) := if x2 < (-1) then (f_B_keep_22 g v) else (if x2 < (v 0 6) then (if 0 ≤ x2 then (bi (f_R_at g v 60 x2) fun r_6 v_4 => f_B_keep_56 x1 x1 r_6 g v_4) else (f_B_keep_56 x1 x1 (v 0 7) g v)) else (f_B_keep_22 g v))
set_option maxHeartbeats 4000000 in
set_option maxRecDepth 100000 in
theorem w_B_keep_9 {p : Program} {l : Launch} {e : Env} {s : State} {m : MethodId} {args : Array Value} {below : List Frame} {meth : Method} {c : Code} {Z : bZ} {A : Nat → Prop} {q0 g0 : Nat → Nat} {o : bO Int32}  (C0 : bn_C "FilterBench" b_B_keep 3 Z A p l s m args meth c) (hr : meth.sig.returnType = (some .int)) (hnx : ∀ x ∈ c.exceptionTable.toList, False) : ∀ (x1 : Int32) (x2 : Int32) (g : Nat → Nat) (v : mS) (q : Nat → Nat) (H : Heap) (locs : List Loc) (ls : Array Slot), f_B_keep_9  x1 x2 g v = some o → qs q0 q → gL g0 ≤ gL g → gL g ≤ gL o.2.1 → bn_H Z A s (q, g, v) H locs → lv_has ls 3 [(0, .ref (q 0)), (1, .int x1), (2, .int x2)] → bx_W p l e s m args below meth c Z A q0 g0 enI o 7 g H locs (F0 m 9 ls []) := by
  have hx := C0.1
  have hb := C0.2.1
  have hl0 := C0.2.2.2.2.2.2.2.2.2
  intro x1 x2 g v q H locs ls h hq hm0 hm hH hl
  unfold f_B_keep_9 at h
  have hcl9 := bx_room (h0 := 7) (o := o) hm0 hm
  refine lv_iload_n hx hb d_B_keep_9 rfl (lv_at hl 2 rfl) ?_
  refine lv_iconst (v := (-1)) hx hb d_B_keep_10 (by decide) ?_
  refine lv_icmp_lt (tgt := 22) hx hb d_B_keep_11 (by decide) (fun c_1 => ?_) (fun c_1 => ?_)
  · rw [if_pos c_1] at h
    exact w_B_keep_22 C0 hr hnx   _ _ _ _ _ _ h hq hm0 hm hH (lv_sub hl [] rfl)
  · rw [if_neg c_1] at h
    refine lv_iload_n hx hb d_B_keep_14 rfl (lv_at hl 2 rfl) ?_
    refine lv_aload_n hx hb d_B_keep_15 rfl (lv_at hl 0 rfl) ?_
    refine bn_g_B_outputs ⟨by decide, by decide⟩ C0 hH d_B_keep_16 ?_
    refine lv_icmp_lt (tgt := 32) hx hb d_B_keep_19 (by decide) (fun c_2 => ?_) (fun c_2 => ?_)
    · rw [if_pos c_2] at h
      refine lv_aload_n hx hb d_B_keep_32 rfl (lv_at hl 0 rfl) ?_
      refine bn_g_B_slots ⟨by decide, by decide⟩ C0 hH d_B_keep_33 ?_
      refine lv_iload_n hx hb d_B_keep_36 rfl (lv_at hl 1 rfl) ?_
      refine lv_iload_n hx hb d_B_keep_37 rfl (lv_at hl 2 rfl) ?_
      refine lv_if_ge (tgt := 48) hx hb d_B_keep_38 (by decide) (fun c_3 => ?_) (fun c_3 => ?_)
      · rw [if_pos c_3] at h
        refine lv_aload_n hx hb d_B_keep_48 rfl (lv_at hl 0 rfl) ?_
        refine bn_g_B_row ⟨by decide, by decide⟩ C0 hH d_B_keep_49 ?_
        refine lv_iload_n hx hb d_B_keep_52 rfl (lv_at hl 2 rfl) ?_
        obtain ⟨r_6, v_4, hc_5, h⟩ := bi_out h
        refine bn_ci (r := r_6) (w := (q, g, v_4)) (as := [.int x2]) (rest := [.int x1, .ref (q 6)]) C0 hH (ci := 2) (rowB_k (j := 60) (by decide)) (by decide) rfl (c_R_at hl0 hc_5) yy_R_at q_849 ⟨by simp only [bn_rm, dK]; omega, by simp only [bn_rm, dK]; omega⟩ rfl hl.1 rfl (Nat.le_of_ble_eq_true rfl) hcl9 d_B_keep_53 (fun H locs hH => ?_)
        exact w_B_keep_56 C0 hr hnx  _ _ _ _ _ _ _ _ _ h hq hm0 hm hH (lv_sub hl [0, 1] rfl)
      · rw [if_neg c_3] at h
        refine lv_aload_n hx hb d_B_keep_41 rfl (lv_at hl 0 rfl) ?_
        refine bn_g_B_fault ⟨by decide, by decide⟩ C0 hH d_B_keep_42 ?_
        refine lv_goto (tgt := 56) hx hb d_B_keep_45 (by decide) ?_
        exact w_B_keep_56 C0 hr hnx  _ _ _ _ _ _ _ _ _ h hq hm0 hm hH (lv_sub hl [0, 1] rfl)
    · rw [if_neg c_2] at h
      exact w_B_keep_22 C0 hr hnx   _ _ _ _ _ _ h hq hm0 hm hH (lv_sub hl [] rfl)
def f_B_keep (g : Nat → Nat) (v : mS) (x1 : Int32) (x2 : Int32) : Option (bO Int32) := mg g (bi (f_B_isBelow g v x1 8) fun r_3 v_1 => bo (f_B_require g v_1 r_3) fun r9 g9 v9 => f_B_keep_9 x1 x2 g9 v9)
theorem mn_B_keep {g : Nat → Nat} {v : mS}  {x1 : Int32} {x2 : Int32} {o : bO Int32} (h : f_B_keep g v x1 x2 = some o) : gL g ≤ gL o.2.1 := (mg_out h).1
set_option maxHeartbeats 4000000 in
set_option maxRecDepth 100000 in
theorem c_B_keep {l : Launch} {Z : bZ} (hl0 : l.stackTraces = false) {q g : Nat → Nat} {v : mS}  {x1 : Int32} {x2 : Int32} {o : bO Int32} (h : f_B_keep g v x1 x2 = some o) : bx_M l Z 7 y_B_keep b_B_keep 3 (some .int) [.ref (q 0), .int x1, .int x2] q g v enI o := by
  refine bx_of hl0 (by decide +kernel) (Nat.le_of_ble_eq_true rfl) ?_
  intro p e s m args below meth c A ls C0 hr hnx hl hH
  have hx := C0.1
  have hb := C0.2.1
  have C0 : bn_C "FilterBench" b_B_keep 3 Z A p l s m args meth c := C0
  have hl : lv_has ls 3 [(0, .ref (q 0)), (1, .int x1), (2, .int x2)] := hl
  obtain ⟨hm, h⟩ := mg_out h
  have hm0 : gL g ≤ gL g := Nat.le_refl _
  have hq : qs q q := qs.rf
  have hcl9 := bx_room (h0 := 7) (o := o) hm0 hm
  refine lv_iload_n hx hb d_B_keep_0 rfl (lv_at hl 1 rfl) ?_
  refine lv_bipush (v := 8) hx hb d_B_keep_1 (by decide) ?_
  obtain ⟨r_3, v_1, hc_2, h⟩ := bi_out h
  refine bn_si (r := r_3) (w := (q, g, v_1)) (as := [.int x1, .int 8]) (rest := []) C0 hH (c_B_isBelow hl0 hc_2) yy_B_isBelow q_284 ⟨by simp only [bn_rm, dK]; omega, by simp only [bn_rm, dK]; omega⟩ rfl hl.1 rfl (Nat.le_of_ble_eq_true rfl) hcl9 d_B_keep_3 (fun H locs hH => ?_)
  obtain ⟨o1, hc, hm2, ht9, hx1, hk9⟩ := bo_out h
  have hm1 := mn_B_require hc
  refine bx_cS (as := [.int r_3]) (rest := []) C0 hnx hq hH hm0 hm1 hm2 ht9 (c_B_require hl0 hc) yy_B_require q_287 ⟨by first | omega | (simp only [dK]; omega), by first | omega | (simp only [dK]; omega)⟩ rfl hl.1 rfl (Nat.le_of_ble_eq_true rfl) d_B_keep_6 hx1 (fun r9 q1 H locs hr1 hq0 hq1 hm9 hH => ?_)
  have h := hk9 r9 hr1
  have e9 : q1 0 = q 0 := (hq1 0 (by decide) (by decide))
  try rw [← e9] at hl
  try rw [← e9]
  exact w_B_keep_9 C0 hr hnx  _ _ _ _ _ _ _ _ h hq0 hm9 hm2 hH (lv_sub hl [0, 1, 2] rfl)
def f_B_kind_6  (x1 : Int32) (x2 : Int32) (g : Nat → Nat) (v : mS) : Option (bO Int32) := gd (inB x1 8) (bi (f_V_partAt g v (v 6 (x1 : Int32).toNatClampNeg) x2) fun r_4 v_2 => bi (f_V_kindOf g v_2 r_4) fun r_7 v_5 => some (.inl (r_7), g, v_5))
set_option maxHeartbeats 4000000 in
set_option maxRecDepth 100000 in
theorem w_B_kind_6 {p : Program} {l : Launch} {e : Env} {s : State} {m : MethodId} {args : Array Value} {below : List Frame} {meth : Method} {c : Code} {Z : bZ} {A : Nat → Prop} {q0 g0 : Nat → Nat} {o : bO Int32}  (C0 : bn_C "FilterBench" b_B_kind 3 Z A p l s m args meth c) (hr : meth.sig.returnType = (some .int)) (hnx : ∀ x ∈ c.exceptionTable.toList, False) : ∀ (x1 : Int32) (x2 : Int32) (g : Nat → Nat) (v : mS) (q : Nat → Nat) (H : Heap) (locs : List Loc) (ls : Array Slot), f_B_kind_6  x1 x2 g v = some o → qs q0 q → gL g0 ≤ gL g → gL g ≤ gL o.2.1 → bn_H Z A s (q, g, v) H locs → lv_has ls 3 [(0, .ref (q 0)), (1, .int x1), (2, .int x2)] → bx_W p l e s m args below meth c Z A q0 g0 enI o 8 g H locs (F0 m 6 ls []) := by
  have hx := C0.1
  have hb := C0.2.1
  have hl0 := C0.2.2.2.2.2.2.2.2.2
  intro x1 x2 g v q H locs ls h hq hm0 hm hH hl
  unfold f_B_kind_6 at h
  have hcl9 := bx_room (h0 := 8) (o := o) hm0 hm
  refine lv_aload_n hx hb d_B_kind_6 rfl (lv_at hl 0 rfl) ?_
  refine bn_g_B_values ⟨by decide, by decide⟩ C0 hH d_B_kind_7 ?_
  refine lv_aload_n hx hb d_B_kind_10 rfl (lv_at hl 0 rfl) ?_
  refine bn_g_B_values ⟨by decide, by decide⟩ C0 hH d_B_kind_11 ?_
  refine lv_aload_n hx hb d_B_kind_14 rfl (lv_at hl 0 rfl) ?_
  refine bn_g_B_slots ⟨by decide, by decide⟩ C0 hH d_B_kind_15 ?_
  refine lv_iload_n hx hb d_B_kind_18 rfl (lv_at hl 1 rfl) ?_
  obtain ⟨g_1, h⟩ := gd_out h
  refine bn_ld ⟨by decide, by decide⟩ C0 hH (inB_in g_1) d_B_kind_19 ?_
  refine lv_iload_n hx hb d_B_kind_20 rfl (lv_at hl 2 rfl) ?_
  obtain ⟨r_4, v_2, hc_3, h⟩ := bi_out h
  refine bn_ci (r := r_4) (w := (q, g, v_2)) (as := [.int (v 6 (x1 : Int32).toNatClampNeg), .int x2]) (rest := [.ref (q 1)]) C0 hH (ci := 4) ⟨by decide, by decide⟩ (by decide) rfl (c_V_partAt hl0 hc_3) yy_V_partAt q_866 ⟨by simp only [bn_rm, dK]; omega, by simp only [bn_rm, dK]; omega⟩ rfl hl.1 rfl (Nat.le_of_ble_eq_true rfl) hcl9 d_B_kind_21 (fun H locs hH => ?_)
  obtain ⟨r_7, v_5, hc_6, h⟩ := bi_out h
  refine bn_ci (r := r_7) (w := (q, g, v_5)) (as := [.int r_4]) (rest := []) C0 hH (ci := 4) ⟨by decide, by decide⟩ (by decide) rfl (c_V_kindOf hl0 hc_6) yy_V_kindOf q_875 ⟨by simp only [bn_rm, dK]; omega, by simp only [bn_rm, dK]; omega⟩ rfl hl.1 rfl (Nat.le_of_ble_eq_true rfl) hcl9 d_B_kind_24 (fun H locs hH => ?_)
  exact bx_iret C0 hr hq hH hm0 d_B_kind_27 h
def f_B_kind (g : Nat → Nat) (v : mS) (x1 : Int32) (x2 : Int32) : Option (bO Int32) := mg g (bo (f_B_requirePart g v x1 x2) fun r9 g9 v9 => f_B_kind_6 x1 x2 g9 v9)
theorem mn_B_kind {g : Nat → Nat} {v : mS}  {x1 : Int32} {x2 : Int32} {o : bO Int32} (h : f_B_kind g v x1 x2 = some o) : gL g ≤ gL o.2.1 := (mg_out h).1
set_option maxHeartbeats 4000000 in
set_option maxRecDepth 100000 in
theorem c_B_kind {l : Launch} {Z : bZ} (hl0 : l.stackTraces = false) {q g : Nat → Nat} {v : mS}  {x1 : Int32} {x2 : Int32} {o : bO Int32} (h : f_B_kind g v x1 x2 = some o) : bx_M l Z 8 y_B_kind b_B_kind 3 (some .int) [.ref (q 0), .int x1, .int x2] q g v enI o := by
  refine bx_of hl0 (by decide +kernel) (Nat.le_of_ble_eq_true rfl) ?_
  intro p e s m args below meth c A ls C0 hr hnx hl hH
  have hx := C0.1
  have hb := C0.2.1
  have C0 : bn_C "FilterBench" b_B_kind 3 Z A p l s m args meth c := C0
  have hl : lv_has ls 3 [(0, .ref (q 0)), (1, .int x1), (2, .int x2)] := hl
  obtain ⟨hm, h⟩ := mg_out h
  have hm0 : gL g ≤ gL g := Nat.le_refl _
  have hq : qs q q := qs.rf
  have hcl9 := bx_room (h0 := 8) (o := o) hm0 hm
  refine lv_aload_n hx hb d_B_kind_0 rfl (lv_at hl 0 rfl) ?_
  refine lv_iload_n hx hb d_B_kind_1 rfl (lv_at hl 1 rfl) ?_
  refine lv_iload_n hx hb d_B_kind_2 rfl (lv_at hl 2 rfl) ?_
  obtain ⟨o1, hc, hm2, ht9, hx1, hk9⟩ := bo_out h
  have hm1 := mn_B_requirePart hc
  refine bx_cV (as := [.int x1, .int x2]) (rest := []) C0 hnx hq hH hm0 hm1 hm2 ht9 (ci := 0) ⟨by decide, by decide⟩ (by decide) rfl (c_B_requirePart hl0 hc) yy_B_requirePart q_861 ⟨by first | omega | (simp only [dK]; omega), by first | omega | (simp only [dK]; omega)⟩ rfl hl.1 rfl (Nat.le_of_ble_eq_true rfl) d_B_kind_3 hx1 (fun r9 q1 H locs hr1 hq0 hq1 hm9 hH => ?_)
  have h := hk9 r9 hr1
  have e9 : q1 0 = q 0 := (hq1 0 (by decide) (by decide))
  try rw [← e9] at hl
  try rw [← e9]
  exact w_B_kind_6 C0 hr hnx  _ _ _ _ _ _ _ _ h hq0 hm9 hm2 hH (lv_sub hl [0, 1, 2] rfl)
def f_B_length_6  (x1 : Int32) (x2 : Int32) (g : Nat → Nat) (v : mS) : Option (bO Int32) := gd (inB x1 8) (bi (f_V_partAt g v (v 6 (x1 : Int32).toNatClampNeg) x2) fun r_4 v_2 => bi (f_V_lengthOf g v_2 r_4) fun r_7 v_5 => some (.inl (r_7), g, v_5))
set_option maxHeartbeats 4000000 in
set_option maxRecDepth 100000 in
theorem w_B_length_6 {p : Program} {l : Launch} {e : Env} {s : State} {m : MethodId} {args : Array Value} {below : List Frame} {meth : Method} {c : Code} {Z : bZ} {A : Nat → Prop} {q0 g0 : Nat → Nat} {o : bO Int32}  (C0 : bn_C "FilterBench" b_B_length 3 Z A p l s m args meth c) (hr : meth.sig.returnType = (some .int)) (hnx : ∀ x ∈ c.exceptionTable.toList, False) : ∀ (x1 : Int32) (x2 : Int32) (g : Nat → Nat) (v : mS) (q : Nat → Nat) (H : Heap) (locs : List Loc) (ls : Array Slot), f_B_length_6  x1 x2 g v = some o → qs q0 q → gL g0 ≤ gL g → gL g ≤ gL o.2.1 → bn_H Z A s (q, g, v) H locs → lv_has ls 3 [(0, .ref (q 0)), (1, .int x1), (2, .int x2)] → bx_W p l e s m args below meth c Z A q0 g0 enI o 8 g H locs (F0 m 6 ls []) := by
  have hx := C0.1
  have hb := C0.2.1
  have hl0 := C0.2.2.2.2.2.2.2.2.2
  intro x1 x2 g v q H locs ls h hq hm0 hm hH hl
  unfold f_B_length_6 at h
  have hcl9 := bx_room (h0 := 8) (o := o) hm0 hm
  refine lv_aload_n hx hb d_B_length_6 rfl (lv_at hl 0 rfl) ?_
  refine bn_g_B_values ⟨by decide, by decide⟩ C0 hH d_B_length_7 ?_
  refine lv_aload_n hx hb d_B_length_10 rfl (lv_at hl 0 rfl) ?_
  refine bn_g_B_values ⟨by decide, by decide⟩ C0 hH d_B_length_11 ?_
  refine lv_aload_n hx hb d_B_length_14 rfl (lv_at hl 0 rfl) ?_
  refine bn_g_B_slots ⟨by decide, by decide⟩ C0 hH d_B_length_15 ?_
  refine lv_iload_n hx hb d_B_length_18 rfl (lv_at hl 1 rfl) ?_
  obtain ⟨g_1, h⟩ := gd_out h
  refine bn_ld ⟨by decide, by decide⟩ C0 hH (inB_in g_1) d_B_length_19 ?_
  refine lv_iload_n hx hb d_B_length_20 rfl (lv_at hl 2 rfl) ?_
  obtain ⟨r_4, v_2, hc_3, h⟩ := bi_out h
  refine bn_ci (r := r_4) (w := (q, g, v_2)) (as := [.int (v 6 (x1 : Int32).toNatClampNeg), .int x2]) (rest := [.ref (q 1)]) C0 hH (ci := 4) ⟨by decide, by decide⟩ (by decide) rfl (c_V_partAt hl0 hc_3) yy_V_partAt q_866 ⟨by simp only [bn_rm, dK]; omega, by simp only [bn_rm, dK]; omega⟩ rfl hl.1 rfl (Nat.le_of_ble_eq_true rfl) hcl9 d_B_length_21 (fun H locs hH => ?_)
  obtain ⟨r_7, v_5, hc_6, h⟩ := bi_out h
  refine bn_ci (r := r_7) (w := (q, g, v_5)) (as := [.int r_4]) (rest := []) C0 hH (ci := 4) ⟨by decide, by decide⟩ (by decide) rfl (c_V_lengthOf hl0 hc_6) yy_V_lengthOf q_359 ⟨by simp only [bn_rm, dK]; omega, by simp only [bn_rm, dK]; omega⟩ rfl hl.1 rfl (Nat.le_of_ble_eq_true rfl) hcl9 d_B_length_24 (fun H locs hH => ?_)
  exact bx_iret C0 hr hq hH hm0 d_B_length_27 h
def f_B_length (g : Nat → Nat) (v : mS) (x1 : Int32) (x2 : Int32) : Option (bO Int32) := mg g (bo (f_B_requirePart g v x1 x2) fun r9 g9 v9 => f_B_length_6 x1 x2 g9 v9)
theorem mn_B_length {g : Nat → Nat} {v : mS}  {x1 : Int32} {x2 : Int32} {o : bO Int32} (h : f_B_length g v x1 x2 = some o) : gL g ≤ gL o.2.1 := (mg_out h).1
set_option maxHeartbeats 4000000 in
set_option maxRecDepth 100000 in
theorem c_B_length {l : Launch} {Z : bZ} (hl0 : l.stackTraces = false) {q g : Nat → Nat} {v : mS}  {x1 : Int32} {x2 : Int32} {o : bO Int32} (h : f_B_length g v x1 x2 = some o) : bx_M l Z 8 y_B_length b_B_length 3 (some .int) [.ref (q 0), .int x1, .int x2] q g v enI o := by
  refine bx_of hl0 (by decide +kernel) (Nat.le_of_ble_eq_true rfl) ?_
  intro p e s m args below meth c A ls C0 hr hnx hl hH
  have hx := C0.1
  have hb := C0.2.1
  have C0 : bn_C "FilterBench" b_B_length 3 Z A p l s m args meth c := C0
  have hl : lv_has ls 3 [(0, .ref (q 0)), (1, .int x1), (2, .int x2)] := hl
  obtain ⟨hm, h⟩ := mg_out h
  have hm0 : gL g ≤ gL g := Nat.le_refl _
  have hq : qs q q := qs.rf
  have hcl9 := bx_room (h0 := 8) (o := o) hm0 hm
  refine lv_aload_n hx hb d_B_length_0 rfl (lv_at hl 0 rfl) ?_
  refine lv_iload_n hx hb d_B_length_1 rfl (lv_at hl 1 rfl) ?_
  refine lv_iload_n hx hb d_B_length_2 rfl (lv_at hl 2 rfl) ?_
  obtain ⟨o1, hc, hm2, ht9, hx1, hk9⟩ := bo_out h
  have hm1 := mn_B_requirePart hc
  refine bx_cV (as := [.int x1, .int x2]) (rest := []) C0 hnx hq hH hm0 hm1 hm2 ht9 (ci := 0) ⟨by decide, by decide⟩ (by decide) rfl (c_B_requirePart hl0 hc) yy_B_requirePart q_861 ⟨by first | omega | (simp only [dK]; omega), by first | omega | (simp only [dK]; omega)⟩ rfl hl.1 rfl (Nat.le_of_ble_eq_true rfl) d_B_length_3 hx1 (fun r9 q1 H locs hr1 hq0 hq1 hm9 hH => ?_)
  have h := hk9 r9 hr1
  have e9 : q1 0 = q 0 := (hq1 0 (by decide) (by decide))
  try rw [← e9] at hl
  try rw [← e9]
  exact w_B_length_6 C0 hr hnx  _ _ _ _ _ _ _ _ h hq0 hm9 hm2 hH (lv_sub hl [0, 1, 2] rfl)
def f_B_number_62  (y0 : Int32) (g : Nat → Nat) (v : mS) : Option (bO Int32) := some (.inl (y0), g, v)
set_option maxHeartbeats 4000000 in
set_option maxRecDepth 100000 in
theorem w_B_number_62 {p : Program} {l : Launch} {e : Env} {s : State} {m : MethodId} {args : Array Value} {below : List Frame} {meth : Method} {c : Code} {Z : bZ} {A : Nat → Prop} {q0 g0 : Nat → Nat} {o : bO Int32}  (C0 : bn_C "FilterBench" b_B_number 5 Z A p l s m args meth c) (hr : meth.sig.returnType = (some .int)) (hnx : ∀ x ∈ c.exceptionTable.toList, False) : ∀ (y0 : Int32) (g : Nat → Nat) (v : mS) (q : Nat → Nat) (H : Heap) (locs : List Loc) (ls : Array Slot), f_B_number_62  y0 g v = some o → qs q0 q → gL g0 ≤ gL g → gL g ≤ gL o.2.1 → bn_H Z A s (q, g, v) H locs → lv_has ls 5 [] → bx_W p l e s m args below meth c Z A q0 g0 enI o 8 g H locs (F0 m 62 ls [.int y0]) := by
  have hx := C0.1
  have hb := C0.2.1
  have hl0 := C0.2.2.2.2.2.2.2.2.2
  intro y0 g v q H locs ls h hq hm0 hm hH hl
  unfold f_B_number_62 at h
  have hcl9 := bx_room (h0 := 8) (o := o) hm0 hm
  exact bx_iret C0 hr hq hH hm0 d_B_number_62 h
def f_B_number_6  (x1 : Int32) (x2 : Int32) (x3 : Int32) (g : Nat → Nat) (v : mS) : Option (bO Int32) := gd (inB x1 8) (bi (f_V_partAt g v (v 6 (x1 : Int32).toNatClampNeg) x2) fun r_4 v_2 => bi (f_V_kindOf g v_2 r_4) fun r_7 v_5 => if r_7 = 3 then (if x3 = 0 then (bi (f_V_wholeOf g v_5 r_4) fun r_12 v_10 => f_B_number_62 r_12 g v_10) else (bi (f_V_scaleOf g v_5 r_4) fun r_15 v_13 => f_B_number_62 r_15 g v_13)) else (some (.inl (0), g, v_5)))
set_option maxHeartbeats 4000000 in
set_option maxRecDepth 100000 in
theorem w_B_number_6 {p : Program} {l : Launch} {e : Env} {s : State} {m : MethodId} {args : Array Value} {below : List Frame} {meth : Method} {c : Code} {Z : bZ} {A : Nat → Prop} {q0 g0 : Nat → Nat} {o : bO Int32}  (C0 : bn_C "FilterBench" b_B_number 5 Z A p l s m args meth c) (hr : meth.sig.returnType = (some .int)) (hnx : ∀ x ∈ c.exceptionTable.toList, False) : ∀ (x1 : Int32) (x2 : Int32) (x3 : Int32) (g : Nat → Nat) (v : mS) (q : Nat → Nat) (H : Heap) (locs : List Loc) (ls : Array Slot), f_B_number_6  x1 x2 x3 g v = some o → qs q0 q → gL g0 ≤ gL g → gL g ≤ gL o.2.1 → bn_H Z A s (q, g, v) H locs → lv_has ls 5 [(0, .ref (q 0)), (1, .int x1), (2, .int x2), (3, .int x3)] → bx_W p l e s m args below meth c Z A q0 g0 enI o 8 g H locs (F0 m 6 ls []) := by
  have hx := C0.1
  have hb := C0.2.1
  have hl0 := C0.2.2.2.2.2.2.2.2.2
  intro x1 x2 x3 g v q H locs ls h hq hm0 hm hH hl
  unfold f_B_number_6 at h
  have hcl9 := bx_room (h0 := 8) (o := o) hm0 hm
  refine lv_aload_n hx hb d_B_number_6 rfl (lv_at hl 0 rfl) ?_
  refine bn_g_B_values ⟨by decide, by decide⟩ C0 hH d_B_number_7 ?_
  refine lv_aload_n hx hb d_B_number_10 rfl (lv_at hl 0 rfl) ?_
  refine bn_g_B_slots ⟨by decide, by decide⟩ C0 hH d_B_number_11 ?_
  refine lv_iload_n hx hb d_B_number_14 rfl (lv_at hl 1 rfl) ?_
  obtain ⟨g_1, h⟩ := gd_out h
  refine bn_ld ⟨by decide, by decide⟩ C0 hH (inB_in g_1) d_B_number_15 ?_
  refine lv_iload_n hx hb d_B_number_16 rfl (lv_at hl 2 rfl) ?_
  obtain ⟨r_4, v_2, hc_3, h⟩ := bi_out h
  refine bn_ci (r := r_4) (w := (q, g, v_2)) (as := [.int (v 6 (x1 : Int32).toNatClampNeg), .int x2]) (rest := []) C0 hH (ci := 4) ⟨by decide, by decide⟩ (by decide) rfl (c_V_partAt hl0 hc_3) yy_V_partAt q_866 ⟨by simp only [bn_rm, dK]; omega, by simp only [bn_rm, dK]; omega⟩ rfl hl.1 rfl (Nat.le_of_ble_eq_true rfl) hcl9 d_B_number_17 (fun H locs hH => ?_)
  refine lv_istore (lv' := [(4, .int r_4), (0, .ref (q 0)), (1, .int x1), (2, .int x2), (3, .int x3)]) hx hb d_B_number_20 hl (by decide) rfl (fun ls hl => ?_)
  refine lv_aload_n hx hb d_B_number_22 rfl (lv_at hl 1 rfl) ?_
  refine bn_g_B_values ⟨by decide, by decide⟩ C0 hH d_B_number_23 ?_
  refine lv_iload hx hb d_B_number_26 (lv_at hl 0 rfl) ?_
  obtain ⟨r_7, v_5, hc_6, h⟩ := bi_out h
  refine bn_ci (r := r_7) (w := (q, g, v_5)) (as := [.int r_4]) (rest := []) C0 hH (ci := 4) ⟨by decide, by decide⟩ (by decide) rfl (c_V_kindOf hl0 hc_6) yy_V_kindOf q_875 ⟨by simp only [bn_rm, dK]; omega, by simp only [bn_rm, dK]; omega⟩ rfl hl.1 rfl (Nat.le_of_ble_eq_true rfl) hcl9 d_B_number_28 (fun H locs hH => ?_)
  refine lv_iconst (v := 3) hx hb d_B_number_31 (by decide) ?_
  refine lv_icmp_eq (tgt := 37) hx hb d_B_number_32 (by decide) (fun c_8 => ?_) (fun c_8 => ?_)
  · rw [if_pos c_8] at h
    refine lv_iload_n hx hb d_B_number_37 rfl (lv_at hl 4 rfl) ?_
    refine lv_if_eq (tgt := 53) hx hb d_B_number_38 (by decide) (fun c_9 => ?_) (fun c_9 => ?_)
    · rw [if_pos c_9] at h
      refine lv_aload_n hx hb d_B_number_53 rfl (lv_at hl 1 rfl) ?_
      refine bn_g_B_values ⟨by decide, by decide⟩ C0 hH d_B_number_54 ?_
      refine lv_iload hx hb d_B_number_57 (lv_at hl 0 rfl) ?_
      obtain ⟨r_12, v_10, hc_11, h⟩ := bi_out h
      refine bn_ci (r := r_12) (w := (q, g, v_10)) (as := [.int r_4]) (rest := []) C0 hH (ci := 4) ⟨by decide, by decide⟩ (by decide) rfl (c_V_wholeOf hl0 hc_11) yy_V_wholeOf q_891 ⟨by simp only [bn_rm, dK]; omega, by simp only [bn_rm, dK]; omega⟩ rfl hl.1 rfl (Nat.le_of_ble_eq_true rfl) hcl9 d_B_number_59 (fun H locs hH => ?_)
      exact w_B_number_62 C0 hr hnx  _ _ _ _ _ _ _ h hq hm0 hm hH (lv_sub hl [] rfl)
    · rw [if_neg c_9] at h
      refine lv_aload_n hx hb d_B_number_41 rfl (lv_at hl 1 rfl) ?_
      refine bn_g_B_values ⟨by decide, by decide⟩ C0 hH d_B_number_42 ?_
      refine lv_iload hx hb d_B_number_45 (lv_at hl 0 rfl) ?_
      obtain ⟨r_15, v_13, hc_14, h⟩ := bi_out h
      refine bn_ci (r := r_15) (w := (q, g, v_13)) (as := [.int r_4]) (rest := []) C0 hH (ci := 4) ⟨by decide, by decide⟩ (by decide) rfl (c_V_scaleOf hl0 hc_14) yy_V_scaleOf q_890 ⟨by simp only [bn_rm, dK]; omega, by simp only [bn_rm, dK]; omega⟩ rfl hl.1 rfl (Nat.le_of_ble_eq_true rfl) hcl9 d_B_number_47 (fun H locs hH => ?_)
      refine lv_goto (tgt := 62) hx hb d_B_number_50 (by decide) ?_
      exact w_B_number_62 C0 hr hnx  _ _ _ _ _ _ _ h hq hm0 hm hH (lv_sub hl [] rfl)
  · rw [if_neg c_8] at h
    refine lv_iconst (v := 0) hx hb d_B_number_35 (by decide) ?_
    exact bx_iret C0 hr hq hH hm0 d_B_number_36 h
def f_B_number (g : Nat → Nat) (v : mS) (x1 : Int32) (x2 : Int32) (x3 : Int32) : Option (bO Int32) := mg g (bo (f_B_requirePart g v x1 x2) fun r9 g9 v9 => f_B_number_6 x1 x2 x3 g9 v9)
theorem mn_B_number {g : Nat → Nat} {v : mS}  {x1 : Int32} {x2 : Int32} {x3 : Int32} {o : bO Int32} (h : f_B_number g v x1 x2 x3 = some o) : gL g ≤ gL o.2.1 := (mg_out h).1
set_option maxHeartbeats 4000000 in
set_option maxRecDepth 100000 in
theorem c_B_number {l : Launch} {Z : bZ} (hl0 : l.stackTraces = false) {q g : Nat → Nat} {v : mS}  {x1 : Int32} {x2 : Int32} {x3 : Int32} {o : bO Int32} (h : f_B_number g v x1 x2 x3 = some o) : bx_M l Z 8 y_B_number b_B_number 5 (some .int) [.ref (q 0), .int x1, .int x2, .int x3] q g v enI o := by
  refine bx_of hl0 (by decide +kernel) (Nat.le_of_ble_eq_true rfl) ?_
  intro p e s m args below meth c A ls C0 hr hnx hl hH
  have hx := C0.1
  have hb := C0.2.1
  have C0 : bn_C "FilterBench" b_B_number 5 Z A p l s m args meth c := C0
  have hl : lv_has ls 5 [(0, .ref (q 0)), (1, .int x1), (2, .int x2), (3, .int x3)] := hl
  obtain ⟨hm, h⟩ := mg_out h
  have hm0 : gL g ≤ gL g := Nat.le_refl _
  have hq : qs q q := qs.rf
  have hcl9 := bx_room (h0 := 8) (o := o) hm0 hm
  refine lv_aload_n hx hb d_B_number_0 rfl (lv_at hl 0 rfl) ?_
  refine lv_iload_n hx hb d_B_number_1 rfl (lv_at hl 1 rfl) ?_
  refine lv_iload_n hx hb d_B_number_2 rfl (lv_at hl 2 rfl) ?_
  obtain ⟨o1, hc, hm2, ht9, hx1, hk9⟩ := bo_out h
  have hm1 := mn_B_requirePart hc
  refine bx_cV (as := [.int x1, .int x2]) (rest := []) C0 hnx hq hH hm0 hm1 hm2 ht9 (ci := 0) ⟨by decide, by decide⟩ (by decide) rfl (c_B_requirePart hl0 hc) yy_B_requirePart q_861 ⟨by first | omega | (simp only [dK]; omega), by first | omega | (simp only [dK]; omega)⟩ rfl hl.1 rfl (Nat.le_of_ble_eq_true rfl) d_B_number_3 hx1 (fun r9 q1 H locs hr1 hq0 hq1 hm9 hH => ?_)
  have h := hk9 r9 hr1
  have e9 : q1 0 = q 0 := (hq1 0 (by decide) (by decide))
  try rw [← e9] at hl
  try rw [← e9]
  exact w_B_number_6 C0 hr hnx  _ _ _ _ _ _ _ _ _ h hq0 hm9 hm2 hH (lv_sub hl [0, 1, 2, 3] rfl)
def f_B_character_73   (g : Nat → Nat) (v : mS) : Option (bO Int32) := some (.inr 1, g, v)
set_option maxHeartbeats 4000000 in
set_option maxRecDepth 100000 in
theorem w_B_character_73 {p : Program} {l : Launch} {e : Env} {s : State} {m : MethodId} {args : Array Value} {below : List Frame} {meth : Method} {c : Code} {Z : bZ} {A : Nat → Prop} {q0 g0 : Nat → Nat} {o : bO Int32}  (C0 : bn_C "FilterBench" b_B_character 6 Z A p l s m args meth c) (hr : meth.sig.returnType = (some .int)) (hnx : ∀ x ∈ c.exceptionTable.toList, False) : ∀  (g : Nat → Nat) (v : mS) (q : Nat → Nat) (H : Heap) (locs : List Loc) (ls : Array Slot), f_B_character_73   g v = some o → qs q0 q → gL g0 ≤ gL g → gL g ≤ gL o.2.1 → bn_H Z A s (q, g, v) H locs → lv_has ls 6 [] → bx_W p l e s m args below meth c Z A q0 g0 enI o 8 g H locs (F0 m 73 ls []) := by
  have hx := C0.1
  have hb := C0.2.1
  have hl0 := C0.2.2.2.2.2.2.2.2.2
  intro  g v q H locs ls h hq hm0 hm hH hl
  unfold f_B_character_73 at h
  have hcl9 := bx_room (h0 := 8) (o := o) hm0 hm
  exact bx_throwN (i := 12) (rest := []) C0 hnx hq hH hm0 rfl hl.1 d_B_character_73 d_B_character_76 d_B_character_77 d_B_character_79 d_B_character_82 (Nat.le_of_ble_eq_true rfl) (Nat.le_of_ble_eq_true rfl) h
def f_B_character_42  (x3 : Int32) (y0 : Int32) (g : Nat → Nat) (v : mS) : Option (bO Int32) := bi (f_V_kindOf g v y0) fun r_3 v_1 => if r_3 = 4 then (bi (f_V_lengthOf g v_1 y0) fun r_7 v_5 => bi (f_B_isBelow g v_5 x3 r_7) fun r_10 v_8 => if r_10 = 0 then (f_B_character_73 g v_8) else (bi (f_V_letterAt g v_8 y0 x3) fun r_14 v_12 => some (.inl (r_14), g, v_12))) else (f_B_character_73 g v_1)
set_option maxHeartbeats 4000000 in
set_option maxRecDepth 100000 in
theorem w_B_character_42 {p : Program} {l : Launch} {e : Env} {s : State} {m : MethodId} {args : Array Value} {below : List Frame} {meth : Method} {c : Code} {Z : bZ} {A : Nat → Prop} {q0 g0 : Nat → Nat} {o : bO Int32}  (C0 : bn_C "FilterBench" b_B_character 6 Z A p l s m args meth c) (hr : meth.sig.returnType = (some .int)) (hnx : ∀ x ∈ c.exceptionTable.toList, False) : ∀ (x3 : Int32) (y0 : Int32) (g : Nat → Nat) (v : mS) (q : Nat → Nat) (H : Heap) (locs : List Loc) (ls : Array Slot), f_B_character_42  x3 y0 g v = some o → qs q0 q → gL g0 ≤ gL g → gL g ≤ gL o.2.1 → bn_H Z A s (q, g, v) H locs → lv_has ls 6 [(0, .ref (q 0)), (3, .int x3)] → bx_W p l e s m args below meth c Z A q0 g0 enI o 8 g H locs (F0 m 42 ls [.int y0]) := by
  have hx := C0.1
  have hb := C0.2.1
  have hl0 := C0.2.2.2.2.2.2.2.2.2
  intro x3 y0 g v q H locs ls h hq hm0 hm hH hl
  unfold f_B_character_42 at h
  have hcl9 := bx_room (h0 := 8) (o := o) hm0 hm
  refine lv_istore (lv' := [(5, .int y0), (0, .ref (q 0)), (3, .int x3)]) hx hb d_B_character_42 hl (by decide) rfl (fun ls hl => ?_)
  refine lv_aload_n hx hb d_B_character_44 rfl (lv_at hl 1 rfl) ?_
  refine bn_g_B_values ⟨by decide, by decide⟩ C0 hH d_B_character_45 ?_
  refine lv_iload hx hb d_B_character_48 (lv_at hl 0 rfl) ?_
  obtain ⟨r_3, v_1, hc_2, h⟩ := bi_out h
  refine bn_ci (r := r_3) (w := (q, g, v_1)) (as := [.int y0]) (rest := []) C0 hH (ci := 4) ⟨by decide, by decide⟩ (by decide) rfl (c_V_kindOf hl0 hc_2) yy_V_kindOf q_875 ⟨by simp only [bn_rm, dK]; omega, by simp only [bn_rm, dK]; omega⟩ rfl hl.1 rfl (Nat.le_of_ble_eq_true rfl) hcl9 d_B_character_50 (fun H locs hH => ?_)
  refine lv_iconst (v := 4) hx hb d_B_character_53 (by decide) ?_
  refine lv_icmp_ne (tgt := 73) hx hb d_B_character_54 (by decide) (fun c_4 => ?_) (fun c_4 => ?_)
  · rw [if_neg c_4] at h
    exact w_B_character_73 C0 hr hnx   _ _ _ _ _ _ h hq hm0 hm hH (lv_sub hl [] rfl)
  · rw [if_pos c_4] at h
    refine lv_iload_n hx hb d_B_character_57 rfl (lv_at hl 2 rfl) ?_
    refine lv_aload_n hx hb d_B_character_58 rfl (lv_at hl 1 rfl) ?_
    refine bn_g_B_values ⟨by decide, by decide⟩ C0 hH d_B_character_59 ?_
    refine lv_iload hx hb d_B_character_62 (lv_at hl 0 rfl) ?_
    obtain ⟨r_7, v_5, hc_6, h⟩ := bi_out h
    refine bn_ci (r := r_7) (w := (q, g, v_5)) (as := [.int y0]) (rest := [.int x3]) C0 hH (ci := 4) ⟨by decide, by decide⟩ (by decide) rfl (c_V_lengthOf hl0 hc_6) yy_V_lengthOf q_359 ⟨by simp only [bn_rm, dK]; omega, by simp only [bn_rm, dK]; omega⟩ rfl hl.1 rfl (Nat.le_of_ble_eq_true rfl) hcl9 d_B_character_64 (fun H locs hH => ?_)
    obtain ⟨r_10, v_8, hc_9, h⟩ := bi_out h
    refine bn_si (r := r_10) (w := (q, g, v_8)) (as := [.int x3, .int r_7]) (rest := []) C0 hH (c_B_isBelow hl0 hc_9) yy_B_isBelow q_284 ⟨by simp only [bn_rm, dK]; omega, by simp only [bn_rm, dK]; omega⟩ rfl hl.1 rfl (Nat.le_of_ble_eq_true rfl) hcl9 d_B_character_67 (fun H locs hH => ?_)
    refine lv_if_ne (tgt := 83) hx hb d_B_character_70 (by decide) (fun c_11 => ?_) (fun c_11 => ?_)
    · rw [if_neg c_11] at h
      refine lv_aload_n hx hb d_B_character_83 rfl (lv_at hl 1 rfl) ?_
      refine bn_g_B_values ⟨by decide, by decide⟩ C0 hH d_B_character_84 ?_
      refine lv_iload hx hb d_B_character_87 (lv_at hl 0 rfl) ?_
      refine lv_iload_n hx hb d_B_character_89 rfl (lv_at hl 2 rfl) ?_
      obtain ⟨r_14, v_12, hc_13, h⟩ := bi_out h
      refine bn_ci (r := r_14) (w := (q, g, v_12)) (as := [.int y0, .int x3]) (rest := []) C0 hH (ci := 4) ⟨by decide, by decide⟩ (by decide) rfl (c_V_letterAt hl0 hc_13) yy_V_letterAt q_904 ⟨by simp only [bn_rm, dK]; omega, by simp only [bn_rm, dK]; omega⟩ rfl hl.1 rfl (Nat.le_of_ble_eq_true rfl) hcl9 d_B_character_90 (fun H locs hH => ?_)
      exact bx_iret C0 hr hq hH hm0 d_B_character_93 h
    · rw [if_pos c_11] at h
      exact w_B_character_73 C0 hr hnx   _ _ _ _ _ _ h hq hm0 hm hH (lv_sub hl [] rfl)
def f_B_character_6  (x1 : Int32) (x2 : Int32) (x3 : Int32) (x4 : Int32) (g : Nat → Nat) (v : mS) : Option (bO Int32) := if x4 = 0 then (gd (inB x1 8) (bi (f_V_partAt g v (v 6 (x1 : Int32).toNatClampNeg) x2) fun r_5 v_3 => f_B_character_42 x3 r_5 g v_3)) else (gd (inB x1 8) (bi (f_V_nameOfPart g v (v 6 (x1 : Int32).toNatClampNeg) x2) fun r_9 v_7 => f_B_character_42 x3 r_9 g v_7))
set_option maxHeartbeats 4000000 in
set_option maxRecDepth 100000 in
theorem w_B_character_6 {p : Program} {l : Launch} {e : Env} {s : State} {m : MethodId} {args : Array Value} {below : List Frame} {meth : Method} {c : Code} {Z : bZ} {A : Nat → Prop} {q0 g0 : Nat → Nat} {o : bO Int32}  (C0 : bn_C "FilterBench" b_B_character 6 Z A p l s m args meth c) (hr : meth.sig.returnType = (some .int)) (hnx : ∀ x ∈ c.exceptionTable.toList, False) : ∀ (x1 : Int32) (x2 : Int32) (x3 : Int32) (x4 : Int32) (g : Nat → Nat) (v : mS) (q : Nat → Nat) (H : Heap) (locs : List Loc) (ls : Array Slot), f_B_character_6  x1 x2 x3 x4 g v = some o → qs q0 q → gL g0 ≤ gL g → gL g ≤ gL o.2.1 → bn_H Z A s (q, g, v) H locs → lv_has ls 6 [(0, .ref (q 0)), (1, .int x1), (2, .int x2), (3, .int x3), (4, .int x4)] → bx_W p l e s m args below meth c Z A q0 g0 enI o 8 g H locs (F0 m 6 ls []) := by
  have hx := C0.1
  have hb := C0.2.1
  have hl0 := C0.2.2.2.2.2.2.2.2.2
  intro x1 x2 x3 x4 g v q H locs ls h hq hm0 hm hH hl
  unfold f_B_character_6 at h
  have hcl9 := bx_room (h0 := 8) (o := o) hm0 hm
  refine lv_iload hx hb d_B_character_6 (lv_at hl 4 rfl) ?_
  refine lv_if_eq (tgt := 28) hx hb d_B_character_8 (by decide) (fun c_1 => ?_) (fun c_1 => ?_)
  · rw [if_pos c_1] at h
    refine lv_aload_n hx hb d_B_character_28 rfl (lv_at hl 0 rfl) ?_
    refine bn_g_B_values ⟨by decide, by decide⟩ C0 hH d_B_character_29 ?_
    refine lv_aload_n hx hb d_B_character_32 rfl (lv_at hl 0 rfl) ?_
    refine bn_g_B_slots ⟨by decide, by decide⟩ C0 hH d_B_character_33 ?_
    refine lv_iload_n hx hb d_B_character_36 rfl (lv_at hl 1 rfl) ?_
    obtain ⟨g_2, h⟩ := gd_out h
    refine bn_ld ⟨by decide, by decide⟩ C0 hH (inB_in g_2) d_B_character_37 ?_
    refine lv_iload_n hx hb d_B_character_38 rfl (lv_at hl 2 rfl) ?_
    obtain ⟨r_5, v_3, hc_4, h⟩ := bi_out h
    refine bn_ci (r := r_5) (w := (q, g, v_3)) (as := [.int (v 6 (x1 : Int32).toNatClampNeg), .int x2]) (rest := []) C0 hH (ci := 4) ⟨by decide, by decide⟩ (by decide) rfl (c_V_partAt hl0 hc_4) yy_V_partAt q_866 ⟨by simp only [bn_rm, dK]; omega, by simp only [bn_rm, dK]; omega⟩ rfl hl.1 rfl (Nat.le_of_ble_eq_true rfl) hcl9 d_B_character_39 (fun H locs hH => ?_)
    exact w_B_character_42 C0 hr hnx  _ _ _ _ _ _ _ _ h hq hm0 hm hH (lv_sub hl [0, 3] rfl)
  · rw [if_neg c_1] at h
    refine lv_aload_n hx hb d_B_character_11 rfl (lv_at hl 0 rfl) ?_
    refine bn_g_B_values ⟨by decide, by decide⟩ C0 hH d_B_character_12 ?_
    refine lv_aload_n hx hb d_B_character_15 rfl (lv_at hl 0 rfl) ?_
    refine bn_g_B_slots ⟨by decide, by decide⟩ C0 hH d_B_character_16 ?_
    refine lv_iload_n hx hb d_B_character_19 rfl (lv_at hl 1 rfl) ?_
    obtain ⟨g_6, h⟩ := gd_out h
    refine bn_ld ⟨by decide, by decide⟩ C0 hH (inB_in g_6) d_B_character_20 ?_
    refine lv_iload_n hx hb d_B_character_21 rfl (lv_at hl 2 rfl) ?_
    obtain ⟨r_9, v_7, hc_8, h⟩ := bi_out h
    refine bn_ci (r := r_9) (w := (q, g, v_7)) (as := [.int (v 6 (x1 : Int32).toNatClampNeg), .int x2]) (rest := []) C0 hH (ci := 4) ⟨by decide, by decide⟩ (by decide) rfl (c_V_nameOfPart hl0 hc_8) yy_V_nameOfPart q_899 ⟨by simp only [bn_rm, dK]; omega, by simp only [bn_rm, dK]; omega⟩ rfl hl.1 rfl (Nat.le_of_ble_eq_true rfl) hcl9 d_B_character_22 (fun H locs hH => ?_)
    refine lv_goto (tgt := 42) hx hb d_B_character_25 (by decide) ?_
    exact w_B_character_42 C0 hr hnx  _ _ _ _ _ _ _ _ h hq hm0 hm hH (lv_sub hl [0, 3] rfl)
def f_B_character (g : Nat → Nat) (v : mS) (x1 : Int32) (x2 : Int32) (x3 : Int32) (x4 : Int32) : Option (bO Int32) := mg g (bo (f_B_requirePart g v x1 x2) fun r9 g9 v9 => f_B_character_6 x1 x2 x3 x4 g9 v9)
theorem mn_B_character {g : Nat → Nat} {v : mS}  {x1 : Int32} {x2 : Int32} {x3 : Int32} {x4 : Int32} {o : bO Int32} (h : f_B_character g v x1 x2 x3 x4 = some o) : gL g ≤ gL o.2.1 := (mg_out h).1
set_option maxHeartbeats 4000000 in
set_option maxRecDepth 100000 in
theorem c_B_character {l : Launch} {Z : bZ} (hl0 : l.stackTraces = false) {q g : Nat → Nat} {v : mS}  {x1 : Int32} {x2 : Int32} {x3 : Int32} {x4 : Int32} {o : bO Int32} (h : f_B_character g v x1 x2 x3 x4 = some o) : bx_M l Z 8 y_B_character b_B_character 6 (some .int) [.ref (q 0), .int x1, .int x2, .int x3, .int x4] q g v enI o := by
  refine bx_of hl0 (by decide +kernel) (Nat.le_of_ble_eq_true rfl) ?_
  intro p e s m args below meth c A ls C0 hr hnx hl hH
  have hx := C0.1
  have hb := C0.2.1
  have C0 : bn_C "FilterBench" b_B_character 6 Z A p l s m args meth c := C0
  have hl : lv_has ls 6 [(0, .ref (q 0)), (1, .int x1), (2, .int x2), (3, .int x3), (4, .int x4)] := hl
  obtain ⟨hm, h⟩ := mg_out h
  have hm0 : gL g ≤ gL g := Nat.le_refl _
  have hq : qs q q := qs.rf
  have hcl9 := bx_room (h0 := 8) (o := o) hm0 hm
  refine lv_aload_n hx hb d_B_character_0 rfl (lv_at hl 0 rfl) ?_
  refine lv_iload_n hx hb d_B_character_1 rfl (lv_at hl 1 rfl) ?_
  refine lv_iload_n hx hb d_B_character_2 rfl (lv_at hl 2 rfl) ?_
  obtain ⟨o1, hc, hm2, ht9, hx1, hk9⟩ := bo_out h
  have hm1 := mn_B_requirePart hc
  refine bx_cV (as := [.int x1, .int x2]) (rest := []) C0 hnx hq hH hm0 hm1 hm2 ht9 (ci := 0) ⟨by decide, by decide⟩ (by decide) rfl (c_B_requirePart hl0 hc) yy_B_requirePart q_861 ⟨by first | omega | (simp only [dK]; omega), by first | omega | (simp only [dK]; omega)⟩ rfl hl.1 rfl (Nat.le_of_ble_eq_true rfl) d_B_character_3 hx1 (fun r9 q1 H locs hr1 hq0 hq1 hm9 hH => ?_)
  have h := hk9 r9 hr1
  have e9 : q1 0 = q 0 := (hq1 0 (by decide) (by decide))
  try rw [← e9] at hl
  try rw [← e9]
  exact w_B_character_6 C0 hr hnx  _ _ _ _ _ _ _ _ _ _ h hq0 hm9 hm2 hH (lv_sub hl [0, 1, 2, 3, 4] rfl)
def f_B_order_26  (x1 : Int32) (x2 : Int32) (g : Nat → Nat) (v : mS) : Option (bO Int32) := gd (inB x1 8) (gd (inB x2 8) (bi (f_V_compared dK g v (v 6 (x1 : Int32).toNatClampNeg) (v 6 (x2 : Int32).toNatClampNeg)) fun r_5 v_3 => some (.inl (r_5), g, v_3)))
set_option maxHeartbeats 4000000 in
set_option maxRecDepth 100000 in
theorem w_B_order_26 {p : Program} {l : Launch} {e : Env} {s : State} {m : MethodId} {args : Array Value} {below : List Frame} {meth : Method} {c : Code} {Z : bZ} {A : Nat → Prop} {q0 g0 : Nat → Nat} {o : bO Int32}  (C0 : bn_C "FilterBench" b_B_order 3 Z A p l s m args meth c) (hr : meth.sig.returnType = (some .int)) (hnx : ∀ x ∈ c.exceptionTable.toList, False) : ∀ (x1 : Int32) (x2 : Int32) (g : Nat → Nat) (v : mS) (q : Nat → Nat) (H : Heap) (locs : List Loc) (ls : Array Slot), f_B_order_26  x1 x2 g v = some o → qs q0 q → gL g0 ≤ gL g → gL g ≤ gL o.2.1 → bn_H Z A s (q, g, v) H locs → lv_has ls 3 [(0, .ref (q 0)), (1, .int x1), (2, .int x2)] → bx_W p l e s m args below meth c Z A q0 g0 enI o 31 g H locs (F0 m 26 ls []) := by
  have hx := C0.1
  have hb := C0.2.1
  have hl0 := C0.2.2.2.2.2.2.2.2.2
  intro x1 x2 g v q H locs ls h hq hm0 hm hH hl
  unfold f_B_order_26 at h
  have hcl9 := bx_room (h0 := 31) (o := o) hm0 hm
  refine lv_aload_n hx hb d_B_order_26 rfl (lv_at hl 0 rfl) ?_
  refine bn_g_B_values ⟨by decide, by decide⟩ C0 hH d_B_order_27 ?_
  refine lv_aload_n hx hb d_B_order_30 rfl (lv_at hl 0 rfl) ?_
  refine bn_g_B_slots ⟨by decide, by decide⟩ C0 hH d_B_order_31 ?_
  refine lv_iload_n hx hb d_B_order_34 rfl (lv_at hl 1 rfl) ?_
  obtain ⟨g_1, h⟩ := gd_out h
  refine bn_ld ⟨by decide, by decide⟩ C0 hH (inB_in g_1) d_B_order_35 ?_
  refine lv_aload_n hx hb d_B_order_36 rfl (lv_at hl 0 rfl) ?_
  refine bn_g_B_slots ⟨by decide, by decide⟩ C0 hH d_B_order_37 ?_
  refine lv_iload_n hx hb d_B_order_40 rfl (lv_at hl 2 rfl) ?_
  obtain ⟨g_2, h⟩ := gd_out h
  refine bn_ld ⟨by decide, by decide⟩ C0 hH (inB_in g_2) d_B_order_41 ?_
  obtain ⟨r_5, v_3, hc_4, h⟩ := bi_out h
  refine bn_ni (r := r_5) (w := (q, g, v_3)) (as := [.int (v 6 (x1 : Int32).toNatClampNeg), .int (v 6 (x2 : Int32).toNatClampNeg)]) (rest := []) C0 hH (ci := 4) ⟨by decide, by decide⟩ (by decide) rfl (c_V_comparedn hl0 dK hc_4) yy_V_compared (C0.2.2.2.2.2.2.2.2.1.2.2.2.2.2.2.1 _ (List.mem_of_getElem? (i := 8) rfl)) ⟨by simp only [bn_rm, dK]; omega, by simp only [bn_rm, dK]; omega⟩ rfl hl.1 rfl (Nat.le_of_ble_eq_true rfl) hcl9 d_B_order_42 (fun H locs hH => ?_)
  exact bx_iret C0 hr hq hH hm0 d_B_order_45 h
def f_B_order_23  (x1 : Int32) (x2 : Int32) (y0 : Int32) (g : Nat → Nat) (v : mS) : Option (bO Int32) := bo (f_B_require g v y0) fun r9 g9 v9 => f_B_order_26 x1 x2 g9 v9
set_option maxHeartbeats 4000000 in
set_option maxRecDepth 100000 in
theorem w_B_order_23 {p : Program} {l : Launch} {e : Env} {s : State} {m : MethodId} {args : Array Value} {below : List Frame} {meth : Method} {c : Code} {Z : bZ} {A : Nat → Prop} {q0 g0 : Nat → Nat} {o : bO Int32}  (C0 : bn_C "FilterBench" b_B_order 3 Z A p l s m args meth c) (hr : meth.sig.returnType = (some .int)) (hnx : ∀ x ∈ c.exceptionTable.toList, False) : ∀ (x1 : Int32) (x2 : Int32) (y0 : Int32) (g : Nat → Nat) (v : mS) (q : Nat → Nat) (H : Heap) (locs : List Loc) (ls : Array Slot), f_B_order_23  x1 x2 y0 g v = some o → qs q0 q → gL g0 ≤ gL g → gL g ≤ gL o.2.1 → bn_H Z A s (q, g, v) H locs → lv_has ls 3 [(0, .ref (q 0)), (1, .int x1), (2, .int x2)] → bx_W p l e s m args below meth c Z A q0 g0 enI o 31 g H locs (F0 m 23 ls [.int y0]) := by
  have hx := C0.1
  have hb := C0.2.1
  have hl0 := C0.2.2.2.2.2.2.2.2.2
  intro x1 x2 y0 g v q H locs ls h hq hm0 hm hH hl
  unfold f_B_order_23 at h
  have hcl9 := bx_room (h0 := 31) (o := o) hm0 hm
  obtain ⟨o1, hc, hm2, ht9, hx1, hk9⟩ := bo_out h
  have hm1 := mn_B_require hc
  refine bx_cS (as := [.int y0]) (rest := []) C0 hnx hq hH hm0 hm1 hm2 ht9 (c_B_require hl0 hc) yy_B_require q_287 ⟨by first | omega | (simp only [dK]; omega), by first | omega | (simp only [dK]; omega)⟩ rfl hl.1 rfl (Nat.le_of_ble_eq_true rfl) d_B_order_23 hx1 (fun r9 q1 H locs hr1 hq0 hq1 hm9 hH => ?_)
  have h := hk9 r9 hr1
  have e9 : q1 0 = q 0 := (hq1 0 (by decide) (by decide))
  try rw [← e9] at hl
  try rw [← e9]
  exact w_B_order_26 C0 hr hnx  _ _ _ _ _ _ _ _ h hq0 hm9 hm2 hH (lv_sub hl [0, 1, 2] rfl)
def f_B_order_22  (x1 : Int32) (x2 : Int32) (g : Nat → Nat) (v : mS) : Option (bO Int32) := f_B_order_23 x1 x2 0 g v
set_option maxHeartbeats 4000000 in
set_option maxRecDepth 100000 in
theorem w_B_order_22 {p : Program} {l : Launch} {e : Env} {s : State} {m : MethodId} {args : Array Value} {below : List Frame} {meth : Method} {c : Code} {Z : bZ} {A : Nat → Prop} {q0 g0 : Nat → Nat} {o : bO Int32}  (C0 : bn_C "FilterBench" b_B_order 3 Z A p l s m args meth c) (hr : meth.sig.returnType = (some .int)) (hnx : ∀ x ∈ c.exceptionTable.toList, False) : ∀ (x1 : Int32) (x2 : Int32) (g : Nat → Nat) (v : mS) (q : Nat → Nat) (H : Heap) (locs : List Loc) (ls : Array Slot), f_B_order_22  x1 x2 g v = some o → qs q0 q → gL g0 ≤ gL g → gL g ≤ gL o.2.1 → bn_H Z A s (q, g, v) H locs → lv_has ls 3 [(0, .ref (q 0)), (1, .int x1), (2, .int x2)] → bx_W p l e s m args below meth c Z A q0 g0 enI o 31 g H locs (F0 m 22 ls []) := by
  have hx := C0.1
  have hb := C0.2.1
  have hl0 := C0.2.2.2.2.2.2.2.2.2
  intro x1 x2 g v q H locs ls h hq hm0 hm hH hl
  unfold f_B_order_22 at h
  have hcl9 := bx_room (h0 := 31) (o := o) hm0 hm
  refine lv_iconst (v := 0) hx hb d_B_order_22 (by decide) ?_
  exact w_B_order_23 C0 hr hnx  _ _ _ _ _ _ _ _ _ h hq hm0 hm hH (lv_sub hl [0, 1, 2] rfl)
def f_B_order (g : Nat → Nat) (v : mS) (x1 : Int32) (x2 : Int32) : Option (bO Int32) := mg g (bi (f_B_isBelow g v x1 8) fun r_3 v_1 => if r_3 = 0 then (f_B_order_22 x1 x2 g v_1) else (bi (f_B_isBelow g v_1 x2 8) fun r_7 v_5 => if r_7 = 0 then (f_B_order_22 x1 x2 g v_5) else (f_B_order_23 x1 x2 1 g v_5)))
theorem mn_B_order {g : Nat → Nat} {v : mS}  {x1 : Int32} {x2 : Int32} {o : bO Int32} (h : f_B_order g v x1 x2 = some o) : gL g ≤ gL o.2.1 := (mg_out h).1
set_option maxHeartbeats 4000000 in
set_option maxRecDepth 100000 in
theorem c_B_order {l : Launch} {Z : bZ} (hl0 : l.stackTraces = false) {q g : Nat → Nat} {v : mS}  {x1 : Int32} {x2 : Int32} {o : bO Int32} (h : f_B_order g v x1 x2 = some o) : bx_M l Z 31 y_B_order b_B_order 3 (some .int) [.ref (q 0), .int x1, .int x2] q g v enI o := by
  refine bx_of hl0 (by decide +kernel) (Nat.le_of_ble_eq_true rfl) ?_
  intro p e s m args below meth c A ls C0 hr hnx hl hH
  have hx := C0.1
  have hb := C0.2.1
  have C0 : bn_C "FilterBench" b_B_order 3 Z A p l s m args meth c := C0
  have hl : lv_has ls 3 [(0, .ref (q 0)), (1, .int x1), (2, .int x2)] := hl
  obtain ⟨hm, h⟩ := mg_out h
  have hm0 : gL g ≤ gL g := Nat.le_refl _
  have hq : qs q q := qs.rf
  have hcl9 := bx_room (h0 := 31) (o := o) hm0 hm
  refine lv_iload_n hx hb d_B_order_0 rfl (lv_at hl 1 rfl) ?_
  refine lv_bipush (v := 8) hx hb d_B_order_1 (by decide) ?_
  obtain ⟨r_3, v_1, hc_2, h⟩ := bi_out h
  refine bn_si (r := r_3) (w := (q, g, v_1)) (as := [.int x1, .int 8]) (rest := []) C0 hH (c_B_isBelow hl0 hc_2) yy_B_isBelow q_284 ⟨by simp only [bn_rm, dK]; omega, by simp only [bn_rm, dK]; omega⟩ rfl hl.1 rfl (Nat.le_of_ble_eq_true rfl) hcl9 d_B_order_3 (fun H locs hH => ?_)
  refine lv_if_eq (tgt := 22) hx hb d_B_order_6 (by decide) (fun c_4 => ?_) (fun c_4 => ?_)
  · rw [if_pos c_4] at h
    exact w_B_order_22 C0 hr hnx  _ _ _ _ _ _ _ _ h hq hm0 hm hH (lv_sub hl [0, 1, 2] rfl)
  · rw [if_neg c_4] at h
    refine lv_iload_n hx hb d_B_order_9 rfl (lv_at hl 2 rfl) ?_
    refine lv_bipush (v := 8) hx hb d_B_order_10 (by decide) ?_
    obtain ⟨r_7, v_5, hc_6, h⟩ := bi_out h
    refine bn_si (r := r_7) (w := (q, g, v_5)) (as := [.int x2, .int 8]) (rest := []) C0 hH (c_B_isBelow hl0 hc_6) yy_B_isBelow q_284 ⟨by simp only [bn_rm, dK]; omega, by simp only [bn_rm, dK]; omega⟩ rfl hl.1 rfl (Nat.le_of_ble_eq_true rfl) hcl9 d_B_order_12 (fun H locs hH => ?_)
    refine lv_if_eq (tgt := 22) hx hb d_B_order_15 (by decide) (fun c_8 => ?_) (fun c_8 => ?_)
    · rw [if_pos c_8] at h
      exact w_B_order_22 C0 hr hnx  _ _ _ _ _ _ _ _ h hq hm0 hm hH (lv_sub hl [0, 1, 2] rfl)
    · rw [if_neg c_8] at h
      refine lv_iconst (v := 1) hx hb d_B_order_18 (by decide) ?_
      refine lv_goto (tgt := 23) hx hb d_B_order_19 (by decide) ?_
      exact w_B_order_23 C0 hr hnx  _ _ _ _ _ _ _ _ _ h hq hm0 hm hH (lv_sub hl [0, 1, 2] rfl)
def f_B_run_93   (g : Nat → Nat) (v : mS) : Option (bO Int32) := nm (sU v 0 10 ((v 0 10) - 1)) fun v_1 => bi (f_R_size g v_1 60) fun r_4 v_2 => nm (sU v_2 0 6 r_4) fun v_5 => bi (f_N_steps g v_5 ) fun r_8 v_6 => nm (sU v_6 0 8 r_8) fun v_9 => bi (f_R_isEnded g v_9 60) fun r_12 v_10 => if r_12 = 0 then (some (.inl (v_10 0 6), g, v_10)) else (bi (f_R_error g v_10 60) fun r_16 v_14 => nm (sU v_14 0 7 r_16) fun v_17 => nm (sU v_17 0 9 ((v_17 0 9) + 1)) fun v_18 => some (.inr 2, g, v_18))
set_option maxHeartbeats 4000000 in
set_option maxRecDepth 100000 in
theorem w_B_run_93 {p : Program} {l : Launch} {e : Env} {s : State} {m : MethodId} {args : Array Value} {below : List Frame} {meth : Method} {c : Code} {Z : bZ} {A : Nat → Prop} {q0 g0 : Nat → Nat} {o : bO Int32}  (C0 : bn_C "FilterBench" b_B_run 3 Z A p l s m args meth c) (hr : meth.sig.returnType = (some .int)) (hnx : ∀ x ∈ c.exceptionTable.toList, False) : ∀  (g : Nat → Nat) (v : mS) (q : Nat → Nat) (H : Heap) (locs : List Loc) (ls : Array Slot), f_B_run_93   g v = some o → qs q0 q → gL g0 ≤ gL g → gL g ≤ gL o.2.1 → bn_H Z A s (q, g, v) H locs → lv_has ls 3 [(0, .ref (q 0))] → bx_W p l e s m args below meth c Z A q0 g0 enI o 821 g H locs (F0 m 93 ls []) := by
  have hx := C0.1
  have hb := C0.2.1
  have hl0 := C0.2.2.2.2.2.2.2.2.2
  intro  g v q H locs ls h hq hm0 hm hH hl
  unfold f_B_run_93 at h
  have hcl9 := bx_room (h0 := 821) (o := o) hm0 hm
  refine lv_aload_n hx hb d_B_run_93 rfl (lv_at hl 0 rfl) ?_
  refine lv_dup hx hb d_B_run_94 rfl ?_
  refine bn_g_B_roomlessRuns ⟨by decide, by decide⟩ C0 hH d_B_run_95 ?_
  refine lv_iconst (v := 1) hx hb d_B_run_98 (by decide) ?_
  refine lv_isub hx hb d_B_run_99 ?_
  obtain ⟨v_1, hv_1, h⟩ := nm_out h
  refine bn_p_B_roomlessRuns ⟨by decide, by decide⟩ C0 hH d_B_run_100 (fun H locs hH => ?_)
  have hH : bn_H Z A s (q, g, v_1) H locs := by rw [hv_1]; exact hH
  refine lv_aload_n hx hb d_B_run_103 rfl (lv_at hl 0 rfl) ?_
  refine lv_aload_n hx hb d_B_run_104 rfl (lv_at hl 0 rfl) ?_
  refine bn_g_B_row ⟨by decide, by decide⟩ C0 hH d_B_run_105 ?_
  obtain ⟨r_4, v_2, hc_3, h⟩ := bi_out h
  refine bn_ci (r := r_4) (w := (q, g, v_2)) (as := []) (rest := [.ref (q 0)]) C0 hH (ci := 2) (rowB_k (j := 60) (by decide)) (by decide) rfl (c_R_size hl0 hc_3) yy_R_size q_815 ⟨by simp only [bn_rm, dK]; omega, by simp only [bn_rm, dK]; omega⟩ rfl hl.1 rfl (Nat.le_of_ble_eq_true rfl) hcl9 d_B_run_108 (fun H locs hH => ?_)
  obtain ⟨v_5, hv_5, h⟩ := nm_out h
  refine bn_p_B_outputs ⟨by decide, by decide⟩ C0 hH d_B_run_111 (fun H locs hH => ?_)
  have hH : bn_H Z A s (q, g, v_5) H locs := by rw [hv_5]; exact hH
  refine lv_aload_n hx hb d_B_run_114 rfl (lv_at hl 0 rfl) ?_
  refine lv_aload_n hx hb d_B_run_115 rfl (lv_at hl 0 rfl) ?_
  refine bn_g_B_runner ⟨by decide, by decide⟩ C0 hH d_B_run_116 ?_
  obtain ⟨r_8, v_6, hc_7, h⟩ := bi_out h
  refine bn_ci (r := r_8) (w := (q, g, v_6)) (as := []) (rest := [.ref (q 0)]) C0 hH (ci := 3) ⟨by decide, by decide⟩ (by decide) rfl (c_N_steps hl0 hc_7) yy_N_steps q_816 ⟨by simp only [bn_rm, dK]; omega, by simp only [bn_rm, dK]; omega⟩ rfl hl.1 rfl (Nat.le_of_ble_eq_true rfl) hcl9 d_B_run_119 (fun H locs hH => ?_)
  obtain ⟨v_9, hv_9, h⟩ := nm_out h
  refine bn_p_B_steps ⟨by decide, by decide⟩ C0 hH d_B_run_122 (fun H locs hH => ?_)
  have hH : bn_H Z A s (q, g, v_9) H locs := by rw [hv_9]; exact hH
  refine lv_aload_n hx hb d_B_run_125 rfl (lv_at hl 0 rfl) ?_
  refine bn_g_B_row ⟨by decide, by decide⟩ C0 hH d_B_run_126 ?_
  obtain ⟨r_12, v_10, hc_11, h⟩ := bi_out h
  refine bn_ci (r := r_12) (w := (q, g, v_10)) (as := []) (rest := []) C0 hH (ci := 2) (rowB_k (j := 60) (by decide)) (by decide) rfl (c_R_isEnded hl0 hc_11) yy_R_isEnded q_820 ⟨by simp only [bn_rm, dK]; omega, by simp only [bn_rm, dK]; omega⟩ rfl hl.1 rfl (Nat.le_of_ble_eq_true rfl) hcl9 d_B_run_129 (fun H locs hH => ?_)
  refine lv_if_eq (tgt := 166) hx hb d_B_run_132 (by decide) (fun c_13 => ?_) (fun c_13 => ?_)
  · rw [if_pos c_13] at h
    refine lv_aload_n hx hb d_B_run_166 rfl (lv_at hl 0 rfl) ?_
    refine bn_g_B_outputs ⟨by decide, by decide⟩ C0 hH d_B_run_167 ?_
    exact bx_iret C0 hr hq hH hm0 d_B_run_170 h
  · rw [if_neg c_13] at h
    refine lv_aload_n hx hb d_B_run_135 rfl (lv_at hl 0 rfl) ?_
    refine lv_aload_n hx hb d_B_run_136 rfl (lv_at hl 0 rfl) ?_
    refine bn_g_B_row ⟨by decide, by decide⟩ C0 hH d_B_run_137 ?_
    obtain ⟨r_16, v_14, hc_15, h⟩ := bi_out h
    refine bn_ci (r := r_16) (w := (q, g, v_14)) (as := []) (rest := [.ref (q 0)]) C0 hH (ci := 2) (rowB_k (j := 60) (by decide)) (by decide) rfl (c_R_error hl0 hc_15) yy_R_error q_821 ⟨by simp only [bn_rm, dK]; omega, by simp only [bn_rm, dK]; omega⟩ rfl hl.1 rfl (Nat.le_of_ble_eq_true rfl) hcl9 d_B_run_140 (fun H locs hH => ?_)
    obtain ⟨v_17, hv_17, h⟩ := nm_out h
    refine bn_p_B_fault ⟨by decide, by decide⟩ C0 hH d_B_run_143 (fun H locs hH => ?_)
    have hH : bn_H Z A s (q, g, v_17) H locs := by rw [hv_17]; exact hH
    refine lv_aload_n hx hb d_B_run_146 rfl (lv_at hl 0 rfl) ?_
    refine lv_dup hx hb d_B_run_147 rfl ?_
    refine bn_g_B_errorRuns ⟨by decide, by decide⟩ C0 hH d_B_run_148 ?_
    refine lv_iconst (v := 1) hx hb d_B_run_151 (by decide) ?_
    refine lv_iadd hx hb d_B_run_152 ?_
    obtain ⟨v_18, hv_18, h⟩ := nm_out h
    refine bn_p_B_errorRuns ⟨by decide, by decide⟩ C0 hH d_B_run_153 (fun H locs hH => ?_)
    have hH : bn_H Z A s (q, g, v_18) H locs := by rw [hv_18]; exact hH
    exact bx_throw (k := 2) (i := 9) (cls := "java/lang/UnsupportedOperationException") (rest := []) C0 hnx hq hH hm0 (by decide +kernel) rfl q_825 q_121 rfl tw_B_142.1 tw_B_142.2.1 tw_B_142.2.2 (by decide +kernel) hl.1 d_B_run_156 d_B_run_159 d_B_run_160 d_B_run_162 d_B_run_165 (Nat.le_of_ble_eq_true rfl) (Nat.le_of_ble_eq_true rfl) h
def f_B_run_74  (x2 : Int32) (g : Nat → Nat) (v : mS) : Option (bO Int32) := gd (inB x2 8) (bo (f_N_work dK g v 0 (v 6 (x2 : Int32).toNatClampNeg) 0 60) fun r9 g9 v9 => f_B_run_93 g9 v9)
set_option maxHeartbeats 4000000 in
set_option maxRecDepth 100000 in
theorem w_B_run_74 {p : Program} {l : Launch} {e : Env} {s : State} {m : MethodId} {args : Array Value} {below : List Frame} {meth : Method} {c : Code} {Z : bZ} {A : Nat → Prop} {q0 g0 : Nat → Nat} {o : bO Int32}  (C0 : bn_C "FilterBench" b_B_run 3 Z A p l s m args meth c) (hr : meth.sig.returnType = (some .int)) (hnx : ∀ x ∈ c.exceptionTable.toList, False) : ∀ (x2 : Int32) (g : Nat → Nat) (v : mS) (q : Nat → Nat) (H : Heap) (locs : List Loc) (ls : Array Slot), f_B_run_74  x2 g v = some o → qs q0 q → gL g0 ≤ gL g → gL g ≤ gL o.2.1 → bn_H Z A s (q, g, v) H locs → lv_has ls 3 [(0, .ref (q 0)), (2, .int x2)] → bx_W p l e s m args below meth c Z A q0 g0 enI o 821 g H locs (F0 m 74 ls []) := by
  have hx := C0.1
  have hb := C0.2.1
  have hl0 := C0.2.2.2.2.2.2.2.2.2
  intro x2 g v q H locs ls h hq hm0 hm hH hl
  unfold f_B_run_74 at h
  have hcl9 := bx_room (h0 := 821) (o := o) hm0 hm
  refine lv_aload_n hx hb d_B_run_74 rfl (lv_at hl 0 rfl) ?_
  refine bn_g_B_runner ⟨by decide, by decide⟩ C0 hH d_B_run_75 ?_
  refine lv_iconst (v := 0) hx hb d_B_run_78 (by decide) ?_
  refine lv_aload_n hx hb d_B_run_79 rfl (lv_at hl 0 rfl) ?_
  refine bn_g_B_slots ⟨by decide, by decide⟩ C0 hH d_B_run_80 ?_
  refine lv_iload_n hx hb d_B_run_83 rfl (lv_at hl 1 rfl) ?_
  obtain ⟨g_1, h⟩ := gd_out h
  refine bn_ld ⟨by decide, by decide⟩ C0 hH (inB_in g_1) d_B_run_84 ?_
  refine lv_iconst (v := 0) hx hb d_B_run_85 (by decide) ?_
  refine lv_aload_n hx hb d_B_run_86 rfl (lv_at hl 0 rfl) ?_
  refine bn_g_B_row ⟨by decide, by decide⟩ C0 hH d_B_run_87 ?_
  obtain ⟨o1, hc, hm2, ht9, hx1, hk9⟩ := bo_out h
  have hm1 := mn_N_work hc
  refine bx_cN (as := [.int 0, .int (v 6 (x2 : Int32).toNatClampNeg), .int 0, .ref (q 60)]) (rest := []) C0 hnx hq hH hm0 hm1 hm2 ht9 (ci := 3) ⟨by decide, by decide⟩ (by decide) rfl (c_N_workn hl0 dK hc) yy_N_work (C0.2.2.2.2.2.2.2.2.1.2.2.2.2.2.2.1 _ (List.mem_of_getElem? (i := 5) rfl)) ⟨by first | omega | (simp only [dK]; omega), by first | omega | (simp only [dK]; omega)⟩ rfl hl.1 rfl (Nat.le_of_ble_eq_true rfl) d_B_run_90 hx1 (fun r9 q1 H locs hr1 hq0 hq1 hm9 hH => ?_)
  have h := hk9 r9 hr1
  have e9 : q1 0 = q 0 := (hq1 0 (by decide) (by decide))
  try rw [← e9] at hl
  try rw [← e9]
  exact w_B_run_93 C0 hr hnx   _ _ _ _ _ _ h hq0 hm9 hm2 hH (lv_sub hl [0] rfl)
def f_B_run_51  (x1 : Int32) (x2 : Int32) (g : Nat → Nat) (v : mS) : Option (bO Int32) := nm (sU v 0 10 ((v 0 10) + 1)) fun v_1 => gd (inB x1 4) (nm (9 + 4 * (x1 : Int32).toNatClampNeg) fun j_3 => bo (f_N_start g v_1 j_3) fun r9 g9 v9 => f_B_run_74 x2 g9 v9)
set_option maxHeartbeats 4000000 in
set_option maxRecDepth 100000 in
theorem w_B_run_51 {p : Program} {l : Launch} {e : Env} {s : State} {m : MethodId} {args : Array Value} {below : List Frame} {meth : Method} {c : Code} {Z : bZ} {A : Nat → Prop} {q0 g0 : Nat → Nat} {o : bO Int32}  (C0 : bn_C "FilterBench" b_B_run 3 Z A p l s m args meth c) (hr : meth.sig.returnType = (some .int)) (hnx : ∀ x ∈ c.exceptionTable.toList, False) : ∀ (x1 : Int32) (x2 : Int32) (g : Nat → Nat) (v : mS) (q : Nat → Nat) (H : Heap) (locs : List Loc) (ls : Array Slot), f_B_run_51  x1 x2 g v = some o → qs q0 q → gL g0 ≤ gL g → gL g ≤ gL o.2.1 → bn_H Z A s (q, g, v) H locs → lv_has ls 3 [(0, .ref (q 0)), (1, .int x1), (2, .int x2)] → bx_W p l e s m args below meth c Z A q0 g0 enI o 821 g H locs (F0 m 51 ls []) := by
  have hx := C0.1
  have hb := C0.2.1
  have hl0 := C0.2.2.2.2.2.2.2.2.2
  intro x1 x2 g v q H locs ls h hq hm0 hm hH hl
  unfold f_B_run_51 at h
  have hcl9 := bx_room (h0 := 821) (o := o) hm0 hm
  refine lv_aload_n hx hb d_B_run_51 rfl (lv_at hl 0 rfl) ?_
  refine lv_dup hx hb d_B_run_52 rfl ?_
  refine bn_g_B_roomlessRuns ⟨by decide, by decide⟩ C0 hH d_B_run_53 ?_
  refine lv_iconst (v := 1) hx hb d_B_run_56 (by decide) ?_
  refine lv_iadd hx hb d_B_run_57 ?_
  obtain ⟨v_1, hv_1, h⟩ := nm_out h
  refine bn_p_B_roomlessRuns ⟨by decide, by decide⟩ C0 hH d_B_run_58 (fun H locs hH => ?_)
  have hH : bn_H Z A s (q, g, v_1) H locs := by rw [hv_1]; exact hH
  refine lv_aload_n hx hb d_B_run_61 rfl (lv_at hl 0 rfl) ?_
  refine bn_g_B_runner ⟨by decide, by decide⟩ C0 hH d_B_run_62 ?_
  refine lv_aload_n hx hb d_B_run_65 rfl (lv_at hl 0 rfl) ?_
  refine bn_g_B_filters ⟨by decide, by decide⟩ C0 hH d_B_run_66 ?_
  refine lv_iload_n hx hb d_B_run_69 rfl (lv_at hl 1 rfl) ?_
  obtain ⟨g_2, h⟩ := gd_out h
  obtain ⟨j_3, hj_3, h⟩ := nm_out h
  have hgj_3 : filB j_3 = true := by rw [hj_3]; exact fil_of_in g_2
  refine bn_aldF C0 hH (inB_in g_2) d_B_run_70 ?_
  rw [← hj_3]
  obtain ⟨o1, hc, hm2, ht9, hx1, hk9⟩ := bo_out h
  have hm1 := mn_N_start hc
  refine bx_cV (as := [.ref (q j_3)]) (rest := []) C0 hnx hq hH hm0 hm1 hm2 ht9 (ci := 3) ⟨by decide, by decide⟩ (by decide) rfl (c_N_start hl0 hc) yy_N_start q_488 ⟨by first | omega | (simp only [dK]; omega), by first | omega | (simp only [dK]; omega)⟩ rfl hl.1 rfl (Nat.le_of_ble_eq_true rfl) d_B_run_71 hx1 (fun r9 q1 H locs hr1 hq0 hq1 hm9 hH => ?_)
  have h := hk9 r9 hr1
  have e9 : q1 0 = q 0 := (hq1 0 (by decide) (by decide))
  try rw [← e9] at hl
  try rw [← e9]
  exact w_B_run_74 C0 hr hnx  _ _ _ _ _ _ _ h hq0 hm9 hm2 hH (lv_sub hl [0, 2] rfl)
def f_B_run_25  (x1 : Int32) (x2 : Int32) (g : Nat → Nat) (v : mS) : Option (bO Int32) := gd (inB x1 4) (nm (9 + 4 * (x1 : Int32).toNatClampNeg) fun j_2 => bi (f_F_isRight g v j_2) fun r_5 v_3 => if r_5 = 0 then (some (.inr 1, g, v_3)) else (bo (f_B_forgetLastRun g v_3 ) fun r9 g9 v9 => f_B_run_51 x1 x2 g9 v9))
set_option maxHeartbeats 4000000 in
set_option maxRecDepth 100000 in
theorem w_B_run_25 {p : Program} {l : Launch} {e : Env} {s : State} {m : MethodId} {args : Array Value} {below : List Frame} {meth : Method} {c : Code} {Z : bZ} {A : Nat → Prop} {q0 g0 : Nat → Nat} {o : bO Int32}  (C0 : bn_C "FilterBench" b_B_run 3 Z A p l s m args meth c) (hr : meth.sig.returnType = (some .int)) (hnx : ∀ x ∈ c.exceptionTable.toList, False) : ∀ (x1 : Int32) (x2 : Int32) (g : Nat → Nat) (v : mS) (q : Nat → Nat) (H : Heap) (locs : List Loc) (ls : Array Slot), f_B_run_25  x1 x2 g v = some o → qs q0 q → gL g0 ≤ gL g → gL g ≤ gL o.2.1 → bn_H Z A s (q, g, v) H locs → lv_has ls 3 [(0, .ref (q 0)), (1, .int x1), (2, .int x2)] → bx_W p l e s m args below meth c Z A q0 g0 enI o 821 g H locs (F0 m 25 ls []) := by
  have hx := C0.1
  have hb := C0.2.1
  have hl0 := C0.2.2.2.2.2.2.2.2.2
  intro x1 x2 g v q H locs ls h hq hm0 hm hH hl
  unfold f_B_run_25 at h
  have hcl9 := bx_room (h0 := 821) (o := o) hm0 hm
  refine lv_aload_n hx hb d_B_run_25 rfl (lv_at hl 0 rfl) ?_
  refine bn_g_B_filters ⟨by decide, by decide⟩ C0 hH d_B_run_26 ?_
  refine lv_iload_n hx hb d_B_run_29 rfl (lv_at hl 1 rfl) ?_
  obtain ⟨g_1, h⟩ := gd_out h
  obtain ⟨j_2, hj_2, h⟩ := nm_out h
  have hgj_2 : filB j_2 = true := by rw [hj_2]; exact fil_of_in g_1
  refine bn_aldF C0 hH (inB_in g_1) d_B_run_30 ?_
  rw [← hj_2]
  obtain ⟨r_5, v_3, hc_4, h⟩ := bi_out h
  refine bn_ci (r := r_5) (w := (q, g, v_3)) (as := []) (rest := []) C0 hH (ci := 1) (filB_k hgj_2) (by decide) rfl (c_F_isRight hl0 hc_4) yy_F_isRight q_444 ⟨by simp only [bn_rm, dK]; omega, by simp only [bn_rm, dK]; omega⟩ rfl hl.1 rfl (Nat.le_of_ble_eq_true rfl) hcl9 d_B_run_31 (fun H locs hH => ?_)
  refine lv_if_ne (tgt := 47) hx hb d_B_run_34 (by decide) (fun c_6 => ?_) (fun c_6 => ?_)
  · rw [if_neg c_6] at h
    refine lv_aload_n hx hb d_B_run_47 rfl (lv_at hl 0 rfl) ?_
    obtain ⟨o1, hc, hm2, ht9, hx1, hk9⟩ := bo_out h
    have hm1 := mn_B_forgetLastRun hc
    refine bx_cV (as := []) (rest := []) C0 hnx hq hH hm0 hm1 hm2 ht9 (ci := 0) ⟨by decide, by decide⟩ (by decide) rfl (c_B_forgetLastRun hl0 hc) yy_B_forgetLastRun q_471 ⟨by first | omega | (simp only [dK]; omega), by first | omega | (simp only [dK]; omega)⟩ rfl hl.1 rfl (Nat.le_of_ble_eq_true rfl) d_B_run_48 hx1 (fun r9 q1 H locs hr1 hq0 hq1 hm9 hH => ?_)
    have h := hk9 r9 hr1
    have e9 : q1 0 = q 0 := (hq1 0 (by decide) (by decide))
    try rw [← e9] at hl
    try rw [← e9]
    exact w_B_run_51 C0 hr hnx  _ _ _ _ _ _ _ _ h hq0 hm9 hm2 hH (lv_sub hl [0, 1, 2] rfl)
  · rw [if_pos c_6] at h
    exact bx_throwN (i := 4) (rest := []) C0 hnx hq hH hm0 rfl hl.1 d_B_run_37 d_B_run_40 d_B_run_41 d_B_run_43 d_B_run_46 (Nat.le_of_ble_eq_true rfl) (Nat.le_of_ble_eq_true rfl) h
def f_B_run_22  (x1 : Int32) (x2 : Int32) (y0 : Int32) (g : Nat → Nat) (v : mS) : Option (bO Int32) := bo (f_B_require g v y0) fun r9 g9 v9 => f_B_run_25 x1 x2 g9 v9
set_option maxHeartbeats 4000000 in
set_option maxRecDepth 100000 in
theorem w_B_run_22 {p : Program} {l : Launch} {e : Env} {s : State} {m : MethodId} {args : Array Value} {below : List Frame} {meth : Method} {c : Code} {Z : bZ} {A : Nat → Prop} {q0 g0 : Nat → Nat} {o : bO Int32}  (C0 : bn_C "FilterBench" b_B_run 3 Z A p l s m args meth c) (hr : meth.sig.returnType = (some .int)) (hnx : ∀ x ∈ c.exceptionTable.toList, False) : ∀ (x1 : Int32) (x2 : Int32) (y0 : Int32) (g : Nat → Nat) (v : mS) (q : Nat → Nat) (H : Heap) (locs : List Loc) (ls : Array Slot), f_B_run_22  x1 x2 y0 g v = some o → qs q0 q → gL g0 ≤ gL g → gL g ≤ gL o.2.1 → bn_H Z A s (q, g, v) H locs → lv_has ls 3 [(0, .ref (q 0)), (1, .int x1), (2, .int x2)] → bx_W p l e s m args below meth c Z A q0 g0 enI o 821 g H locs (F0 m 22 ls [.int y0]) := by
  have hx := C0.1
  have hb := C0.2.1
  have hl0 := C0.2.2.2.2.2.2.2.2.2
  intro x1 x2 y0 g v q H locs ls h hq hm0 hm hH hl
  unfold f_B_run_22 at h
  have hcl9 := bx_room (h0 := 821) (o := o) hm0 hm
  obtain ⟨o1, hc, hm2, ht9, hx1, hk9⟩ := bo_out h
  have hm1 := mn_B_require hc
  refine bx_cS (as := [.int y0]) (rest := []) C0 hnx hq hH hm0 hm1 hm2 ht9 (c_B_require hl0 hc) yy_B_require q_287 ⟨by first | omega | (simp only [dK]; omega), by first | omega | (simp only [dK]; omega)⟩ rfl hl.1 rfl (Nat.le_of_ble_eq_true rfl) d_B_run_22 hx1 (fun r9 q1 H locs hr1 hq0 hq1 hm9 hH => ?_)
  have h := hk9 r9 hr1
  have e9 : q1 0 = q 0 := (hq1 0 (by decide) (by decide))
  try rw [← e9] at hl
  try rw [← e9]
  exact w_B_run_25 C0 hr hnx  _ _ _ _ _ _ _ _ h hq0 hm9 hm2 hH (lv_sub hl [0, 1, 2] rfl)
def f_B_run_21  (x1 : Int32) (x2 : Int32) (g : Nat → Nat) (v : mS) : Option (bO Int32) := f_B_run_22 x1 x2 0 g v
set_option maxHeartbeats 4000000 in
set_option maxRecDepth 100000 in
theorem w_B_run_21 {p : Program} {l : Launch} {e : Env} {s : State} {m : MethodId} {args : Array Value} {below : List Frame} {meth : Method} {c : Code} {Z : bZ} {A : Nat → Prop} {q0 g0 : Nat → Nat} {o : bO Int32}  (C0 : bn_C "FilterBench" b_B_run 3 Z A p l s m args meth c) (hr : meth.sig.returnType = (some .int)) (hnx : ∀ x ∈ c.exceptionTable.toList, False) : ∀ (x1 : Int32) (x2 : Int32) (g : Nat → Nat) (v : mS) (q : Nat → Nat) (H : Heap) (locs : List Loc) (ls : Array Slot), f_B_run_21  x1 x2 g v = some o → qs q0 q → gL g0 ≤ gL g → gL g ≤ gL o.2.1 → bn_H Z A s (q, g, v) H locs → lv_has ls 3 [(0, .ref (q 0)), (1, .int x1), (2, .int x2)] → bx_W p l e s m args below meth c Z A q0 g0 enI o 821 g H locs (F0 m 21 ls []) := by
  have hx := C0.1
  have hb := C0.2.1
  have hl0 := C0.2.2.2.2.2.2.2.2.2
  intro x1 x2 g v q H locs ls h hq hm0 hm hH hl
  unfold f_B_run_21 at h
  have hcl9 := bx_room (h0 := 821) (o := o) hm0 hm
  refine lv_iconst (v := 0) hx hb d_B_run_21 (by decide) ?_
  exact w_B_run_22 C0 hr hnx  _ _ _ _ _ _ _ _ _ h hq hm0 hm hH (lv_sub hl [0, 1, 2] rfl)
def f_B_run (g : Nat → Nat) (v : mS) (x1 : Int32) (x2 : Int32) : Option (bO Int32) := mg g (bi (f_B_isBelow g v x1 4) fun r_3 v_1 => if r_3 = 0 then (f_B_run_21 x1 x2 g v_1) else (bi (f_B_isBelow g v_1 x2 8) fun r_7 v_5 => if r_7 = 0 then (f_B_run_21 x1 x2 g v_5) else (f_B_run_22 x1 x2 1 g v_5)))
theorem mn_B_run {g : Nat → Nat} {v : mS}  {x1 : Int32} {x2 : Int32} {o : bO Int32} (h : f_B_run g v x1 x2 = some o) : gL g ≤ gL o.2.1 := (mg_out h).1
set_option maxHeartbeats 4000000 in
set_option maxRecDepth 100000 in
theorem c_B_run {l : Launch} {Z : bZ} (hl0 : l.stackTraces = false) {q g : Nat → Nat} {v : mS}  {x1 : Int32} {x2 : Int32} {o : bO Int32} (h : f_B_run g v x1 x2 = some o) : bx_M l Z 821 y_B_run b_B_run 3 (some .int) [.ref (q 0), .int x1, .int x2] q g v enI o := by
  refine bx_of hl0 (by decide +kernel) (Nat.le_of_ble_eq_true rfl) ?_
  intro p e s m args below meth c A ls C0 hr hnx hl hH
  have hx := C0.1
  have hb := C0.2.1
  have C0 : bn_C "FilterBench" b_B_run 3 Z A p l s m args meth c := C0
  have hl : lv_has ls 3 [(0, .ref (q 0)), (1, .int x1), (2, .int x2)] := hl
  obtain ⟨hm, h⟩ := mg_out h
  have hm0 : gL g ≤ gL g := Nat.le_refl _
  have hq : qs q q := qs.rf
  have hcl9 := bx_room (h0 := 821) (o := o) hm0 hm
  refine lv_iload_n hx hb d_B_run_0 rfl (lv_at hl 1 rfl) ?_
  refine lv_iconst (v := 4) hx hb d_B_run_1 (by decide) ?_
  obtain ⟨r_3, v_1, hc_2, h⟩ := bi_out h
  refine bn_si (r := r_3) (w := (q, g, v_1)) (as := [.int x1, .int 4]) (rest := []) C0 hH (c_B_isBelow hl0 hc_2) yy_B_isBelow q_284 ⟨by simp only [bn_rm, dK]; omega, by simp only [bn_rm, dK]; omega⟩ rfl hl.1 rfl (Nat.le_of_ble_eq_true rfl) hcl9 d_B_run_2 (fun H locs hH => ?_)
  refine lv_if_eq (tgt := 21) hx hb d_B_run_5 (by decide) (fun c_4 => ?_) (fun c_4 => ?_)
  · rw [if_pos c_4] at h
    exact w_B_run_21 C0 hr hnx  _ _ _ _ _ _ _ _ h hq hm0 hm hH (lv_sub hl [0, 1, 2] rfl)
  · rw [if_neg c_4] at h
    refine lv_iload_n hx hb d_B_run_8 rfl (lv_at hl 2 rfl) ?_
    refine lv_bipush (v := 8) hx hb d_B_run_9 (by decide) ?_
    obtain ⟨r_7, v_5, hc_6, h⟩ := bi_out h
    refine bn_si (r := r_7) (w := (q, g, v_5)) (as := [.int x2, .int 8]) (rest := []) C0 hH (c_B_isBelow hl0 hc_6) yy_B_isBelow q_284 ⟨by simp only [bn_rm, dK]; omega, by simp only [bn_rm, dK]; omega⟩ rfl hl.1 rfl (Nat.le_of_ble_eq_true rfl) hcl9 d_B_run_11 (fun H locs hH => ?_)
    refine lv_if_eq (tgt := 21) hx hb d_B_run_14 (by decide) (fun c_8 => ?_) (fun c_8 => ?_)
    · rw [if_pos c_8] at h
      exact w_B_run_21 C0 hr hnx  _ _ _ _ _ _ _ _ h hq hm0 hm hH (lv_sub hl [0, 1, 2] rfl)
    · rw [if_neg c_8] at h
      refine lv_iconst (v := 1) hx hb d_B_run_17 (by decide) ?_
      refine lv_goto (tgt := 22) hx hb d_B_run_18 (by decide) ?_
      exact w_B_run_22 C0 hr hnx  _ _ _ _ _ _ _ _ _ h hq hm0 hm hH (lv_sub hl [0, 1, 2] rfl)
