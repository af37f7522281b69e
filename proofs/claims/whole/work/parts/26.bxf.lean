/-! Arrays.fill of ints (by program: wip/gen/bgen.py, JDKM2) -/
abbrev b_J_fill : ByteArray := prog_22_method_103_code
def y_J_fill : MethodName := ⟨"java/util/Arrays", "fill", "([II)V"⟩
theorem d_J_fill_0 : decode b_J_fill 0 = .ok (.iconst 0, 1) := by decide +kernel
theorem d_J_fill_1 : decode b_J_fill 1 = .ok (.istore_n 2, 1) := by decide +kernel
theorem d_J_fill_2 : decode b_J_fill 2 = .ok (.aload_n 0, 1) := by decide +kernel
theorem d_J_fill_3 : decode b_J_fill 3 = .ok (.arraylength, 1) := by decide +kernel
theorem d_J_fill_4 : decode b_J_fill 4 = .ok (.istore_n 3, 1) := by decide +kernel
theorem d_J_fill_5 : decode b_J_fill 5 = .ok (.iload_n 2, 1) := by decide +kernel
theorem d_J_fill_6 : decode b_J_fill 6 = .ok (.iload_n 3, 1) := by decide +kernel
theorem d_J_fill_7 : decode b_J_fill 7 = .ok (.if_icmp .ge 13, 3) := by decide +kernel
theorem d_J_fill_10 : decode b_J_fill 10 = .ok (.aload_n 0, 1) := by decide +kernel
theorem d_J_fill_11 : decode b_J_fill 11 = .ok (.iload_n 2, 1) := by decide +kernel
theorem d_J_fill_12 : decode b_J_fill 12 = .ok (.iload_n 1, 1) := by decide +kernel
theorem d_J_fill_13 : decode b_J_fill 13 = .ok (.iastore, 1) := by decide +kernel
theorem d_J_fill_14 : decode b_J_fill 14 = .ok (.iinc 2 1, 3) := by decide +kernel
theorem d_J_fill_17 : decode b_J_fill 17 = .ok (.goto (-12), 3) := by decide +kernel
theorem d_J_fill_20 : decode b_J_fill 20 = .ok (.return_, 1) := by decide +kernel
theorem yy_J_fill : bn_YS "java/util/Arrays" y_J_fill b_J_fill 4 none 2 := ⟨rfl, q_169, q_170, q_105, by decide +kernel, by decide +kernel, by decide +kernel⟩
def f_J_fill_5 (g : Nat → Nat)  : Nat → Nat → Int32 → Int32 → Int32 → mS → Option (mS)
  | 0, _, _, _, _, _ => none
  | n + 1, x0, x1, x2, x3, v => gd (intB x0) (if x3 ≤ x2 then (some v) else (gd (inB x2 (bn_len (q0 g v) x0)) (nm (sU v x0 (x2 : Int32).toNatClampNeg x1) fun v_3 => nm (x2 + 1) fun x2_4 => f_J_fill_5 g n x0 x1 x2_4 x3 v_3)))
set_option maxHeartbeats 4000000 in
set_option maxRecDepth 100000 in
theorem w_J_fill_5 {p : Program} {l : Launch} {e : Env} {s : State} {m : MethodId} {args : Array Value} {below : List Frame} {meth : Method} {c : Code} {Z : bZ} {A : Nat → Prop} {q g : Nat → Nat} {o : mS}  (C0 : bn_C "java/util/Arrays" b_J_fill 4 Z A p l s m args meth c) (hr : meth.sig.returnType = none) : ∀ (n : Nat) (x0 : Nat) (x1 : Int32) (x2 : Int32) (x3 : Int32) (v : mS) (H : Heap) (locs : List Loc) (ls : Array Slot), f_J_fill_5 g  n x0 x1 x2 x3 v = some o → bn_H Z A s (q, g, v) H locs → lv_has ls 4 [(0, .ref (q x0)), (1, .int x1), (2, .int x2), (3, .int x3)] → W p l e (mo_rm 0) s m args below meth c H locs 0 0 (MQ below (bn_Qv Z (q, g, o) A) args s 0 0 A) (F0 m 5 ls []) := by
  have hx := C0.1
  have hb := C0.2.1
  have hl0 := C0.2.2.2.2.2.2.2.2.2
  intro n
  induction n with
  | zero =>
    intro x0 x1 x2 x3 v H locs ls h hH hl
    cases h
  | succ n ih =>
    intro x0 x1 x2 x3 v H locs ls h hH hl
    rw [f_J_fill_5] at h
    obtain ⟨hgx0, h⟩ := gd_out h
    refine lv_iload_n hx hb d_J_fill_5 rfl (lv_at hl 2 rfl) ?_
    refine lv_iload_n hx hb d_J_fill_6 rfl (lv_at hl 3 rfl) ?_
    refine lv_icmp_ge (tgt := 20) hx hb d_J_fill_7 (by decide) (fun c_1 => ?_) (fun c_1 => ?_)
    · rw [if_pos c_1] at h
      exact bn_vret C0 hr hH d_J_fill_20 (pw1 h)
    · rw [if_neg c_1] at h
      refine lv_aload_n hx hb d_J_fill_10 rfl (lv_at hl 0 rfl) ?_
      refine lv_iload_n hx hb d_J_fill_11 rfl (lv_at hl 2 rfl) ?_
      refine lv_iload_n hx hb d_J_fill_12 rfl (lv_at hl 1 rfl) ?_
      obtain ⟨g_2, h⟩ := gd_out h
      obtain ⟨v_3, hv_3, h⟩ := nm_out h
      refine bn_sto (intB_k hgx0) C0 hH (inB_in g_2) d_J_fill_13 (fun H locs hH => ?_)
      have hH : bn_H Z A s (q, g, v_3) H locs := by rw [hv_3]; exact hH
      obtain ⟨x2_4, hx2_4, h⟩ := nm_out h
      refine lv_iinc (v := x2_4) (lv' := [(2, .int x2_4), (0, .ref (q x0)), (1, .int x1), (3, .int x3)]) hx hb d_J_fill_14 hl (k := 2) rfl (by rw [hx2_4]; rfl) (by decide) rfl (fun ls hl => ?_)
      refine lv_goto (tgt := 5) hx hb d_J_fill_17 (by decide) ?_
      exact ih _ _ _ _ _ _ _ _ h hH (lv_sub hl [1, 2, 0, 3] rfl)
def f_J_fill (g : Nat → Nat) (v : mS) (x0 : Nat) (x1 : Int32) : Option (mS) := gd (intB x0) (nm (Int32.ofNat (bn_len (q0 g v) x0)) fun x3_1 => f_J_fill_5 g fu x0 x1 0 x3_1 v)
set_option maxHeartbeats 4000000 in
set_option maxRecDepth 100000 in
theorem c_J_fill {l : Launch} {Z : bZ} {q g : Nat → Nat} (hl0 : l.stackTraces = false) {v : mS}  {x0 : Nat} {x1 : Int32} {o : mS} (h : f_J_fill g v x0 x1 = some o) : bn_M l Z 0 y_J_fill b_J_fill 4 none [.ref (q x0), .int x1] (q, g, v) (bn_Qv Z (q, g, o)) := by
  refine bn_ofF hl0 (by decide +kernel) (Nat.le_of_ble_eq_true rfl) ?_
  intro p e s m below meth c A ls C0 hr hl hH
  have hx := C0.1
  have hb := C0.2.1
  have C0 : bn_C "java/util/Arrays" b_J_fill 4 Z A p l s m _ meth c := C0
  have hl : lv_has ls 4 [(0, .ref (q x0)), (1, .int x1)] := hl
  unfold f_J_fill at h
  obtain ⟨hgx0, h⟩ := gd_out h
  refine lv_iconst (v := 0) hx hb d_J_fill_0 (by decide) ?_
  refine lv_istore_n (lv' := [(2, .int 0), (0, .ref (q x0)), (1, .int x1)]) hx hb d_J_fill_1 rfl hl (by decide) rfl (fun ls hl => ?_)
  refine lv_aload_n hx hb d_J_fill_2 rfl (lv_at hl 1 rfl) ?_
  refine bn_alen (intB_k hgx0) C0 hH d_J_fill_3 ?_
  refine fu_i (show Int32.ofNat (bn_len (q0 g v) x0) = Int32.ofNat (bn_len (q, g, v) x0) from rfl) ?_
  obtain ⟨x3_1, hx3_1, h⟩ := nm_out h
  refine fu_i hx3_1 ?_
  refine lv_istore_n (lv' := [(3, .int x3_1), (2, .int 0), (0, .ref (q x0)), (1, .int x1)]) hx hb d_J_fill_4 rfl hl (by decide) rfl (fun ls hl => ?_)
  exact w_J_fill_5 C0 hr  fu _ _ _ _ _ _ _ _ h hH (lv_sub hl [2, 3, 1, 0] rfl)
