/-! methods of the reference (by program: wip/gen/mgen.py simple next) -/
theorem yy_M_simple : mo_Y y_M_simple b_M_simple 7 none 3 := ⟨rfl, q_1293, q_91, q_1294, by decide +kernel⟩
def f_M_simple_33   (v : mS) : Option (mS) := some v
set_option maxHeartbeats 4000000 in
set_option maxRecDepth 100000 in
theorem w_M_simple_33 {p : Program} {l : Launch} {e : Env} {s : State} {m : MethodId} {args : Array Value} {below : List Frame} {meth : Method} {c : Code} {D : va_G} {cI : ClassId} {A : Nat → Prop} {q : Nat → Nat} {o : mS} (C0 : mo_C b_M_simple 7 D cI A p s m args meth c) (hr : meth.sig.returnType = none) : ∀  (v : mS) (H : Heap) (locs : List Loc) (ls : Array Slot), f_M_simple_33   v = some o → mo_H D cI A s q v H locs → lv_has ls 7 [] → W p l e (mo_rm 5) s m args below meth c H locs 0 0 (MQ below (mo_Qv D cI q o A) args s 0 0 A) (F0 m 33 ls []) := by
  have hx := C0.1
  have hb := C0.2.1
  intro  v H locs ls h hH hl
  unfold f_M_simple_33 at h
  exact mo_vret C0 hr hH d_M_simple_33 h
def f_M_simple_242  (x1 : Int32) (v : mS) : Option (mS) := gd (inB x1 10) (gd (inB x1 10) (nm (sU v 18 (x1 : Int32).toNatClampNeg ((v 18 (x1 : Int32).toNatClampNeg) + 1)) fun v_3 => some v_3))
set_option maxHeartbeats 4000000 in
set_option maxRecDepth 100000 in
theorem w_M_simple_242 {p : Program} {l : Launch} {e : Env} {s : State} {m : MethodId} {args : Array Value} {below : List Frame} {meth : Method} {c : Code} {D : va_G} {cI : ClassId} {A : Nat → Prop} {q : Nat → Nat} {o : mS} (C0 : mo_C b_M_simple 7 D cI A p s m args meth c) (hr : meth.sig.returnType = none) : ∀ (x1 : Int32) (v : mS) (H : Heap) (locs : List Loc) (ls : Array Slot), f_M_simple_242  x1 v = some o → mo_H D cI A s q v H locs → lv_has ls 7 [(0, .ref (q 0)), (1, .int x1)] → W p l e (mo_rm 5) s m args below meth c H locs 0 0 (MQ below (mo_Qv D cI q o A) args s 0 0 A) (F0 m 242 ls []) := by
  have hx := C0.1
  have hb := C0.2.1
  intro x1 v H locs ls h hH hl
  unfold f_M_simple_242 at h
  refine lv_aload_n hx hb d_M_simple_242 rfl (lv_at hl 0 rfl) ?_
  refine mo_r_at C0 hH d_M_simple_243 ?_
  refine lv_iload_n hx hb d_M_simple_246 rfl (lv_at hl 1 rfl) ?_
  refine lv_dup2_11 hx hb d_M_simple_247 rfl rfl ?_
  obtain ⟨g_1, h⟩ := gd_out h
  refine mo_ld 18 (by decide) (by decide) C0 hH (inB_in g_1) d_M_simple_248 ?_
  refine lv_iconst (v := 1) hx hb d_M_simple_249 (by decide) ?_
  refine lv_iadd hx hb d_M_simple_250 ?_
  obtain ⟨g_2, h⟩ := gd_out h
  obtain ⟨v_3, hv_3, h⟩ := nm_out h
  refine mo_st 18 (by decide) (by decide) C0 hH (inB_in g_2) d_M_simple_251 (fun H locs hH => ?_)
  rw [← hv_3] at hH
  exact mo_vret C0 hr hH d_M_simple_252 h
def f_M_simple_201  : Nat → Int32 → Int32 → Int32 → mS → Option (mS)
  | 0, _, _, _, _ => none
  | n + 1, x1, x3, x6, v => bi (f_M_num v x3) fun r_3 v_1 => if 0 ≤ (lg_cmp (((x6 : Int32).toInt64) * 1000000) r_3) then (f_M_simple_242 x1 v_1) else (if (v_1 0 21) = 0 then (bi (f_M_whole v_1 ((x6 : Int32).toInt64)) fun r_8 v_6 => bv (f_M_emit v_6 x1 r_8) fun v_9 => nm (x6 + 1) fun x6_11 => f_M_simple_201 n x1 x3 x6_11 v_9) else (f_M_simple_242 x1 v_1))
set_option maxHeartbeats 4000000 in
set_option maxRecDepth 100000 in
theorem w_M_simple_201 {p : Program} {l : Launch} {e : Env} {s : State} {m : MethodId} {args : Array Value} {below : List Frame} {meth : Method} {c : Code} {D : va_G} {cI : ClassId} {A : Nat → Prop} {q : Nat → Nat} {o : mS} (C0 : mo_C b_M_simple 7 D cI A p s m args meth c) (hr : meth.sig.returnType = none) : ∀ (n : Nat) (x1 : Int32) (x3 : Int32) (x6 : Int32) (v : mS) (H : Heap) (locs : List Loc) (ls : Array Slot), f_M_simple_201  n x1 x3 x6 v = some o → mo_H D cI A s q v H locs → lv_has ls 7 [(0, .ref (q 0)), (1, .int x1), (3, .int x3), (6, .int x6)] → W p l e (mo_rm 5) s m args below meth c H locs 0 0 (MQ below (mo_Qv D cI q o A) args s 0 0 A) (F0 m 201 ls []) := by
  have hx := C0.1
  have hb := C0.2.1
  intro n
  induction n with
  | zero =>
    intro x1 x3 x6 v H locs ls h hH hl
    cases h
  | succ n ih =>
    intro x1 x3 x6 v H locs ls h hH hl
    rw [f_M_simple_201] at h
    refine lv_iload hx hb d_M_simple_201 (lv_at hl 3 rfl) ?_
    refine lv_i2l hx hb d_M_simple_203 rfl ?_
    refine lv_ldc2 (v := 1000000) hx hb C0.2.2.1 (C0.2.2.2.1 _ q_1191) d_M_simple_204 ?_
    refine lv_lmul hx hb d_M_simple_207 ?_
    refine lv_aload_n hx hb d_M_simple_208 rfl (lv_at hl 0 rfl) ?_
    refine lv_iload_n hx hb d_M_simple_209 rfl (lv_at hl 2 rfl) ?_
    obtain ⟨r_3, v_1, hc_2, h⟩ := bi_out h
    refine mo_cl (r := r_3) (w := v_1) (as := [.int x3]) (rest := [.long (((x6 : Int32).toInt64) * 1000000)]) C0 hH (c_M_num hc_2) yy_M_num q_1182 q_109 (by decide) rfl hl.1 rfl (Nat.le_of_ble_eq_true rfl) ⟨Nat.zero_le _, Nat.zero_le _⟩ d_M_simple_210 (fun H locs hH => ?_)
    refine W.lcmp hx hb d_M_simple_213 ?_
    refine lv_if_ge (tgt := 242) hx hb d_M_simple_214 (by decide) (fun c_4 => ?_) (fun c_4 => ?_)
    · rw [if_pos c_4] at h
      exact w_M_simple_242 C0 hr  _ _ _ _ _ h hH (lv_sub hl [0, 1] rfl)
    · rw [if_neg c_4] at h
      refine lv_aload_n hx hb d_M_simple_217 rfl (lv_at hl 0 rfl) ?_
      refine mo_g_noRoom C0 hH d_M_simple_218 ?_
      refine lv_if_ne (tgt := 242) hx hb d_M_simple_221 (by decide) (fun c_5 => ?_) (fun c_5 => ?_)
      · rw [if_neg c_5] at h
        exact w_M_simple_242 C0 hr  _ _ _ _ _ h hH (lv_sub hl [0, 1] rfl)
      · rw [if_pos c_5] at h
        refine lv_aload_n hx hb d_M_simple_224 rfl (lv_at hl 0 rfl) ?_
        refine lv_iload_n hx hb d_M_simple_225 rfl (lv_at hl 1 rfl) ?_
        refine lv_aload_n hx hb d_M_simple_226 rfl (lv_at hl 0 rfl) ?_
        refine lv_iload hx hb d_M_simple_227 (lv_at hl 3 rfl) ?_
        refine lv_i2l hx hb d_M_simple_229 rfl ?_
        obtain ⟨r_8, v_6, hc_7, h⟩ := bi_out h
        refine mo_ci (r := r_8) (w := v_6) (as := [.long ((x6 : Int32).toInt64)]) (rest := [.int x1, .ref (q 0)]) C0 hH (c_M_whole hc_7) yy_M_whole q_1187 q_109 (by decide) rfl hl.1 rfl (Nat.le_of_ble_eq_true rfl) ⟨Nat.zero_le _, Nat.zero_le _⟩ d_M_simple_230 (fun H locs hH => ?_)
        obtain ⟨v_9, hc_10, h⟩ := bv_out h
        refine mo_cv (w := v_9) (as := [.int x1, .int r_8]) (rest := []) C0 hH (c_M_emit hc_10) yy_M_emit q_1146 q_109 (by decide) rfl hl.1 rfl (Nat.le_of_ble_eq_true rfl) ⟨Nat.zero_le _, Nat.zero_le _⟩ d_M_simple_233 (fun H locs hH => ?_)
        obtain ⟨x6_11, hx6_11, h⟩ := nm_out h
        refine lv_iinc (v := x6_11) (lv' := [(6, .int x6_11), (0, .ref (q 0)), (1, .int x1), (3, .int x3)]) hx hb d_M_simple_236 hl (k := 3) rfl (by rw [hx6_11]; rfl) (by decide) rfl (fun ls hl => ?_)
        refine lv_goto (tgt := 201) hx hb d_M_simple_239 (by decide) ?_
        exact ih _ _ _ _ _ _ _ h hH (lv_sub hl [1, 2, 3, 0] rfl)
def f_M_simple_274   (v : mS) : Option (mS) := some v
set_option maxHeartbeats 4000000 in
set_option maxRecDepth 100000 in
theorem w_M_simple_274 {p : Program} {l : Launch} {e : Env} {s : State} {m : MethodId} {args : Array Value} {below : List Frame} {meth : Method} {c : Code} {D : va_G} {cI : ClassId} {A : Nat → Prop} {q : Nat → Nat} {o : mS} (C0 : mo_C b_M_simple 7 D cI A p s m args meth c) (hr : meth.sig.returnType = none) : ∀  (v : mS) (H : Heap) (locs : List Loc) (ls : Array Slot), f_M_simple_274   v = some o → mo_H D cI A s q v H locs → lv_has ls 7 [] → W p l e (mo_rm 5) s m args below meth c H locs 0 0 (MQ below (mo_Qv D cI q o A) args s 0 0 A) (F0 m 274 ls []) := by
  have hx := C0.1
  have hb := C0.2.1
  intro  v H locs ls h hH hl
  unfold f_M_simple_274 at h
  exact mo_vret C0 hr hH d_M_simple_274 h
def f_M_simple_253  (x1 : Int32) (x5 : Int32) (v : mS) : Option (mS) := if 0 ≤ x5 then (bv (f_M_told v x1 x5) fun v_2 => f_M_simple_274 v_2) else (bv (f_M_err v x1 1) fun v_4 => f_M_simple_274 v_4)
set_option maxHeartbeats 4000000 in
set_option maxRecDepth 100000 in
theorem w_M_simple_253 {p : Program} {l : Launch} {e : Env} {s : State} {m : MethodId} {args : Array Value} {below : List Frame} {meth : Method} {c : Code} {D : va_G} {cI : ClassId} {A : Nat → Prop} {q : Nat → Nat} {o : mS} (C0 : mo_C b_M_simple 7 D cI A p s m args meth c) (hr : meth.sig.returnType = none) : ∀ (x1 : Int32) (x5 : Int32) (v : mS) (H : Heap) (locs : List Loc) (ls : Array Slot), f_M_simple_253  x1 x5 v = some o → mo_H D cI A s q v H locs → lv_has ls 7 [(0, .ref (q 0)), (1, .int x1), (5, .int x5)] → W p l e (mo_rm 5) s m args below meth c H locs 0 0 (MQ below (mo_Qv D cI q o A) args s 0 0 A) (F0 m 253 ls []) := by
  have hx := C0.1
  have hb := C0.2.1
  intro x1 x5 v H locs ls h hH hl
  unfold f_M_simple_253 at h
  refine lv_iload hx hb d_M_simple_253 (lv_at hl 2 rfl) ?_
  refine lv_if_ge (tgt := 267) hx hb d_M_simple_255 (by decide) (fun c_1 => ?_) (fun c_1 => ?_)
  · rw [if_pos c_1] at h
    refine lv_aload_n hx hb d_M_simple_267 rfl (lv_at hl 0 rfl) ?_
    refine lv_iload_n hx hb d_M_simple_268 rfl (lv_at hl 1 rfl) ?_
    refine lv_iload hx hb d_M_simple_269 (lv_at hl 2 rfl) ?_
    obtain ⟨v_2, hc_3, h⟩ := bv_out h
    refine mo_cv (w := v_2) (as := [.int x1, .int x5]) (rest := []) C0 hH (c_M_told hc_3) yy_M_told q_1287 q_109 (by decide) rfl hl.1 rfl (Nat.le_of_ble_eq_true rfl) ⟨Nat.zero_le _, Nat.zero_le _⟩ d_M_simple_271 (fun H locs hH => ?_)
    exact w_M_simple_274 C0 hr   _ _ _ _ h hH (lv_sub hl [] rfl)
  · rw [if_neg c_1] at h
    refine lv_aload_n hx hb d_M_simple_258 rfl (lv_at hl 0 rfl) ?_
    refine lv_iload_n hx hb d_M_simple_259 rfl (lv_at hl 1 rfl) ?_
    refine lv_iconst (v := 1) hx hb d_M_simple_260 (by decide) ?_
    obtain ⟨v_4, hc_5, h⟩ := bv_out h
    refine mo_cv (w := v_4) (as := [.int x1, .int 1]) (rest := []) C0 hH (c_M_err hc_5) yy_M_err q_1239 q_109 (by decide) rfl hl.1 rfl (Nat.le_of_ble_eq_true rfl) ⟨Nat.zero_le _, Nat.zero_le _⟩ d_M_simple_261 (fun H locs hH => ?_)
    refine lv_goto (tgt := 274) hx hb d_M_simple_264 (by decide) ?_
    exact w_M_simple_274 C0 hr   _ _ _ _ h hH (lv_sub hl [] rfl)
def f_M_simple_183  (x1 : Int32) (x2 : Int32) (x3 : Int32) (x5 : Int32) (v : mS) : Option (mS) := if x2 = 29 then (bi (f_M_kindOf v x3) fun r_4 v_2 => if r_4 = 3 then (f_M_simple_201 fu x1 x3 0 v_2) else (f_M_simple_253 x1 x5 v_2)) else (f_M_simple_253 x1 x5 v)
set_option maxHeartbeats 4000000 in
set_option maxRecDepth 100000 in
theorem w_M_simple_183 {p : Program} {l : Launch} {e : Env} {s : State} {m : MethodId} {args : Array Value} {below : List Frame} {meth : Method} {c : Code} {D : va_G} {cI : ClassId} {A : Nat → Prop} {q : Nat → Nat} {o : mS} (C0 : mo_C b_M_simple 7 D cI A p s m args meth c) (hr : meth.sig.returnType = none) : ∀ (x1 : Int32) (x2 : Int32) (x3 : Int32) (x5 : Int32) (v : mS) (H : Heap) (locs : List Loc) (ls : Array Slot), f_M_simple_183  x1 x2 x3 x5 v = some o → mo_H D cI A s q v H locs → lv_has ls 7 [(0, .ref (q 0)), (1, .int x1), (2, .int x2), (3, .int x3), (5, .int x5)] → W p l e (mo_rm 5) s m args below meth c H locs 0 0 (MQ below (mo_Qv D cI q o A) args s 0 0 A) (F0 m 183 ls []) := by
  have hx := C0.1
  have hb := C0.2.1
  intro x1 x2 x3 x5 v H locs ls h hH hl
  unfold f_M_simple_183 at h
  refine lv_iload_n hx hb d_M_simple_183 rfl (lv_at hl 2 rfl) ?_
  refine lv_bipush (v := 29) hx hb d_M_simple_184 (by decide) ?_
  refine lv_icmp_ne (tgt := 253) hx hb d_M_simple_186 (by decide) (fun c_1 => ?_) (fun c_1 => ?_)
  · rw [if_neg c_1] at h
    exact w_M_simple_253 C0 hr  _ _ _ _ _ _ h hH (lv_sub hl [0, 1, 4] rfl)
  · rw [if_pos c_1] at h
    refine lv_aload_n hx hb d_M_simple_189 rfl (lv_at hl 0 rfl) ?_
    refine lv_iload_n hx hb d_M_simple_190 rfl (lv_at hl 3 rfl) ?_
    obtain ⟨r_4, v_2, hc_3, h⟩ := bi_out h
    refine mo_ci (r := r_4) (w := v_2) (as := [.int x3]) (rest := []) C0 hH (c_M_kindOf hc_3) yy_M_kindOf q_1107 q_109 (by decide) rfl hl.1 rfl (Nat.le_of_ble_eq_true rfl) ⟨Nat.zero_le _, Nat.zero_le _⟩ d_M_simple_191 (fun H locs hH => ?_)
    refine lv_iconst (v := 3) hx hb d_M_simple_194 (by decide) ?_
    refine lv_icmp_ne (tgt := 253) hx hb d_M_simple_195 (by decide) (fun c_5 => ?_) (fun c_5 => ?_)
    · rw [if_neg c_5] at h
      exact w_M_simple_253 C0 hr  _ _ _ _ _ _ h hH (lv_sub hl [0, 1, 4] rfl)
    · rw [if_pos c_5] at h
      refine lv_iconst (v := 0) hx hb d_M_simple_198 (by decide) ?_
      refine lv_istore (lv' := [(6, .int 0), (0, .ref (q 0)), (1, .int x1), (2, .int x2), (3, .int x3), (5, .int x5)]) hx hb d_M_simple_199 hl (by decide) rfl (fun ls hl => ?_)
      exact w_M_simple_201 C0 hr  fu _ _ _ _ _ _ _ h hH (lv_sub hl [1, 2, 4, 0] rfl)
def f_M_simple_181  (x1 : Int32) (x2 : Int32) (x3 : Int32) (y0 : Int32) (v : mS) : Option (mS) := f_M_simple_183 x1 x2 x3 y0 v
set_option maxHeartbeats 4000000 in
set_option maxRecDepth 100000 in
theorem w_M_simple_181 {p : Program} {l : Launch} {e : Env} {s : State} {m : MethodId} {args : Array Value} {below : List Frame} {meth : Method} {c : Code} {D : va_G} {cI : ClassId} {A : Nat → Prop} {q : Nat → Nat} {o : mS} (C0 : mo_C b_M_simple 7 D cI A p s m args meth c) (hr : meth.sig.returnType = none) : ∀ (x1 : Int32) (x2 : Int32) (x3 : Int32) (y0 : Int32) (v : mS) (H : Heap) (locs : List Loc) (ls : Array Slot), f_M_simple_181  x1 x2 x3 y0 v = some o → mo_H D cI A s q v H locs → lv_has ls 7 [(0, .ref (q 0)), (1, .int x1), (2, .int x2), (3, .int x3)] → W p l e (mo_rm 5) s m args below meth c H locs 0 0 (MQ below (mo_Qv D cI q o A) args s 0 0 A) (F0 m 181 ls [.int y0]) := by
  have hx := C0.1
  have hb := C0.2.1
  intro x1 x2 x3 y0 v H locs ls h hH hl
  unfold f_M_simple_181 at h
  refine lv_istore (lv' := [(5, .int y0), (0, .ref (q 0)), (1, .int x1), (2, .int x2), (3, .int x3)]) hx hb d_M_simple_181 hl (by decide) rfl (fun ls hl => ?_)
  exact w_M_simple_183 C0 hr  _ _ _ _ _ _ _ _ h hH (lv_sub hl [1, 2, 3, 4, 0] rfl)
def f_M_simple_179  (x1 : Int32) (x2 : Int32) (x3 : Int32) (v : mS) : Option (mS) := f_M_simple_181 x1 x2 x3 8 v
set_option maxHeartbeats 4000000 in
set_option maxRecDepth 100000 in
theorem w_M_simple_179 {p : Program} {l : Launch} {e : Env} {s : State} {m : MethodId} {args : Array Value} {below : List Frame} {meth : Method} {c : Code} {D : va_G} {cI : ClassId} {A : Nat → Prop} {q : Nat → Nat} {o : mS} (C0 : mo_C b_M_simple 7 D cI A p s m args meth c) (hr : meth.sig.returnType = none) : ∀ (x1 : Int32) (x2 : Int32) (x3 : Int32) (v : mS) (H : Heap) (locs : List Loc) (ls : Array Slot), f_M_simple_179  x1 x2 x3 v = some o → mo_H D cI A s q v H locs → lv_has ls 7 [(0, .ref (q 0)), (1, .int x1), (2, .int x2), (3, .int x3)] → W p l e (mo_rm 5) s m args below meth c H locs 0 0 (MQ below (mo_Qv D cI q o A) args s 0 0 A) (F0 m 179 ls []) := by
  have hx := C0.1
  have hb := C0.2.1
  intro x1 x2 x3 v H locs ls h hH hl
  unfold f_M_simple_179 at h
  refine lv_bipush (v := 8) hx hb d_M_simple_179 (by decide) ?_
  exact w_M_simple_181 C0 hr  _ _ _ _ _ _ _ _ h hH (lv_sub hl [0, 1, 2, 3] rfl)
def f_M_simple_120  (x1 : Int32) (x2 : Int32) (x3 : Int32) (x4 : Int32) (x5 : Int32) (v : mS) : Option (mS) := if x2 = 32 then (bi (f_M_kindOf v x4) fun r_4 v_2 => if r_4 = 5 then (bi (f_M_kindOf v_2 x3) fun r_8 v_6 => if r_8 = 3 then (bi (f_M_num v_6 x3) fun r_12 v_10 => if (lg_cmp r_12 0) < 0 then (f_M_simple_179 x1 x2 x3 v_10) else (bi (f_M_num v_10 x3) fun r_16 v_14 => bi (f_M_floor v_14 r_16) fun r_19 v_17 => bi (f_M_size v_17 x4) fun r_22 v_20 => if 0 ≤ (lg_cmp r_19 ((r_22 : Int32).toInt64)) then (f_M_simple_179 x1 x2 x3 v_20) else (f_M_simple_181 x1 x2 x3 12 v_20))) else (f_M_simple_183 x1 x2 x3 x5 v_6)) else (f_M_simple_183 x1 x2 x3 x5 v_2)) else (f_M_simple_183 x1 x2 x3 x5 v)
set_option maxHeartbeats 4000000 in
set_option maxRecDepth 100000 in
theorem w_M_simple_120 {p : Program} {l : Launch} {e : Env} {s : State} {m : MethodId} {args : Array Value} {below : List Frame} {meth : Method} {c : Code} {D : va_G} {cI : ClassId} {A : Nat → Prop} {q : Nat → Nat} {o : mS} (C0 : mo_C b_M_simple 7 D cI A p s m args meth c) (hr : meth.sig.returnType = none) : ∀ (x1 : Int32) (x2 : Int32) (x3 : Int32) (x4 : Int32) (x5 : Int32) (v : mS) (H : Heap) (locs : List Loc) (ls : Array Slot), f_M_simple_120  x1 x2 x3 x4 x5 v = some o → mo_H D cI A s q v H locs → lv_has ls 7 [(0, .ref (q 0)), (1, .int x1), (2, .int x2), (3, .int x3), (4, .int x4), (5, .int x5)] → W p l e (mo_rm 5) s m args below meth c H locs 0 0 (MQ below (mo_Qv D cI q o A) args s 0 0 A) (F0 m 120 ls []) := by
  have hx := C0.1
  have hb := C0.2.1
  intro x1 x2 x3 x4 x5 v H locs ls h hH hl
  unfold f_M_simple_120 at h
  refine lv_iload_n hx hb d_M_simple_120 rfl (lv_at hl 2 rfl) ?_
  refine lv_bipush (v := 32) hx hb d_M_simple_121 (by decide) ?_
  refine lv_icmp_ne (tgt := 183) hx hb d_M_simple_123 (by decide) (fun c_1 => ?_) (fun c_1 => ?_)
  · rw [if_neg c_1] at h
    exact w_M_simple_183 C0 hr  _ _ _ _ _ _ _ _ h hH (lv_sub hl [0, 1, 2, 3, 5] rfl)
  · rw [if_pos c_1] at h
    refine lv_aload_n hx hb d_M_simple_126 rfl (lv_at hl 0 rfl) ?_
    refine lv_iload hx hb d_M_simple_127 (lv_at hl 4 rfl) ?_
    obtain ⟨r_4, v_2, hc_3, h⟩ := bi_out h
    refine mo_ci (r := r_4) (w := v_2) (as := [.int x4]) (rest := []) C0 hH (c_M_kindOf hc_3) yy_M_kindOf q_1107 q_109 (by decide) rfl hl.1 rfl (Nat.le_of_ble_eq_true rfl) ⟨Nat.zero_le _, Nat.zero_le _⟩ d_M_simple_129 (fun H locs hH => ?_)
    refine lv_iconst (v := 5) hx hb d_M_simple_132 (by decide) ?_
    refine lv_icmp_ne (tgt := 183) hx hb d_M_simple_133 (by decide) (fun c_5 => ?_) (fun c_5 => ?_)
    · rw [if_neg c_5] at h
      exact w_M_simple_183 C0 hr  _ _ _ _ _ _ _ _ h hH (lv_sub hl [0, 1, 2, 3, 5] rfl)
    · rw [if_pos c_5] at h
      refine lv_aload_n hx hb d_M_simple_136 rfl (lv_at hl 0 rfl) ?_
      refine lv_iload_n hx hb d_M_simple_137 rfl (lv_at hl 3 rfl) ?_
      obtain ⟨r_8, v_6, hc_7, h⟩ := bi_out h
      refine mo_ci (r := r_8) (w := v_6) (as := [.int x3]) (rest := []) C0 hH (c_M_kindOf hc_7) yy_M_kindOf q_1107 q_109 (by decide) rfl hl.1 rfl (Nat.le_of_ble_eq_true rfl) ⟨Nat.zero_le _, Nat.zero_le _⟩ d_M_simple_138 (fun H locs hH => ?_)
      refine lv_iconst (v := 3) hx hb d_M_simple_141 (by decide) ?_
      refine lv_icmp_ne (tgt := 183) hx hb d_M_simple_142 (by decide) (fun c_9 => ?_) (fun c_9 => ?_)
      · rw [if_neg c_9] at h
        exact w_M_simple_183 C0 hr  _ _ _ _ _ _ _ _ h hH (lv_sub hl [0, 1, 2, 3, 5] rfl)
      · rw [if_pos c_9] at h
        refine lv_aload_n hx hb d_M_simple_145 rfl (lv_at hl 0 rfl) ?_
        refine lv_iload_n hx hb d_M_simple_146 rfl (lv_at hl 3 rfl) ?_
        obtain ⟨r_12, v_10, hc_11, h⟩ := bi_out h
        refine mo_cl (r := r_12) (w := v_10) (as := [.int x3]) (rest := []) C0 hH (c_M_num hc_11) yy_M_num q_1182 q_109 (by decide) rfl hl.1 rfl (Nat.le_of_ble_eq_true rfl) ⟨Nat.zero_le _, Nat.zero_le _⟩ d_M_simple_147 (fun H locs hH => ?_)
        refine lv_lconst (v := 0) hx hb d_M_simple_150 (by decide) ?_
        refine W.lcmp hx hb d_M_simple_151 ?_
        refine lv_if_lt (tgt := 179) hx hb d_M_simple_152 (by decide) (fun c_13 => ?_) (fun c_13 => ?_)
        · rw [if_pos c_13] at h
          exact w_M_simple_179 C0 hr  _ _ _ _ _ _ _ h hH (lv_sub hl [0, 1, 2, 3] rfl)
        · rw [if_neg c_13] at h
          refine lv_aload_n hx hb d_M_simple_155 rfl (lv_at hl 0 rfl) ?_
          refine lv_iload_n hx hb d_M_simple_156 rfl (lv_at hl 3 rfl) ?_
          obtain ⟨r_16, v_14, hc_15, h⟩ := bi_out h
          refine mo_cl (r := r_16) (w := v_14) (as := [.int x3]) (rest := []) C0 hH (c_M_num hc_15) yy_M_num q_1182 q_109 (by decide) rfl hl.1 rfl (Nat.le_of_ble_eq_true rfl) ⟨Nat.zero_le _, Nat.zero_le _⟩ d_M_simple_157 (fun H locs hH => ?_)
          obtain ⟨r_19, v_17, hc_18, h⟩ := bi_out h
          refine mo_sl (r := r_19) (w := v_17) (as := [.long r_16]) (rest := []) C0 hH (c_M_floor hc_18) yy_M_floor q_1236 q_109 (by decide) rfl hl.1 rfl (Nat.le_of_ble_eq_true rfl) ⟨Nat.zero_le _, Nat.zero_le _⟩ d_M_simple_160 (fun H locs hH => ?_)
          refine lv_aload_n hx hb d_M_simple_163 rfl (lv_at hl 0 rfl) ?_
          refine lv_iload hx hb d_M_simple_164 (lv_at hl 4 rfl) ?_
          obtain ⟨r_22, v_20, hc_21, h⟩ := bi_out h
          refine mo_ci (r := r_22) (w := v_20) (as := [.int x4]) (rest := [.long r_19]) C0 hH (c_M_size hc_21) yy_M_size q_1127 q_109 (by decide) rfl hl.1 rfl (Nat.le_of_ble_eq_true rfl) ⟨Nat.zero_le _, Nat.zero_le _⟩ d_M_simple_166 (fun H locs hH => ?_)
          refine lv_i2l hx hb d_M_simple_169 rfl ?_
          refine W.lcmp hx hb d_M_simple_170 ?_
          refine lv_if_ge (tgt := 179) hx hb d_M_simple_171 (by decide) (fun c_23 => ?_) (fun c_23 => ?_)
          · rw [if_pos c_23] at h
            exact w_M_simple_179 C0 hr  _ _ _ _ _ _ _ h hH (lv_sub hl [0, 1, 2, 3] rfl)
          · rw [if_neg c_23] at h
            refine lv_bipush (v := 12) hx hb d_M_simple_174 (by decide) ?_
            refine lv_goto (tgt := 181) hx hb d_M_simple_176 (by decide) ?_
            exact w_M_simple_181 C0 hr  _ _ _ _ _ _ _ _ h hH (lv_sub hl [0, 1, 2, 3] rfl)
def f_M_simple_118  (x1 : Int32) (x2 : Int32) (x3 : Int32) (x4 : Int32) (y0 : Int32) (v : mS) : Option (mS) := f_M_simple_120 x1 x2 x3 x4 y0 v
set_option maxHeartbeats 4000000 in
set_option maxRecDepth 100000 in
theorem w_M_simple_118 {p : Program} {l : Launch} {e : Env} {s : State} {m : MethodId} {args : Array Value} {below : List Frame} {meth : Method} {c : Code} {D : va_G} {cI : ClassId} {A : Nat → Prop} {q : Nat → Nat} {o : mS} (C0 : mo_C b_M_simple 7 D cI A p s m args meth c) (hr : meth.sig.returnType = none) : ∀ (x1 : Int32) (x2 : Int32) (x3 : Int32) (x4 : Int32) (y0 : Int32) (v : mS) (H : Heap) (locs : List Loc) (ls : Array Slot), f_M_simple_118  x1 x2 x3 x4 y0 v = some o → mo_H D cI A s q v H locs → lv_has ls 7 [(0, .ref (q 0)), (1, .int x1), (2, .int x2), (3, .int x3), (4, .int x4)] → W p l e (mo_rm 5) s m args below meth c H locs 0 0 (MQ below (mo_Qv D cI q o A) args s 0 0 A) (F0 m 118 ls [.int y0]) := by
  have hx := C0.1
  have hb := C0.2.1
  intro x1 x2 x3 x4 y0 v H locs ls h hH hl
  unfold f_M_simple_118 at h
  refine lv_istore (lv' := [(5, .int y0), (0, .ref (q 0)), (1, .int x1), (2, .int x2), (3, .int x3), (4, .int x4)]) hx hb d_M_simple_118 hl (by decide) rfl (fun ls hl => ?_)
  exact w_M_simple_120 C0 hr  _ _ _ _ _ _ _ _ _ h hH (lv_sub hl [1, 2, 3, 4, 5, 0] rfl)
def f_M_simple_75  (x1 : Int32) (x2 : Int32) (x3 : Int32) (x4 : Int32) (x5 : Int32) (v : mS) : Option (mS) := if x2 = 32 then (bi (f_M_kindOf v x4) fun r_4 v_2 => if r_4 = 6 then (bi (f_M_kindOf v_2 x3) fun r_8 v_6 => if r_8 = 4 then (bi (f_M_member v_6 x4 x3) fun r_12 v_10 => if r_12 < 0 then (f_M_simple_118 x1 x2 x3 x4 8 v_10) else (f_M_simple_118 x1 x2 x3 x4 12 v_10)) else (f_M_simple_120 x1 x2 x3 x4 x5 v_6)) else (f_M_simple_120 x1 x2 x3 x4 x5 v_2)) else (f_M_simple_120 x1 x2 x3 x4 x5 v)
set_option maxHeartbeats 4000000 in
set_option maxRecDepth 100000 in
theorem w_M_simple_75 {p : Program} {l : Launch} {e : Env} {s : State} {m : MethodId} {args : Array Value} {below : List Frame} {meth : Method} {c : Code} {D : va_G} {cI : ClassId} {A : Nat → Prop} {q : Nat → Nat} {o : mS} (C0 : mo_C b_M_simple 7 D cI A p s m args meth c) (hr : meth.sig.returnType = none) : ∀ (x1 : Int32) (x2 : Int32) (x3 : Int32) (x4 : Int32) (x5 : Int32) (v : mS) (H : Heap) (locs : List Loc) (ls : Array Slot), f_M_simple_75  x1 x2 x3 x4 x5 v = some o → mo_H D cI A s q v H locs → lv_has ls 7 [(0, .ref (q 0)), (1, .int x1), (2, .int x2), (3, .int x3), (4, .int x4), (5, .int x5)] → W p l e (mo_rm 5) s m args below meth c H locs 0 0 (MQ below (mo_Qv D cI q o A) args s 0 0 A) (F0 m 75 ls []) := by
  have hx := C0.1
  have hb := C0.2.1
  intro x1 x2 x3 x4 x5 v H locs ls h hH hl
  unfold f_M_simple_75 at h
  refine lv_iload_n hx hb d_M_simple_75 rfl (lv_at hl 2 rfl) ?_
  refine lv_bipush (v := 32) hx hb d_M_simple_76 (by decide) ?_
  refine lv_icmp_ne (tgt := 120) hx hb d_M_simple_78 (by decide) (fun c_1 => ?_) (fun c_1 => ?_)
  · rw [if_neg c_1] at h
    exact w_M_simple_120 C0 hr  _ _ _ _ _ _ _ _ _ h hH (lv_sub hl [0, 1, 2, 3, 4, 5] rfl)
  · rw [if_pos c_1] at h
    refine lv_aload_n hx hb d_M_simple_81 rfl (lv_at hl 0 rfl) ?_
    refine lv_iload hx hb d_M_simple_82 (lv_at hl 4 rfl) ?_
    obtain ⟨r_4, v_2, hc_3, h⟩ := bi_out h
    refine mo_ci (r := r_4) (w := v_2) (as := [.int x4]) (rest := []) C0 hH (c_M_kindOf hc_3) yy_M_kindOf q_1107 q_109 (by decide) rfl hl.1 rfl (Nat.le_of_ble_eq_true rfl) ⟨Nat.zero_le _, Nat.zero_le _⟩ d_M_simple_84 (fun H locs hH => ?_)
    refine lv_bipush (v := 6) hx hb d_M_simple_87 (by decide) ?_
    refine lv_icmp_ne (tgt := 120) hx hb d_M_simple_89 (by decide) (fun c_5 => ?_) (fun c_5 => ?_)
    · rw [if_neg c_5] at h
      exact w_M_simple_120 C0 hr  _ _ _ _ _ _ _ _ _ h hH (lv_sub hl [0, 1, 2, 3, 4, 5] rfl)
    · rw [if_pos c_5] at h
      refine lv_aload_n hx hb d_M_simple_92 rfl (lv_at hl 0 rfl) ?_
      refine lv_iload_n hx hb d_M_simple_93 rfl (lv_at hl 3 rfl) ?_
      obtain ⟨r_8, v_6, hc_7, h⟩ := bi_out h
      refine mo_ci (r := r_8) (w := v_6) (as := [.int x3]) (rest := []) C0 hH (c_M_kindOf hc_7) yy_M_kindOf q_1107 q_109 (by decide) rfl hl.1 rfl (Nat.le_of_ble_eq_true rfl) ⟨Nat.zero_le _, Nat.zero_le _⟩ d_M_simple_94 (fun H locs hH => ?_)
      refine lv_iconst (v := 4) hx hb d_M_simple_97 (by decide) ?_
      refine lv_icmp_ne (tgt := 120) hx hb d_M_simple_98 (by decide) (fun c_9 => ?_) (fun c_9 => ?_)
      · rw [if_neg c_9] at h
        exact w_M_simple_120 C0 hr  _ _ _ _ _ _ _ _ _ h hH (lv_sub hl [0, 1, 2, 3, 4, 5] rfl)
      · rw [if_pos c_9] at h
        refine lv_aload_n hx hb d_M_simple_101 rfl (lv_at hl 0 rfl) ?_
        refine lv_iload hx hb d_M_simple_102 (lv_at hl 4 rfl) ?_
        refine lv_iload_n hx hb d_M_simple_104 rfl (lv_at hl 3 rfl) ?_
        obtain ⟨r_12, v_10, hc_11, h⟩ := bi_out h
        refine mo_ci (r := r_12) (w := v_10) (as := [.int x4, .int x3]) (rest := []) C0 hH (c_M_member hc_11) yy_M_member q_1123 q_109 (by decide) rfl hl.1 rfl (Nat.le_of_ble_eq_true rfl) ⟨Nat.zero_le _, Nat.zero_le _⟩ d_M_simple_105 (fun H locs hH => ?_)
        refine lv_if_lt (tgt := 116) hx hb d_M_simple_108 (by decide) (fun c_13 => ?_) (fun c_13 => ?_)
        · rw [if_pos c_13] at h
          refine lv_bipush (v := 8) hx hb d_M_simple_116 (by decide) ?_
          exact w_M_simple_118 C0 hr  _ _ _ _ _ _ _ _ _ h hH (lv_sub hl [0, 1, 2, 3, 4] rfl)
        · rw [if_neg c_13] at h
          refine lv_bipush (v := 12) hx hb d_M_simple_111 (by decide) ?_
          refine lv_goto (tgt := 118) hx hb d_M_simple_113 (by decide) ?_
          exact w_M_simple_118 C0 hr  _ _ _ _ _ _ _ _ _ h hH (lv_sub hl [0, 1, 2, 3, 4] rfl)
def f_M_simple (v : mS) (x1 : Int32) (x2 : Int32) (x3 : Int32) : Option (mS) := gd (inB x1 10) (nm (v 16 (x1 : Int32).toNatClampNeg) fun x4_2 => if x2 = 2 then (bi (f_M_index v x1 x4_2 x3) fun r_19 v_17 => if r_19 = 0 then (bv (f_M_err v_17 x1 1) fun v_21 => f_M_simple_33 v_21) else (f_M_simple_33 v_17)) else (if x2 = 11 then (gd (inB x1 10) (gd (inB (v 15 (x1 : Int32).toNatClampNeg) 128) (bi (f_M_stringOf v (v 4 (v 15 (x1 : Int32).toNatClampNeg : Int32).toNatClampNeg)) fun r_9 v_7 => gd (inB 0 64) (nm (sU v_7 11 (0 : Int32).toNatClampNeg r_9) fun v_11 => gd (inB 0 64) (nm (sU v_11 10 (0 : Int32).toNatClampNeg x3) fun v_13 => bi (f_M_object v_13 1) fun r_16 v_14 => f_M_simple_75 x1 x2 x3 x4_2 r_16 v_14))))) else (f_M_simple_75 x1 x2 x3 x4_2 (-1) v)))
set_option maxHeartbeats 4000000 in
set_option maxRecDepth 100000 in
theorem c_M_simple {l : Launch} {D : va_G} {cI : ClassId} {q : Nat → Nat} {v : mS} {x1 : Int32} {x2 : Int32} {x3 : Int32} {o : mS} (h : f_M_simple v x1 x2 x3 = some o) : mo_M l D cI q 5 y_M_simple b_M_simple 7 none [.ref (q 0), .int x1, .int x2, .int x3] v (mo_Qv D cI q o) := by
  refine mo_of (by decide +kernel) rfl (Nat.le_of_ble_eq_true rfl) ?_
  intro p e s m below meth c A ls C0 hr hl hH
  have hx := C0.1
  have hb := C0.2.1
  have hl : lv_has ls 7 [(0, .ref (q 0)), (1, .int x1), (2, .int x2), (3, .int x3)] := hl
  unfold f_M_simple at h
  refine lv_aload_n hx hb d_M_simple_0 rfl (lv_at hl 0 rfl) ?_
  refine mo_r_val C0 hH d_M_simple_1 ?_
  refine lv_iload_n hx hb d_M_simple_4 rfl (lv_at hl 1 rfl) ?_
  obtain ⟨g_1, h⟩ := gd_out h
  refine mo_ld 16 (by decide) (by decide) C0 hH (inB_in g_1) d_M_simple_5 ?_
  obtain ⟨x4_2, hx4_2, h⟩ := nm_out h
  refine fu_i hx4_2 ?_
  refine lv_istore (lv' := [(4, .int x4_2), (0, .ref (q 0)), (1, .int x1), (2, .int x2), (3, .int x3)]) hx hb d_M_simple_6 hl (by decide) rfl (fun ls hl => ?_)
  refine lv_iconst (v := (-1)) hx hb d_M_simple_8 (by decide) ?_
  refine lv_istore (lv' := [(5, .int (-1)), (4, .int x4_2), (0, .ref (q 0)), (1, .int x1), (2, .int x2), (3, .int x3)]) hx hb d_M_simple_9 hl (by decide) rfl (fun ls hl => ?_)
  refine lv_iload_n hx hb d_M_simple_11 rfl (lv_at hl 4 rfl) ?_
  refine lv_iconst (v := 2) hx hb d_M_simple_12 (by decide) ?_
  refine lv_icmp_ne (tgt := 34) hx hb d_M_simple_13 (by decide) (fun c_3 => ?_) (fun c_3 => ?_)
  · rw [if_neg c_3] at h
    refine lv_iload_n hx hb d_M_simple_34 rfl (lv_at hl 4 rfl) ?_
    refine lv_bipush (v := 11) hx hb d_M_simple_35 (by decide) ?_
    refine lv_icmp_ne (tgt := 75) hx hb d_M_simple_37 (by decide) (fun c_4 => ?_) (fun c_4 => ?_)
    · rw [if_neg c_4] at h
      exact w_M_simple_75 C0 hr  _ _ _ _ _ _ _ _ _ h hH (lv_sub hl [2, 3, 4, 5, 1, 0] rfl)
    · rw [if_pos c_4] at h
      refine lv_aload_n hx hb d_M_simple_40 rfl (lv_at hl 2 rfl) ?_
      refine mo_r_names C0 hH d_M_simple_41 ?_
      refine lv_iconst (v := 0) hx hb d_M_simple_44 (by decide) ?_
      refine lv_aload_n hx hb d_M_simple_45 rfl (lv_at hl 2 rfl) ?_
      refine lv_aload_n hx hb d_M_simple_46 rfl (lv_at hl 2 rfl) ?_
      refine mo_r_arg C0 hH d_M_simple_47 ?_
      refine lv_aload_n hx hb d_M_simple_50 rfl (lv_at hl 2 rfl) ?_
      refine mo_r_tok C0 hH d_M_simple_51 ?_
      refine lv_iload_n hx hb d_M_simple_54 rfl (lv_at hl 3 rfl) ?_
      obtain ⟨g_5, h⟩ := gd_out h
      refine mo_ld 15 (by decide) (by decide) C0 hH (inB_in g_5) d_M_simple_55 ?_
      obtain ⟨g_6, h⟩ := gd_out h
      refine mo_ld 4 (by decide) (by decide) C0 hH (inB_in g_6) d_M_simple_56 ?_
      obtain ⟨r_9, v_7, hc_8, h⟩ := bi_out h
      refine mo_ci (r := r_9) (w := v_7) (as := [.int (v 4 (v 15 (x1 : Int32).toNatClampNeg : Int32).toNatClampNeg)]) (rest := [.int 0, .ref (q 11)]) C0 hH (c_M_stringOf hc_8) yy_M_stringOf q_1111 q_109 (by decide) rfl hl.1 rfl (Nat.le_of_ble_eq_true rfl) ⟨Nat.zero_le _, Nat.zero_le _⟩ d_M_simple_57 (fun H locs hH => ?_)
      obtain ⟨g_10, h⟩ := gd_out h
      obtain ⟨v_11, hv_11, h⟩ := nm_out h
      refine mo_st 11 (by decide) (by decide) C0 hH (inB_in g_10) d_M_simple_60 (fun H locs hH => ?_)
      rw [← hv_11] at hH
      refine lv_aload_n hx hb d_M_simple_61 rfl (lv_at hl 2 rfl) ?_
      refine mo_r_items C0 hH d_M_simple_62 ?_
      refine lv_iconst (v := 0) hx hb d_M_simple_65 (by decide) ?_
      refine lv_iload_n hx hb d_M_simple_66 rfl (lv_at hl 5 rfl) ?_
      obtain ⟨g_12, h⟩ := gd_out h
      obtain ⟨v_13, hv_13, h⟩ := nm_out h
      refine mo_st 10 (by decide) (by decide) C0 hH (inB_in g_12) d_M_simple_67 (fun H locs hH => ?_)
      rw [← hv_13] at hH
      refine lv_aload_n hx hb d_M_simple_68 rfl (lv_at hl 2 rfl) ?_
      refine lv_iconst (v := 1) hx hb d_M_simple_69 (by decide) ?_
      obtain ⟨r_16, v_14, hc_15, h⟩ := bi_out h
      refine mo_ci (r := r_16) (w := v_14) (as := [.int 1]) (rest := []) C0 hH (c_M_object hc_15) yy_M_object q_1228 q_109 (by decide) rfl hl.1 rfl (Nat.le_of_ble_eq_true rfl) ⟨Nat.zero_le _, Nat.zero_le _⟩ d_M_simple_70 (fun H locs hH => ?_)
      refine lv_istore (lv' := [(5, .int r_16), (4, .int x4_2), (0, .ref (q 0)), (1, .int x1), (2, .int x2), (3, .int x3)]) hx hb d_M_simple_73 hl (by decide) rfl (fun ls hl => ?_)
      exact w_M_simple_75 C0 hr  _ _ _ _ _ _ _ _ _ h hH (lv_sub hl [2, 3, 4, 5, 1, 0] rfl)
  · rw [if_pos c_3] at h
    refine lv_aload_n hx hb d_M_simple_16 rfl (lv_at hl 2 rfl) ?_
    refine lv_iload_n hx hb d_M_simple_17 rfl (lv_at hl 3 rfl) ?_
    refine lv_iload hx hb d_M_simple_18 (lv_at hl 1 rfl) ?_
    refine lv_iload_n hx hb d_M_simple_20 rfl (lv_at hl 5 rfl) ?_
    obtain ⟨r_19, v_17, hc_18, h⟩ := bi_out h
    refine mo_ci (r := r_19) (w := v_17) (as := [.int x1, .int x4_2, .int x3]) (rest := []) C0 hH (c_M_index hc_18) yy_M_index q_1295 q_109 (by decide) rfl hl.1 rfl (Nat.le_of_ble_eq_true rfl) ⟨Nat.zero_le _, Nat.zero_le _⟩ d_M_simple_21 (fun H locs hH => ?_)
    refine lv_if_ne (tgt := 33) hx hb d_M_simple_24 (by decide) (fun c_20 => ?_) (fun c_20 => ?_)
    · rw [if_neg c_20] at h
      exact w_M_simple_33 C0 hr   _ _ _ _ h hH (lv_sub hl [] rfl)
    · rw [if_pos c_20] at h
      refine lv_aload_n hx hb d_M_simple_27 rfl (lv_at hl 2 rfl) ?_
      refine lv_iload_n hx hb d_M_simple_28 rfl (lv_at hl 3 rfl) ?_
      refine lv_iconst (v := 1) hx hb d_M_simple_29 (by decide) ?_
      obtain ⟨v_21, hc_22, h⟩ := bv_out h
      refine mo_cv (w := v_21) (as := [.int x1, .int 1]) (rest := []) C0 hH (c_M_err hc_22) yy_M_err q_1239 q_109 (by decide) rfl hl.1 rfl (Nat.le_of_ble_eq_true rfl) ⟨Nat.zero_le _, Nat.zero_le _⟩ d_M_simple_30 (fun H locs hH => ?_)
      exact w_M_simple_33 C0 hr   _ _ _ _ h hH (lv_sub hl [] rfl)
theorem yy_M_next : mo_Y y_M_next b_M_next 6 none 2 := ⟨rfl, q_1277, q_87, q_1278, by decide +kernel⟩
def f_M_next_388   (v : mS) : Option (mS) := some v
set_option maxHeartbeats 4000000 in
set_option maxRecDepth 100000 in
theorem w_M_next_388 {p : Program} {l : Launch} {e : Env} {s : State} {m : MethodId} {args : Array Value} {below : List Frame} {meth : Method} {c : Code} {D : va_G} {cI : ClassId} {A : Nat → Prop} {q : Nat → Nat} {o : mS} (C0 : mo_C b_M_next 6 D cI A p s m args meth c) (hr : meth.sig.returnType = none) : ∀  (v : mS) (H : Heap) (locs : List Loc) (ls : Array Slot), f_M_next_388   v = some o → mo_H D cI A s q v H locs → lv_has ls 6 [] → W p l e (mo_rm 6) s m args below meth c H locs 0 0 (MQ below (mo_Qv D cI q o A) args s 0 0 A) (F0 m 388 ls []) := by
  have hx := C0.1
  have hb := C0.2.1
  intro  v H locs ls h hH hl
  unfold f_M_next_388 at h
  exact mo_vret C0 hr hH d_M_next_388 h
def f_M_next_207  (x1 : Int32) (x5 : Int32) (v : mS) : Option (mS) := bv (f_M_ask v x1 0 x5 3) fun v_1 => f_M_next_388 v_1
set_option maxHeartbeats 4000000 in
set_option maxRecDepth 100000 in
theorem w_M_next_207 {p : Program} {l : Launch} {e : Env} {s : State} {m : MethodId} {args : Array Value} {below : List Frame} {meth : Method} {c : Code} {D : va_G} {cI : ClassId} {A : Nat → Prop} {q : Nat → Nat} {o : mS} (C0 : mo_C b_M_next 6 D cI A p s m args meth c) (hr : meth.sig.returnType = none) : ∀ (x1 : Int32) (x5 : Int32) (v : mS) (H : Heap) (locs : List Loc) (ls : Array Slot), f_M_next_207  x1 x5 v = some o → mo_H D cI A s q v H locs → lv_has ls 6 [(0, .ref (q 0)), (1, .int x1), (5, .int x5)] → W p l e (mo_rm 6) s m args below meth c H locs 0 0 (MQ below (mo_Qv D cI q o A) args s 0 0 A) (F0 m 207 ls []) := by
  have hx := C0.1
  have hb := C0.2.1
  intro x1 x5 v H locs ls h hH hl
  unfold f_M_next_207 at h
  refine lv_aload_n hx hb d_M_next_207 rfl (lv_at hl 0 rfl) ?_
  refine lv_iload_n hx hb d_M_next_208 rfl (lv_at hl 1 rfl) ?_
  refine lv_iconst (v := 0) hx hb d_M_next_209 (by decide) ?_
  refine lv_iload hx hb d_M_next_210 (lv_at hl 2 rfl) ?_
  refine lv_iconst (v := 3) hx hb d_M_next_212 (by decide) ?_
  obtain ⟨v_1, hc_2, h⟩ := bv_out h
  refine mo_cv (w := v_1) (as := [.int x1, .int 0, .int x5, .int 3]) (rest := []) C0 hH (c_M_ask hc_2) yy_M_ask q_1247 q_109 (by decide) rfl hl.1 rfl (Nat.le_of_ble_eq_true rfl) ⟨Nat.zero_le _, Nat.zero_le _⟩ d_M_next_213 (fun H locs hH => ?_)
  refine lv_goto (tgt := 388) hx hb d_M_next_216 (by decide) ?_
  exact w_M_next_388 C0 hr   _ _ _ _ h hH (lv_sub hl [] rfl)
def f_M_next_265  (y1 : Int32) (y2 : Int32) (v : mS) : Option (mS) := bv (f_M_told v y1 y2) fun v_1 => f_M_next_388 v_1
set_option maxHeartbeats 4000000 in
set_option maxRecDepth 100000 in
theorem w_M_next_265 {p : Program} {l : Launch} {e : Env} {s : State} {m : MethodId} {args : Array Value} {below : List Frame} {meth : Method} {c : Code} {D : va_G} {cI : ClassId} {A : Nat → Prop} {q : Nat → Nat} {o : mS} (C0 : mo_C b_M_next 6 D cI A p s m args meth c) (hr : meth.sig.returnType = none) : ∀ (y1 : Int32) (y2 : Int32) (v : mS) (H : Heap) (locs : List Loc) (ls : Array Slot), f_M_next_265  y1 y2 v = some o → mo_H D cI A s q v H locs → lv_has ls 6 [] → W p l e (mo_rm 6) s m args below meth c H locs 0 0 (MQ below (mo_Qv D cI q o A) args s 0 0 A) (F0 m 265 ls [.int y2, .int y1, .ref (q 0)]) := by
  have hx := C0.1
  have hb := C0.2.1
  intro y1 y2 v H locs ls h hH hl
  unfold f_M_next_265 at h
  obtain ⟨v_1, hc_2, h⟩ := bv_out h
  refine mo_cv (w := v_1) (as := [.int y1, .int y2]) (rest := []) C0 hH (c_M_told hc_2) yy_M_told q_1287 q_109 (by decide) rfl hl.1 rfl (Nat.le_of_ble_eq_true rfl) ⟨Nat.zero_le _, Nat.zero_le _⟩ d_M_next_265 (fun H locs hH => ?_)
  refine lv_goto (tgt := 388) hx hb d_M_next_268 (by decide) ?_
  exact w_M_next_388 C0 hr   _ _ _ _ h hH (lv_sub hl [] rfl)
def f_M_next_235  (x1 : Int32) (x2 : Int32) (x5 : Int32) (y0 : Int32) (y1 : Int32) (v : mS) : Option (mS) := if y0 = y1 then (bv (f_M_ask v x1 1 x5 3) fun v_3 => f_M_next_388 v_3) else (if x2 = 14 then (f_M_next_265 x1 8 v) else (f_M_next_265 x1 12 v))
set_option maxHeartbeats 4000000 in
set_option maxRecDepth 100000 in
theorem w_M_next_235 {p : Program} {l : Launch} {e : Env} {s : State} {m : MethodId} {args : Array Value} {below : List Frame} {meth : Method} {c : Code} {D : va_G} {cI : ClassId} {A : Nat → Prop} {q : Nat → Nat} {o : mS} (C0 : mo_C b_M_next 6 D cI A p s m args meth c) (hr : meth.sig.returnType = none) : ∀ (x1 : Int32) (x2 : Int32) (x5 : Int32) (y0 : Int32) (y1 : Int32) (v : mS) (H : Heap) (locs : List Loc) (ls : Array Slot), f_M_next_235  x1 x2 x5 y0 y1 v = some o → mo_H D cI A s q v H locs → lv_has ls 6 [(0, .ref (q 0)), (1, .int x1), (2, .int x2), (5, .int x5)] → W p l e (mo_rm 6) s m args below meth c H locs 0 0 (MQ below (mo_Qv D cI q o A) args s 0 0 A) (F0 m 235 ls [.int y1, .int y0]) := by
  have hx := C0.1
  have hb := C0.2.1
  intro x1 x2 x5 y0 y1 v H locs ls h hH hl
  unfold f_M_next_235 at h
  refine lv_icmp_ne (tgt := 250) hx hb d_M_next_235 (by decide) (fun c_1 => ?_) (fun c_1 => ?_)
  · rw [if_neg c_1] at h
    refine lv_aload_n hx hb d_M_next_250 rfl (lv_at hl 0 rfl) ?_
    refine lv_iload_n hx hb d_M_next_251 rfl (lv_at hl 1 rfl) ?_
    refine lv_iload_n hx hb d_M_next_252 rfl (lv_at hl 2 rfl) ?_
    refine lv_bipush (v := 14) hx hb d_M_next_253 (by decide) ?_
    refine lv_icmp_ne (tgt := 263) hx hb d_M_next_255 (by decide) (fun c_2 => ?_) (fun c_2 => ?_)
    · rw [if_neg c_2] at h
      refine lv_bipush (v := 12) hx hb d_M_next_263 (by decide) ?_
      exact w_M_next_265 C0 hr  _ _ _ _ _ _ h hH (lv_sub hl [] rfl)
    · rw [if_pos c_2] at h
      refine lv_bipush (v := 8) hx hb d_M_next_258 (by decide) ?_
      refine lv_goto (tgt := 265) hx hb d_M_next_260 (by decide) ?_
      exact w_M_next_265 C0 hr  _ _ _ _ _ _ h hH (lv_sub hl [] rfl)
  · rw [if_pos c_1] at h
    refine lv_aload_n hx hb d_M_next_238 rfl (lv_at hl 0 rfl) ?_
    refine lv_iload_n hx hb d_M_next_239 rfl (lv_at hl 1 rfl) ?_
    refine lv_iconst (v := 1) hx hb d_M_next_240 (by decide) ?_
    refine lv_iload hx hb d_M_next_241 (lv_at hl 3 rfl) ?_
    refine lv_iconst (v := 3) hx hb d_M_next_243 (by decide) ?_
    obtain ⟨v_3, hc_4, h⟩ := bv_out h
    refine mo_cv (w := v_3) (as := [.int x1, .int 1, .int x5, .int 3]) (rest := []) C0 hH (c_M_ask hc_4) yy_M_ask q_1247 q_109 (by decide) rfl hl.1 rfl (Nat.le_of_ble_eq_true rfl) ⟨Nat.zero_le _, Nat.zero_le _⟩ d_M_next_244 (fun H locs hH => ?_)
    refine lv_goto (tgt := 388) hx hb d_M_next_247 (by decide) ?_
    exact w_M_next_388 C0 hr   _ _ _ _ h hH (lv_sub hl [] rfl)
def f_M_next_219  (x1 : Int32) (x2 : Int32) (x3 : Int32) (x5 : Int32) (v : mS) : Option (mS) := bi (f_M_good v x3) fun r_3 v_1 => if x2 = 14 then (f_M_next_235 x1 x2 x5 r_3 1 v_1) else (f_M_next_235 x1 x2 x5 r_3 0 v_1)
set_option maxHeartbeats 4000000 in
set_option maxRecDepth 100000 in
theorem w_M_next_219 {p : Program} {l : Launch} {e : Env} {s : State} {m : MethodId} {args : Array Value} {below : List Frame} {meth : Method} {c : Code} {D : va_G} {cI : ClassId} {A : Nat → Prop} {q : Nat → Nat} {o : mS} (C0 : mo_C b_M_next 6 D cI A p s m args meth c) (hr : meth.sig.returnType = none) : ∀ (x1 : Int32) (x2 : Int32) (x3 : Int32) (x5 : Int32) (v : mS) (H : Heap) (locs : List Loc) (ls : Array Slot), f_M_next_219  x1 x2 x3 x5 v = some o → mo_H D cI A s q v H locs → lv_has ls 6 [(0, .ref (q 0)), (1, .int x1), (2, .int x2), (3, .int x3), (5, .int x5)] → W p l e (mo_rm 6) s m args below meth c H locs 0 0 (MQ below (mo_Qv D cI q o A) args s 0 0 A) (F0 m 219 ls []) := by
  have hx := C0.1
  have hb := C0.2.1
  intro x1 x2 x3 x5 v H locs ls h hH hl
  unfold f_M_next_219 at h
  refine lv_aload_n hx hb d_M_next_219 rfl (lv_at hl 0 rfl) ?_
  refine lv_iload_n hx hb d_M_next_220 rfl (lv_at hl 3 rfl) ?_
  obtain ⟨r_3, v_1, hc_2, h⟩ := bi_out h
  refine mo_ci (r := r_3) (w := v_1) (as := [.int x3]) (rest := []) C0 hH (c_M_good hc_2) yy_M_good q_1174 q_109 (by decide) rfl hl.1 rfl (Nat.le_of_ble_eq_true rfl) ⟨Nat.zero_le _, Nat.zero_le _⟩ d_M_next_221 (fun H locs hH => ?_)
  refine lv_iload_n hx hb d_M_next_224 rfl (lv_at hl 2 rfl) ?_
  refine lv_bipush (v := 14) hx hb d_M_next_225 (by decide) ?_
  refine lv_icmp_ne (tgt := 234) hx hb d_M_next_227 (by decide) (fun c_4 => ?_) (fun c_4 => ?_)
  · rw [if_neg c_4] at h
    refine lv_iconst (v := 0) hx hb d_M_next_234 (by decide) ?_
    exact w_M_next_235 C0 hr  _ _ _ _ _ _ _ _ _ h hH (lv_sub hl [0, 1, 2, 4] rfl)
  · rw [if_pos c_4] at h
    refine lv_iconst (v := 1) hx hb d_M_next_230 (by decide) ?_
    refine lv_goto (tgt := 235) hx hb d_M_next_231 (by decide) ?_
    exact w_M_next_235 C0 hr  _ _ _ _ _ _ _ _ _ h hH (lv_sub hl [0, 1, 2, 4] rfl)
def f_M_next_286  (x5 : Int32) (y1 : Int32) (y2 : Int32) (v : mS) : Option (mS) := bv (f_M_ask v y1 y2 x5 3) fun v_1 => f_M_next_388 v_1
set_option maxHeartbeats 4000000 in
set_option maxRecDepth 100000 in
theorem w_M_next_286 {p : Program} {l : Launch} {e : Env} {s : State} {m : MethodId} {args : Array Value} {below : List Frame} {meth : Method} {c : Code} {D : va_G} {cI : ClassId} {A : Nat → Prop} {q : Nat → Nat} {o : mS} (C0 : mo_C b_M_next 6 D cI A p s m args meth c) (hr : meth.sig.returnType = none) : ∀ (x5 : Int32) (y1 : Int32) (y2 : Int32) (v : mS) (H : Heap) (locs : List Loc) (ls : Array Slot), f_M_next_286  x5 y1 y2 v = some o → mo_H D cI A s q v H locs → lv_has ls 6 [(5, .int x5)] → W p l e (mo_rm 6) s m args below meth c H locs 0 0 (MQ below (mo_Qv D cI q o A) args s 0 0 A) (F0 m 286 ls [.int y2, .int y1, .ref (q 0)]) := by
  have hx := C0.1
  have hb := C0.2.1
  intro x5 y1 y2 v H locs ls h hH hl
  unfold f_M_next_286 at h
  refine lv_iload hx hb d_M_next_286 (lv_at hl 0 rfl) ?_
  refine lv_iconst (v := 3) hx hb d_M_next_288 (by decide) ?_
  obtain ⟨v_1, hc_2, h⟩ := bv_out h
  refine mo_cv (w := v_1) (as := [.int y1, .int y2, .int x5, .int 3]) (rest := []) C0 hH (c_M_ask hc_2) yy_M_ask q_1247 q_109 (by decide) rfl hl.1 rfl (Nat.le_of_ble_eq_true rfl) ⟨Nat.zero_le _, Nat.zero_le _⟩ d_M_next_289 (fun H locs hH => ?_)
  refine lv_goto (tgt := 388) hx hb d_M_next_292 (by decide) ?_
  exact w_M_next_388 C0 hr   _ _ _ _ h hH (lv_sub hl [] rfl)
def f_M_next_346  (y1 : Int32) (y2 : Int32) (y3 : Int32) (v : mS) : Option (mS) := bv (f_M_ask v y1 y2 y3 3) fun v_1 => f_M_next_388 v_1
set_option maxHeartbeats 4000000 in
set_option maxRecDepth 100000 in
theorem w_M_next_346 {p : Program} {l : Launch} {e : Env} {s : State} {m : MethodId} {args : Array Value} {below : List Frame} {meth : Method} {c : Code} {D : va_G} {cI : ClassId} {A : Nat → Prop} {q : Nat → Nat} {o : mS} (C0 : mo_C b_M_next 6 D cI A p s m args meth c) (hr : meth.sig.returnType = none) : ∀ (y1 : Int32) (y2 : Int32) (y3 : Int32) (v : mS) (H : Heap) (locs : List Loc) (ls : Array Slot), f_M_next_346  y1 y2 y3 v = some o → mo_H D cI A s q v H locs → lv_has ls 6 [] → W p l e (mo_rm 6) s m args below meth c H locs 0 0 (MQ below (mo_Qv D cI q o A) args s 0 0 A) (F0 m 346 ls [.int y3, .int y2, .int y1, .ref (q 0)]) := by
  have hx := C0.1
  have hb := C0.2.1
  intro y1 y2 y3 v H locs ls h hH hl
  unfold f_M_next_346 at h
  refine lv_iconst (v := 3) hx hb d_M_next_346 (by decide) ?_
  obtain ⟨v_1, hc_2, h⟩ := bv_out h
  refine mo_cv (w := v_1) (as := [.int y1, .int y2, .int y3, .int 3]) (rest := []) C0 hH (c_M_ask hc_2) yy_M_ask q_1247 q_109 (by decide) rfl hl.1 rfl (Nat.le_of_ble_eq_true rfl) ⟨Nat.zero_le _, Nat.zero_le _⟩ d_M_next_347 (fun H locs hH => ?_)
  refine lv_goto (tgt := 388) hx hb d_M_next_350 (by decide) ?_
  exact w_M_next_388 C0 hr   _ _ _ _ h hH (lv_sub hl [] rfl)
def f_M_next_329  (x1 : Int32) (x2 : Int32) (x5 : Int32) (y1 : Int32) (y2 : Int32) (v : mS) : Option (mS) := if x2 = 20 then (f_M_next_346 y1 y2 x5 v) else (gd (inB x1 10) (f_M_next_346 y1 y2 (v 21 (x1 : Int32).toNatClampNeg) v))
set_option maxHeartbeats 4000000 in
set_option maxRecDepth 100000 in
theorem w_M_next_329 {p : Program} {l : Launch} {e : Env} {s : State} {m : MethodId} {args : Array Value} {below : List Frame} {meth : Method} {c : Code} {D : va_G} {cI : ClassId} {A : Nat → Prop} {q : Nat → Nat} {o : mS} (C0 : mo_C b_M_next 6 D cI A p s m args meth c) (hr : meth.sig.returnType = none) : ∀ (x1 : Int32) (x2 : Int32) (x5 : Int32) (y1 : Int32) (y2 : Int32) (v : mS) (H : Heap) (locs : List Loc) (ls : Array Slot), f_M_next_329  x1 x2 x5 y1 y2 v = some o → mo_H D cI A s q v H locs → lv_has ls 6 [(0, .ref (q 0)), (1, .int x1), (2, .int x2), (5, .int x5)] → W p l e (mo_rm 6) s m args below meth c H locs 0 0 (MQ below (mo_Qv D cI q o A) args s 0 0 A) (F0 m 329 ls [.int y2, .int y1, .ref (q 0)]) := by
  have hx := C0.1
  have hb := C0.2.1
  intro x1 x2 x5 y1 y2 v H locs ls h hH hl
  unfold f_M_next_329 at h
  refine lv_iload_n hx hb d_M_next_329 rfl (lv_at hl 2 rfl) ?_
  refine lv_bipush (v := 20) hx hb d_M_next_330 (by decide) ?_
  refine lv_icmp_ne (tgt := 340) hx hb d_M_next_332 (by decide) (fun c_1 => ?_) (fun c_1 => ?_)
  · rw [if_neg c_1] at h
    refine lv_aload_n hx hb d_M_next_340 rfl (lv_at hl 0 rfl) ?_
    refine mo_r_held C0 hH d_M_next_341 ?_
    refine lv_iload_n hx hb d_M_next_344 rfl (lv_at hl 1 rfl) ?_
    obtain ⟨g_2, h⟩ := gd_out h
    refine mo_ld 21 (by decide) (by decide) C0 hH (inB_in g_2) d_M_next_345 ?_
    exact w_M_next_346 C0 hr  _ _ _ _ _ _ _ h hH (lv_sub hl [] rfl)
  · rw [if_pos c_1] at h
    refine lv_iload hx hb d_M_next_335 (lv_at hl 3 rfl) ?_
    refine lv_goto (tgt := 346) hx hb d_M_next_337 (by decide) ?_
    exact w_M_next_346 C0 hr  _ _ _ _ _ _ _ h hH (lv_sub hl [] rfl)
def f_M_next_295  (x1 : Int32) (x2 : Int32) (x3 : Int32) (x4 : Int32) (x5 : Int32) (v : mS) : Option (mS) := gd (inB x4 4) (gd (inB x1 10) (nm (sU v 22 (x1 : Int32).toNatClampNeg (v 14 (x4 : Int32).toNatClampNeg)) fun v_3 => gd (inB x4 4) (nm (sU v_3 14 (x4 : Int32).toNatClampNeg x3) fun v_5 => if x2 = 20 then (f_M_next_329 x1 x2 x5 x1 1 v_5) else (f_M_next_329 x1 x2 x5 x1 2 v_5))))
set_option maxHeartbeats 4000000 in
set_option maxRecDepth 100000 in
theorem w_M_next_295 {p : Program} {l : Launch} {e : Env} {s : State} {m : MethodId} {args : Array Value} {below : List Frame} {meth : Method} {c : Code} {D : va_G} {cI : ClassId} {A : Nat → Prop} {q : Nat → Nat} {o : mS} (C0 : mo_C b_M_next 6 D cI A p s m args meth c) (hr : meth.sig.returnType = none) : ∀ (x1 : Int32) (x2 : Int32) (x3 : Int32) (x4 : Int32) (x5 : Int32) (v : mS) (H : Heap) (locs : List Loc) (ls : Array Slot), f_M_next_295  x1 x2 x3 x4 x5 v = some o → mo_H D cI A s q v H locs → lv_has ls 6 [(0, .ref (q 0)), (1, .int x1), (2, .int x2), (3, .int x3), (4, .int x4), (5, .int x5)] → W p l e (mo_rm 6) s m args below meth c H locs 0 0 (MQ below (mo_Qv D cI q o A) args s 0 0 A) (F0 m 295 ls []) := by
  have hx := C0.1
  have hb := C0.2.1
  intro x1 x2 x3 x4 x5 v H locs ls h hH hl
  unfold f_M_next_295 at h
  refine lv_aload_n hx hb d_M_next_295 rfl (lv_at hl 0 rfl) ?_
  refine mo_r_saved C0 hH d_M_next_296 ?_
  refine lv_iload_n hx hb d_M_next_299 rfl (lv_at hl 1 rfl) ?_
  refine lv_aload_n hx hb d_M_next_300 rfl (lv_at hl 0 rfl) ?_
  refine mo_r_variable C0 hH d_M_next_301 ?_
  refine lv_iload hx hb d_M_next_304 (lv_at hl 4 rfl) ?_
  obtain ⟨g_1, h⟩ := gd_out h
  refine mo_ld 14 (by decide) (by decide) C0 hH (inB_in g_1) d_M_next_306 ?_
  obtain ⟨g_2, h⟩ := gd_out h
  obtain ⟨v_3, hv_3, h⟩ := nm_out h
  refine mo_st 22 (by decide) (by decide) C0 hH (inB_in g_2) d_M_next_307 (fun H locs hH => ?_)
  rw [← hv_3] at hH
  refine lv_aload_n hx hb d_M_next_308 rfl (lv_at hl 0 rfl) ?_
  refine mo_r_variable C0 hH d_M_next_309 ?_
  refine lv_iload hx hb d_M_next_312 (lv_at hl 4 rfl) ?_
  refine lv_iload_n hx hb d_M_next_314 rfl (lv_at hl 3 rfl) ?_
  obtain ⟨g_4, h⟩ := gd_out h
  obtain ⟨v_5, hv_5, h⟩ := nm_out h
  refine mo_st 14 (by decide) (by decide) C0 hH (inB_in g_4) d_M_next_315 (fun H locs hH => ?_)
  rw [← hv_5] at hH
  refine lv_aload_n hx hb d_M_next_316 rfl (lv_at hl 0 rfl) ?_
  refine lv_iload_n hx hb d_M_next_317 rfl (lv_at hl 1 rfl) ?_
  refine lv_iload_n hx hb d_M_next_318 rfl (lv_at hl 2 rfl) ?_
  refine lv_bipush (v := 20) hx hb d_M_next_319 (by decide) ?_
  refine lv_icmp_ne (tgt := 328) hx hb d_M_next_321 (by decide) (fun c_6 => ?_) (fun c_6 => ?_)
  · rw [if_neg c_6] at h
    refine lv_iconst (v := 2) hx hb d_M_next_328 (by decide) ?_
    exact w_M_next_329 C0 hr  _ _ _ _ _ _ _ _ _ h hH (lv_sub hl [0, 1, 2, 5] rfl)
  · rw [if_pos c_6] at h
    refine lv_iconst (v := 1) hx hb d_M_next_324 (by decide) ?_
    refine lv_goto (tgt := 329) hx hb d_M_next_325 (by decide) ?_
    exact w_M_next_329 C0 hr  _ _ _ _ _ _ _ _ _ h hH (lv_sub hl [0, 1, 2, 5] rfl)
def f_M_next_368  (x1 : Int32) (v : mS) : Option (mS) := gd (inB x1 10) (gd (inB x1 10) (nm (sU v 18 (x1 : Int32).toNatClampNeg ((v 18 (x1 : Int32).toNatClampNeg) + 1)) fun v_3 => f_M_next_388 v_3))
set_option maxHeartbeats 4000000 in
set_option maxRecDepth 100000 in
theorem w_M_next_368 {p : Program} {l : Launch} {e : Env} {s : State} {m : MethodId} {args : Array Value} {below : List Frame} {meth : Method} {c : Code} {D : va_G} {cI : ClassId} {A : Nat → Prop} {q : Nat → Nat} {o : mS} (C0 : mo_C b_M_next 6 D cI A p s m args meth c) (hr : meth.sig.returnType = none) : ∀ (x1 : Int32) (v : mS) (H : Heap) (locs : List Loc) (ls : Array Slot), f_M_next_368  x1 v = some o → mo_H D cI A s q v H locs → lv_has ls 6 [(0, .ref (q 0)), (1, .int x1)] → W p l e (mo_rm 6) s m args below meth c H locs 0 0 (MQ below (mo_Qv D cI q o A) args s 0 0 A) (F0 m 368 ls []) := by
  have hx := C0.1
  have hb := C0.2.1
  intro x1 v H locs ls h hH hl
  unfold f_M_next_368 at h
  refine lv_aload_n hx hb d_M_next_368 rfl (lv_at hl 0 rfl) ?_
  refine mo_r_at C0 hH d_M_next_369 ?_
  refine lv_iload_n hx hb d_M_next_372 rfl (lv_at hl 1 rfl) ?_
  refine lv_dup2_11 hx hb d_M_next_373 rfl rfl ?_
  obtain ⟨g_1, h⟩ := gd_out h
  refine mo_ld 18 (by decide) (by decide) C0 hH (inB_in g_1) d_M_next_374 ?_
  refine lv_iconst (v := 1) hx hb d_M_next_375 (by decide) ?_
  refine lv_iadd hx hb d_M_next_376 ?_
  obtain ⟨g_2, h⟩ := gd_out h
  obtain ⟨v_3, hv_3, h⟩ := nm_out h
  refine mo_st 18 (by decide) (by decide) C0 hH (inB_in g_2) d_M_next_377 (fun H locs hH => ?_)
  rw [← hv_3] at hH
  refine lv_goto (tgt := 388) hx hb d_M_next_378 (by decide) ?_
  exact w_M_next_388 C0 hr   _ _ _ _ h hH (lv_sub hl [] rfl)
def f_M_next_381  (x1 : Int32) (x2 : Int32) (x3 : Int32) (v : mS) : Option (mS) := bv (f_M_simple v x1 x2 x3) fun v_1 => f_M_next_388 v_1
set_option maxHeartbeats 4000000 in
set_option maxRecDepth 100000 in
theorem w_M_next_381 {p : Program} {l : Launch} {e : Env} {s : State} {m : MethodId} {args : Array Value} {below : List Frame} {meth : Method} {c : Code} {D : va_G} {cI : ClassId} {A : Nat → Prop} {q : Nat → Nat} {o : mS} (C0 : mo_C b_M_next 6 D cI A p s m args meth c) (hr : meth.sig.returnType = none) : ∀ (x1 : Int32) (x2 : Int32) (x3 : Int32) (v : mS) (H : Heap) (locs : List Loc) (ls : Array Slot), f_M_next_381  x1 x2 x3 v = some o → mo_H D cI A s q v H locs → lv_has ls 6 [(0, .ref (q 0)), (1, .int x1), (2, .int x2), (3, .int x3)] → W p l e (mo_rm 6) s m args below meth c H locs 0 0 (MQ below (mo_Qv D cI q o A) args s 0 0 A) (F0 m 381 ls []) := by
  have hx := C0.1
  have hb := C0.2.1
  intro x1 x2 x3 v H locs ls h hH hl
  unfold f_M_next_381 at h
  refine lv_aload_n hx hb d_M_next_381 rfl (lv_at hl 0 rfl) ?_
  refine lv_iload_n hx hb d_M_next_382 rfl (lv_at hl 1 rfl) ?_
  refine lv_iload_n hx hb d_M_next_383 rfl (lv_at hl 2 rfl) ?_
  refine lv_iload_n hx hb d_M_next_384 rfl (lv_at hl 3 rfl) ?_
  obtain ⟨v_1, hc_2, h⟩ := bv_out h
  refine mo_cv (w := v_1) (as := [.int x1, .int x2, .int x3]) (rest := []) C0 hH (c_M_simple hc_2) yy_M_simple q_1291 q_109 (by decide) rfl hl.1 rfl (Nat.le_of_ble_eq_true rfl) ⟨Nat.zero_le _, Nat.zero_le _⟩ d_M_next_385 (fun H locs hH => ?_)
  exact w_M_next_388 C0 hr   _ _ _ _ h hH (lv_sub hl [] rfl)
def f_M_next (v : mS) (x1 : Int32) (x2 : Int32) : Option (mS) := gd (inB x1 10) (gd (inB x1 10) (if (v 18 (x1 : Int32).toNatClampNeg) = (v 19 (x1 : Int32).toNatClampNeg) then (bv (f_M_last v x1 x2) fun v_54 => some v_54) else (gd (inB x1 10) (gd (inB ((17 * x1) + (v 18 (x1 : Int32).toNatClampNeg)) 170) (nm (v 23 ((17 * x1) + (v 18 (x1 : Int32).toNatClampNeg) : Int32).toNatClampNeg) fun x3_6 => gd (inB x1 10) (gd (inB (v 15 (x1 : Int32).toNatClampNeg) 128) (nm (v 4 (v 15 (x1 : Int32).toNatClampNeg : Int32).toNatClampNeg) fun x4_9 => gd (inB x1 10) (nm (v 16 (x1 : Int32).toNatClampNeg) fun x5_11 => if x2 = 4 then (bv (f_M_ask v x1 1 x3_6 3) fun v_12 => f_M_next_388 v_12) else if x2 = 5 then (f_M_next_381 x1 x2 x3_6 v) else if x2 = 6 then (f_M_next_381 x1 x2 x3_6 v) else if x2 = 7 then (f_M_next_381 x1 x2 x3_6 v) else if x2 = 8 then (f_M_next_381 x1 x2 x3_6 v) else if x2 = 9 then (f_M_next_381 x1 x2 x3_6 v) else if x2 = 10 then (f_M_next_381 x1 x2 x3_6 v) else if x2 = 11 then (f_M_next_381 x1 x2 x3_6 v) else if x2 = 12 then (f_M_next_207 x1 x5_11 v) else if x2 = 13 then (f_M_next_207 x1 x5_11 v) else if x2 = 14 then (f_M_next_219 x1 x2 x3_6 x5_11 v) else if x2 = 15 then (f_M_next_219 x1 x2 x3_6 x5_11 v) else if x2 = 16 then (f_M_next_381 x1 x2 x3_6 v) else if x2 = 17 then (bi (f_M_good v x3_6) fun r_29 v_27 => if r_29 = 0 then (f_M_next_286 x5_11 x1 2 v_27) else (f_M_next_286 x5_11 x1 1 v_27)) else if x2 = 18 then (f_M_next_381 x1 x2 x3_6 v) else if x2 = 19 then (f_M_next_381 x1 x2 x3_6 v) else if x2 = 20 then (f_M_next_295 x1 x2 x3_6 x4_9 x5_11 v) else if x2 = 21 then (f_M_next_381 x1 x2 x3_6 v) else if x2 = 22 then (f_M_next_295 x1 x2 x3_6 x4_9 x5_11 v) else if x2 = 23 then (f_M_next_381 x1 x2 x3_6 v) else if x2 = 24 then (f_M_next_381 x1 x2 x3_6 v) else if x2 = 25 then (f_M_next_381 x1 x2 x3_6 v) else if x2 = 26 then (f_M_next_381 x1 x2 x3_6 v) else if x2 = 27 then (f_M_next_381 x1 x2 x3_6 v) else if x2 = 28 then (f_M_next_381 x1 x2 x3_6 v) else if x2 = 29 then (f_M_next_381 x1 x2 x3_6 v) else if x2 = 30 then (f_M_next_381 x1 x2 x3_6 v) else if x2 = 31 then (f_M_next_381 x1 x2 x3_6 v) else if x2 = 32 then (f_M_next_381 x1 x2 x3_6 v) else if x2 = 33 then (bi (f_M_good v x3_6) fun r_49 v_47 => if r_49 = 0 then (f_M_next_368 x1 v_47) else (bv (f_M_emit v_47 x1 x5_11) fun v_51 => f_M_next_368 x1 v_51)) else (f_M_next_381 x1 x2 x3_6 v)))))))))
set_option maxHeartbeats 4000000 in
set_option maxRecDepth 100000 in
theorem c_M_next {l : Launch} {D : va_G} {cI : ClassId} {q : Nat → Nat} {v : mS} {x1 : Int32} {x2 : Int32} {o : mS} (h : f_M_next v x1 x2 = some o) : mo_M l D cI q 6 y_M_next b_M_next 6 none [.ref (q 0), .int x1, .int x2] v (mo_Qv D cI q o) := by
  refine mo_of (by decide +kernel) rfl (Nat.le_of_ble_eq_true rfl) ?_
  intro p e s m below meth c A ls C0 hr hl hH
  have hx := C0.1
  have hb := C0.2.1
  have hl : lv_has ls 6 [(0, .ref (q 0)), (1, .int x1), (2, .int x2)] := hl
  unfold f_M_next at h
  refine lv_aload_n hx hb d_M_next_0 rfl (lv_at hl 0 rfl) ?_
  refine mo_r_at C0 hH d_M_next_1 ?_
  refine lv_iload_n hx hb d_M_next_4 rfl (lv_at hl 1 rfl) ?_
  obtain ⟨g_1, h⟩ := gd_out h
  refine mo_ld 18 (by decide) (by decide) C0 hH (inB_in g_1) d_M_next_5 ?_
  refine lv_aload_n hx hb d_M_next_6 rfl (lv_at hl 0 rfl) ?_
  refine mo_r_rows C0 hH d_M_next_7 ?_
  refine lv_iload_n hx hb d_M_next_10 rfl (lv_at hl 1 rfl) ?_
  obtain ⟨g_2, h⟩ := gd_out h
  refine mo_ld 19 (by decide) (by decide) C0 hH (inB_in g_2) d_M_next_11 ?_
  refine lv_icmp_ne (tgt := 22) hx hb d_M_next_12 (by decide) (fun c_3 => ?_) (fun c_3 => ?_)
  · rw [if_neg c_3] at h
    refine lv_aload_n hx hb d_M_next_22 rfl (lv_at hl 0 rfl) ?_
    refine mo_r_row C0 hH d_M_next_23 ?_
    refine lv_bipush (v := 17) hx hb d_M_next_26 (by decide) ?_
    refine lv_iload_n hx hb d_M_next_28 rfl (lv_at hl 1 rfl) ?_
    refine lv_imul hx hb d_M_next_29 ?_
    refine lv_aload_n hx hb d_M_next_30 rfl (lv_at hl 0 rfl) ?_
    refine mo_r_at C0 hH d_M_next_31 ?_
    refine lv_iload_n hx hb d_M_next_34 rfl (lv_at hl 1 rfl) ?_
    obtain ⟨g_4, h⟩ := gd_out h
    refine mo_ld 18 (by decide) (by decide) C0 hH (inB_in g_4) d_M_next_35 ?_
    refine lv_iadd hx hb d_M_next_36 ?_
    obtain ⟨g_5, h⟩ := gd_out h
    refine mo_ld 23 (by decide) (by decide) C0 hH (inB_in g_5) d_M_next_37 ?_
    obtain ⟨x3_6, hx3_6, h⟩ := nm_out h
    refine fu_i hx3_6 ?_
    refine lv_istore_n (lv' := [(3, .int x3_6), (0, .ref (q 0)), (1, .int x1), (2, .int x2)]) hx hb d_M_next_38 rfl hl (by decide) rfl (fun ls hl => ?_)
    refine lv_aload_n hx hb d_M_next_39 rfl (lv_at hl 1 rfl) ?_
    refine mo_r_arg C0 hH d_M_next_40 ?_
    refine lv_aload_n hx hb d_M_next_43 rfl (lv_at hl 1 rfl) ?_
    refine mo_r_tok C0 hH d_M_next_44 ?_
    refine lv_iload_n hx hb d_M_next_47 rfl (lv_at hl 2 rfl) ?_
    obtain ⟨g_7, h⟩ := gd_out h
    refine mo_ld 15 (by decide) (by decide) C0 hH (inB_in g_7) d_M_next_48 ?_
    obtain ⟨g_8, h⟩ := gd_out h
    refine mo_ld 4 (by decide) (by decide) C0 hH (inB_in g_8) d_M_next_49 ?_
    obtain ⟨x4_9, hx4_9, h⟩ := nm_out h
    refine fu_i hx4_9 ?_
    refine lv_istore (lv' := [(4, .int x4_9), (3, .int x3_6), (0, .ref (q 0)), (1, .int x1), (2, .int x2)]) hx hb d_M_next_50 hl (by decide) rfl (fun ls hl => ?_)
    refine lv_aload_n hx hb d_M_next_52 rfl (lv_at hl 2 rfl) ?_
    refine mo_r_val C0 hH d_M_next_53 ?_
    refine lv_iload_n hx hb d_M_next_56 rfl (lv_at hl 3 rfl) ?_
    obtain ⟨g_10, h⟩ := gd_out h
    refine mo_ld 16 (by decide) (by decide) C0 hH (inB_in g_10) d_M_next_57 ?_
    obtain ⟨x5_11, hx5_11, h⟩ := nm_out h
    refine fu_i hx5_11 ?_
    refine lv_istore (lv' := [(5, .int x5_11), (4, .int x4_9), (3, .int x3_6), (0, .ref (q 0)), (1, .int x1), (2, .int x2)]) hx hb d_M_next_58 hl (by decide) rfl (fun ls hl => ?_)
    refine lv_iload_n hx hb d_M_next_60 rfl (lv_at hl 5 rfl) ?_
    by_cases e_14 : x2 = 4
    · rw [if_pos e_14] at h
      refine fu_hit (tgt := 196) 4 e_14 hx hb d_M_next_61 (by decide) (by decide) rfl (by decide) ?_
      refine lv_aload_n hx hb d_M_next_196 rfl (lv_at hl 3 rfl) ?_
      refine lv_iload_n hx hb d_M_next_197 rfl (lv_at hl 4 rfl) ?_
      refine lv_iconst (v := 1) hx hb d_M_next_198 (by decide) ?_
      refine lv_iload_n hx hb d_M_next_199 rfl (lv_at hl 2 rfl) ?_
      refine lv_iconst (v := 3) hx hb d_M_next_200 (by decide) ?_
      obtain ⟨v_12, hc_13, h⟩ := bv_out h
      refine mo_cv (w := v_12) (as := [.int x1, .int 1, .int x3_6, .int 3]) (rest := []) C0 hH (c_M_ask hc_13) yy_M_ask q_1247 q_109 (by decide) rfl hl.1 rfl (Nat.le_of_ble_eq_true rfl) ⟨Nat.zero_le _, Nat.zero_le _⟩ d_M_next_201 (fun H locs hH => ?_)
      refine lv_goto (tgt := 388) hx hb d_M_next_204 (by decide) ?_
      exact w_M_next_388 C0 hr   _ _ _ _ h hH (lv_sub hl [] rfl)
    rw [if_neg e_14] at h
    by_cases e_15 : x2 = 5
    · rw [if_pos e_15] at h
      refine fu_hit (tgt := 381) 5 e_15 hx hb d_M_next_61 (by decide) (by decide) rfl (by decide) ?_
      exact w_M_next_381 C0 hr  _ _ _ _ _ _ _ h hH (lv_sub hl [3, 4, 5, 2] rfl)
    rw [if_neg e_15] at h
    by_cases e_16 : x2 = 6
    · rw [if_pos e_16] at h
      refine fu_hit (tgt := 381) 6 e_16 hx hb d_M_next_61 (by decide) (by decide) rfl (by decide) ?_
      exact w_M_next_381 C0 hr  _ _ _ _ _ _ _ h hH (lv_sub hl [3, 4, 5, 2] rfl)
    rw [if_neg e_16] at h
    by_cases e_17 : x2 = 7
    · rw [if_pos e_17] at h
      refine fu_hit (tgt := 381) 7 e_17 hx hb d_M_next_61 (by decide) (by decide) rfl (by decide) ?_
      exact w_M_next_381 C0 hr  _ _ _ _ _ _ _ h hH (lv_sub hl [3, 4, 5, 2] rfl)
    rw [if_neg e_17] at h
    by_cases e_18 : x2 = 8
    · rw [if_pos e_18] at h
      refine fu_hit (tgt := 381) 8 e_18 hx hb d_M_next_61 (by decide) (by decide) rfl (by decide) ?_
      exact w_M_next_381 C0 hr  _ _ _ _ _ _ _ h hH (lv_sub hl [3, 4, 5, 2] rfl)
    rw [if_neg e_18] at h
    by_cases e_19 : x2 = 9
    · rw [if_pos e_19] at h
      refine fu_hit (tgt := 381) 9 e_19 hx hb d_M_next_61 (by decide) (by decide) rfl (by decide) ?_
      exact w_M_next_381 C0 hr  _ _ _ _ _ _ _ h hH (lv_sub hl [3, 4, 5, 2] rfl)
    rw [if_neg e_19] at h
    by_cases e_20 : x2 = 10
    · rw [if_pos e_20] at h
      refine fu_hit (tgt := 381) 10 e_20 hx hb d_M_next_61 (by decide) (by decide) rfl (by decide) ?_
      exact w_M_next_381 C0 hr  _ _ _ _ _ _ _ h hH (lv_sub hl [3, 4, 5, 2] rfl)
    rw [if_neg e_20] at h
    by_cases e_21 : x2 = 11
    · rw [if_pos e_21] at h
      refine fu_hit (tgt := 381) 11 e_21 hx hb d_M_next_61 (by decide) (by decide) rfl (by decide) ?_
      exact w_M_next_381 C0 hr  _ _ _ _ _ _ _ h hH (lv_sub hl [3, 4, 5, 2] rfl)
    rw [if_neg e_21] at h
    by_cases e_22 : x2 = 12
    · rw [if_pos e_22] at h
      refine fu_hit (tgt := 207) 12 e_22 hx hb d_M_next_61 (by decide) (by decide) rfl (by decide) ?_
      exact w_M_next_207 C0 hr  _ _ _ _ _ _ h hH (lv_sub hl [3, 4, 0] rfl)
    rw [if_neg e_22] at h
    by_cases e_23 : x2 = 13
    · rw [if_pos e_23] at h
      refine fu_hit (tgt := 207) 13 e_23 hx hb d_M_next_61 (by decide) (by decide) rfl (by decide) ?_
      exact w_M_next_207 C0 hr  _ _ _ _ _ _ h hH (lv_sub hl [3, 4, 0] rfl)
    rw [if_neg e_23] at h
    by_cases e_24 : x2 = 14
    · rw [if_pos e_24] at h
      refine fu_hit (tgt := 219) 14 e_24 hx hb d_M_next_61 (by decide) (by decide) rfl (by decide) ?_
      exact w_M_next_219 C0 hr  _ _ _ _ _ _ _ _ h hH (lv_sub hl [3, 4, 5, 2, 0] rfl)
    rw [if_neg e_24] at h
    by_cases e_25 : x2 = 15
    · rw [if_pos e_25] at h
      refine fu_hit (tgt := 219) 15 e_25 hx hb d_M_next_61 (by decide) (by decide) rfl (by decide) ?_
      exact w_M_next_219 C0 hr  _ _ _ _ _ _ _ _ h hH (lv_sub hl [3, 4, 5, 2, 0] rfl)
    rw [if_neg e_25] at h
    by_cases e_26 : x2 = 16
    · rw [if_pos e_26] at h
      refine fu_hit (tgt := 381) 16 e_26 hx hb d_M_next_61 (by decide) (by decide) rfl (by decide) ?_
      exact w_M_next_381 C0 hr  _ _ _ _ _ _ _ h hH (lv_sub hl [3, 4, 5, 2] rfl)
    rw [if_neg e_26] at h
    by_cases e_31 : x2 = 17
    · rw [if_pos e_31] at h
      refine fu_hit (tgt := 271) 17 e_31 hx hb d_M_next_61 (by decide) (by decide) rfl (by decide) ?_
      refine lv_aload_n hx hb d_M_next_271 rfl (lv_at hl 3 rfl) ?_
      refine lv_iload_n hx hb d_M_next_272 rfl (lv_at hl 4 rfl) ?_
      refine lv_aload_n hx hb d_M_next_273 rfl (lv_at hl 3 rfl) ?_
      refine lv_iload_n hx hb d_M_next_274 rfl (lv_at hl 2 rfl) ?_
      obtain ⟨r_29, v_27, hc_28, h⟩ := bi_out h
      refine mo_ci (r := r_29) (w := v_27) (as := [.int x3_6]) (rest := [.int x1, .ref (q 0)]) C0 hH (c_M_good hc_28) yy_M_good q_1174 q_109 (by decide) rfl hl.1 rfl (Nat.le_of_ble_eq_true rfl) ⟨Nat.zero_le _, Nat.zero_le _⟩ d_M_next_275 (fun H locs hH => ?_)
      refine lv_if_eq (tgt := 285) hx hb d_M_next_278 (by decide) (fun c_30 => ?_) (fun c_30 => ?_)
      · rw [if_pos c_30] at h
        refine lv_iconst (v := 2) hx hb d_M_next_285 (by decide) ?_
        exact w_M_next_286 C0 hr  _ _ _ _ _ _ _ h hH (lv_sub hl [0] rfl)
      · rw [if_neg c_30] at h
        refine lv_iconst (v := 1) hx hb d_M_next_281 (by decide) ?_
        refine lv_goto (tgt := 286) hx hb d_M_next_282 (by decide) ?_
        exact w_M_next_286 C0 hr  _ _ _ _ _ _ _ h hH (lv_sub hl [0] rfl)
    rw [if_neg e_31] at h
    by_cases e_32 : x2 = 18
    · rw [if_pos e_32] at h
      refine fu_hit (tgt := 381) 18 e_32 hx hb d_M_next_61 (by decide) (by decide) rfl (by decide) ?_
      exact w_M_next_381 C0 hr  _ _ _ _ _ _ _ h hH (lv_sub hl [3, 4, 5, 2] rfl)
    rw [if_neg e_32] at h
    by_cases e_33 : x2 = 19
    · rw [if_pos e_33] at h
      refine fu_hit (tgt := 381) 19 e_33 hx hb d_M_next_61 (by decide) (by decide) rfl (by decide) ?_
      exact w_M_next_381 C0 hr  _ _ _ _ _ _ _ h hH (lv_sub hl [3, 4, 5, 2] rfl)
    rw [if_neg e_33] at h
    by_cases e_34 : x2 = 20
    · rw [if_pos e_34] at h
      refine fu_hit (tgt := 295) 20 e_34 hx hb d_M_next_61 (by decide) (by decide) rfl (by decide) ?_
      exact w_M_next_295 C0 hr  _ _ _ _ _ _ _ _ _ h hH (lv_sub hl [3, 4, 5, 2, 1, 0] rfl)
    rw [if_neg e_34] at h
    by_cases e_35 : x2 = 21
    · rw [if_pos e_35] at h
      refine fu_hit (tgt := 381) 21 e_35 hx hb d_M_next_61 (by decide) (by decide) rfl (by decide) ?_
      exact w_M_next_381 C0 hr  _ _ _ _ _ _ _ h hH (lv_sub hl [3, 4, 5, 2] rfl)
    rw [if_neg e_35] at h
    by_cases e_36 : x2 = 22
    · rw [if_pos e_36] at h
      refine fu_hit (tgt := 295) 22 e_36 hx hb d_M_next_61 (by decide) (by decide) rfl (by decide) ?_
      exact w_M_next_295 C0 hr  _ _ _ _ _ _ _ _ _ h hH (lv_sub hl [3, 4, 5, 2, 1, 0] rfl)
    rw [if_neg e_36] at h
    by_cases e_37 : x2 = 23
    · rw [if_pos e_37] at h
      refine fu_hit (tgt := 381) 23 e_37 hx hb d_M_next_61 (by decide) (by decide) rfl (by decide) ?_
      exact w_M_next_381 C0 hr  _ _ _ _ _ _ _ h hH (lv_sub hl [3, 4, 5, 2] rfl)
    rw [if_neg e_37] at h
    by_cases e_38 : x2 = 24
    · rw [if_pos e_38] at h
      refine fu_hit (tgt := 381) 24 e_38 hx hb d_M_next_61 (by decide) (by decide) rfl (by decide) ?_
      exact w_M_next_381 C0 hr  _ _ _ _ _ _ _ h hH (lv_sub hl [3, 4, 5, 2] rfl)
    rw [if_neg e_38] at h
    by_cases e_39 : x2 = 25
    · rw [if_pos e_39] at h
      refine fu_hit (tgt := 381) 25 e_39 hx hb d_M_next_61 (by decide) (by decide) rfl (by decide) ?_
      exact w_M_next_381 C0 hr  _ _ _ _ _ _ _ h hH (lv_sub hl [3, 4, 5, 2] rfl)
    rw [if_neg e_39] at h
    by_cases e_40 : x2 = 26
    · rw [if_pos e_40] at h
      refine fu_hit (tgt := 381) 26 e_40 hx hb d_M_next_61 (by decide) (by decide) rfl (by decide) ?_
      exact w_M_next_381 C0 hr  _ _ _ _ _ _ _ h hH (lv_sub hl [3, 4, 5, 2] rfl)
    rw [if_neg e_40] at h
    by_cases e_41 : x2 = 27
    · rw [if_pos e_41] at h
      refine fu_hit (tgt := 381) 27 e_41 hx hb d_M_next_61 (by decide) (by decide) rfl (by decide) ?_
      exact w_M_next_381 C0 hr  _ _ _ _ _ _ _ h hH (lv_sub hl [3, 4, 5, 2] rfl)
    rw [if_neg e_41] at h
    by_cases e_42 : x2 = 28
    · rw [if_pos e_42] at h
      refine fu_hit (tgt := 381) 28 e_42 hx hb d_M_next_61 (by decide) (by decide) rfl (by decide) ?_
      exact w_M_next_381 C0 hr  _ _ _ _ _ _ _ h hH (lv_sub hl [3, 4, 5, 2] rfl)
    rw [if_neg e_42] at h
    by_cases e_43 : x2 = 29
    · rw [if_pos e_43] at h
      refine fu_hit (tgt := 381) 29 e_43 hx hb d_M_next_61 (by decide) (by decide) rfl (by decide) ?_
      exact w_M_next_381 C0 hr  _ _ _ _ _ _ _ h hH (lv_sub hl [3, 4, 5, 2] rfl)
    rw [if_neg e_43] at h
    by_cases e_44 : x2 = 30
    · rw [if_pos e_44] at h
      refine fu_hit (tgt := 381) 30 e_44 hx hb d_M_next_61 (by decide) (by decide) rfl (by decide) ?_
      exact w_M_next_381 C0 hr  _ _ _ _ _ _ _ h hH (lv_sub hl [3, 4, 5, 2] rfl)
    rw [if_neg e_44] at h
    by_cases e_45 : x2 = 31
    · rw [if_pos e_45] at h
      refine fu_hit (tgt := 381) 31 e_45 hx hb d_M_next_61 (by decide) (by decide) rfl (by decide) ?_
      exact w_M_next_381 C0 hr  _ _ _ _ _ _ _ h hH (lv_sub hl [3, 4, 5, 2] rfl)
    rw [if_neg e_45] at h
    by_cases e_46 : x2 = 32
    · rw [if_pos e_46] at h
      refine fu_hit (tgt := 381) 32 e_46 hx hb d_M_next_61 (by decide) (by decide) rfl (by decide) ?_
      exact w_M_next_381 C0 hr  _ _ _ _ _ _ _ h hH (lv_sub hl [3, 4, 5, 2] rfl)
    rw [if_neg e_46] at h
    by_cases e_53 : x2 = 33
    · rw [if_pos e_53] at h
      refine fu_hit (tgt := 353) 33 e_53 hx hb d_M_next_61 (by decide) (by decide) rfl (by decide) ?_
      refine lv_aload_n hx hb d_M_next_353 rfl (lv_at hl 3 rfl) ?_
      refine lv_iload_n hx hb d_M_next_354 rfl (lv_at hl 2 rfl) ?_
      obtain ⟨r_49, v_47, hc_48, h⟩ := bi_out h
      refine mo_ci (r := r_49) (w := v_47) (as := [.int x3_6]) (rest := []) C0 hH (c_M_good hc_48) yy_M_good q_1174 q_109 (by decide) rfl hl.1 rfl (Nat.le_of_ble_eq_true rfl) ⟨Nat.zero_le _, Nat.zero_le _⟩ d_M_next_355 (fun H locs hH => ?_)
      refine lv_if_eq (tgt := 368) hx hb d_M_next_358 (by decide) (fun c_50 => ?_) (fun c_50 => ?_)
      · rw [if_pos c_50] at h
        exact w_M_next_368 C0 hr  _ _ _ _ _ h hH (lv_sub hl [3, 4] rfl)
      · rw [if_neg c_50] at h
        refine lv_aload_n hx hb d_M_next_361 rfl (lv_at hl 3 rfl) ?_
        refine lv_iload_n hx hb d_M_next_362 rfl (lv_at hl 4 rfl) ?_
        refine lv_iload hx hb d_M_next_363 (lv_at hl 0 rfl) ?_
        obtain ⟨v_51, hc_52, h⟩ := bv_out h
        refine mo_cv (w := v_51) (as := [.int x1, .int x5_11]) (rest := []) C0 hH (c_M_emit hc_52) yy_M_emit q_1146 q_109 (by decide) rfl hl.1 rfl (Nat.le_of_ble_eq_true rfl) ⟨Nat.zero_le _, Nat.zero_le _⟩ d_M_next_365 (fun H locs hH => ?_)
        exact w_M_next_368 C0 hr  _ _ _ _ _ h hH (lv_sub hl [3, 4] rfl)
    rw [if_neg e_53] at h
    refine lv_tableOut (tgt := 381) hx hb d_M_next_61 (fu_out 30 (by decide) (fun k9 hk9 => match k9, hk9 with | 0, _ => lv_neT e_14 (by decide) | 1, _ => lv_neT e_15 (by decide) | 2, _ => lv_neT e_16 (by decide) | 3, _ => lv_neT e_17 (by decide) | 4, _ => lv_neT e_18 (by decide) | 5, _ => lv_neT e_19 (by decide) | 6, _ => lv_neT e_20 (by decide) | 7, _ => lv_neT e_21 (by decide) | 8, _ => lv_neT e_22 (by decide) | 9, _ => lv_neT e_23 (by decide) | 10, _ => lv_neT e_24 (by decide) | 11, _ => lv_neT e_25 (by decide) | 12, _ => lv_neT e_26 (by decide) | 13, _ => lv_neT e_31 (by decide) | 14, _ => lv_neT e_32 (by decide) | 15, _ => lv_neT e_33 (by decide) | 16, _ => lv_neT e_34 (by decide) | 17, _ => lv_neT e_35 (by decide) | 18, _ => lv_neT e_36 (by decide) | 19, _ => lv_neT e_37 (by decide) | 20, _ => lv_neT e_38 (by decide) | 21, _ => lv_neT e_39 (by decide) | 22, _ => lv_neT e_40 (by decide) | 23, _ => lv_neT e_41 (by decide) | 24, _ => lv_neT e_42 (by decide) | 25, _ => lv_neT e_43 (by decide) | 26, _ => lv_neT e_44 (by decide) | 27, _ => lv_neT e_45 (by decide) | 28, _ => lv_neT e_46 (by decide) | 29, _ => lv_neT e_53 (by decide) | k9 + 30, hk9 => absurd hk9 (by omega))) (by decide) ?_
    exact w_M_next_381 C0 hr  _ _ _ _ _ _ _ h hH (lv_sub hl [3, 4, 5, 2] rfl)
  · rw [if_pos c_3] at h
    refine lv_aload_n hx hb d_M_next_15 rfl (lv_at hl 0 rfl) ?_
    refine lv_iload_n hx hb d_M_next_16 rfl (lv_at hl 1 rfl) ?_
    refine lv_iload_n hx hb d_M_next_17 rfl (lv_at hl 2 rfl) ?_
    obtain ⟨v_54, hc_55, h⟩ := bv_out h
    refine mo_cv (w := v_54) (as := [.int x1, .int x2]) (rest := []) C0 hH (c_M_last hc_55) yy_M_last q_1279 q_109 (by decide) rfl hl.1 rfl (Nat.le_of_ble_eq_true rfl) ⟨Nat.zero_le _, Nat.zero_le _⟩ d_M_next_18 (fun H locs hH => ?_)
    exact mo_vret C0 hr hH d_M_next_21 h
