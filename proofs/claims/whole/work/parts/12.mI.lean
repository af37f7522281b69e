/-! methods of the reference (by program: wip/gen/mgen.py limited came last told index) -/
theorem yy_M_limited : mo_Y y_M_limited b_M_limited 4 none 2 := ⟨rfl, q_1273, q_86, q_1274, by decide +kernel⟩
def f_M_limited_50  (y1 : Int32) (y2 : Int32) (v : mS) : Option (mS) := bv (f_M_end v y1 y2) fun v_1 => some v_1
set_option maxHeartbeats 4000000 in
set_option maxRecDepth 100000 in
theorem w_M_limited_50 {p : Program} {l : Launch} {e : Env} {s : State} {m : MethodId} {args : Array Value} {below : List Frame} {meth : Method} {c : Code} {D : va_G} {cI : ClassId} {A : Nat → Prop} {q : Nat → Nat} {o : mS} (C0 : mo_C b_M_limited 4 D cI A p s m args meth c) (hr : meth.sig.returnType = none) : ∀ (y1 : Int32) (y2 : Int32) (v : mS) (H : Heap) (locs : List Loc) (ls : Array Slot), f_M_limited_50  y1 y2 v = some o → mo_H D cI A s q v H locs → lv_has ls 4 [] → W p l e (mo_rm 1) s m args below meth c H locs 0 0 (MQ below (mo_Qv D cI q o A) args s 0 0 A) (F0 m 50 ls [.int y2, .int y1, .ref (q 0)]) := by
  have hx := C0.1
  have hb := C0.2.1
  intro y1 y2 v H locs ls h hH hl
  unfold f_M_limited_50 at h
  obtain ⟨v_1, hc_2, h⟩ := bv_out h
  refine mo_cv (w := v_1) (as := [.int y1, .int y2]) (rest := []) C0 hH (c_M_end hc_2) yy_M_end q_1200 q_109 (by decide) rfl hl.1 rfl (Nat.le_of_ble_eq_true rfl) ⟨Nat.zero_le _, Nat.zero_le _⟩ d_M_limited_50 (fun H locs hH => ?_)
  exact mo_vret C0 hr hH d_M_limited_53 h
def f_M_limited_32  (x1 : Int32) (x2 : Int32) (v : mS) : Option (mS) := if x2 ≤ (v 0 37) then (f_M_limited_50 x1 0 v) else (f_M_limited_50 x1 (v 0 38) v)
set_option maxHeartbeats 4000000 in
set_option maxRecDepth 100000 in
theorem w_M_limited_32 {p : Program} {l : Launch} {e : Env} {s : State} {m : MethodId} {args : Array Value} {below : List Frame} {meth : Method} {c : Code} {D : va_G} {cI : ClassId} {A : Nat → Prop} {q : Nat → Nat} {o : mS} (C0 : mo_C b_M_limited 4 D cI A p s m args meth c) (hr : meth.sig.returnType = none) : ∀ (x1 : Int32) (x2 : Int32) (v : mS) (H : Heap) (locs : List Loc) (ls : Array Slot), f_M_limited_32  x1 x2 v = some o → mo_H D cI A s q v H locs → lv_has ls 4 [(0, .ref (q 0)), (1, .int x1), (2, .int x2)] → W p l e (mo_rm 1) s m args below meth c H locs 0 0 (MQ below (mo_Qv D cI q o A) args s 0 0 A) (F0 m 32 ls []) := by
  have hx := C0.1
  have hb := C0.2.1
  intro x1 x2 v H locs ls h hH hl
  unfold f_M_limited_32 at h
  refine lv_aload_n hx hb d_M_limited_32 rfl (lv_at hl 0 rfl) ?_
  refine lv_iload_n hx hb d_M_limited_33 rfl (lv_at hl 1 rfl) ?_
  refine lv_aload_n hx hb d_M_limited_34 rfl (lv_at hl 0 rfl) ?_
  refine mo_g_gots C0 hH d_M_limited_35 ?_
  refine lv_iload_n hx hb d_M_limited_38 rfl (lv_at hl 2 rfl) ?_
  refine lv_icmp_ge (tgt := 49) hx hb d_M_limited_39 (by decide) (fun c_1 => ?_) (fun c_1 => ?_)
  · rw [if_pos c_1] at h
    refine lv_iconst (v := 0) hx hb d_M_limited_49 (by decide) ?_
    exact w_M_limited_50 C0 hr  _ _ _ _ _ _ h hH (lv_sub hl [] rfl)
  · rw [if_neg c_1] at h
    refine lv_aload_n hx hb d_M_limited_42 rfl (lv_at hl 0 rfl) ?_
    refine mo_g_gotError C0 hH d_M_limited_43 ?_
    refine lv_goto (tgt := 50) hx hb d_M_limited_46 (by decide) ?_
    exact w_M_limited_50 C0 hr  _ _ _ _ _ _ h hH (lv_sub hl [] rfl)
def f_M_limited_2  : Nat → Int32 → Int32 → Int32 → mS → Option (mS)
  | 0, _, _, _, _ => none
  | n + 1, x1, x2, x3, v => if (v 0 37) ≤ x3 then (f_M_limited_32 x1 x2 v) else (if x2 ≤ x3 then (f_M_limited_32 x1 x2 v) else (gd (inB x3 17) (bv (f_M_emit v x1 (v 26 (x3 : Int32).toNatClampNeg)) fun v_4 => nm (x3 + 1) fun x3_6 => f_M_limited_2 n x1 x2 x3_6 v_4)))
set_option maxHeartbeats 4000000 in
set_option maxRecDepth 100000 in
theorem w_M_limited_2 {p : Program} {l : Launch} {e : Env} {s : State} {m : MethodId} {args : Array Value} {below : List Frame} {meth : Method} {c : Code} {D : va_G} {cI : ClassId} {A : Nat → Prop} {q : Nat → Nat} {o : mS} (C0 : mo_C b_M_limited 4 D cI A p s m args meth c) (hr : meth.sig.returnType = none) : ∀ (n : Nat) (x1 : Int32) (x2 : Int32) (x3 : Int32) (v : mS) (H : Heap) (locs : List Loc) (ls : Array Slot), f_M_limited_2  n x1 x2 x3 v = some o → mo_H D cI A s q v H locs → lv_has ls 4 [(0, .ref (q 0)), (1, .int x1), (2, .int x2), (3, .int x3)] → W p l e (mo_rm 1) s m args below meth c H locs 0 0 (MQ below (mo_Qv D cI q o A) args s 0 0 A) (F0 m 2 ls []) := by
  have hx := C0.1
  have hb := C0.2.1
  intro n
  induction n with
  | zero =>
    intro x1 x2 x3 v H locs ls h hH hl
    cases h
  | succ n ih =>
    intro x1 x2 x3 v H locs ls h hH hl
    rw [f_M_limited_2] at h
    refine lv_iload_n hx hb d_M_limited_2 rfl (lv_at hl 3 rfl) ?_
    refine lv_aload_n hx hb d_M_limited_3 rfl (lv_at hl 0 rfl) ?_
    refine mo_g_gots C0 hH d_M_limited_4 ?_
    refine lv_icmp_ge (tgt := 32) hx hb d_M_limited_7 (by decide) (fun c_1 => ?_) (fun c_1 => ?_)
    · rw [if_pos c_1] at h
      exact w_M_limited_32 C0 hr  _ _ _ _ _ _ h hH (lv_sub hl [0, 1, 2] rfl)
    · rw [if_neg c_1] at h
      refine lv_iload_n hx hb d_M_limited_10 rfl (lv_at hl 3 rfl) ?_
      refine lv_iload_n hx hb d_M_limited_11 rfl (lv_at hl 2 rfl) ?_
      refine lv_icmp_ge (tgt := 32) hx hb d_M_limited_12 (by decide) (fun c_2 => ?_) (fun c_2 => ?_)
      · rw [if_pos c_2] at h
        exact w_M_limited_32 C0 hr  _ _ _ _ _ _ h hH (lv_sub hl [0, 1, 2] rfl)
      · rw [if_neg c_2] at h
        refine lv_aload_n hx hb d_M_limited_15 rfl (lv_at hl 0 rfl) ?_
        refine lv_iload_n hx hb d_M_limited_16 rfl (lv_at hl 1 rfl) ?_
        refine lv_aload_n hx hb d_M_limited_17 rfl (lv_at hl 0 rfl) ?_
        refine mo_r_got C0 hH d_M_limited_18 ?_
        refine lv_iload_n hx hb d_M_limited_21 rfl (lv_at hl 3 rfl) ?_
        obtain ⟨g_3, h⟩ := gd_out h
        refine mo_ld 26 (by decide) (by decide) C0 hH (inB_in g_3) d_M_limited_22 ?_
        obtain ⟨v_4, hc_5, h⟩ := bv_out h
        refine mo_cv (w := v_4) (as := [.int x1, .int (v 26 (x3 : Int32).toNatClampNeg)]) (rest := []) C0 hH (c_M_emit hc_5) yy_M_emit q_1146 q_109 (by decide) rfl hl.1 rfl (Nat.le_of_ble_eq_true rfl) ⟨Nat.zero_le _, Nat.zero_le _⟩ d_M_limited_23 (fun H locs hH => ?_)
        obtain ⟨x3_6, hx3_6, h⟩ := nm_out h
        refine lv_iinc (v := x3_6) (lv' := [(3, .int x3_6), (0, .ref (q 0)), (1, .int x1), (2, .int x2)]) hx hb d_M_limited_26 hl (k := 3) rfl (by rw [hx3_6]; rfl) (by decide) rfl (fun ls hl => ?_)
        refine lv_goto (tgt := 2) hx hb d_M_limited_29 (by decide) ?_
        exact ih _ _ _ _ _ _ _ h hH (lv_sub hl [1, 2, 3, 0] rfl)
def f_M_limited (v : mS) (x1 : Int32) (x2 : Int32) : Option (mS) := f_M_limited_2 fu x1 x2 0 v
set_option maxHeartbeats 4000000 in
set_option maxRecDepth 100000 in
theorem c_M_limited {l : Launch} {D : va_G} {cI : ClassId} {q : Nat → Nat} {v : mS} {x1 : Int32} {x2 : Int32} {o : mS} (h : f_M_limited v x1 x2 = some o) : mo_M l D cI q 1 y_M_limited b_M_limited 4 none [.ref (q 0), .int x1, .int x2] v (mo_Qv D cI q o) := by
  refine mo_of (by decide +kernel) rfl (Nat.le_of_ble_eq_true rfl) ?_
  intro p e s m below meth c A ls C0 hr hl hH
  have hx := C0.1
  have hb := C0.2.1
  have hl : lv_has ls 4 [(0, .ref (q 0)), (1, .int x1), (2, .int x2)] := hl
  unfold f_M_limited at h
  refine lv_iconst (v := 0) hx hb d_M_limited_0 (by decide) ?_
  refine lv_istore_n (lv' := [(3, .int 0), (0, .ref (q 0)), (1, .int x1), (2, .int x2)]) hx hb d_M_limited_1 rfl hl (by decide) rfl (fun ls hl => ?_)
  exact w_M_limited_2 C0 hr  fu _ _ _ _ _ _ _ h hH (lv_sub hl [1, 2, 3, 0] rfl)
theorem yy_M_came : mo_Y y_M_came b_M_came 4 none 2 := ⟨rfl, q_1257, q_82, q_1258, by decide +kernel⟩
def f_M_came_200 (K168 : Int32 → Int32 → mS → Option (mS)) (x1 : Int32) (x3 : Int32) (v : mS) : Option (mS) := nm (x3 + 1) fun x3_1 => K168 x1 x3_1 v
set_option maxHeartbeats 4000000 in
set_option maxRecDepth 100000 in
theorem w_M_came_200 {p : Program} {l : Launch} {e : Env} {s : State} {m : MethodId} {args : Array Value} {below : List Frame} {meth : Method} {c : Code} {D : va_G} {cI : ClassId} {A : Nat → Prop} {q : Nat → Nat} {o : mS} (C0 : mo_C b_M_came 4 D cI A p s m args meth c) (hr : meth.sig.returnType = none) {K168 : Int32 → Int32 → mS → Option (mS)} (hK168 : ∀ (x1 : Int32) (x3 : Int32) (v : mS) (H : Heap) (locs : List Loc) (ls : Array Slot), K168 x1 x3 v = some o → mo_H D cI A s q v H locs → lv_has ls 4 [(0, .ref (q 0)), (1, .int x1), (3, .int x3)] → W p l e (mo_rm 4) s m args below meth c H locs 0 0 (MQ below (mo_Qv D cI q o A) args s 0 0 A) (F0 m 168 ls [])) : ∀ (x1 : Int32) (x3 : Int32) (v : mS) (H : Heap) (locs : List Loc) (ls : Array Slot), f_M_came_200 K168 x1 x3 v = some o → mo_H D cI A s q v H locs → lv_has ls 4 [(0, .ref (q 0)), (1, .int x1), (3, .int x3)] → W p l e (mo_rm 4) s m args below meth c H locs 0 0 (MQ below (mo_Qv D cI q o A) args s 0 0 A) (F0 m 200 ls []) := by
  have hx := C0.1
  have hb := C0.2.1
  intro x1 x3 v H locs ls h hH hl
  unfold f_M_came_200 at h
  obtain ⟨x3_1, hx3_1, h⟩ := nm_out h
  refine lv_iinc (v := x3_1) (lv' := [(3, .int x3_1), (0, .ref (q 0)), (1, .int x1)]) hx hb d_M_came_200 hl (k := 2) rfl (by rw [hx3_1]; rfl) (by decide) rfl (fun ls hl => ?_)
  refine lv_goto (tgt := 168) hx hb d_M_came_203 (by decide) ?_
  exact hK168 _ _ _ _ _ _ h hH (lv_sub hl [1, 2, 0] rfl)
def f_M_came_322   (v : mS) : Option (mS) := some v
set_option maxHeartbeats 4000000 in
set_option maxRecDepth 100000 in
theorem w_M_came_322 {p : Program} {l : Launch} {e : Env} {s : State} {m : MethodId} {args : Array Value} {below : List Frame} {meth : Method} {c : Code} {D : va_G} {cI : ClassId} {A : Nat → Prop} {q : Nat → Nat} {o : mS} (C0 : mo_C b_M_came 4 D cI A p s m args meth c) (hr : meth.sig.returnType = none) : ∀  (v : mS) (H : Heap) (locs : List Loc) (ls : Array Slot), f_M_came_322   v = some o → mo_H D cI A s q v H locs → lv_has ls 4 [] → W p l e (mo_rm 4) s m args below meth c H locs 0 0 (MQ below (mo_Qv D cI q o A) args s 0 0 A) (F0 m 322 ls []) := by
  have hx := C0.1
  have hb := C0.2.1
  intro  v H locs ls h hH hl
  unfold f_M_came_322 at h
  exact mo_vret C0 hr hH d_M_came_322 h
def f_M_came_168  : Nat → Int32 → Int32 → mS → Option (mS)
  | 0, _, _, _ => none
  | n + 1, x1, x3, v => if (v 0 37) ≤ x3 then (gd (inB x1 10) (if (v 24 (x1 : Int32).toNatClampNeg) = 0 then (gd (inB x1 10) (bv (f_M_ask v x1 1 (v 16 (x1 : Int32).toNatClampNeg) 4) fun v_7 => f_M_came_322 v_7)) else (bv (f_M_end v x1 0) fun v_4 => f_M_came_322 v_4))) else (gd (inB x3 17) (bi (f_M_good v (v 26 (x3 : Int32).toNatClampNeg)) fun r_12 v_10 => if r_12 = 0 then (f_M_came_200 (f_M_came_168 n) x1 x3 v_10) else (gd (inB x3 17) (bv (f_M_emit v_10 x1 (v_10 26 (x3 : Int32).toNatClampNeg)) fun v_15 => f_M_came_200 (f_M_came_168 n) x1 x3 v_15))))
set_option maxHeartbeats 4000000 in
set_option maxRecDepth 100000 in
theorem w_M_came_168 {p : Program} {l : Launch} {e : Env} {s : State} {m : MethodId} {args : Array Value} {below : List Frame} {meth : Method} {c : Code} {D : va_G} {cI : ClassId} {A : Nat → Prop} {q : Nat → Nat} {o : mS} (C0 : mo_C b_M_came 4 D cI A p s m args meth c) (hr : meth.sig.returnType = none) : ∀ (n : Nat) (x1 : Int32) (x3 : Int32) (v : mS) (H : Heap) (locs : List Loc) (ls : Array Slot), f_M_came_168  n x1 x3 v = some o → mo_H D cI A s q v H locs → lv_has ls 4 [(0, .ref (q 0)), (1, .int x1), (3, .int x3)] → W p l e (mo_rm 4) s m args below meth c H locs 0 0 (MQ below (mo_Qv D cI q o A) args s 0 0 A) (F0 m 168 ls []) := by
  have hx := C0.1
  have hb := C0.2.1
  intro n
  induction n with
  | zero =>
    intro x1 x3 v H locs ls h hH hl
    cases h
  | succ n ih =>
    intro x1 x3 v H locs ls h hH hl
    rw [f_M_came_168] at h
    refine lv_iload_n hx hb d_M_came_168 rfl (lv_at hl 2 rfl) ?_
    refine lv_aload_n hx hb d_M_came_169 rfl (lv_at hl 0 rfl) ?_
    refine mo_g_gots C0 hH d_M_came_170 ?_
    refine lv_icmp_ge (tgt := 206) hx hb d_M_came_173 (by decide) (fun c_1 => ?_) (fun c_1 => ?_)
    · rw [if_pos c_1] at h
      refine lv_aload_n hx hb d_M_came_206 rfl (lv_at hl 0 rfl) ?_
      refine mo_r_outs C0 hH d_M_came_207 ?_
      refine lv_iload_n hx hb d_M_came_210 rfl (lv_at hl 1 rfl) ?_
      obtain ⟨g_2, h⟩ := gd_out h
      refine mo_ld 24 (by decide) (by decide) C0 hH (inB_in g_2) d_M_came_211 ?_
      refine lv_if_ne (tgt := 231) hx hb d_M_came_212 (by decide) (fun c_3 => ?_) (fun c_3 => ?_)
      · rw [if_neg c_3] at h
        refine lv_aload_n hx hb d_M_came_231 rfl (lv_at hl 0 rfl) ?_
        refine lv_iload_n hx hb d_M_came_232 rfl (lv_at hl 1 rfl) ?_
        refine lv_iconst (v := 0) hx hb d_M_came_233 (by decide) ?_
        obtain ⟨v_4, hc_5, h⟩ := bv_out h
        refine mo_cv (w := v_4) (as := [.int x1, .int 0]) (rest := []) C0 hH (c_M_end hc_5) yy_M_end q_1200 q_109 (by decide) rfl hl.1 rfl (Nat.le_of_ble_eq_true rfl) ⟨Nat.zero_le _, Nat.zero_le _⟩ d_M_came_234 (fun H locs hH => ?_)
        refine lv_goto (tgt := 322) hx hb d_M_came_237 (by decide) ?_
        exact w_M_came_322 C0 hr   _ _ _ _ h hH (lv_sub hl [] rfl)
      · rw [if_pos c_3] at h
        refine lv_aload_n hx hb d_M_came_215 rfl (lv_at hl 0 rfl) ?_
        refine lv_iload_n hx hb d_M_came_216 rfl (lv_at hl 1 rfl) ?_
        refine lv_iconst (v := 1) hx hb d_M_came_217 (by decide) ?_
        refine lv_aload_n hx hb d_M_came_218 rfl (lv_at hl 0 rfl) ?_
        refine mo_r_val C0 hH d_M_came_219 ?_
        refine lv_iload_n hx hb d_M_came_222 rfl (lv_at hl 1 rfl) ?_
        obtain ⟨g_6, h⟩ := gd_out h
        refine mo_ld 16 (by decide) (by decide) C0 hH (inB_in g_6) d_M_came_223 ?_
        refine lv_iconst (v := 4) hx hb d_M_came_224 (by decide) ?_
        obtain ⟨v_7, hc_8, h⟩ := bv_out h
        refine mo_cv (w := v_7) (as := [.int x1, .int 1, .int (v 16 (x1 : Int32).toNatClampNeg), .int 4]) (rest := []) C0 hH (c_M_ask hc_8) yy_M_ask q_1247 q_109 (by decide) rfl hl.1 rfl (Nat.le_of_ble_eq_true rfl) ⟨Nat.zero_le _, Nat.zero_le _⟩ d_M_came_225 (fun H locs hH => ?_)
        refine lv_goto (tgt := 322) hx hb d_M_came_228 (by decide) ?_
        exact w_M_came_322 C0 hr   _ _ _ _ h hH (lv_sub hl [] rfl)
    · rw [if_neg c_1] at h
      refine lv_aload_n hx hb d_M_came_176 rfl (lv_at hl 0 rfl) ?_
      refine lv_aload_n hx hb d_M_came_177 rfl (lv_at hl 0 rfl) ?_
      refine mo_r_got C0 hH d_M_came_178 ?_
      refine lv_iload_n hx hb d_M_came_181 rfl (lv_at hl 2 rfl) ?_
      obtain ⟨g_9, h⟩ := gd_out h
      refine mo_ld 26 (by decide) (by decide) C0 hH (inB_in g_9) d_M_came_182 ?_
      obtain ⟨r_12, v_10, hc_11, h⟩ := bi_out h
      refine mo_ci (r := r_12) (w := v_10) (as := [.int (v 26 (x3 : Int32).toNatClampNeg)]) (rest := []) C0 hH (c_M_good hc_11) yy_M_good q_1174 q_109 (by decide) rfl hl.1 rfl (Nat.le_of_ble_eq_true rfl) ⟨Nat.zero_le _, Nat.zero_le _⟩ d_M_came_183 (fun H locs hH => ?_)
      refine lv_if_eq (tgt := 200) hx hb d_M_came_186 (by decide) (fun c_13 => ?_) (fun c_13 => ?_)
      · rw [if_pos c_13] at h
        exact w_M_came_200 C0 hr ih _ _ _ _ _ _ h hH (lv_sub hl [0, 1, 2] rfl)
      · rw [if_neg c_13] at h
        refine lv_aload_n hx hb d_M_came_189 rfl (lv_at hl 0 rfl) ?_
        refine lv_iload_n hx hb d_M_came_190 rfl (lv_at hl 1 rfl) ?_
        refine lv_aload_n hx hb d_M_came_191 rfl (lv_at hl 0 rfl) ?_
        refine mo_r_got C0 hH d_M_came_192 ?_
        refine lv_iload_n hx hb d_M_came_195 rfl (lv_at hl 2 rfl) ?_
        obtain ⟨g_14, h⟩ := gd_out h
        refine mo_ld 26 (by decide) (by decide) C0 hH (inB_in g_14) d_M_came_196 ?_
        obtain ⟨v_15, hc_16, h⟩ := bv_out h
        refine mo_cv (w := v_15) (as := [.int x1, .int (v_10 26 (x3 : Int32).toNatClampNeg)]) (rest := []) C0 hH (c_M_emit hc_16) yy_M_emit q_1146 q_109 (by decide) rfl hl.1 rfl (Nat.le_of_ble_eq_true rfl) ⟨Nat.zero_le _, Nat.zero_le _⟩ d_M_came_197 (fun H locs hH => ?_)
        exact w_M_came_200 C0 hr ih _ _ _ _ _ _ h hH (lv_sub hl [0, 1, 2] rfl)
def f_M_came_262  (x1 : Int32) (y1 : Int32) (y2 : Int32) (v : mS) : Option (mS) := gd (inB y1 10) (nm (sU v 21 (y1 : Int32).toNatClampNeg y2) fun v_2 => if (v_2 0 38) ≤ 0 then (gd (inB x1 10) (bv (f_M_ask v_2 x1 0 (v_2 16 (x1 : Int32).toNatClampNeg) 5) fun v_5 => f_M_came_322 v_5)) else (bv (f_M_end v_2 x1 (v_2 0 38)) fun v_7 => f_M_came_322 v_7))
set_option maxHeartbeats 4000000 in
set_option maxRecDepth 100000 in
theorem w_M_came_262 {p : Program} {l : Launch} {e : Env} {s : State} {m : MethodId} {args : Array Value} {below : List Frame} {meth : Method} {c : Code} {D : va_G} {cI : ClassId} {A : Nat → Prop} {q : Nat → Nat} {o : mS} (C0 : mo_C b_M_came 4 D cI A p s m args meth c) (hr : meth.sig.returnType = none) : ∀ (x1 : Int32) (y1 : Int32) (y2 : Int32) (v : mS) (H : Heap) (locs : List Loc) (ls : Array Slot), f_M_came_262  x1 y1 y2 v = some o → mo_H D cI A s q v H locs → lv_has ls 4 [(0, .ref (q 0)), (1, .int x1)] → W p l e (mo_rm 4) s m args below meth c H locs 0 0 (MQ below (mo_Qv D cI q o A) args s 0 0 A) (F0 m 262 ls [.int y2, .int y1, .ref (q 21)]) := by
  have hx := C0.1
  have hb := C0.2.1
  intro x1 y1 y2 v H locs ls h hH hl
  unfold f_M_came_262 at h
  obtain ⟨g_1, h⟩ := gd_out h
  obtain ⟨v_2, hv_2, h⟩ := nm_out h
  refine mo_st 21 (by decide) (by decide) C0 hH (inB_in g_1) d_M_came_262 (fun H locs hH => ?_)
  rw [← hv_2] at hH
  refine lv_aload_n hx hb d_M_came_263 rfl (lv_at hl 0 rfl) ?_
  refine mo_g_gotError C0 hH d_M_came_264 ?_
  refine lv_if_le (tgt := 282) hx hb d_M_came_267 (by decide) (fun c_3 => ?_) (fun c_3 => ?_)
  · rw [if_pos c_3] at h
    refine lv_aload_n hx hb d_M_came_282 rfl (lv_at hl 0 rfl) ?_
    refine lv_iload_n hx hb d_M_came_283 rfl (lv_at hl 1 rfl) ?_
    refine lv_iconst (v := 0) hx hb d_M_came_284 (by decide) ?_
    refine lv_aload_n hx hb d_M_came_285 rfl (lv_at hl 0 rfl) ?_
    refine mo_r_val C0 hH d_M_came_286 ?_
    refine lv_iload_n hx hb d_M_came_289 rfl (lv_at hl 1 rfl) ?_
    obtain ⟨g_4, h⟩ := gd_out h
    refine mo_ld 16 (by decide) (by decide) C0 hH (inB_in g_4) d_M_came_290 ?_
    refine lv_iconst (v := 5) hx hb d_M_came_291 (by decide) ?_
    obtain ⟨v_5, hc_6, h⟩ := bv_out h
    refine mo_cv (w := v_5) (as := [.int x1, .int 0, .int (v_2 16 (x1 : Int32).toNatClampNeg), .int 5]) (rest := []) C0 hH (c_M_ask hc_6) yy_M_ask q_1247 q_109 (by decide) rfl hl.1 rfl (Nat.le_of_ble_eq_true rfl) ⟨Nat.zero_le _, Nat.zero_le _⟩ d_M_came_292 (fun H locs hH => ?_)
    refine lv_goto (tgt := 322) hx hb d_M_came_295 (by decide) ?_
    exact w_M_came_322 C0 hr   _ _ _ _ h hH (lv_sub hl [] rfl)
  · rw [if_neg c_3] at h
    refine lv_aload_n hx hb d_M_came_270 rfl (lv_at hl 0 rfl) ?_
    refine lv_iload_n hx hb d_M_came_271 rfl (lv_at hl 1 rfl) ?_
    refine lv_aload_n hx hb d_M_came_272 rfl (lv_at hl 0 rfl) ?_
    refine mo_g_gotError C0 hH d_M_came_273 ?_
    obtain ⟨v_7, hc_8, h⟩ := bv_out h
    refine mo_cv (w := v_7) (as := [.int x1, .int (v_2 0 38)]) (rest := []) C0 hH (c_M_end hc_8) yy_M_end q_1200 q_109 (by decide) rfl hl.1 rfl (Nat.le_of_ble_eq_true rfl) ⟨Nat.zero_le _, Nat.zero_le _⟩ d_M_came_276 (fun H locs hH => ?_)
    refine lv_goto (tgt := 322) hx hb d_M_came_279 (by decide) ?_
    exact w_M_came_322 C0 hr   _ _ _ _ h hH (lv_sub hl [] rfl)
def f_M_came (v : mS) (x1 : Int32) (x2 : Int32) : Option (mS) := if x2 = 5 then (bv (f_M_take v x1) fun v_3 => if (v_3 0 38) ≤ 0 then (gd (inB x1 10) (bv (f_M_ask v_3 x1 1 (v_3 16 (x1 : Int32).toNatClampNeg) 4) fun v_7 => f_M_came_322 v_7)) else (bv (f_M_end v_3 x1 (v_3 0 38)) fun v_9 => f_M_came_322 v_9)) else if x2 = 9 then (if (v 0 38) ≤ 0 then (bi (f_M_arrayOfGot v) fun r_15 v_13 => bv (f_M_finish v_13 x1 r_15) fun v_16 => f_M_came_322 v_16) else (bv (f_M_end v x1 (v 0 38)) fun v_18 => f_M_came_322 v_18)) else if x2 = 18 then (bv (f_M_take v x1) fun v_21 => if (v_21 0 38) ≤ 0 then (bv (f_M_end v_21 x1 0) fun v_24 => f_M_came_322 v_24) else (bv (f_M_ask v_21 x1 1 (v_21 0 38) 4) fun v_26 => f_M_came_322 v_26)) else if x2 = 19 then (f_M_came_168 fu x1 0 v) else if x2 = 22 then (if (v 0 37) ≤ 0 then (f_M_came_262 x1 x1 4 v) else (gd (inB 0 17) (f_M_came_262 x1 x1 (v 26 (0 : Int32).toNatClampNeg) v))) else if x2 = 31 then (gd (inB x1 10) (gd (inB (v 15 (x1 : Int32).toNatClampNeg) 128) (bv (f_M_limited v x1 (v 4 (v 15 (x1 : Int32).toNatClampNeg : Int32).toNatClampNeg)) fun v_35 => f_M_came_322 v_35))) else (bv (f_M_keepRow v x1) fun v_1 => f_M_came_322 v_1)
set_option maxHeartbeats 4000000 in
set_option maxRecDepth 100000 in
theorem c_M_came {l : Launch} {D : va_G} {cI : ClassId} {q : Nat → Nat} {v : mS} {x1 : Int32} {x2 : Int32} {o : mS} (h : f_M_came v x1 x2 = some o) : mo_M l D cI q 4 y_M_came b_M_came 4 none [.ref (q 0), .int x1, .int x2] v (mo_Qv D cI q o) := by
  refine mo_of (by decide +kernel) rfl (Nat.le_of_ble_eq_true rfl) ?_
  intro p e s m below meth c A ls C0 hr hl hH
  have hx := C0.1
  have hb := C0.2.1
  have hl : lv_has ls 4 [(0, .ref (q 0)), (1, .int x1), (2, .int x2)] := hl
  unfold f_M_came at h
  refine lv_iload_n hx hb d_M_came_0 rfl (lv_at hl 2 rfl) ?_
  by_cases e_11 : x2 = 5
  · rw [if_pos e_11] at h
    refine fu_lhit (tgt := 60) (off := 59) 5 e_11 hx hb d_M_came_1 (by decide) (by decide) (by decide) ?_
    refine lv_aload_n hx hb d_M_came_60 rfl (lv_at hl 0 rfl) ?_
    refine lv_iload_n hx hb d_M_came_61 rfl (lv_at hl 1 rfl) ?_
    obtain ⟨v_3, hc_4, h⟩ := bv_out h
    refine mo_cv (w := v_3) (as := [.int x1]) (rest := []) C0 hH (c_M_take hc_4) yy_M_take q_1259 q_109 (by decide) rfl hl.1 rfl (Nat.le_of_ble_eq_true rfl) ⟨Nat.zero_le _, Nat.zero_le _⟩ d_M_came_62 (fun H locs hH => ?_)
    refine lv_aload_n hx hb d_M_came_65 rfl (lv_at hl 0 rfl) ?_
    refine mo_g_gotError C0 hH d_M_came_66 ?_
    refine lv_if_le (tgt := 84) hx hb d_M_came_69 (by decide) (fun c_5 => ?_) (fun c_5 => ?_)
    · rw [if_pos c_5] at h
      refine lv_aload_n hx hb d_M_came_84 rfl (lv_at hl 0 rfl) ?_
      refine lv_iload_n hx hb d_M_came_85 rfl (lv_at hl 1 rfl) ?_
      refine lv_iconst (v := 1) hx hb d_M_came_86 (by decide) ?_
      refine lv_aload_n hx hb d_M_came_87 rfl (lv_at hl 0 rfl) ?_
      refine mo_r_val C0 hH d_M_came_88 ?_
      refine lv_iload_n hx hb d_M_came_91 rfl (lv_at hl 1 rfl) ?_
      obtain ⟨g_6, h⟩ := gd_out h
      refine mo_ld 16 (by decide) (by decide) C0 hH (inB_in g_6) d_M_came_92 ?_
      refine lv_iconst (v := 4) hx hb d_M_came_93 (by decide) ?_
      obtain ⟨v_7, hc_8, h⟩ := bv_out h
      refine mo_cv (w := v_7) (as := [.int x1, .int 1, .int (v_3 16 (x1 : Int32).toNatClampNeg), .int 4]) (rest := []) C0 hH (c_M_ask hc_8) yy_M_ask q_1247 q_109 (by decide) rfl hl.1 rfl (Nat.le_of_ble_eq_true rfl) ⟨Nat.zero_le _, Nat.zero_le _⟩ d_M_came_94 (fun H locs hH => ?_)
      refine lv_goto (tgt := 322) hx hb d_M_came_97 (by decide) ?_
      exact w_M_came_322 C0 hr   _ _ _ _ h hH (lv_sub hl [] rfl)
    · rw [if_neg c_5] at h
      refine lv_aload_n hx hb d_M_came_72 rfl (lv_at hl 0 rfl) ?_
      refine lv_iload_n hx hb d_M_came_73 rfl (lv_at hl 1 rfl) ?_
      refine lv_aload_n hx hb d_M_came_74 rfl (lv_at hl 0 rfl) ?_
      refine mo_g_gotError C0 hH d_M_came_75 ?_
      obtain ⟨v_9, hc_10, h⟩ := bv_out h
      refine mo_cv (w := v_9) (as := [.int x1, .int (v_3 0 38)]) (rest := []) C0 hH (c_M_end hc_10) yy_M_end q_1200 q_109 (by decide) rfl hl.1 rfl (Nat.le_of_ble_eq_true rfl) ⟨Nat.zero_le _, Nat.zero_le _⟩ d_M_came_78 (fun H locs hH => ?_)
      refine lv_goto (tgt := 322) hx hb d_M_came_81 (by decide) ?_
      exact w_M_came_322 C0 hr   _ _ _ _ h hH (lv_sub hl [] rfl)
  rw [if_neg e_11] at h
  by_cases e_20 : x2 = 9
  · rw [if_pos e_20] at h
    refine fu_lhit (tgt := 100) (off := 99) 9 e_20 hx hb d_M_came_1 (by decide) (by decide) (by decide) ?_
    refine lv_aload_n hx hb d_M_came_100 rfl (lv_at hl 0 rfl) ?_
    refine mo_g_gotError C0 hH d_M_came_101 ?_
    refine lv_if_le (tgt := 119) hx hb d_M_came_104 (by decide) (fun c_12 => ?_) (fun c_12 => ?_)
    · rw [if_pos c_12] at h
      refine lv_aload_n hx hb d_M_came_119 rfl (lv_at hl 0 rfl) ?_
      refine lv_iload_n hx hb d_M_came_120 rfl (lv_at hl 1 rfl) ?_
      refine lv_aload_n hx hb d_M_came_121 rfl (lv_at hl 0 rfl) ?_
      obtain ⟨r_15, v_13, hc_14, h⟩ := bi_out h
      refine mo_ci (r := r_15) (w := v_13) (as := []) (rest := [.int x1, .ref (q 0)]) C0 hH (c_M_arrayOfGot hc_14) yy_M_arrayOfGot q_1263 q_109 (by decide) rfl hl.1 rfl (Nat.le_of_ble_eq_true rfl) ⟨Nat.zero_le _, Nat.zero_le _⟩ d_M_came_122 (fun H locs hH => ?_)
      obtain ⟨v_16, hc_17, h⟩ := bv_out h
      refine mo_cv (w := v_16) (as := [.int x1, .int r_15]) (rest := []) C0 hH (c_M_finish hc_17) yy_M_finish q_1267 q_109 (by decide) rfl hl.1 rfl (Nat.le_of_ble_eq_true rfl) ⟨Nat.zero_le _, Nat.zero_le _⟩ d_M_came_125 (fun H locs hH => ?_)
      refine lv_goto (tgt := 322) hx hb d_M_came_128 (by decide) ?_
      exact w_M_came_322 C0 hr   _ _ _ _ h hH (lv_sub hl [] rfl)
    · rw [if_neg c_12] at h
      refine lv_aload_n hx hb d_M_came_107 rfl (lv_at hl 0 rfl) ?_
      refine lv_iload_n hx hb d_M_came_108 rfl (lv_at hl 1 rfl) ?_
      refine lv_aload_n hx hb d_M_came_109 rfl (lv_at hl 0 rfl) ?_
      refine mo_g_gotError C0 hH d_M_came_110 ?_
      obtain ⟨v_18, hc_19, h⟩ := bv_out h
      refine mo_cv (w := v_18) (as := [.int x1, .int (v 0 38)]) (rest := []) C0 hH (c_M_end hc_19) yy_M_end q_1200 q_109 (by decide) rfl hl.1 rfl (Nat.le_of_ble_eq_true rfl) ⟨Nat.zero_le _, Nat.zero_le _⟩ d_M_came_113 (fun H locs hH => ?_)
      refine lv_goto (tgt := 322) hx hb d_M_came_116 (by decide) ?_
      exact w_M_came_322 C0 hr   _ _ _ _ h hH (lv_sub hl [] rfl)
  rw [if_neg e_20] at h
  by_cases e_28 : x2 = 18
  · rw [if_pos e_28] at h
    refine fu_lhit (tgt := 131) (off := 130) 18 e_28 hx hb d_M_came_1 (by decide) (by decide) (by decide) ?_
    refine lv_aload_n hx hb d_M_came_131 rfl (lv_at hl 0 rfl) ?_
    refine lv_iload_n hx hb d_M_came_132 rfl (lv_at hl 1 rfl) ?_
    obtain ⟨v_21, hc_22, h⟩ := bv_out h
    refine mo_cv (w := v_21) (as := [.int x1]) (rest := []) C0 hH (c_M_take hc_22) yy_M_take q_1259 q_109 (by decide) rfl hl.1 rfl (Nat.le_of_ble_eq_true rfl) ⟨Nat.zero_le _, Nat.zero_le _⟩ d_M_came_133 (fun H locs hH => ?_)
    refine lv_aload_n hx hb d_M_came_136 rfl (lv_at hl 0 rfl) ?_
    refine mo_g_gotError C0 hH d_M_came_137 ?_
    refine lv_if_le (tgt := 157) hx hb d_M_came_140 (by decide) (fun c_23 => ?_) (fun c_23 => ?_)
    · rw [if_pos c_23] at h
      refine lv_aload_n hx hb d_M_came_157 rfl (lv_at hl 0 rfl) ?_
      refine lv_iload_n hx hb d_M_came_158 rfl (lv_at hl 1 rfl) ?_
      refine lv_iconst (v := 0) hx hb d_M_came_159 (by decide) ?_
      obtain ⟨v_24, hc_25, h⟩ := bv_out h
      refine mo_cv (w := v_24) (as := [.int x1, .int 0]) (rest := []) C0 hH (c_M_end hc_25) yy_M_end q_1200 q_109 (by decide) rfl hl.1 rfl (Nat.le_of_ble_eq_true rfl) ⟨Nat.zero_le _, Nat.zero_le _⟩ d_M_came_160 (fun H locs hH => ?_)
      refine lv_goto (tgt := 322) hx hb d_M_came_163 (by decide) ?_
      exact w_M_came_322 C0 hr   _ _ _ _ h hH (lv_sub hl [] rfl)
    · rw [if_neg c_23] at h
      refine lv_aload_n hx hb d_M_came_143 rfl (lv_at hl 0 rfl) ?_
      refine lv_iload_n hx hb d_M_came_144 rfl (lv_at hl 1 rfl) ?_
      refine lv_iconst (v := 1) hx hb d_M_came_145 (by decide) ?_
      refine lv_aload_n hx hb d_M_came_146 rfl (lv_at hl 0 rfl) ?_
      refine mo_g_gotError C0 hH d_M_came_147 ?_
      refine lv_iconst (v := 4) hx hb d_M_came_150 (by decide) ?_
      obtain ⟨v_26, hc_27, h⟩ := bv_out h
      refine mo_cv (w := v_26) (as := [.int x1, .int 1, .int (v_21 0 38), .int 4]) (rest := []) C0 hH (c_M_ask hc_27) yy_M_ask q_1247 q_109 (by decide) rfl hl.1 rfl (Nat.le_of_ble_eq_true rfl) ⟨Nat.zero_le _, Nat.zero_le _⟩ d_M_came_151 (fun H locs hH => ?_)
      refine lv_goto (tgt := 322) hx hb d_M_came_154 (by decide) ?_
      exact w_M_came_322 C0 hr   _ _ _ _ h hH (lv_sub hl [] rfl)
  rw [if_neg e_28] at h
  by_cases e_29 : x2 = 19
  · rw [if_pos e_29] at h
    refine fu_lhit (tgt := 166) (off := 165) 19 e_29 hx hb d_M_came_1 (by decide) (by decide) (by decide) ?_
    refine lv_iconst (v := 0) hx hb d_M_came_166 (by decide) ?_
    refine lv_istore_n (lv' := [(3, .int 0), (0, .ref (q 0)), (1, .int x1), (2, .int x2)]) hx hb d_M_came_167 rfl hl (by decide) rfl (fun ls hl => ?_)
    exact w_M_came_168 C0 hr  fu _ _ _ _ _ _ h hH (lv_sub hl [1, 2, 0] rfl)
  rw [if_neg e_29] at h
  by_cases e_32 : x2 = 22
  · rw [if_pos e_32] at h
    refine fu_lhit (tgt := 240) (off := 239) 22 e_32 hx hb d_M_came_1 (by decide) (by decide) (by decide) ?_
    refine lv_aload_n hx hb d_M_came_240 rfl (lv_at hl 0 rfl) ?_
    refine mo_r_held C0 hH d_M_came_241 ?_
    refine lv_iload_n hx hb d_M_came_244 rfl (lv_at hl 1 rfl) ?_
    refine lv_aload_n hx hb d_M_came_245 rfl (lv_at hl 0 rfl) ?_
    refine mo_g_gots C0 hH d_M_came_246 ?_
    refine lv_if_le (tgt := 261) hx hb d_M_came_249 (by decide) (fun c_30 => ?_) (fun c_30 => ?_)
    · rw [if_pos c_30] at h
      refine lv_iconst (v := 4) hx hb d_M_came_261 (by decide) ?_
      exact w_M_came_262 C0 hr  _ _ _ _ _ _ _ h hH (lv_sub hl [0, 1] rfl)
    · rw [if_neg c_30] at h
      refine lv_aload_n hx hb d_M_came_252 rfl (lv_at hl 0 rfl) ?_
      refine mo_r_got C0 hH d_M_came_253 ?_
      refine lv_iconst (v := 0) hx hb d_M_came_256 (by decide) ?_
      obtain ⟨g_31, h⟩ := gd_out h
      refine mo_ld 26 (by decide) (by decide) C0 hH (inB_in g_31) d_M_came_257 ?_
      refine lv_goto (tgt := 262) hx hb d_M_came_258 (by decide) ?_
      exact w_M_came_262 C0 hr  _ _ _ _ _ _ _ h hH (lv_sub hl [0, 1] rfl)
  rw [if_neg e_32] at h
  by_cases e_37 : x2 = 31
  · rw [if_pos e_37] at h
    refine fu_lhit (tgt := 298) (off := 297) 31 e_37 hx hb d_M_came_1 (by decide) (by decide) (by decide) ?_
    refine lv_aload_n hx hb d_M_came_298 rfl (lv_at hl 0 rfl) ?_
    refine lv_iload_n hx hb d_M_came_299 rfl (lv_at hl 1 rfl) ?_
    refine lv_aload_n hx hb d_M_came_300 rfl (lv_at hl 0 rfl) ?_
    refine mo_r_arg C0 hH d_M_came_301 ?_
    refine lv_aload_n hx hb d_M_came_304 rfl (lv_at hl 0 rfl) ?_
    refine mo_r_tok C0 hH d_M_came_305 ?_
    refine lv_iload_n hx hb d_M_came_308 rfl (lv_at hl 1 rfl) ?_
    obtain ⟨g_33, h⟩ := gd_out h
    refine mo_ld 15 (by decide) (by decide) C0 hH (inB_in g_33) d_M_came_309 ?_
    obtain ⟨g_34, h⟩ := gd_out h
    refine mo_ld 4 (by decide) (by decide) C0 hH (inB_in g_34) d_M_came_310 ?_
    obtain ⟨v_35, hc_36, h⟩ := bv_out h
    refine mo_cv (w := v_35) (as := [.int x1, .int (v 4 (v 15 (x1 : Int32).toNatClampNeg : Int32).toNatClampNeg)]) (rest := []) C0 hH (c_M_limited hc_36) yy_M_limited q_1271 q_109 (by decide) rfl hl.1 rfl (Nat.le_of_ble_eq_true rfl) ⟨Nat.zero_le _, Nat.zero_le _⟩ d_M_came_311 (fun H locs hH => ?_)
    refine lv_goto (tgt := 322) hx hb d_M_came_314 (by decide) ?_
    exact w_M_came_322 C0 hr   _ _ _ _ h hH (lv_sub hl [] rfl)
  rw [if_neg e_37] at h
  refine lv_lookup (tgt := 317) (off := 316) hx hb d_M_came_1 (by decide) (by show Op.lookupswitch.offset [(5, 59), (9, 99), (18, 130), (19, 165), (22, 239), (31, 297)] _ _ = _; rw [lv_osw e_11 (by decide), lv_osw e_20 (by decide), lv_osw e_28 (by decide), lv_osw e_29 (by decide), lv_osw e_32 (by decide), lv_osw e_37 (by decide)]; rfl) (by decide) ?_
  refine lv_aload_n hx hb d_M_came_317 rfl (lv_at hl 0 rfl) ?_
  refine lv_iload_n hx hb d_M_came_318 rfl (lv_at hl 1 rfl) ?_
  obtain ⟨v_1, hc_2, h⟩ := bv_out h
  refine mo_cv (w := v_1) (as := [.int x1]) (rest := []) C0 hH (c_M_keepRow hc_2) yy_M_keepRow q_1095 q_109 (by decide) rfl hl.1 rfl (Nat.le_of_ble_eq_true rfl) ⟨Nat.zero_le _, Nat.zero_le _⟩ d_M_came_319 (fun H locs hH => ?_)
  exact w_M_came_322 C0 hr   _ _ _ _ h hH (lv_sub hl [] rfl)
theorem yy_M_last : mo_Y y_M_last b_M_last 3 none 2 := ⟨rfl, q_1281, q_88, q_1282, by decide +kernel⟩
def f_M_last_54   (v : mS) : Option (mS) := some v
set_option maxHeartbeats 4000000 in
set_option maxRecDepth 100000 in
theorem w_M_last_54 {p : Program} {l : Launch} {e : Env} {s : State} {m : MethodId} {args : Array Value} {below : List Frame} {meth : Method} {c : Code} {D : va_G} {cI : ClassId} {A : Nat → Prop} {q : Nat → Nat} {o : mS} (C0 : mo_C b_M_last 3 D cI A p s m args meth c) (hr : meth.sig.returnType = none) : ∀  (v : mS) (H : Heap) (locs : List Loc) (ls : Array Slot), f_M_last_54   v = some o → mo_H D cI A s q v H locs → lv_has ls 3 [] → W p l e (mo_rm 2) s m args below meth c H locs 0 0 (MQ below (mo_Qv D cI q o A) args s 0 0 A) (F0 m 54 ls []) := by
  have hx := C0.1
  have hb := C0.2.1
  intro  v H locs ls h hH hl
  unfold f_M_last_54 at h
  exact mo_vret C0 hr hH d_M_last_54 h
def f_M_last (v : mS) (x1 : Int32) (x2 : Int32) : Option (mS) := if x2 = 22 then (gd (inB x1 10) (if (v 20 (x1 : Int32).toNatClampNeg) ≤ 0 then (gd (inB x1 10) (bv (f_M_finish v x1 (v 21 (x1 : Int32).toNatClampNeg)) fun v_5 => f_M_last_54 v_5)) else (gd (inB x1 10) (bv (f_M_alone v x1 (v 20 (x1 : Int32).toNatClampNeg)) fun v_8 => f_M_last_54 v_8)))) else (gd (inB x1 10) (bv (f_M_end v x1 (v 20 (x1 : Int32).toNatClampNeg)) fun v_11 => f_M_last_54 v_11))
set_option maxHeartbeats 4000000 in
set_option maxRecDepth 100000 in
theorem c_M_last {l : Launch} {D : va_G} {cI : ClassId} {q : Nat → Nat} {v : mS} {x1 : Int32} {x2 : Int32} {o : mS} (h : f_M_last v x1 x2 = some o) : mo_M l D cI q 2 y_M_last b_M_last 3 none [.ref (q 0), .int x1, .int x2] v (mo_Qv D cI q o) := by
  refine mo_of (by decide +kernel) rfl (Nat.le_of_ble_eq_true rfl) ?_
  intro p e s m below meth c A ls C0 hr hl hH
  have hx := C0.1
  have hb := C0.2.1
  have hl : lv_has ls 3 [(0, .ref (q 0)), (1, .int x1), (2, .int x2)] := hl
  unfold f_M_last at h
  refine lv_iload_n hx hb d_M_last_0 rfl (lv_at hl 2 rfl) ?_
  refine lv_bipush (v := 22) hx hb d_M_last_1 (by decide) ?_
  refine lv_icmp_eq (tgt := 20) hx hb d_M_last_3 (by decide) (fun c_1 => ?_) (fun c_1 => ?_)
  · rw [if_pos c_1] at h
    refine lv_aload_n hx hb d_M_last_20 rfl (lv_at hl 0 rfl) ?_
    refine mo_r_rowError C0 hH d_M_last_21 ?_
    refine lv_iload_n hx hb d_M_last_24 rfl (lv_at hl 1 rfl) ?_
    obtain ⟨g_2, h⟩ := gd_out h
    refine mo_ld 20 (by decide) (by decide) C0 hH (inB_in g_2) d_M_last_25 ?_
    refine lv_if_le (tgt := 43) hx hb d_M_last_26 (by decide) (fun c_3 => ?_) (fun c_3 => ?_)
    · rw [if_pos c_3] at h
      refine lv_aload_n hx hb d_M_last_43 rfl (lv_at hl 0 rfl) ?_
      refine lv_iload_n hx hb d_M_last_44 rfl (lv_at hl 1 rfl) ?_
      refine lv_aload_n hx hb d_M_last_45 rfl (lv_at hl 0 rfl) ?_
      refine mo_r_held C0 hH d_M_last_46 ?_
      refine lv_iload_n hx hb d_M_last_49 rfl (lv_at hl 1 rfl) ?_
      obtain ⟨g_4, h⟩ := gd_out h
      refine mo_ld 21 (by decide) (by decide) C0 hH (inB_in g_4) d_M_last_50 ?_
      obtain ⟨v_5, hc_6, h⟩ := bv_out h
      refine mo_cv (w := v_5) (as := [.int x1, .int (v 21 (x1 : Int32).toNatClampNeg)]) (rest := []) C0 hH (c_M_finish hc_6) yy_M_finish q_1267 q_109 (by decide) rfl hl.1 rfl (Nat.le_of_ble_eq_true rfl) ⟨Nat.zero_le _, Nat.zero_le _⟩ d_M_last_51 (fun H locs hH => ?_)
      exact w_M_last_54 C0 hr   _ _ _ _ h hH (lv_sub hl [] rfl)
    · rw [if_neg c_3] at h
      refine lv_aload_n hx hb d_M_last_29 rfl (lv_at hl 0 rfl) ?_
      refine lv_iload_n hx hb d_M_last_30 rfl (lv_at hl 1 rfl) ?_
      refine lv_aload_n hx hb d_M_last_31 rfl (lv_at hl 0 rfl) ?_
      refine mo_r_rowError C0 hH d_M_last_32 ?_
      refine lv_iload_n hx hb d_M_last_35 rfl (lv_at hl 1 rfl) ?_
      obtain ⟨g_7, h⟩ := gd_out h
      refine mo_ld 20 (by decide) (by decide) C0 hH (inB_in g_7) d_M_last_36 ?_
      obtain ⟨v_8, hc_9, h⟩ := bv_out h
      refine mo_cv (w := v_8) (as := [.int x1, .int (v 20 (x1 : Int32).toNatClampNeg)]) (rest := []) C0 hH (c_M_alone hc_9) yy_M_alone q_1283 q_109 (by decide) rfl hl.1 rfl (Nat.le_of_ble_eq_true rfl) ⟨Nat.zero_le _, Nat.zero_le _⟩ d_M_last_37 (fun H locs hH => ?_)
      refine lv_goto (tgt := 54) hx hb d_M_last_40 (by decide) ?_
      exact w_M_last_54 C0 hr   _ _ _ _ h hH (lv_sub hl [] rfl)
  · rw [if_neg c_1] at h
    refine lv_aload_n hx hb d_M_last_6 rfl (lv_at hl 0 rfl) ?_
    refine lv_iload_n hx hb d_M_last_7 rfl (lv_at hl 1 rfl) ?_
    refine lv_aload_n hx hb d_M_last_8 rfl (lv_at hl 0 rfl) ?_
    refine mo_r_rowError C0 hH d_M_last_9 ?_
    refine lv_iload_n hx hb d_M_last_12 rfl (lv_at hl 1 rfl) ?_
    obtain ⟨g_10, h⟩ := gd_out h
    refine mo_ld 20 (by decide) (by decide) C0 hH (inB_in g_10) d_M_last_13 ?_
    obtain ⟨v_11, hc_12, h⟩ := bv_out h
    refine mo_cv (w := v_11) (as := [.int x1, .int (v 20 (x1 : Int32).toNatClampNeg)]) (rest := []) C0 hH (c_M_end hc_12) yy_M_end q_1200 q_109 (by decide) rfl hl.1 rfl (Nat.le_of_ble_eq_true rfl) ⟨Nat.zero_le _, Nat.zero_le _⟩ d_M_last_14 (fun H locs hH => ?_)
    refine lv_goto (tgt := 54) hx hb d_M_last_17 (by decide) ?_
    exact w_M_last_54 C0 hr   _ _ _ _ h hH (lv_sub hl [] rfl)
theorem yy_M_told : mo_Y y_M_told b_M_told 3 none 2 := ⟨rfl, q_1289, q_90, q_1290, by decide +kernel⟩
def f_M_told (v : mS) (x1 : Int32) (x2 : Int32) : Option (mS) := bv (f_M_emit v x1 x2) fun v_1 => gd (inB x1 10) (gd (inB x1 10) (nm (sU v_1 18 (x1 : Int32).toNatClampNeg ((v_1 18 (x1 : Int32).toNatClampNeg) + 1)) fun v_5 => some v_5))
set_option maxHeartbeats 4000000 in
set_option maxRecDepth 100000 in
theorem c_M_told {l : Launch} {D : va_G} {cI : ClassId} {q : Nat → Nat} {v : mS} {x1 : Int32} {x2 : Int32} {o : mS} (h : f_M_told v x1 x2 = some o) : mo_M l D cI q 1 y_M_told b_M_told 3 none [.ref (q 0), .int x1, .int x2] v (mo_Qv D cI q o) := by
  refine mo_of (by decide +kernel) rfl (Nat.le_of_ble_eq_true rfl) ?_
  intro p e s m below meth c A ls C0 hr hl hH
  have hx := C0.1
  have hb := C0.2.1
  have hl : lv_has ls 3 [(0, .ref (q 0)), (1, .int x1), (2, .int x2)] := hl
  unfold f_M_told at h
  refine lv_aload_n hx hb d_M_told_0 rfl (lv_at hl 0 rfl) ?_
  refine lv_iload_n hx hb d_M_told_1 rfl (lv_at hl 1 rfl) ?_
  refine lv_iload_n hx hb d_M_told_2 rfl (lv_at hl 2 rfl) ?_
  obtain ⟨v_1, hc_2, h⟩ := bv_out h
  refine mo_cv (w := v_1) (as := [.int x1, .int x2]) (rest := []) C0 hH (c_M_emit hc_2) yy_M_emit q_1146 q_109 (by decide) rfl hl.1 rfl (Nat.le_of_ble_eq_true rfl) ⟨Nat.zero_le _, Nat.zero_le _⟩ d_M_told_3 (fun H locs hH => ?_)
  refine lv_aload_n hx hb d_M_told_6 rfl (lv_at hl 0 rfl) ?_
  refine mo_r_at C0 hH d_M_told_7 ?_
  refine lv_iload_n hx hb d_M_told_10 rfl (lv_at hl 1 rfl) ?_
  refine lv_dup2_11 hx hb d_M_told_11 rfl rfl ?_
  obtain ⟨g_3, h⟩ := gd_out h
  refine mo_ld 18 (by decide) (by decide) C0 hH (inB_in g_3) d_M_told_12 ?_
  refine lv_iconst (v := 1) hx hb d_M_told_13 (by decide) ?_
  refine lv_iadd hx hb d_M_told_14 ?_
  obtain ⟨g_4, h⟩ := gd_out h
  obtain ⟨v_5, hv_5, h⟩ := nm_out h
  refine mo_st 18 (by decide) (by decide) C0 hH (inB_in g_4) d_M_told_15 (fun H locs hH => ?_)
  rw [← hv_5] at hH
  exact mo_vret C0 hr hH d_M_told_16 h
theorem yy_M_index : mo_Y y_M_index b_M_index 8 (some .boolean) 3 := ⟨rfl, q_1297, q_92, q_1298, by decide +kernel⟩
def f_M_index_137  (x1 : Int32) (v : mS) : Option (Int32 × mS) := gd (inB x1 10) (gd (inB x1 10) (nm (sU v 18 (x1 : Int32).toNatClampNeg ((v 18 (x1 : Int32).toNatClampNeg) + 1)) fun v_3 => some (1, v_3)))
set_option maxHeartbeats 4000000 in
set_option maxRecDepth 100000 in
theorem w_M_index_137 {p : Program} {l : Launch} {e : Env} {s : State} {m : MethodId} {args : Array Value} {below : List Frame} {meth : Method} {c : Code} {D : va_G} {cI : ClassId} {A : Nat → Prop} {q : Nat → Nat} {o : Int32 × mS} (C0 : mo_C b_M_index 8 D cI A p s m args meth c) (hr : meth.sig.returnType = (some .boolean)) : ∀ (x1 : Int32) (v : mS) (H : Heap) (locs : List Loc) (ls : Array Slot), f_M_index_137  x1 v = some o → mo_H D cI A s q v H locs → lv_has ls 8 [(0, .ref (q 0)), (1, .int x1)] → W p l e (mo_rm 4) s m args below meth c H locs 0 0 (MQ below (mo_Qi D cI q o.1 o.2 A) args s 0 0 A) (F0 m 137 ls []) := by
  have hx := C0.1
  have hb := C0.2.1
  intro x1 v H locs ls h hH hl
  unfold f_M_index_137 at h
  refine lv_aload_n hx hb d_M_index_137 rfl (lv_at hl 0 rfl) ?_
  refine mo_r_at C0 hH d_M_index_138 ?_
  refine lv_iload_n hx hb d_M_index_141 rfl (lv_at hl 1 rfl) ?_
  refine lv_dup2_11 hx hb d_M_index_142 rfl rfl ?_
  obtain ⟨g_1, h⟩ := gd_out h
  refine mo_ld 18 (by decide) (by decide) C0 hH (inB_in g_1) d_M_index_143 ?_
  refine lv_iconst (v := 1) hx hb d_M_index_144 (by decide) ?_
  refine lv_iadd hx hb d_M_index_145 ?_
  obtain ⟨g_2, h⟩ := gd_out h
  obtain ⟨v_3, hv_3, h⟩ := nm_out h
  refine mo_st 18 (by decide) (by decide) C0 hH (inB_in g_2) d_M_index_146 (fun H locs hH => ?_)
  rw [← hv_3] at hH
  refine lv_iconst (v := 1) hx hb d_M_index_147 (by decide) ?_
  exact mo_zret (Or.inr rfl) C0 hr hH d_M_index_148 h
def f_M_index_118  (x1 : Int32) (y1 : Int32) (y2 : Int32) (v : mS) : Option (Int32 × mS) := bv (f_M_emit v y1 y2) fun v_1 => f_M_index_137 x1 v_1
set_option maxHeartbeats 4000000 in
set_option maxRecDepth 100000 in
theorem w_M_index_118 {p : Program} {l : Launch} {e : Env} {s : State} {m : MethodId} {args : Array Value} {below : List Frame} {meth : Method} {c : Code} {D : va_G} {cI : ClassId} {A : Nat → Prop} {q : Nat → Nat} {o : Int32 × mS} (C0 : mo_C b_M_index 8 D cI A p s m args meth c) (hr : meth.sig.returnType = (some .boolean)) : ∀ (x1 : Int32) (y1 : Int32) (y2 : Int32) (v : mS) (H : Heap) (locs : List Loc) (ls : Array Slot), f_M_index_118  x1 y1 y2 v = some o → mo_H D cI A s q v H locs → lv_has ls 8 [(0, .ref (q 0)), (1, .int x1)] → W p l e (mo_rm 4) s m args below meth c H locs 0 0 (MQ below (mo_Qi D cI q o.1 o.2 A) args s 0 0 A) (F0 m 118 ls [.int y2, .int y1, .ref (q 0)]) := by
  have hx := C0.1
  have hb := C0.2.1
  intro x1 y1 y2 v H locs ls h hH hl
  unfold f_M_index_118 at h
  obtain ⟨v_1, hc_2, h⟩ := bv_out h
  refine mo_cv (w := v_1) (as := [.int y1, .int y2]) (rest := []) C0 hH (c_M_emit hc_2) yy_M_emit q_1146 q_109 (by decide) rfl hl.1 rfl (Nat.le_of_ble_eq_true rfl) ⟨Nat.zero_le _, Nat.zero_le _⟩ d_M_index_118 (fun H locs hH => ?_)
  refine lv_goto (tgt := 137) hx hb d_M_index_121 (by decide) ?_
  exact w_M_index_137 C0 hr  _ _ _ _ _ h hH (lv_sub hl [0, 1] rfl)
def f_M_index_117  (x1 : Int32) (y1 : Int32) (v : mS) : Option (Int32 × mS) := f_M_index_118 x1 y1 4 v
set_option maxHeartbeats 4000000 in
set_option maxRecDepth 100000 in
theorem w_M_index_117 {p : Program} {l : Launch} {e : Env} {s : State} {m : MethodId} {args : Array Value} {below : List Frame} {meth : Method} {c : Code} {D : va_G} {cI : ClassId} {A : Nat → Prop} {q : Nat → Nat} {o : Int32 × mS} (C0 : mo_C b_M_index 8 D cI A p s m args meth c) (hr : meth.sig.returnType = (some .boolean)) : ∀ (x1 : Int32) (y1 : Int32) (v : mS) (H : Heap) (locs : List Loc) (ls : Array Slot), f_M_index_117  x1 y1 v = some o → mo_H D cI A s q v H locs → lv_has ls 8 [(0, .ref (q 0)), (1, .int x1)] → W p l e (mo_rm 4) s m args below meth c H locs 0 0 (MQ below (mo_Qi D cI q o.1 o.2 A) args s 0 0 A) (F0 m 117 ls [.int y1, .ref (q 0)]) := by
  have hx := C0.1
  have hb := C0.2.1
  intro x1 y1 v H locs ls h hH hl
  unfold f_M_index_117 at h
  refine lv_iconst (v := 4) hx hb d_M_index_117 (by decide) ?_
  exact w_M_index_118 C0 hr  _ _ _ _ _ _ _ h hH (lv_sub hl [0, 1] rfl)
def f_M_index_85  (x1 : Int32) (x2 : Int32) (x6 : Int64) (v : mS) : Option (Int32 × mS) := if (lg_cmp x6 0) < 0 then (f_M_index_117 x1 x1 v) else (bi (f_M_size v x2) fun r_4 v_2 => if 0 ≤ (lg_cmp x6 ((r_4 : Int32).toInt64)) then (f_M_index_117 x1 x1 v_2) else (bi (f_M_item v_2 x2 ((x6 : Int64).toInt32)) fun r_8 v_6 => f_M_index_118 x1 x1 r_8 v_6))
set_option maxHeartbeats 4000000 in
set_option maxRecDepth 100000 in
theorem w_M_index_85 {p : Program} {l : Launch} {e : Env} {s : State} {m : MethodId} {args : Array Value} {below : List Frame} {meth : Method} {c : Code} {D : va_G} {cI : ClassId} {A : Nat → Prop} {q : Nat → Nat} {o : Int32 × mS} (C0 : mo_C b_M_index 8 D cI A p s m args meth c) (hr : meth.sig.returnType = (some .boolean)) : ∀ (x1 : Int32) (x2 : Int32) (x6 : Int64) (v : mS) (H : Heap) (locs : List Loc) (ls : Array Slot), f_M_index_85  x1 x2 x6 v = some o → mo_H D cI A s q v H locs → lv_has ls 8 [(0, .ref (q 0)), (1, .int x1), (2, .int x2), (6, .long x6)] → W p l e (mo_rm 4) s m args below meth c H locs 0 0 (MQ below (mo_Qi D cI q o.1 o.2 A) args s 0 0 A) (F0 m 85 ls []) := by
  have hx := C0.1
  have hb := C0.2.1
  intro x1 x2 x6 v H locs ls h hH hl
  unfold f_M_index_85 at h
  refine lv_aload_n hx hb d_M_index_85 rfl (lv_at hl 0 rfl) ?_
  refine lv_iload_n hx hb d_M_index_86 rfl (lv_at hl 1 rfl) ?_
  refine lv_lload hx hb d_M_index_87 (lv_at hl 3 rfl) ?_
  refine lv_lconst (v := 0) hx hb d_M_index_89 (by decide) ?_
  refine W.lcmp hx hb d_M_index_90 ?_
  refine lv_if_lt (tgt := 117) hx hb d_M_index_91 (by decide) (fun c_1 => ?_) (fun c_1 => ?_)
  · rw [if_pos c_1] at h
    exact w_M_index_117 C0 hr  _ _ _ _ _ _ h hH (lv_sub hl [0, 1] rfl)
  · rw [if_neg c_1] at h
    refine lv_lload hx hb d_M_index_94 (lv_at hl 3 rfl) ?_
    refine lv_aload_n hx hb d_M_index_96 rfl (lv_at hl 0 rfl) ?_
    refine lv_iload_n hx hb d_M_index_97 rfl (lv_at hl 2 rfl) ?_
    obtain ⟨r_4, v_2, hc_3, h⟩ := bi_out h
    refine mo_ci (r := r_4) (w := v_2) (as := [.int x2]) (rest := [.long x6, .int x1, .ref (q 0)]) C0 hH (c_M_size hc_3) yy_M_size q_1127 q_109 (by decide) rfl hl.1 rfl (Nat.le_of_ble_eq_true rfl) ⟨Nat.zero_le _, Nat.zero_le _⟩ d_M_index_98 (fun H locs hH => ?_)
    refine lv_i2l hx hb d_M_index_101 rfl ?_
    refine W.lcmp hx hb d_M_index_102 ?_
    refine lv_if_ge (tgt := 117) hx hb d_M_index_103 (by decide) (fun c_5 => ?_) (fun c_5 => ?_)
    · rw [if_pos c_5] at h
      exact w_M_index_117 C0 hr  _ _ _ _ _ _ h hH (lv_sub hl [0, 1] rfl)
    · rw [if_neg c_5] at h
      refine lv_aload_n hx hb d_M_index_106 rfl (lv_at hl 0 rfl) ?_
      refine lv_iload_n hx hb d_M_index_107 rfl (lv_at hl 2 rfl) ?_
      refine lv_lload hx hb d_M_index_108 (lv_at hl 3 rfl) ?_
      refine lv_l2i hx hb d_M_index_110 rfl ?_
      obtain ⟨r_8, v_6, hc_7, h⟩ := bi_out h
      refine mo_ci (r := r_8) (w := v_6) (as := [.int x2, .int ((x6 : Int64).toInt32)]) (rest := [.int x1, .ref (q 0)]) C0 hH (c_M_item hc_7) yy_M_item q_1142 q_109 (by decide) rfl hl.1 rfl (Nat.le_of_ble_eq_true rfl) ⟨Nat.zero_le _, Nat.zero_le _⟩ d_M_index_111 (fun H locs hH => ?_)
      refine lv_goto (tgt := 118) hx hb d_M_index_114 (by decide) ?_
      exact w_M_index_118 C0 hr  _ _ _ _ _ _ _ h hH (lv_sub hl [0, 1] rfl)
def f_M_index_124  (x1 : Int32) (x4 : Int32) (v : mS) : Option (Int32 × mS) := if x4 = 0 then (bv (f_M_emit v x1 4) fun v_2 => f_M_index_137 x1 v_2) else (some (0, v))
set_option maxHeartbeats 4000000 in
set_option maxRecDepth 100000 in
theorem w_M_index_124 {p : Program} {l : Launch} {e : Env} {s : State} {m : MethodId} {args : Array Value} {below : List Frame} {meth : Method} {c : Code} {D : va_G} {cI : ClassId} {A : Nat → Prop} {q : Nat → Nat} {o : Int32 × mS} (C0 : mo_C b_M_index 8 D cI A p s m args meth c) (hr : meth.sig.returnType = (some .boolean)) : ∀ (x1 : Int32) (x4 : Int32) (v : mS) (H : Heap) (locs : List Loc) (ls : Array Slot), f_M_index_124  x1 x4 v = some o → mo_H D cI A s q v H locs → lv_has ls 8 [(0, .ref (q 0)), (1, .int x1), (4, .int x4)] → W p l e (mo_rm 4) s m args below meth c H locs 0 0 (MQ below (mo_Qi D cI q o.1 o.2 A) args s 0 0 A) (F0 m 124 ls []) := by
  have hx := C0.1
  have hb := C0.2.1
  intro x1 x4 v H locs ls h hH hl
  unfold f_M_index_124 at h
  refine lv_iload hx hb d_M_index_124 (lv_at hl 2 rfl) ?_
  refine lv_if_eq (tgt := 131) hx hb d_M_index_126 (by decide) (fun c_1 => ?_) (fun c_1 => ?_)
  · rw [if_pos c_1] at h
    refine lv_aload_n hx hb d_M_index_131 rfl (lv_at hl 0 rfl) ?_
    refine lv_iload_n hx hb d_M_index_132 rfl (lv_at hl 1 rfl) ?_
    refine lv_iconst (v := 4) hx hb d_M_index_133 (by decide) ?_
    obtain ⟨v_2, hc_3, h⟩ := bv_out h
    refine mo_cv (w := v_2) (as := [.int x1, .int 4]) (rest := []) C0 hH (c_M_emit hc_3) yy_M_emit q_1146 q_109 (by decide) rfl hl.1 rfl (Nat.le_of_ble_eq_true rfl) ⟨Nat.zero_le _, Nat.zero_le _⟩ d_M_index_134 (fun H locs hH => ?_)
    exact w_M_index_137 C0 hr  _ _ _ _ _ h hH (lv_sub hl [0, 1] rfl)
  · rw [if_neg c_1] at h
    refine lv_iconst (v := 0) hx hb d_M_index_129 (by decide) ?_
    exact mo_zret (Or.inl rfl) C0 hr hH d_M_index_130 h
def f_M_index_45  (x1 : Int32) (x2 : Int32) (x3 : Int32) (x4 : Int32) (x5 : Int32) (v : mS) : Option (Int32 × mS) := if x4 = 5 then (if x5 = 3 then (bi (f_M_num v x3) fun r_5 v_3 => bi (f_M_floor v_3 r_5) fun r_8 v_6 => if 0 ≤ (lg_cmp r_8 0) then (f_M_index_85 x1 x2 r_8 v_6) else (bi (f_M_size v_6 x2) fun r_12 v_10 => nm (r_8 + ((r_12 : Int32).toInt64)) fun x6_13 => f_M_index_85 x1 x2 x6_13 v_10)) else (f_M_index_124 x1 x4 v)) else (f_M_index_124 x1 x4 v)
set_option maxHeartbeats 4000000 in
set_option maxRecDepth 100000 in
theorem w_M_index_45 {p : Program} {l : Launch} {e : Env} {s : State} {m : MethodId} {args : Array Value} {below : List Frame} {meth : Method} {c : Code} {D : va_G} {cI : ClassId} {A : Nat → Prop} {q : Nat → Nat} {o : Int32 × mS} (C0 : mo_C b_M_index 8 D cI A p s m args meth c) (hr : meth.sig.returnType = (some .boolean)) : ∀ (x1 : Int32) (x2 : Int32) (x3 : Int32) (x4 : Int32) (x5 : Int32) (v : mS) (H : Heap) (locs : List Loc) (ls : Array Slot), f_M_index_45  x1 x2 x3 x4 x5 v = some o → mo_H D cI A s q v H locs → lv_has ls 8 [(0, .ref (q 0)), (1, .int x1), (2, .int x2), (3, .int x3), (4, .int x4), (5, .int x5)] → W p l e (mo_rm 4) s m args below meth c H locs 0 0 (MQ below (mo_Qi D cI q o.1 o.2 A) args s 0 0 A) (F0 m 45 ls []) := by
  have hx := C0.1
  have hb := C0.2.1
  intro x1 x2 x3 x4 x5 v H locs ls h hH hl
  unfold f_M_index_45 at h
  refine lv_iload hx hb d_M_index_45 (lv_at hl 4 rfl) ?_
  refine lv_iconst (v := 5) hx hb d_M_index_47 (by decide) ?_
  refine lv_icmp_ne (tgt := 124) hx hb d_M_index_48 (by decide) (fun c_1 => ?_) (fun c_1 => ?_)
  · rw [if_neg c_1] at h
    exact w_M_index_124 C0 hr  _ _ _ _ _ _ h hH (lv_sub hl [0, 1, 4] rfl)
  · rw [if_pos c_1] at h
    refine lv_iload hx hb d_M_index_51 (lv_at hl 5 rfl) ?_
    refine lv_iconst (v := 3) hx hb d_M_index_53 (by decide) ?_
    refine lv_icmp_ne (tgt := 124) hx hb d_M_index_54 (by decide) (fun c_2 => ?_) (fun c_2 => ?_)
    · rw [if_neg c_2] at h
      exact w_M_index_124 C0 hr  _ _ _ _ _ _ h hH (lv_sub hl [0, 1, 4] rfl)
    · rw [if_pos c_2] at h
      refine lv_aload_n hx hb d_M_index_57 rfl (lv_at hl 0 rfl) ?_
      refine lv_iload_n hx hb d_M_index_58 rfl (lv_at hl 3 rfl) ?_
      obtain ⟨r_5, v_3, hc_4, h⟩ := bi_out h
      refine mo_cl (r := r_5) (w := v_3) (as := [.int x3]) (rest := []) C0 hH (c_M_num hc_4) yy_M_num q_1182 q_109 (by decide) rfl hl.1 rfl (Nat.le_of_ble_eq_true rfl) ⟨Nat.zero_le _, Nat.zero_le _⟩ d_M_index_59 (fun H locs hH => ?_)
      obtain ⟨r_8, v_6, hc_7, h⟩ := bi_out h
      refine mo_sl (r := r_8) (w := v_6) (as := [.long r_5]) (rest := []) C0 hH (c_M_floor hc_7) yy_M_floor q_1236 q_109 (by decide) rfl hl.1 rfl (Nat.le_of_ble_eq_true rfl) ⟨Nat.zero_le _, Nat.zero_le _⟩ d_M_index_62 (fun H locs hH => ?_)
      refine lv_lstore (lv' := [(6, .long r_8), (0, .ref (q 0)), (1, .int x1), (2, .int x2), (3, .int x3), (4, .int x4), (5, .int x5)]) hx hb d_M_index_65 hl (by decide) rfl (fun ls hl => ?_)
      refine lv_lload hx hb d_M_index_67 (lv_at hl 0 rfl) ?_
      refine lv_lconst (v := 0) hx hb d_M_index_69 (by decide) ?_
      refine W.lcmp hx hb d_M_index_70 ?_
      refine lv_if_ge (tgt := 85) hx hb d_M_index_71 (by decide) (fun c_9 => ?_) (fun c_9 => ?_)
      · rw [if_pos c_9] at h
        exact w_M_index_85 C0 hr  _ _ _ _ _ _ _ h hH (lv_sub hl [1, 2, 3, 0] rfl)
      · rw [if_neg c_9] at h
        refine lv_lload hx hb d_M_index_74 (lv_at hl 0 rfl) ?_
        refine lv_aload_n hx hb d_M_index_76 rfl (lv_at hl 1 rfl) ?_
        refine lv_iload_n hx hb d_M_index_77 rfl (lv_at hl 3 rfl) ?_
        obtain ⟨r_12, v_10, hc_11, h⟩ := bi_out h
        refine mo_ci (r := r_12) (w := v_10) (as := [.int x2]) (rest := [.long r_8]) C0 hH (c_M_size hc_11) yy_M_size q_1127 q_109 (by decide) rfl hl.1 rfl (Nat.le_of_ble_eq_true rfl) ⟨Nat.zero_le _, Nat.zero_le _⟩ d_M_index_78 (fun H locs hH => ?_)
        refine lv_i2l hx hb d_M_index_81 rfl ?_
        refine lv_ladd hx hb d_M_index_82 ?_
        obtain ⟨x6_13, hx6_13, h⟩ := nm_out h
        refine fu_l hx6_13 ?_
        refine lv_lstore (lv' := [(6, .long x6_13), (0, .ref (q 0)), (1, .int x1), (2, .int x2), (3, .int x3), (4, .int x4), (5, .int x5)]) hx hb d_M_index_83 hl (by decide) rfl (fun ls hl => ?_)
        exact w_M_index_85 C0 hr  _ _ _ _ _ _ _ h hH (lv_sub hl [1, 2, 3, 0] rfl)
def f_M_index (v : mS) (x1 : Int32) (x2 : Int32) (x3 : Int32) : Option (Int32 × mS) := bi (f_M_kindOf v x2) fun r_3 v_1 => bi (f_M_kindOf v_1 x3) fun r_6 v_4 => if r_3 = 6 then (if r_6 = 4 then (gd (inB x1 10) (gd (inB x1 10) (nm (sU v_4 18 (x1 : Int32).toNatClampNeg ((v_4 18 (x1 : Int32).toNatClampNeg) + 1)) fun v_11 => bi (f_M_field v_11 x1 x2 x3) fun r_14 v_12 => gd (decide (r_14 = 0 ∨ r_14 = 1)) (some (r_14, v_12))))) else (f_M_index_45 x1 x2 x3 r_3 r_6 v_4)) else (f_M_index_45 x1 x2 x3 r_3 r_6 v_4)
set_option maxHeartbeats 4000000 in
set_option maxRecDepth 100000 in
theorem c_M_index {l : Launch} {D : va_G} {cI : ClassId} {q : Nat → Nat} {v : mS} {x1 : Int32} {x2 : Int32} {x3 : Int32} {o : Int32 × mS} (h : f_M_index v x1 x2 x3 = some o) : mo_M l D cI q 4 y_M_index b_M_index 8 (some .boolean) [.ref (q 0), .int x1, .int x2, .int x3] v (mo_Qi D cI q o.1 o.2) := by
  refine mo_of (by decide +kernel) rfl (Nat.le_of_ble_eq_true rfl) ?_
  intro p e s m below meth c A ls C0 hr hl hH
  have hx := C0.1
  have hb := C0.2.1
  have hl : lv_has ls 8 [(0, .ref (q 0)), (1, .int x1), (2, .int x2), (3, .int x3)] := hl
  unfold f_M_index at h
  refine lv_aload_n hx hb d_M_index_0 rfl (lv_at hl 0 rfl) ?_
  refine lv_iload_n hx hb d_M_index_1 rfl (lv_at hl 2 rfl) ?_
  obtain ⟨r_3, v_1, hc_2, h⟩ := bi_out h
  refine mo_ci (r := r_3) (w := v_1) (as := [.int x2]) (rest := []) C0 hH (c_M_kindOf hc_2) yy_M_kindOf q_1107 q_109 (by decide) rfl hl.1 rfl (Nat.le_of_ble_eq_true rfl) ⟨Nat.zero_le _, Nat.zero_le _⟩ d_M_index_2 (fun H locs hH => ?_)
  refine lv_istore (lv' := [(4, .int r_3), (0, .ref (q 0)), (1, .int x1), (2, .int x2), (3, .int x3)]) hx hb d_M_index_5 hl (by decide) rfl (fun ls hl => ?_)
  refine lv_aload_n hx hb d_M_index_7 rfl (lv_at hl 1 rfl) ?_
  refine lv_iload_n hx hb d_M_index_8 rfl (lv_at hl 4 rfl) ?_
  obtain ⟨r_6, v_4, hc_5, h⟩ := bi_out h
  refine mo_ci (r := r_6) (w := v_4) (as := [.int x3]) (rest := []) C0 hH (c_M_kindOf hc_5) yy_M_kindOf q_1107 q_109 (by decide) rfl hl.1 rfl (Nat.le_of_ble_eq_true rfl) ⟨Nat.zero_le _, Nat.zero_le _⟩ d_M_index_9 (fun H locs hH => ?_)
  refine lv_istore (lv' := [(5, .int r_6), (4, .int r_3), (0, .ref (q 0)), (1, .int x1), (2, .int x2), (3, .int x3)]) hx hb d_M_index_12 hl (by decide) rfl (fun ls hl => ?_)
  refine lv_iload hx hb d_M_index_14 (lv_at hl 1 rfl) ?_
  refine lv_bipush (v := 6) hx hb d_M_index_16 (by decide) ?_
  refine lv_icmp_ne (tgt := 45) hx hb d_M_index_18 (by decide) (fun c_7 => ?_) (fun c_7 => ?_)
  · rw [if_neg c_7] at h
    exact w_M_index_45 C0 hr  _ _ _ _ _ _ _ _ _ h hH (lv_sub hl [2, 3, 4, 5, 1, 0] rfl)
  · rw [if_pos c_7] at h
    refine lv_iload hx hb d_M_index_21 (lv_at hl 0 rfl) ?_
    refine lv_iconst (v := 4) hx hb d_M_index_23 (by decide) ?_
    refine lv_icmp_ne (tgt := 45) hx hb d_M_index_24 (by decide) (fun c_8 => ?_) (fun c_8 => ?_)
    · rw [if_neg c_8] at h
      exact w_M_index_45 C0 hr  _ _ _ _ _ _ _ _ _ h hH (lv_sub hl [2, 3, 4, 5, 1, 0] rfl)
    · rw [if_pos c_8] at h
      refine lv_aload_n hx hb d_M_index_27 rfl (lv_at hl 2 rfl) ?_
      refine mo_r_at C0 hH d_M_index_28 ?_
      refine lv_iload_n hx hb d_M_index_31 rfl (lv_at hl 3 rfl) ?_
      refine lv_dup2_11 hx hb d_M_index_32 rfl rfl ?_
      obtain ⟨g_9, h⟩ := gd_out h
      refine mo_ld 18 (by decide) (by decide) C0 hH (inB_in g_9) d_M_index_33 ?_
      refine lv_iconst (v := 1) hx hb d_M_index_34 (by decide) ?_
      refine lv_iadd hx hb d_M_index_35 ?_
      obtain ⟨g_10, h⟩ := gd_out h
      obtain ⟨v_11, hv_11, h⟩ := nm_out h
      refine mo_st 18 (by decide) (by decide) C0 hH (inB_in g_10) d_M_index_36 (fun H locs hH => ?_)
      rw [← hv_11] at hH
      refine lv_aload_n hx hb d_M_index_37 rfl (lv_at hl 2 rfl) ?_
      refine lv_iload_n hx hb d_M_index_38 rfl (lv_at hl 3 rfl) ?_
      refine lv_iload_n hx hb d_M_index_39 rfl (lv_at hl 4 rfl) ?_
      refine lv_iload_n hx hb d_M_index_40 rfl (lv_at hl 5 rfl) ?_
      obtain ⟨r_14, v_12, hc_13, h⟩ := bi_out h
      refine mo_ci (r := r_14) (w := v_12) (as := [.int x1, .int x2, .int x3]) (rest := []) C0 hH (c_M_field hc_13) yy_M_field q_1119 q_109 (by decide) rfl hl.1 rfl (Nat.le_of_ble_eq_true rfl) ⟨Nat.zero_le _, Nat.zero_le _⟩ d_M_index_41 (fun H locs hH => ?_)
      obtain ⟨g_15, h⟩ := gd_out h
      exact mo_zret (z01 g_15) C0 hr hH d_M_index_44 h
