/-! methods of the reference (by program: wip/gen/mgen.py worked step) -/
theorem yy_M_worked : mo_Y y_M_worked b_M_worked 7 none 2 := ⟨rfl, q_1301, q_93, q_1302, by decide +kernel⟩
def f_M_worked_164 (K111 : Int32 → Int32 → Int32 → Int32 → Int32 → mS → Option (mS)) (x1 : Int32) (x2 : Int32) (x3 : Int32) (x4 : Int32) (x5 : Int32) (y0 : Int32) (v : mS) : Option (mS) := if 0 ≤ y0 then (bv (f_M_emit v x1 y0) fun v_2 => nm (x5 + 1) fun x5_4 => K111 x1 x2 x3 x4 x5_4 v_2) else (bv (f_M_err v x1 (-y0)) fun v_5 => some v_5)
set_option maxHeartbeats 4000000 in
set_option maxRecDepth 100000 in
theorem w_M_worked_164 {p : Program} {l : Launch} {e : Env} {s : State} {m : MethodId} {args : Array Value} {below : List Frame} {meth : Method} {c : Code} {D : va_G} {cI : ClassId} {A : Nat → Prop} {q : Nat → Nat} {o : mS} (C0 : mo_C b_M_worked 7 D cI A p s m args meth c) (hr : meth.sig.returnType = none) {K111 : Int32 → Int32 → Int32 → Int32 → Int32 → mS → Option (mS)} (hK111 : ∀ (x1 : Int32) (x2 : Int32) (x3 : Int32) (x4 : Int32) (x5 : Int32) (v : mS) (H : Heap) (locs : List Loc) (ls : Array Slot), K111 x1 x2 x3 x4 x5 v = some o → mo_H D cI A s q v H locs → lv_has ls 7 [(0, .ref (q 0)), (1, .int x1), (2, .int x2), (3, .int x3), (4, .int x4), (5, .int x5)] → W p l e (mo_rm 7) s m args below meth c H locs 0 0 (MQ below (mo_Qv D cI q o A) args s 0 0 A) (F0 m 111 ls [])) : ∀ (x1 : Int32) (x2 : Int32) (x3 : Int32) (x4 : Int32) (x5 : Int32) (y0 : Int32) (v : mS) (H : Heap) (locs : List Loc) (ls : Array Slot), f_M_worked_164 K111 x1 x2 x3 x4 x5 y0 v = some o → mo_H D cI A s q v H locs → lv_has ls 7 [(0, .ref (q 0)), (1, .int x1), (2, .int x2), (3, .int x3), (4, .int x4), (5, .int x5)] → W p l e (mo_rm 7) s m args below meth c H locs 0 0 (MQ below (mo_Qv D cI q o A) args s 0 0 A) (F0 m 164 ls [.int y0]) := by
  have hx := C0.1
  have hb := C0.2.1
  intro x1 x2 x3 x4 x5 y0 v H locs ls h hH hl
  unfold f_M_worked_164 at h
  refine lv_istore (lv' := [(6, .int y0), (0, .ref (q 0)), (1, .int x1), (2, .int x2), (3, .int x3), (4, .int x4), (5, .int x5)]) hx hb d_M_worked_164 hl (by decide) rfl (fun ls hl => ?_)
  refine lv_iload hx hb d_M_worked_166 (lv_at hl 0 rfl) ?_
  refine lv_if_ge (tgt := 180) hx hb d_M_worked_168 (by decide) (fun c_1 => ?_) (fun c_1 => ?_)
  · rw [if_pos c_1] at h
    refine lv_aload_n hx hb d_M_worked_180 rfl (lv_at hl 1 rfl) ?_
    refine lv_iload_n hx hb d_M_worked_181 rfl (lv_at hl 2 rfl) ?_
    refine lv_iload hx hb d_M_worked_182 (lv_at hl 0 rfl) ?_
    obtain ⟨v_2, hc_3, h⟩ := bv_out h
    refine mo_cv (w := v_2) (as := [.int x1, .int y0]) (rest := []) C0 hH (c_M_emit hc_3) yy_M_emit q_1146 q_109 (by decide) rfl hl.1 rfl (Nat.le_of_ble_eq_true rfl) ⟨Nat.zero_le _, Nat.zero_le _⟩ d_M_worked_184 (fun H locs hH => ?_)
    obtain ⟨x5_4, hx5_4, h⟩ := nm_out h
    refine lv_iinc (v := x5_4) (lv' := [(5, .int x5_4), (6, .int y0), (0, .ref (q 0)), (1, .int x1), (2, .int x2), (3, .int x3), (4, .int x4)]) hx hb d_M_worked_187 hl (k := 6) rfl (by rw [hx5_4]; rfl) (by decide) rfl (fun ls hl => ?_)
    refine lv_goto (tgt := 111) hx hb d_M_worked_190 (by decide) ?_
    exact hK111 _ _ _ _ _ _ _ _ _ h hH (lv_sub hl [2, 3, 4, 5, 6, 0] rfl)
  · rw [if_neg c_1] at h
    refine lv_aload_n hx hb d_M_worked_171 rfl (lv_at hl 1 rfl) ?_
    refine lv_iload_n hx hb d_M_worked_172 rfl (lv_at hl 2 rfl) ?_
    refine lv_iload hx hb d_M_worked_173 (lv_at hl 0 rfl) ?_
    refine lv_ineg hx hb d_M_worked_175 ?_
    obtain ⟨v_5, hc_6, h⟩ := bv_out h
    refine mo_cv (w := v_5) (as := [.int x1, .int (-y0)]) (rest := []) C0 hH (c_M_err hc_6) yy_M_err q_1239 q_109 (by decide) rfl hl.1 rfl (Nat.le_of_ble_eq_true rfl) ⟨Nat.zero_le _, Nat.zero_le _⟩ d_M_worked_176 (fun H locs hH => ?_)
    exact mo_vret C0 hr hH d_M_worked_179 h
def f_M_worked_329   (v : mS) : Option (mS) := some v
set_option maxHeartbeats 4000000 in
set_option maxRecDepth 100000 in
theorem w_M_worked_329 {p : Program} {l : Launch} {e : Env} {s : State} {m : MethodId} {args : Array Value} {below : List Frame} {meth : Method} {c : Code} {D : va_G} {cI : ClassId} {A : Nat → Prop} {q : Nat → Nat} {o : mS} (C0 : mo_C b_M_worked 7 D cI A p s m args meth c) (hr : meth.sig.returnType = none) : ∀  (v : mS) (H : Heap) (locs : List Loc) (ls : Array Slot), f_M_worked_329   v = some o → mo_H D cI A s q v H locs → lv_has ls 7 [] → W p l e (mo_rm 7) s m args below meth c H locs 0 0 (MQ below (mo_Qv D cI q o A) args s 0 0 A) (F0 m 329 ls []) := by
  have hx := C0.1
  have hb := C0.2.1
  intro  v H locs ls h hH hl
  unfold f_M_worked_329 at h
  exact mo_vret C0 hr hH d_M_worked_329 h
def f_M_worked_313  (x1 : Int32) (v : mS) : Option (mS) := if (v 0 38) ≤ 0 then (f_M_worked_329 v) else (bv (f_M_end v x1 (v 0 38)) fun v_2 => f_M_worked_329 v_2)
set_option maxHeartbeats 4000000 in
set_option maxRecDepth 100000 in
theorem w_M_worked_313 {p : Program} {l : Launch} {e : Env} {s : State} {m : MethodId} {args : Array Value} {below : List Frame} {meth : Method} {c : Code} {D : va_G} {cI : ClassId} {A : Nat → Prop} {q : Nat → Nat} {o : mS} (C0 : mo_C b_M_worked 7 D cI A p s m args meth c) (hr : meth.sig.returnType = none) : ∀ (x1 : Int32) (v : mS) (H : Heap) (locs : List Loc) (ls : Array Slot), f_M_worked_313  x1 v = some o → mo_H D cI A s q v H locs → lv_has ls 7 [(0, .ref (q 0)), (1, .int x1)] → W p l e (mo_rm 7) s m args below meth c H locs 0 0 (MQ below (mo_Qv D cI q o A) args s 0 0 A) (F0 m 313 ls []) := by
  have hx := C0.1
  have hb := C0.2.1
  intro x1 v H locs ls h hH hl
  unfold f_M_worked_313 at h
  refine lv_aload_n hx hb d_M_worked_313 rfl (lv_at hl 0 rfl) ?_
  refine mo_g_gotError C0 hH d_M_worked_314 ?_
  refine lv_if_le (tgt := 329) hx hb d_M_worked_317 (by decide) (fun c_1 => ?_) (fun c_1 => ?_)
  · rw [if_pos c_1] at h
    exact w_M_worked_329 C0 hr   _ _ _ _ h hH (lv_sub hl [] rfl)
  · rw [if_neg c_1] at h
    refine lv_aload_n hx hb d_M_worked_320 rfl (lv_at hl 0 rfl) ?_
    refine lv_iload_n hx hb d_M_worked_321 rfl (lv_at hl 1 rfl) ?_
    refine lv_aload_n hx hb d_M_worked_322 rfl (lv_at hl 0 rfl) ?_
    refine mo_g_gotError C0 hH d_M_worked_323 ?_
    obtain ⟨v_2, hc_3, h⟩ := bv_out h
    refine mo_cv (w := v_2) (as := [.int x1, .int (v 0 38)]) (rest := []) C0 hH (c_M_end hc_3) yy_M_end q_1200 q_109 (by decide) rfl hl.1 rfl (Nat.le_of_ble_eq_true rfl) ⟨Nat.zero_le _, Nat.zero_le _⟩ d_M_worked_326 (fun H locs hH => ?_)
    exact w_M_worked_329 C0 hr   _ _ _ _ h hH (lv_sub hl [] rfl)
def f_M_worked_193  (x1 : Int32) (v : mS) : Option (mS) := f_M_worked_313 x1 v
set_option maxHeartbeats 4000000 in
set_option maxRecDepth 100000 in
theorem w_M_worked_193 {p : Program} {l : Launch} {e : Env} {s : State} {m : MethodId} {args : Array Value} {below : List Frame} {meth : Method} {c : Code} {D : va_G} {cI : ClassId} {A : Nat → Prop} {q : Nat → Nat} {o : mS} (C0 : mo_C b_M_worked 7 D cI A p s m args meth c) (hr : meth.sig.returnType = none) : ∀ (x1 : Int32) (v : mS) (H : Heap) (locs : List Loc) (ls : Array Slot), f_M_worked_193  x1 v = some o → mo_H D cI A s q v H locs → lv_has ls 7 [(0, .ref (q 0)), (1, .int x1)] → W p l e (mo_rm 7) s m args below meth c H locs 0 0 (MQ below (mo_Qv D cI q o A) args s 0 0 A) (F0 m 193 ls []) := by
  have hx := C0.1
  have hb := C0.2.1
  intro x1 v H locs ls h hH hl
  unfold f_M_worked_193 at h
  refine lv_goto (tgt := 313) hx hb d_M_worked_193 (by decide) ?_
  exact w_M_worked_313 C0 hr  _ _ _ _ _ h hH (lv_sub hl [0, 1] rfl)
def f_M_worked_111  : Nat → Int32 → Int32 → Int32 → Int32 → Int32 → mS → Option (mS)
  | 0, _, _, _, _, _, _ => none
  | n + 1, x1, x2, x3, x4, x5, v => if (v 0 37) ≤ x5 then (f_M_worked_193 x1 v) else (if (v 0 21) = 0 then (if x2 = 12 then (gd (inB x5 17) (bi (f_M_calc v x4 (v 26 (x5 : Int32).toNatClampNeg) x3) fun r_11 v_9 => f_M_worked_164 (f_M_worked_111 n) x1 x2 x3 x4 x5 r_11 v_9)) else (gd (inB x5 17) (bi (f_M_compared v x4 (v 26 (x5 : Int32).toNatClampNeg) x3) fun r_7 v_5 => f_M_worked_164 (f_M_worked_111 n) x1 x2 x3 x4 x5 r_7 v_5))) else (f_M_worked_193 x1 v))
set_option maxHeartbeats 4000000 in
set_option maxRecDepth 100000 in
theorem w_M_worked_111 {p : Program} {l : Launch} {e : Env} {s : State} {m : MethodId} {args : Array Value} {below : List Frame} {meth : Method} {c : Code} {D : va_G} {cI : ClassId} {A : Nat → Prop} {q : Nat → Nat} {o : mS} (C0 : mo_C b_M_worked 7 D cI A p s m args meth c) (hr : meth.sig.returnType = none) : ∀ (n : Nat) (x1 : Int32) (x2 : Int32) (x3 : Int32) (x4 : Int32) (x5 : Int32) (v : mS) (H : Heap) (locs : List Loc) (ls : Array Slot), f_M_worked_111  n x1 x2 x3 x4 x5 v = some o → mo_H D cI A s q v H locs → lv_has ls 7 [(0, .ref (q 0)), (1, .int x1), (2, .int x2), (3, .int x3), (4, .int x4), (5, .int x5)] → W p l e (mo_rm 7) s m args below meth c H locs 0 0 (MQ below (mo_Qv D cI q o A) args s 0 0 A) (F0 m 111 ls []) := by
  have hx := C0.1
  have hb := C0.2.1
  intro n
  induction n with
  | zero =>
    intro x1 x2 x3 x4 x5 v H locs ls h hH hl
    cases h
  | succ n ih =>
    intro x1 x2 x3 x4 x5 v H locs ls h hH hl
    rw [f_M_worked_111] at h
    refine lv_iload hx hb d_M_worked_111 (lv_at hl 5 rfl) ?_
    refine lv_aload_n hx hb d_M_worked_113 rfl (lv_at hl 0 rfl) ?_
    refine mo_g_gots C0 hH d_M_worked_114 ?_
    refine lv_icmp_ge (tgt := 193) hx hb d_M_worked_117 (by decide) (fun c_1 => ?_) (fun c_1 => ?_)
    · rw [if_pos c_1] at h
      exact w_M_worked_193 C0 hr  _ _ _ _ _ h hH (lv_sub hl [0, 1] rfl)
    · rw [if_neg c_1] at h
      refine lv_aload_n hx hb d_M_worked_120 rfl (lv_at hl 0 rfl) ?_
      refine mo_g_noRoom C0 hH d_M_worked_121 ?_
      refine lv_if_ne (tgt := 193) hx hb d_M_worked_124 (by decide) (fun c_2 => ?_) (fun c_2 => ?_)
      · rw [if_neg c_2] at h
        exact w_M_worked_193 C0 hr  _ _ _ _ _ h hH (lv_sub hl [0, 1] rfl)
      · rw [if_pos c_2] at h
        refine lv_iload_n hx hb d_M_worked_127 rfl (lv_at hl 2 rfl) ?_
        refine lv_bipush (v := 12) hx hb d_M_worked_128 (by decide) ?_
        refine lv_icmp_ne (tgt := 150) hx hb d_M_worked_130 (by decide) (fun c_3 => ?_) (fun c_3 => ?_)
        · rw [if_neg c_3] at h
          refine lv_aload_n hx hb d_M_worked_150 rfl (lv_at hl 0 rfl) ?_
          refine lv_iload hx hb d_M_worked_151 (lv_at hl 4 rfl) ?_
          refine lv_aload_n hx hb d_M_worked_153 rfl (lv_at hl 0 rfl) ?_
          refine mo_r_got C0 hH d_M_worked_154 ?_
          refine lv_iload hx hb d_M_worked_157 (lv_at hl 5 rfl) ?_
          obtain ⟨g_4, h⟩ := gd_out h
          refine mo_ld 26 (by decide) (by decide) C0 hH (inB_in g_4) d_M_worked_159 ?_
          refine lv_iload_n hx hb d_M_worked_160 rfl (lv_at hl 3 rfl) ?_
          obtain ⟨r_7, v_5, hc_6, h⟩ := bi_out h
          refine mo_ci (r := r_7) (w := v_5) (as := [.int x4, .int (v 26 (x5 : Int32).toNatClampNeg), .int x3]) (rest := []) C0 hH (c_M_compared hc_6) yy_M_compared q_1327 q_109 (by decide) rfl hl.1 rfl (Nat.le_of_ble_eq_true rfl) ⟨Nat.zero_le _, Nat.zero_le _⟩ d_M_worked_161 (fun H locs hH => ?_)
          exact w_M_worked_164 C0 hr ih _ _ _ _ _ _ _ _ _ _ h hH (lv_sub hl [0, 1, 2, 3, 4, 5] rfl)
        · rw [if_pos c_3] at h
          refine lv_aload_n hx hb d_M_worked_133 rfl (lv_at hl 0 rfl) ?_
          refine lv_iload hx hb d_M_worked_134 (lv_at hl 4 rfl) ?_
          refine lv_aload_n hx hb d_M_worked_136 rfl (lv_at hl 0 rfl) ?_
          refine mo_r_got C0 hH d_M_worked_137 ?_
          refine lv_iload hx hb d_M_worked_140 (lv_at hl 5 rfl) ?_
          obtain ⟨g_8, h⟩ := gd_out h
          refine mo_ld 26 (by decide) (by decide) C0 hH (inB_in g_8) d_M_worked_142 ?_
          refine lv_iload_n hx hb d_M_worked_143 rfl (lv_at hl 3 rfl) ?_
          obtain ⟨r_11, v_9, hc_10, h⟩ := bi_out h
          refine mo_ci (r := r_11) (w := v_9) (as := [.int x4, .int (v 26 (x5 : Int32).toNatClampNeg), .int x3]) (rest := []) C0 hH (c_M_calc hc_10) yy_M_calc q_1303 q_109 (by decide) rfl hl.1 rfl (Nat.le_of_ble_eq_true rfl) ⟨Nat.zero_le _, Nat.zero_le _⟩ d_M_worked_144 (fun H locs hH => ?_)
          refine lv_goto (tgt := 164) hx hb d_M_worked_147 (by decide) ?_
          exact w_M_worked_164 C0 hr ih _ _ _ _ _ _ _ _ _ _ h hH (lv_sub hl [0, 1, 2, 3, 4, 5] rfl)
def f_M_worked_108  (x1 : Int32) (x2 : Int32) (x3 : Int32) (x4 : Int32) (v : mS) : Option (mS) := f_M_worked_111 fu x1 x2 x3 x4 0 v
set_option maxHeartbeats 4000000 in
set_option maxRecDepth 100000 in
theorem w_M_worked_108 {p : Program} {l : Launch} {e : Env} {s : State} {m : MethodId} {args : Array Value} {below : List Frame} {meth : Method} {c : Code} {D : va_G} {cI : ClassId} {A : Nat → Prop} {q : Nat → Nat} {o : mS} (C0 : mo_C b_M_worked 7 D cI A p s m args meth c) (hr : meth.sig.returnType = none) : ∀ (x1 : Int32) (x2 : Int32) (x3 : Int32) (x4 : Int32) (v : mS) (H : Heap) (locs : List Loc) (ls : Array Slot), f_M_worked_108  x1 x2 x3 x4 v = some o → mo_H D cI A s q v H locs → lv_has ls 7 [(0, .ref (q 0)), (1, .int x1), (2, .int x2), (3, .int x3), (4, .int x4)] → W p l e (mo_rm 7) s m args below meth c H locs 0 0 (MQ below (mo_Qv D cI q o A) args s 0 0 A) (F0 m 108 ls []) := by
  have hx := C0.1
  have hb := C0.2.1
  intro x1 x2 x3 x4 v H locs ls h hH hl
  unfold f_M_worked_108 at h
  refine lv_iconst (v := 0) hx hb d_M_worked_108 (by decide) ?_
  refine lv_istore (lv' := [(5, .int 0), (0, .ref (q 0)), (1, .int x1), (2, .int x2), (3, .int x3), (4, .int x4)]) hx hb d_M_worked_109 hl (by decide) rfl (fun ls hl => ?_)
  exact w_M_worked_111 C0 hr  fu _ _ _ _ _ _ _ _ _ h hH (lv_sub hl [1, 2, 3, 4, 5, 0] rfl)
def f_M_worked_231 (K199 : Int32 → Int32 → mS → Option (mS)) (x1 : Int32) (x5 : Int32) (y1 : Int32) (y2 : Int32) (v : mS) : Option (mS) := bv (f_M_emit v y1 y2) fun v_1 => nm (x5 + 1) fun x5_3 => K199 x1 x5_3 v_1
set_option maxHeartbeats 4000000 in
set_option maxRecDepth 100000 in
theorem w_M_worked_231 {p : Program} {l : Launch} {e : Env} {s : State} {m : MethodId} {args : Array Value} {below : List Frame} {meth : Method} {c : Code} {D : va_G} {cI : ClassId} {A : Nat → Prop} {q : Nat → Nat} {o : mS} (C0 : mo_C b_M_worked 7 D cI A p s m args meth c) (hr : meth.sig.returnType = none) {K199 : Int32 → Int32 → mS → Option (mS)} (hK199 : ∀ (x1 : Int32) (x5 : Int32) (v : mS) (H : Heap) (locs : List Loc) (ls : Array Slot), K199 x1 x5 v = some o → mo_H D cI A s q v H locs → lv_has ls 7 [(0, .ref (q 0)), (1, .int x1), (5, .int x5)] → W p l e (mo_rm 7) s m args below meth c H locs 0 0 (MQ below (mo_Qv D cI q o A) args s 0 0 A) (F0 m 199 ls [])) : ∀ (x1 : Int32) (x5 : Int32) (y1 : Int32) (y2 : Int32) (v : mS) (H : Heap) (locs : List Loc) (ls : Array Slot), f_M_worked_231 K199 x1 x5 y1 y2 v = some o → mo_H D cI A s q v H locs → lv_has ls 7 [(0, .ref (q 0)), (1, .int x1), (5, .int x5)] → W p l e (mo_rm 7) s m args below meth c H locs 0 0 (MQ below (mo_Qv D cI q o A) args s 0 0 A) (F0 m 231 ls [.int y2, .int y1, .ref (q 0)]) := by
  have hx := C0.1
  have hb := C0.2.1
  intro x1 x5 y1 y2 v H locs ls h hH hl
  unfold f_M_worked_231 at h
  obtain ⟨v_1, hc_2, h⟩ := bv_out h
  refine mo_cv (w := v_1) (as := [.int y1, .int y2]) (rest := []) C0 hH (c_M_emit hc_2) yy_M_emit q_1146 q_109 (by decide) rfl hl.1 rfl (Nat.le_of_ble_eq_true rfl) ⟨Nat.zero_le _, Nat.zero_le _⟩ d_M_worked_231 (fun H locs hH => ?_)
  obtain ⟨x5_3, hx5_3, h⟩ := nm_out h
  refine lv_iinc (v := x5_3) (lv' := [(5, .int x5_3), (0, .ref (q 0)), (1, .int x1)]) hx hb d_M_worked_234 hl (k := 2) rfl (by rw [hx5_3]; rfl) (by decide) rfl (fun ls hl => ?_)
  refine lv_goto (tgt := 199) hx hb d_M_worked_237 (by decide) ?_
  exact hK199 _ _ _ _ _ _ h hH (lv_sub hl [1, 2, 0] rfl)
def f_M_worked_199  : Nat → Int32 → Int32 → mS → Option (mS)
  | 0, _, _, _ => none
  | n + 1, x1, x5, v => if (v 0 37) ≤ x5 then (f_M_worked_313 x1 v) else (gd (inB x5 17) (bi (f_M_good v (v 26 (x5 : Int32).toNatClampNeg)) fun r_5 v_3 => if r_5 = 0 then (f_M_worked_231 (f_M_worked_199 n) x1 x5 x1 8 v_3) else (f_M_worked_231 (f_M_worked_199 n) x1 x5 x1 12 v_3)))
set_option maxHeartbeats 4000000 in
set_option maxRecDepth 100000 in
theorem w_M_worked_199 {p : Program} {l : Launch} {e : Env} {s : State} {m : MethodId} {args : Array Value} {below : List Frame} {meth : Method} {c : Code} {D : va_G} {cI : ClassId} {A : Nat → Prop} {q : Nat → Nat} {o : mS} (C0 : mo_C b_M_worked 7 D cI A p s m args meth c) (hr : meth.sig.returnType = none) : ∀ (n : Nat) (x1 : Int32) (x5 : Int32) (v : mS) (H : Heap) (locs : List Loc) (ls : Array Slot), f_M_worked_199  n x1 x5 v = some o → mo_H D cI A s q v H locs → lv_has ls 7 [(0, .ref (q 0)), (1, .int x1), (5, .int x5)] → W p l e (mo_rm 7) s m args below meth c H locs 0 0 (MQ below (mo_Qv D cI q o A) args s 0 0 A) (F0 m 199 ls []) := by
  have hx := C0.1
  have hb := C0.2.1
  intro n
  induction n with
  | zero =>
    intro x1 x5 v H locs ls h hH hl
    cases h
  | succ n ih =>
    intro x1 x5 v H locs ls h hH hl
    rw [f_M_worked_199] at h
    refine lv_iload hx hb d_M_worked_199 (lv_at hl 2 rfl) ?_
    refine lv_aload_n hx hb d_M_worked_201 rfl (lv_at hl 0 rfl) ?_
    refine mo_g_gots C0 hH d_M_worked_202 ?_
    refine lv_icmp_ge (tgt := 240) hx hb d_M_worked_205 (by decide) (fun c_1 => ?_) (fun c_1 => ?_)
    · rw [if_pos c_1] at h
      refine lv_goto (tgt := 313) hx hb d_M_worked_240 (by decide) ?_
      exact w_M_worked_313 C0 hr  _ _ _ _ _ h hH (lv_sub hl [0, 1] rfl)
    · rw [if_neg c_1] at h
      refine lv_aload_n hx hb d_M_worked_208 rfl (lv_at hl 0 rfl) ?_
      refine lv_iload_n hx hb d_M_worked_209 rfl (lv_at hl 1 rfl) ?_
      refine lv_aload_n hx hb d_M_worked_210 rfl (lv_at hl 0 rfl) ?_
      refine lv_aload_n hx hb d_M_worked_211 rfl (lv_at hl 0 rfl) ?_
      refine mo_r_got C0 hH d_M_worked_212 ?_
      refine lv_iload hx hb d_M_worked_215 (lv_at hl 2 rfl) ?_
      obtain ⟨g_2, h⟩ := gd_out h
      refine mo_ld 26 (by decide) (by decide) C0 hH (inB_in g_2) d_M_worked_217 ?_
      obtain ⟨r_5, v_3, hc_4, h⟩ := bi_out h
      refine mo_ci (r := r_5) (w := v_3) (as := [.int (v 26 (x5 : Int32).toNatClampNeg)]) (rest := [.int x1, .ref (q 0)]) C0 hH (c_M_good hc_4) yy_M_good q_1174 q_109 (by decide) rfl hl.1 rfl (Nat.le_of_ble_eq_true rfl) ⟨Nat.zero_le _, Nat.zero_le _⟩ d_M_worked_218 (fun H locs hH => ?_)
      refine lv_if_eq (tgt := 229) hx hb d_M_worked_221 (by decide) (fun c_6 => ?_) (fun c_6 => ?_)
      · rw [if_pos c_6] at h
        refine lv_bipush (v := 8) hx hb d_M_worked_229 (by decide) ?_
        exact w_M_worked_231 C0 hr ih _ _ _ _ _ _ _ _ h hH (lv_sub hl [0, 1, 2] rfl)
      · rw [if_neg c_6] at h
        refine lv_bipush (v := 12) hx hb d_M_worked_224 (by decide) ?_
        refine lv_goto (tgt := 231) hx hb d_M_worked_226 (by decide) ?_
        exact w_M_worked_231 C0 hr ih _ _ _ _ _ _ _ _ h hH (lv_sub hl [0, 1, 2] rfl)
def f_M_worked_196  (x1 : Int32) (v : mS) : Option (mS) := f_M_worked_199 fu x1 0 v
set_option maxHeartbeats 4000000 in
set_option maxRecDepth 100000 in
theorem w_M_worked_196 {p : Program} {l : Launch} {e : Env} {s : State} {m : MethodId} {args : Array Value} {below : List Frame} {meth : Method} {c : Code} {D : va_G} {cI : ClassId} {A : Nat → Prop} {q : Nat → Nat} {o : mS} (C0 : mo_C b_M_worked 7 D cI A p s m args meth c) (hr : meth.sig.returnType = none) : ∀ (x1 : Int32) (v : mS) (H : Heap) (locs : List Loc) (ls : Array Slot), f_M_worked_196  x1 v = some o → mo_H D cI A s q v H locs → lv_has ls 7 [(0, .ref (q 0)), (1, .int x1)] → W p l e (mo_rm 7) s m args below meth c H locs 0 0 (MQ below (mo_Qv D cI q o A) args s 0 0 A) (F0 m 196 ls []) := by
  have hx := C0.1
  have hb := C0.2.1
  intro x1 v H locs ls h hH hl
  unfold f_M_worked_196 at h
  refine lv_iconst (v := 0) hx hb d_M_worked_196 (by decide) ?_
  refine lv_istore (lv' := [(5, .int 0), (0, .ref (q 0)), (1, .int x1)]) hx hb d_M_worked_197 hl (by decide) rfl (fun ls hl => ?_)
  exact w_M_worked_199 C0 hr  fu _ _ _ _ _ _ h hH (lv_sub hl [1, 2, 0] rfl)
def f_M_worked_304  (x1 : Int32) (y1 : Int32) (y2 : Int32) (v : mS) : Option (mS) := gd (inB y1 10) (nm (sU v 21 (y1 : Int32).toNatClampNeg y2) fun v_2 => f_M_worked_313 x1 v_2)
set_option maxHeartbeats 4000000 in
set_option maxRecDepth 100000 in
theorem w_M_worked_304 {p : Program} {l : Launch} {e : Env} {s : State} {m : MethodId} {args : Array Value} {below : List Frame} {meth : Method} {c : Code} {D : va_G} {cI : ClassId} {A : Nat → Prop} {q : Nat → Nat} {o : mS} (C0 : mo_C b_M_worked 7 D cI A p s m args meth c) (hr : meth.sig.returnType = none) : ∀ (x1 : Int32) (y1 : Int32) (y2 : Int32) (v : mS) (H : Heap) (locs : List Loc) (ls : Array Slot), f_M_worked_304  x1 y1 y2 v = some o → mo_H D cI A s q v H locs → lv_has ls 7 [(0, .ref (q 0)), (1, .int x1)] → W p l e (mo_rm 7) s m args below meth c H locs 0 0 (MQ below (mo_Qv D cI q o A) args s 0 0 A) (F0 m 304 ls [.int y2, .int y1, .ref (q 21)]) := by
  have hx := C0.1
  have hb := C0.2.1
  intro x1 y1 y2 v H locs ls h hH hl
  unfold f_M_worked_304 at h
  obtain ⟨g_1, h⟩ := gd_out h
  obtain ⟨v_2, hv_2, h⟩ := nm_out h
  refine mo_st 21 (by decide) (by decide) C0 hH (inB_in g_1) d_M_worked_304 (fun H locs hH => ?_)
  rw [← hv_2] at hH
  refine lv_goto (tgt := 313) hx hb d_M_worked_305 (by decide) ?_
  exact w_M_worked_313 C0 hr  _ _ _ _ _ h hH (lv_sub hl [0, 1] rfl)
def f_M_worked_308  (x1 : Int32) (v : mS) : Option (mS) := bv (f_M_take v x1) fun v_1 => f_M_worked_313 x1 v_1
set_option maxHeartbeats 4000000 in
set_option maxRecDepth 100000 in
theorem w_M_worked_308 {p : Program} {l : Launch} {e : Env} {s : State} {m : MethodId} {args : Array Value} {below : List Frame} {meth : Method} {c : Code} {D : va_G} {cI : ClassId} {A : Nat → Prop} {q : Nat → Nat} {o : mS} (C0 : mo_C b_M_worked 7 D cI A p s m args meth c) (hr : meth.sig.returnType = none) : ∀ (x1 : Int32) (v : mS) (H : Heap) (locs : List Loc) (ls : Array Slot), f_M_worked_308  x1 v = some o → mo_H D cI A s q v H locs → lv_has ls 7 [(0, .ref (q 0)), (1, .int x1)] → W p l e (mo_rm 7) s m args below meth c H locs 0 0 (MQ below (mo_Qv D cI q o A) args s 0 0 A) (F0 m 308 ls []) := by
  have hx := C0.1
  have hb := C0.2.1
  intro x1 v H locs ls h hH hl
  unfold f_M_worked_308 at h
  refine lv_aload_n hx hb d_M_worked_308 rfl (lv_at hl 0 rfl) ?_
  refine lv_iload_n hx hb d_M_worked_309 rfl (lv_at hl 1 rfl) ?_
  obtain ⟨v_1, hc_2, h⟩ := bv_out h
  refine mo_cv (w := v_1) (as := [.int x1]) (rest := []) C0 hH (c_M_take hc_2) yy_M_take q_1259 q_109 (by decide) rfl hl.1 rfl (Nat.le_of_ble_eq_true rfl) ⟨Nat.zero_le _, Nat.zero_le _⟩ d_M_worked_310 (fun H locs hH => ?_)
  exact w_M_worked_313 C0 hr  _ _ _ _ _ h hH (lv_sub hl [0, 1] rfl)
def f_M_worked (v : mS) (x1 : Int32) (x2 : Int32) : Option (mS) := gd (inB x1 10) (gd (inB ((17 * x1) + (v 18 (x1 : Int32).toNatClampNeg)) 170) (nm (v 23 ((17 * x1) + (v 18 (x1 : Int32).toNatClampNeg) : Int32).toNatClampNeg) fun x3_3 => gd (inB x1 10) (gd (inB (v 15 (x1 : Int32).toNatClampNeg) 128) (nm (v 4 (v 15 (x1 : Int32).toNatClampNeg : Int32).toNatClampNeg) fun x4_6 => gd (inB x1 10) (gd (inB x1 10) (nm (sU v 18 (x1 : Int32).toNatClampNeg ((v 18 (x1 : Int32).toNatClampNeg) + 1)) fun v_9 => gd (inB x1 10) (nm (sU v_9 17 (x1 : Int32).toNatClampNeg 2) fun v_11 => if x2 = 12 then (f_M_worked_108 x1 x2 x3_3 x4_6 v_11) else if x2 = 13 then (f_M_worked_108 x1 x2 x3_3 x4_6 v_11) else if x2 = 14 then (f_M_worked_196 x1 v_11) else if x2 = 15 then (f_M_worked_196 x1 v_11) else if x2 = 16 then (f_M_worked_308 x1 v_11) else if x2 = 17 then (f_M_worked_308 x1 v_11) else if x2 = 18 then (f_M_worked_308 x1 v_11) else if x2 = 19 then (f_M_worked_308 x1 v_11) else if x2 = 20 then (gd (inB x1 10) (gd (inB x4_6 4) (nm (sU v_11 14 (x4_6 : Int32).toNatClampNeg (v_11 22 (x1 : Int32).toNatClampNeg)) fun v_22 => bv (f_M_take v_22 x1) fun v_23 => f_M_worked_313 x1 v_23))) else if x2 = 21 then (f_M_worked_308 x1 v_11) else if x2 = 22 then (gd (inB x1 10) (gd (inB x4_6 4) (nm (sU v_11 14 (x4_6 : Int32).toNatClampNeg (v_11 22 (x1 : Int32).toNatClampNeg)) fun v_29 => if (v_29 0 37) ≤ 0 then (f_M_worked_304 x1 x1 4 v_29) else (gd (inB ((v_29 0 37) - 1) 17) (f_M_worked_304 x1 x1 (v_29 26 ((v_29 0 37) - 1 : Int32).toNatClampNeg) v_29))))) else (f_M_worked_308 x1 v_11))))))))
set_option maxHeartbeats 4000000 in
set_option maxRecDepth 100000 in
theorem c_M_worked {l : Launch} {D : va_G} {cI : ClassId} {q : Nat → Nat} {v : mS} {x1 : Int32} {x2 : Int32} {o : mS} (h : f_M_worked v x1 x2 = some o) : mo_M l D cI q 7 y_M_worked b_M_worked 7 none [.ref (q 0), .int x1, .int x2] v (mo_Qv D cI q o) := by
  refine mo_of (by decide +kernel) rfl (Nat.le_of_ble_eq_true rfl) ?_
  intro p e s m below meth c A ls C0 hr hl hH
  have hx := C0.1
  have hb := C0.2.1
  have hl : lv_has ls 7 [(0, .ref (q 0)), (1, .int x1), (2, .int x2)] := hl
  unfold f_M_worked at h
  refine lv_aload_n hx hb d_M_worked_0 rfl (lv_at hl 0 rfl) ?_
  refine mo_r_row C0 hH d_M_worked_1 ?_
  refine lv_bipush (v := 17) hx hb d_M_worked_4 (by decide) ?_
  refine lv_iload_n hx hb d_M_worked_6 rfl (lv_at hl 1 rfl) ?_
  refine lv_imul hx hb d_M_worked_7 ?_
  refine lv_aload_n hx hb d_M_worked_8 rfl (lv_at hl 0 rfl) ?_
  refine mo_r_at C0 hH d_M_worked_9 ?_
  refine lv_iload_n hx hb d_M_worked_12 rfl (lv_at hl 1 rfl) ?_
  obtain ⟨g_1, h⟩ := gd_out h
  refine mo_ld 18 (by decide) (by decide) C0 hH (inB_in g_1) d_M_worked_13 ?_
  refine lv_iadd hx hb d_M_worked_14 ?_
  obtain ⟨g_2, h⟩ := gd_out h
  refine mo_ld 23 (by decide) (by decide) C0 hH (inB_in g_2) d_M_worked_15 ?_
  obtain ⟨x3_3, hx3_3, h⟩ := nm_out h
  refine fu_i hx3_3 ?_
  refine lv_istore_n (lv' := [(3, .int x3_3), (0, .ref (q 0)), (1, .int x1), (2, .int x2)]) hx hb d_M_worked_16 rfl hl (by decide) rfl (fun ls hl => ?_)
  refine lv_aload_n hx hb d_M_worked_17 rfl (lv_at hl 1 rfl) ?_
  refine mo_r_arg C0 hH d_M_worked_18 ?_
  refine lv_aload_n hx hb d_M_worked_21 rfl (lv_at hl 1 rfl) ?_
  refine mo_r_tok C0 hH d_M_worked_22 ?_
  refine lv_iload_n hx hb d_M_worked_25 rfl (lv_at hl 2 rfl) ?_
  obtain ⟨g_4, h⟩ := gd_out h
  refine mo_ld 15 (by decide) (by decide) C0 hH (inB_in g_4) d_M_worked_26 ?_
  obtain ⟨g_5, h⟩ := gd_out h
  refine mo_ld 4 (by decide) (by decide) C0 hH (inB_in g_5) d_M_worked_27 ?_
  obtain ⟨x4_6, hx4_6, h⟩ := nm_out h
  refine fu_i hx4_6 ?_
  refine lv_istore (lv' := [(4, .int x4_6), (3, .int x3_3), (0, .ref (q 0)), (1, .int x1), (2, .int x2)]) hx hb d_M_worked_28 hl (by decide) rfl (fun ls hl => ?_)
  refine lv_aload_n hx hb d_M_worked_30 rfl (lv_at hl 2 rfl) ?_
  refine mo_r_at C0 hH d_M_worked_31 ?_
  refine lv_iload_n hx hb d_M_worked_34 rfl (lv_at hl 3 rfl) ?_
  refine lv_dup2_11 hx hb d_M_worked_35 rfl rfl ?_
  obtain ⟨g_7, h⟩ := gd_out h
  refine mo_ld 18 (by decide) (by decide) C0 hH (inB_in g_7) d_M_worked_36 ?_
  refine lv_iconst (v := 1) hx hb d_M_worked_37 (by decide) ?_
  refine lv_iadd hx hb d_M_worked_38 ?_
  obtain ⟨g_8, h⟩ := gd_out h
  obtain ⟨v_9, hv_9, h⟩ := nm_out h
  refine mo_st 18 (by decide) (by decide) C0 hH (inB_in g_8) d_M_worked_39 (fun H locs hH => ?_)
  rw [← hv_9] at hH
  refine lv_aload_n hx hb d_M_worked_40 rfl (lv_at hl 2 rfl) ?_
  refine mo_r_phase C0 hH d_M_worked_41 ?_
  refine lv_iload_n hx hb d_M_worked_44 rfl (lv_at hl 3 rfl) ?_
  refine lv_iconst (v := 2) hx hb d_M_worked_45 (by decide) ?_
  obtain ⟨g_10, h⟩ := gd_out h
  obtain ⟨v_11, hv_11, h⟩ := nm_out h
  refine mo_st 17 (by decide) (by decide) C0 hH (inB_in g_10) d_M_worked_46 (fun H locs hH => ?_)
  rw [← hv_11] at hH
  refine lv_iload_n hx hb d_M_worked_47 rfl (lv_at hl 4 rfl) ?_
  by_cases e_12 : x2 = 12
  · rw [if_pos e_12] at h
    refine fu_hit (tgt := 108) 12 e_12 hx hb d_M_worked_48 (by decide) (by decide) rfl (by decide) ?_
    exact w_M_worked_108 C0 hr  _ _ _ _ _ _ _ _ h hH (lv_sub hl [2, 3, 4, 1, 0] rfl)
  rw [if_neg e_12] at h
  by_cases e_13 : x2 = 13
  · rw [if_pos e_13] at h
    refine fu_hit (tgt := 108) 13 e_13 hx hb d_M_worked_48 (by decide) (by decide) rfl (by decide) ?_
    exact w_M_worked_108 C0 hr  _ _ _ _ _ _ _ _ h hH (lv_sub hl [2, 3, 4, 1, 0] rfl)
  rw [if_neg e_13] at h
  by_cases e_14 : x2 = 14
  · rw [if_pos e_14] at h
    refine fu_hit (tgt := 196) 14 e_14 hx hb d_M_worked_48 (by decide) (by decide) rfl (by decide) ?_
    exact w_M_worked_196 C0 hr  _ _ _ _ _ h hH (lv_sub hl [2, 3] rfl)
  rw [if_neg e_14] at h
  by_cases e_15 : x2 = 15
  · rw [if_pos e_15] at h
    refine fu_hit (tgt := 196) 15 e_15 hx hb d_M_worked_48 (by decide) (by decide) rfl (by decide) ?_
    exact w_M_worked_196 C0 hr  _ _ _ _ _ h hH (lv_sub hl [2, 3] rfl)
  rw [if_neg e_15] at h
  by_cases e_16 : x2 = 16
  · rw [if_pos e_16] at h
    refine fu_hit (tgt := 308) 16 e_16 hx hb d_M_worked_48 (by decide) (by decide) rfl (by decide) ?_
    exact w_M_worked_308 C0 hr  _ _ _ _ _ h hH (lv_sub hl [2, 3] rfl)
  rw [if_neg e_16] at h
  by_cases e_17 : x2 = 17
  · rw [if_pos e_17] at h
    refine fu_hit (tgt := 308) 17 e_17 hx hb d_M_worked_48 (by decide) (by decide) rfl (by decide) ?_
    exact w_M_worked_308 C0 hr  _ _ _ _ _ h hH (lv_sub hl [2, 3] rfl)
  rw [if_neg e_17] at h
  by_cases e_18 : x2 = 18
  · rw [if_pos e_18] at h
    refine fu_hit (tgt := 308) 18 e_18 hx hb d_M_worked_48 (by decide) (by decide) rfl (by decide) ?_
    exact w_M_worked_308 C0 hr  _ _ _ _ _ h hH (lv_sub hl [2, 3] rfl)
  rw [if_neg e_18] at h
  by_cases e_19 : x2 = 19
  · rw [if_pos e_19] at h
    refine fu_hit (tgt := 308) 19 e_19 hx hb d_M_worked_48 (by decide) (by decide) rfl (by decide) ?_
    exact w_M_worked_308 C0 hr  _ _ _ _ _ h hH (lv_sub hl [2, 3] rfl)
  rw [if_neg e_19] at h
  by_cases e_25 : x2 = 20
  · rw [if_pos e_25] at h
    refine fu_hit (tgt := 243) 20 e_25 hx hb d_M_worked_48 (by decide) (by decide) rfl (by decide) ?_
    refine lv_aload_n hx hb d_M_worked_243 rfl (lv_at hl 2 rfl) ?_
    refine mo_r_variable C0 hH d_M_worked_244 ?_
    refine lv_iload hx hb d_M_worked_247 (lv_at hl 0 rfl) ?_
    refine lv_aload_n hx hb d_M_worked_249 rfl (lv_at hl 2 rfl) ?_
    refine mo_r_saved C0 hH d_M_worked_250 ?_
    refine lv_iload_n hx hb d_M_worked_253 rfl (lv_at hl 3 rfl) ?_
    obtain ⟨g_20, h⟩ := gd_out h
    refine mo_ld 22 (by decide) (by decide) C0 hH (inB_in g_20) d_M_worked_254 ?_
    obtain ⟨g_21, h⟩ := gd_out h
    obtain ⟨v_22, hv_22, h⟩ := nm_out h
    refine mo_st 14 (by decide) (by decide) C0 hH (inB_in g_21) d_M_worked_255 (fun H locs hH => ?_)
    rw [← hv_22] at hH
    refine lv_aload_n hx hb d_M_worked_256 rfl (lv_at hl 2 rfl) ?_
    refine lv_iload_n hx hb d_M_worked_257 rfl (lv_at hl 3 rfl) ?_
    obtain ⟨v_23, hc_24, h⟩ := bv_out h
    refine mo_cv (w := v_23) (as := [.int x1]) (rest := []) C0 hH (c_M_take hc_24) yy_M_take q_1259 q_109 (by decide) rfl hl.1 rfl (Nat.le_of_ble_eq_true rfl) ⟨Nat.zero_le _, Nat.zero_le _⟩ d_M_worked_258 (fun H locs hH => ?_)
    refine lv_goto (tgt := 313) hx hb d_M_worked_261 (by decide) ?_
    exact w_M_worked_313 C0 hr  _ _ _ _ _ h hH (lv_sub hl [2, 3] rfl)
  rw [if_neg e_25] at h
  by_cases e_26 : x2 = 21
  · rw [if_pos e_26] at h
    refine fu_hit (tgt := 308) 21 e_26 hx hb d_M_worked_48 (by decide) (by decide) rfl (by decide) ?_
    exact w_M_worked_308 C0 hr  _ _ _ _ _ h hH (lv_sub hl [2, 3] rfl)
  rw [if_neg e_26] at h
  by_cases e_32 : x2 = 22
  · rw [if_pos e_32] at h
    refine fu_hit (tgt := 264) 22 e_32 hx hb d_M_worked_48 (by decide) (by decide) rfl (by decide) ?_
    refine lv_aload_n hx hb d_M_worked_264 rfl (lv_at hl 2 rfl) ?_
    refine mo_r_variable C0 hH d_M_worked_265 ?_
    refine lv_iload hx hb d_M_worked_268 (lv_at hl 0 rfl) ?_
    refine lv_aload_n hx hb d_M_worked_270 rfl (lv_at hl 2 rfl) ?_
    refine mo_r_saved C0 hH d_M_worked_271 ?_
    refine lv_iload_n hx hb d_M_worked_274 rfl (lv_at hl 3 rfl) ?_
    obtain ⟨g_27, h⟩ := gd_out h
    refine mo_ld 22 (by decide) (by decide) C0 hH (inB_in g_27) d_M_worked_275 ?_
    obtain ⟨g_28, h⟩ := gd_out h
    obtain ⟨v_29, hv_29, h⟩ := nm_out h
    refine mo_st 14 (by decide) (by decide) C0 hH (inB_in g_28) d_M_worked_276 (fun H locs hH => ?_)
    rw [← hv_29] at hH
    refine lv_aload_n hx hb d_M_worked_277 rfl (lv_at hl 2 rfl) ?_
    refine mo_r_held C0 hH d_M_worked_278 ?_
    refine lv_iload_n hx hb d_M_worked_281 rfl (lv_at hl 3 rfl) ?_
    refine lv_aload_n hx hb d_M_worked_282 rfl (lv_at hl 2 rfl) ?_
    refine mo_g_gots C0 hH d_M_worked_283 ?_
    refine lv_if_le (tgt := 303) hx hb d_M_worked_286 (by decide) (fun c_30 => ?_) (fun c_30 => ?_)
    · rw [if_pos c_30] at h
      refine lv_iconst (v := 4) hx hb d_M_worked_303 (by decide) ?_
      exact w_M_worked_304 C0 hr  _ _ _ _ _ _ _ h hH (lv_sub hl [2, 3] rfl)
    · rw [if_neg c_30] at h
      refine lv_aload_n hx hb d_M_worked_289 rfl (lv_at hl 2 rfl) ?_
      refine mo_r_got C0 hH d_M_worked_290 ?_
      refine lv_aload_n hx hb d_M_worked_293 rfl (lv_at hl 2 rfl) ?_
      refine mo_g_gots C0 hH d_M_worked_294 ?_
      refine lv_iconst (v := 1) hx hb d_M_worked_297 (by decide) ?_
      refine lv_isub hx hb d_M_worked_298 ?_
      obtain ⟨g_31, h⟩ := gd_out h
      refine mo_ld 26 (by decide) (by decide) C0 hH (inB_in g_31) d_M_worked_299 ?_
      refine lv_goto (tgt := 304) hx hb d_M_worked_300 (by decide) ?_
      exact w_M_worked_304 C0 hr  _ _ _ _ _ _ _ h hH (lv_sub hl [2, 3] rfl)
  rw [if_neg e_32] at h
  refine lv_tableOut (tgt := 308) hx hb d_M_worked_48 (fu_out 11 (by decide) (fun k9 hk9 => match k9, hk9 with | 0, _ => lv_neT e_12 (by decide) | 1, _ => lv_neT e_13 (by decide) | 2, _ => lv_neT e_14 (by decide) | 3, _ => lv_neT e_15 (by decide) | 4, _ => lv_neT e_16 (by decide) | 5, _ => lv_neT e_17 (by decide) | 6, _ => lv_neT e_18 (by decide) | 7, _ => lv_neT e_19 (by decide) | 8, _ => lv_neT e_25 (by decide) | 9, _ => lv_neT e_26 (by decide) | 10, _ => lv_neT e_32 (by decide) | k9 + 11, hk9 => absurd hk9 (by omega))) (by decide) ?_
  exact w_M_worked_308 C0 hr  _ _ _ _ _ h hH (lv_sub hl [2, 3] rfl)
theorem yy_M_step : mo_Y y_M_step b_M_step 3 none 1 := ⟨rfl, q_1101, q_46, q_1102, by decide +kernel⟩
def f_M_step_117   (v : mS) : Option (mS) := some v
set_option maxHeartbeats 4000000 in
set_option maxRecDepth 100000 in
theorem w_M_step_117 {p : Program} {l : Launch} {e : Env} {s : State} {m : MethodId} {args : Array Value} {below : List Frame} {meth : Method} {c : Code} {D : va_G} {cI : ClassId} {A : Nat → Prop} {q : Nat → Nat} {o : mS} (C0 : mo_C b_M_step 3 D cI A p s m args meth c) (hr : meth.sig.returnType = none) : ∀  (v : mS) (H : Heap) (locs : List Loc) (ls : Array Slot), f_M_step_117   v = some o → mo_H D cI A s q v H locs → lv_has ls 3 [] → W p l e (mo_rm 8) s m args below meth c H locs 0 0 (MQ below (mo_Qv D cI q o A) args s 0 0 A) (F0 m 117 ls []) := by
  have hx := C0.1
  have hb := C0.2.1
  intro  v H locs ls h hH hl
  unfold f_M_step_117 at h
  exact mo_vret C0 hr hH d_M_step_117 h
def f_M_step (v : mS) (x1 : Int32) : Option (mS) := gd (inB x1 10) (gd (inB (v 15 (x1 : Int32).toNatClampNeg) 128) (nm (v 3 (v 15 (x1 : Int32).toNatClampNeg : Int32).toNatClampNeg) fun x2_3 => bi (f_M_parts v x2_3) fun r_6 v_4 => if r_6 = 0 then (bv (f_M_leaf v_4 x1 x2_3) fun v_28 => f_M_step_117 v_28) else (gd (inB x1 10) (if (v_4 17 (x1 : Int32).toNatClampNeg) = 0 then (bv (f_M_first v_4 x1 x2_3) fun v_26 => f_M_step_117 v_26) else (gd (inB x1 10) (if (v_4 17 (x1 : Int32).toNatClampNeg) = 1 then (bv (f_M_came v_4 x1 x2_3) fun v_24 => f_M_step_117 v_24) else (gd (inB x1 10) (if (v_4 17 (x1 : Int32).toNatClampNeg) = 2 then (bv (f_M_next v_4 x1 x2_3) fun v_22 => f_M_step_117 v_22) else (gd (inB x1 10) (if (v_4 17 (x1 : Int32).toNatClampNeg) = 3 then (bv (f_M_worked v_4 x1 x2_3) fun v_20 => f_M_step_117 v_20) else (bv (f_M_take v_4 x1) fun v_16 => bv (f_M_end v_16 x1 (v_16 0 38)) fun v_18 => f_M_step_117 v_18)))))))))))
set_option maxHeartbeats 4000000 in
set_option maxRecDepth 100000 in
theorem c_M_step {l : Launch} {D : va_G} {cI : ClassId} {q : Nat → Nat} {v : mS} {x1 : Int32} {o : mS} (h : f_M_step v x1 = some o) : mo_M l D cI q 8 y_M_step b_M_step 3 none [.ref (q 0), .int x1] v (mo_Qv D cI q o) := by
  refine mo_of (by decide +kernel) rfl (Nat.le_of_ble_eq_true rfl) ?_
  intro p e s m below meth c A ls C0 hr hl hH
  have hx := C0.1
  have hb := C0.2.1
  have hl : lv_has ls 3 [(0, .ref (q 0)), (1, .int x1)] := hl
  unfold f_M_step at h
  refine lv_aload_n hx hb d_M_step_0 rfl (lv_at hl 0 rfl) ?_
  refine mo_r_op C0 hH d_M_step_1 ?_
  refine lv_aload_n hx hb d_M_step_4 rfl (lv_at hl 0 rfl) ?_
  refine mo_r_tok C0 hH d_M_step_5 ?_
  refine lv_iload_n hx hb d_M_step_8 rfl (lv_at hl 1 rfl) ?_
  obtain ⟨g_1, h⟩ := gd_out h
  refine mo_ld 15 (by decide) (by decide) C0 hH (inB_in g_1) d_M_step_9 ?_
  obtain ⟨g_2, h⟩ := gd_out h
  refine mo_ld 3 (by decide) (by decide) C0 hH (inB_in g_2) d_M_step_10 ?_
  obtain ⟨x2_3, hx2_3, h⟩ := nm_out h
  refine fu_i hx2_3 ?_
  refine lv_istore_n (lv' := [(2, .int x2_3), (0, .ref (q 0)), (1, .int x1)]) hx hb d_M_step_11 rfl hl (by decide) rfl (fun ls hl => ?_)
  refine lv_iload_n hx hb d_M_step_12 rfl (lv_at hl 0 rfl) ?_
  obtain ⟨r_6, v_4, hc_5, h⟩ := bi_out h
  refine mo_si (r := r_6) (w := v_4) (as := [.int x2_3]) (rest := []) C0 hH (c_M_parts hc_5) yy_M_parts q_1076 q_109 (by decide) rfl hl.1 rfl (Nat.le_of_ble_eq_true rfl) ⟨Nat.zero_le _, Nat.zero_le _⟩ d_M_step_13 (fun H locs hH => ?_)
  refine lv_if_ne (tgt := 28) hx hb d_M_step_16 (by decide) (fun c_7 => ?_) (fun c_7 => ?_)
  · rw [if_neg c_7] at h
    refine lv_aload_n hx hb d_M_step_28 rfl (lv_at hl 1 rfl) ?_
    refine mo_r_phase C0 hH d_M_step_29 ?_
    refine lv_iload_n hx hb d_M_step_32 rfl (lv_at hl 2 rfl) ?_
    obtain ⟨g_8, h⟩ := gd_out h
    refine mo_ld 17 (by decide) (by decide) C0 hH (inB_in g_8) d_M_step_33 ?_
    refine lv_if_ne (tgt := 46) hx hb d_M_step_34 (by decide) (fun c_9 => ?_) (fun c_9 => ?_)
    · rw [if_neg c_9] at h
      refine lv_aload_n hx hb d_M_step_46 rfl (lv_at hl 1 rfl) ?_
      refine mo_r_phase C0 hH d_M_step_47 ?_
      refine lv_iload_n hx hb d_M_step_50 rfl (lv_at hl 2 rfl) ?_
      obtain ⟨g_10, h⟩ := gd_out h
      refine mo_ld 17 (by decide) (by decide) C0 hH (inB_in g_10) d_M_step_51 ?_
      refine lv_iconst (v := 1) hx hb d_M_step_52 (by decide) ?_
      refine lv_icmp_ne (tgt := 65) hx hb d_M_step_53 (by decide) (fun c_11 => ?_) (fun c_11 => ?_)
      · rw [if_neg c_11] at h
        refine lv_aload_n hx hb d_M_step_65 rfl (lv_at hl 1 rfl) ?_
        refine mo_r_phase C0 hH d_M_step_66 ?_
        refine lv_iload_n hx hb d_M_step_69 rfl (lv_at hl 2 rfl) ?_
        obtain ⟨g_12, h⟩ := gd_out h
        refine mo_ld 17 (by decide) (by decide) C0 hH (inB_in g_12) d_M_step_70 ?_
        refine lv_iconst (v := 2) hx hb d_M_step_71 (by decide) ?_
        refine lv_icmp_ne (tgt := 84) hx hb d_M_step_72 (by decide) (fun c_13 => ?_) (fun c_13 => ?_)
        · rw [if_neg c_13] at h
          refine lv_aload_n hx hb d_M_step_84 rfl (lv_at hl 1 rfl) ?_
          refine mo_r_phase C0 hH d_M_step_85 ?_
          refine lv_iload_n hx hb d_M_step_88 rfl (lv_at hl 2 rfl) ?_
          obtain ⟨g_14, h⟩ := gd_out h
          refine mo_ld 17 (by decide) (by decide) C0 hH (inB_in g_14) d_M_step_89 ?_
          refine lv_iconst (v := 3) hx hb d_M_step_90 (by decide) ?_
          refine lv_icmp_ne (tgt := 103) hx hb d_M_step_91 (by decide) (fun c_15 => ?_) (fun c_15 => ?_)
          · rw [if_neg c_15] at h
            refine lv_aload_n hx hb d_M_step_103 rfl (lv_at hl 1 rfl) ?_
            refine lv_iload_n hx hb d_M_step_104 rfl (lv_at hl 2 rfl) ?_
            obtain ⟨v_16, hc_17, h⟩ := bv_out h
            refine mo_cv (w := v_16) (as := [.int x1]) (rest := []) C0 hH (c_M_take hc_17) yy_M_take q_1259 q_109 (by decide) rfl hl.1 rfl (Nat.le_of_ble_eq_true rfl) ⟨Nat.zero_le _, Nat.zero_le _⟩ d_M_step_105 (fun H locs hH => ?_)
            refine lv_aload_n hx hb d_M_step_108 rfl (lv_at hl 1 rfl) ?_
            refine lv_iload_n hx hb d_M_step_109 rfl (lv_at hl 2 rfl) ?_
            refine lv_aload_n hx hb d_M_step_110 rfl (lv_at hl 1 rfl) ?_
            refine mo_g_gotError C0 hH d_M_step_111 ?_
            obtain ⟨v_18, hc_19, h⟩ := bv_out h
            refine mo_cv (w := v_18) (as := [.int x1, .int (v_16 0 38)]) (rest := []) C0 hH (c_M_end hc_19) yy_M_end q_1200 q_109 (by decide) rfl hl.1 rfl (Nat.le_of_ble_eq_true rfl) ⟨Nat.zero_le _, Nat.zero_le _⟩ d_M_step_114 (fun H locs hH => ?_)
            exact w_M_step_117 C0 hr   _ _ _ _ h hH (lv_sub hl [] rfl)
          · rw [if_pos c_15] at h
            refine lv_aload_n hx hb d_M_step_94 rfl (lv_at hl 1 rfl) ?_
            refine lv_iload_n hx hb d_M_step_95 rfl (lv_at hl 2 rfl) ?_
            refine lv_iload_n hx hb d_M_step_96 rfl (lv_at hl 0 rfl) ?_
            obtain ⟨v_20, hc_21, h⟩ := bv_out h
            refine mo_cv (w := v_20) (as := [.int x1, .int x2_3]) (rest := []) C0 hH (c_M_worked hc_21) yy_M_worked q_1299 q_109 (by decide) rfl hl.1 rfl (Nat.le_of_ble_eq_true rfl) ⟨Nat.zero_le _, Nat.zero_le _⟩ d_M_step_97 (fun H locs hH => ?_)
            refine lv_goto (tgt := 117) hx hb d_M_step_100 (by decide) ?_
            exact w_M_step_117 C0 hr   _ _ _ _ h hH (lv_sub hl [] rfl)
        · rw [if_pos c_13] at h
          refine lv_aload_n hx hb d_M_step_75 rfl (lv_at hl 1 rfl) ?_
          refine lv_iload_n hx hb d_M_step_76 rfl (lv_at hl 2 rfl) ?_
          refine lv_iload_n hx hb d_M_step_77 rfl (lv_at hl 0 rfl) ?_
          obtain ⟨v_22, hc_23, h⟩ := bv_out h
          refine mo_cv (w := v_22) (as := [.int x1, .int x2_3]) (rest := []) C0 hH (c_M_next hc_23) yy_M_next q_1275 q_109 (by decide) rfl hl.1 rfl (Nat.le_of_ble_eq_true rfl) ⟨Nat.zero_le _, Nat.zero_le _⟩ d_M_step_78 (fun H locs hH => ?_)
          refine lv_goto (tgt := 117) hx hb d_M_step_81 (by decide) ?_
          exact w_M_step_117 C0 hr   _ _ _ _ h hH (lv_sub hl [] rfl)
      · rw [if_pos c_11] at h
        refine lv_aload_n hx hb d_M_step_56 rfl (lv_at hl 1 rfl) ?_
        refine lv_iload_n hx hb d_M_step_57 rfl (lv_at hl 2 rfl) ?_
        refine lv_iload_n hx hb d_M_step_58 rfl (lv_at hl 0 rfl) ?_
        obtain ⟨v_24, hc_25, h⟩ := bv_out h
        refine mo_cv (w := v_24) (as := [.int x1, .int x2_3]) (rest := []) C0 hH (c_M_came hc_25) yy_M_came q_1255 q_109 (by decide) rfl hl.1 rfl (Nat.le_of_ble_eq_true rfl) ⟨Nat.zero_le _, Nat.zero_le _⟩ d_M_step_59 (fun H locs hH => ?_)
        refine lv_goto (tgt := 117) hx hb d_M_step_62 (by decide) ?_
        exact w_M_step_117 C0 hr   _ _ _ _ h hH (lv_sub hl [] rfl)
    · rw [if_pos c_9] at h
      refine lv_aload_n hx hb d_M_step_37 rfl (lv_at hl 1 rfl) ?_
      refine lv_iload_n hx hb d_M_step_38 rfl (lv_at hl 2 rfl) ?_
      refine lv_iload_n hx hb d_M_step_39 rfl (lv_at hl 0 rfl) ?_
      obtain ⟨v_26, hc_27, h⟩ := bv_out h
      refine mo_cv (w := v_26) (as := [.int x1, .int x2_3]) (rest := []) C0 hH (c_M_first hc_27) yy_M_first q_1243 q_109 (by decide) rfl hl.1 rfl (Nat.le_of_ble_eq_true rfl) ⟨Nat.zero_le _, Nat.zero_le _⟩ d_M_step_40 (fun H locs hH => ?_)
      refine lv_goto (tgt := 117) hx hb d_M_step_43 (by decide) ?_
      exact w_M_step_117 C0 hr   _ _ _ _ h hH (lv_sub hl [] rfl)
  · rw [if_pos c_7] at h
    refine lv_aload_n hx hb d_M_step_19 rfl (lv_at hl 1 rfl) ?_
    refine lv_iload_n hx hb d_M_step_20 rfl (lv_at hl 2 rfl) ?_
    refine lv_iload_n hx hb d_M_step_21 rfl (lv_at hl 0 rfl) ?_
    obtain ⟨v_28, hc_29, h⟩ := bv_out h
    refine mo_cv (w := v_28) (as := [.int x1, .int x2_3]) (rest := []) C0 hH (c_M_leaf hc_29) yy_M_leaf q_1103 q_109 (by decide) rfl hl.1 rfl (Nat.le_of_ble_eq_true rfl) ⟨Nat.zero_le _, Nat.zero_le _⟩ d_M_step_22 (fun H locs hH => ?_)
    refine lv_goto (tgt := 117) hx hb d_M_step_25 (by decide) ?_
    exact w_M_step_117 C0 hr   _ _ _ _ h hH (lv_sub hl [] rfl)
