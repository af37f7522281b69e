/-! methods of the reference (by program: wip/gen/mgen.py copied sweep run) -/
theorem yy_M_copied : mo_Y y_M_copied b_M_copied 10 (some .int) 1 := ⟨rfl, q_1085, q_42, q_1086, by decide +kernel⟩
def f_M_copied_241 (K13 : Int32 → mS → Option (Int32 × mS)) (x2 : Int32) (v : mS) : Option (Int32 × mS) := K13 x2 v
set_option maxHeartbeats 4000000 in
set_option maxRecDepth 100000 in
theorem w_M_copied_241 {p : Program} {l : Launch} {e : Env} {s : State} {m : MethodId} {args : Array Value} {below : List Frame} {meth : Method} {c : Code} {D : va_G} {cI : ClassId} {A : Nat → Prop} {q : Nat → Nat} {o : Int32 × mS} (C0 : mo_C b_M_copied 10 D cI A p s m args meth c) (hr : meth.sig.returnType = (some .int)) {K13 : Int32 → mS → Option (Int32 × mS)} (hK13 : ∀ (x2 : Int32) (v : mS) (H : Heap) (locs : List Loc) (ls : Array Slot), K13 x2 v = some o → mo_H D cI A s q v H locs → lv_has ls 10 [(0, .ref (q 0)), (2, .int x2)] → W p l e (mo_rm 1) s m args below meth c H locs 0 0 (MQ below (mo_Qi D cI q o.1 o.2 A) args s 0 0 A) (F0 m 13 ls [])) : ∀ (x2 : Int32) (v : mS) (H : Heap) (locs : List Loc) (ls : Array Slot), f_M_copied_241 K13 x2 v = some o → mo_H D cI A s q v H locs → lv_has ls 10 [(0, .ref (q 0)), (2, .int x2)] → W p l e (mo_rm 1) s m args below meth c H locs 0 0 (MQ below (mo_Qi D cI q o.1 o.2 A) args s 0 0 A) (F0 m 241 ls []) := by
  have hx := C0.1
  have hb := C0.2.1
  intro x2 v H locs ls h hH hl
  unfold f_M_copied_241 at h
  refine lv_goto (tgt := 13) hx hb d_M_copied_241 (by decide) ?_
  exact hK13 _ _ _ _ _ h hH (lv_sub hl [0, 1] rfl)
def f_M_copied_200 (K13 : Int32 → mS → Option (Int32 × mS)) : Nat → Int32 → Int32 → Int32 → Int32 → Int32 → Int32 → mS → Option (Int32 × mS)
  | 0, _, _, _, _, _, _, _ => none
  | n + 1, x2, x3, x5, x7, x8, x9, v => if x7 ≤ x9 then (f_M_copied_241 K13 x2 v) else (if x5 ≤ 4 then (f_M_copied_241 K13 x2 v) else (gd (inB ((x3 + 4) + x9) 64000) (bv (f_M_pair v (v 6 ((x3 + 4) + x9 : Int32).toNatClampNeg) ((x8 + 4) + x9)) fun v_4 => nm (x9 + 1) fun x9_6 => f_M_copied_200 K13 n x2 x3 x5 x7 x8 x9_6 v_4)))
set_option maxHeartbeats 4000000 in
set_option maxRecDepth 100000 in
theorem w_M_copied_200 {p : Program} {l : Launch} {e : Env} {s : State} {m : MethodId} {args : Array Value} {below : List Frame} {meth : Method} {c : Code} {D : va_G} {cI : ClassId} {A : Nat → Prop} {q : Nat → Nat} {o : Int32 × mS} (C0 : mo_C b_M_copied 10 D cI A p s m args meth c) (hr : meth.sig.returnType = (some .int)) {K13 : Int32 → mS → Option (Int32 × mS)} (hK13 : ∀ (x2 : Int32) (v : mS) (H : Heap) (locs : List Loc) (ls : Array Slot), K13 x2 v = some o → mo_H D cI A s q v H locs → lv_has ls 10 [(0, .ref (q 0)), (2, .int x2)] → W p l e (mo_rm 1) s m args below meth c H locs 0 0 (MQ below (mo_Qi D cI q o.1 o.2 A) args s 0 0 A) (F0 m 13 ls [])) : ∀ (n : Nat) (x2 : Int32) (x3 : Int32) (x5 : Int32) (x7 : Int32) (x8 : Int32) (x9 : Int32) (v : mS) (H : Heap) (locs : List Loc) (ls : Array Slot), f_M_copied_200 K13 n x2 x3 x5 x7 x8 x9 v = some o → mo_H D cI A s q v H locs → lv_has ls 10 [(0, .ref (q 0)), (2, .int x2), (3, .int x3), (5, .int x5), (7, .int x7), (8, .int x8), (9, .int x9)] → W p l e (mo_rm 1) s m args below meth c H locs 0 0 (MQ below (mo_Qi D cI q o.1 o.2 A) args s 0 0 A) (F0 m 200 ls []) := by
  have hx := C0.1
  have hb := C0.2.1
  intro n
  induction n with
  | zero =>
    intro x2 x3 x5 x7 x8 x9 v H locs ls h hH hl
    cases h
  | succ n ih =>
    intro x2 x3 x5 x7 x8 x9 v H locs ls h hH hl
    rw [f_M_copied_200] at h
    refine lv_iload hx hb d_M_copied_200 (lv_at hl 6 rfl) ?_
    refine lv_iload hx hb d_M_copied_202 (lv_at hl 4 rfl) ?_
    refine lv_icmp_ge (tgt := 241) hx hb d_M_copied_204 (by decide) (fun c_1 => ?_) (fun c_1 => ?_)
    · rw [if_pos c_1] at h
      exact w_M_copied_241 C0 hr hK13 _ _ _ _ _ h hH (lv_sub hl [0, 1] rfl)
    · rw [if_neg c_1] at h
      refine lv_iload hx hb d_M_copied_207 (lv_at hl 3 rfl) ?_
      refine lv_iconst (v := 4) hx hb d_M_copied_209 (by decide) ?_
      refine lv_icmp_le (tgt := 241) hx hb d_M_copied_210 (by decide) (fun c_2 => ?_) (fun c_2 => ?_)
      · rw [if_pos c_2] at h
        exact w_M_copied_241 C0 hr hK13 _ _ _ _ _ h hH (lv_sub hl [0, 1] rfl)
      · rw [if_neg c_2] at h
        refine lv_aload_n hx hb d_M_copied_213 rfl (lv_at hl 0 rfl) ?_
        refine lv_aload_n hx hb d_M_copied_214 rfl (lv_at hl 0 rfl) ?_
        refine mo_r_heap C0 hH d_M_copied_215 ?_
        refine lv_iload_n hx hb d_M_copied_218 rfl (lv_at hl 2 rfl) ?_
        refine lv_iconst (v := 4) hx hb d_M_copied_219 (by decide) ?_
        refine lv_iadd hx hb d_M_copied_220 ?_
        refine lv_iload hx hb d_M_copied_221 (lv_at hl 6 rfl) ?_
        refine lv_iadd hx hb d_M_copied_223 ?_
        obtain ⟨g_3, h⟩ := gd_out h
        refine mo_ld 6 (by decide) (by decide) C0 hH (inB_in g_3) d_M_copied_224 ?_
        refine lv_iload hx hb d_M_copied_225 (lv_at hl 5 rfl) ?_
        refine lv_iconst (v := 4) hx hb d_M_copied_227 (by decide) ?_
        refine lv_iadd hx hb d_M_copied_228 ?_
        refine lv_iload hx hb d_M_copied_229 (lv_at hl 6 rfl) ?_
        refine lv_iadd hx hb d_M_copied_231 ?_
        obtain ⟨v_4, hc_5, h⟩ := bv_out h
        refine mo_cv (w := v_4) (as := [.int (v 6 ((x3 + 4) + x9 : Int32).toNatClampNeg), .int ((x8 + 4) + x9)]) (rest := []) C0 hH (c_M_pair hc_5) yy_M_pair q_1087 q_109 (by decide) rfl hl.1 rfl (Nat.le_of_ble_eq_true rfl) ⟨Nat.zero_le _, Nat.zero_le _⟩ d_M_copied_232 (fun H locs hH => ?_)
        obtain ⟨x9_6, hx9_6, h⟩ := nm_out h
        refine lv_iinc (v := x9_6) (lv' := [(9, .int x9_6), (0, .ref (q 0)), (2, .int x2), (3, .int x3), (5, .int x5), (7, .int x7), (8, .int x8)]) hx hb d_M_copied_235 hl (k := 6) rfl (by rw [hx9_6]; rfl) (by decide) rfl (fun ls hl => ?_)
        refine lv_goto (tgt := 200) hx hb d_M_copied_238 (by decide) ?_
        exact ih _ _ _ _ _ _ _ _ _ _ h hH (lv_sub hl [1, 2, 3, 4, 5, 6, 0] rfl)
def f_M_copied_163 (K13 : Int32 → mS → Option (Int32 × mS)) : Nat → Int32 → Int32 → Int32 → Int32 → Int32 → Int32 → mS → Option (Int32 × mS)
  | 0, _, _, _, _, _, _, _ => none
  | n + 1, x2, x3, x5, x7, x8, x9, v => if (4 + x7) ≤ x9 then (f_M_copied_200 K13 fu x2 x3 x5 x7 x8 0 v) else (gd (inB (x3 + x9) 64000) (gd (inB (x8 + x9) 8000) (nm (sU v 7 (x8 + x9 : Int32).toNatClampNeg (v 6 (x3 + x9 : Int32).toNatClampNeg)) fun v_4 => nm (x9 + 1) fun x9_5 => f_M_copied_163 K13 n x2 x3 x5 x7 x8 x9_5 v_4)))
set_option maxHeartbeats 4000000 in
set_option maxRecDepth 100000 in
theorem w_M_copied_163 {p : Program} {l : Launch} {e : Env} {s : State} {m : MethodId} {args : Array Value} {below : List Frame} {meth : Method} {c : Code} {D : va_G} {cI : ClassId} {A : Nat → Prop} {q : Nat → Nat} {o : Int32 × mS} (C0 : mo_C b_M_copied 10 D cI A p s m args meth c) (hr : meth.sig.returnType = (some .int)) {K13 : Int32 → mS → Option (Int32 × mS)} (hK13 : ∀ (x2 : Int32) (v : mS) (H : Heap) (locs : List Loc) (ls : Array Slot), K13 x2 v = some o → mo_H D cI A s q v H locs → lv_has ls 10 [(0, .ref (q 0)), (2, .int x2)] → W p l e (mo_rm 1) s m args below meth c H locs 0 0 (MQ below (mo_Qi D cI q o.1 o.2 A) args s 0 0 A) (F0 m 13 ls [])) : ∀ (n : Nat) (x2 : Int32) (x3 : Int32) (x5 : Int32) (x7 : Int32) (x8 : Int32) (x9 : Int32) (v : mS) (H : Heap) (locs : List Loc) (ls : Array Slot), f_M_copied_163 K13 n x2 x3 x5 x7 x8 x9 v = some o → mo_H D cI A s q v H locs → lv_has ls 10 [(0, .ref (q 0)), (2, .int x2), (3, .int x3), (5, .int x5), (7, .int x7), (8, .int x8), (9, .int x9)] → W p l e (mo_rm 1) s m args below meth c H locs 0 0 (MQ below (mo_Qi D cI q o.1 o.2 A) args s 0 0 A) (F0 m 163 ls []) := by
  have hx := C0.1
  have hb := C0.2.1
  intro n
  induction n with
  | zero =>
    intro x2 x3 x5 x7 x8 x9 v H locs ls h hH hl
    cases h
  | succ n ih =>
    intro x2 x3 x5 x7 x8 x9 v H locs ls h hH hl
    rw [f_M_copied_163] at h
    refine lv_iload hx hb d_M_copied_163 (lv_at hl 6 rfl) ?_
    refine lv_iconst (v := 4) hx hb d_M_copied_165 (by decide) ?_
    refine lv_iload hx hb d_M_copied_166 (lv_at hl 4 rfl) ?_
    refine lv_iadd hx hb d_M_copied_168 ?_
    refine lv_icmp_ge (tgt := 197) hx hb d_M_copied_169 (by decide) (fun c_1 => ?_) (fun c_1 => ?_)
    · rw [if_pos c_1] at h
      refine lv_iconst (v := 0) hx hb d_M_copied_197 (by decide) ?_
      refine lv_istore (lv' := [(9, .int 0), (0, .ref (q 0)), (2, .int x2), (3, .int x3), (5, .int x5), (7, .int x7), (8, .int x8)]) hx hb d_M_copied_198 hl (by decide) rfl (fun ls hl => ?_)
      exact w_M_copied_200 C0 hr hK13 fu _ _ _ _ _ _ _ _ _ _ h hH (lv_sub hl [1, 2, 3, 4, 5, 6, 0] rfl)
    · rw [if_neg c_1] at h
      refine lv_aload_n hx hb d_M_copied_172 rfl (lv_at hl 0 rfl) ?_
      refine mo_r_spare C0 hH d_M_copied_173 ?_
      refine lv_iload hx hb d_M_copied_176 (lv_at hl 5 rfl) ?_
      refine lv_iload hx hb d_M_copied_178 (lv_at hl 6 rfl) ?_
      refine lv_iadd hx hb d_M_copied_180 ?_
      refine lv_aload_n hx hb d_M_copied_181 rfl (lv_at hl 0 rfl) ?_
      refine mo_r_heap C0 hH d_M_copied_182 ?_
      refine lv_iload_n hx hb d_M_copied_185 rfl (lv_at hl 2 rfl) ?_
      refine lv_iload hx hb d_M_copied_186 (lv_at hl 6 rfl) ?_
      refine lv_iadd hx hb d_M_copied_188 ?_
      obtain ⟨g_2, h⟩ := gd_out h
      refine mo_ld 6 (by decide) (by decide) C0 hH (inB_in g_2) d_M_copied_189 ?_
      obtain ⟨g_3, h⟩ := gd_out h
      obtain ⟨v_4, hv_4, h⟩ := nm_out h
      refine mo_st 7 (by decide) (by decide) C0 hH (inB_in g_3) d_M_copied_190 (fun H locs hH => ?_)
      rw [← hv_4] at hH
      obtain ⟨x9_5, hx9_5, h⟩ := nm_out h
      refine lv_iinc (v := x9_5) (lv' := [(9, .int x9_5), (0, .ref (q 0)), (2, .int x2), (3, .int x3), (5, .int x5), (7, .int x7), (8, .int x8)]) hx hb d_M_copied_191 hl (k := 6) rfl (by rw [hx9_5]; rfl) (by decide) rfl (fun ls hl => ?_)
      refine lv_goto (tgt := 163) hx hb d_M_copied_194 (by decide) ?_
      exact ih _ _ _ _ _ _ _ _ _ _ h hH (lv_sub hl [1, 2, 3, 4, 5, 6, 0] rfl)
def f_M_copied_138 (K13 : Int32 → mS → Option (Int32 × mS)) (x2 : Int32) (x3 : Int32) (x5 : Int32) (x7 : Int32) (x8 : Int32) (v : mS) : Option (Int32 × mS) := if 3 ≤ x5 then (nm (sU v 0 9 ((v 0 9) + (4 + x7))) fun v_2 => f_M_copied_163 K13 fu x2 x3 x5 x7 x8 0 v_2) else (K13 x2 v)
set_option maxHeartbeats 4000000 in
set_option maxRecDepth 100000 in
theorem w_M_copied_138 {p : Program} {l : Launch} {e : Env} {s : State} {m : MethodId} {args : Array Value} {below : List Frame} {meth : Method} {c : Code} {D : va_G} {cI : ClassId} {A : Nat → Prop} {q : Nat → Nat} {o : Int32 × mS} (C0 : mo_C b_M_copied 10 D cI A p s m args meth c) (hr : meth.sig.returnType = (some .int)) {K13 : Int32 → mS → Option (Int32 × mS)} (hK13 : ∀ (x2 : Int32) (v : mS) (H : Heap) (locs : List Loc) (ls : Array Slot), K13 x2 v = some o → mo_H D cI A s q v H locs → lv_has ls 10 [(0, .ref (q 0)), (2, .int x2)] → W p l e (mo_rm 1) s m args below meth c H locs 0 0 (MQ below (mo_Qi D cI q o.1 o.2 A) args s 0 0 A) (F0 m 13 ls [])) : ∀ (x2 : Int32) (x3 : Int32) (x5 : Int32) (x7 : Int32) (x8 : Int32) (v : mS) (H : Heap) (locs : List Loc) (ls : Array Slot), f_M_copied_138 K13 x2 x3 x5 x7 x8 v = some o → mo_H D cI A s q v H locs → lv_has ls 10 [(0, .ref (q 0)), (2, .int x2), (3, .int x3), (5, .int x5), (7, .int x7), (8, .int x8)] → W p l e (mo_rm 1) s m args below meth c H locs 0 0 (MQ below (mo_Qi D cI q o.1 o.2 A) args s 0 0 A) (F0 m 138 ls []) := by
  have hx := C0.1
  have hb := C0.2.1
  intro x2 x3 x5 x7 x8 v H locs ls h hH hl
  unfold f_M_copied_138 at h
  refine lv_iload hx hb d_M_copied_138 (lv_at hl 3 rfl) ?_
  refine lv_iconst (v := 3) hx hb d_M_copied_140 (by decide) ?_
  refine lv_icmp_ge (tgt := 147) hx hb d_M_copied_141 (by decide) (fun c_1 => ?_) (fun c_1 => ?_)
  · rw [if_pos c_1] at h
    refine lv_aload_n hx hb d_M_copied_147 rfl (lv_at hl 0 rfl) ?_
    refine lv_dup hx hb d_M_copied_148 rfl ?_
    refine mo_g_filled C0 hH d_M_copied_149 ?_
    refine lv_iconst (v := 4) hx hb d_M_copied_152 (by decide) ?_
    refine lv_iload hx hb d_M_copied_153 (lv_at hl 4 rfl) ?_
    refine lv_iadd hx hb d_M_copied_155 ?_
    refine lv_iadd hx hb d_M_copied_156 ?_
    obtain ⟨v_2, hv_2, h⟩ := nm_out h
    refine mo_p_filled C0 hH d_M_copied_157 (fun H locs hH => ?_)
    rw [← hv_2] at hH
    refine lv_iconst (v := 0) hx hb d_M_copied_160 (by decide) ?_
    refine lv_istore (lv' := [(9, .int 0), (0, .ref (q 0)), (2, .int x2), (3, .int x3), (5, .int x5), (7, .int x7), (8, .int x8)]) hx hb d_M_copied_161 hl (by decide) rfl (fun ls hl => ?_)
    exact w_M_copied_163 C0 hr hK13 fu _ _ _ _ _ _ _ _ _ _ h hH (lv_sub hl [1, 2, 3, 4, 5, 6, 0] rfl)
  · rw [if_neg c_1] at h
    refine lv_goto (tgt := 13) hx hb d_M_copied_144 (by decide) ?_
    exact hK13 _ _ _ _ _ h hH (lv_sub hl [0, 1] rfl)
def f_M_copied_116 (K13 : Int32 → mS → Option (Int32 × mS)) (x2 : Int32) (x3 : Int32) (x4 : Int32) (x5 : Int32) (x7 : Int32) (y0 : Int32) (v : mS) : Option (Int32 × mS) := if x4 = 0 then (f_M_copied_138 K13 y0 x3 x5 x7 y0 v) else (gd (inB x4 8000) (nm (sU v 7 (x4 : Int32).toNatClampNeg y0) fun v_3 => f_M_copied_138 K13 x2 x3 x5 x7 y0 v_3))
set_option maxHeartbeats 4000000 in
set_option maxRecDepth 100000 in
theorem w_M_copied_116 {p : Program} {l : Launch} {e : Env} {s : State} {m : MethodId} {args : Array Value} {below : List Frame} {meth : Method} {c : Code} {D : va_G} {cI : ClassId} {A : Nat → Prop} {q : Nat → Nat} {o : Int32 × mS} (C0 : mo_C b_M_copied 10 D cI A p s m args meth c) (hr : meth.sig.returnType = (some .int)) {K13 : Int32 → mS → Option (Int32 × mS)} (hK13 : ∀ (x2 : Int32) (v : mS) (H : Heap) (locs : List Loc) (ls : Array Slot), K13 x2 v = some o → mo_H D cI A s q v H locs → lv_has ls 10 [(0, .ref (q 0)), (2, .int x2)] → W p l e (mo_rm 1) s m args below meth c H locs 0 0 (MQ below (mo_Qi D cI q o.1 o.2 A) args s 0 0 A) (F0 m 13 ls [])) : ∀ (x2 : Int32) (x3 : Int32) (x4 : Int32) (x5 : Int32) (x7 : Int32) (y0 : Int32) (v : mS) (H : Heap) (locs : List Loc) (ls : Array Slot), f_M_copied_116 K13 x2 x3 x4 x5 x7 y0 v = some o → mo_H D cI A s q v H locs → lv_has ls 10 [(0, .ref (q 0)), (2, .int x2), (3, .int x3), (4, .int x4), (5, .int x5), (7, .int x7)] → W p l e (mo_rm 1) s m args below meth c H locs 0 0 (MQ below (mo_Qi D cI q o.1 o.2 A) args s 0 0 A) (F0 m 116 ls [.int y0]) := by
  have hx := C0.1
  have hb := C0.2.1
  intro x2 x3 x4 x5 x7 y0 v H locs ls h hH hl
  unfold f_M_copied_116 at h
  refine lv_istore (lv' := [(8, .int y0), (0, .ref (q 0)), (2, .int x2), (3, .int x3), (4, .int x4), (5, .int x5), (7, .int x7)]) hx hb d_M_copied_116 hl (by decide) rfl (fun ls hl => ?_)
  refine lv_iload hx hb d_M_copied_118 (lv_at hl 4 rfl) ?_
  refine lv_if_ne (tgt := 129) hx hb d_M_copied_120 (by decide) (fun c_1 => ?_) (fun c_1 => ?_)
  · rw [if_neg c_1] at h
    refine lv_aload_n hx hb d_M_copied_129 rfl (lv_at hl 1 rfl) ?_
    refine mo_r_spare C0 hH d_M_copied_130 ?_
    refine lv_iload hx hb d_M_copied_133 (lv_at hl 4 rfl) ?_
    refine lv_iload hx hb d_M_copied_135 (lv_at hl 0 rfl) ?_
    obtain ⟨g_2, h⟩ := gd_out h
    obtain ⟨v_3, hv_3, h⟩ := nm_out h
    refine mo_st 7 (by decide) (by decide) C0 hH (inB_in g_2) d_M_copied_137 (fun H locs hH => ?_)
    rw [← hv_3] at hH
    exact w_M_copied_138 C0 hr hK13 _ _ _ _ _ _ _ _ _ h hH (lv_sub hl [1, 2, 3, 5, 6, 0] rfl)
  · rw [if_pos c_1] at h
    refine lv_iload hx hb d_M_copied_123 (lv_at hl 0 rfl) ?_
    refine lv_istore_n (lv' := [(2, .int y0), (8, .int y0), (0, .ref (q 0)), (3, .int x3), (4, .int x4), (5, .int x5), (7, .int x7)]) hx hb d_M_copied_125 rfl hl (by decide) rfl (fun ls hl => ?_)
    refine lv_goto (tgt := 138) hx hb d_M_copied_126 (by decide) ?_
    exact w_M_copied_138 C0 hr hK13 _ _ _ _ _ _ _ _ _ h hH (lv_sub hl [2, 0, 3, 5, 6, 1] rfl)
def f_M_copied_95 (K13 : Int32 → mS → Option (Int32 × mS)) (x2 : Int32) (x3 : Int32) (x4 : Int32) (x5 : Int32) (y0 : Int32) (v : mS) : Option (Int32 × mS) := if 3 ≤ x5 then (f_M_copied_116 K13 x2 x3 x4 x5 y0 (v 0 9) v) else (f_M_copied_116 K13 x2 x3 x4 x5 y0 (4 + (4 * x5)) v)
set_option maxHeartbeats 4000000 in
set_option maxRecDepth 100000 in
theorem w_M_copied_95 {p : Program} {l : Launch} {e : Env} {s : State} {m : MethodId} {args : Array Value} {below : List Frame} {meth : Method} {c : Code} {D : va_G} {cI : ClassId} {A : Nat → Prop} {q : Nat → Nat} {o : Int32 × mS} (C0 : mo_C b_M_copied 10 D cI A p s m args meth c) (hr : meth.sig.returnType = (some .int)) {K13 : Int32 → mS → Option (Int32 × mS)} (hK13 : ∀ (x2 : Int32) (v : mS) (H : Heap) (locs : List Loc) (ls : Array Slot), K13 x2 v = some o → mo_H D cI A s q v H locs → lv_has ls 10 [(0, .ref (q 0)), (2, .int x2)] → W p l e (mo_rm 1) s m args below meth c H locs 0 0 (MQ below (mo_Qi D cI q o.1 o.2 A) args s 0 0 A) (F0 m 13 ls [])) : ∀ (x2 : Int32) (x3 : Int32) (x4 : Int32) (x5 : Int32) (y0 : Int32) (v : mS) (H : Heap) (locs : List Loc) (ls : Array Slot), f_M_copied_95 K13 x2 x3 x4 x5 y0 v = some o → mo_H D cI A s q v H locs → lv_has ls 10 [(0, .ref (q 0)), (2, .int x2), (3, .int x3), (4, .int x4), (5, .int x5)] → W p l e (mo_rm 1) s m args below meth c H locs 0 0 (MQ below (mo_Qi D cI q o.1 o.2 A) args s 0 0 A) (F0 m 95 ls [.int y0]) := by
  have hx := C0.1
  have hb := C0.2.1
  intro x2 x3 x4 x5 y0 v H locs ls h hH hl
  unfold f_M_copied_95 at h
  refine lv_istore (lv' := [(7, .int y0), (0, .ref (q 0)), (2, .int x2), (3, .int x3), (4, .int x4), (5, .int x5)]) hx hb d_M_copied_95 hl (by decide) rfl (fun ls hl => ?_)
  refine lv_iload hx hb d_M_copied_97 (lv_at hl 5 rfl) ?_
  refine lv_iconst (v := 3) hx hb d_M_copied_99 (by decide) ?_
  refine lv_icmp_ge (tgt := 112) hx hb d_M_copied_100 (by decide) (fun c_1 => ?_) (fun c_1 => ?_)
  · rw [if_pos c_1] at h
    refine lv_aload_n hx hb d_M_copied_112 rfl (lv_at hl 1 rfl) ?_
    refine mo_g_filled C0 hH d_M_copied_113 ?_
    exact w_M_copied_116 C0 hr hK13 _ _ _ _ _ _ _ _ _ _ h hH (lv_sub hl [1, 2, 3, 4, 5, 0] rfl)
  · rw [if_neg c_1] at h
    refine lv_iconst (v := 4) hx hb d_M_copied_103 (by decide) ?_
    refine lv_iconst (v := 4) hx hb d_M_copied_104 (by decide) ?_
    refine lv_iload hx hb d_M_copied_105 (lv_at hl 5 rfl) ?_
    refine lv_imul hx hb d_M_copied_107 ?_
    refine lv_iadd hx hb d_M_copied_108 ?_
    refine lv_goto (tgt := 116) hx hb d_M_copied_109 (by decide) ?_
    exact w_M_copied_116 C0 hr hK13 _ _ _ _ _ _ _ _ _ _ h hH (lv_sub hl [1, 2, 3, 4, 5, 0] rfl)
def f_M_copied_13  : Nat → Int32 → mS → Option (Int32 × mS)
  | 0, _, _ => none
  | n + 1, x2, v => if (v 0 18) ≤ 0 then (some (x2, v)) else (nm (sU v 0 18 ((v 0 18) - 1)) fun v_2 => gd (inB (v_2 0 18) 400) (nm (v_2 12 (v_2 0 18 : Int32).toNatClampNeg) fun x3_4 => gd (inB (v_2 0 18) 400) (nm (v_2 13 (v_2 0 18 : Int32).toNatClampNeg) fun x4_6 => gd (inB x3_4 64000) (nm (v_2 6 (x3_4 : Int32).toNatClampNeg) fun x5_8 => gd (inB (x3_4 + 3) 64000) (nm (v_2 6 (x3_4 + 3 : Int32).toNatClampNeg) fun x6_10 => if x5_8 = 3 then (f_M_copied_95 (f_M_copied_13 n) x2 x3_4 x4_6 x5_8 2 v_2) else (if x5_8 = 6 then (f_M_copied_95 (f_M_copied_13 n) x2 x3_4 x4_6 x5_8 (2 * x6_10) v_2) else (f_M_copied_95 (f_M_copied_13 n) x2 x3_4 x4_6 x5_8 x6_10 v_2)))))))
set_option maxHeartbeats 4000000 in
set_option maxRecDepth 100000 in
theorem w_M_copied_13 {p : Program} {l : Launch} {e : Env} {s : State} {m : MethodId} {args : Array Value} {below : List Frame} {meth : Method} {c : Code} {D : va_G} {cI : ClassId} {A : Nat → Prop} {q : Nat → Nat} {o : Int32 × mS} (C0 : mo_C b_M_copied 10 D cI A p s m args meth c) (hr : meth.sig.returnType = (some .int)) : ∀ (n : Nat) (x2 : Int32) (v : mS) (H : Heap) (locs : List Loc) (ls : Array Slot), f_M_copied_13  n x2 v = some o → mo_H D cI A s q v H locs → lv_has ls 10 [(0, .ref (q 0)), (2, .int x2)] → W p l e (mo_rm 1) s m args below meth c H locs 0 0 (MQ below (mo_Qi D cI q o.1 o.2 A) args s 0 0 A) (F0 m 13 ls []) := by
  have hx := C0.1
  have hb := C0.2.1
  intro n
  induction n with
  | zero =>
    intro x2 v H locs ls h hH hl
    cases h
  | succ n ih =>
    intro x2 v H locs ls h hH hl
    rw [f_M_copied_13] at h
    refine lv_aload_n hx hb d_M_copied_13 rfl (lv_at hl 0 rfl) ?_
    refine mo_g_depth C0 hH d_M_copied_14 ?_
    refine lv_if_le (tgt := 244) hx hb d_M_copied_17 (by decide) (fun c_1 => ?_) (fun c_1 => ?_)
    · rw [if_pos c_1] at h
      refine lv_iload_n hx hb d_M_copied_244 rfl (lv_at hl 1 rfl) ?_
      exact mo_iret C0 hr hH d_M_copied_245 h
    · rw [if_neg c_1] at h
      refine lv_aload_n hx hb d_M_copied_20 rfl (lv_at hl 0 rfl) ?_
      refine lv_dup hx hb d_M_copied_21 rfl ?_
      refine mo_g_depth C0 hH d_M_copied_22 ?_
      refine lv_iconst (v := 1) hx hb d_M_copied_25 (by decide) ?_
      refine lv_isub hx hb d_M_copied_26 ?_
      obtain ⟨v_2, hv_2, h⟩ := nm_out h
      refine mo_p_depth C0 hH d_M_copied_27 (fun H locs hH => ?_)
      rw [← hv_2] at hH
      refine lv_aload_n hx hb d_M_copied_30 rfl (lv_at hl 0 rfl) ?_
      refine mo_r_stack C0 hH d_M_copied_31 ?_
      refine lv_aload_n hx hb d_M_copied_34 rfl (lv_at hl 0 rfl) ?_
      refine mo_g_depth C0 hH d_M_copied_35 ?_
      obtain ⟨g_3, h⟩ := gd_out h
      refine mo_ld 12 (by decide) (by decide) C0 hH (inB_in g_3) d_M_copied_38 ?_
      obtain ⟨x3_4, hx3_4, h⟩ := nm_out h
      refine fu_i hx3_4 ?_
      refine lv_istore_n (lv' := [(3, .int x3_4), (0, .ref (q 0)), (2, .int x2)]) hx hb d_M_copied_39 rfl hl (by decide) rfl (fun ls hl => ?_)
      refine lv_aload_n hx hb d_M_copied_40 rfl (lv_at hl 1 rfl) ?_
      refine mo_r_other C0 hH d_M_copied_41 ?_
      refine lv_aload_n hx hb d_M_copied_44 rfl (lv_at hl 1 rfl) ?_
      refine mo_g_depth C0 hH d_M_copied_45 ?_
      obtain ⟨g_5, h⟩ := gd_out h
      refine mo_ld 13 (by decide) (by decide) C0 hH (inB_in g_5) d_M_copied_48 ?_
      obtain ⟨x4_6, hx4_6, h⟩ := nm_out h
      refine fu_i hx4_6 ?_
      refine lv_istore (lv' := [(4, .int x4_6), (3, .int x3_4), (0, .ref (q 0)), (2, .int x2)]) hx hb d_M_copied_49 hl (by decide) rfl (fun ls hl => ?_)
      refine lv_aload_n hx hb d_M_copied_51 rfl (lv_at hl 2 rfl) ?_
      refine mo_r_heap C0 hH d_M_copied_52 ?_
      refine lv_iload_n hx hb d_M_copied_55 rfl (lv_at hl 1 rfl) ?_
      obtain ⟨g_7, h⟩ := gd_out h
      refine mo_ld 6 (by decide) (by decide) C0 hH (inB_in g_7) d_M_copied_56 ?_
      obtain ⟨x5_8, hx5_8, h⟩ := nm_out h
      refine fu_i hx5_8 ?_
      refine lv_istore (lv' := [(5, .int x5_8), (4, .int x4_6), (3, .int x3_4), (0, .ref (q 0)), (2, .int x2)]) hx hb d_M_copied_57 hl (by decide) rfl (fun ls hl => ?_)
      refine lv_aload_n hx hb d_M_copied_59 rfl (lv_at hl 3 rfl) ?_
      refine mo_r_heap C0 hH d_M_copied_60 ?_
      refine lv_iload_n hx hb d_M_copied_63 rfl (lv_at hl 2 rfl) ?_
      refine lv_iconst (v := 3) hx hb d_M_copied_64 (by decide) ?_
      refine lv_iadd hx hb d_M_copied_65 ?_
      obtain ⟨g_9, h⟩ := gd_out h
      refine mo_ld 6 (by decide) (by decide) C0 hH (inB_in g_9) d_M_copied_66 ?_
      obtain ⟨x6_10, hx6_10, h⟩ := nm_out h
      refine fu_i hx6_10 ?_
      refine lv_istore (lv' := [(6, .int x6_10), (5, .int x5_8), (4, .int x4_6), (3, .int x3_4), (0, .ref (q 0)), (2, .int x2)]) hx hb d_M_copied_67 hl (by decide) rfl (fun ls hl => ?_)
      refine lv_iload hx hb d_M_copied_69 (lv_at hl 1 rfl) ?_
      refine lv_iconst (v := 3) hx hb d_M_copied_71 (by decide) ?_
      refine lv_icmp_ne (tgt := 79) hx hb d_M_copied_72 (by decide) (fun c_11 => ?_) (fun c_11 => ?_)
      · rw [if_neg c_11] at h
        refine lv_iload hx hb d_M_copied_79 (lv_at hl 1 rfl) ?_
        refine lv_bipush (v := 6) hx hb d_M_copied_81 (by decide) ?_
        refine lv_icmp_ne (tgt := 93) hx hb d_M_copied_83 (by decide) (fun c_12 => ?_) (fun c_12 => ?_)
        · rw [if_neg c_12] at h
          refine lv_iload hx hb d_M_copied_93 (lv_at hl 0 rfl) ?_
          exact w_M_copied_95 C0 hr ih _ _ _ _ _ _ _ _ _ h hH (lv_sub hl [4, 5, 3, 2, 1] rfl)
        · rw [if_pos c_12] at h
          refine lv_iconst (v := 2) hx hb d_M_copied_86 (by decide) ?_
          refine lv_iload hx hb d_M_copied_87 (lv_at hl 0 rfl) ?_
          refine lv_imul hx hb d_M_copied_89 ?_
          refine lv_goto (tgt := 95) hx hb d_M_copied_90 (by decide) ?_
          exact w_M_copied_95 C0 hr ih _ _ _ _ _ _ _ _ _ h hH (lv_sub hl [4, 5, 3, 2, 1] rfl)
      · rw [if_pos c_11] at h
        refine lv_iconst (v := 2) hx hb d_M_copied_75 (by decide) ?_
        refine lv_goto (tgt := 95) hx hb d_M_copied_76 (by decide) ?_
        exact w_M_copied_95 C0 hr ih _ _ _ _ _ _ _ _ _ h hH (lv_sub hl [4, 5, 3, 2, 1] rfl)
def f_M_copied (v : mS) (x1 : Int32) : Option (Int32 × mS) := nm (sU v 0 18 0) fun v_1 => bv (f_M_pair v_1 x1 0) fun v_2 => f_M_copied_13 fu 0 v_2
set_option maxHeartbeats 4000000 in
set_option maxRecDepth 100000 in
theorem c_M_copied {l : Launch} {D : va_G} {cI : ClassId} {q : Nat → Nat} {v : mS} {x1 : Int32} {o : Int32 × mS} (h : f_M_copied v x1 = some o) : mo_M l D cI q 1 y_M_copied b_M_copied 10 (some .int) [.ref (q 0), .int x1] v (mo_Qi D cI q o.1 o.2) := by
  refine mo_of (by decide +kernel) rfl (Nat.le_of_ble_eq_true rfl) ?_
  intro p e s m below meth c A ls C0 hr hl hH
  have hx := C0.1
  have hb := C0.2.1
  have hl : lv_has ls 10 [(0, .ref (q 0)), (1, .int x1)] := hl
  unfold f_M_copied at h
  refine lv_aload_n hx hb d_M_copied_0 rfl (lv_at hl 0 rfl) ?_
  refine lv_iconst (v := 0) hx hb d_M_copied_1 (by decide) ?_
  obtain ⟨v_1, hv_1, h⟩ := nm_out h
  refine mo_p_depth C0 hH d_M_copied_2 (fun H locs hH => ?_)
  rw [← hv_1] at hH
  refine lv_aload_n hx hb d_M_copied_5 rfl (lv_at hl 0 rfl) ?_
  refine lv_iload_n hx hb d_M_copied_6 rfl (lv_at hl 1 rfl) ?_
  refine lv_iconst (v := 0) hx hb d_M_copied_7 (by decide) ?_
  obtain ⟨v_2, hc_3, h⟩ := bv_out h
  refine mo_cv (w := v_2) (as := [.int x1, .int 0]) (rest := []) C0 hH (c_M_pair hc_3) yy_M_pair q_1087 q_109 (by decide) rfl hl.1 rfl (Nat.le_of_ble_eq_true rfl) ⟨Nat.zero_le _, Nat.zero_le _⟩ d_M_copied_8 (fun H locs hH => ?_)
  refine lv_iconst (v := 0) hx hb d_M_copied_11 (by decide) ?_
  refine lv_istore_n (lv' := [(2, .int 0), (0, .ref (q 0)), (1, .int x1)]) hx hb d_M_copied_12 rfl hl (by decide) rfl (fun ls hl => ?_)
  exact w_M_copied_13 C0 hr  fu _ _ _ _ _ h hH (lv_sub hl [1, 0] rfl)
theorem yy_M_sweep : mo_Y y_M_sweep b_M_sweep 2 none 0 := ⟨rfl, q_1081, q_41, q_1082, by decide +kernel⟩
def f_M_sweep_39  : Nat → Int32 → mS → Option (mS)
  | 0, _, _ => none
  | n + 1, x1, v => if (v 0 9) ≤ x1 then (nm (sU v 0 7 (v 0 9)) fun v_2 => some v_2) else (gd (inB x1 8000) (gd (inB x1 64000) (nm (sU v 6 (x1 : Int32).toNatClampNeg (v 7 (x1 : Int32).toNatClampNeg)) fun v_5 => nm (x1 + 1) fun x1_6 => f_M_sweep_39 n x1_6 v_5)))
set_option maxHeartbeats 4000000 in
set_option maxRecDepth 100000 in
theorem w_M_sweep_39 {p : Program} {l : Launch} {e : Env} {s : State} {m : MethodId} {args : Array Value} {below : List Frame} {meth : Method} {c : Code} {D : va_G} {cI : ClassId} {A : Nat → Prop} {q : Nat → Nat} {o : mS} (C0 : mo_C b_M_sweep 2 D cI A p s m args meth c) (hr : meth.sig.returnType = none) : ∀ (n : Nat) (x1 : Int32) (v : mS) (H : Heap) (locs : List Loc) (ls : Array Slot), f_M_sweep_39  n x1 v = some o → mo_H D cI A s q v H locs → lv_has ls 2 [(0, .ref (q 0)), (1, .int x1)] → W p l e (mo_rm 2) s m args below meth c H locs 0 0 (MQ below (mo_Qv D cI q o A) args s 0 0 A) (F0 m 39 ls []) := by
  have hx := C0.1
  have hb := C0.2.1
  intro n
  induction n with
  | zero =>
    intro x1 v H locs ls h hH hl
    cases h
  | succ n ih =>
    intro x1 v H locs ls h hH hl
    rw [f_M_sweep_39] at h
    refine lv_iload_n hx hb d_M_sweep_39 rfl (lv_at hl 1 rfl) ?_
    refine lv_aload_n hx hb d_M_sweep_40 rfl (lv_at hl 0 rfl) ?_
    refine mo_g_filled C0 hH d_M_sweep_41 ?_
    refine lv_icmp_ge (tgt := 65) hx hb d_M_sweep_44 (by decide) (fun c_1 => ?_) (fun c_1 => ?_)
    · rw [if_pos c_1] at h
      refine lv_aload_n hx hb d_M_sweep_65 rfl (lv_at hl 0 rfl) ?_
      refine lv_aload_n hx hb d_M_sweep_66 rfl (lv_at hl 0 rfl) ?_
      refine mo_g_filled C0 hH d_M_sweep_67 ?_
      obtain ⟨v_2, hv_2, h⟩ := nm_out h
      refine mo_p_top C0 hH d_M_sweep_70 (fun H locs hH => ?_)
      rw [← hv_2] at hH
      exact mo_vret C0 hr hH d_M_sweep_73 h
    · rw [if_neg c_1] at h
      refine lv_aload_n hx hb d_M_sweep_47 rfl (lv_at hl 0 rfl) ?_
      refine mo_r_heap C0 hH d_M_sweep_48 ?_
      refine lv_iload_n hx hb d_M_sweep_51 rfl (lv_at hl 1 rfl) ?_
      refine lv_aload_n hx hb d_M_sweep_52 rfl (lv_at hl 0 rfl) ?_
      refine mo_r_spare C0 hH d_M_sweep_53 ?_
      refine lv_iload_n hx hb d_M_sweep_56 rfl (lv_at hl 1 rfl) ?_
      obtain ⟨g_3, h⟩ := gd_out h
      refine mo_ld 7 (by decide) (by decide) C0 hH (inB_in g_3) d_M_sweep_57 ?_
      obtain ⟨g_4, h⟩ := gd_out h
      obtain ⟨v_5, hv_5, h⟩ := nm_out h
      refine mo_st 6 (by decide) (by decide) C0 hH (inB_in g_4) d_M_sweep_58 (fun H locs hH => ?_)
      rw [← hv_5] at hH
      obtain ⟨x1_6, hx1_6, h⟩ := nm_out h
      refine lv_iinc (v := x1_6) (lv' := [(1, .int x1_6), (0, .ref (q 0))]) hx hb d_M_sweep_59 hl (k := 1) rfl (by rw [hx1_6]; rfl) (by decide) rfl (fun ls hl => ?_)
      refine lv_goto (tgt := 39) hx hb d_M_sweep_62 (by decide) ?_
      exact ih _ _ _ _ _ h hH (lv_sub hl [1, 0] rfl)
def f_M_sweep_8  : Nat → Int32 → mS → Option (mS)
  | 0, _, _ => none
  | n + 1, x1, v => if 8 ≤ x1 then (f_M_sweep_39 fu 16 v) else (gd (inB x1 8) (bi (f_M_copied v (v 8 (x1 : Int32).toNatClampNeg)) fun r_5 v_3 => gd (inB x1 8) (nm (sU v_3 8 (x1 : Int32).toNatClampNeg r_5) fun v_7 => nm (x1 + 1) fun x1_8 => f_M_sweep_8 n x1_8 v_7)))
set_option maxHeartbeats 4000000 in
set_option maxRecDepth 100000 in
theorem w_M_sweep_8 {p : Program} {l : Launch} {e : Env} {s : State} {m : MethodId} {args : Array Value} {below : List Frame} {meth : Method} {c : Code} {D : va_G} {cI : ClassId} {A : Nat → Prop} {q : Nat → Nat} {o : mS} (C0 : mo_C b_M_sweep 2 D cI A p s m args meth c) (hr : meth.sig.returnType = none) : ∀ (n : Nat) (x1 : Int32) (v : mS) (H : Heap) (locs : List Loc) (ls : Array Slot), f_M_sweep_8  n x1 v = some o → mo_H D cI A s q v H locs → lv_has ls 2 [(0, .ref (q 0)), (1, .int x1)] → W p l e (mo_rm 2) s m args below meth c H locs 0 0 (MQ below (mo_Qv D cI q o A) args s 0 0 A) (F0 m 8 ls []) := by
  have hx := C0.1
  have hb := C0.2.1
  intro n
  induction n with
  | zero =>
    intro x1 v H locs ls h hH hl
    cases h
  | succ n ih =>
    intro x1 v H locs ls h hH hl
    rw [f_M_sweep_8] at h
    refine lv_iload_n hx hb d_M_sweep_8 rfl (lv_at hl 1 rfl) ?_
    refine lv_bipush (v := 8) hx hb d_M_sweep_9 (by decide) ?_
    refine lv_icmp_ge (tgt := 36) hx hb d_M_sweep_11 (by decide) (fun c_1 => ?_) (fun c_1 => ?_)
    · rw [if_pos c_1] at h
      refine lv_bipush (v := 16) hx hb d_M_sweep_36 (by decide) ?_
      refine lv_istore_n (lv' := [(1, .int 16), (0, .ref (q 0))]) hx hb d_M_sweep_38 rfl hl (by decide) rfl (fun ls hl => ?_)
      exact w_M_sweep_39 C0 hr  fu _ _ _ _ _ h hH (lv_sub hl [1, 0] rfl)
    · rw [if_neg c_1] at h
      refine lv_aload_n hx hb d_M_sweep_14 rfl (lv_at hl 0 rfl) ?_
      refine mo_r_slot C0 hH d_M_sweep_15 ?_
      refine lv_iload_n hx hb d_M_sweep_18 rfl (lv_at hl 1 rfl) ?_
      refine lv_aload_n hx hb d_M_sweep_19 rfl (lv_at hl 0 rfl) ?_
      refine lv_aload_n hx hb d_M_sweep_20 rfl (lv_at hl 0 rfl) ?_
      refine mo_r_slot C0 hH d_M_sweep_21 ?_
      refine lv_iload_n hx hb d_M_sweep_24 rfl (lv_at hl 1 rfl) ?_
      obtain ⟨g_2, h⟩ := gd_out h
      refine mo_ld 8 (by decide) (by decide) C0 hH (inB_in g_2) d_M_sweep_25 ?_
      obtain ⟨r_5, v_3, hc_4, h⟩ := bi_out h
      refine mo_ci (r := r_5) (w := v_3) (as := [.int (v 8 (x1 : Int32).toNatClampNeg)]) (rest := [.int x1, .ref (q 8)]) C0 hH (c_M_copied hc_4) yy_M_copied q_1083 q_109 (by decide) rfl hl.1 rfl (Nat.le_of_ble_eq_true rfl) ⟨Nat.zero_le _, Nat.zero_le _⟩ d_M_sweep_26 (fun H locs hH => ?_)
      obtain ⟨g_6, h⟩ := gd_out h
      obtain ⟨v_7, hv_7, h⟩ := nm_out h
      refine mo_st 8 (by decide) (by decide) C0 hH (inB_in g_6) d_M_sweep_29 (fun H locs hH => ?_)
      rw [← hv_7] at hH
      obtain ⟨x1_8, hx1_8, h⟩ := nm_out h
      refine lv_iinc (v := x1_8) (lv' := [(1, .int x1_8), (0, .ref (q 0))]) hx hb d_M_sweep_30 hl (k := 1) rfl (by rw [hx1_8]; rfl) (by decide) rfl (fun ls hl => ?_)
      refine lv_goto (tgt := 8) hx hb d_M_sweep_33 (by decide) ?_
      exact ih _ _ _ _ _ h hH (lv_sub hl [1, 0] rfl)
def f_M_sweep (v : mS)  : Option (mS) := nm (sU v 0 9 16) fun v_1 => f_M_sweep_8 fu 0 v_1
set_option maxHeartbeats 4000000 in
set_option maxRecDepth 100000 in
theorem c_M_sweep {l : Launch} {D : va_G} {cI : ClassId} {q : Nat → Nat} {v : mS}  {o : mS} (h : f_M_sweep v  = some o) : mo_M l D cI q 2 y_M_sweep b_M_sweep 2 none [.ref (q 0)] v (mo_Qv D cI q o) := by
  refine mo_of (by decide +kernel) rfl (Nat.le_of_ble_eq_true rfl) ?_
  intro p e s m below meth c A ls C0 hr hl hH
  have hx := C0.1
  have hb := C0.2.1
  have hl : lv_has ls 2 [(0, .ref (q 0))] := hl
  unfold f_M_sweep at h
  refine lv_aload_n hx hb d_M_sweep_0 rfl (lv_at hl 0 rfl) ?_
  refine lv_bipush (v := 16) hx hb d_M_sweep_1 (by decide) ?_
  obtain ⟨v_1, hv_1, h⟩ := nm_out h
  refine mo_p_filled C0 hH d_M_sweep_3 (fun H locs hH => ?_)
  rw [← hv_1] at hH
  refine lv_iconst (v := 0) hx hb d_M_sweep_6 (by decide) ?_
  refine lv_istore_n (lv' := [(1, .int 0), (0, .ref (q 0))]) hx hb d_M_sweep_7 rfl hl (by decide) rfl (fun ls hl => ?_)
  exact w_M_sweep_8 C0 hr  fu _ _ _ _ _ h hH (lv_sub hl [1, 0] rfl)
theorem yy_M_run : mo_Y y_M_run b_M_run 4 (some .int) 2 := ⟨rfl, q_1069, q_1070, q_1071, by decide +kernel⟩
def f_M_run_24   (v : mS) : Option (Int32 × mS) := bi (f_M_fail v 1) fun r_3 v_1 => some (r_3, v_1)
set_option maxHeartbeats 4000000 in
set_option maxRecDepth 100000 in
theorem w_M_run_24 {p : Program} {l : Launch} {e : Env} {s : State} {m : MethodId} {args : Array Value} {below : List Frame} {meth : Method} {c : Code} {D : va_G} {cI : ClassId} {A : Nat → Prop} {q : Nat → Nat} {o : Int32 × mS} (C0 : mo_C b_M_run 4 D cI A p s m args meth c) (hr : meth.sig.returnType = (some .int)) : ∀  (v : mS) (H : Heap) (locs : List Loc) (ls : Array Slot), f_M_run_24   v = some o → mo_H D cI A s q v H locs → lv_has ls 4 [(0, .ref (q 0))] → W p l e (mo_rm 9) s m args below meth c H locs 0 0 (MQ below (mo_Qi D cI q o.1 o.2 A) args s 0 0 A) (F0 m 24 ls []) := by
  have hx := C0.1
  have hb := C0.2.1
  intro  v H locs ls h hH hl
  unfold f_M_run_24 at h
  refine lv_aload_n hx hb d_M_run_24 rfl (lv_at hl 0 rfl) ?_
  refine lv_iconst (v := 1) hx hb d_M_run_25 (by decide) ?_
  obtain ⟨r_3, v_1, hc_2, h⟩ := bi_out h
  refine mo_ci (r := r_3) (w := v_1) (as := [.int 1]) (rest := []) C0 hH (c_M_fail hc_2) yy_M_fail q_1053 q_109 (by decide) rfl hl.1 rfl (Nat.le_of_ble_eq_true rfl) ⟨Nat.zero_le _, Nat.zero_le _⟩ d_M_run_26 (fun H locs hH => ?_)
  exact mo_iret C0 hr hH d_M_run_29 h
def f_M_run_156 (K112 : mS → Option (Int32 × mS))  (v : mS) : Option (Int32 × mS) := K112 v
set_option maxHeartbeats 4000000 in
set_option maxRecDepth 100000 in
theorem w_M_run_156 {p : Program} {l : Launch} {e : Env} {s : State} {m : MethodId} {args : Array Value} {below : List Frame} {meth : Method} {c : Code} {D : va_G} {cI : ClassId} {A : Nat → Prop} {q : Nat → Nat} {o : Int32 × mS} (C0 : mo_C b_M_run 4 D cI A p s m args meth c) (hr : meth.sig.returnType = (some .int)) {K112 : mS → Option (Int32 × mS)} (hK112 : ∀  (v : mS) (H : Heap) (locs : List Loc) (ls : Array Slot), K112 v = some o → mo_H D cI A s q v H locs → lv_has ls 4 [(0, .ref (q 0))] → W p l e (mo_rm 9) s m args below meth c H locs 0 0 (MQ below (mo_Qi D cI q o.1 o.2 A) args s 0 0 A) (F0 m 112 ls [])) : ∀  (v : mS) (H : Heap) (locs : List Loc) (ls : Array Slot), f_M_run_156 K112  v = some o → mo_H D cI A s q v H locs → lv_has ls 4 [(0, .ref (q 0))] → W p l e (mo_rm 9) s m args below meth c H locs 0 0 (MQ below (mo_Qi D cI q o.1 o.2 A) args s 0 0 A) (F0 m 156 ls []) := by
  have hx := C0.1
  have hb := C0.2.1
  intro  v H locs ls h hH hl
  unfold f_M_run_156 at h
  refine lv_goto (tgt := 112) hx hb d_M_run_156 (by decide) ?_
  exact hK112  _ _ _ _ h hH (lv_sub hl [0] rfl)
def f_M_run_197  : Nat → Int32 → mS → Option (Int32 × mS)
  | 0, _, _ => none
  | n + 1, x3, v => if (v 0 37) ≤ x3 then (if (v 0 38) = 0 then (some (v 0 12, v)) else (nm (sU v 0 13 (v 0 38)) fun v_3 => nm (sU v_3 0 22 ((v_3 0 22) + 1)) fun v_4 => bi (f_M_fail v_4 3) fun r_7 v_5 => some (r_7, v_5))) else (gd (inB x3 17) (gd (inB x3 17) (nm (sU v 9 (x3 : Int32).toNatClampNeg (v 26 (x3 : Int32).toNatClampNeg)) fun v_10 => nm (x3 + 1) fun x3_11 => f_M_run_197 n x3_11 v_10)))
set_option maxHeartbeats 4000000 in
set_option maxRecDepth 100000 in
theorem w_M_run_197 {p : Program} {l : Launch} {e : Env} {s : State} {m : MethodId} {args : Array Value} {below : List Frame} {meth : Method} {c : Code} {D : va_G} {cI : ClassId} {A : Nat → Prop} {q : Nat → Nat} {o : Int32 × mS} (C0 : mo_C b_M_run 4 D cI A p s m args meth c) (hr : meth.sig.returnType = (some .int)) : ∀ (n : Nat) (x3 : Int32) (v : mS) (H : Heap) (locs : List Loc) (ls : Array Slot), f_M_run_197  n x3 v = some o → mo_H D cI A s q v H locs → lv_has ls 4 [(0, .ref (q 0)), (3, .int x3)] → W p l e (mo_rm 9) s m args below meth c H locs 0 0 (MQ below (mo_Qi D cI q o.1 o.2 A) args s 0 0 A) (F0 m 197 ls []) := by
  have hx := C0.1
  have hb := C0.2.1
  intro n
  induction n with
  | zero =>
    intro x3 v H locs ls h hH hl
    cases h
  | succ n ih =>
    intro x3 v H locs ls h hH hl
    rw [f_M_run_197] at h
    refine lv_iload_n hx hb d_M_run_197 rfl (lv_at hl 1 rfl) ?_
    refine lv_aload_n hx hb d_M_run_198 rfl (lv_at hl 0 rfl) ?_
    refine mo_g_gots C0 hH d_M_run_199 ?_
    refine lv_icmp_ge (tgt := 223) hx hb d_M_run_202 (by decide) (fun c_1 => ?_) (fun c_1 => ?_)
    · rw [if_pos c_1] at h
      refine lv_aload_n hx hb d_M_run_223 rfl (lv_at hl 0 rfl) ?_
      refine mo_g_gotError C0 hH d_M_run_224 ?_
      refine lv_if_ne (tgt := 235) hx hb d_M_run_227 (by decide) (fun c_2 => ?_) (fun c_2 => ?_)
      · rw [if_neg c_2] at h
        refine lv_aload_n hx hb d_M_run_235 rfl (lv_at hl 0 rfl) ?_
        refine lv_aload_n hx hb d_M_run_236 rfl (lv_at hl 0 rfl) ?_
        refine mo_g_gotError C0 hH d_M_run_237 ?_
        obtain ⟨v_3, hv_3, h⟩ := nm_out h
        refine mo_p_fault C0 hH d_M_run_240 (fun H locs hH => ?_)
        rw [← hv_3] at hH
        refine lv_aload_n hx hb d_M_run_243 rfl (lv_at hl 0 rfl) ?_
        refine lv_dup hx hb d_M_run_244 rfl ?_
        refine mo_g_errors C0 hH d_M_run_245 ?_
        refine lv_iconst (v := 1) hx hb d_M_run_248 (by decide) ?_
        refine lv_iadd hx hb d_M_run_249 ?_
        obtain ⟨v_4, hv_4, h⟩ := nm_out h
        refine mo_p_errors C0 hH d_M_run_250 (fun H locs hH => ?_)
        rw [← hv_4] at hH
        refine lv_aload_n hx hb d_M_run_253 rfl (lv_at hl 0 rfl) ?_
        refine lv_iconst (v := 3) hx hb d_M_run_254 (by decide) ?_
        obtain ⟨r_7, v_5, hc_6, h⟩ := bi_out h
        refine mo_ci (r := r_7) (w := v_5) (as := [.int 3]) (rest := []) C0 hH (c_M_fail hc_6) yy_M_fail q_1053 q_109 (by decide) rfl hl.1 rfl (Nat.le_of_ble_eq_true rfl) ⟨Nat.zero_le _, Nat.zero_le _⟩ d_M_run_255 (fun H locs hH => ?_)
        exact mo_iret C0 hr hH d_M_run_258 h
      · rw [if_pos c_2] at h
        refine lv_aload_n hx hb d_M_run_230 rfl (lv_at hl 0 rfl) ?_
        refine mo_g_outputs C0 hH d_M_run_231 ?_
        exact mo_iret C0 hr hH d_M_run_234 h
    · rw [if_neg c_1] at h
      refine lv_aload_n hx hb d_M_run_205 rfl (lv_at hl 0 rfl) ?_
      refine mo_r_output C0 hH d_M_run_206 ?_
      refine lv_iload_n hx hb d_M_run_209 rfl (lv_at hl 1 rfl) ?_
      refine lv_aload_n hx hb d_M_run_210 rfl (lv_at hl 0 rfl) ?_
      refine mo_r_got C0 hH d_M_run_211 ?_
      refine lv_iload_n hx hb d_M_run_214 rfl (lv_at hl 1 rfl) ?_
      obtain ⟨g_8, h⟩ := gd_out h
      refine mo_ld 26 (by decide) (by decide) C0 hH (inB_in g_8) d_M_run_215 ?_
      obtain ⟨g_9, h⟩ := gd_out h
      obtain ⟨v_10, hv_10, h⟩ := nm_out h
      refine mo_st 9 (by decide) (by decide) C0 hH (inB_in g_9) d_M_run_216 (fun H locs hH => ?_)
      rw [← hv_10] at hH
      obtain ⟨x3_11, hx3_11, h⟩ := nm_out h
      refine lv_iinc (v := x3_11) (lv' := [(3, .int x3_11), (0, .ref (q 0))]) hx hb d_M_run_217 hl (k := 1) rfl (by rw [hx3_11]; rfl) (by decide) rfl (fun ls hl => ?_)
      refine lv_goto (tgt := 197) hx hb d_M_run_220 (by decide) ?_
      exact ih _ _ _ _ _ h hH (lv_sub hl [1, 0] rfl)
def f_M_run_159   (v : mS) : Option (Int32 × mS) := if (v 0 21) = 0 then (nm (sU v 0 12 (v 0 37)) fun v_2 => f_M_run_197 fu 0 v_2) else (nm (sU v 0 20 0) fun v_3 => nm (sU v_3 0 23 ((v_3 0 23) + 1)) fun v_4 => bi (f_M_fail v_4 4) fun r_7 v_5 => some (r_7, v_5))
set_option maxHeartbeats 4000000 in
set_option maxRecDepth 100000 in
theorem w_M_run_159 {p : Program} {l : Launch} {e : Env} {s : State} {m : MethodId} {args : Array Value} {below : List Frame} {meth : Method} {c : Code} {D : va_G} {cI : ClassId} {A : Nat → Prop} {q : Nat → Nat} {o : Int32 × mS} (C0 : mo_C b_M_run 4 D cI A p s m args meth c) (hr : meth.sig.returnType = (some .int)) : ∀  (v : mS) (H : Heap) (locs : List Loc) (ls : Array Slot), f_M_run_159   v = some o → mo_H D cI A s q v H locs → lv_has ls 4 [(0, .ref (q 0))] → W p l e (mo_rm 9) s m args below meth c H locs 0 0 (MQ below (mo_Qi D cI q o.1 o.2 A) args s 0 0 A) (F0 m 159 ls []) := by
  have hx := C0.1
  have hb := C0.2.1
  intro  v H locs ls h hH hl
  unfold f_M_run_159 at h
  refine lv_aload_n hx hb d_M_run_159 rfl (lv_at hl 0 rfl) ?_
  refine mo_g_noRoom C0 hH d_M_run_160 ?_
  refine lv_if_eq (tgt := 187) hx hb d_M_run_163 (by decide) (fun c_1 => ?_) (fun c_1 => ?_)
  · rw [if_pos c_1] at h
    refine lv_aload_n hx hb d_M_run_187 rfl (lv_at hl 0 rfl) ?_
    refine lv_aload_n hx hb d_M_run_188 rfl (lv_at hl 0 rfl) ?_
    refine mo_g_gots C0 hH d_M_run_189 ?_
    obtain ⟨v_2, hv_2, h⟩ := nm_out h
    refine mo_p_outputs C0 hH d_M_run_192 (fun H locs hH => ?_)
    rw [← hv_2] at hH
    refine lv_iconst (v := 0) hx hb d_M_run_195 (by decide) ?_
    refine lv_istore_n (lv' := [(3, .int 0), (0, .ref (q 0))]) hx hb d_M_run_196 rfl hl (by decide) rfl (fun ls hl => ?_)
    exact w_M_run_197 C0 hr  fu _ _ _ _ _ h hH (lv_sub hl [1, 0] rfl)
  · rw [if_neg c_1] at h
    refine lv_aload_n hx hb d_M_run_166 rfl (lv_at hl 0 rfl) ?_
    refine lv_iconst (v := 0) hx hb d_M_run_167 (by decide) ?_
    obtain ⟨v_3, hv_3, h⟩ := nm_out h
    refine mo_p_steps C0 hH d_M_run_168 (fun H locs hH => ?_)
    rw [← hv_3] at hH
    refine lv_aload_n hx hb d_M_run_171 rfl (lv_at hl 0 rfl) ?_
    refine lv_dup hx hb d_M_run_172 rfl ?_
    refine mo_g_roomless C0 hH d_M_run_173 ?_
    refine lv_iconst (v := 1) hx hb d_M_run_176 (by decide) ?_
    refine lv_iadd hx hb d_M_run_177 ?_
    obtain ⟨v_4, hv_4, h⟩ := nm_out h
    refine mo_p_roomless C0 hH d_M_run_178 (fun H locs hH => ?_)
    rw [← hv_4] at hH
    refine lv_aload_n hx hb d_M_run_181 rfl (lv_at hl 0 rfl) ?_
    refine lv_iconst (v := 4) hx hb d_M_run_182 (by decide) ?_
    obtain ⟨r_7, v_5, hc_6, h⟩ := bi_out h
    refine mo_ci (r := r_7) (w := v_5) (as := [.int 4]) (rest := []) C0 hH (c_M_fail hc_6) yy_M_fail q_1053 q_109 (by decide) rfl hl.1 rfl (Nat.le_of_ble_eq_true rfl) ⟨Nat.zero_le _, Nat.zero_le _⟩ d_M_run_183 (fun H locs hH => ?_)
    exact mo_iret C0 hr hH d_M_run_186 h
def f_M_run_112  : Nat → mS → Option (Int32 × mS)
  | 0, _ => none
  | n + 1, v => if (v 0 24) ≤ 0 then (f_M_run_159 v) else (if (v 0 21) = 0 then (nm ((v 0 24) - 1) fun x3_3 => gd (inB x3_3 10) (if (v 17 (x3_3 : Int32).toNatClampNeg) = 5 then (bv (f_M_keepRow v x3_3) fun v_8 => f_M_run_156 (f_M_run_112 n) v_8) else (bv (f_M_step v x3_3) fun v_6 => f_M_run_156 (f_M_run_112 n) v_6))) else (f_M_run_159 v))
set_option maxHeartbeats 4000000 in
set_option maxRecDepth 100000 in
theorem w_M_run_112 {p : Program} {l : Launch} {e : Env} {s : State} {m : MethodId} {args : Array Value} {below : List Frame} {meth : Method} {c : Code} {D : va_G} {cI : ClassId} {A : Nat → Prop} {q : Nat → Nat} {o : Int32 × mS} (C0 : mo_C b_M_run 4 D cI A p s m args meth c) (hr : meth.sig.returnType = (some .int)) : ∀ (n : Nat)  (v : mS) (H : Heap) (locs : List Loc) (ls : Array Slot), f_M_run_112  n  v = some o → mo_H D cI A s q v H locs → lv_has ls 4 [(0, .ref (q 0))] → W p l e (mo_rm 9) s m args below meth c H locs 0 0 (MQ below (mo_Qi D cI q o.1 o.2 A) args s 0 0 A) (F0 m 112 ls []) := by
  have hx := C0.1
  have hb := C0.2.1
  intro n
  induction n with
  | zero =>
    intro  v H locs ls h hH hl
    cases h
  | succ n ih =>
    intro  v H locs ls h hH hl
    rw [f_M_run_112] at h
    refine lv_aload_n hx hb d_M_run_112 rfl (lv_at hl 0 rfl) ?_
    refine mo_g_frames C0 hH d_M_run_113 ?_
    refine lv_if_le (tgt := 159) hx hb d_M_run_116 (by decide) (fun c_1 => ?_) (fun c_1 => ?_)
    · rw [if_pos c_1] at h
      exact w_M_run_159 C0 hr   _ _ _ _ h hH (lv_sub hl [0] rfl)
    · rw [if_neg c_1] at h
      refine lv_aload_n hx hb d_M_run_119 rfl (lv_at hl 0 rfl) ?_
      refine mo_g_noRoom C0 hH d_M_run_120 ?_
      refine lv_if_ne (tgt := 159) hx hb d_M_run_123 (by decide) (fun c_2 => ?_) (fun c_2 => ?_)
      · rw [if_neg c_2] at h
        exact w_M_run_159 C0 hr   _ _ _ _ h hH (lv_sub hl [0] rfl)
      · rw [if_pos c_2] at h
        refine lv_aload_n hx hb d_M_run_126 rfl (lv_at hl 0 rfl) ?_
        refine mo_g_frames C0 hH d_M_run_127 ?_
        refine lv_iconst (v := 1) hx hb d_M_run_130 (by decide) ?_
        refine lv_isub hx hb d_M_run_131 ?_
        obtain ⟨x3_3, hx3_3, h⟩ := nm_out h
        refine fu_i hx3_3 ?_
        refine lv_istore_n (lv' := [(3, .int x3_3), (0, .ref (q 0))]) hx hb d_M_run_132 rfl hl (by decide) rfl (fun ls hl => ?_)
        refine lv_aload_n hx hb d_M_run_133 rfl (lv_at hl 1 rfl) ?_
        refine mo_r_phase C0 hH d_M_run_134 ?_
        refine lv_iload_n hx hb d_M_run_137 rfl (lv_at hl 0 rfl) ?_
        obtain ⟨g_4, h⟩ := gd_out h
        refine mo_ld 17 (by decide) (by decide) C0 hH (inB_in g_4) d_M_run_138 ?_
        refine lv_iconst (v := 5) hx hb d_M_run_139 (by decide) ?_
        refine lv_icmp_ne (tgt := 151) hx hb d_M_run_140 (by decide) (fun c_5 => ?_) (fun c_5 => ?_)
        · rw [if_neg c_5] at h
          refine lv_aload_n hx hb d_M_run_151 rfl (lv_at hl 1 rfl) ?_
          refine lv_iload_n hx hb d_M_run_152 rfl (lv_at hl 0 rfl) ?_
          obtain ⟨v_6, hc_7, h⟩ := bv_out h
          refine mo_cv (w := v_6) (as := [.int x3_3]) (rest := []) C0 hH (c_M_step hc_7) yy_M_step q_1099 q_109 (by decide) rfl hl.1 rfl (Nat.le_of_ble_eq_true rfl) ⟨Nat.zero_le _, Nat.zero_le _⟩ d_M_run_153 (fun H locs hH => ?_)
          exact w_M_run_156 C0 hr ih  _ _ _ _ h hH (lv_sub hl [1] rfl)
        · rw [if_pos c_5] at h
          refine lv_aload_n hx hb d_M_run_143 rfl (lv_at hl 1 rfl) ?_
          refine lv_iload_n hx hb d_M_run_144 rfl (lv_at hl 0 rfl) ?_
          obtain ⟨v_8, hc_9, h⟩ := bv_out h
          refine mo_cv (w := v_8) (as := [.int x3_3]) (rest := []) C0 hH (c_M_keepRow hc_9) yy_M_keepRow q_1095 q_109 (by decide) rfl hl.1 rfl (Nat.le_of_ble_eq_true rfl) ⟨Nat.zero_le _, Nat.zero_le _⟩ d_M_run_145 (fun H locs hH => ?_)
          refine lv_goto (tgt := 156) hx hb d_M_run_148 (by decide) ?_
          exact w_M_run_156 C0 hr ih  _ _ _ _ h hH (lv_sub hl [1] rfl)
def f_M_run_80  : Nat → Int32 → Int32 → Int32 → mS → Option (Int32 × mS)
  | 0, _, _, _, _ => none
  | n + 1, x1, x2, x3, v => if 4 ≤ x3 then (gd (inB x2 8) (bv (f_M_work v (32 * x1) (v 8 (x2 : Int32).toNatClampNeg)) fun v_3 => f_M_run_112 fu v_3)) else (gd (inB x3 4) (nm (sU v 14 (x3 : Int32).toNatClampNeg 4) fun v_6 => nm (x3 + 1) fun x3_7 => f_M_run_80 n x1 x2 x3_7 v_6))
set_option maxHeartbeats 4000000 in
set_option maxRecDepth 100000 in
theorem w_M_run_80 {p : Program} {l : Launch} {e : Env} {s : State} {m : MethodId} {args : Array Value} {below : List Frame} {meth : Method} {c : Code} {D : va_G} {cI : ClassId} {A : Nat → Prop} {q : Nat → Nat} {o : Int32 × mS} (C0 : mo_C b_M_run 4 D cI A p s m args meth c) (hr : meth.sig.returnType = (some .int)) : ∀ (n : Nat) (x1 : Int32) (x2 : Int32) (x3 : Int32) (v : mS) (H : Heap) (locs : List Loc) (ls : Array Slot), f_M_run_80  n x1 x2 x3 v = some o → mo_H D cI A s q v H locs → lv_has ls 4 [(0, .ref (q 0)), (1, .int x1), (2, .int x2), (3, .int x3)] → W p l e (mo_rm 9) s m args below meth c H locs 0 0 (MQ below (mo_Qi D cI q o.1 o.2 A) args s 0 0 A) (F0 m 80 ls []) := by
  have hx := C0.1
  have hb := C0.2.1
  intro n
  induction n with
  | zero =>
    intro x1 x2 x3 v H locs ls h hH hl
    cases h
  | succ n ih =>
    intro x1 x2 x3 v H locs ls h hH hl
    rw [f_M_run_80] at h
    refine lv_iload_n hx hb d_M_run_80 rfl (lv_at hl 3 rfl) ?_
    refine lv_iconst (v := 4) hx hb d_M_run_81 (by decide) ?_
    refine lv_icmp_ge (tgt := 98) hx hb d_M_run_82 (by decide) (fun c_1 => ?_) (fun c_1 => ?_)
    · rw [if_pos c_1] at h
      refine lv_aload_n hx hb d_M_run_98 rfl (lv_at hl 0 rfl) ?_
      refine lv_bipush (v := 32) hx hb d_M_run_99 (by decide) ?_
      refine lv_iload_n hx hb d_M_run_101 rfl (lv_at hl 1 rfl) ?_
      refine lv_imul hx hb d_M_run_102 ?_
      refine lv_aload_n hx hb d_M_run_103 rfl (lv_at hl 0 rfl) ?_
      refine mo_r_slot C0 hH d_M_run_104 ?_
      refine lv_iload_n hx hb d_M_run_107 rfl (lv_at hl 2 rfl) ?_
      obtain ⟨g_2, h⟩ := gd_out h
      refine mo_ld 8 (by decide) (by decide) C0 hH (inB_in g_2) d_M_run_108 ?_
      obtain ⟨v_3, hc_4, h⟩ := bv_out h
      refine mo_cv (w := v_3) (as := [.int (32 * x1), .int (v 8 (x2 : Int32).toNatClampNeg)]) (rest := []) C0 hH (c_M_work hc_4) yy_M_work q_1091 q_109 (by decide) rfl hl.1 rfl (Nat.le_of_ble_eq_true rfl) ⟨Nat.zero_le _, Nat.zero_le _⟩ d_M_run_109 (fun H locs hH => ?_)
      exact w_M_run_112 C0 hr  fu _ _ _ _ h hH (lv_sub hl [0] rfl)
    · rw [if_neg c_1] at h
      refine lv_aload_n hx hb d_M_run_85 rfl (lv_at hl 0 rfl) ?_
      refine mo_r_variable C0 hH d_M_run_86 ?_
      refine lv_iload_n hx hb d_M_run_89 rfl (lv_at hl 3 rfl) ?_
      refine lv_iconst (v := 4) hx hb d_M_run_90 (by decide) ?_
      obtain ⟨g_5, h⟩ := gd_out h
      obtain ⟨v_6, hv_6, h⟩ := nm_out h
      refine mo_st 14 (by decide) (by decide) C0 hH (inB_in g_5) d_M_run_91 (fun H locs hH => ?_)
      rw [← hv_6] at hH
      obtain ⟨x3_7, hx3_7, h⟩ := nm_out h
      refine lv_iinc (v := x3_7) (lv' := [(3, .int x3_7), (0, .ref (q 0)), (1, .int x1), (2, .int x2)]) hx hb d_M_run_92 hl (k := 3) rfl (by rw [hx3_7]; rfl) (by decide) rfl (fun ls hl => ?_)
      refine lv_goto (tgt := 80) hx hb d_M_run_95 (by decide) ?_
      exact ih _ _ _ _ _ _ _ h hH (lv_sub hl [1, 2, 3, 0] rfl)
def f_M_run (v : mS) (x1 : Int32) (x2 : Int32) : Option (Int32 × mS) := nm (sU v 0 0 0) fun v_1 => bi (f_M_within v_1 x1 0 3) fun r_4 v_2 => if r_4 = 0 then (f_M_run_24 v_2) else (bi (f_M_within v_2 x2 0 7) fun r_8 v_6 => if r_8 = 0 then (f_M_run_24 v_6) else (bi (f_M_right v_6 x1) fun r_12 v_10 => if r_12 = 0 then (bi (f_M_fail v_10 2) fun r_24 v_22 => some (r_24, v_22)) else (bv (f_M_sweep v_10) fun v_14 => nm (sU v_14 0 12 0) fun v_16 => nm (sU v_16 0 13 4) fun v_17 => nm (sU v_17 0 20 0) fun v_18 => nm (sU v_18 0 21 0) fun v_19 => nm (sU v_19 0 24 0) fun v_20 => nm (sU v_20 0 38 0) fun v_21 => f_M_run_80 fu x1 x2 0 v_21)))
set_option maxHeartbeats 4000000 in
set_option maxRecDepth 100000 in
theorem c_M_run {l : Launch} {D : va_G} {cI : ClassId} {q : Nat → Nat} {v : mS} {x1 : Int32} {x2 : Int32} {o : Int32 × mS} (h : f_M_run v x1 x2 = some o) : mo_M l D cI q 9 y_M_run b_M_run 4 (some .int) [.ref (q 0), .int x1, .int x2] v (mo_Qi D cI q o.1 o.2) := by
  refine mo_of (by decide +kernel) rfl (Nat.le_of_ble_eq_true rfl) ?_
  intro p e s m below meth c A ls C0 hr hl hH
  have hx := C0.1
  have hb := C0.2.1
  have hl : lv_has ls 4 [(0, .ref (q 0)), (1, .int x1), (2, .int x2)] := hl
  unfold f_M_run at h
  refine lv_aload_n hx hb d_M_run_0 rfl (lv_at hl 0 rfl) ?_
  refine lv_iconst (v := 0) hx hb d_M_run_1 (by decide) ?_
  obtain ⟨v_1, hv_1, h⟩ := nm_out h
  refine mo_p_code C0 hH d_M_run_2 (fun H locs hH => ?_)
  rw [← hv_1] at hH
  refine lv_iload_n hx hb d_M_run_5 rfl (lv_at hl 1 rfl) ?_
  refine lv_iconst (v := 0) hx hb d_M_run_6 (by decide) ?_
  refine lv_iconst (v := 3) hx hb d_M_run_7 (by decide) ?_
  obtain ⟨r_4, v_2, hc_3, h⟩ := bi_out h
  refine mo_si (r := r_4) (w := v_2) (as := [.int x1, .int 0, .int 3]) (rest := []) C0 hH (c_M_within hc_3) yy_M_within q_1050 q_109 (by decide) rfl hl.1 rfl (Nat.le_of_ble_eq_true rfl) ⟨Nat.zero_le _, Nat.zero_le _⟩ d_M_run_8 (fun H locs hH => ?_)
  refine lv_if_eq (tgt := 24) hx hb d_M_run_11 (by decide) (fun c_5 => ?_) (fun c_5 => ?_)
  · rw [if_pos c_5] at h
    exact w_M_run_24 C0 hr   _ _ _ _ h hH (lv_sub hl [0] rfl)
  · rw [if_neg c_5] at h
    refine lv_iload_n hx hb d_M_run_14 rfl (lv_at hl 2 rfl) ?_
    refine lv_iconst (v := 0) hx hb d_M_run_15 (by decide) ?_
    refine lv_bipush (v := 7) hx hb d_M_run_16 (by decide) ?_
    obtain ⟨r_8, v_6, hc_7, h⟩ := bi_out h
    refine mo_si (r := r_8) (w := v_6) (as := [.int x2, .int 0, .int 7]) (rest := []) C0 hH (c_M_within hc_7) yy_M_within q_1050 q_109 (by decide) rfl hl.1 rfl (Nat.le_of_ble_eq_true rfl) ⟨Nat.zero_le _, Nat.zero_le _⟩ d_M_run_18 (fun H locs hH => ?_)
    refine lv_if_ne (tgt := 30) hx hb d_M_run_21 (by decide) (fun c_9 => ?_) (fun c_9 => ?_)
    · rw [if_neg c_9] at h
      refine lv_aload_n hx hb d_M_run_30 rfl (lv_at hl 0 rfl) ?_
      refine lv_iload_n hx hb d_M_run_31 rfl (lv_at hl 1 rfl) ?_
      obtain ⟨r_12, v_10, hc_11, h⟩ := bi_out h
      refine mo_ci (r := r_12) (w := v_10) (as := [.int x1]) (rest := []) C0 hH (c_M_right hc_11) yy_M_right q_1072 q_109 (by decide) rfl hl.1 rfl (Nat.le_of_ble_eq_true rfl) ⟨Nat.zero_le _, Nat.zero_le _⟩ d_M_run_32 (fun H locs hH => ?_)
      refine lv_if_ne (tgt := 44) hx hb d_M_run_35 (by decide) (fun c_13 => ?_) (fun c_13 => ?_)
      · rw [if_neg c_13] at h
        refine lv_aload_n hx hb d_M_run_44 rfl (lv_at hl 0 rfl) ?_
        obtain ⟨v_14, hc_15, h⟩ := bv_out h
        refine mo_cv (w := v_14) (as := []) (rest := []) C0 hH (c_M_sweep hc_15) yy_M_sweep q_1079 q_109 (by decide) rfl hl.1 rfl (Nat.le_of_ble_eq_true rfl) ⟨Nat.zero_le _, Nat.zero_le _⟩ d_M_run_45 (fun H locs hH => ?_)
        refine lv_aload_n hx hb d_M_run_48 rfl (lv_at hl 0 rfl) ?_
        refine lv_iconst (v := 0) hx hb d_M_run_49 (by decide) ?_
        obtain ⟨v_16, hv_16, h⟩ := nm_out h
        refine mo_p_outputs C0 hH d_M_run_50 (fun H locs hH => ?_)
        rw [← hv_16] at hH
        refine lv_aload_n hx hb d_M_run_53 rfl (lv_at hl 0 rfl) ?_
        refine lv_iconst (v := 4) hx hb d_M_run_54 (by decide) ?_
        obtain ⟨v_17, hv_17, h⟩ := nm_out h
        refine mo_p_fault C0 hH d_M_run_55 (fun H locs hH => ?_)
        rw [← hv_17] at hH
        refine lv_aload_n hx hb d_M_run_58 rfl (lv_at hl 0 rfl) ?_
        refine lv_iconst (v := 0) hx hb d_M_run_59 (by decide) ?_
        obtain ⟨v_18, hv_18, h⟩ := nm_out h
        refine mo_p_steps C0 hH d_M_run_60 (fun H locs hH => ?_)
        rw [← hv_18] at hH
        refine lv_aload_n hx hb d_M_run_63 rfl (lv_at hl 0 rfl) ?_
        refine lv_iconst (v := 0) hx hb d_M_run_64 (by decide) ?_
        obtain ⟨v_19, hv_19, h⟩ := nm_out h
        refine mo_p_noRoom (Or.inl rfl) C0 hH d_M_run_65 (fun H locs hH => ?_)
        rw [← hv_19] at hH
        refine lv_aload_n hx hb d_M_run_68 rfl (lv_at hl 0 rfl) ?_
        refine lv_iconst (v := 0) hx hb d_M_run_69 (by decide) ?_
        obtain ⟨v_20, hv_20, h⟩ := nm_out h
        refine mo_p_frames C0 hH d_M_run_70 (fun H locs hH => ?_)
        rw [← hv_20] at hH
        refine lv_aload_n hx hb d_M_run_73 rfl (lv_at hl 0 rfl) ?_
        refine lv_iconst (v := 0) hx hb d_M_run_74 (by decide) ?_
        obtain ⟨v_21, hv_21, h⟩ := nm_out h
        refine mo_p_gotError C0 hH d_M_run_75 (fun H locs hH => ?_)
        rw [← hv_21] at hH
        refine lv_iconst (v := 0) hx hb d_M_run_78 (by decide) ?_
        refine lv_istore_n (lv' := [(3, .int 0), (0, .ref (q 0)), (1, .int x1), (2, .int x2)]) hx hb d_M_run_79 rfl hl (by decide) rfl (fun ls hl => ?_)
        exact w_M_run_80 C0 hr  fu _ _ _ _ _ _ _ h hH (lv_sub hl [1, 2, 3, 0] rfl)
      · rw [if_pos c_13] at h
        refine lv_aload_n hx hb d_M_run_38 rfl (lv_at hl 0 rfl) ?_
        refine lv_iconst (v := 2) hx hb d_M_run_39 (by decide) ?_
        obtain ⟨r_24, v_22, hc_23, h⟩ := bi_out h
        refine mo_ci (r := r_24) (w := v_22) (as := [.int 2]) (rest := []) C0 hH (c_M_fail hc_23) yy_M_fail q_1053 q_109 (by decide) rfl hl.1 rfl (Nat.le_of_ble_eq_true rfl) ⟨Nat.zero_le _, Nat.zero_le _⟩ d_M_run_40 (fun H locs hH => ?_)
        exact mo_iret C0 hr hH d_M_run_43 h
    · rw [if_pos c_9] at h
      exact w_M_run_24 C0 hr   _ _ _ _ h hH (lv_sub hl [0] rfl)
