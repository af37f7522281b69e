/-! constructors: Values -/
abbrev eI (Z : bZ) (n : Nat) (f : Nat → Int32) : va_E := .inl (Z.2.1, (n, .inl f))
section KD
variable {p : Program} {l : Launch} {e : Env} {R : Room} {s : State} {m : MethodId} {args : Array Value} {below : List Frame} {meth : Method} {c : Code} {H : Heap} {locs : List Loc} {cells slots : Nat} {Q : State → Prop}
variable {cc : ByteArray} {pc : Nat} {ls : Array Slot} {rest st0 : List Value} {Z : bZ} {A : Nat → Prop} {w X wc : va_W} {nL : Nat} {own C : String} {T : u_T} {N ci ix : Nat}
theorem bc_get {k k0 a : Nat} {fs : List Value} {v : Value} (C0 : bn_C C cc nL Z A p l s m args meth c) (hH : bc_H Z A s w H locs) (hk0 : w[k0]? = some (a, .inr (ci, fs))) (hc : cl[ci]? = some (C, T, N)) (hin : ∀ x ∈ u_ws C T N, x ∈ al) (hT : ∀ k, (T k).1 = C) (hk : k < N) (hl : Cond.fieldLink C ix C (T k).2.1 (T k).2.2.1 ∈ al) (hdg : decode cc pc = .ok (.getfield ix, 3)) (hv : fs[k]? = some v)
    (kk : W p l e R s m args below meth c H locs cells slots Q (F0 m (pc + 3) ls (v :: rest))) : W p l e R s m args below meth c H locs cells slots Q (F0 m pc ls (.ref a :: rest)) := by
  obtain ⟨hx, hb, hown, hts, hK, -⟩ := C0
  exact va_get (D := Z.1) (ci := ci) (v := v) (C := C) (T := T) (N := N) hx hb hts hin hown hK hH.1 k0 hk0 hc k hk (hts _ hl) (fun x h9 => by rw [hT] at h9; exact h9) hv hdg kk
theorem bc_put {k k0 a : Nat} {fs : List Value} {v : Value} {ty0 : FieldType} (C0 : bn_C C cc nL Z A p l s m args meth c) (hH : bc_H Z A s w H locs) (hk0 : w[k0]? = some (a, .inr (ci, fs))) (hc : cl[ci]? = some (C, T, N)) (hin : ∀ x ∈ u_ws C T N, x ∈ al) (ty : Nat → FieldType) (hty : ∀ k, k < N → parseFieldDescriptor (T k).2.2.1 = some (ty k)) (hnm : ∀ a, a < N → ∀ b, b < N → a ≠ b → (T a).2.1 ≠ (T b).2.1) (hT : ∀ k, (T k).1 = C) (hk : k < N) (hl : Cond.fieldLink C ix C (T k).2.1 (T k).2.2.1 ∈ al) (hf : (T k).2.2.2 = false) (hd : parseFieldDescriptor (T k).2.2.1 = some ty0) (h1 : narrow ty0 v = v) (h2 : fits ty0 v = true) (h3 : k < fs.length) (hdg : decode cc pc = .ok (.putfield ix, 3))
    (kk : ∀ (H1 : Heap) (locs1 : List Loc), bc_H Z A s (w.set k0 (a, .inr (ci, fs.set k v))) H1 locs1 → W p l e R s m args below meth c H1 locs1 cells slots Q (F0 m (pc + 3) ls rest)) : W p l e R s m args below meth c H locs cells slots Q (F0 m pc ls (v :: .ref a :: rest)) := by
  obtain ⟨hx, hb, hown, hts, hK, -⟩ := C0
  exact va_put (D := Z.1) (ci := ci) (v := v) (ty := ty0) (C := C) (T := T) (N := N) hx hb hts hin ty hty hnm hown hK hH.1 hH.2.1 hH.2.2 k0 hk0 hc k hk (hts _ hl) (fun x h9 => by rw [hT] at h9; exact h9) hf hd h1 h2 h3 hdg (fun H1 locs1 hP hD hS => kk H1 locs1 ⟨hP, hD, hS⟩)
theorem eI_fit {n : Nat} {f : Nat → Int32} {cA : ClassId} : ∀ (i : Nat) (v : Value), (vp_cell cA (n, .inl f)).slots[i]? = some v → fits .int v = true := by
  intro i v h
  have h : (arrV cA n (fun k => .int (f k))).slots[i]? = some v := h
  unfold arrV at h
  dsimp only at h
  rw [Array.getElem?_ofFn] at h
  by_cases hi : i < n
  · rw [dif_pos hi] at h
    cases h
    rfl
  · rw [dif_neg hi] at h
    cases h
end KD
set_option maxHeartbeats 8000000 in
set_option maxRecDepth 100000 in
theorem c_V_init {l : Launch} {Z : bZ} (hl0 : l.stackTraces = false) (h0 : Nat) : bc_M l Z 1 4 1060 y_V_init b_V_init 2 [.ref h0] [(h0, .inr (4, [.null, .null, .null, .null, .int 0]))] (fun w1 => ∃ qi qn qc qb, w1 = [(h0, .inr (4, [.ref qi, .ref qn, .ref qc, .ref qb, .int 118])), (qi, eI Z 24 (fun _ => 0)), (qn, eI Z 12 (fun _ => 0)), (qc, eI Z 512 (zc0 118)), (qb, eI Z 512 (zc0 118))]) := by
  refine bc_of hl0 (by decide +kernel) (Nat.le_of_ble_eq_true rfl) ?_
  intro p e s m below meth c A ls C0 hE hr hin hl hH
  have hx := C0.1
  have hb := C0.2.1
  have C0 : bn_C R_V b_V_init 2 Z A p l s m _ meth c := C0
  have hin : meth.name = "<init>" := hin
  obtain ⟨-, -, hown, hts, hK, hml, hA, hlocks, hX, -⟩ := id C0
  have hl : lv_has ls 2 [(0, .ref h0)] := hl
  obtain ⟨QQ, hQQ⟩ : ∃ z, z = MQ below (va_Qv (fun w1 => ∃ qi qn qc qb, w1 = [(h0, (.inr (4, [.ref qi, .ref qn, .ref qc, .ref qb, .int 118]) : va_E)), (qi, eI Z 24 (fun _ => 0)), (qn, eI Z 12 (fun _ => 0)), (qc, eI Z 512 (zc0 118)), (qb, eI Z 512 (zc0 118))]) (bc_B Z A) A) [Value.ref h0].toArray s 4 1060 A := ⟨_, rfl⟩
  rw [← hQQ]
  refine lv_aload_n hx hb d_V_init_0 rfl (lv_at hl 0 rfl) ?_
  refine W.objInit hx hb hown (hts _ q_135) (hts _ q_128) (hts _ q_129) rfl (by rw [hml]; exact hl.1) rfl d_V_init_1 (Nat.le_of_ble_eq_true rfl) (Nat.le_of_ble_eq_true rfl) ?_
  refine W.eq (g2 := F0 m 4 ls []) rfl ?_
  refine lv_aload_n hx hb d_V_init_4 rfl (lv_at hl 0 rfl) ?_
  refine lv_bipush (v := 24) hx hb d_V_init_5 (by decide) ?_
  refine bc_newI (N' := 24) C0 hH (by decide) rfl (by decide) (Nat.le_of_ble_eq_true rfl) (Nat.le_of_ble_eq_true rfl) d_V_init_7 (fun qi H hH => ?_)
  refine bc_putF0 (ix := 13) (ci := 4) (T := F_V) (N := 5) (k := 0) (ty0 := .array .int) (fs := [.null, .null, .null, .null, .int 0]) (w := [(qi, eI Z 24 (fun _ => 0))]) C0 hin hH rfl i_V t_V t_V_ok n_V F_V_own (by decide) q_151 rfl (by decide +kernel) rfl rfl (Nat.le_of_ble_eq_true rfl) d_V_init_9 (fun H locs hH => ?_)
  refine lv_aload_n hx hb d_V_init_12 rfl (lv_at hl 0 rfl) ?_
  refine lv_bipush (v := 12) hx hb d_V_init_13 (by decide) ?_
  refine bc_newI (N' := 12) C0 hH (by decide) rfl (by decide) (Nat.le_of_ble_eq_true rfl) (Nat.le_of_ble_eq_true rfl) d_V_init_15 (fun qn H hH => ?_)
  refine bc_putF0 (ix := 17) (ci := 4) (T := F_V) (N := 5) (k := 1) (ty0 := .array .int) (fs := [.ref qi, .null, .null, .null, .int 0]) (w := [(qi, eI Z 24 (fun _ => 0)), (qn, eI Z 12 (fun _ => 0))]) C0 hin hH rfl i_V t_V t_V_ok n_V F_V_own (by decide) q_152 rfl (by decide +kernel) rfl rfl (Nat.le_of_ble_eq_true rfl) d_V_init_17 (fun H locs hH => ?_)
  refine lv_aload_n hx hb d_V_init_20 rfl (lv_at hl 0 rfl) ?_
  refine lv_sipush (v := 512) hx hb d_V_init_21 (by decide) ?_
  refine bc_newI (N' := 512) C0 hH (by decide) rfl (by decide) (Nat.le_of_ble_eq_true rfl) (Nat.le_of_ble_eq_true rfl) d_V_init_24 (fun qc H hH => ?_)
  refine bc_put0 (ix := 20) (ci := 4) (T := F_V) (N := 5) (k := 2) (ty0 := .array .int) (fs := [.ref qi, .ref qn, .null, .null, .int 0]) (w := [(qi, eI Z 24 (fun _ => 0)), (qn, eI Z 12 (fun _ => 0)), (qc, eI Z 512 (fun _ => 0))]) C0 hH rfl i_V t_V t_V_ok n_V F_V_own (by decide) q_153 rfl (by decide +kernel) rfl rfl (Nat.le_of_ble_eq_true rfl) d_V_init_26 (fun H locs hH => ?_)
  refine lv_aload_n hx hb d_V_init_29 rfl (lv_at hl 0 rfl) ?_
  refine lv_bipush (v := 118) hx hb d_V_init_30 (by decide) ?_
  refine bc_put0 (ix := 23) (ci := 4) (T := F_V) (N := 5) (k := 4) (ty0 := .int) (fs := [.ref qi, .ref qn, .ref qc, .null, .int 0]) (w := [(qi, eI Z 24 (fun _ => 0)), (qn, eI Z 12 (fun _ => 0)), (qc, eI Z 512 (fun _ => 0))]) C0 hH rfl i_V t_V t_V_ok n_V F_V_own (by decide) q_155 rfl (by decide +kernel) rfl rfl (Nat.le_of_ble_eq_true rfl) d_V_init_32 (fun H locs hH => ?_)
  refine W.widen (k := 3) (n := 548) (by decide) (by decide) ?_
  have hH : bc_H Z A s ([(qi, eI Z 24 (fun _ => 0)), (qn, eI Z 12 (fun _ => 0))] ++ [(h0, .inr (4, [.ref qi, .ref qn, .ref qc, .null, .int 118])), (qc, eI Z 512 (zc0 0))]) H locs := by
    rw [zc0_0]
    exact bc_perm hH (List.perm_middle (l₁ := [(qi, eI Z 24 (fun _ => 0)), (qn, eI Z 12 (fun _ => 0))])).symm
  have hroom : 0 + 1 ≤ (bn_rm 1 4 1060).frames ∧ 8 + (4 + 11) + 60 * 0 ≤ (bn_rm 1 4 1060).locals := ⟨Nat.le_of_ble_eq_true rfl, Nat.le_of_ble_eq_true rfl⟩
  have hroom2 : 0 + 1 ≤ (bn_rm 1 4 1060).frames ∧ 8 + (2 + 11) + 60 * 0 ≤ (bn_rm 1 4 1060).locals := ⟨Nat.le_of_ble_eq_true rfl, Nat.le_of_ble_eq_true rfl⟩
  -- the end: a copy of the cells
  have tail : ∀ (H : Heap) (locs : List Loc) (ls : Array Slot), bc_H Z A s ([(qi, eI Z 24 (fun _ => 0)), (qn, eI Z 12 (fun _ => 0))] ++ [(h0, .inr (4, [.ref qi, .ref qn, .ref qc, .null, .int 118])), (qc, eI Z 512 (zc0 118))]) H locs → lv_has ls 2 [(0, .ref h0)] → W p l e (bn_rm 1 4 1060) s m [Value.ref h0].toArray below meth c H locs 3 548 QQ (F0 m 103 ls []) := by
    intro H locs ls hH hl
    refine lv_aload_n hx hb d_V_init_103 rfl (lv_at hl 0 rfl) ?_
    refine lv_aload_n hx hb d_V_init_104 rfl (lv_at hl 0 rfl) ?_
    refine bc_get (ix := 20) (ci := 4) (T := F_V) (N := 5) (k := 2) (k0 := 2) (fs := [.ref qi, .ref qn, .ref qc, .null, .int 118]) (v := .ref qc) C0 hH rfl rfl i_V F_V_own (by decide) q_153 d_V_init_105 rfl ?_
    refine va_clone hx hb (hml.trans hl.1.symm) hown (hts _ q_144) (hts _ q_145) (hts _ q_146) (hts _ q_147) (hts _ q_148) hE.2.2 hK hH.1 hH.2.1 hH.2.2 hA 3 0 (x := (512, .inl (zc0 118))) (ty := .int) rfl rfl (hK.2 0 (Z.2.1, .int) rfl).2 eI_fit (Nat.le_of_ble_eq_true rfl) (Nat.le_of_ble_eq_true rfl) (Nat.le_of_ble_eq_true rfl) (Nat.le_of_ble_eq_true rfl) d_V_init_108 (fun qb H1 hK1 hP hD hS => ?_)
    have hH : bc_H Z A s [(qi, eI Z 24 (fun _ => 0)), (qn, eI Z 12 (fun _ => 0)), (h0, .inr (4, [.ref qi, .ref qn, .ref qc, .null, .int 118])), (qc, eI Z 512 (zc0 118)), (qb, eI Z 512 (zc0 118))] H1 locs := ⟨hP, hD, hS⟩
    refine va_castA hx hb hown (hts _ q_150) hH.1 4 (x := (512, .inl (zc0 118))) rfl (hK.2 0 (Z.2.1, .int) rfl).2 d_V_init_111 ?_
    refine bc_put (ix := 40) (ci := 4) (T := F_V) (N := 5) (k := 3) (k0 := 2) (ty0 := .array .int) (fs := [.ref qi, .ref qn, .ref qc, .null, .int 118]) C0 hH rfl rfl i_V t_V t_V_ok n_V F_V_own (by decide) q_154 rfl (by decide +kernel) rfl rfl (Nat.le_of_ble_eq_true rfl) d_V_init_114 (fun H locs hH => ?_)
    have hH := bc_perm hH (List.perm_middle (l₁ := [(qi, eI Z 24 (fun _ => 0)), (qn, eI Z 12 (fun _ => 0))]) (a := (h0, (.inr (4, [.ref qi, .ref qn, .ref qc, .ref qb, .int 118]) : va_E))) (l₂ := [(qc, eI Z 512 (zc0 118)), (qb, eI Z 512 (zc0 118))]))
    rw [hQQ]
    exact bc_vret C0 hr hH d_V_init_117 ⟨qi, qn, qc, qb, rfl⟩ (Nat.le_of_ble_eq_true rfl) (Nat.le_of_ble_eq_true rfl)
  -- the small numbers
  have loop2 : ∀ (n k : Nat) (H : Heap) (locs : List Loc) (ls : Array Slot), k + n = 17 → bc_H Z A s ([(qi, eI Z 24 (fun _ => 0)), (qn, eI Z 12 (fun _ => 0))] ++ [(h0, .inr (4, [.ref qi, .ref qn, .ref qc, .null, .int 118])), (qc, eI Z 512 (zc0 (16 + 6 * k)))]) H locs → lv_has ls 2 [(0, .ref h0), (1, .int (zI k))] → W p l e (bn_rm 1 4 1060) s m [Value.ref h0].toArray below meth c H locs 3 548 QQ (F0 m 67 ls []) := by
    intro n
    induction n with
    | zero =>
      intro k H locs ls hk hH hl
      refine lv_iload_n hx hb d_V_init_67 rfl (lv_at hl 1 rfl) ?_
      refine lv_bipush (v := 16) hx hb d_V_init_68 (by decide) ?_
      refine lv_icmp_gt (tgt := 103) hx hb d_V_init_70 (by decide) (fun c_1 => ?_) (fun c_1 => ?_)
      · obtain rfl : k = 17 := by omega
        exact tail H locs ls hH (lv_sub hl [0] rfl)
      · exact absurd (by rw [show (16 : Int32) = zI 16 from rfl, zI_lt (by omega) (by omega)]; omega) c_1
    | succ n ih =>
      intro k H locs ls hk hH hl
      obtain ⟨z0, z1, z2, z3, z4, z5⟩ := zin_c (k := k) (by omega)
      refine lv_iload_n hx hb d_V_init_67 rfl (lv_at hl 1 rfl) ?_
      refine lv_bipush (v := 16) hx hb d_V_init_68 (by decide) ?_
      refine lv_icmp_gt (tgt := 103) hx hb d_V_init_70 (by decide) (fun c_1 => ?_) (fun c_1 => ?_)
      · rw [show (16 : Int32) = zI 16 from rfl, zI_lt (by omega) (by omega)] at c_1
        omega
      · refine lv_aload_n hx hb d_V_init_73 rfl (lv_at hl 0 rfl) ?_
        refine lv_aload_n hx hb d_V_init_74 rfl (lv_at hl 0 rfl) ?_
        refine lv_iload_n hx hb d_V_init_75 rfl (lv_at hl 1 rfl) ?_
        refine bc_cVi (X := [(qi, eI Z 24 (fun _ => 0)), (qn, eI Z 12 (fun _ => 0)), (h0, .inr (4, [.ref qi, .ref qn, .ref qc, .null, .int 118])), (qc, eI Z 512 (zc0 (16 + 6 * k)))]) (wc := []) (as := [.int (zI k)]) (rest := [.ref h0]) (k := 2) (ci := 4) (T := F_V) (N := 5) (fs := [.ref qi, .ref qn, .ref qc, .null, .int 118]) C0 hE (by rw [List.append_nil]; exact hH) rfl rfl (c_V_small0 hl0) yy_V_small q_140 hroom2 rfl hl.1 rfl (Nat.le_of_ble_eq_true rfl) ⟨Nat.le_of_ble_eq_true rfl, Nat.le_of_ble_eq_true rfl⟩ d_V_init_76 (fun r w1 H locs hw hH => ?_)
        obtain ⟨rfl, rfl⟩ := hw
        rw [List.append_nil] at hH
        refine lv_iconst (v := 3) hx hb d_V_init_79 (by decide) ?_
        refine lv_iconst (v := 0) hx hb d_V_init_80 (by decide) ?_
        refine bc_cV (X := [(qi, eI Z 24 (fun _ => 0)), (qn, eI Z 12 (fun _ => 0))]) (wc := [(h0, .inr (4, [.ref qi, .ref qn, .ref qc, .null, .int 118])), (qc, eI Z 512 (zc0 (16 + 6 * k)))]) (as := [.int (zI (16 + 6 * k)), .int 3, .int 0]) (rest := []) (k := 2) (ci := 4) (T := F_V) (N := 5) (fs := [.ref qi, .ref qn, .ref qc, .null, .int 118]) C0 hE hH rfl rfl (c_V_setHead0 hl0 rfl (by omega)) yy_V_setHead q_136 hroom rfl hl.1 rfl (Nat.le_of_ble_eq_true rfl) ⟨Nat.le_of_ble_eq_true rfl, Nat.le_of_ble_eq_true rfl⟩ d_V_init_81 (fun w1 H locs hw hH => ?_)
        subst hw
        have e4 : upd (upd (upd (upd (zc0 (16 + 6 * k)) (16 + 6 * k) 3) (16 + 6 * k + 1) 0) (16 + 6 * k + 2) 1) (16 + 6 * k + 3) 0 = zc0 (16 + 6 * k + 4) := zc0_4 z0 z1 z2 z3
        rw [e4] at hH
        refine lv_aload_n hx hb d_V_init_84 rfl (lv_at hl 0 rfl) ?_
        refine bc_get (ix := 20) (ci := 4) (T := F_V) (N := 5) (k := 2) (k0 := 2) (fs := [.ref qi, .ref qn, .ref qc, .null, .int 118]) (v := .ref qc) C0 hH rfl rfl i_V F_V_own (by decide) q_153 d_V_init_85 rfl ?_
        refine lv_aload_n hx hb d_V_init_88 rfl (lv_at hl 0 rfl) ?_
        refine lv_iload_n hx hb d_V_init_89 rfl (lv_at hl 1 rfl) ?_
        refine bc_cVi (X := [(qi, eI Z 24 (fun _ => 0)), (qn, eI Z 12 (fun _ => 0)), (h0, .inr (4, [.ref qi, .ref qn, .ref qc, .null, .int 118])), (qc, eI Z 512 (zc0 (16 + 6 * k + 4)))]) (wc := []) (as := [.int (zI k)]) (rest := [.ref qc]) (k := 2) (ci := 4) (T := F_V) (N := 5) (fs := [.ref qi, .ref qn, .ref qc, .null, .int 118]) C0 hE (by rw [List.append_nil]; exact hH) rfl rfl (c_V_small0 hl0) yy_V_small q_140 hroom2 rfl hl.1 rfl (Nat.le_of_ble_eq_true rfl) ⟨Nat.le_of_ble_eq_true rfl, Nat.le_of_ble_eq_true rfl⟩ d_V_init_90 (fun r w1 H locs hw hH => ?_)
        obtain ⟨rfl, rfl⟩ := hw
        rw [List.append_nil] at hH
        refine lv_iconst (v := 4) hx hb d_V_init_93 (by decide) ?_
        refine lv_iadd hx hb d_V_init_94 ?_
        have ea : zI (16 + 6 * k) + 4 = zI (16 + 6 * k + 4) := by rw [zl_4, zI_add]
        refine fu_i ea.symm ?_
        refine lv_iload_n hx hb d_V_init_95 rfl (lv_at hl 1 rfl) ?_
        refine bc_sto (k := 3) (n := 512) (f := zc0 (16 + 6 * k + 4)) C0 hH rfl (vpI (by omega) (by decide)) d_V_init_96 (fun H locs hH => ?_)
        have hH : bc_H Z A s ([(qi, eI Z 24 (fun _ => 0)), (qn, eI Z 12 (fun _ => 0))] ++ [(h0, .inr (4, [.ref qi, .ref qn, .ref qc, .null, .int 118])), (qc, eI Z 512 (upd (zc0 (16 + 6 * k + 4)) (zI (16 + 6 * k + 4)).toNatClampNeg (zI k)))]) H locs := hH
        rw [zI_toNat (by omega), zc0_6 z4 z5] at hH
        have ei : zI k + 1 = zI (k + 1) := by rw [zl_1, zI_add]
        refine lv_iinc (v := zI (k + 1)) (lv' := [(1, .int (zI (k + 1))), (0, .ref h0)]) hx hb d_V_init_97 hl (k := 1) rfl (by rw [← ei]; rfl) (by decide) rfl (fun ls hl => ?_)
        refine lv_goto (tgt := 67) hx hb d_V_init_100 (by decide) ?_
        exact ih (k + 1) H locs ls (by omega) hH (lv_sub hl [1, 0] rfl)
  -- the words null, false, true; no letters
  have mid : ∀ (H : Heap) (locs : List Loc) (ls : Array Slot), bc_H Z A s ([(qi, eI Z 24 (fun _ => 0)), (qn, eI Z 12 (fun _ => 0))] ++ [(h0, .inr (4, [.ref qi, .ref qn, .ref qc, .null, .int 118])), (qc, eI Z 512 (zc0 12))]) H locs → lv_has ls 2 [(0, .ref h0)] → W p l e (bn_rm 1 4 1060) s m [Value.ref h0].toArray below meth c H locs 3 548 QQ (F0 m 57 ls []) := by
    intro H locs ls hH hl
    obtain ⟨z0, z1, z2, z3⟩ := zin_b
    refine lv_aload_n hx hb d_V_init_57 rfl (lv_at hl 0 rfl) ?_
    refine lv_bipush (v := 12) hx hb d_V_init_58 (by decide) ?_
    refine lv_iconst (v := 4) hx hb d_V_init_60 (by decide) ?_
    refine lv_iconst (v := 0) hx hb d_V_init_61 (by decide) ?_
    refine bc_cV (X := [(qi, eI Z 24 (fun _ => 0)), (qn, eI Z 12 (fun _ => 0))]) (wc := [(h0, .inr (4, [.ref qi, .ref qn, .ref qc, .null, .int 118])), (qc, eI Z 512 (zc0 12))]) (as := [.int (zI 12), .int 4, .int 0]) (rest := []) (k := 2) (ci := 4) (T := F_V) (N := 5) (fs := [.ref qi, .ref qn, .ref qc, .null, .int 118]) C0 hE hH rfl rfl (c_V_setHead0 hl0 rfl (by decide)) yy_V_setHead q_136 hroom rfl hl.1 rfl (Nat.le_of_ble_eq_true rfl) ⟨Nat.le_of_ble_eq_true rfl, Nat.le_of_ble_eq_true rfl⟩ d_V_init_62 (fun w1 H locs hw hH => ?_)
    subst hw
    have e4 : upd (upd (upd (upd (zc0 12) 12 4) (12 + 1) 0) (12 + 2) 1) (12 + 3) 0 = zc0 (12 + 4) := zc0_4 z0 z1 z2 z3
    rw [e4] at hH
    refine lv_iconst (v := 0) hx hb d_V_init_65 (by decide) ?_
    refine lv_istore_n (lv' := [(1, .int 0), (0, .ref h0)]) hx hb d_V_init_66 rfl hl (by decide) rfl (fun ls hl => ?_)
    exact loop2 17 0 H locs ls (by omega) hH (lv_sub hl [1, 0] rfl)
  have loop1 : ∀ (n k : Nat) (H : Heap) (locs : List Loc) (ls : Array Slot), k + n = 3 → bc_H Z A s ([(qi, eI Z 24 (fun _ => 0)), (qn, eI Z 12 (fun _ => 0))] ++ [(h0, .inr (4, [.ref qi, .ref qn, .ref qc, .null, .int 118])), (qc, eI Z 512 (zc0 (4 * k)))]) H locs → lv_has ls 2 [(0, .ref h0), (1, .int (zI k))] → W p l e (bn_rm 1 4 1060) s m [Value.ref h0].toArray below meth c H locs 3 548 QQ (F0 m 37 ls []) := by
    intro n
    induction n with
    | zero =>
      intro k H locs ls hk hH hl
      refine lv_iload_n hx hb d_V_init_37 rfl (lv_at hl 1 rfl) ?_
      refine lv_iconst (v := 2) hx hb d_V_init_38 (by decide) ?_
      refine lv_icmp_gt (tgt := 57) hx hb d_V_init_39 (by decide) (fun c_1 => ?_) (fun c_1 => ?_)
      · obtain rfl : k = 3 := by omega
        exact mid H locs ls hH (lv_sub hl [0] rfl)
      · exact absurd (by rw [zl_2, zI_lt (by omega) (by omega)]; omega) c_1
    | succ n ih =>
      intro k H locs ls hk hH hl
      obtain ⟨z0, z1, z2, z3⟩ := zin_a (k := k) (by omega)
      refine lv_iload_n hx hb d_V_init_37 rfl (lv_at hl 1 rfl) ?_
      refine lv_iconst (v := 2) hx hb d_V_init_38 (by decide) ?_
      refine lv_icmp_gt (tgt := 57) hx hb d_V_init_39 (by decide) (fun c_1 => ?_) (fun c_1 => ?_)
      · rw [zl_2, zI_lt (by omega) (by omega)] at c_1
        omega
      · refine lv_aload_n hx hb d_V_init_42 rfl (lv_at hl 0 rfl) ?_
        refine lv_iload_n hx hb d_V_init_43 rfl (lv_at hl 1 rfl) ?_
        refine lv_iconst (v := 4) hx hb d_V_init_44 (by decide) ?_
        refine lv_imul hx hb d_V_init_45 ?_
        have em : zI k * 4 = zI (4 * k) := by rw [zl_4, zI_mul, Nat.mul_comm]
        refine fu_i em.symm ?_
        refine lv_iload_n hx hb d_V_init_46 rfl (lv_at hl 1 rfl) ?_
        refine lv_iconst (v := 0) hx hb d_V_init_47 (by decide) ?_
        refine bc_cV (X := [(qi, eI Z 24 (fun _ => 0)), (qn, eI Z 12 (fun _ => 0))]) (wc := [(h0, .inr (4, [.ref qi, .ref qn, .ref qc, .null, .int 118])), (qc, eI Z 512 (zc0 (4 * k)))]) (as := [.int (zI (4 * k)), .int (zI k), .int 0]) (rest := []) (k := 2) (ci := 4) (T := F_V) (N := 5) (fs := [.ref qi, .ref qn, .ref qc, .null, .int 118]) C0 hE hH rfl rfl (c_V_setHead0 hl0 rfl (by omega)) yy_V_setHead q_136 hroom rfl hl.1 rfl (Nat.le_of_ble_eq_true rfl) ⟨Nat.le_of_ble_eq_true rfl, Nat.le_of_ble_eq_true rfl⟩ d_V_init_48 (fun w1 H locs hw hH => ?_)
        subst hw
        have e4 : upd (upd (upd (upd (zc0 (4 * k)) (4 * k) (zI k)) (4 * k + 1) 0) (4 * k + 2) 1) (4 * k + 3) 0 = zc0 (4 * k + 4) := zc0_4 z0 z1 z2 z3
        rw [e4] at hH
        have ei : zI k + 1 = zI (k + 1) := by rw [zl_1, zI_add]
        refine lv_iinc (v := zI (k + 1)) (lv' := [(1, .int (zI (k + 1))), (0, .ref h0)]) hx hb d_V_init_51 hl (k := 1) rfl (by rw [← ei]; rfl) (by decide) rfl (fun ls hl => ?_)
        refine lv_goto (tgt := 37) hx hb d_V_init_54 (by decide) ?_
        exact ih (k + 1) H locs ls (by omega) hH (lv_sub hl [1, 0] rfl)
  refine lv_iconst (v := 0) hx hb d_V_init_35 (by decide) ?_
  refine lv_istore_n (lv' := [(1, .int 0), (0, .ref h0)]) hx hb d_V_init_36 rfl hl (by decide) rfl (fun ls hl => ?_)
  exact loop1 3 0 H locs ls (by omega) hH (lv_sub hl [1, 0] rfl)
