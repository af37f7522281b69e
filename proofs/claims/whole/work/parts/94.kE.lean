/-! constructors: Runner -/
def rlE (Z : bZ) (r i : Nat → Nat) (k : Nat) : va_W := (List.range k).flatMap (fun j => [(r j, .inr (2, [.ref (i j), .int 0, .int (-1)])), (i j, eI Z 16 (fun _ => 0))])
def rfE (r : Nat → Nat) (k : Nat) : Nat → Option Nat := fun j => if j < k then some (r j) else none
theorem rlE_s {Z : bZ} {r i : Nat → Nat} {k : Nat} : rlE Z r i (k + 1) = rlE Z r i k ++ [(r k, .inr (2, [.ref (i k), .int 0, .int (-1)])), (i k, eI Z 16 (fun _ => 0))] := by
  unfold rlE
  rw [List.range_succ, List.flatMap_append]
  rfl
theorem rlE_c {Z : bZ} {r i r' i' : Nat → Nat} : ∀ k, (∀ j, j < k → r' j = r j ∧ i' j = i j) → rlE Z r' i' k = rlE Z r i k := by
  intro k
  induction k with
  | zero => intro _; rfl
  | succ k ih =>
    intro h
    rw [rlE_s, rlE_s, ih (fun j hj => h j (by omega)), (h k (by omega)).1, (h k (by omega)).2]
theorem rlE_l {Z : bZ} {r i : Nat → Nat} : ∀ k, (rlE Z r i k).length = 2 * k := by
  intro k
  induction k with
  | zero => rfl
  | succ k ih =>
    rw [rlE_s, List.length_append, ih]
    show 2 * k + 2 = _
    omega
theorem rfE_up {r : Nat → Nat} {k q : Nat} : va_up (rfE r k) k (some q) = rfE (va_up r k q) (k + 1) := by
  funext j
  unfold rfE
  by_cases c : j = k
  · subst c
    rw [va_up_self, va_up_self, if_pos (by omega)]
  · rw [va_up_ne _ _ c, va_up_ne _ _ c]
    by_cases c2 : j < k
    · rw [if_pos c2, if_pos (by omega)]
    · rw [if_neg c2, if_neg (by omega)]
abbrev eQ (cA : ClassId) (n : Nat) (f : Nat → Option Nat) : va_E := .inl (cA, (n, .inr (.inr (.inr (.inr f)))))
set_option maxHeartbeats 8000000 in
set_option maxRecDepth 100000 in
theorem c_N_init {l : Launch} {Z : bZ} (hl0 : l.stackTraces = false) (h0 a1 a2 a3 : Nat) : bc_M l Z 2 34 324 y_N_init b_N_init 5 [.ref h0, .ref a1, .ref a2, .ref a3] [(h0, .inr (3, [.null, .null, .null, .null, .null, .int 0]))] (fun w1 => ∃ qv qr r i, w1 = (h0, .inr (3, [.ref a1, .ref a2, .ref qv, .ref qr, .ref a3, .int 0])) :: (qv, eI Z 4 (fun _ => 0)) :: (qr, eQ Z.2.2.2.1 16 (rfE r 16)) :: rlE Z r i 16) := by
  refine bc_of hl0 (by decide +kernel) (Nat.le_of_ble_eq_true rfl) ?_
  intro p e s m below meth c A ls C0 hE hr hin hl hH
  have hx := C0.1
  have hb := C0.2.1
  have C0 : bn_C R_N b_N_init 5 Z A p l s m _ meth c := C0
  have hin : meth.name = "<init>" := hin
  obtain ⟨-, -, hown, hts, hK, hml, hA, hlocks, hX, -⟩ := id C0
  have hl : lv_has ls 5 [(0, .ref h0), (1, .ref a1), (2, .ref a2), (3, .ref a3)] := hl
  obtain ⟨QQ, hQQ⟩ : ∃ z, z = MQ below (va_Qv (fun w1 => ∃ qv qr r i, w1 = (h0, (.inr (3, [.ref a1, .ref a2, .ref qv, .ref qr, .ref a3, .int 0]) : va_E)) :: (qv, eI Z 4 (fun _ => 0)) :: (qr, eQ Z.2.2.2.1 16 (rfE r 16)) :: rlE Z r i 16) (bc_B Z A) A) [Value.ref h0, .ref a1, .ref a2, .ref a3].toArray s 34 324 A := ⟨_, rfl⟩
  rw [← hQQ]
  refine lv_aload_n hx hb d_N_init_0 rfl (lv_at hl 0 rfl) ?_
  refine W.objInit hx hb hown (hts _ q_196) (hts _ q_128) (hts _ q_129) rfl (by rw [hml]; exact hl.1) rfl d_N_init_1 (Nat.le_of_ble_eq_true rfl) (Nat.le_of_ble_eq_true rfl) ?_
  refine W.eq (g2 := F0 m 4 ls []) rfl ?_
  refine lv_aload_n hx hb d_N_init_4 rfl (lv_at hl 0 rfl) ?_
  refine lv_iconst (v := 4) hx hb d_N_init_5 (by decide) ?_
  refine bc_newI (N' := 4) C0 hH (by decide) rfl (by decide) (Nat.le_of_ble_eq_true rfl) (Nat.le_of_ble_eq_true rfl) d_N_init_6 (fun qv H hH => ?_)
  refine bc_putF0 (ix := 9) (ci := 3) (T := F_N) (N := 6) (k := 2) (ty0 := .array .int) (fs := [.null, .null, .null, .null, .null, .int 0]) (w := [(qv, eI Z 4 (fun _ => 0))]) C0 hin hH rfl i_N t_N t_N_ok n_N F_N_own (by decide) q_216 rfl (by decide +kernel) rfl rfl (Nat.le_of_ble_eq_true rfl) d_N_init_8 (fun H locs hH => ?_)
  refine lv_aload_n hx hb d_N_init_11 rfl (lv_at hl 0 rfl) ?_
  refine lv_bipush (v := 16) hx hb d_N_init_12 (by decide) ?_
  refine bc_newQ (N' := 16) (t0 := 2) (cA := Z.2.2.2.1) (C := "FilterBench$Row") C0 hH q_197 hE.2.1 rfl (by decide) rfl (by decide) (Nat.le_of_ble_eq_true rfl) (Nat.le_of_ble_eq_true rfl) d_N_init_14 (fun qr H hH => ?_)
  refine bc_putF0 (ix := 19) (ci := 3) (T := F_N) (N := 6) (k := 3) (ty0 := .array (.object "FilterBench$Row")) (fs := [.null, .null, .ref qv, .null, .null, .int 0]) (w := [(qv, eI Z 4 (fun _ => 0)), (qr, eQ Z.2.2.2.1 16 (fun _ => none))]) C0 hin hH rfl i_N t_N t_N_ok n_N F_N_own (by decide) q_217 rfl (by decide +kernel) rfl rfl (Nat.le_of_ble_eq_true rfl) d_N_init_17 (fun H locs hH => ?_)
  refine lv_aload_n hx hb d_N_init_20 rfl (lv_at hl 0 rfl) ?_
  refine lv_aload_n hx hb d_N_init_21 rfl (lv_at hl 1 rfl) ?_
  refine bc_putF0 (ix := 23) (ci := 3) (T := F_N) (N := 6) (k := 0) (ty0 := .object "FilterBench$Values") (fs := [.null, .null, .ref qv, .ref qr, .null, .int 0]) (w := [(qv, eI Z 4 (fun _ => 0)), (qr, eQ Z.2.2.2.1 16 (fun _ => none))]) C0 hin hH rfl i_N t_N t_N_ok n_N F_N_own (by decide) q_214 rfl (by decide +kernel) rfl rfl (Nat.le_of_ble_eq_true rfl) d_N_init_22 (fun H locs hH => ?_)
  refine lv_aload_n hx hb d_N_init_25 rfl (lv_at hl 0 rfl) ?_
  refine lv_aload_n hx hb d_N_init_26 rfl (lv_at hl 2 rfl) ?_
  refine bc_putF0 (ix := 27) (ci := 3) (T := F_N) (N := 6) (k := 1) (ty0 := .array .int) (fs := [.ref a1, .null, .ref qv, .ref qr, .null, .int 0]) (w := [(qv, eI Z 4 (fun _ => 0)), (qr, eQ Z.2.2.2.1 16 (fun _ => none))]) C0 hin hH rfl i_N t_N t_N_ok n_N F_N_own (by decide) q_215 rfl (by decide +kernel) rfl rfl (Nat.le_of_ble_eq_true rfl) d_N_init_27 (fun H locs hH => ?_)
  refine lv_aload_n hx hb d_N_init_30 rfl (lv_at hl 0 rfl) ?_
  refine lv_aload_n hx hb d_N_init_31 rfl (lv_at hl 3 rfl) ?_
  refine bc_put0 (ix := 30) (ci := 3) (T := F_N) (N := 6) (k := 4) (ty0 := .object "FilterBench$Filter") (fs := [.ref a1, .ref a2, .ref qv, .ref qr, .null, .int 0]) (w := [(qv, eI Z 4 (fun _ => 0)), (qr, eQ Z.2.2.2.1 16 (fun _ => none))]) C0 hH rfl i_N t_N t_N_ok n_N F_N_own (by decide) q_218 rfl (by decide +kernel) rfl rfl (Nat.le_of_ble_eq_true rfl) d_N_init_32 (fun H locs hH => ?_)
  refine W.widen (k := 2) (n := 20) (by decide) (by decide) ?_
  have loop : ∀ (n k : Nat) (r i : Nat → Nat) (H : Heap) (locs : List Loc) (ls : Array Slot), k + n = 16 → bc_H Z A s ((h0, .inr (3, [.ref a1, .ref a2, .ref qv, .ref qr, .ref a3, .int 0])) :: (qv, eI Z 4 (fun _ => 0)) :: (qr, eQ Z.2.2.2.1 16 (rfE r k)) :: rlE Z r i k) H locs → lv_has ls 5 [(0, .ref h0), (4, .int (zI k))] → W p l e (bn_rm 2 34 324) s m [Value.ref h0, .ref a1, .ref a2, .ref a3].toArray below meth c H locs (2 + 2 * k) (20 + 19 * k) QQ (F0 m 38 ls []) := by
    intro n
    induction n with
    | zero =>
      intro k r i H locs ls hk hH hl
      obtain rfl : k = 16 := by omega
      refine lv_iload hx hb d_N_init_38 (lv_at hl 1 rfl) ?_
      refine lv_aload_n hx hb d_N_init_40 rfl (lv_at hl 0 rfl) ?_
      refine bc_get0 (ix := 19) (ci := 3) (T := F_N) (N := 6) (k := 3) (fs := [.ref a1, .ref a2, .ref qv, .ref qr, .ref a3, .int 0]) (v := .ref qr) C0 hH rfl i_N F_N_own (by decide) q_217 d_N_init_41 rfl ?_
      refine va_alen (v := zI 16) hx hb hK hH.1 2 2 rfl rfl rfl d_N_init_44 ?_
      refine lv_icmp_ge (tgt := 68) hx hb d_N_init_45 (by decide) (fun c_1 => ?_) (fun c_1 => ?_)
      · rw [hQQ]
        exact bc_vret C0 hr hH d_N_init_68 ⟨qv, qr, r, i, rfl⟩ (Nat.le_of_ble_eq_true rfl) (Nat.le_of_ble_eq_true rfl)
      · exact absurd (by rw [zI_le (by omega) (by omega)]; omega) c_1
    | succ n ih =>
      intro k r i H locs ls hk hH hl
      refine lv_iload hx hb d_N_init_38 (lv_at hl 1 rfl) ?_
      refine lv_aload_n hx hb d_N_init_40 rfl (lv_at hl 0 rfl) ?_
      refine bc_get0 (ix := 19) (ci := 3) (T := F_N) (N := 6) (k := 3) (fs := [.ref a1, .ref a2, .ref qv, .ref qr, .ref a3, .int 0]) (v := .ref qr) C0 hH rfl i_N F_N_own (by decide) q_217 d_N_init_41 rfl ?_
      refine va_alen (v := zI 16) hx hb hK hH.1 2 2 rfl rfl rfl d_N_init_44 ?_
      refine lv_icmp_ge (tgt := 68) hx hb d_N_init_45 (by decide) (fun c_1 => ?_) (fun c_1 => ?_)
      · rw [zI_le (by omega) (by omega)] at c_1
        omega
      · refine lv_aload_n hx hb d_N_init_48 rfl (lv_at hl 0 rfl) ?_
        refine bc_get0 (ix := 19) (ci := 3) (T := F_N) (N := 6) (k := 3) (fs := [.ref a1, .ref a2, .ref qv, .ref qr, .ref a3, .int 0]) (v := .ref qr) C0 hH rfl i_N F_N_own (by decide) q_217 d_N_init_49 rfl ?_
        refine lv_iload hx hb d_N_init_52 (lv_at hl 1 rfl) ?_
        refine bc_new (ix := 17) (ci := 2) (C := "FilterBench$Row") (T := F_R) (N := 3) (fs := [.null, .int 0, .int 0]) C0 hH rfl i_R t_R t_R_ok q_197 q_199 q_108 (fun j hj => by rcases (show j = 0 ∨ j = 1 ∨ j = 2 by omega) with rfl | rfl | rfl <;> rfl) (by show _ ≤ 34; omega) (by show _ ≤ 324; omega) d_N_init_54 (fun q H hH => ?_)
        refine lv_dup hx hb d_N_init_57 rfl ?_
        refine bc_cIN (X := (h0, .inr (3, [.ref a1, .ref a2, .ref qv, .ref qr, .ref a3, .int 0])) :: (qv, eI Z 4 (fun _ => 0)) :: (qr, eQ Z.2.2.2.1 16 (rfE r k)) :: rlE Z r i k) (wc := [(q, .inr (2, [.null, .int 0, .int 0]))]) (as := []) (rest := [.ref q, .int (zI k), .ref qr]) (C := "FilterBench$Row") C0 hE hH (c_R_init hl0 q) rfl rfl q_201 q_202 q_108 (by decide +kernel) (by decide +kernel) (by decide +kernel) (hX.2.2.2.2.2.2.1 _ (List.mem_of_getElem? (i := 1) rfl)) ⟨Nat.le_of_ble_eq_true rfl, Nat.le_of_ble_eq_true rfl⟩ rfl hl.1 rfl (Nat.le_of_ble_eq_true rfl) ⟨by show _ ≤ 34; omega, by show _ ≤ 324; omega⟩ d_N_init_58 (fun w1 H locs hw hH => ?_)
        obtain ⟨qi, rfl⟩ := hw
        have hlen : ((h0, (.inr (3, [.ref a1, .ref a2, .ref qv, .ref qr, .ref a3, .int 0]) : va_E)) :: (qv, eI Z 4 (fun _ => 0)) :: (qr, eQ Z.2.2.2.1 16 (rfE r k)) :: rlE Z r i k).length = 3 + 2 * k := by
          show (rlE Z r i k).length + 1 + 1 + 1 = _
          rw [rlE_l]; omega
        have hat : ((h0, (.inr (3, [.ref a1, .ref a2, .ref qv, .ref qr, .ref a3, .int 0]) : va_E)) :: (qv, eI Z 4 (fun _ => 0)) :: (qr, eQ Z.2.2.2.1 16 (rfE r k)) :: rlE Z r i k ++ [(q, .inr (2, [.ref qi, .int 0, .int (-1)])), (qi, .inl (Z.2.1, (16, .inl (fun _ => 0))))])[3 + 2 * k]? = some (q, .inr (2, [.ref qi, .int 0, .int (-1)])) := by
          rw [← hlen]
          exact pl_at (k := 0)
        refine va_astq hx hb hK hH.1 hH.2.1 hH.2.2 2 2 (3 + 2 * k) 2 rfl rfl hat rfl (vpI (by omega) (by decide)) d_N_init_61 (fun H1 locs1 hP hD hS => ?_)
        rw [zI_toNat (by omega), rfE_up] at hP hD
        have el : rlE Z r i k ++ [(q, .inr (2, [.ref qi, .int 0, .int (-1)])), (qi, .inl (Z.2.1, (16, .inl (fun _ => 0))))] = rlE Z (va_up r k q) (va_up i k qi) (k + 1) := by
          rw [rlE_s, rlE_c (r := r) (i := i) (r' := va_up r k q) (i' := va_up i k qi) k (fun j hj => ⟨va_up_ne _ _ (by omega), va_up_ne _ _ (by omega)⟩)]
          have e1 : va_up r k q k = q := va_up_self _ _ _
          have e2 : va_up i k qi k = qi := va_up_self _ _ _
          rw [e1, e2]
        have hH : bc_H Z A s ((h0, .inr (3, [.ref a1, .ref a2, .ref qv, .ref qr, .ref a3, .int 0])) :: (qv, eI Z 4 (fun _ => 0)) :: (qr, eQ Z.2.2.2.1 16 (rfE (va_up r k q) (k + 1))) :: rlE Z (va_up r k q) (va_up i k qi) (k + 1)) H1 locs1 := by
          rw [← el]
          exact ⟨hP, hD, hS⟩
        have ei : zI k + 1 = zI (k + 1) := by rw [zl_1, zI_add]
        refine lv_iinc (v := zI (k + 1)) (lv' := [(4, .int (zI (k + 1))), (0, .ref h0)]) hx hb d_N_init_62 hl (k := 1) rfl (by rw [← ei]; rfl) (by decide) rfl (fun ls hl => ?_)
        refine lv_goto (tgt := 38) hx hb d_N_init_65 (by decide) ?_
        refine W.widen (k := 2 + 2 * (k + 1)) (n := 20 + 19 * (k + 1)) (by omega) (by omega) ?_
        exact ih (k + 1) (va_up r k q) (va_up i k qi) H1 locs1 ls (by omega) hH (lv_sub hl [1, 0] rfl)
  refine lv_iconst (v := 0) hx hb d_N_init_35 (by decide) ?_
  refine lv_istore (lv' := [(4, .int 0), (0, .ref h0), (1, .ref a1), (2, .ref a2), (3, .ref a3)]) hx hb d_N_init_36 hl (by decide) rfl (fun ls hl => ?_)
  have e0 : rfE (fun _ => 0) 0 = fun _ => none := by funext j; unfold rfE; rw [if_neg (by omega)]
  refine loop 16 0 (fun _ => 0) (fun _ => 0) H locs ls (by omega) ?_ (lv_sub hl [1, 0] rfl)
  rw [e0]
  exact hH
