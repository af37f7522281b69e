/-! constructors: Values, with what it calls; Arrays.fill on one row -/
set_option maxHeartbeats 4000000 in
set_option maxRecDepth 100000 in
theorem c_V_setHead0 {l : Launch} {Z : bZ} (hl0 : l.stackTraces = false) {h0 qc v : Nat} {fs : List Value} (hfs : fs[2]? = some (.ref qc)) {f : Nat → Int32} {x2 x3 : Int32} (hv : v + 4 ≤ 512) : bc_M l Z 0 0 0 y_V_setHead b_V_setHead 4 [.ref h0, .int (zI v), .int x2, .int x3] [(h0, .inr (4, fs)), (qc, .inl (Z.2.1, (512, .inl f)))] (fun w1 => w1 = [(h0, .inr (4, fs)), (qc, .inl (Z.2.1, (512, .inl (upd (upd (upd (upd f v x2) (v + 1) x3) (v + 2) 1) (v + 3) 0))))]) := by
  refine bc_of hl0 (by decide +kernel) (Nat.le_of_ble_eq_true rfl) ?_
  intro p e s m below meth c A ls C0 hE hr hin hl hH
  have hx := C0.1
  have hb := C0.2.1
  have C0 : bn_C R_V b_V_setHead 4 Z A p l s m _ meth c := C0
  have hl : lv_has ls 4 [(0, .ref h0), (1, .int (zI v)), (2, .int x2), (3, .int x3)] := hl
  have e1 : zI v + 1 = zI (v + 1) := by rw [zl_1, zI_add]
  have e2 : zI v + 2 = zI (v + 2) := by rw [zl_2, zI_add]
  have e3 : zI v + 3 = zI (v + 3) := by rw [zl_3, zI_add]
  refine lv_aload_n hx hb d_V_setHead_0 rfl (lv_at hl 0 rfl) ?_
  refine bc_get0 (ix := 20) (ci := 4) (T := F_V) (N := 5) (k := 2) (fs := fs) (v := .ref qc) C0 hH rfl i_V F_V_own (by decide) q_153 d_V_setHead_1 hfs ?_
  refine lv_iload_n hx hb d_V_setHead_4 rfl (lv_at hl 1 rfl) ?_
  refine lv_iload_n hx hb d_V_setHead_5 rfl (lv_at hl 2 rfl) ?_
  refine bc_sto (k := 1) (n := 512) (f := f) C0 hH rfl (vpI (by omega) (by decide)) d_V_setHead_6 (fun H locs hH => ?_)
  have hH : bc_H Z A s ((h0, .inr (4, fs)) :: [(qc, .inl (Z.2.1, (512, .inl (upd f (zI v).toNatClampNeg x2))))]) H locs := hH
  rw [zI_toNat (by omega)] at hH
  refine lv_aload_n hx hb d_V_setHead_7 rfl (lv_at hl 0 rfl) ?_
  refine bc_get0 (ix := 20) (ci := 4) (T := F_V) (N := 5) (k := 2) (fs := fs) (v := .ref qc) C0 hH rfl i_V F_V_own (by decide) q_153 d_V_setHead_8 hfs ?_
  refine lv_iload_n hx hb d_V_setHead_11 rfl (lv_at hl 1 rfl) ?_
  refine lv_iconst (v := 1) hx hb d_V_setHead_12 (by decide) ?_
  refine lv_iadd hx hb d_V_setHead_13 ?_
  refine fu_i e1.symm ?_
  refine lv_iload_n hx hb d_V_setHead_14 rfl (lv_at hl 3 rfl) ?_
  refine bc_sto (k := 1) (n := 512) (f := upd f v x2) C0 hH rfl (vpI (by omega) (by decide)) d_V_setHead_15 (fun H locs hH => ?_)
  have hH : bc_H Z A s ((h0, .inr (4, fs)) :: [(qc, .inl (Z.2.1, (512, .inl (upd (upd f v x2) (zI (v + 1)).toNatClampNeg x3))))]) H locs := hH
  rw [zI_toNat (by omega)] at hH
  refine lv_aload_n hx hb d_V_setHead_16 rfl (lv_at hl 0 rfl) ?_
  refine bc_get0 (ix := 20) (ci := 4) (T := F_V) (N := 5) (k := 2) (fs := fs) (v := .ref qc) C0 hH rfl i_V F_V_own (by decide) q_153 d_V_setHead_17 hfs ?_
  refine lv_iload_n hx hb d_V_setHead_20 rfl (lv_at hl 1 rfl) ?_
  refine lv_iconst (v := 2) hx hb d_V_setHead_21 (by decide) ?_
  refine lv_iadd hx hb d_V_setHead_22 ?_
  refine fu_i e2.symm ?_
  refine lv_iconst (v := 1) hx hb d_V_setHead_23 (by decide) ?_
  refine bc_sto (k := 1) (n := 512) (f := upd (upd f v x2) (v + 1) x3) C0 hH rfl (vpI (by omega) (by decide)) d_V_setHead_24 (fun H locs hH => ?_)
  have hH : bc_H Z A s ((h0, .inr (4, fs)) :: [(qc, .inl (Z.2.1, (512, .inl (upd (upd (upd f v x2) (v + 1) x3) (zI (v + 2)).toNatClampNeg 1))))]) H locs := hH
  rw [zI_toNat (by omega)] at hH
  refine lv_aload_n hx hb d_V_setHead_25 rfl (lv_at hl 0 rfl) ?_
  refine bc_get0 (ix := 20) (ci := 4) (T := F_V) (N := 5) (k := 2) (fs := fs) (v := .ref qc) C0 hH rfl i_V F_V_own (by decide) q_153 d_V_setHead_26 hfs ?_
  refine lv_iload_n hx hb d_V_setHead_29 rfl (lv_at hl 1 rfl) ?_
  refine lv_iconst (v := 3) hx hb d_V_setHead_30 (by decide) ?_
  refine lv_iadd hx hb d_V_setHead_31 ?_
  refine fu_i e3.symm ?_
  refine lv_iconst (v := 0) hx hb d_V_setHead_32 (by decide) ?_
  refine bc_sto (k := 1) (n := 512) (f := upd (upd (upd f v x2) (v + 1) x3) (v + 2) 1) C0 hH rfl (vpI (by omega) (by decide)) d_V_setHead_33 (fun H locs hH => ?_)
  have hH : bc_H Z A s ((h0, .inr (4, fs)) :: [(qc, .inl (Z.2.1, (512, .inl (upd (upd (upd (upd f v x2) (v + 1) x3) (v + 2) 1) (zI (v + 3)).toNatClampNeg 0))))]) H locs := hH
  rw [zI_toNat (by omega)] at hH
  exact bc_vret C0 hr hH d_V_setHead_34 rfl (Nat.le_refl _) (Nat.le_refl _)
set_option maxHeartbeats 4000000 in
set_option maxRecDepth 100000 in
theorem c_V_small0 {l : Launch} {Z : bZ} (hl0 : l.stackTraces = false) {h0 k : Nat} : bc_Mi l Z 0 0 0 y_V_small b_V_small 2 [.ref h0, .int (zI k)] [] (fun r w1 => r = zI (16 + 6 * k) ∧ w1 = []) := by
  refine bc_ofi hl0 (by decide +kernel) (Nat.le_of_ble_eq_true rfl) ?_
  intro p e s m below meth c A ls C0 hE hr hl hH
  have hx := C0.1
  have hb := C0.2.1
  have C0 : bn_C R_V b_V_small 2 Z A p l s m _ meth c := C0
  have hl : lv_has ls 2 [(0, .ref h0), (1, .int (zI k))] := hl
  refine lv_bipush (v := 16) hx hb d_V_small_0 (by decide) ?_
  refine lv_iload_n hx hb d_V_small_2 rfl (lv_at hl 1 rfl) ?_
  refine lv_bipush (v := 6) hx hb d_V_small_3 (by decide) ?_
  refine lv_imul hx hb d_V_small_5 ?_
  refine lv_iadd hx hb d_V_small_6 ?_
  have e1 : (16 : Int32) + zI k * 6 = zI (16 + 6 * k) := by rw [show (6 : Int32) = zI 6 from rfl, show (16 : Int32) = zI 16 from rfl, zI_mul, zI_add, Nat.mul_comm]
  exact bc_iret C0 hr hH d_V_small_7 ⟨e1, rfl⟩ (Nat.le_refl _) (Nat.le_refl _)
set_option maxHeartbeats 4000000 in
set_option maxRecDepth 100000 in
theorem c_J_fill0 {l : Launch} {Z : bZ} (hl0 : l.stackTraces = false) {a : Nat} {x : Int32} {f : Nat → Int32} : bc_M l Z 0 0 0 y_J_fill b_J_fill 4 [.ref a, .int x] [(a, .inl (Z.2.1, (8, .inl f)))] (fun w1 => w1 = [(a, .inl (Z.2.1, (8, .inl (fun k => if k < 8 then x else f k))))]) := by
  refine bc_ofF hl0 (by decide +kernel) (Nat.le_of_ble_eq_true rfl) ?_
  intro p e s m below meth c A ls C0 hr hl hH
  have hx := C0.1
  have hb := C0.2.1
  have C0 : bn_C "java/util/Arrays" b_J_fill 4 Z A p l s m _ meth c := C0
  have hl : lv_has ls 4 [(0, .ref a), (1, .int x)] := hl
  obtain ⟨-, -, hown, hts, hK, hml, hA, hlocks, hX, -⟩ := id C0
  have loop : ∀ (n i : Nat) (H : Heap) (locs : List Loc) (ls : Array Slot), i + n = 8 → bc_H Z A s [(a, .inl (Z.2.1, (8, .inl (fun k => if k < i then x else f k))))] H locs → lv_has ls 4 [(0, .ref a), (1, .int x), (2, .int (zI i)), (3, .int (zI 8))] → W p l e (bn_rm 0 0 0) s m [.ref a, .int x].toArray below meth c H locs 0 0 (MQ below (va_Qv (fun w1 => w1 = [(a, .inl (Z.2.1, (8, .inl (fun k => if k < 8 then x else f k))))]) (bc_B Z A) A) [.ref a, .int x].toArray s 0 0 A) (F0 m 5 ls []) := by
    intro n
    induction n with
    | zero =>
      intro i H locs ls hi hH hl
      refine lv_iload_n hx hb d_J_fill_5 rfl (lv_at hl 2 rfl) ?_
      refine lv_iload_n hx hb d_J_fill_6 rfl (lv_at hl 3 rfl) ?_
      refine lv_icmp_ge (tgt := 20) hx hb d_J_fill_7 (by decide) (fun c_1 => ?_) (fun c_1 => ?_)
      · obtain rfl : i = 8 := by omega
        exact bc_vret C0 hr hH d_J_fill_20 rfl (Nat.le_refl _) (Nat.le_refl _)
      · exact absurd (by rw [zI_le (by omega) (by omega)]; omega) c_1
    | succ n ih =>
      intro i H locs ls hi hH hl
      refine lv_iload_n hx hb d_J_fill_5 rfl (lv_at hl 2 rfl) ?_
      refine lv_iload_n hx hb d_J_fill_6 rfl (lv_at hl 3 rfl) ?_
      refine lv_icmp_ge (tgt := 20) hx hb d_J_fill_7 (by decide) (fun c_1 => ?_) (fun c_1 => ?_)
      · rw [zI_le (by omega) (by omega)] at c_1
        omega
      · refine lv_aload_n hx hb d_J_fill_10 rfl (lv_at hl 0 rfl) ?_
        refine lv_iload_n hx hb d_J_fill_11 rfl (lv_at hl 2 rfl) ?_
        refine lv_iload_n hx hb d_J_fill_12 rfl (lv_at hl 1 rfl) ?_
        refine bc_sto (k := 0) (n := 8) (f := fun k => if k < i then x else f k) C0 hH rfl (vpI (by omega) (by decide)) d_J_fill_13 (fun H locs hH => ?_)
        have hH : bc_H Z A s [(a, .inl (Z.2.1, (8, .inl (upd (fun k => if k < i then x else f k) (zI i).toNatClampNeg x))))] H locs := hH
        have ef : upd (fun k => if k < i then x else f k) i x = fun k => if k < i + 1 then x else f k := by
          funext k
          unfold upd
          by_cases ck : k = i
          · rw [if_pos ck, if_pos (by omega)]
          · rw [if_neg ck]
            show (if k < i then x else f k) = _
            by_cases cl : k < i
            · rw [if_pos cl, if_pos (by omega)]
            · rw [if_neg cl, if_neg (by omega)]
        rw [zI_toNat (by omega), ef] at hH
        have e1 : zI i + 1 = zI (i + 1) := by rw [zl_1, zI_add]
        refine lv_iinc (v := zI (i + 1)) (lv' := [(2, .int (zI (i + 1))), (0, .ref a), (1, .int x), (3, .int (zI 8))]) hx hb d_J_fill_14 hl (k := 2) rfl (by rw [← e1]; rfl) (by decide) rfl (fun ls hl => ?_)
        refine lv_goto (tgt := 5) hx hb d_J_fill_17 (by decide) ?_
        exact ih (i + 1) H locs ls (by omega) hH (lv_sub hl [1, 2, 0, 3] rfl)
  refine lv_iconst (v := 0) hx hb d_J_fill_0 (by decide) ?_
  refine lv_istore_n (lv' := [(2, .int 0), (0, .ref a), (1, .int x)]) hx hb d_J_fill_1 rfl hl (by decide) rfl (fun ls hl => ?_)
  refine lv_aload_n hx hb d_J_fill_2 rfl (lv_at hl 1 rfl) ?_
  refine va_alen (v := zI 8) hx hb hK hH.1 0 0 rfl rfl rfl d_J_fill_3 ?_
  refine lv_istore_n (lv' := [(3, .int (zI 8)), (2, .int 0), (0, .ref a), (1, .int x)]) hx hb d_J_fill_4 rfl hl (by decide) rfl (fun ls hl => ?_)
  exact loop 8 0 _ _ ls (by omega) hH (lv_sub hl [2, 3, 1, 0] rfl)
