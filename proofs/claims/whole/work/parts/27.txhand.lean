/-! System.arraycopy between int regions; growing cells; throws of NoSuchElementException; turnOver; start -/
theorem q_nat : Cond.native ⟨"java/lang/System", "arraycopy", "(Ljava/lang/Object;ILjava/lang/Object;II)V"⟩ ∈ al := al_t2 62 (by decide +kernel) (by decide +kernel)
def sC (v : mS) (j0 j1 sp dp n : Nat) : mS := fun a => if a = j1 then va_cpy (v j0) (v j1) sp dp n else v a
def cpB (sp dp n : Int32) (l0 l1 : Nat) : Bool := decide (0 ≤ sp) && decide (0 ≤ dp) && decide (0 ≤ n) && decide (sp.toNatClampNeg + n.toNatClampNeg ≤ l0) && decide (dp.toNatClampNeg + n.toNatClampNeg ≤ l1)
theorem bn_setJ {Z : bZ} {q g : Nat → Nat} {v w : mS} {j : Nat} (h : j < 62 ∧ bn_k j = 9) (hw : ∀ a, a ≠ j → w a = v a) : (bn_ws Z (q, g, v)).set j (q j, .inl (Z.2.1, (bn_len (q, g, v) j, .inl (w j)))) = bn_ws Z (q, g, w) := by
  apply List.ext_getElem?
  intro a
  rw [List.getElem?_set]
  by_cases ha : j = a
  · subst ha
    rw [if_pos rfl, if_pos (by simp [bn_ws, h.1]), bn_atI h]
    rfl
  · rw [if_neg ha]
    have h2 : a ≠ j := fun h => ha h.symm
    by_cases hi : a < 62
    · rw [bn_at hi, bn_at hi]
      have h3 : bn_e Z (q, g, w) a = bn_e Z (q, g, v) a := by
        unfold bn_e bn_fs bn_fv
        dsimp only
        rw [hw a h2]
        rfl
      rw [h3]
    · rw [List.getElem?_eq_none (by simp [bn_ws]; omega), List.getElem?_eq_none (by simp [bn_ws]; omega)]
section BXH
variable {p : Program} {l : Launch} {e : Env} {R : Room} {s : State} {m : MethodId} {args : Array Value} {below : List Frame} {meth : Method} {c : Code} {H : Heap} {locs : List Loc} {cells slots : Nat} {Q : State → Prop}
variable {cc : ByteArray} {pc : Nat} {ls : Array Slot} {rest st0 : List Value} {Z : bZ} {A : Nat → Prop} {q q0 g g0 : Nat → Nat} {v : mS} {nL h0 : Nat} {own : String}
theorem bn_copy {j0 j1 ix : Nat} {sp dp n : Int32} {l0 l1 : Nat} (hj0 : j0 < 62 ∧ bn_k j0 = 9) (hj1 : j1 < 62 ∧ bn_k j1 = 9) (C0 : bn_C own cc nL Z A p l s m args meth c) (hH : bn_H Z A s (q, g, v) H locs) (hl0 : l0 = bn_len (q, g, v) j0) (hl1 : l1 = bn_len (q, g, v) j1) (hg : cpB sp dp n l0 l1 = true) (hl : Cond.methodLink own ix arraycopyName ∈ al) (hst : Cond.static arraycopyName ∈ al) (hi : Cond.initialized "java/lang/System" ∈ al) (hsize : ls.size = nL) (hf : 1 ≤ R.frames) (hlo : (rest.map fun v => v.category).sum + (nativeFrameWords "java/lang/System" "arraycopy" 5 + 11) ≤ R.locals) (hdg : decode cc pc = .ok (.invokestatic ix, 3))
    (kk : ∀ (H1 : Heap) (locs1 : List Loc), bn_H Z A s (q, g, sC v j0 j1 sp.toNatClampNeg dp.toNatClampNeg n.toNatClampNeg) H1 locs1 → W p l e R s m args below meth c H1 locs1 cells slots Q (F0 m (pc + 3) ls rest)) : W p l e R s m args below meth c H locs cells slots Q (F0 m pc ls (.int n :: .int dp :: .ref (q j1) :: .int sp :: .ref (q j0) :: rest)) := by
  obtain ⟨hx, hb, hown, hts, hK, hml, -⟩ := C0
  subst hl0
  subst hl1
  simp only [cpB, Bool.and_eq_true, decide_eq_true_eq] at hg
  obtain ⟨⟨⟨⟨h1, h2⟩, h3⟩, h4⟩, h5⟩ := hg
  refine va_copyi hx hb (hml.trans hsize.symm) hown (hts _ hl) (hts _ q_nat) (hts _ hst) (hts _ hi) hK hH.1 hH.2.1 hH.2.2 j0 j1 0 0 (bn_atI hj0) (bn_atI hj1) rfl rfl rfl (fun z => absurd h1 (Int32.not_le.mpr z)) (fun z => absurd h2 (Int32.not_le.mpr z)) (fun z => absurd h3 (Int32.not_le.mpr z)) h4 h5 (fun _ _ => rfl) hf hlo hdg (fun H1 locs1 hP1 hD1 hS1 => ?_)
  have e9 := bn_setJ (Z := Z) (q := q) (g := g) (v := v) (w := sC v j0 j1 sp.toNatClampNeg dp.toNatClampNeg n.toNatClampNeg) hj1 (fun a ha => by simp [sC, ha])
  have e8 : sC v j0 j1 sp.toNatClampNeg dp.toNatClampNeg n.toNatClampNeg j1 = va_cpy (v j0) (v j1) sp.toNatClampNeg dp.toNatClampNeg n.toNatClampNeg := by simp [sC]
  rw [e8] at e9
  exact kk H1 locs1 ⟨e9 ▸ hP1, e9 ▸ hD1, hS1⟩
/-- the cells grow: cells = Arrays.copyOf(cells, n) -/
def f_V_grow (g : Nat → Nat) (v : mS) (n : Int32) : Option (bO Unit) := mg g (gd (decide (0 ≤ n) && decide (2 * g 4 ≤ n.toNatClampNeg) && decide (g 4 < n.toNatClampNeg) && decide (n.toNatClampNeg ≤ 1000000)) (some (.inl (), va_up g 4 n.toNatClampNeg, fun a => if a = 4 then (fun k => if k < g 4 then v 4 k else 0) else v a)))
theorem mn_V_grow {g : Nat → Nat} {v : mS} {n : Int32} {o : bO Unit} (h : f_V_grow g v n = some o) : gL g ≤ gL o.2.1 := (mg_out h).1
theorem bh_grow {β : Type} {en : bS → β → Option Value} {o : bO β} {o1 : bO Unit} {n : Int32} (C0 : bn_C "FilterBench$Values" cc nL Z A p l s m args meth c) (hnx : ∀ x ∈ c.exceptionTable.toList, False) (hq : qs q0 q) (hH : bn_H Z A s (q, g, v) H locs) (hm0 : gL g0 ≤ gL g) (hm1 : gL g ≤ gL o1.2.1) (hm2 : gL o1.2.1 ≤ gL o.2.1) (hc : f_V_grow g v n = some o1) (hsize : ls.size = nL) (hR : 6 ≤ h0) (hrest : rest = []) (d1 : decode cc pc = .ok (.invokestatic 79, 3)) (d2 : decode cc (pc + 3) = .ok (.putfield 20, 3))
    (kk : ∀ (r : Unit) (q1 : Nat → Nat) (H1 : Heap) (locs1 : List Loc), o1.1 = .inl r → qs q0 q1 → qs q q1 → gL g0 ≤ gL o1.2.1 → bn_H Z A s (q1, o1.2.1, o1.2.2) H1 locs1 → bx_W p l e s m args below meth c Z A q0 g0 en o h0 o1.2.1 H1 locs1 (F0 m (pc + 3 + 3) ls rest)) :
    bx_W p l e s m args below meth c Z A q0 g0 en o h0 g H locs (F0 m pc ls (.int n :: .ref (q 4) :: .ref (q 1) :: rest)) := by
  obtain ⟨hmg, hc⟩ := mg_out hc
  obtain ⟨hgd, hc⟩ := gd_out hc
  cases hc
  simp only [Bool.and_eq_true, decide_eq_true_eq] at hgd
  obtain ⟨⟨⟨hn0, h2g⟩, hlt⟩, hmx⟩ := hgd
  subst hrest
  obtain ⟨hx, hb, hown, hts, hK, hml, hA, hlocks, hX, hl0⟩ := id C0
  have hn : ¬ n < 0 := fun z => absurd hn0 (Int32.not_le.mpr z)
  obtain ⟨N, hN⟩ : ∃ N, N = n.toNatClampNeg := ⟨_, rfl⟩
  rw [← hN] at h2g hlt hmx hm1 hm2 kk
  have eg : gL (va_up g 4 N) = N + g 5 := rfl
  have eg0 : gL g = g 4 + g 5 := rfl
  have hm2' : gL (va_up g 4 N) ≤ gL o.2.1 := hm2
  have hH' : bc_H Z A s ((bn_ws Z (q, g, v)).eraseIdx 4 ++ [(q 4, .inl (Z.2.1, (g 4, .inl (v 4))))]) H locs := bc_perm hH gr_perm
  obtain ⟨yc, ys, yo, yn, y1, y2, yp⟩ := yy_J_copyOf
  refine va_callr (va_runS (As := [.ref (q 4), .int n]) (rest := [.ref (q 1)]) ⟨hx, hb, hml, hown, hts⟩ (c_J_copyOf hl0 hn hN.symm hlt hmx H.size) ⟨bx_cb (mc := 1) (ms := N) hts yc yo yn y1 y2 yp q_394 ⟨by simp only [bn_rm]; omega, by simp only [bn_rm]; omega⟩, hts _ ys⟩ ⟨bc_blind0, bc_start0 C0 hH'⟩ rfl rfl hsize rfl (lv_room (Nat.le_of_ble_eq_true rfl)) d1 ⟨by simp only [bn_rm, mcO]; omega, by simp only [bn_rm, msO]; omega⟩) hH'.2.2 (fun x _ h => bc_free C0 hH' x h) (bc_free C0 hH') (fun u r t H1 locs1 ht hvm hw hB hz hk hS => ?_)
  have hJ := bc_join C0 hH' ht hB hk hS
  have hJ2 : bc_H Z A s (bn_ws Z (q, g, v) ++ [(r, .inl (Z.2.1, (N, .inl (gwf (g 4) (v 4)))))]) H1 locs1 := by
    refine bc_perm hJ ?_
    have := (gr_perm (Z := Z) (u := (q, g, v))).symm.append_right [(r, (.inl (Z.2.1, (N, .inl (gwf (g 4) (v 4)))) : va_E))]
    rw [List.append_assoc] at this
    exact this
  refine va_put (D := Z.1) (ci := 4) (v := .ref r) (ty := .array .int) (C := R_V) (T := F_V) (N := 5) hx hb hts i_V t_V t_V_ok n_V hown hK hJ2.1 hJ2.2.1 hJ2.2.2 1 rfl rfl 2 (by decide) (hts _ q_153) (fun _ h9 => h9) rfl (by decide +kernel) rfl rfl (Nat.le_of_ble_eq_true rfl) d2 (fun H2 locs2 hP hD hS => ?_)
  have hP : va_P Z.1 cl (gr_w Z q g v r N) H2 := hP
  have hD : va_D A (gr_w Z q g v r N) := hD
  refine W.widen (k := gL (va_up g 4 N) - gL g0) (n := 2 * (gL (va_up g 4 N) - gL g0)) (by omega) (by omega) ?_
  exact kk () (va_up q 4 r) H2 locs2 rfl (fun j h4 h5 => (gr_qn h4).trans (hq j h4 h5)) (fun j h4 h5 => gr_qn h4) (by omega) ⟨gr_P hP, gr_D hD, hS⟩
theorem bx_cN {α β : Type} {en1 : bS → α → Option Value} {en : bS → β → Option Value} {o1 : bO α} {o : bO β} {C host : String} {T : u_T} {N ci j : Nat} {y : MethodName} {cc' : ByteArray} {nL' ix h n : Nat} {ret : Option FieldType} {as : List Value} (C0 : bn_C own cc nL Z A p l s m args meth c) (hnx : ∀ x ∈ c.exceptionTable.toList, False) (hq : qs q0 q) (hH : bn_H Z A s (q, g, v) H locs) (hm0 : gL g0 ≤ gL g) (hm1 : gL g ≤ gL o1.2.1) (hm2 : gL o1.2.1 ≤ gL o.2.1) (ht : tc o1 ≤ tc o) (hj : j < 62 ∧ bn_k j = ci) (hci : ci < 9) (hcl : cl[ci]? = some (C, T, N))
    (hM : bx_M l Z h y cc' nL' ret (.ref (q j) :: as) q g v en1 o1) (Y : bn_Y C y cc' nL' ret n) (hl : va_Nw (.methodLinkNest own ix y host) s) (hR : h + 1 ≤ h0 ∧ 8 + (nL' + 11) + 60 * h ≤ 60 * h0)
    (hn : as.length = n) (hsize : ls.size = nL) (hst : st0 = as.reverse ++ .ref (q j) :: rest) (hW : (rest.map fun v => v.category).sum ≤ 8) (hdg : decode cc pc = .ok (.invokevirtual ix, 3)) (hx1 : ∀ k, o1.1 = .inr k → o = (.inr k, o1.2))
    (kk : ∀ (r : α) (q1 : Nat → Nat) (H1 : Heap) (locs1 : List Loc), o1.1 = .inl r → qs q0 q1 → qs q q1 → gL g0 ≤ gL o1.2.1 → bn_H Z A s (q1, o1.2.1, o1.2.2) H1 locs1 → bx_W p l e s m args below meth c Z A q0 g0 en o h0 o1.2.1 H1 locs1 (F0 m (pc + 3) ls ((en1 (q1, o1.2.1, o1.2.2) r).toList ++ rest))) :
    bx_W p l e s m args below meth c Z A q0 g0 en o h0 g H locs (F0 m pc ls st0) := by
  obtain ⟨hx, hb, hown, hts, hK, hml, hA, hlocks, hX, hl0⟩ := id C0
  obtain ⟨yc, yi, ys, yo, yn, y1, y2, yp⟩ := Y
  exact bx_after C0 hnx hq hH hm0 hm1 hm2 (bh_runVN (As := as) (rest := rest) (C := C) ⟨hx, hb, hml, hown, hts⟩ (hM H.size) ⟨bx_cnb hts yc yo yn y1 y2 yp hl hR, hts _ yi, hts _ ys⟩ ⟨bn_blind, va_recv hK hH.1 (ci := ci) (q0 := j) hcl (bn_atO hj hci), bn_start (as := .ref (q j) :: as) C0 hH⟩ rfl hn hsize hst (lv_room hW) hdg (bx_roomc hm0 hm1 hm2 ht)) hx1 kk
/-- 'throw new NoSuchElementException("text")', in FilterBench: its constructor's link is entry 13, not 7 -/
theorem bx_throwN {α : Type} {en : bS → α → Option Value} {o : bO α} {text : String} {i is : Nat} (C0 : bn_C "FilterBench" cc nL Z A p l s m args meth c) (hnx : ∀ x ∈ c.exceptionTable.toList, False) (hq : qs q0 q) (hH : bn_H Z A s (q, g, v) H locs) (hm : gL g0 ≤ gL g) (hst : bn_st[i]? = some ("FilterBench", is, text)) (hsize : ls.size = nL)
    (d0 : decode cc pc = .ok (.new 101, 3)) (d3 : decode cc (pc + 3) = .ok (.dup, 1)) (d4 : decode cc (pc + 4) = .ok (.ldc is, 2)) (d6 : decode cc (pc + 6) = .ok (.invokespecial 105, 3)) (d9 : decode cc (pc + 9) = .ok (.athrow, 1))
    (hR : 6 ≤ h0) (hst8 : (rest.map fun v => v.category).sum ≤ 8) (hh : some ((.inr 1, g, v) : bO α) = some o) :
    bx_W p l e s m args below meth c Z A q0 g0 en o h0 g H locs (F0 m pc ls rest) := by
  obtain ⟨hx, hb, hown, hts, hK, hml, hA, hlocks, hX, hl0⟩ := C0
  obtain ⟨hP, hD, hS⟩ := hH
  cases hh
  refine bh_throwN (cls := "java/util/NoSuchElementException") (up := "java/lang/RuntimeException") (text := text) (names := ["java/lang/Exception"]) (ix := 13) (rx := prog_23_method_4_code) (ic := 105) (ik := 101) (sa := Z.2.2.2.2.1 i) (A := A) hx hb hl0 rx_N0 rx_N1 rx_N2 rx_N5 hown (by decide +kernel) (by decide +kernel) (by decide +kernel) (hts _ q_455) (hts _ q_118) (hX.2.2.2.2.1 i _ hst) ?_ tw_N.2.2 hX.1 hX.2.1 hS (hsize.trans hml.symm) d0 d3 d4 d6 d9 (fun x hx9 => (hnx x hx9).elim) (show 1 + 4 < h0 by omega) (show _ + (13 * (1 + 2) + 43) ≤ 60 * h0 by omega) (by simp only [bn_rm, mcO, tc]; omega) (by simp only [bn_rm, msO, tc]; omega) hlocks ?_ hS.2.2 (by simp only [mcO, tc]; omega) (by simp only [msO, tc]; omega)
  · refine vx_hat (B := bx_ng "java/util/NoSuchElementException") (fun w hw => hts _ (List.mem_filter.mpr ⟨tw_N.1 w hw, (List.mem_filter.mp hw).2⟩)) tw_N.2.1 (vx_c (va_Nw.use rfl (hX.2.2.2.2.2.1 _ (List.mem_of_getElem? (i := 1) rfl))) (vx_c (va_Nw.use rfl (hX.2.2.2.2.2.2.2 _ (List.mem_of_getElem? (i := 0) rfl))) (vx_c (va_Nw.use rfl (hX.2.2.2.2.2.2.2 _ (List.mem_of_getElem? (i := 1) rfl))) (vx_c (va_Nw.use rfl (hX.2.2.2.2.2.2.2 _ (List.mem_of_getElem? (i := 2) rfl))) vx_n))))
  · intro t hvm hz hk9
    refine ⟨⟨1, (q, g, v), rfl, rfl, rfl, hq, ?_, va_K.moved hvm hK, hD⟩, ?_⟩
    · exact hP.kept (fun i9 x9 hi9 => hk9 _ ((hP i9 x9 hi9).lt))
    · exact ⟨Nat.le_trans hS.1 hz, fun x9 h1 h2 => by rw [hk9 x9 (Nat.lt_of_lt_of_le h1 hS.1)]; exact hS.2.1 x9 h1 h2⟩
def f_V_turnOver (g : Nat → Nat) (v : mS) : Option (bO Unit) := mg g (some (.inl (), to_g g, to_v v))
theorem mn_V_turnOver {g : Nat → Nat} {v : mS} {o : bO Unit} (h : f_V_turnOver g v = some o) : gL g ≤ gL o.2.1 := (mg_out h).1
set_option maxHeartbeats 4000000 in
set_option maxRecDepth 100000 in
theorem c_V_turnOver {l : Launch} {Z : bZ} (hl0 : l.stackTraces = false) {q g : Nat → Nat} {v : mS} {o : bO Unit} (h : f_V_turnOver g v = some o) : bx_M l Z 1 y_V_turnOver b_V_turnOver 2 none [.ref (q 1)] q g v enV o := by
  obtain ⟨hm, h⟩ := mg_out h
  cases h
  refine bx_of hl0 (by decide +kernel) (Nat.le_of_ble_eq_true rfl) ?_
  intro p e s m args below meth c A ls C0 hr hnx hl hH
  have hx := C0.1
  have hb := C0.2.1
  have C0 : bn_C R_V b_V_turnOver 2 Z A p l s m args meth c := C0
  have hl : lv_has ls 2 [(0, .ref (q 1))] := hl
  refine lv_aload_n hx hb d_V_turnOver_0 rfl (lv_at hl 0 rfl) ?_
  refine bn_g_V_before ⟨by decide, by decide⟩ C0 hH d_V_turnOver_1 ?_
  refine lv_astore_n (lv' := [(1, .ref (q 5)), (0, .ref (q 1))]) hx hb d_V_turnOver_4 rfl hl (by decide) rfl (fun ls hl => ?_)
  refine lv_aload_n hx hb d_V_turnOver_5 rfl (lv_at hl 1 rfl) ?_
  refine lv_aload_n hx hb d_V_turnOver_6 rfl (lv_at hl 1 rfl) ?_
  refine bn_g_V_cells ⟨by decide, by decide⟩ C0 hH d_V_turnOver_7 ?_
  obtain ⟨-, -, hown, hts, hK, hml, hA, hlocks, hX, -⟩ := id C0
  refine va_put (D := Z.1) (ci := 4) (v := .ref (q 4)) (ty := .array .int) (C := R_V) (T := F_V) (N := 5) hx hb hts i_V t_V t_V_ok n_V hown hK hH.1 hH.2.1 hH.2.2 1 (bn_atO (ci := 4) ⟨by decide, by decide⟩ (by decide)) rfl 3 (by decide) (hts _ q_154) (fun _ h9 => h9) rfl (by decide +kernel) rfl rfl (Nat.le_of_ble_eq_true rfl) d_V_turnOver_10 (fun H locs hP hD hS => ?_)
  refine lv_aload_n hx hb d_V_turnOver_13 rfl (lv_at hl 1 rfl) ?_
  refine lv_aload_n hx hb d_V_turnOver_14 rfl (lv_at hl 0 rfl) ?_
  refine va_put (D := Z.1) (ci := 4) (v := .ref (q 5)) (ty := .array .int) (C := R_V) (T := F_V) (N := 5) hx hb hts i_V t_V t_V_ok n_V hown hK hP hD hS 1 rfl rfl 2 (by decide) (hts _ q_153) (fun _ h9 => h9) rfl (by decide +kernel) rfl rfl (Nat.le_of_ble_eq_true rfl) d_V_turnOver_15 (fun H locs hP hD hS => ?_)
  refine lv_aload_n hx hb d_V_turnOver_18 rfl (lv_at hl 1 rfl) ?_
  refine lv_bipush (v := 118) hx hb d_V_turnOver_19 (by decide) ?_
  refine va_put (D := Z.1) (ci := 4) (v := .int 118) (ty := .int) (C := R_V) (T := F_V) (N := 5) hx hb hts i_V t_V t_V_ok n_V hown hK hP hD hS 1 rfl rfl 4 (by decide) (hts _ q_155) (fun _ h9 => h9) rfl (by decide +kernel) rfl rfl (Nat.le_of_ble_eq_true rfl) d_V_turnOver_21 (fun H locs hP hD hS => ?_)
  rw [List.set_set, List.set_set] at hP hD
  have hP : va_P Z.1 cl (to_w Z q g v) H := hP
  have hD : va_D A (to_w Z q g v) := hD
  have e9 : gL (to_g g) = gL g := by simp [gL, to_g]; omega
  refine W.widen (k := gL (to_g g) - gL g) (n := 2 * (gL (to_g g) - gL g)) (by omega) (by omega) ?_
  exact bx_vret (q := to_q q) (g := to_g g) (v := to_v v) C0 hr (fun j h4 h5 => to_qn h4 h5) ⟨to_P hP, to_D hD, hS⟩ (by omega) d_V_turnOver_24 rfl
def f_N_start (g : Nat → Nat) (v : mS) (x1 : Nat) : Option (bO Unit) := mg g (gd (filB x1) (bv (f_J_fill (va_up g 25 ((x1 - 9) / 4)) (sU v 25 5 0) 26 0) fun w => some (.inl (), va_up g 25 ((x1 - 9) / 4), w)))
theorem mn_N_start {g : Nat → Nat} {v : mS} {x1 : Nat} {o : bO Unit} (h : f_N_start g v x1 = some o) : gL g ≤ gL o.2.1 := (mg_out h).1
set_option maxHeartbeats 4000000 in
set_option maxRecDepth 100000 in
theorem c_N_start {l : Launch} {Z : bZ} (hl0 : l.stackTraces = false) {q g : Nat → Nat} {v : mS} {x1 : Nat} {o : bO Unit} (h : f_N_start g v x1 = some o) : bx_M l Z 3 y_N_start b_N_start 2 none [.ref (q 25), .ref (q x1)] q g v enV o := by
  obtain ⟨hm, h⟩ := mg_out h
  obtain ⟨hg1, h⟩ := gd_out h
  obtain ⟨w, hc, h⟩ := bv_out h
  refine bx_of hl0 (by decide +kernel) (Nat.le_of_ble_eq_true rfl) ?_
  intro p e s m args below meth c A ls C0 hr hnx hl hH
  have hx := C0.1
  have hb := C0.2.1
  have C0 : bn_C R_N b_N_start 2 Z A p l s m args meth c := C0
  have hl : lv_has ls 2 [(0, .ref (q 25)), (1, .ref (q x1))] := hl
  have hi : 9 + 4 * ((x1 - 9) / 4) = x1 := by
    simp only [filB, decide_eq_true_eq] at hg1
    omega
  refine lv_aload_n hx hb d_N_start_0 rfl (lv_at hl 0 rfl) ?_
  refine lv_aload_n hx hb d_N_start_1 rfl (lv_at hl 1 rfl) ?_
  obtain ⟨-, -, hown, hts, hK, hml, hA, hlocks, hX, -⟩ := id C0
  refine va_put (D := Z.1) (ci := 3) (v := .ref (q x1)) (ty := .object "FilterBench$Filter") (C := R_N) (T := F_N) (N := 6) hx hb hts i_N t_N t_N_ok n_N hown hK hH.1 hH.2.1 hH.2.2 25 (bn_atO (ci := 3) ⟨by decide, by decide⟩ (by decide)) rfl 4 (by decide) (hts _ q_218) (fun _ h9 => h9) rfl (by decide +kernel) rfl rfl (Nat.le_of_ble_eq_true rfl) d_N_start_2 (fun H locs hP hD hS => ?_)
  rw [← hi] at hP hD
  have hP : va_P Z.1 cl (st_w Z q g v ((x1 - 9) / 4)) H := hP
  have hD : va_D A (st_w Z q g v ((x1 - 9) / 4)) := hD
  rw [st_eq] at hP hD
  have hH : bn_H Z A s (q, va_up g 25 ((x1 - 9) / 4), v) H locs := ⟨hP, hD, hS⟩
  generalize hg9 : va_up g 25 ((x1 - 9) / 4) = g9 at hH hc h
  have e9 : gL g9 = gL g := by rw [← hg9]; rfl
  refine W.widen (k := gL g9 - gL g) (n := 2 * (gL g9 - gL g)) (by omega) (by omega) ?_
  refine lv_aload_n hx hb d_N_start_5 rfl (lv_at hl 0 rfl) ?_
  refine lv_iconst (v := 0) hx hb d_N_start_6 (by decide) ?_
  refine bn_p_N_steps ⟨by decide, by decide⟩ C0 hH d_N_start_7 (fun H locs hH => ?_)
  have hH : bn_H Z A s (q, g9, sU v 25 5 0) H locs := hH
  refine lv_aload_n hx hb d_N_start_10 rfl (lv_at hl 0 rfl) ?_
  refine bn_g_N_variables ⟨by decide, by decide⟩ C0 hH d_N_start_11 ?_
  refine lv_iconst (v := 0) hx hb d_N_start_14 (by decide) ?_
  have hm3 : gL g9 ≤ gL o.2.1 := by rw [e9]; exact hm
  refine bn_sv (w := (q, g9, w)) (as := [.ref (q 26), .int 0]) (rest := []) C0 hH (c_J_fill hl0 hc) yy_J_fill q_492 ⟨by simp only [bn_rm]; omega, by simp only [bn_rm]; omega⟩ rfl hl.1 rfl (Nat.le_of_ble_eq_true rfl) (bx_room (by omega) hm3) d_N_start_15 (fun H locs hH => ?_)
  exact bx_vret C0 hr qs.rf hH (by omega) d_N_start_18 h
end BXH
