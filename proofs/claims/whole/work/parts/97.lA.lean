/-! the law's helpers: calls that catch -/
abbrev eL (cJ : ClassId) (f : Nat → Int64) : va_E := .inl (cJ, (1, .inr (.inl f)))
def hp_nc : List (String × String) := [("java/util/NoSuchElementException", "java/lang/IllegalArgumentException"), ("java/lang/UnsupportedOperationException", "java/lang/IllegalArgumentException"), ("java/lang/IllegalStateException", "java/lang/IllegalArgumentException"), ("java/lang/UnsupportedOperationException", "java/util/NoSuchElementException"), ("java/lang/IllegalStateException", "java/util/NoSuchElementException"), ("java/lang/IllegalStateException", "java/lang/UnsupportedOperationException")]
def hp_E (cJ : ClassId) (Z : bZ) (U : State) : Prop := (∀ x ∈ hp_nc, va_Nc x.1 x.2 U) ∧ va_K Z.1 cl [(cJ, .long)] U
theorem hp_E.moved {cJ : ClassId} {Z : bZ} {u U : State} (hvm : u.vm.Alike U.vm) (h : hp_E cJ Z u) : hp_E cJ Z U := ⟨fun x hx => va_Nc.moved hvm (h.1 x hx), va_K.moved hvm h.2⟩
def hp_Pc (Z : bZ) (cJ : ClassId) (sz : Nat) (w : va_W) : State → Prop := fun U => bc_P0 Z sz w U ∧ hp_E cJ Z U
def hp_M (l : Launch) (Z : bZ) (cJ : ClassId) (h mc ms : Nat) (y : MethodName) (cc : ByteArray) (nL : Nat) (hh : List (Nat × Nat × Nat × Nat)) (as : List Value) (w : va_W) (post : Int32 → va_W → Prop) : Prop :=
  ∀ sz : Nat, Met l y (.codeWith y cc nL (some .int) hh :: al) (bn_rm h mc ms) (va_Pc as (hp_Pc Z cJ sz w)) (va_Qi post (bc_B Z (va_A w sz)) (va_A w sz)) mc ms (va_A w sz)
theorem hp_of {l : Launch} {Z : bZ} {cJ : ClassId} {h mc ms : Nat} {y : MethodName} {cc : ByteArray} {nL : Nat} {hh : List (Nat × Nat × Nat × Nat)} {as : List Value} {w : va_W} {post : Int32 → va_W → Prop} (hl0 : l.stackTraces = false) (hy : plainName y.cls = true) (hlen : (lg_sl as).length ≤ nL)
    (body : ∀ (p : Program) (e : Env) (s : State) (m : MethodId) (below : List Frame) (meth : Method) (c : Code) (A : Nat → Prop) (ls : Array Slot), bn_C y.cls cc nL Z A p l s m as.toArray meth c → hp_E cJ Z s → c.exceptionTable.toList = tableOf hh → meth.sig.returnType = some .int → lv_has ls nL (lv_args 0 as) → bc_H Z A s w s.heap [] →
      W p l e (bn_rm h mc ms) s m as.toArray below meth c s.heap [] 0 0 (MQ below (va_Qi post (bc_B Z A) A) as.toArray s mc ms A) (F0 m 0 ls [])) : hp_M l Z cJ h mc ms y cc nL hh as w post := by
  intro sz
  refine va_MetW (cc := cc) (maxL := nL) (ret := some .int) (hh := hh) hy rfl ?_
  intro p e s m args below meth c s₁ B hml hv
  obtain ⟨rfl, ⟨hsz, hP, hK, hD0, hX⟩, hE⟩ := hv
  have hts := atoms_spec (ws := .codeWith y cc nL (some .int) hh :: al) B.pre
  have hown : s.vm.findClass y.cls = some m.cls := findClass_of_methodNamed B.named
  have ht := vx_table (x := y) B (hts _ List.mem_cons_self)
  subst hsz
  have hl := lv_entry as (n := nL) hlen
  rw [lg_entry_eq]
  exact body p e s m below meth c (va_A w s.heap.size) _ ⟨B.exec, B.bytes, hown, fun x hx => hts x (List.mem_cons_of_mem _ hx), hK, hml, fun _ h => Or.inr h, B.notSynchronized, hX, hl0⟩ hE ht B.returns hl ⟨hP, hD0.self, va_S.rf⟩
section LA
variable {p : Program} {l : Launch} {e : Env} {R : Room} {s : State} {m : MethodId} {args : Array Value} {below : List Frame} {meth : Method} {c : Code} {H : Heap} {locs : List Loc} {cells slots : Nat} {Q : State → Prop}
variable {cc : ByteArray} {pc : Nat} {ls : Array Slot} {rest st0 : List Value} {Z : bZ} {A : Nat → Prop} {w X wc : va_W} {nL : Nat} {own : String} {cJ : ClassId}
/-- a call of the bench that may throw, in a world beside it -/
theorem hp_call {q g : Nat → Nat} {v : mS} {o : bO Int32} {h nL' n ix : Nat} {y : MethodName} {cc' : ByteArray} {as : List Value} (C0 : bn_C own cc nL Z A p l s m args meth c) (hH : bc_H Z A s (X ++ bn_ws Z (q, g, v)) H locs) (hM : bx_M l Z h y cc' nL' (some .int) (.ref (q 0) :: as) q g v enI o) (Y : bn_Y R_B y cc' nL' (some .int) n) (hl : Cond.methodLink own ix y ∈ al) (hR : h + 1 ≤ R.frames ∧ 8 + (nL' + 11) + 60 * h ≤ R.locals)
    (hn : as.length = n) (hsize : ls.size = nL) (hst : st0 = as.reverse ++ .ref (q 0) :: rest) (hW : (rest.map fun v => v.category).sum ≤ 8) (hroom : cells + mcO g o ≤ R.cells ∧ slots + msO g o ≤ R.slots) (hdg : decode cc pc = .ok (.invokevirtual ix, 3))
    (kk : ∀ (r : Int32) (q1 : Nat → Nat) (H1 : Heap) (locs1 : List Loc), o.1 = .inl r → qs q q1 → bc_H Z A s (X ++ bn_ws Z (q1, o.2)) H1 locs1 → W p l e R s m args below meth c H1 locs1 (cells + mcO g o) (slots + msO g o) Q (F0 m (pc + 3) ls (.int r :: rest)))
    (kx : ∀ (k : Nat) (q1 : Nat → Nat) (H1 : Heap) (locs1 : List Loc) (ce : Cell) (q9 : Addr), o.1 = .inr k → qs q q1 → bc_H Z A s (X ++ bn_ws Z (q1, o.2)) H1 locs1 → H1[q9]? = some ce → ce.vm = .none → s.vm.findClass (exn k) = some ce.cls → vx_W p l e R s m args below meth c H1 locs1 (cells + mcO g o) (slots + msO g o) Q (F0 m pc ls rest) q9) : W p l e R s m args below meth c H locs cells slots Q (F0 m pc ls st0) := by
  obtain ⟨hx, hb, hown, hts, hK, hml, hA, hlocks, hX, hl0⟩ := id C0
  obtain ⟨yc, yi, ys, yo, yn, y1, y2, yp⟩ := Y
  have hk : (X ++ bn_ws Z (q, g, v))[X.length + 0]? = some (q 0, .inr (0, bn_fs (q, g, v) 0)) := by
    rw [pl_at]
    exact bn_atO (ci := 0) ⟨by decide, by decide⟩ (by decide)
  have hr := vx_runV (meth := meth) (locs := locs) (As := as) (rest := rest) (C := R_B) (g := F0 m pc ls st0) (below := below) (e := e) ⟨hx, hb, hml, hown, hts⟩ (hM H.size) ⟨bx_cb (mc := mcO g o) (ms := msO g o) hts yc yo yn y1 y2 yp hl hR, hts _ yi, hts _ ys⟩ ⟨bn_blind, va_recv hK hH.1 (ci := 0) (q0 := X.length + 0) rfl hk, bc_start0 (as := .ref (q 0) :: as) C0 hH⟩ rfl hn hsize hst (lv_room hW) hdg hroom
  intro T hT X9
  rcases hr T hT X9 with ⟨vv, st₀, t, T', L, h0, X', hL, e1, e2, ⟨⟨r, w9, hv, h1, h2, h3, hB⟩, hF⟩, st⟩ | ⟨q9, st₀, t, T', L, E, ce, h0, X', hL, e1, e2, ⟨⟨k, w9, h1, hEk, h2, h3, hB⟩, hF⟩, hce, hcv, hcl, st⟩
  · obtain ⟨k1, k2, k3⟩ := vx_keep h0 e1 hH.2.2 (fun x _ hx => bc_free C0 hH x hx) (bc_free C0 hH) hL hF
    obtain ⟨q1, w2⟩ := w9
    have h2 : w2 = o.2 := h2
    subst h2
    have hJ := bc_join (w1 := bn_ws Z (q1, o.2)) C0 hH e1.symm hB k2 k3
    have hv : Outcome.returned vv = .returned (some (.int r)) := hv
    cases hv
    obtain ⟨t2, a1, b1⟩ := kk r q1 T'.heap (locs ++ L) h1 h3 hJ T' rfl X'
    exact ⟨t2, st t2 a1, b1⟩
  · obtain ⟨k1, k2, k3⟩ := vx_keep h0 e1 hH.2.2 (fun x _ hx => bc_free C0 hH x hx) (bc_free C0 hH) hL hF
    obtain ⟨q1, w2⟩ := w9
    have h2 : w2 = o.2 := h2
    subst h2
    have hJ := bc_join (w1 := bn_ws Z (q1, o.2)) C0 hH e1.symm hB k2 k3
    subst hEk
    obtain ⟨t2, a1, b1⟩ := kx k q1 T'.heap (locs ++ L) ce q9 h1 h3 hJ (by rw [e1]; exact hce) hcv hcl T' rfl X'
    exact ⟨t2, st.trans a1, b1⟩
end LA
/-- what a helper answers, and what it leaves -/
def hp_post (Z : bZ) (cJ : ClassId) (qo : Nat) (fL : Nat → Int64) (q : Nat → Nat) (o : bO Int32) (r : Int32) (w1 : va_W) : Prop := ∃ q1, qs q q1 ∧ (match o.1 with
  | .inl a => r = 0 ∧ w1 = (qo, eL cJ (vp_updL fL 0 a.toInt64)) :: bn_ws Z (q1, o.2)
  | .inr n => r = zI (n + 1) ∧ w1 = (qo, eL cJ fL) :: bn_ws Z (q1, o.2))
theorem q_275 : Cond.codeWith y_L_letter b_L_letter 5 (some .int) [(0, 10, 13, 13), (0, 10, 17, 15), (0, 10, 21, 17), (0, 10, 25, 19)] ∈ al := al_t1 173 (by decide +kernel) (by decide +kernel)
set_option maxHeartbeats 8000000 in
set_option maxRecDepth 100000 in
theorem h_letter {l : Launch} {Z : bZ} {cJ : ClassId} (hl0 : l.stackTraces = false) {q g : Nat → Nat} {v : mS} {x1 x2 : Int32} {o : bO Int32} (h : f_B_letter g v x1 x2 = some o) (hk : ∀ k, o.1 = .inr k → k < 4) {qo : Nat} {fL : Nat → Int64} : hp_M l Z cJ 9 (mcO g o) (msO g o) y_L_letter b_L_letter 5 [(0, 10, 13, 13), (0, 10, 17, 15), (0, 10, 21, 17), (0, 10, 25, 19)] [.ref (q 0), .int x1, .int x2, .ref qo] ((qo, eL cJ fL) :: bn_ws Z (q, g, v)) (hp_post Z cJ qo fL q o) := by
  refine hp_of hl0 (by decide +kernel) (Nat.le_of_ble_eq_true rfl) ?_
  intro p e s m below meth c A ls C0 hE ht hr hl hH
  have hx := C0.1
  have hb := C0.2.1
  have C0 : bn_C R_L b_L_letter 5 Z A p l s m _ meth c := C0
  obtain ⟨-, -, hown, hts, hK, hml, hA, hlocks, hX, -⟩ := id C0
  have hl : lv_has ls 5 [(0, .ref (q 0)), (1, .int x1), (2, .int x2), (3, .ref qo)] := hl
  refine lv_aload_n hx hb d_L_letter_0 rfl (lv_at hl 3 rfl) ?_
  refine lv_iconst (v := 0) hx hb d_L_letter_1 (by decide) ?_
  refine lv_aload_n hx hb d_L_letter_2 rfl (lv_at hl 0 rfl) ?_
  refine lv_iload_n hx hb d_L_letter_3 rfl (lv_at hl 1 rfl) ?_
  refine lv_iload_n hx hb d_L_letter_4 rfl (lv_at hl 2 rfl) ?_
  refine hp_call (X := [(qo, eL cJ fL)]) (as := [.int x1, .int x2]) (rest := [.int 0, .ref qo]) C0 hH (c_B_letter hl0 h) yy_B_letter q_280 ⟨Nat.le_of_ble_eq_true rfl, Nat.le_of_ble_eq_true rfl⟩ rfl hl.1 rfl (Nat.le_of_ble_eq_true rfl) ⟨by simp only [bn_rm]; omega, by simp only [bn_rm]; omega⟩ d_L_letter_5 (fun r q1 H locs ho hq hJ => ?_) (fun k q1 H locs ce q9 ho hq hJ hce hcv hcl => ?_)
  · refine lv_i2l hx hb d_L_letter_8 rfl ?_
    refine va_last hx hb hE.2 hJ.1 hJ.2.1 hJ.2.2 0 0 (f := fL) rfl rfl (vpI (v := 0) (by decide) (by decide)) d_L_letter_9 (fun H1 locs1 hP hD hS => ?_)
    have hJ : bc_H Z A s ((qo, eL cJ (vp_updL fL 0 r.toInt64)) :: bn_ws Z (q1, o.2)) H1 locs1 := ⟨hP, hD, hS⟩
    refine lv_goto (tgt := 29) hx hb d_L_letter_10 (by decide) ?_
    refine lv_iconst (v := 0) hx hb d_L_letter_29 (by decide) ?_
    exact bc_iret C0 hr hJ d_L_letter_30 ⟨q1, hq, by rw [ho]; exact ⟨rfl, rfl⟩⟩ (by omega) (by omega)
  · have hk4 := hk k ho
    rcases (show k = 0 ∨ k = 1 ∨ k = 2 ∨ k = 3 by omega) with rfl | rfl | rfl | rfl
    · have hcl : s.vm.findClass "java/lang/IllegalArgumentException" = some ce.cls := hcl
      refine vx_catch (own := R_L) (name := "java/lang/IllegalArgumentException") (E := "java/lang/IllegalArgumentException") hown (tableOf []) ⟨0, 10, 13, 13⟩ (tableOf [(0, 10, 17, 15), (0, 10, 21, 17), (0, 10, 25, 19)]) (by rw [ht]; rfl) (fun z hz => by cases hz) rfl (by decide) (hts _ q_276) (va_Nw.use rfl (hX.2.2.2.2.2.1 _ (List.mem_of_getElem? (i := 0) rfl))) hce hcv hcl ?_
      refine W.eq (g2 := F0 m 13 ls [.ref q9]) rfl ?_
      refine lv_astore (lv' := [(4, .ref q9), (0, .ref (q 0)), (1, .int x1), (2, .int x2), (3, .ref qo)]) hx hb d_L_letter_13 hl (by decide) rfl (fun ls hl => ?_)
      refine lv_iconst (v := 1) hx hb d_L_letter_15 (by decide) ?_
      exact bc_iret C0 hr hJ d_L_letter_16 ⟨q1, hq, by rw [ho]; exact ⟨rfl, rfl⟩⟩ (by omega) (by omega)
    · have hcl : s.vm.findClass "java/util/NoSuchElementException" = some ce.cls := hcl
      refine vx_catch (own := R_L) (name := "java/util/NoSuchElementException") (E := "java/util/NoSuchElementException") hown (tableOf [(0, 10, 13, 13)]) ⟨0, 10, 17, 15⟩ (tableOf [(0, 10, 21, 17), (0, 10, 25, 19)]) (by rw [ht]; rfl) (fun z hz => by
        simp only [tableOf, List.map_cons, List.map_nil, List.mem_cons, List.not_mem_nil, or_false] at hz
        rcases hz with rfl
        · exact Or.inr ⟨by decide, "java/lang/IllegalArgumentException", hts _ q_276, hE.1 _ (List.mem_of_getElem? (i := 0) rfl)⟩) rfl (by decide) (hts _ q_277) (va_Nw.use rfl (hX.2.2.2.2.2.1 _ (List.mem_of_getElem? (i := 1) rfl))) hce hcv hcl ?_
      refine W.eq (g2 := F0 m 17 ls [.ref q9]) rfl ?_
      refine lv_astore (lv' := [(4, .ref q9), (0, .ref (q 0)), (1, .int x1), (2, .int x2), (3, .ref qo)]) hx hb d_L_letter_17 hl (by decide) rfl (fun ls hl => ?_)
      refine lv_iconst (v := 2) hx hb d_L_letter_19 (by decide) ?_
      exact bc_iret C0 hr hJ d_L_letter_20 ⟨q1, hq, by rw [ho]; exact ⟨rfl, rfl⟩⟩ (by omega) (by omega)
    · have hcl : s.vm.findClass "java/lang/UnsupportedOperationException" = some ce.cls := hcl
      refine vx_catch (own := R_L) (name := "java/lang/UnsupportedOperationException") (E := "java/lang/UnsupportedOperationException") hown (tableOf [(0, 10, 13, 13), (0, 10, 17, 15)]) ⟨0, 10, 21, 17⟩ (tableOf [(0, 10, 25, 19)]) (by rw [ht]; rfl) (fun z hz => by
        simp only [tableOf, List.map_cons, List.map_nil, List.mem_cons, List.not_mem_nil, or_false] at hz
        rcases hz with rfl | rfl
        · exact Or.inr ⟨by decide, "java/lang/IllegalArgumentException", hts _ q_276, hE.1 _ (List.mem_of_getElem? (i := 1) rfl)⟩
        · exact Or.inr ⟨by decide, "java/util/NoSuchElementException", hts _ q_277, hE.1 _ (List.mem_of_getElem? (i := 3) rfl)⟩) rfl (by decide) (hts _ q_278) (va_Nw.use rfl (hX.2.2.2.2.2.1 _ (List.mem_of_getElem? (i := 2) rfl))) hce hcv hcl ?_
      refine W.eq (g2 := F0 m 21 ls [.ref q9]) rfl ?_
      refine lv_astore (lv' := [(4, .ref q9), (0, .ref (q 0)), (1, .int x1), (2, .int x2), (3, .ref qo)]) hx hb d_L_letter_21 hl (by decide) rfl (fun ls hl => ?_)
      refine lv_iconst (v := 3) hx hb d_L_letter_23 (by decide) ?_
      exact bc_iret C0 hr hJ d_L_letter_24 ⟨q1, hq, by rw [ho]; exact ⟨rfl, rfl⟩⟩ (by omega) (by omega)
    · have hcl : s.vm.findClass "java/lang/IllegalStateException" = some ce.cls := hcl
      refine vx_catch (own := R_L) (name := "java/lang/IllegalStateException") (E := "java/lang/IllegalStateException") hown (tableOf [(0, 10, 13, 13), (0, 10, 17, 15), (0, 10, 21, 17)]) ⟨0, 10, 25, 19⟩ (tableOf []) (by rw [ht]; rfl) (fun z hz => by
        simp only [tableOf, List.map_cons, List.map_nil, List.mem_cons, List.not_mem_nil, or_false] at hz
        rcases hz with rfl | rfl | rfl
        · exact Or.inr ⟨by decide, "java/lang/IllegalArgumentException", hts _ q_276, hE.1 _ (List.mem_of_getElem? (i := 2) rfl)⟩
        · exact Or.inr ⟨by decide, "java/util/NoSuchElementException", hts _ q_277, hE.1 _ (List.mem_of_getElem? (i := 4) rfl)⟩
        · exact Or.inr ⟨by decide, "java/lang/UnsupportedOperationException", hts _ q_278, hE.1 _ (List.mem_of_getElem? (i := 5) rfl)⟩) rfl (by decide) (hts _ q_279) (va_Nw.use rfl (hX.2.2.2.2.2.1 _ (List.mem_of_getElem? (i := 3) rfl))) hce hcv hcl ?_
      refine W.eq (g2 := F0 m 25 ls [.ref q9]) rfl ?_
      refine lv_astore (lv' := [(4, .ref q9), (0, .ref (q 0)), (1, .int x1), (2, .int x2), (3, .ref qo)]) hx hb d_L_letter_25 hl (by decide) rfl (fun ls hl => ?_)
      refine lv_iconst (v := 4) hx hb d_L_letter_27 (by decide) ?_
      exact bc_iret C0 hr hJ d_L_letter_28 ⟨q1, hq, by rw [ho]; exact ⟨rfl, rfl⟩⟩ (by omega) (by omega)
theorem q_408 : Cond.codeWith y_L_token b_L_token 6 (some .int) [(0, 12, 15, 13), (0, 12, 19, 15), (0, 12, 23, 17), (0, 12, 27, 19)] ∈ al := al_t2 66 (by decide +kernel) (by decide +kernel)
set_option maxHeartbeats 8000000 in
set_option maxRecDepth 100000 in
theorem h_token {l : Launch} {Z : bZ} {cJ : ClassId} (hl0 : l.stackTraces = false) {q g : Nat → Nat} {v : mS} {x1 x2 x3 : Int32} {o : bO Int32} (h : f_B_token g v x1 x2 x3 = some o) (hk : ∀ k, o.1 = .inr k → k < 4) {qo : Nat} {fL : Nat → Int64} : hp_M l Z cJ 8 (mcO g o) (msO g o) y_L_token b_L_token 6 [(0, 12, 15, 13), (0, 12, 19, 15), (0, 12, 23, 17), (0, 12, 27, 19)] [.ref (q 0), .int x1, .int x2, .int x3, .ref qo] ((qo, eL cJ fL) :: bn_ws Z (q, g, v)) (hp_post Z cJ qo fL q o) := by
  refine hp_of hl0 (by decide +kernel) (Nat.le_of_ble_eq_true rfl) ?_
  intro p e s m below meth c A ls C0 hE ht hr hl hH
  have hx := C0.1
  have hb := C0.2.1
  have C0 : bn_C R_L b_L_token 6 Z A p l s m _ meth c := C0
  obtain ⟨-, -, hown, hts, hK, hml, hA, hlocks, hX, -⟩ := id C0
  have hl : lv_has ls 6 [(0, .ref (q 0)), (1, .int x1), (2, .int x2), (3, .int x3), (4, .ref qo)] := hl
  refine lv_aload hx hb d_L_token_0 (lv_at hl 4 rfl) ?_
  refine lv_iconst (v := 0) hx hb d_L_token_2 (by decide) ?_
  refine lv_aload_n hx hb d_L_token_3 rfl (lv_at hl 0 rfl) ?_
  refine lv_iload_n hx hb d_L_token_4 rfl (lv_at hl 1 rfl) ?_
  refine lv_iload_n hx hb d_L_token_5 rfl (lv_at hl 2 rfl) ?_
  refine lv_iload_n hx hb d_L_token_6 rfl (lv_at hl 3 rfl) ?_
  refine hp_call (X := [(qo, eL cJ fL)]) (as := [.int x1, .int x2, .int x3]) (rest := [.int 0, .ref qo]) C0 hH (c_B_token hl0 h) yy_B_token q_409 ⟨Nat.le_of_ble_eq_true rfl, Nat.le_of_ble_eq_true rfl⟩ rfl hl.1 rfl (Nat.le_of_ble_eq_true rfl) ⟨by simp only [bn_rm]; omega, by simp only [bn_rm]; omega⟩ d_L_token_7 (fun r q1 H locs ho hq hJ => ?_) (fun k q1 H locs ce q9 ho hq hJ hce hcv hcl => ?_)
  · refine lv_i2l hx hb d_L_token_10 rfl ?_
    refine va_last hx hb hE.2 hJ.1 hJ.2.1 hJ.2.2 0 0 (f := fL) rfl rfl (vpI (v := 0) (by decide) (by decide)) d_L_token_11 (fun H1 locs1 hP hD hS => ?_)
    have hJ : bc_H Z A s ((qo, eL cJ (vp_updL fL 0 r.toInt64)) :: bn_ws Z (q1, o.2)) H1 locs1 := ⟨hP, hD, hS⟩
    refine lv_goto (tgt := 31) hx hb d_L_token_12 (by decide) ?_
    refine lv_iconst (v := 0) hx hb d_L_token_31 (by decide) ?_
    exact bc_iret C0 hr hJ d_L_token_32 ⟨q1, hq, by rw [ho]; exact ⟨rfl, rfl⟩⟩ (by omega) (by omega)
  · have hk4 := hk k ho
    rcases (show k = 0 ∨ k = 1 ∨ k = 2 ∨ k = 3 by omega) with rfl | rfl | rfl | rfl
    · have hcl : s.vm.findClass "java/lang/IllegalArgumentException" = some ce.cls := hcl
      refine vx_catch (own := R_L) (name := "java/lang/IllegalArgumentException") (E := "java/lang/IllegalArgumentException") hown (tableOf []) ⟨0, 12, 15, 13⟩ (tableOf [(0, 12, 19, 15), (0, 12, 23, 17), (0, 12, 27, 19)]) (by rw [ht]; rfl) (fun z hz => by cases hz) rfl (by decide) (hts _ q_276) (va_Nw.use rfl (hX.2.2.2.2.2.1 _ (List.mem_of_getElem? (i := 0) rfl))) hce hcv hcl ?_
      refine W.eq (g2 := F0 m 15 ls [.ref q9]) rfl ?_
      refine lv_astore (lv' := [(5, .ref q9), (0, .ref (q 0)), (1, .int x1), (2, .int x2), (3, .int x3), (4, .ref qo)]) hx hb d_L_token_15 hl (by decide) rfl (fun ls hl => ?_)
      refine lv_iconst (v := 1) hx hb d_L_token_17 (by decide) ?_
      exact bc_iret C0 hr hJ d_L_token_18 ⟨q1, hq, by rw [ho]; exact ⟨rfl, rfl⟩⟩ (by omega) (by omega)
    · have hcl : s.vm.findClass "java/util/NoSuchElementException" = some ce.cls := hcl
      refine vx_catch (own := R_L) (name := "java/util/NoSuchElementException") (E := "java/util/NoSuchElementException") hown (tableOf [(0, 12, 15, 13)]) ⟨0, 12, 19, 15⟩ (tableOf [(0, 12, 23, 17), (0, 12, 27, 19)]) (by rw [ht]; rfl) (fun z hz => by
        simp only [tableOf, List.map_cons, List.map_nil, List.mem_cons, List.not_mem_nil, or_false] at hz
        rcases hz with rfl
        · exact Or.inr ⟨by decide, "java/lang/IllegalArgumentException", hts _ q_276, hE.1 _ (List.mem_of_getElem? (i := 0) rfl)⟩) rfl (by decide) (hts _ q_277) (va_Nw.use rfl (hX.2.2.2.2.2.1 _ (List.mem_of_getElem? (i := 1) rfl))) hce hcv hcl ?_
      refine W.eq (g2 := F0 m 19 ls [.ref q9]) rfl ?_
      refine lv_astore (lv' := [(5, .ref q9), (0, .ref (q 0)), (1, .int x1), (2, .int x2), (3, .int x3), (4, .ref qo)]) hx hb d_L_token_19 hl (by decide) rfl (fun ls hl => ?_)
      refine lv_iconst (v := 2) hx hb d_L_token_21 (by decide) ?_
      exact bc_iret C0 hr hJ d_L_token_22 ⟨q1, hq, by rw [ho]; exact ⟨rfl, rfl⟩⟩ (by omega) (by omega)
    · have hcl : s.vm.findClass "java/lang/UnsupportedOperationException" = some ce.cls := hcl
      refine vx_catch (own := R_L) (name := "java/lang/UnsupportedOperationException") (E := "java/lang/UnsupportedOperationException") hown (tableOf [(0, 12, 15, 13), (0, 12, 19, 15)]) ⟨0, 12, 23, 17⟩ (tableOf [(0, 12, 27, 19)]) (by rw [ht]; rfl) (fun z hz => by
        simp only [tableOf, List.map_cons, List.map_nil, List.mem_cons, List.not_mem_nil, or_false] at hz
        rcases hz with rfl | rfl
        · exact Or.inr ⟨by decide, "java/lang/IllegalArgumentException", hts _ q_276, hE.1 _ (List.mem_of_getElem? (i := 1) rfl)⟩
        · exact Or.inr ⟨by decide, "java/util/NoSuchElementException", hts _ q_277, hE.1 _ (List.mem_of_getElem? (i := 3) rfl)⟩) rfl (by decide) (hts _ q_278) (va_Nw.use rfl (hX.2.2.2.2.2.1 _ (List.mem_of_getElem? (i := 2) rfl))) hce hcv hcl ?_
      refine W.eq (g2 := F0 m 23 ls [.ref q9]) rfl ?_
      refine lv_astore (lv' := [(5, .ref q9), (0, .ref (q 0)), (1, .int x1), (2, .int x2), (3, .int x3), (4, .ref qo)]) hx hb d_L_token_23 hl (by decide) rfl (fun ls hl => ?_)
      refine lv_iconst (v := 3) hx hb d_L_token_25 (by decide) ?_
      exact bc_iret C0 hr hJ d_L_token_26 ⟨q1, hq, by rw [ho]; exact ⟨rfl, rfl⟩⟩ (by omega) (by omega)
    · have hcl : s.vm.findClass "java/lang/IllegalStateException" = some ce.cls := hcl
      refine vx_catch (own := R_L) (name := "java/lang/IllegalStateException") (E := "java/lang/IllegalStateException") hown (tableOf [(0, 12, 15, 13), (0, 12, 19, 15), (0, 12, 23, 17)]) ⟨0, 12, 27, 19⟩ (tableOf []) (by rw [ht]; rfl) (fun z hz => by
        simp only [tableOf, List.map_cons, List.map_nil, List.mem_cons, List.not_mem_nil, or_false] at hz
        rcases hz with rfl | rfl | rfl
        · exact Or.inr ⟨by decide, "java/lang/IllegalArgumentException", hts _ q_276, hE.1 _ (List.mem_of_getElem? (i := 2) rfl)⟩
        · exact Or.inr ⟨by decide, "java/util/NoSuchElementException", hts _ q_277, hE.1 _ (List.mem_of_getElem? (i := 4) rfl)⟩
        · exact Or.inr ⟨by decide, "java/lang/UnsupportedOperationException", hts _ q_278, hE.1 _ (List.mem_of_getElem? (i := 5) rfl)⟩) rfl (by decide) (hts _ q_279) (va_Nw.use rfl (hX.2.2.2.2.2.1 _ (List.mem_of_getElem? (i := 3) rfl))) hce hcv hcl ?_
      refine W.eq (g2 := F0 m 27 ls [.ref q9]) rfl ?_
      refine lv_astore (lv' := [(5, .ref q9), (0, .ref (q 0)), (1, .int x1), (2, .int x2), (3, .int x3), (4, .ref qo)]) hx hb d_L_token_27 hl (by decide) rfl (fun ls hl => ?_)
      refine lv_iconst (v := 4) hx hb d_L_token_29 (by decide) ?_
      exact bc_iret C0 hr hJ d_L_token_30 ⟨q1, hq, by rw [ho]; exact ⟨rfl, rfl⟩⟩ (by omega) (by omega)
theorem q_428 : Cond.codeWith y_L_wipe b_L_wipe 5 (some .int) [(0, 10, 13, 13), (0, 10, 17, 15), (0, 10, 21, 17), (0, 10, 25, 19)] ∈ al := al_t2 86 (by decide +kernel) (by decide +kernel)
set_option maxHeartbeats 8000000 in
set_option maxRecDepth 100000 in
theorem h_wipe {l : Launch} {Z : bZ} {cJ : ClassId} (hl0 : l.stackTraces = false) {q g : Nat → Nat} {v : mS} {x1 x2 : Int32} {o : bO Int32} (h : f_B_wipe g v x1 x2 = some o) (hk : ∀ k, o.1 = .inr k → k < 4) {qo : Nat} {fL : Nat → Int64} : hp_M l Z cJ 8 (mcO g o) (msO g o) y_L_wipe b_L_wipe 5 [(0, 10, 13, 13), (0, 10, 17, 15), (0, 10, 21, 17), (0, 10, 25, 19)] [.ref (q 0), .int x1, .int x2, .ref qo] ((qo, eL cJ fL) :: bn_ws Z (q, g, v)) (hp_post Z cJ qo fL q o) := by
  refine hp_of hl0 (by decide +kernel) (Nat.le_of_ble_eq_true rfl) ?_
  intro p e s m below meth c A ls C0 hE ht hr hl hH
  have hx := C0.1
  have hb := C0.2.1
  have C0 : bn_C R_L b_L_wipe 5 Z A p l s m _ meth c := C0
  obtain ⟨-, -, hown, hts, hK, hml, hA, hlocks, hX, -⟩ := id C0
  have hl : lv_has ls 5 [(0, .ref (q 0)), (1, .int x1), (2, .int x2), (3, .ref qo)] := hl
  refine lv_aload_n hx hb d_L_wipe_0 rfl (lv_at hl 3 rfl) ?_
  refine lv_iconst (v := 0) hx hb d_L_wipe_1 (by decide) ?_
  refine lv_aload_n hx hb d_L_wipe_2 rfl (lv_at hl 0 rfl) ?_
  refine lv_iload_n hx hb d_L_wipe_3 rfl (lv_at hl 1 rfl) ?_
  refine lv_iload_n hx hb d_L_wipe_4 rfl (lv_at hl 2 rfl) ?_
  refine hp_call (X := [(qo, eL cJ fL)]) (as := [.int x1, .int x2]) (rest := [.int 0, .ref qo]) C0 hH (c_B_wipe hl0 h) yy_B_wipe q_429 ⟨Nat.le_of_ble_eq_true rfl, Nat.le_of_ble_eq_true rfl⟩ rfl hl.1 rfl (Nat.le_of_ble_eq_true rfl) ⟨by simp only [bn_rm]; omega, by simp only [bn_rm]; omega⟩ d_L_wipe_5 (fun r q1 H locs ho hq hJ => ?_) (fun k q1 H locs ce q9 ho hq hJ hce hcv hcl => ?_)
  · refine lv_i2l hx hb d_L_wipe_8 rfl ?_
    refine va_last hx hb hE.2 hJ.1 hJ.2.1 hJ.2.2 0 0 (f := fL) rfl rfl (vpI (v := 0) (by decide) (by decide)) d_L_wipe_9 (fun H1 locs1 hP hD hS => ?_)
    have hJ : bc_H Z A s ((qo, eL cJ (vp_updL fL 0 r.toInt64)) :: bn_ws Z (q1, o.2)) H1 locs1 := ⟨hP, hD, hS⟩
    refine lv_goto (tgt := 29) hx hb d_L_wipe_10 (by decide) ?_
    refine lv_iconst (v := 0) hx hb d_L_wipe_29 (by decide) ?_
    exact bc_iret C0 hr hJ d_L_wipe_30 ⟨q1, hq, by rw [ho]; exact ⟨rfl, rfl⟩⟩ (by omega) (by omega)
  · have hk4 := hk k ho
    rcases (show k = 0 ∨ k = 1 ∨ k = 2 ∨ k = 3 by omega) with rfl | rfl | rfl | rfl
    · have hcl : s.vm.findClass "java/lang/IllegalArgumentException" = some ce.cls := hcl
      refine vx_catch (own := R_L) (name := "java/lang/IllegalArgumentException") (E := "java/lang/IllegalArgumentException") hown (tableOf []) ⟨0, 10, 13, 13⟩ (tableOf [(0, 10, 17, 15), (0, 10, 21, 17), (0, 10, 25, 19)]) (by rw [ht]; rfl) (fun z hz => by cases hz) rfl (by decide) (hts _ q_276) (va_Nw.use rfl (hX.2.2.2.2.2.1 _ (List.mem_of_getElem? (i := 0) rfl))) hce hcv hcl ?_
      refine W.eq (g2 := F0 m 13 ls [.ref q9]) rfl ?_
      refine lv_astore (lv' := [(4, .ref q9), (0, .ref (q 0)), (1, .int x1), (2, .int x2), (3, .ref qo)]) hx hb d_L_wipe_13 hl (by decide) rfl (fun ls hl => ?_)
      refine lv_iconst (v := 1) hx hb d_L_wipe_15 (by decide) ?_
      exact bc_iret C0 hr hJ d_L_wipe_16 ⟨q1, hq, by rw [ho]; exact ⟨rfl, rfl⟩⟩ (by omega) (by omega)
    · have hcl : s.vm.findClass "java/util/NoSuchElementException" = some ce.cls := hcl
      refine vx_catch (own := R_L) (name := "java/util/NoSuchElementException") (E := "java/util/NoSuchElementException") hown (tableOf [(0, 10, 13, 13)]) ⟨0, 10, 17, 15⟩ (tableOf [(0, 10, 21, 17), (0, 10, 25, 19)]) (by rw [ht]; rfl) (fun z hz => by
        simp only [tableOf, List.map_cons, List.map_nil, List.mem_cons, List.not_mem_nil, or_false] at hz
        rcases hz with rfl
        · exact Or.inr ⟨by decide, "java/lang/IllegalArgumentException", hts _ q_276, hE.1 _ (List.mem_of_getElem? (i := 0) rfl)⟩) rfl (by decide) (hts _ q_277) (va_Nw.use rfl (hX.2.2.2.2.2.1 _ (List.mem_of_getElem? (i := 1) rfl))) hce hcv hcl ?_
      refine W.eq (g2 := F0 m 17 ls [.ref q9]) rfl ?_
      refine lv_astore (lv' := [(4, .ref q9), (0, .ref (q 0)), (1, .int x1), (2, .int x2), (3, .ref qo)]) hx hb d_L_wipe_17 hl (by decide) rfl (fun ls hl => ?_)
      refine lv_iconst (v := 2) hx hb d_L_wipe_19 (by decide) ?_
      exact bc_iret C0 hr hJ d_L_wipe_20 ⟨q1, hq, by rw [ho]; exact ⟨rfl, rfl⟩⟩ (by omega) (by omega)
    · have hcl : s.vm.findClass "java/lang/UnsupportedOperationException" = some ce.cls := hcl
      refine vx_catch (own := R_L) (name := "java/lang/UnsupportedOperationException") (E := "java/lang/UnsupportedOperationException") hown (tableOf [(0, 10, 13, 13), (0, 10, 17, 15)]) ⟨0, 10, 21, 17⟩ (tableOf [(0, 10, 25, 19)]) (by rw [ht]; rfl) (fun z hz => by
        simp only [tableOf, List.map_cons, List.map_nil, List.mem_cons, List.not_mem_nil, or_false] at hz
        rcases hz with rfl | rfl
        · exact Or.inr ⟨by decide, "java/lang/IllegalArgumentException", hts _ q_276, hE.1 _ (List.mem_of_getElem? (i := 1) rfl)⟩
        · exact Or.inr ⟨by decide, "java/util/NoSuchElementException", hts _ q_277, hE.1 _ (List.mem_of_getElem? (i := 3) rfl)⟩) rfl (by decide) (hts _ q_278) (va_Nw.use rfl (hX.2.2.2.2.2.1 _ (List.mem_of_getElem? (i := 2) rfl))) hce hcv hcl ?_
      refine W.eq (g2 := F0 m 21 ls [.ref q9]) rfl ?_
      refine lv_astore (lv' := [(4, .ref q9), (0, .ref (q 0)), (1, .int x1), (2, .int x2), (3, .ref qo)]) hx hb d_L_wipe_21 hl (by decide) rfl (fun ls hl => ?_)
      refine lv_iconst (v := 3) hx hb d_L_wipe_23 (by decide) ?_
      exact bc_iret C0 hr hJ d_L_wipe_24 ⟨q1, hq, by rw [ho]; exact ⟨rfl, rfl⟩⟩ (by omega) (by omega)
    · have hcl : s.vm.findClass "java/lang/IllegalStateException" = some ce.cls := hcl
      refine vx_catch (own := R_L) (name := "java/lang/IllegalStateException") (E := "java/lang/IllegalStateException") hown (tableOf [(0, 10, 13, 13), (0, 10, 17, 15), (0, 10, 21, 17)]) ⟨0, 10, 25, 19⟩ (tableOf []) (by rw [ht]; rfl) (fun z hz => by
        simp only [tableOf, List.map_cons, List.map_nil, List.mem_cons, List.not_mem_nil, or_false] at hz
        rcases hz with rfl | rfl | rfl
        · exact Or.inr ⟨by decide, "java/lang/IllegalArgumentException", hts _ q_276, hE.1 _ (List.mem_of_getElem? (i := 2) rfl)⟩
        · exact Or.inr ⟨by decide, "java/util/NoSuchElementException", hts _ q_277, hE.1 _ (List.mem_of_getElem? (i := 4) rfl)⟩
        · exact Or.inr ⟨by decide, "java/lang/UnsupportedOperationException", hts _ q_278, hE.1 _ (List.mem_of_getElem? (i := 5) rfl)⟩) rfl (by decide) (hts _ q_279) (va_Nw.use rfl (hX.2.2.2.2.2.1 _ (List.mem_of_getElem? (i := 3) rfl))) hce hcv hcl ?_
      refine W.eq (g2 := F0 m 25 ls [.ref q9]) rfl ?_
      refine lv_astore (lv' := [(4, .ref q9), (0, .ref (q 0)), (1, .int x1), (2, .int x2), (3, .ref qo)]) hx hb d_L_wipe_25 hl (by decide) rfl (fun ls hl => ?_)
      refine lv_iconst (v := 4) hx hb d_L_wipe_27 (by decide) ?_
      exact bc_iret C0 hr hJ d_L_wipe_28 ⟨q1, hq, by rw [ho]; exact ⟨rfl, rfl⟩⟩ (by omega) (by omega)
theorem q_439 : Cond.codeWith y_L_run b_L_run 5 (some .int) [(0, 10, 13, 13), (0, 10, 17, 15), (0, 10, 21, 17), (0, 10, 25, 19)] ∈ al := al_t2 97 (by decide +kernel) (by decide +kernel)
set_option maxHeartbeats 8000000 in
set_option maxRecDepth 100000 in
theorem h_run {l : Launch} {Z : bZ} {cJ : ClassId} (hl0 : l.stackTraces = false) {q g : Nat → Nat} {v : mS} {x1 x2 : Int32} {o : bO Int32} (h : f_B_run g v x1 x2 = some o) (hk : ∀ k, o.1 = .inr k → k < 4) {qo : Nat} {fL : Nat → Int64} : hp_M l Z cJ 822 (mcO g o) (msO g o) y_L_run b_L_run 5 [(0, 10, 13, 13), (0, 10, 17, 15), (0, 10, 21, 17), (0, 10, 25, 19)] [.ref (q 0), .int x1, .int x2, .ref qo] ((qo, eL cJ fL) :: bn_ws Z (q, g, v)) (hp_post Z cJ qo fL q o) := by
  refine hp_of hl0 (by decide +kernel) (Nat.le_of_ble_eq_true rfl) ?_
  intro p e s m below meth c A ls C0 hE ht hr hl hH
  have hx := C0.1
  have hb := C0.2.1
  have C0 : bn_C R_L b_L_run 5 Z A p l s m _ meth c := C0
  obtain ⟨-, -, hown, hts, hK, hml, hA, hlocks, hX, -⟩ := id C0
  have hl : lv_has ls 5 [(0, .ref (q 0)), (1, .int x1), (2, .int x2), (3, .ref qo)] := hl
  refine lv_aload_n hx hb d_L_run_0 rfl (lv_at hl 3 rfl) ?_
  refine lv_iconst (v := 0) hx hb d_L_run_1 (by decide) ?_
  refine lv_aload_n hx hb d_L_run_2 rfl (lv_at hl 0 rfl) ?_
  refine lv_iload_n hx hb d_L_run_3 rfl (lv_at hl 1 rfl) ?_
  refine lv_iload_n hx hb d_L_run_4 rfl (lv_at hl 2 rfl) ?_
  refine hp_call (X := [(qo, eL cJ fL)]) (as := [.int x1, .int x2]) (rest := [.int 0, .ref qo]) C0 hH (c_B_run hl0 h) yy_B_run q_440 ⟨Nat.le_of_ble_eq_true rfl, Nat.le_of_ble_eq_true rfl⟩ rfl hl.1 rfl (Nat.le_of_ble_eq_true rfl) ⟨by simp only [bn_rm]; omega, by simp only [bn_rm]; omega⟩ d_L_run_5 (fun r q1 H locs ho hq hJ => ?_) (fun k q1 H locs ce q9 ho hq hJ hce hcv hcl => ?_)
  · refine lv_i2l hx hb d_L_run_8 rfl ?_
    refine va_last hx hb hE.2 hJ.1 hJ.2.1 hJ.2.2 0 0 (f := fL) rfl rfl (vpI (v := 0) (by decide) (by decide)) d_L_run_9 (fun H1 locs1 hP hD hS => ?_)
    have hJ : bc_H Z A s ((qo, eL cJ (vp_updL fL 0 r.toInt64)) :: bn_ws Z (q1, o.2)) H1 locs1 := ⟨hP, hD, hS⟩
    refine lv_goto (tgt := 29) hx hb d_L_run_10 (by decide) ?_
    refine lv_iconst (v := 0) hx hb d_L_run_29 (by decide) ?_
    exact bc_iret C0 hr hJ d_L_run_30 ⟨q1, hq, by rw [ho]; exact ⟨rfl, rfl⟩⟩ (by omega) (by omega)
  · have hk4 := hk k ho
    rcases (show k = 0 ∨ k = 1 ∨ k = 2 ∨ k = 3 by omega) with rfl | rfl | rfl | rfl
    · have hcl : s.vm.findClass "java/lang/IllegalArgumentException" = some ce.cls := hcl
      refine vx_catch (own := R_L) (name := "java/lang/IllegalArgumentException") (E := "java/lang/IllegalArgumentException") hown (tableOf []) ⟨0, 10, 13, 13⟩ (tableOf [(0, 10, 17, 15), (0, 10, 21, 17), (0, 10, 25, 19)]) (by rw [ht]; rfl) (fun z hz => by cases hz) rfl (by decide) (hts _ q_276) (va_Nw.use rfl (hX.2.2.2.2.2.1 _ (List.mem_of_getElem? (i := 0) rfl))) hce hcv hcl ?_
      refine W.eq (g2 := F0 m 13 ls [.ref q9]) rfl ?_
      refine lv_astore (lv' := [(4, .ref q9), (0, .ref (q 0)), (1, .int x1), (2, .int x2), (3, .ref qo)]) hx hb d_L_run_13 hl (by decide) rfl (fun ls hl => ?_)
      refine lv_iconst (v := 1) hx hb d_L_run_15 (by decide) ?_
      exact bc_iret C0 hr hJ d_L_run_16 ⟨q1, hq, by rw [ho]; exact ⟨rfl, rfl⟩⟩ (by omega) (by omega)
    · have hcl : s.vm.findClass "java/util/NoSuchElementException" = some ce.cls := hcl
      refine vx_catch (own := R_L) (name := "java/util/NoSuchElementException") (E := "java/util/NoSuchElementException") hown (tableOf [(0, 10, 13, 13)]) ⟨0, 10, 17, 15⟩ (tableOf [(0, 10, 21, 17), (0, 10, 25, 19)]) (by rw [ht]; rfl) (fun z hz => by
        simp only [tableOf, List.map_cons, List.map_nil, List.mem_cons, List.not_mem_nil, or_false] at hz
        rcases hz with rfl
        · exact Or.inr ⟨by decide, "java/lang/IllegalArgumentException", hts _ q_276, hE.1 _ (List.mem_of_getElem? (i := 0) rfl)⟩) rfl (by decide) (hts _ q_277) (va_Nw.use rfl (hX.2.2.2.2.2.1 _ (List.mem_of_getElem? (i := 1) rfl))) hce hcv hcl ?_
      refine W.eq (g2 := F0 m 17 ls [.ref q9]) rfl ?_
      refine lv_astore (lv' := [(4, .ref q9), (0, .ref (q 0)), (1, .int x1), (2, .int x2), (3, .ref qo)]) hx hb d_L_run_17 hl (by decide) rfl (fun ls hl => ?_)
      refine lv_iconst (v := 2) hx hb d_L_run_19 (by decide) ?_
      exact bc_iret C0 hr hJ d_L_run_20 ⟨q1, hq, by rw [ho]; exact ⟨rfl, rfl⟩⟩ (by omega) (by omega)
    · have hcl : s.vm.findClass "java/lang/UnsupportedOperationException" = some ce.cls := hcl
      refine vx_catch (own := R_L) (name := "java/lang/UnsupportedOperationException") (E := "java/lang/UnsupportedOperationException") hown (tableOf [(0, 10, 13, 13), (0, 10, 17, 15)]) ⟨0, 10, 21, 17⟩ (tableOf [(0, 10, 25, 19)]) (by rw [ht]; rfl) (fun z hz => by
        simp only [tableOf, List.map_cons, List.map_nil, List.mem_cons, List.not_mem_nil, or_false] at hz
        rcases hz with rfl | rfl
        · exact Or.inr ⟨by decide, "java/lang/IllegalArgumentException", hts _ q_276, hE.1 _ (List.mem_of_getElem? (i := 1) rfl)⟩
        · exact Or.inr ⟨by decide, "java/util/NoSuchElementException", hts _ q_277, hE.1 _ (List.mem_of_getElem? (i := 3) rfl)⟩) rfl (by decide) (hts _ q_278) (va_Nw.use rfl (hX.2.2.2.2.2.1 _ (List.mem_of_getElem? (i := 2) rfl))) hce hcv hcl ?_
      refine W.eq (g2 := F0 m 21 ls [.ref q9]) rfl ?_
      refine lv_astore (lv' := [(4, .ref q9), (0, .ref (q 0)), (1, .int x1), (2, .int x2), (3, .ref qo)]) hx hb d_L_run_21 hl (by decide) rfl (fun ls hl => ?_)
      refine lv_iconst (v := 3) hx hb d_L_run_23 (by decide) ?_
      exact bc_iret C0 hr hJ d_L_run_24 ⟨q1, hq, by rw [ho]; exact ⟨rfl, rfl⟩⟩ (by omega) (by omega)
    · have hcl : s.vm.findClass "java/lang/IllegalStateException" = some ce.cls := hcl
      refine vx_catch (own := R_L) (name := "java/lang/IllegalStateException") (E := "java/lang/IllegalStateException") hown (tableOf [(0, 10, 13, 13), (0, 10, 17, 15), (0, 10, 21, 17)]) ⟨0, 10, 25, 19⟩ (tableOf []) (by rw [ht]; rfl) (fun z hz => by
        simp only [tableOf, List.map_cons, List.map_nil, List.mem_cons, List.not_mem_nil, or_false] at hz
        rcases hz with rfl | rfl | rfl
        · exact Or.inr ⟨by decide, "java/lang/IllegalArgumentException", hts _ q_276, hE.1 _ (List.mem_of_getElem? (i := 2) rfl)⟩
        · exact Or.inr ⟨by decide, "java/util/NoSuchElementException", hts _ q_277, hE.1 _ (List.mem_of_getElem? (i := 4) rfl)⟩
        · exact Or.inr ⟨by decide, "java/lang/UnsupportedOperationException", hts _ q_278, hE.1 _ (List.mem_of_getElem? (i := 5) rfl)⟩) rfl (by decide) (hts _ q_279) (va_Nw.use rfl (hX.2.2.2.2.2.1 _ (List.mem_of_getElem? (i := 3) rfl))) hce hcv hcl ?_
      refine W.eq (g2 := F0 m 25 ls [.ref q9]) rfl ?_
      refine lv_astore (lv' := [(4, .ref q9), (0, .ref (q 0)), (1, .int x1), (2, .int x2), (3, .ref qo)]) hx hb d_L_run_25 hl (by decide) rfl (fun ls hl => ?_)
      refine lv_iconst (v := 4) hx hb d_L_run_27 (by decide) ?_
      exact bc_iret C0 hr hJ d_L_run_28 ⟨q1, hq, by rw [ho]; exact ⟨rfl, rfl⟩⟩ (by omega) (by omega)
theorem q_843 : Cond.codeWith y_L_keep b_L_keep 5 (some .int) [(0, 10, 13, 13), (0, 10, 17, 15), (0, 10, 21, 17), (0, 10, 25, 19)] ∈ al := al_t4 21 (by decide +kernel) (by decide +kernel)
set_option maxHeartbeats 8000000 in
set_option maxRecDepth 100000 in
theorem h_keep {l : Launch} {Z : bZ} {cJ : ClassId} (hl0 : l.stackTraces = false) {q g : Nat → Nat} {v : mS} {x1 x2 : Int32} {o : bO Int32} (h : f_B_keep g v x1 x2 = some o) (hk : ∀ k, o.1 = .inr k → k < 4) {qo : Nat} {fL : Nat → Int64} : hp_M l Z cJ 8 (mcO g o) (msO g o) y_L_keep b_L_keep 5 [(0, 10, 13, 13), (0, 10, 17, 15), (0, 10, 21, 17), (0, 10, 25, 19)] [.ref (q 0), .int x1, .int x2, .ref qo] ((qo, eL cJ fL) :: bn_ws Z (q, g, v)) (hp_post Z cJ qo fL q o) := by
  refine hp_of hl0 (by decide +kernel) (Nat.le_of_ble_eq_true rfl) ?_
  intro p e s m below meth c A ls C0 hE ht hr hl hH
  have hx := C0.1
  have hb := C0.2.1
  have C0 : bn_C R_L b_L_keep 5 Z A p l s m _ meth c := C0
  obtain ⟨-, -, hown, hts, hK, hml, hA, hlocks, hX, -⟩ := id C0
  have hl : lv_has ls 5 [(0, .ref (q 0)), (1, .int x1), (2, .int x2), (3, .ref qo)] := hl
  refine lv_aload_n hx hb d_L_keep_0 rfl (lv_at hl 3 rfl) ?_
  refine lv_iconst (v := 0) hx hb d_L_keep_1 (by decide) ?_
  refine lv_aload_n hx hb d_L_keep_2 rfl (lv_at hl 0 rfl) ?_
  refine lv_iload_n hx hb d_L_keep_3 rfl (lv_at hl 1 rfl) ?_
  refine lv_iload_n hx hb d_L_keep_4 rfl (lv_at hl 2 rfl) ?_
  refine hp_call (X := [(qo, eL cJ fL)]) (as := [.int x1, .int x2]) (rest := [.int 0, .ref qo]) C0 hH (c_B_keep hl0 h) yy_B_keep q_844 ⟨Nat.le_of_ble_eq_true rfl, Nat.le_of_ble_eq_true rfl⟩ rfl hl.1 rfl (Nat.le_of_ble_eq_true rfl) ⟨by simp only [bn_rm]; omega, by simp only [bn_rm]; omega⟩ d_L_keep_5 (fun r q1 H locs ho hq hJ => ?_) (fun k q1 H locs ce q9 ho hq hJ hce hcv hcl => ?_)
  · refine lv_i2l hx hb d_L_keep_8 rfl ?_
    refine va_last hx hb hE.2 hJ.1 hJ.2.1 hJ.2.2 0 0 (f := fL) rfl rfl (vpI (v := 0) (by decide) (by decide)) d_L_keep_9 (fun H1 locs1 hP hD hS => ?_)
    have hJ : bc_H Z A s ((qo, eL cJ (vp_updL fL 0 r.toInt64)) :: bn_ws Z (q1, o.2)) H1 locs1 := ⟨hP, hD, hS⟩
    refine lv_goto (tgt := 29) hx hb d_L_keep_10 (by decide) ?_
    refine lv_iconst (v := 0) hx hb d_L_keep_29 (by decide) ?_
    exact bc_iret C0 hr hJ d_L_keep_30 ⟨q1, hq, by rw [ho]; exact ⟨rfl, rfl⟩⟩ (by omega) (by omega)
  · have hk4 := hk k ho
    rcases (show k = 0 ∨ k = 1 ∨ k = 2 ∨ k = 3 by omega) with rfl | rfl | rfl | rfl
    · have hcl : s.vm.findClass "java/lang/IllegalArgumentException" = some ce.cls := hcl
      refine vx_catch (own := R_L) (name := "java/lang/IllegalArgumentException") (E := "java/lang/IllegalArgumentException") hown (tableOf []) ⟨0, 10, 13, 13⟩ (tableOf [(0, 10, 17, 15), (0, 10, 21, 17), (0, 10, 25, 19)]) (by rw [ht]; rfl) (fun z hz => by cases hz) rfl (by decide) (hts _ q_276) (va_Nw.use rfl (hX.2.2.2.2.2.1 _ (List.mem_of_getElem? (i := 0) rfl))) hce hcv hcl ?_
      refine W.eq (g2 := F0 m 13 ls [.ref q9]) rfl ?_
      refine lv_astore (lv' := [(4, .ref q9), (0, .ref (q 0)), (1, .int x1), (2, .int x2), (3, .ref qo)]) hx hb d_L_keep_13 hl (by decide) rfl (fun ls hl => ?_)
      refine lv_iconst (v := 1) hx hb d_L_keep_15 (by decide) ?_
      exact bc_iret C0 hr hJ d_L_keep_16 ⟨q1, hq, by rw [ho]; exact ⟨rfl, rfl⟩⟩ (by omega) (by omega)
    · have hcl : s.vm.findClass "java/util/NoSuchElementException" = some ce.cls := hcl
      refine vx_catch (own := R_L) (name := "java/util/NoSuchElementException") (E := "java/util/NoSuchElementException") hown (tableOf [(0, 10, 13, 13)]) ⟨0, 10, 17, 15⟩ (tableOf [(0, 10, 21, 17), (0, 10, 25, 19)]) (by rw [ht]; rfl) (fun z hz => by
        simp only [tableOf, List.map_cons, List.map_nil, List.mem_cons, List.not_mem_nil, or_false] at hz
        rcases hz with rfl
        · exact Or.inr ⟨by decide, "java/lang/IllegalArgumentException", hts _ q_276, hE.1 _ (List.mem_of_getElem? (i := 0) rfl)⟩) rfl (by decide) (hts _ q_277) (va_Nw.use rfl (hX.2.2.2.2.2.1 _ (List.mem_of_getElem? (i := 1) rfl))) hce hcv hcl ?_
      refine W.eq (g2 := F0 m 17 ls [.ref q9]) rfl ?_
      refine lv_astore (lv' := [(4, .ref q9), (0, .ref (q 0)), (1, .int x1), (2, .int x2), (3, .ref qo)]) hx hb d_L_keep_17 hl (by decide) rfl (fun ls hl => ?_)
      refine lv_iconst (v := 2) hx hb d_L_keep_19 (by decide) ?_
      exact bc_iret C0 hr hJ d_L_keep_20 ⟨q1, hq, by rw [ho]; exact ⟨rfl, rfl⟩⟩ (by omega) (by omega)
    · have hcl : s.vm.findClass "java/lang/UnsupportedOperationException" = some ce.cls := hcl
      refine vx_catch (own := R_L) (name := "java/lang/UnsupportedOperationException") (E := "java/lang/UnsupportedOperationException") hown (tableOf [(0, 10, 13, 13), (0, 10, 17, 15)]) ⟨0, 10, 21, 17⟩ (tableOf [(0, 10, 25, 19)]) (by rw [ht]; rfl) (fun z hz => by
        simp only [tableOf, List.map_cons, List.map_nil, List.mem_cons, List.not_mem_nil, or_false] at hz
        rcases hz with rfl | rfl
        · exact Or.inr ⟨by decide, "java/lang/IllegalArgumentException", hts _ q_276, hE.1 _ (List.mem_of_getElem? (i := 1) rfl)⟩
        · exact Or.inr ⟨by decide, "java/util/NoSuchElementException", hts _ q_277, hE.1 _ (List.mem_of_getElem? (i := 3) rfl)⟩) rfl (by decide) (hts _ q_278) (va_Nw.use rfl (hX.2.2.2.2.2.1 _ (List.mem_of_getElem? (i := 2) rfl))) hce hcv hcl ?_
      refine W.eq (g2 := F0 m 21 ls [.ref q9]) rfl ?_
      refine lv_astore (lv' := [(4, .ref q9), (0, .ref (q 0)), (1, .int x1), (2, .int x2), (3, .ref qo)]) hx hb d_L_keep_21 hl (by decide) rfl (fun ls hl => ?_)
      refine lv_iconst (v := 3) hx hb d_L_keep_23 (by decide) ?_
      exact bc_iret C0 hr hJ d_L_keep_24 ⟨q1, hq, by rw [ho]; exact ⟨rfl, rfl⟩⟩ (by omega) (by omega)
    · have hcl : s.vm.findClass "java/lang/IllegalStateException" = some ce.cls := hcl
      refine vx_catch (own := R_L) (name := "java/lang/IllegalStateException") (E := "java/lang/IllegalStateException") hown (tableOf [(0, 10, 13, 13), (0, 10, 17, 15), (0, 10, 21, 17)]) ⟨0, 10, 25, 19⟩ (tableOf []) (by rw [ht]; rfl) (fun z hz => by
        simp only [tableOf, List.map_cons, List.map_nil, List.mem_cons, List.not_mem_nil, or_false] at hz
        rcases hz with rfl | rfl | rfl
        · exact Or.inr ⟨by decide, "java/lang/IllegalArgumentException", hts _ q_276, hE.1 _ (List.mem_of_getElem? (i := 2) rfl)⟩
        · exact Or.inr ⟨by decide, "java/util/NoSuchElementException", hts _ q_277, hE.1 _ (List.mem_of_getElem? (i := 4) rfl)⟩
        · exact Or.inr ⟨by decide, "java/lang/UnsupportedOperationException", hts _ q_278, hE.1 _ (List.mem_of_getElem? (i := 5) rfl)⟩) rfl (by decide) (hts _ q_279) (va_Nw.use rfl (hX.2.2.2.2.2.1 _ (List.mem_of_getElem? (i := 3) rfl))) hce hcv hcl ?_
      refine W.eq (g2 := F0 m 25 ls [.ref q9]) rfl ?_
      refine lv_astore (lv' := [(4, .ref q9), (0, .ref (q 0)), (1, .int x1), (2, .int x2), (3, .ref qo)]) hx hb d_L_keep_25 hl (by decide) rfl (fun ls hl => ?_)
      refine lv_iconst (v := 4) hx hb d_L_keep_27 (by decide) ?_
      exact bc_iret C0 hr hJ d_L_keep_28 ⟨q1, hq, by rw [ho]; exact ⟨rfl, rfl⟩⟩ (by omega) (by omega)
theorem q_856 : Cond.codeWith y_L_kind b_L_kind 5 (some .int) [(0, 10, 13, 13), (0, 10, 17, 15), (0, 10, 21, 17), (0, 10, 25, 19)] ∈ al := al_t4 34 (by decide +kernel) (by decide +kernel)
set_option maxHeartbeats 8000000 in
set_option maxRecDepth 100000 in
theorem h_kind {l : Launch} {Z : bZ} {cJ : ClassId} (hl0 : l.stackTraces = false) {q g : Nat → Nat} {v : mS} {x1 x2 : Int32} {o : bO Int32} (h : f_B_kind g v x1 x2 = some o) (hk : ∀ k, o.1 = .inr k → k < 4) {qo : Nat} {fL : Nat → Int64} : hp_M l Z cJ 9 (mcO g o) (msO g o) y_L_kind b_L_kind 5 [(0, 10, 13, 13), (0, 10, 17, 15), (0, 10, 21, 17), (0, 10, 25, 19)] [.ref (q 0), .int x1, .int x2, .ref qo] ((qo, eL cJ fL) :: bn_ws Z (q, g, v)) (hp_post Z cJ qo fL q o) := by
  refine hp_of hl0 (by decide +kernel) (Nat.le_of_ble_eq_true rfl) ?_
  intro p e s m below meth c A ls C0 hE ht hr hl hH
  have hx := C0.1
  have hb := C0.2.1
  have C0 : bn_C R_L b_L_kind 5 Z A p l s m _ meth c := C0
  obtain ⟨-, -, hown, hts, hK, hml, hA, hlocks, hX, -⟩ := id C0
  have hl : lv_has ls 5 [(0, .ref (q 0)), (1, .int x1), (2, .int x2), (3, .ref qo)] := hl
  refine lv_aload_n hx hb d_L_kind_0 rfl (lv_at hl 3 rfl) ?_
  refine lv_iconst (v := 0) hx hb d_L_kind_1 (by decide) ?_
  refine lv_aload_n hx hb d_L_kind_2 rfl (lv_at hl 0 rfl) ?_
  refine lv_iload_n hx hb d_L_kind_3 rfl (lv_at hl 1 rfl) ?_
  refine lv_iload_n hx hb d_L_kind_4 rfl (lv_at hl 2 rfl) ?_
  refine hp_call (X := [(qo, eL cJ fL)]) (as := [.int x1, .int x2]) (rest := [.int 0, .ref qo]) C0 hH (c_B_kind hl0 h) yy_B_kind q_857 ⟨Nat.le_of_ble_eq_true rfl, Nat.le_of_ble_eq_true rfl⟩ rfl hl.1 rfl (Nat.le_of_ble_eq_true rfl) ⟨by simp only [bn_rm]; omega, by simp only [bn_rm]; omega⟩ d_L_kind_5 (fun r q1 H locs ho hq hJ => ?_) (fun k q1 H locs ce q9 ho hq hJ hce hcv hcl => ?_)
  · refine lv_i2l hx hb d_L_kind_8 rfl ?_
    refine va_last hx hb hE.2 hJ.1 hJ.2.1 hJ.2.2 0 0 (f := fL) rfl rfl (vpI (v := 0) (by decide) (by decide)) d_L_kind_9 (fun H1 locs1 hP hD hS => ?_)
    have hJ : bc_H Z A s ((qo, eL cJ (vp_updL fL 0 r.toInt64)) :: bn_ws Z (q1, o.2)) H1 locs1 := ⟨hP, hD, hS⟩
    refine lv_goto (tgt := 29) hx hb d_L_kind_10 (by decide) ?_
    refine lv_iconst (v := 0) hx hb d_L_kind_29 (by decide) ?_
    exact bc_iret C0 hr hJ d_L_kind_30 ⟨q1, hq, by rw [ho]; exact ⟨rfl, rfl⟩⟩ (by omega) (by omega)
  · have hk4 := hk k ho
    rcases (show k = 0 ∨ k = 1 ∨ k = 2 ∨ k = 3 by omega) with rfl | rfl | rfl | rfl
    · have hcl : s.vm.findClass "java/lang/IllegalArgumentException" = some ce.cls := hcl
      refine vx_catch (own := R_L) (name := "java/lang/IllegalArgumentException") (E := "java/lang/IllegalArgumentException") hown (tableOf []) ⟨0, 10, 13, 13⟩ (tableOf [(0, 10, 17, 15), (0, 10, 21, 17), (0, 10, 25, 19)]) (by rw [ht]; rfl) (fun z hz => by cases hz) rfl (by decide) (hts _ q_276) (va_Nw.use rfl (hX.2.2.2.2.2.1 _ (List.mem_of_getElem? (i := 0) rfl))) hce hcv hcl ?_
      refine W.eq (g2 := F0 m 13 ls [.ref q9]) rfl ?_
      refine lv_astore (lv' := [(4, .ref q9), (0, .ref (q 0)), (1, .int x1), (2, .int x2), (3, .ref qo)]) hx hb d_L_kind_13 hl (by decide) rfl (fun ls hl => ?_)
      refine lv_iconst (v := 1) hx hb d_L_kind_15 (by decide) ?_
      exact bc_iret C0 hr hJ d_L_kind_16 ⟨q1, hq, by rw [ho]; exact ⟨rfl, rfl⟩⟩ (by omega) (by omega)
    · have hcl : s.vm.findClass "java/util/NoSuchElementException" = some ce.cls := hcl
      refine vx_catch (own := R_L) (name := "java/util/NoSuchElementException") (E := "java/util/NoSuchElementException") hown (tableOf [(0, 10, 13, 13)]) ⟨0, 10, 17, 15⟩ (tableOf [(0, 10, 21, 17), (0, 10, 25, 19)]) (by rw [ht]; rfl) (fun z hz => by
        simp only [tableOf, List.map_cons, List.map_nil, List.mem_cons, List.not_mem_nil, or_false] at hz
        rcases hz with rfl
        · exact Or.inr ⟨by decide, "java/lang/IllegalArgumentException", hts _ q_276, hE.1 _ (List.mem_of_getElem? (i := 0) rfl)⟩) rfl (by decide) (hts _ q_277) (va_Nw.use rfl (hX.2.2.2.2.2.1 _ (List.mem_of_getElem? (i := 1) rfl))) hce hcv hcl ?_
      refine W.eq (g2 := F0 m 17 ls [.ref q9]) rfl ?_
      refine lv_astore (lv' := [(4, .ref q9), (0, .ref (q 0)), (1, .int x1), (2, .int x2), (3, .ref qo)]) hx hb d_L_kind_17 hl (by decide) rfl (fun ls hl => ?_)
      refine lv_iconst (v := 2) hx hb d_L_kind_19 (by decide) ?_
      exact bc_iret C0 hr hJ d_L_kind_20 ⟨q1, hq, by rw [ho]; exact ⟨rfl, rfl⟩⟩ (by omega) (by omega)
    · have hcl : s.vm.findClass "java/lang/UnsupportedOperationException" = some ce.cls := hcl
      refine vx_catch (own := R_L) (name := "java/lang/UnsupportedOperationException") (E := "java/lang/UnsupportedOperationException") hown (tableOf [(0, 10, 13, 13), (0, 10, 17, 15)]) ⟨0, 10, 21, 17⟩ (tableOf [(0, 10, 25, 19)]) (by rw [ht]; rfl) (fun z hz => by
        simp only [tableOf, List.map_cons, List.map_nil, List.mem_cons, List.not_mem_nil, or_false] at hz
        rcases hz with rfl | rfl
        · exact Or.inr ⟨by decide, "java/lang/IllegalArgumentException", hts _ q_276, hE.1 _ (List.mem_of_getElem? (i := 1) rfl)⟩
        · exact Or.inr ⟨by decide, "java/util/NoSuchElementException", hts _ q_277, hE.1 _ (List.mem_of_getElem? (i := 3) rfl)⟩) rfl (by decide) (hts _ q_278) (va_Nw.use rfl (hX.2.2.2.2.2.1 _ (List.mem_of_getElem? (i := 2) rfl))) hce hcv hcl ?_
      refine W.eq (g2 := F0 m 21 ls [.ref q9]) rfl ?_
      refine lv_astore (lv' := [(4, .ref q9), (0, .ref (q 0)), (1, .int x1), (2, .int x2), (3, .ref qo)]) hx hb d_L_kind_21 hl (by decide) rfl (fun ls hl => ?_)
      refine lv_iconst (v := 3) hx hb d_L_kind_23 (by decide) ?_
      exact bc_iret C0 hr hJ d_L_kind_24 ⟨q1, hq, by rw [ho]; exact ⟨rfl, rfl⟩⟩ (by omega) (by omega)
    · have hcl : s.vm.findClass "java/lang/IllegalStateException" = some ce.cls := hcl
      refine vx_catch (own := R_L) (name := "java/lang/IllegalStateException") (E := "java/lang/IllegalStateException") hown (tableOf [(0, 10, 13, 13), (0, 10, 17, 15), (0, 10, 21, 17)]) ⟨0, 10, 25, 19⟩ (tableOf []) (by rw [ht]; rfl) (fun z hz => by
        simp only [tableOf, List.map_cons, List.map_nil, List.mem_cons, List.not_mem_nil, or_false] at hz
        rcases hz with rfl | rfl | rfl
        · exact Or.inr ⟨by decide, "java/lang/IllegalArgumentException", hts _ q_276, hE.1 _ (List.mem_of_getElem? (i := 2) rfl)⟩
        · exact Or.inr ⟨by decide, "java/util/NoSuchElementException", hts _ q_277, hE.1 _ (List.mem_of_getElem? (i := 4) rfl)⟩
        · exact Or.inr ⟨by decide, "java/lang/UnsupportedOperationException", hts _ q_278, hE.1 _ (List.mem_of_getElem? (i := 5) rfl)⟩) rfl (by decide) (hts _ q_279) (va_Nw.use rfl (hX.2.2.2.2.2.1 _ (List.mem_of_getElem? (i := 3) rfl))) hce hcv hcl ?_
      refine W.eq (g2 := F0 m 25 ls [.ref q9]) rfl ?_
      refine lv_astore (lv' := [(4, .ref q9), (0, .ref (q 0)), (1, .int x1), (2, .int x2), (3, .ref qo)]) hx hb d_L_kind_25 hl (by decide) rfl (fun ls hl => ?_)
      refine lv_iconst (v := 4) hx hb d_L_kind_27 (by decide) ?_
      exact bc_iret C0 hr hJ d_L_kind_28 ⟨q1, hq, by rw [ho]; exact ⟨rfl, rfl⟩⟩ (by omega) (by omega)
theorem q_878 : Cond.codeWith y_L_length b_L_length 5 (some .int) [(0, 10, 13, 13), (0, 10, 17, 15), (0, 10, 21, 17), (0, 10, 25, 19)] ∈ al := al_t4 56 (by decide +kernel) (by decide +kernel)
set_option maxHeartbeats 8000000 in
set_option maxRecDepth 100000 in
theorem h_length {l : Launch} {Z : bZ} {cJ : ClassId} (hl0 : l.stackTraces = false) {q g : Nat → Nat} {v : mS} {x1 x2 : Int32} {o : bO Int32} (h : f_B_length g v x1 x2 = some o) (hk : ∀ k, o.1 = .inr k → k < 4) {qo : Nat} {fL : Nat → Int64} : hp_M l Z cJ 9 (mcO g o) (msO g o) y_L_length b_L_length 5 [(0, 10, 13, 13), (0, 10, 17, 15), (0, 10, 21, 17), (0, 10, 25, 19)] [.ref (q 0), .int x1, .int x2, .ref qo] ((qo, eL cJ fL) :: bn_ws Z (q, g, v)) (hp_post Z cJ qo fL q o) := by
  refine hp_of hl0 (by decide +kernel) (Nat.le_of_ble_eq_true rfl) ?_
  intro p e s m below meth c A ls C0 hE ht hr hl hH
  have hx := C0.1
  have hb := C0.2.1
  have C0 : bn_C R_L b_L_length 5 Z A p l s m _ meth c := C0
  obtain ⟨-, -, hown, hts, hK, hml, hA, hlocks, hX, -⟩ := id C0
  have hl : lv_has ls 5 [(0, .ref (q 0)), (1, .int x1), (2, .int x2), (3, .ref qo)] := hl
  refine lv_aload_n hx hb d_L_length_0 rfl (lv_at hl 3 rfl) ?_
  refine lv_iconst (v := 0) hx hb d_L_length_1 (by decide) ?_
  refine lv_aload_n hx hb d_L_length_2 rfl (lv_at hl 0 rfl) ?_
  refine lv_iload_n hx hb d_L_length_3 rfl (lv_at hl 1 rfl) ?_
  refine lv_iload_n hx hb d_L_length_4 rfl (lv_at hl 2 rfl) ?_
  refine hp_call (X := [(qo, eL cJ fL)]) (as := [.int x1, .int x2]) (rest := [.int 0, .ref qo]) C0 hH (c_B_length hl0 h) yy_B_length q_879 ⟨Nat.le_of_ble_eq_true rfl, Nat.le_of_ble_eq_true rfl⟩ rfl hl.1 rfl (Nat.le_of_ble_eq_true rfl) ⟨by simp only [bn_rm]; omega, by simp only [bn_rm]; omega⟩ d_L_length_5 (fun r q1 H locs ho hq hJ => ?_) (fun k q1 H locs ce q9 ho hq hJ hce hcv hcl => ?_)
  · refine lv_i2l hx hb d_L_length_8 rfl ?_
    refine va_last hx hb hE.2 hJ.1 hJ.2.1 hJ.2.2 0 0 (f := fL) rfl rfl (vpI (v := 0) (by decide) (by decide)) d_L_length_9 (fun H1 locs1 hP hD hS => ?_)
    have hJ : bc_H Z A s ((qo, eL cJ (vp_updL fL 0 r.toInt64)) :: bn_ws Z (q1, o.2)) H1 locs1 := ⟨hP, hD, hS⟩
    refine lv_goto (tgt := 29) hx hb d_L_length_10 (by decide) ?_
    refine lv_iconst (v := 0) hx hb d_L_length_29 (by decide) ?_
    exact bc_iret C0 hr hJ d_L_length_30 ⟨q1, hq, by rw [ho]; exact ⟨rfl, rfl⟩⟩ (by omega) (by omega)
  · have hk4 := hk k ho
    rcases (show k = 0 ∨ k = 1 ∨ k = 2 ∨ k = 3 by omega) with rfl | rfl | rfl | rfl
    · have hcl : s.vm.findClass "java/lang/IllegalArgumentException" = some ce.cls := hcl
      refine vx_catch (own := R_L) (name := "java/lang/IllegalArgumentException") (E := "java/lang/IllegalArgumentException") hown (tableOf []) ⟨0, 10, 13, 13⟩ (tableOf [(0, 10, 17, 15), (0, 10, 21, 17), (0, 10, 25, 19)]) (by rw [ht]; rfl) (fun z hz => by cases hz) rfl (by decide) (hts _ q_276) (va_Nw.use rfl (hX.2.2.2.2.2.1 _ (List.mem_of_getElem? (i := 0) rfl))) hce hcv hcl ?_
      refine W.eq (g2 := F0 m 13 ls [.ref q9]) rfl ?_
      refine lv_astore (lv' := [(4, .ref q9), (0, .ref (q 0)), (1, .int x1), (2, .int x2), (3, .ref qo)]) hx hb d_L_length_13 hl (by decide) rfl (fun ls hl => ?_)
      refine lv_iconst (v := 1) hx hb d_L_length_15 (by decide) ?_
      exact bc_iret C0 hr hJ d_L_length_16 ⟨q1, hq, by rw [ho]; exact ⟨rfl, rfl⟩⟩ (by omega) (by omega)
    · have hcl : s.vm.findClass "java/util/NoSuchElementException" = some ce.cls := hcl
      refine vx_catch (own := R_L) (name := "java/util/NoSuchElementException") (E := "java/util/NoSuchElementException") hown (tableOf [(0, 10, 13, 13)]) ⟨0, 10, 17, 15⟩ (tableOf [(0, 10, 21, 17), (0, 10, 25, 19)]) (by rw [ht]; rfl) (fun z hz => by
        simp only [tableOf, List.map_cons, List.map_nil, List.mem_cons, List.not_mem_nil, or_false] at hz
        rcases hz with rfl
        · exact Or.inr ⟨by decide, "java/lang/IllegalArgumentException", hts _ q_276, hE.1 _ (List.mem_of_getElem? (i := 0) rfl)⟩) rfl (by decide) (hts _ q_277) (va_Nw.use rfl (hX.2.2.2.2.2.1 _ (List.mem_of_getElem? (i := 1) rfl))) hce hcv hcl ?_
      refine W.eq (g2 := F0 m 17 ls [.ref q9]) rfl ?_
      refine lv_astore (lv' := [(4, .ref q9), (0, .ref (q 0)), (1, .int x1), (2, .int x2), (3, .ref qo)]) hx hb d_L_length_17 hl (by decide) rfl (fun ls hl => ?_)
      refine lv_iconst (v := 2) hx hb d_L_length_19 (by decide) ?_
      exact bc_iret C0 hr hJ d_L_length_20 ⟨q1, hq, by rw [ho]; exact ⟨rfl, rfl⟩⟩ (by omega) (by omega)
    · have hcl : s.vm.findClass "java/lang/UnsupportedOperationException" = some ce.cls := hcl
      refine vx_catch (own := R_L) (name := "java/lang/UnsupportedOperationException") (E := "java/lang/UnsupportedOperationException") hown (tableOf [(0, 10, 13, 13), (0, 10, 17, 15)]) ⟨0, 10, 21, 17⟩ (tableOf [(0, 10, 25, 19)]) (by rw [ht]; rfl) (fun z hz => by
        simp only [tableOf, List.map_cons, List.map_nil, List.mem_cons, List.not_mem_nil, or_false] at hz
        rcases hz with rfl | rfl
        · exact Or.inr ⟨by decide, "java/lang/IllegalArgumentException", hts _ q_276, hE.1 _ (List.mem_of_getElem? (i := 1) rfl)⟩
        · exact Or.inr ⟨by decide, "java/util/NoSuchElementException", hts _ q_277, hE.1 _ (List.mem_of_getElem? (i := 3) rfl)⟩) rfl (by decide) (hts _ q_278) (va_Nw.use rfl (hX.2.2.2.2.2.1 _ (List.mem_of_getElem? (i := 2) rfl))) hce hcv hcl ?_
      refine W.eq (g2 := F0 m 21 ls [.ref q9]) rfl ?_
      refine lv_astore (lv' := [(4, .ref q9), (0, .ref (q 0)), (1, .int x1), (2, .int x2), (3, .ref qo)]) hx hb d_L_length_21 hl (by decide) rfl (fun ls hl => ?_)
      refine lv_iconst (v := 3) hx hb d_L_length_23 (by decide) ?_
      exact bc_iret C0 hr hJ d_L_length_24 ⟨q1, hq, by rw [ho]; exact ⟨rfl, rfl⟩⟩ (by omega) (by omega)
    · have hcl : s.vm.findClass "java/lang/IllegalStateException" = some ce.cls := hcl
      refine vx_catch (own := R_L) (name := "java/lang/IllegalStateException") (E := "java/lang/IllegalStateException") hown (tableOf [(0, 10, 13, 13), (0, 10, 17, 15), (0, 10, 21, 17)]) ⟨0, 10, 25, 19⟩ (tableOf []) (by rw [ht]; rfl) (fun z hz => by
        simp only [tableOf, List.map_cons, List.map_nil, List.mem_cons, List.not_mem_nil, or_false] at hz
        rcases hz with rfl | rfl | rfl
        · exact Or.inr ⟨by decide, "java/lang/IllegalArgumentException", hts _ q_276, hE.1 _ (List.mem_of_getElem? (i := 2) rfl)⟩
        · exact Or.inr ⟨by decide, "java/util/NoSuchElementException", hts _ q_277, hE.1 _ (List.mem_of_getElem? (i := 4) rfl)⟩
        · exact Or.inr ⟨by decide, "java/lang/UnsupportedOperationException", hts _ q_278, hE.1 _ (List.mem_of_getElem? (i := 5) rfl)⟩) rfl (by decide) (hts _ q_279) (va_Nw.use rfl (hX.2.2.2.2.2.1 _ (List.mem_of_getElem? (i := 3) rfl))) hce hcv hcl ?_
      refine W.eq (g2 := F0 m 25 ls [.ref q9]) rfl ?_
      refine lv_astore (lv' := [(4, .ref q9), (0, .ref (q 0)), (1, .int x1), (2, .int x2), (3, .ref qo)]) hx hb d_L_length_25 hl (by decide) rfl (fun ls hl => ?_)
      refine lv_iconst (v := 4) hx hb d_L_length_27 (by decide) ?_
      exact bc_iret C0 hr hJ d_L_length_28 ⟨q1, hq, by rw [ho]; exact ⟨rfl, rfl⟩⟩ (by omega) (by omega)
theorem q_885 : Cond.codeWith y_L_number b_L_number 6 (some .int) [(0, 12, 15, 13), (0, 12, 19, 15), (0, 12, 23, 17), (0, 12, 27, 19)] ∈ al := al_t4 63 (by decide +kernel) (by decide +kernel)
set_option maxHeartbeats 8000000 in
set_option maxRecDepth 100000 in
theorem h_number {l : Launch} {Z : bZ} {cJ : ClassId} (hl0 : l.stackTraces = false) {q g : Nat → Nat} {v : mS} {x1 x2 x3 : Int32} {o : bO Int32} (h : f_B_number g v x1 x2 x3 = some o) (hk : ∀ k, o.1 = .inr k → k < 4) {qo : Nat} {fL : Nat → Int64} : hp_M l Z cJ 9 (mcO g o) (msO g o) y_L_number b_L_number 6 [(0, 12, 15, 13), (0, 12, 19, 15), (0, 12, 23, 17), (0, 12, 27, 19)] [.ref (q 0), .int x1, .int x2, .int x3, .ref qo] ((qo, eL cJ fL) :: bn_ws Z (q, g, v)) (hp_post Z cJ qo fL q o) := by
  refine hp_of hl0 (by decide +kernel) (Nat.le_of_ble_eq_true rfl) ?_
  intro p e s m below meth c A ls C0 hE ht hr hl hH
  have hx := C0.1
  have hb := C0.2.1
  have C0 : bn_C R_L b_L_number 6 Z A p l s m _ meth c := C0
  obtain ⟨-, -, hown, hts, hK, hml, hA, hlocks, hX, -⟩ := id C0
  have hl : lv_has ls 6 [(0, .ref (q 0)), (1, .int x1), (2, .int x2), (3, .int x3), (4, .ref qo)] := hl
  refine lv_aload hx hb d_L_number_0 (lv_at hl 4 rfl) ?_
  refine lv_iconst (v := 0) hx hb d_L_number_2 (by decide) ?_
  refine lv_aload_n hx hb d_L_number_3 rfl (lv_at hl 0 rfl) ?_
  refine lv_iload_n hx hb d_L_number_4 rfl (lv_at hl 1 rfl) ?_
  refine lv_iload_n hx hb d_L_number_5 rfl (lv_at hl 2 rfl) ?_
  refine lv_iload_n hx hb d_L_number_6 rfl (lv_at hl 3 rfl) ?_
  refine hp_call (X := [(qo, eL cJ fL)]) (as := [.int x1, .int x2, .int x3]) (rest := [.int 0, .ref qo]) C0 hH (c_B_number hl0 h) yy_B_number q_886 ⟨Nat.le_of_ble_eq_true rfl, Nat.le_of_ble_eq_true rfl⟩ rfl hl.1 rfl (Nat.le_of_ble_eq_true rfl) ⟨by simp only [bn_rm]; omega, by simp only [bn_rm]; omega⟩ d_L_number_7 (fun r q1 H locs ho hq hJ => ?_) (fun k q1 H locs ce q9 ho hq hJ hce hcv hcl => ?_)
  · refine lv_i2l hx hb d_L_number_10 rfl ?_
    refine va_last hx hb hE.2 hJ.1 hJ.2.1 hJ.2.2 0 0 (f := fL) rfl rfl (vpI (v := 0) (by decide) (by decide)) d_L_number_11 (fun H1 locs1 hP hD hS => ?_)
    have hJ : bc_H Z A s ((qo, eL cJ (vp_updL fL 0 r.toInt64)) :: bn_ws Z (q1, o.2)) H1 locs1 := ⟨hP, hD, hS⟩
    refine lv_goto (tgt := 31) hx hb d_L_number_12 (by decide) ?_
    refine lv_iconst (v := 0) hx hb d_L_number_31 (by decide) ?_
    exact bc_iret C0 hr hJ d_L_number_32 ⟨q1, hq, by rw [ho]; exact ⟨rfl, rfl⟩⟩ (by omega) (by omega)
  · have hk4 := hk k ho
    rcases (show k = 0 ∨ k = 1 ∨ k = 2 ∨ k = 3 by omega) with rfl | rfl | rfl | rfl
    · have hcl : s.vm.findClass "java/lang/IllegalArgumentException" = some ce.cls := hcl
      refine vx_catch (own := R_L) (name := "java/lang/IllegalArgumentException") (E := "java/lang/IllegalArgumentException") hown (tableOf []) ⟨0, 12, 15, 13⟩ (tableOf [(0, 12, 19, 15), (0, 12, 23, 17), (0, 12, 27, 19)]) (by rw [ht]; rfl) (fun z hz => by cases hz) rfl (by decide) (hts _ q_276) (va_Nw.use rfl (hX.2.2.2.2.2.1 _ (List.mem_of_getElem? (i := 0) rfl))) hce hcv hcl ?_
      refine W.eq (g2 := F0 m 15 ls [.ref q9]) rfl ?_
      refine lv_astore (lv' := [(5, .ref q9), (0, .ref (q 0)), (1, .int x1), (2, .int x2), (3, .int x3), (4, .ref qo)]) hx hb d_L_number_15 hl (by decide) rfl (fun ls hl => ?_)
      refine lv_iconst (v := 1) hx hb d_L_number_17 (by decide) ?_
      exact bc_iret C0 hr hJ d_L_number_18 ⟨q1, hq, by rw [ho]; exact ⟨rfl, rfl⟩⟩ (by omega) (by omega)
    · have hcl : s.vm.findClass "java/util/NoSuchElementException" = some ce.cls := hcl
      refine vx_catch (own := R_L) (name := "java/util/NoSuchElementException") (E := "java/util/NoSuchElementException") hown (tableOf [(0, 12, 15, 13)]) ⟨0, 12, 19, 15⟩ (tableOf [(0, 12, 23, 17), (0, 12, 27, 19)]) (by rw [ht]; rfl) (fun z hz => by
        simp only [tableOf, List.map_cons, List.map_nil, List.mem_cons, List.not_mem_nil, or_false] at hz
        rcases hz with rfl
        · exact Or.inr ⟨by decide, "java/lang/IllegalArgumentException", hts _ q_276, hE.1 _ (List.mem_of_getElem? (i := 0) rfl)⟩) rfl (by decide) (hts _ q_277) (va_Nw.use rfl (hX.2.2.2.2.2.1 _ (List.mem_of_getElem? (i := 1) rfl))) hce hcv hcl ?_
      refine W.eq (g2 := F0 m 19 ls [.ref q9]) rfl ?_
      refine lv_astore (lv' := [(5, .ref q9), (0, .ref (q 0)), (1, .int x1), (2, .int x2), (3, .int x3), (4, .ref qo)]) hx hb d_L_number_19 hl (by decide) rfl (fun ls hl => ?_)
      refine lv_iconst (v := 2) hx hb d_L_number_21 (by decide) ?_
      exact bc_iret C0 hr hJ d_L_number_22 ⟨q1, hq, by rw [ho]; exact ⟨rfl, rfl⟩⟩ (by omega) (by omega)
    · have hcl : s.vm.findClass "java/lang/UnsupportedOperationException" = some ce.cls := hcl
      refine vx_catch (own := R_L) (name := "java/lang/UnsupportedOperationException") (E := "java/lang/UnsupportedOperationException") hown (tableOf [(0, 12, 15, 13), (0, 12, 19, 15)]) ⟨0, 12, 23, 17⟩ (tableOf [(0, 12, 27, 19)]) (by rw [ht]; rfl) (fun z hz => by
        simp only [tableOf, List.map_cons, List.map_nil, List.mem_cons, List.not_mem_nil, or_false] at hz
        rcases hz with rfl | rfl
        · exact Or.inr ⟨by decide, "java/lang/IllegalArgumentException", hts _ q_276, hE.1 _ (List.mem_of_getElem? (i := 1) rfl)⟩
        · exact Or.inr ⟨by decide, "java/util/NoSuchElementException", hts _ q_277, hE.1 _ (List.mem_of_getElem? (i := 3) rfl)⟩) rfl (by decide) (hts _ q_278) (va_Nw.use rfl (hX.2.2.2.2.2.1 _ (List.mem_of_getElem? (i := 2) rfl))) hce hcv hcl ?_
      refine W.eq (g2 := F0 m 23 ls [.ref q9]) rfl ?_
      refine lv_astore (lv' := [(5, .ref q9), (0, .ref (q 0)), (1, .int x1), (2, .int x2), (3, .int x3), (4, .ref qo)]) hx hb d_L_number_23 hl (by decide) rfl (fun ls hl => ?_)
      refine lv_iconst (v := 3) hx hb d_L_number_25 (by decide) ?_
      exact bc_iret C0 hr hJ d_L_number_26 ⟨q1, hq, by rw [ho]; exact ⟨rfl, rfl⟩⟩ (by omega) (by omega)
    · have hcl : s.vm.findClass "java/lang/IllegalStateException" = some ce.cls := hcl
      refine vx_catch (own := R_L) (name := "java/lang/IllegalStateException") (E := "java/lang/IllegalStateException") hown (tableOf [(0, 12, 15, 13), (0, 12, 19, 15), (0, 12, 23, 17)]) ⟨0, 12, 27, 19⟩ (tableOf []) (by rw [ht]; rfl) (fun z hz => by
        simp only [tableOf, List.map_cons, List.map_nil, List.mem_cons, List.not_mem_nil, or_false] at hz
        rcases hz with rfl | rfl | rfl
        · exact Or.inr ⟨by decide, "java/lang/IllegalArgumentException", hts _ q_276, hE.1 _ (List.mem_of_getElem? (i := 2) rfl)⟩
        · exact Or.inr ⟨by decide, "java/util/NoSuchElementException", hts _ q_277, hE.1 _ (List.mem_of_getElem? (i := 4) rfl)⟩
        · exact Or.inr ⟨by decide, "java/lang/UnsupportedOperationException", hts _ q_278, hE.1 _ (List.mem_of_getElem? (i := 5) rfl)⟩) rfl (by decide) (hts _ q_279) (va_Nw.use rfl (hX.2.2.2.2.2.1 _ (List.mem_of_getElem? (i := 3) rfl))) hce hcv hcl ?_
      refine W.eq (g2 := F0 m 27 ls [.ref q9]) rfl ?_
      refine lv_astore (lv' := [(5, .ref q9), (0, .ref (q 0)), (1, .int x1), (2, .int x2), (3, .int x3), (4, .ref qo)]) hx hb d_L_number_27 hl (by decide) rfl (fun ls hl => ?_)
      refine lv_iconst (v := 4) hx hb d_L_number_29 (by decide) ?_
      exact bc_iret C0 hr hJ d_L_number_30 ⟨q1, hq, by rw [ho]; exact ⟨rfl, rfl⟩⟩ (by omega) (by omega)
theorem q_894 : Cond.codeWith y_L_character b_L_character 7 (some .int) [(0, 14, 17, 13), (0, 14, 21, 15), (0, 14, 25, 17), (0, 14, 29, 19)] ∈ al := al_t4 72 (by decide +kernel) (by decide +kernel)
set_option maxHeartbeats 8000000 in
set_option maxRecDepth 100000 in
theorem h_character {l : Launch} {Z : bZ} {cJ : ClassId} (hl0 : l.stackTraces = false) {q g : Nat → Nat} {v : mS} {x1 x2 x3 x4 : Int32} {o : bO Int32} (h : f_B_character g v x1 x2 x3 x4 = some o) (hk : ∀ k, o.1 = .inr k → k < 4) {qo : Nat} {fL : Nat → Int64} : hp_M l Z cJ 9 (mcO g o) (msO g o) y_L_character b_L_character 7 [(0, 14, 17, 13), (0, 14, 21, 15), (0, 14, 25, 17), (0, 14, 29, 19)] [.ref (q 0), .int x1, .int x2, .int x3, .int x4, .ref qo] ((qo, eL cJ fL) :: bn_ws Z (q, g, v)) (hp_post Z cJ qo fL q o) := by
  refine hp_of hl0 (by decide +kernel) (Nat.le_of_ble_eq_true rfl) ?_
  intro p e s m below meth c A ls C0 hE ht hr hl hH
  have hx := C0.1
  have hb := C0.2.1
  have C0 : bn_C R_L b_L_character 7 Z A p l s m _ meth c := C0
  obtain ⟨-, -, hown, hts, hK, hml, hA, hlocks, hX, -⟩ := id C0
  have hl : lv_has ls 7 [(0, .ref (q 0)), (1, .int x1), (2, .int x2), (3, .int x3), (4, .int x4), (5, .ref qo)] := hl
  refine lv_aload hx hb d_L_character_0 (lv_at hl 5 rfl) ?_
  refine lv_iconst (v := 0) hx hb d_L_character_2 (by decide) ?_
  refine lv_aload_n hx hb d_L_character_3 rfl (lv_at hl 0 rfl) ?_
  refine lv_iload_n hx hb d_L_character_4 rfl (lv_at hl 1 rfl) ?_
  refine lv_iload_n hx hb d_L_character_5 rfl (lv_at hl 2 rfl) ?_
  refine lv_iload_n hx hb d_L_character_6 rfl (lv_at hl 3 rfl) ?_
  refine lv_iload hx hb d_L_character_7 (lv_at hl 4 rfl) ?_
  refine hp_call (X := [(qo, eL cJ fL)]) (as := [.int x1, .int x2, .int x3, .int x4]) (rest := [.int 0, .ref qo]) C0 hH (c_B_character hl0 h) yy_B_character q_895 ⟨Nat.le_of_ble_eq_true rfl, Nat.le_of_ble_eq_true rfl⟩ rfl hl.1 rfl (Nat.le_of_ble_eq_true rfl) ⟨by simp only [bn_rm]; omega, by simp only [bn_rm]; omega⟩ d_L_character_9 (fun r q1 H locs ho hq hJ => ?_) (fun k q1 H locs ce q9 ho hq hJ hce hcv hcl => ?_)
  · refine lv_i2l hx hb d_L_character_12 rfl ?_
    refine va_last hx hb hE.2 hJ.1 hJ.2.1 hJ.2.2 0 0 (f := fL) rfl rfl (vpI (v := 0) (by decide) (by decide)) d_L_character_13 (fun H1 locs1 hP hD hS => ?_)
    have hJ : bc_H Z A s ((qo, eL cJ (vp_updL fL 0 r.toInt64)) :: bn_ws Z (q1, o.2)) H1 locs1 := ⟨hP, hD, hS⟩
    refine lv_goto (tgt := 33) hx hb d_L_character_14 (by decide) ?_
    refine lv_iconst (v := 0) hx hb d_L_character_33 (by decide) ?_
    exact bc_iret C0 hr hJ d_L_character_34 ⟨q1, hq, by rw [ho]; exact ⟨rfl, rfl⟩⟩ (by omega) (by omega)
  · have hk4 := hk k ho
    rcases (show k = 0 ∨ k = 1 ∨ k = 2 ∨ k = 3 by omega) with rfl | rfl | rfl | rfl
    · have hcl : s.vm.findClass "java/lang/IllegalArgumentException" = some ce.cls := hcl
      refine vx_catch (own := R_L) (name := "java/lang/IllegalArgumentException") (E := "java/lang/IllegalArgumentException") hown (tableOf []) ⟨0, 14, 17, 13⟩ (tableOf [(0, 14, 21, 15), (0, 14, 25, 17), (0, 14, 29, 19)]) (by rw [ht]; rfl) (fun z hz => by cases hz) rfl (by decide) (hts _ q_276) (va_Nw.use rfl (hX.2.2.2.2.2.1 _ (List.mem_of_getElem? (i := 0) rfl))) hce hcv hcl ?_
      refine W.eq (g2 := F0 m 17 ls [.ref q9]) rfl ?_
      refine lv_astore (lv' := [(6, .ref q9), (0, .ref (q 0)), (1, .int x1), (2, .int x2), (3, .int x3), (4, .int x4), (5, .ref qo)]) hx hb d_L_character_17 hl (by decide) rfl (fun ls hl => ?_)
      refine lv_iconst (v := 1) hx hb d_L_character_19 (by decide) ?_
      exact bc_iret C0 hr hJ d_L_character_20 ⟨q1, hq, by rw [ho]; exact ⟨rfl, rfl⟩⟩ (by omega) (by omega)
    · have hcl : s.vm.findClass "java/util/NoSuchElementException" = some ce.cls := hcl
      refine vx_catch (own := R_L) (name := "java/util/NoSuchElementException") (E := "java/util/NoSuchElementException") hown (tableOf [(0, 14, 17, 13)]) ⟨0, 14, 21, 15⟩ (tableOf [(0, 14, 25, 17), (0, 14, 29, 19)]) (by rw [ht]; rfl) (fun z hz => by
        simp only [tableOf, List.map_cons, List.map_nil, List.mem_cons, List.not_mem_nil, or_false] at hz
        rcases hz with rfl
        · exact Or.inr ⟨by decide, "java/lang/IllegalArgumentException", hts _ q_276, hE.1 _ (List.mem_of_getElem? (i := 0) rfl)⟩) rfl (by decide) (hts _ q_277) (va_Nw.use rfl (hX.2.2.2.2.2.1 _ (List.mem_of_getElem? (i := 1) rfl))) hce hcv hcl ?_
      refine W.eq (g2 := F0 m 21 ls [.ref q9]) rfl ?_
      refine lv_astore (lv' := [(6, .ref q9), (0, .ref (q 0)), (1, .int x1), (2, .int x2), (3, .int x3), (4, .int x4), (5, .ref qo)]) hx hb d_L_character_21 hl (by decide) rfl (fun ls hl => ?_)
      refine lv_iconst (v := 2) hx hb d_L_character_23 (by decide) ?_
      exact bc_iret C0 hr hJ d_L_character_24 ⟨q1, hq, by rw [ho]; exact ⟨rfl, rfl⟩⟩ (by omega) (by omega)
    · have hcl : s.vm.findClass "java/lang/UnsupportedOperationException" = some ce.cls := hcl
      refine vx_catch (own := R_L) (name := "java/lang/UnsupportedOperationException") (E := "java/lang/UnsupportedOperationException") hown (tableOf [(0, 14, 17, 13), (0, 14, 21, 15)]) ⟨0, 14, 25, 17⟩ (tableOf [(0, 14, 29, 19)]) (by rw [ht]; rfl) (fun z hz => by
        simp only [tableOf, List.map_cons, List.map_nil, List.mem_cons, List.not_mem_nil, or_false] at hz
        rcases hz with rfl | rfl
        · exact Or.inr ⟨by decide, "java/lang/IllegalArgumentException", hts _ q_276, hE.1 _ (List.mem_of_getElem? (i := 1) rfl)⟩
        · exact Or.inr ⟨by decide, "java/util/NoSuchElementException", hts _ q_277, hE.1 _ (List.mem_of_getElem? (i := 3) rfl)⟩) rfl (by decide) (hts _ q_278) (va_Nw.use rfl (hX.2.2.2.2.2.1 _ (List.mem_of_getElem? (i := 2) rfl))) hce hcv hcl ?_
      refine W.eq (g2 := F0 m 25 ls [.ref q9]) rfl ?_
      refine lv_astore (lv' := [(6, .ref q9), (0, .ref (q 0)), (1, .int x1), (2, .int x2), (3, .int x3), (4, .int x4), (5, .ref qo)]) hx hb d_L_character_25 hl (by decide) rfl (fun ls hl => ?_)
      refine lv_iconst (v := 3) hx hb d_L_character_27 (by decide) ?_
      exact bc_iret C0 hr hJ d_L_character_28 ⟨q1, hq, by rw [ho]; exact ⟨rfl, rfl⟩⟩ (by omega) (by omega)
    · have hcl : s.vm.findClass "java/lang/IllegalStateException" = some ce.cls := hcl
      refine vx_catch (own := R_L) (name := "java/lang/IllegalStateException") (E := "java/lang/IllegalStateException") hown (tableOf [(0, 14, 17, 13), (0, 14, 21, 15), (0, 14, 25, 17)]) ⟨0, 14, 29, 19⟩ (tableOf []) (by rw [ht]; rfl) (fun z hz => by
        simp only [tableOf, List.map_cons, List.map_nil, List.mem_cons, List.not_mem_nil, or_false] at hz
        rcases hz with rfl | rfl | rfl
        · exact Or.inr ⟨by decide, "java/lang/IllegalArgumentException", hts _ q_276, hE.1 _ (List.mem_of_getElem? (i := 2) rfl)⟩
        · exact Or.inr ⟨by decide, "java/util/NoSuchElementException", hts _ q_277, hE.1 _ (List.mem_of_getElem? (i := 4) rfl)⟩
        · exact Or.inr ⟨by decide, "java/lang/UnsupportedOperationException", hts _ q_278, hE.1 _ (List.mem_of_getElem? (i := 5) rfl)⟩) rfl (by decide) (hts _ q_279) (va_Nw.use rfl (hX.2.2.2.2.2.1 _ (List.mem_of_getElem? (i := 3) rfl))) hce hcv hcl ?_
      refine W.eq (g2 := F0 m 29 ls [.ref q9]) rfl ?_
      refine lv_astore (lv' := [(6, .ref q9), (0, .ref (q 0)), (1, .int x1), (2, .int x2), (3, .int x3), (4, .int x4), (5, .ref qo)]) hx hb d_L_character_29 hl (by decide) rfl (fun ls hl => ?_)
      refine lv_iconst (v := 4) hx hb d_L_character_31 (by decide) ?_
      exact bc_iret C0 hr hJ d_L_character_32 ⟨q1, hq, by rw [ho]; exact ⟨rfl, rfl⟩⟩ (by omega) (by omega)
theorem q_907 : Cond.codeWith y_L_order b_L_order 5 (some .int) [(0, 10, 13, 13), (0, 10, 17, 15), (0, 10, 21, 17), (0, 10, 25, 19)] ∈ al := al_t4 85 (by decide +kernel) (by decide +kernel)
set_option maxHeartbeats 8000000 in
set_option maxRecDepth 100000 in
theorem h_order {l : Launch} {Z : bZ} {cJ : ClassId} (hl0 : l.stackTraces = false) {q g : Nat → Nat} {v : mS} {x1 x2 : Int32} {o : bO Int32} (h : f_B_order g v x1 x2 = some o) (hk : ∀ k, o.1 = .inr k → k < 4) {qo : Nat} {fL : Nat → Int64} : hp_M l Z cJ 32 (mcO g o) (msO g o) y_L_order b_L_order 5 [(0, 10, 13, 13), (0, 10, 17, 15), (0, 10, 21, 17), (0, 10, 25, 19)] [.ref (q 0), .int x1, .int x2, .ref qo] ((qo, eL cJ fL) :: bn_ws Z (q, g, v)) (hp_post Z cJ qo fL q o) := by
  refine hp_of hl0 (by decide +kernel) (Nat.le_of_ble_eq_true rfl) ?_
  intro p e s m below meth c A ls C0 hE ht hr hl hH
  have hx := C0.1
  have hb := C0.2.1
  have C0 : bn_C R_L b_L_order 5 Z A p l s m _ meth c := C0
  obtain ⟨-, -, hown, hts, hK, hml, hA, hlocks, hX, -⟩ := id C0
  have hl : lv_has ls 5 [(0, .ref (q 0)), (1, .int x1), (2, .int x2), (3, .ref qo)] := hl
  refine lv_aload_n hx hb d_L_order_0 rfl (lv_at hl 3 rfl) ?_
  refine lv_iconst (v := 0) hx hb d_L_order_1 (by decide) ?_
  refine lv_aload_n hx hb d_L_order_2 rfl (lv_at hl 0 rfl) ?_
  refine lv_iload_n hx hb d_L_order_3 rfl (lv_at hl 1 rfl) ?_
  refine lv_iload_n hx hb d_L_order_4 rfl (lv_at hl 2 rfl) ?_
  refine hp_call (X := [(qo, eL cJ fL)]) (as := [.int x1, .int x2]) (rest := [.int 0, .ref qo]) C0 hH (c_B_order hl0 h) yy_B_order q_908 ⟨Nat.le_of_ble_eq_true rfl, Nat.le_of_ble_eq_true rfl⟩ rfl hl.1 rfl (Nat.le_of_ble_eq_true rfl) ⟨by simp only [bn_rm]; omega, by simp only [bn_rm]; omega⟩ d_L_order_5 (fun r q1 H locs ho hq hJ => ?_) (fun k q1 H locs ce q9 ho hq hJ hce hcv hcl => ?_)
  · refine lv_i2l hx hb d_L_order_8 rfl ?_
    refine va_last hx hb hE.2 hJ.1 hJ.2.1 hJ.2.2 0 0 (f := fL) rfl rfl (vpI (v := 0) (by decide) (by decide)) d_L_order_9 (fun H1 locs1 hP hD hS => ?_)
    have hJ : bc_H Z A s ((qo, eL cJ (vp_updL fL 0 r.toInt64)) :: bn_ws Z (q1, o.2)) H1 locs1 := ⟨hP, hD, hS⟩
    refine lv_goto (tgt := 29) hx hb d_L_order_10 (by decide) ?_
    refine lv_iconst (v := 0) hx hb d_L_order_29 (by decide) ?_
    exact bc_iret C0 hr hJ d_L_order_30 ⟨q1, hq, by rw [ho]; exact ⟨rfl, rfl⟩⟩ (by omega) (by omega)
  · have hk4 := hk k ho
    rcases (show k = 0 ∨ k = 1 ∨ k = 2 ∨ k = 3 by omega) with rfl | rfl | rfl | rfl
    · have hcl : s.vm.findClass "java/lang/IllegalArgumentException" = some ce.cls := hcl
      refine vx_catch (own := R_L) (name := "java/lang/IllegalArgumentException") (E := "java/lang/IllegalArgumentException") hown (tableOf []) ⟨0, 10, 13, 13⟩ (tableOf [(0, 10, 17, 15), (0, 10, 21, 17), (0, 10, 25, 19)]) (by rw [ht]; rfl) (fun z hz => by cases hz) rfl (by decide) (hts _ q_276) (va_Nw.use rfl (hX.2.2.2.2.2.1 _ (List.mem_of_getElem? (i := 0) rfl))) hce hcv hcl ?_
      refine W.eq (g2 := F0 m 13 ls [.ref q9]) rfl ?_
      refine lv_astore (lv' := [(4, .ref q9), (0, .ref (q 0)), (1, .int x1), (2, .int x2), (3, .ref qo)]) hx hb d_L_order_13 hl (by decide) rfl (fun ls hl => ?_)
      refine lv_iconst (v := 1) hx hb d_L_order_15 (by decide) ?_
      exact bc_iret C0 hr hJ d_L_order_16 ⟨q1, hq, by rw [ho]; exact ⟨rfl, rfl⟩⟩ (by omega) (by omega)
    · have hcl : s.vm.findClass "java/util/NoSuchElementException" = some ce.cls := hcl
      refine vx_catch (own := R_L) (name := "java/util/NoSuchElementException") (E := "java/util/NoSuchElementException") hown (tableOf [(0, 10, 13, 13)]) ⟨0, 10, 17, 15⟩ (tableOf [(0, 10, 21, 17), (0, 10, 25, 19)]) (by rw [ht]; rfl) (fun z hz => by
        simp only [tableOf, List.map_cons, List.map_nil, List.mem_cons, List.not_mem_nil, or_false] at hz
        rcases hz with rfl
        · exact Or.inr ⟨by decide, "java/lang/IllegalArgumentException", hts _ q_276, hE.1 _ (List.mem_of_getElem? (i := 0) rfl)⟩) rfl (by decide) (hts _ q_277) (va_Nw.use rfl (hX.2.2.2.2.2.1 _ (List.mem_of_getElem? (i := 1) rfl))) hce hcv hcl ?_
      refine W.eq (g2 := F0 m 17 ls [.ref q9]) rfl ?_
      refine lv_astore (lv' := [(4, .ref q9), (0, .ref (q 0)), (1, .int x1), (2, .int x2), (3, .ref qo)]) hx hb d_L_order_17 hl (by decide) rfl (fun ls hl => ?_)
      refine lv_iconst (v := 2) hx hb d_L_order_19 (by decide) ?_
      exact bc_iret C0 hr hJ d_L_order_20 ⟨q1, hq, by rw [ho]; exact ⟨rfl, rfl⟩⟩ (by omega) (by omega)
    · have hcl : s.vm.findClass "java/lang/UnsupportedOperationException" = some ce.cls := hcl
      refine vx_catch (own := R_L) (name := "java/lang/UnsupportedOperationException") (E := "java/lang/UnsupportedOperationException") hown (tableOf [(0, 10, 13, 13), (0, 10, 17, 15)]) ⟨0, 10, 21, 17⟩ (tableOf [(0, 10, 25, 19)]) (by rw [ht]; rfl) (fun z hz => by
        simp only [tableOf, List.map_cons, List.map_nil, List.mem_cons, List.not_mem_nil, or_false] at hz
        rcases hz with rfl | rfl
        · exact Or.inr ⟨by decide, "java/lang/IllegalArgumentException", hts _ q_276, hE.1 _ (List.mem_of_getElem? (i := 1) rfl)⟩
        · exact Or.inr ⟨by decide, "java/util/NoSuchElementException", hts _ q_277, hE.1 _ (List.mem_of_getElem? (i := 3) rfl)⟩) rfl (by decide) (hts _ q_278) (va_Nw.use rfl (hX.2.2.2.2.2.1 _ (List.mem_of_getElem? (i := 2) rfl))) hce hcv hcl ?_
      refine W.eq (g2 := F0 m 21 ls [.ref q9]) rfl ?_
      refine lv_astore (lv' := [(4, .ref q9), (0, .ref (q 0)), (1, .int x1), (2, .int x2), (3, .ref qo)]) hx hb d_L_order_21 hl (by decide) rfl (fun ls hl => ?_)
      refine lv_iconst (v := 3) hx hb d_L_order_23 (by decide) ?_
      exact bc_iret C0 hr hJ d_L_order_24 ⟨q1, hq, by rw [ho]; exact ⟨rfl, rfl⟩⟩ (by omega) (by omega)
    · have hcl : s.vm.findClass "java/lang/IllegalStateException" = some ce.cls := hcl
      refine vx_catch (own := R_L) (name := "java/lang/IllegalStateException") (E := "java/lang/IllegalStateException") hown (tableOf [(0, 10, 13, 13), (0, 10, 17, 15), (0, 10, 21, 17)]) ⟨0, 10, 25, 19⟩ (tableOf []) (by rw [ht]; rfl) (fun z hz => by
        simp only [tableOf, List.map_cons, List.map_nil, List.mem_cons, List.not_mem_nil, or_false] at hz
        rcases hz with rfl | rfl | rfl
        · exact Or.inr ⟨by decide, "java/lang/IllegalArgumentException", hts _ q_276, hE.1 _ (List.mem_of_getElem? (i := 2) rfl)⟩
        · exact Or.inr ⟨by decide, "java/util/NoSuchElementException", hts _ q_277, hE.1 _ (List.mem_of_getElem? (i := 4) rfl)⟩
        · exact Or.inr ⟨by decide, "java/lang/UnsupportedOperationException", hts _ q_278, hE.1 _ (List.mem_of_getElem? (i := 5) rfl)⟩) rfl (by decide) (hts _ q_279) (va_Nw.use rfl (hX.2.2.2.2.2.1 _ (List.mem_of_getElem? (i := 3) rfl))) hce hcv hcl ?_
      refine W.eq (g2 := F0 m 25 ls [.ref q9]) rfl ?_
      refine lv_astore (lv' := [(4, .ref q9), (0, .ref (q 0)), (1, .int x1), (2, .int x2), (3, .ref qo)]) hx hb d_L_order_25 hl (by decide) rfl (fun ls hl => ?_)
      refine lv_iconst (v := 4) hx hb d_L_order_27 (by decide) ?_
      exact bc_iret C0 hr hJ d_L_order_28 ⟨q1, hq, by rw [ho]; exact ⟨rfl, rfl⟩⟩ (by omega) (by omega)
