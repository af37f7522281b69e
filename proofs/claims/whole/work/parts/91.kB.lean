/-! constructors: Row, Filter, Values */ -/
theorem bc_ofF {l : Launch} {Z : bZ} {h mc ms : Nat} {y : MethodName} {cc : ByteArray} {nL : Nat} {as : List Value} {w : va_W} {post : va_W → Prop} (hl0 : l.stackTraces = false) (hy : plainFor y = true) (hlen : (lg_sl as).length ≤ nL)
    (body : ∀ (p : Program) (e : Env) (s : State) (m : MethodId) (below : List Frame) (meth : Method) (c : Code) (A : Nat → Prop) (ls : Array Slot), bn_C y.cls cc nL Z A p l s m as.toArray meth c → meth.sig.returnType = none → lv_has ls nL (lv_args 0 as) → bc_H Z A s w s.heap [] →
      W p l e (bn_rm h mc ms) s m as.toArray below meth c s.heap [] 0 0 (MQ below (va_Qv post (bc_B Z A) A) as.toArray s mc ms A) (F0 m 0 ls [])) : bc_M l Z h mc ms y cc nL as w post := by
  intro sz
  refine va_MetF (cc := cc) (maxL := nL) (ret := none) hy rfl ?_
  intro p e s m args below meth c s₁ B hml hv
  obtain ⟨rfl, ⟨hsz, hP, hK, hD0, hX⟩, hE⟩ := hv
  have hts := atoms_spec (ws := mo_w y cc nL none) B.pre
  have hown : s.vm.findClass y.cls = some m.cls := findClass_of_methodNamed B.named
  subst hsz
  have hl := lv_entry as (n := nL) hlen
  rw [lg_entry_eq]
  exact body p e s m below meth c (va_A w s.heap.size) _ ⟨B.exec, B.bytes, hown, fun x hx => hts x (List.mem_cons_of_mem _ hx), hK, hml, fun _ h => Or.inr h, B.notSynchronized, hX, hl0⟩ B.returns hl ⟨hP, hD0.self, va_S.rf⟩
section KB
variable {p : Program} {l : Launch} {e : Env} {R : Room} {s : State} {m : MethodId} {args : Array Value} {below : List Frame} {meth : Method} {c : Code} {H : Heap} {locs : List Loc} {cells slots : Nat} {Q : State → Prop}
variable {cc : ByteArray} {pc : Nat} {ls : Array Slot} {rest st0 : List Value} {Z : bZ} {A : Nat → Prop} {w X wc : va_W} {nL : Nat} {own : String}
theorem bc_sto {k a n : Nat} {f : Nat → Int32} {i x : Int32} (C0 : bn_C own cc nL Z A p l s m args meth c) (hH : bc_H Z A s w H locs) (hk : w[k]? = some (a, .inl (Z.2.1, (n, .inl f)))) (hin : vp_in i n) (hdg : decode cc pc = .ok (.iastore, 1))
    (kk : ∀ (H1 : Heap) (locs1 : List Loc), bc_H Z A s (w.set k (a, .inl (Z.2.1, (n, .inl (upd f i.toNatClampNeg x))))) H1 locs1 → W p l e R s m args below meth c H1 locs1 cells slots Q (F0 m (pc + 1) ls rest)) : W p l e R s m args below meth c H locs cells slots Q (F0 m pc ls (.int x :: .int i :: .ref a :: rest)) := by
  obtain ⟨hx, hb, hown, hts, hK, -⟩ := C0
  exact va_iast hx hb hK hH.1 hH.2.1 hH.2.2 k 0 hk rfl hin hdg (fun H1 locs1 hP hD hS => kk H1 locs1 ⟨hP, hD, hS⟩)
end KB
theorem vpI {v n : Nat} (h : v < n) (hn : n < 2147483648) : vp_in (zI v) n := vp_in_nI h hn
set_option maxHeartbeats 4000000 in
set_option maxRecDepth 100000 in
theorem c_R_init {l : Launch} {Z : bZ} (hl0 : l.stackTraces = false) (h0 : Nat) : bc_M l Z 1 1 16 y_R_init prog_5_method_1_code 1 [.ref h0] [(h0, .inr (2, [.null, .int 0, .int 0]))] (fun w1 => ∃ q, w1 = [(h0, .inr (2, [.ref q, .int 0, .int (-1)])), (q, .inl (Z.2.1, (16, .inl (fun _ => 0))))]) := by
  refine bc_of hl0 (by decide +kernel) (Nat.le_of_ble_eq_true rfl) ?_
  intro p e s m below meth c A ls C0 hE hr hin hl hH
  have hx := C0.1
  have hb := C0.2.1
  have C0 : bn_C R_R prog_5_method_1_code 1 Z A p l s m _ meth c := C0
  have hin : meth.name = "<init>" := hin
  obtain ⟨-, -, hown, hts, hK, hml, hA, hlocks, hX, -⟩ := id C0
  have hl : lv_has ls 1 [(0, .ref h0)] := hl
  refine lv_aload_n hx hb d_R_init_0 rfl (lv_at hl 0 rfl) ?_
  refine W.objInit hx hb hown (hts _ q_203) (hts _ q_128) (hts _ q_129) rfl (by rw [hml]; exact hl.1) rfl d_R_init_1 (Nat.le_of_ble_eq_true rfl) (Nat.le_of_ble_eq_true rfl) ?_
  refine W.eq (g2 := F0 m 4 ls []) rfl ?_
  refine lv_aload_n hx hb d_R_init_4 rfl (lv_at hl 0 rfl) ?_
  refine lv_bipush (v := 16) hx hb d_R_init_5 (by decide) ?_
  refine bc_newI (N' := 16) C0 hH (by decide) rfl (by decide) (Nat.le_of_ble_eq_true rfl) (Nat.le_of_ble_eq_true rfl) d_R_init_7 (fun q H hH => ?_)
  refine bc_putF0 (ix := 9) (ci := 2) (T := F_R) (N := 3) (k := 0) (ty0 := .array .int) (fs := [.null, .int 0, .int 0]) (w := [(q, .inl (Z.2.1, (16, .inl (fun _ => 0))))]) C0 hin hH rfl i_R t_R t_R_ok n_R F_R_own (by decide) q_204 rfl (by decide +kernel) rfl rfl (Nat.le_of_ble_eq_true rfl) d_R_init_9 (fun H locs hH => ?_)
  refine lv_aload_n hx hb d_R_init_12 rfl (lv_at hl 0 rfl) ?_
  refine lv_iconst (v := -1) hx hb d_R_init_13 (by decide) ?_
  refine bc_put0 (ix := 13) (ci := 2) (T := F_R) (N := 3) (k := 2) (ty0 := .int) (fs := [.ref q, .int 0, .int 0]) (w := [(q, .inl (Z.2.1, (16, .inl (fun _ => 0))))]) C0 hH rfl i_R t_R t_R_ok n_R F_R_own (by decide) q_206 rfl (by decide +kernel) rfl rfl (Nat.le_of_ble_eq_true rfl) d_R_init_14 (fun H locs hH => ?_)
  exact bc_vret C0 hr hH d_R_init_17 ⟨q, rfl⟩ (Nat.le_of_ble_eq_true rfl) (Nat.le_of_ble_eq_true rfl)
set_option maxHeartbeats 4000000 in
set_option maxRecDepth 100000 in
theorem c_F_init {l : Launch} {Z : bZ} (hl0 : l.stackTraces = false) (h0 : Nat) : bc_M l Z 1 3 96 y_F_init prog_2_method_1_code 1 [.ref h0] [(h0, .inr (1, [.null, .null, .null, .int 0]))] (fun w1 => ∃ q1 q2 q3, w1 = [(h0, .inr (1, [.ref q1, .ref q2, .ref q3, .int 0])), (q1, .inl (Z.2.1, (32, .inl (fun _ => 0)))), (q2, .inl (Z.2.1, (32, .inl (fun _ => 0)))), (q3, .inl (Z.2.1, (32, .inl (fun _ => 0))))]) := by
  refine bc_of hl0 (by decide +kernel) (Nat.le_of_ble_eq_true rfl) ?_
  intro p e s m below meth c A ls C0 hE hr hin hl hH
  have hx := C0.1
  have hb := C0.2.1
  have C0 : bn_C R_F prog_2_method_1_code 1 Z A p l s m _ meth c := C0
  have hin : meth.name = "<init>" := hin
  obtain ⟨-, -, hown, hts, hK, hml, hA, hlocks, hX, -⟩ := id C0
  have hl : lv_has ls 1 [(0, .ref h0)] := hl
  refine lv_aload_n hx hb d_F_init_0 rfl (lv_at hl 0 rfl) ?_
  refine W.objInit hx hb hown (hts _ q_177) (hts _ q_128) (hts _ q_129) rfl (by rw [hml]; exact hl.1) rfl d_F_init_1 (Nat.le_of_ble_eq_true rfl) (Nat.le_of_ble_eq_true rfl) ?_
  refine W.eq (g2 := F0 m 4 ls []) rfl ?_
  refine lv_aload_n hx hb d_F_init_4 rfl (lv_at hl 0 rfl) ?_
  refine lv_bipush (v := 32) hx hb d_F_init_5 (by decide) ?_
  refine bc_newI (N' := 32) C0 hH (by decide) rfl (by decide) (Nat.le_of_ble_eq_true rfl) (Nat.le_of_ble_eq_true rfl) d_F_init_7 (fun q1 H hH => ?_)
  refine bc_putF0 (ix := 9) (ci := 1) (T := F_F) (N := 4) (k := 0) (ty0 := .array .int) (fs := [.null, .null, .null, .int 0]) (w := [(q1, .inl (Z.2.1, (32, .inl (fun _ => 0))))]) C0 hin hH rfl i_F t_F t_F_ok n_F F_F_own (by decide) q_178 rfl (by decide +kernel) rfl rfl (Nat.le_of_ble_eq_true rfl) d_F_init_9 (fun H locs hH => ?_)
  refine lv_aload_n hx hb d_F_init_12 rfl (lv_at hl 0 rfl) ?_
  refine lv_bipush (v := 32) hx hb d_F_init_13 (by decide) ?_
  refine bc_newI (N' := 32) C0 hH (by decide) rfl (by decide) (Nat.le_of_ble_eq_true rfl) (Nat.le_of_ble_eq_true rfl) d_F_init_15 (fun q2 H hH => ?_)
  refine bc_putF0 (ix := 13) (ci := 1) (T := F_F) (N := 4) (k := 1) (ty0 := .array .int) (fs := [.ref q1, .null, .null, .int 0]) (w := [(q1, .inl (Z.2.1, (32, .inl (fun _ => 0)))), (q2, .inl (Z.2.1, (32, .inl (fun _ => 0))))]) C0 hin hH rfl i_F t_F t_F_ok n_F F_F_own (by decide) q_179 rfl (by decide +kernel) rfl rfl (Nat.le_of_ble_eq_true rfl) d_F_init_17 (fun H locs hH => ?_)
  refine lv_aload_n hx hb d_F_init_20 rfl (lv_at hl 0 rfl) ?_
  refine lv_bipush (v := 32) hx hb d_F_init_21 (by decide) ?_
  refine bc_newI (N' := 32) C0 hH (by decide) rfl (by decide) (Nat.le_of_ble_eq_true rfl) (Nat.le_of_ble_eq_true rfl) d_F_init_23 (fun q3 H hH => ?_)
  refine bc_putF0 (ix := 16) (ci := 1) (T := F_F) (N := 4) (k := 2) (ty0 := .array .int) (fs := [.ref q1, .ref q2, .null, .int 0]) (w := [(q1, .inl (Z.2.1, (32, .inl (fun _ => 0)))), (q2, .inl (Z.2.1, (32, .inl (fun _ => 0)))), (q3, .inl (Z.2.1, (32, .inl (fun _ => 0))))]) C0 hin hH rfl i_F t_F t_F_ok n_F F_F_own (by decide) q_180 rfl (by decide +kernel) rfl rfl (Nat.le_of_ble_eq_true rfl) d_F_init_25 (fun H locs hH => ?_)
  exact bc_vret C0 hr hH d_F_init_28 ⟨q1, q2, q3, rfl⟩ (Nat.le_of_ble_eq_true rfl) (Nat.le_of_ble_eq_true rfl)
