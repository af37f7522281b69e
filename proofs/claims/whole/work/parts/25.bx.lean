/-! methods of the class that may throw, or make cells grow. Outcome: an answer or the number of an exception (bn_ex), and the lengths and numbers behind it; the addresses of regions 4 and 5 may be new -/
abbrev bP : Type := (Nat → Nat) × mS
abbrev bO (α : Type) : Type := (α ⊕ Nat) × bP
def gL (g : Nat → Nat) : Nat := g 4 + g 5
def tc {α : Type} (o : bO α) : Nat := match o.1 with
  | .inl _ => 0
  | .inr _ => 1
def mcO {α : Type} (g : Nat → Nat) (o : bO α) : Nat := gL o.2.1 - gL g + tc o
def msO {α : Type} (g : Nat → Nat) (o : bO α) : Nat := 2 * (gL o.2.1 - gL g) + 6 * tc o
def bn_rm (h mc ms : Nat) : Room := { frames := h, cells := mc, slots := ms, locals := 60 * h }
def exn (k : Nat) : String := bn_ex.getD k ""
def qs (q q' : Nat → Nat) : Prop := ∀ j, j ≠ 4 → j ≠ 5 → q' j = q j
theorem qs.rf {q : Nat → Nat} : qs q q := fun _ _ _ => rfl
theorem qs.tr {q q1 q2 : Nat → Nat} (h1 : qs q q1) (h2 : qs q1 q2) : qs q q2 := fun j a b => (h2 j a b).trans (h1 j a b)
/-- a call of a method that may throw; what follows never makes the cells shorter -/
def bo {α β : Type} (x : Option (bO α)) (f : α → (Nat → Nat) → mS → Option (bO β)) : Option (bO β) := match x with
  | none => none
  | some o1 => match o1.1 with
    | .inr k => some (.inr k, o1.2)
    | .inl r => match f r o1.2.1 o1.2.2 with
      | none => none
      | some o => if gL o1.2.1 ≤ gL o.2.1 then some o else none
def mg {α : Type} (g : Nat → Nat) (x : Option (bO α)) : Option (bO α) := match x with
  | none => none
  | some o => if gL g ≤ gL o.2.1 then some o else none
theorem mg_out {α : Type} {g : Nat → Nat} {x : Option (bO α)} {o : bO α} (h : mg g x = some o) : gL g ≤ gL o.2.1 ∧ x = some o := by
  unfold mg at h
  cases x with
  | none => cases h
  | some o' =>
    dsimp only at h
    by_cases hc : gL g ≤ gL o'.2.1
    · rw [if_pos hc] at h; cases h; exact ⟨hc, rfl⟩
    · rw [if_neg hc] at h; cases h
theorem bo_out {α β : Type} {x : Option (bO α)} {f : α → (Nat → Nat) → mS → Option (bO β)} {o : bO β} (h : bo x f = some o) :
    ∃ o1 : bO α, x = some o1 ∧ gL o1.2.1 ≤ gL o.2.1 ∧ tc o1 ≤ tc o ∧ (∀ k, o1.1 = .inr k → o = (.inr k, o1.2)) ∧ ∀ r, o1.1 = .inl r → f r o1.2.1 o1.2.2 = some o := by
  unfold bo at h
  cases x with
  | none => cases h
  | some o1 =>
    obtain ⟨a, pp⟩ := o1
    cases a with
    | inr k =>
      dsimp only at h
      cases h
      exact ⟨(.inr k, pp), rfl, Nat.le_refl _, Nat.le_refl _, fun k' hk => by cases hk; rfl, fun r hr => by cases hr⟩
    | inl r =>
      dsimp only at h
      cases hf : f r pp.1 pp.2 with
      | none => rw [hf] at h; cases h
      | some o' =>
        rw [hf] at h
        dsimp only at h
        by_cases hc : gL pp.1 ≤ gL o'.2.1
        · rw [if_pos hc] at h; cases h
          exact ⟨(.inl r, pp), rfl, hc, Nat.zero_le _, (fun k hk => by cases hk), fun r' hr => by cases hr; exact hf⟩
        · rw [if_neg hc] at h; cases h
def bx_Q {α : Type} (Z : bZ) (q : Nat → Nat) (en : bS → α → Option Value) (o : bO α) (A : Nat → Prop) : Array Value → State → Outcome → State → Prop := fun _ st oc t =>
  (∃ (r : α) (w : bS), oc = .returned (en w r) ∧ o.1 = .inl r ∧ w.2 = o.2 ∧ qs q w.1 ∧ bn_B Z A w t) ∧ va_F A st t
def bx_X {α : Type} (Z : bZ) (q : Nat → Nat) (o : bO α) (A : Nat → Prop) : String → State → State → Prop := fun E st t =>
  (∃ (k : Nat) (w : bS), o.1 = .inr k ∧ E = exn k ∧ w.2 = o.2 ∧ qs q w.1 ∧ bn_B Z A w t) ∧ va_F A st t
def enI (_ : bS) (r : Int32) : Option Value := some (.int r)
def enV (_ : bS) (_ : Unit) : Option Value := none
def enR (w : bS) (r : Nat) : Option Value := some (.ref (w.1 r))
def bx_M {α : Type} (l : Launch) (Z : bZ) (h : Nat) (y : MethodName) (cc : ByteArray) (nL : Nat) (ret : Option FieldType) (as : List Value) (q g : Nat → Nat) (v : mS) (en : bS → α → Option Value) (o : bO α) : Prop :=
  ∀ sz : Nat, vx_Met l y (mo_w y cc nL ret) (bn_rm h (mcO g o) (msO g o)) (va_Pc as (bn_Pc Z sz (q, g, v))) (bx_Q Z q en o (va_A (bn_ws Z (q, g, v)) sz)) (bx_X Z q o (va_A (bn_ws Z (q, g, v)) sz)) (mcO g o) (msO g o) (va_A (bn_ws Z (q, g, v)) sz)
/-- what a body stands in: the outcome o that it comes to, the lengths g0 that it began with -/
abbrev bx_W {α : Type} (p : Program) (l : Launch) (e : Env) (s : State) (m : MethodId) (args : Array Value) (below : List Frame) (meth : Method) (c : Code) (Z : bZ) (A : Nat → Prop) (q0 g0 : Nat → Nat) (en : bS → α → Option Value) (o : bO α) (h : Nat) (g : Nat → Nat) (H : Heap) (locs : List Loc) (f : JFrame) : Prop :=
  W p l e (bn_rm h (mcO g0 o) (msO g0 o)) s m args below meth c H locs (gL g - gL g0) (2 * (gL g - gL g0)) (vx_MQ below (bx_Q Z q0 en o A) (bx_X Z q0 o A) args s (mcO g0 o) (msO g0 o) A) f
theorem bx_of {α : Type} {l : Launch} {Z : bZ} {h : Nat} {y : MethodName} {cc : ByteArray} {nL : Nat} {ret : Option FieldType} {as : List Value} {q g : Nat → Nat} {v : mS} {en : bS → α → Option Value} {o : bO α}
    (hl0 : l.stackTraces = false) (hy : plainName y.cls = true) (hlen : (lg_sl as).length ≤ nL)
    (body : ∀ (p : Program) (e : Env) (s : State) (m : MethodId) (args : Array Value) (below : List Frame) (meth : Method) (c : Code) (A : Nat → Prop) (ls : Array Slot), bn_C y.cls cc nL Z A p l s m args meth c → meth.sig.returnType = ret → (∀ x ∈ c.exceptionTable.toList, False) → lv_has ls nL (lv_args 0 as) → bn_H Z A s (q, g, v) s.heap [] →
      bx_W p l e s m args below meth c Z A q g en o h g s.heap [] (F0 m 0 ls [])) : bx_M l Z h y cc nL ret as q g v en o := by
  intro sz
  refine vx_ofW (cc := cc) (maxL := nL) (ret := ret) hy rfl ?_
  intro p e s m args below meth c s₁ B hml hnx hv
  obtain ⟨rfl, hsz, hP, hK, hD0, hX⟩ := hv
  have hts := atoms_spec (ws := mo_w y cc nL ret) B.pre
  have hown : s.vm.findClass y.cls = some m.cls := findClass_of_methodNamed B.named
  subst hsz
  have hl := lv_entry as (n := nL) hlen
  rw [lg_entry_eq]
  refine W.widen (k := gL g - gL g) (n := 2 * (gL g - gL g)) (Nat.zero_le _) (Nat.zero_le _) ?_
  exact body p e s m _ below meth c (va_A (bn_ws Z (q, g, v)) s.heap.size) _ ⟨B.exec, B.bytes, hown, fun w hw => hts w (List.mem_cons_of_mem _ hw), hK, hml, fun _ h => Or.inr h, B.notSynchronized, hX, hl0⟩ B.returns hnx hl ⟨hP, hD0.self, va_S.rf⟩
def bx_ng (cls : String) : List Cond := [.castable cls cls, .declares ⟨"java/lang/RuntimeException", "<init>", "(Ljava/lang/String;)V"⟩, .declares ⟨"java/lang/Exception", "<init>", "(Ljava/lang/String;)V"⟩, .declares ⟨"java/lang/Throwable", "<init>", "(Ljava/lang/String;)V"⟩]
section BX
variable {p : Program} {l : Launch} {e : Env} {R : Room} {s : State} {m : MethodId} {args : Array Value} {below : List Frame} {meth : Method} {c : Code} {H : Heap} {locs : List Loc} {cells slots : Nat} {Q : State → Prop}
variable {cc : ByteArray} {pc : Nat} {ls : Array Slot} {rest st0 : List Value} {Z : bZ} {A : Nat → Prop} {q q0 g g0 : Nat → Nat} {v : mS} {nL h0 : Nat} {own : String}
theorem bx_room {α : Type} {o : bO α} (h1 : gL g0 ≤ gL g) (h2 : gL g ≤ gL o.2.1) : gL g - gL g0 ≤ (bn_rm h0 (mcO g0 o) (msO g0 o)).cells ∧ 2 * (gL g - gL g0) ≤ (bn_rm h0 (mcO g0 o) (msO g0 o)).slots := by
  simp only [bn_rm, mcO, msO]
  omega
/-! ends -/
theorem bx_iret {o : bO Int32} {x : Int32} (C0 : bn_C own cc nL Z A p l s m args meth c) (hr : meth.sig.returnType = some .int) (hq : qs q0 q) (hH : bn_H Z A s (q, g, v) H locs) (hm : gL g0 ≤ gL g) (hdg : decode cc pc = .ok (.ireturn, 1)) (hh : some ((.inl x, g, v) : bO Int32) = some o) :
    bx_W p l e s m args below meth c Z A q0 g0 enI o h0 g H locs (F0 m pc ls [.int x]) := by
  obtain ⟨hx, hb, hown, hts, hK, -, hA, hlocks, -⟩ := C0
  obtain ⟨hP, hD, hS⟩ := hH
  cases hh
  refine W.widen (k := mcO g0 (.inl x, g, v)) (n := msO g0 (.inl x, g, v)) (by simp only [mcO, tc]; omega) (by simp only [msO, tc]; omega) ?_
  exact vx_ret (W.iret hx hb hr (fun t ht hW => ⟨⟨x, (q, g, v), rfl, rfl, rfl, hq, by rw [ht]; exact hP, va_K.moved hW.alike hK, hD⟩, hS.F ht⟩) hS.2.2 hdg hlocks)
theorem bx_vret {o : bO Unit} (C0 : bn_C own cc nL Z A p l s m args meth c) (hr : meth.sig.returnType = none) (hq : qs q0 q) (hH : bn_H Z A s (q, g, v) H locs) (hm : gL g0 ≤ gL g) (hdg : decode cc pc = .ok (.return_, 1)) (hh : some ((.inl (), g, v) : bO Unit) = some o) :
    bx_W p l e s m args below meth c Z A q0 g0 enV o h0 g H locs (F0 m pc ls []) := by
  obtain ⟨hx, hb, hown, hts, hK, -, hA, hlocks, -⟩ := C0
  obtain ⟨hP, hD, hS⟩ := hH
  cases hh
  refine W.widen (k := mcO g0 (α := Unit) (.inl (), g, v)) (n := msO g0 (α := Unit) (.inl (), g, v)) (by simp only [mcO, tc]; omega) (by simp only [msO, tc]; omega) ?_
  exact vx_ret (W.vret hx hb hr (fun t ht hW => ⟨⟨(), (q, g, v), rfl, rfl, rfl, hq, by rw [ht]; exact hP, va_K.moved hW.alike hK, hD⟩, hS.F ht⟩) hS.2.2 hdg hlocks)
theorem bx_rret {o : bO Nat} {J a : Nat} {ty : FieldType} (ha : a = q J) (C0 : bn_C own cc nL Z A p l s m args meth c) (hr : meth.sig.returnType = some ty) (hty : (∃ n, ty = .object n) ∨ ∃ t, ty = .array t) (hq : qs q0 q) (hH : bn_H Z A s (q, g, v) H locs) (hm : gL g0 ≤ gL g) (hdg : decode cc pc = .ok (.areturn, 1)) (hh : some ((.inl J, g, v) : bO Nat) = some o) :
    bx_W p l e s m args below meth c Z A q0 g0 enR o h0 g H locs (F0 m pc ls [.ref a]) := by
  obtain ⟨hx, hb, hown, hts, hK, -, hA, hlocks, -⟩ := C0
  obtain ⟨hP, hD, hS⟩ := hH
  cases hh
  subst ha
  refine W.widen (k := mcO g0 (.inl J, g, v)) (n := msO g0 (.inl J, g, v)) (by simp only [mcO, tc]; omega) (by simp only [msO, tc]; omega) ?_
  exact vx_ret (W.aret hx hb hr hty (Or.inr ⟨_, rfl⟩) (fun t ht hW => ⟨⟨J, (q, g, v), rfl, rfl, rfl, hq, by rw [ht]; exact hP, va_K.moved hW.alike hK, hD⟩, hS.F ht⟩) hS.2.2 hdg hlocks)
/-- 'throw new E("text")' -/
theorem bx_throw {α : Type} {en : bS → α → Option Value} {o : bO α} {cls text : String} {k i ik is ic : Nat} (C0 : bn_C own cc nL Z A p l s m args meth c) (hnx : ∀ x ∈ c.exceptionTable.toList, False) (hq : qs q0 q) (hH : bn_H Z A s (q, g, v) H locs) (hm : gL g0 ≤ gL g)
    (hcls : Bundle.fit cls = true) (hE : cls = exn k) (hk : Cond.classLink own ik cls ∈ al) (hi : Cond.initialized cls ∈ al) (hst : bn_st[i]? = some (own, is, text)) (hat : ∀ w ∈ (vx_atS own ic cls ["java/lang/RuntimeException", "java/lang/Exception"]).filter goodWord, w ∈ lw_tbl) (hng : ∀ w ∈ (vx_atS own ic cls ["java/lang/RuntimeException", "java/lang/Exception"]).filter (fun w => !goodWord w), w ∈ bx_ng cls)
    (hgood : ∀ w ∈ Cond.classLink own ik cls :: Cond.initialized cls :: vx_atS own ic cls ["java/lang/RuntimeException", "java/lang/Exception"], vx_ot w = true) (hex : cls ∈ bn_ex) (hsize : ls.size = nL)
    (d0 : decode cc pc = .ok (.new ik, 3)) (d3 : decode cc (pc + 3) = .ok (.dup, 1)) (d4 : decode cc (pc + 4) = .ok (.ldc is, 2)) (d6 : decode cc (pc + 6) = .ok (.invokespecial ic, 3)) (d9 : decode cc (pc + 9) = .ok (.athrow, 1))
    (hR : 6 ≤ h0) (hst8 : (rest.map fun v => v.category).sum ≤ 8) (hh : some ((.inr k, g, v) : bO α) = some o) :
    bx_W p l e s m args below meth c Z A q0 g0 en o h0 g H locs (F0 m pc ls rest) := by
  obtain ⟨hx, hb, hown, hts, hK, hml, hA, hlocks, hX, hl0⟩ := C0
  obtain ⟨hP, hD, hS⟩ := hH
  cases hh
  subst hE
  refine vx_throwS (cls := exn k) (text := text) (names := ["java/lang/RuntimeException", "java/lang/Exception"]) (sa := Z.2.2.2.2.1 i) (A := A) hx hb hl0 hown hcls (by decide +kernel) (hts _ hk) (hts _ hi) (hX.2.2.2.2.1 i _ hst) ?_ hgood hX.1 hX.2.1 hS (hsize.trans hml.symm) d0 d3 d4 d6 d9 (fun x hx9 => (hnx x hx9).elim) (show 2 + 3 < h0 by omega) (show _ + (13 * (2 + 1) + 43) ≤ 60 * h0 by omega) (by simp only [bn_rm, mcO, tc]; omega) (by simp only [bn_rm, msO, tc]; omega) hlocks ?_ hS.2.2 (by simp only [mcO, tc]; omega) (by simp only [msO, tc]; omega)
  · refine vx_hat (B := bx_ng (exn k)) (fun w hw => hts _ (List.mem_filter.mpr ⟨hat w hw, (List.mem_filter.mp hw).2⟩)) hng (vx_c (va_Nw.use rfl (hX.2.2.2.2.2.1 _ hex)) (vx_c (va_Nw.use rfl (hX.2.2.2.2.2.2.2 _ (List.mem_of_getElem? (i := 0) rfl))) (vx_c (va_Nw.use rfl (hX.2.2.2.2.2.2.2 _ (List.mem_of_getElem? (i := 1) rfl))) (vx_c (va_Nw.use rfl (hX.2.2.2.2.2.2.2 _ (List.mem_of_getElem? (i := 2) rfl))) vx_n))))
  · intro t hvm hz hk9
    refine ⟨⟨k, (q, g, v), rfl, rfl, rfl, hq, ?_, va_K.moved hvm hK, hD⟩, ?_⟩
    · exact hP.kept (fun i9 x9 hi9 => hk9 _ ((hP i9 x9 hi9).lt))
    · exact ⟨Nat.le_trans hS.1 hz, fun x9 h1 h2 => by rw [hk9 x9 (Nat.lt_of_lt_of_le h1 hS.1)]; exact hS.2.1 x9 h1 h2⟩
end BX
