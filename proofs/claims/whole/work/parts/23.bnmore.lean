def q0 (g : Nat → Nat) (v : mS) : bS := (fun _ => 0, g, v)
/-- the depth that a comparison of values, or the reading of a filter, may take -/
def dK : Nat := 10
theorem pq {α : Type} {x : α} {q g : Nat → Nat} {v : mS} {o : α × mS} (h : some (x, v) = some o) : some (x, ((q, g, v) : bS)) = some (o.1, (q, g, o.2)) := by cases h; rfl
theorem pw1 {q g : Nat → Nat} {v o : mS} (h : some v = some o) : some ((q, g, v) : bS) = some (q, g, o) := by cases h; rfl
theorem bn_ofF {l : Launch} {Z : bZ} {h : Nat} {y : MethodName} {cc : ByteArray} {nL : Nat} {ret : Option FieldType} {as : List Value} {u : bS} {Qc : (Nat → Prop) → Array Value → State → Outcome → State → Prop}
    (hl0 : l.stackTraces = false) (hy : plainFor y = true) (hlen : (lg_sl as).length ≤ nL)
    (body : ∀ (p : Program) (e : Env) (s : State) (m : MethodId) (below : List Frame) (meth : Method) (c : Code) (A : Nat → Prop) (ls : Array Slot), bn_C y.cls cc nL Z A p l s m as.toArray meth c → meth.sig.returnType = ret → lv_has ls nL (lv_args 0 as) → bn_H Z A s u s.heap [] →
      W p l e (mo_rm h) s m as.toArray below meth c s.heap [] 0 0 (MQ below (Qc A) as.toArray s 0 0 A) (F0 m 0 ls [])) : bn_M l Z h y cc nL ret as u Qc := by
  intro sz
  refine va_MetF (cc := cc) (maxL := nL) (ret := ret) hy rfl ?_
  intro p e s m args below meth c s₁ B hml hv
  obtain ⟨rfl, hsz, hP, hK, hD0, hX⟩ := hv
  have hts := atoms_spec (ws := mo_w y cc nL ret) B.pre
  have hown : s.vm.findClass y.cls = some m.cls := findClass_of_methodNamed B.named
  subst hsz
  have hl := lv_entry as (n := nL) hlen
  rw [lg_entry_eq]
  exact body p e s m below meth c (va_A (bn_ws Z u) s.heap.size) _ ⟨B.exec, B.bytes, hown, fun w hw => hts w (List.mem_cons_of_mem _ hw), hK, hml, fun _ h => Or.inr h, B.notSynchronized, hX, hl0⟩ B.returns hl ⟨hP, hD0.self, va_S.rf⟩
theorem fil_of_in {i : Int32} (h : inB i 4 = true) : filB (9 + 4 * i.toNatClampNeg) = true := by
  simp only [inB, Bool.and_eq_true, decide_eq_true_eq] at h
  simp only [filB, decide_eq_true_eq]
  omega
theorem row_of_in {i : Int32} (h : inB i 16 = true) : rowB (28 + 2 * i.toNatClampNeg) = true := by
  simp only [inB, Bool.and_eq_true, decide_eq_true_eq] at h
  simp only [rowB, decide_eq_true_eq]
  omega
