def mo_ar : Nat → Nat := fun k => match k with
  | 1 => 1
  | 2 => 2
  | 3 => 3
  | 4 => 4
  | 5 => 5
  | 6 => 6
  | 8 => 7
  | 10 => 8
  | 11 => 9
  | 14 => 10
  | 15 => 11
  | 16 => 12
  | 17 => 13
  | 19 => 14
  | 25 => 15
  | 26 => 16
  | 27 => 17
  | 28 => 18
  | 29 => 19
  | 30 => 20
  | 31 => 21
  | 32 => 22
  | 33 => 23
  | 34 => 24
  | 35 => 25
  | 36 => 26
  | _ => 0
def mo_len : Nat → Nat := fun j => match j with
  | 1 => 96
  | 2 => 8
  | 3 => 128
  | 4 => 128
  | 5 => 4
  | 6 => 64000
  | 7 => 8000
  | 8 => 8
  | 9 => 17
  | 10 => 64
  | 11 => 64
  | 12 => 400
  | 13 => 400
  | 14 => 4
  | 15 => 10
  | 16 => 10
  | 17 => 10
  | 18 => 10
  | 19 => 10
  | 20 => 10
  | 21 => 10
  | 22 => 10
  | 23 => 170
  | 24 => 10
  | 25 => 170
  | 26 => 17
  | _ => 0
/-! the reference's object as one function v: region, place ↦ Int32; region 0: the fields that are numbers, by their slots; region j > 0: an array -/
def mo_fv (q : Nat → Nat) (v : Nat → Nat → Int32) (k : Nat) : Value := if mo_ar k = 0 then .int (v 0 k) else .ref (q (mo_ar k))
def mo_fs (q : Nat → Nat) (v : Nat → Nat → Int32) : List Value := (List.range 39).map (mo_fv q v)
def mo_e (cI : ClassId) (q : Nat → Nat) (v : Nat → Nat → Int32) (j : Nat) : va_E := if j = 0 then .inr (5, mo_fs q v) else .inl (cI, (mo_len j, .inl (v j)))
def mo_ws (cI : ClassId) (q : Nat → Nat) (v : Nat → Nat → Int32) : va_W := (List.range 27).map (fun j => (q j, mo_e cI q v j))
def sU (v : Nat → Nat → Int32) (j k : Nat) (x : Int32) : Nat → Nat → Int32 := fun a => if a = j then upd (v j) k x else v a
theorem mo_at {cI : ClassId} {q : Nat → Nat} {v : Nat → Nat → Int32} {j : Nat} (h : j < 27) : (mo_ws cI q v)[j]? = some (q j, mo_e cI q v j) := by
  simp [mo_ws, h]
theorem mo_at0 {cI : ClassId} {q : Nat → Nat} {v : Nat → Nat → Int32} : (mo_ws cI q v)[0]? = some (q 0, .inr (5, mo_fs q v)) := by
  rw [mo_at (by decide)]; rfl
theorem mo_atA {cI : ClassId} {q : Nat → Nat} {v : Nat → Nat → Int32} {j : Nat} (h0 : j ≠ 0) (h : j < 27) : (mo_ws cI q v)[j]? = some (q j, .inl (cI, (mo_len j, .inl (v j)))) := by
  rw [mo_at h]; simp [mo_e, h0]
theorem mo_fat {q : Nat → Nat} {v : Nat → Nat → Int32} {k : Nat} (h : k < 39) : (mo_fs q v)[k]? = some (mo_fv q v k) := by
  simp [mo_fs, h]
theorem F_M_own : ∀ k, (F_M k).1 = R_M := by
  intro k; unfold F_M; split <;> rfl
theorem mo_fset {q : Nat → Nat} {v : Nat → Nat → Int32} {k : Nat} {x : Int32} (hk : k < 39) (hr : mo_ar k = 0) : (mo_fs q v).set k (.int x) = mo_fs q (sU v 0 k x) := by
  apply List.ext_getElem?
  intro i
  rw [List.getElem?_set]
  by_cases hik : k = i
  · subst hik
    rw [mo_fat hk]
    simp [mo_fs, hk, mo_fv, hr, sU, upd]
  · rw [if_neg hik]
    by_cases hi : i < 39
    · rw [mo_fat hi, mo_fat hi]
      have h2 : ¬ i = k := fun h => hik h.symm
      simp [mo_fv, sU, upd, h2]
    · rw [List.getElem?_eq_none (by simp [mo_fs]; omega), List.getElem?_eq_none (by simp [mo_fs]; omega)]
theorem mo_set0 {cI : ClassId} {q : Nat → Nat} {v : Nat → Nat → Int32} {k : Nat} {x : Int32} (hk : k < 39) (hr : mo_ar k = 0) : (mo_ws cI q v).set 0 (q 0, .inr (5, (mo_fs q v).set k (.int x))) = mo_ws cI q (sU v 0 k x) := by
  rw [mo_fset hk hr]
  apply List.ext_getElem?
  intro i
  rw [List.getElem?_set]
  by_cases h0 : 0 = i
  · subst h0
    rw [mo_at0]
    simp [mo_ws, mo_e]
  · rw [if_neg h0]
    by_cases hi : i < 27
    · have h2 : i ≠ 0 := fun h => h0 h.symm
      rw [mo_atA h2 hi, mo_atA h2 hi]
      simp [sU, h2]
    · rw [List.getElem?_eq_none (by simp [mo_ws]; omega), List.getElem?_eq_none (by simp [mo_ws]; omega)]
theorem mo_setA {cI : ClassId} {q : Nat → Nat} {v : Nat → Nat → Int32} {j i : Nat} {x : Int32} (h0 : j ≠ 0) (hj : j < 27) : (mo_ws cI q v).set j (q j, .inl (cI, (mo_len j, .inl (upd (v j) i x)))) = mo_ws cI q (sU v j i x) := by
  apply List.ext_getElem?
  intro a
  rw [List.getElem?_set]
  by_cases ha : j = a
  · subst ha
    rw [mo_atA h0 hj]
    simp [mo_ws, hj, sU, mo_e, h0]
  · rw [if_neg ha]
    have h2 : ¬ a = j := fun h => ha h.symm
    by_cases hi : a < 27
    · by_cases h3 : a = 0
      · subst h3
        rw [mo_at0, mo_at0]
        have : mo_fs q v = mo_fs q (sU v j i x) := by
          apply List.ext_getElem?
          intro b
          by_cases hb : b < 39
          · rw [mo_fat hb, mo_fat hb]
            simp [mo_fv, sU, h2]
          · rw [List.getElem?_eq_none (by simp [mo_fs]; omega), List.getElem?_eq_none (by simp [mo_fs]; omega)]
        rw [this]
      · rw [mo_atA h3 hi, mo_atA h3 hi]
        simp [sU, h2]
    · rw [List.getElem?_eq_none (by simp [mo_ws]; omega), List.getElem?_eq_none (by simp [mo_ws]; omega)]
def mo_H (D : va_G) (cI : ClassId) (A : Nat → Prop) (s : State) (q : Nat → Nat) (v : Nat → Nat → Int32) (H : Heap) (locs : List Loc) : Prop := va_P D cl (mo_ws cI q v) H ∧ va_D A (mo_ws cI q v) ∧ va_S A s.heap H locs
def mo_C (cc : ByteArray) (nL : Nat) (D : va_G) (cI : ClassId) (A : Nat → Prop) (p : Program) (s : State) (m : MethodId) (args : Array Value) (meth : Method) (c : Code) : Prop :=
  p.tables.exec = Jvm.exec ∧ c.code = cc ∧ s.vm.findClass R_M = some m.cls ∧ (∀ w ∈ al, w.before args s = true) ∧ va_K D cl [(cI, .int)] s ∧ c.maxLocals = nL ∧ (∀ q : Nat, s.heap.size ≤ q → A q) ∧ meth.locks = false
def mo_Pc (D : va_G) (cI : ClassId) (q : Nat → Nat) (sz : Nat) (v : Nat → Nat → Int32) : State → Prop := fun U => U.heap.size = sz ∧ va_P D cl (mo_ws cI q v) U.heap ∧ va_K D cl [(cI, .int)] U ∧ va_D (fun _ => True) (mo_ws cI q v)
def mo_B (D : va_G) (cI : ClassId) (q : Nat → Nat) (A : Nat → Prop) (w : Nat → Nat → Int32) (t : State) : Prop := va_P D cl (mo_ws cI q w) t.heap ∧ va_K D cl [(cI, .int)] t ∧ va_D A (mo_ws cI q w)
def mo_rm (h : Nat) : Room := { frames := h, cells := 0, slots := 0, locals := 60 * h }
def mo_w (y : MethodName) (cc : ByteArray) (nL : Nat) (ret : Option FieldType) : List Cond := .code y cc nL ret :: al
/-- a method of the reference that answers the int r and leaves the object as w -/
def mo_Qi (D : va_G) (cI : ClassId) (q : Nat → Nat) (r : Int32) (w : Nat → Nat → Int32) (A : Nat → Prop) : Array Value → State → Outcome → State → Prop := va_Qi (fun (x : Int32) (u : Nat → Nat → Int32) => x = r ∧ u = w) (mo_B D cI q A) A
def mo_Ql (D : va_G) (cI : ClassId) (q : Nat → Nat) (r : Int64) (w : Nat → Nat → Int32) (A : Nat → Prop) : Array Value → State → Outcome → State → Prop := va_Ql (fun (x : Int64) (u : Nat → Nat → Int32) => x = r ∧ u = w) (mo_B D cI q A) A
def mo_Qv (D : va_G) (cI : ClassId) (q : Nat → Nat) (w : Nat → Nat → Int32) (A : Nat → Prop) : Array Value → State → Outcome → State → Prop := va_Qv (fun (u : Nat → Nat → Int32) => u = w) (mo_B D cI q A) A
def mo_M (l : Launch) (D : va_G) (cI : ClassId) (q : Nat → Nat) (h : Nat) (y : MethodName) (cc : ByteArray) (nL : Nat) (ret : Option FieldType) (as : List Value) (v : Nat → Nat → Int32) (Qc : (Nat → Prop) → Array Value → State → Outcome → State → Prop) : Prop :=
  ∀ sz : Nat, Met l y (mo_w y cc nL ret) (mo_rm h) (va_Pc as (mo_Pc D cI q sz v)) (Qc (va_A (mo_ws cI q v) sz)) 0 0 (va_A (mo_ws cI q v) sz)
theorem mo_of {l : Launch} {D : va_G} {cI : ClassId} {q : Nat → Nat} {h : Nat} {y : MethodName} {cc : ByteArray} {nL : Nat} {ret : Option FieldType} {as : List Value} {v : Nat → Nat → Int32} {Qc : (Nat → Prop) → Array Value → State → Outcome → State → Prop}
    (hy : plainName y.cls = true) (hc : y.cls = R_M) (hlen : (lg_sl as).length ≤ nL)
    (body : ∀ (p : Program) (e : Env) (s : State) (m : MethodId) (below : List Frame) (meth : Method) (c : Code) (A : Nat → Prop) (ls : Array Slot), mo_C cc nL D cI A p s m as.toArray meth c → meth.sig.returnType = ret → lv_has ls nL (lv_args 0 as) → mo_H D cI A s q v s.heap [] →
      W p l e (mo_rm h) s m as.toArray below meth c s.heap [] 0 0 (MQ below (Qc A) as.toArray s 0 0 A) (F0 m 0 ls [])) : mo_M l D cI q h y cc nL ret as v Qc := by
  intro sz
  refine Met.ofW (cc := cc) (maxL := nL) (ret := ret) hy rfl ?_
  intro p e s m args below meth c s₁ B hml hv
  obtain ⟨rfl, hsz, hP, hK, hD0⟩ := hv
  have hts := atoms_spec (ws := mo_w y cc nL ret) B.pre
  have hown : s.vm.findClass R_M = some m.cls := by rw [← hc]; exact findClass_of_methodNamed B.named
  subst hsz
  have hl := lv_entry as (n := nL) hlen
  rw [lg_entry_eq]
  exact body p e s m below meth c (va_A (mo_ws cI q v) s.heap.size) _ ⟨B.exec, B.bytes, hown, fun w hw => hts w (List.mem_cons_of_mem _ hw), hK, hml, fun _ h => Or.inr h, B.notSynchronized⟩ B.returns hl ⟨hP, hD0.self, va_S.rf⟩
section MO
variable {p : Program} {l : Launch} {e : Env} {R : Room} {s : State} {m : MethodId} {args : Array Value} {below : List Frame} {meth : Method} {c : Code} {H : Heap} {locs : List Loc} {cells slots : Nat} {Q : State → Prop}
variable {cc : ByteArray} {pc : Nat} {ls : Array Slot} {rest : List Value} {D : va_G} {cI : ClassId} {A : Nat → Prop} {q : Nat → Nat} {v : Nat → Nat → Int32} {nL : Nat}
theorem mo_gi (C0 : mo_C cc nL D cI A p s m args meth c) (hH : mo_H D cI A s q v H locs) {k ix : Nat} (hk : k < 39) (hr : mo_ar k = 0) (hl : Cond.fieldLink R_M ix R_M (F_M k).2.1 (F_M k).2.2.1 ∈ al) (hdg : decode cc pc = .ok (.getfield ix, 3))
    (kk : W p l e R s m args below meth c H locs cells slots Q (F0 m (pc + 3) ls (.int (v 0 k) :: rest))) : W p l e R s m args below meth c H locs cells slots Q (F0 m pc ls (.ref (q 0) :: rest)) := by
  obtain ⟨hx, hb, hown, hts, hK, -⟩ := C0
  exact va_get (D := D) (ci := 5) (v := .int (v 0 k)) (C := R_M) (T := F_M) (N := 39) hx hb hts i_M hown hK hH.1 0 mo_at0 rfl k hk (hts _ hl) (fun x h9 => by rw [F_M_own] at h9; exact h9) (by rw [mo_fat hk]; simp [mo_fv, hr]) hdg kk
theorem mo_gr (C0 : mo_C cc nL D cI A p s m args meth c) (hH : mo_H D cI A s q v H locs) {k ix : Nat} (hk : k < 39) (hr : mo_ar k ≠ 0) (hl : Cond.fieldLink R_M ix R_M (F_M k).2.1 (F_M k).2.2.1 ∈ al) (hdg : decode cc pc = .ok (.getfield ix, 3))
    (kk : W p l e R s m args below meth c H locs cells slots Q (F0 m (pc + 3) ls (.ref (q (mo_ar k)) :: rest))) : W p l e R s m args below meth c H locs cells slots Q (F0 m pc ls (.ref (q 0) :: rest)) := by
  obtain ⟨hx, hb, hown, hts, hK, -⟩ := C0
  exact va_get (D := D) (ci := 5) (v := .ref (q (mo_ar k))) (C := R_M) (T := F_M) (N := 39) hx hb hts i_M hown hK hH.1 0 mo_at0 rfl k hk (hts _ hl) (fun x h9 => by rw [F_M_own] at h9; exact h9) (by rw [mo_fat hk]; simp [mo_fv, hr]) hdg kk
theorem mo_pi {x : Int32} (C0 : mo_C cc nL D cI A p s m args meth c) (hH : mo_H D cI A s q v H locs) {k ix : Nat} (hk : k < 39) (hr : mo_ar k = 0) (ht : t_M k = .int) (hf : (F_M k).2.2.2 = false) (hl : Cond.fieldLink R_M ix R_M (F_M k).2.1 (F_M k).2.2.1 ∈ al) (hdg : decode cc pc = .ok (.putfield ix, 3))
    (kk : ∀ (H1 : Heap) (locs1 : List Loc), mo_H D cI A s q (sU v 0 k x) H1 locs1 → W p l e R s m args below meth c H1 locs1 cells slots Q (F0 m (pc + 3) ls rest)) : W p l e R s m args below meth c H locs cells slots Q (F0 m pc ls (.int x :: .ref (q 0) :: rest)) := by
  obtain ⟨hx, hb, hown, hts, hK, -⟩ := C0
  refine va_put (D := D) (ci := 5) (v := .int x) (ty := .int) (C := R_M) (T := F_M) (N := 39) hx hb hts i_M t_M t_M_ok n_M hown hK hH.1 hH.2.1 hH.2.2 0 mo_at0 rfl k hk (hts _ hl) (fun x h9 => by rw [F_M_own] at h9; exact h9) hf (by rw [t_M_ok k hk, ht]) rfl rfl (by simp [mo_fs, hk]) hdg (fun H1 locs1 hP1 hD1 hS1 => ?_)
  rw [mo_set0 hk hr] at hP1 hD1
  exact kk H1 locs1 ⟨hP1, hD1, hS1⟩
theorem mo_pz {x : Int32} (hx01 : x = 0 ∨ x = 1) (C0 : mo_C cc nL D cI A p s m args meth c) (hH : mo_H D cI A s q v H locs) {k ix : Nat} (hk : k < 39) (hr : mo_ar k = 0) (ht : t_M k = .boolean) (hf : (F_M k).2.2.2 = false) (hl : Cond.fieldLink R_M ix R_M (F_M k).2.1 (F_M k).2.2.1 ∈ al) (hdg : decode cc pc = .ok (.putfield ix, 3))
    (kk : ∀ (H1 : Heap) (locs1 : List Loc), mo_H D cI A s q (sU v 0 k x) H1 locs1 → W p l e R s m args below meth c H1 locs1 cells slots Q (F0 m (pc + 3) ls rest)) : W p l e R s m args below meth c H locs cells slots Q (F0 m pc ls (.int x :: .ref (q 0) :: rest)) := by
  obtain ⟨hx, hb, hown, hts, hK, -⟩ := C0
  refine va_put (D := D) (ci := 5) (v := .int x) (ty := .boolean) (C := R_M) (T := F_M) (N := 39) hx hb hts i_M t_M t_M_ok n_M hown hK hH.1 hH.2.1 hH.2.2 0 mo_at0 rfl k hk (hts _ hl) (fun x h9 => by rw [F_M_own] at h9; exact h9) hf (by rw [t_M_ok k hk, ht]) (by rcases hx01 with h | h <;> (subst h; decide)) (by rcases hx01 with h | h <;> (subst h; decide)) (by simp [mo_fs, hk]) hdg (fun H1 locs1 hP1 hD1 hS1 => ?_)
  rw [mo_set0 hk hr] at hP1 hD1
  exact kk H1 locs1 ⟨hP1, hD1, hS1⟩
theorem mo_ld (j : Nat) {i : Int32} (h0 : j ≠ 0) (hj : j < 27) (C0 : mo_C cc nL D cI A p s m args meth c) (hH : mo_H D cI A s q v H locs) (hin : vp_in i (mo_len j)) (hdg : decode cc pc = .ok (.iaload, 1))
    (kk : W p l e R s m args below meth c H locs cells slots Q (F0 m (pc + 1) ls (.int (v j i.toNatClampNeg) :: rest))) : W p l e R s m args below meth c H locs cells slots Q (F0 m pc ls (.int i :: .ref (q j) :: rest)) := by
  obtain ⟨hx, hb, hown, hts, hK, -⟩ := C0
  exact va_iald hx hb hK hH.1 j 0 (mo_atA h0 hj) rfl hin hdg kk
theorem mo_st (j : Nat) {i x : Int32} (h0 : j ≠ 0) (hj : j < 27) (C0 : mo_C cc nL D cI A p s m args meth c) (hH : mo_H D cI A s q v H locs) (hin : vp_in i (mo_len j)) (hdg : decode cc pc = .ok (.iastore, 1))
    (kk : ∀ (H1 : Heap) (locs1 : List Loc), mo_H D cI A s q (sU v j i.toNatClampNeg x) H1 locs1 → W p l e R s m args below meth c H1 locs1 cells slots Q (F0 m (pc + 1) ls rest)) : W p l e R s m args below meth c H locs cells slots Q (F0 m pc ls (.int x :: .int i :: .ref (q j) :: rest)) := by
  obtain ⟨hx, hb, hown, hts, hK, -⟩ := C0
  refine va_iast hx hb hK hH.1 hH.2.1 hH.2.2 j 0 (mo_atA h0 hj) rfl hin hdg (fun H1 locs1 hP1 hD1 hS1 => ?_)
  rw [mo_setA h0 hj] at hP1 hD1
  exact kk H1 locs1 ⟨hP1, hD1, hS1⟩
/-! ends -/
theorem mo_iret {x r : Int32} {w w' : Nat → Nat → Int32} (C0 : mo_C cc nL D cI A p s m args meth c) (hr : meth.sig.returnType = some .int) (hH : mo_H D cI A s q w H locs) (hdg : decode cc pc = .ok (.ireturn, 1)) (hh : some (x, w) = some (r, w')) :
    W p l e R s m args below meth c H locs 0 0 (MQ below (mo_Qi D cI q r w' A) args s 0 0 A) (F0 m pc ls [.int x]) := by
  obtain ⟨hx, hb, hown, hts, hK, -, hA, hlocks⟩ := C0
  obtain ⟨hP, hD, hS⟩ := hH
  cases hh
  exact W.iret hx hb hr (fun t ht hW => ⟨⟨x, w, rfl, ⟨rfl, rfl⟩, by rw [ht]; exact hP, va_K.moved hW.alike hK, hD⟩, hS.F ht⟩) hS.2.2 hdg hlocks
theorem mo_lret {x r : Int64} {w w' : Nat → Nat → Int32} (C0 : mo_C cc nL D cI A p s m args meth c) (hr : meth.sig.returnType = some .long) (hH : mo_H D cI A s q w H locs) (hdg : decode cc pc = .ok (.lreturn, 1)) (hh : some (x, w) = some (r, w')) :
    W p l e R s m args below meth c H locs 0 0 (MQ below (mo_Ql D cI q r w' A) args s 0 0 A) (F0 m pc ls [.long x]) := by
  obtain ⟨hx, hb, hown, hts, hK, -, hA, hlocks⟩ := C0
  obtain ⟨hP, hD, hS⟩ := hH
  cases hh
  exact W.lret hx hb hr (fun t ht hW => ⟨⟨x, w, rfl, ⟨rfl, rfl⟩, by rw [ht]; exact hP, va_K.moved hW.alike hK, hD⟩, hS.F ht⟩) hS.2.2 hdg hlocks
theorem mo_vret {w w' : Nat → Nat → Int32} (C0 : mo_C cc nL D cI A p s m args meth c) (hr : meth.sig.returnType = none) (hH : mo_H D cI A s q w H locs) (hdg : decode cc pc = .ok (.return_, 1)) (hh : some w = some w') :
    W p l e R s m args below meth c H locs 0 0 (MQ below (mo_Qv D cI q w' A) args s 0 0 A) (F0 m pc ls []) := by
  obtain ⟨hx, hb, hown, hts, hK, -, hA, hlocks⟩ := C0
  obtain ⟨hP, hD, hS⟩ := hH
  cases hh
  exact W.vret hx hb hr (fun t ht hW => ⟨⟨w, rfl, rfl, by rw [ht]; exact hP, va_K.moved hW.alike hK, hD⟩, hS.F ht⟩) hS.2.2 hdg hlocks
theorem mo_zret {x r : Int32} {w w' : Nat → Nat → Int32} (hx01 : x = 0 ∨ x = 1) (C0 : mo_C cc nL D cI A p s m args meth c) (hr : meth.sig.returnType = some .boolean) (hH : mo_H D cI A s q w H locs) (hdg : decode cc pc = .ok (.ireturn, 1)) (hh : some (x, w) = some (r, w')) :
    W p l e R s m args below meth c H locs 0 0 (MQ below (mo_Qi D cI q r w' A) args s 0 0 A) (F0 m pc ls [.int x]) := by
  obtain ⟨hx, hb, hown, hts, hK, -, hA, hlocks⟩ := C0
  obtain ⟨hP, hD, hS⟩ := hH
  cases hh
  exact W.zret hx hb hr (by rcases hx01 with h | h <;> (subst h; decide)) (fun t ht hW => ⟨⟨x, w, rfl, ⟨rfl, rfl⟩, by rw [ht]; exact hP, va_K.moved hW.alike hK, hD⟩, hS.F ht⟩) hS.2.2 hdg hlocks
/-! calls -/
def mo_Y (y : MethodName) (cc : ByteArray) (nL : Nat) (ret : Option FieldType) (n : Nat) : Prop := y.cls = R_M ∧ Cond.instanceMethod y ∈ al ∧ Cond.selects R_M y y ∈ al ∧ Cond.code y cc nL ret ∈ al ∧ (parseMethodDescriptor y.desc).map (fun d => d.parameters.length) = some n
def mo_YS (y : MethodName) (cc : ByteArray) (nL : Nat) (ret : Option FieldType) (n : Nat) : Prop := y.cls = R_M ∧ Cond.static y ∈ al ∧ Cond.code y cc nL ret ∈ al ∧ (parseMethodDescriptor y.desc).map (fun d => d.parameters.length) = some n
theorem mo_cb {y : MethodName} {cc' : ByteArray} {nL' ix h n : Nat} {ret : Option FieldType} (hts : ∀ w ∈ al, w.before args s = true) (hc : y.cls = R_M) (hco : Cond.code y cc' nL' ret ∈ al) (hp : (parseMethodDescriptor y.desc).map (fun d => d.parameters.length) = some n) (hl : Cond.methodLink R_M ix y ∈ al) (hi : Cond.initialized R_M ∈ al) (hR : h + 1 ≤ R.frames ∧ 8 + (nL' + 11) + 60 * h ≤ R.locals) :
    CallB R s args R_M ix y cc' nL' ret (mo_w y cc' nL' ret) (mo_rm h) 0 0 n := by
  refine ⟨rfl, rfl, hR.1, hR.2, fun w hw a' U hW => ?_, List.mem_cons_self, hts _ hco, by rw [hc]; exact hts _ hi, ⟨by rw [hc]; decide +kernel, by rw [hc]; decide +kernel⟩, fun sig hs => ?_, hts _ hl⟩
  · rcases List.mem_cons.mp hw with rfl | h1
    · exact word_at hW (al_good hco) (hts _ hco)
    · exact word_at hW (al_good h1) (hts _ h1)
  · rw [hs] at hp
    exact (Option.some.inj hp).symm
theorem mo_blind {as : List Value} {sz : Nat} : FrameBlind (va_Pc as (mo_Pc D cI q sz v)) := fun a U g mk h => by
  obtain ⟨q0, q1, qP, qK, qD⟩ := h
  exact ⟨q0, q1, qP, va_K.moved (u := U) (U := U.calling g mk a) (Vm.Alike.refl U.vm) qK, qD⟩
theorem mo_start {as : List Value} (C0 : mo_C cc nL D cI A p s m args meth c) (hH : mo_H D cI A s q v H locs) : ∀ U : State, U.heap = H → s.WarmedH U.vm → va_Pc as (mo_Pc D cI q H.size v) as.toArray U := fun U hU hW =>
  ⟨rfl, by rw [hU], by rw [hU]; exact hH.1, va_K.moved hW.alike C0.2.2.2.2.1, hH.2.1.weaken (fun _ _ _ _ => trivial)⟩
theorem mo_free (C0 : mo_C cc nL D cI A p s m args meth c) (hH : mo_H D cI A s q v H locs) : ∀ x, va_A (mo_ws cI q v) H.size x → A x := by
  intro x hx
  rcases hx with ⟨k, e9, h⟩ | h
  · exact hH.2.1.2 k _ h
  · exact C0.2.2.2.2.2.2.1 x (Nat.le_trans hH.2.2.1 h)
theorem mo_back {w : Nat → Nat → Int32} {H1 : Heap} {locs1 : List Loc} {t : State} (C0 : mo_C cc nL D cI A p s m args meth c) (hH : mo_H D cI A s q v H locs) (ht : t.heap = H1) (hB : mo_B D cI q (va_A (mo_ws cI q v) H.size) w t) (hS : va_S A s.heap H1 locs1) : mo_H D cI A s q w H1 locs1 := by
  obtain ⟨hP, -, hD⟩ := hB
  rw [ht] at hP
  exact ⟨hP, hD.weaken (fun k x hk hx => mo_free C0 hH _ hx), hS⟩
section
variable {y : MethodName} {cc' : ByteArray} {nL' ix h n : Nat} {ret : Option FieldType} {as st0 : List Value} {w : Nat → Nat → Int32}
theorem mo_ci {r : Int32} (C0 : mo_C cc nL D cI A p s m args meth c) (hH : mo_H D cI A s q v H locs) (hM : mo_M l D cI q h y cc' nL' ret (.ref (q 0) :: as) v (mo_Qi D cI q r w)) (Y : mo_Y y cc' nL' ret n) (hl : Cond.methodLink R_M ix y ∈ al) (hi : Cond.initialized R_M ∈ al) (hR : h + 1 ≤ R.frames ∧ 8 + (nL' + 11) + 60 * h ≤ R.locals)
    (hn : as.length = n) (hsize : ls.size = nL) (hst : st0 = as.reverse ++ .ref (q 0) :: rest) (hW : (rest.map fun v => v.category).sum ≤ 8) (hcl : cells ≤ R.cells ∧ slots ≤ R.slots) (hdg : decode cc pc = .ok (.invokevirtual ix, 3))
    (kk : ∀ (H1 : Heap) (locs1 : List Loc), mo_H D cI A s q w H1 locs1 → W p l e R s m args below meth c H1 locs1 cells slots Q (F0 m (pc + 3) ls (.int r :: rest))) : W p l e R s m args below meth c H locs cells slots Q (F0 m pc ls st0) := by
  obtain ⟨hx, hb, hown, hts, hK, hml, hA, hlocks⟩ := id C0
  obtain ⟨yc, yi, ys, yo, yp⟩ := Y
  refine va_calli (va_runV (As := as) (rest := rest) (C := R_M) ⟨hx, hb, hml, hown, hts⟩ (hM H.size) ⟨mo_cb hts yc yo yp hl hi hR, hts _ yi, hts _ ys⟩ ⟨mo_blind, va_recv hK hH.1 (ci := 5) (q0 := 0) rfl mo_at0, mo_start (as := .ref (q 0) :: as) C0 hH⟩ rfl hn hsize hst (lv_room hW) hdg hcl) hH.2.2 (fun x _ hx => mo_free C0 hH x hx) (mo_free C0 hH) (fun r1 u t H1 locs1 ht hvm hw hB hz1 hk1 hS => ?_)
  obtain ⟨rfl, rfl⟩ := hw
  exact kk H1 locs1 (mo_back C0 hH ht hB hS)
theorem mo_cl {r : Int64} (C0 : mo_C cc nL D cI A p s m args meth c) (hH : mo_H D cI A s q v H locs) (hM : mo_M l D cI q h y cc' nL' ret (.ref (q 0) :: as) v (mo_Ql D cI q r w)) (Y : mo_Y y cc' nL' ret n) (hl : Cond.methodLink R_M ix y ∈ al) (hi : Cond.initialized R_M ∈ al) (hR : h + 1 ≤ R.frames ∧ 8 + (nL' + 11) + 60 * h ≤ R.locals)
    (hn : as.length = n) (hsize : ls.size = nL) (hst : st0 = as.reverse ++ .ref (q 0) :: rest) (hW : (rest.map fun v => v.category).sum ≤ 8) (hcl : cells ≤ R.cells ∧ slots ≤ R.slots) (hdg : decode cc pc = .ok (.invokevirtual ix, 3))
    (kk : ∀ (H1 : Heap) (locs1 : List Loc), mo_H D cI A s q w H1 locs1 → W p l e R s m args below meth c H1 locs1 cells slots Q (F0 m (pc + 3) ls (.long r :: rest))) : W p l e R s m args below meth c H locs cells slots Q (F0 m pc ls st0) := by
  obtain ⟨hx, hb, hown, hts, hK, hml, hA, hlocks⟩ := id C0
  obtain ⟨yc, yi, ys, yo, yp⟩ := Y
  refine va_calll (va_runV (As := as) (rest := rest) (C := R_M) ⟨hx, hb, hml, hown, hts⟩ (hM H.size) ⟨mo_cb hts yc yo yp hl hi hR, hts _ yi, hts _ ys⟩ ⟨mo_blind, va_recv hK hH.1 (ci := 5) (q0 := 0) rfl mo_at0, mo_start (as := .ref (q 0) :: as) C0 hH⟩ rfl hn hsize hst (lv_room hW) hdg hcl) hH.2.2 (fun x _ hx => mo_free C0 hH x hx) (mo_free C0 hH) (fun r1 u t H1 locs1 ht hvm hw hB hz1 hk1 hS => ?_)
  obtain ⟨rfl, rfl⟩ := hw
  exact kk H1 locs1 (mo_back C0 hH ht hB hS)
theorem mo_cv (C0 : mo_C cc nL D cI A p s m args meth c) (hH : mo_H D cI A s q v H locs) (hM : mo_M l D cI q h y cc' nL' ret (.ref (q 0) :: as) v (mo_Qv D cI q w)) (Y : mo_Y y cc' nL' ret n) (hl : Cond.methodLink R_M ix y ∈ al) (hi : Cond.initialized R_M ∈ al) (hR : h + 1 ≤ R.frames ∧ 8 + (nL' + 11) + 60 * h ≤ R.locals)
    (hn : as.length = n) (hsize : ls.size = nL) (hst : st0 = as.reverse ++ .ref (q 0) :: rest) (hW : (rest.map fun v => v.category).sum ≤ 8) (hcl : cells ≤ R.cells ∧ slots ≤ R.slots) (hdg : decode cc pc = .ok (.invokevirtual ix, 3))
    (kk : ∀ (H1 : Heap) (locs1 : List Loc), mo_H D cI A s q w H1 locs1 → W p l e R s m args below meth c H1 locs1 cells slots Q (F0 m (pc + 3) ls rest)) : W p l e R s m args below meth c H locs cells slots Q (F0 m pc ls st0) := by
  obtain ⟨hx, hb, hown, hts, hK, hml, hA, hlocks⟩ := id C0
  obtain ⟨yc, yi, ys, yo, yp⟩ := Y
  refine va_callv (va_runV (As := as) (rest := rest) (C := R_M) ⟨hx, hb, hml, hown, hts⟩ (hM H.size) ⟨mo_cb hts yc yo yp hl hi hR, hts _ yi, hts _ ys⟩ ⟨mo_blind, va_recv hK hH.1 (ci := 5) (q0 := 0) rfl mo_at0, mo_start (as := .ref (q 0) :: as) C0 hH⟩ rfl hn hsize hst (lv_room hW) hdg hcl) hH.2.2 (fun x _ hx => mo_free C0 hH x hx) (mo_free C0 hH) (fun u t H1 locs1 ht hvm hw hB hz1 hk1 hS => ?_)
  obtain rfl := hw
  exact kk H1 locs1 (mo_back C0 hH ht hB hS)
theorem mo_si {r : Int32} (C0 : mo_C cc nL D cI A p s m args meth c) (hH : mo_H D cI A s q v H locs) (hM : mo_M l D cI q h y cc' nL' ret as v (mo_Qi D cI q r w)) (Y : mo_YS y cc' nL' ret n) (hl : Cond.methodLink R_M ix y ∈ al) (hi : Cond.initialized R_M ∈ al) (hR : h + 1 ≤ R.frames ∧ 8 + (nL' + 11) + 60 * h ≤ R.locals)
    (hn : as.length = n) (hsize : ls.size = nL) (hst : st0 = as.reverse ++ rest) (hW : (rest.map fun v => v.category).sum ≤ 8) (hcl : cells ≤ R.cells ∧ slots ≤ R.slots) (hdg : decode cc pc = .ok (.invokestatic ix, 3))
    (kk : ∀ (H1 : Heap) (locs1 : List Loc), mo_H D cI A s q w H1 locs1 → W p l e R s m args below meth c H1 locs1 cells slots Q (F0 m (pc + 3) ls (.int r :: rest))) : W p l e R s m args below meth c H locs cells slots Q (F0 m pc ls st0) := by
  obtain ⟨hx, hb, hown, hts, hK, hml, hA, hlocks⟩ := id C0
  obtain ⟨yc, ys, yo, yp⟩ := Y
  refine va_calli (va_runS (As := as) (rest := rest) ⟨hx, hb, hml, hown, hts⟩ (hM H.size) ⟨mo_cb hts yc yo yp hl hi hR, hts _ ys⟩ ⟨mo_blind, mo_start C0 hH⟩ rfl hn hsize hst (lv_room hW) hdg hcl) hH.2.2 (fun x _ hx => mo_free C0 hH x hx) (mo_free C0 hH) (fun r1 u t H1 locs1 ht hvm hw hB hz1 hk1 hS => ?_)
  obtain ⟨rfl, rfl⟩ := hw
  exact kk H1 locs1 (mo_back C0 hH ht hB hS)
theorem mo_sl {r : Int64} (C0 : mo_C cc nL D cI A p s m args meth c) (hH : mo_H D cI A s q v H locs) (hM : mo_M l D cI q h y cc' nL' ret as v (mo_Ql D cI q r w)) (Y : mo_YS y cc' nL' ret n) (hl : Cond.methodLink R_M ix y ∈ al) (hi : Cond.initialized R_M ∈ al) (hR : h + 1 ≤ R.frames ∧ 8 + (nL' + 11) + 60 * h ≤ R.locals)
    (hn : as.length = n) (hsize : ls.size = nL) (hst : st0 = as.reverse ++ rest) (hW : (rest.map fun v => v.category).sum ≤ 8) (hcl : cells ≤ R.cells ∧ slots ≤ R.slots) (hdg : decode cc pc = .ok (.invokestatic ix, 3))
    (kk : ∀ (H1 : Heap) (locs1 : List Loc), mo_H D cI A s q w H1 locs1 → W p l e R s m args below meth c H1 locs1 cells slots Q (F0 m (pc + 3) ls (.long r :: rest))) : W p l e R s m args below meth c H locs cells slots Q (F0 m pc ls st0) := by
  obtain ⟨hx, hb, hown, hts, hK, hml, hA, hlocks⟩ := id C0
  obtain ⟨yc, ys, yo, yp⟩ := Y
  refine va_calll (va_runS (As := as) (rest := rest) ⟨hx, hb, hml, hown, hts⟩ (hM H.size) ⟨mo_cb hts yc yo yp hl hi hR, hts _ ys⟩ ⟨mo_blind, mo_start C0 hH⟩ rfl hn hsize hst (lv_room hW) hdg hcl) hH.2.2 (fun x _ hx => mo_free C0 hH x hx) (mo_free C0 hH) (fun r1 u t H1 locs1 ht hvm hw hB hz1 hk1 hS => ?_)
  obtain ⟨rfl, rfl⟩ := hw
  exact kk H1 locs1 (mo_back C0 hH ht hB hS)
end

theorem mo_g_code (C0 : mo_C cc nL D cI A p s m args meth c) (hH : mo_H D cI A s q v H locs) (hdg : decode cc pc = .ok (.getfield 99, 3)) (kk : W p l e R s m args below meth c H locs cells slots Q (F0 m (pc + 3) ls (.int (v 0 0) :: rest))) : W p l e R s m args below meth c H locs cells slots Q (F0 m pc ls (.ref (q 0) :: rest)) := mo_gi (k := 0) C0 hH (by decide) rfl q_924 hdg kk
theorem mo_p_code {x : Int32} (C0 : mo_C cc nL D cI A p s m args meth c) (hH : mo_H D cI A s q v H locs) (hdg : decode cc pc = .ok (.putfield 99, 3)) (kk : ∀ (H1 : Heap) (locs1 : List Loc), mo_H D cI A s q (sU v 0 0 x) H1 locs1 → W p l e R s m args below meth c H1 locs1 cells slots Q (F0 m (pc + 3) ls rest)) : W p l e R s m args below meth c H locs cells slots Q (F0 m pc ls (.int x :: .ref (q 0) :: rest)) := mo_pi (k := 0) C0 hH (by decide) rfl rfl rfl q_924 hdg kk
theorem mo_r_text (C0 : mo_C cc nL D cI A p s m args meth c) (hH : mo_H D cI A s q v H locs) (hdg : decode cc pc = .ok (.getfield 7, 3)) (kk : W p l e R s m args below meth c H locs cells slots Q (F0 m (pc + 3) ls (.ref (q 1) :: rest))) : W p l e R s m args below meth c H locs cells slots Q (F0 m pc ls (.ref (q 0) :: rest)) := mo_gr (k := 1) C0 hH (by decide) (by decide) q_925 hdg kk
theorem mo_r_textSize (C0 : mo_C cc nL D cI A p s m args meth c) (hH : mo_H D cI A s q v H locs) (hdg : decode cc pc = .ok (.getfield 13, 3)) (kk : W p l e R s m args below meth c H locs cells slots Q (F0 m (pc + 3) ls (.ref (q 2) :: rest))) : W p l e R s m args below meth c H locs cells slots Q (F0 m pc ls (.ref (q 0) :: rest)) := mo_gr (k := 2) C0 hH (by decide) (by decide) q_926 hdg kk
theorem mo_r_op (C0 : mo_C cc nL D cI A p s m args meth c) (hH : mo_H D cI A s q v H locs) (hdg : decode cc pc = .ok (.getfield 16, 3)) (kk : W p l e R s m args below meth c H locs cells slots Q (F0 m (pc + 3) ls (.ref (q 3) :: rest))) : W p l e R s m args below meth c H locs cells slots Q (F0 m pc ls (.ref (q 0) :: rest)) := mo_gr (k := 3) C0 hH (by decide) (by decide) q_927 hdg kk
theorem mo_r_arg (C0 : mo_C cc nL D cI A p s m args meth c) (hH : mo_H D cI A s q v H locs) (hdg : decode cc pc = .ok (.getfield 19, 3)) (kk : W p l e R s m args below meth c H locs cells slots Q (F0 m (pc + 3) ls (.ref (q 4) :: rest))) : W p l e R s m args below meth c H locs cells slots Q (F0 m pc ls (.ref (q 0) :: rest)) := mo_gr (k := 4) C0 hH (by decide) (by decide) q_928 hdg kk
theorem mo_r_tokens (C0 : mo_C cc nL D cI A p s m args meth c) (hH : mo_H D cI A s q v H locs) (hdg : decode cc pc = .ok (.getfield 22, 3)) (kk : W p l e R s m args below meth c H locs cells slots Q (F0 m (pc + 3) ls (.ref (q 5) :: rest))) : W p l e R s m args below meth c H locs cells slots Q (F0 m pc ls (.ref (q 0) :: rest)) := mo_gr (k := 5) C0 hH (by decide) (by decide) q_929 hdg kk
theorem mo_r_heap (C0 : mo_C cc nL D cI A p s m args meth c) (hH : mo_H D cI A s q v H locs) (hdg : decode cc pc = .ok (.getfield 26, 3)) (kk : W p l e R s m args below meth c H locs cells slots Q (F0 m (pc + 3) ls (.ref (q 6) :: rest))) : W p l e R s m args below meth c H locs cells slots Q (F0 m pc ls (.ref (q 0) :: rest)) := mo_gr (k := 6) C0 hH (by decide) (by decide) q_930 hdg kk
theorem mo_g_top (C0 : mo_C cc nL D cI A p s m args meth c) (hH : mo_H D cI A s q v H locs) (hdg : decode cc pc = .ok (.getfield 96, 3)) (kk : W p l e R s m args below meth c H locs cells slots Q (F0 m (pc + 3) ls (.int (v 0 7) :: rest))) : W p l e R s m args below meth c H locs cells slots Q (F0 m pc ls (.ref (q 0) :: rest)) := mo_gi (k := 7) C0 hH (by decide) rfl q_931 hdg kk
theorem mo_p_top {x : Int32} (C0 : mo_C cc nL D cI A p s m args meth c) (hH : mo_H D cI A s q v H locs) (hdg : decode cc pc = .ok (.putfield 96, 3)) (kk : ∀ (H1 : Heap) (locs1 : List Loc), mo_H D cI A s q (sU v 0 7 x) H1 locs1 → W p l e R s m args below meth c H1 locs1 cells slots Q (F0 m (pc + 3) ls rest)) : W p l e R s m args below meth c H locs cells slots Q (F0 m pc ls (.int x :: .ref (q 0) :: rest)) := mo_pi (k := 7) C0 hH (by decide) rfl rfl rfl q_931 hdg kk
theorem mo_r_spare (C0 : mo_C cc nL D cI A p s m args meth c) (hH : mo_H D cI A s q v H locs) (hdg : decode cc pc = .ok (.getfield 29, 3)) (kk : W p l e R s m args below meth c H locs cells slots Q (F0 m (pc + 3) ls (.ref (q 7) :: rest))) : W p l e R s m args below meth c H locs cells slots Q (F0 m pc ls (.ref (q 0) :: rest)) := mo_gr (k := 8) C0 hH (by decide) (by decide) q_932 hdg kk
theorem mo_g_filled (C0 : mo_C cc nL D cI A p s m args meth c) (hH : mo_H D cI A s q v H locs) (hdg : decode cc pc = .ok (.getfield 336, 3)) (kk : W p l e R s m args below meth c H locs cells slots Q (F0 m (pc + 3) ls (.int (v 0 9) :: rest))) : W p l e R s m args below meth c H locs cells slots Q (F0 m pc ls (.ref (q 0) :: rest)) := mo_gi (k := 9) C0 hH (by decide) rfl q_933 hdg kk
theorem mo_p_filled {x : Int32} (C0 : mo_C cc nL D cI A p s m args meth c) (hH : mo_H D cI A s q v H locs) (hdg : decode cc pc = .ok (.putfield 336, 3)) (kk : ∀ (H1 : Heap) (locs1 : List Loc), mo_H D cI A s q (sU v 0 9 x) H1 locs1 → W p l e R s m args below meth c H1 locs1 cells slots Q (F0 m (pc + 3) ls rest)) : W p l e R s m args below meth c H locs cells slots Q (F0 m pc ls (.int x :: .ref (q 0) :: rest)) := mo_pi (k := 9) C0 hH (by decide) rfl rfl rfl q_933 hdg kk
theorem mo_r_slot (C0 : mo_C cc nL D cI A p s m args meth c) (hH : mo_H D cI A s q v H locs) (hdg : decode cc pc = .ok (.getfield 32, 3)) (kk : W p l e R s m args below meth c H locs cells slots Q (F0 m (pc + 3) ls (.ref (q 8) :: rest))) : W p l e R s m args below meth c H locs cells slots Q (F0 m pc ls (.ref (q 0) :: rest)) := mo_gr (k := 10) C0 hH (by decide) (by decide) q_934 hdg kk
theorem mo_r_output (C0 : mo_C cc nL D cI A p s m args meth c) (hH : mo_H D cI A s q v H locs) (hdg : decode cc pc = .ok (.getfield 35, 3)) (kk : W p l e R s m args below meth c H locs cells slots Q (F0 m (pc + 3) ls (.ref (q 9) :: rest))) : W p l e R s m args below meth c H locs cells slots Q (F0 m pc ls (.ref (q 0) :: rest)) := mo_gr (k := 11) C0 hH (by decide) (by decide) q_935 hdg kk
theorem mo_g_outputs (C0 : mo_C cc nL D cI A p s m args meth c) (hH : mo_H D cI A s q v H locs) (hdg : decode cc pc = .ok (.getfield 348, 3)) (kk : W p l e R s m args below meth c H locs cells slots Q (F0 m (pc + 3) ls (.int (v 0 12) :: rest))) : W p l e R s m args below meth c H locs cells slots Q (F0 m pc ls (.ref (q 0) :: rest)) := mo_gi (k := 12) C0 hH (by decide) rfl q_936 hdg kk
theorem mo_p_outputs {x : Int32} (C0 : mo_C cc nL D cI A p s m args meth c) (hH : mo_H D cI A s q v H locs) (hdg : decode cc pc = .ok (.putfield 348, 3)) (kk : ∀ (H1 : Heap) (locs1 : List Loc), mo_H D cI A s q (sU v 0 12 x) H1 locs1 → W p l e R s m args below meth c H1 locs1 cells slots Q (F0 m (pc + 3) ls rest)) : W p l e R s m args below meth c H locs cells slots Q (F0 m pc ls (.int x :: .ref (q 0) :: rest)) := mo_pi (k := 12) C0 hH (by decide) rfl rfl rfl q_936 hdg kk
theorem mo_g_fault (C0 : mo_C cc nL D cI A p s m args meth c) (hH : mo_H D cI A s q v H locs) (hdg : decode cc pc = .ok (.getfield 38, 3)) (kk : W p l e R s m args below meth c H locs cells slots Q (F0 m (pc + 3) ls (.int (v 0 13) :: rest))) : W p l e R s m args below meth c H locs cells slots Q (F0 m pc ls (.ref (q 0) :: rest)) := mo_gi (k := 13) C0 hH (by decide) rfl q_937 hdg kk
theorem mo_p_fault {x : Int32} (C0 : mo_C cc nL D cI A p s m args meth c) (hH : mo_H D cI A s q v H locs) (hdg : decode cc pc = .ok (.putfield 38, 3)) (kk : ∀ (H1 : Heap) (locs1 : List Loc), mo_H D cI A s q (sU v 0 13 x) H1 locs1 → W p l e R s m args below meth c H1 locs1 cells slots Q (F0 m (pc + 3) ls rest)) : W p l e R s m args below meth c H locs cells slots Q (F0 m pc ls (.int x :: .ref (q 0) :: rest)) := mo_pi (k := 13) C0 hH (by decide) rfl rfl rfl q_937 hdg kk
theorem mo_r_items (C0 : mo_C cc nL D cI A p s m args meth c) (hH : mo_H D cI A s q v H locs) (hdg : decode cc pc = .ok (.getfield 42, 3)) (kk : W p l e R s m args below meth c H locs cells slots Q (F0 m (pc + 3) ls (.ref (q 10) :: rest))) : W p l e R s m args below meth c H locs cells slots Q (F0 m pc ls (.ref (q 0) :: rest)) := mo_gr (k := 14) C0 hH (by decide) (by decide) q_938 hdg kk
theorem mo_r_names (C0 : mo_C cc nL D cI A p s m args meth c) (hH : mo_H D cI A s q v H locs) (hdg : decode cc pc = .ok (.getfield 45, 3)) (kk : W p l e R s m args below meth c H locs cells slots Q (F0 m (pc + 3) ls (.ref (q 11) :: rest))) : W p l e R s m args below meth c H locs cells slots Q (F0 m pc ls (.ref (q 0) :: rest)) := mo_gr (k := 15) C0 hH (by decide) (by decide) q_939 hdg kk
theorem mo_r_stack (C0 : mo_C cc nL D cI A p s m args meth c) (hH : mo_H D cI A s q v H locs) (hdg : decode cc pc = .ok (.getfield 48, 3)) (kk : W p l e R s m args below meth c H locs cells slots Q (F0 m (pc + 3) ls (.ref (q 12) :: rest))) : W p l e R s m args below meth c H locs cells slots Q (F0 m pc ls (.ref (q 0) :: rest)) := mo_gr (k := 16) C0 hH (by decide) (by decide) q_940 hdg kk
theorem mo_r_other (C0 : mo_C cc nL D cI A p s m args meth c) (hH : mo_H D cI A s q v H locs) (hdg : decode cc pc = .ok (.getfield 51, 3)) (kk : W p l e R s m args below meth c H locs cells slots Q (F0 m (pc + 3) ls (.ref (q 13) :: rest))) : W p l e R s m args below meth c H locs cells slots Q (F0 m pc ls (.ref (q 0) :: rest)) := mo_gr (k := 17) C0 hH (by decide) (by decide) q_941 hdg kk
theorem mo_g_depth (C0 : mo_C cc nL D cI A p s m args meth c) (hH : mo_H D cI A s q v H locs) (hdg : decode cc pc = .ok (.getfield 149, 3)) (kk : W p l e R s m args below meth c H locs cells slots Q (F0 m (pc + 3) ls (.int (v 0 18) :: rest))) : W p l e R s m args below meth c H locs cells slots Q (F0 m pc ls (.ref (q 0) :: rest)) := mo_gi (k := 18) C0 hH (by decide) rfl q_942 hdg kk
theorem mo_p_depth {x : Int32} (C0 : mo_C cc nL D cI A p s m args meth c) (hH : mo_H D cI A s q v H locs) (hdg : decode cc pc = .ok (.putfield 149, 3)) (kk : ∀ (H1 : Heap) (locs1 : List Loc), mo_H D cI A s q (sU v 0 18 x) H1 locs1 → W p l e R s m args below meth c H1 locs1 cells slots Q (F0 m (pc + 3) ls rest)) : W p l e R s m args below meth c H locs cells slots Q (F0 m pc ls (.int x :: .ref (q 0) :: rest)) := mo_pi (k := 18) C0 hH (by decide) rfl rfl rfl q_942 hdg kk
theorem mo_r_variable (C0 : mo_C cc nL D cI A p s m args meth c) (hH : mo_H D cI A s q v H locs) (hdg : decode cc pc = .ok (.getfield 54, 3)) (kk : W p l e R s m args below meth c H locs cells slots Q (F0 m (pc + 3) ls (.ref (q 14) :: rest))) : W p l e R s m args below meth c H locs cells slots Q (F0 m pc ls (.ref (q 0) :: rest)) := mo_gr (k := 19) C0 hH (by decide) (by decide) q_943 hdg kk
theorem mo_g_steps (C0 : mo_C cc nL D cI A p s m args meth c) (hH : mo_H D cI A s q v H locs) (hdg : decode cc pc = .ok (.getfield 184, 3)) (kk : W p l e R s m args below meth c H locs cells slots Q (F0 m (pc + 3) ls (.int (v 0 20) :: rest))) : W p l e R s m args below meth c H locs cells slots Q (F0 m pc ls (.ref (q 0) :: rest)) := mo_gi (k := 20) C0 hH (by decide) rfl q_944 hdg kk
theorem mo_p_steps {x : Int32} (C0 : mo_C cc nL D cI A p s m args meth c) (hH : mo_H D cI A s q v H locs) (hdg : decode cc pc = .ok (.putfield 184, 3)) (kk : ∀ (H1 : Heap) (locs1 : List Loc), mo_H D cI A s q (sU v 0 20 x) H1 locs1 → W p l e R s m args below meth c H1 locs1 cells slots Q (F0 m (pc + 3) ls rest)) : W p l e R s m args below meth c H locs cells slots Q (F0 m pc ls (.int x :: .ref (q 0) :: rest)) := mo_pi (k := 20) C0 hH (by decide) rfl rfl rfl q_944 hdg kk
theorem mo_g_noRoom (C0 : mo_C cc nL D cI A p s m args meth c) (hH : mo_H D cI A s q v H locs) (hdg : decode cc pc = .ok (.getfield 104, 3)) (kk : W p l e R s m args below meth c H locs cells slots Q (F0 m (pc + 3) ls (.int (v 0 21) :: rest))) : W p l e R s m args below meth c H locs cells slots Q (F0 m pc ls (.ref (q 0) :: rest)) := mo_gi (k := 21) C0 hH (by decide) rfl q_945 hdg kk
theorem mo_p_noRoom {x : Int32} (hx01 : x = 0 ∨ x = 1) (C0 : mo_C cc nL D cI A p s m args meth c) (hH : mo_H D cI A s q v H locs) (hdg : decode cc pc = .ok (.putfield 104, 3)) (kk : ∀ (H1 : Heap) (locs1 : List Loc), mo_H D cI A s q (sU v 0 21 x) H1 locs1 → W p l e R s m args below meth c H1 locs1 cells slots Q (F0 m (pc + 3) ls rest)) : W p l e R s m args below meth c H locs cells slots Q (F0 m pc ls (.int x :: .ref (q 0) :: rest)) := mo_pz (k := 21) hx01 C0 hH (by decide) rfl rfl rfl q_945 hdg kk
theorem mo_g_errors (C0 : mo_C cc nL D cI A p s m args meth c) (hH : mo_H D cI A s q v H locs) (hdg : decode cc pc = .ok (.getfield 357, 3)) (kk : W p l e R s m args below meth c H locs cells slots Q (F0 m (pc + 3) ls (.int (v 0 22) :: rest))) : W p l e R s m args below meth c H locs cells slots Q (F0 m pc ls (.ref (q 0) :: rest)) := mo_gi (k := 22) C0 hH (by decide) rfl q_946 hdg kk
theorem mo_p_errors {x : Int32} (C0 : mo_C cc nL D cI A p s m args meth c) (hH : mo_H D cI A s q v H locs) (hdg : decode cc pc = .ok (.putfield 357, 3)) (kk : ∀ (H1 : Heap) (locs1 : List Loc), mo_H D cI A s q (sU v 0 22 x) H1 locs1 → W p l e R s m args below meth c H1 locs1 cells slots Q (F0 m (pc + 3) ls rest)) : W p l e R s m args below meth c H locs cells slots Q (F0 m pc ls (.int x :: .ref (q 0) :: rest)) := mo_pi (k := 22) C0 hH (by decide) rfl rfl rfl q_946 hdg kk
theorem mo_g_roomless (C0 : mo_C cc nL D cI A p s m args meth c) (hH : mo_H D cI A s q v H locs) (hdg : decode cc pc = .ok (.getfield 354, 3)) (kk : W p l e R s m args below meth c H locs cells slots Q (F0 m (pc + 3) ls (.int (v 0 23) :: rest))) : W p l e R s m args below meth c H locs cells slots Q (F0 m pc ls (.ref (q 0) :: rest)) := mo_gi (k := 23) C0 hH (by decide) rfl q_947 hdg kk
theorem mo_p_roomless {x : Int32} (C0 : mo_C cc nL D cI A p s m args meth c) (hH : mo_H D cI A s q v H locs) (hdg : decode cc pc = .ok (.putfield 354, 3)) (kk : ∀ (H1 : Heap) (locs1 : List Loc), mo_H D cI A s q (sU v 0 23 x) H1 locs1 → W p l e R s m args below meth c H1 locs1 cells slots Q (F0 m (pc + 3) ls rest)) : W p l e R s m args below meth c H locs cells slots Q (F0 m pc ls (.int x :: .ref (q 0) :: rest)) := mo_pi (k := 23) C0 hH (by decide) rfl rfl rfl q_947 hdg kk
theorem mo_g_frames (C0 : mo_C cc nL D cI A p s m args meth c) (hH : mo_H D cI A s q v H locs) (hdg : decode cc pc = .ok (.getfield 187, 3)) (kk : W p l e R s m args below meth c H locs cells slots Q (F0 m (pc + 3) ls (.int (v 0 24) :: rest))) : W p l e R s m args below meth c H locs cells slots Q (F0 m pc ls (.ref (q 0) :: rest)) := mo_gi (k := 24) C0 hH (by decide) rfl q_948 hdg kk
theorem mo_p_frames {x : Int32} (C0 : mo_C cc nL D cI A p s m args meth c) (hH : mo_H D cI A s q v H locs) (hdg : decode cc pc = .ok (.putfield 187, 3)) (kk : ∀ (H1 : Heap) (locs1 : List Loc), mo_H D cI A s q (sU v 0 24 x) H1 locs1 → W p l e R s m args below meth c H1 locs1 cells slots Q (F0 m (pc + 3) ls rest)) : W p l e R s m args below meth c H locs cells slots Q (F0 m pc ls (.int x :: .ref (q 0) :: rest)) := mo_pi (k := 24) C0 hH (by decide) rfl rfl rfl q_948 hdg kk
theorem mo_r_tok (C0 : mo_C cc nL D cI A p s m args meth c) (hH : mo_H D cI A s q v H locs) (hdg : decode cc pc = .ok (.getfield 57, 3)) (kk : W p l e R s m args below meth c H locs cells slots Q (F0 m (pc + 3) ls (.ref (q 15) :: rest))) : W p l e R s m args below meth c H locs cells slots Q (F0 m pc ls (.ref (q 0) :: rest)) := mo_gr (k := 25) C0 hH (by decide) (by decide) q_949 hdg kk
theorem mo_r_val (C0 : mo_C cc nL D cI A p s m args meth c) (hH : mo_H D cI A s q v H locs) (hdg : decode cc pc = .ok (.getfield 60, 3)) (kk : W p l e R s m args below meth c H locs cells slots Q (F0 m (pc + 3) ls (.ref (q 16) :: rest))) : W p l e R s m args below meth c H locs cells slots Q (F0 m pc ls (.ref (q 0) :: rest)) := mo_gr (k := 26) C0 hH (by decide) (by decide) q_950 hdg kk
theorem mo_r_phase (C0 : mo_C cc nL D cI A p s m args meth c) (hH : mo_H D cI A s q v H locs) (hdg : decode cc pc = .ok (.getfield 63, 3)) (kk : W p l e R s m args below meth c H locs cells slots Q (F0 m (pc + 3) ls (.ref (q 17) :: rest))) : W p l e R s m args below meth c H locs cells slots Q (F0 m pc ls (.ref (q 0) :: rest)) := mo_gr (k := 27) C0 hH (by decide) (by decide) q_951 hdg kk
theorem mo_r_at (C0 : mo_C cc nL D cI A p s m args meth c) (hH : mo_H D cI A s q v H locs) (hdg : decode cc pc = .ok (.getfield 66, 3)) (kk : W p l e R s m args below meth c H locs cells slots Q (F0 m (pc + 3) ls (.ref (q 18) :: rest))) : W p l e R s m args below meth c H locs cells slots Q (F0 m pc ls (.ref (q 0) :: rest)) := mo_gr (k := 28) C0 hH (by decide) (by decide) q_952 hdg kk
theorem mo_r_rows (C0 : mo_C cc nL D cI A p s m args meth c) (hH : mo_H D cI A s q v H locs) (hdg : decode cc pc = .ok (.getfield 69, 3)) (kk : W p l e R s m args below meth c H locs cells slots Q (F0 m (pc + 3) ls (.ref (q 19) :: rest))) : W p l e R s m args below meth c H locs cells slots Q (F0 m pc ls (.ref (q 0) :: rest)) := mo_gr (k := 29) C0 hH (by decide) (by decide) q_953 hdg kk
theorem mo_r_rowError (C0 : mo_C cc nL D cI A p s m args meth c) (hH : mo_H D cI A s q v H locs) (hdg : decode cc pc = .ok (.getfield 72, 3)) (kk : W p l e R s m args below meth c H locs cells slots Q (F0 m (pc + 3) ls (.ref (q 20) :: rest))) : W p l e R s m args below meth c H locs cells slots Q (F0 m pc ls (.ref (q 0) :: rest)) := mo_gr (k := 30) C0 hH (by decide) (by decide) q_954 hdg kk
theorem mo_r_held (C0 : mo_C cc nL D cI A p s m args meth c) (hH : mo_H D cI A s q v H locs) (hdg : decode cc pc = .ok (.getfield 75, 3)) (kk : W p l e R s m args below meth c H locs cells slots Q (F0 m (pc + 3) ls (.ref (q 21) :: rest))) : W p l e R s m args below meth c H locs cells slots Q (F0 m pc ls (.ref (q 0) :: rest)) := mo_gr (k := 31) C0 hH (by decide) (by decide) q_955 hdg kk
theorem mo_r_saved (C0 : mo_C cc nL D cI A p s m args meth c) (hH : mo_H D cI A s q v H locs) (hdg : decode cc pc = .ok (.getfield 78, 3)) (kk : W p l e R s m args below meth c H locs cells slots Q (F0 m (pc + 3) ls (.ref (q 22) :: rest))) : W p l e R s m args below meth c H locs cells slots Q (F0 m pc ls (.ref (q 0) :: rest)) := mo_gr (k := 32) C0 hH (by decide) (by decide) q_956 hdg kk
theorem mo_r_row (C0 : mo_C cc nL D cI A p s m args meth c) (hH : mo_H D cI A s q v H locs) (hdg : decode cc pc = .ok (.getfield 81, 3)) (kk : W p l e R s m args below meth c H locs cells slots Q (F0 m (pc + 3) ls (.ref (q 23) :: rest))) : W p l e R s m args below meth c H locs cells slots Q (F0 m pc ls (.ref (q 0) :: rest)) := mo_gr (k := 33) C0 hH (by decide) (by decide) q_957 hdg kk
theorem mo_r_outs (C0 : mo_C cc nL D cI A p s m args meth c) (hH : mo_H D cI A s q v H locs) (hdg : decode cc pc = .ok (.getfield 84, 3)) (kk : W p l e R s m args below meth c H locs cells slots Q (F0 m (pc + 3) ls (.ref (q 24) :: rest))) : W p l e R s m args below meth c H locs cells slots Q (F0 m pc ls (.ref (q 0) :: rest)) := mo_gr (k := 34) C0 hH (by decide) (by decide) q_958 hdg kk
theorem mo_r_out (C0 : mo_C cc nL D cI A p s m args meth c) (hH : mo_H D cI A s q v H locs) (hdg : decode cc pc = .ok (.getfield 87, 3)) (kk : W p l e R s m args below meth c H locs cells slots Q (F0 m (pc + 3) ls (.ref (q 25) :: rest))) : W p l e R s m args below meth c H locs cells slots Q (F0 m pc ls (.ref (q 0) :: rest)) := mo_gr (k := 35) C0 hH (by decide) (by decide) q_959 hdg kk
theorem mo_r_got (C0 : mo_C cc nL D cI A p s m args meth c) (hH : mo_H D cI A s q v H locs) (hdg : decode cc pc = .ok (.getfield 90, 3)) (kk : W p l e R s m args below meth c H locs cells slots Q (F0 m (pc + 3) ls (.ref (q 26) :: rest))) : W p l e R s m args below meth c H locs cells slots Q (F0 m pc ls (.ref (q 0) :: rest)) := mo_gr (k := 36) C0 hH (by decide) (by decide) q_960 hdg kk
theorem mo_g_gots (C0 : mo_C cc nL D cI A p s m args meth c) (hH : mo_H D cI A s q v H locs) (hdg : decode cc pc = .ok (.getfield 196, 3)) (kk : W p l e R s m args below meth c H locs cells slots Q (F0 m (pc + 3) ls (.int (v 0 37) :: rest))) : W p l e R s m args below meth c H locs cells slots Q (F0 m pc ls (.ref (q 0) :: rest)) := mo_gi (k := 37) C0 hH (by decide) rfl q_961 hdg kk
theorem mo_p_gots {x : Int32} (C0 : mo_C cc nL D cI A p s m args meth c) (hH : mo_H D cI A s q v H locs) (hdg : decode cc pc = .ok (.putfield 196, 3)) (kk : ∀ (H1 : Heap) (locs1 : List Loc), mo_H D cI A s q (sU v 0 37 x) H1 locs1 → W p l e R s m args below meth c H1 locs1 cells slots Q (F0 m (pc + 3) ls rest)) : W p l e R s m args below meth c H locs cells slots Q (F0 m pc ls (.int x :: .ref (q 0) :: rest)) := mo_pi (k := 37) C0 hH (by decide) rfl rfl rfl q_961 hdg kk
theorem mo_g_gotError (C0 : mo_C cc nL D cI A p s m args meth c) (hH : mo_H D cI A s q v H locs) (hdg : decode cc pc = .ok (.getfield 199, 3)) (kk : W p l e R s m args below meth c H locs cells slots Q (F0 m (pc + 3) ls (.int (v 0 38) :: rest))) : W p l e R s m args below meth c H locs cells slots Q (F0 m pc ls (.ref (q 0) :: rest)) := mo_gi (k := 38) C0 hH (by decide) rfl q_962 hdg kk
theorem mo_p_gotError {x : Int32} (C0 : mo_C cc nL D cI A p s m args meth c) (hH : mo_H D cI A s q v H locs) (hdg : decode cc pc = .ok (.putfield 199, 3)) (kk : ∀ (H1 : Heap) (locs1 : List Loc), mo_H D cI A s q (sU v 0 38 x) H1 locs1 → W p l e R s m args below meth c H1 locs1 cells slots Q (F0 m (pc + 3) ls rest)) : W p l e R s m args below meth c H locs cells slots Q (F0 m pc ls (.int x :: .ref (q 0) :: rest)) := mo_pi (k := 38) C0 hH (by decide) rfl rfl rfl q_962 hdg kk
end MO
