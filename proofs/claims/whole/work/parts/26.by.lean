/-! worlds cut to size: for constructors, and for the law -/
theorem pl_C {α : Type} (X wc : List α) : (List.range' X.length wc.length).map (fun i => (X ++ wc)[i]?) = wc.map some := by
  apply List.ext_getElem?
  intro i
  rw [List.getElem?_map, List.getElem?_map]
  by_cases h : i < wc.length
  · rw [List.getElem?_range' h, Option.map_some, List.getElem?_append_right (by omega), List.getElem?_eq_getElem h, Option.map_some, show X.length + 1 * i - X.length = i by omega, List.getElem?_eq_getElem h]
  · rw [List.getElem?_eq_none (by simp; omega), List.getElem?_eq_none (by omega)]; rfl
theorem pl_R {α : Type} (X wc : List α) : (List.range X.length).map (fun i => (X ++ wc)[i]?) = X.map some := by
  apply List.ext_getElem?
  intro i
  rw [List.getElem?_map, List.getElem?_map]
  by_cases h : i < X.length
  · rw [List.getElem?_range h, Option.map_some, List.getElem?_append_left h, List.getElem?_eq_getElem h, Option.map_some]
  · rw [List.getElem?_eq_none (by simp; omega), List.getElem?_eq_none (by omega)]; rfl
theorem pl_nd : ∀ l : List Nat, l.Nodup → va_nd l = true := by
  intro l
  induction l with
  | nil => intro _; rfl
  | cons a l ih =>
    intro h
    rw [List.nodup_cons] at h
    show (decide (a ∉ l) && va_nd l) = true
    rw [ih h.2, Bool.and_true, decide_eq_true_eq]
    exact h.1
theorem pl_dis (n m : Nat) : ∀ i ∈ List.range n, i ∉ List.range' n m := by
  intro i h1 h2
  rw [List.mem_range] at h1
  rw [List.mem_range'_1] at h2
  omega
theorem pl_at {α : Type} {X wc : List α} {k : Nat} : (X ++ wc)[X.length + k]? = wc[k]? := by
  rw [List.getElem?_append_right (by omega), Nat.add_sub_cancel_left]
/-- what constructors look at beside: arrays of the class's own objects, copies of rows of ints -/
def bc_E (U : State) : Prop := va_AO "FilterBench$Filter" U ∧ va_AO "FilterBench$Row" U ∧ va_Nw (.castable "[I" "java/lang/Cloneable") U
theorem bc_E.warm {s U : State} (hW : s.WarmedH U.vm) (h : bc_E s) : bc_E U := ⟨va_AO.moved hW.alike h.1, va_AO.moved hW.alike h.2.1, va_Nw.warmC hW h.2.2⟩
theorem bc_E.same {s U : State} (hv : U.vm = s.vm) (h : bc_E s) : bc_E U := ⟨va_AO.moved (by rw [hv]; exact Vm.Alike.refl _) h.1, va_AO.moved (by rw [hv]; exact Vm.Alike.refl _) h.2.1, va_Nw.same rfl hv.symm h.2.2⟩
def bc_H (Z : bZ) (A : Nat → Prop) (s : State) (w : va_W) (H : Heap) (locs : List Loc) : Prop := va_P Z.1 cl w H ∧ va_D A w ∧ va_S A s.heap H locs
def bc_P0 (Z : bZ) (sz : Nat) (w : va_W) : State → Prop := fun U => U.heap.size = sz ∧ va_P Z.1 cl w U.heap ∧ va_K Z.1 cl (bn_ty Z) U ∧ va_D (fun _ => True) w ∧ bn_X Z (va_A w sz) U U.heap
def bc_Pc (Z : bZ) (sz : Nat) (w : va_W) : State → Prop := fun U => bc_P0 Z sz w U ∧ bc_E U
def bc_B (Z : bZ) (A : Nat → Prop) (w : va_W) (t : State) : Prop := va_P Z.1 cl w t.heap ∧ va_K Z.1 cl (bn_ty Z) t ∧ va_D A w
def bc_M (l : Launch) (Z : bZ) (h mc ms : Nat) (y : MethodName) (cc : ByteArray) (nL : Nat) (as : List Value) (w : va_W) (post : va_W → Prop) : Prop :=
  ∀ sz : Nat, Met l y (mo_w y cc nL none) (bn_rm h mc ms) (va_Pc as (bc_Pc Z sz w)) (va_Qv post (bc_B Z (va_A w sz)) (va_A w sz)) mc ms (va_A w sz)
def bc_Mi (l : Launch) (Z : bZ) (h mc ms : Nat) (y : MethodName) (cc : ByteArray) (nL : Nat) (as : List Value) (w : va_W) (post : Int32 → va_W → Prop) : Prop :=
  ∀ sz : Nat, Met l y (mo_w y cc nL (some .int)) (bn_rm h mc ms) (va_Pc as (bc_Pc Z sz w)) (va_Qi post (bc_B Z (va_A w sz)) (va_A w sz)) mc ms (va_A w sz)
theorem bc_of {l : Launch} {Z : bZ} {h mc ms : Nat} {y : MethodName} {cc : ByteArray} {nL : Nat} {as : List Value} {w : va_W} {post : va_W → Prop} (hl0 : l.stackTraces = false) (hy : plainName y.cls = true) (hlen : (lg_sl as).length ≤ nL)
    (body : ∀ (p : Program) (e : Env) (s : State) (m : MethodId) (below : List Frame) (meth : Method) (c : Code) (A : Nat → Prop) (ls : Array Slot), bn_C y.cls cc nL Z A p l s m as.toArray meth c → bc_E s → meth.sig.returnType = none → meth.name = y.name → lv_has ls nL (lv_args 0 as) → bc_H Z A s w s.heap [] →
      W p l e (bn_rm h mc ms) s m as.toArray below meth c s.heap [] 0 0 (MQ below (va_Qv post (bc_B Z A) A) as.toArray s mc ms A) (F0 m 0 ls [])) : bc_M l Z h mc ms y cc nL as w post := by
  intro sz
  refine Met.ofW (cc := cc) (maxL := nL) (ret := none) hy rfl ?_
  intro p e s m args below meth c s₁ B hml hv
  obtain ⟨rfl, ⟨hsz, hP, hK, hD0, hX⟩, hE⟩ := hv
  have hts := atoms_spec (ws := mo_w y cc nL none) B.pre
  have hown : s.vm.findClass y.cls = some m.cls := findClass_of_methodNamed B.named
  have hin : meth.name = y.name := (name_of_methodNamed B.named B.method).1
  subst hsz
  have hl := lv_entry as (n := nL) hlen
  rw [lg_entry_eq]
  exact body p e s m below meth c (va_A w s.heap.size) _ ⟨B.exec, B.bytes, hown, fun x hx => hts x (List.mem_cons_of_mem _ hx), hK, hml, fun _ h => Or.inr h, B.notSynchronized, hX, hl0⟩ hE B.returns hin hl ⟨hP, hD0.self, va_S.rf⟩
theorem bc_ofi {l : Launch} {Z : bZ} {h mc ms : Nat} {y : MethodName} {cc : ByteArray} {nL : Nat} {as : List Value} {w : va_W} {post : Int32 → va_W → Prop} (hl0 : l.stackTraces = false) (hy : plainName y.cls = true) (hlen : (lg_sl as).length ≤ nL)
    (body : ∀ (p : Program) (e : Env) (s : State) (m : MethodId) (below : List Frame) (meth : Method) (c : Code) (A : Nat → Prop) (ls : Array Slot), bn_C y.cls cc nL Z A p l s m as.toArray meth c → bc_E s → meth.sig.returnType = some .int → lv_has ls nL (lv_args 0 as) → bc_H Z A s w s.heap [] →
      W p l e (bn_rm h mc ms) s m as.toArray below meth c s.heap [] 0 0 (MQ below (va_Qi post (bc_B Z A) A) as.toArray s mc ms A) (F0 m 0 ls [])) : bc_Mi l Z h mc ms y cc nL as w post := by
  intro sz
  refine Met.ofW (cc := cc) (maxL := nL) (ret := some .int) hy rfl ?_
  intro p e s m args below meth c s₁ B hml hv
  obtain ⟨rfl, ⟨hsz, hP, hK, hD0, hX⟩, hE⟩ := hv
  have hts := atoms_spec (ws := mo_w y cc nL (some .int)) B.pre
  have hown : s.vm.findClass y.cls = some m.cls := findClass_of_methodNamed B.named
  subst hsz
  have hl := lv_entry as (n := nL) hlen
  rw [lg_entry_eq]
  exact body p e s m below meth c (va_A w s.heap.size) _ ⟨B.exec, B.bytes, hown, fun x hx => hts x (List.mem_cons_of_mem _ hx), hK, hml, fun _ h => Or.inr h, B.notSynchronized, hX, hl0⟩ hE B.returns hl ⟨hP, hD0.self, va_S.rf⟩
theorem pd_nodup {A : Nat → Prop} {w : va_W} (h : va_D A w) : (w.map Prod.fst).Nodup := by
  rw [List.Nodup, List.pairwise_iff_getElem]
  intro i j hi hj hij hne
  rw [List.length_map] at hi hj
  rw [List.getElem_map, List.getElem_map] at hne
  have := h.1 i j _ _ (List.getElem?_eq_getElem hi) (List.getElem?_eq_getElem hj) hne
  omega
theorem pd_of {A : Nat → Prop} {w : va_W} (h : (w.map Prod.fst).Nodup) (hA : ∀ q ∈ w, A q.1) : va_D A w := by
  refine ⟨fun i j x y hi hj hxy => ?_, fun k q hk => hA q (List.mem_of_getElem? hk)⟩
  obtain ⟨hi2, rfl⟩ := List.getElem?_eq_some_iff.mp hi
  obtain ⟨hj2, rfl⟩ := List.getElem?_eq_some_iff.mp hj
  rw [List.Nodup, List.pairwise_iff_getElem] at h
  rcases Nat.lt_trichotomy i j with c | c | c
  · exact absurd (by rw [List.getElem_map, List.getElem_map]; exact hxy) (h i j (by rw [List.length_map]; exact hi2) (by rw [List.length_map]; exact hj2) c)
  · exact c
  · exact absurd (by rw [List.getElem_map, List.getElem_map]; exact hxy.symm) (h j i (by rw [List.length_map]; exact hj2) (by rw [List.length_map]; exact hi2) c)
theorem pd_perm {A : Nat → Prop} {w w1 : va_W} (h : va_D A w) (hp : w.Perm w1) : va_D A w1 := pd_of ((hp.map Prod.fst).nodup_iff.mp (pd_nodup h)) (fun q hq => by
  obtain ⟨k, hk⟩ := List.getElem?_of_mem (hp.mem_iff.mpr hq)
  exact h.2 k q hk)
theorem pp_perm {D : va_G} {w w1 : va_W} {H : Heap} (h : va_P D cl w H) (hp : w.Perm w1) : va_P D cl w1 H := fun k q hk => by
  obtain ⟨i, hi⟩ := List.getElem?_of_mem (hp.mem_iff.mpr (List.mem_of_getElem? hk))
  exact h i q hi
theorem bc_perm {Z : bZ} {A : Nat → Prop} {s : State} {w w1 : va_W} {H : Heap} {locs : List Loc} (h : bc_H Z A s w H locs) (hp : w.Perm w1) : bc_H Z A s w1 H locs := ⟨pp_perm h.1 hp, pd_perm h.2.1 hp, h.2.2⟩
section KA
variable {p : Program} {l : Launch} {e : Env} {R : Room} {s : State} {m : MethodId} {args : Array Value} {below : List Frame} {meth : Method} {c : Code} {H : Heap} {locs : List Loc} {cells slots : Nat} {Q : State → Prop}
variable {cc : ByteArray} {pc : Nat} {ls : Array Slot} {rest st0 : List Value} {Z : bZ} {A : Nat → Prop} {w X wc : va_W} {nL : Nat} {own : String}
theorem bc_free (C0 : bn_C own cc nL Z A p l s m args meth c) (hH : bc_H Z A s (X ++ wc) H locs) : ∀ x, va_A wc H.size x → A x := by
  intro x hx
  rcases hx with ⟨k, e9, h⟩ | h
  · exact hH.2.1.2 (X.length + k) (x, e9) (by rw [pl_at]; exact h)
  · exact C0.2.2.2.2.2.2.1 x (Nat.le_trans hH.2.2.1 h)
theorem bc_cut (hH : bc_H Z A s (X ++ wc) H locs) : va_P Z.1 cl wc H ∧ va_D A wc := by
  refine ⟨fun k q hk => hH.1 (X.length + k) q (by rw [pl_at]; exact hk), fun i j x y hi hj h => ?_, fun k q hk => hH.2.1.2 (X.length + k) q (by rw [pl_at]; exact hk)⟩
  have := hH.2.1.1 (X.length + i) (X.length + j) x y (by rw [pl_at]; exact hi) (by rw [pl_at]; exact hj) h
  omega
theorem bc_blind0 {as : List Value} {sz : Nat} : FrameBlind (va_Pc as (bc_P0 Z sz w)) := fun a U g mk h => by
  obtain ⟨q0, q1, qP, qK, qD, qX⟩ := h
  exact ⟨q0, q1, qP, va_K.moved (u := U) (U := U.calling g mk a) (Vm.Alike.refl U.vm) qK, qD, bn_X.same (s := U) (U := U.calling g mk a) rfl qX⟩
theorem bc_blind {as : List Value} {sz : Nat} : FrameBlind (va_Pc as (bc_Pc Z sz w)) := fun a U g mk h => by
  obtain ⟨q0, ⟨q1, qP, qK, qD, qX⟩, qE⟩ := h
  exact ⟨q0, ⟨q1, qP, va_K.moved (u := U) (U := U.calling g mk a) (Vm.Alike.refl U.vm) qK, qD, bn_X.same (s := U) (U := U.calling g mk a) rfl qX⟩, bc_E.same (s := U) (U := U.calling g mk a) rfl qE⟩
theorem bc_start0 {as : List Value} (C0 : bn_C own cc nL Z A p l s m args meth c) (hH : bc_H Z A s (X ++ wc) H locs) : ∀ U : State, U.heap = H → s.WarmedH U.vm → va_Pc as (bc_P0 Z H.size wc) as.toArray U := fun U hU hW =>
  ⟨rfl, by rw [hU], by rw [hU]; exact (bc_cut hH).1, va_K.moved hW.alike C0.2.2.2.2.1, (bc_cut hH).2.weaken (fun _ _ _ _ => trivial), by rw [hU]; exact bn_X.warm hW ((C0.2.2.2.2.2.2.2.2.1.kept hH.2.2.2.1).narrow (bc_free C0 hH))⟩
theorem bc_start {as : List Value} (C0 : bn_C own cc nL Z A p l s m args meth c) (hE : bc_E s) (hH : bc_H Z A s (X ++ wc) H locs) : ∀ U : State, U.heap = H → s.WarmedH U.vm → va_Pc as (bc_Pc Z H.size wc) as.toArray U := fun U hU hW =>
  ⟨rfl, (bc_start0 (as := as) C0 hH U hU hW).2, bc_E.warm hW hE⟩
theorem bc_join {w1 : va_W} {H1 : Heap} {locs1 : List Loc} {t : State} (C0 : bn_C own cc nL Z A p l s m args meth c) (hH : bc_H Z A s (X ++ wc) H locs) (ht : t.heap = H1) (hB : bc_B Z (va_A wc H.size) w1 t) (hk : ∀ q : Nat, q < H.size → ¬ va_A wc H.size q → H1[q]? = H[q]?) (hS : va_S A s.heap H1 locs1) : bc_H Z A s (X ++ w1) H1 locs1 := by
  obtain ⟨hP, -, hD⟩ := hB
  rw [ht] at hP
  obtain ⟨a, b⟩ := va_join hH.1 hH.2.1 (List.range' X.length wc.length) (List.range X.length) (pl_C X wc) (pl_R X wc) (pl_nd _ List.nodup_range) (pl_dis _ _) hk (bc_free C0 hH) hP hD
  exact ⟨a, b, hS⟩
theorem bc_v {post : va_W → Prop} {mc ms : Nat} {a : Array Value} (C0 : bn_C own cc nL Z A p l s m args meth c) (hH : bc_H Z A s (X ++ wc) H locs) (hr : va_Run p l e R s m args below meth c H locs cells slots mc ms (F0 m pc ls st0) rest (va_Qv post (bc_B Z (va_A wc H.size)) (va_A wc H.size) a) (va_A wc H.size))
    (kk : ∀ (w1 : va_W) (H1 : Heap) (locs1 : List Loc), post w1 → bc_H Z A s (X ++ w1) H1 locs1 → W p l e R s m args below meth c H1 locs1 (cells + mc) (slots + ms) Q (F0 m (pc + 3) ls rest)) : W p l e R s m args below meth c H locs cells slots Q (F0 m pc ls st0) :=
  va_callv hr hH.2.2 (fun q _ h => bc_free C0 hH q h) (bc_free C0 hH) (fun w1 t H1 locs1 ht hvm hw hB hz hk hS => kk w1 H1 locs1 hw (bc_join C0 hH ht hB hk hS))
theorem bc_i {post : Int32 → va_W → Prop} {mc ms : Nat} {a : Array Value} (C0 : bn_C own cc nL Z A p l s m args meth c) (hH : bc_H Z A s (X ++ wc) H locs) (hr : va_Run p l e R s m args below meth c H locs cells slots mc ms (F0 m pc ls st0) rest (va_Qi post (bc_B Z (va_A wc H.size)) (va_A wc H.size) a) (va_A wc H.size))
    (kk : ∀ (r : Int32) (w1 : va_W) (H1 : Heap) (locs1 : List Loc), post r w1 → bc_H Z A s (X ++ w1) H1 locs1 → W p l e R s m args below meth c H1 locs1 (cells + mc) (slots + ms) Q (F0 m (pc + 3) ls (.int r :: rest))) : W p l e R s m args below meth c H locs cells slots Q (F0 m pc ls st0) :=
  va_calli hr hH.2.2 (fun q _ h => bc_free C0 hH q h) (bc_free C0 hH) (fun r w1 t H1 locs1 ht hvm hw hB hz hk hS => kk r w1 H1 locs1 hw (bc_join C0 hH ht hB hk hS))
variable {C host : String} {T : u_T} {N ci ix : Nat} {y : MethodName} {cc' : ByteArray} {nL' h n mc ms b : Nat} {as : List Value}
/-- a constructor's call -/
theorem bc_cI {post : va_W → Prop} (C0 : bn_C own cc nL Z A p l s m args meth c) (hE : bc_E s) (hH : bc_H Z A s (X ++ wc) H locs) (hM : bc_M l Z h mc ms y cc' nL' (.ref b :: as) wc post) (hc : y.cls = C) (hy : y.name = "<init>") (hi : Cond.instanceMethod y ∈ al) (hco : Cond.code y cc' nL' none ∈ al) (hn1 : Cond.initialized C ∈ al) (hm1 : C ≠ "java/lang/invoke/MethodHandle") (hm2 : C ≠ "java/lang/invoke/VarHandle") (hp : (parseMethodDescriptor y.desc).map (fun d => d.parameters.length) = some n) (hl : Cond.methodLink own ix y ∈ al) (hR : h + 1 ≤ R.frames ∧ 8 + (nL' + 11) + 60 * h ≤ R.locals)
    (hn : as.length = n) (hsize : ls.size = nL) (hst : st0 = as.reverse ++ .ref b :: rest) (hW : (rest.map fun v => v.category).sum ≤ 8) (hcl9 : cells + mc ≤ R.cells ∧ slots + ms ≤ R.slots) (hdg : decode cc pc = .ok (.invokespecial ix, 3))
    (kk : ∀ (w1 : va_W) (H1 : Heap) (locs1 : List Loc), post w1 → bc_H Z A s (X ++ w1) H1 locs1 → W p l e R s m args below meth c H1 locs1 (cells + mc) (slots + ms) Q (F0 m (pc + 3) ls rest)) : W p l e R s m args below meth c H locs cells slots Q (F0 m pc ls st0) := by
  obtain ⟨hx, hb, hown, hts, hK, hml, hA, hlocks, hX, hl0⟩ := id C0
  exact bc_v C0 hH (va_runI (As := as) (rest := rest) ⟨hx, hb, hml, hown, hts⟩ (hM H.size) ⟨bx_cb hts hc hco hn1 hm1 hm2 hp hl hR, hy, hts _ hi⟩ ⟨bc_blind, bc_start (as := .ref b :: as) C0 hE hH⟩ rfl hn hsize hst (lv_room hW) hdg hcl9) kk
/-- .. of a nest mate's private one -/
theorem bc_cIN {post : va_W → Prop} (C0 : bn_C own cc nL Z A p l s m args meth c) (hE : bc_E s) (hH : bc_H Z A s (X ++ wc) H locs) (hM : bc_M l Z h mc ms y cc' nL' (.ref b :: as) wc post) (hc : y.cls = C) (hy : y.name = "<init>") (hi : Cond.instanceMethod y ∈ al) (hco : Cond.code y cc' nL' none ∈ al) (hn1 : Cond.initialized C ∈ al) (hm1 : C ≠ "java/lang/invoke/MethodHandle") (hm2 : C ≠ "java/lang/invoke/VarHandle") (hp : (parseMethodDescriptor y.desc).map (fun d => d.parameters.length) = some n) (hl : va_Nw (.methodLinkNest own ix y host) s) (hR : h + 1 ≤ R.frames ∧ 8 + (nL' + 11) + 60 * h ≤ R.locals)
    (hn : as.length = n) (hsize : ls.size = nL) (hst : st0 = as.reverse ++ .ref b :: rest) (hW : (rest.map fun v => v.category).sum ≤ 8) (hcl9 : cells + mc ≤ R.cells ∧ slots + ms ≤ R.slots) (hdg : decode cc pc = .ok (.invokespecial ix, 3))
    (kk : ∀ (w1 : va_W) (H1 : Heap) (locs1 : List Loc), post w1 → bc_H Z A s (X ++ w1) H1 locs1 → W p l e R s m args below meth c H1 locs1 (cells + mc) (slots + ms) Q (F0 m (pc + 3) ls rest)) : W p l e R s m args below meth c H locs cells slots Q (F0 m pc ls st0) := by
  obtain ⟨hx, hb, hown, hts, hK, hml, hA, hlocks, hX, hl0⟩ := id C0
  exact bc_v C0 hH (va_runIN (As := as) (rest := rest) ⟨hx, hb, hml, hown, hts⟩ (hM H.size) ⟨bx_cnb hts hc hco hn1 hm1 hm2 hp hl hR, hy, hts _ hi⟩ ⟨bc_blind, bc_start (as := .ref b :: as) C0 hE hH⟩ rfl hn hsize hst (lv_room hW) hdg hcl9) kk
/-- a static method's call, void -/
theorem bc_cS {post : va_W → Prop} (C0 : bn_C own cc nL Z A p l s m args meth c) (hE : bc_E s) (hH : bc_H Z A s (X ++ wc) H locs) (hM : bc_M l Z h mc ms y cc' nL' as wc post) (Y : bn_YS C y cc' nL' none n) (hl : Cond.methodLink own ix y ∈ al) (hR : h + 1 ≤ R.frames ∧ 8 + (nL' + 11) + 60 * h ≤ R.locals)
    (hn : as.length = n) (hsize : ls.size = nL) (hst : st0 = as.reverse ++ rest) (hW : (rest.map fun v => v.category).sum ≤ 8) (hcl9 : cells + mc ≤ R.cells ∧ slots + ms ≤ R.slots) (hdg : decode cc pc = .ok (.invokestatic ix, 3))
    (kk : ∀ (w1 : va_W) (H1 : Heap) (locs1 : List Loc), post w1 → bc_H Z A s (X ++ w1) H1 locs1 → W p l e R s m args below meth c H1 locs1 (cells + mc) (slots + ms) Q (F0 m (pc + 3) ls rest)) : W p l e R s m args below meth c H locs cells slots Q (F0 m pc ls st0) := by
  obtain ⟨hx, hb, hown, hts, hK, hml, hA, hlocks, hX, hl0⟩ := id C0
  obtain ⟨yc, ys, yo, yn, y1, y2, yp⟩ := Y
  exact bc_v C0 hH (va_runS (As := as) (rest := rest) ⟨hx, hb, hml, hown, hts⟩ (hM H.size) ⟨bx_cb hts yc yo yn y1 y2 yp hl hR, hts _ ys⟩ ⟨bc_blind, bc_start C0 hE hH⟩ rfl hn hsize hst (lv_room hW) hdg hcl9) kk
/-- a method's call on an object of the world, void -/
theorem bc_cV {post : va_W → Prop} {k : Nat} {fs : List Value} (C0 : bn_C own cc nL Z A p l s m args meth c) (hE : bc_E s) (hH : bc_H Z A s (X ++ wc) H locs) (hk : (X ++ wc)[k]? = some (b, .inr (ci, fs))) (hcl : cl[ci]? = some (C, T, N)) (hM : bc_M l Z h mc ms y cc' nL' (.ref b :: as) wc post) (Y : bn_Y C y cc' nL' none n) (hl : Cond.methodLink own ix y ∈ al) (hR : h + 1 ≤ R.frames ∧ 8 + (nL' + 11) + 60 * h ≤ R.locals)
    (hn : as.length = n) (hsize : ls.size = nL) (hst : st0 = as.reverse ++ .ref b :: rest) (hW : (rest.map fun v => v.category).sum ≤ 8) (hcl9 : cells + mc ≤ R.cells ∧ slots + ms ≤ R.slots) (hdg : decode cc pc = .ok (.invokevirtual ix, 3))
    (kk : ∀ (w1 : va_W) (H1 : Heap) (locs1 : List Loc), post w1 → bc_H Z A s (X ++ w1) H1 locs1 → W p l e R s m args below meth c H1 locs1 (cells + mc) (slots + ms) Q (F0 m (pc + 3) ls rest)) : W p l e R s m args below meth c H locs cells slots Q (F0 m pc ls st0) := by
  obtain ⟨hx, hb, hown, hts, hK, hml, hA, hlocks, hX, hl0⟩ := id C0
  obtain ⟨yc, yi, ys, yo, yn, y1, y2, yp⟩ := Y
  exact bc_v C0 hH (va_runV (As := as) (rest := rest) (C := C) ⟨hx, hb, hml, hown, hts⟩ (hM H.size) ⟨bx_cb hts yc yo yn y1 y2 yp hl hR, hts _ yi, hts _ ys⟩ ⟨bc_blind, va_recv hK hH.1 (ci := ci) (q0 := k) hcl hk, bc_start (as := .ref b :: as) C0 hE hH⟩ rfl hn hsize hst (lv_room hW) hdg hcl9) kk
/-- .. that answers an int -/
theorem bc_cVi {post : Int32 → va_W → Prop} {k : Nat} {fs : List Value} (C0 : bn_C own cc nL Z A p l s m args meth c) (hE : bc_E s) (hH : bc_H Z A s (X ++ wc) H locs) (hk : (X ++ wc)[k]? = some (b, .inr (ci, fs))) (hcl : cl[ci]? = some (C, T, N)) (hM : bc_Mi l Z h mc ms y cc' nL' (.ref b :: as) wc post) (Y : bn_Y C y cc' nL' (some .int) n) (hl : Cond.methodLink own ix y ∈ al) (hR : h + 1 ≤ R.frames ∧ 8 + (nL' + 11) + 60 * h ≤ R.locals)
    (hn : as.length = n) (hsize : ls.size = nL) (hst : st0 = as.reverse ++ .ref b :: rest) (hW : (rest.map fun v => v.category).sum ≤ 8) (hcl9 : cells + mc ≤ R.cells ∧ slots + ms ≤ R.slots) (hdg : decode cc pc = .ok (.invokevirtual ix, 3))
    (kk : ∀ (r : Int32) (w1 : va_W) (H1 : Heap) (locs1 : List Loc), post r w1 → bc_H Z A s (X ++ w1) H1 locs1 → W p l e R s m args below meth c H1 locs1 (cells + mc) (slots + ms) Q (F0 m (pc + 3) ls (.int r :: rest))) : W p l e R s m args below meth c H locs cells slots Q (F0 m pc ls st0) := by
  obtain ⟨hx, hb, hown, hts, hK, hml, hA, hlocks, hX, hl0⟩ := id C0
  obtain ⟨yc, yi, ys, yo, yn, y1, y2, yp⟩ := Y
  exact bc_i C0 hH (va_runV (As := as) (rest := rest) (C := C) ⟨hx, hb, hml, hown, hts⟩ (hM H.size) ⟨bx_cb hts yc yo yn y1 y2 yp hl hR, hts _ yi, hts _ ys⟩ ⟨bc_blind, va_recv hK hH.1 (ci := ci) (q0 := k) hcl hk, bc_start (as := .ref b :: as) C0 hE hH⟩ rfl hn hsize hst (lv_room hW) hdg hcl9) kk
/-- new, of a class of the list -/
theorem bc_new {fs : List Value} (C0 : bn_C own cc nL Z A p l s m args meth c) (hH : bc_H Z A s w H locs) (hc : cl[ci]? = some (C, T, N)) (hin : ∀ x ∈ u_ws C T N, x ∈ al) (ty : Nat → FieldType) (hty : ∀ k, k < N → parseFieldDescriptor (T k).2.2.1 = some (ty k)) (hl : Cond.classLink own ix C ∈ al) (hi : Cond.instantiable C N ∈ al) (hn : Cond.initialized C ∈ al) (hfs : ∀ j, j < N → defaultValue (ty j) = vp_V fs j) (hcells : cells + 1 ≤ R.cells) (hslots : slots + N ≤ R.slots) (hdg : decode cc pc = .ok (.new ix, 3))
    (kk : ∀ (q : Nat) (H1 : Heap), bc_H Z A s (w ++ [(q, .inr (ci, fs))]) H1 locs → W p l e R s m args below meth c H1 locs (cells + 1) (slots + N) Q (F0 m (pc + 3) ls (.ref q :: rest))) : W p l e R s m args below meth c H locs cells slots Q (F0 m pc ls rest) := by
  obtain ⟨hx, hb, hown, hts, hK, hml, hA, hlocks, hX, hl0⟩ := C0
  exact va_new (ci := ci) (fs := fs) hx hb hts hin ty hty hown (hts _ hl) (hts _ hi) (hts _ hn) hK hH.1 hH.2.1 hH.2.2 hA hc hfs hcells hslots hdg (fun q H1 hP hD hS => kk q H1 ⟨hP, hD, hS⟩)
/-- a new row of ints -/
theorem bc_newI {n : Int32} {N' : Nat} (C0 : bn_C own cc nL Z A p l s m args meth c) (hH : bc_H Z A s w H locs) (hn : ¬ n < 0) (hN : n.toNatClampNeg = N') (hbytes : N' * 4 ≤ 536870912) (hcells : cells + 1 ≤ R.cells) (hslots : slots + N' ≤ R.slots) (hdg : decode cc pc = .ok (.newarray .int, 2))
    (kk : ∀ (q : Nat) (H1 : Heap), bc_H Z A s (w ++ [(q, .inl (Z.2.1, (N', .inl (fun _ => 0))))]) H1 locs → W p l e R s m args below meth c H1 locs (cells + 1) (slots + N') Q (F0 m (pc + 2) ls (.ref q :: rest))) : W p l e R s m args below meth c H locs cells slots Q (F0 m pc ls (.int n :: rest)) := by
  obtain ⟨hx, hb, hown, hts, hK, hml, hA, hlocks, hX, hl0⟩ := C0
  refine va_newa (atype := .int) (ty := .int) (a0 := (N', .inl (fun _ => 0))) hx hb (hts _ q_167) rfl hK hH.1 hH.2.1 hH.2.2 hA (fun cA => rfl) hn hN hbytes hcells hslots hdg (fun q cA H1 hK1 hP hD hS => ?_)
  have e1 : va_RA s cA .int := (hK1.2 3 (cA, .int) rfl).2
  have e2 : va_RA s Z.2.1 .int := (hK.2 0 (Z.2.1, .int) rfl).2
  have e3 : cA = Z.2.1 := Option.some.inj (e1.symm.trans e2)
  subst e3
  exact kk q H1 ⟨hP, hD, hS⟩
/-- getfield, putfield of the world's first object -/
theorem bc_get0 {k a : Nat} {fs : List Value} {v : Value} (C0 : bn_C C cc nL Z A p l s m args meth c) (hH : bc_H Z A s ((a, .inr (ci, fs)) :: w) H locs) (hc : cl[ci]? = some (C, T, N)) (hin : ∀ x ∈ u_ws C T N, x ∈ al) (hT : ∀ k, (T k).1 = C) (hk : k < N) (hl : Cond.fieldLink C ix C (T k).2.1 (T k).2.2.1 ∈ al) (hdg : decode cc pc = .ok (.getfield ix, 3)) (hv : fs[k]? = some v)
    (kk : W p l e R s m args below meth c H locs cells slots Q (F0 m (pc + 3) ls (v :: rest))) : W p l e R s m args below meth c H locs cells slots Q (F0 m pc ls (.ref a :: rest)) := by
  obtain ⟨hx, hb, hown, hts, hK, -⟩ := C0
  exact va_get (D := Z.1) (ci := ci) (v := v) (C := C) (T := T) (N := N) hx hb hts hin hown hK hH.1 0 rfl hc k hk (hts _ hl) (fun x h9 => by rw [hT] at h9; exact h9) hv hdg kk
theorem bc_put0 {k a : Nat} {fs : List Value} {v : Value} {ty0 : FieldType} (C0 : bn_C C cc nL Z A p l s m args meth c) (hH : bc_H Z A s ((a, .inr (ci, fs)) :: w) H locs) (hc : cl[ci]? = some (C, T, N)) (hin : ∀ x ∈ u_ws C T N, x ∈ al) (ty : Nat → FieldType) (hty : ∀ k, k < N → parseFieldDescriptor (T k).2.2.1 = some (ty k)) (hnm : ∀ a, a < N → ∀ b, b < N → a ≠ b → (T a).2.1 ≠ (T b).2.1) (hT : ∀ k, (T k).1 = C) (hk : k < N) (hl : Cond.fieldLink C ix C (T k).2.1 (T k).2.2.1 ∈ al) (hf : (T k).2.2.2 = false) (hd : parseFieldDescriptor (T k).2.2.1 = some ty0) (h1 : narrow ty0 v = v) (h2 : fits ty0 v = true) (h3 : k < fs.length) (hdg : decode cc pc = .ok (.putfield ix, 3))
    (kk : ∀ (H1 : Heap) (locs1 : List Loc), bc_H Z A s ((a, .inr (ci, fs.set k v)) :: w) H1 locs1 → W p l e R s m args below meth c H1 locs1 cells slots Q (F0 m (pc + 3) ls rest)) : W p l e R s m args below meth c H locs cells slots Q (F0 m pc ls (v :: .ref a :: rest)) := by
  obtain ⟨hx, hb, hown, hts, hK, -⟩ := C0
  exact va_put (D := Z.1) (ci := ci) (v := v) (ty := ty0) (C := C) (T := T) (N := N) hx hb hts hin ty hty hnm hown hK hH.1 hH.2.1 hH.2.2 0 rfl hc k hk (hts _ hl) (fun x h9 => by rw [hT] at h9; exact h9) hf hd h1 h2 h3 hdg (fun H1 locs1 hP hD hS => kk H1 locs1 ⟨hP, hD, hS⟩)
theorem bc_putF0 {k a : Nat} {fs : List Value} {v : Value} {ty0 : FieldType} (C0 : bn_C C cc nL Z A p l s m args meth c) (hin2 : meth.name = "<init>") (hH : bc_H Z A s ((a, .inr (ci, fs)) :: w) H locs) (hc : cl[ci]? = some (C, T, N)) (hin : ∀ x ∈ u_ws C T N, x ∈ al) (ty : Nat → FieldType) (hty : ∀ k, k < N → parseFieldDescriptor (T k).2.2.1 = some (ty k)) (hnm : ∀ a, a < N → ∀ b, b < N → a ≠ b → (T a).2.1 ≠ (T b).2.1) (hT : ∀ k, (T k).1 = C) (hk : k < N) (hl : Cond.fieldLink C ix C (T k).2.1 (T k).2.2.1 ∈ al) (hf : (T k).2.2.2 = true) (hd : parseFieldDescriptor (T k).2.2.1 = some ty0) (h1 : narrow ty0 v = v) (h2 : fits ty0 v = true) (h3 : k < fs.length) (hdg : decode cc pc = .ok (.putfield ix, 3))
    (kk : ∀ (H1 : Heap) (locs1 : List Loc), bc_H Z A s ((a, .inr (ci, fs.set k v)) :: w) H1 locs1 → W p l e R s m args below meth c H1 locs1 cells slots Q (F0 m (pc + 3) ls rest)) : W p l e R s m args below meth c H locs cells slots Q (F0 m pc ls (v :: .ref a :: rest)) := by
  obtain ⟨hx, hb, hown, hts, hK, -⟩ := C0
  exact va_putF (D := Z.1) (ci := ci) (v := v) (ty := ty0) (C := C) (T := T) (N := N) hx hb hts hin ty hty hnm hown hK hH.1 hH.2.1 hH.2.2 0 rfl hc k hk (hts _ hl) (fun x h9 => by rw [hT] at h9; exact h9) hf hin2 (hT k) hd h1 h2 h3 hdg (fun H1 locs1 hP hD hS => kk H1 locs1 ⟨hP, hD, hS⟩)
/-- a new row of references -/
theorem bc_newQ {n : Int32} {N' t0 : Nat} {cA : ClassId} (C0 : bn_C own cc nL Z A p l s m args meth c) (hH : bc_H Z A s w H locs) (hl : Cond.classLink own ix C ∈ al) (hO : va_AO C s) (ht : (bn_ty Z)[t0]? = some (cA, .object C)) (hn : ¬ n < 0) (hN : n.toNatClampNeg = N') (hbytes : N' * 4 ≤ 536870912) (hcells : cells + 1 ≤ R.cells) (hslots : slots + N' ≤ R.slots) (hdg : decode cc pc = .ok (.anewarray ix, 3))
    (kk : ∀ (q : Nat) (H1 : Heap), bc_H Z A s (w ++ [(q, .inl (cA, (N', .inr (.inr (.inr (.inr (fun _ => none)))))))]) H1 locs → W p l e R s m args below meth c H1 locs (cells + 1) (slots + N') Q (F0 m (pc + 3) ls (.ref q :: rest))) : W p l e R s m args below meth c H locs cells slots Q (F0 m pc ls (.int n :: rest)) := by
  obtain ⟨hx, hb, hown, hts, hK, hml, hA, hlocks, hX, hl0⟩ := C0
  refine va_newq hx hb hown (hts _ hl) hO hK hH.1 hH.2.1 hH.2.2 hA hn hN hbytes hcells hslots hdg (fun q cB H1 hK1 hP hD hS => ?_)
  obtain ⟨kA, cp, -, -, -, e1⟩ := (hK1.2 3 (cB, .object C) rfl).2
  obtain ⟨kB, cq, -, -, -, e2⟩ := (hK.2 t0 (cA, .object C) ht).2
  have e3 : cB = cA := Option.some.inj (e1.symm.trans e2)
  subst e3
  exact kk q H1 ⟨hP, hD, hS⟩
theorem bc_vret {post : va_W → Prop} {mc ms : Nat} (C0 : bn_C own cc nL Z A p l s m args meth c) (hr : meth.sig.returnType = none) (hH : bc_H Z A s w H locs) (hdg : decode cc pc = .ok (.return_, 1)) (hp : post w) (h1 : cells ≤ mc) (h2 : slots ≤ ms) : W p l e R s m args below meth c H locs cells slots (MQ below (va_Qv post (bc_B Z A) A) args s mc ms A) (F0 m pc ls []) := by
  obtain ⟨hx, hb, hown, hts, hK, -, hA, hlocks, -⟩ := C0
  obtain ⟨hP, hD, hS⟩ := hH
  refine W.widen (k := mc) (n := ms) h1 h2 ?_
  exact W.vret hx hb hr (fun t ht hW => ⟨⟨w, rfl, hp, by rw [ht]; exact hP, va_K.moved hW.alike hK, hD⟩, hS.F ht⟩) hS.2.2 hdg hlocks
theorem bc_iret {post : Int32 → va_W → Prop} {x : Int32} {mc ms : Nat} (C0 : bn_C own cc nL Z A p l s m args meth c) (hr : meth.sig.returnType = some .int) (hH : bc_H Z A s w H locs) (hdg : decode cc pc = .ok (.ireturn, 1)) (hp : post x w) (h1 : cells ≤ mc) (h2 : slots ≤ ms) : W p l e R s m args below meth c H locs cells slots (MQ below (va_Qi post (bc_B Z A) A) args s mc ms A) (F0 m pc ls [.int x]) := by
  obtain ⟨hx, hb, hown, hts, hK, -, hA, hlocks, -⟩ := C0
  obtain ⟨hP, hD, hS⟩ := hH
  refine W.widen (k := mc) (n := ms) h1 h2 ?_
  exact W.iret hx hb hr (fun t ht hW => ⟨⟨x, w, rfl, hp, by rw [ht]; exact hP, va_K.moved hW.alike hK, hD⟩, hS.F ht⟩) hS.2.2 hdg hlocks
end KA
