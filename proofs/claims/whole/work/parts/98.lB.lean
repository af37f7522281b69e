/-! the law's calls: its helpers, the reference, the bench's count -/
theorem hp_blind {Z : bZ} {cJ : ClassId} {w : va_W} {as : List Value} {sz : Nat} : FrameBlind (va_Pc as (hp_Pc Z cJ sz w)) := fun a U g mk h => by
  obtain ⟨q0, ⟨q1, qP, qK, qD, qX⟩, qE⟩ := h
  exact ⟨q0, ⟨q1, qP, va_K.moved (u := U) (U := U.calling g mk a) (Vm.Alike.refl U.vm) qK, qD, bn_X.same (s := U) (U := U.calling g mk a) rfl qX⟩, hp_E.moved (u := U) (U := U.calling g mk a) (Vm.Alike.refl U.vm) qE⟩
section LB
variable {p : Program} {l : Launch} {e : Env} {R : Room} {s : State} {m : MethodId} {args : Array Value} {below : List Frame} {meth : Method} {c : Code} {H : Heap} {locs : List Loc} {cells slots : Nat} {Q : State → Prop}
variable {cc : ByteArray} {pc : Nat} {ls : Array Slot} {rest st0 : List Value} {Z : bZ} {A : Nat → Prop} {w X wc : va_W} {nL : Nat} {own : String} {cJ : ClassId}
theorem lz_wds {y : MethodName} {cc' : ByteArray} {nL' : Nat} {ret : Option FieldType} {hh : List (Nat × Nat × Nat × Nat)} (hts : ∀ w ∈ al, w.before args s = true) (hco : Cond.codeWith y cc' nL' ret hh ∈ al) : ∀ w ∈ Cond.codeWith y cc' nL' ret hh :: al, ∀ (a' : Array Value) (U : State), s.WarmedH U.vm → w.before a' U = true := fun w hw a' U hW => by
  rcases List.mem_cons.mp hw with rfl | h1
  · exact word_at hW (al_good hco) (hts _ hco)
  · exact word_at hW (al_good h1) (hts _ h1)
/-- a helper's call -/
theorem hp_cS {post : Int32 → va_W → Prop} {C : String} {h mc ms nL' n ix : Nat} {y : MethodName} {cc' : ByteArray} {hh : List (Nat × Nat × Nat × Nat)} {as : List Value} (C0 : bn_C own cc nL Z A p l s m args meth c) (hE : hp_E cJ Z s) (hH : bc_H Z A s (X ++ wc) H locs) (hM : hp_M l Z cJ h mc ms y cc' nL' hh as wc post) (hc : y.cls = C) (hco : Cond.codeWith y cc' nL' (some .int) hh ∈ al) (hi : Cond.initialized C ∈ al) (hm1 : C ≠ "java/lang/invoke/MethodHandle") (hm2 : C ≠ "java/lang/invoke/VarHandle") (hp : (parseMethodDescriptor y.desc).map (fun d => d.parameters.length) = some n) (hs0 : Cond.static y ∈ al) (hl : Cond.methodLink own ix y ∈ al) (hR : h + 1 ≤ R.frames ∧ 8 + (nL' + 11) + 60 * h ≤ R.locals)
    (hn : as.length = n) (hsize : ls.size = nL) (hst : st0 = as.reverse ++ rest) (hW : (rest.map fun v => v.category).sum ≤ 8) (hcl9 : cells + mc ≤ R.cells ∧ slots + ms ≤ R.slots) (hdg : decode cc pc = .ok (.invokestatic ix, 3))
    (kk : ∀ (r : Int32) (w1 : va_W) (H1 : Heap) (locs1 : List Loc), post r w1 → bc_H Z A s (X ++ w1) H1 locs1 → W p l e R s m args below meth c H1 locs1 (cells + mc) (slots + ms) Q (F0 m (pc + 3) ls (.int r :: rest))) : W p l e R s m args below meth c H locs cells slots Q (F0 m pc ls st0) := by
  obtain ⟨hx, hb, hown, hts, hK, hml, hA, hlocks, hX, hl0⟩ := id C0
  refine bc_i C0 hH (vx_runSW (As := as) (rest := rest) (bytes := cc') (maxL := nL') (ret := some .int) (hh := hh) (n := n) ⟨hx, hb, hml, hown, hts⟩ (hM H.size) ⟨⟨rfl, rfl, hR.1, hR.2, lz_wds hts hco, List.mem_cons_self⟩, hts _ hco, by rw [hc]; exact hts _ hi, ⟨by rw [hc]; exact hm1, by rw [hc]; exact hm2⟩, fun sig hs => ?_, hts _ hl, hts _ hs0⟩ ⟨hp_blind, fun U hU hW => ⟨rfl, (bc_start0 (as := as) C0 hH U hU hW).2, hp_E.moved hW.alike hE⟩⟩ rfl hn hsize hst (lv_room hW) hdg hcl9) kk
  rw [hs] at hp
  exact (Option.some.inj hp).symm
/-- the reference's call -/
theorem lz_ci {qm : Nat → Nat} {v w2 : mS} {r : Int32} {h nL' n ix : Nat} {y : MethodName} {cc' : ByteArray} {as : List Value} (C0 : bn_C own cc nL Z A p l s m args meth c) (hH : bc_H Z A s (X ++ mo_ws Z.2.1 qm v) H locs) (hM : mo_M l Z.1 Z.2.1 qm h y cc' nL' (some .int) (.ref (qm 0) :: as) v (mo_Qi Z.1 Z.2.1 qm r w2)) (Y : mo_Y y cc' nL' (some .int) n) (hl : Cond.methodLink own ix y ∈ al) (hR : h + 1 ≤ R.frames ∧ 8 + (nL' + 11) + 60 * h ≤ R.locals)
    (hn : as.length = n) (hsize : ls.size = nL) (hst : st0 = as.reverse ++ .ref (qm 0) :: rest) (hW : (rest.map fun v => v.category).sum ≤ 8) (hcl9 : cells ≤ R.cells ∧ slots ≤ R.slots) (hdg : decode cc pc = .ok (.invokevirtual ix, 3))
    (kk : ∀ (H1 : Heap) (locs1 : List Loc), bc_H Z A s (X ++ mo_ws Z.2.1 qm w2) H1 locs1 → W p l e R s m args below meth c H1 locs1 cells slots Q (F0 m (pc + 3) ls (.int r :: rest))) : W p l e R s m args below meth c H locs cells slots Q (F0 m pc ls st0) := by
  obtain ⟨hx, hb, hown, hts, hK, hml, hA, hlocks, hX, hl0⟩ := id C0
  obtain ⟨yc, yi, ys, yo, yp⟩ := Y
  have hk : (X ++ mo_ws Z.2.1 qm v)[X.length + 0]? = some (qm 0, .inr (5, mo_fs qm v)) := by
    rw [pl_at]
    exact mo_at0
  refine va_calli (va_runV (As := as) (rest := rest) (C := R_M) ⟨hx, hb, hml, hown, hts⟩ (hM H.size) ⟨bn_cb hts yc yo q_109 (by decide +kernel) (by decide +kernel) yp hl hR, hts _ yi, hts _ ys⟩ ⟨mo_blind, va_recv hK hH.1 (ci := 5) (q0 := X.length + 0) rfl hk, fun U hU hW => ⟨rfl, by rw [hU], by rw [hU]; exact (bc_cut hH).1, va_K.moved hW.alike (hK.sub (tys' := [(Z.2.1, .int)]) [0] rfl), (bc_cut hH).2.weaken (fun _ _ _ _ => trivial)⟩⟩ rfl hn hsize hst (lv_room hW) hdg hcl9) hH.2.2 (fun x _ hx => bc_free C0 hH x hx) (bc_free C0 hH) (fun r1 u t H1 locs1 ht hvm hw hB hz1 hk1 hS => ?_)
  obtain ⟨rfl, rfl⟩ := hw
  obtain ⟨hP, -, hD⟩ := hB
  rw [ht] at hP
  obtain ⟨a, b⟩ := va_join hH.1 hH.2.1 (List.range' X.length (mo_ws Z.2.1 qm v).length) (List.range X.length) (pl_C X _) (pl_R X _) (pl_nd _ List.nodup_range) (pl_dis _ _) hk1 (bc_free C0 hH) hP hD
  exact kk H1 locs1 ⟨a, b, hS⟩
/-- the bench's, that neither throws nor makes -/
theorem lz_cb {q g : Nat → Nat} {v w2 : mS} {r : Int32} {h nL' n ix : Nat} {y : MethodName} {cc' : ByteArray} {as : List Value} (C0 : bn_C own cc nL Z A p l s m args meth c) (hH : bc_H Z A s (X ++ bn_ws Z (q, g, v)) H locs) (hM : bn_M l Z h y cc' nL' (some .int) (.ref (q 0) :: as) (q, g, v) (bn_Qi Z r (q, g, w2))) (Y : bn_Y R_B y cc' nL' (some .int) n) (hl : Cond.methodLink own ix y ∈ al) (hR : h + 1 ≤ R.frames ∧ 8 + (nL' + 11) + 60 * h ≤ R.locals)
    (hn : as.length = n) (hsize : ls.size = nL) (hst : st0 = as.reverse ++ .ref (q 0) :: rest) (hW : (rest.map fun v => v.category).sum ≤ 8) (hcl9 : cells ≤ R.cells ∧ slots ≤ R.slots) (hdg : decode cc pc = .ok (.invokevirtual ix, 3))
    (kk : ∀ (H1 : Heap) (locs1 : List Loc), bc_H Z A s (X ++ bn_ws Z (q, g, w2)) H1 locs1 → W p l e R s m args below meth c H1 locs1 cells slots Q (F0 m (pc + 3) ls (.int r :: rest))) : W p l e R s m args below meth c H locs cells slots Q (F0 m pc ls st0) := by
  obtain ⟨hx, hb, hown, hts, hK, hml, hA, hlocks, hX, hl0⟩ := id C0
  obtain ⟨yc, yi, ys, yo, yn, y1, y2, yp⟩ := Y
  have hk : (X ++ bn_ws Z (q, g, v))[X.length + 0]? = some (q 0, .inr (0, bn_fs (q, g, v) 0)) := by
    rw [pl_at]
    exact bn_atO (ci := 0) ⟨by decide, by decide⟩ (by decide)
  refine va_calli (va_runV (As := as) (rest := rest) (C := R_B) ⟨hx, hb, hml, hown, hts⟩ (hM H.size) ⟨bn_cb hts yc yo yn y1 y2 yp hl hR, hts _ yi, hts _ ys⟩ ⟨bn_blind, va_recv hK hH.1 (ci := 0) (q0 := X.length + 0) rfl hk, bc_start0 (as := .ref (q 0) :: as) C0 hH⟩ rfl hn hsize hst (lv_room hW) hdg hcl9) hH.2.2 (fun x _ hx => bc_free C0 hH x hx) (bc_free C0 hH) (fun r1 u t H1 locs1 ht hvm hw hB hz1 hk1 hS => ?_)
  obtain ⟨rfl, rfl⟩ := hw
  obtain ⟨hP, -, hD⟩ := hB
  rw [ht] at hP
  obtain ⟨a, b⟩ := va_join hH.1 hH.2.1 (List.range' X.length (bn_ws Z (q, g, v)).length) (List.range X.length) (pl_C X _) (pl_R X _) (pl_nd _ List.nodup_range) (pl_dis _ _) hk1 (bc_free C0 hH) hP hD
  exact kk H1 locs1 ⟨a, b, hS⟩
/-- a boolean out of an int -/
def zb (x : Int32) : Int32 := if x = 0 then 0 else 1
theorem lz_bool {x : Int32} {t7 t8 : Nat} (hx : p.tables.exec = Jvm.exec) (hb : c.code = cc) (d1 : decode cc pc = .ok (.ifCond .eq 7, 3)) (d2 : decode cc (pc + 3) = .ok (.iconst 1, 1)) (d3 : decode cc (pc + 3 + 1) = .ok (.goto 4, 3)) (d4 : decode cc t7 = .ok (.iconst 0, 1)) (h7 : (pc : Int) + 7 = (t7 : Int)) (h8 : ((pc + 3 + 1 : Nat) : Int) + 4 = (t8 : Int)) (h9 : t7 + 1 = t8)
    (kk : W p l e R s m args below meth c H locs cells slots Q (F0 m t8 ls (.int (zb x) :: rest))) : W p l e R s m args below meth c H locs cells slots Q (F0 m pc ls (.int x :: rest)) := by
  refine lv_if_eq hx hb d1 h7 (fun h => ?_) (fun h => ?_)
  · refine lv_iconst (v := 0) hx hb d4 (by decide) ?_
    rw [zb, if_pos h] at kk
    rw [h9]
    exact kk
  · refine lv_iconst (v := 1) hx hb d2 (by decide) ?_
    refine lv_goto hx hb d3 h8 ?_
    rw [zb, if_neg h] at kk
    exact kk
end LB
/-- what the helper left agrees with what the reference answers -/
def lz_ag (k r : Int32) (f : Nat → Int64) (w : mS) : Prop := (k = 0 ∧ w 0 0 = 0 ∧ f 0 = r.toInt64) ∨ (k ≠ 0 ∧ w 0 0 = k)
theorem lz_agree {Z : bZ} {cJ : ClassId} {qo : Nat} {fL : Nat → Int64} {q : Nat → Nat} {o : Int32 ⊕ Nat} {gv : bP} {k r : Int32} {w1 : va_W} {w : mS} (h : hp_post Z cJ qo fL q (o, gv) k w1) (ha : zAg o r w) : ∃ (q1 : Nat → Nat) (f : Nat → Int64), q1 0 = q 0 ∧ w1 = (qo, eL cJ f) :: bn_ws Z (q1, gv) ∧ lz_ag k r f w := by
  obtain ⟨q1, hq, h⟩ := h
  have hq0 : q1 0 = q 0 := hq 0 (by decide) (by decide)
  cases o with
  | inl a =>
    obtain ⟨rfl, rfl⟩ := h
    obtain ⟨h1, rfl⟩ := ha
    exact ⟨q1, _, hq0, rfl, Or.inl ⟨rfl, h1, rfl⟩⟩
  | inr n =>
    obtain ⟨rfl, rfl⟩ := h
    obtain ⟨h1, h2⟩ := ha
    refine ⟨q1, _, hq0, rfl, Or.inr ⟨?_, h2⟩⟩
    rcases (show n = 0 ∨ n = 1 ∨ n = 2 ∨ n = 3 by omega) with rfl | rfl | rfl | rfl <;> decide
theorem lz_4 {o : Int32 ⊕ Nat} {gv : bP} {r : Int32} {w : mS} (ha : zAg o r w) : ∀ k, (o, gv).1 = .inr k → k < 4 := by
  intro k hk
  have hk : o = .inr k := hk
  rw [hk] at ha
  exact ha.1
theorem lz_cmp (y : Int64) : lg_cmp y y = 0 := by
  unfold lg_cmp
  rw [if_neg (by simp), if_pos rfl]
/-- the law's context -/
def lz_C (Z : bZ) (cJ : ClassId) (p : Program) (l : Launch) (s : State) (m : MethodId) (meth : Method) (c : Code) (b L : Nat) (xs : Nat → Int32) : Prop := bn_C R_L b_L_law 7 Z (fun q => s.heap.size ≤ q) p l s m #[Value.ref b] meth c ∧ hp_E cJ Z s ∧ va_X b L xs s s.heap ∧ b < s.heap.size
