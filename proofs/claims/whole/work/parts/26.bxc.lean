section BXC
variable {p : Program} {l : Launch} {e : Env} {s : State} {m : MethodId} {args : Array Value} {below : List Frame} {meth : Method} {c : Code} {H : Heap} {locs : List Loc}
variable {cc : ByteArray} {pc : Nat} {ls : Array Slot} {rest st0 : List Value} {Z : bZ} {A : Nat → Prop} {q q0 g g0 : Nat → Nat} {v : mS} {nL h0 : Nat} {own : String}
theorem tc0 {α : Type} {o : bO α} {r : α} (h : o.1 = .inl r) : tc o = 0 := by unfold tc; rw [h]
theorem tc1 {α : Type} {o : bO α} {k : Nat} (h : o.1 = .inr k) : tc o = 1 := by unfold tc; rw [h]
/-- behind a call that has come back, or has thrown -/
theorem bx_after {α β : Type} {en1 : bS → α → Option Value} {en : bS → β → Option Value} {o1 : bO α} {o : bO β} {a : Array Value} (C0 : bn_C own cc nL Z A p l s m args meth c) (hnx : ∀ x ∈ c.exceptionTable.toList, False) (hq : qs q0 q) (hH : bn_H Z A s (q, g, v) H locs) (hm0 : gL g0 ≤ gL g) (hm1 : gL g ≤ gL o1.2.1) (hm2 : gL o1.2.1 ≤ gL o.2.1)
    (hr : vx_Run p l e (bn_rm h0 (mcO g0 o) (msO g0 o)) s m args below meth c H locs (gL g - gL g0) (2 * (gL g - gL g0)) (mcO g o1) (msO g o1) (F0 m pc ls st0) rest (bx_Q Z q en1 o1 (va_A (bn_ws Z (q, g, v)) H.size) a) (bx_X Z q o1 (va_A (bn_ws Z (q, g, v)) H.size)) (va_A (bn_ws Z (q, g, v)) H.size))
    (hx1 : ∀ k, o1.1 = .inr k → o = (.inr k, o1.2))
    (kk : ∀ (r : α) (q1 : Nat → Nat) (H1 : Heap) (locs1 : List Loc), o1.1 = .inl r → qs q0 q1 → qs q q1 → gL g0 ≤ gL o1.2.1 → bn_H Z A s (q1, o1.2.1, o1.2.2) H1 locs1 → bx_W p l e s m args below meth c Z A q0 g0 en o h0 o1.2.1 H1 locs1 (F0 m (pc + 3) ls ((en1 (q1, o1.2.1, o1.2.2) r).toList ++ rest))) :
    bx_W p l e s m args below meth c Z A q0 g0 en o h0 g H locs (F0 m pc ls st0) := by
  obtain ⟨hx, hb, hown, hts, hK, hml, hA, hlocks, hX, hl0⟩ := id C0
  intro T hT X
  rcases hr T hT X with ⟨v9, st₀, t, T', L, h0', X', hL, e1, e2, ⟨⟨r, w, hv, hp1, hp2, hp3, hB⟩, hF⟩, st⟩ | ⟨q9, st₀, t, T', L, E, ce, h0', X', hL, e1, e2, ⟨⟨k, w, hp1, hE, hp2, hp3, hB⟩, hF⟩, hce, hcv, hcl, st⟩
  · cases hv
    obtain ⟨k1, k2, k3⟩ := vx_keep h0' e1 hH.2.2 (fun x _ hx => bn_free C0 hH x hx) (bn_free C0 hH) hL hF
    have ht0 := tc0 hp1
    obtain ⟨q1, g1, v1⟩ := w
    have hp2' : (g1, v1) = o1.2 := hp2
    have hg : g1 = o1.2.1 := by rw [← hp2']
    have hv1 : v1 = o1.2.2 := by rw [← hp2']
    subst hg
    subst hv1
    have hH1 : bn_H Z A s (q1, o1.2.1, o1.2.2) T'.heap (locs ++ L) := bn_back C0 hH e1.symm hB k3
    have K := W.widen (cells := gL g - gL g0 + mcO g o1) (slots := 2 * (gL g - gL g0) + msO g o1) (by simp only [mcO, ht0]; omega) (by simp only [msO, ht0]; omega) (kk r q1 T'.heap (locs ++ L) hp1 (hq.tr hp3) hp3 (Nat.le_trans hm0 hm1) hH1)
    obtain ⟨t2, a1, b1⟩ := K T' rfl X'
    exact ⟨t2, st t2 a1, b1⟩
  · obtain ⟨k1, k2, k3⟩ := vx_keep h0' e1 hH.2.2 (fun x _ hx => bn_free C0 hH x hx) (bn_free C0 hH) hL hF
    have ht1 := tc1 hp1
    have ho := hx1 k hp1
    have hto : tc o = 1 := by rw [ho]; rfl
    have hgo : o.2.1 = o1.2.1 := by rw [ho]
    obtain ⟨q1, g1, v1⟩ := w
    have hp2' : (g1, v1) = o1.2 := hp2
    have hg : g1 = o1.2.1 := by rw [← hp2']
    have hv1 : v1 = o1.2.2 := by rw [← hp2']
    subst hg
    subst hv1
    have hH1 : bn_H Z A s (q1, o1.2.1, o1.2.2) T'.heap (locs ++ L) := bn_back C0 hH e1.symm hB k3
    have K : vx_W p l e (bn_rm h0 (mcO g0 o) (msO g0 o)) s m args below meth c T'.heap (locs ++ L) (gL g - gL g0 + mcO g o1) (2 * (gL g - gL g0) + msO g o1) (vx_MQ below (bx_Q Z q0 en o A) (bx_X Z q0 o A) args s (mcO g0 o) (msO g0 o) A) (F0 m pc ls rest) q9 := by
      refine vx_out (E := E) (ce := ce) (fun x hx9 => (hnx x hx9).elim) hlocks (by rw [e1]; exact hce) hcv hcl ?_ k3.2.2 (by simp only [mcO, ht1, hto, hgo]; omega) (by simp only [msO, ht1, hto, hgo]; omega)
      intro t9 ht9 hvm9
      refine ⟨⟨k, (q1, o1.2.1, o1.2.2), by rw [ho], hE, by rw [ho], hq.tr hp3, by rw [ht9]; exact hH1.1, va_K.moved hvm9 hK, hH1.2.1⟩, k3.F ht9⟩
    obtain ⟨t2, a1, b1⟩ := K T' rfl X'
    exact ⟨t2, st.trans a1, b1⟩
theorem bx_cb {C : String} {R : Room} {y : MethodName} {cc' : ByteArray} {nL' ix h n mc ms : Nat} {ret : Option FieldType} (hts : ∀ w ∈ al, w.before args s = true) (hc : y.cls = C) (hco : Cond.code y cc' nL' ret ∈ al) (hi : Cond.initialized C ∈ al) (hm1 : C ≠ "java/lang/invoke/MethodHandle") (hm2 : C ≠ "java/lang/invoke/VarHandle") (hp : (parseMethodDescriptor y.desc).map (fun d => d.parameters.length) = some n) (hl : Cond.methodLink own ix y ∈ al) (hR : h + 1 ≤ R.frames ∧ 8 + (nL' + 11) + 60 * h ≤ R.locals) :
    CallB R s args own ix y cc' nL' ret (mo_w y cc' nL' ret) (bn_rm h mc ms) mc ms n := by
  refine ⟨rfl, rfl, hR.1, hR.2, bn_wds hts hco, List.mem_cons_self, hts _ hco, by rw [hc]; exact hts _ hi, ⟨by rw [hc]; exact hm1, by rw [hc]; exact hm2⟩, fun sig hs => ?_, hts _ hl⟩
  rw [hs] at hp
  exact (Option.some.inj hp).symm
theorem bx_roomc {α β : Type} {o1 : bO α} {o : bO β} (hm0 : gL g0 ≤ gL g) (hm1 : gL g ≤ gL o1.2.1) (hm2 : gL o1.2.1 ≤ gL o.2.1) (ht : tc o1 ≤ tc o) : gL g - gL g0 + mcO g o1 ≤ (bn_rm h0 (mcO g0 o) (msO g0 o)).cells ∧ 2 * (gL g - gL g0) + msO g o1 ≤ (bn_rm h0 (mcO g0 o) (msO g0 o)).slots := by
  simp only [bn_rm, mcO, msO]
  omega
section
variable {α β : Type} {en1 : bS → α → Option Value} {en : bS → β → Option Value} {o1 : bO α} {o : bO β} {C : String} {T : u_T} {N ci j : Nat} {y : MethodName} {cc' : ByteArray} {nL' ix h n : Nat} {ret : Option FieldType} {as : List Value}
theorem bx_cV (C0 : bn_C own cc nL Z A p l s m args meth c) (hnx : ∀ x ∈ c.exceptionTable.toList, False) (hq : qs q0 q) (hH : bn_H Z A s (q, g, v) H locs) (hm0 : gL g0 ≤ gL g) (hm1 : gL g ≤ gL o1.2.1) (hm2 : gL o1.2.1 ≤ gL o.2.1) (ht : tc o1 ≤ tc o) (hj : j < 62 ∧ bn_k j = ci) (hci : ci < 9) (hcl : cl[ci]? = some (C, T, N))
    (hM : bx_M l Z h y cc' nL' ret (.ref (q j) :: as) q g v en1 o1) (Y : bn_Y C y cc' nL' ret n) (hl : Cond.methodLink own ix y ∈ al) (hR : h + 1 ≤ h0 ∧ 8 + (nL' + 11) + 60 * h ≤ 60 * h0)
    (hn : as.length = n) (hsize : ls.size = nL) (hst : st0 = as.reverse ++ .ref (q j) :: rest) (hW : (rest.map fun v => v.category).sum ≤ 8) (hdg : decode cc pc = .ok (.invokevirtual ix, 3)) (hx1 : ∀ k, o1.1 = .inr k → o = (.inr k, o1.2))
    (kk : ∀ (r : α) (q1 : Nat → Nat) (H1 : Heap) (locs1 : List Loc), o1.1 = .inl r → qs q0 q1 → qs q q1 → gL g0 ≤ gL o1.2.1 → bn_H Z A s (q1, o1.2.1, o1.2.2) H1 locs1 → bx_W p l e s m args below meth c Z A q0 g0 en o h0 o1.2.1 H1 locs1 (F0 m (pc + 3) ls ((en1 (q1, o1.2.1, o1.2.2) r).toList ++ rest))) :
    bx_W p l e s m args below meth c Z A q0 g0 en o h0 g H locs (F0 m pc ls st0) := by
  obtain ⟨hx, hb, hown, hts, hK, hml, hA, hlocks, hX, hl0⟩ := id C0
  obtain ⟨yc, yi, ys, yo, yn, y1, y2, yp⟩ := Y
  exact bx_after C0 hnx hq hH hm0 hm1 hm2 (vx_runV (As := as) (rest := rest) (C := C) ⟨hx, hb, hml, hown, hts⟩ (hM H.size) ⟨bx_cb hts yc yo yn y1 y2 yp hl hR, hts _ yi, hts _ ys⟩ ⟨bn_blind, va_recv hK hH.1 (ci := ci) (q0 := j) hcl (bn_atO hj hci), bn_start (as := .ref (q j) :: as) C0 hH⟩ rfl hn hsize hst (lv_room hW) hdg (bx_roomc hm0 hm1 hm2 ht)) hx1 kk
theorem bx_cS (C0 : bn_C own cc nL Z A p l s m args meth c) (hnx : ∀ x ∈ c.exceptionTable.toList, False) (hq : qs q0 q) (hH : bn_H Z A s (q, g, v) H locs) (hm0 : gL g0 ≤ gL g) (hm1 : gL g ≤ gL o1.2.1) (hm2 : gL o1.2.1 ≤ gL o.2.1) (ht : tc o1 ≤ tc o)
    (hM : bx_M l Z h y cc' nL' ret as q g v en1 o1) (Y : bn_YS C y cc' nL' ret n) (hl : Cond.methodLink own ix y ∈ al) (hR : h + 1 ≤ h0 ∧ 8 + (nL' + 11) + 60 * h ≤ 60 * h0)
    (hn : as.length = n) (hsize : ls.size = nL) (hst : st0 = as.reverse ++ rest) (hW : (rest.map fun v => v.category).sum ≤ 8) (hdg : decode cc pc = .ok (.invokestatic ix, 3)) (hx1 : ∀ k, o1.1 = .inr k → o = (.inr k, o1.2))
    (kk : ∀ (r : α) (q1 : Nat → Nat) (H1 : Heap) (locs1 : List Loc), o1.1 = .inl r → qs q0 q1 → qs q q1 → gL g0 ≤ gL o1.2.1 → bn_H Z A s (q1, o1.2.1, o1.2.2) H1 locs1 → bx_W p l e s m args below meth c Z A q0 g0 en o h0 o1.2.1 H1 locs1 (F0 m (pc + 3) ls ((en1 (q1, o1.2.1, o1.2.2) r).toList ++ rest))) :
    bx_W p l e s m args below meth c Z A q0 g0 en o h0 g H locs (F0 m pc ls st0) := by
  obtain ⟨hx, hb, hown, hts, hK, hml, hA, hlocks, hX, hl0⟩ := id C0
  obtain ⟨yc, ys, yo, yn, y1, y2, yp⟩ := Y
  exact bx_after C0 hnx hq hH hm0 hm1 hm2 (vx_runS (As := as) (rest := rest) ⟨hx, hb, hml, hown, hts⟩ (hM H.size) ⟨bx_cb hts yc yo yn y1 y2 yp hl hR, hts _ ys⟩ ⟨bn_blind, bn_start C0 hH⟩ rfl hn hsize hst (lv_room hW) hdg (bx_roomc hm0 hm1 hm2 ht)) hx1 kk
end
end BXC
