section BNC
variable {p : Program} {l : Launch} {e : Env} {R : Room} {s : State} {m : MethodId} {args : Array Value} {below : List Frame} {meth : Method} {c : Code} {H : Heap} {locs : List Loc} {cells slots : Nat} {Q : State → Prop}
variable {cc : ByteArray} {pc : Nat} {ls : Array Slot} {rest : List Value} {Z : bZ} {A : Nat → Prop} {u : bS} {nL : Nat} {own : String}
variable {C host : String} {T : u_T} {N ci j : Nat} {y : MethodName} {cc' : ByteArray} {nL' ix h n : Nat} {ret : Option FieldType} {as st0 : List Value} {w : bS}
theorem bn_ci {r : Int32} (C0 : bn_C own cc nL Z A p l s m args meth c) (hH : bn_H Z A s u H locs) (hj : j < 62 ∧ bn_k j = ci) (hci : ci < 9) (hcl : cl[ci]? = some (C, T, N)) (hM : bn_M l Z h y cc' nL' ret (.ref (u.1 j) :: as) u (bn_Qi Z r w)) (Y : bn_Y C y cc' nL' ret n) (hl : Cond.methodLink own ix y ∈ al) (hR : h + 1 ≤ R.frames ∧ 8 + (nL' + 11) + 60 * h ≤ R.locals)
    (hn : as.length = n) (hsize : ls.size = nL) (hst : st0 = as.reverse ++ .ref (u.1 j) :: rest) (hW : (rest.map fun v => v.category).sum ≤ 8) (hcl9 : cells ≤ R.cells ∧ slots ≤ R.slots) (hdg : decode cc pc = .ok (.invokevirtual ix, 3))
    (kk : ∀ (H1 : Heap) (locs1 : List Loc), bn_H Z A s w H1 locs1 → W p l e R s m args below meth c H1 locs1 cells slots Q (F0 m (pc + 3) ls (.int r :: rest))) : W p l e R s m args below meth c H locs cells slots Q (F0 m pc ls st0) := by
  obtain ⟨hx, hb, hown, hts, hK, hml, hA, hlocks, hX, hl0⟩ := id C0
  obtain ⟨yc, yi, ys, yo, yn, y1, y2, yp⟩ := Y
  refine va_calli (va_runV (As := as) (rest := rest) (C := C) ⟨hx, hb, hml, hown, hts⟩ (hM H.size) ⟨bn_cb hts yc yo yn y1 y2 yp hl hR, hts _ yi, hts _ ys⟩ ⟨bn_blind, va_recv hK hH.1 (ci := ci) (q0 := j) hcl (bn_atO hj hci), bn_start (as := .ref (u.1 j) :: as) C0 hH⟩ rfl hn hsize hst (lv_room hW) hdg hcl9) hH.2.2 (fun x _ hx => bn_free C0 hH x hx) (bn_free C0 hH) (fun r1 u1 t H1 locs1 ht hvm hw hB hz1 hk1 hS => ?_)
  obtain ⟨rfl, rfl⟩ := hw
  exact kk H1 locs1 (bn_back C0 hH ht hB hS)
theorem bn_cl {r : Int64} (C0 : bn_C own cc nL Z A p l s m args meth c) (hH : bn_H Z A s u H locs) (hj : j < 62 ∧ bn_k j = ci) (hci : ci < 9) (hcl : cl[ci]? = some (C, T, N)) (hM : bn_M l Z h y cc' nL' ret (.ref (u.1 j) :: as) u (bn_Ql Z r w)) (Y : bn_Y C y cc' nL' ret n) (hl : Cond.methodLink own ix y ∈ al) (hR : h + 1 ≤ R.frames ∧ 8 + (nL' + 11) + 60 * h ≤ R.locals)
    (hn : as.length = n) (hsize : ls.size = nL) (hst : st0 = as.reverse ++ .ref (u.1 j) :: rest) (hW : (rest.map fun v => v.category).sum ≤ 8) (hcl9 : cells ≤ R.cells ∧ slots ≤ R.slots) (hdg : decode cc pc = .ok (.invokevirtual ix, 3))
    (kk : ∀ (H1 : Heap) (locs1 : List Loc), bn_H Z A s w H1 locs1 → W p l e R s m args below meth c H1 locs1 cells slots Q (F0 m (pc + 3) ls (.long r :: rest))) : W p l e R s m args below meth c H locs cells slots Q (F0 m pc ls st0) := by
  obtain ⟨hx, hb, hown, hts, hK, hml, hA, hlocks, hX, hl0⟩ := id C0
  obtain ⟨yc, yi, ys, yo, yn, y1, y2, yp⟩ := Y
  refine va_calll (va_runV (As := as) (rest := rest) (C := C) ⟨hx, hb, hml, hown, hts⟩ (hM H.size) ⟨bn_cb hts yc yo yn y1 y2 yp hl hR, hts _ yi, hts _ ys⟩ ⟨bn_blind, va_recv hK hH.1 (ci := ci) (q0 := j) hcl (bn_atO hj hci), bn_start (as := .ref (u.1 j) :: as) C0 hH⟩ rfl hn hsize hst (lv_room hW) hdg hcl9) hH.2.2 (fun x _ hx => bn_free C0 hH x hx) (bn_free C0 hH) (fun r1 u1 t H1 locs1 ht hvm hw hB hz1 hk1 hS => ?_)
  obtain ⟨rfl, rfl⟩ := hw
  exact kk H1 locs1 (bn_back C0 hH ht hB hS)
theorem bn_cv (C0 : bn_C own cc nL Z A p l s m args meth c) (hH : bn_H Z A s u H locs) (hj : j < 62 ∧ bn_k j = ci) (hci : ci < 9) (hcl : cl[ci]? = some (C, T, N)) (hM : bn_M l Z h y cc' nL' ret (.ref (u.1 j) :: as) u (bn_Qv Z w)) (Y : bn_Y C y cc' nL' ret n) (hl : Cond.methodLink own ix y ∈ al) (hR : h + 1 ≤ R.frames ∧ 8 + (nL' + 11) + 60 * h ≤ R.locals)
    (hn : as.length = n) (hsize : ls.size = nL) (hst : st0 = as.reverse ++ .ref (u.1 j) :: rest) (hW : (rest.map fun v => v.category).sum ≤ 8) (hcl9 : cells ≤ R.cells ∧ slots ≤ R.slots) (hdg : decode cc pc = .ok (.invokevirtual ix, 3))
    (kk : ∀ (H1 : Heap) (locs1 : List Loc), bn_H Z A s w H1 locs1 → W p l e R s m args below meth c H1 locs1 cells slots Q (F0 m (pc + 3) ls (rest))) : W p l e R s m args below meth c H locs cells slots Q (F0 m pc ls st0) := by
  obtain ⟨hx, hb, hown, hts, hK, hml, hA, hlocks, hX, hl0⟩ := id C0
  obtain ⟨yc, yi, ys, yo, yn, y1, y2, yp⟩ := Y
  refine va_callv (va_runV (As := as) (rest := rest) (C := C) ⟨hx, hb, hml, hown, hts⟩ (hM H.size) ⟨bn_cb hts yc yo yn y1 y2 yp hl hR, hts _ yi, hts _ ys⟩ ⟨bn_blind, va_recv hK hH.1 (ci := ci) (q0 := j) hcl (bn_atO hj hci), bn_start (as := .ref (u.1 j) :: as) C0 hH⟩ rfl hn hsize hst (lv_room hW) hdg hcl9) hH.2.2 (fun x _ hx => bn_free C0 hH x hx) (bn_free C0 hH) (fun u1 t H1 locs1 ht hvm hw hB hz1 hk1 hS => ?_)
  obtain rfl := hw
  exact kk H1 locs1 (bn_back C0 hH ht hB hS)
theorem bn_cr {r : Nat} (C0 : bn_C own cc nL Z A p l s m args meth c) (hH : bn_H Z A s u H locs) (hj : j < 62 ∧ bn_k j = ci) (hci : ci < 9) (hcl : cl[ci]? = some (C, T, N)) (hM : bn_M l Z h y cc' nL' ret (.ref (u.1 j) :: as) u (bn_Qr Z r w)) (Y : bn_Y C y cc' nL' ret n) (hl : Cond.methodLink own ix y ∈ al) (hR : h + 1 ≤ R.frames ∧ 8 + (nL' + 11) + 60 * h ≤ R.locals)
    (hn : as.length = n) (hsize : ls.size = nL) (hst : st0 = as.reverse ++ .ref (u.1 j) :: rest) (hW : (rest.map fun v => v.category).sum ≤ 8) (hcl9 : cells ≤ R.cells ∧ slots ≤ R.slots) (hdg : decode cc pc = .ok (.invokevirtual ix, 3))
    (kk : ∀ (H1 : Heap) (locs1 : List Loc), bn_H Z A s w H1 locs1 → W p l e R s m args below meth c H1 locs1 cells slots Q (F0 m (pc + 3) ls (.ref (w.1 r) :: rest))) : W p l e R s m args below meth c H locs cells slots Q (F0 m pc ls st0) := by
  obtain ⟨hx, hb, hown, hts, hK, hml, hA, hlocks, hX, hl0⟩ := id C0
  obtain ⟨yc, yi, ys, yo, yn, y1, y2, yp⟩ := Y
  refine va_callr (va_runV (As := as) (rest := rest) (C := C) ⟨hx, hb, hml, hown, hts⟩ (hM H.size) ⟨bn_cb hts yc yo yn y1 y2 yp hl hR, hts _ yi, hts _ ys⟩ ⟨bn_blind, va_recv hK hH.1 (ci := ci) (q0 := j) hcl (bn_atO hj hci), bn_start (as := .ref (u.1 j) :: as) C0 hH⟩ rfl hn hsize hst (lv_room hW) hdg hcl9) hH.2.2 (fun x _ hx => bn_free C0 hH x hx) (bn_free C0 hH) (fun u1 a1 t H1 locs1 ht hvm hw hB hz1 hk1 hS => ?_)
  obtain rfl := hw
  obtain ⟨rfl, hB⟩ := hB
  exact kk H1 locs1 (bn_back C0 hH ht hB hS)
theorem bn_ni {r : Int32} (C0 : bn_C own cc nL Z A p l s m args meth c) (hH : bn_H Z A s u H locs) (hj : j < 62 ∧ bn_k j = ci) (hci : ci < 9) (hcl : cl[ci]? = some (C, T, N)) (hM : bn_M l Z h y cc' nL' ret (.ref (u.1 j) :: as) u (bn_Qi Z r w)) (Y : bn_Y C y cc' nL' ret n) (hl : va_Nw (.methodLinkNest own ix y host) s) (hR : h + 1 ≤ R.frames ∧ 8 + (nL' + 11) + 60 * h ≤ R.locals)
    (hn : as.length = n) (hsize : ls.size = nL) (hst : st0 = as.reverse ++ .ref (u.1 j) :: rest) (hW : (rest.map fun v => v.category).sum ≤ 8) (hcl9 : cells ≤ R.cells ∧ slots ≤ R.slots) (hdg : decode cc pc = .ok (.invokevirtual ix, 3))
    (kk : ∀ (H1 : Heap) (locs1 : List Loc), bn_H Z A s w H1 locs1 → W p l e R s m args below meth c H1 locs1 cells slots Q (F0 m (pc + 3) ls (.int r :: rest))) : W p l e R s m args below meth c H locs cells slots Q (F0 m pc ls st0) := by
  obtain ⟨hx, hb, hown, hts, hK, hml, hA, hlocks, hX, hl0⟩ := id C0
  obtain ⟨yc, yi, ys, yo, yn, y1, y2, yp⟩ := Y
  refine va_calli (va_runVN (As := as) (rest := rest) (C := C) ⟨hx, hb, hml, hown, hts⟩ (hM H.size) ⟨bn_cn hts yc yo yn y1 y2 yp hl hR, hts _ yi, hts _ ys⟩ ⟨bn_blind, va_recv hK hH.1 (ci := ci) (q0 := j) hcl (bn_atO hj hci), bn_start (as := .ref (u.1 j) :: as) C0 hH⟩ rfl hn hsize hst (lv_room hW) hdg hcl9) hH.2.2 (fun x _ hx => bn_free C0 hH x hx) (bn_free C0 hH) (fun r1 u1 t H1 locs1 ht hvm hw hB hz1 hk1 hS => ?_)
  obtain ⟨rfl, rfl⟩ := hw
  exact kk H1 locs1 (bn_back C0 hH ht hB hS)
theorem bn_nl {r : Int64} (C0 : bn_C own cc nL Z A p l s m args meth c) (hH : bn_H Z A s u H locs) (hj : j < 62 ∧ bn_k j = ci) (hci : ci < 9) (hcl : cl[ci]? = some (C, T, N)) (hM : bn_M l Z h y cc' nL' ret (.ref (u.1 j) :: as) u (bn_Ql Z r w)) (Y : bn_Y C y cc' nL' ret n) (hl : va_Nw (.methodLinkNest own ix y host) s) (hR : h + 1 ≤ R.frames ∧ 8 + (nL' + 11) + 60 * h ≤ R.locals)
    (hn : as.length = n) (hsize : ls.size = nL) (hst : st0 = as.reverse ++ .ref (u.1 j) :: rest) (hW : (rest.map fun v => v.category).sum ≤ 8) (hcl9 : cells ≤ R.cells ∧ slots ≤ R.slots) (hdg : decode cc pc = .ok (.invokevirtual ix, 3))
    (kk : ∀ (H1 : Heap) (locs1 : List Loc), bn_H Z A s w H1 locs1 → W p l e R s m args below meth c H1 locs1 cells slots Q (F0 m (pc + 3) ls (.long r :: rest))) : W p l e R s m args below meth c H locs cells slots Q (F0 m pc ls st0) := by
  obtain ⟨hx, hb, hown, hts, hK, hml, hA, hlocks, hX, hl0⟩ := id C0
  obtain ⟨yc, yi, ys, yo, yn, y1, y2, yp⟩ := Y
  refine va_calll (va_runVN (As := as) (rest := rest) (C := C) ⟨hx, hb, hml, hown, hts⟩ (hM H.size) ⟨bn_cn hts yc yo yn y1 y2 yp hl hR, hts _ yi, hts _ ys⟩ ⟨bn_blind, va_recv hK hH.1 (ci := ci) (q0 := j) hcl (bn_atO hj hci), bn_start (as := .ref (u.1 j) :: as) C0 hH⟩ rfl hn hsize hst (lv_room hW) hdg hcl9) hH.2.2 (fun x _ hx => bn_free C0 hH x hx) (bn_free C0 hH) (fun r1 u1 t H1 locs1 ht hvm hw hB hz1 hk1 hS => ?_)
  obtain ⟨rfl, rfl⟩ := hw
  exact kk H1 locs1 (bn_back C0 hH ht hB hS)
theorem bn_nv (C0 : bn_C own cc nL Z A p l s m args meth c) (hH : bn_H Z A s u H locs) (hj : j < 62 ∧ bn_k j = ci) (hci : ci < 9) (hcl : cl[ci]? = some (C, T, N)) (hM : bn_M l Z h y cc' nL' ret (.ref (u.1 j) :: as) u (bn_Qv Z w)) (Y : bn_Y C y cc' nL' ret n) (hl : va_Nw (.methodLinkNest own ix y host) s) (hR : h + 1 ≤ R.frames ∧ 8 + (nL' + 11) + 60 * h ≤ R.locals)
    (hn : as.length = n) (hsize : ls.size = nL) (hst : st0 = as.reverse ++ .ref (u.1 j) :: rest) (hW : (rest.map fun v => v.category).sum ≤ 8) (hcl9 : cells ≤ R.cells ∧ slots ≤ R.slots) (hdg : decode cc pc = .ok (.invokevirtual ix, 3))
    (kk : ∀ (H1 : Heap) (locs1 : List Loc), bn_H Z A s w H1 locs1 → W p l e R s m args below meth c H1 locs1 cells slots Q (F0 m (pc + 3) ls (rest))) : W p l e R s m args below meth c H locs cells slots Q (F0 m pc ls st0) := by
  obtain ⟨hx, hb, hown, hts, hK, hml, hA, hlocks, hX, hl0⟩ := id C0
  obtain ⟨yc, yi, ys, yo, yn, y1, y2, yp⟩ := Y
  refine va_callv (va_runVN (As := as) (rest := rest) (C := C) ⟨hx, hb, hml, hown, hts⟩ (hM H.size) ⟨bn_cn hts yc yo yn y1 y2 yp hl hR, hts _ yi, hts _ ys⟩ ⟨bn_blind, va_recv hK hH.1 (ci := ci) (q0 := j) hcl (bn_atO hj hci), bn_start (as := .ref (u.1 j) :: as) C0 hH⟩ rfl hn hsize hst (lv_room hW) hdg hcl9) hH.2.2 (fun x _ hx => bn_free C0 hH x hx) (bn_free C0 hH) (fun u1 t H1 locs1 ht hvm hw hB hz1 hk1 hS => ?_)
  obtain rfl := hw
  exact kk H1 locs1 (bn_back C0 hH ht hB hS)
theorem bn_nr {r : Nat} (C0 : bn_C own cc nL Z A p l s m args meth c) (hH : bn_H Z A s u H locs) (hj : j < 62 ∧ bn_k j = ci) (hci : ci < 9) (hcl : cl[ci]? = some (C, T, N)) (hM : bn_M l Z h y cc' nL' ret (.ref (u.1 j) :: as) u (bn_Qr Z r w)) (Y : bn_Y C y cc' nL' ret n) (hl : va_Nw (.methodLinkNest own ix y host) s) (hR : h + 1 ≤ R.frames ∧ 8 + (nL' + 11) + 60 * h ≤ R.locals)
    (hn : as.length = n) (hsize : ls.size = nL) (hst : st0 = as.reverse ++ .ref (u.1 j) :: rest) (hW : (rest.map fun v => v.category).sum ≤ 8) (hcl9 : cells ≤ R.cells ∧ slots ≤ R.slots) (hdg : decode cc pc = .ok (.invokevirtual ix, 3))
    (kk : ∀ (H1 : Heap) (locs1 : List Loc), bn_H Z A s w H1 locs1 → W p l e R s m args below meth c H1 locs1 cells slots Q (F0 m (pc + 3) ls (.ref (w.1 r) :: rest))) : W p l e R s m args below meth c H locs cells slots Q (F0 m pc ls st0) := by
  obtain ⟨hx, hb, hown, hts, hK, hml, hA, hlocks, hX, hl0⟩ := id C0
  obtain ⟨yc, yi, ys, yo, yn, y1, y2, yp⟩ := Y
  refine va_callr (va_runVN (As := as) (rest := rest) (C := C) ⟨hx, hb, hml, hown, hts⟩ (hM H.size) ⟨bn_cn hts yc yo yn y1 y2 yp hl hR, hts _ yi, hts _ ys⟩ ⟨bn_blind, va_recv hK hH.1 (ci := ci) (q0 := j) hcl (bn_atO hj hci), bn_start (as := .ref (u.1 j) :: as) C0 hH⟩ rfl hn hsize hst (lv_room hW) hdg hcl9) hH.2.2 (fun x _ hx => bn_free C0 hH x hx) (bn_free C0 hH) (fun u1 a1 t H1 locs1 ht hvm hw hB hz1 hk1 hS => ?_)
  obtain rfl := hw
  obtain ⟨rfl, hB⟩ := hB
  exact kk H1 locs1 (bn_back C0 hH ht hB hS)
theorem bn_si {r : Int32} (C0 : bn_C own cc nL Z A p l s m args meth c) (hH : bn_H Z A s u H locs) (hM : bn_M l Z h y cc' nL' ret as u (bn_Qi Z r w)) (Y : bn_YS C y cc' nL' ret n) (hl : Cond.methodLink own ix y ∈ al) (hR : h + 1 ≤ R.frames ∧ 8 + (nL' + 11) + 60 * h ≤ R.locals)
    (hn : as.length = n) (hsize : ls.size = nL) (hst : st0 = as.reverse ++ rest) (hW : (rest.map fun v => v.category).sum ≤ 8) (hcl9 : cells ≤ R.cells ∧ slots ≤ R.slots) (hdg : decode cc pc = .ok (.invokestatic ix, 3))
    (kk : ∀ (H1 : Heap) (locs1 : List Loc), bn_H Z A s w H1 locs1 → W p l e R s m args below meth c H1 locs1 cells slots Q (F0 m (pc + 3) ls (.int r :: rest))) : W p l e R s m args below meth c H locs cells slots Q (F0 m pc ls st0) := by
  obtain ⟨hx, hb, hown, hts, hK, hml, hA, hlocks, hX, hl0⟩ := id C0
  obtain ⟨yc, ys, yo, yn, y1, y2, yp⟩ := Y
  refine va_calli (va_runS (As := as) (rest := rest) ⟨hx, hb, hml, hown, hts⟩ (hM H.size) ⟨bn_cb hts yc yo yn y1 y2 yp hl hR, hts _ ys⟩ ⟨bn_blind, bn_start C0 hH⟩ rfl hn hsize hst (lv_room hW) hdg hcl9) hH.2.2 (fun x _ hx => bn_free C0 hH x hx) (bn_free C0 hH) (fun r1 u1 t H1 locs1 ht hvm hw hB hz1 hk1 hS => ?_)
  obtain ⟨rfl, rfl⟩ := hw
  exact kk H1 locs1 (bn_back C0 hH ht hB hS)
theorem bn_sl {r : Int64} (C0 : bn_C own cc nL Z A p l s m args meth c) (hH : bn_H Z A s u H locs) (hM : bn_M l Z h y cc' nL' ret as u (bn_Ql Z r w)) (Y : bn_YS C y cc' nL' ret n) (hl : Cond.methodLink own ix y ∈ al) (hR : h + 1 ≤ R.frames ∧ 8 + (nL' + 11) + 60 * h ≤ R.locals)
    (hn : as.length = n) (hsize : ls.size = nL) (hst : st0 = as.reverse ++ rest) (hW : (rest.map fun v => v.category).sum ≤ 8) (hcl9 : cells ≤ R.cells ∧ slots ≤ R.slots) (hdg : decode cc pc = .ok (.invokestatic ix, 3))
    (kk : ∀ (H1 : Heap) (locs1 : List Loc), bn_H Z A s w H1 locs1 → W p l e R s m args below meth c H1 locs1 cells slots Q (F0 m (pc + 3) ls (.long r :: rest))) : W p l e R s m args below meth c H locs cells slots Q (F0 m pc ls st0) := by
  obtain ⟨hx, hb, hown, hts, hK, hml, hA, hlocks, hX, hl0⟩ := id C0
  obtain ⟨yc, ys, yo, yn, y1, y2, yp⟩ := Y
  refine va_calll (va_runS (As := as) (rest := rest) ⟨hx, hb, hml, hown, hts⟩ (hM H.size) ⟨bn_cb hts yc yo yn y1 y2 yp hl hR, hts _ ys⟩ ⟨bn_blind, bn_start C0 hH⟩ rfl hn hsize hst (lv_room hW) hdg hcl9) hH.2.2 (fun x _ hx => bn_free C0 hH x hx) (bn_free C0 hH) (fun r1 u1 t H1 locs1 ht hvm hw hB hz1 hk1 hS => ?_)
  obtain ⟨rfl, rfl⟩ := hw
  exact kk H1 locs1 (bn_back C0 hH ht hB hS)
theorem bn_sv (C0 : bn_C own cc nL Z A p l s m args meth c) (hH : bn_H Z A s u H locs) (hM : bn_M l Z h y cc' nL' ret as u (bn_Qv Z w)) (Y : bn_YS C y cc' nL' ret n) (hl : Cond.methodLink own ix y ∈ al) (hR : h + 1 ≤ R.frames ∧ 8 + (nL' + 11) + 60 * h ≤ R.locals)
    (hn : as.length = n) (hsize : ls.size = nL) (hst : st0 = as.reverse ++ rest) (hW : (rest.map fun v => v.category).sum ≤ 8) (hcl9 : cells ≤ R.cells ∧ slots ≤ R.slots) (hdg : decode cc pc = .ok (.invokestatic ix, 3))
    (kk : ∀ (H1 : Heap) (locs1 : List Loc), bn_H Z A s w H1 locs1 → W p l e R s m args below meth c H1 locs1 cells slots Q (F0 m (pc + 3) ls (rest))) : W p l e R s m args below meth c H locs cells slots Q (F0 m pc ls st0) := by
  obtain ⟨hx, hb, hown, hts, hK, hml, hA, hlocks, hX, hl0⟩ := id C0
  obtain ⟨yc, ys, yo, yn, y1, y2, yp⟩ := Y
  refine va_callv (va_runS (As := as) (rest := rest) ⟨hx, hb, hml, hown, hts⟩ (hM H.size) ⟨bn_cb hts yc yo yn y1 y2 yp hl hR, hts _ ys⟩ ⟨bn_blind, bn_start C0 hH⟩ rfl hn hsize hst (lv_room hW) hdg hcl9) hH.2.2 (fun x _ hx => bn_free C0 hH x hx) (bn_free C0 hH) (fun u1 t H1 locs1 ht hvm hw hB hz1 hk1 hS => ?_)
  obtain rfl := hw
  exact kk H1 locs1 (bn_back C0 hH ht hB hS)
theorem bn_ti {r : Int32} (C0 : bn_C own cc nL Z A p l s m args meth c) (hH : bn_H Z A s u H locs) (hM : bn_M l Z h y cc' nL' ret as u (bn_Qi Z r w)) (Y : bn_YS C y cc' nL' ret n) (hl : va_Nw (.methodLinkNest own ix y host) s) (hR : h + 1 ≤ R.frames ∧ 8 + (nL' + 11) + 60 * h ≤ R.locals)
    (hn : as.length = n) (hsize : ls.size = nL) (hst : st0 = as.reverse ++ rest) (hW : (rest.map fun v => v.category).sum ≤ 8) (hcl9 : cells ≤ R.cells ∧ slots ≤ R.slots) (hdg : decode cc pc = .ok (.invokestatic ix, 3))
    (kk : ∀ (H1 : Heap) (locs1 : List Loc), bn_H Z A s w H1 locs1 → W p l e R s m args below meth c H1 locs1 cells slots Q (F0 m (pc + 3) ls (.int r :: rest))) : W p l e R s m args below meth c H locs cells slots Q (F0 m pc ls st0) := by
  obtain ⟨hx, hb, hown, hts, hK, hml, hA, hlocks, hX, hl0⟩ := id C0
  obtain ⟨yc, ys, yo, yn, y1, y2, yp⟩ := Y
  refine va_calli (va_runSN (As := as) (rest := rest) ⟨hx, hb, hml, hown, hts⟩ (hM H.size) ⟨bn_cn hts yc yo yn y1 y2 yp hl hR, hts _ ys, trivial⟩ ⟨bn_blind, bn_start C0 hH⟩ rfl hn hsize hst (lv_room hW) hdg hcl9) hH.2.2 (fun x _ hx => bn_free C0 hH x hx) (bn_free C0 hH) (fun r1 u1 t H1 locs1 ht hvm hw hB hz1 hk1 hS => ?_)
  obtain ⟨rfl, rfl⟩ := hw
  exact kk H1 locs1 (bn_back C0 hH ht hB hS)
theorem bn_tl {r : Int64} (C0 : bn_C own cc nL Z A p l s m args meth c) (hH : bn_H Z A s u H locs) (hM : bn_M l Z h y cc' nL' ret as u (bn_Ql Z r w)) (Y : bn_YS C y cc' nL' ret n) (hl : va_Nw (.methodLinkNest own ix y host) s) (hR : h + 1 ≤ R.frames ∧ 8 + (nL' + 11) + 60 * h ≤ R.locals)
    (hn : as.length = n) (hsize : ls.size = nL) (hst : st0 = as.reverse ++ rest) (hW : (rest.map fun v => v.category).sum ≤ 8) (hcl9 : cells ≤ R.cells ∧ slots ≤ R.slots) (hdg : decode cc pc = .ok (.invokestatic ix, 3))
    (kk : ∀ (H1 : Heap) (locs1 : List Loc), bn_H Z A s w H1 locs1 → W p l e R s m args below meth c H1 locs1 cells slots Q (F0 m (pc + 3) ls (.long r :: rest))) : W p l e R s m args below meth c H locs cells slots Q (F0 m pc ls st0) := by
  obtain ⟨hx, hb, hown, hts, hK, hml, hA, hlocks, hX, hl0⟩ := id C0
  obtain ⟨yc, ys, yo, yn, y1, y2, yp⟩ := Y
  refine va_calll (va_runSN (As := as) (rest := rest) ⟨hx, hb, hml, hown, hts⟩ (hM H.size) ⟨bn_cn hts yc yo yn y1 y2 yp hl hR, hts _ ys, trivial⟩ ⟨bn_blind, bn_start C0 hH⟩ rfl hn hsize hst (lv_room hW) hdg hcl9) hH.2.2 (fun x _ hx => bn_free C0 hH x hx) (bn_free C0 hH) (fun r1 u1 t H1 locs1 ht hvm hw hB hz1 hk1 hS => ?_)
  obtain ⟨rfl, rfl⟩ := hw
  exact kk H1 locs1 (bn_back C0 hH ht hB hS)
theorem bn_tv (C0 : bn_C own cc nL Z A p l s m args meth c) (hH : bn_H Z A s u H locs) (hM : bn_M l Z h y cc' nL' ret as u (bn_Qv Z w)) (Y : bn_YS C y cc' nL' ret n) (hl : va_Nw (.methodLinkNest own ix y host) s) (hR : h + 1 ≤ R.frames ∧ 8 + (nL' + 11) + 60 * h ≤ R.locals)
    (hn : as.length = n) (hsize : ls.size = nL) (hst : st0 = as.reverse ++ rest) (hW : (rest.map fun v => v.category).sum ≤ 8) (hcl9 : cells ≤ R.cells ∧ slots ≤ R.slots) (hdg : decode cc pc = .ok (.invokestatic ix, 3))
    (kk : ∀ (H1 : Heap) (locs1 : List Loc), bn_H Z A s w H1 locs1 → W p l e R s m args below meth c H1 locs1 cells slots Q (F0 m (pc + 3) ls (rest))) : W p l e R s m args below meth c H locs cells slots Q (F0 m pc ls st0) := by
  obtain ⟨hx, hb, hown, hts, hK, hml, hA, hlocks, hX, hl0⟩ := id C0
  obtain ⟨yc, ys, yo, yn, y1, y2, yp⟩ := Y
  refine va_callv (va_runSN (As := as) (rest := rest) ⟨hx, hb, hml, hown, hts⟩ (hM H.size) ⟨bn_cn hts yc yo yn y1 y2 yp hl hR, hts _ ys, trivial⟩ ⟨bn_blind, bn_start C0 hH⟩ rfl hn hsize hst (lv_room hW) hdg hcl9) hH.2.2 (fun x _ hx => bn_free C0 hH x hx) (bn_free C0 hH) (fun u1 t H1 locs1 ht hvm hw hB hz1 hk1 hS => ?_)
  obtain rfl := hw
  exact kk H1 locs1 (bn_back C0 hH ht hB hS)
theorem bn_aret {J r : Nat} {w w' : bS} {ty : FieldType} {a : Nat} (ha : a = w.1 J) (C0 : bn_C own cc nL Z A p l s m args meth c) (hr : meth.sig.returnType = some ty) (hty : (∃ n, ty = .object n) ∨ ∃ t, ty = .array t) (hH : bn_H Z A s w H locs) (hdg : decode cc pc = .ok (.areturn, 1)) (hh : some (J, w) = some (r, w')) :
    W p l e R s m args below meth c H locs 0 0 (MQ below (bn_Qr Z r w' A) args s 0 0 A) (F0 m pc ls [.ref a]) := by
  obtain ⟨hx, hb, hown, hts, hK, -, hA, hlocks, -⟩ := C0
  obtain ⟨hP, hD, hS⟩ := hH
  cases hh
  subst ha
  exact W.aret hx hb hr hty (Or.inr ⟨_, rfl⟩) (fun t ht hW => ⟨⟨w, _, rfl, rfl, rfl, by rw [ht]; exact hP, va_K.moved hW.alike hK, hD⟩, hS.F ht⟩) hS.2.2 hdg hlocks
end BNC
