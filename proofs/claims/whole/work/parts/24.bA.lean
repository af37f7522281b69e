/-! methods of the class that neither throw nor make (by program: wip/gen/allb.py): clear size at items isEnded error end caught endAs size add cleared opAt choiceAt firstPart secondPart thirdPart partsOf endOf isRight isBelow count takes kindOf lengthOf sizeOf wholeOf scaleOf letterAt itemAt nameAt hasParts -/
def f_R_clear (g : Nat → Nat) (v : mS) (j : Nat) : Option (mS) := gd (rowB j) (nm (sU v j 1 0) fun v_1 => nm (sU v_1 j 2 (-1)) fun v_2 => some v_2)
set_option maxHeartbeats 4000000 in
set_option maxRecDepth 100000 in
theorem c_R_clear {l : Launch} {Z : bZ} {q g : Nat → Nat} (hl0 : l.stackTraces = false) {v : mS} {j : Nat}  {o : mS} (h : f_R_clear g v j = some o) : bn_M l Z 0 y_R_clear b_R_clear 1 none [.ref (q j)] (q, g, v) (bn_Qv Z (q, g, o)) := by
  refine bn_of hl0 (by decide +kernel) (Nat.le_of_ble_eq_true rfl) ?_
  intro p e s m below meth c A ls C0 hr hl hH
  have hx := C0.1
  have hb := C0.2.1
  have C0 : bn_C "FilterBench$Row" b_R_clear 1 Z A p l s m _ meth c := C0
  have hl : lv_has ls 1 [(0, .ref (q j))] := hl
  unfold f_R_clear at h
  obtain ⟨hgj, h⟩ := gd_out h
  refine lv_aload_n hx hb d_R_clear_0 rfl (lv_at hl 0 rfl) ?_
  refine lv_iconst (v := 0) hx hb d_R_clear_1 (by decide) ?_
  obtain ⟨v_1, hv_1, h⟩ := nm_out h
  refine bn_p_R_size (rowB_k hgj) C0 hH d_R_clear_2 (fun H locs hH => ?_)
  have hH : bn_H Z A s (q, g, v_1) H locs := by rw [hv_1]; exact hH
  refine lv_aload_n hx hb d_R_clear_5 rfl (lv_at hl 0 rfl) ?_
  refine lv_iconst (v := (-1)) hx hb d_R_clear_6 (by decide) ?_
  obtain ⟨v_2, hv_2, h⟩ := nm_out h
  refine bn_p_R_error (rowB_k hgj) C0 hH d_R_clear_7 (fun H locs hH => ?_)
  have hH : bn_H Z A s (q, g, v_2) H locs := by rw [hv_2]; exact hH
  exact bn_vret C0 hr hH d_R_clear_10 (pw1 h)
def f_R_size (g : Nat → Nat) (v : mS) (j : Nat) : Option (Int32 × mS) := gd (rowB j) (some (v j 1, v))
set_option maxHeartbeats 4000000 in
set_option maxRecDepth 100000 in
theorem c_R_size {l : Launch} {Z : bZ} {q g : Nat → Nat} (hl0 : l.stackTraces = false) {v : mS} {j : Nat}  {o : Int32 × mS} (h : f_R_size g v j = some o) : bn_M l Z 0 y_R_size b_R_size 1 (some .int) [.ref (q j)] (q, g, v) (bn_Qi Z o.1 (q, g, o.2)) := by
  refine bn_of hl0 (by decide +kernel) (Nat.le_of_ble_eq_true rfl) ?_
  intro p e s m below meth c A ls C0 hr hl hH
  have hx := C0.1
  have hb := C0.2.1
  have C0 : bn_C "FilterBench$Row" b_R_size 1 Z A p l s m _ meth c := C0
  have hl : lv_has ls 1 [(0, .ref (q j))] := hl
  unfold f_R_size at h
  obtain ⟨hgj, h⟩ := gd_out h
  refine lv_aload_n hx hb d_R_size_0 rfl (lv_at hl 0 rfl) ?_
  refine bn_g_R_size (rowB_k hgj) C0 hH d_R_size_1 ?_
  exact bn_iret C0 hr hH d_R_size_4 (pq h)
def f_R_at (g : Nat → Nat) (v : mS) (j : Nat) (x1 : Int32) : Option (Int32 × mS) := gd (rowB j) (gd (inB x1 16) (some (v (j + 1) (x1 : Int32).toNatClampNeg, v)))
set_option maxHeartbeats 4000000 in
set_option maxRecDepth 100000 in
theorem c_R_at {l : Launch} {Z : bZ} {q g : Nat → Nat} (hl0 : l.stackTraces = false) {v : mS} {j : Nat} {x1 : Int32} {o : Int32 × mS} (h : f_R_at g v j x1 = some o) : bn_M l Z 0 y_R_at b_R_at 2 (some .int) [.ref (q j), .int x1] (q, g, v) (bn_Qi Z o.1 (q, g, o.2)) := by
  refine bn_of hl0 (by decide +kernel) (Nat.le_of_ble_eq_true rfl) ?_
  intro p e s m below meth c A ls C0 hr hl hH
  have hx := C0.1
  have hb := C0.2.1
  have C0 : bn_C "FilterBench$Row" b_R_at 2 Z A p l s m _ meth c := C0
  have hl : lv_has ls 2 [(0, .ref (q j)), (1, .int x1)] := hl
  unfold f_R_at at h
  obtain ⟨hgj, h⟩ := gd_out h
  refine lv_aload_n hx hb d_R_at_0 rfl (lv_at hl 0 rfl) ?_
  refine bn_g_R_items (rowB_k hgj) C0 hH d_R_at_1 ?_
  refine lv_iload_n hx hb d_R_at_4 rfl (lv_at hl 1 rfl) ?_
  obtain ⟨g_1, h⟩ := gd_out h
  refine bn_ld (row_items hgj) C0 hH (by rw [row_len hgj]; exact (inB_in g_1)) d_R_at_5 ?_
  exact bn_iret C0 hr hH d_R_at_6 (pq h)
def f_R_items (g : Nat → Nat) (v : mS) (j : Nat) : Option (Nat × mS) := gd (rowB j) (some ((j + 1), v))
set_option maxHeartbeats 4000000 in
set_option maxRecDepth 100000 in
theorem c_R_items {l : Launch} {Z : bZ} {q g : Nat → Nat} (hl0 : l.stackTraces = false) {v : mS} {j : Nat}  {o : Nat × mS} (h : f_R_items g v j = some o) : bn_M l Z 0 y_R_items b_R_items 1 (some (.array .int)) [.ref (q j)] (q, g, v) (bn_Qr Z o.1 (q, g, o.2)) := by
  refine bn_of hl0 (by decide +kernel) (Nat.le_of_ble_eq_true rfl) ?_
  intro p e s m below meth c A ls C0 hr hl hH
  have hx := C0.1
  have hb := C0.2.1
  have C0 : bn_C "FilterBench$Row" b_R_items 1 Z A p l s m _ meth c := C0
  have hl : lv_has ls 1 [(0, .ref (q j))] := hl
  unfold f_R_items at h
  obtain ⟨hgj, h⟩ := gd_out h
  refine lv_aload_n hx hb d_R_items_0 rfl (lv_at hl 0 rfl) ?_
  refine bn_g_R_items (rowB_k hgj) C0 hH d_R_items_1 ?_
  exact bn_aret rfl C0 hr (Or.inr ⟨_, rfl⟩) hH d_R_items_4 (pq h)
def f_R_isEnded_13 (g : Nat → Nat)  (y0 : Int32) (v : mS) : Option (Int32 × mS) := gd (decide (y0 = 0 ∨ y0 = 1)) (some (y0, v))
set_option maxHeartbeats 4000000 in
set_option maxRecDepth 100000 in
theorem w_R_isEnded_13 {p : Program} {l : Launch} {e : Env} {s : State} {m : MethodId} {args : Array Value} {below : List Frame} {meth : Method} {c : Code} {Z : bZ} {A : Nat → Prop} {q g : Nat → Nat} {o : Int32 × mS}  (C0 : bn_C "FilterBench$Row" b_R_isEnded 1 Z A p l s m args meth c) (hr : meth.sig.returnType = (some .boolean)) : ∀ (y0 : Int32) (v : mS) (H : Heap) (locs : List Loc) (ls : Array Slot), f_R_isEnded_13 g  y0 v = some o → bn_H Z A s (q, g, v) H locs → lv_has ls 1 [] → W p l e (mo_rm 0) s m args below meth c H locs 0 0 (MQ below (bn_Qi Z o.1 (q, g, o.2) A) args s 0 0 A) (F0 m 13 ls [.int y0]) := by
  have hx := C0.1
  have hb := C0.2.1
  have hl0 := C0.2.2.2.2.2.2.2.2.2
  intro y0 v H locs ls h hH hl
  unfold f_R_isEnded_13 at h
  obtain ⟨g_1, h⟩ := gd_out h
  exact bn_zret (z01 g_1) C0 hr hH d_R_isEnded_13 (pq h)
def f_R_isEnded (g : Nat → Nat) (v : mS) (j : Nat) : Option (Int32 × mS) := gd (rowB j) (if (v j 2) = (-1) then (f_R_isEnded_13 g 0 v) else (f_R_isEnded_13 g 1 v))
set_option maxHeartbeats 4000000 in
set_option maxRecDepth 100000 in
theorem c_R_isEnded {l : Launch} {Z : bZ} {q g : Nat → Nat} (hl0 : l.stackTraces = false) {v : mS} {j : Nat}  {o : Int32 × mS} (h : f_R_isEnded g v j = some o) : bn_M l Z 0 y_R_isEnded b_R_isEnded 1 (some .boolean) [.ref (q j)] (q, g, v) (bn_Qi Z o.1 (q, g, o.2)) := by
  refine bn_of hl0 (by decide +kernel) (Nat.le_of_ble_eq_true rfl) ?_
  intro p e s m below meth c A ls C0 hr hl hH
  have hx := C0.1
  have hb := C0.2.1
  have C0 : bn_C "FilterBench$Row" b_R_isEnded 1 Z A p l s m _ meth c := C0
  have hl : lv_has ls 1 [(0, .ref (q j))] := hl
  unfold f_R_isEnded at h
  obtain ⟨hgj, h⟩ := gd_out h
  refine lv_aload_n hx hb d_R_isEnded_0 rfl (lv_at hl 0 rfl) ?_
  refine bn_g_R_error (rowB_k hgj) C0 hH d_R_isEnded_1 ?_
  refine lv_iconst (v := (-1)) hx hb d_R_isEnded_4 (by decide) ?_
  refine lv_icmp_eq (tgt := 12) hx hb d_R_isEnded_5 (by decide) (fun c_1 => ?_) (fun c_1 => ?_)
  · rw [if_pos c_1] at h
    refine lv_iconst (v := 0) hx hb d_R_isEnded_12 (by decide) ?_
    exact w_R_isEnded_13 C0 hr  _ _ _ _ _ h hH (lv_sub hl [] rfl)
  · rw [if_neg c_1] at h
    refine lv_iconst (v := 1) hx hb d_R_isEnded_8 (by decide) ?_
    refine lv_goto (tgt := 13) hx hb d_R_isEnded_9 (by decide) ?_
    exact w_R_isEnded_13 C0 hr  _ _ _ _ _ h hH (lv_sub hl [] rfl)
def f_R_error (g : Nat → Nat) (v : mS) (j : Nat) : Option (Int32 × mS) := gd (rowB j) (some (v j 2, v))
set_option maxHeartbeats 4000000 in
set_option maxRecDepth 100000 in
theorem c_R_error {l : Launch} {Z : bZ} {q g : Nat → Nat} (hl0 : l.stackTraces = false) {v : mS} {j : Nat}  {o : Int32 × mS} (h : f_R_error g v j = some o) : bn_M l Z 0 y_R_error b_R_error 1 (some .int) [.ref (q j)] (q, g, v) (bn_Qi Z o.1 (q, g, o.2)) := by
  refine bn_of hl0 (by decide +kernel) (Nat.le_of_ble_eq_true rfl) ?_
  intro p e s m below meth c A ls C0 hr hl hH
  have hx := C0.1
  have hb := C0.2.1
  have C0 : bn_C "FilterBench$Row" b_R_error 1 Z A p l s m _ meth c := C0
  have hl : lv_has ls 1 [(0, .ref (q j))] := hl
  unfold f_R_error at h
  obtain ⟨hgj, h⟩ := gd_out h
  refine lv_aload_n hx hb d_R_error_0 rfl (lv_at hl 0 rfl) ?_
  refine bn_g_R_error (rowB_k hgj) C0 hH d_R_error_1 ?_
  exact bn_iret C0 hr hH d_R_error_4 (pq h)
def f_R_end (g : Nat → Nat) (v : mS) (j : Nat) (x1 : Int32) : Option (mS) := gd (rowB j) (nm (sU v j 2 x1) fun v_1 => some v_1)
set_option maxHeartbeats 4000000 in
set_option maxRecDepth 100000 in
theorem c_R_end {l : Launch} {Z : bZ} {q g : Nat → Nat} (hl0 : l.stackTraces = false) {v : mS} {j : Nat} {x1 : Int32} {o : mS} (h : f_R_end g v j x1 = some o) : bn_M l Z 0 y_R_end b_R_end 2 none [.ref (q j), .int x1] (q, g, v) (bn_Qv Z (q, g, o)) := by
  refine bn_of hl0 (by decide +kernel) (Nat.le_of_ble_eq_true rfl) ?_
  intro p e s m below meth c A ls C0 hr hl hH
  have hx := C0.1
  have hb := C0.2.1
  have C0 : bn_C "FilterBench$Row" b_R_end 2 Z A p l s m _ meth c := C0
  have hl : lv_has ls 2 [(0, .ref (q j)), (1, .int x1)] := hl
  unfold f_R_end at h
  obtain ⟨hgj, h⟩ := gd_out h
  refine lv_aload_n hx hb d_R_end_0 rfl (lv_at hl 0 rfl) ?_
  refine lv_iload_n hx hb d_R_end_1 rfl (lv_at hl 1 rfl) ?_
  obtain ⟨v_1, hv_1, h⟩ := nm_out h
  refine bn_p_R_error (rowB_k hgj) C0 hH d_R_end_2 (fun H locs hH => ?_)
  have hH : bn_H Z A s (q, g, v_1) H locs := by rw [hv_1]; exact hH
  exact bn_vret C0 hr hH d_R_end_5 (pw1 h)
def f_R_caught (g : Nat → Nat) (v : mS) (j : Nat) : Option (Int32 × mS) := gd (rowB j) (nm (v j 2) fun x1_1 => nm (sU v j 2 (-1)) fun v_2 => some (x1_1, v_2))
set_option maxHeartbeats 4000000 in
set_option maxRecDepth 100000 in
theorem c_R_caught {l : Launch} {Z : bZ} {q g : Nat → Nat} (hl0 : l.stackTraces = false) {v : mS} {j : Nat}  {o : Int32 × mS} (h : f_R_caught g v j = some o) : bn_M l Z 0 y_R_caught b_R_caught 2 (some .int) [.ref (q j)] (q, g, v) (bn_Qi Z o.1 (q, g, o.2)) := by
  refine bn_of hl0 (by decide +kernel) (Nat.le_of_ble_eq_true rfl) ?_
  intro p e s m below meth c A ls C0 hr hl hH
  have hx := C0.1
  have hb := C0.2.1
  have C0 : bn_C "FilterBench$Row" b_R_caught 2 Z A p l s m _ meth c := C0
  have hl : lv_has ls 2 [(0, .ref (q j))] := hl
  unfold f_R_caught at h
  obtain ⟨hgj, h⟩ := gd_out h
  refine lv_aload_n hx hb d_R_caught_0 rfl (lv_at hl 0 rfl) ?_
  refine bn_g_R_error (rowB_k hgj) C0 hH d_R_caught_1 ?_
  obtain ⟨x1_1, hx1_1, h⟩ := nm_out h
  refine fu_i hx1_1 ?_
  refine lv_istore_n (lv' := [(1, .int x1_1), (0, .ref (q j))]) hx hb d_R_caught_4 rfl hl (by decide) rfl (fun ls hl => ?_)
  refine lv_aload_n hx hb d_R_caught_5 rfl (lv_at hl 1 rfl) ?_
  refine lv_iconst (v := (-1)) hx hb d_R_caught_6 (by decide) ?_
  obtain ⟨v_2, hv_2, h⟩ := nm_out h
  refine bn_p_R_error (rowB_k hgj) C0 hH d_R_caught_7 (fun H locs hH => ?_)
  have hH : bn_H Z A s (q, g, v_2) H locs := by rw [hv_2]; exact hH
  refine lv_iload_n hx hb d_R_caught_10 rfl (lv_at hl 0 rfl) ?_
  exact bn_iret C0 hr hH d_R_caught_11 (pq h)
def f_R_endAs_15 (g : Nat → Nat)   (v : mS) : Option (mS) := some v
set_option maxHeartbeats 4000000 in
set_option maxRecDepth 100000 in
theorem w_R_endAs_15 {p : Program} {l : Launch} {e : Env} {s : State} {m : MethodId} {args : Array Value} {below : List Frame} {meth : Method} {c : Code} {Z : bZ} {A : Nat → Prop} {q g : Nat → Nat} {o : mS}  (C0 : bn_C "FilterBench$Row" b_R_endAs 2 Z A p l s m args meth c) (hr : meth.sig.returnType = none) : ∀  (v : mS) (H : Heap) (locs : List Loc) (ls : Array Slot), f_R_endAs_15 g   v = some o → bn_H Z A s (q, g, v) H locs → lv_has ls 2 [] → W p l e (mo_rm 1) s m args below meth c H locs 0 0 (MQ below (bn_Qv Z (q, g, o) A) args s 0 0 A) (F0 m 15 ls []) := by
  have hx := C0.1
  have hb := C0.2.1
  have hl0 := C0.2.2.2.2.2.2.2.2.2
  intro  v H locs ls h hH hl
  unfold f_R_endAs_15 at h
  exact bn_vret C0 hr hH d_R_endAs_15 (pw1 h)
def f_R_endAs (g : Nat → Nat) (v : mS) (j : Nat) (x1 : Nat) : Option (mS) := gd (rowB j) (gd (rowB x1) (bi (f_R_isEnded g v j) fun r_3 v_1 => if r_3 = 0 then (nm (sU v_1 j 2 (v_1 x1 2)) fun v_5 => f_R_endAs_15 g v_5) else (f_R_endAs_15 g v_1)))
set_option maxHeartbeats 4000000 in
set_option maxRecDepth 100000 in
theorem c_R_endAs {l : Launch} {Z : bZ} {q g : Nat → Nat} (hl0 : l.stackTraces = false) {v : mS} {j : Nat} {x1 : Nat} {o : mS} (h : f_R_endAs g v j x1 = some o) : bn_M l Z 1 y_R_endAs b_R_endAs 2 none [.ref (q j), .ref (q x1)] (q, g, v) (bn_Qv Z (q, g, o)) := by
  refine bn_of hl0 (by decide +kernel) (Nat.le_of_ble_eq_true rfl) ?_
  intro p e s m below meth c A ls C0 hr hl hH
  have hx := C0.1
  have hb := C0.2.1
  have C0 : bn_C "FilterBench$Row" b_R_endAs 2 Z A p l s m _ meth c := C0
  have hl : lv_has ls 2 [(0, .ref (q j)), (1, .ref (q x1))] := hl
  unfold f_R_endAs at h
  obtain ⟨hgj, h⟩ := gd_out h
  obtain ⟨hgx1, h⟩ := gd_out h
  refine lv_aload_n hx hb d_R_endAs_0 rfl (lv_at hl 0 rfl) ?_
  obtain ⟨r_3, v_1, hc_2, h⟩ := bi_out h
  refine bn_ci (r := r_3) (w := (q, g, v_1)) (as := []) (rest := []) C0 hH (ci := 2) (rowB_k hgj) (by decide) rfl (c_R_isEnded hl0 hc_2) yy_R_isEnded q_608 (by decide) rfl hl.1 rfl (Nat.le_of_ble_eq_true rfl) ⟨Nat.zero_le _, Nat.zero_le _⟩ d_R_endAs_1 (fun H locs hH => ?_)
  refine lv_if_ne (tgt := 15) hx hb d_R_endAs_4 (by decide) (fun c_4 => ?_) (fun c_4 => ?_)
  · rw [if_neg c_4] at h
    exact w_R_endAs_15 C0 hr   _ _ _ _ h hH (lv_sub hl [] rfl)
  · rw [if_pos c_4] at h
    refine lv_aload_n hx hb d_R_endAs_7 rfl (lv_at hl 0 rfl) ?_
    refine lv_aload_n hx hb d_R_endAs_8 rfl (lv_at hl 1 rfl) ?_
    refine bn_g_R_error (rowB_k hgx1) C0 hH d_R_endAs_9 ?_
    obtain ⟨v_5, hv_5, h⟩ := nm_out h
    refine bn_p_R_error (rowB_k hgj) C0 hH d_R_endAs_12 (fun H locs hH => ?_)
    have hH : bn_H Z A s (q, g, v_5) H locs := by rw [hv_5]; exact hH
    exact w_R_endAs_15 C0 hr   _ _ _ _ h hH (lv_sub hl [] rfl)
def f_F_size (g : Nat → Nat) (v : mS) (j : Nat) : Option (Int32 × mS) := gd (filB j) (some (v j 3, v))
set_option maxHeartbeats 4000000 in
set_option maxRecDepth 100000 in
theorem c_F_size {l : Launch} {Z : bZ} {q g : Nat → Nat} (hl0 : l.stackTraces = false) {v : mS} {j : Nat}  {o : Int32 × mS} (h : f_F_size g v j = some o) : bn_M l Z 0 y_F_size b_F_size 1 (some .int) [.ref (q j)] (q, g, v) (bn_Qi Z o.1 (q, g, o.2)) := by
  refine bn_of hl0 (by decide +kernel) (Nat.le_of_ble_eq_true rfl) ?_
  intro p e s m below meth c A ls C0 hr hl hH
  have hx := C0.1
  have hb := C0.2.1
  have C0 : bn_C "FilterBench$Filter" b_F_size 1 Z A p l s m _ meth c := C0
  have hl : lv_has ls 1 [(0, .ref (q j))] := hl
  unfold f_F_size at h
  obtain ⟨hgj, h⟩ := gd_out h
  refine lv_aload_n hx hb d_F_size_0 rfl (lv_at hl 0 rfl) ?_
  refine bn_g_F_size (filB_k hgj) C0 hH d_F_size_1 ?_
  exact bn_iret C0 hr hH d_F_size_4 (pq h)
def f_F_add (g : Nat → Nat) (v : mS) (j : Nat) (x1 : Int32) (x2 : Int32) : Option (mS) := gd (filB j) (gd (inB (v j 3) 32) (nm (sU v (j + 1) (v j 3 : Int32).toNatClampNeg x1) fun v_2 => gd (inB (v_2 j 3) 32) (nm (sU v_2 (j + 2) (v_2 j 3 : Int32).toNatClampNeg x2) fun v_4 => nm (sU v_4 j 3 ((v_4 j 3) + 1)) fun v_5 => some v_5)))
set_option maxHeartbeats 4000000 in
set_option maxRecDepth 100000 in
theorem c_F_add {l : Launch} {Z : bZ} {q g : Nat → Nat} (hl0 : l.stackTraces = false) {v : mS} {j : Nat} {x1 : Int32} {x2 : Int32} {o : mS} (h : f_F_add g v j x1 x2 = some o) : bn_M l Z 0 y_F_add b_F_add 3 none [.ref (q j), .int x1, .int x2] (q, g, v) (bn_Qv Z (q, g, o)) := by
  refine bn_of hl0 (by decide +kernel) (Nat.le_of_ble_eq_true rfl) ?_
  intro p e s m below meth c A ls C0 hr hl hH
  have hx := C0.1
  have hb := C0.2.1
  have C0 : bn_C "FilterBench$Filter" b_F_add 3 Z A p l s m _ meth c := C0
  have hl : lv_has ls 3 [(0, .ref (q j)), (1, .int x1), (2, .int x2)] := hl
  unfold f_F_add at h
  obtain ⟨hgj, h⟩ := gd_out h
  refine lv_aload_n hx hb d_F_add_0 rfl (lv_at hl 0 rfl) ?_
  refine bn_g_F_ops (filB_k hgj) C0 hH d_F_add_1 ?_
  refine lv_aload_n hx hb d_F_add_4 rfl (lv_at hl 0 rfl) ?_
  refine bn_g_F_size (filB_k hgj) C0 hH d_F_add_5 ?_
  refine lv_iload_n hx hb d_F_add_8 rfl (lv_at hl 1 rfl) ?_
  obtain ⟨g_1, h⟩ := gd_out h
  obtain ⟨v_2, hv_2, h⟩ := nm_out h
  refine bn_sto (fil_arr hgj (by decide) (by decide)) C0 hH (by rw [fil_len hgj (by decide) (by decide)]; exact (inB_in g_1)) d_F_add_9 (fun H locs hH => ?_)
  have hH : bn_H Z A s (q, g, v_2) H locs := by rw [hv_2]; exact hH
  refine lv_aload_n hx hb d_F_add_10 rfl (lv_at hl 0 rfl) ?_
  refine bn_g_F_choices (filB_k hgj) C0 hH d_F_add_11 ?_
  refine lv_aload_n hx hb d_F_add_14 rfl (lv_at hl 0 rfl) ?_
  refine bn_g_F_size (filB_k hgj) C0 hH d_F_add_15 ?_
  refine lv_iload_n hx hb d_F_add_18 rfl (lv_at hl 2 rfl) ?_
  obtain ⟨g_3, h⟩ := gd_out h
  obtain ⟨v_4, hv_4, h⟩ := nm_out h
  refine bn_sto (fil_arr hgj (by decide) (by decide)) C0 hH (by rw [fil_len hgj (by decide) (by decide)]; exact (inB_in g_3)) d_F_add_19 (fun H locs hH => ?_)
  have hH : bn_H Z A s (q, g, v_4) H locs := by rw [hv_4]; exact hH
  refine lv_aload_n hx hb d_F_add_20 rfl (lv_at hl 0 rfl) ?_
  refine lv_dup hx hb d_F_add_21 rfl ?_
  refine bn_g_F_size (filB_k hgj) C0 hH d_F_add_22 ?_
  refine lv_iconst (v := 1) hx hb d_F_add_25 (by decide) ?_
  refine lv_iadd hx hb d_F_add_26 ?_
  obtain ⟨v_5, hv_5, h⟩ := nm_out h
  refine bn_p_F_size (filB_k hgj) C0 hH d_F_add_27 (fun H locs hH => ?_)
  have hH : bn_H Z A s (q, g, v_5) H locs := by rw [hv_5]; exact hH
  exact bn_vret C0 hr hH d_F_add_30 (pw1 h)
def f_F_cleared (g : Nat → Nat) (v : mS) (j : Nat) : Option (Int32 × mS) := gd (filB j) (nm (v j 3) fun x1_1 => nm (sU v j 3 0) fun v_2 => some (x1_1, v_2))
set_option maxHeartbeats 4000000 in
set_option maxRecDepth 100000 in
theorem c_F_cleared {l : Launch} {Z : bZ} {q g : Nat → Nat} (hl0 : l.stackTraces = false) {v : mS} {j : Nat}  {o : Int32 × mS} (h : f_F_cleared g v j = some o) : bn_M l Z 0 y_F_cleared b_F_cleared 2 (some .int) [.ref (q j)] (q, g, v) (bn_Qi Z o.1 (q, g, o.2)) := by
  refine bn_of hl0 (by decide +kernel) (Nat.le_of_ble_eq_true rfl) ?_
  intro p e s m below meth c A ls C0 hr hl hH
  have hx := C0.1
  have hb := C0.2.1
  have C0 : bn_C "FilterBench$Filter" b_F_cleared 2 Z A p l s m _ meth c := C0
  have hl : lv_has ls 2 [(0, .ref (q j))] := hl
  unfold f_F_cleared at h
  obtain ⟨hgj, h⟩ := gd_out h
  refine lv_aload_n hx hb d_F_cleared_0 rfl (lv_at hl 0 rfl) ?_
  refine bn_g_F_size (filB_k hgj) C0 hH d_F_cleared_1 ?_
  obtain ⟨x1_1, hx1_1, h⟩ := nm_out h
  refine fu_i hx1_1 ?_
  refine lv_istore_n (lv' := [(1, .int x1_1), (0, .ref (q j))]) hx hb d_F_cleared_4 rfl hl (by decide) rfl (fun ls hl => ?_)
  refine lv_aload_n hx hb d_F_cleared_5 rfl (lv_at hl 1 rfl) ?_
  refine lv_iconst (v := 0) hx hb d_F_cleared_6 (by decide) ?_
  obtain ⟨v_2, hv_2, h⟩ := nm_out h
  refine bn_p_F_size (filB_k hgj) C0 hH d_F_cleared_7 (fun H locs hH => ?_)
  have hH : bn_H Z A s (q, g, v_2) H locs := by rw [hv_2]; exact hH
  refine lv_iload_n hx hb d_F_cleared_10 rfl (lv_at hl 0 rfl) ?_
  exact bn_iret C0 hr hH d_F_cleared_11 (pq h)
def f_F_opAt (g : Nat → Nat) (v : mS) (j : Nat) (x1 : Int32) : Option (Int32 × mS) := gd (filB j) (gd (inB x1 32) (some (v (j + 1) (x1 : Int32).toNatClampNeg, v)))
set_option maxHeartbeats 4000000 in
set_option maxRecDepth 100000 in
theorem c_F_opAt {l : Launch} {Z : bZ} {q g : Nat → Nat} (hl0 : l.stackTraces = false) {v : mS} {j : Nat} {x1 : Int32} {o : Int32 × mS} (h : f_F_opAt g v j x1 = some o) : bn_M l Z 0 y_F_opAt b_F_opAt 2 (some .int) [.ref (q j), .int x1] (q, g, v) (bn_Qi Z o.1 (q, g, o.2)) := by
  refine bn_of hl0 (by decide +kernel) (Nat.le_of_ble_eq_true rfl) ?_
  intro p e s m below meth c A ls C0 hr hl hH
  have hx := C0.1
  have hb := C0.2.1
  have C0 : bn_C "FilterBench$Filter" b_F_opAt 2 Z A p l s m _ meth c := C0
  have hl : lv_has ls 2 [(0, .ref (q j)), (1, .int x1)] := hl
  unfold f_F_opAt at h
  obtain ⟨hgj, h⟩ := gd_out h
  refine lv_aload_n hx hb d_F_opAt_0 rfl (lv_at hl 0 rfl) ?_
  refine bn_g_F_ops (filB_k hgj) C0 hH d_F_opAt_1 ?_
  refine lv_iload_n hx hb d_F_opAt_4 rfl (lv_at hl 1 rfl) ?_
  obtain ⟨g_1, h⟩ := gd_out h
  refine bn_ld (fil_arr hgj (by decide) (by decide)) C0 hH (by rw [fil_len hgj (by decide) (by decide)]; exact (inB_in g_1)) d_F_opAt_5 ?_
  exact bn_iret C0 hr hH d_F_opAt_6 (pq h)
def f_F_choiceAt (g : Nat → Nat) (v : mS) (j : Nat) (x1 : Int32) : Option (Int32 × mS) := gd (filB j) (gd (inB x1 32) (some (v (j + 2) (x1 : Int32).toNatClampNeg, v)))
set_option maxHeartbeats 4000000 in
set_option maxRecDepth 100000 in
theorem c_F_choiceAt {l : Launch} {Z : bZ} {q g : Nat → Nat} (hl0 : l.stackTraces = false) {v : mS} {j : Nat} {x1 : Int32} {o : Int32 × mS} (h : f_F_choiceAt g v j x1 = some o) : bn_M l Z 0 y_F_choiceAt b_F_choiceAt 2 (some .int) [.ref (q j), .int x1] (q, g, v) (bn_Qi Z o.1 (q, g, o.2)) := by
  refine bn_of hl0 (by decide +kernel) (Nat.le_of_ble_eq_true rfl) ?_
  intro p e s m below meth c A ls C0 hr hl hH
  have hx := C0.1
  have hb := C0.2.1
  have C0 : bn_C "FilterBench$Filter" b_F_choiceAt 2 Z A p l s m _ meth c := C0
  have hl : lv_has ls 2 [(0, .ref (q j)), (1, .int x1)] := hl
  unfold f_F_choiceAt at h
  obtain ⟨hgj, h⟩ := gd_out h
  refine lv_aload_n hx hb d_F_choiceAt_0 rfl (lv_at hl 0 rfl) ?_
  refine bn_g_F_choices (filB_k hgj) C0 hH d_F_choiceAt_1 ?_
  refine lv_iload_n hx hb d_F_choiceAt_4 rfl (lv_at hl 1 rfl) ?_
  obtain ⟨g_1, h⟩ := gd_out h
  refine bn_ld (fil_arr hgj (by decide) (by decide)) C0 hH (by rw [fil_len hgj (by decide) (by decide)]; exact (inB_in g_1)) d_F_choiceAt_5 ?_
  exact bn_iret C0 hr hH d_F_choiceAt_6 (pq h)
def f_F_firstPart (g : Nat → Nat) (v : mS) (j : Nat) (x1 : Int32) : Option (Int32 × mS) := gd (filB j) (some (x1 + 1, v))
set_option maxHeartbeats 4000000 in
set_option maxRecDepth 100000 in
theorem c_F_firstPart {l : Launch} {Z : bZ} {q g : Nat → Nat} (hl0 : l.stackTraces = false) {v : mS} {j : Nat} {x1 : Int32} {o : Int32 × mS} (h : f_F_firstPart g v j x1 = some o) : bn_M l Z 0 y_F_firstPart b_F_firstPart 2 (some .int) [.ref (q j), .int x1] (q, g, v) (bn_Qi Z o.1 (q, g, o.2)) := by
  refine bn_of hl0 (by decide +kernel) (Nat.le_of_ble_eq_true rfl) ?_
  intro p e s m below meth c A ls C0 hr hl hH
  have hx := C0.1
  have hb := C0.2.1
  have C0 : bn_C "FilterBench$Filter" b_F_firstPart 2 Z A p l s m _ meth c := C0
  have hl : lv_has ls 2 [(0, .ref (q j)), (1, .int x1)] := hl
  unfold f_F_firstPart at h
  obtain ⟨hgj, h⟩ := gd_out h
  refine lv_iload_n hx hb d_F_firstPart_0 rfl (lv_at hl 1 rfl) ?_
  refine lv_iconst (v := 1) hx hb d_F_firstPart_1 (by decide) ?_
  refine lv_iadd hx hb d_F_firstPart_2 ?_
  exact bn_iret C0 hr hH d_F_firstPart_3 (pq h)
def f_F_secondPart (g : Nat → Nat) (v : mS) (j : Nat) (x1 : Int32) : Option (Int32 × mS) := gd (filB j) (gd (inB (x1 + 1) 32) (some (v (j + 3) (x1 + 1 : Int32).toNatClampNeg, v)))
set_option maxHeartbeats 4000000 in
set_option maxRecDepth 100000 in
theorem c_F_secondPart {l : Launch} {Z : bZ} {q g : Nat → Nat} (hl0 : l.stackTraces = false) {v : mS} {j : Nat} {x1 : Int32} {o : Int32 × mS} (h : f_F_secondPart g v j x1 = some o) : bn_M l Z 0 y_F_secondPart b_F_secondPart 2 (some .int) [.ref (q j), .int x1] (q, g, v) (bn_Qi Z o.1 (q, g, o.2)) := by
  refine bn_of hl0 (by decide +kernel) (Nat.le_of_ble_eq_true rfl) ?_
  intro p e s m below meth c A ls C0 hr hl hH
  have hx := C0.1
  have hb := C0.2.1
  have C0 : bn_C "FilterBench$Filter" b_F_secondPart 2 Z A p l s m _ meth c := C0
  have hl : lv_has ls 2 [(0, .ref (q j)), (1, .int x1)] := hl
  unfold f_F_secondPart at h
  obtain ⟨hgj, h⟩ := gd_out h
  refine lv_aload_n hx hb d_F_secondPart_0 rfl (lv_at hl 0 rfl) ?_
  refine bn_g_F_ends (filB_k hgj) C0 hH d_F_secondPart_1 ?_
  refine lv_iload_n hx hb d_F_secondPart_4 rfl (lv_at hl 1 rfl) ?_
  refine lv_iconst (v := 1) hx hb d_F_secondPart_5 (by decide) ?_
  refine lv_iadd hx hb d_F_secondPart_6 ?_
  obtain ⟨g_1, h⟩ := gd_out h
  refine bn_ld (fil_arr hgj (by decide) (by decide)) C0 hH (by rw [fil_len hgj (by decide) (by decide)]; exact (inB_in g_1)) d_F_secondPart_7 ?_
  exact bn_iret C0 hr hH d_F_secondPart_8 (pq h)
def f_F_thirdPart (g : Nat → Nat) (v : mS) (j : Nat) (x1 : Int32) : Option (Int32 × mS) := gd (filB j) (gd (inB (x1 + 1) 32) (gd (inB (v (j + 3) (x1 + 1 : Int32).toNatClampNeg) 32) (some (v (j + 3) (v (j + 3) (x1 + 1 : Int32).toNatClampNeg : Int32).toNatClampNeg, v))))
set_option maxHeartbeats 4000000 in
set_option maxRecDepth 100000 in
theorem c_F_thirdPart {l : Launch} {Z : bZ} {q g : Nat → Nat} (hl0 : l.stackTraces = false) {v : mS} {j : Nat} {x1 : Int32} {o : Int32 × mS} (h : f_F_thirdPart g v j x1 = some o) : bn_M l Z 0 y_F_thirdPart b_F_thirdPart 2 (some .int) [.ref (q j), .int x1] (q, g, v) (bn_Qi Z o.1 (q, g, o.2)) := by
  refine bn_of hl0 (by decide +kernel) (Nat.le_of_ble_eq_true rfl) ?_
  intro p e s m below meth c A ls C0 hr hl hH
  have hx := C0.1
  have hb := C0.2.1
  have C0 : bn_C "FilterBench$Filter" b_F_thirdPart 2 Z A p l s m _ meth c := C0
  have hl : lv_has ls 2 [(0, .ref (q j)), (1, .int x1)] := hl
  unfold f_F_thirdPart at h
  obtain ⟨hgj, h⟩ := gd_out h
  refine lv_aload_n hx hb d_F_thirdPart_0 rfl (lv_at hl 0 rfl) ?_
  refine bn_g_F_ends (filB_k hgj) C0 hH d_F_thirdPart_1 ?_
  refine lv_aload_n hx hb d_F_thirdPart_4 rfl (lv_at hl 0 rfl) ?_
  refine bn_g_F_ends (filB_k hgj) C0 hH d_F_thirdPart_5 ?_
  refine lv_iload_n hx hb d_F_thirdPart_8 rfl (lv_at hl 1 rfl) ?_
  refine lv_iconst (v := 1) hx hb d_F_thirdPart_9 (by decide) ?_
  refine lv_iadd hx hb d_F_thirdPart_10 ?_
  obtain ⟨g_1, h⟩ := gd_out h
  refine bn_ld (fil_arr hgj (by decide) (by decide)) C0 hH (by rw [fil_len hgj (by decide) (by decide)]; exact (inB_in g_1)) d_F_thirdPart_11 ?_
  obtain ⟨g_2, h⟩ := gd_out h
  refine bn_ld (fil_arr hgj (by decide) (by decide)) C0 hH (by rw [fil_len hgj (by decide) (by decide)]; exact (inB_in g_2)) d_F_thirdPart_12 ?_
  exact bn_iret C0 hr hH d_F_thirdPart_13 (pq h)
def f_O_partsOf_144 (g : Nat → Nat)   (v : mS) : Option (Int32 × mS) := some (3, v)
set_option maxHeartbeats 4000000 in
set_option maxRecDepth 100000 in
theorem w_O_partsOf_144 {p : Program} {l : Launch} {e : Env} {s : State} {m : MethodId} {args : Array Value} {below : List Frame} {meth : Method} {c : Code} {Z : bZ} {A : Nat → Prop} {q g : Nat → Nat} {o : Int32 × mS}  (C0 : bn_C "FilterBench$Op" b_O_partsOf 1 Z A p l s m args meth c) (hr : meth.sig.returnType = (some .int)) : ∀  (v : mS) (H : Heap) (locs : List Loc) (ls : Array Slot), f_O_partsOf_144 g   v = some o → bn_H Z A s (q, g, v) H locs → lv_has ls 1 [] → W p l e (mo_rm 0) s m args below meth c H locs 0 0 (MQ below (bn_Qi Z o.1 (q, g, o.2) A) args s 0 0 A) (F0 m 144 ls []) := by
  have hx := C0.1
  have hb := C0.2.1
  have hl0 := C0.2.2.2.2.2.2.2.2.2
  intro  v H locs ls h hH hl
  unfold f_O_partsOf_144 at h
  refine lv_iconst (v := 3) hx hb d_O_partsOf_144 (by decide) ?_
  exact bn_iret C0 hr hH d_O_partsOf_145 (pq h)
def f_O_partsOf_146 (g : Nat → Nat)   (v : mS) : Option (Int32 × mS) := some (2, v)
set_option maxHeartbeats 4000000 in
set_option maxRecDepth 100000 in
theorem w_O_partsOf_146 {p : Program} {l : Launch} {e : Env} {s : State} {m : MethodId} {args : Array Value} {below : List Frame} {meth : Method} {c : Code} {Z : bZ} {A : Nat → Prop} {q g : Nat → Nat} {o : Int32 × mS}  (C0 : bn_C "FilterBench$Op" b_O_partsOf 1 Z A p l s m args meth c) (hr : meth.sig.returnType = (some .int)) : ∀  (v : mS) (H : Heap) (locs : List Loc) (ls : Array Slot), f_O_partsOf_146 g   v = some o → bn_H Z A s (q, g, v) H locs → lv_has ls 1 [] → W p l e (mo_rm 0) s m args below meth c H locs 0 0 (MQ below (bn_Qi Z o.1 (q, g, o.2) A) args s 0 0 A) (F0 m 146 ls []) := by
  have hx := C0.1
  have hb := C0.2.1
  have hl0 := C0.2.2.2.2.2.2.2.2.2
  intro  v H locs ls h hH hl
  unfold f_O_partsOf_146 at h
  refine lv_iconst (v := 2) hx hb d_O_partsOf_146 (by decide) ?_
  exact bn_iret C0 hr hH d_O_partsOf_147 (pq h)
def f_O_partsOf_148 (g : Nat → Nat)   (v : mS) : Option (Int32 × mS) := some (1, v)
set_option maxHeartbeats 4000000 in
set_option maxRecDepth 100000 in
theorem w_O_partsOf_148 {p : Program} {l : Launch} {e : Env} {s : State} {m : MethodId} {args : Array Value} {below : List Frame} {meth : Method} {c : Code} {Z : bZ} {A : Nat → Prop} {q g : Nat → Nat} {o : Int32 × mS}  (C0 : bn_C "FilterBench$Op" b_O_partsOf 1 Z A p l s m args meth c) (hr : meth.sig.returnType = (some .int)) : ∀  (v : mS) (H : Heap) (locs : List Loc) (ls : Array Slot), f_O_partsOf_148 g   v = some o → bn_H Z A s (q, g, v) H locs → lv_has ls 1 [] → W p l e (mo_rm 0) s m args below meth c H locs 0 0 (MQ below (bn_Qi Z o.1 (q, g, o.2) A) args s 0 0 A) (F0 m 148 ls []) := by
  have hx := C0.1
  have hb := C0.2.1
  have hl0 := C0.2.2.2.2.2.2.2.2.2
  intro  v H locs ls h hH hl
  unfold f_O_partsOf_148 at h
  refine lv_iconst (v := 1) hx hb d_O_partsOf_148 (by decide) ?_
  exact bn_iret C0 hr hH d_O_partsOf_149 (pq h)
def f_O_partsOf_150 (g : Nat → Nat)   (v : mS) : Option (Int32 × mS) := some (0, v)
set_option maxHeartbeats 4000000 in
set_option maxRecDepth 100000 in
theorem w_O_partsOf_150 {p : Program} {l : Launch} {e : Env} {s : State} {m : MethodId} {args : Array Value} {below : List Frame} {meth : Method} {c : Code} {Z : bZ} {A : Nat → Prop} {q g : Nat → Nat} {o : Int32 × mS}  (C0 : bn_C "FilterBench$Op" b_O_partsOf 1 Z A p l s m args meth c) (hr : meth.sig.returnType = (some .int)) : ∀  (v : mS) (H : Heap) (locs : List Loc) (ls : Array Slot), f_O_partsOf_150 g   v = some o → bn_H Z A s (q, g, v) H locs → lv_has ls 1 [] → W p l e (mo_rm 0) s m args below meth c H locs 0 0 (MQ below (bn_Qi Z o.1 (q, g, o.2) A) args s 0 0 A) (F0 m 150 ls []) := by
  have hx := C0.1
  have hb := C0.2.1
  have hl0 := C0.2.2.2.2.2.2.2.2.2
  intro  v H locs ls h hH hl
  unfold f_O_partsOf_150 at h
  refine lv_iconst (v := 0) hx hb d_O_partsOf_150 (by decide) ?_
  exact bn_iret C0 hr hH d_O_partsOf_151 (pq h)
def f_O_partsOf (g : Nat → Nat) (v : mS) (x0 : Int32) : Option (Int32 × mS) := if x0 = 2 then (f_O_partsOf_148 g v) else if x0 = 3 then (f_O_partsOf_150 g v) else if x0 = 4 then (f_O_partsOf_146 g v) else if x0 = 5 then (f_O_partsOf_146 g v) else if x0 = 6 then (f_O_partsOf_150 g v) else if x0 = 7 then (f_O_partsOf_150 g v) else if x0 = 8 then (f_O_partsOf_150 g v) else if x0 = 9 then (f_O_partsOf_148 g v) else if x0 = 10 then (f_O_partsOf_150 g v) else if x0 = 11 then (f_O_partsOf_148 g v) else if x0 = 12 then (f_O_partsOf_146 g v) else if x0 = 13 then (f_O_partsOf_146 g v) else if x0 = 14 then (f_O_partsOf_146 g v) else if x0 = 15 then (f_O_partsOf_146 g v) else if x0 = 16 then (f_O_partsOf_150 g v) else if x0 = 17 then (f_O_partsOf_144 g v) else if x0 = 18 then (f_O_partsOf_146 g v) else if x0 = 19 then (f_O_partsOf_146 g v) else if x0 = 20 then (f_O_partsOf_146 g v) else if x0 = 21 then (f_O_partsOf_150 g v) else if x0 = 22 then (f_O_partsOf_144 g v) else if x0 = 23 then (f_O_partsOf_150 g v) else if x0 = 24 then (f_O_partsOf_150 g v) else if x0 = 25 then (f_O_partsOf_150 g v) else if x0 = 26 then (f_O_partsOf_150 g v) else if x0 = 27 then (f_O_partsOf_150 g v) else if x0 = 28 then (f_O_partsOf_150 g v) else if x0 = 29 then (f_O_partsOf_148 g v) else if x0 = 30 then (f_O_partsOf_150 g v) else if x0 = 31 then (f_O_partsOf_148 g v) else if x0 = 32 then (f_O_partsOf_148 g v) else if x0 = 33 then (f_O_partsOf_148 g v) else (f_O_partsOf_150 g v)
set_option maxHeartbeats 4000000 in
set_option maxRecDepth 100000 in
theorem c_O_partsOf {l : Launch} {Z : bZ} {q g : Nat → Nat} (hl0 : l.stackTraces = false) {v : mS}  {x0 : Int32} {o : Int32 × mS} (h : f_O_partsOf g v x0 = some o) : bn_M l Z 0 y_O_partsOf b_O_partsOf 1 (some .int) [.int x0] (q, g, v) (bn_Qi Z o.1 (q, g, o.2)) := by
  refine bn_of hl0 (by decide +kernel) (Nat.le_of_ble_eq_true rfl) ?_
  intro p e s m below meth c A ls C0 hr hl hH
  have hx := C0.1
  have hb := C0.2.1
  have C0 : bn_C "FilterBench$Op" b_O_partsOf 1 Z A p l s m _ meth c := C0
  have hl : lv_has ls 1 [(0, .int x0)] := hl
  unfold f_O_partsOf at h
  refine lv_iload_n hx hb d_O_partsOf_0 rfl (lv_at hl 0 rfl) ?_
  by_cases e_1 : x0 = 2
  · rw [if_pos e_1] at h
    refine fu_hit (tgt := 148) 2 e_1 hx hb d_O_partsOf_1 (by decide) (by decide) rfl (by decide) ?_
    exact w_O_partsOf_148 C0 hr   _ _ _ _ h hH (lv_sub hl [] rfl)
  rw [if_neg e_1] at h
  by_cases e_2 : x0 = 3
  · rw [if_pos e_2] at h
    refine fu_hit (tgt := 150) 3 e_2 hx hb d_O_partsOf_1 (by decide) (by decide) rfl (by decide) ?_
    exact w_O_partsOf_150 C0 hr   _ _ _ _ h hH (lv_sub hl [] rfl)
  rw [if_neg e_2] at h
  by_cases e_3 : x0 = 4
  · rw [if_pos e_3] at h
    refine fu_hit (tgt := 146) 4 e_3 hx hb d_O_partsOf_1 (by decide) (by decide) rfl (by decide) ?_
    exact w_O_partsOf_146 C0 hr   _ _ _ _ h hH (lv_sub hl [] rfl)
  rw [if_neg e_3] at h
  by_cases e_4 : x0 = 5
  · rw [if_pos e_4] at h
    refine fu_hit (tgt := 146) 5 e_4 hx hb d_O_partsOf_1 (by decide) (by decide) rfl (by decide) ?_
    exact w_O_partsOf_146 C0 hr   _ _ _ _ h hH (lv_sub hl [] rfl)
  rw [if_neg e_4] at h
  by_cases e_5 : x0 = 6
  · rw [if_pos e_5] at h
    refine fu_hit (tgt := 150) 6 e_5 hx hb d_O_partsOf_1 (by decide) (by decide) rfl (by decide) ?_
    exact w_O_partsOf_150 C0 hr   _ _ _ _ h hH (lv_sub hl [] rfl)
  rw [if_neg e_5] at h
  by_cases e_6 : x0 = 7
  · rw [if_pos e_6] at h
    refine fu_hit (tgt := 150) 7 e_6 hx hb d_O_partsOf_1 (by decide) (by decide) rfl (by decide) ?_
    exact w_O_partsOf_150 C0 hr   _ _ _ _ h hH (lv_sub hl [] rfl)
  rw [if_neg e_6] at h
  by_cases e_7 : x0 = 8
  · rw [if_pos e_7] at h
    refine fu_hit (tgt := 150) 8 e_7 hx hb d_O_partsOf_1 (by decide) (by decide) rfl (by decide) ?_
    exact w_O_partsOf_150 C0 hr   _ _ _ _ h hH (lv_sub hl [] rfl)
  rw [if_neg e_7] at h
  by_cases e_8 : x0 = 9
  · rw [if_pos e_8] at h
    refine fu_hit (tgt := 148) 9 e_8 hx hb d_O_partsOf_1 (by decide) (by decide) rfl (by decide) ?_
    exact w_O_partsOf_148 C0 hr   _ _ _ _ h hH (lv_sub hl [] rfl)
  rw [if_neg e_8] at h
  by_cases e_9 : x0 = 10
  · rw [if_pos e_9] at h
    refine fu_hit (tgt := 150) 10 e_9 hx hb d_O_partsOf_1 (by decide) (by decide) rfl (by decide) ?_
    exact w_O_partsOf_150 C0 hr   _ _ _ _ h hH (lv_sub hl [] rfl)
  rw [if_neg e_9] at h
  by_cases e_10 : x0 = 11
  · rw [if_pos e_10] at h
    refine fu_hit (tgt := 148) 11 e_10 hx hb d_O_partsOf_1 (by decide) (by decide) rfl (by decide) ?_
    exact w_O_partsOf_148 C0 hr   _ _ _ _ h hH (lv_sub hl [] rfl)
  rw [if_neg e_10] at h
  by_cases e_11 : x0 = 12
  · rw [if_pos e_11] at h
    refine fu_hit (tgt := 146) 12 e_11 hx hb d_O_partsOf_1 (by decide) (by decide) rfl (by decide) ?_
    exact w_O_partsOf_146 C0 hr   _ _ _ _ h hH (lv_sub hl [] rfl)
  rw [if_neg e_11] at h
  by_cases e_12 : x0 = 13
  · rw [if_pos e_12] at h
    refine fu_hit (tgt := 146) 13 e_12 hx hb d_O_partsOf_1 (by decide) (by decide) rfl (by decide) ?_
    exact w_O_partsOf_146 C0 hr   _ _ _ _ h hH (lv_sub hl [] rfl)
  rw [if_neg e_12] at h
  by_cases e_13 : x0 = 14
  · rw [if_pos e_13] at h
    refine fu_hit (tgt := 146) 14 e_13 hx hb d_O_partsOf_1 (by decide) (by decide) rfl (by decide) ?_
    exact w_O_partsOf_146 C0 hr   _ _ _ _ h hH (lv_sub hl [] rfl)
  rw [if_neg e_13] at h
  by_cases e_14 : x0 = 15
  · rw [if_pos e_14] at h
    refine fu_hit (tgt := 146) 15 e_14 hx hb d_O_partsOf_1 (by decide) (by decide) rfl (by decide) ?_
    exact w_O_partsOf_146 C0 hr   _ _ _ _ h hH (lv_sub hl [] rfl)
  rw [if_neg e_14] at h
  by_cases e_15 : x0 = 16
  · rw [if_pos e_15] at h
    refine fu_hit (tgt := 150) 16 e_15 hx hb d_O_partsOf_1 (by decide) (by decide) rfl (by decide) ?_
    exact w_O_partsOf_150 C0 hr   _ _ _ _ h hH (lv_sub hl [] rfl)
  rw [if_neg e_15] at h
  by_cases e_16 : x0 = 17
  · rw [if_pos e_16] at h
    refine fu_hit (tgt := 144) 17 e_16 hx hb d_O_partsOf_1 (by decide) (by decide) rfl (by decide) ?_
    exact w_O_partsOf_144 C0 hr   _ _ _ _ h hH (lv_sub hl [] rfl)
  rw [if_neg e_16] at h
  by_cases e_17 : x0 = 18
  · rw [if_pos e_17] at h
    refine fu_hit (tgt := 146) 18 e_17 hx hb d_O_partsOf_1 (by decide) (by decide) rfl (by decide) ?_
    exact w_O_partsOf_146 C0 hr   _ _ _ _ h hH (lv_sub hl [] rfl)
  rw [if_neg e_17] at h
  by_cases e_18 : x0 = 19
  · rw [if_pos e_18] at h
    refine fu_hit (tgt := 146) 19 e_18 hx hb d_O_partsOf_1 (by decide) (by decide) rfl (by decide) ?_
    exact w_O_partsOf_146 C0 hr   _ _ _ _ h hH (lv_sub hl [] rfl)
  rw [if_neg e_18] at h
  by_cases e_19 : x0 = 20
  · rw [if_pos e_19] at h
    refine fu_hit (tgt := 146) 20 e_19 hx hb d_O_partsOf_1 (by decide) (by decide) rfl (by decide) ?_
    exact w_O_partsOf_146 C0 hr   _ _ _ _ h hH (lv_sub hl [] rfl)
  rw [if_neg e_19] at h
  by_cases e_20 : x0 = 21
  · rw [if_pos e_20] at h
    refine fu_hit (tgt := 150) 21 e_20 hx hb d_O_partsOf_1 (by decide) (by decide) rfl (by decide) ?_
    exact w_O_partsOf_150 C0 hr   _ _ _ _ h hH (lv_sub hl [] rfl)
  rw [if_neg e_20] at h
  by_cases e_21 : x0 = 22
  · rw [if_pos e_21] at h
    refine fu_hit (tgt := 144) 22 e_21 hx hb d_O_partsOf_1 (by decide) (by decide) rfl (by decide) ?_
    exact w_O_partsOf_144 C0 hr   _ _ _ _ h hH (lv_sub hl [] rfl)
  rw [if_neg e_21] at h
  by_cases e_22 : x0 = 23
  · rw [if_pos e_22] at h
    refine fu_hit (tgt := 150) 23 e_22 hx hb d_O_partsOf_1 (by decide) (by decide) rfl (by decide) ?_
    exact w_O_partsOf_150 C0 hr   _ _ _ _ h hH (lv_sub hl [] rfl)
  rw [if_neg e_22] at h
  by_cases e_23 : x0 = 24
  · rw [if_pos e_23] at h
    refine fu_hit (tgt := 150) 24 e_23 hx hb d_O_partsOf_1 (by decide) (by decide) rfl (by decide) ?_
    exact w_O_partsOf_150 C0 hr   _ _ _ _ h hH (lv_sub hl [] rfl)
  rw [if_neg e_23] at h
  by_cases e_24 : x0 = 25
  · rw [if_pos e_24] at h
    refine fu_hit (tgt := 150) 25 e_24 hx hb d_O_partsOf_1 (by decide) (by decide) rfl (by decide) ?_
    exact w_O_partsOf_150 C0 hr   _ _ _ _ h hH (lv_sub hl [] rfl)
  rw [if_neg e_24] at h
  by_cases e_25 : x0 = 26
  · rw [if_pos e_25] at h
    refine fu_hit (tgt := 150) 26 e_25 hx hb d_O_partsOf_1 (by decide) (by decide) rfl (by decide) ?_
    exact w_O_partsOf_150 C0 hr   _ _ _ _ h hH (lv_sub hl [] rfl)
  rw [if_neg e_25] at h
  by_cases e_26 : x0 = 27
  · rw [if_pos e_26] at h
    refine fu_hit (tgt := 150) 27 e_26 hx hb d_O_partsOf_1 (by decide) (by decide) rfl (by decide) ?_
    exact w_O_partsOf_150 C0 hr   _ _ _ _ h hH (lv_sub hl [] rfl)
  rw [if_neg e_26] at h
  by_cases e_27 : x0 = 28
  · rw [if_pos e_27] at h
    refine fu_hit (tgt := 150) 28 e_27 hx hb d_O_partsOf_1 (by decide) (by decide) rfl (by decide) ?_
    exact w_O_partsOf_150 C0 hr   _ _ _ _ h hH (lv_sub hl [] rfl)
  rw [if_neg e_27] at h
  by_cases e_28 : x0 = 29
  · rw [if_pos e_28] at h
    refine fu_hit (tgt := 148) 29 e_28 hx hb d_O_partsOf_1 (by decide) (by decide) rfl (by decide) ?_
    exact w_O_partsOf_148 C0 hr   _ _ _ _ h hH (lv_sub hl [] rfl)
  rw [if_neg e_28] at h
  by_cases e_29 : x0 = 30
  · rw [if_pos e_29] at h
    refine fu_hit (tgt := 150) 30 e_29 hx hb d_O_partsOf_1 (by decide) (by decide) rfl (by decide) ?_
    exact w_O_partsOf_150 C0 hr   _ _ _ _ h hH (lv_sub hl [] rfl)
  rw [if_neg e_29] at h
  by_cases e_30 : x0 = 31
  · rw [if_pos e_30] at h
    refine fu_hit (tgt := 148) 31 e_30 hx hb d_O_partsOf_1 (by decide) (by decide) rfl (by decide) ?_
    exact w_O_partsOf_148 C0 hr   _ _ _ _ h hH (lv_sub hl [] rfl)
  rw [if_neg e_30] at h
  by_cases e_31 : x0 = 32
  · rw [if_pos e_31] at h
    refine fu_hit (tgt := 148) 32 e_31 hx hb d_O_partsOf_1 (by decide) (by decide) rfl (by decide) ?_
    exact w_O_partsOf_148 C0 hr   _ _ _ _ h hH (lv_sub hl [] rfl)
  rw [if_neg e_31] at h
  by_cases e_32 : x0 = 33
  · rw [if_pos e_32] at h
    refine fu_hit (tgt := 148) 33 e_32 hx hb d_O_partsOf_1 (by decide) (by decide) rfl (by decide) ?_
    exact w_O_partsOf_148 C0 hr   _ _ _ _ h hH (lv_sub hl [] rfl)
  rw [if_neg e_32] at h
  refine lv_tableOut (tgt := 150) hx hb d_O_partsOf_1 (fu_out 32 (by decide) (fun k9 hk9 => match k9, hk9 with | 0, _ => lv_neT e_1 (by decide) | 1, _ => lv_neT e_2 (by decide) | 2, _ => lv_neT e_3 (by decide) | 3, _ => lv_neT e_4 (by decide) | 4, _ => lv_neT e_5 (by decide) | 5, _ => lv_neT e_6 (by decide) | 6, _ => lv_neT e_7 (by decide) | 7, _ => lv_neT e_8 (by decide) | 8, _ => lv_neT e_9 (by decide) | 9, _ => lv_neT e_10 (by decide) | 10, _ => lv_neT e_11 (by decide) | 11, _ => lv_neT e_12 (by decide) | 12, _ => lv_neT e_13 (by decide) | 13, _ => lv_neT e_14 (by decide) | 14, _ => lv_neT e_15 (by decide) | 15, _ => lv_neT e_16 (by decide) | 16, _ => lv_neT e_17 (by decide) | 17, _ => lv_neT e_18 (by decide) | 18, _ => lv_neT e_19 (by decide) | 19, _ => lv_neT e_20 (by decide) | 20, _ => lv_neT e_21 (by decide) | 21, _ => lv_neT e_22 (by decide) | 22, _ => lv_neT e_23 (by decide) | 23, _ => lv_neT e_24 (by decide) | 24, _ => lv_neT e_25 (by decide) | 25, _ => lv_neT e_26 (by decide) | 26, _ => lv_neT e_27 (by decide) | 27, _ => lv_neT e_28 (by decide) | 28, _ => lv_neT e_29 (by decide) | 29, _ => lv_neT e_30 (by decide) | 30, _ => lv_neT e_31 (by decide) | 31, _ => lv_neT e_32 (by decide) | k9 + 32, hk9 => absurd hk9 (by omega))) (by decide) ?_
  exact w_O_partsOf_150 C0 hr   _ _ _ _ h hH (lv_sub hl [] rfl)
def f_F_endOf_14 (Kr : (Nat → Nat) → mS → Nat → Int32 → Int32 → Option (Int32 × mS)) (g : Nat → Nat)   (v : mS) : Option (Int32 × mS) := some (33, v)
set_option maxHeartbeats 4000000 in
set_option maxRecDepth 100000 in
theorem w_F_endOf_14 {p : Program} {l : Launch} {e : Env} {s : State} {m : MethodId} {args : Array Value} {below : List Frame} {meth : Method} {c : Code} {Z : bZ} {A : Nat → Prop} {q g : Nat → Nat} {o : Int32 × mS} {rB : Nat} {Kr : (Nat → Nat) → mS → Nat → Int32 → Int32 → Option (Int32 × mS)} (hKr : ∀ {v : mS} {j9 : Nat} {z1 : Int32} {z2 : Int32} {o : Int32 × mS}, Kr g v j9 z1 z2 = some o → bn_M l Z rB y_F_endOf b_F_endOf 5 (some .int) [.ref (q j9), .int z1, .int z2] (q, g, v) (bn_Qi Z o.1 (q, g, o.2))) (C0 : bn_C "FilterBench$Filter" b_F_endOf 5 Z A p l s m args meth c) (hr : meth.sig.returnType = (some .int)) : ∀  (v : mS) (H : Heap) (locs : List Loc) (ls : Array Slot), f_F_endOf_14 Kr g   v = some o → bn_H Z A s (q, g, v) H locs → lv_has ls 5 [] → W p l e (mo_rm (rB + 2)) s m args below meth c H locs 0 0 (MQ below (bn_Qi Z o.1 (q, g, o.2) A) args s 0 0 A) (F0 m 14 ls []) := by
  have hx := C0.1
  have hb := C0.2.1
  have hl0 := C0.2.2.2.2.2.2.2.2.2
  intro  v H locs ls h hH hl
  unfold f_F_endOf_14 at h
  refine lv_bipush (v := 33) hx hb d_F_endOf_14 (by decide) ?_
  exact bn_iret C0 hr hH d_F_endOf_16 (pq h)
def f_F_endOf_24 (Kr : (Nat → Nat) → mS → Nat → Int32 → Int32 → Option (Int32 × mS)) (g : Nat → Nat)  : Nat → Nat → Int32 → Int32 → Int32 → Int32 → mS → Option (Int32 × mS)
  | 0, _, _, _, _, _, _ => none
  | n + 1, x0, x1, x2, x3, x4, v => gd (filB x0) (gd (inB x1 32) (bi (f_O_partsOf g v (v (x0 + 1) (x1 : Int32).toNatClampNeg)) fun r_4 v_2 => if r_4 ≤ x4 then (gd (inB x1 32) (nm (sU v_2 (x0 + 3) (x1 : Int32).toNatClampNeg x3) fun v_7 => some (x3, v_7))) else (bi (Kr g v_2 x0 x3 (x2 + 1)) fun r_10 v_8 => nm (x4 + 1) fun x4_11 => f_F_endOf_24 Kr g n x0 x1 x2 r_10 x4_11 v_8)))
set_option maxHeartbeats 4000000 in
set_option maxRecDepth 100000 in
theorem w_F_endOf_24 {p : Program} {l : Launch} {e : Env} {s : State} {m : MethodId} {args : Array Value} {below : List Frame} {meth : Method} {c : Code} {Z : bZ} {A : Nat → Prop} {q g : Nat → Nat} {o : Int32 × mS} {rB : Nat} {Kr : (Nat → Nat) → mS → Nat → Int32 → Int32 → Option (Int32 × mS)} (hKr : ∀ {v : mS} {j9 : Nat} {z1 : Int32} {z2 : Int32} {o : Int32 × mS}, Kr g v j9 z1 z2 = some o → bn_M l Z rB y_F_endOf b_F_endOf 5 (some .int) [.ref (q j9), .int z1, .int z2] (q, g, v) (bn_Qi Z o.1 (q, g, o.2))) (C0 : bn_C "FilterBench$Filter" b_F_endOf 5 Z A p l s m args meth c) (hr : meth.sig.returnType = (some .int)) : ∀ (n : Nat) (x0 : Nat) (x1 : Int32) (x2 : Int32) (x3 : Int32) (x4 : Int32) (v : mS) (H : Heap) (locs : List Loc) (ls : Array Slot), f_F_endOf_24 Kr g  n x0 x1 x2 x3 x4 v = some o → bn_H Z A s (q, g, v) H locs → lv_has ls 5 [(0, .ref (q x0)), (1, .int x1), (2, .int x2), (3, .int x3), (4, .int x4)] → W p l e (mo_rm (rB + 2)) s m args below meth c H locs 0 0 (MQ below (bn_Qi Z o.1 (q, g, o.2) A) args s 0 0 A) (F0 m 24 ls []) := by
  have hx := C0.1
  have hb := C0.2.1
  have hl0 := C0.2.2.2.2.2.2.2.2.2
  intro n
  induction n with
  | zero =>
    intro x0 x1 x2 x3 x4 v H locs ls h hH hl
    cases h
  | succ n ih =>
    intro x0 x1 x2 x3 x4 v H locs ls h hH hl
    rw [f_F_endOf_24] at h
    obtain ⟨hgx0, h⟩ := gd_out h
    refine lv_iload hx hb d_F_endOf_24 (lv_at hl 4 rfl) ?_
    refine lv_aload_n hx hb d_F_endOf_26 rfl (lv_at hl 0 rfl) ?_
    refine bn_g_F_ops (filB_k hgx0) C0 hH d_F_endOf_27 ?_
    refine lv_iload_n hx hb d_F_endOf_30 rfl (lv_at hl 1 rfl) ?_
    obtain ⟨g_1, h⟩ := gd_out h
    refine bn_ld (fil_arr hgx0 (by decide) (by decide)) C0 hH (by rw [fil_len hgx0 (by decide) (by decide)]; exact (inB_in g_1)) d_F_endOf_31 ?_
    obtain ⟨r_4, v_2, hc_3, h⟩ := bi_out h
    refine bn_si (r := r_4) (w := (q, g, v_2)) (as := [.int (v (x0 + 1) (x1 : Int32).toNatClampNeg)]) (rest := [.int x4]) C0 hH (c_O_partsOf hl0 hc_3) yy_O_partsOf q_452 ⟨by simp only [mo_rm]; omega, by simp only [mo_rm]; omega⟩ rfl hl.1 rfl (Nat.le_of_ble_eq_true rfl) ⟨Nat.zero_le _, Nat.zero_le _⟩ d_F_endOf_32 (fun H locs hH => ?_)
    refine lv_icmp_ge (tgt := 53) hx hb d_F_endOf_35 (by decide) (fun c_5 => ?_) (fun c_5 => ?_)
    · rw [if_pos c_5] at h
      refine lv_aload_n hx hb d_F_endOf_53 rfl (lv_at hl 0 rfl) ?_
      refine bn_g_F_ends (filB_k hgx0) C0 hH d_F_endOf_54 ?_
      refine lv_iload_n hx hb d_F_endOf_57 rfl (lv_at hl 1 rfl) ?_
      refine lv_iload_n hx hb d_F_endOf_58 rfl (lv_at hl 3 rfl) ?_
      obtain ⟨g_6, h⟩ := gd_out h
      obtain ⟨v_7, hv_7, h⟩ := nm_out h
      refine bn_sto (fil_arr hgx0 (by decide) (by decide)) C0 hH (by rw [fil_len hgx0 (by decide) (by decide)]; exact (inB_in g_6)) d_F_endOf_59 (fun H locs hH => ?_)
      have hH : bn_H Z A s (q, g, v_7) H locs := by rw [hv_7]; exact hH
      refine lv_iload_n hx hb d_F_endOf_60 rfl (lv_at hl 3 rfl) ?_
      exact bn_iret C0 hr hH d_F_endOf_61 (pq h)
    · rw [if_neg c_5] at h
      refine lv_aload_n hx hb d_F_endOf_38 rfl (lv_at hl 0 rfl) ?_
      refine lv_iload_n hx hb d_F_endOf_39 rfl (lv_at hl 3 rfl) ?_
      refine lv_iload_n hx hb d_F_endOf_40 rfl (lv_at hl 2 rfl) ?_
      refine lv_iconst (v := 1) hx hb d_F_endOf_41 (by decide) ?_
      refine lv_iadd hx hb d_F_endOf_42 ?_
      obtain ⟨r_10, v_8, hc_9, h⟩ := bi_out h
      refine bn_ci (r := r_10) (w := (q, g, v_8)) (as := [.int x3, .int (x2 + 1)]) (rest := []) C0 hH (ci := 1) (filB_k hgx0) (by decide) rfl (hKr hc_9) yy_F_endOf q_448 ⟨by simp only [mo_rm]; omega, by simp only [mo_rm]; omega⟩ rfl hl.1 rfl (Nat.le_of_ble_eq_true rfl) ⟨Nat.zero_le _, Nat.zero_le _⟩ d_F_endOf_43 (fun H locs hH => ?_)
      refine lv_istore_n (lv' := [(3, .int r_10), (0, .ref (q x0)), (1, .int x1), (2, .int x2), (4, .int x4)]) hx hb d_F_endOf_46 rfl hl (by decide) rfl (fun ls hl => ?_)
      obtain ⟨x4_11, hx4_11, h⟩ := nm_out h
      refine lv_iinc (v := x4_11) (lv' := [(4, .int x4_11), (3, .int r_10), (0, .ref (q x0)), (1, .int x1), (2, .int x2)]) hx hb d_F_endOf_47 hl (k := 4) rfl (by rw [hx4_11]; rfl) (by decide) rfl (fun ls hl => ?_)
      refine lv_goto (tgt := 24) hx hb d_F_endOf_50 (by decide) ?_
      exact ih _ _ _ _ _ _ _ _ _ h hH (lv_sub hl [2, 3, 4, 1, 0] rfl)
def f_F_endOfb (Kr : (Nat → Nat) → mS → Nat → Int32 → Int32 → Option (Int32 × mS)) (g : Nat → Nat) (v : mS) (j : Nat) (x1 : Int32) (x2 : Int32) : Option (Int32 × mS) := gd (filB j) (if (v j 3) ≤ x1 then (f_F_endOf_14 Kr g v) else (if x2 ≤ 7 then (nm (x1 + 1) fun x3_3 => f_F_endOf_24 Kr g fu j x1 x2 x3_3 0 v) else (f_F_endOf_14 Kr g v)))
set_option maxHeartbeats 4000000 in
set_option maxRecDepth 100000 in
theorem c_F_endOfb {l : Launch} {Z : bZ} {q g : Nat → Nat} {rB : Nat} {Kr : (Nat → Nat) → mS → Nat → Int32 → Int32 → Option (Int32 × mS)} (hKr : ∀ {v : mS} {j9 : Nat} {z1 : Int32} {z2 : Int32} {o : Int32 × mS}, Kr g v j9 z1 z2 = some o → bn_M l Z rB y_F_endOf b_F_endOf 5 (some .int) [.ref (q j9), .int z1, .int z2] (q, g, v) (bn_Qi Z o.1 (q, g, o.2))) (hl0 : l.stackTraces = false) {v : mS} {j : Nat} {x1 : Int32} {x2 : Int32} {o : Int32 × mS} (h : f_F_endOfb Kr g v j x1 x2 = some o) : bn_M l Z (rB + 2) y_F_endOf b_F_endOf 5 (some .int) [.ref (q j), .int x1, .int x2] (q, g, v) (bn_Qi Z o.1 (q, g, o.2)) := by
  refine bn_of hl0 (by decide +kernel) (Nat.le_of_ble_eq_true rfl) ?_
  intro p e s m below meth c A ls C0 hr hl hH
  have hx := C0.1
  have hb := C0.2.1
  have C0 : bn_C "FilterBench$Filter" b_F_endOf 5 Z A p l s m _ meth c := C0
  have hl : lv_has ls 5 [(0, .ref (q j)), (1, .int x1), (2, .int x2)] := hl
  unfold f_F_endOfb at h
  obtain ⟨hgj, h⟩ := gd_out h
  refine lv_iload_n hx hb d_F_endOf_0 rfl (lv_at hl 1 rfl) ?_
  refine lv_aload_n hx hb d_F_endOf_1 rfl (lv_at hl 0 rfl) ?_
  refine bn_g_F_size (filB_k hgj) C0 hH d_F_endOf_2 ?_
  refine lv_icmp_ge (tgt := 14) hx hb d_F_endOf_5 (by decide) (fun c_1 => ?_) (fun c_1 => ?_)
  · rw [if_pos c_1] at h
    exact w_F_endOf_14 hKr C0 hr   _ _ _ _ h hH (lv_sub hl [] rfl)
  · rw [if_neg c_1] at h
    refine lv_iload_n hx hb d_F_endOf_8 rfl (lv_at hl 2 rfl) ?_
    refine lv_bipush (v := 7) hx hb d_F_endOf_9 (by decide) ?_
    refine lv_icmp_le (tgt := 17) hx hb d_F_endOf_11 (by decide) (fun c_2 => ?_) (fun c_2 => ?_)
    · rw [if_pos c_2] at h
      refine lv_iload_n hx hb d_F_endOf_17 rfl (lv_at hl 1 rfl) ?_
      refine lv_iconst (v := 1) hx hb d_F_endOf_18 (by decide) ?_
      refine lv_iadd hx hb d_F_endOf_19 ?_
      obtain ⟨x3_3, hx3_3, h⟩ := nm_out h
      refine fu_i hx3_3 ?_
      refine lv_istore_n (lv' := [(3, .int x3_3), (0, .ref (q j)), (1, .int x1), (2, .int x2)]) hx hb d_F_endOf_20 rfl hl (by decide) rfl (fun ls hl => ?_)
      refine lv_iconst (v := 0) hx hb d_F_endOf_21 (by decide) ?_
      refine lv_istore (lv' := [(4, .int 0), (3, .int x3_3), (0, .ref (q j)), (1, .int x1), (2, .int x2)]) hx hb d_F_endOf_22 hl (by decide) rfl (fun ls hl => ?_)
      exact w_F_endOf_24 hKr C0 hr  fu _ _ _ _ _ _ _ _ _ h hH (lv_sub hl [2, 3, 4, 1, 0] rfl)
    · rw [if_neg c_2] at h
      exact w_F_endOf_14 hKr C0 hr   _ _ _ _ h hH (lv_sub hl [] rfl)
def f_F_endOf : Nat → (Nat → Nat) → mS → Nat → Int32 → Int32 → Option (Int32 × mS)
  | 0 => fun _ _ _ _ _ => none
  | n + 1 => f_F_endOfb (f_F_endOf n)
theorem c_F_endOfn {l : Launch} {Z : bZ} {q g : Nat → Nat} (hl0 : l.stackTraces = false) : ∀ (n : Nat) {v : mS} {j : Nat} {x1 : Int32} {x2 : Int32} {o : Int32 × mS}, f_F_endOf n g v j x1 x2 = some o → bn_M l Z (2 * n) y_F_endOf b_F_endOf 5 (some .int) [.ref (q j), .int x1, .int x2] (q, g, v) (bn_Qi Z o.1 (q, g, o.2)) := by
  intro n
  induction n with
  | zero => intro v j x1 x2 o h; cases h
  | succ n ih =>
    intro v j x1 x2 o h
    have h2 := c_F_endOfb (rB := 2 * n) (fun h => ih h) hl0 h
    rw [show 2 * (n + 1) = 2 * n + 2 by omega]
    exact h2
def f_F_isRight_18 (g : Nat → Nat)  (y0 : Int32) (v : mS) : Option (Int32 × mS) := gd (decide (y0 = 0 ∨ y0 = 1)) (some (y0, v))
set_option maxHeartbeats 4000000 in
set_option maxRecDepth 100000 in
theorem w_F_isRight_18 {p : Program} {l : Launch} {e : Env} {s : State} {m : MethodId} {args : Array Value} {below : List Frame} {meth : Method} {c : Code} {Z : bZ} {A : Nat → Prop} {q g : Nat → Nat} {o : Int32 × mS}  (C0 : bn_C "FilterBench$Filter" b_F_isRight 1 Z A p l s m args meth c) (hr : meth.sig.returnType = (some .boolean)) : ∀ (y0 : Int32) (v : mS) (H : Heap) (locs : List Loc) (ls : Array Slot), f_F_isRight_18 g  y0 v = some o → bn_H Z A s (q, g, v) H locs → lv_has ls 1 [] → W p l e (mo_rm 21) s m args below meth c H locs 0 0 (MQ below (bn_Qi Z o.1 (q, g, o.2) A) args s 0 0 A) (F0 m 18 ls [.int y0]) := by
  have hx := C0.1
  have hb := C0.2.1
  have hl0 := C0.2.2.2.2.2.2.2.2.2
  intro y0 v H locs ls h hH hl
  unfold f_F_isRight_18 at h
  obtain ⟨g_1, h⟩ := gd_out h
  exact bn_zret (z01 g_1) C0 hr hH d_F_isRight_18 (pq h)
def f_F_isRight (g : Nat → Nat) (v : mS) (j : Nat) : Option (Int32 × mS) := gd (filB j) (bi (f_F_endOf dK g v j 0 0) fun r_3 v_1 => if r_3 = (v_1 j 3) then (f_F_isRight_18 g 1 v_1) else (f_F_isRight_18 g 0 v_1))
set_option maxHeartbeats 4000000 in
set_option maxRecDepth 100000 in
theorem c_F_isRight {l : Launch} {Z : bZ} {q g : Nat → Nat} (hl0 : l.stackTraces = false) {v : mS} {j : Nat}  {o : Int32 × mS} (h : f_F_isRight g v j = some o) : bn_M l Z 21 y_F_isRight b_F_isRight 1 (some .boolean) [.ref (q j)] (q, g, v) (bn_Qi Z o.1 (q, g, o.2)) := by
  refine bn_of hl0 (by decide +kernel) (Nat.le_of_ble_eq_true rfl) ?_
  intro p e s m below meth c A ls C0 hr hl hH
  have hx := C0.1
  have hb := C0.2.1
  have C0 : bn_C "FilterBench$Filter" b_F_isRight 1 Z A p l s m _ meth c := C0
  have hl : lv_has ls 1 [(0, .ref (q j))] := hl
  unfold f_F_isRight at h
  obtain ⟨hgj, h⟩ := gd_out h
  refine lv_aload_n hx hb d_F_isRight_0 rfl (lv_at hl 0 rfl) ?_
  refine lv_iconst (v := 0) hx hb d_F_isRight_1 (by decide) ?_
  refine lv_iconst (v := 0) hx hb d_F_isRight_2 (by decide) ?_
  obtain ⟨r_3, v_1, hc_2, h⟩ := bi_out h
  refine bn_ci (r := r_3) (w := (q, g, v_1)) (as := [.int 0, .int 0]) (rest := []) C0 hH (ci := 1) (filB_k hgj) (by decide) rfl (c_F_endOfn hl0 dK hc_2) yy_F_endOf q_448 (by decide) rfl hl.1 rfl (Nat.le_of_ble_eq_true rfl) ⟨Nat.zero_le _, Nat.zero_le _⟩ d_F_isRight_3 (fun H locs hH => ?_)
  refine lv_aload_n hx hb d_F_isRight_6 rfl (lv_at hl 0 rfl) ?_
  refine bn_g_F_size (filB_k hgj) C0 hH d_F_isRight_7 ?_
  refine lv_icmp_ne (tgt := 17) hx hb d_F_isRight_10 (by decide) (fun c_4 => ?_) (fun c_4 => ?_)
  · rw [if_neg c_4] at h
    refine lv_iconst (v := 0) hx hb d_F_isRight_17 (by decide) ?_
    exact w_F_isRight_18 C0 hr  _ _ _ _ _ h hH (lv_sub hl [] rfl)
  · rw [if_pos c_4] at h
    refine lv_iconst (v := 1) hx hb d_F_isRight_13 (by decide) ?_
    refine lv_goto (tgt := 18) hx hb d_F_isRight_14 (by decide) ?_
    exact w_F_isRight_18 C0 hr  _ _ _ _ _ h hH (lv_sub hl [] rfl)
def f_B_isBelow_14 (g : Nat → Nat)  (y0 : Int32) (v : mS) : Option (Int32 × mS) := gd (decide (y0 = 0 ∨ y0 = 1)) (some (y0, v))
set_option maxHeartbeats 4000000 in
set_option maxRecDepth 100000 in
theorem w_B_isBelow_14 {p : Program} {l : Launch} {e : Env} {s : State} {m : MethodId} {args : Array Value} {below : List Frame} {meth : Method} {c : Code} {Z : bZ} {A : Nat → Prop} {q g : Nat → Nat} {o : Int32 × mS}  (C0 : bn_C "FilterBench" b_B_isBelow 2 Z A p l s m args meth c) (hr : meth.sig.returnType = (some .boolean)) : ∀ (y0 : Int32) (v : mS) (H : Heap) (locs : List Loc) (ls : Array Slot), f_B_isBelow_14 g  y0 v = some o → bn_H Z A s (q, g, v) H locs → lv_has ls 2 [] → W p l e (mo_rm 0) s m args below meth c H locs 0 0 (MQ below (bn_Qi Z o.1 (q, g, o.2) A) args s 0 0 A) (F0 m 14 ls [.int y0]) := by
  have hx := C0.1
  have hb := C0.2.1
  have hl0 := C0.2.2.2.2.2.2.2.2.2
  intro y0 v H locs ls h hH hl
  unfold f_B_isBelow_14 at h
  obtain ⟨g_1, h⟩ := gd_out h
  exact bn_zret (z01 g_1) C0 hr hH d_B_isBelow_14 (pq h)
def f_B_isBelow_13 (g : Nat → Nat)   (v : mS) : Option (Int32 × mS) := f_B_isBelow_14 g 0 v
set_option maxHeartbeats 4000000 in
set_option maxRecDepth 100000 in
theorem w_B_isBelow_13 {p : Program} {l : Launch} {e : Env} {s : State} {m : MethodId} {args : Array Value} {below : List Frame} {meth : Method} {c : Code} {Z : bZ} {A : Nat → Prop} {q g : Nat → Nat} {o : Int32 × mS}  (C0 : bn_C "FilterBench" b_B_isBelow 2 Z A p l s m args meth c) (hr : meth.sig.returnType = (some .boolean)) : ∀  (v : mS) (H : Heap) (locs : List Loc) (ls : Array Slot), f_B_isBelow_13 g   v = some o → bn_H Z A s (q, g, v) H locs → lv_has ls 2 [] → W p l e (mo_rm 0) s m args below meth c H locs 0 0 (MQ below (bn_Qi Z o.1 (q, g, o.2) A) args s 0 0 A) (F0 m 13 ls []) := by
  have hx := C0.1
  have hb := C0.2.1
  have hl0 := C0.2.2.2.2.2.2.2.2.2
  intro  v H locs ls h hH hl
  unfold f_B_isBelow_13 at h
  refine lv_iconst (v := 0) hx hb d_B_isBelow_13 (by decide) ?_
  exact w_B_isBelow_14 C0 hr  _ _ _ _ _ h hH (lv_sub hl [] rfl)
def f_B_isBelow (g : Nat → Nat) (v : mS) (x0 : Int32) (x1 : Int32) : Option (Int32 × mS) := if x0 < 0 then (f_B_isBelow_13 g v) else (if x1 ≤ x0 then (f_B_isBelow_13 g v) else (f_B_isBelow_14 g 1 v))
set_option maxHeartbeats 4000000 in
set_option maxRecDepth 100000 in
theorem c_B_isBelow {l : Launch} {Z : bZ} {q g : Nat → Nat} (hl0 : l.stackTraces = false) {v : mS}  {x0 : Int32} {x1 : Int32} {o : Int32 × mS} (h : f_B_isBelow g v x0 x1 = some o) : bn_M l Z 0 y_B_isBelow b_B_isBelow 2 (some .boolean) [.int x0, .int x1] (q, g, v) (bn_Qi Z o.1 (q, g, o.2)) := by
  refine bn_of hl0 (by decide +kernel) (Nat.le_of_ble_eq_true rfl) ?_
  intro p e s m below meth c A ls C0 hr hl hH
  have hx := C0.1
  have hb := C0.2.1
  have C0 : bn_C "FilterBench" b_B_isBelow 2 Z A p l s m _ meth c := C0
  have hl : lv_has ls 2 [(0, .int x0), (1, .int x1)] := hl
  unfold f_B_isBelow at h
  refine lv_iload_n hx hb d_B_isBelow_0 rfl (lv_at hl 0 rfl) ?_
  refine lv_if_lt (tgt := 13) hx hb d_B_isBelow_1 (by decide) (fun c_1 => ?_) (fun c_1 => ?_)
  · rw [if_pos c_1] at h
    exact w_B_isBelow_13 C0 hr   _ _ _ _ h hH (lv_sub hl [] rfl)
  · rw [if_neg c_1] at h
    refine lv_iload_n hx hb d_B_isBelow_4 rfl (lv_at hl 0 rfl) ?_
    refine lv_iload_n hx hb d_B_isBelow_5 rfl (lv_at hl 1 rfl) ?_
    refine lv_icmp_ge (tgt := 13) hx hb d_B_isBelow_6 (by decide) (fun c_2 => ?_) (fun c_2 => ?_)
    · rw [if_pos c_2] at h
      exact w_B_isBelow_13 C0 hr   _ _ _ _ h hH (lv_sub hl [] rfl)
    · rw [if_neg c_2] at h
      refine lv_iconst (v := 1) hx hb d_B_isBelow_9 (by decide) ?_
      refine lv_goto (tgt := 14) hx hb d_B_isBelow_10 (by decide) ?_
      exact w_B_isBelow_14 C0 hr  _ _ _ _ _ h hH (lv_sub hl [] rfl)
def f_B_count (g : Nat → Nat) (v : mS) (x1 : Int32) : Option (Int32 × mS) := if x1 = 0 then (some (v 0 6, v)) else if x1 = 1 then (some (v 0 8, v)) else if x1 = 2 then (some (v 0 9, v)) else if x1 = 3 then (some (v 0 10, v)) else (some ((-1), v))
set_option maxHeartbeats 4000000 in
set_option maxRecDepth 100000 in
theorem c_B_count {l : Launch} {Z : bZ} {q g : Nat → Nat} (hl0 : l.stackTraces = false) {v : mS}  {x1 : Int32} {o : Int32 × mS} (h : f_B_count g v x1 = some o) : bn_M l Z 0 y_B_count b_B_count 2 (some .int) [.ref (q 0), .int x1] (q, g, v) (bn_Qi Z o.1 (q, g, o.2)) := by
  refine bn_of hl0 (by decide +kernel) (Nat.le_of_ble_eq_true rfl) ?_
  intro p e s m below meth c A ls C0 hr hl hH
  have hx := C0.1
  have hb := C0.2.1
  have C0 : bn_C "FilterBench" b_B_count 2 Z A p l s m _ meth c := C0
  have hl : lv_has ls 2 [(0, .ref (q 0)), (1, .int x1)] := hl
  unfold f_B_count at h
  refine lv_iload_n hx hb d_B_count_0 rfl (lv_at hl 1 rfl) ?_
  by_cases e_1 : x1 = 0
  · rw [if_pos e_1] at h
    refine fu_hit (tgt := 32) 0 e_1 hx hb d_B_count_1 (by decide) (by decide) rfl (by decide) ?_
    refine lv_aload_n hx hb d_B_count_32 rfl (lv_at hl 0 rfl) ?_
    refine bn_g_B_outputs ⟨by decide, by decide⟩ C0 hH d_B_count_33 ?_
    exact bn_iret C0 hr hH d_B_count_36 (pq h)
  rw [if_neg e_1] at h
  by_cases e_2 : x1 = 1
  · rw [if_pos e_2] at h
    refine fu_hit (tgt := 37) 1 e_2 hx hb d_B_count_1 (by decide) (by decide) rfl (by decide) ?_
    refine lv_aload_n hx hb d_B_count_37 rfl (lv_at hl 0 rfl) ?_
    refine bn_g_B_steps ⟨by decide, by decide⟩ C0 hH d_B_count_38 ?_
    exact bn_iret C0 hr hH d_B_count_41 (pq h)
  rw [if_neg e_2] at h
  by_cases e_3 : x1 = 2
  · rw [if_pos e_3] at h
    refine fu_hit (tgt := 42) 2 e_3 hx hb d_B_count_1 (by decide) (by decide) rfl (by decide) ?_
    refine lv_aload_n hx hb d_B_count_42 rfl (lv_at hl 0 rfl) ?_
    refine bn_g_B_errorRuns ⟨by decide, by decide⟩ C0 hH d_B_count_43 ?_
    exact bn_iret C0 hr hH d_B_count_46 (pq h)
  rw [if_neg e_3] at h
  by_cases e_4 : x1 = 3
  · rw [if_pos e_4] at h
    refine fu_hit (tgt := 47) 3 e_4 hx hb d_B_count_1 (by decide) (by decide) rfl (by decide) ?_
    refine lv_aload_n hx hb d_B_count_47 rfl (lv_at hl 0 rfl) ?_
    refine bn_g_B_roomlessRuns ⟨by decide, by decide⟩ C0 hH d_B_count_48 ?_
    exact bn_iret C0 hr hH d_B_count_51 (pq h)
  rw [if_neg e_4] at h
  refine lv_tableOut (tgt := 52) hx hb d_B_count_1 (fu_out 4 (by decide) (fun k9 hk9 => match k9, hk9 with | 0, _ => lv_neT e_1 (by decide) | 1, _ => lv_neT e_2 (by decide) | 2, _ => lv_neT e_3 (by decide) | 3, _ => lv_neT e_4 (by decide) | k9 + 4, hk9 => absurd hk9 (by omega))) (by decide) ?_
  refine lv_iconst (v := (-1)) hx hb d_B_count_52 (by decide) ?_
  exact bn_iret C0 hr hH d_B_count_53 (pq h)
def f_O_takes_140 (g : Nat → Nat)  (x1 : Int32) (v : mS) : Option (Int32 × mS) := bi (f_B_isBelow g v x1 8) fun r_3 v_1 => gd (decide (r_3 = 0 ∨ r_3 = 1)) (some (r_3, v_1))
set_option maxHeartbeats 4000000 in
set_option maxRecDepth 100000 in
theorem w_O_takes_140 {p : Program} {l : Launch} {e : Env} {s : State} {m : MethodId} {args : Array Value} {below : List Frame} {meth : Method} {c : Code} {Z : bZ} {A : Nat → Prop} {q g : Nat → Nat} {o : Int32 × mS}  (C0 : bn_C "FilterBench$Op" b_O_takes 2 Z A p l s m args meth c) (hr : meth.sig.returnType = (some .boolean)) : ∀ (x1 : Int32) (v : mS) (H : Heap) (locs : List Loc) (ls : Array Slot), f_O_takes_140 g  x1 v = some o → bn_H Z A s (q, g, v) H locs → lv_has ls 2 [(1, .int x1)] → W p l e (mo_rm 1) s m args below meth c H locs 0 0 (MQ below (bn_Qi Z o.1 (q, g, o.2) A) args s 0 0 A) (F0 m 140 ls []) := by
  have hx := C0.1
  have hb := C0.2.1
  have hl0 := C0.2.2.2.2.2.2.2.2.2
  intro x1 v H locs ls h hH hl
  unfold f_O_takes_140 at h
  refine lv_iload_n hx hb d_O_takes_140 rfl (lv_at hl 0 rfl) ?_
  refine lv_bipush (v := 8) hx hb d_O_takes_141 (by decide) ?_
  obtain ⟨r_3, v_1, hc_2, h⟩ := bi_out h
  refine bn_ti (r := r_3) (w := (q, g, v_1)) (as := [.int x1, .int 8]) (rest := []) C0 hH (c_B_isBelow hl0 hc_2) yy_B_isBelow (C0.2.2.2.2.2.2.2.2.1.2.2.2.2.2.2.1 _ (List.mem_of_getElem? (i := 3) rfl)) (by decide) rfl hl.1 rfl (Nat.le_of_ble_eq_true rfl) ⟨Nat.zero_le _, Nat.zero_le _⟩ d_O_takes_143 (fun H locs hH => ?_)
  obtain ⟨g_4, h⟩ := gd_out h
  exact bn_zret (z01 g_4) C0 hr hH d_O_takes_146 (pq h)
def f_O_takes_147 (g : Nat → Nat)  (x1 : Int32) (v : mS) : Option (Int32 × mS) := bi (f_B_isBelow g v x1 4) fun r_3 v_1 => gd (decide (r_3 = 0 ∨ r_3 = 1)) (some (r_3, v_1))
set_option maxHeartbeats 4000000 in
set_option maxRecDepth 100000 in
theorem w_O_takes_147 {p : Program} {l : Launch} {e : Env} {s : State} {m : MethodId} {args : Array Value} {below : List Frame} {meth : Method} {c : Code} {Z : bZ} {A : Nat → Prop} {q g : Nat → Nat} {o : Int32 × mS}  (C0 : bn_C "FilterBench$Op" b_O_takes 2 Z A p l s m args meth c) (hr : meth.sig.returnType = (some .boolean)) : ∀ (x1 : Int32) (v : mS) (H : Heap) (locs : List Loc) (ls : Array Slot), f_O_takes_147 g  x1 v = some o → bn_H Z A s (q, g, v) H locs → lv_has ls 2 [(1, .int x1)] → W p l e (mo_rm 1) s m args below meth c H locs 0 0 (MQ below (bn_Qi Z o.1 (q, g, o.2) A) args s 0 0 A) (F0 m 147 ls []) := by
  have hx := C0.1
  have hb := C0.2.1
  have hl0 := C0.2.2.2.2.2.2.2.2.2
  intro x1 v H locs ls h hH hl
  unfold f_O_takes_147 at h
  refine lv_iload_n hx hb d_O_takes_147 rfl (lv_at hl 0 rfl) ?_
  refine lv_iconst (v := 4) hx hb d_O_takes_148 (by decide) ?_
  obtain ⟨r_3, v_1, hc_2, h⟩ := bi_out h
  refine bn_ti (r := r_3) (w := (q, g, v_1)) (as := [.int x1, .int 4]) (rest := []) C0 hH (c_B_isBelow hl0 hc_2) yy_B_isBelow (C0.2.2.2.2.2.2.2.2.1.2.2.2.2.2.2.1 _ (List.mem_of_getElem? (i := 3) rfl)) (by decide) rfl hl.1 rfl (Nat.le_of_ble_eq_true rfl) ⟨Nat.zero_le _, Nat.zero_le _⟩ d_O_takes_149 (fun H locs hH => ?_)
  obtain ⟨g_4, h⟩ := gd_out h
  exact bn_zret (z01 g_4) C0 hr hH d_O_takes_152 (pq h)
def f_O_takes_179 (g : Nat → Nat)   (v : mS) : Option (Int32 × mS) := some (1, v)
set_option maxHeartbeats 4000000 in
set_option maxRecDepth 100000 in
theorem w_O_takes_179 {p : Program} {l : Launch} {e : Env} {s : State} {m : MethodId} {args : Array Value} {below : List Frame} {meth : Method} {c : Code} {Z : bZ} {A : Nat → Prop} {q g : Nat → Nat} {o : Int32 × mS}  (C0 : bn_C "FilterBench$Op" b_O_takes 2 Z A p l s m args meth c) (hr : meth.sig.returnType = (some .boolean)) : ∀  (v : mS) (H : Heap) (locs : List Loc) (ls : Array Slot), f_O_takes_179 g   v = some o → bn_H Z A s (q, g, v) H locs → lv_has ls 2 [] → W p l e (mo_rm 1) s m args below meth c H locs 0 0 (MQ below (bn_Qi Z o.1 (q, g, o.2) A) args s 0 0 A) (F0 m 179 ls []) := by
  have hx := C0.1
  have hb := C0.2.1
  have hl0 := C0.2.2.2.2.2.2.2.2.2
  intro  v H locs ls h hH hl
  unfold f_O_takes_179 at h
  refine lv_iconst (v := 1) hx hb d_O_takes_179 (by decide) ?_
  exact bn_zret (Or.inr rfl) C0 hr hH d_O_takes_180 (pq h)
def f_O_takes (g : Nat → Nat) (v : mS) (x0 : Int32) (x1 : Int32) : Option (Int32 × mS) := if x0 = 1 then (f_O_takes_140 g x1 v) else if x0 = 2 then (f_O_takes_179 g v) else if x0 = 3 then (f_O_takes_179 g v) else if x0 = 4 then (f_O_takes_179 g v) else if x0 = 5 then (f_O_takes_179 g v) else if x0 = 6 then (f_O_takes_179 g v) else if x0 = 7 then (f_O_takes_140 g x1 v) else if x0 = 8 then (bi (f_B_isBelow g v x1 3) fun r_10 v_8 => gd (decide (r_10 = 0 ∨ r_10 = 1)) (some (r_10, v_8))) else if x0 = 9 then (f_O_takes_179 g v) else if x0 = 10 then (f_O_takes_179 g v) else if x0 = 11 then (f_O_takes_140 g x1 v) else if x0 = 12 then (bi (f_B_isBelow g v x1 4) fun r_18 v_16 => gd (decide (r_18 = 0 ∨ r_18 = 1)) (some (r_18, v_16))) else if x0 = 13 then (bi (f_B_isBelow g v x1 6) fun r_23 v_21 => gd (decide (r_23 = 0 ∨ r_23 = 1)) (some (r_23, v_21))) else if x0 = 14 then (f_O_takes_179 g v) else if x0 = 15 then (f_O_takes_179 g v) else if x0 = 16 then (f_O_takes_179 g v) else if x0 = 17 then (f_O_takes_179 g v) else if x0 = 18 then (f_O_takes_179 g v) else if x0 = 19 then (f_O_takes_179 g v) else if x0 = 20 then (f_O_takes_147 g x1 v) else if x0 = 21 then (f_O_takes_147 g x1 v) else if x0 = 22 then (f_O_takes_147 g x1 v) else if x0 = 23 then (f_O_takes_179 g v) else if x0 = 24 then (f_O_takes_179 g v) else if x0 = 25 then (f_O_takes_179 g v) else if x0 = 26 then (f_O_takes_179 g v) else if x0 = 27 then (f_O_takes_179 g v) else if x0 = 28 then (f_O_takes_179 g v) else if x0 = 29 then (f_O_takes_179 g v) else if x0 = 30 then (f_O_takes_179 g v) else if x0 = 31 then (bi (f_B_isBelow g v x1 10) fun r_45 v_43 => gd (decide (r_45 = 0 ∨ r_45 = 1)) (some (r_45, v_43))) else (f_O_takes_179 g v)
set_option maxHeartbeats 4000000 in
set_option maxRecDepth 100000 in
theorem c_O_takes {l : Launch} {Z : bZ} {q g : Nat → Nat} (hl0 : l.stackTraces = false) {v : mS}  {x0 : Int32} {x1 : Int32} {o : Int32 × mS} (h : f_O_takes g v x0 x1 = some o) : bn_M l Z 1 y_O_takes b_O_takes 2 (some .boolean) [.int x0, .int x1] (q, g, v) (bn_Qi Z o.1 (q, g, o.2)) := by
  refine bn_of hl0 (by decide +kernel) (Nat.le_of_ble_eq_true rfl) ?_
  intro p e s m below meth c A ls C0 hr hl hH
  have hx := C0.1
  have hb := C0.2.1
  have C0 : bn_C "FilterBench$Op" b_O_takes 2 Z A p l s m _ meth c := C0
  have hl : lv_has ls 2 [(0, .int x0), (1, .int x1)] := hl
  unfold f_O_takes at h
  refine lv_iload_n hx hb d_O_takes_0 rfl (lv_at hl 0 rfl) ?_
  by_cases e_1 : x0 = 1
  · rw [if_pos e_1] at h
    refine fu_hit (tgt := 140) 1 e_1 hx hb d_O_takes_1 (by decide) (by decide) rfl (by decide) ?_
    exact w_O_takes_140 C0 hr  _ _ _ _ _ h hH (lv_sub hl [1] rfl)
  rw [if_neg e_1] at h
  by_cases e_2 : x0 = 2
  · rw [if_pos e_2] at h
    refine fu_hit (tgt := 179) 2 e_2 hx hb d_O_takes_1 (by decide) (by decide) rfl (by decide) ?_
    exact w_O_takes_179 C0 hr   _ _ _ _ h hH (lv_sub hl [] rfl)
  rw [if_neg e_2] at h
  by_cases e_3 : x0 = 3
  · rw [if_pos e_3] at h
    refine fu_hit (tgt := 179) 3 e_3 hx hb d_O_takes_1 (by decide) (by decide) rfl (by decide) ?_
    exact w_O_takes_179 C0 hr   _ _ _ _ h hH (lv_sub hl [] rfl)
  rw [if_neg e_3] at h
  by_cases e_4 : x0 = 4
  · rw [if_pos e_4] at h
    refine fu_hit (tgt := 179) 4 e_4 hx hb d_O_takes_1 (by decide) (by decide) rfl (by decide) ?_
    exact w_O_takes_179 C0 hr   _ _ _ _ h hH (lv_sub hl [] rfl)
  rw [if_neg e_4] at h
  by_cases e_5 : x0 = 5
  · rw [if_pos e_5] at h
    refine fu_hit (tgt := 179) 5 e_5 hx hb d_O_takes_1 (by decide) (by decide) rfl (by decide) ?_
    exact w_O_takes_179 C0 hr   _ _ _ _ h hH (lv_sub hl [] rfl)
  rw [if_neg e_5] at h
  by_cases e_6 : x0 = 6
  · rw [if_pos e_6] at h
    refine fu_hit (tgt := 179) 6 e_6 hx hb d_O_takes_1 (by decide) (by decide) rfl (by decide) ?_
    exact w_O_takes_179 C0 hr   _ _ _ _ h hH (lv_sub hl [] rfl)
  rw [if_neg e_6] at h
  by_cases e_7 : x0 = 7
  · rw [if_pos e_7] at h
    refine fu_hit (tgt := 140) 7 e_7 hx hb d_O_takes_1 (by decide) (by decide) rfl (by decide) ?_
    exact w_O_takes_140 C0 hr  _ _ _ _ _ h hH (lv_sub hl [1] rfl)
  rw [if_neg e_7] at h
  by_cases e_12 : x0 = 8
  · rw [if_pos e_12] at h
    refine fu_hit (tgt := 166) 8 e_12 hx hb d_O_takes_1 (by decide) (by decide) rfl (by decide) ?_
    refine lv_iload_n hx hb d_O_takes_166 rfl (lv_at hl 1 rfl) ?_
    refine lv_iconst (v := 3) hx hb d_O_takes_167 (by decide) ?_
    obtain ⟨r_10, v_8, hc_9, h⟩ := bi_out h
    refine bn_ti (r := r_10) (w := (q, g, v_8)) (as := [.int x1, .int 3]) (rest := []) C0 hH (c_B_isBelow hl0 hc_9) yy_B_isBelow (C0.2.2.2.2.2.2.2.2.1.2.2.2.2.2.2.1 _ (List.mem_of_getElem? (i := 3) rfl)) (by decide) rfl hl.1 rfl (Nat.le_of_ble_eq_true rfl) ⟨Nat.zero_le _, Nat.zero_le _⟩ d_O_takes_168 (fun H locs hH => ?_)
    obtain ⟨g_11, h⟩ := gd_out h
    exact bn_zret (z01 g_11) C0 hr hH d_O_takes_171 (pq h)
  rw [if_neg e_12] at h
  by_cases e_13 : x0 = 9
  · rw [if_pos e_13] at h
    refine fu_hit (tgt := 179) 9 e_13 hx hb d_O_takes_1 (by decide) (by decide) rfl (by decide) ?_
    exact w_O_takes_179 C0 hr   _ _ _ _ h hH (lv_sub hl [] rfl)
  rw [if_neg e_13] at h
  by_cases e_14 : x0 = 10
  · rw [if_pos e_14] at h
    refine fu_hit (tgt := 179) 10 e_14 hx hb d_O_takes_1 (by decide) (by decide) rfl (by decide) ?_
    exact w_O_takes_179 C0 hr   _ _ _ _ h hH (lv_sub hl [] rfl)
  rw [if_neg e_14] at h
  by_cases e_15 : x0 = 11
  · rw [if_pos e_15] at h
    refine fu_hit (tgt := 140) 11 e_15 hx hb d_O_takes_1 (by decide) (by decide) rfl (by decide) ?_
    exact w_O_takes_140 C0 hr  _ _ _ _ _ h hH (lv_sub hl [1] rfl)
  rw [if_neg e_15] at h
  by_cases e_20 : x0 = 12
  · rw [if_pos e_20] at h
    refine fu_hit (tgt := 153) 12 e_20 hx hb d_O_takes_1 (by decide) (by decide) rfl (by decide) ?_
    refine lv_iload_n hx hb d_O_takes_153 rfl (lv_at hl 1 rfl) ?_
    refine lv_iconst (v := 4) hx hb d_O_takes_154 (by decide) ?_
    obtain ⟨r_18, v_16, hc_17, h⟩ := bi_out h
    refine bn_ti (r := r_18) (w := (q, g, v_16)) (as := [.int x1, .int 4]) (rest := []) C0 hH (c_B_isBelow hl0 hc_17) yy_B_isBelow (C0.2.2.2.2.2.2.2.2.1.2.2.2.2.2.2.1 _ (List.mem_of_getElem? (i := 3) rfl)) (by decide) rfl hl.1 rfl (Nat.le_of_ble_eq_true rfl) ⟨Nat.zero_le _, Nat.zero_le _⟩ d_O_takes_155 (fun H locs hH => ?_)
    obtain ⟨g_19, h⟩ := gd_out h
    exact bn_zret (z01 g_19) C0 hr hH d_O_takes_158 (pq h)
  rw [if_neg e_20] at h
  by_cases e_25 : x0 = 13
  · rw [if_pos e_25] at h
    refine fu_hit (tgt := 159) 13 e_25 hx hb d_O_takes_1 (by decide) (by decide) rfl (by decide) ?_
    refine lv_iload_n hx hb d_O_takes_159 rfl (lv_at hl 1 rfl) ?_
    refine lv_bipush (v := 6) hx hb d_O_takes_160 (by decide) ?_
    obtain ⟨r_23, v_21, hc_22, h⟩ := bi_out h
    refine bn_ti (r := r_23) (w := (q, g, v_21)) (as := [.int x1, .int 6]) (rest := []) C0 hH (c_B_isBelow hl0 hc_22) yy_B_isBelow (C0.2.2.2.2.2.2.2.2.1.2.2.2.2.2.2.1 _ (List.mem_of_getElem? (i := 3) rfl)) (by decide) rfl hl.1 rfl (Nat.le_of_ble_eq_true rfl) ⟨Nat.zero_le _, Nat.zero_le _⟩ d_O_takes_162 (fun H locs hH => ?_)
    obtain ⟨g_24, h⟩ := gd_out h
    exact bn_zret (z01 g_24) C0 hr hH d_O_takes_165 (pq h)
  rw [if_neg e_25] at h
  by_cases e_26 : x0 = 14
  · rw [if_pos e_26] at h
    refine fu_hit (tgt := 179) 14 e_26 hx hb d_O_takes_1 (by decide) (by decide) rfl (by decide) ?_
    exact w_O_takes_179 C0 hr   _ _ _ _ h hH (lv_sub hl [] rfl)
  rw [if_neg e_26] at h
  by_cases e_27 : x0 = 15
  · rw [if_pos e_27] at h
    refine fu_hit (tgt := 179) 15 e_27 hx hb d_O_takes_1 (by decide) (by decide) rfl (by decide) ?_
    exact w_O_takes_179 C0 hr   _ _ _ _ h hH (lv_sub hl [] rfl)
  rw [if_neg e_27] at h
  by_cases e_28 : x0 = 16
  · rw [if_pos e_28] at h
    refine fu_hit (tgt := 179) 16 e_28 hx hb d_O_takes_1 (by decide) (by decide) rfl (by decide) ?_
    exact w_O_takes_179 C0 hr   _ _ _ _ h hH (lv_sub hl [] rfl)
  rw [if_neg e_28] at h
  by_cases e_29 : x0 = 17
  · rw [if_pos e_29] at h
    refine fu_hit (tgt := 179) 17 e_29 hx hb d_O_takes_1 (by decide) (by decide) rfl (by decide) ?_
    exact w_O_takes_179 C0 hr   _ _ _ _ h hH (lv_sub hl [] rfl)
  rw [if_neg e_29] at h
  by_cases e_30 : x0 = 18
  · rw [if_pos e_30] at h
    refine fu_hit (tgt := 179) 18 e_30 hx hb d_O_takes_1 (by decide) (by decide) rfl (by decide) ?_
    exact w_O_takes_179 C0 hr   _ _ _ _ h hH (lv_sub hl [] rfl)
  rw [if_neg e_30] at h
  by_cases e_31 : x0 = 19
  · rw [if_pos e_31] at h
    refine fu_hit (tgt := 179) 19 e_31 hx hb d_O_takes_1 (by decide) (by decide) rfl (by decide) ?_
    exact w_O_takes_179 C0 hr   _ _ _ _ h hH (lv_sub hl [] rfl)
  rw [if_neg e_31] at h
  by_cases e_32 : x0 = 20
  · rw [if_pos e_32] at h
    refine fu_hit (tgt := 147) 20 e_32 hx hb d_O_takes_1 (by decide) (by decide) rfl (by decide) ?_
    exact w_O_takes_147 C0 hr  _ _ _ _ _ h hH (lv_sub hl [1] rfl)
  rw [if_neg e_32] at h
  by_cases e_33 : x0 = 21
  · rw [if_pos e_33] at h
    refine fu_hit (tgt := 147) 21 e_33 hx hb d_O_takes_1 (by decide) (by decide) rfl (by decide) ?_
    exact w_O_takes_147 C0 hr  _ _ _ _ _ h hH (lv_sub hl [1] rfl)
  rw [if_neg e_33] at h
  by_cases e_34 : x0 = 22
  · rw [if_pos e_34] at h
    refine fu_hit (tgt := 147) 22 e_34 hx hb d_O_takes_1 (by decide) (by decide) rfl (by decide) ?_
    exact w_O_takes_147 C0 hr  _ _ _ _ _ h hH (lv_sub hl [1] rfl)
  rw [if_neg e_34] at h
  by_cases e_35 : x0 = 23
  · rw [if_pos e_35] at h
    refine fu_hit (tgt := 179) 23 e_35 hx hb d_O_takes_1 (by decide) (by decide) rfl (by decide) ?_
    exact w_O_takes_179 C0 hr   _ _ _ _ h hH (lv_sub hl [] rfl)
  rw [if_neg e_35] at h
  by_cases e_36 : x0 = 24
  · rw [if_pos e_36] at h
    refine fu_hit (tgt := 179) 24 e_36 hx hb d_O_takes_1 (by decide) (by decide) rfl (by decide) ?_
    exact w_O_takes_179 C0 hr   _ _ _ _ h hH (lv_sub hl [] rfl)
  rw [if_neg e_36] at h
  by_cases e_37 : x0 = 25
  · rw [if_pos e_37] at h
    refine fu_hit (tgt := 179) 25 e_37 hx hb d_O_takes_1 (by decide) (by decide) rfl (by decide) ?_
    exact w_O_takes_179 C0 hr   _ _ _ _ h hH (lv_sub hl [] rfl)
  rw [if_neg e_37] at h
  by_cases e_38 : x0 = 26
  · rw [if_pos e_38] at h
    refine fu_hit (tgt := 179) 26 e_38 hx hb d_O_takes_1 (by decide) (by decide) rfl (by decide) ?_
    exact w_O_takes_179 C0 hr   _ _ _ _ h hH (lv_sub hl [] rfl)
  rw [if_neg e_38] at h
  by_cases e_39 : x0 = 27
  · rw [if_pos e_39] at h
    refine fu_hit (tgt := 179) 27 e_39 hx hb d_O_takes_1 (by decide) (by decide) rfl (by decide) ?_
    exact w_O_takes_179 C0 hr   _ _ _ _ h hH (lv_sub hl [] rfl)
  rw [if_neg e_39] at h
  by_cases e_40 : x0 = 28
  · rw [if_pos e_40] at h
    refine fu_hit (tgt := 179) 28 e_40 hx hb d_O_takes_1 (by decide) (by decide) rfl (by decide) ?_
    exact w_O_takes_179 C0 hr   _ _ _ _ h hH (lv_sub hl [] rfl)
  rw [if_neg e_40] at h
  by_cases e_41 : x0 = 29
  · rw [if_pos e_41] at h
    refine fu_hit (tgt := 179) 29 e_41 hx hb d_O_takes_1 (by decide) (by decide) rfl (by decide) ?_
    exact w_O_takes_179 C0 hr   _ _ _ _ h hH (lv_sub hl [] rfl)
  rw [if_neg e_41] at h
  by_cases e_42 : x0 = 30
  · rw [if_pos e_42] at h
    refine fu_hit (tgt := 179) 30 e_42 hx hb d_O_takes_1 (by decide) (by decide) rfl (by decide) ?_
    exact w_O_takes_179 C0 hr   _ _ _ _ h hH (lv_sub hl [] rfl)
  rw [if_neg e_42] at h
  by_cases e_47 : x0 = 31
  · rw [if_pos e_47] at h
    refine fu_hit (tgt := 172) 31 e_47 hx hb d_O_takes_1 (by decide) (by decide) rfl (by decide) ?_
    refine lv_iload_n hx hb d_O_takes_172 rfl (lv_at hl 1 rfl) ?_
    refine lv_bipush (v := 10) hx hb d_O_takes_173 (by decide) ?_
    obtain ⟨r_45, v_43, hc_44, h⟩ := bi_out h
    refine bn_ti (r := r_45) (w := (q, g, v_43)) (as := [.int x1, .int 10]) (rest := []) C0 hH (c_B_isBelow hl0 hc_44) yy_B_isBelow (C0.2.2.2.2.2.2.2.2.1.2.2.2.2.2.2.1 _ (List.mem_of_getElem? (i := 3) rfl)) (by decide) rfl hl.1 rfl (Nat.le_of_ble_eq_true rfl) ⟨Nat.zero_le _, Nat.zero_le _⟩ d_O_takes_175 (fun H locs hH => ?_)
    obtain ⟨g_46, h⟩ := gd_out h
    exact bn_zret (z01 g_46) C0 hr hH d_O_takes_178 (pq h)
  rw [if_neg e_47] at h
  refine lv_tableOut (tgt := 179) hx hb d_O_takes_1 (fu_out 31 (by decide) (fun k9 hk9 => match k9, hk9 with | 0, _ => lv_neT e_1 (by decide) | 1, _ => lv_neT e_2 (by decide) | 2, _ => lv_neT e_3 (by decide) | 3, _ => lv_neT e_4 (by decide) | 4, _ => lv_neT e_5 (by decide) | 5, _ => lv_neT e_6 (by decide) | 6, _ => lv_neT e_7 (by decide) | 7, _ => lv_neT e_12 (by decide) | 8, _ => lv_neT e_13 (by decide) | 9, _ => lv_neT e_14 (by decide) | 10, _ => lv_neT e_15 (by decide) | 11, _ => lv_neT e_20 (by decide) | 12, _ => lv_neT e_25 (by decide) | 13, _ => lv_neT e_26 (by decide) | 14, _ => lv_neT e_27 (by decide) | 15, _ => lv_neT e_28 (by decide) | 16, _ => lv_neT e_29 (by decide) | 17, _ => lv_neT e_30 (by decide) | 18, _ => lv_neT e_31 (by decide) | 19, _ => lv_neT e_32 (by decide) | 20, _ => lv_neT e_33 (by decide) | 21, _ => lv_neT e_34 (by decide) | 22, _ => lv_neT e_35 (by decide) | 23, _ => lv_neT e_36 (by decide) | 24, _ => lv_neT e_37 (by decide) | 25, _ => lv_neT e_38 (by decide) | 26, _ => lv_neT e_39 (by decide) | 27, _ => lv_neT e_40 (by decide) | 28, _ => lv_neT e_41 (by decide) | 29, _ => lv_neT e_42 (by decide) | 30, _ => lv_neT e_47 (by decide) | k9 + 31, hk9 => absurd hk9 (by omega))) (by decide) ?_
  exact w_O_takes_179 C0 hr   _ _ _ _ h hH (lv_sub hl [] rfl)
def f_V_kindOf (g : Nat → Nat) (v : mS) (x1 : Int32) : Option (Int32 × mS) := gd (inB x1 (g 4)) (some (v 4 (x1 : Int32).toNatClampNeg, v))
set_option maxHeartbeats 4000000 in
set_option maxRecDepth 100000 in
theorem c_V_kindOf {l : Launch} {Z : bZ} {q g : Nat → Nat} (hl0 : l.stackTraces = false) {v : mS}  {x1 : Int32} {o : Int32 × mS} (h : f_V_kindOf g v x1 = some o) : bn_M l Z 0 y_V_kindOf b_V_kindOf 2 (some .int) [.ref (q 1), .int x1] (q, g, v) (bn_Qi Z o.1 (q, g, o.2)) := by
  refine bn_of hl0 (by decide +kernel) (Nat.le_of_ble_eq_true rfl) ?_
  intro p e s m below meth c A ls C0 hr hl hH
  have hx := C0.1
  have hb := C0.2.1
  have C0 : bn_C "FilterBench$Values" b_V_kindOf 2 Z A p l s m _ meth c := C0
  have hl : lv_has ls 2 [(0, .ref (q 1)), (1, .int x1)] := hl
  unfold f_V_kindOf at h
  refine lv_aload_n hx hb d_V_kindOf_0 rfl (lv_at hl 0 rfl) ?_
  refine bn_g_V_cells ⟨by decide, by decide⟩ C0 hH d_V_kindOf_1 ?_
  refine lv_iload_n hx hb d_V_kindOf_4 rfl (lv_at hl 1 rfl) ?_
  obtain ⟨g_1, h⟩ := gd_out h
  refine bn_ld ⟨by decide, by decide⟩ C0 hH (inB_in g_1) d_V_kindOf_5 ?_
  exact bn_iret C0 hr hH d_V_kindOf_6 (pq h)
def f_V_lengthOf (g : Nat → Nat) (v : mS) (x1 : Int32) : Option (Int32 × mS) := gd (inB (x1 + 1) (g 4)) (some (v 4 (x1 + 1 : Int32).toNatClampNeg, v))
set_option maxHeartbeats 4000000 in
set_option maxRecDepth 100000 in
theorem c_V_lengthOf {l : Launch} {Z : bZ} {q g : Nat → Nat} (hl0 : l.stackTraces = false) {v : mS}  {x1 : Int32} {o : Int32 × mS} (h : f_V_lengthOf g v x1 = some o) : bn_M l Z 0 y_V_lengthOf b_V_lengthOf 2 (some .int) [.ref (q 1), .int x1] (q, g, v) (bn_Qi Z o.1 (q, g, o.2)) := by
  refine bn_of hl0 (by decide +kernel) (Nat.le_of_ble_eq_true rfl) ?_
  intro p e s m below meth c A ls C0 hr hl hH
  have hx := C0.1
  have hb := C0.2.1
  have C0 : bn_C "FilterBench$Values" b_V_lengthOf 2 Z A p l s m _ meth c := C0
  have hl : lv_has ls 2 [(0, .ref (q 1)), (1, .int x1)] := hl
  unfold f_V_lengthOf at h
  refine lv_aload_n hx hb d_V_lengthOf_0 rfl (lv_at hl 0 rfl) ?_
  refine bn_g_V_cells ⟨by decide, by decide⟩ C0 hH d_V_lengthOf_1 ?_
  refine lv_iload_n hx hb d_V_lengthOf_4 rfl (lv_at hl 1 rfl) ?_
  refine lv_iconst (v := 1) hx hb d_V_lengthOf_5 (by decide) ?_
  refine lv_iadd hx hb d_V_lengthOf_6 ?_
  obtain ⟨g_1, h⟩ := gd_out h
  refine bn_ld ⟨by decide, by decide⟩ C0 hH (inB_in g_1) d_V_lengthOf_7 ?_
  exact bn_iret C0 hr hH d_V_lengthOf_8 (pq h)
def f_V_sizeOf (g : Nat → Nat) (v : mS) (x1 : Int32) : Option (Int32 × mS) := gd (inB (x1 + 2) (g 4)) (some (v 4 (x1 + 2 : Int32).toNatClampNeg, v))
set_option maxHeartbeats 4000000 in
set_option maxRecDepth 100000 in
theorem c_V_sizeOf {l : Launch} {Z : bZ} {q g : Nat → Nat} (hl0 : l.stackTraces = false) {v : mS}  {x1 : Int32} {o : Int32 × mS} (h : f_V_sizeOf g v x1 = some o) : bn_M l Z 0 y_V_sizeOf b_V_sizeOf 2 (some .int) [.ref (q 1), .int x1] (q, g, v) (bn_Qi Z o.1 (q, g, o.2)) := by
  refine bn_of hl0 (by decide +kernel) (Nat.le_of_ble_eq_true rfl) ?_
  intro p e s m below meth c A ls C0 hr hl hH
  have hx := C0.1
  have hb := C0.2.1
  have C0 : bn_C "FilterBench$Values" b_V_sizeOf 2 Z A p l s m _ meth c := C0
  have hl : lv_has ls 2 [(0, .ref (q 1)), (1, .int x1)] := hl
  unfold f_V_sizeOf at h
  refine lv_aload_n hx hb d_V_sizeOf_0 rfl (lv_at hl 0 rfl) ?_
  refine bn_g_V_cells ⟨by decide, by decide⟩ C0 hH d_V_sizeOf_1 ?_
  refine lv_iload_n hx hb d_V_sizeOf_4 rfl (lv_at hl 1 rfl) ?_
  refine lv_iconst (v := 2) hx hb d_V_sizeOf_5 (by decide) ?_
  refine lv_iadd hx hb d_V_sizeOf_6 ?_
  obtain ⟨g_1, h⟩ := gd_out h
  refine bn_ld ⟨by decide, by decide⟩ C0 hH (inB_in g_1) d_V_sizeOf_7 ?_
  exact bn_iret C0 hr hH d_V_sizeOf_8 (pq h)
def f_V_wholeOf (g : Nat → Nat) (v : mS) (x1 : Int32) : Option (Int32 × mS) := gd (inB (x1 + 4) (g 4)) (some (v 4 (x1 + 4 : Int32).toNatClampNeg, v))
set_option maxHeartbeats 4000000 in
set_option maxRecDepth 100000 in
theorem c_V_wholeOf {l : Launch} {Z : bZ} {q g : Nat → Nat} (hl0 : l.stackTraces = false) {v : mS}  {x1 : Int32} {o : Int32 × mS} (h : f_V_wholeOf g v x1 = some o) : bn_M l Z 0 y_V_wholeOf b_V_wholeOf 2 (some .int) [.ref (q 1), .int x1] (q, g, v) (bn_Qi Z o.1 (q, g, o.2)) := by
  refine bn_of hl0 (by decide +kernel) (Nat.le_of_ble_eq_true rfl) ?_
  intro p e s m below meth c A ls C0 hr hl hH
  have hx := C0.1
  have hb := C0.2.1
  have C0 : bn_C "FilterBench$Values" b_V_wholeOf 2 Z A p l s m _ meth c := C0
  have hl : lv_has ls 2 [(0, .ref (q 1)), (1, .int x1)] := hl
  unfold f_V_wholeOf at h
  refine lv_aload_n hx hb d_V_wholeOf_0 rfl (lv_at hl 0 rfl) ?_
  refine bn_g_V_cells ⟨by decide, by decide⟩ C0 hH d_V_wholeOf_1 ?_
  refine lv_iload_n hx hb d_V_wholeOf_4 rfl (lv_at hl 1 rfl) ?_
  refine lv_iconst (v := 4) hx hb d_V_wholeOf_5 (by decide) ?_
  refine lv_iadd hx hb d_V_wholeOf_6 ?_
  obtain ⟨g_1, h⟩ := gd_out h
  refine bn_ld ⟨by decide, by decide⟩ C0 hH (inB_in g_1) d_V_wholeOf_7 ?_
  exact bn_iret C0 hr hH d_V_wholeOf_8 (pq h)
def f_V_scaleOf (g : Nat → Nat) (v : mS) (x1 : Int32) : Option (Int32 × mS) := gd (inB ((x1 + 4) + 1) (g 4)) (some (v 4 ((x1 + 4) + 1 : Int32).toNatClampNeg, v))
set_option maxHeartbeats 4000000 in
set_option maxRecDepth 100000 in
theorem c_V_scaleOf {l : Launch} {Z : bZ} {q g : Nat → Nat} (hl0 : l.stackTraces = false) {v : mS}  {x1 : Int32} {o : Int32 × mS} (h : f_V_scaleOf g v x1 = some o) : bn_M l Z 0 y_V_scaleOf b_V_scaleOf 2 (some .int) [.ref (q 1), .int x1] (q, g, v) (bn_Qi Z o.1 (q, g, o.2)) := by
  refine bn_of hl0 (by decide +kernel) (Nat.le_of_ble_eq_true rfl) ?_
  intro p e s m below meth c A ls C0 hr hl hH
  have hx := C0.1
  have hb := C0.2.1
  have C0 : bn_C "FilterBench$Values" b_V_scaleOf 2 Z A p l s m _ meth c := C0
  have hl : lv_has ls 2 [(0, .ref (q 1)), (1, .int x1)] := hl
  unfold f_V_scaleOf at h
  refine lv_aload_n hx hb d_V_scaleOf_0 rfl (lv_at hl 0 rfl) ?_
  refine bn_g_V_cells ⟨by decide, by decide⟩ C0 hH d_V_scaleOf_1 ?_
  refine lv_iload_n hx hb d_V_scaleOf_4 rfl (lv_at hl 1 rfl) ?_
  refine lv_iconst (v := 4) hx hb d_V_scaleOf_5 (by decide) ?_
  refine lv_iadd hx hb d_V_scaleOf_6 ?_
  refine lv_iconst (v := 1) hx hb d_V_scaleOf_7 (by decide) ?_
  refine lv_iadd hx hb d_V_scaleOf_8 ?_
  obtain ⟨g_1, h⟩ := gd_out h
  refine bn_ld ⟨by decide, by decide⟩ C0 hH (inB_in g_1) d_V_scaleOf_9 ?_
  exact bn_iret C0 hr hH d_V_scaleOf_10 (pq h)
def f_V_letterAt (g : Nat → Nat) (v : mS) (x1 : Int32) (x2 : Int32) : Option (Int32 × mS) := gd (inB ((x1 + 4) + x2) (g 4)) (some (v 4 ((x1 + 4) + x2 : Int32).toNatClampNeg, v))
set_option maxHeartbeats 4000000 in
set_option maxRecDepth 100000 in
theorem c_V_letterAt {l : Launch} {Z : bZ} {q g : Nat → Nat} (hl0 : l.stackTraces = false) {v : mS}  {x1 : Int32} {x2 : Int32} {o : Int32 × mS} (h : f_V_letterAt g v x1 x2 = some o) : bn_M l Z 0 y_V_letterAt b_V_letterAt 3 (some .int) [.ref (q 1), .int x1, .int x2] (q, g, v) (bn_Qi Z o.1 (q, g, o.2)) := by
  refine bn_of hl0 (by decide +kernel) (Nat.le_of_ble_eq_true rfl) ?_
  intro p e s m below meth c A ls C0 hr hl hH
  have hx := C0.1
  have hb := C0.2.1
  have C0 : bn_C "FilterBench$Values" b_V_letterAt 3 Z A p l s m _ meth c := C0
  have hl : lv_has ls 3 [(0, .ref (q 1)), (1, .int x1), (2, .int x2)] := hl
  unfold f_V_letterAt at h
  refine lv_aload_n hx hb d_V_letterAt_0 rfl (lv_at hl 0 rfl) ?_
  refine bn_g_V_cells ⟨by decide, by decide⟩ C0 hH d_V_letterAt_1 ?_
  refine lv_iload_n hx hb d_V_letterAt_4 rfl (lv_at hl 1 rfl) ?_
  refine lv_iconst (v := 4) hx hb d_V_letterAt_5 (by decide) ?_
  refine lv_iadd hx hb d_V_letterAt_6 ?_
  refine lv_iload_n hx hb d_V_letterAt_7 rfl (lv_at hl 2 rfl) ?_
  refine lv_iadd hx hb d_V_letterAt_8 ?_
  obtain ⟨g_1, h⟩ := gd_out h
  refine bn_ld ⟨by decide, by decide⟩ C0 hH (inB_in g_1) d_V_letterAt_9 ?_
  exact bn_iret C0 hr hH d_V_letterAt_10 (pq h)
def f_V_itemAt (g : Nat → Nat) (v : mS) (x1 : Int32) (x2 : Int32) : Option (Int32 × mS) := gd (inB ((x1 + 4) + x2) (g 4)) (some (v 4 ((x1 + 4) + x2 : Int32).toNatClampNeg, v))
set_option maxHeartbeats 4000000 in
set_option maxRecDepth 100000 in
theorem c_V_itemAt {l : Launch} {Z : bZ} {q g : Nat → Nat} (hl0 : l.stackTraces = false) {v : mS}  {x1 : Int32} {x2 : Int32} {o : Int32 × mS} (h : f_V_itemAt g v x1 x2 = some o) : bn_M l Z 0 y_V_itemAt b_V_itemAt 3 (some .int) [.ref (q 1), .int x1, .int x2] (q, g, v) (bn_Qi Z o.1 (q, g, o.2)) := by
  refine bn_of hl0 (by decide +kernel) (Nat.le_of_ble_eq_true rfl) ?_
  intro p e s m below meth c A ls C0 hr hl hH
  have hx := C0.1
  have hb := C0.2.1
  have C0 : bn_C "FilterBench$Values" b_V_itemAt 3 Z A p l s m _ meth c := C0
  have hl : lv_has ls 3 [(0, .ref (q 1)), (1, .int x1), (2, .int x2)] := hl
  unfold f_V_itemAt at h
  refine lv_aload_n hx hb d_V_itemAt_0 rfl (lv_at hl 0 rfl) ?_
  refine bn_g_V_cells ⟨by decide, by decide⟩ C0 hH d_V_itemAt_1 ?_
  refine lv_iload_n hx hb d_V_itemAt_4 rfl (lv_at hl 1 rfl) ?_
  refine lv_iconst (v := 4) hx hb d_V_itemAt_5 (by decide) ?_
  refine lv_iadd hx hb d_V_itemAt_6 ?_
  refine lv_iload_n hx hb d_V_itemAt_7 rfl (lv_at hl 2 rfl) ?_
  refine lv_iadd hx hb d_V_itemAt_8 ?_
  obtain ⟨g_1, h⟩ := gd_out h
  refine bn_ld ⟨by decide, by decide⟩ C0 hH (inB_in g_1) d_V_itemAt_9 ?_
  exact bn_iret C0 hr hH d_V_itemAt_10 (pq h)
def f_V_nameAt (g : Nat → Nat) (v : mS) (x1 : Int32) (x2 : Int32) : Option (Int32 × mS) := gd (inB (x1 + 1) (g 4)) (gd (inB (((x1 + 4) + (v 4 (x1 + 1 : Int32).toNatClampNeg)) + x2) (g 4)) (some (v 4 (((x1 + 4) + (v 4 (x1 + 1 : Int32).toNatClampNeg)) + x2 : Int32).toNatClampNeg, v)))
set_option maxHeartbeats 4000000 in
set_option maxRecDepth 100000 in
theorem c_V_nameAt {l : Launch} {Z : bZ} {q g : Nat → Nat} (hl0 : l.stackTraces = false) {v : mS}  {x1 : Int32} {x2 : Int32} {o : Int32 × mS} (h : f_V_nameAt g v x1 x2 = some o) : bn_M l Z 0 y_V_nameAt b_V_nameAt 3 (some .int) [.ref (q 1), .int x1, .int x2] (q, g, v) (bn_Qi Z o.1 (q, g, o.2)) := by
  refine bn_of hl0 (by decide +kernel) (Nat.le_of_ble_eq_true rfl) ?_
  intro p e s m below meth c A ls C0 hr hl hH
  have hx := C0.1
  have hb := C0.2.1
  have C0 : bn_C "FilterBench$Values" b_V_nameAt 3 Z A p l s m _ meth c := C0
  have hl : lv_has ls 3 [(0, .ref (q 1)), (1, .int x1), (2, .int x2)] := hl
  unfold f_V_nameAt at h
  refine lv_aload_n hx hb d_V_nameAt_0 rfl (lv_at hl 0 rfl) ?_
  refine bn_g_V_cells ⟨by decide, by decide⟩ C0 hH d_V_nameAt_1 ?_
  refine lv_iload_n hx hb d_V_nameAt_4 rfl (lv_at hl 1 rfl) ?_
  refine lv_iconst (v := 4) hx hb d_V_nameAt_5 (by decide) ?_
  refine lv_iadd hx hb d_V_nameAt_6 ?_
  refine lv_aload_n hx hb d_V_nameAt_7 rfl (lv_at hl 0 rfl) ?_
  refine bn_g_V_cells ⟨by decide, by decide⟩ C0 hH d_V_nameAt_8 ?_
  refine lv_iload_n hx hb d_V_nameAt_11 rfl (lv_at hl 1 rfl) ?_
  refine lv_iconst (v := 1) hx hb d_V_nameAt_12 (by decide) ?_
  refine lv_iadd hx hb d_V_nameAt_13 ?_
  obtain ⟨g_1, h⟩ := gd_out h
  refine bn_ld ⟨by decide, by decide⟩ C0 hH (inB_in g_1) d_V_nameAt_14 ?_
  refine lv_iadd hx hb d_V_nameAt_15 ?_
  refine lv_iload_n hx hb d_V_nameAt_16 rfl (lv_at hl 2 rfl) ?_
  refine lv_iadd hx hb d_V_nameAt_17 ?_
  obtain ⟨g_2, h⟩ := gd_out h
  refine bn_ld ⟨by decide, by decide⟩ C0 hH (inB_in g_2) d_V_nameAt_18 ?_
  exact bn_iret C0 hr hH d_V_nameAt_19 (pq h)
def f_V_hasParts_14 (g : Nat → Nat)  (y0 : Int32) (v : mS) : Option (Int32 × mS) := gd (decide (y0 = 0 ∨ y0 = 1)) (some (y0, v))
set_option maxHeartbeats 4000000 in
set_option maxRecDepth 100000 in
theorem w_V_hasParts_14 {p : Program} {l : Launch} {e : Env} {s : State} {m : MethodId} {args : Array Value} {below : List Frame} {meth : Method} {c : Code} {Z : bZ} {A : Nat → Prop} {q g : Nat → Nat} {o : Int32 × mS}  (C0 : bn_C "FilterBench$Values" b_V_hasParts 2 Z A p l s m args meth c) (hr : meth.sig.returnType = (some .boolean)) : ∀ (y0 : Int32) (v : mS) (H : Heap) (locs : List Loc) (ls : Array Slot), f_V_hasParts_14 g  y0 v = some o → bn_H Z A s (q, g, v) H locs → lv_has ls 2 [] → W p l e (mo_rm 1) s m args below meth c H locs 0 0 (MQ below (bn_Qi Z o.1 (q, g, o.2) A) args s 0 0 A) (F0 m 14 ls [.int y0]) := by
  have hx := C0.1
  have hb := C0.2.1
  have hl0 := C0.2.2.2.2.2.2.2.2.2
  intro y0 v H locs ls h hH hl
  unfold f_V_hasParts_14 at h
  obtain ⟨g_1, h⟩ := gd_out h
  exact bn_zret (z01 g_1) C0 hr hH d_V_hasParts_14 (pq h)
def f_V_hasParts (g : Nat → Nat) (v : mS) (x1 : Int32) : Option (Int32 × mS) := bi (f_V_kindOf g v x1) fun r_3 v_1 => if r_3 < 5 then (f_V_hasParts_14 g 0 v_1) else (f_V_hasParts_14 g 1 v_1)
set_option maxHeartbeats 4000000 in
set_option maxRecDepth 100000 in
theorem c_V_hasParts {l : Launch} {Z : bZ} {q g : Nat → Nat} (hl0 : l.stackTraces = false) {v : mS}  {x1 : Int32} {o : Int32 × mS} (h : f_V_hasParts g v x1 = some o) : bn_M l Z 1 y_V_hasParts b_V_hasParts 2 (some .boolean) [.ref (q 1), .int x1] (q, g, v) (bn_Qi Z o.1 (q, g, o.2)) := by
  refine bn_of hl0 (by decide +kernel) (Nat.le_of_ble_eq_true rfl) ?_
  intro p e s m below meth c A ls C0 hr hl hH
  have hx := C0.1
  have hb := C0.2.1
  have C0 : bn_C "FilterBench$Values" b_V_hasParts 2 Z A p l s m _ meth c := C0
  have hl : lv_has ls 2 [(0, .ref (q 1)), (1, .int x1)] := hl
  unfold f_V_hasParts at h
  refine lv_aload_n hx hb d_V_hasParts_0 rfl (lv_at hl 0 rfl) ?_
  refine lv_iload_n hx hb d_V_hasParts_1 rfl (lv_at hl 1 rfl) ?_
  obtain ⟨r_3, v_1, hc_2, h⟩ := bi_out h
  refine bn_ci (r := r_3) (w := (q, g, v_1)) (as := [.int x1]) (rest := []) C0 hH (ci := 4) ⟨by decide, by decide⟩ (by decide) rfl (c_V_kindOf hl0 hc_2) yy_V_kindOf q_519 (by decide) rfl hl.1 rfl (Nat.le_of_ble_eq_true rfl) ⟨Nat.zero_le _, Nat.zero_le _⟩ d_V_hasParts_2 (fun H locs hH => ?_)
  refine lv_iconst (v := 5) hx hb d_V_hasParts_5 (by decide) ?_
  refine lv_icmp_lt (tgt := 13) hx hb d_V_hasParts_6 (by decide) (fun c_4 => ?_) (fun c_4 => ?_)
  · rw [if_pos c_4] at h
    refine lv_iconst (v := 0) hx hb d_V_hasParts_13 (by decide) ?_
    exact w_V_hasParts_14 C0 hr  _ _ _ _ _ h hH (lv_sub hl [] rfl)
  · rw [if_neg c_4] at h
    refine lv_iconst (v := 1) hx hb d_V_hasParts_9 (by decide) ?_
    refine lv_goto (tgt := 14) hx hb d_V_hasParts_10 (by decide) ?_
    exact w_V_hasParts_14 C0 hr  _ _ _ _ _ h hH (lv_sub hl [] rfl)
