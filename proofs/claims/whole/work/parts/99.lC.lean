/-! the law: one call at a time -/
set_option maxHeartbeats 4000000 in
set_option maxRecDepth 100000 in
theorem lz_tail {p : Program} {l : Launch} {e : Env} {s : State} {m : MethodId} {below : List Frame} {meth : Method} {c : Code} {H : Heap} {locs : List Loc} {cells slots : Nat} {Q : State → Prop} {ls : Array Slot} {Z : bZ} {cJ : ClassId} {b L : Nat} {xs : Nat → Int32} {qo q0 : Nat} {f : Nat → Int64} {qm : Nat → Nat} {u : bS} {w : mS} {k r x : Int32} {T : Nat} {G : Int} (K : lz_C Z cJ p l s m meth c b L xs)
    (hH : bc_H Z (fun q => s.heap.size ≤ q) s (((qo, eL cJ f) :: bn_ws Z u) ++ mo_ws Z.2.1 qm w) H locs) (ha : lz_ag k r f w) (hl : lv_has ls 7 [(5, .int k), (4, .int x), (0, .ref b), (1, .ref q0), (2, .ref (qm 0)), (3, .ref qo)]) (hc : cells ≤ 601024 ∧ slots ≤ 7293034)
    (d0 : decode b_L_law T = .ok (.istore 6, 2)) (d1 : decode b_L_law (T + 2) = .ok (.aload_n 2, 1)) (d2 : decode b_L_law (T + 3) = .ok (.invokevirtual 61, 3)) (d3 : decode b_L_law (T + 6) = .ok (.iload 5, 2)) (d4 : decode b_L_law (T + 8) = .ok (.if_icmp .eq 5, 3)) (d5 : decode b_L_law (T + 13) = .ok (.iload 5, 2)) (d6 : decode b_L_law (T + 15) = .ok (.ifCond .ne 15, 3)) (d7 : decode b_L_law (T + 18) = .ok (.aload_n 3, 1)) (d8 : decode b_L_law (T + 19) = .ok (.iconst 0, 1)) (d9 : decode b_L_law (T + 20) = .ok (.laload, 1)) (d10 : decode b_L_law (T + 21) = .ok (.iload 6, 2)) (d11 : decode b_L_law (T + 23) = .ok (.i2l, 1)) (d12 : decode b_L_law (T + 24) = .ok (.lcmp, 1)) (d13 : decode b_L_law (T + 25) = .ok (.ifCond .eq 5, 3)) (d14 : decode b_L_law (T + 30) = .ok (.goto G, 3)) (hG : ((T + 30 : Nat) : Int) + G = ((881 : Nat) : Int))
    (kk : ∀ (ls1 : Array Slot) (H1 : Heap) (locs1 : List Loc), lv_has ls1 7 [(4, .int x), (0, .ref b), (1, .ref q0), (2, .ref (qm 0)), (3, .ref qo)] → bc_H Z (fun q => s.heap.size ≤ q) s (((qo, eL cJ f) :: bn_ws Z u) ++ mo_ws Z.2.1 qm w) H1 locs1 → W p l e room_1 s m #[Value.ref b] below meth c H1 locs1 cells slots Q (F0 m 881 ls1 [])) :
    W p l e room_1 s m #[Value.ref b] below meth c H locs cells slots Q (F0 m T ls [.int r]) := by
  obtain ⟨C0, hE, hX9, hbl⟩ := K
  have hx := C0.1
  have hb := C0.2.1
  refine lv_istore (lv' := [(6, .int r), (5, .int k), (4, .int x), (0, .ref b), (1, .ref q0), (2, .ref (qm 0)), (3, .ref qo)]) hx hb d0 hl (by decide) rfl (fun ls hl => ?_)
  refine lv_aload_n hx hb d1 rfl (lv_at hl 5 rfl) ?_
  refine lz_ci (X := (qo, eL cJ f) :: bn_ws Z u) (qm := qm) (v := w) (w2 := w) (r := w 0 0) (as := []) (rest := []) C0 hH (c_M_thrown rfl) yy_M_thrown q_1042 ⟨Nat.le_of_ble_eq_true rfl, Nat.le_of_ble_eq_true rfl⟩ rfl hl.1 rfl (Nat.le_of_ble_eq_true rfl) hc d2 (fun H locs hH => ?_)
  refine lv_iload hx hb d3 (lv_at hl 1 rfl) ?_
  refine lv_icmp_eq (tgt := T + 13) hx hb d4 (by omega) (fun c1 => ?_) (fun c1 => ?_)
  · refine lv_iload hx hb d5 (lv_at hl 1 rfl) ?_
    have last : ∀ (ls : Array Slot), lv_has ls 7 [(6, .int r), (5, .int k), (4, .int x), (0, .ref b), (1, .ref q0), (2, .ref (qm 0)), (3, .ref qo)] → W p l e room_1 s m #[Value.ref b] below meth c H locs cells slots Q (F0 m (T + 30) ls []) := fun ls hl => by
      refine lv_goto (tgt := 881) hx hb d14 hG ?_
      exact kk ls H locs (lv_sub hl [2, 3, 4, 5, 6] rfl) hH
    refine lv_if_ne (tgt := T + 30) hx hb d6 (by omega) (fun c2 => ?_) (fun c2 => ?_)
    · exact last ls hl
    · have c2 : k = 0 := c2
      refine lv_aload_n hx hb d7 rfl (lv_at hl 6 rfl) ?_
      refine lv_iconst (v := 0) hx hb d8 (by decide) ?_
      refine va_lald hx hb hE.2 hH.1 0 0 (f := f) rfl rfl (vpI (v := 0) (by decide) (by decide)) d9 ?_
      refine lv_iload hx hb d10 (lv_at hl 0 rfl) ?_
      refine lv_i2l hx hb d11 rfl ?_
      refine W.lcmp hx hb d12 ?_
      have h0 : f ((0 : Int32).toNatClampNeg) = r.toInt64 := by
        rcases ha with ⟨_, _, h⟩ | ⟨h, _⟩
        · exact h
        · exact absurd c2 h
      refine fu_i (y := 0) (by rw [h0]; exact (lz_cmp _).symm) ?_
      refine lv_if_eq (tgt := T + 30) hx hb d13 (by omega) (fun c3 => ?_) (fun c3 => ?_)
      · exact last ls hl
      · exact absurd rfl c3
  · exfalso
    rcases ha with ⟨h1, h2, _⟩ | ⟨_, h2⟩
    · exact c1 (by rw [h1, h2])
    · exact c1 h2
/-- the room that is used after c calls -/
abbrev lz_k (g : Nat → Nat) (c : Nat) : Nat := 90 + (gL g - 1024) + c
abbrev lz_n (g : Nat → Nat) (c : Nat) : Nat := 75660 + 2 * (gL g - 1024) + 6 * c
theorem lz_rk {c : Nat} {g : Nat → Nat} {v w : mS} (h : zZ c g v w) (hc : c ≤ 600) : lz_k g c ≤ 601024 ∧ lz_n g c ≤ 7293034 := by
  obtain ⟨S, X, N, op, ar, O, E, st, er, rm, _, ⟨T, hM, _, h5, _⟩, _⟩ := h
  have h4 := hM.2.2.2.2.1
  have h5 := h5.2
  unfold lz_k lz_n gL
  omega
theorem lz_tc {α : Type} (o : bO α) : tc o ≤ 1 := by
  unfold tc
  cases o.1 <;> simp
/-- what holds at the loop's head, and behind a call -/
abbrev lz_H (Z : bZ) (cJ : ClassId) (s : State) (c : Nat) (qo : Nat) (f : Nat → Int64) (q g : Nat → Nat) (v : mS) (qm : Nat → Nat) (w : mS) (H : Heap) (locs : List Loc) : Prop := zZ c g v w ∧ 1024 ≤ gL g ∧ bc_H Z (fun q => s.heap.size ≤ q) s (((qo, eL cJ f) :: bn_ws Z (q, g, v)) ++ mo_ws Z.2.1 qm w) H locs
abbrev lz_l (i : Int32) (b q0 qm qo : Nat) : List (Nat × Value) := [(4, .int i), (0, .ref b), (1, .ref q0), (2, .ref qm), (3, .ref qo)]
abbrev lz_go (p : Program) (l : Launch) (e : Env) (s : State) (m : MethodId) (below : List Frame) (meth : Method) (c : Code) (Q : State → Prop) (Z : bZ) (cJ : ClassId) (b : Nat) (cn : Nat) (qo q0 : Nat) (qm : Nat → Nat) (x : Int32) : Prop := ∀ (f : Nat → Int64) (q g : Nat → Nat) (v w : mS) (ls : Array Slot) (H : Heap) (locs : List Loc), q 0 = q0 → lz_H Z cJ s cn qo f q g v qm w H locs → lv_has ls 7 (lz_l x b q0 (qm 0) qo) → W p l e room_1 s m #[Value.ref b] below meth c H locs (lz_k g cn) (lz_n g cn) Q (F0 m 881 ls [])

set_option maxHeartbeats 8000000 in
set_option maxRecDepth 100000 in
theorem lz_letter {p : Program} {l : Launch} {e : Env} {s : State} {m : MethodId} {below : List Frame} {meth : Method} {c : Code} {H : Heap} {locs : List Loc} {Q : State → Prop} {ls : Array Slot} {Z : bZ} {cJ : ClassId} {b L : Nat} {xs : Nat → Int32} {qo : Nat} {f : Nat → Int64} {q g qm : Nat → Nat} {v w : mS} {cn i : Nat} (K : lz_C Z cJ p l s m meth c b L xs) (hi : i + 5 ≤ L) (hL : L ≤ 2560) (hcn : cn + 1 ≤ 600) (hh : lz_H Z cJ s cn qo f q g v qm w H locs) (hl : lv_has ls 7 (lz_l (zI i) b (q 0) (qm 0) qo)) (kk : lz_go p l e s m below meth c Q Z cJ b (cn + 1) qo (q 0) qm (zI i)) :
    W p l e room_1 s m #[Value.ref b] below meth c H locs (lz_k g cn) (lz_n g cn) Q (F0 m 96 ls []) := by
  obtain ⟨C0, hE, hX9, hbl⟩ := id K
  have hx := C0.1
  have hb := C0.2.1
  have hbA : ¬ (fun q : Nat => s.heap.size ≤ q) b := Nat.not_le.mpr hbl
  obtain ⟨hz, hg, hH⟩ := hh
  have e1 : zI i + 1 = zI (i + 1) := by rw [zl_1, zI_add]
  have e2 : zI i + 2 = zI (i + 2) := by rw [zl_2, zI_add]
  refine lv_aload_n hx hb d_L_law_96 rfl (lv_at hl 2 rfl) ?_
  refine lv_aload_n hx hb d_L_law_97 rfl (lv_at hl 1 rfl) ?_
  refine lv_iload hx hb d_L_law_98 (lv_at hl 0 rfl) ?_
  refine lv_iconst (v := 1) hx hb d_L_law_100 (by decide) ?_
  refine lv_iadd hx hb d_L_law_101 ?_
  refine fu_i e1.symm ?_
  refine va_sld hx hb hX9 hbl hbA hH.2.2 (vpI (by omega) (by omega)) d_L_law_102 ?_
  refine lv_aload_n hx hb d_L_law_103 rfl (lv_at hl 1 rfl) ?_
  refine lv_iload hx hb d_L_law_104 (lv_at hl 0 rfl) ?_
  refine lv_iconst (v := 2) hx hb d_L_law_106 (by decide) ?_
  refine lv_iadd hx hb d_L_law_107 ?_
  refine fu_i e2.symm ?_
  refine va_sld hx hb hX9 hbl hbA hH.2.2 (vpI (by omega) (by omega)) d_L_law_108 ?_
  refine lv_aload_n hx hb d_L_law_109 rfl (lv_at hl 4 rfl) ?_
  obtain ⟨o, g1, v1, r, w1, hF, hM, hag, hz1⟩ := z_letter (xs (zI (i + 1)).toNatClampNeg) (xs (zI (i + 2)).toNatClampNeg) (show cn ≤ 600 by omega) hz
  have hmn := mn_B_letter hF
  have hmn : gL g ≤ gL g1 := hmn
  have htc := lz_tc ((o, g1, v1) : bO Int32)
  have hroom := lz_rk hz1 (by omega)
  have hroom0 : lz_k g cn + mcO g ((o, g1, v1) : bO Int32) ≤ lz_k g1 (cn + 1) ∧ lz_n g cn + msO g ((o, g1, v1) : bO Int32) ≤ lz_n g1 (cn + 1) := by
    simp only [lz_k, lz_n, mcO, msO]
    omega
  have hH := bc_perm hH List.perm_append_comm
  refine hp_cS (as := [.ref (q 0), .int (xs (zI (i + 1)).toNatClampNeg), .int (xs (zI (i + 2)).toNatClampNeg), .ref qo]) (rest := []) C0 hE hH (h_letter (cJ := cJ) C0.2.2.2.2.2.2.2.2.2 hF (lz_4 hag)) (C := "FilterBenchLaw") rfl q_275 q_102 (by decide +kernel) (by decide +kernel) (n := 4) (by decide +kernel) q_274 q_273 ⟨Nat.le_of_ble_eq_true rfl, Nat.le_of_ble_eq_true rfl⟩ rfl hl.1 rfl (Nat.le_of_ble_eq_true rfl) ⟨Nat.le_trans hroom0.1 hroom.1, Nat.le_trans hroom0.2 hroom.2⟩ d_L_law_110 (fun k wA H locs hpo hH => ?_)
  obtain ⟨q1, f1, hq1, rfl, hka⟩ := lz_agree hpo hag
  refine W.widen (k := lz_k g1 (cn + 1)) (n := lz_n g1 (cn + 1)) hroom0.1 hroom0.2 ?_
  have hH := bc_perm hH List.perm_append_comm
  refine lv_istore (lv' := [(5, .int k), (4, .int (zI i)), (0, .ref b), (1, .ref (q 0)), (2, .ref (qm 0)), (3, .ref qo)]) hx hb d_L_law_113 hl (by decide) rfl (fun ls hl => ?_)
  refine lv_aload_n hx hb d_L_law_115 rfl (lv_at hl 4 rfl) ?_
  refine lv_aload_n hx hb d_L_law_116 rfl (lv_at hl 2 rfl) ?_
  refine lv_iload hx hb d_L_law_117 (lv_at hl 1 rfl) ?_
  refine lv_iconst (v := 1) hx hb d_L_law_119 (by decide) ?_
  refine lv_iadd hx hb d_L_law_120 ?_
  refine fu_i e1.symm ?_
  refine va_sld hx hb hX9 hbl hbA hH.2.2 (vpI (by omega) (by omega)) d_L_law_121 ?_
  refine lv_aload_n hx hb d_L_law_122 rfl (lv_at hl 2 rfl) ?_
  refine lv_iload hx hb d_L_law_123 (lv_at hl 1 rfl) ?_
  refine lv_iconst (v := 2) hx hb d_L_law_125 (by decide) ?_
  refine lv_iadd hx hb d_L_law_126 ?_
  refine fu_i e2.symm ?_
  refine va_sld hx hb hX9 hbl hbA hH.2.2 (vpI (by omega) (by omega)) d_L_law_127 ?_
  refine lz_ci (X := (qo, eL cJ f1) :: bn_ws Z (q1, g1, v1)) (as := [.int (xs (zI (i + 1)).toNatClampNeg), .int (xs (zI (i + 2)).toNatClampNeg)]) (rest := []) C0 hH (c_M_letter hM) yy_M_letter q_1046 ⟨Nat.le_of_ble_eq_true rfl, Nat.le_of_ble_eq_true rfl⟩ rfl hl.1 rfl (Nat.le_of_ble_eq_true rfl) hroom d_L_law_128 (fun H locs hH => ?_)
  exact lz_tail (T := 131) K hH hka hl hroom d_L_law_131 d_L_law_133 d_L_law_134 d_L_law_137 d_L_law_139 d_L_law_144 d_L_law_146 d_L_law_149 d_L_law_150 d_L_law_151 d_L_law_152 d_L_law_154 d_L_law_155 d_L_law_156 d_L_law_161 (by decide) (fun ls H locs hl hH => kk f1 q1 g1 v1 w1 ls H locs hq1 ⟨hz1, Nat.le_trans hg hmn, hH⟩ hl)

set_option maxHeartbeats 8000000 in
set_option maxRecDepth 100000 in
theorem lz_token {p : Program} {l : Launch} {e : Env} {s : State} {m : MethodId} {below : List Frame} {meth : Method} {c : Code} {H : Heap} {locs : List Loc} {Q : State → Prop} {ls : Array Slot} {Z : bZ} {cJ : ClassId} {b L : Nat} {xs : Nat → Int32} {qo : Nat} {f : Nat → Int64} {q g qm : Nat → Nat} {v w : mS} {cn i : Nat} (K : lz_C Z cJ p l s m meth c b L xs) (hi : i + 5 ≤ L) (hL : L ≤ 2560) (hcn : cn + 1 ≤ 600) (hh : lz_H Z cJ s cn qo f q g v qm w H locs) (hl : lv_has ls 7 (lz_l (zI i) b (q 0) (qm 0) qo)) (kk : lz_go p l e s m below meth c Q Z cJ b (cn + 1) qo (q 0) qm (zI i)) :
    W p l e room_1 s m #[Value.ref b] below meth c H locs (lz_k g cn) (lz_n g cn) Q (F0 m 164 ls []) := by
  obtain ⟨C0, hE, hX9, hbl⟩ := id K
  have hx := C0.1
  have hb := C0.2.1
  have hbA : ¬ (fun q : Nat => s.heap.size ≤ q) b := Nat.not_le.mpr hbl
  obtain ⟨hz, hg, hH⟩ := hh
  have e1 : zI i + 1 = zI (i + 1) := by rw [zl_1, zI_add]
  have e2 : zI i + 2 = zI (i + 2) := by rw [zl_2, zI_add]
  have e3 : zI i + 3 = zI (i + 3) := by rw [zl_3, zI_add]
  refine lv_aload_n hx hb d_L_law_164 rfl (lv_at hl 2 rfl) ?_
  refine lv_aload_n hx hb d_L_law_165 rfl (lv_at hl 1 rfl) ?_
  refine lv_iload hx hb d_L_law_166 (lv_at hl 0 rfl) ?_
  refine lv_iconst (v := 1) hx hb d_L_law_168 (by decide) ?_
  refine lv_iadd hx hb d_L_law_169 ?_
  refine fu_i e1.symm ?_
  refine va_sld hx hb hX9 hbl hbA hH.2.2 (vpI (by omega) (by omega)) d_L_law_170 ?_
  refine lv_aload_n hx hb d_L_law_171 rfl (lv_at hl 1 rfl) ?_
  refine lv_iload hx hb d_L_law_172 (lv_at hl 0 rfl) ?_
  refine lv_iconst (v := 2) hx hb d_L_law_174 (by decide) ?_
  refine lv_iadd hx hb d_L_law_175 ?_
  refine fu_i e2.symm ?_
  refine va_sld hx hb hX9 hbl hbA hH.2.2 (vpI (by omega) (by omega)) d_L_law_176 ?_
  refine lv_aload_n hx hb d_L_law_177 rfl (lv_at hl 1 rfl) ?_
  refine lv_iload hx hb d_L_law_178 (lv_at hl 0 rfl) ?_
  refine lv_iconst (v := 3) hx hb d_L_law_180 (by decide) ?_
  refine lv_iadd hx hb d_L_law_181 ?_
  refine fu_i e3.symm ?_
  refine va_sld hx hb hX9 hbl hbA hH.2.2 (vpI (by omega) (by omega)) d_L_law_182 ?_
  refine lv_aload_n hx hb d_L_law_183 rfl (lv_at hl 4 rfl) ?_
  obtain ⟨o, g1, v1, r, w1, hF, hM, hag, hz1⟩ := z_token (xs (zI (i + 1)).toNatClampNeg) (xs (zI (i + 2)).toNatClampNeg) (xs (zI (i + 3)).toNatClampNeg) hz
  have hmn := mn_B_token hF
  have hmn : gL g ≤ gL g1 := hmn
  have htc := lz_tc ((o, g1, v1) : bO Int32)
  have hroom := lz_rk hz1 (by omega)
  have hroom0 : lz_k g cn + mcO g ((o, g1, v1) : bO Int32) ≤ lz_k g1 (cn + 1) ∧ lz_n g cn + msO g ((o, g1, v1) : bO Int32) ≤ lz_n g1 (cn + 1) := by
    simp only [lz_k, lz_n, mcO, msO]
    omega
  have hH := bc_perm hH List.perm_append_comm
  refine hp_cS (as := [.ref (q 0), .int (xs (zI (i + 1)).toNatClampNeg), .int (xs (zI (i + 2)).toNatClampNeg), .int (xs (zI (i + 3)).toNatClampNeg), .ref qo]) (rest := []) C0 hE hH (h_token (cJ := cJ) C0.2.2.2.2.2.2.2.2.2 hF (lz_4 hag)) (C := "FilterBenchLaw") rfl q_408 q_102 (by decide +kernel) (by decide +kernel) (n := 5) (by decide +kernel) q_407 q_406 ⟨Nat.le_of_ble_eq_true rfl, Nat.le_of_ble_eq_true rfl⟩ rfl hl.1 rfl (Nat.le_of_ble_eq_true rfl) ⟨Nat.le_trans hroom0.1 hroom.1, Nat.le_trans hroom0.2 hroom.2⟩ d_L_law_184 (fun k wA H locs hpo hH => ?_)
  obtain ⟨q1, f1, hq1, rfl, hka⟩ := lz_agree hpo hag
  refine W.widen (k := lz_k g1 (cn + 1)) (n := lz_n g1 (cn + 1)) hroom0.1 hroom0.2 ?_
  have hH := bc_perm hH List.perm_append_comm
  refine lv_istore (lv' := [(5, .int k), (4, .int (zI i)), (0, .ref b), (1, .ref (q 0)), (2, .ref (qm 0)), (3, .ref qo)]) hx hb d_L_law_187 hl (by decide) rfl (fun ls hl => ?_)
  refine lv_aload_n hx hb d_L_law_189 rfl (lv_at hl 4 rfl) ?_
  refine lv_aload_n hx hb d_L_law_190 rfl (lv_at hl 2 rfl) ?_
  refine lv_iload hx hb d_L_law_191 (lv_at hl 1 rfl) ?_
  refine lv_iconst (v := 1) hx hb d_L_law_193 (by decide) ?_
  refine lv_iadd hx hb d_L_law_194 ?_
  refine fu_i e1.symm ?_
  refine va_sld hx hb hX9 hbl hbA hH.2.2 (vpI (by omega) (by omega)) d_L_law_195 ?_
  refine lv_aload_n hx hb d_L_law_196 rfl (lv_at hl 2 rfl) ?_
  refine lv_iload hx hb d_L_law_197 (lv_at hl 1 rfl) ?_
  refine lv_iconst (v := 2) hx hb d_L_law_199 (by decide) ?_
  refine lv_iadd hx hb d_L_law_200 ?_
  refine fu_i e2.symm ?_
  refine va_sld hx hb hX9 hbl hbA hH.2.2 (vpI (by omega) (by omega)) d_L_law_201 ?_
  refine lv_aload_n hx hb d_L_law_202 rfl (lv_at hl 2 rfl) ?_
  refine lv_iload hx hb d_L_law_203 (lv_at hl 1 rfl) ?_
  refine lv_iconst (v := 3) hx hb d_L_law_205 (by decide) ?_
  refine lv_iadd hx hb d_L_law_206 ?_
  refine fu_i e3.symm ?_
  refine va_sld hx hb hX9 hbl hbA hH.2.2 (vpI (by omega) (by omega)) d_L_law_207 ?_
  refine lz_ci (X := (qo, eL cJ f1) :: bn_ws Z (q1, g1, v1)) (as := [.int (xs (zI (i + 1)).toNatClampNeg), .int (xs (zI (i + 2)).toNatClampNeg), .int (xs (zI (i + 3)).toNatClampNeg)]) (rest := []) C0 hH (c_M_token hM) yy_M_token q_1057 ⟨Nat.le_of_ble_eq_true rfl, Nat.le_of_ble_eq_true rfl⟩ rfl hl.1 rfl (Nat.le_of_ble_eq_true rfl) hroom d_L_law_208 (fun H locs hH => ?_)
  exact lz_tail (T := 211) K hH hka hl hroom d_L_law_211 d_L_law_213 d_L_law_214 d_L_law_217 d_L_law_219 d_L_law_224 d_L_law_226 d_L_law_229 d_L_law_230 d_L_law_231 d_L_law_232 d_L_law_234 d_L_law_235 d_L_law_236 d_L_law_241 (by decide) (fun ls H locs hl hH => kk f1 q1 g1 v1 w1 ls H locs hq1 ⟨hz1, Nat.le_trans hg hmn, hH⟩ hl)

set_option maxHeartbeats 8000000 in
set_option maxRecDepth 100000 in
theorem lz_wipe {p : Program} {l : Launch} {e : Env} {s : State} {m : MethodId} {below : List Frame} {meth : Method} {c : Code} {H : Heap} {locs : List Loc} {Q : State → Prop} {ls : Array Slot} {Z : bZ} {cJ : ClassId} {b L : Nat} {xs : Nat → Int32} {qo : Nat} {f : Nat → Int64} {q g qm : Nat → Nat} {v w : mS} {cn i : Nat} (K : lz_C Z cJ p l s m meth c b L xs) (hi : i + 5 ≤ L) (hL : L ≤ 2560) (hcn : cn + 1 ≤ 600) (hh : lz_H Z cJ s cn qo f q g v qm w H locs) (hl : lv_has ls 7 (lz_l (zI i) b (q 0) (qm 0) qo)) (kk : lz_go p l e s m below meth c Q Z cJ b (cn + 1) qo (q 0) qm (zI i)) :
    W p l e room_1 s m #[Value.ref b] below meth c H locs (lz_k g cn) (lz_n g cn) Q (F0 m 244 ls []) := by
  obtain ⟨C0, hE, hX9, hbl⟩ := id K
  have hx := C0.1
  have hb := C0.2.1
  have hbA : ¬ (fun q : Nat => s.heap.size ≤ q) b := Nat.not_le.mpr hbl
  obtain ⟨hz, hg, hH⟩ := hh
  have e1 : zI i + 1 = zI (i + 1) := by rw [zl_1, zI_add]
  have e2 : zI i + 2 = zI (i + 2) := by rw [zl_2, zI_add]
  refine lv_aload_n hx hb d_L_law_244 rfl (lv_at hl 2 rfl) ?_
  refine lv_aload_n hx hb d_L_law_245 rfl (lv_at hl 1 rfl) ?_
  refine lv_iload hx hb d_L_law_246 (lv_at hl 0 rfl) ?_
  refine lv_iconst (v := 1) hx hb d_L_law_248 (by decide) ?_
  refine lv_iadd hx hb d_L_law_249 ?_
  refine fu_i e1.symm ?_
  refine va_sld hx hb hX9 hbl hbA hH.2.2 (vpI (by omega) (by omega)) d_L_law_250 ?_
  refine lv_aload_n hx hb d_L_law_251 rfl (lv_at hl 1 rfl) ?_
  refine lv_iload hx hb d_L_law_252 (lv_at hl 0 rfl) ?_
  refine lv_iconst (v := 2) hx hb d_L_law_254 (by decide) ?_
  refine lv_iadd hx hb d_L_law_255 ?_
  refine fu_i e2.symm ?_
  refine va_sld hx hb hX9 hbl hbA hH.2.2 (vpI (by omega) (by omega)) d_L_law_256 ?_
  refine lv_aload_n hx hb d_L_law_257 rfl (lv_at hl 4 rfl) ?_
  obtain ⟨o, g1, v1, r, w1, hF, hM, hag, hz1⟩ := z_wipe (xs (zI (i + 1)).toNatClampNeg) (xs (zI (i + 2)).toNatClampNeg) hz
  have hmn := mn_B_wipe hF
  have hmn : gL g ≤ gL g1 := hmn
  have htc := lz_tc ((o, g1, v1) : bO Int32)
  have hroom := lz_rk hz1 (by omega)
  have hroom0 : lz_k g cn + mcO g ((o, g1, v1) : bO Int32) ≤ lz_k g1 (cn + 1) ∧ lz_n g cn + msO g ((o, g1, v1) : bO Int32) ≤ lz_n g1 (cn + 1) := by
    simp only [lz_k, lz_n, mcO, msO]
    omega
  have hH := bc_perm hH List.perm_append_comm
  refine hp_cS (as := [.ref (q 0), .int (xs (zI (i + 1)).toNatClampNeg), .int (xs (zI (i + 2)).toNatClampNeg), .ref qo]) (rest := []) C0 hE hH (h_wipe (cJ := cJ) C0.2.2.2.2.2.2.2.2.2 hF (lz_4 hag)) (C := "FilterBenchLaw") rfl q_428 q_102 (by decide +kernel) (by decide +kernel) (n := 4) (by decide +kernel) q_427 q_426 ⟨Nat.le_of_ble_eq_true rfl, Nat.le_of_ble_eq_true rfl⟩ rfl hl.1 rfl (Nat.le_of_ble_eq_true rfl) ⟨Nat.le_trans hroom0.1 hroom.1, Nat.le_trans hroom0.2 hroom.2⟩ d_L_law_258 (fun k wA H locs hpo hH => ?_)
  obtain ⟨q1, f1, hq1, rfl, hka⟩ := lz_agree hpo hag
  refine W.widen (k := lz_k g1 (cn + 1)) (n := lz_n g1 (cn + 1)) hroom0.1 hroom0.2 ?_
  have hH := bc_perm hH List.perm_append_comm
  refine lv_istore (lv' := [(5, .int k), (4, .int (zI i)), (0, .ref b), (1, .ref (q 0)), (2, .ref (qm 0)), (3, .ref qo)]) hx hb d_L_law_261 hl (by decide) rfl (fun ls hl => ?_)
  refine lv_aload_n hx hb d_L_law_263 rfl (lv_at hl 4 rfl) ?_
  refine lv_aload_n hx hb d_L_law_264 rfl (lv_at hl 2 rfl) ?_
  refine lv_iload hx hb d_L_law_265 (lv_at hl 1 rfl) ?_
  refine lv_iconst (v := 1) hx hb d_L_law_267 (by decide) ?_
  refine lv_iadd hx hb d_L_law_268 ?_
  refine fu_i e1.symm ?_
  refine va_sld hx hb hX9 hbl hbA hH.2.2 (vpI (by omega) (by omega)) d_L_law_269 ?_
  refine lv_aload_n hx hb d_L_law_270 rfl (lv_at hl 2 rfl) ?_
  refine lv_iload hx hb d_L_law_271 (lv_at hl 1 rfl) ?_
  refine lv_iconst (v := 2) hx hb d_L_law_273 (by decide) ?_
  refine lv_iadd hx hb d_L_law_274 ?_
  refine fu_i e2.symm ?_
  refine va_sld hx hb hX9 hbl hbA hH.2.2 (vpI (by omega) (by omega)) d_L_law_275 ?_
  refine lz_ci (X := (qo, eL cJ f1) :: bn_ws Z (q1, g1, v1)) (as := [.int (xs (zI (i + 1)).toNatClampNeg), .int (xs (zI (i + 2)).toNatClampNeg)]) (rest := []) C0 hH (c_M_wipe hM) yy_M_wipe q_1064 ⟨Nat.le_of_ble_eq_true rfl, Nat.le_of_ble_eq_true rfl⟩ rfl hl.1 rfl (Nat.le_of_ble_eq_true rfl) hroom d_L_law_276 (fun H locs hH => ?_)
  exact lz_tail (T := 279) K hH hka hl hroom d_L_law_279 d_L_law_281 d_L_law_282 d_L_law_285 d_L_law_287 d_L_law_292 d_L_law_294 d_L_law_297 d_L_law_298 d_L_law_299 d_L_law_300 d_L_law_302 d_L_law_303 d_L_law_304 d_L_law_309 (by decide) (fun ls H locs hl hH => kk f1 q1 g1 v1 w1 ls H locs hq1 ⟨hz1, Nat.le_trans hg hmn, hH⟩ hl)

set_option maxHeartbeats 8000000 in
set_option maxRecDepth 100000 in
theorem lz_run {p : Program} {l : Launch} {e : Env} {s : State} {m : MethodId} {below : List Frame} {meth : Method} {c : Code} {H : Heap} {locs : List Loc} {Q : State → Prop} {ls : Array Slot} {Z : bZ} {cJ : ClassId} {b L : Nat} {xs : Nat → Int32} {qo : Nat} {f : Nat → Int64} {q g qm : Nat → Nat} {v w : mS} {cn i : Nat} (K : lz_C Z cJ p l s m meth c b L xs) (hi : i + 5 ≤ L) (hL : L ≤ 2560) (hcn : cn + 1 ≤ 600) (hh : lz_H Z cJ s cn qo f q g v qm w H locs) (hl : lv_has ls 7 (lz_l (zI i) b (q 0) (qm 0) qo)) (kk : lz_go p l e s m below meth c Q Z cJ b (cn + 1) qo (q 0) qm (zI i)) :
    W p l e room_1 s m #[Value.ref b] below meth c H locs (lz_k g cn) (lz_n g cn) Q (F0 m 312 ls []) := by
  obtain ⟨C0, hE, hX9, hbl⟩ := id K
  have hx := C0.1
  have hb := C0.2.1
  have hbA : ¬ (fun q : Nat => s.heap.size ≤ q) b := Nat.not_le.mpr hbl
  obtain ⟨hz, hg, hH⟩ := hh
  have e1 : zI i + 1 = zI (i + 1) := by rw [zl_1, zI_add]
  have e2 : zI i + 2 = zI (i + 2) := by rw [zl_2, zI_add]
  refine lv_aload_n hx hb d_L_law_312 rfl (lv_at hl 2 rfl) ?_
  refine lv_aload_n hx hb d_L_law_313 rfl (lv_at hl 1 rfl) ?_
  refine lv_iload hx hb d_L_law_314 (lv_at hl 0 rfl) ?_
  refine lv_iconst (v := 1) hx hb d_L_law_316 (by decide) ?_
  refine lv_iadd hx hb d_L_law_317 ?_
  refine fu_i e1.symm ?_
  refine va_sld hx hb hX9 hbl hbA hH.2.2 (vpI (by omega) (by omega)) d_L_law_318 ?_
  refine lv_aload_n hx hb d_L_law_319 rfl (lv_at hl 1 rfl) ?_
  refine lv_iload hx hb d_L_law_320 (lv_at hl 0 rfl) ?_
  refine lv_iconst (v := 2) hx hb d_L_law_322 (by decide) ?_
  refine lv_iadd hx hb d_L_law_323 ?_
  refine fu_i e2.symm ?_
  refine va_sld hx hb hX9 hbl hbA hH.2.2 (vpI (by omega) (by omega)) d_L_law_324 ?_
  refine lv_aload_n hx hb d_L_law_325 rfl (lv_at hl 4 rfl) ?_
  obtain ⟨o, g1, v1, r, w1, hF, hM, hag, hz1⟩ := z_run (xs (zI (i + 1)).toNatClampNeg) (xs (zI (i + 2)).toNatClampNeg) hz
  have hmn := mn_B_run hF
  have hmn : gL g ≤ gL g1 := hmn
  have htc := lz_tc ((o, g1, v1) : bO Int32)
  have hroom := lz_rk hz1 (by omega)
  have hroom0 : lz_k g cn + mcO g ((o, g1, v1) : bO Int32) ≤ lz_k g1 (cn + 1) ∧ lz_n g cn + msO g ((o, g1, v1) : bO Int32) ≤ lz_n g1 (cn + 1) := by
    simp only [lz_k, lz_n, mcO, msO]
    omega
  have hH := bc_perm hH List.perm_append_comm
  refine hp_cS (as := [.ref (q 0), .int (xs (zI (i + 1)).toNatClampNeg), .int (xs (zI (i + 2)).toNatClampNeg), .ref qo]) (rest := []) C0 hE hH (h_run (cJ := cJ) C0.2.2.2.2.2.2.2.2.2 hF (lz_4 hag)) (C := "FilterBenchLaw") rfl q_439 q_102 (by decide +kernel) (by decide +kernel) (n := 4) (by decide +kernel) q_438 q_437 ⟨Nat.le_of_ble_eq_true rfl, Nat.le_of_ble_eq_true rfl⟩ rfl hl.1 rfl (Nat.le_of_ble_eq_true rfl) ⟨Nat.le_trans hroom0.1 hroom.1, Nat.le_trans hroom0.2 hroom.2⟩ d_L_law_326 (fun k wA H locs hpo hH => ?_)
  obtain ⟨q1, f1, hq1, rfl, hka⟩ := lz_agree hpo hag
  refine W.widen (k := lz_k g1 (cn + 1)) (n := lz_n g1 (cn + 1)) hroom0.1 hroom0.2 ?_
  have hH := bc_perm hH List.perm_append_comm
  refine lv_istore (lv' := [(5, .int k), (4, .int (zI i)), (0, .ref b), (1, .ref (q 0)), (2, .ref (qm 0)), (3, .ref qo)]) hx hb d_L_law_329 hl (by decide) rfl (fun ls hl => ?_)
  refine lv_aload_n hx hb d_L_law_331 rfl (lv_at hl 4 rfl) ?_
  refine lv_aload_n hx hb d_L_law_332 rfl (lv_at hl 2 rfl) ?_
  refine lv_iload hx hb d_L_law_333 (lv_at hl 1 rfl) ?_
  refine lv_iconst (v := 1) hx hb d_L_law_335 (by decide) ?_
  refine lv_iadd hx hb d_L_law_336 ?_
  refine fu_i e1.symm ?_
  refine va_sld hx hb hX9 hbl hbA hH.2.2 (vpI (by omega) (by omega)) d_L_law_337 ?_
  refine lv_aload_n hx hb d_L_law_338 rfl (lv_at hl 2 rfl) ?_
  refine lv_iload hx hb d_L_law_339 (lv_at hl 1 rfl) ?_
  refine lv_iconst (v := 2) hx hb d_L_law_341 (by decide) ?_
  refine lv_iadd hx hb d_L_law_342 ?_
  refine fu_i e2.symm ?_
  refine va_sld hx hb hX9 hbl hbA hH.2.2 (vpI (by omega) (by omega)) d_L_law_343 ?_
  refine lz_ci (X := (qo, eL cJ f1) :: bn_ws Z (q1, g1, v1)) (as := [.int (xs (zI (i + 1)).toNatClampNeg), .int (xs (zI (i + 2)).toNatClampNeg)]) (rest := []) C0 hH (c_M_run hM) yy_M_run q_1068 ⟨Nat.le_of_ble_eq_true rfl, Nat.le_of_ble_eq_true rfl⟩ rfl hl.1 rfl (Nat.le_of_ble_eq_true rfl) hroom d_L_law_344 (fun H locs hH => ?_)
  exact lz_tail (T := 347) K hH hka hl hroom d_L_law_347 d_L_law_349 d_L_law_350 d_L_law_353 d_L_law_355 d_L_law_360 d_L_law_362 d_L_law_365 d_L_law_366 d_L_law_367 d_L_law_368 d_L_law_370 d_L_law_371 d_L_law_372 d_L_law_377 (by decide) (fun ls H locs hl hH => kk f1 q1 g1 v1 w1 ls H locs hq1 ⟨hz1, Nat.le_trans hg hmn, hH⟩ hl)

set_option maxHeartbeats 8000000 in
set_option maxRecDepth 100000 in
theorem lz_keep {p : Program} {l : Launch} {e : Env} {s : State} {m : MethodId} {below : List Frame} {meth : Method} {c : Code} {H : Heap} {locs : List Loc} {Q : State → Prop} {ls : Array Slot} {Z : bZ} {cJ : ClassId} {b L : Nat} {xs : Nat → Int32} {qo : Nat} {f : Nat → Int64} {q g qm : Nat → Nat} {v w : mS} {cn i : Nat} (K : lz_C Z cJ p l s m meth c b L xs) (hi : i + 5 ≤ L) (hL : L ≤ 2560) (hcn : cn + 1 ≤ 600) (hh : lz_H Z cJ s cn qo f q g v qm w H locs) (hl : lv_has ls 7 (lz_l (zI i) b (q 0) (qm 0) qo)) (kk : lz_go p l e s m below meth c Q Z cJ b (cn + 1) qo (q 0) qm (zI i)) :
    W p l e room_1 s m #[Value.ref b] below meth c H locs (lz_k g cn) (lz_n g cn) Q (F0 m 380 ls []) := by
  obtain ⟨C0, hE, hX9, hbl⟩ := id K
  have hx := C0.1
  have hb := C0.2.1
  have hbA : ¬ (fun q : Nat => s.heap.size ≤ q) b := Nat.not_le.mpr hbl
  obtain ⟨hz, hg, hH⟩ := hh
  have e1 : zI i + 1 = zI (i + 1) := by rw [zl_1, zI_add]
  have e2 : zI i + 2 = zI (i + 2) := by rw [zl_2, zI_add]
  refine lv_aload_n hx hb d_L_law_380 rfl (lv_at hl 2 rfl) ?_
  refine lv_aload_n hx hb d_L_law_381 rfl (lv_at hl 1 rfl) ?_
  refine lv_iload hx hb d_L_law_382 (lv_at hl 0 rfl) ?_
  refine lv_iconst (v := 1) hx hb d_L_law_384 (by decide) ?_
  refine lv_iadd hx hb d_L_law_385 ?_
  refine fu_i e1.symm ?_
  refine va_sld hx hb hX9 hbl hbA hH.2.2 (vpI (by omega) (by omega)) d_L_law_386 ?_
  refine lv_aload_n hx hb d_L_law_387 rfl (lv_at hl 1 rfl) ?_
  refine lv_iload hx hb d_L_law_388 (lv_at hl 0 rfl) ?_
  refine lv_iconst (v := 2) hx hb d_L_law_390 (by decide) ?_
  refine lv_iadd hx hb d_L_law_391 ?_
  refine fu_i e2.symm ?_
  refine va_sld hx hb hX9 hbl hbA hH.2.2 (vpI (by omega) (by omega)) d_L_law_392 ?_
  refine lv_aload_n hx hb d_L_law_393 rfl (lv_at hl 4 rfl) ?_
  obtain ⟨o, g1, v1, r, w1, hF, hM, hag, hz1⟩ := z_keep (xs (zI (i + 1)).toNatClampNeg) (xs (zI (i + 2)).toNatClampNeg) hz
  have hmn := mn_B_keep hF
  have hmn : gL g ≤ gL g1 := hmn
  have htc := lz_tc ((o, g1, v1) : bO Int32)
  have hroom := lz_rk hz1 (by omega)
  have hroom0 : lz_k g cn + mcO g ((o, g1, v1) : bO Int32) ≤ lz_k g1 (cn + 1) ∧ lz_n g cn + msO g ((o, g1, v1) : bO Int32) ≤ lz_n g1 (cn + 1) := by
    simp only [lz_k, lz_n, mcO, msO]
    omega
  have hH := bc_perm hH List.perm_append_comm
  refine hp_cS (as := [.ref (q 0), .int (xs (zI (i + 1)).toNatClampNeg), .int (xs (zI (i + 2)).toNatClampNeg), .ref qo]) (rest := []) C0 hE hH (h_keep (cJ := cJ) C0.2.2.2.2.2.2.2.2.2 hF (lz_4 hag)) (C := "FilterBenchLaw") rfl q_843 q_102 (by decide +kernel) (by decide +kernel) (n := 4) (by decide +kernel) q_842 q_841 ⟨Nat.le_of_ble_eq_true rfl, Nat.le_of_ble_eq_true rfl⟩ rfl hl.1 rfl (Nat.le_of_ble_eq_true rfl) ⟨Nat.le_trans hroom0.1 hroom.1, Nat.le_trans hroom0.2 hroom.2⟩ d_L_law_394 (fun k wA H locs hpo hH => ?_)
  obtain ⟨q1, f1, hq1, rfl, hka⟩ := lz_agree hpo hag
  refine W.widen (k := lz_k g1 (cn + 1)) (n := lz_n g1 (cn + 1)) hroom0.1 hroom0.2 ?_
  have hH := bc_perm hH List.perm_append_comm
  refine lv_istore (lv' := [(5, .int k), (4, .int (zI i)), (0, .ref b), (1, .ref (q 0)), (2, .ref (qm 0)), (3, .ref qo)]) hx hb d_L_law_397 hl (by decide) rfl (fun ls hl => ?_)
  refine lv_aload_n hx hb d_L_law_399 rfl (lv_at hl 4 rfl) ?_
  refine lv_aload_n hx hb d_L_law_400 rfl (lv_at hl 2 rfl) ?_
  refine lv_iload hx hb d_L_law_401 (lv_at hl 1 rfl) ?_
  refine lv_iconst (v := 1) hx hb d_L_law_403 (by decide) ?_
  refine lv_iadd hx hb d_L_law_404 ?_
  refine fu_i e1.symm ?_
  refine va_sld hx hb hX9 hbl hbA hH.2.2 (vpI (by omega) (by omega)) d_L_law_405 ?_
  refine lv_aload_n hx hb d_L_law_406 rfl (lv_at hl 2 rfl) ?_
  refine lv_iload hx hb d_L_law_407 (lv_at hl 1 rfl) ?_
  refine lv_iconst (v := 2) hx hb d_L_law_409 (by decide) ?_
  refine lv_iadd hx hb d_L_law_410 ?_
  refine fu_i e2.symm ?_
  refine va_sld hx hb hX9 hbl hbA hH.2.2 (vpI (by omega) (by omega)) d_L_law_411 ?_
  refine lz_ci (X := (qo, eL cJ f1) :: bn_ws Z (q1, g1, v1)) (as := [.int (xs (zI (i + 1)).toNatClampNeg), .int (xs (zI (i + 2)).toNatClampNeg)]) (rest := []) C0 hH (c_M_keep hM) yy_M_keep q_1331 ⟨Nat.le_of_ble_eq_true rfl, Nat.le_of_ble_eq_true rfl⟩ rfl hl.1 rfl (Nat.le_of_ble_eq_true rfl) hroom d_L_law_412 (fun H locs hH => ?_)
  exact lz_tail (T := 415) K hH hka hl hroom d_L_law_415 d_L_law_417 d_L_law_418 d_L_law_421 d_L_law_423 d_L_law_428 d_L_law_430 d_L_law_433 d_L_law_434 d_L_law_435 d_L_law_436 d_L_law_438 d_L_law_439 d_L_law_440 d_L_law_445 (by decide) (fun ls H locs hl hH => kk f1 q1 g1 v1 w1 ls H locs hq1 ⟨hz1, Nat.le_trans hg hmn, hH⟩ hl)

set_option maxHeartbeats 8000000 in
set_option maxRecDepth 100000 in
theorem lz_kind {p : Program} {l : Launch} {e : Env} {s : State} {m : MethodId} {below : List Frame} {meth : Method} {c : Code} {H : Heap} {locs : List Loc} {Q : State → Prop} {ls : Array Slot} {Z : bZ} {cJ : ClassId} {b L : Nat} {xs : Nat → Int32} {qo : Nat} {f : Nat → Int64} {q g qm : Nat → Nat} {v w : mS} {cn i : Nat} (K : lz_C Z cJ p l s m meth c b L xs) (hi : i + 5 ≤ L) (hL : L ≤ 2560) (hcn : cn + 1 ≤ 600) (hh : lz_H Z cJ s cn qo f q g v qm w H locs) (hl : lv_has ls 7 (lz_l (zI i) b (q 0) (qm 0) qo)) (kk : lz_go p l e s m below meth c Q Z cJ b (cn + 1) qo (q 0) qm (zI i)) :
    W p l e room_1 s m #[Value.ref b] below meth c H locs (lz_k g cn) (lz_n g cn) Q (F0 m 448 ls []) := by
  obtain ⟨C0, hE, hX9, hbl⟩ := id K
  have hx := C0.1
  have hb := C0.2.1
  have hbA : ¬ (fun q : Nat => s.heap.size ≤ q) b := Nat.not_le.mpr hbl
  obtain ⟨hz, hg, hH⟩ := hh
  have e1 : zI i + 1 = zI (i + 1) := by rw [zl_1, zI_add]
  have e2 : zI i + 2 = zI (i + 2) := by rw [zl_2, zI_add]
  refine lv_aload_n hx hb d_L_law_448 rfl (lv_at hl 2 rfl) ?_
  refine lv_aload_n hx hb d_L_law_449 rfl (lv_at hl 1 rfl) ?_
  refine lv_iload hx hb d_L_law_450 (lv_at hl 0 rfl) ?_
  refine lv_iconst (v := 1) hx hb d_L_law_452 (by decide) ?_
  refine lv_iadd hx hb d_L_law_453 ?_
  refine fu_i e1.symm ?_
  refine va_sld hx hb hX9 hbl hbA hH.2.2 (vpI (by omega) (by omega)) d_L_law_454 ?_
  refine lv_aload_n hx hb d_L_law_455 rfl (lv_at hl 1 rfl) ?_
  refine lv_iload hx hb d_L_law_456 (lv_at hl 0 rfl) ?_
  refine lv_iconst (v := 2) hx hb d_L_law_458 (by decide) ?_
  refine lv_iadd hx hb d_L_law_459 ?_
  refine fu_i e2.symm ?_
  refine va_sld hx hb hX9 hbl hbA hH.2.2 (vpI (by omega) (by omega)) d_L_law_460 ?_
  refine lv_aload_n hx hb d_L_law_461 rfl (lv_at hl 4 rfl) ?_
  obtain ⟨o, g1, v1, r, w1, hF, hM, hag, hz1⟩ := z_kind (xs (zI (i + 1)).toNatClampNeg) (xs (zI (i + 2)).toNatClampNeg) hz
  have hmn := mn_B_kind hF
  have hmn : gL g ≤ gL g1 := hmn
  have htc := lz_tc ((o, g1, v1) : bO Int32)
  have hroom := lz_rk hz1 (by omega)
  have hroom0 : lz_k g cn + mcO g ((o, g1, v1) : bO Int32) ≤ lz_k g1 (cn + 1) ∧ lz_n g cn + msO g ((o, g1, v1) : bO Int32) ≤ lz_n g1 (cn + 1) := by
    simp only [lz_k, lz_n, mcO, msO]
    omega
  have hH := bc_perm hH List.perm_append_comm
  refine hp_cS (as := [.ref (q 0), .int (xs (zI (i + 1)).toNatClampNeg), .int (xs (zI (i + 2)).toNatClampNeg), .ref qo]) (rest := []) C0 hE hH (h_kind (cJ := cJ) C0.2.2.2.2.2.2.2.2.2 hF (lz_4 hag)) (C := "FilterBenchLaw") rfl q_856 q_102 (by decide +kernel) (by decide +kernel) (n := 4) (by decide +kernel) q_855 q_854 ⟨Nat.le_of_ble_eq_true rfl, Nat.le_of_ble_eq_true rfl⟩ rfl hl.1 rfl (Nat.le_of_ble_eq_true rfl) ⟨Nat.le_trans hroom0.1 hroom.1, Nat.le_trans hroom0.2 hroom.2⟩ d_L_law_462 (fun k wA H locs hpo hH => ?_)
  obtain ⟨q1, f1, hq1, rfl, hka⟩ := lz_agree hpo hag
  refine W.widen (k := lz_k g1 (cn + 1)) (n := lz_n g1 (cn + 1)) hroom0.1 hroom0.2 ?_
  have hH := bc_perm hH List.perm_append_comm
  refine lv_istore (lv' := [(5, .int k), (4, .int (zI i)), (0, .ref b), (1, .ref (q 0)), (2, .ref (qm 0)), (3, .ref qo)]) hx hb d_L_law_465 hl (by decide) rfl (fun ls hl => ?_)
  refine lv_aload_n hx hb d_L_law_467 rfl (lv_at hl 4 rfl) ?_
  refine lv_aload_n hx hb d_L_law_468 rfl (lv_at hl 2 rfl) ?_
  refine lv_iload hx hb d_L_law_469 (lv_at hl 1 rfl) ?_
  refine lv_iconst (v := 1) hx hb d_L_law_471 (by decide) ?_
  refine lv_iadd hx hb d_L_law_472 ?_
  refine fu_i e1.symm ?_
  refine va_sld hx hb hX9 hbl hbA hH.2.2 (vpI (by omega) (by omega)) d_L_law_473 ?_
  refine lv_aload_n hx hb d_L_law_474 rfl (lv_at hl 2 rfl) ?_
  refine lv_iload hx hb d_L_law_475 (lv_at hl 1 rfl) ?_
  refine lv_iconst (v := 2) hx hb d_L_law_477 (by decide) ?_
  refine lv_iadd hx hb d_L_law_478 ?_
  refine fu_i e2.symm ?_
  refine va_sld hx hb hX9 hbl hbA hH.2.2 (vpI (by omega) (by omega)) d_L_law_479 ?_
  refine lz_ci (X := (qo, eL cJ f1) :: bn_ws Z (q1, g1, v1)) (as := [.int (xs (zI (i + 1)).toNatClampNeg), .int (xs (zI (i + 2)).toNatClampNeg)]) (rest := []) C0 hH (c_M_kind hM) yy_M_kind q_1335 ⟨Nat.le_of_ble_eq_true rfl, Nat.le_of_ble_eq_true rfl⟩ rfl hl.1 rfl (Nat.le_of_ble_eq_true rfl) hroom d_L_law_480 (fun H locs hH => ?_)
  exact lz_tail (T := 483) K hH hka hl hroom d_L_law_483 d_L_law_485 d_L_law_486 d_L_law_489 d_L_law_491 d_L_law_496 d_L_law_498 d_L_law_501 d_L_law_502 d_L_law_503 d_L_law_504 d_L_law_506 d_L_law_507 d_L_law_508 d_L_law_513 (by decide) (fun ls H locs hl hH => kk f1 q1 g1 v1 w1 ls H locs hq1 ⟨hz1, Nat.le_trans hg hmn, hH⟩ hl)

set_option maxHeartbeats 8000000 in
set_option maxRecDepth 100000 in
theorem lz_length {p : Program} {l : Launch} {e : Env} {s : State} {m : MethodId} {below : List Frame} {meth : Method} {c : Code} {H : Heap} {locs : List Loc} {Q : State → Prop} {ls : Array Slot} {Z : bZ} {cJ : ClassId} {b L : Nat} {xs : Nat → Int32} {qo : Nat} {f : Nat → Int64} {q g qm : Nat → Nat} {v w : mS} {cn i : Nat} (K : lz_C Z cJ p l s m meth c b L xs) (hi : i + 5 ≤ L) (hL : L ≤ 2560) (hcn : cn + 1 ≤ 600) (hh : lz_H Z cJ s cn qo f q g v qm w H locs) (hl : lv_has ls 7 (lz_l (zI i) b (q 0) (qm 0) qo)) (kk : lz_go p l e s m below meth c Q Z cJ b (cn + 1) qo (q 0) qm (zI i)) :
    W p l e room_1 s m #[Value.ref b] below meth c H locs (lz_k g cn) (lz_n g cn) Q (F0 m 516 ls []) := by
  obtain ⟨C0, hE, hX9, hbl⟩ := id K
  have hx := C0.1
  have hb := C0.2.1
  have hbA : ¬ (fun q : Nat => s.heap.size ≤ q) b := Nat.not_le.mpr hbl
  obtain ⟨hz, hg, hH⟩ := hh
  have e1 : zI i + 1 = zI (i + 1) := by rw [zl_1, zI_add]
  have e2 : zI i + 2 = zI (i + 2) := by rw [zl_2, zI_add]
  refine lv_aload_n hx hb d_L_law_516 rfl (lv_at hl 2 rfl) ?_
  refine lv_aload_n hx hb d_L_law_517 rfl (lv_at hl 1 rfl) ?_
  refine lv_iload hx hb d_L_law_518 (lv_at hl 0 rfl) ?_
  refine lv_iconst (v := 1) hx hb d_L_law_520 (by decide) ?_
  refine lv_iadd hx hb d_L_law_521 ?_
  refine fu_i e1.symm ?_
  refine va_sld hx hb hX9 hbl hbA hH.2.2 (vpI (by omega) (by omega)) d_L_law_522 ?_
  refine lv_aload_n hx hb d_L_law_523 rfl (lv_at hl 1 rfl) ?_
  refine lv_iload hx hb d_L_law_524 (lv_at hl 0 rfl) ?_
  refine lv_iconst (v := 2) hx hb d_L_law_526 (by decide) ?_
  refine lv_iadd hx hb d_L_law_527 ?_
  refine fu_i e2.symm ?_
  refine va_sld hx hb hX9 hbl hbA hH.2.2 (vpI (by omega) (by omega)) d_L_law_528 ?_
  refine lv_aload_n hx hb d_L_law_529 rfl (lv_at hl 4 rfl) ?_
  obtain ⟨o, g1, v1, r, w1, hF, hM, hag, hz1⟩ := z_length (xs (zI (i + 1)).toNatClampNeg) (xs (zI (i + 2)).toNatClampNeg) hz
  have hmn := mn_B_length hF
  have hmn : gL g ≤ gL g1 := hmn
  have htc := lz_tc ((o, g1, v1) : bO Int32)
  have hroom := lz_rk hz1 (by omega)
  have hroom0 : lz_k g cn + mcO g ((o, g1, v1) : bO Int32) ≤ lz_k g1 (cn + 1) ∧ lz_n g cn + msO g ((o, g1, v1) : bO Int32) ≤ lz_n g1 (cn + 1) := by
    simp only [lz_k, lz_n, mcO, msO]
    omega
  have hH := bc_perm hH List.perm_append_comm
  refine hp_cS (as := [.ref (q 0), .int (xs (zI (i + 1)).toNatClampNeg), .int (xs (zI (i + 2)).toNatClampNeg), .ref qo]) (rest := []) C0 hE hH (h_length (cJ := cJ) C0.2.2.2.2.2.2.2.2.2 hF (lz_4 hag)) (C := "FilterBenchLaw") rfl q_878 q_102 (by decide +kernel) (by decide +kernel) (n := 4) (by decide +kernel) q_877 q_876 ⟨Nat.le_of_ble_eq_true rfl, Nat.le_of_ble_eq_true rfl⟩ rfl hl.1 rfl (Nat.le_of_ble_eq_true rfl) ⟨Nat.le_trans hroom0.1 hroom.1, Nat.le_trans hroom0.2 hroom.2⟩ d_L_law_530 (fun k wA H locs hpo hH => ?_)
  obtain ⟨q1, f1, hq1, rfl, hka⟩ := lz_agree hpo hag
  refine W.widen (k := lz_k g1 (cn + 1)) (n := lz_n g1 (cn + 1)) hroom0.1 hroom0.2 ?_
  have hH := bc_perm hH List.perm_append_comm
  refine lv_istore (lv' := [(5, .int k), (4, .int (zI i)), (0, .ref b), (1, .ref (q 0)), (2, .ref (qm 0)), (3, .ref qo)]) hx hb d_L_law_533 hl (by decide) rfl (fun ls hl => ?_)
  refine lv_aload_n hx hb d_L_law_535 rfl (lv_at hl 4 rfl) ?_
  refine lv_aload_n hx hb d_L_law_536 rfl (lv_at hl 2 rfl) ?_
  refine lv_iload hx hb d_L_law_537 (lv_at hl 1 rfl) ?_
  refine lv_iconst (v := 1) hx hb d_L_law_539 (by decide) ?_
  refine lv_iadd hx hb d_L_law_540 ?_
  refine fu_i e1.symm ?_
  refine va_sld hx hb hX9 hbl hbA hH.2.2 (vpI (by omega) (by omega)) d_L_law_541 ?_
  refine lv_aload_n hx hb d_L_law_542 rfl (lv_at hl 2 rfl) ?_
  refine lv_iload hx hb d_L_law_543 (lv_at hl 1 rfl) ?_
  refine lv_iconst (v := 2) hx hb d_L_law_545 (by decide) ?_
  refine lv_iadd hx hb d_L_law_546 ?_
  refine fu_i e2.symm ?_
  refine va_sld hx hb hX9 hbl hbA hH.2.2 (vpI (by omega) (by omega)) d_L_law_547 ?_
  refine lz_ci (X := (qo, eL cJ f1) :: bn_ws Z (q1, g1, v1)) (as := [.int (xs (zI (i + 1)).toNatClampNeg), .int (xs (zI (i + 2)).toNatClampNeg)]) (rest := []) C0 hH (c_M_length hM) yy_M_length q_1343 ⟨Nat.le_of_ble_eq_true rfl, Nat.le_of_ble_eq_true rfl⟩ rfl hl.1 rfl (Nat.le_of_ble_eq_true rfl) hroom d_L_law_548 (fun H locs hH => ?_)
  exact lz_tail (T := 551) K hH hka hl hroom d_L_law_551 d_L_law_553 d_L_law_554 d_L_law_557 d_L_law_559 d_L_law_564 d_L_law_566 d_L_law_569 d_L_law_570 d_L_law_571 d_L_law_572 d_L_law_574 d_L_law_575 d_L_law_576 d_L_law_581 (by decide) (fun ls H locs hl hH => kk f1 q1 g1 v1 w1 ls H locs hq1 ⟨hz1, Nat.le_trans hg hmn, hH⟩ hl)

set_option maxHeartbeats 8000000 in
set_option maxRecDepth 100000 in
theorem lz_number {p : Program} {l : Launch} {e : Env} {s : State} {m : MethodId} {below : List Frame} {meth : Method} {c : Code} {H : Heap} {locs : List Loc} {Q : State → Prop} {ls : Array Slot} {Z : bZ} {cJ : ClassId} {b L : Nat} {xs : Nat → Int32} {qo : Nat} {f : Nat → Int64} {q g qm : Nat → Nat} {v w : mS} {cn i : Nat} (K : lz_C Z cJ p l s m meth c b L xs) (hi : i + 5 ≤ L) (hL : L ≤ 2560) (hcn : cn + 1 ≤ 600) (hh : lz_H Z cJ s cn qo f q g v qm w H locs) (hl : lv_has ls 7 (lz_l (zI i) b (q 0) (qm 0) qo)) (kk : lz_go p l e s m below meth c Q Z cJ b (cn + 1) qo (q 0) qm (zI i)) :
    W p l e room_1 s m #[Value.ref b] below meth c H locs (lz_k g cn) (lz_n g cn) Q (F0 m 584 ls []) := by
  obtain ⟨C0, hE, hX9, hbl⟩ := id K
  have hx := C0.1
  have hb := C0.2.1
  have hbA : ¬ (fun q : Nat => s.heap.size ≤ q) b := Nat.not_le.mpr hbl
  obtain ⟨hz, hg, hH⟩ := hh
  have e1 : zI i + 1 = zI (i + 1) := by rw [zl_1, zI_add]
  have e2 : zI i + 2 = zI (i + 2) := by rw [zl_2, zI_add]
  have e3 : zI i + 3 = zI (i + 3) := by rw [zl_3, zI_add]
  refine lv_aload_n hx hb d_L_law_584 rfl (lv_at hl 2 rfl) ?_
  refine lv_aload_n hx hb d_L_law_585 rfl (lv_at hl 1 rfl) ?_
  refine lv_iload hx hb d_L_law_586 (lv_at hl 0 rfl) ?_
  refine lv_iconst (v := 1) hx hb d_L_law_588 (by decide) ?_
  refine lv_iadd hx hb d_L_law_589 ?_
  refine fu_i e1.symm ?_
  refine va_sld hx hb hX9 hbl hbA hH.2.2 (vpI (by omega) (by omega)) d_L_law_590 ?_
  refine lv_aload_n hx hb d_L_law_591 rfl (lv_at hl 1 rfl) ?_
  refine lv_iload hx hb d_L_law_592 (lv_at hl 0 rfl) ?_
  refine lv_iconst (v := 2) hx hb d_L_law_594 (by decide) ?_
  refine lv_iadd hx hb d_L_law_595 ?_
  refine fu_i e2.symm ?_
  refine va_sld hx hb hX9 hbl hbA hH.2.2 (vpI (by omega) (by omega)) d_L_law_596 ?_
  refine lv_aload_n hx hb d_L_law_597 rfl (lv_at hl 1 rfl) ?_
  refine lv_iload hx hb d_L_law_598 (lv_at hl 0 rfl) ?_
  refine lv_iconst (v := 3) hx hb d_L_law_600 (by decide) ?_
  refine lv_iadd hx hb d_L_law_601 ?_
  refine fu_i e3.symm ?_
  refine va_sld hx hb hX9 hbl hbA hH.2.2 (vpI (by omega) (by omega)) d_L_law_602 ?_
  refine lz_bool (t7 := 610) (t8 := 611) hx hb d_L_law_603 d_L_law_606 d_L_law_607 d_L_law_610 (by decide) (by decide) rfl ?_
  refine lv_aload_n hx hb d_L_law_611 rfl (lv_at hl 4 rfl) ?_
  obtain ⟨o, g1, v1, r, w1, hF, hM, hag, hz1⟩ := z_number (xs (zI (i + 1)).toNatClampNeg) (xs (zI (i + 2)).toNatClampNeg) (zb (xs (zI (i + 3)).toNatClampNeg)) hz
  have hmn := mn_B_number hF
  have hmn : gL g ≤ gL g1 := hmn
  have htc := lz_tc ((o, g1, v1) : bO Int32)
  have hroom := lz_rk hz1 (by omega)
  have hroom0 : lz_k g cn + mcO g ((o, g1, v1) : bO Int32) ≤ lz_k g1 (cn + 1) ∧ lz_n g cn + msO g ((o, g1, v1) : bO Int32) ≤ lz_n g1 (cn + 1) := by
    simp only [lz_k, lz_n, mcO, msO]
    omega
  have hH := bc_perm hH List.perm_append_comm
  refine hp_cS (as := [.ref (q 0), .int (xs (zI (i + 1)).toNatClampNeg), .int (xs (zI (i + 2)).toNatClampNeg), .int (zb (xs (zI (i + 3)).toNatClampNeg)), .ref qo]) (rest := []) C0 hE hH (h_number (cJ := cJ) C0.2.2.2.2.2.2.2.2.2 hF (lz_4 hag)) (C := "FilterBenchLaw") rfl q_885 q_102 (by decide +kernel) (by decide +kernel) (n := 5) (by decide +kernel) q_884 q_883 ⟨Nat.le_of_ble_eq_true rfl, Nat.le_of_ble_eq_true rfl⟩ rfl hl.1 rfl (Nat.le_of_ble_eq_true rfl) ⟨Nat.le_trans hroom0.1 hroom.1, Nat.le_trans hroom0.2 hroom.2⟩ d_L_law_612 (fun k wA H locs hpo hH => ?_)
  obtain ⟨q1, f1, hq1, rfl, hka⟩ := lz_agree hpo hag
  refine W.widen (k := lz_k g1 (cn + 1)) (n := lz_n g1 (cn + 1)) hroom0.1 hroom0.2 ?_
  have hH := bc_perm hH List.perm_append_comm
  refine lv_istore (lv' := [(5, .int k), (4, .int (zI i)), (0, .ref b), (1, .ref (q 0)), (2, .ref (qm 0)), (3, .ref qo)]) hx hb d_L_law_615 hl (by decide) rfl (fun ls hl => ?_)
  refine lv_aload_n hx hb d_L_law_617 rfl (lv_at hl 4 rfl) ?_
  refine lv_aload_n hx hb d_L_law_618 rfl (lv_at hl 2 rfl) ?_
  refine lv_iload hx hb d_L_law_619 (lv_at hl 1 rfl) ?_
  refine lv_iconst (v := 1) hx hb d_L_law_621 (by decide) ?_
  refine lv_iadd hx hb d_L_law_622 ?_
  refine fu_i e1.symm ?_
  refine va_sld hx hb hX9 hbl hbA hH.2.2 (vpI (by omega) (by omega)) d_L_law_623 ?_
  refine lv_aload_n hx hb d_L_law_624 rfl (lv_at hl 2 rfl) ?_
  refine lv_iload hx hb d_L_law_625 (lv_at hl 1 rfl) ?_
  refine lv_iconst (v := 2) hx hb d_L_law_627 (by decide) ?_
  refine lv_iadd hx hb d_L_law_628 ?_
  refine fu_i e2.symm ?_
  refine va_sld hx hb hX9 hbl hbA hH.2.2 (vpI (by omega) (by omega)) d_L_law_629 ?_
  refine lv_aload_n hx hb d_L_law_630 rfl (lv_at hl 2 rfl) ?_
  refine lv_iload hx hb d_L_law_631 (lv_at hl 1 rfl) ?_
  refine lv_iconst (v := 3) hx hb d_L_law_633 (by decide) ?_
  refine lv_iadd hx hb d_L_law_634 ?_
  refine fu_i e3.symm ?_
  refine va_sld hx hb hX9 hbl hbA hH.2.2 (vpI (by omega) (by omega)) d_L_law_635 ?_
  refine lz_bool (t7 := 643) (t8 := 644) hx hb d_L_law_636 d_L_law_639 d_L_law_640 d_L_law_643 (by decide) (by decide) rfl ?_
  refine lz_ci (X := (qo, eL cJ f1) :: bn_ws Z (q1, g1, v1)) (as := [.int (xs (zI (i + 1)).toNatClampNeg), .int (xs (zI (i + 2)).toNatClampNeg), .int (zb (xs (zI (i + 3)).toNatClampNeg))]) (rest := []) C0 hH (c_M_number hM) yy_M_number q_1347 ⟨Nat.le_of_ble_eq_true rfl, Nat.le_of_ble_eq_true rfl⟩ rfl hl.1 rfl (Nat.le_of_ble_eq_true rfl) hroom d_L_law_644 (fun H locs hH => ?_)
  exact lz_tail (T := 647) K hH hka hl hroom d_L_law_647 d_L_law_649 d_L_law_650 d_L_law_653 d_L_law_655 d_L_law_660 d_L_law_662 d_L_law_665 d_L_law_666 d_L_law_667 d_L_law_668 d_L_law_670 d_L_law_671 d_L_law_672 d_L_law_677 (by decide) (fun ls H locs hl hH => kk f1 q1 g1 v1 w1 ls H locs hq1 ⟨hz1, Nat.le_trans hg hmn, hH⟩ hl)

set_option maxHeartbeats 8000000 in
set_option maxRecDepth 100000 in
theorem lz_character {p : Program} {l : Launch} {e : Env} {s : State} {m : MethodId} {below : List Frame} {meth : Method} {c : Code} {H : Heap} {locs : List Loc} {Q : State → Prop} {ls : Array Slot} {Z : bZ} {cJ : ClassId} {b L : Nat} {xs : Nat → Int32} {qo : Nat} {f : Nat → Int64} {q g qm : Nat → Nat} {v w : mS} {cn i : Nat} (K : lz_C Z cJ p l s m meth c b L xs) (hi : i + 5 ≤ L) (hL : L ≤ 2560) (hcn : cn + 1 ≤ 600) (hh : lz_H Z cJ s cn qo f q g v qm w H locs) (hl : lv_has ls 7 (lz_l (zI i) b (q 0) (qm 0) qo)) (kk : lz_go p l e s m below meth c Q Z cJ b (cn + 1) qo (q 0) qm (zI i)) :
    W p l e room_1 s m #[Value.ref b] below meth c H locs (lz_k g cn) (lz_n g cn) Q (F0 m 680 ls []) := by
  obtain ⟨C0, hE, hX9, hbl⟩ := id K
  have hx := C0.1
  have hb := C0.2.1
  have hbA : ¬ (fun q : Nat => s.heap.size ≤ q) b := Nat.not_le.mpr hbl
  obtain ⟨hz, hg, hH⟩ := hh
  have e1 : zI i + 1 = zI (i + 1) := by rw [zl_1, zI_add]
  have e2 : zI i + 2 = zI (i + 2) := by rw [zl_2, zI_add]
  have e3 : zI i + 3 = zI (i + 3) := by rw [zl_3, zI_add]
  have e4 : zI i + 4 = zI (i + 4) := by rw [zl_4, zI_add]
  refine lv_aload_n hx hb d_L_law_680 rfl (lv_at hl 2 rfl) ?_
  refine lv_aload_n hx hb d_L_law_681 rfl (lv_at hl 1 rfl) ?_
  refine lv_iload hx hb d_L_law_682 (lv_at hl 0 rfl) ?_
  refine lv_iconst (v := 1) hx hb d_L_law_684 (by decide) ?_
  refine lv_iadd hx hb d_L_law_685 ?_
  refine fu_i e1.symm ?_
  refine va_sld hx hb hX9 hbl hbA hH.2.2 (vpI (by omega) (by omega)) d_L_law_686 ?_
  refine lv_aload_n hx hb d_L_law_687 rfl (lv_at hl 1 rfl) ?_
  refine lv_iload hx hb d_L_law_688 (lv_at hl 0 rfl) ?_
  refine lv_iconst (v := 2) hx hb d_L_law_690 (by decide) ?_
  refine lv_iadd hx hb d_L_law_691 ?_
  refine fu_i e2.symm ?_
  refine va_sld hx hb hX9 hbl hbA hH.2.2 (vpI (by omega) (by omega)) d_L_law_692 ?_
  refine lv_aload_n hx hb d_L_law_693 rfl (lv_at hl 1 rfl) ?_
  refine lv_iload hx hb d_L_law_694 (lv_at hl 0 rfl) ?_
  refine lv_iconst (v := 3) hx hb d_L_law_696 (by decide) ?_
  refine lv_iadd hx hb d_L_law_697 ?_
  refine fu_i e3.symm ?_
  refine va_sld hx hb hX9 hbl hbA hH.2.2 (vpI (by omega) (by omega)) d_L_law_698 ?_
  refine lv_aload_n hx hb d_L_law_699 rfl (lv_at hl 1 rfl) ?_
  refine lv_iload hx hb d_L_law_700 (lv_at hl 0 rfl) ?_
  refine lv_iconst (v := 4) hx hb d_L_law_702 (by decide) ?_
  refine lv_iadd hx hb d_L_law_703 ?_
  refine fu_i e4.symm ?_
  refine va_sld hx hb hX9 hbl hbA hH.2.2 (vpI (by omega) (by omega)) d_L_law_704 ?_
  refine lz_bool (t7 := 712) (t8 := 713) hx hb d_L_law_705 d_L_law_708 d_L_law_709 d_L_law_712 (by decide) (by decide) rfl ?_
  refine lv_aload_n hx hb d_L_law_713 rfl (lv_at hl 4 rfl) ?_
  obtain ⟨o, g1, v1, r, w1, hF, hM, hag, hz1⟩ := z_character (xs (zI (i + 1)).toNatClampNeg) (xs (zI (i + 2)).toNatClampNeg) (xs (zI (i + 3)).toNatClampNeg) (zb (xs (zI (i + 4)).toNatClampNeg)) hz
  have hmn := mn_B_character hF
  have hmn : gL g ≤ gL g1 := hmn
  have htc := lz_tc ((o, g1, v1) : bO Int32)
  have hroom := lz_rk hz1 (by omega)
  have hroom0 : lz_k g cn + mcO g ((o, g1, v1) : bO Int32) ≤ lz_k g1 (cn + 1) ∧ lz_n g cn + msO g ((o, g1, v1) : bO Int32) ≤ lz_n g1 (cn + 1) := by
    simp only [lz_k, lz_n, mcO, msO]
    omega
  have hH := bc_perm hH List.perm_append_comm
  refine hp_cS (as := [.ref (q 0), .int (xs (zI (i + 1)).toNatClampNeg), .int (xs (zI (i + 2)).toNatClampNeg), .int (xs (zI (i + 3)).toNatClampNeg), .int (zb (xs (zI (i + 4)).toNatClampNeg)), .ref qo]) (rest := []) C0 hE hH (h_character (cJ := cJ) C0.2.2.2.2.2.2.2.2.2 hF (lz_4 hag)) (C := "FilterBenchLaw") rfl q_894 q_102 (by decide +kernel) (by decide +kernel) (n := 6) (by decide +kernel) q_893 q_892 ⟨Nat.le_of_ble_eq_true rfl, Nat.le_of_ble_eq_true rfl⟩ rfl hl.1 rfl (Nat.le_of_ble_eq_true rfl) ⟨Nat.le_trans hroom0.1 hroom.1, Nat.le_trans hroom0.2 hroom.2⟩ d_L_law_714 (fun k wA H locs hpo hH => ?_)
  obtain ⟨q1, f1, hq1, rfl, hka⟩ := lz_agree hpo hag
  refine W.widen (k := lz_k g1 (cn + 1)) (n := lz_n g1 (cn + 1)) hroom0.1 hroom0.2 ?_
  have hH := bc_perm hH List.perm_append_comm
  refine lv_istore (lv' := [(5, .int k), (4, .int (zI i)), (0, .ref b), (1, .ref (q 0)), (2, .ref (qm 0)), (3, .ref qo)]) hx hb d_L_law_717 hl (by decide) rfl (fun ls hl => ?_)
  refine lv_aload_n hx hb d_L_law_719 rfl (lv_at hl 4 rfl) ?_
  refine lv_aload_n hx hb d_L_law_720 rfl (lv_at hl 2 rfl) ?_
  refine lv_iload hx hb d_L_law_721 (lv_at hl 1 rfl) ?_
  refine lv_iconst (v := 1) hx hb d_L_law_723 (by decide) ?_
  refine lv_iadd hx hb d_L_law_724 ?_
  refine fu_i e1.symm ?_
  refine va_sld hx hb hX9 hbl hbA hH.2.2 (vpI (by omega) (by omega)) d_L_law_725 ?_
  refine lv_aload_n hx hb d_L_law_726 rfl (lv_at hl 2 rfl) ?_
  refine lv_iload hx hb d_L_law_727 (lv_at hl 1 rfl) ?_
  refine lv_iconst (v := 2) hx hb d_L_law_729 (by decide) ?_
  refine lv_iadd hx hb d_L_law_730 ?_
  refine fu_i e2.symm ?_
  refine va_sld hx hb hX9 hbl hbA hH.2.2 (vpI (by omega) (by omega)) d_L_law_731 ?_
  refine lv_aload_n hx hb d_L_law_732 rfl (lv_at hl 2 rfl) ?_
  refine lv_iload hx hb d_L_law_733 (lv_at hl 1 rfl) ?_
  refine lv_iconst (v := 3) hx hb d_L_law_735 (by decide) ?_
  refine lv_iadd hx hb d_L_law_736 ?_
  refine fu_i e3.symm ?_
  refine va_sld hx hb hX9 hbl hbA hH.2.2 (vpI (by omega) (by omega)) d_L_law_737 ?_
  refine lv_aload_n hx hb d_L_law_738 rfl (lv_at hl 2 rfl) ?_
  refine lv_iload hx hb d_L_law_739 (lv_at hl 1 rfl) ?_
  refine lv_iconst (v := 4) hx hb d_L_law_741 (by decide) ?_
  refine lv_iadd hx hb d_L_law_742 ?_
  refine fu_i e4.symm ?_
  refine va_sld hx hb hX9 hbl hbA hH.2.2 (vpI (by omega) (by omega)) d_L_law_743 ?_
  refine lz_bool (t7 := 751) (t8 := 752) hx hb d_L_law_744 d_L_law_747 d_L_law_748 d_L_law_751 (by decide) (by decide) rfl ?_
  refine lz_ci (X := (qo, eL cJ f1) :: bn_ws Z (q1, g1, v1)) (as := [.int (xs (zI (i + 1)).toNatClampNeg), .int (xs (zI (i + 2)).toNatClampNeg), .int (xs (zI (i + 3)).toNatClampNeg), .int (zb (xs (zI (i + 4)).toNatClampNeg))]) (rest := []) C0 hH (c_M_character hM) yy_M_character q_1351 ⟨Nat.le_of_ble_eq_true rfl, Nat.le_of_ble_eq_true rfl⟩ rfl hl.1 rfl (Nat.le_of_ble_eq_true rfl) hroom d_L_law_752 (fun H locs hH => ?_)
  exact lz_tail (T := 755) K hH hka hl hroom d_L_law_755 d_L_law_757 d_L_law_758 d_L_law_761 d_L_law_763 d_L_law_768 d_L_law_770 d_L_law_773 d_L_law_774 d_L_law_775 d_L_law_776 d_L_law_778 d_L_law_779 d_L_law_780 d_L_law_785 (by decide) (fun ls H locs hl hH => kk f1 q1 g1 v1 w1 ls H locs hq1 ⟨hz1, Nat.le_trans hg hmn, hH⟩ hl)

set_option maxHeartbeats 8000000 in
set_option maxRecDepth 100000 in
theorem lz_order {p : Program} {l : Launch} {e : Env} {s : State} {m : MethodId} {below : List Frame} {meth : Method} {c : Code} {H : Heap} {locs : List Loc} {Q : State → Prop} {ls : Array Slot} {Z : bZ} {cJ : ClassId} {b L : Nat} {xs : Nat → Int32} {qo : Nat} {f : Nat → Int64} {q g qm : Nat → Nat} {v w : mS} {cn i : Nat} (K : lz_C Z cJ p l s m meth c b L xs) (hi : i + 5 ≤ L) (hL : L ≤ 2560) (hcn : cn + 1 ≤ 600) (hh : lz_H Z cJ s cn qo f q g v qm w H locs) (hl : lv_has ls 7 (lz_l (zI i) b (q 0) (qm 0) qo)) (kk : lz_go p l e s m below meth c Q Z cJ b (cn + 1) qo (q 0) qm (zI i)) :
    W p l e room_1 s m #[Value.ref b] below meth c H locs (lz_k g cn) (lz_n g cn) Q (F0 m 788 ls []) := by
  obtain ⟨C0, hE, hX9, hbl⟩ := id K
  have hx := C0.1
  have hb := C0.2.1
  have hbA : ¬ (fun q : Nat => s.heap.size ≤ q) b := Nat.not_le.mpr hbl
  obtain ⟨hz, hg, hH⟩ := hh
  have e1 : zI i + 1 = zI (i + 1) := by rw [zl_1, zI_add]
  have e2 : zI i + 2 = zI (i + 2) := by rw [zl_2, zI_add]
  refine lv_aload_n hx hb d_L_law_788 rfl (lv_at hl 2 rfl) ?_
  refine lv_aload_n hx hb d_L_law_789 rfl (lv_at hl 1 rfl) ?_
  refine lv_iload hx hb d_L_law_790 (lv_at hl 0 rfl) ?_
  refine lv_iconst (v := 1) hx hb d_L_law_792 (by decide) ?_
  refine lv_iadd hx hb d_L_law_793 ?_
  refine fu_i e1.symm ?_
  refine va_sld hx hb hX9 hbl hbA hH.2.2 (vpI (by omega) (by omega)) d_L_law_794 ?_
  refine lv_aload_n hx hb d_L_law_795 rfl (lv_at hl 1 rfl) ?_
  refine lv_iload hx hb d_L_law_796 (lv_at hl 0 rfl) ?_
  refine lv_iconst (v := 2) hx hb d_L_law_798 (by decide) ?_
  refine lv_iadd hx hb d_L_law_799 ?_
  refine fu_i e2.symm ?_
  refine va_sld hx hb hX9 hbl hbA hH.2.2 (vpI (by omega) (by omega)) d_L_law_800 ?_
  refine lv_aload_n hx hb d_L_law_801 rfl (lv_at hl 4 rfl) ?_
  obtain ⟨o, g1, v1, r, w1, hF, hM, hag, hz1⟩ := z_order (xs (zI (i + 1)).toNatClampNeg) (xs (zI (i + 2)).toNatClampNeg) hz
  have hmn := mn_B_order hF
  have hmn : gL g ≤ gL g1 := hmn
  have htc := lz_tc ((o, g1, v1) : bO Int32)
  have hroom := lz_rk hz1 (by omega)
  have hroom0 : lz_k g cn + mcO g ((o, g1, v1) : bO Int32) ≤ lz_k g1 (cn + 1) ∧ lz_n g cn + msO g ((o, g1, v1) : bO Int32) ≤ lz_n g1 (cn + 1) := by
    simp only [lz_k, lz_n, mcO, msO]
    omega
  have hH := bc_perm hH List.perm_append_comm
  refine hp_cS (as := [.ref (q 0), .int (xs (zI (i + 1)).toNatClampNeg), .int (xs (zI (i + 2)).toNatClampNeg), .ref qo]) (rest := []) C0 hE hH (h_order (cJ := cJ) C0.2.2.2.2.2.2.2.2.2 hF (lz_4 hag)) (C := "FilterBenchLaw") rfl q_907 q_102 (by decide +kernel) (by decide +kernel) (n := 4) (by decide +kernel) q_906 q_905 ⟨Nat.le_of_ble_eq_true rfl, Nat.le_of_ble_eq_true rfl⟩ rfl hl.1 rfl (Nat.le_of_ble_eq_true rfl) ⟨Nat.le_trans hroom0.1 hroom.1, Nat.le_trans hroom0.2 hroom.2⟩ d_L_law_802 (fun k wA H locs hpo hH => ?_)
  obtain ⟨q1, f1, hq1, rfl, hka⟩ := lz_agree hpo hag
  refine W.widen (k := lz_k g1 (cn + 1)) (n := lz_n g1 (cn + 1)) hroom0.1 hroom0.2 ?_
  have hH := bc_perm hH List.perm_append_comm
  refine lv_istore (lv' := [(5, .int k), (4, .int (zI i)), (0, .ref b), (1, .ref (q 0)), (2, .ref (qm 0)), (3, .ref qo)]) hx hb d_L_law_805 hl (by decide) rfl (fun ls hl => ?_)
  refine lv_aload_n hx hb d_L_law_807 rfl (lv_at hl 4 rfl) ?_
  refine lv_aload_n hx hb d_L_law_808 rfl (lv_at hl 2 rfl) ?_
  refine lv_iload hx hb d_L_law_809 (lv_at hl 1 rfl) ?_
  refine lv_iconst (v := 1) hx hb d_L_law_811 (by decide) ?_
  refine lv_iadd hx hb d_L_law_812 ?_
  refine fu_i e1.symm ?_
  refine va_sld hx hb hX9 hbl hbA hH.2.2 (vpI (by omega) (by omega)) d_L_law_813 ?_
  refine lv_aload_n hx hb d_L_law_814 rfl (lv_at hl 2 rfl) ?_
  refine lv_iload hx hb d_L_law_815 (lv_at hl 1 rfl) ?_
  refine lv_iconst (v := 2) hx hb d_L_law_817 (by decide) ?_
  refine lv_iadd hx hb d_L_law_818 ?_
  refine fu_i e2.symm ?_
  refine va_sld hx hb hX9 hbl hbA hH.2.2 (vpI (by omega) (by omega)) d_L_law_819 ?_
  refine lz_ci (X := (qo, eL cJ f1) :: bn_ws Z (q1, g1, v1)) (as := [.int (xs (zI (i + 1)).toNatClampNeg), .int (xs (zI (i + 2)).toNatClampNeg)]) (rest := []) C0 hH (c_M_order hM) yy_M_order q_1355 ⟨Nat.le_of_ble_eq_true rfl, Nat.le_of_ble_eq_true rfl⟩ rfl hl.1 rfl (Nat.le_of_ble_eq_true rfl) hroom d_L_law_820 (fun H locs hH => ?_)
  exact lz_tail (T := 823) K hH hka hl hroom d_L_law_823 d_L_law_825 d_L_law_826 d_L_law_829 d_L_law_831 d_L_law_836 d_L_law_838 d_L_law_841 d_L_law_842 d_L_law_843 d_L_law_844 d_L_law_846 d_L_law_847 d_L_law_848 d_L_law_853 (by decide) (fun ls H locs hl hH => kk f1 q1 g1 v1 w1 ls H locs hq1 ⟨hz1, Nat.le_trans hg hmn, hH⟩ hl)

set_option maxHeartbeats 8000000 in
set_option maxRecDepth 100000 in
theorem lz_count {p : Program} {l : Launch} {e : Env} {s : State} {m : MethodId} {below : List Frame} {meth : Method} {c : Code} {H : Heap} {locs : List Loc} {Q : State → Prop} {ls : Array Slot} {Z : bZ} {cJ : ClassId} {b L : Nat} {xs : Nat → Int32} {qo : Nat} {f : Nat → Int64} {q g qm : Nat → Nat} {v w : mS} {cn i : Nat} (K : lz_C Z cJ p l s m meth c b L xs) (hi : i + 5 ≤ L) (hL : L ≤ 2560) (hcn : cn + 1 ≤ 600) (hh : lz_H Z cJ s cn qo f q g v qm w H locs) (hl : lv_has ls 7 (lz_l (zI i) b (q 0) (qm 0) qo)) (kk : lz_go p l e s m below meth c Q Z cJ b (cn + 1) qo (q 0) qm (zI i)) :
    W p l e room_1 s m #[Value.ref b] below meth c H locs (lz_k g cn) (lz_n g cn) Q (F0 m 856 ls []) := by
  obtain ⟨C0, hE, hX9, hbl⟩ := id K
  have hx := C0.1
  have hb := C0.2.1
  have hbA : ¬ (fun q : Nat => s.heap.size ≤ q) b := Nat.not_le.mpr hbl
  obtain ⟨hz, hg, hH⟩ := hh
  have e1 : zI i + 1 = zI (i + 1) := by rw [zl_1, zI_add]
  obtain ⟨r, w1, hF, hM, hz1⟩ := z_count (xs (zI (i + 1)).toNatClampNeg) hz
  have hroom := lz_rk hz (by omega)
  refine lv_aload_n hx hb d_L_law_856 rfl (lv_at hl 2 rfl) ?_
  refine lv_aload_n hx hb d_L_law_857 rfl (lv_at hl 1 rfl) ?_
  refine lv_iload hx hb d_L_law_858 (lv_at hl 0 rfl) ?_
  refine lv_iconst (v := 1) hx hb d_L_law_860 (by decide) ?_
  refine lv_iadd hx hb d_L_law_861 ?_
  refine fu_i e1.symm ?_
  refine va_sld hx hb hX9 hbl hbA hH.2.2 (vpI (by omega) (by omega)) d_L_law_862 ?_
  have hH : bc_H Z (fun q => s.heap.size ≤ q) s ((mo_ws Z.2.1 qm w ++ [(qo, eL cJ f)]) ++ bn_ws Z (q, g, v)) H locs := by
    have h := bc_perm hH List.perm_append_comm
    rw [List.append_assoc]
    exact h
  refine lz_cb (X := mo_ws Z.2.1 qm w ++ [(qo, eL cJ f)]) (as := [.int (xs (zI (i + 1)).toNatClampNeg)]) (rest := []) C0 hH (c_B_count C0.2.2.2.2.2.2.2.2.2 hF) yy_B_count q_269 ⟨Nat.le_of_ble_eq_true rfl, Nat.le_of_ble_eq_true rfl⟩ rfl hl.1 rfl (Nat.le_of_ble_eq_true rfl) hroom d_L_law_863 (fun H locs hH => ?_)
  have hH : bc_H Z (fun q => s.heap.size ≤ q) s (((qo, eL cJ f) :: bn_ws Z (q, g, v)) ++ mo_ws Z.2.1 qm w) H locs := by
    rw [List.append_assoc] at hH
    exact bc_perm hH List.perm_append_comm
  refine lv_aload_n hx hb d_L_law_866 rfl (lv_at hl 3 rfl) ?_
  refine lv_aload_n hx hb d_L_law_867 rfl (lv_at hl 1 rfl) ?_
  refine lv_iload hx hb d_L_law_868 (lv_at hl 0 rfl) ?_
  refine lv_iconst (v := 1) hx hb d_L_law_870 (by decide) ?_
  refine lv_iadd hx hb d_L_law_871 ?_
  refine fu_i e1.symm ?_
  refine va_sld hx hb hX9 hbl hbA hH.2.2 (vpI (by omega) (by omega)) d_L_law_872 ?_
  refine lz_ci (X := (qo, eL cJ f) :: bn_ws Z (q, g, v)) (as := [.int (xs (zI (i + 1)).toNatClampNeg)]) (rest := [.int r]) C0 hH (c_M_count hM) yy_M_count q_1359 ⟨Nat.le_of_ble_eq_true rfl, Nat.le_of_ble_eq_true rfl⟩ rfl hl.1 rfl (Nat.le_of_ble_eq_true rfl) hroom d_L_law_873 (fun H locs hH => ?_)
  refine lv_icmp_eq (tgt := 881) hx hb d_L_law_876 (by decide) (fun c1 => ?_) (fun c1 => ?_)
  · refine W.widen (k := lz_k g (cn + 1)) (n := lz_n g (cn + 1)) (by unfold lz_k; omega) (by unfold lz_n; omega) ?_
    exact kk f q g v w1 ls H locs rfl ⟨hz1, hg, hH⟩ hl
  · exact absurd rfl c1
