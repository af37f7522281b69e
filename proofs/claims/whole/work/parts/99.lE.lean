/-! THE CLAIM OUT OF ONE WALK OF THE LAW'S BODY. Your part is whole_start (and what it stands on); all else here is the same for every law, but numbers. -/
def R_law : String := "FilterBenchLaw"
def lw_P (b : Addr) (xs : List Int32) (args : Array Value) (s : State) : Prop := args = #[.ref b] ∧ s.IntsAt b xs ∧ xs.length ≤ 2560 ∧ (Jvm.Cond.and given_1 narrow_1).before args s = true
def lw_Q (_ : Array Value) (s : State) (o : Outcome) (t : State) : Prop := o = .returned (some (.int 1)) ∧ Framed s o t [] 601024 7293034
def lw_Z (below : List Frame) (a : Array Value) (s : State) : State → Prop := fun t => ∃ o, t.status = .running ∧ Ended t below o ∧ lw_Q a s o t
/-- the law's own end, with 1 on the stack, nothing written that was there before, its room as the claim has it -/
theorem lw_ret {p : Program} {l : Launch} {e : Env} {s : State} {m : MethodId} {below : List Frame} {meth : Method} {c : Code} {b : Nat} (hx : p.tables.exec = Jvm.exec) (hb : c.code = code) (hr : meth.sig.returnType = ret) (hlocks : meth.locks = false) {pc : Nat} {H : Heap} {ls : Array Slot} (hdg : decode code pc = .ok (.ireturn, 1)) : W p l e room_1 s m #[Value.ref b] below meth c H [] 601024 7293034 (lw_Z below #[Value.ref b] s) (F0 m pc ls [.int 1]) := by
  intro T hT X
  obtain ⟨fs, hret, hrun, hended, hW, hframe⟩ := X.leave (v := some (.int 1)) (hlocks := hlocks) (fun h => by rw [hr] at h; cases h)
  have hmeth' : T.vm.method? m = some meth := X.method'
  refine ⟨T.setFrames fs, ?_, .returned (some (.int 1)), hrun, hended, rfl, ⟨_, rfl⟩, hW, hframe⟩
  jvm_step X.here [X.here.top, hx, hb, hdg, hmeth', hr, ret, narrow_b1]
  (try refine ⟨rfl, ?_⟩); (try refine ⟨rfl, ?_⟩)
  first | (intro acts; rw [hret _ acts rfl rfl rfl]) | rw [hret _ _ rfl rfl rfl]
  exact Steps.refl _
/-- what holds at the law's entry: the machine, the code, the tables' words (any of lw_tbl by 'hts w (by decide +kernel)'), the script of L ints xs at the cell b, what the Statement gives of the start (any of its parts by flat_of_before) -/
def lw_At (p : Program) (s : State) (m : MethodId) (meth : Method) (c : Code) (b L : Nat) (xs : Nat → Int32) : Prop :=
  p.tables.exec = Jvm.exec ∧ c.code = code ∧ meth.sig.returnType = ret ∧ c.maxLocals = 7 ∧ s.vm.findClass R_law = some m.cls ∧ (∀ w ∈ lw_tbl, w.before #[Value.ref b] s = true) ∧ va_X b L xs s s.heap ∧ b < s.heap.size ∧ meth.locks = false ∧ (Jvm.Cond.and given_1 narrow_1).before #[Value.ref b] s = true
theorem lz_start {p : Program} {s : State} {m : MethodId} {meth : Method} {c : Code} (l : Launch) (hl0 : l.stackTraces = false) {b L : Nat} {xs : Nat → Int32} (C0 : lw_At p s m meth c b L xs) : ∃ (Z : bZ) (cJ : ClassId), lz_C Z cJ p l s m meth c b L xs ∧ bc_E s := by
  obtain ⟨hx, hb, hr, hml, hown, hts, hX, hbl, hlocks, hgv⟩ := C0
  have hal : ∀ w ∈ al, w.before #[Value.ref b] s = true := fun w hw => hts w (List.mem_filter.mp hw).1
  have hs := flat_of_before _ hgv
  have hA0 : ∀ a : Nat, a < s.heap.size → ¬ (fun q : Nat => s.heap.size ≤ q) a := fun a h => Nat.not_le.mpr h
  obtain ⟨c0, i0, k0⟩ := u_known (C := R_B) (T := F_B) (N := 11) (n := 11) hal i_B (hal _ q_123)
  obtain ⟨c1, i1, k1⟩ := u_known (C := R_F) (T := F_F) (N := 4) (n := 4) hal i_F (hal _ q_173)
  obtain ⟨c2, i2, k2⟩ := u_known (C := R_R) (T := F_R) (N := 3) (n := 3) hal i_R (hal _ q_199)
  obtain ⟨c3, i3, k3⟩ := u_known (C := R_N) (T := F_N) (N := 6) (n := 6) hal i_N (hal _ q_192)
  obtain ⟨c4, i4, k4⟩ := u_known (C := R_V) (T := F_V) (N := 5) (n := 5) hal i_V (hal _ q_131)
  obtain ⟨c5, i5, k5⟩ := u_known (C := R_M) (T := F_M) (N := 39) (n := 39) hal i_M (hal _ q_914)
  obtain ⟨D, hD⟩ : ∃ D : va_G, ∀ (k : Nat) (q : vw_C), cl[k]? = some q → u_Kn s q.1 q.2.1 q.2.2 (D.1 k) (D.2 k) := by
    refine ⟨(fun k => if k = 0 then c0 else if k = 1 then c1 else if k = 2 then c2 else if k = 3 then c3 else if k = 4 then c4 else c5, fun k => if k = 0 then i0 else if k = 1 then i1 else if k = 2 then i2 else if k = 3 then i3 else if k = 4 then i4 else i5), ?_⟩
    intro k q hq
    match k, hq with
    | 0, hq => cases hq; exact k0
    | 1, hq => cases hq; exact k1
    | 2, hq => cases hq; exact k2
    | 3, hq => cases hq; exact k3
    | 4, hq => cases hq; exact k4
    | 5, hq => cases hq; exact k5
    | k + 6, hq => simp [cl] at hq
  have hov1 : (Cond.arrayOver (.object "FilterBench$Filter")).before #[Value.ref b] s = true := hts _ (lw_t1 70 (by decide +kernel))
  have hov2 : (Cond.arrayOver (.object "FilterBench$Row")).before #[Value.ref b] s = true := hts _ (lw_t1 96 (by decide +kernel))
  obtain ⟨cI, aI, rI⟩ := lz_arr (hal _ q_167)
  obtain ⟨cJ, aJ, rJ⟩ := lz_arr (hal _ q_1363)
  obtain ⟨cF, aF, rF⟩ := lz_ovr hov1
  obtain ⟨cR9, aR, rR⟩ := lz_ovr hov2
  have hst : ∀ i : Nat, ∃ a : Nat, ∀ x : String × Nat × String, bn_st[i]? = some x → vk_R x.1 x.2.1 x.2.2 a s := by
    intro i
    cases hi : bn_st[i]? with
    | none => exact ⟨0, fun x hx => by cases hx⟩
    | some x =>
      obtain ⟨a, ha⟩ := vk_ex (hts _ (lz_w1 x (List.mem_of_getElem? hi)))
      exact ⟨a, fun y hy => by cases hy; exact ha⟩
  obtain ⟨fs, hfs⟩ := Classical.axiomOfChoice hst
  obtain ⟨t, ht, hT⟩ := lz_pw (A := fun q => s.heap.size ≤ q) hgv hA0
  have z1 : vx_Zq Bundle.tN "UNASSIGNED_STACK" Bundle.steD (fun q => s.heap.size ≤ q) s s.heap := vx_Zqof (hts _ (lw_t1 215 (by decide +kernel))) (hts _ (lw_t1 8 (by decide +kernel))) (hs _ (by decide +kernel)) hA0
  have z2 : vx_Zq Bundle.tN "SUPPRESSED_SENTINEL" Bundle.listD (fun q => s.heap.size ≤ q) s s.heap := vx_Zqof (hts _ (lw_t1 217 (by decide +kernel))) (hts _ (lw_t1 8 (by decide +kernel))) (hs _ (by decide +kernel)) hA0
  have z3 : va_Z "FilterBench$Values" "POWERS" "[I" (.ref t) (fun q => s.heap.size ≤ q) s s.heap := va_Zref (hts _ (lw_t3 76 (by decide +kernel))) (hts _ (lw_t1 2 (by decide +kernel))) ht hA0
  have hcJ : hp_E cJ (D, cI, cF, cR9, fs, t) s := by
    refine ⟨fun x hx => ?_, hD, fun k q hq => ?_⟩
    · simp only [hp_nc, List.mem_cons, List.not_mem_nil, or_false] at hx
      rcases hx with rfl | rfl | rfl | rfl | rfl | rfl
      · exact va_Nc.of (hs _ (by decide +kernel))
      · exact va_Nc.of (hs _ (by decide +kernel))
      · exact va_Nc.of (hs _ (by decide +kernel))
      · exact va_Nc.of (hs _ (by decide +kernel))
      · exact va_Nc.of (hs _ (by decide +kernel))
      · exact va_Nc.of (hs _ (by decide +kernel))
    · match k, hq with
      | 0, hq => cases hq; exact ⟨aJ, rJ⟩
      | k + 1, hq => simp at hq
  refine ⟨(D, cI, cF, cR9, fs, t), cJ, ⟨⟨hx, hb, hown, hal, ⟨hD, fun k q hq => ?_⟩, hml, fun q h => h, hlocks, ⟨z1, z2, z3, hT, fun i x hi => hfs i x hi, fun C hC => va_Nw.of rfl (hts _ (lz_w3 C hC)), fun x hx => va_Nw.of rfl (hts _ (lz_w2 x hx)), fun y hy => va_Nw.of rfl (hts _ (lz_w4 y hy))⟩, hl0⟩, hcJ, hX, hbl⟩, va_AO.of hov1, va_AO.of hov2, va_Nw.of rfl (hts _ (lw_t1 47 (by decide +kernel)))⟩
  match k, hq with
  | 0, hq => cases hq; exact ⟨aI, rI⟩
  | 1, hq => cases hq; exact ⟨aF, rF⟩
  | 2, hq => cases hq; exact ⟨aR, rR⟩
  | k + 3, hq => simp [bn_ty] at hq
theorem lz_in {i L : Nat} (hi : i ≤ 2560) (hL : L ≤ 2560) (h : ¬ Int32.ofNat L - 5 < zI i) : i + 5 ≤ L := by
  have e : Int32.ofNat L - 5 = zJ ((L : Int) - 5) := by
    rw [zI_of, zI_J, show (5 : Int32) = zJ 5 from rfl, zJ_sub]
  rw [e, zI_J, zJ_lt (by omega) (by omega) (by omega) (by omega)] at h
  omega
set_option maxHeartbeats 8000000 in
set_option maxRecDepth 100000 in
/-- the law's loop -/
theorem law_loop {p : Program} {l : Launch} {e : Env} {s : State} {m : MethodId} {below : List Frame} {meth : Method} {c : Code} {Z : bZ} {cJ : ClassId} {b L : Nat} {xs : Nat → Int32} {qo : Nat} {qm : Nat → Nat} (hL : L ≤ 2560) (hr : meth.sig.returnType = ret) (K : lz_C Z cJ p l s m meth c b L xs) :
    ∀ (n i cn : Nat) (f : Nat → Int64) (q g : Nat → Nat) (v w : mS) (ls : Array Slot) (H : Heap) (locs : List Loc), i ≤ L → L < i + 5 * n → 5 * cn ≤ i → lz_H Z cJ s cn qo f q g v qm w H locs → lv_has ls 7 (lz_l (zI i) b (q 0) (qm 0) qo) → W p l e room_1 s m #[Value.ref b] below meth c H locs (lz_k g cn) (lz_n g cn) (lw_Z below #[Value.ref b] s) (F0 m 23 ls []) := by
  obtain ⟨C0, hE, hX9, hbl⟩ := id K
  have hx := C0.1
  have hb := C0.2.1
  have hlocks := C0.2.2.2.2.2.2.2.1
  have hbA : ¬ (fun q : Nat => s.heap.size ≤ q) b := Nat.not_le.mpr hbl
  intro n
  induction n with
  | zero =>
    intro i cn f q g v w ls H locs h1 h2
    exact absurd h2 (by omega)
  | succ n ih =>
    intro i cn f q g v w ls H locs hi hn hc hh hl
    refine lv_iload hx hb d_L_law_23 (lv_at hl 0 rfl) ?_
    refine lv_aload_n hx hb d_L_law_25 rfl (lv_at hl 1 rfl) ?_
    refine va_slen hx hb hX9 hbl hbA hh.2.2.2.2 d_L_law_26 ?_
    refine lv_iconst (v := 5) hx hb d_L_law_27 (by decide) ?_
    refine lv_isub hx hb d_L_law_28 ?_
    refine lv_icmp_gt (tgt := 887) hx hb d_L_law_29 (by decide) (fun c_1 => ?_) (fun c_1 => ?_)
    · refine lv_iconst (v := 1) hx hb d_L_law_887 (by decide) ?_
      refine va_forget (fun q hq => hh.2.2.2.2.2.2 q hq) ?_
      have hk := lz_rk hh.1 (by omega)
      refine W.widen (k := 601024) (n := 7293034) hk.1 hk.2 ?_
      exact lw_ret hx hb hr hlocks d_L_law_888
    · have hi5 : i + 5 ≤ L := lz_in (by omega) hL c_1
      have step : ∀ cn' : Nat, 5 * cn' ≤ i + 5 → lz_go p l e s m below meth c (lw_Z below #[Value.ref b] s) Z cJ b cn' qo (q 0) qm (zI i) := by
        intro cn' hcn' f' q' g' v' w' ls H locs hq hh hl
        have e5 : zI i + 5 = zI (i + 5) := by rw [zl_5, zI_add]
        refine lv_iinc (v := zI (i + 5)) (lv' := lz_l (zI (i + 5)) b (q 0) (qm 0) qo) hx hb d_L_law_881 hl (k := 0) rfl (by rw [← e5]; rfl) (by decide) rfl (fun ls hl => ?_)
        refine lv_goto (tgt := 23) hx hb d_L_law_884 (by decide) ?_
        rw [← hq] at hl
        exact ih (i + 5) cn' f' q' g' v' w' ls H locs hi5 (by omega) hcn' hh hl
      refine lv_aload_n hx hb d_L_law_32 rfl (lv_at hl 1 rfl) ?_
      refine lv_iload hx hb d_L_law_33 (lv_at hl 0 rfl) ?_
      refine va_sld hx hb hX9 hbl hbA hh.2.2.2.2 (vpI (by omega) (by omega)) d_L_law_35 ?_
      refine lv_bipush (v := 15) hx hb d_L_law_36 (by decide) ?_
      refine lv_iand hx hb d_L_law_38 ?_
      generalize xs (zI i).toNatClampNeg &&& 15 = z
      by_cases e_0 : z = 0
      · refine fu_hit (tgt := 96) 0 e_0 hx hb d_L_law_39 (by decide) (by decide) (by rfl) (by decide) ?_
        exact lz_letter K hi5 hL (by omega) hh hl (step (cn + 1) (by omega))
      by_cases e_1 : z = 1
      · refine fu_hit (tgt := 164) 1 e_1 hx hb d_L_law_39 (by decide) (by decide) (by rfl) (by decide) ?_
        exact lz_token K hi5 hL (by omega) hh hl (step (cn + 1) (by omega))
      by_cases e_2 : z = 2
      · refine fu_hit (tgt := 244) 2 e_2 hx hb d_L_law_39 (by decide) (by decide) (by rfl) (by decide) ?_
        exact lz_wipe K hi5 hL (by omega) hh hl (step (cn + 1) (by omega))
      by_cases e_3 : z = 3
      · refine fu_hit (tgt := 312) 3 e_3 hx hb d_L_law_39 (by decide) (by decide) (by rfl) (by decide) ?_
        exact lz_run K hi5 hL (by omega) hh hl (step (cn + 1) (by omega))
      by_cases e_4 : z = 4
      · refine fu_hit (tgt := 380) 4 e_4 hx hb d_L_law_39 (by decide) (by decide) (by rfl) (by decide) ?_
        exact lz_keep K hi5 hL (by omega) hh hl (step (cn + 1) (by omega))
      by_cases e_5 : z = 5
      · refine fu_hit (tgt := 448) 5 e_5 hx hb d_L_law_39 (by decide) (by decide) (by rfl) (by decide) ?_
        exact lz_kind K hi5 hL (by omega) hh hl (step (cn + 1) (by omega))
      by_cases e_6 : z = 6
      · refine fu_hit (tgt := 516) 6 e_6 hx hb d_L_law_39 (by decide) (by decide) (by rfl) (by decide) ?_
        exact lz_length K hi5 hL (by omega) hh hl (step (cn + 1) (by omega))
      by_cases e_7 : z = 7
      · refine fu_hit (tgt := 584) 7 e_7 hx hb d_L_law_39 (by decide) (by decide) (by rfl) (by decide) ?_
        exact lz_number K hi5 hL (by omega) hh hl (step (cn + 1) (by omega))
      by_cases e_8 : z = 8
      · refine fu_hit (tgt := 680) 8 e_8 hx hb d_L_law_39 (by decide) (by decide) (by rfl) (by decide) ?_
        exact lz_character K hi5 hL (by omega) hh hl (step (cn + 1) (by omega))
      by_cases e_9 : z = 9
      · refine fu_hit (tgt := 788) 9 e_9 hx hb d_L_law_39 (by decide) (by decide) (by rfl) (by decide) ?_
        exact lz_order K hi5 hL (by omega) hh hl (step (cn + 1) (by omega))
      by_cases e_10 : z = 10
      · refine fu_hit (tgt := 856) 10 e_10 hx hb d_L_law_39 (by decide) (by decide) (by rfl) (by decide) ?_
        exact lz_count K hi5 hL (by omega) hh hl (step (cn + 1) (by omega))
      refine lv_tableOut (tgt := 881) hx hb d_L_law_39 (fu_out 11 (by decide) (fun k9 hk9 => match k9, hk9 with | 0, _ => lv_neT e_0 (by decide) | 1, _ => lv_neT e_1 (by decide) | 2, _ => lv_neT e_2 (by decide) | 3, _ => lv_neT e_3 (by decide) | 4, _ => lv_neT e_4 (by decide) | 5, _ => lv_neT e_5 (by decide) | 6, _ => lv_neT e_6 (by decide) | 7, _ => lv_neT e_7 (by decide) | 8, _ => lv_neT e_8 (by decide) | 9, _ => lv_neT e_9 (by decide) | 10, _ => lv_neT e_10 (by decide) | k9 + 11, h9 => absurd h9 (by omega))) (by decide) ?_
      exact step cn (by omega) f q g v w ls H locs rfl hh hl
set_option maxHeartbeats 8000000 in
set_option maxRecDepth 100000 in
/-- the law, from its entry -/
theorem whole_start {p : Program} {e : Env} {s : State} {m : MethodId} {below : List Frame} {meth : Method} {c : Code} (l : Launch) (hl0 : l.stackTraces = false) {b L : Nat} {xs : Nat → Int32} (hL : L ≤ 2560) (C0 : lw_At p s m meth c b L xs) : W p l e room_1 s m #[Value.ref b] below meth c s.heap [] 0 0 (lw_Z below #[Value.ref b] s) (entryFrame m ([Value.ref b] : List Value).toArray 7) := by
  have hr := C0.2.2.1
  obtain ⟨Z, cJ, K, hE⟩ := lz_start l hl0 C0
  clear C0
  obtain ⟨C0, hEJ, hX9, hbl⟩ := id K
  have hx := C0.1
  have hb := C0.2.1
  obtain ⟨-, -, hown, hts, hK, hml, hA, hlocks, hX, -⟩ := id C0
  have hl := lv_entry ([.ref b]) (n := 7) (Nat.le_of_ble_eq_true rfl)
  rw [lg_entry_eq]
  generalize (lg_sl ([.ref b]) ++ List.replicate (7 - (lg_sl ([.ref b])).length) Slot.unset).toArray = ls at hl ⊢
  have hl : lv_has ls 7 [(0, .ref b)] := hl
  have hH : bc_H Z (fun q => s.heap.size ≤ q) s [] s.heap [] := ⟨fun k q h => by simp at h, ⟨fun i j p q h => by simp at h, fun k q h => by simp at h⟩, va_S.rf⟩
  refine bc_new (ix := 8) (ci := 0) (C := "FilterBench") (T := F_B) (N := 11) (fs := [.null, .null, .null, .null, .null, .null, .int 0, .int 0, .int 0, .int 0, .int 0]) C0 hH rfl i_B t_B t_B_ok q_122 q_123 q_103 (fun j hj => by rcases (show j = 0 ∨ j = 1 ∨ j = 2 ∨ j = 3 ∨ j = 4 ∨ j = 5 ∨ j = 6 ∨ j = 7 ∨ j = 8 ∨ j = 9 ∨ j = 10 by omega) with rfl | rfl | rfl | rfl | rfl | rfl | rfl | rfl | rfl | rfl | rfl <;> rfl) (Nat.le_of_ble_eq_true rfl) (Nat.le_of_ble_eq_true rfl) d_L_law_0 (fun qb H hH => ?_)
  refine lv_dup hx hb d_L_law_3 rfl ?_
  refine bc_cI (X := []) (wc := [(qb, .inr (0, [.null, .null, .null, .null, .null, .null, .int 0, .int 0, .int 0, .int 0, .int 0]))]) (as := []) (rest := [.ref qb]) (C := "FilterBench") C0 hE hH (c_B_init hl0 qb) rfl rfl q_125 q_126 q_103 (by decide +kernel) (by decide +kernel) (by decide +kernel) q_124 ⟨Nat.le_of_ble_eq_true rfl, Nat.le_of_ble_eq_true rfl⟩ rfl hl.1 rfl (Nat.le_of_ble_eq_true rfl) ⟨Nat.le_of_ble_eq_true rfl, Nat.le_of_ble_eq_true rfl⟩ d_L_law_4 (fun w1 H locs hw hH => ?_)
  obtain ⟨q, hq0, rfl⟩ := hw
  refine lv_astore_n (lv' := [(1, .ref qb), (0, .ref b)]) hx hb d_L_law_7 rfl hl (by decide) rfl (fun ls hl => ?_)
  have hH : bc_H Z (fun q => s.heap.size ≤ q) s (bn_ws Z (q, bg0, bv0)) H locs := hH
  refine bc_new (ix := 52) (ci := 5) (C := "FilterBenchModel") (T := F_M) (N := 39) (fs := [Value.int 0, Value.null, Value.null, Value.null, Value.null, Value.null, Value.null, Value.int 0, Value.null, Value.int 0, Value.null, Value.null, Value.int 0, Value.int 0, Value.null, Value.null, Value.null, Value.null, Value.int 0, Value.null, Value.int 0, Value.int 0, Value.int 0, Value.int 0, Value.int 0, Value.null, Value.null, Value.null, Value.null, Value.null, Value.null, Value.null, Value.null, Value.null, Value.null, Value.null, Value.null, Value.int 0, Value.int 0]) C0 hH rfl i_M t_M t_M_ok q_913 q_914 q_109 (fun j hj => by rcases (show j = 0 ∨ j = 1 ∨ j = 2 ∨ j = 3 ∨ j = 4 ∨ j = 5 ∨ j = 6 ∨ j = 7 ∨ j = 8 ∨ j = 9 ∨ j = 10 ∨ j = 11 ∨ j = 12 ∨ j = 13 ∨ j = 14 ∨ j = 15 ∨ j = 16 ∨ j = 17 ∨ j = 18 ∨ j = 19 ∨ j = 20 ∨ j = 21 ∨ j = 22 ∨ j = 23 ∨ j = 24 ∨ j = 25 ∨ j = 26 ∨ j = 27 ∨ j = 28 ∨ j = 29 ∨ j = 30 ∨ j = 31 ∨ j = 32 ∨ j = 33 ∨ j = 34 ∨ j = 35 ∨ j = 36 ∨ j = 37 ∨ j = 38 by omega) with rfl | rfl | rfl | rfl | rfl | rfl | rfl | rfl | rfl | rfl | rfl | rfl | rfl | rfl | rfl | rfl | rfl | rfl | rfl | rfl | rfl | rfl | rfl | rfl | rfl | rfl | rfl | rfl | rfl | rfl | rfl | rfl | rfl | rfl | rfl | rfl | rfl | rfl | rfl <;> rfl) (Nat.le_of_ble_eq_true rfl) (Nat.le_of_ble_eq_true rfl) d_L_law_8 (fun qa H hH => ?_)
  refine lv_dup hx hb d_L_law_11 rfl ?_
  refine bc_cI (X := bn_ws Z (q, bg0, bv0)) (wc := [(qa, .inr (5, [Value.int 0, Value.null, Value.null, Value.null, Value.null, Value.null, Value.null, Value.int 0, Value.null, Value.int 0, Value.null, Value.null, Value.int 0, Value.int 0, Value.null, Value.null, Value.null, Value.null, Value.int 0, Value.null, Value.int 0, Value.int 0, Value.int 0, Value.int 0, Value.int 0, Value.null, Value.null, Value.null, Value.null, Value.null, Value.null, Value.null, Value.null, Value.null, Value.null, Value.null, Value.null, Value.int 0, Value.int 0]))]) (as := []) (rest := [.ref qa]) (C := "FilterBenchModel") C0 hE hH (c_M_init hl0 qa) rfl rfl q_916 q_917 q_109 (by decide +kernel) (by decide +kernel) (by decide +kernel) q_915 ⟨Nat.le_of_ble_eq_true rfl, Nat.le_of_ble_eq_true rfl⟩ rfl hl.1 rfl (Nat.le_of_ble_eq_true rfl) ⟨Nat.le_of_ble_eq_true rfl, Nat.le_of_ble_eq_true rfl⟩ d_L_law_12 (fun w1 H locs hw hH => ?_)
  obtain ⟨qm, w, hm0, rfl, hz⟩ := hw
  refine lv_astore_n (lv' := [(2, .ref qa), (1, .ref qb), (0, .ref b)]) hx hb d_L_law_15 rfl hl (by decide) rfl (fun ls hl => ?_)
  refine lv_iconst (v := 1) hx hb d_L_law_16 (by decide) ?_
  refine va_newa (atype := .long) (ty := .long) (N' := 1) (a0 := (1, .inr (.inl (fun _ => 0)))) hx hb (hts _ q_1363) rfl hEJ.2 hH.1 hH.2.1 hH.2.2 hA (fun cA => rfl) (by decide) rfl (by decide) (Nat.le_of_ble_eq_true rfl) (Nat.le_of_ble_eq_true rfl) d_L_law_17 (fun qo cA H hK1 hP hD hS => ?_)
  have e1 : va_RA s cA .long := (hK1.2 1 (cA, .long) rfl).2
  have e2 : va_RA s cJ .long := (hEJ.2.2 0 (cJ, .long) rfl).2
  have e3 : cA = cJ := Option.some.inj (e1.symm.trans e2)
  subst e3
  have hH : bc_H Z (fun q => s.heap.size ≤ q) s ((bn_ws Z (q, bg0, bv0) ++ mo_ws Z.2.1 qm w) ++ [(qo, eL cA (fun _ => 0))]) H locs := ⟨hP, hD, hS⟩
  have hHf : bc_H Z (fun q => s.heap.size ≤ q) s (((qo, eL cA (fun _ => 0)) :: bn_ws Z (q, bg0, bv0)) ++ mo_ws Z.2.1 qm w) H locs := bc_perm hH List.perm_append_comm
  refine lv_astore_n (lv' := [(3, .ref qo), (2, .ref qa), (1, .ref qb), (0, .ref b)]) hx hb d_L_law_19 rfl hl (by decide) rfl (fun ls hl => ?_)
  refine lv_iconst (v := 0) hx hb d_L_law_20 (by decide) ?_
  refine lv_istore (lv' := [(4, .int 0), (3, .ref qo), (2, .ref qa), (1, .ref qb), (0, .ref b)]) hx hb d_L_law_21 hl (by decide) rfl (fun ls hl => ?_)
  subst hq0
  subst hm0
  have hg : gL bg0 = 1024 := by decide
  refine W.widen (k := lz_k bg0 0) (n := lz_n bg0 0) (by rw [lz_k, hg]; omega) (by rw [lz_n, hg]; omega) ?_
  exact law_loop hL hr K (L + 1) 0 0 (fun _ => 0) q bg0 bv0 w ls H locs (Nat.zero_le L) (by omega) (by omega) ⟨hz, by rw [hg]; omega, hHf⟩ (lv_sub hl [0, 4, 3, 2, 1] rfl)

set_option maxHeartbeats 4000000 in
theorem lw_walk (l : Launch) (hl0 : l.stackTraces = false) (b : Addr) (xs : List Int32) : MetFree l x (headSpec (Jvm.Cond.code x code maxLocals ret :: tables_1) room_1) (lw_P b xs) (fun _ _ _ _ _ => True) lw_Q := by
  refine MetFree.of_bodyS (code := code) (maxLocals := maxLocals) (ret := ret) (by decide) ?_ ?_
  · intro args s m h hn
    obtain ⟨meth, c, h1, h2, h3, h4, h5, h6, -, -⟩ := Cond.code_spec hn (atoms_spec (ws := Jvm.Cond.code x code maxLocals ret :: tables_1) h _ List.mem_cons_self)
    exact ⟨meth, c, h1, h2, h3, h4, h5, h6⟩
  · intro p e s m args below meth c s₁ B hml0 hP _
    obtain ⟨rfl, hx, hbd, hgv⟩ := hP
    obtain ⟨scr, harrAt, hlist, hof, hsmall⟩ := hx
    obtain ⟨hcb, hkn, -, -⟩ := State.arrayAt?_spec harrAt
    have hown : s.vm.findClass R_law = some m.cls := findClass_of_methodNamed B.named
    have hts0 : ∀ c ∈ (Jvm.Cond.code x code maxLocals ret :: tables_1), c.before #[Value.ref b] s = true := atoms_spec (ws := Jvm.Cond.code x code maxLocals ret :: tables_1) B.pre
    have hts : ∀ w ∈ lw_tbl, w.before #[Value.ref b] s = true := k2_hts_sels lw_privs (fun w hw => hts0 w (List.mem_cons_of_mem _ hw)) lw_privs_ok
    have hml : c.maxLocals = 7 := B.maxLocals_eq (hts0 _ List.mem_cons_self)
    have X₀ : Stand p l e room_1 s m #[Value.ref b] below meth c s₁ [] 0 0 := Stand.of_body B
    have hh0 : s₁.heap = s.heap := by rw [B.state]; rfl
    have hsz : scr.slots.size = xs.length := by rw [← Array.length_toList, hlist, List.length_map]
    have hval : ∀ j : Nat, j < xs.length → scr.slots[j]? = some (.int (xs.getD j 0)) := fun j hj => by
      rw [← Array.getElem?_toList, hlist]
      simp [hj]
    have hbl : b < s.heap.size := (Array.getElem?_eq_some_iff.mp hcb).1
    have hX : va_X b xs.length (fun j => xs.getD j 0) s s.heap := ⟨scr, hcb, hof, hkn, hsz, hval⟩
    have K : W p l e room_1 s m #[Value.ref b] below meth c s₁.heap [] 0 0 (lw_Z below #[Value.ref b] s) (entryFrame m ([Value.ref b] : List Value).toArray 7) := by
      rw [hh0]
      exact whole_start l hl0 hbd ⟨B.exec, B.bytes, B.returns, hml, hown, hts, hX, hbl, B.notSynchronized, hgv⟩
    obtain ⟨t, a1, o, b1, b2, b3⟩ := K s₁ rfl X₀
    exact ⟨t, o, a1, b1, b2, b3⟩
theorem lw_pre_spec {args : Array Value} {s : State} (h : (Jvm.Cond.and given_1 narrow_1).before args s = true) (hr : rest_1_c.before args s = true) : ∃ (b : Addr) (xs : List Int32), lw_P b xs args s := by
  have hs := flat_of_before _ h
  have hq := flat_of_before _ hr
  have hc : (Cond.count 1).before args s = true := hs _ (by decide +kernel)
  have harr : (Cond.arrayOf (.arg 0) .int).before args s = true := hs _ (by decide +kernel)
  have hle : (Cond.le (.length (.arg 0)) (.int 2560)).before args s = true := hs _ (by decide +kernel)
  have hlen : (Cond.isInt (.length (.arg 0))).before args s = true := hq _ (by decide +kernel)
  have hall : (Cond.all (.arg 0) (.isInt (.elem (.arg 0) (.index 0)))).before args s = true := hq _ (by decide +kernel)
  obtain ⟨b, xs, hb, hx⟩ := State.ints_of_pre rfl harr hlen hall
  have hsm : xs.length < 2 ^ 31 := hx.choose_spec.2.2.2
  have hev : (Term.length (.arg 0)).eval args s none [] s = some (.int xs.length.toInt32) := hx.length_eval hb
  have hv := Cond.le_ints hev (show (Term.int 2560).eval args s none [] s = some (.int 2560) from rfl)
  have hd : xs.length.toInt32 ≤ 2560 := by
    simpa [Cond.before, Cond.holds, hv] using hle
  have hN : xs.length ≤ 2560 := (Int32.ofNat_le_ofNat hsm (by decide)).mp (show Int32.ofNat xs.length ≤ Int32.ofNat 2560 from hd)
  exact ⟨b, xs, Cond.one_arg hc (show args[0]? = some (.ref b) from hb), hx, hN, h⟩
theorem lw_comes (l : Launch) (hl0 : l.stackTraces = false) : Comes l x (Jvm.Cond.code x code maxLocals ret :: tables_1) room_1 (fun tb e args s => Calls_1 tb e args s ∧ rest_1 tb e args s ∧ Pre_1 tb e args s)
    (fun _ _ args s o t => lw_Q args s o t) := by
  intro p e ha hc hk s m args below hf hfit hheap happ hpre
  obtain ⟨b, xs, hP⟩ := lw_pre_spec hpre.2.2 hpre.2.1
  obtain ⟨k, o, h1, h2, h3, hQ⟩ := lw_walk l hl0 b xs p e ha hc hk s m args below hf ((Spec.applies_iff_loose hf).mp happ).1 hP trivial
  exact ⟨k, o, h1, h2, h3, hQ⟩
theorem lw_frame {s t : State} {o : Outcome} {args : Array Value} (h : Framed s o t [] 601024 7293034) :
    Framed s o t (fieldLocs frame_1_writes args s ++ arrayLocs frame_1_arrays args s ++ staticLocs frame_1_statics s) 601024 7293034 := h
theorem lw_limb (L : Cond) (hL : ∀ (args : Array Value) (s t : State), L.after args s (.returned (some (.int 1))) t = true) :
    ArmFor flags0 classFile x code maxLocals ret World_1 tables_1 room_1 Calls_1 rest_1 Pre_1
      (fun tb e a s o t => postC L tb e a s o t ∧ Framed s o t (fieldLocs frame_1_writes a s ++ arrayLocs frame_1_arrays a s ++ staticLocs frame_1_statics s) 601024 7293034) := by
  intro l hfl _ _ p e ha hc hk s m args below hf hfit hheap happ hpre
  obtain ⟨k, o, h1, h2, h3, rfl, hF⟩ := lw_comes l (by unfold Launch.stackTraces; rw [hfl]; decide) p e ha hc hk s m args below hf hfit hheap happ hpre
  exact ⟨k, _, h1, h2, h3, hL args s _, lw_frame hF⟩
theorem i_vc : Claimed_1_1 ∧ Claimed_1_2 := ⟨lw_limb limb_1_1 (fun args s t => by simp [limb_1_1, Cond.after, Cond.holds, Cond.value]), lw_limb limb_1_2 (fun args s t => Cond.after_iff.mpr (by
  first | (rw [show limb_1_2 = Cond.eq .result (.int 1) from rfl, Cond.eq_ints (x := 1) (y := 1) rfl rfl]; simp; done) | (simp [limb_1_2, Cond.value, Term.eval]; done)))⟩
