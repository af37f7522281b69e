/-! Arrays.copyOf of a row of ints to a longer one; the cells grow -/
theorem q_145 : Cond.sameMethod "[I" "java/lang/Object" "clone" "()Ljava/lang/Object;" ∈ al := al_t1 43 (by decide +kernel) (by decide +kernel)
theorem q_146 : Cond.native ⟨"java/lang/Object", "clone", "()Ljava/lang/Object;"⟩ ∈ al := al_t1 44 (by decide +kernel) (by decide +kernel)
theorem q_148 : Cond.selects "[I" ⟨"[I", "clone", "()Ljava/lang/Object;"⟩ ⟨"java/lang/Object", "clone", "()Ljava/lang/Object;"⟩ ∈ al := al_t1 46 (by decide +kernel) (by decide +kernel)
theorem q_404 : Cond.native ⟨"java/lang/System", "arraycopy", "(Ljava/lang/Object;ILjava/lang/Object;II)V"⟩ ∈ al := al_t2 62 (by decide +kernel) (by decide +kernel)
def y_J_copyOf : MethodName := ⟨"java/util/Arrays", "copyOf", "([II)[I"⟩
abbrev b_J_copyOf : ByteArray := prog_22_method_123_code
theorem d_J_copyOf_0 : decode b_J_copyOf 0 = .ok (.iload_n 1, 1) := by decide +kernel
theorem d_J_copyOf_1 : decode b_J_copyOf 1 = .ok (.aload_n 0, 1) := by decide +kernel
theorem d_J_copyOf_2 : decode b_J_copyOf 2 = .ok (.arraylength, 1) := by decide +kernel
theorem d_J_copyOf_3 : decode b_J_copyOf 3 = .ok (.if_icmp .ne 11, 3) := by decide +kernel
theorem d_J_copyOf_14 : decode b_J_copyOf 14 = .ok (.iload_n 1, 1) := by decide +kernel
theorem d_J_copyOf_15 : decode b_J_copyOf 15 = .ok (.newarray .int, 2) := by decide +kernel
theorem d_J_copyOf_17 : decode b_J_copyOf 17 = .ok (.astore_n 2, 1) := by decide +kernel
theorem d_J_copyOf_18 : decode b_J_copyOf 18 = .ok (.aload_n 0, 1) := by decide +kernel
theorem d_J_copyOf_19 : decode b_J_copyOf 19 = .ok (.iconst 0, 1) := by decide +kernel
theorem d_J_copyOf_20 : decode b_J_copyOf 20 = .ok (.aload_n 2, 1) := by decide +kernel
theorem d_J_copyOf_21 : decode b_J_copyOf 21 = .ok (.iconst 0, 1) := by decide +kernel
theorem d_J_copyOf_22 : decode b_J_copyOf 22 = .ok (.aload_n 0, 1) := by decide +kernel
theorem d_J_copyOf_23 : decode b_J_copyOf 23 = .ok (.arraylength, 1) := by decide +kernel
theorem d_J_copyOf_24 : decode b_J_copyOf 24 = .ok (.iload_n 1, 1) := by decide +kernel
theorem d_J_copyOf_25 : decode b_J_copyOf 25 = .ok (.invokestatic 304, 3) := by decide +kernel
theorem d_J_copyOf_28 : decode b_J_copyOf 28 = .ok (.invokestatic 150, 3) := by decide +kernel
theorem d_J_copyOf_31 : decode b_J_copyOf 31 = .ok (.aload_n 2, 1) := by decide +kernel
theorem d_J_copyOf_32 : decode b_J_copyOf 32 = .ok (.areturn, 1) := by decide +kernel
theorem yy_J_copyOf : bn_YS "java/util/Arrays" y_J_copyOf b_J_copyOf 3 (some (.array .int)) 2 := ⟨rfl, q_395, q_396, q_105, by decide +kernel, by decide +kernel, by decide +kernel⟩
def gwf (n0 : Nat) (f : Nat → Int32) : Nat → Int32 := fun k => if k < n0 then f k else 0
set_option maxHeartbeats 4000000 in
set_option maxRecDepth 100000 in
theorem c_J_copyOf {l : Launch} {Z : bZ} (hl0 : l.stackTraces = false) {a n0 N : Nat} {f : Nat → Int32} {n : Int32} (hn : ¬ n < 0) (hN : n.toNatClampNeg = N) (hlt : n0 < N) (hmx : N ≤ 1000000) : ∀ sz : Nat, Met l y_J_copyOf (mo_w y_J_copyOf b_J_copyOf 3 (some (.array .int))) (bn_rm 1 1 N) (va_Pc [.ref a, .int n] (bc_P0 Z sz [(a, .inl (Z.2.1, (n0, .inl f)))])) (va_Qr (fun _ : Unit => True) (fun _ r t => bc_B Z (va_A [(a, .inl (Z.2.1, (n0, .inl f)))] sz) [(a, .inl (Z.2.1, (n0, .inl f))), (r, .inl (Z.2.1, (N, .inl (gwf n0 f))))] t) (va_A [(a, .inl (Z.2.1, (n0, .inl f)))] sz)) 1 N (va_A [(a, .inl (Z.2.1, (n0, .inl f)))] sz) := by
  intro sz
  refine va_MetF (cc := b_J_copyOf) (maxL := 3) (ret := some (.array .int)) (by decide +kernel) rfl ?_
  intro p e s m args below meth c s₁ B hml hv
  obtain ⟨rfl, hsz, hP, hK, hD0, hX⟩ := hv
  have hts0 := atoms_spec (ws := mo_w y_J_copyOf b_J_copyOf 3 (some (.array .int))) B.pre
  have hts : ∀ w ∈ al, w.before [Value.ref a, .int n].toArray s = true := fun x hx => hts0 x (List.mem_cons_of_mem _ hx)
  have hown : s.vm.findClass "java/util/Arrays" = some m.cls := findClass_of_methodNamed B.named
  have hx := B.exec
  have hb := B.bytes
  have hr := B.returns
  have hlocks := B.notSynchronized
  subst hsz
  have hD := hD0.self (sz := s.heap.size)
  have hS : va_S (va_A [(a, .inl (Z.2.1, (n0, .inl f)))] s.heap.size) s.heap s.heap [] := va_S.rf
  have hA : ∀ q : Nat, s.heap.size ≤ q → va_A [(a, .inl (Z.2.1, (n0, .inl f)))] s.heap.size q := fun _ h => Or.inr h
  generalize va_A [(a, (.inl (Z.2.1, (n0, .inl f)) : va_E))] s.heap.size = A at hD hS hA ⊢
  have hl := lv_entry [.ref a, .int n] (n := 3) (Nat.le_of_ble_eq_true rfl)
  rw [lg_entry_eq]
  generalize (lg_sl ([.ref a, .int n]) ++ List.replicate (3 - (lg_sl ([.ref a, .int n])).length) Slot.unset).toArray = ls at hl ⊢
  have hl : lv_has ls 3 [(0, .ref a), (1, .int n)] := hl
  have hne : ¬ n = Int32.ofNat n0 := by
    intro q
    rw [q, Int32.toNatClampNeg_ofNat_of_lt (by omega)] at hN
    omega
  refine lv_iload_n hx hb d_J_copyOf_0 rfl (lv_at hl 1 rfl) ?_
  refine lv_aload_n hx hb d_J_copyOf_1 rfl (lv_at hl 0 rfl) ?_
  refine va_alen (v := Int32.ofNat n0) hx hb hK hP 0 0 rfl rfl rfl d_J_copyOf_2 ?_
  refine lv_icmp_ne (tgt := 14) hx hb d_J_copyOf_3 (by decide) (fun c_1 => ?_) (fun c_1 => ?_)
  · refine lv_iload_n hx hb d_J_copyOf_14 rfl (lv_at hl 1 rfl) ?_
    refine va_newa (atype := .int) (ty := .int) (a0 := (N, .inl (fun _ => 0))) hx hb (hts _ q_167) rfl hK hP hD hS hA (fun cA => rfl) hn hN (by show N * 4 ≤ 536870912; omega) (by show 0 + 1 ≤ 1; omega) (by show 0 + N ≤ N; omega) d_J_copyOf_15 (fun q cA H1 hK1 hP hD hS => ?_)
    have e1 : va_RA s cA .int := (hK1.2 3 (cA, .int) rfl).2
    have e2 : va_RA s Z.2.1 .int := (hK.2 0 (Z.2.1, .int) rfl).2
    have e3 : cA = Z.2.1 := Option.some.inj (e1.symm.trans e2)
    subst e3
    have hP : va_P Z.1 cl [(a, .inl (Z.2.1, (n0, .inl f))), (q, .inl (Z.2.1, (N, .inl (fun _ => 0))))] H1 := hP
    have hD : va_D A [(a, .inl (Z.2.1, (n0, .inl f))), (q, .inl (Z.2.1, (N, .inl (fun _ => 0))))] := hD
    refine lv_astore_n (lv' := [(2, .ref q), (0, .ref a), (1, .int n)]) hx hb d_J_copyOf_17 rfl hl (by decide) rfl (fun ls hl => ?_)
    refine lv_aload_n hx hb d_J_copyOf_18 rfl (lv_at hl 1 rfl) ?_
    refine lv_iconst (v := 0) hx hb d_J_copyOf_19 (by decide) ?_
    refine lv_aload_n hx hb d_J_copyOf_20 rfl (lv_at hl 0 rfl) ?_
    refine lv_iconst (v := 0) hx hb d_J_copyOf_21 (by decide) ?_
    refine lv_aload_n hx hb d_J_copyOf_22 rfl (lv_at hl 1 rfl) ?_
    refine va_alen (v := Int32.ofNat n0) hx hb hK hP 0 0 rfl rfl rfl d_J_copyOf_23 ?_
    refine lv_iload_n hx hb d_J_copyOf_24 rfl (lv_at hl 2 rfl) ?_
    refine va_mmin hx hb (hml.trans hl.1.symm) hown (hts _ q_399) (hts _ q_400) (hts _ q_115) (hts _ q_401) (Nat.le_of_ble_eq_true rfl) (Nat.le_of_ble_eq_true rfl) (by show 0 + 1 ≤ 1; omega) (by show 0 + N ≤ N; omega) d_J_copyOf_25 ?_
    have hmin : (if n < Int32.ofNat n0 then n else Int32.ofNat n0) = Int32.ofNat n0 := by
      rw [if_neg]
      intro q
      rw [Int32.lt_iff_toInt_lt, Int32.toInt_ofNat_of_lt (by omega)] at q
      have h0 : 0 ≤ n.toInt := by
        have := Int32.not_lt.mp hn
        rw [Int32.le_iff_toInt_le] at this
        exact this
      have h1 : n.toNatClampNeg = n.toInt.toNat := rfl
      omega
    refine fu_i hmin.symm ?_
    have hcl : (Int32.ofNat n0).toNatClampNeg = n0 := Int32.toNatClampNeg_ofNat_of_lt (by omega)
    have hnn : ¬ Int32.ofNat n0 < 0 := by
      intro q
      rw [Int32.lt_iff_toInt_lt, Int32.toInt_ofNat_of_lt (by omega)] at q
      have : (0 : Int32).toInt = 0 := rfl
      omega
    refine va_copyi hx hb (hml.trans hl.1.symm) hown (hts _ q_402) (hts _ q_404) (hts _ q_403) (hts _ q_116) hK hP hD hS 0 1 0 0 rfl rfl rfl rfl rfl (by decide) (by decide) hnn (by rw [hcl]; exact Nat.le_of_eq (Nat.zero_add _)) (by rw [hcl]; show 0 + n0 ≤ N; omega) (fun _ _ => rfl) (Nat.le_of_ble_eq_true rfl) (Nat.le_of_ble_eq_true rfl) d_J_copyOf_28 (fun H2 locs hP hD hS => ?_)
    have hcpy : va_cpy f (fun _ => 0) (0 : Int32).toNatClampNeg (0 : Int32).toNatClampNeg (Int32.ofNat n0).toNatClampNeg = gwf n0 f := by
      funext k
      rw [hcl]
      show (if 0 ≤ k ∧ k < 0 + n0 then f (0 + (k - 0)) else 0) = gwf n0 f k
      unfold gwf
      by_cases ck : k < n0
      · rw [if_pos ⟨Nat.zero_le _, by omega⟩, if_pos ck, Nat.sub_zero, Nat.zero_add]
      · rw [if_neg (fun q => ck (by omega)), if_neg ck]
    rw [hcpy] at hP hD
    refine lv_aload_n hx hb d_J_copyOf_31 rfl (lv_at hl 0 rfl) ?_
    refine W.widen (k := 1) (n := N) (by omega) (by omega) ?_
    exact W.aret (v := .ref q) hx hb hr (Or.inr ⟨.int, rfl⟩) (Or.inr ⟨q, rfl⟩) (fun t ht hW => ⟨⟨(), q, rfl, trivial, by rw [ht]; exact hP, va_K.moved hW.alike hK, hD⟩, hS.F ht⟩) hS.2.2 d_J_copyOf_32 hlocks
  · exact absurd c_1 hne
def gr_v (g : Nat → Nat) (v : mS) : mS := fun a => if a = 4 then gwf (g 4) (v 4) else v a
def gr_w (Z : bZ) (q g : Nat → Nat) (v : mS) (r N : Nat) : va_W := (bn_ws Z (q, g, v) ++ [(r, (.inl (Z.2.1, (N, .inl (gwf (g 4) (v 4)))) : va_E))]).set 1 (q 1, .inr (4, [.ref (q 2), .ref (q 3), .ref r, .ref (q 5), .int (v 1 4)]))
def gr_s (k : Nat) : Nat := if k = 4 then 62 else k
theorem gr_qn {q : Nat → Nat} {r j : Nat} (h4 : j ≠ 4) : va_up q 4 r j = q j := by simp [va_up, h4]
set_option maxRecDepth 100000 in
theorem gr_ws {Z : bZ} {q g : Nat → Nat} {v : mS} {r N : Nat} : ∀ k, k < 62 → (bn_ws Z (va_up q 4 r, va_up g 4 N, gr_v g v))[k]? = (gr_w Z q g v r N)[gr_s k]? := by
  intro k hk
  match k, hk with
  | 0, _ => rfl | 1, _ => rfl | 2, _ => rfl | 3, _ => rfl | 4, _ => rfl | 5, _ => rfl | 6, _ => rfl | 7, _ => rfl | 8, _ =>
    have e9 : (fun k => some (va_up q 4 r (9 + 4 * k))) = (fun k => some (q (9 + 4 * k))) := by funext k; rw [gr_qn (by omega)]
    show some (q 8, (Sum.inl (Z.2.2.1, (4, .inr (.inr (.inr (.inr (fun k => some (va_up q 4 r (9 + 4 * k)))))))) : va_E)) = some (q 8, (Sum.inl (Z.2.2.1, (4, .inr (.inr (.inr (.inr (fun k => some (q (9 + 4 * k)))))))) : va_E))
    rw [e9]
  | 9, _ => rfl | 10, _ => rfl | 11, _ => rfl | 12, _ => rfl | 13, _ => rfl | 14, _ => rfl | 15, _ => rfl | 16, _ => rfl | 17, _ => rfl | 18, _ => rfl | 19, _ => rfl | 20, _ => rfl | 21, _ => rfl | 22, _ => rfl | 23, _ => rfl | 24, _ => rfl | 25, _ =>
    show some (q 25, (Sum.inr (3, [.ref (q 1), .ref (q 7), .ref (q 26), .ref (q 27), .ref (va_up q 4 r (9 + 4 * g 25)), .int (v 25 5)]) : va_E)) = some (q 25, (Sum.inr (3, [.ref (q 1), .ref (q 7), .ref (q 26), .ref (q 27), .ref (q (9 + 4 * g 25)), .int (v 25 5)]) : va_E))
    rw [gr_qn (by omega)]
  | 26, _ => rfl | 27, _ =>
    have e9 : (fun k => some (va_up q 4 r (28 + 2 * k))) = (fun k => some (q (28 + 2 * k))) := by funext k; rw [gr_qn (by omega)]
    show some (q 27, (Sum.inl (Z.2.2.2.1, (16, .inr (.inr (.inr (.inr (fun k => some (va_up q 4 r (28 + 2 * k)))))))) : va_E)) = some (q 27, (Sum.inl (Z.2.2.2.1, (16, .inr (.inr (.inr (.inr (fun k => some (q (28 + 2 * k)))))))) : va_E))
    rw [e9]
  | 28, _ => rfl | 29, _ => rfl | 30, _ => rfl | 31, _ => rfl | 32, _ => rfl | 33, _ => rfl | 34, _ => rfl | 35, _ => rfl | 36, _ => rfl | 37, _ => rfl | 38, _ => rfl | 39, _ => rfl | 40, _ => rfl | 41, _ => rfl | 42, _ => rfl | 43, _ => rfl | 44, _ => rfl | 45, _ => rfl | 46, _ => rfl | 47, _ => rfl | 48, _ => rfl | 49, _ => rfl | 50, _ => rfl | 51, _ => rfl | 52, _ => rfl | 53, _ => rfl | 54, _ => rfl | 55, _ => rfl | 56, _ => rfl | 57, _ => rfl | 58, _ => rfl | 59, _ => rfl | 60, _ => rfl | 61, _ => rfl | k + 62, hk => exact absurd hk (by omega)
theorem gr_lt {Z : bZ} {u : bS} {k : Nat} {x : Nat × va_E} (hx : (bn_ws Z u)[k]? = some x) : k < 62 := by
  have := (List.getElem?_eq_some_iff.mp hx).1
  simpa [bn_ws] using this
theorem gr_P {Z : bZ} {q g : Nat → Nat} {v : mS} {r N : Nat} {H : Heap} (h : va_P Z.1 cl (gr_w Z q g v r N) H) : va_P Z.1 cl (bn_ws Z (va_up q 4 r, va_up g 4 N, gr_v g v)) H := by
  intro k x hx
  exact h (gr_s k) x (by rw [← gr_ws k (gr_lt hx)]; exact hx)
theorem gr_D {Z : bZ} {q g : Nat → Nat} {v : mS} {r N : Nat} {A : Nat → Prop} (h : va_D A (gr_w Z q g v r N)) : va_D A (bn_ws Z (va_up q 4 r, va_up g 4 N, gr_v g v)) := by
  refine ⟨fun i j x y hi hj hxy => ?_, fun k x hk => ?_⟩
  · have h1 := gr_lt hi
    have h2 := gr_lt hj
    have h3 := h.1 (gr_s i) (gr_s j) x y (by rw [← gr_ws i h1]; exact hi) (by rw [← gr_ws j h2]; exact hj) hxy
    unfold gr_s at h3
    by_cases c1 : i = 4
    · by_cases c2 : j = 4
      · omega
      · rw [if_pos c1, if_neg c2] at h3; omega
    · by_cases c2 : j = 4
      · rw [if_neg c1, if_pos c2] at h3; omega
      · rw [if_neg c1, if_neg c2] at h3; exact h3
  · exact h.2 (gr_s k) x (by rw [← gr_ws k (gr_lt hk)]; exact hk)
theorem er_perm {α : Type} (l : List α) (i : Nat) (h : i < l.length) : l.Perm (l.eraseIdx i ++ [l[i]]) := by
  have e : l = l.take i ++ l[i] :: l.drop (i + 1) := by rw [← List.drop_eq_getElem_cons h, List.take_append_drop]
  have p1 : (l.take i ++ l[i] :: l.drop (i + 1)).Perm (l[i] :: (l.take i ++ l.drop (i + 1))) := List.perm_middle
  rw [← e] at p1
  rw [List.eraseIdx_eq_take_drop_succ]
  exact p1.trans (List.perm_append_singleton _ _).symm
theorem gr_perm {Z : bZ} {u : bS} : (bn_ws Z u).Perm ((bn_ws Z u).eraseIdx 4 ++ [(u.1 4, .inl (Z.2.1, (u.2.1 4, .inl (u.2.2 4))))]) := by
  have h4 : 4 < (bn_ws Z u).length := by simp [bn_ws]
  have e : (bn_ws Z u)[4] = (u.1 4, .inl (Z.2.1, (u.2.1 4, .inl (u.2.2 4)))) := by
    have := bn_at (Z := Z) (u := u) (j := 4) (by decide)
    rw [List.getElem?_eq_getElem h4] at this
    exact Option.some.inj this
  rw [← e]
  exact er_perm _ 4 h4
