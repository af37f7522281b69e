/-! the reference's heap: arrays and objects closed -/
section MY
variable {v : mS} {T a b : Nat} {t u : zT}
theorem m_weighed {kd n o : Nat} {f : Nat → zT} {v1 : mS} {T1 : Nat} {sp : Option (Nat ⊕ zT)} (hT16 : 16 ≤ T) (hkd : kd ≤ 6) (hM : mM v1 T1) (hE : mE v T v1 T1) (hT1 : T + 4 ≤ T1) (h0 : v1 6 T = zI kd) (h3 : v1 6 (T + 3) = zI n) (h21 : v1 0 21 = v 0 21) (ho : o = if kd = 6 then n else 0) (hn : n ≤ 12) (ha : T + 4 + o + n ≤ T1) (hk : ∀ k, k < n → ∃ b, v1 6 (T + 4 + o + k) = zI b ∧ zU (v 6) T b (f k)) {c : Nat} (hc : T1 ≤ T + c)
    (hno : (24 < 1 + zsm (fun k => zs (f k)) n ∨ zmx (fun k => zd (f k)) n = 5) → sp = none)
    (hyes : ¬ (24 < 1 + zsm (fun k => zs (f k)) n ∨ zmx (fun k => zd (f k)) n = 5) → ∀ w : mS, mM w T1 → mE v T w T1 → w 6 T = zI kd → w 6 (T + 1) = zI (1 + zsm (fun k => zs (f k)) n) → w 6 (T + 2) = zI (zmx (fun k => zd (f k)) n + 1) → w 6 (T + 3) = zI n → (∀ i, T + 4 ≤ i → w 6 i = v1 6 i) → ∃ t, sp = some (.inr t) ∧ zU (w 6) T1 T t) : mP (f_M_weighed v1 (zI T)) v T c sp := by
  obtain ⟨m1, m2, m3, m4⟩ := id hM
  have hh : ∀ k, k < n → ∃ b, v1 6 (T + 4 + o + k) = zI b ∧ b + 4 ≤ 64000 ∧ v1 6 (b + 1) = zI (zs (f k)) ∧ v1 6 (b + 2) = zI (zd (f k)) ∧ zs (f k) ≤ 24 ∧ zd (f k) ≤ 5 := by
    intro k hkn
    obtain ⟨b, e, hb⟩ := hk k hkn
    have hb1 := hE.U hb
    obtain ⟨x0, x1, x2, x3, x4, x5⟩ := zU_head hb1
    exact ⟨b, e, by omega, x3, x4, hb.2.2.1, hb.2.2.2.1⟩
  have hw := m_weigh_l hkd h0 h3 ho hn (by omega) hh n 0 fu (by omega) (fu_lt (by omega))
  have e0 : f_M_weighed v1 (zI T) = f_M_weighed_7 fu (zI T) (zI (1 + zsm (fun k => zs (f k)) 0)) (zI (zmx (fun k => zd (f k)) 0)) (zI 0) v1 := rfl
  rw [e0, hw]
  have hw6 : ∀ i, (i < T + 1 ∨ T + 3 ≤ i) → sU (sU v1 6 (T + 1) (zI (1 + zsm (fun k => zs (f k)) n))) 6 (T + 2) (zI (zmx (fun k => zd (f k)) n + 1)) 6 i = v1 6 i := by
    intro i hi
    rw [sU_k (by omega), sU_k (by omega)]
  have hw0 : ∀ j, j ≠ 6 → sU (sU v1 6 (T + 1) (zI (1 + zsm (fun k => zs (f k)) n))) 6 (T + 2) (zI (zmx (fun k => zd (f k)) n + 1)) j = v1 j := by
    intro j hj
    rw [sU_j hj, sU_j hj]
  have hw1 : sU (sU v1 6 (T + 1) (zI (1 + zsm (fun k => zs (f k)) n))) 6 (T + 2) (zI (zmx (fun k => zd (f k)) n + 1)) 6 (T + 1) = zI (1 + zsm (fun k => zs (f k)) n) := by
    rw [sU_k (by omega), sU_hit]
  have hw2 : sU (sU v1 6 (T + 1) (zI (1 + zsm (fun k => zs (f k)) n))) 6 (T + 2) (zI (zmx (fun k => zd (f k)) n + 1)) 6 (T + 2) = zI (zmx (fun k => zd (f k)) n + 1) := sU_hit
  generalize sU (sU v1 6 (T + 1) (zI (1 + zsm (fun k => zs (f k)) n))) 6 (T + 2) (zI (zmx (fun k => zd (f k)) n + 1)) = w at *
  have hMw : mM w T1 := mM_w hM (by rw [hw0 0 (by decide)]) (fun i hi => hw6 i (by omega))
  have hEw : mE v T w T1 := mE_w hE (fun i hi => hw6 i (by omega)) (fun j _ j6 _ _ _ _ => hw0 j j6) (fun k _ _ _ => by rw [hw0 0 (by decide)])
  by_cases cc : 24 < 1 + zsm (fun k => zs (f k)) n ∨ zmx (fun k => zd (f k)) n = 5
  · rw [if_pos cc, hno cc]
    have e104 : f_M_weighed_104 w = f_M_room w := bi_id (fun _ _ => by rfl)
    rw [e104]
    obtain ⟨v', T', p1, p2, p3, p4⟩ := m_room (c := 0) hMw
    exact ⟨v', T', p1, hEw.tr p2, by omega, p4⟩
  · rw [if_neg cc]
    obtain ⟨t, ht, hu⟩ := hyes cc w hMw hEw (by rw [hw6 _ (by omega)]; exact h0) hw1 hw2 (by rw [hw6 _ (by omega)]; exact h3) (fun i hi => hw6 i (by omega))
    rw [ht]
    exact ⟨w, T1, hMw, hEw, hc, T, rfl, hu, by rw [hw0 0 (by decide)]; exact h21⟩
theorem m_arr_l {n : Nat} (hn : n ≤ 12) (hp : a + 4 + n ≤ 64000) : ∀ (m q i : Nat) (v : mS), i + m = n → m < q → ∃ v', f_M_array_21 q (zI n) (zI a) (zI i) v = f_M_weighed v' (zI a) ∧ (∀ j, j ≠ 6 → v' j = v j) ∧ (∀ y, y < a + 4 + i ∨ a + 4 + n ≤ y → v' 6 y = v 6 y) ∧ ∀ j, i ≤ j → j < n → v' 6 (a + 4 + j) = v 10 j := by
  intro m
  induction m with
  | zero =>
    intro q i v hi hq
    obtain ⟨q, rfl, -⟩ := suc_of hq
    refine ⟨v, ?_, fun _ _ => rfl, fun _ _ => rfl, fun j h3 h4 => absurd h3 (by omega)⟩
    rw [f_M_array_21, iI_le (by omega) (by omega), if_pos (by omega), bi_id (fun _ _ => by rfl)]
  | succ m ih =>
    intro q i v hi hq
    obtain ⟨q, rfl, hq⟩ := suc_of hq
    have hq := Nat.lt_of_succ_lt_succ hq
    obtain ⟨v', f1, f2, f3, f4⟩ := ih q (i + 1) (sU v 6 (a + 4 + i) (v 10 i)) (by omega) hq
    refine ⟨v', ?_, ?_, ?_, ?_⟩
    · rw [f_M_array_21, iI_le (by omega) (by omega), if_neg (by omega)]
      simp (disch := omega) only [zl_4, zl_1, zI_add, gd_I, zI_toNat, nm_s]
      exact f1
    · intro j hj
      rw [f2 j hj, sU_j hj]
    · intro y hy
      rw [f3 y (by omega), sU_k (by omega)]
    · intro j h3 h4
      by_cases c : j = i
      · subst c
        rw [f3 _ (by omega), sU_hit]
      · rw [f4 j (by omega) h4, sU_j (by decide)]
theorem m_array (hM : mM v T) {n : Nat} {f : Nat → zT} (hn24 : n ≤ 24) (hk : ∀ k, k < n → ∃ b, v 10 k = zI b ∧ zU (v 6) T b (f k)) (hT : T + 16 ≤ 63900) : mP (f_M_array v (zI n)) v T 16 (zmkA n f) := by
  rw [f_M_array, zl_12, iI_le (by omega) (by omega)]
  by_cases c : n ≤ 12
  · rw [if_pos c]
    have n2 := hM.2.1
    have hn := m_node (x := zI 5) (n := n) (c := n) hM (by omega)
    have hM1 := mhd_M (x := zI 5) (y := zI n) (T' := T + (4 + n)) hM (by omega) (by omega)
    have hE1 := mhd_E (v := v) (x := zI 5) (y := zI n) (T := T) (T' := T + (4 + n)) (by omega)
    obtain ⟨e0, e1, e2, e3, e7⟩ := mhd_f (v := v) (a := T) (x := zI 5) (y := zI n) (T' := T + (4 + n))
    have h21 : mhd v T (zI 5) (zI n) (T + (4 + n)) 0 21 = v 0 21 := mhd_0 (by decide)
    have h10 : mhd v T (zI 5) (zI n) (T + (4 + n)) 10 = v 10 := mhd_j (by decide) (by decide)
    generalize mhd v T (zI 5) (zI n) (T + (4 + n)) = v1 at *
    obtain ⟨v', f1, f2, f3, f4⟩ := m_arr_l (n := n) (a := T) c (by omega) n fu 0 v1 (by omega) (fu_lt (by omega))
    have hn : f_M_node v 5 (zI n) (zI n) = some (zI T, v1) := hn
    rw [hn, bi_s, zl_0, f1]
    have hs : zs (zA n f) = 1 + zsm (fun k => zs (f k)) n := rfl
    have hd : zd (zA n f) = 1 + zmx (fun k => zd (f k)) n := rfl
    refine m_weighed (f := f) (o := 0) (kd := 5) (T1 := T + (4 + n)) n2 (by omega) (mM_w hM1 (by rw [f2 0 (by decide)]) (fun i hi => f3 i (by omega))) (mE_w hE1 (fun i hi => f3 i (by omega)) (fun j _ j6 _ _ _ _ => f2 j j6) (fun k _ _ _ => by rw [f2 0 (by decide)])) (by omega) (by rw [f3 _ (by omega)]; exact e0) (by rw [f3 _ (by omega)]; exact e3) (by rw [f2 0 (by decide)]; exact h21) (by simp) c (by omega) (fun k hkn => ?_) (by omega) (fun hh => ?_) (fun hh w w1 w2 w3 w4 w5 w6 w7 => ?_)
    · obtain ⟨b, e, hb⟩ := hk k hkn
      refine ⟨b, ?_, hb⟩
      rw [Nat.add_zero, f4 k (by omega) hkn, h10]; exact e
    · unfold zmkA
      rw [if_neg (by omega)]
    · have hmx : zmx (fun k => zd (f k)) n ≤ 5 := zmx_le (fun k hkn => by obtain ⟨_, _, h9⟩ := hk k hkn; exact h9.2.2.2.1)
      refine ⟨zA n f, by unfold zmkA; rw [if_pos (by omega)], ?_⟩
      refine zU_A (by omega) (by omega) w3 (by rw [hs]; exact w4) (by rw [hd, Nat.add_comm 1]; exact w5) w6 c (by omega) (by omega) (fun k hkn => ?_)
      obtain ⟨b, e, hb⟩ := hk k hkn
      refine ⟨b, ?_, w2.U hb⟩
      rw [w7 _ (by omega), f4 k (by omega) hkn, h10]; exact e
  · rw [if_neg c, bi_id (fun _ _ => by rfl)]
    unfold zmkA
    rw [if_neg (by omega)]
    exact m_room hM
theorem m_obj_l {n : Nat} (hn : n ≤ 6) (hp : a + 4 + 2 * n ≤ 64000) : ∀ (m q i : Nat) (v : mS), i + m = n → m < q → ∃ v', f_M_object_24 q (zI n) (zI a) (zI i) v = f_M_weighed v' (zI a) ∧ (∀ j, j ≠ 6 → v' j = v j) ∧ (∀ y, y < a + 4 + i ∨ (a + 4 + n ≤ y ∧ y < a + 4 + n + i) ∨ a + 4 + 2 * n ≤ y → v' 6 y = v 6 y) ∧ (∀ j, i ≤ j → j < n → v' 6 (a + 4 + j) = v 11 j) ∧ ∀ j, i ≤ j → j < n → v' 6 (a + 4 + n + j) = v 10 j := by
  intro m
  induction m with
  | zero =>
    intro q i v hi hq
    obtain ⟨q, rfl, -⟩ := suc_of hq
    refine ⟨v, ?_, fun _ _ => rfl, fun _ _ => rfl, fun j h3 h4 => absurd h3 (by omega), fun j h3 h4 => absurd h3 (by omega)⟩
    rw [f_M_object_24, iI_le (by omega) (by omega), if_pos (by omega), bi_id (fun _ _ => by rfl)]
  | succ m ih =>
    intro q i v hi hq
    obtain ⟨q, rfl, hq⟩ := suc_of hq
    have hq := Nat.lt_of_succ_lt_succ hq
    have e10 : sU v 6 (a + 4 + i) (v 11 i) 10 = v 10 := sU_j (by decide)
    obtain ⟨v', f1, f2, f3, f4, f5⟩ := ih q (i + 1) (sU (sU v 6 (a + 4 + i) (v 11 i)) 6 (a + 4 + n + i) (v 10 i)) (by omega) hq
    refine ⟨v', ?_, ?_, ?_, ?_, ?_⟩
    · rw [f_M_object_24, iI_le (by omega) (by omega), if_neg (by omega)]
      simp (disch := omega) only [zl_4, zl_1, zI_add, gd_I, zI_toNat, nm_s, e10]
      exact f1
    · intro j hj
      rw [f2 j hj, sU_j hj, sU_j hj]
    · intro y hy
      rw [f3 y (by omega), sU_k (by omega), sU_k (by omega)]
    · intro j h3 h4
      by_cases c : j = i
      · subst c
        rw [f3 _ (by omega), sU_k (by omega), sU_hit]
      · rw [f4 j (by omega) h4, sU_j (by decide), sU_j (by decide)]
    · intro j h3 h4
      by_cases c : j = i
      · subst c
        rw [f3 _ (by omega), sU_hit]
      · rw [f5 j (by omega) h4, sU_j (by decide), sU_j (by decide)]
theorem m_objectC (hM : mM v T) {n cc : Nat} {nf : Nat → zN} {f : Nat → zT} (hn24 : n ≤ 24) (hk : ∀ k, k < n → ∃ b, v 10 k = zI b ∧ zU (v 6) T b (f k)) (hm : ∀ k, k < n → ∃ b, v 11 k = zI b ∧ zRY (v 6) T b (nf k) ∧ ztx (nf k)) (hr : ∀ k, k + 1 < n → zct (nf k) (nf (k + 1)) = -1) (hcc : n ≤ 6 → 4 + 2 * n ≤ cc) (hT : T + cc ≤ 63900) : mP (f_M_object v (zI n)) v T cc (zmkO n nf f) := by
  rw [f_M_object, zl_6, iI_le (by omega) (by omega)]
  by_cases c : n ≤ 6
  · have hcc := hcc c
    rw [if_pos c, zl_2, zI_mul]
    have n2 := hM.2.1
    have hn := m_node (x := zI 6) (n := n) (c := 2 * n) hM (by omega)
    have hM1 := mhd_M (x := zI 6) (y := zI n) (T' := T + (4 + 2 * n)) hM (by omega) (by omega)
    have hE1 := mhd_E (v := v) (x := zI 6) (y := zI n) (T := T) (T' := T + (4 + 2 * n)) (by omega)
    obtain ⟨e0, e1, e2, e3, e7⟩ := mhd_f (v := v) (a := T) (x := zI 6) (y := zI n) (T' := T + (4 + 2 * n))
    have h21 : mhd v T (zI 6) (zI n) (T + (4 + 2 * n)) 0 21 = v 0 21 := mhd_0 (by decide)
    have h10 : mhd v T (zI 6) (zI n) (T + (4 + 2 * n)) 10 = v 10 := mhd_j (by decide) (by decide)
    have h11 : mhd v T (zI 6) (zI n) (T + (4 + 2 * n)) 11 = v 11 := mhd_j (by decide) (by decide)
    generalize mhd v T (zI 6) (zI n) (T + (4 + 2 * n)) = v1 at *
    obtain ⟨v', f1, f2, f3, f4, f5⟩ := m_obj_l (n := n) (a := T) c (by omega) n fu 0 v1 (by omega) (fu_lt (by omega))
    rw [hn, bi_s, zl_0, f1]
    have hs : zs (zO n nf f) = 1 + zsm (fun k => zs (f k)) n := rfl
    have hd : zd (zO n nf f) = 1 + zmx (fun k => zd (f k)) n := rfl
    refine m_weighed (f := f) (o := n) (kd := 6) (T1 := T + (4 + 2 * n)) n2 (by omega) (mM_w hM1 (by rw [f2 0 (by decide)]) (fun i hi => f3 i (by omega))) (mE_w hE1 (fun i hi => f3 i (by omega)) (fun j _ j6 _ _ _ _ => f2 j j6) (fun k _ _ _ => by rw [f2 0 (by decide)])) (by omega) (by rw [f3 _ (by omega)]; exact e0) (by rw [f3 _ (by omega)]; exact e3) (by rw [f2 0 (by decide)]; exact h21) (by simp) (by omega) (by omega) (fun k hkn => ?_) (by omega) (fun hh => ?_) (fun hh w w1 w2 w3 w4 w5 w6 w7 => ?_)
    · obtain ⟨b, e, hb⟩ := hk k hkn
      refine ⟨b, ?_, hb⟩
      rw [f5 k (by omega) hkn, h10]; exact e
    · unfold zmkO
      rw [if_neg (by omega)]
    · have hmx : zmx (fun k => zd (f k)) n ≤ 5 := zmx_le (fun k hkn => by obtain ⟨_, _, h9⟩ := hk k hkn; exact h9.2.2.2.1)
      refine ⟨zO n nf f, by unfold zmkO; rw [if_pos (by omega)], ?_⟩
      refine zU_O (by omega) (by omega) w3 (by rw [hs]; exact w4) (by rw [hd, Nat.add_comm 1]; exact w5) w6 c (by omega) (by omega) (fun k hkn => ?_) (fun k hkn => ?_) hr
      · obtain ⟨b, e, hb⟩ := hk k hkn
        refine ⟨b, ?_, w2.U hb⟩
        rw [w7 _ (by omega), f5 k (by omega) hkn, h10]; exact e
      · obtain ⟨b, e, hb, hx⟩ := hm k hkn
        refine ⟨b, ?_, w2.Y hb, hx⟩
        rw [w7 _ (by omega), f4 k (by omega) hkn, h11]; exact e
  · rw [if_neg c, bi_id (fun _ _ => by rfl)]
    unfold zmkO
    rw [if_neg (by omega)]
    exact m_room hM
theorem m_object (hM : mM v T) {n : Nat} {nf : Nat → zN} {f : Nat → zT} (hn24 : n ≤ 24) (hk : ∀ k, k < n → ∃ b, v 10 k = zI b ∧ zU (v 6) T b (f k)) (hm : ∀ k, k < n → ∃ b, v 11 k = zI b ∧ zRY (v 6) T b (nf k) ∧ ztx (nf k)) (hr : ∀ k, k + 1 < n → zct (nf k) (nf (k + 1)) = -1) (hT : T + 16 ≤ 63900) : mP (f_M_object v (zI n)) v T 16 (zmkO n nf f) := m_objectC hM hn24 hk hm hr (fun _ => by omega) hT
end MY
