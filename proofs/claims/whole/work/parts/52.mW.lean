/-! the reference's heap: what is made -/
def mE (v : mS) (T : Nat) (v' : mS) (T' : Nat) : Prop := T ≤ T' ∧ (∀ i, i < T → v' 6 i = v 6 i) ∧ (∀ j, j ≠ 0 → j ≠ 6 → j ≠ 10 → j ≠ 11 → j ≠ 12 → j ≠ 13 → v' j = v j) ∧ ∀ k, k ≠ 7 → k ≠ 18 → k ≠ 21 → v' 0 k = v 0 k
theorem mE.rf {v : mS} {T : Nat} : mE v T v T := ⟨Nat.le_refl _, fun _ _ => rfl, fun _ _ _ _ _ _ _ => rfl, fun _ _ _ _ => rfl⟩
theorem mE.tr {v v1 v2 : mS} {T T1 T2 : Nat} (h : mE v T v1 T1) (k : mE v1 T1 v2 T2) : mE v T v2 T2 := by
  obtain ⟨h1, h2, h3, h4⟩ := h
  obtain ⟨k1, k2, k3, k4⟩ := k
  exact ⟨by omega, fun i hi => (k2 i (by omega)).trans (h2 i hi), fun j a b c d e f => (k3 j a b c d e f).trans (h3 j a b c d e f), fun i a b c => (k4 i a b c).trans (h4 i a b c)⟩
theorem mE.U {v v' : mS} {T T' a : Nat} {t : zT} (h : mE v T v' T') (k : zU (v 6) T a t) : zU (v' 6) T' a t := zU_up k h.2.1 h.1
theorem mE.Y {v v' : mS} {T T' a : Nat} {x : zN} (h : mE v T v' T') (k : zRY (v 6) T a x) : zRY (v' 6) T' a x := zRY_up k h.2.1 h.1
theorem mD.E {v v' : mS} {T : Nat} (h : mD v v') : mE v T v' T := ⟨Nat.le_refl _, fun i _ => by rw [h.h], fun j a _ _ _ e f => h.1 j a e f, fun k _ b _ => h.2 k b⟩
def mPr (F : Option (Int32 × mS)) (v v' : mS) (T' : Nat) (sp : Option (Nat ⊕ zT)) : Prop := match sp with
  | none => F = some (zI 4, v') ∧ v' 0 21 = 1
  | some (.inl e) => F = some (zJ (-(e : Int)), v') ∧ v' 0 21 = v 0 21
  | some (.inr t) => ∃ a, F = some (zI a, v') ∧ zU (v' 6) T' a t ∧ v' 0 21 = v 0 21
def mP (F : Option (Int32 × mS)) (v : mS) (T cost : Nat) (sp : Option (Nat ⊕ zT)) : Prop := ∃ v' T', mM v' T' ∧ mE v T v' T' ∧ T' ≤ T + cost ∧ mPr F v v' T' sp
theorem mP_le {F : Option (Int32 × mS)} {v : mS} {T c c' : Nat} {sp : Option (Nat ⊕ zT)} (h : mP F v T c sp) (hc : c ≤ c') : mP F v T c' sp := by
  obtain ⟨v', T', h1, h2, h3, h4⟩ := h
  exact ⟨v', T', h1, h2, by omega, h4⟩
theorem bi_id {α β : Type} {F : Option (α × β)} {K : α → β → Option (α × β)} (h : ∀ r v, K r v = some (r, v)) : bi F K = F := by
  cases F with
  | none => rfl
  | some o => obtain ⟨r, v⟩ := o; exact h r v
theorem mM_w {v w : mS} {T : Nat} (hM : mM v T) (h7 : w 0 7 = v 0 7) (h6 : ∀ i, i < 16 → w 6 i = v 6 i) : mM w T := by
  obtain ⟨m1, m2, m3, m4⟩ := hM
  exact ⟨h7.trans m1, m2, m3, fun k hk => zU_up (m4 k hk) h6 (Nat.le_refl _)⟩
theorem mP_of {v : mS} {T c a : Nat} {t : zT} (hM : mM v T) (h : zU (v 6) T a t) : mP (some (zI a, v)) v T c (some (.inr t)) := ⟨v, T, hM, mE.rf, by omega, a, rfl, h, rfl⟩
theorem mP_er {v : mS} {T c : Nat} (hM : mM v T) : mP (some (-1, v)) v T c (some (.inl 1)) := ⟨v, T, hM, mE.rf, by omega, rfl, rfl⟩
section MW
variable {v : mS} {T a b : Nat} {t u : zT}
theorem m_room {c : Nat} (hM : mM v T) : mP (f_M_room v) v T c none := by
  refine ⟨sU v 0 21 1, T, mM_w hM (sU_k (by decide)) (fun i _ => by rw [sU_j (by decide)]), ⟨Nat.le_refl _, fun i _ => by rw [sU_j (by decide)], fun j a _ _ _ _ _ => sU_j a, fun k _ _ c => sU_k c⟩, by omega, ?_, sU_hit⟩
  rfl
def mhd (v : mS) (a : Nat) (x y : Int32) (T' : Nat) : mS := sU (sU (sU (sU (sU v 6 a x) 6 (a + 1) 1) 6 (a + 2) 0) 6 (a + 3) y) 0 7 (zI T')
theorem m_node {x : Int32} {n c : Nat} (hM : mM v T) (hc : T + (4 + c) ≤ 63900) : f_M_node v x (zI n) (zI c) = some (zI T, mhd v T x (zI n) (T + (4 + c))) := by
  obtain ⟨m1, m2, m3, m4⟩ := hM
  rw [f_M_node, nm_s, m1]
  simp (disch := omega) only [zl_1, zl_2, zl_3, zl_4, zI_add, gd_I, zI_toNat, nm_s]
  have e7 : sU (sU (sU (sU v 6 T x) 6 (T + 1) (zI 1)) 6 (T + 2) 0) 6 (T + 3) (zI n) 0 7 = zI T := by
    rw [sU_j (by decide), sU_j (by decide), sU_j (by decide), sU_j (by decide)]; exact m1
  rw [e7, zI_add]
  rfl
theorem mhd_f {x y : Int32} {T' : Nat} : mhd v a x y T' 6 a = x ∧ mhd v a x y T' 6 (a + 1) = 1 ∧ mhd v a x y T' 6 (a + 2) = 0 ∧ mhd v a x y T' 6 (a + 3) = y ∧ mhd v a x y T' 0 7 = zI T' := by
  unfold mhd
  refine ⟨?_, ?_, ?_, ?_, sU_hit⟩
  · rw [sU_j (by decide), sU_k (by omega), sU_k (by omega), sU_k (by omega), sU_hit]
  · rw [sU_j (by decide), sU_k (by omega), sU_k (by omega), sU_hit]
  · rw [sU_j (by decide), sU_k (by omega), sU_hit]
  · rw [sU_j (by decide), sU_hit]
theorem mhd_k {x y : Int32} {T' i : Nat} (h : i < a ∨ a + 4 ≤ i) : mhd v a x y T' 6 i = v 6 i := by
  unfold mhd
  rw [sU_j (by decide), sU_k (by omega), sU_k (by omega), sU_k (by omega), sU_k (by omega)]
theorem mhd_j {x y : Int32} {T' j : Nat} (h : j ≠ 6) (h0 : j ≠ 0) : mhd v a x y T' j = v j := by
  unfold mhd
  rw [sU_j h0, sU_j h, sU_j h, sU_j h, sU_j h]
theorem mhd_0 {x y : Int32} {T' k : Nat} (h : k ≠ 7) : mhd v a x y T' 0 k = v 0 k := by
  unfold mhd
  rw [sU_k h, sU_j (by decide), sU_j (by decide), sU_j (by decide), sU_j (by decide)]
theorem mhd_M {x y : Int32} {T' : Nat} (hM : mM v T) (hT : T ≤ T') (hT2 : T' ≤ 63900) : mM (mhd v T x y T') T' := by
  obtain ⟨m1, m2, m3, m4⟩ := hM
  exact ⟨mhd_f.2.2.2.2, by omega, hT2, fun k hk => zU_up (m4 k hk) (fun i hi => mhd_k (by omega)) (Nat.le_refl _)⟩
theorem mhd_E {x y : Int32} {T' : Nat} (hT : T ≤ T') : mE v T (mhd v T x y T') T' := ⟨hT, fun i hi => mhd_k (by omega), fun j a b _ _ _ _ => mhd_j b a, fun k a _ _ => mhd_0 a⟩
theorem mE_w {v' w : mS} {T' : Nat} (h : mE v T v' T') (h6 : ∀ i, i < T → w 6 i = v' 6 i) (hj : ∀ j, j ≠ 0 → j ≠ 6 → j ≠ 10 → j ≠ 11 → j ≠ 12 → j ≠ 13 → w j = v' j) (h0 : ∀ k, k ≠ 7 → k ≠ 18 → k ≠ 21 → w 0 k = v' 0 k) : mE v T w T' := by
  obtain ⟨h1, h2, h3, h4⟩ := h
  exact ⟨h1, fun i hi => (h6 i hi).trans (h2 i hi), fun j a b c d e f => (hj j a b c d e f).trans (h3 j a b c d e f), fun k a b c => (h0 k a b c).trans (h4 k a b c)⟩
/-- numbers -/
theorem m_dec_l : ∀ (s n : Nat) (x w : Int), s < n → s ≤ 12 → -9000000000000000000 ≤ w → w ≤ 9000000000000000000 → f_M_decimal_6 n (zK x) (zK w) (zI s) v = f_M_decimal_33 (zK x) (zK (zred s w).1) v := by
  intro s
  induction s with
  | zero =>
    intro n x w hn _ _ _
    obtain ⟨n, rfl, -⟩ := suc_of hn
    rw [f_M_decimal_6, zl_0, iI_le (by omega) (by omega), if_pos (by omega)]
    rfl
  | succ s ih =>
    intro n x w hn hs h1 h2
    obtain ⟨n, rfl, hn⟩ := suc_of hn
    have hn := Nat.lt_of_succ_lt_succ hn
    have hq : -9000000000000000000 ≤ w.tdiv 10 ∧ w.tdiv 10 ≤ 9000000000000000000 := by
      have := Int.natAbs_tdiv_le_natAbs w 10
      omega
    have hr : -10 ≤ w - w.tdiv 10 * 10 ∧ w - w.tdiv 10 * 10 ≤ 10 := zrem_b w
    have hb := zsg_b (w - w.tdiv 10 * 10 - 0)
    rw [f_M_decimal_6, zl_0, iI_le (by omega) (by omega), if_neg (by omega), zkl_10, zkl_0, zK_div (by omega) (by omega) (by omega) (by omega), zK_mul, zK_sub, zK_cmp (by omega) (by omega) (by omega) (by omega), zI_J 0, iJ_eq (by omega) (by omega) (by omega) (by omega)]
    have e0 : (zsg (w - w.tdiv 10 * 10 - 0) = ((0 : Nat) : Int)) = (w % 10 = 0) := by
      rw [← zrem10 w, Int.sub_zero]
      exact zsg_0 _
    rw [ite_p e0]
    simp only [zred]
    by_cases c : w % 10 = 0
    · rw [if_pos c, if_pos c, nm_s, nm_s, zI_dec (by omega), ztdiv10 c]
      have := ztdiv10 c
      exact ih n x (w / 10) (by omega) (by omega) (by omega) (by omega)
    · rw [if_neg c, if_neg c]
theorem zU_Q {h : Nat → Int32} {top : Nat} {m : Int} (h0 : 4 ≤ a) (h1 : a + 6 ≤ top) (h2 : h a = zI 3) (h3 : h (a + 1) = zI 1) (h4 : h (a + 2) = zI 0) (h5 : h (a + 3) = zI 0) (h6 : mnum (h (a + 4)) (h (a + 5)) = zK m) (hm : zokN m) : zU h top a (zQ m) := by
  have k3 : zk (zQ m) = 3 := rfl
  have s1 : zs (zQ m) = 1 := rfl
  have d0 : zd (zQ m) = 0 := rfl
  have l0 : zl (zQ m) = 0 := rfl
  exact ⟨⟨h0, by omega, h2, h3, h4, h5, fun _ => ⟨h1, h6⟩, fun hk => absurd hk (by omega), fun hk => absurd hk (by omega), fun hk => absurd hk (by omega)⟩, ⟨by omega, by omega, by omega, fun _ => ⟨s1, d0⟩, fun _ => l0, fun _ => hm, fun hk => absurd hk (by omega), fun hk => absurd hk (by omega), fun hk => absurd hk (by omega), fun hk => absurd hk (by omega)⟩⟩
theorem m_dec_c {w : Int} (h1 : -9000000000000000000 ≤ w) (h2 : w ≤ 9000000000000000000) : f_M_decimal v (zK w) = if -999999999 ≤ (zred 6 w).1 ∧ (zred 6 w).1 ≤ 999999999 then (bi (f_M_node v 3 0 2) fun r_5 v_3 => gd (inB (r_5 + 4) 64000) (nm (sU v_3 6 (r_5 + 4 : Int32).toNatClampNeg ((zK w >>> ((32 : Int32).toInt64 &&& 63) : Int64).toInt32)) fun v_7 => gd (inB (r_5 + 5) 64000) (nm (sU v_7 6 (r_5 + 5 : Int32).toNatClampNeg ((zK w : Int64).toInt32)) fun v_9 => some (r_5, v_9)))) else f_M_room v := by
  rw [f_M_decimal, zl_6, m_dec_l 6 fu w w (fu_lt (by omega)) (by omega) h1 h2]
  have hb := zred_b 6 w 9000000000000000000 (by omega) h1 h2
  have hb1 := zsg_b ((zred 6 w).1 - 999999999)
  have hb2 := zsg_b ((zred 6 w).1 - -999999999)
  have e49 : f_M_decimal_49 v = f_M_room v := bi_id (fun _ _ => by rfl)
  rw [f_M_decimal_33, e49, zkl_m9, zkl_9, zK_cmp (by omega) (by omega) (by omega) (by omega), zK_cmp (by omega) (by omega) (by omega) (by omega)]
  have l1 : (0 < zJ (zsg ((zred 6 w).1 - 999999999))) = (0 < (zred 6 w).1 - 999999999) := by
    rw [zl_0, zI_J 0, zJ_lt (by omega) (by omega) (by omega) (by omega)]; exact zsg_pos _
  have l2 : (0 ≤ zJ (zsg ((zred 6 w).1 - -999999999))) = (0 ≤ (zred 6 w).1 - -999999999) := by
    rw [zl_0, zI_J 0, zJ_le (by omega) (by omega) (by omega) (by omega)]; exact zsg_nn _
  rw [ite_p l1, ite_p l2]
  by_cases c2 : 0 < (zred 6 w).1 - 999999999
  · rw [if_pos c2, if_neg (by omega)]
  · rw [if_neg c2]
    by_cases c3 : 0 ≤ (zred 6 w).1 - -999999999
    · rw [if_pos c3, if_pos (by omega)]
    · rw [if_neg c3, if_neg (by omega)]
theorem m_dec_ok (hM : mM v T) {w : Int} (h1 : -9000000000000000000 ≤ w) (h2 : w ≤ 9000000000000000000) (hok : -999999999 ≤ (zred 6 w).1 ∧ (zred 6 w).1 ≤ 999999999) (hT : T + 6 ≤ 63900) : ∃ v', f_M_decimal v (zK w) = some (zI T, v') ∧ mM v' (T + 6) ∧ mE v T v' (T + 6) ∧ zU (v' 6) (T + 6) T (zQ w) ∧ v' 0 21 = v 0 21 ∧ ∀ j, j ≠ 0 → j ≠ 6 → v' j = v j := by
  rw [m_dec_c h1 h2, if_pos hok]
  have hn := m_node (x := zI 3) (n := 0) (c := 2) hM (by omega)
  have hn : f_M_node v 3 0 2 = some (zI T, mhd v T (zI 3) (zI 0) (T + 6)) := hn
  have hM1 := mhd_M (x := zI 3) (y := zI 0) (T' := T + 6) hM (by omega) (by omega)
  have hE1 := mhd_E (v := v) (x := zI 3) (y := zI 0) (T := T) (T' := T + 6) (by omega)
  obtain ⟨e0, e1, e2, e3, e7⟩ := mhd_f (v := v) (a := T) (x := zI 3) (y := zI 0) (T' := T + 6)
  have h21 : mhd v T (zI 3) (zI 0) (T + 6) 0 21 = v 0 21 := mhd_0 (by decide)
  have hj : ∀ j, j ≠ 0 → j ≠ 6 → mhd v T (zI 3) (zI 0) (T + 6) j = v j := fun j a b => mhd_j b a
  generalize mhd v T (zI 3) (zI 0) (T + 6) = v1 at *
  rw [hn, bi_s]
  simp (disch := omega) only [zl_4, zl_5, zI_add, gd_I, zI_toNat, nm_s]
  have n2 := hM.2.1
  refine ⟨_, rfl, mM_w hM1 ?_ ?_, mE_w hE1 ?_ ?_ ?_, zU_Q (by omega) (by omega) ?_ ?_ ?_ ?_ ?_ hok, ?_, ?_⟩
  · rw [sU_j (by decide), sU_j (by decide)]
  · intro i hi
    rw [sU_k (by omega), sU_k (by omega)]
  · intro i hi
    rw [sU_k (by omega), sU_k (by omega)]
  · intro j _ j6 _ _ _ _
    rw [sU_j j6, sU_j j6]
  · intro k _ _ _
    rw [sU_j (by decide), sU_j (by decide)]
  · rw [sU_k (by omega), sU_k (by omega)]; exact e0
  · rw [sU_k (by omega), sU_k (by omega)]; exact e1
  · rw [sU_k (by omega), sU_k (by omega)]; exact e2
  · rw [sU_k (by omega), sU_k (by omega)]; exact e3
  · rw [sU_k (by omega), sU_hit, sU_hit]; exact mnum_split _
  · rw [sU_j (by decide), sU_j (by decide)]; exact h21
  · intro j j0 j6
    rw [sU_j j6, sU_j j6]; exact hj j j0 j6
theorem m_decimal (hM : mM v T) {w : Int} (h1 : -9000000000000000000 ≤ w) (h2 : w ≤ 9000000000000000000) (hT : T + 6 ≤ 63900) : mP (f_M_decimal v (zK w)) v T 6 (zmkN w) := by
  unfold zmkN
  by_cases c : -999999999 ≤ (zred 6 w).1 ∧ (zred 6 w).1 ≤ 999999999
  · obtain ⟨v', a1, a2, a3, a4, a5, -⟩ := m_dec_ok hM h1 h2 c hT
    rw [if_pos c, a1]
    exact ⟨v', T + 6, a2, a3, by omega, T, rfl, a4, a5⟩
  · rw [if_neg c, m_dec_c h1 h2, if_neg c]
    exact m_room hM
theorem m_whole_ok (hM : mM v T) {n : Nat} (h : n ≤ 999999999) (hT : T + 6 ≤ 63900) : ∃ v', f_M_whole v (zK (n : Int)) = some (zI T, v') ∧ mM v' (T + 6) ∧ mE v T v' (T + 6) ∧ zU (v' 6) (T + 6) T (zQ ((n : Int) * 1000000)) ∧ v' 0 21 = v 0 21 ∧ ∀ j, j ≠ 0 → j ≠ 6 → v' j = v j := by
  rw [f_M_whole, zkl_6, zK_mul, bi_id (fun _ _ => by rfl)]
  exact m_dec_ok hM (by omega) (by omega) (by rw [zred_06]; dsimp only; omega) hT
theorem m_whole (hM : mM v T) {w : Int} (h1 : -9000000000000 ≤ w) (h2 : w ≤ 9000000000000) (hT : T + 6 ≤ 63900) : mP (f_M_whole v (zK w)) v T 6 (zmkN (w * 1000000)) := by
  rw [f_M_whole, zkl_6, zK_mul, bi_id (fun _ _ => by rfl)]
  exact m_decimal hM (by omega) (by omega) hT
theorem m_floor {w : Int} (h1 : -9000000000000000 ≤ w) (h2 : w ≤ 9000000000000000) : f_M_floor v (zK w) = some (zK (w / 1000000), v) := by
  have hq : w.tdiv 1000000 = w / 1000000 + if 0 ≤ w ∨ (1000000 : Int) ∣ w then 0 else 1 := by
    rw [Int.tdiv_eq_ediv]; rfl
  have hb : -9000000000000000 ≤ w.tdiv 1000000 ∧ w.tdiv 1000000 ≤ 9000000000000000 := by
    have := Int.natAbs_tdiv_le_natAbs w 1000000
    omega
  have hs := zsg_b (w.tdiv 1000000 * 1000000 - w)
  have hr := zrem6_b w
  rw [f_M_floor, zkl_6, zK_div (by omega) (by omega) (by omega) (by omega), nm_s, zK_mul, zK_cmp (by omega) (by omega) (by omega) (by omega)]
  have l1 : (zJ (zsg (w.tdiv 1000000 * 1000000 - w)) ≤ 0) = (w.tdiv 1000000 * 1000000 - w ≤ 0) := by
    rw [zl_0, zI_J 0, zJ_le (by omega) (by omega) (by omega) (by omega)]; exact zsg_np _
  rw [ite_p l1]
  by_cases c : 0 ≤ w ∨ (1000000 : Int) ∣ w
  · rw [if_pos c] at hq
    rw [if_pos (by omega), hq, Int.add_zero]
    rfl
  · rw [if_neg c] at hq
    have hnd : ¬ w % 1000000 = 0 := fun h => c (Or.inr (Int.dvd_of_emod_eq_zero h))
    rw [if_neg (by omega), zkl_1, zK_sub, hq]
    rw [show w / 1000000 + 1 - 1 = w / 1000000 by omega]
    rfl
end MW
