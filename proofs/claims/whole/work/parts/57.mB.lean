/-! the reference: products, rests, differences, sorts, keys, lengths -/
section MB
variable {v : mS} {T a b : Nat} {t u : zT}
theorem m_scale_l : ∀ (s n : Nat) (w : Int), s < n → s ≤ 12 → -9000000000000000000 ≤ w → w ≤ 9000000000000000000 → f_M_scaleOf_10 n (zK w) (zI s) v = some (zI (zred s w).2, v) := by
  intro s
  induction s with
  | zero =>
    intro n w hn _ _ _
    obtain ⟨n, rfl, -⟩ := suc_of hn
    rw [f_M_scaleOf_10, zl_0, iI_le (by omega) (by omega), if_pos (by omega)]
    rfl
  | succ s ih =>
    intro n w hn hs h1 h2
    obtain ⟨n, rfl, hn⟩ := suc_of hn
    have hn := Nat.lt_of_succ_lt_succ hn
    have hq : -9000000000000000000 ≤ w.tdiv 10 ∧ w.tdiv 10 ≤ 9000000000000000000 := by
      have := Int.natAbs_tdiv_le_natAbs w 10
      omega
    have hr := zrem_b w
    have hb := zsg_b (w - w.tdiv 10 * 10 - 0)
    rw [f_M_scaleOf_10, zl_0, iI_le (by omega) (by omega), if_neg (by omega), zkl_10, zkl_0, zK_div (by omega) (by omega) (by omega) (by omega), zK_mul, zK_sub, zK_cmp (by omega) (by omega) (by omega) (by omega), zI_J 0, iJ_eq (by omega) (by omega) (by omega) (by omega)]
    have e0 : (zsg (w - w.tdiv 10 * 10 - 0) = ((0 : Nat) : Int)) = (w % 10 = 0) := by
      rw [← zrem10 w, Int.sub_zero]
      exact zsg_0 _
    rw [ite_p e0]
    simp only [zred]
    by_cases c : w % 10 = 0
    · rw [if_pos c, if_pos c, nm_s, nm_s, zI_dec (by omega), ztdiv10 c]
      have := ztdiv10 c
      exact ih n (w / 10) (by omega) (by omega) (by omega) (by omega)
    · rw [if_neg c, if_neg c]
      rfl
theorem m_scale (hM : mM v T) (ha : zU (v 6) T a t) (h3 : zk t = 3) : f_M_scaleOf v (zI a) = some (zI (zred 6 (zv t)).2, v) := by
  have b1 := zok_b (ha.2.2.2.2.2.2.1 h3)
  rw [f_M_scaleOf, m_num hM ha h3, bi_s, zl_6]
  exact m_scale_l 6 fu (zv t) (fu_lt (by omega)) (by omega) (by omega) (by omega)
theorem m_mant_l {M : Int} (h1 : -999999999 ≤ M) (h2 : M ≤ 999999999) : ∀ (m n s : Nat), s + m = 6 → m < n → f_M_mantissa_13 n (zK (M * 10 ^ m)) (zI s) v = some (zK M, v) := by
  intro m
  induction m with
  | zero =>
    intro n s hs hn
    obtain ⟨n, rfl, -⟩ := suc_of hn
    rw [f_M_mantissa_13, zl_6, iI_le (by omega) (by omega), if_pos (by omega)]
    simp
  | succ m ih =>
    intro n s hs hn
    obtain ⟨n, rfl, hn⟩ := suc_of hn
    have hn := Nat.lt_of_succ_lt_succ hn
    have hp := p10_le (show m ≤ 6 by omega)
    have hb : -999999999000000 ≤ M * 10 ^ m ∧ M * 10 ^ m ≤ 999999999000000 := by
      generalize (10 : Int) ^ m = P at *
      constructor
      · have : -999999999 * P ≤ M * P := Int.mul_le_mul_of_nonneg_right h1 (by omega)
        omega
      · have : M * P ≤ 999999999 * P := Int.mul_le_mul_of_nonneg_right h2 (by omega)
        omega
    have e : M * 10 ^ (m + 1) = M * 10 ^ m * 10 := by rw [Int.pow_succ, ← Int.mul_assoc]
    have e2 : (M * 10 ^ m * 10).tdiv 10 = M * 10 ^ m := Int.mul_tdiv_cancel _ (by decide)
    rw [f_M_mantissa_13, zl_6, iI_le (by omega) (by omega), if_neg (by omega), e, zkl_10, zK_div (by omega) (by omega) (by omega) (by omega), e2, nm_s, nm_s, zl_1, zI_add]
    exact ih n (s + 1) (by omega) hn
theorem m_mant (hM : mM v T) (ha : zU (v 6) T a t) (h3 : zk t = 3) : f_M_mantissa v (zI a) = some (zK (zred 6 (zv t)).1, v) := by
  obtain ⟨b1, b2⟩ := ha.2.2.2.2.2.2.1 h3
  have hs := zred_s 6 (zv t)
  have he := zred_eq 6 (zv t)
  rw [f_M_mantissa, m_num hM ha h3, bi_s, m_scale hM ha h3, bi_s]
  have := m_mant_l (v := v) b1 b2 (6 - (zred 6 (zv t)).2) fu (zred 6 (zv t)).2 (by omega) (fu_lt (by omega))
  rw [he] at this
  exact this
theorem m_prod_l : ∀ (s n : Nat) (w : Int), s < n → s ≤ 12 → -9000000000000000000 ≤ w → w ≤ 9000000000000000000 → f_M_product_25 n (zK w) (zI s) v = f_M_product_52 (zK (zred s w).1) (zI (zred s w).2) v := by
  intro s
  induction s with
  | zero =>
    intro n w hn _ _ _
    obtain ⟨n, rfl, -⟩ := suc_of hn
    rw [f_M_product_25, zl_0, iI_le (by omega) (by omega), if_pos (by omega)]
    rfl
  | succ s ih =>
    intro n w hn hs h1 h2
    obtain ⟨n, rfl, hn⟩ := suc_of hn
    have hn := Nat.lt_of_succ_lt_succ hn
    have hq : -9000000000000000000 ≤ w.tdiv 10 ∧ w.tdiv 10 ≤ 9000000000000000000 := by
      have := Int.natAbs_tdiv_le_natAbs w 10
      omega
    have hr := zrem_b w
    have hb := zsg_b (w - w.tdiv 10 * 10 - 0)
    rw [f_M_product_25, zl_0, iI_le (by omega) (by omega), if_neg (by omega), zkl_10, zkl_0, zK_div (by omega) (by omega) (by omega) (by omega), zK_mul, zK_sub, zK_cmp (by omega) (by omega) (by omega) (by omega), zI_J 0, iJ_eq (by omega) (by omega) (by omega) (by omega)]
    have e0 : (zsg (w - w.tdiv 10 * 10 - 0) = ((0 : Nat) : Int)) = (w % 10 = 0) := by
      rw [← zrem10 w, Int.sub_zero]
      exact zsg_0 _
    rw [ite_p e0]
    simp only [zred]
    by_cases c : w % 10 = 0
    · rw [if_pos c, if_pos c, nm_s, nm_s, zI_dec (by omega), ztdiv10 c]
      have := ztdiv10 c
      exact ih n (w / 10) (by omega) (by omega) (by omega) (by omega)
    · rw [if_neg c, if_neg c]
theorem m_prod_84 {M : Int} (h1 : -999999999 ≤ M) (h2 : M ≤ 999999999) : ∀ (m n s i : Nat), s + m = 6 → i + m ≤ 6 → m < n → f_M_product_84 n (zK (M * 10 ^ i)) (zI s) v = f_M_decimal v (zK (M * 10 ^ (i + m))) := by
  intro m
  induction m with
  | zero =>
    intro n s i hs hi hn
    obtain ⟨n, rfl, -⟩ := suc_of hn
    rw [f_M_product_84, zl_6, iI_le (by omega) (by omega), if_pos (by omega), bi_id (fun _ _ => by rfl)]
    rfl
  | succ m ih =>
    intro n s i hs hi hn
    obtain ⟨n, rfl, hn⟩ := suc_of hn
    have hn := Nat.lt_of_succ_lt_succ hn
    have e : M * 10 ^ i * 10 = M * 10 ^ (i + 1) := by rw [Int.pow_succ, ← Int.mul_assoc]
    rw [f_M_product_84, zl_6, iI_le (by omega) (by omega), if_neg (by omega), zkl_10, zK_mul, e, nm_s, nm_s, zl_1, zI_add, ih n (s + 1) (i + 1) (by omega) (by omega) hn, show i + 1 + m = i + (m + 1) by omega]
theorem m_product (hM : mM v T) (ha : zU (v 6) T a t) (hb : zU (v 6) T b u) (k3 : zk t = 3) (l3 : zk u = 3) (hT : T + 6 ≤ 63900) : mP (f_M_product v (zI a) (zI b)) v T 6 (znum ((zred 6 (zv t)).2 + (zred 6 (zv u)).2) ((zred 6 (zv t)).1 * (zred 6 (zv u)).1)) := by
  obtain ⟨b1, b2⟩ := ha.2.2.2.2.2.2.1 k3
  obtain ⟨b3, b4⟩ := hb.2.2.2.2.2.2.1 l3
  have s1 := zred_s 6 (zv t)
  have s2 := zred_s 6 (zv u)
  have hp := zprod_b b1 b2 b3 b4
  rw [f_M_product, m_mant hM ha k3, bi_s, m_mant hM hb l3, bi_s, zK_mul, nm_s, m_scale hM ha k3, bi_s, m_scale hM hb l3, bi_s, nm_s, zI_add]
  have hss : (zred 6 (zv t)).2 + (zred 6 (zv u)).2 ≤ 12 := by omega
  generalize (zred 6 (zv t)).2 + (zred 6 (zv u)).2 = s at *
  generalize (zred 6 (zv t)).1 * (zred 6 (zv u)).1 = w at *
  rw [m_prod_l s fu w (fu_lt (by omega)) (by omega) (by omega) (by omega)]
  have hb := zred_b s w 1000000000000000000 (by omega) hp.1 hp.2
  have hS := zred_s s w
  have hup := zred_up (s := s) (w := w)
  unfold znum
  generalize zred s w = r at *
  obtain ⟨M, S⟩ := r
  dsimp only at *
  have hb1 := zsg_b (M - 999999999)
  have hb2 := zsg_b (M - -999999999)
  have e75 : f_M_product_75 v = f_M_room v := bi_id (fun _ _ => by rfl)
  rw [f_M_product_52, e75, zl_6, iI_lt (by omega) (by omega), zkl_m9, zkl_9, zK_cmp (by omega) (by omega) (by omega) (by omega), zK_cmp (by omega) (by omega) (by omega) (by omega)]
  have l1 : (0 < zJ (zsg (M - 999999999))) = (0 < M - 999999999) := by
    rw [zl_0, zI_J 0, zJ_lt (by omega) (by omega) (by omega) (by omega)]; exact zsg_pos _
  have l2 : (0 ≤ zJ (zsg (M - -999999999))) = (0 ≤ M - -999999999) := by
    rw [zl_0, zI_J 0, zJ_le (by omega) (by omega) (by omega) (by omega)]; exact zsg_nn _
  rw [ite_p l1, ite_p l2]
  by_cases c1 : 6 < S
  · rw [if_pos c1, if_neg (by omega)]
    exact m_room hM
  · rw [if_neg c1]
    by_cases c2 : 0 < M - 999999999
    · rw [if_pos c2, if_neg (by omega)]
      exact m_room hM
    · rw [if_neg c2]
      by_cases c3 : 0 ≤ M - -999999999
      · rw [if_pos c3, if_pos (by omega)]
        have h84 := m_prod_84 (v := v) (M := M) (by omega) (by omega) (6 - S) fu S 0 (by omega) (by omega) (fu_lt (by omega))
        rw [Int.pow_zero, Int.mul_one, Nat.zero_add] at h84
        rw [h84]
        have hup := hup (by omega)
        have hok : zokN (M * 10 ^ (6 - S)) := by unfold zokN; rw [hup]; exact ⟨by omega, by omega⟩
        have hbb := zok_b hok
        have hd := m_decimal hM (w := M * 10 ^ (6 - S)) (by omega) (by omega) hT
        unfold zmkN at hd
        rw [hup, if_pos (by dsimp only; omega)] at hd
        exact hd
      · rw [if_neg c3, if_neg (by omega)]
        exact m_room hM
theorem m_alike (hM : mM v T) (ha : zU (v 6) T a t) (hb : zU (v 6) T b u) : ∃ v', f_M_alike v (zI a) (zI b) = some (if zcmp 6 t u = 0 then 1 else 0, v') ∧ mD v v' := by
  obtain ⟨v', e, hD⟩ := m_ord hM ha hb
  have hr := zcmp_r 6 t u
  have ec : (zJ (zcmp 6 t u) = 0) = (zcmp 6 t u = 0) := by rw [zl_0, zI_J, zJ_eq (by omega) (by omega) (by omega) (by omega)] <;> rfl
  refine ⟨v', ?_, hD⟩
  rw [f_M_alike, e, bi_s, ite_p ec]
  by_cases c : zcmp 6 t u = 0
  · rw [if_pos c, if_pos c]; rfl
  · rw [if_neg c, if_neg c]; rfl
theorem m_wo_in {K : Int32 → Int32 → Int32 → Int32 → mS → Option (Int32 × mS)} (kt : zk t = 5) (ku : zk u = 5) {n k : Nat} (hk : k < zl t) : ∀ (m q j : Nat) (v : mS), mM v T → zU (v 6) T a t → zU (v 6) T b u → j + m = zl u → m < q → ∃ v', f_M_without_21 K q (zI a) (zI b) (zI n) (zI k) (if zhit (zc t k) u j = true then 1 else 0) (zI j) v = f_M_without_21 K 1 (zI a) (zI b) (zI n) (zI k) (if zhit (zc t k) u (zl u) = true then 1 else 0) (zI (zl u)) v' ∧ mD v v' := by
  intro m
  induction m with
  | zero =>
    intro q j v hM ha hb hj hq
    obtain ⟨q, rfl, -⟩ := suc_of hq
    have lu := zwf_l hb.2
    have e : j = zl u := by omega
    refine ⟨v, ?_, mD.rf⟩
    rw [e, f_M_without_21, f_M_without_21, m_size hM hb, bi_s, bi_s, iI_le (by omega) (by omega), if_pos (Nat.le_refl _), iI_le (by omega) (by omega), if_pos (Nat.le_refl _)]
  | succ m ih =>
    intro q j v hM ha hb hj hq
    obtain ⟨q, rfl, hq⟩ := suc_of hq
    have hq := Nat.lt_of_succ_lt_succ hq
    have lu := zwf_l hb.2
    obtain ⟨p, ep, hp⟩ := m_item hM ha (by omega) hk
    obtain ⟨w, ew, hw⟩ := m_item hM hb (by omega) (show j < zl u by omega)
    obtain ⟨v1, e1, hD⟩ := m_alike hM hp hw
    obtain ⟨v', f1, f2⟩ := ih q (j + 1) v1 (hD.M hM) (by rw [hD.h]; exact ha) (by rw [hD.h]; exact hb) (by omega) hq
    refine ⟨v', ?_, hD.tr f2⟩
    have e9 : zhit (zc t k) u (j + 1) = (zhit (zc t k) u j || decide (zcmp 6 (zc t k) (zc u j) = 0)) := rfl
    rw [← f1, e9, f_M_without_21, m_size hM hb, bi_s, iI_le (by omega) (by omega), if_neg (by omega), ep, bi_s, ew, bi_s, e1, bi_s]
    by_cases c : zcmp 6 (zc t k) (zc u j) = 0
    · rw [if_pos c, if_neg (by decide), f_M_without_55, nm_s, zl_1, zI_add]
      simp [c]
    · rw [if_neg c, if_pos rfl, f_M_without_55, nm_s, zl_1, zI_add]
      simp [c]
theorem m_wo_l (kt : zk t = 5) (ku : zk u = 5) (hT : T + 16 ≤ 63900) : ∀ (m q k : Nat) (v : mS), mM v T → zU (v 6) T a t → zU (v 6) T b u → k + m = zl t → m < q → mI1 v T (zwo t u k) → mP (f_M_without_5 q (zI a) (zI b) (zI (zwo t u k).1) (zI k) v) v T 16 (zmkA (zwo t u (zl t)).1 (zwo t u (zl t)).2) := by
  intro m
  induction m with
  | zero =>
    intro q k v hM ha hb hk hq h1
    obtain ⟨q, rfl, -⟩ := suc_of hq
    have lt := zwf_l ha.2
    have hn := zwo_n t u k
    have hkt : k = zl t := by omega
    rw [f_M_without_5, m_size hM ha, bi_s, iI_le (by omega) (by omega), if_pos (by omega), bi_id (fun _ _ => by rfl), ← hkt]
    exact m_array hM (by omega) h1 hT
  | succ m ih =>
    intro q k v hM ha hb hk hq h1
    obtain ⟨q, rfl, hq⟩ := suc_of hq
    have hq := Nat.lt_of_succ_lt_succ hq
    have lt := zwf_l ha.2
    have lu := zwf_l hb.2
    have hn := zwo_n t u k
    obtain ⟨v1, f1, hD⟩ := m_wo_in (K := f_M_without_5 q) (n := (zwo t u k).1) kt ku (show k < zl t by omega) (zl u) fu 0 v hM ha hb (by omega) (fu_lt (by omega))
    have hM1 := hD.M hM
    have ha1 : zU (v1 6) T a t := by rw [hD.h]; exact ha
    have hb1 : zU (v1 6) T b u := by rw [hD.h]; exact hb
    have h10 : v1 10 = v 10 := hD.1 10 (by decide) (by decide) (by decide)
    have e9 : zwo t u (k + 1) = if zhit (zc t k) u (zl u) = true then zwo t u k else ((zwo t u k).1 + 1, va_up (zwo t u k).2 (zwo t u k).1 (zc t k)) := rfl
    have hI : mI1 v1 T (zwo t u k) := by
      intro i hi
      obtain ⟨w, ew, hw⟩ := h1 i hi
      exact ⟨w, by rw [h10]; exact ew, by rw [hD.h]; exact hw⟩
    rw [f_M_without_5, m_size hM ha, bi_s, iI_le (by omega) (by omega), if_neg (by omega), zl_0]
    have f1 : f_M_without_21 (f_M_without_5 q) fu (zI a) (zI b) (zI (zwo t u k).1) (zI k) (zI 0) (zI 0) v = _ := f1
    rw [f1, f_M_without_21, m_size hM1 hb1, bi_s, iI_le (by omega) (by omega), if_pos (by omega)]
    have h21 : v1 0 21 = v 0 21 := hD.2 21 (by decide)
    by_cases c : zhit (zc t k) u (zl u) = true
    · rw [if_pos c] at e9
      rw [if_pos c, if_neg (by decide), f_M_without_85, nm_s, zl_1, zI_add]
      have hih := ih q (k + 1) v1 hM1 ha1 hb1 (by omega) hq (by rw [e9]; exact hI)
      rw [e9] at hih
      exact mP_E hD.E h21 hih (Nat.le_refl _)
    · rw [if_neg c] at e9
      obtain ⟨p, ep, hp⟩ := m_item hM1 ha1 (by omega) (show k < zl t by omega)
      rw [if_neg c, if_pos rfl, ep, bi_s, gd_I (by omega) (by omega), nm_s, nm_s, zI_toNat (by omega), f_M_without_85, nm_s, zl_1, zI_add, zI_add]
      have hih := ih q (k + 1) (sU v1 10 (zwo t u k).1 (zI p)) (mM_10 hM1) (zU_10 ha1) (zU_10 hb1) (by omega) hq (by rw [e9]; exact mI1_s hI hp)
      rw [e9] at hih
      exact mP_E (hD.E.tr mE_10) (by rw [sU_j (by decide)]; exact h21) hih (Nat.le_refl _)
end MB
