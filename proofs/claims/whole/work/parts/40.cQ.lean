/-! the class's Values: sum of an array, length, floor, keys, sort; members and items -/
theorem zsuml_st {t : zT} {k : Nat} (h : ∀ z, zsuml t k ≠ some (.inr z)) : ∀ m, zsuml t (k + m) = zsuml t k := by
  intro m
  induction m with
  | zero => rfl
  | succ m ih =>
    show zsuml t ((k + m) + 1) = _
    simp only [zsuml]
    rw [ih]
    cases hs : zsuml t k with
    | none => rfl
    | some w =>
      cases w with
      | inl e => rfl
      | inr z => exact absurd hs (h z)
theorem zsuml_e {t : zT} : ∀ (k e : Nat), zsuml t k = some (.inl e) → e = 1 := by
  intro k
  induction k with
  | zero => intro e h; cases h
  | succ k ih =>
    intro e h
    simp only [zsuml] at h
    cases hs : zsuml t k with
    | none => rw [hs] at h; cases h
    | some w =>
      rw [hs] at h
      cases w with
      | inl e1 => cases h; exact ih _ hs
      | inr z => exact zadd_e h
section CQ
variable {g : Nat → Nat} {v : mS} {T a b : Nat} {t u : zT}
theorem c_sum_l (kt : zk t = 5) : ∀ (m q k p T : Nat) (z : zT) (g : Nat → Nat) (v : mS), zM g v T → zV (v 4) T a t → zV (v 4) T p z → zsuml t k = some (.inr z) → k + m = zl t → m < q → T + 16 * m ≤ 65000 → zP (f_V_sumOf_15 q (zI a) (zI p) (zI k) g v) g v T (16 * m) (zsuml t (zl t)) := by
  intro m
  induction m with
  | zero =>
    intro q k p T z g v hM ha hp hz hk hq hT
    obtain ⟨q, rfl, -⟩ := suc_of hq
    have lt := zwf_l ha.2
    have : k = zl t := by omega
    rw [f_V_sumOf_15, c_len hM ha, bi_s, iI_le (by omega) (by omega), if_pos (by omega), ← this, hz]
    exact zP_of hM hp
  | succ m ih =>
    intro q k p T z g v hM ha hp hz hk hq hT
    obtain ⟨q, rfl, hq⟩ := suc_of hq
    have hq := Nat.lt_of_succ_lt_succ hq
    have lt := zwf_l ha.2
    have hpT := hp.1.1
    have hT2 := hM.2.2.2.1
    obtain ⟨w, ew, hw⟩ := c_item hM ha (by omega) (show k < zl t by omega)
    have e1 : ¬ zI p = -1 := by
      rw [zl_m1, zI_J, zJ_eq (by omega) (by omega) (by omega) (by omega)]; omega
    rw [f_V_sumOf_15, c_len hM ha, bi_s, iI_le (by omega) (by omega), if_neg (by omega), if_neg e1, ew, bi_s]
    have hs1 : zsuml t (k + 1) = zadd z (zc t k) := by simp only [zsuml]; rw [hz]
    refine zP_le (zP_bind (c1 := 16) (c2 := 16 * m) (c_plus hM hp hw (by omega)) (fun h0 => ?_) (fun g' v' T' r hM' hE' hT' hr => ?_)) (by omega)
    · rw [← hs1] at h0
      have h9 := zsuml_st (t := t) (k := k + 1) (fun z hz => by rw [h0] at hz; cases hz) (zl t - (k + 1))
      rw [show k + 1 + (zl t - (k + 1)) = zl t by omega] at h9
      rw [h9, h0]
    · rw [f_V_sumOf_40, nm_s, zl_1, zI_add]
      cases hs2 : zadd z (zc t k) with
      | none => rw [hs2] at hr; cases hr
      | some w2 =>
        rw [hs2] at hr hs1
        cases w2 with
        | inl e =>
          have he := zadd_e hs2
          subst he
          have hr : some (Sum.inl r, g', v') = some (Sum.inl (zJ (-((1 : Nat) : Int))), g', v') := hr
          have hr : r = -1 := by cases hr; rfl
          have h9 := zsuml_st (t := t) (k := k + 1) (fun z hz => by rw [hs1] at hz; cases hz) (zl t - (k + 1))
          rw [show k + 1 + (zl t - (k + 1)) = zl t by omega] at h9
          rw [h9, hs1, hr]
          have hq0 : ∃ q', q = q' + 1 := ⟨q - 1, by omega⟩
          obtain ⟨q', rfl⟩ := hq0
          rw [f_V_sumOf_15, c_len hM' (hE'.V ha), bi_s]
          have e9 : (if zI (zl t) ≤ zI (k + 1) then f_V_sumOf_47 (-1) g' v' else if (-1 : Int32) = -1 then f_V_sumOf_47 (-1) g' v' else bi (f_V_itemAt g' v' (zI a) (zI (k + 1))) fun r_8 v_6 => bo (f_V_plus g' v_6 (-1) r_8) fun r9 g9 v9 => f_V_sumOf_40 (f_V_sumOf_15 q') (zI a) (zI (k + 1)) r9 g9 v9) = f_V_sumOf_47 (-1) g' v' := by
            rw [if_pos (show (-1 : Int32) = -1 from rfl)]
            split <;> rfl
          rw [e9]
          exact zP_er hM'
        | inr z2 =>
          obtain ⟨p2, hr, hp2⟩ := hr
          have hr : r = zI p2 := by cases hr; rfl
          rw [hr]
          exact ih q (k + 1) p2 T' z2 g' v' hM' (hE'.V ha) hp2 hs1 (by omega) hq (by omega)
theorem c_sum (hM : zM g v T) (ha : zV (v 4) T a t) (hT : T + 192 ≤ 65000) : zP (f_V_sumOf g v (zI a)) g v T 192 (zsum t) := by
  have ka := ha.2.1
  have lt := zwf_l ha.2
  refine zP_mg ?_
  rw [c_kind hM ha, bi_s, zl_5, iI_eq (by omega) (by omega)]
  unfold zsum
  by_cases c : zk t = 5
  · rw [if_pos c, if_pos c]
    exact zP_le (c_sum_l c (zl t) fu 0 0 T (zW 0) g v hM ha (zM_W hM (show 0 < 3 by omega)) rfl (by omega) (fu_lt (by omega)) (by omega)) (by omega)
  · rw [if_neg c, if_neg c]
    exact zP_er hM
theorem zred_neg : ∀ (s : Nat) (m : Int), zred s (-m) = (-(zred s m).1, (zred s m).2) := by
  intro s
  induction s with
  | zero => intro m; rfl
  | succ s ih =>
    intro m
    simp only [zred]
    by_cases c : m % 10 = 0
    · rw [if_pos (by omega), if_pos c, show -m / 10 = -(m / 10) by omega, ih]
    · rw [if_neg (by omega), if_neg c]
theorem c_measured (hM : zM g v T) (ha : zV (v 4) T a t) (hT : T + 16 ≤ 65000) : zP (f_V_measured g v (zI a)) g v T 16 (zlen t) := by
  have ka := ha.2.1
  have lt := zwf_l ha.2
  refine zP_mg ?_
  simp (disch := omega) only [c_kind hM ha, bi_s, zl_1, zl_2, zl_3, zI_eq]
  unfold zlen
  by_cases c1 : zk t = 1
  · rw [if_pos c1, if_pos (Or.inl c1)]
    exact zP_er hM
  · rw [if_neg c1]
    by_cases c2 : zk t = 2
    · rw [if_pos c2, if_pos (Or.inr c2)]
      exact zP_er hM
    · rw [if_neg c2, if_neg (show ¬ (zk t = 1 ∨ zk t = 2) by omega)]
      by_cases c3 : zk t = 3
      · rw [if_pos c3, if_pos c3, c_whole hM ha c3, bi_s, c_scale hM ha c3, bi_s, bo_id (fun r g v => by rfl)]
        obtain ⟨b1, b2⟩ := ha.2.2.2.2.2.2.1 c3
        have hs := zred_s 6 (zv t)
        have he := zred_eq 6 (zv t)
        have hup := zred_up (s := 6) (w := zv t) hs
        have hpp := p10_le (show 6 - (zred 6 (zv t)).2 ≤ 6 by omega)
        have hir := zred_ir 6 (zv t)
        have hneg := zred_neg 6 (zv t)
        generalize hMM : (zred 6 (zv t)).1 = M at *
        generalize hSS : (zred 6 (zv t)).2 = S at *
        have e0 : (0 ≤ zJ M) = (0 ≤ M) := by rw [zl_0, zI_J, zJ_le (by omega) (by omega) (by omega) (by omega)] <;> rfl
        have hzn : ∀ M' : Int, (S = 0 ∨ M' % 10 ≠ 0) → zred S M' = (M', S) := by
          intro M' h9
          have := zred_of S M' S (Nat.le_refl _) h9
          simpa using this
        rw [ite_p e0]
        by_cases c : 0 ≤ M
        · have h0 : ¬ zv t < 0 := by
            have := Int.mul_nonneg c (show (0 : Int) ≤ 10 ^ (6 - S) by omega)
            omega
          rw [if_pos c, if_neg h0, zJ_64 (by omega) (by omega)]
          have e9 : zmkN (zv t) = znum S M := by
            unfold zmkN znum
            rw [hzn M hir, hMM]
            try dsimp only
            rw [he]
            simp [hs]
          rw [e9]
          exact zP_le (c_number hM (by omega) (by omega) (by omega) (by omega)) (by omega)
        · have h0 : zv t < 0 := by
            have h8 : M * 10 ^ (6 - S) ≤ -1 * 10 ^ (6 - S) := Int.mul_le_mul_of_nonneg_right (by omega) (by omega)
            omega
          rw [if_neg c, if_pos h0, zl_0, zI_J, zJ_sub, zJ_64 (by omega) (by omega), show ((0 : Nat) : Int) - M = -M by omega]
          have e9 : zmkN (-zv t) = znum S (-M) := by
            unfold zmkN znum
            rw [hzn (-M) (by omega), hneg]
            try dsimp only
            rw [Int.neg_mul, he]
            simp [hs]
          rw [e9]
          exact zP_le (c_number hM (by omega) (by omega) (by omega) (by omega)) (by omega)
      · rw [if_neg c3, if_neg c3, c_len hM ha, bi_s, f_V_small, bi_s, zl_16, zl_6, zI_mul, zI_add, Nat.mul_comm]
        exact zP_of hM (zM_Q hM (by omega))
theorem c_floored (hM : zM g v T) (ha : zV (v 4) T a t) (hT : T + 16 ≤ 65000) : zP (f_V_floored g v (zI a)) g v T 16 (zflr t) := by
  have ka := ha.2.1
  refine zP_mg ?_
  rw [c_kind hM ha, bi_s, zl_3, iI_eq (by omega) (by omega)]
  unfold zflr
  by_cases c3 : zk t = 3
  · have hb := zfl_b (ha.2.2.2.2.2.2.1 c3)
    rw [if_pos c3, if_pos c3, c_floor hM ha c3, bi_s, bo_id (fun r g v => by rfl), zJ_64 (by omega) (by omega), zl_0, ← znum_0]
    exact zP_le (c_number hM (by omega) (by omega) (by omega) (by omega)) (by omega)
  · rw [if_neg c3, if_neg c3]
    exact zP_er hM
theorem c_small {k : Nat} : f_V_small g v (zI k) = some (zI (16 + 6 * k), v) := by
  rw [f_V_small, zl_16, zl_6, zI_mul, zI_add, Nat.mul_comm]
theorem zI1_s {p n : Nat} {f : Nat → zT} {y : zT} (h : zI1 v T (n, f)) (hq : zV (v 4) T p y) : zI1 (sU v 2 n (zI p)) T (n + 1, va_up f n y) := by
  have e4 : sU v 2 n (zI p) 4 = v 4 := sU_j (by decide)
  intro i hi
  try dsimp only at hi ⊢
  rw [e4]
  by_cases ci : i = n
  · subst ci
    refine ⟨p, sU_hit, ?_⟩
    unfold va_up; rw [if_pos rfl]; exact hq
  · obtain ⟨w, ew, hw⟩ := h i (by dsimp only; omega)
    refine ⟨w, ?_, ?_⟩
    · rw [sU_k ci]; exact ew
    · unfold va_up; rw [if_neg ci]; exact hw
theorem zE_2 {n : Nat} {x : Int32} : zE g v T g (sU v 2 n x) T := ⟨Nat.le_refl _, rfl, rfl, Nat.le_refl _, fun i _ => by rw [sU_j (by decide)], fun j j1 j2 j3 j4 => sU_j j2⟩
theorem zM_2 {n : Nat} {x : Int32} (hM : zM g v T) : zM g (sU v 2 n x) T := zM_w hM (sU_j (by decide)) (fun i _ => by rw [sU_j (by decide)])
theorem zV_2 {n : Nat} {x : Int32} (h : zV (v 4) T a t) : zV (sU v 2 n x 4) T a t := by rw [sU_j (by decide)]; exact h
theorem zP_E {F : Option (bO Int32)} {g1 : Nat → Nat} {v1 : mS} {T1 c c' : Nat} {sp : Option (Nat ⊕ zT)} (h : zE g v T g1 v1 T1) (k : zP F g1 v1 T1 c sp) (hc : T1 + c ≤ T + c') : zP F g v T c' sp := by
  obtain ⟨g', v', T', m, e, hT, p⟩ := k
  exact ⟨g', v', T', m, h.tr e, by omega, p⟩
def zkf (t : zT) : Nat → zT := fun k => if zk t = 6 then zX (zm t k) else zQ ((k : Int) * 1000000)
theorem c_keys_l (h5 : 5 ≤ zk t) (hT : T + 16 ≤ 65000) : ∀ (m q k : Nat) (v : mS), zM g v T → zV (v 4) T a t → k + m = zl t → m < q → zI1 v T (k, zkf t) → zP (f_V_keysOf_12 q (zI a) (zI k) g v) g v T 16 (zmkA (zl t) (zkf t)) := by
  intro m
  induction m with
  | zero =>
    intro q k v hM ha hk hq h1
    obtain ⟨q, rfl, -⟩ := suc_of hq
    have lt := zwf_l ha.2
    have hkt : k = zl t := by omega
    rw [f_V_keysOf_12, c_len hM ha, bi_s, iI_le (by omega) (by omega), if_pos (by omega), c_len hM ha, bi_s, bo_id (fun r g v => by rfl), ← hkt]
    exact c_arrayOf hM (x := 2) (by decide) (show _ ≤ 24 by omega) (Nat.le_refl 24) (Or.inl rfl) h1 hT
  | succ m ih =>
    intro q k v hM ha hk hq h1
    obtain ⟨q, rfl, hq⟩ := suc_of hq
    have hq := Nat.lt_of_succ_lt_succ hq
    have lt := zwf_l ha.2
    have ka := ha.2.1
    have step : ∀ p, zV (v 4) T p (zkf t k) → zP (f_V_keysOf_50 (f_V_keysOf_12 q) (zI a) (zI k) (zI k) (zI p) g v) g v T 16 (zmkA (zl t) (zkf t)) := by
      intro p hp
      rw [f_V_keysOf_50, gd_I (by omega) (by omega), nm_s, nm_s, zI_toNat (by omega), zl_1, zI_add]
      refine zP_E zE_2 (ih q (k + 1) _ (zM_2 hM) (zV_2 ha) (by omega) hq ?_) (Nat.le_refl _)
      have h9 := zI1_s h1 hp
      intro i hi
      obtain ⟨b, e, hb⟩ := h9 i hi
      refine ⟨b, e, ?_⟩
      have : va_up (zkf t) k (zkf t k) i = zkf t i := by
        unfold va_up
        by_cases c : i = k
        · rw [if_pos c, c]
        · rw [if_neg c]
      try dsimp only at hb
      rw [this] at hb
      exact hb
    rw [f_V_keysOf_12, c_len hM ha, bi_s, iI_le (by omega) (by omega), if_neg (by omega), c_kind hM ha, bi_s, zl_6, iI_eq (by omega) (by omega)]
    by_cases c6 : zk t = 6
    · obtain ⟨p, ep, hp, hp2⟩ := c_name hM ha c6 (show k < zl t by omega)
      rw [if_pos c6, ep, bi_s]
      refine step p ?_
      unfold zkf
      rw [if_pos c6]
      exact zV_X hp hp2
    · rw [if_neg c6, c_small, bi_s]
      refine step _ ?_
      unfold zkf
      rw [if_neg c6]
      exact zM_Q hM (by omega)
theorem c_keys (hM : zM g v T) (ha : zV (v 4) T a t) (hT : T + 16 ≤ 65000) : zP (f_V_keysOf g v (zI a)) g v T 16 (zkeys t) := by
  have ka := ha.2.1
  have lt := zwf_l ha.2
  refine zP_mg ?_
  rw [c_parts hM ha, bi_s]
  unfold zkeys
  by_cases c : zk t < 5
  · rw [if_pos c, if_pos rfl, if_pos c]
    exact zP_er hM
  · rw [if_neg c, if_neg (by decide), if_neg c, zl_0]
    exact c_keys_l (by omega) hT (zl t) fu 0 v hM ha (by omega) (fu_lt (by omega)) (fun k hk => absurd hk (by dsimp only; omega))
/-- sorting: a value is put into its place -/
def zI3 (v : mS) (T p k : Nat) (f : Nat → zT) : Prop := (∀ j, j < p → ∃ b, v 2 j = zI b ∧ zV (v 4) T b (f j)) ∧ ∀ j, p < j → j ≤ k → ∃ b, v 2 j = zI b ∧ zV (v 4) T b (f (j - 1))
theorem c_sort_in {K : Int32 → Int32 → (Nat → Nat) → mS → Option (bO Int32)} (kt : zk t = 5) {k : Nat} (hk : k < zl t) {f : Nat → zT} : ∀ (p q : Nat) (v : mS), zM g v T → zV (v 4) T a t → p ≤ k → p < q → zI3 v T p k f → ∃ v', f_V_sorted_24 K q (zI a) (zI k) (zI p) g v = f_V_sorted_69 K (zI a) (zI k) (zI (zplace f (zc t k) p)) g v' ∧ zM g v' T ∧ zE g v T g v' T ∧ zI3 v' T (zplace f (zc t k) p) k f ∧ zplace f (zc t k) p ≤ p := by
  intro p
  induction p with
  | zero =>
    intro q v hM ha hp hq h3
    obtain ⟨q, rfl, -⟩ := suc_of hq
    have lt := zwf_l ha.2
    refine ⟨v, ?_, hM, zE.rf, h3, Nat.le_refl _⟩
    rw [f_V_sorted_24, zl_0, iI_le (by omega) (by omega), if_pos (by omega)]
    rfl
  | succ p ih =>
    intro q v hM ha hp hq h3
    obtain ⟨q, rfl, hq⟩ := suc_of hq
    have hq := Nat.lt_of_succ_lt_succ hq
    have lt := zwf_l ha.2
    obtain ⟨w, ew, hw⟩ := c_item hM ha (by omega) hk
    obtain ⟨b, eb, hb⟩ := h3.1 p (by omega)
    have hr := zcmp_r 6 (f p) (zc t k)
    have e1 : zI (p + 1) - 1 = zI p := by rw [zl_1, zI_sub (by omega)]; rfl
    have hle : (zJ (zcmp 6 (f p) (zc t k)) ≤ 0) = (zcmp 6 (f p) (zc t k) ≤ 0) := by rw [zl_0, zI_J, zJ_le (by omega) (by omega) (by omega) (by omega)] <;> rfl
    have e0 : ¬ zI (p + 1) ≤ 0 := by rw [zl_0, zI_le (by omega) (by omega)]; omega
    rw [f_V_sorted_24, if_neg e0, e1, gd_I (by omega) (by omega), zI_toNat (by omega), eb, ew, bi_s, c_cmp6 hM hb hw, bi_s, ite_p hle]
    simp only [zplace]
    by_cases c : 0 < zcmp 6 (f p) (zc t k)
    · rw [if_neg (by omega), if_pos c, gd_I (by omega) (by omega), gd_I (by omega) (by omega), nm_s, nm_s, zI_toNat (by omega), zI_dec (by omega), show p + 1 - 1 = p by omega, eb]
      obtain ⟨v', f1, f2, f3, f4, f5⟩ := ih q (sU v 2 (p + 1) (zI b)) (zM_2 hM) (zV_2 ha) (by omega) hq ⟨fun j hj => by
        obtain ⟨w2, ew2, hw2⟩ := h3.1 j (by omega)
        exact ⟨w2, by rw [sU_k (by omega)]; exact ew2, zV_2 hw2⟩, fun j hj hjk => by
        by_cases cj : j = p + 1
        · subst cj
          exact ⟨b, sU_hit, by rw [show p + 1 - 1 = p by omega]; exact zV_2 hb⟩
        · obtain ⟨w2, ew2, hw2⟩ := h3.2 j (by omega) hjk
          exact ⟨w2, by rw [sU_k cj]; exact ew2, zV_2 hw2⟩⟩
      exact ⟨v', f1, f2, zE_2.tr f3, f4, by omega⟩
    · rw [if_pos (by omega), if_neg c]
      exact ⟨v, rfl, hM, zE.rf, h3, Nat.le_refl _⟩
theorem c_sort_l (kt : zk t = 5) (hT : T + 16 ≤ 65000) : ∀ (m q k : Nat) (v : mS), zM g v T → zV (v 4) T a t → k + m = zl t → m < q → zI1 v T (k, zsrt t k) → zP (f_V_sorted_13 q (zI a) (zI k) g v) g v T 16 (zmkA (zl t) (zsrt t (zl t))) := by
  intro m
  induction m with
  | zero =>
    intro q k v hM ha hk hq h1
    obtain ⟨q, rfl, -⟩ := suc_of hq
    have lt := zwf_l ha.2
    have hkt : k = zl t := by omega
    rw [f_V_sorted_13, c_len hM ha, bi_s, iI_le (by omega) (by omega), if_pos (by omega), c_len hM ha, bi_s, bo_id (fun r g v => by rfl), ← hkt]
    exact c_arrayOf hM (x := 2) (by decide) (show _ ≤ 24 by omega) (Nat.le_refl 24) (Or.inl rfl) h1 hT
  | succ m ih =>
    intro q k v hM ha hk hq h1
    obtain ⟨q, rfl, hq⟩ := suc_of hq
    have hq := Nat.lt_of_succ_lt_succ hq
    have lt := zwf_l ha.2
    obtain ⟨v', f1, f2, f3, f4, f5⟩ := c_sort_in (K := f_V_sorted_13 q) (f := zsrt t k) kt (show k < zl t by omega) k fu v hM ha (Nat.le_refl _) (fu_lt (by omega)) ⟨fun j hj => h1 j hj, fun j hj hjk => absurd hj (by omega)⟩
    have ha' := f3.V ha
    obtain ⟨w, ew, hw⟩ := c_item f2 ha' (by omega) (show k < zl t by omega)
    rw [f_V_sorted_13, c_len hM ha, bi_s, iI_le (by omega) (by omega), if_neg (by omega), f1, f_V_sorted_69, ew, bi_s, gd_I (by omega) (by omega), nm_s, nm_s, zI_toNat (by omega), zl_1, zI_add]
    refine zP_E (f3.tr zE_2) (ih q (k + 1) _ (zM_2 f2) (zV_2 ha') (by omega) hq ?_) (Nat.le_refl _)
    intro j hj
    try dsimp only at hj ⊢
    have e9 : zsrt t (k + 1) j = if j < zplace (zsrt t k) (zc t k) k then zsrt t k j else if j = zplace (zsrt t k) (zc t k) k then zc t k else zsrt t k (j - 1) := rfl
    rw [e9]
    by_cases c1 : j < zplace (zsrt t k) (zc t k) k
    · obtain ⟨b, eb, hb⟩ := f4.1 j c1
      refine ⟨b, ?_, ?_⟩
      · rw [sU_k (by omega)]; exact eb
      · rw [if_pos c1]; exact zV_2 hb
    · by_cases c2 : j = zplace (zsrt t k) (zc t k) k
      · refine ⟨w, ?_, ?_⟩
        · rw [c2]; exact sU_hit
        · rw [if_neg c1, if_pos c2]; exact zV_2 hw
      · obtain ⟨b, eb, hb⟩ := f4.2 j (by omega) (by omega)
        refine ⟨b, ?_, ?_⟩
        · rw [sU_k (by omega)]; exact eb
        · rw [if_neg c1, if_neg c2]; exact zV_2 hb
theorem c_sorted (hM : zM g v T) (ha : zV (v 4) T a t) (hT : T + 16 ≤ 65000) : zP (f_V_sorted g v (zI a)) g v T 16 (zsort t) := by
  have ka := ha.2.1
  have lt := zwf_l ha.2
  refine zP_mg ?_
  rw [c_kind hM ha, bi_s, zl_5, iI_eq (by omega) (by omega)]
  unfold zsort
  by_cases c : zk t = 5
  · rw [if_pos c, if_pos c, zl_0]
    exact c_sort_l c hT (zl t) fu 0 v hM ha (by omega) (fu_lt (by omega)) (fun k hk => absurd hk (by dsimp only; omega))
  · rw [if_neg c, if_neg c]
    exact zP_er hM
/-- members and items -/
def zG (F : Option (Int32 × mS)) (v : mS) (T : Nat) (sp : Nat ⊕ zT) : Prop := match sp with
  | .inl e => F = some (zJ (-(e : Int)), v)
  | .inr t => ∃ a, F = some (zI a, v) ∧ zV (v 4) T a t
theorem c_member_l (hM : zM g v T) (ha : zV (v 4) T a t) (kt : zk t = 6) {x : zN} (hx : zRX (v 4) T b x) (hx2 : ztx x) {o : Int32} : ∀ (m q i : Nat), i + m = zl t → m < q → match zmem t x m i with
    | some k => k < zl t ∧ ∃ p, f_V_memberOf_3 g q (zI a) (zI b) o (zI i) v = some (zI p, v) ∧ zV (v 4) T p (zc t k)
    | none => f_V_memberOf_3 g q (zI a) (zI b) o (zI i) v = some (o, v) := by
  have lt := zwf_l ha.2
  intro m
  induction m with
  | zero =>
    intro q i hi hq
    obtain ⟨q, rfl, -⟩ := suc_of hq
    simp only [zmem]
    rw [f_V_memberOf_3, c_len hM ha, bi_s, iI_le (by omega) (by omega), if_pos (by omega)]
  | succ m ih =>
    intro q i hi hq
    obtain ⟨q, rfl, hq⟩ := suc_of hq
    have hq := Nat.lt_of_succ_lt_succ hq
    obtain ⟨p, ep, hp, hp2⟩ := c_name hM ha kt (show i < zl t by omega)
    obtain ⟨w, ew, hw⟩ := c_item hM ha (by omega) (show i < zl t by omega)
    have hr := zct_r (zm t i) x
    have e0 : (zJ (zct (zm t i) x) = 0) = (zct (zm t i) x = 0) := by rw [zl_0, zI_J, zJ_eq (by omega) (by omega) (by omega) (by omega)] <;> rfl
    have e9 : f_V_memberOf_3 g (q + 1) (zI a) (zI b) o (zI i) v = if zct (zm t i) x = 0 then some (zI w, v) else f_V_memberOf_3 g q (zI a) (zI b) o (zI (i + 1)) v := by
      rw [f_V_memberOf_3, c_len hM ha, bi_s, iI_le (by omega) (by omega), if_neg (by omega), ep, bi_s, c_texts hM hp hx hp2 hx2, bi_s, ite_p e0]
      by_cases c : zct (zm t i) x = 0
      · rw [if_pos c, if_pos c, ew, bi_s]
      · rw [if_neg c, if_neg c, nm_s, zl_1, zI_add]
    simp only [zmem]
    rw [e9]
    by_cases c : zct (zm t i) x = 0
    · rw [if_pos c]
      exact ⟨by omega, w, by rw [if_pos c], hw⟩
    · rw [if_neg c]
      have h := ih q (i + 1) (by omega) hq
      cases hz : zmem t x m (i + 1) with
      | none => rw [hz] at h; dsimp only at h ⊢; rw [if_neg c]; exact h
      | some k => rw [hz] at h; dsimp only at h ⊢; rw [if_neg c]; exact h
end CQ
