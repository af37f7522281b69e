/-! the reference: calc, compared, length, keys, sort, sum -/
section MC
variable {v : mS} {T a b : Nat} {t u : zT}
theorem m_calc (hM : mM v T) (ha : zU (v 6) T a t) (hb : zU (v 6) T b u) {h : Nat} (hh : h ≤ 3) (hT : T + 16 ≤ 63900) : mP (f_M_calc v (zI h) (zI a) (zI b)) v T 16 (zcalc h t u) := by
  have ka := ha.2.1
  have kb := hb.2.1
  have e0 : (zI h = 0) = (h = 0) := by rw [zl_0, zI_eq (by omega) (by omega)]
  have e1 : (zI h = 1) = (h = 1) := by rw [zl_1, zI_eq (by omega) (by omega)]
  have e2 : (zI h = 2) = (h = 2) := by rw [zl_2, zI_eq (by omega) (by omega)]
  have t3 : (zI (zk t) = 3) = (zk t = 3) := by rw [zl_3, zI_eq (by omega) (by omega)]
  have u3 : (zI (zk u) = 3) = (zk u = 3) := by rw [zl_3, zI_eq (by omega) (by omega)]
  have t5 : (zI (zk t) = 5) = (zk t = 5) := by rw [zl_5, zI_eq (by omega) (by omega)]
  have u5 : (zI (zk u) = 5) = (zk u = 5) := by rw [zl_5, zI_eq (by omega) (by omega)]
  unfold zcalc
  rw [f_M_calc, ite_p e0, ite_p e1]
  by_cases c0 : h = 0
  · rw [if_pos c0, if_pos c0, bi_id (fun _ _ => by rfl)]
    exact m_added hM ha hb hT
  · rw [if_neg c0, if_neg c0]
    have h41 : ¬ (h = 1 ∧ zk t = 5 ∧ zk u = 5) → mP (f_M_calc_41 (zI h) (zI a) (zI b) v) v T 16 (if h = 1 then zsub t u else if h = 2 then zmul t u else zrem t u) := by
      intro hn
      rw [f_M_calc_41, m_kind hM ha, bi_s, ite_p t3]
      by_cases k3 : zk t = 3
      · rw [if_pos k3, m_kind hM hb, bi_s, ite_p u3]
        by_cases l3 : zk u = 3
        · have b1 := zok_b (ha.2.2.2.2.2.2.1 k3)
          have b2 := zok_b (hb.2.2.2.2.2.2.1 l3)
          rw [if_pos l3, ite_p e1]
          by_cases c1 : h = 1
          · rw [if_pos c1, if_pos c1, m_num hM ha k3, bi_s, m_num hM hb l3, bi_s, zK_sub, bi_id (fun _ _ => by rfl)]
            unfold zsub
            rw [if_pos ⟨k3, l3⟩]
            exact mP_le (m_decimal hM (by omega) (by omega) (by omega)) (by omega)
          · rw [if_neg c1, if_neg c1, ite_p e2]
            by_cases c2 : h = 2
            · rw [if_pos c2, if_pos c2, bi_id (fun _ _ => by rfl)]
              unfold zmul
              rw [if_pos ⟨k3, l3⟩]
              exact mP_le (m_product hM ha hb k3 l3 (by omega)) (by omega)
            · rw [if_neg c2, if_neg c2, m_num hM hb l3, bi_s, zkl_6, zK_div (by omega) (by omega) (by omega) (by omega), nm_s]
              have d1 := ztd_b (ha.2.2.2.2.2.2.1 k3)
              have d2 := ztd_b (hb.2.2.2.2.2.2.1 l3)
              have hs := zsg_b ((zv u).tdiv 1000000 - 0)
              have ez : (lg_cmp (zK ((zv u).tdiv 1000000)) 0 = 0) = ((zv u).tdiv 1000000 = 0) := by
                rw [zkl_0, zK_cmp (by omega) (by omega) (by omega) (by omega), zl_0, zI_J 0, zJ_eq (by omega) (by omega) (by omega) (by omega), show ((0 : Nat) : Int) = 0 from rfl, zsg_0, Int.sub_zero]
              unfold zrem
              rw [ite_p ez, if_pos (show zk t = 3 ∧ zk u = 3 from ⟨k3, l3⟩)]
              by_cases cz : (zv u).tdiv 1000000 = 0
              · rw [if_pos cz, if_pos cz]
                exact ⟨v, T, hM, mE.rf, by omega, rfl, rfl⟩
              · rw [if_neg cz, if_neg cz, m_num hM ha k3, bi_s, gd_t, zK_div (by omega) (by omega) (by omega) (by omega)]
                · generalize (zv u).tdiv 1000000 = y at *
                  generalize (zv t).tdiv 1000000 = x at *
                  have hr : x - x.tdiv y * y = x.tmod y := by rw [Int.tmod_def, Int.mul_comm y]
                  have hb3 := ztm_le x y
                  rw [zK_div (by omega) (by omega) (by omega) (by omega), zK_mul, zK_sub, hr, bi_id (fun _ _ => by rfl)]
                  exact mP_le (m_whole hM (by omega) (by omega) (by omega)) (by omega)
                · have : zK ((zv u).tdiv 1000000) ≠ 0 := by
                    intro h9
                    have h8 := congrArg Int64.toInt h9
                    rw [zK_toInt (by omega) (by omega)] at h8
                    exact cz h8
                  simp [this]
        · rw [if_neg l3]
          by_cases c1 : h = 1
          · rw [if_pos c1]; unfold zsub
            rw [if_neg (fun h => l3 h.2), if_neg (fun h => by omega)]
            exact mP_er hM
          · rw [if_neg c1]
            by_cases c2 : h = 2
            · rw [if_pos c2]; unfold zmul
              rw [if_neg (fun h => l3 h.2)]
              exact mP_er hM
            · rw [if_neg c2]; unfold zrem
              rw [if_neg (fun h => l3 h.2)]
              exact mP_er hM
      · rw [if_neg k3]
        by_cases c1 : h = 1
        · rw [if_pos c1]; unfold zsub
          rw [if_neg (fun h => k3 h.1), if_neg (fun h9 => hn ⟨c1, h9⟩)]
          exact mP_er hM
        · rw [if_neg c1]
          by_cases c2 : h = 2
          · rw [if_pos c2]; unfold zmul
            rw [if_neg (fun h => k3 h.1)]
            exact mP_er hM
          · rw [if_neg c2]; unfold zrem
            rw [if_neg (fun h => k3 h.1)]
            exact mP_er hM
    by_cases c1 : h = 1
    · rw [if_pos c1, m_kind hM ha, bi_s, ite_p t5]
      by_cases k5 : zk t = 5
      · rw [if_pos k5, m_kind hM hb, bi_s, ite_p u5]
        by_cases l5 : zk u = 5
        · rw [if_pos l5, if_pos c1, bi_id (fun _ _ => by rfl)]
          unfold zsub
          rw [if_neg (fun h => by omega), if_pos ⟨k5, l5⟩]
          exact m_wo_l k5 l5 hT (zl t) fu 0 v hM ha hb (by omega) (fu_lt (by have := zwf_l ha.2; omega)) (fun k hk => absurd hk (by simp [zwo]))
        · rw [if_neg l5]
          exact h41 (fun h => l5 h.2.2)
      · rw [if_neg k5]
        exact h41 (fun h => k5 h.2.1)
    · rw [if_neg c1]
      exact h41 (fun h => c1 h.1)
theorem m_tf (hM : mM v T) {b : Bool} {x : Int32} (hx : x = if b then 1 else 0) : ∃ p, f_M_compared_107 x v = some (zI p, v) ∧ zU (v 6) T p (ztr b) := by
  subst hx
  cases b with
  | true => exact ⟨12, rfl, mM_W hM (show 2 < 3 by omega)⟩
  | false => exact ⟨8, rfl, mM_W hM (show 1 < 3 by omega)⟩
theorem m_compared (hM : mM v T) (ha : zU (v 6) T a t) (hb : zU (v 6) T b u) {h : Nat} (hh : h ≤ 5) : ∃ p v', f_M_compared v (zI h) (zI a) (zI b) = some (zI p, v') ∧ mD v v' ∧ zU (v' 6) T p (ztr (zhold h (zcmp 6 t u))) := by
  obtain ⟨v', e, hD⟩ := m_ord hM ha hb
  have hr := zcmp_r 6 t u
  have hM' := hD.M hM
  have key : ∀ (x : Int32) (bb : Bool), (x = if bb then 1 else 0) → bb = zhold h (zcmp 6 t u) → f_M_compared v (zI h) (zI a) (zI b) = f_M_compared_107 x v' → ∃ p v', f_M_compared v (zI h) (zI a) (zI b) = some (zI p, v') ∧ mD v v' ∧ zU (v' 6) T p (ztr (zhold h (zcmp 6 t u))) := by
    intro x bb hx hbb h9
    obtain ⟨p, ep, hp⟩ := m_tf hM' hx
    exact ⟨p, v', by rw [h9, ep], hD, by rw [← hbb]; exact hp⟩
  have q0 : (zJ (zcmp 6 t u) = 0) = (zcmp 6 t u = 0) := by rw [zl_0, zI_J, zJ_eq (by omega) (by omega) (by omega) (by omega)] <;> rfl
  have q1 : (0 ≤ zJ (zcmp 6 t u)) = (0 ≤ zcmp 6 t u) := by rw [zl_0, zI_J, zJ_le (by omega) (by omega) (by omega) (by omega)] <;> rfl
  have q2 : (0 < zJ (zcmp 6 t u)) = (0 < zcmp 6 t u) := by rw [zl_0, zI_J, zJ_lt (by omega) (by omega) (by omega) (by omega)] <;> rfl
  have q3 : (zJ (zcmp 6 t u) ≤ 0) = (zcmp 6 t u ≤ 0) := by rw [zl_0, zI_J, zJ_le (by omega) (by omega) (by omega) (by omega)] <;> rfl
  have q4 : (zJ (zcmp 6 t u) < 0) = (zcmp 6 t u < 0) := by rw [zl_0, zI_J, zJ_lt (by omega) (by omega) (by omega) (by omega)] <;> rfl
  have hc : h = 0 ∨ h = 1 ∨ h = 2 ∨ h = 3 ∨ h = 4 ∨ h = 5 := by omega
  generalize hz : zcmp 6 t u = z at *
  rcases hc with rfl | rfl | rfl | rfl | rfl | rfl
  · by_cases c : z = 0
    · exact key 1 true rfl (by simp [zhold, c]) (by rw [f_M_compared, e, bi_s, if_pos (by decide), ite_p q0, if_pos c])
    · exact key 0 false rfl (by simp [zhold, c]) (by rw [f_M_compared, e, bi_s, if_pos (by decide), ite_p q0, if_neg c])
  · by_cases c : z = 0
    · exact key 0 false rfl (by simp [zhold, c]) (by rw [f_M_compared, e, bi_s, if_neg (by decide), if_pos (by decide), ite_p q0, if_pos c])
    · exact key 1 true rfl (by simp [zhold, c]) (by rw [f_M_compared, e, bi_s, if_neg (by decide), if_pos (by decide), ite_p q0, if_neg c])
  · by_cases c : 0 ≤ z
    · exact key 0 false rfl (by simp [zhold]; omega) (by rw [f_M_compared, e, bi_s, if_neg (by decide), if_neg (by decide), if_pos (by decide), ite_p q1, if_pos c])
    · exact key 1 true rfl (by simp [zhold]; omega) (by rw [f_M_compared, e, bi_s, if_neg (by decide), if_neg (by decide), if_pos (by decide), ite_p q1, if_neg c])
  · by_cases c : 0 < z
    · exact key 0 false rfl (by simp [zhold]; omega) (by rw [f_M_compared, e, bi_s, if_neg (by decide), if_neg (by decide), if_neg (by decide), if_pos (by decide), ite_p q2, if_pos c])
    · exact key 1 true rfl (by simp [zhold]; omega) (by rw [f_M_compared, e, bi_s, if_neg (by decide), if_neg (by decide), if_neg (by decide), if_pos (by decide), ite_p q2, if_neg c])
  · by_cases c : z ≤ 0
    · exact key 0 false rfl (by simp [zhold]; omega) (by rw [f_M_compared, e, bi_s, if_neg (by decide), if_neg (by decide), if_neg (by decide), if_neg (by decide), if_pos (by decide), ite_p q3, if_pos c])
    · exact key 1 true rfl (by simp [zhold]; omega) (by rw [f_M_compared, e, bi_s, if_neg (by decide), if_neg (by decide), if_neg (by decide), if_neg (by decide), if_pos (by decide), ite_p q3, if_neg c])
  · by_cases c : z < 0
    · exact key 0 false rfl (by simp [zhold]; omega) (by rw [f_M_compared, e, bi_s, if_neg (by decide), if_neg (by decide), if_neg (by decide), if_neg (by decide), if_neg (by decide), ite_p q4, if_pos c])
    · exact key 1 true rfl (by simp [zhold]; omega) (by rw [f_M_compared, e, bi_s, if_neg (by decide), if_neg (by decide), if_neg (by decide), if_neg (by decide), if_neg (by decide), ite_p q4, if_neg c])
theorem zmkN_w {n : Nat} (h : n ≤ 999999999) : zmkN ((n : Int) * 1000000) = some (.inr (zQ ((n : Int) * 1000000))) := by
  unfold zmkN
  rw [zred_06, if_pos (by dsimp only; omega)]
theorem m_measure (hM : mM v T) (ha : zU (v 6) T a t) (hT : T + 16 ≤ 63900) : mP (f_M_measure v (zI a)) v T 16 (zlen t) := by
  have ka := ha.2.1
  have lt := zwf_l ha.2
  have e0 : (zI (zk t) = 0) = (zk t = 0) := by rw [zl_0, zI_eq (by omega) (by omega)]
  have e1 : (zI (zk t) = 1) = (zk t = 1) := by rw [zl_1, zI_eq (by omega) (by omega)]
  have e2 : (zI (zk t) = 2) = (zk t = 2) := by rw [zl_2, zI_eq (by omega) (by omega)]
  have e3 : (zI (zk t) = 3) = (zk t = 3) := by rw [zl_3, zI_eq (by omega) (by omega)]
  have e48 : ∀ x w, f_M_measure_48 x w = f_M_decimal w x := fun x w => bi_id (fun _ _ => by rfl)
  have e69 : ∀ x w, f_M_measure_69 x w = f_M_whole w x := fun x w => bi_id (fun _ _ => by rfl)
  rw [f_M_measure, m_kind hM ha, bi_s, ite_p e1, ite_p e2, ite_p e3, ite_p e0]
  unfold zlen
  by_cases c1 : zk t = 1
  · rw [if_pos c1, if_pos (Or.inl c1)]
    exact mP_er hM
  · rw [if_neg c1]
    by_cases c2 : zk t = 2
    · rw [if_pos c2, if_pos (Or.inr c2)]
      exact mP_er hM
    · rw [if_neg c2, if_neg (show ¬ (zk t = 1 ∨ zk t = 2) by omega)]
      by_cases c3 : zk t = 3
      · have b1 := zok_b (ha.2.2.2.2.2.2.1 c3)
        have hs := zsg_b (zv t - 0)
        have ez : (0 ≤ lg_cmp (zK (zv t)) 0) = (0 ≤ zv t) := by
          rw [zkl_0, zK_cmp (by omega) (by omega) (by omega) (by omega), zl_0, zI_J 0, zJ_le (by omega) (by omega) (by omega) (by omega), show ((0 : Nat) : Int) = 0 from rfl, zsg_nn, Int.sub_zero]
        rw [if_pos c3, if_pos c3, m_num hM ha c3, bi_s, ite_p ez]
        by_cases c : 0 ≤ zv t
        · rw [if_pos c, if_neg (by omega), m_num hM ha c3, bi_s, e48]
          exact mP_le (m_decimal hM (by omega) (by omega) (by omega)) (by omega)
        · have hn : -(zK (zv t)) = zK (-zv t) := (Int64.ofInt_neg (zv t)).symm
          rw [if_neg c, if_pos (by omega), m_num hM ha c3, bi_s, e48, hn]
          exact mP_le (m_decimal hM (by omega) (by omega) (by omega)) (by omega)
      · rw [if_neg c3, if_neg c3, ← zmkN_w (show zl t ≤ 999999999 by omega)]
        by_cases c0 : zk t = 0
        · have h0 := ha.2.2.2.2.2.1 (by omega)
          rw [if_pos c0, e69, h0, zkl_0]
          exact mP_le (m_whole hM (w := ((0 : Nat) : Int)) (by omega) (by omega) (by omega)) (by omega)
        · rw [if_neg c0, m_size hM ha, bi_s, e69, zI_64 (by omega)]
          exact mP_le (m_whole hM (by omega) (by omega) (by omega)) (by omega)
/-- sorting -/
def mI3 (v : mS) (T p k : Nat) (f : Nat → zT) : Prop := (∀ j, j < p → ∃ b, v 10 j = zI b ∧ zU (v 6) T b (f j)) ∧ ∀ j, p < j → j ≤ k → ∃ b, v 10 j = zI b ∧ zU (v 6) T b (f (j - 1))
theorem m_sort_in {K : Int32 → Int32 → Int32 → mS → Option (Int32 × mS)} {k w n : Nat} {x : zT} (hk : k < 12) {f : Nat → zT} : ∀ (p q : Nat) (v : mS), mM v T → zU (v 6) T w x → p ≤ k → p < q → mI3 v T p k f → ∃ v', f_M_sorted_24 K q (zI a) (zI n) (zI k) (zI w) (zI p) v = f_M_sorted_69 K (zI a) (zI n) (zI k) (zI w) (zI (zplace f x p)) v' ∧ mM v' T ∧ mE v T v' T ∧ v' 0 21 = v 0 21 ∧ mI3 v' T (zplace f x p) k f ∧ zplace f x p ≤ p ∧ v' 6 = v 6 := by
  intro p
  induction p with
  | zero =>
    intro q v hM hw hp hq h3
    obtain ⟨q, rfl, -⟩ := suc_of hq
    refine ⟨v, ?_, hM, mE.rf, rfl, h3, Nat.le_refl _, rfl⟩
    rw [f_M_sorted_24, zl_0, iI_le (by omega) (by omega), if_pos (by omega)]
    rfl
  | succ p ih =>
    intro q v hM hw hp hq h3
    obtain ⟨q, rfl, hq⟩ := suc_of hq
    have hq := Nat.lt_of_succ_lt_succ hq
    obtain ⟨b, eb, hb⟩ := h3.1 p (by omega)
    have hr := zcmp_r 6 (f p) x
    obtain ⟨v1, e, hD⟩ := m_ord hM hb hw
    have hM1 := hD.M hM
    have h10 : v1 10 = v 10 := hD.1 10 (by decide) (by decide) (by decide)
    have e1 : zI (p + 1) - 1 = zI p := by rw [zl_1, zI_sub (by omega)]; rfl
    have hle : (zJ (zcmp 6 (f p) x) ≤ 0) = (zcmp 6 (f p) x ≤ 0) := by rw [zl_0, zI_J, zJ_le (by omega) (by omega) (by omega) (by omega)] <;> rfl
    have e0 : ¬ zI (p + 1) ≤ 0 := by rw [zl_0, zI_le (by omega) (by omega)]; omega
    have h3' : mI3 v1 T (p + 1) k f := ⟨fun j hj => by
      obtain ⟨w2, ew2, hw2⟩ := h3.1 j hj
      exact ⟨w2, by rw [h10]; exact ew2, by rw [hD.h]; exact hw2⟩, fun j hj hjk => by
      obtain ⟨w2, ew2, hw2⟩ := h3.2 j hj hjk
      exact ⟨w2, by rw [h10]; exact ew2, by rw [hD.h]; exact hw2⟩⟩
    rw [f_M_sorted_24, if_neg e0, e1, gd_I (by omega) (by omega), zI_toNat (by omega), eb, e, bi_s, ite_p hle]
    simp only [zplace]
    by_cases c : 0 < zcmp 6 (f p) x
    · rw [if_neg (by omega), if_pos c, gd_I (by omega) (by omega), gd_I (by omega) (by omega), nm_s, nm_s, zI_toNat (by omega), zI_dec (by omega), show p + 1 - 1 = p by omega, h10, eb]
      obtain ⟨v', f1, f2, f3, f4, f5, f6, f7⟩ := ih q (sU v1 10 (p + 1) (zI b)) (mM_10 hM1) (zU_10 (by rw [hD.h]; exact hw)) (by omega) hq ⟨fun j hj => by
        obtain ⟨w2, ew2, hw2⟩ := h3'.1 j (by omega)
        exact ⟨w2, by rw [sU_k (by omega)]; exact ew2, zU_10 hw2⟩, fun j hj hjk => by
        by_cases cj : j = p + 1
        · subst cj
          exact ⟨b, sU_hit, by rw [show p + 1 - 1 = p by omega]; exact zU_10 (by rw [hD.h]; exact hb)⟩
        · obtain ⟨w2, ew2, hw2⟩ := h3'.2 j (by omega) hjk
          exact ⟨w2, by rw [sU_k cj]; exact ew2, zU_10 hw2⟩⟩
      refine ⟨v', f1, f2, (hD.E.tr mE_10).tr f3, ?_, f5, by omega, ?_⟩
      · rw [f4, sU_j (by decide)]; exact hD.2 21 (by decide)
      · rw [f7, sU_j (by decide), hD.h]
    · rw [if_pos (by omega), if_neg c]
      exact ⟨v1, rfl, hM1, hD.E, hD.2 21 (by decide), h3', Nat.le_refl _, hD.h⟩
theorem m_sort_l (kt : zk t = 5) (hT : T + 16 ≤ 63900) : ∀ (m q k : Nat) (v : mS), mM v T → zU (v 6) T a t → k + m = zl t → m < q → mI1 v T (k, zsrt t k) → mP (f_M_sorted_8 q (zI a) (zI (zl t)) (zI k) v) v T 16 (zmkA (zl t) (zsrt t (zl t))) := by
  intro m
  induction m with
  | zero =>
    intro q k v hM ha hk hq h1
    obtain ⟨q, rfl, -⟩ := suc_of hq
    have lt := zwf_l ha.2
    have hkt : k = zl t := by omega
    rw [f_M_sorted_8, iI_le (by omega) (by omega), if_pos (by omega), bi_id (fun _ _ => by rfl), ← hkt]
    exact m_array hM (by omega) h1 hT
  | succ m ih =>
    intro q k v hM ha hk hq h1
    obtain ⟨q, rfl, hq⟩ := suc_of hq
    have hq := Nat.lt_of_succ_lt_succ hq
    have lt := zwf_l ha.2
    obtain ⟨w, ew, hw⟩ := m_item hM ha (by omega) (show k < zl t by omega)
    obtain ⟨v', f1, f2, f3, f4, f5, f6, f7⟩ := m_sort_in (a := a) (n := zl t) (K := f_M_sorted_8 q) (f := zsrt t k) (x := zc t k) (show k < 12 by omega) k fu v hM hw (Nat.le_refl _) (fu_lt (by omega)) ⟨fun j hj => h1 j hj, fun j hj hjk => absurd hj (by omega)⟩
    rw [f_M_sorted_8, iI_le (by omega) (by omega), if_neg (by omega), ew, bi_s, f1, f_M_sorted_69, gd_I (by omega) (by omega), nm_s, nm_s, zI_toNat (by omega), zl_1, zI_add]
    refine mP_E (f3.tr mE_10) (by rw [sU_j (by decide)]; exact f4) (ih q (k + 1) _ (mM_10 f2) (zU_10 (by rw [f7]; exact ha)) (by omega) hq ?_) (Nat.le_refl _)
    intro j hj
    try dsimp only at hj ⊢
    have e9 : zsrt t (k + 1) j = if j < zplace (zsrt t k) (zc t k) k then zsrt t k j else if j = zplace (zsrt t k) (zc t k) k then zc t k else zsrt t k (j - 1) := rfl
    rw [e9]
    by_cases c1 : j < zplace (zsrt t k) (zc t k) k
    · obtain ⟨b, eb, hb⟩ := f5.1 j c1
      refine ⟨b, ?_, ?_⟩
      · rw [sU_k (by omega)]; exact eb
      · rw [if_pos c1]; exact zU_10 hb
    · by_cases c2 : j = zplace (zsrt t k) (zc t k) k
      · refine ⟨w, ?_, ?_⟩
        · rw [c2]; exact sU_hit
        · rw [if_neg c1, if_pos c2]; exact zU_10 (by rw [f7]; exact hw)
      · obtain ⟨b, eb, hb⟩ := f5.2 j (by omega) (by omega)
        refine ⟨b, ?_, ?_⟩
        · rw [sU_k (by omega)]; exact eb
        · rw [if_neg c1, if_neg c2]; exact zU_10 hb
theorem m_sorted (hM : mM v T) (ha : zU (v 6) T a t) (kt : zk t = 5) (hT : T + 16 ≤ 63900) : mP (f_M_sorted v (zI a)) v T 16 (zsort t) := by
  have lt := zwf_l ha.2
  rw [f_M_sorted, m_size hM ha, bi_s, zl_0]
  unfold zsort
  rw [if_pos kt]
  exact m_sort_l kt hT (zl t) fu 0 v hM ha (by omega) (fu_lt (by omega)) (fun k hk => absurd hk (by dsimp only; omega))
end MC
