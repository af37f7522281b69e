/-! the reference: keys and sums of arrays -/
section MK
variable {v : mS} {T a b : Nat} {t u : zT}
theorem mE_11 {n : Nat} {x : Int32} : mE v T (sU v 11 n x) T := ⟨Nat.le_refl _, fun i _ => by rw [sU_j (by decide)], fun j _ _ _ j11 _ _ => sU_j j11, fun k _ _ _ => by rw [sU_j (by decide)]⟩
theorem mM_11 {n : Nat} {x : Int32} (hM : mM v T) : mM (sU v 11 n x) T := mM_w hM (by rw [sU_j (by decide)]) (fun i _ => by rw [sU_j (by decide)])
theorem zU_11 {n : Nat} {x : Int32} (h : zU (v 6) T a t) : zU (sU v 11 n x 6) T a t := by rw [sU_j (by decide)]; exact h
theorem m_key_47 {n : Nat} {f : Nat → zT} (hn : n ≤ 12) (hT : T + 16 ≤ 63900) : ∀ (m q k : Nat) (v : mS), mM v T → k + m = n → m < q → (∀ j, j < n → ∃ b, v 11 (32 + j) = zI b ∧ zU (v 6) T b (f j)) → mI1 v T (k, f) → mP (f_M_keys_47 q (zI n) (zI k) v) v T 16 (zmkA n f) := by
  intro m
  induction m with
  | zero =>
    intro q k v hM hk hq h11 h1
    obtain ⟨q, rfl, -⟩ := suc_of hq
    have hkt : k = n := by omega
    rw [f_M_keys_47, iI_le (by omega) (by omega), if_pos (by omega), bi_id (fun _ _ => by rfl)]
    rw [hkt] at h1
    exact m_array hM (by omega) h1 hT
  | succ m ih =>
    intro q k v hM hk hq h11 h1
    obtain ⟨q, rfl, hq⟩ := suc_of hq
    have hq := Nat.lt_of_succ_lt_succ hq
    obtain ⟨b, eb, hb⟩ := h11 k (by omega)
    rw [f_M_keys_47, iI_le (by omega) (by omega), if_neg (by omega), zl_32, zI_add, gd_I (by omega) (by omega), gd_I (by omega) (by omega), nm_s, nm_s, zI_toNat (by omega), zI_toNat (by omega), eb, zl_1, zI_add]
    refine mP_E mE_10 (by rw [sU_j (by decide)]) (ih q (k + 1) _ (mM_10 hM) (by omega) hq (fun j hj => ?_) (mI1_s2 h1 hb)) (Nat.le_refl _)
    obtain ⟨b2, eb2, hb2⟩ := h11 j hj
    exact ⟨b2, by rw [sU_j (by decide)]; exact eb2, zU_10 hb2⟩
theorem m_key_19 (h5 : 5 ≤ zk t) : ∀ (m q k : Nat) (v : mS) (T : Nat), mM v T → zU (v 6) T a t → k + m = zl t → m < q → T + 6 * m + 16 ≤ 63900 → (∀ j, j < k → ∃ b, v 11 (32 + j) = zI b ∧ zU (v 6) T b (zkf t j)) → mP (f_M_keys_19 q (zI a) (zI (zl t)) (zI k) v) v T (6 * m + 16) (zmkA (zl t) (zkf t)) := by
  intro m
  induction m with
  | zero =>
    intro q k v T hM ha hk hq hT h11
    obtain ⟨q, rfl, -⟩ := suc_of hq
    have lt := zwf_l ha.2
    rw [f_M_keys_19, iI_le (by omega) (by omega), if_pos (by omega), zl_0]
    exact mP_le (m_key_47 lt (by omega) (zl t) fu 0 v hM (by omega) (fu_lt (by omega)) (fun j hj => h11 j (by omega)) (fun k hk => absurd hk (by dsimp only; omega))) (by omega)
  | succ m ih =>
    intro q k v T hM ha hk hq hT h11
    obtain ⟨q, rfl, hq⟩ := suc_of hq
    have hq := Nat.lt_of_succ_lt_succ hq
    have lt := zwf_l ha.2
    have ka := ha.2.1
    have hst : ∃ p v1 T1, f_M_stepTo v (zI a) (zI k) = some (zI p, v1) ∧ mM v1 T1 ∧ mE v T v1 T1 ∧ T1 ≤ T + 6 ∧ zU (v1 6) T1 p (zkf t k) ∧ v1 0 21 = v 0 21 ∧ v1 11 = v 11 := by
      rw [f_M_stepTo, m_kind hM ha, bi_s, zl_6, iI_eq (by omega) (by omega)]
      unfold zkf
      by_cases c6 : zk t = 6
      · obtain ⟨p, ep, hp, hp2⟩ := m_name hM ha c6 (show k < zl t by omega)
        refine ⟨p, v, T, ?_, hM, mE.rf, by omega, ?_, rfl, rfl⟩
        · rw [if_pos c6, ep, bi_s]; rfl
        · rw [if_pos c6]; exact zU_Y hp hp2
      · obtain ⟨v1, w1, w2, w3, w4, w5, w6⟩ := m_whole_ok hM (n := k) (by omega) (by omega)
        refine ⟨T, v1, T + 6, ?_, w2, w3, by omega, ?_, w5, w6 11 (by decide) (by decide)⟩
        · rw [if_neg c6, zI_64 (by omega), w1, bi_s]; rfl
        · rw [if_neg c6]; exact w4
    obtain ⟨p, v1, T1, s1, s2, s3, s4, s5, s6, s7⟩ := hst
    rw [f_M_keys_19, iI_le (by omega) (by omega), if_neg (by omega), s1, bi_s, zl_32, zI_add, gd_I (by omega) (by omega), nm_s, nm_s, zI_toNat (by omega), zl_1, zI_add]
    refine mP_E (s3.tr mE_11) (by rw [sU_j (by decide)]; exact s6) (ih q (k + 1) _ T1 (mM_11 s2) (zU_11 (s3.U ha)) (by omega) hq (by omega) (fun j hj => ?_)) (by omega)
    by_cases c : j = k
    · subst c
      exact ⟨p, sU_hit, zU_11 s5⟩
    · obtain ⟨b2, eb2, hb2⟩ := h11 j (by omega)
      exact ⟨b2, by rw [sU_k (by omega), s7]; exact eb2, zU_11 (s3.U hb2)⟩
theorem m_keys (hM : mM v T) (ha : zU (v 6) T a t) (hT : T + 88 ≤ 63900) : mP (f_M_keys v (zI a)) v T 88 (zkeys t) := by
  have ka := ha.2.1
  have lt := zwf_l ha.2
  rw [f_M_keys, m_kind hM ha, bi_s, zl_5, iI_le (by omega) (by omega)]
  unfold zkeys
  by_cases c : 5 ≤ zk t
  · rw [if_pos c, if_neg (by omega), m_size hM ha, bi_s, zl_0]
    exact mP_le (m_key_19 c (zl t) fu 0 v T hM ha (by omega) (fu_lt (by omega)) (by omega) (fun j hj => absurd hj (by omega))) (by omega)
  · rw [if_neg c, if_pos (by omega)]
    exact mP_er hM
/-- a sum that may have found no room on its way -/
def mPw (F : Option (Int32 × mS)) (v : mS) (T cost : Nat) (sp : Option (Nat ⊕ zT)) : Prop := ∃ v' T', mM v' T' ∧ mE v T v' T' ∧ T' ≤ T + cost ∧ (match sp with
  | none => (∃ x, F = some (x, v')) ∧ v' 0 21 = 1
  | some w => mPr F v v' T' (some w))
theorem m_sum_dead (kt : zk t = 5) : ∀ (m q k p T : Nat) (z : zT) (v : mS), mM v T → zU (v 6) T a t → zU (v 6) T p z → v 0 21 = 1 → k + m = zl t → m < q → T + 16 * m ≤ 63900 → mPw (f_M_summed_4 q (zI a) (zI p) (zI k) v) v T (16 * m) none := by
  intro m
  induction m with
  | zero =>
    intro q k p T z v hM ha hp h21 hk hq hT
    obtain ⟨q, rfl, -⟩ := suc_of hq
    have lt := zwf_l ha.2
    refine ⟨v, T, hM, mE.rf, by omega, ⟨zI p, ?_⟩, h21⟩
    rw [f_M_summed_4, m_size hM ha, bi_s, iI_le (by omega) (by omega), if_pos (by omega)]
    rfl
  | succ m ih =>
    intro q k p T z v hM ha hp h21 hk hq hT
    obtain ⟨q, rfl, hq⟩ := suc_of hq
    have hq := Nat.lt_of_succ_lt_succ hq
    have lt := zwf_l ha.2
    have hpT := hp.1.2.1
    have hT2 := hM.2.2.1
    obtain ⟨w, ew, hw⟩ := m_item hM ha (by omega) (show k < zl t by omega)
    have e1 : ¬ zI p < 0 := by rw [zl_0, zI_lt (by omega) (by omega)]; omega
    obtain ⟨v1, T1, a1, a2, a3, a4⟩ := m_added hM hp hw (by omega)
    have hgo : ∀ (p1 : Nat) (z1 : zT), f_M_added v (zI p) (zI w) = some (zI p1, v1) → zU (v1 6) T1 p1 z1 → v1 0 21 = 1 → mPw (f_M_summed_4 (q + 1) (zI a) (zI p) (zI k) v) v T (16 * (m + 1)) none := by
      intro p1 z1 e2 h2 h3
      obtain ⟨v2, T2, b1, b2, b3, b4, b5⟩ := ih q (k + 1) p1 T1 z1 v1 a1 (a2.U ha) h2 h3 (by omega) hq (by omega)
      refine ⟨v2, T2, b1, a2.tr b2, by omega, ?_, b5⟩
      obtain ⟨x, ex⟩ := b4
      refine ⟨x, ?_⟩
      rw [f_M_summed_4, m_size hM ha, bi_s, iI_le (by omega) (by omega), if_neg (by omega), if_neg e1, ew, bi_s, e2, bi_s, nm_s, zl_1, zI_add]
      exact ex
    cases hs : zadd z (zc t k) with
    | none =>
      rw [hs] at a4
      exact hgo 4 (zW 0) a4.1 (mM_W a1 (show 0 < 3 by omega)) a4.2
    | some r =>
      cases r with
      | inr z1 =>
        rw [hs] at a4
        obtain ⟨p1, e2, h2, h3⟩ := a4
        exact hgo p1 z1 e2 h2 (h3.trans h21)
      | inl e =>
        rw [hs] at a4
        have he := zadd_e hs
        subst he
        refine ⟨v1, T1, a1, a2, by omega, ⟨-1, ?_⟩, a4.2.trans h21⟩
        have hq0 : ∃ q', q = q' + 1 := ⟨q - 1, by omega⟩
        obtain ⟨q', rfl⟩ := hq0
        have e2 : f_M_added v (zI p) (zI w) = some (-1, v1) := a4.1
        rw [f_M_summed_4, m_size hM ha, bi_s, iI_le (by omega) (by omega), if_neg (by omega), if_neg e1, ew, bi_s, e2, bi_s, nm_s, zl_1, zI_add, f_M_summed_4, m_size a1 (a2.U ha), bi_s, if_pos (show -zI 1 < 0 by decide)]
        split <;> rfl
theorem m_sum_l (kt : zk t = 5) : ∀ (m q k p T : Nat) (z : zT) (v : mS), mM v T → zU (v 6) T a t → zU (v 6) T p z → zsuml t k = some (.inr z) → k + m = zl t → m < q → T + 16 * m ≤ 63900 → mPw (f_M_summed_4 q (zI a) (zI p) (zI k) v) v T (16 * m) (zsuml t (zl t)) := by
  intro m
  induction m with
  | zero =>
    intro q k p T z v hM ha hp hz hk hq hT
    obtain ⟨q, rfl, -⟩ := suc_of hq
    have lt := zwf_l ha.2
    have e : k = zl t := by omega
    rw [← e, hz]
    refine ⟨v, T, hM, mE.rf, by omega, p, ?_, hp, rfl⟩
    rw [f_M_summed_4, m_size hM ha, bi_s, iI_le (by omega) (by omega), if_pos (by omega)]
    rfl
  | succ m ih =>
    intro q k p T z v hM ha hp hz hk hq hT
    obtain ⟨q, rfl, hq⟩ := suc_of hq
    have hq := Nat.lt_of_succ_lt_succ hq
    have lt := zwf_l ha.2
    have hpT := hp.1.2.1
    have hT2 := hM.2.2.1
    obtain ⟨w, ew, hw⟩ := m_item hM ha (by omega) (show k < zl t by omega)
    have e1 : ¬ zI p < 0 := by rw [zl_0, zI_lt (by omega) (by omega)]; omega
    obtain ⟨v1, T1, a1, a2, a3, a4⟩ := m_added hM hp hw (by omega)
    have hs1 : zsuml t (k + 1) = zadd z (zc t k) := by simp only [zsuml]; rw [hz]
    have hun : ∀ (x : Int32), f_M_added v (zI p) (zI w) = some (x, v1) → f_M_summed_4 (q + 1) (zI a) (zI p) (zI k) v = f_M_summed_4 q (zI a) x (zI (k + 1)) v1 := by
      intro x e2
      rw [f_M_summed_4, m_size hM ha, bi_s, iI_le (by omega) (by omega), if_neg (by omega), if_neg e1, ew, bi_s, e2, bi_s, nm_s, zl_1, zI_add]
    cases hs : zadd z (zc t k) with
    | none =>
      rw [hs] at a4 hs1
      have h9 := zsuml_st (t := t) (k := k + 1) (fun z hz => by rw [hs1] at hz; cases hz) (zl t - (k + 1))
      rw [show k + 1 + (zl t - (k + 1)) = zl t by omega] at h9
      rw [h9, hs1, hun _ a4.1]
      obtain ⟨v2, T2, b1, b2, b3, b4, b5⟩ := m_sum_dead kt m q (k + 1) 4 T1 (zW 0) v1 a1 (a2.U ha) (mM_W a1 (show 0 < 3 by omega)) a4.2 (by omega) hq (by omega)
      exact ⟨v2, T2, b1, a2.tr b2, by omega, b4, b5⟩
    | some r =>
      cases r with
      | inr z1 =>
        rw [hs] at a4 hs1
        obtain ⟨p1, e2, h2, h3⟩ := a4
        rw [hun _ e2]
        obtain ⟨v2, T2, b1, b2, b3, b4⟩ := ih q (k + 1) p1 T1 z1 v1 a1 (a2.U ha) h2 hs1 (by omega) hq (by omega)
        refine ⟨v2, T2, b1, a2.tr b2, by omega, ?_⟩
        cases hf : zsuml t (zl t) with
        | none => rw [hf] at b4; exact b4
        | some r2 =>
          rw [hf] at b4
          cases r2 with
          | inl e => exact ⟨b4.1, b4.2.trans h3⟩
          | inr t1 => obtain ⟨c1, c2, c3, c4⟩ := b4; exact ⟨c1, c2, c3, c4.trans h3⟩
      | inl e =>
        rw [hs] at a4 hs1
        have he := zadd_e hs
        subst he
        have h9 := zsuml_st (t := t) (k := k + 1) (fun z hz => by rw [hs1] at hz; cases hz) (zl t - (k + 1))
        rw [show k + 1 + (zl t - (k + 1)) = zl t by omega] at h9
        have e2 : f_M_added v (zI p) (zI w) = some (-1, v1) := a4.1
        rw [h9, hs1, hun _ e2]
        refine ⟨v1, T1, a1, a2, by omega, ?_, a4.2⟩
        have hq0 : ∃ q', q = q' + 1 := ⟨q - 1, by omega⟩
        obtain ⟨q', rfl⟩ := hq0
        rw [f_M_summed_4, m_size a1 (a2.U ha), bi_s, if_pos (show (-1 : Int32) < 0 by decide)]
        split <;> rfl
theorem m_summed (hM : mM v T) (ha : zU (v 6) T a t) (kt : zk t = 5) (hT : T + 192 ≤ 63900) : mPw (f_M_summed v (zI a)) v T 192 (zsum t) := by
  have lt := zwf_l ha.2
  unfold zsum
  rw [if_pos kt]
  obtain ⟨v', T', h1, h2, h3, h4⟩ := m_sum_l kt (zl t) fu 0 4 T (zW 0) v hM ha (mM_W hM (show 0 < 3 by omega)) rfl (by omega) (fu_lt (by omega)) (by omega)
  exact ⟨v', T', h1, h2, by omega, h4⟩
end MK
