/-! the class's Values: sums of texts and arrays, and the like -/
section CY
variable {g : Nat → Nat} {v : mS} {T a b : Nat} {t u : zT}
theorem zRX_mk {c : Nat → Int32} {top : Nat} {x : zN} (h1 : a + 4 + x.1 ≤ top) (h2 : c a = zI 4) (h3 : c (a + 1) = zI x.1) (h4 : c (a + 2) = zI 1) (h5 : c (a + 3) = zI 0) (h6 : ∀ k, k < x.1 → c (a + 4 + k) = zI (x.2 k)) (h118 : 118 ≤ a) : zRX c top a x := ⟨h1, h2, h3, h4, h5, h6, fun h => absurd h (by omega)⟩
theorem c_longer (hM : zM g v T) {x : zN} {ch : Nat} (hx : zRX (v 4) T a x) (hx2 : ztx x) (hl : x.1 ≤ 11) (hc1 : 32 ≤ ch) (hc2 : ch ≤ 126) (hT : T + 16 ≤ 65000) : ∃ g' v', f_V_longer g v (zI a) (zI ch) = some (.inl (zI T), g', v') ∧ zM g' v' (T + (4 + (x.1 + 1))) ∧ zE g v T g' v' (T + (4 + (x.1 + 1))) ∧ zRX (v' 4) (T + (4 + (x.1 + 1))) T (x.1 + 1, fun k => if k < x.1 then x.2 k else ch) := by
  obtain ⟨g', v', ho, hm, he, e0, e1, e2, e3, r2, r3⟩ := c_open hM (kind := 4) (len := x.1 + 1) (c := 4 + (x.1 + 1)) (by omega) (by simp; omega) (by simp) (by omega)
  obtain ⟨m1, m2, m3, m4, m5, m6⟩ := id hm
  obtain ⟨n1, n2, n3, n4, n5, n6⟩ := id hM
  have hx' := he.X hx
  refine ⟨g', sU (sC v' 4 4 (a + 4) (T + 4) x.1) 4 (T + 4 + x.1) (zI ch), ?_, zM_w hm ?_ ?_, zE_w he ?_ ?_, ?_⟩
  · refine mg_s ?_ he.L
    rw [c_lenX hM hx, bi_s, zl_1, zI_add]
    have ho : f_V_open g v 4 (zI (x.1 + 1)) = _ := ho
    rw [ho]
    refine bo_l ?_ (Nat.le_refl _)
    have hx1 := hx.1
    rw [f_V_longer_14, zl_4, zI_add, zI_add, zI_add, gd_t (cpB_I (by omega) (by omega) (by omega) (by omega)), nm_s, zI_toNat (by omega), zI_toNat (by omega), zI_toNat (by omega), gd_I (by omega) (by omega), nm_s, zI_toNat (by omega)]
  · rw [sU_j (by decide), sC_j (by decide)]
  · intro i hi
    rw [sU_k (by omega), sC_out (by omega)]
  · intro i hi
    rw [sU_k (by omega), sC_out (by omega)]
  · intro j _ _ _ j4
    rw [sU_j j4, sC_j j4]
  · refine zRX_mk (by dsimp only; omega) ?_ ?_ ?_ ?_ ?_ n2
    · rw [sU_k (by omega), sC_out (by omega)]; exact e0
    · rw [sU_k (by omega), sC_out (by omega)]; exact e1
    · rw [sU_k (by omega), sC_out (by omega)]; exact e2
    · rw [sU_k (by omega), sC_out (by omega)]; exact e3
    · intro k hk
      try dsimp only at hk ⊢
      by_cases c : k < x.1
      · rw [if_pos c, sU_k (by omega), sC_in (by omega) (by omega), ← hx'.2.2.2.2.2.1 k c]
        congr 1
        omega
      · have : k = x.1 := by omega
        subst this
        rw [if_neg c, sU_hit]
theorem c_joinX (hM : zM g v T) (ha : zV (v 4) T a t) (hb : zV (v 4) T b u) (kt : zk t = 4) (ku : zk u = 4) (hT : T + 16 ≤ 65000) : zP (f_V_joined g v (zI a) (zI b)) g v T 16 (zmkX (zaddX (zl t, zx t) (zl u, zx u))) := by
  refine zP_mg ?_
  have la := zwf_l ha.2
  have lb := zwf_l hb.2
  rw [c_kind hM ha, bi_s, c_len hM ha, bi_s, c_len hM hb, bi_s, zI_add, kt]
  unfold zmkX
  have hz1 : (zaddX (zl t, zx t) (zl u, zx u)).1 = zl t + zl u := rfl
  by_cases c : zl t + zl u ≤ 12
  · rw [if_pos (by omega)]
    obtain ⟨g', v', ho, hm, he, e0, e1, e2, e3, r2, r3⟩ := c_open hM (kind := 4) (len := zl t + zl u) (c := 4 + (zl t + zl u)) (by omega) (by simpa using c) (by simp) (by omega)
    obtain ⟨m1, m2, m3, m4, m5, m6⟩ := id hm
    have n2 := hM.2.1
    refine zP_open ho ?_ (show T + (4 + (zl t + zl u)) ≤ T + 16 by omega)
    have ha' := he.V ha
    have hb' := he.V hb
    obtain ⟨xa, xa2⟩ := zX_V ha kt
    obtain ⟨xb, xb2⟩ := zX_V hb ku
    have xa1 := xa.1
    have xb1 := xb.1
    dsimp only at xa1 xb1
    -- the two copies
    have hm1 : zM g' (sC v' 4 4 (a + 4) (T + 4) (zl t)) (T + (4 + (zl t + zl u))) := zM_w hm (sC_j (by decide)) (fun i hi => sC_out (by omega))
    have he1 : zE g v T g' (sC v' 4 4 (a + 4) (T + 4) (zl t)) (T + (4 + (zl t + zl u))) := zE_w he (fun i hi => sC_out (by omega)) (fun j _ _ _ j4 => sC_j j4)
    have hm2 : zM g' (sC (sC v' 4 4 (a + 4) (T + 4) (zl t)) 4 4 (b + 4) (T + 4 + zl t) (zl u)) (T + (4 + (zl t + zl u))) := zM_w hm1 (sC_j (by decide)) (fun i hi => sC_out (by omega))
    have he2 : zE g v T g' (sC (sC v' 4 4 (a + 4) (T + 4) (zl t)) 4 4 (b + 4) (T + 4 + zl t) (zl u)) (T + (4 + (zl t + zl u))) := zE_w he1 (fun i hi => sC_out (by omega)) (fun j _ _ _ j4 => sC_j j4)
    have hc : f_V_joined_20 (zI a) (zI b) (zI T) g' v' = some (.inl (zI T), g', sC (sC v' 4 4 (a + 4) (T + 4) (zl t)) 4 4 (b + 4) (T + 4 + zl t) (zl u)) := by
      rw [f_V_joined_20, c_len hm ha', bi_s, zl_4, zI_add, zI_add, zI_add, gd_t (cpB_I (by omega) (by omega) (by omega) (by omega)), nm_s, zI_toNat (by omega), zI_toNat (by omega), zI_toNat (by omega), c_len hm1 (he1.V ha), bi_s, c_len hm1 (he1.V hb), bi_s, zI_add, gd_t (cpB_I (by omega) (by omega) (by omega) (by omega)), nm_s, zI_toNat (by omega), zI_toNat (by omega), zI_toNat (by omega), c_kind hm2 (he2.V ha), bi_s, kt, zl_5, iI_eq (by omega) (by omega), if_neg (by omega)]
      rfl
    rw [hc]
    refine ⟨_, hm2, he2, T, rfl, zV_X (zRX_mk ?_ ?_ ?_ ?_ ?_ ?_ n2) ?_⟩
    · rw [hz1]; omega
    · rw [sC_out (by omega), sC_out (by omega)]; exact e0
    · rw [sC_out (by omega), sC_out (by omega)]; exact e1
    · rw [sC_out (by omega), sC_out (by omega)]; exact e2
    · rw [sC_out (by omega), sC_out (by omega)]; exact e3
    · intro k hk
      rw [hz1] at hk
      have h9 : (zaddX (zl t, zx t) (zl u, zx u)).2 k = if k < zl t then zx t k else zx u (k - zl t) := rfl
      rw [h9]
      by_cases ck : k < zl t
      · rw [if_pos ck, sC_out (by omega), sC_in (by omega) (by omega), show a + 4 + (T + 4 + k - (T + 4)) = a + 4 + k by omega, he.2.2.2.2.1 _ (by omega)]
        exact xa.2.2.2.2.2.1 k ck
      · rw [if_neg ck, sC_in (by omega) (by omega), sC_out (by omega), show b + 4 + (T + 4 + k - (T + 4 + zl t)) = b + 4 + (k - zl t) by omega, he.2.2.2.2.1 _ (by omega)]
        exact xb.2.2.2.2.2.1 (k - zl t) (by dsimp only; omega)
    · refine ⟨by omega, fun k hk => ?_⟩
      rw [hz1] at hk
      have h9 : (zaddX (zl t, zx t) (zl u, zx u)).2 k = if k < zl t then zx t k else zx u (k - zl t) := rfl
      rw [h9]
      by_cases ck : k < zl t
      · rw [if_pos ck]; exact xa2.2 k ck
      · rw [if_neg ck]; exact xb2.2 (k - zl t) (by dsimp only; omega)
  · rw [if_neg (by omega), c_open_no (by omega) (by omega) (by simp; omega), bo_r]
    exact zP_rm hM
theorem c_joinA (hM : zM g v T) (ha : zV (v 4) T a t) (hb : zV (v 4) T b u) (kt : zk t = 5) (ku : zk u = 5) (hT : T + 16 ≤ 65000) : zP (f_V_joined g v (zI a) (zI b)) g v T 16 (zmkA (zl t + zl u) (zcat (zl t) (zc t) (zc u))) := by
  refine zP_mg ?_
  have la := zwf_l ha.2
  have lb := zwf_l hb.2
  rw [c_kind hM ha, bi_s, c_len hM ha, bi_s, c_len hM hb, bi_s, zI_add, kt]
  by_cases c : zl t + zl u ≤ 12
  · obtain ⟨g', v', ho, hm, he, e0, e1, e2, e3, r2, r3⟩ := c_open hM (kind := 5) (len := zl t + zl u) (c := 4 + (zl t + zl u)) (by omega) (by simpa using c) (by simp) (by omega)
    obtain ⟨m1, m2, m3, m4, m5, m6⟩ := id hm
    have n2 := hM.2.1
    refine zP_open ho ?_ (show T + (4 + (zl t + zl u)) ≤ T + 16 by omega)
    have ha' := he.V ha
    have hb' := he.V hb
    have xa1 := (ha.1.2.2.2.2.2.2.2.1 (by omega)).1
    have xb1 := (hb.1.2.2.2.2.2.2.2.1 (by omega)).1
    have hm1 : zM g' (sC v' 4 4 (a + 4) (T + 4) (zl t)) (T + (4 + (zl t + zl u))) := zM_w hm (sC_j (by decide)) (fun i hi => sC_out (by omega))
    have he1 : zE g v T g' (sC v' 4 4 (a + 4) (T + 4) (zl t)) (T + (4 + (zl t + zl u))) := zE_w he (fun i hi => sC_out (by omega)) (fun j _ _ _ j4 => sC_j j4)
    have hm2 : zM g' (sC (sC v' 4 4 (a + 4) (T + 4) (zl t)) 4 4 (b + 4) (T + 4 + zl t) (zl u)) (T + (4 + (zl t + zl u))) := zM_w hm1 (sC_j (by decide)) (fun i hi => sC_out (by omega))
    have he2 : zE g v T g' (sC (sC v' 4 4 (a + 4) (T + 4) (zl t)) 4 4 (b + 4) (T + 4 + zl t) (zl u)) (T + (4 + (zl t + zl u))) := zE_w he1 (fun i hi => sC_out (by omega)) (fun j _ _ _ j4 => sC_j j4)
    have hc : f_V_joined_20 (zI a) (zI b) (zI T) g' v' = f_V_closed g' (sC (sC v' 4 4 (a + 4) (T + 4) (zl t)) 4 4 (b + 4) (T + 4 + zl t) (zl u)) (zI T) := by
      rw [f_V_joined_20, c_len hm ha', bi_s, zl_4, zI_add, zI_add, zI_add, gd_t (cpB_I (by omega) (by omega) (by omega) (by omega)), nm_s, zI_toNat (by omega), zI_toNat (by omega), zI_toNat (by omega), c_len hm1 (he1.V ha), bi_s, c_len hm1 (he1.V hb), bi_s, zI_add, gd_t (cpB_I (by omega) (by omega) (by omega) (by omega)), nm_s, zI_toNat (by omega), zI_toNat (by omega), zI_toNat (by omega), c_kind hm2 (he2.V ha), bi_s, kt, zl_5, if_pos rfl, bo_id (fun r g v => by rfl)]
    rw [hc]
    refine c_closeA n2 hm2 he2 c ?_ ?_ (fun k hk => ?_)
    · rw [sC_out (by omega), sC_out (by omega)]; exact e0
    · rw [sC_out (by omega), sC_out (by omega)]; exact e1
    · unfold zcat
      by_cases ck : k < zl t
      · obtain ⟨q, e, hq⟩ := zV_kid ha (by omega) ck
        refine ⟨q, ?_, ?_⟩
        · rw [sC_out (by omega), sC_in (by omega) (by omega), show a + 4 + (T + 4 + k - (T + 4)) = a + 4 + k by omega, he.2.2.2.2.1 _ (by omega)]
          exact e
        · rw [if_pos ck]; exact hq
      · obtain ⟨q, e, hq⟩ := zV_kid hb (by omega) (show k - zl t < zl u by omega)
        refine ⟨q, ?_, ?_⟩
        · rw [sC_in (by omega) (by omega), sC_out (by omega), show b + 4 + (T + 4 + k - (T + 4 + zl t)) = b + 4 + (k - zl t) by omega, he.2.2.2.2.1 _ (by omega)]
          exact e
        · rw [if_neg ck]; exact hq
  · unfold zmkA
    rw [c_open_no (by omega) (by omega) (by simp; omega), bo_r, if_neg (by omega)]
    exact zP_rm hM
end CY
