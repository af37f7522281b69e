/-! the reference: sums -/
section MA
variable {v : mS} {T a b : Nat} {t u : zT}
theorem m_addX_l {x y : zN} {p : Nat} (hx : x.1 ≤ 12) (hy : y.1 ≤ 12) (hT : T ≤ 63900) (hp : T ≤ p) (hp2 : p + 4 + (x.1 + y.1) ≤ 63900) (ha : a + 4 + x.1 ≤ T) (hb : b + 4 + y.1 ≤ T) : ∀ (m q i : Nat) (v : mS), (∀ k, k < x.1 → v 6 (a + 4 + k) = zI (x.2 k)) → (∀ k, k < y.1 → v 6 (b + 4 + k) = zI (y.2 k)) → i + m = x.1 + y.1 → m < q → ∃ v', f_M_added_119 q (zI a) (zI b) (zI x.1) (zI y.1) (zI p) (zI i) v = some (zI p, v') ∧ (∀ j, j ≠ 6 → v' j = v j) ∧ (∀ z, z < p + 4 + i ∨ p + 4 + (x.1 + y.1) ≤ z → v' 6 z = v 6 z) ∧ ∀ k, i ≤ k → k < x.1 + y.1 → v' 6 (p + 4 + k) = zI ((zaddX x y).2 k) := by
  intro m
  induction m with
  | zero =>
    intro q i v h1 h2 hi hq
    obtain ⟨q, rfl, -⟩ := suc_of hq
    refine ⟨v, ?_, fun _ _ => rfl, fun _ _ => rfl, fun k h3 h4 => absurd h3 (by omega)⟩
    rw [f_M_added_119, zI_add, iI_le (by omega) (by omega), if_pos (by omega)]
  | succ m ih =>
    intro q i v h1 h2 hi hq
    obtain ⟨q, rfl, hq⟩ := suc_of hq
    have hq := Nat.lt_of_succ_lt_succ hq
    have hz : (zaddX x y).2 i = if i < x.1 then x.2 i else y.2 (i - x.1) := rfl
    obtain ⟨v', f1, f2, f3, f4⟩ := ih q (i + 1) (sU v 6 (p + 4 + i) (zI ((zaddX x y).2 i))) (fun k hk => by rw [sU_k (by omega)]; exact h1 k hk) (fun k hk => by rw [sU_k (by omega)]; exact h2 k hk) (by omega) hq
    refine ⟨v', ?_, ?_, ?_, ?_⟩
    · rw [f_M_added_119, zI_add, iI_le (by omega) (by omega), if_neg (by omega), iI_le (by omega) (by omega)]
      by_cases c : x.1 ≤ i
      · have hl := h2 (i - x.1) (by omega)
        rw [if_pos c, zl_4, zI_add, zI_add, zI_add, zI_add, zI_sub (by omega), show b + 4 + i - x.1 = b + 4 + (i - x.1) by omega, gd_I (by omega) (by omega), zI_toNat (by omega), hl, f_M_added_175, gd_I (by omega) (by omega), nm_s, nm_s, zI_toNat (by omega), zl_1, zI_add]
        rw [if_neg (by omega)] at hz
        rw [← hz]
        exact f1
      · have hl := h1 i (by omega)
        rw [if_neg c, zl_4, zI_add, zI_add, zI_add, zI_add, gd_I (by omega) (by omega), zI_toNat (by omega), hl, f_M_added_175, gd_I (by omega) (by omega), nm_s, nm_s, zI_toNat (by omega), zl_1, zI_add]
        rw [if_pos (by omega)] at hz
        rw [← hz]
        exact f1
    · intro j hj
      rw [f2 j hj, sU_j hj]
    · intro z hz
      rw [f3 z (by omega), sU_k (by omega)]
    · intro k h3 h4
      by_cases c : k = i
      · subst c
        rw [f3 _ (by omega), sU_hit]
      · exact f4 k (by omega) h4
theorem ztx_add {x y : zN} (hx : ztx x) (hy : ztx y) (h : x.1 + y.1 ≤ 12) : ztx (zaddX x y) := by
  refine ⟨h, fun k hk => ?_⟩
  have h9 : (zaddX x y).2 k = if k < x.1 then x.2 k else y.2 (k - x.1) := rfl
  have hk : k < x.1 + y.1 := hk
  rw [h9]
  by_cases ck : k < x.1
  · rw [if_pos ck]; exact hx.2 k ck
  · rw [if_neg ck]; exact hy.2 (k - x.1) (by omega)
def mI1 (v : mS) (T : Nat) (r : Nat × (Nat → zT)) : Prop := ∀ k, k < r.1 → ∃ b, v 10 k = zI b ∧ zU (v 6) T b (r.2 k)
theorem mI1_s {p n : Nat} {f : Nat → zT} {y : zT} (h : mI1 v T (n, f)) (hq : zU (v 6) T p y) : mI1 (sU v 10 n (zI p)) T (n + 1, va_up f n y) := by
  have e4 : sU v 10 n (zI p) 6 = v 6 := sU_j (by decide)
  intro i hi
  try dsimp only at hi ⊢
  rw [e4]
  by_cases ci : i = n
  · subst ci
    refine ⟨p, sU_hit, ?_⟩
    unfold va_up; rw [if_pos rfl]; exact hq
  · obtain ⟨w, ew, hw⟩ := h i (by dsimp only; omega)
    refine ⟨w, ?_, ?_⟩
    · rw [sU_k ci]; exact ew
    · unfold va_up; rw [if_neg ci]; exact hw
theorem mI1_s2 {p n : Nat} {f : Nat → zT} (h : mI1 v T (n, f)) (hq : zU (v 6) T p (f n)) : mI1 (sU v 10 n (zI p)) T (n + 1, f) := by
  have h9 := mI1_s h hq
  intro i hi
  obtain ⟨b, e, hb⟩ := h9 i hi
  refine ⟨b, e, ?_⟩
  have : va_up f n (f n) i = f i := by
    unfold va_up
    by_cases c : i = n
    · rw [if_pos c, c]
    · rw [if_neg c]
  try dsimp only at hb
  rw [this] at hb
  exact hb
theorem mE_10 {n : Nat} {x : Int32} : mE v T (sU v 10 n x) T := ⟨Nat.le_refl _, fun i _ => by rw [sU_j (by decide)], fun j _ _ j10 _ _ _ => sU_j j10, fun k _ _ _ => by rw [sU_j (by decide)]⟩
theorem mM_10 {n : Nat} {x : Int32} (hM : mM v T) : mM (sU v 10 n x) T := mM_w hM (by rw [sU_j (by decide)]) (fun i _ => by rw [sU_j (by decide)])
theorem zU_10 {n : Nat} {x : Int32} (h : zU (v 6) T a t) : zU (sU v 10 n x 6) T a t := by rw [sU_j (by decide)]; exact h
theorem m_addA_l (kt : zk t = 5) (ku : zk u = 5) (hT : T + 16 ≤ 63900) : ∀ (m q i : Nat) (v : mS), mM v T → zU (v 6) T a t → zU (v 6) T b u → i + m = zl t + zl u → m < q → mI1 v T (i, zcat (zl t) (zc t) (zc u)) → mP (f_M_added_193 q (zI a) (zI b) (zI (zl t)) (zI (zl u)) (zI i) v) v T 16 (zmkA (zl t + zl u) (zcat (zl t) (zc t) (zc u))) := by
  intro m
  induction m with
  | zero =>
    intro q i v hM ha hb hi hq h1
    obtain ⟨q, rfl, -⟩ := suc_of hq
    have lt := zwf_l ha.2
    have lu := zwf_l hb.2
    have e : i = zl t + zl u := by omega
    rw [f_M_added_193, zI_add, iI_le (by omega) (by omega), if_pos (by omega), bi_id (fun _ _ => by rfl)]
    rw [e] at h1
    exact m_array hM (by omega) h1 hT
  | succ m ih =>
    intro q i v hM ha hb hi hq h1
    obtain ⟨q, rfl, hq⟩ := suc_of hq
    have hq := Nat.lt_of_succ_lt_succ hq
    have lt := zwf_l ha.2
    have lu := zwf_l hb.2
    have step : ∀ p, zU (v 6) T p (zcat (zl t) (zc t) (zc u) i) → mP (f_M_added_236 (f_M_added_193 q) (zI a) (zI b) (zI (zl t)) (zI (zl u)) (zI i) (zI i) (zI p) v) v T 16 (zmkA (zl t + zl u) (zcat (zl t) (zc t) (zc u))) := by
      intro p hp
      rw [f_M_added_236, gd_I (by omega) (by omega), nm_s, nm_s, zI_toNat (by omega), zl_1, zI_add]
      exact mP_E mE_10 (by rw [sU_j (by decide)]) (ih q (i + 1) _ (mM_10 hM) (zU_10 ha) (zU_10 hb) (by omega) hq (mI1_s2 h1 hp)) (Nat.le_refl _)
    rw [f_M_added_193, zI_add, iI_le (by omega) (by omega), if_neg (by omega), iI_le (by omega) (by omega)]
    have hz : zcat (zl t) (zc t) (zc u) i = if i < zl t then zc t i else zc u (i - zl t) := rfl
    by_cases c : zl t ≤ i
    · obtain ⟨p, ep, hp⟩ := m_item hM hb (by omega) (show i - zl t < zl u by omega)
      rw [if_pos c, zI_sub c, ep, bi_s]
      refine step p ?_
      rw [hz, if_neg (by omega)]; exact hp
    · obtain ⟨p, ep, hp⟩ := m_item hM ha (by omega) (show i < zl t by omega)
      rw [if_neg c, ep, bi_s]
      refine step p ?_
      rw [hz, if_pos (by omega)]; exact hp
theorem m_addO_l (hM : mM v T) (ha : zU (v 6) T a t) (hb : zU (v 6) T b u) (kt : zk t = 6) (ku : zk u = 6) : ∀ (m q i : Nat), i + m = zl u → m < q → f_M_added_259 q (zI a) (zI b) (zI (zl t)) (zI (zl u)) (zI (zext t u i)) (zI i) v = if zl t + zext t u (zl u) ≤ 6 then f_M_merged v (zI a) (zI b) else f_M_room v := by
  have lt := zwf_l ha.2
  have lu := zwf_l hb.2
  have hz : ∀ i, zext t u i ≤ i := by
    intro i
    induction i with
    | zero => exact Nat.le_refl _
    | succ i ih => simp only [zext]; split <;> omega
  intro m
  induction m with
  | zero =>
    intro q i hi hq
    obtain ⟨q, rfl, -⟩ := suc_of hq
    have hz1 := hz i
    have e : i = zl u := by omega
    rw [f_M_added_259, iI_le (by omega) (by omega), if_pos (by omega), zl_6, zI_add, iI_le (by omega) (by omega), bi_id (fun _ _ => by rfl), bi_id (fun _ _ => by rfl), e]
  | succ m ih =>
    intro q i hi hq
    obtain ⟨q, rfl, hq⟩ := suc_of hq
    have hq := Nat.lt_of_succ_lt_succ hq
    have hz1 := hz i
    obtain ⟨p, ep, hp, hp2⟩ := m_name hM hb ku (show i < zl u by omega)
    rw [f_M_added_259, iI_le (by omega) (by omega), if_neg (by omega), ep, bi_s, m_member hM ha kt hp hp2, bi_s]
    have e9 : zext t u (i + 1) = zext t u i + (if zmem t (zm u i) (zl t) 0 = none then 1 else 0) := rfl
    cases hq2 : zmem t (zm u i) (zl t) 0 with
    | none =>
      rw [hq2, if_pos rfl] at e9
      have : ¬ (0 : Int32) ≤ -1 := by decide
      try dsimp only
      rw [if_neg this, nm_s, f_M_added_284, nm_s, zl_1, zI_add, zI_add, ← e9]
      exact ih q (i + 1) (by omega) hq
    | some k =>
      rw [hq2, if_neg (by simp)] at e9
      have hk := zmem_lt _ _ hq2
      have : (0 : Int32) ≤ zI k := by rw [zl_0, zI_le (by omega) (by omega)]; omega
      try dsimp only
      rw [if_pos this, f_M_added_284, nm_s, zl_1, zI_add]
      have h8 := ih q (i + 1) (by omega) hq
      rw [e9, Nat.add_zero] at h8
      exact h8
theorem m_added (hM : mM v T) (ha : zU (v 6) T a t) (hb : zU (v 6) T b u) (hT : T + 16 ≤ 63900) : mP (f_M_added v (zI a) (zI b)) v T 16 (zadd t u) := by
  have ka := ha.2.1
  have kb := hb.2.1
  have lt := zwf_l ha.2
  have lu := zwf_l hb.2
  have n2 := hM.2.1
  have e0 : ∀ t : zT, zk t ≤ 6 → (zI (zk t) = 0) = (zk t = 0) := by
    intro t h
    rw [zl_0, zI_eq (by omega) (by omega)]
  rw [f_M_added, m_kind hM ha, bi_s, ite_p (e0 t ka)]
  unfold zadd
  by_cases c0 : zk t = 0
  · rw [if_pos c0, if_pos c0, f_M_added_18, ite_p (e0 t ka), if_pos c0]
    exact mP_of hM hb
  · rw [if_neg c0, if_neg c0, m_kind hM hb, bi_s, ite_p (e0 u kb)]
    by_cases d0 : zk u = 0
    · rw [if_pos d0, if_pos d0, f_M_added_18, ite_p (e0 t ka), if_neg c0]
      exact mP_of hM ha
    · rw [if_neg d0, if_neg d0, m_kind hM hb, bi_s, iI_eq (by omega) (by omega)]
      by_cases c : zk t = zk u
      · rw [if_pos c, if_pos c, zl_3, iI_le (by omega) (by omega)]
        by_cases c3 : 3 ≤ zk t
        · rw [if_pos c3, m_size hM ha, bi_s, m_size hM hb, bi_s, iI_eq (by omega) (by omega)]
          by_cases e3 : zk t = 3
          · rw [if_pos e3, if_pos e3, m_num hM ha e3, bi_s, m_num hM hb (by omega), bi_s, zK_add, bi_id (fun _ _ => by rfl)]
            have b1 := zok_b (ha.2.2.2.2.2.2.1 e3)
            have b2 := zok_b (hb.2.2.2.2.2.2.1 (by omega))
            exact mP_le (m_decimal hM (by omega) (by omega) (by omega)) (by omega)
          · rw [if_neg e3, if_neg e3, zl_4, iI_eq (by omega) (by omega)]
            by_cases e4 : zk t = 4
            · rw [if_pos e4, if_pos e4, zI_add, zl_12, iI_le (by omega) (by omega)]
              obtain ⟨xa, xa2⟩ := zY_U ha e4
              obtain ⟨xb, xb2⟩ := zY_U hb (by omega)
              unfold zmkX
              have hz1 : (zaddX (zl t, zx t) (zl u, zx u)).1 = zl t + zl u := rfl
              by_cases c12 : zl t + zl u ≤ 12
              · rw [if_pos c12, if_pos (by omega)]
                have hn := m_node (x := zI 4) (n := zl t + zl u) (c := zl t + zl u) hM (by omega)
                have hM1 := mhd_M (x := zI 4) (y := zI (zl t + zl u)) (T' := T + (4 + (zl t + zl u))) hM (by omega) (by omega)
                have hE1 := mhd_E (v := v) (x := zI 4) (y := zI (zl t + zl u)) (T := T) (T' := T + (4 + (zl t + zl u))) (by omega)
                obtain ⟨q0, q1, q2, q3, q7⟩ := mhd_f (v := v) (a := T) (x := zI 4) (y := zI (zl t + zl u)) (T' := T + (4 + (zl t + zl u)))
                have h21 : mhd v T (zI 4) (zI (zl t + zl u)) (T + (4 + (zl t + zl u))) 0 21 = v 0 21 := mhd_0 (by decide)
                generalize mhd v T (zI 4) (zI (zl t + zl u)) (T + (4 + (zl t + zl u))) = v1 at *
                have xa1 := xa.2.1
                have xb1 := xb.2.1
                dsimp only at xa1 xb1
                obtain ⟨v', f1, f2, f3, f4⟩ := m_addX_l (x := (zl t, zx t)) (y := (zl u, zx u)) (p := T) (T := T) (a := a) (b := b) (by dsimp only; omega) (by dsimp only; omega) (by omega) (Nat.le_refl _) (by dsimp only; omega) (by dsimp only; omega) (by dsimp only; omega) (zl t + zl u) fu 0 v1 (fun k hk => by rw [hE1.2.1 _ (by dsimp only at hk; omega)]; exact xa.2.2.2.2.2.2 k hk) (fun k hk => by rw [hE1.2.1 _ (by dsimp only at hk; omega)]; exact xb.2.2.2.2.2.2 k hk) (by dsimp only; omega) (fu_lt (by omega))
                dsimp only at f1 f3 f4
                rw [hn, bi_s, zl_0, f1]
                refine ⟨v', _, mM_w hM1 (by rw [f2 0 (by decide)]) (fun i hi => f3 i (by omega)), mE_w hE1 (fun i hi => f3 i (by omega)) (fun j _ j6 _ _ _ _ => f2 j j6) (fun k _ _ _ => by rw [f2 0 (by decide)]), by omega, T, rfl, zU_Y ⟨by omega, by rw [hz1]; omega, ?_, ?_, ?_, ?_, fun k hk => f4 k (by omega) hk⟩ (ztx_add xa2 xb2 c12), by rw [f2 0 (by decide)]; exact h21⟩
                · rw [f3 _ (by omega)]; exact q0
                · rw [f3 _ (by omega)]; exact q1
                · rw [f3 _ (by omega)]; exact q2
                · rw [f3 _ (by omega)]; exact q3
              · rw [if_neg c12, if_neg (by omega), bi_id (fun _ _ => by rfl)]
                exact m_room hM
            · rw [if_neg e4, if_neg e4, zl_5, iI_eq (by omega) (by omega)]
              by_cases e5 : zk t = 5
              · rw [if_pos e5, if_pos e5, zl_0]
                exact m_addA_l e5 (by omega) hT (zl t + zl u) fu 0 v hM ha hb (by omega) (fu_lt (by omega)) (fun k hk => absurd hk (by dsimp only; omega))
              · have e6 : zk t = 6 := by omega
                rw [if_neg e5, if_neg e5, if_pos e6]
                have h9 := m_addO_l hM ha hb e6 (by omega) (zl u) fu 0 (by omega) (fu_lt (by omega))
                have h8 : f_M_added_259 fu (zI a) (zI b) (zI (zl t)) (zI (zl u)) 0 0 v = f_M_added_259 fu (zI a) (zI b) (zI (zl t)) (zI (zl u)) (zI (zext t u 0)) (zI 0) v := rfl
                rw [h8, h9]
                by_cases c6 : zl t + zext t u (zl u) ≤ 6
                · rw [if_pos c6]
                  exact m_merged hM ha hb e6 (by omega) hT
                · rw [if_neg c6]
                  obtain ⟨ht6, -, -⟩ := ha.2.2.2.2.2.2.2.2.2.2 e6
                  obtain ⟨hu6, -, -⟩ := hb.2.2.2.2.2.2.2.2.2.2 (show zk u = 6 by omega)
                  have hge := zmrg_ge t u 12 0 0 zM0 (by omega) (by omega) (by omega)
                  have hge : 0 + (zl t - 0) + (zext t u (zl u) - 0) ≤ (zmer t u).1 := hge
                  unfold zmkO
                  rw [if_neg (by omega)]
                  exact m_room hM
        · rw [if_neg c3, if_neg (by omega), if_neg (by omega), if_neg (by omega), if_neg (by omega)]
          exact mP_er hM
      · rw [if_neg c, if_neg c]
        exact mP_er hM
end MA
