/-! the reference's heap: texts, arrays, objects made -/
def mSx (v : mS) (sx : Nat → zN) : Prop := ∀ k, k < 8 → v 2 k = zI (sx k).1 ∧ ztx (sx k) ∧ ∀ j, j < (sx k).1 → v 1 (12 * k + j) = zI ((sx k).2 j)
section MX
variable {v : mS} {T a b : Nat} {t u : zT}
theorem m_str_l {x : zN} {k : Nat} (hk : k < 8) (hx : x.1 ≤ 12) (hp : a + 4 + x.1 ≤ 64000) : ∀ (m n i : Nat) (v : mS), v 2 k = zI x.1 → (∀ j, j < x.1 → v 1 (12 * k + j) = zI (x.2 j)) → i + m = x.1 → m < n → ∃ v', f_M_stringOf_20 n (zI k) (zI a) (zI i) v = some (zI a, v') ∧ (∀ j, j ≠ 6 → v' j = v j) ∧ (∀ y, y < a + 4 + i ∨ a + 4 + x.1 ≤ y → v' 6 y = v 6 y) ∧ ∀ j, i ≤ j → j < x.1 → v' 6 (a + 4 + j) = zI (x.2 j) := by
  intro m
  induction m with
  | zero =>
    intro n i v h2 h1 hi hn
    obtain ⟨n, rfl, -⟩ := suc_of hn
    refine ⟨v, ?_, fun _ _ => rfl, fun _ _ => rfl, fun j h3 h4 => absurd h3 (by omega)⟩
    rw [f_M_stringOf_20, gd_I hk (by omega), zI_toNat (by omega), h2, iI_le (by omega) (by omega), if_pos (by omega)]
  | succ m ih =>
    intro n i v h2 h1 hi hn
    obtain ⟨n, rfl, hn⟩ := suc_of hn
    have hn := Nat.lt_of_succ_lt_succ hn
    obtain ⟨v', f1, f2, f3, f4⟩ := ih n (i + 1) (sU v 6 (a + 4 + i) (zI (x.2 i))) (by rw [sU_j (by decide)]; exact h2) (fun j hj => by rw [sU_j (by decide)]; exact h1 j hj) (by omega) hn
    have hl := h1 i (by omega)
    refine ⟨v', ?_, ?_, ?_, ?_⟩
    · rw [f_M_stringOf_20, gd_I hk (by omega), zI_toNat (by omega), h2, iI_le (by omega) (by omega), if_neg (by omega)]
      simp (disch := omega) only [zl_12, zl_4, zl_1, zI_mul, zI_add, gd_I, zI_toNat, nm_s, hl]
      exact f1
    · intro j hj
      rw [f2 j hj, sU_j hj]
    · intro y hy
      rw [f3 y (by omega), sU_k (by omega)]
    · intro j h3 h4
      by_cases c : j = i
      · subst c
        rw [f3 _ (by omega), sU_hit]
      · exact f4 j (by omega) h4
theorem m_string {sx : Nat → zN} {k : Nat} (hM : mM v T) (hx : mSx v sx) (hk : k < 8) (hT : T + 16 ≤ 63900) : ∃ v' T', f_M_stringOf v (zI k) = some (zI T, v') ∧ mM v' T' ∧ mE v T v' T' ∧ T' ≤ T + 16 ∧ zRY (v' 6) T' T (sx k) ∧ ztx (sx k) ∧ v' 0 21 = v 0 21 := by
  obtain ⟨x1, x2, x3⟩ := hx k hk
  have x12 := x2.1
  have n2 := hM.2.1
  have hn := m_node (x := zI 4) (n := (sx k).1) (c := (sx k).1) hM (by omega)
  have hM1 := mhd_M (x := zI 4) (y := zI (sx k).1) (T' := T + (4 + (sx k).1)) hM (by omega) (by omega)
  have hE1 := mhd_E (v := v) (x := zI 4) (y := zI (sx k).1) (T := T) (T' := T + (4 + (sx k).1)) (by omega)
  obtain ⟨e0, e1, e2, e3, e7⟩ := mhd_f (v := v) (a := T) (x := zI 4) (y := zI (sx k).1) (T' := T + (4 + (sx k).1))
  have h21 : mhd v T (zI 4) (zI (sx k).1) (T + (4 + (sx k).1)) 0 21 = v 0 21 := mhd_0 (by decide)
  have h1 : mhd v T (zI 4) (zI (sx k).1) (T + (4 + (sx k).1)) 1 = v 1 := mhd_j (by decide) (by decide)
  have h2 : mhd v T (zI 4) (zI (sx k).1) (T + (4 + (sx k).1)) 2 = v 2 := mhd_j (by decide) (by decide)
  generalize mhd v T (zI 4) (zI (sx k).1) (T + (4 + (sx k).1)) = v1 at *
  obtain ⟨v', f1, f2, f3, f4⟩ := m_str_l (x := sx k) (a := T) hk (by omega) (by omega) (sx k).1 fu 0 v1 (by rw [h2]; exact x1) (fun j hj => by rw [h1]; exact x3 j hj) (by omega) (fu_lt (by omega))
  refine ⟨v', T + (4 + (sx k).1), ?_, mM_w hM1 (by rw [f2 0 (by decide)]) (fun i hi => f3 i (by omega)), mE_w hE1 (fun i hi => f3 i (by omega)) (fun j _ j6 _ _ _ _ => f2 j j6) (fun k _ _ _ => by rw [f2 0 (by decide)]), by omega, ⟨by omega, by omega, ?_, ?_, ?_, ?_, fun j hj => f4 j (by omega) hj⟩, x2, by rw [f2 0 (by decide)]; exact h21⟩
  · have hn : f_M_node v 4 (zI (sx k).1) (zI (sx k).1) = some (zI T, v1) := hn
    rw [f_M_stringOf, gd_I hk (by omega), gd_I hk (by omega), zI_toNat (by omega), x1, hn, bi_s, zl_0]
    exact f1
  · rw [f3 _ (by omega)]; exact e0
  · rw [f3 _ (by omega)]; exact e1
  · rw [f3 _ (by omega)]; exact e2
  · rw [f3 _ (by omega)]; exact e3
theorem m_item0 {kd n k o : Nat} (hk : kd ≤ 6) (h0 : v 6 a = zI kd) (h3 : v 6 (a + 3) = zI n) (ho : o = if kd = 6 then n else 0) (ha : a + 4 + o + k < 64000) : f_M_item v (zI a) (zI k) = some (v 6 (a + 4 + o + k), v) := by
  rw [f_M_item, gd_I (by omega) (by omega), zI_toNat (by omega), h0, zl_6, iI_eq (by omega) (by omega)]
  by_cases c : kd = 6
  · rw [if_pos c] at ho
    subst ho
    simp (disch := omega) only [if_pos c, zl_3, zl_4, zI_add, gd_I, zI_toNat, h3, f_M_item_30]
  · rw [if_neg c] at ho
    subst ho
    simp (disch := omega) only [if_neg c, zl_0, zl_4, zI_add, f_M_item_30, gd_I, zI_toNat]
theorem m_weigh_l {kd n o : Nat} {f : Nat → zT} (hkd : kd ≤ 6) (h0 : v 6 a = zI kd) (h3 : v 6 (a + 3) = zI n) (ho : o = if kd = 6 then n else 0) (hn : n ≤ 12) (ha : a + 4 + o + n ≤ 64000) (hk : ∀ k, k < n → ∃ b, v 6 (a + 4 + o + k) = zI b ∧ b + 4 ≤ 64000 ∧ v 6 (b + 1) = zI (zs (f k)) ∧ v 6 (b + 2) = zI (zd (f k)) ∧ zs (f k) ≤ 24 ∧ zd (f k) ≤ 5) : ∀ (m i q : Nat), i + m = n → m < q → f_M_weighed_7 q (zI a) (zI (1 + zsm (fun k => zs (f k)) i)) (zI (zmx (fun k => zd (f k)) i)) (zI i) v = if 24 < 1 + zsm (fun k => zs (f k)) n ∨ zmx (fun k => zd (f k)) n = 5 then f_M_weighed_104 (sU (sU v 6 (a + 1) (zI (1 + zsm (fun k => zs (f k)) n))) 6 (a + 2) (zI (zmx (fun k => zd (f k)) n + 1))) else some (zI a, sU (sU v 6 (a + 1) (zI (1 + zsm (fun k => zs (f k)) n))) 6 (a + 2) (zI (zmx (fun k => zd (f k)) n + 1))) := by
  have hsm : ∀ i, i ≤ n → zsm (fun k => zs (f k)) i ≤ 24 * i := by
    intro i
    induction i with
    | zero => intro _; exact Nat.le_refl _
    | succ i ih =>
      intro hi
      obtain ⟨_, _, _, _, _, hs, _⟩ := hk i (by omega)
      have := ih (by omega)
      simp only [zsm]; omega
  have hmx : ∀ i, i ≤ n → zmx (fun k => zd (f k)) i ≤ 5 := by
    intro i hi
    refine zmx_le (fun k hki => ?_)
    obtain ⟨_, _, _, _, _, _, hd⟩ := hk k (by omega)
    exact hd
  have hsz : f_M_size v (zI a) = some (zI n, v) := by
    simp (disch := omega) only [f_M_size, zl_3, zI_add, gd_I, zI_toNat, h3]
  intro m
  induction m with
  | zero =>
    intro i q hi hq
    obtain ⟨q, rfl, -⟩ := suc_of hq
    have hin : i = n := by omega
    subst hin
    have s1 := hsm i (by omega)
    have s2 := hmx i (by omega)
    rw [f_M_weighed_7, hsz, bi_s, iI_le (by omega) (by omega), if_pos (by omega)]
    simp (disch := omega) only [zl_1, zl_2, zl_4, zl_24, zI_add, gd_I, zI_toNat, nm_s, zI_lt, zI_le]
    by_cases c1 : 24 < 1 + zsm (fun k => zs (f k)) i
    · rw [if_pos c1, if_pos (Or.inl c1)]
    · rw [if_neg c1]
      by_cases c2 : zmx (fun k => zd (f k)) i = 5
      · rw [if_neg (by omega), if_pos (Or.inr c2)]
      · rw [if_pos (by omega), if_neg (by omega)]
        rfl
  | succ m ih =>
    intro i q hi hq
    obtain ⟨q, rfl, hq⟩ := suc_of hq
    have hq := Nat.lt_of_succ_lt_succ hq
    obtain ⟨b, e1, e2, e3, e4, e5, e6⟩ := hk i (by omega)
    have s1 := hsm i (by omega)
    have s2 := hmx i (by omega)
    have hit : f_M_item v (zI a) (zI i) = some (zI b, v) := by rw [m_item0 hkd h0 h3 ho (by omega), e1]
    rw [f_M_weighed_7, hsz, bi_s, iI_le (by omega) (by omega), if_neg (by omega), hit, bi_s]
    simp (disch := omega) only [zl_1, zl_2, zI_add, gd_I, zI_toNat, nm_s, hit, bi_s, e3, e4, zI_le]
    rw [show 1 + zsm (fun k => zs (f k)) i + zs (f i) = 1 + zsm (fun k => zs (f k)) (i + 1) by simp only [zsm]; omega]
    by_cases c : zd (f i) ≤ zmx (fun k => zd (f k)) i
    · rw [if_pos c, f_M_weighed_67, nm_s, zl_1, zI_add]
      have e9 : zmx (fun k => zd (f k)) (i + 1) = zmx (fun k => zd (f k)) i := by simp only [zmx]; rw [if_neg (by omega)]
      have := ih (i + 1) q (by omega) hq
      rw [e9] at this
      exact this
    · rw [if_neg c, f_M_weighed_67, nm_s, zl_1, zI_add]
      have e9 : zmx (fun k => zd (f k)) (i + 1) = zd (f i) := by simp only [zmx]; rw [if_pos (by omega)]
      have := ih (i + 1) q (by omega) hq
      rw [e9] at this
      exact this
theorem zU_A {h : Nat → Int32} {top n : Nat} {f : Nat → zT} (h0 : 4 ≤ a) (h1 : a + 4 + n ≤ top) (h2 : h a = zI 5) (h3 : h (a + 1) = zI (zs (zA n f))) (h4 : h (a + 2) = zI (zd (zA n f))) (h5 : h (a + 3) = zI n) (hn : n ≤ 12) (hs : zs (zA n f) ≤ 24) (hd : zd (zA n f) ≤ 5) (hk : ∀ k, k < n → ∃ b, h (a + 4 + k) = zI b ∧ zU h top b (f k)) : zU h top a (zA n f) := by
  have k5 : zk (zA n f) = 5 := rfl
  have l0 : zl (zA n f) = n := rfl
  have s0 : zs (zA n f) = 1 + zsm (fun k => zs (zc (zA n f) k)) (zl (zA n f)) := rfl
  have d0 : zd (zA n f) = 1 + zmx (fun k => zd (zc (zA n f) k)) (zl (zA n f)) := rfl
  have w5 : ∀ k, k < n → zwf 5 (f k) := by
    intro k hkn
    obtain ⟨b, _, hb⟩ := hk k hkn
    refine zwf_lv 6 5 _ hb.2 ?_
    have := zmx_ge (f := fun k => zd (zc (zA n f) k)) (n := zl (zA n f)) (k := k) hkn
    have e : zd (zc (zA n f) k) = zd (f k) := rfl
    omega
  refine ⟨⟨h0, by omega, h2, h3, h4, h5, fun hk => absurd hk (by omega), fun hk => absurd hk (by omega), fun _ => ⟨?_, fun k hkl => ?_⟩, fun hk => absurd hk (by omega)⟩, ⟨by omega, hs, hd, fun hk => absurd hk (by omega), fun hk => absurd hk (by omega), fun hk => absurd hk (by omega), fun hk => absurd hk (by omega), fun _ => ⟨s0, d0, w5⟩, fun _ => hn, fun hk => absurd hk (by omega)⟩⟩
  · rw [if_neg (by omega)]; omega
  · obtain ⟨b, e, hb⟩ := hk k hkl
    refine ⟨b, ?_, zRM_lv 5 6 5 b _ (w5 k hkl) hb.1 (Nat.le_refl _)⟩
    rw [if_neg (by omega), Nat.add_zero]; exact e
theorem zU_O {h : Nat → Int32} {top n : Nat} {nf : Nat → zN} {f : Nat → zT} (h0 : 4 ≤ a) (h1 : a + 4 + 2 * n ≤ top) (h2 : h a = zI 6) (h3 : h (a + 1) = zI (zs (zO n nf f))) (h4 : h (a + 2) = zI (zd (zO n nf f))) (h5 : h (a + 3) = zI n) (hn : n ≤ 6) (hs : zs (zO n nf f) ≤ 24) (hd : zd (zO n nf f) ≤ 5) (hk : ∀ k, k < n → ∃ b, h (a + 4 + n + k) = zI b ∧ zU h top b (f k)) (hm : ∀ k, k < n → ∃ b, h (a + 4 + k) = zI b ∧ zRY h top b (nf k) ∧ ztx (nf k)) (hr : ∀ k, k + 1 < n → zct (nf k) (nf (k + 1)) = -1) : zU h top a (zO n nf f) := by
  have k5 : zk (zO n nf f) = 6 := rfl
  have l0 : zl (zO n nf f) = n := rfl
  have s0 : zs (zO n nf f) = 1 + zsm (fun k => zs (zc (zO n nf f) k)) (zl (zO n nf f)) := rfl
  have d0 : zd (zO n nf f) = 1 + zmx (fun k => zd (zc (zO n nf f) k)) (zl (zO n nf f)) := rfl
  have w5 : ∀ k, k < n → zwf 5 (f k) := by
    intro k hkn
    obtain ⟨b, _, hb⟩ := hk k hkn
    refine zwf_lv 6 5 _ hb.2 ?_
    have := zmx_ge (f := fun k => zd (zc (zO n nf f) k)) (n := zl (zO n nf f)) (k := k) hkn
    have e : zd (zc (zO n nf f) k) = zd (f k) := rfl
    omega
  refine ⟨⟨h0, by omega, h2, h3, h4, h5, fun hk => absurd hk (by omega), fun hk => absurd hk (by omega), fun _ => ⟨?_, fun k hkl => ?_⟩, fun _ k hkl => ?_⟩, ⟨by omega, hs, hd, fun hk => absurd hk (by omega), fun hk => absurd hk (by omega), fun hk => absurd hk (by omega), fun hk => absurd hk (by omega), fun _ => ⟨s0, d0, w5⟩, fun hk => absurd hk (by omega), fun _ => ⟨hn, fun k hkl => ?_, hr⟩⟩⟩
  · rw [if_pos k5, l0]; omega
  · obtain ⟨b, e, hb⟩ := hk k hkl
    refine ⟨b, ?_, zRM_lv 5 6 5 b _ (w5 k hkl) hb.1 (Nat.le_refl _)⟩
    rw [if_pos k5, l0]; exact e
  · obtain ⟨b, e, hb, -⟩ := hm k hkl
    exact ⟨b, e, hb⟩
  · obtain ⟨b, e, -, hb⟩ := hm k hkl
    exact hb
end MX
