/-! the class's Values, made, 2: closed, arrays, objects, texts -/
def zmkA (n : Nat) (f : Nat → zT) : Option (Nat ⊕ zT) := if n ≤ 12 ∧ zs (zA n f) ≤ 24 ∧ zd (zA n f) ≤ 5 then some (.inr (zA n f)) else none
def zmkO (n : Nat) (nf : Nat → zN) (f : Nat → zT) : Option (Nat ⊕ zT) := if n ≤ 6 ∧ zs (zO n nf f) ≤ 24 ∧ zd (zO n nf f) ≤ 5 then some (.inr (zO n nf f)) else none
def zmkX (x : zN) : Option (Nat ⊕ zT) := if x.1 ≤ 12 then some (.inr (zX x)) else none
section CX
variable {g : Nat → Nat} {v : mS} {T a b : Nat} {t u : zT}
theorem zV_A {c : Nat → Int32} {top n : Nat} {f : Nat → zT} (h1 : a + 4 + n ≤ top) (h2 : c a = zI 5) (h3 : c (a + 1) = zI n) (h4 : c (a + 2) = zI (zs (zA n f))) (h5 : c (a + 3) = zI (zd (zA n f))) (hn : n ≤ 12) (hs : zs (zA n f) ≤ 24) (hd : zd (zA n f) ≤ 5) (hk : ∀ k, k < n → ∃ b, c (a + 4 + k) = zI b ∧ zV c top b (f k)) (h118 : 118 ≤ a) : zV c top a (zA n f) := by
  have k5 : zk (zA n f) = 5 := rfl
  have l0 : zl (zA n f) = n := rfl
  have s0 : zs (zA n f) = 1 + zsm (fun k => zs (zc (zA n f) k)) (zl (zA n f)) := rfl
  have d0 : zd (zA n f) = 1 + zmx (fun k => zd (zc (zA n f) k)) (zl (zA n f)) := rfl
  have w5 : ∀ k, k < n → zwf 5 (f k) := by
    intro k hkn
    obtain ⟨b, _, hb⟩ := hk k hkn
    refine zwf_lv 6 5 _ hb.2 ?_
    have := zmx_ge (f := fun k => zd (zc (zA n f) k)) (n := zl (zA n f)) (k := k) hkn
    have e : zd (zc (zA n f) k) = zd (f k) := rfl
    omega
  refine ⟨⟨by omega, h2, h3, h4, h5, fun hk => absurd hk (by omega), fun hk => absurd hk (by omega), fun _ => ⟨h1, fun k hkl => ?_⟩, fun hk => absurd hk (by omega), fun ha => absurd ha (by omega)⟩, ⟨by omega, hs, hd, fun hk => absurd hk (by omega), fun hk => absurd hk (by omega), fun hk => absurd hk (by omega), fun hk => absurd hk (by omega), fun _ => ⟨s0, d0, w5⟩, fun _ => hn, fun hk => absurd hk (by omega)⟩⟩
  obtain ⟨b, e, hb⟩ := hk k hkl
  exact ⟨b, e, zRC_lv 5 6 5 b _ (w5 k hkl) hb.1 (Nat.le_refl _)⟩
theorem zV_O {c : Nat → Int32} {top n : Nat} {nf : Nat → zN} {f : Nat → zT} (h1 : a + 4 + 2 * n ≤ top) (h2 : c a = zI 6) (h3 : c (a + 1) = zI n) (h4 : c (a + 2) = zI (zs (zO n nf f))) (h5 : c (a + 3) = zI (zd (zO n nf f))) (hn : n ≤ 6) (hs : zs (zO n nf f) ≤ 24) (hd : zd (zO n nf f) ≤ 5) (hk : ∀ k, k < n → ∃ b, c (a + 4 + k) = zI b ∧ zV c top b (f k)) (hm : ∀ k, k < n → ∃ b, c (a + 4 + n + k) = zI b ∧ zRX c top b (nf k) ∧ ztx (nf k)) (hr : ∀ k, k + 1 < n → zct (nf k) (nf (k + 1)) = -1) (h118 : 118 ≤ a) : zV c top a (zO n nf f) := by
  have k5 : zk (zO n nf f) = 6 := rfl
  have l0 : zl (zO n nf f) = n := rfl
  have s0 : zs (zO n nf f) = 1 + zsm (fun k => zs (zc (zO n nf f) k)) (zl (zO n nf f)) := rfl
  have d0 : zd (zO n nf f) = 1 + zmx (fun k => zd (zc (zO n nf f) k)) (zl (zO n nf f)) := rfl
  have w5 : ∀ k, k < n → zwf 5 (f k) := by
    intro k hkn
    obtain ⟨b, _, hb⟩ := hk k hkn
    refine zwf_lv 6 5 _ hb.2 ?_
    have := zmx_ge (f := fun k => zd (zc (zO n nf f) k)) (n := zl (zO n nf f)) (k := k) hkn
    have e : zd (zc (zO n nf f) k) = zd (f k) := rfl
    omega
  refine ⟨⟨by omega, h2, h3, h4, h5, fun hk => absurd hk (by omega), fun hk => absurd hk (by omega), fun _ => ⟨by omega, fun k hkl => ?_⟩, fun _ => ⟨h1, fun k hkl => ?_⟩, fun ha => absurd ha (by omega)⟩, ⟨by omega, hs, hd, fun hk => absurd hk (by omega), fun hk => absurd hk (by omega), fun hk => absurd hk (by omega), fun hk => absurd hk (by omega), fun _ => ⟨s0, d0, w5⟩, fun hk => absurd hk (by omega), fun _ => ⟨hn, fun k hkl => ?_, hr⟩⟩⟩
  · obtain ⟨b, e, hb⟩ := hk k hkl
    exact ⟨b, e, zRC_lv 5 6 5 b _ (w5 k hkl) hb.1 (Nat.le_refl _)⟩
  · obtain ⟨b, e, hb, -⟩ := hm k hkl
    exact ⟨b, e, hb⟩
  · obtain ⟨b, e, -, hb⟩ := hm k hkl
    exact hb
theorem c_closed_l {n : Nat} {f : Nat → zT} (hg : g 4 ≤ 130000) (h1 : v 4 (a + 1) = zI n) (hn : n ≤ 12) (ha : a + 4 + n ≤ g 4) (hk : ∀ k, k < n → ∃ b, v 4 (a + 4 + k) = zI b ∧ b + 4 ≤ g 4 ∧ v 4 (b + 2) = zI (zs (f k)) ∧ v 4 (b + 3) = zI (zd (f k)) ∧ zs (f k) ≤ 24 ∧ zd (f k) ≤ 5) : ∀ (m i q : Nat), i + m = n → m < q → f_V_closed_9 q (zI a) (zI (1 + zsm (fun k => zs (f k)) i)) (zI (zmx (fun k => zd (f k)) i)) (zI (a + 4 + i)) g v = if 24 < 1 + zsm (fun k => zs (f k)) n ∨ zmx (fun k => zd (f k)) n = 5 then some (.inr 3, g, v) else some (.inl (zI a), g, sU (sU v 4 (a + 2) (zI (1 + zsm (fun k => zs (f k)) n))) 4 (a + 3) (zI (zmx (fun k => zd (f k)) n + 1))) := by
  have hsm : ∀ i, i ≤ n → zsm (fun k => zs (f k)) i ≤ 24 * i := by
    intro i
    induction i with
    | zero => intro _; exact Nat.le_refl _
    | succ i ih =>
      intro hi
      obtain ⟨_, _, _, _, _, hs, _⟩ := hk i (by omega)
      have := ih (by omega)
      simp only [zsm]; omega
  have hmx : ∀ i, i ≤ n → zmx (fun k => zd (f k)) i ≤ 5 := by
    intro i hi
    refine zmx_le (fun k hki => ?_)
    obtain ⟨_, _, _, _, _, _, hd⟩ := hk k (by omega)
    exact hd
  intro m
  induction m with
  | zero =>
    intro i q hi hq
    obtain ⟨q, rfl, -⟩ := suc_of hq
    have hin : i = n := by omega
    subst hin
    have s1 := hsm i (by omega)
    have s2 := hmx i (by omega)
    simp (disch := omega) only [f_V_closed_9, zl_1, zl_2, zl_3, zl_4, zl_5, zl_24, zI_add, gd_I, zI_toNat, h1, zI_le, zI_lt, zI_eq, nm_s, Nat.le_refl, if_true]
    by_cases c1 : 24 < 1 + zsm (fun k => zs (f k)) i
    · rw [if_pos c1, if_pos (Or.inl c1)]; rfl
    · rw [if_neg c1]
      by_cases c2 : zmx (fun k => zd (f k)) i = 5
      · rw [if_pos c2, if_pos (Or.inr c2)]; rfl
      · rw [if_neg c2, if_neg (by omega)]
  | succ m ih =>
    intro i q hi hq
    obtain ⟨q, rfl, hq⟩ := suc_of hq
    have hq := Nat.lt_of_succ_lt_succ hq
    obtain ⟨b, e1, e2, e3, e4, e5, e6⟩ := hk i (by omega)
    have s1 := hsm i (by omega)
    have s2 := hmx i (by omega)
    rw [f_V_closed_9]
    simp (disch := omega) only [zl_1, zl_2, zl_3, zl_4, zI_add, gd_I, zI_toNat, h1, zI_le, e1, e3, e4, nm_s]
    rw [if_neg (by omega)]
    have e9 : (if zI (zmx (fun k => zd (f k)) i) < zI (zd (f i)) then zI (zd (f i)) else zI (zmx (fun k => zd (f k)) i)) = zI (zmx (fun k => zd (f k)) (i + 1)) := by
      rw [iI_lt (by omega) (by omega)]
      simp only [zmx]
      split <;> rfl
    rw [e9, show 1 + zsm (fun k => zs (f k)) i + zs (f i) = 1 + zsm (fun k => zs (f k)) (i + 1) by simp only [zsm]; omega]
    exact ih (i + 1) q (by omega) (by omega)
theorem c_closed {n : Nat} {f : Nat → zT} (hg : g 4 ≤ 130000) (h1 : v 4 (a + 1) = zI n) (hn : n ≤ 12) (ha : a + 4 + n ≤ g 4) (hk : ∀ k, k < n → ∃ b, v 4 (a + 4 + k) = zI b ∧ b + 4 ≤ g 4 ∧ v 4 (b + 2) = zI (zs (f k)) ∧ v 4 (b + 3) = zI (zd (f k)) ∧ zs (f k) ≤ 24 ∧ zd (f k) ≤ 5) : f_V_closed g v (zI a) = if 24 < 1 + zsm (fun k => zs (f k)) n ∨ zmx (fun k => zd (f k)) n = 5 then some (.inr 3, g, v) else some (.inl (zI a), g, sU (sU v 4 (a + 2) (zI (1 + zsm (fun k => zs (f k)) n))) 4 (a + 3) (zI (zmx (fun k => zd (f k)) n + 1))) := by
  have h := c_closed_l hg h1 hn ha hk n 0 fu (by omega) (fu_lt (by omega))
  rw [f_V_closed]
  have e : (nm (zI a + 4) fun x4_1 => f_V_closed_9 fu (zI a) 1 0 x4_1 g v) = f_V_closed_9 fu (zI a) (zI (1 + zsm (fun k => zs (f k)) 0)) (zI (zmx (fun k => zd (f k)) 0)) (zI (a + 4 + 0)) g v := by
    rw [nm_s, zl_4, zI_add]; rfl
  rw [e, h]
  split
  · exact mg_s rfl (Nat.le_refl _)
  · exact mg_s rfl (Nat.le_refl _)
/-- closing what open has begun and the parts were put into -/
theorem zP_open {F : Option (bO Int32)} {K : Int32 → (Nat → Nat) → mS → Option (bO Int32)} {g1 : Nat → Nat} {v1 : mS} {T1 c : Nat} {sp : Option (Nat ⊕ zT)} (ho : F = some (.inl (zI a), g1, v1)) (hx : ∃ v', zM g1 v' T1 ∧ zE g v T g1 v' T1 ∧ zPr (K (zI a) g1 v1) g1 v' T1 sp) (hc : T1 ≤ T + c) : zP (bo F K) g v T c sp := by
  subst ho
  obtain ⟨v', m, e, p⟩ := hx
  obtain ⟨r, er⟩ := zPr_some p
  have h9 : bo (some (.inl (zI a), g1, v1)) K = K (zI a) g1 v1 := by
    rw [er]
    exact bo_l er (Nat.le_refl _)
  rw [h9]
  exact ⟨g1, v', T1, m, e, hc, p⟩
theorem c_closeA {g1 : Nat → Nat} {v1 : mS} {n : Nat} {f : Nat → zT} (h118 : 118 ≤ T) (hM : zM g1 v1 (T + (4 + n))) (hE : zE g v T g1 v1 (T + (4 + n))) (hn : n ≤ 12) (e0 : v1 4 T = zI 5) (e1 : v1 4 (T + 1) = zI n) (hk : ∀ k, k < n → ∃ b, v1 4 (T + 4 + k) = zI b ∧ zV (v 4) T b (f k)) : ∃ v', zM g1 v' (T + (4 + n)) ∧ zE g v T g1 v' (T + (4 + n)) ∧ zPr (f_V_closed g1 v1 (zI T)) g1 v' (T + (4 + n)) (zmkA n f) := by
  obtain ⟨m1, m2, m3, m4, m5, m6⟩ := id hM
  have hh : ∀ k, k < n → ∃ b, v1 4 (T + 4 + k) = zI b ∧ b + 4 ≤ g1 4 ∧ v1 4 (b + 2) = zI (zs (f k)) ∧ v1 4 (b + 3) = zI (zd (f k)) ∧ zs (f k) ≤ 24 ∧ zd (f k) ≤ 5 := by
    intro k hkn
    obtain ⟨b, e, hb⟩ := hk k hkn
    have hb1 := hE.V hb
    obtain ⟨x1, x2, x3, x4, x5⟩ := zV_head hb1
    exact ⟨b, e, by omega, x4, x5, hb.2.2.1, hb.2.2.2.1⟩
  have hs : zs (zA n f) = 1 + zsm (fun k => zs (f k)) n := rfl
  have hd : zd (zA n f) = 1 + zmx (fun k => zd (f k)) n := rfl
  have hmx : zmx (fun k => zd (f k)) n ≤ 5 := zmx_le (fun k hkn => by obtain ⟨_, _, _, _, _, _, h9⟩ := hh k hkn; exact h9)
  rw [c_closed m5 e1 hn (by omega) hh]
  unfold zmkA
  by_cases c : 24 < 1 + zsm (fun k => zs (f k)) n ∨ zmx (fun k => zd (f k)) n = 5
  · rw [if_pos c, if_neg (by omega)]
    exact ⟨v1, hM, hE, rfl⟩
  · rw [if_neg c, if_pos (by omega)]
    have hE2 : zE g v T g1 (sU (sU v1 4 (T + 2) (zI (1 + zsm (fun k => zs (f k)) n))) 4 (T + 3) (zI (zmx (fun k => zd (f k)) n + 1))) (T + (4 + n)) := by
      refine zE_w hE (fun i hi => ?_) (fun j _ _ _ j4 => ?_)
      · rw [sU_k (by omega), sU_k (by omega)]
      · rw [sU_j j4, sU_j j4]
    refine ⟨_, zM_w hM ?_ (fun i hi => ?_), hE2, T, rfl, ?_⟩
    · rw [sU_j (by decide), sU_j (by decide)]
    · rw [sU_k (by omega), sU_k (by omega)]
    · refine zV_A (by omega) ?_ ?_ ?_ ?_ hn (by omega) (by omega) (fun k hkn => ?_) h118
      · rw [sU_k (by omega), sU_k (by omega)]; exact e0
      · rw [sU_k (by omega), sU_k (by omega)]; exact e1
      · rw [sU_k (by omega), sU_hit, hs]
      · rw [sU_hit, hd, Nat.add_comm]
      · obtain ⟨b, e, hb⟩ := hk k hkn
        refine ⟨b, ?_, hE2.V hb⟩
        rw [sU_k (by omega), sU_k (by omega)]; exact e
theorem c_closeO {g1 : Nat → Nat} {v1 : mS} {n : Nat} {nf : Nat → zN} {f : Nat → zT} (h118 : 118 ≤ T) (hM : zM g1 v1 (T + (4 + 2 * n))) (hE : zE g v T g1 v1 (T + (4 + 2 * n))) (hn : n ≤ 6) (e0 : v1 4 T = zI 6) (e1 : v1 4 (T + 1) = zI n) (hk : ∀ k, k < n → ∃ b, v1 4 (T + 4 + k) = zI b ∧ zV (v 4) T b (f k)) (hm : ∀ k, k < n → ∃ b, v1 4 (T + 4 + n + k) = zI b ∧ zRX (v 4) T b (nf k) ∧ ztx (nf k)) (hr : ∀ k, k + 1 < n → zct (nf k) (nf (k + 1)) = -1) : ∃ v', zM g1 v' (T + (4 + 2 * n)) ∧ zE g v T g1 v' (T + (4 + 2 * n)) ∧ zPr (f_V_closed g1 v1 (zI T)) g1 v' (T + (4 + 2 * n)) (zmkO n nf f) := by
  obtain ⟨m1, m2, m3, m4, m5, m6⟩ := id hM
  have hh : ∀ k, k < n → ∃ b, v1 4 (T + 4 + k) = zI b ∧ b + 4 ≤ g1 4 ∧ v1 4 (b + 2) = zI (zs (f k)) ∧ v1 4 (b + 3) = zI (zd (f k)) ∧ zs (f k) ≤ 24 ∧ zd (f k) ≤ 5 := by
    intro k hkn
    obtain ⟨b, e, hb⟩ := hk k hkn
    have hb1 := hE.V hb
    obtain ⟨x1, x2, x3, x4, x5⟩ := zV_head hb1
    exact ⟨b, e, by omega, x4, x5, hb.2.2.1, hb.2.2.2.1⟩
  have hs : zs (zO n nf f) = 1 + zsm (fun k => zs (f k)) n := rfl
  have hd : zd (zO n nf f) = 1 + zmx (fun k => zd (f k)) n := rfl
  have hmx : zmx (fun k => zd (f k)) n ≤ 5 := zmx_le (fun k hkn => by obtain ⟨_, _, _, _, _, _, h9⟩ := hh k hkn; exact h9)
  rw [c_closed m5 e1 (by omega) (by omega) hh]
  unfold zmkO
  by_cases c : 24 < 1 + zsm (fun k => zs (f k)) n ∨ zmx (fun k => zd (f k)) n = 5
  · rw [if_pos c, if_neg (by omega)]
    exact ⟨v1, hM, hE, rfl⟩
  · rw [if_neg c, if_pos (by omega)]
    have hE2 : zE g v T g1 (sU (sU v1 4 (T + 2) (zI (1 + zsm (fun k => zs (f k)) n))) 4 (T + 3) (zI (zmx (fun k => zd (f k)) n + 1))) (T + (4 + 2 * n)) := by
      refine zE_w hE (fun i hi => ?_) (fun j _ _ _ j4 => ?_)
      · rw [sU_k (by omega), sU_k (by omega)]
      · rw [sU_j j4, sU_j j4]
    refine ⟨_, zM_w hM ?_ (fun i hi => ?_), hE2, T, rfl, ?_⟩
    · rw [sU_j (by decide), sU_j (by decide)]
    · rw [sU_k (by omega), sU_k (by omega)]
    · refine zV_O (by omega) ?_ ?_ ?_ ?_ hn (by omega) (by omega) (fun k hkn => ?_) (fun k hkn => ?_) hr h118
      · rw [sU_k (by omega), sU_k (by omega)]; exact e0
      · rw [sU_k (by omega), sU_k (by omega)]; exact e1
      · rw [sU_k (by omega), sU_hit, hs]
      · rw [sU_hit, hd, Nat.add_comm]
      · obtain ⟨b, e, hb⟩ := hk k hkn
        refine ⟨b, ?_, hE2.V hb⟩
        rw [sU_k (by omega), sU_k (by omega)]; exact e
      · obtain ⟨b, e, hb, hx⟩ := hm k hkn
        refine ⟨b, ?_, hE2.X hb, hx⟩
        rw [sU_k (by omega), sU_k (by omega)]; exact e
theorem c_arrayOf (hM : zM g v T) {x n : Nat} {f : Nat → zT} (hx : inrB x = true) (hn : n ≤ bn_len (q0z g v) x) (hl : bn_len (q0z g v) x ≤ 24) (hxx : x = 2 ∨ (x ≠ 1 ∧ x ≠ 2 ∧ x ≠ 3)) (hk : ∀ k, k < n → ∃ b, v x k = zI b ∧ zV (v 4) T b (f k)) (hT : T + 16 ≤ 65000) : zP (f_V_arrayOf g v x (zI n)) g v T 16 (zmkA n f) := by
  have h45 : x ≠ 4 ∧ x ≠ 5 := by
    simp only [inrB, decide_eq_true_eq] at hx
    exact ⟨hx.2.2.1, hx.2.2.2⟩
  refine zP_mg ?_
  rw [gd_t hx, zl_5]
  by_cases c : n ≤ 12
  · obtain ⟨g', v', ho, hm, he, e0, e1, e2, e3, r2, r3⟩ := c_open hM (kind := 5) (len := n) (c := 4 + n) (by omega) (by simpa using c) (by simp) (by omega)
    obtain ⟨m1, m2, m3, m4, m5, m6⟩ := id hm
    have hvx : v' x = v x := by
      rcases hxx with rfl | ⟨x1, x2, x3⟩
      · exact r2
      · exact he.2.2.2.2.2 x x1 x2 x3 h45.1
    have hlen : bn_len (q0z g' v') x = bn_len (q0z g v) x := by
      simp [bn_len, h45.1, h45.2]
    have hc : f_V_arrayOf_6 x (zI n) (zI T) g' v' = f_V_closed g' (sC v' x 4 0 (T + 4) n) (zI T) := by
      rw [f_V_arrayOf_6, gd_t hx, zl_0, zl_4, zI_add, hlen, gd_t (cpB_I (by omega) (by omega) (by omega) (by omega)), nm_s, zI_toNat (by omega), zI_toNat (by omega), zI_toNat (by omega), bo_id (fun r g v => by rfl)]
    have h118 := hM.2.1
    refine zP_open ho ?_ (show T + (4 + n) ≤ T + 16 by omega)
    rw [hc]
    refine c_closeA h118 (zM_w hm (sC_j (by decide)) (fun i hi => sC_out (by omega))) (zE_w he (fun i hi => sC_out (by omega)) (fun j _ _ _ j4 => sC_j j4)) c (by rw [sC_out (by omega)]; exact e0) (by rw [sC_out (by omega)]; exact e1) (fun k hkn => ?_)
    obtain ⟨b, e, hb⟩ := hk k hkn
    refine ⟨b, ?_, hb⟩
    rw [sC_in (by omega) (by omega), hvx, ← e]
    congr 1
    omega
  · unfold zmkA
    rw [c_open_no (by omega) (by omega) (by simp; omega), bo_r, if_neg (by omega)]
    exact zP_rm hM
theorem c_empty (hM : zM g v T) (hT : T + 16 ≤ 65000) {f : Nat → zT} : zP (f_V_emptyArray g v) g v T 16 (zmkA 0 f) := by
  refine zP_mg ?_
  obtain ⟨g', v', ho, hm, he, e0, e1, e2, e3, r2, r3⟩ := c_open hM (kind := 5) (len := 0) (c := 4 + 0) (by omega) (by simp) (by simp) (by omega)
  refine zP_open ho ?_ (show T + (4 + 0) ≤ T + 16 by omega)
  have hc : f_V_emptyArray_7 (zI T) g' v' = f_V_closed g' v' (zI T) := bo_id (fun r g v => by rfl)
  rw [hc]
  exact c_closeA hM.2.1 hm he (by omega) e0 e1 (fun k hk => absurd hk (by omega))
theorem c_objectOf (hM : zM g v T) (hT : T + 16 ≤ 65000) {x : zN} (hx : zRX (v 4) T a x) (hx2 : ztx x) (hb : zV (v 4) T b t) : zP (f_V_objectOf g v (zI a) (zI b)) g v T 16 (zmkO 1 (fun _ => x) (fun _ => t)) := by
  refine zP_mg ?_
  obtain ⟨g', v', ho, hm, he, e0, e1, e2, e3, r2, r3⟩ := c_open hM (kind := 6) (len := 1) (c := 4 + 2 * 1) (by omega) (by simp) (by simp) (by omega)
  refine zP_open ho ?_ (show T + (4 + 2 * 1) ≤ T + 16 by omega)
  obtain ⟨m1, m2, m3, m4, m5, m6⟩ := id hm
  have hc : f_V_objectOf_7 (zI a) (zI b) (zI T) g' v' = f_V_closed g' (sU (sU v' 4 (T + 4) (zI b)) 4 (T + 5) (zI a)) (zI T) := by
    simp (disch := omega) only [f_V_objectOf_7, zl_4, zl_1, zI_add, gd_I, zI_toNat, nm_s]
    rw [bo_id (fun r g v => by rfl)]
  rw [hc]
  have h118 := hM.2.1
  refine c_closeO h118 (zM_w hm ?_ ?_) (zE_w he ?_ ?_) (by omega) ?_ ?_ (fun k hk => ?_) (fun k hk => ?_) (fun k hk => absurd hk (by omega))
  · rw [sU_j (by decide), sU_j (by decide)]
  · intro i hi
    rw [sU_k (by omega), sU_k (by omega)]
  · intro i hi
    rw [sU_k (by omega), sU_k (by omega)]
  · intro j _ _ _ j4
    rw [sU_j j4, sU_j j4]
  · rw [sU_k (by omega), sU_k (by omega)]; exact e0
  · rw [sU_k (by omega), sU_k (by omega)]; exact e1
  · have : k = 0 := by omega
    subst this
    refine ⟨b, ?_, hb⟩
    rw [sU_k (by omega)]
    exact sU_hit
  · have : k = 0 := by omega
    subst this
    refine ⟨a, ?_, hx, hx2⟩
    exact sU_hit
end CX
