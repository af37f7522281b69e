/-! the class's Values: sums, differences, products, rests; sort, keys, length, floor -/
theorem zadd_e {x y : zT} {e : Nat} (h : zadd x y = some (.inl e)) : e = 1 := by
  unfold zadd zmkN zmkX zmkA zmkO at h
  repeat' split at h
  all_goals first | (cases h; rfl) | cases h
section CP
variable {g : Nat → Nat} {v : mS} {T a b : Nat} {t u : zT}
theorem zP_bind {F : Option (bO Int32)} {K : Int32 → (Nat → Nat) → mS → Option (bO Int32)} {c1 c2 : Nat} {sp1 sp : Option (Nat ⊕ zT)} (h1 : zP F g v T c1 sp1) (h0 : sp1 = none → sp = none)
    (hk : ∀ (g' : Nat → Nat) (v' : mS) (T' : Nat) (r : Int32), zM g' v' T' → zE g v T g' v' T' → T' ≤ T + c1 → zPr (some (.inl r, g', v')) g' v' T' sp1 → zP (K r g' v') g' v' T' c2 sp) : zP (bo F K) g v T (c1 + c2) sp := by
  obtain ⟨g', v', T', m, e, hT, p⟩ := h1
  have key : ∀ r : Int32, F = some (.inl r, g', v') → zPr (some (.inl r, g', v')) g' v' T' sp1 → zP (bo F K) g v T (c1 + c2) sp := by
    intro r hF hp
    obtain ⟨g2, v2, T2, m2, e2, hT2, p2⟩ := hk g' v' T' r m e hT hp
    obtain ⟨r2, er⟩ := zPr_some p2
    have h9 : bo F K = K r g' v' := by
      rw [hF, er]
      exact bo_l er e2.L
    rw [h9]
    exact ⟨g2, v2, T2, m2, e.tr e2, by omega, p2⟩
  cases sp1 with
  | none =>
    have hF : F = some (.inr 3, g', v') := p
    rw [h0 rfl, hF, bo_r]
    exact ⟨g', v', T', m, e, by omega, rfl⟩
  | some w =>
    cases w with
    | inl e1 =>
      have hF : F = some (.inl (zJ (-(e1 : Int))), g', v') := p
      exact key _ hF rfl
    | inr t1 =>
      obtain ⟨a1, hF, hv⟩ := p
      exact key _ hF ⟨a1, rfl, hv⟩
theorem c_plus (hM : zM g v T) (ha : zV (v 4) T a t) (hb : zV (v 4) T b u) (hT : T + 16 ≤ 65000) : zP (f_V_plus g v (zI a) (zI b)) g v T 16 (zadd t u) := by
  have ka := ha.2.1
  have kb := hb.2.1
  refine zP_mg ?_
  simp (disch := omega) only [c_kind hM ha, c_kind hM hb, bi_s, zl_0, zl_3, zl_4, zl_5, zl_6, zI_eq]
  unfold zadd
  by_cases c0 : zk t = 0
  · rw [if_pos c0, if_pos c0]
    exact zP_of hM hb
  · rw [if_neg c0, if_neg c0]
    by_cases d0 : zk u = 0
    · rw [if_pos d0, if_pos d0]
      exact zP_of hM ha
    · rw [if_neg d0, if_neg d0]
      by_cases c : zk t = zk u
      · rw [if_pos c, if_pos c]
        by_cases c3 : zk t = 3
        · rw [if_pos c3, if_pos c3, c_mill hM ha c3, bi_s, c_mill hM hb (by omega), bi_s, zK_add, bo_id (fun r g v => by rfl), ← znum_6]
          have b1 := zok_b (ha.2.2.2.2.2.2.1 c3)
          have b2 := zok_b (hb.2.2.2.2.2.2.1 (by omega))
          exact zP_le (c_number hM (by omega) (by omega) (by omega) (by omega)) (by omega)
        · rw [if_neg c3, if_neg c3]
          by_cases c4 : zk t = 4
          · rw [if_pos c4, if_pos c4, f_V_plus_90, bo_id (fun r g v => by rfl)]
            exact c_joinX hM ha hb c4 (by omega) hT
          · rw [if_neg c4, if_neg c4]
            by_cases c5 : zk t = 5
            · rw [if_pos c5, if_pos c5, f_V_plus_90, bo_id (fun r g v => by rfl)]
              exact c_joinA hM ha hb c5 (by omega) hT
            · rw [if_neg c5, if_neg c5]
              by_cases c6 : zk t = 6
              · rw [if_pos c6, if_pos c6, bo_id (fun r g v => by rfl)]
                exact c_merged hM ha hb c6 (by omega) hT
              · rw [if_neg c6, if_neg c6]
                exact zP_er hM
      · rw [if_neg c, if_neg c]
        exact zP_er hM
theorem zhit_i (t y : zT) : ∀ m, zhit t y m = true ↔ ∃ i, i < m ∧ zcmp 6 t (zc y i) = 0 := by
  intro m
  induction m with
  | zero => simp [zhit]
  | succ m ih =>
    simp only [zhit, Bool.or_eq_true, decide_eq_true_eq, ih]
    constructor
    · rintro (⟨i, hi, h⟩ | h)
      · exact ⟨i, by omega, h⟩
      · exact ⟨m, by omega, h⟩
    · rintro ⟨i, hi, h⟩
      by_cases c : i = m
      · subst c; exact Or.inr h
      · exact Or.inl ⟨i, by omega, h⟩
theorem c_minus_in {K : Int32 → Int32 → Int32 → Int32 → (Nat → Nat) → mS → Option (bO Int32)} (hM : zM g v T) (ha : zV (v 4) T a t) (hb : zV (v 4) T b u) (kt : zk t = 5) (ku : zk u = 5) {n k : Nat} (hk : k < zl t) : ∀ (m q j : Nat), j + m = zl u → m < q → (∀ i, i < j → zcmp 6 (zc t k) (zc u i) ≠ 0) → ∃ j', j' ≤ zl u ∧ f_V_minus_74 K q (zI a) (zI b) (zI n) (zI k) (zI j) g v = f_V_minus_111 K (zI a) (zI b) (zI n) (zI k) (zI j') g v ∧ (j' = zl u ↔ ¬ zhit (zc t k) u (zl u) = true) := by
  have lu := zwf_l hb.2
  intro m
  induction m with
  | zero =>
    intro q j hj hq hno
    obtain ⟨q, rfl, -⟩ := suc_of hq
    refine ⟨j, by omega, ?_, ?_⟩
    · rw [f_V_minus_74, c_len hM hb, bi_s, iI_le (by omega) (by omega), if_pos (by omega)]
    · rw [zhit_i]
      constructor
      · rintro - ⟨i, hi, h⟩
        exact hno i (by omega) h
      · intro _; omega
  | succ m ih =>
    intro q j hj hq hno
    obtain ⟨q, rfl, hq⟩ := suc_of hq
    have hq := Nat.lt_of_succ_lt_succ hq
    obtain ⟨p, ep, hp⟩ := c_item hM ha (by omega) hk
    obtain ⟨w, ew, hw⟩ := c_item hM hb (by omega) (show j < zl u by omega)
    have hr := zcmp_r 6 (zc t k) (zc u j)
    rw [f_V_minus_74, c_len hM hb, bi_s, iI_le (by omega) (by omega), if_neg (by omega), ep, bi_s, ew, bi_s, c_cmp6 hM hp hw, bi_s, iJ_eq0 (by omega) (by omega)]
    by_cases c : zcmp 6 (zc t k) (zc u j) = 0
    · rw [if_pos c]
      refine ⟨j, by omega, rfl, ?_⟩
      rw [zhit_i]
      constructor
      · intro h; omega
      · intro h; exact absurd ⟨j, by omega, c⟩ h
    · rw [if_neg c, nm_s, zl_1, zI_add]
      refine ih q (j + 1) (by omega) (by omega) (fun i hi => ?_)
      by_cases hij : i = j
      · subst hij; exact c
      · exact hno i (by omega)
def zI1 (v : mS) (T : Nat) (r : Nat × (Nat → zT)) : Prop := ∀ k, k < r.1 → ∃ b, v 2 k = zI b ∧ zV (v 4) T b (r.2 k)
theorem zwo_n (x y : zT) : ∀ k, (zwo x y k).1 ≤ k := by
  intro k
  induction k with
  | zero => exact Nat.le_refl _
  | succ k ih => simp only [zwo]; split <;> first | omega | (dsimp only; omega)
theorem c_minus_l (kt : zk t = 5) (ku : zk u = 5) (hT : T + 16 ≤ 65000) : ∀ (m q k : Nat) (v : mS), zM g v T → zV (v 4) T a t → zV (v 4) T b u → k + m = zl t → m < q → zI1 v T (zwo t u k) → zP (f_V_minus_61 q (zI a) (zI b) (zI (zwo t u k).1) (zI k) g v) g v T 16 (zmkA (zwo t u (zl t)).1 (zwo t u (zl t)).2) := by
  intro m
  induction m with
  | zero =>
    intro q k v hM ha hb hk hq h1
    obtain ⟨q, rfl, -⟩ := suc_of hq
    have lt := zwf_l ha.2
    have hn := zwo_n t u k
    have hkt : k = zl t := by omega
    rw [f_V_minus_61, c_len hM ha, bi_s, iI_le (by omega) (by omega), if_pos (by omega), bo_id (fun r g v => by rfl)]
    rw [← hkt]
    exact c_arrayOf hM (x := 2) (by decide) (show _ ≤ 24 by omega) (Nat.le_refl 24) (Or.inl rfl) h1 hT
  | succ m ih =>
    intro q k v hM ha hb hk hq h1
    obtain ⟨q, rfl, hq⟩ := suc_of hq
    have hq := Nat.lt_of_succ_lt_succ hq
    have lt := zwf_l ha.2
    have lu := zwf_l hb.2
    have hn := zwo_n t u k
    obtain ⟨j', hj', ej, hz⟩ := c_minus_in (K := f_V_minus_61 q) (n := (zwo t u k).1) hM ha hb kt ku (show k < zl t by omega) (zl u) fu 0 (by omega) (fu_lt (by omega)) (fun i hi => absurd hi (by omega))
    rw [f_V_minus_61, c_len hM ha, bi_s, iI_le (by omega) (by omega), if_neg (by omega), zl_0, ej, f_V_minus_111, c_len hM hb, bi_s, iI_eq (by omega) (by omega)]
    have e9 : zwo t u (k + 1) = if zhit (zc t k) u (zl u) = true then zwo t u k else ((zwo t u k).1 + 1, va_up (zwo t u k).2 (zwo t u k).1 (zc t k)) := rfl
    by_cases c : j' = zl u
    · have hh := hz.1 c
      rw [if_neg hh] at e9
      obtain ⟨p, ep, hp⟩ := c_item hM ha (by omega) (show k < zl t by omega)
      rw [if_pos c, ep, bi_s, gd_I (by omega) (by omega), nm_s, nm_s, zI_toNat (by omega), f_V_minus_137, nm_s, zl_1, zI_add, zI_add]
      have e4 : sU v 2 (zwo t u k).1 (zI p) 4 = v 4 := sU_j (by decide)
      have hE1 : zE g v T g (sU v 2 (zwo t u k).1 (zI p)) T := ⟨Nat.le_refl _, rfl, rfl, Nat.le_refl _, fun i _ => by rw [e4], fun j j1 j2 j3 j4 => sU_j j2⟩
      have hih := ih q (k + 1) (sU v 2 (zwo t u k).1 (zI p)) (zM_w hM (sU_j (by decide)) (fun i _ => by rw [e4])) (by rw [e4]; exact ha) (by rw [e4]; exact hb) (by omega) hq (by
        rw [e9]
        intro i hi
        try dsimp only at hi ⊢
        rw [e4]
        by_cases ci : i = (zwo t u k).1
        · subst ci
          refine ⟨p, sU_hit, ?_⟩
          unfold va_up; rw [if_pos rfl]; exact hp
        · obtain ⟨w, ew, hw⟩ := h1 i (by omega)
          refine ⟨w, ?_, ?_⟩
          · rw [sU_k ci]; exact ew
          · unfold va_up; rw [if_neg ci]; exact hw)
      rw [e9] at hih
      obtain ⟨g2, v2, T2, m2, e2, hT2, p2⟩ := hih
      exact ⟨g2, v2, T2, m2, hE1.tr e2, hT2, p2⟩
    · have hh : zhit (zc t k) u (zl u) = true := by
        cases hzz : zhit (zc t k) u (zl u) with
        | true => rfl
        | false => exact absurd (hz.2 (by rw [hzz]; decide)) c
      rw [if_pos hh] at e9
      rw [if_neg c, f_V_minus_137, nm_s, zl_1, zI_add]
      have hih := ih q (k + 1) v hM ha hb (by omega) hq (by rw [e9]; exact h1)
      rw [e9] at hih
      exact hih
theorem c_minus (hM : zM g v T) (ha : zV (v 4) T a t) (hb : zV (v 4) T b u) (hT : T + 16 ≤ 65000) : zP (f_V_minus g v (zI a) (zI b)) g v T 16 (zsub t u) := by
  have ka := ha.2.1
  have kb := hb.2.1
  refine zP_mg ?_
  have h36 : ¬ (zk t = 3 ∧ zk u = 3) → zP (f_V_minus_36 (zI a) (zI b) g v) g v T 16 (zsub t u) := by
    intro hn
    simp (disch := omega) only [f_V_minus_36, c_kind hM ha, c_kind hM hb, bi_s, zl_5, zI_eq]
    unfold zsub
    rw [if_neg hn]
    by_cases c : zk t = 5
    · rw [if_pos c]
      by_cases d : zk u = 5
      · rw [if_pos d, if_pos ⟨c, d⟩]
        exact c_minus_l c d hT (zl t) fu 0 v hM ha hb (by omega) (fu_lt (by have := zwf_l ha.2; omega)) (fun k hk => absurd hk (by simp [zwo]))
      · rw [if_neg d, if_neg (fun h => d h.2)]
        exact zP_er hM
    · rw [if_neg c, if_neg (fun h => c h.1)]
      exact zP_er hM
  simp (disch := omega) only [c_kind hM ha, c_kind hM hb, bi_s, zl_3, zl_6, zI_eq]
  by_cases c3 : zk t = 3
  · rw [if_pos c3]
    by_cases d3 : zk u = 3
    · rw [if_pos d3, c_mill hM ha c3, bi_s, c_mill hM hb d3, bi_s, zK_sub, bo_id (fun r g v => by rfl)]
      unfold zsub
      rw [if_pos ⟨c3, d3⟩, ← znum_6]
      have b1 := zok_b (ha.2.2.2.2.2.2.1 c3)
      have b2 := zok_b (hb.2.2.2.2.2.2.1 d3)
      exact zP_le (c_number hM (by omega) (by omega) (by omega) (by omega)) (by omega)
    · rw [if_neg d3]
      exact h36 (fun h => d3 h.2)
  · rw [if_neg c3]
    exact h36 (fun h => c3 h.1)
theorem zprod_b {x y : Int} (h1 : -999999999 ≤ x) (h2 : x ≤ 999999999) (h3 : -999999999 ≤ y) (h4 : y ≤ 999999999) : -1000000000000000000 ≤ x * y ∧ x * y ≤ 1000000000000000000 := by
  have h : (x * y).natAbs ≤ 999999999 * 999999999 := by
    rw [Int.natAbs_mul]
    exact Nat.mul_le_mul (by omega) (by omega)
  omega
theorem c_times (hM : zM g v T) (ha : zV (v 4) T a t) (hb : zV (v 4) T b u) (hT : T + 16 ≤ 65000) : zP (f_V_times g v (zI a) (zI b)) g v T 16 (zmul t u) := by
  have ka := ha.2.1
  have kb := hb.2.1
  refine zP_mg ?_
  simp (disch := omega) only [c_kind hM ha, c_kind hM hb, bi_s, zl_3, zI_eq]
  unfold zmul
  by_cases c3 : zk t = 3
  · rw [if_pos c3]
    by_cases d3 : zk u = 3
    · rw [if_pos d3, if_pos ⟨c3, d3⟩, c_whole hM ha c3, bi_s, c_whole hM hb d3, bi_s, c_scale hM ha c3, bi_s, c_scale hM hb d3, bi_s, zI_add, bo_id (fun r g v => by rfl)]
      obtain ⟨b1, b2⟩ := ha.2.2.2.2.2.2.1 c3
      obtain ⟨b3, b4⟩ := hb.2.2.2.2.2.2.1 d3
      have s1 := zred_s 6 (zv t)
      have s2 := zred_s 6 (zv u)
      have hp := zprod_b b1 b2 b3 b4
      rw [zJ_64 (by omega) (by omega), zJ_64 (by omega) (by omega), zK_mul]
      exact zP_le (c_number hM (by omega) hp.1 hp.2 (by omega)) (by omega)
    · rw [if_neg d3, if_neg (fun h => d3 h.2)]
      exact zP_er hM
  · rw [if_neg c3, if_neg (fun h => c3 h.1)]
    exact zP_er hM
theorem ztd_b {m : Int} (h : zokN m) : -999999999 ≤ m.tdiv 1000000 ∧ m.tdiv 1000000 ≤ 999999999 := by
  have hb := zok_b h
  rw [Int.tdiv_eq_ediv]
  have e9 : Int.sign (1000000 : Int) = 1 := rfl
  rw [e9]
  split <;> omega
theorem c_rest (hM : zM g v T) (ha : zV (v 4) T a t) (hb : zV (v 4) T b u) (hT : T + 16 ≤ 65000) : zP (f_V_rest g v (zI a) (zI b)) g v T 16 (zrem t u) := by
  have ka := ha.2.1
  have kb := hb.2.1
  refine zP_mg ?_
  simp (disch := omega) only [c_kind hM ha, c_kind hM hb, bi_s, zl_3, zI_eq]
  unfold zrem
  by_cases c3 : zk t = 3
  · rw [if_pos c3]
    by_cases d3 : zk u = 3
    · rw [if_pos d3, if_pos ⟨c3, d3⟩, c_tz hM hb d3, bi_s]
      have b1 := ztd_b (ha.2.2.2.2.2.2.1 c3)
      have b2 := ztd_b (hb.2.2.2.2.2.2.1 d3)
      have e0 : (zJ ((zv u).tdiv 1000000) = 0) = ((zv u).tdiv 1000000 = 0) := by
        rw [zl_0, zI_J, zJ_eq (by omega) (by omega) (by omega) (by omega)]; rfl
      rw [ite_p e0]
      by_cases c : (zv u).tdiv 1000000 = 0
      · rw [if_pos c, if_pos c]
        exact ⟨g, v, T, hM, zE.rf, by omega, rfl⟩
      · rw [if_neg c, if_neg c, c_tz hM ha c3, bi_s, gd_t (by simpa [e0] using c)]
        generalize (zv u).tdiv 1000000 = y at *
        generalize (zv t).tdiv 1000000 = x at *
        have hr : x - x.tdiv y * y = x.tmod y := by rw [Int.tmod_def, Int.mul_comm y]
        have hb3 := ztm_le x y
        rw [zJ_div (by omega) (by omega) (by omega) (by omega), zJ_mul, zJ_sub, hr, zJ_64 (by omega) (by omega), bo_id (fun r g v => by rfl), ← znum_0]
        have h9 := c_number (s := 0) (w := x.tmod y) hM (by omega) (by omega) (by omega) (by omega)
        exact zP_le h9 (by omega)
    · rw [if_neg d3, if_neg (fun h => d3 h.2)]
      exact zP_er hM
  · rw [if_neg c3, if_neg (fun h => c3 h.1)]
    exact zP_er hM
end CP
