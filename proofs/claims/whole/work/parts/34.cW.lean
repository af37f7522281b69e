/-! the class's Values, made: open, closed, numberOf, arrayOf .. : what they make of trees; the cells below the top stay -/
def zE (g : Nat → Nat) (v : mS) (T : Nat) (g' : Nat → Nat) (v' : mS) (T' : Nat) : Prop := T ≤ T' ∧ g' 5 = g 5 ∧ g' 25 = g 25 ∧ g 4 ≤ g' 4 ∧ (∀ i, i < T → v' 4 i = v 4 i) ∧ ∀ j, j ≠ 1 → j ≠ 2 → j ≠ 3 → j ≠ 4 → v' j = v j
theorem zE.rf {g : Nat → Nat} {v : mS} {T : Nat} : zE g v T g v T := ⟨Nat.le_refl _, rfl, rfl, Nat.le_refl _, fun _ _ => rfl, fun _ _ _ _ _ => rfl⟩
theorem zE.tr {g g1 g2 : Nat → Nat} {v v1 v2 : mS} {T T1 T2 : Nat} (h : zE g v T g1 v1 T1) (k : zE g1 v1 T1 g2 v2 T2) : zE g v T g2 v2 T2 := by
  obtain ⟨h1, h2, h3, h4, h5, h6⟩ := h
  obtain ⟨k1, k2, k3, k4, k5, k6⟩ := k
  exact ⟨by omega, by omega, by omega, by omega, fun i hi => (k5 i (by omega)).trans (h5 i hi), fun j a b c d => (k6 j a b c d).trans (h6 j a b c d)⟩
theorem zE.L {g g' : Nat → Nat} {v v' : mS} {T T' : Nat} (h : zE g v T g' v' T') : gL g ≤ gL g' := by
  have h2 := h.2.1
  have h4 := h.2.2.2.1
  unfold gL; omega
theorem zE.V {g g' : Nat → Nat} {v v' : mS} {T T' a : Nat} {t : zT} (h : zE g v T g' v' T') (k : zV (v 4) T a t) : zV (v' 4) T' a t := zV_up k h.2.2.2.2.1 h.1
theorem zE.X {g g' : Nat → Nat} {v v' : mS} {T T' a : Nat} {x : zN} (h : zE g v T g' v' T') (k : zRX (v 4) T a x) : zRX (v' 4) T' a x := zRX_up k h.2.2.2.2.1 h.1
theorem zB_up {c c' : Nat → Int32} (h : zB c) (hc : ∀ i, i < 118 → c' i = c i) : zB c' := ⟨fun k hk => zV_up (h.1 k hk) hc (Nat.le_refl _), zRX_up h.2.1 hc (Nat.le_refl _), fun k hk => zV_up (h.2.2 k hk) hc (Nat.le_refl _)⟩
def zPr (F : Option (bO Int32)) (g : Nat → Nat) (v : mS) (T : Nat) (sp : Option (Nat ⊕ zT)) : Prop := match sp with
  | none => F = some (.inr 3, g, v)
  | some (.inl e) => F = some (.inl (zJ (-(e : Int))), g, v)
  | some (.inr t) => ∃ a, F = some (.inl (zI a), g, v) ∧ zV (v 4) T a t
def zP (F : Option (bO Int32)) (g : Nat → Nat) (v : mS) (T cost : Nat) (sp : Option (Nat ⊕ zT)) : Prop := ∃ g' v' T', zM g' v' T' ∧ zE g v T g' v' T' ∧ T' ≤ T + cost ∧ zPr F g' v' T' sp
theorem bo_id {α : Type} {F : Option (bO α)} {K : α → (Nat → Nat) → mS → Option (bO α)} (h : ∀ r g v, K r g v = some (.inl r, g, v)) : bo F K = F := by
  cases F with
  | none => rfl
  | some o =>
    obtain ⟨r, g, v⟩ := o
    cases r with
    | inr k => rfl
    | inl r => exact bo_l (h r g v) (Nat.le_refl _)
theorem zPr_some {F : Option (bO Int32)} {g : Nat → Nat} {v : mS} {T : Nat} {sp : Option (Nat ⊕ zT)} (h : zPr F g v T sp) : ∃ r, F = some (r, g, v) := by
  unfold zPr at h
  split at h
  · exact ⟨_, h⟩
  · exact ⟨_, h⟩
  · obtain ⟨a, h, -⟩ := h; exact ⟨_, h⟩
theorem zP_mg {F : Option (bO Int32)} {g : Nat → Nat} {v : mS} {T c : Nat} {sp : Option (Nat ⊕ zT)} (h : zP F g v T c sp) : zP (mg g F) g v T c sp := by
  obtain ⟨g', v', T', h1, h2, h3, h4⟩ := h
  obtain ⟨r, e⟩ := zPr_some h4
  have : mg g F = F := by rw [e]; exact mg_s rfl h2.L
  rw [this]
  exact ⟨g', v', T', h1, h2, h3, h4⟩
theorem zP_le {F : Option (bO Int32)} {g : Nat → Nat} {v : mS} {T c c' : Nat} {sp : Option (Nat ⊕ zT)} (h : zP F g v T c sp) (hc : c ≤ c') : zP F g v T c' sp := by
  obtain ⟨g', v', T', h1, h2, h3, h4⟩ := h
  exact ⟨g', v', T', h1, h2, by omega, h4⟩
theorem zP_of {g : Nat → Nat} {v : mS} {T c a : Nat} {t : zT} (hM : zM g v T) (h : zV (v 4) T a t) : zP (some (.inl (zI a), g, v)) g v T c (some (.inr t)) := ⟨g, v, T, hM, zE.rf, by omega, a, rfl, h⟩
theorem zP_er {g : Nat → Nat} {v : mS} {T c : Nat} (hM : zM g v T) : zP (some (.inl (-1), g, v)) g v T c (some (.inl 1)) := ⟨g, v, T, hM, zE.rf, by omega, rfl⟩
theorem zP_rm {g : Nat → Nat} {v : mS} {T c : Nat} (hM : zM g v T) : zP (some (.inr 3, g, v)) g v T c none := ⟨g, v, T, hM, zE.rf, by omega, rfl⟩
section CW
variable {g : Nat → Nat} {v : mS} {T a b : Nat} {t u : zT}
def hd4 (v : mS) (a : Nat) (x y : Int32) : mS := sU (sU (sU (sU v 4 a x) 4 (a + 1) y) 4 (a + 2) 1) 4 (a + 3) 0
theorem hd4_j {x y : Int32} {j : Nat} (h : j ≠ 4) : hd4 v a x y j = v j := by
  unfold hd4
  rw [sU_j h, sU_j h, sU_j h, sU_j h]
theorem hd4_k {x y : Int32} {i : Nat} (h : i < a ∨ a + 4 ≤ i) : hd4 v a x y 4 i = v 4 i := by
  unfold hd4
  rw [sU_k (by omega), sU_k (by omega), sU_k (by omega), sU_k (by omega)]
theorem hd4_0 {x y : Int32} : hd4 v a x y 4 a = x ∧ hd4 v a x y 4 (a + 1) = y ∧ hd4 v a x y 4 (a + 2) = 1 ∧ hd4 v a x y 4 (a + 3) = 0 := by
  unfold hd4
  refine ⟨?_, ?_, ?_, ?_⟩
  · rw [sU_k (by omega), sU_k (by omega), sU_k (by omega), sU_hit]
  · rw [sU_k (by omega), sU_k (by omega), sU_hit]
  · rw [sU_k (by omega), sU_hit]
  · rw [sU_hit]
theorem c_head {x y : Int32} (h : a + 4 ≤ g 4) (hg : g 4 ≤ 2147483647) : f_V_setHead g v (zI a) x y = some (hd4 v a x y) := by
  simp (disch := omega) only [f_V_setHead, zl_1, zl_2, zl_3, zI_add, gd_I, zI_toNat, nm_s]
  rfl
theorem c_cells {kind len : Nat} (hk : kind ≤ 6) (hl : len ≤ 24) : f_V_cellsFor g v (zI kind) (zI len) = some (zI (if kind = 3 then 6 else if kind = 6 then 4 + 2 * len else 4 + len), v) := by
  rw [f_V_cellsFor, zl_3, zl_6, zl_4, zl_2, iI_eq (by omega) (by omega), iI_eq (by omega) (by omega), zI_mul, zI_add, zI_add]
  by_cases c3 : kind = 3
  · rw [if_pos c3, if_pos c3]
  · rw [if_neg c3, if_neg c3]
    by_cases c6 : kind = 6
    · rw [if_pos c6, if_pos c6]
    · rw [if_neg c6, if_neg c6]
theorem c_grow {n : Nat} (h1 : 2 * g 4 ≤ n) (h2 : g 4 < n) (h3 : n ≤ 1000000) : f_V_grow g v (zI n) = some (.inl (), va_up g 4 n, fun a => if a = 4 then (fun k => if k < g 4 then v 4 k else 0) else v a) := by
  have h0 : (0 : Int32) ≤ zI n := by rw [zl_0, zI_le (by omega) (by omega)]; omega
  unfold f_V_grow
  rw [zI_toNat (by omega)]
  refine mg_s (gd_t ?_) ?_
  · simp [h0, h1, h2, h3]
  · simp [gL, va_up]; omega
theorem c_open_no {kind len : Nat} (hk : kind ≤ 6) (hlen : len ≤ 24) (hl : (if kind = 6 then 6 else 12) < len) : f_V_open g v (zI kind) (zI len) = some (.inr 3, g, v) := by
  refine mg_s ?_ (Nat.le_refl _)
  rw [zl_6, iI_eq (by omega) (by omega)]
  by_cases c6 : kind = 6
  · rw [if_pos c6] at hl
    rw [if_pos c6, f_V_open_14, iI_le (by omega) (by omega), if_neg (by omega)]
  · rw [if_neg c6] at hl
    rw [if_neg c6, f_V_open_14, zl_12, iI_le (by omega) (by omega), if_neg (by omega)]
theorem c_open_14 (hM : zM g v T) {kind len lim c : Nat} (hk : kind ≤ 6) (hlim : lim ≤ 24) (hl : len ≤ lim) (hc : c = if kind = 3 then 6 else if kind = 6 then 4 + 2 * len else 4 + len) (hT : T + c ≤ 65000) : ∃ g' v', f_V_open_14 (zI kind) (zI len) (zI len) (zI lim) g v = some (.inl (zI T), g', v') ∧ zM g' v' (T + c) ∧ zE g v T g' v' (T + c) ∧ v' 4 T = zI kind ∧ v' 4 (T + 1) = zI len ∧ v' 4 (T + 2) = zI 1 ∧ v' 4 (T + 3) = zI 0 ∧ v' 2 = v 2 ∧ v' 3 = v 3 := by
  have hc4 : 4 ≤ c := by
    rw [hc]; split <;> first | omega | (split <;> omega)
  obtain ⟨m1, m2, m3, m4, m5, m6⟩ := hM
  rw [f_V_open_14, iI_le (by omega) (by omega), if_pos hl, nm_s, c_cells hk (by omega), bi_s, ← hc, nm_s, m1, zI_add, sU_hit, zI_of, iI_le (by omega) (by omega)]
  by_cases c1 : T + c ≤ g 4
  · rw [if_pos c1, f_V_open_75, c_head (by omega) (by omega), bv_s]
    obtain ⟨e0, e1, e2, e3⟩ := hd4_0 (v := sU v 1 4 (zI (T + c))) (a := T) (x := zI kind) (y := zI len)
    refine ⟨g, _, rfl, ⟨?_, by omega, by omega, hT, m5, ?_⟩, ⟨by omega, rfl, rfl, Nat.le_refl _, ?_, ?_⟩, e0, e1, e2, e3, ?_, ?_⟩
    · rw [hd4_j (by decide), sU_hit]
    · refine zB_up m6 (fun i hi => ?_)
      rw [hd4_k (by omega), sU_j (by decide)]
    · intro i hi
      rw [hd4_k (by omega), sU_j (by decide)]
    · intro j j1 j2 j3 j4
      rw [hd4_j j4, sU_j j1]
    · rw [hd4_j (by decide), sU_j (by decide)]
    · rw [hd4_j (by decide), sU_j (by decide)]
  · rw [if_neg c1, zl_2, zI_mul, c_grow (by omega) (by omega) (by omega)]
    obtain ⟨e0, e1, e2, e3⟩ := hd4_0 (v := fun a => if a = 4 then (fun k => if k < g 4 then sU v 1 4 (zI (T + c)) 4 k else 0) else sU v 1 4 (zI (T + c)) a) (a := T) (x := zI kind) (y := zI len)
    refine ⟨va_up g 4 (2 * (T + c)), _, bo_l (o := (.inl (zI T), va_up g 4 (2 * (T + c)), _)) ?_ (Nat.le_refl _), ⟨?_, by omega, ?_, hT, ?_, ?_⟩, ⟨by omega, rfl, rfl, ?_, ?_, ?_⟩, e0, e1, e2, e3, ?_, ?_⟩
    · rw [f_V_open_75, c_head (by simp [va_up]; omega) (by simp [va_up]; omega), bv_s]
    · rw [hd4_j (by decide)]
      simp [sU_hit]
    · simp [va_up]; omega
    · simp [va_up]; omega
    · refine zB_up m6 (fun i hi => ?_)
      rw [hd4_k (by omega)]
      simp only [if_true]
      rw [if_pos (by omega), sU_j (by decide)]
    · simp [va_up]; omega
    · intro i hi
      rw [hd4_k (by omega)]
      simp only [if_true]
      rw [if_pos (by omega), sU_j (by decide)]
    · intro j j1 j2 j3 j4
      rw [hd4_j j4]
      simp only [if_neg j4]
      rw [sU_j j1]
    · rw [hd4_j (by decide)]
      simp only [show ¬ (2 : Nat) = 4 by decide, if_false]
      rw [sU_j (by decide)]
    · rw [hd4_j (by decide)]
      simp only [show ¬ (3 : Nat) = 4 by decide, if_false]
      rw [sU_j (by decide)]
theorem c_open (hM : zM g v T) {kind len c : Nat} (hk : kind ≤ 6) (hl : len ≤ if kind = 6 then 6 else 12) (hc : c = if kind = 3 then 6 else if kind = 6 then 4 + 2 * len else 4 + len) (hT : T + c ≤ 65000) : ∃ g' v', f_V_open g v (zI kind) (zI len) = some (.inl (zI T), g', v') ∧ zM g' v' (T + c) ∧ zE g v T g' v' (T + c) ∧ v' 4 T = zI kind ∧ v' 4 (T + 1) = zI len ∧ v' 4 (T + 2) = zI 1 ∧ v' 4 (T + 3) = zI 0 ∧ v' 2 = v 2 ∧ v' 3 = v 3 := by
  by_cases c6 : kind = 6
  · rw [if_pos c6] at hl
    obtain ⟨g', v', h, hm, he, r⟩ := c_open_14 hM hk (by omega) hl hc hT
    refine ⟨g', v', ?_, hm, he, r⟩
    refine mg_s ?_ he.L
    rw [zl_6, iI_eq (by omega) (by omega), if_pos c6, h]
  · rw [if_neg c6] at hl
    obtain ⟨g', v', h, hm, he, r⟩ := c_open_14 hM hk (by omega) hl hc hT
    refine ⟨g', v', ?_, hm, he, r⟩
    refine mg_s ?_ he.L
    rw [zl_6, iI_eq (by omega) (by omega), if_neg c6, zl_12, h]
/-- writes behind the old top keep what is below -/
theorem zM_w {w : mS} {T' : Nat} (hM : zM g v T') (h1 : w 1 = v 1) (h4 : ∀ i, i < 118 → w 4 i = v 4 i) : zM g w T' := by
  obtain ⟨m1, m2, m3, m4, m5, m6⟩ := hM
  exact ⟨by rw [h1]; exact m1, m2, m3, m4, m5, zB_up m6 h4⟩
theorem zE_w {g' : Nat → Nat} {v' w : mS} {T' : Nat} (h : zE g v T g' v' T') (h4 : ∀ i, i < T → w 4 i = v' 4 i) (hj : ∀ j, j ≠ 1 → j ≠ 2 → j ≠ 3 → j ≠ 4 → w j = v' j) : zE g v T g' w T' := by
  obtain ⟨h1, h2, h3, h5, h6, h7⟩ := h
  exact ⟨h1, h2, h3, h5, fun i hi => (h4 i hi).trans (h6 i hi), fun j a b c d => (hj j a b c d).trans (h7 j a b c d)⟩
/-- numbers -/
theorem c_num_l : ∀ (s n : Nat) (w : Int), s < n → s ≤ 12 → -1000000000000000000 ≤ w → w ≤ 1000000000000000000 → f_V_numberOf_6 n (zK w) (zI s) g v = f_V_numberOf_36 (zK (zred s w).1) (zI (zred s w).2) g v := by
  intro s
  induction s with
  | zero =>
    intro n w hn _ _ _
    obtain ⟨n, rfl, -⟩ := suc_of hn
    rw [f_V_numberOf_6, zl_0, iI_le (by omega) (by omega), if_pos (by omega)]
    rfl
  | succ s ih =>
    intro n w hn hs h1 h2
    obtain ⟨n, rfl, hn⟩ := suc_of hn
    have hn := Nat.lt_of_succ_lt_succ hn
    have hq : -1000000000000000000 ≤ w.tdiv 10 ∧ w.tdiv 10 ≤ 1000000000000000000 := by
      have := Int.natAbs_tdiv_le_natAbs w 10
      omega
    have hr := zrem_b w
    have hb := zsg_b (w - w.tdiv 10 * 10 - 0)
    rw [f_V_numberOf_6, zl_0, iI_le (by omega) (by omega), if_neg (by omega), zkl_10, zkl_0, zK_div (by omega) (by omega) (by omega) (by omega), zK_mul, zK_sub, zK_cmp (by omega) (by omega) (by omega) (by omega), zI_J 0, iJ_eq (by omega) (by omega) (by omega) (by omega)]
    have e0 : (zsg (w - w.tdiv 10 * 10 - 0) = ((0 : Nat) : Int)) = (w % 10 = 0) := by
      rw [← zrem10 w, Int.sub_zero]
      exact zsg_0 _
    rw [ite_p e0]
    simp only [zred]
    by_cases c : w % 10 = 0
    · rw [if_pos c, if_pos c, nm_s, nm_s, zI_dec (by omega), ztdiv10 c]
      have := ztdiv10 c
      exact ih n (w / 10) (by omega) (by omega) (by omega) (by omega)
    · rw [if_neg c, if_neg c]
def znum (s : Nat) (w : Int) : Option (Nat ⊕ zT) := if (zred s w).2 ≤ 6 ∧ -999999999 ≤ (zred s w).1 ∧ (zred s w).1 ≤ 999999999 then some (.inr (zQ ((zred s w).1 * 10 ^ (6 - (zred s w).2)))) else none
def zmkN (m : Int) : Option (Nat ⊕ zT) := if -999999999 ≤ (zred 6 m).1 ∧ (zred 6 m).1 ≤ 999999999 then some (.inr (zQ m)) else none
theorem znum_6 (w : Int) : znum 6 w = zmkN w := by
  have h1 := zred_s 6 w
  have h2 := zred_eq 6 w
  unfold znum zmkN
  rw [h2]
  simp [h1]
theorem znum_3 (w : Int) : znum 3 w = zmkN (w * 1000) := by
  have h1 := zred_s 3 w
  have h2 := zred_36 w
  have h3 := zred_eq 6 (w * 1000)
  unfold znum zmkN
  rw [← h2, h3]
  have : (zred 6 (w * 1000)).2 ≤ 6 := zred_s 6 _
  simp [this]
theorem znum_0 (w : Int) : znum 0 w = zmkN (w * 1000000) := by
  unfold znum zmkN
  rw [zred_06]
  simp [zred]
theorem zV_Q {c : Nat → Int32} {top : Nat} {m : Int} (h1 : a + 6 ≤ top) (h2 : c a = zI 3) (h3 : c (a + 1) = zI 0) (h4 : c (a + 2) = zI 1) (h5 : c (a + 3) = zI 0) (h6 : c (a + 4) = zJ (zred 6 m).1) (h7 : c (a + 5) = zI (zred 6 m).2) (hm : zokN m) (h8 : a < 118 → a + 6 ≤ 118) : zV c top a (zQ m) := by
  have k3 : zk (zQ m) = 3 := rfl
  have s1 : zs (zQ m) = 1 := rfl
  have d0 : zd (zQ m) = 0 := rfl
  have l0 : zl (zQ m) = 0 := rfl
  exact ⟨⟨by omega, h2, h3, h4, h5, fun _ => ⟨h1, h6, h7⟩, fun hk => absurd hk (by omega), fun hk => absurd hk (by omega), fun hk => absurd hk (by omega), fun ha => ⟨by omega, by have := h8 ha; omega, fun _ => h8 ha⟩⟩, ⟨by omega, by omega, by omega, fun _ => ⟨s1, d0⟩, fun _ => l0, fun _ => hm, fun hk => absurd hk (by omega), fun hk => absurd hk (by omega), fun hk => absurd hk (by omega), fun hk => absurd hk (by omega)⟩⟩
theorem c_number (hM : zM g v T) {s : Nat} {w : Int} (hs : s ≤ 12) (h1 : -1000000000000000000 ≤ w) (h2 : w ≤ 1000000000000000000) (hT : T + 6 ≤ 65000) : zP (f_V_numberOf g v (zK w) (zI s)) g v T 6 (znum s w) := by
  refine zP_mg ?_
  rw [c_num_l s fu w (fu_lt (by omega)) hs h1 h2]
  have hb := zred_b s w 1000000000000000000 (by omega) h1 h2
  have hS := zred_s s w
  have hup := zred_up (s := s) (w := w)
  unfold znum
  generalize zred s w = r at *
  obtain ⟨M, S⟩ := r
  dsimp only at *
  have hb1 := zsg_b (M - 999999999)
  have hb2 := zsg_b (M - -999999999)
  rw [f_V_numberOf_36, zl_6, iI_lt (by omega) (by omega), zkl_m9, zkl_9, zK_cmp (by omega) (by omega) (by omega) (by omega), zK_cmp (by omega) (by omega) (by omega) (by omega), iJ_0lt (by omega) (by omega), iJ_0le (by omega) (by omega), ite_p (zsg_pos _), ite_p (zsg_nn _)]
  by_cases c1 : 6 < S
  · rw [if_pos c1, if_neg (by omega)]
    exact zP_rm hM
  · rw [if_neg c1]
    by_cases c2 : 0 < M - 999999999
    · rw [if_pos c2, if_neg (by omega)]
      exact zP_rm hM
    · rw [if_neg c2]
      by_cases c3 : 0 ≤ M - -999999999
      · rw [if_pos c3, if_pos (by omega)]
        obtain ⟨g', v', ho, hm, he, e0, e1, e2, e3, -, -⟩ := c_open hM (kind := 3) (len := 0) (c := 6) (by omega) (by simp) (by simp) hT
        obtain ⟨m1, m2, m3, m4, m5, m6⟩ := id hm
        have n2 := hM.2.1
        have hn : f_V_numberOf_77 (zK M) (zI S) (zI T) g' v' = some (.inl (zI T), g', sU (sU v' 4 (T + 4) (zJ M)) 4 (T + 5) (zI S)) := by
          simp (disch := omega) only [f_V_numberOf_77, zl_4, zl_1, zI_add, gd_I, zI_toNat, nm_s, zK_32]
        have ho : f_V_open g v 3 0 = some (.inl (zI T), g', v') := ho
        rw [ho, bo_l hn (Nat.le_refl _)]
        have hup := hup (by omega)
        refine ⟨g', _, T + 6, zM_w hm ?_ ?_, zE_w he ?_ ?_, Nat.le_refl _, T, rfl, ?_⟩
        · rw [sU_j (by decide), sU_j (by decide)]
        · intro i hi
          rw [sU_k (by omega), sU_k (by omega)]
        · intro i hi
          rw [sU_k (by omega), sU_k (by omega)]
        · intro j _ _ _ j4
          rw [sU_j j4, sU_j j4]
        · refine zV_Q (by omega) ?_ ?_ ?_ ?_ ?_ ?_ ?_ (fun h => absurd h (by omega))
          · rw [sU_k (by omega), sU_k (by omega)]; exact e0
          · rw [sU_k (by omega), sU_k (by omega)]; exact e1
          · rw [sU_k (by omega), sU_k (by omega)]; exact e2
          · rw [sU_k (by omega), sU_k (by omega)]; exact e3
          · rw [sU_k (by omega), sU_hit, hup]
          · rw [sU_hit, hup]
          · unfold zokN; rw [hup]; exact ⟨by omega, by omega⟩
      · rw [if_neg c3, if_neg (by omega)]
        exact zP_rm hM
end CW
