/-! the class's Values: a value is moved, 2 -/
section CN
variable {g : Nat → Nat} {v : mS} {T a b : Nat} {t u : zT}
theorem c_mv_open {Kr : (Nat → Nat) → mS → Int32 → Option (bO Int32)} {B : Nat → Int32} {L kind len s d c : Nat} (hM : zM g v T) (hB : v 5 = B) (hg : g 5 = L) (hL : L ≤ 130000) (h118 : 118 ≤ a) (haL : a + 4 ≤ L) (hk : kind ≤ 6) (hlen : len ≤ if kind = 6 then 6 else 12) (e0 : B a = zI kind) (e1 : B (a + 1) = zI len) (e2 : B (a + 2) = zI s) (e3 : B (a + 3) = zI d) (hc : 4 + c = if kind = 3 then 6 else if kind = 6 then 4 + 2 * len else 4 + len) (hT : T + (4 + c) ≤ 65000) : ∃ g1 v1, zM g1 v1 (T + (4 + c)) ∧ zE g v T g1 v1 (T + (4 + c)) ∧ v1 4 T = zI kind ∧ v1 4 (T + 1) = zI len ∧ v1 4 (T + 2) = zI s ∧ v1 4 (T + 3) = zI d ∧ ∀ o, f_V_moved_66 Kr fu (zI a) (zI kind) (zI T) (zI (a + (4 + 0))) g1 v1 = some o → gL g1 ≤ gL o.2.1 → f_V_movedb Kr g v (zI a) = some o := by
  obtain ⟨g1, v0, ho, hm, he, x0, x1, x2, x3, -, -⟩ := c_open hM hk hlen hc hT
  obtain ⟨m1, m2, m3, m4, m5, m6⟩ := id hm
  have n2 := hM.2.1
  have h5 : v0 5 = B := by rw [he.2.2.2.2.2 5 (by decide) (by decide) (by decide) (by decide)]; exact hB
  have hg1 : g1 5 = L := by rw [he.2.1]; exact hg
  refine ⟨g1, sU (sU v0 4 (T + 2) (zI s)) 4 (T + 3) (zI d), zM_w hm ?_ ?_, zE_w he ?_ ?_, ?_, ?_, ?_, ?_, ?_⟩
  · rw [sU_j (by decide), sU_j (by decide)]
  · intro i hi
    rw [sU_k (by omega), sU_k (by omega)]
  · intro i hi
    rw [sU_k (by omega), sU_k (by omega)]
  · intro j _ _ _ j4
    rw [sU_j j4, sU_j j4]
  · rw [sU_k (by omega), sU_k (by omega)]; exact x0
  · rw [sU_k (by omega), sU_k (by omega)]; exact x1
  · rw [sU_k (by omega), sU_hit]
  · rw [sU_hit]
  · intro o ho2 hL2
    have h28 : f_V_moved_28 Kr (zI a) (zI kind) (zI T) g1 v0 = some o := by
      rw [f_V_moved_28, zl_2, zl_3, zl_4, zI_add, zI_add, zI_add, zI_add, zI_add, gd_I (by omega) (by omega), gd_I (by omega) (by omega), nm_s, zI_toNat (by omega), zI_toNat (by omega), h5, e2, gd_I (by omega) (by omega), gd_I (by omega) (by omega), nm_s, zI_toNat (by omega), zI_toNat (by omega), sU_j (by decide), h5, e3, nm_s]
      exact ho2
    refine mg_s ?_ (Nat.le_trans he.L hL2)
    have h9 : (118 : Int32) ≤ zI a := by rw [zl_118, zI_le (by omega) (by omega)]; exact h118
    rw [if_pos h9, gd_I (by omega) (by omega), nm_s, zI_toNat (by omega), hB, e0, zl_1, zI_add, gd_I (by omega) (by omega), zI_toNat (by omega), e1, ho]
    exact bo_l h28 hL2
theorem c_mv_lf {Kr : (Nat → Nat) → mS → Int32 → Option (bO Int32)} {B : Nat → Int32} {L kind len s d c : Nat} (hM : zM g v T) (hB : v 5 = B) (hg : g 5 = L) (hL : L ≤ 130000) (h118 : 118 ≤ a) (haL : a + 4 + c ≤ L) (hk : kind < 5) (hlen : len ≤ 12) (e0 : B a = zI kind) (e1 : B (a + 1) = zI len) (e2 : B (a + 2) = zI s) (e3 : B (a + 3) = zI d) (hc : 4 + c = if kind = 3 then 6 else if kind = 6 then 4 + 2 * len else 4 + len) (hT : T + (4 + c) ≤ 65000) : ∃ g' v', f_V_movedb Kr g v (zI a) = some (.inl (zI T), g', v') ∧ zM g' v' (T + (4 + c)) ∧ zE g v T g' v' (T + (4 + c)) ∧ v' 4 T = zI kind ∧ v' 4 (T + 1) = zI len ∧ v' 4 (T + 2) = zI s ∧ v' 4 (T + 3) = zI d ∧ ∀ k, k < c → v' 4 (T + 4 + k) = B (a + 4 + k) := by
  obtain ⟨g1, v1, hm, he, x0, x1, x2, x3, hf⟩ := c_mv_open (Kr := Kr) (c := c) hM hB hg hL h118 (by omega) (by omega) (by rw [if_neg (by omega)]; exact hlen) e0 e1 e2 e3 hc hT
  have h5 : v1 5 = B := by rw [he.2.2.2.2.2 5 (by decide) (by decide) (by decide) (by decide)]; exact hB
  have hg1 : g1 5 = L := by rw [he.2.1]; exact hg
  obtain ⟨m1, m2, m3, m4, m5, m6⟩ := id hm
  have n2 := hM.2.1
  obtain ⟨v', f1, f2, f3, f4⟩ := c_mv_leaf (g := g1) (Kr := Kr) (a := a) (p := T) hk hlen hc (by omega) (by omega) (by omega) (by omega) c fu 0 v1 (by omega) (fu_lt (by split at hc <;> first | omega | (split at hc <;> omega))) (by rw [h5]; exact e1)
  refine ⟨g1, v', hf _ f1 (Nat.le_refl _), zM_w hm (f2 1 (by decide)) (fun i hi => f3 i (by omega)), zE_w he (fun i hi => f3 i (by omega)) (fun j _ _ _ j4 => f2 j j4), ?_, ?_, ?_, ?_, ?_⟩
  · rw [f3 _ (by omega)]; exact x0
  · rw [f3 _ (by omega)]; exact x1
  · rw [f3 _ (by omega)]; exact x2
  · rw [f3 _ (by omega)]; exact x3
  · intro k hk2
    rw [f4 k (by omega) hk2, h5]
theorem zPc_s {t : zT} {n : Nat} (h : zwf n t) : 16 ≤ 34 * zs t - 18 := by
  have := zwf_s1 n t h
  omega
theorem c_mv_low {Kr : (Nat → Nat) → mS → Int32 → Option (bO Int32)} {B : Nat → Int32} {Tb n : Nat} {y : zT ⊕ zN} (hM : zM g v T) (hb : ∀ i, i < 118 → v 4 i = B i) (ha : a < 118) (hs : zPs B Tb n a y) : ∃ g' v' T' p, f_V_movedb Kr g v (zI a) = some (.inl (zI p), g', v') ∧ zM g' v' T' ∧ zE g v T g' v' T' ∧ T' ≤ T + zPc y ∧ zPl (v' 4) T T' n p y := by
  have n2 := hM.2.1
  refine ⟨g, v, T, a, ?_, hM, zE.rf, by omega, ?_⟩
  · refine mg_s ?_ (Nat.le_refl _)
    have h9 : ¬ (118 : Int32) ≤ zI a := by rw [zl_118, zI_le (by omega) (by omega)]; omega
    rw [if_neg h9]
  · cases y with
    | inl t =>
      intro c' hc'
      exact zRC_118 hs.1 ha (fun i hi => (hc' i (Or.inl hi) (by omega)).trans (hb i hi)) n2
    | inr x =>
      intro c' hc'
      exact zRX_118 hs.1 ha (fun i hi => (hc' i (Or.inl hi) (by omega)).trans (hb i hi)) n2
theorem c_mv_X {Kr : (Nat → Nat) → mS → Int32 → Option (bO Int32)} {B : Nat → Int32} {L Tb n : Nat} {x : zN} (hTb : Tb ≤ L) (hL : L ≤ 130000) (hM : zM g v T) (hB : v 5 = B) (hg : g 5 = L) (ha : 118 ≤ a) (hs : zPs B Tb n a (.inr x)) (hT : T + zPc (.inr x) ≤ 65000) : ∃ g' v' T' p, f_V_movedb Kr g v (zI a) = some (.inl (zI p), g', v') ∧ zM g' v' T' ∧ zE g v T g' v' T' ∧ T' ≤ T + zPc (.inr x) ∧ zPl (v' 4) T T' n p (.inr x) := by
  obtain ⟨⟨h1, h2, h3, h4, h5, h6, h7⟩, hx, hx2⟩ := hs
  have hc16 : zPc (.inr x : zT ⊕ zN) = 16 := rfl
  have n2 := hM.2.1
  obtain ⟨g', v', f1, f2, f3, x0, x1, x2, x3, x4⟩ := c_mv_lf (Kr := Kr) (kind := 4) (len := x.1) (s := 1) (d := 0) (c := x.1) hM hB hg hL ha (by omega) (by omega) hx h2 h3 h4 h5 (by simp) (by omega)
  refine ⟨g', v', _, T, f1, f2, f3, by omega, ?_⟩
  intro c' hc'
  refine ⟨by omega, ?_, ?_, ?_, ?_, fun k hk => ?_, fun h => absurd h (by omega)⟩
  · rw [hc' _ (by omega) (by omega)]; exact x0
  · rw [hc' _ (by omega) (by omega)]; exact x1
  · rw [hc' _ (by omega) (by omega)]; exact x2
  · rw [hc' _ (by omega) (by omega)]; exact x3
  · rw [hc' _ (by omega) (by omega), x4 k hk]; exact h6 k hk
theorem c_mv_L {Kr : (Nat → Nat) → mS → Int32 → Option (bO Int32)} {B : Nat → Int32} {L Tb n : Nat} {t : zT} (hTb : Tb ≤ L) (hL : L ≤ 130000) (hM : zM g v T) (hB : v 5 = B) (hg : g 5 = L) (ha : 118 ≤ a) (hs : zPs B Tb (n + 1) a (.inl t)) (hk : zk t < 5) (hT : T + zPc (.inl t) ≤ 65000) : ∃ g' v' T' p, f_V_movedb Kr g v (zI a) = some (.inl (zI p), g', v') ∧ zM g' v' T' ∧ zE g v T g' v' T' ∧ T' ≤ T + zPc (.inl t) ∧ zPl (v' 4) T T' (n + 1) p (.inl t) := by
  obtain ⟨⟨h1, h2, h3, h4, h5, h6, h7, h8, h9, h10⟩, hw⟩ := hs
  have hcc : zPc (.inl t : zT ⊕ zN) = 34 * zs t - 18 := rfl
  have h16 := zPc_s hw
  have n2 := hM.2.1
  have lt := zwf_l hw
  obtain ⟨c, hc⟩ : ∃ c, 4 + c = if zk t = 3 then 6 else if zk t = 6 then 4 + 2 * zl t else 4 + zl t := by
    by_cases c3 : zk t = 3
    · exact ⟨2, by rw [if_pos c3]⟩
    · exact ⟨zl t, by rw [if_neg c3, if_neg (by omega)]⟩
  have hc3 : zk t = 3 → c = 2 := by
    intro h
    rw [if_pos h] at hc
    omega
  have hc4 : zk t ≠ 3 → c = zl t := by
    intro h
    rw [if_neg h, if_neg (by omega)] at hc
    omega
  have hcT : a + 4 + c ≤ Tb := by
    by_cases k3 : zk t = 3
    · have := (h6 k3).1
      have := hc3 k3
      omega
    · by_cases k4 : zk t = 4
      · have := (h7 k4).1
        have := hc4 k3
        omega
      · have := hw.2.2.2.2.1 (by omega)
        have := hc4 k3
        omega
  have hc12 : c ≤ 12 := by
    by_cases k3 : zk t = 3
    · have := hc3 k3; omega
    · have := hc4 k3; omega
  obtain ⟨g', v', f1, f2, f3, x0, x1, x2, x3, x4⟩ := c_mv_lf (Kr := Kr) (kind := zk t) (len := zl t) (s := zs t) (d := zd t) (c := c) hM hB hg hL ha (by omega) hk lt h2 h3 h4 h5 hc (by omega)
  refine ⟨g', v', _, T, f1, f2, f3, by omega, ?_⟩
  intro c' hc'
  refine ⟨by omega, ?_, ?_, ?_, ?_, fun k3 => ?_, fun k4 => ?_, fun h => absurd h (by omega), fun h => absurd h (by omega), fun h => absurd h (by omega)⟩
  · rw [hc' _ (by omega) (by omega)]; exact x0
  · rw [hc' _ (by omega) (by omega)]; exact x1
  · rw [hc' _ (by omega) (by omega)]; exact x2
  · rw [hc' _ (by omega) (by omega)]; exact x3
  · have e2 := hc3 k3
    obtain ⟨q1, q2, q3⟩ := h6 k3
    refine ⟨by omega, ?_, ?_⟩
    · rw [hc' _ (by omega) (by omega), ← q2]; exact x4 0 (by omega)
    · rw [hc' _ (by omega) (by omega), ← q3]; exact x4 1 (by omega)
  · have e2 := hc4 (by omega)
    obtain ⟨q1, q2⟩ := h7 k4
    refine ⟨by omega, fun k hkl => ?_⟩
    rw [hc' _ (by omega) (by omega), x4 k (by omega)]
    exact q2 k hkl
theorem zsm_add {f h : Nat → Nat} : ∀ n, zsm (fun k => f k + h k) n = zsm f n + zsm h n := by
  intro n
  induction n with
  | zero => rfl
  | succ n ih => simp only [zsm]; rw [ih]; omega
theorem zsm_split {f : Nat → Nat} (n : Nat) : ∀ m, zsm f (n + m) = zsm f n + zsm (fun k => f (n + k)) m := by
  intro m
  induction m with
  | zero => rfl
  | succ m ih =>
    show zsm f ((n + m) + 1) = _
    simp only [zsm]
    rw [ih]
    omega
theorem zsm_c {c : Nat} : ∀ n, zsm (fun _ => c) n = c * n := by
  intro n
  induction n with
  | zero => rfl
  | succ n ih => simp only [zsm]; rw [ih, Nat.mul_succ]
theorem zsm_34 {f : Nat → Nat} : ∀ n, (∀ k, k < n → 1 ≤ f k) → zsm (fun k => 34 * f k - 18) n + 18 * n = 34 * zsm f n := by
  intro n
  induction n with
  | zero => intro _; rfl
  | succ n ih =>
    intro h
    simp only [zsm]
    have h1 := ih (fun k hk => h k (by omega))
    have h2 := h n (by omega)
    omega
def zprt (t : zT) : Nat → zT ⊕ zN := fun k => if k < zl t then .inl (zc t k) else .inr (zm t (k - zl t))
theorem zprt_c {t : zT} (h1 : ∀ k, k < zl t → 1 ≤ zs (zc t k)) : zsm (fun k => zPc (zprt t k)) (zl t + zl t) + 2 * zl t = 34 * zsm (fun k => zs (zc t k)) (zl t) := by
  rw [zsm_split]
  have e1 : zsm (fun k => zPc (zprt t k)) (zl t) = zsm (fun k => 34 * zs (zc t k) - 18) (zl t) := zsm_eq (fun k hk => by unfold zprt; rw [if_pos hk]; rfl)
  have e2 : zsm (fun k => zPc (zprt t (zl t + k))) (zl t) = zsm (fun _ => 16) (zl t) := zsm_eq (fun k hk => by unfold zprt; rw [if_neg (by omega)]; rfl)
  have e3 := zsm_34 (f := fun k => zs (zc t k)) (zl t) h1
  rw [e1, e2, zsm_c]
  omega
theorem zprt_a {t : zT} (h1 : ∀ k, k < zl t → 1 ≤ zs (zc t k)) : zsm (fun k => zPc (zprt t k)) (zl t) + 18 * zl t = 34 * zsm (fun k => zs (zc t k)) (zl t) := by
  have e1 : zsm (fun k => zPc (zprt t k)) (zl t) = zsm (fun k => 34 * zs (zc t k) - 18) (zl t) := zsm_eq (fun k hk => by unfold zprt; rw [if_pos hk]; rfl)
  have e3 := zsm_34 (f := fun k => zs (zc t k)) (zl t) h1
  rw [e1]
  exact e3
theorem c_moved {B : Nat → Int32} {L Tb : Nat} (hTb : Tb ≤ L) (hL : L ≤ 130000) : ∀ (n q : Nat), n < q → zMv (f_V_moved q) B L Tb n := by
  intro n
  induction n with
  | zero =>
    intro q hq
    obtain ⟨q, rfl, -⟩ := suc_of hq
    intro g v T a y hM hB hg hb hs hT
    by_cases ha : a < 118
    · exact c_mv_low hM hb ha hs
    · cases y with
      | inl t => exact hs.1.elim
      | inr x => exact c_mv_X hTb hL hM hB hg (by omega) hs hT
  | succ n ih =>
    intro q hq
    obtain ⟨q, rfl, hq⟩ := suc_of hq
    have hq := Nat.lt_of_succ_lt_succ hq
    intro g v T a y hM hB hg hb hs hT
    by_cases ha : a < 118
    · exact c_mv_low hM hb ha hs
    · cases y with
      | inr x => exact c_mv_X hTb hL hM hB hg (by omega) hs hT
      | inl t =>
        by_cases hk : zk t < 5
        · exact c_mv_L hTb hL hM hB hg (by omega) hs hk hT
        · obtain ⟨⟨h1, h2, h3, h4, h5, h6, h7, h8, h9, h10⟩, hw⟩ := hs
          have hcc : zPc (.inl t : zT ⊕ zN) = 34 * zs t - 18 := rfl
          have k6 := hw.1
          have n2 := hM.2.1
          have lt := zwf_l hw
          obtain ⟨w1, w2, w3⟩ := hw.2.2.2.2.2.2.2.1 (by omega)
          obtain ⟨q8, q9⟩ := h8 (by omega)
          have hs1 : ∀ k, k < zl t → 1 ≤ zs (zc t k) := fun k hkl => zwf_s1 n _ (w3 k hkl)
          have c2 := zprt_c hs1
          have c1 := zprt_a hs1
          obtain ⟨c, hc, hcl, hsum⟩ : ∃ c, (4 + c = if zk t = 3 then 6 else if zk t = 6 then 4 + 2 * zl t else 4 + zl t) ∧ (a + 4 + c ≤ Tb) ∧ zsm (fun k => zPc (zprt t k)) c + c ≤ 34 * zsm (fun k => zs (zc t k)) (zl t) := by
            by_cases c6 : zk t = 6
            · refine ⟨zl t + zl t, ?_, ?_, by omega⟩
              · rw [if_neg (by omega), if_pos c6]; omega
              · have := (h9 c6).1; omega
            · refine ⟨zl t, ?_, by omega, by omega⟩
              rw [if_neg (by omega), if_neg c6]
          have hcv : (zk t = 6 → c = zl t + zl t) ∧ (zk t = 5 → c = zl t) := by
            constructor
            · intro h; rw [if_neg (by omega), if_pos h] at hc; omega
            · intro h; rw [if_neg (by omega), if_neg (by omega)] at hc; omega
          obtain ⟨g1, v1, hm, he, x0, x1, x2, x3, hf⟩ := c_mv_open (Kr := f_V_moved q) (c := c) hM hB hg hL (by omega) (by omega) k6 (by
            split
            · next h => exact (hw.2.2.2.2.2.2.2.2.2 h).1
            · exact lt) h2 h3 h4 h5 hc (by omega)
          have hv5 : v1 5 = B := by rw [he.2.2.2.2.2 5 (by decide) (by decide) (by decide) (by decide)]; exact hB
          have hg1 : g1 5 = L := by rw [he.2.1]; exact hg
          obtain ⟨m1, m2, m3, m4, m5, m6⟩ := id hm
          have hpart : ∀ k, k < c → ∃ b, B (a + 4 + k) = zI b ∧ zPs B Tb n b (zprt t k) := by
            intro k hkc
            unfold zprt
            by_cases ck : k < zl t
            · rw [if_pos ck]
              obtain ⟨b, eb, hb2⟩ := q9 k ck
              exact ⟨b, eb, hb2, w3 k ck⟩
            · rw [if_neg ck]
              have c6 : zk t = 6 := by
                by_cases c6 : zk t = 6
                · exact c6
                · have := hcv.2 (by omega); omega
              have := hcv.1 c6
              obtain ⟨b, eb, hb2⟩ := (h9 c6).2 (k - zl t) (by omega)
              refine ⟨b, ?_, hb2, (hw.2.2.2.2.2.2.2.2.2 c6).2.1 _ (by omega)⟩
              rw [← eb]
              congr 1
              omega
          have hz0 : (fun k => zPc (zprt t (0 + k))) = fun k => zPc (zprt t k) := by funext k; rw [Nat.zero_add]
          have hc24 : c ≤ 24 := by
            by_cases c6 : zk t = 6
            · have := hcv.1 c6; omega
            · have := hcv.2 (by omega); omega
          obtain ⟨g2, v2, T2, f1, f2, f3, f4, f5, f6, f7, f8, f9, f10⟩ := c_mv_big (ih q hq) (kind := zk t) (len := zl t) (p := T) (c := c) (T0 := T + (4 + c)) (a := a) (by omega) k6 lt hc (by omega) hL h3 (by omega) n2 hpart c fu 0 g1 v1 (T + (4 + c)) (by omega) (fu_lt (by omega)) hm (Nat.le_refl _) hv5 hg1 (fun i hi => by rw [he.2.2.2.2.1 i (by omega)]; exact hb i hi) (by rw [hz0]; omega) (fun k hk => absurd hk (by omega))
          rw [hz0] at f9
          refine ⟨g2, v2, T2, T, hf _ f1 (by show gL g1 ≤ gL g2; unfold gL; omega), f2, ⟨by omega, ?_, ?_, ?_, fun i hi => ?_, fun j j1 j2 j3 j4 => ?_⟩, by omega, ?_⟩
          · rw [f4]; exact he.2.1
          · rw [f5]; exact he.2.2.1
          · exact Nat.le_trans he.2.2.2.1 f6
          · rw [f7 i (by omega)]; exact he.2.2.2.2.1 i hi
          · rw [f8 j j1 j2 j3 j4]; exact he.2.2.2.2.2 j j1 j2 j3 j4
          · intro c' hc'
            refine ⟨by omega, ?_, ?_, ?_, ?_, fun h => absurd h (by omega), fun h => absurd h (by omega), fun _ => ⟨?_, fun k hkl => ?_⟩, fun c6 => ⟨?_, fun k hkl => ?_⟩, fun h => absurd h (by omega)⟩
            · rw [hc' _ (by omega) (by omega), f7 _ (by omega)]; exact x0
            · rw [hc' _ (by omega) (by omega), f7 _ (by omega)]; exact x1
            · rw [hc' _ (by omega) (by omega), f7 _ (by omega)]; exact x2
            · rw [hc' _ (by omega) (by omega), f7 _ (by omega)]; exact x3
            · by_cases c6 : zk t = 6
              · have := hcv.1 c6; omega
              · have := hcv.2 (by omega); omega
            · have hkc : k < c := by
                by_cases c6 : zk t = 6
                · have := hcv.1 c6; omega
                · have := hcv.2 (by omega); omega
              obtain ⟨b, eb, hb2⟩ := f10 k hkc
              refine ⟨b, by rw [hc' _ (by omega) (by omega)]; exact eb, ?_⟩
              unfold zprt at hb2
              rw [if_pos hkl] at hb2
              exact hb2 c' (fun i hi hi2 => hc' i (by omega) hi2)
            · have := hcv.1 c6; omega
            · have hkc : zl t + k < c := by have := hcv.1 c6; omega
              obtain ⟨b, eb, hb2⟩ := f10 (zl t + k) hkc
              refine ⟨b, by rw [hc' _ (by omega) (by omega), ← eb]; congr 1; omega, ?_⟩
              unfold zprt at hb2
              rw [if_neg (by omega), show zl t + k - zl t = k by omega] at hb2
              exact hb2 c' (fun i hi hi2 => hc' i (by omega) hi2)
end CN
