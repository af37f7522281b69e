/-! the class's Runner: REDUCE -/
def zWkb (S : Nat → Prop) (F : Option (bO Unit)) (g : Nat → Nat) (v vb : mS) (T out : Nat) (l : List zT) (e0 : Option zT) (s c : Nat) (sp : zEv) : Prop := ∃ g' v' T' s', zM g' v' T' ∧ zY S g v T g' v' T' ∧ v' 25 5 = zI s' ∧ s ≤ s' ∧ s' ≤ 150 ∧ zWr F vb T out l e0 s c sp g' v' T' s'
section CZZ
variable {op : Nat → Nat} {ar : Nat → Int32} {sx : Nat → zN} {p2 p3 : Nat → Nat} {vr : Nat → zT} {S : Nat → Prop} {g : Nat → Nat} {v vb : mS} {T a b s d k lv out : Nat} {t x y : zT} {l : List zT}
variable {Kr : (Nat → Nat) → mS → Int32 → Int32 → Int32 → Nat → Option (bO Unit)}
theorem w_mvb {F : Option (bO Unit)} {g1 : Nat → Nat} {v1 : mS} {T1 s1 : Nat} {e0 e1 : Option zT} {sp : zEv} (hY : zY S g v T g1 v1 T1) (hs : s ≤ s1) (hc : T1 + 280 * s + zph l.length e1 ≤ T + 280 * s1 + zph l.length e0) (h : zWkb S F g1 v1 vb T1 out l e1 s1 0 sp) : zWkb S F g v vb T out l e0 s 0 sp := by
  obtain ⟨g', v', T', s', a1, a2, a3, a4, a5, a6⟩ := h
  refine ⟨g', v', T', s', a1, hY.tr a2, a3, by omega, a5, ?_⟩
  cases sp with
  | none => exact ⟨a6.1, by have := a6.2; omega⟩
  | some q =>
    obtain ⟨r, e, s2⟩ := q
    unfold zWr at a6 ⊢
    dsimp only at a6 ⊢
    by_cases cc : l.length + r.length ≤ 16
    · rw [if_pos cc] at a6 ⊢
      exact ⟨a6.1, a6.2.1, a6.2.2.1, a6.2.2.2.1, by have := a6.2.2.2.2; omega⟩
    · rw [if_neg cc] at a6 ⊢
      exact ⟨a6.1, by have := a6.2; omega⟩
theorem w_rowKb {K : Nat → (Nat → Nat) → mS → Option (bO Unit)} {w : Nat} {spK : List zT → Option zT → Nat → zEv} (hK : zKr op ar sx p2 p3 Kr d (lv + 1)) (hlv : lv < 8) (hw2 : w < 2) (hR : zRn op ar sx p2 p3 vr g v T s) (hok : zok op ar p2 p3 d k) (ha : zV (v 4) T a t) (hO : zOut lv out) (hw : zRw v T out l none) (hT : T + 280 * (150 - s) ≤ 65000) (hS : ∀ j, zS (lv + 1) (28 + 4 * lv + 2 * w) j → S j)
    (hk : ∀ (g' : Nat → Nat) (v' : mS) (T' : Nat) (r : List zT) (e : Option zT) (s1 : Nat), zev op ar sx p2 p3 d k t vr s = some (r, e, s1) → zRn op ar sx p2 p3 vr g' v' T' s1 → zY (zS (lv + 1) (28 + 4 * lv + 2 * w)) g v T g' v' T' → zRw v' T' (28 + 4 * lv + 2 * w) r e → zRw v' T' out l none → T' + 280 * s ≤ T + 280 * s1 → s ≤ s1 → v' 26 = v 26 → zWkb S (K (28 + 4 * lv + 2 * w) g' v') g' v' vb T' out l none s1 0 (spK r e s1)) : zWkb S (bo (f_N_rowOf Kr g v (zI k) (zI a) (zI lv) (zI w)) K) g v vb T out l none s 0 (zbnd (zev op ar sx p2 p3 d k t vr s) spK) := by
  obtain ⟨hM, hE, hV, hs, h150⟩ := id hR
  obtain ⟨o1, o2, o3⟩ := rowB_r hO.1
  obtain ⟨g', v', T', s', k1, k2, k3, k4, k5, k6, k7⟩ := w_rowOf hK hlv hw2 hM hE hok ha hV hs h150 hT
  cases hz : zev op ar sx p2 p3 d k t vr s with
  | none =>
    rw [hz] at k7
    dsimp only at k7
    rw [k7, bo_r]
    exact ⟨g', v', T', s', k1, k2.mono hS, k3, k4, k5, rfl, by omega⟩
  | some q =>
    obtain ⟨r, e, s1⟩ := q
    rw [hz] at k7
    obtain ⟨q1, q2, q3, q4⟩ := k7
    subst q3
    have hso : zSo (zS (lv + 1) (28 + 4 * lv + 2 * w)) := by
      intro j hj
      rcases hj with h | h | h | h | h <;> omega
    have hn : ∀ j, j = out ∨ j = out + 1 → ¬ zS (lv + 1) (28 + 4 * lv + 2 * w) j := by
      intro j hj hh
      have h9 := hO.2
      rcases hh with h | h | h | h | h <;> omega
    have hw' : zRw v' T' out l none := zRw_up hw (k2.2.2.2.2.2 out (by omega) (by omega) (by omega) (by omega) (hn _ (Or.inl rfl))) (k2.2.2.2.2.2 (out + 1) (by omega) (by omega) (by omega) (by omega) (hn _ (Or.inr rfl))) k2.2.2.2.2.1 k2.1
    have h2 := hk g' v' T' r e s' hz (zRn_up hR k1 k2 hso q4 k3 k5) k2 q2 hw' k6 k4 q4
    have h3 := w_mvb (s := s) (e0 := none) (k2.mono hS) k4 (by omega) h2
    have hb : bo (f_N_rowOf Kr g v (zI k) (zI a) (zI lv) (zI w)) K = K (28 + 4 * lv + 2 * w) g' v' := by
      obtain ⟨g2, v2, T2, s2, d1, d2, d3, d4, d5, d6⟩ := h2
      obtain ⟨x, ex⟩ := zWr_some d6
      rw [q1, ex]
      exact bo_l ex d2.L
    rw [hb]
    exact h3
theorem getLast_d {r : List zT} (h : r ≠ []) : r.getLastD (zW 0) = r.getD (r.length - 1) (zW 0) := by
  cases r with
  | nil => exact absurd rfl h
  | cons a r =>
    simp [List.getLastD_eq_getLast?, List.getLast?_eq_getElem?, List.getD_eq_getElem?_getD]
/-- the end: the variable as it was, then z, if no error ended it -/
theorem w_red_end {R0 : Nat} {n z : Nat} {zt : zT} {xs : List zT} {eR e0 : Option zT} (hn : n < 4) (hO : zOut lv out) (hr0 : rowB R0 = true) (hne : R0 ≠ out) (hM : zM g v T) (hs : v 25 5 = zI s) (h150 : s ≤ 150) (hz : zV (v 4) T z zt) (hw : zRw v T out l e0) (hw2 : zRw v T R0 xs eR) (h26 : ∀ i, i ≠ n → v 26 i = vb 26 i) (hS : S 26 ∧ S out ∧ S (out + 1)) : zWkb S (f_N_reduce_181 Kr out (zI z) (zI n) (vb 26 n) R0 g v) g v vb T out l e0 s 0 (match e0 with | some y => some ([], some y, s) | none => (match eR with | none => some ([zt], none, s) | some y => some ([], some y, s))) := by
  obtain ⟨o1, o2, o3⟩ := rowB_r hO.1
  obtain ⟨q1, q2, q3⟩ := rowB_r hr0
  have hj : ∀ j, j ≠ 26 → sU v 26 n (vb 26 n) j = v j := fun j h => sU_j h
  have hv26 : sU v 26 n (vb 26 n) 26 = vb 26 := by
    funext i
    by_cases c : i = n
    · subst c; exact sU_hit
    · rw [sU_k c]; exact h26 i c
  have hY1 : zY S g v T g (sU v 26 n (vb 26 n)) T := ⟨Nat.le_refl _, rfl, rfl, Nat.le_refl _, fun i _ => by rw [hj 4 (by decide)], fun j _ _ _ _ h => hj j (fun h9 => h (by subst h9; exact hS.1))⟩
  have hM1 : zM g (sU v 26 n (vb 26 n)) T := zM_w hM (hj 1 (by decide)) (fun i _ => by rw [hj 4 (by decide)])
  have hw1 : zRw (sU v 26 n (vb 26 n)) T out l e0 := zRw_up hw (hj _ (by omega)) (hj _ (by omega)) (fun i _ => by rw [hj 4 (by decide)]) (Nat.le_refl _)
  have hw21 : zRw (sU v 26 n (vb 26 n)) T R0 xs eR := zRw_up hw2 (hj _ (by omega)) (hj _ (by omega)) (fun i _ => by rw [hj 4 (by decide)]) (Nat.le_refl _)
  have hs1 : sU v 26 n (vb 26 n) 25 5 = zI s := by rw [hj 25 (by decide)]; exact hs
  have hz1 : zV (sU v 26 n (vb 26 n) 4) T z zt := by rw [hj 4 (by decide)]; exact hz
  have hl16 := hw.2.1
  have hun : f_N_reduce_181 Kr out (zI z) (zI n) (vb 26 n) R0 g v = bv (f_R_endAs g (sU v 26 n (vb 26 n)) out R0) (fun v_3 => bi (f_R_isEnded g v_3 out) fun r_7 v_5 => if r_7 = 0 then (bo (f_R_put g v_5 out (zI z)) fun r9 g9 v9 => f_N_reduce_212 Kr g9 v9) else (f_N_reduce_212 Kr g v_5)) := by
    rw [f_N_reduce_181, gd_t hO.1, gd_t hr0, gd_I hn (by omega), nm_s, zI_toNat (by omega)]
  rw [hun]
  generalize sU v 26 n (vb 26 n) = v1 at *
  -- the row is ended
  have hdone : ∀ (w : mS) (y : zT), zM g w T → zY S g v T g w T → w 25 5 = zI s → w 26 = vb 26 → zRw w T out l (some y) → zWkb S (bi (f_R_isEnded g w out) fun r_7 v_5 => if r_7 = 0 then (bo (f_R_put g v_5 out (zI z)) fun r9 g9 v9 => f_N_reduce_212 Kr g9 v9) else (f_N_reduce_212 Kr g v_5)) g v vb T out l e0 s 0 (some ([], some y, s)) := by
    intro w y w1 w2 w3 w4 w5
    rw [c_ended w1 hO.1 w5, bi_s, if_neg (show ¬ some y = none by simp), if_neg (by decide)]
    refine ⟨g, w, T, s, w1, w2, w3, Nat.le_refl _, h150, ?_⟩
    unfold zWr
    dsimp only
    rw [if_pos (by simpa using hl16)]
    exact ⟨rfl, by simpa using w5, rfl, w4, by simp [zph]⟩
  cases e0 with
  | some y =>
    rw [c_endAs_st (l2 := xs) hM1 hO.1 hr0 hw1, bv_s]
    exact hdone v1 y hM1 hY1 hs1 hv26 hw1
  | none =>
    obtain ⟨z9, ez, hz9⟩ := c_endAs hM1 hO.1 hr0 hw1 hw21
    have hjj : ∀ j, j ≠ out → sU v1 out 2 z9 j = v1 j := fun j h => sU_j h
    have hY2 : zY S g v1 T g (sU v1 out 2 z9) T := ⟨Nat.le_refl _, rfl, rfl, Nat.le_refl _, fun i _ => by rw [hjj 4 (by omega)], fun j _ _ _ _ hn => hjj j (fun h9 => hn (by subst h9; exact hS.2.1))⟩
    have hM2 : zM g (sU v1 out 2 z9) T := zM_w hM1 (hjj 1 (by omega)) (fun i _ => by rw [hjj 4 (by omega)])
    rw [ez, bv_s]
    cases eR with
    | some y => exact hdone _ y hM2 (hY1.tr hY2) (by rw [hjj 25 (by omega)]; exact hs1) (by rw [hjj 26 (by omega)]; exact hv26) hz9
    | none =>
      rw [c_ended hM2 hO.1 hz9, bi_s, if_pos rfl, if_pos rfl, bo_id (fun r g v => by cases r; rfl)]
      have hp := w_0 (w_put0 (S := S) (s := s) hM2 hO.1 hS.2 hz9 (by rw [hjj 25 (by omega)]; exact hs1) (hY2.V hz1)) h150
      obtain ⟨g', v', T', s', a1, a2, a3, a4, a5, a6⟩ := hp
      refine ⟨g', v', T', s', a1, (hY1.tr hY2).tr a2, a3, a4, a5, ?_⟩
      unfold zWr at a6 ⊢
      dsimp only at a6 ⊢
      by_cases cc : l.length + [zt].length ≤ 16
      · rw [if_pos cc] at a6 ⊢
        exact ⟨a6.1, a6.2.1, a6.2.2.1, by rw [a6.2.2.2.1, hjj 26 (by omega)]; exact hv26, a6.2.2.2.2⟩
      · rw [if_neg cc] at a6 ⊢
        exact a6
def zrl (G : zT → zT → Nat → zEv) (xs : List zT) (eR e0 : Option zT) (z : zT) (s : Nat) : zEv := match e0 with
  | some y => some ([], some y, s)
  | none => zrdc G xs eR z s
theorem w_red_l (hK : zKr op ar sx p2 p3 Kr d (lv + 1)) (hlv : lv < 8) (hO : zOut lv out) (hk : zok op ar p2 p3 (d + 1) k) (h3p : 3 ≤ zpt (op k)) {n : Nat} (hn : n < 4) {xs : List zT} {eR : Option zT} : ∀ (m q j : Nat) (g : Nat → Nat) (v : mS) (T s z : Nat) (zt : zT) (e0 : Option zT), j + m = xs.length → m < q → zM g v T → zEn op ar sx p2 p3 g v T → v 25 5 = zI s → s ≤ 150 → (∀ i, i ≠ n → v 26 i = vb 26 i) → (∀ i, i < 4 → ∃ b, vb 26 i = zI b ∧ zV (v 4) T b (vr i)) → zV (v 4) T z zt → zRw v T out l e0 → zRw v T (28 + 4 * lv) xs eR → T + 280 * (150 - s) + zph l.length e0 ≤ 65000 → zWkb (zS lv out) (f_N_reduce_92 Kr q (zI k) (zI lv) out (zI z) (zI n) (vb 26 n) (28 + 4 * lv) (zI j) g v) g v vb T out l e0 s 0 (zrl (fun z x s => zev op ar sx p2 p3 d (p3 k) z (va_up vr n x) s) (xs.drop j) eR e0 zt s) := by
  obtain ⟨o1, o2, o3⟩ := rowB_r hO.1
  have h60 := hO.2
  have hrow : rowB (28 + 4 * lv) = true := by simp [rowB]; omega
  have hrow2 : rowB (28 + 4 * lv + 2) = true := by simp [rowB]; omega
  have hS3 : zS lv out 26 ∧ zS lv out out ∧ zS lv out (out + 1) := ⟨Or.inr (Or.inl rfl), zS_o.1, zS_o.2⟩
  intro m
  induction m with
  | zero =>
    intro q j g v T s z zt e0 hj hq hM hE hs h150 h26 hvb hz hw hw2 hT
    obtain ⟨q, rfl, -⟩ := suc_of hq
    have hx16 := hw2.2.1
    have e1 : xs.drop j = [] := List.drop_eq_nil_of_le (by omega)
    have h9 := w_red_end (Kr := Kr) hn hO hrow (by omega) hM hs h150 hz hw hw2 h26 hS3
    rw [e1, f_N_reduce_92, gd_t hO.1, gd_t hrow, c_rsize hrow hw2, bi_s, iI_le (by omega) (by omega), if_pos (by omega)]
    cases e0 with
    | some y => exact h9
    | none => cases eR <;> exact h9
  | succ m ih =>
    intro q j g v T s z zt e0 hj hq hM hE hs h150 h26 hvb hz hw hw2 hT
    obtain ⟨q, rfl, hq⟩ := suc_of hq
    have hq := Nat.lt_of_succ_lt_succ hq
    have hx16 := hw2.2.1
    rw [f_N_reduce_92, gd_t hO.1, gd_t hrow, c_rsize hrow hw2, bi_s, iI_le (by omega) (by omega), if_neg (by omega), c_ended hM hO.1 hw, bi_s]
    cases e0 with
    | some y =>
      rw [if_neg (show ¬ some y = none by simp), if_neg (by decide)]
      exact w_red_end (Kr := Kr) hn hO hrow (by omega) hM hs h150 hz hw hw2 h26 hS3
    | none =>
      obtain ⟨b, eb, hb⟩ := c_rat (g := g) hrow hw2 (show j < xs.length by omega)
      have hjj : ∀ i, i ≠ 26 → sU v 26 n (zI b) i = v i := fun i h => sU_j h
      have hY1 : zY (zS lv out) g v T g (sU v 26 n (zI b)) T := ⟨Nat.le_refl _, rfl, rfl, Nat.le_refl _, fun i _ => by rw [hjj 4 (by decide)], fun i _ _ _ _ h => hjj i (fun h9 => h (by subst h9; exact hS3.1))⟩
      have hM1 : zM g (sU v 26 n (zI b)) T := zM_w hM (hjj 1 (by decide)) (fun i _ => by rw [hjj 4 (by decide)])
      have hE1 := zEn_up hE hY1 (zS_so hO)
      have hV1 : zVr (sU v 26 n (zI b)) T (va_up vr n (xs.getD j (zW 0))) := by
        intro i hi
        rw [hjj 4 (by decide)]
        by_cases c : i = n
        · subst c
          exact ⟨b, sU_hit, by unfold va_up; rw [if_pos rfl]; exact hb⟩
        · obtain ⟨c1, e1, h1⟩ := hvb i hi
          exact ⟨c1, by rw [sU_k c, h26 i c]; exact e1, by unfold va_up; rw [if_neg c]; exact h1⟩
      have hR1 : zRn op ar sx p2 p3 (va_up vr n (xs.getD j (zW 0))) g (sU v 26 n (zI b)) T s := ⟨hM1, hE1, hV1, by rw [hjj 25 (by decide)]; exact hs, h150⟩
      have hw1 : zRw (sU v 26 n (zI b)) T out l none := zRw_up hw (hjj _ (by omega)) (hjj _ (by omega)) (fun i _ => by rw [hjj 4 (by decide)]) (Nat.le_refl _)
      have hw21 : zRw (sU v 26 n (zI b)) T (28 + 4 * lv) xs eR := zRw_up hw2 (hjj _ (by omega)) (hjj _ (by omega)) (fun i _ => by rw [hjj 4 (by decide)]) (Nat.le_refl _)
      have e9 : zrl (fun z x s => zev op ar sx p2 p3 d (p3 k) z (va_up vr n x) s) (xs.drop j) eR none zt s = zbnd (zev op ar sx p2 p3 d (p3 k) zt (va_up vr n (xs.getD j (zW 0))) s) (fun r e s1 => zrl (fun z x s => zev op ar sx p2 p3 d (p3 k) z (va_up vr n x) s) (xs.drop (j + 1)) eR e (r.getLastD (zW 0)) s1) := by
        rw [drop_c (by omega)]
        show zrdc _ _ _ _ _ = _
        simp only [zrdc]
        cases zev op ar sx p2 p3 d (p3 k) zt (va_up vr n (xs.getD j (zW 0))) s with
        | none => rfl
        | some q =>
          obtain ⟨r, e, s1⟩ := q
          cases e <;> rfl
      rw [e9, if_pos rfl, if_pos rfl, eb, bi_s, gd_I hn (by omega), nm_s, zI_toNat (by omega), gd_t (en_fil hE1), en_3 hE1 hk h3p, bi_s, zl_1]
      refine w_mvb hY1 (Nat.le_refl _) (Nat.le_refl _) (w_rowKb (w := 1) hK hlv (by omega) hR1 (hk.2.2.2.2.2 h3p) (by rw [hjj 4 (by decide)]; exact hz) hO hw1 (by omega) (zS_R (by omega) hlv) (fun g' v' T' r e s1 h1 h3 h4 h5 h6 h7 h8 h9 => ?_))
      have hr16 := h5.2.1
      have hs150 := h3.2.2.2.2
      rw [show 28 + 4 * lv + 2 * 1 = 28 + 4 * lv + 2 by omega] at h5 h4 ⊢
      have hn2 : ∀ i, i = 28 + 4 * lv ∨ i = 28 + 4 * lv + 1 → ¬ zS (lv + 1) (28 + 4 * lv + 2) i := by
        intro i hi hh
        rcases hh with h | h | h | h | h <;> omega
      have hw22 : zRw v' T' (28 + 4 * lv) xs eR := zRw_up hw21 (h4.2.2.2.2.2 _ (by omega) (by omega) (by omega) (by omega) (hn2 _ (Or.inl rfl))) (h4.2.2.2.2.2 _ (by omega) (by omega) (by omega) (by omega) (hn2 _ (Or.inr rfl))) h4.2.2.2.2.1 h4.1
      -- the new z
      have hz2 : ∃ z2, zV (v' 4) T' z2 (r.getLastD (zW 0)) ∧ f_N_reduce_140 Kr (f_N_reduce_92 Kr q) (zI k) (zI lv) out (zI n) (vb 26 n) (28 + 4 * lv) (zI j) (28 + 4 * lv + 2) g' v' = f_N_reduce_166 Kr (f_N_reduce_92 Kr q) (zI k) (zI lv) out (zI n) (vb 26 n) (28 + 4 * lv) (zI j) (28 + 4 * lv + 2) (zI z2) g' v' := by
        have e0 : (zI r.length = 0) = (r.length = 0) := by rw [zl_0, zI_eq (by omega) (by omega)]
        by_cases c : r.length = 0
        · refine ⟨0, ?_, ?_⟩
          · have : r = [] := List.length_eq_zero_iff.1 c
            rw [this]
            exact zW0 h3.1
          · rw [f_N_reduce_140, gd_t hO.1, gd_t hrow, gd_t hrow2, c_rsize hrow2 h5, bi_s, ite_p e0, if_pos c]
            rfl
        · obtain ⟨z2, ez, hz⟩ := c_rat (g := g') hrow2 h5 (show r.length - 1 < r.length by omega)
          refine ⟨z2, ?_, ?_⟩
          · rw [getLast_d (fun h => c (by rw [h]; rfl))]; exact hz
          · rw [f_N_reduce_140, gd_t hO.1, gd_t hrow, gd_t hrow2, c_rsize hrow2 h5, bi_s, ite_p e0, if_neg c, c_rsize hrow2 h5, bi_s, zl_1, zI_sub (by omega), ez, bi_s]
      obtain ⟨z2, hz2, e140⟩ := hz2
      obtain ⟨z9, ez9, hz9⟩ := c_endAs h3.1 hO.1 hrow2 h6 h5
      have hj3 : ∀ i, i ≠ out → sU v' out 2 z9 i = v' i := fun i h => sU_j h
      have hY3 : zY (zS lv out) g' v' T' g' (sU v' out 2 z9) T' := ⟨Nat.le_refl _, rfl, rfl, Nat.le_refl _, fun i _ => by rw [hj3 4 (by omega)], fun i _ _ _ _ hn => hj3 i (fun h9 => hn (by subst h9; exact zS_o.1))⟩
      have hM3 : zM g' (sU v' out 2 z9) T' := zM_w h3.1 (hj3 1 (by omega)) (fun i _ => by rw [hj3 4 (by omega)])
      have hph := zph_m (e := e) (Nat.le_refl l.length)
      rw [e140, f_N_reduce_166, gd_t hO.1, gd_t hrow, gd_t hrow2, ez9, bv_s, nm_s, zl_1, zI_add]
      refine w_mvb (e0 := none) hY3 (Nat.le_refl _) (by omega) (ih q (j + 1) g' (sU v' out 2 z9) T' s1 z2 _ e (by omega) hq hM3 (zEn_up h3.2.1 hY3 (zS_so hO)) (by rw [hj3 25 (by omega)]; exact h3.2.2.2.1) hs150 (fun i hi => ?_) (fun i hi => ?_) (hY3.V hz2) hz9 (zRw_up hw22 (hj3 _ (by omega)) (hj3 _ (by omega)) hY3.2.2.2.2.1 (Nat.le_refl _)) (by omega))
      · rw [hj3 26 (by omega), h9, sU_k hi]; exact h26 i hi
      · obtain ⟨c1, e1, h1⟩ := hvb i hi
        exact ⟨c1, e1, hY3.V (h4.V (by rw [hjj 4 (by decide)]; exact h1))⟩
theorem w_reduce (hK : zKr op ar sx p2 p3 Kr d (lv + 1)) (hlv : lv < 8) (hR : zRn op ar sx p2 p3 vr g v T s) (hO : zOut lv out) (hk : zok op ar p2 p3 (d + 1) k) (ho : op k = 22) (ha : zV (v 4) T a t) (hw : zRw v T out l none) (hT : T + 280 * (150 - s) + zph l.length none ≤ 65000) : zWk (zS lv out) (f_N_reduce Kr g v (zI k) (zI a) (zI lv) out) g v T out l none s 0 (zbnd (zev op ar sx p2 p3 d (p2 k) t vr s) (fun r e s1 => match e with | some y => some ([], some y, s1) | none => zbnd (zev op ar sx p2 p3 d (k + 1) t vr s1) (fun xs e s2 => zrdc (fun z x s => zev op ar sx p2 p3 d (p3 k) z (va_up vr (ar k).toNatClampNeg x) s) xs e (r.headD (zW 0)) s2))) := by
  have hrow : rowB (28 + 4 * lv) = true := by simp [rowB]; omega
  have hrow2 : rowB (28 + 4 * lv + 2) = true := by simp [rowB]; omega
  have h2p : 2 ≤ zpt (op k) := by rw [ho]; decide
  have h3p : 3 ≤ zpt (op k) := by rw [ho]; decide
  obtain ⟨n, hn, hn4⟩ := hk.2.2.1.2.1 (Or.inr (Or.inr ho))
  have hn' : (ar k).toNatClampNeg = n := by rw [hn, zI_toNat (by omega)]
  refine zWk_mg ?_
  rw [gd_t hO.1, gd_t (en_fil hR.2.1), en_2 hR.2.1 hk h2p, bi_s, zl_1, hn']
  refine w_rowK (w := 1) hK hlv (by omega) hR (hk.2.2.2.2.1 h2p) ha hO hw (by omega) (zS_R (by omega) hlv) (fun g' v' T' r e s1 h1 h3 h4 h5 h6 h7 h8 h9 => ?_)
  have hr16 := h5.2.1
  have hs150 := h3.2.2.2.2
  rw [show 28 + 4 * lv + 2 * 1 = 28 + 4 * lv + 2 by omega] at h5 ⊢
  rw [f_N_reduce_15, gd_t hO.1, gd_t hrow2, c_ended h3.1 hrow2 h5, bi_s]
  cases e with
  | some y =>
    rw [if_neg (show ¬ some y = none by simp), if_neg (by decide)]
    refine w_endAs (e0 := none) (xs := r) (eR := some y) h3.1 hO.1 hrow2 zS_o.1 h3.2.2.2.1 hs150 h6 h5 (fun w hw9 => ?_)
    rw [hw9, bv_s]
  | none =>
    have hz2 : ∃ z2, zV (v' 4) T' z2 (r.headD (zW 0)) ∧ (bi (f_R_size g' v' (28 + 4 * lv + 2)) fun r_7 v_5 => if r_7 = 0 then (f_N_reduce_51 Kr (zI k) (zI a) (zI lv) out 0 g' v_5) else (bi (f_R_at g' v_5 (28 + 4 * lv + 2) 0) fun r_11 v_9 => f_N_reduce_51 Kr (zI k) (zI a) (zI lv) out r_11 g' v_9)) = f_N_reduce_51 Kr (zI k) (zI a) (zI lv) out (zI z2) g' v' := by
      have e0 : (zI r.length = 0) = (r.length = 0) := by rw [zl_0, zI_eq (by omega) (by omega)]
      by_cases c : r.length = 0
      · refine ⟨0, ?_, ?_⟩
        · have : r = [] := List.length_eq_zero_iff.1 c
          rw [this]
          exact zW0 h3.1
        · rw [c_rsize hrow2 h5, bi_s, ite_p e0, if_pos c]
          rfl
      · obtain ⟨z2, ez, hz⟩ := c_rat (g := g') hrow2 h5 (show 0 < r.length by omega)
        refine ⟨z2, ?_, ?_⟩
        · have : r.headD (zW 0) = r.getD 0 (zW 0) := by cases r <;> rfl
          rw [this]; exact hz
        · rw [c_rsize hrow2 h5, bi_s, ite_p e0, if_neg c, zl_0, ez, bi_s]
    obtain ⟨z2, hz2, e51⟩ := hz2
    rw [if_pos rfl, if_pos rfl, e51, f_N_reduce_51, gd_t hO.1, gd_t (en_fil h3.2.1), en_ar h3.2.1 hk.1, bi_s, hn, gd_I hn4 (by omega), nm_s, zI_toNat (by omega), gd_t (en_fil h3.2.1), en_1 h3.2.1, bi_s, zl_0]
    have hmain : zWkb (zS lv out) (bo (f_N_rowOf Kr g' v' (zI (k + 1)) (zI a) (zI lv) (zI 0)) (fun r9 g9 v9 => f_N_reduce_87 Kr (zI k) (zI lv) out (zI z2) (zI n) (v' 26 n) r9 g9 v9)) g' v' v' T' out l none s1 0 (zbnd (zev op ar sx p2 p3 d (k + 1) t vr s1) (fun xs e s2 => zrdc (fun z x s => zev op ar sx p2 p3 d (p3 k) z (va_up vr n x) s) xs e (r.headD (zW 0)) s2)) := by
      refine w_rowKb (w := 0) hK hlv (by omega) h3 (hk.2.2.2.1 (by omega)) (h4.V ha) hO h6 (by omega) (zS_R (by omega) hlv) (fun g2 v2 T2 xs e s2 i1 i3 i4 i5 i6 i7 i8 i9 => ?_)
      have hx16 := i5.2.1
      have hs2 := i3.2.2.2.2
      rw [show 28 + 4 * lv + 2 * 0 = 28 + 4 * lv by omega] at i5 ⊢
      rw [f_N_reduce_87, gd_t hO.1, gd_t hrow, zl_0]
      have h10 := w_red_l (vb := v') (vr := vr) hK hlv hO hk h3p hn4 (xs := xs) (eR := e) xs.length fu 0 g2 v2 T2 s2 z2 (r.headD (zW 0)) none (by omega) (fu_lt (by omega)) i3.1 i3.2.1 i3.2.2.2.1 hs2 (fun i hi => by rw [i9]) (fun i hi => by
        obtain ⟨c1, e1, h1⟩ := i3.2.2.1 i hi
        exact ⟨c1, by rw [← i9]; exact e1, h1⟩) (i4.V hz2) i6 i5 (by omega)
      exact h10
    exact hmain
end CZZ
