/-! the class's Runner: COMMA, TRY, ARRAY, OR, LIMIT -/
section CXX
variable {op : Nat → Nat} {ar : Nat → Int32} {sx : Nat → zN} {p2 p3 : Nat → Nat} {vr : Nat → zT} {S : Nat → Prop} {g : Nat → Nat} {v : mS} {T a b s d k lv out : Nat} {t x : zT} {l : List zT}
variable {Kr : (Nat → Nat) → mS → Int32 → Int32 → Int32 → Nat → Option (bO Unit)}
theorem zS_S : ∀ j, zS (lv + 1) out j → zS lv out j := fun j h => zB_S j (zS_B j h)
theorem zS_R {w : Nat} (hw : w < 2) (hlv : lv < 8) : ∀ j, zS (lv + 1) (28 + 4 * lv + 2 * w) j → zS lv out j := by
  intro j hj
  rcases hj with h | h | h | h | h
  · exact Or.inl h
  · exact Or.inr (Or.inl h)
  · exact Or.inr (Or.inr (Or.inl ⟨by omega, h.2⟩))
  · exact Or.inr (Or.inr (Or.inl ⟨by omega, by omega⟩))
  · exact Or.inr (Or.inr (Or.inl ⟨by omega, by omega⟩))
theorem w_comma (hK : zKr op ar sx p2 p3 Kr d (lv + 1)) (hR : zRn op ar sx p2 p3 vr g v T s) (hO : zOut lv out) (hk : zok op ar p2 p3 (d + 1) k) (h2 : 2 ≤ zpt (op k)) (ha : zV (v 4) T a t) (hw : zRw v T out l none) (hT : T + 280 * (150 - s) + zph l.length none ≤ 65000) : zWk (zS lv out) (f_N_comma Kr g v (zI k) (zI a) (zI lv) out) g v T out l none s 0 (zseq (zev op ar sx p2 p3 d (k + 1) t vr s) (fun e s1 => match e with | none => zev op ar sx p2 p3 d (p2 k) t vr s1 | some y => some ([], some y, s1))) := by
  refine zWk_mg ?_
  rw [gd_t hO.1, gd_t (en_fil hR.2.1), en_1 hR.2.1, bi_s, zl_1, zI_add]
  refine w_seq (c1 := 0) (c2 := 0) (zWk_mono (w_Kr hK hR (hk.2.2.2.1 (by omega)) ha (zOut_s hO) hw (by omega)) zS_S) (fun g' v' T' r e s1 h1 h3 h4 h5 h6 h7 h8 h9 h10 h11 => ?_)
  have hR' := zRn_up hR h4 h5 (zS_so hO) h10 h6 h8
  rw [f_N_comma_18, gd_t hO.1, c_ended h4 hO.1 h9, bi_s]
  cases e with
  | none =>
    rw [if_pos rfl, if_pos rfl, gd_t (en_fil hR'.2.1), en_2 hR'.2.1 hk h2, bi_s, bo_id (fun r g v => by cases r; rfl), zl_1, zI_add]
    exact zWk_mono (w_Kr hK hR' (hk.2.2.2.2.1 h2) (h5.V ha) (zOut_s hO) h9 (by omega)) zS_S
  | some y =>
    rw [if_neg (show ¬ some y = none by simp), if_neg (by decide)]
    exact w_id h4 h6 h8 h9 rfl
theorem w_attempt (hK : zKr op ar sx p2 p3 Kr d (lv + 1)) (hR : zRn op ar sx p2 p3 vr g v T s) (hO : zOut lv out) (hk : zok op ar p2 p3 (d + 1) k) (h2 : 2 ≤ zpt (op k)) (ha : zV (v 4) T a t) (hw : zRw v T out l none) (hT : T + 280 * (150 - s) + zph l.length none ≤ 65000) : zWk (zS lv out) (f_N_attempt Kr g v (zI k) (zI a) (zI lv) out) g v T out l none s 0 (zseq (zev op ar sx p2 p3 d (k + 1) t vr s) (fun e s1 => match e with | none => some ([], none, s1) | some y => zev op ar sx p2 p3 d (p2 k) y vr s1)) := by
  obtain ⟨o1, o2, o3⟩ := rowB_r hO.1
  obtain ⟨hM, hE, hV, hs, h150⟩ := id hR
  refine zWk_mg ?_
  rw [gd_t hO.1, gd_t (en_fil hR.2.1), en_1 hR.2.1, bi_s, zl_1, zI_add]
  obtain ⟨g', v', T', s', k1, k2, k3, k4, k5, k6, k7⟩ := hK g v T (k + 1) a out s t l vr hM hE (hk.2.2.2.1 (by omega)) ha (zOut_s hO) hw hV hs h150 (by omega)
  cases hz : zev op ar sx p2 p3 d (k + 1) t vr s with
  | none =>
    rw [hz] at k7
    dsimp only at k7
    rw [k7, bo_r]
    exact ⟨g', v', T', s', k1, k2.mono zS_S, k3, k4, k5, rfl, by omega⟩
  | some q =>
    obtain ⟨r, e, s1⟩ := q
    rw [hz] at k7
    dsimp only at k7
    by_cases c : l.length + r.length ≤ 16
    · rw [if_pos c] at k7
      obtain ⟨q1, q2, q3, q4⟩ := k7
      subst q3
      have k2' := k2.mono (zS_S (lv := lv) (out := out))
      have hR' := zRn_up hR k1 k2' (zS_so hO) q4 k3 k5
      cases e with
      | none =>
        have hF : bo (Kr g v (zI (k + 1)) (zI a) (zI (lv + 1)) out) (fun r9 g9 v9 => f_N_attempt_18 Kr (zI k) (zI lv) out g9 v9) = some (.inl (), g', v') := by
          rw [q1]
          refine bo_l (o := (.inl (), g', v')) ?_ (Nat.le_refl _)
          rw [f_N_attempt_18, gd_t hO.1, c_ended k1 hO.1 q2, bi_s, if_pos rfl, if_pos rfl]
          rfl
        rw [hF]
        refine ⟨g', v', T', s', k1, k2', k3, k4, k5, ?_⟩
        show zWr _ _ _ _ _ _ _ _ (some (r ++ [], none, s')) _ _ _ _
        rw [List.append_nil]
        unfold zWr
        dsimp only
        rw [if_pos c]
        have := zph_m (e := none) (show l.length ≤ l.length + r.length by omega)
        exact ⟨rfl, q2, rfl, q4, by omega⟩
      | some y =>
        obtain ⟨b, eb, hb⟩ := q2.2.2.2
        have hj : ∀ j, j ≠ out → sU v' out 2 (-1) j = v' j := fun j h => sU_j h
        have hc : f_R_caught g' v' out = some (zI b, sU v' out 2 (-1)) := by
          rw [f_R_caught, gd_t hO.1, nm_s, nm_s, eb]
        have hY1 : zY (zS lv out) g' v' T' g' (sU v' out 2 (-1)) T' := ⟨Nat.le_refl _, rfl, rfl, Nat.le_refl _, fun i _ => by rw [hj 4 (by omega)], fun j _ _ _ _ hn => hj j (fun h9 => hn (by subst h9; exact zS_o.1))⟩
        have hM1 : zM g' (sU v' out 2 (-1)) T' := zM_w k1 (hj 1 (by omega)) (fun i _ => by rw [hj 4 (by omega)])
        have hR1 := zRn_up hR' hM1 hY1 (zS_so hO) (hj 26 (by omega)) (by rw [hj 25 (by omega)]; exact k3) k5
        have hw1 : zRw (sU v' out 2 (-1)) T' out (l ++ r) none := by
          obtain ⟨z1, z2, z3, -⟩ := q2
          refine ⟨by rw [sU_k (by decide)]; exact z1, z2, fun i hi => ?_, sU_hit⟩
          rw [hj 4 (by omega), hj (out + 1) (by omega)]
          exact z3 i hi
        obtain ⟨hM2, hE2, hV2, hs2, h2150⟩ := id hR1
        obtain ⟨g2, v2, T2, s2, d1, d2, d3, d4, d5, d6, d7⟩ := hK g' (sU v' out 2 (-1)) T' (p2 k) b out s' y (l ++ r) vr hM2 hE2 (hk.2.2.2.2.1 h2) (by rw [hj 4 (by omega)]; exact hb) (zOut_s hO) hw1 hV2 hs2 h2150 (by omega)
        have hF : ∀ o : bO Unit, Kr g' (sU v' out 2 (-1)) (zI (p2 k)) (zI b) (zI (lv + 1)) out = some o → gL g' ≤ gL o.2.1 → bo (Kr g v (zI (k + 1)) (zI a) (zI (lv + 1)) out) (fun r9 g9 v9 => f_N_attempt_18 Kr (zI k) (zI lv) out g9 v9) = some o := by
          intro o ho hL
          rw [q1]
          refine bo_l (o := o) ?_ hL
          rw [f_N_attempt_18, gd_t hO.1, c_ended k1 hO.1 q2, bi_s, if_neg (show ¬ some y = none by simp), if_neg (by decide), gd_t (en_fil hR'.2.1), en_2 hR'.2.1 hk h2, bi_s, hc, bi_s, bo_id (fun r g v => by cases r; rfl), zl_1, zI_add]
          exact ho
        have hYY := k2'.tr (hY1.tr (d2.mono (zS_S (lv := lv) (out := out))))
        have hll : (l ++ r).length = l.length + r.length := List.length_append
        show zWk _ _ _ _ _ _ _ _ _ _ (zapp r (zev op ar sx p2 p3 d (p2 k) y vr s'))
        cases hz2 : zev op ar sx p2 p3 d (p2 k) y vr s' with
        | none =>
          rw [hz2] at d7
          dsimp only at d7
          rw [hF _ d7 d2.L]
          exact ⟨g2, v2, T2, s2, d1, hYY, d3, by omega, d5, rfl, by omega⟩
        | some q =>
          obtain ⟨r2, e2, s3⟩ := q
          rw [hz2, hll] at d7
          dsimp only at d7
          by_cases c2 : l.length + r.length + r2.length ≤ 16
          · rw [if_pos c2] at d7
            obtain ⟨f1, f2, f3, f4⟩ := d7
            rw [hF _ f1 d2.L]
            refine ⟨g2, v2, T2, s2, d1, hYY, d3, by omega, d5, ?_⟩
            unfold zWr
            dsimp only [zapp]
            rw [List.length_append, if_pos (by omega)]
            have := zph_m (e := e2) (show l.length ≤ l.length + (r.length + r2.length) by omega)
            exact ⟨rfl, by rw [← List.append_assoc]; exact f2, f3, by rw [f4, hj 26 (by omega)]; exact q4, by omega⟩
          · rw [if_neg c2] at d7
            rw [hF _ d7 d2.L]
            refine ⟨g2, v2, T2, s2, d1, hYY, d3, by omega, d5, ?_⟩
            unfold zWr
            dsimp only [zapp]
            rw [List.length_append, if_neg (by omega)]
            exact ⟨rfl, by omega⟩
    · rw [if_neg c] at k7
      rw [k7, bo_r]
      have key : ∀ sp9 : zEv, zWr (some (.inr 3, g', v')) v T out l none s 0 (zapp r sp9) g' v' T' s' := by
        intro sp9
        rcases zapp_ov (sp := sp9) (r := r) with h9 | ⟨r2, e2, s2, h9, h10⟩
        · rw [h9]; exact ⟨rfl, by omega⟩
        · rw [h9]
          unfold zWr
          dsimp only
          rw [if_neg (by omega)]
          exact ⟨rfl, by omega⟩
      exact ⟨g', v', T', s', k1, k2.mono zS_S, k3, k4, k5, key _⟩
theorem row_x (hlv : lv < 8) : inrB (28 + 4 * lv + 1) = true ∧ ∀ (g : Nat → Nat) (v : mS), bn_len (q0z g v) (28 + 4 * lv + 1) = 16 := by
  have : lv = 0 ∨ lv = 1 ∨ lv = 2 ∨ lv = 3 ∨ lv = 4 ∨ lv = 5 ∨ lv = 6 ∨ lv = 7 := by omega
  rcases this with h | h | h | h | h | h | h | h <;> subst h <;> exact ⟨by decide, fun g v => rfl⟩
theorem w_array (hK : zKr op ar sx p2 p3 Kr d (lv + 1)) (hlv : lv < 8) (hR : zRn op ar sx p2 p3 vr g v T s) (hO : zOut lv out) (hk : zok op ar p2 p3 (d + 1) k) (h1 : 1 ≤ zpt (op k)) (ha : zV (v 4) T a t) (hw : zRw v T out l none) (hT : T + 280 * (150 - s) + zph l.length none ≤ 65000) : zWk (zS lv out) (f_N_array Kr g v (zI k) (zI a) (zI lv) out) g v T out l none s 0 (zbnd (zev op ar sx p2 p3 d (k + 1) t vr s) (fun r e s1 => match e with | some y => some ([], some y, s1) | none => zgv (zmkA r.length (fun i => r.getD i (zW 0))) s1)) := by
  have hrow : rowB (28 + 4 * lv) = true := by simp [rowB]; omega
  have h16 := hw.2.1
  have hph : 16 ≤ zph l.length none := by simp only [zph]; omega
  refine zWk_mg ?_
  rw [gd_t hO.1, gd_t (en_fil hR.2.1), en_1 hR.2.1, bi_s, zl_0]
  refine w_rowK (w := 0) hK hlv (by omega) hR (hk.2.2.2.1 h1) ha hO hw (by omega) (zS_R (by omega) hlv) (fun g' v' T' r e s1 h3 h4 h5 h6 h7 h8 h9 h10 => ?_)
  have hr16 := h6.2.1
  have h150 := h4.2.2.2.2
  rw [show 28 + 4 * lv + 2 * 0 = 28 + 4 * lv by omega] at h6 ⊢
  rw [f_N_array_15, gd_t hO.1, gd_t hrow, c_ended h4.1 hrow h6, bi_s]
  cases e with
  | some y =>
    rw [if_neg (show ¬ some y = none by simp), if_neg (by decide)]
    refine w_endAs (e0 := none) (xs := r) (eR := some y) h4.1 hO.1 hrow zS_o.1 h4.2.2.2.1 h150 h7 h6 (fun w hw9 => ?_)
    rw [hw9, bv_s]
    rfl
  | none =>
    obtain ⟨x1, x2⟩ := row_x hlv
    rw [if_pos rfl, if_pos rfl, f_R_items, gd_t hrow, bi_s, c_rsize hrow h6, bi_s]
    refine w_giveP h4.1 hO.1 zS_o h7 h4.2.2.2.1 h150 (c_arrayOf h4.1 x1 (by rw [x2]; exact hr16) (by rw [x2]; omega) (Or.inr ⟨by omega, by omega, by omega⟩) h6.2.2.1 (by omega)) (by omega) (fun e he => zmkA_e he) (fun y g2 v2 T2 q hq hp m1 w1 s2 => ?_)
    cases q with
    | inl e => unfold zmkA at hq; split at hq <;> cases hq
    | inr u =>
      obtain ⟨c1, e1, h11⟩ := hp
      have e1 : y = zI c1 := by cases e1; rfl
      subst e1
      rw [f_N_array_54, gd_t hO.1, bo_id (fun r g v => by cases r; rfl)]
      exact w_put0 m1 hO.1 zS_o w1 s2 h11
/-- OR: the good values of the row -/
theorem w_alt_l (hK : zKr op ar sx p2 p3 Kr d (lv + 1)) (hlv : lv < 8) (hO : zOut lv out) (hk : zok op ar p2 p3 (d + 1) k) (h2 : 2 ≤ zpt (op k)) {xs : List zT} {eR : Option zT} : ∀ (m q n : Nat) (v : mS) (l : List zT) (f : Bool), n + m = xs.length → m < q → zRn op ar sx p2 p3 vr g v T s → zV (v 4) T a t → zRw v T out l none → zRw v T (28 + 4 * lv) xs eR → T + 280 * (150 - s) + zph l.length none ≤ 65000 → zWk (zS lv out) (f_N_alternative_23 Kr q (zI k) (zI a) (zI lv) out (28 + 4 * lv) (if f = true then 1 else 0) (zI n) g v) g v T out l none s 0 (if f = true ∧ (xs.drop n).filter zgood = [] then zev op ar sx p2 p3 d (p2 k) t vr s else some ((xs.drop n).filter zgood, none, s)) := by
  obtain ⟨o1, o2, o3⟩ := rowB_r hO.1
  have hrow : rowB (28 + 4 * lv) = true := by simp [rowB]; omega
  intro m
  induction m with
  | zero =>
    intro q n v l f hn hq hR ha hw hw2 hT
    obtain ⟨q, rfl, -⟩ := suc_of hq
    have hx16 := hw2.2.1
    have e1 : xs.drop n = [] := List.drop_eq_nil_of_le (by omega)
    rw [e1, f_N_alternative_23, gd_t hO.1, gd_t hrow, c_rsize hrow hw2, bi_s, iI_le (by omega) (by omega), if_pos (by omega)]
    cases f with
    | false =>
      rw [if_neg (show ¬ false = true by decide), if_pos rfl, if_neg (by simp)]
      exact w_id hR.1 hR.2.2.2.1 hR.2.2.2.2 hw rfl
    | true =>
      rw [if_pos rfl, if_neg (by decide), if_pos (by simp), gd_t (en_fil hR.2.1), en_2 hR.2.1 hk h2, bi_s, bo_id (fun r g v => by cases r; rfl), zl_1, zI_add]
      exact zWk_mono (w_Kr hK hR (hk.2.2.2.2.1 h2) ha (zOut_s hO) hw (by omega)) zS_S
  | succ m ih =>
    intro q n v l f hn hq hR ha hw hw2 hT
    obtain ⟨q, rfl, hq⟩ := suc_of hq
    have hq := Nat.lt_of_succ_lt_succ hq
    have hx16 := hw2.2.1
    obtain ⟨b, eb, hb⟩ := c_rat (g := g) hrow hw2 (show n < xs.length by omega)
    have h60 := hO.2
    have hun : f_N_alternative_23 Kr (q + 1) (zI k) (zI a) (zI lv) out (28 + 4 * lv) (if f = true then 1 else 0) (zI n) g v = if zk (xs.getD n (zW 0)) < 2 then f_N_alternative_23 Kr q (zI k) (zI a) (zI lv) out (28 + 4 * lv) (if f = true then 1 else 0) (zI (n + 1)) g v else bo (f_R_put g v out (zI b)) (fun r9 g9 v9 => f_N_alternative_62 Kr (f_N_alternative_23 Kr q) (zI k) (zI a) (zI lv) out (28 + 4 * lv) (zI n) g9 v9) := by
      rw [f_N_alternative_23, gd_t hO.1, gd_t hrow, c_rsize hrow hw2, bi_s, iI_le (by omega) (by omega), if_neg (by omega), eb, bi_s, c_good hR.1 hb, bi_s]
      by_cases c : zk (xs.getD n (zW 0)) < 2
      · rw [if_pos c, if_pos rfl, if_pos c, f_N_alternative_65, gd_t hO.1, gd_t hrow, nm_s, zl_1, zI_add]
      · rw [if_neg c, if_neg (by decide), if_neg c, eb, bi_s]
    rw [hun, drop_c (by omega)]
    by_cases c : zk (xs.getD n (zW 0)) < 2
    · have hg : zgood (xs.getD n (zW 0)) = false := by simp only [zgood, decide_eq_false_iff_not]; omega
      rw [if_pos c, List.filter_cons_of_neg (by rw [hg]; decide)]
      exact ih q (n + 1) v l f (by omega) hq hR ha hw hw2 hT
    · have hg : zgood (xs.getD n (zW 0)) = true := by simp only [zgood, decide_eq_true_eq]; omega
      rw [if_neg c, List.filter_cons_of_pos hg, if_neg (by simp)]
      refine w_putK (sp2 := some ((xs.drop (n + 1)).filter zgood, none, s)) hR.1 hO.1 zS_o hw hR.2.2.2.1 hR.2.2.2.2 hb (fun v' m1 y1 s1 w1 h26 hj => ?_)
      rw [f_N_alternative_62, gd_t hO.1, gd_t hrow, f_N_alternative_65, gd_t hO.1, gd_t hrow, nm_s, zl_1, zI_add]
      have h9 := ih q (n + 1) v' (l ++ [xs.getD n (zW 0)]) false (by omega) hq (zRn_up hR m1 y1 (zS_so hO) h26 s1 hR.2.2.2.2) (y1.V ha) w1 (zRw_up hw2 (hj _ (by omega) (by omega)) (hj _ (by omega) (by omega)) y1.2.2.2.2.1 (Nat.le_refl _)) (by have := zph_m (e := none) (show l.length ≤ (l ++ [xs.getD n (zW 0)]).length by simp); omega)
      rw [if_neg (show ¬ false = true by decide), if_neg (by simp)] at h9
      exact h9
theorem w_alt (hK : zKr op ar sx p2 p3 Kr d (lv + 1)) (hlv : lv < 8) (hR : zRn op ar sx p2 p3 vr g v T s) (hO : zOut lv out) (hk : zok op ar p2 p3 (d + 1) k) (h2 : 2 ≤ zpt (op k)) (ha : zV (v 4) T a t) (hw : zRw v T out l none) (hT : T + 280 * (150 - s) + zph l.length none ≤ 65000) : zWk (zS lv out) (f_N_alternative Kr g v (zI k) (zI a) (zI lv) out) g v T out l none s 0 (zbnd (zev op ar sx p2 p3 d (k + 1) t vr s) (fun r _ s1 => if r.filter zgood = [] then zev op ar sx p2 p3 d (p2 k) t vr s1 else some (r.filter zgood, none, s1))) := by
  have hrow : rowB (28 + 4 * lv) = true := by simp [rowB]; omega
  refine zWk_mg ?_
  rw [gd_t hO.1, gd_t (en_fil hR.2.1), en_1 hR.2.1, bi_s, zl_0]
  refine w_rowK (w := 0) hK hlv (by omega) hR (hk.2.2.2.1 (by omega)) ha hO hw (by omega) (zS_R (by omega) hlv) (fun g' v' T' r e s1 h3 h4 h5 h6 h7 h8 h9 h10 => ?_)
  have hr16 := h6.2.1
  have h150 := h4.2.2.2.2
  rw [show 28 + 4 * lv + 2 * 0 = 28 + 4 * lv by omega] at h6 ⊢
  rw [f_N_alternative_15, gd_t hO.1, gd_t hrow, zl_0]
  have h11 := w_alt_l hK hlv hO hk h2 (xs := r) (eR := e) r.length fu 0 v' l true (by omega) (fu_lt (by omega)) h4 (h5.V ha) h7 h6 (by omega)
  rw [if_pos rfl, List.drop_zero] at h11
  have e9 : (if true = true ∧ r.filter zgood = [] then zev op ar sx p2 p3 d (p2 k) t vr s1 else some (r.filter zgood, none, s1)) = if r.filter zgood = [] then zev op ar sx p2 p3 d (p2 k) t vr s1 else some (r.filter zgood, none, s1) := by
    by_cases c : r.filter zgood = []
    · rw [if_pos ⟨rfl, c⟩, if_pos c]
    · rw [if_neg (fun h => c h.2), if_neg c]
  rw [e9] at h11
  exact h11
/-- LIMIT -/
theorem w_lim_l (hlv : lv < 8) (hO : zOut lv out) {xs : List zT} {eR : Option zT} {M : Nat} (hM9 : M < 10) : ∀ (m q n : Nat) (v : mS) (l : List zT), n + m = min xs.length M → m < q → zM g v T → v 25 5 = zI s → s ≤ 150 → zRw v T out l none → zRw v T (28 + 4 * lv) xs eR → zWk (zS lv out) (f_N_limit_36 Kr q out (zI M) (28 + 4 * lv) (zI n) g v) g v T out l none s 0 (some ((xs.take M).drop n, if xs.length < M then eR else none, s)) := by
  obtain ⟨o1, o2, o3⟩ := rowB_r hO.1
  have hrow : rowB (28 + 4 * lv) = true := by simp [rowB]; omega
  intro m
  induction m with
  | zero =>
    intro q n v l hn hq hM hs h150 hw hw2
    obtain ⟨q, rfl, -⟩ := suc_of hq
    have hx16 := hw2.2.1
    have e1 : (xs.take M).drop n = [] := List.drop_eq_nil_of_le (by rw [List.length_take]; omega)
    have e71 : f_N_limit_36 Kr (q + 1) out (zI M) (28 + 4 * lv) (zI n) g v = f_N_limit_71 Kr out (zI M) (28 + 4 * lv) g v := by
      rw [f_N_limit_36, gd_t hO.1, gd_t hrow, c_rsize hrow hw2, bi_s, iI_le (by omega) (by omega), iI_le (by omega) (by omega)]
      by_cases c : xs.length ≤ n
      · rw [if_pos c]
      · rw [if_neg c, if_pos (by omega)]
    rw [e1, e71]
    by_cases c : xs.length < M
    · rw [if_pos c]
      refine w_endAs (e0 := none) (xs := xs) (eR := eR) hM hO.1 hrow zS_o.1 hs h150 hw hw2 (fun w hw9 => ?_)
      rw [f_N_limit_71, gd_t hO.1, gd_t hrow, c_rsize hrow hw2, bi_s, iI_le (by omega) (by omega), if_neg (by omega), hw9, bv_s]
      rfl
    · rw [if_neg c]
      refine w_id hM hs h150 hw ?_
      rw [f_N_limit_71, gd_t hO.1, gd_t hrow, c_rsize hrow hw2, bi_s, iI_le (by omega) (by omega), if_pos (by omega)]
      rfl
  | succ m ih =>
    intro q n v l hn hq hM hs h150 hw hw2
    obtain ⟨q, rfl, hq⟩ := suc_of hq
    have hq := Nat.lt_of_succ_lt_succ hq
    have hx16 := hw2.2.1
    obtain ⟨b, eb, hb⟩ := c_rat (g := g) hrow hw2 (show n < xs.length by omega)
    have e1 : (xs.take M).drop n = xs.getD n (zW 0) :: (xs.take M).drop (n + 1) := by
      rw [drop_c (by rw [List.length_take]; omega)]
      congr 1
      simp only [List.getD_eq_getElem?_getD]
      rw [List.getElem?_take_of_lt (by omega)]
    have h60 := hO.2
    rw [e1, f_N_limit_36, gd_t hO.1, gd_t hrow, c_rsize hrow hw2, bi_s, iI_le (by omega) (by omega), if_neg (by omega), iI_le (by omega) (by omega), if_neg (by omega), eb, bi_s]
    refine w_putK (sp2 := some ((xs.take M).drop (n + 1), if xs.length < M then eR else none, s)) hM hO.1 zS_o hw hs h150 hb (fun v' m1 y1 s1 w1 _ hj => ?_)
    rw [f_N_limit_65, gd_t hO.1, gd_t hrow, nm_s, zl_1, zI_add]
    exact ih q (n + 1) v' _ (by omega) hq m1 s1 h150 w1 (zRw_up hw2 (hj _ (by omega) (by omega)) (hj _ (by omega) (by omega)) y1.2.2.2.2.1 (Nat.le_refl _))
theorem w_limit (hK : zKr op ar sx p2 p3 Kr d (lv + 1)) (hlv : lv < 8) (hR : zRn op ar sx p2 p3 vr g v T s) (hO : zOut lv out) (hk : zok op ar p2 p3 (d + 1) k) (ho : op k = 31) (ha : zV (v 4) T a t) (hw : zRw v T out l none) (hT : T + 280 * (150 - s) + zph l.length none ≤ 65000) : zWk (zS lv out) (f_N_limit Kr g v (zI k) (zI a) (zI lv) out) g v T out l none s 0 (if ar k = 0 then some ([], none, s) else zbnd (zev op ar sx p2 p3 d (k + 1) t vr s) (fun r e s1 => some (r.take (ar k).toNatClampNeg, if r.length < (ar k).toNatClampNeg then e else none, s1))) := by
  have hrow : rowB (28 + 4 * lv) = true := by simp [rowB]; omega
  obtain ⟨n, hn, hn10⟩ := hk.2.2.1.2.2.2.2.2 ho
  have hn' : (ar k).toNatClampNeg = n := by rw [hn, zI_toNat (by omega)]
  have h1 : 1 ≤ zpt (op k) := by rw [ho]; decide
  have e0 : (zI n = 0) = (n = 0) := by rw [zl_0, zI_eq (by omega) (by omega)]
  refine zWk_mg ?_
  rw [gd_t hO.1, gd_t (en_fil hR.2.1), en_ar hR.2.1 hk.1, bi_s, hn', hn, ite_p e0, ite_p e0]
  by_cases c : n = 0
  · rw [if_pos c, if_pos c]
    exact w_id hR.1 hR.2.2.2.1 hR.2.2.2.2 hw rfl
  · rw [if_neg c, if_neg c, gd_t (en_fil hR.2.1), en_1 hR.2.1, bi_s, zl_0]
    refine w_rowK (w := 0) hK hlv (by omega) hR (hk.2.2.2.1 h1) ha hO hw (by omega) (zS_R (by omega) hlv) (fun g' v' T' r e s1 h3 h4 h5 h6 h7 h8 h9 h10 => ?_)
    have hr16 := h6.2.1
    have h150 := h4.2.2.2.2
    rw [show 28 + 4 * lv + 2 * 0 = 28 + 4 * lv by omega] at h6 ⊢
    rw [f_N_limit_31, gd_t hO.1, gd_t hrow, zl_0]
    have h11 := w_lim_l (Kr := Kr) hlv hO hn10 (xs := r) (eR := e) (min r.length n) fu 0 v' l (by omega) (fu_lt (by omega)) h4.1 h4.2.2.2.1 h150 h7 h6
    rw [List.drop_zero] at h11
    exact h11
end CXX
