/-! the class's Runner: CALC and COMPARE -/
theorem zcalc_e {n : Nat} {x y : zT} {e : Nat} (h : zcalc n x y = some (.inl e)) : 1 ≤ e ∧ e ≤ 2 := by
  unfold zcalc at h
  split at h
  · have := zadd_e h; omega
  · split at h
    · unfold zsub at h
      split at h
      · exact zmkN_e h
      · split at h
        · exact zmkA_e h
        · cases h; omega
    · split at h
      · unfold zmul znum at h
        split at h
        · split at h <;> cases h
        · cases h; omega
      · unfold zrem at h
        split at h
        · split at h
          · cases h; omega
          · exact zmkN_e h
        · cases h; omega
def zpv (o n : Nat) (x y : zT) : Option (Nat ⊕ zT) := if o = 13 then some (.inr (ztr (zhold n (zcmp 6 x y)))) else zcalc n x y
theorem zpv_e {o n : Nat} {x y : zT} {e : Nat} (h : zpv o n x y = some (.inl e)) : 1 ≤ e ∧ e ≤ 2 := by
  unfold zpv at h
  split at h
  · cases h
  · exact zcalc_e h
theorem bo_as {α β γ : Type} {F : Option (bO α)} {G : α → (Nat → Nat) → mS → Option (bO β)} {K : β → (Nat → Nat) → mS → Option (bO γ)} {o : bO β} (h : bo F G = some o) : bo F (fun r g v => bo (G r g v) K) = bo (bo F G) K := by
  cases F with
  | none => cases h
  | some o1 =>
    obtain ⟨r, g1, v1⟩ := o1
    cases r with
    | inr n => rfl
    | inl r =>
      unfold bo at h
      dsimp only at h
      cases hG : G r g1 v1 with
      | none => rw [hG] at h; cases h
      | some o2 =>
        rw [hG] at h
        dsimp only at h
        by_cases c : gL g1 ≤ gL o2.2.1
        · have e1 : bo (some ((Sum.inl r, g1, v1) : bO α)) G = some o2 := bo_l hG c
          rw [e1]
          obtain ⟨r2, g2, v2⟩ := o2
          cases r2 with
          | inr n =>
            rw [bo_r]
            exact bo_l (o := (.inr n, g2, v2)) (by rw [hG]; exact bo_r) c
          | inl r2 =>
            cases hK : K r2 g2 v2 with
            | none =>
              have e2 : bo (some ((Sum.inl r2, g2, v2) : bO β)) K = none := by unfold bo; dsimp only; rw [hK]
              rw [e2]
              unfold bo
              dsimp only
              rw [hG]
              dsimp only
              rw [hK]
            | some o3 =>
              by_cases c2 : gL g2 ≤ gL o3.2.1
              · have e2 : bo (some ((Sum.inl r2, g2, v2) : bO β)) K = some o3 := bo_l hK c2
                rw [e2]
                exact bo_l (o := o3) (by rw [hG]; exact e2) (Nat.le_trans c c2)
              · have e2 : bo (some ((Sum.inl r2, g2, v2) : bO β)) K = none := by unfold bo; dsimp only; rw [hK]; dsimp only; rw [if_neg c2]
                rw [e2]
                unfold bo
                dsimp only
                rw [hG]
                dsimp only
                rw [hK]
                dsimp only
                rw [if_neg c2]
        · rw [if_neg c] at h; cases h
theorem zseq_as {E : zEv} {f : Option zT → Nat → zEv} {K : Option zT → Nat → zEv} : zseq (zseq E f) K = zseq E (fun e s => zseq (f e s) K) := by
  cases E with
  | none => rfl
  | some q =>
    obtain ⟨r, e, s⟩ := q
    show zseq (zapp r (f e s)) K = zapp r (zseq (f e s) K)
    cases f e s with
    | none => rfl
    | some q2 =>
      obtain ⟨r2, e2, s2⟩ := q2
      show zapp (r ++ r2) (K e2 s2) = zapp r (zapp r2 (K e2 s2))
      cases K e2 s2 with
      | none => rfl
      | some q3 => obtain ⟨r3, e3, s3⟩ := q3; simp [zapp]
theorem zseq_b {E : zEv} {f : List zT → Option zT → Nat → zEv} {K : Option zT → Nat → zEv} : zseq (zbnd E f) K = zbnd E (fun r e s => zseq (f r e s) K) := by
  cases E with
  | none => rfl
  | some q => rfl
section CYY
variable {op : Nat → Nat} {ar : Nat → Int32} {sx : Nat → zN} {p2 p3 : Nat → Nat} {vr : Nat → zT} {S : Nat → Prop} {g : Nat → Nat} {v : mS} {T a b s d k lv out : Nat} {t x y : zT} {l : List zT}
variable {Kr : (Nat → Nat) → mS → Int32 → Int32 → Int32 → Nat → Option (bO Unit)}
theorem c_holds {h : Nat} {c : Int} (hh : h < 6) (hc : c = -1 ∨ c = 0 ∨ c = 1) : f_N_holds g v (zI h) (zJ c) = some (if zhold h c = true then 1 else 0, v) := by
  have hcase : h = 0 ∨ h = 1 ∨ h = 2 ∨ h = 3 ∨ h = 4 ∨ h = 5 := by omega
  rcases hcase with rfl | rfl | rfl | rfl | rfl | rfl <;> rcases hc with rfl | rfl | rfl <;> rfl
theorem c_paired (hR : zRn op ar sx p2 p3 vr g v T s) (hk : zok op ar p2 p3 (d + 1) k) (ho : op k = 12 ∨ op k = 13) (ha : zV (v 4) T a x) (hb : zV (v 4) T b y) (hT : T + 16 ≤ 65000) : zP (f_N_paired g v (zI k) (zI a) (zI b)) g v T 16 (zpv (op k) (ar k).toNatClampNeg x y) := by
  refine zP_mg ?_
  rw [gd_t (en_fil hR.2.1), en_ar hR.2.1 hk.1, bi_s, gd_t (en_fil hR.2.1), en_op hR.2.1 hk.1, bi_s]
  unfold zpv
  rcases ho with h | h
  · obtain ⟨n, hn, hn4⟩ := hk.2.2.1.2.2.1 h
    have hn' : (ar k).toNatClampNeg = n := by rw [hn, zI_toNat (by omega)]
    rw [hn', hn, h, if_neg (show ¬ zI 12 = 13 by decide), if_neg (show ¬ (12 : Nat) = 13 by decide)]
    have e0 : (zI n = 0) = (n = 0) := by rw [zl_0, zI_eq (by omega) (by omega)]
    have e1 : (zI n = 1) = (n = 1) := by rw [zl_1, zI_eq (by omega) (by omega)]
    have e2 : (zI n = 2) = (n = 2) := by rw [zl_2, zI_eq (by omega) (by omega)]
    rw [ite_p e0, ite_p e1, ite_p e2]
    unfold zcalc
    by_cases c0 : n = 0
    · rw [if_pos c0, if_pos c0, bo_id (fun r g v => by rfl)]
      exact c_plus hR.1 ha hb hT
    · rw [if_neg c0, if_neg c0]
      by_cases c1 : n = 1
      · rw [if_pos c1, if_pos c1, bo_id (fun r g v => by rfl)]
        exact c_minus hR.1 ha hb hT
      · rw [if_neg c1, if_neg c1]
        by_cases c2 : n = 2
        · rw [if_pos c2, if_pos c2, bo_id (fun r g v => by rfl)]
          exact c_times hR.1 ha hb hT
        · rw [if_neg c2, if_neg c2, bo_id (fun r g v => by rfl)]
          exact c_rest hR.1 ha hb hT
  · obtain ⟨n, hn, hn6⟩ := hk.2.2.1.2.2.2.1 h
    have hn' : (ar k).toNatClampNeg = n := by rw [hn, zI_toNat (by omega)]
    obtain ⟨p, ep, hp⟩ := c_truth hR.1 (b := zhold n (zcmp 6 x y)) (x := if zhold n (zcmp 6 x y) = true then 1 else 0) rfl
    rw [hn', hn, h, if_pos (show zI 13 = 13 by decide), if_pos rfl, c_cmp6 hR.1 ha hb, bi_s, c_holds hn6 (zcmp_r _ _ _), bi_s, ep, bi_s]
    exact zP_of hR.1 hp
theorem w_seq1 {S1 : Nat → Prop} {F : Option (bO Unit)} {K : Unit → (Nat → Nat) → mS → Option (bO Unit)} {e0 : Option zT} {c1 c2 : Nat} {sp1 : zEv} {sp2 : Option zT → Nat → zEv} (hS : ∀ j, S1 j → S j) (h1 : zWk S1 F g v T out l e0 s c1 sp1)
    (hk : ∀ (g' : Nat → Nat) (v' : mS) (T' : Nat) (r : List zT) (e : Option zT) (s1 : Nat), sp1 = some (r, e, s1) → l.length + r.length ≤ 16 → zM g' v' T' → zY S1 g v T g' v' T' → v' 25 5 = zI s1 → s ≤ s1 → s1 ≤ 150 → zRw v' T' out (l ++ r) e → v' 26 = v 26 → T' + 280 * s + zph (l.length + r.length) e ≤ T + 280 * s1 + zph l.length e0 + c1 → zWk S (K () g' v') g' v' T' out (l ++ r) e s1 c2 (sp2 e s1)) : zWk S (bo F K) g v T out l e0 s (c1 + c2) (zseq sp1 sp2) := by
  obtain ⟨g', v', T', s', a1, a2, a3, a4, a5, a6⟩ := h1
  cases hsp : sp1 with
  | none =>
    rw [hsp] at a6
    obtain ⟨b1, b2⟩ := a6
    rw [b1, bo_r]
    exact ⟨g', v', T', s', a1, a2.mono hS, a3, a4, a5, rfl, by omega⟩
  | some w =>
    obtain ⟨r, e, s1⟩ := w
    rw [hsp] at a6
    unfold zWr at a6
    dsimp only at a6
    by_cases cl : l.length + r.length ≤ 16
    · rw [if_pos cl] at a6
      obtain ⟨b1, b2, b3, b4, b5⟩ := a6
      subst b3
      have h2 := hk g' v' T' r e s' hsp cl a1 a2 a3 a4 a5 b2 b4 b5
      have h3 := w_app (a2.mono hS) b4 a4 b5 h2
      have hb : bo F K = K () g' v' := by
        obtain ⟨g2, v2, T2, s2, d1, d2, d3, d4, d5, d6⟩ := h2
        obtain ⟨x, ex⟩ := zWr_some d6
        rw [b1, ex]
        exact bo_l ex d2.L
      rw [hb]
      exact h3
    · rw [if_neg cl] at a6
      obtain ⟨b1, b2⟩ := a6
      rw [b1, bo_r]
      refine ⟨g', v', T', s', a1, a2.mono hS, a3, a4, a5, ?_⟩
      show zWr _ _ _ _ _ _ _ _ (zapp r (sp2 e s1)) _ _ _ _
      rcases zapp_ov (sp := sp2 e s1) (r := r) with h9 | ⟨r2, e2, s2, h9, h10⟩
      · rw [h9]; exact ⟨rfl, by omega⟩
      · rw [h9]
        unfold zWr
        dsimp only
        rw [if_neg (by omega)]
        exact ⟨rfl, by omega⟩
/-- for each pair: the inner row, then what comes behind it -/
theorem w_pair_in {K20 : Int32 → Int32 → Int32 → Nat → Nat → Int32 → (Nat → Nat) → mS → Option (bO Unit)} {SPK : Option zT → Nat → zEv} (hlv : lv < 8) (hO : zOut lv out) (hk : zok op ar p2 p3 (d + 1) k) (ho : op k = 12 ∨ op k = 13) {ys xs : List zT} {eY eX : Option zT} {j : Nat} (hj : j < ys.length)
    (hK2 : ∀ (g : Nat → Nat) (v : mS) (T s : Nat) (l : List zT) (e : Option zT), zRn op ar sx p2 p3 vr g v T s → zV (v 4) T a t → zRw v T out l e → zRw v T (28 + 4 * lv) ys eY → T + 280 * (150 - s) + zph l.length e ≤ 65000 → zWk (zSB lv out) (K20 (zI k) (zI a) (zI lv) out (28 + 4 * lv) (zI (j + 1)) g v) g v T out l e s 0 (SPK e s)) : ∀ (m q n : Nat) (g : Nat → Nat) (v : mS) (T s : Nat) (l : List zT) (e0 : Option zT), n + m = xs.length → m < q → zRn op ar sx p2 p3 vr g v T s → zV (v 4) T a t → zRw v T out l e0 → zRw v T (28 + 4 * lv) ys eY → zRw v T (28 + 4 * lv + 2) xs eX → T + 280 * (150 - s) + zph l.length e0 ≤ 65000 → zWk (zSB lv out) (f_N_forEachPair_58 Kr K20 q (zI k) (zI a) (zI lv) out (28 + 4 * lv) (zI j) (28 + 4 * lv + 2) (zI n) g v) g v T out l e0 s 0 (zseq (zlp (fun x s => zgv (zpv (op k) (ar k).toNatClampNeg x (ys.getD j (zW 0))) s) (xs.drop n) eX e0 s) SPK) := by
  obtain ⟨o1, o2, o3⟩ := rowB_r hO.1
  have h60 := hO.2
  have hrow : rowB (28 + 4 * lv) = true := by simp [rowB]; omega
  have hrow2 : rowB (28 + 4 * lv + 2) = true := by simp [rowB]; omega
  -- the end of the inner row
  have hend : ∀ (g : Nat → Nat) (v : mS) (T s : Nat) (l : List zT) (e0 : Option zT), zRn op ar sx p2 p3 vr g v T s → zV (v 4) T a t → zRw v T out l e0 → zRw v T (28 + 4 * lv) ys eY → zRw v T (28 + 4 * lv + 2) xs eX → T + 280 * (150 - s) + zph l.length e0 ≤ 65000 → zWk (zSB lv out) (f_N_forEachPair_107 Kr K20 (zI k) (zI a) (zI lv) out (28 + 4 * lv) (zI j) (28 + 4 * lv + 2) g v) g v T out l e0 s 0 (zseq (zen e0 eX s) SPK) := by
    intro g v T s l e0 hR ha hw hw2 hw3 hT
    have hy16 := hw2.2.1
    have hl16 := hw.2.1
    cases e0 with
    | some z =>
      have e1 : f_N_forEachPair_107 Kr K20 (zI k) (zI a) (zI lv) out (28 + 4 * lv) (zI j) (28 + 4 * lv + 2) g v = K20 (zI k) (zI a) (zI lv) out (28 + 4 * lv) (zI (j + 1)) g v := by
        rw [f_N_forEachPair_107, gd_t hO.1, gd_t hrow, gd_t hrow2, c_endAs_st (l2 := xs) hR.1 hO.1 hrow2 hw, bv_s, nm_s, zl_1, zI_add]
      rw [e1]
      have h9 := hK2 g v T s l (some z) hR ha hw hw2 hT
      have h10 := w_app (l := l) (r1 := []) (e0 := some z) (e1 := some z) (c0 := 0) (c := 0) (s := s) (s1 := s) (zY.rf (S := zSB lv out)) rfl (Nat.le_refl _) (by simp) (by rw [List.append_nil]; exact h9)
      exact h10
    | none =>
      obtain ⟨z, ez, hz⟩ := c_endAs hR.1 hO.1 hrow2 hw hw3
      have hjj : ∀ j, j ≠ out → sU v out 2 z j = v j := fun j h => sU_j h
      have hY1 : zY (zSB lv out) g v T g (sU v out 2 z) T := ⟨Nat.le_refl _, rfl, rfl, Nat.le_refl _, fun i _ => by rw [hjj 4 (by omega)], fun j _ _ _ _ hn => hjj j (fun h9 => hn (by subst h9; exact zSB_o.1))⟩
      have hM1 : zM g (sU v out 2 z) T := zM_w hR.1 (hjj 1 (by omega)) (fun i _ => by rw [hjj 4 (by omega)])
      have hR1 := zRn_up hR hM1 hY1 (zSB_so hO) (hjj 26 (by omega)) (by rw [hjj 25 (by omega)]; exact hR.2.2.2.1) hR.2.2.2.2
      have e1 : f_N_forEachPair_107 Kr K20 (zI k) (zI a) (zI lv) out (28 + 4 * lv) (zI j) (28 + 4 * lv + 2) g v = K20 (zI k) (zI a) (zI lv) out (28 + 4 * lv) (zI (j + 1)) g (sU v out 2 z) := by
        rw [f_N_forEachPair_107, gd_t hO.1, gd_t hrow, gd_t hrow2, ez, bv_s, nm_s, zl_1, zI_add]
      rw [e1]
      have hph := zph_m (e := eX) (Nat.le_refl l.length)
      have h9 := hK2 g (sU v out 2 z) T s l eX hR1 (hY1.V ha) hz (zRw_up hw2 (hjj _ (by omega)) (hjj _ (by omega)) hY1.2.2.2.2.1 (Nat.le_refl _)) (by omega)
      have h10 := w_app (l := l) (r1 := []) (e0 := none) (e1 := eX) (c0 := 0) (c := 0) (s := s) (s1 := s) hY1 (hjj 26 (by omega)) (Nat.le_refl _) (by simp; omega) (by rw [List.append_nil]; exact h9)
      exact h10
  intro m
  induction m with
  | zero =>
    intro q n g v T s l e0 hn hq hR ha hw hw2 hw3 hT
    obtain ⟨q, rfl, -⟩ := suc_of hq
    have hx16 := hw3.2.1
    have e1 : xs.drop n = [] := List.drop_eq_nil_of_le (by omega)
    have e2 : zlp (fun x s => zgv (zpv (op k) (ar k).toNatClampNeg x (ys.getD j (zW 0))) s) (xs.drop n) eX e0 s = zen e0 eX s := by
      rw [e1]; cases e0 <;> rfl
    rw [e2, f_N_forEachPair_58, gd_t hO.1, gd_t hrow, gd_t hrow2, c_rsize hrow2 hw3, bi_s, iI_le (by omega) (by omega), if_pos (by omega)]
    exact hend g v T s l e0 hR ha hw hw2 hw3 hT
  | succ m ih =>
    intro q n g v T s l e0 hn hq hR ha hw hw2 hw3 hT
    obtain ⟨q, rfl, hq⟩ := suc_of hq
    have hq := Nat.lt_of_succ_lt_succ hq
    have hx16 := hw3.2.1
    have hy16 := hw2.2.1
    have hl16 := hw.2.1
    rw [f_N_forEachPair_58, gd_t hO.1, gd_t hrow, gd_t hrow2, c_rsize hrow2 hw3, bi_s, iI_le (by omega) (by omega), if_neg (by omega), c_ended hR.1 hO.1 hw, bi_s]
    cases e0 with
    | some z =>
      rw [if_neg (show ¬ some z = none by simp), if_neg (by decide)]
      exact hend g v T s l (some z) hR ha hw hw2 hw3 hT
    | none =>
      obtain ⟨b, eb, hb⟩ := c_rat (g := g) hrow2 hw3 (show n < xs.length by omega)
      obtain ⟨c, ec, hc⟩ := c_rat (g := g) hrow hw2 hj
      have hph : 16 ≤ zph l.length none := by simp only [zph]; omega
      have hA : zWk (fun j => j = out ∨ j = out + 1) (bo (f_N_paired g v (zI k) (zI b) (zI c)) (fun r g v => f_N_give g v r out)) g v T out l none s 0 (zgv (zpv (op k) (ar k).toNatClampNeg (xs.getD n (zW 0)) (ys.getD j (zW 0))) s) := w_giveP hR.1 hO.1 ⟨Or.inl rfl, Or.inr rfl⟩ hw hR.2.2.2.1 hR.2.2.2.2 (c_paired hR hk ho hb hc (by omega)) (by omega) (fun e he => zpv_e he) (fun z g' v' T' q hq hp m1 w1 s1 => w_give0 m1 hO.1 ⟨Or.inl rfl, Or.inr rfl⟩ w1 s1 hp (fun e he => zpv_e (by rw [hq, he])))
      have e96 : (fun r9 g9 v9 => f_N_forEachPair_96 Kr K20 (f_N_forEachPair_58 Kr K20 q) (zI k) (zI a) (zI lv) out (28 + 4 * lv) (zI j) (28 + 4 * lv + 2) (zI n) r9 g9 v9) = fun r9 g9 v9 => bo (f_N_give g9 v9 r9 out) (fun (_ : Unit) g9 v9 => f_N_forEachPair_58 Kr K20 q (zI k) (zI a) (zI lv) out (28 + 4 * lv) (zI j) (28 + 4 * lv + 2) (zI (n + 1)) g9 v9) := by
        funext r9 g9 v9
        rw [f_N_forEachPair_96, gd_t hO.1, gd_t hrow, gd_t hrow2]
        congr 1
        funext _ g8 v8
        rw [f_N_forEachPair_101, gd_t hO.1, gd_t hrow, gd_t hrow2, nm_s, zl_1, zI_add]
      have hso : ∃ o, bo (f_N_paired g v (zI k) (zI b) (zI c)) (fun r g v => f_N_give g v r out) = some o := by
        obtain ⟨g', v', T', s', a1, a2, a3, a4, a5, a6⟩ := hA
        obtain ⟨x, ex⟩ := zWr_some a6
        exact ⟨_, ex⟩
      obtain ⟨o9, ho9⟩ := hso
      have e9 : zseq (zlp (fun x s => zgv (zpv (op k) (ar k).toNatClampNeg x (ys.getD j (zW 0))) s) (xs.drop n) eX none s) SPK = zseq (zgv (zpv (op k) (ar k).toNatClampNeg (xs.getD n (zW 0)) (ys.getD j (zW 0))) s) (fun e s1 => zseq (zlp (fun x s => zgv (zpv (op k) (ar k).toNatClampNeg x (ys.getD j (zW 0))) s) (xs.drop (n + 1)) eX e s1) SPK) := by
        rw [drop_c (by omega)]
        show zseq (zfe _ _ _ _) SPK = _
        rw [zfe_c]
        exact zseq_as
      rw [if_pos rfl, if_pos rfl, eb, bi_s, ec, bi_s, e96, bo_as ho9, e9]
      have hsub : ∀ j, (j = out ∨ j = out + 1) → zSB lv out j := fun j hj => hj.elim (fun h => Or.inr (Or.inr (Or.inr (Or.inl h)))) (fun h => Or.inr (Or.inr (Or.inr (Or.inr h))))
      refine w_seq1 (c1 := 0) (c2 := 0) hsub hA (fun g' v' T' r e s1 h1 h2 h3 h4' h5 h6 h7 h8 h9 h10 => ?_)
      have h4 := h4'.mono hsub
      have hn2 : ∀ j, j = 28 + 4 * lv ∨ j = 28 + 4 * lv + 1 → ¬ zSB lv out j := by
        intro j hj hh
        rcases hh with h | h | h | h | h <;> omega
      have hrr : v' (28 + 4 * lv + 2) = v (28 + 4 * lv + 2) ∧ v' (28 + 4 * lv + 2 + 1) = v (28 + 4 * lv + 2 + 1) := ⟨h4'.2.2.2.2.2 _ (by omega) (by omega) (by omega) (by omega) (by omega), h4'.2.2.2.2.2 _ (by omega) (by omega) (by omega) (by omega) (by omega)⟩
      refine ih q (n + 1) g' v' T' s1 _ e (by omega) hq (zRn_up hR h3 h4 (zSB_so hO) h9 h5 h7) (h4.V ha) h8 (zRw_up hw2 (h4.2.2.2.2.2 _ (by omega) (by omega) (by omega) (by omega) (hn2 _ (Or.inl rfl))) (h4.2.2.2.2.2 _ (by omega) (by omega) (by omega) (by omega) (hn2 _ (Or.inr rfl))) h4.2.2.2.2.1 h4.1) (zRw_up hw3 hrr.1 hrr.2 h4.2.2.2.2.1 h4.1) ?_
      rw [List.length_append]
      omega
/-- for each y, for each x -/
theorem w_pair_l (hK : zKr op ar sx p2 p3 Kr d (lv + 1)) (hlv : lv < 8) (hO : zOut lv out) (hk : zok op ar p2 p3 (d + 1) k) (ho : op k = 12 ∨ op k = 13) {ys : List zT} {eY : Option zT} : ∀ (m q n : Nat) (g : Nat → Nat) (v : mS) (T s : Nat) (l : List zT) (e0 : Option zT), n + m = ys.length → m < q → zRn op ar sx p2 p3 vr g v T s → zV (v 4) T a t → zRw v T out l e0 → zRw v T (28 + 4 * lv) ys eY → T + 280 * (150 - s) + zph l.length e0 ≤ 65000 → zWk (zSB lv out) (f_N_forEachPair_20 Kr q (zI k) (zI a) (zI lv) out (28 + 4 * lv) (zI n) g v) g v T out l e0 s 0 (zlp (fun y s => zfor (fun x s => zgv (zpv (op k) (ar k).toNatClampNeg x y) s) (zev op ar sx p2 p3 d (k + 1) t vr s)) (ys.drop n) eY e0 s) := by
  obtain ⟨o1, o2, o3⟩ := rowB_r hO.1
  have h60 := hO.2
  have hrow : rowB (28 + 4 * lv) = true := by simp [rowB]; omega
  have hrow2 : rowB (28 + 4 * lv + 2) = true := by simp [rowB]; omega
  have h1p : 1 ≤ zpt (op k) := by rcases ho with h | h <;> rw [h] <;> decide
  intro m
  induction m with
  | zero =>
    intro q n g v T s l e0 hn hq hR ha hw hw2 hT
    obtain ⟨q, rfl, -⟩ := suc_of hq
    have hx16 := hw2.2.1
    have e1 : ys.drop n = [] := List.drop_eq_nil_of_le (by omega)
    have e2 : zlp (fun y s => zfor (fun x s => zgv (zpv (op k) (ar k).toNatClampNeg x y) s) (zev op ar sx p2 p3 d (k + 1) t vr s)) (ys.drop n) eY e0 s = zen e0 eY s := by
      rw [e1]; cases e0 <;> rfl
    rw [e2]
    refine w_endAs hR.1 hO.1 hrow zSB_o.1 hR.2.2.2.1 hR.2.2.2.2 hw hw2 (fun w hw9 => ?_)
    rw [f_N_forEachPair_20, gd_t hO.1, gd_t hrow, c_rsize hrow hw2, bi_s, iI_le (by omega) (by omega), if_pos (by omega), f_N_forEachPair_120, gd_t hO.1, gd_t hrow, hw9, bv_s]
  | succ m ih =>
    intro q n g v T s l e0 hn hq hR ha hw hw2 hT
    obtain ⟨q, rfl, hq⟩ := suc_of hq
    have hq := Nat.lt_of_succ_lt_succ hq
    have hx16 := hw2.2.1
    cases e0 with
    | some y =>
      refine w_endAs (eR := eY) (xs := ys) (e0 := some y) hR.1 hO.1 hrow zSB_o.1 hR.2.2.2.1 hR.2.2.2.2 hw hw2 (fun w hw9 => ?_)
      rw [f_N_forEachPair_20, gd_t hO.1, gd_t hrow, c_rsize hrow hw2, bi_s, iI_le (by omega) (by omega), if_neg (by omega), c_ended hR.1 hO.1 hw, bi_s, if_neg (show ¬ some y = none by simp), if_neg (by decide), f_N_forEachPair_120, gd_t hO.1, gd_t hrow, hw9, bv_s]
    | none =>
      have e9 : zlp (fun y s => zfor (fun x s => zgv (zpv (op k) (ar k).toNatClampNeg x y) s) (zev op ar sx p2 p3 d (k + 1) t vr s)) (ys.drop n) eY none s = zbnd (zev op ar sx p2 p3 d (k + 1) t vr s) (fun xs eX s1 => zseq (zlp (fun x s => zgv (zpv (op k) (ar k).toNatClampNeg x (ys.getD n (zW 0))) s) (xs.drop 0) eX none s1) (fun e s2 => zlp (fun y s => zfor (fun x s => zgv (zpv (op k) (ar k).toNatClampNeg x y) s) (zev op ar sx p2 p3 d (k + 1) t vr s)) (ys.drop (n + 1)) eY e s2)) := by
        rw [drop_c (by omega)]
        show zfe _ _ _ _ = _
        rw [zfe_c, zfor_b, zseq_b]
        rfl
      rw [e9, f_N_forEachPair_20, gd_t hO.1, gd_t hrow, c_rsize hrow hw2, bi_s, iI_le (by omega) (by omega), if_neg (by omega), c_ended hR.1 hO.1 hw, bi_s, if_pos rfl, if_pos rfl, gd_t (en_fil hR.2.1), en_1 hR.2.1, bi_s, zl_1]
      refine w_rowK (w := 1) hK hlv (by omega) hR (hk.2.2.2.1 h1p) ha hO hw (by omega) (fun j hj => ?_) (fun g' v' T' xs eX s1 h1 h3 h4 h5 h6 h7 h8 h9 => ?_)
      · rcases hj with h | h | h | h | h
        · exact Or.inl h
        · exact Or.inr (Or.inl h)
        · exact Or.inr (Or.inr (Or.inl ⟨by omega, h.2⟩))
        · exact Or.inr (Or.inr (Or.inl ⟨by omega, by omega⟩))
        · exact Or.inr (Or.inr (Or.inl ⟨by omega, by omega⟩))
      · have h16 := h5.2.1
        have h150 := h3.2.2.2.2
        rw [show 28 + 4 * lv + 2 * 1 = 28 + 4 * lv + 2 by omega] at h5 h4 ⊢
        have hn2 : ∀ j, j = 28 + 4 * lv ∨ j = 28 + 4 * lv + 1 → ¬ zS (lv + 1) (28 + 4 * lv + 2) j := by
          intro j hj hh
          rcases hh with h | h | h | h | h <;> omega
        rw [f_N_forEachPair_53, gd_t hO.1, gd_t hrow, gd_t hrow2, zl_0]
        exact w_pair_in hlv hO hk ho (j := n) (by omega) (fun g v T s l e hR ha hw hw2 hT => ih q (n + 1) g v T s l e (by omega) hq hR ha hw hw2 hT) xs.length fu 0 g' v' T' s1 l none (by omega) (fu_lt (by omega)) h3 (h4.V ha) h6 (zRw_up hw2 (h4.2.2.2.2.2 _ (by omega) (by omega) (by omega) (by omega) (hn2 _ (Or.inl rfl))) (h4.2.2.2.2.2 _ (by omega) (by omega) (by omega) (by omega) (hn2 _ (Or.inr rfl))) h4.2.2.2.2.1 h4.1) h5 (by omega)
theorem w_pair (hK : zKr op ar sx p2 p3 Kr d (lv + 1)) (hlv : lv < 8) (hO : zOut lv out) (hk : zok op ar p2 p3 (d + 1) k) (ho : op k = 12 ∨ op k = 13) (hR : zRn op ar sx p2 p3 vr g v T s) (ha : zV (v 4) T a t) (hw : zRw v T out l none) (hT : T + 280 * (150 - s) + zph l.length none ≤ 65000) : zWk (zS lv out) (f_N_forEachPair Kr g v (zI k) (zI a) (zI lv) out) g v T out l none s 0 (zfor (fun y s => zfor (fun x s => zgv (zpv (op k) (ar k).toNatClampNeg x y) s) (zev op ar sx p2 p3 d (k + 1) t vr s)) (zev op ar sx p2 p3 d (p2 k) t vr s)) := by
  have hrow : rowB (28 + 4 * lv) = true := by simp [rowB]; omega
  have h2 : 2 ≤ zpt (op k) := by rcases ho with h | h <;> rw [h] <;> decide
  refine zWk_mg ?_
  rw [gd_t hO.1, gd_t (en_fil hR.2.1), en_2 hR.2.1 hk h2, bi_s, zl_0, zfor_b]
  refine w_rowK (w := 0) hK hlv (by omega) hR (hk.2.2.2.2.1 h2) ha hO hw (by omega) (zS_R (by omega) hlv) (fun g' v' T' r e s1 h1 h3 h4 h5 h6 h7 h8 h9 => ?_)
  have h16 := h5.2.1
  have h150 := h3.2.2.2.2
  rw [show 28 + 4 * lv + 2 * 0 = 28 + 4 * lv by omega] at h5 ⊢
  rw [f_N_forEachPair_15, gd_t hO.1, gd_t hrow, zl_0]
  exact zWk_mono (w_pair_l hK hlv hO hk ho (ys := r) (eY := e) r.length fu 0 g' v' T' s1 l none (by omega) (fu_lt (by omega)) h3 (h4.V ha) h6 h5 (by omega)) zB_S
end CYY
