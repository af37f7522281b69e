/-! the class's Runner: FOR EACH of a row -/
def zbnd (E : zEv) (K : List zT → Option zT → Nat → zEv) : zEv := match E with
  | none => none
  | some (r, e, s) => K r e s
def zlp (F : zT → Nat → zEv) (xs : List zT) (eR e : Option zT) (s : Nat) : zEv := match e with
  | none => zfe F xs eR s
  | some y => some ([], some y, s)
theorem zfe_c {F : zT → Nat → zEv} {x : zT} {xs : List zT} {eR : Option zT} {s : Nat} : zfe F (x :: xs) eR s = zseq (F x s) (fun e s1 => zlp F xs eR e s1) := by
  simp only [zfe]
  cases F x s with
  | none => rfl
  | some q =>
    obtain ⟨r, e, s1⟩ := q
    cases e with
    | none => simp only [zseq, zlp]; cases zfe F xs eR s1 <;> rfl
    | some y => simp [zseq, zlp, zapp]
theorem zfor_b {F : zT → Nat → zEv} {E : zEv} : zfor F E = zbnd E (fun r e s => zfe F r e s) := by
  cases E with
  | none => rfl
  | some q => rfl
def zen (e0 eR : Option zT) (s : Nat) : zEv := match e0 with
  | none => some ([], eR, s)
  | some y => some ([], some y, s)
def zSB (lv out j : Nat) : Prop := j = 25 ∨ j = 26 ∨ (28 + 4 * lv + 2 ≤ j ∧ j < 60) ∨ j = out ∨ j = out + 1
def zRn (op : Nat → Nat) (ar : Nat → Int32) (sx : Nat → zN) (p2 p3 : Nat → Nat) (vr : Nat → zT) (g : Nat → Nat) (v : mS) (T s : Nat) : Prop := zM g v T ∧ zEn op ar sx p2 p3 g v T ∧ zVr v T vr ∧ v 25 5 = zI s ∧ s ≤ 150
section CVV
variable {op : Nat → Nat} {ar : Nat → Int32} {sx : Nat → zN} {p2 p3 : Nat → Nat} {vr : Nat → zT} {S : Nat → Prop} {g : Nat → Nat} {v : mS} {T a b s d k lv out : Nat} {t u : zT} {l : List zT}
theorem zRn_up {g' : Nat → Nat} {v' : mS} {T' s' : Nat} (h : zRn op ar sx p2 p3 vr g v T s) (hM : zM g' v' T') (hY : zY S g v T g' v' T') (hS : zSo S) (h26 : v' 26 = v 26) (hs : v' 25 5 = zI s') (hs150 : s' ≤ 150) : zRn op ar sx p2 p3 vr g' v' T' s' := ⟨hM, zEn_up h.2.1 hY hS, zVr_up h.2.2.1 h26 hY.2.2.2.2.1 hY.1, hs, hs150⟩
theorem zSB_so (h : zOut lv out) : zSo (zSB lv out) := by
  intro j hj
  have := rowB_r h.1
  rcases hj with h | h | h | h | h <;> omega
theorem zSB_o : zSB lv out out ∧ zSB lv out (out + 1) := ⟨Or.inr (Or.inr (Or.inr (Or.inl rfl))), Or.inr (Or.inr (Or.inr (Or.inr rfl)))⟩
theorem zS_o : zS lv out out ∧ zS lv out (out + 1) := ⟨Or.inr (Or.inr (Or.inr (Or.inl rfl))), Or.inr (Or.inr (Or.inr (Or.inr rfl)))⟩
theorem zS_B : ∀ j, zS (lv + 1) out j → zSB lv out j := by
  intro j hj
  rcases hj with h | h | h | h | h
  · exact Or.inl h
  · exact Or.inr (Or.inl h)
  · exact Or.inr (Or.inr (Or.inl ⟨by omega, h.2⟩))
  · exact Or.inr (Or.inr (Or.inr (Or.inl h)))
  · exact Or.inr (Or.inr (Or.inr (Or.inr h)))
theorem zB_S : ∀ j, zSB lv out j → zS lv out j := by
  intro j hj
  rcases hj with h | h | h | h | h
  · exact Or.inl h
  · exact Or.inr (Or.inl h)
  · exact Or.inr (Or.inr (Or.inl ⟨by omega, h.2⟩))
  · exact Or.inr (Or.inr (Or.inr (Or.inl h)))
  · exact Or.inr (Or.inr (Or.inr (Or.inr h)))
/-- working out a part, as an action -/
theorem w_Kr {Kr : (Nat → Nat) → mS → Int32 → Int32 → Int32 → Nat → Option (bO Unit)} (hK : zKr op ar sx p2 p3 Kr d lv) (hR : zRn op ar sx p2 p3 vr g v T s) (hok : zok op ar p2 p3 d k) (ha : zV (v 4) T a t) (hO : zOut lv out) (hw : zRw v T out l none) (hT : T + 280 * (150 - s) ≤ 65000) : zWk (zS lv out) (Kr g v (zI k) (zI a) (zI lv) out) g v T out l none s 0 (zev op ar sx p2 p3 d k t vr s) := by
  obtain ⟨hM, hE, hV, hs, h150⟩ := hR
  obtain ⟨g', v', T', s', k1, k2, k3, k4, k5, k6, k7⟩ := hK g v T k a out s t l vr hM hE hok ha hO hw hV hs h150 hT
  refine ⟨g', v', T', s', k1, k2, k3, k4, k5, ?_⟩
  cases hz : zev op ar sx p2 p3 d k t vr s with
  | none => rw [hz] at k7; exact ⟨k7, by omega⟩
  | some q =>
    obtain ⟨r, e, s1⟩ := q
    rw [hz] at k7
    unfold zWr
    dsimp only at k7 ⊢
    by_cases c : l.length + r.length ≤ 16
    · rw [if_pos c] at k7 ⊢
      have := zph_m (e := e) (show l.length ≤ l.length + r.length by omega)
      exact ⟨k7.1, k7.2.1, k7.2.2.1, k7.2.2.2, by omega⟩
    · rw [if_neg c] at k7 ⊢
      exact ⟨k7, by omega⟩
/-- a row of this level is worked out, then comes more -/
theorem w_rowK {Kr : (Nat → Nat) → mS → Int32 → Int32 → Int32 → Nat → Option (bO Unit)} {K : Nat → (Nat → Nat) → mS → Option (bO Unit)} {w : Nat} {spK : List zT → Option zT → Nat → zEv} (hK : zKr op ar sx p2 p3 Kr d (lv + 1)) (hlv : lv < 8) (hw2 : w < 2) (hR : zRn op ar sx p2 p3 vr g v T s) (hok : zok op ar p2 p3 d k) (ha : zV (v 4) T a t) (hO : zOut lv out) (hw : zRw v T out l none) (hT : T + 280 * (150 - s) ≤ 65000) (hS : ∀ j, zS (lv + 1) (28 + 4 * lv + 2 * w) j → S j)
    (hk : ∀ (g' : Nat → Nat) (v' : mS) (T' : Nat) (r : List zT) (e : Option zT) (s1 : Nat), zev op ar sx p2 p3 d k t vr s = some (r, e, s1) → zRn op ar sx p2 p3 vr g' v' T' s1 → zY (zS (lv + 1) (28 + 4 * lv + 2 * w)) g v T g' v' T' → zRw v' T' (28 + 4 * lv + 2 * w) r e → zRw v' T' out l none → T' + 280 * s ≤ T + 280 * s1 → s ≤ s1 → v' 26 = v 26 → zWk S (K (28 + 4 * lv + 2 * w) g' v') g' v' T' out l none s1 0 (spK r e s1)) : zWk S (bo (f_N_rowOf Kr g v (zI k) (zI a) (zI lv) (zI w)) K) g v T out l none s 0 (zbnd (zev op ar sx p2 p3 d k t vr s) spK) := by
  obtain ⟨hM, hE, hV, hs, h150⟩ := id hR
  obtain ⟨o1, o2, o3⟩ := rowB_r hO.1
  obtain ⟨g', v', T', s', k1, k2, k3, k4, k5, k6, k7⟩ := w_rowOf hK hlv hw2 hM hE hok ha hV hs h150 hT
  cases hz : zev op ar sx p2 p3 d k t vr s with
  | none =>
    rw [hz] at k7
    dsimp only at k7
    rw [k7, bo_r]
    exact ⟨g', v', T', s', k1, k2.mono hS, k3, k4, k5, rfl, by omega⟩
  | some q =>
    obtain ⟨r, e, s1⟩ := q
    rw [hz] at k7
    obtain ⟨q1, q2, q3, q4⟩ := k7
    subst q3
    have hso : zSo (zS (lv + 1) (28 + 4 * lv + 2 * w)) := by
      intro j hj
      rcases hj with h | h | h | h | h <;> omega
    have hn : ∀ j, j = out ∨ j = out + 1 → ¬ zS (lv + 1) (28 + 4 * lv + 2 * w) j := by
      intro j hj hh
      have h9 := hO.2
      rcases hh with h | h | h | h | h <;> omega
    have hw' : zRw v' T' out l none := zRw_up hw (k2.2.2.2.2.2 out (by omega) (by omega) (by omega) (by omega) (hn _ (Or.inl rfl))) (k2.2.2.2.2.2 (out + 1) (by omega) (by omega) (by omega) (by omega) (hn _ (Or.inr rfl))) k2.2.2.2.2.1 k2.1
    have h2 := hk g' v' T' r e s' hz (zRn_up hR k1 k2 hso q4 k3 k5) k2 q2 hw' k6 k4 q4
    have h3 := w_app (l := l) (r1 := []) (e0 := none) (e1 := none) (c0 := 0) (c := 0) (k2.mono hS) q4 k4 (by simp; omega) (by rw [List.append_nil]; exact h2)
    have hb : bo (f_N_rowOf Kr g v (zI k) (zI a) (zI lv) (zI w)) K = K (28 + 4 * lv + 2 * w) g' v' := by
      obtain ⟨g2, v2, T2, s2, d1, d2, d3, d4, d5, d6⟩ := h2
      obtain ⟨x, ex⟩ := zWr_some d6
      rw [q1, ex]
      exact bo_l ex d2.L
    rw [hb]
    have e9 : zapp [] (spK r e s') = zbnd (some (r, e, s')) spK := by
      show zapp [] (spK r e s') = spK r e s'
      cases spK r e s' with
      | none => rfl
      | some q => obtain ⟨r2, e2, s2⟩ := q; rfl
    rw [e9] at h3
    exact h3
theorem drop_c {xs : List zT} {n : Nat} (h : n < xs.length) : xs.drop n = xs.getD n (zW 0) :: xs.drop (n + 1) := by
  rw [List.drop_eq_getElem_cons h]
  congr 1
  simp [List.getD_eq_getElem?_getD, h]
/-- the end of FOR EACH -/
theorem w_endAs {R : Nat} {xs : List zT} {eR e0 : Option zT} {F : Option (bO Unit)} (hM : zM g v T) (hr : rowB out = true) (hR : rowB R = true) (hS : S out) (hs : v 25 5 = zI s) (hs150 : s ≤ 150) (h : zRw v T out l e0) (h2 : zRw v T R xs eR) (hF : ∀ w, f_R_endAs g v out R = some w → F = some (.inl (), g, w)) : zWk S F g v T out l e0 s 0 (zen e0 eR s) := by
  obtain ⟨r1, r2, r3⟩ := rowB_r hr
  have h16 := h.2.1
  cases e0 with
  | some y => exact w_id hM hs hs150 h (hF v (c_endAs_st (l2 := xs) hM hr hR h))
  | none =>
    show zWk S F g v T out l none s 0 (some ([], eR, s))
    obtain ⟨x, ex, hx⟩ := c_endAs hM hr hR h h2
    have hj : ∀ j, j ≠ out → sU v out 2 x j = v j := fun j h => sU_j h
    refine ⟨g, sU v out 2 x, T, s, zM_w hM (hj 1 (by omega)) (fun i _ => by rw [hj 4 (by omega)]), ⟨Nat.le_refl _, rfl, rfl, Nat.le_refl _, fun i _ => by rw [hj 4 (by omega)], fun j _ _ _ _ hn => hj j (fun h9 => by subst h9; exact hn hS)⟩, by rw [hj 25 (by omega)]; exact hs, Nat.le_refl _, hs150, ?_⟩
    unfold zWr
    dsimp only
    rw [if_pos (by simpa using h16)]
    have := zph_m (e := eR) (Nat.le_refl l.length)
    exact ⟨hF _ ex, by simpa using hx, rfl, hj 26 (by omega), by simp; omega⟩
theorem w_forEach_l {Kr : (Nat → Nat) → mS → Int32 → Int32 → Int32 → Nat → Option (bO Unit)} {F : zT → Nat → zEv} {k0 : Nat} (hlv : lv < 8) (hO : zOut lv out)
    (hF : ∀ (g : Nat → Nat) (v : mS) (T s b : Nat) (x : zT) (l : List zT), zRn op ar sx p2 p3 vr g v T s → zV (v 4) T a t → zV (v 4) T b x → zRw v T out l none → T + 280 * (150 - s) + zph l.length none ≤ 65000 → zWk (zSB lv out) (f_N_follow Kr g v (zI k0) (zI a) (zI b) (zI lv) out) g v T out l none s 0 (F x s)) {xs : List zT} {eR : Option zT} : ∀ (m q n : Nat) (g : Nat → Nat) (v : mS) (T s : Nat) (l : List zT) (e0 : Option zT), n + m = xs.length → m < q → zRn op ar sx p2 p3 vr g v T s → zV (v 4) T a t → zRw v T out l e0 → zRw v T (28 + 4 * lv) xs eR → T + 280 * (150 - s) + zph l.length e0 ≤ 65000 → zWk (zSB lv out) (f_N_forEach_20 Kr q (zI k0) (zI a) (zI lv) out (28 + 4 * lv) (zI n) g v) g v T out l e0 s 0 (zlp F (xs.drop n) eR e0 s) := by
  obtain ⟨o1, o2, o3⟩ := rowB_r hO.1
  have hrow : rowB (28 + 4 * lv) = true := by simp [rowB]; omega
  intro m
  induction m with
  | zero =>
    intro q n g v T s l e0 hn hq hR ha hw hw2 hT
    obtain ⟨q, rfl, -⟩ := suc_of hq
    have hx16 := hw2.2.1
    have e1 : xs.drop n = [] := List.drop_eq_nil_of_le (by omega)
    have e2 : zlp F (xs.drop n) eR e0 s = zen e0 eR s := by
      rw [e1]; cases e0 <;> rfl
    rw [e2]
    refine w_endAs hR.1 hO.1 hrow zSB_o.1 hR.2.2.2.1 hR.2.2.2.2 hw hw2 (fun w hw9 => ?_)
    rw [f_N_forEach_20, gd_t hO.1, gd_t hrow, c_rsize hrow hw2, bi_s, iI_le (by omega) (by omega), if_pos (by omega), f_N_forEach_60, gd_t hO.1, gd_t hrow, hw9, bv_s]
  | succ m ih =>
    intro q n g v T s l e0 hn hq hR ha hw hw2 hT
    obtain ⟨q, rfl, hq⟩ := suc_of hq
    have hq := Nat.lt_of_succ_lt_succ hq
    have hx16 := hw2.2.1
    cases e0 with
    | some y =>
      refine w_endAs (eR := eR) (xs := xs) (e0 := some y) hR.1 hO.1 hrow zSB_o.1 hR.2.2.2.1 hR.2.2.2.2 hw hw2 (fun w hw9 => ?_)
      rw [f_N_forEach_20, gd_t hO.1, gd_t hrow, c_rsize hrow hw2, bi_s, iI_le (by omega) (by omega), if_neg (by omega), c_ended hR.1 hO.1 hw, bi_s, if_neg (show ¬ some y = none by simp), if_neg (by decide), f_N_forEach_60, gd_t hO.1, gd_t hrow, hw9, bv_s]
    | none =>
      obtain ⟨b, eb, hb⟩ := c_rat (g := g) hrow hw2 (show n < xs.length by omega)
      have e9 : zlp F (xs.drop n) eR none s = zseq (F (xs.getD n (zW 0)) s) (fun e s1 => zlp F (xs.drop (n + 1)) eR e s1) := by
        rw [drop_c (by omega)]
        exact zfe_c
      rw [e9, f_N_forEach_20, gd_t hO.1, gd_t hrow, c_rsize hrow hw2, bi_s, iI_le (by omega) (by omega), if_neg (by omega), c_ended hR.1 hO.1 hw, bi_s, if_pos rfl, if_pos rfl, eb, bi_s]
      refine w_seq (c1 := 0) (c2 := 0) (hF g v T s b _ l hR ha hb hw hT) (fun g' v' T' r e s1 h1 h2 h3 h4 h5 h6 h7 h8 h9 h10 => ?_)
      rw [f_N_forEach_54, gd_t hO.1, gd_t hrow, nm_s, zl_1, zI_add]
      have hn : ∀ j, j = 28 + 4 * lv ∨ j = 28 + 4 * lv + 1 → ¬ zSB lv out j := by
        intro j hj hh
        have h9 := hO.2
        rcases hh with h | h | h | h | h <;> omega
      refine ih q (n + 1) g' v' T' s1 _ e (by omega) hq (zRn_up hR h3 h4 (zSB_so hO) h9 h5 h7) (h4.V ha) h8 (zRw_up hw2 (h4.2.2.2.2.2 _ (by omega) (by omega) (by omega) (by omega) (hn _ (Or.inl rfl))) (h4.2.2.2.2.2 _ (by omega) (by omega) (by omega) (by omega) (hn _ (Or.inr rfl))) h4.2.2.2.2.1 h4.1) ?_
      rw [List.length_append]
      omega
/-- FOR EACH of the first part -/
theorem w_forEach {Kr : (Nat → Nat) → mS → Int32 → Int32 → Int32 → Nat → Option (bO Unit)} {F : zT → Nat → zEv} (hK : zKr op ar sx p2 p3 Kr d (lv + 1)) (hlv : lv < 8) (hO : zOut lv out) (hok : zok op ar p2 p3 d (k + 1))
    (hF : ∀ (g : Nat → Nat) (v : mS) (T s b : Nat) (x : zT) (l : List zT), zRn op ar sx p2 p3 vr g v T s → zV (v 4) T a t → zV (v 4) T b x → zRw v T out l none → T + 280 * (150 - s) + zph l.length none ≤ 65000 → zWk (zSB lv out) (f_N_follow Kr g v (zI k) (zI a) (zI b) (zI lv) out) g v T out l none s 0 (F x s)) (hR : zRn op ar sx p2 p3 vr g v T s) (ha : zV (v 4) T a t) (hw : zRw v T out l none) (hT : T + 280 * (150 - s) + zph l.length none ≤ 65000) : zWk (zS lv out) (f_N_forEach Kr g v (zI k) (zI a) (zI lv) out) g v T out l none s 0 (zfor F (zev op ar sx p2 p3 d (k + 1) t vr s)) := by
  have hrow : rowB (28 + 4 * lv) = true := by simp [rowB]; omega
  refine zWk_mg ?_
  rw [gd_t hO.1, gd_t (en_fil hR.2.1), en_1 hR.2.1, bi_s, zl_0, zfor_b]
  refine w_rowK (w := 0) hK hlv (by omega) hR hok ha hO hw (by omega) (fun j hj => ?_) (fun g' v' T' r e s1 h1 h2 h3 h4 h5 h6 h7 h8 => ?_)
  · rcases hj with h | h | h | h | h
    · exact Or.inl h
    · exact Or.inr (Or.inl h)
    · exact Or.inr (Or.inr (Or.inl ⟨by omega, h.2⟩))
    · exact Or.inr (Or.inr (Or.inl ⟨by omega, by omega⟩))
    · exact Or.inr (Or.inr (Or.inl ⟨by omega, by omega⟩))
  · have h16 := h4.2.1
    have e1 : f_N_forEach_15 Kr (zI k) (zI a) (zI lv) out (28 + 4 * lv + 2 * 0) g' v' = f_N_forEach_20 Kr fu (zI k) (zI a) (zI lv) out (28 + 4 * lv) (zI 0) g' v' := by
      rw [f_N_forEach_15, gd_t hO.1, show 28 + 4 * lv + 2 * 0 = 28 + 4 * lv by omega, gd_t hrow]
      rfl
    rw [e1]
    have h150 := h2.2.2.2.2
    have h9 := w_forEach_l (xs := r) (eR := e) hlv hO hF r.length fu 0 g' v' T' s1 l none (by omega) (fu_lt (by omega)) h2 (h3.V ha) h5 h4 (by omega)
    exact zWk_mono h9 zB_S
end CVV
