/-! the class's Runner: actions that only put values -/
section CU
variable {S : Nat → Prop} {g : Nat → Nat} {v : mS} {T a b out s : Nat} {t u : zT} {l : List zT}
theorem w_putK {K : Unit → (Nat → Nat) → mS → Option (bO Unit)} {sp2 : zEv} (hM : zM g v T) (hr : rowB out = true) (hS : S out ∧ S (out + 1)) (h : zRw v T out l none) (hs : v 25 5 = zI s) (hs150 : s ≤ 150) (ha : zV (v 4) T a t)
    (hk : ∀ v', zM g v' T → zY S g v T g v' T → v' 25 5 = zI s → zRw v' T out (l ++ [t]) none → v' 26 = v 26 → (∀ j, j ≠ out → j ≠ out + 1 → v' j = v j) → zWk S (K () g v') g v' T out (l ++ [t]) none s 0 sp2) : zWk S (bo (f_R_put g v out (zI a)) K) g v T out l none s 0 (zapp [t] sp2) := by
  obtain ⟨r1, r2, r3⟩ := rowB_r hr
  by_cases c : l.length < 16
  · obtain ⟨e, hw⟩ := c_put (g := g) hr h c ha
    have h26 : sU (sU v (out + 1) l.length (zI a)) out 1 (zI (l.length + 1)) 26 = v 26 := by rw [sU_j (by omega), sU_j (by omega)]
    have h2 := hk _ (zM_put hM hr) (zY_put hS.1 hS.2 hr) (by rw [sU_j (by omega), sU_j (by omega)]; exact hs) hw h26 (fun j j1 j2 => by rw [sU_j j1, sU_j j2])
    have h3 := w_app (c0 := 0) (c := 0) (s := s) (e0 := none) (zY_put (g := g) (v := v) (T := T) (k := l.length) (x := zI a) (y := zI (l.length + 1)) hS.1 hS.2 hr) h26 (Nat.le_refl _) (by simp only [zph, List.length_cons, List.length_nil]; omega) h2
    have hb : bo (f_R_put g v out (zI a)) K = K () g (sU (sU v (out + 1) l.length (zI a)) out 1 (zI (l.length + 1))) := by
      obtain ⟨g2, v2, T2, s2, d1, d2, d3, d4, d5, d6⟩ := h2
      obtain ⟨x, ex⟩ := zWr_some d6
      rw [e, ex]
      exact bo_l ex d2.L
    rw [hb]
    exact h3
  · have h16 := h.2.1
    have e := c_put_no (g := g) (x := zI a) hr h (by omega)
    rw [e, bo_r]
    refine ⟨g, v, T, s, hM, zY.rf, hs, Nat.le_refl _, hs150, ?_⟩
    rcases zapp_ov (sp := sp2) (r := [t]) with h9 | ⟨r2, e2, s2, h9, h10⟩
    · rw [h9]; exact ⟨rfl, by omega⟩
    · rw [h9]
      simp only [List.length_cons, List.length_nil] at h10
      unfold zWr
      dsimp only
      rw [if_neg (by omega)]
      exact ⟨rfl, by omega⟩
theorem w_each_l (hr : rowB out = true) (hS : S out ∧ S (out + 1)) (h5 : 5 ≤ zk t) (hs150 : s ≤ 150) : ∀ (m q k : Nat) (v : mS) (l : List zT), zM g v T → zV (v 4) T a t → zRw v T out l none → v 25 5 = zI s → k + m = zl t → m < q → zWk S (f_N_each_20 q (zI a) out (zI k) g v) g v T out l none s 0 (some ((List.range' k m).map (zc t), none, s)) := by
  obtain ⟨r1, r2, r3⟩ := rowB_r hr
  intro m
  induction m with
  | zero =>
    intro q k v l hM ha h hs hk hq
    obtain ⟨q, rfl, -⟩ := suc_of hq
    have lt := zwf_l ha.2
    refine w_id hM hs hs150 h ?_
    rw [f_N_each_20, gd_t hr, c_len hM ha, bi_s, iI_le (by omega) (by omega), if_pos (by omega)]
  | succ m ih =>
    intro q k v l hM ha h hs hk hq
    obtain ⟨q, rfl, hq⟩ := suc_of hq
    have hq := Nat.lt_of_succ_lt_succ hq
    have lt := zwf_l ha.2
    obtain ⟨p, ep, hp⟩ := c_item hM ha h5 (show k < zl t by omega)
    rw [f_N_each_20, gd_t hr, c_len hM ha, bi_s, iI_le (by omega) (by omega), if_neg (by omega), ep, bi_s]
    refine w_putK (sp2 := some ((List.range' (k + 1) m).map (zc t), none, s)) hM hr hS h hs hs150 hp (fun v' m1 y1 s1 w1 _ hj => ?_)
    rw [f_N_each_45, gd_t hr, nm_s, zl_1, zI_add]
    exact ih q (k + 1) v' _ m1 (y1.V ha) w1 s1 (by omega) hq
theorem w_each (hM : zM g v T) (hr : rowB out = true) (hS : S out ∧ S (out + 1)) (h : zRw v T out l none) (hs : v 25 5 = zI s) (hs150 : s ≤ 150) (ha : zV (v 4) T a t) : zWk S (f_N_each g v (zI a) out) g v T out l none s 0 (if zk t < 5 then zgv (some (.inl 1)) s else some ((List.range (zl t)).map (zc t), none, s)) := by
  have lt := zwf_l ha.2
  refine zWk_mg ?_
  rw [gd_t hr, c_parts hM ha, bi_s]
  by_cases c : zk t < 5
  · rw [if_pos c, if_pos rfl, if_pos c, bo_id (fun r g v => by cases r; rfl)]
    exact w_0 (w_give0 hM hr hS h hs (q := .inl 1) rfl (fun e he => by cases he; omega)) hs150
  · rw [if_neg c, if_neg (by decide), if_neg c, zl_0, List.range_eq_range']
    exact w_each_l hr hS (by omega) hs150 (zl t) fu 0 v l hM ha h hs (by omega) (fu_lt (by omega))
/-- RANGE -/
def zrn (x : zT) : Nat := ((zv x + 999999) / 1000000).toNat
theorem w_range_l (hr : rowB out = true) (hS : S out ∧ S (out + 1)) (h3 : zk t = 3) (hs150 : s ≤ 150) : ∀ (m q k : Nat) (v : mS) (l : List zT), zM g v T → zV (v 4) T a t → zRw v T out l none → v 25 5 = zI s → k + m = 17 → m < q → k ≤ l.length → zWk S (f_N_range_21 q (zI a) out (zI k) g v) g v T out l none s 0 (some ((List.range' k (zrn t - k)).map (fun k : Nat => zQ ((k : Int) * 1000000)), none, s)) := by
  obtain ⟨r1, r2, r3⟩ := rowB_r hr
  intro m
  induction m with
  | zero =>
    intro q k v l hM ha h hs hk hq hl
    have := h.2.1
    omega
  | succ m ih =>
    intro q k v l hM ha h hs hk hq hl
    obtain ⟨q, rfl, hq⟩ := suc_of hq
    have hq := Nat.lt_of_succ_lt_succ hq
    have hz : zcmp 6 (zQ ((k : Int) * 1000000)) t = zsg ((k : Int) * 1000000 - zv t) := by
      have e1 : zk (zQ ((k : Int) * 1000000)) = 3 := rfl
      have e2 : zv (zQ ((k : Int) * 1000000)) = (k : Int) * 1000000 := rfl
      simp only [zcmp]
      rw [if_pos (by omega), if_pos e1, e2]
    have hb := zsg_b ((k : Int) * 1000000 - zv t)
    rw [f_N_range_21, gd_t hr, zl_16, iI_lt (by omega) (by omega), if_neg (by omega), c_small, bi_s, c_cmp6 hM (zM_Q hM (show k ≤ 16 by omega)) ha, bi_s, hz, iJ_0le (by omega) (by omega), ite_p (zsg_nn _)]
    by_cases c : 0 ≤ (k : Int) * 1000000 - zv t
    · have hn : zrn t - k = 0 := by unfold zrn; omega
      rw [if_pos c, hn]
      exact w_id hM hs hs150 h rfl
    · obtain ⟨n, hn⟩ : ∃ n, zrn t - k = n + 1 := ⟨zrn t - k - 1, by unfold zrn; omega⟩
      rw [if_neg c, hn, c_small, bi_s]
      refine w_putK (sp2 := some ((List.range' (k + 1) n).map (fun k : Nat => zQ ((k : Int) * 1000000)), none, s)) hM hr hS h hs hs150 (zM_Q hM (show k ≤ 16 by omega)) (fun v' m1 y1 s1 w1 _ hj => ?_)
      rw [f_N_range_58, gd_t hr, nm_s, zl_1, zI_add]
      have h9 := ih q (k + 1) v' _ m1 (y1.V ha) w1 s1 (by omega) hq (by simp; omega)
      rw [show zrn t - (k + 1) = n by omega] at h9
      exact h9
theorem w_range (hM : zM g v T) (hr : rowB out = true) (hS : S out ∧ S (out + 1)) (h : zRw v T out l none) (hs : v 25 5 = zI s) (hs150 : s ≤ 150) (ha : zV (v 4) T a t) : zWk S (f_N_range g v (zI a) out) g v T out l none s 0 (zrng t s) := by
  have ka := ha.2.1
  refine zWk_mg ?_
  rw [gd_t hr, c_kind hM ha, bi_s, zl_3, iI_eq (by omega) (by omega)]
  unfold zrng
  by_cases c : zk t = 3
  · rw [if_pos c, if_pos c, zl_0]
    have h9 := w_range_l hr hS c hs150 17 fu 0 v l hM ha h hs (by omega) (fu_lt (by omega)) (by omega)
    rw [Nat.sub_zero, ← List.range_eq_range'] at h9
    exact h9
  · rw [if_neg c, if_neg c, bo_id (fun r g v => by cases r; rfl)]
    exact w_0 (w_give0 hM hr hS h hs (q := .inl 1) rfl (fun e he => by cases he; omega)) hs150
theorem w_select (hM : zM g v T) (hr : rowB out = true) (hS : S out ∧ S (out + 1)) (h : zRw v T out l none) (hs : v 25 5 = zI s) (hs150 : s ≤ 150) (ha : zV (v 4) T a t) (hb : zV (v 4) T b u) : zWk S (f_N_select g v (zI a) (zI b) out) g v T out l none s 0 (some (if zgood u = true then [t] else [], none, s)) := by
  refine zWk_mg ?_
  rw [gd_t hr, c_good hM hb, bi_s]
  by_cases c : zk u < 2
  · have : zgood u = false := by simp [zgood]; omega
    rw [if_pos c, if_pos rfl, this]
    exact w_id hM hs hs150 h rfl
  · have : zgood u = true := by simp [zgood]; omega
    rw [if_neg c, if_neg (by decide), this, bo_id (fun r g v => by cases r; rfl)]
    exact w_0 (w_put0 hM hr hS h hs ha) hs150
/-- ALL -/
theorem w_all_l {Kr : (Nat → Nat) → mS → Int32 → Nat → Option (bO Unit)} {n : Nat} (hr : rowB out = true) (h5 : 5 ≤ zk t) (hs150 : s ≤ 150)
    (hK : ∀ (k : Nat) (v : mS) (l : List zT) (b : Nat), k < zl t → zM g v T → zV (v 4) T b (zc t k) → zRw v T out l none → v 25 5 = zI s → zWo S (Kr g v (zI b) out) g v T out l s (some (zall n (zc t k), none, s))) : ∀ (m q k : Nat) (v : mS) (l : List zT), zM g v T → zV (v 4) T a t → zRw v T out l none → v 25 5 = zI s → k + m = zl t → m < q → zWo S (f_N_all_18 Kr q (zI a) out (zI k) g v) g v T out l s (some ((List.range' k m).flatMap (fun k => zall n (zc t k)), none, s)) := by
  intro m
  induction m with
  | zero =>
    intro q k v l hM ha h hs hk hq
    obtain ⟨q, rfl, -⟩ := suc_of hq
    have lt := zwf_l ha.2
    have h16 := h.2.1
    refine ⟨v, hM, zY.rf, hs, rfl, rfl, ?_⟩
    rw [if_pos (by simpa using h16)]
    refine ⟨?_, by simpa using h⟩
    rw [f_N_all_18, gd_t hr, c_len hM ha, bi_s, iI_le (by omega) (by omega), if_pos (by omega)]
    rfl
  | succ m ih =>
    intro q k v l hM ha h hs hk hq
    obtain ⟨q, rfl, hq⟩ := suc_of hq
    have hq := Nat.lt_of_succ_lt_succ hq
    have lt := zwf_l ha.2
    obtain ⟨p, ep, hp⟩ := c_item hM ha h5 (show k < zl t by omega)
    obtain ⟨v1, a1, a2, a3, a4, -, a5⟩ := hK k v l p (by omega) hM hp h hs
    have e9 : (List.range' k (m + 1)).flatMap (fun k => zall n (zc t k)) = zall n (zc t k) ++ (List.range' (k + 1) m).flatMap (fun k => zall n (zc t k)) := by
      simp [List.range'_succ]
    have hun : f_N_all_18 Kr (q + 1) (zI a) out (zI k) g v = bo (Kr g v (zI p) out) (fun r9 g9 v9 => f_N_all_44 Kr (f_N_all_18 Kr q) (zI a) out (zI k) g9 v9) := by
      rw [f_N_all_18, gd_t hr, c_len hM ha, bi_s, iI_le (by omega) (by omega), if_neg (by omega), ep, bi_s]
    rw [hun, e9]
    by_cases c : l.length + (zall n (zc t k)).length ≤ 16
    · rw [if_pos c] at a5
      obtain ⟨v2, b1, b2, b3, b4, -, b5⟩ := ih q (k + 1) v1 _ a1 (a2.V ha) a5.2 a3 (by omega) hq
      refine ⟨v2, b1, a2.tr b2, b3, b4.trans a4, rfl, ?_⟩
      have h44 : f_N_all_44 Kr (f_N_all_18 Kr q) (zI a) out (zI k) g v1 = f_N_all_18 Kr q (zI a) out (zI (k + 1)) g v1 := by
        rw [f_N_all_44, gd_t hr, nm_s, zl_1, zI_add]
      rw [List.length_append] at b5 ⊢
      by_cases c2 : l.length + (zall n (zc t k)).length + ((List.range' (k + 1) m).flatMap (fun k => zall n (zc t k))).length ≤ 16
      · rw [if_pos c2] at b5
        rw [if_pos (by omega), a5.1]
        refine ⟨bo_l (o := (.inl (), g, v2)) (by rw [h44]; exact b5.1) (Nat.le_refl _), ?_⟩
        rw [← List.append_assoc]; exact b5.2
      · rw [if_neg c2] at b5
        rw [if_neg (by omega), a5.1]
        exact bo_l (o := (.inr 3, g, v2)) (by rw [h44]; exact b5) (Nat.le_refl _)
    · rw [if_neg c] at a5
      refine ⟨v1, a1, a2, a3, a4, rfl, ?_⟩
      rw [List.length_append, if_neg (by omega), a5, bo_r]
theorem w_all (hr : rowB out = true) (hS : S out ∧ S (out + 1)) (hs150 : s ≤ 150) : ∀ (n q a : Nat) (t : zT) (v : mS) (l : List zT), zM g v T → zV (v 4) T a t → zwf n t → n ≤ q → zRw v T out l none → v 25 5 = zI s → zWo S (f_N_all q g v (zI a) out) g v T out l s (some (zall n t, none, s)) := by
  intro n
  induction n with
  | zero => intro q a t v l _ _ hw; exact hw.elim
  | succ n ih =>
    intro q a t v l hM ha hw hq h hs
    obtain ⟨q, rfl, hq⟩ := suc_of (show n < q by omega)
    have lt := zwf_l ha.2
    have h16 := h.2.1
    show zWo S (f_N_allb (f_N_all q) g v (zI a) out) g v T out l s _
    obtain ⟨v1, a1, a2, a3, a4, -, a5⟩ := w_put0 hM hr hS h hs ha
    have hun : f_N_allb (f_N_all q) g v (zI a) out = mg g (bo (f_R_put g v out (zI a)) (fun r9 g9 v9 => f_N_all_5 (f_N_all q) (zI a) out g9 v9)) := by
      rw [f_N_allb, gd_t hr]
    rw [hun]
    by_cases c : l.length + [t].length ≤ 16
    · rw [if_pos c] at a5
      have key : zWo S (f_N_all_5 (f_N_all q) (zI a) out g v1) g v1 T out (l ++ [t]) s (some (if zk t < 5 then [] else (List.range (zl t)).flatMap (fun k => zall n (zc t k)), none, s)) := by
        have ha1 := a2.V ha
        by_cases c5 : zk t < 5
        · rw [if_pos c5]
          refine ⟨v1, a1, zY.rf, a3, rfl, rfl, ?_⟩
          rw [if_pos (by simpa using c)]
          refine ⟨?_, by simpa using a5.2⟩
          rw [f_N_all_5, gd_t hr, c_parts a1 ha1, bi_s, if_pos c5, if_pos rfl]
          rfl
        · rw [if_neg c5, List.range_eq_range']
          have e5 : f_N_all_5 (f_N_all q) (zI a) out g v1 = f_N_all_18 (f_N_all q) fu (zI a) out (zI 0) g v1 := by
            rw [f_N_all_5, gd_t hr, c_parts a1 ha1, bi_s, if_neg c5, if_neg (by decide)]
            rfl
          rw [e5]
          exact w_all_l hr (by omega) hs150 (fun k v l b hk hM hb h hs => ih q b (zc t k) v l hM hb ((hw.2.2.2.2.2.2.2.1 (by omega)).2.2 k hk) (by omega) h hs) (zl t) fu 0 v1 _ a1 ha1 a5.2 a3 (by omega) (fu_lt (by omega))
      obtain ⟨v2, b1, b2, b3, b4, -, b5⟩ := key
      refine ⟨v2, b1, a2.tr b2, b3, b4.trans a4, rfl, ?_⟩
      have hz : zall (n + 1) t = [t] ++ (if zk t < 5 then [] else (List.range (zl t)).flatMap (fun k => zall n (zc t k))) := rfl
      rw [hz]
      generalize (if zk t < 5 then [] else (List.range (zl t)).flatMap (fun k => zall n (zc t k))) = R at *
      rw [List.length_append] at b5 ⊢
      by_cases c2 : l.length + [t].length + R.length ≤ 16
      · rw [if_pos c2] at b5
        rw [if_pos (by omega), a5.1]
        refine ⟨mg_s (bo_l (o := (.inl (), g, v2)) b5.1 (Nat.le_refl _)) (Nat.le_refl _), ?_⟩
        rw [← List.append_assoc]; exact b5.2
      · rw [if_neg c2] at b5
        rw [if_neg (by omega), a5.1]
        exact mg_s (bo_l (o := (.inr 3, g, v2)) b5 (Nat.le_refl _)) (Nat.le_refl _)
    · rw [if_neg c] at a5
      refine ⟨v1, a1, a2, a3, a4, rfl, ?_⟩
      have hz : (zall (n + 1) t).length = 1 + (if zk t < 5 then [] else (List.range (zl t)).flatMap (fun k => zall n (zc t k))).length := by
        show (t :: _).length = _
        rw [List.length_cons]; omega
      simp only [List.length_cons, List.length_nil] at c
      rw [hz, if_neg (by omega), a5]
      exact mg_s bo_r (Nat.le_refl _)
end CU
