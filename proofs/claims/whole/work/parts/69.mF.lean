/-! the reference's machine: CALC, COMPARE, AND, OR -/
section MFF
variable {op : Nat → Nat} {ar : Nat → Int32} {sx : Nat → zN} {p2 p3 : Nat → Nat} {B F k : Nat} {t y x : zT} {vr vra vr0 : Nat → zT} {l xs : List zT} {s u Q i : Nat} {v : mS} {T : Nat} {sp : zEv} {c d a : Nat} {X : Option mS} {eR : Option zT} {K : Option zT → Nat → zEv}
theorem mFE_lc {sp' : zEv} (h : mFE F Q vr s c (zapp l sp) v T) (hl : 16 < l.length) : mFE F Q vr s c (zapp l sp') v T := by
  obtain ⟨n, v', T', a1, a2, a3, a4⟩ := h
  have key : v' 0 21 = 1 ∧ n ≤ c + 40 * (150 - s) := by
    rcases zapp_ov (sp := sp) (r := l) with h | ⟨r, e, s1, h, h2⟩
    · rw [h] at a4; exact a4
    · rw [h] at a4
      dsimp only at a4
      rw [if_neg (by omega)] at a4
      exact a4
  refine ⟨n, v', T', a1, a2, a3, ?_⟩
  rcases zapp_ov (sp := sp') (r := l) with h | ⟨r, e, s1, h, h2⟩
  · rw [h]; exact key
  · rw [h]
    dsimp only
    rw [if_neg (by omega)]
    exact key
theorem oc_lc {sp' : zEv} (h : mOc F Q vr s c X (zapp l sp) v T) (hl : 16 < l.length) : mOc F Q vr s c X (zapp l sp') v T := by
  obtain ⟨v1, T1, a1, a2, a3⟩ := h
  exact ⟨v1, T1, a1, a2, mFE_lc a3 hl⟩
theorem oc_none (h : mOc F Q vr s c X (zapp l sp) v T) (hl : 16 < l.length) : mOc F Q vr s c X none v T := oc_lc (sp' := none) h hl
theorem mFr_dead (h : mFr op ar sx p2 p3 B F k t vr l s u Q v T) (hl : 16 < l.length) : v 0 21 = 1 := by
  rcases h.2.2.2.2.2.2.2.2.1 with ⟨b1, b2, b3⟩ | ⟨b1, b2, b3⟩
  · omega
  · exact b2
theorem mFr_alive (h : mFr op ar sx p2 p3 B F k t vr l s u Q v T) (hl : l.length ≤ 16) : v 0 21 = 0 := by
  rcases h.2.2.2.2.2.2.2.2.1 with ⟨b1, b2, b3⟩ | ⟨b1, b2, b3⟩
  · exact b2
  · omega
theorem oc_111d {o i : Nat} {x3 x4 : Int32} {r : List zT} {er : Option zT} {q : Nat} (hF : F < 10) (h : mFr op ar sx p2 p3 B F k t vr l s u Q v T) (hl : 16 < l.length) (hg : mErr (v 0 38) v T er) : mOc F Q vr s c (f_M_worked_111 (q + 1) (zI F) (zI o) x3 x4 (zI i) v) (zapp l sp) v T := by
  have h1 := mFr_dead h hl
  have e1 : f_M_worked_111 (q + 1) (zI F) (zI o) x3 x4 (zI i) v = f_M_worked_313 (zI F) v := by
    rw [f_M_worked_111, h1, if_neg (show ¬ (1 : Int32) = 0 by decide), f_M_worked_193]
    split <;> rfl
  rw [e1]
  exact oc_lc (oc_313 (K := fun e s => match e with | none => some ([], none, s) | some y => some ([], some y, s)) hF h hg (fun _ _ => rfl) (fun _ => mFE_deadA h.2.1 h1 hl)) hl
theorem oc_111 {o n e : Nat} {r : List zT} {er : Option zT} (hF : F < 10) (ho : (o = 12 ∧ n < 4) ∨ (o = 13 ∧ n < 6)) (hKy : ∀ y s1, K (some y) s1 = some ([], some y, s1)) : ∀ (m q i : Nat) (v : mS) (T : Nat) (l : List zT), i + m = r.length → m < q → mFr op ar sx p2 p3 B F k t vr l s (mU l) Q v T → mGot v T r er → zU (v 6) T e y → (∀ (v1 : mS) (T1 : Nat) (r' : List zT), zfe (fun x s => zgv (zpv o n x y) s) (r.drop i) er s = some (r', none, s) → mFr op ar sx p2 p3 B F k t vr (l ++ r') s (mU (l ++ r')) Q v1 T1 → (∀ j, j = 17 ∨ j = 18 ∨ j = 19 ∨ j = 20 ∨ j = 23 → v1 j = v j) → T ≤ T1 → (∀ n, n < T → v1 6 n = v 6 n) → mFE F Q vr s c (zapp (l ++ r') (K none s)) v1 T1) → mOc F Q vr s c (f_M_worked_111 q (zI F) (zI o) (zI e) (zI n) (zI i) v) (zapp l (zseq (zfe (fun x s => zgv (zpv o n x y) s) (r.drop i) er s) K)) v T := by
  intro m
  induction m with
  | zero =>
    intro q i v T l hi hq h hg he hc
    obtain ⟨q, rfl, -⟩ := suc_of hq
    have h16 := hg.2.1.1
    have e1 : r.drop i = [] := List.drop_eq_nil_of_le (by omega)
    rw [e1] at hc ⊢
    have e2 : zseq (zfe (fun x s => zgv (zpv o n x y) s) [] er s) K = K er s := by
      simp only [zfe, zseq]
      exact zapp_nil
    rw [e2, f_M_worked_111, hg.1, iI_le (by omega) (by omega), if_pos (by omega), f_M_worked_193]
    refine oc_313 hF h hg.2.2 hKy (fun en => ?_)
    have := hc v T [] (by rw [en]; rfl) (by simpa using h) (fun _ _ => rfl) (Nat.le_refl _) (fun _ _ => rfl)
    simpa using this
  | succ m ih =>
    intro q i v T l hi hq h hg he hc
    obtain ⟨q, rfl, hq⟩ := suc_of hq
    have hq := Nat.lt_of_succ_lt_succ hq
    by_cases hl : l.length ≤ 16
    · have h0 := mFr_alive h hl
      have h16 := hg.2.1.1
      have hmu : 22 ≤ mU l := by unfold mU; omega
      obtain ⟨a1, a2, a3, a4, a5, a6, a7, a8, a9, a10, a11⟩ := id h
      obtain ⟨b, eb, hb⟩ := hg.2.1.2 i (by omega)
      rw [Nat.zero_add] at eb
      have hP : ∃ Y, mP Y v T 16 (zpv o n (r.getD i (zW 0)) y) ∧ f_M_worked_111 (q + 1) (zI F) (zI o) (zI e) (zI n) (zI i) v = bi Y fun r_11 v_9 => f_M_worked_164 (f_M_worked_111 q) (zI F) (zI o) (zI e) (zI n) (zI i) r_11 v_9 := by
        rcases ho with ⟨ho, hn⟩ | ⟨ho, hn⟩
        · refine ⟨f_M_calc v (zI n) (zI b) (zI e), ?_, ?_⟩
          rotate_left
          · rw [f_M_worked_111, hg.1, iI_le (by omega) (by omega), if_neg (by omega), if_pos h0, ho, if_pos (by decide), gd_I (by omega) (by omega), zI_toNat (by omega), eb]
          · have := m_calc a2 hb he (h := n) (by omega) (by omega)
            unfold zpv
            rw [if_neg (by omega)]
            exact this
        · obtain ⟨p, v', p1, p2, p3⟩ := m_compared a2 hb he (h := n) (by omega)
          refine ⟨f_M_compared v (zI n) (zI b) (zI e), ?_, ?_⟩
          rotate_left
          · rw [f_M_worked_111, hg.1, iI_le (by omega) (by omega), if_neg (by omega), if_pos h0, ho, if_neg (by decide), gd_I (by omega) (by omega), zI_toNat (by omega), eb]
          · unfold zpv
            rw [if_pos ho, p1]
            exact ⟨v', T, p2.M a2, p2.E, by omega, p, rfl, p3, p2.2 21 (by decide)⟩
      obtain ⟨Y, hP, hst⟩ := hP
      rw [hst, drop_c (show i < r.length by omega), zfe_c, zseq_as]
      have hpe := @zpv_e o n (r.getD i (zW 0)) y
      obtain ⟨v', T', m1, m2, m3, m4⟩ := hP
      have hgE : mGot v' T' r er := mGot_up hg (m2.2.2.2 37 (by decide) (by decide) (by decide)) (m2.2.2.2 38 (by decide) (by decide) (by decide)) (m2.2.2.1 26 (by decide) (by decide) (by decide) (by decide) (by decide) (by decide)) m2.2.1 m2.1
      cases hw : zpv o n (r.getD i (zW 0)) y with
      | none =>
        rw [hw] at m4
        have hk := mFr_kill (u2 := 6) h hl m2 m1 m4.2 (by omega)
        obtain ⟨q, rfl, -⟩ := suc_of (show 0 < q by omega)
        rw [m4.1, bi_s, f_M_worked_164, if_pos (by decide), m_emit_dead m4.2, bv_s, nm_s, zl_1, zI_add]
        exact oc_X m2.X (oc_none (sp := none) (oc_111d (r := r) hF hk (by simp [mLg]) hgE.2.2) (by simp [mLg]))
      | some w =>
        rw [hw] at m4
        cases w with
        | inl e1 =>
          obtain ⟨q1, q2⟩ := hpe hw
          have ej : -(zJ (-(e1 : Int))) = zI e1 := by
            rcases (show e1 = 1 ∨ e1 = 2 by omega) with rfl | rfl <;> rfl
          rw [m4.1, bi_s, f_M_worked_164, iJ_0le (by omega) (by omega), if_neg (by omega), ej]
          have e2 : zapp l (zseq (zgv (some (.inl e1)) s) fun e s1 => zseq (zlp (fun x s => zgv (zpv o n x y) s) (r.drop (i + 1)) er e s1) K) = some (l, some (zQ ((e1 : Int) * 1000000)), s) := by
            simp [zgv, zseq, zlp, zapp, hKy]
          rw [e2]
          exact oc_X m2.X (oc_le (oc_bv (fun _ => rfl) (oc_err hF (by omega) (u := 6) (by omega) (mFr_E h m2 m1 m4.2 (by omega)))) (by omega) a7)
        | inr z =>
          obtain ⟨p, m5, m6, m7⟩ := m4
          have hpU := zU_head m6
          have hT' := m1.2.2.1
          have hmu1 := mU_1 (l := l) (r := [z]) hl (by simp)
          obtain ⟨v2, b1, b2, b3, b4, b5⟩ := mFr_emit hF (mFr_E (u2 := mU (l ++ [z])) h m2 m1 m7 (by omega)) m6
          rw [m5, bi_s, f_M_worked_164, if_pos (by rw [zl_0, zI_le (by omega) (by omega)]; omega), b1, bv_s, nm_s, zl_1, zI_add]
          have e2 : zapp l (zseq (zgv (some (.inr z)) s) fun e s1 => zseq (zlp (fun x s => zgv (zpv o n x y) s) (r.drop (i + 1)) er e s1) K) = zapp (l ++ [z]) (zseq (zfe (fun x s => zgv (zpv o n x y) s) (r.drop (i + 1)) er s) K) := by
            rw [← zapp_app]; rfl
          rw [e2]
          refine oc_X m2.X (oc_X b3 (ih q (i + 1) v2 T' _ (by omega) hq b2 (mGot_up hgE (b5 37 (by decide)) (b5 38 (by decide)) (b4 26 (by decide) (by decide) (by decide)) (fun j _ => by rw [b4 6 (by decide) (by decide) (by decide)]) (Nat.le_refl _)) (b3.U (m2.U he)) (fun v1 T1 r' k1 k2 k3 k4 k5 => ?_)))
          rw [List.append_assoc] at k2 ⊢
          refine hc v1 T1 ([z] ++ r') ?_ k2 (fun j hj => by rw [k3 j hj, b4 j (by omega) (by omega) (by omega), m2.2.2.1 j (by omega) (by omega) (by omega) (by omega) (by omega) (by omega)]) (by have := m2.1; omega) (fun j hj => by rw [k5 j (by have := m2.1; omega), b4 6 (by decide) (by decide) (by decide), m2.2.1 j hj])
          rw [drop_c (show i < r.length by omega), zfe_c, hw]
          show zapp [z] (zfe _ _ _ _) = _
          rw [k1]
          rfl
    · obtain ⟨r9, er9⟩ := (⟨r, er⟩ : List zT × Option zT)
      exact oc_111d (r := r) hF h (by omega) hg.2.2
theorem fr_1213 (hK : mKr op ar sx p2 p3 B d (F + 1)) (hF : F + 1 < 10) (h : mFr op ar sx p2 p3 B F k t vr [] s (mU []) Q v T) (h0 : v 0 21 = 0) (hp : v 17 F = zI 0) (hk : zok op ar p2 p3 (d + 1) k) (ho : op k = 12 ∨ op k = 13) : mFE F Q vr s 38 (zfor (fun y s => zfor (fun x s => zgv (zpv (op k) (ar k).toNatClampNeg x y) s) (zev op ar sx p2 p3 d (k + 1) t vr s)) (zev op ar sx p2 p3 d (p2 k) t vr s)) v T := by
  have h1 : 1 ≤ zpt (op k) := by rcases ho with e | e <;> rw [e] <;> decide
  have hn : ∃ n, ar k = zI n ∧ ((op k = 12 ∧ n < 4) ∨ (op k = 13 ∧ n < 6)) := by
    rcases ho with e | e
    · obtain ⟨n, hn, hn4⟩ := hk.2.2.1.2.2.1 e
      exact ⟨n, hn, Or.inl ⟨e, hn4⟩⟩
    · obtain ⟨n, hn, hn4⟩ := hk.2.2.1.2.2.2.1 e
      exact ⟨n, hn, Or.inr ⟨e, hn4⟩⟩
  obtain ⟨n, hn, hon⟩ := hn
  rw [hn, zI_toNat (by omega)]
  refine fr_for2 hK hF h h0 hp hk ho (fun xs eR i v T l s c K hi hl h0 h hr hKy hc => ?_)
  obtain ⟨e, b, ee, he, eb, hb, hst⟩ := nx_pre (by omega) h hk h1 hr hi
  obtain ⟨a1, -⟩ := id h
  have hst2 : f_M_step v (zI F) = f_M_ask v (zI F) (zI 0) (zI b) (zI 3) := by
    rw [hst]
    unfold nxd
    rcases ho with e | e <;> rw [e] <;> (repeat rw [if_neg (by decide)]) <;> rw [if_pos (by decide), f_M_next_207, bv_388] <;> rfl
  rw [zfor_b, zseq_b]
  refine el_ask (va := v) (j := 0) hK hF hk h1 h h0 hr hi ee he mX.rf h (fun _ _ => rfl) hst2 (hk.2.2.2.1 h1) (fun w hw => (a1.2.2.2 w hw (d + 1) k hk).1 h1) hb (fun w T2 r er s1 q1 q2 q3 q4 q5 q6 q7 q8 q9 q10 q11 => ?_)
  have hwk : wkd w (zI F) (zI (op k)) (zI e) (ar k) = f_M_worked_111 fu (zI F) (zI (op k)) (zI e) (zI n) (zI 0) w := by
    rw [hn]
    unfold wkd
    rcases ho with e | e <;> rw [e] <;> (repeat rw [if_neg (by decide)]) <;> rw [if_pos (by decide), f_M_worked_108] <;> rfl
  rw [hwk]
  have h16 := q6.2.1.1
  exact oc_111 (by omega) hon hKy r.length fu 0 w T2 l (by omega) (fu_lt (by omega)) q4 q6 q7 (fun v1 T1 r' k1 k2 k3 k4 k5 => hc v1 T1 r' s1 (by rw [zfor_b, q1]; exact k1) k2 (mRs_k q5 (fun j a => by rw [k3 j (by omega)]) (fun j _ _ => by rw [k3 23 (by omega)]) k5 k4))
theorem m_199 {r : List zT} {er : Option zT} (hF : F < 10) : ∀ (m q i : Nat) (v : mS) (l : List zT), i + m = r.length → m < q → mFr op ar sx p2 p3 B F k t vr l s u Q v T → mGot v T r er → ∃ v1, f_M_worked_199 q (zI F) (zI i) v = f_M_worked_313 (zI F) v1 ∧ mFr op ar sx p2 p3 B F k t vr (l ++ (r.drop i).map (fun y => ztr (zgood y))) s u Q v1 T ∧ mX F v T v1 T ∧ (∀ j, j ≠ 0 → j ≠ 24 → j ≠ 25 → v1 j = v j) ∧ (∀ k, k ≠ 21 → v1 0 k = v 0 k) := by
  intro m
  induction m with
  | zero =>
    intro q i v l hi hq h hg
    obtain ⟨q, rfl, -⟩ := suc_of hq
    have h16 := hg.2.1.1
    have e1 : r.drop i = [] := List.drop_eq_nil_of_le (by omega)
    refine ⟨v, ?_, by rw [e1]; simpa using h, mX.rf, fun _ _ _ _ => rfl, fun _ _ => rfl⟩
    rw [f_M_worked_199, hg.1, iI_le (by omega) (by omega), if_pos (by omega)]
  | succ m ih =>
    intro q i v l hi hq h hg
    obtain ⟨q, rfl, hq⟩ := suc_of hq
    have hq := Nat.lt_of_succ_lt_succ hq
    have h16 := hg.2.1.1
    have a2 := h.2.1
    obtain ⟨b, eb, hb⟩ := hg.2.1.2 i (by omega)
    rw [Nat.zero_add] at eb
    have hem : ∃ p, zU (v 6) T p (ztr (zgood (r.getD i (zW 0)))) ∧ f_M_worked_199 (q + 1) (zI F) (zI i) v = bv (f_M_emit v (zI F) (zI p)) fun v_1 => f_M_worked_199 q (zI F) (zI (i + 1)) v_1 := by
      have e8 : (8 : Int32) = zI (4 + 4 * 1) := rfl
      have e12 : (12 : Int32) = zI (4 + 4 * 2) := rfl
      have ei1 : zI i + 1 = zI (i + 1) := by rw [zl_1, zI_add]
      rw [f_M_worked_199, hg.1, iI_le (by omega) (by omega), if_neg (by omega), gd_I (by omega) (by omega), zI_toNat (by omega), eb, m_good a2 hb, bi_s, f_M_worked_231, f_M_worked_231, ei1]
      by_cases cg : zgood (r.getD i (zW 0)) = true
      · rw [if_pos cg, if_neg (by decide), cg]
        exact ⟨4 + 4 * 2, mM_W a2 (by omega), by rw [e12]; rfl⟩
      · rw [if_neg cg, if_pos rfl, show zgood (r.getD i (zW 0)) = false by simpa using cg]
        exact ⟨4 + 4 * 1, mM_W a2 (by omega), by rw [e8]; rfl⟩
    obtain ⟨p, hp, hst⟩ := hem
    obtain ⟨w, b1, b2, b3, b4, b5⟩ := mFr_emit hF h hp
    obtain ⟨v1, c1, c2, c3, c4, c5⟩ := ih q (i + 1) w _ (by omega) hq b2 (mGot_up hg (b5 37 (by decide)) (b5 38 (by decide)) (b4 26 (by decide) (by decide) (by decide)) (fun j _ => by rw [b4 6 (by decide) (by decide) (by decide)]) (Nat.le_refl _))
    refine ⟨v1, by rw [hst, b1, bv_s, c1], ?_, b3.tr c3, fun j j0 j1 j2 => (c4 j j0 j1 j2).trans (b4 j j0 j1 j2), fun k hk => (c5 k hk).trans (b5 k hk)⟩
    rw [drop_c (show i < r.length by omega), List.map_cons]
    rw [List.append_assoc] at c2
    exact c2
theorem fr_1415 (hK : mKr op ar sx p2 p3 B d (F + 1)) (hF : F + 1 < 10) (h : mFr op ar sx p2 p3 B F k t vr [] s (mU []) Q v T) (h0 : v 0 21 = 0) (hp : v 17 F = zI 0) (hk : zok op ar p2 p3 (d + 1) k) (ho : op k = 14 ∨ op k = 15) : mFE F Q vr s 38 (zfor (fun x s => if zgood x = decide (op k = 15) then some ([ztr (decide (op k = 15))], none, s) else zbnd (zev op ar sx p2 p3 d (p2 k) t vr s) (fun r e s1 => some (r.map (fun y => ztr (zgood y)), e, s1))) (zev op ar sx p2 p3 d (k + 1) t vr s)) v T := by
  have h1 : 1 ≤ zpt (op k) := by rcases ho with e | e <;> rw [e] <;> decide
  have h2 : 2 ≤ zpt (op k) := by rcases ho with e | e <;> rw [e] <;> decide
  refine fr_for1 hK hF h h0 hp hk h1 (by omega) (by omega) (fun xs eR i v T l s c K hi hl h0 h hr hKy hc => ?_)
  obtain ⟨e, b, ee, he, eb, hb, hst⟩ := nx_pre (by omega) h hk h1 hr hi
  obtain ⟨a1, a2, a3, -, a5, a6, a7, a8, a9, a10, a11⟩ := id h
  have h16 := hr.2.2.2.1.1
  have e8 : (8 : Int32) = zI (4 + 4 * 1) := rfl
  have e12 : (12 : Int32) = zI (4 + 4 * 2) := rfl
  by_cases cg : zgood (xs.getD i (zW 0)) = decide (op k = 15)
  · have hst2 : ∃ p, zU (v 6) T p (ztr (decide (op k = 15))) ∧ f_M_step v (zI F) = f_M_told v (zI F) (zI p) := by
      unfold nxd at hst
      rcases ho with o | o
      · have cg2 : zgood (xs.getD i (zW 0)) = false := by rw [cg, o]; rfl
        rw [o]
        rw [o] at hst
        repeat rw [if_neg (by decide)] at hst
        have g0 : f_M_good v (zI e) = some (0, v) := by rw [m_good a2 he, cg2]; rfl
        rw [if_pos (by decide), f_M_next_219, g0, bi_s, if_pos (by decide), f_M_next_235, if_neg (by decide), if_pos (by decide), f_M_next_265, bv_388, e8] at hst
        exact ⟨4 + 4 * 1, mM_W a2 (by omega), hst⟩
      · have cg2 : zgood (xs.getD i (zW 0)) = true := by rw [cg, o]; rfl
        rw [o]
        rw [o] at hst
        repeat rw [if_neg (by decide)] at hst
        have g0 : f_M_good v (zI e) = some (1, v) := by rw [m_good a2 he, cg2]; rfl
        rw [if_pos (by decide), f_M_next_219, g0, bi_s, if_neg (by decide), f_M_next_235, if_neg (by decide), if_neg (by decide), f_M_next_265, bv_388, e12] at hst
        exact ⟨4 + 4 * 2, mM_W a2 (by omega), hst⟩
    obtain ⟨p, hp, hst2⟩ := hst2
    obtain ⟨v1, b1, b2, b3, b4⟩ := m_told (by omega) h hr (by omega) hp
    rw [if_pos cg]
    refine mFE_le (c := c + 1) ?_ (by omega) a7
    exact el_done (by omega) h h0 hr (hst2.trans b1) rfl b2 b3 (mU_0 _) b4 (fun v2 T2 k1 k2 => hc v2 T2 _ s (by rw [if_pos cg]) k1 k2)
  · have hst2 : f_M_step v (zI F) = f_M_ask v (zI F) (zI 1) (zI b) (zI 3) := by
      unfold nxd at hst
      rcases ho with o | o
      · have cg2 : zgood (xs.getD i (zW 0)) = true := by rw [o] at cg; simpa using cg
        rw [o] at hst
        repeat rw [if_neg (by decide)] at hst
        have g0 : f_M_good v (zI e) = some (1, v) := by rw [m_good a2 he, cg2]; rfl
        rw [if_pos (by decide), f_M_next_219, g0, bi_s, if_pos (by decide), f_M_next_235, if_pos rfl, bv_388] at hst
        exact hst
      · have cg2 : zgood (xs.getD i (zW 0)) = false := by rw [o] at cg; simpa using cg
        rw [o] at hst
        repeat rw [if_neg (by decide)] at hst
        have g0 : f_M_good v (zI e) = some (0, v) := by rw [m_good a2 he, cg2]; rfl
        rw [if_pos (by decide), f_M_next_219, g0, bi_s, if_neg (by decide), f_M_next_235, if_pos rfl, bv_388] at hst
        exact hst
    rw [if_neg cg, zseq_b]
    refine el_ask (va := v) (j := 1) hK hF hk h1 h h0 hr hi ee he mX.rf h (fun _ _ => rfl) hst2 (hk.2.2.2.2.1 h2) (fun w hw => (a1.2.2.2 w hw (d + 1) k hk).2.1 h2) hb (fun w T2 r er s1 q1 q2 q3 q4 q5 q6 q7 q8 q9 q10 q11 => ?_)
    have hr16 := q6.2.1.1
    have hwk : wkd w (zI F) (zI (op k)) (zI e) (ar k) = f_M_worked_199 fu (zI F) (zI 0) w := by
      unfold wkd
      rcases ho with e | e <;> rw [e] <;> (repeat rw [if_neg (by decide)]) <;> rw [if_pos (by decide), f_M_worked_196] <;> rfl
    obtain ⟨v1, c1, c2, c3, c4, c5⟩ := m_199 (r := r) (er := er) (by omega) r.length fu 0 w l (by omega) (fu_lt (by omega)) q4 q6
    rw [hwk, c1, zseq_s, zapp_app]
    refine oc_X c3 (oc_313 (by omega) c2 ?_ hKy (fun en => ?_))
    · rw [c5 38 (by decide)]
      exact mErr_up q6.2.2 (fun n _ => by rw [c4 6 (by decide) (by decide) (by decide)]) (Nat.le_refl _)
    · exact hc v1 T2 _ s1 (by rw [if_neg cg, q1, en]; rfl) (mFr_le c2 (mU_0 _)) (mRs_m q5 c4)
end MFF
