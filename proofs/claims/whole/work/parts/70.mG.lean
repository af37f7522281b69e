/-! the reference's machine: COMMA, ARRAY, TRY, ALTERNATIVE, LIMIT -/
theorem zbnd_id {E : zEv} : zbnd E (fun r e s => some (r, e, s)) = E := by
  cases E with
  | none => rfl
  | some q => rfl
section MGG
variable {op : Nat → Nat} {ar : Nat → Int32} {sx : Nat → zN} {p2 p3 : Nat → Nat} {B F k : Nat} {t y x : zT} {vr vra vr0 : Nat → zT} {l xs : List zT} {s u Q i : Nat} {v : mS} {T : Nat} {sp : zEv} {c d a : Nat} {X : Option mS} {eR : Option zT} {K : Option zT → Nat → zEv}
theorem cm_pre (hF : F < 10) (h : mFr op ar sx p2 p3 B F k t vr l s u Q v T) (hk : zok op ar p2 p3 (d + 1) k) (h1 : 1 ≤ zpt (op k)) (hp : v 17 F = zI 1) : f_M_step v (zI F) = f_M_came v (zI F) (zI (op k)) := by
  rw [m_step_p hF h hk.1 hk.2.1 h1 hp (by omega), if_neg (by omega), if_pos rfl, bv_id]
theorem bv_322 : (bv X fun v_1 => f_M_came_322 v_1) = X := bv_idf (fun v => rfl)
theorem fr_rd1 {X : Option mS} (hF : F < 10) (h : mFr op ar sx p2 p3 B F k t vr l s u Q v T) (h0 : v 0 21 = 0) (hp : v 17 F = zI 1) (hs : f_M_step v (zI F) = X) (ho : mOc F Q vr0 s c X sp v T) : mFE F Q vr0 s (c + 1) sp v T := by
  obtain ⟨v1, T1, a1, a2, a3⟩ := ho
  exact mFE_rd hF h h0 hp (by omega) (hs.trans a1) a2 a3
/-- the second part, and what it makes is the rest -/
theorem oc_ask4 {b : Nat} (hK : mKr op ar sx p2 p3 B d (F + 1)) (hF : F + 1 < 10) (hk : zok op ar p2 p3 (d + 1) k) (h2 : 2 ≤ zpt (op k)) (h : mFr op ar sx p2 p3 B F k t vr l s u Q v T) (hb : zU (v 6) T b y) : mOc F Q vr s 1 (f_M_ask v (zI F) (zI 1) (zI b) (zI 4)) (zapp l (zev op ar sx p2 p3 d (p2 k) y vr s)) v T := by
  obtain ⟨a1, -⟩ := id h
  obtain ⟨v1, b1, b2, b3⟩ := m_askK (c := 1) (vr0 := vr) (spK := fun r e s => some (r, e, s)) (ph := 4) hK hF h (hk.2.2.2.2.1 h2) (fun w hw => (a1.2.2.2 w hw (d + 1) k hk).2.1 h2) hb (fun v2 T2 r e s1 c1 c2 c3 c4 c5 c6 => fr_4 (by omega) c3 hk (by omega) c6 c4)
  rw [zbnd_id] at b3
  exact ⟨v1, T, b1, b2, b3⟩
theorem err_pos {b : Nat} (hT : T ≤ 63900) (hb : zU (v 6) T b y) : ¬ zI b ≤ 0 := by
  obtain ⟨q0, q1, -⟩ := zU_head hb
  rw [zl_0, zI_le (by omega) (by omega)]
  omega
theorem fr_5 (hK : mKr op ar sx p2 p3 B d (F + 1)) (hF : F + 1 < 10) (h : mFr op ar sx p2 p3 B F k t vr [] s (mU []) Q v T) (h0 : v 0 21 = 0) (hp : v 17 F = zI 0) (hk : zok op ar p2 p3 (d + 1) k) (ho : op k = 5) : mFE F Q vr s 38 (zseq (zev op ar sx p2 p3 d (k + 1) t vr s) (fun e s1 => match e with | none => zev op ar sx p2 p3 d (p2 k) t vr s1 | some y => some ([], some y, s1))) v T := by
  have h1 : 1 ≤ zpt (op k) := by rw [ho]; decide
  have h2 : 2 ≤ zpt (op k) := by rw [ho]; decide
  have h150 := h.2.2.2.2.2.2.1
  rw [zseq_bn, ← zapp_nil (sp := zbnd _ _)]
  refine mFE_le (fr_first1 (c := 2) hK hF h h0 hp hk h1 (by omega) (by omega) (fun v2 T2 r e s1 c1 c2 c3 c4 c5 => ?_)) (by omega) h150
  refine mFE_live c3 (fun _ h02 _ => fr_rd1 (by omega) c3 h02 c5 (cm_pre (by omega) c3 hk h1 c5) ?_)
  obtain ⟨v3, b1, b2, b3, b4, b5⟩ := mFr_take (by omega) c3 c4
  have hT := c3.2.1.2.2.1
  rw [ho, f_M_came, if_pos (by decide), b1, bv_s, zapp_app]
  refine oc_X b3 ?_
  obtain ⟨a1, a2, a3, ⟨b, eb, hb⟩, a5, a6, a7, -⟩ := id b2
  have he : mErr (v3 0 38) v3 T2 e := by
    rw [b5 38 (by decide)]
    exact mErr_up c4.2.2 (fun n _ => by rw [b4 6 (by decide) (by decide) (by decide)]) (Nat.le_refl _)
  cases e with
  | none =>
    have he : v3 0 38 = 0 := he
    rw [he, if_pos (by decide), gd_I (by omega) (by omega), zI_toNat (by omega), eb, bv_322]
    exact oc_ask4 hK hF hk h2 b2 hb
  | some z =>
    obtain ⟨q, eq, hq⟩ := id he
    rw [eq, if_neg (err_pos hT hq), bv_322, ← eq]
    have e2 : zapp ([] ++ r) (some ([], some z, s1)) = some ([] ++ r, some z, s1) := by simp [zapp]
    dsimp only
    rw [e2]
    exact oc_le (oc_end (by omega) b2 he) (by omega) a7
theorem fr_18 (hK : mKr op ar sx p2 p3 B d (F + 1)) (hF : F + 1 < 10) (h : mFr op ar sx p2 p3 B F k t vr [] s (mU []) Q v T) (h0 : v 0 21 = 0) (hp : v 17 F = zI 0) (hk : zok op ar p2 p3 (d + 1) k) (ho : op k = 18) : mFE F Q vr s 38 (zseq (zev op ar sx p2 p3 d (k + 1) t vr s) (fun e s1 => match e with | none => some ([], none, s1) | some y => zev op ar sx p2 p3 d (p2 k) y vr s1)) v T := by
  have h1 : 1 ≤ zpt (op k) := by rw [ho]; decide
  have h2 : 2 ≤ zpt (op k) := by rw [ho]; decide
  have h150 := h.2.2.2.2.2.2.1
  rw [zseq_bn, ← zapp_nil (sp := zbnd _ _)]
  refine mFE_le (fr_first1 (c := 2) hK hF h h0 hp hk h1 (by omega) (by omega) (fun v2 T2 r e s1 c1 c2 c3 c4 c5 => ?_)) (by omega) h150
  refine mFE_live c3 (fun _ h02 _ => fr_rd1 (by omega) c3 h02 c5 (cm_pre (by omega) c3 hk h1 c5) ?_)
  obtain ⟨v3, b1, b2, b3, b4, b5⟩ := mFr_take (by omega) c3 c4
  have hT := c3.2.1.2.2.1
  rw [ho, f_M_came, if_neg (by decide), if_neg (by decide), if_pos (by decide), b1, bv_s, zapp_app]
  refine oc_X b3 ?_
  obtain ⟨a1, a2, a3, ⟨b, eb, hb⟩, a5, a6, a7, -⟩ := id b2
  have he : mErr (v3 0 38) v3 T2 e := by
    rw [b5 38 (by decide)]
    exact mErr_up c4.2.2 (fun n _ => by rw [b4 6 (by decide) (by decide) (by decide)]) (Nat.le_refl _)
  cases e with
  | none =>
    have he : v3 0 38 = 0 := he
    rw [he, if_pos (by decide), bv_322]
    have e2 : zapp ([] ++ r) (some ([], none, s1)) = some ([] ++ r, none, s1) := by simp [zapp]
    dsimp only
    rw [e2]
    exact oc_le (oc_end (e := none) (by omega) b2 rfl) (by omega) a7
  | some z =>
    obtain ⟨q, eq, hq⟩ := id he
    rw [eq, if_neg (err_pos hT hq), bv_322]
    exact oc_ask4 hK hF hk h2 b2 hq
theorem m_168 {r : List zT} {er : Option zT} (hF : F < 10) : ∀ (m q i : Nat) (v : mS) (l : List zT), i + m = r.length → m < q → mFr op ar sx p2 p3 B F k t vr l s u Q v T → mGot v T r er → ∃ v1, f_M_came_168 q (zI F) (zI i) v = (gd (inB (zI F) 10) (if (v1 24 (zI F : Int32).toNatClampNeg) = 0 then (gd (inB (zI F) 10) (bv (f_M_ask v1 (zI F) 1 (v1 16 (zI F : Int32).toNatClampNeg) 4) fun v_7 => f_M_came_322 v_7)) else (bv (f_M_end v1 (zI F) 0) fun v_4 => f_M_came_322 v_4))) ∧ mFr op ar sx p2 p3 B F k t vr (l ++ (r.drop i).filter zgood) s u Q v1 T ∧ mX F v T v1 T := by
  intro m
  induction m with
  | zero =>
    intro q i v l hi hq h hg
    obtain ⟨q, rfl, -⟩ := suc_of hq
    have h16 := hg.2.1.1
    have e1 : r.drop i = [] := List.drop_eq_nil_of_le (by omega)
    refine ⟨v, ?_, by rw [e1]; simpa using h, mX.rf⟩
    rw [f_M_came_168, hg.1, iI_le (by omega) (by omega), if_pos (by omega)]
  | succ m ih =>
    intro q i v l hi hq h hg
    obtain ⟨q, rfl, hq⟩ := suc_of hq
    have hq := Nat.lt_of_succ_lt_succ hq
    have h16 := hg.2.1.1
    have a2 := h.2.1
    obtain ⟨b, eb, hb⟩ := hg.2.1.2 i (by omega)
    rw [Nat.zero_add] at eb
    have ei1 : zI i + 1 = zI (i + 1) := by rw [zl_1, zI_add]
    by_cases cg : zgood (r.getD i (zW 0)) = true
    · have g0 : f_M_good v (zI b) = some (1, v) := by rw [m_good a2 hb, if_pos cg]
      obtain ⟨w, b1, b2, b3, b4, b5⟩ := mFr_emit hF h hb
      obtain ⟨v1, c1, c2, c3⟩ := ih q (i + 1) w _ (by omega) hq b2 (mGot_up hg (b5 37 (by decide)) (b5 38 (by decide)) (b4 26 (by decide) (by decide) (by decide)) (fun j _ => by rw [b4 6 (by decide) (by decide) (by decide)]) (Nat.le_refl _))
      refine ⟨v1, ?_, ?_, b3.tr c3⟩
      · rw [f_M_came_168, hg.1, iI_le (by omega) (by omega), if_neg (by omega), gd_I (by omega) (by omega), zI_toNat (n := i) (by omega), eb, g0, bi_s, if_neg (by decide), gd_I (by omega) (by omega), eb, b1, bv_s, f_M_came_200, ei1, nm_s]
        exact c1
      · rw [drop_c (show i < r.length by omega), List.filter_cons_of_pos cg]
        rw [List.append_assoc] at c2
        exact c2
    · have g0 : f_M_good v (zI b) = some (0, v) := by rw [m_good a2 hb, if_neg cg]
      obtain ⟨v1, c1, c2, c3⟩ := ih q (i + 1) v l (by omega) hq h hg
      refine ⟨v1, ?_, ?_, c3⟩
      · rw [f_M_came_168, hg.1, iI_le (by omega) (by omega), if_neg (by omega), gd_I (by omega) (by omega), zI_toNat (n := i) (by omega), eb, g0, bi_s, if_pos rfl, f_M_came_200, ei1, nm_s]
        exact c1
      · rw [drop_c (show i < r.length by omega), List.filter_cons_of_neg cg]
        exact c2
theorem fr_19 (hK : mKr op ar sx p2 p3 B d (F + 1)) (hF : F + 1 < 10) (h : mFr op ar sx p2 p3 B F k t vr [] s (mU []) Q v T) (h0 : v 0 21 = 0) (hp : v 17 F = zI 0) (hk : zok op ar p2 p3 (d + 1) k) (ho : op k = 19) : mFE F Q vr s 38 (zbnd (zev op ar sx p2 p3 d (k + 1) t vr s) (fun r _ s1 => if r.filter zgood = [] then zev op ar sx p2 p3 d (p2 k) t vr s1 else some (r.filter zgood, none, s1))) v T := by
  have h1 : 1 ≤ zpt (op k) := by rw [ho]; decide
  have h2 : 2 ≤ zpt (op k) := by rw [ho]; decide
  have h150 := h.2.2.2.2.2.2.1
  rw [← zapp_nil (sp := zbnd _ _)]
  refine mFE_le (fr_first1 (c := 2) hK hF h h0 hp hk h1 (by omega) (by omega) (fun v2 T2 r e s1 c1 c2 c3 c4 c5 => ?_)) (by omega) h150
  refine mFE_live c3 (fun _ h02 _ => fr_rd1 (by omega) c3 h02 c5 (cm_pre (by omega) c3 hk h1 c5) ?_)
  have h16 := c4.2.1.1
  obtain ⟨v3, b1, b2, b3⟩ := m_168 (r := r) (er := e) (by omega) r.length fu 0 v2 [] (by omega) (fu_lt (by omega)) c3 c4
  rw [ho, f_M_came, if_neg (by decide), if_neg (by decide), if_neg (by decide), if_pos (by decide), zl_0, b1, gd_I (by omega) (by omega), zI_toNat (n := F) (by omega)]
  rw [List.drop_zero, List.nil_append] at b2
  refine oc_X b3 ?_
  obtain ⟨a1, a2, a3, ⟨b, eb, hb⟩, a5, a6, a7, a8, a9, -⟩ := id b2
  have hfl : (r.filter zgood).length ≤ 16 := Nat.le_trans (List.length_filter_le _ _) h16
  have ho24 : v3 24 F = zI (r.filter zgood).length := by
    rcases a9 with ⟨_, _, q3⟩ | ⟨q1, _, _⟩
    · exact q3.1
    · omega
  rw [ho24, zapp_nil]
  by_cases cf : r.filter zgood = []
  · rw [cf, if_pos (show zI ([] : List zT).length = 0 from rfl), gd_I (by omega) (by omega), eb, bv_322, if_pos rfl]
    have := oc_ask4 hK hF hk h2 b2 hb
    rw [cf, zapp_nil] at this
    exact this
  · have hpos : 0 < (r.filter zgood).length := List.length_pos_iff.2 cf
    have e1 : ¬ zI (r.filter zgood).length = 0 := by rw [zl_0, zI_eq (by omega) (by omega)]; omega
    rw [if_neg e1, if_neg cf, bv_322]
    exact oc_le (oc_end (e := none) (by omega) b2 rfl) (by omega) a7
theorem m_lim {r : List zT} {er : Option zT} {n : Nat} (hF : F < 10) (hn : n < 10) : ∀ (m q i : Nat) (v : mS) (l : List zT), i + m = r.length → m < q → mFr op ar sx p2 p3 B F k t vr l s u Q v T → mGot v T r er → ∃ v1, f_M_limited_2 q (zI F) (zI n) (zI i) v = f_M_limited_32 (zI F) (zI n) v1 ∧ mFr op ar sx p2 p3 B F k t vr (l ++ (r.drop i).take (n - i)) s u Q v1 T ∧ mX F v T v1 T ∧ mGot v1 T r er := by
  intro m
  induction m with
  | zero =>
    intro q i v l hi hq h hg
    obtain ⟨q, rfl, -⟩ := suc_of hq
    have h16 := hg.2.1.1
    have e1 : r.drop i = [] := List.drop_eq_nil_of_le (by omega)
    refine ⟨v, ?_, by rw [e1]; simpa using h, mX.rf, hg⟩
    rw [f_M_limited_2, hg.1, iI_le (by omega) (by omega), if_pos (by omega)]
  | succ m ih =>
    intro q i v l hi hq h hg
    obtain ⟨q, rfl, hq⟩ := suc_of hq
    have hq := Nat.lt_of_succ_lt_succ hq
    have h16 := hg.2.1.1
    obtain ⟨b, eb, hb⟩ := hg.2.1.2 i (by omega)
    rw [Nat.zero_add] at eb
    by_cases cn : n ≤ i
    · refine ⟨v, ?_, by rw [show n - i = 0 by omega]; simpa using h, mX.rf, hg⟩
      rw [f_M_limited_2, hg.1, iI_le (by omega) (by omega), if_neg (by omega), iI_le (by omega) (by omega), if_pos cn]
    · obtain ⟨w, b1, b2, b3, b4, b5⟩ := mFr_emit hF h hb
      obtain ⟨v1, c1, c2, c3, c4⟩ := ih q (i + 1) w _ (by omega) hq b2 (mGot_up hg (b5 37 (by decide)) (b5 38 (by decide)) (b4 26 (by decide) (by decide) (by decide)) (fun j _ => by rw [b4 6 (by decide) (by decide) (by decide)]) (Nat.le_refl _))
      refine ⟨v1, ?_, ?_, b3.tr c3, c4⟩
      · rw [f_M_limited_2, hg.1, iI_le (by omega) (by omega), if_neg (by omega), iI_le (by omega) (by omega), if_neg cn, gd_I (by omega) (by omega), zI_toNat (by omega), eb, b1, bv_s, nm_s, zl_1, zI_add]
        exact c1
      · rw [drop_c (show i < r.length by omega), show n - i = (n - (i + 1)) + 1 by omega, List.take_succ_cons]
        rw [List.append_assoc] at c2
        exact c2
theorem fr_31 (hK : mKr op ar sx p2 p3 B d (F + 1)) (hF : F + 1 < 10) (h : mFr op ar sx p2 p3 B F k t vr [] s (mU []) Q v T) (h0 : v 0 21 = 0) (hp : v 17 F = zI 0) (hk : zok op ar p2 p3 (d + 1) k) (ho : op k = 31) : mFE F Q vr s 38 (if ar k = 0 then some ([], none, s) else zbnd (zev op ar sx p2 p3 d (k + 1) t vr s) (fun r e s1 => some (r.take (ar k).toNatClampNeg, if r.length < (ar k).toNatClampNeg then e else none, s1))) v T := by
  have h1 : 1 ≤ zpt (op k) := by rw [ho]; decide
  have h150 := h.2.2.2.2.2.2.1
  have hk32 := hk.1
  obtain ⟨n, hn, hn10⟩ := hk.2.2.1.2.2.2.2.2 ho
  obtain ⟨a1, a2, a3, -, a5, a6, a7, -⟩ := id h
  have hB := a1.1
  by_cases c0 : ar k = 0
  · rw [if_pos c0]
    obtain ⟨v1, T1, b1, b2, b3⟩ := oc_end (x := 0) (e := none) (by omega) h rfl
    refine mFE_le (mFE_rd (c := 0) (by omega) h h0 hp (by omega) ?_ b2 b3) (by omega) h150
    rw [m_step_p (by omega) h hk.1 hk.2.1 h1 hp (by omega), if_pos rfl, bv_id, ho, f_M_first, if_neg (by decide), if_neg (by decide), if_neg (by decide), f_M_first_23, if_pos (by decide), gd_I (by omega) (by omega), zI_toNat (by omega), a3, gd_I (by omega) (by omega), zI_toNat (by omega), (a1.2.1 k hk32).2, if_pos c0, b1, bv_s]
  · rw [if_neg c0, ← zapp_nil (sp := zbnd _ _)]
    refine mFE_le (fr_first1 (c := 1) hK hF h h0 hp hk h1 (by omega) (fun _ => c0) (fun v2 T2 r e s1 c1 c2 c3 c4 c5 => ?_)) (by omega) h150
    refine mFE_live c3 (fun _ h02 _ => fr_rd1 (by omega) c3 h02 c5 (cm_pre (by omega) c3 hk h1 c5) ?_)
    have h16 := c4.2.1.1
    obtain ⟨d1, d2, d3, -, d5, d6, d7, -⟩ := id c3
    obtain ⟨v3, b1, b2, b3, b4⟩ := m_lim (r := r) (er := e) (n := n) (by omega) hn10 r.length fu 0 v2 [] (by omega) (fu_lt (by omega)) c3 c4
    rw [ho, f_M_came]
    repeat rw [if_neg (by decide)]
    rw [if_pos (by decide), gd_I (by omega) (by omega), zI_toNat (by omega), d3, gd_I (by omega) (by omega), zI_toNat (by omega), (d1.2.1 k hk32).2, hn, bv_322, f_M_limited, zl_0, b1, f_M_limited_32, b4.1, iI_le (by omega) (by omega), zI_toNat (by omega)]
    rw [List.drop_zero, List.nil_append, Nat.sub_zero] at b2
    refine oc_X b3 ?_
    rw [zapp_nil]
    by_cases cl : n ≤ r.length
    · rw [if_pos cl, f_M_limited_50, bv_id, if_neg (by omega)]
      exact oc_end (e := none) (by omega) b2 rfl
    · rw [if_neg cl, f_M_limited_50, bv_id, if_pos (by omega)]
      exact oc_end (by omega) b2 b4.2.2
theorem m_aog {r : List zT} {er : Option zT} : ∀ (m q i : Nat) (v : mS), i + m = r.length → r.length ≤ 12 → m < q → mM v T → mGot v T r er → mI1 v T (i, fun k => r.getD k (zW 0)) → T + 16 ≤ 63900 → mP (f_M_arrayOfGot_16 q (zI i) v) v T 16 (zmkA r.length (fun k => r.getD k (zW 0))) := by
  intro m
  induction m with
  | zero =>
    intro q i v hi h12 hq hM hg hI hT
    obtain ⟨q, rfl, -⟩ := suc_of hq
    rw [f_M_arrayOfGot_16, hg.1, iI_le (by omega) (by omega), if_pos (by omega), bi_id (fun _ _ => by rfl)]
    exact m_array hM (by omega) (fun k hk => hI k (by simpa using (show k < i by omega))) hT
  | succ m ih =>
    intro q i v hi h12 hq hM hg hI hT
    obtain ⟨q, rfl, hq⟩ := suc_of hq
    have hq := Nat.lt_of_succ_lt_succ hq
    obtain ⟨b, eb, hb⟩ := hg.2.1.2 i (by omega)
    rw [Nat.zero_add] at eb
    have hz : ∀ j, j ≠ 10 → sU v 10 i (zI b) j = v j := fun j a => sU_j a
    have := ih q (i + 1) (sU v 10 i (zI b)) (by omega) h12 hq (mM_10 hM) (mGot_up hg (by rw [hz 0 (by omega)]) (by rw [hz 0 (by omega)]) (hz 26 (by omega)) (fun j _ => by rw [hz 6 (by omega)]) (Nat.le_refl _)) (mI1_s2 hI hb) hT
    rw [f_M_arrayOfGot_16, hg.1, iI_le (by omega) (by omega), if_neg (by omega), gd_I (by omega) (by omega), gd_I (by omega) (by omega), zI_toNat (by omega), eb, nm_s, nm_s, zl_1, zI_add]
    exact mP_E mE_10 (by rw [sU_j (by decide)]) this (by omega)
theorem m_arrayOfGot {r : List zT} {er : Option zT} (hM : mM v T) (hg : mGot v T r er) (hT : T + 16 ≤ 63900) : mP (f_M_arrayOfGot v) v T 16 (zmkA r.length (fun k => r.getD k (zW 0))) := by
  have h16 := hg.2.1.1
  have e12 : (12 : Int32) = zI 12 := rfl
  rw [f_M_arrayOfGot, hg.1, e12, iI_le (by omega) (by omega)]
  by_cases c : r.length ≤ 12
  · rw [if_pos c]
    exact m_aog r.length fu 0 v (by omega) c (fu_lt (by omega)) hM hg (fun k hk => absurd hk (by simp)) hT
  · rw [if_neg c, bi_id (fun _ _ => by rfl)]
    unfold zmkA
    rw [if_neg (by omega)]
    exact m_room hM
theorem fr_9 (hK : mKr op ar sx p2 p3 B d (F + 1)) (hF : F + 1 < 10) (h : mFr op ar sx p2 p3 B F k t vr [] s (mU []) Q v T) (h0 : v 0 21 = 0) (hp : v 17 F = zI 0) (hk : zok op ar p2 p3 (d + 1) k) (ho : op k = 9) : mFE F Q vr s 38 (zbnd (zev op ar sx p2 p3 d (k + 1) t vr s) (fun r e s1 => match e with | some y => some ([], some y, s1) | none => zgv (zmkA r.length (fun i => r.getD i (zW 0))) s1)) v T := by
  have h1 : 1 ≤ zpt (op k) := by rw [ho]; decide
  have h150 := h.2.2.2.2.2.2.1
  rw [← zapp_nil (sp := zbnd _ _)]
  refine mFE_le (fr_first1 (c := 1) hK hF h h0 hp hk h1 (by omega) (by omega) (fun v2 T2 r e s1 c1 c2 c3 c4 c5 => ?_)) (by omega) h150
  refine mFE_live c3 (fun _ h02 _ => fr_rd1 (by omega) c3 h02 c5 (cm_pre (by omega) c3 hk h1 c5) ?_)
  obtain ⟨a1, a2, a3, a4, a5, a6, a7, a8, a9, a10, a11⟩ := id c3
  have hT := a2.2.2.1
  have hmu : mU ([] : List zT) = 374 := rfl
  rw [ho, f_M_came, if_neg (by decide), if_pos (by decide), zapp_nil]
  cases e with
  | none =>
    have he : v2 0 38 = 0 := c4.2.2
    rw [he, if_pos (by decide)]
    obtain ⟨v', T', m1, m2, m3, m4⟩ := m_arrayOfGot a2 c4 (by omega)
    cases hw : zmkA r.length (fun k => r.getD k (zW 0)) with
    | none =>
      rw [hw] at m4
      have hk9 := mFr_kill (u2 := 6) c3 (by simp) m2 m1 m4.2 (by omega)
      rw [m4.1, bi_s, f_M_finish, m_emit_dead m4.2, bv_s, bv_id, bv_322]
      exact oc_X m2.X (oc_long (oc_end (e := none) (by omega) hk9 rfl) (by simp [mLg]))
    | some w =>
      rw [hw] at m4
      cases w with
      | inl e => exact absurd hw zmkA_no
      | inr z =>
        obtain ⟨b, m5, m6, m7⟩ := m4
        obtain ⟨v3, b1, b2, b3, b4, b5⟩ := mFr_emit (by omega) (mFr_E (u2 := 6) c3 m2 m1 m7 (by omega)) m6
        rw [m5, bi_s, f_M_finish, b1, bv_s, bv_id, bv_322]
        exact oc_X m2.X (oc_X b3 (oc_end (e := none) (by omega) b2 rfl))
  | some z =>
    obtain ⟨q, eq, hq⟩ := id c4.2.2
    rw [eq, if_neg (err_pos hT hq), bv_322]
    exact oc_end (e := some z) (by omega) c3 ⟨q, rfl, hq⟩
end MGG
