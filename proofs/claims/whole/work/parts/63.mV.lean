/-! the reference's machine: leaves -/
def mOc (F Q : Nat) (vr : Nat → zT) (s c : Nat) (X : Option mS) (sp : zEv) (v : mS) (T : Nat) : Prop := ∃ v1 T1, X = some v1 ∧ mX F v T v1 T1 ∧ mFE F Q vr s c sp v1 T1
theorem bv_id {X : Option mS} : (bv X fun v => some v) = X := by cases X <;> rfl
theorem bv_idf {X : Option mS} {K : mS → Option mS} (h : ∀ v, K v = some v) : bv X K = X := by
  cases X with
  | none => rfl
  | some v => exact h v
section MV
variable {op : Nat → Nat} {ar : Nat → Int32} {sx : Nat → zN} {p2 p3 : Nat → Nat} {B F k : Nat} {t y : zT} {vr vr0 : Nat → zT} {l : List zT} {s u Q : Nat} {v : mS} {T : Nat} {sp : zEv} {c d a : Nat} {X : Option mS}
theorem zmkA_no {n e : Nat} {f : Nat → zT} : ¬ zmkA n f = some (.inl e) := by
  unfold zmkA
  split <;> (intro h; cases h)
theorem zmkN_no {w : Int} {e : Nat} : ¬ zmkN w = some (.inl e) := by
  unfold zmkN
  split <;> (intro h; cases h)
theorem zsum_1 {e : Nat} (h : zsum t = some (.inl e)) : e = 1 := by
  unfold zsum at h
  split at h
  · exact zsuml_e _ _ h
  · cases h; rfl
theorem oc_X {v' : mS} {T' : Nat} (hX : mX F v T v' T') (h : mOc F Q vr s c X sp v' T') : mOc F Q vr s c X sp v T := by
  obtain ⟨v1, T1, a1, a2, a3⟩ := h
  exact ⟨v1, T1, a1, hX.tr a2, a3⟩
theorem oc_le {c' : Nat} (h : mOc F Q vr s c X sp v T) (hc : c ≤ c') (h150 : s ≤ 150) : mOc F Q vr s c' X sp v T := by
  obtain ⟨v1, T1, a1, a2, a3⟩ := h
  exact ⟨v1, T1, a1, a2, mFE_le a3 hc h150⟩
theorem oc_bv {K : mS → Option mS} (hK : ∀ v, K v = some v) (h : mOc F Q vr s c X sp v T) : mOc F Q vr s c (bv X K) sp v T := by rw [bv_idf hK]; exact h
theorem oc_end {x : Int32} {e : Option zT} (hF : F < 10) (h : mFr op ar sx p2 p3 B F k t vr l s u Q v T) (hx : mErr x v T e) : mOc F Q vr s 0 (f_M_end v (zI F) x) (some (l, e, s)) v T := by
  obtain ⟨v', a1, a2, a3⟩ := m_endL hF h hx
  exact ⟨v', T, a1, a2, a3⟩
theorem oc_err {n : Nat} (hF : F < 10) (hn : n ≤ 9) (hu : 6 ≤ u) (h : mFr op ar sx p2 p3 B F k t vr l s u Q v T) : mOc F Q vr s 0 (f_M_err v (zI F) (zI n)) (some (l, some (zQ ((n : Int) * 1000000)), s)) v T := m_errL hF hn hu h
/-- the room is out: what is left of the round is done all the same -/
def mLg : List zT := List.replicate 17 (zW 0)
theorem mFr_kill {v2 : mS} {T2 u2 : Nat} (h : mFr op ar sx p2 p3 B F k t vr l s u Q v T) (hl : l.length ≤ 16) (hE : mE v T v2 T2) (hM : mM v2 T2) (h21 : v2 0 21 = 1) (hb : T2 + u2 ≤ T + u) : mFr op ar sx p2 p3 B F k t vr mLg s u2 Q v2 T2 := by
  obtain ⟨a1, a2, a3, a4, a5, a6, a7, a8, a9, a10, a11⟩ := h
  obtain ⟨x1, x2, x3, x4⟩ := id hE
  have hz : ∀ j, (1 ≤ j ∧ j ≤ 5) ∨ 14 ≤ j → v2 j = v j := fun j a => x3 j (by omega) (by omega) (by omega) (by omega) (by omega) (by omega)
  refine ⟨mEn_up a1 (fun j _ _ => hz j (by omega)), hM, by rw [hz 15 (by omega)]; exact a3, ?_, mVr_up a5 (hz 14 (by omega)) x2 x1, by rw [x4 20 (by decide) (by decide) (by decide)]; exact a6, a7, by rw [x4 24 (by decide) (by decide) (by decide)]; exact a8, Or.inr ⟨by simp [mLg], h21, ?_⟩, by omega, a11⟩
  · obtain ⟨b, eb, hb⟩ := a4
    exact ⟨b, by rw [hz 16 (by omega)]; exact eb, zU_up hb x2 x1⟩
  · rcases a9 with ⟨b1, b2, b3⟩ | ⟨b1, b2, b3⟩
    · exact ⟨l.length, hl, by rw [hz 24 (by omega)]; exact b3.1⟩
    · omega
theorem mFE_long {r : List zT} {e : Option zT} {s1 : Nat} (h : mFE F Q vr s c (some (r, e, s1)) v T) (hr : 16 < r.length) : mFE F Q vr s c none v T := by
  obtain ⟨n, v', T', a1, a2, a3, a4⟩ := h
  dsimp only at a4
  rw [if_neg (by omega)] at a4
  exact ⟨n, v', T', a1, a2, a3, a4⟩
theorem oc_long {r : List zT} {e : Option zT} {s1 : Nat} (h : mOc F Q vr s c X (some (r, e, s1)) v T) (hr : 16 < r.length) : mOc F Q vr s c X none v T := by
  obtain ⟨v1, T1, a1, a2, a3⟩ := h
  exact ⟨v1, T1, a1, a2, mFE_long a3 hr⟩
theorem lf_434_p {x : Int32} (hx : 0 ≤ x) : f_M_leaf_434 (zI F) x v = f_M_end v (zI F) 0 := by
  rw [f_M_leaf_434, if_pos hx]
  exact bv_idf (fun v => rfl)
theorem lf_434_n {x : Int32} (hx : ¬ 0 ≤ x) : f_M_leaf_434 (zI F) x v = f_M_err v (zI F) 1 := by
  rw [f_M_leaf_434, if_neg hx]
  exact bv_idf (fun v => rfl)
theorem lf_v (hF : F < 10) (h : mFr op ar sx p2 p3 B F k t vr l s u Q v T) (ha : zU (v 6) T a y) : mOc F Q vr s 0 (f_M_leaf_422 (zI F) (zI a) v) (some (l ++ [y], none, s)) v T := by
  have hT := h.2.1.2.2.1
  obtain ⟨a0, a1, -⟩ := zU_head ha
  obtain ⟨v', b1, b2, b3, -, -⟩ := mFr_emit hF h ha
  have e1 : ¬ zI a ≤ 0 := by rw [zl_0, zI_le (by omega) (by omega)]; omega
  have e2 : 0 ≤ zI a := by rw [zl_0, zI_le (by omega) (by omega)]; omega
  rw [f_M_leaf_422, if_neg e1, b1, bv_s, lf_434_p e2]
  exact oc_X b3 (oc_end hF b2 (e := none) rfl)
theorem lf_0 (hF : F < 10) (h : mFr op ar sx p2 p3 B F k t vr l s u Q v T) : mOc F Q vr s 0 (f_M_leaf_422 (zI F) 0 v) (some (l, none, s)) v T := by
  rw [f_M_leaf_422, if_pos (by decide), lf_434_p (by decide)]
  exact oc_end hF h (e := none) rfl
theorem lf_e (hF : F < 10) (hu : 6 ≤ u) (h : mFr op ar sx p2 p3 B F k t vr l s u Q v T) : mOc F Q vr s 0 (f_M_leaf_422 (zI F) (-1) v) (some (l, some (zQ 1000000), s)) v T := by
  rw [f_M_leaf_422, if_pos (by decide), lf_434_n (by decide)]
  exact oc_err (n := 1) hF (by omega) hu h
theorem lf_dead {x : Int32} (hF : F < 10) (hu : 6 ≤ u) (h : mFr op ar sx p2 p3 B F k t vr mLg s u Q v T) : mOc F Q vr s 0 (f_M_leaf_422 (zI F) x v) none v T := by
  have h1 : v 0 21 = 1 := by
    rcases h.2.2.2.2.2.2.2.2.1 with ⟨b1, b2, b3⟩ | ⟨b1, b2, b3⟩
    · simp [mLg] at b1
    · exact b2
  have e1 : f_M_leaf_422 (zI F) x v = f_M_leaf_434 (zI F) x v := by
    rw [f_M_leaf_422, m_emit_dead h1, bv_s]
    split <;> rfl
  rw [e1]
  by_cases c : 0 ≤ x
  · rw [lf_434_p c]
    exact oc_long (oc_end hF h (e := none) rfl) (by simp [mLg])
  · rw [lf_434_n c]
    exact oc_long (oc_err (n := 1) hF (by omega) hu h) (by simp [mLg])
theorem lf_P {Y : Option (Int32 × mS)} {K : Int32 → mS → Option mS} {w : Option (Nat ⊕ zT)} (hF : F < 10) (h : mFr op ar sx p2 p3 B F k t vr l s u Q v T) (hl : l.length ≤ 16) (hY : mPw Y v T c w) (hc : c + 6 ≤ u) (hK : ∀ x v, K x v = f_M_leaf_422 (zI F) x v) (hq : ∀ e, w = some (.inl e) → e = 1) : mOc F Q vr s 0 (bi Y K) (zapp l (zgv w s)) v T := by
  obtain ⟨v', T', a1, a2, a3, a4⟩ := hY
  cases w with
  | none =>
    obtain ⟨⟨x, a5⟩, a6⟩ := a4
    rw [a5, bi_s, hK]
    exact oc_X a2.X (lf_dead hF (u := 6) (by omega) (mFr_kill h hl a2 a1 a6 (by omega)))
  | some w =>
    cases w with
    | inl e =>
      have := hq e rfl
      subst this
      obtain ⟨a5, a6⟩ := a4
      rw [a5, bi_s, hK, show zJ (-((1 : Nat) : Int)) = -1 from rfl]
      have := oc_X a2.X (lf_e hF (u := 6) (by omega) (mFr_E h a2 a1 a6 (by omega)))
      simpa [zgv, zapp] using this
    | inr y =>
      obtain ⟨b, a5, a6, a7⟩ := a4
      rw [a5, bi_s, hK]
      exact oc_X a2.X (lf_v hF (mFr_E (u2 := 6) h a2 a1 a7 (by omega)) a6)
theorem mP_w {Y : Option (Int32 × mS)} {w : Option (Nat ⊕ zT)} (h : mP Y v T c w) : mPw Y v T c w := by
  obtain ⟨v', T', a1, a2, a3, a4⟩ := h
  refine ⟨v', T', a1, a2, a3, ?_⟩
  cases w with
  | none => exact ⟨⟨_, a4.1⟩, a4.2⟩
  | some w => exact a4
theorem lf_o0 (hF : F < 10) (hk : k < 32) (h : mFr op ar sx p2 p3 B F k t vr l s u Q v T) (hl : l.length ≤ 16) (hu : 374 ≤ u + 22) (ho : op k = 0) : mOc F Q vr s 0 (f_M_leaf v (zI F) (zI (op k))) (zapp l (some ([t], none, s))) v T := by
  obtain ⟨a1, a2, a3, ⟨b, eb, hb⟩, a5, a6, a7, a8, a9, a10, a11⟩ := id h
  have hB := a1.1
  have hkk := hb.2.1
  rw [f_M_leaf, gd_I hF (by omega), zI_toNat (by omega), eb, nm_s, gd_I hF (by omega), a3, gd_I (by omega) (by omega), zI_toNat (by omega), (a1.2.1 k hk).2, nm_s, m_kind a2 hb, bi_s, ho]
  repeat rw [if_neg (by decide)]
  rw [if_pos (by decide)]
  exact lf_v hF h hb
theorem m_fieldK {x : zN} {b e : Nat} {K : Int32 → mS → Option mS} (hF : F < 10) (h : mFr op ar sx p2 p3 B F k t vr l s u Q v T) (hb : zU (v 6) T b y) (hx : zRY (v 6) T e x) (hx2 : ztx x) (hK0 : ∀ z, zfld y x = .inl 1 → z = K 0 v → mOc F Q vr0 s c z sp v T) (hK1 : ∀ z v', zfld y x = .inr z → mFr op ar sx p2 p3 B F k t vr (l ++ [z]) s u Q v' T → mX F v T v' T → (∀ j, j ≠ 0 → j ≠ 24 → j ≠ 25 → v' j = v j) → (∀ k, k ≠ 21 → v' 0 k = v 0 k) → mOc F Q vr0 s c (K 1 v') sp v' T) : mOc F Q vr0 s c (bi (f_M_field v (zI F) (zI b) (zI e)) K) sp v T := by
  obtain ⟨a1, a2, -⟩ := id h
  have hkk := hb.2.1
  have hem : ∀ z q, zfld y x = .inr z → zU (v 6) T q z → mOc F Q vr0 s c (bi (f_M_field_60 (zI F) (zI q) v) K) sp v T := by
    intro z q hz hq
    obtain ⟨v', b1, b2, b3, b4, b5⟩ := mFr_emit hF h hq
    rw [f_M_field_60, b1, bv_s, bi_s]
    exact oc_X b3 (hK1 z v' hz b2 b3 b4 b5)
  have hN : zU (v 6) T 4 (zW 0) := mM_W a2 (k := 0) (by omega)
  have e4 : (4 : Int32) = zI 4 := rfl
  have h20 : zk y = 0 ∨ zk y = 6 → mOc F Q vr0 s c (bi (f_M_field_20 (zI F) (zI b) (zI e) v) K) sp v T := by
    intro hy
    rw [f_M_field_20, m_kind a2 hb, bi_s, zl_6, iI_eq (by omega) (by omega)]
    by_cases c6 : zk y = 6
    · rw [if_pos c6, m_member a2 hb c6 hx hx2, bi_s, f_M_field_40]
      cases hm : zmem y x (zl y) 0 with
      | none =>
        dsimp only
        rw [if_neg (by decide), e4]
        exact hem (zW 0) 4 (by unfold zfld; rw [if_neg (by omega), if_pos c6, hm]) hN
      | some i =>
        dsimp only
        have hi := zmem_lt (zl y) 0 hm
        have lt := zwf_l hb.2
        obtain ⟨p, ep, hp⟩ := m_item a2 hb (by omega) (show i < zl y by omega)
        rw [if_pos (by rw [zl_0, zI_le (by omega) (by omega)]; omega), ep, bi_s]
        exact hem (zc y i) p (by unfold zfld; rw [if_neg (by omega), if_pos c6, hm]) hp
    · rw [if_neg c6, f_M_field_40, if_neg (by decide), e4]
      exact hem (zW 0) 4 (by unfold zfld; rw [if_pos (by omega)]) hN
  rw [f_M_field, m_kind a2 hb, bi_s, zl_0, iI_eq (by omega) (by omega)]
  by_cases c0 : zk y = 0
  · rw [if_pos c0]
    exact h20 (Or.inl c0)
  · rw [if_neg c0, m_kind a2 hb, bi_s, zl_6, iI_eq (by omega) (by omega)]
    by_cases c6 : zk y = 6
    · rw [if_pos c6]
      exact h20 (Or.inr c6)
    · rw [if_neg c6]
      exact hK0 _ (by unfold zfld; rw [if_neg c0, if_neg c6]) rfl
theorem lf_o1 (hF : F < 10) (hk : k < 32) (h : mFr op ar sx p2 p3 B F k t vr l s u Q v T) (hl : l.length ≤ 16) (hu : 374 ≤ u + 22) (ha : ∃ i, ar k = zI i ∧ i < 8) (ho : op k = 1) : mOc F Q vr s 0 (f_M_leaf v (zI F) (zI (op k))) (zapp l (zgv (some (zfld t (sx (ar k).toNatClampNeg))) s)) v T := by
  obtain ⟨a1, a2, a3, ⟨b, eb, hb⟩, a5, a6, a7, a8, a9, a10, a11⟩ := id h
  have hB := a1.1
  have hkk := hb.2.1
  rw [f_M_leaf, gd_I hF (by omega), zI_toNat (by omega), eb, nm_s, gd_I hF (by omega), a3, gd_I (by omega) (by omega), zI_toNat (by omega), (a1.2.1 k hk).2, nm_s, m_kind a2 hb, bi_s, ho]
  repeat rw [if_neg (by decide)]
  rw [if_pos (by decide)]
  obtain ⟨i, hi, hi8⟩ := ha
  rw [hi, zI_toNat (by omega)]
  obtain ⟨v1, T1, b1, b2, b3, b4, b5, b6, b7⟩ := m_string a2 a1.2.2.1 hi8 (by omega)
  rw [b1, bi_s]
  have h1 := mFr_E (u2 := u - 16) h b3 b2 b7 (by omega)
  refine oc_X b3.X (m_fieldK hF h1 (b3.U hb) b5 b6 (fun z hz e => ?_) (fun z v' hz h2 _ _ _ => ?_))
  · rw [e, if_pos rfl, f_M_leaf_194, hz]
    simpa [zgv, zapp] using lf_e hF (by omega) h1
  · rw [if_neg (by decide), f_M_leaf_194, hz]
    exact lf_0 hF h2
theorem m_each_l {e : Nat} (hF : F < 10) (h5 : 5 ≤ zk y) : ∀ (m q i : Nat) (v : mS) (l : List zT), mFr op ar sx p2 p3 B F k t vr l s u Q v T → zU (v 6) T e y → i + m = zl y → m < q → ∃ v', f_M_each_13 q (zI F) (zI e) (zI i) v = some (1, v') ∧ mX F v T v' T ∧ mFr op ar sx p2 p3 B F k t vr (l ++ (List.range' i m).map (zc y)) s u Q v' T := by
  intro m
  induction m with
  | zero =>
    intro q i v l h hb hi hq
    obtain ⟨q, rfl, -⟩ := suc_of hq
    have lt := zwf_l hb.2
    refine ⟨v, ?_, mX.rf, by simpa using h⟩
    rw [f_M_each_13, m_size h.2.1 hb, bi_s, iI_le (by omega) (by omega), if_pos (by omega)]
  | succ m ih =>
    intro q i v l h hb hi hq
    obtain ⟨q, rfl, hq⟩ := suc_of hq
    have hq := Nat.lt_of_succ_lt_succ hq
    have lt := zwf_l hb.2
    obtain ⟨p, ep, hp⟩ := m_item h.2.1 hb h5 (show i < zl y by omega)
    obtain ⟨v1, b1, b2, b3, b4, b5⟩ := mFr_emit hF h hp
    obtain ⟨v', c1, c2, c3⟩ := ih q (i + 1) v1 _ b2 (b3.U hb) (by omega) hq
    refine ⟨v', ?_, b3.tr c2, ?_⟩
    · rw [f_M_each_13, m_size h.2.1 hb, bi_s, iI_le (by omega) (by omega), if_neg (by omega), ep, bi_s, b1, bv_s, nm_s, zl_1, zI_add]
      exact c1
    · rw [List.append_assoc] at c3
      exact c3
theorem lf_o3 (hF : F < 10) (hk : k < 32) (h : mFr op ar sx p2 p3 B F k t vr l s u Q v T) (hl : l.length ≤ 16) (hu : 374 ≤ u + 22) (ho : op k = 3) : mOc F Q vr s 0 (f_M_leaf v (zI F) (zI (op k))) (zapp l (if zk t < 5 then zgv (some (.inl 1)) s else some ((List.range (zl t)).map (zc t), none, s))) v T := by
  obtain ⟨a1, a2, a3, ⟨b, eb, hb⟩, a5, a6, a7, a8, a9, a10, a11⟩ := id h
  have hB := a1.1
  have hkk := hb.2.1
  rw [f_M_leaf, gd_I hF (by omega), zI_toNat (by omega), eb, nm_s, gd_I hF (by omega), a3, gd_I (by omega) (by omega), zI_toNat (by omega), (a1.2.1 k hk).2, nm_s, m_kind a2 hb, bi_s, ho]
  repeat rw [if_neg (by decide)]
  rw [if_pos (by decide)]
  have lt := zwf_l hb.2
  rw [f_M_each, m_kind a2 hb, bi_s, zl_5, iI_le (by omega) (by omega)]
  by_cases c : 5 ≤ zk t
  · obtain ⟨v', c1, c2, c3⟩ := m_each_l hF c (zl t) fu 0 v l h hb (by omega) (fu_lt (by omega))
    rw [if_pos c, zl_0, c1, bi_s, if_neg (by decide), if_neg (by omega), List.range_eq_range']
    exact oc_X c2 (lf_0 hF c3)
  · rw [if_neg c, bi_s, if_pos rfl, if_pos (by omega), f_M_leaf_213]
    simpa [zgv, zapp] using lf_e hF (by omega) h
theorem lf_o6 (hF : F < 10) (hk : k < 32) (h : mFr op ar sx p2 p3 B F k t vr l s u Q v T) (hl : l.length ≤ 16) (hu : 374 ≤ u + 22) (ho : op k = 6) : mOc F Q vr s 0 (f_M_leaf v (zI F) (zI (op k))) (zapp l (zgv (zmkN ((ar k).toInt * 1000)) s)) v T := by
  obtain ⟨a1, a2, a3, ⟨b, eb, hb⟩, a5, a6, a7, a8, a9, a10, a11⟩ := id h
  have hB := a1.1
  have hkk := hb.2.1
  rw [f_M_leaf, gd_I hF (by omega), zI_toNat (by omega), eb, nm_s, gd_I hF (by omega), a3, gd_I (by omega) (by omega), zI_toNat (by omega), (a1.2.1 k hk).2, nm_s, m_kind a2 hb, bi_s, ho]
  repeat rw [if_neg (by decide)]
  rw [if_pos (by decide)]
  have e1 : (ar k).toInt64 * 1000 = zK ((ar k).toInt * 1000) := by
    rw [z64, zkl_3, zK_mul]
  have b1 := Int32.le_toInt (ar k)
  have b2 := Int32.toInt_lt (ar k)
  rw [e1]
  exact lf_P (c := 6) hF h hl (mP_w (m_decimal a2 (by omega) (by omega) (by omega))) (by omega) (fun _ _ => rfl) (fun e he => absurd he zmkN_no)
theorem lf_o7 (hF : F < 10) (hk : k < 32) (h : mFr op ar sx p2 p3 B F k t vr l s u Q v T) (hl : l.length ≤ 16) (hu : 374 ≤ u + 22) (ha : ∃ i, ar k = zI i ∧ i < 8) (ho : op k = 7) : mOc F Q vr s 0 (f_M_leaf v (zI F) (zI (op k))) (zapp l (some ([zX (sx (ar k).toNatClampNeg)], none, s))) v T := by
  obtain ⟨a1, a2, a3, ⟨b, eb, hb⟩, a5, a6, a7, a8, a9, a10, a11⟩ := id h
  have hB := a1.1
  have hkk := hb.2.1
  rw [f_M_leaf, gd_I hF (by omega), zI_toNat (by omega), eb, nm_s, gd_I hF (by omega), a3, gd_I (by omega) (by omega), zI_toNat (by omega), (a1.2.1 k hk).2, nm_s, m_kind a2 hb, bi_s, ho]
  repeat rw [if_neg (by decide)]
  rw [if_pos (by decide)]
  obtain ⟨i, hi, hi8⟩ := ha
  rw [hi, zI_toNat (by omega)]
  obtain ⟨v1, T1, b1, b2, b3, b4, b5, b6, b7⟩ := m_string a2 a1.2.2.1 hi8 (by omega)
  rw [b1, bi_s]
  exact oc_X b3.X (lf_v hF (mFr_E (u2 := u - 16) h b3 b2 b7 (by omega)) (zU_Y b5 b6))
theorem lf_o8 (hF : F < 10) (hk : k < 32) (h : mFr op ar sx p2 p3 B F k t vr l s u Q v T) (hl : l.length ≤ 16) (hu : 374 ≤ u + 22) (ha : ∃ i, ar k = zI i ∧ i < 3) (ho : op k = 8) : mOc F Q vr s 0 (f_M_leaf v (zI F) (zI (op k))) (zapp l (some ([zW (ar k).toNatClampNeg], none, s))) v T := by
  obtain ⟨a1, a2, a3, ⟨b, eb, hb⟩, a5, a6, a7, a8, a9, a10, a11⟩ := id h
  have hB := a1.1
  have hkk := hb.2.1
  rw [f_M_leaf, gd_I hF (by omega), zI_toNat (by omega), eb, nm_s, gd_I hF (by omega), a3, gd_I (by omega) (by omega), zI_toNat (by omega), (a1.2.1 k hk).2, nm_s, m_kind a2 hb, bi_s, ho]
  repeat rw [if_neg (by decide)]
  rw [if_pos (by decide)]
  obtain ⟨i, hi, hi3⟩ := ha
  have e4 : (4 : Int32) = zI (4 + 4 * 0) := rfl
  have e8 : (8 : Int32) = zI (4 + 4 * 1) := rfl
  have e12 : (12 : Int32) = zI (4 + 4 * 2) := rfl
  rw [hi, zI_toNat (by omega)]
  match i, hi3 with
  | 0, _ => rw [if_pos (by decide), f_M_leaf_267, e4]; exact lf_v hF h (mM_W a2 (by omega))
  | 1, _ => rw [if_neg (by decide), if_pos (by decide), f_M_leaf_267, e8]; exact lf_v hF h (mM_W a2 (by omega))
  | 2, _ => rw [if_neg (by decide), if_neg (by decide), f_M_leaf_267, e12]; exact lf_v hF h (mM_W a2 (by omega))
  | n + 3, h9 => omega
theorem lf_o10 (hF : F < 10) (hk : k < 32) (h : mFr op ar sx p2 p3 B F k t vr l s u Q v T) (hl : l.length ≤ 16) (hu : 374 ≤ u + 22) (ho : op k = 10) : mOc F Q vr s 0 (f_M_leaf v (zI F) (zI (op k))) (zapp l (zgv (zmkA 0 (fun _ => zW 0)) s)) v T := by
  obtain ⟨a1, a2, a3, ⟨b, eb, hb⟩, a5, a6, a7, a8, a9, a10, a11⟩ := id h
  have hB := a1.1
  have hkk := hb.2.1
  rw [f_M_leaf, gd_I hF (by omega), zI_toNat (by omega), eb, nm_s, gd_I hF (by omega), a3, gd_I (by omega) (by omega), zI_toNat (by omega), (a1.2.1 k hk).2, nm_s, m_kind a2 hb, bi_s, ho]
  repeat rw [if_neg (by decide)]
  rw [if_pos (by decide)]
  exact lf_P (c := 16) hF h hl (mP_w (m_array a2 (n := 0) (by omega) (fun k hk => absurd hk (by omega)) (by omega))) (by omega) (fun _ _ => rfl) (fun e he => by exact absurd he zmkA_no)
theorem lf_o16 (hF : F < 10) (hk : k < 32) (h : mFr op ar sx p2 p3 B F k t vr l s u Q v T) (hl : l.length ≤ 16) (hu : 374 ≤ u + 22) (ho : op k = 16) : mOc F Q vr s 0 (f_M_leaf v (zI F) (zI (op k))) (zapp l (some ([ztr (!zgood t)], none, s))) v T := by
  obtain ⟨a1, a2, a3, ⟨b, eb, hb⟩, a5, a6, a7, a8, a9, a10, a11⟩ := id h
  have hB := a1.1
  have hkk := hb.2.1
  rw [f_M_leaf, gd_I hF (by omega), zI_toNat (by omega), eb, nm_s, gd_I hF (by omega), a3, gd_I (by omega) (by omega), zI_toNat (by omega), (a1.2.1 k hk).2, nm_s, m_kind a2 hb, bi_s, ho]
  repeat rw [if_neg (by decide)]
  rw [if_pos (by decide)]
  have e8 : (8 : Int32) = zI (4 + 4 * 1) := rfl
  have e12 : (12 : Int32) = zI (4 + 4 * 2) := rfl
  rw [m_good a2 hb, bi_s]
  by_cases c : zgood t = true
  · rw [if_pos c, if_neg (by decide), f_M_leaf_297, e8, c]
    exact lf_v hF h (mM_W a2 (by omega))
  · rw [if_neg c, if_pos rfl, f_M_leaf_297, e12, show zgood t = false by simpa using c]
    exact lf_v hF h (mM_W a2 (by omega))
theorem lf_o21 (hF : F < 10) (hk : k < 32) (h : mFr op ar sx p2 p3 B F k t vr l s u Q v T) (hl : l.length ≤ 16) (hu : 374 ≤ u + 22) (ha : ∃ i, ar k = zI i ∧ i < 4) (ho : op k = 21) : mOc F Q vr s 0 (f_M_leaf v (zI F) (zI (op k))) (zapp l (some ([vr (ar k).toNatClampNeg], none, s))) v T := by
  obtain ⟨a1, a2, a3, ⟨b, eb, hb⟩, a5, a6, a7, a8, a9, a10, a11⟩ := id h
  have hB := a1.1
  have hkk := hb.2.1
  rw [f_M_leaf, gd_I hF (by omega), zI_toNat (by omega), eb, nm_s, gd_I hF (by omega), a3, gd_I (by omega) (by omega), zI_toNat (by omega), (a1.2.1 k hk).2, nm_s, m_kind a2 hb, bi_s, ho]
  repeat rw [if_neg (by decide)]
  rw [if_pos (by decide)]
  obtain ⟨i, hi, hi4⟩ := ha
  obtain ⟨p, ep, hp⟩ := a5 i hi4
  rw [hi, gd_I hi4 (by omega), nm_s, zI_toNat (by omega), ep]
  exact lf_v hF h hp
theorem lf_o23 (hF : F < 10) (hk : k < 32) (h : mFr op ar sx p2 p3 B F k t vr l s u Q v T) (hl : l.length ≤ 16) (hu : 374 ≤ u + 22) (ho : op k = 23) : mOc F Q vr s 0 (f_M_leaf v (zI F) (zI (op k))) (zapp l (zgv (zlen t) s)) v T := by
  obtain ⟨a1, a2, a3, ⟨b, eb, hb⟩, a5, a6, a7, a8, a9, a10, a11⟩ := id h
  have hB := a1.1
  have hkk := hb.2.1
  rw [f_M_leaf, gd_I hF (by omega), zI_toNat (by omega), eb, nm_s, gd_I hF (by omega), a3, gd_I (by omega) (by omega), zI_toNat (by omega), (a1.2.1 k hk).2, nm_s, m_kind a2 hb, bi_s, ho]
  repeat rw [if_neg (by decide)]
  rw [if_pos (by decide)]
  exact lf_P (c := 16) hF h hl (mP_w (m_measure a2 hb (by omega))) (by omega) (fun _ _ => rfl) (fun e he => by
    unfold zlen at he
    split at he
    · cases he; rfl
    · split at he
      · exact absurd he (zmkN_no)
      · cases he)
theorem lf_o24 (hF : F < 10) (hk : k < 32) (h : mFr op ar sx p2 p3 B F k t vr l s u Q v T) (hl : l.length ≤ 16) (hu : 374 ≤ u + 22) (ho : op k = 24) : mOc F Q vr s 0 (f_M_leaf v (zI F) (zI (op k))) (zapp l (zgv (zkeys t) s)) v T := by
  obtain ⟨a1, a2, a3, ⟨b, eb, hb⟩, a5, a6, a7, a8, a9, a10, a11⟩ := id h
  have hB := a1.1
  have hkk := hb.2.1
  rw [f_M_leaf, gd_I hF (by omega), zI_toNat (by omega), eb, nm_s, gd_I hF (by omega), a3, gd_I (by omega) (by omega), zI_toNat (by omega), (a1.2.1 k hk).2, nm_s, m_kind a2 hb, bi_s, ho]
  repeat rw [if_neg (by decide)]
  rw [if_pos (by decide)]
  exact lf_P (c := 88) hF h hl (mP_w (m_keys a2 hb (by omega))) (by omega) (fun _ _ => rfl) (fun e he => by
    unfold zkeys at he
    split at he
    · cases he; rfl
    · exact absurd he zmkA_no)
theorem lf_o25 (hF : F < 10) (hk : k < 32) (h : mFr op ar sx p2 p3 B F k t vr l s u Q v T) (hl : l.length ≤ 16) (hu : 374 ≤ u + 22) (ho : op k = 25) : mOc F Q vr s 0 (f_M_leaf v (zI F) (zI (op k))) (zapp l (some ([], none, s))) v T := by
  obtain ⟨a1, a2, a3, ⟨b, eb, hb⟩, a5, a6, a7, a8, a9, a10, a11⟩ := id h
  have hB := a1.1
  have hkk := hb.2.1
  rw [f_M_leaf, gd_I hF (by omega), zI_toNat (by omega), eb, nm_s, gd_I hF (by omega), a3, gd_I (by omega) (by omega), zI_toNat (by omega), (a1.2.1 k hk).2, nm_s, m_kind a2 hb, bi_s, ho]
  repeat rw [if_neg (by decide)]
  rw [if_pos (by decide)]
  have := lf_0 hF h
  simpa [zapp] using this
theorem lf_o26 (hF : F < 10) (hk : k < 32) (h : mFr op ar sx p2 p3 B F k t vr l s u Q v T) (hl : l.length ≤ 16) (hu : 374 ≤ u + 22) (ho : op k = 26) : mOc F Q vr s 0 (f_M_leaf v (zI F) (zI (op k))) (zapp l (some ([], some t, s))) v T := by
  obtain ⟨a1, a2, a3, ⟨b, eb, hb⟩, a5, a6, a7, a8, a9, a10, a11⟩ := id h
  have hB := a1.1
  have hkk := hb.2.1
  rw [f_M_leaf, gd_I hF (by omega), zI_toNat (by omega), eb, nm_s, gd_I hF (by omega), a3, gd_I (by omega) (by omega), zI_toNat (by omega), (a1.2.1 k hk).2, nm_s, m_kind a2 hb, bi_s, ho]
  repeat rw [if_neg (by decide)]
  rw [if_pos (by decide)]
  rw [bv_idf (fun v => rfl)]
  have := oc_end (x := zI b) (e := some t) hF h ⟨b, rfl, hb⟩
  simpa [zapp] using this
theorem lf_o27 (hF : F < 10) (hk : k < 32) (h : mFr op ar sx p2 p3 B F k t vr l s u Q v T) (hl : l.length ≤ 16) (hu : 374 ≤ u + 22) (ho : op k = 27) : mOc F Q vr s 0 (f_M_leaf v (zI F) (zI (op k))) (zapp l (zgv (zsort t) s)) v T := by
  obtain ⟨a1, a2, a3, ⟨b, eb, hb⟩, a5, a6, a7, a8, a9, a10, a11⟩ := id h
  have hB := a1.1
  have hkk := hb.2.1
  rw [f_M_leaf, gd_I hF (by omega), zI_toNat (by omega), eb, nm_s, gd_I hF (by omega), a3, gd_I (by omega) (by omega), zI_toNat (by omega), (a1.2.1 k hk).2, nm_s, m_kind a2 hb, bi_s, ho]
  repeat rw [if_neg (by decide)]
  rw [if_pos (by decide)]
  rw [zl_5, iI_eq (by omega) (by omega)]
  by_cases c : zk t = 5
  · rw [if_pos c]
    exact lf_P (c := 16) hF h hl (mP_w (m_sorted a2 hb c (by omega))) (by omega) (fun _ _ => rfl) (fun e he => by
      unfold zsort at he
      rw [if_pos c] at he
      exact absurd he zmkA_no)
  · rw [if_neg c, f_M_leaf_362]
    unfold zsort
    rw [if_neg c]
    simpa [zgv, zapp] using lf_e hF (by omega) h
theorem lf_o28 (hF : F < 10) (hk : k < 32) (h : mFr op ar sx p2 p3 B F k t vr l s u Q v T) (hl : l.length ≤ 16) (hu : 374 ≤ u + 22) (ho : op k = 28) : mOc F Q vr s 0 (f_M_leaf v (zI F) (zI (op k))) (zapp l (zgv (zsum t) s)) v T := by
  obtain ⟨a1, a2, a3, ⟨b, eb, hb⟩, a5, a6, a7, a8, a9, a10, a11⟩ := id h
  have hB := a1.1
  have hkk := hb.2.1
  rw [f_M_leaf, gd_I hF (by omega), zI_toNat (by omega), eb, nm_s, gd_I hF (by omega), a3, gd_I (by omega) (by omega), zI_toNat (by omega), (a1.2.1 k hk).2, nm_s, m_kind a2 hb, bi_s, ho]
  repeat rw [if_neg (by decide)]
  rw [if_pos (by decide)]
  rw [zl_5, iI_eq (by omega) (by omega)]
  by_cases c : zk t = 5
  · rw [if_pos c]
    exact lf_P (c := 192) hF h hl (m_summed a2 hb c (by omega)) (by omega) (fun _ _ => rfl) (fun e he => zsum_1 he)
  · rw [if_neg c, f_M_leaf_382]
    unfold zsum
    rw [if_neg c]
    simpa [zgv, zapp] using lf_e hF (by omega) h
theorem lf_o34 (hF : F < 10) (hk : k < 32) (h : mFr op ar sx p2 p3 B F k t vr l s u Q v T) (hl : l.length ≤ 16) (hu : 374 ≤ u + 22) (ho : op k = 34) : mOc F Q vr s 0 (f_M_leaf v (zI F) (zI (op k))) (zapp l (zgv (zflr t) s)) v T := by
  obtain ⟨a1, a2, a3, ⟨b, eb, hb⟩, a5, a6, a7, a8, a9, a10, a11⟩ := id h
  have hB := a1.1
  have hkk := hb.2.1
  rw [f_M_leaf, gd_I hF (by omega), zI_toNat (by omega), eb, nm_s, gd_I hF (by omega), a3, gd_I (by omega) (by omega), zI_toNat (by omega), (a1.2.1 k hk).2, nm_s, m_kind a2 hb, bi_s, ho]
  repeat rw [if_neg (by decide)]
  rw [f_M_leaf_398, zl_3, iI_eq (by omega) (by omega)]
  by_cases c : zk t = 3
  · have hz := (hb.2.2.2.2.2.2.1 c)
    have hzb := zok_b hz
    have e1 : zflr t = zmkN (zv t / 1000000 * 1000000) := by unfold zflr; rw [if_pos c]
    rw [if_pos c, m_num a2 hb c, bi_s, m_floor (by omega) (by omega), bi_s, e1]
    exact lf_P (c := 6) hF h hl (mP_w (m_whole a2 (by omega) (by omega) (by omega))) (by omega) (fun _ _ => rfl) (fun e he => absurd he zmkN_no)
  · rw [if_neg c, f_M_leaf_420]
    unfold zflr
    rw [if_neg c]
    simpa [zgv, zapp] using lf_e hF (by omega) h
end MV
