/-! the class's Values, read: what its methods that neither throw nor make answer of trees -/
def zB (c : Nat → Int32) : Prop := (∀ k, k < 3 → zV c 118 (4 * k) (zW k)) ∧ zRX c 118 12 (0, fun _ => 0) ∧ ∀ k, k ≤ 16 → zV c 118 (16 + 6 * k) (zQ ((k : Int) * 1000000))
def zM (g : Nat → Nat) (v : mS) (T : Nat) : Prop := v 1 4 = zI T ∧ 118 ≤ T ∧ T ≤ g 4 ∧ T ≤ 65000 ∧ g 4 ≤ 130000 ∧ zB (v 4)
section CV
variable {g : Nat → Nat} {v : mS} {T a b : Nat} {t u : zT}
theorem zM_W (hM : zM g v T) {k : Nat} (hk : k < 3) : zV (v 4) T (4 * k) (zW k) := zV_up (hM.2.2.2.2.2.1 k hk) (fun _ _ => rfl) hM.2.1
theorem zM_Q (hM : zM g v T) {k : Nat} (hk : k ≤ 16) : zV (v 4) T (16 + 6 * k) (zQ ((k : Int) * 1000000)) := zV_up (hM.2.2.2.2.2.2.2 k hk) (fun _ _ => rfl) hM.2.1
theorem c_kind (hM : zM g v T) (h : zV (v 4) T a t) : f_V_kindOf g v (zI a) = some (zI (zk t), v) := by
  obtain ⟨m1, m2, m3, m4, m5, -⟩ := hM
  obtain ⟨h1, h2, h3, h4, h5⟩ := zV_head h
  simp (disch := omega) only [f_V_kindOf, gd_I, zI_toNat, h2]
theorem c_len (hM : zM g v T) (h : zV (v 4) T a t) : f_V_lengthOf g v (zI a) = some (zI (zl t), v) := by
  obtain ⟨m1, m2, m3, m4, m5, -⟩ := hM
  obtain ⟨h1, h2, h3, h4, h5⟩ := zV_head h
  simp (disch := omega) only [f_V_lengthOf, zl_1, zI_add, gd_I, zI_toNat, h3]
theorem c_size (hM : zM g v T) (h : zV (v 4) T a t) : f_V_sizeOf g v (zI a) = some (zI (zs t), v) := by
  obtain ⟨m1, m2, m3, m4, m5, -⟩ := hM
  obtain ⟨h1, h2, h3, h4, h5⟩ := zV_head h
  simp (disch := omega) only [f_V_sizeOf, zl_2, zI_add, gd_I, zI_toNat, h4]
theorem c_lenX {x : zN} (hM : zM g v T) (h : zRX (v 4) T a x) : f_V_lengthOf g v (zI a) = some (zI x.1, v) := by
  obtain ⟨m1, m2, m3, m4, m5, -⟩ := hM
  obtain ⟨h1, h2, h3, h4, h5, h6, h7⟩ := h
  simp (disch := omega) only [f_V_lengthOf, zl_1, zI_add, gd_I, zI_toNat, h3]
theorem c_kindX {x : zN} (hM : zM g v T) (h : zRX (v 4) T a x) : f_V_kindOf g v (zI a) = some (zI 4, v) := by
  obtain ⟨m1, m2, m3, m4, m5, -⟩ := hM
  obtain ⟨h1, h2, h3, h4, h5, h6, h7⟩ := h
  simp (disch := omega) only [f_V_kindOf, gd_I, zI_toNat, h2]
theorem c_let {x : zN} (hM : zM g v T) (h : zRX (v 4) T a x) {k : Nat} (hk : k < x.1) : f_V_letterAt g v (zI a) (zI k) = some (zI (x.2 k), v) := by
  obtain ⟨m1, m2, m3, m4, m5, -⟩ := hM
  obtain ⟨h1, h2, h3, h4, h5, h6, h7⟩ := h
  simp (disch := omega) only [f_V_letterAt, zl_4, zI_add, gd_I, zI_toNat, h6 k hk]
theorem c_item0 (hM : zM g v T) {k : Nat} (hk : a + 4 + k < T) : f_V_itemAt g v (zI a) (zI k) = some (v 4 (a + 4 + k), v) := by
  obtain ⟨m1, m2, m3, m4, m5, -⟩ := hM
  simp (disch := omega) only [f_V_itemAt, zl_4, zI_add, gd_I, zI_toNat]
theorem c_item (hM : zM g v T) (h : zV (v 4) T a t) (h5 : 5 ≤ zk t) {k : Nat} (hk : k < zl t) : ∃ b, f_V_itemAt g v (zI a) (zI k) = some (zI b, v) ∧ zV (v 4) T b (zc t k) := by
  obtain ⟨b, e, hb⟩ := zV_kid h h5 hk
  have hT := (h.1.2.2.2.2.2.2.2.1 h5).1
  exact ⟨b, by rw [c_item0 hM (by omega), e], hb⟩
theorem c_name (hM : zM g v T) (h : zV (v 4) T a t) (h6 : zk t = 6) {k : Nat} (hk : k < zl t) : ∃ b, f_V_nameAt g v (zI a) (zI k) = some (zI b, v) ∧ zRX (v 4) T b (zm t k) ∧ ztx (zm t k) := by
  obtain ⟨b, e, hb⟩ := zV_name h h6 hk
  obtain ⟨e1, e2, e3, e4, e5⟩ := zV_head h
  have hT := (h.1.2.2.2.2.2.2.2.2.1 h6).1
  obtain ⟨m1, m2, m3, m4, m5, -⟩ := hM
  refine ⟨b, ?_, hb⟩
  simp (disch := omega) only [f_V_nameAt, zl_1, zl_4, zI_add, gd_I, zI_toNat, e3, e]
theorem c_parts (hM : zM g v T) (h : zV (v 4) T a t) : f_V_hasParts g v (zI a) = some (if zk t < 5 then 0 else 1, v) := by
  have hk := h.2.1
  rw [f_V_hasParts, c_kind hM h, bi_s, zl_5, iI_lt (by omega) (by omega)]
  by_cases c : zk t < 5
  · rw [if_pos c, if_pos c]; rfl
  · rw [if_neg c, if_neg c]; rfl
theorem c_good (hM : zM g v T) (h : zV (v 4) T a t) : f_V_isGood g v (zI a) = some (if zk t < 2 then 0 else 1, v) := by
  have hk := h.2.1
  rw [f_V_isGood, c_kind hM h, bi_s, zl_2, iI_lt (by omega) (by omega)]
  by_cases c : zk t < 2
  · rw [if_pos c, if_pos c]; rfl
  · rw [if_neg c, if_neg c]; rfl
theorem c_icmp {m n : Nat} (hm : m < 2147483648) (hn : n < 2147483648) : f_J_icompare g v (zI m) (zI n) = some (zJ (zsg ((m : Int) - n)), v) := by
  rw [f_J_icompare, iI_le hn hm, iI_eq hm hn]
  unfold zsg
  by_cases c : n ≤ m
  · rw [if_pos c]
    by_cases c2 : m = n
    · rw [if_pos c2, if_neg (by omega), if_neg (by omega)]; rfl
    · rw [if_neg c2, if_neg (by omega), if_pos (by omega)]; rfl
  · rw [if_neg c, if_pos (by omega)]; rfl
theorem c_lcmp {m n : Int} (h : -9223372036854775808 ≤ m) (h2 : m < 9223372036854775808) (h3 : -9223372036854775808 ≤ n) (h4 : n < 9223372036854775808) : f_J_lcompare g v (zK m) (zK n) = some (zJ (zsg (m - n)), v) := by
  have hb := zsg_b (m - n)
  rw [f_J_lcompare, zK_cmp h h2 h3 h4, zl_0, zI_J, iJ_le (by omega) (by omega) (by omega) (by omega), iJ_eq (by omega) (by omega) (by omega) (by omega)]
  rcases zsg_r (m - n) with e | e | e <;> rw [e] <;> rfl
/-- texts -/
theorem c_texts_l {x y : zN} (hM : zM g v T) (ha : zRX (v 4) T a x) (hb : zRX (v 4) T b y) (hx : ztx x) (hy : ztx y) : ∀ (m n i : Nat), m < n → i + m = min x.1 y.1 → f_V_comparedTexts_17 g n (zI a) (zI b) (zI (min x.1 y.1)) (zI i) v = some (zJ (zlex (fun k => zsg ((x.2 k : Int) - y.2 k)) (zsg ((x.1 : Int) - y.1)) m i), v) := by
  have hx1 := hx.1
  have hy1 := hy.1
  intro m
  induction m with
  | zero =>
    intro n i hn hi
    obtain ⟨n, rfl, -⟩ := suc_of hn
    rw [f_V_comparedTexts_17, iI_le (by omega) (by omega), if_pos (by omega), c_lenX hM ha, bi_s, c_lenX hM hb, bi_s, c_icmp (by omega) (by omega), bi_s]
    rfl
  | succ m ih =>
    intro n i hn hi
    obtain ⟨n, rfl, hn⟩ := suc_of hn
    have hn := Nat.lt_of_succ_lt_succ hn
    have b1 := hx.2 i (by omega)
    have b2 := hy.2 i (by omega)
    rw [f_V_comparedTexts_17, iI_le (by omega) (by omega), if_neg (by omega), c_let hM ha (by omega), bi_s, c_let hM hb (by omega), bi_s, iI_eq (by omega) (by omega)]
    simp only [zlex, zsg_0]
    by_cases c : x.2 i = y.2 i
    · rw [if_pos c, if_pos (by omega), nm_s, zl_1, zI_add]
      exact ih n (i + 1) (by omega) (by omega)
    · rw [if_neg c, if_neg (by omega), c_let hM ha (by omega), bi_s, c_let hM hb (by omega), bi_s, iI_le (by omega) (by omega)]
      unfold zsg
      by_cases c2 : y.2 i ≤ x.2 i
      · rw [if_pos c2, if_neg (by omega), if_pos (by omega)]; rfl
      · rw [if_neg c2, if_pos (by omega)]; rfl
theorem zI_min {m n : Nat} (hm : m < 2147483648) (hn : n < 2147483648) : (if zI n < zI m then zI n else zI m) = zI (min m n) := by
  rw [iI_lt hn hm]
  by_cases c : n < m
  · rw [if_pos c, Nat.min_eq_right (by omega)]
  · rw [if_neg c, Nat.min_eq_left (by omega)]
theorem c_texts {x y : zN} (hM : zM g v T) (ha : zRX (v 4) T a x) (hb : zRX (v 4) T b y) (hx : ztx x) (hy : ztx y) : f_V_comparedTexts g v (zI a) (zI b) = some (zJ (zct x y), v) := by
  have hx1 := hx.1
  have hy1 := hy.1
  rw [f_V_comparedTexts, c_lenX hM ha, bi_s, c_lenX hM hb, bi_s, nm_s, zI_min (by omega) (by omega), zl_0]
  exact c_texts_l hM ha hb hx hy (min x.1 y.1) fu 0 (fu_lt (by omega)) (by omega)
/-- numbers -/
theorem c_whole (hM : zM g v T) (h : zV (v 4) T a t) (h3 : zk t = 3) : f_V_wholeOf g v (zI a) = some (zJ (zred 6 (zv t)).1, v) := by
  obtain ⟨m1, m2, m3, m4, m5, -⟩ := hM
  obtain ⟨e1, e2, e3⟩ := h.1.2.2.2.2.2.1 h3
  simp (disch := omega) only [f_V_wholeOf, zl_4, zI_add, gd_I, zI_toNat, e2]
theorem c_scale (hM : zM g v T) (h : zV (v 4) T a t) (h3 : zk t = 3) : f_V_scaleOf g v (zI a) = some (zI (zred 6 (zv t)).2, v) := by
  obtain ⟨m1, m2, m3, m4, m5, -⟩ := hM
  obtain ⟨e1, e2, e3⟩ := h.1.2.2.2.2.2.1 h3
  have e3 : v 4 (a + 4 + 1) = zI (zred 6 (zv t)).2 := e3
  simp (disch := omega) only [f_V_scaleOf, zl_4, zl_1, zI_add, gd_I, zI_toNat, e3]
theorem zpw {k : Nat} : pw k = zJ (10 ^ k) := by
  unfold pw zJ
  rw [← Int32.ofInt_eq_ofNat]
  congr 1
theorem c_mill (hM : zM g v T) (h : zV (v 4) T a t) (h3 : zk t = 3) : f_V_millionthsOf g v (zI a) = some (zK (zv t), v) := by
  have ok := h.2.2.2.2.2.2.1 h3
  have hs := zred_s 6 (zv t)
  have hp := p10_le (show 6 - (zred 6 (zv t)).2 ≤ 6 by omega)
  have e := zred_eq 6 (zv t)
  obtain ⟨k1, k2⟩ := ok
  rw [f_V_millionthsOf, c_whole hM h h3, bi_s, c_scale hM h h3, bi_s, zl_6, zI_sub hs, gd_I (by omega) (by omega), zI_toNat (by omega), zpw, zJ_64 (by omega) (by omega), zJ_64 (by omega) (by omega), zK_mul, e]
theorem c_tz (hM : zM g v T) (h : zV (v 4) T a t) (h3 : zk t = 3) : f_V_towardZero g v (zI a) = some (zJ ((zv t).tdiv 1000000), v) := by
  have ok := h.2.2.2.2.2.2.1 h3
  have hs := zred_s 6 (zv t)
  have hp := p10_le hs
  obtain ⟨k1, k2⟩ := ok
  rw [f_V_towardZero, c_whole hM h h3, bi_s, c_scale hM h h3, bi_s, gd_I (by omega) (by omega), zI_toNat (by omega), zpw, gd_t, zJ_div (by omega) (by omega) (by omega) (by omega), zok_tdiv]
  rw [zl_0, zI_J]
  simp only [ne_eq, decide_not, Bool.not_eq_true', decide_eq_false_iff_not]
  rw [zJ_eq (by omega) (by omega) (by omega) (by omega)]
  omega
theorem zfl_b {m : Int} (h : zokN m) : -1000000000 ≤ m / 1000000 ∧ m / 1000000 ≤ 1000000000 := by
  have := zok_b h
  omega
theorem c_fdiv {x b : Int} (h : -1000000000 ≤ x) (h2 : x ≤ 1000000000) (hb : 1 ≤ b) (hb2 : b ≤ 1000000) : f_J_floorDiv g v (zJ x) (zJ b) = some (zJ (x / b), v) := by
  have hq := zfloor_q (x := x) (b := b) (by omega)
  have hx1 : -1000000000 ≤ x.tdiv b ∧ x.tdiv b ≤ 1000000000 := by
    have h9 := Int.natAbs_tdiv_le_natAbs x b
    omega
  rw [f_J_floorDiv, gd_t, nm_s, zJ_div (by omega) (by omega) (by omega) (by omega), ite_p (zxor_nn (by omega) (by omega) (by omega) (by omega)), zJ_mul, ← hq]
  · by_cases c : 0 ≤ x
    · rw [if_pos c, if_pos c]; rfl
    · rw [if_neg c, if_neg c]
      have e : (zJ (x.tdiv b * b) = zJ x) = (x.tdiv b * b = x) := by
        have h5 : x.tdiv b * b = x - x.tmod b := by rw [Int.tmod_def, Int.mul_comm b]; omega
        have h6 := ztm_le x b
        rw [zJ_eq (by omega) (by omega) (by omega) (by omega)]
      rw [ite_p e]
      by_cases c2 : x.tdiv b * b = x
      · rw [if_pos c2, if_pos c2]; rfl
      · rw [if_neg c2, if_neg c2, zl_1, zI_J, zJ_sub]; rfl
  · rw [zl_0, zI_J]
    simp only [ne_eq, decide_not, Bool.not_eq_true', decide_eq_false_iff_not]
    rw [zJ_eq (by omega) (by omega) (by omega) (by omega)]
    omega
theorem c_floor (hM : zM g v T) (h : zV (v 4) T a t) (h3 : zk t = 3) : f_V_floorOf g v (zI a) = some (zJ (zv t / 1000000), v) := by
  have ok := h.2.2.2.2.2.2.1 h3
  have hs := zred_s 6 (zv t)
  have hp := p10_le hs
  obtain ⟨k1, k2⟩ := ok
  rw [f_V_floorOf, c_whole hM h h3, bi_s, c_scale hM h h3, bi_s, gd_I (by omega) (by omega), zI_toNat (by omega), zpw, c_fdiv (by omega) (by omega) (by omega) (by omega), bi_s, zok_div]
/-- the order -/
theorem c_parts_l {F : Nat → Int} {Kr : (Nat → Nat) → mS → Int32 → Int32 → Option (Int32 × mS)} {la lb sa sb : Nat} (hla : la ≤ 12) (hlb : lb ≤ 12) (hsa : sa ≤ 12) (hsb : sb ≤ 12) (hF : ∀ k, F k = -1 ∨ F k = 0 ∨ F k = 1)
    (h1 : f_V_lengthOf g v (zI a) = some (zI la, v)) (h2 : f_V_lengthOf g v (zI b) = some (zI lb, v))
    (hk : ∀ k, k < min la lb → ∃ x y, f_V_itemAt g v (zI a) (zI (sa + k)) = some (x, v) ∧ f_V_itemAt g v (zI b) (zI (sb + k)) = some (y, v) ∧ Kr g v x y = some (zJ (F k), v)) : ∀ (m n i : Nat), m < n → i + m = min la lb → f_V_comparedParts_18 Kr g n (zI a) (zI b) (zI sa) (zI sb) (zI (min la lb)) (zI i) v = some (zJ (zlex F (zsg ((la : Int) - lb)) m i), v) := by
  intro m
  induction m with
  | zero =>
    intro n i hn hi
    obtain ⟨n, rfl, -⟩ := suc_of hn
    rw [f_V_comparedParts_18, iI_le (by omega) (by omega), if_pos (by omega), h1, bi_s, h2, bi_s, c_icmp (by omega) (by omega), bi_s]
    rfl
  | succ m ih =>
    intro n i hn hi
    obtain ⟨n, rfl, hn⟩ := suc_of hn
    have hn := Nat.lt_of_succ_lt_succ hn
    obtain ⟨x, y, e1, e2, e3⟩ := hk i (by omega)
    have hb := hF i
    rw [f_V_comparedParts_18, iI_le (by omega) (by omega), if_neg (by omega), zI_add, zI_add, e1, bi_s, e2, bi_s, e3, bi_s, iJ_eq0 (by omega) (by omega)]
    simp only [zlex]
    by_cases c : F i = 0
    · rw [if_pos c, if_pos c, nm_s, zl_1, zI_add]
      exact ih n (i + 1) (by omega) (by omega)
    · rw [if_neg c, if_neg c]
theorem c_parts_c {F : Nat → Int} {Kr : (Nat → Nat) → mS → Int32 → Int32 → Option (Int32 × mS)} {la lb sa sb : Nat} (hla : la ≤ 12) (hlb : lb ≤ 12) (hsa : sa ≤ 12) (hsb : sb ≤ 12) (hF : ∀ k, F k = -1 ∨ F k = 0 ∨ F k = 1)
    (h1 : f_V_lengthOf g v (zI a) = some (zI la, v)) (h2 : f_V_lengthOf g v (zI b) = some (zI lb, v))
    (hk : ∀ k, k < min la lb → ∃ x y, f_V_itemAt g v (zI a) (zI (sa + k)) = some (x, v) ∧ f_V_itemAt g v (zI b) (zI (sb + k)) = some (y, v) ∧ Kr g v x y = some (zJ (F k), v)) : f_V_comparedParts Kr g v (zI a) (zI b) (zI sa) (zI sb) = some (zJ (zlex F (zsg ((la : Int) - lb)) (min la lb) 0), v) := by
  rw [f_V_comparedParts, h1, bi_s, h2, bi_s, nm_s, zI_min (by omega) (by omega), zl_0]
  exact c_parts_l hla hlb hsa hsb hF h1 h2 hk _ _ _ (fu_lt (by omega)) (by omega)
theorem c_cmp (hM : zM g v T) : ∀ (m n a b : Nat) (t u : zT), m ≤ n → zRC (v 4) T m a t → zRC (v 4) T m b u → zwf m t → zwf m u → f_V_compared n g v (zI a) (zI b) = some (zJ (zcmp m t u), v) := by
  intro m
  induction m with
  | zero => intro n a b t u _ h; exact h.elim
  | succ m ih =>
    intro n a b t u hmn ha hb wa wb
    obtain ⟨n, rfl, hn⟩ := suc_of (show m < n by omega)
    have va : zV (v 4) T a t := ⟨zRC_lv _ _ _ _ _ (zwf_6 wa) ha (Nat.le_refl _), zwf_6 wa⟩
    have vb : zV (v 4) T b u := ⟨zRC_lv _ _ _ _ _ (zwf_6 wb) hb (Nat.le_refl _), zwf_6 wb⟩
    have ka := wa.1
    have kb := wb.1
    have la := zwf_l wa
    have lb := zwf_l wb
    show f_V_comparedb (f_V_compared n) g v (zI a) (zI b) = _
    rw [f_V_comparedb, c_kind hM va, bi_s, c_kind hM vb, bi_s, iI_eq (by omega) (by omega)]
    simp only [zcmp]
    by_cases c : zk t = zk u
    · rw [if_pos c, if_pos c, c_kind hM va, bi_s, zl_3, zl_4, zl_5, zl_6, iI_eq (by omega) (by omega), iI_eq (by omega) (by omega), iI_eq (by omega) (by omega), iI_eq (by omega) (by omega)]
      by_cases c3 : zk t = 3
      · rw [if_pos c3, if_pos c3, c_mill hM va c3, bi_s, c_mill hM vb (by omega), bi_s]
        have b1 := zok_b (wa.2.2.2.2.2.1 c3)
        have b2 := zok_b (wb.2.2.2.2.2.1 (by omega))
        rw [c_lcmp (by omega) (by omega) (by omega) (by omega), bi_s]
      · rw [if_neg c3, if_neg c3]
        by_cases c4 : zk t = 4
        · rw [if_pos c4, if_pos c4]
          obtain ⟨x1, x2⟩ := zX_V va c4
          obtain ⟨y1, y2⟩ := zX_V vb (by omega)
          rw [c_texts hM x1 y1 x2 y2, bi_s]
        · rw [if_neg c4, if_neg c4]
          have hp : 5 ≤ zk t → f_V_comparedParts (f_V_compared n) g v (zI a) (zI b) 0 0 = some (zJ (zlex (fun k => zcmp m (zc t k) (zc u k)) (zsg ((zl t : Int) - zl u)) (min (zl t) (zl u)) 0), v) := by
            intro h5
            rw [zl_0]
            refine c_parts_c la lb (by omega) (by omega) (fun k => zcmp_r _ _ _) (c_len hM va) (c_len hM vb) (fun k hk => ?_)
            obtain ⟨x, ex, rx⟩ := (ha.2.2.2.2.2.2.2.1 h5).2 k (by omega)
            obtain ⟨y, ey, ry⟩ := (hb.2.2.2.2.2.2.2.1 (by omega)).2 k (by omega)
            have t1 := (ha.2.2.2.2.2.2.2.1 h5).1
            have t2 := (hb.2.2.2.2.2.2.2.1 (by omega)).1
            refine ⟨zI x, zI y, ?_, ?_, ih n x y _ _ hn rx ry ((wa.2.2.2.2.2.2.2.1 h5).2.2 k (by omega)) ((wb.2.2.2.2.2.2.2.1 (by omega)).2.2 k (by omega))⟩
            · rw [Nat.zero_add, c_item0 hM (by omega), ex]
            · rw [Nat.zero_add, c_item0 hM (by omega), ey]
          by_cases c5 : zk t = 5
          · rw [if_pos c5, if_pos c5, hp (by omega), bi_s]
          · rw [if_neg c5, if_neg c5]
            by_cases c6 : zk t = 6
            · rw [if_pos c6, if_pos c6, c_len hM va, bi_s, c_len hM vb, bi_s]
              have hnm : f_V_comparedParts (f_V_compared n) g v (zI a) (zI b) (zI (zl t)) (zI (zl u)) = some (zJ (zcn t u), v) := by
                refine c_parts_c la lb la lb (fun k => zct_r _ _) (c_len hM va) (c_len hM vb) (fun k hk => ?_)
                obtain ⟨x, ex, rx, wx⟩ := zV_name va c6 (show k < zl t by omega)
                obtain ⟨y, ey, ry, wy⟩ := zV_name vb (by omega) (show k < zl u by omega)
                have t1 := (ha.2.2.2.2.2.2.2.2.1 c6).1
                have t2 := (hb.2.2.2.2.2.2.2.2.1 (by omega)).1
                have hm1 : 1 ≤ m := by
                  cases m with
                  | zero =>
                    obtain ⟨_, _, r0⟩ := (ha.2.2.2.2.2.2.2.1 (by omega)).2 k (by omega)
                    exact r0.elim
                  | succ m => omega
                refine ⟨zI x, zI y, ?_, ?_, ?_⟩
                · rw [c_item0 hM (by omega), show a + 4 + (zl t + k) = a + 4 + zl t + k by omega, ex]
                · rw [c_item0 hM (by omega), show b + 4 + (zl u + k) = b + 4 + zl u + k by omega, ey]
                · obtain ⟨n, rfl, -⟩ := suc_of (show 0 < n by omega)
                  show f_V_comparedb (f_V_compared n) g v (zI x) (zI y) = _
                  rw [f_V_comparedb, c_kindX hM rx, bi_s, c_kindX hM ry, bi_s, if_pos rfl, c_kindX hM rx, bi_s, zl_3, zl_4, iI_eq (by omega) (by omega), if_neg (by omega), if_pos rfl, c_texts hM rx ry wx wy, bi_s]
              rw [hnm, bi_s, iJ_eq0 (by have := zcn_r t u; omega) (by have := zcn_r t u; omega)]
              by_cases c0 : zcn t u = 0
              · rw [if_pos c0, if_pos c0, hp (by omega), bi_s]
                rfl
              · rw [if_neg c0, if_neg c0]
                rfl
            · rw [if_neg c6, if_neg c6]
              rfl
    · rw [if_neg c, if_neg c, c_kind hM va, bi_s, c_kind hM vb, bi_s, iI_le (by omega) (by omega)]
      unfold zsg
      by_cases c2 : zk u ≤ zk t
      · rw [if_pos c2, if_neg (by omega), if_pos (by omega)]; rfl
      · rw [if_neg c2, if_pos (by omega)]; rfl
theorem c_cmp6 (hM : zM g v T) (ha : zV (v 4) T a t) (hb : zV (v 4) T b u) : f_V_compared dK g v (zI a) (zI b) = some (zJ (zcmp 6 t u), v) := c_cmp hM 6 dK a b t u (by decide) ha.1 hb.1 ha.2 hb.2
end CV
