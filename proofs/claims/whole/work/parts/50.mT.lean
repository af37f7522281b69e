/-! the reference's heap: a value stands at a place -/
def mnum (hi lo : Int32) : Int64 := (hi.toInt64 <<< ((32 : Int32).toInt64 &&& 63)) ||| (lo.toInt64 &&& 4294967295)
theorem mnum_split (x : Int64) : mnum ((x >>> ((32 : Int32).toInt64 &&& 63)).toInt32) x.toInt32 = x := by
  have e : ((32 : Int32).toInt64 &&& 63) = 32 := by decide
  unfold mnum
  rw [e]
  apply Int64.toBitVec_inj.1
  apply BitVec.eq_of_getLsbD_eq
  intro i hi
  have e32 : ((32 : Int64).toBitVec.smod 64).toNat = 32 := by decide
  have em : (4294967295 : Int64).toBitVec = BitVec.ofNat 64 4294967295 := by decide
  have hm : (BitVec.ofNat 64 4294967295).getLsbD i = decide (i < 32) := by
    have : (BitVec.ofNat 64 4294967295) = (BitVec.allOnes 32).setWidth 64 := by decide
    rw [this, BitVec.getLsbD_setWidth, BitVec.getLsbD_allOnes]
    simp only [hi, decide_true, Bool.true_and]
  simp only [Int64.toBitVec_or, Int64.toBitVec_and, Int64.toBitVec_shiftLeft, Int64.toBitVec_shiftRight, Int32.toBitVec_toInt64, Int64.toBitVec_toInt32, BitVec.getLsbD_or, BitVec.getLsbD_and, em, hm, BitVec.shiftLeft_eq', e32, BitVec.getLsbD_shiftLeft, BitVec.getLsbD_signExtend, BitVec.sshiftRight_eq', BitVec.getLsbD_sshiftRight, hi, decide_true, Bool.true_and]
  by_cases c : i < 32
  · simp only [c, decide_true, Bool.not_true, Bool.false_and, Bool.false_or, if_true, Bool.true_and, Bool.and_true]
  · have c1 : i - 32 < 32 := by omega
    have c2 : ¬ 64 ≤ i - 32 := by omega
    have c3 : 32 + (i - 32) = i := by omega
    have c4 : i - 32 < 64 := by omega
    simp only [c, c1, c2, c3, c4, hi, decide_true, decide_false, Bool.not_false, Bool.true_and, Bool.and_false, Bool.or_false, if_true]
def zRY (h : Nat → Int32) (top a : Nat) (x : zN) : Prop := 4 ≤ a ∧ a + 4 + x.1 ≤ top ∧ h a = zI 4 ∧ h (a + 1) = zI 1 ∧ h (a + 2) = zI 0 ∧ h (a + 3) = zI x.1 ∧ ∀ k, k < x.1 → h (a + 4 + k) = zI (x.2 k)
def zRM (h : Nat → Int32) (top : Nat) : Nat → Nat → zT → Prop
  | 0, _, _ => False
  | n + 1, a, t => 4 ≤ a ∧ a + 4 ≤ top ∧ h a = zI (zk t) ∧ h (a + 1) = zI (zs t) ∧ h (a + 2) = zI (zd t) ∧ h (a + 3) = zI (zl t)
    ∧ (zk t = 3 → a + 6 ≤ top ∧ mnum (h (a + 4)) (h (a + 5)) = zK (zv t))
    ∧ (zk t = 4 → a + 4 + zl t ≤ top ∧ ∀ k, k < zl t → h (a + 4 + k) = zI (zx t k))
    ∧ (5 ≤ zk t → a + 4 + (if zk t = 6 then zl t else 0) + zl t ≤ top ∧ ∀ k, k < zl t → ∃ b, h (a + 4 + (if zk t = 6 then zl t else 0) + k) = zI b ∧ zRM h top n b (zc t k))
    ∧ (zk t = 6 → ∀ k, k < zl t → ∃ b, h (a + 4 + k) = zI b ∧ zRY h top b (zm t k))
theorem zRY_up {h h' : Nat → Int32} {top top' a : Nat} {x : zN} (k : zRY h top a x) (hc : ∀ i, i < top → h' i = h i) (ht : top ≤ top') : zRY h' top' a x := by
  obtain ⟨h0, h1, h2, h3, h4, h5, h6⟩ := k
  refine ⟨h0, by omega, ?_, ?_, ?_, ?_, fun k hk => ?_⟩
  · rw [hc _ (by omega)]; exact h2
  · rw [hc _ (by omega)]; exact h3
  · rw [hc _ (by omega)]; exact h4
  · rw [hc _ (by omega)]; exact h5
  · rw [hc _ (by omega)]; exact h6 k hk
theorem zRM_up {h h' : Nat → Int32} {top top' : Nat} (hc : ∀ i, i < top → h' i = h i) (ht : top ≤ top') : ∀ (n a : Nat) (t : zT), zRM h top n a t → zRM h' top' n a t := by
  intro n
  induction n with
  | zero => intro a t k; exact k.elim
  | succ n ih =>
    intro a t k
    obtain ⟨h0, h1, h2, h3, h4, h5, h6, h7, h8, h9⟩ := k
    refine ⟨h0, by omega, ?_, ?_, ?_, ?_, fun hk => ?_, fun hk => ?_, fun hk => ?_, fun hk => ?_⟩
    · rw [hc _ (by omega)]; exact h2
    · rw [hc _ (by omega)]; exact h3
    · rw [hc _ (by omega)]; exact h4
    · rw [hc _ (by omega)]; exact h5
    · obtain ⟨x, y⟩ := h6 hk
      refine ⟨by omega, ?_⟩
      rw [hc _ (by omega), hc _ (by omega)]; exact y
    · obtain ⟨x, y⟩ := h7 hk
      refine ⟨by omega, fun k hkl => ?_⟩
      rw [hc _ (by omega)]; exact y k hkl
    · obtain ⟨x, y⟩ := h8 hk
      refine ⟨by omega, fun k hkl => ?_⟩
      obtain ⟨b, e, r⟩ := y k hkl
      exact ⟨b, by rw [hc _ (by omega)]; exact e, ih _ _ r⟩
    · intro k hkl
      obtain ⟨x, -⟩ := h8 (by omega)
      rw [if_pos hk] at x
      obtain ⟨b, e, r⟩ := h9 hk k hkl
      exact ⟨b, by rw [hc _ (by omega)]; exact e, zRY_up r hc ht⟩
theorem zRM_lv {h : Nat → Int32} {top : Nat} : ∀ (m n n' a : Nat) (t : zT), zwf m t → zRM h top n a t → m ≤ n' → zRM h top n' a t := by
  intro m
  induction m with
  | zero => intro n n' a t w _ _; exact w.elim
  | succ m ih =>
    intro n n' a t w hr hn
    obtain ⟨n', rfl, hm⟩ := suc_of (show m < n' by omega)
    cases n with
    | zero => exact hr.elim
    | succ n =>
      obtain ⟨h0, h1, h2, h3, h4, h5, h6, h7, h8, h9⟩ := hr
      refine ⟨h0, h1, h2, h3, h4, h5, h6, h7, fun hk => ⟨(h8 hk).1, fun k hkl => ?_⟩, h9⟩
      obtain ⟨b, e, r⟩ := (h8 hk).2 k hkl
      have hw := (w.2.2.2.2.2.2.2.1 hk).2.2 k hkl
      exact ⟨b, e, ih _ _ _ _ hw r hm⟩
def zU (h : Nat → Int32) (top a : Nat) (t : zT) : Prop := zRM h top 6 a t ∧ zwf 6 t
theorem zU_up {h h' : Nat → Int32} {top top' a : Nat} {t : zT} (k : zU h top a t) (hc : ∀ i, i < top → h' i = h i) (ht : top ≤ top') : zU h' top' a t := ⟨zRM_up hc ht _ _ _ k.1, k.2⟩
theorem zU_kid {h : Nat → Int32} {top a : Nat} {t : zT} (q : zU h top a t) (hk : 5 ≤ zk t) {k : Nat} (hkl : k < zl t) : ∃ b, h (a + 4 + (if zk t = 6 then zl t else 0) + k) = zI b ∧ zU h top b (zc t k) := by
  obtain ⟨hr, hw⟩ := q
  obtain ⟨b, e, r⟩ := (hr.2.2.2.2.2.2.2.2.1 hk).2 k hkl
  have w := (hw.2.2.2.2.2.2.2.1 hk).2.2 k hkl
  exact ⟨b, e, zRM_lv 5 5 6 _ _ w r (by omega), zwf_6 w⟩
theorem zU_name {h : Nat → Int32} {top a : Nat} {t : zT} (q : zU h top a t) (hk : zk t = 6) {k : Nat} (hkl : k < zl t) : ∃ b, h (a + 4 + k) = zI b ∧ zRY h top b (zm t k) ∧ ztx (zm t k) := by
  obtain ⟨hr, hw⟩ := q
  obtain ⟨b, e, r⟩ := hr.2.2.2.2.2.2.2.2.2 hk k hkl
  exact ⟨b, e, r, (hw.2.2.2.2.2.2.2.2.2 hk).2.1 k hkl⟩
theorem zU_Y {h : Nat → Int32} {top a : Nat} {x : zN} (q : zRY h top a x) (hx : ztx x) : zU h top a (zX x) := by
  obtain ⟨h0, h1, h2, h3, h4, h5, h6⟩ := q
  have k4 : zk (zX x) = 4 := rfl
  have s1 : zs (zX x) = 1 := rfl
  have d0 : zd (zX x) = 0 := rfl
  exact ⟨⟨h0, by omega, h2, h3, h4, h5, fun hk => absurd hk (by omega), fun _ => ⟨h1, h6⟩, fun hk => absurd hk (by omega), fun hk => absurd hk (by omega)⟩, ⟨by omega, by omega, by omega, fun _ => ⟨s1, d0⟩, fun hk => absurd hk (by omega), fun hk => absurd hk (by omega), fun _ => hx, fun hk => absurd hk (by omega), fun hk => absurd hk (by omega), fun hk => absurd hk (by omega)⟩⟩
theorem zY_U {h : Nat → Int32} {top a : Nat} {t : zT} (q : zU h top a t) (hk : zk t = 4) : zRY h top a (zl t, zx t) ∧ ztx (zl t, zx t) := by
  obtain ⟨hr, hw⟩ := q
  obtain ⟨h0, h1, h2, h3, h4, h5, h6, h7, h8, h9⟩ := hr
  have a1 := (hw.2.2.2.1 (by omega)).1
  have a2 := (hw.2.2.2.1 (by omega)).2
  refine ⟨⟨h0, (h7 hk).1, ?_, ?_, ?_, h5, (h7 hk).2⟩, hw.2.2.2.2.2.2.1 hk⟩
  · rw [h2, hk]
  · rw [h3, a1]
  · rw [h4, a2]
def mM (v : mS) (T : Nat) : Prop := v 0 7 = zI T ∧ 16 ≤ T ∧ T ≤ 63900 ∧ ∀ k, k < 3 → zU (v 6) 16 (4 + 4 * k) (zW k)
section MT
variable {v : mS} {T a b : Nat} {t u : zT}
theorem mM_W (hM : mM v T) {k : Nat} (hk : k < 3) : zU (v 6) T (4 + 4 * k) (zW k) := zU_up (hM.2.2.2 k hk) (fun _ _ => rfl) hM.2.1
theorem zU_head {h : Nat → Int32} {top : Nat} (q : zU h top a t) : 4 ≤ a ∧ a + 4 ≤ top ∧ h a = zI (zk t) ∧ h (a + 1) = zI (zs t) ∧ h (a + 2) = zI (zd t) ∧ h (a + 3) = zI (zl t) := ⟨q.1.1, q.1.2.1, q.1.2.2.1, q.1.2.2.2.1, q.1.2.2.2.2.1, q.1.2.2.2.2.2.1⟩
theorem m_kind (hM : mM v T) (h : zU (v 6) T a t) : f_M_kindOf v (zI a) = some (zI (zk t), v) := by
  obtain ⟨m1, m2, m3, -⟩ := hM
  obtain ⟨h0, h1, h2, h3, h4, h5⟩ := zU_head h
  simp (disch := omega) only [f_M_kindOf, gd_I, zI_toNat, h2]
theorem m_size (hM : mM v T) (h : zU (v 6) T a t) : f_M_size v (zI a) = some (zI (zl t), v) := by
  obtain ⟨m1, m2, m3, -⟩ := hM
  obtain ⟨h0, h1, h2, h3, h4, h5⟩ := zU_head h
  simp (disch := omega) only [f_M_size, zl_3, zI_add, gd_I, zI_toNat, h5]
theorem m_sizeY {x : zN} (hM : mM v T) (h : zRY (v 6) T a x) : f_M_size v (zI a) = some (zI x.1, v) := by
  obtain ⟨m1, m2, m3, -⟩ := hM
  obtain ⟨h0, h1, h2, h3, h4, h5, h6⟩ := h
  simp (disch := omega) only [f_M_size, zl_3, zI_add, gd_I, zI_toNat, h5]
theorem m_num (hM : mM v T) (h : zU (v 6) T a t) (h3 : zk t = 3) : f_M_num v (zI a) = some (zK (zv t), v) := by
  obtain ⟨m1, m2, m3, -⟩ := hM
  obtain ⟨x, y⟩ := h.1.2.2.2.2.2.2.1 h3
  simp (disch := omega) only [f_M_num, zl_4, zl_5, zI_add, gd_I, zI_toNat]
  exact congrArg (fun z => some (z, v)) y
theorem m_good (hM : mM v T) (h : zU (v 6) T a t) : f_M_good v (zI a) = some (if zgood t = true then 1 else 0, v) := by
  have hk := h.2.1
  obtain ⟨m1, m2, m3, -⟩ := hM
  obtain ⟨h0, h1, h2, h3, h4, h5⟩ := zU_head h
  rw [f_M_good, gd_I (by omega) (by omega), zI_toNat (by omega), h2, zl_1, iI_le (by omega) (by omega)]
  unfold zgood
  by_cases c : zk t ≤ 1
  · rw [if_pos c, if_neg (by simp; omega)]; rfl
  · rw [if_neg c, if_pos (by simp; omega)]; rfl
theorem m_item (hM : mM v T) (h : zU (v 6) T a t) (h5 : 5 ≤ zk t) {k : Nat} (hk : k < zl t) : ∃ b, f_M_item v (zI a) (zI k) = some (zI b, v) ∧ zU (v 6) T b (zc t k) := by
  obtain ⟨b, e, hb⟩ := zU_kid h h5 hk
  have hkk := h.2.1
  have hT := (h.1.2.2.2.2.2.2.2.2.1 h5).1
  obtain ⟨m1, m2, m3, -⟩ := hM
  obtain ⟨e0, e1, e2, e3, e4, e5⟩ := zU_head h
  refine ⟨b, ?_, hb⟩
  rw [f_M_item, gd_I (by omega) (by omega), zI_toNat (by omega), e2, zl_6, iI_eq (by omega) (by omega)]
  by_cases c : zk t = 6
  · rw [if_pos c] at e hT
    simp (disch := omega) only [if_pos c, zl_3, zl_4, zI_add, gd_I, zI_toNat, e5, f_M_item_30, e]
  · rw [if_neg c] at e hT
    rw [Nat.add_zero] at e
    simp (disch := omega) only [if_neg c, zl_0, zl_4, zI_add, Nat.add_zero, f_M_item_30, gd_I, zI_toNat, e]
theorem m_name (hM : mM v T) (h : zU (v 6) T a t) (h6 : zk t = 6) {k : Nat} (hk : k < zl t) : ∃ b, f_M_name v (zI a) (zI k) = some (zI b, v) ∧ zRY (v 6) T b (zm t k) ∧ ztx (zm t k) := by
  obtain ⟨b, e, hb⟩ := zU_name h h6 hk
  have hT := (h.1.2.2.2.2.2.2.2.2.1 (by omega)).1
  rw [if_pos h6] at hT
  obtain ⟨m1, m2, m3, -⟩ := hM
  refine ⟨b, ?_, hb⟩
  simp (disch := omega) only [f_M_name, zl_4, zI_add, gd_I, zI_toNat, e]
theorem m_sign {d : Int} (h : -9223372036854775808 ≤ d) (h2 : d < 9223372036854775808) : f_M_sign v (zK d) = some (zJ (zsg d), v) := by
  have hb := zsg_b d
  have e : lg_cmp (zK d) 0 = zJ (zsg d) := by rw [zkl_0, zK_cmp h h2 (by omega) (by omega), Int.sub_zero]
  rw [f_M_sign, e]
  rcases zsg_r d with q | q | q <;> rw [q] <;> rfl
theorem zI_d64 {m n : Nat} (hm : m < 1000000) (hn : n < 1000000) : (zI m - zI n).toInt64 = zK ((m : Int) - n) := by
  rw [zI_J, zI_J, zJ_sub, zJ_64 (by omega) (by omega)]
theorem m_text_l {x y : zN} (hM : mM v T) (ha : zRY (v 6) T a x) (hb : zRY (v 6) T b y) (hx : ztx x) (hy : ztx y) : ∀ (m n i : Nat), m < n → i + m = min x.1 y.1 → f_M_textOrder_2 n (zI a) (zI b) (zI i) v = some (zJ (zlex (fun k => zsg ((x.2 k : Int) - y.2 k)) (zsg ((x.1 : Int) - y.1)) m i), v) := by
  have hx1 := hx.1
  have hy1 := hy.1
  have hT := hM.2.2.1
  have e75 : f_M_textOrder_75 (zI a) (zI b) v = some (zJ (zsg ((x.1 : Int) - y.1)), v) := by
    rw [f_M_textOrder_75, m_sizeY hM ha, bi_s, m_sizeY hM hb, bi_s, zI_d64 (by omega) (by omega), m_sign (by omega) (by omega), bi_s]
  intro m
  induction m with
  | zero =>
    intro n i hn hi
    obtain ⟨n, rfl, -⟩ := suc_of hn
    rw [f_M_textOrder_2, m_sizeY hM ha, bi_s, iI_le (by omega) (by omega)]
    by_cases c : x.1 ≤ i
    · rw [if_pos c, e75]; rfl
    · rw [if_neg c, m_sizeY hM hb, bi_s, iI_le (by omega) (by omega), if_pos (by omega), e75]; rfl
  | succ m ih =>
    intro n i hn hi
    obtain ⟨n, rfl, hn⟩ := suc_of hn
    have hn := Nat.lt_of_succ_lt_succ hn
    obtain ⟨a0, a1, a2, a3, a4, a5, a6⟩ := id ha
    obtain ⟨b0, b1, b2, b3, b4, b5, b6⟩ := id hb
    have l1 := hx.2 i (by omega)
    have l2 := hy.2 i (by omega)
    have c1 := a6 i (by omega)
    have c2 := b6 i (by omega)
    rw [f_M_textOrder_2, m_sizeY hM ha, bi_s, iI_le (by omega) (by omega), if_neg (by omega), m_sizeY hM hb, bi_s, iI_le (by omega) (by omega), if_neg (by omega)]
    simp (disch := omega) only [zl_4, zl_1, zI_add, gd_I, zI_toNat, c1, c2, zI_eq, nm_s]
    simp only [zlex, zsg_0]
    by_cases c : x.2 i = y.2 i
    · rw [if_pos c, if_pos (by omega)]
      exact ih n (i + 1) (by omega) (by omega)
    · rw [if_neg c, if_neg (by omega), zI_d64 (by omega) (by omega), m_sign (by omega) (by omega), bi_s]
theorem m_text {x y : zN} (hM : mM v T) (ha : zRY (v 6) T a x) (hb : zRY (v 6) T b y) (hx : ztx x) (hy : ztx y) : f_M_textOrder v (zI a) (zI b) = some (zJ (zct x y), v) := by
  have hx1 := hx.1
  exact m_text_l hM ha hb hx hy (min x.1 y.1) fu 0 (fu_lt (by omega)) (by omega)
theorem m_member_l (hM : mM v T) (ha : zU (v 6) T a t) (kt : zk t = 6) {x : zN} (hx : zRY (v 6) T b x) (hx2 : ztx x) : ∀ (m q i : Nat), i + m = zl t → m < q → f_M_member_2 q (zI a) (zI b) (zI i) v = some (match zmem t x m i with | some k => zI k | none => -1, v) := by
  have lt := zwf_l ha.2
  intro m
  induction m with
  | zero =>
    intro q i hi hq
    obtain ⟨q, rfl, -⟩ := suc_of hq
    rw [f_M_member_2, m_size hM ha, bi_s, iI_le (by omega) (by omega), if_pos (by omega)]
    rfl
  | succ m ih =>
    intro q i hi hq
    obtain ⟨q, rfl, hq⟩ := suc_of hq
    have hq := Nat.lt_of_succ_lt_succ hq
    obtain ⟨p, ep, hp, hp2⟩ := m_name hM ha kt (show i < zl t by omega)
    have hr := zct_r (zm t i) x
    have e0 : (zJ (zct (zm t i) x) = 0) = (zct (zm t i) x = 0) := by rw [zl_0, zI_J, zJ_eq (by omega) (by omega) (by omega) (by omega)] <;> rfl
    rw [f_M_member_2, m_size hM ha, bi_s, iI_le (by omega) (by omega), if_neg (by omega), ep, bi_s, m_text hM hp hx hp2 hx2, bi_s, ite_p e0]
    simp only [zmem]
    by_cases c : zct (zm t i) x = 0
    · rw [if_pos c, if_pos c]
    · rw [if_neg c, if_neg c, nm_s, zl_1, zI_add]
      exact ih q (i + 1) (by omega) (by omega)
theorem m_member (hM : mM v T) (ha : zU (v 6) T a t) (kt : zk t = 6) {x : zN} (hx : zRY (v 6) T b x) (hx2 : ztx x) : f_M_member v (zI a) (zI b) = some (match zmem t x (zl t) 0 with | some k => zI k | none => -1, v) := by
  have lt := zwf_l ha.2
  exact m_member_l hM ha kt hx hx2 (zl t) fu 0 (by omega) (fu_lt (by omega))
end MT
