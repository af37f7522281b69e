/-! the reference: the PART of a value with a number -/
abbrev zTN : Type := zT × Option zN
def mNm (v : mS) (T b : Nat) (x : Option zN) : Prop := match x with
  | none => b = 0
  | some y => zRY (v 6) T b y ∧ ztx y
def mSp (v : mS) (T : Nat) : List zTN → Prop
  | [] => True
  | e :: st => (∃ a b, v 12 st.length = zI a ∧ v 13 st.length = zI b ∧ zU (v 6) T a e.1 ∧ mNm v T b e.2) ∧ mSp v T st
def zskp : List zTN → Nat
  | [] => 0
  | e :: st => zs e.1 + zskp st
def zpk : List zTN → Nat → zTN
  | [], _ => (zW 0, none)
  | e :: st, i => if i < zs e.1 then zfnd 6 e.1 i e.2 else zpk st (i - zs e.1)
theorem mNm_up {v v' : mS} {T b : Nat} {x : Option zN} (h6 : v' 6 = v 6) (h : mNm v T b x) : mNm v' T b x := by
  cases x with
  | none => exact h
  | some y => exact ⟨by rw [h6]; exact h.1, h.2⟩
theorem mSp_up {v v' : mS} {T : Nat} (h6 : v' 6 = v 6) : ∀ (st : List zTN), (∀ i, i < st.length → v' 12 i = v 12 i ∧ v' 13 i = v 13 i) → mSp v T st → mSp v' T st := by
  intro st
  induction st with
  | nil => intro _ _; trivial
  | cons e r ih =>
    intro h k
    obtain ⟨⟨a, b, ea, eb, ha, hb⟩, k2⟩ := k
    have h1 := h r.length (by simp)
    exact ⟨⟨a, b, h1.1.trans ea, h1.2.trans eb, by rw [h6]; exact ha, mNm_up h6 hb⟩, ih (fun i hi => h i (by simp; omega)) k2⟩
theorem mSp_l {v : mS} {T : Nat} : ∀ st : List zTN, mSp v T st → st.length ≤ zskp st := by
  intro st
  induction st with
  | nil => intro _; simp
  | cons e r ih =>
    intro h
    obtain ⟨⟨a, b, ea, eb, ha, hb⟩, k2⟩ := h
    have := ih k2
    have := zwf_s1 6 _ ha.2
    simp only [List.length_cons, zskp]
    omega
theorem zskp_m {f : Nat → zTN} {st : List zTN} : ∀ m, zskp ((List.range m).map f ++ st) = zsm (fun k => zs (f k).1) m + zskp st := by
  intro m
  induction m generalizing st with
  | zero => simp [zsm]
  | succ m ih =>
    rw [List.range_succ, List.map_append, List.append_assoc]
    simp only [List.map_cons, List.map_nil, List.cons_append, List.nil_append]
    rw [ih]
    simp only [zskp, zsm]
    omega
theorem zfnd_lv : ∀ (n m : Nat) (t : zT) (i : Nat) (x : Option zN), zwf (n + 1) t → n ≤ m → i < zs t → zfnd m t i x = zfnd n t i x := by
  intro n
  induction n with
  | zero =>
    intro m t i x h hm hi
    have hz : zs t = 1 := by
      by_cases c : zk t < 5
      · exact (h.2.2.2.1 c).1
      · obtain ⟨w1, w2, w3⟩ := h.2.2.2.2.2.2.2.1 (by omega)
        rcases Nat.eq_zero_or_pos (zl t) with e | e
        · rw [w1, e]; rfl
        · exact (w3 0 e).elim
    have hi0 : i = 0 := by omega
    subst hi0
    cases m with
    | zero => rfl
    | succ m => show (if (0 : Nat) = 0 then (t, x) else _) = _; rw [if_pos rfl]; rfl
  | succ n ih =>
    intro m t i x h hm hi
    obtain ⟨m, rfl, hm2⟩ := suc_of (show n < m by omega)
    simp only [zfnd]
    by_cases c0 : i = 0
    · rw [if_pos c0, if_pos c0]
    · rw [if_neg c0, if_neg c0]
      by_cases c : zk t < 5
      · have := (h.2.2.2.1 c).1; omega
      · obtain ⟨w1, w2, w3⟩ := h.2.2.2.2.2.2.2.1 (by omega)
        rcases Nat.eq_zero_or_pos (zl t) with e | e
        · rw [w1, e] at hi; simp [zsm] at hi; omega
        · have hb := zpre_b (t := t) (zl t - 1) 0 (i - 1) (by omega) (by simp only [zsm]; omega) (by omega)
          exact ih m _ _ _ (w3 _ hb.1) (by omega) hb.2
theorem zpk_kids {t : zT} {nf : Nat → Option zN} {st : List zTN} : ∀ (m j l : Nat), j + (m + 1) = zl t → zpk ((List.range' j (m + 1)).map (fun k => (zc t k, nf k)) ++ st) l = if l < zsm (fun k => zs (zc t k)) (zl t) - zsm (fun k => zs (zc t k)) j then zfnd 6 (zc t (zpre t m j l).1) (zpre t m j l).2 (nf (zpre t m j l).1) else zpk st (l - (zsm (fun k => zs (zc t k)) (zl t) - zsm (fun k => zs (zc t k)) j)) := by
  intro m
  induction m with
  | zero =>
    intro j l hj
    have e1 : zsm (fun k => zs (zc t k)) (zl t) - zsm (fun k => zs (zc t k)) j = zs (zc t j) := by
      rw [show zl t = j + 1 by omega]
      show zsm (fun k => zs (zc t k)) j + zs (zc t j) - _ = _
      omega
    rw [e1]
    rfl
  | succ m ih =>
    intro j l hj
    rw [List.range'_succ, List.map_cons, List.cons_append]
    simp only [zpk, zpre]
    have h1 : zsm (fun k => zs (zc t k)) (j + 1) = zsm (fun k => zs (zc t k)) j + zs (zc t j) := rfl
    have h2 := zsm_mono (f := fun k => zs (zc t k)) (show j + 1 ≤ zl t by omega)
    by_cases c : l < zs (zc t j)
    · rw [if_pos c, if_pos c, if_pos (by omega)]
    · rw [if_neg c, if_neg c, ih (j + 1) (l - zs (zc t j)) (by omega)]
      by_cases c2 : l - zs (zc t j) < zsm (fun k => zs (zc t k)) (zl t) - zsm (fun k => zs (zc t k)) (j + 1)
      · rw [if_pos c2, if_pos (by omega)]
      · rw [if_neg c2, if_neg (by omega)]
        congr 1
        omega
def znm (t : zT) (k : Nat) : Option zN := if zk t = 6 then some (zm t k) else none
theorem zpk_step {t : zT} {x : Option zN} {st : List zTN} {i : Nat} (hw : zwf 6 t) (h5 : 5 ≤ zk t) (hi : 0 < i) : zpk ((t, x) :: st) i = zpk ((List.range (zl t)).map (fun k => (zc t k, znm t k)) ++ st) (i - 1) := by
  obtain ⟨w1, w2, w3⟩ := hw.2.2.2.2.2.2.2.1 h5
  simp only [zpk]
  rcases Nat.eq_zero_or_pos (zl t) with e | e
  · rw [e] at w1 ⊢
    have : zs t = 1 := by rw [w1]; rfl
    rw [if_neg (by omega), this]
    rfl
  · have hk := zpk_kids (t := t) (nf := znm t) (st := st) (zl t - 1) 0 (i - 1) (by omega)
    rw [show zl t - 1 + 1 = zl t by omega] at hk
    rw [List.range_eq_range', hk]
    have e0 : zsm (fun k => zs (zc t k)) 0 = 0 := rfl
    rw [e0, Nat.sub_zero]
    by_cases c : i < zs t
    · rw [if_pos c, if_pos (by omega)]
      have hb := zpre_b (t := t) (zl t - 1) 0 (i - 1) (by omega) (by rw [e0]; omega) (by omega)
      have e1 : zfnd 6 t i x = zfnd 5 (zc t (zpre t (zl t - 1) 0 (i - 1)).1) (zpre t (zl t - 1) 0 (i - 1)).2 (znm t (zpre t (zl t - 1) 0 (i - 1)).1) := by
        simp only [zfnd]
        rw [if_neg (by omega)]
        rfl
      rw [e1, zfnd_lv 4 5 _ _ _ (w3 _ hb.1) (by omega) hb.2, zfnd_lv 4 6 _ _ _ (w3 _ hb.1) (by omega) hb.2]
    · rw [if_neg c, if_neg (by omega)]
      congr 1
      omega
def mDp (v v' : mS) : Prop := (∀ j, j ≠ 0 → j ≠ 10 → j ≠ 12 → j ≠ 13 → v' j = v j) ∧ ∀ k, k ≠ 18 → v' 0 k = v 0 k
theorem mDp.rf {v : mS} : mDp v v := ⟨fun _ _ _ _ _ => rfl, fun _ _ => rfl⟩
theorem mDp.tr {v v1 v2 : mS} (h : mDp v v1) (k : mDp v1 v2) : mDp v v2 := ⟨fun j a b c d => (k.1 j a b c d).trans (h.1 j a b c d), fun i hi => (k.2 i hi).trans (h.2 i hi)⟩
theorem mD.p {v v' : mS} (h : mD v v') : mDp v v' := ⟨fun j a _ c d => h.1 j a c d, h.2⟩
theorem mDp.h {v v' : mS} (h : mDp v v') : v' 6 = v 6 := h.1 6 (by decide) (by decide) (by decide) (by decide)
theorem mDp.M {v v' : mS} {T : Nat} (h : mDp v v') (hM : mM v T) : mM v' T := mM_w hM (h.2 7 (by decide)) (fun i _ => by rw [h.h])
section QA
variable {v : mS} {T a : Nat} {y : zT}
theorem m_part_145 {K : Int32 → mS → Option (Int32 × mS)} {x : Int32} (h5 : 5 ≤ zk y) : ∀ (m n : Nat) (v : mS) (st : List zTN), mM v T → zU (v 6) T a y → m ≤ zl y → m < n → v 0 18 = zI st.length → st.length + m < 400 → mSp v T st → ∃ v', f_M_part_145 K n x (zI a) (zJ ((m : Int) - 1)) v = K x v' ∧ mD v v' ∧ v' 0 18 = zI ((List.range m).map (fun k => (zc y k, znm y k)) ++ st).length ∧ mSp v' T ((List.range m).map (fun k => (zc y k, znm y k)) ++ st) := by
  intro m
  induction m with
  | zero =>
    intro n v st hM ha hm hn hd hl hs
    obtain ⟨n, rfl, -⟩ := suc_of hn
    refine ⟨v, ?_, mD.rf, by simpa using hd, by simpa using hs⟩
    rw [f_M_part_145, iJ_lt0 (by omega) (by omega), if_pos (by omega)]
  | succ m ih =>
    intro n v st hM ha hm hn hd hl hs
    obtain ⟨n, rfl, hn⟩ := suc_of hn
    have hn := Nat.lt_of_succ_lt_succ hn
    have lt := zwf_l ha.2
    have hky := ha.2.1
    obtain ⟨p, ep, hp⟩ := m_item hM ha h5 (show m < zl y by omega)
    have hnm : ∃ b, f_M_part_145 K (n + 1) x (zI a) (zJ (((m + 1 : Nat) : Int) - 1)) v = f_M_part_182 K (f_M_part_145 K n) x (zI a) (zI m) (zI p) (zI b) v ∧ mNm v T b (znm y m) := by
      rw [f_M_part_145, iJ_lt0 (by omega) (by omega), if_neg (by omega), show zJ (((m + 1 : Nat) : Int) - 1) = zI m by rw [zI_J]; congr 1; omega, ep, bi_s, m_kind hM ha, bi_s, zl_6, iI_eq (by omega) (by omega)]
      by_cases c6 : zk y = 6
      · obtain ⟨q, eq, hq, hq2⟩ := m_name hM ha c6 (show m < zl y by omega)
        refine ⟨q, by rw [if_pos c6, eq, bi_s], ?_⟩
        unfold znm
        rw [if_pos c6]
        exact ⟨hq, hq2⟩
      · refine ⟨0, by rw [if_neg c6]; rfl, ?_⟩
        unfold znm
        rw [if_neg c6]
        rfl
    obtain ⟨b, hst, hb⟩ := hnm
    have hD : mD v (mpush v st.length (zI p) (zI b)) := mpush_D
    have h6 := hD.h
    obtain ⟨v', c1, c2, c3, c4⟩ := ih n (mpush v st.length (zI p) (zI b)) ((zc y m, znm y m) :: st) (hD.M hM) (by rw [h6]; exact ha) (by omega) hn (by rw [mpush_h.2.2.1]; simp) (by simp; omega) ⟨⟨p, b, mpush_h.1, mpush_h.2.1, by rw [h6]; exact hp, mNm_up h6 hb⟩, mSp_up h6 st (fun i hi => mpush_12 (by omega)) hs⟩
    have e1 : (List.range (m + 1)).map (fun k => (zc y k, znm y k)) ++ st = (List.range m).map (fun k => (zc y k, znm y k)) ++ ((zc y m, znm y m) :: st) := by
      rw [List.range_succ, List.map_append, List.append_assoc]; rfl
    rw [e1]
    refine ⟨v', ?_, hD.tr c2, c3, c4⟩
    have e7 : zI m + -1 = zJ ((m : Int) - 1) := by
      rw [zI_J, show (-1 : Int32) = zJ (-1) from rfl, zJ_add]
      rfl
    rw [hst, f_M_part_182, mpush_e hd (by omega), bv_s, nm_s, ← c1, e7]
theorem m_part_l : ∀ (W n : Nat) (v : mS) (st : List zTN) (i : Nat), zskp st ≤ W → W < n → zskp st ≤ 60 → i < zskp st → mM v T → v 0 18 = zI st.length → mSp v T st → ∃ v' a b, f_M_part_71 n (zI i) v = some (zI a, v') ∧ mDp v v' ∧ zU (v' 6) T a (zpk st i).1 ∧ v' 10 62 = zI b ∧ mNm v' T b (zpk st i).2 := by
  intro W
  induction W with
  | zero => intro n v st i hW hn h60 hi; omega
  | succ W ih =>
    intro n v st i hW hn h60 hi hM hd hs
    obtain ⟨n, rfl, hn⟩ := suc_of hn
    have hn := Nat.lt_of_succ_lt_succ hn
    have hl := mSp_l st hs
    cases st with
    | nil => simp [zskp] at hi
    | cons e r =>
      obtain ⟨y, x⟩ := e
      simp only [List.length_cons] at hl hd
      obtain ⟨⟨a, b, ea, eb, ha, hb⟩, hr⟩ := hs
      dsimp only at ha hb
      have hlr := mSp_l r hr
      simp only [zskp] at hW h60 hi
      have hkk := ha.2.1
      have lt := zwf_l ha.2
      have hs1 := zwf_s1 6 _ ha.2
      have e18 : sU v 0 18 (zI r.length) 0 18 = zI r.length := sU_hit
      have e12 : sU v 0 18 (zI r.length) 12 r.length = zI a := by rw [sU_j (by decide)]; exact ea
      have e13 : sU v 0 18 (zI r.length) 13 r.length = zI b := by rw [sU_j (by decide)]; exact eb
      have hD2 : mDp v (sU (sU v 0 18 (zI r.length)) 10 62 (zI b)) := ⟨fun j j0 j10 _ _ => by rw [sU_j j10, sU_j j0], fun k hk => by rw [sU_j (by decide), sU_k hk]⟩
      have e62 : (62 : Int32).toNatClampNeg = 62 := rfl
      have e1 : f_M_part_71 (n + 1) (zI i) v = if i = 0 then some (zI a, sU (sU v 0 18 (zI r.length)) 10 62 (zI b)) else (nm (zI i + (-1)) fun x3_9 => bi (f_M_kindOf (sU (sU v 0 18 (zI r.length)) 10 62 (zI b)) (zI a)) fun r_12 v_10 => if 5 ≤ r_12 then (bi (f_M_size v_10 (zI a)) fun r_16 v_14 => nm (r_16 - 1) fun x5_17 => f_M_part_145 (f_M_part_71 n) fu x3_9 (zI a) x5_17 v_14) else (f_M_part_71 n x3_9 v_10)) := by
        have en : ¬ zI i < 0 := by rw [zl_0, zI_lt (by omega) (by omega)]; omega
        have e0 : (zI i = 0) = (i = 0) := by rw [zl_0, zI_eq (by omega) (by omega)]
        have es : zI (r.length + 1) - 1 = zI r.length := by rw [zl_1, zI_sub (by omega)]; rfl
        rw [f_M_part_71, if_neg en, hd, es, nm_s, e18, gd_I (by omega) (by omega), zI_toNat (by omega), e12, nm_s, gd_I (by omega) (by omega), e13, gd_t (by decide), e62, nm_s, ite_p e0]
      rw [e1]
      have h1062 : sU (sU v 0 18 (zI r.length)) 10 62 (zI b) 10 62 = zI b := sU_hit
      have hr2 : mSp (sU (sU v 0 18 (zI r.length)) 10 62 (zI b)) T r := mSp_up hD2.h r (fun i _ => by rw [sU_j (by decide), sU_j (by decide), sU_j (by decide), sU_j (by decide)]; exact ⟨rfl, rfl⟩) hr
      have e18b : sU (sU v 0 18 (zI r.length)) 10 62 (zI b) 0 18 = zI r.length := by rw [sU_j (by decide)]; exact e18
      generalize sU (sU v 0 18 (zI r.length)) 10 62 (zI b) = w at *
      by_cases c0 : i = 0
      · rw [if_pos c0]
        have e9 : zpk ((y, x) :: r) i = (y, x) := by
          subst c0
          show (if 0 < zs y then zfnd 6 y 0 x else _) = _
          rw [if_pos (by omega)]
          show (if (0 : Nat) = 0 then (y, x) else _) = _
          rw [if_pos rfl]
        rw [e9]
        exact ⟨w, a, b, rfl, hD2, by rw [hD2.h]; exact ha, h1062, mNm_up hD2.h hb⟩
      · have hM2 := hD2.M hM
        have ha2 : zU (w 6) T a y := by rw [hD2.h]; exact ha
        have ei : zI i + -1 = zI (i - 1) := by
          rw [zI_J, zI_J, show (-1 : Int32) = zJ (-1) from rfl, zJ_add]
          congr 1
          omega
        rw [if_neg c0, ei, nm_s, m_kind hM2 ha2, bi_s, zl_5, iI_le (by omega) (by omega)]
        by_cases c5 : 5 ≤ zk y
        · have hz := (ha.2.2.2.2.2.2.2.2.1 c5).1
          have hzk := zskp_m (f := fun k => (zc y k, znm y k)) (st := r) (zl y)
          dsimp only at hzk
          obtain ⟨w3, c1, c2, c3, c4⟩ := m_part_145 (x := zI (i - 1)) (K := f_M_part_71 n) c5 (zl y) fu w r hM2 ha2 (Nat.le_refl _) (fu_lt (by omega)) e18b (by omega) hr2
          have e7 : zI (zl y) - 1 = zJ ((zl y : Int) - 1) := by
            rw [zl_1, zI_J, zI_J, zJ_sub]
            rfl
          rw [if_pos c5, m_size hM2 ha2, bi_s, nm_s, e7, c1, zpk_step ha.2 c5 (by omega)]
          obtain ⟨v', a', b', d1, d2, d3, d4, d5⟩ := ih n w3 _ (i - 1) (by omega) hn (by omega) (by omega) (c2.M hM2) c3 c4
          exact ⟨v', a', b', d1, hD2.tr (c2.p.tr d2), d3, d4, d5⟩
        · have hz := (ha.2.2.2.2.1 (by omega)).1
          rw [if_neg c5]
          have e9 : zpk ((y, x) :: r) i = zpk r (i - 1) := by
            simp only [zpk]
            rw [if_neg (by omega), hz]
          rw [e9]
          obtain ⟨v', a', b', d1, d2, d3, d4, d5⟩ := ih n w r (i - 1) (by omega) hn (by omega) (by omega) hM2 e18b hr2
          exact ⟨v', a', b', d1, hD2.tr d2, d3, d4, d5⟩
/-- the part itself -/
theorem m_part_ok {k i : Nat} (hM : mM v T) (hk : k < 8) (ha : v 8 k = zI a) (hy : zU (v 6) T a y) (hi : i < zs y) : ∃ v' p b, f_M_part v (zI k) (zI i) = some (zI p, v') ∧ mDp (sU v 0 0 0) v' ∧ zU (v' 6) T p (zfnd 5 y i none).1 ∧ v' 10 62 = zI b ∧ mNm v' T b (zfnd 5 y i none).2 := by
  have h24 := hy.2.2.1
  obtain ⟨q0, q1, q2, q3, q4, q5⟩ := zU_head hy
  have hT := hM.2.2.1
  have ew : f_M_within v (zI k) 0 7 = some (1, v) := by
    rw [f_M_within, zl_0, iI_lt (by omega) (by omega), if_neg (by omega), show (7 : Int32) = zI 7 from rfl, iI_lt (by omega) (by omega), if_neg (by omega)]
    rfl
  have en : ¬ zI i < 0 := by rw [zl_0, zI_lt (by omega) (by omega)]; omega
  have e1a : zI a + 1 = zI (a + 1) := by rw [zl_1, zI_add]
  have e1 : f_M_part v (zI k) (zI i) = f_M_part_41 (zI k) (zI i) 0 v := by
    rw [f_M_part, ew, bi_s, if_neg (by decide), if_neg en, gd_I hk (by omega), zI_toNat (by omega), ha, e1a, gd_I (by omega) (by omega), zI_toNat (by omega), q3, iI_lt (by omega) (by omega), if_pos hi]
  have e2 : f_M_part_41 (zI k) (zI i) 0 v = f_M_part_71 fu (zI i) (mpush (sU (sU v 0 0 0) 0 18 (zI 0)) 0 (zI a) (zI 0)) := by
    have ez : sU v 0 0 0 0 0 = 0 := sU_hit
    have e8 : sU (sU v 0 0 0) 0 18 (zI 0) 8 k = zI a := by rw [sU_j (by decide), sU_j (by decide)]; exact ha
    rw [f_M_part_41, nm_s, ez, if_pos rfl, nm_s, gd_I hk (by omega), zI_toNat (by omega)]
    show bv (f_M_pair (sU (sU v 0 0 0) 0 18 (zI 0)) (sU (sU v 0 0 0) 0 18 (zI 0) 8 k) (zI 0)) _ = _
    rw [e8, mpush_e (d := 0) sU_hit (by omega), bv_s]
  have hD : mDp (sU v 0 0 0) (mpush (sU (sU v 0 0 0) 0 18 (zI 0)) 0 (zI a) (zI 0)) := (show mDp (sU v 0 0 0) (sU (sU v 0 0 0) 0 18 (zI 0)) from ⟨fun j a _ _ _ => sU_j a, fun k hk => sU_k hk⟩).tr mpush_D.p
  have h6 : mpush (sU (sU v 0 0 0) 0 18 (zI 0)) 0 (zI a) (zI 0) 6 = v 6 := by rw [hD.h, sU_j (by decide)]
  have hM0 : mM (sU v 0 0 0) T := mM_w hM (sU_k (by decide)) (fun i _ => by rw [sU_j (by decide)])
  obtain ⟨v', p, b, d1, d2, d3, d4, d5⟩ := m_part_l (T := T) 24 fu (mpush (sU (sU v 0 0 0) 0 18 (zI 0)) 0 (zI a) (zI 0)) [(y, none)] i (by simp [zskp]; omega) (fu_lt (by omega)) (by simp [zskp]; omega) (by simp [zskp]; omega) (hD.M hM0) mpush_h.2.2.1 ⟨⟨a, 0, mpush_h.1, mpush_h.2.1, by rw [h6]; exact hy, rfl⟩, trivial⟩
  have e9 : zpk [(y, none)] i = zfnd 5 y i none := by
    simp only [zpk]
    rw [if_pos hi, zfnd_lv 5 6 y i none hy.2 (by omega) hi]
  rw [e9] at d3 d5
  exact ⟨v', p, b, by rw [e1, e2, d1], hD.tr d2, d3, d4, d5⟩
end QA
