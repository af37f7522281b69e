/-! the reference's machine: ALL, with its stack -/
def mSk (v : mS) (T : Nat) : List zT → Prop
  | [] => True
  | t :: st => (∃ a, v 12 st.length = zI a ∧ zU (v 6) T a t) ∧ mSk v T st
def zsk : List zT → Nat
  | [] => 0
  | t :: st => zs t + zsk st
theorem mSk_up {v v' : mS} {T : Nat} (h6 : v' 6 = v 6) : ∀ (st : List zT), (∀ i, i < st.length → v' 12 i = v 12 i) → mSk v T st → mSk v' T st := by
  intro st
  induction st with
  | nil => intro _ _; trivial
  | cons e r ih =>
    intro h k
    obtain ⟨⟨a, ea, ha⟩, k2⟩ := k
    exact ⟨⟨a, (h r.length (by simp)).trans ea, by rw [h6]; exact ha⟩, ih (fun i hi => h i (by simp; omega)) k2⟩
theorem mSk_l {v : mS} {T : Nat} : ∀ st : List zT, mSk v T st → st.length ≤ zsk st := by
  intro st
  induction st with
  | nil => intro _; simp
  | cons e r ih =>
    intro h
    obtain ⟨⟨a, ea, ha⟩, k2⟩ := h
    have := ih k2
    have := zwf_s1 6 _ ha.2
    simp only [List.length_cons, zsk]
    omega
theorem zsk_m {f : Nat → zT} {st : List zT} : ∀ m, zsk ((List.range m).map f ++ st) = zsm (fun k => zs (f k)) m + zsk st := by
  intro m
  induction m generalizing st with
  | zero => simp [zsm]
  | succ m ih =>
    rw [List.range_succ, List.map_append, List.append_assoc]
    simp only [List.map_cons, List.map_nil, List.cons_append, List.nil_append]
    rw [ih]
    simp only [zsk, zsm]
    omega
theorem zall_lv : ∀ (n m : Nat) (t : zT), zwf n t → n ≤ m → zall m t = zall n t := by
  intro n
  induction n with
  | zero => intro m t h; exact h.elim
  | succ n ih =>
    intro m t h hm
    obtain ⟨m, rfl, hm⟩ := suc_of (show n < m by omega)
    simp only [zall]
    by_cases c : zk t < 5
    · rw [if_pos c, if_pos c]
    · rw [if_neg c, if_neg c]
      congr 1
      have hw := (h.2.2.2.2.2.2.2.1 (by omega)).2.2
      have : ∀ m', n ≤ m' → (List.range (zl t)).flatMap (fun k => zall m' (zc t k)) = (List.range (zl t)).flatMap (fun k => zall n (zc t k)) := by
        intro m' hm'
        rw [List.flatMap_def, List.flatMap_def]
        congr 1
        apply List.map_congr_left
        intro k hk
        exact ih m' _ (hw k (List.mem_range.1 hk)) hm'
      exact this m (by omega)
section MZ
variable {op : Nat → Nat} {ar : Nat → Int32} {sx : Nat → zN} {p2 p3 : Nat → Nat} {B F k : Nat} {t y : zT} {vr vr0 : Nat → zT} {l : List zT} {s u Q : Nat} {v : mS} {T : Nat} {sp : zEv} {c d a : Nat}
theorem m_all_76 {K : Int32 → mS → Option mS} {x : Int32} (h5 : 5 ≤ zk y) : ∀ (m n : Nat) (v : mS) (st : List zT), mM v T → zU (v 6) T a y → m ≤ zl y → m < n → v 0 18 = zI st.length → st.length + m < 400 → mSk v T st → ∃ v', f_M_all_76 K n x (zI a) (zJ ((m : Int) - 1)) v = K x v' ∧ mD v v' ∧ v' 0 18 = zI ((List.range m).map (zc y) ++ st).length ∧ mSk v' T ((List.range m).map (zc y) ++ st) := by
  intro m
  induction m with
  | zero =>
    intro n v st hM ha hm hn hd hl hs
    obtain ⟨n, rfl, -⟩ := suc_of hn
    refine ⟨v, ?_, mD.rf, by simpa using hd, by simpa using hs⟩
    rw [f_M_all_76, iJ_lt0 (by omega) (by omega), if_pos (by omega)]
  | succ m ih =>
    intro n v st hM ha hm hn hd hl hs
    obtain ⟨n, rfl, hn⟩ := suc_of hn
    have hn := Nat.lt_of_succ_lt_succ hn
    have lt := zwf_l ha.2
    obtain ⟨p, ep, hp⟩ := m_item hM ha h5 (show m < zl y by omega)
    have hD : mD v (mpush v st.length (zI p) 0) := mpush_D
    have h6 := hD.h
    obtain ⟨v', c1, c2, c3, c4⟩ := ih n (mpush v st.length (zI p) 0) (zc y m :: st) (hD.M hM) (by rw [h6]; exact ha) (by omega) hn (by rw [mpush_h.2.2.1]; simp) (by simp; omega) ⟨⟨p, mpush_h.1, by rw [h6]; exact hp⟩, mSk_up h6 st (fun i hi => (mpush_12 (by omega)).1) hs⟩
    have e1 : (List.range (m + 1)).map (zc y) ++ st = (List.range m).map (zc y) ++ (zc y m :: st) := by
      rw [List.range_succ, List.map_append, List.append_assoc]; rfl
    rw [e1]
    refine ⟨v', ?_, hD.tr c2, c3, c4⟩
    rw [f_M_all_76, iJ_lt0 (by omega) (by omega), if_neg (by omega), show zJ (((m + 1 : Nat) : Int) - 1) = zI m by rw [zI_J]; congr 1; omega, ep, bi_s, mpush_e hd (by omega), bv_s, nm_s, ← c1]
    have e7 : zI m + -1 = zJ ((m : Int) - 1) := by
      rw [zI_J, show (-1 : Int32) = zJ (-1) from rfl, zJ_add]
      rfl
    rw [e7]
theorem m_all_l (hF : F < 10) : ∀ (W n : Nat) (v : mS) (l st : List zT), zsk st ≤ W → W < n → zsk st ≤ 60 → mFr op ar sx p2 p3 B F k t vr l s u Q v T → v 0 18 = zI st.length → mSk v T st → ∃ v', f_M_all_16 n (zI F) v = some v' ∧ mX F v T v' T ∧ mFr op ar sx p2 p3 B F k t vr (l ++ st.flatMap (zall 6)) s u Q v' T := by
  have hdead : ∀ (n : Nat) (v : mS) (l r : List zT), mFr op ar sx p2 p3 B F k t vr l s u Q v T → ¬ v 0 21 = 0 → f_M_all_16 (n + 1) (zI F) v = some v ∧ mFr op ar sx p2 p3 B F k t vr (l ++ r) s u Q v T := by
    intro n v l r h h0
    obtain ⟨a1, a2, a3, a4, a5, a6, a7, a8, a9, a10, a11⟩ := h
    refine ⟨?_, a1, a2, a3, a4, a5, a6, a7, a8, ?_, a10, a11⟩
    · rw [f_M_all_16, if_neg h0]
      split <;> rfl
    · rcases a9 with ⟨b1, b2, b3⟩ | ⟨b1, b2, b3⟩
      · exact absurd b2 h0
      · exact Or.inr ⟨by simp; omega, b2, b3⟩
  intro W
  induction W with
  | zero =>
    intro n v l st hW hn h60 h hd hs
    obtain ⟨n, rfl, -⟩ := suc_of hn
    have hl := mSk_l st hs
    cases st with
    | nil =>
      refine ⟨v, ?_, mX.rf, by simpa using h⟩
      rw [f_M_all_16, hd, zl_0, iI_le (by simp) (by omega), if_pos (by simp)]
      rfl
    | cons e r => simp at hl; omega
  | succ W ih =>
    intro n v l st hW hn h60 h hd hs
    obtain ⟨n, rfl, hn⟩ := suc_of hn
    have hn := Nat.lt_of_succ_lt_succ hn
    have hl := mSk_l st hs
    cases st with
    | nil =>
      refine ⟨v, ?_, mX.rf, by simpa using h⟩
      rw [f_M_all_16, hd, zl_0, iI_le (by simp) (by omega), if_pos (by simp)]
      rfl
    | cons y r =>
      by_cases h0 : v 0 21 = 0
      · simp only [List.length_cons] at hl hd
        obtain ⟨⟨a, ea, ha⟩, hr⟩ := hs
        have hlr := mSk_l r hr
        simp only [zsk] at hW h60
        have hkk := ha.2.1
        have lt := zwf_l ha.2
        have hD2 : mD v (sU v 0 18 (zI r.length)) := ⟨fun j a _ _ => sU_j a, fun k hk => sU_k hk⟩
        have h2 := mFr_E (u2 := u) h (hD2.E (T := T)) (hD2.M h.2.1) (sU_k (by decide)) (Nat.le_refl _)
        have e18 : sU v 0 18 (zI r.length) 0 18 = zI r.length := sU_hit
        have e12 : sU v 0 18 (zI r.length) 12 r.length = zI a := by rw [sU_j (by decide)]; exact ea
        have hr2 : mSk (sU v 0 18 (zI r.length)) T r := mSk_up hD2.h r (fun i _ => by rw [sU_j (by decide)]) hr
        have ha2 : zU (sU v 0 18 (zI r.length) 6) T a y := by rw [hD2.h]; exact ha
        have hX2 : mX F v T (sU v 0 18 (zI r.length)) T := (hD2.E (T := T)).X
        have e1 : f_M_all_16 (n + 1) (zI F) v = bv (f_M_emit (sU v 0 18 (zI r.length)) (zI F) (zI a)) fun v_6 => bi (f_M_kindOf v_6 (zI a)) fun r_10 v_8 => if 5 ≤ r_10 then (bi (f_M_size v_8 (zI a)) fun r_14 v_12 => nm (r_14 - 1) fun x3_15 => f_M_all_76 (f_M_all_16 n) fu (zI F) (zI a) x3_15 v_12) else (f_M_all_16 n (zI F) v_8) := by
          rw [f_M_all_16, hd, zl_0, iI_le (by omega) (by omega), if_neg (by omega), ← zl_0, if_pos h0, zl_1, zI_sub (by omega), show r.length + 1 - 1 = r.length by omega, nm_s, e18, gd_I (by omega) (by omega), zI_toNat (by omega), e12, nm_s]
        generalize sU v 0 18 (zI r.length) = w at *
        obtain ⟨w2, b1, b2, b3, b4, b5⟩ := mFr_emit hF h2 ha2
        rw [e1, b1, bv_s, m_kind b2.2.1 (b3.U ha2), bi_s, zl_5, iI_le (by omega) (by omega)]
        have hr3 : mSk w2 T r := mSk_up (b4 6 (by decide) (by decide) (by decide)) r (fun i _ => by rw [b4 12 (by decide) (by decide) (by decide)]) hr2
        have e18' : w2 0 18 = zI r.length := by rw [b5 18 (by decide)]; exact e18
        by_cases c5 : 5 ≤ zk y
        · rw [if_pos c5, m_size b2.2.1 (b3.U ha2), bi_s, nm_s]
          obtain ⟨w3, c1, c2, c3, c4⟩ := m_all_76 (x := zI F) (K := f_M_all_16 n) c5 (zl y) fu w2 r b2.2.1 (b3.U ha2) (Nat.le_refl _) (fu_lt (by omega)) e18' (by omega) hr3
          have hz := (ha.2.2.2.2.2.2.2.2.1 c5).1
          have hzk := zsk_m (f := zc y) (st := r) (zl y)
          have h3 := mFr_E (u2 := u) b2 (c2.E (T := T)) (c2.M b2.2.1) (c2.2 21 (by decide)) (Nat.le_refl _)
          obtain ⟨v', d1, d2, d3⟩ := ih n w3 _ _ (by omega) hn (by omega) h3 c3 c4
          refine ⟨v', ?_, hX2.tr (b3.tr ((c2.E (T := T)).X.tr d2)), ?_⟩
          · have e7 : zI (zl y) - 1 = zJ ((zl y : Int) - 1) := by
              rw [zl_1, zI_J, zI_J, zJ_sub]
              rfl
            rw [← d1, ← c1, e7]
          · rw [List.append_assoc] at d3
            have e9 : (y :: r).flatMap (zall 6) = [y] ++ ((List.range (zl y)).map (zc y) ++ r).flatMap (zall 6) := by
              have hw := (ha.2.2.2.2.2.2.2.2.1 c5).2.2
              have : zall 6 y = y :: (List.range (zl y)).flatMap (fun k => zall 5 (zc y k)) := by
                show y :: (if zk y < 5 then [] else _) = _
                rw [if_neg (by omega)]
              rw [List.flatMap_cons, this, List.flatMap_append, List.flatMap_map]
              have e10 : (List.range (zl y)).flatMap (fun k => zall 5 (zc y k)) = (List.range (zl y)).flatMap (fun k => zall 6 (zc y k)) := by
                rw [List.flatMap_def, List.flatMap_def]
                congr 1
                apply List.map_congr_left
                intro k hk
                exact (zall_lv 5 6 _ (hw k (List.mem_range.1 hk)) (by omega)).symm
              rw [e10]
              simp
            rw [e9]
            exact d3
        · rw [if_neg c5]
          have hz := (ha.2.2.2.2.1 (by omega)).1
          obtain ⟨v', d1, d2, d3⟩ := ih n w2 _ r (by omega) hn (by omega) b2 e18' hr3
          refine ⟨v', d1, hX2.tr (b3.tr d2), ?_⟩
          rw [List.append_assoc] at d3
          have e9 : (y :: r).flatMap (zall 6) = [y] ++ r.flatMap (zall 6) := by
            have : zall 6 y = [y] := by
              show y :: (if zk y < 5 then [] else _) = _
              rw [if_pos (by omega)]
            rw [List.flatMap_cons, this]
          rw [e9]
          exact d3
      · obtain ⟨c1, c2⟩ := hdead n v l ((y :: r).flatMap (zall 6)) h h0
        exact ⟨v, c1, mX.rf, c2⟩
theorem lf_o30 (hF : F < 10) (hk : k < 32) (h : mFr op ar sx p2 p3 B F k t vr l s u Q v T) (ho : op k = 30) : mOc F Q vr s 0 (f_M_leaf v (zI F) (zI (op k))) (zapp l (some (zall 6 t, none, s))) v T := by
  obtain ⟨a1, a2, a3, ⟨b, eb, hb⟩, a5, a6, a7, a8, a9, a10, a11⟩ := id h
  have hB := a1.1
  have hkk := hb.2.1
  have h24 := hb.2.2.1
  rw [f_M_leaf, gd_I hF (by omega), zI_toNat (by omega), eb, nm_s, gd_I hF (by omega), a3, gd_I (by omega) (by omega), zI_toNat (by omega), (a1.2.1 k hk).2, nm_s, m_kind a2 hb, bi_s, ho]
  repeat rw [if_neg (by decide)]
  rw [if_pos (by decide)]
  have hD2 : mD v (sU v 0 18 (zI 0)) := ⟨fun j a _ _ => sU_j a, fun k hk => sU_k hk⟩
  have hD3 : mD v (mpush (sU v 0 18 (zI 0)) 0 (zI b) 0) := hD2.tr mpush_D
  have h2 := mFr_E (u2 := u) h (hD3.E (T := T)) (hD3.M h.2.1) (hD3.2 21 (by decide)) (Nat.le_refl _)
  obtain ⟨v', c1, c2, c3⟩ := m_all_l hF 24 fu _ l [t] (by simp [zsk]; omega) (fu_lt (by omega)) (by simp [zsk]; omega) h2 mpush_h.2.2.1 ⟨⟨b, mpush_h.1, by rw [hD3.h]; exact hb⟩, trivial⟩
  have e16 : sU v 0 18 (zI 0) 16 F = zI b := by rw [sU_j (by decide)]; exact eb
  have e1 : f_M_all v (zI F) = some v' := by
    rw [f_M_all, zl_0, nm_s, gd_I hF (by omega), zI_toNat (by omega), e16, ← zl_0, zl_0, mpush_e (d := 0) sU_hit (by omega), bv_s]
    exact c1
  rw [e1, bv_s]
  have c4 : mFr op ar sx p2 p3 B F k t vr (l ++ zall 6 t) s u Q v' T := by simpa using c3
  exact oc_X ((hD3.E (T := T)).X.tr c2) (lf_0 hF c4)
end MZ
