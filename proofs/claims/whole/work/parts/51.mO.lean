/-! the reference's order of values: its stack of pairs -/
abbrev zSe : Type := (zT × zT) ⊕ Int
def zsev (e : zSe) : Int := match e with
  | .inl q => zcmp 6 q.1 q.2
  | .inr c => c
def zsv : List zSe → Int
  | [] => 0
  | e :: r => if zsev e = 0 then zsv r else zsev e
def zsw (e : zSe) : Nat := match e with
  | .inl q => 2 * zs q.1
  | .inr _ => 1
def zswt : List zSe → Nat
  | [] => 0
  | e :: r => zsw e + zswt r
theorem zsv_r (c : Int) (r : List zSe) : zsv (.inr c :: r) = if c = 0 then zsv r else c := rfl
theorem zsv_l (t u : zT) (r : List zSe) : zsv (.inl (t, u) :: r) = if zcmp 6 t u = 0 then zsv r else zcmp 6 t u := rfl
theorem zlex_s {f : Nat → Int} {e : Int} {m i : Nat} : zlex f e (m + 1) i = if f i = 0 then zlex f e m (i + 1) else f i := rfl
def mSe (v : mS) (T i : Nat) (e : zSe) : Prop := match e with
  | .inl q => ∃ a b, v 12 i = zI a ∧ v 13 i = zI b ∧ zU (v 6) T a q.1 ∧ zU (v 6) T b q.2
  | .inr c => v 12 i = 0 ∧ v 13 i = zJ c ∧ (c = -1 ∨ c = 0 ∨ c = 1)
def mSt (v : mS) (T : Nat) : List zSe → Prop
  | [] => True
  | e :: r => mSe v T r.length e ∧ mSt v T r
def mD (v v' : mS) : Prop := (∀ j, j ≠ 0 → j ≠ 12 → j ≠ 13 → v' j = v j) ∧ ∀ k, k ≠ 18 → v' 0 k = v 0 k
theorem mD.rf {v : mS} : mD v v := ⟨fun _ _ _ _ => rfl, fun _ _ => rfl⟩
theorem mD.tr {v v1 v2 : mS} (h : mD v v1) (k : mD v1 v2) : mD v v2 := ⟨fun j a b c => (k.1 j a b c).trans (h.1 j a b c), fun i hi => (k.2 i hi).trans (h.2 i hi)⟩
theorem mD.M {v v' : mS} {T : Nat} (h : mD v v') (hM : mM v T) : mM v' T := by
  obtain ⟨m1, m2, m3, m4⟩ := hM
  refine ⟨by rw [h.2 7 (by decide)]; exact m1, m2, m3, fun k hk => ?_⟩
  rw [h.1 6 (by decide) (by decide) (by decide)]
  exact m4 k hk
theorem mD.h {v v' : mS} (h : mD v v') : v' 6 = v 6 := h.1 6 (by decide) (by decide) (by decide)
theorem mSe_up {v v' : mS} {T i : Nat} {e : zSe} (h6 : v' 6 = v 6) (h12 : v' 12 i = v 12 i) (h13 : v' 13 i = v 13 i) (h : mSe v T i e) : mSe v' T i e := by
  cases e with
  | inl q =>
    obtain ⟨a, b, x, y, z, w⟩ := h
    exact ⟨a, b, h12.trans x, h13.trans y, by rw [h6]; exact z, by rw [h6]; exact w⟩
  | inr c =>
    obtain ⟨x, y, z⟩ := h
    exact ⟨h12.trans x, h13.trans y, z⟩
theorem mSt_up {v v' : mS} {T : Nat} (h6 : v' 6 = v 6) : ∀ (st : List zSe), (∀ i, i < st.length → v' 12 i = v 12 i ∧ v' 13 i = v 13 i) → mSt v T st → mSt v' T st := by
  intro st
  induction st with
  | nil => intro _ _; trivial
  | cons e r ih =>
    intro h k
    have h1 := h r.length (by simp)
    exact ⟨mSe_up h6 h1.1 h1.2 k.1, ih (fun i hi => h i (by simp; omega)) k.2⟩
def mpush (v : mS) (d : Nat) (x y : Int32) : mS := sU (sU (sU v 12 d x) 13 d y) 0 18 (zI (d + 1))
theorem mpush_e {v : mS} {d : Nat} {x y : Int32} (hd : v 0 18 = zI d) (h : d < 400) : f_M_pair v x y = some (mpush v d x y) := by
  have e1 : sU v 12 d x 0 18 = zI d := by rw [sU_j (by decide)]; exact hd
  have e2 : sU (sU v 12 d x) 13 d y 0 18 = zI d := by rw [sU_j (by decide)]; exact e1
  rw [f_M_pair, hd, gd_I h (by omega), nm_s, zI_toNat (by omega), e1, gd_I h (by omega), nm_s, zI_toNat (by omega), e2, nm_s, zl_1, zI_add]
  rfl
theorem mpush_12 {v : mS} {d i : Nat} {x y : Int32} (h : i ≠ d) : mpush v d x y 12 i = v 12 i ∧ mpush v d x y 13 i = v 13 i := by
  unfold mpush
  exact ⟨by rw [sU_j (by decide), sU_j (by decide), sU_k h], by rw [sU_j (by decide), sU_k h, sU_j (by decide)]⟩
theorem mpush_h {v : mS} {d : Nat} {x y : Int32} : mpush v d x y 12 d = x ∧ mpush v d x y 13 d = y ∧ mpush v d x y 0 18 = zI (d + 1) ∧ mpush v d x y 6 = v 6 := by
  unfold mpush
  exact ⟨by rw [sU_j (by decide), sU_j (by decide), sU_hit], by rw [sU_j (by decide), sU_hit], sU_hit, by rw [sU_j (by decide), sU_j (by decide), sU_j (by decide)]⟩
theorem mpush_D {v : mS} {d : Nat} {x y : Int32} : mD v (mpush v d x y) := by
  unfold mpush
  refine ⟨fun j a b c => ?_, fun k hk => ?_⟩
  · rw [sU_j a, sU_j c, sU_j b]
  · rw [sU_k hk, sU_j (by decide), sU_j (by decide)]
theorem mpush_st {v : mS} {T : Nat} {e : zSe} {st : List zSe} {x y : Int32} (h : mSt v T st) (he : mSe (mpush v st.length x y) T st.length e) : mSt (mpush v st.length x y) T (e :: st) := ⟨he, mSt_up mpush_h.2.2.2 st (fun i hi => mpush_12 (by omega)) h⟩
def zprs (t u : zT) : Nat → List zSe → List zSe
  | 0, st => st
  | m + 1, st => zprs t u m (.inl (zc t m, zc u m) :: st)
theorem zprs_l (t u : zT) : ∀ (m : Nat) (st : List zSe), (zprs t u m st).length = m + st.length := by
  intro m
  induction m with
  | zero => intro st; simp [zprs]
  | succ m ih => intro st; simp only [zprs]; rw [ih]; simp; omega
theorem zprs_w (t u : zT) : ∀ (m : Nat) (st : List zSe), zswt (zprs t u m st) = 2 * zsm (fun k => zs (zc t k)) m + zswt st := by
  intro m
  induction m with
  | zero => intro st; simp [zprs, zsm]
  | succ m ih => intro st; simp only [zprs, zsm]; rw [ih]; simp only [zswt, zsw]; omega
theorem zlex_sn {F : Nat → Int} {e : Int} : ∀ (m i : Nat), zlex F e (m + 1) i = zlex F (if F (i + m) = 0 then e else F (i + m)) m i := by
  intro m
  induction m with
  | zero => intro i; simp [zlex]
  | succ m ih =>
    intro i
    have h1 : zlex F e (m + 1 + 1) i = if F i = 0 then zlex F e (m + 1) (i + 1) else F i := rfl
    rw [h1, ih (i + 1)]
    simp only [zlex]
    rw [show i + 1 + m = i + (m + 1) by omega]
theorem zprs_v (t u : zT) : ∀ (m : Nat) (st : List zSe), zsv (zprs t u m st) = zlex (fun k => zcmp 6 (zc t k) (zc u k)) (zsv st) m 0 := by
  intro m
  induction m with
  | zero => intro st; rfl
  | succ m ih =>
    intro st
    simp only [zprs]
    rw [ih, zlex_sn, zsv_l, Nat.zero_add]
theorem zlex_if {F : Nat → Int} {e o : Int} : ∀ (m i : Nat), zlex F (if e = 0 then o else e) m i = if zlex F e m i = 0 then o else zlex F e m i := by
  intro m
  induction m with
  | zero => intro i; rfl
  | succ m ih =>
    intro i
    by_cases c : F i = 0
    · have e1 : zlex F e (m + 1) i = zlex F e m (i + 1) := by rw [zlex_s, if_pos c]
      have e2 : zlex F (if e = 0 then o else e) (m + 1) i = zlex F (if e = 0 then o else e) m (i + 1) := by rw [zlex_s, if_pos c]
      rw [e2, e1]; exact ih _
    · have e1 : zlex F e (m + 1) i = F i := by rw [zlex_s, if_neg c]
      have e2 : zlex F (if e = 0 then o else e) (m + 1) i = F i := by rw [zlex_s, if_neg c]
      rw [e2, e1, if_neg c]
theorem zcmp_lv : ∀ (n m : Nat) (t u : zT), zwf n t → zwf m t → zcmp n t u = zcmp m t u := by
  intro n
  induction n with
  | zero => intro m t u h; exact h.elim
  | succ n ih =>
    intro m t u h1 h2
    cases m with
    | zero => exact h2.elim
    | succ m =>
      have hk : 5 ≤ zk t → zlex (fun k => zcmp n (zc t k) (zc u k)) (zsg ((zl t : Int) - zl u)) (min (zl t) (zl u)) 0 = zlex (fun k => zcmp m (zc t k) (zc u k)) (zsg ((zl t : Int) - zl u)) (min (zl t) (zl u)) 0 := by
        intro h5
        refine zlex_eq _ _ (fun k _ hk => ?_)
        exact ih m _ _ ((h1.2.2.2.2.2.2.2.1 h5).2.2 k (by omega)) ((h2.2.2.2.2.2.2.2.1 h5).2.2 k (by omega))
      simp only [zcmp]
      by_cases c : zk t = zk u
      · rw [if_pos c, if_pos c]
        by_cases c3 : zk t = 3
        · rw [if_pos c3, if_pos c3]
        · rw [if_neg c3, if_neg c3]
          by_cases c4 : zk t = 4
          · rw [if_pos c4, if_pos c4]
          · rw [if_neg c4, if_neg c4]
            by_cases c5 : zk t = 5
            · rw [if_pos c5, if_pos c5]; exact hk (by omega)
            · rw [if_neg c5, if_neg c5]
              by_cases c6 : zk t = 6
              · rw [if_pos c6, if_pos c6, hk (by omega)]
              · rw [if_neg c6, if_neg c6]
      · rw [if_neg c, if_neg c]
theorem zcmp_56 {t u : zT} (h5 : 5 ≤ zk t) (hw : zwf 6 t) : zlex (fun k => zcmp 5 (zc t k) (zc u k)) (zsg ((zl t : Int) - zl u)) (min (zl t) (zl u)) 0 = zlex (fun k => zcmp 6 (zc t k) (zc u k)) (zsg ((zl t : Int) - zl u)) (min (zl t) (zl u)) 0 := by
  refine zlex_eq _ _ (fun k _ hk => ?_)
  have w := (hw.2.2.2.2.2.2.2.1 h5).2.2 k (by omega)
  exact (zcmp_lv 5 6 _ _ w (zwf_6 w)).symm ▸ rfl
section MO
variable {T a b : Nat} {t u : zT}
theorem m_like_195 (h5 : 5 ≤ zk t) (h5u : 5 ≤ zk u) : ∀ (m n : Nat) (v : mS) (st : List zSe), mM v T → zU (v 6) T a t → zU (v 6) T b u → m ≤ zl t → m ≤ zl u → m < n → v 0 18 = zI st.length → st.length + m < 400 → mSt v T st → ∃ v', f_M_likeOrder_195 n (zI a) (zI b) (zJ ((m : Int) - 1)) v = some (0, v') ∧ mD v v' ∧ v' 0 18 = zI (zprs t u m st).length ∧ mSt v' T (zprs t u m st) := by
  intro m
  induction m with
  | zero =>
    intro n v st hM ha hb h1 h2 hn hd hl hs
    obtain ⟨n, rfl, -⟩ := suc_of hn
    have e0 : zJ (((0 : Nat) : Int) - 1) < 0 := by rw [zl_0, zI_J, zJ_lt (by omega) (by omega) (by omega) (by omega)]; omega
    exact ⟨v, by rw [f_M_likeOrder_195, if_pos e0], mD.rf, hd, hs⟩
  | succ m ih =>
    intro n v st hM ha hb h1 h2 hn hd hl hs
    obtain ⟨n, rfl, hn⟩ := suc_of hn
    have hn := Nat.lt_of_succ_lt_succ hn
    have la := zwf_l ha.2
    have em : zJ (((m + 1 : Nat) : Int) - 1) = zI m := by rw [zI_J]; congr 1; omega
    have e0 : ¬ zI m < 0 := by rw [zl_0, zI_lt (by omega) (by omega)]; omega
    obtain ⟨p, ep, hp⟩ := m_item hM ha h5 (show m < zl t by omega)
    obtain ⟨q, eq, hq⟩ := m_item hM hb h5u (show m < zl u by omega)
    have hst := mpush_st (e := .inl (zc t m, zc u m)) (x := zI p) (y := zI q) hs ⟨p, q, mpush_h.1, mpush_h.2.1, by rw [mpush_h.2.2.2]; exact hp, by rw [mpush_h.2.2.2]; exact hq⟩
    obtain ⟨v', f1, f2, f3, f4⟩ := ih n (mpush v st.length (zI p) (zI q)) (.inl (zc t m, zc u m) :: st) (mpush_D.M hM) (by rw [mpush_h.2.2.2]; exact ha) (by rw [mpush_h.2.2.2]; exact hb) (by omega) (by omega) hn mpush_h.2.2.1 (by simp; omega) hst
    refine ⟨v', ?_, mpush_D.tr f2, f3, f4⟩
    have em2 : zI m + (-1) = zJ ((m : Int) - 1) := by rw [zl_m1, zI_J, zJ_add]; rfl
    rw [f_M_likeOrder_195, em, if_neg e0, ep, bi_s, eq, bi_s, mpush_e hd (by omega), bv_s, nm_s, em2]
    exact f1
theorem m_like_107 (h6 : zk t = 6) (h6u : zk u = 6) {v : mS} (hM : mM v T) (ha : zU (v 6) T a t) (hb : zU (v 6) T b u) : ∀ (m n i : Nat), i + m = min (zl t) (zl u) → m < n → f_M_likeOrder_107 n (zI a) (zI b) (zI (min (zl t) (zl u))) (zI i) v = if zlex (fun k => zct (zm t k) (zm u k)) (zsg ((zl t : Int) - zl u)) m i = 0 then f_M_likeOrder_189 (zI a) (zI b) (zI (min (zl t) (zl u))) v else some (zJ (zlex (fun k => zct (zm t k) (zm u k)) (zsg ((zl t : Int) - zl u)) m i), v) := by
  have la := zwf_l ha.2
  have lb := zwf_l hb.2
  intro m
  induction m with
  | zero =>
    intro n i hi hn
    obtain ⟨n, rfl, -⟩ := suc_of hn
    rw [f_M_likeOrder_107, iI_le (by omega) (by omega), if_pos (by omega), m_size hM ha, bi_s, m_size hM hb, bi_s, iI_eq (by omega) (by omega)]
    simp only [zlex, zsg_0]
    by_cases c : zl t = zl u
    · rw [if_pos c, if_pos (by omega)]
    · rw [if_neg c, if_neg (by omega), m_size hM ha, bi_s, m_size hM hb, bi_s, zI_d64 (by omega) (by omega), m_sign (by omega) (by omega), bi_s]
  | succ m ih =>
    intro n i hi hn
    obtain ⟨n, rfl, hn⟩ := suc_of hn
    have hn := Nat.lt_of_succ_lt_succ hn
    obtain ⟨p, ep, hp, hp2⟩ := m_name hM ha h6 (show i < zl t by omega)
    obtain ⟨q, eq, hq, hq2⟩ := m_name hM hb h6u (show i < zl u by omega)
    have hr := zct_r (zm t i) (zm u i)
    have e0 : (zJ (zct (zm t i) (zm u i)) = 0) = (zct (zm t i) (zm u i) = 0) := by rw [zl_0, zI_J, zJ_eq (by omega) (by omega) (by omega) (by omega)] <;> rfl
    rw [f_M_likeOrder_107, iI_le (by omega) (by omega), if_neg (by omega), ep, bi_s, eq, bi_s, m_text hM hp hq hp2 hq2, bi_s, ite_p e0]
    simp only [zlex]
    by_cases c : zct (zm t i) (zm u i) = 0
    · rw [if_pos c, if_pos c, nm_s, zl_1, zI_add]
      exact ih n (i + 1) (by omega) hn
    · rw [if_neg c, if_neg c, if_neg c, ep, bi_s, eq, bi_s, m_text hM hp hq hp2 hq2, bi_s]
/-- like kinds: what is left of the order is on the stack -/
theorem m_like {v : mS} {st : List zSe} (hM : mM v T) (ha : zU (v 6) T a t) (hb : zU (v 6) T b u) (hk : zk t = zk u) (hd : v 0 18 = zI st.length) (hl : st.length + 14 < 400) (hs : mSt v T st) : ∃ c v', f_M_likeOrder v (zI a) (zI b) = some (zJ c, v') ∧ mD v v' ∧ (c = -1 ∨ c = 0 ∨ c = 1) ∧ (c ≠ 0 → zcmp 6 t u = c) ∧ (c = 0 → ∃ st', v' 0 18 = zI st'.length ∧ mSt v' T st' ∧ zsv st' = zsv (.inl (t, u) :: st) ∧ zswt st' < 2 * zs t + zswt st) := by
  have ka := ha.2.1
  have kb := hb.2.1
  have la := zwf_l ha.2
  have lb := zwf_l hb.2
  have s1 := zwf_s1 6 t ha.2
  have hsv : zsv (.inl (t, u) :: st) = if zcmp 6 t u = 0 then zsv st else zcmp 6 t u := rfl
  by_cases c3 : 3 ≤ zk t
  · by_cases e3 : zk t = 3
    · have b1 := zok_b (ha.2.2.2.2.2.2.1 e3)
      have b2 := zok_b (hb.2.2.2.2.2.2.1 (by omega))
      have hz : zcmp 6 t u = zsg (zv t - zv u) := by simp only [zcmp]; rw [if_pos hk, if_pos e3]
      refine ⟨zsg (zv t - zv u), v, ?_, mD.rf, zsg_r _, fun _ => hz, fun h0 => ⟨st, hd, hs, ?_, by omega⟩⟩
      · rw [f_M_likeOrder, m_kind hM ha, bi_s, zl_3, iI_le (by omega) (by omega), if_pos c3, iI_eq (by omega) (by omega), if_pos e3, m_num hM ha e3, bi_s, m_num hM hb (by omega), bi_s, zK_sub, m_sign (by omega) (by omega), bi_s]
      · rw [hsv, hz, h0, if_pos rfl]
    · by_cases e4 : zk t = 4
      · obtain ⟨x1, x2⟩ := zY_U ha e4
        obtain ⟨y1, y2⟩ := zY_U hb (by omega)
        have hz : zcmp 6 t u = zct (zl t, zx t) (zl u, zx u) := by simp only [zcmp]; rw [if_pos hk, if_neg e3, if_pos e4]
        refine ⟨zct (zl t, zx t) (zl u, zx u), v, ?_, mD.rf, zct_r _ _, fun _ => hz, fun h0 => ⟨st, hd, hs, ?_, by omega⟩⟩
        · rw [f_M_likeOrder, m_kind hM ha, bi_s, zl_3, iI_le (by omega) (by omega), if_pos c3, iI_eq (by omega) (by omega), if_neg e3, zl_4, iI_eq (by omega) (by omega), if_pos e4, m_text hM x1 y1 x2 y2, bi_s]
        · rw [hsv, hz, h0, if_pos rfl]
      · have h5 : 5 ≤ zk t := by omega
        have hsz := (ha.2.2.2.2.2.2.2.2.1 h5).1
        have hmin : ∀ w : mS, mM w T → zU (w 6) T a t → zU (w 6) T b u → f_M_likeOrder w (zI a) (zI b) = f_M_likeOrder_71 (zI a) (zI b) (zI (zk t)) (zI (min (zl t) (zl u))) w := by
          intro w hMw haw hbw
          rw [f_M_likeOrder, m_kind hMw haw, bi_s, zl_3, iI_le (by omega) (by omega), if_pos c3, iI_eq (by omega) (by omega), if_neg e3, zl_4, iI_eq (by omega) (by omega), if_neg e4, m_size hMw haw, bi_s, m_size hMw hbw, bi_s, iI_le (by omega) (by omega)]
          by_cases cm : zl u ≤ zl t
          · rw [if_pos cm, m_size hMw hbw, bi_s, Nat.min_eq_right cm]
          · rw [if_neg cm, m_size hMw haw, bi_s, Nat.min_eq_left (by omega)]
        have hsm : 2 * zsm (fun k => zs (zc t k)) (min (zl t) (zl u)) ≤ 2 * zs t - 2 := by
          have := zsm_mono (f := fun k => zs (zc t k)) (Nat.min_le_left (zl t) (zl u))
          omega
        have e189 : ∀ (w : mS) (st1 : List zSe), mM w T → zU (w 6) T a t → zU (w 6) T b u → w 0 18 = zI st1.length → st1.length + 13 < 400 → mSt w T st1 → ∃ v', f_M_likeOrder_189 (zI a) (zI b) (zI (min (zl t) (zl u))) w = some (0, v') ∧ mD w v' ∧ v' 0 18 = zI (zprs t u (min (zl t) (zl u)) st1).length ∧ mSt v' T (zprs t u (min (zl t) (zl u)) st1) := by
          intro w st1 hMw haw hbw hdw hlw hsw
          obtain ⟨v', f1, f2, f3, f4⟩ := m_like_195 h5 (by omega) (min (zl t) (zl u)) fu w st1 hMw haw hbw (Nat.min_le_left _ _) (Nat.min_le_right _ _) (fu_lt (by omega)) hdw (by omega) hsw
          refine ⟨v', ?_, f2, f3, f4⟩
          rw [f_M_likeOrder_189, nm_s, zl_1, zI_J (min (zl t) (zl u)), zI_J 1, zJ_sub]
          exact f1
        by_cases e5 : zk t = 5
        · have hz : zcmp 6 t u = zlex (fun k => zcmp 6 (zc t k) (zc u k)) (zsg ((zl t : Int) - zl u)) (min (zl t) (zl u)) 0 := by
            rw [← zcmp_56 h5 ha.2]
            simp only [zcmp]; rw [if_pos hk, if_neg e3, if_neg e4, if_pos e5]
          have hst := mpush_st (e := .inr (zsg ((zl t : Int) - zl u))) (x := 0) (y := zJ (zsg ((zl t : Int) - zl u))) hs ⟨mpush_h.1, mpush_h.2.1, zsg_r _⟩
          obtain ⟨v', f1, f2, f3, f4⟩ := e189 (mpush v st.length 0 (zJ (zsg ((zl t : Int) - zl u)))) (.inr (zsg ((zl t : Int) - zl u)) :: st) (mpush_D.M hM) (by rw [mpush_h.2.2.2]; exact ha) (by rw [mpush_h.2.2.2]; exact hb) mpush_h.2.2.1 (by simp; omega) hst
          refine ⟨0, v', ?_, mpush_D.tr f2, Or.inr (Or.inl rfl), fun h => absurd rfl h, fun _ => ⟨_, f3, f4, ?_, ?_⟩⟩
          · rw [hmin v hM ha hb, f_M_likeOrder_71, e5, zl_5, if_pos rfl, m_size hM ha, bi_s, m_size hM hb, bi_s, zI_d64 (by omega) (by omega), m_sign (by omega) (by omega), bi_s, mpush_e hd (by omega), bv_s, f_M_likeOrder_98, zl_6, iI_eq (by omega) (by omega), if_neg (by omega), f1]
            rfl
          · rw [zprs_v, hsv, hz]
            exact zlex_if _ _
          · rw [zprs_w]
            simp only [zswt, zsw]
            omega
        · have e6 : zk t = 6 := by omega
          have hz : zcmp 6 t u = if zcn t u = 0 then zlex (fun k => zcmp 6 (zc t k) (zc u k)) (zsg ((zl t : Int) - zl u)) (min (zl t) (zl u)) 0 else zcn t u := by
            rw [← zcmp_56 h5 ha.2]
            simp only [zcmp]; rw [if_pos hk, if_neg e3, if_neg e4, if_neg e5, if_pos e6]
          have hL : f_M_likeOrder v (zI a) (zI b) = if zcn t u = 0 then f_M_likeOrder_189 (zI a) (zI b) (zI (min (zl t) (zl u))) v else some (zJ (zcn t u), v) := by
            rw [hmin v hM ha hb, f_M_likeOrder_71, e6, zl_5, iI_eq (by omega) (by omega), if_neg (by omega), f_M_likeOrder_98, zl_6, if_pos rfl, zl_0]
            exact m_like_107 e6 (by omega) hM ha hb (min (zl t) (zl u)) fu 0 (by omega) (fu_lt (by omega))
          rw [hL]
          by_cases c0 : zcn t u = 0
          · obtain ⟨v', f1, f2, f3, f4⟩ := e189 v st hM ha hb hd (by omega) hs
            refine ⟨0, v', ?_, f2, Or.inr (Or.inl rfl), fun h => absurd rfl h, fun _ => ⟨_, f3, f4, ?_, ?_⟩⟩
            · rw [if_pos c0, f1]; rfl
            · rw [zprs_v, hsv, hz, if_pos c0]
              have hll : zl t = zl u := by
                have := (zlex_0 _ _ c0).2
                rw [zsg_0] at this
                omega
              have e9 : zsg ((zl t : Int) - zl u) = 0 := by rw [hll, Int.sub_self]; rfl
              rw [e9]
              have := zlex_if (F := fun k => zcmp 6 (zc t k) (zc u k)) (e := 0) (o := zsv st) (min (zl t) (zl u)) 0
              rw [if_pos rfl] at this
              exact this
            · rw [zprs_w]; omega
          · refine ⟨zcn t u, v, by rw [if_neg c0], mD.rf, zcn_r _ _, fun _ => by rw [hz, if_neg c0], fun h => absurd h c0⟩
  · have hz : zcmp 6 t u = 0 := by
      simp only [zcmp]; rw [if_pos hk, if_neg (by omega), if_neg (by omega), if_neg (by omega), if_neg (by omega)]
    refine ⟨0, v, ?_, mD.rf, Or.inr (Or.inl rfl), fun h => absurd rfl h, fun _ => ⟨st, hd, hs, ?_, by omega⟩⟩
    · rw [f_M_likeOrder, m_kind hM ha, bi_s, zl_3, iI_le (by omega) (by omega), if_neg c3]
      rfl
    · rw [hsv, hz, if_pos rfl]
theorem zswt_l : ∀ st : List zSe, (∀ q, (.inl q : zSe) ∈ st → 1 ≤ zs q.1) → st.length ≤ zswt st := by
  intro st
  induction st with
  | nil => intro _; exact Nat.le_refl _
  | cons e r ih =>
    intro h
    have h1 := ih (fun q hq => h q (List.mem_cons_of_mem _ hq))
    cases e with
    | inl q =>
      have h2 := h q (by simp)
      simp only [zswt, zsw, List.length_cons]; omega
    | inr c => simp only [zswt, zsw, List.length_cons]; omega
theorem mSt_m {v : mS} {T : Nat} : ∀ st : List zSe, mSt v T st → ∀ q, (.inl q : zSe) ∈ st → 1 ≤ zs q.1 := by
  intro st
  induction st with
  | nil => intro _ q hq; cases hq
  | cons e r ih =>
    intro h q hq
    rcases List.mem_cons.1 hq with rfl | hq
    · obtain ⟨⟨a, b, _, _, z, _⟩, -⟩ := h
      exact zwf_s1 6 _ z.2
    · exact ih h.2 q hq
theorem m_ord_l : ∀ (W n : Nat) (v : mS) (st : List zSe), zswt st ≤ W → W < n → zswt st ≤ 60 → mM v T → v 0 18 = zI st.length → mSt v T st → ∃ v', f_M_ordered_11 n v = some (zJ (zsv st), v') ∧ mD v v' := by
  intro W
  induction W with
  | zero =>
    intro n v st hW hn h60 hM hd hs
    obtain ⟨n, rfl, -⟩ := suc_of hn
    have hl := zswt_l st (mSt_m st hs)
    cases st with
    | nil =>
      refine ⟨v, ?_, mD.rf⟩
      rw [f_M_ordered_11, hd, zl_0, iI_le (by simp) (by omega), if_pos (by simp)]
      rfl
    | cons e r => simp at hl; omega
  | succ W ih =>
    intro n v st hW hn h60 hM hd hs
    obtain ⟨n, rfl, hn⟩ := suc_of hn
    have hn := Nat.lt_of_succ_lt_succ hn
    have hl := zswt_l st (mSt_m st hs)
    cases st with
    | nil =>
      refine ⟨v, ?_, mD.rf⟩
      rw [f_M_ordered_11, hd, zl_0, iI_le (by simp) (by omega), if_pos (by simp)]
      rfl
    | cons e r =>
      simp only [List.length_cons] at hl hd
      have hs2 := mSt_up (v := v) (v' := sU v 0 18 (zI r.length)) (T := T) (sU_j (by decide)) (e :: r) (fun i _ => ⟨by rw [sU_j (by decide)], by rw [sU_j (by decide)]⟩) hs
      have hD2 : mD v (sU v 0 18 (zI r.length)) := ⟨fun j a _ _ => sU_j a, fun k hk => sU_k hk⟩
      have hM2 := hD2.M hM
      obtain ⟨hse, hsr⟩ := hs2
      have e18 : sU v 0 18 (zI r.length) 0 18 = zI r.length := sU_hit
      generalize hv2 : sU v 0 18 (zI r.length) = v2 at *
      have hpop : f_M_ordered_11 (n + 1) v = (if v2 12 r.length = 0 then f_M_ordered_74 (f_M_ordered_11 n) (v2 12 r.length) (v2 13 r.length) (v2 13 r.length) v2 else bi (f_M_kindOf v2 (v2 12 r.length)) fun r_10 v_8 => bi (f_M_kindOf v_8 (v2 13 r.length)) fun r_13 v_11 => bi (f_M_sign v_11 ((r_10 - r_13 : Int32).toInt64)) fun r_16 v_14 => f_M_ordered_74 (f_M_ordered_11 n) (v2 12 r.length) (v2 13 r.length) r_16 v_14) := by
        rw [f_M_ordered_11, hd, zl_0, iI_le (by omega) (by omega), if_neg (by omega), nm_s, zl_1, zI_sub (by omega), show r.length + 1 - 1 = r.length by omega, hv2, e18, gd_I (by omega) (by omega), nm_s, zI_toNat (by omega), gd_I (by omega) (by omega), nm_s]
      rw [hpop]
      cases e with
      | inr c =>
        obtain ⟨x, y, z⟩ := hse
        have hw : zswt (.inr c :: r) = 1 + zswt r := rfl
        rw [if_pos x, y]
        have ec : (zJ c = 0) = (c = 0) := by rw [zl_0, zI_J, zJ_eq (by omega) (by omega) (by omega) (by omega)] <;> rfl
        by_cases c0 : c = 0
        · obtain ⟨v', f1, f2⟩ := ih n v2 r (by omega) hn (by omega) hM2 e18 hsr
          refine ⟨v', ?_, hD2.tr f2⟩
          have hz : zsv (.inr c :: r) = zsv r := by rw [zsv_r, if_pos c0]
          rw [f_M_ordered_74, ite_p ec, if_pos c0, x, if_pos (by decide), f_M_ordered_94, ite_p ec, if_pos c0, hz]
          exact f1
        · refine ⟨v2, ?_, hD2⟩
          have hz : zsv (.inr c :: r) = c := by rw [zsv_r, if_neg c0]
          rw [f_M_ordered_74, ite_p ec, if_neg c0, f_M_ordered_94, ite_p ec, if_neg c0, hz]
      | inl q =>
        obtain ⟨t, u⟩ := q
        obtain ⟨a, b, x, y, z, w⟩ := hse
        dsimp only at z w
        have hw : zswt (.inl (t, u) :: r) = 2 * zs t + zswt r := rfl
        have s1 := zwf_s1 6 t z.2
        have ka := z.2.1
        have kb := w.2.1
        obtain ⟨a0, a1, -, -, -, -⟩ := zU_head z
        have hT := hM.2.2.1
        have ea : ¬ zI a = 0 := by rw [zl_0, zI_eq (by omega) (by omega)]; omega
        have ea2 : ¬ zI a ≤ 0 := by rw [zl_0, zI_le (by omega) (by omega)]; omega
        rw [x, y, if_neg ea, m_kind hM2 z, bi_s, m_kind hM2 w, bi_s, zI_d64 (by omega) (by omega), m_sign (by omega) (by omega), bi_s]
        have hr := zsg_r ((zk t : Int) - zk u)
        have ec : (zJ (zsg ((zk t : Int) - zk u)) = 0) = (zsg ((zk t : Int) - zk u) = 0) := by rw [zl_0, zI_J, zJ_eq (by omega) (by omega) (by omega) (by omega)] <;> rfl
        by_cases c0 : zk t = zk u
        · have e0 : zsg ((zk t : Int) - zk u) = 0 := by rw [zsg_0]; omega
          obtain ⟨c, v3, f1, f2, f3, f4, f5⟩ := m_like (st := r) hM2 z w c0 e18 (by omega) hsr
          have ecc : (zJ c = 0) = (c = 0) := by rw [zl_0, zI_J, zJ_eq (by omega) (by omega) (by omega) (by omega)] <;> rfl
          rw [f_M_ordered_74, ite_p ec, if_pos e0, if_neg ea2, f1, bi_s, f_M_ordered_94, ite_p ecc]
          by_cases cc : c = 0
          · obtain ⟨st', g1, g2, g3, g4⟩ := f5 cc
            obtain ⟨v', k1, k2⟩ := ih n v3 st' (by omega) hn (by omega) (f2.M hM2) g1 g2
            refine ⟨v', ?_, hD2.tr (f2.tr k2)⟩
            rw [if_pos cc, k1, g3]
          · refine ⟨v3, ?_, hD2.tr f2⟩
            have hz : zsv (.inl (t, u) :: r) = c := by rw [zsv_l, f4 cc, if_neg cc]
            rw [if_neg cc, hz]
        · have e0 : ¬ zsg ((zk t : Int) - zk u) = 0 := by rw [zsg_0]; omega
          have hc : zcmp 6 t u = zsg ((zk t : Int) - zk u) := by simp only [zcmp]; rw [if_neg c0]
          refine ⟨v2, ?_, hD2⟩
          have hz : zsv (.inl (t, u) :: r) = zsg ((zk t : Int) - zk u) := by rw [zsv_l, hc, if_neg e0]
          rw [f_M_ordered_74, ite_p ec, if_neg e0, f_M_ordered_94, ite_p ec, if_neg e0, hz]
theorem m_ord {v : mS} (hM : mM v T) (ha : zU (v 6) T a t) (hb : zU (v 6) T b u) : ∃ v', f_M_ordered v (zI a) (zI b) = some (zJ (zcmp 6 t u), v') ∧ mD v v' := by
  have hD0 : mD v (sU v 0 18 0) := ⟨fun j a _ _ => sU_j a, fun k hk => sU_k hk⟩
  have h24 := ha.2.2.1
  have hst := mpush_st (v := sU v 0 18 0) (T := T) (st := []) (e := .inl (t, u)) (x := zI a) (y := zI b) trivial ⟨a, b, mpush_h.1, mpush_h.2.1, by rw [mpush_h.2.2.2, sU_j (by decide)]; exact ha, by rw [mpush_h.2.2.2, sU_j (by decide)]; exact hb⟩
  obtain ⟨v', f1, f2⟩ := m_ord_l (T := T) 48 fu (mpush (sU v 0 18 0) 0 (zI a) (zI b)) [.inl (t, u)] (by simp [zswt, zsw]; omega) (fu_lt (by omega)) (by simp [zswt, zsw]; omega) (mpush_D.M (hD0.M hM)) mpush_h.2.2.1 hst
  refine ⟨v', ?_, hD0.tr (mpush_D.tr f2)⟩
  have hz : zsv [.inl (t, u)] = zcmp 6 t u := by
    rw [zsv_l]
    by_cases c : zcmp 6 t u = 0
    · rw [if_pos c, c]; rfl
    · rw [if_neg c]
  have h0 : f_M_pair (sU v 0 18 0) (zI a) (zI b) = some (mpush (sU v 0 18 0) 0 (zI a) (zI b)) := mpush_e (show sU v 0 18 0 0 18 = zI 0 from sU_hit) (by omega)
  rw [f_M_ordered, nm_s, h0, bv_s, f1, hz]
end MO
