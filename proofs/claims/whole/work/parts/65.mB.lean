/-! the reference's machine: asking first, keeping a row, going through it -/
theorem zapp_nil {sp : zEv} : zapp [] sp = sp := by
  cases sp with
  | none => rfl
  | some q => rfl
theorem zapp_app {r1 r2 : List zT} {sp : zEv} : zapp r1 (zapp r2 sp) = zapp (r1 ++ r2) sp := by
  cases sp with
  | none => rfl
  | some q => obtain ⟨r, e, s⟩ := q; simp [zapp]
def mU (l : List zT) : Nat := 22 * (17 - l.length)
/-- a row that is gone through, at a place -/
def mRs (F i : Nat) (xs : List zT) (eR : Option zT) (v : mS) (T : Nat) : Prop := v 17 F = zI 2 ∧ v 18 F = zI i ∧ mRw v T F xs eR
theorem mRw_up {F : Nat} {xs : List zT} {eR : Option zT} {v v' : mS} {T T' : Nat} (h : mRw v T F xs eR) (h19 : v' 19 F = v 19 F) (h20 : v' 20 F = v 20 F) (h23 : ∀ i, 17 * F ≤ i → i < 17 * F + 17 → v' 23 i = v 23 i) (hc : ∀ i, i < T → v' 6 i = v 6 i) (ht : T ≤ T') : mRw v' T' F xs eR := by
  obtain ⟨a, b, c⟩ := h
  exact ⟨h19.trans a, mRow_up b (fun k hk => h23 _ (by omega) (by have := b.1; omega)) hc ht, by rw [h20]; exact mErr_up c hc ht⟩
section MBB
variable {op : Nat → Nat} {ar : Nat → Int32} {sx : Nat → zN} {p2 p3 : Nat → Nat} {B F k : Nat} {t y : zT} {vr vr0 : Nat → zT} {l : List zT} {s u Q : Nat} {v : mS} {T : Nat} {sp : zEv} {c d a : Nat} {X : Option mS}
theorem mFr_take_l {r : List zT} (hF : F < 10) : ∀ (m q i : Nat) (v : mS) (l : List zT), mFr op ar sx p2 p3 B F k t vr l s u Q v T → v 0 37 = zI r.length → mRow v T 26 0 r → i + m = r.length → m < q → ∃ v', f_M_take_2 q (zI F) (zI i) v = some v' ∧ mFr op ar sx p2 p3 B F k t vr (l ++ r.drop i) s u Q v' T ∧ mX F v T v' T ∧ (∀ j, j ≠ 0 → j ≠ 24 → j ≠ 25 → v' j = v j) ∧ (∀ k, k ≠ 21 → v' 0 k = v 0 k) := by
  intro m
  induction m with
  | zero =>
    intro q i v l h h37 hr hi hq
    obtain ⟨q, rfl, -⟩ := suc_of hq
    have h16 := hr.1
    have e1 : r.drop i = [] := List.drop_eq_nil_of_le (by omega)
    refine ⟨v, ?_, by rw [e1, List.append_nil]; exact h, mX.rf, fun _ _ _ _ => rfl, fun _ _ => rfl⟩
    rw [f_M_take_2, h37, iI_le (by omega) (by omega), if_pos (by omega)]
  | succ m ih =>
    intro q i v l h h37 hr hi hq
    obtain ⟨q, rfl, hq⟩ := suc_of hq
    have hq := Nat.lt_of_succ_lt_succ hq
    have h16 := hr.1
    obtain ⟨b, eb, hb⟩ := hr.2 i (by omega)
    rw [Nat.zero_add] at eb
    obtain ⟨w, a1, a2, a3, a4, a5⟩ := mFr_emit hF h hb
    obtain ⟨v', f1, f2, f3, f4, f5⟩ := ih q (i + 1) w _ a2 (by rw [a5 37 (by decide)]; exact h37) (mRow_up hr (fun k _ => by rw [a4 26 (by decide) (by decide) (by decide)]) (fun i _ => by rw [a4 6 (by decide) (by decide) (by decide)]) (Nat.le_refl _)) (by omega) hq
    refine ⟨v', ?_, ?_, a3.tr f3, fun j j0 j1 j2 => (f4 j j0 j1 j2).trans (a4 j j0 j1 j2), fun k hk => (f5 k hk).trans (a5 k hk)⟩
    · rw [f_M_take_2, h37, iI_le (by omega) (by omega), if_neg (by omega), gd_I (by omega) (by omega), zI_toNat (by omega), eb, a1, bv_s, nm_s, zl_1, zI_add]
      exact f1
    · rw [drop_c (by omega)]
      rw [List.append_assoc] at f2
      exact f2
theorem mFr_take {r : List zT} {e : Option zT} (hF : F < 10) (h : mFr op ar sx p2 p3 B F k t vr l s u Q v T) (hg : mGot v T r e) : ∃ v', f_M_take v (zI F) = some v' ∧ mFr op ar sx p2 p3 B F k t vr (l ++ r) s u Q v' T ∧ mX F v T v' T ∧ (∀ j, j ≠ 0 → j ≠ 24 → j ≠ 25 → v' j = v j) ∧ (∀ k, k ≠ 21 → v' 0 k = v 0 k) := mFr_take_l hF r.length fu 0 v l h hg.1 hg.2.1 (by omega) (fu_lt (by have := hg.2.1.1; omega))
/-- phase 4: what came is put, and that is the end -/
theorem fr_4 {r : List zT} {e : Option zT} (hF : F < 10) (h : mFr op ar sx p2 p3 B F k t vr l s u Q v T) (hk : zok op ar p2 p3 (d + 1) k) (h1 : 1 ≤ zpt (op k)) (hp : v 17 F = zI 4) (hg : mGot v T r e) : mFE F Q vr s 1 (zapp l (some (r, e, s))) v T := by
  refine mFE_live h (fun hl h0 ho => ?_)
  obtain ⟨v1, a1, a2, a3, a4, a5⟩ := mFr_take hF h hg
  have he : mErr (v1 0 38) v1 T e := by
    rw [a5 38 (by decide)]
    exact mErr_up hg.2.2 (fun i _ => by rw [a4 6 (by decide) (by decide) (by decide)]) (Nat.le_refl _)
  obtain ⟨v2, T2, b1, b2, b3⟩ := oc_end hF a2 he
  refine mFE_rd (c := 0) (v1 := v2) (T1 := T2) hF h h0 hp (by omega) ?_ (a3.tr b2) b3
  rw [m_step_p hF h hk.1 hk.2.1 h1 hp (by omega), if_neg (by omega), if_neg (by omega), if_neg (by omega), if_neg (by omega), a1, bv_s, b1, bv_s]
/-- a part is asked for in a round -/
theorem fr_ask {q j b ph p : Nat} {t2 : zT} {vra : Nat → zT} {va : mS} {spK : List zT → Option zT → Nat → zEv} (hK : mKr op ar sx p2 p3 B d (F + 1)) (hF : F + 1 < 10) (h : mFr op ar sx p2 p3 B F k t vr l s u Q v T) (h0 : v 0 21 = 0) (hp : v 17 F = zI p) (hp5 : p < 5) (hX : mX F v T va T) (ha : mFr op ar sx p2 p3 B F k t vra l s u Q va T) (hs : f_M_step v (zI F) = f_M_ask va (zI F) (zI j) (zI b) (zI ph)) (hq : zok op ar p2 p3 d q) (hpo : ∀ w : mS, w 3 = va 3 → f_M_partOf w (zI (B + k)) (zI j) = some (zI (B + q), w)) (hb : zU (va 6) T b t2)
    (hc : ∀ (v2 : mS) (T2 : Nat) (r : List zT) (e : Option zT) (s1 : Nat), zev op ar sx p2 p3 d q t2 vra s = some (r, e, s1) → l.length ≤ 16 → mFr op ar sx p2 p3 B F k t vra l s1 u Q v2 T2 → mGot v2 T2 r e → mX (F + 1) (sU va 17 F (zI ph)) T v2 T2 → v2 17 F = zI ph → mFE F Q vr0 s1 c (zapp l (spK r e s1)) v2 T2) : mFE F Q vr0 s (c + 1) (zapp l (zbnd (zev op ar sx p2 p3 d q t2 vra s) spK)) v T := by
  obtain ⟨v1, a1, a2, a3⟩ := m_askK hK hF ha hq hpo hb hc
  exact mFE_rd (by omega) h h0 hp hp5 (hs.trans a1) (hX.tr a2) a3
/-- the first part (op not of those that begin with the second) -/
theorem fr_first1 {spK : List zT → Option zT → Nat → zEv} (hK : mKr op ar sx p2 p3 B d (F + 1)) (hF : F + 1 < 10) (h : mFr op ar sx p2 p3 B F k t vr l s u Q v T) (h0 : v 0 21 = 0) (hp : v 17 F = zI 0) (hk : zok op ar p2 p3 (d + 1) k) (h1 : 1 ≤ zpt (op k)) (hn : op k ≠ 12 ∧ op k ≠ 13 ∧ op k ≠ 22) (h31 : op k = 31 → ar k ≠ 0)
    (hc : ∀ (v2 : mS) (T2 : Nat) (r : List zT) (e : Option zT) (s1 : Nat), zev op ar sx p2 p3 d (k + 1) t vr s = some (r, e, s1) → l.length ≤ 16 → mFr op ar sx p2 p3 B F k t vr l s1 u Q v2 T2 → mGot v2 T2 r e → v2 17 F = zI 1 → mFE F Q vr0 s1 c (zapp l (spK r e s1)) v2 T2) : mFE F Q vr0 s (c + 1) (zapp l (zbnd (zev op ar sx p2 p3 d (k + 1) t vr s) spK)) v T := by
  obtain ⟨a1, a2, a3, ⟨b, eb, hb⟩, a5, a6, a7, a8, a9, a10, a11⟩ := id h
  have ho := hk.2.1
  have hB := a1.1
  have hk32 := hk.1
  refine fr_ask (va := v) hK hF h h0 hp (by omega) mX.rf h ?_ (hk.2.2.2.1 h1) (fun w hw => (a1.2.2.2 w hw (d + 1) k hk).1 h1) hb (fun v2 T2 r e s1 c1 c2 c3 c4 _ c6 => hc v2 T2 r e s1 c1 c2 c3 c4 c6)
  rw [m_step_p (by omega) h hk.1 hk.2.1 h1 hp (by omega), if_pos rfl, bv_id, f_M_first]
  have e12 : (12 : Int32) = zI 12 := rfl
  have e13 : (13 : Int32) = zI 13 := rfl
  have e22 : (22 : Int32) = zI 22 := rfl
  have e31 : (31 : Int32) = zI 31 := rfl
  rw [e12, iI_eq (by omega) (by omega), if_neg hn.1, e13, iI_eq (by omega) (by omega), if_neg hn.2.1, e22, iI_eq (by omega) (by omega), if_neg hn.2.2, f_M_first_23, e31, iI_eq (by omega) (by omega)]
  have e51 : f_M_first_51 (zI F) 0 v = f_M_ask v (zI F) (zI 0) (zI b) (zI 1) := by
    rw [f_M_first_51, if_pos rfl, f_M_first_62, gd_I (by omega) (by omega), zI_toNat (by omega), eb, bv_id]
    rfl
  by_cases c31 : op k = 31
  · rw [if_pos c31, gd_I (by omega) (by omega), zI_toNat (by omega), a3, gd_I (by omega) (by omega), zI_toNat (by omega), (a1.2.1 k hk32).2, if_neg (h31 c31), e51]
  · rw [if_neg c31, e51]
/-- the second part first -/
theorem fr_first2 {spK : List zT → Option zT → Nat → zEv} (hK : mKr op ar sx p2 p3 B d (F + 1)) (hF : F + 1 < 10) (h : mFr op ar sx p2 p3 B F k t vr l s u Q v T) (h0 : v 0 21 = 0) (hp : v 17 F = zI 0) (hk : zok op ar p2 p3 (d + 1) k) (hn : op k = 12 ∨ op k = 13 ∨ op k = 22)
    (hc : ∀ (v2 : mS) (T2 : Nat) (r : List zT) (e : Option zT) (s1 : Nat), zev op ar sx p2 p3 d (p2 k) t vr s = some (r, e, s1) → l.length ≤ 16 → mFr op ar sx p2 p3 B F k t vr l s1 u Q v2 T2 → mGot v2 T2 r e → v2 17 F = zI 1 → mFE F Q vr0 s1 c (zapp l (spK r e s1)) v2 T2) : mFE F Q vr0 s (c + 1) (zapp l (zbnd (zev op ar sx p2 p3 d (p2 k) t vr s) spK)) v T := by
  obtain ⟨a1, a2, a3, ⟨b, eb, hb⟩, a5, a6, a7, a8, a9, a10, a11⟩ := id h
  have h2 : 2 ≤ zpt (op k) := by rcases hn with e | e | e <;> rw [e] <;> decide
  have ho := hk.2.1
  refine fr_ask (va := v) hK hF h h0 hp (by omega) mX.rf h ?_ (hk.2.2.2.2.1 h2) (fun w hw => (a1.2.2.2 w hw (d + 1) k hk).2.1 h2) hb (fun v2 T2 r e s1 c1 c2 c3 c4 _ c6 => hc v2 T2 r e s1 c1 c2 c3 c4 c6)
  have e51 : f_M_first_51 (zI F) 1 v = f_M_ask v (zI F) (zI 1) (zI b) (zI 1) := by
    rw [f_M_first_51, if_neg (by decide), f_M_first_62, gd_I (by omega) (by omega), zI_toNat (by omega), eb, bv_id]
    rfl
  rw [m_step_p (by omega) h hk.1 hk.2.1 (by omega) hp (by omega), if_pos rfl, bv_id, f_M_first]
  rcases hn with e | e | e <;> rw [e]
  · rw [if_pos (by decide), f_M_first_18, f_M_first_23, if_neg (by decide), e51]
  · rw [if_neg (by decide), if_pos (by decide), f_M_first_18, f_M_first_23, if_neg (by decide), e51]
  · rw [if_neg (by decide), if_neg (by decide), if_pos (by decide), f_M_first_18, f_M_first_23, if_neg (by decide), e51]
/-- the row came: it is kept -/
theorem fr_keep {r : List zT} {e : Option zT} (hF : F < 10) (h : mFr op ar sx p2 p3 B F k t vr l s u Q v T) (hk : zok op ar p2 p3 (d + 1) k) (h1 : 1 ≤ zpt (op k)) (hp : v 17 F = zI 1) (hg : mGot v T r e) (hn : op k ≠ 5 ∧ op k ≠ 9 ∧ op k ≠ 18 ∧ op k ≠ 19 ∧ op k ≠ 22 ∧ op k ≠ 31)
    (hc : ∀ v2 : mS, mFr op ar sx p2 p3 B F k t vr l s u Q v2 T → mRs F 0 r e v2 T → mFE F Q vr0 s c (zapp l sp) v2 T) : mFE F Q vr0 s (c + 1) (zapp l sp) v T := by
  refine mFE_live h (fun hl h0 ho => ?_)
  have hop := hk.2.1
  obtain ⟨v2, a1, a2, a3, a4, a5, a6, a7⟩ := m_keepRow hF h.2.1 hg
  refine mFE_rd hF h h0 hp (by omega) ?_ a3 (hc v2 (mFr_w h (fun j b1 b2 b3 b4 _ _ b7 => a7 j b1 b2 b3 b4 b7)) ⟨a4, a5, a6⟩)
  have e5 : (5 : Int32) = zI 5 := rfl
  have e9 : (9 : Int32) = zI 9 := rfl
  have e18 : (18 : Int32) = zI 18 := rfl
  have e19 : (19 : Int32) = zI 19 := rfl
  have e22 : (22 : Int32) = zI 22 := rfl
  have e31 : (31 : Int32) = zI 31 := rfl
  rw [m_step_p hF h hk.1 hk.2.1 h1 hp (by omega), if_neg (by omega), if_pos rfl, bv_id, f_M_came, e5, iI_eq (by omega) (by omega), if_neg hn.1, e9, iI_eq (by omega) (by omega), if_neg hn.2.1, e18, iI_eq (by omega) (by omega), if_neg hn.2.2.1, e19, iI_eq (by omega) (by omega), if_neg hn.2.2.2.1, e22, iI_eq (by omega) (by omega), if_neg hn.2.2.2.2.1, e31, iI_eq (by omega) (by omega), if_neg hn.2.2.2.2.2, a1, bv_s]
  rfl
/-- through a row, given what is done at one place -/
theorem fr_rows {G : zT → Nat → zEv} {xs : List zT} {eR : Option zT} (hF : F < 10) (hk : zok op ar p2 p3 (d + 1) k) (h1 : 1 ≤ zpt (op k)) (h22 : op k ≠ 22)
    (hG : ∀ (i : Nat) (v : mS) (T : Nat) (l : List zT) (s c : Nat) (K : Option zT → Nat → zEv), i < xs.length → l.length ≤ 16 → v 0 21 = 0 → mFr op ar sx p2 p3 B F k t vr l s (mU l) Q v T → mRs F i xs eR v T → (∀ y s1, K (some y) s1 = some ([], some y, s1)) → (∀ (v2 : mS) (T2 : Nat) (r : List zT) (s1 : Nat), G (xs.getD i (zW 0)) s = some (r, none, s1) → mFr op ar sx p2 p3 B F k t vr (l ++ r) s1 (mU (l ++ r)) Q v2 T2 → mRs F (i + 1) xs eR v2 T2 → mFE F Q vr s1 c (zapp (l ++ r) (K none s1)) v2 T2) → mFE F Q vr s (c + 2) (zapp l (zseq (G (xs.getD i (zW 0)) s) K)) v T) :
    ∀ (m i : Nat) (v : mS) (T : Nat) (l : List zT) (s : Nat), i + m = xs.length → mFr op ar sx p2 p3 B F k t vr l s (mU l) Q v T → mRs F i xs eR v T → mFE F Q vr s (2 * m + 1) (zapp l (zfe G (xs.drop i) eR s)) v T := by
  intro m
  induction m with
  | zero =>
    intro i v T l s hi h hr
    refine mFE_live h (fun hl h0 ho => ?_)
    obtain ⟨r1, r2, r3, r4, r5⟩ := hr
    have h16 := r4.1
    have hop := hk.2.1
    have e1 : xs.drop i = [] := List.drop_eq_nil_of_le (by omega)
    obtain ⟨v1, T1, b1, b2, b3⟩ := oc_end hF h r5
    have e2 : zapp l (zfe G (xs.drop i) eR s) = some (l, eR, s) := by rw [e1]; simp [zfe, zapp]
    rw [e2]
    refine mFE_rd (c := 0) (v1 := v1) (T1 := T1) hF h h0 r1 (by omega) ?_ b2 b3
    have e22 : (22 : Int32) = zI 22 := rfl
    rw [m_step_p hF h hk.1 hk.2.1 h1 r1 (by omega), if_neg (by omega), if_neg (by omega), if_pos rfl, bv_id, f_M_next, gd_I hF (by omega), gd_I hF (by omega), zI_toNat (by omega), r2, r3, iI_eq (by omega) (by omega), if_pos (by omega), bv_id, f_M_last, e22, iI_eq (by omega) (by omega), if_neg h22, gd_I hF (by omega), zI_toNat (by omega), b1, bv_s]
    rfl
  | succ m ih =>
    intro i v T l s hi h hr
    refine mFE_live h (fun hl h0 ho => ?_)
    rw [drop_c (show i < xs.length by omega), zfe_c]
    have := hG i v T l s (2 * m + 1) (fun e s1 => zlp G (xs.drop (i + 1)) eR e s1) (by omega) hl h0 h hr (fun y s1 => rfl) (fun v2 T2 r s1 _ k2 k3 => ih (i + 1) v2 T2 _ s1 (by omega) k2 k3)
    exact this
/-- FOR EACH value of the first part (or of the second) -/
theorem fr_for1 {G : zT → Nat → zEv} (hK : mKr op ar sx p2 p3 B d (F + 1)) (hF : F + 1 < 10) (h : mFr op ar sx p2 p3 B F k t vr [] s (mU []) Q v T) (h0 : v 0 21 = 0) (hp : v 17 F = zI 0) (hk : zok op ar p2 p3 (d + 1) k) (h1 : 1 ≤ zpt (op k)) (hn : op k ≠ 12 ∧ op k ≠ 13 ∧ op k ≠ 22) (hn2 : op k ≠ 5 ∧ op k ≠ 9 ∧ op k ≠ 18 ∧ op k ≠ 19 ∧ op k ≠ 22 ∧ op k ≠ 31)
    (hG : ∀ (xs : List zT) (eR : Option zT) (i : Nat) (v : mS) (T : Nat) (l : List zT) (s c : Nat) (K : Option zT → Nat → zEv), i < xs.length → l.length ≤ 16 → v 0 21 = 0 → mFr op ar sx p2 p3 B F k t vr l s (mU l) Q v T → mRs F i xs eR v T → (∀ y s1, K (some y) s1 = some ([], some y, s1)) → (∀ (v2 : mS) (T2 : Nat) (r : List zT) (s1 : Nat), G (xs.getD i (zW 0)) s = some (r, none, s1) → mFr op ar sx p2 p3 B F k t vr (l ++ r) s1 (mU (l ++ r)) Q v2 T2 → mRs F (i + 1) xs eR v2 T2 → mFE F Q vr s1 c (zapp (l ++ r) (K none s1)) v2 T2) → mFE F Q vr s (c + 2) (zapp l (zseq (G (xs.getD i (zW 0)) s) K)) v T) :
    mFE F Q vr s 38 (zfor G (zev op ar sx p2 p3 d (k + 1) t vr s)) v T := by
  rw [zfor_b]
  have := fr_first1 (l := []) (c := 36) (vr0 := vr) (spK := fun r e s => zfe G r e s) hK hF h h0 hp hk h1 hn (fun e => absurd e hn2.2.2.2.2.2) (fun v2 T2 r e s1 c1 c2 c3 c4 c5 => by
    refine fr_keep (c := 35) (by omega) c3 hk h1 c5 c4 hn2 (fun v3 d1 d2 => ?_)
    have h16 := c4.2.1.1
    exact mFE_le (fr_rows (by omega) hk h1 hn.2.2 (hG r e) r.length 0 v3 T2 [] s1 (by omega) d1 d2) (by omega) d1.2.2.2.2.2.2.1)
  rw [zapp_nil] at this
  exact mFE_le this (by omega) h.2.2.2.2.2.2.1
theorem fr_for2 {G : zT → Nat → zEv} (hK : mKr op ar sx p2 p3 B d (F + 1)) (hF : F + 1 < 10) (h : mFr op ar sx p2 p3 B F k t vr [] s (mU []) Q v T) (h0 : v 0 21 = 0) (hp : v 17 F = zI 0) (hk : zok op ar p2 p3 (d + 1) k) (hn : op k = 12 ∨ op k = 13)
    (hG : ∀ (xs : List zT) (eR : Option zT) (i : Nat) (v : mS) (T : Nat) (l : List zT) (s c : Nat) (K : Option zT → Nat → zEv), i < xs.length → l.length ≤ 16 → v 0 21 = 0 → mFr op ar sx p2 p3 B F k t vr l s (mU l) Q v T → mRs F i xs eR v T → (∀ y s1, K (some y) s1 = some ([], some y, s1)) → (∀ (v2 : mS) (T2 : Nat) (r : List zT) (s1 : Nat), G (xs.getD i (zW 0)) s = some (r, none, s1) → mFr op ar sx p2 p3 B F k t vr (l ++ r) s1 (mU (l ++ r)) Q v2 T2 → mRs F (i + 1) xs eR v2 T2 → mFE F Q vr s1 c (zapp (l ++ r) (K none s1)) v2 T2) → mFE F Q vr s (c + 2) (zapp l (zseq (G (xs.getD i (zW 0)) s) K)) v T) :
    mFE F Q vr s 38 (zfor G (zev op ar sx p2 p3 d (p2 k) t vr s)) v T := by
  rw [zfor_b]
  have h1 : 1 ≤ zpt (op k) := by rcases hn with e | e <;> rw [e] <;> decide
  have := fr_first2 (l := []) (c := 36) (vr0 := vr) (spK := fun r e s => zfe G r e s) hK hF h h0 hp hk (by omega) (fun v2 T2 r e s1 c1 c2 c3 c4 c5 => by
    refine fr_keep (c := 35) (by omega) c3 hk h1 c5 c4 (by omega) (fun v3 d1 d2 => ?_)
    have h16 := c4.2.1.1
    exact mFE_le (fr_rows (by omega) hk h1 (by omega) (hG r e) r.length 0 v3 T2 [] s1 (by omega) d1 d2) (by omega) d1.2.2.2.2.2.2.1)
  rw [zapp_nil] at this
  exact mFE_le this (by omega) h.2.2.2.2.2.2.1
end MBB
