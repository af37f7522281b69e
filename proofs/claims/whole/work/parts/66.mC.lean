/-! the reference's machine: what is done at one value of a row -/
def nxd (v : mS) (x1 x2 x3_6 x4_9 x5_11 : Int32) : Option mS := if x2 = 4 then (bv (f_M_ask v x1 1 x3_6 3) fun v_12 => f_M_next_388 v_12) else if x2 = 5 then (f_M_next_381 x1 x2 x3_6 v) else if x2 = 6 then (f_M_next_381 x1 x2 x3_6 v) else if x2 = 7 then (f_M_next_381 x1 x2 x3_6 v) else if x2 = 8 then (f_M_next_381 x1 x2 x3_6 v) else if x2 = 9 then (f_M_next_381 x1 x2 x3_6 v) else if x2 = 10 then (f_M_next_381 x1 x2 x3_6 v) else if x2 = 11 then (f_M_next_381 x1 x2 x3_6 v) else if x2 = 12 then (f_M_next_207 x1 x5_11 v) else if x2 = 13 then (f_M_next_207 x1 x5_11 v) else if x2 = 14 then (f_M_next_219 x1 x2 x3_6 x5_11 v) else if x2 = 15 then (f_M_next_219 x1 x2 x3_6 x5_11 v) else if x2 = 16 then (f_M_next_381 x1 x2 x3_6 v) else if x2 = 17 then (bi (f_M_good v x3_6) fun r_29 v_27 => if r_29 = 0 then (f_M_next_286 x5_11 x1 2 v_27) else (f_M_next_286 x5_11 x1 1 v_27)) else if x2 = 18 then (f_M_next_381 x1 x2 x3_6 v) else if x2 = 19 then (f_M_next_381 x1 x2 x3_6 v) else if x2 = 20 then (f_M_next_295 x1 x2 x3_6 x4_9 x5_11 v) else if x2 = 21 then (f_M_next_381 x1 x2 x3_6 v) else if x2 = 22 then (f_M_next_295 x1 x2 x3_6 x4_9 x5_11 v) else if x2 = 23 then (f_M_next_381 x1 x2 x3_6 v) else if x2 = 24 then (f_M_next_381 x1 x2 x3_6 v) else if x2 = 25 then (f_M_next_381 x1 x2 x3_6 v) else if x2 = 26 then (f_M_next_381 x1 x2 x3_6 v) else if x2 = 27 then (f_M_next_381 x1 x2 x3_6 v) else if x2 = 28 then (f_M_next_381 x1 x2 x3_6 v) else if x2 = 29 then (f_M_next_381 x1 x2 x3_6 v) else if x2 = 30 then (f_M_next_381 x1 x2 x3_6 v) else if x2 = 31 then (f_M_next_381 x1 x2 x3_6 v) else if x2 = 32 then (f_M_next_381 x1 x2 x3_6 v) else if x2 = 33 then (bi (f_M_good v x3_6) fun r_49 v_47 => if r_49 = 0 then (f_M_next_368 x1 v_47) else (bv (f_M_emit v_47 x1 x5_11) fun v_51 => f_M_next_368 x1 v_51)) else (f_M_next_381 x1 x2 x3_6 v)
def wkd (v_11 : mS) (x1 x2 x3_3 x4_6 : Int32) : Option mS := if x2 = 12 then (f_M_worked_108 x1 x2 x3_3 x4_6 v_11) else if x2 = 13 then (f_M_worked_108 x1 x2 x3_3 x4_6 v_11) else if x2 = 14 then (f_M_worked_196 x1 v_11) else if x2 = 15 then (f_M_worked_196 x1 v_11) else if x2 = 16 then (f_M_worked_308 x1 v_11) else if x2 = 17 then (f_M_worked_308 x1 v_11) else if x2 = 18 then (f_M_worked_308 x1 v_11) else if x2 = 19 then (f_M_worked_308 x1 v_11) else if x2 = 20 then (gd (inB x1 10) (gd (inB x4_6 4) (nm (sU v_11 14 (x4_6 : Int32).toNatClampNeg (v_11 22 (x1 : Int32).toNatClampNeg)) fun v_22 => bv (f_M_take v_22 x1) fun v_23 => f_M_worked_313 x1 v_23))) else if x2 = 21 then (f_M_worked_308 x1 v_11) else if x2 = 22 then (gd (inB x1 10) (gd (inB x4_6 4) (nm (sU v_11 14 (x4_6 : Int32).toNatClampNeg (v_11 22 (x1 : Int32).toNatClampNeg)) fun v_29 => if (v_29 0 37) ≤ 0 then (f_M_worked_304 x1 x1 4 v_29) else (gd (inB ((v_29 0 37) - 1) 17) (f_M_worked_304 x1 x1 (v_29 26 ((v_29 0 37) - 1 : Int32).toNatClampNeg) v_29))))) else (f_M_worked_308 x1 v_11)
section MCC
variable {op : Nat → Nat} {ar : Nat → Int32} {sx : Nat → zN} {p2 p3 : Nat → Nat} {B F k : Nat} {t y x : zT} {vr vr0 : Nat → zT} {l xs : List zT} {s u Q i : Nat} {v : mS} {T : Nat} {sp : zEv} {c d a : Nat} {X : Option mS} {eR : Option zT} {K : Option zT → Nat → zEv}
theorem nx_pre (hF : F < 10) (h : mFr op ar sx p2 p3 B F k t vr l s u Q v T) (hk : zok op ar p2 p3 (d + 1) k) (h1 : 1 ≤ zpt (op k)) (hr : mRs F i xs eR v T) (hi : i < xs.length) : ∃ e b, v 23 (17 * F + i) = zI e ∧ zU (v 6) T e (xs.getD i (zW 0)) ∧ v 16 F = zI b ∧ zU (v 6) T b t ∧ f_M_step v (zI F) = nxd v (zI F) (zI (op k)) (zI e) (ar k) (zI b) := by
  obtain ⟨a1, a2, a3, ⟨b, eb, hb⟩, a5, a6, a7, a8, a9, a10, a11⟩ := id h
  obtain ⟨r1, r2, r3, r4, r5⟩ := hr
  have h16 := r4.1
  have hB := a1.1
  have hk32 := hk.1
  obtain ⟨e, ee, he⟩ := r4.2 i hi
  have e17 : (17 : Int32) = zI 17 := rfl
  refine ⟨e, b, ee, he, eb, hb, ?_⟩
  rw [m_step_p hF h hk.1 hk.2.1 h1 r1 (by omega), if_neg (by omega), if_neg (by omega), if_pos rfl, bv_id, f_M_next, gd_I hF (by omega), gd_I hF (by omega), zI_toNat (by omega), r2, r3, iI_eq (by omega) (by omega), if_neg (by omega), gd_I hF (by omega), e17, zI_mul, zI_add, gd_I (by omega) (by omega), zI_toNat (by omega), ee, nm_s, gd_I hF (by omega), a3, gd_I (by omega) (by omega), zI_toNat (by omega), (a1.2.1 k hk32).2, nm_s, gd_I hF (by omega), eb, nm_s]
  rfl
/-- the row's state, kept by what puts values -/
theorem mRs_k {v2 : mS} {T2 : Nat} (h : mRs F i xs eR v T) (hj : ∀ j, j = 17 ∨ j = 18 ∨ j = 19 ∨ j = 20 → v2 j F = v j F) (h23 : ∀ n, 17 * F ≤ n → n < 17 * F + 17 → v2 23 n = v 23 n) (hc : ∀ n, n < T → v2 6 n = v 6 n) (ht : T ≤ T2) : mRs F i xs eR v2 T2 := ⟨(hj 17 (by omega)).trans h.1, (hj 18 (by omega)).trans h.2.1, mRw_up h.2.2 (hj 19 (by omega)) (hj 20 (by omega)) h23 hc ht⟩
theorem mRs_at {w : mS} (h : mRs F i xs eR v T) (hw : w = sU v 18 F (zI (i + 1))) : mRs F (i + 1) xs eR w T := by
  subst hw
  exact ⟨by rw [sU_j (by decide)]; exact h.1, sU_hit, mRw_up h.2.2 (by rw [sU_j (by decide)]) (by rw [sU_j (by decide)]) (fun _ _ _ => by rw [sU_j (by decide)]) (fun _ _ => by rw [sU_j (by decide)]) (Nat.le_refl _)⟩
theorem mX_at {w : mS} {z : Int32} (hw : w = sU v 18 F z) : mX F v T w T := by
  subst hw
  exact ⟨Nat.le_refl _, fun n _ => by rw [sU_j (by decide)], fun j a => sU_j (by omega), fun j n a b => by
    by_cases cj : j = 18
    · subst cj; rw [sU_k (by omega)]
    · rw [sU_j cj], fun j n a _ => by rw [sU_j (by omega)], fun n _ => by rw [sU_j (by decide)]⟩
theorem zseq_s {r : List zT} {e : Option zT} {s1 : Nat} : zseq (some (r, e, s1)) K = zapp r (K e s1) := rfl
/-- the place is passed -/
theorem el_done {r : List zT} {v1 w : mS} {T1 : Nat} (hF : F < 10) (h : mFr op ar sx p2 p3 B F k t vr l s (mU l) Q v T) (h0 : v 0 21 = 0) (hr : mRs F i xs eR v T) (hs : f_M_step v (zI F) = some w) (hw : w = sU v1 18 F (zI (i + 1))) (hX : mX F v T v1 T1) (h1 : mFr op ar sx p2 p3 B F k t vr (l ++ r) s u Q v1 T1) (hu : mU (l ++ r) ≤ u) (hr1 : mRs F i xs eR v1 T1) (hc : ∀ (v2 : mS) (T2 : Nat), mFr op ar sx p2 p3 B F k t vr (l ++ r) s (mU (l ++ r)) Q v2 T2 → mRs F (i + 1) xs eR v2 T2 → mFE F Q vr0 s c (zapp (l ++ r) (K none s)) v2 T2) : mFE F Q vr0 s (c + 1) (zapp l (zseq (some (r, none, s)) K)) v T := by
  rw [zseq_s, zapp_app]
  refine mFE_rd hF h h0 hr.1 (by omega) hs (hX.tr (mX_at hw)) (hc w T1 (mFr_le (mFr_w h1 (fun j _ b _ _ _ _ _ => by rw [hw, sU_j b])) hu) (mRs_at hr1 hw))
theorem mRs_E {v2 : mS} {T2 : Nat} (h : mRs F i xs eR v T) (hE : mE v T v2 T2) : mRs F i xs eR v2 T2 := mRs_k h (fun j a => by rw [hE.2.2.1 j (by omega) (by omega) (by omega) (by omega) (by omega) (by omega)]) (fun n _ _ => by rw [hE.2.2.1 23 (by decide) (by decide) (by decide) (by decide) (by decide) (by decide)]) hE.2.1 hE.1
theorem mRs_m {v2 : mS} (h : mRs F i xs eR v T) (hj : ∀ j, j ≠ 0 → j ≠ 24 → j ≠ 25 → v2 j = v j) : mRs F i xs eR v2 T := mRs_k h (fun j a => by rw [hj j (by omega) (by omega) (by omega)]) (fun n _ _ => by rw [hj 23 (by decide) (by decide) (by decide)]) (fun n _ => by rw [hj 6 (by decide) (by decide) (by decide)]) (Nat.le_refl _)
theorem mU_1 {r : List zT} (hl : l.length ≤ 16) (hr : 1 ≤ r.length) : mU (l ++ r) + 22 ≤ mU l := by
  unfold mU
  simp only [List.length_append]
  omega
theorem mU_0 (r : List zT) : mU (l ++ r) ≤ mU l := by
  unfold mU
  simp only [List.length_append]
  omega
theorem m_told {e : Nat} (hF : F < 10) (h : mFr op ar sx p2 p3 B F k t vr l s u Q v T) (hr : mRs F i xs eR v T) (hi : i ≤ 16) (he : zU (v 6) T e y) : ∃ v1, f_M_told v (zI F) (zI e) = some (sU v1 18 F (zI (i + 1))) ∧ mX F v T v1 T ∧ mFr op ar sx p2 p3 B F k t vr (l ++ [y]) s u Q v1 T ∧ mRs F i xs eR v1 T := by
  obtain ⟨v1, b1, b2, b3, b4, b5⟩ := mFr_emit hF h he
  have h2 := mRs_m hr b4
  refine ⟨v1, ?_, b3, b2, h2⟩
  rw [f_M_told, b1, bv_s, gd_I hF (by omega), gd_I hF (by omega), zI_toNat (by omega), h2.2.1, zl_1, zI_add, nm_s]
/-- a value or an error, given for a place of the row -/
theorem el_val {Y : Option (Int32 × mS)} {K' : Int32 → mS → Option mS} {w : Option (Nat ⊕ zT)} (hF : F < 10) (h : mFr op ar sx p2 p3 B F k t vr l s (mU l) Q v T) (hl : l.length ≤ 16) (h0 : v 0 21 = 0) (hr : mRs F i xs eR v T) (hi : i < xs.length) (hs : f_M_step v (zI F) = bi Y K') (hY : mPw Y v T a w) (ha : a ≤ 22) (hK' : ∀ x v, K' x v = f_M_simple_253 (zI F) x v) (hq : ∀ e, w = some (.inl e) → e = 1 ∧ a ≤ 16) (hKy : ∀ y s1, K (some y) s1 = some ([], some y, s1)) (hpos : w = none → ∃ b v', Y = some (zI b, v') ∧ 0 < b ∧ b < 64000)
    (hc : ∀ (v2 : mS) (T2 : Nat) (r : List zT) (s1 : Nat), zgv w s = some (r, none, s1) → mFr op ar sx p2 p3 B F k t vr (l ++ r) s1 (mU (l ++ r)) Q v2 T2 → mRs F (i + 1) xs eR v2 T2 → mFE F Q vr s1 c (zapp (l ++ r) (K none s1)) v2 T2) : mFE F Q vr s (c + 1) (zapp l (zseq (zgv w s) K)) v T := by
  have h16 := hr.2.2.2.1.1
  have hmu : 22 ≤ mU l := by unfold mU; omega
  have h150 := h.2.2.2.2.2.2.1
  obtain ⟨v', T', a1, a2, a3, a4⟩ := hY
  cases w with
  | none =>
    obtain ⟨⟨x, a5⟩, a6⟩ := a4
    obtain ⟨b, v9, e9, hb, hb2⟩ := hpos rfl
    rw [a5] at e9
    cases e9
    have hr2 := mRs_E hr a2
    have e2 : f_M_step v (zI F) = some (sU v' 18 F (zI (i + 1))) := by
      rw [hs, a5, bi_s, hK', f_M_simple_253, if_pos (by rw [zl_0, zI_le (by omega) (by omega)]; omega), f_M_told, m_emit_dead a6, bv_s, gd_I hF (by omega), gd_I hF (by omega), zI_toNat (by omega), hr2.2.1, zl_1, zI_add, nm_s, bv_s]
      rfl
    refine mFE_rd hF h h0 hr.1 (by omega) e2 (a2.X.tr (mX_at rfl)) (mFE_dead (mM_w a1 (by rw [sU_j (by decide)]) (fun _ _ => by rw [sU_j (by decide)])) (by rw [sU_j (by decide)]; exact a6) (Or.inl rfl))
  | some w =>
    cases w with
    | inl e =>
      have hq2 := (hq e rfl).2
      have := (hq e rfl).1
      subst this
      obtain ⟨a5, a6⟩ := a4
      obtain ⟨v2, T2, b1, b2, b3⟩ := oc_err (n := 1) hF (by omega) (u := 6) (by omega) (mFr_E h a2 a1 a6 (by omega))
      refine mFE_le (mFE_rd (c := 0) (v1 := v2) (T1 := T2) hF h h0 hr.1 (by omega) ?_ (a2.X.tr b2) ?_) (by omega) h150
      · rw [hs, a5, bi_s, hK', show zJ (-((1 : Nat) : Int)) = -1 from rfl, f_M_simple_253, if_neg (by decide), zl_1, b1, bv_s]
        rfl
      · have e1 : zapp l (zseq (zgv (some (.inl 1)) s) K) = some (l, some (zQ (((1 : Nat) : Int) * 1000000)), s) := by
          simp [zgv, zseq, hKy, zapp]
        rw [e1]
        exact b3
    | inr y =>
      obtain ⟨b, a5, a6, a7⟩ := a4
      have hb := zU_head a6
      have hT := a1.2.2.1
      have hmu1 := mU_1 (l := l) (r := [y]) hl (by simp)
      obtain ⟨v1, b1, b2, b3, b4⟩ := m_told hF (mFr_E (u2 := mU (l ++ [y])) h a2 a1 a7 (by omega)) (mRs_E hr a2) (by omega) a6
      refine el_done hF h h0 hr ?_ rfl (a2.X.tr b2) b3 (Nat.le_refl _) b4 (fun v2 T2 k1 k2 => hc v2 T2 [y] s rfl k1 k2)
      rw [hs, a5, bi_s, hK', f_M_simple_253, if_pos (by rw [zl_0, zI_le (by omega) (by omega)]; omega), b1, bv_s]
      rfl
theorem fr_33 (hK : mKr op ar sx p2 p3 B d (F + 1)) (hF : F + 1 < 10) (h : mFr op ar sx p2 p3 B F k t vr [] s (mU []) Q v T) (h0 : v 0 21 = 0) (hp : v 17 F = zI 0) (hk : zok op ar p2 p3 (d + 1) k) (ho : op k = 33) : mFE F Q vr s 38 (zfor (fun x s => some (if zgood x = true then [t] else [], none, s)) (zev op ar sx p2 p3 d (k + 1) t vr s)) v T := by
  have h1 : 1 ≤ zpt (op k) := by rw [ho]; decide
  refine fr_for1 hK hF h h0 hp hk h1 (by omega) (by omega) (fun xs eR i v T l s c K hi hl h0 h hr hKy hc => ?_)
  obtain ⟨e, b, ee, he, eb, hb, hst⟩ := nx_pre (by omega) h hk h1 hr hi
  have h16 := hr.2.2.2.1.1
  refine mFE_le (c := c + 1) ?_ (by omega) h.2.2.2.2.2.2.1
  unfold nxd at hst
  rw [ho] at hst
  repeat rw [if_neg (by decide)] at hst
  rw [if_pos (by decide), m_good h.2.1 he, bi_s] at hst
  have e368 : ∀ w, mRs F i xs eR w T → f_M_next_368 (zI F) w = some (sU w 18 F (zI (i + 1))) := by
    intro w hw
    rw [f_M_next_368, gd_I (by omega) (by omega), gd_I (by omega) (by omega), zI_toNat (by omega), hw.2.1, zl_1, zI_add, nm_s]
    rfl
  by_cases cg : zgood (xs.getD i (zW 0)) = true
  · obtain ⟨v1, b1, b2, b3, b4, b5⟩ := mFr_emit (by omega) h hb
    rw [if_pos cg, if_neg (by decide), b1, bv_s, e368 v1 (mRs_m hr b4)] at hst
    rw [if_pos cg]
    exact el_done (by omega) h h0 hr hst rfl b3 b2 (mU_0 _) (mRs_m hr b4) (fun v2 T2 k1 k2 => hc v2 T2 [t] s (by rw [if_pos cg]) k1 k2)
  · rw [if_neg cg, if_pos rfl, e368 v hr] at hst
    rw [if_neg cg]
    exact el_done (r := []) (by omega) h h0 hr hst rfl mX.rf (by simpa using h) (mU_0 _) hr (fun v2 T2 k1 k2 => hc v2 T2 [] s (by rw [if_neg cg]) k1 k2)
theorem bv_388 : (bv X fun v_1 => f_M_next_388 v_1) = X := bv_idf (fun v => rfl)
theorem simp_75_id {o : Nat} {x3 x4 x5 : Int32} (ho : o ≠ 32) (ho2 : o ≠ 29) (h34 : o ≤ 34) : f_M_simple_75 (zI F) (zI o) x3 x4 x5 v = f_M_simple_253 (zI F) x5 v := by
  have e32 : (32 : Int32) = zI 32 := rfl
  have e29 : (29 : Int32) = zI 29 := rfl
  rw [f_M_simple_75, e32, iI_eq (by omega) (by omega), if_neg ho, f_M_simple_120, e32, iI_eq (by omega) (by omega), if_neg ho, f_M_simple_183, e29, iI_eq (by omega) (by omega), if_neg ho2]
theorem fr_11 (hK : mKr op ar sx p2 p3 B d (F + 1)) (hF : F + 1 < 10) (h : mFr op ar sx p2 p3 B F k t vr [] s (mU []) Q v T) (h0 : v 0 21 = 0) (hp : v 17 F = zI 0) (hk : zok op ar p2 p3 (d + 1) k) (ho : op k = 11) : mFE F Q vr s 38 (zfor (fun x s => zgv (zmkO 1 (fun _ => sx (ar k).toNatClampNeg) (fun _ => x)) s) (zev op ar sx p2 p3 d (k + 1) t vr s)) v T := by
  have h1 : 1 ≤ zpt (op k) := by rw [ho]; decide
  obtain ⟨n, hn, hn8⟩ := hk.2.2.1.1 (by omega)
  refine fr_for1 hK hF h h0 hp hk h1 (by omega) (by omega) (fun xs eR i v T l s c K hi hl h0 h hr hKy hc => ?_)
  obtain ⟨e, b, ee, he, eb, hb, hst⟩ := nx_pre (by omega) h hk h1 hr hi
  obtain ⟨a1, a2, a3, -, a5, a6, a7, a8, a9, a10, a11⟩ := id h
  have h16 := hr.2.2.2.1.1
  have hB := a1.1
  have hk32 := hk.1
  have hmu : 22 ≤ mU l := by unfold mU; omega
  refine mFE_le (c := c + 1) ?_ (by omega) a7
  unfold nxd at hst
  rw [ho] at hst
  repeat rw [if_neg (by decide)] at hst
  rw [if_pos (by decide), f_M_next_381, bv_388, f_M_simple, gd_I (by omega) (by omega), zI_toNat (by omega), eb, nm_s, if_neg (by decide), if_pos (by decide), gd_I (by omega) (by omega), a3, gd_I (by omega) (by omega), zI_toNat (by omega), (a1.2.1 k hk32).2, hn] at hst
  obtain ⟨v1, T1, b1, b2, b3, b4, b5, b6, b7⟩ := m_string a2 a1.2.2.1 hn8 (by omega)
  rw [b1, bi_s, gd_t (by decide), nm_s, gd_t (by decide), nm_s] at hst
  have e0 : (0 : Int32).toNatClampNeg = 0 := rfl
  rw [e0, zl_1] at hst
  have hE2 : mE v1 T1 (sU (sU v1 11 0 (zI T)) 10 0 (zI e)) T1 := mE_11.tr mE_10
  have hM2 : mM (sU (sU v1 11 0 (zI T)) 10 0 (zI e)) T1 := mM_10 (mM_11 b2)
  have hh6 : sU (sU v1 11 0 (zI T)) 10 0 (zI e) 6 = v1 6 := by rw [sU_j (by decide), sU_j (by decide)]
  have hO := m_objectC (cc := 6) hM2 (n := 1) (nf := fun _ => sx n) (f := fun _ => xs.getD i (zW 0)) (by omega) (fun j hj => ⟨e, by rw [show j = 0 by omega]; exact sU_hit, by rw [hh6]; exact b3.U he⟩) (fun j hj => ⟨T, by rw [show j = 0 by omega, sU_j (by decide)]; exact sU_hit, by rw [hh6]; exact b5, b6⟩) (fun j hj => absurd hj (by omega)) (fun _ => by omega) (by omega)
  rw [hn, zI_toNat (by omega)]
  have h75 : ∀ (x : Int32) (w : mS), f_M_simple_75 (zI F) (zI 11) (zI e) (zI b) x w = f_M_simple_253 (zI F) x w := fun x w => simp_75_id (by omega) (by omega) (by omega)
  have hP2 := mP_E (b3.tr hE2) (by rw [sU_j (by decide), sU_j (by decide)]; exact b7) hO (c' := 22) (by omega)
  refine el_val (a := 22) (by omega) h hl h0 hr hi hst (mP_w hP2) (by omega) h75 (fun e he => ?_) hKy (fun hw => ?_) (fun v2 T2 r s1 q1 q2 q3 => hc v2 T2 r s1 (by rw [hn, zI_toNat (by omega)]; exact q1) q2 q3)
  · unfold zmkO at he
    split at he <;> cases he
  · obtain ⟨v', T', _, _, _, p4⟩ := hO
    rw [hw] at p4
    exact ⟨4, v', p4.1, by omega, by omega⟩
theorem fr_32 (hK : mKr op ar sx p2 p3 B d (F + 1)) (hF : F + 1 < 10) (h : mFr op ar sx p2 p3 B F k t vr [] s (mU []) Q v T) (h0 : v 0 21 = 0) (hp : v 17 F = zI 0) (hk : zok op ar p2 p3 (d + 1) k) (ho : op k = 32) : mFE F Q vr s 38 (zfor (fun x s => zgv (some (zhas t x)) s) (zev op ar sx p2 p3 d (k + 1) t vr s)) v T := by
  have h1 : 1 ≤ zpt (op k) := by rw [ho]; decide
  refine fr_for1 hK hF h h0 hp hk h1 (by omega) (by omega) (fun xs eR i v T l s c K hi hl h0 h hr hKy hc => ?_)
  obtain ⟨e, b, ee, he, eb, hb, hst⟩ := nx_pre (by omega) h hk h1 hr hi
  obtain ⟨a1, a2, a3, -, a5, a6, a7, a8, a9, a10, a11⟩ := id h
  have hkt := hb.2.1
  have hkx := he.2.1
  generalize hx : xs.getD i (zW 0) = x at *
  refine mFE_le (c := c + 1) ?_ (by omega) a7
  unfold nxd at hst
  rw [ho] at hst
  repeat rw [if_neg (by decide)] at hst
  rw [if_pos (by decide), f_M_next_381, bv_388, f_M_simple, gd_I (by omega) (by omega), zI_toNat (by omega), eb, nm_s, if_neg (by decide), if_neg (by decide), f_M_simple_75, if_pos (by decide), m_kind a2 hb, bi_s, zl_6, iI_eq (by omega) (by omega)] at hst
  have e8 : (8 : Int32) = zI (4 + 4 * 1) := rfl
  have e12 : (12 : Int32) = zI (4 + 4 * 2) := rfl
  have e183 : ∀ z, f_M_simple_183 (zI F) (zI 32) (zI e) z v = f_M_simple_253 (zI F) z v := fun z => by rw [f_M_simple_183, if_neg (by decide)]
  have etr : ∀ bb : Bool, ztr bb = if bb then zW 2 else zW 1 := fun _ => rfl
  have key : ∀ (z : Int32), f_M_step v (zI F) = f_M_simple_253 (zI F) z v → mP (some (z, v)) v T 0 (some (zhas t x)) → mFE F Q vr s (c + 1) (zapp l (zseq (zgv (some (zhas t x)) s) K)) v T := by
    intro z hz hP
    exact el_val (a := 0) (Y := some (z, v)) (K' := fun x v => f_M_simple_253 (zI F) x v) (by omega) h hl h0 hr hi hz (mP_w hP) (by omega) (fun _ _ => rfl) (fun e he => ⟨zhas_e (by injection he), by omega⟩) hKy (fun hw => by cases hw) hc
  have e120 : zk t ≠ 5 ∨ zk x ≠ 3 → ∀ z, f_M_simple_120 (zI F) (zI 32) (zI e) (zI b) z v = f_M_simple_253 (zI F) z v := by
    intro hn z
    rw [f_M_simple_120, if_pos (by decide), m_kind a2 hb, bi_s, zl_5, iI_eq (by omega) (by omega)]
    by_cases c5 : zk t = 5
    · rw [if_pos c5, m_kind a2 he, bi_s, zl_3, iI_eq (by omega) (by omega), if_neg (by omega), e183]
    · rw [if_neg c5, e183]
  by_cases c6 : zk t = 6 ∧ zk x = 4
  · obtain ⟨y1, y2⟩ := zY_U he c6.2
    rw [if_pos c6.1, m_kind a2 he, bi_s, zl_4, iI_eq (by omega) (by omega), if_pos c6.2, m_member a2 hb c6.1 y1 y2, bi_s, f_M_simple_118, f_M_simple_118, e120 (Or.inl (by omega)), e120 (Or.inl (by omega))] at hst
    have hz : zhas t x = .inr (ztr (zmem t (zl x, zx x) (zl t) 0).isSome) := by unfold zhas; rw [if_pos c6]
    cases hm : zmem t (zl x, zx x) (zl t) 0 with
    | none =>
      rw [hm] at hst hz
      dsimp only at hst
      rw [if_pos (by decide), e8] at hst
      exact key _ hst (by rw [hz]; exact mP_of a2 (mM_W a2 (by omega)))
    | some n =>
      have hn := zmem_lt (zl t) 0 hm
      have lt := zwf_l hb.2
      rw [hm] at hst hz
      dsimp only at hst
      rw [if_neg (by rw [zl_0, zI_lt (by omega) (by omega)]; omega), e12] at hst
      exact key _ hst (by rw [hz]; exact mP_of a2 (mM_W a2 (by omega)))
  · have e75 : f_M_step v (zI F) = f_M_simple_120 (zI F) (zI 32) (zI e) (zI b) (-1) v := by
      rw [hst]
      by_cases c9 : zk t = 6
      · rw [if_pos c9, m_kind a2 he, bi_s, zl_4, iI_eq (by omega) (by omega), if_neg (by omega)]
      · rw [if_neg c9]
    by_cases c5 : zk t = 5 ∧ zk x = 3
    · have hzb := zok_b (he.2.2.2.2.2.2.1 c5.2)
      have lt := zwf_l hb.2
      have hz : zhas t x = .inr (ztr (decide (0 ≤ zv x / 1000000 ∧ zv x / 1000000 < zl t))) := by unfold zhas; rw [if_neg c6, if_pos c5]
      have hsg := zsg_b (zv x - 0)
      have e64 : (zI (zl t)).toInt64 = zK (zl t : Int) := by rw [zI_J, zJ_64 (by omega) (by omega)]
      rw [f_M_simple_120, if_pos (by decide), m_kind a2 hb, bi_s, zl_5, iI_eq (by omega) (by omega), if_pos c5.1, m_kind a2 he, bi_s, zl_3, iI_eq (by omega) (by omega), if_pos c5.2, m_num a2 he c5.2, bi_s, zkl_0, zK_cmp (by omega) (by omega) (by omega) (by omega), iJ_lt0 (by omega) (by omega), m_num a2 he c5.2, bi_s, m_floor (by omega) (by omega), bi_s, m_size a2 hb, bi_s, e64] at e75
      rw [zK_cmp (by omega) (by omega) (by omega) (by omega)] at e75
      have hsg2 := zsg_b (zv x / 1000000 - (zl t : Int))
      rw [iJ_0le (by omega) (by omega), f_M_simple_179, f_M_simple_181, f_M_simple_181, e183, e183] at e75
      by_cases cn : zv x < 0
      · rw [if_pos (by rw [zsg]; split <;> omega), e8] at e75
        exact key _ e75 (by rw [hz, show decide (0 ≤ zv x / 1000000 ∧ zv x / 1000000 < zl t) = false by simp; omega]; exact mP_of a2 (mM_W a2 (by omega)))
      · rw [if_neg (by unfold zsg; split <;> (try split) <;> omega)] at e75
        by_cases cl : zv x / 1000000 < zl t
        · rw [if_neg (by unfold zsg; split <;> (try split) <;> omega), e12] at e75
          exact key _ e75 (by rw [hz, show decide (0 ≤ zv x / 1000000 ∧ zv x / 1000000 < zl t) = true by simp; omega]; exact mP_of a2 (mM_W a2 (by omega)))
        · rw [if_pos (by unfold zsg; split <;> (try split) <;> omega), e8] at e75
          exact key _ e75 (by rw [hz, show decide (0 ≤ zv x / 1000000 ∧ zv x / 1000000 < zl t) = false by simp; omega]; exact mP_of a2 (mM_W a2 (by omega)))
    · rw [e120 (by omega)] at e75
      have hz : zhas t x = .inl 1 := by unfold zhas; rw [if_neg c6, if_neg c5]
      exact key _ e75 (by rw [hz]; exact mP_er a2)
theorem m_rng (hF : F < 10) {e : Nat} (h3 : zk x = 3) : ∀ (m q n : Nat) (v : mS) (T : Nat) (l : List zT), l.length + m = 17 → m < q → n ≤ l.length → mFr op ar sx p2 p3 B F k t vr l s (mU l) Q v T → zU (v 6) T e x → ∃ v1 T1, f_M_simple_201 q (zI F) (zI e) (zI n) v = f_M_simple_242 (zI F) v1 ∧ mFr op ar sx p2 p3 B F k t vr (l ++ (List.range' n (zrn x - n)).map (fun k : Nat => zQ ((k : Int) * 1000000))) s (mU (l ++ (List.range' n (zrn x - n)).map (fun k : Nat => zQ ((k : Int) * 1000000)))) Q v1 T1 ∧ mX F v T v1 T1 ∧ mRs F i xs eR v T = mRs F i xs eR v T ∧ (∀ j, j = 17 ∨ j = 18 ∨ j = 19 ∨ j = 20 ∨ j = 23 → v1 j = v j) := by
  intro m
  induction m with
  | zero =>
    intro q n v T l hl hq hn h he
    obtain ⟨q, rfl, -⟩ := suc_of hq
    obtain ⟨a1, a2, a3, a4, a5, a6, a7, a8, a9, a10, a11⟩ := id h
    have hzb := zok_b (he.2.2.2.2.2.2.1 h3)
    have hdead : v 0 21 = 1 ∧ ∃ n, n ≤ 16 ∧ v 24 F = zI n := by
      rcases a9 with ⟨b1, b2, b3⟩ | ⟨b1, b2, b3⟩
      · omega
      · exact ⟨b2, b3⟩
    refine ⟨v, T, ?_, ⟨a1, a2, a3, a4, a5, a6, a7, a8, Or.inr ⟨by simp; omega, hdead.1, hdead.2⟩, ?_, a11⟩, mX.rf, rfl, fun _ _ => rfl⟩
    · rw [f_M_simple_201, m_num a2 he h3, bi_s, hdead.1, if_neg (show ¬ (1 : Int32) = 0 by decide)]
      split <;> rfl
    · have := mU_0 (l := l) ((List.range' n (zrn x - n)).map (fun k : Nat => zQ ((k : Int) * 1000000)))
      omega
  | succ m ih =>
    intro q n v T l hl hq hn h he
    obtain ⟨q, rfl, hq⟩ := suc_of hq
    have hq := Nat.lt_of_succ_lt_succ hq
    obtain ⟨a1, a2, a3, a4, a5, a6, a7, a8, a9, a10, a11⟩ := id h
    have hzb := zok_b (he.2.2.2.2.2.2.1 h3)
    have h0 : v 0 21 = 0 := by
      rcases a9 with ⟨b1, b2, b3⟩ | ⟨b1, b2, b3⟩
      · exact b2
      · omega
    have e64 : (zI n).toInt64 = zK (n : Int) := by rw [zI_J, zJ_64 (by omega) (by omega)]
    have hsg := zsg_b ((n : Int) * 1000000 - zv x)
    rw [f_M_simple_201, m_num a2 he h3, bi_s, e64, zkl_6, zK_mul, zK_cmp (by omega) (by omega) (by omega) (by omega), iJ_0le (by omega) (by omega), if_pos h0]
    by_cases cc : zv x ≤ (n : Int) * 1000000
    · rw [if_pos (by unfold zsg; split <;> (try split) <;> omega)]
      have e0 : zrn x - n = 0 := by unfold zrn; omega
      rw [e0]
      exact ⟨v, T, rfl, by simpa using h, mX.rf, rfl, fun _ _ => rfl⟩
    · rw [if_neg (by unfold zsg; split <;> (try split) <;> omega)]
      have hmu : 22 ≤ mU l := by unfold mU; omega
      obtain ⟨v1, b1, b2, b3, b4, b5, b6⟩ := m_whole_ok a2 (n := n) (by omega) (by omega)
      have hmu1 := mU_1 (l := l) (r := [zQ ((n : Int) * 1000000)]) (by omega) (by simp)
      obtain ⟨v2, c1, c2, c3, c4, c5⟩ := mFr_emit hF (mFr_E (u2 := mU (l ++ [zQ ((n : Int) * 1000000)])) h b3 b2 b5 (by omega)) b4
      obtain ⟨v3, T3, d1, d2, d3, d4, d5⟩ := ih q (n + 1) v2 (T + 6) _ (by simp; omega) hq (by simp; omega) c2 (c3.U (b3.U he))
      have e1 : zrn x - n = (zrn x - (n + 1)) + 1 := by unfold zrn; omega
      refine ⟨v3, T3, ?_, ?_, b3.X.tr (c3.tr d3), rfl, fun j hj => ?_⟩
      · rw [b1, bi_s, c1, bv_s, nm_s, zl_1, zI_add]
        exact d1
      · rw [e1, List.range'_succ, List.map_cons]
        rw [List.append_assoc] at d2
        exact d2
      · rw [d5 j hj, c4 j (by omega) (by omega) (by omega), b3.2.2.1 j (by omega) (by omega) (by omega) (by omega) (by omega) (by omega)]
theorem fr_29 (hK : mKr op ar sx p2 p3 B d (F + 1)) (hF : F + 1 < 10) (h : mFr op ar sx p2 p3 B F k t vr [] s (mU []) Q v T) (h0 : v 0 21 = 0) (hp : v 17 F = zI 0) (hk : zok op ar p2 p3 (d + 1) k) (ho : op k = 29) : mFE F Q vr s 38 (zfor (fun x s => zrng x s) (zev op ar sx p2 p3 d (k + 1) t vr s)) v T := by
  have h1 : 1 ≤ zpt (op k) := by rw [ho]; decide
  refine fr_for1 hK hF h h0 hp hk h1 (by omega) (by omega) (fun xs eR i v T l s c K hi hl h0 h hr hKy hc => ?_)
  obtain ⟨e, b, ee, he, eb, hb, hst⟩ := nx_pre (by omega) h hk h1 hr hi
  obtain ⟨a1, a2, a3, -, a5, a6, a7, a8, a9, a10, a11⟩ := id h
  have hkx := he.2.1
  have h16 := hr.2.2.2.1.1
  generalize hx : xs.getD i (zW 0) = x at *
  refine mFE_le (c := c + 1) ?_ (by omega) a7
  unfold nxd at hst
  rw [ho] at hst
  repeat rw [if_neg (by decide)] at hst
  rw [if_pos (by decide), f_M_next_381, bv_388, f_M_simple, gd_I (by omega) (by omega), zI_toNat (by omega), eb, nm_s, if_neg (by decide), if_neg (by decide), f_M_simple_75, if_neg (by decide), f_M_simple_120, if_neg (by decide), f_M_simple_183, if_pos (by decide), m_kind a2 he, bi_s, zl_3, iI_eq (by omega) (by omega)] at hst
  by_cases c3 : zk x = 3
  · obtain ⟨v1, T1, d1, d2, d3, -, d5⟩ := m_rng (i := i) (xs := xs) (eR := eR) (by omega) c3 (17 - l.length) fu 0 v T l (by omega) (fu_lt (by omega)) (by omega) h he
    have hr1 : mRs F i xs eR v1 T1 := mRs_k hr (fun j a => by rw [d5 j (by omega)]) (fun n _ _ => by rw [d5 23 (by omega)]) d3.2.1 d3.1
    rw [if_pos c3, zl_0, d1, f_M_simple_242, gd_I (by omega) (by omega), gd_I (by omega) (by omega), zI_toNat (by omega), hr1.2.1, zl_1, zI_add, nm_s] at hst
    have e1 : zrng x s = some ((List.range' 0 (zrn x - 0)).map (fun k : Nat => zQ ((k : Int) * 1000000)), none, s) := by
      unfold zrng zrow zrn
      rw [if_pos c3, List.range_eq_range', Nat.sub_zero]
    rw [e1]
    exact el_done (by omega) h h0 hr hst rfl d3 d2 (Nat.le_refl _) hr1 (fun v2 T2 k1 k2 => hc v2 T2 _ s e1 k1 k2)
  · rw [if_neg c3] at hst
    have e1 : zrng x s = zgv (some (.inl 1)) s := by unfold zrng; rw [if_neg c3]
    rw [e1]
    exact el_val (a := 0) (Y := some (-1, v)) (K' := fun x v => f_M_simple_253 (zI F) x v) (by omega) h hl h0 hr hi hst (mP_w (mP_er a2)) (by omega) (fun _ _ => rfl) (fun e he => ⟨by injection he with he; injection he with he; exact he.symm, by omega⟩) hKy (fun hw => by cases hw) (fun v2 T2 r s1 q => hc v2 T2 r s1 (by rw [e1]; exact q))
end MCC
