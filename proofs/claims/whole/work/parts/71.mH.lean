/-! the reference's machine: REDUCE, and the whole: work computes zev -/
section MHH
variable {op : Nat → Nat} {ar : Nat → Int32} {sx : Nat → zN} {p2 p3 : Nat → Nat} {B F k : Nat} {t y x : zT} {vr vra vr0 : Nat → zT} {l xs : List zT} {s u Q i : Nat} {v : mS} {T : Nat} {sp : zEv} {c d a : Nat} {X : Option mS} {eR : Option zT} {K : Option zT → Nat → zEv}
theorem sU_id {j n : Nat} {z : Int32} (h : v j n = z) : sU v j n z = v := by
  funext a b
  rw [sU_at]
  split
  · next hh => rw [hh.1, hh.2, h]
  · rfl
theorem mX_21 {z : Int32} : mX F v T (sU v 21 F z) T := ⟨Nat.le_refl _, fun n _ => by rw [sU_j (by decide)], fun j a => sU_j (by omega), fun j n a b => by
    by_cases cj : j = 21
    · subst cj; rw [sU_k (by omega)]
    · rw [sU_j cj], fun j n a _ => by rw [sU_j (by omega)], fun n _ => by rw [sU_j (by decide)]⟩
def mHd (F : Nat) (z : zT) (v : mS) (T : Nat) : Prop := ∃ b, v 21 F = zI b ∧ zU (v 6) T b z
theorem zrdc_b {G : zT → zT → Nat → zEv} {z : zT} {e : Option zT} : zrdc G (x :: xs) e z s = zbnd (G z x s) (fun r er s1 => match er with | some y => some ([], some y, s1) | none => zrdc G xs e (r.getLastD (zW 0)) s1) := by
  simp only [zrdc]
  cases G z x s with
  | none => rfl
  | some q =>
    obtain ⟨r, e1, s1⟩ := q
    cases e1 <;> rfl
theorem getD_last {r : List zT} (h : 0 < r.length) : r.getLastD (zW 0) = r.getD (r.length - 1) (zW 0) := by
  have hne : r ≠ [] := List.length_pos_iff.1 h
  rw [List.getLastD_eq_getLast?, List.getLast?_eq_getElem?, List.getD_eq_getElem?_getD]
theorem bv_54 : (bv X fun v_5 => f_M_last_54 v_5) = X := bv_idf (fun v => rfl)
theorem rd_rows (hK : mKr op ar sx p2 p3 B d (F + 1)) (hF : F + 1 < 10) (hk : zok op ar p2 p3 (d + 1) k) (ho : op k = 22) : ∀ (m i : Nat) (v : mS) (T : Nat) (z : zT) (s : Nat), i + m = xs.length → mFr op ar sx p2 p3 B F k t vr [] s (mU []) Q v T → mRs F i xs eR v T → mHd F z v T → mFE F Q vr s (2 * m + 1) (zrdc (fun z x s => zev op ar sx p2 p3 d (p3 k) z (va_up vr (ar k).toNatClampNeg x) s) (xs.drop i) eR z s) v T := by
  have h1 : 1 ≤ zpt (op k) := by rw [ho]; decide
  have h3 : 3 ≤ zpt (op k) := by rw [ho]; decide
  obtain ⟨n, hn, hn4⟩ := hk.2.2.1.2.1 (by omega)
  rw [hn, zI_toNat (by omega)]
  intro m
  induction m with
  | zero =>
    intro i v T z s hi h hr hz
    obtain ⟨r1, r2, r3, r4, r5⟩ := hr
    have h16 := r4.1
    have h0 := mFr_alive h (by simp)
    have hT := h.2.1.2.2.1
    have e1 : xs.drop i = [] := List.drop_eq_nil_of_le (by omega)
    obtain ⟨b, eb, hb⟩ := hz
    have hst : f_M_step v (zI F) = f_M_last v (zI F) (zI 22) := by
      rw [m_step_p (by omega) h hk.1 hk.2.1 h1 r1 (by omega), if_neg (by omega), if_neg (by omega), if_pos rfl, bv_id, ho, f_M_next, gd_I (by omega) (by omega), gd_I (by omega) (by omega), zI_toNat (by omega), r2, r3, iI_eq (by omega) (by omega), if_pos (by omega), bv_id]
    rw [e1]
    have key : ∀ sp, mOc F Q vr s 0 (f_M_last v (zI F) (zI 22)) sp v T → mFE F Q vr s (2 * 0 + 1) sp v T := by
      intro sp hO
      obtain ⟨v1, T1, b1, b2, b3⟩ := hO
      exact mFE_rd (c := 0) (by omega) h h0 r1 (by omega) (hst.trans b1) b2 b3
    apply key
    rw [f_M_last, if_pos (by decide), gd_I (by omega) (by omega), zI_toNat (by omega)]
    cases eR with
    | none =>
      have r5 : v 20 F = 0 := r5
      obtain ⟨v3, b1, b2, b3, b4, b5⟩ := mFr_emit (by omega) h hb
      rw [r5, if_pos (by decide), gd_I (by omega) (by omega), eb, f_M_finish, b1, bv_s, bv_id, bv_54]
      exact oc_X b3 (oc_end (e := none) (by omega) b2 rfl)
    | some w =>
      obtain ⟨q, eq, hq⟩ := id r5
      have h24 : v 24 F = 0 := by
        rcases h.2.2.2.2.2.2.2.2.1 with ⟨_, _, q3⟩ | ⟨q1, _, _⟩
        · exact q3.1
        · simp at q1
      rw [eq, if_neg (err_pos hT hq), gd_I (by omega) (by omega), f_M_alone, gd_I (by omega) (by omega), zI_toNat (by omega), sU_id h24, nm_s, bv_id, bv_54]
      exact oc_end (e := some w) (by omega) h ⟨q, rfl, hq⟩
  | succ m ih =>
    intro i v T z s hi h hr hz
    have h0 := mFr_alive h (by simp)
    have h16 := hr.2.2.2.1.1
    obtain ⟨e, b, ee, he, eb, hb, hst⟩ := nx_pre (by omega) h hk h1 hr (show i < xs.length by omega)
    obtain ⟨a1, a2, a3, -, a5, -⟩ := id h
    obtain ⟨bo, ebo, hbo⟩ := a5 n hn4
    obtain ⟨hd, ehd, hhd⟩ := hz
    have e21 : sU (sU v 22 F (v 14 n)) 14 n (zI e) 21 F = zI hd := by rw [sU_j (by decide), sU_j (by decide)]; exact ehd
    unfold nxd at hst
    rw [ho, hn] at hst
    repeat rw [if_neg (by decide)] at hst
    rw [if_pos (by decide), f_M_next_295, gd_I hn4 (by omega), gd_I (by omega) (by omega), zI_toNat (by omega), zI_toNat (by omega), nm_s, gd_I hn4 (by omega), nm_s, if_neg (by decide), f_M_next_329, if_neg (by decide), gd_I (by omega) (by omega), zI_toNat (by omega), e21, f_M_next_346, bv_388] at hst
    rw [drop_c (show i < xs.length by omega), zrdc_b, ← zapp_nil (sp := zbnd _ _)]
    have hva : mFr op ar sx p2 p3 B F k t (va_up vr n (xs.getD i (zW 0))) [] s (mU []) Q (sU (sU v 22 F (v 14 n)) 14 n (zI e)) T := mFr_var (mFr_w h (fun j _ _ _ _ _ b _ => sU_j b)) hn4 (by rw [sU_j (by decide)]; exact he)
    refine el_ask (c := 2 * m + 1) (va := sU (sU v 22 F (v 14 n)) 14 n (zI e)) (j := 2) hK hF hk h1 h h0 hr (by omega) ee he (mX_22.tr mX_14) hva (fun j hj => by rw [sU_j (by omega), sU_j (by omega)]) hst (hk.2.2.2.2.2 h3) (fun w hw => (a1.2.2.2 w (by rw [hw, sU_j (by decide), sU_j (by decide)]) (d + 1) k hk).2.2 h3) (by rw [sU_j (by decide), sU_j (by decide)]; exact hhd) (fun w T2 r er s1 q1 q2 q3 q4 q5 q6 q7 q8 q9 q10 q11 => ?_)
    have hw22 : w 22 F = zI bo := by rw [q8, sU_j (by decide), sU_hit]; exact ebo
    have hbo2 : zU (w 6) T2 bo (vr n) := zU_up hbo (fun m hm => by rw [q11 m hm, sU_j (by decide), sU_j (by decide)]) q10
    have hvb := mFr_var q4 hn4 hbo2
    rw [va_up_back] at hvb
    have hr16 := q6.2.1.1
    unfold wkd
    rw [ho, hn]
    repeat rw [if_neg (by decide)]
    rw [if_pos (by decide), gd_I (by omega) (by omega), gd_I hn4 (by omega), zI_toNat (by omega), zI_toNat (by omega), hw22, nm_s]
    have hz : ∀ j, j ≠ 14 → sU w 14 n (zI bo) j = w j := fun j a => sU_j a
    have hgw : mGot (sU w 14 n (zI bo)) T2 r er := mGot_up q6 (by rw [hz 0 (by omega)]) (by rw [hz 0 (by omega)]) (hz 26 (by omega)) (fun m _ => by rw [hz 6 (by omega)]) (Nat.le_refl _)
    have hrw : mRs F (i + 1) xs eR (sU w 14 n (zI bo)) T2 := mRs_k q5 (fun j a => by rw [hz j (by omega)]) (fun m _ _ => by rw [hz 23 (by omega)]) (fun m _ => by rw [hz 6 (by omega)]) (Nat.le_refl _)
    refine oc_X (mX_14 (n := n) (z := zI bo)) ?_
    generalize sU w 14 n (zI bo) = w2 at *
    have key : ∀ q zz, zU (w2 6) T2 q zz → (er = none → zz = r.getLastD (zW 0)) → mOc F Q vr s1 (2 * m + 1) (f_M_worked_304 (zI F) (zI F) (zI q) w2) (zapp [] (match (generalizing := false) er with | some y => some ([], some y, s1) | none => zrdc (fun z x s => zev op ar sx p2 p3 d (p3 k) z (va_up vr n x) s) (xs.drop (i + 1)) eR (r.getLastD (zW 0)) s1)) w2 T2 := by
      intro q zz hq hzz
      rw [f_M_worked_304, gd_I (by omega) (by omega), zI_toNat (by omega), nm_s]
      have hz2 : ∀ j, j ≠ 21 → sU w2 21 F (zI q) j = w2 j := fun j a => sU_j a
      have h21 : sU w2 21 F (zI q) 21 F = zI q := sU_hit
      refine oc_X (mX_21 (z := zI q)) ?_
      have hfr := mFr_w (w := sU w2 21 F (zI q)) hvb (fun j _ _ _ _ b _ _ => hz2 j b)
      have hrs3 : mRs F (i + 1) xs eR (sU w2 21 F (zI q)) T2 := mRs_k hrw (fun j a => by rw [hz2 j (by omega)]) (fun m _ _ => by rw [hz2 23 (by omega)]) (fun m _ => by rw [hz2 6 (by omega)]) (Nat.le_refl _)
      have her : mErr (sU w2 21 F (zI q) 0 38) (sU w2 21 F (zI q)) T2 er := by
        rw [hz2 0 (by omega)]
        exact mErr_up hgw.2.2 (fun m _ => by rw [hz2 6 (by omega)]) (Nat.le_refl _)
      have hhd : mHd F zz (sU w2 21 F (zI q)) T2 := ⟨q, h21, by rw [hz2 6 (by omega)]; exact hq⟩
      have := oc_313 (c := 2 * m + 1) (er := er) (K := fun e s1 => match e with | some y => some ([], some y, s1) | none => zrdc (fun z x s => zev op ar sx p2 p3 d (p3 k) z (va_up vr n x) s) (xs.drop (i + 1)) eR (r.getLastD (zW 0)) s1) (by omega) hfr her (fun _ _ => rfl) (fun en => by
        rw [zapp_nil, ← hzz en]
        exact ih (i + 1) _ T2 zz s1 (by omega) hfr hrs3 hhd)
      exact this
    have hM2 : mM w2 T2 := hvb.2.1
    have e4 : (4 : Int32) = zI 4 := rfl
    rw [hgw.1, zl_0, iI_le (by omega) (by omega)]
    by_cases c0 : r.length ≤ 0
    · rw [if_pos c0, e4]
      exact key 4 (zW 0) (mM_W hM2 (k := 0) (by omega)) (fun _ => by rw [List.length_eq_zero_iff.1 (show r.length = 0 by omega)]; rfl)
    · obtain ⟨q, eq, hq⟩ := hgw.2.1.2 (r.length - 1) (by omega)
      rw [Nat.zero_add] at eq
      rw [if_neg c0, zl_1, zI_sub (by omega), gd_I (by omega) (by omega), zI_toNat (by omega), eq]
      exact key q _ hq (fun _ => (getD_last (by omega)).symm)
theorem fr_22 (hK : mKr op ar sx p2 p3 B d (F + 1)) (hF : F + 1 < 10) (h : mFr op ar sx p2 p3 B F k t vr [] s (mU []) Q v T) (h0 : v 0 21 = 0) (hp : v 17 F = zI 0) (hk : zok op ar p2 p3 (d + 1) k) (ho : op k = 22) : mFE F Q vr s 38 (zbnd (zev op ar sx p2 p3 d (p2 k) t vr s) (fun r e s1 => match e with | some y => some ([], some y, s1) | none => zbnd (zev op ar sx p2 p3 d (k + 1) t vr s1) (fun xs e s2 => zrdc (fun z x s => zev op ar sx p2 p3 d (p3 k) z (va_up vr (ar k).toNatClampNeg x) s) xs e (r.headD (zW 0)) s2))) v T := by
  have h1 : 1 ≤ zpt (op k) := by rw [ho]; decide
  have h150 := h.2.2.2.2.2.2.1
  rw [← zapp_nil (sp := zbnd _ _)]
  refine mFE_le (fr_first2 (c := 36) hK hF h h0 hp hk (by omega) (fun v2 T2 r e s1 c1 c2 c3 c4 c5 => ?_)) (by omega) h150
  refine mFE_live c3 (fun _ h02 _ => fr_rd1 (c := 35) (by omega) c3 h02 c5 (cm_pre (by omega) c3 hk h1 c5) ?_)
  have hr16 := c4.2.1.1
  have hT := c3.2.1.2.2.1
  have key : ∀ q zz, zU (v2 6) T2 q zz → zz = r.headD (zW 0) → mOc F Q vr s1 35 (f_M_came_262 (zI F) (zI F) (zI q) v2) (zapp [] (match (generalizing := false) e with | some y => some ([], some y, s1) | none => zbnd (zev op ar sx p2 p3 d (k + 1) t vr s1) (fun xs e s2 => zrdc (fun z x s => zev op ar sx p2 p3 d (p3 k) z (va_up vr (ar k).toNatClampNeg x) s) xs e (r.headD (zW 0)) s2))) v2 T2 := by
    intro q zz hq hzz
    have hz2 : ∀ j, j ≠ 21 → sU v2 21 F (zI q) j = v2 j := fun j a => sU_j a
    have h21 : sU v2 21 F (zI q) 21 F = zI q := sU_hit
    have hfr := mFr_w (w := sU v2 21 F (zI q)) c3 (fun j _ _ _ _ b _ _ => hz2 j b)
    have her : mErr (sU v2 21 F (zI q) 0 38) (sU v2 21 F (zI q)) T2 e := by
      rw [hz2 0 (by omega)]
      exact mErr_up c4.2.2 (fun m _ => by rw [hz2 6 (by omega)]) (Nat.le_refl _)
    have hq2 : zU (sU v2 21 F (zI q) 6) T2 q zz := by rw [hz2 6 (by omega)]; exact hq
    rw [f_M_came_262, gd_I (by omega) (by omega), zI_toNat (by omega), nm_s]
    refine oc_X (mX_21 (z := zI q)) ?_
    generalize sU v2 21 F (zI q) = w at *
    obtain ⟨a1, a2, a3, ⟨b, eb, hb⟩, a5, a6, a7, -⟩ := id hfr
    cases e with
    | some y =>
      obtain ⟨p, ep, hpp⟩ := id her
      rw [ep, if_neg (err_pos a2.2.2.1 hpp), bv_322, zapp_nil]
      exact oc_le (oc_end (e := some y) (by omega) hfr ⟨p, rfl, hpp⟩) (by omega) a7
    | none =>
      have her : w 0 38 = 0 := her
      rw [her, if_pos (by decide), gd_I (by omega) (by omega), eb, bv_322]
      have hc : ∀ (v4 : mS) (T4 : Nat) (xs : List zT) (eR : Option zT) (s2 : Nat), zev op ar sx p2 p3 d (k + 1) t vr s1 = some (xs, eR, s2) → ([] : List zT).length ≤ 16 → mFr op ar sx p2 p3 B F k t vr [] s2 (mU []) Q v4 T4 → mGot v4 T4 xs eR → mX (F + 1) (sU w 17 F (zI 5)) T2 v4 T4 → v4 17 F = zI 5 → mFE F Q vr s2 35 (zapp [] (zrdc (fun z x s => zev op ar sx p2 p3 d (p3 k) z (va_up vr (ar k).toNatClampNeg x) s) xs eR (r.headD (zW 0)) s2)) v4 T4 := by
        intro v4 T4 xs eR s2 g1 g2 g3 g4 g5 g6
        have h04 := mFr_alive g3 (by simp)
        obtain ⟨v5, k1, k2, k3, k4, k5, k6, k7⟩ := m_keepRow (F := F) (by omega) g3.2.1 g4
        have hx16 := g4.2.1.1
        have f5 := mFr_w (w := v5) g3 (fun j b1 b2 b3 b4 _ _ b7 => k7 j b1 b2 b3 b4 b7)
        have hhd : mHd F (r.headD (zW 0)) v5 T4 := by
          refine ⟨q, ?_, ?_⟩
          · rw [k7 21 (by decide) (by decide) (by decide) (by decide) (by decide), g5.2.2.2.1 21 F (by omega) (by omega), sU_j (by decide)]; exact h21
          · rw [k7 6 (by decide) (by decide) (by decide) (by decide) (by decide), ← hzz]
            exact zU_up hq2 (fun m hm => by rw [g5.2.1 m hm, sU_j (by decide)]) g5.1
        rw [zapp_nil]
        have hrr := rd_rows (xs := xs) (eR := eR) hK hF hk ho xs.length 0 v5 T4 (r.headD (zW 0)) s2 (by omega) f5 ⟨k4, k5, k6⟩ hhd
        rw [List.drop_zero] at hrr
        exact mFE_pre (mRe_keep (by omega) g3.2.2.2.2.2.2.2.1 h04 g6 k1) k3 hrr (Nat.le_refl _) g3.2.2.2.2.2.2.1 (by omega)
      obtain ⟨v3, b1, b2, b3⟩ := m_askK (c := 35) (vr0 := vr) (j := 0) (ph := 5) (spK := fun xs e s2 => zrdc (fun z x s => zev op ar sx p2 p3 d (p3 k) z (va_up vr (ar k).toNatClampNeg x) s) xs e (r.headD (zW 0)) s2) hK hF hfr (hk.2.2.2.1 h1) (fun w hw => (a1.2.2.2 w hw (d + 1) k hk).1 h1) hb hc
      exact ⟨v3, T2, b1, b2, b3⟩
  have e4 : (4 : Int32) = zI 4 := rfl
  rw [ho, f_M_came, if_neg (by decide), if_neg (by decide), if_neg (by decide), if_neg (by decide), if_pos (by decide), c4.1, zl_0, iI_le (by omega) (by omega), ← zl_0]
  by_cases c0 : r.length ≤ 0
  · rw [if_pos c0, e4]
    exact key 4 (zW 0) (mM_W c3.2.1 (k := 0) (by omega)) (by rw [List.length_eq_zero_iff.1 (show r.length = 0 by omega)]; rfl)
  · obtain ⟨q, eq, hq⟩ := c4.2.1.2 0 (by omega)
    rw [Nat.zero_add] at eq
    rw [if_neg c0, gd_t (by decide), show (0 : Int32).toNatClampNeg = 0 from rfl, eq]
    refine key q _ hq ?_
    cases r with
    | nil => rfl
    | cons z r => rfl
theorem mFE_cap (h : mFE F Q vr s c sp v T) : mFE F Q vr s c (zcap sp) v T := by
  obtain ⟨n, v', T', a1, a2, a3, a4⟩ := h
  refine ⟨n, v', T', a1, a2, a3, ?_⟩
  cases sp with
  | none => exact a4
  | some q =>
    obtain ⟨r, e, s1⟩ := q
    dsimp only at a4
    simp only [zcap]
    by_cases cc : r.length ≤ 16
    · rw [if_pos cc] at a4 ⊢
      dsimp only
      rw [if_pos cc]
      exact a4
    · rw [if_neg cc] at a4 ⊢
      exact a4
theorem zag_k (hk : zok op ar p2 p3 (d + 1) k) : zag (op k) (ar k) := hk.2.2.1
/-- what stands in a frame when it has just been put up: it ends with what the token makes -/
theorem fr_all (hK : mKr op ar sx p2 p3 B d (F + 1)) (hF : F + 1 < 10) (h : mFr op ar sx p2 p3 B F k t vr [] s (mU []) Q v T) (h0 : v 0 21 = 0) (hp : v 17 F = zI 0) (hk : zok op ar p2 p3 (d + 1) k) : mFE F Q vr s 38 (zstep (op k) (ar k) sx (zev op ar sx p2 p3 d (k + 1)) (zev op ar sx p2 p3 d (p2 k)) (zev op ar sx p2 p3 d (p3 k)) t vr s) v T := by
  have ho := hk.2.1
  have hk32 := hk.1
  have h150 := h.2.2.2.2.2.2.1
  have hz := hk.2.2.1
  have hmu : mU ([] : List zT) = 374 := rfl
  have lf : ∀ sp, zpt (op k) = 0 → mOc F Q vr s 0 (f_M_leaf v (zI F) (zI (op k))) (zapp [] sp) v T → mFE F Q vr s 38 sp v T := by
    intro sp hpt hO
    rw [zapp_nil] at hO
    obtain ⟨v1, T1, b1, b2, b3⟩ := hO
    refine mFE_le (mFE_rd (c := 0) (by omega) h h0 hp (by omega) ?_ b2 b3) (by omega) h150
    rw [m_step_0 (by omega) h hk32 ho hpt, b1, bv_s]
  have hl : ([] : List zT).length ≤ 16 := by simp
  have hF9 : F < 10 := by omega
  rcases Nat.lt_or_ge (op k) 9 with g9 | g9
  · rcases Nat.lt_or_ge (op k) 5 with g5 | g5
    · rcases (show op k = 0 ∨ op k = 1 ∨ op k = 2 ∨ op k = 3 ∨ op k = 4 by omega) with e | e | e | e | e
      · refine lf _ (by rw [e]; rfl) ?_
        have := lf_o0 hF9 hk32 h hl (by omega) e
        rw [e] at this ⊢; exact this
      · refine lf _ (by rw [e]; rfl) ?_
        have := lf_o1 hF9 hk32 h hl (by omega) (hz.1 (by omega)) e
        rw [e] at this ⊢; exact this
      · have := fr_2 hK hF h h0 hp hk e
        rw [e]; exact this
      · refine lf _ (by rw [e]; rfl) ?_
        have := lf_o3 hF9 hk32 h hl (by omega) e
        rw [e] at this ⊢; exact this
      · have := fr_pipe hK hF h h0 hp hk e
        rw [e]; exact this
    · rcases (show op k = 5 ∨ op k = 6 ∨ op k = 7 ∨ op k = 8 by omega) with e | e | e | e
      · have hsp : zstep 5 (ar k) sx (zev op ar sx p2 p3 d (k + 1)) (zev op ar sx p2 p3 d (p2 k)) (zev op ar sx p2 p3 d (p3 k)) t vr s = zseq (zev op ar sx p2 p3 d (k + 1) t vr s) (fun e s1 => match e with | none => zev op ar sx p2 p3 d (p2 k) t vr s1 | some y => some ([], some y, s1)) := by
          show (match zev op ar sx p2 p3 d (k + 1) t vr s with
            | some (r, none, s1) => zthen (some (r, none, s1)) (fun s => zev op ar sx p2 p3 d (p2 k) t vr s)
            | w => w) = _
          cases zev op ar sx p2 p3 d (k + 1) t vr s with
          | none => rfl
          | some q =>
            obtain ⟨r, e1, s1⟩ := q
            cases e1 with
            | none => simp only [zthen, zseq]; cases zev op ar sx p2 p3 d (p2 k) t vr s1 <;> rfl
            | some y => simp [zseq, zapp]
        have := fr_5 hK hF h h0 hp hk e
        rw [e, hsp]; exact this
      · refine lf _ (by rw [e]; rfl) ?_
        have := lf_o6 hF9 hk32 h hl (by omega) e
        rw [e] at this ⊢; exact this
      · refine lf _ (by rw [e]; rfl) ?_
        have := lf_o7 hF9 hk32 h hl (by omega) (hz.1 (by omega)) e
        rw [e] at this ⊢; exact this
      · refine lf _ (by rw [e]; rfl) ?_
        have := lf_o8 hF9 hk32 h hl (by omega) (hz.2.2.2.2.1 (by omega)) e
        rw [e] at this ⊢; exact this
  · rcases Nat.lt_or_ge (op k) 18 with g18 | g18
    · rcases (show op k = 9 ∨ op k = 10 ∨ op k = 11 ∨ op k = 12 ∨ op k = 13 ∨ op k = 14 ∨ op k = 15 ∨ op k = 16 ∨ op k = 17 by omega) with e | e | e | e | e | e | e | e | e
      · have hsp : zstep 9 (ar k) sx (zev op ar sx p2 p3 d (k + 1)) (zev op ar sx p2 p3 d (p2 k)) (zev op ar sx p2 p3 d (p3 k)) t vr s = zbnd (zev op ar sx p2 p3 d (k + 1) t vr s) (fun r e s1 => match e with | some y => some ([], some y, s1) | none => zgv (zmkA r.length (fun i => r.getD i (zW 0))) s1) := by
          show (match zev op ar sx p2 p3 d (k + 1) t vr s with
            | none => none
            | some (_, some y, s1) => some ([], some y, s1)
            | some (r, none, s1) => zgv (zmkA r.length (fun k => r.getD k (zW 0))) s1) = _
          cases zev op ar sx p2 p3 d (k + 1) t vr s with
          | none => rfl
          | some q => obtain ⟨r, e1, s1⟩ := q; cases e1 <;> rfl
        have := fr_9 hK hF h h0 hp hk e
        rw [e, hsp]; exact this
      · refine lf _ (by rw [e]; rfl) ?_
        have := lf_o10 hF9 hk32 h hl (by omega) e
        rw [e] at this ⊢; exact this
      · have := fr_11 hK hF h h0 hp hk e
        rw [e]; exact this
      · have := fr_1213 hK hF h h0 hp hk (Or.inl e)
        rw [e] at this ⊢; exact this
      · have := fr_1213 hK hF h h0 hp hk (Or.inr e)
        rw [e] at this ⊢; exact this
      · have := fr_1415 hK hF h h0 hp hk (Or.inl e)
        rw [e] at this ⊢; exact this
      · have := fr_1415 hK hF h h0 hp hk (Or.inr e)
        rw [e] at this ⊢; exact this
      · refine lf _ (by rw [e]; rfl) ?_
        have := lf_o16 hF9 hk32 h hl (by omega) e
        rw [e] at this ⊢; exact this
      · have := fr_17 hK hF h h0 hp hk e
        rw [e]; exact this
    · rcases Nat.lt_or_ge (op k) 26 with g26 | g26
      · rcases (show op k = 18 ∨ op k = 19 ∨ op k = 20 ∨ op k = 21 ∨ op k = 22 ∨ op k = 23 ∨ op k = 24 ∨ op k = 25 by omega) with e | e | e | e | e | e | e | e
        · have hsp : zstep 18 (ar k) sx (zev op ar sx p2 p3 d (k + 1)) (zev op ar sx p2 p3 d (p2 k)) (zev op ar sx p2 p3 d (p3 k)) t vr s = zseq (zev op ar sx p2 p3 d (k + 1) t vr s) (fun e s1 => match e with | none => some ([], none, s1) | some y => zev op ar sx p2 p3 d (p2 k) y vr s1) := by
            show (match zev op ar sx p2 p3 d (k + 1) t vr s with
              | some (r, some y, s1) => zthen (some (r, none, s1)) (fun s => zev op ar sx p2 p3 d (p2 k) y vr s)
              | w => w) = _
            cases zev op ar sx p2 p3 d (k + 1) t vr s with
            | none => rfl
            | some q =>
              obtain ⟨r, e1, s1⟩ := q
              cases e1 with
              | none => simp [zseq, zapp]
              | some y => simp only [zthen, zseq]; cases zev op ar sx p2 p3 d (p2 k) y vr s1 <;> rfl
          have := fr_18 hK hF h h0 hp hk e
          rw [e, hsp]; exact this
        · have := fr_19 hK hF h h0 hp hk e
          rw [e]; exact this
        · have := fr_20 hK hF h h0 hp hk e
          rw [e]; exact this
        · refine lf _ (by rw [e]; rfl) ?_
          have := lf_o21 hF9 hk32 h hl (by omega) (hz.2.1 (by omega)) e
          rw [e] at this ⊢; exact this
        · have hsp : zstep 22 (ar k) sx (zev op ar sx p2 p3 d (k + 1)) (zev op ar sx p2 p3 d (p2 k)) (zev op ar sx p2 p3 d (p3 k)) t vr s = zbnd (zev op ar sx p2 p3 d (p2 k) t vr s) (fun r e s1 => match e with | some y => some ([], some y, s1) | none => zbnd (zev op ar sx p2 p3 d (k + 1) t vr s1) (fun xs e s2 => zrdc (fun z x s => zev op ar sx p2 p3 d (p3 k) z (va_up vr (ar k).toNatClampNeg x) s) xs e (r.headD (zW 0)) s2)) := by
            show (match zev op ar sx p2 p3 d (p2 k) t vr s with
              | none => none
              | some (_, some y, s1) => some ([], some y, s1)
              | some (r, none, s1) => (match zev op ar sx p2 p3 d (k + 1) t vr s1 with
                | none => none
                | some (xs, e, s2) => zrdc (fun z x s => zev op ar sx p2 p3 d (p3 k) z (va_up vr (ar k).toNatClampNeg x) s) xs e (r.headD (zW 0)) s2)) = _
            cases zev op ar sx p2 p3 d (p2 k) t vr s with
            | none => rfl
            | some q => obtain ⟨r, e1, s1⟩ := q; cases e1 <;> rfl
          have := fr_22 hK hF h h0 hp hk e
          rw [e, hsp]; exact this
        · refine lf _ (by rw [e]; rfl) ?_
          have := lf_o23 hF9 hk32 h hl (by omega) e
          rw [e] at this ⊢; exact this
        · refine lf _ (by rw [e]; rfl) ?_
          have := lf_o24 hF9 hk32 h hl (by omega) e
          rw [e] at this ⊢; exact this
        · refine lf _ (by rw [e]; rfl) ?_
          have := lf_o25 hF9 hk32 h hl (by omega) e
          rw [e] at this ⊢; exact this
      · rcases (show op k = 26 ∨ op k = 27 ∨ op k = 28 ∨ op k = 29 ∨ op k = 30 ∨ op k = 31 ∨ op k = 32 ∨ op k = 33 ∨ op k = 34 by omega) with e | e | e | e | e | e | e | e | e
        · refine lf _ (by rw [e]; rfl) ?_
          have := lf_o26 hF9 hk32 h hl (by omega) e
          rw [e] at this ⊢; exact this
        · refine lf _ (by rw [e]; rfl) ?_
          have := lf_o27 hF9 hk32 h hl (by omega) e
          rw [e] at this ⊢; exact this
        · refine lf _ (by rw [e]; rfl) ?_
          have := lf_o28 hF9 hk32 h hl (by omega) e
          rw [e] at this ⊢; exact this
        · have := fr_29 hK hF h h0 hp hk e
          rw [e]; exact this
        · refine lf _ (by rw [e]; rfl) ?_
          have := lf_o30 hF9 hk32 h e
          rw [e] at this ⊢; exact this
        · have := fr_31 hK hF h h0 hp hk e
          rw [e]; exact this
        · have := fr_32 hK hF h h0 hp hk e
          rw [e]; exact this
        · have := fr_33 hK hF h h0 hp hk e
          rw [e]; exact this
        · refine lf _ (by rw [e]; rfl) ?_
          have := lf_o34 hF9 hk32 h hl (by omega) e
          rw [e] at this ⊢; exact this
/-- the machine: work, and the rounds that follow, compute zev -/
theorem m_work : ∀ (d F : Nat), F + d ≤ 9 → mKr op ar sx p2 p3 B d F := by
  intro d
  induction d with
  | zero => intro F _ v T q b t vr s Q hE hok; exact hok.elim
  | succ d ih =>
    intro F hFd v T q b t vr s Q hE hok hM hb hV hs h150 h0 hf hQ hQ2
    by_cases c : s < 150
    · have hk := hok.1
      refine ⟨mwk v F s (zI (B + q)) (zI b), m_work_ok (by omega) hf hs c, mwk_X, ?_⟩
      obtain ⟨m1, m2, m3, m4, m5, m6⟩ := mwk_f (v := v) (F := F) (s := s) (x := zI (B + q)) (y := zI b)
      have hj : ∀ j, (1 ≤ j ∧ j < 15) ∨ 20 < j → j ≠ 24 → mwk v F s (zI (B + q)) (zI b) j = v j := fun j a a2 => mwk_j (by omega) (by omega) a2
      have h6 : mwk v F s (zI (B + q)) (zI b) 6 = v 6 := hj 6 (by omega) (by omega)
      have h21 : mwk v F s (zI (B + q)) (zI b) 0 21 = 0 := by rw [mwk_0 (by decide) (by decide)]; exact h0
      have hfr : mFr op ar sx p2 p3 B F q t vr [] (s + 1) (mU []) Q (mwk v F s (zI (B + q)) (zI b)) T := ⟨mEn_up hE (fun j _ _ => hj j (by omega) (by omega)), mwk_M hM, m1, ⟨b, m2, by rw [h6]; exact hb⟩, mVr_up hV (hj 14 (by omega) (by omega)) (fun _ _ => by rw [h6]) (Nat.le_refl _), m6, by omega, m5, Or.inl ⟨by simp, h21, mwk_out⟩, by show T + 374 + 374 * (150 - (s + 1)) ≤ Q; omega, hQ2⟩
      cases d with
      | zero =>
        have hw : zpt (op q) = 0 := by
          rcases Nat.eq_zero_or_pos (zpt (op q)) with e | e
          · exact e
          · exact (hok.2.2.2.1 e).elim
        have hK0 : mKr op ar sx p2 p3 B 0 (F + 1) := fun v T q b t vr s Q _ hok => hok.elim
        have := fr_all hK0 (by omega) hfr h21 m3 hok
        have e1 : zev op ar sx p2 p3 (0 + 1) q t vr s = zcap (zstep (op q) (ar q) sx (zev op ar sx p2 p3 0 (q + 1)) (zev op ar sx p2 p3 0 (p2 q)) (zev op ar sx p2 p3 0 (p3 q)) t vr (s + 1)) := by
          simp only [zev]; rw [if_neg (by omega)]
        rw [e1]
        exact mFE_pre mRe.rf mX.rf (mFE_cap this) (by omega) (by omega) (by omega)
      | succ d =>
        have := fr_all (ih (F + 1) (by omega)) (by omega) hfr h21 m3 hok
        have e1 : zev op ar sx p2 p3 (d + 1 + 1) q t vr s = zcap (zstep (op q) (ar q) sx (zev op ar sx p2 p3 (d + 1) (q + 1)) (zev op ar sx p2 p3 (d + 1) (p2 q)) (zev op ar sx p2 p3 (d + 1) (p3 q)) t vr (s + 1)) := by
          rw [zev, if_neg (by omega)]
        rw [e1]
        exact mFE_pre mRe.rf mX.rf (mFE_cap this) (by omega) (by omega) (by omega)
    · have e1 : zev op ar sx p2 p3 (d + 1) q t vr s = none := by
        rw [zev, if_pos (by omega)]
      rw [e1]
      refine ⟨sU (sU v 0 20 (zI (s + 1))) 0 21 1, m_work_no hs (by omega) (by omega), ⟨Nat.le_refl _, fun i _ => by rw [sU_j (by decide), sU_j (by decide)], fun j a => by rw [sU_j (by omega), sU_j (by omega)], fun j i a _ => by rw [sU_j (by omega), sU_j (by omega)], fun j i a _ => by rw [sU_j (by omega), sU_j (by omega)], fun i a => by rw [sU_k (by omega), sU_k (by omega)]⟩, mFE_dead (mM_w hM (by rw [sU_k (by decide), sU_k (by decide)]) (fun i _ => by rw [sU_j (by decide), sU_j (by decide)])) sU_hit (Or.inl rfl)⟩
end MHH
