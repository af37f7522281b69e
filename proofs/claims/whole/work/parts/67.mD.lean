/-! the reference's machine: INDEX, and what is asked for each value of a row -/
section MDD
variable {op : Nat → Nat} {ar : Nat → Int32} {sx : Nat → zN} {p2 p3 : Nat → Nat} {B F k : Nat} {t y x : zT} {vr vra vr0 : Nat → zT} {l xs : List zT} {s u Q i : Nat} {v : mS} {T : Nat} {sp : zEv} {c d a : Nat} {X : Option mS} {eR : Option zT} {K : Option zT → Nat → zEv}
theorem el_done2 {r : List zT} {w : mS} {T1 : Nat} (hF : F < 10) (h : mFr op ar sx p2 p3 B F k t vr l s (mU l) Q v T) (h0 : v 0 21 = 0) (hr : mRs F i xs eR v T) (hs : f_M_step v (zI F) = some w) (hX : mX F v T w T1) (h1 : mFr op ar sx p2 p3 B F k t vr (l ++ r) s u Q w T1) (hu : mU (l ++ r) ≤ u) (hr1 : mRs F (i + 1) xs eR w T1) (hc : ∀ (v2 : mS) (T2 : Nat), mFr op ar sx p2 p3 B F k t vr (l ++ r) s (mU (l ++ r)) Q v2 T2 → mRs F (i + 1) xs eR v2 T2 → mFE F Q vr0 s c (zapp (l ++ r) (K none s)) v2 T2) : mFE F Q vr0 s (c + 1) (zapp l (zseq (some (r, none, s)) K)) v T := by
  rw [zseq_s, zapp_app]
  exact mFE_rd hF h h0 hr.1 (by omega) hs hX (hc w T1 (mFr_le h1 hu) hr1)
theorem m_field_ok {z : zN} {b e : Nat} {zz : zT} (hF : F < 10) (h : mFr op ar sx p2 p3 B F k t vr l s u Q v T) (hb : zU (v 6) T b y) (hx : zRY (v 6) T e z) (hx2 : ztx z) (c6 : zk y = 6) (hz : zfld y z = .inr zz) : ∃ v', f_M_field v (zI F) (zI b) (zI e) = some (1, v') ∧ mFr op ar sx p2 p3 B F k t vr (l ++ [zz]) s u Q v' T ∧ mX F v T v' T ∧ (∀ j, j ≠ 0 → j ≠ 24 → j ≠ 25 → v' j = v j) := by
  obtain ⟨a1, a2, -⟩ := id h
  have hem : ∀ q, zU (v 6) T q zz → ∃ v', f_M_field_60 (zI F) (zI q) v = some (1, v') ∧ mFr op ar sx p2 p3 B F k t vr (l ++ [zz]) s u Q v' T ∧ mX F v T v' T ∧ (∀ j, j ≠ 0 → j ≠ 24 → j ≠ 25 → v' j = v j) := by
    intro q hq
    obtain ⟨v', b1, b2, b3, b4, b5⟩ := mFr_emit hF h hq
    exact ⟨v', by rw [f_M_field_60, b1, bv_s], b2, b3, b4⟩
  have hN : zU (v 6) T 4 (zW 0) := mM_W a2 (k := 0) (by omega)
  have e4 : (4 : Int32) = zI 4 := rfl
  have e1 : f_M_field v (zI F) (zI b) (zI e) = f_M_field_20 (zI F) (zI b) (zI e) v := by
    rw [f_M_field, m_kind a2 hb, bi_s, zl_0, iI_eq (by omega) (by omega), if_neg (by omega), m_kind a2 hb, bi_s, zl_6, iI_eq (by omega) (by omega), if_pos c6]
  have hz2 := hz
  unfold zfld at hz2
  rw [if_neg (by omega), if_pos c6] at hz2
  rw [e1, f_M_field_20, m_kind a2 hb, bi_s, zl_6, iI_eq (by omega) (by omega), if_pos c6, m_member a2 hb c6 hx hx2, bi_s, f_M_field_40]
  cases hm : zmem y z (zl y) 0 with
  | none =>
    rw [hm] at hz2
    dsimp only at hz2 ⊢
    cases hz2
    rw [if_neg (by decide), e4]
    exact hem 4 hN
  | some n =>
    rw [hm] at hz2
    dsimp only at hz2 ⊢
    cases hz2
    have hi := zmem_lt (zl y) 0 hm
    have lt := zwf_l hb.2
    obtain ⟨p, ep, hp⟩ := m_item a2 hb (by omega) (show n < zl y by omega)
    rw [if_pos (by rw [zl_0, zI_le (by omega) (by omega)]; omega), ep, bi_s]
    exact hem p hp
theorem fr_2 (hK : mKr op ar sx p2 p3 B d (F + 1)) (hF : F + 1 < 10) (h : mFr op ar sx p2 p3 B F k t vr [] s (mU []) Q v T) (h0 : v 0 21 = 0) (hp : v 17 F = zI 0) (hk : zok op ar p2 p3 (d + 1) k) (ho : op k = 2) : mFE F Q vr s 38 (zfor (fun x s => zgv (some (zidx t x)) s) (zev op ar sx p2 p3 d (k + 1) t vr s)) v T := by
  have h1 : 1 ≤ zpt (op k) := by rw [ho]; decide
  refine fr_for1 hK hF h h0 hp hk h1 (by omega) (by omega) (fun xs eR i v T l s c K hi hl h0 h hr hKy hc => ?_)
  obtain ⟨e, b, ee, he, eb, hb, hst⟩ := nx_pre (by omega) h hk h1 hr hi
  obtain ⟨a1, a2, a3, -, a5, a6, a7, a8, a9, a10, a11⟩ := id h
  have hkt := hb.2.1
  have hkx := he.2.1
  have h16 := hr.2.2.2.1.1
  have lt := zwf_l hb.2
  generalize hx : xs.getD i (zW 0) = x at *
  refine mFE_le (c := c + 1) ?_ (by omega) a7
  unfold nxd at hst
  rw [ho] at hst
  repeat rw [if_neg (by decide)] at hst
  rw [f_M_next_381, bv_388, f_M_simple, gd_I (by omega) (by omega), zI_toNat (by omega), eb, nm_s, if_pos (by decide), f_M_index, m_kind a2 hb, bi_s, m_kind a2 he, bi_s, zl_6, iI_eq (by omega) (by omega), zl_4, iI_eq (by omega) (by omega)] at hst
  have e4 : (4 : Int32) = zI 4 := rfl
  have hN : zU (v 6) T 4 (zW 0) := mM_W a2 (k := 0) (by omega)
  by_cases c64 : zk t = 6 ∧ zk x = 4
  · obtain ⟨y1, y2⟩ := zY_U he c64.2
    have hw : mFr op ar sx p2 p3 B F k t vr l s (mU l) Q (sU v 18 F (zI (i + 1))) T := mFr_w h (fun j _ b _ _ _ _ _ => sU_j b)
    have hr2 : mRs F (i + 1) xs eR (sU v 18 F (zI (i + 1))) T := mRs_at hr rfl
    have h6 : sU v 18 F (zI (i + 1)) 6 = v 6 := sU_j (by decide)
    have hzi : ∃ zz, zidx t x = .inr zz ∧ zfld t (zl x, zx x) = .inr zz := by
      unfold zidx zfld
      rw [if_neg (by omega), if_pos c64, if_neg (by omega), if_pos c64.1]
      cases zmem t (zl x, zx x) (zl t) 0 with
      | none => exact ⟨_, rfl, rfl⟩
      | some n => exact ⟨_, rfl, rfl⟩
    obtain ⟨zz, z1, z2⟩ := hzi
    obtain ⟨v2, b1, b2, b3, b4⟩ := m_field_ok (by omega) hw (by rw [h6]; exact hb) (by rw [h6]; exact y1) y2 c64.1 z2
    rw [if_pos c64.1, if_pos c64.2, gd_I (by omega) (by omega), gd_I (by omega) (by omega), zI_toNat (by omega), hr.2.1, zl_1, zI_add, nm_s, b1, bi_s, gd_t (by decide), bi_s, if_neg (by decide)] at hst
    rw [z1]
    exact el_done2 (r := [zz]) (by omega) h h0 hr hst ((mX_at rfl).tr b3) b2 (mU_0 _) (mRs_m hr2 b4) (fun v2 T2 k1 k2 => hc v2 T2 [zz] s (by rw [z1]; rfl) k1 k2)
  · have e45 : f_M_step v (zI F) = bi (f_M_index_45 (zI F) (zI b) (zI e) (zI (zk t)) (zI (zk x)) v) fun r_19 v_17 => if r_19 = 0 then (bv (f_M_err v_17 (zI F) 1) fun v_21 => f_M_simple_33 v_21) else (f_M_simple_33 v_17) := by
      rw [hst]
      by_cases c9 : zk t = 6
      · rw [if_pos c9, if_neg (by omega)]
      · rw [if_neg c9]
    have h137 : ∀ w, mRs F i xs eR w T → f_M_index_137 (zI F) w = some (1, sU w 18 F (zI (i + 1))) := by
      intro w hw
      rw [f_M_index_137, gd_I (by omega) (by omega), gd_I (by omega) (by omega), zI_toNat (by omega), hw.2.1, zl_1, zI_add, nm_s]
    have key : ∀ (q : Nat) (zz : zT), zU (v 6) T q zz → zidx t x = .inr zz → (∀ w, f_M_emit v (zI F) (zI q) = some w → f_M_index_45 (zI F) (zI b) (zI e) (zI (zk t)) (zI (zk x)) v = f_M_index_137 (zI F) w) → mFE F Q vr s (c + 1) (zapp l (zseq (zgv (some (zidx t x)) s) K)) v T := by
      intro q zz hq hz hf
      obtain ⟨w, b1, b2, b3, b4, b5⟩ := mFr_emit (by omega) h hq
      have hrw := mRs_m hr b4
      rw [hf w b1, h137 w hrw, bi_s, if_neg (by decide)] at e45
      rw [hz]
      exact el_done (r := [zz]) (by omega) h h0 hr e45 rfl b3 b2 (mU_0 _) hrw (fun v2 T2 k1 k2 => hc v2 T2 [zz] s (by rw [hz]; rfl) k1 k2)
    have h124 : ¬ (zk t = 5 ∧ zk x = 3) → f_M_index_45 (zI F) (zI b) (zI e) (zI (zk t)) (zI (zk x)) v = f_M_index_124 (zI F) (zI (zk t)) v := by
      intro hn
      rw [f_M_index_45, zl_5, iI_eq (by omega) (by omega), zl_3, iI_eq (by omega) (by omega)]
      by_cases c5 : zk t = 5
      · rw [if_pos c5, if_neg (by omega)]
      · rw [if_neg c5]
    by_cases ct0 : zk t = 0
    · refine key 4 (zW 0) hN (by unfold zidx; rw [if_pos ct0]) (fun w hw => ?_)
      rw [h124 (by omega), f_M_index_124, zl_0, iI_eq (by omega) (by omega), if_pos ct0, e4, hw, bv_s]
    · by_cases c53 : zk t = 5 ∧ zk x = 3
      · have hzb := zok_b (he.2.2.2.2.2.2.1 c53.2)
        have hfl : f_M_index_45 (zI F) (zI b) (zI e) (zI (zk t)) (zI (zk x)) v = f_M_index_85 (zI F) (zI b) (zK (if zv x / 1000000 < 0 then zv x / 1000000 + zl t else zv x / 1000000)) v := by
          have hsg := zsg_b (zv x / 1000000 - 0)
          rw [f_M_index_45, zl_5, iI_eq (by omega) (by omega), if_pos c53.1, zl_3, iI_eq (by omega) (by omega), if_pos c53.2, m_num a2 he c53.2, bi_s, m_floor (by omega) (by omega), bi_s, zkl_0, zK_cmp (by omega) (by omega) (by omega) (by omega), iJ_0le (by omega) (by omega)]
          by_cases cn : zv x / 1000000 < 0
          · have e64 : (zI (zl t)).toInt64 = zK (zl t : Int) := by rw [zI_J, zJ_64 (by omega) (by omega)]
            rw [if_neg (by unfold zsg; split <;> (try split) <;> omega), m_size a2 hb, bi_s, nm_s, e64, zK_add, if_pos cn]
          · rw [if_pos (by unfold zsg; split <;> (try split) <;> omega), if_neg cn]
        have hzi : zidx t x = if 0 ≤ (if zv x / 1000000 < 0 then zv x / 1000000 + zl t else zv x / 1000000) ∧ (if zv x / 1000000 < 0 then zv x / 1000000 + zl t else zv x / 1000000) < zl t then .inr (zc t (if zv x / 1000000 < 0 then zv x / 1000000 + zl t else zv x / 1000000).toNat) else .inr (zW 0) := by
          unfold zidx
          rw [if_neg ct0, if_neg c64, if_pos c53]
        have hnb : -1000000000 ≤ (if zv x / 1000000 < 0 then zv x / 1000000 + zl t else zv x / 1000000) ∧ (if zv x / 1000000 < 0 then zv x / 1000000 + zl t else zv x / 1000000) ≤ 1000000000 := by split <;> omega
        generalize (if zv x / 1000000 < 0 then zv x / 1000000 + (zl t : Int) else zv x / 1000000) = n at *
        have hsg := zsg_b (n - 0)
        have hsg2 := zsg_b (n - (zl t : Int))
        have e64 : (zI (zl t)).toInt64 = zK (zl t : Int) := by rw [zI_J, zJ_64 (by omega) (by omega)]
        by_cases cn : n < 0
        · refine key 4 (zW 0) hN (by rw [hzi, if_neg (by omega)]) (fun w hw => ?_)
          rw [hfl, f_M_index_85, zkl_0, zK_cmp (by omega) (by omega) (by omega) (by omega), iJ_lt0 (by omega) (by omega), if_pos (by unfold zsg; split <;> (try split) <;> omega), f_M_index_117, f_M_index_118, e4, hw, bv_s]
        · by_cases cl : n < zl t
          · obtain ⟨p, ep, hpp⟩ := m_item a2 hb (by omega) (show n.toNat < zl t by omega)
            have e32 : (zK n).toInt32 = zI n.toNat := by rw [zK_32, zI_J]; congr 1; omega
            refine key p _ hpp (by rw [hzi, if_pos (by omega)]) (fun w hw => ?_)
            rw [hfl, f_M_index_85, zkl_0, zK_cmp (by omega) (by omega) (by omega) (by omega), iJ_lt0 (by omega) (by omega), if_neg (by unfold zsg; split <;> (try split) <;> omega), m_size a2 hb, bi_s, e64, zK_cmp (by omega) (by omega) (by omega) (by omega), iJ_0le (by omega) (by omega), if_neg (by unfold zsg; split <;> (try split) <;> omega), e32, ep, bi_s, f_M_index_118, hw, bv_s]
          · refine key 4 (zW 0) hN (by rw [hzi, if_neg (by omega)]) (fun w hw => ?_)
            rw [hfl, f_M_index_85, zkl_0, zK_cmp (by omega) (by omega) (by omega) (by omega), iJ_lt0 (by omega) (by omega), if_neg (by unfold zsg; split <;> (try split) <;> omega), m_size a2 hb, bi_s, e64, zK_cmp (by omega) (by omega) (by omega) (by omega), iJ_0le (by omega) (by omega), if_pos (by unfold zsg; split <;> (try split) <;> omega), f_M_index_117, f_M_index_118, e4, hw, bv_s]
      · have hzi : zidx t x = .inl 1 := by unfold zidx; rw [if_neg ct0, if_neg c64, if_neg c53]
        rw [h124 c53, f_M_index_124, zl_0, iI_eq (by omega) (by omega), if_neg ct0, bi_s, if_pos rfl] at e45
        obtain ⟨v2, T2, b1, b2, b3⟩ := oc_err (n := 1) (by omega) (by omega) (by unfold mU; omega) h
        rw [zl_1, b1, bv_s] at e45
        refine mFE_le (mFE_rd (c := 0) (v1 := v2) (T1 := T2) (by omega) h h0 hr.1 (by omega) e45 b2 ?_) (by omega) a7
        have e1 : zapp l (zseq (zgv (some (zidx t x)) s) K) = some (l, some (zQ (((1 : Nat) : Int) * 1000000)), s) := by
          simp [hzi, zgv, zseq, hKy, zapp]
        rw [e1]
        exact b3
end MDD
