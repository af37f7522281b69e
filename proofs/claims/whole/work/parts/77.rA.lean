/-! the class: forgetting the last run keeps the SLOTS and the STRINGS and nothing else of the cells -/
def zEf (g : Nat → Nat) (v : mS) (T : Nat) (g' : Nat → Nat) (v' : mS) (T' : Nat) : Prop := T ≤ T' ∧ g' 5 = g 5 ∧ g' 25 = g 25 ∧ g 4 ≤ g' 4 ∧ (∀ i, i < T → v' 4 i = v 4 i) ∧ ∀ j, j ≠ 1 → j ≠ 2 → j ≠ 3 → j ≠ 4 → j ≠ 6 → j ≠ 7 → v' j = v j
theorem zEf.rf {g : Nat → Nat} {v : mS} {T : Nat} : zEf g v T g v T := ⟨Nat.le_refl _, rfl, rfl, Nat.le_refl _, fun _ _ => rfl, fun _ _ _ _ _ _ _ => rfl⟩
theorem zEf.tr {g g1 g2 : Nat → Nat} {v v1 v2 : mS} {T T1 T2 : Nat} (h : zEf g v T g1 v1 T1) (k : zEf g1 v1 T1 g2 v2 T2) : zEf g v T g2 v2 T2 := by
  obtain ⟨h1, h2, h3, h4, h5, h6⟩ := h
  obtain ⟨k1, k2, k3, k4, k5, k6⟩ := k
  exact ⟨by omega, by omega, by omega, by omega, fun i hi => (k5 i (by omega)).trans (h5 i hi), fun j a b c d e f => (k6 j a b c d e f).trans (h6 j a b c d e f)⟩
theorem zEf.L {g g' : Nat → Nat} {v v' : mS} {T T' : Nat} (h : zEf g v T g' v' T') : gL g ≤ gL g' := by
  have h2 := h.2.1
  have h4 := h.2.2.2.1
  unfold gL; omega
theorem zE.f {g g' : Nat → Nat} {v v' : mS} {T T' : Nat} (h : zE g v T g' v' T') : zEf g v T g' v' T' := ⟨h.1, h.2.1, h.2.2.1, h.2.2.2.1, h.2.2.2.2.1, fun j a b c d _ _ => h.2.2.2.2.2 j a b c d⟩
theorem zPl_s {c : Nat → Int32} {lo top n a : Nat} {t : zT} (h : zPl c lo top n a (.inl t)) : zRC c top n a t := h c (fun _ _ _ => rfl)
theorem zPl_x {c : Nat → Int32} {lo top n a : Nat} {x : zN} (h : zPl c lo top n a (.inr x)) : zRX c top a x := h c (fun _ _ _ => rfl)
section RA
variable {B : Nat → Int32} {L Tb : Nat} {S : Nat → zT} {X : Nat → zN}
theorem zEf_6 {g : Nat → Nat} {v : mS} {T i : Nat} {x : Int32} : zEf g v T g (sU v 6 i x) T := ⟨Nat.le_refl _, rfl, rfl, Nat.le_refl _, fun _ _ => by rw [sU_j (by decide)], fun j _ _ _ _ h _ => sU_j h⟩
theorem zEf_7 {g : Nat → Nat} {v : mS} {T i : Nat} {x : Int32} : zEf g v T g (sU v 7 i x) T := ⟨Nat.le_refl _, rfl, rfl, Nat.le_refl _, fun _ _ => by rw [sU_j (by decide)], fun j _ _ _ _ _ h => sU_j h⟩
theorem c_fg_64 (hTb : Tb ≤ L) (hL : L ≤ 130000) : ∀ (m i q : Nat) (g : Nat → Nat) (v : mS) (T : Nat), i + m = 8 → m < q → zM g v T → v 5 = B → g 5 = L → (∀ i, i < 118 → v 4 i = B i) → T + 16 * m ≤ 65000 → (∀ k, i ≤ k → k < 8 → ∃ a, v 7 k = zI a ∧ zRX B Tb a (X k) ∧ ztx (X k)) → (∀ k, k < i → ∃ a, v 7 k = zI a ∧ zRX (v 4) T a (X k) ∧ ztx (X k)) → ∃ g' v' T', f_B_forgetLastRun_64 q (zI i) g v = some (.inl (), g', v') ∧ zM g' v' T' ∧ zEf g v T g' v' T' ∧ v' 6 = v 6 ∧ T' ≤ T + 16 * m ∧ ∀ k, k < 8 → ∃ a, v' 7 k = zI a ∧ zRX (v' 4) T' a (X k) ∧ ztx (X k) := by
  intro m
  induction m with
  | zero =>
    intro i q g v T hi hq hM hB hg h118 hT ho hd
    obtain ⟨q, rfl, -⟩ := suc_of hq
    refine ⟨g, v, T, ?_, hM, zEf.rf, rfl, by omega, fun k hk => hd k (by omega)⟩
    rw [f_B_forgetLastRun_64, zl_8, iI_le (by omega) (by omega), if_pos (by omega)]
  | succ m ih =>
    intro i q g v T hi hq hM hB hg h118 hT ho hd
    obtain ⟨q, rfl, hq⟩ := suc_of hq
    have hq := Nat.lt_of_succ_lt_succ hq
    obtain ⟨a, ea, hx, hx2⟩ := ho i (by omega) (by omega)
    obtain ⟨g1, v1, T1, p, a1, a2, a3, a4, a5⟩ := c_moved hTb hL 6 dK (by decide) g v T a (.inr (X i)) hM hB hg h118 ⟨hx, hx2⟩ (by show T + 16 ≤ 65000; omega)
    have a4 : T1 ≤ T + 16 := a4
    have a5 := zPl_x a5
    have e5 : v1 5 = v 5 := a3.2.2.2.2.2 5 (by decide) (by decide) (by decide) (by decide)
    have e7 : v1 7 = v 7 := a3.2.2.2.2.2 7 (by decide) (by decide) (by decide) (by decide)
    have e6 : v1 6 = v 6 := a3.2.2.2.2.2 6 (by decide) (by decide) (by decide) (by decide)
    have j4 : sU v1 7 i (zI p) 4 = v1 4 := sU_j (by decide)
    have hT0 := hM.2.1
    have hE2 : zEf g v T g1 (sU v1 7 i (zI p)) T1 := a3.f.tr zEf_7
    obtain ⟨g', v', T', b1, b2, b3, b6, b4, b5⟩ := ih (i + 1) q g1 (sU v1 7 i (zI p)) T1 (by omega) hq (zM_w a2 (sU_j (by decide)) (fun _ _ => by rw [j4])) (by rw [sU_j (by decide), e5, hB]) (by rw [a3.2.1, hg]) (fun k hk => by rw [j4, a3.2.2.2.2.1 k (by omega)]; exact h118 k hk) (by omega) (fun k h1 h2 => by
        obtain ⟨a', x1, x2⟩ := ho k (by omega) h2
        exact ⟨a', by rw [sU_k (by omega), e7]; exact x1, x2⟩) (fun k hk => by
        rw [j4]
        by_cases c : k = i
        · subst c
          exact ⟨p, sU_hit, a5, hx2⟩
        · obtain ⟨a', x1, x2, x3⟩ := hd k (by omega)
          exact ⟨a', by rw [sU_k c, e7]; exact x1, a3.X x2, x3⟩)
    refine ⟨g', v', T', ?_, b2, hE2.tr b3, by rw [b6, sU_j (by decide), e6], by omega, b5⟩
    rw [f_B_forgetLastRun_64, zl_8, iI_le (by omega) (by omega), if_neg (by omega), gd_I (by omega) (by omega), zI_toNat (by omega), ea, a1]
    refine bo_l ?_ b3.L
    have e1 : zI i + 1 = zI (i + 1) := by rw [zl_1, zI_add]
    rw [f_B_forgetLastRun_88, gd_I (by omega) (by omega), zI_toNat (by omega), nm_s, e1, nm_s, b1]
theorem c_fg_31 (hTb : Tb ≤ L) (hL : L ≤ 130000) : ∀ (m i q : Nat) (g : Nat → Nat) (v : mS) (T : Nat), i + m = 8 → m < q → zM g v T → v 5 = B → g 5 = L → (∀ i, i < 118 → v 4 i = B i) → T + 798 * m + 128 ≤ 65000 → (∀ k, i ≤ k → k < 8 → ∃ a, v 6 k = zI a ∧ zV B Tb a (S k)) → (∀ k, k < i → ∃ a, v 6 k = zI a ∧ zV (v 4) T a (S k)) → (∀ k, k < 8 → ∃ a, v 7 k = zI a ∧ zRX B Tb a (X k) ∧ ztx (X k)) → ∃ g' v' T', f_B_forgetLastRun_31 q (zI i) g v = some (.inl (), g', v') ∧ zM g' v' T' ∧ zEf g v T g' v' T' ∧ T' ≤ T + 798 * m + 128 ∧ (∀ k, k < 8 → ∃ a, v' 6 k = zI a ∧ zV (v' 4) T' a (S k)) ∧ ∀ k, k < 8 → ∃ a, v' 7 k = zI a ∧ zRX (v' 4) T' a (X k) ∧ ztx (X k) := by
  intro m
  induction m with
  | zero =>
    intro i q g v T hi hq hM hB hg h118 hT ho hd hs
    obtain ⟨q, rfl, -⟩ := suc_of hq
    obtain ⟨g', v', T', b1, b2, b3, b6, b4, b5⟩ := c_fg_64 (X := X) hTb hL 8 0 fu g v T (by omega) (fu_lt (by omega)) hM hB hg h118 (by omega) (fun k _ hk => hs k hk) (fun k hk => by omega)
    refine ⟨g', v', T', ?_, b2, b3, by omega, fun k hk => ?_, b5⟩
    · rw [f_B_forgetLastRun_31, zl_8, iI_le (by omega) (by omega), if_pos (by omega)]
      exact b1
    · obtain ⟨a, e, h⟩ := hd k (by omega)
      exact ⟨a, by rw [b6]; exact e, zV_up h b3.2.2.2.2.1 b3.1⟩
  | succ m ih =>
    intro i q g v T hi hq hM hB hg h118 hT ho hd hs
    obtain ⟨q, rfl, hq⟩ := suc_of hq
    have hq := Nat.lt_of_succ_lt_succ hq
    obtain ⟨a, ea, hx⟩ := ho i (by omega) (by omega)
    have h24 := hx.2.2.1
    obtain ⟨g1, v1, T1, p, a1, a2, a3, a4, a5⟩ := c_moved hTb hL 6 dK (by decide) g v T a (.inl (S i)) hM hB hg h118 hx (by show T + (34 * zs (S i) - 18) ≤ 65000; omega)
    have a4 : T1 ≤ T + (34 * zs (S i) - 18) := a4
    have a5 := zPl_s a5
    have e5 : v1 5 = v 5 := a3.2.2.2.2.2 5 (by decide) (by decide) (by decide) (by decide)
    have e7 : v1 7 = v 7 := a3.2.2.2.2.2 7 (by decide) (by decide) (by decide) (by decide)
    have e6 : v1 6 = v 6 := a3.2.2.2.2.2 6 (by decide) (by decide) (by decide) (by decide)
    have j4 : sU v1 6 i (zI p) 4 = v1 4 := sU_j (by decide)
    have hT0 := hM.2.1
    have hE2 : zEf g v T g1 (sU v1 6 i (zI p)) T1 := a3.f.tr zEf_6
    obtain ⟨g', v', T', b1, b2, b3, b4, b5, b6⟩ := ih (i + 1) q g1 (sU v1 6 i (zI p)) T1 (by omega) hq (zM_w a2 (sU_j (by decide)) (fun _ _ => by rw [j4])) (by rw [sU_j (by decide), e5, hB]) (by rw [a3.2.1, hg]) (fun k hk => by rw [j4, a3.2.2.2.2.1 k (by omega)]; exact h118 k hk) (by omega) (fun k h1 h2 => by
        obtain ⟨a', x1, x2⟩ := ho k (by omega) h2
        exact ⟨a', by rw [sU_k (by omega), e6]; exact x1, x2⟩) (fun k hk => by
        rw [j4]
        by_cases c : k = i
        · subst c
          exact ⟨p, sU_hit, a5, hx.2⟩
        · obtain ⟨a', x1, x2⟩ := hd k (by omega)
          exact ⟨a', by rw [sU_k c, e6]; exact x1, a3.V x2⟩) (fun k hk => by
        rw [sU_j (by decide), e7]; exact hs k hk)
    refine ⟨g', v', T', ?_, b2, hE2.tr b3, by omega, b5, b6⟩
    rw [f_B_forgetLastRun_31, zl_8, iI_le (by omega) (by omega), if_neg (by omega), gd_I (by omega) (by omega), zI_toNat (by omega), ea, a1]
    refine bo_l ?_ b3.L
    have e1 : zI i + 1 = zI (i + 1) := by rw [zl_1, zI_add]
    rw [f_B_forgetLastRun_55, gd_I (by omega) (by omega), zI_toNat (by omega), nm_s, e1, nm_s, b1]
/-- what is kept of the class's state by forgetting the last run -/
def zFg (g : Nat → Nat) (v : mS) (g' : Nat → Nat) (v' : mS) : Prop := gL g ≤ gL g' ∧ g' 5 = g 4 ∧ g' 25 = g 25 ∧ (∀ i, i < 118 → v' 4 i = v 4 i) ∧ v' 5 = v 4 ∧ (∀ j, j ≠ 0 → j ≠ 1 → j ≠ 2 → j ≠ 3 → j ≠ 4 → j ≠ 5 → j ≠ 6 → j ≠ 7 → j ≠ 60 → v' j = v j) ∧ (∀ k, k ≠ 6 → k ≠ 7 → k ≠ 8 → v' 0 k = v 0 k) ∧ v' 0 6 = 0 ∧ v' 0 7 = 0 ∧ v' 0 8 = 0 ∧ v' 60 1 = 0 ∧ v' 60 2 = -1
theorem c_forget {g : Nat → Nat} {v : mS} {T : Nat} (hM : zM g v T) (h5 : 118 ≤ g 5) (h5b : g 5 ≤ 130000) (h118 : ∀ i, i < 118 → v 5 i = v 4 i) (hS : ∀ k, k < 8 → ∃ a, v 6 k = zI a ∧ zV (v 4) T a (S k)) (hX : ∀ k, k < 8 → ∃ a, v 7 k = zI a ∧ zRX (v 4) T a (X k) ∧ ztx (X k)) : ∃ g' v' T', f_B_forgetLastRun g v = some (.inl (), g', v') ∧ zM g' v' T' ∧ T' ≤ 6630 ∧ zFg g v g' v' ∧ (∀ k, k < 8 → ∃ a, v' 6 k = zI a ∧ zV (v' 4) T' a (S k)) ∧ ∀ k, k < 8 → ∃ a, v' 7 k = zI a ∧ zRX (v' 4) T' a (X k) ∧ ztx (X k) := by
  obtain ⟨m1, m2, m3, m4, m5, m6⟩ := hM
  have w : ∃ w : mS, (∀ o, f_B_forgetLastRun_29 (to_g g) (to_v w) = some o → gL g ≤ gL o.2.1 → f_B_forgetLastRun g v = some o) ∧ (∀ j, j ≠ 0 → j ≠ 60 → w j = v j) ∧ (∀ k, k ≠ 6 → k ≠ 7 → k ≠ 8 → w 0 k = v 0 k) ∧ w 0 6 = 0 ∧ w 0 7 = 0 ∧ w 0 8 = 0 ∧ w 60 1 = 0 ∧ w 60 2 = -1 := by
    refine ⟨sU (sU (sU (sU (sU v 0 6 0) 0 7 0) 0 8 0) 60 1 0) 60 2 (-1), fun o ho hg => ?_, fun j h0 h60 => ?_, fun k h6 h7 h8 => ?_, ?_, ?_, ?_, ?_, ?_⟩
    · rw [f_B_forgetLastRun]
      refine mg_s ?_ hg
      rw [nm_s, nm_s, nm_s, f_R_clear, gd_t (by decide), nm_s, nm_s, bv_s, f_V_turnOver, mg_s rfl (show gL g ≤ gL (to_g g) by unfold gL to_g; simp; omega)]
      exact bo_l ho (by have : gL (to_g g) = gL g := by { unfold gL to_g; simp; omega }
                        rw [this]; exact hg)
    · rw [sU_j h60, sU_j h60, sU_j h0, sU_j h0, sU_j h0]
    · rw [sU_j (by decide), sU_j (by decide), sU_k h8, sU_k h7, sU_k h6]
    · rw [sU_j (by decide), sU_j (by decide), sU_k (by decide), sU_k (by decide), sU_hit]
    · rw [sU_j (by decide), sU_j (by decide), sU_k (by decide), sU_hit]
    · rw [sU_j (by decide), sU_j (by decide), sU_hit]
    · rw [sU_k (by decide), sU_hit]
    · rw [sU_hit]
  obtain ⟨w, w1, w2, w3, w4, w5, w6, w7, w8⟩ := w
  have t1 : to_v w 1 4 = zI 118 := by
    show sU _ 1 4 118 1 4 = _
    rw [sU_hit]; rfl
  have t4 : to_v w 4 = v 5 := by
    show sU _ 1 4 118 4 = _
    rw [sU_j (by decide)]
    show w 5 = _
    exact w2 5 (by decide) (by decide)
  have t5 : to_v w 5 = v 4 := by
    show sU _ 1 4 118 5 = _
    rw [sU_j (by decide)]
    show w 4 = _
    exact w2 4 (by decide) (by decide)
  have tj : ∀ j, j ≠ 1 → j ≠ 4 → j ≠ 5 → to_v w j = w j := fun j a b c => by
    show sU _ 1 4 118 j = _
    rw [sU_j a]
    show (if j = 4 then _ else if j = 5 then _ else w j) = _
    rw [if_neg b, if_neg c]
  have g4 : to_g g 4 = g 5 := rfl
  have g5 : to_g g 5 = g 4 := rfl
  have hM' : zM (to_g g) (to_v w) 118 := ⟨t1, Nat.le_refl _, by rw [g4]; exact h5, by omega, by rw [g4]; exact h5b, by rw [t4]; exact zB_up m6 h118⟩
  have t6 : to_v w 6 = v 6 := (tj 6 (by decide) (by decide) (by decide)).trans (w2 6 (by decide) (by decide))
  have t7 : to_v w 7 = v 7 := (tj 7 (by decide) (by decide) (by decide)).trans (w2 7 (by decide) (by decide))
  obtain ⟨g', v', T', b1, b2, b3, b4, b5, b6⟩ := c_fg_31 (S := S) (X := X) (B := v 4) (L := g 4) (Tb := T) m3 m5 8 0 fu (to_g g) (to_v w) 118 (by omega) (fu_lt (by omega)) hM' t5 g5 (fun i hi => by rw [t4]; exact h118 i hi) (by omega) (fun k _ hk => by rw [t6]; exact hS k hk) (fun k hk => by omega) (fun k hk => by rw [t7]; exact hX k hk)
  have e0 : v' 0 = w 0 := (b3.2.2.2.2.2 0 (by decide) (by decide) (by decide) (by decide) (by decide) (by decide)).trans (tj 0 (by decide) (by decide) (by decide))
  have e60 : v' 60 = w 60 := (b3.2.2.2.2.2 60 (by decide) (by decide) (by decide) (by decide) (by decide) (by decide)).trans (tj 60 (by decide) (by decide) (by decide))
  have hgL : gL g ≤ gL g' := by
    have h1 := b3.L
    have h2 : gL (to_g g) = gL g := by unfold gL to_g; simp; omega
    omega
  refine ⟨g', v', T', w1 _ b1 hgL, b2, by omega, ⟨hgL, b3.2.1.trans g5, b3.2.2.1, fun i hi => ?_, ?_, fun j h0 h1 h2 h3 h4 h5 h6 h7 h60 => ?_, fun k h6 h7 h8 => by rw [e0]; exact w3 k h6 h7 h8, by rw [e0]; exact w4, by rw [e0]; exact w5, by rw [e0]; exact w6, by rw [e60]; exact w7, by rw [e60]; exact w8⟩, b5, b6⟩
  · rw [b3.2.2.2.2.1 i hi, t4]; exact h118 i hi
  · rw [b3.2.2.2.2.2 5 (by decide) (by decide) (by decide) (by decide) (by decide) (by decide)]; exact t5
  · rw [b3.2.2.2.2.2 j h1 h2 h3 h4 h6 h7, tj j h1 h4 h5]; exact w2 j h0 h60
end RA
