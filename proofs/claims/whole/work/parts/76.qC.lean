/-! the reference: the sweep -/
section QC
theorem r_copied {v : mS} {T a L : Nat} {t : zT} (hy : zU (v 6) T a t) (hT : T ≤ 63900) (hK : ∀ k, k < 3 → zU (v 6) 16 (4 + 4 * k) (zW k)) (h9 : v 0 9 = zI L) (hL : 16 ≤ L) (hL2 : L + 34 * zs t ≤ 8018) : ∃ p L' v', f_M_copied v (zI a) = some (zI p, v') ∧ mQ v v' ∧ v' 0 9 = zI L' ∧ L ≤ L' ∧ L' + 18 ≤ L + 34 * zs t ∧ (∀ i, i < L → v' 7 i = v 7 i) ∧ rPl 6 v (v' 7) L L' p t := by
  have h24 := hy.2.2.1
  have hD : mQ v (mpush (sU v 0 18 (zI 0)) 0 (zI a) (zI 0)) := mQ_18.tr mpush_D.Q
  have h6 : mpush (sU v 0 18 (zI 0)) 0 (zI a) (zI 0) 6 = v 6 := hD.h
  have h7 : mpush (sU v 0 18 (zI 0)) 0 (zI a) (zI 0) 7 = v 7 := by
    rw [mpush_D.1 7 (by decide) (by decide) (by decide), sU_j (by decide)]
  have h90 : mpush (sU v 0 18 (zI 0)) 0 (zI a) (zI 0) 0 9 = zI L := by
    rw [mpush_D.2 9 (by decide), sU_k (by decide)]; exact h9
  obtain ⟨k, p, L', v', b1, b2, b3, b4, b5, b6, b7, b8, b9, b10, b11⟩ := r_copy 6 t hy.2 (mpush (sU v 0 18 (zI 0)) 0 (zI a) (zI 0)) T a 0 0 L (by rw [h6]; exact hy) hT (by rw [h6]; exact hK) mpush_h.2.2.1 (by omega) mpush_h.1 mpush_h.2.1 h90 hL hL2 (by omega)
  refine ⟨p, L', v', ?_, hD.tr b3, b5, b6, b7, fun i hi => by rw [b9 i hi (Or.inr rfl), h7], ?_⟩
  · have e1 : f_M_copied v (zI a) = f_M_copied_13 fu 0 (mpush (sU v 0 18 (zI 0)) 0 (zI a) (zI 0)) := by
      rw [f_M_copied, nm_s]
      show bv (f_M_pair (sU v 0 18 (zI 0)) (zI a) (zI 0)) _ = _
      rw [mpush_e (d := 0) sU_hit (by omega), bv_s]
    have e2 : fu = (999999 - k + 1) + k := by
      show 1000000 = _
      omega
    have e0 : (zI 0 ≤ 0) := by decide
    rw [e1, e2, b2, if_pos rfl, f_M_copied_13, b4, if_pos e0]
  · intro h e16 ew
    exact b11 h (fun i hi => (e16 i hi).trans (by rw [h6])) ew
theorem r_sweep8 {T : Nat} {S : Nat → zT} (hT : T ≤ 63900) : ∀ (m i n : Nat) (v : mS) (L : Nat), i + m = 8 → m < n → (∀ k, i ≤ k → k < 8 → ∃ a, v 8 k = zI a ∧ zU (v 6) T a (S k)) → (∀ k, k < 3 → zU (v 6) 16 (4 + 4 * k) (zW k)) → v 0 9 = zI L → 16 ≤ L → L ≤ 16 + 798 * i → (∀ k, k < i → ∃ p, v 8 k = zI p ∧ rPl 6 v (v 7) 16 L p (S k)) → ∃ (v' : mS) (L' : Nat), f_M_sweep_8 n (zI i) v = f_M_sweep_39 fu 16 v' ∧ (∀ j, j ≠ 0 → j ≠ 7 → j ≠ 8 → j ≠ 12 → j ≠ 13 → v' j = v j) ∧ (∀ k, k ≠ 9 → k ≠ 18 → v' 0 k = v 0 k) ∧ v' 0 9 = zI L' ∧ 16 ≤ L' ∧ L' ≤ 16 + 798 * 8 ∧ ∀ k, k < 8 → ∃ p, v' 8 k = zI p ∧ rPl 6 v (v' 7) 16 L' p (S k) := by
  intro m
  induction m with
  | zero =>
    intro i n v L hi hn ho hK h9 hL hL2 hs
    obtain ⟨n, rfl, -⟩ := suc_of hn
    refine ⟨v, L, ?_, fun _ _ _ _ _ _ => rfl, fun _ _ _ => rfl, h9, hL, by omega, fun k hk => hs k (by omega)⟩
    rw [f_M_sweep_8, zl_8, iI_le (by omega) (by omega), if_pos (by omega)]
  | succ m ih =>
    intro i n v L hi hn ho hK h9 hL hL2 hs
    obtain ⟨n, rfl, hn⟩ := suc_of hn
    have hn := Nat.lt_of_succ_lt_succ hn
    obtain ⟨a, ea, hu⟩ := ho i (by omega) (by omega)
    have h24 := hu.2.2.1
    obtain ⟨p, L1, w, a1, a2, a3, a4, a5, a6, a7⟩ := r_copied hu hT hK h9 hL (by omega)
    have h6 := a2.h
    have h8 : w 8 = v 8 := a2.1 8 (by decide) (by decide) (by decide) (by decide)
    have j6 : sU w 8 i (zI p) 6 = v 6 := by rw [sU_j (by decide)]; exact h6
    have j7 : sU w 8 i (zI p) 7 = w 7 := sU_j (by decide)
    have hup : ∀ (q : Nat) (t : zT), rPl 6 v (v 7) 16 L q t → rPl 6 v (w 7) 16 L1 q t := by
      intro q t hq h e16 ew
      exact zRM_up (fun _ _ => rfl) a4 _ _ _ (hq h e16 (fun i h1 h2 => (ew i h1 (by omega)).trans (a6 i h2)))
    obtain ⟨v', L', b1, b2, b3, b4, b5, b6, b7⟩ := ih (i + 1) n (sU w 8 i (zI p)) L1 (by omega) hn (fun k h1 h2 => by
        obtain ⟨a', e', u'⟩ := ho k (by omega) h2
        exact ⟨a', by rw [sU_k (by omega), h8]; exact e', by rw [j6]; exact u'⟩) (by rw [j6]; exact hK) (by rw [sU_j (by decide)]; exact a3) (by omega) (by omega) (fun k hk => by
        by_cases c : k = i
        · subst c
          refine ⟨p, sU_hit, fun h e16 ew => ?_⟩
          exact a7 h (fun i hi => (e16 i hi).trans (by rw [j6])) (fun i h1 h2 => (ew i (by omega) h2).trans (by rw [j7]))
        · obtain ⟨p', e', r'⟩ := hs k (by omega)
          refine ⟨p', by rw [sU_k (by omega), h8]; exact e', fun h e16 ew => ?_⟩
          exact hup p' _ r' h (fun i hi => (e16 i hi).trans (by rw [j6])) (fun i h1 h2 => (ew i h1 h2).trans (by rw [j7])))
    refine ⟨v', L', ?_, fun j h0 h7 h8' h12 h13 => ?_, fun k h1 h2 => ?_, b4, b5, b6, fun k hk => ?_⟩
    · have e1 : zI i + 1 = zI (i + 1) := by rw [zl_1, zI_add]
      rw [f_M_sweep_8, zl_8, iI_le (by omega) (by omega), if_neg (by omega), gd_I (by omega) (by omega), zI_toNat (by omega), ea, a1, bi_s, gd_I (by omega) (by omega), nm_s, e1, nm_s, b1]
    · rw [b2 j h0 h7 h8' h12 h13, sU_j h8', a2.1 j h0 h7 h12 h13]
    · rw [b3 k h1 h2, sU_j (by decide), a2.2 k h1 h2]
    · obtain ⟨q, e1, e2⟩ := b7 k hk
      refine ⟨q, e1, fun h e16 ew => e2 h (fun i hi => (e16 i hi).trans (by rw [j6])) ew⟩
theorem r_sweep39 {L : Nat} (hL : L ≤ 8000) : ∀ (m i n : Nat) (v : mS), i + m = L → m < n → v 0 9 = zI L → ∃ v', f_M_sweep_39 n (zI i) v = some v' ∧ (∀ j, j ≠ 0 → j ≠ 6 → v' j = v j) ∧ (∀ k, k ≠ 7 → v' 0 k = v 0 k) ∧ v' 0 7 = zI L ∧ (∀ p, p < i → v' 6 p = v 6 p) ∧ ∀ p, i ≤ p → p < L → v' 6 p = v 7 p := by
  intro m
  induction m with
  | zero =>
    intro i n v hi hn h9
    obtain ⟨n, rfl, -⟩ := suc_of hn
    refine ⟨sU v 0 7 (zI L), ?_, fun j h _ => sU_j h, fun k hk => sU_k hk, sU_hit, fun p _ => by rw [sU_j (by decide)], fun p h1 h2 => by omega⟩
    rw [f_M_sweep_39, h9, iI_le (by omega) (by omega), if_pos (by omega), nm_s]
  | succ m ih =>
    intro i n v hi hn h9
    obtain ⟨n, rfl, hn⟩ := suc_of hn
    have hn := Nat.lt_of_succ_lt_succ hn
    obtain ⟨v', b1, b2, b3, b4, b5, b6⟩ := ih (i + 1) n (sU v 6 i (v 7 i)) (by omega) hn (by rw [sU_j (by decide)]; exact h9)
    refine ⟨v', ?_, fun j h0 h6 => by rw [b2 j h0 h6, sU_j h6], fun k hk => by rw [b3 k hk, sU_j (by decide)], b4, fun p hp => by rw [b5 p (by omega), sU_k (by omega)], fun p h1 h2 => ?_⟩
    · have e1 : zI i + 1 = zI (i + 1) := by rw [zl_1, zI_add]
      rw [f_M_sweep_39, h9, iI_le (by omega) (by omega), if_neg (by omega), gd_I (by omega) (by omega), gd_I (by omega) (by omega), zI_toNat (by omega), nm_s, e1, nm_s, b1]
    · by_cases c : p = i
      · subst c
        rw [b5 p (by omega), sU_hit]
      · rw [b6 p (by omega) h2, sU_j (by decide)]
def mSw (v v' : mS) : Prop := (∀ j, j ≠ 0 → j ≠ 6 → j ≠ 7 → j ≠ 8 → j ≠ 12 → j ≠ 13 → v' j = v j) ∧ ∀ k, k ≠ 7 → k ≠ 9 → k ≠ 18 → v' 0 k = v 0 k
/-- the sweep keeps the SLOTS and nothing else -/
theorem m_sweep {v : mS} {T : Nat} {S : Nat → zT} (hM : mM v T) (hS : ∀ k, k < 8 → ∃ a, v 8 k = zI a ∧ zU (v 6) T a (S k)) : ∃ v' T', f_M_sweep v = some v' ∧ mM v' T' ∧ T' ≤ 6400 ∧ (∀ k, k < 8 → ∃ a, v' 8 k = zI a ∧ zU (v' 6) T' a (S k)) ∧ mSw v v' := by
  obtain ⟨m1, m2, m3, m4⟩ := hM
  have j6 : sU v 0 9 (zI 16) 6 = v 6 := sU_j (by decide)
  have j8 : sU v 0 9 (zI 16) 8 = v 8 := sU_j (by decide)
  obtain ⟨w, L, a1, a2, a3, a4, a5, a6, a7⟩ := r_sweep8 (S := S) m3 8 0 fu (sU v 0 9 (zI 16)) 16 (by omega) (fu_lt (by omega)) (fun k _ hk => by rw [j6, j8]; exact hS k hk) (by rw [j6]; exact m4) sU_hit (by omega) (by omega) (fun k hk => by omega)
  obtain ⟨v', b1, b2, b3, b4, b5, b6⟩ := r_sweep39 (L := L) (by omega) (L - 16) 16 fu w (by omega) (fu_lt (by omega)) a4
  have w6 : w 6 = v 6 := by rw [a2 6 (by decide) (by decide) (by decide) (by decide) (by decide)]; exact j6
  have v8 : v' 8 = w 8 := b2 8 (by decide) (by decide)
  refine ⟨v', L, ?_, ⟨b4, a5, by omega, fun k hk => ?_⟩, by omega, fun k hk => ?_, fun j h0 h6 h7 h8 h12 h13 => ?_, fun k h7 h9 h18 => ?_⟩
  · rw [f_M_sweep, nm_s]
    show f_M_sweep_8 fu (zI 0) (sU v 0 9 (zI 16)) = _
    rw [a1]
    exact b1
  · exact zU_up (m4 k hk) (fun i hi => by rw [b5 i hi, w6]) (Nat.le_refl _)
  · obtain ⟨p, e, r⟩ := a7 k hk
    obtain ⟨-, -, -, hw⟩ := hS k hk
    exact ⟨p, by rw [v8]; exact e, r (v' 6) (fun i hi => by rw [b5 i hi, w6, j6]) (fun i h1 h2 => b6 i h1 h2), hw⟩
  · rw [b2 j h0 h6, a2 j h0 h7 h8 h12 h13, sU_j h0]
  · rw [b3 k h7, a3 k h9 h18, sU_k h9]
end QC
