/-! the calls: keep, kind, length, number, character -/
section SC
variable {c : Nat} {g g' : Nat → Nat} {v v' w w' : mS} {T T' : Nat} {S : Nat → zT} {X : Nat → zN} {N : Nat → Nat} {op : Nat → Nat → Nat} {ar : Nat → Nat → Int32} {O : List zT} {E : zT} {st er rm : Int32}
theorem k_cases (x : Int32) (n : Nat) (hn : n ≤ 16) : (x < -1) ∨ (x = -1) ∨ (∃ i, i < n ∧ x = zI i) ∨ (zI n ≤ x ∧ ¬ x < -1) := by
  have e1 : (-1 : Int32).toInt = -1 := rfl
  by_cases h1 : x < -1
  · exact Or.inl h1
  · by_cases h2 : x = -1
    · exact Or.inr (Or.inl h2)
    · by_cases h3 : zI n ≤ x
      · exact Or.inr (Or.inr (Or.inr ⟨h3, h1⟩))
      · rw [Int32.le_iff_toInt_le, zI_toInt (by omega)] at h3
        rw [Int32.lt_iff_toInt_lt, e1] at h1
        have h4 : x.toInt ≠ -1 := fun q => h2 (Int32.toInt_inj.1 (q.trans e1.symm))
        have e : x = zI x.toInt.toNat := by
          rw [zI_J]
          have : ((x.toInt.toNat : Nat) : Int) = x.toInt := by omega
          rw [this]
          exact (zJ_of x).symm
        exact Or.inr (Or.inr (Or.inl ⟨x.toInt.toNat, by omega, e⟩))
theorem z_keep (x1 x2 : Int32) (h : zZ c g v w) : zSt (c + 1) (f_B_keep g v x1 x2) (f_M_keep w x1 x2) := by
  obtain ⟨S, X, N, op, ar, O, E, st, er, rm, hA, hC, hW⟩ := h
  have hW0 : mRl (sU w 0 0 0) S X N op ar O E st er rm := mRl_0 hW
  have n1 : ¬ (1 : Int32) = 0 := by decide
  have z00 : sU w 0 0 0 0 0 = 0 := sU_hit
  have hO := hA.2
  have em1 : (-1 : Int32).toInt = -1 := rfl
  rcases r_7 x1 with ⟨k, hk, rfl, b1, w1⟩ | ⟨b1, w1⟩
  · obtain ⟨T, c1, c2, c3, c4, c5, c6, c7, c8, c9, c10, c11, c12⟩ := hC
    have hC : cR c g v S X N op ar O E st er rm := ⟨T, c1, c2, c3, c4, c5, c6, c7, c8, c9, c10, c11, c12⟩
    obtain ⟨T', d1, d2, d3, d4, d5, d6, d7, d8, d9⟩ := hW0
    have hB : ∀ o, f_B_keep_9 (zI k) x2 g v = some o → gL g ≤ gL o.2.1 → f_B_keep g v (zI k) x2 = some o := by
      intro o ho hg
      rw [f_B_keep, b1, bi_s, b_req1]
      exact mg_s (bo_l ho hg) hg
    have hG : f_M_keep w (zI k) x2 = (bi (f_M_within (sU w 0 0 0) x2 (-1) (zI O.length - 1)) fun r_8 v_6 => if r_8 = 0 then (bi (f_M_fail v_6 2) fun r_14 v_12 => some (r_14, v_12)) else (if 0 ≤ x2 then (gd (inB x2 17) (f_M_keep_63 (zI k) (zI k) (v_6 9 (x2 : Int32).toNatClampNeg) v_6)) else (f_M_keep_63 (zI k) (zI k) (v_6 0 13) v_6))) := by
      rw [f_M_keep, nm_s, w1, bi_s, if_neg n1, d5.1]
    have eO : zI O.length - 1 = zJ ((O.length : Int) - 1) := by
      rw [zl_1, zI_J, zI_J, zJ_sub]
      rfl
    have tO : (zJ ((O.length : Int) - 1)).toInt = (O.length : Int) - 1 := zJ_toInt (by omega) (by omega)
    have no : f_M_within (sU w 0 0 0) x2 (-1) (zI O.length - 1) = some (0, sU w 0 0 0) → f_B_keep_9 (zI k) x2 g v = some (.inr 1, g, v) → zSt (c + 1) (f_B_keep g v (zI k) x2) (f_M_keep w (zI k) x2) := by
      intro h1 h2
      refine zSt_no (w := sU (sU w 0 0 0) 0 0 2) (n := 1) (r := 0) hA hC (mRl_0 (mRl_0 hW)) (hB _ h2 (Nat.le_refl _)) ?_ sU_hit
      rw [hG, h1, bi_s, if_pos rfl]; rfl
    have yes : ∀ (a a' : Nat) (t : zT), zV (v 4) T a t → zU (sU w 0 0 0 6) T' a' t → f_B_keep_9 (zI k) x2 g v = f_B_keep_56 (zI k) (zI k) (zI a) g v → f_M_keep w (zI k) x2 = f_M_keep_63 (zI k) (zI k) (zI a') (sU w 0 0 0) → zSt (c + 1) (f_B_keep g v (zI k) x2) (f_M_keep w (zI k) x2) := by
      intro a a' t ha ha' h1 h2
      have j4 : sU v 6 k (zI a) 4 = v 4 := sU_j (by decide)
      have j0 : sU v 6 k (zI a) 0 = v 0 := sU_j (by decide)
      have hM2 : zM g (sU v 6 k (zI a)) T := zM_w c1 (sU_j (by decide)) (fun i _ => by rw [j4])
      have q6 : sU (sU w 0 0 0) 8 k (zI a') 6 = sU w 0 0 0 6 := sU_j (by decide)
      have q0 : sU (sU w 0 0 0) 8 k (zI a') 0 = sU w 0 0 0 0 := sU_j (by decide)
      obtain ⟨u0, u1, u2, u3, u4, u5⟩ := zU_head ha'
      have hT' := d1.2.2.1
      refine zSt_yes (c := c) (g := g) (v := sU v 6 k (zI a)) (w := sU (sU w 0 0 0) 8 k (zI a')) (N := N) (op := op) (ar := ar) (S := fun i => if i = k then t else S i) (X := X) (O := O) (E := E) (st := st) (er := er) (rm := rm) (r := zI (zs t)) hA ?_ ?_ (hB _ ?_ (Nat.le_refl _)) ?_ ?_
      · refine ⟨T, hM2, c2, c3, fun i hi => by rw [j4, sU_j (by decide)]; exact c4 i hi, fun i hi => ?_, cSt_up c6 (fun i _ => by rw [j4]) (Nat.le_refl _) (sU_j (by decide)), cFl_up c7 (fun j _ _ => sU_j (by omega)), cOu_up c8 (fun i _ => by rw [j4]) (Nat.le_refl _) (by rw [j0]) (sU_j (by decide)), cFt_up c9 (fun i _ => by rw [j4]) (Nat.le_refl _) (by rw [j0]), by rw [j0]; exact c10, by rw [j0]; exact c11, by rw [j0]; exact c12⟩
        dsimp only
        by_cases ci : i = k
        · subst ci
          rw [if_pos rfl]
          exact ⟨a, sU_hit, by rw [j4]; exact ha⟩
        · rw [if_neg ci, j4, sU_k ci]; exact c5 i hi
      · refine ⟨T', mM_w d1 (by rw [q0]) (fun i _ => by rw [q6]), fun i hi => ?_, mSx_up d3 (sU_j (by decide)) (sU_j (by decide)), mFl_up d4 (sU_j (by decide)) (sU_j (by decide)) (sU_j (by decide)), mOu_up d5 q6 (by rw [q0]) (sU_j (by decide)), mFt_up d6 q6 (by rw [q0]), by rw [q0]; exact d7, by rw [q0]; exact d8, by rw [q0]; exact d9⟩
        dsimp only
        by_cases ci : i = k
        · subst ci
          rw [if_pos rfl]
          exact ⟨a', sU_hit, by rw [q6]; exact ha'⟩
        · rw [if_neg ci, q6, sU_k ci]; exact d2 i hi
      · rw [h1, f_B_keep_56, gd_I hk (by omega), zI_toNat (by omega), nm_s, gd_I hk (by omega), sU_hit, c_size hM2 (by rw [j4]; exact ha), bi_s]
      · have e1 : zI a' + 1 = zI (a' + 1) := by rw [zl_1, zI_add]
        rw [h2, f_M_keep_63, gd_I hk (by omega), zI_toNat (by omega), nm_s, gd_I hk (by omega), sU_hit, e1, gd_I (by omega) (by omega), zI_toNat (by omega), q6, u3]
      · rw [q0]; exact z00
    rcases k_cases x2 O.length hO with h2 | h2 | ⟨i, hi, rfl⟩ | ⟨h2, h3⟩
    · exact no (m_within_out (Or.inl h2)) (by rw [f_B_keep_9, if_pos h2]; rfl)
    · subst h2
      obtain ⟨a, ea, ha⟩ := c9
      obtain ⟨a', ea', ha'⟩ := d6
      refine yes a a' E ha ha' ?_ ?_
      · have p1 : (-1 : Int32) < zI O.length := by rw [Int32.lt_iff_toInt_lt, em1, zI_toInt (by omega)]; omega
        rw [f_B_keep_9, if_neg (by decide), c8.1, if_pos p1, if_neg (by decide), ea]
      · have p1 : f_M_within (sU w 0 0 0) (-1) (-1) (zI O.length - 1) = some (1, sU w 0 0 0) := by
          have p2 : ¬ (zI O.length - 1 < -1) := by rw [eO, Int32.lt_iff_toInt_lt, tO, em1]; omega
          rw [f_M_within, if_neg (by decide), if_neg p2]; rfl
        rw [hG, p1, bi_s, if_neg n1, if_neg (by decide), ea']
    · obtain ⟨a, ea, ha⟩ := c8.2 i hi
      obtain ⟨a', ea', ha'⟩ := d5.2 i hi
      refine yes a a' _ ha ha' ?_ ?_
      · have p1 : ¬ zI i < -1 := by rw [Int32.lt_iff_toInt_lt, em1, zI_toInt (by omega)]; omega
        have p2 : zI i < zI O.length := by rw [zI_lt (by omega) (by omega)]; exact hi
        have p3 : 0 ≤ zI i := by rw [zl_0, zI_le (by omega) (by omega)]; omega
        rw [f_B_keep_9, if_neg p1, c8.1, if_pos p2, if_pos p3, f_R_at, gd_t (by decide), gd_I (by omega) (by omega), zI_toNat (by omega), bi_s]
        show f_B_keep_56 (zI k) (zI k) (v 61 i) g v = _
        rw [ea]
      · have p1 : f_M_within (sU w 0 0 0) (zI i) (-1) (zI O.length - 1) = some (1, sU w 0 0 0) := by
          have p1 : ¬ zI i < -1 := by rw [Int32.lt_iff_toInt_lt, em1, zI_toInt (by omega)]; omega
          have p2 : ¬ (zI O.length - 1 < zI i) := by rw [eO, Int32.lt_iff_toInt_lt, tO, zI_toInt (by omega)]; omega
          rw [f_M_within, if_neg p1, if_neg p2]; rfl
        have p3 : 0 ≤ zI i := by rw [zl_0, zI_le (by omega) (by omega)]; omega
        rw [hG, p1, bi_s, if_neg n1, if_pos p3, gd_I (by omega) (by omega), zI_toNat (by omega), ea']
    · refine no (m_within_out (Or.inr ?_)) ?_
      · rw [eO, Int32.lt_iff_toInt_lt, tO]
        rw [Int32.le_iff_toInt_le, zI_toInt (by omega)] at h2
        omega
      · have p2 : ¬ x2 < zI O.length := by
          rw [Int32.lt_iff_toInt_lt, zI_toInt (by omega)]
          rw [Int32.le_iff_toInt_le, zI_toInt (by omega)] at h2
          omega
        rw [f_B_keep_9, if_neg h3, c8.1, if_neg p2]; rfl
  · refine zSt_no (w := sU (sU w 0 0 0) 0 0 1) (n := 0) (r := 0) hA hC (mRl_0 hW0) ?_ ?_ sU_hit
    · rw [f_B_keep, b1, bi_s, b_req0, bo_r]
      exact mg_s rfl (Nat.le_refl _)
    · rw [f_M_keep, nm_s, w1, bi_s, if_pos rfl]; rfl
theorem mRl_Dp (hD : mDp w w') (h : mRl w S X N op ar O E st er rm) : mRl w' S X N op ar O E st er rm := mRl_up h (fun j hj => hD.1 j (by omega) (by omega) (by omega) (by omega)) (fun k hk => hD.2 k (by omega))
theorem z_part (x1 x2 : Int32) (hC : cR c g v S X N op ar O E st er rm) (hW : mRl w S X N op ar O E st er rm) : (∃ n w', n < 4 ∧ f_B_requirePart g v x1 x2 = some (.inr n, g, v) ∧ f_M_part w x1 x2 = some (-1, w') ∧ w' 0 0 = zI (n + 1) ∧ mRl w' S X N op ar O E st er rm) ∨ (∃ k i a T, k < 8 ∧ x1 = zI k ∧ x2 = zI i ∧ i < zs (S k) ∧ zs (S k) ≤ 24 ∧ f_B_requirePart g v x1 x2 = some (.inl (), g, v) ∧ v 6 k = zI a ∧ zM g v T ∧ zV (v 4) T a (S k) ∧ ∃ w' T' p b, f_M_part w x1 x2 = some (zI p, w') ∧ w' 0 0 = 0 ∧ mRl w' S X N op ar O E st er rm ∧ mM w' T' ∧ zU (w' 6) T' p (zfnd 5 (S k) i none).1 ∧ w' 10 62 = zI b ∧ mNm w' T' b (zfnd 5 (S k) i none).2) := by
  have n1 : ¬ (1 : Int32) = 0 := by decide
  rcases r_7 x1 with ⟨k, hk, rfl, b1, w1⟩ | ⟨b1, w1⟩
  · obtain ⟨T, c1, c2, c3, c4, c5, c6⟩ := hC
    have hW' := hW
    obtain ⟨T', d1, d2, d3⟩ := hW
    obtain ⟨a, ea, ha⟩ := c5 k hk
    obtain ⟨a', ea', ha'⟩ := d2 k hk
    have h24 := ha.2.2.1
    have hs1 := zwf_s1 6 _ ha.2
    obtain ⟨u0, u1, u2, u3, u4, u5⟩ := zU_head ha'
    have hT' := d1.2.2.1
    have hB : f_B_requirePart g v (zI k) x2 = mg g (bo (some (.inl (), g, v)) fun r9 g9 v9 => f_B_requirePart_9 (zI k) x2 g9 v9) := by
      rw [f_B_requirePart, b1, bi_s, b_req1]
    have hB9 : f_B_requirePart_9 (zI k) x2 g v = bi (f_B_isBelow g v x2 (zI (zs (S k)))) fun r_7 v_5 => if r_7 = 0 then (some (.inr 1, g, v_5)) else (some (.inl (), g, v_5)) := by
      rw [f_B_requirePart_9, gd_I hk (by omega), zI_toNat (by omega), ea, c_size c1 ha, bi_s]
    have e1 : zI a' + 1 = zI (a' + 1) := by rw [zl_1, zI_add]
    have bad : f_M_part_36 (zI k) x2 w = some (-1, sU w 0 0 2) := by
      rw [f_M_part_36, f_M_part_41, nm_s, sU_hit, if_neg (by decide)]
    have hbad : f_B_isBelow g v x2 (zI (zs (S k))) = some (0, v) → f_M_part w (zI k) x2 = f_M_part_36 (zI k) x2 w → (∃ n w', n < 4 ∧ f_B_requirePart g v (zI k) x2 = some (.inr n, g, v) ∧ f_M_part w (zI k) x2 = some (-1, w') ∧ w' 0 0 = zI (n + 1) ∧ mRl w' S X N op ar O E st er rm) := by
      intro h1 h2
      refine ⟨1, sU w 0 0 2, by decide, ?_, h2.trans bad, sU_hit, mRl_0 hW'⟩
      rw [hB]
      refine mg_s (bo_l ?_ (Nat.le_refl _)) (Nat.le_refl _)
      rw [hB9, h1, bi_s, if_pos rfl]
    have e7 : zs (S k) = (zs (S k) - 1) + 1 := by omega
    rcases i_cases x2 0 (zs (S k) - 1) (by omega) (by omega) with h1 | h1 | ⟨i, -, hi, rfl⟩
    · refine Or.inl (hbad (by rw [e7]; exact c_below_out (Or.inl h1) (by omega)) ?_)
      rw [f_M_part, w1, bi_s, if_neg n1, if_pos (show x2 < 0 from h1)]
    · refine Or.inl (hbad (by rw [e7]; exact c_below_out (Or.inr h1) (by omega)) ?_)
      have p1 : ¬ x2 < zI (zs (S k)) := by
        rw [Int32.lt_iff_toInt_lt, zI_toInt (by omega)] at h1 ⊢
        omega
      rw [f_M_part, w1, bi_s, if_neg n1, gd_I hk (by omega), zI_toNat (by omega), ea', e1, gd_I (by omega) (by omega), zI_toNat (by omega), u3, if_neg p1, ite_self]
    · obtain ⟨w', p, b, f1, f2, f3, f4, f5⟩ := m_part_ok (k := k) (i := i) d1 hk ea' ha' (by omega)
      refine Or.inr ⟨k, i, a, T, hk, rfl, rfl, by omega, h24, ?_, ea, c1, ha, w', T', p, b, f1, ?_, mRl_Dp f2 (mRl_0 hW'), f2.M (mM_w d1 (sU_k (by decide)) (fun i _ => by rw [sU_j (by decide)])), f3, f4, f5⟩
      · rw [hB]
        refine mg_s (bo_l ?_ (Nat.le_refl _)) (Nat.le_refl _)
        rw [hB9, c_below_in (by omega) (by omega), bi_s, if_neg n1]
      · rw [f2.2 0 (by decide)]; exact sU_hit
  · refine Or.inl ⟨0, sU w 0 0 1, by decide, ?_, ?_, sU_hit, mRl_0 hW⟩
    · rw [f_B_requirePart, b1, bi_s, b_req0, bo_r]
      exact mg_s rfl (Nat.le_refl _)
    · rw [f_M_part, w1, bi_s, if_pos rfl, f_M_part_41, nm_s, sU_hit, if_neg (by decide)]
end SC
