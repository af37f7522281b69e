/-! the calls: count, order, wipe, token -/
def zmo (o : Nat) : Nat := if o = 1 ∨ o = 7 ∨ o = 11 then 8 else if o = 12 ∨ o = 20 ∨ o = 21 ∨ o = 22 then 4 else if o = 13 then 6 else if o = 8 then 3 else if o = 31 then 10 else 0
section SB
variable {c : Nat} {g g' : Nat → Nat} {v v' w w' : mS} {T T' : Nat} {S : Nat → zT} {X : Nat → zN} {N : Nat → Nat} {op : Nat → Nat → Nat} {ar : Nat → Nat → Int32} {O : List zT} {E : zT} {st er rm : Int32}
theorem tk_ok (o : Nat) (ho : o ≤ 34) (x : Int32) : (zmo o = 0 ∧ f_O_takes g v (zI o) x = some (1, v) ∧ f_M_most w (zI o) = some (-1, w)) ∨ (0 < zmo o ∧ zmo o ≤ 10 ∧ f_O_takes g v (zI o) x = bi (f_B_isBelow g v x (zI (zmo o))) (fun r v => gd (decide (r = 0 ∨ r = 1)) (some (r, v))) ∧ f_M_most w (zI o) = some (zI (zmo o - 1), w)) := by
  rcases (show o = 0 ∨ o = 1 ∨ o = 2 ∨ o = 3 ∨ o = 4 ∨ o = 5 ∨ o = 6 ∨ o = 7 ∨ o = 8 ∨ o = 9 ∨ o = 10 ∨ o = 11 ∨ o = 12 ∨ o = 13 ∨ o = 14 ∨ o = 15 ∨ o = 16 ∨ o = 17 ∨ o = 18 ∨ o = 19 ∨ o = 20 ∨ o = 21 ∨ o = 22 ∨ o = 23 ∨ o = 24 ∨ o = 25 ∨ o = 26 ∨ o = 27 ∨ o = 28 ∨ o = 29 ∨ o = 30 ∨ o = 31 ∨ o = 32 ∨ o = 33 ∨ o = 34 by omega) with rfl | rfl | rfl | rfl | rfl | rfl | rfl | rfl | rfl | rfl | rfl | rfl | rfl | rfl | rfl | rfl | rfl | rfl | rfl | rfl | rfl | rfl | rfl | rfl | rfl | rfl | rfl | rfl | rfl | rfl | rfl | rfl | rfl | rfl | rfl
  all_goals first
    | exact Or.inl ⟨rfl, rfl, rfl⟩
    | exact Or.inr ⟨by decide, by decide, rfl, rfl⟩
theorem zag_no {o : Nat} {x : Int32} (h : zmo o = 0) : zag o x := by
  unfold zmo at h
  refine ⟨fun k => ?_, fun k => ?_, fun k => ?_, fun k => ?_, fun k => ?_, fun k => ?_⟩
  all_goals
    exfalso
    repeat (first | (split at h) | omega)
theorem zag_in {o k : Nat} (h : k < zmo o) : zag o (zI k) := by
  unfold zmo at h
  refine ⟨fun q => ⟨k, rfl, ?_⟩, fun q => ⟨k, rfl, ?_⟩, fun q => ⟨k, rfl, ?_⟩, fun q => ⟨k, rfl, ?_⟩, fun q => ⟨k, rfl, ?_⟩, fun q => ⟨k, rfl, ?_⟩⟩
  all_goals
    repeat (first | omega | (split at h))
theorem z_count (x : Int32) (h : zZ c g v w) : ∃ r w', f_B_count g v x = some (r, v) ∧ f_M_count w x = some (r, w') ∧ zZ (c + 1) g v w' := by
  obtain ⟨S, X, N, op, ar, O, E, st, er, rm, hA, hC, hW⟩ := h
  have hW0 : mRl (sU w 0 0 0) S X N op ar O E st er rm := mRl_0 hW
  have hz : zZ (c + 1) g v (sU w 0 0 0) := ⟨S, X, N, op, ar, O, E, st, er, rm, hA, cR_c hC, hW0⟩
  obtain ⟨T, c1, c2, c3, c4, c5, c6, c7, c8, c9, c10, c11, c12⟩ := hC
  obtain ⟨T', d1, d2, d3, d4, d5, d6, d7, d8, d9⟩ := hW0
  by_cases x0 : x = 0
  · exact ⟨zI O.length, _, by rw [f_B_count, if_pos x0, c8.1], by rw [f_M_count, nm_s, if_pos x0, d5.1]; rfl, hz⟩
  · by_cases x1 : x = 1
    · exact ⟨st, _, by rw [f_B_count, if_neg x0, if_pos x1, c10], by rw [f_M_count, nm_s, if_neg x0, if_pos x1, d7]; rfl, hz⟩
    · by_cases x2 : x = 2
      · exact ⟨er, _, by rw [f_B_count, if_neg x0, if_neg x1, if_pos x2, c11], by rw [f_M_count, nm_s, if_neg x0, if_neg x1, if_pos x2, d8]; rfl, hz⟩
      · by_cases x3 : x = 3
        · exact ⟨rm, _, by rw [f_B_count, if_neg x0, if_neg x1, if_neg x2, if_pos x3, c12], by rw [f_M_count, nm_s, if_neg x0, if_neg x1, if_neg x2, if_pos x3, d9]; rfl, hz⟩
        · exact ⟨-1, _, by rw [f_B_count, if_neg x0, if_neg x1, if_neg x2, if_neg x3], by rw [f_M_count, nm_s, if_neg x0, if_neg x1, if_neg x2, if_neg x3]; rfl, hz⟩
theorem mRl_D (hD : mD w w') (h : mRl w S X N op ar O E st er rm) : mRl w' S X N op ar O E st er rm := mRl_up h (fun j hj => hD.1 j (by omega) (by omega) (by omega)) (fun k hk => hD.2 k (by omega))
theorem z_order (x1 x2 : Int32) (h : zZ c g v w) : zSt (c + 1) (f_B_order g v x1 x2) (f_M_order w x1 x2) := by
  obtain ⟨S, X, N, op, ar, O, E, st, er, rm, hA, hC, hW⟩ := h
  have hW0 : mRl (sU w 0 0 0) S X N op ar O E st er rm := mRl_0 hW
  have n1 : ¬ (1 : Int32) = 0 := by decide
  have bad : ∀ (F : Option (bO Int32)), F = some (.inr 0, g, v) → (f_M_order w x1 x2 = f_M_order_25 (sU w 0 0 0)) → zSt (c + 1) F (f_M_order w x1 x2) := by
    intro F hF hG
    refine zSt_no (w := sU (sU w 0 0 0) 0 0 1) (r := 0) hA hC (mRl_0 hW0) hF ?_ sU_hit
    rw [hG]; rfl
  have b25 : f_B_order_22 x1 x2 g v = some (.inr 0, g, v) := by
    rw [f_B_order_22, f_B_order_23, b_req0]; rfl
  rcases r_7 x1 with ⟨k, hk, rfl, b1, w1⟩ | ⟨b1, w1⟩
  · rcases r_7 x2 with ⟨l, hl, rfl, b2, w2⟩ | ⟨b2, w2⟩
    · obtain ⟨T, c1, c2, c3, c4, c5, c6⟩ := hC
      obtain ⟨T', d1, d2, d3⟩ := hW0
      obtain ⟨a, ea, ha⟩ := c5 k hk
      obtain ⟨b, eb, hb⟩ := c5 l hl
      obtain ⟨a', ea', ha'⟩ := d2 k hk
      obtain ⟨b', eb', hb'⟩ := d2 l hl
      obtain ⟨w', e1, e2⟩ := m_ord d1 ha' hb'
      refine zSt_yes (w := w') (r := zJ (zcmp 6 (S k) (S l))) hA ⟨T, c1, c2, c3, c4, c5, c6⟩ (mRl_D e2 ⟨T', d1, d2, d3⟩) ?_ ?_ ?_
      · rw [f_B_order, b1, bi_s, if_neg n1, b2, bi_s, if_neg n1, f_B_order_23, b_req1]
        refine mg_s (bo_l ?_ (Nat.le_refl _)) (Nat.le_refl _)
        rw [f_B_order_26, gd_I (by omega) (by omega), gd_I (by omega) (by omega), zI_toNat (by omega), zI_toNat (by omega), ea, eb, c_cmp6 c1 ha hb, bi_s]
      · rw [f_M_order, nm_s, w1, bi_s, if_neg n1, w2, bi_s, if_neg n1, gd_I (by omega) (by omega), gd_I (by omega) (by omega), zI_toNat (by omega), zI_toNat (by omega), ea', eb', e1, bi_s]
      · rw [e2.2 0 (by decide)]; exact sU_hit
    · refine bad _ ?_ ?_
      · rw [f_B_order, b1, bi_s, if_neg n1, b2, bi_s, if_pos rfl, b25]
        exact mg_s rfl (Nat.le_refl _)
      · rw [f_M_order, nm_s, w1, bi_s, if_neg n1, w2, bi_s, if_pos rfl]
  · refine bad _ ?_ ?_
    · rw [f_B_order, b1, bi_s, if_pos rfl, b25]
      exact mg_s rfl (Nat.le_refl _)
    · rw [f_M_order, nm_s, w1, bi_s, if_pos rfl]
theorem filB_z {k : Nat} (hk : k < 4) : filB (9 + 4 * k) = true := by
  unfold filB
  rw [decide_eq_true_iff]
  omega
theorem z_wipe (x1 x2 : Int32) (h : zZ c g v w) : zSt (c + 1) (f_B_wipe g v x1 x2) (f_M_wipe w x1 x2) := by
  obtain ⟨S, X, N, op, ar, O, E, st, er, rm, hA, hC, hW⟩ := h
  have hW0 : mRl (sU w 0 0 0) S X N op ar O E st er rm := mRl_0 hW
  have n1 : ¬ (1 : Int32) = 0 := by decide
  have bad : ∀ (F : Option (bO Int32)), F = some (.inr 0, g, v) → (f_M_wipe w x1 x2 = f_M_wipe_32 (sU w 0 0 0)) → zSt (c + 1) F (f_M_wipe w x1 x2) := by
    intro F hF hG
    refine zSt_no (w := sU (sU w 0 0 0) 0 0 1) (r := 0) hA hC (mRl_0 hW0) hF ?_ sU_hit
    rw [hG]; rfl
  have b30 : f_B_wipe_30 x1 x2 g v = some (.inr 0, g, v) := by
    rw [f_B_wipe_30, f_B_wipe_31, b_req0]; rfl
  have z00 : sU w 0 0 0 0 0 = 0 := sU_hit
  obtain ⟨T, c1, c2, c3, c4, c5, c6, c7, c8, c9, c10, c11, c12⟩ := hC
  have hC : cR c g v S X N op ar O E st er rm := ⟨T, c1, c2, c3, c4, c5, c6, c7, c8, c9, c10, c11, c12⟩
  obtain ⟨T', d1, d2, d3, d4, d5, d6, d7, d8, d9⟩ := hW0
  by_cases x0 : x1 = 0
  · subst x0
    have v0 : ∀ u, f_M_within u 0 0 1 = some (1, u) := fun u => m_within_in (k := 0) (lo := 0) (hi := 1) (by omega) (by omega) (by omega)
    rcases r_3 x2 with ⟨k, hk, rfl, b1, w1⟩ | ⟨b1, w1⟩
    · obtain ⟨f1, f2⟩ := c7 k hk
      obtain ⟨h1, h2⟩ := d4 k hk
      refine zSt_yes (c := c) (g := g) (v := sU v (9 + 4 * k) 3 0) (w := sU (sU w 0 0 0) 5 k 0) (N := fun f => if f = k then 0 else N f) (op := op) (ar := ar) (S := S) (X := X) (O := O) (E := E) (st := st) (er := er) (rm := rm) (r := zI (N k)) ⟨fun f hf => ?_, hA.2⟩ ?_ ?_ ?_ ?_ ?_
      · dsimp only
        by_cases cf : f = k
        · rw [if_pos cf]; exact ⟨by omega, fun j hj => by omega⟩
        · rw [if_neg cf]; exact hA.1 f hf
      · have j4 : sU v (9 + 4 * k) 3 0 4 = v 4 := sU_j (by omega)
        have j0 : sU v (9 + 4 * k) 3 0 0 = v 0 := sU_j (by omega)
        refine ⟨T, zM_w c1 (sU_j (by omega)) (fun i _ => by rw [j4]), c2, c3, fun i hi => by rw [j4, sU_j (by omega)]; exact c4 i hi, cSl_up c5 (fun i _ => by rw [j4]) (Nat.le_refl _) (sU_j (by omega)), cSt_up c6 (fun i _ => by rw [j4]) (Nat.le_refl _) (sU_j (by omega)), fun f hf => ⟨?_, fun i hi => ?_⟩, cOu_up c8 (fun i _ => by rw [j4]) (Nat.le_refl _) (by rw [j0]) (sU_j (by omega)), cFt_up c9 (fun i _ => by rw [j4]) (Nat.le_refl _) (by rw [j0]), by rw [j0]; exact c10, by rw [j0]; exact c11, by rw [j0]; exact c12⟩
        · dsimp only
          by_cases cf : f = k
          · subst cf; rw [if_pos rfl, sU_hit]; rfl
          · rw [if_neg cf, sU_j (by omega)]; exact (c7 f hf).1
        · rw [sU_j (by omega), sU_j (by omega)]; exact (c7 f hf).2 i hi
      · refine ⟨T', mM_w d1 (by rw [sU_j (by decide)]) (fun i _ => by rw [sU_j (by decide)]), mSl_up d2 (sU_j (by decide)) (sU_j (by decide)), mSx_up d3 (sU_j (by decide)) (sU_j (by decide)), fun f hf => ⟨?_, fun i hi => ?_⟩, mOu_up d5 (sU_j (by decide)) (by rw [sU_j (by decide)]) (sU_j (by decide)), mFt_up d6 (sU_j (by decide)) (by rw [sU_j (by decide)]), by rw [sU_j (by decide)]; exact d7, by rw [sU_j (by decide)]; exact d8, by rw [sU_j (by decide)]; exact d9⟩
        · dsimp only
          by_cases cf : f = k
          · subst cf; rw [if_pos rfl, sU_hit]; rfl
          · rw [if_neg cf, sU_k cf]; exact (d4 f hf).1
        · rw [sU_j (by decide), sU_j (by decide)]; exact (d4 f hf).2 i hi
      · rw [f_B_wipe, if_pos rfl, b1, bi_s, if_neg n1, f_B_wipe_26, f_B_wipe_31, b_req1]
        refine mg_s (bo_l ?_ (Nat.le_refl _)) (Nat.le_refl _)
        rw [f_B_wipe_34, if_pos rfl, gd_I hk (by omega), zI_toNat (by omega), nm_s, f_F_cleared, gd_t (filB_z hk), nm_s, f1, nm_s, bi_s]
      · rw [f_M_wipe, nm_s, v0, bi_s, if_neg n1, if_pos rfl, f_M_wipe_26, w1, bi_s, if_neg n1, if_pos rfl, gd_I hk (by omega), zI_toNat (by omega), h1, f_M_wipe_57, if_pos rfl, gd_I hk (by omega), zI_toNat (by omega), nm_s]
        rfl
      · rw [sU_j (by decide)]; exact z00
    · refine bad _ ?_ ?_
      · rw [f_B_wipe, if_pos rfl, b1, bi_s, if_pos rfl, f_B_wipe_12, if_neg (by decide), b30]
        exact mg_s rfl (Nat.le_refl _)
      · rw [f_M_wipe, nm_s, v0, bi_s, if_neg n1, if_pos rfl, f_M_wipe_26, w1, bi_s, if_pos rfl]
  · by_cases x1e : x1 = 1
    · subst x1e
      have v0 : ∀ u, f_M_within u 1 0 1 = some (1, u) := fun u => m_within_in (k := 1) (lo := 0) (hi := 1) (by omega) (by omega) (by omega)
      rcases r_7 x2 with ⟨k, hk, rfl, b1, w1⟩ | ⟨b1, w1⟩
      · obtain ⟨a, ea, hx, hx2⟩ := c6 k hk
        obtain ⟨m1, m2, m3⟩ := d3 k hk
        refine zSt_yes (c := c) (g := g) (v := sU v 7 k 12) (w := sU (sU w 0 0 0) 2 k 0) (N := N) (op := op) (ar := ar) (S := S) (X := fun i => if i = k then (0, fun _ => 0) else X i) (O := O) (E := E) (st := st) (er := er) (rm := rm) (r := zI (X k).1) hA ?_ ?_ ?_ ?_ ?_
        · have j4 : sU v 7 k 12 4 = v 4 := sU_j (by omega)
          have j0 : sU v 7 k 12 0 = v 0 := sU_j (by omega)
          refine ⟨T, zM_w c1 (sU_j (by omega)) (fun i _ => by rw [j4]), c2, c3, fun i hi => by rw [j4, sU_j (by omega)]; exact c4 i hi, cSl_up c5 (fun i _ => by rw [j4]) (Nat.le_refl _) (sU_j (by omega)), fun i hi => ?_, cFl_up c7 (fun j _ _ => sU_j (by omega)), cOu_up c8 (fun i _ => by rw [j4]) (Nat.le_refl _) (by rw [j0]) (sU_j (by omega)), cFt_up c9 (fun i _ => by rw [j4]) (Nat.le_refl _) (by rw [j0]), by rw [j0]; exact c10, by rw [j0]; exact c11, by rw [j0]; exact c12⟩
          dsimp only
          by_cases ci : i = k
          · subst ci
            rw [if_pos rfl]
            exact ⟨12, sU_hit, by rw [j4]; exact zRX_up c1.2.2.2.2.2.2.1 (fun _ _ => rfl) c1.2.1, by show (0 : Nat) ≤ 12; omega, fun j hj => by exact absurd hj (Nat.not_lt_zero j)⟩
          · rw [if_neg ci, j4, sU_k ci]; exact c6 i hi
        · refine ⟨T', mM_w d1 (by rw [sU_j (by decide)]) (fun i _ => by rw [sU_j (by decide)]), mSl_up d2 (sU_j (by decide)) (sU_j (by decide)), fun i hi => ?_, mFl_up d4 (sU_j (by decide)) (sU_j (by decide)) (sU_j (by decide)), mOu_up d5 (sU_j (by decide)) (by rw [sU_j (by decide)]) (sU_j (by decide)), mFt_up d6 (sU_j (by decide)) (by rw [sU_j (by decide)]), by rw [sU_j (by decide)]; exact d7, by rw [sU_j (by decide)]; exact d8, by rw [sU_j (by decide)]; exact d9⟩
          dsimp only
          by_cases ci : i = k
          · subst ci
            rw [if_pos rfl]
            exact ⟨sU_hit, ⟨by show (0 : Nat) ≤ 12; omega, fun j hj => by exact absurd hj (Nat.not_lt_zero j)⟩, fun j hj => by exact absurd hj (Nat.not_lt_zero j)⟩
          · rw [if_neg ci, sU_k ci, sU_j (by decide)]; exact d3 i hi
        · rw [f_B_wipe, if_neg n1, f_B_wipe_12, if_pos rfl, b1, bi_s, if_neg n1, f_B_wipe_26, f_B_wipe_31, b_req1]
          refine mg_s (bo_l ?_ (Nat.le_refl _)) (Nat.le_refl _)
          rw [f_B_wipe_34, if_neg n1, gd_I hk (by omega), zI_toNat (by omega), ea, c_lenX c1 hx, bi_s, gd_I hk (by omega), nm_s]
        · rw [f_M_wipe, nm_s, v0, bi_s, if_neg n1, if_neg n1, f_M_wipe_26, w1, bi_s, if_neg n1, if_neg n1, gd_I hk (by omega), zI_toNat (by omega), m1, f_M_wipe_57, if_neg n1, gd_I hk (by omega), zI_toNat (by omega), nm_s]
          rfl
        · rw [sU_j (by decide)]; exact z00
      · refine bad _ ?_ ?_
        · rw [f_B_wipe, if_neg n1, f_B_wipe_12, if_pos rfl, b1, bi_s, if_pos rfl, b30]
          exact mg_s rfl (Nat.le_refl _)
        · rw [f_M_wipe, nm_s, v0, bi_s, if_neg n1, if_neg n1, f_M_wipe_26, w1, bi_s, if_pos rfl]
    · refine bad _ ?_ ?_
      · rw [f_B_wipe, if_neg x0, f_B_wipe_12, if_neg x1e, b30]
        exact mg_s rfl (Nat.le_refl _)
      · have v0 : ∀ u, f_M_within u x1 0 1 = some (0, u) := by
          rcases i_cases x1 0 1 (by omega) (by omega) with h1 | h1 | ⟨k, -, hk, e⟩
          · exact fun u => m_within_out (Or.inl h1)
          · exact fun u => m_within_out (Or.inr h1)
          · exfalso
            rcases (show k = 0 ∨ k = 1 by omega) with rfl | rfl
            · exact x0 e
            · exact x1e e
        rw [f_M_wipe, nm_s, v0, bi_s, if_pos rfl]
theorem z_token (x1 x2 x3 : Int32) (h : zZ c g v w) : zSt (c + 1) (f_B_token g v x1 x2 x3) (f_M_token w x1 x2 x3) := by
  obtain ⟨S, X, N, op, ar, O, E, st, er, rm, hA, hC, hW⟩ := h
  have hW0 : mRl (sU w 0 0 0) S X N op ar O E st er rm := mRl_0 hW
  have n1 : ¬ (1 : Int32) = 0 := by decide
  have bad : ∀ (F : Option (bO Int32)), F = some (.inr 0, g, v) → (f_M_token w x1 x2 x3 = f_M_token_43 (sU w 0 0 0)) → zSt (c + 1) F (f_M_token w x1 x2 x3) := by
    intro F hF hG
    refine zSt_no (w := sU (sU w 0 0 0) 0 0 1) (r := 0) hA hC (mRl_0 hW0) hF ?_ sU_hit
    rw [hG]; rfl
  have b29 : f_B_token_29 x1 x2 x3 g v = some (.inr 0, g, v) := by
    rw [f_B_token_29, f_B_token_30, b_req0]; rfl
  have z00 : sU w 0 0 0 0 0 = 0 := sU_hit
  rcases r_3 x1 with ⟨k, hk, rfl, b1, w1⟩ | ⟨b1, w1⟩
  · rcases (show (∃ o, o ≤ 34 ∧ x2 = zI o ∧ (∀ g v, f_B_isBelow g v x2 35 = some (1, v)) ∧ ∀ u, f_M_within u x2 0 34 = some (1, u)) ∨ ((∀ g v, f_B_isBelow g v x2 35 = some (0, v)) ∧ ∀ u, f_M_within u x2 0 34 = some (0, u)) from r_g x2 34 (by omega)) with ⟨o, ho, rfl, b2, w2⟩ | ⟨b2, w2⟩
    · have key : (zag o x3 ∧ f_O_takes g v (zI o) x3 = some (1, v) ∧ f_M_token w (zI k) (zI o) x3 = f_M_token_49 (zI k) (zI o) x3 (sU w 0 0 0)) ∨ (f_O_takes g v (zI o) x3 = some (0, v) ∧ f_M_token w (zI k) (zI o) x3 = f_M_token_43 (sU w 0 0 0)) := by
        rcases tk_ok (g := g) (v := v) (w := sU w 0 0 0) o ho x3 with ⟨t1, t2, t3⟩ | ⟨t0, t1, t2, t3⟩
        · refine Or.inl ⟨zag_no t1, t2, ?_⟩
          rw [f_M_token, nm_s, w1, bi_s, if_neg n1, w2, bi_s, if_neg n1, t3, bi_s, if_pos (by decide)]
        · have en : ¬ zI (zmo o - 1) < 0 := by rw [zl_0, zI_lt (by omega) (by omega)]; omega
          have em : f_M_token w (zI k) (zI o) x3 = bi (f_M_within (sU w 0 0 0) x3 0 (zI (zmo o - 1))) (fun r_19 v_17 => if r_19 = 0 then (f_M_token_43 v_17) else (f_M_token_49 (zI k) (zI o) x3 v_17)) := by
            rw [f_M_token, nm_s, w1, bi_s, if_neg n1, w2, bi_s, if_neg n1, t3, bi_s, if_neg en, t3, bi_s]
          rcases r_g x3 (zmo o - 1) (by omega) with ⟨j, hj, rfl, b3, w3⟩ | ⟨b3, w3⟩
          · rw [show zmo o - 1 + 1 = zmo o by omega] at b3
            refine Or.inl ⟨zag_in (by omega), by rw [t2, b3]; rfl, ?_⟩
            rw [em, show (0 : Int32) = zI 0 from rfl, w3, bi_s]
            exact if_neg n1
          · rw [show zmo o - 1 + 1 = zmo o by omega] at b3
            refine Or.inr ⟨by rw [t2, b3]; rfl, ?_⟩
            rw [em, show (0 : Int32) = zI 0 from rfl, w3, bi_s]
            exact if_pos rfl
      rcases key with ⟨hz, ht, hm⟩ | ⟨ht, hm⟩
      · obtain ⟨T, c1, c2, c3, c4, c5, c6, c7, c8, c9, c10, c11, c12⟩ := hC
        have hC : cR c g v S X N op ar O E st er rm := ⟨T, c1, c2, c3, c4, c5, c6, c7, c8, c9, c10, c11, c12⟩
        obtain ⟨T', d1, d2, d3, d4, d5, d6, d7, d8, d9⟩ := hW0
        obtain ⟨f1, f2⟩ := c7 k hk
        obtain ⟨h1, h2⟩ := d4 k hk
        have hN := (hA.1 k hk).1
        have q32 : (zI (N k) = 32) = (N k = 32) := by rw [show (32 : Int32) = zI 32 from rfl, zI_eq (by omega) (by omega)]
        have hB : f_B_token g v (zI k) (zI o) x3 = mg g (bo (some (.inl (), g, v)) fun r9 g9 v9 => f_B_token_33 (zI k) (zI o) x3 g9 v9) := by
          rw [f_B_token, b1, bi_s, if_neg n1, b2, bi_s, if_neg n1, ht, bi_s, if_neg n1, f_B_token_30, b_req1]
        by_cases cN : N k = 32
        · refine zSt_no (w := sU (sU w 0 0 0) 0 0 4) (n := 3) (r := 0) hA hC (mRl_0 (mRl_0 hW)) ?_ ?_ sU_hit
          · rw [hB]
            refine mg_s (bo_l ?_ (Nat.le_refl _)) (Nat.le_refl _)
            rw [f_B_token_33, gd_I hk (by omega), zI_toNat (by omega), nm_s, f_F_size, gd_t (filB_z hk), f1, bi_s, ite_p q32, if_pos cN]
          · rw [hm, f_M_token_49, gd_I hk (by omega), zI_toNat (by omega), h1, ite_p q32, if_pos cN]
            rfl
        · have e1 : zI (N k) + 1 = zI (N k + 1) := by rw [zl_1, zI_add]
          have e32 : 32 * zI k + zI (N k) = zI (32 * k + N k) := by rw [show (32 : Int32) = zI 32 from rfl, zI_mul, zI_add]
          refine zSt_yes (c := c) (g := g) (v := sU (sU (sU v (9 + 4 * k + 1) (N k) (zI o)) (9 + 4 * k + 2) (N k) x3) (9 + 4 * k) 3 (zI (N k + 1))) (w := sU (sU (sU (sU w 0 0 0) 3 (32 * k + N k) (zI o)) 4 (32 * k + N k) x3) 5 k (zI (N k + 1))) (N := fun f => if f = k then N k + 1 else N f) (op := fun f i => if f = k ∧ i = N k then o else op f i) (ar := fun f i => if f = k ∧ i = N k then x3 else ar f i) (S := S) (X := X) (O := O) (E := E) (st := st) (er := er) (rm := rm) (r := zI (N k + 1)) ⟨fun f hf => ?_, hA.2⟩ ?_ ?_ ?_ ?_ ?_
          · dsimp only
            by_cases cf : f = k
            · subst cf
              rw [if_pos rfl]
              refine ⟨by omega, fun j hj => ?_⟩
              by_cases cj : j = N f
              · rw [if_pos ⟨rfl, cj⟩, if_pos ⟨rfl, cj⟩]; exact ⟨ho, hz⟩
              · rw [if_neg (fun q => cj q.2), if_neg (fun q => cj q.2)]; exact (hA.1 f hf).2 j (by omega)
            · rw [if_neg cf]
              refine ⟨(hA.1 f hf).1, fun j hj => ?_⟩
              rw [if_neg (fun q => cf q.1), if_neg (fun q => cf q.1)]; exact (hA.1 f hf).2 j hj
          · have fz : ∀ j, j < 9 ∨ 25 ≤ j → sU (sU (sU v (9 + 4 * k + 1) (N k) (zI o)) (9 + 4 * k + 2) (N k) x3) (9 + 4 * k) 3 (zI (N k + 1)) j = v j := fun j hj => by rw [sU_j (by omega), sU_j (by omega), sU_j (by omega)]
            have j4 := fz 4 (by omega)
            have j0 := fz 0 (by omega)
            refine ⟨T, zM_w c1 (fz 1 (by omega)) (fun i _ => by rw [j4]), c2, c3, fun i hi => by rw [j4, fz 5 (by omega)]; exact c4 i hi, cSl_up c5 (fun i _ => by rw [j4]) (Nat.le_refl _) (fz 6 (by omega)), cSt_up c6 (fun i _ => by rw [j4]) (Nat.le_refl _) (fz 7 (by omega)), fun f hf => ⟨?_, fun i hi => ?_⟩, cOu_up c8 (fun i _ => by rw [j4]) (Nat.le_refl _) (by rw [j0]) (fz 61 (by omega)), cFt_up c9 (fun i _ => by rw [j4]) (Nat.le_refl _) (by rw [j0]), by rw [j0]; exact c10, by rw [j0]; exact c11, by rw [j0]; exact c12⟩
            · dsimp only
              by_cases cf : f = k
              · subst cf; rw [if_pos rfl, sU_hit]
              · rw [if_neg cf, sU_j (by omega), sU_j (by omega), sU_j (by omega)]; exact (c7 f hf).1
            · dsimp only
              by_cases cf : f = k
              · subst cf
                obtain ⟨y1, y2⟩ := f2 i hi
                by_cases ci : i = N f
                · subst ci
                  rw [if_pos ⟨rfl, rfl⟩, if_pos ⟨rfl, rfl⟩]
                  refine ⟨?_, ?_⟩
                  · rw [sU_j (by omega), sU_j (by omega), show 10 + 4 * f = 9 + 4 * f + 1 by omega, sU_hit]
                  · rw [sU_j (by omega), show 11 + 4 * f = 9 + 4 * f + 2 by omega, sU_hit]
                · rw [if_neg (fun q => ci q.2), if_neg (fun q => ci q.2)]
                  refine ⟨?_, ?_⟩
                  · rw [sU_j (by omega), sU_j (by omega), show 10 + 4 * f = 9 + 4 * f + 1 by omega, sU_k ci, show 9 + 4 * f + 1 = 10 + 4 * f by omega]; exact y1
                  · rw [sU_j (by omega), show 11 + 4 * f = 9 + 4 * f + 2 by omega, sU_k ci, sU_j (by omega), show 9 + 4 * f + 2 = 11 + 4 * f by omega]; exact y2
              · rw [if_neg (fun q => cf q.1), if_neg (fun q => cf q.1), sU_j (by omega), sU_j (by omega), sU_j (by omega), sU_j (by omega), sU_j (by omega), sU_j (by omega)]
                exact (c7 f hf).2 i hi
          · have fz : ∀ j, j ≠ 3 → j ≠ 4 → j ≠ 5 → sU (sU (sU (sU w 0 0 0) 3 (32 * k + N k) (zI o)) 4 (32 * k + N k) x3) 5 k (zI (N k + 1)) j = sU w 0 0 0 j := fun j a b c => by rw [sU_j c, sU_j b, sU_j a]
            have j0 := fz 0 (by decide) (by decide) (by decide)
            have j6 := fz 6 (by decide) (by decide) (by decide)
            refine ⟨T', mM_w d1 (by rw [j0]) (fun i _ => by rw [j6]), mSl_up d2 j6 (fz 8 (by decide) (by decide) (by decide)), mSx_up d3 (fz 1 (by decide) (by decide) (by decide)) (fz 2 (by decide) (by decide) (by decide)), fun f hf => ⟨?_, fun i hi => ?_⟩, mOu_up d5 j6 (by rw [j0]) (fz 9 (by decide) (by decide) (by decide)), mFt_up d6 j6 (by rw [j0]), by rw [j0]; exact d7, by rw [j0]; exact d8, by rw [j0]; exact d9⟩
            · dsimp only
              by_cases cf : f = k
              · subst cf; rw [if_pos rfl, sU_hit]
              · rw [if_neg cf, sU_k cf, sU_j (by decide), sU_j (by decide)]; exact (d4 f hf).1
            · dsimp only
              have y3 : sU (sU (sU (sU w 0 0 0) 3 (32 * k + N k) (zI o)) 4 (32 * k + N k) x3) 5 k (zI (N k + 1)) 3 = sU (sU w 0 0 0) 3 (32 * k + N k) (zI o) 3 := by rw [sU_j (by decide), sU_j (by decide)]
              have y4 : sU (sU (sU (sU w 0 0 0) 3 (32 * k + N k) (zI o)) 4 (32 * k + N k) x3) 5 k (zI (N k + 1)) 4 = sU (sU (sU w 0 0 0) 3 (32 * k + N k) (zI o)) 4 (32 * k + N k) x3 4 := sU_j (by decide)
              rw [y3, y4]
              by_cases cf : f = k ∧ i = N k
              · obtain ⟨rfl, rfl⟩ := cf
                rw [if_pos ⟨rfl, rfl⟩, if_pos ⟨rfl, rfl⟩, sU_hit, sU_hit]
                exact ⟨rfl, rfl⟩
              · rw [if_neg cf, if_neg cf]
                have hne : 32 * f + i ≠ 32 * k + N k := by
                  intro q
                  apply cf
                  omega
                rw [sU_k hne, sU_k hne, sU_j (by decide)]
                exact (d4 f hf).2 i hi
          · rw [hB]
            refine mg_s (bo_l ?_ (Nat.le_refl _)) (Nat.le_refl _)
            have z2 : sU v (9 + 4 * k + 1) (N k) (zI o) (9 + 4 * k) 3 = zI (N k) := by rw [sU_j (by omega)]; exact f1
            have z3 : sU (sU v (9 + 4 * k + 1) (N k) (zI o)) (9 + 4 * k + 2) (N k) x3 (9 + 4 * k) 3 = zI (N k) := by rw [sU_j (by omega)]; exact z2
            rw [f_B_token_33, gd_I hk (by omega), zI_toNat (by omega), nm_s, f_F_size, gd_t (filB_z hk), f1, bi_s, ite_p q32, if_neg cN, gd_I hk (by omega), nm_s, f_F_add, gd_t (filB_z hk), f1, gd_I (by omega) (by omega), zI_toNat (by omega), nm_s, z2, gd_I (by omega) (by omega), zI_toNat (by omega), nm_s, z3, e1, nm_s, bv_s, gd_I hk (by omega), nm_s, f_F_size, gd_t (filB_z hk), sU_hit, bi_s]
          · have z2 : sU (sU w 0 0 0) 3 (32 * k + N k) (zI o) 5 k = zI (N k) := by rw [sU_j (by decide)]; exact h1
            have z3 : sU (sU (sU w 0 0 0) 3 (32 * k + N k) (zI o)) 4 (32 * k + N k) x3 5 k = zI (N k) := by rw [sU_j (by decide)]; exact z2
            rw [hm, f_M_token_49, gd_I hk (by omega), zI_toNat (by omega), h1, ite_p q32, if_neg cN, gd_I hk (by omega), e32, gd_I (by omega) (by omega), zI_toNat (by omega), nm_s, gd_I hk (by omega), z2, e32, gd_I (by omega) (by omega), zI_toNat (by omega), nm_s, gd_I hk (by omega), gd_I hk (by omega), z3, e1, nm_s, gd_I hk (by omega), sU_hit]
          · rw [sU_j (by decide), sU_j (by decide), sU_j (by decide)]; exact z00
      · refine bad _ ?_ hm
        rw [f_B_token, b1, bi_s, if_neg n1, b2, bi_s, if_neg n1, ht, bi_s, if_pos rfl, b29]
        exact mg_s rfl (Nat.le_refl _)
    · refine bad _ ?_ ?_
      · rw [f_B_token, b1, bi_s, if_neg n1, b2, bi_s, if_pos rfl, b29]
        exact mg_s rfl (Nat.le_refl _)
      · rw [f_M_token, nm_s, w1, bi_s, if_neg n1, w2, bi_s, if_pos rfl]
  · refine bad _ ?_ ?_
    · rw [f_B_token, b1, bi_s, if_pos rfl, b29]
      exact mg_s rfl (Nat.le_refl _)
    · rw [f_M_token, nm_s, w1, bi_s, if_pos rfl]
end SB
