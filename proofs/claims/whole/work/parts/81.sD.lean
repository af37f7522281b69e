/-! the calls: kind, length, number, character -/
section SD
variable {c : Nat} {g g' : Nat → Nat} {v v' w w' : mS} {T T' : Nat}
theorem I_pos {p : Nat} (h : p < 2147483648) : (0 : Int32) ≤ zI p ∧ ¬ zI p < 0 := by
  rw [zl_0, zI_le (by omega) h, zI_lt h (by omega)]; omega
theorem z_kind (x1 x2 : Int32) (h : zZ c g v w) : zSt (c + 1) (f_B_kind g v x1 x2) (f_M_kind w x1 x2) := by
  obtain ⟨S, X, N, op, ar, O, E, st, er, rm, hA, hC, hW⟩ := h
  rcases z_part x1 x2 hC hW with ⟨n, w', hn4, e1, e2, e3, e4⟩ | ⟨k, i, a, T, hk, rfl, rfl, hi, h24, e1, ea, hM, ha, w', T', p, b, e2, e3, e4, hm, hu, e5, e6⟩
  · refine zSt_no (n := n) (r := 0) hA hC e4 ?_ ?_ e3 hn4
    · rw [f_B_kind, e1, bo_r]; exact mg_s rfl (Nat.le_refl _)
    · rw [f_M_kind, e2, bi_s, if_neg (by decide)]; rfl
  · obtain ⟨q, f1, f2⟩ := c_partAt hM ha hi
    have hu2 := zU_head hu
    have hT' := hm.2.2.1
    refine zSt_yes (r := zI (zk (zfnd 5 (S k) i none).1)) hA hC e4 ?_ ?_ e3
    · rw [f_B_kind, e1]
      refine mg_s (bo_l ?_ (Nat.le_refl _)) (Nat.le_refl _)
      rw [f_B_kind_6, gd_I hk (by omega), zI_toNat (by omega), ea, f1, bi_s, c_kind hM f2, bi_s]
    · rw [f_M_kind, e2, bi_s, if_pos (I_pos (by omega)).1, m_kind hm hu, bi_s]; rfl
theorem z_length (x1 x2 : Int32) (h : zZ c g v w) : zSt (c + 1) (f_B_length g v x1 x2) (f_M_length w x1 x2) := by
  obtain ⟨S, X, N, op, ar, O, E, st, er, rm, hA, hC, hW⟩ := h
  rcases z_part x1 x2 hC hW with ⟨n, w', hn4, e1, e2, e3, e4⟩ | ⟨k, i, a, T, hk, rfl, rfl, hi, h24, e1, ea, hM, ha, w', T', p, b, e2, e3, e4, hm, hu, e5, e6⟩
  · refine zSt_no (n := n) (r := 0) hA hC e4 ?_ ?_ e3 hn4
    · rw [f_B_length, e1, bo_r]; exact mg_s rfl (Nat.le_refl _)
    · rw [f_M_length, e2, bi_s, if_pos (by decide)]; rfl
  · obtain ⟨q, f1, f2⟩ := c_partAt hM ha hi
    have hu2 := zU_head hu
    have hT' := hm.2.2.1
    have hkk := hu.2.1
    refine zSt_yes (r := zI (zl (zfnd 5 (S k) i none).1)) hA hC e4 ?_ ?_ e3
    · rw [f_B_length, e1]
      refine mg_s (bo_l ?_ (Nat.le_refl _)) (Nat.le_refl _)
      rw [f_B_length_6, gd_I hk (by omega), zI_toNat (by omega), ea, f1, bi_s, c_len hM f2, bi_s]
    · rw [f_M_length, e2, bi_s, if_neg (I_pos (by omega)).2, m_kind hm hu, bi_s, zl_4, iI_le (by omega) (by omega)]
      by_cases c4 : 4 ≤ zk (zfnd 5 (S k) i none).1
      · rw [if_pos c4, m_size hm hu, bi_s]; rfl
      · rw [if_neg c4, hu.2.2.2.2.2.1 (by omega)]; rfl
theorem z_number (x1 x2 x3 : Int32) (h : zZ c g v w) : zSt (c + 1) (f_B_number g v x1 x2 x3) (f_M_number w x1 x2 x3) := by
  obtain ⟨S, X, N, op, ar, O, E, st, er, rm, hA, hC, hW⟩ := h
  rcases z_part x1 x2 hC hW with ⟨n, w', hn4, e1, e2, e3, e4⟩ | ⟨k, i, a, T, hk, rfl, rfl, hi, h24, e1, ea, hM, ha, w', T', p, b, e2, e3, e4, hm, hu, e5, e6⟩
  · refine zSt_no (n := n) (r := 0) hA hC e4 ?_ ?_ e3 hn4
    · rw [f_B_number, e1, bo_r]; exact mg_s rfl (Nat.le_refl _)
    · rw [f_M_number, e2, bi_s, if_pos (by decide)]; rfl
  · obtain ⟨q, f1, f2⟩ := c_partAt hM ha hi
    have hu2 := zU_head hu
    have hT' := hm.2.2.1
    have hkk := hu.2.1
    have hB : ∀ r, (bi (f_V_kindOf g v (zI q)) fun r_7 v_5 => if r_7 = 3 then (if x3 = 0 then (bi (f_V_wholeOf g v_5 (zI q)) fun r_12 v_10 => f_B_number_62 r_12 g v_10) else (bi (f_V_scaleOf g v_5 (zI q)) fun r_15 v_13 => f_B_number_62 r_15 g v_13)) else (some (.inl (0), g, v_5))) = some (.inl r, g, v) → f_B_number g v (zI k) (zI i) x3 = some (.inl r, g, v) := by
      intro r hr
      rw [f_B_number, e1]
      refine mg_s (bo_l ?_ (Nat.le_refl _)) (Nat.le_refl _)
      rw [f_B_number_6, gd_I hk (by omega), zI_toNat (by omega), ea, f1, bi_s, hr]
    have k3 : (zI (zk (zfnd 5 (S k) i none).1) = 3) = (zk (zfnd 5 (S k) i none).1 = 3) := by rw [zl_3, zI_eq (by omega) (by omega)]
    by_cases c3 : zk (zfnd 5 (S k) i none).1 = 3
    · by_cases cx : x3 = 0
      · refine zSt_yes (r := zJ (zred 6 (zv (zfnd 5 (S k) i none).1)).1) hA hC e4 (hB _ ?_) ?_ e3
        · rw [c_kind hM f2, bi_s, ite_p k3, if_pos c3, if_pos cx, c_whole hM f2 c3, bi_s]; rfl
        · rw [f_M_number, e2, bi_s, if_neg (I_pos (by omega)).2, m_kind hm hu, bi_s, ite_p k3, if_pos c3, if_pos cx, m_mant hm hu c3, bi_s, zK_32]; rfl
      · refine zSt_yes (r := zI (zred 6 (zv (zfnd 5 (S k) i none).1)).2) hA hC e4 (hB _ ?_) ?_ e3
        · rw [c_kind hM f2, bi_s, ite_p k3, if_pos c3, if_neg cx, c_scale hM f2 c3, bi_s]; rfl
        · rw [f_M_number, e2, bi_s, if_neg (I_pos (by omega)).2, m_kind hm hu, bi_s, ite_p k3, if_pos c3, if_neg cx, m_scale hm hu c3, bi_s]; rfl
    · refine zSt_yes (r := 0) hA hC e4 (hB _ ?_) ?_ e3
      · rw [c_kind hM f2, bi_s, ite_p k3, if_neg c3]
      · rw [f_M_number, e2, bi_s, if_neg (I_pos (by omega)).2, m_kind hm hu, bi_s, ite_p k3, if_neg c3]; rfl
/-- a letter of a text, or the refusal -/
theorem z_char {S : Nat → zT} {X : Nat → zN} {N : Nat → Nat} {op : Nat → Nat → Nat} {ar : Nat → Nat → Int32} {O : List zT} {E : zT} {st er rm : Int32} {x3 : Int32} {F : Option (bO Int32)} {G : Option (Int32 × mS)} {q p : Nat} {y : zN} (hA : zAb N op ar O) (hC : cR c g v S X N op ar O E st er rm) (hW : mRl w' S X N op ar O E st er rm) (hM : zM g v T) (hm : mM w' T') (hy : zRX (v 4) T q y) (hz : zRY (w' 6) T' p y) (hx : ztx y) (h0 : w' 0 0 = 0) (hF : ∀ r, f_B_character_42 x3 (zI q) g v = some (r, g, v) → F = some (r, g, v)) (hG : G = f_M_character_46 x3 (zI p) w') : zSt (c + 1) F G := by
  have n1 : ¬ (1 : Int32) = 0 := by decide
  have hl := hx.1
  have hT' := hm.2.2.1
  obtain ⟨z1, z2, z3, z4, z5, z6, z7⟩ := hz
  have p0 : ¬ zI p = 0 := by rw [zl_0, zI_eq (by omega) (by omega)]; omega
  have hz : zRY (w' 6) T' p y := ⟨z1, z2, z3, z4, z5, z6, z7⟩
  have hB : ∀ r b, f_B_isBelow g v x3 (zI y.1) = some (b, v) → (if b = 0 then (f_B_character_73 g v) else (bi (f_V_letterAt g v (zI q) x3) fun r_14 v_12 => some (.inl (r_14), g, v_12))) = some (r, g, v) → F = some (r, g, v) := by
    intro r b h1 h2
    refine hF r ?_
    rw [f_B_character_42, c_kindX hM hy, bi_s, if_pos (show zI 4 = 4 from rfl), c_lenX hM hy, bi_s, h1, bi_s, h2]
  have bad : (∃ x, f_B_isBelow g v x3 (zI y.1) = some (0, v) ∧ x = 0) → f_M_character_46 x3 (zI p) w' = f_M_character_67 w' → zSt (c + 1) F G := by
    rintro ⟨-, h1, -⟩ h2
    refine zSt_no (n := 1) (r := 0) (w := sU w' 0 0 2) hA hC (mRl_0 hW) (hB _ _ h1 (by rw [if_pos rfl]; rfl)) ?_ sU_hit
    rw [hG, h2]; rfl
  by_cases h1 : x3 < 0
  · refine bad ⟨0, ?_, rfl⟩ ?_
    · rw [f_B_isBelow, if_pos h1]; rfl
    · rw [f_M_character_46, if_neg p0, if_pos h1]
  · by_cases h2 : x3 < zI y.1
    · have hj : ∃ j, j < y.1 ∧ x3 = zI j := by
        rcases i_cases x3 0 12 (by omega) (by omega) with q | q | ⟨j, -, hj, rfl⟩
        · exact absurd q h1
        · rw [Int32.lt_iff_toInt_lt, zI_toInt (by omega)] at q h2
          omega
        · rw [zI_lt (by omega) (by omega)] at h2
          exact ⟨j, h2, rfl⟩
      obtain ⟨j, hj, rfl⟩ := hj
      refine zSt_yes (r := zI (y.2 j)) (w := w') hA hC hW (hB _ 1 (c_below_in hj (by omega)) ?_) ?_ h0
      · rw [if_neg n1, c_let hM hy hj, bi_s]
      · have e4 : (zI p + 4) + zI j = zI (p + 4 + j) := by rw [zl_4, zI_add, zI_add]
        rw [hG, f_M_character_46, if_neg p0, if_neg h1, m_sizeY hm hz, bi_s, if_pos h2, e4, gd_I (by omega) (by omega), zI_toNat (by omega), z7 j hj]
        rfl
    · refine bad ⟨0, ?_, rfl⟩ ?_
      · have : zI y.1 ≤ x3 := by
          rw [Int32.lt_iff_toInt_lt] at h2
          rw [Int32.le_iff_toInt_le]
          omega
        rw [f_B_isBelow, if_neg h1, if_pos this]; rfl
      · rw [f_M_character_46, if_neg p0, if_neg h1, m_sizeY hm hz, bi_s, if_neg h2]
theorem z_character (x1 x2 x3 x4 : Int32) (h : zZ c g v w) : zSt (c + 1) (f_B_character g v x1 x2 x3 x4) (f_M_character w x1 x2 x3 x4) := by
  obtain ⟨S, X, N, op, ar, O, E, st, er, rm, hA, hC, hW⟩ := h
  rcases z_part x1 x2 hC hW with ⟨n, w', hn4, e1, e2, e3, e4⟩ | ⟨k, i, a, T, hk, rfl, rfl, hi, h24, e1, ea, hM, ha, w', T', p, b, e2, e3, e4, hm, hu, e5, e6⟩
  · refine zSt_no (n := n) (r := 0) hA hC e4 ?_ ?_ e3 hn4
    · rw [f_B_character, e1, bo_r]; exact mg_s rfl (Nat.le_refl _)
    · rw [f_M_character, e2, bi_s, if_neg (by decide)]
  · have hu2 := zU_head hu
    have hT' := hm.2.2.1
    have hkk := hu.2.1
    have hB : ∀ r, f_B_character_6 (zI k) (zI i) x3 x4 g v = some (r, g, v) → f_B_character g v (zI k) (zI i) x3 x4 = some (r, g, v) := by
      intro r hr
      rw [f_B_character, e1]
      exact mg_s (bo_l hr (Nat.le_refl _)) (Nat.le_refl _)
    have no : f_B_character_6 (zI k) (zI i) x3 x4 g v = some (.inr 1, g, v) → f_M_character w (zI k) (zI i) x3 x4 = f_M_character_46 x3 0 w' → zSt (c + 1) (f_B_character g v (zI k) (zI i) x3 x4) (f_M_character w (zI k) (zI i) x3 x4) := by
      intro h1 h2
      refine zSt_no (n := 1) (r := 0) (w := sU w' 0 0 2) hA hC (mRl_0 e4) (hB _ h1) ?_ sU_hit
      rw [h2, f_M_character_46, if_pos rfl]; rfl
    by_cases cx : x4 = 0
    · obtain ⟨q, f1, f2⟩ := c_partAt hM ha hi
      have h6 : f_B_character_6 (zI k) (zI i) x3 x4 g v = f_B_character_42 x3 (zI q) g v := by
        rw [f_B_character_6, if_pos cx, gd_I hk (by omega), zI_toNat (by omega), ea, f1, bi_s]
      have k4 : (zI (zk (zfnd 5 (S k) i none).1) = 4) = (zk (zfnd 5 (S k) i none).1 = 4) := by rw [zl_4, zI_eq (by omega) (by omega)]
      by_cases c4 : zk (zfnd 5 (S k) i none).1 = 4
      · obtain ⟨y1, y2⟩ := zX_V f2 c4
        obtain ⟨y3, y4⟩ := zY_U hu c4
        refine z_char (x3 := x3) hA hC e4 hM hm y1 y3 y2 e3 (fun r hr => hB r (h6.trans hr)) ?_
        rw [f_M_character, e2, bi_s, if_pos (I_pos (by omega)).1, if_pos cx, m_kind hm hu, bi_s, ite_p k4, if_pos c4]
      · refine no ?_ ?_
        · rw [h6, f_B_character_42, c_kind hM f2, bi_s, ite_p k4, if_neg c4]; rfl
        · rw [f_M_character, e2, bi_s, if_pos (I_pos (by omega)).1, if_pos cx, m_kind hm hu, bi_s, ite_p k4, if_neg c4]
    · obtain ⟨q, f1, f2⟩ := c_nameOf hM ha hi
      have h6 : f_B_character_6 (zI k) (zI i) x3 x4 g v = f_B_character_42 x3 (zI q) g v := by
        rw [f_B_character_6, if_neg cx, gd_I hk (by omega), zI_toNat (by omega), ea, f1, bi_s]
      have h7 : f_M_character w (zI k) (zI i) x3 x4 = f_M_character_46 x3 (zI b) w' := by
        rw [f_M_character, e2, bi_s, if_pos (I_pos (by omega)).1, if_neg cx, gd_t (by decide), show (62 : Int32).toNatClampNeg = 62 from rfl, e5]
      cases hn : (zfnd 5 (S k) i none).2 with
      | none =>
        rw [hn] at f2 e6
        have f2 : q = 0 := f2
        have e6 : b = 0 := e6
        subst f2 e6
        refine no ?_ h7
        have hN := zM_W hM (k := 0) (by omega)
        rw [h6, f_B_character_42, c_kind hM hN, bi_s, if_neg (by decide)]; rfl
      | some y =>
        rw [hn] at f2 e6
        exact z_char (x3 := x3) hA hC e4 hM hm f2.1 e6.1 f2.2 e3 (fun r hr => hB r (h6.trans hr)) h7
end SD
