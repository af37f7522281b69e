/-! the calls: class and reference stand for the same things -/
theorem i_cases (x : Int32) (lo hi : Nat) (hl : lo ≤ hi) (h : hi < 2147483647) : x < zI lo ∨ zI hi < x ∨ ∃ k, lo ≤ k ∧ k ≤ hi ∧ x = zI k := by
  by_cases h1 : x < zI lo
  · exact Or.inl h1
  · by_cases h2 : zI hi < x
    · exact Or.inr (Or.inl h2)
    · rw [Int32.lt_iff_toInt_lt, zI_toInt (by omega)] at h1 h2
      have e : x = zI x.toInt.toNat := by
        rw [zI_J]
        have : ((x.toInt.toNat : Nat) : Int) = x.toInt := by omega
        rw [this]
        exact (zJ_of x).symm
      exact Or.inr (Or.inr ⟨x.toInt.toNat, by omega, by omega, e⟩)
theorem c_below_in {g : Nat → Nat} {v : mS} {k n : Nat} (hk : k < n) (hn : n < 2147483648) : f_B_isBelow g v (zI k) (zI n) = some (1, v) := by
  rw [f_B_isBelow, zl_0, iI_lt (by omega) (by omega), if_neg (by omega), iI_le (by omega) (by omega), if_neg (by omega)]
  rfl
theorem c_below_out {g : Nat → Nat} {v : mS} {n : Nat} {x : Int32} (h : x < zI 0 ∨ zI n < x) (hn : n < 2147483647) : f_B_isBelow g v x (zI (n + 1)) = some (0, v) := by
  have h0 : (0 : Int32) = zI 0 := rfl
  rw [f_B_isBelow]
  by_cases c : x < 0
  · rw [if_pos c]; rfl
  · rw [if_neg c]
    have : zI (n + 1) ≤ x := by
      rcases h with h | h
      · exact absurd h c
      · rw [Int32.lt_iff_toInt_lt, zI_toInt (by omega)] at h
        rw [Int32.le_iff_toInt_le, zI_toInt (by omega)]
        omega
    rw [if_pos this]
    rfl
theorem m_within_in {v : mS} {k lo hi : Nat} (h1 : lo ≤ k) (h2 : k ≤ hi) (hn : hi < 2147483648) : f_M_within v (zI k) (zI lo) (zI hi) = some (1, v) := by
  rw [f_M_within, iI_lt (by omega) (by omega), if_neg (by omega), iI_lt (by omega) (by omega), if_neg (by omega)]
  rfl
theorem m_within_out {v : mS} {lo hi x : Int32} (h : x < lo ∨ hi < x) : f_M_within v x lo hi = some (0, v) := by
  rw [f_M_within]
  by_cases c : x < lo
  · rw [if_pos c]; rfl
  · rw [if_neg c]
    rcases h with h | h
    · exact absurd h c
    · rw [if_pos h]; rfl
theorem r_g (x : Int32) (m : Nat) (hm : m < 1000) : (∃ k, k ≤ m ∧ x = zI k ∧ (∀ g v, f_B_isBelow g v x (zI (m + 1)) = some (1, v)) ∧ ∀ u, f_M_within u x (zI 0) (zI m) = some (1, u)) ∨ ((∀ g v, f_B_isBelow g v x (zI (m + 1)) = some (0, v)) ∧ ∀ u, f_M_within u x (zI 0) (zI m) = some (0, u)) := by
  rcases i_cases x 0 m (by omega) (by omega) with h1 | h1 | ⟨k, -, hk, rfl⟩
  · exact Or.inr ⟨fun g v => c_below_out (Or.inl h1) (by omega), fun u => m_within_out (Or.inl h1)⟩
  · exact Or.inr ⟨fun g v => c_below_out (Or.inr h1) (by omega), fun u => m_within_out (Or.inr h1)⟩
  · exact Or.inl ⟨k, hk, rfl, fun g v => c_below_in (by omega) (by omega), fun u => m_within_in (by omega) hk (by omega)⟩
theorem r_7 (x : Int32) : (∃ k, k < 8 ∧ x = zI k ∧ (∀ g v, f_B_isBelow g v x 8 = some (1, v)) ∧ ∀ u, f_M_within u x 0 7 = some (1, u)) ∨ ((∀ g v, f_B_isBelow g v x 8 = some (0, v)) ∧ ∀ u, f_M_within u x 0 7 = some (0, u)) := by
  rcases r_g x 7 (by omega) with ⟨k, h1, h2⟩ | h
  · exact Or.inl ⟨k, by omega, h2⟩
  · exact Or.inr h
theorem r_3 (x : Int32) : (∃ k, k < 4 ∧ x = zI k ∧ (∀ g v, f_B_isBelow g v x 4 = some (1, v)) ∧ ∀ u, f_M_within u x 0 3 = some (1, u)) ∨ ((∀ g v, f_B_isBelow g v x 4 = some (0, v)) ∧ ∀ u, f_M_within u x 0 3 = some (0, u)) := by
  rcases r_g x 3 (by omega) with ⟨k, h1, h2⟩ | h
  · exact Or.inl ⟨k, by omega, h2⟩
  · exact Or.inr h
/-- the class's side -/
def cSl (v : mS) (T : Nat) (S : Nat → zT) : Prop := ∀ k, k < 8 → ∃ a, v 6 k = zI a ∧ zV (v 4) T a (S k)
def cSt (v : mS) (T : Nat) (X : Nat → zN) : Prop := ∀ k, k < 8 → ∃ a, v 7 k = zI a ∧ zRX (v 4) T a (X k) ∧ ztx (X k)
def cFl (v : mS) (N : Nat → Nat) (op : Nat → Nat → Nat) (ar : Nat → Nat → Int32) : Prop := ∀ f, f < 4 → v (9 + 4 * f) 3 = zI (N f) ∧ ∀ k, k < 32 → v (10 + 4 * f) k = zI (op f k) ∧ v (11 + 4 * f) k = ar f k
def cOu (v : mS) (T : Nat) (O : List zT) : Prop := v 0 6 = zI O.length ∧ ∀ i, i < O.length → ∃ a, v 61 i = zI a ∧ zV (v 4) T a (O.getD i (zW 0))
def cFt (v : mS) (T : Nat) (E : zT) : Prop := ∃ a, v 0 7 = zI a ∧ zV (v 4) T a E
def cR (c : Nat) (g : Nat → Nat) (v : mS) (S : Nat → zT) (X : Nat → zN) (N : Nat → Nat) (op : Nat → Nat → Nat) (ar : Nat → Nat → Int32) (O : List zT) (E : zT) (st er rm : Int32) : Prop := ∃ T, zM g v T ∧ T ≤ 48800 + 17 * c ∧ (118 ≤ g 5 ∧ g 5 ≤ 130000) ∧ (∀ i, i < 118 → v 5 i = v 4 i) ∧ cSl v T S ∧ cSt v T X ∧ cFl v N op ar ∧ cOu v T O ∧ cFt v T E ∧ v 0 8 = st ∧ v 0 9 = er ∧ v 0 10 = rm
/-- the reference's side -/
def mSl (w : mS) (T : Nat) (S : Nat → zT) : Prop := ∀ k, k < 8 → ∃ a, w 8 k = zI a ∧ zU (w 6) T a (S k)
def mFl (w : mS) (N : Nat → Nat) (op : Nat → Nat → Nat) (ar : Nat → Nat → Int32) : Prop := ∀ f, f < 4 → w 5 f = zI (N f) ∧ ∀ k, k < 32 → w 3 (32 * f + k) = zI (op f k) ∧ w 4 (32 * f + k) = ar f k
def mOu (w : mS) (T : Nat) (O : List zT) : Prop := w 0 12 = zI O.length ∧ ∀ i, i < O.length → ∃ a, w 9 i = zI a ∧ zU (w 6) T a (O.getD i (zW 0))
def mFt (w : mS) (T : Nat) (E : zT) : Prop := ∃ a, w 0 13 = zI a ∧ zU (w 6) T a E
def mRl (w : mS) (S : Nat → zT) (X : Nat → zN) (N : Nat → Nat) (op : Nat → Nat → Nat) (ar : Nat → Nat → Int32) (O : List zT) (E : zT) (st er rm : Int32) : Prop := ∃ T, mM w T ∧ mSl w T S ∧ mSx w X ∧ mFl w N op ar ∧ mOu w T O ∧ mFt w T E ∧ w 0 20 = st ∧ w 0 22 = er ∧ w 0 23 = rm
def zAb (N : Nat → Nat) (op : Nat → Nat → Nat) (ar : Nat → Nat → Int32) (O : List zT) : Prop := (∀ f, f < 4 → N f ≤ 32 ∧ ∀ k, k < N f → op f k ≤ 34 ∧ zag (op f k) (ar f k)) ∧ O.length ≤ 16
def zZ (c : Nat) (g : Nat → Nat) (v w : mS) : Prop := ∃ S X N op ar O E st er rm, zAb N op ar O ∧ cR c g v S X N op ar O E st er rm ∧ mRl w S X N op ar O E st er rm
def zAg (o : Int32 ⊕ Nat) (r : Int32) (w : mS) : Prop := match o with
  | .inl a => w 0 0 = 0 ∧ r = a
  | .inr n => n < 4 ∧ w 0 0 = zI (n + 1)
def zSt (c : Nat) (F : Option (bO Int32)) (G : Option (Int32 × mS)) : Prop := ∃ o g' v' r w', F = some (o, g', v') ∧ G = some (r, w') ∧ zAg o r w' ∧ zZ c g' v' w'
section SA
variable {c : Nat} {g g' : Nat → Nat} {v v' w w' : mS} {T T' : Nat} {S : Nat → zT} {X : Nat → zN} {N : Nat → Nat} {op : Nat → Nat → Nat} {ar : Nat → Nat → Int32} {O : List zT} {E : zT} {st er rm : Int32}
theorem cSl_up (h : cSl v T S) (h4 : ∀ i, i < T → v' 4 i = v 4 i) (hT : T ≤ T') (h6 : v' 6 = v 6) : cSl v' T' S := fun k hk => by
  obtain ⟨a, e, u⟩ := h k hk
  exact ⟨a, by rw [h6]; exact e, zV_up u h4 hT⟩
theorem cSt_up (h : cSt v T X) (h4 : ∀ i, i < T → v' 4 i = v 4 i) (hT : T ≤ T') (h7 : v' 7 = v 7) : cSt v' T' X := fun k hk => by
  obtain ⟨a, e, u, x⟩ := h k hk
  exact ⟨a, by rw [h7]; exact e, zRX_up u h4 hT, x⟩
theorem cFl_up (h : cFl v N op ar) (h9 : ∀ j, 9 ≤ j → j < 25 → v' j = v j) : cFl v' N op ar := fun f hf => by
  obtain ⟨e, u⟩ := h f hf
  refine ⟨by rw [h9 _ (by omega) (by omega)]; exact e, fun k hk => ?_⟩
  rw [h9 _ (by omega) (by omega), h9 _ (by omega) (by omega)]
  exact u k hk
theorem cOu_up (h : cOu v T O) (h4 : ∀ i, i < T → v' 4 i = v 4 i) (hT : T ≤ T') (h0 : v' 0 6 = v 0 6) (h61 : v' 61 = v 61) : cOu v' T' O := ⟨h0.trans h.1, fun i hi => by
  obtain ⟨a, e, u⟩ := h.2 i hi
  exact ⟨a, by rw [h61]; exact e, zV_up u h4 hT⟩⟩
theorem cFt_up (h : cFt v T E) (h4 : ∀ i, i < T → v' 4 i = v 4 i) (hT : T ≤ T') (h0 : v' 0 7 = v 0 7) : cFt v' T' E := by
  obtain ⟨a, e, u⟩ := h
  exact ⟨a, h0.trans e, zV_up u h4 hT⟩
theorem cR_c (h : cR c g v S X N op ar O E st er rm) : cR (c + 1) g v S X N op ar O E st er rm := by
  obtain ⟨T, h1, h2, h3⟩ := h
  exact ⟨T, h1, by omega, h3⟩
theorem mSl_up (h : mSl w T S) (h6 : w' 6 = w 6) (h8 : w' 8 = w 8) : mSl w' T S := fun k hk => by
  obtain ⟨a, e, u⟩ := h k hk
  exact ⟨a, by rw [h8]; exact e, by rw [h6]; exact u⟩
theorem mSx_up (h : mSx w X) (h1 : w' 1 = w 1) (h2 : w' 2 = w 2) : mSx w' X := fun k hk => by
  rw [h1, h2]; exact h k hk
theorem mFl_up (h : mFl w N op ar) (h3 : w' 3 = w 3) (h4 : w' 4 = w 4) (h5 : w' 5 = w 5) : mFl w' N op ar := fun f hf => by
  rw [h3, h4, h5]; exact h f hf
theorem mOu_up (h : mOu w T O) (h6 : w' 6 = w 6) (h0 : w' 0 12 = w 0 12) (h9 : w' 9 = w 9) : mOu w' T O := ⟨h0.trans h.1, fun i hi => by
  obtain ⟨a, e, u⟩ := h.2 i hi
  exact ⟨a, by rw [h9]; exact e, by rw [h6]; exact u⟩⟩
theorem mFt_up (h : mFt w T E) (h6 : w' 6 = w 6) (h0 : w' 0 13 = w 0 13) : mFt w' T E := by
  obtain ⟨a, e, u⟩ := h
  exact ⟨a, h0.trans e, by rw [h6]; exact u⟩
theorem mRl_up (h : mRl w S X N op ar O E st er rm) (hj : ∀ j, (1 ≤ j ∧ j ≤ 6) ∨ j = 8 ∨ j = 9 → w' j = w j) (h0 : ∀ k, k = 7 ∨ k = 12 ∨ k = 13 ∨ k = 20 ∨ k = 22 ∨ k = 23 → w' 0 k = w 0 k) : mRl w' S X N op ar O E st er rm := by
  obtain ⟨T, h1, h2, h3, h4, h5, h6, h7, h8, h9⟩ := h
  have e6 := hj 6 (by omega)
  exact ⟨T, mM_w h1 (h0 7 (by omega)) (fun i _ => by rw [e6]), mSl_up h2 e6 (hj 8 (by omega)), mSx_up h3 (hj 1 (by omega)) (hj 2 (by omega)), mFl_up h4 (hj 3 (by omega)) (hj 4 (by omega)) (hj 5 (by omega)), mOu_up h5 e6 (h0 12 (by omega)) (hj 9 (by omega)), mFt_up h6 e6 (h0 13 (by omega)), (h0 20 (by omega)).trans h7, (h0 22 (by omega)).trans h8, (h0 23 (by omega)).trans h9⟩
theorem mRl_0 {x : Int32} (h : mRl w S X N op ar O E st er rm) : mRl (sU w 0 0 x) S X N op ar O E st er rm := mRl_up h (fun j hj => sU_j (by omega)) (fun k hk => sU_k (by omega))
/-- a call that the reference refuses with a code and the class by an exception, both as they were -/
theorem zSt_no {F : Option (bO Int32)} {G : Option (Int32 × mS)} {n : Nat} {r : Int32} (hA : zAb N op ar O) (hC : cR c g v S X N op ar O E st er rm) (hW : mRl w S X N op ar O E st er rm) (hF : F = some (.inr n, g, v)) (hG : G = some (r, w)) (h0 : w 0 0 = zI (n + 1)) (hn : n < 4 := by decide) : zSt (c + 1) F G := ⟨_, _, _, _, _, hF, hG, ⟨hn, h0⟩, S, X, N, op, ar, O, E, st, er, rm, hA, cR_c hC, hW⟩
theorem zSt_yes {F : Option (bO Int32)} {G : Option (Int32 × mS)} {r : Int32} (hA : zAb N op ar O) (hC : cR c g v S X N op ar O E st er rm) (hW : mRl w S X N op ar O E st er rm) (hF : F = some (.inl r, g, v)) (hG : G = some (r, w)) (h0 : w 0 0 = 0) : zSt (c + 1) F G := ⟨_, _, _, _, _, hF, hG, ⟨h0, rfl⟩, S, X, N, op, ar, O, E, st, er, rm, hA, cR_c hC, hW⟩
theorem b_req0 : f_B_require g v 0 = some (.inr 0, g, v) := mg_s rfl (Nat.le_refl _)
theorem b_req1 : f_B_require g v 1 = some (.inl (), g, v) := mg_s rfl (Nat.le_refl _)
theorem sU_00 {x y : Int32} : sU (sU v 0 0 x) 0 0 y 0 0 = y := sU_hit
/-- the STRING with one letter more -/
def zxl (X : Nat → zN) (k ch : Nat) : Nat → zN := fun i => if i = k then ((X k).1 + 1, fun j => if j < (X k).1 then (X k).2 j else ch) else X i
theorem z_letter (x1 x2 : Int32) (hc : c ≤ 600) (h : zZ c g v w) : zSt (c + 1) (f_B_letter g v x1 x2) (f_M_letter w x1 x2) := by
  obtain ⟨S, X, N, op, ar, O, E, st, er, rm, hA, hC, hW⟩ := h
  have hW0 : mRl (sU w 0 0 0) S X N op ar O E st er rm := mRl_0 hW
  have bad : ∀ (F : Option (bO Int32)), F = some (.inr 0, g, v) → (f_M_letter w x1 x2 = f_M_letter_26 (sU w 0 0 0)) → zSt (c + 1) F (f_M_letter w x1 x2) := by
    intro F hF hG
    refine zSt_no (w := sU (sU w 0 0 0) 0 0 1) (r := 0) hA hC (mRl_0 hW0) hF ?_ sU_hit
    rw [hG]; rfl
  have n1 : ¬ (1 : Int32) = 0 := by decide
  have b25 : f_B_letter_25 x1 x2 g v = some (.inr 0, g, v) := by
    rw [f_B_letter_25, f_B_letter_26, b_req0]; rfl
  rcases r_7 x1 with ⟨k, hk, rfl, b1, w1⟩ | ⟨b1, w1⟩
  · rcases i_cases x2 32 126 (by omega) (by omega) with h2 | h2 | ⟨ch, hc1, hc2, rfl⟩
    · refine bad _ ?_ ?_
      · rw [f_B_letter, b1, bi_s, if_neg n1, if_pos (show x2 < 32 from h2), b25]
        exact mg_s rfl (Nat.le_refl _)
      · have w2 : ∀ u, f_M_within u x2 32 126 = some (0, u) := fun u => m_within_out (Or.inl h2)
        rw [f_M_letter, nm_s, w1, bi_s, if_neg n1, w2, bi_s, if_pos rfl]
    · refine bad _ ?_ ?_
      · have h2' : (126 : Int32) < x2 := h2
        rw [f_B_letter, b1, bi_s, if_neg n1, if_pos h2', b25, ite_self]
        exact mg_s rfl (Nat.le_refl _)
      · have w2 : ∀ u, f_M_within u x2 32 126 = some (0, u) := fun u => m_within_out (Or.inr h2)
        rw [f_M_letter, nm_s, w1, bi_s, if_neg n1, w2, bi_s, if_pos rfl]
    · have w2 : ∀ u : mS, f_M_within u (zI ch) 32 126 = some (1, u) := fun u => m_within_in (lo := 32) (hi := 126) (by omega) hc2 (by omega)
      have p1 : ¬ zI ch < 32 := by rw [zl_32, zI_lt (by omega) (by omega)]; omega
      have p2 : ¬ 126 < zI ch := by rw [zl_126, zI_lt (by omega) (by omega)]; omega
      have hB : f_B_letter g v (zI k) (zI ch) = mg g (f_B_letter_26 (zI k) (zI ch) 1 g v) := by
        rw [f_B_letter, b1, bi_s, if_neg n1, if_neg p1, if_neg p2]
      obtain ⟨T, c1, c2, c3, c4, c5, c6, c7, c8, c9, c10, c11, c12⟩ := hC
      obtain ⟨a, ea, hx, hx2⟩ := c6 k (by omega)
      obtain ⟨T', d1, d2, d3, d4⟩ := hW0
      obtain ⟨m1, m2, m3⟩ := d3 k (by omega)
      have hl := hx2.1
      have q12 : (zI (X k).1 = 12) = ((X k).1 = 12) := by rw [zl_12, zI_eq (by omega) (by omega)]
      by_cases cl : (X k).1 = 12
      · refine zSt_no (w := sU (sU w 0 0 0) 0 0 4) (n := 3) (r := 0) hA ⟨T, c1, c2, c3, c4, c5, c6, c7, c8, c9, c10, c11, c12⟩ (mRl_0 (mRl_0 hW)) ?_ ?_ sU_hit
        · rw [hB, f_B_letter_26, b_req1]
          refine mg_s (bo_l ?_ (Nat.le_refl _)) (Nat.le_refl _)
          rw [f_B_letter_29, gd_I (by omega) (by omega), zI_toNat (by omega), ea, c_lenX c1 hx, bi_s, ite_p q12, if_pos cl]
        · rw [f_M_letter, nm_s, w1, bi_s, if_neg n1, w2, bi_s, if_neg n1, gd_I (by omega) (by omega), zI_toNat (by omega), m1, ite_p q12, if_pos cl]
          rfl
      · obtain ⟨g1, v1, l1, l2, l3, l4⟩ := c_longer (ch := ch) c1 hx hx2 (by omega) hc1 hc2 (by omega)
        have j4 : sU v1 7 k (zI T) 4 = v1 4 := sU_j (by decide)
        have j0 : sU v1 7 k (zI T) 0 = v1 0 := sU_j (by decide)
        have fz : ∀ j, j ≠ 1 → j ≠ 2 → j ≠ 3 → j ≠ 4 → j ≠ 7 → sU v1 7 k (zI T) j = v j := fun j a b c d e => by rw [sU_j e]; exact l3.2.2.2.2.2 j a b c d
        have f4 : ∀ i, i < T → sU v1 7 k (zI T) 4 i = v 4 i := fun i hi => by rw [j4]; exact l3.2.2.2.2.1 i hi
        have hT0 := c1.2.1
        have ztn : ztx ((X k).1 + 1, fun j => if j < (X k).1 then (X k).2 j else ch) := by
          refine ⟨by show (X k).1 + 1 ≤ 12; omega, fun j hj => ?_⟩
          show 32 ≤ (if j < (X k).1 then (X k).2 j else ch) ∧ (if j < (X k).1 then (X k).2 j else ch) ≤ 126
          by_cases cj : j < (X k).1
          · rw [if_pos cj]; exact hx2.2 j cj
          · rw [if_neg cj]; omega
        have hC' : cR (c + 1) g1 (sU v1 7 k (zI T)) S (zxl X k ch) N op ar O E st er rm := by
          refine ⟨T + (4 + ((X k).1 + 1)), zM_w l2 (sU_j (by decide)) (fun i _ => by rw [j4]), by omega, by rw [l3.2.1]; exact c3, fun i hi => ?_, cSl_up c5 f4 (by omega) (fz 6 (by decide) (by decide) (by decide) (by decide) (by decide)), fun i hi => ?_, cFl_up c7 (fun j _ _ => fz j (by omega) (by omega) (by omega) (by omega) (by omega)), cOu_up c8 f4 (by omega) (by rw [fz 0 (by decide) (by decide) (by decide) (by decide) (by decide)]) (fz 61 (by decide) (by decide) (by decide) (by decide) (by decide)), cFt_up c9 f4 (by omega) (by rw [fz 0 (by decide) (by decide) (by decide) (by decide) (by decide)]), ?_, ?_, ?_⟩
          · rw [fz 5 (by decide) (by decide) (by decide) (by decide) (by decide), f4 i (by omega)]; exact c4 i hi
          · unfold zxl
            by_cases ci : i = k
            · subst ci
              rw [if_pos rfl]
              exact ⟨T, sU_hit, by rw [j4]; exact l4, ztn⟩
            · rw [if_neg ci]
              obtain ⟨b, eb, hb, hb2⟩ := c6 i hi
              exact ⟨b, by rw [sU_k ci, l3.2.2.2.2.2 7 (by decide) (by decide) (by decide) (by decide)]; exact eb, zRX_up hb f4 (by omega), hb2⟩
          · rw [fz 0 (by decide) (by decide) (by decide) (by decide) (by decide)]; exact c10
          · rw [fz 0 (by decide) (by decide) (by decide) (by decide) (by decide)]; exact c11
          · rw [fz 0 (by decide) (by decide) (by decide) (by decide) (by decide)]; exact c12
        have e12 : 12 * zI k + zI (X k).1 = zI (12 * k + (X k).1) := by rw [zl_12, zI_mul, zI_add]
        have e1 : zI (X k).1 + 1 = zI ((X k).1 + 1) := by rw [zl_1, zI_add]
        have hW' : mRl (sU (sU (sU w 0 0 0) 1 (12 * k + (X k).1) (zI ch)) 2 k (zI ((X k).1 + 1))) S (zxl X k ch) N op ar O E st er rm := by
          obtain ⟨d4, d5, d6, d7, d8, d9⟩ := d4
          refine ⟨T', mM_w d1 (by rw [sU_j (by decide), sU_j (by decide)]) (fun i _ => by rw [sU_j (by decide), sU_j (by decide)]), mSl_up d2 (by rw [sU_j (by decide), sU_j (by decide)]) (by rw [sU_j (by decide), sU_j (by decide)]), fun i hi => ?_, mFl_up d4 (by rw [sU_j (by decide), sU_j (by decide)]) (by rw [sU_j (by decide), sU_j (by decide)]) (by rw [sU_j (by decide), sU_j (by decide)]), mOu_up d5 (by rw [sU_j (by decide), sU_j (by decide)]) (by rw [sU_j (by decide), sU_j (by decide)]) (by rw [sU_j (by decide), sU_j (by decide)]), mFt_up d6 (by rw [sU_j (by decide), sU_j (by decide)]) (by rw [sU_j (by decide), sU_j (by decide)]), by rw [sU_j (by decide), sU_j (by decide)]; exact d7, by rw [sU_j (by decide), sU_j (by decide)]; exact d8, by rw [sU_j (by decide), sU_j (by decide)]; exact d9⟩
          unfold zxl
          by_cases ci : i = k
          · subst ci
            rw [if_pos rfl]
            refine ⟨sU_hit, ztn, fun j hj => ?_⟩
            rw [sU_j (by decide)]
            have hj : j < (X i).1 + 1 := hj
            show _ = zI (if j < (X i).1 then (X i).2 j else ch)
            by_cases cj : j < (X i).1
            · rw [if_pos cj, sU_k (by omega)]; exact m3 j cj
            · rw [if_neg cj, show j = (X i).1 by omega, sU_hit]
          · rw [if_neg ci]
            obtain ⟨n1, n2, n3⟩ := d3 i hi
            have hni := n2.1
            refine ⟨by rw [sU_k ci, sU_j (by decide)]; exact n1, n2, fun j hj => ?_⟩
            rw [sU_j (by decide), sU_k (by omega)]; exact n3 j hj
        refine ⟨.inl (zI ((X k).1 + 1)), g1, sU v1 7 k (zI T), zI ((X k).1 + 1), _, ?_, ?_, ⟨?_, rfl⟩, S, zxl X k ch, N, op, ar, O, E, st, er, rm, hA, hC', hW'⟩
        · rw [hB, f_B_letter_26, b_req1]
          refine mg_s (bo_l ?_ l3.L) l3.L
          rw [f_B_letter_29, gd_I (by omega) (by omega), zI_toNat (by omega), ea, c_lenX c1 hx, bi_s, ite_p q12, if_neg cl, gd_I (by omega) (by omega), ea, l1]
          refine bo_l ?_ (Nat.le_refl _)
          have hM2 : zM g1 (sU v1 7 k (zI T)) (T + (4 + ((X k).1 + 1))) := zM_w l2 (sU_j (by decide)) (fun i _ => by rw [j4])
          rw [f_B_letter_76, gd_I (by omega) (by omega), zI_toNat (by omega), nm_s, gd_I (by omega) (by omega), sU_hit, c_lenX (x := ((X k).1 + 1, fun j => if j < (X k).1 then (X k).2 j else ch)) hM2 (by rw [j4]; exact l4), bi_s]
        · have hz1 : sU (sU w 0 0 0) 1 (12 * k + (X k).1) (zI ch) 2 k = zI (X k).1 := by rw [sU_j (by decide)]; exact m1
          rw [f_M_letter, nm_s, w1, bi_s, if_neg n1, w2, bi_s, if_neg n1, gd_I (by omega) (by omega), zI_toNat (by omega), m1, ite_p q12, if_neg cl, gd_I (by omega) (by omega), e12, gd_I (by omega) (by omega), zI_toNat (by omega), nm_s, gd_I (by omega) (by omega), gd_I (by omega) (by omega), hz1, e1, nm_s, gd_I (by omega) (by omega), sU_hit]
        · rw [sU_j (by decide), sU_j (by decide), sU_hit]
  · refine bad _ ?_ ?_
    · rw [f_B_letter, b1, bi_s, if_pos rfl, b25]
      exact mg_s rfl (Nat.le_refl _)
    · rw [f_M_letter, nm_s, w1, bi_s, if_pos rfl]
end SA
