/-! pure theory, 3: numbers of 64 bits; stripping zeros -/
def zK (n : Int) : Int64 := Int64.ofInt n
theorem zK_toInt {n : Int} (h : -9223372036854775808 ≤ n) (h2 : n < 9223372036854775808) : (zK n).toInt = n := Int64.toInt_ofInt_of_le h h2
theorem zK_add (a b : Int) : zK a + zK b = zK (a + b) := (Int64.ofInt_add a b).symm
theorem zK_sub (a b : Int) : zK a - zK b = zK (a - b) := (Int64.ofInt_sub a b).symm
theorem zK_mul (a b : Int) : zK a * zK b = zK (a * b) := (Int64.ofInt_mul a b).symm
theorem zK_div {a b : Int} (h : -9223372036854775808 ≤ a) (h2 : a < 9223372036854775808) (h3 : -9223372036854775808 ≤ b) (h4 : b < 9223372036854775808) : zK a / zK b = zK (a.tdiv b) := by
  apply Int64.toInt_inj.1
  rw [Int64.toInt_div, zK_toInt h h2, zK_toInt h3 h4]
  simp [zK, Int64.toInt_ofInt, Int64.size]
theorem zK_mod {a b : Int} (h : -9223372036854775808 ≤ a) (h2 : a < 9223372036854775808) (h3 : -9223372036854775808 ≤ b) (h4 : b < 9223372036854775808) (h5 : -9223372036854775808 ≤ a.tmod b) (h6 : a.tmod b < 9223372036854775808) : zK a % zK b = zK (a.tmod b) := by
  apply Int64.toInt_inj.1
  rw [Int64.toInt_mod, zK_toInt h h2, zK_toInt h3 h4, zK_toInt h5 h6]
theorem zK_cmp {a b : Int} (h : -9223372036854775808 ≤ a) (h2 : a < 9223372036854775808) (h3 : -9223372036854775808 ≤ b) (h4 : b < 9223372036854775808) : lg_cmp (zK a) (zK b) = zJ (zsg (a - b)) := by
  have e1 : (zK a > zK b) = (b < a) := by
    show (zK b < zK a) = _
    rw [Int64.lt_iff_toInt_lt, zK_toInt h h2, zK_toInt h3 h4]
  have e2 : (zK a = zK b) = (a = b) := by
    rw [← Int64.toInt_inj, zK_toInt h h2, zK_toInt h3 h4]
  unfold lg_cmp zsg
  simp only [e1, e2]
  by_cases c1 : b < a
  · rw [if_pos c1, if_neg (by omega), if_pos (by omega)]; rfl
  · rw [if_neg c1]
    by_cases c2 : a = b
    · rw [if_pos c2, if_neg (by omega), if_neg (by omega)]; rfl
    · rw [if_neg c2, if_pos (by omega)]; rfl
theorem zJ_64 {a : Int} (h : -2147483648 ≤ a) (h2 : a < 2147483648) : (zJ a).toInt64 = zK a := by
  apply Int64.toInt_inj.1
  rw [Int32.toInt_toInt64, zJ_toInt h h2, zK_toInt (by omega) (by omega)]
theorem zI_64 {a : Nat} (h : a < 2147483648) : (zI a).toInt64 = zK a := by
  rw [zI_J, zJ_64 (by omega) (by omega)]
theorem zK_32 (a : Int) : (zK a).toInt32 = zJ a := Int64.toInt32_ofInt
theorem zJ_div {a b : Int} (h : -2147483648 ≤ a) (h2 : a < 2147483648) (h3 : -2147483648 ≤ b) (h4 : b < 2147483648) : zJ a / zJ b = zJ (a.tdiv b) := by
  apply Int32.toInt_inj.1
  rw [Int32.toInt_div, zJ_toInt h h2, zJ_toInt h3 h4]
  simp [zJ, Int32.toInt_ofInt, Int32.size]
theorem zJ_mul (a b : Int) : zJ a * zJ b = zJ (a * b) := (Int32.ofInt_mul a b).symm
theorem zkl_10 : (10 : Int64) = zK 10 := rfl
theorem zkl_0 : (0 : Int64) = zK 0 := rfl
theorem zkl_1 : (1 : Int64) = zK 1 := rfl
theorem zkl_9 : (999999999 : Int64) = zK 999999999 := rfl
theorem zkl_m9 : (-999999999 : Int64) = zK (-999999999) := rfl
theorem zkl_6 : (1000000 : Int64) = zK 1000000 := rfl
theorem zkl_3 : (1000 : Int64) = zK 1000 := rfl
theorem zsg_0 (d : Int) : (zsg d = 0) = (d = 0) := by
  unfold zsg
  by_cases h : d < 0
  · rw [if_pos h]; simp; omega
  · rw [if_neg h]
    by_cases h2 : 0 < d
    · rw [if_pos h2]; simp; omega
    · rw [if_neg h2]; simp; omega
theorem zsg_pos (d : Int) : (0 < zsg d) = (0 < d) := by
  unfold zsg
  by_cases h : d < 0
  · rw [if_pos h]; simp; omega
  · rw [if_neg h]
    by_cases h2 : 0 < d
    · rw [if_pos h2]; simp [h2]
    · rw [if_neg h2]; simp; omega
theorem zsg_nn (d : Int) : (0 ≤ zsg d) = (0 ≤ d) := by
  unfold zsg
  by_cases h : d < 0
  · rw [if_pos h]; simp; omega
  · rw [if_neg h]
    by_cases h2 : 0 < d
    · rw [if_pos h2]; simp; omega
    · rw [if_neg h2]; simp; omega
theorem zsg_np (d : Int) : (zsg d ≤ 0) = (d ≤ 0) := by
  unfold zsg
  by_cases h : d < 0
  · rw [if_pos h]; simp; omega
  · rw [if_neg h]
    by_cases h2 : 0 < d
    · rw [if_pos h2]; simp; omega
    · rw [if_neg h2]; simp; omega
theorem zsg_b (d : Int) : -1 ≤ zsg d ∧ zsg d ≤ 1 := by rcases zsg_r d with h | h | h <;> omega
theorem zred_s : ∀ (s : Nat) (m : Int), (zred s m).2 ≤ s := by
  intro s
  induction s with
  | zero => intro m; exact Nat.le_refl _
  | succ s ih =>
    intro m
    simp only [zred]
    split
    · have := ih (m / 10); omega
    · exact Nat.le_refl _
theorem zred_eq : ∀ (s : Nat) (m : Int), (zred s m).1 * 10 ^ (s - (zred s m).2) = m := by
  intro s
  induction s with
  | zero => intro m; simp [zred]
  | succ s ih =>
    intro m
    simp only [zred]
    by_cases h : m % 10 = 0
    · rw [if_pos h]
      have h1 := ih (m / 10)
      have h2 := zred_s s (m / 10)
      rw [show s + 1 - (zred s (m / 10)).2 = (s - (zred s (m / 10)).2) + 1 by omega, Int.pow_succ, ← Int.mul_assoc, h1]
      omega
    · rw [if_neg h]; simp
theorem zred_ir : ∀ (s : Nat) (m : Int), (zred s m).2 = 0 ∨ (zred s m).1 % 10 ≠ 0 := by
  intro s
  induction s with
  | zero => intro m; exact Or.inl rfl
  | succ s ih =>
    intro m
    simp only [zred]
    by_cases h : m % 10 = 0
    · rw [if_pos h]; exact ih _
    · rw [if_neg h]; exact Or.inr h
theorem zred_of : ∀ (s : Nat) (M : Int) (S : Nat), S ≤ s → (S = 0 ∨ M % 10 ≠ 0) → zred s (M * 10 ^ (s - S)) = (M, S) := by
  intro s
  induction s with
  | zero =>
    intro M S hS _
    have : S = 0 := by omega
    subst this
    simp [zred]
  | succ s ih =>
    intro M S hS hir
    by_cases hs : S = s + 1
    · subst hs
      have : M % 10 ≠ 0 := by rcases hir with h | h <;> first | omega | exact h
      simp [zred, this]
    · rw [show s + 1 - S = (s - S) + 1 by omega, Int.pow_succ, ← Int.mul_assoc]
      simp only [zred]
      rw [if_pos (by omega), show M * 10 ^ (s - S) * 10 / 10 = M * 10 ^ (s - S) by omega]
      exact ih M S (by omega) hir
theorem zred_up {s : Nat} {w : Int} (h : (zred s w).2 ≤ 6) : zred 6 ((zred s w).1 * 10 ^ (6 - (zred s w).2)) = zred s w := zred_of 6 _ _ h (zred_ir s w)
theorem zred_36 (w : Int) : zred 6 (w * 1000) = zred 3 w := by
  have h := zred_up (s := 3) (w := w) (by have := zred_s 3 w; omega)
  have h2 := zred_eq 3 w
  have h3 := zred_s 3 w
  rw [← h]
  congr 1
  rw [show 6 - (zred 3 w).2 = (3 - (zred 3 w).2) + 3 by omega, Int.pow_add, ← Int.mul_assoc, h2]
  rfl
theorem zred_06 (w : Int) : zred 6 (w * 1000000) = (w, 0) := by
  have := zred_of 6 w 0 (by omega) (Or.inl rfl)
  simpa using this
theorem zred_b : ∀ (s : Nat) (m B : Int), 0 ≤ B → -B ≤ m → m ≤ B → -B ≤ (zred s m).1 ∧ (zred s m).1 ≤ B := by
  intro s
  induction s with
  | zero => intro m B _ h1 h2; exact ⟨h1, h2⟩
  | succ s ih =>
    intro m B h0 h1 h2
    simp only [zred]
    split
    · exact ih _ B h0 (by omega) (by omega)
    · exact ⟨h1, h2⟩
theorem p10_le {k : Nat} (h : k ≤ 6) : (1 : Int) ≤ 10 ^ k ∧ (10 : Int) ^ k ≤ 1000000 := by
  have : k = 0 ∨ k = 1 ∨ k = 2 ∨ k = 3 ∨ k = 4 ∨ k = 5 ∨ k = 6 := by omega
  rcases this with h | h | h | h | h | h | h <;> subst h <;> decide
/-- what a number in its limits is -/
theorem zok_b {m : Int} (h : zokN m) : -999999999000000 ≤ m ∧ m ≤ 999999999000000 := by
  have e := zred_eq 6 m
  have hp := p10_le (show 6 - (zred 6 m).2 ≤ 6 by omega)
  obtain ⟨h1, h2⟩ := h
  generalize (zred 6 m).1 = M at *
  generalize (10 : Int) ^ (6 - (zred 6 m).2) = P at *
  subst e
  constructor
  · have : -999999999 * P ≤ M * P := Int.mul_le_mul_of_nonneg_right h1 (by omega)
    omega
  · have : M * P ≤ 999999999 * P := Int.mul_le_mul_of_nonneg_right h2 (by omega)
    omega
theorem zok_tdiv (m : Int) : (zred 6 m).1.tdiv (10 ^ (zred 6 m).2) = m.tdiv 1000000 := by
  have e := zred_eq 6 m
  have hs := zred_s 6 m
  have hp := p10_le (show 6 - (zred 6 m).2 ≤ 6 by omega)
  have h6 : (1000000 : Int) = 10 ^ (6 - (zred 6 m).2) * 10 ^ (zred 6 m).2 := by
    rw [← Int.pow_add, show 6 - (zred 6 m).2 + (zred 6 m).2 = 6 by omega]; rfl
  conv => rhs; rw [← e, h6, Int.mul_comm (zred 6 m).1]
  rw [Int.mul_tdiv_mul_of_pos _ _ (by omega)]
theorem zok_div (m : Int) : (zred 6 m).1 / (10 ^ (zred 6 m).2) = m / 1000000 := by
  have e := zred_eq 6 m
  have hs := zred_s 6 m
  have hp := p10_le (show 6 - (zred 6 m).2 ≤ 6 by omega)
  have h6 : (1000000 : Int) = 10 ^ (6 - (zred 6 m).2) * 10 ^ (zred 6 m).2 := by
    rw [← Int.pow_add, show 6 - (zred 6 m).2 + (zred 6 m).2 = 6 by omega]; rfl
  conv => rhs; rw [← e, h6, Int.mul_comm (zred 6 m).1]
  rw [Int.mul_ediv_mul_of_pos _ _ (by omega)]
theorem zrem10 (m : Int) : (m - m.tdiv 10 * 10 = 0) = (m % 10 = 0) := by
  have e : m - m.tdiv 10 * 10 = m.tmod 10 := by rw [Int.tmod_def]; omega
  rw [e, ← Int.dvd_iff_tmod_eq_zero]
  simp [Int.dvd_iff_emod_eq_zero]
theorem ztdiv10 {m : Int} (h : m % 10 = 0) : m.tdiv 10 = m / 10 := Int.tdiv_eq_ediv_of_dvd (Int.dvd_of_emod_eq_zero h)
theorem zfloor_q {x b : Int} (hb : 0 < b) : (if 0 ≤ x then x.tdiv b else if x.tdiv b * b = x then x.tdiv b else x.tdiv b - 1) = x / b := by
  have hs : b.sign = 1 := Int.sign_eq_one_of_pos hb
  have e := Int.tdiv_eq_ediv (a := x) (b := b)
  by_cases h0 : 0 ≤ x
  · rw [if_pos (Or.inl h0), Int.add_zero] at e
    rw [if_pos h0, e]
  · rw [if_neg h0]
    by_cases hd : b ∣ x
    · rw [if_pos (Or.inr hd), Int.add_zero] at e
      have : x / b * b = x := Int.ediv_mul_cancel hd
      rw [e, if_pos this]
    · have hn : ¬ (0 ≤ x ∨ b ∣ x) := fun h => h.elim h0 hd
      rw [if_neg hn, hs] at e
      have : ¬ (x / b + 1) * b = x := fun h => hd ⟨x / b + 1, by rw [Int.mul_comm]; exact h.symm⟩
      rw [e, if_neg this]; omega
theorem zxor_nn {a b : Int} (h : -2147483648 ≤ a) (h2 : a < 2147483648) (h3 : 0 ≤ b) (h4 : b < 2147483648) : (0 ≤ (zJ a ^^^ zJ b)) = (0 ≤ a) := by
  have key : ∀ x : Int32, (0 ≤ x) = (x.toBitVec.msb = false) := by
    intro x
    rw [Int32.le_iff_toInt_le, BitVec.msb_eq_toInt]
    show (0 ≤ x.toBitVec.toInt) = _
    simp
  rw [key, Int32.toBitVec_xor, BitVec.msb_xor, BitVec.msb_eq_toInt, BitVec.msb_eq_toInt]
  have e1 : (zJ a).toBitVec.toInt = a := zJ_toInt h h2
  have e2 : (zJ b).toBitVec.toInt = b := zJ_toInt (by omega) h4
  rw [e1, e2]
  have : decide (b < 0) = false := by simp; omega
  rw [this]
  simp
theorem ztm_le (x b : Int) : (x.tmod b).natAbs ≤ x.natAbs := by rw [Int.natAbs_tmod]; exact Nat.mod_le _ _
theorem zrem_b (w : Int) : -10 ≤ w - w.tdiv 10 * 10 ∧ w - w.tdiv 10 * 10 ≤ 10 := by
  have e : w - w.tdiv 10 * 10 = w.tmod 10 := by rw [Int.tmod_def]; omega
  rw [e]
  have h : (w.tmod 10).natAbs = w.natAbs % 10 := Int.natAbs_tmod w 10
  have : w.natAbs % 10 < 10 := Nat.mod_lt _ (by omega)
  omega
theorem zrem6_b (w : Int) : -1000000 ≤ w - w.tdiv 1000000 * 1000000 ∧ w - w.tdiv 1000000 * 1000000 ≤ 1000000 := by
  have e : w - w.tdiv 1000000 * 1000000 = w.tmod 1000000 := by rw [Int.tmod_def]; omega
  rw [e]
  have h : (w.tmod 1000000).natAbs = w.natAbs % 1000000 := Int.natAbs_tmod w 1000000
  have : w.natAbs % 1000000 < 1000000 := Nat.mod_lt _ (by omega)
  omega
