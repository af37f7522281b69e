/-! pure theory, 1: numbers of 32 bits as natural numbers and as integers -/
def zI (n : Nat) : Int32 := Int32.ofNat n
def zJ (n : Int) : Int32 := Int32.ofInt n
theorem zI_of (n : Nat) : Int32.ofNat n = zI n := rfl
theorem zI_J (n : Nat) : zI n = zJ (n : Int) := Int32.ofInt_eq_ofNat.symm
theorem zI_toNat {n : Nat} (h : n < 2147483648) : (zI n).toNatClampNeg = n := Int32.toNatClampNeg_ofNat_of_lt h
theorem zI_toInt {n : Nat} (h : n < 2147483648) : (zI n).toInt = n := Int32.toInt_ofNat_of_lt h
theorem zJ_toInt {n : Int} (h : -2147483648 ≤ n) (h2 : n < 2147483648) : (zJ n).toInt = n := Int32.toInt_ofInt_of_le h h2
theorem zJ_of (x : Int32) : zJ x.toInt = x := Int32.ofInt_toInt x
theorem zI_le {a b : Nat} (ha : a < 2147483648) (hb : b < 2147483648) : (zI a ≤ zI b) = (a ≤ b) := by
  rw [Int32.le_iff_toInt_le, zI_toInt ha, zI_toInt hb]; simp
theorem zI_lt {a b : Nat} (ha : a < 2147483648) (hb : b < 2147483648) : (zI a < zI b) = (a < b) := by
  rw [Int32.lt_iff_toInt_lt, zI_toInt ha, zI_toInt hb]; simp
theorem zI_eq {a b : Nat} (ha : a < 2147483648) (hb : b < 2147483648) : (zI a = zI b) = (a = b) := by
  rw [← Int32.toInt_inj, zI_toInt ha, zI_toInt hb]; exact propext ⟨fun h => by omega, fun h => by omega⟩
theorem zJ_le {a b : Int} (ha : -2147483648 ≤ a) (ha2 : a < 2147483648) (hb : -2147483648 ≤ b) (hb2 : b < 2147483648) : (zJ a ≤ zJ b) = (a ≤ b) := by
  rw [Int32.le_iff_toInt_le, zJ_toInt ha ha2, zJ_toInt hb hb2]
theorem zJ_lt {a b : Int} (ha : -2147483648 ≤ a) (ha2 : a < 2147483648) (hb : -2147483648 ≤ b) (hb2 : b < 2147483648) : (zJ a < zJ b) = (a < b) := by
  rw [Int32.lt_iff_toInt_lt, zJ_toInt ha ha2, zJ_toInt hb hb2]
theorem zJ_eq {a b : Int} (ha : -2147483648 ≤ a) (ha2 : a < 2147483648) (hb : -2147483648 ≤ b) (hb2 : b < 2147483648) : (zJ a = zJ b) = (a = b) := by
  rw [← Int32.toInt_inj, zJ_toInt ha ha2, zJ_toInt hb hb2]
theorem zI_add (a b : Nat) : zI a + zI b = zI (a + b) := (Int32.ofNat_add a b).symm
theorem zI_mul (a b : Nat) : zI a * zI b = zI (a * b) := (Int32.ofNat_mul a b).symm
theorem zI_sub {a b : Nat} (h : b ≤ a) : zI a - zI b = zI (a - b) := (Int32.ofNat_sub a b h).symm
theorem zJ_add (a b : Int) : zJ a + zJ b = zJ (a + b) := (Int32.ofInt_add a b).symm
theorem zJ_sub (a b : Int) : zJ a - zJ b = zJ (a - b) := by
  apply Int32.toInt_inj.1
  rw [Int32.toInt_sub]
  simp [zJ]
theorem zI_dec {a : Nat} (h : 1 ≤ a) : zI a + (-1) = zI (a - 1) := by
  have e : (-1 : Int32) = zJ (-1) := rfl
  rw [e, zI_J, zJ_add, zI_J]
  congr 1
  omega
theorem zI_inB {n m : Nat} (h : n < 2147483648) : inB (zI n) m = decide (n < m) := by
  have h0 : (0 : Int32) ≤ zI n := by
    have : (0 : Int32) = zI 0 := rfl
    rw [this, zI_le (by omega) h]; omega
  simp [inB, h0, zI_toNat h]
theorem gd_t {α : Type} {b : Bool} {x : Option α} (h : b = true) : gd b x = x := by subst h; rfl
theorem gd_I {α : Type} {n m : Nat} {x : Option α} (h : n < m) (hm : m ≤ 2147483648) : gd (inB (zI n) m) x = x := gd_t (by rw [zI_inB (by omega)]; simpa using h)
theorem bi_s {α β γ : Type} {a : α} {b : β} {f : α → β → Option γ} : bi (some (a, b)) f = f a b := rfl
theorem bv_s {β γ : Type} {b : β} {f : β → Option γ} : bv (some b) f = f b := rfl
theorem nm_s {α β : Type} {a : α} {f : α → β} : nm a f = f a := rfl
theorem bi_e {α β γ : Type} {x : Option (α × β)} {a : α} {b : β} {f : α → β → Option γ} (h : x = some (a, b)) : bi x f = f a b := by rw [h]; rfl
theorem bv_e {β γ : Type} {x : Option β} {b : β} {f : β → Option γ} (h : x = some b) : bv x f = f b := by rw [h]; rfl
theorem bo_r {α β : Type} {k : Nat} {pp : bP} {f : α → (Nat → Nat) → mS → Option (bO β)} : bo (some (.inr k, pp)) f = some (.inr k, pp) := rfl
theorem bo_l {α β : Type} {r : α} {g : Nat → Nat} {v : mS} {f : α → (Nat → Nat) → mS → Option (bO β)} {o : bO β} (h : f r g v = some o) (hg : gL g ≤ gL o.2.1) : bo (some (.inl r, g, v)) f = some o := by
  unfold bo
  dsimp only
  rw [h]
  dsimp only
  rw [if_pos hg]
theorem mg_s {α : Type} {g : Nat → Nat} {x : Option (bO α)} {o : bO α} (h : x = some o) (hg : gL g ≤ gL o.2.1) : mg g x = some o := by
  rw [h]; unfold mg; dsimp only; rw [if_pos hg]
theorem sU_hit {v : mS} {j k : Nat} {x : Int32} : sU v j k x j k = x := by simp [sU, upd]
theorem sU_j {v : mS} {j k a : Nat} {x : Int32} (h : a ≠ j) : sU v j k x a = v a := by simp [sU, h]
theorem sU_k {v : mS} {j k b : Nat} {x : Int32} (h : b ≠ k) : sU v j k x j b = v j b := by simp [sU, upd, h]
theorem sU_at {v : mS} {j k a b : Nat} {x : Int32} : sU v j k x a b = if a = j ∧ b = k then x else v a b := by
  by_cases ha : a = j
  · subst ha
    by_cases hb : b = k
    · subst hb; simp [sU_hit]
    · simp [hb, sU_k hb]
  · simp [ha, sU_j ha]
theorem sC_j {v : mS} {j0 j1 sp dp n a : Nat} (h : a ≠ j1) : sC v j0 j1 sp dp n a = v a := by simp [sC, h]
theorem sC_in {v : mS} {j0 j1 sp dp n b : Nat} (h : dp ≤ b) (h2 : b < dp + n) : sC v j0 j1 sp dp n j1 b = v j0 (sp + (b - dp)) := by simp [sC, va_cpy, h, h2]
theorem sC_out {v : mS} {j0 j1 sp dp n b : Nat} (h : b < dp ∨ dp + n ≤ b) : sC v j0 j1 sp dp n j1 b = v j1 b := by
  have : ¬ (dp ≤ b ∧ b < dp + n) := by omega
  simp [sC, va_cpy, this]
theorem cpB_I {a b n l0 l1 : Nat} (h0 : a + n ≤ l0) (h1 : b + n ≤ l1) (hl0 : l0 ≤ 2147483647) (hl1 : l1 ≤ 2147483647) : cpB (zI a) (zI b) (zI n) l0 l1 = true := by
  have z : (0 : Int32) = zI 0 := rfl
  simp only [cpB, z, Bool.and_eq_true, decide_eq_true_eq]
  rw [zI_le (by omega) (by omega), zI_le (by omega) (by omega), zI_le (by omega) (by omega), zI_toNat (by omega), zI_toNat (by omega), zI_toNat (by omega)]
  omega
theorem fu_lt {m : Nat} (h : m < 1000000) : m < fu := h
theorem suc_of {m n : Nat} (h : m < n) : ∃ k, n = k + 1 ∧ m ≤ k := ⟨n - 1, by omega, by omega⟩

theorem zl_0 : (0 : Int32) = zI 0 := rfl
theorem zl_1 : (1 : Int32) = zI 1 := rfl
theorem zl_2 : (2 : Int32) = zI 2 := rfl
theorem zl_3 : (3 : Int32) = zI 3 := rfl
theorem zl_4 : (4 : Int32) = zI 4 := rfl
theorem zl_5 : (5 : Int32) = zI 5 := rfl
theorem zl_6 : (6 : Int32) = zI 6 := rfl
theorem zl_7 : (7 : Int32) = zI 7 := rfl
theorem zl_8 : (8 : Int32) = zI 8 := rfl
theorem zl_9 : (9 : Int32) = zI 9 := rfl
theorem zl_10 : (10 : Int32) = zI 10 := rfl
theorem zl_11 : (11 : Int32) = zI 11 := rfl
theorem zl_12 : (12 : Int32) = zI 12 := rfl
theorem zl_13 : (13 : Int32) = zI 13 := rfl
theorem zl_14 : (14 : Int32) = zI 14 := rfl
theorem zl_15 : (15 : Int32) = zI 15 := rfl
theorem zl_16 : (16 : Int32) = zI 16 := rfl
theorem zl_17 : (17 : Int32) = zI 17 := rfl
theorem zl_18 : (18 : Int32) = zI 18 := rfl
theorem zl_19 : (19 : Int32) = zI 19 := rfl
theorem zl_20 : (20 : Int32) = zI 20 := rfl
theorem zl_21 : (21 : Int32) = zI 21 := rfl
theorem zl_22 : (22 : Int32) = zI 22 := rfl
theorem zl_23 : (23 : Int32) = zI 23 := rfl
theorem zl_24 : (24 : Int32) = zI 24 := rfl
theorem zl_25 : (25 : Int32) = zI 25 := rfl
theorem zl_26 : (26 : Int32) = zI 26 := rfl
theorem zl_27 : (27 : Int32) = zI 27 := rfl
theorem zl_28 : (28 : Int32) = zI 28 := rfl
theorem zl_29 : (29 : Int32) = zI 29 := rfl
theorem zl_30 : (30 : Int32) = zI 30 := rfl
theorem zl_31 : (31 : Int32) = zI 31 := rfl
theorem zl_32 : (32 : Int32) = zI 32 := rfl
theorem zl_33 : (33 : Int32) = zI 33 := rfl
theorem zl_34 : (34 : Int32) = zI 34 := rfl
theorem zl_35 : (35 : Int32) = zI 35 := rfl
theorem zl_36 : (36 : Int32) = zI 36 := rfl
theorem zl_37 : (37 : Int32) = zI 37 := rfl
theorem zl_38 : (38 : Int32) = zI 38 := rfl
theorem zl_39 : (39 : Int32) = zI 39 := rfl
theorem zl_62 : (62 : Int32) = zI 62 := rfl
theorem zl_118 : (118 : Int32) = zI 118 := rfl
theorem zl_126 : (126 : Int32) = zI 126 := rfl
theorem zl_150 : (150 : Int32) = zI 150 := rfl
theorem zl_m1 : (-1 : Int32) = zJ (-1) := rfl
theorem zl_m2 : (-2 : Int32) = zJ (-2) := rfl
theorem ite_p {P Q : Prop} {dP : Decidable P} [dQ : Decidable Q] {α : Type} {x y : α} (h : P = Q) : @ite α P dP x y = @ite α Q dQ x y := by
  subst h
  congr
theorem iI_le {a b : Nat} {α : Type} {x y : α} {d1 : Decidable (zI a ≤ zI b)} (ha : a < 2147483648) (hb : b < 2147483648) : @ite α (zI a ≤ zI b) d1 x y = if a ≤ b then x else y := ite_p (zI_le ha hb)
theorem iI_lt {a b : Nat} {α : Type} {x y : α} {d1 : Decidable (zI a < zI b)} (ha : a < 2147483648) (hb : b < 2147483648) : @ite α (zI a < zI b) d1 x y = if a < b then x else y := ite_p (zI_lt ha hb)
theorem iI_eq {a b : Nat} {α : Type} {x y : α} {d1 : Decidable (zI a = zI b)} (ha : a < 2147483648) (hb : b < 2147483648) : @ite α (zI a = zI b) d1 x y = if a = b then x else y := ite_p (zI_eq ha hb)
theorem iJ_le {a b : Int} {α : Type} {x y : α} {d1 : Decidable (zJ a ≤ zJ b)} (ha : -2147483648 ≤ a) (ha2 : a < 2147483648) (hb : -2147483648 ≤ b) (hb2 : b < 2147483648) : @ite α (zJ a ≤ zJ b) d1 x y = if a ≤ b then x else y := ite_p (zJ_le ha ha2 hb hb2)
theorem iJ_lt {a b : Int} {α : Type} {x y : α} {d1 : Decidable (zJ a < zJ b)} (ha : -2147483648 ≤ a) (ha2 : a < 2147483648) (hb : -2147483648 ≤ b) (hb2 : b < 2147483648) : @ite α (zJ a < zJ b) d1 x y = if a < b then x else y := ite_p (zJ_lt ha ha2 hb hb2)
theorem iJ_eq {a b : Int} {α : Type} {x y : α} {d1 : Decidable (zJ a = zJ b)} (ha : -2147483648 ≤ a) (ha2 : a < 2147483648) (hb : -2147483648 ≤ b) (hb2 : b < 2147483648) : @ite α (zJ a = zJ b) d1 x y = if a = b then x else y := ite_p (zJ_eq ha ha2 hb hb2)
theorem zJ_0 : (0 : Int32) = zJ 0 := rfl
theorem iJ_eq0 {a : Int} {α : Type} {x y : α} {d1 : Decidable (zJ a = 0)} (ha : -2147483648 ≤ a) (ha2 : a < 2147483648) : @ite α (zJ a = 0) d1 x y = if a = 0 then x else y := ite_p (by rw [zJ_0, zJ_eq ha ha2 (by omega) (by omega)])
theorem iJ_le0 {a : Int} {α : Type} {x y : α} {d1 : Decidable (zJ a ≤ 0)} (ha : -2147483648 ≤ a) (ha2 : a < 2147483648) : @ite α (zJ a ≤ 0) d1 x y = if a ≤ 0 then x else y := ite_p (by rw [zJ_0, zJ_le ha ha2 (by omega) (by omega)])
theorem iJ_0le {a : Int} {α : Type} {x y : α} {d1 : Decidable (0 ≤ zJ a)} (ha : -2147483648 ≤ a) (ha2 : a < 2147483648) : @ite α (0 ≤ zJ a) d1 x y = if 0 ≤ a then x else y := ite_p (by rw [zJ_0, zJ_le (by omega) (by omega) ha ha2])
theorem iJ_0lt {a : Int} {α : Type} {x y : α} {d1 : Decidable (0 < zJ a)} (ha : -2147483648 ≤ a) (ha2 : a < 2147483648) : @ite α (0 < zJ a) d1 x y = if 0 < a then x else y := ite_p (by rw [zJ_0, zJ_lt (by omega) (by omega) ha ha2])
theorem iJ_lt0 {a : Int} {α : Type} {x y : α} {d1 : Decidable (zJ a < 0)} (ha : -2147483648 ≤ a) (ha2 : a < 2147483648) : @ite α (zJ a < 0) d1 x y = if a < 0 then x else y := ite_p (by rw [zJ_0, zJ_lt ha ha2 (by omega) (by omega)])
