/-! the class's world: 62 regions. 0 the bench; 1 its Values, 2 items, 3 names, 4 cells, 5 before; 6 slots; 7 strings; 8 filters; 9 + 4 i filter i, then its ops, choices, ends; 25 the Runner, 26 variables, 27 rows; 28 + 2 r Row r (16: the bench's own), 29 + 2 r its items.
    u = (addresses, (lengths of 4 and 5; at 25 which filter the Runner holds), numbers) -/
abbrev bS : Type := (Nat → Nat) × (Nat → Nat) × (Nat → Nat → Int32)
abbrev bZ : Type := va_G × ClassId × ClassId × ClassId × (Nat → Nat) × Nat
def bU (u : bS) (j k : Nat) (x : Int32) : bS := (u.1, u.2.1, sU u.2.2 j k x)
def bn_k (j : Nat) : Nat := if j = 0 then 0 else if j = 1 then 4 else if j = 8 then 10 else if j = 25 then 3 else if j = 27 then 11 else if j < 9 then 9 else if j < 25 then (if j % 4 = 1 then 1 else 9) else if j = 26 then 9 else if j % 2 = 0 then 2 else 9
def bn_tt (k0 j f k : Nat) : Option Nat := match k0, k with
  | 0, 0 => some 1
  | 0, 1 => some 6
  | 0, 2 => some 7
  | 0, 3 => some 8
  | 0, 4 => some 25
  | 0, 5 => some 60
  | 4, 0 => some 2
  | 4, 1 => some 3
  | 4, 2 => some 4
  | 4, 3 => some 5
  | 1, 0 => some (j + 1)
  | 1, 1 => some (j + 2)
  | 1, 2 => some (j + 3)
  | 2, 0 => some (j + 1)
  | 3, 0 => some 1
  | 3, 1 => some 7
  | 3, 2 => some 26
  | 3, 3 => some 27
  | 3, 4 => some (9 + 4 * f)
  | _, _ => none
def bn_nf : Nat → Nat
  | 0 => 11
  | 1 => 4
  | 2 => 3
  | 3 => 6
  | 4 => 5
  | _ => 0
def bn_len (u : bS) (j : Nat) : Nat := if j = 4 then u.2.1 4 else if j = 5 then u.2.1 5 else if j = 2 then 24 else if j = 3 then 12 else if j < 9 then 8 else if j < 25 then 32 else if j = 26 then 4 else 16
def bn_fv (u : bS) (j k : Nat) : Value := match bn_tt (bn_k j) j (u.2.1 25) k with
  | some t => .ref (u.1 t)
  | none => .int (u.2.2 j k)
def bn_fs (u : bS) (j : Nat) : List Value := (List.range (bn_nf (bn_k j))).map (bn_fv u j)
def bn_e (Z : bZ) (u : bS) (j : Nat) : va_E := if bn_k j = 9 then .inl (Z.2.1, (bn_len u j, .inl (u.2.2 j))) else if bn_k j = 10 then .inl (Z.2.2.1, (4, .inr (.inr (.inr (.inr (fun k => some (u.1 (9 + 4 * k)))))))) else if bn_k j = 11 then .inl (Z.2.2.2.1, (16, .inr (.inr (.inr (.inr (fun k => some (u.1 (28 + 2 * k)))))))) else .inr (bn_k j, bn_fs u j)
def bn_ws (Z : bZ) (u : bS) : va_W := (List.range 62).map (fun j => (u.1 j, bn_e Z u j))
def rowB (j : Nat) : Bool := decide (28 ≤ j ∧ j < 62 ∧ j % 2 = 0)
def filB (j : Nat) : Bool := decide (9 ≤ j ∧ j < 25 ∧ j % 4 = 1)
def intB (j : Nat) : Bool := decide (j < 62 ∧ bn_k j = 9)
theorem rowB_k {j : Nat} (h : rowB j = true) : j < 62 ∧ bn_k j = 2 := by
  simp only [rowB, decide_eq_true_eq] at h
  refine ⟨h.2.1, ?_⟩
  unfold bn_k
  rw [if_neg (by omega), if_neg (by omega), if_neg (by omega), if_neg (by omega), if_neg (by omega), if_neg (by omega), if_neg (by omega), if_neg (by omega), if_pos h.2.2]
theorem filB_k {j : Nat} (h : filB j = true) : j < 62 ∧ bn_k j = 1 := by
  simp only [filB, decide_eq_true_eq] at h
  refine ⟨by omega, ?_⟩
  unfold bn_k
  rw [if_neg (by omega), if_neg (by omega), if_neg (by omega), if_neg (by omega), if_neg (by omega), if_neg (by omega), if_pos h.2.1, if_pos h.2.2]
theorem intB_k {j : Nat} (h : intB j = true) : j < 62 ∧ bn_k j = 9 := by simpa [intB] using h
theorem row_items {j : Nat} (h : rowB j = true) : j + 1 < 62 ∧ bn_k (j + 1) = 9 := by
  simp only [rowB, decide_eq_true_eq] at h
  refine ⟨by omega, ?_⟩
  unfold bn_k
  rw [if_neg (by omega), if_neg (by omega), if_neg (by omega), if_neg (by omega), if_neg (by omega), if_neg (by omega), if_neg (by omega), if_neg (by omega), if_neg (by omega)]
theorem fil_arr {j k : Nat} (h : filB j = true) (h1 : 1 ≤ k) (h2 : k ≤ 3) : j + k < 62 ∧ bn_k (j + k) = 9 := by
  simp only [filB, decide_eq_true_eq] at h
  refine ⟨by omega, ?_⟩
  unfold bn_k
  rw [if_neg (by omega), if_neg (by omega), if_neg (by omega), if_neg (by omega), if_neg (by omega), if_neg (by omega), if_pos (by omega), if_neg (by omega)]
theorem row_len {u : bS} {j : Nat} (h : rowB j = true) : bn_len u (j + 1) = 16 := by
  simp only [rowB, decide_eq_true_eq] at h
  unfold bn_len
  rw [if_neg (by omega), if_neg (by omega), if_neg (by omega), if_neg (by omega), if_neg (by omega), if_neg (by omega), if_neg (by omega)]
theorem fil_len {u : bS} {j k : Nat} (h : filB j = true) (h1 : 1 ≤ k) (h2 : k ≤ 3) : bn_len u (j + k) = 32 := by
  simp only [filB, decide_eq_true_eq] at h
  unfold bn_len
  rw [if_neg (by omega), if_neg (by omega), if_neg (by omega), if_neg (by omega), if_neg (by omega), if_pos (by omega)]
theorem bn_at {Z : bZ} {u : bS} {j : Nat} (h : j < 62) : (bn_ws Z u)[j]? = some (u.1 j, bn_e Z u j) := by
  simp [bn_ws, h]
theorem bn_atI {Z : bZ} {u : bS} {j : Nat} (h : j < 62 ∧ bn_k j = 9) : (bn_ws Z u)[j]? = some (u.1 j, .inl (Z.2.1, (bn_len u j, .inl (u.2.2 j)))) := by
  rw [bn_at h.1]; simp [bn_e, h.2]
theorem bn_atO {Z : bZ} {u : bS} {j ci : Nat} (h : j < 62 ∧ bn_k j = ci) (hc : ci < 9) : (bn_ws Z u)[j]? = some (u.1 j, .inr (ci, bn_fs u j)) := by
  rw [bn_at h.1]
  have h2 := h.2
  subst h2
  simp [bn_e, show ¬ bn_k j = 9 by omega, show ¬ bn_k j = 10 by omega, show ¬ bn_k j = 11 by omega]
theorem bn_fat {u : bS} {j k : Nat} (h : k < bn_nf (bn_k j)) : (bn_fs u j)[k]? = some (bn_fv u j k) := by
  simp [bn_fs, h]
theorem bU_fv {u : bS} {j k a b : Nat} {x : Int32} (h : ¬ (a = j ∧ b = k)) : bn_fv (bU u j k x) a b = bn_fv u a b := by
  unfold bn_fv bU
  dsimp only
  cases bn_tt (bn_k a) a (u.2.1 25) b with
  | some t => rfl
  | none =>
    by_cases ha : a = j
    · subst ha
      have hb : ¬ b = k := fun q => h ⟨rfl, q⟩
      simp [sU, upd, hb]
    · simp [sU, ha]
theorem bU_fs {u : bS} {j k a : Nat} {x : Int32} (h : a ≠ j) : bn_fs (bU u j k x) a = bn_fs u a := by
  apply List.ext_getElem?
  intro b
  by_cases hb : b < bn_nf (bn_k a)
  · rw [bn_fat hb, bn_fat hb, bU_fv (fun q => h q.1)]
  · rw [List.getElem?_eq_none (by simp [bn_fs]; omega), List.getElem?_eq_none (by simp [bn_fs]; omega)]
theorem bU_e {Z : bZ} {u : bS} {j k a : Nat} {x : Int32} (h : a ≠ j) : bn_e Z (bU u j k x) a = bn_e Z u a := by
  unfold bn_e
  rw [bU_fs h]
  have h1 : bn_len (bU u j k x) a = bn_len u a := rfl
  have h2 : (bU u j k x).2.2 a = u.2.2 a := by simp [bU, sU, h]
  rw [h1, h2]
  rfl
theorem bn_setI {Z : bZ} {u : bS} {j i : Nat} {x : Int32} (h : j < 62 ∧ bn_k j = 9) : (bn_ws Z u).set j (u.1 j, .inl (Z.2.1, (bn_len u j, .inl (upd (u.2.2 j) i x)))) = bn_ws Z (bU u j i x) := by
  apply List.ext_getElem?
  intro a
  rw [List.getElem?_set]
  by_cases ha : j = a
  · subst ha
    have hb : (bU u j i x).2.2 j = upd (u.2.2 j) i x := by simp [bU, sU]
    rw [if_pos rfl, if_pos (by simp [bn_ws, h.1]), bn_atI h, hb]
    rfl
  · rw [if_neg ha]
    have h2 : a ≠ j := fun h => ha h.symm
    by_cases hi : a < 62
    · rw [bn_at hi, bn_at hi, bU_e h2]; rfl
    · rw [List.getElem?_eq_none (by simp [bn_ws]; omega), List.getElem?_eq_none (by simp [bn_ws]; omega)]
theorem bn_setO {Z : bZ} {u : bS} {j k ci : Nat} {x : Int32} (h : j < 62 ∧ bn_k j = ci) (hc : ci < 9) (hk : k < bn_nf ci) (ht : bn_tt ci j (u.2.1 25) k = none) : (bn_ws Z u).set j (u.1 j, .inr (ci, (bn_fs u j).set k (.int x))) = bn_ws Z (bU u j k x) := by
  apply List.ext_getElem?
  intro a
  rw [List.getElem?_set]
  by_cases ha : j = a
  · subst ha
    have hl : (bn_fs u j).set k (.int x) = bn_fs (bU u j k x) j := by
      have h2 := h.2
      subst h2
      apply List.ext_getElem?
      intro b
      rw [List.getElem?_set]
      by_cases hb : k = b
      · subst hb
        have h3 : bn_fv (bU u j k x) j k = .int x := by
          unfold bn_fv
          rw [show (bU u j k x).2.1 = u.2.1 from rfl, ht]
          simp [bU, sU, upd]
        rw [if_pos rfl, if_pos (by simp [bn_fs, hk]), bn_fat hk, h3]
      · rw [if_neg hb]
        by_cases hb2 : b < bn_nf (bn_k j)
        · rw [bn_fat hb2, bn_fat hb2, bU_fv (fun q => hb q.2.symm)]
        · rw [List.getElem?_eq_none (by simp [bn_fs]; omega), List.getElem?_eq_none (by simp [bn_fs]; omega)]
    rw [hl, if_pos rfl, if_pos (by simp [bn_ws, h.1]), bn_atO h hc]
    rfl
  · rw [if_neg ha]
    have h2 : a ≠ j := fun h => ha h.symm
    by_cases hi : a < 62
    · rw [bn_at hi, bn_at hi, bU_e h2]; rfl
    · rw [List.getElem?_eq_none (by simp [bn_ws]; omega), List.getElem?_eq_none (by simp [bn_ws]; omega)]
