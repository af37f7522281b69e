/-! Runner.start: another filter -/
def st_w (Z : bZ) (q g : Nat → Nat) (v : mS) (i : Nat) : va_W := (bn_ws Z (q, g, v)).set 25 (q 25, .inr (3, [.ref (q 1), .ref (q 7), .ref (q 26), .ref (q 27), .ref (q (9 + 4 * i)), .int (v 25 5)]))
set_option maxRecDepth 100000 in
theorem st_ws {Z : bZ} {q g : Nat → Nat} {v : mS} {i : Nat} : ∀ k, k < 62 → (bn_ws Z (q, va_up g 25 i, v))[k]? = (st_w Z q g v i)[k]? := by
  intro k hk
  match k, hk with
  | 0, _ => rfl | 1, _ => rfl | 2, _ => rfl | 3, _ => rfl | 4, _ => rfl | 5, _ => rfl | 6, _ => rfl | 7, _ => rfl | 8, _ => rfl | 9, _ => rfl | 10, _ => rfl | 11, _ => rfl | 12, _ => rfl | 13, _ => rfl | 14, _ => rfl | 15, _ => rfl | 16, _ => rfl | 17, _ => rfl | 18, _ => rfl | 19, _ => rfl | 20, _ => rfl | 21, _ => rfl | 22, _ => rfl | 23, _ => rfl | 24, _ => rfl | 25, _ => rfl | 26, _ => rfl | 27, _ => rfl | 28, _ => rfl | 29, _ => rfl | 30, _ => rfl | 31, _ => rfl | 32, _ => rfl | 33, _ => rfl | 34, _ => rfl | 35, _ => rfl | 36, _ => rfl | 37, _ => rfl | 38, _ => rfl | 39, _ => rfl | 40, _ => rfl | 41, _ => rfl | 42, _ => rfl | 43, _ => rfl | 44, _ => rfl | 45, _ => rfl | 46, _ => rfl | 47, _ => rfl | 48, _ => rfl | 49, _ => rfl | 50, _ => rfl | 51, _ => rfl | 52, _ => rfl | 53, _ => rfl | 54, _ => rfl | 55, _ => rfl | 56, _ => rfl | 57, _ => rfl | 58, _ => rfl | 59, _ => rfl | 60, _ => rfl | 61, _ => rfl | k + 62, hk => exact absurd hk (by omega)
theorem st_eq {Z : bZ} {q g : Nat → Nat} {v : mS} {i : Nat} : st_w Z q g v i = bn_ws Z (q, va_up g 25 i, v) := by
  apply List.ext_getElem?
  intro k
  by_cases hk : k < 62
  · exact (st_ws k hk).symm
  · rw [List.getElem?_eq_none (by simp [st_w, bn_ws]; omega), List.getElem?_eq_none (by simp [bn_ws]; omega)]
