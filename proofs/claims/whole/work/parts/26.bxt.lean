/-! Values.turnOver: cells and before change places -/
def to_q (q : Nat → Nat) : Nat → Nat := fun k => if k = 4 then q 5 else if k = 5 then q 4 else q k
def to_g (g : Nat → Nat) : Nat → Nat := fun k => if k = 4 then g 5 else if k = 5 then g 4 else g k
def to_v (v : mS) : mS := sU (fun a => if a = 4 then v 5 else if a = 5 then v 4 else v a) 1 4 118
def to_s (k : Nat) : Nat := if k = 4 then 5 else if k = 5 then 4 else k
def to_w (Z : bZ) (q g : Nat → Nat) (v : mS) : va_W := (bn_ws Z (q, g, v)).set 1 (q 1, .inr (4, [.ref (q 2), .ref (q 3), .ref (q 5), .ref (q 4), .int 118]))
theorem to_qn {q : Nat → Nat} {j : Nat} (h4 : j ≠ 4) (h5 : j ≠ 5) : to_q q j = q j := by simp [to_q, h4, h5]
set_option maxRecDepth 100000 in
theorem to_ws {Z : bZ} {q g : Nat → Nat} {v : mS} : ∀ k, k < 62 → (bn_ws Z (to_q q, to_g g, to_v v))[k]? = (to_w Z q g v)[to_s k]? := by
  intro k hk
  match k, hk with
  | 0, _ => rfl | 1, _ => rfl | 2, _ => rfl | 3, _ => rfl | 4, _ => rfl | 5, _ => rfl | 6, _ => rfl | 7, _ => rfl | 8, _ =>
    have e9 : (fun k => some (to_q q (9 + 4 * k))) = (fun k => some (q (9 + 4 * k))) := by funext k; rw [to_qn (by omega) (by omega)]
    show some (q 8, (Sum.inl (Z.2.2.1, (4, .inr (.inr (.inr (.inr (fun k => some (to_q q (9 + 4 * k)))))))) : va_E)) = some (q 8, (Sum.inl (Z.2.2.1, (4, .inr (.inr (.inr (.inr (fun k => some (q (9 + 4 * k)))))))) : va_E))
    rw [e9]
  | 9, _ => rfl | 10, _ => rfl | 11, _ => rfl | 12, _ => rfl | 13, _ => rfl | 14, _ => rfl | 15, _ => rfl | 16, _ => rfl | 17, _ => rfl | 18, _ => rfl | 19, _ => rfl | 20, _ => rfl | 21, _ => rfl | 22, _ => rfl | 23, _ => rfl | 24, _ => rfl | 25, _ =>
    show some (q 25, (Sum.inr (3, [.ref (q 1), .ref (q 7), .ref (q 26), .ref (q 27), .ref (to_q q (9 + 4 * g 25)), .int (v 25 5)]) : va_E)) = some (q 25, (Sum.inr (3, [.ref (q 1), .ref (q 7), .ref (q 26), .ref (q 27), .ref (q (9 + 4 * g 25)), .int (v 25 5)]) : va_E))
    rw [to_qn (by omega) (by omega)]
  | 26, _ => rfl | 27, _ =>
    have e9 : (fun k => some (to_q q (28 + 2 * k))) = (fun k => some (q (28 + 2 * k))) := by funext k; rw [to_qn (by omega) (by omega)]
    show some (q 27, (Sum.inl (Z.2.2.2.1, (16, .inr (.inr (.inr (.inr (fun k => some (to_q q (28 + 2 * k)))))))) : va_E)) = some (q 27, (Sum.inl (Z.2.2.2.1, (16, .inr (.inr (.inr (.inr (fun k => some (q (28 + 2 * k)))))))) : va_E))
    rw [e9]
  | 28, _ => rfl | 29, _ => rfl | 30, _ => rfl | 31, _ => rfl | 32, _ => rfl | 33, _ => rfl | 34, _ => rfl | 35, _ => rfl | 36, _ => rfl | 37, _ => rfl | 38, _ => rfl | 39, _ => rfl | 40, _ => rfl | 41, _ => rfl | 42, _ => rfl | 43, _ => rfl | 44, _ => rfl | 45, _ => rfl | 46, _ => rfl | 47, _ => rfl | 48, _ => rfl | 49, _ => rfl | 50, _ => rfl | 51, _ => rfl | 52, _ => rfl | 53, _ => rfl | 54, _ => rfl | 55, _ => rfl | 56, _ => rfl | 57, _ => rfl | 58, _ => rfl | 59, _ => rfl | 60, _ => rfl | 61, _ => rfl | k + 62, hk => exact absurd hk (by omega)
theorem to_P {Z : bZ} {q g : Nat → Nat} {v : mS} {H : Heap} (h : va_P Z.1 cl (to_w Z q g v) H) : va_P Z.1 cl (bn_ws Z (to_q q, to_g g, to_v v)) H := by
  intro k x hx
  have hk : k < 62 := by
    have := (List.getElem?_eq_some_iff.mp hx).1
    simpa [bn_ws] using this
  exact h (to_s k) x (by rw [← to_ws k hk]; exact hx)
theorem to_D {Z : bZ} {q g : Nat → Nat} {v : mS} {A : Nat → Prop} (h : va_D A (to_w Z q g v)) : va_D A (bn_ws Z (to_q q, to_g g, to_v v)) := by
  have hlt : ∀ (k : Nat) (x : Nat × va_E), (bn_ws Z (to_q q, to_g g, to_v v))[k]? = some x → k < 62 := fun k x hx => by
    have := (List.getElem?_eq_some_iff.mp hx).1
    simpa [bn_ws] using this
  have hinj : ∀ i j, to_s i = to_s j → i = j := by
    intro i j hij
    unfold to_s at hij
    split at hij <;> split at hij <;> (try split at hij) <;> (try split at hij) <;> omega
  refine ⟨fun i j x y hi hj hxy => ?_, fun k x hk => ?_⟩
  · exact hinj i j (h.1 (to_s i) (to_s j) x y (by rw [← to_ws i (hlt i x hi)]; exact hi) (by rw [← to_ws j (hlt j y hj)]; exact hj) hxy)
  · exact h.2 (to_s k) x (by rw [← to_ws k (hlt k x hk)]; exact hk)
