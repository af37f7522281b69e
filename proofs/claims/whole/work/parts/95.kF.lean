/-! constructors: FilterBench -/
def flE (Z : bZ) (F : Nat → Nat → Nat) (k : Nat) : va_W := (List.range k).flatMap (fun j => [(F j 0, .inr (1, [.ref (F j 1), .ref (F j 2), .ref (F j 3), .int 0])), (F j 1, eI Z 32 (fun _ => 0)), (F j 2, eI Z 32 (fun _ => 0)), (F j 3, eI Z 32 (fun _ => 0))])
theorem flE_s {Z : bZ} {F : Nat → Nat → Nat} {k : Nat} : flE Z F (k + 1) = flE Z F k ++ [(F k 0, .inr (1, [.ref (F k 1), .ref (F k 2), .ref (F k 3), .int 0])), (F k 1, eI Z 32 (fun _ => 0)), (F k 2, eI Z 32 (fun _ => 0)), (F k 3, eI Z 32 (fun _ => 0))] := by
  unfold flE
  rw [List.range_succ, List.flatMap_append]
  rfl
theorem flE_c {Z : bZ} {F F' : Nat → Nat → Nat} : ∀ k, (∀ j, j < k → F' j = F j) → flE Z F' k = flE Z F k := by
  intro k
  induction k with
  | zero => intro _; rfl
  | succ k ih =>
    intro h
    rw [flE_s, flE_s, ih (fun j hj => h j (by omega)), h k (by omega)]
theorem flE_l {Z : bZ} {F : Nat → Nat → Nat} : ∀ k, (flE Z F k).length = 4 * k := by
  intro k
  induction k with
  | zero => rfl
  | succ k ih =>
    rw [flE_s, List.length_append, ih]
    show 4 * k + 4 = _
    omega
def ffE (F : Nat → Nat → Nat) (k : Nat) : Nat → Option Nat := rfE (fun j => F j 0) k
/-- two rows of references that hold the same where they have places -/
theorem eQ_c {D : va_G} {a n : Nat} {cA : ClassId} {f f' : Nat → Option Nat} {H : Heap} (hf : ∀ k, k < n → f' k = f k) (h : va_at D cl (a, eQ cA n f) H) : va_at D cl (a, eQ cA n f') H := by
  have h : H[a]? = some (vp_cell cA (n, .inr (.inr (.inr (.inr f))))) := h
  show H[a]? = some (vp_cell cA (n, .inr (.inr (.inr (.inr f')))))
  rw [h]
  congr 1
  unfold vp_cell
  dsimp only
  unfold arrV
  congr 1
  congr 1
  funext j
  show va_rf (f j.val) = va_rf (f' j.val)
  rw [hf j.val j.isLt]

set_option maxHeartbeats 8000000 in
set_option maxRecDepth 100000 in
theorem bi_at {Z : bZ} {h0 qV qi qn qc qb a6 a7 a8 qN qv qr qR qs : Nat} {F : Nat → Nat → Nat} {r i : Nat → Nat} {H : Heap} (h : va_P Z.1 cl ((h0, .inr (0, [.ref qV, .ref a6, .ref a7, .ref a8, .ref qN, .ref qR, .int 0, .int 0, .int 0, .int 0, .int 0])) :: (((qV, .inr (4, [.ref qi, .ref qn, .ref qc, .ref qb, .int 118])) :: (qi, eI Z 24 (fun _ => 0)) :: (qn, eI Z 12 (fun _ => 0)) :: (qc, eI Z 512 (zc0 118)) :: (qb, eI Z 512 (zc0 118)) :: (a6, eI Z 8 (fun k => if k < 8 then 0 else 0)) :: (a7, eI Z 8 (fun k => if k < 8 then 12 else 0)) :: (a8, eQ Z.2.2.1 4 (ffE F (4))) :: flE Z F (4) ++ ((qN, .inr (3, [.ref qV, .ref a7, .ref qv, .ref qr, .ref (F 0 0), .int 0])) :: (qv, eI Z 4 (fun _ => 0)) :: (qr, eQ Z.2.2.2.1 16 (rfE r 16)) :: rlE Z r i 16)) ++ ([(qR, .inr (2, [.ref qs, .int 0, .int (-1)])), (qs, .inl (Z.2.1, (16, .inl (fun _ => 0))))] : va_W))) H) : ∀ k, k < 62 → va_at Z.1 cl ((((h0, .inr (0, [.ref qV, .ref a6, .ref a7, .ref a8, .ref qN, .ref qR, .int 0, .int 0, .int 0, .int 0, .int 0])) :: (((qV, .inr (4, [.ref qi, .ref qn, .ref qc, .ref qb, .int 118])) :: (qi, eI Z 24 (fun _ => 0)) :: (qn, eI Z 12 (fun _ => 0)) :: (qc, eI Z 512 (zc0 118)) :: (qb, eI Z 512 (zc0 118)) :: (a6, eI Z 8 (fun k => if k < 8 then 0 else 0)) :: (a7, eI Z 8 (fun k => if k < 8 then 12 else 0)) :: (a8, eQ Z.2.2.1 4 (ffE F (4))) :: flE Z F (4) ++ ((qN, .inr (3, [.ref qV, .ref a7, .ref qv, .ref qr, .ref (F 0 0), .int 0])) :: (qv, eI Z 4 (fun _ => 0)) :: (qr, eQ Z.2.2.2.1 16 (rfE r 16)) :: rlE Z r i 16)) ++ ([(qR, .inr (2, [.ref qs, .int 0, .int (-1)])), (qs, .inl (Z.2.1, (16, .inl (fun _ => 0))))] : va_W))).map Prod.fst).getD k 0, bn_e Z ((fun k => (((h0, .inr (0, [.ref qV, .ref a6, .ref a7, .ref a8, .ref qN, .ref qR, .int 0, .int 0, .int 0, .int 0, .int 0])) :: (((qV, .inr (4, [.ref qi, .ref qn, .ref qc, .ref qb, .int 118])) :: (qi, eI Z 24 (fun _ => 0)) :: (qn, eI Z 12 (fun _ => 0)) :: (qc, eI Z 512 (zc0 118)) :: (qb, eI Z 512 (zc0 118)) :: (a6, eI Z 8 (fun k => if k < 8 then 0 else 0)) :: (a7, eI Z 8 (fun k => if k < 8 then 12 else 0)) :: (a8, eQ Z.2.2.1 4 (ffE F (4))) :: flE Z F (4) ++ ((qN, .inr (3, [.ref qV, .ref a7, .ref qv, .ref qr, .ref (F 0 0), .int 0])) :: (qv, eI Z 4 (fun _ => 0)) :: (qr, eQ Z.2.2.2.1 16 (rfE r 16)) :: rlE Z r i 16)) ++ ([(qR, .inr (2, [.ref qs, .int 0, .int (-1)])), (qs, .inl (Z.2.1, (16, .inl (fun _ => 0))))] : va_W))).map Prod.fst).getD k 0), bg0, bv0) k) H := by
  intro k hk
  match k, hk with
  | 0, _ => exact h 0 _ rfl
  | 1, _ => exact h 1 _ rfl
  | 2, _ => exact h 2 _ rfl
  | 3, _ => exact h 3 _ rfl
  | 4, _ => exact h 4 _ rfl
  | 5, _ => exact h 5 _ rfl
  | 6, _ =>
    have e9 : (fun k => if k < 8 then (0 : Int32) else 0) = fun _ => 0 := by funext k; exact ite_self _
    have := h 6 _ rfl
    rw [e9] at this
    exact this
  | 7, _ => exact h 7 _ rfl
  | 8, _ => exact eQ_c (f := ffE F 4) (fun k hk => by rcases (show k = 0 ∨ k = 1 ∨ k = 2 ∨ k = 3 by omega) with rfl | rfl | rfl | rfl <;> rfl) (h 8 _ rfl)
  | 9, _ => exact h 9 _ rfl
  | 10, _ => exact h 10 _ rfl
  | 11, _ => exact h 11 _ rfl
  | 12, _ => exact h 12 _ rfl
  | 13, _ => exact h 13 _ rfl
  | 14, _ => exact h 14 _ rfl
  | 15, _ => exact h 15 _ rfl
  | 16, _ => exact h 16 _ rfl
  | 17, _ => exact h 17 _ rfl
  | 18, _ => exact h 18 _ rfl
  | 19, _ => exact h 19 _ rfl
  | 20, _ => exact h 20 _ rfl
  | 21, _ => exact h 21 _ rfl
  | 22, _ => exact h 22 _ rfl
  | 23, _ => exact h 23 _ rfl
  | 24, _ => exact h 24 _ rfl
  | 25, _ => exact h 25 _ rfl
  | 26, _ => exact h 26 _ rfl
  | 27, _ => exact eQ_c (f := rfE r 16) (fun k hk => by rcases (show k = 0 ∨ k = 1 ∨ k = 2 ∨ k = 3 ∨ k = 4 ∨ k = 5 ∨ k = 6 ∨ k = 7 ∨ k = 8 ∨ k = 9 ∨ k = 10 ∨ k = 11 ∨ k = 12 ∨ k = 13 ∨ k = 14 ∨ k = 15 by omega) with rfl | rfl | rfl | rfl | rfl | rfl | rfl | rfl | rfl | rfl | rfl | rfl | rfl | rfl | rfl | rfl <;> rfl) (h 27 _ rfl)
  | 28, _ => exact h 28 _ rfl
  | 29, _ => exact h 29 _ rfl
  | 30, _ => exact h 30 _ rfl
  | 31, _ => exact h 31 _ rfl
  | 32, _ => exact h 32 _ rfl
  | 33, _ => exact h 33 _ rfl
  | 34, _ => exact h 34 _ rfl
  | 35, _ => exact h 35 _ rfl
  | 36, _ => exact h 36 _ rfl
  | 37, _ => exact h 37 _ rfl
  | 38, _ => exact h 38 _ rfl
  | 39, _ => exact h 39 _ rfl
  | 40, _ => exact h 40 _ rfl
  | 41, _ => exact h 41 _ rfl
  | 42, _ => exact h 42 _ rfl
  | 43, _ => exact h 43 _ rfl
  | 44, _ => exact h 44 _ rfl
  | 45, _ => exact h 45 _ rfl
  | 46, _ => exact h 46 _ rfl
  | 47, _ => exact h 47 _ rfl
  | 48, _ => exact h 48 _ rfl
  | 49, _ => exact h 49 _ rfl
  | 50, _ => exact h 50 _ rfl
  | 51, _ => exact h 51 _ rfl
  | 52, _ => exact h 52 _ rfl
  | 53, _ => exact h 53 _ rfl
  | 54, _ => exact h 54 _ rfl
  | 55, _ => exact h 55 _ rfl
  | 56, _ => exact h 56 _ rfl
  | 57, _ => exact h 57 _ rfl
  | 58, _ => exact h 58 _ rfl
  | 59, _ => exact h 59 _ rfl
  | 60, _ => exact h 60 _ rfl
  | 61, _ => exact h 61 _ rfl
  | k + 62, hk => exact absurd hk (by omega)
theorem bi_P {Z : bZ} {h0 qV qi qn qc qb a6 a7 a8 qN qv qr qR qs : Nat} {F : Nat → Nat → Nat} {r i : Nat → Nat} {H : Heap} {q : Nat → Nat} (hq : q = fun k => (((h0, .inr (0, [.ref qV, .ref a6, .ref a7, .ref a8, .ref qN, .ref qR, .int 0, .int 0, .int 0, .int 0, .int 0])) :: (((qV, .inr (4, [.ref qi, .ref qn, .ref qc, .ref qb, .int 118])) :: (qi, eI Z 24 (fun _ => 0)) :: (qn, eI Z 12 (fun _ => 0)) :: (qc, eI Z 512 (zc0 118)) :: (qb, eI Z 512 (zc0 118)) :: (a6, eI Z 8 (fun k => if k < 8 then 0 else 0)) :: (a7, eI Z 8 (fun k => if k < 8 then 12 else 0)) :: (a8, eQ Z.2.2.1 4 (ffE F (4))) :: flE Z F (4) ++ ((qN, .inr (3, [.ref qV, .ref a7, .ref qv, .ref qr, .ref (F 0 0), .int 0])) :: (qv, eI Z 4 (fun _ => 0)) :: (qr, eQ Z.2.2.2.1 16 (rfE r 16)) :: rlE Z r i 16)) ++ ([(qR, .inr (2, [.ref qs, .int 0, .int (-1)])), (qs, .inl (Z.2.1, (16, .inl (fun _ => 0))))] : va_W))).map Prod.fst).getD k 0) (h : va_P Z.1 cl ((h0, .inr (0, [.ref qV, .ref a6, .ref a7, .ref a8, .ref qN, .ref qR, .int 0, .int 0, .int 0, .int 0, .int 0])) :: (((qV, .inr (4, [.ref qi, .ref qn, .ref qc, .ref qb, .int 118])) :: (qi, eI Z 24 (fun _ => 0)) :: (qn, eI Z 12 (fun _ => 0)) :: (qc, eI Z 512 (zc0 118)) :: (qb, eI Z 512 (zc0 118)) :: (a6, eI Z 8 (fun k => if k < 8 then 0 else 0)) :: (a7, eI Z 8 (fun k => if k < 8 then 12 else 0)) :: (a8, eQ Z.2.2.1 4 (ffE F (4))) :: flE Z F (4) ++ ((qN, .inr (3, [.ref qV, .ref a7, .ref qv, .ref qr, .ref (F 0 0), .int 0])) :: (qv, eI Z 4 (fun _ => 0)) :: (qr, eQ Z.2.2.2.1 16 (rfE r 16)) :: rlE Z r i 16)) ++ ([(qR, .inr (2, [.ref qs, .int 0, .int (-1)])), (qs, .inl (Z.2.1, (16, .inl (fun _ => 0))))] : va_W))) H) : va_P Z.1 cl (bn_ws Z (q, bg0, bv0)) H := by
  intro k x hx
  have hk := gr_lt hx
  rw [bn_at hk] at hx
  cases hx
  rw [hq]
  exact bi_at h k hk
theorem bi_D {Z : bZ} {h0 qV qi qn qc qb a6 a7 a8 qN qv qr qR qs : Nat} {F : Nat → Nat → Nat} {r i : Nat → Nat} {A : Nat → Prop} {q : Nat → Nat} (hq : q = fun k => (((h0, .inr (0, [.ref qV, .ref a6, .ref a7, .ref a8, .ref qN, .ref qR, .int 0, .int 0, .int 0, .int 0, .int 0])) :: (((qV, .inr (4, [.ref qi, .ref qn, .ref qc, .ref qb, .int 118])) :: (qi, eI Z 24 (fun _ => 0)) :: (qn, eI Z 12 (fun _ => 0)) :: (qc, eI Z 512 (zc0 118)) :: (qb, eI Z 512 (zc0 118)) :: (a6, eI Z 8 (fun k => if k < 8 then 0 else 0)) :: (a7, eI Z 8 (fun k => if k < 8 then 12 else 0)) :: (a8, eQ Z.2.2.1 4 (ffE F (4))) :: flE Z F (4) ++ ((qN, .inr (3, [.ref qV, .ref a7, .ref qv, .ref qr, .ref (F 0 0), .int 0])) :: (qv, eI Z 4 (fun _ => 0)) :: (qr, eQ Z.2.2.2.1 16 (rfE r 16)) :: rlE Z r i 16)) ++ ([(qR, .inr (2, [.ref qs, .int 0, .int (-1)])), (qs, .inl (Z.2.1, (16, .inl (fun _ => 0))))] : va_W))).map Prod.fst).getD k 0) (h : va_D A ((h0, .inr (0, [.ref qV, .ref a6, .ref a7, .ref a8, .ref qN, .ref qR, .int 0, .int 0, .int 0, .int 0, .int 0])) :: (((qV, .inr (4, [.ref qi, .ref qn, .ref qc, .ref qb, .int 118])) :: (qi, eI Z 24 (fun _ => 0)) :: (qn, eI Z 12 (fun _ => 0)) :: (qc, eI Z 512 (zc0 118)) :: (qb, eI Z 512 (zc0 118)) :: (a6, eI Z 8 (fun k => if k < 8 then 0 else 0)) :: (a7, eI Z 8 (fun k => if k < 8 then 12 else 0)) :: (a8, eQ Z.2.2.1 4 (ffE F (4))) :: flE Z F (4) ++ ((qN, .inr (3, [.ref qV, .ref a7, .ref qv, .ref qr, .ref (F 0 0), .int 0])) :: (qv, eI Z 4 (fun _ => 0)) :: (qr, eQ Z.2.2.2.1 16 (rfE r 16)) :: rlE Z r i 16)) ++ ([(qR, .inr (2, [.ref qs, .int 0, .int (-1)])), (qs, .inl (Z.2.1, (16, .inl (fun _ => 0))))] : va_W)))) : va_D A (bn_ws Z (q, bg0, bv0)) := by
  have hlen : (((h0, .inr (0, [.ref qV, .ref a6, .ref a7, .ref a8, .ref qN, .ref qR, .int 0, .int 0, .int 0, .int 0, .int 0])) :: (((qV, .inr (4, [.ref qi, .ref qn, .ref qc, .ref qb, .int 118])) :: (qi, eI Z 24 (fun _ => 0)) :: (qn, eI Z 12 (fun _ => 0)) :: (qc, eI Z 512 (zc0 118)) :: (qb, eI Z 512 (zc0 118)) :: (a6, eI Z 8 (fun k => if k < 8 then 0 else 0)) :: (a7, eI Z 8 (fun k => if k < 8 then 12 else 0)) :: (a8, eQ Z.2.2.1 4 (ffE F (4))) :: flE Z F (4) ++ ((qN, .inr (3, [.ref qV, .ref a7, .ref qv, .ref qr, .ref (F 0 0), .int 0])) :: (qv, eI Z 4 (fun _ => 0)) :: (qr, eQ Z.2.2.2.1 16 (rfE r 16)) :: rlE Z r i 16)) ++ ([(qR, .inr (2, [.ref qs, .int 0, .int (-1)])), (qs, .inl (Z.2.1, (16, .inl (fun _ => 0))))] : va_W))).map Prod.fst).length = 62 := rfl
  have hlen2 : ((h0, .inr (0, [.ref qV, .ref a6, .ref a7, .ref a8, .ref qN, .ref qR, .int 0, .int 0, .int 0, .int 0, .int 0])) :: (((qV, .inr (4, [.ref qi, .ref qn, .ref qc, .ref qb, .int 118])) :: (qi, eI Z 24 (fun _ => 0)) :: (qn, eI Z 12 (fun _ => 0)) :: (qc, eI Z 512 (zc0 118)) :: (qb, eI Z 512 (zc0 118)) :: (a6, eI Z 8 (fun k => if k < 8 then 0 else 0)) :: (a7, eI Z 8 (fun k => if k < 8 then 12 else 0)) :: (a8, eQ Z.2.2.1 4 (ffE F (4))) :: flE Z F (4) ++ ((qN, .inr (3, [.ref qV, .ref a7, .ref qv, .ref qr, .ref (F 0 0), .int 0])) :: (qv, eI Z 4 (fun _ => 0)) :: (qr, eQ Z.2.2.2.1 16 (rfE r 16)) :: rlE Z r i 16)) ++ ([(qR, .inr (2, [.ref qs, .int 0, .int (-1)])), (qs, .inl (Z.2.1, (16, .inl (fun _ => 0))))] : va_W))).length = 62 := rfl
  generalize hw : ((h0, .inr (0, [.ref qV, .ref a6, .ref a7, .ref a8, .ref qN, .ref qR, .int 0, .int 0, .int 0, .int 0, .int 0])) :: (((qV, .inr (4, [.ref qi, .ref qn, .ref qc, .ref qb, .int 118])) :: (qi, eI Z 24 (fun _ => 0)) :: (qn, eI Z 12 (fun _ => 0)) :: (qc, eI Z 512 (zc0 118)) :: (qb, eI Z 512 (zc0 118)) :: (a6, eI Z 8 (fun k => if k < 8 then 0 else 0)) :: (a7, eI Z 8 (fun k => if k < 8 then 12 else 0)) :: (a8, eQ Z.2.2.1 4 (ffE F (4))) :: flE Z F (4) ++ ((qN, .inr (3, [.ref qV, .ref a7, .ref qv, .ref qr, .ref (F 0 0), .int 0])) :: (qv, eI Z 4 (fun _ => 0)) :: (qr, eQ Z.2.2.2.1 16 (rfE r 16)) :: rlE Z r i 16)) ++ ([(qR, .inr (2, [.ref qs, .int 0, .int (-1)])), (qs, .inl (Z.2.1, (16, .inl (fun _ => 0))))] : va_W))) = w at h hq hlen hlen2
  refine ⟨fun i j x y hi hj hxy => ?_, fun k x hk => ?_⟩
  · have h1 := gr_lt hi
    have h2 := gr_lt hj
    rw [bn_at h1] at hi
    rw [bn_at h2] at hj
    cases hi
    cases hj
    have e1 : q i = (w[i]'(by omega)).1 := by rw [hq]; simp [List.getD, hlen2, h1]
    have e2 : q j = (w[j]'(by omega)).1 := by rw [hq]; simp [List.getD, hlen2, h2]
    exact h.1 i j _ _ (List.getElem?_eq_getElem (by omega)) (List.getElem?_eq_getElem (by omega)) (by rw [← e1, ← e2]; exact hxy)
  · have h1 := gr_lt hk
    rw [bn_at h1] at hk
    cases hk
    have e1 : q k = (w[k]'(by omega)).1 := by rw [hq]; simp [List.getD, hlen2, h1]
    show A (q k)
    rw [e1]
    exact h.2 k _ (List.getElem?_eq_getElem (by omega))
set_option maxHeartbeats 8000000 in
set_option maxRecDepth 100000 in
theorem c_B_init {l : Launch} {Z : bZ} (hl0 : l.stackTraces = false) (h0 : Nat) : bc_M l Z 3 61 1834 y_B_init b_B_init 2 [.ref h0] [(h0, .inr (0, [.null, .null, .null, .null, .null, .null, .int 0, .int 0, .int 0, .int 0, .int 0]))] (fun w1 => ∃ q : Nat → Nat, q 0 = h0 ∧ w1 = bn_ws Z (q, bg0, bv0)) := by
  refine bc_of hl0 (by decide +kernel) (Nat.le_of_ble_eq_true rfl) ?_
  intro p e s m below meth c A ls C0 hE hr hin hl hH
  have hx := C0.1
  have hb := C0.2.1
  have C0 : bn_C R_B b_B_init 2 Z A p l s m _ meth c := C0
  have hin : meth.name = "<init>" := hin
  obtain ⟨-, -, hown, hts, hK, hml, hA, hlocks, hX, -⟩ := id C0
  have hl : lv_has ls 2 [(0, .ref h0)] := hl
  obtain ⟨QQ, hQQ⟩ : ∃ z, z = MQ below (va_Qv (fun w1 => ∃ q : Nat → Nat, q 0 = h0 ∧ w1 = bn_ws Z (q, bg0, bv0)) (bc_B Z A) A) [Value.ref h0].toArray s 61 1834 A := ⟨_, rfl⟩
  rw [← hQQ]
  refine lv_aload_n hx hb d_B_init_0 rfl (lv_at hl 0 rfl) ?_
  refine W.objInit hx hb hown (hts _ q_127) (hts _ q_128) (hts _ q_129) rfl (by rw [hml]; exact hl.1) rfl d_B_init_1 (Nat.le_of_ble_eq_true rfl) (Nat.le_of_ble_eq_true rfl) ?_
  refine W.eq (g2 := F0 m 4 ls []) rfl ?_
  refine lv_aload_n hx hb d_B_init_4 rfl (lv_at hl 0 rfl) ?_
  refine bc_new (ix := 7) (ci := 4) (C := "FilterBench$Values") (T := F_V) (N := 5) (fs := [.null, .null, .null, .null, .int 0]) C0 hH rfl i_V t_V t_V_ok q_130 q_131 q_104 (fun j hj => by rcases (show j = 0 ∨ j = 1 ∨ j = 2 ∨ j = 3 ∨ j = 4 by omega) with rfl | rfl | rfl | rfl | rfl <;> rfl) (Nat.le_of_ble_eq_true rfl) (Nat.le_of_ble_eq_true rfl) d_B_init_5 (fun qV H hH => ?_)
  refine lv_dup hx hb d_B_init_8 rfl ?_
  refine bc_cI (X := [(h0, .inr (0, [.null, .null, .null, .null, .null, .null, .int 0, .int 0, .int 0, .int 0, .int 0]))]) (wc := [(qV, .inr (4, [.null, .null, .null, .null, .int 0]))]) (as := []) (rest := [.ref qV, .ref h0]) (C := "FilterBench$Values") C0 hE hH (c_V_init hl0 qV) rfl rfl q_133 q_134 q_104 (by decide +kernel) (by decide +kernel) (by decide +kernel) q_132 ⟨Nat.le_of_ble_eq_true rfl, Nat.le_of_ble_eq_true rfl⟩ rfl hl.1 rfl (Nat.le_of_ble_eq_true rfl) ⟨Nat.le_of_ble_eq_true rfl, Nat.le_of_ble_eq_true rfl⟩ d_B_init_9 (fun w1 H locs hw hH => ?_)
  obtain ⟨qi, qn, qc, qb, rfl⟩ := hw
  refine bc_putF0 (ix := 10) (ci := 0) (T := F_B) (N := 11) (k := 0) (ty0 := .object "FilterBench$Values") (fs := [.null, .null, .null, .null, .null, .null, .int 0, .int 0, .int 0, .int 0, .int 0]) (w := ((qV, .inr (4, [.ref qi, .ref qn, .ref qc, .ref qb, .int 118])) :: (qi, eI Z 24 (fun _ => 0)) :: (qn, eI Z 12 (fun _ => 0)) :: (qc, eI Z 512 (zc0 118)) :: (qb, eI Z 512 (zc0 118)) :: [])) C0 hin hH rfl i_B t_B t_B_ok n_B F_B_own (by decide) q_235 rfl (by decide +kernel) rfl rfl (Nat.le_of_ble_eq_true rfl) d_B_init_12 (fun H locs hH => ?_)
  refine lv_aload_n hx hb d_B_init_15 rfl (lv_at hl 0 rfl) ?_
  refine lv_bipush (v := 8) hx hb d_B_init_16 (by decide) ?_
  refine bc_newI (N' := 8) C0 hH (by decide) rfl (by decide) (Nat.le_of_ble_eq_true rfl) (Nat.le_of_ble_eq_true rfl) d_B_init_18 (fun a6 H hH => ?_)
  refine bc_putF0 (ix := 16) (ci := 0) (T := F_B) (N := 11) (k := 1) (ty0 := .array .int) (fs := [.ref qV, .null, .null, .null, .null, .null, .int 0, .int 0, .int 0, .int 0, .int 0]) (w := ((qV, .inr (4, [.ref qi, .ref qn, .ref qc, .ref qb, .int 118])) :: (qi, eI Z 24 (fun _ => 0)) :: (qn, eI Z 12 (fun _ => 0)) :: (qc, eI Z 512 (zc0 118)) :: (qb, eI Z 512 (zc0 118)) :: (a6, eI Z 8 (fun _ => 0)) :: [])) C0 hin hH rfl i_B t_B t_B_ok n_B F_B_own (by decide) q_236 rfl (by decide +kernel) rfl rfl (Nat.le_of_ble_eq_true rfl) d_B_init_20 (fun H locs hH => ?_)
  refine lv_aload_n hx hb d_B_init_23 rfl (lv_at hl 0 rfl) ?_
  refine bc_get0 (ix := 16) (ci := 0) (T := F_B) (N := 11) (k := 1) (fs := [.ref qV, .ref a6, .null, .null, .null, .null, .int 0, .int 0, .int 0, .int 0, .int 0]) (v := .ref a6) C0 hH rfl i_B F_B_own (by decide) q_236 d_B_init_24 rfl ?_
  refine lv_iconst (v := 0) hx hb d_B_init_27 (by decide) ?_
  refine bc_cS (X := (h0, .inr (0, [.ref qV, .ref a6, .null, .null, .null, .null, .int 0, .int 0, .int 0, .int 0, .int 0])) :: (qV, .inr (4, [.ref qi, .ref qn, .ref qc, .ref qb, .int 118])) :: (qi, eI Z 24 (fun _ => 0)) :: (qn, eI Z 12 (fun _ => 0)) :: (qc, eI Z 512 (zc0 118)) :: (qb, eI Z 512 (zc0 118)) :: []) (wc := [(a6, eI Z 8 (fun _ => 0))]) (as := [.ref a6, .int 0]) (rest := []) C0 hE hH (c_J_fill0 hl0) yy_J_fill q_168 ⟨Nat.le_of_ble_eq_true rfl, Nat.le_of_ble_eq_true rfl⟩ rfl hl.1 rfl (Nat.le_of_ble_eq_true rfl) ⟨Nat.le_of_ble_eq_true rfl, Nat.le_of_ble_eq_true rfl⟩ d_B_init_28 (fun w1 H locs hw hH => ?_)
  subst hw
  refine lv_aload_n hx hb d_B_init_31 rfl (lv_at hl 0 rfl) ?_
  refine lv_bipush (v := 8) hx hb d_B_init_32 (by decide) ?_
  refine bc_newI (N' := 8) C0 hH (by decide) rfl (by decide) (Nat.le_of_ble_eq_true rfl) (Nat.le_of_ble_eq_true rfl) d_B_init_34 (fun a7 H hH => ?_)
  refine bc_putF0 (ix := 26) (ci := 0) (T := F_B) (N := 11) (k := 2) (ty0 := .array .int) (fs := [.ref qV, .ref a6, .null, .null, .null, .null, .int 0, .int 0, .int 0, .int 0, .int 0]) (w := ((qV, .inr (4, [.ref qi, .ref qn, .ref qc, .ref qb, .int 118])) :: (qi, eI Z 24 (fun _ => 0)) :: (qn, eI Z 12 (fun _ => 0)) :: (qc, eI Z 512 (zc0 118)) :: (qb, eI Z 512 (zc0 118)) :: (a6, eI Z 8 (fun k => if k < 8 then 0 else 0)) :: (a7, eI Z 8 (fun _ => 0)) :: [])) C0 hin hH rfl i_B t_B t_B_ok n_B F_B_own (by decide) q_237 rfl (by decide +kernel) rfl rfl (Nat.le_of_ble_eq_true rfl) d_B_init_36 (fun H locs hH => ?_)
  refine lv_aload_n hx hb d_B_init_39 rfl (lv_at hl 0 rfl) ?_
  refine bc_get0 (ix := 26) (ci := 0) (T := F_B) (N := 11) (k := 2) (fs := [.ref qV, .ref a6, .ref a7, .null, .null, .null, .int 0, .int 0, .int 0, .int 0, .int 0]) (v := .ref a7) C0 hH rfl i_B F_B_own (by decide) q_237 d_B_init_40 rfl ?_
  refine lv_bipush (v := 12) hx hb d_B_init_43 (by decide) ?_
  refine bc_cS (X := (h0, .inr (0, [.ref qV, .ref a6, .ref a7, .null, .null, .null, .int 0, .int 0, .int 0, .int 0, .int 0])) :: (qV, .inr (4, [.ref qi, .ref qn, .ref qc, .ref qb, .int 118])) :: (qi, eI Z 24 (fun _ => 0)) :: (qn, eI Z 12 (fun _ => 0)) :: (qc, eI Z 512 (zc0 118)) :: (qb, eI Z 512 (zc0 118)) :: (a6, eI Z 8 (fun k => if k < 8 then 0 else 0)) :: []) (wc := [(a7, eI Z 8 (fun _ => 0))]) (as := [.ref a7, .int 12]) (rest := []) C0 hE hH (c_J_fill0 hl0) yy_J_fill q_168 ⟨Nat.le_of_ble_eq_true rfl, Nat.le_of_ble_eq_true rfl⟩ rfl hl.1 rfl (Nat.le_of_ble_eq_true rfl) ⟨Nat.le_of_ble_eq_true rfl, Nat.le_of_ble_eq_true rfl⟩ d_B_init_45 (fun w1 H locs hw hH => ?_)
  subst hw
  refine lv_aload_n hx hb d_B_init_48 rfl (lv_at hl 0 rfl) ?_
  refine lv_iconst (v := 4) hx hb d_B_init_49 (by decide) ?_
  refine bc_newQ (N' := 4) (t0 := 1) (cA := Z.2.2.1) (C := "FilterBench$Filter") C0 hH q_171 hE.1 rfl (by decide) rfl (by decide) (Nat.le_of_ble_eq_true rfl) (Nat.le_of_ble_eq_true rfl) d_B_init_50 (fun a8 H hH => ?_)
  refine bc_putF0 (ix := 31) (ci := 0) (T := F_B) (N := 11) (k := 3) (ty0 := .array (.object "FilterBench$Filter")) (fs := [.ref qV, .ref a6, .ref a7, .null, .null, .null, .int 0, .int 0, .int 0, .int 0, .int 0]) (w := ((qV, .inr (4, [.ref qi, .ref qn, .ref qc, .ref qb, .int 118])) :: (qi, eI Z 24 (fun _ => 0)) :: (qn, eI Z 12 (fun _ => 0)) :: (qc, eI Z 512 (zc0 118)) :: (qb, eI Z 512 (zc0 118)) :: (a6, eI Z 8 (fun k => if k < 8 then 0 else 0)) :: (a7, eI Z 8 (fun k => if k < 8 then 12 else 0)) :: (a8, eQ Z.2.2.1 4 (fun _ => none)) :: [])) C0 hin hH rfl i_B t_B t_B_ok n_B F_B_own (by decide) q_238 rfl (by decide +kernel) rfl rfl (Nat.le_of_ble_eq_true rfl) d_B_init_53 (fun H locs hH => ?_)
  refine W.widen (k := 8) (n := 1085) (by decide) (by decide) ?_
  have tail : ∀ (F : Nat → Nat → Nat) (H : Heap) (locs : List Loc) (ls : Array Slot), bc_H Z A s ((h0, .inr (0, [.ref qV, .ref a6, .ref a7, .ref a8, .null, .null, .int 0, .int 0, .int 0, .int 0, .int 0])) :: (qV, .inr (4, [.ref qi, .ref qn, .ref qc, .ref qb, .int 118])) :: (qi, eI Z 24 (fun _ => 0)) :: (qn, eI Z 12 (fun _ => 0)) :: (qc, eI Z 512 (zc0 118)) :: (qb, eI Z 512 (zc0 118)) :: (a6, eI Z 8 (fun k => if k < 8 then 0 else 0)) :: (a7, eI Z 8 (fun k => if k < 8 then 12 else 0)) :: (a8, eQ Z.2.2.1 4 (ffE F (4))) :: flE Z F (4)) H locs → lv_has ls 2 [(0, .ref h0)] → W p l e (bn_rm 3 61 1834) s m [Value.ref h0].toArray below meth c H locs 24 1485 QQ (F0 m 82 ls []) := by
    intro F H locs ls hH hl
    refine lv_aload_n hx hb d_B_init_82 rfl (lv_at hl 0 rfl) ?_
    refine bc_new (ix := 36) (ci := 3) (C := "FilterBench$Runner") (T := F_N) (N := 6) (fs := [.null, .null, .null, .null, .null, .int 0]) C0 hH rfl i_N t_N t_N_ok q_191 q_192 q_107 (fun j hj => by rcases (show j = 0 ∨ j = 1 ∨ j = 2 ∨ j = 3 ∨ j = 4 ∨ j = 5 by omega) with rfl | rfl | rfl | rfl | rfl | rfl <;> rfl) (Nat.le_of_ble_eq_true rfl) (Nat.le_of_ble_eq_true rfl) d_B_init_83 (fun qN H hH => ?_)
    refine lv_dup hx hb d_B_init_86 rfl ?_
    refine lv_aload_n hx hb d_B_init_87 rfl (lv_at hl 0 rfl) ?_
    refine bc_get0 (ix := 10) (ci := 0) (T := F_B) (N := 11) (k := 0) (fs := [.ref qV, .ref a6, .ref a7, .ref a8, .null, .null, .int 0, .int 0, .int 0, .int 0, .int 0]) (v := .ref qV) C0 hH rfl i_B F_B_own (by decide) q_235 d_B_init_88 rfl ?_
    refine lv_aload_n hx hb d_B_init_91 rfl (lv_at hl 0 rfl) ?_
    refine bc_get0 (ix := 26) (ci := 0) (T := F_B) (N := 11) (k := 2) (fs := [.ref qV, .ref a6, .ref a7, .ref a8, .null, .null, .int 0, .int 0, .int 0, .int 0, .int 0]) (v := .ref a7) C0 hH rfl i_B F_B_own (by decide) q_237 d_B_init_92 rfl ?_
    refine lv_aload_n hx hb d_B_init_95 rfl (lv_at hl 0 rfl) ?_
    refine bc_get0 (ix := 31) (ci := 0) (T := F_B) (N := 11) (k := 3) (fs := [.ref qV, .ref a6, .ref a7, .ref a8, .null, .null, .int 0, .int 0, .int 0, .int 0, .int 0]) (v := .ref a8) C0 hH rfl i_B F_B_own (by decide) q_238 d_B_init_96 rfl ?_
    refine lv_iconst (v := 0) hx hb d_B_init_99 (by decide) ?_
    refine va_aldq hx hb hK hH.1 8 1 rfl rfl (vpI (v := 0) (by decide) (by decide)) d_B_init_100 ?_
    refine bc_cI (X := ((h0, .inr (0, [.ref qV, .ref a6, .ref a7, .ref a8, .null, .null, .int 0, .int 0, .int 0, .int 0, .int 0])) :: (qV, .inr (4, [.ref qi, .ref qn, .ref qc, .ref qb, .int 118])) :: (qi, eI Z 24 (fun _ => 0)) :: (qn, eI Z 12 (fun _ => 0)) :: (qc, eI Z 512 (zc0 118)) :: (qb, eI Z 512 (zc0 118)) :: (a6, eI Z 8 (fun k => if k < 8 then 0 else 0)) :: (a7, eI Z 8 (fun k => if k < 8 then 12 else 0)) :: (a8, eQ Z.2.2.1 4 (ffE F (4))) :: flE Z F (4))) (wc := [(qN, .inr (3, [.null, .null, .null, .null, .null, .int 0]))]) (as := [.ref qV, .ref a7, .ref (F 0 0)]) (rest := [.ref qN, .ref h0]) (C := "FilterBench$Runner") C0 hE hH (c_N_init hl0 qN qV a7 (F 0 0)) rfl rfl q_194 q_195 q_107 (by decide +kernel) (by decide +kernel) (show _ = some 3 by decide +kernel) q_193 ⟨Nat.le_of_ble_eq_true rfl, Nat.le_of_ble_eq_true rfl⟩ rfl hl.1 rfl (Nat.le_of_ble_eq_true rfl) ⟨Nat.le_of_ble_eq_true rfl, Nat.le_of_ble_eq_true rfl⟩ d_B_init_101 (fun w1 H locs hw hH => ?_)
    obtain ⟨qv, qr, r, i, rfl⟩ := hw
    refine bc_putF0 (ix := 41) (ci := 0) (T := F_B) (N := 11) (k := 4) (ty0 := .object "FilterBench$Runner") (fs := [.ref qV, .ref a6, .ref a7, .ref a8, .null, .null, .int 0, .int 0, .int 0, .int 0, .int 0]) (w := ((qV, .inr (4, [.ref qi, .ref qn, .ref qc, .ref qb, .int 118])) :: (qi, eI Z 24 (fun _ => 0)) :: (qn, eI Z 12 (fun _ => 0)) :: (qc, eI Z 512 (zc0 118)) :: (qb, eI Z 512 (zc0 118)) :: (a6, eI Z 8 (fun k => if k < 8 then 0 else 0)) :: (a7, eI Z 8 (fun k => if k < 8 then 12 else 0)) :: (a8, eQ Z.2.2.1 4 (ffE F (4))) :: flE Z F (4) ++ ((qN, .inr (3, [.ref qV, .ref a7, .ref qv, .ref qr, .ref (F 0 0), .int 0])) :: (qv, eI Z 4 (fun _ => 0)) :: (qr, eQ Z.2.2.2.1 16 (rfE r 16)) :: rlE Z r i 16))) C0 hin hH rfl i_B t_B t_B_ok n_B F_B_own (by decide) q_239 rfl (by decide +kernel) rfl rfl (Nat.le_of_ble_eq_true rfl) d_B_init_104 (fun H locs hH => ?_)
    refine lv_aload_n hx hb d_B_init_107 rfl (lv_at hl 0 rfl) ?_
    refine bc_new (ix := 45) (ci := 2) (C := "FilterBench$Row") (T := F_R) (N := 3) (fs := [.null, .int 0, .int 0]) C0 hH rfl i_R t_R t_R_ok q_233 q_199 q_108 (fun j hj => by rcases (show j = 0 ∨ j = 1 ∨ j = 2 by omega) with rfl | rfl | rfl <;> rfl) (Nat.le_of_ble_eq_true rfl) (Nat.le_of_ble_eq_true rfl) d_B_init_108 (fun qR H hH => ?_)
    refine lv_dup hx hb d_B_init_111 rfl ?_
    refine bc_cIN (X := ((h0, .inr (0, [.ref qV, .ref a6, .ref a7, .ref a8, .ref qN, .null, .int 0, .int 0, .int 0, .int 0, .int 0])) :: ((qV, .inr (4, [.ref qi, .ref qn, .ref qc, .ref qb, .int 118])) :: (qi, eI Z 24 (fun _ => 0)) :: (qn, eI Z 12 (fun _ => 0)) :: (qc, eI Z 512 (zc0 118)) :: (qb, eI Z 512 (zc0 118)) :: (a6, eI Z 8 (fun k => if k < 8 then 0 else 0)) :: (a7, eI Z 8 (fun k => if k < 8 then 12 else 0)) :: (a8, eQ Z.2.2.1 4 (ffE F (4))) :: flE Z F (4) ++ ((qN, .inr (3, [.ref qV, .ref a7, .ref qv, .ref qr, .ref (F 0 0), .int 0])) :: (qv, eI Z 4 (fun _ => 0)) :: (qr, eQ Z.2.2.2.1 16 (rfE r 16)) :: rlE Z r i 16)))) (wc := [(qR, .inr (2, [.null, .int 0, .int 0]))]) (as := []) (rest := [.ref qR, .ref h0]) (C := "FilterBench$Row") C0 hE hH (c_R_init hl0 qR) rfl rfl q_201 q_202 q_108 (by decide +kernel) (by decide +kernel) (by decide +kernel) (hX.2.2.2.2.2.2.1 _ (List.mem_of_getElem? (i := 2) rfl)) ⟨Nat.le_of_ble_eq_true rfl, Nat.le_of_ble_eq_true rfl⟩ rfl hl.1 rfl (Nat.le_of_ble_eq_true rfl) ⟨Nat.le_of_ble_eq_true rfl, Nat.le_of_ble_eq_true rfl⟩ d_B_init_112 (fun w1 H locs hw hH => ?_)
    obtain ⟨qs, rfl⟩ := hw
    refine bc_putF0 (ix := 48) (ci := 0) (T := F_B) (N := 11) (k := 5) (ty0 := .object "FilterBench$Row") (fs := [.ref qV, .ref a6, .ref a7, .ref a8, .ref qN, .null, .int 0, .int 0, .int 0, .int 0, .int 0]) (w := (((qV, .inr (4, [.ref qi, .ref qn, .ref qc, .ref qb, .int 118])) :: (qi, eI Z 24 (fun _ => 0)) :: (qn, eI Z 12 (fun _ => 0)) :: (qc, eI Z 512 (zc0 118)) :: (qb, eI Z 512 (zc0 118)) :: (a6, eI Z 8 (fun k => if k < 8 then 0 else 0)) :: (a7, eI Z 8 (fun k => if k < 8 then 12 else 0)) :: (a8, eQ Z.2.2.1 4 (ffE F (4))) :: flE Z F (4) ++ ((qN, .inr (3, [.ref qV, .ref a7, .ref qv, .ref qr, .ref (F 0 0), .int 0])) :: (qv, eI Z 4 (fun _ => 0)) :: (qr, eQ Z.2.2.2.1 16 (rfE r 16)) :: rlE Z r i 16)) ++ ([(qR, .inr (2, [.ref qs, .int 0, .int (-1)])), (qs, .inl (Z.2.1, (16, .inl (fun _ => 0))))] : va_W))) C0 hin hH rfl i_B t_B t_B_ok n_B F_B_own (by decide) q_240 rfl (by decide +kernel) rfl rfl (Nat.le_of_ble_eq_true rfl) d_B_init_115 (fun H locs hH => ?_)
    refine lv_aload_n hx hb d_B_init_118 rfl (lv_at hl 0 rfl) ?_
    refine lv_iconst (v := 0) hx hb d_B_init_119 (by decide) ?_
    refine bc_put0 (ix := 52) (ci := 0) (T := F_B) (N := 11) (k := 7) (ty0 := .int) (fs := [.ref qV, .ref a6, .ref a7, .ref a8, .ref qN, .ref qR, .int 0, .int 0, .int 0, .int 0, .int 0]) (w := (((qV, .inr (4, [.ref qi, .ref qn, .ref qc, .ref qb, .int 118])) :: (qi, eI Z 24 (fun _ => 0)) :: (qn, eI Z 12 (fun _ => 0)) :: (qc, eI Z 512 (zc0 118)) :: (qb, eI Z 512 (zc0 118)) :: (a6, eI Z 8 (fun k => if k < 8 then 0 else 0)) :: (a7, eI Z 8 (fun k => if k < 8 then 12 else 0)) :: (a8, eQ Z.2.2.1 4 (ffE F (4))) :: flE Z F (4) ++ ((qN, .inr (3, [.ref qV, .ref a7, .ref qv, .ref qr, .ref (F 0 0), .int 0])) :: (qv, eI Z 4 (fun _ => 0)) :: (qr, eQ Z.2.2.2.1 16 (rfE r 16)) :: rlE Z r i 16)) ++ ([(qR, .inr (2, [.ref qs, .int 0, .int (-1)])), (qs, .inl (Z.2.1, (16, .inl (fun _ => 0))))] : va_W))) C0 hH rfl i_B t_B t_B_ok n_B F_B_own (by decide) q_242 rfl (by decide +kernel) rfl rfl (Nat.le_of_ble_eq_true rfl) d_B_init_120 (fun H locs hH => ?_)
    obtain ⟨q, hq⟩ : ∃ q : Nat → Nat, q = fun k => (((h0, .inr (0, [.ref qV, .ref a6, .ref a7, .ref a8, .ref qN, .ref qR, .int 0, .int 0, .int 0, .int 0, .int 0])) :: (((qV, .inr (4, [.ref qi, .ref qn, .ref qc, .ref qb, .int 118])) :: (qi, eI Z 24 (fun _ => 0)) :: (qn, eI Z 12 (fun _ => 0)) :: (qc, eI Z 512 (zc0 118)) :: (qb, eI Z 512 (zc0 118)) :: (a6, eI Z 8 (fun k => if k < 8 then 0 else 0)) :: (a7, eI Z 8 (fun k => if k < 8 then 12 else 0)) :: (a8, eQ Z.2.2.1 4 (ffE F (4))) :: flE Z F (4) ++ ((qN, .inr (3, [.ref qV, .ref a7, .ref qv, .ref qr, .ref (F 0 0), .int 0])) :: (qv, eI Z 4 (fun _ => 0)) :: (qr, eQ Z.2.2.2.1 16 (rfE r 16)) :: rlE Z r i 16)) ++ ([(qR, .inr (2, [.ref qs, .int 0, .int (-1)])), (qs, .inl (Z.2.1, (16, .inl (fun _ => 0))))] : va_W))).map Prod.fst).getD k 0 := ⟨_, rfl⟩
    have hP := bi_P (Z := Z) hq hH.1
    have hD := bi_D (Z := Z) hq hH.2.1
    rw [hQQ]
    exact bc_vret C0 hr ⟨hP, hD, hH.2.2⟩ d_B_init_123 ⟨q, by rw [hq]; rfl, rfl⟩ (Nat.le_of_ble_eq_true rfl) (Nat.le_of_ble_eq_true rfl)
  have loop : ∀ (n k : Nat) (F : Nat → Nat → Nat) (H : Heap) (locs : List Loc) (ls : Array Slot), k + n = 4 → bc_H Z A s ((h0, .inr (0, [.ref qV, .ref a6, .ref a7, .ref a8, .null, .null, .int 0, .int 0, .int 0, .int 0, .int 0])) :: (qV, .inr (4, [.ref qi, .ref qn, .ref qc, .ref qb, .int 118])) :: (qi, eI Z 24 (fun _ => 0)) :: (qn, eI Z 12 (fun _ => 0)) :: (qc, eI Z 512 (zc0 118)) :: (qb, eI Z 512 (zc0 118)) :: (a6, eI Z 8 (fun k => if k < 8 then 0 else 0)) :: (a7, eI Z 8 (fun k => if k < 8 then 12 else 0)) :: (a8, eQ Z.2.2.1 4 (ffE F (k))) :: flE Z F (k)) H locs → lv_has ls 2 [(0, .ref h0), (1, .int (zI k))] → W p l e (bn_rm 3 61 1834) s m [Value.ref h0].toArray below meth c H locs (8 + 4 * k) (1085 + 100 * k) QQ (F0 m 58 ls []) := by
    intro n
    induction n with
    | zero =>
      intro k F H locs ls hk hH hl
      obtain rfl : k = 4 := by omega
      refine lv_iload_n hx hb d_B_init_58 rfl (lv_at hl 1 rfl) ?_
      refine lv_iconst (v := 4) hx hb d_B_init_59 (by decide) ?_
      refine lv_icmp_ge (tgt := 82) hx hb d_B_init_60 (by decide) (fun c_1 => ?_) (fun c_1 => ?_)
      · exact tail F H locs ls hH (lv_sub hl [0] rfl)
      · exact absurd (by decide) c_1
    | succ n ih =>
      intro k F H locs ls hk hH hl
      refine lv_iload_n hx hb d_B_init_58 rfl (lv_at hl 1 rfl) ?_
      refine lv_iconst (v := 4) hx hb d_B_init_59 (by decide) ?_
      refine lv_icmp_ge (tgt := 82) hx hb d_B_init_60 (by decide) (fun c_1 => ?_) (fun c_1 => ?_)
      · rw [zl_4, zI_le (by omega) (by omega)] at c_1
        omega
      · refine lv_aload_n hx hb d_B_init_63 rfl (lv_at hl 0 rfl) ?_
        refine bc_get0 (ix := 31) (ci := 0) (T := F_B) (N := 11) (k := 3) (fs := [.ref qV, .ref a6, .ref a7, .ref a8, .null, .null, .int 0, .int 0, .int 0, .int 0, .int 0]) (v := .ref a8) C0 hH rfl i_B F_B_own (by decide) q_238 d_B_init_64 rfl ?_
        refine lv_iload_n hx hb d_B_init_67 rfl (lv_at hl 1 rfl) ?_
        refine bc_new (ix := 29) (ci := 1) (C := "FilterBench$Filter") (T := F_F) (N := 4) (fs := [.null, .null, .null, .int 0]) C0 hH rfl i_F t_F t_F_ok q_171 q_173 q_106 (fun j hj => by rcases (show j = 0 ∨ j = 1 ∨ j = 2 ∨ j = 3 by omega) with rfl | rfl | rfl | rfl <;> rfl) (by show _ ≤ 61; omega) (by show _ ≤ 1834; omega) d_B_init_68 (fun q H hH => ?_)
        refine lv_dup hx hb d_B_init_71 rfl ?_
        refine bc_cIN (X := (h0, .inr (0, [.ref qV, .ref a6, .ref a7, .ref a8, .null, .null, .int 0, .int 0, .int 0, .int 0, .int 0])) :: (qV, .inr (4, [.ref qi, .ref qn, .ref qc, .ref qb, .int 118])) :: (qi, eI Z 24 (fun _ => 0)) :: (qn, eI Z 12 (fun _ => 0)) :: (qc, eI Z 512 (zc0 118)) :: (qb, eI Z 512 (zc0 118)) :: (a6, eI Z 8 (fun k => if k < 8 then 0 else 0)) :: (a7, eI Z 8 (fun k => if k < 8 then 12 else 0)) :: (a8, eQ Z.2.2.1 4 (ffE F (k))) :: flE Z F (k)) (wc := [(q, .inr (1, [.null, .null, .null, .int 0]))]) (as := []) (rest := [.ref q, .int (zI k), .ref a8]) (C := "FilterBench$Filter") C0 hE hH (c_F_init hl0 q) rfl rfl q_175 q_176 q_106 (by decide +kernel) (by decide +kernel) (by decide +kernel) (hX.2.2.2.2.2.2.1 _ (List.mem_of_getElem? (i := 0) rfl)) ⟨Nat.le_of_ble_eq_true rfl, Nat.le_of_ble_eq_true rfl⟩ rfl hl.1 rfl (Nat.le_of_ble_eq_true rfl) ⟨by show _ ≤ 61; omega, by show _ ≤ 1834; omega⟩ d_B_init_72 (fun w1 H locs hw hH => ?_)
        obtain ⟨q1, q2, q3, rfl⟩ := hw
        have hlen : ((h0, .inr (0, [.ref qV, .ref a6, .ref a7, .ref a8, .null, .null, .int 0, .int 0, .int 0, .int 0, .int 0])) :: (qV, .inr (4, [.ref qi, .ref qn, .ref qc, .ref qb, .int 118])) :: (qi, eI Z 24 (fun _ => 0)) :: (qn, eI Z 12 (fun _ => 0)) :: (qc, eI Z 512 (zc0 118)) :: (qb, eI Z 512 (zc0 118)) :: (a6, eI Z 8 (fun k => if k < 8 then 0 else 0)) :: (a7, eI Z 8 (fun k => if k < 8 then 12 else 0)) :: (a8, eQ Z.2.2.1 4 (ffE F (k))) :: flE Z F (k)).length = 9 + 4 * k := by
          show (flE Z F k).length + 1 + 1 + 1 + 1 + 1 + 1 + 1 + 1 + 1 = _
          rw [flE_l]; omega
        have hat : ((h0, .inr (0, [.ref qV, .ref a6, .ref a7, .ref a8, .null, .null, .int 0, .int 0, .int 0, .int 0, .int 0])) :: (qV, .inr (4, [.ref qi, .ref qn, .ref qc, .ref qb, .int 118])) :: (qi, eI Z 24 (fun _ => 0)) :: (qn, eI Z 12 (fun _ => 0)) :: (qc, eI Z 512 (zc0 118)) :: (qb, eI Z 512 (zc0 118)) :: (a6, eI Z 8 (fun k => if k < 8 then 0 else 0)) :: (a7, eI Z 8 (fun k => if k < 8 then 12 else 0)) :: (a8, eQ Z.2.2.1 4 (ffE F (k))) :: flE Z F (k) ++ [(q, .inr (1, [.ref q1, .ref q2, .ref q3, .int 0])), (q1, .inl (Z.2.1, (32, .inl (fun _ => 0)))), (q2, .inl (Z.2.1, (32, .inl (fun _ => 0)))), (q3, .inl (Z.2.1, (32, .inl (fun _ => 0))))])[9 + 4 * k]? = some (q, .inr (1, [.ref q1, .ref q2, .ref q3, .int 0])) := by
          rw [← hlen]
          exact pl_at (k := 0)
        refine va_astq hx hb hK hH.1 hH.2.1 hH.2.2 8 1 (9 + 4 * k) 1 rfl rfl hat rfl (vpI (by omega) (by decide)) d_B_init_75 (fun H1 locs1 hP hD hS => ?_)
        obtain ⟨G, hG⟩ : ∃ G : Nat → Nat → Nat, G = va_up F k (fun t => if t = 0 then q else if t = 1 then q1 else if t = 2 then q2 else q3) := ⟨_, rfl⟩
        have eG : G k = fun t => if t = 0 then q else if t = 1 then q1 else if t = 2 then q2 else q3 := by rw [hG]; unfold va_up; rw [if_pos rfl]
        have eGj : ∀ j, j ≠ k → G j = F j := fun j hj => by rw [hG]; unfold va_up; rw [if_neg hj]
        have ef : va_up (ffE F k) k (some q) = ffE G (k + 1) := by
          unfold ffE
          rw [rfE_up]
          congr 1
          funext j
          unfold va_up
          by_cases cj : j = k
          · rw [if_pos cj, cj, eG]; rfl
          · rw [if_neg cj, eGj j cj]
        rw [zI_toNat (by omega), ef] at hP hD
        have el : flE Z F k ++ [(q, .inr (1, [.ref q1, .ref q2, .ref q3, .int 0])), (q1, .inl (Z.2.1, (32, .inl (fun _ => 0)))), (q2, .inl (Z.2.1, (32, .inl (fun _ => 0)))), (q3, .inl (Z.2.1, (32, .inl (fun _ => 0))))] = flE Z G (k + 1) := by
          rw [flE_s, flE_c k (fun j hj => eGj j (by omega)), eG]
          rfl
        have hH : bc_H Z A s ((h0, .inr (0, [.ref qV, .ref a6, .ref a7, .ref a8, .null, .null, .int 0, .int 0, .int 0, .int 0, .int 0])) :: (qV, .inr (4, [.ref qi, .ref qn, .ref qc, .ref qb, .int 118])) :: (qi, eI Z 24 (fun _ => 0)) :: (qn, eI Z 12 (fun _ => 0)) :: (qc, eI Z 512 (zc0 118)) :: (qb, eI Z 512 (zc0 118)) :: (a6, eI Z 8 (fun k => if k < 8 then 0 else 0)) :: (a7, eI Z 8 (fun k => if k < 8 then 12 else 0)) :: (a8, eQ Z.2.2.1 4 (ffE G (k + 1))) :: flE Z G (k + 1)) H1 locs1 := by
          rw [← el]
          exact ⟨hP, hD, hS⟩
        have ei : zI k + 1 = zI (k + 1) := by rw [zl_1, zI_add]
        refine lv_iinc (v := zI (k + 1)) (lv' := [(1, .int (zI (k + 1))), (0, .ref h0)]) hx hb d_B_init_76 hl (k := 1) rfl (by rw [← ei]; rfl) (by decide) rfl (fun ls hl => ?_)
        refine lv_goto (tgt := 58) hx hb d_B_init_79 (by decide) ?_
        refine W.widen (k := 8 + 4 * (k + 1)) (n := 1085 + 100 * (k + 1)) (by omega) (by omega) ?_
        exact ih (k + 1) G H1 locs1 ls (by omega) hH (lv_sub hl [1, 0] rfl)
  refine lv_iconst (v := 0) hx hb d_B_init_56 (by decide) ?_
  refine lv_istore_n (lv' := [(1, .int 0), (0, .ref h0)]) hx hb d_B_init_57 rfl hl (by decide) rfl (fun ls hl => ?_)
  have e0 : ffE (fun _ _ => 0) 0 = fun _ => none := by funext j; unfold ffE rfE; rw [if_neg (by omega)]
  refine loop 4 0 (fun _ _ => 0) H locs ls (by omega) ?_ (lv_sub hl [1, 0] rfl)
  rw [e0]
  exact hH
