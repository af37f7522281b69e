/-! a new bench in numbers -/
def zc0 (t : Nat) : Nat → Int32 := fun i => if i < t then zI (zin i) else 0
theorem zc0_4 {t a b c d : Nat} (h0 : zin t = a) (h1 : zin (t + 1) = b) (h2 : zin (t + 2) = c) (h3 : zin (t + 3) = d) : upd (upd (upd (upd (zc0 t) t (zI a)) (t + 1) (zI b)) (t + 2) (zI c)) (t + 3) (zI d) = zc0 (t + 4) := by
  funext i
  unfold upd zc0
  by_cases c3 : i = t + 3
  · subst c3; rw [if_pos rfl, if_pos (by omega), h3]
  · rw [if_neg c3]
    by_cases c2 : i = t + 2
    · subst c2; rw [if_pos rfl, if_pos (by omega), h2]
    · rw [if_neg c2]
      by_cases c1 : i = t + 1
      · subst c1; rw [if_pos rfl, if_pos (by omega), h1]
      · rw [if_neg c1]
        by_cases c0 : i = t
        · subst c0; rw [if_pos rfl, if_pos (by omega), h0]
        · rw [if_neg c0]
          by_cases ct : i < t
          · rw [if_pos ct, if_pos (by omega)]
          · rw [if_neg ct, if_neg (by omega)]
theorem zc0_6 {t k : Nat} (h4 : zin (t + 4) = k) (h5 : zin (t + 5) = 0) : upd (zc0 (t + 4)) (t + 4) (zI k) = zc0 (t + 6) := by
  funext i
  unfold upd zc0
  by_cases c4 : i = t + 4
  · subst c4; rw [if_pos rfl, if_pos (by omega), h4]
  · rw [if_neg c4]
    by_cases ct : i < t + 4
    · rw [if_pos ct, if_pos (by omega)]
    · rw [if_neg ct]
      by_cases c5 : i = t + 5
      · subst c5; rw [if_pos (by omega), h5]; rfl
      · rw [if_neg (by omega)]
theorem zc0_0 : zc0 0 = fun _ => 0 := by
  funext i
  unfold zc0
  rw [if_neg (by omega)]
def bv0 : mS := fun j k => if j = 1 then (if k = 4 then 118 else 0) else if j = 4 ∨ j = 5 then zc0 118 k else if j = 7 then (if k < 8 then 12 else 0) else if 28 ≤ j ∧ j % 2 = 0 ∧ k = 2 then -1 else 0
def bg0 : Nat → Nat := fun k => if k = 4 ∨ k = 5 then 512 else 0
theorem z_start {w : mS} (m7 : w 0 7 = zI 16) (m6 : ∀ k, k < 3 → zU (w 6) 16 (4 + 4 * k) (zW k)) (m8 : ∀ k, k < 8 → w 8 k = zI 4) (m2 : ∀ k, k < 8 → w 2 k = 0) (m5 : ∀ k, k < 4 → w 5 k = 0) (m34 : ∀ k, k < 128 → w 3 k = 0 ∧ w 4 k = 0) (m0 : w 0 12 = 0 ∧ w 0 13 = zI 4 ∧ w 0 20 = 0 ∧ w 0 22 = 0 ∧ w 0 23 = 0) : zZ 0 bg0 bv0 w := by
  have e4 : bv0 4 = zc0 118 := by funext k; unfold bv0; rw [if_neg (by decide), if_pos (by decide)]
  have e5 : bv0 5 = zc0 118 := by funext k; unfold bv0; rw [if_neg (by decide), if_pos (by decide)]
  refine z_init rfl rfl ?_ (fun i hi => ?_) (fun i hi => by rw [e4, e5]) (fun k hk => ?_) (fun k hk => ?_) (fun f hf => ⟨?_, fun k hk => ⟨?_, ?_⟩⟩) (fun k h1 h2 => ?_) m7 m6 m8 m2 m5 m34 m0
  · unfold bv0; rw [if_pos rfl, if_pos rfl]; rfl
  · rw [e4]; unfold zc0; rw [if_pos hi]
  · unfold bv0; rw [if_neg (by decide), if_neg (by decide), if_neg (by decide), if_neg (by omega)]
  · unfold bv0; rw [if_neg (by decide), if_neg (by decide), if_pos rfl, if_pos hk]; rfl
  · unfold bv0; rw [if_neg (by omega), if_neg (by omega), if_neg (by omega), if_neg (by omega)]
  · unfold bv0; rw [if_neg (by omega), if_neg (by omega), if_neg (by omega), if_neg (by omega)]
  · unfold bv0; rw [if_neg (by omega), if_neg (by omega), if_neg (by omega), if_neg (by omega)]
  · unfold bv0; rw [if_neg (by decide), if_neg (by decide), if_neg (by decide), if_neg (by omega)]
