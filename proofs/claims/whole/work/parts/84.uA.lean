/-! a new bench: what stands in both at first -/
def zin (i : Nat) : Nat := if i < 12 then (if i % 4 = 0 then i / 4 else if i % 4 = 2 then 1 else 0) else if i < 16 then (if i = 12 then 4 else if i = 14 then 1 else 0) else if i < 118 then (if (i - 16) % 6 = 0 then 3 else if (i - 16) % 6 = 2 then 1 else if (i - 16) % 6 = 4 then (i - 16) / 6 else 0) else 0
theorem zin_a {k : Nat} (h : k < 3) : zin (4 * k) = k ∧ zin (4 * k + 1) = 0 ∧ zin (4 * k + 2) = 1 ∧ zin (4 * k + 3) = 0 := by
  rcases (show k = 0 ∨ k = 1 ∨ k = 2 by omega) with rfl | rfl | rfl <;> decide
theorem zin_b : zin 12 = 4 ∧ zin 13 = 0 ∧ zin 14 = 1 ∧ zin 15 = 0 := by decide
theorem zin_c {k : Nat} (h : k ≤ 16) : zin (16 + 6 * k) = 3 ∧ zin (16 + 6 * k + 1) = 0 ∧ zin (16 + 6 * k + 2) = 1 ∧ zin (16 + 6 * k + 3) = 0 ∧ zin (16 + 6 * k + 4) = k ∧ zin (16 + 6 * k + 5) = 0 := by
  rcases (show k = 0 ∨ k = 1 ∨ k = 2 ∨ k = 3 ∨ k = 4 ∨ k = 5 ∨ k = 6 ∨ k = 7 ∨ k = 8 ∨ k = 9 ∨ k = 10 ∨ k = 11 ∨ k = 12 ∨ k = 13 ∨ k = 14 ∨ k = 15 ∨ k = 16 by omega) with rfl | rfl | rfl | rfl | rfl | rfl | rfl | rfl | rfl | rfl | rfl | rfl | rfl | rfl | rfl | rfl | rfl <;> decide
theorem zwf_W {k : Nat} (h : k < 3) : zwf 6 (zW k) := by
  have k1 : zk (zW k) = k := rfl
  have s1 : zs (zW k) = 1 := rfl
  have d1 : zd (zW k) = 0 := rfl
  have l1 : zl (zW k) = 0 := rfl
  exact ⟨by omega, by omega, by omega, fun _ => ⟨s1, d1⟩, fun _ => l1, fun q => absurd q (by omega), fun q => absurd q (by omega), fun q => absurd q (by omega), fun q => absurd q (by omega), fun q => absurd q (by omega)⟩
theorem zred_k : ∀ (s : Nat) (m : Int), zred s (m * 10 ^ s) = (m, 0) := by
  intro s
  induction s with
  | zero => intro m; simp [zred]
  | succ s ih =>
    intro m
    have e1 : m * 10 ^ (s + 1) = (m * 10 ^ s) * 10 := by rw [Int.pow_succ, Int.mul_assoc]
    show (if (m * 10 ^ (s + 1)) % 10 = 0 then zred s (m * 10 ^ (s + 1) / 10) else _) = _
    rw [e1, if_pos (Int.mul_emod_left _ _), Int.mul_ediv_cancel _ (by decide), ih]
theorem zred_m (k : Nat) : zred 6 ((k : Int) * 1000000) = ((k : Int), 0) := zred_k 6 k
theorem zB_in {c : Nat → Int32} (h : ∀ i, i < 118 → c i = zI (zin i)) : zB c := by
  refine ⟨fun k hk => ?_, ?_, fun k hk => ?_⟩
  · obtain ⟨a, b, d, e⟩ := zin_a hk
    have k1 : zk (zW k) = k := rfl
    have s1 : zs (zW k) = 1 := rfl
    have d1 : zd (zW k) = 0 := rfl
    have l1 : zl (zW k) = 0 := rfl
    refine ⟨⟨by omega, ?_, ?_, ?_, ?_, fun q => absurd q (by omega), fun q => absurd q (by omega), fun q => absurd q (by omega), fun q => absurd q (by omega), fun _ => ⟨by omega, by omega, fun q => absurd q (by omega)⟩⟩, zwf_W hk⟩
    · rw [h _ (by omega), a]; rfl
    · rw [h _ (by omega), b]; rfl
    · rw [h _ (by omega), d]; rfl
    · rw [h _ (by omega), e]; rfl
  · obtain ⟨a, b, d, e⟩ := zin_b
    refine ⟨by decide, ?_, ?_, ?_, ?_, fun k hk => absurd hk (Nat.not_lt_zero k), fun _ => by decide⟩
    · rw [h _ (by omega), a]
    · rw [h _ (by omega), b]
    · rw [h _ (by omega), d]
    · rw [h _ (by omega), e]
  · obtain ⟨a, b, d, e, f, i⟩ := zin_c hk
    have k1 : zk (zQ ((k : Int) * 1000000)) = 3 := rfl
    have s1 : zs (zQ ((k : Int) * 1000000)) = 1 := rfl
    have d1 : zd (zQ ((k : Int) * 1000000)) = 0 := rfl
    have l1 : zl (zQ ((k : Int) * 1000000)) = 0 := rfl
    have v1 : zv (zQ ((k : Int) * 1000000)) = (k : Int) * 1000000 := rfl
    refine ⟨⟨by omega, ?_, ?_, ?_, ?_, fun _ => ⟨by omega, ?_, ?_⟩, fun q => absurd q (by omega), fun q => absurd q (by omega), fun q => absurd q (by omega), fun _ => ⟨by omega, by omega, fun _ => by omega⟩⟩, ⟨by omega, by omega, by omega, fun _ => ⟨s1, d1⟩, fun _ => l1, fun _ => ?_, fun q => absurd q (by omega), fun q => absurd q (by omega), fun q => absurd q (by omega), fun q => absurd q (by omega)⟩⟩
    · rw [h _ (by omega), a]; rfl
    · rw [h _ (by omega), b]; rfl
    · rw [h _ (by omega), d]; rfl
    · rw [h _ (by omega), e]; rfl
    · rw [h _ (by omega), f, v1, zred_m, zI_J]
    · rw [h _ (by omega), i, v1, zred_m]
    · unfold zokN
      rw [v1, zred_m]
      dsimp only
      omega
theorem zU_W {h : Nat → Int32} {k : Nat} (hk : k < 3) (h0 : h (4 + 4 * k) = zI k) (h1 : h (4 + 4 * k + 1) = zI 1) (h2 : h (4 + 4 * k + 2) = zI 0) (h3 : h (4 + 4 * k + 3) = zI 0) : zU h 16 (4 + 4 * k) (zW k) := by
  have k1 : zk (zW k) = k := rfl
  exact ⟨⟨by omega, by omega, h0, h1, h2, h3, fun q => absurd q (by omega), fun q => absurd q (by omega), fun q => absurd q (by omega), fun q => absurd q (by omega)⟩, zwf_W hk⟩
theorem m_begin_l : ∀ (m i n : Nat) (v : mS), i + m = 3 → m < n → v 0 7 = zI (4 + 4 * i) → (∀ k, k < i → v 6 (4 + 4 * k) = zI k ∧ v 6 (4 + 4 * k + 1) = zI 1 ∧ v 6 (4 + 4 * k + 2) = zI 0 ∧ v 6 (4 + 4 * k + 3) = zI 0) → ∃ v', f_M_begin_7 n (zI i) v = some v' ∧ (∀ j, j ≠ 0 → j ≠ 6 → v' j = v j) ∧ (∀ k, k ≠ 7 → v' 0 k = v 0 k) ∧ v' 0 7 = zI 16 ∧ ∀ k, k < 3 → v' 6 (4 + 4 * k) = zI k ∧ v' 6 (4 + 4 * k + 1) = zI 1 ∧ v' 6 (4 + 4 * k + 2) = zI 0 ∧ v' 6 (4 + 4 * k + 3) = zI 0 := by
  intro m
  induction m with
  | zero =>
    intro i n v hi hn h7 hk
    obtain ⟨n, rfl, -⟩ := suc_of hn
    obtain rfl : i = 3 := by omega
    refine ⟨v, ?_, fun _ _ _ => rfl, fun _ _ => rfl, h7, hk⟩
    rw [f_M_begin_7, zl_3, iI_le (by omega) (by omega), if_pos (by omega)]
  | succ m ih =>
    intro i n v hi hn h7 hk
    obtain ⟨n, rfl, hn⟩ := suc_of hn
    have hn := Nat.lt_of_succ_lt_succ hn
    obtain ⟨w, ew⟩ : ∃ w : mS, w = sU (sU (sU (sU (sU v 6 (4 + 4 * i) (zI i)) 6 (4 + 4 * i + 1) 1) 6 (4 + 4 * i + 2) 0) 6 (4 + 4 * i + 3) 0) 0 7 (zI (4 + 4 * (i + 1))) := ⟨_, rfl⟩
    have w6 : w 6 = sU (sU (sU (sU v 6 (4 + 4 * i) (zI i)) 6 (4 + 4 * i + 1) 1) 6 (4 + 4 * i + 2) 0) 6 (4 + 4 * i + 3) 0 6 := by rw [ew, sU_j (by decide)]
    have wj : ∀ j, j ≠ 0 → j ≠ 6 → w j = v j := fun j h0 h6 => by rw [ew, sU_j h0, sU_j h6, sU_j h6, sU_j h6, sU_j h6]
    have w0 : ∀ k, k ≠ 7 → w 0 k = v 0 k := fun k h => by rw [ew, sU_k h, sU_j (by decide), sU_j (by decide), sU_j (by decide), sU_j (by decide)]
    have w7 : w 0 7 = zI (4 + 4 * (i + 1)) := by rw [ew, sU_hit]
    obtain ⟨v', a1, a2, a3, a4, a5⟩ := ih (i + 1) n w (by omega) hn w7 (fun k hk2 => by
      rw [w6]
      by_cases c : k = i
      · subst c
        refine ⟨?_, ?_, ?_, ?_⟩
        · rw [sU_k (by omega), sU_k (by omega), sU_k (by omega), sU_hit]
        · rw [sU_k (by omega), sU_k (by omega), sU_hit]; rfl
        · rw [sU_k (by omega), sU_hit]; rfl
        · rw [sU_hit]; rfl
      · obtain ⟨b1, b2, b3, b4⟩ := hk k (by omega)
        refine ⟨?_, ?_, ?_, ?_⟩
        · rw [sU_k (by omega), sU_k (by omega), sU_k (by omega), sU_k (by omega)]; exact b1
        · rw [sU_k (by omega), sU_k (by omega), sU_k (by omega), sU_k (by omega)]; exact b2
        · rw [sU_k (by omega), sU_k (by omega), sU_k (by omega), sU_k (by omega)]; exact b3
        · rw [sU_k (by omega), sU_k (by omega), sU_k (by omega), sU_k (by omega)]; exact b4)
    refine ⟨v', ?_, fun j h0 h6 => (a2 j h0 h6).trans (wj j h0 h6), fun k h => (a3 k h).trans (w0 k h), a4, a5⟩
    have e1 : zI (4 + 4 * i) + 1 = zI (4 + 4 * i + 1) := by rw [zl_1, zI_add]
    have e2 : zI (4 + 4 * i) + 2 = zI (4 + 4 * i + 2) := by rw [zl_2, zI_add]
    have e3 : zI (4 + 4 * i) + 3 = zI (4 + 4 * i + 3) := by rw [zl_3, zI_add]
    have e4 : zI (4 + 4 * i) + 4 = zI (4 + 4 * (i + 1)) := by rw [zl_4, zI_add]; congr 1
    have ei : zI i + 1 = zI (i + 1) := by rw [zl_1, zI_add]
    have hz : ∀ (u : mS) (k : Nat) (x : Int32), u 0 7 = zI (4 + 4 * i) → sU u 6 k x 0 7 = zI (4 + 4 * i) := fun u k x h => by rw [sU_j (by decide)]; exact h
    have h71 := hz v (4 + 4 * i) (zI i) h7
    have h72 := hz _ (4 + 4 * i + 1) 1 h71
    have h73 := hz _ (4 + 4 * i + 2) 0 h72
    have h74 := hz _ (4 + 4 * i + 3) 0 h73
    rw [f_M_begin_7, zl_3, iI_le (by omega) (by omega), if_neg (by omega), ← zl_3, h7, gd_I (by omega) (by omega), zI_toNat (by omega), nm_s, h71, e1, gd_I (by omega) (by omega), zI_toNat (by omega), nm_s, h72, e2, gd_I (by omega) (by omega), zI_toNat (by omega), nm_s, h73, e3, gd_I (by omega) (by omega), zI_toNat (by omega), nm_s, h74, e4, nm_s, ei, nm_s, ← ew, a1]
theorem m_begin (v : mS) : ∃ v', f_M_begin v = some v' ∧ (∀ j, j ≠ 0 → j ≠ 6 → v' j = v j) ∧ (∀ k, k ≠ 7 → v' 0 k = v 0 k) ∧ v' 0 7 = zI 16 ∧ ∀ k, k < 3 → zU (v' 6) 16 (4 + 4 * k) (zW k) := by
  obtain ⟨v', a1, a2, a3, a4, a5⟩ := m_begin_l 3 0 fu (sU v 0 7 (zI 4)) (by omega) (fu_lt (by omega)) sU_hit (fun k hk => absurd hk (Nat.not_lt_zero k))
  refine ⟨v', ?_, fun j h0 h6 => (a2 j h0 h6).trans (sU_j h0), fun k h => (a3 k h).trans (sU_k h), a4, fun k hk => ?_⟩
  · rw [f_M_begin, nm_s]; exact a1
  · obtain ⟨b1, b2, b3, b4⟩ := a5 k hk
    exact zU_W hk b1 b2 b3 b4
theorem z_init {g : Nat → Nat} {v w : mS} (g4 : g 4 = 512) (g5 : g 5 = 512) (c14 : v 1 4 = zI 118) (c4 : ∀ i, i < 118 → v 4 i = zI (zin i)) (c5 : ∀ i, i < 118 → v 5 i = v 4 i) (c6 : ∀ k, k < 8 → v 6 k = 0) (c7 : ∀ k, k < 8 → v 7 k = zI 12) (cf : ∀ f, f < 4 → v (9 + 4 * f) 3 = 0 ∧ ∀ k, k < 32 → v (10 + 4 * f) k = 0 ∧ v (11 + 4 * f) k = 0) (c0 : ∀ k, 6 ≤ k → k < 11 → v 0 k = 0)
    (m7 : w 0 7 = zI 16) (m6 : ∀ k, k < 3 → zU (w 6) 16 (4 + 4 * k) (zW k)) (m8 : ∀ k, k < 8 → w 8 k = zI 4) (m2 : ∀ k, k < 8 → w 2 k = 0) (m5 : ∀ k, k < 4 → w 5 k = 0) (m34 : ∀ k, k < 128 → w 3 k = 0 ∧ w 4 k = 0) (m0 : w 0 12 = 0 ∧ w 0 13 = zI 4 ∧ w 0 20 = 0 ∧ w 0 22 = 0 ∧ w 0 23 = 0) : zZ 0 g v w := by
  have hM : zM g v 118 := ⟨c14, Nat.le_refl _, by omega, by omega, by omega, zB_in c4⟩
  have hW : mM w 16 := ⟨m7, Nat.le_refl _, by omega, m6⟩
  have tx0 : ztx (0, fun _ => 0) := ⟨by show (0 : Nat) ≤ 12; omega, fun j hj => by exact absurd hj (Nat.not_lt_zero j)⟩
  refine ⟨fun _ => zW 0, fun _ => (0, fun _ => 0), fun _ => 0, fun _ _ => 0, fun _ _ => 0, [], zW 0, 0, 0, 0, ⟨fun f _ => ⟨by show (0 : Nat) ≤ 32; omega, fun k hk => by exact absurd hk (Nat.not_lt_zero k)⟩, by simp⟩, ?_, ?_⟩
  · refine ⟨118, hM, by omega, ⟨by omega, by omega⟩, c5, fun k hk => ⟨0, c6 k hk, zM_W hM (k := 0) (by omega)⟩, fun k hk => ⟨12, c7 k hk, hM.2.2.2.2.2.2.1, tx0⟩, fun f hf => ⟨(cf f hf).1, fun k hk => (cf f hf).2 k hk⟩, ⟨c0 6 (by omega) (by omega), fun i hi => absurd hi (Nat.not_lt_zero i)⟩, ⟨0, c0 7 (by omega) (by omega), zM_W hM (k := 0) (by omega)⟩, c0 8 (by omega) (by omega), c0 9 (by omega) (by omega), c0 10 (by omega) (by omega)⟩
  · exact ⟨16, hW, fun k hk => ⟨4, m8 k hk, mM_W hW (k := 0) (by omega)⟩, fun k hk => ⟨m2 k hk, tx0, fun j hj => by exact absurd hj (Nat.not_lt_zero j)⟩, fun f hf => ⟨m5 f hf, fun k hk => m34 _ (by omega)⟩, ⟨m0.1, fun i hi => absurd hi (Nat.not_lt_zero i)⟩, ⟨4, m0.2.1, mM_W hW (k := 0) (by omega)⟩, m0.2.2.1, m0.2.2.2.1, m0.2.2.2.2⟩
