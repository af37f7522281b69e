/-! the reference's machine: work, take, keepRow; rounds of its loop -/
def mRe (c : Nat) (v v' : mS) : Prop := ∀ n, f_M_run_112 (n + c) v = f_M_run_112 n v'
theorem mRe.rf {v : mS} : mRe 0 v v := fun _ => rfl
theorem mRe.tr {c1 c2 : Nat} {v v1 v2 : mS} (h : mRe c1 v v1) (k : mRe c2 v1 v2) : mRe (c1 + c2) v v2 := by
  intro n
  rw [show n + (c1 + c2) = (n + c2) + c1 by omega, h (n + c2), k n]
section MS
variable {v : mS} {T a b F : Nat} {t : zT} {l : List zT}
theorem mRe_step {v' : mS} (hF : F < 10) (hf : v 0 24 = zI (F + 1)) (h0 : v 0 21 = 0) (hp : ∃ p, v 17 F = zI p ∧ p < 5) (hs : f_M_step v (zI F) = some v') : mRe 1 v v' := by
  intro n
  obtain ⟨p, hp, hp5⟩ := hp
  have e1 : ¬ zI (F + 1) ≤ 0 := by rw [zl_0, zI_le (by omega) (by omega)]; omega
  have e2 : ¬ zI p = 5 := by rw [zl_5, zI_eq (by omega) (by omega)]; omega
  show f_M_run_112 (n + 1) v = _
  rw [f_M_run_112, hf, if_neg e1, if_pos h0, zl_1, zI_sub (by omega), show F + 1 - 1 = F by omega, nm_s, gd_I hF (by omega), zI_toNat (by omega), hp, if_neg e2, hs, bv_s]
  rfl
theorem mRe_keep {v' : mS} (hF : F < 10) (hf : v 0 24 = zI (F + 1)) (h0 : v 0 21 = 0) (hp : v 17 F = zI 5) (hs : f_M_keepRow v (zI F) = some v') : mRe 1 v v' := by
  intro n
  have e1 : ¬ zI (F + 1) ≤ 0 := by rw [zl_0, zI_le (by omega) (by omega)]; omega
  show f_M_run_112 (n + 1) v = _
  rw [f_M_run_112, hf, if_neg e1, if_pos h0, zl_1, zI_sub (by omega), show F + 1 - 1 = F by omega, nm_s, gd_I hF (by omega), zI_toNat (by omega), hp, if_pos (by decide), hs, bv_s]
  rfl
/-- a frame is put up -/
def mwk (v : mS) (F s : Nat) (x y : Int32) : mS := sU (sU (sU (sU (sU (sU (sU (sU (sU v 0 20 (zI (s + 1))) 15 F x) 16 F y) 17 F 0) 18 F 0) 19 F 0) 20 F 0) 24 F 0) 0 24 (zI (F + 1))
theorem m_work_ok {s : Nat} {x y : Int32} (hF : F < 10) (hf : v 0 24 = zI F) (hs : v 0 20 = zI s) (h150 : s < 150) : f_M_work v x y = some (mwk v F s x y) := by
  have e1 : sU v 0 20 (zI (s + 1)) 0 20 = zI (s + 1) := sU_hit
  have e2 : sU v 0 20 (zI (s + 1)) 0 24 = zI F := by rw [sU_k (by decide)]; exact hf
  rw [f_M_work, hs, zl_1, zI_add, nm_s, e1, zl_150, iI_le (by omega) (by omega), if_pos (by omega), e2, gd_I hF (by omega), nm_s, zI_toNat (by omega)]
  have e3 : sU (sU v 0 20 (zI (s + 1))) 15 F x 0 24 = zI F := by rw [sU_j (by decide)]; exact e2
  rw [e3, gd_I hF (by omega), nm_s, zI_toNat (by omega)]
  have e4 : sU (sU (sU v 0 20 (zI (s + 1))) 15 F x) 16 F y 0 24 = zI F := by rw [sU_j (by decide)]; exact e3
  rw [e4, gd_I hF (by omega), nm_s, zI_toNat (by omega)]
  have e5 : sU (sU (sU (sU v 0 20 (zI (s + 1))) 15 F x) 16 F y) 17 F 0 0 24 = zI F := by rw [sU_j (by decide)]; exact e4
  rw [e5, gd_I hF (by omega), nm_s, zI_toNat (by omega)]
  have e6 : sU (sU (sU (sU (sU v 0 20 (zI (s + 1))) 15 F x) 16 F y) 17 F 0) 18 F 0 0 24 = zI F := by rw [sU_j (by decide)]; exact e5
  rw [e6, gd_I hF (by omega), nm_s, zI_toNat (by omega)]
  have e7 : sU (sU (sU (sU (sU (sU v 0 20 (zI (s + 1))) 15 F x) 16 F y) 17 F 0) 18 F 0) 19 F 0 0 24 = zI F := by rw [sU_j (by decide)]; exact e6
  rw [e7, gd_I hF (by omega), nm_s, zI_toNat (by omega)]
  have e8 : sU (sU (sU (sU (sU (sU (sU v 0 20 (zI (s + 1))) 15 F x) 16 F y) 17 F 0) 18 F 0) 19 F 0) 20 F 0 0 24 = zI F := by rw [sU_j (by decide)]; exact e7
  rw [e8, gd_I hF (by omega), nm_s, zI_toNat (by omega)]
  have e9 : sU (sU (sU (sU (sU (sU (sU (sU v 0 20 (zI (s + 1))) 15 F x) 16 F y) 17 F 0) 18 F 0) 19 F 0) 20 F 0) 24 F 0 0 24 = zI F := by rw [sU_j (by decide)]; exact e8
  rw [e9, nm_s, zI_add]
  rfl
theorem m_work_no {s : Nat} {x y : Int32} (hs : v 0 20 = zI s) (h150 : 150 ≤ s) (hs2 : s ≤ 200) : f_M_work v x y = some (sU (sU v 0 20 (zI (s + 1))) 0 21 1) := by
  have e1 : sU v 0 20 (zI (s + 1)) 0 20 = zI (s + 1) := sU_hit
  rw [f_M_work, hs, zl_1, zI_add, nm_s, e1, zl_150, iI_le (by omega) (by omega), if_neg (by omega), nm_s]
/-- what stands in a new frame, and that all else is as it was -/
theorem mwk_f {s : Nat} {x y : Int32} : mwk v F s x y 15 F = x ∧ mwk v F s x y 16 F = y ∧ mwk v F s x y 17 F = 0 ∧ mwk v F s x y 24 F = 0 ∧ mwk v F s x y 0 24 = zI (F + 1) ∧ mwk v F s x y 0 20 = zI (s + 1) := by
  unfold mwk
  refine ⟨?_, ?_, ?_, ?_, ?_, ?_⟩
  · rw [sU_j (by decide), sU_j (by decide), sU_j (by decide), sU_j (by decide), sU_j (by decide), sU_j (by decide), sU_j (by decide), sU_hit]
  · rw [sU_j (by decide), sU_j (by decide), sU_j (by decide), sU_j (by decide), sU_j (by decide), sU_j (by decide), sU_hit]
  · rw [sU_j (by decide), sU_j (by decide), sU_j (by decide), sU_j (by decide), sU_j (by decide), sU_hit]
  · rw [sU_j (by decide), sU_hit]
  · exact sU_hit
  · rw [sU_k (by decide), sU_j (by decide), sU_j (by decide), sU_j (by decide), sU_j (by decide), sU_j (by decide), sU_j (by decide), sU_j (by decide), sU_hit]
theorem mwk_j {s : Nat} {x y : Int32} {j : Nat} (h0 : j ≠ 0) (h : j < 15 ∨ 20 < j) (h24 : j ≠ 24) : mwk v F s x y j = v j := by
  unfold mwk
  rw [sU_j h0, sU_j h24, sU_j (by omega), sU_j (by omega), sU_j (by omega), sU_j (by omega), sU_j (by omega), sU_j (by omega), sU_j h0]
theorem mwk_i {s : Nat} {x y : Int32} {j i : Nat} (h0 : j ≠ 0) (hi : i ≠ F) : mwk v F s x y j i = v j i := by
  have key : ∀ (w : mS) (c : Nat) (z : Int32), sU w c F z j i = w j i := by
    intro w c z
    by_cases hc : j = c
    · subst hc; exact sU_k hi
    · rw [sU_j hc]
  unfold mwk
  rw [sU_j h0, key, key, key, key, key, key, key, sU_j h0]
theorem mwk_0 {s : Nat} {x y : Int32} {k : Nat} (h1 : k ≠ 20) (h2 : k ≠ 24) : mwk v F s x y 0 k = v 0 k := by
  unfold mwk
  rw [sU_k h2, sU_j (by decide), sU_j (by decide), sU_j (by decide), sU_j (by decide), sU_j (by decide), sU_j (by decide), sU_j (by decide), sU_k h1]
theorem mwk_M {s : Nat} {x y : Int32} (hM : mM v T) : mM (mwk v F s x y) T := mM_w hM (mwk_0 (by decide) (by decide)) (fun i _ => by rw [mwk_j (by decide) (by omega) (by decide)])
theorem mwk_X {s : Nat} {x y : Int32} : mX F v T (mwk v F s x y) T := ⟨Nat.le_refl _, fun i _ => by rw [mwk_j (by decide) (by omega) (by decide)], fun j a => mwk_j (by omega) (by omega) (by omega), fun j i a b => mwk_i (by omega) (by omega), fun j i a b => by rw [mwk_j (by omega) (by omega) (by omega)], fun k a => mwk_0 (by omega) (by omega)⟩
theorem mwk_out {s : Nat} {x y : Int32} : mOut (mwk v F s x y) T F [] := ⟨mwk_f.2.2.2.1, by simp, fun k hk => absurd hk (by simp)⟩
/-- take: what came is put out -/
theorem m_take_l {r : List zT} (hF : F < 10) : ∀ (m q i : Nat) (v : mS) (l : List zT), mM v T → v 0 37 = zI r.length → mRow v T 26 0 r → i + m = r.length → m < q → (v 0 21 = 0 → mOut v T F l ∧ l.length + m ≤ 16 + (m + l.length - 16) ) → (v 0 21 = 0 ∨ v 0 21 = 1) → ∃ v', f_M_take_2 q (zI F) (zI i) v = some v' ∧ mM v' T ∧ mX F v T v' T ∧ (∀ j, j ≠ 0 → j ≠ 24 → j ≠ 25 → v' j = v j) ∧ (∀ k, k ≠ 21 → v' 0 k = v 0 k) ∧ (v 0 21 = 1 → v' 0 21 = 1) ∧ (v 0 21 = 0 → l.length + m ≤ 16 → v' 0 21 = 0 ∧ mOut v' T F (l ++ r.drop i)) ∧ (v 0 21 = 0 → 16 < l.length + m → v' 0 21 = 1) := by
  intro m
  induction m with
  | zero =>
    intro q i v l hM h37 hr hi hq ho h01
    obtain ⟨q, rfl, -⟩ := suc_of hq
    have h16 := hr.1
    have e1 : r.drop i = [] := List.drop_eq_nil_of_le (by omega)
    refine ⟨v, ?_, hM, mX.rf, fun _ _ _ _ => rfl, fun _ _ => rfl, fun h => h, fun h _ => ⟨h, by rw [e1, List.append_nil]; exact (ho h).1⟩, fun h h9 => absurd h9 (by have := (ho h).1.2.1; omega)⟩
    rw [f_M_take_2, h37, iI_le (by omega) (by omega), if_pos (by omega)]
  | succ m ih =>
    intro q i v l hM h37 hr hi hq ho h01
    obtain ⟨q, rfl, hq⟩ := suc_of hq
    have hq := Nat.lt_of_succ_lt_succ hq
    have h16 := hr.1
    obtain ⟨b, eb, hb⟩ := hr.2 i (by omega)
    rw [Nat.zero_add] at eb
    have hun : ∀ w, f_M_emit v (zI F) (zI b) = some w → f_M_take_2 (q + 1) (zI F) (zI i) v = f_M_take_2 q (zI F) (zI (i + 1)) w := by
      intro w hw
      rw [f_M_take_2, h37, iI_le (by omega) (by omega), if_neg (by omega), gd_I (by omega) (by omega), zI_toNat (by omega), eb, hw, bv_s, nm_s, zl_1, zI_add]
    rcases h01 with h0 | h1
    · obtain ⟨ho1, -⟩ := ho h0
      obtain ⟨w, a1, a2, a3, a4, a5, a6, a7⟩ := m_emit hF hM h0 ho1 hb
      have hl16 := ho1.2.1
      by_cases c : l.length < 16
      · obtain ⟨a8, a9⟩ := a6 c
        obtain ⟨v', f1, f2, f3, f4, f5, f6, f7, f8⟩ := ih q (i + 1) w (l ++ [r.getD i (zW 0)]) a2 (by rw [a5 37 (by decide)]; exact h37) (mRow_up hr (fun k _ => by rw [a4 26 (by decide) (by decide) (by decide)]) (fun i _ => by rw [a4 6 (by decide) (by decide) (by decide)]) (Nat.le_refl _)) (by omega) hq (fun _ => ⟨a9, by omega⟩) (Or.inl a8)
        have e1 : (l ++ [r.getD i (zW 0)]).length = l.length + 1 := by simp
        refine ⟨v', by rw [hun w a1, f1], f2, a3.tr f3, fun j j0 j1 j2 => (f4 j j0 j1 j2).trans (a4 j j0 j1 j2), fun k hk => (f5 k hk).trans (a5 k hk), fun h => absurd h (by rw [h0]; decide), fun _ hlm => ?_, fun _ hlm => f8 a8 (by omega)⟩
        obtain ⟨g1, g2⟩ := f7 a8 (by omega)
        refine ⟨g1, ?_⟩
        rw [drop_c (by omega)]
        rw [List.append_assoc] at g2
        exact g2
      · have a8 := a7 (by omega)
        obtain ⟨v', f1, f2, f3, f4, f5, f6, f7, f8⟩ := ih q (i + 1) w [] a2 (by rw [a5 37 (by decide)]; exact h37) (mRow_up hr (fun k _ => by rw [a4 26 (by decide) (by decide) (by decide)]) (fun i _ => by rw [a4 6 (by decide) (by decide) (by decide)]) (Nat.le_refl _)) (by omega) hq (fun h => absurd h (by rw [a8]; decide)) (Or.inr a8)
        exact ⟨v', by rw [hun w a1, f1], f2, a3.tr f3, fun j j0 j1 j2 => (f4 j j0 j1 j2).trans (a4 j j0 j1 j2), fun k hk => (f5 k hk).trans (a5 k hk), fun h => absurd h (by rw [h0]; decide), fun _ hlm => absurd hlm (by omega), fun _ _ => f6 a8⟩
    · have a1 := m_emit_dead (x := zI F) (y := zI b) h1
      obtain ⟨v', f1, f2, f3, f4, f5, f6, f7, f8⟩ := ih q (i + 1) v [] hM h37 hr (by omega) hq (fun h => absurd h (by rw [h1]; decide)) (Or.inr h1)
      exact ⟨v', by rw [hun v a1, f1], f2, f3, f4, f5, f6, fun h => absurd h (by rw [h1]; decide), fun h => absurd h (by rw [h1]; decide)⟩
theorem m_take {r : List zT} {e : Option zT} (hF : F < 10) (hM : mM v T) (hg : mGot v T r e) (h0 : v 0 21 = 0) (ho : mOut v T F l) : ∃ v', f_M_take v (zI F) = some v' ∧ mM v' T ∧ mX F v T v' T ∧ (∀ j, j ≠ 0 → j ≠ 24 → j ≠ 25 → v' j = v j) ∧ (∀ k, k ≠ 21 → v' 0 k = v 0 k) ∧ (l.length + r.length ≤ 16 → v' 0 21 = 0 ∧ mOut v' T F (l ++ r)) ∧ (16 < l.length + r.length → v' 0 21 = 1) := by
  have h16 := hg.2.1.1
  obtain ⟨v', f1, f2, f3, f4, f5, f6, f7, f8⟩ := m_take_l hF r.length fu 0 v l hM hg.1 hg.2.1 (by omega) (fu_lt (by omega)) (fun _ => ⟨ho, by omega⟩) (Or.inl h0)
  exact ⟨v', f1, f2, f3, f4, f5, fun h => f7 h0 h, fun h => f8 h0 h⟩
/-- keepRow -/
def mRw (v : mS) (T F : Nat) (xs : List zT) (e : Option zT) : Prop := v 19 F = zI xs.length ∧ mRow v T 23 (17 * F) xs ∧ mErr (v 20 F) v T e
theorem m_keep_l {r : List zT} (hF : F < 10) : ∀ (m q i : Nat) (v : mS), v 0 37 = zI r.length → r.length ≤ 16 → i + m = r.length → m < q → ∃ v', f_M_keepRow_29 q (zI F) (zI i) v = some v' ∧ v' 17 F = zI 2 ∧ (∀ j, j ≠ 17 → j ≠ 23 → v' j = v j) ∧ (∀ k, k ≠ F → v' 17 k = v 17 k) ∧ (∀ k, k < 17 * F + i ∨ 17 * F + r.length ≤ k → v' 23 k = v 23 k) ∧ ∀ k, i ≤ k → k < r.length → v' 23 (17 * F + k) = v 26 k := by
  intro m
  induction m with
  | zero =>
    intro q i v h37 h16 hi hq
    obtain ⟨q, rfl, -⟩ := suc_of hq
    refine ⟨sU v 17 F (zI 2), ?_, sU_hit, fun j h1 _ => sU_j h1, fun k hk => sU_k hk, fun k _ => by rw [sU_j (by decide)], fun k h1 h2 => absurd h1 (by omega)⟩
    rw [f_M_keepRow_29, h37, iI_le (by omega) (by omega), if_pos (by omega), gd_I hF (by omega), nm_s, zI_toNat (by omega)]
    rfl
  | succ m ih =>
    intro q i v h37 h16 hi hq
    obtain ⟨q, rfl, hq⟩ := suc_of hq
    have hq := Nat.lt_of_succ_lt_succ hq
    obtain ⟨v', f1, f2, f3, f4, f5, f6⟩ := ih q (i + 1) (sU v 23 (17 * F + i) (v 26 i)) (by rw [sU_j (by decide)]; exact h37) h16 (by omega) hq
    have e17 : (17 : Int32) = zI 17 := rfl
    refine ⟨v', ?_, f2, fun j h1 h2 => by rw [f3 j h1 h2, sU_j h2], fun k hk => by rw [f4 k hk, sU_j (by decide)], fun k hk => by rw [f5 k (by omega), sU_k (by omega)], fun k h1 h2 => ?_⟩
    · rw [f_M_keepRow_29, h37, iI_le (by omega) (by omega), if_neg (by omega), gd_I (by omega) (by omega), e17, zI_mul, zI_add, gd_I (by omega) (by omega), nm_s, nm_s, zI_toNat (by omega), zI_toNat (by omega), zl_1, zI_add]
      exact f1
    · by_cases c : k = i
      · subst c
        rw [f5 _ (by omega), sU_hit]
      · rw [f6 k (by omega) h2, sU_j (by decide)]
theorem m_keepRow {r : List zT} {e : Option zT} (hF : F < 10) (hM : mM v T) (hg : mGot v T r e) : ∃ v', f_M_keepRow v (zI F) = some v' ∧ mM v' T ∧ mX F v T v' T ∧ v' 17 F = zI 2 ∧ v' 18 F = zI 0 ∧ mRw v' T F r e ∧ (∀ j, j ≠ 17 → j ≠ 18 → j ≠ 19 → j ≠ 20 → j ≠ 23 → v' j = v j) := by
  have h16 := hg.2.1.1
  have e1 : f_M_keepRow v (zI F) = f_M_keepRow_29 fu (zI F) (zI 0) (sU (sU (sU v 19 F (v 0 37)) 20 F (v 0 38)) 18 F 0) := by
    have e2 : sU v 19 F (v 0 37) 0 38 = v 0 38 := by rw [sU_j (by decide)]
    rw [f_M_keepRow, gd_I hF (by omega), nm_s, zI_toNat (by omega), gd_I hF (by omega), nm_s, e2, gd_I hF (by omega), nm_s]
    rfl
  have h37 : sU (sU (sU v 19 F (v 0 37)) 20 F (v 0 38)) 18 F 0 0 37 = zI r.length := by rw [sU_j (by decide), sU_j (by decide), sU_j (by decide)]; exact hg.1
  obtain ⟨v', f1, f2, f3, f4, f5, f6⟩ := m_keep_l (r := r) hF r.length fu 0 (sU (sU (sU v 19 F (v 0 37)) 20 F (v 0 38)) 18 F 0) h37 h16 (by omega) (fu_lt (by omega))
  have hj : ∀ j, j ≠ 17 → j ≠ 18 → j ≠ 19 → j ≠ 20 → j ≠ 23 → v' j = v j := by
    intro j a b c d e
    rw [f3 j a e, sU_j b, sU_j d, sU_j c]
  have h6 : v' 6 = v 6 := hj 6 (by decide) (by decide) (by decide) (by decide) (by decide)
  refine ⟨v', by rw [e1, f1], mM_w hM (by rw [hj 0 (by decide) (by decide) (by decide) (by decide) (by decide)]) (fun i _ => by rw [h6]), ⟨Nat.le_refl _, fun i _ => by rw [h6], fun j a => hj j (by omega) (by omega) (by omega) (by omega) (by omega), fun j i a b => ?_, fun j i a b => ?_, fun k _ => by rw [hj 0 (by decide) (by decide) (by decide) (by decide) (by decide)]⟩, f2, ?_, ⟨?_, ⟨h16, fun k hk => ?_⟩, ?_⟩, hj⟩
  · by_cases c17 : j = 17
    · subst c17
      rw [f4 i (by omega), sU_j (by decide), sU_j (by decide), sU_j (by decide)]
    · rw [f3 j c17 (by omega)]
      by_cases c18 : j = 18
      · subst c18; rw [sU_k (by omega), sU_j (by decide), sU_j (by decide)]
      · rw [sU_j c18]
        by_cases c20 : j = 20
        · subst c20; rw [sU_k (by omega), sU_j (by decide)]
        · rw [sU_j c20]
          by_cases c19 : j = 19
          · subst c19; rw [sU_k (by omega)]
          · rw [sU_j c19]
  · by_cases c : j = 23
    · subst c
      rw [f5 i (by omega), sU_j (by decide), sU_j (by decide), sU_j (by decide)]
    · rw [hj j (by omega) (by omega) (by omega) (by omega) c]
  · rw [f3 18 (by decide) (by decide), sU_hit]; rfl
  · rw [f3 19 (by decide) (by decide), sU_j (by decide), sU_j (by decide), sU_hit]; exact hg.1
  · obtain ⟨b, eb, hb⟩ := hg.2.1.2 k hk
    rw [Nat.zero_add] at eb
    exact ⟨b, by rw [f6 k (by omega) hk, sU_j (by decide), sU_j (by decide), sU_j (by decide)]; exact eb, by rw [h6]; exact hb⟩
  · rw [f3 20 (by decide) (by decide), sU_j (by decide), sU_hit]
    exact mErr_up hg.2.2 (fun i _ => by rw [h6]) (Nat.le_refl _)
end MS
