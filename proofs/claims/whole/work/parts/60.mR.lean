/-! the reference's machine: frames; emit, end, take, keepRow, work -/
def mRow (v : mS) (T j base : Nat) (l : List zT) : Prop := l.length ≤ 16 ∧ ∀ k, k < l.length → ∃ b, v j (base + k) = zI b ∧ zU (v 6) T b (l.getD k (zW 0))
def mErr (x : Int32) (v : mS) (T : Nat) (e : Option zT) : Prop := match e with
  | none => x = 0
  | some y => ∃ b, x = zI b ∧ zU (v 6) T b y
/-- what frame F has put out -/
def mOut (v : mS) (T F : Nat) (l : List zT) : Prop := v 24 F = zI l.length ∧ mRow v T 25 (17 * F) l
/-- what came from the frame above -/
def mGot (v : mS) (T : Nat) (r : List zT) (e : Option zT) : Prop := v 0 37 = zI r.length ∧ mRow v T 26 0 r ∧ mErr (v 0 38) v T e
/-- regions that a frame and those above it may change; those below stay -/
def mX (F : Nat) (v : mS) (T : Nat) (v' : mS) (T' : Nat) : Prop := T ≤ T' ∧ (∀ i, i < T → v' 6 i = v 6 i) ∧ (∀ j, (1 ≤ j ∧ j ≤ 5) ∨ (7 ≤ j ∧ j ≤ 9) → v' j = v j) ∧ (∀ j i, (15 ≤ j ∧ j ≤ 22) ∨ j = 24 → i < F → v' j i = v j i) ∧ (∀ j i, j = 23 ∨ j = 25 → i < 17 * F → v' j i = v j i) ∧ ∀ k, k = 0 ∨ k = 9 ∨ k = 12 ∨ k = 13 ∨ k = 22 ∨ k = 23 → v' 0 k = v 0 k
theorem mX.rf {F : Nat} {v : mS} {T : Nat} : mX F v T v T := ⟨Nat.le_refl _, fun _ _ => rfl, fun _ _ => rfl, fun _ _ _ _ => rfl, fun _ _ _ _ => rfl, fun _ _ => rfl⟩
theorem mX.tr {F : Nat} {v v1 v2 : mS} {T T1 T2 : Nat} (h : mX F v T v1 T1) (k : mX F v1 T1 v2 T2) : mX F v T v2 T2 := by
  obtain ⟨h1, h2, h3, h4, h5, h6⟩ := h
  obtain ⟨k1, k2, k3, k4, k5, k6⟩ := k
  exact ⟨by omega, fun i hi => (k2 i (by omega)).trans (h2 i hi), fun j a => (k3 j a).trans (h3 j a), fun j i a b => (k4 j i a b).trans (h4 j i a b), fun j i a b => (k5 j i a b).trans (h5 j i a b), fun i a => (k6 i a).trans (h6 i a)⟩
theorem mX.U {F : Nat} {v v' : mS} {T T' a : Nat} {t : zT} (h : mX F v T v' T') (k : zU (v 6) T a t) : zU (v' 6) T' a t := zU_up k h.2.1 h.1
theorem mX.mono {F F' : Nat} {v v' : mS} {T T' : Nat} (h : mX F v T v' T') (k : F' ≤ F) : mX F' v T v' T' := ⟨h.1, h.2.1, h.2.2.1, fun j i a b => h.2.2.2.1 j i a (by omega), fun j i a b => h.2.2.2.2.1 j i a (by omega), h.2.2.2.2.2⟩
theorem mE.X {F : Nat} {v v' : mS} {T T' : Nat} (h : mE v T v' T') : mX F v T v' T' := ⟨h.1, h.2.1, fun j a => h.2.2.1 j (by omega) (by omega) (by omega) (by omega) (by omega) (by omega), fun j i a _ => by rw [h.2.2.1 j (by omega) (by omega) (by omega) (by omega) (by omega) (by omega)], fun j i a _ => by rw [h.2.2.1 j (by omega) (by omega) (by omega) (by omega) (by omega) (by omega)], fun k a => h.2.2.2 k (by omega) (by omega) (by omega)⟩
theorem mRow_up {v v' : mS} {T T' j base : Nat} {l : List zT} (h : mRow v T j base l) (hj : ∀ k, k < l.length → v' j (base + k) = v j (base + k)) (hc : ∀ i, i < T → v' 6 i = v 6 i) (ht : T ≤ T') : mRow v' T' j base l := by
  refine ⟨h.1, fun k hk => ?_⟩
  obtain ⟨b, eb, hb⟩ := h.2 k hk
  exact ⟨b, (hj k hk).trans eb, zU_up hb hc ht⟩
theorem mErr_up {x : Int32} {v v' : mS} {T T' : Nat} {e : Option zT} (h : mErr x v T e) (hc : ∀ i, i < T → v' 6 i = v 6 i) (ht : T ≤ T') : mErr x v' T' e := by
  cases e with
  | none => exact h
  | some y => obtain ⟨b, eb, hb⟩ := h; exact ⟨b, eb, zU_up hb hc ht⟩
section MR
variable {v : mS} {T a b F : Nat} {t : zT} {l : List zT}
theorem mOut_up {v' : mS} {T' : Nat} (h : mOut v T F l) (h24 : v' 24 F = v 24 F) (h25 : ∀ i, 17 * F ≤ i → i < 17 * F + 17 → v' 25 i = v 25 i) (hc : ∀ i, i < T → v' 6 i = v 6 i) (ht : T ≤ T') : mOut v' T' F l := ⟨h24.trans h.1, mRow_up h.2 (fun k hk => h25 _ (by omega) (by have := h.2.1; omega)) hc ht⟩
/-- emit -/
theorem m_emit_dead {x y : Int32} (h : v 0 21 = 1) : f_M_emit v x y = some v := by
  have : ¬ v 0 21 = 0 := by rw [h]; decide
  rw [f_M_emit, if_neg this]
def mem (v : mS) (F n : Nat) (x : Int32) : mS := sU (sU v 25 (17 * F + n) x) 24 F (zI (n + 1))
theorem m_emit_no {x : Int32} (hF : F < 10) (h0 : v 0 21 = 0) (h : mOut v T F l) (hl : l.length = 16) : f_M_emit v (zI F) x = some (sU v 0 21 1) := by
  rw [f_M_emit, if_pos h0, gd_I hF (by omega), zI_toNat (by omega), h.1, hl, if_pos (by decide), nm_s]
theorem m_emit_ok {x : Int32} (hF : F < 10) (h0 : v 0 21 = 0) (h : mOut v T F l) (hl : l.length < 16) : f_M_emit v (zI F) x = some (mem v F l.length x) := by
  have e16 : ¬ zI l.length = 16 := by rw [zl_16, zI_eq (by omega) (by omega)]; omega
  have e24 : sU v 25 (17 * F + l.length) x 24 F = zI l.length := by rw [sU_j (by decide)]; exact h.1
  have e17 : (17 : Int32) = zI 17 := rfl
  rw [f_M_emit, if_pos h0, gd_I hF (by omega), zI_toNat (by omega), h.1, if_neg e16, gd_I hF (by omega), e17, zI_mul, zI_add, gd_I (by omega) (by omega), nm_s, zI_toNat (by omega), gd_I hF (by omega), gd_I hF (by omega), e24, zl_1, zI_add, nm_s]
  rfl
theorem mem_j {n : Nat} {x : Int32} {j : Nat} (h1 : j ≠ 24) (h2 : j ≠ 25) : mem v F n x j = v j := by unfold mem; rw [sU_j h1, sU_j h2]
theorem mem_X {n : Nat} {x : Int32} : mX F v T (mem v F n x) T := by
  refine ⟨Nat.le_refl _, fun i _ => by rw [mem_j (by decide) (by decide)], fun j a => mem_j (by omega) (by omega), fun j i a b => ?_, fun j i a b => ?_, fun k _ => by rw [mem_j (by decide) (by decide)]⟩
  · unfold mem
    by_cases c : j = 24
    · subst c; rw [sU_k (by omega), sU_j (by decide)]
    · rw [sU_j c, sU_j (by omega)]
  · unfold mem
    rw [sU_j (by omega)]
    by_cases c : j = 25
    · subst c; rw [sU_k (by omega)]
    · rw [sU_j c]
theorem mem_M {n : Nat} {x : Int32} (hM : mM v T) : mM (mem v F n x) T := mM_w hM (by rw [mem_j (by decide) (by decide)]) (fun i _ => by rw [mem_j (by decide) (by decide)])
theorem mem_out (h : mOut v T F l) (hl : l.length < 16) (ha : zU (v 6) T a t) : mOut (mem v F l.length (zI a)) T F (l ++ [t]) := by
  refine ⟨?_, by simp; omega, fun k hk => ?_⟩
  · unfold mem; rw [sU_hit]; simp
  · rw [mem_j (j := 6) (by decide) (by decide)]
    simp at hk
    unfold mem
    rw [sU_j (by decide)]
    by_cases c : k = l.length
    · subst c
      exact ⟨a, sU_hit, by rw [getD_app2]; exact ha⟩
    · obtain ⟨b, eb, hb⟩ := h.2.2 k (by omega)
      exact ⟨b, by rw [sU_k (by omega)]; exact eb, by rw [getD_app (by omega)]; exact hb⟩
/-- the machine is out of room: nothing more is put -/
def mDead (F : Nat) (v : mS) (T : Nat) (v' : mS) (T' : Nat) : Prop := mM v' T' ∧ mX F v T v' T' ∧ v' 0 21 = 1
/-- a value put: more of the row, or no room -/
theorem m_emit (hF : F < 10) (hM : mM v T) (h0 : v 0 21 = 0) (h : mOut v T F l) (ha : zU (v 6) T a t) : ∃ v', f_M_emit v (zI F) (zI a) = some v' ∧ mM v' T ∧ mX F v T v' T ∧ (∀ j, j ≠ 0 → j ≠ 24 → j ≠ 25 → v' j = v j) ∧ (∀ k, k ≠ 21 → v' 0 k = v 0 k) ∧ (l.length < 16 → v' 0 21 = 0 ∧ mOut v' T F (l ++ [t])) ∧ (l.length = 16 → v' 0 21 = 1) := by
  have h16 := h.2.1
  by_cases c : l.length < 16
  · refine ⟨_, m_emit_ok hF h0 h c, mem_M hM, mem_X, fun j _ j1 j2 => mem_j j1 j2, fun k _ => by rw [mem_j (by decide) (by decide)], fun _ => ⟨by rw [mem_j (by decide) (by decide)]; exact h0, mem_out h c ha⟩, fun h9 => absurd h9 (by omega)⟩
  · refine ⟨_, m_emit_no hF h0 h (by omega), mM_w hM (sU_k (by decide)) (fun i _ => by rw [sU_j (by decide)]), ⟨Nat.le_refl _, fun i _ => by rw [sU_j (by decide)], fun j a => sU_j (by omega), fun j i a _ => by rw [sU_j (by omega)], fun j i a _ => by rw [sU_j (by omega)], fun k a => sU_k (by omega)⟩, fun j a _ _ => sU_j a, fun k hk => sU_k hk, fun h9 => absurd h9 c, fun _ => sU_hit⟩
/-- end -/
theorem m_end_l (hF : F < 10) : ∀ (m q i : Nat) (v : mS), v 0 37 = zI l.length → l.length ≤ 16 → i + m = l.length → m < q → ∃ v', f_M_end_27 q (zI F) (zI i) v = some v' ∧ (∀ j, j ≠ 26 → v' j = v j) ∧ (∀ k, k < i → v' 26 k = v 26 k) ∧ ∀ k, i ≤ k → k < l.length → v' 26 k = v 25 (17 * F + k) := by
  intro m
  induction m with
  | zero =>
    intro q i v h37 h16 hi hq
    obtain ⟨q, rfl, -⟩ := suc_of hq
    refine ⟨v, ?_, fun _ _ => rfl, fun _ _ => rfl, fun k h1 h2 => absurd h1 (by omega)⟩
    rw [f_M_end_27, h37, iI_le (by omega) (by omega), if_pos (by omega)]
  | succ m ih =>
    intro q i v h37 h16 hi hq
    obtain ⟨q, rfl, hq⟩ := suc_of hq
    have hq := Nat.lt_of_succ_lt_succ hq
    obtain ⟨v', f1, f2, f3, f4⟩ := ih q (i + 1) (sU v 26 i (v 25 (17 * F + i))) (by rw [sU_j (by decide)]; exact h37) h16 (by omega) hq
    have e17 : (17 : Int32) = zI 17 := rfl
    refine ⟨v', ?_, fun j hj => by rw [f2 j hj, sU_j hj], fun k hk => by rw [f3 k (by omega), sU_k (by omega)], fun k h1 h2 => ?_⟩
    · rw [f_M_end_27, h37, iI_le (by omega) (by omega), if_neg (by omega), e17, zI_mul, zI_add, gd_I (by omega) (by omega), gd_I (by omega) (by omega), nm_s, nm_s, zI_toNat (by omega), zI_toNat (by omega), zl_1, zI_add]
      exact f1
    · by_cases c : k = i
      · subst c
        rw [f3 k (by omega), sU_hit]
      · rw [f4 k (by omega) h2, sU_j (by decide)]
theorem m_end {x : Int32} (hF : F < 10) (hM : mM v T) (hf : v 0 24 = zI (F + 1)) (h : mOut v T F l) : ∃ v', f_M_end v (zI F) x = some v' ∧ mM v' T ∧ mX F v T v' T ∧ v' 0 24 = zI F ∧ v' 0 37 = zI l.length ∧ mRow v' T 26 0 l ∧ v' 0 38 = x ∧ (∀ j, j ≠ 0 → j ≠ 26 → v' j = v j) ∧ ∀ k, k ≠ 24 → k ≠ 37 → k ≠ 38 → v' 0 k = v 0 k := by
  have h16 := h.2.1
  have e1 : f_M_end v (zI F) x = f_M_end_27 fu (zI F) (zI 0) (sU (sU (sU v 0 24 (zI F)) 0 37 (zI l.length)) 0 38 x) := by
    have e24 : sU v 0 24 (zI F) 24 F = zI l.length := by rw [sU_j (by decide)]; exact h.1
    rw [f_M_end, hf, zl_1, zI_sub (by omega), show F + 1 - 1 = F by omega, nm_s, gd_I hF (by omega), zI_toNat (by omega), e24, nm_s, nm_s]
    rfl
  obtain ⟨v', f1, f2, f3, f4⟩ := m_end_l (l := l) hF l.length fu 0 (sU (sU (sU v 0 24 (zI F)) 0 37 (zI l.length)) 0 38 x) (by rw [sU_k (by decide), sU_hit]) h16 (by omega) (fu_lt (by omega))
  have hj : ∀ j, j ≠ 0 → j ≠ 26 → v' j = v j := by
    intro j h1 h2
    rw [f2 j h2, sU_j h1, sU_j h1, sU_j h1]
  have h0 : v' 0 = sU (sU (sU v 0 24 (zI F)) 0 37 (zI l.length)) 0 38 x 0 := f2 0 (by decide)
  have hk : ∀ k, k ≠ 24 → k ≠ 37 → k ≠ 38 → v' 0 k = v 0 k := by
    intro k a b c
    rw [h0, sU_k c, sU_k b, sU_k a]
  refine ⟨v', by rw [e1, f1], mM_w hM (hk 7 (by decide) (by decide) (by decide)) (fun i _ => by rw [hj 6 (by decide) (by decide)]), ⟨Nat.le_refl _, fun i _ => by rw [hj 6 (by decide) (by decide)], fun j a => hj j (by omega) (by omega), fun j i a _ => by rw [hj j (by omega) (by omega)], fun j i a _ => by rw [hj j (by omega) (by omega)], fun k a => hk k (by omega) (by omega) (by omega)⟩, ?_, ?_, ⟨h16, fun k hk9 => ?_⟩, ?_, hj, hk⟩
  · rw [h0, sU_k (by decide), sU_k (by decide), sU_hit]
  · rw [h0, sU_k (by decide), sU_hit]
  · obtain ⟨b, eb, hb⟩ := h.2.2 k hk9
    refine ⟨b, ?_, by rw [hj 6 (by decide) (by decide)]; exact hb⟩
    rw [Nat.zero_add, f4 k (by omega) hk9, sU_j (by decide), sU_j (by decide), sU_j (by decide)]
    exact eb
  · rw [h0, sU_hit]
end MR
