/-! the reference's machine: a frame at work, its end, asking for a part -/
def mVr (v : mS) (T : Nat) (vr : Nat → zT) : Prop := ∀ k, k < 4 → ∃ b, v 14 k = zI b ∧ zU (v 6) T b (vr k)
theorem mVr_up {v v' : mS} {T T' : Nat} {vr : Nat → zT} (h : mVr v T vr) (h14 : v' 14 = v 14) (hc : ∀ i, i < T → v' 6 i = v 6 i) (ht : T ≤ T') : mVr v' T' vr := by
  intro k hk
  obtain ⟨b, eb, hb⟩ := h k hk
  exact ⟨b, by rw [h14]; exact eb, zU_up hb hc ht⟩
def mEn (op : Nat → Nat) (ar : Nat → Int32) (sx : Nat → zN) (p2 p3 : Nat → Nat) (B : Nat) (v : mS) : Prop := B ≤ 96 ∧ (∀ k, k < 32 → v 3 (B + k) = zI (op k) ∧ v 4 (B + k) = ar k) ∧ mSx v sx ∧ ∀ (w : mS), w 3 = v 3 → ∀ d k, zok op ar p2 p3 d k → (1 ≤ zpt (op k) → f_M_partOf w (zI (B + k)) (zI 0) = some (zI (B + (k + 1)), w)) ∧ (2 ≤ zpt (op k) → f_M_partOf w (zI (B + k)) (zI 1) = some (zI (B + p2 k), w)) ∧ (3 ≤ zpt (op k) → f_M_partOf w (zI (B + k)) (zI 2) = some (zI (B + p3 k), w))
theorem mEn_up {op : Nat → Nat} {ar : Nat → Int32} {sx : Nat → zN} {p2 p3 : Nat → Nat} {B : Nat} {v v' : mS} (h : mEn op ar sx p2 p3 B v) (hj : ∀ j, 1 ≤ j → j ≤ 4 → v' j = v j) : mEn op ar sx p2 p3 B v' := by
  obtain ⟨h0, h1, h2, h3⟩ := h
  refine ⟨h0, by rw [hj 3 (by decide) (by decide), hj 4 (by decide) (by decide)]; exact h1, ?_, by rw [hj 3 (by decide) (by decide)]; exact h3⟩
  unfold mSx
  rw [hj 1 (by decide) (by decide), hj 2 (by decide) (by decide)]
  exact h2
/-- what a frame has put, or too much was put -/
def mLv (v : mS) (T F : Nat) (l : List zT) : Prop := (l.length ≤ 16 ∧ v 0 21 = 0 ∧ mOut v T F l) ∨ (16 < l.length ∧ v 0 21 = 1 ∧ ∃ n, n ≤ 16 ∧ v 24 F = zI n)
def mFr (op : Nat → Nat) (ar : Nat → Int32) (sx : Nat → zN) (p2 p3 : Nat → Nat) (B F k : Nat) (t : zT) (vr : Nat → zT) (l : List zT) (s u Q : Nat) (v : mS) (T : Nat) : Prop := mEn op ar sx p2 p3 B v ∧ mM v T ∧ v 15 F = zI (B + k) ∧ (∃ b, v 16 F = zI b ∧ zU (v 6) T b t) ∧ mVr v T vr ∧ v 0 20 = zI s ∧ s ≤ 150 ∧ v 0 24 = zI (F + 1) ∧ mLv v T F l ∧ T + u + 374 * (150 - s) ≤ Q ∧ Q ≤ 63900
/-- the rounds from here end the frame with what the spec says -/
def mFE (F Q : Nat) (vr : Nat → zT) (s c : Nat) (sp : zEv) (v : mS) (T : Nat) : Prop := ∃ n v' T', mRe n v v' ∧ mM v' T' ∧ mX F v T v' T' ∧ (match sp with
  | none => v' 0 21 = 1 ∧ n ≤ c + 40 * (150 - s)
  | some (r, e, s1) => if r.length ≤ 16 then v' 0 21 = 0 ∧ v' 0 24 = zI F ∧ mGot v' T' r e ∧ v' 0 20 = zI s1 ∧ mVr v' T' vr ∧ s ≤ s1 ∧ s1 ≤ 150 ∧ n ≤ c + 40 * (s1 - s) ∧ T' + 374 * (150 - s1) ≤ Q else v' 0 21 = 1 ∧ n ≤ c + 40 * (150 - s))
def mKr (op : Nat → Nat) (ar : Nat → Int32) (sx : Nat → zN) (p2 p3 : Nat → Nat) (B d F : Nat) : Prop := ∀ (v : mS) (T q b : Nat) (t : zT) (vr : Nat → zT) (s Q : Nat), mEn op ar sx p2 p3 B v → zok op ar p2 p3 d q → mM v T → zU (v 6) T b t → mVr v T vr → v 0 20 = zI s → s ≤ 150 → v 0 21 = 0 → v 0 24 = zI F → T + 374 * (150 - s) ≤ Q → Q ≤ 63900 → ∃ v1, f_M_work v (zI (B + q)) (zI b) = some v1 ∧ mX F v T v1 T ∧ mFE F Q vr s 0 (zev op ar sx p2 p3 d q t vr s) v1 T
section MU
variable {op : Nat → Nat} {ar : Nat → Int32} {sx : Nat → zN} {p2 p3 : Nat → Nat} {B F k : Nat} {t : zT} {vr vr0 : Nat → zT} {l : List zT} {s u Q : Nat} {v : mS} {T : Nat} {sp : zEv} {c d : Nat}
theorem mFE_pre {n c' s1 T1 : Nat} {v1 : mS} (hn : mRe n v v1) (hX : mX F v T v1 T1) (h : mFE F Q vr s1 c sp v1 T1) (hs : s ≤ s1) (h150 : s1 ≤ 150) (hc : n + c ≤ c' + 40 * (s1 - s)) : mFE F Q vr s c' sp v T := by
  obtain ⟨m, v', T', a1, a2, a3, a4⟩ := h
  refine ⟨n + m, v', T', hn.tr a1, a2, hX.tr a3, ?_⟩
  cases sp with
  | none => exact ⟨a4.1, by have := a4.2; omega⟩
  | some q =>
    obtain ⟨r, e, s2⟩ := q
    dsimp only at a4 ⊢
    by_cases cc : r.length ≤ 16
    · rw [if_pos cc] at a4 ⊢
      obtain ⟨b1, b2, b3, b4, b5, b6, b7, b8, b9⟩ := a4
      exact ⟨b1, b2, b3, b4, b5, by omega, b7, by omega, b9⟩
    · rw [if_neg cc] at a4 ⊢
      exact ⟨a4.1, by have := a4.2; omega⟩
theorem mFE_le {c' : Nat} (h : mFE F Q vr s c sp v T) (hc : c ≤ c') (h150 : s ≤ 150) : mFE F Q vr s c' sp v T := mFE_pre mRe.rf mX.rf h (Nat.le_refl _) h150 (by omega)
theorem mFE_dead (hM : mM v T) (h1 : v 0 21 = 1) (hs : sp = none ∨ ∃ r e s1, sp = some (r, e, s1) ∧ 16 < r.length) : mFE F Q vr s c sp v T := by
  refine ⟨0, v, T, mRe.rf, hM, mX.rf, ?_⟩
  rcases hs with rfl | ⟨r, e, s1, rfl, h⟩
  · exact ⟨h1, by omega⟩
  · dsimp only
    rw [if_neg (by omega)]
    exact ⟨h1, by omega⟩
theorem mFE_deadA (hM : mM v T) (h1 : v 0 21 = 1) (hl : 16 < l.length) : mFE F Q vr s c (zapp l sp) v T := by
  refine mFE_dead hM h1 ?_
  rcases zapp_ov (sp := sp) (r := l) with h | ⟨r, e, s1, h, h2⟩
  · exact Or.inl h
  · exact Or.inr ⟨r, e, s1, h, by omega⟩
/-- a frame's round begins alive, or there is nothing to show -/
theorem mFE_live (h : mFr op ar sx p2 p3 B F k t vr l s u Q v T) (hk : l.length ≤ 16 → v 0 21 = 0 → mOut v T F l → mFE F Q vr0 s c (zapp l sp) v T) : mFE F Q vr0 s c (zapp l sp) v T := by
  obtain ⟨a1, a2, a3, a4, a5, a6, a7, a8, a9, a10, a11⟩ := h
  rcases a9 with ⟨b1, b2, b3⟩ | ⟨b1, b2, b3⟩
  · exact hk b1 b2 b3
  · exact mFE_deadA a2 b2 b1
theorem mFr_le {u' : Nat} (h : mFr op ar sx p2 p3 B F k t vr l s u Q v T) (hu : u' ≤ u) : mFr op ar sx p2 p3 B F k t vr l s u' Q v T := by
  obtain ⟨a1, a2, a3, a4, a5, a6, a7, a8, a9, a10, a11⟩ := h
  exact ⟨a1, a2, a3, a4, a5, a6, a7, a8, a9, by omega, a11⟩
theorem mFr_w {w : mS} (h : mFr op ar sx p2 p3 B F k t vr l s u Q v T) (hj : ∀ j, j ≠ 17 → j ≠ 18 → j ≠ 19 → j ≠ 20 → j ≠ 21 → j ≠ 22 → j ≠ 23 → w j = v j) : mFr op ar sx p2 p3 B F k t vr l s u Q w T := by
  obtain ⟨a1, a2, a3, a4, a5, a6, a7, a8, a9, a10, a11⟩ := h
  have hz : ∀ j, j < 17 ∨ 23 < j → w j = v j := fun j a => hj j (by omega) (by omega) (by omega) (by omega) (by omega) (by omega) (by omega)
  refine ⟨mEn_up a1 (fun j _ _ => hz j (by omega)), mM_w a2 (by rw [hz 0 (by omega)]) (fun i _ => by rw [hz 6 (by omega)]), by rw [hz 15 (by omega)]; exact a3, by rw [hz 16 (by omega), hz 6 (by omega)]; exact a4, mVr_up a5 (hz 14 (by omega)) (fun i _ => by rw [hz 6 (by omega)]) (Nat.le_refl _), by rw [hz 0 (by omega)]; exact a6, a7, by rw [hz 0 (by omega)]; exact a8, ?_, a10, a11⟩
  rcases a9 with ⟨b1, b2, b3⟩ | ⟨b1, b2, b3⟩
  · exact Or.inl ⟨b1, by rw [hz 0 (by omega)]; exact b2, mOut_up b3 (by rw [hz 24 (by omega)]) (fun i _ _ => by rw [hz 25 (by omega)]) (fun i _ => by rw [hz 6 (by omega)]) (Nat.le_refl _)⟩
  · exact Or.inr ⟨b1, by rw [hz 0 (by omega)]; exact b2, by rw [hz 24 (by omega)]; exact b3⟩
/-- a part has been worked out above the frame -/
theorem mFr_X {v2 : mS} {T2 s1 : Nat} {vr2 : Nat → zT} (h : mFr op ar sx p2 p3 B F k t vr l s u Q v T) (hl : l.length ≤ 16) (hX : mX (F + 1) v T v2 T2) (hM : mM v2 T2) (h20 : v2 0 20 = zI s1) (h150 : s1 ≤ 150) (h24 : v2 0 24 = zI (F + 1)) (h21 : v2 0 21 = 0) (hV : mVr v2 T2 vr2) (hb : T2 + u + 374 * (150 - s1) ≤ Q) : mFr op ar sx p2 p3 B F k t vr2 l s1 u Q v2 T2 := by
  obtain ⟨a1, a2, a3, a4, a5, a6, a7, a8, a9, a10, a11⟩ := h
  obtain ⟨x1, x2, x3, x4, x5, x6⟩ := hX
  refine ⟨mEn_up a1 (fun j _ _ => x3 j (by omega)), hM, by rw [x4 15 F (by omega) (by omega)]; exact a3, ?_, hV, h20, h150, h24, Or.inl ⟨hl, h21, ?_⟩, hb, a11⟩
  · obtain ⟨b, eb, hb⟩ := a4
    exact ⟨b, by rw [x4 16 F (by omega) (by omega)]; exact eb, zU_up hb x2 x1⟩
  · rcases a9 with ⟨b1, b2, b3⟩ | ⟨b1, b2, b3⟩
    · exact mOut_up b3 (x4 24 F (by omega) (by omega)) (fun i _ _ => x5 25 i (by omega) (by omega)) x2 x1
    · omega
/-- values have been made -/
theorem mFr_E {v2 : mS} {T2 u2 : Nat} (h : mFr op ar sx p2 p3 B F k t vr l s u Q v T) (hE : mE v T v2 T2) (hM : mM v2 T2) (h21 : v2 0 21 = v 0 21) (hb : T2 + u2 ≤ T + u) : mFr op ar sx p2 p3 B F k t vr l s u2 Q v2 T2 := by
  obtain ⟨a1, a2, a3, a4, a5, a6, a7, a8, a9, a10, a11⟩ := h
  obtain ⟨x1, x2, x3, x4⟩ := id hE
  have hz : ∀ j, (1 ≤ j ∧ j ≤ 5) ∨ 14 ≤ j → v2 j = v j := fun j a => x3 j (by omega) (by omega) (by omega) (by omega) (by omega) (by omega)
  refine ⟨mEn_up a1 (fun j _ _ => hz j (by omega)), hM, by rw [hz 15 (by omega)]; exact a3, ?_, mVr_up a5 (hz 14 (by omega)) x2 x1, by rw [x4 20 (by decide) (by decide) (by decide)]; exact a6, a7, by rw [x4 24 (by decide) (by decide) (by decide)]; exact a8, ?_, by omega, a11⟩
  · obtain ⟨b, eb, hb⟩ := a4
    exact ⟨b, by rw [hz 16 (by omega)]; exact eb, zU_up hb x2 x1⟩
  · rcases a9 with ⟨b1, b2, b3⟩ | ⟨b1, b2, b3⟩
    · exact Or.inl ⟨b1, by rw [h21]; exact b2, mOut_up b3 (by rw [hz 24 (by omega)]) (fun i _ _ => by rw [hz 25 (by omega)]) x2 x1⟩
    · exact Or.inr ⟨b1, by rw [h21]; exact b2, by rw [hz 24 (by omega)]; exact b3⟩
/-- a value is put -/
theorem mFr_emit {a : Nat} {y : zT} (hF : F < 10) (h : mFr op ar sx p2 p3 B F k t vr l s u Q v T) (ha : zU (v 6) T a y) : ∃ v', f_M_emit v (zI F) (zI a) = some v' ∧ mFr op ar sx p2 p3 B F k t vr (l ++ [y]) s u Q v' T ∧ mX F v T v' T ∧ (∀ j, j ≠ 0 → j ≠ 24 → j ≠ 25 → v' j = v j) ∧ (∀ k, k ≠ 21 → v' 0 k = v 0 k) := by
  obtain ⟨a1, a2, a3, a4, a5, a6, a7, a8, a9, a10, a11⟩ := id h
  have e1 : (l ++ [y]).length = l.length + 1 := by simp
  have key : ∀ v', mM v' T → (∀ j, j ≠ 0 → j ≠ 24 → j ≠ 25 → v' j = v j) → (∀ k, k ≠ 21 → v' 0 k = v 0 k) → mLv v' T F (l ++ [y]) → mFr op ar sx p2 p3 B F k t vr (l ++ [y]) s u Q v' T := by
    intro v' m1 m2 m3 m4
    refine ⟨mEn_up a1 (fun j _ _ => m2 j (by omega) (by omega) (by omega)), m1, by rw [m2 15 (by decide) (by decide) (by decide)]; exact a3, ?_, mVr_up a5 (m2 14 (by decide) (by decide) (by decide)) (fun i _ => by rw [m2 6 (by decide) (by decide) (by decide)]) (Nat.le_refl _), by rw [m3 20 (by decide)]; exact a6, a7, by rw [m3 24 (by decide)]; exact a8, m4, a10, a11⟩
    rw [m2 16 (by decide) (by decide) (by decide), m2 6 (by decide) (by decide) (by decide)]
    exact a4
  rcases a9 with ⟨b1, b2, b3⟩ | ⟨b1, b2, b3⟩
  · obtain ⟨v', c1, c2, c3, c4, c5, c6, c7⟩ := m_emit hF a2 b2 b3 ha
    refine ⟨v', c1, key v' c2 c4 c5 ?_, c3, c4, c5⟩
    by_cases cc : l.length < 16
    · exact Or.inl ⟨by omega, c6 cc⟩
    · have c8 := c7 (by omega)
      refine Or.inr ⟨by omega, c8, 16, by omega, ?_⟩
      have e9 := m_emit_no (x := zI a) hF b2 b3 (by omega)
      rw [e9] at c1
      cases c1
      rw [sU_j (by decide), b3.1, show l.length = 16 by omega]
  · exact ⟨v, m_emit_dead b2, key v a2 (fun _ _ _ _ => rfl) (fun _ _ => rfl) (Or.inr ⟨by omega, b2, b3⟩), mX.rf, fun _ _ _ _ => rfl, fun _ _ => rfl⟩
/-- the frame ends -/
theorem m_endL {x : Int32} {e : Option zT} (hF : F < 10) (h : mFr op ar sx p2 p3 B F k t vr l s u Q v T) (hx : mErr x v T e) : ∃ v', f_M_end v (zI F) x = some v' ∧ mX F v T v' T ∧ mFE F Q vr s 0 (some (l, e, s)) v' T := by
  obtain ⟨a1, a2, a3, a4, a5, a6, a7, a8, a9, a10, a11⟩ := h
  rcases a9 with ⟨b1, b2, b3⟩ | ⟨b1, b2, n, b3, b4⟩
  · obtain ⟨v', c1, c2, c3, c4, c5, c6, c7, c8, c9⟩ := m_end (x := x) hF a2 a8 b3
    have h6 : v' 6 = v 6 := c8 6 (by decide) (by decide)
    refine ⟨v', c1, c3, 0, v', T, mRe.rf, c2, mX.rf, ?_⟩
    dsimp only
    rw [if_pos b1]
    refine ⟨by rw [c9 21 (by decide) (by decide) (by decide)]; exact b2, c4, ⟨c5, c6, ?_⟩, by rw [c9 20 (by decide) (by decide) (by decide)]; exact a6, mVr_up a5 (c8 14 (by decide) (by decide)) (fun i _ => by rw [h6]) (Nat.le_refl _), Nat.le_refl _, a7, by omega, by omega⟩
    rw [c7]
    exact mErr_up hx (fun i _ => by rw [h6]) (Nat.le_refl _)
  · have hln : (List.replicate n (zW 0)).length = n := by simp
    have e24 : sU v 0 24 (zI F) 24 F = zI n := by rw [sU_j (by decide)]; exact b4
    have e1 : f_M_end v (zI F) x = f_M_end_27 fu (zI F) (zI 0) (sU (sU (sU v 0 24 (zI F)) 0 37 (zI n)) 0 38 x) := by
      rw [f_M_end, a8, zl_1, zI_sub (by omega), show F + 1 - 1 = F by omega, nm_s, gd_I hF (by omega), zI_toNat (by omega), e24, nm_s, nm_s]
      rfl
    obtain ⟨v', f1, f2, f3, f4⟩ := m_end_l (l := List.replicate n (zW 0)) hF n fu 0 (sU (sU (sU v 0 24 (zI F)) 0 37 (zI n)) 0 38 x) (by rw [hln, sU_k (by decide), sU_hit]) (by omega) (by omega) (fu_lt (by omega))
    have h0 : ∀ i, i ≠ 24 → i ≠ 37 → i ≠ 38 → v' 0 i = v 0 i := fun i x1 x2 x3 => by rw [f2 0 (by decide), sU_k x3, sU_k x2, sU_k x1]
    have hj : ∀ j, j ≠ 0 → j ≠ 26 → v' j = v j := fun j x1 x2 => by rw [f2 j x2, sU_j x1, sU_j x1, sU_j x1]
    refine ⟨v', by rw [e1, f1], ⟨Nat.le_refl _, fun i _ => by rw [hj 6 (by decide) (by decide)], fun j a => hj j (by omega) (by omega), fun j i a _ => by rw [hj j (by omega) (by omega)], fun j i a _ => by rw [hj j (by omega) (by omega)], fun i a => h0 i (by omega) (by omega) (by omega)⟩, ?_⟩
    exact mFE_dead (mM_w a2 (h0 7 (by decide) (by decide) (by decide)) (fun i _ => by rw [hj 6 (by decide) (by decide)])) (by rw [h0 21 (by decide) (by decide) (by decide)]; exact b2) (Or.inr ⟨l, e, s, rfl, b1⟩)
/-- the frame ends with an error of its own -/
theorem m_errL {n : Nat} (hF : F < 10) (hn : n ≤ 9) (hu : 6 ≤ u) (h : mFr op ar sx p2 p3 B F k t vr l s u Q v T) : ∃ v' T', f_M_err v (zI F) (zI n) = some v' ∧ mX F v T v' T' ∧ mFE F Q vr s 0 (some (l, some (zQ ((n : Int) * 1000000)), s)) v' T' := by
  obtain ⟨a1, a2, a3, a4, a5, a6, a7, a8, a9, a10, a11⟩ := id h
  obtain ⟨v1, b1, b2, b3, b4, b5, b6⟩ := m_whole_ok a2 (n := n) (by omega) (by omega)
  obtain ⟨v', c1, c2, c3⟩ := m_endL (x := zI T) (e := some (zQ ((n : Int) * 1000000))) hF (mFr_E (u2 := u - 6) h b3 b2 b5 (by omega)) ⟨T, rfl, b4⟩
  refine ⟨v', T + 6, ?_, b3.X.tr c2, c3⟩
  have e1 : (zI n).toInt64 = zK (n : Int) := by rw [zI_J, zJ_64 (by omega) (by omega)]
  rw [f_M_err, e1, b1, bi_s, c1, bv_s]
/-- a part is asked for -/
theorem m_askK {q j b ph : Nat} {t2 : zT} {spK : List zT → Option zT → Nat → zEv} (hK : mKr op ar sx p2 p3 B d (F + 1)) (hF : F + 1 < 10) (h : mFr op ar sx p2 p3 B F k t vr l s u Q v T) (hq : zok op ar p2 p3 d q) (hp : ∀ w : mS, w 3 = v 3 → f_M_partOf w (zI (B + k)) (zI j) = some (zI (B + q), w)) (hb : zU (v 6) T b t2)
    (hc : ∀ (v2 : mS) (T2 : Nat) (r : List zT) (e : Option zT) (s1 : Nat), zev op ar sx p2 p3 d q t2 vr s = some (r, e, s1) → l.length ≤ 16 → mFr op ar sx p2 p3 B F k t vr l s1 u Q v2 T2 → mGot v2 T2 r e → mX (F + 1) (sU v 17 F (zI ph)) T v2 T2 → v2 17 F = zI ph → mFE F Q vr0 s1 c (zapp l (spK r e s1)) v2 T2) :
    ∃ v1, f_M_ask v (zI F) (zI j) (zI b) (zI ph) = some v1 ∧ mX F v T v1 T ∧ mFE F Q vr0 s c (zapp l (zbnd (zev op ar sx p2 p3 d q t2 vr s) spK)) v1 T := by
  have hw : mFr op ar sx p2 p3 B F k t vr l s u Q (sU v 17 F (zI ph)) T := mFr_w h (fun j a _ _ _ _ _ _ => sU_j a)
  obtain ⟨a1, a2, a3, a4, a5, a6, a7, a8, a9, a10, a11⟩ := id hw
  have hX0 : mX F v T (sU v 17 F (zI ph)) T := ⟨Nat.le_refl _, fun i _ => by rw [sU_j (by decide)], fun j a => sU_j (by omega), fun j i a b => by
    by_cases cj : j = 17
    · subst cj; rw [sU_k (by omega)]
    · rw [sU_j cj], fun j i a _ => by rw [sU_j (by omega)], fun i _ => by rw [sU_j (by decide)]⟩
  have e1 : f_M_ask v (zI F) (zI j) (zI b) (zI ph) = bv (f_M_work (sU v 17 F (zI ph)) (zI (B + q)) (zI b)) fun v => some v := by
    rw [f_M_ask, gd_I (by omega) (by omega), zI_toNat (by omega), nm_s, gd_I (by omega) (by omega), a3, hp _ (sU_j (by decide)), bi_s]
  have hb' : zU (sU v 17 F (zI ph) 6) T b t2 := by rw [sU_j (by decide)]; exact hb
  have h17 : sU v 17 F (zI ph) 17 F = zI ph := sU_hit
  generalize sU v 17 F (zI ph) = w at *
  rcases a9 with ⟨b1, b2, b3⟩ | ⟨b1, b2, b3⟩
  · obtain ⟨v1, c1, c2, c3⟩ := hK w T q b t2 vr s (Q - u) a1 hq a2 hb' a5 a6 a7 b2 a8 (by omega) (by omega)
    refine ⟨v1, by rw [e1, c1, bv_s], hX0.tr (c2.mono (by omega)), ?_⟩
    obtain ⟨n, v2, T2, f1, f2, f3, f4⟩ := c3
    cases hz : zev op ar sx p2 p3 d q t2 vr s with
    | none =>
      rw [hz] at f4
      exact ⟨n, v2, T2, f1, f2, f3.mono (by omega), f4.1, by have := f4.2; omega⟩
    | some z =>
      obtain ⟨r, e, s1⟩ := z
      have h16 := zev_16 hz
      rw [hz] at f4
      dsimp only at f4
      rw [if_pos h16] at f4
      obtain ⟨g1, g2, g3, g4, g5, g6, g7, g8, g9⟩ := f4
      refine mFE_pre f1 (f3.mono (by omega)) (hc v2 T2 r e s1 hz b1 (mFr_X hw b1 (c2.tr f3) f2 g4 g7 g2 g1 g5 (by omega)) g3 (c2.tr f3) ?_) g6 g7 (by omega)
      rw [(c2.tr f3).2.2.2.1 17 F (by omega) (by omega)]
      exact h17
  · by_cases c9 : s < 150
    · refine ⟨mwk w (F + 1) s (zI (B + q)) (zI b), by rw [e1, m_work_ok hF a8 a6 c9, bv_s], hX0.tr (mwk_X.mono (by omega)), mFE_deadA (mwk_M a2) ?_ b1⟩
      rw [mwk_0 (by decide) (by decide)]
      exact b2
    · refine ⟨sU (sU w 0 20 (zI (s + 1))) 0 21 1, by rw [e1, m_work_no a6 (by omega) (by omega), bv_s], hX0.tr ⟨Nat.le_refl _, fun i _ => by rw [sU_j (by decide), sU_j (by decide)], fun j a => by rw [sU_j (by omega), sU_j (by omega)], fun j i a _ => by rw [sU_j (by omega), sU_j (by omega)], fun j i a _ => by rw [sU_j (by omega), sU_j (by omega)], fun i a => by rw [sU_k (by omega), sU_k (by omega)]⟩, mFE_deadA (mM_w a2 (by rw [sU_k (by decide), sU_k (by decide)]) (fun i _ => by rw [sU_j (by decide), sU_j (by decide)])) sU_hit b1⟩
/-- a round -/
theorem mFE_rd {p T1 : Nat} {v1 : mS} {sp' : zEv} (hF : F < 10) (h : mFr op ar sx p2 p3 B F k t vr l s u Q v T) (h0 : v 0 21 = 0) (hp : v 17 F = zI p) (hp5 : p < 5) (hs : f_M_step v (zI F) = some v1) (hX : mX F v T v1 T1) (hk : mFE F Q vr0 s c sp' v1 T1) : mFE F Q vr0 s (c + 1) sp' v T := by
  obtain ⟨a1, a2, a3, a4, a5, a6, a7, a8, a9, a10, a11⟩ := id h
  exact mFE_pre (mRe_step hF a8 h0 ⟨p, hp, hp5⟩ hs) hX hk (Nat.le_refl _) a7 (by omega)
theorem m_parts {o : Nat} (ho : o ≤ 34) : f_M_parts v (zI o) = some (zI (zpt o), v) := by
  have : ∀ o, o ≤ 34 → ∀ v : mS, f_M_parts v (zI o) = some (zI (zpt o), v) := by
    intro o ho v
    match o, ho with
    | 0, _ | 1, _ | 2, _ | 3, _ | 4, _ | 5, _ | 6, _ | 7, _ | 8, _ | 9, _ | 10, _ | 11, _ | 12, _ | 13, _ | 14, _ | 15, _ | 16, _ | 17, _ | 18, _ | 19, _ | 20, _ | 21, _ | 22, _ | 23, _ | 24, _ | 25, _ | 26, _ | 27, _ | 28, _ | 29, _ | 30, _ | 31, _ | 32, _ | 33, _ | 34, _ => rfl
    | n + 35, h => omega
  exact this o ho v
/-- which code a phase runs -/
theorem m_step_0 (hF : F < 10) (h : mFr op ar sx p2 p3 B F k t vr l s u Q v T) (hk : k < 32) (ho : op k ≤ 34) (hz : zpt (op k) = 0) : f_M_step v (zI F) = bv (f_M_leaf v (zI F) (zI (op k))) fun v => some v := by
  obtain ⟨a1, a2, a3, a4, a5, a6, a7, a8, a9, a10, a11⟩ := id h
  have hB := a1.1
  rw [f_M_step, gd_I hF (by omega), zI_toNat (by omega), a3, gd_I (by omega) (by omega), zI_toNat (by omega), (a1.2.1 k hk).1, nm_s, m_parts ho, bi_s, hz, if_pos (by decide)]
  rfl
theorem m_step_p {p : Nat} (hF : F < 10) (h : mFr op ar sx p2 p3 B F k t vr l s u Q v T) (hk : k < 32) (ho : op k ≤ 34) (hz : 1 ≤ zpt (op k)) (hp : v 17 F = zI p) (hp5 : p < 5) : f_M_step v (zI F) = if p = 0 then (bv (f_M_first v (zI F) (zI (op k))) fun v => some v) else if p = 1 then (bv (f_M_came v (zI F) (zI (op k))) fun v => some v) else if p = 2 then (bv (f_M_next v (zI F) (zI (op k))) fun v => some v) else if p = 3 then (bv (f_M_worked v (zI F) (zI (op k))) fun v => some v) else (bv (f_M_take v (zI F)) fun v_16 => bv (f_M_end v_16 (zI F) (v_16 0 38)) fun v => some v) := by
  obtain ⟨a1, a2, a3, a4, a5, a6, a7, a8, a9, a10, a11⟩ := id h
  have hB := a1.1
  have hz3 : zpt (op k) ≤ 3 := by unfold zpt; split <;> (try split) <;> (try split) <;> omega
  rw [f_M_step, gd_I hF (by omega), zI_toNat (by omega), a3, gd_I (by omega) (by omega), zI_toNat (by omega), (a1.2.1 k hk).1, nm_s, m_parts ho, bi_s, zl_0, iI_eq (by omega) (by omega), if_neg (by omega), gd_I hF (by omega), hp, iI_eq (by omega) (by omega), zl_1, iI_eq (by omega) (by omega), zl_2, iI_eq (by omega) (by omega), zl_3, iI_eq (by omega) (by omega)]
  repeat rw [gd_I hF (by omega)]
  rfl
end MU
