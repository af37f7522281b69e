/-! the reference: a run; the call run of both -/
section TB
variable {c : Nat} {g g' : Nat → Nat} {v v' w w' : mS} {T T' : Nat} {S : Nat → zT} {X : Nat → zN} {N : Nat → Nat} {op : Nat → Nat → Nat} {ar : Nat → Nat → Int32} {O : List zT} {E : zT} {st er rm : Int32}
theorem m_run_80 {k l a : Nat} (hl : l < 8) : ∀ (m i q : Nat) (v : mS), i + m = 4 → m < q → v 8 l = zI a → ∃ v', f_M_run_80 q (zI k) (zI l) (zI i) v = (bv (f_M_work v' (32 * zI k) (zI a)) fun v_3 => f_M_run_112 fu v_3) ∧ (∀ j, j ≠ 14 → v' j = v j) ∧ (∀ p, p < i → v' 14 p = v 14 p) ∧ ∀ p, i ≤ p → p < 4 → v' 14 p = zI 4 := by
  intro m
  induction m with
  | zero =>
    intro i q v hi hq ha
    obtain ⟨q, rfl, -⟩ := suc_of hq
    refine ⟨v, ?_, fun _ _ => rfl, fun _ _ => rfl, fun p h1 h2 => by omega⟩
    rw [f_M_run_80, zl_4, iI_le (by omega) (by omega), if_pos (by omega), gd_I hl (by omega), zI_toNat (by omega), ha]
  | succ m ih =>
    intro i q v hi hq ha
    obtain ⟨q, rfl, hq⟩ := suc_of hq
    have hq := Nat.lt_of_succ_lt_succ hq
    obtain ⟨v', a1, a2, a3, a4⟩ := ih (i + 1) q (sU v 14 i (zI 4)) (by omega) hq (by rw [sU_j (by decide)]; exact ha)
    refine ⟨v', ?_, fun j hj => (a2 j hj).trans (sU_j hj), fun p hp => (a3 p (by omega)).trans (sU_k (by omega)), fun p h1 h2 => ?_⟩
    · have e1 : zI i + 1 = zI (i + 1) := by rw [zl_1, zI_add]
      rw [f_M_run_80, zl_4, iI_le (by omega) (by omega), if_neg (by omega), gd_I (by omega) (by omega), zI_toNat (by omega), nm_s, e1, nm_s, a1]
    · by_cases cp : p = i
      · subst cp; rw [a3 p (by omega), sU_hit]
      · exact a4 p (by omega) h2
theorem m_run_197 {n : Nat} {x : Int32} (hn : n ≤ 16) : ∀ (m i q : Nat) (v : mS), i + m = n → m < q → v 0 37 = zI n → v 0 38 = x → ∃ v', f_M_run_197 q (zI i) v = (if x = 0 then some (v' 0 12, v') else some (0, sU (sU (sU v' 0 13 x) 0 22 (v' 0 22 + 1)) 0 0 3)) ∧ (∀ j, j ≠ 9 → v' j = v j) ∧ (∀ p, p < i → v' 9 p = v 9 p) ∧ ∀ p, i ≤ p → p < n → v' 9 p = v 26 p := by
  intro m
  induction m with
  | zero =>
    intro i q v hi hq h37 h38
    obtain ⟨q, rfl, -⟩ := suc_of hq
    refine ⟨v, ?_, fun _ _ => rfl, fun _ _ => rfl, fun p h1 h2 => by omega⟩
    rw [f_M_run_197, h37, iI_le (by omega) (by omega), if_pos (by omega), h38]
    by_cases cx : x = 0
    · rw [if_pos cx, if_pos cx]
    · rw [if_neg cx, if_neg cx, nm_s, nm_s, sU_k (by decide)]
      rfl
  | succ m ih =>
    intro i q v hi hq h37 h38
    obtain ⟨q, rfl, hq⟩ := suc_of hq
    have hq := Nat.lt_of_succ_lt_succ hq
    obtain ⟨v', a1, a2, a3, a4⟩ := ih (i + 1) q (sU v 9 i (v 26 i)) (by omega) hq (by rw [sU_j (by decide)]; exact h37) (by rw [sU_j (by decide)]; exact h38)
    refine ⟨v', ?_, fun j hj => (a2 j hj).trans (sU_j hj), fun p hp => (a3 p (by omega)).trans (sU_k (by omega)), fun p h1 h2 => ?_⟩
    · have e1 : zI i + 1 = zI (i + 1) := by rw [zl_1, zI_add]
      rw [f_M_run_197, h37, iI_le (by omega) (by omega), if_neg (by omega), gd_I (by omega) (by omega), gd_I (by omega) (by omega), zI_toNat (by omega), nm_s, e1, nm_s, a1]
    · by_cases cp : p = i
      · subst cp; rw [a3 p (by omega), sU_hit]
      · rw [a4 p (by omega) h2, sU_j (by decide)]
/-- a run of a right filter -/
theorem m_run_ok {k l : Nat} (hk : k < 4) (hl : l < 8) (hA : zAb N op ar O) (hW : mRl w S X N op ar O E st er rm) (hr : zen8 (op k) (N k) 8 0 = N k) : ∃ r w', f_M_run w (zI k) (zI l) = some (r, w') ∧ (match zSp op ar N X S k l with
    | none => w' 0 0 = zI 4 ∧ mRl w' S X N op ar [] (zW 0) 0 er (rm + 1)
    | some (r', none, s1) => w' 0 0 = 0 ∧ r = zI r'.length ∧ mRl w' S X N op ar r' (zW 0) (zI s1) er rm
    | some (r', some t, s1) => w' 0 0 = zI 3 ∧ mRl w' S X N op ar r' t (zI s1) (er + 1) rm) := by
  have n1 : ¬ (1 : Int32) = 0 := by decide
  obtain ⟨hN, hop⟩ := hA.1 k hk
  have hW0 : mRl (sU w 0 0 0) S X N op ar O E st er rm := mRl_0 hW
  obtain ⟨T, d1, d2, d3, d4, d5, d6, d7, d8, d9⟩ := hW0
  obtain ⟨f1, f2⟩ := d4 k hk
  obtain ⟨w1, a1, a2⟩ := m_right (v := sU w 0 0 0) hk hN (fun i hi => (hop i hi).1) f1 (fun i hi => (f2 i (by omega)).1)
  rw [if_pos hr] at a1
  have h6 : w1 6 = sU w 0 0 0 6 := a2.1 6 (by decide) (by decide)
  obtain ⟨w2, T2, b1, b2, b3, b4, b5⟩ := m_sweep (S := S) (mM_w d1 (a2.2 7 (by decide)) (fun i _ => by rw [h6])) (mSl_up d2 h6 (a2.1 8 (by decide) (by decide)))
  obtain ⟨a, ea, ha⟩ := b4 l hl
  have hw3 : ∃ w3 : mS, w3 = sU (sU (sU (sU (sU (sU w2 0 12 0) 0 13 4) 0 20 0) 0 21 0) 0 24 0) 0 38 0 := ⟨_, rfl⟩
  obtain ⟨w3, e3⟩ := hw3
  have c3j : ∀ j, j ≠ 0 → w3 j = w2 j := fun j h => by rw [e3, sU_j h, sU_j h, sU_j h, sU_j h, sU_j h, sU_j h]
  have c3k : ∀ i, i ≠ 12 → i ≠ 13 → i ≠ 20 → i ≠ 21 → i ≠ 24 → i ≠ 38 → w3 0 i = w2 0 i := fun i h1 h2 h3 h4 h5 h6 => by rw [e3, sU_k h6, sU_k h5, sU_k h4, sU_k h3, sU_k h2, sU_k h1]
  have c312 : w3 0 12 = 0 := by rw [e3, sU_k (by decide), sU_k (by decide), sU_k (by decide), sU_k (by decide), sU_k (by decide), sU_hit]
  have c313 : w3 0 13 = zI 4 := by rw [e3, sU_k (by decide), sU_k (by decide), sU_k (by decide), sU_k (by decide), sU_hit]; rfl
  have c320 : w3 0 20 = zI 0 := by rw [e3, sU_k (by decide), sU_k (by decide), sU_k (by decide), sU_hit]; rfl
  have c321 : w3 0 21 = 0 := by rw [e3, sU_k (by decide), sU_k (by decide), sU_hit]
  have c324 : w3 0 24 = zI 0 := by rw [e3, sU_k (by decide), sU_hit]; rfl
  obtain ⟨w4, g1, g2, g3, g4⟩ := m_run_80 (k := k) (a := a) hl 4 0 fu w3 (by omega) (fu_lt (by omega)) (by rw [c3j 8 (by decide)]; exact ea)
  -- the state in which the work begins
  have h4j : ∀ j, (1 ≤ j ∧ j ≤ 5) ∨ j = 9 → w4 j = sU w 0 0 0 j := fun j hj => by
    rw [g2 j (by omega), c3j j (by omega), b5.1 j (by omega) (by omega) (by omega) (by omega) (by omega) (by omega), a2.1 j (by omega) (by omega)]
  have h46 : w4 6 = w2 6 := by rw [g2 6 (by decide), c3j 6 (by decide)]
  have h48 : w4 8 = w2 8 := by rw [g2 8 (by decide), c3j 8 (by decide)]
  have h40 : w4 0 = w3 0 := g2 0 (by decide)
  have h4k : ∀ i, i = 0 ∨ i = 22 ∨ i = 23 → w4 0 i = sU w 0 0 0 0 i := fun i hi => by
    rw [h40, c3k i (by omega) (by omega) (by omega) (by omega) (by omega) (by omega), b5.2 i (by omega) (by omega) (by omega), a2.2 i (by omega)]
  have hM4 : mM w4 T2 := mM_w b2 (by rw [h40, c3k 7 (by decide) (by decide) (by decide) (by decide) (by decide) (by decide)]) (fun i _ => by rw [h46])
  have hok : zok (op k) (ar k) (zp2 (op k) (N k)) (zp3 (op k) (N k)) 8 0 := zen_ok hN hop 8 0 (by omega) (by omega)
  have hEn : mEn (op k) (ar k) X (zp2 (op k) (N k)) (zp3 (op k) (N k)) (32 * k) w4 := by
    refine ⟨by omega, fun i hi => ?_, mSx_up d3 (h4j 1 (by omega)) (h4j 2 (by omega)), fun u hu d i hz => ?_⟩
    · rw [h4j 3 (by omega), h4j 4 (by omega)]; exact f2 i hi
    · refine m_partOf (by omega) hN (fun i hi => (hop i hi).1) (fun i hi => ?_) hz
      rw [hu, h4j 3 (by omega)]; exact (f2 i (by omega)).1
  have hVr : mVr w4 T2 (fun _ => zW 0) := fun i hi => ⟨4, g4 i (by omega) hi, mM_W hM4 (k := 0) (by omega)⟩
  obtain ⟨v1, x1, x2, n, v', T', y1, y2, y3, y4⟩ := m_work (op := op k) (ar := ar k) (sx := X) (p2 := zp2 (op k) (N k)) (p3 := zp3 (op k) (N k)) (B := 32 * k) 8 0 (by omega) w4 T2 0 a (S l) (fun _ => zW 0) 0 63900 hEn hok hM4 (by rw [h46]; exact ha) hVr (by rw [h40]; exact c320) (by omega) (by rw [h40]; exact c321) (by rw [h40]; exact c324) (by omega) (by omega)
  have hX := x2.tr y3
  have e32 : 32 * zI k = zI (32 * k + 0) := by rw [show (32 : Int32) = zI 32 from rfl, zI_mul]; rfl
  have w1i : f_M_within (sU w 0 0 0) (zI k) 0 3 = some (1, sU w 0 0 0) := m_within_in (lo := 0) (hi := 3) (by omega) (by omega) (by omega)
  have w2i : f_M_within (sU w 0 0 0) (zI l) 0 7 = some (1, sU w 0 0 0) := m_within_in (lo := 0) (hi := 7) (by omega) (by omega) (by omega)
  have road : f_M_run w (zI k) (zI l) = f_M_run_112 fu v1 := by
    rw [f_M_run, nm_s, w1i, bi_s, if_neg n1, w2i, bi_s, if_neg n1, a1, bi_s, if_neg n1, b1, bv_s, nm_s, nm_s, nm_s, nm_s, nm_s, nm_s, ← e3]
    show f_M_run_80 fu (zI k) (zI l) (zI 0) w3 = _
    rw [g1, e32, x1, bv_s]
  have hn : n ≤ 6000 := by
    revert y4
    split
    · intro q; omega
    · split
      · rintro ⟨-, -, -, -, -, -, q1, q2, -⟩; omega
      · intro q; omega
  have road2 : f_M_run w (zI k) (zI l) = f_M_run_112 (999999 - n + 1) v' := by
    rw [road, show fu = (999999 - n + 1) + n by show 1000000 = _; omega, y1]
  -- what is left of the state
  have hS' : mSl v' T' S := fun i hi => by
    obtain ⟨q, eq, hq⟩ := b4 i hi
    exact ⟨q, by rw [hX.2.2.1 8 (by omega), h48]; exact eq, zU_up (by rw [← h46] at hq; exact hq) hX.2.1 hX.1⟩
  have hX' : mSx v' X := mSx_up d3 (by rw [hX.2.2.1 1 (by omega)]; exact h4j 1 (by omega)) (by rw [hX.2.2.1 2 (by omega)]; exact h4j 2 (by omega))
  have hF' : mFl v' N op ar := mFl_up d4 (by rw [hX.2.2.1 3 (by omega)]; exact h4j 3 (by omega)) (by rw [hX.2.2.1 4 (by omega)]; exact h4j 4 (by omega)) (by rw [hX.2.2.1 5 (by omega)]; exact h4j 5 (by omega))
  have r22 : v' 0 22 = er := by rw [hX.2.2.2.2.2 22 (by omega), h4k 22 (by omega)]; exact d8
  have r23 : v' 0 23 = rm := by rw [hX.2.2.2.2.2 23 (by omega), h4k 23 (by omega)]; exact d9
  have r0 : v' 0 0 = 0 := by rw [hX.2.2.2.2.2 0 (by omega), h4k 0 (by omega)]; exact sU_hit
  have r12 : v' 0 12 = 0 := by rw [hX.2.2.2.2.2 12 (by omega), h40]; exact c312
  have r13 : v' 0 13 = zI 4 := by rw [hX.2.2.2.2.2 13 (by omega), h40]; exact c313
  have hnull : zU (v' 6) T' 4 (zW 0) := mM_W y2 (k := 0) (by omega)
  unfold zSp
  cases hsp : zev (op k) (ar k) X (zp2 (op k) (N k)) (zp3 (op k) (N k)) 8 0 (S l) (fun _ => zW 0) 0 with
  | none =>
    rw [hsp] at y4
    dsimp only at y4
    refine ⟨0, sU (sU (sU v' 0 20 0) 0 23 (rm + 1)) 0 0 4, ?_, sU_hit, ?_⟩
    · have h159 : f_M_run_159 v' = some (0, sU (sU (sU v' 0 20 0) 0 23 (rm + 1)) 0 0 4) := by
        rw [f_M_run_159, y4.1, if_neg n1, nm_s, sU_k (by decide), r23, nm_s]
        rfl
      rw [road2, f_M_run_112, y4.1, if_neg n1, h159, ite_self]
    · have hj' : ∀ j, j ≠ 0 → sU (sU (sU v' 0 20 0) 0 23 (rm + 1)) 0 0 4 j = v' j := fun j h => by rw [sU_j h, sU_j h, sU_j h]
      refine ⟨T', mM_w y2 (by rw [sU_k (by decide), sU_k (by decide), sU_k (by decide)]) (fun i _ => by rw [hj' 6 (by decide)]), mSl_up hS' (hj' 6 (by decide)) (hj' 8 (by decide)), mSx_up hX' (hj' 1 (by decide)) (hj' 2 (by decide)), mFl_up hF' (hj' 3 (by decide)) (hj' 4 (by decide)) (hj' 5 (by decide)), ⟨?_, fun i hi => absurd hi (Nat.not_lt_zero i)⟩, ⟨4, ?_, by rw [hj' 6 (by decide)]; exact hnull⟩, ?_, ?_, ?_⟩
      · rw [sU_k (by decide), sU_k (by decide), sU_k (by decide), r12]; rfl
      · rw [sU_k (by decide), sU_k (by decide), sU_k (by decide), r13]
      · rw [sU_k (by decide), sU_k (by decide), sU_hit]
      · rw [sU_k (by decide), sU_k (by decide), sU_k (by decide), r22]
      · rw [sU_k (by decide), sU_hit]
  | some z =>
    obtain ⟨r, e, sf⟩ := z
    rw [hsp] at y4
    dsimp only at y4
    have h16 := zev_16 hsp
    rw [if_pos h16] at y4
    obtain ⟨z1, z2, ⟨z3, z4, z5⟩, z6, -⟩ := y4
    have h0 : zI 0 ≤ (0 : Int32) := by decide
    obtain ⟨v5, q1, q2, q3, q4⟩ := m_run_197 (n := r.length) (x := v' 0 38) h16 r.length 0 fu (sU v' 0 12 (zI r.length)) (by omega) (fu_lt (by omega)) (by rw [sU_k (by decide)]; exact z3) (by rw [sU_k (by decide)])
    have hrun : f_M_run w (zI k) (zI l) = (if v' 0 38 = 0 then some (v5 0 12, v5) else some (0, sU (sU (sU v5 0 13 (v' 0 38)) 0 22 (v5 0 22 + 1)) 0 0 3)) := by
      rw [road2, f_M_run_112, z2, if_pos h0, f_M_run_159, z1, if_pos rfl, z3, nm_s, ← q1]
      rfl
    have k0 : ∀ i, i ≠ 12 → v5 0 i = v' 0 i := fun i hi => by rw [q2 0 (by decide), sU_k hi]
    have k12 : v5 0 12 = zI r.length := by rw [q2 0 (by decide), sU_hit]
    have kj : ∀ j, j ≠ 0 → j ≠ 9 → v5 j = v' j := fun j h1 h2 => by rw [q2 j h2, sU_j h1]
    have k6 := kj 6 (by decide) (by decide)
    have hO' : ∀ i, i < r.length → ∃ a, v5 9 i = zI a ∧ zU (v5 6) T' a (r.getD i (zW 0)) := fun i hi => by
      obtain ⟨b, e1, e2⟩ := z4.2 i hi
      rw [Nat.zero_add] at e1
      exact ⟨b, by rw [q4 i (by omega) hi, sU_j (by decide)]; exact e1, by rw [k6]; exact e2⟩
    cases e with
    | none =>
      have z5 : v' 0 38 = 0 := z5
      rw [if_pos z5] at hrun
      exact ⟨_, _, hrun, by rw [k0 0 (by decide)]; exact r0, k12, T', mM_w y2 (k0 7 (by decide)) (fun i _ => by rw [k6]), mSl_up hS' k6 (kj 8 (by decide) (by decide)), mSx_up hX' (kj 1 (by decide) (by decide)) (kj 2 (by decide) (by decide)), mFl_up hF' (kj 3 (by decide) (by decide)) (kj 4 (by decide) (by decide)) (kj 5 (by decide) (by decide)), ⟨k12, hO'⟩, ⟨4, by rw [k0 13 (by decide)]; exact r13, by rw [k6]; exact hnull⟩, by rw [k0 20 (by decide)]; exact z6, by rw [k0 22 (by decide)]; exact r22, by rw [k0 23 (by decide)]; exact r23⟩
    | some t =>
      obtain ⟨b, ub, ut⟩ := z5
      have hb := zU_head ut
      have hT5 := y2.2.2.1
      have une : ¬ v' 0 38 = 0 := by
        rw [ub, zl_0, zI_eq (by omega) (by omega)]; omega
      rw [if_neg une] at hrun
      have hj' : ∀ j, j ≠ 0 → sU (sU (sU v5 0 13 (v' 0 38)) 0 22 (v5 0 22 + 1)) 0 0 3 j = v5 j := fun j h => by rw [sU_j h, sU_j h, sU_j h]
      have j6 := (hj' 6 (by decide)).trans k6
      refine ⟨_, _, hrun, sU_hit, T', mM_w y2 ?_ (fun i _ => by rw [j6]), mSl_up hS' j6 ((hj' 8 (by decide)).trans (kj 8 (by decide) (by decide))), mSx_up hX' ((hj' 1 (by decide)).trans (kj 1 (by decide) (by decide))) ((hj' 2 (by decide)).trans (kj 2 (by decide) (by decide))), mFl_up hF' ((hj' 3 (by decide)).trans (kj 3 (by decide) (by decide))) ((hj' 4 (by decide)).trans (kj 4 (by decide) (by decide))) ((hj' 5 (by decide)).trans (kj 5 (by decide) (by decide))), ⟨?_, fun i hi => ?_⟩, ⟨b, ?_, by rw [j6]; exact ut⟩, ?_, ?_, ?_⟩
      · rw [sU_k (by decide), sU_k (by decide), sU_k (by decide)]; exact k0 7 (by decide)
      · rw [sU_k (by decide), sU_k (by decide), sU_k (by decide)]; exact k12
      · rw [hj' 9 (by decide), hj' 6 (by decide)]; exact hO' i hi
      · rw [sU_k (by decide), sU_k (by decide), sU_hit]; exact ub
      · rw [sU_k (by decide), sU_k (by decide), sU_k (by decide), k0 20 (by decide)]; exact z6
      · rw [sU_k (by decide), sU_hit, k0 22 (by decide), r22]
      · rw [sU_k (by decide), sU_k (by decide), sU_k (by decide), k0 23 (by decide)]; exact r23
theorem z_run (x1 x2 : Int32) (h : zZ c g v w) : zSt (c + 1) (f_B_run g v x1 x2) (f_M_run w x1 x2) := by
  obtain ⟨S, X, N, op, ar, O, E, st, er, rm, hA, hC, hW⟩ := h
  have hW0 : mRl (sU w 0 0 0) S X N op ar O E st er rm := mRl_0 hW
  have n1 : ¬ (1 : Int32) = 0 := by decide
  have bad : ∀ (F : Option (bO Int32)), F = some (.inr 0, g, v) → (f_M_run w x1 x2 = f_M_run_24 (sU w 0 0 0)) → zSt (c + 1) F (f_M_run w x1 x2) := by
    intro F hF hG
    refine zSt_no (w := sU (sU w 0 0 0) 0 0 1) (r := 0) hA hC (mRl_0 hW0) hF ?_ sU_hit
    rw [hG]; rfl
  have b21 : f_B_run_21 x1 x2 g v = some (.inr 0, g, v) := by
    rw [f_B_run_21, f_B_run_22, b_req0]; rfl
  rcases r_3 x1 with ⟨k, hk, rfl, b1, w1⟩ | ⟨b1, w1⟩
  · rcases r_7 x2 with ⟨l, hl, rfl, b2, w2⟩ | ⟨b2, w2⟩
    · have hB : ∀ o, f_B_run_25 (zI k) (zI l) g v = some o → gL g ≤ gL o.2.1 → f_B_run g v (zI k) (zI l) = some o := by
        intro o ho hg
        rw [f_B_run, b1, bi_s, if_neg n1, b2, bi_s, if_neg n1, f_B_run_22, b_req1]
        exact mg_s (bo_l ho hg) hg
      by_cases hr : zen8 (op k) (N k) 8 0 = N k
      · have hc := c_run_ok hk hl hA hC hr
        obtain ⟨r, w', m1, m2⟩ := m_run_ok hk hl hA hW hr
        cases hsp : zSp op ar N X S k l with
        | none =>
          rw [hsp] at hc m2
          obtain ⟨g', v', h1, h2, h3⟩ := hc
          exact ⟨_, _, _, _, _, hB _ h1 h2, m1, ⟨by decide, m2.1⟩, S, X, N, op, ar, [], zW 0, 0, er, rm + 1, ⟨hA.1, by simp⟩, h3, m2.2⟩
        | some z =>
          obtain ⟨r', e, sf⟩ := z
          have h16 := zev_16 (show zev (op k) (ar k) X (zp2 (op k) (N k)) (zp3 (op k) (N k)) 8 0 (S l) (fun _ => zW 0) 0 = some (r', e, sf) from hsp)
          rw [hsp] at hc m2
          cases e with
          | none =>
            obtain ⟨g', v', h1, h2, h3⟩ := hc
            obtain ⟨m3, rfl, m4⟩ := m2
            exact ⟨_, _, _, _, _, hB _ h1 h2, m1, ⟨m3, rfl⟩, S, X, N, op, ar, r', zW 0, zI sf, er, rm, ⟨hA.1, h16⟩, h3, m4⟩
          | some t =>
            obtain ⟨g', v', h1, h2, h3⟩ := hc
            exact ⟨_, _, _, _, _, hB _ h1 h2, m1, ⟨by decide, m2.1⟩, S, X, N, op, ar, r', t, zI sf, er + 1, rm, ⟨hA.1, h16⟩, h3, m2.2⟩
      · obtain ⟨T, c1, c2, c3, c4, c5, c6, c7, c8, c9, c10, c11, c12⟩ := hC
        obtain ⟨T', d1, d2, d3, d4, d5⟩ := hW0
        obtain ⟨hN, hop⟩ := hA.1 k hk
        obtain ⟨f1, f2⟩ := c7 k hk
        obtain ⟨h1, h2⟩ := d4 k hk
        obtain ⟨v3, p1, p2, p3⟩ := c_isRight (g := g) (v := v) (j := 9 + 4 * k) hN (filB_z hk) (fun i hi => (hop i hi).1) f1 (fun i hi => by
          rw [show 9 + 4 * k + 1 = 10 + 4 * k by omega]; exact (f2 i (by omega)).1)
        obtain ⟨w3, a1, a2⟩ := m_right (v := sU w 0 0 0) hk hN (fun i hi => (hop i hi).1) h1 (fun i hi => (h2 i (by omega)).1)
        rw [if_neg hr] at a1 p1
        have q4 : v3 4 = v 4 := p2 4 (by omega)
        have q0 : v3 0 = v 0 := p2 0 (by omega)
        refine zSt_no (c := c) (g := g) (v := v3) (w := sU w3 0 0 2) (n := 1) (r := 0) (S := S) (X := X) (N := N) (op := op) (ar := ar) (O := O) (E := E) (st := st) (er := er) (rm := rm) hA ?_ ?_ (hB _ ?_ (Nat.le_refl _)) ?_ sU_hit
        · refine ⟨T, zM_w c1 (p2 1 (by omega)) (fun i _ => by rw [q4]), c2, c3, fun i hi => by rw [q4, p2 5 (by omega)]; exact c4 i hi, cSl_up c5 (fun i _ => by rw [q4]) (Nat.le_refl _) (p2 6 (by omega)), cSt_up c6 (fun i _ => by rw [q4]) (Nat.le_refl _) (p2 7 (by omega)), fun f hf => ?_, cOu_up c8 (fun i _ => by rw [q4]) (Nat.le_refl _) (by rw [q0]) (p2 61 (by omega)), cFt_up c9 (fun i _ => by rw [q4]) (Nat.le_refl _) (by rw [q0]), by rw [q0]; exact c10, by rw [q0]; exact c11, by rw [q0]; exact c12⟩
          rw [p2 _ (by omega), p2 _ (by omega), p2 _ (by omega)]; exact c7 f hf
        · refine mRl_0 (mRl_up (mRl_0 (x := 0) hW) (fun j hj => a2.1 j (by omega) (by omega)) (fun i hi => a2.2 i (by omega)))
        · rw [f_B_run_25, gd_I hk (by omega), zI_toNat (by omega), nm_s, p1, bi_s, if_pos rfl]
        · rw [f_M_run, nm_s, w1, bi_s, if_neg n1, w2, bi_s, if_neg n1, a1, bi_s, if_pos rfl]
          rfl
    · refine bad _ ?_ ?_
      · rw [f_B_run, b1, bi_s, if_neg n1, b2, bi_s, if_pos rfl, b21]
        exact mg_s rfl (Nat.le_refl _)
      · rw [f_M_run, nm_s, w1, bi_s, if_neg n1, w2, bi_s, if_pos rfl]
  · refine bad _ ?_ ?_
    · rw [f_B_run, b1, bi_s, if_pos rfl, b21]
      exact mg_s rfl (Nat.le_refl _)
    · rw [f_M_run, nm_s, w1, bi_s, if_pos rfl]
end TB
