/-! the class: a run -/
section TA
variable {c : Nat} {g g' : Nat → Nat} {v v' w w' : mS} {T T' : Nat} {S : Nat → zT} {X : Nat → zN} {N : Nat → Nat} {op : Nat → Nat → Nat} {ar : Nat → Nat → Int32} {O : List zT} {E : zT} {st er rm : Int32}
theorem c_fill : ∀ (m i q : Nat) (v : mS), i + m = 4 → m < q → ∃ v', f_J_fill_5 g q 26 0 (zI i) (zI 4) v = some v' ∧ (∀ j, j ≠ 26 → v' j = v j) ∧ (∀ p, p < i → v' 26 p = v 26 p) ∧ ∀ p, i ≤ p → p < 4 → v' 26 p = 0 := by
  intro m
  induction m with
  | zero =>
    intro i q v hi hq
    obtain ⟨q, rfl, -⟩ := suc_of hq
    refine ⟨v, ?_, fun _ _ => rfl, fun _ _ => rfl, fun p h1 h2 => by omega⟩
    rw [f_J_fill_5, gd_t (by decide), iI_le (by omega) (by omega), if_pos (by omega)]
  | succ m ih =>
    intro i q v hi hq
    obtain ⟨q, rfl, hq⟩ := suc_of hq
    have hq := Nat.lt_of_succ_lt_succ hq
    obtain ⟨v', a1, a2, a3, a4⟩ := ih (i + 1) q (sU v 26 i 0) (by omega) hq
    refine ⟨v', ?_, fun j hj => (a2 j hj).trans (sU_j hj), fun p hp => (a3 p (by omega)).trans (sU_k (by omega)), fun p h1 h2 => ?_⟩
    · have e1 : zI i + 1 = zI (i + 1) := by rw [zl_1, zI_add]
      have eb : bn_len (q0 g v) 26 = 4 := rfl
      rw [f_J_fill_5, gd_t (by decide), iI_le (by omega) (by omega), if_neg (by omega), eb, gd_I (by omega) (by omega), zI_toNat (by omega), nm_s, e1, nm_s, a1]
    · by_cases cp : p = i
      · subst cp; rw [a3 p (by omega), sU_hit]
      · exact a4 p (by omega) h2
theorem c_start {k : Nat} (hk : k < 4) : ∃ v', f_N_start g v (9 + 4 * k) = some (.inl (), va_up g 25 k, v') ∧ (∀ j, j ≠ 25 → j ≠ 26 → v' j = v j) ∧ v' 25 5 = 0 ∧ ∀ p, p < 4 → v' 26 p = 0 := by
  obtain ⟨v', a1, a2, a3, a4⟩ := c_fill (g := va_up g 25 k) 4 0 fu (sU v 25 5 0) (by omega) (fu_lt (by omega))
  refine ⟨v', ?_, fun j h1 h2 => (a2 j h2).trans (sU_j h1), by rw [a2 25 (by decide)]; exact sU_hit, fun p hp => a4 p (by omega) hp⟩
  have e1 : (9 + 4 * k - 9) / 4 = k := by omega
  have e2 : gL (va_up g 25 k) = gL g := by
    unfold gL va_up
    simp
  have e3 : f_J_fill (va_up g 25 k) (sU v 25 5 0) 26 0 = some v' := by
    rw [f_J_fill, gd_t (by decide), nm_s]
    exact a1
  rw [f_N_start, e1, e3, bv_s, gd_t (filB_z hk)]
  exact mg_s rfl (Nat.le_of_eq e2.symm)
def zSp (op : Nat → Nat → Nat) (ar : Nat → Nat → Int32) (N : Nat → Nat) (X : Nat → zN) (S : Nat → zT) (k l : Nat) : zEv := zev (op k) (ar k) X (zp2 (op k) (N k)) (zp3 (op k) (N k)) 8 0 (S l) (fun _ => zW 0) 0
theorem I_add_sub (x : Int32) : x + 1 - 1 = x := by
  rw [← Int32.toBitVec_inj]
  simp
/-- a run of a right filter -/
theorem c_run_ok {k l : Nat} (hk : k < 4) (hl : l < 8) (hA : zAb N op ar O) (hC : cR c g v S X N op ar O E st er rm) (hr : zen8 (op k) (N k) 8 0 = N k) : match zSp op ar N X S k l with
    | none => ∃ g' v', f_B_run_25 (zI k) (zI l) g v = some (.inr 3, g', v') ∧ gL g ≤ gL g' ∧ cR (c + 1) g' v' S X N op ar [] (zW 0) 0 er (rm + 1)
    | some (r, none, s1) => ∃ g' v', f_B_run_25 (zI k) (zI l) g v = some (.inl (zI r.length), g', v') ∧ gL g ≤ gL g' ∧ cR (c + 1) g' v' S X N op ar r (zW 0) (zI s1) er rm
    | some (r, some t, s1) => ∃ g' v', f_B_run_25 (zI k) (zI l) g v = some (.inr 2, g', v') ∧ gL g ≤ gL g' ∧ cR (c + 1) g' v' S X N op ar r t (zI s1) (er + 1) rm := by
  obtain ⟨T, c1, c2, c3, c4, c5, c6, c7, c8, c9, c10, c11, c12⟩ := hC
  obtain ⟨hN, hop⟩ := hA.1 k hk
  obtain ⟨f1, f2⟩ := c7 k hk
  have n1 : ¬ (1 : Int32) = 0 := by decide
  obtain ⟨v3, p1, p2, p3⟩ := c_isRight (g := g) (v := v) (j := 9 + 4 * k) hN (filB_z hk) (fun i hi => (hop i hi).1) f1 (fun i hi => by
    rw [show 9 + 4 * k + 1 = 10 + 4 * k by omega]; exact (f2 i (by omega)).1)
  rw [hr] at p1 p3
  obtain ⟨p3, -⟩ := p3 (by omega)
  rw [if_pos rfl] at p1
  have q4 : v3 4 = v 4 := p2 4 (by omega)
  obtain ⟨g1, v1, T1, a1, a2, a3, a4, a5, a6⟩ := c_forget (S := S) (X := X) (g := g) (v := v3) (T := T) (zM_w c1 (p2 1 (by omega)) (fun i _ => by rw [q4])) c3.1 c3.2 (fun i hi => by rw [q4, p2 5 (by omega)]; exact c4 i hi) (cSl_up c5 (fun i _ => by rw [q4]) (Nat.le_refl _) (p2 6 (by omega))) (cSt_up c6 (fun i _ => by rw [q4]) (Nat.le_refl _) (p2 7 (by omega)))
  obtain ⟨b1, b2, b3, b4, b5, b6, b7, b8, b9, b10, b11, b12⟩ := a4
  obtain ⟨v4, s1, s2, s3, s4⟩ := c_start (g := g1) (v := sU v1 0 10 (v1 0 10 + 1)) hk
  have r10 : v1 0 10 = rm := by rw [b7 10 (by decide) (by decide) (by decide), p2 0 (by omega)]; exact c12
  -- the state in which the work begins
  have hj : ∀ j, j ≠ 0 → j ≠ 25 → j ≠ 26 → v4 j = v1 j := fun j h0 h25 h26 => by rw [s2 j h25 h26, sU_j h0]
  have h0k : ∀ i, i ≠ 10 → v4 0 i = v1 0 i := fun i hi => by rw [s2 0 (by decide) (by decide), sU_k hi]
  have h010 : v4 0 10 = rm + 1 := by rw [s2 0 (by decide) (by decide), sU_hit, r10]
  have k4 : v4 4 = v1 4 := hj 4 (by decide) (by decide) (by decide)
  have g24 : va_up g1 25 k 4 = g1 4 := rfl
  have g25 : va_up g1 25 k 5 = g1 5 := rfl
  have g225 : va_up g1 25 k 25 = k := by unfold va_up; rw [if_pos rfl]
  have hM : zM (va_up g1 25 k) v4 T1 := by
    have := zM_w a2 (hj 1 (by decide) (by decide) (by decide)) (fun i _ => by rw [k4])
    exact ⟨this.1, this.2.1, this.2.2.1, this.2.2.2.1, this.2.2.2.2.1, this.2.2.2.2.2⟩
  have fj : ∀ j, 9 ≤ j → j < 25 → j ≠ 12 + 4 * k → v4 j = v j := fun j h1 h2 h3 => by
    rw [hj j (by omega) (by omega) (by omega), b6 j (by omega) (by omega) (by omega) (by omega) (by omega) (by omega) (by omega) (by omega) (by omega), p2 j (by omega)]
  have fe : v4 (12 + 4 * k) = v3 (12 + 4 * k) := by
    rw [hj _ (by omega) (by omega) (by omega), b6 _ (by omega) (by omega) (by omega) (by omega) (by omega) (by omega) (by omega) (by omega) (by omega)]
  have hok : zok (op k) (ar k) (zp2 (op k) (N k)) (zp3 (op k) (N k)) 8 0 := zen_ok hN hop 8 0 (by omega) (by omega)
  have hEn : zEn (op k) (ar k) X (zp2 (op k) (N k)) (zp3 (op k) (N k)) (va_up g1 25 k) v4 T1 := by
    refine ⟨by rw [g225]; exact hk, fun i hi => ?_, fun d i hz => ?_, fun i hi => ?_⟩
    · rw [g225, fj _ (by omega) (by omega) (by omega), fj _ (by omega) (by omega) (by omega)]
      exact f2 i hi
    · rw [g225, fe]
      refine ⟨fun h2 => ?_, fun h3 => ?_⟩
      · obtain ⟨z1, z2, z3⟩ := zok_n hN hz h2
        have := p3 (i + 1) (by omega) z1
        rw [show 9 + 4 * k + 3 = 12 + 4 * k by omega] at this
        exact this
      · obtain ⟨z1, z2, z3⟩ := zok_n hN hz (by omega)
        have := p3 (zp2 (op k) (N k) i) (by omega) (z3 h3).1
        rw [show 9 + 4 * k + 3 = 12 + 4 * k by omega] at this
        exact this
    · rw [hj 7 (by decide) (by decide) (by decide), k4]; exact a6 i hi
  obtain ⟨a, ea, ha⟩ := a5 l hl
  have ha4 : zV (v4 4) T1 a (S l) := by rw [k4]; exact ha
  have hRw : zRw v4 T1 60 [] none := by
    refine ⟨?_, by simp, fun i hi => absurd hi (Nat.not_lt_zero i), ?_⟩
    · rw [hj 60 (by decide) (by decide) (by decide), b11]; rfl
    · show v4 60 2 = -1
      rw [hj 60 (by decide) (by decide) (by decide), b12]
  have hVr : zVr v4 T1 (fun _ => zW 0) := fun i hi => ⟨0, s4 i hi, zM_W hM (k := 0) (by omega)⟩
  obtain ⟨g', v', T', s', w1, w2, w3, w4, w5, w6, w7⟩ := w_work 8 dK 0 (by decide) (by omega) (op := op k) (ar := ar k) (sx := X) (p2 := zp2 (op k) (N k)) (p3 := zp3 (op k) (N k)) (va_up g1 25 k) v4 T1 0 a 60 0 (S l) [] (fun _ => zW 0) hM hEn hok ha4 ⟨by decide, Or.inl rfl⟩ hRw hVr s3 (by omega) (by omega)
  have hgL : gL g ≤ gL g' := by
    have h1 := w2.L
    have h2 : gL (va_up g1 25 k) = gL g1 := by unfold gL va_up; simp
    omega
  have hgL1 : gL g1 ≤ gL g' := by
    have h1 := w2.L
    have h2 : gL (va_up g1 25 k) = gL g1 := by unfold gL va_up; simp
    omega
  -- the run's road to the work
  have road : ∀ o, bo (f_N_work dK (va_up g1 25 k) v4 0 (zI a) 0 60) (fun r9 g9 v9 => f_B_run_93 g9 v9) = some o → gL g' ≤ gL o.2.1 → f_B_run_25 (zI k) (zI l) g v = some o := by
    intro o ho hg
    have h2 : gL (va_up g1 25 k) = gL g1 := by unfold gL va_up; simp
    rw [f_B_run_25, gd_I hk (by omega), zI_toNat (by omega), nm_s, p1, bi_s, if_neg n1, a1]
    refine bo_l ?_ (by omega)
    rw [f_B_run_51, nm_s, gd_I hk (by omega), zI_toNat (by omega), nm_s, s1]
    refine bo_l ?_ (by omega)
    rw [f_B_run_74, gd_I hl (by omega), zI_toNat (by omega), hj 6 (by decide) (by decide) (by decide), ea]
    exact ho
  -- what is left of the state
  have hz : ∀ j, j ≠ 1 → j ≠ 2 → j ≠ 3 → j ≠ 4 → (j < 25 ∨ 62 ≤ j) → v' j = v4 j := fun j e1 e2 e3 e4 e5 => w2.2.2.2.2.2 j e1 e2 e3 e4 (by unfold zS; omega)
  have hS' : cSl v' T' S := by
    refine cSl_up (v := v4) (T := T1) (fun i hi => ?_) w2.2.2.2.2.1 w2.1 (hz 6 (by decide) (by decide) (by decide) (by decide) (by omega))
    rw [hj 6 (by decide) (by decide) (by decide), k4]; exact a5 i hi
  have hX' : cSt v' T' X := by
    refine cSt_up (v := v4) (T := T1) (fun i hi => ?_) w2.2.2.2.2.1 w2.1 (hz 7 (by decide) (by decide) (by decide) (by decide) (by omega))
    rw [hj 7 (by decide) (by decide) (by decide), k4]; exact a6 i hi
  have hF' : cFl v' N op ar := by
    have hv3 : cFl v3 N op ar := fun f hf => by
      rw [p2 _ (by omega), p2 _ (by omega), p2 _ (by omega)]; exact c7 f hf
    refine cFl_up hv3 (fun j h1 h2 => ?_)
    rw [hz j (by omega) (by omega) (by omega) (by omega) (by omega), hj j (by omega) (by omega) (by omega), b6 j (by omega) (by omega) (by omega) (by omega) (by omega) (by omega) (by omega) (by omega) (by omega)]
  have e0 : v' 0 = v4 0 := hz 0 (by decide) (by decide) (by decide) (by decide) (by omega)
  have hT1 := hM.2.1
  have h5' : ∀ i, i < 118 → v' 5 i = v' 4 i := fun i hi => by
    rw [hz 5 (by decide) (by decide) (by decide) (by decide) (by omega), hj 5 (by decide) (by decide) (by decide), b5, w2.2.2.2.2.1 i (by omega), k4, b4 i hi]
  have hg5 : 118 ≤ g' 5 ∧ g' 5 ≤ 130000 := by
    have e1 := w2.2.1
    have e2 := c1.2.2.1
    have e3 := c1.2.2.2.2.1
    have e4 := c1.2.1
    omega
  have h9' : v' 0 9 = er := by rw [e0, h0k 9 (by decide), b7 9 (by decide) (by decide) (by decide), p2 0 (by omega)]; exact c11
  have h0' : v' 0 10 = rm + 1 := by rw [e0]; exact h010
  have hnull : zV (v' 4) T' 0 (zW 0) := zM_W w1 (k := 0) (by omega)
  have hT' : T' ≤ 48800 + 17 * (c + 1) := by omega
  unfold zSp
  cases hsp : zev (op k) (ar k) X (zp2 (op k) (N k)) (zp3 (op k) (N k)) 8 0 (S l) (fun _ => zW 0) 0 with
  | none =>
    rw [hsp] at w7
    dsimp only at w7
    refine ⟨g', v', road _ ?_ (Nat.le_refl _), hgL, T', w1, hT', hg5, h5', hS', hX', hF', ⟨?_, fun i hi => absurd hi (Nat.not_lt_zero i)⟩, ⟨0, ?_, hnull⟩, ?_, h9', h0'⟩
    · show bo (f_N_work dK (va_up g1 25 k) v4 (zI 0) (zI a) (zI 0) 60) _ = _
      rw [w7, bo_r]
    · rw [e0, h0k 6 (by decide), b8]; rfl
    · rw [e0, h0k 7 (by decide), b9]; rfl
    · rw [e0, h0k 8 (by decide), b10]
  | some z =>
    obtain ⟨r, e, sf⟩ := z
    rw [hsp] at w7
    dsimp only at w7
    have h16 := zev_16 hsp
    rw [if_pos (by simpa using h16)] at w7
    obtain ⟨y1, y2, y3, y4⟩ := w7
    rw [List.nil_append] at y2
    obtain ⟨u1, u2, u3, u4⟩ := y2
    subst y3
    -- the last steps
    have hlast : f_B_run_93 g' v' = (if (sU (sU (sU v' 0 10 rm) 0 6 (zI r.length)) 0 8 (zI s') 60 2) = -1 then some (.inl (zI r.length), g', sU (sU (sU v' 0 10 rm) 0 6 (zI r.length)) 0 8 (zI s')) else some (.inr 2, g', sU (sU (sU (sU (sU v' 0 10 rm) 0 6 (zI r.length)) 0 8 (zI s')) 0 7 (v' 60 2)) 0 9 (er + 1))) := by
      have z60 : sU v' 0 10 rm 60 1 = zI r.length := by rw [sU_j (by decide)]; exact u1
      have z25 : sU (sU v' 0 10 rm) 0 6 (zI r.length) 25 5 = zI s' := by rw [sU_j (by decide), sU_j (by decide)]; exact w3
      have z6 : sU (sU (sU v' 0 10 rm) 0 6 (zI r.length)) 0 8 (zI s') 0 6 = zI r.length := by rw [sU_k (by decide), sU_hit]
      have z602 : sU (sU (sU v' 0 10 rm) 0 6 (zI r.length)) 0 8 (zI s') 60 2 = v' 60 2 := by rw [sU_j (by decide), sU_j (by decide), sU_j (by decide)]
      have z9 : sU (sU (sU (sU v' 0 10 rm) 0 6 (zI r.length)) 0 8 (zI s')) 0 7 (v' 60 2) 0 9 = er := by rw [sU_k (by decide), sU_k (by decide), sU_k (by decide), sU_k (by decide)]; exact h9'
      rw [f_B_run_93, h0', I_add_sub, nm_s, f_R_size, gd_t (by decide), z60, bi_s, nm_s, f_N_steps, z25, bi_s, nm_s, f_R_isEnded, gd_t (by decide)]
      by_cases ce : sU (sU (sU v' 0 10 rm) 0 6 (zI r.length)) 0 8 (zI s') 60 2 = -1
      · rw [if_pos ce, if_pos ce, f_R_isEnded_13, gd_t (by decide), bi_s, if_pos rfl, z6]
      · rw [if_neg ce, if_neg ce, f_R_isEnded_13, gd_t (by decide), bi_s, if_neg n1, f_R_error, gd_t (by decide), bi_s, z602, nm_s, z9, nm_s]
    have z602 : sU (sU (sU v' 0 10 rm) 0 6 (zI r.length)) 0 8 (zI s') 60 2 = v' 60 2 := by rw [sU_j (by decide), sU_j (by decide), sU_j (by decide)]
    rw [z602] at hlast
    cases e with
    | none =>
      have u4 : v' 60 2 = -1 := u4
      rw [if_pos u4] at hlast
      have hj' : ∀ j, j ≠ 0 → sU (sU (sU v' 0 10 rm) 0 6 (zI r.length)) 0 8 (zI s') j = v' j := fun j h => by rw [sU_j h, sU_j h, sU_j h]
      have j4 := hj' 4 (by decide)
      refine ⟨g', sU (sU (sU v' 0 10 rm) 0 6 (zI r.length)) 0 8 (zI s'), road _ ?_ (Nat.le_refl _), hgL, T', zM_w w1 (hj' 1 (by decide)) (fun i _ => by rw [j4]), hT', hg5, fun i hi => by rw [j4, hj' 5 (by decide)]; exact h5' i hi, cSl_up hS' (fun i _ => by rw [j4]) (Nat.le_refl _) (hj' 6 (by decide)), cSt_up hX' (fun i _ => by rw [j4]) (Nat.le_refl _) (hj' 7 (by decide)), cFl_up hF' (fun j _ _ => hj' j (by omega)), ⟨?_, fun i hi => ?_⟩, ⟨0, ?_, by rw [j4]; exact hnull⟩, sU_hit, ?_, ?_⟩
      · show bo (f_N_work dK (va_up g1 25 k) v4 (zI 0) (zI a) (zI 0) 60) _ = _
        rw [y1]
        exact bo_l hlast (Nat.le_refl _)
      · rw [sU_k (by decide), sU_hit]
      · rw [hj' 61 (by decide), j4]; exact u3 i hi
      · rw [sU_k (by decide), sU_k (by decide), sU_k (by decide), e0, h0k 7 (by decide), b9]; rfl
      · rw [sU_k (by decide), sU_k (by decide), sU_k (by decide)]; exact h9'
      · rw [sU_k (by decide), sU_k (by decide), sU_hit]
    | some t =>
      obtain ⟨b, ub, ut⟩ := u4
      have hb := (zV_head ut).1
      have hT5 := w1.2.2.2.1
      have une : ¬ v' 60 2 = -1 := by
        rw [ub]
        intro q
        have := congrArg Int32.toInt q
        rw [zI_toInt (by omega), show (-1 : Int32).toInt = -1 from rfl] at this
        omega
      rw [if_neg une] at hlast
      have hj' : ∀ j, j ≠ 0 → sU (sU (sU (sU (sU v' 0 10 rm) 0 6 (zI r.length)) 0 8 (zI s')) 0 7 (v' 60 2)) 0 9 (er + 1) j = v' j := fun j h => by rw [sU_j h, sU_j h, sU_j h, sU_j h, sU_j h]
      have j4 := hj' 4 (by decide)
      refine ⟨g', sU (sU (sU (sU (sU v' 0 10 rm) 0 6 (zI r.length)) 0 8 (zI s')) 0 7 (v' 60 2)) 0 9 (er + 1), road _ ?_ (Nat.le_refl _), hgL, T', zM_w w1 (hj' 1 (by decide)) (fun i _ => by rw [j4]), hT', hg5, fun i hi => by rw [j4, hj' 5 (by decide)]; exact h5' i hi, cSl_up hS' (fun i _ => by rw [j4]) (Nat.le_refl _) (hj' 6 (by decide)), cSt_up hX' (fun i _ => by rw [j4]) (Nat.le_refl _) (hj' 7 (by decide)), cFl_up hF' (fun j _ _ => hj' j (by omega)), ⟨?_, fun i hi => ?_⟩, ⟨b, ?_, by rw [j4]; exact ut⟩, ?_, sU_hit, ?_⟩
      · show bo (f_N_work dK (va_up g1 25 k) v4 (zI 0) (zI a) (zI 0) 60) _ = _
        rw [y1]
        exact bo_l hlast (Nat.le_refl _)
      · rw [sU_k (by decide), sU_k (by decide), sU_k (by decide), sU_hit]
      · rw [hj' 61 (by decide), j4]; exact u3 i hi
      · rw [sU_k (by decide), sU_hit]; exact ub
      · rw [sU_k (by decide), sU_k (by decide), sU_hit]
      · rw [sU_k (by decide), sU_k (by decide), sU_k (by decide), sU_k (by decide), sU_hit]
end TA
