/-! where an expression ends: a row of tokens read as one expression -/
def zit (E : Nat → Nat) : Nat → Nat → Nat
  | 0, a => a
  | m + 1, a => zit E m (E a)
def zen8 (op : Nat → Nat) (n : Nat) : Nat → Nat → Nat
  | 0, _ => 33
  | d + 1, a => if n ≤ a then 33 else zit (zen8 op n d) (zpt (op a)) (a + 1)
section PA
variable {op : Nat → Nat} {ar : Nat → Int32} {n : Nat}
theorem zpt_3 (o : Nat) : zpt o ≤ 3 := by unfold zpt; split <;> (try split) <;> (try split) <;> omega
theorem zen_33 (hn : n ≤ 32) (d : Nat) : zen8 op n d 33 = 33 := by
  cases d with
  | zero => rfl
  | succ d => simp only [zen8]; rw [if_pos (by omega)]
theorem zit_33 {E : Nat → Nat} (h : E 33 = 33) : ∀ m, zit E m 33 = 33 := by
  intro m
  induction m with
  | zero => rfl
  | succ m ih => simp only [zit]; rw [h]; exact ih
theorem zit_s {E : Nat → Nat} : ∀ m a, zit E (m + 1) a = E (zit E m a) := by
  intro m
  induction m with
  | zero => intro a; rfl
  | succ m ih => intro a; exact ih (E a)
/-- an end is nowhere, or behind the beginning and no later than the row's end -/
theorem zen_r (hn : n ≤ 32) : ∀ d a, zen8 op n d a = 33 ∨ (a < zen8 op n d a ∧ zen8 op n d a ≤ n) := by
  intro d
  induction d with
  | zero => intro a; exact Or.inl rfl
  | succ d ih =>
    intro a
    simp only [zen8]
    by_cases c : n ≤ a
    · rw [if_pos c]; exact Or.inl rfl
    · rw [if_neg c]
      have key : ∀ m b, b ≤ n → zit (zen8 op n d) m b = 33 ∨ (b ≤ zit (zen8 op n d) m b ∧ zit (zen8 op n d) m b ≤ n) := by
        intro m
        induction m with
        | zero => intro b hb; exact Or.inr ⟨Nat.le_refl _, hb⟩
        | succ m ihm =>
          intro b hb
          simp only [zit]
          rcases ih b with h | h
          · rw [h]; exact Or.inl (zit_33 (zen_33 hn d) m)
          · rcases ihm (zen8 op n d b) h.2 with h2 | h2
            · exact Or.inl h2
            · exact Or.inr ⟨by omega, h2.2⟩
      rcases key (zpt (op a)) (a + 1) (by omega) with h | h
      · exact Or.inl h
      · exact Or.inr ⟨by omega, h.2⟩
theorem zit_r (hn : n ≤ 32) (d : Nat) : ∀ m b, b ≤ n → zit (zen8 op n d) m b = 33 ∨ (b ≤ zit (zen8 op n d) m b ∧ zit (zen8 op n d) m b ≤ n) := by
  intro m
  induction m with
  | zero => intro b hb; exact Or.inr ⟨Nat.le_refl _, hb⟩
  | succ m ihm =>
    intro b hb
    simp only [zit]
    rcases zen_r hn d b with h | h
    · rw [h]; exact Or.inl (zit_33 (zen_33 hn d) m)
    · rcases ihm (zen8 op n d b) h.2 with h2 | h2
      · exact Or.inl h2
      · exact Or.inr ⟨by omega, h2.2⟩
/-- more levels change nothing -/
theorem zen_lv (hn : n ≤ 32) : ∀ d d' a, d ≤ d' → zen8 op n d a ≠ 33 → zen8 op n d' a = zen8 op n d a := by
  intro d
  induction d with
  | zero => intro d' a _ h; exact absurd rfl h
  | succ d ih =>
    intro d' a hd h
    obtain ⟨d', rfl, hd'⟩ := suc_of (show d < d' by omega)
    simp only [zen8] at h ⊢
    by_cases c : n ≤ a
    · rw [if_pos c] at h; exact absurd rfl h
    · rw [if_neg c] at h ⊢
      rw [if_neg c]
      have key : ∀ m b, zit (zen8 op n d) m b ≠ 33 → zit (zen8 op n d') m b = zit (zen8 op n d) m b := by
        intro m
        induction m with
        | zero => intro b _; rfl
        | succ m ihm =>
          intro b hb
          simp only [zit] at hb ⊢
          have h1 : zen8 op n d b ≠ 33 := by
            intro e
            rw [e] at hb
            exact hb (zit_33 (zen_33 hn d) m)
          rw [ih d' b (by omega) h1]
          exact ihm _ hb
      exact key _ _ h
def zp2 (op : Nat → Nat) (n k : Nat) : Nat := zen8 op n 8 (k + 1)
def zp3 (op : Nat → Nat) (n k : Nat) : Nat := zen8 op n 8 (zp2 op n k)
/-- what ends is an expression -/
theorem zen_ok (hn : n ≤ 32) (hop : ∀ k, k < n → op k ≤ 34 ∧ zag (op k) (ar k)) : ∀ d a, d ≤ 8 → zen8 op n d a ≠ 33 → zok op ar (zp2 op n) (zp3 op n) d a := by
  intro d
  induction d with
  | zero => intro a _ h; exact absurd rfl h
  | succ d ih =>
    intro a hd h
    have h9 := h
    simp only [zen8] at h
    by_cases c : n ≤ a
    · rw [if_pos c] at h; exact absurd rfl h
    · rw [if_neg c] at h
      obtain ⟨o1, o2⟩ := hop a (by omega)
      have h33 : ∀ m, zit (zen8 op n d) m 33 = 33 := zit_33 (zen_33 hn d)
      have e1 : 1 ≤ zpt (op a) → zen8 op n d (a + 1) ≠ 33 := by
        intro hp e
        obtain ⟨m, em, -⟩ := suc_of hp
        rw [em] at h
        simp only [zit] at h
        rw [e, h33] at h
        exact h rfl
      have e2 : 2 ≤ zpt (op a) → zen8 op n d (zen8 op n d (a + 1)) ≠ 33 := by
        intro hp e
        obtain ⟨m, em, -⟩ := suc_of (show 1 < zpt (op a) by omega)
        obtain ⟨m', em', -⟩ := suc_of (show 0 < m by omega)
        rw [em, em'] at h
        simp only [zit] at h
        rw [e, h33] at h
        exact h rfl
      have e3 : 3 ≤ zpt (op a) → zen8 op n d (zen8 op n d (zen8 op n d (a + 1))) ≠ 33 := by
        intro hp e
        have h3 := zpt_3 (op a)
        rw [show zpt (op a) = 3 by omega] at h
        simp only [zit] at h
        exact h e
      refine ⟨by omega, o1, o2, fun hp => ih _ (by omega) (e1 hp), fun hp => ?_, fun hp => ?_⟩
      · have := e2 hp
        have q1 := zen_lv hn d 8 (a + 1) (by omega) (e1 (by omega))
        unfold zp2
        rw [q1]
        exact ih _ (by omega) this
      · have := e3 hp
        have q1 := zen_lv hn d 8 (a + 1) (by omega) (e1 (by omega))
        unfold zp3 zp2
        rw [q1, zen_lv hn d 8 _ (by omega) (e2 (by omega))]
        exact ih _ (by omega) this
/-- an expression is inside the row -/
theorem zok_n (hn : n ≤ 32) {d k : Nat} (h : zok op ar (zp2 op n) (zp3 op n) d k) (h2 : 2 ≤ zpt (op k)) : k + 1 < n ∧ zp2 op n k ≠ 33 ∧ (3 ≤ zpt (op k) → zp2 op n k < n ∧ zp3 op n k ≠ 33) := by
  cases d with
  | zero => exact h.elim
  | succ d =>
    have q2 := zok_32 (h.2.2.2.2.1 h2)
    have r2 : zp2 op n k ≠ 33 := by omega
    have in1 : ∀ a, zen8 op n 8 a ≠ 33 → a < n := by
      intro a ha
      rcases Nat.lt_or_ge a n with c | c
      · exact c
      · exact absurd (by simp only [zen8]; rw [if_pos c]) ha
    refine ⟨in1 _ r2, r2, fun h3 => ?_⟩
    have q3 := zok_32 (h.2.2.2.2.2 h3)
    have r3 : zp3 op n k ≠ 33 := by omega
    exact ⟨in1 _ r3, r3⟩
end PA
/-! the class: endOf -/
section PB
variable {op : Nat → Nat} {n : Nat} {g : Nat → Nat} {v : mS} {j : Nat}
theorem c_parts' {o : Nat} (ho : o ≤ 34) : f_O_partsOf g v (zI o) = some (zI (zpt o), v) := by
  have : ∀ o, o ≤ 34 → ∀ v : mS, f_O_partsOf g v (zI o) = some (zI (zpt o), v) := by
    intro o ho v
    match o, ho with
    | 0, _ | 1, _ | 2, _ | 3, _ | 4, _ | 5, _ | 6, _ | 7, _ | 8, _ | 9, _ | 10, _ | 11, _ | 12, _ | 13, _ | 14, _ | 15, _ | 16, _ | 17, _ | 18, _ | 19, _ | 20, _ | 21, _ | 22, _ | 23, _ | 24, _ | 25, _ | 26, _ | 27, _ | 28, _ | 29, _ | 30, _ | 31, _ | 32, _ | 33, _ | 34, _ => rfl
    | n + 35, h => omega
  exact this o ho v
/-- what endOf leaves behind -/
def zEd (op : Nat → Nat) (n j : Nat) (v v' : mS) (a e : Nat) : Prop := (∀ i, i ≠ j + 3 → v' i = v i) ∧ (e ≠ 33 → (∀ b, a ≤ b → b < e → v' (j + 3) b = zI (zen8 op n 8 b)) ∧ ∀ b, b < a ∨ e ≤ b → v' (j + 3) b = v (j + 3) b)
theorem c_endOf (hn : n ≤ 32) (hj : filB j = true) (hop : ∀ k, k < n → op k ≤ 34) : ∀ (d m : Nat) (v : mS) (a : Nat), d ≤ 8 → d < m → a ≤ 33 → v j 3 = zI n → (∀ k, k < n → v (j + 1) k = zI (op k)) → ∃ v', f_F_endOf m g v j (zI a) (zI (8 - d)) = some (zI (zen8 op n d a), v') ∧ zEd op n j v v' a (zen8 op n d a) := by
  intro d
  induction d with
  | zero =>
    intro m v a hd hm ha hv ho
    obtain ⟨m, rfl, -⟩ := suc_of hm
    refine ⟨v, ?_, fun _ _ => rfl, fun h => absurd rfl h⟩
    have e8 : (7 : Int32) = zI 7 := rfl
    rw [f_F_endOf, f_F_endOfb, gd_t hj, hv, iI_le (by omega) (by omega), e8, iI_le (by omega) (by omega), if_neg (show ¬ 8 - 0 ≤ 7 by omega)]
    split <;> rfl
  | succ d ih =>
    intro m v a hd hm ha hv ho
    obtain ⟨m, rfl, hm⟩ := suc_of hm
    have hm := Nat.lt_of_succ_lt_succ hm
    have e7 : (7 : Int32) = zI 7 := rfl
    have e33 : (33 : Int32) = zI 33 := rfl
    rw [f_F_endOf, f_F_endOfb, gd_t hj, hv, iI_le (by omega) (by omega), e7, iI_le (by omega) (by omega), if_pos (show 8 - (d + 1) ≤ 7 by omega)]
    by_cases c : n ≤ a
    · rw [if_pos c]
      refine ⟨v, ?_, fun _ _ => rfl, fun h => absurd ?_ h⟩
      · simp only [zen8]; rw [if_pos c]; rfl
      · simp only [zen8]; rw [if_pos c]
    · rw [if_neg c, nm_s, zl_1, zI_add]
      have hz : zen8 op n (d + 1) a = zit (zen8 op n d) (zpt (op a)) (a + 1) := by simp only [zen8]; rw [if_neg c]
      have h3 := zpt_3 (op a)
      have hoa := hop a (by omega)
      /- the loop over the parts -/
      have loop : ∀ (r q i : Nat) (w : mS) (b : Nat), i + r = zpt (op a) → r < q → b ≤ 33 → w j 3 = zI n → (∀ k, k < n → w (j + 1) k = zI (op k)) → (b ≠ 33 → a + 1 ≤ b ∧ b ≤ n) → ∃ w', f_F_endOf_24 (f_F_endOf m) g q j (zI a) (zI (8 - (d + 1))) (zI b) (zI i) w = some (zI (zit (zen8 op n d) r b), sU w' (j + 3) a (zI (zit (zen8 op n d) r b))) ∧ (∀ i, i ≠ j + 3 → w' i = w i) ∧ (zit (zen8 op n d) r b ≠ 33 → (∀ x, b ≤ x → x < zit (zen8 op n d) r b → w' (j + 3) x = zI (zen8 op n 8 x)) ∧ ∀ x, x < b ∨ zit (zen8 op n d) r b ≤ x → w' (j + 3) x = w (j + 3) x) := by
        intro r
        induction r with
        | zero =>
          intro q i w b hi hq hb hw hwo hbn
          obtain ⟨q, rfl, -⟩ := suc_of hq
          refine ⟨w, ?_, fun _ _ => rfl, fun _ => ⟨fun x x1 x2 => absurd x1 (by simp only [zit] at x2; omega), fun _ _ => rfl⟩⟩
          rw [f_F_endOf_24, gd_t hj, gd_I (by omega) (by omega), zI_toNat (by omega), hwo a (by omega), c_parts' hoa, bi_s, iI_le (by omega) (by omega), if_pos (by omega), gd_I (by omega) (by omega), nm_s]
          rfl
        | succ r ihr =>
          intro q i w b hi hq hb hw hwo hbn
          obtain ⟨q, rfl, hq⟩ := suc_of hq
          have hq := Nat.lt_of_succ_lt_succ hq
          obtain ⟨w1, c1, c2, c3⟩ := ih m w b (by omega) hm hb hw hwo
          have hr := zen_r (op := op) hn d b
          have hb1 : zen8 op n d b ≤ 33 := by omega
          obtain ⟨w2, d1, d2, d3⟩ := ihr q (i + 1) w1 (zen8 op n d b) (by omega) hq hb1 (by rw [c2 j (by omega)]; exact hw) (by rw [c2 (j + 1) (by omega)]; exact hwo) (fun h9 => by
            have hb9 : b ≠ 33 := by
              intro e
              rw [e, zen_33 hn d] at h9
              exact h9 rfl
            have := hbn hb9
            omega)
          refine ⟨w2, ?_, fun i hi => (d2 i hi).trans (c2 i hi), fun h9 => ?_⟩
          · rw [f_F_endOf_24, gd_t hj, gd_I (by omega) (by omega), zI_toNat (by omega), hwo a (by omega), c_parts' hoa, bi_s, iI_le (by omega) (by omega), if_neg (by omega), zl_1, zI_add, show 8 - (d + 1) + 1 = 8 - d by omega, c1, bi_s, nm_s, zI_add]
            exact d1
          · simp only [zit] at h9
            have h33 : zen8 op n d b ≠ 33 := by
              intro e
              rw [e] at h9
              exact h9 (zit_33 (zen_33 hn d) r)
            obtain ⟨c4, c5⟩ := c3 h33
            obtain ⟨d4, d5⟩ := d3 h9
            have hr2 := zit_r (op := op) hn d r (zen8 op n d b) (by omega)
            simp only [zit]
            refine ⟨fun x x1 x2 => ?_, fun x x1 => ?_⟩
            · by_cases cx : x < zen8 op n d b
              · rw [d5 x (Or.inl cx)]; exact c4 x x1 cx
              · exact d4 x (by omega) x2
            · rw [d5 x (by omega), c5 x (by omega)]
      obtain ⟨w', l1, l2, l3⟩ := loop (zpt (op a)) fu 0 v (a + 1) (by omega) (fu_lt (by omega)) (by omega) hv ho (fun _ => by omega)
      rw [← hz] at l1 l3
      refine ⟨sU w' (j + 3) a (zI (zen8 op n (d + 1) a)), l1, fun i hi => by rw [sU_j hi]; exact l2 i hi, fun h9 => ?_⟩
      obtain ⟨l4, l5⟩ := l3 h9
      have hr := zen_r (op := op) hn (d + 1) a
      refine ⟨fun b b1 b2 => ?_, fun b b1 => ?_⟩
      · by_cases cb : b = a
        · subst cb; rw [sU_hit, zen_lv hn (d + 1) 8 b (by omega) h9]
        · rw [sU_k cb]; exact l4 b (by omega) b2
      · rw [sU_k (by omega)]; exact l5 b (by omega)
theorem c_isRight (hn : n ≤ 32) (hj : filB j = true) (hop : ∀ k, k < n → op k ≤ 34) (hv : v j 3 = zI n) (ho : ∀ k, k < n → v (j + 1) k = zI (op k)) : ∃ v', f_F_isRight g v j = some (if zen8 op n 8 0 = n then 1 else 0, v') ∧ zEd op n j v v' 0 (zen8 op n 8 0) := by
  obtain ⟨v', a1, a2⟩ := c_endOf (g := g) hn hj hop 8 dK v 0 (by omega) (by decide) (by omega) hv ho
  have hr := zen_r (op := op) hn 8 0
  refine ⟨v', ?_, a2⟩
  have e0 : (0 : Int32) = zI 0 := rfl
  have hv' : v' j 3 = zI n := by rw [a2.1 j (by omega)]; exact hv
  rw [show zI (8 - 8) = (0 : Int32) from rfl] at a1
  rw [f_F_isRight, gd_t hj, a1, bi_s, hv', iI_eq (by omega) (by omega)]
  by_cases c : zen8 op n 8 0 = n
  · rw [if_pos c, if_pos c]; rfl
  · rw [if_neg c, if_neg c]; rfl
end PB
