/-! the class's rows: what stands in them; put, give, end -/
def zRe (v : mS) (T r : Nat) (e : Option zT) : Prop := match e with
  | none => v r 2 = -1
  | some y => ∃ b, v r 2 = zI b ∧ zV (v 4) T b y
def zRw (v : mS) (T r : Nat) (l : List zT) (e : Option zT) : Prop := v r 1 = zI l.length ∧ l.length ≤ 16 ∧ (∀ k, k < l.length → ∃ b, v (r + 1) k = zI b ∧ zV (v 4) T b (l.getD k (zW 0))) ∧ zRe v T r e
/-- the regions that an expression at a level, with its row, may change -/
def zS (lv out j : Nat) : Prop := j = 25 ∨ j = 26 ∨ (28 + 4 * lv ≤ j ∧ j < 60) ∨ j = out ∨ j = out + 1
def zY (S : Nat → Prop) (g : Nat → Nat) (v : mS) (T : Nat) (g' : Nat → Nat) (v' : mS) (T' : Nat) : Prop := T ≤ T' ∧ g' 5 = g 5 ∧ g' 25 = g 25 ∧ g 4 ≤ g' 4 ∧ (∀ i, i < T → v' 4 i = v 4 i) ∧ ∀ j, j ≠ 1 → j ≠ 2 → j ≠ 3 → j ≠ 4 → ¬ S j → v' j = v j
theorem zY.rf {S : Nat → Prop} {g : Nat → Nat} {v : mS} {T : Nat} : zY S g v T g v T := ⟨Nat.le_refl _, rfl, rfl, Nat.le_refl _, fun _ _ => rfl, fun _ _ _ _ _ _ => rfl⟩
theorem zY.tr {S : Nat → Prop} {g g1 g2 : Nat → Nat} {v v1 v2 : mS} {T T1 T2 : Nat} (h : zY S g v T g1 v1 T1) (k : zY S g1 v1 T1 g2 v2 T2) : zY S g v T g2 v2 T2 := by
  obtain ⟨h1, h2, h3, h4, h5, h6⟩ := h
  obtain ⟨k1, k2, k3, k4, k5, k6⟩ := k
  exact ⟨by omega, by omega, by omega, by omega, fun i hi => (k5 i (by omega)).trans (h5 i hi), fun j a b c d e => (k6 j a b c d e).trans (h6 j a b c d e)⟩
theorem zY.L {S : Nat → Prop} {g g' : Nat → Nat} {v v' : mS} {T T' : Nat} (h : zY S g v T g' v' T') : gL g ≤ gL g' := by
  have h2 := h.2.1
  have h4 := h.2.2.2.1
  unfold gL; omega
theorem zY.V {S : Nat → Prop} {g g' : Nat → Nat} {v v' : mS} {T T' a : Nat} {t : zT} (h : zY S g v T g' v' T') (k : zV (v 4) T a t) : zV (v' 4) T' a t := zV_up k h.2.2.2.2.1 h.1
theorem zY.X {S : Nat → Prop} {g g' : Nat → Nat} {v v' : mS} {T T' a : Nat} {x : zN} (h : zY S g v T g' v' T') (k : zRX (v 4) T a x) : zRX (v' 4) T' a x := zRX_up k h.2.2.2.2.1 h.1
theorem zY.mono {S S' : Nat → Prop} {g g' : Nat → Nat} {v v' : mS} {T T' : Nat} (h : zY S g v T g' v' T') (k : ∀ j, S j → S' j) : zY S' g v T g' v' T' := ⟨h.1, h.2.1, h.2.2.1, h.2.2.2.1, h.2.2.2.2.1, fun j a b c d e => h.2.2.2.2.2 j a b c d (fun s => e (k j s))⟩
theorem zE.Y {S : Nat → Prop} {g g' : Nat → Nat} {v v' : mS} {T T' : Nat} (h : zE g v T g' v' T') : zY S g v T g' v' T' := ⟨h.1, h.2.1, h.2.2.1, h.2.2.2.1, h.2.2.2.2.1, fun j a b c d _ => h.2.2.2.2.2 j a b c d⟩
/-- a row that nothing has touched -/
theorem zRw_up {v v' : mS} {T T' r : Nat} {l : List zT} {e : Option zT} (h : zRw v T r l e) (hr : v' r = v r) (hr1 : v' (r + 1) = v (r + 1)) (hc : ∀ i, i < T → v' 4 i = v 4 i) (ht : T ≤ T') : zRw v' T' r l e := by
  obtain ⟨h1, h2, h3, h4⟩ := h
  refine ⟨by rw [hr]; exact h1, h2, fun k hk => ?_, ?_⟩
  · obtain ⟨b, eb, hb⟩ := h3 k hk
    exact ⟨b, by rw [hr1]; exact eb, zV_up hb hc ht⟩
  · cases e with
    | none => show v' r 2 = -1; rw [hr]; exact h4
    | some y =>
      obtain ⟨b, eb, hb⟩ := h4
      exact ⟨b, by rw [hr]; exact eb, zV_up hb hc ht⟩
theorem rowB_r {r : Nat} (h : rowB r = true) : 28 ≤ r ∧ r < 62 ∧ r % 2 = 0 := by simpa [rowB] using h
section CR
variable {g : Nat → Nat} {v : mS} {T a b r : Nat} {t u : zT} {l : List zT} {e : Option zT}
theorem getD_app {x : zT} {k : Nat} (h : k < l.length) : (l ++ [x]).getD k (zW 0) = l.getD k (zW 0) := by
  simp [List.getD_eq_getElem?_getD, List.getElem?_append_left h]
theorem getD_app2 {x : zT} : (l ++ [x]).getD l.length (zW 0) = x := by
  simp [List.getD_eq_getElem?_getD]
theorem c_put_no (hr : rowB r = true) (h : zRw v T r l e) (hl : l.length = 16) {x : Int32} : f_R_put g v r x = some (.inr 3, g, v) := by
  refine mg_s ?_ (Nat.le_refl _)
  rw [gd_t hr, h.1, hl, zl_16, if_pos rfl]
theorem c_put (hr : rowB r = true) (h : zRw v T r l e) (hl : l.length < 16) (ha : zV (v 4) T a t) : f_R_put g v r (zI a) = some (.inl (), g, sU (sU v (r + 1) l.length (zI a)) r 1 (zI (l.length + 1))) ∧ zRw (sU (sU v (r + 1) l.length (zI a)) r 1 (zI (l.length + 1))) T r (l ++ [t]) e := by
  obtain ⟨r1, r2, r3⟩ := rowB_r hr
  obtain ⟨h1, h2, h3, h4⟩ := h
  have e4 : sU (sU v (r + 1) l.length (zI a)) r 1 (zI (l.length + 1)) 4 = v 4 := by rw [sU_j (by omega), sU_j (by omega)]
  have e2 : sU (sU v (r + 1) l.length (zI a)) r 1 (zI (l.length + 1)) r 2 = v r 2 := by rw [sU_k (by decide), sU_j (by omega)]
  have e1 : sU v (r + 1) l.length (zI a) r 1 = zI l.length := by rw [sU_j (by omega)]; exact h1
  constructor
  · refine mg_s ?_ (Nat.le_refl _)
    rw [gd_t hr, h1, zl_16, iI_eq (by omega) (by omega), if_neg (by omega), gd_I (by omega) (by omega), nm_s, zI_toNat (by omega), e1, zl_1, zI_add, nm_s]
  · refine ⟨?_, ?_, fun k hk => ?_, ?_⟩
    · rw [sU_hit]; simp
    · simp; omega
    · rw [e4, sU_j (by omega)]
      simp at hk
      by_cases c : k = l.length
      · subst c
        exact ⟨a, sU_hit, by rw [getD_app2]; exact ha⟩
      · obtain ⟨b, eb, hb⟩ := h3 k (by omega)
        exact ⟨b, by rw [sU_k c]; exact eb, by rw [getD_app (by omega)]; exact hb⟩
    · cases e with
      | none => show _ = _; rw [e2]; exact h4
      | some y =>
        obtain ⟨b, eb, hb⟩ := h4
        exact ⟨b, by rw [e2]; exact eb, by rw [e4]; exact hb⟩
theorem zY_put {S : Nat → Prop} (h1 : S r) (h2 : S (r + 1)) {k : Nat} {x y : Int32} (hr : rowB r = true) : zY S g v T g (sU (sU v (r + 1) k x) r 1 y) T := by
  obtain ⟨r1, r2, r3⟩ := rowB_r hr
  refine ⟨Nat.le_refl _, rfl, rfl, Nat.le_refl _, fun i _ => by rw [sU_j (by omega), sU_j (by omega)], fun j _ _ _ _ hj => ?_⟩
  have a1 : j ≠ r := by intro h; subst h; exact hj h1
  have a2 : j ≠ r + 1 := by intro h; subst h; exact hj h2
  rw [sU_j a1, sU_j a2]
theorem zM_put {k : Nat} {x y : Int32} (hM : zM g v T) (hr : rowB r = true) : zM g (sU (sU v (r + 1) k x) r 1 y) T := by
  obtain ⟨r1, r2, r3⟩ := rowB_r hr
  exact zM_w hM (by rw [sU_j (by omega), sU_j (by omega)]) (fun i _ => by rw [sU_j (by omega), sU_j (by omega)])
theorem c_end (hr : rowB r = true) (h : zRw v T r l none) (ha : zV (v 4) T a t) : f_R_end g v r (zI a) = some (sU v r 2 (zI a)) ∧ zRw (sU v r 2 (zI a)) T r l (some t) := by
  obtain ⟨r1, r2, r3⟩ := rowB_r hr
  obtain ⟨h1, h2, h3, h4⟩ := h
  have e4 : sU v r 2 (zI a) 4 = v 4 := sU_j (by omega)
  constructor
  · rw [f_R_end, gd_t hr, nm_s]
  · refine ⟨by rw [sU_k (by decide)]; exact h1, h2, fun k hk => ?_, a, sU_hit, by rw [e4]; exact ha⟩
    rw [e4, sU_j (by omega)]
    exact h3 k hk
theorem c_ended (hM : zM g v T) (hr : rowB r = true) (h : zRw v T r l e) : f_R_isEnded g v r = some (if e = none then 0 else 1, v) := by
  have h4 := h.2.2.2
  cases e with
  | none =>
    have h4 : v r 2 = -1 := h4
    rw [f_R_isEnded, gd_t hr, h4, if_pos rfl]
    rfl
  | some y =>
    obtain ⟨b, eb, hb⟩ := h4
    have hT := hM.2.2.2.1
    have hb1 := hb.1.1
    have e1 : ¬ zI b = -1 := by rw [zl_m1, zI_J, zJ_eq (by omega) (by omega) (by omega) (by omega)]; omega
    rw [f_R_isEnded, gd_t hr, eb, if_neg e1]
    rfl
theorem c_rsize (hr : rowB r = true) (h : zRw v T r l e) : f_R_size g v r = some (zI l.length, v) := by
  rw [f_R_size, gd_t hr, h.1]
theorem c_rat (hr : rowB r = true) (h : zRw v T r l e) {k : Nat} (hk : k < l.length) : ∃ b, f_R_at g v r (zI k) = some (zI b, v) ∧ zV (v 4) T b (l.getD k (zW 0)) := by
  obtain ⟨b, eb, hb⟩ := h.2.2.1 k hk
  have h16 := h.2.1
  refine ⟨b, ?_, hb⟩
  rw [f_R_at, gd_t hr, gd_I (by omega) (by omega), zI_toNat (by omega), eb]
theorem c_clear (hr : rowB r = true) : f_R_clear g v r = some (sU (sU v r 1 0) r 2 (-1)) ∧ zRw (sU (sU v r 1 0) r 2 (-1)) T r [] none := by
  refine ⟨by rw [f_R_clear, gd_t hr, nm_s, nm_s], ?_, by simp, fun k hk => absurd hk (by simp), sU_hit⟩
  rw [sU_k (by decide), sU_hit]; rfl
theorem c_endAs {q : Nat} {l2 : List zT} {e2 : Option zT} (hM : zM g v T) (hr : rowB r = true) (hq : rowB q = true) (h : zRw v T r l none) (h2 : zRw v T q l2 e2) : ∃ x, f_R_endAs g v r q = some (sU v r 2 x) ∧ zRw (sU v r 2 x) T r l e2 := by
  obtain ⟨r1, r2, r3⟩ := rowB_r hr
  refine ⟨v q 2, ?_, ?_⟩
  · rw [f_R_endAs, gd_t hr, gd_t hq, c_ended hM hr h, bi_s, if_pos rfl, if_pos rfl, nm_s]
    rfl
  · obtain ⟨h1, h3, h4, h5⟩ := h
    have e4 : sU v r 2 (v q 2) 4 = v 4 := sU_j (by omega)
    refine ⟨by rw [sU_k (by decide)]; exact h1, h3, fun k hk => ?_, ?_⟩
    · rw [e4, sU_j (by omega)]
      exact h4 k hk
    · have h6 := h2.2.2.2
      cases e2 with
      | none => show _ = _; rw [sU_hit]; exact h6
      | some y =>
        obtain ⟨b, eb, hb⟩ := h6
        exact ⟨b, by rw [sU_hit]; exact eb, by rw [e4]; exact hb⟩
theorem c_endAs_st {q : Nat} {l2 : List zT} {y : zT} (hM : zM g v T) (hr : rowB r = true) (hq : rowB q = true) (h : zRw v T r l (some y)) : f_R_endAs g v r q = some v := by
  rw [f_R_endAs, gd_t hr, gd_t hq, c_ended hM hr h, bi_s, if_neg (show ¬ some y = none by simp), if_neg (by decide)]
  rfl
end CR
