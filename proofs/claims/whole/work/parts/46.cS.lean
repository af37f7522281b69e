/-! the class's Runner: what an action does to its row; loops over rows -/
def zWr (F : Option (bO Unit)) (g0 : Nat → Nat) (v0 : mS) (T0 out : Nat) (l : List zT) (s c : Nat) (sp : zEv) (g : Nat → Nat) (v : mS) (T s' : Nat) : Prop := match sp with
  | none => F = some (.inr 3, g, v) ∧ T + 280 * s ≤ T0 + 280 * s' + 16 * (17 - l.length) + c
  | some (r, e, s1) => if l.length + r.length ≤ 16 then F = some (.inl (), g, v) ∧ zRw v T out (l ++ r) e ∧ s' = s1 ∧ v 26 = v0 26 ∧ T + 280 * s ≤ T0 + 280 * s' + 16 * r.length + (if e = none then 0 else 16) + c
    else F = some (.inr 3, g, v) ∧ T + 280 * s ≤ T0 + 280 * s' + 16 * (17 - l.length) + c
def zWk (S : Nat → Prop) (F : Option (bO Unit)) (g : Nat → Nat) (v : mS) (T out : Nat) (l : List zT) (s c : Nat) (sp : zEv) : Prop := ∃ g' v' T' s', zM g' v' T' ∧ zY S g v T g' v' T' ∧ v' 25 5 = zI s' ∧ s ≤ s' ∧ s' ≤ 150 ∧ zWr F g v T out l s c sp g' v' T' s'
theorem zWr_some {F : Option (bO Unit)} {g0 : Nat → Nat} {v0 : mS} {T0 out : Nat} {l : List zT} {s c : Nat} {sp : zEv} {g : Nat → Nat} {v : mS} {T s' : Nat} (h : zWr F g0 v0 T0 out l s c sp g v T s') : ∃ x, F = some (x, g, v) := by
  unfold zWr at h
  split at h
  · exact ⟨_, h.1⟩
  · split at h
    · exact ⟨_, h.1⟩
    · exact ⟨_, h.1⟩
theorem zWk_mg {S : Nat → Prop} {F : Option (bO Unit)} {g : Nat → Nat} {v : mS} {T out : Nat} {l : List zT} {s c : Nat} {sp : zEv} (h : zWk S F g v T out l s c sp) : zWk S (mg g F) g v T out l s c sp := by
  obtain ⟨g', v', T', s', h1, h2, h3, h4, h5, h6⟩ := h
  obtain ⟨x, e⟩ := zWr_some h6
  have : mg g F = F := by rw [e]; exact mg_s rfl h2.L
  rw [this]
  exact ⟨g', v', T', s', h1, h2, h3, h4, h5, h6⟩
theorem zWk_mono {S S' : Nat → Prop} {F : Option (bO Unit)} {g : Nat → Nat} {v : mS} {T out : Nat} {l : List zT} {s c : Nat} {sp : zEv} (h : zWk S F g v T out l s c sp) (k : ∀ j, S j → S' j) : zWk S' F g v T out l s c sp := by
  obtain ⟨g', v', T', s', h1, h2, h3, h4, h5, h6⟩ := h
  exact ⟨g', v', T', s', h1, h2.mono k, h3, h4, h5, h6⟩
section CS
variable {S : Nat → Prop} {g : Nat → Nat} {v : mS} {T a b out s : Nat} {t u : zT} {l : List zT}
/-- an action that ends with a value in the row -/
theorem w_put (hM : zM g v T) (hr : rowB out = true) (hS : S out ∧ S (out + 1)) (h : zRw v T out l none) (hs : v 25 5 = zI s) (hs150 : s ≤ 150) (h25 : out ≠ 25 ∧ out ≠ 26 ∧ out + 1 ≠ 25 ∧ out + 1 ≠ 26) (ha : zV (v 4) T a t) : zWk S (f_R_put g v out (zI a)) g v T out l s 0 (some ([t], none, s)) := by
  by_cases c : l.length < 16
  · obtain ⟨e, hw⟩ := c_put (g := g) hr h c ha
    refine ⟨g, sU (sU v (out + 1) l.length (zI a)) out 1 (zI (l.length + 1)), T, s, zM_put hM hr, zY_put hS.1 hS.2 hr, ?_, Nat.le_refl _, hs150, ?_⟩
    · rw [sU_j (by omega), sU_j (by omega)]; exact hs
    · unfold zWr
      try dsimp only
      rw [if_pos (by simp; omega)]
      refine ⟨e, hw, rfl, ?_, by simp⟩
      rw [sU_j (by omega), sU_j (by omega)]
  · have h16 := h.2.1
    have e := c_put_no (g := g) (x := zI a) hr h (by omega)
    refine ⟨g, v, T, s, hM, zY.rf, hs, Nat.le_refl _, hs150, ?_⟩
    unfold zWr
    try dsimp only
    rw [if_neg (by simp; omega)]
    exact ⟨e, by omega⟩
/-- what comes behind an action -/
theorem w_bind {F : Option (bO Unit)} {K : Unit → (Nat → Nat) → mS → Option (bO Unit)} {c : Nat} {sp1 sp : zEv} (h1 : zWk S F g v T out l s c sp1)
    (hno : sp1 = none → sp = none)
    (hov : ∀ r e s1, sp1 = some (r, e, s1) → 16 < l.length + r.length → sp = none ∨ ∃ r2 e2 s2, sp = some (r2, e2, s2) ∧ 16 < l.length + r2.length)
    (hk : ∀ (g' : Nat → Nat) (v' : mS) (T' : Nat) (r : List zT) (e : Option zT) (s1 : Nat), sp1 = some (r, e, s1) → l.length + r.length ≤ 16 → zM g' v' T' → zY S g v T g' v' T' → v' 25 5 = zI s1 → s ≤ s1 → s1 ≤ 150 → zRw v' T' out (l ++ r) e → v' 26 = v 26 → T' + 280 * s ≤ T + 280 * s1 + 16 * r.length + (if e = none then 0 else 16) + c →
      ∃ g2 v2 T2 s2, zM g2 v2 T2 ∧ zY S g' v' T' g2 v2 T2 ∧ v2 25 5 = zI s2 ∧ s1 ≤ s2 ∧ s2 ≤ 150 ∧ zWr (K () g' v') g v T out l s c sp g2 v2 T2 s2) : zWk S (bo F K) g v T out l s c sp := by
  obtain ⟨g', v', T', s', a1, a2, a3, a4, a5, a6⟩ := h1
  cases hsp : sp1 with
  | none =>
    rw [hsp] at a6
    obtain ⟨b1, b2⟩ := a6
    rw [hno hsp, b1, bo_r]
    exact ⟨g', v', T', s', a1, a2, a3, a4, a5, rfl, b2⟩
  | some w =>
    obtain ⟨r, e, s1⟩ := w
    rw [hsp] at a6
    unfold zWr at a6
    try dsimp only at a6
    by_cases cl : l.length + r.length ≤ 16
    · rw [if_pos cl] at a6
      obtain ⟨b1, b2, b3, b4, b5⟩ := a6
      subst b3
      obtain ⟨g2, v2, T2, s2, d1, d2, d3, d4, d5, d6⟩ := hk g' v' T' r e s' hsp cl a1 a2 a3 a4 a5 b2 b4 b5
      obtain ⟨x, ex⟩ := zWr_some d6
      have hb : bo F K = K () g' v' := by
        rw [b1, ex]
        exact bo_l ex d2.L
      rw [hb]
      exact ⟨g2, v2, T2, s2, d1, a2.tr d2, d3, by omega, d5, d6⟩
    · rw [if_neg cl] at a6
      obtain ⟨b1, b2⟩ := a6
      rw [b1, bo_r]
      refine ⟨g', v', T', s', a1, a2, a3, a4, a5, ?_⟩
      rcases hov r e s1 hsp (by omega) with h9 | ⟨r2, e2, s2, h9, h10⟩
      · rw [h9]; exact ⟨rfl, b2⟩
      · rw [h9]
        unfold zWr
        try dsimp only
        rw [if_neg (by omega)]
        exact ⟨rfl, b2⟩
end CS
