/-! the class's Runner: the filter and the strings that it reads; a row worked out anew -/
def zpt (o : Nat) : Nat := if o = 17 ∨ o = 22 then 3 else if o = 4 ∨ o = 5 ∨ o = 12 ∨ o = 13 ∨ o = 14 ∨ o = 15 ∨ o = 18 ∨ o = 19 ∨ o = 20 then 2 else if o = 2 ∨ o = 9 ∨ o = 11 ∨ o = 29 ∨ o = 31 ∨ o = 32 ∨ o = 33 then 1 else 0
/-- a token's choice is in its range -/
def zag (o : Nat) (a : Int32) : Prop := (o = 1 ∨ o = 7 ∨ o = 11 → ∃ k, a = zI k ∧ k < 8) ∧ (o = 20 ∨ o = 21 ∨ o = 22 → ∃ k, a = zI k ∧ k < 4) ∧ (o = 12 → ∃ k, a = zI k ∧ k < 4) ∧ (o = 13 → ∃ k, a = zI k ∧ k < 6) ∧ (o = 8 → ∃ k, a = zI k ∧ k < 3) ∧ (o = 31 → ∃ k, a = zI k ∧ k < 10)
/-- an expression stands at a place, in no more than so many levels -/
def zok (op : Nat → Nat) (ar : Nat → Int32) (p2 p3 : Nat → Nat) : Nat → Nat → Prop
  | 0, _ => False
  | d + 1, at0 => at0 < 32 ∧ op at0 ≤ 34 ∧ zag (op at0) (ar at0) ∧ (1 ≤ zpt (op at0) → zok op ar p2 p3 d (at0 + 1)) ∧ (2 ≤ zpt (op at0) → zok op ar p2 p3 d (p2 at0)) ∧ (3 ≤ zpt (op at0) → zok op ar p2 p3 d (p3 at0))
theorem zok_32 {op : Nat → Nat} {ar : Nat → Int32} {p2 p3 : Nat → Nat} {d a : Nat} (h : zok op ar p2 p3 d a) : a < 32 := by
  cases d with
  | zero => exact h.elim
  | succ d => exact h.1
def zEn (op : Nat → Nat) (ar : Nat → Int32) (sx : Nat → zN) (p2 p3 : Nat → Nat) (g : Nat → Nat) (v : mS) (T : Nat) : Prop := g 25 < 4 ∧ (∀ k, k < 32 → v (10 + 4 * g 25) k = zI (op k) ∧ v (11 + 4 * g 25) k = ar k) ∧ (∀ d k, zok op ar p2 p3 d k → (2 ≤ zpt (op k) → v (12 + 4 * g 25) (k + 1) = zI (p2 k)) ∧ (3 ≤ zpt (op k) → v (12 + 4 * g 25) (p2 k) = zI (p3 k))) ∧ ∀ k, k < 8 → ∃ b, v 7 k = zI b ∧ zRX (v 4) T b (sx k) ∧ ztx (sx k)
def zVr (v : mS) (T : Nat) (vr : Nat → zT) : Prop := ∀ k, k < 4 → ∃ b, v 26 k = zI b ∧ zV (v 4) T b (vr k)
theorem zVr_up {v v' : mS} {T T' : Nat} {vr : Nat → zT} (h : zVr v T vr) (h26 : v' 26 = v 26) (hc : ∀ i, i < T → v' 4 i = v 4 i) (ht : T ≤ T') : zVr v' T' vr := by
  intro k hk
  obtain ⟨b, eb, hb⟩ := h k hk
  exact ⟨b, by rw [h26]; exact eb, zV_up hb hc ht⟩
/-- what may change keeps clear of filters and strings -/
def zSo (S : Nat → Prop) : Prop := ∀ j, S j → 25 ≤ j
theorem zEn_up {op : Nat → Nat} {ar : Nat → Int32} {sx : Nat → zN} {p2 p3 : Nat → Nat} {S : Nat → Prop} {g g' : Nat → Nat} {v v' : mS} {T T' : Nat} (h : zEn op ar sx p2 p3 g v T) (hY : zY S g v T g' v' T') (hS : zSo S) : zEn op ar sx p2 p3 g' v' T' := by
  obtain ⟨h1, h2, h3, h4⟩ := h
  obtain ⟨y1, y2, y3, y4, y5, y6⟩ := hY
  have hj : ∀ j, 5 ≤ j → j < 25 → v' j = v j := fun j a b => y6 j (by omega) (by omega) (by omega) (by omega) (fun s => absurd (hS j s) (by omega))
  refine ⟨by rw [y3]; exact h1, ?_, ?_, fun k hk => ?_⟩
  · rw [y3, hj (10 + 4 * g 25) (by omega) (by omega), hj (11 + 4 * g 25) (by omega) (by omega)]; exact h2
  · rw [y3, hj (12 + 4 * g 25) (by omega) (by omega)]; exact h3
  · obtain ⟨b, eb, hb, hb2⟩ := h4 k hk
    exact ⟨b, by rw [hj 7 (by omega) (by omega)]; exact eb, zRX_up hb y5 y1, hb2⟩
section CT
variable {op : Nat → Nat} {ar : Nat → Int32} {sx : Nat → zN} {p2 p3 : Nat → Nat} {g : Nat → Nat} {v : mS} {T a b s d k lv : Nat} {t u : zT} {l : List zT} {vr : Nat → zT}
theorem en_fil (hE : zEn op ar sx p2 p3 g v T) : filB (9 + 4 * g 25) = true := by
  have := hE.1
  simp [filB]; omega
theorem en_op (hE : zEn op ar sx p2 p3 g v T) (hk : k < 32) : f_F_opAt g v (9 + 4 * g 25) (zI k) = some (zI (op k), v) := by
  have h := (hE.2.1 k hk).1
  have e : v (9 + 4 * g 25 + 1) k = zI (op k) := by rw [show 9 + 4 * g 25 + 1 = 10 + 4 * g 25 by omega]; exact h
  rw [f_F_opAt, gd_t (en_fil hE), gd_I hk (by omega), zI_toNat (by omega), e]
theorem en_ar (hE : zEn op ar sx p2 p3 g v T) (hk : k < 32) : f_F_choiceAt g v (9 + 4 * g 25) (zI k) = some (ar k, v) := by
  have h := (hE.2.1 k hk).2
  have e : v (9 + 4 * g 25 + 2) k = ar k := by rw [show 9 + 4 * g 25 + 2 = 11 + 4 * g 25 by omega]; exact h
  rw [f_F_choiceAt, gd_t (en_fil hE), gd_I hk (by omega), zI_toNat (by omega), e]
theorem en_1 (hE : zEn op ar sx p2 p3 g v T) : f_F_firstPart g v (9 + 4 * g 25) (zI k) = some (zI (k + 1), v) := by
  rw [f_F_firstPart, gd_t (en_fil hE), zl_1, zI_add]
theorem en_2 (hE : zEn op ar sx p2 p3 g v T) (hk : zok op ar p2 p3 d k) (h2 : 2 ≤ zpt (op k)) : f_F_secondPart g v (9 + 4 * g 25) (zI k) = some (zI (p2 k), v) := by
  have h := (hE.2.2.1 d k hk).1 h2
  have hk1 : k + 1 < 32 := by
    cases d with
    | zero => exact hk.elim
    | succ d => exact zok_32 (hk.2.2.2.1 (by omega))
  have e : v (9 + 4 * g 25 + 3) (k + 1) = zI (p2 k) := by rw [show 9 + 4 * g 25 + 3 = 12 + 4 * g 25 by omega]; exact h
  rw [f_F_secondPart, gd_t (en_fil hE), zl_1, zI_add, gd_I hk1 (by omega), zI_toNat (by omega), e]
theorem en_3 (hE : zEn op ar sx p2 p3 g v T) (hk : zok op ar p2 p3 d k) (h3 : 3 ≤ zpt (op k)) : f_F_thirdPart g v (9 + 4 * g 25) (zI k) = some (zI (p3 k), v) := by
  have h := (hE.2.2.1 d k hk).1 (by omega)
  have h' := (hE.2.2.1 d k hk).2 h3
  have hk1 : k + 1 < 32 ∧ p2 k < 32 := by
    cases d with
    | zero => exact hk.elim
    | succ d => exact ⟨zok_32 (hk.2.2.2.1 (by omega)), zok_32 (hk.2.2.2.2.1 (by omega))⟩
  have e : v (9 + 4 * g 25 + 3) (k + 1) = zI (p2 k) := by rw [show 9 + 4 * g 25 + 3 = 12 + 4 * g 25 by omega]; exact h
  have e' : v (9 + 4 * g 25 + 3) (p2 k) = zI (p3 k) := by rw [show 9 + 4 * g 25 + 3 = 12 + 4 * g 25 by omega]; exact h'
  rw [f_F_thirdPart, gd_t (en_fil hE), zl_1, zI_add, gd_I hk1.1 (by omega), zI_toNat (by omega), e, gd_I hk1.2 (by omega), zI_toNat (by omega), e']
/-- the row of an action is one of an upper level, or the bench's own -/
def zOut (lv out : Nat) : Prop := rowB out = true ∧ (out = 60 ∨ out < 28 + 4 * lv)
/-- what working out a part must do -/
def zKr (op : Nat → Nat) (ar : Nat → Int32) (sx : Nat → zN) (p2 p3 : Nat → Nat) (Kr : (Nat → Nat) → mS → Int32 → Int32 → Int32 → Nat → Option (bO Unit)) (d lv : Nat) : Prop := ∀ (g : Nat → Nat) (v : mS) (T k a out s : Nat) (t : zT) (l : List zT) (vr : Nat → zT), zM g v T → zEn op ar sx p2 p3 g v T → zok op ar p2 p3 d k → zV (v 4) T a t → zOut lv out → zRw v T out l none → zVr v T vr → v 25 5 = zI s → s ≤ 150 → T + 280 * (150 - s) ≤ 65000 → ∃ g' v' T' s', zM g' v' T' ∧ zY (zS lv out) g v T g' v' T' ∧ v' 25 5 = zI s' ∧ s ≤ s' ∧ s' ≤ 150 ∧ T' + 280 * s ≤ T + 280 * s' ∧ (match zev op ar sx p2 p3 d k t vr s with
    | none => Kr g v (zI k) (zI a) (zI lv) out = some (.inr 3, g', v')
    | some (r, e, s1) => if l.length + r.length ≤ 16 then Kr g v (zI k) (zI a) (zI lv) out = some (.inl (), g', v') ∧ zRw v' T' out (l ++ r) e ∧ s' = s1 ∧ v' 26 = v 26 else Kr g v (zI k) (zI a) (zI lv) out = some (.inr 3, g', v'))
theorem zev_16 {r : List zT} {e : Option zT} {s1 : Nat} (h : zev op ar sx p2 p3 d k t vr s = some (r, e, s1)) : r.length ≤ 16 := by
  cases d with
  | zero => cases h
  | succ d =>
    simp only [zev] at h
    split at h
    · cases h
    · unfold zcap at h
      split at h
      · cases h
      · split at h
        · next h9 => cases h; exact h9
        · cases h
theorem zS_so {lv out : Nat} (h : zOut lv out) : zSo (zS lv out) := by
  intro j hj
  have := rowB_r h.1
  rcases hj with h | h | h | h | h <;> omega
/-- a row of this level, worked out anew -/
theorem w_rowOf {Kr : (Nat → Nat) → mS → Int32 → Int32 → Int32 → Nat → Option (bO Unit)} (hK : zKr op ar sx p2 p3 Kr d (lv + 1)) (hlv : lv < 8) {w : Nat} (hw : w < 2) (hM : zM g v T) (hE : zEn op ar sx p2 p3 g v T) (hok : zok op ar p2 p3 d k) (ha : zV (v 4) T a t) (hvr : zVr v T vr) (hs : v 25 5 = zI s) (hs150 : s ≤ 150) (hT : T + 280 * (150 - s) ≤ 65000) : ∃ g' v' T' s', zM g' v' T' ∧ zY (zS (lv + 1) (28 + 4 * lv + 2 * w)) g v T g' v' T' ∧ v' 25 5 = zI s' ∧ s ≤ s' ∧ s' ≤ 150 ∧ T' + 280 * s ≤ T + 280 * s' ∧ (match zev op ar sx p2 p3 d k t vr s with
    | none => f_N_rowOf Kr g v (zI k) (zI a) (zI lv) (zI w) = some (.inr 3, g', v')
    | some (r, e, s1) => f_N_rowOf Kr g v (zI k) (zI a) (zI lv) (zI w) = some (.inl (28 + 4 * lv + 2 * w), g', v') ∧ zRw v' T' (28 + 4 * lv + 2 * w) r e ∧ s' = s1 ∧ v' 26 = v 26) := by
  have hr : rowB (28 + 4 * lv + 2 * w) = true := by simp [rowB]; omega
  have hO : zOut (lv + 1) (28 + 4 * lv + 2 * w) := ⟨hr, Or.inr (by omega)⟩
  obtain ⟨c1, c2⟩ := c_clear (g := g) (v := v) (T := T) hr
  have hj : ∀ j, j ≠ 28 + 4 * lv + 2 * w → sU (sU v (28 + 4 * lv + 2 * w) 1 0) (28 + 4 * lv + 2 * w) 2 (-1) j = v j := by
    intro j h
    rw [sU_j h, sU_j h]
  have hY0 : zY (zS (lv + 1) (28 + 4 * lv + 2 * w)) g v T g (sU (sU v (28 + 4 * lv + 2 * w) 1 0) (28 + 4 * lv + 2 * w) 2 (-1)) T := ⟨Nat.le_refl _, rfl, rfl, Nat.le_refl _, fun i _ => by rw [hj 4 (by omega)], fun j _ _ _ _ hn => hj j (fun h => hn (Or.inr (Or.inr (Or.inr (Or.inl h)))))⟩
  generalize hv1 : sU (sU v (28 + 4 * lv + 2 * w) 1 0) (28 + 4 * lv + 2 * w) 2 (-1) = v1 at *
  have h4 : v1 4 = v 4 := hj 4 (by omega)
  obtain ⟨g', v', T', s', k1, k2, k3, k4, k5, k6, k7⟩ := hK g v1 T k a (28 + 4 * lv + 2 * w) s t [] vr (zM_w hM (hj 1 (by omega)) (fun i _ => by rw [h4])) (zEn_up hE hY0 (zS_so hO)) hok (by rw [h4]; exact ha) hO c2 (zVr_up hvr (hj 26 (by omega)) (fun i _ => by rw [h4]) (Nat.le_refl _)) (by rw [hj 25 (by omega)]; exact hs) hs150 hT
  refine ⟨g', v', T', s', k1, hY0.tr k2, k3, k4, k5, k6, ?_⟩
  have hun : ∀ o : bO Unit, Kr g v1 (zI k) (zI a) (zI (lv + 1)) (28 + 4 * lv + 2 * w) = some o → gL g ≤ gL o.2.1 → f_N_rowOf Kr g v (zI k) (zI a) (zI lv) (zI w) = match o.1 with
      | .inl _ => some (.inl (28 + 4 * lv + 2 * w), o.2)
      | .inr n => some (.inr n, o.2) := by
    intro o ho hg
    have e1 : (28 + 2 * (zI lv * 2 + zI w).toNatClampNeg) = 28 + 4 * lv + 2 * w := by
      rw [zl_2, zI_mul, zI_add, zI_toNat (by omega)]; omega
    obtain ⟨x, g2, v2⟩ := o
    have e2 : zI lv + 1 = zI (lv + 1) := by rw [zl_1, zI_add]
    rw [f_N_rowOf, nm_s, e1, c1, bv_s, e2, ho]
    have e3 : gd (inB (zI lv * 2 + zI w) 16) (bo (some (x, g2, v2)) fun r9 g9 v9 => f_N_rowOf_29 Kr (28 + 4 * lv + 2 * w) g9 v9) = bo (some (x, g2, v2)) fun r9 g9 v9 => f_N_rowOf_29 Kr (28 + 4 * lv + 2 * w) g9 v9 := by
      rw [zl_2, zI_mul, zI_add]
      exact gd_I (by omega) (by omega)
    rw [e3]
    cases x with
    | inl y =>
      refine mg_s (bo_l (o := (.inl (28 + 4 * lv + 2 * w), g2, v2)) ?_ (Nat.le_refl _)) hg
      rw [f_N_rowOf_29, gd_t hr]
    | inr n => exact mg_s bo_r hg
  have hL := k2.L
  cases hz : zev op ar sx p2 p3 d k t vr s with
  | none =>
    rw [hz] at k7
    try dsimp only at k7 ⊢
    rw [hun _ k7 hL]
  | some q =>
    obtain ⟨r, e, s1⟩ := q
    have h16 := zev_16 hz
    rw [hz] at k7
    try dsimp only at k7 ⊢
    rw [if_pos (by simp; omega)] at k7
    obtain ⟨q1, q2, q3, q4⟩ := k7
    refine ⟨by rw [hun _ q1 hL], q2, q3, by rw [q4, hj 26 (by omega)]⟩
end CT
