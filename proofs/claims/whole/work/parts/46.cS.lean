/-! the class's Runner: what an action does to its row -/
def zph (n : Nat) (e : Option zT) : Nat := match e with
  | none => 16 * (17 - n)
  | some _ => 0
def zapp (r : List zT) (sp : zEv) : zEv := match sp with
  | none => none
  | some (r2, e, s) => some (r ++ r2, e, s)
def zseq (sp : zEv) (K : Option zT → Nat → zEv) : zEv := match sp with
  | none => none
  | some (r, e, s) => zapp r (K e s)
def zWr (F : Option (bO Unit)) (v0 : mS) (T0 out : Nat) (l : List zT) (e0 : Option zT) (s c : Nat) (sp : zEv) (g : Nat → Nat) (v : mS) (T s' : Nat) : Prop := match sp with
  | none => F = some (.inr 3, g, v) ∧ T + 280 * s ≤ T0 + 280 * s' + zph l.length e0 + c
  | some (r, e, s1) => if l.length + r.length ≤ 16 then F = some (.inl (), g, v) ∧ zRw v T out (l ++ r) e ∧ s' = s1 ∧ v 26 = v0 26 ∧ T + 280 * s + zph (l.length + r.length) e ≤ T0 + 280 * s' + zph l.length e0 + c
    else F = some (.inr 3, g, v) ∧ T + 280 * s ≤ T0 + 280 * s' + zph l.length e0 + c
def zWk (S : Nat → Prop) (F : Option (bO Unit)) (g : Nat → Nat) (v : mS) (T out : Nat) (l : List zT) (e0 : Option zT) (s c : Nat) (sp : zEv) : Prop := ∃ g' v' T' s', zM g' v' T' ∧ zY S g v T g' v' T' ∧ v' 25 5 = zI s' ∧ s ≤ s' ∧ s' ≤ 150 ∧ zWr F v T out l e0 s c sp g' v' T' s'
/-- an action that makes no cells -/
def zWo (S : Nat → Prop) (F : Option (bO Unit)) (g : Nat → Nat) (v : mS) (T out : Nat) (l : List zT) (s : Nat) (sp : zEv) : Prop := ∃ v', zM g v' T ∧ zY S g v T g v' T ∧ v' 25 5 = zI s ∧ v' 26 = v 26 ∧ (match sp with
  | none => F = some (.inr 3, g, v')
  | some (r, e, s1) => s1 = s ∧ if l.length + r.length ≤ 16 then F = some (.inl (), g, v') ∧ zRw v' T out (l ++ r) e else F = some (.inr 3, g, v'))
theorem zWr_some {F : Option (bO Unit)} {v0 : mS} {T0 out : Nat} {l : List zT} {e0 : Option zT} {s c : Nat} {sp : zEv} {g : Nat → Nat} {v : mS} {T s' : Nat} (h : zWr F v0 T0 out l e0 s c sp g v T s') : ∃ x, F = some (x, g, v) := by
  unfold zWr at h
  split at h
  · exact ⟨_, h.1⟩
  · split at h
    · exact ⟨_, h.1⟩
    · exact ⟨_, h.1⟩
theorem zWk_mg {S : Nat → Prop} {F : Option (bO Unit)} {g : Nat → Nat} {v : mS} {T out : Nat} {l : List zT} {e0 : Option zT} {s c : Nat} {sp : zEv} (h : zWk S F g v T out l e0 s c sp) : zWk S (mg g F) g v T out l e0 s c sp := by
  obtain ⟨g', v', T', s', h1, h2, h3, h4, h5, h6⟩ := h
  obtain ⟨x, e⟩ := zWr_some h6
  have : mg g F = F := by rw [e]; exact mg_s rfl h2.L
  rw [this]
  exact ⟨g', v', T', s', h1, h2, h3, h4, h5, h6⟩
theorem zWk_mono {S S' : Nat → Prop} {F : Option (bO Unit)} {g : Nat → Nat} {v : mS} {T out : Nat} {l : List zT} {e0 : Option zT} {s c : Nat} {sp : zEv} (h : zWk S F g v T out l e0 s c sp) (k : ∀ j, S j → S' j) : zWk S' F g v T out l e0 s c sp := by
  obtain ⟨g', v', T', s', h1, h2, h3, h4, h5, h6⟩ := h
  exact ⟨g', v', T', s', h1, h2.mono k, h3, h4, h5, h6⟩
theorem zph_le {n : Nat} {e : Option zT} : zph n e ≤ 272 := by
  unfold zph
  split <;> omega
theorem zph_m {n m : Nat} {e : Option zT} (h : n ≤ m) : zph m e ≤ zph n none := by
  cases e with
  | none => simp only [zph]; omega
  | some y => simp only [zph]; omega
theorem mg_mg {α : Type} {g : Nat → Nat} {x : Option (bO α)} : mg g (mg g x) = mg g x := by
  cases x with
  | none => rfl
  | some o =>
    by_cases c : gL g ≤ gL o.2.1
    · have : mg g (some o) = some o := mg_s rfl c
      rw [this, this]
    · have : mg g (some o) = none := by unfold mg; dsimp only; rw [if_neg c]
      rw [this]; rfl
section CS
variable {S : Nat → Prop} {g : Nat → Nat} {v : mS} {T a b out s : Nat} {t u : zT} {l : List zT} {e0 : Option zT}
theorem w_0 {F : Option (bO Unit)} {sp : zEv} (h : zWo S F g v T out l s sp) (hs150 : s ≤ 150) : zWk S F g v T out l none s 0 sp := by
  obtain ⟨v', h1, h2, h3, h4, h5⟩ := h
  refine ⟨g, v', T, s, h1, h2, h3, Nat.le_refl _, hs150, ?_⟩
  cases sp with
  | none => exact ⟨h5, by omega⟩
  | some q =>
    obtain ⟨r, e, s1⟩ := q
    obtain ⟨h6, h7⟩ := h5
    unfold zWr
    dsimp only
    by_cases c : l.length + r.length ≤ 16
    · rw [if_pos c] at h7 ⊢
      have := zph_m (e := e) (show l.length ≤ l.length + r.length by omega)
      exact ⟨h7.1, h7.2, h6.symm, h4, by omega⟩
    · rw [if_neg c] at h7 ⊢
      exact ⟨h7, by omega⟩
theorem w_put0 (hM : zM g v T) (hr : rowB out = true) (hS : S out ∧ S (out + 1)) (h : zRw v T out l none) (hs : v 25 5 = zI s) (ha : zV (v 4) T a t) : zWo S (f_R_put g v out (zI a)) g v T out l s (some ([t], none, s)) := by
  obtain ⟨r1, r2, r3⟩ := rowB_r hr
  by_cases c : l.length < 16
  · obtain ⟨e, hw⟩ := c_put (g := g) hr h c ha
    refine ⟨sU (sU v (out + 1) l.length (zI a)) out 1 (zI (l.length + 1)), zM_put hM hr, zY_put hS.1 hS.2 hr, ?_, ?_, rfl, ?_⟩
    · rw [sU_j (by omega), sU_j (by omega)]; exact hs
    · rw [sU_j (by omega), sU_j (by omega)]
    · rw [if_pos (by simp; omega)]
      exact ⟨e, hw⟩
  · have h16 := h.2.1
    have e := c_put_no (g := g) (x := zI a) hr h (by omega)
    refine ⟨v, hM, zY.rf, hs, rfl, rfl, ?_⟩
    rw [if_neg (by simp; omega)]
    exact e
theorem w_end0 (hM : zM g v T) (hr : rowB out = true) (hS : S out) (h : zRw v T out l none) (hs : v 25 5 = zI s) (ha : zV (v 4) T a t) : ∃ v', f_R_end g v out (zI a) = some v' ∧ zM g v' T ∧ zY S g v T g v' T ∧ v' 25 5 = zI s ∧ v' 26 = v 26 ∧ zRw v' T out l (some t) := by
  obtain ⟨r1, r2, r3⟩ := rowB_r hr
  obtain ⟨e, hw⟩ := c_end (g := g) hr h ha
  have hj : ∀ j, j ≠ out → sU v out 2 (zI a) j = v j := fun j h => sU_j h
  refine ⟨_, e, zM_w hM (hj 1 (by omega)) (fun i _ => by rw [hj 4 (by omega)]), ⟨Nat.le_refl _, rfl, rfl, Nat.le_refl _, fun i _ => by rw [hj 4 (by omega)], fun j _ _ _ _ hn => ?_⟩, by rw [hj 25 (by omega)]; exact hs, hj 26 (by omega), hw⟩
  exact hj j (fun h9 => by subst h9; exact hn hS)
/-- a value or an error of the token itself is given to the row -/
theorem w_give0 {x : Int32} {q : Nat ⊕ zT} (hM : zM g v T) (hr : rowB out = true) (hS : S out ∧ S (out + 1)) (h : zRw v T out l none) (hs : v 25 5 = zI s) (hp : zPr (some (.inl x, g, v)) g v T (some q)) (hq : ∀ e, q = .inl e → 1 ≤ e ∧ e ≤ 2) : zWo S (f_N_give g v x out) g v T out l s (zgv (some q) s) := by
  have hT := hM.2.2.2.1
  cases q with
  | inr t =>
    obtain ⟨a, ea, ha⟩ := hp
    have ea : x = zI a := by cases ea; rfl
    subst ea
    have h1 := ha.1.1
    have e1 : ¬ zI a < 0 := by rw [zl_0, zI_lt (by omega) (by omega)]; omega
    have e2 : f_N_give g v (zI a) out = f_R_put g v out (zI a) := by
      have e3 : bo (f_R_put g v out (zI a)) (fun r9 g9 v9 => f_N_give_9 g9 v9) = f_R_put g v out (zI a) := bo_id (fun r g v => by cases r; rfl)
      rw [f_N_give, gd_t hr, if_neg e1, e3]
      exact mg_mg
    rw [e2]
    exact w_put0 hM hr hS h hs ha
  | inl e =>
    obtain ⟨q1, q2⟩ := hq e rfl
    have ex : some ((Sum.inl x, g, v) : bO Int32) = some (Sum.inl (zJ (-(e : Int))), g, v) := hp
    have ex : x = zJ (-(e : Int)) := by cases ex; rfl
    subst ex
    have e1 : zJ (-(e : Int)) < 0 := by rw [zJ_0, zJ_lt (by omega) (by omega) (by omega) (by omega)]; omega
    have e2 : -(zJ (-(e : Int))) = zI e := by
      have : -(zJ (-(e : Int))) = zJ (-(-(e : Int))) := (Int32.ofInt_neg (-(e : Int))).symm
      rw [this, Int.neg_neg, zI_J]
    obtain ⟨v', a1, a2, a3, a4, a5, a6⟩ := w_end0 (S := S) hM hr hS.1 h hs (zM_Q hM (show e ≤ 16 by omega))
    have h16 := h.2.1
    refine ⟨v', a2, a3, a4, a5, rfl, ?_⟩
    rw [if_pos (by simp; omega)]
    refine ⟨mg_s ?_ (Nat.le_refl _), by simpa using a6⟩
    rw [gd_t hr, if_pos e1, e2, c_small, bi_s, a1, bv_s]
    rfl
/-- behind what is done there comes more -/
theorem w_app {F : Option (bO Unit)} {g1 : Nat → Nat} {v1 : mS} {T1 s1 c0 c : Nat} {r1 : List zT} {e1 : Option zT} {sp2 : zEv} (hY : zY S g v T g1 v1 T1) (h26 : v1 26 = v 26) (hs : s ≤ s1) (hc : T1 + 280 * s + zph (l.length + r1.length) e1 ≤ T + 280 * s1 + zph l.length e0 + c0) (h : zWk S F g1 v1 T1 out (l ++ r1) e1 s1 c sp2) : zWk S F g v T out l e0 s (c0 + c) (zapp r1 sp2) := by
  obtain ⟨g', v', T', s', a1, a2, a3, a4, a5, a6⟩ := h
  refine ⟨g', v', T', s', a1, hY.tr a2, a3, by omega, a5, ?_⟩
  have hl : (l ++ r1).length = l.length + r1.length := List.length_append
  cases sp2 with
  | none =>
    obtain ⟨b1, b2⟩ := a6
    rw [hl] at b2
    exact ⟨b1, by omega⟩
  | some q =>
    obtain ⟨r, e, s2⟩ := q
    unfold zWr at a6 ⊢
    dsimp only [zapp] at a6 ⊢
    rw [hl] at a6
    rw [List.length_append]
    by_cases cc : l.length + r1.length + r.length ≤ 16
    · rw [if_pos cc] at a6
      rw [if_pos (by omega)]
      obtain ⟨b1, b2, b3, b4, b5⟩ := a6
      refine ⟨b1, by rw [← List.append_assoc]; exact b2, b3, b4.trans h26, ?_⟩
      rw [← Nat.add_assoc l.length]
      omega
    · rw [if_neg cc] at a6
      rw [if_neg (by omega)]
      obtain ⟨b1, b2⟩ := a6
      exact ⟨b1, by omega⟩
theorem zapp_ov {sp : zEv} {r : List zT} : zapp r sp = none ∨ ∃ r2 e s, zapp r sp = some (r2, e, s) ∧ r.length ≤ r2.length := by
  cases sp with
  | none => exact Or.inl rfl
  | some q => obtain ⟨r2, e, s⟩ := q; exact Or.inr ⟨_, _, _, rfl, by simp⟩
theorem w_seq {F : Option (bO Unit)} {K : Unit → (Nat → Nat) → mS → Option (bO Unit)} {c1 c2 : Nat} {sp1 : zEv} {sp2 : Option zT → Nat → zEv} (h1 : zWk S F g v T out l e0 s c1 sp1)
    (hk : ∀ (g' : Nat → Nat) (v' : mS) (T' : Nat) (r : List zT) (e : Option zT) (s1 : Nat), sp1 = some (r, e, s1) → l.length + r.length ≤ 16 → zM g' v' T' → zY S g v T g' v' T' → v' 25 5 = zI s1 → s ≤ s1 → s1 ≤ 150 → zRw v' T' out (l ++ r) e → v' 26 = v 26 → T' + 280 * s + zph (l.length + r.length) e ≤ T + 280 * s1 + zph l.length e0 + c1 → zWk S (K () g' v') g' v' T' out (l ++ r) e s1 c2 (sp2 e s1)) : zWk S (bo F K) g v T out l e0 s (c1 + c2) (zseq sp1 sp2) := by
  obtain ⟨g', v', T', s', a1, a2, a3, a4, a5, a6⟩ := h1
  cases hsp : sp1 with
  | none =>
    rw [hsp] at a6
    obtain ⟨b1, b2⟩ := a6
    rw [b1, bo_r]
    exact ⟨g', v', T', s', a1, a2, a3, a4, a5, rfl, by omega⟩
  | some w =>
    obtain ⟨r, e, s1⟩ := w
    rw [hsp] at a6
    unfold zWr at a6
    dsimp only at a6
    by_cases cl : l.length + r.length ≤ 16
    · rw [if_pos cl] at a6
      obtain ⟨b1, b2, b3, b4, b5⟩ := a6
      subst b3
      have h2 := hk g' v' T' r e s' hsp cl a1 a2 a3 a4 a5 b2 b4 b5
      have h3 := w_app a2 b4 a4 b5 h2
      have hb : bo F K = K () g' v' := by
        obtain ⟨g2, v2, T2, s2, d1, d2, d3, d4, d5, d6⟩ := h2
        obtain ⟨x, ex⟩ := zWr_some d6
        rw [b1, ex]
        exact bo_l ex d2.L
      rw [hb]
      exact h3
    · rw [if_neg cl] at a6
      obtain ⟨b1, b2⟩ := a6
      rw [b1, bo_r]
      refine ⟨g', v', T', s', a1, a2, a3, a4, a5, ?_⟩
      show zWr _ _ _ _ _ _ _ _ (zapp r (sp2 e s1)) _ _ _ _
      rcases zapp_ov (sp := sp2 e s1) (r := r) with h9 | ⟨r2, e2, s2, h9, h10⟩
      · rw [h9]; exact ⟨rfl, by omega⟩
      · rw [h9]
        unfold zWr
        dsimp only
        rw [if_neg (by omega)]
        exact ⟨rfl, by omega⟩
/-- an action that changes nothing -/
theorem w_id {F : Option (bO Unit)} {e : Option zT} (hM : zM g v T) (hs : v 25 5 = zI s) (hs150 : s ≤ 150) (h : zRw v T out l e) (hF : F = some (.inl (), g, v)) : zWk S F g v T out l e s 0 (some ([], e, s)) := by
  refine ⟨g, v, T, s, hM, zY.rf, hs, Nat.le_refl _, hs150, ?_⟩
  unfold zWr
  dsimp only
  have h16 := h.2.1
  rw [if_pos (by simpa using h16)]
  exact ⟨hF, by simpa using h, rfl, rfl, by simp⟩
theorem zWk_le {F : Option (bO Unit)} {c c' : Nat} {sp : zEv} (h : zWk S F g v T out l e0 s c sp) (hc : c ≤ c') : zWk S F g v T out l e0 s c' sp := by
  obtain ⟨g', v', T', s', h1, h2, h3, h4, h5, h6⟩ := h
  refine ⟨g', v', T', s', h1, h2, h3, h4, h5, ?_⟩
  cases sp with
  | none => exact ⟨h6.1, by have := h6.2; omega⟩
  | some q =>
    obtain ⟨r, e, s1⟩ := q
    unfold zWr at h6 ⊢
    dsimp only at h6 ⊢
    by_cases cc : l.length + r.length ≤ 16
    · rw [if_pos cc] at h6 ⊢
      exact ⟨h6.1, h6.2.1, h6.2.2.1, h6.2.2.2.1, by have := h6.2.2.2.2; omega⟩
    · rw [if_neg cc] at h6 ⊢
      exact ⟨h6.1, by have := h6.2; omega⟩
/-- cells are made, then a value or an error is given -/
theorem w_giveP {F : Option (bO Int32)} {K : Int32 → (Nat → Nat) → mS → Option (bO Unit)} {c : Nat} {sp : Option (Nat ⊕ zT)} (hM : zM g v T) (hr : rowB out = true) (hS : S out ∧ S (out + 1)) (h : zRw v T out l none) (hs : v 25 5 = zI s) (hs150 : s ≤ 150) (hp : zP F g v T c sp) (hc : c ≤ 16) (hq : ∀ e, sp = some (.inl e) → 1 ≤ e ∧ e ≤ 2)
    (hK : ∀ (x : Int32) (g' : Nat → Nat) (v' : mS) (T' : Nat) (q : Nat ⊕ zT), sp = some q → zPr (some (.inl x, g', v')) g' v' T' (some q) → zM g' v' T' → zRw v' T' out l none → v' 25 5 = zI s → zWo S (K x g' v') g' v' T' out l s (zgv (some q) s)) : zWk S (bo F K) g v T out l none s 0 (zgv sp s) := by
  obtain ⟨r1, r2, r3⟩ := rowB_r hr
  obtain ⟨g', v', T', m, e, hT, p⟩ := hp
  have hl16 := h.2.1
  have h5 : v' 25 5 = zI s := by rw [e.2.2.2.2.2 25 (by decide) (by decide) (by decide) (by decide)]; exact hs
  have h26 : v' 26 = v 26 := e.2.2.2.2.2 26 (by decide) (by decide) (by decide) (by decide)
  have hw : zRw v' T' out l none := zRw_up h (e.2.2.2.2.2 out (by omega) (by omega) (by omega) (by omega)) (e.2.2.2.2.2 (out + 1) (by omega) (by omega) (by omega) (by omega)) e.2.2.2.2.1 e.1
  have key : ∀ (x : Int32) (q : Nat ⊕ zT), sp = some q → F = some (.inl x, g', v') → zPr (some (.inl x, g', v')) g' v' T' (some q) → zWk S (bo F K) g v T out l none s 0 (zgv sp s) := by
    intro x q hsp hF hpr
    obtain ⟨v2, b1, b2, b3, b4, b5⟩ := hK x g' v' T' q hsp hpr m hw h5
    have hsome : ∃ y, K x g' v' = some (y, g', v2) := by
      cases hz : zgv (some q) s with
      | none => rw [hz] at b5; exact ⟨_, b5⟩
      | some w =>
        obtain ⟨r, e1, s1⟩ := w
        rw [hz] at b5
        obtain ⟨-, b5⟩ := b5
        split at b5
        · exact ⟨_, b5.1⟩
        · exact ⟨_, b5⟩
    obtain ⟨y, ey⟩ := hsome
    have hb : bo F K = K x g' v' := by
      rw [hF, ey]
      exact bo_l ey (Nat.le_refl _)
    rw [hb, hsp]
    refine ⟨g', v2, T', s, b1, (e.Y).tr b2, b3, Nat.le_refl _, hs150, ?_⟩
    cases q with
    | inl e1 =>
      obtain ⟨b6, b7⟩ := b5
      unfold zWr zgv
      dsimp only
      rw [if_pos (by simpa using hl16)] at b7 ⊢
      refine ⟨b7.1, b7.2, rfl, b4.trans h26, ?_⟩
      simp only [zph]
      omega
    | inr t1 =>
      obtain ⟨b6, b7⟩ := b5
      unfold zWr zgv
      dsimp only
      by_cases cc : l.length + [t1].length ≤ 16
      · rw [if_pos cc] at b7 ⊢
        refine ⟨b7.1, b7.2, rfl, b4.trans h26, ?_⟩
        simp only [zph, List.length_cons, List.length_nil] at cc ⊢
        omega
      · rw [if_neg cc] at b7 ⊢
        refine ⟨b7, ?_⟩
        simp only [zph]
        omega
  cases sp with
  | none =>
    have hF : F = some (.inr 3, g', v') := p
    rw [hF, bo_r]
    refine ⟨g', v', T', s, m, e.Y, h5, Nat.le_refl _, hs150, rfl, ?_⟩
    simp only [zph]
    omega
  | some q =>
    cases q with
    | inl e1 => exact key _ _ rfl p rfl
    | inr t1 =>
      obtain ⟨a1, pF, pv⟩ := p
      exact key _ _ rfl pF ⟨a1, rfl, pv⟩
end CS
