/-! the class's Values: a value is moved from the cells before to the cells now -/
section CM
variable {g : Nat → Nat} {v : mS} {T a b : Nat} {t u : zT}
theorem zI_rel {p a m : Nat} : zI p - zI a + zI (a + m) = zI (p + m) := by
  rw [zI_J, zI_J, zI_J, zI_J, zJ_sub, zJ_add]
  congr 1
  omega
theorem c_mv_leaf {Kr : (Nat → Nat) → mS → Int32 → Option (bO Int32)} {kind len p c : Nat} (hk : kind < 5) (hlen : len ≤ 12) (hc : 4 + c = if kind = 3 then 6 else if kind = 6 then 4 + 2 * len else 4 + len) (ha : a + 4 + c ≤ g 5) (hg5 : g 5 ≤ 130000) (hp : p + 4 + c ≤ g 4) (hg4 : g 4 ≤ 130000) : ∀ (m q i : Nat) (v : mS), i + m = c → m < q → v 5 (a + 1) = zI len → ∃ v', f_V_moved_66 Kr q (zI a) (zI kind) (zI p) (zI (a + (4 + i))) g v = some (.inl (zI p), g, v') ∧ (∀ j, j ≠ 4 → v' j = v j) ∧ (∀ x, x < p + 4 + i ∨ p + 4 + c ≤ x → v' 4 x = v 4 x) ∧ ∀ k, i ≤ k → k < c → v' 4 (p + 4 + k) = v 5 (a + 4 + k) := by
  intro m
  induction m with
  | zero =>
    intro q i v hi hq hl
    obtain ⟨q, rfl, -⟩ := suc_of hq
    refine ⟨v, ?_, fun _ _ => rfl, fun _ _ => rfl, fun k h1 h2 => absurd h1 (by omega)⟩
    rw [f_V_moved_66, zl_1, zI_add, gd_I (by omega) (by omega), zI_toNat (by omega), hl, c_cells (by omega) (by omega), bi_s, ← hc, zI_add, iI_le (by omega) (by omega), if_pos (by omega)]
  | succ m ih =>
    intro q i v hi hq hl
    obtain ⟨q, rfl, hq⟩ := suc_of hq
    have hq := Nat.lt_of_succ_lt_succ hq
    obtain ⟨v', f1, f2, f3, f4⟩ := ih q (i + 1) (sU v 4 (p + (4 + i)) (v 5 (a + (4 + i)))) (by omega) hq (by rw [sU_j (by decide)]; exact hl)
    refine ⟨v', ?_, ?_, ?_, ?_⟩
    · rw [f_V_moved_66, zl_1, zI_add, gd_I (by omega) (by omega), zI_toNat (by omega), hl, c_cells (by omega) (by omega), bi_s, ← hc, zI_add, iI_le (by omega) (by omega), if_neg (by omega), zl_5, iI_lt (by omega) (by omega), if_pos hk, gd_I (by omega) (by omega), f_V_moved_111, zI_rel, gd_I (by omega) (by omega), nm_s, nm_s, zI_toNat (by omega), zI_toNat (by omega), zl_1, zI_add]
      exact f1
    · intro j hj
      rw [f2 j hj, sU_j hj]
    · intro x hx
      rw [f3 x (by omega), sU_k (by omega)]
    · intro k h1 h2
      by_cases c1 : k = i
      · subst c1
        rw [f3 _ (by omega), show p + 4 + k = p + (4 + k) by omega, sU_hit]
        congr 1
        omega
      · rw [f4 k (by omega) h2, sU_j (by decide)]
/-- what stands in cells whatever stands from 118 on below lo -/
def zRl (c : Nat → Int32) (lo top n a : Nat) (t : zT) : Prop := ∀ c' : Nat → Int32, (∀ i, i < 118 ∨ lo ≤ i → i < top → c' i = c i) → zRC c' top n a t
def zXl (c : Nat → Int32) (lo top a : Nat) (x : zN) : Prop := ∀ c' : Nat → Int32, (∀ i, i < 118 ∨ lo ≤ i → i < top → c' i = c i) → zRX c' top a x
theorem zRl_up {c c1 : Nat → Int32} {lo top top1 n a : Nat} {t : zT} (h : zRl c lo top n a t) (ht : top ≤ top1) (hc : ∀ i, i < 118 ∨ lo ≤ i → i < top → c1 i = c i) : zRl c1 lo top1 n a t := by
  intro c' hc'
  exact zRC_up (fun _ _ => rfl) ht n a t (h c' (fun i h1 h2 => (hc' i h1 (by omega)).trans (hc i h1 h2)))
theorem zXl_up {c c1 : Nat → Int32} {lo top top1 a : Nat} {x : zN} (h : zXl c lo top a x) (ht : top ≤ top1) (hc : ∀ i, i < 118 ∨ lo ≤ i → i < top → c1 i = c i) : zXl c1 lo top1 a x := by
  intro c' hc'
  exact zRX_up (h c' (fun i h1 h2 => (hc' i h1 (by omega)).trans (hc i h1 h2))) (fun _ _ => rfl) ht
theorem zRl_lo {c : Nat → Int32} {lo lo1 top n a : Nat} {t : zT} (h : zRl c lo top n a t) (hl : lo1 ≤ lo) : zRl c lo1 top n a t := fun c' hc' => h c' (fun i h1 h2 => hc' i (by omega) h2)
theorem zXl_lo {c : Nat → Int32} {lo lo1 top a : Nat} {x : zN} (h : zXl c lo top a x) (hl : lo1 ≤ lo) : zXl c lo1 top a x := fun c' hc' => h c' (fun i h1 h2 => hc' i (by omega) h2)
/-- a part of what is moved: a value (left) or a name (right), its cost -/
def zPl (c : Nat → Int32) (lo top n a : Nat) (y : zT ⊕ zN) : Prop := match y with
  | .inl t => zRl c lo top n a t
  | .inr x => zXl c lo top a x
def zPs (c : Nat → Int32) (top n a : Nat) (y : zT ⊕ zN) : Prop := match y with
  | .inl t => zRC c top n a t ∧ zwf n t
  | .inr x => zRX c top a x ∧ ztx x
def zPc (y : zT ⊕ zN) : Nat := match y with
  | .inl t => 34 * zs t - 18
  | .inr _ => 16
theorem zPl_up {c c1 : Nat → Int32} {lo top top1 n a : Nat} {y : zT ⊕ zN} (h : zPl c lo top n a y) (ht : top ≤ top1) (hc : ∀ i, i < 118 ∨ lo ≤ i → i < top → c1 i = c i) : zPl c1 lo top1 n a y := by
  cases y with
  | inl t => exact zRl_up h ht hc
  | inr x => exact zXl_up h ht hc
theorem zPl_lo {c : Nat → Int32} {lo lo1 top n a : Nat} {y : zT ⊕ zN} (h : zPl c lo top n a y) (hl : lo1 ≤ lo) : zPl c lo1 top n a y := by
  cases y with
  | inl t => exact zRl_lo h hl
  | inr x => exact zXl_lo h hl
/-- what a call that moves a part must do -/
def zMv (Kr : (Nat → Nat) → mS → Int32 → Option (bO Int32)) (B : Nat → Int32) (L Tb n : Nat) : Prop := ∀ (g : Nat → Nat) (v : mS) (T a : Nat) (y : zT ⊕ zN), zM g v T → v 5 = B → g 5 = L → (∀ i, i < 118 → v 4 i = B i) → zPs B Tb n a y → T + zPc y ≤ 65000 → ∃ g' v' T' p, Kr g v (zI a) = some (.inl (zI p), g', v') ∧ zM g' v' T' ∧ zE g v T g' v' T' ∧ T' ≤ T + zPc y ∧ zPl (v' 4) T T' n p y
theorem c_mv_big {Kr : (Nat → Nat) → mS → Int32 → Option (bO Int32)} {B : Nat → Int32} {L Tb n : Nat} (hK : zMv Kr B L Tb n) {kind len p c T0 : Nat} (hk5 : 5 ≤ kind) (hk : kind ≤ 6) (hlen : len ≤ 12) (hc : 4 + c = if kind = 3 then 6 else if kind = 6 then 4 + 2 * len else 4 + len) (ha : a + 4 + c ≤ L) (hL : L ≤ 130000) (h1 : B (a + 1) = zI len) (hp : p + 4 + c = T0) (h118 : 118 ≤ p) {y : Nat → zT ⊕ zN} (hy : ∀ k, k < c → ∃ b, B (a + 4 + k) = zI b ∧ zPs B Tb n b (y k)) : ∀ (m q i : Nat) (g : Nat → Nat) (v : mS) (T : Nat), i + m = c → m < q → zM g v T → T0 ≤ T → v 5 = B → g 5 = L → (∀ i, i < 118 → v 4 i = B i) → T + zsm (fun k => zPc (y (i + k))) m ≤ 65000 → (∀ k, k < i → ∃ b, v 4 (p + 4 + k) = zI b ∧ zPl (v 4) T0 T n b (y k)) → ∃ g' v' T', f_V_moved_66 Kr q (zI a) (zI kind) (zI p) (zI (a + (4 + i))) g v = some (.inl (zI p), g', v') ∧ zM g' v' T' ∧ T ≤ T' ∧ g' 5 = g 5 ∧ g' 25 = g 25 ∧ g 4 ≤ g' 4 ∧ (∀ i, i < p + 4 → v' 4 i = v 4 i) ∧ (∀ j, j ≠ 1 → j ≠ 2 → j ≠ 3 → j ≠ 4 → v' j = v j) ∧ T' ≤ T + zsm (fun k => zPc (y (i + k))) m ∧ ∀ k, k < c → ∃ b, v' 4 (p + 4 + k) = zI b ∧ zPl (v' 4) T0 T' n b (y k) := by
  intro m
  induction m with
  | zero =>
    intro q i g v T hi hq hM hT0 hB hg hb hT hd
    obtain ⟨q, rfl, -⟩ := suc_of hq
    have hic : i = c := by omega
    subst hic
    refine ⟨g, v, T, ?_, hM, Nat.le_refl _, rfl, rfl, Nat.le_refl _, fun _ _ => rfl, fun _ _ _ _ _ => rfl, by simp only [zsm]; omega, hd⟩
    rw [f_V_moved_66, zl_1, zI_add, gd_I (by omega) (by omega), zI_toNat (by omega), hB, h1, c_cells hk (by omega), bi_s, ← hc, zI_add, iI_le (by omega) (by omega), if_pos (by omega)]
  | succ m ih =>
    intro q i g v T hi hq hM hT0 hB hg hb hT hd
    obtain ⟨q, rfl, hq⟩ := suc_of hq
    have hq := Nat.lt_of_succ_lt_succ hq
    have hsm : ∀ (f : Nat → Nat) (m : Nat), zsm f (m + 1) = f 0 + zsm (fun k => f (1 + k)) m := by
      intro f m
      induction m with
      | zero => simp [zsm]
      | succ m ih2 =>
        have : zsm f (m + 1 + 1) = zsm f (m + 1) + f (m + 1) := rfl
        rw [this, ih2]
        have : zsm (fun k => f (1 + k)) (m + 1) = zsm (fun k => f (1 + k)) m + f (1 + m) := rfl
        rw [this, Nat.add_comm 1 m]
        omega
    have hs1 := hsm (fun k => zPc (y (i + k))) m
    try dsimp only at hs1
    have hi0 : zPc (y (i + 0)) = zPc (y i) := rfl
    have hs2 : (fun k => zPc (y (i + (1 + k)))) = fun k => zPc (y (i + 1 + k)) := by
      funext k; rw [Nat.add_assoc]
    rw [hs2] at hs1
    obtain ⟨b, eb, hbp⟩ := hy i (by omega)
    obtain ⟨g1, v1, T1, w, k1, k2, k3, k4, k5⟩ := hK g v T b (y i) hM hB hg hb hbp (by omega)
    obtain ⟨z1, z2, z3, z4, z5, z6⟩ := id k3
    obtain ⟨n1, n2, n3, n4, n5, n6⟩ := id k2
    obtain ⟨m1, m2, m3, m4, m5, m6⟩ := id hM
    have hw4 : ∀ x, x ≠ p + (4 + i) → sU v1 4 (p + (4 + i)) (zI w) 4 x = v1 4 x := fun x hx => sU_k hx
    obtain ⟨g2, v2, T2, f1, f2, f3, f4, f5, f6, f7, f8, f9, f10⟩ := ih q (i + 1) g1 (sU v1 4 (p + (4 + i)) (zI w)) T1 (by omega) hq (zM_w k2 (sU_j (by decide)) (fun x hx => hw4 x (by omega))) (by omega) (by rw [sU_j (by decide), z6 5 (by decide) (by decide) (by decide) (by decide)]; exact hB) (by omega) (fun x hx => by rw [hw4 x (by omega), z5 x (by omega)]; exact hb x hx) (by omega) (fun k hk => by
      by_cases c1 : k = i
      · subst c1
        refine ⟨w, by rw [show p + 4 + k = p + (4 + k) by omega]; exact sU_hit, ?_⟩
        refine zPl_up (zPl_lo k5 hT0) (Nat.le_refl _) (fun x hx hx2 => ?_)
        exact hw4 x (by omega)
      · obtain ⟨b2, eb2, hb2⟩ := hd k (by omega)
        refine ⟨b2, ?_, ?_⟩
        · rw [hw4 _ (by omega), z5 _ (by omega)]; exact eb2
        · refine zPl_up hb2 z1 (fun x hx hx2 => ?_)
          rw [hw4 x (by omega), z5 x hx2])
    refine ⟨g2, v2, T2, ?_, f2, by omega, by omega, by omega, by omega, fun x hx => ?_, fun j j1 j2 j3 j4 => ?_, by omega, f10⟩
    · rw [f_V_moved_66, zl_1, zI_add, gd_I (by omega) (by omega), zI_toNat (by omega), hB, h1, c_cells hk (by omega), bi_s, ← hc, zI_add, iI_le (by omega) (by omega), if_neg (by omega), zl_5, iI_lt (by omega) (by omega), if_neg (by omega), gd_I (by omega) (by omega), zI_toNat (by omega), hB, show a + (4 + i) = a + 4 + i by omega, eb, k1]
      refine bo_l ?_ ?_
      · rw [f_V_moved_101, f_V_moved_111, show a + 4 + i = a + (4 + i) by omega, zI_rel, gd_I (by omega) (by omega), nm_s, nm_s, zI_toNat (by omega), zl_1, zI_add]
        exact f1
      · show gL g1 ≤ gL g2
        unfold gL
        omega
    · rw [f7 x hx, hw4 x (by omega), z5 x (by omega)]
    · rw [f8 j j1 j2 j3 j4, sU_j j4, z6 j j1 j2 j3 j4]
theorem zRC_118 {c : Nat → Int32} {top n a : Nat} {t : zT} (h : zRC c top n a t) (ha : a < 118) {c' : Nat → Int32} {top' : Nat} (hc : ∀ i, i < 118 → c' i = c i) (ht : 118 ≤ top') : zRC c' top' n a t := by
  cases n with
  | zero => exact h.elim
  | succ n =>
    obtain ⟨h1, h2, h3, h4, h5, h6, h7, h8, h9, h10⟩ := h
    obtain ⟨p1, p2, p3⟩ := h10 ha
    refine ⟨by omega, ?_, ?_, ?_, ?_, fun hk => ?_, fun hk => ?_, fun hk => absurd hk (by omega), fun hk => absurd hk (by omega), h10⟩
    · rw [hc _ (by omega)]; exact h2
    · rw [hc _ (by omega)]; exact h3
    · rw [hc _ (by omega)]; exact h4
    · rw [hc _ (by omega)]; exact h5
    · obtain ⟨x, y, z⟩ := h6 hk
      have p3 := p3 hk
      refine ⟨by omega, ?_, ?_⟩
      · rw [hc _ (by omega)]; exact y
      · rw [hc _ (by omega)]; exact z
    · obtain ⟨x, y⟩ := h7 hk
      refine ⟨by omega, fun k hkl => ?_⟩
      rw [hc _ (by omega)]; exact y k hkl
theorem zRX_118 {c : Nat → Int32} {top a : Nat} {x : zN} (h : zRX c top a x) (ha : a < 118) {c' : Nat → Int32} {top' : Nat} (hc : ∀ i, i < 118 → c' i = c i) (ht : 118 ≤ top') : zRX c' top' a x := by
  obtain ⟨h1, h2, h3, h4, h5, h6, h7⟩ := h
  have p := h7 ha
  refine ⟨by omega, ?_, ?_, ?_, ?_, fun k hk => ?_, h7⟩
  · rw [hc _ (by omega)]; exact h2
  · rw [hc _ (by omega)]; exact h3
  · rw [hc _ (by omega)]; exact h4
  · rw [hc _ (by omega)]; exact h5
  · rw [hc _ (by omega)]; exact h6 k hk
end CM
