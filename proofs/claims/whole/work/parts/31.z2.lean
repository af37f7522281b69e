/-! pure theory, 2: values as trees: a function from paths to labels (kind, number in millionths, length, SIZE, DEPTH, letters, names) -/
abbrev zN : Type := Nat × (Nat → Nat)
abbrev zL : Type := Nat × Int × Nat × Nat × Nat × (Nat → Nat) × (Nat → zN)
abbrev zT : Type := List Nat → zL
def zk (t : zT) : Nat := (t []).1
def zv (t : zT) : Int := (t []).2.1
def zl (t : zT) : Nat := (t []).2.2.1
def zs (t : zT) : Nat := (t []).2.2.2.1
def zd (t : zT) : Nat := (t []).2.2.2.2.1
def zx (t : zT) : Nat → Nat := (t []).2.2.2.2.2.1
def zm (t : zT) : Nat → zN := (t []).2.2.2.2.2.2
def zc (t : zT) (k : Nat) : zT := fun p => t (k :: p)
def zsm (f : Nat → Nat) : Nat → Nat
  | 0 => 0
  | n + 1 => zsm f n + f n
def zmx (f : Nat → Nat) : Nat → Nat
  | 0 => 0
  | n + 1 => if zmx f n < f n then f n else zmx f n
def zW (k : Nat) : zT := fun _ => (k, 0, 0, 1, 0, fun _ => 0, fun _ => (0, fun _ => 0))
def zQ (m : Int) : zT := fun _ => (3, m, 0, 1, 0, fun _ => 0, fun _ => (0, fun _ => 0))
def zX (x : zN) : zT := fun _ => (4, 0, x.1, 1, 0, x.2, fun _ => (0, fun _ => 0))
def zA (n : Nat) (f : Nat → zT) : zT := fun p => match p with
  | [] => (5, 0, n, 1 + zsm (fun k => zs (f k)) n, 1 + zmx (fun k => zd (f k)) n, fun _ => 0, fun _ => (0, fun _ => 0))
  | k :: p => f k p
def zO (n : Nat) (nf : Nat → zN) (f : Nat → zT) : zT := fun p => match p with
  | [] => (6, 0, n, 1 + zsm (fun k => zs (f k)) n, 1 + zmx (fun k => zd (f k)) n, fun _ => 0, nf)
  | k :: p => f k p
theorem zc_A (n : Nat) (f : Nat → zT) (k : Nat) : zc (zA n f) k = f k := rfl
theorem zc_O (n : Nat) (nf : Nat → zN) (f : Nat → zT) (k : Nat) : zc (zO n nf f) k = f k := rfl
theorem zsm_eq {f f' : Nat → Nat} {n : Nat} (h : ∀ k, k < n → f' k = f k) : zsm f' n = zsm f n := by
  induction n with
  | zero => rfl
  | succ n ih => simp only [zsm]; rw [ih (fun k hk => h k (by omega)), h n (by omega)]
theorem zmx_eq {f f' : Nat → Nat} {n : Nat} (h : ∀ k, k < n → f' k = f k) : zmx f' n = zmx f n := by
  induction n with
  | zero => rfl
  | succ n ih => simp only [zmx]; rw [ih (fun k hk => h k (by omega)), h n (by omega)]
theorem zsm_ge {f : Nat → Nat} {n k : Nat} (h : k < n) : f k ≤ zsm f n := by
  induction n with
  | zero => omega
  | succ n ih =>
    simp only [zsm]
    by_cases hk : k = n
    · subst hk; omega
    · have := ih (by omega); omega
theorem zsm_mono {f : Nat → Nat} {n m : Nat} (h : n ≤ m) : zsm f n ≤ zsm f m := by
  induction m with
  | zero => have : n = 0 := by omega
            subst this; exact Nat.le_refl _
  | succ m ih =>
    by_cases hm : n = m + 1
    · subst hm; exact Nat.le_refl _
    · have := ih (by omega); simp only [zsm]; omega
theorem zmx_ge {f : Nat → Nat} {n k : Nat} (h : k < n) : f k ≤ zmx f n := by
  induction n with
  | zero => omega
  | succ n ih =>
    simp only [zmx]
    by_cases hk : k = n
    · subst hk; split <;> omega
    · have := ih (by omega); split <;> omega
theorem zmx_le {f : Nat → Nat} {n m : Nat} (h : ∀ k, k < n → f k ≤ m) : zmx f n ≤ m := by
  induction n with
  | zero => exact Nat.zero_le _
  | succ n ih =>
    simp only [zmx]
    have h1 := ih (fun k hk => h k (by omega))
    have h2 := h n (by omega)
    split <;> omega
/-- stripping zeros: (M, S) of so many units of 10 ^ -n -/
def zred : Nat → Int → Int × Nat
  | 0, m => (m, 0)
  | s + 1, m => if m % 10 = 0 then zred s (m / 10) else (m, s + 1)
def zokN (m : Int) : Prop := -999999999 ≤ (zred 6 m).1 ∧ (zred 6 m).1 ≤ 999999999
def ztx (a : zN) : Prop := a.1 ≤ 12 ∧ ∀ k, k < a.1 → 32 ≤ a.2 k ∧ a.2 k ≤ 126
def zsg (d : Int) : Int := if d < 0 then -1 else if 0 < d then 1 else 0
def zlex (f : Nat → Int) (e : Int) : Nat → Nat → Int
  | 0, _ => e
  | m + 1, i => if f i = 0 then zlex f e m (i + 1) else f i
def zct (a b : zN) : Int := zlex (fun k => zsg ((a.2 k : Int) - b.2 k)) (zsg ((a.1 : Int) - b.1)) (min a.1 b.1) 0
def zcn (a b : zT) : Int := zlex (fun k => zct (zm a k) (zm b k)) (zsg ((zl a : Int) - zl b)) (min (zl a) (zl b)) 0
def zcmp : Nat → zT → zT → Int
  | 0, _, _ => 0
  | n + 1, a, b => if zk a = zk b then
      (if zk a = 3 then zsg (zv a - zv b) else if zk a = 4 then zct (zl a, zx a) (zl b, zx b)
      else if zk a = 5 then zlex (fun k => zcmp n (zc a k) (zc b k)) (zsg ((zl a : Int) - zl b)) (min (zl a) (zl b)) 0
      else if zk a = 6 then (if zcn a b = 0 then zlex (fun k => zcmp n (zc a k) (zc b k)) (zsg ((zl a : Int) - zl b)) (min (zl a) (zl b)) 0 else zcn a b) else 0)
    else zsg ((zk a : Int) - zk b)
theorem zsg_r (d : Int) : zsg d = -1 ∨ zsg d = 0 ∨ zsg d = 1 := by unfold zsg; repeat (first | (split) | omega)
theorem zlex_r {f : Nat → Int} {e : Int} (hf : ∀ k, f k = -1 ∨ f k = 0 ∨ f k = 1) (he : e = -1 ∨ e = 0 ∨ e = 1) : ∀ (m i : Nat), zlex f e m i = -1 ∨ zlex f e m i = 0 ∨ zlex f e m i = 1 := by
  intro m
  induction m with
  | zero => intro i; exact he
  | succ m ih => intro i; simp only [zlex]; split <;> first | exact ih _ | exact hf i
theorem zct_r (a b : zN) : zct a b = -1 ∨ zct a b = 0 ∨ zct a b = 1 := zlex_r (fun _ => zsg_r _) (zsg_r _) _ _
theorem zcn_r (a b : zT) : zcn a b = -1 ∨ zcn a b = 0 ∨ zcn a b = 1 := zlex_r (fun _ => zct_r _ _) (zsg_r _) _ _
theorem zcmp_r : ∀ (n : Nat) (a b : zT), zcmp n a b = -1 ∨ zcmp n a b = 0 ∨ zcmp n a b = 1 := by
  intro n
  induction n with
  | zero => intro a b; exact Or.inr (Or.inl rfl)
  | succ n ih =>
    intro a b
    simp only [zcmp]
    split
    · split
      · exact zsg_r _
      · split
        · exact zct_r _ _
        · split
          · exact zlex_r (fun _ => ih _ _) (zsg_r _) _ _
          · split
            · split
              · exact zlex_r (fun _ => ih _ _) (zsg_r _) _ _
              · exact zcn_r _ _
            · exact Or.inr (Or.inl rfl)
    · exact zsg_r _
theorem zlex_eq {f f' : Nat → Int} {e : Int} : ∀ (m i : Nat), (∀ k, i ≤ k → k < i + m → f' k = f k) → zlex f' e m i = zlex f e m i := by
  intro m
  induction m with
  | zero => intro i _; rfl
  | succ m ih =>
    intro i h
    simp only [zlex]
    rw [h i (by omega) (by omega), ih (i + 1) (fun k h1 h2 => h k (by omega) (by omega))]
/-- what a value must be: kinds, limits, SIZE and DEPTH, rising names -/
def zwf : Nat → zT → Prop
  | 0, _ => False
  | n + 1, t => zk t ≤ 6 ∧ zs t ≤ 24 ∧ zd t ≤ 5
    ∧ (zk t < 5 → zs t = 1 ∧ zd t = 0)
    ∧ (zk t < 4 → zl t = 0)
    ∧ (zk t = 3 → zokN (zv t))
    ∧ (zk t = 4 → ztx (zl t, zx t))
    ∧ (5 ≤ zk t → zs t = 1 + zsm (fun k => zs (zc t k)) (zl t) ∧ zd t = 1 + zmx (fun k => zd (zc t k)) (zl t) ∧ ∀ k, k < zl t → zwf n (zc t k))
    ∧ (zk t = 5 → zl t ≤ 12)
    ∧ (zk t = 6 → zl t ≤ 6 ∧ (∀ k, k < zl t → ztx (zm t k)) ∧ ∀ k, k + 1 < zl t → zct (zm t k) (zm t (k + 1)) = -1)
theorem zwf_lv : ∀ (n m : Nat) (t : zT), zwf n t → zd t < m → zwf m t := by
  intro n
  induction n with
  | zero => intro m t h _; exact h.elim
  | succ n ih =>
    intro m t h hd
    obtain ⟨m, rfl, hm⟩ := suc_of hd
    obtain ⟨h1, h2, h3, h4, h5, h6, h7, h8, h9, h10⟩ := h
    refine ⟨h1, h2, h3, h4, h5, h6, h7, fun hk => ?_, h9, h10⟩
    obtain ⟨a, b, c⟩ := h8 hk
    refine ⟨a, b, fun k hkl => ih m _ (c k hkl) ?_⟩
    have := zmx_ge (f := fun k => zd (zc t k)) hkl
    try dsimp only at this
    omega
theorem zwf_6 {n : Nat} {t : zT} (h : zwf n t) : zwf 6 t := by
  refine zwf_lv n 6 t h ?_
  cases n with
  | zero => exact h.elim
  | succ n => have := h.2.2.1; omega
theorem zwf_s1 : ∀ (n : Nat) (t : zT), zwf n t → 1 ≤ zs t := by
  intro n t h
  cases n with
  | zero => exact h.elim
  | succ n =>
    obtain ⟨h1, h2, h3, h4, h5, h6, h7, h8, h9, h10⟩ := h
    by_cases hk : zk t < 5
    · have := (h4 hk).1; omega
    · have := (h8 (by omega)).1; omega
theorem zwf_l {n : Nat} {t : zT} (h : zwf n t) : zl t ≤ 12 := by
  cases n with
  | zero => exact h.elim
  | succ n =>
    obtain ⟨h1, h2, h3, h4, h5, h6, h7, h8, h9, h10⟩ := h
    by_cases hk : zk t < 4
    · have := h5 hk; omega
    · by_cases hk4 : zk t = 4
      · exact (h7 hk4).1
      · by_cases hk5 : zk t = 5
        · exact h9 hk5
        · have := (h10 (by omega)).1; omega
/-- the class's cells: a value stands at a place -/
def zRX (c : Nat → Int32) (top a : Nat) (x : zN) : Prop := a + 4 + x.1 ≤ top ∧ c a = zI 4 ∧ c (a + 1) = zI x.1 ∧ c (a + 2) = zI 1 ∧ c (a + 3) = zI 0 ∧ (∀ k, k < x.1 → c (a + 4 + k) = zI (x.2 k)) ∧ (a < 118 → a + 4 + x.1 ≤ 118)
def zRC (c : Nat → Int32) (top : Nat) : Nat → Nat → zT → Prop
  | 0, _, _ => False
  | n + 1, a, t => a + 4 ≤ top ∧ c a = zI (zk t) ∧ c (a + 1) = zI (zl t) ∧ c (a + 2) = zI (zs t) ∧ c (a + 3) = zI (zd t)
    ∧ (zk t = 3 → a + 6 ≤ top ∧ c (a + 4) = zJ (zred 6 (zv t)).1 ∧ c (a + 5) = zI (zred 6 (zv t)).2)
    ∧ (zk t = 4 → a + 4 + zl t ≤ top ∧ ∀ k, k < zl t → c (a + 4 + k) = zI (zx t k))
    ∧ (5 ≤ zk t → a + 4 + zl t ≤ top ∧ ∀ k, k < zl t → ∃ b, c (a + 4 + k) = zI b ∧ zRC c top n b (zc t k))
    ∧ (zk t = 6 → a + 4 + 2 * zl t ≤ top ∧ ∀ k, k < zl t → ∃ b, c (a + 4 + zl t + k) = zI b ∧ zRX c top b (zm t k))
    ∧ (a < 118 → zk t < 5 ∧ a + 4 + zl t ≤ 118 ∧ (zk t = 3 → a + 6 ≤ 118))
theorem zRX_up {c c' : Nat → Int32} {top top' a : Nat} {x : zN} (h : zRX c top a x) (hc : ∀ i, i < top → c' i = c i) (ht : top ≤ top') : zRX c' top' a x := by
  obtain ⟨h1, h2, h3, h4, h5, h6, h7⟩ := h
  refine ⟨by omega, ?_, ?_, ?_, ?_, fun k hk => ?_, h7⟩
  · rw [hc _ (by omega)]; exact h2
  · rw [hc _ (by omega)]; exact h3
  · rw [hc _ (by omega)]; exact h4
  · rw [hc _ (by omega)]; exact h5
  · rw [hc _ (by omega)]; exact h6 k hk
theorem zRC_up {c c' : Nat → Int32} {top top' : Nat} (hc : ∀ i, i < top → c' i = c i) (ht : top ≤ top') : ∀ (n a : Nat) (t : zT), zRC c top n a t → zRC c' top' n a t := by
  intro n
  induction n with
  | zero => intro a t h; exact h.elim
  | succ n ih =>
    intro a t h
    obtain ⟨h1, h2, h3, h4, h5, h6, h7, h8, h9, h10⟩ := h
    refine ⟨by omega, ?_, ?_, ?_, ?_, fun hk => ?_, fun hk => ?_, fun hk => ?_, fun hk => ?_, h10⟩
    · rw [hc _ (by omega)]; exact h2
    · rw [hc _ (by omega)]; exact h3
    · rw [hc _ (by omega)]; exact h4
    · rw [hc _ (by omega)]; exact h5
    · obtain ⟨x, y, z⟩ := h6 hk
      refine ⟨by omega, ?_, ?_⟩
      · rw [hc _ (by omega)]; exact y
      · rw [hc _ (by omega)]; exact z
    · obtain ⟨x, y⟩ := h7 hk
      refine ⟨by omega, fun k hkl => ?_⟩
      rw [hc _ (by omega)]; exact y k hkl
    · obtain ⟨x, y⟩ := h8 hk
      refine ⟨by omega, fun k hkl => ?_⟩
      obtain ⟨b, e, r⟩ := y k hkl
      exact ⟨b, by rw [hc _ (by omega)]; exact e, ih _ _ r⟩
    · obtain ⟨x, y⟩ := h9 hk
      refine ⟨by omega, fun k hkl => ?_⟩
      obtain ⟨b, e, r⟩ := y k hkl
      exact ⟨b, by rw [hc _ (by omega)]; exact e, zRX_up r hc ht⟩
theorem zRC_lv {c : Nat → Int32} {top : Nat} : ∀ (m n n' a : Nat) (t : zT), zwf m t → zRC c top n a t → m ≤ n' → zRC c top n' a t := by
  intro m
  induction m with
  | zero => intro n n' a t h _ _; exact h.elim
  | succ m ih =>
    intro n n' a t h hr hn
    obtain ⟨n', rfl, hm⟩ := suc_of (show m < n' by omega)
    cases n with
    | zero => exact hr.elim
    | succ n =>
      obtain ⟨h1, h2, h3, h4, h5, h6, h7, h8, h9, h10⟩ := hr
      refine ⟨h1, h2, h3, h4, h5, h6, h7, fun hk => ?_, h9, h10⟩
      refine ⟨(h8 hk).1, fun k hkl => ?_⟩
      obtain ⟨b, e, r⟩ := (h8 hk).2 k hkl
      have hw := (h.2.2.2.2.2.2.2.1 hk).2.2 k hkl
      exact ⟨b, e, ih _ _ _ _ hw r hm⟩
def zV (c : Nat → Int32) (top a : Nat) (t : zT) : Prop := zRC c top 6 a t ∧ zwf 6 t
theorem zV_up {c c' : Nat → Int32} {top top' a : Nat} {t : zT} (h : zV c top a t) (hc : ∀ i, i < top → c' i = c i) (ht : top ≤ top') : zV c' top' a t := ⟨zRC_up hc ht _ _ _ h.1, h.2⟩
theorem zV_kid {c : Nat → Int32} {top a : Nat} {t : zT} (h : zV c top a t) (hk : 5 ≤ zk t) {k : Nat} (hkl : k < zl t) : ∃ b, c (a + 4 + k) = zI b ∧ zV c top b (zc t k) := by
  obtain ⟨hr, hw⟩ := h
  obtain ⟨b, e, r⟩ := (hr.2.2.2.2.2.2.2.1 hk).2 k hkl
  have w := (hw.2.2.2.2.2.2.2.1 hk).2.2 k hkl
  exact ⟨b, e, zRC_lv 5 5 6 _ _ w r (by omega), zwf_6 w⟩
theorem zV_name {c : Nat → Int32} {top a : Nat} {t : zT} (h : zV c top a t) (hk : zk t = 6) {k : Nat} (hkl : k < zl t) : ∃ b, c (a + 4 + zl t + k) = zI b ∧ zRX c top b (zm t k) ∧ ztx (zm t k) := by
  obtain ⟨hr, hw⟩ := h
  obtain ⟨b, e, r⟩ := (hr.2.2.2.2.2.2.2.2.1 hk).2 k hkl
  exact ⟨b, e, r, (hw.2.2.2.2.2.2.2.2.2 hk).2.1 k hkl⟩
theorem zV_head {c : Nat → Int32} {top a : Nat} {t : zT} (h : zV c top a t) : a + 4 ≤ top ∧ c a = zI (zk t) ∧ c (a + 1) = zI (zl t) ∧ c (a + 2) = zI (zs t) ∧ c (a + 3) = zI (zd t) := ⟨h.1.1, h.1.2.1, h.1.2.2.1, h.1.2.2.2.1, h.1.2.2.2.2.1⟩
theorem zV_X {c : Nat → Int32} {top a : Nat} {x : zN} (h : zRX c top a x) (hx : ztx x) : zV c top a (zX x) := by
  obtain ⟨h1, h2, h3, h4, h5, h6, h7⟩ := h
  have k4 : zk (zX x) = 4 := rfl
  have s1 : zs (zX x) = 1 := rfl
  have d0 : zd (zX x) = 0 := rfl
  have l0 : zl (zX x) = x.1 := rfl
  exact ⟨⟨by omega, h2, h3, h4, h5, fun hk => absurd hk (by omega), fun _ => ⟨h1, h6⟩, fun hk => absurd hk (by omega), fun hk => absurd hk (by omega), fun ha => ⟨by omega, by have := h7 ha; omega, fun hk => absurd hk (by omega)⟩⟩, ⟨by omega, by omega, by omega, fun _ => ⟨s1, d0⟩, fun hk => absurd hk (by omega), fun hk => absurd hk (by omega), fun _ => hx, fun hk => absurd hk (by omega), fun hk => absurd hk (by omega), fun hk => absurd hk (by omega)⟩⟩
theorem zX_V {c : Nat → Int32} {top a : Nat} {t : zT} (h : zV c top a t) (hk : zk t = 4) : zRX c top a (zl t, zx t) ∧ ztx (zl t, zx t) := by
  obtain ⟨hr, hw⟩ := h
  obtain ⟨h1, h2, h3, h4, h5, h6, h7, h8, h9, h10⟩ := hr
  have a1 := (hw.2.2.2.1 (by omega)).1
  have a2 := (hw.2.2.2.1 (by omega)).2
  refine ⟨⟨(h7 hk).1, ?_, h3, ?_, ?_, (h7 hk).2, fun ha => (h10 ha).2.1⟩, hw.2.2.2.2.2.2.1 hk⟩
  · rw [h2, hk]
  · rw [h4, a1]
  · rw [h5, a2]
