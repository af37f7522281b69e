/-! what sums, differences .. of trees are -/
def zaddX (x y : zN) : zN := (x.1 + y.1, fun k => if k < x.1 then x.2 k else y.2 (k - x.1))
def zcat (n : Nat) (x y : Nat → zT) : Nat → zT := fun k => if k < n then x k else y (k - n)
abbrev zMr : Type := Nat × (Nat → zN) × (Nat → zT)
def zmc (x y : zT) (i j : Nat) : Int := if j = zl y then -1 else if i = zl x then 1 else zct (zm x i) (zm y j)
def zmrg (x y : zT) : Nat → Nat → Nat → zMr → zMr
  | 0, _, _, r => r
  | m + 1, i, j, r => if i < zl x ∨ j < zl y then
      zmrg x y m (if zmc x y i j ≤ 0 then i + 1 else i) (if 0 ≤ zmc x y i j then j + 1 else j) (r.1 + 1, va_up r.2.1 r.1 (if zmc x y i j < 0 then zm x i else zm y j), va_up r.2.2 r.1 (if zmc x y i j < 0 then zc x i else zc y j))
    else r
def zM0 : zMr := (0, fun _ => (0, fun _ => 0), fun _ => zW 0)
def zmer (x y : zT) : zMr := zmrg x y 12 0 0 zM0
def zadd (x y : zT) : Option (Nat ⊕ zT) := if zk x = 0 then some (.inr y) else if zk y = 0 then some (.inr x) else if zk x = zk y then
    (if zk x = 3 then zmkN (zv x + zv y) else if zk x = 4 then zmkX (zaddX (zl x, zx x) (zl y, zx y)) else if zk x = 5 then zmkA (zl x + zl y) (zcat (zl x) (zc x) (zc y))
    else if zk x = 6 then zmkO (zmer x y).1 (zmer x y).2.1 (zmer x y).2.2 else some (.inl 1))
  else some (.inl 1)
def zhit (t y : zT) : Nat → Bool
  | 0 => false
  | m + 1 => zhit t y m || decide (zcmp 6 t (zc y m) = 0)
def zwo (x y : zT) : Nat → Nat × (Nat → zT)
  | 0 => (0, fun _ => zW 0)
  | k + 1 => if zhit (zc x k) y (zl y) = true then zwo x y k else ((zwo x y k).1 + 1, va_up (zwo x y k).2 (zwo x y k).1 (zc x k))
def zsub (x y : zT) : Option (Nat ⊕ zT) := if zk x = 3 ∧ zk y = 3 then zmkN (zv x - zv y) else if zk x = 5 ∧ zk y = 5 then zmkA (zwo x y (zl x)).1 (zwo x y (zl x)).2 else some (.inl 1)
def zmul (x y : zT) : Option (Nat ⊕ zT) := if zk x = 3 ∧ zk y = 3 then znum ((zred 6 (zv x)).2 + (zred 6 (zv y)).2) ((zred 6 (zv x)).1 * (zred 6 (zv y)).1) else some (.inl 1)
def zrem (x y : zT) : Option (Nat ⊕ zT) := if zk x = 3 ∧ zk y = 3 then (if (zv y).tdiv 1000000 = 0 then some (.inl 2) else zmkN (((zv x).tdiv 1000000).tmod ((zv y).tdiv 1000000) * 1000000)) else some (.inl 1)
def zsuml (t : zT) : Nat → Option (Nat ⊕ zT)
  | 0 => some (.inr (zW 0))
  | k + 1 => match zsuml t k with
    | some (.inr z) => zadd z (zc t k)
    | some (.inl e) => some (.inl e)
    | none => none
def zsum (t : zT) : Option (Nat ⊕ zT) := if zk t = 5 then zsuml t (zl t) else some (.inl 1)
def zlen (t : zT) : Option (Nat ⊕ zT) := if zk t = 1 ∨ zk t = 2 then some (.inl 1) else if zk t = 3 then zmkN (if zv t < 0 then -zv t else zv t) else some (.inr (zQ ((zl t : Int) * 1000000)))
def zkeys (t : zT) : Option (Nat ⊕ zT) := if zk t < 5 then some (.inl 1) else zmkA (zl t) (fun k => if zk t = 6 then zX (zm t k) else zQ ((k : Int) * 1000000))
def zplace (f : Nat → zT) (x : zT) : Nat → Nat
  | 0 => 0
  | p + 1 => if 0 < zcmp 6 (f p) x then zplace f x p else p + 1
def zins (f : Nat → zT) (x : zT) (k : Nat) : Nat → zT := fun j => if j < zplace f x k then f j else if j = zplace f x k then x else f (j - 1)
def zsrt (t : zT) : Nat → (Nat → zT)
  | 0 => fun _ => zW 0
  | k + 1 => zins (zsrt t k) (zc t k) k
def zsort (t : zT) : Option (Nat ⊕ zT) := if zk t = 5 then zmkA (zl t) (zsrt t (zl t)) else some (.inl 1)
def zflr (t : zT) : Option (Nat ⊕ zT) := if zk t = 3 then zmkN (zv t / 1000000 * 1000000) else some (.inl 1)
/-- the place of a name, from i on among m -/
def zmem (t : zT) (x : zN) : Nat → Nat → Option Nat
  | 0, _ => none
  | m + 1, i => if zct (zm t i) x = 0 then some i else zmem t x m (i + 1)
def zfld (t : zT) (x : zN) : Nat ⊕ zT := if zk t = 0 then .inr (zW 0) else if zk t = 6 then (match zmem t x (zl t) 0 with | some k => .inr (zc t k) | none => .inr (zW 0)) else .inl 1
def zidx (t i : zT) : Nat ⊕ zT := if zk t = 0 then .inr (zW 0) else if zk t = 6 ∧ zk i = 4 then (match zmem t (zl i, zx i) (zl t) 0 with | some k => .inr (zc t k) | none => .inr (zW 0))
  else if zk t = 5 ∧ zk i = 3 then (if 0 ≤ (if zv i / 1000000 < 0 then zv i / 1000000 + zl t else zv i / 1000000) ∧ (if zv i / 1000000 < 0 then zv i / 1000000 + zl t else zv i / 1000000) < zl t then .inr (zc t (if zv i / 1000000 < 0 then zv i / 1000000 + zl t else zv i / 1000000).toNat) else .inr (zW 0)) else .inl 1
def ztr (b : Bool) : zT := if b then zW 2 else zW 1
def zhas (t i : zT) : Nat ⊕ zT := if zk t = 6 ∧ zk i = 4 then .inr (ztr (zmem t (zl i, zx i) (zl t) 0).isSome) else if zk t = 5 ∧ zk i = 3 then .inr (ztr (decide (0 ≤ zv i / 1000000 ∧ zv i / 1000000 < zl t))) else .inl 1
/-- texts alike have the same letters -/
theorem zlex_0 {f : Nat → Int} {e : Int} : ∀ (m i : Nat), zlex f e m i = 0 → (∀ k, i ≤ k → k < i + m → f k = 0) ∧ e = 0 := by
  intro m
  induction m with
  | zero => intro i h; exact ⟨fun k h1 h2 => absurd h1 (by omega), h⟩
  | succ m ih =>
    intro i h
    simp only [zlex] at h
    by_cases c : f i = 0
    · rw [if_pos c] at h
      obtain ⟨a, b⟩ := ih (i + 1) h
      refine ⟨fun k h1 h2 => ?_, b⟩
      by_cases hk : k = i
      · rw [hk]; exact c
      · exact a k (by omega) (by omega)
    · rw [if_neg c] at h
      exact absurd h c
theorem zct_0 {a b : zN} (h : zct a b = 0) : a.1 = b.1 ∧ ∀ k, k < a.1 → a.2 k = b.2 k := by
  obtain ⟨h1, h2⟩ := zlex_0 _ _ h
  have h2 : (zsg ((a.1 : Int) - b.1) = 0) := h2
  rw [zsg_0] at h2
  have e : a.1 = b.1 := by omega
  refine ⟨e, fun k hk => ?_⟩
  have h3 := h1 k (by omega) (by omega)
  have h3 : zsg ((a.2 k : Int) - b.2 k) = 0 := h3
  rw [zsg_0] at h3
  omega
theorem zsg_neg (d : Int) : zsg (-d) = - zsg d := by
  unfold zsg
  by_cases h : d < 0
  · rw [if_neg (by omega), if_pos (by omega), if_pos h]; rfl
  · by_cases h2 : 0 < d
    · rw [if_pos (by omega), if_neg h, if_pos h2]
    · rw [if_neg (by omega), if_neg (by omega), if_neg h, if_neg h2]; rfl
theorem zlex_neg {f f' : Nat → Int} {e e' : Int} (hf : ∀ k, f' k = - f k) (he : e' = - e) : ∀ (m i : Nat), zlex f' e' m i = - zlex f e m i := by
  intro m
  induction m with
  | zero => intro i; exact he
  | succ m ih =>
    intro i
    simp only [zlex]
    rw [hf i]
    by_cases c : f i = 0
    · rw [if_pos (by omega), if_pos c]; exact ih _
    · rw [if_neg (by omega), if_neg c]
theorem zct_neg (a b : zN) : zct b a = - zct a b := by
  unfold zct
  rw [Nat.min_comm b.1 a.1]
  refine zlex_neg (fun k => ?_) ?_ _ _
  · rw [← zsg_neg]; congr 1; omega
  · rw [← zsg_neg]; congr 1; omega
theorem zct_con {a b : zN} (c : zN) (h : zct a b = 0) : zct a c = zct b c := by
  obtain ⟨h1, h2⟩ := zct_0 h
  unfold zct
  rw [h1]
  refine zlex_eq _ _ (fun k _ hk => ?_)
  have : k < a.1 := by omega
  rw [h2 k this]
/-- merging: how many, and that the names rise -/
theorem zmrg_n (x y : zT) : ∀ (m i j : Nat) (r : zMr), i ≤ zl x → j ≤ zl y → (zmrg x y m i j r).1 ≤ r.1 + (zl x - i) + (zl y - j) := by
  intro m
  induction m with
  | zero => intro i j r _ _; simp only [zmrg]; omega
  | succ m ih =>
    intro i j r hi hj
    simp only [zmrg]
    by_cases c : i < zl x ∨ j < zl y
    · rw [if_pos c]
      have hc : (zmc x y i j ≤ 0 → i < zl x) ∧ (0 ≤ zmc x y i j → j < zl y) := by
        unfold zmc
        by_cases c1 : j = zl y
        · rw [if_pos c1]; omega
        · rw [if_neg c1]
          by_cases c2 : i = zl x
          · rw [if_pos c2]; omega
          · rw [if_neg c2]; omega
      have h := ih (if zmc x y i j ≤ 0 then i + 1 else i) (if 0 ≤ zmc x y i j then j + 1 else j) (r.1 + 1, va_up r.2.1 r.1 (if zmc x y i j < 0 then zm x i else zm y j), va_up r.2.2 r.1 (if zmc x y i j < 0 then zc x i else zc y j)) (by split <;> omega) (by split <;> omega)
      try dsimp only at h
      refine Nat.le_trans h ?_
      split <;> split <;> omega
    · rw [if_neg c]; omega
