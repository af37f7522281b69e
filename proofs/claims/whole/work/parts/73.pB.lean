/-! the reference: right and partOf -/
def zpar (op : Nat → Nat) (n : Nat) : Nat → List Nat → Nat
  | k, [] => k
  | k, c :: st => zpar op n (zit (zen8 op n (8 - (st.length + 1))) c k) st
def mSn (v : mS) : List Nat → Prop
  | [] => True
  | c :: st => v 12 st.length = zI c ∧ mSn v st
section PC
variable {op : Nat → Nat} {ar : Nat → Int32} {n B : Nat} {v : mS} {F : Nat}
theorem mSn_up {v' : mS} : ∀ st : List Nat, (∀ i, i < st.length → v' 12 i = v 12 i) → mSn v st → mSn v' st := by
  intro st
  induction st with
  | nil => intro _ _; trivial
  | cons c st ih =>
    intro h k
    exact ⟨(h st.length (by simp)).trans k.1, ih (fun i hi => h i (by simp; omega)) k.2⟩
theorem zpar_33 (hn : n ≤ 32) : ∀ st : List Nat, zpar op n 33 st = 33 := by
  intro st
  induction st with
  | nil => rfl
  | cons c st ih => simp only [zpar]; rw [zit_33 (zen_33 hn _)]; exact ih
/-- the zeros are taken off -/
def zpop : List Nat → List Nat
  | [] => []
  | 0 :: st => zpop st
  | (c + 1) :: st => (c + 1) :: st
theorem zpop_l : ∀ st : List Nat, (zpop st).length ≤ st.length := by
  intro st
  induction st with
  | nil => exact Nat.le_refl _
  | cons c st ih =>
    cases c with
    | zero => simp only [zpop, List.length_cons]; omega
    | succ c => exact Nat.le_refl _
theorem zpop_p : ∀ (st : List Nat) (k : Nat), zpar op n k (zpop st) = zpar op n k st := by
  intro st
  induction st with
  | nil => intro k; rfl
  | cons c st ih =>
    intro k
    cases c with
    | zero => exact ih k
    | succ c => rfl
theorem zpop_t : ∀ (st : List Nat), zpop st = [] ∨ ∃ c r, zpop st = (c + 1) :: r := by
  intro st
  induction st with
  | nil => exact Or.inl rfl
  | cons c st ih =>
    cases c with
    | zero => exact ih
    | succ c => exact Or.inr ⟨c, st, rfl⟩
theorem mSn_pop : ∀ st : List Nat, mSn v st → mSn v (zpop st) := by
  intro st
  induction st with
  | nil => intro h; exact h
  | cons c st ih =>
    intro h
    cases c with
    | zero => exact ih h.2
    | succ c => exact h
def zst (st : List Nat) : Prop := ∀ c, c ∈ st → c ≤ 3
theorem zst_pop : ∀ st : List Nat, zst st → zst (zpop st) := by
  intro st
  induction st with
  | nil => intro h; exact h
  | cons c st ih =>
    intro h
    cases c with
    | zero => exact ih (fun c hc => h c (List.mem_cons_of_mem _ hc))
    | succ c => exact h
/-- what right leaves: only its stack -/
def mDr (v v' : mS) : Prop := (∀ j, j ≠ 0 → j ≠ 12 → v' j = v j) ∧ ∀ k, k ≠ 18 → v' 0 k = v 0 k
theorem mDr.rf : mDr v v := ⟨fun _ _ _ => rfl, fun _ _ => rfl⟩
theorem mDr.tr {v1 v2 : mS} (h : mDr v v1) (k : mDr v1 v2) : mDr v v2 := ⟨fun j a b => (k.1 j a b).trans (h.1 j a b), fun i hi => (k.2 i hi).trans (h.2 i hi)⟩
theorem mDr_0 {x : Int32} : mDr v (sU v 0 18 x) := ⟨fun j a _ => sU_j a, fun k hk => sU_k hk⟩
theorem mDr_12 {i : Nat} {x : Int32} : mDr v (sU v 12 i x) := ⟨fun j _ b => sU_j b, fun k _ => by rw [sU_j (by decide)]⟩
theorem m_right_104 {K : Int32 → Int32 → Int32 → mS → Option (Int32 × mS)} {k : Nat} : ∀ (st : List Nat) (q : Nat) (v : mS), st.length < q → st.length ≤ 10 → zst st → v 0 18 = zI st.length → mSn v st → ∃ v', f_M_right_104 K q (zI F) (zI k) v = K (zI F) (if zpop st = [] then 1 else 0) (zI (k + 1)) v' ∧ mDr v v' ∧ v' 12 = v 12 ∧ v' 0 18 = zI (zpop st).length := by
  have e138 : ∀ (w : mS) (st : List Nat), st.length ≤ 10 → w 0 18 = zI st.length → f_M_right_138 K (zI F) (zI k) w = K (zI F) (if st = [] then 1 else 0) (zI (k + 1)) w := by
    intro w st hl hw
    rw [f_M_right_138, hw, zl_0, iI_eq (by omega) (by omega)]
    cases st with
    | nil => rw [if_pos (show ([] : List Nat).length = 0 from rfl), if_pos rfl, f_M_right_150, zl_1, zI_add, nm_s]
    | cons c st => rw [if_neg (by simp), if_neg (by simp), f_M_right_150, zl_1, zI_add, nm_s]
  intro st
  induction st with
  | nil =>
    intro q v hq hl h3 h18 hs
    obtain ⟨q, rfl, -⟩ := suc_of hq
    refine ⟨v, ?_, mDr.rf, rfl, h18⟩
    rw [f_M_right_104, h18, zl_0, iI_le (by simp) (by omega), if_pos (by simp), e138 v [] hl h18]
    rfl
  | cons c st ih =>
    intro q v hq hl h3 h18 hs
    obtain ⟨q, rfl, hq⟩ := suc_of hq
    have hq2 : st.length < q := by simp at hq; omega
    simp only [List.length_cons] at h18 hl
    have hc3 := h3 c (by simp)
    have e1 : f_M_right_104 K (q + 1) (zI F) (zI k) v = if c = 0 then f_M_right_104 K q (zI F) (zI k) (sU v 0 18 (zI st.length)) else f_M_right_138 K (zI F) (zI k) v := by
      rw [f_M_right_104, h18, zl_0, iI_le (by omega) (by omega), if_neg (by omega), zl_1, zI_sub (by omega), show st.length + 1 - 1 = st.length by omega, gd_I (by omega) (by omega), zI_toNat (by omega), hs.1, iI_eq (by omega) (by omega), nm_s]
    rw [e1]
    cases c with
    | zero =>
      rw [if_pos rfl]
      obtain ⟨v', a1, a2, a3, a4⟩ := ih q (sU v 0 18 (zI st.length)) hq2 (by omega) (fun c hc => h3 c (List.mem_cons_of_mem _ hc)) sU_hit (mSn_up st (fun i _ => by rw [sU_j (by decide)]) hs.2)
      exact ⟨v', a1, mDr_0.tr a2, by rw [a3, sU_j (by decide)], a4⟩
    | succ c =>
      rw [if_neg (by omega), e138 v ((c + 1) :: st) (by simpa using hl) (by simpa using h18)]
      exact ⟨v, rfl, mDr.rf, rfl, by simpa [zpop] using h18⟩
theorem m_right_l (hF : F < 4) (hn : n ≤ 32) (hop : ∀ k, k < n → op k ≤ 34) : ∀ (m q k : Nat) (v : mS) (st : List Nat), k + m = n → m < q → st.length ≤ 8 → zst st → (st = [] ∨ ∃ c r, st = (c + 1) :: r) → v 0 18 = zI st.length → mSn v st → v 5 F = zI n → (∀ k, k < n → v 3 (32 * F + k) = zI (op k)) → ∃ v', f_M_right_12 q (zI F) (if st = [] then 1 else 0) (zI (32 * F + k)) v = some (if zpar op n k st = n then 1 else 0, v') ∧ mDr v v' := by
  intro m
  induction m with
  | zero =>
    intro q k v st hk hq hl h3 ht h18 hs h5 ho
    obtain ⟨q, rfl, -⟩ := suc_of hq
    have e32 : (32 : Int32) * zI F + zI n = zI (32 * F + n) := by rw [show (32 : Int32) = zI 32 from rfl, zI_mul, zI_add]
    refine ⟨v, ?_, mDr.rf⟩
    rw [f_M_right_12, gd_I hF (by omega), zI_toNat (by omega), h5, e32, iI_le (by omega) (by omega), if_pos (by omega)]
    have ez : (zpar op n k st = n) = (st = []) := by
      rcases ht with rfl | ⟨c, r, rfl⟩
      · simp only [zpar]; simp; omega
      · simp only [zpar, zit]
        have : zen8 op n (8 - (r.length + 1)) k = 33 := by
          cases 8 - (r.length + 1) with
          | zero => rfl
          | succ d => simp only [zen8]; rw [if_pos (by omega)]
        rw [this, zit_33 (zen_33 hn _), zpar_33 hn]
        simp; omega
    rw [ite_p ez]
    by_cases c : st = []
    · rw [if_pos c, gd_t (by decide)]
    · rw [if_neg c, gd_t (by decide)]
  | succ m ih =>
    intro q k v st hk hq hl h3 ht h18 hs h5 ho
    obtain ⟨q, rfl, hq⟩ := suc_of hq
    have hq := Nat.lt_of_succ_lt_succ hq
    have e32 : (32 : Int32) * zI F + zI n = zI (32 * F + n) := by rw [show (32 : Int32) = zI 32 from rfl, zI_mul, zI_add]
    rw [f_M_right_12, gd_I hF (by omega), zI_toNat (by omega), h5, e32, iI_le (by omega) (by omega), if_neg (by omega)]
    rcases ht with rfl | ⟨c, r, rfl⟩
    · refine ⟨v, ?_, mDr.rf⟩
      rw [if_pos rfl, if_neg (show ¬ (1 : Int32) = 0 by decide), if_neg (show ¬ zpar op n k [] = n by simp only [zpar]; omega)]
      rfl
    · simp only [List.length_cons] at h18 hl
      have hc3 := h3 (c + 1) (by simp)
      rw [if_neg (show ¬ (c + 1) :: r = [] by simp), if_pos rfl, h18, show (7 : Int32) = zI 7 from rfl, iI_le (by omega) (by omega)]
      by_cases c7 : r.length + 1 ≤ 7
      · rw [if_pos c7, zl_0, iI_le (by omega) (by omega), if_neg (by omega), zl_1, zI_sub (by omega), show r.length + 1 - 1 = r.length by omega, gd_I (by omega) (by omega), gd_I (by omega) (by omega), zI_toNat (by omega), hs.1, zI_sub (by omega), show c + 1 - 1 = c by omega, nm_s]
        have hj : ∀ j, j ≠ 12 → sU v 12 r.length (zI c) j = v j := fun j a => sU_j a
        have hs1 : mSn (sU v 12 r.length (zI c)) (c :: r) := ⟨sU_hit, mSn_up r (fun i hi => sU_k (by omega)) hs.2⟩
        have hD1 : mDr v (sU v 12 r.length (zI c)) := mDr_12
        generalize sU v 12 r.length (zI c) = w at *
        have hok := hop k (by omega)
        have h3p := zpt_3 (op k)
        have hzst : zst (c :: r) := fun x hx => by
          rcases List.mem_cons.1 hx with rfl | hx
          · omega
          · exact h3 x (List.mem_cons_of_mem _ hx)
        rw [f_M_right_64, gd_I (by omega) (by omega), zI_toNat (by omega), hj 3 (by decide), ho k (by omega), m_parts hok, bi_s, zl_0, iI_le (by omega) (by omega)]
        have hzp : zpar op n k ((c + 1) :: r) = zpar op n (k + 1) (zpt (op k) :: c :: r) := by
          have : zen8 op n (8 - (r.length + 1)) k = zit (zen8 op n (8 - (r.length + 1 + 1))) (zpt (op k)) (k + 1) := by
            rw [show 8 - (r.length + 1) = (8 - (r.length + 1 + 1)) + 1 by omega]
            simp only [zen8]
            rw [if_neg (by omega)]
          simp only [zpar, zit, List.length_cons]
          rw [this]
        have key : ∀ (w : mS) (st : List Nat), st.length ≤ 8 → zst st → w 0 18 = zI st.length → mSn w st → w 5 F = zI n → (∀ k, k < n → w 3 (32 * F + k) = zI (op k)) → zpar op n (k + 1) st = zpar op n k ((c + 1) :: r) → ∃ v', f_M_right_104 (f_M_right_12 q) fu (zI F) (zI (32 * F + k)) w = some (if zpar op n k ((c + 1) :: r) = n then 1 else 0, v') ∧ mDr w v' := by
          intro w st k1 k2 k3 k4 k5 k6 k7
          obtain ⟨w2, b1, b2, b3, b4⟩ := m_right_104 (F := F) (K := f_M_right_12 q) (k := 32 * F + k) st fu w (fu_lt (by omega)) (by omega) k2 k3 k4
          have hpl := zpop_l st
          obtain ⟨w3, d1, d2⟩ := ih q (k + 1) w2 (zpop st) (by omega) hq (by omega) (zst_pop st k2) (zpop_t st) b4 (mSn_up _ (fun i _ => by rw [b3]) (mSn_pop st k4)) (by rw [b2.1 5 (by decide) (by decide)]; exact k5) (by rw [b2.1 3 (by decide) (by decide)]; exact k6)
          refine ⟨w3, ?_, b2.tr d2⟩
          rw [b1, show 32 * F + k + 1 = 32 * F + (k + 1) by omega, d1, zpop_p, k7]
        by_cases cp : zpt (op k) ≤ 0
        · rw [if_pos cp]
          obtain ⟨v', f1, f2⟩ := key w (c :: r) (by simp; omega) hzst (by rw [hj 0 (by decide)]; simpa using h18) hs1 (by rw [hj 5 (by decide)]; exact h5) (by rw [hj 3 (by decide)]; exact ho) (by rw [hzp, show zpt (op k) = 0 by omega]; rfl)
          exact ⟨v', f1, hD1.tr f2⟩
        · have e18 : w 0 18 = zI (r.length + 1) := by rw [hj 0 (by decide)]; exact h18
          have e18b : sU w 12 (r.length + 1) (zI (zpt (op k))) 0 18 = zI (r.length + 1) := by rw [sU_j (by decide)]; exact e18
          rw [if_neg cp, gd_I (by omega) (by omega), hj 3 (by decide), ho k (by omega), m_parts hok, bi_s, e18, gd_I (by omega) (by omega), nm_s, zI_toNat (by omega), e18b, zl_1, zI_add, nm_s]
          have hj2 : ∀ j, j ≠ 12 → j ≠ 0 → sU (sU w 12 (r.length + 1) (zI (zpt (op k)))) 0 18 (zI (r.length + 1 + 1)) j = w j := fun j a b => by rw [sU_j b, sU_j a]
          obtain ⟨v', f1, f2⟩ := key (sU (sU w 12 (r.length + 1) (zI (zpt (op k)))) 0 18 (zI (r.length + 1 + 1))) (zpt (op k) :: c :: r) (by simp; omega) (fun x hx => by
            rcases List.mem_cons.1 hx with rfl | hx
            · exact h3p
            · exact hzst x hx) (by rw [sU_hit]; simp) ⟨by rw [sU_j (by decide)]; simp only [List.length_cons]; exact sU_hit, mSn_up (v := w) (c :: r) (fun i hi => by rw [sU_j (by decide), sU_k (by simp at hi; omega)]) hs1⟩ (by rw [hj2 5 (by decide) (by decide), hj 5 (by decide)]; exact h5) (by rw [hj2 3 (by decide) (by decide), hj 3 (by decide)]; exact ho) hzp.symm
          exact ⟨v', f1, hD1.tr ((mDr_12.tr mDr_0).tr f2)⟩
      · refine ⟨v, ?_, mDr.rf⟩
        have : zpar op n k ((c + 1) :: r) = 33 := by
          simp only [zpar, zit]
          rw [show 8 - (r.length + 1) = 0 by omega]
          have e0 : zen8 op n 0 k = 33 := rfl
          rw [e0, zit_33 rfl, zpar_33 hn]
        rw [if_neg c7, this, if_neg (by omega)]
        rfl
theorem m_right (hF : F < 4) (hn : n ≤ 32) (hop : ∀ k, k < n → op k ≤ 34) (h5 : v 5 F = zI n) (ho : ∀ k, k < n → v 3 (32 * F + k) = zI (op k)) : ∃ v', f_M_right v (zI F) = some (if zen8 op n 8 0 = n then 1 else 0, v') ∧ mDr v v' := by
  have e32 : (32 : Int32) * zI F + zI n = zI (32 * F + n) := by rw [show (32 : Int32) = zI 32 from rfl, zI_mul, zI_add]
  have e32' : (32 : Int32) * zI F = zI (32 * F) := by rw [show (32 : Int32) = zI 32 from rfl, zI_mul]
  have hj : ∀ j, j ≠ 0 → sU v 0 18 0 j = v j := fun j a => sU_j a
  rw [f_M_right, nm_s, e32', nm_s]
  have hD : mDr v (sU v 0 18 0) := mDr_0
  have h18 : sU v 0 18 0 0 18 = zI 0 := sU_hit
  have h5' : sU v 0 18 0 5 F = zI n := by rw [hj 5 (by decide)]; exact h5
  have ho' : ∀ k, k < n → sU v 0 18 0 3 (32 * F + k) = zI (op k) := by rw [hj 3 (by decide)]; exact ho
  generalize sU v 0 18 0 = w at *
  rw [show fu = 999999 + 1 from rfl, f_M_right_12, gd_I hF (by omega), zI_toNat (by omega), h5', e32, iI_le (by omega) (by omega)]
  by_cases c0 : n = 0
  · rw [if_pos (by omega), gd_t (by decide), if_neg (show ¬ zen8 op n 8 0 = n by simp only [zen8]; rw [if_pos (by omega)]; omega)]
    exact ⟨w, rfl, hD⟩
  · rw [if_neg (by omega), if_pos rfl, h18, show (7 : Int32) = zI 7 from rfl, iI_le (by omega) (by omega), if_pos (by omega), zl_0, iI_le (by omega) (by omega), if_pos (by omega)]
    have hok := hop 0 (by omega)
    have h3p := zpt_3 (op 0)
    have hz : zen8 op n 8 0 = zit (zen8 op n 7) (zpt (op 0)) 1 := by
      show (if n ≤ 0 then 33 else zit (zen8 op n 7) (zpt (op 0)) (0 + 1)) = _
      rw [if_neg (by omega)]
    have key : ∀ (w : mS) (st : List Nat), st.length ≤ 8 → zst st → w 0 18 = zI st.length → mSn w st → w 5 F = zI n → (∀ k, k < n → w 3 (32 * F + k) = zI (op k)) → zpar op n 1 st = zen8 op n 8 0 → ∃ v', f_M_right_104 (f_M_right_12 999999) fu (zI F) (zI (32 * F)) w = some (if zen8 op n 8 0 = n then 1 else 0, v') ∧ mDr w v' := by
      intro w st k1 k2 k3 k4 k5 k6 k7
      obtain ⟨w2, b1, b2, b3, b4⟩ := m_right_104 (F := F) (K := f_M_right_12 999999) (k := 32 * F) st fu w (fu_lt (by omega)) (by omega) k2 k3 k4
      have hpl := zpop_l st
      obtain ⟨w3, d1, d2⟩ := m_right_l hF hn hop (n - 1) 999999 1 w2 (zpop st) (by omega) (by omega) (by omega) (zst_pop st k2) (zpop_t st) b4 (mSn_up _ (fun i _ => by rw [b3]) (mSn_pop st k4)) (by rw [b2.1 5 (by decide) (by decide)]; exact k5) (by rw [b2.1 3 (by decide) (by decide)]; exact k6)
      refine ⟨w3, ?_, b2.tr d2⟩
      rw [b1, d1, zpop_p, k7]
    have ho0 := ho' 0 (by omega)
    rw [Nat.add_zero] at ho0
    rw [f_M_right_64, gd_I (by omega) (by omega), zI_toNat (by omega), ho0, m_parts hok, bi_s, zl_0, iI_le (by omega) (by omega)]
    by_cases cp : zpt (op 0) ≤ 0
    · rw [if_pos cp]
      obtain ⟨v', f1, f2⟩ := key w [] (by simp) (fun _ h => by cases h) h18 trivial h5' ho' (by rw [hz, show zpt (op 0) = 0 by omega]; rfl)
      exact ⟨v', f1, hD.tr f2⟩
    · have e18b : sU w 12 0 (zI (zpt (op 0))) 0 18 = zI 0 := by rw [sU_j (by decide)]; exact h18
      rw [if_neg cp, gd_I (by omega) (by omega), ho0, m_parts hok, bi_s, h18, gd_I (by omega) (by omega), nm_s, zI_toNat (by omega), e18b, zl_1, zI_add, nm_s]
      have hj2 : ∀ j, j ≠ 12 → j ≠ 0 → sU (sU w 12 0 (zI (zpt (op 0)))) 0 18 (zI (0 + 1)) j = w j := fun j a b => by rw [sU_j b, sU_j a]
      obtain ⟨v', f1, f2⟩ := key (sU (sU w 12 0 (zI (zpt (op 0)))) 0 18 (zI (0 + 1))) [zpt (op 0)] (by simp) (fun x hx => by
        rcases List.mem_cons.1 hx with rfl | hx
        · exact h3p
        · cases hx) (by rw [sU_hit]; simp) ⟨by rw [sU_j (by decide)]; exact sU_hit, trivial⟩ (by rw [hj2 5 (by decide) (by decide)]; exact h5') (by rw [hj2 3 (by decide) (by decide)]; exact ho') (by rw [hz]; rfl)
      exact ⟨v', f1, hD.tr ((mDr_12.tr mDr_0).tr f2)⟩
/-- the scan over an expression -/
theorem m_scan {K : Int32 → Int32 → Int32 → mS → Option (Int32 × mS)} {x2 x4 : Int32} (hB : B ≤ 96) (hn : n ≤ 32) (hop : ∀ k, k < n → op k ≤ 34) (ho : ∀ k, k < n → v 3 (B + k) = zI (op k)) : ∀ (d a q m : Nat), zen8 op n d a ≠ 33 → m + 3 * d ≤ 40 → f_M_partOf_16 K (q + (zen8 op n d a - a)) x2 (zI (B + a)) x4 (zI (m + 1)) v = f_M_partOf_16 K q x2 (zI (B + zen8 op n d a)) x4 (zI m) v := by
  intro d
  induction d with
  | zero => intro a q m h; exact absurd rfl h
  | succ d ih =>
    intro a q m h hm
    by_cases c : n ≤ a
    · exact absurd (by simp only [zen8]; rw [if_pos c]) h
    · have hz : zen8 op n (d + 1) a = zit (zen8 op n d) (zpt (op a)) (a + 1) := by simp only [zen8]; rw [if_neg c]
      have h3 := zpt_3 (op a)
      have hr := zen_r (op := op) hn (d + 1) a
      have loop : ∀ (r b q m : Nat), b ≤ n → m + 3 * d + 3 ≤ 40 → r ≤ 3 → zit (zen8 op n d) r b ≠ 33 → f_M_partOf_16 K (q + (zit (zen8 op n d) r b - b)) x2 (zI (B + b)) x4 (zI (m + r)) v = f_M_partOf_16 K q x2 (zI (B + zit (zen8 op n d) r b)) x4 (zI m) v := by
        intro r
        induction r with
        | zero =>
          intro b q m hb hm hr3 h9
          simp only [zit, Nat.sub_self, Nat.add_zero]
        | succ r ihr =>
          intro b q m hb hm hr3 h9
          simp only [zit] at h9 ⊢
          have h33 : zen8 op n d b ≠ 33 := by
            intro e
            rw [e] at h9
            exact h9 (zit_33 (zen_33 hn d) r)
          have r1 := zen_r (op := op) hn d b
          have r2 := zit_r (op := op) hn d r (zen8 op n d b) (by omega)
          have hr9 := zpt_3 (op a)
          have e1 : q + (zit (zen8 op n d) r (zen8 op n d b) - b) = (q + (zit (zen8 op n d) r (zen8 op n d b) - zen8 op n d b)) + (zen8 op n d b - b) := by omega
          rw [e1, show m + (r + 1) = m + r + 1 by omega]
          rw [ih b _ (m + r) h33 (by omega)]
          exact ihr (zen8 op n d b) q m (by omega) hm (by omega) h9
      have e1 : q + (zen8 op n (d + 1) a - a) = (q + (zen8 op n (d + 1) a - (a + 1))) + 1 := by omega
      rw [e1, f_M_partOf_16, zl_0, iI_le (by omega) (by omega), if_neg (by omega), gd_I (by omega) (by omega), zI_toNat (by omega), ho a (by omega), m_parts (hop a (by omega)), bi_s]
      have e2 : zI (m + 1) + (zI (zpt (op a)) - 1) = zI (m + zpt (op a)) := by
        rw [zl_1, zI_J, zI_J, zI_J, zJ_sub, zJ_add, zI_J]
        congr 1
        omega
      rw [e2, nm_s, zl_1, zI_add, nm_s, show B + a + 1 = B + (a + 1) by omega, hz]
      rw [hz] at h
      exact loop (zpt (op a)) (a + 1) q m (by omega) (by omega) h3 h
/-- where the parts begin, as the reference finds it -/
theorem m_partOf {d k : Nat} (hB : B ≤ 96) (hn : n ≤ 32) (hop : ∀ k, k < n → op k ≤ 34) (ho : ∀ k, k < n → v 3 (B + k) = zI (op k)) (hk : zok op ar (zp2 op n) (zp3 op n) d k) : (1 ≤ zpt (op k) → f_M_partOf v (zI (B + k)) (zI 0) = some (zI (B + (k + 1)), v)) ∧ (2 ≤ zpt (op k) → f_M_partOf v (zI (B + k)) (zI 1) = some (zI (B + zp2 op n k), v)) ∧ (3 ≤ zpt (op k) → f_M_partOf v (zI (B + k)) (zI 2) = some (zI (B + zp3 op n k), v)) := by
  have hk32 := zok_32 hk
  have st : ∀ (q x2 x4 a : Nat), x2 ≤ 3 → x4 < x2 → 0 < q → zen8 op n 8 a ≠ 33 → f_M_partOf_7 (q + 1) (zI x2) (zI (B + a)) (zI x4) v = f_M_partOf_7 q (zI x2) (zI (B + zen8 op n 8 a)) (zI (x4 + 1)) v := by
    intro q x2 x4 a h1 h2 h3 h4
    have hr := zen_r (op := op) hn 8 a
    rw [f_M_partOf_7, iI_le (by omega) (by omega), if_neg (by omega)]
    have e1 : fu = (fu - (zen8 op n 8 a - a)) + (zen8 op n 8 a - a) := by
      have : fu = 1000000 := rfl
      omega
    have e2 : fu - (zen8 op n 8 a - a) = (fu - (zen8 op n 8 a - a) - 1) + 1 := by
      have : fu = 1000000 := rfl
      omega
    rw [e1, zl_1, show zI 1 = zI (0 + 1) from rfl, m_scan hB hn hop ho 8 a _ 0 h4 (by omega), e2, f_M_partOf_16, zl_0, iI_le (by omega) (by omega), if_pos (by omega), zl_1, zI_add, nm_s]
  have fin : ∀ (q x2 a : Nat), x2 ≤ 3 → f_M_partOf_7 (q + 1) (zI x2) (zI (B + a)) (zI x2) v = some (zI (B + a), v) := by
    intro q x2 a h1
    rw [f_M_partOf_7, iI_le (by omega) (by omega), if_pos (by omega)]
  have e0 : ∀ x2, f_M_partOf v (zI (B + k)) x2 = f_M_partOf_7 (999997 + 1 + 1 + 1) x2 (zI (B + (k + 1))) (zI 0) v := by
    intro x2
    rw [f_M_partOf, zl_1, zI_add, nm_s]
    rfl
  refine ⟨fun h1 => ?_, fun h2 => ?_, fun h3 => ?_⟩
  · rw [e0, fin _ 0 _ (by omega)]
  · obtain ⟨q1, q2, -⟩ := zok_n hn hk h2
    rw [e0, st _ 1 0 _ (by omega) (by omega) (by omega) q2, fin _ 1 _ (by omega)]
    rfl
  · obtain ⟨q1, q2, q3⟩ := zok_n hn hk (by omega)
    obtain ⟨q4, q5⟩ := q3 h3
    have s1 := st (999997 + 1 + 1) 2 0 (k + 1) (by omega) (by omega) (by omega) q2
    have s2 := st (999997 + 1) 2 1 (zp2 op n k) (by omega) (by omega) (by omega) q5
    have s3 := fin 999997 2 (zp3 op n k) (by omega)
    rw [e0, s1]
    exact s2.trans s3
end PC
