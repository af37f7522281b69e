/-! the class's Values: field, index, has; the parts of a value; moving a value to the other cells -/
section CF
variable {g : Nat → Nat} {v : mS} {T a b : Nat} {t u : zT}
theorem c_member (hM : zM g v T) (ha : zV (v 4) T a t) (kt : zk t = 6) {x : zN} (hx : zRX (v 4) T b x) (hx2 : ztx x) {o : Int32} : match zmem t x (zl t) 0 with
    | some k => k < zl t ∧ ∃ p, f_V_memberOf g v (zI a) (zI b) o = some (zI p, v) ∧ zV (v 4) T p (zc t k)
    | none => f_V_memberOf g v (zI a) (zI b) o = some (o, v) := by
  have lt := zwf_l ha.2
  exact c_member_l hM ha kt hx hx2 (zl t) fu 0 (by omega) (fu_lt (by omega))
theorem zW0 (hM : zM g v T) : zV (v 4) T 0 (zW 0) := zM_W hM (show 0 < 3 by omega)
theorem c_field (hM : zM g v T) (ha : zV (v 4) T a t) {x : zN} (hx : zRX (v 4) T b x) (hx2 : ztx x) : zG (f_V_fieldOf g v (zI a) (zI b)) v T (zfld t x) := by
  have ka := ha.2.1
  unfold zfld
  simp (disch := omega) only [f_V_fieldOf, c_kind hM ha, bi_s, zl_6, zI_eq]
  have e0 : (zI (zk t) = 0) = (zk t = 0) := by rw [zl_0, zI_eq (by omega) (by omega)]
  rw [ite_p e0]
  by_cases c0 : zk t = 0
  · rw [if_pos c0, if_pos c0]
    exact ⟨0, rfl, zW0 hM⟩
  · rw [if_neg c0, if_neg c0]
    by_cases c6 : zk t = 6
    · rw [if_pos c6, if_pos c6]
      have hm := c_member (o := 0) hM ha c6 hx hx2
      cases hz : zmem t x (zl t) 0 with
      | none =>
        rw [hz] at hm
        try dsimp only at hm ⊢
        rw [hm, bi_s]
        exact ⟨0, rfl, zW0 hM⟩
      | some k =>
        rw [hz] at hm
        obtain ⟨-, p, ep, hp⟩ := hm
        try dsimp only
        rw [ep, bi_s]
        exact ⟨p, rfl, hp⟩
    · rw [if_neg c6, if_neg c6]
      rfl
theorem c_below {k : Int} {n : Nat} (h1 : -2147483648 ≤ k) (h2 : k < 2147483648) (hn : n < 2147483648) : f_B_isBelow g v (zJ k) (zI n) = some (if 0 ≤ k ∧ k < n then 1 else 0, v) := by
  have e1 : (zJ k < 0) = (k < 0) := by rw [zl_0, zI_J, zJ_lt (by omega) (by omega) (by omega) (by omega)] <;> rfl
  have e2 : (zI n ≤ zJ k) = ((n : Int) ≤ k) := by rw [zI_J, zJ_le (by omega) (by omega) (by omega) (by omega)]
  rw [f_B_isBelow, ite_p e1, ite_p e2]
  by_cases c1 : k < 0
  · rw [if_pos c1, if_neg (by omega)]; rfl
  · rw [if_neg c1]
    by_cases c2 : (n : Int) ≤ k
    · rw [if_pos c2, if_neg (by omega)]; rfl
    · rw [if_neg c2, if_pos (by omega)]; rfl
theorem c_belowN {k n : Nat} (h2 : k < 2147483648) (hn : n < 2147483648) : f_B_isBelow g v (zI k) (zI n) = some (if k < n then 1 else 0, v) := by
  rw [zI_J k, c_below (by omega) (by omega) hn]
  congr 1
  by_cases c : k < n
  · rw [if_pos c, if_pos (by omega)]
  · rw [if_neg c, if_neg (by omega)]
theorem c_indexed (hM : zM g v T) (ha : zV (v 4) T a t) (hb : zV (v 4) T b u) : zG (f_V_indexed g v (zI a) (zI b)) v T (zidx t u) := by
  have ka := ha.2.1
  have kb := hb.2.1
  have lt := zwf_l ha.2
  have e0 : (zI (zk t) = 0) = (zk t = 0) := by rw [zl_0, zI_eq (by omega) (by omega)]
  have h37 : zk t ≠ 0 → ¬ (zk t = 6 ∧ zk u = 4) → zG (f_V_indexed_37 g (zI a) (zI b) v) v T (zidx t u) := by
    intro hn0 hn6
    unfold zidx
    rw [if_neg hn0, if_neg hn6]
    simp (disch := omega) only [f_V_indexed_37, c_kind hM ha, c_kind hM hb, bi_s, zl_5, zl_3, zI_eq]
    by_cases c5 : zk t = 5
    · rw [if_pos c5]
      by_cases d3 : zk u = 3
      · rw [if_pos d3, if_pos ⟨c5, d3⟩, c_floor hM hb d3, bi_s]
        have hf := zfl_b (hb.2.2.2.2.2.2.1 d3)
        generalize hq : zv u / 1000000 = q at *
        have e1 : (0 ≤ zJ q) = (0 ≤ q) := by rw [zl_0, zI_J, zJ_le (by omega) (by omega) (by omega) (by omega)] <;> rfl
        have h84 : ∀ k : Int, -2147483648 ≤ k → k < 2147483648 → zG (f_V_indexed_84 g (zI a) (zJ k) v) v T (if 0 ≤ k ∧ k < (zl t : Int) then .inr (zc t k.toNat) else .inr (zW 0)) := by
          intro k h1 h2
          rw [f_V_indexed_84, c_len hM ha, bi_s, c_below h1 h2 (by omega), bi_s]
          by_cases c : 0 ≤ k ∧ k < (zl t : Int)
          · rw [if_pos c, if_pos c, if_neg (by decide)]
            obtain ⟨p, ep, hp⟩ := c_item hM ha (by omega) (show k.toNat < zl t by omega)
            have : zJ k = zI k.toNat := by rw [zI_J]; congr 1; omega
            rw [this, ep, bi_s]
            exact ⟨p, rfl, hp⟩
          · rw [if_neg c, if_neg c, if_pos rfl]
            exact ⟨0, rfl, zW0 hM⟩
        rw [ite_p e1]
        by_cases c : 0 ≤ q
        · rw [if_pos c, c_floor hM hb d3, bi_s, hq, if_neg (show ¬ q < 0 by omega)]
          exact h84 q (by omega) (by omega)
        · rw [if_neg c, c_floor hM hb d3, bi_s, hq, c_len hM ha, bi_s, zI_J (zl t), zJ_add, if_pos (show q < 0 by omega)]
          exact h84 (q + zl t) (by omega) (by omega)
      · rw [if_neg d3, if_neg (fun h => d3 h.2)]
        rfl
    · rw [if_neg c5, if_neg (fun h => c5 h.1)]
      rfl
  simp (disch := omega) only [f_V_indexed, c_kind hM ha, c_kind hM hb, bi_s, zl_6, zl_4, zI_eq]
  rw [ite_p e0]
  by_cases c0 : zk t = 0
  · unfold zidx
    rw [if_pos c0, if_pos c0]
    exact ⟨0, rfl, zW0 hM⟩
  · rw [if_neg c0]
    by_cases c6 : zk t = 6
    · rw [if_pos c6]
      by_cases d4 : zk u = 4
      · obtain ⟨hx, hx2⟩ := zX_V hb d4
        have hm := c_member (o := 0) hM ha c6 hx hx2
        unfold zidx
        rw [if_pos d4, if_neg c0, if_pos ⟨c6, d4⟩]
        cases hz : zmem t (zl u, zx u) (zl t) 0 with
        | none =>
          rw [hz] at hm
          try dsimp only at hm ⊢
          rw [hm, bi_s]
          exact ⟨0, rfl, zW0 hM⟩
        | some k =>
          rw [hz] at hm
          obtain ⟨-, p, ep, hp⟩ := hm
          try dsimp only
          rw [ep, bi_s]
          exact ⟨p, rfl, hp⟩
      · rw [if_neg d4]
        exact h37 c0 (fun h => d4 h.2)
    · rw [if_neg c6]
      exact h37 c0 (fun h => c6 h.1)
theorem c_truth (hM : zM g v T) {b : Bool} {x : Int32} (hx : x = if b then 1 else 0) : zG (f_V_truth g v x) v T (.inr (ztr b)) := by
  subst hx
  cases b with
  | true => exact ⟨8, rfl, zM_W hM (show 2 < 3 by omega)⟩
  | false => exact ⟨4, rfl, zM_W hM (show 1 < 3 by omega)⟩
theorem c_has (hM : zM g v T) (ha : zV (v 4) T a t) (hb : zV (v 4) T b u) : zG (f_V_has g v (zI a) (zI b)) v T (zhas t u) := by
  have ka := ha.2.1
  have kb := hb.2.1
  have lt := zwf_l ha.2
  have h40 : ¬ (zk t = 6 ∧ zk u = 4) → zG (f_V_has_40 g (zI a) (zI b) v) v T (zhas t u) := by
    intro hn6
    unfold zhas
    rw [if_neg hn6]
    simp (disch := omega) only [f_V_has_40, c_kind hM ha, c_kind hM hb, bi_s, zl_5, zl_3, zI_eq]
    by_cases c5 : zk t = 5
    · rw [if_pos c5]
      by_cases d3 : zk u = 3
      · have hf := zfl_b (hb.2.2.2.2.2.2.1 d3)
        rw [if_pos d3, if_pos ⟨c5, d3⟩, c_floor hM hb d3, bi_s, c_len hM ha, bi_s, c_below (by omega) (by omega) (by omega), bi_s]
        obtain ⟨p, ep, hp⟩ := c_truth hM (b := decide (0 ≤ zv u / 1000000 ∧ zv u / 1000000 < zl t)) (x := if 0 ≤ zv u / 1000000 ∧ zv u / 1000000 < (zl t : Int) then 1 else 0) (by by_cases c : 0 ≤ zv u / 1000000 ∧ zv u / 1000000 < (zl t : Int) <;> simp [c])
        rw [ep, bi_s]
        exact ⟨p, rfl, hp⟩
      · rw [if_neg d3, if_neg (fun h => d3 h.2)]
        rfl
    · rw [if_neg c5, if_neg (fun h => c5 h.1)]
      rfl
  simp (disch := omega) only [f_V_has, c_kind hM ha, c_kind hM hb, bi_s, zl_6, zl_4, zI_eq]
  by_cases c6 : zk t = 6
  · rw [if_pos c6]
    by_cases d4 : zk u = 4
    · obtain ⟨hx, hx2⟩ := zX_V hb d4
      have hm := c_member (o := -1) hM ha c6 hx hx2
      unfold zhas
      rw [if_pos d4, if_pos ⟨c6, d4⟩]
      cases hz : zmem t (zl u, zx u) (zl t) 0 with
      | none =>
        rw [hz] at hm
        try dsimp only at hm ⊢
        rw [hm, bi_s, if_pos rfl]
        exact ⟨4, rfl, zM_W hM (show 1 < 3 by omega)⟩
      | some k =>
        rw [hz] at hm
        obtain ⟨-, p, ep, hp⟩ := hm
        have hT := hM.2.2.2.1
        have hp1 := hp.1.1
        have e1 : ¬ zI p = -1 := by rw [zl_m1, zI_J, zJ_eq (by omega) (by omega) (by omega) (by omega)]; omega
        try dsimp only
        rw [ep, bi_s, if_neg e1]
        exact ⟨8, rfl, zM_W hM (show 2 < 3 by omega)⟩
    · rw [if_neg d4]
      exact h40 (fun h => d4 h.2)
  · rw [if_neg c6]
    exact h40 (fun h => c6 h.1)
end CF
/-- the parts of a value: where part number l lies among the kids from k on (m of them before the last) -/
def zpre (t : zT) : Nat → Nat → Nat → Nat × Nat
  | 0, k, l => (k, l)
  | m + 1, k, l => if l < zs (zc t k) then (k, l) else zpre t m (k + 1) (l - zs (zc t k))
def zfnd : Nat → zT → Nat → Option zN → zT × Option zN
  | 0, t, _, x => (t, x)
  | n + 1, t, i, x => if i = 0 then (t, x) else zfnd n (zc t (zpre t (zl t - 1) 0 (i - 1)).1) (zpre t (zl t - 1) 0 (i - 1)).2 (if zk t = 6 then some (zm t (zpre t (zl t - 1) 0 (i - 1)).1) else none)
theorem zpre_b {t : zT} : ∀ (m k l : Nat), k + m < zl t → l < zsm (fun k => zs (zc t k)) (zl t) - zsm (fun k => zs (zc t k)) k → k + m + 1 = zl t → (zpre t m k l).1 < zl t ∧ (zpre t m k l).2 < zs (zc t (zpre t m k l).1) := by
  intro m
  induction m with
  | zero =>
    intro k l hk hl he
    simp only [zpre]
    refine ⟨by omega, ?_⟩
    have : zsm (fun k => zs (zc t k)) (k + 1) = zsm (fun k => zs (zc t k)) k + zs (zc t k) := rfl
    rw [show zl t = k + 1 by omega, this] at hl
    omega
  | succ m ih =>
    intro k l hk hl he
    simp only [zpre]
    by_cases c : l < zs (zc t k)
    · rw [if_pos c]; exact ⟨by dsimp only; omega, c⟩
    · rw [if_neg c]
      refine ih (k + 1) _ (by omega) ?_ (by omega)
      have : zsm (fun k => zs (zc t k)) (k + 1) = zsm (fun k => zs (zc t k)) k + zs (zc t k) := rfl
      have h2 := zsm_mono (f := fun k => zs (zc t k)) (show k + 1 ≤ zl t by omega)
      rw [this] at h2 ⊢
      omega
section CG
variable {g : Nat → Nat} {v : mS} {T a b : Nat} {t u : zT}
theorem c_found_k {K : Int32 → Int32 → Int32 → Int32 → Int32 → mS → Option (Int32 × mS)} (hM : zM g v T) (ha : zV (v 4) T a t) (h5 : 5 ≤ zk t) {nm lv : Int32} : ∀ (m q k l : Nat), k + m + 1 = zl t → m < q → l < 100 → f_V_found_29 g K q nm (zI a) (zI l) lv (zI k) v = f_V_found_82 g K nm (zI a) (zI (zpre t m k l).2) lv (zI (zpre t m k l).1) v := by
  have lt := zwf_l ha.2
  intro m
  induction m with
  | zero =>
    intro q k l hk hq hl
    obtain ⟨q, rfl, -⟩ := suc_of hq
    rw [f_V_found_29, c_len hM ha, bi_s, zl_1, zI_sub (by omega), iI_le (by omega) (by omega), if_pos (by omega)]
    rfl
  | succ m ih =>
    intro q k l hk hq hl
    obtain ⟨q, rfl, hq⟩ := suc_of hq
    have hq := Nat.lt_of_succ_lt_succ hq
    obtain ⟨p, ep, hp⟩ := c_item hM ha h5 (show k < zl t by omega)
    have hs := hp.2.2.1
    simp only [zpre]
    rw [f_V_found_29, c_len hM ha, bi_s, zl_1, zI_sub (by omega), iI_le (by omega) (by omega), if_neg (by omega), ep, bi_s, c_size hM hp, bi_s, iI_lt (by omega) (by omega)]
    by_cases c : l < zs (zc t k)
    · rw [if_pos c, if_pos c]
    · rw [if_neg c, if_neg c, ep, bi_s, c_size hM hp, bi_s, nm_s, nm_s, zI_sub (by omega), zI_add]
      exact ih q (k + 1) _ (by omega) hq (by omega)
theorem c_found_l (hM : zM g v T) {nm : Int32} (hnm : nm = 0 ∨ nm = 1) : ∀ (n q a i lv L : Nat) (t : zT) (x : Option zN), zV (v 4) T a t → zd t ≤ n → lv + n ≤ 5 → lv + zd t ≤ 5 → 6 - lv < q → i < zs t → L < 2147483648 → (match x with | some y => zRX (v 4) T L y ∧ ztx y | none => L = 0) → ∃ p L', f_V_found_12 g q nm (zI a) (zI L) (zI i) (zI lv) v = some (if nm = 0 then zI p else zI L', v) ∧ zV (v 4) T p (zfnd n t i x).1 ∧ (match (zfnd n t i x).2 with | some y => zRX (v 4) T L' y ∧ ztx y | none => L' = 0) := by
  intro n
  induction n with
  | zero =>
    intro q a i lv L t x ha hd hlv hlv2 hq hi hL hx
    obtain ⟨q, rfl, -⟩ := suc_of hq
    have hi0 : i = 0 := by
      have hw := ha.2
      by_cases c5 : 5 ≤ zk t
      · have := (hw.2.2.2.2.2.2.2.1 c5).2.1; omega
      · have := (hw.2.2.2.1 (by omega)).1; omega
    subst hi0
    refine ⟨a, L, ?_, ha, hx⟩
    have e5 : f_V_found_12 g (q + 1) nm (zI a) (zI L) (zI 0) (zI lv) v = f_V_found_123 g nm (zI a) (zI L) v := by
      rw [f_V_found_12, zl_5, iI_le (by omega) (by omega), zl_0, iI_le (by omega) (by omega), if_pos (show 0 ≤ 0 by omega)]
      split <;> rfl
    rw [e5, f_V_found_123]
    split <;> rfl
  | succ n ih =>
    intro q a i lv L t x ha hd hlv hlv2 hq hi hL hx
    obtain ⟨q, rfl, hq⟩ := suc_of hq
    by_cases hi0 : i = 0
    · subst hi0
      refine ⟨a, L, ?_, ha, hx⟩
      have e5 : f_V_found_12 g (q + 1) nm (zI a) (zI L) (zI 0) (zI lv) v = f_V_found_123 g nm (zI a) (zI L) v := by
        rw [f_V_found_12, zl_5, iI_le (by omega) (by omega), zl_0, iI_le (by omega) (by omega), if_pos (show 0 ≤ 0 by omega)]
        split <;> rfl
      rw [e5, f_V_found_123]
      split <;> rfl
    · have hw := ha.2
      have hs24 := hw.2.1
      have lt := zwf_l hw
      have h5 : 5 ≤ zk t := by
        by_cases c5 : 5 ≤ zk t
        · exact c5
        · have := (hw.2.2.2.1 (by omega)).1; omega
      obtain ⟨hs, hdd, -⟩ := hw.2.2.2.2.2.2.2.1 h5
      have hl0 : 0 < zl t := by
        by_cases c : zl t = 0
        · rw [c] at hs; simp only [zsm] at hs; omega
        · omega
      obtain ⟨k1, k2⟩ := zpre_b (t := t) (zl t - 1) 0 (i - 1) (by omega) (by simp only [zsm]; omega) (by omega)
      have e9 : zfnd (n + 1) t i x = zfnd n (zc t (zpre t (zl t - 1) 0 (i - 1)).1) (zpre t (zl t - 1) 0 (i - 1)).2 (if zk t = 6 then some (zm t (zpre t (zl t - 1) 0 (i - 1)).1) else none) := by
        simp only [zfnd]; rw [if_neg hi0]
      rw [e9]
      obtain ⟨p, ep, hp⟩ := c_item hM ha h5 k1
      have hpd : zd (zc t (zpre t (zl t - 1) 0 (i - 1)).1) + 1 ≤ zd t := by
        have := zmx_ge (f := fun k => zd (zc t k)) k1
        try dsimp only at this
        omega
      have ka := hw.1
      have e29 := c_found_k (K := f_V_found_12 g q) (nm := nm) (lv := zI lv) hM ha h5 (zl t - 1) fu 0 (i - 1) (by omega) (fu_lt (by omega)) (by omega)
      have e12 : f_V_found_12 g (q + 1) nm (zI a) (zI L) (zI i) (zI lv) v = f_V_found_82 g (f_V_found_12 g q) nm (zI a) (zI (zpre t (zl t - 1) 0 (i - 1)).2) (zI lv) (zI (zpre t (zl t - 1) 0 (i - 1)).1) v := by
        rw [f_V_found_12, zl_5, iI_le (by omega) (by omega), if_neg (by omega), zl_0, iI_le (by omega) (by omega), if_neg (by omega), nm_s, zI_dec (by omega)]
        exact e29
      rw [e12, f_V_found_82, c_kind hM ha, bi_s, zl_6, iI_eq (by omega) (by omega)]
      generalize zpre t (zl t - 1) 0 (i - 1) = r at *
      by_cases c6 : zk t = 6
      · obtain ⟨w, ew, hw1, hw2⟩ := c_name hM ha c6 k1
        have hT := hM.2.2.2.1
        have hw3 := hw1.1
        rw [if_pos c6, if_pos c6, ew, bi_s, f_V_found_105, ep, bi_s, nm_s, zl_1, zI_add]
        exact ih q p r.2 (lv + 1) w _ _ hp (by omega) (by omega) (by omega) (by omega) k2 (by omega) ⟨hw1, hw2⟩
      · rw [if_neg c6, if_neg c6, f_V_found_105, ep, bi_s, nm_s, zl_1, zI_add, zl_0]
        exact ih q p r.2 (lv + 1) 0 _ _ hp (by omega) (by omega) (by omega) (by omega) k2 (by omega) rfl
theorem c_partAt (hM : zM g v T) (ha : zV (v 4) T a t) {i : Nat} (hi : i < zs t) : ∃ p, f_V_partAt g v (zI a) (zI i) = some (zI p, v) ∧ zV (v 4) T p (zfnd 5 t i none).1 := by
  have h5 := ha.2.2.2.1
  obtain ⟨p, L', e, hp, -⟩ := c_found_l hM (Or.inl rfl) 5 fu a i 0 0 t none ha h5 (by omega) (by omega) (fu_lt (by omega)) hi (by omega) rfl
  refine ⟨p, ?_, hp⟩
  have e : f_V_found g v (zI a) (zI i) 0 = some (zI p, v) := e
  rw [f_V_partAt, e, bi_s]
theorem c_nameOf (hM : zM g v T) (ha : zV (v 4) T a t) {i : Nat} (hi : i < zs t) : ∃ p, f_V_nameOfPart g v (zI a) (zI i) = some (zI p, v) ∧ (match (zfnd 5 t i none).2 with | some y => zRX (v 4) T p y ∧ ztx y | none => p = 0) := by
  have h5 := ha.2.2.2.1
  obtain ⟨p, L', e, -, hp⟩ := c_found_l hM (Or.inr rfl) 5 fu a i 0 0 t none ha h5 (by omega) (by omega) (fu_lt (by omega)) hi (by omega) rfl
  refine ⟨L', ?_, hp⟩
  have e : f_V_found g v (zI a) (zI i) 1 = some (zI L', v) := e
  rw [f_V_nameOfPart, e, bi_s]
end CG
