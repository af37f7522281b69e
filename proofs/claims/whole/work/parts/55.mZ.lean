/-! the reference: merging objects -/
section MZ
variable {v : mS} {T a b : Nat} {t u : zT}
theorem m_m74 {K : Int32 → Int32 → Int32 → Int32 → Int32 → mS → Option (Int32 × mS)} (hM : mM v T) (ha : zU (v 6) T a t) (hb : zU (v 6) T b u) (kt : zk t = 6) (ku : zk u = 6) {i j n : Nat} {c : Int} (hc : c = -1 ∨ c = 0 ∨ c = 1) (c1 : c ≤ 0 → i < zl t) (c2 : 0 ≤ c → j < zl u) (hi : i ≤ zl t) (hj : j ≤ zl u) (hn : n < 12) : ∃ p q, f_M_merged_74 K (zI a) (zI b) (zI n) (zI i) (zI j) (zJ c) v = K (zI a) (zI b) (zI (n + 1)) (zI (if c ≤ 0 then i + 1 else i)) (zI (if 0 ≤ c then j + 1 else j)) (sU (sU v 11 n (zI p)) 10 n (zI q)) ∧ zRY (v 6) T p (if c < 0 then zm t i else zm u j) ∧ ztx (if c < 0 then zm t i else zm u j) ∧ zU (v 6) T q (if c < 0 then zc t i else zc u j) := by
  have hle : (0 ≤ zJ c) = (0 ≤ c) := by rw [zl_0, zI_J, zJ_le (by omega) (by omega) (by omega) (by omega)] <;> rfl
  have hlt : (0 < zJ c) = (0 < c) := by rw [zl_0, zI_J, zJ_lt (by omega) (by omega) (by omega) (by omega)] <;> rfl
  have hgt : (zJ c < 0) = (c < 0) := by rw [zl_0, zI_J, zJ_lt (by omega) (by omega) (by omega) (by omega)] <;> rfl
  have lt := zwf_l ha.2
  have lu := zwf_l hb.2
  rw [f_M_merged_74, ite_p hle]
  by_cases cn : c < 0
  · obtain ⟨p, ep, hp, hp2⟩ := m_name hM ha kt (c1 (by omega))
    have hM1 : mM (sU v 11 n (zI p)) T := mM_w hM (by rw [sU_j (by decide)]) (fun i _ => by rw [sU_j (by decide)])
    have ha1 : zU (sU v 11 n (zI p) 6) T a t := by rw [sU_j (by decide)]; exact ha
    obtain ⟨q, eq, hq⟩ := m_item hM1 ha1 (by omega) (c1 (by omega))
    rw [sU_j (by decide)] at hq
    refine ⟨p, q, ?_, ?_, ?_, ?_⟩
    · rw [if_neg (show ¬ 0 ≤ c by omega), ep, bi_s, f_M_merged_103, gd_I (by omega) (by omega), nm_s, zI_toNat (by omega), ite_p hle, if_neg (show ¬ 0 ≤ c by omega), eq, bi_s, f_M_merged_131, gd_I (by omega) (by omega), nm_s, nm_s, zI_toNat (by omega), ite_p hlt, if_neg (show ¬ 0 < c by omega), nm_s, f_M_merged_143, ite_p hgt, if_pos cn, f_M_merged_151, zl_1, zI_add, zI_add, if_pos (show c ≤ 0 by omega), if_neg (show ¬ 0 ≤ c by omega)]
    · rw [if_pos cn]; exact hp
    · rw [if_pos cn]; exact hp2
    · rw [if_pos cn]; exact hq
  · obtain ⟨p, ep, hp, hp2⟩ := m_name hM hb ku (c2 (by omega))
    have hM1 : mM (sU v 11 n (zI p)) T := mM_w hM (by rw [sU_j (by decide)]) (fun i _ => by rw [sU_j (by decide)])
    have hb1 : zU (sU v 11 n (zI p) 6) T b u := by rw [sU_j (by decide)]; exact hb
    obtain ⟨q, eq, hq⟩ := m_item hM1 hb1 (by omega) (c2 (by omega))
    rw [sU_j (by decide)] at hq
    refine ⟨p, q, ?_, ?_, ?_, ?_⟩
    · rw [if_pos (show 0 ≤ c by omega), ep, bi_s, f_M_merged_103, gd_I (by omega) (by omega), nm_s, zI_toNat (by omega), ite_p hle, if_pos (show 0 ≤ c by omega), eq, bi_s, f_M_merged_131, gd_I (by omega) (by omega), nm_s, nm_s, zI_toNat (by omega), ite_p hlt]
      by_cases c0 : 0 < c
      · rw [if_pos c0, f_M_merged_143, ite_p hgt, if_neg cn, nm_s, f_M_merged_151, zl_1, zI_add, zI_add, if_neg (show ¬ c ≤ 0 by omega), if_pos (show 0 ≤ c by omega)]
      · rw [if_neg c0, nm_s, f_M_merged_143, ite_p hgt, if_neg cn, nm_s, f_M_merged_151, zl_1, zI_add, zI_add, zI_add, if_pos (show c ≤ 0 by omega), if_pos (show 0 ≤ c by omega)]
    · rw [if_neg cn]; exact hp
    · rw [if_neg cn]; exact hp2
    · rw [if_neg cn]; exact hq
theorem m_m28 {K : Int32 → Int32 → Int32 → Int32 → Int32 → mS → Option (Int32 × mS)} (hM : mM v T) (ha : zU (v 6) T a t) (hb : zU (v 6) T b u) (kt : zk t = 6) (ku : zk u = 6) {i j n : Nat} (hi : i ≤ zl t) (hj : j ≤ zl u) (hij : i < zl t ∨ j < zl u) : f_M_merged_28 K (zI a) (zI b) (zI n) (zI i) (zI j) v = f_M_merged_74 K (zI a) (zI b) (zI n) (zI i) (zI j) (zJ (zmc t u i j)) v := by
  have lt := zwf_l ha.2
  have lu := zwf_l hb.2
  unfold zmc
  rw [f_M_merged_28, m_size hM ha, bi_s, iI_eq (by omega) (by omega)]
  by_cases c2 : i = zl t
  · rw [if_pos c2, if_neg (by omega), if_pos c2]
    rfl
  · rw [if_neg c2, m_size hM hb, bi_s, iI_eq (by omega) (by omega)]
    by_cases c1 : j = zl u
    · rw [if_pos c1, if_pos c1]
      rfl
    · obtain ⟨p, ep, hp, hp2⟩ := m_name hM ha kt (show i < zl t by omega)
      obtain ⟨q, eq, hq, hq2⟩ := m_name hM hb ku (show j < zl u by omega)
      rw [if_neg c1, if_neg c1, if_neg c2, ep, bi_s, eq, bi_s, m_text hM hp hq hp2 hq2, bi_s]
def mI2 (v : mS) (T : Nat) (r : zMr) : Prop := (∀ k, k < r.1 → ∃ b, v 10 k = zI b ∧ zU (v 6) T b (r.2.2 k)) ∧ ∀ k, k < r.1 → ∃ b, v 11 k = zI b ∧ zRY (v 6) T b (r.2.1 k) ∧ ztx (r.2.1 k)
theorem mI2_s {p q : Nat} {r : zMr} {x : zN} {y : zT} (h : mI2 v T r) (hp : zRY (v 6) T p x) (hx : ztx x) (hq : zU (v 6) T q y) : mI2 (sU (sU v 11 r.1 (zI p)) 10 r.1 (zI q)) T (r.1 + 1, va_up r.2.1 r.1 x, va_up r.2.2 r.1 y) := by
  have e4 : sU (sU v 11 r.1 (zI p)) 10 r.1 (zI q) 6 = v 6 := by rw [sU_j (by decide), sU_j (by decide)]
  refine ⟨fun k hk => ?_, fun k hk => ?_⟩
  · dsimp only at hk ⊢
    rw [e4]
    by_cases c : k = r.1
    · subst c
      refine ⟨q, sU_hit, ?_⟩
      unfold va_up; rw [if_pos rfl]; exact hq
    · obtain ⟨b, e, hb⟩ := h.1 k (by omega)
      refine ⟨b, ?_, ?_⟩
      · rw [sU_k c, sU_j (by decide)]; exact e
      · unfold va_up; rw [if_neg c]; exact hb
  · dsimp only at hk ⊢
    rw [e4]
    by_cases c : k = r.1
    · subst c
      refine ⟨p, ?_, ?_, ?_⟩
      · rw [sU_j (by decide)]; exact sU_hit
      · unfold va_up; rw [if_pos rfl]; exact hp
      · unfold va_up; rw [if_pos rfl]; exact hx
    · obtain ⟨b, e, hb, hb2⟩ := h.2 k (by omega)
      refine ⟨b, ?_, ?_, ?_⟩
      · rw [sU_j (by decide), sU_k c]; exact e
      · unfold va_up; rw [if_neg c]; exact hb
      · unfold va_up; rw [if_neg c]; exact hb2
theorem m_merge_l (kt : zk t = 6) (ku : zk u = 6) (hx : ∀ k, k + 1 < zl t → zct (zm t k) (zm t (k + 1)) = -1) (hy : ∀ k, k + 1 < zl u → zct (zm u k) (zm u (k + 1)) = -1) (ht6 : zl t ≤ 6) (hu6 : zl u ≤ 6) : ∀ (m q i j : Nat) (r : zMr) (v : mS), mM v T → zU (v 6) T a t → zU (v 6) T b u → m < q → (zl t - i) + (zl u - j) ≤ m → i ≤ zl t → j ≤ zl u → r.1 ≤ i + j → mI2 v T r → zris t u i j r → ∃ v', f_M_merged_8 q (zI a) (zI b) (zI r.1) (zI i) (zI j) v = f_M_object v' (zI (zmrg t u m i j r).1) ∧ mI2 v' T (zmrg t u m i j r) ∧ (∀ k, k + 1 < (zmrg t u m i j r).1 → zct ((zmrg t u m i j r).2.1 k) ((zmrg t u m i j r).2.1 (k + 1)) = -1) ∧ (zmrg t u m i j r).1 ≤ 12 ∧ mM v' T ∧ v' 6 = v 6 ∧ ∀ j, j ≠ 10 → j ≠ 11 → v' j = v j := by
  intro m
  induction m with
  | zero =>
    intro q i j r v hM ha hb hq hm hi hj hr h2 hs
    obtain ⟨q, rfl, -⟩ := suc_of hq
    refine ⟨v, ?_, h2, hs.1, by simp only [zmrg]; omega, hM, rfl, fun _ _ _ => rfl⟩
    rw [f_M_merged_8, m_size hM ha, bi_s, iI_lt (by omega) (by omega), if_neg (by omega), m_size hM hb, bi_s, iI_le (by omega) (by omega), if_pos (by omega), bi_id (fun _ _ => by rfl)]
    rfl
  | succ m ih =>
    intro q i j r v hM ha hb hq hm hi hj hr h2 hs
    obtain ⟨q, rfl, hq⟩ := suc_of hq
    have hq := Nat.lt_of_succ_lt_succ hq
    by_cases hij : i < zl t ∨ j < zl u
    · have e28 : f_M_merged_8 (q + 1) (zI a) (zI b) (zI r.1) (zI i) (zI j) v = f_M_merged_28 (f_M_merged_8 q) (zI a) (zI b) (zI r.1) (zI i) (zI j) v := by
        rw [f_M_merged_8, m_size hM ha, bi_s, iI_lt (by omega) (by omega)]
        by_cases c : i < zl t
        · rw [if_pos c]
        · rw [if_neg c, m_size hM hb, bi_s, iI_le (by omega) (by omega), if_neg (by omega)]
      obtain ⟨c1, c2⟩ := zmc_in hi hj hij
      have hcr := zmc_r t u i j
      obtain ⟨p, w, e, hp, hp2, hw⟩ := m_m74 (K := f_M_merged_8 q) hM ha hb kt ku hcr c1 c2 hi hj (show r.1 < 12 by omega)
      have e4 : sU (sU v 11 r.1 (zI p)) 10 r.1 (zI w) 6 = v 6 := by rw [sU_j (by decide), sU_j (by decide)]
      obtain ⟨v', f1, f2, f3, f4, f5, f6, f7⟩ := ih q _ _ _ _ (mM_w hM (by rw [sU_j (by decide), sU_j (by decide)]) (fun i _ => by rw [e4])) (by rw [e4]; exact ha) (by rw [e4]; exact hb) hq (by split <;> split <;> omega) (by split <;> omega) (by split <;> omega) (by dsimp only; split <;> split <;> omega) (mI2_s h2 hp hp2 hw) (zris_s hx hy hi hj hij hs)
      have e9 : zmrg t u (m + 1) i j r = zmrg t u m (if zmc t u i j ≤ 0 then i + 1 else i) (if 0 ≤ zmc t u i j then j + 1 else j) (r.1 + 1, va_up r.2.1 r.1 (if zmc t u i j < 0 then zm t i else zm u j), va_up r.2.2 r.1 (if zmc t u i j < 0 then zc t i else zc u j)) := by
        simp only [zmrg]; rw [if_pos hij]
      rw [e9]
      refine ⟨v', ?_, f2, f3, f4, f5, f6.trans e4, fun j j2 j3 => ?_⟩
      · rw [e28, m_m28 hM ha hb kt ku hi hj hij, e]
        exact f1
      · rw [f7 j j2 j3, sU_j j2, sU_j j3]
    · have e9 : zmrg t u (m + 1) i j r = r := by simp only [zmrg]; rw [if_neg hij]
      rw [e9]
      refine ⟨v, ?_, h2, hs.1, by omega, hM, rfl, fun _ _ _ => rfl⟩
      rw [f_M_merged_8, m_size hM ha, bi_s, iI_lt (by omega) (by omega), if_neg (by omega), m_size hM hb, bi_s, iI_le (by omega) (by omega), if_pos (by omega), bi_id (fun _ _ => by rfl)]
theorem mP_E {F : Option (Int32 × mS)} {v1 : mS} {T1 c c' : Nat} {sp : Option (Nat ⊕ zT)} (h : mE v T v1 T1) (h21 : v1 0 21 = v 0 21) (k : mP F v1 T1 c sp) (hc : T1 + c ≤ T + c') : mP F v T c' sp := by
  obtain ⟨v', T', m, e, hT, p⟩ := k
  refine ⟨v', T', m, h.tr e, by omega, ?_⟩
  cases sp with
  | none => exact p
  | some w =>
    cases w with
    | inl e1 => exact ⟨p.1, p.2.trans h21⟩
    | inr t1 => obtain ⟨a1, p1, p2, p3⟩ := p; exact ⟨a1, p1, p2, p3.trans h21⟩
theorem m_merged (hM : mM v T) (ha : zU (v 6) T a t) (hb : zU (v 6) T b u) (kt : zk t = 6) (ku : zk u = 6) (hT : T + 16 ≤ 63900) : mP (f_M_merged v (zI a) (zI b)) v T 16 (zmkO (zmer t u).1 (zmer t u).2.1 (zmer t u).2.2) := by
  obtain ⟨ht6, -, hx⟩ := ha.2.2.2.2.2.2.2.2.2.2 kt
  obtain ⟨hu6, -, hy⟩ := hb.2.2.2.2.2.2.2.2.2.2 ku
  obtain ⟨v1, f1, f2, f3, f4, f5, f6, f7⟩ := m_merge_l (T := T) kt ku hx hy ht6 hu6 12 fu 0 0 zM0 v hM ha hb (fu_lt (by omega)) (by omega) (by omega) (by omega) (by simp [zM0]) ⟨fun k hk => absurd hk (by simp [zM0]), fun k hk => absurd hk (by simp [zM0])⟩ ⟨fun k hk => absurd hk (by simp [zM0]), fun h => absurd h (by simp [zM0])⟩
  have e0 : f_M_merged v (zI a) (zI b) = f_M_merged_8 fu (zI a) (zI b) (zI zM0.1) (zI 0) (zI 0) v := rfl
  rw [e0, f1]
  change mP (f_M_object v1 (zI (zmer t u).1)) v T 16 _
  change mI2 v1 T (zmer t u) at f2
  change ∀ k, k + 1 < (zmer t u).1 → zct ((zmer t u).2.1 k) ((zmer t u).2.1 (k + 1)) = -1 at f3
  change (zmer t u).1 ≤ 12 at f4
  have hE1 : mE v T v1 T := ⟨Nat.le_refl _, fun i _ => by rw [f6], fun j _ _ j10 j11 _ _ => f7 j j10 j11, fun k _ _ _ => by rw [f7 0 (by decide) (by decide)]⟩
  exact mP_E hE1 (by rw [f7 0 (by decide) (by decide)]) (m_object f5 (by omega) f2.1 f2.2 f3 hT) (Nat.le_refl _)
/-- how many are merged: no fewer than one's own and those of the other that it has not -/
theorem zmem_no {t : zT} {x : zN} : ∀ (m i : Nat), zmem t x m i = none → ∀ k, i ≤ k → k < i + m → zct (zm t k) x ≠ 0 := by
  intro m
  induction m with
  | zero => intro i _ k h1 h2; omega
  | succ m ih =>
    intro i h k h1 h2
    simp only [zmem] at h
    by_cases c : zct (zm t i) x = 0
    · rw [if_pos c] at h; cases h
    · rw [if_neg c] at h
      by_cases hk : k = i
      · rw [hk]; exact c
      · exact ih (i + 1) h k (by omega) (by omega)
theorem zmem_lt {t : zT} {x : zN} : ∀ (m i : Nat) {k : Nat}, zmem t x m i = some k → i ≤ k ∧ k < i + m := by
  intro m
  induction m with
  | zero => intro i k h; cases h
  | succ m ih =>
    intro i k h
    simp only [zmem] at h
    by_cases c : zct (zm t i) x = 0
    · rw [if_pos c] at h; cases h; omega
    · rw [if_neg c] at h
      have := ih (i + 1) h
      omega
def zext (t u : zT) : Nat → Nat
  | 0 => 0
  | j + 1 => zext t u j + (if zmem t (zm u j) (zl t) 0 = none then 1 else 0)
theorem zmrg_ge (x y : zT) : ∀ (m i j : Nat) (r : zMr), i ≤ zl x → j ≤ zl y → (zl x - i) + (zl y - j) ≤ m → r.1 + (zl x - i) + (zext x y (zl y) - zext x y j) ≤ (zmrg x y m i j r).1 := by
  have hmono : ∀ a b, a ≤ b → zext x y a ≤ zext x y b := by
    intro a b h
    induction b with
    | zero => have : a = 0 := by omega
              subst this; exact Nat.le_refl _
    | succ b ih =>
      by_cases c : a = b + 1
      · subst c; exact Nat.le_refl _
      · have := ih (by omega); simp only [zext]; omega
  intro m
  induction m with
  | zero =>
    intro i j r hi hj hm
    have h1 : i = zl x := by omega
    have h2 : j = zl y := by omega
    subst h1
    subst h2
    simp only [zmrg]
    omega
  | succ m ih =>
    intro i j r hi hj hm
    simp only [zmrg]
    by_cases c : i < zl x ∨ j < zl y
    · rw [if_pos c]
      obtain ⟨c1, c2⟩ := zmc_in hi hj c
      have hr := zmc_r x y i j
      have h := ih (if zmc x y i j ≤ 0 then i + 1 else i) (if 0 ≤ zmc x y i j then j + 1 else j) (r.1 + 1, va_up r.2.1 r.1 (if zmc x y i j < 0 then zm x i else zm y j), va_up r.2.2 r.1 (if zmc x y i j < 0 then zc x i else zc y j)) (by split <;> omega) (by split <;> omega) (by split <;> split <;> omega)
      try dsimp only at h
      refine Nat.le_trans ?_ h
      by_cases cn : zmc x y i j < 0
      · rw [if_pos (show zmc x y i j ≤ 0 by omega), if_neg (show ¬ 0 ≤ zmc x y i j by omega)]
        have := c1 (by omega)
        omega
      · have hjy := c2 (by omega)
        have hj1 := hmono (j + 1) (zl y) (by omega)
        rw [if_pos (show 0 ≤ zmc x y i j by omega)]
        have e9 : zext x y (j + 1) = zext x y j + (if zmem x (zm y j) (zl x) 0 = none then 1 else 0) := rfl
        by_cases c0 : zmc x y i j = 0
        · rw [if_pos (by omega)]
          have hix := c1 (by omega)
          have hz : zct (zm x i) (zm y j) = 0 := by
            have : zmc x y i j = zct (zm x i) (zm y j) := by unfold zmc; rw [if_neg (by omega), if_neg (by omega)]
            omega
          have hne : zmem x (zm y j) (zl x) 0 ≠ none := fun h9 => zmem_no _ _ h9 i (by omega) (by omega) hz
          rw [if_neg hne] at e9
          omega
        · rw [if_neg (by omega)]
          split at e9 <;> omega
    · rw [if_neg c]
      have h1 : i = zl x := by omega
      have h2 : j = zl y := by omega
      subst h1
      subst h2
      omega
end MZ
