/-! the class's Values: merging objects -/
theorem zmc_r (x y : zT) (i j : Nat) : zmc x y i j = -1 ∨ zmc x y i j = 0 ∨ zmc x y i j = 1 := by
  unfold zmc
  split
  · exact Or.inl rfl
  · split
    · exact Or.inr (Or.inr rfl)
    · exact zct_r _ _
theorem zmc_in {x y : zT} {i j : Nat} (hi : i ≤ zl x) (hj : j ≤ zl y) (h : i < zl x ∨ j < zl y) : (zmc x y i j ≤ 0 → i < zl x) ∧ (0 ≤ zmc x y i j → j < zl y) := by
  unfold zmc
  by_cases c1 : j = zl y
  · rw [if_pos c1]; omega
  · rw [if_neg c1]
    by_cases c2 : i = zl x
    · rw [if_pos c2]; omega
    · rw [if_neg c2]; omega
/-- the names of what is merged rise -/
def zris (x y : zT) (i j : Nat) (r : zMr) : Prop := (∀ k, k + 1 < r.1 → zct (r.2.1 k) (r.2.1 (k + 1)) = -1) ∧ (0 < r.1 → (i < zl x → zct (r.2.1 (r.1 - 1)) (zm x i) = -1) ∧ (j < zl y → zct (r.2.1 (r.1 - 1)) (zm y j) = -1))
theorem zris_s {x y : zT} (hx : ∀ k, k + 1 < zl x → zct (zm x k) (zm x (k + 1)) = -1) (hy : ∀ k, k + 1 < zl y → zct (zm y k) (zm y (k + 1)) = -1) {i j : Nat} {r : zMr} (hi : i ≤ zl x) (hj : j ≤ zl y) (hij : i < zl x ∨ j < zl y) (h : zris x y i j r) : zris x y (if zmc x y i j ≤ 0 then i + 1 else i) (if 0 ≤ zmc x y i j then j + 1 else j) (r.1 + 1, va_up r.2.1 r.1 (if zmc x y i j < 0 then zm x i else zm y j), va_up r.2.2 r.1 (if zmc x y i j < 0 then zc x i else zc y j)) := by
  obtain ⟨h1, h2⟩ := h
  obtain ⟨c1, c2⟩ := zmc_in hi hj hij
  have hr := zmc_r x y i j
  have hz : i < zl x → j < zl y → zmc x y i j = zct (zm x i) (zm y j) := by
    intro a b
    unfold zmc
    rw [if_neg (by omega), if_neg (by omega)]
  refine ⟨fun k hk => ?_, fun _ => ?_⟩
  · dsimp only at hk ⊢
    by_cases ck : k + 1 = r.1
    · have e1 : va_up r.2.1 r.1 (if zmc x y i j < 0 then zm x i else zm y j) k = r.2.1 k := by unfold va_up; rw [if_neg (by omega)]
      have e2 : va_up r.2.1 r.1 (if zmc x y i j < 0 then zm x i else zm y j) (k + 1) = if zmc x y i j < 0 then zm x i else zm y j := by unfold va_up; rw [if_pos ck]
      rw [e1, e2]
      have h3 := h2 (by omega)
      rw [show r.1 - 1 = k by omega] at h3
      by_cases c : zmc x y i j < 0
      · rw [if_pos c]; exact h3.1 (c1 (by omega))
      · rw [if_neg c]; exact h3.2 (c2 (by omega))
    · have e1 : va_up r.2.1 r.1 (if zmc x y i j < 0 then zm x i else zm y j) k = r.2.1 k := by unfold va_up; rw [if_neg (by omega)]
      have e2 : va_up r.2.1 r.1 (if zmc x y i j < 0 then zm x i else zm y j) (k + 1) = r.2.1 (k + 1) := by unfold va_up; rw [if_neg (by omega)]
      rw [e1, e2]
      exact h1 k (by omega)
  · dsimp only
    have e1 : va_up r.2.1 r.1 (if zmc x y i j < 0 then zm x i else zm y j) (r.1 + 1 - 1) = if zmc x y i j < 0 then zm x i else zm y j := by unfold va_up; rw [if_pos (by omega)]
    rw [e1]
    by_cases cn : zmc x y i j < 0
    · rw [if_pos cn, if_pos (show zmc x y i j ≤ 0 by omega), if_neg (show ¬ 0 ≤ zmc x y i j by omega)]
      refine ⟨fun a => hx i (by omega), fun a => ?_⟩
      rw [← hz (c1 (by omega)) a]; omega
    · rw [if_neg cn, if_pos (show 0 ≤ zmc x y i j by omega)]
      refine ⟨fun a => ?_, fun a => hy j (by omega)⟩
      by_cases c0 : zmc x y i j = 0
      · rw [if_pos (by omega)] at a ⊢
        have hix := c1 (by omega)
        have hjy := c2 (by omega)
        have e := hz hix hjy
        rw [← zct_con (a := zm x i) (b := zm y j) _ (by omega)]
        exact hx i (by omega)
      · rw [if_neg (by omega)] at a ⊢
        have e := hz a (c2 (by omega))
        rw [zct_neg (zm x i) (zm y j)]
        omega
section CZ
variable {g : Nat → Nat} {v : mS} {T a b : Nat} {t u : zT}
theorem c_m95 {K : Int32 → Int32 → Int32 → Int32 → Int32 → (Nat → Nat) → mS → Option (bO Int32)} (hM : zM g v T) (ha : zV (v 4) T a t) (hb : zV (v 4) T b u) (kt : zk t = 6) (ku : zk u = 6) {i j n : Nat} {c : Int} (hc : c = -1 ∨ c = 0 ∨ c = 1) (c1 : c ≤ 0 → i < zl t) (c2 : 0 ≤ c → j < zl u) (hi : i ≤ zl t) (hj : j ≤ zl u) (hn : n < 12) : ∃ p q, f_V_merged_95 K (zI a) (zI b) (zI i) (zI j) (zI n) (zJ c) g v = K (zI a) (zI b) (zI (if c ≤ 0 then i + 1 else i)) (zI (if 0 ≤ c then j + 1 else j)) (zI (n + 1)) g (sU (sU v 3 n (zI p)) 2 n (zI q)) ∧ zRX (v 4) T p (if c < 0 then zm t i else zm u j) ∧ ztx (if c < 0 then zm t i else zm u j) ∧ zV (v 4) T q (if c < 0 then zc t i else zc u j) := by
  have hle : (0 ≤ zJ c) = (0 ≤ c) := by rw [zl_0, zI_J, zJ_le (by omega) (by omega) (by omega) (by omega)] <;> rfl
  have hlt : (0 < zJ c) = (0 < c) := by rw [zl_0, zI_J, zJ_lt (by omega) (by omega) (by omega) (by omega)] <;> rfl
  have hgt : (zJ c < 0) = (c < 0) := by rw [zl_0, zI_J, zJ_lt (by omega) (by omega) (by omega) (by omega)] <;> rfl
  have lt := zwf_l ha.2
  have lu := zwf_l hb.2
  rw [f_V_merged_95, ite_p hle]
  by_cases cn : c < 0
  · obtain ⟨p, ep, hp, hp2⟩ := c_name hM ha kt (c1 (by omega))
    have hM1 : zM g (sU v 3 n (zI p)) T := zM_w hM (sU_j (by decide)) (fun i _ => by rw [sU_j (by decide)])
    have ha1 : zV (sU v 3 n (zI p) 4) T a t := by rw [sU_j (by decide)]; exact ha
    obtain ⟨q, eq, hq⟩ := c_item hM1 ha1 (by omega) (c1 (by omega))
    rw [sU_j (by decide)] at hq
    refine ⟨p, q, ?_, ?_, ?_, ?_⟩
    · rw [if_neg (show ¬ 0 ≤ c by omega), ep, bi_s, f_V_merged_124, gd_I hn (by omega), nm_s, zI_toNat (by omega), ite_p hle, if_neg (show ¬ 0 ≤ c by omega), eq, bi_s, f_V_merged_152, gd_I (by omega) (by omega), nm_s, nm_s, zI_toNat (by omega), ite_p hlt, if_neg (show ¬ 0 < c by omega), f_V_merged_167, nm_s, ite_p hgt, if_pos cn, f_V_merged_181, nm_s, zl_1, zl_0, zI_add, zI_add, zI_add, if_pos (show c ≤ 0 by omega), if_neg (show ¬ 0 ≤ c by omega)]
      rfl
    · rw [if_pos cn]; exact hp
    · rw [if_pos cn]; exact hp2
    · rw [if_pos cn]; exact hq
  · obtain ⟨p, ep, hp, hp2⟩ := c_name hM hb ku (c2 (by omega))
    have hM1 : zM g (sU v 3 n (zI p)) T := zM_w hM (sU_j (by decide)) (fun i _ => by rw [sU_j (by decide)])
    have hb1 : zV (sU v 3 n (zI p) 4) T b u := by rw [sU_j (by decide)]; exact hb
    obtain ⟨q, eq, hq⟩ := c_item hM1 hb1 (by omega) (c2 (by omega))
    rw [sU_j (by decide)] at hq
    refine ⟨p, q, ?_, ?_, ?_, ?_⟩
    · rw [if_pos (show 0 ≤ c by omega), ep, bi_s, f_V_merged_124, gd_I hn (by omega), nm_s, zI_toNat (by omega), ite_p hle, if_pos (show 0 ≤ c by omega), eq, bi_s, f_V_merged_152, gd_I (by omega) (by omega), nm_s, nm_s, zI_toNat (by omega), ite_p hlt]
      by_cases c0 : 0 < c
      · rw [if_pos c0, f_V_merged_167, nm_s, ite_p hgt, if_neg cn, f_V_merged_181, nm_s, zl_1, zl_0, zI_add, zI_add, zI_add, if_neg (show ¬ c ≤ 0 by omega), if_pos (show 0 ≤ c by omega)]
        rfl
      · rw [if_neg c0, f_V_merged_167, nm_s, ite_p hgt, if_neg cn, f_V_merged_181, nm_s, zl_1, zI_add, zI_add, zI_add, if_pos (show c ≤ 0 by omega), if_pos (show 0 ≤ c by omega)]
    · rw [if_neg cn]; exact hp
    · rw [if_neg cn]; exact hp2
    · rw [if_neg cn]; exact hq
theorem c_m27 {K : Int32 → Int32 → Int32 → Int32 → Int32 → (Nat → Nat) → mS → Option (bO Int32)} (hM : zM g v T) (ha : zV (v 4) T a t) (hb : zV (v 4) T b u) (kt : zk t = 6) (ku : zk u = 6) {i j n : Nat} (hi : i ≤ zl t) (hj : j ≤ zl u) (hij : i < zl t ∨ j < zl u) : f_V_merged_27 K (zI a) (zI b) (zI i) (zI j) (zI n) g v = f_V_merged_95 K (zI a) (zI b) (zI i) (zI j) (zI n) (zJ (zmc t u i j)) g v := by
  have lt := zwf_l ha.2
  have lu := zwf_l hb.2
  unfold zmc
  rw [f_V_merged_27, c_len hM hb, bi_s, iI_eq (by omega) (by omega)]
  by_cases c1 : j = zl u
  · rw [if_pos c1, if_pos c1, f_V_merged_42, c_len hM ha, bi_s, iI_eq (by omega) (by omega), if_neg (by omega), f_V_merged_58, if_neg (by decide)]
    rfl
  · rw [if_neg c1, if_neg c1, f_V_merged_42, c_len hM ha, bi_s, iI_eq (by omega) (by omega)]
    by_cases c2 : i = zl t
    · rw [if_pos c2, if_pos c2, f_V_merged_58, if_pos rfl, if_neg (by decide)]
      rfl
    · rw [if_neg c2, if_neg c2, f_V_merged_58, if_pos rfl, if_pos rfl]
      obtain ⟨p, ep, hp, hp2⟩ := c_name hM ha kt (show i < zl t by omega)
      obtain ⟨q, eq, hq, hq2⟩ := c_name hM hb ku (show j < zl u by omega)
      rw [ep, bi_s, eq, bi_s, c_texts hM hp hq hp2 hq2, bi_s]
def zI2 (v : mS) (T : Nat) (r : zMr) : Prop := (∀ k, k < r.1 → ∃ b, v 2 k = zI b ∧ zV (v 4) T b (r.2.2 k)) ∧ ∀ k, k < r.1 → ∃ b, v 3 k = zI b ∧ zRX (v 4) T b (r.2.1 k) ∧ ztx (r.2.1 k)
theorem zI2_s {p q : Nat} {r : zMr} {x : zN} {y : zT} (h : zI2 v T r) (hp : zRX (v 4) T p x) (hx : ztx x) (hq : zV (v 4) T q y) : zI2 (sU (sU v 3 r.1 (zI p)) 2 r.1 (zI q)) T (r.1 + 1, va_up r.2.1 r.1 x, va_up r.2.2 r.1 y) := by
  have e4 : sU (sU v 3 r.1 (zI p)) 2 r.1 (zI q) 4 = v 4 := by rw [sU_j (by decide), sU_j (by decide)]
  refine ⟨fun k hk => ?_, fun k hk => ?_⟩
  · dsimp only at hk ⊢
    rw [e4]
    by_cases c : k = r.1
    · subst c
      refine ⟨q, sU_hit, ?_⟩
      unfold va_up; rw [if_pos rfl]; exact hq
    · obtain ⟨b, e, hb⟩ := h.1 k (by omega)
      refine ⟨b, ?_, ?_⟩
      · rw [sU_k c, sU_j (by decide)]; exact e
      · unfold va_up; rw [if_neg c]; exact hb
  · dsimp only at hk ⊢
    rw [e4]
    by_cases c : k = r.1
    · subst c
      refine ⟨p, ?_, ?_, ?_⟩
      · rw [sU_j (by decide)]; exact sU_hit
      · unfold va_up; rw [if_pos rfl]; exact hp
      · unfold va_up; rw [if_pos rfl]; exact hx
    · obtain ⟨b, e, hb, hb2⟩ := h.2 k (by omega)
      refine ⟨b, ?_, ?_, ?_⟩
      · rw [sU_j (by decide), sU_k c]; exact e
      · unfold va_up; rw [if_neg c]; exact hb
      · unfold va_up; rw [if_neg c]; exact hb2
theorem c_merge_l (kt : zk t = 6) (ku : zk u = 6) (hx : ∀ k, k + 1 < zl t → zct (zm t k) (zm t (k + 1)) = -1) (hy : ∀ k, k + 1 < zl u → zct (zm u k) (zm u (k + 1)) = -1) (ht6 : zl t ≤ 6) (hu6 : zl u ≤ 6) : ∀ (m q i j : Nat) (r : zMr) (v : mS), zM g v T → zV (v 4) T a t → zV (v 4) T b u → m < q → (zl t - i) + (zl u - j) ≤ m → i ≤ zl t → j ≤ zl u → r.1 ≤ i + j → zI2 v T r → zris t u i j r → ∃ v', f_V_merged_8 q (zI a) (zI b) (zI i) (zI j) (zI r.1) g v = bo (f_V_open g v' 6 (zI (zmrg t u m i j r).1)) (fun r9 g9 v9 => f_V_merged_195 (zI (zmrg t u m i j r).1) r9 g9 v9) ∧ zI2 v' T (zmrg t u m i j r) ∧ (∀ k, k + 1 < (zmrg t u m i j r).1 → zct ((zmrg t u m i j r).2.1 k) ((zmrg t u m i j r).2.1 (k + 1)) = -1) ∧ (zmrg t u m i j r).1 ≤ 12 ∧ zM g v' T ∧ v' 4 = v 4 ∧ ∀ j, j ≠ 2 → j ≠ 3 → v' j = v j := by
  intro m
  induction m with
  | zero =>
    intro q i j r v hM ha hb hq hm hi hj hr h2 hs
    obtain ⟨q, rfl, -⟩ := suc_of hq
    refine ⟨v, ?_, h2, hs.1, by simp only [zmrg]; omega, hM, rfl, fun _ _ _ => rfl⟩
    rw [f_V_merged_8, c_len hM ha, bi_s, iI_lt (by omega) (by omega), if_neg (by omega), c_len hM hb, bi_s, iI_le (by omega) (by omega), if_pos (by omega)]
    rfl
  | succ m ih =>
    intro q i j r v hM ha hb hq hm hi hj hr h2 hs
    obtain ⟨q, rfl, hq⟩ := suc_of hq
    have hq := Nat.lt_of_succ_lt_succ hq
    by_cases hij : i < zl t ∨ j < zl u
    · have e27 : f_V_merged_8 (q + 1) (zI a) (zI b) (zI i) (zI j) (zI r.1) g v = f_V_merged_27 (f_V_merged_8 q) (zI a) (zI b) (zI i) (zI j) (zI r.1) g v := by
        rw [f_V_merged_8, c_len hM ha, bi_s, iI_lt (by omega) (by omega)]
        by_cases c : i < zl t
        · rw [if_pos c]
        · rw [if_neg c, c_len hM hb, bi_s, iI_le (by omega) (by omega), if_neg (by omega)]
      obtain ⟨c1, c2⟩ := zmc_in hi hj hij
      have hcr := zmc_r t u i j
      obtain ⟨p, w, e, hp, hp2, hw⟩ := c_m95 (K := f_V_merged_8 q) hM ha hb kt ku hcr c1 c2 hi hj (show r.1 < 12 by omega)
      have e4 : sU (sU v 3 r.1 (zI p)) 2 r.1 (zI w) 4 = v 4 := by rw [sU_j (by decide), sU_j (by decide)]
      obtain ⟨v', f1, f2, f3, f4, f5, f6, f7⟩ := ih q _ _ _ _ (zM_w hM (by rw [sU_j (by decide), sU_j (by decide)]) (fun i _ => by rw [e4])) (by rw [e4]; exact ha) (by rw [e4]; exact hb) hq (by split <;> split <;> omega) (by split <;> omega) (by split <;> omega) (by dsimp only; split <;> split <;> omega) (zI2_s h2 hp hp2 hw) (zris_s hx hy hi hj hij hs)
      have e9 : zmrg t u (m + 1) i j r = zmrg t u m (if zmc t u i j ≤ 0 then i + 1 else i) (if 0 ≤ zmc t u i j then j + 1 else j) (r.1 + 1, va_up r.2.1 r.1 (if zmc t u i j < 0 then zm t i else zm u j), va_up r.2.2 r.1 (if zmc t u i j < 0 then zc t i else zc u j)) := by
        simp only [zmrg]; rw [if_pos hij]
      rw [e9]
      refine ⟨v', ?_, f2, f3, f4, f5, f6.trans e4, fun j j2 j3 => ?_⟩
      · rw [e27, c_m27 hM ha hb kt ku hi hj hij, e]
        exact f1
      · rw [f7 j j2 j3, sU_j j2, sU_j j3]
    · have e9 : zmrg t u (m + 1) i j r = r := by simp only [zmrg]; rw [if_neg hij]
      rw [e9]
      refine ⟨v, ?_, h2, hs.1, by omega, hM, rfl, fun _ _ _ => rfl⟩
      rw [f_V_merged_8, c_len hM ha, bi_s, iI_lt (by omega) (by omega), if_neg (by omega), c_len hM hb, bi_s, iI_le (by omega) (by omega), if_pos (by omega)]
theorem c_merged (hM : zM g v T) (ha : zV (v 4) T a t) (hb : zV (v 4) T b u) (kt : zk t = 6) (ku : zk u = 6) (hT : T + 16 ≤ 65000) : zP (f_V_merged g v (zI a) (zI b)) g v T 16 (zmkO (zmer t u).1 (zmer t u).2.1 (zmer t u).2.2) := by
  refine zP_mg ?_
  obtain ⟨ht6, -, hx⟩ := ha.2.2.2.2.2.2.2.2.2.2 kt
  obtain ⟨hu6, -, hy⟩ := hb.2.2.2.2.2.2.2.2.2.2 ku
  obtain ⟨v1, f1, f2, f3, f4, f5, f6, f7⟩ := c_merge_l (g := g) (T := T) kt ku hx hy ht6 hu6 12 fu 0 0 zM0 v hM ha hb (fu_lt (by omega)) (by omega) (by omega) (by omega) (by simp [zM0]) ⟨fun k hk => absurd hk (by simp [zM0]), fun k hk => absurd hk (by simp [zM0])⟩ ⟨fun k hk => absurd hk (by simp [zM0]), fun h => absurd h (by simp [zM0])⟩
  have e0 : f_V_merged_8 fu (zI a) (zI b) 0 0 0 g v = f_V_merged_8 fu (zI a) (zI b) (zI 0) (zI 0) (zI zM0.1) g v := rfl
  rw [e0, f1]
  change zP (bo (f_V_open g v1 6 (zI (zmer t u).1)) (fun r9 g9 v9 => f_V_merged_195 (zI (zmer t u).1) r9 g9 v9)) g v T 16 _
  change zI2 v1 T (zmer t u) at f2
  change ∀ k, k + 1 < (zmer t u).1 → zct ((zmer t u).2.1 k) ((zmer t u).2.1 (k + 1)) = -1 at f3
  change (zmer t u).1 ≤ 12 at f4
  generalize zmer t u = r at *
  have hE1 : zE g v T g v1 T := ⟨Nat.le_refl _, rfl, rfl, Nat.le_refl _, fun i _ => by rw [f6], fun j j1 j2 j3 j4 => f7 j j2 j3⟩
  by_cases c : r.1 ≤ 6
  · obtain ⟨g', v', ho, hm, he, e0, e1, e2, e3, r2, r3⟩ := c_open f5 (kind := 6) (len := r.1) (c := 4 + 2 * r.1) (by omega) (by simpa using c) (by simp) (by omega)
    obtain ⟨m1, m2, m3, m4, m5, m6⟩ := id hm
    have n2 := hM.2.1
    refine zP_open ho ?_ (show T + (4 + 2 * r.1) ≤ T + 16 by omega)
    have hc : f_V_merged_195 (zI r.1) (zI T) g' v' = f_V_closed g' (sC (sC v' 2 4 0 (T + 4) r.1) 3 4 0 (T + 4 + r.1) r.1) (zI T) := by
      rw [f_V_merged_195, zl_0, zl_4, zI_add, zI_add, gd_t (cpB_I (by omega) (by omega) (by omega) (by omega)), nm_s, zI_toNat (by omega), zI_toNat (by omega), zI_toNat (by omega), gd_t (cpB_I (by omega) (by omega) (by omega) (by omega)), nm_s, zI_toNat (by omega), bo_id (fun r g v => by rfl)]
    rw [hc]
    have he1 := hE1.tr he
    refine c_closeO n2 (zM_w hm ?_ ?_) (zE_w he1 ?_ ?_) c ?_ ?_ (fun k hk => ?_) (fun k hk => ?_) f3
    · rw [sC_j (by decide), sC_j (by decide)]
    · intro i hi
      rw [sC_out (by omega), sC_out (by omega)]
    · intro i hi
      rw [sC_out (by omega), sC_out (by omega)]
    · intro j _ _ _ j4
      rw [sC_j j4, sC_j j4]
    · rw [sC_out (by omega), sC_out (by omega)]; exact e0
    · rw [sC_out (by omega), sC_out (by omega)]; exact e1
    · obtain ⟨q, e, hq⟩ := f2.1 k hk
      rw [f6] at hq
      refine ⟨q, ?_, hq⟩
      rw [sC_out (by omega), sC_in (by omega) (by omega), r2, ← e]
      congr 1
      omega
    · obtain ⟨q, e, hq, hq2⟩ := f2.2 k hk
      rw [f6] at hq
      refine ⟨q, ?_, hq, hq2⟩
      rw [sC_in (by omega) (by omega), sC_j (by decide), r3, ← e]
      congr 1
      omega
  · unfold zmkO
    rw [if_neg (by omega)]
    have ho : f_V_open g v1 6 (zI r.1) = some (.inr 3, g, v1) := c_open_no (kind := 6) (by omega) (by omega) (by simp; omega)
    rw [ho, bo_r]
    exact ⟨g, v1, T, f5, hE1, by omega, rfl⟩
end CZ
