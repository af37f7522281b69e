/-! the reference: sweeping: copies of values in the spare heap -/
def rn (t : zT) : Nat := if zk t = 3 then 2 else if zk t = 6 then 2 * zl t else zl t
def rpt (t : zT) (j : Nat) : zT := if zk t = 6 then (if j < zl t then zX (zm t j) else zc t (j - zl t)) else zc t j
theorem rn_le {n : Nat} {t : zT} (h : zwf n t) : rn t ≤ 12 := by
  have l := zwf_l h
  cases n with
  | zero => exact h.elim
  | succ n =>
    unfold rn
    by_cases c3 : zk t = 3
    · rw [if_pos c3]; omega
    · rw [if_neg c3]
      by_cases c6 : zk t = 6
      · rw [if_pos c6]
        have := (h.2.2.2.2.2.2.2.2.2 c6).1
        omega
      · rw [if_neg c6]; exact l
def mQ (v v' : mS) : Prop := (∀ j, j ≠ 0 → j ≠ 7 → j ≠ 12 → j ≠ 13 → v' j = v j) ∧ ∀ k, k ≠ 9 → k ≠ 18 → v' 0 k = v 0 k
theorem mQ.rf {v : mS} : mQ v v := ⟨fun _ _ _ _ _ => rfl, fun _ _ _ => rfl⟩
theorem mQ.tr {v v1 v2 : mS} (h : mQ v v1) (k : mQ v1 v2) : mQ v v2 := ⟨fun j a b c d => (k.1 j a b c d).trans (h.1 j a b c d), fun i hi h2 => (k.2 i hi h2).trans (h.2 i hi h2)⟩
theorem mQ.h {v v' : mS} (h : mQ v v') : v' 6 = v 6 := h.1 6 (by decide) (by decide) (by decide) (by decide)
theorem mD.Q {v v' : mS} (h : mD v v') : mQ v v' := ⟨fun j a _ c d => h.1 j a c d, fun k _ b => h.2 k b⟩
theorem mQ_7 {v : mS} {i : Nat} {x : Int32} : mQ v (sU v 7 i x) := ⟨fun j _ b _ _ => sU_j b, fun k _ _ => by rw [sU_j (by decide)]⟩
theorem mQ_9 {v : mS} {x : Int32} : mQ v (sU v 0 9 x) := ⟨fun j a _ _ _ => sU_j a, fun k b _ => sU_k b⟩
theorem mQ_18 {v : mS} {x : Int32} : mQ v (sU v 0 18 x) := ⟨fun j a _ _ _ => sU_j a, fun k _ b => sU_k b⟩
section QB
theorem r_163 {a L r : Nat} (ha : a + 4 + r ≤ 64000) (hL : L + 4 + r ≤ 8000) : ∀ (m i n : Nat) (v : mS), i + m = 4 + r → m < n → ∃ v', (∀ K x2 x5, f_M_copied_163 K n x2 (zI a) x5 (zI r) (zI L) (zI i) v = f_M_copied_200 K fu x2 (zI a) x5 (zI r) (zI L) 0 v') ∧ (∀ j, j ≠ 7 → v' j = v j) ∧ (∀ p, p < L + i → v' 7 p = v 7 p) ∧ ∀ k, i ≤ k → k < 4 + r → v' 7 (L + k) = v 6 (a + k) := by
  intro m
  induction m with
  | zero =>
    intro i n v hi hn
    obtain ⟨n, rfl, -⟩ := suc_of hn
    refine ⟨v, fun K x2 x5 => ?_, fun _ _ => rfl, fun _ _ => rfl, fun k h1 h2 => by omega⟩
    rw [f_M_copied_163, zl_4, zI_add, iI_le (by omega) (by omega), if_pos (by omega)]
  | succ m ih =>
    intro i n v hi hn
    obtain ⟨n, rfl, hn⟩ := suc_of hn
    have hn := Nat.lt_of_succ_lt_succ hn
    obtain ⟨v', c1, c2, c3, c4⟩ := ih (i + 1) n (sU v 7 (L + i) (v 6 (a + i))) (by omega) hn
    refine ⟨v', fun K x2 x5 => ?_, fun j hj => (c2 j hj).trans (sU_j hj), fun p hp => (c3 p (by omega)).trans (sU_k (by omega)), fun k h1 h2 => ?_⟩
    · have e4 : 4 + zI r = zI (4 + r) := by rw [zl_4, zI_add]
      have e1 : zI i + 1 = zI (i + 1) := by rw [zl_1, zI_add]
      rw [f_M_copied_163, e4, iI_le (by omega) (by omega), if_neg (by omega), zI_add, zI_add, gd_I (by omega) (by omega), gd_I (by omega) (by omega), zI_toNat (by omega), zI_toNat (by omega), nm_s, e1, nm_s, c1]
    · by_cases c : k = i
      · subst c
        rw [c3 _ (by omega), sU_hit]
      · rw [c4 k (by omega) h2, sU_j (by decide)]
theorem r_200 {a L r k d : Nat} (ha : a + 4 + r ≤ 64000) (hk : 5 ≤ k) (hk2 : k ≤ 6) (hL : L + 4 + r ≤ 8000) (hd : d + r < 400) : ∀ (m i n : Nat) (v : mS), i + m = r → m < n → v 0 18 = zI (d + i) → ∃ v', (∀ K x2, f_M_copied_200 K n x2 (zI a) (zI k) (zI r) (zI L) (zI i) v = K x2 v') ∧ mD v v' ∧ v' 0 18 = zI (d + r) ∧ (∀ p, p < d + i → v' 12 p = v 12 p ∧ v' 13 p = v 13 p) ∧ ∀ j, i ≤ j → j < r → v' 12 (d + j) = v 6 (a + 4 + j) ∧ v' 13 (d + j) = zI (L + 4 + j) := by
  intro m
  induction m with
  | zero =>
    intro i n v hi hn h18
    obtain ⟨n, rfl, -⟩ := suc_of hn
    refine ⟨v, fun K x2 => ?_, mD.rf, by rw [h18, show i = r by omega], fun _ _ => ⟨rfl, rfl⟩, fun k h1 h2 => by omega⟩
    rw [f_M_copied_200, iI_le (by omega) (by omega), if_pos (by omega)]
    rfl
  | succ m ih =>
    intro i n v hi hn h18
    obtain ⟨n, rfl, hn⟩ := suc_of hn
    have hn := Nat.lt_of_succ_lt_succ hn
    obtain ⟨v', c1, c2, c3, c4, c5⟩ := ih (i + 1) n (mpush v (d + i) (v 6 (a + 4 + i)) (zI (L + 4 + i))) (by omega) hn mpush_h.2.2.1
    refine ⟨v', fun K x2 => ?_, mpush_D.tr c2, c3, fun p hp => ?_, fun j h1 h2 => ?_⟩
    · have e4 : (zI a + 4) + zI i = zI (a + 4 + i) := by rw [zl_4, zI_add, zI_add]
      have e5 : (zI L + 4) + zI i = zI (L + 4 + i) := by rw [zl_4, zI_add, zI_add]
      have e1 : zI i + 1 = zI (i + 1) := by rw [zl_1, zI_add]
      rw [f_M_copied_200, iI_le (by omega) (by omega), if_neg (by omega), zl_4, iI_le (by omega) (by omega), if_neg (by omega), ← zl_4, e4, e5, e1, gd_I (by omega) (by omega), zI_toNat (by omega), mpush_e h18 (by omega), bv_s, nm_s, c1]
    · have h1 := c4 p (by omega)
      have h2 := mpush_12 (v := v) (x := v 6 (a + 4 + i)) (y := zI (L + 4 + i)) (show p ≠ d + i by omega)
      exact ⟨h1.1.trans h2.1, h1.2.trans h2.2⟩
    · by_cases c : j = i
      · subst c
        have h1 := c4 (d + j) (by omega)
        exact ⟨h1.1.trans mpush_h.1, h1.2.trans mpush_h.2.1⟩
      · have h1 := c5 j (by omega) h2
        rw [mpush_h.2.2.2] at h1
        exact h1
theorem r_pop {v : mS} {T a c d : Nat} {t : zT} {x : Int32} {q : Nat} (hd : v 0 18 = zI (d + 1)) (hd4 : d < 400) (h12 : v 12 d = zI a) (h13 : v 13 d = zI c) (hT : T ≤ 63900) (hy : zU (v 6) T a t) : f_M_copied_13 (q + 1) x v = f_M_copied_95 (f_M_copied_13 q) x (zI a) (zI c) (zI (zk t)) (zI (rn t)) (sU v 0 18 (zI d)) := by
  obtain ⟨q0, q1, q2, q3, q4, q5⟩ := zU_head hy
  have hk := hy.2.1
  have hl := zwf_l hy.2
  have es : zI (d + 1) - 1 = zI d := by rw [zl_1, zI_sub (by omega)]; rfl
  have e18 : sU v 0 18 (zI d) 0 18 = zI d := sU_hit
  have j12 : sU v 0 18 (zI d) 12 = v 12 := sU_j (by decide)
  have j13 : sU v 0 18 (zI d) 13 = v 13 := sU_j (by decide)
  have j6 : sU v 0 18 (zI d) 6 = v 6 := sU_j (by decide)
  have e3 : zI a + 3 = zI (a + 3) := by rw [zl_3, zI_add]
  have e0 : ¬ zI (d + 1) ≤ 0 := by rw [zl_0, zI_le (by omega) (by omega)]; omega
  have em : 2 * zI (zl t) = zI (2 * zl t) := by rw [zl_2, zI_mul]
  have k3 : (zI (zk t) = 3) = (zk t = 3) := by rw [zl_3, zI_eq (by omega) (by omega)]
  have k6 : (zI (zk t) = 6) = (zk t = 6) := by rw [zl_6, zI_eq (by omega) (by omega)]
  rw [f_M_copied_13, hd, if_neg e0, es, nm_s, e18, gd_I (by omega) (by omega), zI_toNat (by omega), j12, h12, nm_s, gd_I (by omega) (by omega), j13, h13, nm_s, gd_I (by omega) (by omega), zI_toNat (by omega), j6, q2, nm_s, e3, gd_I (by omega) (by omega), zI_toNat (by omega), q5, nm_s, ite_p k3, ite_p k6, em]
  unfold rn
  by_cases c3 : zk t = 3
  · rw [if_pos c3, if_pos c3]; rfl
  · rw [if_neg c3, if_neg c3]
    by_cases c6 : zk t = 6
    · rw [if_pos c6, if_pos c6]
    · rw [if_neg c6, if_neg c6]
theorem r_low {v : mS} {T a c d : Nat} {t : zT} (hd : v 0 18 = zI (d + 1)) (hd4 : d < 400) (h12 : v 12 d = zI a) (h13 : v 13 d = zI c) (hT : T ≤ 63900) (hy : zU (v 6) T a t) (h3 : zk t < 3) (hc : c < 8000) : ∃ v', (∀ q x, f_M_copied_13 (q + 1) x v = f_M_copied_13 q (if c = 0 then zI (4 + 4 * zk t) else x) v') ∧ mQ v v' ∧ v' 0 9 = v 0 9 ∧ v' 0 18 = zI d ∧ v' 12 = v 12 ∧ v' 13 = v 13 ∧ (∀ p, (p ≠ c ∨ c = 0) → v' 7 p = v 7 p) ∧ (c ≠ 0 → v' 7 c = zI (4 + 4 * zk t)) := by
  have e44 : 4 + 4 * zI (zk t) = zI (4 + 4 * zk t) := by rw [zl_4, zI_mul, zI_add]
  have k3 : ¬ (3 : Int32) ≤ zI (zk t) := by rw [zl_3, zI_le (by omega) (by omega)]; omega
  have c0 : (zI c = 0) = (c = 0) := by rw [zl_0, zI_eq (by omega) (by omega)]
  by_cases cc : c = 0
  · refine ⟨sU v 0 18 (zI d), fun q x => ?_, mQ_18, sU_k (by decide), sU_hit, sU_j (by decide), sU_j (by decide), fun p _ => by rw [sU_j (by decide)], fun h => absurd cc h⟩
    rw [r_pop hd hd4 h12 h13 hT hy, f_M_copied_95, if_neg k3, e44, f_M_copied_116, ite_p c0, if_pos cc, if_pos cc, f_M_copied_138, if_neg k3]
  · refine ⟨sU (sU v 0 18 (zI d)) 7 c (zI (4 + 4 * zk t)), fun q x => ?_, mQ_18.tr mQ_7, ?_, ?_, ?_, ?_, fun p hp => ?_, fun _ => sU_hit⟩
    · rw [r_pop hd hd4 h12 h13 hT hy, f_M_copied_95, if_neg k3, e44, f_M_copied_116, ite_p c0, if_neg cc, if_neg cc, gd_I (by omega) (by omega), zI_toNat (by omega), nm_s, f_M_copied_138, if_neg k3]
    · rw [sU_j (by decide), sU_k (by decide)]
    · rw [sU_j (by decide), sU_hit]
    · rw [sU_j (by decide), sU_j (by decide)]
    · rw [sU_j (by decide), sU_j (by decide)]
    · rw [sU_k (by omega), sU_j (by decide)]
theorem r_node {v : mS} {T a c d L : Nat} {t : zT} (hd : v 0 18 = zI (d + 1)) (hd4 : d + 12 < 400) (h12 : v 12 d = zI a) (h13 : v 13 d = zI c) (hT : T ≤ 63900) (hy : zU (v 6) T a t) (h3 : 3 ≤ zk t) (h9 : v 0 9 = zI L) (hL : L + 16 ≤ 8000) (hc : c < L) : ∃ v', (∀ q x, f_M_copied_13 (q + 1) x v = f_M_copied_13 q (if c = 0 then zI L else x) v') ∧ mQ v v' ∧ v' 0 9 = zI (L + 4 + rn t) ∧ v' 0 18 = zI (d + if 5 ≤ zk t then rn t else 0) ∧ (∀ p, p < d → v' 12 p = v 12 p ∧ v' 13 p = v 13 p) ∧ (∀ p, p < L → (p ≠ c ∨ c = 0) → v' 7 p = v 7 p) ∧ (c ≠ 0 → v' 7 c = zI L) ∧ (∀ k, k < 4 + rn t → v' 7 (L + k) = v 6 (a + k)) ∧ (5 ≤ zk t → ∀ j, j < rn t → v' 12 (d + j) = v 6 (a + 4 + j) ∧ v' 13 (d + j) = zI (L + 4 + j)) := by
  have hr := rn_le hy.2
  have hkk := hy.2.1
  have haT : a + 4 + rn t ≤ 64000 := by have := zU_head hy; omega
  have k3 : (3 : Int32) ≤ zI (zk t) := by rw [zl_3, zI_le (by omega) (by omega)]; omega
  have c0 : (zI c = 0) = (c = 0) := by rw [zl_0, zI_eq (by omega) (by omega)]
  have hA : ∃ w, (∀ q x, f_M_copied_13 (q + 1) x v = f_M_copied_138 (f_M_copied_13 q) (if c = 0 then zI L else x) (zI a) (zI (zk t)) (zI (rn t)) (zI L) w) ∧ mQ v w ∧ w 0 9 = zI L ∧ w 0 18 = zI d ∧ w 12 = v 12 ∧ w 13 = v 13 ∧ (∀ p, (p ≠ c ∨ c = 0) → w 7 p = v 7 p) ∧ (c ≠ 0 → w 7 c = zI L) := by
    have e9 : sU v 0 18 (zI d) 0 9 = zI L := by rw [sU_k (by decide)]; exact h9
    by_cases cc : c = 0
    · refine ⟨sU v 0 18 (zI d), fun q x => ?_, mQ_18, e9, sU_hit, sU_j (by decide), sU_j (by decide), fun p _ => by rw [sU_j (by decide)], fun h => absurd cc h⟩
      rw [r_pop hd (by omega) h12 h13 hT hy, f_M_copied_95, if_pos k3, e9, f_M_copied_116, ite_p c0, if_pos cc, if_pos cc]
    · refine ⟨sU (sU v 0 18 (zI d)) 7 c (zI L), fun q x => ?_, mQ_18.tr mQ_7, ?_, ?_, ?_, ?_, fun p hp => ?_, fun _ => sU_hit⟩
      · rw [r_pop hd (by omega) h12 h13 hT hy, f_M_copied_95, if_pos k3, e9, f_M_copied_116, ite_p c0, if_neg cc, if_neg cc, gd_I (by omega) (by omega), zI_toNat (by omega), nm_s]
      · rw [sU_j (by decide)]; exact e9
      · rw [sU_j (by decide), sU_hit]
      · rw [sU_j (by decide), sU_j (by decide)]
      · rw [sU_j (by decide), sU_j (by decide)]
      · rw [sU_k (by omega), sU_j (by decide)]
  obtain ⟨w, a1, a2, a3, a4, a5, a6, a7, a8⟩ := hA
  have ew9 : zI L + (4 + zI (rn t)) = zI (L + 4 + rn t) := by rw [zl_4, zI_add, zI_add, Nat.add_assoc]
  obtain ⟨w2, b1, b2, b3, b4⟩ := r_163 haT (show L + 4 + rn t ≤ 8000 by omega) (4 + rn t) 0 fu (sU w 0 9 (zI (L + 4 + rn t))) (by omega) (fu_lt (by omega))
  have hQ2 : mQ v w2 := by
    refine a2.tr (mQ_9.tr ⟨fun j h0 h7 _ _ => b2 j h7, fun k _ _ => by rw [b2 0 (by decide)]⟩)
  have w9 : w2 0 9 = zI (L + 4 + rn t) := by rw [b2 0 (by decide), sU_hit]
  have w18 : w2 0 18 = zI d := by rw [b2 0 (by decide), sU_k (by decide)]; exact a4
  have w12 : w2 12 = v 12 := by rw [b2 12 (by decide), sU_j (by decide)]; exact a5
  have w13 : w2 13 = v 13 := by rw [b2 13 (by decide), sU_j (by decide)]; exact a6
  have w6 : w2 6 = v 6 := hQ2.h
  have w7 : ∀ p, p < L → w2 7 p = w 7 p := fun p hp => by rw [b3 p (by omega), sU_j (by decide)]
  have w7k : ∀ k, k < 4 + rn t → w2 7 (L + k) = v 6 (a + k) := fun k hk => by
    rw [b4 k (by omega) hk, sU_j (by decide), a2.h]
  have st : ∀ q x, f_M_copied_13 (q + 1) x v = f_M_copied_200 (f_M_copied_13 q) fu (if c = 0 then zI L else x) (zI a) (zI (zk t)) (zI (rn t)) (zI L) 0 w2 := by
    intro q x
    rw [a1, f_M_copied_138, if_pos k3, a3, ew9, nm_s, ← b1]
    rfl
  by_cases c5 : 5 ≤ zk t
  · obtain ⟨w3, d1, d2, d3, d4, d5⟩ := r_200 (a := a) (L := L) (d := d) haT c5 hkk (show L + 4 + rn t ≤ 8000 by omega) (by omega) (rn t) 0 fu w2 (by omega) (fu_lt (by omega)) (by rw [Nat.add_zero]; exact w18)
    have e7 : w3 7 = w2 7 := d2.1 7 (by decide) (by decide) (by decide)
    refine ⟨w3, fun q x => ?_, hQ2.tr d2.Q, ?_, by rw [if_pos c5]; exact d3, fun p hp => ?_, fun p hp h => ?_, fun h => ?_, fun k hk => ?_, fun _ j hj => ?_⟩
    · rw [st]; exact d1 _ _
    · rw [d2.2 9 (by decide)]; exact w9
    · have := d4 p (by omega)
      rw [w12, w13] at this
      exact this
    · rw [e7, w7 p hp]; exact a7 p h
    · rw [e7, w7 c hc]; exact a8 h
    · rw [e7]; exact w7k k hk
    · have := d5 j (by omega) hj
      rw [w6] at this
      exact this
  · refine ⟨w2, fun q x => ?_, hQ2, w9, by rw [if_neg c5]; exact w18, fun p hp => by rw [w12, w13]; exact ⟨rfl, rfl⟩, fun p hp h => ?_, fun h => ?_, w7k, fun h => absurd h c5⟩
    · have k4 : zI (zk t) ≤ 4 := by rw [zl_4, zI_le (by omega) (by omega)]; omega
      rw [st]
      show f_M_copied_200 (f_M_copied_13 q) (999999 + 1) _ _ _ _ _ _ _ = _
      rw [f_M_copied_200, if_pos k4]
      rw [show (f_M_copied_241 (f_M_copied_13 q) (if c = 0 then zI L else x) w2) = f_M_copied_13 q (if c = 0 then zI L else x) w2 from rfl, ite_self]
    · rw [w7 p hp]; exact a7 p h
    · rw [w7 c hc]; exact a8 h
theorem zsm_cat {f : Nat → Nat} {a : Nat} : ∀ b, zsm f (a + b) = zsm f a + zsm (fun j => f (a + j)) b := by
  intro b
  induction b with
  | zero => rfl
  | succ b ih =>
    show zsm f (a + b) + f (a + b) = _
    rw [ih]
    show _ = zsm f a + (zsm (fun j => f (a + j)) b + f (a + b))
    omega
theorem zsm_1 {f : Nat → Nat} : ∀ b, (∀ j, j < b → f j = 1) → zsm f b = b := by
  intro b
  induction b with
  | zero => intro _; rfl
  | succ b ih =>
    intro h
    show zsm f b + f b = _
    rw [ih (fun j hj => h j (by omega)), h b (by omega)]
theorem rpt_sum {n : Nat} {t : zT} (hw : zwf n t) (h5 : 5 ≤ zk t) : zsm (fun j => zs (rpt t j)) (rn t) + 1 = zs t + (if zk t = 6 then zl t else 0) := by
  cases n with
  | zero => exact hw.elim
  | succ n =>
    have hs := (hw.2.2.2.2.2.2.2.1 h5).1
    unfold rn
    rw [if_neg (by omega)]
    by_cases c6 : zk t = 6
    · rw [if_pos c6, if_pos c6, show 2 * zl t = zl t + zl t by omega, zsm_cat]
      have e1 : zsm (fun j => zs (rpt t j)) (zl t) = zl t := zsm_1 _ (fun j hj => by
        unfold rpt
        rw [if_pos c6, if_pos hj]; rfl)
      have e2 : zsm (fun j => zs (rpt t (zl t + j))) (zl t) = zsm (fun j => zs (zc t j)) (zl t) := zsm_eq (fun j hj => by
        unfold rpt
        rw [if_pos c6, if_neg (by omega), show zl t + j - zl t = j by omega])
      rw [e1, e2]
      omega
    · rw [if_neg c6, if_neg c6]
      have e2 : zsm (fun j => zs (rpt t j)) (zl t) = zsm (fun j => zs (zc t j)) (zl t) := zsm_eq (fun j hj => by
        unfold rpt
        rw [if_neg c6])
      rw [e2]
      omega
theorem zwf_X {n : Nat} {x : zN} (hx : ztx x) : zwf (n + 1) (zX x) := by
  have k4 : zk (zX x) = 4 := rfl
  have s1 : zs (zX x) = 1 := rfl
  have d0 : zd (zX x) = 0 := rfl
  exact ⟨by omega, by omega, by omega, fun _ => ⟨s1, d0⟩, fun hk => absurd hk (by omega), fun hk => absurd hk (by omega), fun _ => hx, fun hk => absurd hk (by omega), fun hk => absurd hk (by omega), fun hk => absurd hk (by omega)⟩
theorem zRM_Y {h : Nat → Int32} {top a n : Nat} {x : zN} (q : zRM h top n a (zX x)) : zRY h top a x := by
  cases n with
  | zero => exact q.elim
  | succ n =>
    obtain ⟨h0, h1, h2, h3, h4, h5, h6, h7, h8, h9⟩ := q
    exact ⟨h0, (h7 rfl).1, h2, h3, h4, h5, (h7 rfl).2⟩
theorem rpt_wf {n : Nat} {t : zT} (hw : zwf (n + 1) t) (h5 : 5 ≤ zk t) {j : Nat} (hj : j < rn t) : zwf n (rpt t j) := by
  have hkk := hw.1
  obtain ⟨w1, w2, w3⟩ := hw.2.2.2.2.2.2.2.1 h5
  unfold rn at hj
  rw [if_neg (by omega)] at hj
  unfold rpt
  by_cases c6 : zk t = 6
  · rw [if_pos c6] at hj ⊢
    by_cases cj : j < zl t
    · rw [if_pos cj]
      have h1 := w3 j cj
      cases n with
      | zero => exact h1.elim
      | succ n => exact zwf_X ((hw.2.2.2.2.2.2.2.2.2 c6).2.1 j cj)
    · rw [if_neg cj]
      exact w3 _ (by omega)
  · rw [if_neg c6] at hj ⊢
    exact w3 _ hj
theorem rpt_U {h : Nat → Int32} {top a : Nat} {t : zT} (q : zU h top a t) (h5 : 5 ≤ zk t) {j : Nat} (hj : j < rn t) : ∃ b, h (a + 4 + j) = zI b ∧ zU h top b (rpt t j) := by
  have hkk := q.2.1
  unfold rn at hj
  rw [if_neg (by omega)] at hj
  unfold rpt
  by_cases c6 : zk t = 6
  · rw [if_pos c6] at hj ⊢
    by_cases cj : j < zl t
    · rw [if_pos cj]
      obtain ⟨b, e, r, x⟩ := zU_name q c6 cj
      exact ⟨b, e, zU_Y r x⟩
    · rw [if_neg cj]
      obtain ⟨b, e, r⟩ := zU_kid q h5 (k := j - zl t) (by omega)
      rw [if_pos c6, show a + 4 + zl t + (j - zl t) = a + 4 + j by omega] at e
      exact ⟨b, e, r⟩
  · rw [if_neg c6] at hj ⊢
    obtain ⟨b, e, r⟩ := zU_kid q h5 hj
    rw [if_neg c6, Nat.add_zero] at e
    exact ⟨b, e, r⟩
/-- the window in which a copy lies -/
def rPl (n : Nat) (v : mS) (f : Nat → Int32) (L L' p : Nat) (t : zT) : Prop := ∀ h : Nat → Int32, (∀ i, i < 16 → h i = v 6 i) → (∀ i, L ≤ i → i < L' → h i = f i) → zRM h L' n p t
def rCp (n : Nat) (t : zT) : Prop := ∀ (v : mS) (T a c d L : Nat), zU (v 6) T a t → T ≤ 63900 → (∀ k, k < 3 → zU (v 6) 16 (4 + 4 * k) (zW k)) → v 0 18 = zI (d + 1) → d + 12 * n < 400 → v 12 d = zI a → v 13 d = zI c → v 0 9 = zI L → 16 ≤ L → L + 34 * zs t ≤ 8018 → c < L →
  ∃ k p L' v', k + 1 ≤ 2 * zs t ∧ (∀ q x, f_M_copied_13 (q + k) x v = f_M_copied_13 q (if c = 0 then zI p else x) v') ∧ mQ v v' ∧ v' 0 18 = zI d ∧ v' 0 9 = zI L' ∧ L ≤ L' ∧ L' + 18 ≤ L + 34 * zs t ∧ (∀ i, i < d → v' 12 i = v 12 i ∧ v' 13 i = v 13 i) ∧ (∀ i, i < L → (i ≠ c ∨ c = 0) → v' 7 i = v 7 i) ∧ (c ≠ 0 → v' 7 c = zI p) ∧ rPl n v (v' 7) L L' p t
theorem r_kids {n : Nat} {f : Nat → zT} {T c0 d : Nat} (hC : ∀ j, zwf n (f j) → rCp n (f j)) (hT : T ≤ 63900) (hc0 : 1 ≤ c0) : ∀ (m : Nat) (v : mS) (M : Nat), (∀ j, j < m → zwf n (f j)) → (∀ j, j < m → ∃ b, v 12 (d + j) = zI b ∧ zU (v 6) T b (f j)) → (∀ j, j < m → v 13 (d + j) = zI (c0 + j)) → (∀ k, k < 3 → zU (v 6) 16 (4 + 4 * k) (zW k)) → v 0 18 = zI (d + m) → d + m + 12 * n < 400 → v 0 9 = zI M → 16 ≤ M → M + 34 * zsm (fun j => zs (f j)) m ≤ 8018 + 18 * (m - 1) → c0 + m ≤ M →
  ∃ (k : Nat) (P : Nat → Nat) (M' : Nat) (v' : mS), k + m ≤ 2 * zsm (fun j => zs (f j)) m ∧ (∀ q x, f_M_copied_13 (q + k) x v = f_M_copied_13 q x v') ∧ mQ v v' ∧ v' 0 18 = zI d ∧ v' 0 9 = zI M' ∧ M ≤ M' ∧ M' + 18 * m ≤ M + 34 * zsm (fun j => zs (f j)) m ∧ (∀ i, i < d → v' 12 i = v 12 i ∧ v' 13 i = v 13 i) ∧ (∀ i, i < M → (i < c0 ∨ c0 + m ≤ i) → v' 7 i = v 7 i) ∧ (∀ j, j < m → v' 7 (c0 + j) = zI (P j)) ∧ ∀ j, j < m → rPl n v (v' 7) M M' (P j) (f j) := by
  intro m
  induction m with
  | zero =>
    intro v M hw hb h13 hK hd hd4 h9 hM hM2 hc
    exact ⟨0, fun _ => 0, M, v, by simp, fun q x => rfl, mQ.rf, hd, h9, Nat.le_refl _, by simp [zsm], fun _ _ => ⟨rfl, rfl⟩, fun _ _ _ => rfl, fun j hj => by omega, fun j hj => by omega⟩
  | succ m ih =>
    intro v M hw hb h13 hK hd hd4 h9 hM hM2 hc
    obtain ⟨b, eb, hu⟩ := hb m (by omega)
    have es : zsm (fun j => zs (f j)) (m + 1) = zsm (fun j => zs (f j)) m + zs (f m) := rfl
    have hge : m ≤ zsm (fun j => zs (f j)) m := by
      have : ∀ q, q ≤ m → q ≤ zsm (fun j => zs (f j)) q := by
        intro q
        induction q with
        | zero => intro _; exact Nat.zero_le _
        | succ q iq =>
          intro hq
          have h1 := iq (by omega)
          have h2 := zwf_s1 _ _ (hw q (by omega))
          show q + 1 ≤ zsm (fun j => zs (f j)) q + zs (f q)
          omega
      exact this m (Nat.le_refl _)
    obtain ⟨k1, p, M1, v1, a1, a2, a3, a4, a5, a6, a7, a8, a9, a10, a11⟩ := hC m (hw m (by omega)) v T b (c0 + m) (d + m) M hu hT hK hd (by omega) eb (h13 m (by omega)) h9 hM (by omega) (by omega)
    have h6 := a3.h
    obtain ⟨k2, P, M', v', b1, b2, b3, b4, b5, b6, b7, b8, b9, b10, b11⟩ := ih v1 M1 (fun j hj => hw j (by omega)) (fun j hj => by
        obtain ⟨b', e', u'⟩ := hb j (by omega)
        exact ⟨b', (a8 (d + j) (by omega)).1.trans e', by rw [h6]; exact u'⟩) (fun j hj => (a8 (d + j) (by omega)).2.trans (h13 j (by omega))) (fun k hk => by rw [h6]; exact hK k hk) a4 (by omega) a5 (by omega) (by omega) (by omega)
    have key : ∀ i, M ≤ i → i < M1 → v' 7 i = v1 7 i := fun i h1 h2 => b9 i h2 (by omega)
    refine ⟨k2 + k1, fun j => if j = m then p else P j, M', v', by omega, fun q x => ?_, a3.tr b3, b4, b5, by omega, by omega, fun i hi => ?_, fun i hi h => ?_, fun j hj => ?_, fun j hj h e16 ew => ?_⟩
    · rw [show q + (k2 + k1) = (q + k2) + k1 by omega, a2, if_neg (by omega), b2]
    · have h1 := b8 i hi
      have h2 := a8 i (by omega)
      exact ⟨h1.1.trans h2.1, h1.2.trans h2.2⟩
    · rw [b9 i (by omega) (by omega), a9 i hi (by omega)]
    · dsimp only
      by_cases c : j = m
      · subst c
        rw [if_pos rfl, b9 _ (by omega) (by omega)]
        exact a10 (by omega)
      · rw [if_neg c]
        exact b10 j (by omega)
    · dsimp only
      by_cases c : j = m
      · subst c
        rw [if_pos rfl]
        exact zRM_up (fun _ _ => rfl) b6 _ _ _ (a11 h e16 (fun i h1 h2 => (ew i h1 (by omega)).trans (key i h1 h2)))
      · rw [if_neg c]
        exact b11 j (by omega) h (fun i hi => (e16 i hi).trans (by rw [h6])) (fun i h1 h2 => ew i (by omega) h2)
theorem r_copy : ∀ (n : Nat) (t : zT), zwf n t → rCp n t := by
  intro n
  induction n with
  | zero => intro t hw; exact hw.elim
  | succ n ih =>
    intro t hw v T a c d L hy hT hK hd hd4 h12 h13 h9 hL hL2 hc
    have hs1 := zwf_s1 _ _ hw
    have hr := rn_le hw
    have hkk := hw.1
    obtain ⟨q0, q1, q2, q3, q4, q5⟩ := zU_head hy
    by_cases c3 : zk t < 3
    · obtain ⟨v', a1, a2, a3, a4, a5, a6, a7, a8⟩ := r_low hd (by omega) h12 h13 hT hy c3 (by omega)
      have z1 := (hw.2.2.2.1 (by omega)).1
      have z2 := (hw.2.2.2.1 (by omega)).2
      have z3 := hw.2.2.2.2.1 (by omega)
      refine ⟨1, 4 + 4 * zk t, L, v', by omega, a1, a2, a4, a3.trans h9, Nat.le_refl _, by omega, fun i _ => by rw [a5, a6]; exact ⟨rfl, rfl⟩, fun i _ h => a7 i h, a8, ?_⟩
      intro h e16 _
      obtain ⟨k0, k1, k2, k3, k4, k5⟩ := zU_head (hK (zk t) c3)
      refine ⟨by omega, by omega, ?_, ?_, ?_, ?_, fun hk => absurd hk (by omega), fun hk => absurd hk (by omega), fun hk => absurd hk (by omega), fun hk => absurd hk (by omega)⟩
      · rw [e16 _ (by omega)]; exact k2
      · rw [e16 _ (by omega), z1]; exact k3
      · rw [e16 _ (by omega), z2]; exact k4
      · rw [e16 _ (by omega), z3]; exact k5
    · obtain ⟨w, a1, a2, a3, a4, a5, a6, a7, a8, a9⟩ := r_node hd (by omega) h12 h13 hT hy (by omega) h9 (by omega) hc
      by_cases c5 : 5 ≤ zk t
      · rw [if_pos c5] at a4
        have h6 := a2.h
        have hsum := rpt_sum hw c5
        have hcn : (if zk t = 6 then zl t else 0) + (if zk t = 6 then zl t else 0) ≤ rn t ∧ (if zk t = 6 then zl t else 0) ≤ 6 := by
          unfold rn
          rw [if_neg (show ¬ zk t = 3 by omega)]
          by_cases c6 : zk t = 6
          · have := (hw.2.2.2.2.2.2.2.2.2 c6).1
            simp only [if_pos c6]; omega
          · simp only [if_neg c6]; omega
        obtain ⟨k, P, M', v', b1, b2, b3, b4, b5, b6, b7, b8, b9, b10, b11⟩ := r_kids (f := rpt t) (n := n) (T := T) (c0 := L + 4) (d := d) (fun j hj => ih _ hj) hT (by omega) (rn t) w (L + 4 + rn t) (fun j hj => rpt_wf hw c5 hj) (fun j hj => by
            obtain ⟨b, e, u⟩ := rpt_U hy c5 hj
            exact ⟨b, ((a9 c5 j hj).1).trans e, by rw [h6]; exact u⟩) (fun j hj => (a9 c5 j hj).2) (fun k hk => by rw [h6]; exact hK k hk) a4 (by omega) a3 (by omega) (by omega) (by omega)
        refine ⟨k + 1, L, M', v', by omega, fun q x => ?_, a2.tr b3, b4, b5, by omega, by omega, fun i hi => ?_, fun i hi hic => ?_, fun hc0 => ?_, ?_⟩
        · rw [show q + (k + 1) = (q + k) + 1 by omega, a1, b2]
        · have e1 := b8 i hi
          have e2 := a5 i hi
          exact ⟨e1.1.trans e2.1, e1.2.trans e2.2⟩
        · rw [b9 i (by omega) (by omega)]; exact a6 i hi hic
        · rw [b9 c (by omega) (by omega)]; exact a7 hc0
        · intro h e16 ew
          have hh : ∀ k, k < 4 → h (L + k) = v 6 (a + k) := fun k hk => by
            rw [ew _ (by omega) (by omega), b9 _ (by omega) (by omega)]
            exact a8 k (by omega)
          have hkid : ∀ j, j < rn t → h (L + 4 + j) = zI (P j) ∧ zRM h M' n (P j) (rpt t j) := fun j hj => by
            refine ⟨?_, b11 j hj h (fun i hi => (e16 i hi).trans (by rw [h6])) (fun i h1 h2 => ew i (by omega) h2)⟩
            rw [ew _ (by omega) (by omega)]
            exact b10 j hj
          refine ⟨by omega, by omega, (hh 0 (by omega)).trans q2, (hh 1 (by omega)).trans q3, (hh 2 (by omega)).trans q4, (hh 3 (by omega)).trans q5, fun hk => absurd hk (by omega), fun hk => absurd hk (by omega), fun _ => ?_, fun c6 => ?_⟩
          · by_cases c6 : zk t = 6
            · have er : rn t = 2 * zl t := by unfold rn; rw [if_neg (by omega), if_pos c6]
              rw [if_pos c6]
              refine ⟨by omega, fun k hk => ?_⟩
              obtain ⟨e1, e2⟩ := hkid (zl t + k) (by omega)
              have er2 : rpt t (zl t + k) = zc t k := by
                unfold rpt
                rw [if_pos c6, if_neg (by omega), show zl t + k - zl t = k by omega]
              rw [er2] at e2
              exact ⟨P (zl t + k), by rw [← e1]; congr 1; omega, e2⟩
            · have er : rn t = zl t := by unfold rn; rw [if_neg (by omega), if_neg c6]
              rw [if_neg c6]
              refine ⟨by omega, fun k hk => ?_⟩
              obtain ⟨e1, e2⟩ := hkid k (by omega)
              have er2 : rpt t k = zc t k := by
                unfold rpt
                rw [if_neg c6]
              rw [er2] at e2
              exact ⟨P k, e1, e2⟩
          · intro k hk
            have er : rn t = 2 * zl t := by unfold rn; rw [if_neg (by omega), if_pos c6]
            obtain ⟨e1, e2⟩ := hkid k (by omega)
            have er2 : rpt t k = zX (zm t k) := by
              unfold rpt
              rw [if_pos c6, if_pos hk]
            rw [er2] at e2
            exact ⟨P k, e1, zRM_Y e2⟩
      · rw [if_neg c5] at a4
        have z1 := (hw.2.2.2.1 (by omega)).1
        refine ⟨1, L, L + 4 + rn t, w, by omega, a1, a2, a4, a3, by omega, by omega, a5, a6, a7, ?_⟩
        intro h e16 ew
        have hh : ∀ k, k < 4 + rn t → h (L + k) = v 6 (a + k) := fun k hk => by
          rw [ew _ (by omega) (by omega)]
          exact a8 k (by omega)
        refine ⟨by omega, by omega, (hh 0 (by omega)).trans q2, (hh 1 (by omega)).trans q3, (hh 2 (by omega)).trans q4, (hh 3 (by omega)).trans q5, fun c3 => ?_, fun c4 => ?_, fun hk => absurd hk c5, fun hk => absurd hk (by omega)⟩
        · have er : rn t = 2 := by unfold rn; rw [if_pos c3]
          have h1 := (hy.1.2.2.2.2.2.2.1 c3).2
          rw [er] at hh
          refine ⟨by omega, ?_⟩
          have e4 := hh 4 (by omega)
          have e5 := hh 5 (by omega)
          rw [e4, e5]; exact h1
        · have er : rn t = zl t := by unfold rn; rw [if_neg (by omega), if_neg (by omega)]
          have h1 := (hy.1.2.2.2.2.2.2.2.1 c4).2
          rw [er] at hh
          refine ⟨by omega, fun k hk => ?_⟩
          have e4 := hh (4 + k) (by omega)
          rw [show L + 4 + k = L + (4 + k) by omega, e4, show a + (4 + k) = a + 4 + k by omega]
          exact h1 k hk
end QB
