/-! the class's Runner: what follows for each value, by ops -/
theorem zidx_e {t i : zT} {e : Nat} (h : zidx t i = .inl e) : e = 1 := by
  unfold zidx at h
  repeat' split at h
  all_goals first | (cases h; rfl) | cases h
theorem zhas_e {t i : zT} {e : Nat} (h : zhas t i = .inl e) : e = 1 := by
  unfold zhas at h
  repeat' split at h
  all_goals first | (cases h; rfl) | cases h
theorem zfld_e {t : zT} {x : zN} {e : Nat} (h : zfld t x = .inl e) : e = 1 := by
  unfold zfld at h
  repeat' split at h
  all_goals first | (cases h; rfl) | cases h
theorem zmkO_e {n : Nat} {nf : Nat → zN} {f : Nat → zT} {e : Nat} (h : zmkO n nf f = some (.inl e)) : 1 ≤ e ∧ e ≤ 2 := by
  unfold zmkO at h
  split at h <;> cases h
theorem zmkA_e {n : Nat} {f : Nat → zT} {e : Nat} (h : zmkA n f = some (.inl e)) : 1 ≤ e ∧ e ≤ 2 := by
  unfold zmkA at h
  split at h <;> cases h
theorem zmkN_e {m : Int} {e : Nat} (h : zmkN m = some (.inl e)) : 1 ≤ e ∧ e ≤ 2 := by
  unfold zmkN at h
  split at h <;> cases h
section CWW
variable {op : Nat → Nat} {ar : Nat → Int32} {sx : Nat → zN} {p2 p3 : Nat → Nat} {vr : Nat → zT} {S : Nat → Prop} {g : Nat → Nat} {v : mS} {T a b s d k lv out : Nat} {t x : zT} {l : List zT}
variable {Kr : (Nat → Nat) → mS → Int32 → Int32 → Int32 → Nat → Option (bO Unit)}
theorem zOut_s (h : zOut lv out) : zOut (lv + 1) out := ⟨h.1, by have := h.2; omega⟩
theorem w_G {F : Option (Int32 × mS)} {q : Nat ⊕ zT} {K : Int32 → mS → Option (bO Unit)} (hM : zM g v T) (hr : rowB out = true) (hS : S out ∧ S (out + 1)) (h : zRw v T out l none) (hs : v 25 5 = zI s) (hs150 : s ≤ 150) (hG : zG F v T q) (hq : ∀ e, q = .inl e → 1 ≤ e ∧ e ≤ 2) (hK : ∀ r w, K r w = f_N_give g w r out) : zWk S (bi F K) g v T out l none s 0 (zgv (some q) s) := by
  cases q with
  | inl e =>
    have hG : F = some (zJ (-(e : Int)), v) := hG
    rw [hG, bi_s, hK]
    exact w_0 (w_give0 hM hr hS h hs rfl hq) hs150
  | inr u =>
    obtain ⟨b, hG, hb⟩ := hG
    rw [hG, bi_s, hK]
    exact w_0 (w_give0 hM hr hS h hs ⟨b, rfl, hb⟩ hq) hs150
/-- the head of 'follow' -/
theorem fo_head (hR : zRn op ar sx p2 p3 vr g v T s) (hO : zOut lv out) (hk : k < 32) {o : Nat} (ho : op k = o) {X : Option (bO Unit)} (hX : f_N_follow Kr g v (zI k) (zI a) (zI b) (zI lv) out = mg g (gd (rowB out) (gd (filB (9 + 4 * g 25)) (bi (some (zI o, v)) fun _ _ => X)))) : f_N_follow Kr g v (zI k) (zI a) (zI b) (zI lv) out = mg g X := by
  rw [hX, gd_t hO.1, gd_t (en_fil hR.2.1), bi_s]
theorem fo_2 (hR : zRn op ar sx p2 p3 vr g v T s) (hO : zOut lv out) (hk : k < 32) (ho : op k = 2) (ha : zV (v 4) T a t) (hb : zV (v 4) T b x) (hw : zRw v T out l none) : zWk (zSB lv out) (f_N_follow Kr g v (zI k) (zI a) (zI b) (zI lv) out) g v T out l none s 0 (zgv (some (zidx t x)) s) := by
  refine zWk_mg ?_
  rw [gd_t hO.1, gd_t (en_fil hR.2.1), en_op hR.2.1 hk, bi_s, ho, if_pos (by decide)]
  exact w_G hR.1 hO.1 zSB_o hw hR.2.2.2.1 hR.2.2.2.2 (c_indexed hR.1 ha hb) (fun e he => by have := zidx_e he; omega) (fun r w => bo_id (fun r g v => by cases r; rfl))
theorem fo_32 (hR : zRn op ar sx p2 p3 vr g v T s) (hO : zOut lv out) (hk : k < 32) (ho : op k = 32) (ha : zV (v 4) T a t) (hb : zV (v 4) T b x) (hw : zRw v T out l none) : zWk (zSB lv out) (f_N_follow Kr g v (zI k) (zI a) (zI b) (zI lv) out) g v T out l none s 0 (zgv (some (zhas t x)) s) := by
  refine zWk_mg ?_
  rw [gd_t hO.1, gd_t (en_fil hR.2.1), en_op hR.2.1 hk, bi_s, ho]
  repeat rw [if_neg (by decide)]
  rw [if_pos (by decide)]
  exact w_G hR.1 hO.1 zSB_o hw hR.2.2.2.1 hR.2.2.2.2 (c_has hR.1 ha hb) (fun e he => by have := zhas_e he; omega) (fun r w => bo_id (fun r g v => by cases r; rfl))
theorem fo_33 (hR : zRn op ar sx p2 p3 vr g v T s) (hO : zOut lv out) (hk : k < 32) (ho : op k = 33) (ha : zV (v 4) T a t) (hb : zV (v 4) T b x) (hw : zRw v T out l none) : zWk (zSB lv out) (f_N_follow Kr g v (zI k) (zI a) (zI b) (zI lv) out) g v T out l none s 0 (some (if zgood x = true then [t] else [], none, s)) := by
  refine zWk_mg ?_
  have h9 := w_select (S := zSB lv out) hR.1 hO.1 zSB_o hw hR.2.2.2.1 hR.2.2.2.2 ha hb
  generalize (some (if zgood x = true then [t] else [], none, s) : zEv) = sp at *
  rw [gd_t hO.1, gd_t (en_fil hR.2.1), en_op hR.2.1 hk, bi_s, ho]
  repeat rw [if_neg (by decide)]
  rw [if_pos (by decide), bo_id (fun r g v => by cases r; rfl)]
  exact h9
theorem fo_29 (hR : zRn op ar sx p2 p3 vr g v T s) (hO : zOut lv out) (hk : k < 32) (ho : op k = 29) (hb : zV (v 4) T b x) (hw : zRw v T out l none) : zWk (zSB lv out) (f_N_follow Kr g v (zI k) (zI a) (zI b) (zI lv) out) g v T out l none s 0 (zrng x s) := by
  refine zWk_mg ?_
  rw [gd_t hO.1, gd_t (en_fil hR.2.1), en_op hR.2.1 hk, bi_s, ho]
  repeat rw [if_neg (by decide)]
  rw [if_pos (by decide), bo_id (fun r g v => by cases r; rfl)]
  exact w_range hR.1 hO.1 zSB_o hw hR.2.2.2.1 hR.2.2.2.2 hb
theorem fo_4 (hK : zKr op ar sx p2 p3 Kr d (lv + 1)) (hR : zRn op ar sx p2 p3 vr g v T s) (hO : zOut lv out) (hk : zok op ar p2 p3 (d + 1) k) (ho : op k = 4) (hb : zV (v 4) T b x) (hw : zRw v T out l none) (hT : T + 280 * (150 - s) + zph l.length none ≤ 65000) : zWk (zSB lv out) (f_N_follow Kr g v (zI k) (zI a) (zI b) (zI lv) out) g v T out l none s 0 (zev op ar sx p2 p3 d (p2 k) x vr s) := by
  have h2 : 2 ≤ zpt (op k) := by rw [ho]; decide
  refine zWk_mg ?_
  rw [gd_t hO.1, gd_t (en_fil hR.2.1), en_op hR.2.1 hk.1, bi_s, ho]
  repeat rw [if_neg (by decide)]
  rw [if_pos (by decide), gd_t (en_fil hR.2.1), en_2 hR.2.1 hk h2, bi_s, bo_id (fun r g v => by cases r; rfl), zl_1, zI_add]
  exact zWk_mono (w_Kr hK hR (hk.2.2.2.2.1 h2) hb (zOut_s hO) hw (by omega)) zS_B
theorem fo_17 (hK : zKr op ar sx p2 p3 Kr d (lv + 1)) (hR : zRn op ar sx p2 p3 vr g v T s) (hO : zOut lv out) (hk : zok op ar p2 p3 (d + 1) k) (ho : op k = 17) (ha : zV (v 4) T a t) (hb : zV (v 4) T b x) (hw : zRw v T out l none) (hT : T + 280 * (150 - s) + zph l.length none ≤ 65000) : zWk (zSB lv out) (f_N_follow Kr g v (zI k) (zI a) (zI b) (zI lv) out) g v T out l none s 0 (if zgood x = true then zev op ar sx p2 p3 d (p2 k) t vr s else zev op ar sx p2 p3 d (p3 k) t vr s) := by
  have h2 : 2 ≤ zpt (op k) := by rw [ho]; decide
  have h3 : 3 ≤ zpt (op k) := by rw [ho]; decide
  have h9 : zWk (zSB lv out) (f_N_choose Kr g v (zI k) (zI a) (zI b) (zI lv) out) g v T out l none s 0 (if zgood x = true then zev op ar sx p2 p3 d (p2 k) t vr s else zev op ar sx p2 p3 d (p3 k) t vr s) := by
    refine zWk_mg ?_
    rw [gd_t hO.1, c_good hR.1 hb, bi_s]
    by_cases c : zk x < 2
    · have : zgood x = false := by simp [zgood]; omega
      rw [if_pos c, if_pos rfl, this, if_neg (by decide), gd_t (en_fil hR.2.1), en_3 hR.2.1 hk h3, bi_s, f_N_choose_30, gd_t hO.1, bo_id (fun r g v => by cases r; rfl), zl_1, zI_add]
      exact zWk_mono (w_Kr hK hR (hk.2.2.2.2.2 h3) ha (zOut_s hO) hw (by omega)) zS_B
    · have : zgood x = true := by simp [zgood]; omega
      rw [if_neg c, if_neg (by decide), this, if_pos rfl, gd_t (en_fil hR.2.1), en_2 hR.2.1 hk h2, bi_s, f_N_choose_30, gd_t hO.1, bo_id (fun r g v => by cases r; rfl), zl_1, zI_add]
      exact zWk_mono (w_Kr hK hR (hk.2.2.2.2.1 h2) ha (zOut_s hO) hw (by omega)) zS_B
  generalize (if zgood x = true then zev op ar sx p2 p3 d (p2 k) t vr s else zev op ar sx p2 p3 d (p3 k) t vr s) = sp at *
  refine zWk_mg ?_
  rw [gd_t hO.1, gd_t (en_fil hR.2.1), en_op hR.2.1 hk.1, bi_s, ho]
  repeat rw [if_neg (by decide)]
  rw [if_pos (by decide), bo_id (fun r g v => by cases r; rfl)]
  exact h9
theorem en_str (hE : zEn op ar sx p2 p3 g v T) {n : Nat} (hn : n < 8) : ∃ b, v 7 n = zI b ∧ zRX (v 4) T b (sx n) ∧ ztx (sx n) := hE.2.2.2 n hn
theorem fo_11 (hR : zRn op ar sx p2 p3 vr g v T s) (hO : zOut lv out) (hk : zok op ar p2 p3 (d + 1) k) (ho : op k = 11) (hb : zV (v 4) T b x) (hw : zRw v T out l none) (hT : T + 280 * (150 - s) + zph l.length none ≤ 65000) : zWk (zSB lv out) (f_N_follow Kr g v (zI k) (zI a) (zI b) (zI lv) out) g v T out l none s 0 (zgv (zmkO 1 (fun _ => sx (ar k).toNatClampNeg) (fun _ => x)) s) := by
  obtain ⟨n, hn, hn8⟩ := hk.2.2.1.1 (Or.inr (Or.inr ho))
  obtain ⟨c, ec, hc, hc2⟩ := en_str hR.2.1 hn8
  have h16 := hw.2.1
  have hph : 16 ≤ zph l.length none := by simp only [zph]; omega
  have hn' : (ar k).toNatClampNeg = n := by rw [hn, zI_toNat (by omega)]
  refine zWk_mg ?_
  rw [gd_t hO.1, gd_t (en_fil hR.2.1), en_op hR.2.1 hk.1, bi_s, ho]
  repeat rw [if_neg (by decide)]
  rw [if_pos (by decide), gd_t (en_fil hR.2.1), en_ar hR.2.1 hk.1, bi_s, hn', hn, gd_I hn8 (by omega), ec]
  refine w_giveP hR.1 hO.1 zSB_o hw hR.2.2.2.1 hR.2.2.2.2 (c_objectOf hR.1 (by omega) hc hc2 hb) (by omega) (fun e he => zmkO_e he) (fun y g' v' T' q hq hp m1 w1 s1 => ?_)
  cases q with
  | inl e => have := hq ▸ zmkO_e (n := 1) (nf := fun _ => sx n) (f := fun _ => x) (e := e); unfold zmkO at hq; split at hq <;> cases hq
  | inr u =>
    obtain ⟨c1, e1, h1⟩ := hp
    have e1 : y = zI c1 := by cases e1; rfl
    subst e1
    rw [f_N_follow_215, gd_t hO.1, bo_id (fun r g v => by cases r; rfl)]
    exact w_put0 m1 hO.1 zSB_o w1 s1 h1
/-- BIND -/
theorem fo_20 (hK : zKr op ar sx p2 p3 Kr d (lv + 1)) (hR : zRn op ar sx p2 p3 vr g v T s) (hO : zOut lv out) (hk : zok op ar p2 p3 (d + 1) k) (ho : op k = 20) (ha : zV (v 4) T a t) (hb : zV (v 4) T b x) (hw : zRw v T out l none) (hT : T + 280 * (150 - s) + zph l.length none ≤ 65000) : zWk (zSB lv out) (f_N_follow Kr g v (zI k) (zI a) (zI b) (zI lv) out) g v T out l none s 0 (zev op ar sx p2 p3 d (p2 k) t (va_up vr (ar k).toNatClampNeg x) s) := by
  have h2 : 2 ≤ zpt (op k) := by rw [ho]; decide
  obtain ⟨o1, o2, o3⟩ := rowB_r hO.1
  obtain ⟨n, hn, hn4⟩ := hk.2.2.1.2.1 (Or.inl ho)
  have hn' : (ar k).toNatClampNeg = n := by rw [hn, zI_toNat (by omega)]
  have hj : ∀ j, j ≠ 26 → sU v 26 n (zI b) j = v j := fun j h => sU_j h
  have hY0 : zY (zSB lv out) g v T g (sU v 26 n (zI b)) T := ⟨Nat.le_refl _, rfl, rfl, Nat.le_refl _, fun i _ => by rw [hj 4 (by decide)], fun j _ _ _ _ h => hj j (fun h9 => h (Or.inr (Or.inl h9)))⟩
  have hM0 : zM g (sU v 26 n (zI b)) T := zM_w hR.1 (hj 1 (by decide)) (fun i _ => by rw [hj 4 (by decide)])
  have hV0 : zVr (sU v 26 n (zI b)) T (va_up vr n x) := by
    intro i hi
    rw [hj 4 (by decide)]
    by_cases c : i = n
    · subst c
      exact ⟨b, sU_hit, by unfold va_up; rw [if_pos rfl]; exact hb⟩
    · obtain ⟨c1, e1, h1⟩ := hR.2.2.1 i hi
      exact ⟨c1, by rw [sU_k c]; exact e1, by unfold va_up; rw [if_neg c]; exact h1⟩
  have hE0 := zEn_up hR.2.1 hY0 (zSB_so hO)
  have hR0 : zRn op ar sx p2 p3 (va_up vr n x) g (sU v 26 n (zI b)) T s := ⟨hM0, hE0, hV0, by rw [hj 25 (by decide)]; exact hR.2.2.2.1, hR.2.2.2.2⟩
  have hw0 : zRw (sU v 26 n (zI b)) T out l none := zRw_up hw (hj _ (by omega)) (hj _ (by omega)) (fun i _ => by rw [hj 4 (by decide)]) (Nat.le_refl _)
  obtain ⟨g', v', T', s', k1, k2, k3, k4, k5, k6⟩ := zWk_mono (w_Kr hK hR0 (hk.2.2.2.2.1 h2) (a := a) (t := t) (by rw [hj 4 (by decide)]; exact ha) (zOut_s hO) hw0 (by omega)) zS_B
  have h26 : ∀ w : mS, w 26 = sU v 26 n (zI b) 26 → sU w 26 n (v 26 n) 26 = v 26 := by
    intro w hw9
    funext i
    by_cases c : i = n
    · subst c; exact sU_hit
    · rw [sU_k c, hw9, sU_k c]
  have hbind : f_N_follow Kr g v (zI k) (zI a) (zI b) (zI lv) out = mg g (mg g (bo (Kr g (sU v 26 n (zI b)) (zI (p2 k)) (zI a) (zI (lv + 1)) out) (fun r9 g9 v9 => f_N_bind_46 Kr (zI n) (v 26 n) g9 v9))) := by
    have e1 : f_N_bind Kr g v (zI k) (zI a) (zI b) (zI lv) out = mg g (bo (Kr g (sU v 26 n (zI b)) (zI (p2 k)) (zI a) (zI (lv + 1)) out) (fun r9 g9 v9 => f_N_bind_46 Kr (zI n) (v 26 n) g9 v9)) := by
      rw [f_N_bind, gd_t hO.1, gd_t (en_fil hR.2.1), en_ar hR.2.1 hk.1, bi_s, hn, gd_I hn4 (by omega), nm_s, gd_I hn4 (by omega), nm_s, zI_toNat (by omega), gd_t (en_fil hR.2.1), en_2 hE0 hk h2, bi_s, zl_1, zI_add]
    rw [f_N_follow, gd_t hO.1, gd_t (en_fil hR.2.1), en_op hR.2.1 hk.1, bi_s, ho]
    repeat rw [if_neg (by decide)]
    rw [if_pos (by decide), bo_id (fun r g v => by cases r; rfl), e1]
  rw [hbind, mg_mg, hn']
  refine zWk_mg ?_
  cases hz : zev op ar sx p2 p3 d (p2 k) t (va_up vr n x) s with
  | none =>
    rw [hz] at k6
    rw [k6.1, bo_r]
    exact ⟨g', v', T', s', k1, hY0.tr k2, k3, k4, k5, rfl, k6.2⟩
  | some q =>
    obtain ⟨r, e, s1⟩ := q
    rw [hz] at k6
    unfold zWr at k6
    dsimp only at k6
    by_cases c : l.length + r.length ≤ 16
    · rw [if_pos c] at k6
      obtain ⟨q1, q2, q3, q4, q5⟩ := k6
      have hj' : ∀ j, j ≠ 26 → sU v' 26 n (v 26 n) j = v' j := fun j h => sU_j h
      have hb9 : bo (Kr g (sU v 26 n (zI b)) (zI (p2 k)) (zI a) (zI (lv + 1)) out) (fun r9 g9 v9 => f_N_bind_46 Kr (zI n) (v 26 n) g9 v9) = some (.inl (), g', sU v' 26 n (v 26 n)) := by
        rw [q1]
        refine bo_l (o := (.inl (), g', sU v' 26 n (v 26 n))) ?_ (Nat.le_refl _)
        rw [f_N_bind_46, gd_I hn4 (by omega), nm_s, zI_toNat (by omega)]
      rw [hb9]
      refine ⟨g', sU v' 26 n (v 26 n), T', s', zM_w k1 (hj' 1 (by decide)) (fun i _ => by rw [hj' 4 (by decide)]), hY0.tr (k2.tr ⟨Nat.le_refl _, rfl, rfl, Nat.le_refl _, fun i _ => by rw [hj' 4 (by decide)], fun j _ _ _ _ h => hj' j (fun h9 => h (Or.inr (Or.inl h9)))⟩), by rw [hj' 25 (by decide)]; exact k3, k4, k5, ?_⟩
      unfold zWr
      dsimp only
      rw [if_pos c]
      exact ⟨rfl, zRw_up q2 (hj' _ (by omega)) (hj' _ (by omega)) (fun i _ => by rw [hj' 4 (by decide)]) (Nat.le_refl _), q3, h26 v' q4, q5⟩
    · rw [if_neg c] at k6
      rw [k6.1, bo_r]
      refine ⟨g', v', T', s', k1, hY0.tr k2, k3, k4, k5, ?_⟩
      unfold zWr
      dsimp only
      rw [if_neg c]
      exact ⟨rfl, k6.2⟩
/-- BOTH and EITHER -/
theorem w_both_l (hlv : lv < 8) (hO : zOut lv out) {xs : List zT} {eR : Option zT} : ∀ (m q n : Nat) (v : mS) (l : List zT), n + m = xs.length → m < q → zM g v T → v 25 5 = zI s → s ≤ 150 → zRw v T out l none → zRw v T (28 + 4 * lv + 2) xs eR → zWk (zSB lv out) (f_N_bothOrEither_69 Kr q out (28 + 4 * lv + 2) (zI n) g v) g v T out l none s 0 (some ((xs.drop n).map (fun y => ztr (zgood y)), eR, s)) := by
  obtain ⟨o1, o2, o3⟩ := rowB_r hO.1
  have hrow : rowB (28 + 4 * lv + 2) = true := by simp [rowB]; omega
  intro m
  induction m with
  | zero =>
    intro q n v l hn hq hM hs h150 hw hw2
    obtain ⟨q, rfl, -⟩ := suc_of hq
    have hx16 := hw2.2.1
    have e1 : xs.drop n = [] := List.drop_eq_nil_of_le (by omega)
    rw [e1]
    refine w_endAs (e0 := none) (xs := xs) (eR := eR) hM hO.1 hrow zSB_o.1 hs h150 hw hw2 (fun w hw9 => ?_)
    rw [f_N_bothOrEither_69, gd_t hO.1, gd_t hrow, c_rsize hrow hw2, bi_s, iI_le (by omega) (by omega), if_pos (by omega), hw9, bv_s]
  | succ m ih =>
    intro q n v l hn hq hM hs h150 hw hw2
    obtain ⟨q, rfl, hq⟩ := suc_of hq
    have hq := Nat.lt_of_succ_lt_succ hq
    have hx16 := hw2.2.1
    obtain ⟨b, eb, hb⟩ := c_rat (g := g) hrow hw2 (show n < xs.length by omega)
    obtain ⟨c, ec, hc⟩ := c_truth hM (b := zgood (xs.getD n (zW 0))) (x := if zk (xs.getD n (zW 0)) < 2 then 0 else 1) (by
      by_cases c : zk (xs.getD n (zW 0)) < 2
      · have : zgood (xs.getD n (zW 0)) = false := by simp only [zgood, decide_eq_false_iff_not]; omega
        rw [if_pos c, this]; rfl
      · have : zgood (xs.getD n (zW 0)) = true := by simp only [zgood, decide_eq_true_eq]; omega
        rw [if_neg c, this]; rfl)
    rw [drop_c (by omega), f_N_bothOrEither_69, gd_t hO.1, gd_t hrow, c_rsize hrow hw2, bi_s, iI_le (by omega) (by omega), if_neg (by omega), eb, bi_s, c_good hM hb, bi_s, ec, bi_s]
    refine w_putK (sp2 := some ((xs.drop (n + 1)).map (fun y => ztr (zgood y)), eR, s)) hM hO.1 zSB_o hw hs h150 hc (fun v' m1 y1 s1 w1 _ hj => ?_)
    rw [f_N_bothOrEither_105, gd_t hO.1, gd_t hrow, nm_s, zl_1, zI_add]
    have h9 := hO.2
    exact ih q (n + 1) v' _ (by omega) hq m1 s1 h150 w1 (zRw_up hw2 (hj _ (by omega) (by omega)) (hj _ (by omega) (by omega)) y1.2.2.2.2.1 (Nat.le_refl _))
theorem fo_14 (hK : zKr op ar sx p2 p3 Kr d (lv + 1)) (hlv : lv < 8) (hR : zRn op ar sx p2 p3 vr g v T s) (hO : zOut lv out) (hk : zok op ar p2 p3 (d + 1) k) (ho : op k = 14 ∨ op k = 15) (ha : zV (v 4) T a t) (hb : zV (v 4) T b x) (hw : zRw v T out l none) (hT : T + 280 * (150 - s) + zph l.length none ≤ 65000) : zWk (zSB lv out) (f_N_follow Kr g v (zI k) (zI a) (zI b) (zI lv) out) g v T out l none s 0 (if zgood x = decide (op k = 15) then some ([ztr (decide (op k = 15))], none, s) else zbnd (zev op ar sx p2 p3 d (p2 k) t vr s) (fun r e s1 => some (r.map (fun y => ztr (zgood y)), e, s1))) := by
  have h2 : 2 ≤ zpt (op k) := by rcases ho with h | h <;> rw [h] <;> decide
  have hrow : rowB (28 + 4 * lv + 2) = true := by simp [rowB]; omega
  have key : ∀ (y0 : Int32) (bb : Bool), (y0 = if bb then 1 else 0) → zWk (zSB lv out) (f_N_bothOrEither_18 Kr (zI k) (zI a) (zI b) (zI lv) out y0 g v) g v T out l none s 0 (if zgood x = bb then some ([ztr bb], none, s) else zbnd (zev op ar sx p2 p3 d (p2 k) t vr s) (fun r e s1 => some (r.map (fun y => ztr (zgood y)), e, s1))) := by
    intro y0 bb hy
    have eg : ((if zk x < 2 then (0 : Int32) else 1) = y0) = (zgood x = bb) := by
      rw [hy]
      by_cases c : zk x < 2
      · have : zgood x = false := by simp [zgood]; omega
        rw [if_pos c, this]
        cases bb <;> simp
      · have : zgood x = true := by simp [zgood]; omega
        rw [if_neg c, this]
        cases bb <;> simp
    rw [f_N_bothOrEither_18, gd_t hO.1, c_good hR.1 hb, bi_s, ite_p eg]
    by_cases c : zgood x = bb
    · obtain ⟨q, eq, hq⟩ := c_truth hR.1 (b := bb) hy
      rw [if_pos c, if_pos c, eq, bi_s, bo_id (fun r g v => by cases r; rfl)]
      exact w_0 (w_put0 hR.1 hO.1 zSB_o hw hR.2.2.2.1 hq) hR.2.2.2.2
    · rw [if_neg c, if_neg c, gd_t (en_fil hR.2.1), en_2 hR.2.1 hk h2, bi_s, zl_1]
      refine w_rowK (w := 1) hK hlv (by omega) hR (hk.2.2.2.2.1 h2) ha hO hw (by omega) (fun j hj => ?_) (fun g' v' T' r e s1 h1 h3 h4 h5 h6 h7 h8 h9 => ?_)
      · rcases hj with h | h | h | h | h
        · exact Or.inl h
        · exact Or.inr (Or.inl h)
        · exact Or.inr (Or.inr (Or.inl ⟨by omega, h.2⟩))
        · exact Or.inr (Or.inr (Or.inl ⟨by omega, by omega⟩))
        · exact Or.inr (Or.inr (Or.inl ⟨by omega, by omega⟩))
      · have h16 := h5.2.1
        rw [f_N_bothOrEither_64, gd_t hO.1, show 28 + 4 * lv + 2 * 1 = 28 + 4 * lv + 2 by omega, gd_t hrow, zl_0]
        have h10 := w_both_l (Kr := Kr) hlv hO (xs := r) (eR := e) r.length fu 0 v' l (by omega) (fu_lt (by omega)) h3.1 h3.2.2.2.1 h3.2.2.2.2 h6 h5
        exact h10
  have h9 : zWk (zSB lv out) (f_N_bothOrEither Kr g v (zI k) (zI a) (zI b) (zI lv) out) g v T out l none s 0 (if zgood x = decide (op k = 15) then some ([ztr (decide (op k = 15))], none, s) else zbnd (zev op ar sx p2 p3 d (p2 k) t vr s) (fun r e s1 => some (r.map (fun y => ztr (zgood y)), e, s1))) := by
    refine zWk_mg ?_
    rw [gd_t hO.1, gd_t (en_fil hR.2.1), en_op hR.2.1 hk.1, bi_s]
    rcases ho with h | h
    · rw [h, if_neg (show ¬ zI 14 = 15 by decide)]
      exact key 0 _ (by decide)
    · rw [h, if_pos (show zI 15 = 15 by decide)]
      exact key 1 _ (by decide)
  generalize (if zgood x = decide (op k = 15) then some ([ztr (decide (op k = 15))], none, s) else zbnd (zev op ar sx p2 p3 d (p2 k) t vr s) (fun r e s1 => some (r.map (fun y => ztr (zgood y)), e, s1))) = sp at *
  refine zWk_mg ?_
  rw [gd_t hO.1, gd_t (en_fil hR.2.1), en_op hR.2.1 hk.1, bi_s]
  rcases ho with h | h
  · rw [h]
    repeat rw [if_neg (by decide)]
    rw [if_pos (by decide), f_N_follow_221, gd_t hO.1, bo_id (fun r g v => by cases r; rfl)]
    exact h9
  · rw [h]
    repeat rw [if_neg (by decide)]
    rw [if_pos (by decide), f_N_follow_221, gd_t hO.1, bo_id (fun r g v => by cases r; rfl)]
    exact h9
end CWW
