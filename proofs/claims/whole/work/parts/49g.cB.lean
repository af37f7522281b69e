/-! the class's Runner: work computes ev -/
section CWL
variable {op : Nat → Nat} {ar : Nat → Int32} {sx : Nat → zN} {p2 p3 : Nat → Nat} {vr : Nat → zT} {g : Nat → Nat} {v : mS} {T a s d k lv out : Nat} {t : zT} {l : List zT}
variable {Kr : (Nat → Nat) → mS → Int32 → Int32 → Int32 → Nat → Option (bO Unit)}
/-- what a token does, told plainly -/
def zFn (S : Nat → Prop) (F : Option (bO Unit)) (g : Nat → Nat) (v : mS) (T out : Nat) (l : List zT) (s : Nat) (sp : zEv) : Prop := ∃ g' v' T' s', zM g' v' T' ∧ zY S g v T g' v' T' ∧ v' 25 5 = zI s' ∧ s ≤ s' ∧ s' ≤ 150 ∧ T' + 280 * s ≤ T + 280 * s' ∧ (match sp with
    | none => F = some (.inr 3, g', v')
    | some (r, e, s1) => if l.length + r.length ≤ 16 then F = some (.inl (), g', v') ∧ zRw v' T' out (l ++ r) e ∧ s' = s1 ∧ v' 26 = v 26 else F = some (.inr 3, g', v'))
theorem fn_of {S : Nat → Prop} {F : Option (bO Unit)} {v2 : mS} {sp : zEv} (hY0 : zY S g v T g v2 T) (h26 : v2 26 = v 26) (h : zWk S F g v2 T out l none (s + 1) 0 sp) : zFn S (mg g F) g v T out l s (zcap sp) := by
  obtain ⟨g', v', T', s', a1, a2, a3, a4, a5, a6⟩ := zWk_mg h
  have hph := zph_le (n := l.length) (e := none)
  refine ⟨g', v', T', s', a1, hY0.tr a2, a3, by omega, a5, ?_⟩
  cases sp with
  | none =>
    obtain ⟨b1, b2⟩ := a6
    exact ⟨by omega, b1⟩
  | some q =>
    obtain ⟨r, e, s1⟩ := q
    unfold zWr at a6
    dsimp only at a6
    unfold zcap
    dsimp only
    by_cases c : l.length + r.length ≤ 16
    · rw [if_pos c] at a6
      obtain ⟨b1, b2, b3, b4, b5⟩ := a6
      rw [if_pos (by omega)]
      refine ⟨by omega, ?_⟩
      dsimp only
      rw [if_pos c]
      exact ⟨b1, b2, b3, b4.trans h26⟩
    · rw [if_neg c] at a6
      obtain ⟨b1, b2⟩ := a6
      refine ⟨by omega, ?_⟩
      by_cases c2 : r.length ≤ 16
      · rw [if_pos c2]
        dsimp only
        rw [if_neg c]
        exact b1
      · rw [if_neg c2]
        exact b1
/-- SUM makes more cells than its row pays for -/
theorem fn_28 {v2 : mS} (hY0 : zY (zS lv out) g v T g v2 T) (h26 : v2 26 = v 26) (hR : zRn op ar sx p2 p3 vr g v2 T (s + 1)) (hO : zOut lv out) (ha : zV (v2 4) T a t) (hw : zRw v2 T out l none) (hT : T + 280 ≤ 65000) (ho : op k = 28) : zFn (zS lv out) (mg g (wdisp Kr (zI (op k)) (ar k) g v2 (zI k) (zI a) (zI lv) out)) g v T out l s (zcap (zgv (zsum t) (s + 1))) := by
  obtain ⟨o1, o2, o3⟩ := rowB_r hO.1
  have h16 := hw.2.1
  have h150 := hR.2.2.2.2
  have hun : wdisp Kr (zI (op k)) (ar k) g v2 (zI k) (zI a) (zI lv) out = bo (f_V_sumOf g v2 (zI a)) (fun r9 g9 v9 => f_N_work_503 Kr out r9 g9 v9) := by
    rw [ho]
    unfold wdisp
    repeat rw [if_neg (by decide)]
    rw [if_pos (by decide)]
  rw [hun]
  obtain ⟨g', v', T', m, e, hT', p⟩ := c_sum hR.1 ha (by omega)
  have h5 : v' 25 5 = zI (s + 1) := by rw [e.2.2.2.2.2 25 (by decide) (by decide) (by decide) (by decide)]; exact hR.2.2.2.1
  have h26' : v' 26 = v2 26 := e.2.2.2.2.2 26 (by decide) (by decide) (by decide) (by decide)
  have hw' : zRw v' T' out l none := zRw_up hw (e.2.2.2.2.2 out (by omega) (by omega) (by omega) (by omega)) (e.2.2.2.2.2 (out + 1) (by omega) (by omega) (by omega) (by omega)) e.2.2.2.2.1 e.1
  have hYe : zY (zS lv out) g v T g' v' T' := hY0.tr e.Y
  have key : ∀ (x : Int32) (q : Nat ⊕ zT), zsum t = some q → f_V_sumOf g v2 (zI a) = some (.inl x, g', v') → zPr (some (.inl x, g', v')) g' v' T' (some q) → zFn (zS lv out) (mg g (bo (f_V_sumOf g v2 (zI a)) (fun r9 g9 v9 => f_N_work_503 Kr out r9 g9 v9))) g v T out l s (zcap (zgv (zsum t) (s + 1))) := by
    intro x q hsp hF hpr
    obtain ⟨v3, b1, b2, b3, b4, b5⟩ := w_give0 (S := zS lv out) m hO.1 zS_o hw' h5 hpr (fun e he => zsum_e (by rw [hsp, he]))
    have e503 : f_N_work_503 Kr out x g' v' = f_N_give g' v' x out := by
      rw [f_N_work_503, gd_t hO.1, bo_id (fun r g v => by cases r; rfl)]
    have hL : gL g ≤ gL g' := e.L
    have hb : ∀ y, f_N_give g' v' x out = some (y, g', v3) → mg g (bo (f_V_sumOf g v2 (zI a)) (fun r9 g9 v9 => f_N_work_503 Kr out r9 g9 v9)) = some (y, g', v3) := by
      intro y hy
      rw [hF]
      exact mg_s (bo_l (o := (y, g', v3)) (by rw [e503]; exact hy) (Nat.le_refl _)) hL
    refine ⟨g', v3, T', s + 1, b1, hYe.tr b2, b3, by omega, h150, by omega, ?_⟩
    rw [hsp]
    cases q with
    | inl e1 =>
      obtain ⟨b6, b7⟩ := b5
      unfold zgv zcap
      dsimp only
      rw [if_pos (show ([] : List zT).length ≤ 16 by simp)]
      dsimp only
      rw [if_pos (by simpa using h16)] at b7 ⊢
      exact ⟨hb _ b7.1, b7.2, rfl, b4.trans (h26'.trans h26)⟩
    | inr t1 =>
      obtain ⟨b6, b7⟩ := b5
      unfold zgv zcap
      dsimp only
      rw [if_pos (show [t1].length ≤ 16 by simp)]
      dsimp only
      by_cases cc : l.length + [t1].length ≤ 16
      · rw [if_pos cc] at b7 ⊢
        exact ⟨hb _ b7.1, b7.2, rfl, b4.trans (h26'.trans h26)⟩
      · rw [if_neg cc] at b7 ⊢
        exact hb _ b7
  cases hsp : zsum t with
  | none =>
    rw [hsp] at p
    have hF : f_V_sumOf g v2 (zI a) = some (.inr 3, g', v') := p
    rw [hF, bo_r]
    exact ⟨g', v', T', s + 1, m, hYe, h5, by omega, h150, by omega, mg_s rfl e.L⟩
  | some q =>
    rw [hsp] at p
    rw [← hsp]
    cases q with
    | inl e1 => exact key _ _ hsp p rfl
    | inr t1 =>
      obtain ⟨a1, pF, pv⟩ := p
      exact key _ _ hsp pF ⟨a1, rfl, pv⟩

theorem w_work : ∀ (d n lv : Nat), d ≤ n → lv + d ≤ 8 → zKr op ar sx p2 p3 (f_N_work n) d lv := by
  intro d
  induction d with
  | zero => intro n lv _ _ g v T k a out s t l vr _ _ hok; exact hok.elim
  | succ d ih =>
    intro n lv hn hlv
    obtain ⟨n, rfl, hn1⟩ := suc_of (show d < n by omega)
    intro g v T k a out s t l vr hM hE hok ha hO hw hV hs h150 hT
    have hK := ih n (lv + 1) (by omega) (by omega)
    have hlv8 : lv < 8 := by omega
    obtain ⟨o1, o2, o3⟩ := rowB_r hO.1
    show zFn (zS lv out) (f_N_workb (f_N_work n) g v (zI k) (zI a) (zI lv) out) g v T out l s (zev op ar sx p2 p3 (d + 1) k t vr s)
    generalize f_N_work n = Kr at *
    by_cases c : 150 ≤ s
    · have e1 : zev op ar sx p2 p3 (d + 1) k t vr s = none := by simp only [zev]; rw [if_pos c]
      rw [e1]
      refine ⟨g, v, T, s, hM, zY.rf, hs, Nat.le_refl _, h150, by omega, ?_⟩
      refine mg_s ?_ (Nat.le_refl _)
      rw [gd_t hO.1, hs, show s = 150 by omega, if_pos (by decide)]
    · have e1 : zev op ar sx p2 p3 (d + 1) k t vr s = zcap (zstep (op k) (ar k) sx (zev op ar sx p2 p3 d (k + 1)) (zev op ar sx p2 p3 d (p2 k)) (zev op ar sx p2 p3 d (p3 k)) t vr (s + 1)) := by simp only [zev]; rw [if_neg c]
      have hj : ∀ j, j ≠ 25 → sU v 25 5 (zI (s + 1)) j = v j := fun j h => sU_j h
      have hY0 : zY (zS lv out) g v T g (sU v 25 5 (zI (s + 1))) T := ⟨Nat.le_refl _, rfl, rfl, Nat.le_refl _, fun i _ => by rw [hj 4 (by decide)], fun j _ _ _ _ h => hj j (fun h9 => h (Or.inl h9))⟩
      have hM2 : zM g (sU v 25 5 (zI (s + 1))) T := zM_w hM (hj 1 (by decide)) (fun i _ => by rw [hj 4 (by decide)])
      have hE2 := zEn_up hE hY0 (zS_so hO)
      have hV2 := zVr_up hV (hj 26 (by decide)) (fun i _ => by rw [hj 4 (by decide)]) (Nat.le_refl T)
      have hR2 : zRn op ar sx p2 p3 vr g (sU v 25 5 (zI (s + 1))) T (s + 1) := ⟨hM2, hE2, hV2, sU_hit, by omega⟩
      have hw2 : zRw (sU v 25 5 (zI (s + 1))) T out l none := zRw_up hw (hj _ (by omega)) (hj _ (by omega)) (fun i _ => by rw [hj 4 (by decide)]) (Nat.le_refl _)
      have ha2 : zV (sU v 25 5 (zI (s + 1)) 4) T a t := by rw [hj 4 (by decide)]; exact ha
      have h26 : sU v 25 5 (zI (s + 1)) 26 = v 26 := hj 26 (by decide)
      have hb : f_N_workb Kr g v (zI k) (zI a) (zI lv) out = mg g (wdisp Kr (zI (op k)) (ar k) g (sU v 25 5 (zI (s + 1))) (zI k) (zI a) (zI lv) out) := by
        have e150 : ¬ zI s = 150 := by rw [zl_150, zI_eq (by omega) (by omega)]; omega
        rw [f_N_workb, gd_t hO.1, hs, if_neg e150, zl_1, zI_add, nm_s, gd_t (en_fil hE), en_ar hE2 hok.1, bi_s, gd_t (en_fil hE), en_op hE2 hok.1, bi_s]
        rfl
      generalize sU v 25 5 (zI (s + 1)) = v2 at *
      have hph := zph_le (n := l.length) (e := none)
      have hT2 : T + 280 * (150 - (s + 1)) + zph l.length none ≤ 65000 := by omega
      rw [e1, hb]
      have h34 := hok.2.1
      have hc : op k = 0 ∨ op k = 1 ∨ op k = 2 ∨ op k = 3 ∨ op k = 4 ∨ op k = 5 ∨ op k = 6 ∨ op k = 7 ∨ op k = 8 ∨ op k = 9 ∨ op k = 10 ∨ op k = 11 ∨ op k = 12 ∨ op k = 13 ∨ op k = 14 ∨ op k = 15 ∨ op k = 16 ∨ op k = 17 ∨ op k = 18 ∨ op k = 19 ∨ op k = 20 ∨ op k = 21 ∨ op k = 22 ∨ op k = 23 ∨ op k = 24 ∨ op k = 25 ∨ op k = 26 ∨ op k = 27 ∨ op k = 28 ∨ op k = 29 ∨ op k = 30 ∨ op k = 31 ∨ op k = 32 ∨ op k = 33 ∨ op k = 34 := by omega
      rcases hc with h | h | h | h | h | h | h | h | h | h | h | h | h | h | h | h | h | h | h | h | h | h | h | h | h | h | h | h | h | h | h | h | h | h | h
      · exact fn_of hY0 h26 (wk_0 hK hlv8 hR2 hO hok ha2 hw2 hT2 h)
      · exact fn_of hY0 h26 (wk_1 hK hlv8 hR2 hO hok ha2 hw2 hT2 h)
      · exact fn_of hY0 h26 (wk_2 hK hlv8 hR2 hO hok ha2 hw2 hT2 h)
      · exact fn_of hY0 h26 (wk_3 hK hlv8 hR2 hO hok ha2 hw2 hT2 h)
      · exact fn_of hY0 h26 (wk_4 hK hlv8 hR2 hO hok ha2 hw2 hT2 h)
      · exact fn_of hY0 h26 (wk_5 hK hlv8 hR2 hO hok ha2 hw2 hT2 h)
      · exact fn_of hY0 h26 (wk_6 hK hlv8 hR2 hO hok ha2 hw2 hT2 h)
      · exact fn_of hY0 h26 (wk_7 hK hlv8 hR2 hO hok ha2 hw2 hT2 h)
      · exact fn_of hY0 h26 (wk_8 hK hlv8 hR2 hO hok ha2 hw2 hT2 h)
      · exact fn_of hY0 h26 (wk_9 hK hlv8 hR2 hO hok ha2 hw2 hT2 h)
      · exact fn_of hY0 h26 (wk_10 hK hlv8 hR2 hO hok ha2 hw2 hT2 h)
      · exact fn_of hY0 h26 (wk_11 hK hlv8 hR2 hO hok ha2 hw2 hT2 h)
      · exact fn_of hY0 h26 (wk_12 hK hlv8 hR2 hO hok ha2 hw2 hT2 h)
      · exact fn_of hY0 h26 (wk_13 hK hlv8 hR2 hO hok ha2 hw2 hT2 h)
      · exact fn_of hY0 h26 (wk_14 hK hlv8 hR2 hO hok ha2 hw2 hT2 h)
      · exact fn_of hY0 h26 (wk_15 hK hlv8 hR2 hO hok ha2 hw2 hT2 h)
      · exact fn_of hY0 h26 (wk_16 hK hlv8 hR2 hO hok ha2 hw2 hT2 h)
      · exact fn_of hY0 h26 (wk_17 hK hlv8 hR2 hO hok ha2 hw2 hT2 h)
      · exact fn_of hY0 h26 (wk_18 hK hlv8 hR2 hO hok ha2 hw2 hT2 h)
      · exact fn_of hY0 h26 (wk_19 hK hlv8 hR2 hO hok ha2 hw2 hT2 h)
      · exact fn_of hY0 h26 (wk_20 hK hlv8 hR2 hO hok ha2 hw2 hT2 h)
      · exact fn_of hY0 h26 (wk_21 hK hlv8 hR2 hO hok ha2 hw2 hT2 h)
      · exact fn_of hY0 h26 (wk_22 hK hlv8 hR2 hO hok ha2 hw2 hT2 h)
      · exact fn_of hY0 h26 (wk_23 hK hlv8 hR2 hO hok ha2 hw2 hT2 h)
      · exact fn_of hY0 h26 (wk_24 hK hlv8 hR2 hO hok ha2 hw2 hT2 h)
      · exact fn_of hY0 h26 (wk_25 hK hlv8 hR2 hO hok ha2 hw2 hT2 h)
      · exact fn_of hY0 h26 (wk_26 hK hlv8 hR2 hO hok ha2 hw2 hT2 h)
      · exact fn_of hY0 h26 (wk_27 hK hlv8 hR2 hO hok ha2 hw2 hT2 h)
      · have hsp : zstep (op k) (ar k) sx (zev op ar sx p2 p3 d (k + 1)) (zev op ar sx p2 p3 d (p2 k)) (zev op ar sx p2 p3 d (p3 k)) t vr (s + 1) = zgv (zsum t) (s + 1) := by rw [h]; rfl
        rw [hsp]
        exact fn_28 hY0 h26 hR2 hO ha2 hw2 (by omega) h
      · exact fn_of hY0 h26 (wk_29 hK hlv8 hR2 hO hok ha2 hw2 hT2 h)
      · exact fn_of hY0 h26 (wk_30 hK hlv8 hR2 hO hok ha2 hw2 hT2 h)
      · exact fn_of hY0 h26 (wk_31 hK hlv8 hR2 hO hok ha2 hw2 hT2 h)
      · exact fn_of hY0 h26 (wk_32 hK hlv8 hR2 hO hok ha2 hw2 hT2 h)
      · exact fn_of hY0 h26 (wk_33 hK hlv8 hR2 hO hok ha2 hw2 hT2 h)
      · exact fn_of hY0 h26 (wk_34 hK hlv8 hR2 hO hok ha2 hw2 hT2 h)
end CWL
