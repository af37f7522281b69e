/-! the class's Runner: a token is worked out -/
def wdisp (Kr : (Nat → Nat) → mS → Int32 → Int32 → Int32 → Nat → Option (bO Unit)) (r_10 r_6 : Int32) (g : Nat → Nat) (v_8 : mS) (x1 x2 x3 : Int32) (x4 : Nat) : Option (bO Unit) := if r_10 = 0 then (bo (f_R_put g v_8 x4 x2) fun r9 g9 v9 => f_N_work_210 Kr g9 v9) else if r_10 = 1 then (gd (inB r_6 8) (bi (f_V_fieldOf g v_8 x2 (v_8 7 (r_6 : Int32).toNatClampNeg)) fun r_15 v_13 => bo (f_N_give g v_13 r_15 x4) fun r9 g9 v9 => f_N_work_234 Kr g9 v9)) else if r_10 = 2 then (f_N_work_550 Kr x1 x2 x3 x4 g v_8) else if r_10 = 3 then (bo (f_N_each g v_8 x2 x4) fun r9 g9 v9 => f_N_work_244 Kr g9 v9) else if r_10 = 4 then (f_N_work_550 Kr x1 x2 x3 x4 g v_8) else if r_10 = 5 then (bo (f_N_comma Kr g v_8 x1 x2 x3 x4) fun r9 g9 v9 => f_N_work_256 Kr g9 v9) else if r_10 = 6 then (bo (f_V_numberOf g v_8 ((r_6 : Int32).toInt64) 3) fun r9 g9 v9 => f_N_work_272 Kr x4 r9 g9 v9) else if r_10 = 7 then (gd (inB r_6 8) (bo (f_R_put g v_8 x4 (v_8 7 (r_6 : Int32).toNatClampNeg)) fun r9 g9 v9 => f_N_work_290 Kr g9 v9)) else if r_10 = 8 then (bi (f_V_wordFor g v_8 r_6) fun r_26 v_24 => bo (f_R_put g v_24 x4 r_26) fun r9 g9 v9 => f_N_work_307 Kr g9 v9) else if r_10 = 9 then (bo (f_N_array Kr g v_8 x1 x2 x3 x4) fun r9 g9 v9 => f_N_work_319 Kr g9 v9) else if r_10 = 10 then (bo (f_V_emptyArray g v_8 ) fun r9 g9 v9 => f_N_work_331 Kr x4 r9 g9 v9) else if r_10 = 11 then (f_N_work_550 Kr x1 x2 x3 x4 g v_8) else if r_10 = 12 then (f_N_work_337 Kr x1 x2 x3 x4 g v_8) else if r_10 = 13 then (f_N_work_337 Kr x1 x2 x3 x4 g v_8) else if r_10 = 14 then (f_N_work_550 Kr x1 x2 x3 x4 g v_8) else if r_10 = 15 then (f_N_work_550 Kr x1 x2 x3 x4 g v_8) else if r_10 = 16 then (bi (f_V_isGood g v_8 x2) fun r_37 v_35 => if r_37 = 0 then (f_N_work_371 Kr x4 1 g v_35) else (f_N_work_371 Kr x4 0 g v_35)) else if r_10 = 17 then (f_N_work_550 Kr x1 x2 x3 x4 g v_8) else if r_10 = 18 then (bo (f_N_attempt Kr g v_8 x1 x2 x3 x4) fun r9 g9 v9 => f_N_work_389 Kr g9 v9) else if r_10 = 19 then (bo (f_N_alternative Kr g v_8 x1 x2 x3 x4) fun r9 g9 v9 => f_N_work_401 Kr g9 v9) else if r_10 = 20 then (f_N_work_550 Kr x1 x2 x3 x4 g v_8) else if r_10 = 21 then (gd (inB r_6 4) (bo (f_R_put g v_8 x4 (v_8 26 (r_6 : Int32).toNatClampNeg)) fun r9 g9 v9 => f_N_work_416 Kr g9 v9)) else if r_10 = 22 then (bo (f_N_reduce Kr g v_8 x1 x2 x3 x4) fun r9 g9 v9 => f_N_work_428 Kr g9 v9) else if r_10 = 23 then (bo (f_V_measured g v_8 x2) fun r9 g9 v9 => f_N_work_440 Kr x4 r9 g9 v9) else if r_10 = 24 then (bo (f_V_keysOf g v_8 x2) fun r9 g9 v9 => f_N_work_457 Kr x4 r9 g9 v9) else if r_10 = 25 then (f_N_work_559 Kr g v_8) else if r_10 = 26 then (bv (f_R_end g v_8 x4 x2) fun v_50 => f_N_work_559 Kr g v_50) else if r_10 = 27 then (bo (f_V_sorted g v_8 x2) fun r9 g9 v9 => f_N_work_486 Kr x4 r9 g9 v9) else if r_10 = 28 then (bo (f_V_sumOf g v_8 x2) fun r9 g9 v9 => f_N_work_503 Kr x4 r9 g9 v9) else if r_10 = 29 then (f_N_work_550 Kr x1 x2 x3 x4 g v_8) else if r_10 = 30 then (bo (f_N_all dK g v_8 x2 x4) fun r9 g9 v9 => f_N_work_518 Kr g9 v9) else if r_10 = 31 then (bo (f_N_limit Kr g v_8 x1 x2 x3 x4) fun r9 g9 v9 => f_N_work_530 Kr g9 v9) else if r_10 = 32 then (f_N_work_550 Kr x1 x2 x3 x4 g v_8) else if r_10 = 33 then (f_N_work_550 Kr x1 x2 x3 x4 g v_8) else if r_10 = 34 then (bo (f_V_floored g v_8 x2) fun r9 g9 v9 => f_N_work_542 Kr x4 r9 g9 v9) else (f_N_work_550 Kr x1 x2 x3 x4 g v_8)
theorem zlen_e {t : zT} {e : Nat} (h : zlen t = some (.inl e)) : 1 ≤ e ∧ e ≤ 2 := by
  unfold zlen at h
  split at h
  · cases h; omega
  · split at h
    · exact zmkN_e h
    · cases h
theorem zkeys_e {t : zT} {e : Nat} (h : zkeys t = some (.inl e)) : 1 ≤ e ∧ e ≤ 2 := by
  unfold zkeys at h
  split at h
  · cases h; omega
  · exact zmkA_e h
theorem zsort_e {t : zT} {e : Nat} (h : zsort t = some (.inl e)) : 1 ≤ e ∧ e ≤ 2 := by
  unfold zsort at h
  split at h
  · exact zmkA_e h
  · cases h; omega
theorem zflr_e {t : zT} {e : Nat} (h : zflr t = some (.inl e)) : 1 ≤ e ∧ e ≤ 2 := by
  unfold zflr at h
  split at h
  · exact zmkN_e h
  · cases h; omega
theorem zsum_e {t : zT} {e : Nat} (h : zsum t = some (.inl e)) : 1 ≤ e ∧ e ≤ 2 := by
  unfold zsum at h
  split at h
  · have := zsuml_e _ _ h; omega
  · cases h; omega
theorem z64 (x : Int32) : x.toInt64 = zK x.toInt := by
  have h1 := x.toInt_lt
  have h2 := x.le_toInt
  have e := zJ_64 (a := x.toInt) (by omega) (by omega)
  rw [zJ_of] at e
  exact e
section CWK
variable {op : Nat → Nat} {ar : Nat → Int32} {sx : Nat → zN} {p2 p3 : Nat → Nat} {vr : Nat → zT} {g : Nat → Nat} {v : mS} {T a s d k lv out : Nat} {t : zT} {l : List zT}
variable {Kr : (Nat → Nat) → mS → Int32 → Int32 → Int32 → Nat → Option (bO Unit)}
/-- what is made is put (no error of its own) -/
theorem w_putP {F : Option (bO Int32)} {K : Int32 → (Nat → Nat) → mS → Option (bO Unit)} {c : Nat} {sp : Option (Nat ⊕ zT)} (hR : zRn op ar sx p2 p3 vr g v T s) (hO : zOut lv out) (hw : zRw v T out l none) (hp : zP F g v T c sp) (hc : c ≤ 16) (hq : ∀ e, sp ≠ some (.inl e)) (hK : ∀ r g v, K r g v = f_R_put g v out r) : zWk (zS lv out) (bo F K) g v T out l none s 0 (zgv sp s) := by
  refine w_giveP hR.1 hO.1 zS_o hw hR.2.2.2.1 hR.2.2.2.2 hp hc (fun e he => absurd he (hq e)) (fun y g' v' T' q hq9 hp m1 w1 s1 => ?_)
  cases q with
  | inl e => exact absurd hq9 (hq e)
  | inr u =>
    obtain ⟨c1, e1, h1⟩ := hp
    have e1 : y = zI c1 := by cases e1; rfl
    subst e1
    rw [hK]
    exact w_put0 m1 hO.1 zS_o w1 s1 h1
theorem w_givP {F : Option (bO Int32)} {K : Int32 → (Nat → Nat) → mS → Option (bO Unit)} {c : Nat} {sp : Option (Nat ⊕ zT)} (hR : zRn op ar sx p2 p3 vr g v T s) (hO : zOut lv out) (hw : zRw v T out l none) (hp : zP F g v T c sp) (hc : c ≤ 16) (hq : ∀ e, sp = some (.inl e) → 1 ≤ e ∧ e ≤ 2) (hK : ∀ r g v, K r g v = f_N_give g v r out) : zWk (zS lv out) (bo F K) g v T out l none s 0 (zgv sp s) := by
  refine w_giveP hR.1 hO.1 zS_o hw hR.2.2.2.1 hR.2.2.2.2 hp hc hq (fun y g' v' T' q hq9 hp m1 w1 s1 => ?_)
  rw [hK]
  exact w_give0 m1 hO.1 zS_o w1 s1 hp (fun e he => hq e (by rw [hq9, he]))

theorem wk_0 (hK : zKr op ar sx p2 p3 Kr d (lv + 1)) (hlv : lv < 8) (hR : zRn op ar sx p2 p3 vr g v T s) (hO : zOut lv out) (hk : zok op ar p2 p3 (d + 1) k) (ha : zV (v 4) T a t) (hw : zRw v T out l none) (hT : T + 280 * (150 - s) + zph l.length none ≤ 65000) (ho : op k = 0) : zWk (zS lv out) (wdisp Kr (zI (op k)) (ar k) g v (zI k) (zI a) (zI lv) out) g v T out l none s 0 (zstep (op k) (ar k) sx (zev op ar sx p2 p3 d (k + 1)) (zev op ar sx p2 p3 d (p2 k)) (zev op ar sx p2 p3 d (p3 k)) t vr s) := by
  rw [ho]
  have hsp : zstep 0 (ar k) sx (zev op ar sx p2 p3 d (k + 1)) (zev op ar sx p2 p3 d (p2 k)) (zev op ar sx p2 p3 d (p3 k)) t vr s = some ([t], none, s) := rfl
  rw [hsp]
  unfold wdisp
  repeat rw [if_neg (by decide)]
  rw [if_pos (by decide)]
  rw [bo_id (fun r g v => by cases r; rfl)]
  exact w_0 (w_put0 hR.1 hO.1 zS_o hw hR.2.2.2.1 ha) hR.2.2.2.2
theorem wk_1 (hK : zKr op ar sx p2 p3 Kr d (lv + 1)) (hlv : lv < 8) (hR : zRn op ar sx p2 p3 vr g v T s) (hO : zOut lv out) (hk : zok op ar p2 p3 (d + 1) k) (ha : zV (v 4) T a t) (hw : zRw v T out l none) (hT : T + 280 * (150 - s) + zph l.length none ≤ 65000) (ho : op k = 1) : zWk (zS lv out) (wdisp Kr (zI (op k)) (ar k) g v (zI k) (zI a) (zI lv) out) g v T out l none s 0 (zstep (op k) (ar k) sx (zev op ar sx p2 p3 d (k + 1)) (zev op ar sx p2 p3 d (p2 k)) (zev op ar sx p2 p3 d (p3 k)) t vr s) := by
  rw [ho]
  have hsp : zstep 1 (ar k) sx (zev op ar sx p2 p3 d (k + 1)) (zev op ar sx p2 p3 d (p2 k)) (zev op ar sx p2 p3 d (p3 k)) t vr s = zgv (some (zfld t (sx (ar k).toNatClampNeg))) s := rfl
  rw [hsp]
  unfold wdisp
  repeat rw [if_neg (by decide)]
  rw [if_pos (by decide)]
  obtain ⟨n, hn, hn8⟩ := hk.2.2.1.1 (Or.inl ho)
  have hn' : (ar k).toNatClampNeg = n := by rw [hn, zI_toNat (by omega)]
  obtain ⟨c, ec, hc, hc2⟩ := en_str hR.2.1 hn8
  rw [hn', hn, gd_I hn8 (by omega), ec]
  exact w_G hR.1 hO.1 zS_o hw hR.2.2.2.1 hR.2.2.2.2 (c_field hR.1 ha hc hc2) (fun e he => by have := zfld_e he; omega) (fun r w => bo_id (fun r g v => by cases r; rfl))
theorem wk_2 (hK : zKr op ar sx p2 p3 Kr d (lv + 1)) (hlv : lv < 8) (hR : zRn op ar sx p2 p3 vr g v T s) (hO : zOut lv out) (hk : zok op ar p2 p3 (d + 1) k) (ha : zV (v 4) T a t) (hw : zRw v T out l none) (hT : T + 280 * (150 - s) + zph l.length none ≤ 65000) (ho : op k = 2) : zWk (zS lv out) (wdisp Kr (zI (op k)) (ar k) g v (zI k) (zI a) (zI lv) out) g v T out l none s 0 (zstep (op k) (ar k) sx (zev op ar sx p2 p3 d (k + 1)) (zev op ar sx p2 p3 d (p2 k)) (zev op ar sx p2 p3 d (p3 k)) t vr s) := by
  rw [ho]
  have hsp : zstep 2 (ar k) sx (zev op ar sx p2 p3 d (k + 1)) (zev op ar sx p2 p3 d (p2 k)) (zev op ar sx p2 p3 d (p3 k)) t vr s = zfor (fun x s => zgv (some (zidx t x)) s) (zev op ar sx p2 p3 d (k + 1) t vr s) := rfl
  rw [hsp]
  unfold wdisp
  repeat rw [if_neg (by decide)]
  rw [if_pos (by decide)]
  have h1p : 1 ≤ zpt (op k) := by rw [ho]; decide
  rw [f_N_work_550, gd_t hO.1, bo_id (fun r g v => by cases r; rfl)]
  exact w_forEach hK hlv hO (hk.2.2.2.1 h1p) (fun g v T s b x l hR ha hb hw hT => fo_2 hR hO hk.1 ho ha hb hw) hR ha hw hT
theorem wk_3 (hK : zKr op ar sx p2 p3 Kr d (lv + 1)) (hlv : lv < 8) (hR : zRn op ar sx p2 p3 vr g v T s) (hO : zOut lv out) (hk : zok op ar p2 p3 (d + 1) k) (ha : zV (v 4) T a t) (hw : zRw v T out l none) (hT : T + 280 * (150 - s) + zph l.length none ≤ 65000) (ho : op k = 3) : zWk (zS lv out) (wdisp Kr (zI (op k)) (ar k) g v (zI k) (zI a) (zI lv) out) g v T out l none s 0 (zstep (op k) (ar k) sx (zev op ar sx p2 p3 d (k + 1)) (zev op ar sx p2 p3 d (p2 k)) (zev op ar sx p2 p3 d (p3 k)) t vr s) := by
  rw [ho]
  have hsp : zstep 3 (ar k) sx (zev op ar sx p2 p3 d (k + 1)) (zev op ar sx p2 p3 d (p2 k)) (zev op ar sx p2 p3 d (p3 k)) t vr s = if zk t < 5 then zgv (some (.inl 1)) s else some ((List.range (zl t)).map (zc t), none, s) := rfl
  rw [hsp]
  unfold wdisp
  repeat rw [if_neg (by decide)]
  rw [if_pos (by decide)]
  rw [bo_id (fun r g v => by cases r; rfl)]
  exact w_each hR.1 hO.1 zS_o hw hR.2.2.2.1 hR.2.2.2.2 ha
theorem wk_4 (hK : zKr op ar sx p2 p3 Kr d (lv + 1)) (hlv : lv < 8) (hR : zRn op ar sx p2 p3 vr g v T s) (hO : zOut lv out) (hk : zok op ar p2 p3 (d + 1) k) (ha : zV (v 4) T a t) (hw : zRw v T out l none) (hT : T + 280 * (150 - s) + zph l.length none ≤ 65000) (ho : op k = 4) : zWk (zS lv out) (wdisp Kr (zI (op k)) (ar k) g v (zI k) (zI a) (zI lv) out) g v T out l none s 0 (zstep (op k) (ar k) sx (zev op ar sx p2 p3 d (k + 1)) (zev op ar sx p2 p3 d (p2 k)) (zev op ar sx p2 p3 d (p3 k)) t vr s) := by
  rw [ho]
  have hsp : zstep 4 (ar k) sx (zev op ar sx p2 p3 d (k + 1)) (zev op ar sx p2 p3 d (p2 k)) (zev op ar sx p2 p3 d (p3 k)) t vr s = zfor (fun x s => zev op ar sx p2 p3 d (p2 k) x vr s) (zev op ar sx p2 p3 d (k + 1) t vr s) := rfl
  rw [hsp]
  unfold wdisp
  repeat rw [if_neg (by decide)]
  rw [if_pos (by decide)]
  have h1p : 1 ≤ zpt (op k) := by rw [ho]; decide
  rw [f_N_work_550, gd_t hO.1, bo_id (fun r g v => by cases r; rfl)]
  exact w_forEach hK hlv hO (hk.2.2.2.1 h1p) (fun g v T s b x l hR ha hb hw hT => fo_4 hK hR hO hk ho hb hw hT) hR ha hw hT
theorem wk_5 (hK : zKr op ar sx p2 p3 Kr d (lv + 1)) (hlv : lv < 8) (hR : zRn op ar sx p2 p3 vr g v T s) (hO : zOut lv out) (hk : zok op ar p2 p3 (d + 1) k) (ha : zV (v 4) T a t) (hw : zRw v T out l none) (hT : T + 280 * (150 - s) + zph l.length none ≤ 65000) (ho : op k = 5) : zWk (zS lv out) (wdisp Kr (zI (op k)) (ar k) g v (zI k) (zI a) (zI lv) out) g v T out l none s 0 (zstep (op k) (ar k) sx (zev op ar sx p2 p3 d (k + 1)) (zev op ar sx p2 p3 d (p2 k)) (zev op ar sx p2 p3 d (p3 k)) t vr s) := by
  rw [ho]
  have hsp : zstep 5 (ar k) sx (zev op ar sx p2 p3 d (k + 1)) (zev op ar sx p2 p3 d (p2 k)) (zev op ar sx p2 p3 d (p3 k)) t vr s = zseq (zev op ar sx p2 p3 d (k + 1) t vr s) (fun e s1 => match e with | none => zev op ar sx p2 p3 d (p2 k) t vr s1 | some y => some ([], some y, s1)) := by
    show (match zev op ar sx p2 p3 d (k + 1) t vr s with | some (r, none, s1) => zthen (some (r, none, s1)) (fun s => zev op ar sx p2 p3 d (p2 k) t vr s) | w => w) = _
    cases zev op ar sx p2 p3 d (k + 1) t vr s with
    | none => rfl
    | some q =>
      obtain ⟨r, e, s1⟩ := q
      cases e with
      | none => rfl
      | some y => simp [zseq, zapp]
  rw [hsp]
  unfold wdisp
  repeat rw [if_neg (by decide)]
  rw [if_pos (by decide)]
  rw [bo_id (fun r g v => by cases r; rfl)]
  exact w_comma hK hR hO hk (by rw [ho]; decide) ha hw hT
theorem wk_6 (hK : zKr op ar sx p2 p3 Kr d (lv + 1)) (hlv : lv < 8) (hR : zRn op ar sx p2 p3 vr g v T s) (hO : zOut lv out) (hk : zok op ar p2 p3 (d + 1) k) (ha : zV (v 4) T a t) (hw : zRw v T out l none) (hT : T + 280 * (150 - s) + zph l.length none ≤ 65000) (ho : op k = 6) : zWk (zS lv out) (wdisp Kr (zI (op k)) (ar k) g v (zI k) (zI a) (zI lv) out) g v T out l none s 0 (zstep (op k) (ar k) sx (zev op ar sx p2 p3 d (k + 1)) (zev op ar sx p2 p3 d (p2 k)) (zev op ar sx p2 p3 d (p3 k)) t vr s) := by
  rw [ho]
  have hsp : zstep 6 (ar k) sx (zev op ar sx p2 p3 d (k + 1)) (zev op ar sx p2 p3 d (p2 k)) (zev op ar sx p2 p3 d (p3 k)) t vr s = zgv (zmkN ((ar k).toInt * 1000)) s := rfl
  rw [hsp]
  unfold wdisp
  repeat rw [if_neg (by decide)]
  rw [if_pos (by decide)]
  have h16 := hw.2.1
  have hph : 16 ≤ zph l.length none := by simp only [zph]; omega
  have h1 := (ar k).toInt_lt
  have h2 := (ar k).le_toInt
  rw [z64, zl_3, ← znum_3]
  refine w_putP hR hO hw (c_number hR.1 (by omega) (by omega) (by omega) (by omega)) (by omega) (fun e he => ?_) (fun r g v => ?_)
  · unfold znum at he; split at he <;> cases he
  · rw [f_N_work_272, gd_t hO.1, bo_id (fun r g v => by cases r; rfl)]
theorem wk_7 (hK : zKr op ar sx p2 p3 Kr d (lv + 1)) (hlv : lv < 8) (hR : zRn op ar sx p2 p3 vr g v T s) (hO : zOut lv out) (hk : zok op ar p2 p3 (d + 1) k) (ha : zV (v 4) T a t) (hw : zRw v T out l none) (hT : T + 280 * (150 - s) + zph l.length none ≤ 65000) (ho : op k = 7) : zWk (zS lv out) (wdisp Kr (zI (op k)) (ar k) g v (zI k) (zI a) (zI lv) out) g v T out l none s 0 (zstep (op k) (ar k) sx (zev op ar sx p2 p3 d (k + 1)) (zev op ar sx p2 p3 d (p2 k)) (zev op ar sx p2 p3 d (p3 k)) t vr s) := by
  rw [ho]
  have hsp : zstep 7 (ar k) sx (zev op ar sx p2 p3 d (k + 1)) (zev op ar sx p2 p3 d (p2 k)) (zev op ar sx p2 p3 d (p3 k)) t vr s = some ([zX (sx (ar k).toNatClampNeg)], none, s) := rfl
  rw [hsp]
  unfold wdisp
  repeat rw [if_neg (by decide)]
  rw [if_pos (by decide)]
  obtain ⟨n, hn, hn8⟩ := hk.2.2.1.1 (Or.inr (Or.inl ho))
  have hn' : (ar k).toNatClampNeg = n := by rw [hn, zI_toNat (by omega)]
  obtain ⟨c, ec, hc, hc2⟩ := en_str hR.2.1 hn8
  rw [hn', hn, gd_I hn8 (by omega), ec, bo_id (fun r g v => by cases r; rfl)]
  exact w_0 (w_put0 hR.1 hO.1 zS_o hw hR.2.2.2.1 (zV_X hc hc2)) hR.2.2.2.2
theorem wk_8 (hK : zKr op ar sx p2 p3 Kr d (lv + 1)) (hlv : lv < 8) (hR : zRn op ar sx p2 p3 vr g v T s) (hO : zOut lv out) (hk : zok op ar p2 p3 (d + 1) k) (ha : zV (v 4) T a t) (hw : zRw v T out l none) (hT : T + 280 * (150 - s) + zph l.length none ≤ 65000) (ho : op k = 8) : zWk (zS lv out) (wdisp Kr (zI (op k)) (ar k) g v (zI k) (zI a) (zI lv) out) g v T out l none s 0 (zstep (op k) (ar k) sx (zev op ar sx p2 p3 d (k + 1)) (zev op ar sx p2 p3 d (p2 k)) (zev op ar sx p2 p3 d (p3 k)) t vr s) := by
  rw [ho]
  have hsp : zstep 8 (ar k) sx (zev op ar sx p2 p3 d (k + 1)) (zev op ar sx p2 p3 d (p2 k)) (zev op ar sx p2 p3 d (p3 k)) t vr s = some ([zW (ar k).toNatClampNeg], none, s) := rfl
  rw [hsp]
  unfold wdisp
  repeat rw [if_neg (by decide)]
  rw [if_pos (by decide)]
  obtain ⟨n, hn, hn3⟩ := hk.2.2.1.2.2.2.2.1 ho
  have hn' : (ar k).toNatClampNeg = n := by rw [hn, zI_toNat (by omega)]
  rw [hn', hn, f_V_wordFor, bi_s, zl_4, zI_mul, Nat.mul_comm, bo_id (fun r g v => by cases r; rfl)]
  exact w_0 (w_put0 hR.1 hO.1 zS_o hw hR.2.2.2.1 (zM_W hR.1 hn3)) hR.2.2.2.2
theorem wk_9 (hK : zKr op ar sx p2 p3 Kr d (lv + 1)) (hlv : lv < 8) (hR : zRn op ar sx p2 p3 vr g v T s) (hO : zOut lv out) (hk : zok op ar p2 p3 (d + 1) k) (ha : zV (v 4) T a t) (hw : zRw v T out l none) (hT : T + 280 * (150 - s) + zph l.length none ≤ 65000) (ho : op k = 9) : zWk (zS lv out) (wdisp Kr (zI (op k)) (ar k) g v (zI k) (zI a) (zI lv) out) g v T out l none s 0 (zstep (op k) (ar k) sx (zev op ar sx p2 p3 d (k + 1)) (zev op ar sx p2 p3 d (p2 k)) (zev op ar sx p2 p3 d (p3 k)) t vr s) := by
  rw [ho]
  have hsp : zstep 9 (ar k) sx (zev op ar sx p2 p3 d (k + 1)) (zev op ar sx p2 p3 d (p2 k)) (zev op ar sx p2 p3 d (p3 k)) t vr s = zbnd (zev op ar sx p2 p3 d (k + 1) t vr s) (fun r e s1 => match e with | some y => some ([], some y, s1) | none => zgv (zmkA r.length (fun i => r.getD i (zW 0))) s1) := by
    show (match zev op ar sx p2 p3 d (k + 1) t vr s with | none => none | some (_, some y, s1) => some ([], some y, s1) | some (r, none, s1) => zgv (zmkA r.length (fun k => r.getD k (zW 0))) s1) = _
    cases zev op ar sx p2 p3 d (k + 1) t vr s with
    | none => rfl
    | some q =>
      obtain ⟨r, e, s1⟩ := q
      cases e <;> rfl
  rw [hsp]
  unfold wdisp
  repeat rw [if_neg (by decide)]
  rw [if_pos (by decide)]
  rw [bo_id (fun r g v => by cases r; rfl)]
  exact w_array hK hlv hR hO hk (by rw [ho]; decide) ha hw hT
theorem wk_10 (hK : zKr op ar sx p2 p3 Kr d (lv + 1)) (hlv : lv < 8) (hR : zRn op ar sx p2 p3 vr g v T s) (hO : zOut lv out) (hk : zok op ar p2 p3 (d + 1) k) (ha : zV (v 4) T a t) (hw : zRw v T out l none) (hT : T + 280 * (150 - s) + zph l.length none ≤ 65000) (ho : op k = 10) : zWk (zS lv out) (wdisp Kr (zI (op k)) (ar k) g v (zI k) (zI a) (zI lv) out) g v T out l none s 0 (zstep (op k) (ar k) sx (zev op ar sx p2 p3 d (k + 1)) (zev op ar sx p2 p3 d (p2 k)) (zev op ar sx p2 p3 d (p3 k)) t vr s) := by
  rw [ho]
  have hsp : zstep 10 (ar k) sx (zev op ar sx p2 p3 d (k + 1)) (zev op ar sx p2 p3 d (p2 k)) (zev op ar sx p2 p3 d (p3 k)) t vr s = zgv (zmkA 0 (fun _ => zW 0)) s := rfl
  rw [hsp]
  unfold wdisp
  repeat rw [if_neg (by decide)]
  rw [if_pos (by decide)]
  have h16 := hw.2.1
  have hph : 16 ≤ zph l.length none := by simp only [zph]; omega
  refine w_putP hR hO hw (c_empty hR.1 (by omega)) (by omega) (fun e he => ?_) (fun r g v => ?_)
  · unfold zmkA at he; split at he <;> cases he
  · rw [f_N_work_331, gd_t hO.1, bo_id (fun r g v => by cases r; rfl)]
theorem wk_11 (hK : zKr op ar sx p2 p3 Kr d (lv + 1)) (hlv : lv < 8) (hR : zRn op ar sx p2 p3 vr g v T s) (hO : zOut lv out) (hk : zok op ar p2 p3 (d + 1) k) (ha : zV (v 4) T a t) (hw : zRw v T out l none) (hT : T + 280 * (150 - s) + zph l.length none ≤ 65000) (ho : op k = 11) : zWk (zS lv out) (wdisp Kr (zI (op k)) (ar k) g v (zI k) (zI a) (zI lv) out) g v T out l none s 0 (zstep (op k) (ar k) sx (zev op ar sx p2 p3 d (k + 1)) (zev op ar sx p2 p3 d (p2 k)) (zev op ar sx p2 p3 d (p3 k)) t vr s) := by
  rw [ho]
  have hsp : zstep 11 (ar k) sx (zev op ar sx p2 p3 d (k + 1)) (zev op ar sx p2 p3 d (p2 k)) (zev op ar sx p2 p3 d (p3 k)) t vr s = zfor (fun x s => zgv (zmkO 1 (fun _ => sx (ar k).toNatClampNeg) (fun _ => x)) s) (zev op ar sx p2 p3 d (k + 1) t vr s) := rfl
  rw [hsp]
  unfold wdisp
  repeat rw [if_neg (by decide)]
  rw [if_pos (by decide)]
  have h1p : 1 ≤ zpt (op k) := by rw [ho]; decide
  rw [f_N_work_550, gd_t hO.1, bo_id (fun r g v => by cases r; rfl)]
  exact w_forEach hK hlv hO (hk.2.2.2.1 h1p) (fun g v T s b x l hR ha hb hw hT => fo_11 hR hO hk ho hb hw hT) hR ha hw hT
theorem wk_12 (hK : zKr op ar sx p2 p3 Kr d (lv + 1)) (hlv : lv < 8) (hR : zRn op ar sx p2 p3 vr g v T s) (hO : zOut lv out) (hk : zok op ar p2 p3 (d + 1) k) (ha : zV (v 4) T a t) (hw : zRw v T out l none) (hT : T + 280 * (150 - s) + zph l.length none ≤ 65000) (ho : op k = 12) : zWk (zS lv out) (wdisp Kr (zI (op k)) (ar k) g v (zI k) (zI a) (zI lv) out) g v T out l none s 0 (zstep (op k) (ar k) sx (zev op ar sx p2 p3 d (k + 1)) (zev op ar sx p2 p3 d (p2 k)) (zev op ar sx p2 p3 d (p3 k)) t vr s) := by
  rw [ho]
  have hsp : zstep 12 (ar k) sx (zev op ar sx p2 p3 d (k + 1)) (zev op ar sx p2 p3 d (p2 k)) (zev op ar sx p2 p3 d (p3 k)) t vr s = zfor (fun y s => zfor (fun x s => zgv (zpv 12 (ar k).toNatClampNeg x y) s) (zev op ar sx p2 p3 d (k + 1) t vr s)) (zev op ar sx p2 p3 d (p2 k) t vr s) := rfl
  rw [hsp]
  unfold wdisp
  repeat rw [if_neg (by decide)]
  rw [if_pos (by decide)]
  rw [f_N_work_337, gd_t hO.1, bo_id (fun r g v => by cases r; rfl)]
  have h9 := w_pair hK hlv hO hk (Or.inl ho) hR ha hw hT
  rw [ho] at h9
  exact h9
theorem wk_13 (hK : zKr op ar sx p2 p3 Kr d (lv + 1)) (hlv : lv < 8) (hR : zRn op ar sx p2 p3 vr g v T s) (hO : zOut lv out) (hk : zok op ar p2 p3 (d + 1) k) (ha : zV (v 4) T a t) (hw : zRw v T out l none) (hT : T + 280 * (150 - s) + zph l.length none ≤ 65000) (ho : op k = 13) : zWk (zS lv out) (wdisp Kr (zI (op k)) (ar k) g v (zI k) (zI a) (zI lv) out) g v T out l none s 0 (zstep (op k) (ar k) sx (zev op ar sx p2 p3 d (k + 1)) (zev op ar sx p2 p3 d (p2 k)) (zev op ar sx p2 p3 d (p3 k)) t vr s) := by
  rw [ho]
  have hsp : zstep 13 (ar k) sx (zev op ar sx p2 p3 d (k + 1)) (zev op ar sx p2 p3 d (p2 k)) (zev op ar sx p2 p3 d (p3 k)) t vr s = zfor (fun y s => zfor (fun x s => zgv (zpv 13 (ar k).toNatClampNeg x y) s) (zev op ar sx p2 p3 d (k + 1) t vr s)) (zev op ar sx p2 p3 d (p2 k) t vr s) := rfl
  rw [hsp]
  unfold wdisp
  repeat rw [if_neg (by decide)]
  rw [if_pos (by decide)]
  rw [f_N_work_337, gd_t hO.1, bo_id (fun r g v => by cases r; rfl)]
  have h9 := w_pair hK hlv hO hk (Or.inr ho) hR ha hw hT
  rw [ho] at h9
  exact h9
theorem wk_14 (hK : zKr op ar sx p2 p3 Kr d (lv + 1)) (hlv : lv < 8) (hR : zRn op ar sx p2 p3 vr g v T s) (hO : zOut lv out) (hk : zok op ar p2 p3 (d + 1) k) (ha : zV (v 4) T a t) (hw : zRw v T out l none) (hT : T + 280 * (150 - s) + zph l.length none ≤ 65000) (ho : op k = 14) : zWk (zS lv out) (wdisp Kr (zI (op k)) (ar k) g v (zI k) (zI a) (zI lv) out) g v T out l none s 0 (zstep (op k) (ar k) sx (zev op ar sx p2 p3 d (k + 1)) (zev op ar sx p2 p3 d (p2 k)) (zev op ar sx p2 p3 d (p3 k)) t vr s) := by
  rw [ho]
  have hsp : zstep 14 (ar k) sx (zev op ar sx p2 p3 d (k + 1)) (zev op ar sx p2 p3 d (p2 k)) (zev op ar sx p2 p3 d (p3 k)) t vr s = zfor (fun x s => if zgood x = decide (14 = 15) then some ([ztr (decide (14 = 15))], none, s) else zbnd (zev op ar sx p2 p3 d (p2 k) t vr s) (fun r e s1 => some (r.map (fun y => ztr (zgood y)), e, s1))) (zev op ar sx p2 p3 d (k + 1) t vr s) := rfl
  rw [hsp]
  unfold wdisp
  repeat rw [if_neg (by decide)]
  rw [if_pos (by decide)]
  have h1p : 1 ≤ zpt (op k) := by rw [ho]; decide
  rw [f_N_work_550, gd_t hO.1, bo_id (fun r g v => by cases r; rfl)]
  refine w_forEach hK hlv hO (hk.2.2.2.1 h1p) (fun g v T s b x l hR ha hb hw hT => ?_) hR ha hw hT
  have h9 := fo_14 hK hlv hR hO hk (Or.inl ho) ha hb hw hT
  rw [ho] at h9
  exact h9
theorem wk_15 (hK : zKr op ar sx p2 p3 Kr d (lv + 1)) (hlv : lv < 8) (hR : zRn op ar sx p2 p3 vr g v T s) (hO : zOut lv out) (hk : zok op ar p2 p3 (d + 1) k) (ha : zV (v 4) T a t) (hw : zRw v T out l none) (hT : T + 280 * (150 - s) + zph l.length none ≤ 65000) (ho : op k = 15) : zWk (zS lv out) (wdisp Kr (zI (op k)) (ar k) g v (zI k) (zI a) (zI lv) out) g v T out l none s 0 (zstep (op k) (ar k) sx (zev op ar sx p2 p3 d (k + 1)) (zev op ar sx p2 p3 d (p2 k)) (zev op ar sx p2 p3 d (p3 k)) t vr s) := by
  rw [ho]
  have hsp : zstep 15 (ar k) sx (zev op ar sx p2 p3 d (k + 1)) (zev op ar sx p2 p3 d (p2 k)) (zev op ar sx p2 p3 d (p3 k)) t vr s = zfor (fun x s => if zgood x = decide (15 = 15) then some ([ztr (decide (15 = 15))], none, s) else zbnd (zev op ar sx p2 p3 d (p2 k) t vr s) (fun r e s1 => some (r.map (fun y => ztr (zgood y)), e, s1))) (zev op ar sx p2 p3 d (k + 1) t vr s) := rfl
  rw [hsp]
  unfold wdisp
  repeat rw [if_neg (by decide)]
  rw [if_pos (by decide)]
  have h1p : 1 ≤ zpt (op k) := by rw [ho]; decide
  rw [f_N_work_550, gd_t hO.1, bo_id (fun r g v => by cases r; rfl)]
  refine w_forEach hK hlv hO (hk.2.2.2.1 h1p) (fun g v T s b x l hR ha hb hw hT => ?_) hR ha hw hT
  have h9 := fo_14 hK hlv hR hO hk (Or.inr ho) ha hb hw hT
  rw [ho] at h9
  exact h9
theorem wk_16 (hK : zKr op ar sx p2 p3 Kr d (lv + 1)) (hlv : lv < 8) (hR : zRn op ar sx p2 p3 vr g v T s) (hO : zOut lv out) (hk : zok op ar p2 p3 (d + 1) k) (ha : zV (v 4) T a t) (hw : zRw v T out l none) (hT : T + 280 * (150 - s) + zph l.length none ≤ 65000) (ho : op k = 16) : zWk (zS lv out) (wdisp Kr (zI (op k)) (ar k) g v (zI k) (zI a) (zI lv) out) g v T out l none s 0 (zstep (op k) (ar k) sx (zev op ar sx p2 p3 d (k + 1)) (zev op ar sx p2 p3 d (p2 k)) (zev op ar sx p2 p3 d (p3 k)) t vr s) := by
  rw [ho]
  have hsp : zstep 16 (ar k) sx (zev op ar sx p2 p3 d (k + 1)) (zev op ar sx p2 p3 d (p2 k)) (zev op ar sx p2 p3 d (p3 k)) t vr s = some ([ztr (!zgood t)], none, s) := rfl
  rw [hsp]
  unfold wdisp
  repeat rw [if_neg (by decide)]
  rw [if_pos (by decide)]
  rw [c_good hR.1 ha, bi_s]
  have hf : ∀ (x : Int32) (bb : Bool), (x = if bb then 1 else 0) → f_N_work_371 Kr out x g v = f_N_work_371 Kr out x g v → zWk (zS lv out) (f_N_work_371 Kr out x g v) g v T out l none s 0 (some ([ztr bb], none, s)) := by
    intro x bb hx _
    obtain ⟨c, ec, hc⟩ := c_truth hR.1 (b := bb) hx
    rw [f_N_work_371, gd_t hO.1, ec, bi_s, bo_id (fun r g v => by cases r; rfl)]
    exact w_0 (w_put0 hR.1 hO.1 zS_o hw hR.2.2.2.1 hc) hR.2.2.2.2
  by_cases c : zk t < 2
  · have hg : zgood t = false := by simp [zgood]; omega
    rw [if_pos c, if_pos rfl, hg]
    exact hf 1 true rfl rfl
  · have hg : zgood t = true := by simp [zgood]; omega
    rw [if_neg c, if_neg (by decide), hg]
    exact hf 0 false rfl rfl
theorem wk_17 (hK : zKr op ar sx p2 p3 Kr d (lv + 1)) (hlv : lv < 8) (hR : zRn op ar sx p2 p3 vr g v T s) (hO : zOut lv out) (hk : zok op ar p2 p3 (d + 1) k) (ha : zV (v 4) T a t) (hw : zRw v T out l none) (hT : T + 280 * (150 - s) + zph l.length none ≤ 65000) (ho : op k = 17) : zWk (zS lv out) (wdisp Kr (zI (op k)) (ar k) g v (zI k) (zI a) (zI lv) out) g v T out l none s 0 (zstep (op k) (ar k) sx (zev op ar sx p2 p3 d (k + 1)) (zev op ar sx p2 p3 d (p2 k)) (zev op ar sx p2 p3 d (p3 k)) t vr s) := by
  rw [ho]
  have hsp : zstep 17 (ar k) sx (zev op ar sx p2 p3 d (k + 1)) (zev op ar sx p2 p3 d (p2 k)) (zev op ar sx p2 p3 d (p3 k)) t vr s = zfor (fun x s => if zgood x = true then zev op ar sx p2 p3 d (p2 k) t vr s else zev op ar sx p2 p3 d (p3 k) t vr s) (zev op ar sx p2 p3 d (k + 1) t vr s) := rfl
  rw [hsp]
  unfold wdisp
  repeat rw [if_neg (by decide)]
  rw [if_pos (by decide)]
  have h1p : 1 ≤ zpt (op k) := by rw [ho]; decide
  rw [f_N_work_550, gd_t hO.1, bo_id (fun r g v => by cases r; rfl)]
  exact w_forEach hK hlv hO (hk.2.2.2.1 h1p) (fun g v T s b x l hR ha hb hw hT => fo_17 hK hR hO hk ho ha hb hw hT) hR ha hw hT
theorem wk_18 (hK : zKr op ar sx p2 p3 Kr d (lv + 1)) (hlv : lv < 8) (hR : zRn op ar sx p2 p3 vr g v T s) (hO : zOut lv out) (hk : zok op ar p2 p3 (d + 1) k) (ha : zV (v 4) T a t) (hw : zRw v T out l none) (hT : T + 280 * (150 - s) + zph l.length none ≤ 65000) (ho : op k = 18) : zWk (zS lv out) (wdisp Kr (zI (op k)) (ar k) g v (zI k) (zI a) (zI lv) out) g v T out l none s 0 (zstep (op k) (ar k) sx (zev op ar sx p2 p3 d (k + 1)) (zev op ar sx p2 p3 d (p2 k)) (zev op ar sx p2 p3 d (p3 k)) t vr s) := by
  rw [ho]
  have hsp : zstep 18 (ar k) sx (zev op ar sx p2 p3 d (k + 1)) (zev op ar sx p2 p3 d (p2 k)) (zev op ar sx p2 p3 d (p3 k)) t vr s = zseq (zev op ar sx p2 p3 d (k + 1) t vr s) (fun e s1 => match e with | none => some ([], none, s1) | some y => zev op ar sx p2 p3 d (p2 k) y vr s1) := by
    show (match zev op ar sx p2 p3 d (k + 1) t vr s with | some (r, some y, s1) => zthen (some (r, none, s1)) (fun s => zev op ar sx p2 p3 d (p2 k) y vr s) | w => w) = _
    cases zev op ar sx p2 p3 d (k + 1) t vr s with
    | none => rfl
    | some q =>
      obtain ⟨r, e, s1⟩ := q
      cases e with
      | none => simp [zseq, zapp]
      | some y => rfl
  rw [hsp]
  unfold wdisp
  repeat rw [if_neg (by decide)]
  rw [if_pos (by decide)]
  rw [bo_id (fun r g v => by cases r; rfl)]
  exact w_attempt hK hR hO hk (by rw [ho]; decide) ha hw hT
theorem wk_19 (hK : zKr op ar sx p2 p3 Kr d (lv + 1)) (hlv : lv < 8) (hR : zRn op ar sx p2 p3 vr g v T s) (hO : zOut lv out) (hk : zok op ar p2 p3 (d + 1) k) (ha : zV (v 4) T a t) (hw : zRw v T out l none) (hT : T + 280 * (150 - s) + zph l.length none ≤ 65000) (ho : op k = 19) : zWk (zS lv out) (wdisp Kr (zI (op k)) (ar k) g v (zI k) (zI a) (zI lv) out) g v T out l none s 0 (zstep (op k) (ar k) sx (zev op ar sx p2 p3 d (k + 1)) (zev op ar sx p2 p3 d (p2 k)) (zev op ar sx p2 p3 d (p3 k)) t vr s) := by
  rw [ho]
  have hsp : zstep 19 (ar k) sx (zev op ar sx p2 p3 d (k + 1)) (zev op ar sx p2 p3 d (p2 k)) (zev op ar sx p2 p3 d (p3 k)) t vr s = zbnd (zev op ar sx p2 p3 d (k + 1) t vr s) (fun r _ s1 => if r.filter zgood = [] then zev op ar sx p2 p3 d (p2 k) t vr s1 else some (r.filter zgood, none, s1)) := rfl
  rw [hsp]
  unfold wdisp
  repeat rw [if_neg (by decide)]
  rw [if_pos (by decide)]
  rw [bo_id (fun r g v => by cases r; rfl)]
  exact w_alt hK hlv hR hO hk (by rw [ho]; decide) ha hw hT
theorem wk_20 (hK : zKr op ar sx p2 p3 Kr d (lv + 1)) (hlv : lv < 8) (hR : zRn op ar sx p2 p3 vr g v T s) (hO : zOut lv out) (hk : zok op ar p2 p3 (d + 1) k) (ha : zV (v 4) T a t) (hw : zRw v T out l none) (hT : T + 280 * (150 - s) + zph l.length none ≤ 65000) (ho : op k = 20) : zWk (zS lv out) (wdisp Kr (zI (op k)) (ar k) g v (zI k) (zI a) (zI lv) out) g v T out l none s 0 (zstep (op k) (ar k) sx (zev op ar sx p2 p3 d (k + 1)) (zev op ar sx p2 p3 d (p2 k)) (zev op ar sx p2 p3 d (p3 k)) t vr s) := by
  rw [ho]
  have hsp : zstep 20 (ar k) sx (zev op ar sx p2 p3 d (k + 1)) (zev op ar sx p2 p3 d (p2 k)) (zev op ar sx p2 p3 d (p3 k)) t vr s = zfor (fun x s => zev op ar sx p2 p3 d (p2 k) t (va_up vr (ar k).toNatClampNeg x) s) (zev op ar sx p2 p3 d (k + 1) t vr s) := rfl
  rw [hsp]
  unfold wdisp
  repeat rw [if_neg (by decide)]
  rw [if_pos (by decide)]
  have h1p : 1 ≤ zpt (op k) := by rw [ho]; decide
  rw [f_N_work_550, gd_t hO.1, bo_id (fun r g v => by cases r; rfl)]
  exact w_forEach hK hlv hO (hk.2.2.2.1 h1p) (fun g v T s b x l hR ha hb hw hT => fo_20 hK hR hO hk ho ha hb hw hT) hR ha hw hT
theorem wk_21 (hK : zKr op ar sx p2 p3 Kr d (lv + 1)) (hlv : lv < 8) (hR : zRn op ar sx p2 p3 vr g v T s) (hO : zOut lv out) (hk : zok op ar p2 p3 (d + 1) k) (ha : zV (v 4) T a t) (hw : zRw v T out l none) (hT : T + 280 * (150 - s) + zph l.length none ≤ 65000) (ho : op k = 21) : zWk (zS lv out) (wdisp Kr (zI (op k)) (ar k) g v (zI k) (zI a) (zI lv) out) g v T out l none s 0 (zstep (op k) (ar k) sx (zev op ar sx p2 p3 d (k + 1)) (zev op ar sx p2 p3 d (p2 k)) (zev op ar sx p2 p3 d (p3 k)) t vr s) := by
  rw [ho]
  have hsp : zstep 21 (ar k) sx (zev op ar sx p2 p3 d (k + 1)) (zev op ar sx p2 p3 d (p2 k)) (zev op ar sx p2 p3 d (p3 k)) t vr s = some ([vr (ar k).toNatClampNeg], none, s) := rfl
  rw [hsp]
  unfold wdisp
  repeat rw [if_neg (by decide)]
  rw [if_pos (by decide)]
  obtain ⟨n, hn, hn4⟩ := hk.2.2.1.2.1 (Or.inr (Or.inl ho))
  have hn' : (ar k).toNatClampNeg = n := by rw [hn, zI_toNat (by omega)]
  obtain ⟨c, ec, hc⟩ := hR.2.2.1 n hn4
  rw [hn', hn, gd_I hn4 (by omega), ec, bo_id (fun r g v => by cases r; rfl)]
  exact w_0 (w_put0 hR.1 hO.1 zS_o hw hR.2.2.2.1 hc) hR.2.2.2.2
theorem wk_22 (hK : zKr op ar sx p2 p3 Kr d (lv + 1)) (hlv : lv < 8) (hR : zRn op ar sx p2 p3 vr g v T s) (hO : zOut lv out) (hk : zok op ar p2 p3 (d + 1) k) (ha : zV (v 4) T a t) (hw : zRw v T out l none) (hT : T + 280 * (150 - s) + zph l.length none ≤ 65000) (ho : op k = 22) : zWk (zS lv out) (wdisp Kr (zI (op k)) (ar k) g v (zI k) (zI a) (zI lv) out) g v T out l none s 0 (zstep (op k) (ar k) sx (zev op ar sx p2 p3 d (k + 1)) (zev op ar sx p2 p3 d (p2 k)) (zev op ar sx p2 p3 d (p3 k)) t vr s) := by
  rw [ho]
  have hsp : zstep 22 (ar k) sx (zev op ar sx p2 p3 d (k + 1)) (zev op ar sx p2 p3 d (p2 k)) (zev op ar sx p2 p3 d (p3 k)) t vr s = zbnd (zev op ar sx p2 p3 d (p2 k) t vr s) (fun r e s1 => match e with | some y => some ([], some y, s1) | none => zbnd (zev op ar sx p2 p3 d (k + 1) t vr s1) (fun xs e s2 => zrdc (fun z x s => zev op ar sx p2 p3 d (p3 k) z (va_up vr (ar k).toNatClampNeg x) s) xs e (r.headD (zW 0)) s2)) := by
    show (match zev op ar sx p2 p3 d (p2 k) t vr s with | none => none | some (_, some y, s1) => some ([], some y, s1) | some (r, none, s1) => (match zev op ar sx p2 p3 d (k + 1) t vr s1 with | none => none | some (xs, e, s2) => zrdc (fun z x s => zev op ar sx p2 p3 d (p3 k) z (va_up vr (ar k).toNatClampNeg x) s) xs e (r.headD (zW 0)) s2)) = _
    cases zev op ar sx p2 p3 d (p2 k) t vr s with
    | none => rfl
    | some q =>
      obtain ⟨r, e, s1⟩ := q
      cases e with
      | some y => rfl
      | none => rfl
  rw [hsp]
  unfold wdisp
  repeat rw [if_neg (by decide)]
  rw [if_pos (by decide)]
  rw [bo_id (fun r g v => by cases r; rfl)]
  exact w_reduce hK hlv hR hO hk ho ha hw hT
theorem wk_23 (hK : zKr op ar sx p2 p3 Kr d (lv + 1)) (hlv : lv < 8) (hR : zRn op ar sx p2 p3 vr g v T s) (hO : zOut lv out) (hk : zok op ar p2 p3 (d + 1) k) (ha : zV (v 4) T a t) (hw : zRw v T out l none) (hT : T + 280 * (150 - s) + zph l.length none ≤ 65000) (ho : op k = 23) : zWk (zS lv out) (wdisp Kr (zI (op k)) (ar k) g v (zI k) (zI a) (zI lv) out) g v T out l none s 0 (zstep (op k) (ar k) sx (zev op ar sx p2 p3 d (k + 1)) (zev op ar sx p2 p3 d (p2 k)) (zev op ar sx p2 p3 d (p3 k)) t vr s) := by
  rw [ho]
  have hsp : zstep 23 (ar k) sx (zev op ar sx p2 p3 d (k + 1)) (zev op ar sx p2 p3 d (p2 k)) (zev op ar sx p2 p3 d (p3 k)) t vr s = zgv (zlen t) s := rfl
  rw [hsp]
  unfold wdisp
  repeat rw [if_neg (by decide)]
  rw [if_pos (by decide)]
  have h16 := hw.2.1
  have hph : 16 ≤ zph l.length none := by simp only [zph]; omega
  exact w_givP hR hO hw (c_measured hR.1 ha (by omega)) (by omega) (fun e he => zlen_e he) (fun r g v => by rw [f_N_work_440, gd_t hO.1, bo_id (fun r g v => by cases r; rfl)])
theorem wk_24 (hK : zKr op ar sx p2 p3 Kr d (lv + 1)) (hlv : lv < 8) (hR : zRn op ar sx p2 p3 vr g v T s) (hO : zOut lv out) (hk : zok op ar p2 p3 (d + 1) k) (ha : zV (v 4) T a t) (hw : zRw v T out l none) (hT : T + 280 * (150 - s) + zph l.length none ≤ 65000) (ho : op k = 24) : zWk (zS lv out) (wdisp Kr (zI (op k)) (ar k) g v (zI k) (zI a) (zI lv) out) g v T out l none s 0 (zstep (op k) (ar k) sx (zev op ar sx p2 p3 d (k + 1)) (zev op ar sx p2 p3 d (p2 k)) (zev op ar sx p2 p3 d (p3 k)) t vr s) := by
  rw [ho]
  have hsp : zstep 24 (ar k) sx (zev op ar sx p2 p3 d (k + 1)) (zev op ar sx p2 p3 d (p2 k)) (zev op ar sx p2 p3 d (p3 k)) t vr s = zgv (zkeys t) s := rfl
  rw [hsp]
  unfold wdisp
  repeat rw [if_neg (by decide)]
  rw [if_pos (by decide)]
  have h16 := hw.2.1
  have hph : 16 ≤ zph l.length none := by simp only [zph]; omega
  exact w_givP hR hO hw (c_keys hR.1 ha (by omega)) (by omega) (fun e he => zkeys_e he) (fun r g v => by rw [f_N_work_457, gd_t hO.1, bo_id (fun r g v => by cases r; rfl)])
theorem wk_25 (hK : zKr op ar sx p2 p3 Kr d (lv + 1)) (hlv : lv < 8) (hR : zRn op ar sx p2 p3 vr g v T s) (hO : zOut lv out) (hk : zok op ar p2 p3 (d + 1) k) (ha : zV (v 4) T a t) (hw : zRw v T out l none) (hT : T + 280 * (150 - s) + zph l.length none ≤ 65000) (ho : op k = 25) : zWk (zS lv out) (wdisp Kr (zI (op k)) (ar k) g v (zI k) (zI a) (zI lv) out) g v T out l none s 0 (zstep (op k) (ar k) sx (zev op ar sx p2 p3 d (k + 1)) (zev op ar sx p2 p3 d (p2 k)) (zev op ar sx p2 p3 d (p3 k)) t vr s) := by
  rw [ho]
  have hsp : zstep 25 (ar k) sx (zev op ar sx p2 p3 d (k + 1)) (zev op ar sx p2 p3 d (p2 k)) (zev op ar sx p2 p3 d (p3 k)) t vr s = some ([], none, s) := rfl
  rw [hsp]
  unfold wdisp
  repeat rw [if_neg (by decide)]
  rw [if_pos (by decide)]
  exact w_id hR.1 hR.2.2.2.1 hR.2.2.2.2 hw rfl
theorem wk_26 (hK : zKr op ar sx p2 p3 Kr d (lv + 1)) (hlv : lv < 8) (hR : zRn op ar sx p2 p3 vr g v T s) (hO : zOut lv out) (hk : zok op ar p2 p3 (d + 1) k) (ha : zV (v 4) T a t) (hw : zRw v T out l none) (hT : T + 280 * (150 - s) + zph l.length none ≤ 65000) (ho : op k = 26) : zWk (zS lv out) (wdisp Kr (zI (op k)) (ar k) g v (zI k) (zI a) (zI lv) out) g v T out l none s 0 (zstep (op k) (ar k) sx (zev op ar sx p2 p3 d (k + 1)) (zev op ar sx p2 p3 d (p2 k)) (zev op ar sx p2 p3 d (p3 k)) t vr s) := by
  rw [ho]
  have hsp : zstep 26 (ar k) sx (zev op ar sx p2 p3 d (k + 1)) (zev op ar sx p2 p3 d (p2 k)) (zev op ar sx p2 p3 d (p3 k)) t vr s = some ([], some t, s) := rfl
  rw [hsp]
  unfold wdisp
  repeat rw [if_neg (by decide)]
  rw [if_pos (by decide)]
  obtain ⟨v', a1, a2, a3, a4, a5, a6⟩ := w_end0 (S := zS lv out) hR.1 hO.1 zS_o.1 hw hR.2.2.2.1 ha
  have h16 := hw.2.1
  rw [a1, bv_s]
  refine ⟨g, v', T, s, a2, a3, a4, Nat.le_refl _, hR.2.2.2.2, ?_⟩
  unfold zWr
  dsimp only
  rw [if_pos (by simpa using h16)]
  exact ⟨rfl, by simpa using a6, rfl, a5, by simp [zph]⟩
theorem wk_27 (hK : zKr op ar sx p2 p3 Kr d (lv + 1)) (hlv : lv < 8) (hR : zRn op ar sx p2 p3 vr g v T s) (hO : zOut lv out) (hk : zok op ar p2 p3 (d + 1) k) (ha : zV (v 4) T a t) (hw : zRw v T out l none) (hT : T + 280 * (150 - s) + zph l.length none ≤ 65000) (ho : op k = 27) : zWk (zS lv out) (wdisp Kr (zI (op k)) (ar k) g v (zI k) (zI a) (zI lv) out) g v T out l none s 0 (zstep (op k) (ar k) sx (zev op ar sx p2 p3 d (k + 1)) (zev op ar sx p2 p3 d (p2 k)) (zev op ar sx p2 p3 d (p3 k)) t vr s) := by
  rw [ho]
  have hsp : zstep 27 (ar k) sx (zev op ar sx p2 p3 d (k + 1)) (zev op ar sx p2 p3 d (p2 k)) (zev op ar sx p2 p3 d (p3 k)) t vr s = zgv (zsort t) s := rfl
  rw [hsp]
  unfold wdisp
  repeat rw [if_neg (by decide)]
  rw [if_pos (by decide)]
  have h16 := hw.2.1
  have hph : 16 ≤ zph l.length none := by simp only [zph]; omega
  exact w_givP hR hO hw (c_sorted hR.1 ha (by omega)) (by omega) (fun e he => zsort_e he) (fun r g v => by rw [f_N_work_486, gd_t hO.1, bo_id (fun r g v => by cases r; rfl)])
theorem wk_29 (hK : zKr op ar sx p2 p3 Kr d (lv + 1)) (hlv : lv < 8) (hR : zRn op ar sx p2 p3 vr g v T s) (hO : zOut lv out) (hk : zok op ar p2 p3 (d + 1) k) (ha : zV (v 4) T a t) (hw : zRw v T out l none) (hT : T + 280 * (150 - s) + zph l.length none ≤ 65000) (ho : op k = 29) : zWk (zS lv out) (wdisp Kr (zI (op k)) (ar k) g v (zI k) (zI a) (zI lv) out) g v T out l none s 0 (zstep (op k) (ar k) sx (zev op ar sx p2 p3 d (k + 1)) (zev op ar sx p2 p3 d (p2 k)) (zev op ar sx p2 p3 d (p3 k)) t vr s) := by
  rw [ho]
  have hsp : zstep 29 (ar k) sx (zev op ar sx p2 p3 d (k + 1)) (zev op ar sx p2 p3 d (p2 k)) (zev op ar sx p2 p3 d (p3 k)) t vr s = zfor (fun x s => zrng x s) (zev op ar sx p2 p3 d (k + 1) t vr s) := rfl
  rw [hsp]
  unfold wdisp
  repeat rw [if_neg (by decide)]
  rw [if_pos (by decide)]
  have h1p : 1 ≤ zpt (op k) := by rw [ho]; decide
  rw [f_N_work_550, gd_t hO.1, bo_id (fun r g v => by cases r; rfl)]
  exact w_forEach hK hlv hO (hk.2.2.2.1 h1p) (fun g v T s b x l hR ha hb hw hT => fo_29 hR hO hk.1 ho hb hw) hR ha hw hT
theorem wk_30 (hK : zKr op ar sx p2 p3 Kr d (lv + 1)) (hlv : lv < 8) (hR : zRn op ar sx p2 p3 vr g v T s) (hO : zOut lv out) (hk : zok op ar p2 p3 (d + 1) k) (ha : zV (v 4) T a t) (hw : zRw v T out l none) (hT : T + 280 * (150 - s) + zph l.length none ≤ 65000) (ho : op k = 30) : zWk (zS lv out) (wdisp Kr (zI (op k)) (ar k) g v (zI k) (zI a) (zI lv) out) g v T out l none s 0 (zstep (op k) (ar k) sx (zev op ar sx p2 p3 d (k + 1)) (zev op ar sx p2 p3 d (p2 k)) (zev op ar sx p2 p3 d (p3 k)) t vr s) := by
  rw [ho]
  have hsp : zstep 30 (ar k) sx (zev op ar sx p2 p3 d (k + 1)) (zev op ar sx p2 p3 d (p2 k)) (zev op ar sx p2 p3 d (p3 k)) t vr s = some (zall 6 t, none, s) := rfl
  rw [hsp]
  unfold wdisp
  repeat rw [if_neg (by decide)]
  rw [if_pos (by decide)]
  rw [bo_id (fun r g v => by cases r; rfl)]
  exact w_0 (w_all hO.1 zS_o hR.2.2.2.2 6 dK a t v l hR.1 ha ha.2 (by decide) hw hR.2.2.2.1) hR.2.2.2.2
theorem wk_31 (hK : zKr op ar sx p2 p3 Kr d (lv + 1)) (hlv : lv < 8) (hR : zRn op ar sx p2 p3 vr g v T s) (hO : zOut lv out) (hk : zok op ar p2 p3 (d + 1) k) (ha : zV (v 4) T a t) (hw : zRw v T out l none) (hT : T + 280 * (150 - s) + zph l.length none ≤ 65000) (ho : op k = 31) : zWk (zS lv out) (wdisp Kr (zI (op k)) (ar k) g v (zI k) (zI a) (zI lv) out) g v T out l none s 0 (zstep (op k) (ar k) sx (zev op ar sx p2 p3 d (k + 1)) (zev op ar sx p2 p3 d (p2 k)) (zev op ar sx p2 p3 d (p3 k)) t vr s) := by
  rw [ho]
  have hsp : zstep 31 (ar k) sx (zev op ar sx p2 p3 d (k + 1)) (zev op ar sx p2 p3 d (p2 k)) (zev op ar sx p2 p3 d (p3 k)) t vr s = if ar k = 0 then some ([], none, s) else zbnd (zev op ar sx p2 p3 d (k + 1) t vr s) (fun r e s1 => some (r.take (ar k).toNatClampNeg, if r.length < (ar k).toNatClampNeg then e else none, s1)) := rfl
  rw [hsp]
  unfold wdisp
  repeat rw [if_neg (by decide)]
  rw [if_pos (by decide)]
  rw [bo_id (fun r g v => by cases r; rfl)]
  exact w_limit hK hlv hR hO hk ho ha hw hT
theorem wk_32 (hK : zKr op ar sx p2 p3 Kr d (lv + 1)) (hlv : lv < 8) (hR : zRn op ar sx p2 p3 vr g v T s) (hO : zOut lv out) (hk : zok op ar p2 p3 (d + 1) k) (ha : zV (v 4) T a t) (hw : zRw v T out l none) (hT : T + 280 * (150 - s) + zph l.length none ≤ 65000) (ho : op k = 32) : zWk (zS lv out) (wdisp Kr (zI (op k)) (ar k) g v (zI k) (zI a) (zI lv) out) g v T out l none s 0 (zstep (op k) (ar k) sx (zev op ar sx p2 p3 d (k + 1)) (zev op ar sx p2 p3 d (p2 k)) (zev op ar sx p2 p3 d (p3 k)) t vr s) := by
  rw [ho]
  have hsp : zstep 32 (ar k) sx (zev op ar sx p2 p3 d (k + 1)) (zev op ar sx p2 p3 d (p2 k)) (zev op ar sx p2 p3 d (p3 k)) t vr s = zfor (fun x s => zgv (some (zhas t x)) s) (zev op ar sx p2 p3 d (k + 1) t vr s) := rfl
  rw [hsp]
  unfold wdisp
  repeat rw [if_neg (by decide)]
  rw [if_pos (by decide)]
  have h1p : 1 ≤ zpt (op k) := by rw [ho]; decide
  rw [f_N_work_550, gd_t hO.1, bo_id (fun r g v => by cases r; rfl)]
  exact w_forEach hK hlv hO (hk.2.2.2.1 h1p) (fun g v T s b x l hR ha hb hw hT => fo_32 hR hO hk.1 ho ha hb hw) hR ha hw hT
theorem wk_33 (hK : zKr op ar sx p2 p3 Kr d (lv + 1)) (hlv : lv < 8) (hR : zRn op ar sx p2 p3 vr g v T s) (hO : zOut lv out) (hk : zok op ar p2 p3 (d + 1) k) (ha : zV (v 4) T a t) (hw : zRw v T out l none) (hT : T + 280 * (150 - s) + zph l.length none ≤ 65000) (ho : op k = 33) : zWk (zS lv out) (wdisp Kr (zI (op k)) (ar k) g v (zI k) (zI a) (zI lv) out) g v T out l none s 0 (zstep (op k) (ar k) sx (zev op ar sx p2 p3 d (k + 1)) (zev op ar sx p2 p3 d (p2 k)) (zev op ar sx p2 p3 d (p3 k)) t vr s) := by
  rw [ho]
  have hsp : zstep 33 (ar k) sx (zev op ar sx p2 p3 d (k + 1)) (zev op ar sx p2 p3 d (p2 k)) (zev op ar sx p2 p3 d (p3 k)) t vr s = zfor (fun x s => some (if zgood x = true then [t] else [], none, s)) (zev op ar sx p2 p3 d (k + 1) t vr s) := rfl
  rw [hsp]
  unfold wdisp
  repeat rw [if_neg (by decide)]
  rw [if_pos (by decide)]
  have h1p : 1 ≤ zpt (op k) := by rw [ho]; decide
  rw [f_N_work_550, gd_t hO.1, bo_id (fun r g v => by cases r; rfl)]
  exact w_forEach hK hlv hO (hk.2.2.2.1 h1p) (fun g v T s b x l hR ha hb hw hT => fo_33 hR hO hk.1 ho ha hb hw) hR ha hw hT
theorem wk_34 (hK : zKr op ar sx p2 p3 Kr d (lv + 1)) (hlv : lv < 8) (hR : zRn op ar sx p2 p3 vr g v T s) (hO : zOut lv out) (hk : zok op ar p2 p3 (d + 1) k) (ha : zV (v 4) T a t) (hw : zRw v T out l none) (hT : T + 280 * (150 - s) + zph l.length none ≤ 65000) (ho : op k = 34) : zWk (zS lv out) (wdisp Kr (zI (op k)) (ar k) g v (zI k) (zI a) (zI lv) out) g v T out l none s 0 (zstep (op k) (ar k) sx (zev op ar sx p2 p3 d (k + 1)) (zev op ar sx p2 p3 d (p2 k)) (zev op ar sx p2 p3 d (p3 k)) t vr s) := by
  rw [ho]
  have hsp : zstep 34 (ar k) sx (zev op ar sx p2 p3 d (k + 1)) (zev op ar sx p2 p3 d (p2 k)) (zev op ar sx p2 p3 d (p3 k)) t vr s = zgv (zflr t) s := rfl
  rw [hsp]
  unfold wdisp
  repeat rw [if_neg (by decide)]
  rw [if_pos (by decide)]
  have h16 := hw.2.1
  have hph : 16 ≤ zph l.length none := by simp only [zph]; omega
  exact w_givP hR hO hw (c_floored hR.1 ha (by omega)) (by omega) (fun e he => zflr_e he) (fun r g v => by rw [f_N_work_542, gd_t hO.1, bo_id (fun r g v => by cases r; rfl)])
end CWK
