/-! the reference's machine: parts asked for each value of a row -/
theorem zseq_bn {E : zEv} {K : Option zT → Nat → zEv} : zseq E K = zbnd E (fun r e s => zapp r (K e s)) := by
  cases E with
  | none => rfl
  | some q => rfl
section MEE
variable {op : Nat → Nat} {ar : Nat → Int32} {sx : Nat → zN} {p2 p3 : Nat → Nat} {B F k : Nat} {t y x : zT} {vr vra vr0 : Nat → zT} {l xs : List zT} {s u Q i : Nat} {v : mS} {T : Nat} {sp : zEv} {c d a : Nat} {X : Option mS} {eR : Option zT} {K : Option zT → Nat → zEv}
theorem mX_17 {w : mS} {z : Int32} (hw : w = sU v 17 F z) : mX F v T w T := by
  subst hw
  exact ⟨Nat.le_refl _, fun n _ => by rw [sU_j (by decide)], fun j a => sU_j (by omega), fun j n a b => by
    by_cases cj : j = 17
    · subst cj; rw [sU_k (by omega)]
    · rw [sU_j cj], fun j n a _ => by rw [sU_j (by omega)], fun n _ => by rw [sU_j (by decide)]⟩
theorem mGot_up {v' : mS} {T' : Nat} {r : List zT} {e : Option zT} (h : mGot v T r e) (h37 : v' 0 37 = v 0 37) (h38 : v' 0 38 = v 0 38) (h26 : v' 26 = v 26) (hc : ∀ i, i < T → v' 6 i = v 6 i) (ht : T ≤ T') : mGot v' T' r e := ⟨h37.trans h.1, mRow_up h.2.1 (fun _ _ => by rw [h26]) hc ht, by rw [h38]; exact mErr_up h.2.2 hc ht⟩
/-- a part is asked for a value of the row; then what came is worked on -/
theorem el_ask {q j b e : Nat} {t2 : zT} {va : mS} {spK : List zT → Option zT → Nat → zEv} (hK : mKr op ar sx p2 p3 B d (F + 1)) (hF : F + 1 < 10) (hk : zok op ar p2 p3 (d + 1) k) (h1 : 1 ≤ zpt (op k)) (h : mFr op ar sx p2 p3 B F k t vr l s (mU l) Q v T) (h0 : v 0 21 = 0) (hr : mRs F i xs eR v T) (hi : i < xs.length) (ee : v 23 (17 * F + i) = zI e) (he : zU (v 6) T e x) (hX : mX F v T va T) (ha : mFr op ar sx p2 p3 B F k t vra l s (mU l) Q va T) (hrs : ∀ j, j = 17 ∨ j = 18 ∨ j = 19 ∨ j = 20 ∨ j = 23 ∨ j = 6 ∨ j = 21 → va j = v j) (hs : f_M_step v (zI F) = f_M_ask va (zI F) (zI j) (zI b) (zI 3)) (hq : zok op ar p2 p3 d q) (hpo : ∀ w : mS, w 3 = va 3 → f_M_partOf w (zI (B + k)) (zI j) = some (zI (B + q), w)) (hb : zU (va 6) T b t2)
    (hc : ∀ (w : mS) (T2 : Nat) (r : List zT) (er : Option zT) (s1 : Nat), zev op ar sx p2 p3 d q t2 vra s = some (r, er, s1) → l.length ≤ 16 → w 0 21 = 0 → mFr op ar sx p2 p3 B F k t vra l s1 (mU l) Q w T2 → mRs F (i + 1) xs eR w T2 → mGot w T2 r er → zU (w 6) T2 e x → w 22 F = va 22 F → w 21 F = va 21 F → T ≤ T2 → (∀ n, n < T → w 6 n = va 6 n) → mOc F Q vr0 s1 c (wkd w (zI F) (zI (op k)) (zI e) (ar k)) (zapp l (spK r er s1)) w T2) : mFE F Q vr0 s (c + 2) (zapp l (zbnd (zev op ar sx p2 p3 d q t2 vra s) spK)) v T := by
  have h16 := hr.2.2.2.1.1
  refine fr_ask (c := c + 1) hK hF h h0 hr.1 (by omega) hX ha hs hq hpo hb (fun v2 T2 r er s1 c1 c2 c3 c4 c5 c6 => ?_)
  refine mFE_live c3 (fun _ h02 _ => ?_)
  obtain ⟨a1, a2, a3, ⟨b2, eb2, hb2⟩, a5, a6, a7, a8, a9, a10, a11⟩ := id c3
  have hB := a1.1
  have hk32 := hk.1
  have x18 : v2 18 F = zI i := by rw [c5.2.2.2.1 18 F (by omega) (by omega), sU_j (by decide), hrs 18 (by omega)]; exact hr.2.1
  have x19 : v2 19 F = v 19 F := by rw [c5.2.2.2.1 19 F (by omega) (by omega), sU_j (by decide), hrs 19 (by omega)]
  have x20 : v2 20 F = v 20 F := by rw [c5.2.2.2.1 20 F (by omega) (by omega), sU_j (by decide), hrs 20 (by omega)]
  have x22 : v2 22 F = va 22 F := by rw [c5.2.2.2.1 22 F (by omega) (by omega), sU_j (by decide)]
  have x21 : v2 21 F = va 21 F := by rw [c5.2.2.2.1 21 F (by omega) (by omega), sU_j (by decide)]
  have x23 : ∀ n, 17 * F ≤ n → n < 17 * F + 17 → v2 23 n = v 23 n := fun n n1 n2 => by rw [c5.2.2.2.2.1 23 n (by omega) (by omega), sU_j (by decide), hrs 23 (by omega)]
  have x6 : ∀ n, n < T → v2 6 n = v 6 n := fun n hn => by rw [c5.2.1 n hn, sU_j (by decide), hrs 6 (by omega)]
  have x6a : ∀ n, n < T → v2 6 n = va 6 n := fun n hn => by rw [c5.2.1 n hn, sU_j (by decide)]
  have hw : mRw v2 T2 F xs eR := mRw_up hr.2.2 x19 x20 x23 x6 c5.1
  have e23 : v2 23 (17 * F + i) = zI e := by rw [x23 _ (by omega) (by omega)]; exact ee
  have e17 : (17 : Int32) * zI F + zI i = zI (17 * F + i) := by rw [show (17 : Int32) = zI 17 from rfl, zI_mul, zI_add]
  have ei1 : zI i + 1 = zI (i + 1) := by rw [zl_1, zI_add]
  have hst : f_M_step v2 (zI F) = wkd (sU (sU v2 18 F (zI (i + 1))) 17 F (zI 2)) (zI F) (zI (op k)) (zI e) (ar k) := by
    rw [m_step_p (by omega) c3 hk.1 hk.2.1 h1 c6 (by omega), if_neg (by omega), if_neg (by omega), if_neg (by omega), if_pos rfl, bv_id, f_M_worked, gd_I (by omega) (by omega), zI_toNat (by omega), x18, e17, gd_I (by omega) (by omega), zI_toNat (by omega), e23, nm_s, gd_I (by omega) (by omega), a3, gd_I (by omega) (by omega), zI_toNat (by omega), (a1.2.1 k hk32).2, nm_s, gd_I (by omega) (by omega), gd_I (by omega) (by omega), ei1, nm_s, gd_I (by omega) (by omega), nm_s]
    unfold wkd
    rw [show (zI F).toNatClampNeg = F from zI_toNat (by omega), ← zl_2]
  have hj : ∀ j, j ≠ 17 → j ≠ 18 → sU (sU v2 18 F (zI (i + 1))) 17 F (zI 2) j = v2 j := fun j j1 j2 => by rw [sU_j j1, sU_j j2]
  have hX2 : mX F v2 T2 (sU (sU v2 18 F (zI (i + 1))) 17 F (zI 2)) T2 := (mX_at rfl).tr (mX_17 rfl)
  have y17 : sU (sU v2 18 F (zI (i + 1))) 17 F (zI 2) 17 F = zI 2 := sU_hit
  have y18 : sU (sU v2 18 F (zI (i + 1))) 17 F (zI 2) 18 F = zI (i + 1) := by rw [sU_j (by decide), sU_hit]
  generalize sU (sU v2 18 F (zI (i + 1))) 17 F (zI 2) = w at *
  obtain ⟨v3, T3, d1, d2, d3⟩ := hc w T2 r er s1 c1 c2 (by rw [hj 0 (by decide) (by decide)]; exact h02) (mFr_w c3 (fun j j1 j2 _ _ _ _ _ => hj j j1 j2)) ⟨y17, y18, mRw_up hw (by rw [hj 19 (by decide) (by decide)]) (by rw [hj 20 (by decide) (by decide)]) (fun n _ _ => by rw [hj 23 (by decide) (by decide)]) (fun n _ => by rw [hj 6 (by decide) (by decide)]) (Nat.le_refl _)⟩ (mGot_up c4 (by rw [hj 0 (by decide) (by decide)]) (by rw [hj 0 (by decide) (by decide)]) (hj 26 (by decide) (by decide)) (fun n _ => by rw [hj 6 (by decide) (by decide)]) (Nat.le_refl _)) (by rw [hj 6 (by decide) (by decide)]; exact zU_up he x6 c5.1) (by rw [hj 22 (by decide) (by decide)]; exact x22) (by rw [hj 21 (by decide) (by decide)]; exact x21) c5.1 (fun n hn => by rw [hj 6 (by decide) (by decide)]; exact x6a n hn)
  exact mFE_rd (by omega) c3 h02 c6 (by omega) (hst.trans d1) (hX2.tr d2) d3
/-- behind what came: an error that came ends the frame -/
theorem oc_313 {er : Option zT} (hF : F < 10) (h : mFr op ar sx p2 p3 B F k t vr l s u Q v T) (he : mErr (v 0 38) v T er) (hKy : ∀ y s1, K (some y) s1 = some ([], some y, s1)) (hc : er = none → mFE F Q vr s c (zapp l (K none s)) v T) : mOc F Q vr s c (f_M_worked_313 (zI F) v) (zapp l (K er s)) v T := by
  cases er with
  | none =>
    have he : v 0 38 = 0 := he
    refine ⟨v, T, ?_, mX.rf, hc rfl⟩
    rw [f_M_worked_313, he, if_pos (by decide)]
    rfl
  | some y =>
    obtain ⟨b, eb, hb⟩ := id he
    have hT := h.2.1.2.2.1
    obtain ⟨q0, q1, -⟩ := zU_head hb
    have e1 : ¬ v 0 38 ≤ 0 := by rw [eb, zl_0, zI_le (by omega) (by omega)]; omega
    rw [f_M_worked_313, if_neg e1]
    have e2 : zapp l (K (some y) s) = some (l, some y, s) := by rw [hKy]; simp [zapp]
    rw [e2]
    exact oc_le (oc_bv (fun _ => rfl) (oc_end hF h he)) (by omega) h.2.2.2.2.2.2.1
theorem oc_308 {r : List zT} {er : Option zT} (hF : F < 10) (h : mFr op ar sx p2 p3 B F k t vr l s u Q v T) (hg : mGot v T r er) (hKy : ∀ y s1, K (some y) s1 = some ([], some y, s1)) (hc : ∀ v1 : mS, er = none → mFr op ar sx p2 p3 B F k t vr (l ++ r) s u Q v1 T → (∀ j, j ≠ 0 → j ≠ 24 → j ≠ 25 → v1 j = v j) → mFE F Q vr s c (zapp (l ++ r) (K none s)) v1 T) : mOc F Q vr s c (f_M_worked_308 (zI F) v) (zapp l (zapp r (K er s))) v T := by
  obtain ⟨v1, b1, b2, b3, b4, b5⟩ := mFr_take hF h hg
  rw [f_M_worked_308, b1, bv_s, zapp_app]
  refine oc_X b3 (oc_313 hF b2 ?_ hKy (fun e => hc v1 e b2 b4))
  rw [b5 38 (by decide)]
  exact mErr_up hg.2.2 (fun n _ => by rw [b4 6 (by decide) (by decide) (by decide)]) (Nat.le_refl _)
/-- PIPE -/
theorem fr_pipe (hK : mKr op ar sx p2 p3 B d (F + 1)) (hF : F + 1 < 10) (h : mFr op ar sx p2 p3 B F k t vr [] s (mU []) Q v T) (h0 : v 0 21 = 0) (hp : v 17 F = zI 0) (hk : zok op ar p2 p3 (d + 1) k) (ho : op k = 4) : mFE F Q vr s 38 (zfor (fun x s => zev op ar sx p2 p3 d (p2 k) x vr s) (zev op ar sx p2 p3 d (k + 1) t vr s)) v T := by
  have h1 : 1 ≤ zpt (op k) := by rw [ho]; decide
  have h2 : 2 ≤ zpt (op k) := by rw [ho]; decide
  refine fr_for1 hK hF h h0 hp hk h1 (by omega) (by omega) (fun xs eR i v T l s c K hi hl h0 h hr hKy hc => ?_)
  obtain ⟨e, b, ee, he, eb, hb, hst⟩ := nx_pre (by omega) h hk h1 hr hi
  obtain ⟨a1, -⟩ := id h
  unfold nxd at hst
  rw [ho, if_pos (by decide), bv_388] at hst
  rw [zseq_bn]
  refine el_ask (va := v) (j := 1) hK hF hk h1 h h0 hr hi ee he mX.rf h (fun _ _ => rfl) hst (hk.2.2.2.2.1 h2) (fun w hw => (a1.2.2.2 w hw (d + 1) k hk).2.1 h2) he (fun w T2 r er s1 q1 q2 q3 q4 q5 q6 q7 q8 q9 q10 q11 => ?_)
  unfold wkd
  rw [ho]
  repeat rw [if_neg (by decide)]
  refine oc_308 (by omega) q4 q6 hKy (fun v1 en m1 m2 => hc v1 T2 r s1 (by rw [q1, en]) (mFr_le m1 (mU_0 _)) (mRs_m q5 m2))
theorem fr_17 (hK : mKr op ar sx p2 p3 B d (F + 1)) (hF : F + 1 < 10) (h : mFr op ar sx p2 p3 B F k t vr [] s (mU []) Q v T) (h0 : v 0 21 = 0) (hp : v 17 F = zI 0) (hk : zok op ar p2 p3 (d + 1) k) (ho : op k = 17) : mFE F Q vr s 38 (zfor (fun x s => if zgood x = true then zev op ar sx p2 p3 d (p2 k) t vr s else zev op ar sx p2 p3 d (p3 k) t vr s) (zev op ar sx p2 p3 d (k + 1) t vr s)) v T := by
  have h1 : 1 ≤ zpt (op k) := by rw [ho]; decide
  have h3 : 3 ≤ zpt (op k) := by rw [ho]; decide
  refine fr_for1 hK hF h h0 hp hk h1 (by omega) (by omega) (fun xs eR i v T l s c K hi hl h0 h hr hKy hc => ?_)
  obtain ⟨e, b, ee, he, eb, hb, hst⟩ := nx_pre (by omega) h hk h1 hr hi
  obtain ⟨a1, a2, -⟩ := id h
  unfold nxd at hst
  rw [ho] at hst
  repeat rw [if_neg (by decide)] at hst
  rw [if_pos (by decide), m_good a2 he, bi_s] at hst
  by_cases cg : zgood (xs.getD i (zW 0)) = true
  · rw [if_pos cg, if_neg (by decide), f_M_next_286, bv_388] at hst
    rw [if_pos cg, zseq_bn]
    refine el_ask (va := v) (j := 1) hK hF hk h1 h h0 hr hi ee he mX.rf h (fun _ _ => rfl) hst (hk.2.2.2.2.1 (by omega)) (fun w hw => (a1.2.2.2 w hw (d + 1) k hk).2.1 (by omega)) hb (fun w T2 r er s1 q1 q2 q3 q4 q5 q6 q7 q8 q9 q10 q11 => ?_)
    unfold wkd
    rw [ho]
    repeat rw [if_neg (by decide)]
    rw [if_pos (by decide)]
    refine oc_308 (by omega) q4 q6 hKy (fun v1 en m1 m2 => hc v1 T2 r s1 (by rw [if_pos cg, q1, en]) (mFr_le m1 (mU_0 _)) (mRs_m q5 m2))
  · rw [if_neg cg, if_pos rfl, f_M_next_286, bv_388] at hst
    rw [if_neg cg, zseq_bn]
    refine el_ask (va := v) (j := 2) hK hF hk h1 h h0 hr hi ee he mX.rf h (fun _ _ => rfl) hst (hk.2.2.2.2.2 h3) (fun w hw => (a1.2.2.2 w hw (d + 1) k hk).2.2 h3) hb (fun w T2 r er s1 q1 q2 q3 q4 q5 q6 q7 q8 q9 q10 q11 => ?_)
    unfold wkd
    rw [ho]
    repeat rw [if_neg (by decide)]
    rw [if_pos (by decide)]
    refine oc_308 (by omega) q4 q6 hKy (fun v1 en m1 m2 => hc v1 T2 r s1 (by rw [if_neg cg, q1, en]) (mFr_le m1 (mU_0 _)) (mRs_m q5 m2))
/-- variables -/
theorem mFr_var {n e : Nat} (h : mFr op ar sx p2 p3 B F k t vr l s u Q v T) (hn : n < 4) (he : zU (v 6) T e x) : mFr op ar sx p2 p3 B F k t (va_up vr n x) l s u Q (sU v 14 n (zI e)) T := by
  obtain ⟨a1, a2, a3, a4, a5, a6, a7, a8, a9, a10, a11⟩ := h
  have hz : ∀ j, j ≠ 14 → sU v 14 n (zI e) j = v j := fun j a => sU_j a
  refine ⟨mEn_up a1 (fun j _ _ => hz j (by omega)), mM_w a2 (by rw [hz 0 (by omega)]) (fun i _ => by rw [hz 6 (by omega)]), by rw [hz 15 (by omega)]; exact a3, by rw [hz 16 (by omega), hz 6 (by omega)]; exact a4, ?_, by rw [hz 0 (by omega)]; exact a6, a7, by rw [hz 0 (by omega)]; exact a8, ?_, a10, a11⟩
  · intro j hj
    by_cases c : j = n
    · subst c
      exact ⟨e, sU_hit, by rw [hz 6 (by omega), va_up, if_pos rfl]; exact he⟩
    · obtain ⟨b, eb, hb⟩ := a5 j hj
      exact ⟨b, by rw [sU_k c]; exact eb, by rw [hz 6 (by omega), va_up, if_neg c]; exact hb⟩
  · rcases a9 with ⟨b1, b2, b3⟩ | ⟨b1, b2, b3⟩
    · exact Or.inl ⟨b1, by rw [hz 0 (by omega)]; exact b2, mOut_up b3 (by rw [hz 24 (by omega)]) (fun i _ _ => by rw [hz 25 (by omega)]) (fun i _ => by rw [hz 6 (by omega)]) (Nat.le_refl _)⟩
    · exact Or.inr ⟨b1, by rw [hz 0 (by omega)]; exact b2, by rw [hz 24 (by omega)]; exact b3⟩
theorem va_up_back {n : Nat} : va_up (va_up vr n x) n (vr n) = vr := by
  funext j
  unfold va_up
  by_cases c : j = n
  · subst c; rw [if_pos rfl]
  · rw [if_neg c, if_neg c]
theorem mX_14 {n : Nat} {z : Int32} : mX F v T (sU v 14 n z) T := ⟨Nat.le_refl _, fun n _ => by rw [sU_j (by decide)], fun j a => sU_j (by omega), fun j n a b => by rw [sU_j (by omega)], fun j n a _ => by rw [sU_j (by omega)], fun n _ => by rw [sU_j (by decide)]⟩
theorem mX_22 {z : Int32} : mX F v T (sU v 22 F z) T := ⟨Nat.le_refl _, fun n _ => by rw [sU_j (by decide)], fun j a => sU_j (by omega), fun j n a b => by
    by_cases cj : j = 22
    · subst cj; rw [sU_k (by omega)]
    · rw [sU_j cj], fun j n a _ => by rw [sU_j (by omega)], fun n _ => by rw [sU_j (by decide)]⟩
theorem fr_20 (hK : mKr op ar sx p2 p3 B d (F + 1)) (hF : F + 1 < 10) (h : mFr op ar sx p2 p3 B F k t vr [] s (mU []) Q v T) (h0 : v 0 21 = 0) (hp : v 17 F = zI 0) (hk : zok op ar p2 p3 (d + 1) k) (ho : op k = 20) : mFE F Q vr s 38 (zfor (fun x s => zev op ar sx p2 p3 d (p2 k) t (va_up vr (ar k).toNatClampNeg x) s) (zev op ar sx p2 p3 d (k + 1) t vr s)) v T := by
  have h1 : 1 ≤ zpt (op k) := by rw [ho]; decide
  have h2 : 2 ≤ zpt (op k) := by rw [ho]; decide
  obtain ⟨n, hn, hn4⟩ := hk.2.2.1.2.1 (by omega)
  rw [hn, zI_toNat (by omega)]
  refine fr_for1 hK hF h h0 hp hk h1 (by omega) (by omega) (fun xs eR i v T l s c K hi hl h0 h hr hKy hc => ?_)
  obtain ⟨e, b, ee, he, eb, hb, hst⟩ := nx_pre (by omega) h hk h1 hr hi
  obtain ⟨a1, a2, a3, -, a5, -⟩ := id h
  obtain ⟨bo, ebo, hbo⟩ := a5 n hn4
  have e14 : sU v 22 F (v 14 n) 14 = v 14 := sU_j (by decide)
  unfold nxd at hst
  rw [ho, hn] at hst
  repeat rw [if_neg (by decide)] at hst
  rw [if_pos (by decide), f_M_next_295, gd_I hn4 (by omega), gd_I (by omega) (by omega), zI_toNat (by omega), zI_toNat (by omega), nm_s, gd_I hn4 (by omega), nm_s, if_pos (by decide), f_M_next_329, if_pos (by decide), f_M_next_346, bv_388] at hst
  rw [zseq_bn]
  have hva : mFr op ar sx p2 p3 B F k t (va_up vr n (xs.getD i (zW 0))) l s (mU l) Q (sU (sU v 22 F (v 14 n)) 14 n (zI e)) T := mFr_var (mFr_w h (fun j _ _ _ _ _ b _ => sU_j b)) hn4 (by rw [sU_j (by decide)]; exact he)
  refine el_ask (va := sU (sU v 22 F (v 14 n)) 14 n (zI e)) (j := 1) hK hF hk h1 h h0 hr hi ee he (mX_22.tr mX_14) hva (fun j hj => by rw [sU_j (by omega), sU_j (by omega)]) hst (hk.2.2.2.2.1 h2) (fun w hw => (a1.2.2.2 w (by rw [hw, sU_j (by decide), sU_j (by decide)]) (d + 1) k hk).2.1 h2) (by rw [sU_j (by decide), sU_j (by decide)]; exact hb) (fun w T2 r er s1 q1 q2 q3 q4 q5 q6 q7 q8 q9 q10 q11 => ?_)
  have hw22 : w 22 F = zI bo := by rw [q8, sU_j (by decide), sU_hit]; exact ebo
  have hbo2 : zU (w 6) T2 bo (vr n) := zU_up hbo (fun m hm => by rw [q11 m hm, sU_j (by decide), sU_j (by decide)]) q10
  have hvb := mFr_var q4 hn4 hbo2
  rw [va_up_back] at hvb
  unfold wkd
  rw [ho, hn]
  repeat rw [if_neg (by decide)]
  rw [if_pos (by decide), gd_I (by omega) (by omega), gd_I hn4 (by omega), zI_toNat (by omega), zI_toNat (by omega), hw22, nm_s]
  have hz : ∀ j, j ≠ 14 → sU w 14 n (zI bo) j = w j := fun j a => sU_j a
  have := oc_308 (c := c) (by omega) hvb (mGot_up q6 (by rw [hz 0 (by omega)]) (by rw [hz 0 (by omega)]) (hz 26 (by omega)) (fun m _ => by rw [hz 6 (by omega)]) (Nat.le_refl _)) hKy (fun v1 en m1 m2 => hc v1 T2 r s1 (by rw [q1, en]) (mFr_le m1 (mU_0 _)) (mRs_m (mRs_k q5 (fun j a => by rw [hz j (by omega)]) (fun m _ _ => by rw [hz 23 (by omega)]) (fun m _ => by rw [hz 6 (by omega)]) (Nat.le_refl _)) m2))
  exact oc_X mX_14 this
end MEE
