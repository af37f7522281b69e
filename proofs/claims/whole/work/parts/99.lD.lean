/-! what the law finds at its entry -/
theorem lw_t1 {w : Cond} (i : Nat) (h : tables_1_1[i]? = some w) : w ∈ lw_tbl := List.mem_append_right _ (by unfold tables_1; exact (List.mem_append_left _ (List.mem_of_getElem? h)))
theorem lw_t2 {w : Cond} (i : Nat) (h : tables_1_2[i]? = some w) : w ∈ lw_tbl := List.mem_append_right _ (by unfold tables_1; exact (List.mem_append_right _ (List.mem_append_left _ (List.mem_of_getElem? h))))
theorem lw_t3 {w : Cond} (i : Nat) (h : tables_1_3[i]? = some w) : w ∈ lw_tbl := List.mem_append_right _ (by unfold tables_1; exact (List.mem_append_right _ (List.mem_append_right _ (List.mem_append_left _ (List.mem_of_getElem? h)))))
theorem lw_t4 {w : Cond} (i : Nat) (h : tables_1_4[i]? = some w) : w ∈ lw_tbl := List.mem_append_right _ (by unfold tables_1; exact (List.mem_append_right _ (List.mem_append_right _ (List.mem_append_right _ (List.mem_append_left _ (List.mem_of_getElem? h))))))
theorem vk_ex {own tx : String} {k : Nat} {args : Array Value} {s : State} (h : (Cond.stringRef own k tx).before args s = true) : ∃ a, vk_R own k tx a s := by
  have h2 := h
  simp only [Cond.before, Cond.holds, Cond.value] at h2
  cases hc : s.vm.findClass own with
  | none => simp [hc] at h2
  | some c =>
    cases hr : s.resolvedAt? own k with
    | none => simp [hc, hr] at h2
    | some r =>
      cases r with
      | string a =>
        refine ⟨a, vk_R.of h ?_⟩
        have hr2 := hr
        unfold State.resolvedAt? at hr2
        simp only [hc, Option.bind_eq_bind, Option.bind_some] at hr2
        simp only [Term.eval, hc, Option.bind_eq_bind, Option.bind_some]
        cases hk : s.vm.classes[c]? with
        | none => simp [hk] at hr2
        | some k9 =>
          simp only [hk, Option.bind_some] at hr2 ⊢
          rw [hr2]
          rfl
      | _ => simp [hc, hr] at h2
theorem lz_arr {args : Array Value} {s : State} {ty : FieldType} (h : (Cond.arrayClass ty).before args s = true) : ∃ cA, ArrOfT s cA ty ∧ s.vm.findClass ("[" ++ ty.toString) = some cA := by
  obtain ⟨cA, kA, comp, hfind, hk, hkind⟩ := Cond.arrayClass_spec h
  exact ⟨cA, fun n z => ⟨fun k h => (by cases h), kA, hk, comp, hkind⟩, hfind⟩
theorem lz_ovr {args : Array Value} {s : State} {C : String} (h : (Cond.arrayOver (.object C)).before args s = true) : ∃ cA, ArrOfT s cA (.object C) ∧ va_RA s cA (.object C) := by
  obtain ⟨comp, cA, k, f1, f2, f3, f4, f5⟩ := Cond.arrayOver_spec h
  exact ⟨cA, fun n z => ⟨fun k h => (by cases h), k, f3, comp, f4⟩, k, comp, f3, f4, f1, f5⟩
theorem lz_w1 : ∀ x ∈ bn_st, Cond.stringRef x.1 x.2.1 x.2.2 ∈ lw_tbl := by
  intro x hx
  simp only [bn_st, List.mem_cons, List.not_mem_nil, or_false] at hx
  rcases hx with rfl | rfl | rfl | rfl | rfl | rfl | rfl | rfl | rfl | rfl | rfl | rfl | rfl
  · exact lw_t1 230 (by decide +kernel)
  · exact lw_t2 30 (by decide +kernel)
  · exact lw_t2 47 (by decide +kernel)
  · exact lw_t2 79 (by decide +kernel)
  · exact lw_t2 122 (by decide +kernel)
  · exact lw_t2 156 (by decide +kernel)
  · exact lw_t2 171 (by decide +kernel)
  · exact lw_t3 8 (by decide +kernel)
  · exact lw_t3 46 (by decide +kernel)
  · exact lw_t4 12 (by decide +kernel)
  · exact lw_t4 26 (by decide +kernel)
  · exact lw_t4 43 (by decide +kernel)
  · exact lw_t4 81 (by decide +kernel)
theorem lz_w2 : ∀ x ∈ bn_nw, Cond.methodLinkNest x.1 x.2.1 x.2.2.1 x.2.2.2 ∈ lw_tbl := by
  intro x hx
  simp only [bn_nw, List.mem_cons, List.not_mem_nil, or_false] at hx
  rcases hx with rfl | rfl | rfl | rfl | rfl | rfl | rfl | rfl | rfl
  · exact lw_t1 72 (by decide +kernel)
  · exact lw_t1 98 (by decide +kernel)
  · exact lw_t1 132 (by decide +kernel)
  · exact lw_t2 74 (by decide +kernel)
  · exact lw_t2 141 (by decide +kernel)
  · exact lw_t2 151 (by decide +kernel)
  · exact lw_t3 63 (by decide +kernel)
  · exact lw_t3 202 (by decide +kernel)
  · exact lw_t4 90 (by decide +kernel)
theorem lz_w3 : ∀ C ∈ bn_ex, Cond.castable C C ∈ lw_tbl := by
  intro x hx
  simp only [bn_ex, List.mem_cons, List.not_mem_nil, or_false] at hx
  rcases hx with rfl | rfl | rfl | rfl
  · exact lw_t1 190 (by decide +kernel)
  · exact lw_t2 115 (by decide +kernel)
  · exact lw_t4 5 (by decide +kernel)
  · exact lw_t2 23 (by decide +kernel)
theorem lz_w4 : ∀ y ∈ bn_dc, Cond.declares y ∈ lw_tbl := by
  intro x hx
  simp only [bn_dc, List.mem_cons, List.not_mem_nil, or_false] at hx
  rcases hx with rfl | rfl | rfl
  · exact lw_t1 192 (by decide +kernel)
  · exact lw_t1 194 (by decide +kernel)
  · exact lw_t1 196 (by decide +kernel)
theorem lz_pw {args : Array Value} {s : State} {A : Nat → Prop} (h : (Jvm.Cond.and given_1 narrow_1).before args s = true) (hA : ∀ a : Nat, a < s.heap.size → ¬ A a) : ∃ t : Nat, (Term.static "FilterBench$Values" "POWERS" "[I").eval args s none [] s = some (.ref t) ∧ va_T .int t 7 (fun k => .int (pw k)) A s s.heap := by
  have hs := flat_of_before _ h
  have h0 : (Cond.arrayOf (.static "FilterBench$Values" "POWERS" "[I") .int).before args s = true := hs _ (by decide +kernel)
  have h1 : (Cond.eq (.length (.static "FilterBench$Values" "POWERS" "[I")) (.int 7)).before args s = true := hs _ (by decide +kernel)
  have e0 : (Cond.eq (.elem (.static "FilterBench$Values" "POWERS" "[I") (.int 0)) (.int 1)).before args s = true := hs _ (by decide +kernel)
  have e1 : (Cond.eq (.elem (.static "FilterBench$Values" "POWERS" "[I") (.int 1)) (.int 10)).before args s = true := hs _ (by decide +kernel)
  have e2 : (Cond.eq (.elem (.static "FilterBench$Values" "POWERS" "[I") (.int 2)) (.int 100)).before args s = true := hs _ (by decide +kernel)
  have e3 : (Cond.eq (.elem (.static "FilterBench$Values" "POWERS" "[I") (.int 3)) (.int 1000)).before args s = true := hs _ (by decide +kernel)
  have e4 : (Cond.eq (.elem (.static "FilterBench$Values" "POWERS" "[I") (.int 4)) (.int 10000)).before args s = true := hs _ (by decide +kernel)
  have e5 : (Cond.eq (.elem (.static "FilterBench$Values" "POWERS" "[I") (.int 5)) (.int 100000)).before args s = true := hs _ (by decide +kernel)
  have e6 : (Cond.eq (.elem (.static "FilterBench$Values" "POWERS" "[I") (.int 6)) (.int 1000000)).before args s = true := hs _ (by decide +kernel)
  refine va_Tof (by decide) h0 (Cond.eq_int h1 rfl) (fun j hj => ?_) hA
  rcases (show j = 0 ∨ j = 1 ∨ j = 2 ∨ j = 3 ∨ j = 4 ∨ j = 5 ∨ j = 6 by omega) with rfl | rfl | rfl | rfl | rfl | rfl | rfl
  · exact Cond.eq_int e0 rfl
  · exact Cond.eq_int e1 rfl
  · exact Cond.eq_int e2 rfl
  · exact Cond.eq_int e3 rfl
  · exact Cond.eq_int e4 rfl
  · exact Cond.eq_int e5 rfl
  · exact Cond.eq_int e6 rfl
