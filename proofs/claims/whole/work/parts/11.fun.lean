/-! words for the functions that a method's code computes: a name, a guard, a call; the fuel of a loop -/
abbrev mS : Type := Nat → Nat → Int32
def fu : Nat := 1000000
def nm {α β : Type} (a : α) (f : α → β) : β := f a
def gd {α : Type} (b : Bool) (x : Option α) : Option α := if b = true then x else none
def inB (i : Int32) (n : Nat) : Bool := decide (0 ≤ i) && decide (i.toNatClampNeg < n)
def bi {α β γ : Type} (x : Option (α × β)) (f : α → β → Option γ) : Option γ := match x with
  | some z => f z.1 z.2
  | none => none
def bv {β γ : Type} (x : Option β) (f : β → Option γ) : Option γ := match x with
  | some z => f z
  | none => none
theorem nm_out {α β : Type} {a : α} {f : α → Option β} {o : β} (h : nm a f = some o) : ∃ x, x = a ∧ f x = some o := ⟨a, rfl, h⟩
theorem gd_out {α : Type} {b : Bool} {x : Option α} {o : α} (h : gd b x = some o) : b = true ∧ x = some o := by
  cases b with
  | false => cases h
  | true => exact ⟨rfl, h⟩
theorem bi_out {α β γ : Type} {x : Option (α × β)} {f : α → β → Option γ} {o : γ} (h : bi x f = some o) : ∃ (r : α) (w : β), x = some (r, w) ∧ f r w = some o := by
  cases x with
  | none => cases h
  | some z => exact ⟨z.1, z.2, rfl, h⟩
theorem bv_out {β γ : Type} {x : Option β} {f : β → Option γ} {o : γ} (h : bv x f = some o) : ∃ w : β, x = some w ∧ f w = some o := by
  cases x with
  | none => cases h
  | some z => exact ⟨z, rfl, h⟩
theorem inB_in {i : Int32} {n : Nat} (h : inB i n = true) : vp_in i n := by
  simp only [inB, Bool.and_eq_true, decide_eq_true_eq] at h
  intro q
  rcases q with q | q
  · exact absurd h.1 (Int32.not_le.mpr q)
  · omega
theorem ne_gd {x : Int32} (h : decide (x ≠ 0) = true) : ¬ x = 0 := by simpa using h
theorem ne_gdl {x : Int64} (h : decide (x ≠ 0) = true) : ¬ x = 0 := by simpa using h
theorem z01 {x : Int32} (h : decide (x = 0 ∨ x = 1) = true) : x = 0 ∨ x = 1 := by simpa using h
section FUN
variable {p : Program} {l : Launch} {e : Env} {R : Room} {s : State} {m : MethodId} {args : Array Value} {below : List Frame} {meth : Method} {c : Code} {H : Heap} {locs : List Loc} {cells slots : Nat} {Q : State → Prop}
variable {cc : ByteArray} {pc : Nat} {ls : Array Slot} {rest : List Value}
theorem fu_i {x y : Int32} (h : y = x) (k : W p l e R s m args below meth c H locs cells slots Q (F0 m pc ls (.int y :: rest))) : W p l e R s m args below meth c H locs cells slots Q (F0 m pc ls (.int x :: rest)) := h ▸ k
theorem fu_l {x y : Int64} (h : y = x) (k : W p l e R s m args below meth c H locs cells slots Q (F0 m pc ls (.long y :: rest))) : W p l e R s m args below meth c H locs cells slots Q (F0 m pc ls (.long x :: rest)) := h ▸ k
theorem fu_hit {dflt lo hi : Int} {offs : Array Int} {len : Nat} {x : Int32} {off : Int} {tgt : Nat} (k : Int32) (hx9 : x = k) (hexec : p.tables.exec = Jvm.exec) (hb : c.code = cc) (hdg : decode cc pc = .ok (.tableswitch dflt lo hi offs, len)) (h1 : ¬ k.toInt < lo) (h2 : ¬ hi < k.toInt) (ho : offs[(k.toInt - lo).toNat]? = some off) (ht : (pc : Int) + off = (tgt : Int))
    (kk : W p l e R s m args below meth c H locs cells slots Q (F0 m tgt ls rest)) : W p l e R s m args below meth c H locs cells slots Q (F0 m pc ls (.int x :: rest)) := by
  subst hx9
  exact lv_tableIn hexec hb hdg h1 h2 ho ht kk
theorem fu_out {x : Int32} {lo hi : Int} (n : Nat) (hn : hi < lo + n) (h : ∀ k : Nat, k < n → ¬ x.toInt = lo + k) : x.toInt < lo ∨ hi < x.toInt := by
  by_cases h1 : x.toInt < lo
  · exact Or.inl h1
  · by_cases h2 : hi < x.toInt
    · exact Or.inr h2
    · exact absurd (show x.toInt = lo + ((x.toInt - lo).toNat : Nat) by omega) (h (x.toInt - lo).toNat (by omega))
theorem fu_lhit {dflt : Int} {ps : Array (Int × Int)} {len : Nat} {x : Int32} {off : Int} {tgt : Nat} (k : Int32) (hx9 : x = k) (hexec : p.tables.exec = Jvm.exec) (hb : c.code = cc) (hdg : decode cc pc = .ok (.lookupswitch dflt ps, len)) (hp : (ps.toList.zip (ps.toList.drop 1)).all (fun (a, next) => a.1 < next.1) = true) (ho : Op.lookupswitch.offset ps.toList dflt k.toInt = off) (ht : (pc : Int) + off = (tgt : Int))
    (kk : W p l e R s m args below meth c H locs cells slots Q (F0 m tgt ls rest)) : W p l e R s m args below meth c H locs cells slots Q (F0 m pc ls (.int x :: rest)) := by
  subst hx9
  exact lv_lookup hexec hb hdg hp ho ht kk
end FUN
