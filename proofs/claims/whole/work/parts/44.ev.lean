/-! what a filter makes of a value: rows, errors, steps; none: no ROOM -/
abbrev zEv : Type := Option (List zT × Option zT × Nat)
def zgv (r : Option (Nat ⊕ zT)) (s : Nat) : zEv := match r with
  | none => none
  | some (.inl e) => some ([], some (zQ ((e : Int) * 1000000)), s)
  | some (.inr t) => some ([t], none, s)
def zfe (F : zT → Nat → zEv) : List zT → Option zT → Nat → zEv
  | [], e, s => some ([], e, s)
  | x :: xs, e, s => match F x s with
    | none => none
    | some (r, some y, s1) => some (r, some y, s1)
    | some (r, none, s1) => match zfe F xs e s1 with
      | none => none
      | some (r2, e2, s2) => some (r ++ r2, e2, s2)
def zfor (F : zT → Nat → zEv) (E : zEv) : zEv := match E with
  | none => none
  | some (r, e, s) => zfe F r e s
def zthen (E : zEv) (F : Nat → zEv) : zEv := match E with
  | none => none
  | some (r, e, s) => match F s with
    | none => none
    | some (r2, e2, s2) => some (r ++ r2, e2, s2)
def zcap (x : zEv) : zEv := match x with
  | none => none
  | some (r, e, s) => if r.length ≤ 16 then some (r, e, s) else none
def zgood (t : zT) : Bool := decide (1 < zk t)
def zhold (a : Nat) (c : Int) : Bool := if a = 0 then decide (c = 0) else if a = 1 then decide (c ≠ 0) else if a = 2 then decide (c < 0) else if a = 3 then decide (c ≤ 0) else if a = 4 then decide (0 < c) else decide (0 ≤ c)
def zcalc (a : Nat) (x y : zT) : Option (Nat ⊕ zT) := if a = 0 then zadd x y else if a = 1 then zsub x y else if a = 2 then zmul x y else zrem x y
/-- so many numbers 0, 1 .. -/
def zrow (n : Nat) : List zT := (List.range n).map (fun k : Nat => zQ ((k : Int) * 1000000))
def zrng (x : zT) (s : Nat) : zEv := if zk x = 3 then some (zrow ((zv x + 999999) / 1000000).toNat, none, s) else zgv (some (.inl 1)) s
def zall : Nat → zT → List zT
  | 0, _ => []
  | n + 1, t => t :: (if zk t < 5 then [] else (List.range (zl t)).flatMap (fun k => zall n (zc t k)))
def zrdc (G : zT → zT → Nat → zEv) : List zT → Option zT → zT → Nat → zEv
  | [], none, z, s => some ([z], none, s)
  | [], some y, _, s => some ([], some y, s)
  | x :: xs, e, z, s => match G z x s with
    | none => none
    | some (_, some y, s1) => some ([], some y, s1)
    | some (r, none, s1) => zrdc G xs e (r.getLastD (zW 0)) s1
def zstep (o : Nat) (a : Int32) (sx : Nat → zN) (E1 E2 E3 : zT → (Nat → zT) → Nat → zEv) (v : zT) (vr : Nat → zT) (s : Nat) : zEv :=
  if o = 0 then some ([v], none, s)
  else if o = 1 then zgv (some (zfld v (sx a.toNatClampNeg))) s
  else if o = 2 then zfor (fun x s => zgv (some (zidx v x)) s) (E1 v vr s)
  else if o = 3 then (if zk v < 5 then zgv (some (.inl 1)) s else some ((List.range (zl v)).map (zc v), none, s))
  else if o = 4 then zfor (fun x s => E2 x vr s) (E1 v vr s)
  else if o = 5 then (match E1 v vr s with
    | some (r, none, s1) => zthen (some (r, none, s1)) (fun s => E2 v vr s)
    | w => w)
  else if o = 6 then zgv (zmkN (a.toInt * 1000)) s
  else if o = 7 then some ([zX (sx a.toNatClampNeg)], none, s)
  else if o = 8 then some ([zW a.toNatClampNeg], none, s)
  else if o = 9 then (match E1 v vr s with
    | none => none
    | some (_, some y, s1) => some ([], some y, s1)
    | some (r, none, s1) => zgv (zmkA r.length (fun k => r.getD k (zW 0))) s1)
  else if o = 10 then zgv (zmkA 0 (fun _ => zW 0)) s
  else if o = 11 then zfor (fun x s => zgv (zmkO 1 (fun _ => sx a.toNatClampNeg) (fun _ => x)) s) (E1 v vr s)
  else if o = 12 then zfor (fun y s => zfor (fun x s => zgv (zcalc a.toNatClampNeg x y) s) (E1 v vr s)) (E2 v vr s)
  else if o = 13 then zfor (fun y s => zfor (fun x s => some ([ztr (zhold a.toNatClampNeg (zcmp 6 x y))], none, s)) (E1 v vr s)) (E2 v vr s)
  else if o = 14 ∨ o = 15 then zfor (fun x s => if zgood x = decide (o = 15) then some ([ztr (decide (o = 15))], none, s) else (match E2 v vr s with
    | none => none
    | some (r, e, s1) => some (r.map (fun y => ztr (zgood y)), e, s1))) (E1 v vr s)
  else if o = 16 then some ([ztr (!zgood v)], none, s)
  else if o = 17 then zfor (fun x s => if zgood x = true then E2 v vr s else E3 v vr s) (E1 v vr s)
  else if o = 18 then (match E1 v vr s with
    | some (r, some y, s1) => zthen (some (r, none, s1)) (fun s => E2 y vr s)
    | w => w)
  else if o = 19 then (match E1 v vr s with
    | none => none
    | some (r, _, s1) => if r.filter zgood = [] then E2 v vr s1 else some (r.filter zgood, none, s1))
  else if o = 20 then zfor (fun x s => E2 v (va_up vr a.toNatClampNeg x) s) (E1 v vr s)
  else if o = 21 then some ([vr a.toNatClampNeg], none, s)
  else if o = 22 then (match E2 v vr s with
    | none => none
    | some (_, some y, s1) => some ([], some y, s1)
    | some (r, none, s1) => (match E1 v vr s1 with
      | none => none
      | some (xs, e, s2) => zrdc (fun z x s => E3 z (va_up vr a.toNatClampNeg x) s) xs e (r.headD (zW 0)) s2))
  else if o = 23 then zgv (zlen v) s
  else if o = 24 then zgv (zkeys v) s
  else if o = 25 then some ([], none, s)
  else if o = 26 then some ([], some v, s)
  else if o = 27 then zgv (zsort v) s
  else if o = 28 then zgv (zsum v) s
  else if o = 29 then zfor (fun x s => zrng x s) (E1 v vr s)
  else if o = 30 then some (zall 6 v, none, s)
  else if o = 31 then (if a = 0 then some ([], none, s) else (match E1 v vr s with
    | none => none
    | some (r, e, s1) => some (r.take a.toNatClampNeg, if r.length < a.toNatClampNeg then e else none, s1)))
  else if o = 32 then zfor (fun x s => zgv (some (zhas v x)) s) (E1 v vr s)
  else if o = 33 then zfor (fun x s => some (if zgood x = true then [v] else [], none, s)) (E1 v vr s)
  else zgv (zflr v) s
def zev (op : Nat → Nat) (ar : Nat → Int32) (sx : Nat → zN) (p2 p3 : Nat → Nat) : Nat → Nat → zT → (Nat → zT) → Nat → zEv
  | 0, _, _, _, _ => none
  | d + 1, at0, v, vr, s => if 150 ≤ s then none else zcap (zstep (op at0) (ar at0) sx (zev op ar sx p2 p3 d (at0 + 1)) (zev op ar sx p2 p3 d (p2 at0)) (zev op ar sx p2 p3 d (p3 at0)) v vr (s + 1))
