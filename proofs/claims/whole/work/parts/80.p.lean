/-! TEXTS, PURE: how bytes are read (as the reference does it), what is printed. w k: the k-th byte, 999 behind the end. Written by wip/b/mk80.py. -/
def tL (c : Nat) : Bool := decide (97 ≤ c) && decide (c ≤ 122)
def tD (c : Nat) : Bool := decide (48 ≤ c) && decide (c ≤ 57)
def tM (c : Nat) : Bool := decide (c = 60) || decide (c = 62) || decide (c = 61) || decide (c = 43) || decide (c = 45) || decide (c = 40) || decide (c = 41) || decide (c = 58) || decide (c = 123) || decide (c = 125)
def tP (c : Nat) : Bool := decide (32 ≤ c) && decide (c ≤ 126) && !decide (c = 123) && !decide (c = 125) && !decide (c = 124)
def tS (c : Nat) : Bool := decide (c = 32)
/-- the end of a run of signs -/
def en9_ (q : Nat → Bool) (w : Nat → Nat) : Nat → Nat → Nat
  | 0, a => a
  | f + 1, a => if q (w a) = true then en9_ q w f (a + 1) else a
def sp9_ (w : Nat → Nat) : Nat → List Nat → Bool
  | _, [] => true
  | a, c :: r => decide (w a = c) && sp9_ w (a + 1) r
/-- a word's number -/
def wc9_ (w : Nat → Nat) (p n : Nat) : Nat := if n = 2 then (if sp9_ w p [105, 102] = true then 21 else if sp9_ w p [111, 114] = true then 23 else 99) else if n = 3 then (if sp9_ w p [97, 110, 100] = true then 22 else if sp9_ w p [110, 111, 116] = true then 24 else if sp9_ w p [104, 97, 115] = true then 25 else if sp9_ w p [97, 103, 101] = true then 10 else if sp9_ w p [107, 105, 110] = true then 14 else 99) else if n = 4 then (if sp9_ w p [100, 101, 97, 100] = true then 27 else if sp9_ w p [98, 111, 114, 110] = true then 11 else if sp9_ w p [121, 101, 97, 114] = true then 12 else 99) else if n = 5 then (if sp9_ w p [115, 116, 97, 108, 101] = true then 26 else if sp9_ w p [119, 111, 114, 116, 104] = true then 13 else if sp9_ w p [114, 105, 118, 97, 108] = true then 18 else if sp9_ w p [104, 111, 117, 114, 115] = true then 20 else 99) else if n = 6 then (if sp9_ w p [100, 111, 99, 116, 111, 114] = true then 15 else if sp9_ w p [111, 102, 102, 105, 99, 101] = true then 16 else if sp9_ w p [97, 103, 101, 110, 99, 121] = true then 17 else 99) else if n = 7 then (if sp9_ w p [115, 111, 117, 114, 99, 101, 115] = true then 19 else 99) else 99
def wv9_ (w : Nat → Nat) (p q : Nat) : Nat := if tD (w q) = true then (if q = p + 1 ∧ w p = 107 then w q - 48 else 99) else wc9_ w p (q - p)
/-- a number's value: its first four digits -/
def nv9_ (w : Nat → Nat) (p : Nat) : Nat → Nat
  | 0 => 0
  | n + 1 => if n < 4 then 10 * nv9_ w p n + (w (p + n) - 48) else nv9_ w p n
/-- a token: its sort (0 bad, 1 end, 2 number, 3 sign, 4 word), its value, its place, what is behind it -/
abbrev TK : Type := Nat × Nat × Nat × Nat
def tkp_ (w : Nat → Nat) (p : Nat) : TK := if w p = 999 then (1, 0, p, p) else if tL (w p) = true then ((if en9_ tL w 500 p - p ≤ 8 then 4 else 0), wv9_ w p (en9_ tL w 500 p), p, (if tD (w (en9_ tL w 500 p)) = true then en9_ tL w 500 p + 1 else en9_ tL w 500 p)) else if tD (w p) = true then ((if en9_ tD w 500 p - p < 5 then 2 else 0), nv9_ w p (en9_ tD w 500 p - p), p, en9_ tD w 500 p) else if tM (w p) = true then (3, w p, p, p + 1) else (0, 0, p, p)
def tz_ (w : Nat → Nat) (a : Nat) : TK := tkp_ w (en9_ tS w 500 a)
abbrev FT : Type := Nat × Nat
def eb_ {β γ : Type} (x : FT ⊕ β) (k : β → FT ⊕ γ) : FT ⊕ γ := match x with
  | .inl e => .inl e
  | .inr b => k b
theorem eb_l {β γ : Type} {e : FT} {k : β → FT ⊕ γ} : eb_ (.inl e) k = .inl e := rfl
theorem eb_r {β γ : Type} {b : β} {k : β → FT ⊕ γ} : eb_ (.inr b) k = k b := rfl
def nm9_ (r : Bool) (c : Nat) : Bool := if r = true then decide (c = 10) || (decide (13 ≤ c) && decide (c ≤ 20)) else decide (c ≤ 13)
/-- is the token at a this sign, this word -/
def isS_ (w : Nat → Nat) (a c : Nat) : Bool := decide ((tz_ w a).1 = 3) && decide ((tz_ w a).2.1 = c)
def isW_ (w : Nat → Nat) (a c : Nat) : Bool := decide ((tz_ w a).1 = 4) && decide ((tz_ w a).2.1 = c)
def nx9_ (w : Nat → Nat) (a : Nat) : Nat := (tz_ w a).2.2.2
def pl9_ (w : Nat → Nat) (a : Nat) : Nat := (tz_ w a).2.2.1
/-- an item of a sum: taken away or not; 1 a number, 2 a name; which -/
abbrev IT : Type := Bool × Nat × Nat
/-- a term: where next, how many terms, the kinds seen, the item -/
def pT_ (w : Nat → Nat) (r : Bool) (a t : Nat) (k : Int32) : FT ⊕ (Nat × Nat × Int32 × Nat × Nat) :=
  if ((tz_ w a).1 = 2 ∨ (tz_ w a).1 = 4) ∧ ¬ ((tz_ w a).1 = 4 ∧ 21 ≤ (tz_ w a).2.1 ∧ (tz_ w a).2.1 ≤ 27) then
    if (tz_ w a).1 = 4 ∧ nm9_ r (tz_ w a).2.1 = false then .inl (2, pl9_ w a)
    else if t = 30 then .inl (3, pl9_ w a)
    else .inr (nx9_ w a, t + 1, (if (tz_ w a).1 = 4 ∧ (tz_ w a).2.1 < 10 then k ||| ((1 : Int32) <<< (nI (tz_ w a).2.1 &&& 31)) else k), (if (tz_ w a).1 = 2 then 1 else 2), (tz_ w a).2.1)
  else .inl (1, pl9_ w a)
def pL_ (w : Nat → Nat) (r : Bool) : Nat → Nat → Nat → Int32 → List IT → FT ⊕ (Nat × Nat × Int32 × List IT)
  | 0, _, _, _, _ => .inl (9, 9)
  | f + 1, a, t, k, l => if isS_ w a 43 = true then eb_ (pT_ w r (nx9_ w a) t k) (fun x => pL_ w r f x.1 x.2.1 x.2.2.1 (l ++ [(false, x.2.2.2)])) else if isS_ w a 45 = true then eb_ (pT_ w r (nx9_ w a) t k) (fun x => pL_ w r f x.1 x.2.1 x.2.2.1 (l ++ [(true, x.2.2.2)])) else .inr (a, t, k, l)
def pS_ (w : Nat → Nat) (r : Bool) (a t : Nat) (k : Int32) : FT ⊕ (Nat × Nat × Int32 × List IT) := eb_ (pT_ w r a t k) (fun x => pL_ w r 40 x.1 x.2.1 x.2.2.1 [(false, x.2.2.2)])
/-- a bare question: 6 two sums compared, 8 has, 9 stale, 10 dead -/
abbrev BA : Type := Nat × Nat × List IT × List IT
def pB_ (w : Nat → Nat) (r : Bool) (a t : Nat) (k : Int32) : FT ⊕ (Nat × Nat × Int32 × BA) :=
  if r = false ∧ (isW_ w a 25 = true ∨ isW_ w a 26 = true) then
    if (tz_ w (nx9_ w a)).1 = 4 ∧ (tz_ w (nx9_ w a)).2.1 < 10 then .inr (nx9_ w (nx9_ w a), t, k ||| ((1 : Int32) <<< (nI (tz_ w (nx9_ w a)).2.1 &&& 31)), (if isW_ w a 25 = true then 8 else 9), (tz_ w (nx9_ w a)).2.1, [], [])
    else .inl (1, pl9_ w (nx9_ w a))
  else if r = false ∧ isW_ w a 27 = true then .inr (nx9_ w a, t, k, 10, 0, [], [])
  else eb_ (pS_ w r a t k) (fun x =>
    if isS_ w x.1 60 = true ∨ isS_ w x.1 61 = true ∨ isS_ w x.1 62 = true then
      eb_ (pS_ w r (nx9_ w x.1) x.2.1 x.2.2.1) (fun z => .inr (z.1, z.2.1, z.2.2.1, 6, (tz_ w x.1).2.1, x.2.2.2, z.2.2.2))
    else .inl (1, pl9_ w x.1))
def pN_ (w : Nat → Nat) : Nat → Nat → Nat → Nat × Nat
  | 0, a, c => (a, c)
  | f + 1, a, c => if isW_ w a 24 = true then pN_ w f (nx9_ w a) (c + 1) else (a, c)
/-- one question, turned so many times -/
abbrev ON : Type := Nat × BA
def pO_ (w : Nat → Nat) (r : Bool) (a t : Nat) (k : Int32) : FT ⊕ (Nat × Nat × Int32 × ON) := eb_ (pB_ w r (pN_ w 500 a 0).1 t k) (fun x => .inr (x.1, x.2.1, x.2.2.1, (pN_ w 500 a 0).2, x.2.2.2))
def pJ_ (w : Nat → Nat) (r : Bool) (j : Nat) : Nat → Nat → Nat → Int32 → List ON → FT ⊕ (Nat × Nat × Int32 × List ON)
  | 0, _, _, _, _ => .inl (9, 9)
  | f + 1, a, t, k, l => if isW_ w a j = true then eb_ (pO_ w r (nx9_ w a) t k) (fun x => pJ_ w r j f x.1 x.2.1 x.2.2.1 (l ++ [x.2.2.2])) else .inr (a, t, k, l)
/-- a test: how it is joined (0 not, 1 and, 2 or), its questions -/
def pE_ (w : Nat → Nat) (r : Bool) (a t : Nat) (k : Int32) : FT ⊕ (Nat × Nat × Int32 × Nat × ON × List ON) := eb_ (pO_ w r a t k) (fun x =>
  if isW_ w x.1 22 = true then eb_ (pJ_ w r 22 500 x.1 x.2.1 x.2.2.1 []) (fun z => .inr (z.1, z.2.1, z.2.2.1, 1, x.2.2.2, z.2.2.2))
  else if isW_ w x.1 23 = true then eb_ (pJ_ w r 23 500 x.1 x.2.1 x.2.2.1 []) (fun z => .inr (z.1, z.2.1, z.2.2.1, 2, x.2.2.2, z.2.2.2))
  else .inr (x.1, x.2.1, x.2.2.1, 0, x.2.2.2, []))
/-- WHAT IS KNOWN while printing: names, told, stale, dead -/
abbrev EV9 : Type := (Nat → Int32) × (Nat → Bool) × (Nat → Bool) × Bool
def iv9_ (E : EV9) (i : IT) : Int32 := if i.1 = true then -(if i.2.1 = 1 then nI i.2.2 else E.1 i.2.2) else (if i.2.1 = 1 then nI i.2.2 else E.1 i.2.2)
def sv9_ (E : EV9) : List IT → Int32 → Int32
  | [], s => s
  | i :: l, s => sv9_ E l (s + iv9_ E i)
def cm9_ (c : Nat) (a b : Int32) : Bool := if c = 60 then decide (a < b) else if c = 62 then decide (b < a) else decide (a = b)
def bz9_ (E : EV9) (b : BA) : Bool := if b.1 = 6 then cm9_ b.2.1 (sv9_ E b.2.2.1 0) (sv9_ E b.2.2.2 0) else if b.1 = 8 then E.2.1 b.2.1 else if b.1 = 9 then E.2.2.1 b.2.1 else E.2.2.2
def ov9_ (E : EV9) (o : ON) : Bool := bz9_ E o.2 != decide (o.1 % 2 = 1)
def jv9_ (E : EV9) (j : Nat) : List ON → Bool → Bool
  | [], v => v
  | o :: l, v => jv9_ E j l (if j = 1 then v && ov9_ E o else v || ov9_ E o)
def ev9_ (E : EV9) (j : Nat) (o : ON) (l : List ON) : Bool := jv9_ E j l (ov9_ E o)
/-- STEPS, as the class keeps them: what, and of what -/
abbrev SP : Type := Nat × Nat
def is9_ : List IT → List SP
  | [] => []
  | i :: l => (if i.1 = true then [(3, 0), (i.2.1, i.2.2)] else [(i.2.1, i.2.2)]) ++ is9_ l
def bs9_ (b : BA) : List SP := if b.1 = 6 then is9_ b.2.2.1 ++ ((5, b.2.1) :: (is9_ b.2.2.2 ++ [(6, 0)])) else [(b.1, b.2.1)]
def os9_ (o : ON) : List SP := List.replicate o.1 (7, 0) ++ bs9_ o.2
def js9_ (j : Nat) : List ON → List SP
  | [] => []
  | o :: l => (12, j) :: (os9_ o ++ js9_ j l)
def es9_ (j : Nat) (o : ON) (l : List ON) : List SP := os9_ o ++ js9_ j l
/-- a number's digits -/
def dn9_ (n : Nat) : List Nat := (([1000000, 100000, 10000, 1000, 100, 10, 1] : List Nat).filter (fun u => decide (u ≤ n) || decide (u = 1))).map (fun u => 48 + n / u % 10)
def dg9_ (v : Int32) : List Nat := if v < 0 then 45 :: dn9_ (-v).toNatClampNeg else dn9_ v.toNatClampNeg
/-- counters of a text: pieces, terms, kinds -/
abbrev CT : Type := Nat × Nat × Int32
def bl9_ (w : Nat → Nat) (a n : Nat) : List Nat := (List.range n).map (fun i => w (a + i))
abbrev RT : Type := FT ⊕ (Nat × CT × List SP × List Nat)
def pG_ (E : EV9) (w : Nat → Nat) (slf : Nat → Nat → CT → Nat → RT) (d first : Nat) : Nat → Nat → CT → Nat → List SP → List Nat → RT
  | 0, _, _, _, _, _ => .inl (9, 9)
  | f + 1, a, c, o, ss, out =>
    if w a = 999 ∨ w a = 125 ∨ w a = 124 then (if a = first then .inl (1, a) else .inr (a, c, ss, out))
    else if w a ≠ 123 ∧ tP (w a) = false then .inl (1, a)
    else if c.1 = 60 then .inl (3, a)
    else if w a ≠ 123 then pG_ E w slf d first f (en9_ tP w 500 a) (c.1 + 1, c.2) (o + (en9_ tP w 500 a - a)) (ss ++ (bl9_ w a (en9_ tP w 500 a - a)).map (fun b => (0, b))) (out ++ bl9_ w a (en9_ tP w 500 a - a))
    else if isW_ w (a + 1) 21 = false then
      eb_ (pS_ w false (a + 1) c.2.1 c.2.2) (fun x =>
        if isS_ w x.1 125 = true then pG_ E w slf d first f (nx9_ w x.1) (c.1 + 1, x.2.1, x.2.2.1) (o + (is9_ x.2.2.2).length + 1) (ss ++ (is9_ x.2.2.2 ++ [(4, 0)])) (out ++ dg9_ (sv9_ E x.2.2.2 0))
        else .inl (1, pl9_ w x.1))
    else if d = 5 then .inl (3, a)
    else eb_ (pE_ w false (nx9_ w (a + 1)) c.2.1 c.2.2) (fun x =>
      if isS_ w x.1 58 = true then
        eb_ (slf (d + 1) (nx9_ w x.1) (c.1 + 1, x.2.1, x.2.2.1) (o + 2 + (es9_ x.2.2.2.1 x.2.2.2.2.1 x.2.2.2.2.2).length)) (fun u =>
          if w u.1 = 124 then
            eb_ (slf (d + 1) (u.1 + 1) u.2.1 (o + 3 + (es9_ x.2.2.2.1 x.2.2.2.2.1 x.2.2.2.2.2).length + u.2.2.1.length)) (fun v =>
              if w v.1 = 125 then pG_ E w slf d first f (v.1 + 1) v.2.1 (o + 3 + (es9_ x.2.2.2.1 x.2.2.2.2.1 x.2.2.2.2.2).length + u.2.2.1.length + v.2.2.1.length)
                (ss ++ ((11, 0) :: (es9_ x.2.2.2.1 x.2.2.2.2.1 x.2.2.2.2.2 ++ ((13, o + 3 + (es9_ x.2.2.2.1 x.2.2.2.2.1 x.2.2.2.2.2).length + u.2.2.1.length) :: (u.2.2.1 ++ ((14, o + 3 + (es9_ x.2.2.2.1 x.2.2.2.2.1 x.2.2.2.2.2).length + u.2.2.1.length + v.2.2.1.length) :: v.2.2.1))))))
                (out ++ (if ev9_ E x.2.2.2.1 x.2.2.2.2.1 x.2.2.2.2.2 = true then u.2.2.2 else v.2.2.2))
              else .inl (1, v.1))
          else if w u.1 = 125 then pG_ E w slf d first f (u.1 + 1) u.2.1 (o + 2 + (es9_ x.2.2.2.1 x.2.2.2.2.1 x.2.2.2.2.2).length + u.2.2.1.length)
                (ss ++ ((11, 0) :: (es9_ x.2.2.2.1 x.2.2.2.2.1 x.2.2.2.2.2 ++ ((13, o + 2 + (es9_ x.2.2.2.1 x.2.2.2.2.1 x.2.2.2.2.2).length + u.2.2.1.length) :: u.2.2.1))))
                (out ++ (if ev9_ E x.2.2.2.1 x.2.2.2.2.1 x.2.2.2.2.2 = true then u.2.2.2 else []))
          else .inl (1, u.1))
      else .inl (1, pl9_ w x.1))
/-- a text: how deep it may lie, how deep it lies, where it begins, its counters, at which step it begins -/
def pX_ (E : EV9) (w : Nat → Nat) : Nat → Nat → Nat → CT → Nat → RT
  | 0, _, _, _, _ => .inl (9, 9)
  | l + 1, d, a, c, o => pG_ E w (pX_ E w l) d a 100 a c o [] []
/-- A PARAGRAPH of n bytes -/
def pP_ (E : EV9) (w : Nat → Nat) (n : Nat) : RT := eb_ (pX_ E w 12 0 0 (0, 0, 0) 0) (fun x => if n ≤ x.1 then .inr x else .inl (1, x.1))
/-- A RULE -/
def pR_ (E : EV9) (w : Nat → Nat) : FT ⊕ (Int32 × List SP × Bool) := eb_ (pE_ w true 0 0 0) (fun x => if (tz_ w x.1).1 = 1 then .inr (x.2.2.1, es9_ x.2.2.2.1 x.2.2.2.2.1 x.2.2.2.2.2, ev9_ E x.2.2.2.1 x.2.2.2.2.1 x.2.2.2.2.2) else .inl (1, pl9_ w x.1))
