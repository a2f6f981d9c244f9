/-! THE CLASS'S READER, PURE: where it stands, what a token does, what a plain byte does. Written by wip/b/mk93.py. -/
/-- where reading stands: state, join, last, brace, depth; elses; skips; counters; steps -/
abbrev MM : Type := (Nat × Nat × Nat × Nat × Nat) × (Nat → Bool) × (Nat → Nat) × CT × List SP
def ms_ (m : MM) : Nat := m.1.1
def mj_ (m : MM) : Nat := m.1.2.1
def ml_ (m : MM) : Nat := m.1.2.2.1
def mb_ (m : MM) : Nat := m.1.2.2.2.1
def md9_ (m : MM) : Nat := m.1.2.2.2.2
def mc_ (m : MM) : CT := m.2.2.2.1
def mS_ (m : MM) : List SP := m.2.2.2.2
/-- the state turns, steps are added -/
def mst_ (m : MM) (s : Nat) (l : List SP) : MM := ((s, m.1.2), m.2.1, m.2.2.1, m.2.2.2.1, m.2.2.2.2 ++ l)
def mct_ (m : MM) (c : CT) : MM := (m.1, m.2.1, m.2.2.1, c, m.2.2.2.2)
def mjn_ (m : MM) (j : Nat) : MM := ((m.1.1, j, m.1.2.2), m.2)
/-- a comparison is closed -/
def mcl_ (m : MM) : MM := if ms_ m = 10 then mst_ m 11 [(6, 0)] else m
def mtc_ (s : Nat) : Bool := decide (s = 1) || decide (s = 2) || (decide (5 ≤ s) && decide (s ≤ 7))
def maf_ (s : Nat) : Nat := if s = 1 ∨ s = 5 then 8 else if s = 7 then 10 else 9
def mtt_ (m : MM) (st d pl : Nat) : FT ⊕ MM := if (mc_ m).2.1 = 30 then .inl (3, pl) else .inr (mct_ (mst_ m (maf_ (ms_ m)) [(st, d)]) ((mc_ m).1, (mc_ m).2.1 + 1, (mc_ m).2.2))
/-- a token -/
def tr9_ (r : Bool) (m : MM) (z : TK) : FT ⊕ MM :=
  if z.1 = 2 then (if mtc_ (ms_ m) = true then mtt_ m 1 z.2.1 z.2.2.1 else .inl (1, z.2.2.1))
  else if z.1 = 3 then
    if z.2.1 = 43 ∨ z.2.1 = 45 then (if 8 ≤ ms_ m ∧ ms_ m ≤ 10 then .inr (mst_ m (ms_ m - 3) (if z.2.1 = 45 then [(3, 0)] else [])) else .inl (1, z.2.2.1))
    else if z.2.1 = 60 ∨ z.2.1 = 61 ∨ z.2.1 = 62 then (if ms_ m = 9 then .inr (mst_ m 7 [(5, z.2.1)]) else .inl (1, z.2.2.1))
    else if z.2.1 = 125 then (if ms_ m = 8 then .inr (mst_ m 0 [(4, 0)]) else .inl (1, z.2.2.1))
    else if z.2.1 = 58 then
      (if ms_ (mcl_ m) = 11 ∧ r = false ∧ md9_ m < 5 then .inr ((0, mj_ m, 0, mb_ m, md9_ m + 1), m.2.1, (fun q => if q = md9_ m then (mS_ (mcl_ m)).length else m.2.2.1 q), mc_ m, mS_ (mcl_ m) ++ [(13, 0)]) else .inl (1, z.2.2.1))
    else .inl (1, z.2.2.1)
  else if z.1 = 4 then
    if ms_ m = 3 ∨ ms_ m = 4 then
      (if z.2.1 < 10 then .inr (mct_ (mst_ m 11 [((if ms_ m = 3 then 8 else 9), z.2.1)]) ((mc_ m).1, (mc_ m).2.1, (mc_ m).2.2 ||| ((1 : Int32) <<< (nI z.2.1 &&& 31)))) else .inl (1, z.2.2.1))
    else if z.2.1 = 22 ∨ z.2.1 = 23 then
      (if ms_ (mcl_ m) = 11 ∧ (mj_ m = 0 ∨ mj_ m = z.2.1 - 21) then .inr (mst_ (mjn_ (mcl_ m) (z.2.1 - 21)) 2 [(12, z.2.1 - 21)]) else .inl (1, z.2.2.1))
    else if z.2.1 = 21 ∧ ms_ m = 1 then
      (if 5 ≤ md9_ m then .inl (3, mb_ m) else .inr (mst_ (mjn_ m 0) 2 [(11, 0)]))
    else if 24 ≤ z.2.1 ∧ z.2.1 ≤ 27 ∧ ms_ m = 2 ∧ (z.2.1 = 24 ∨ r = false) then
      (if z.2.1 = 24 then .inr (mst_ m 2 [(7, 0)]) else if z.2.1 = 27 then .inr (mst_ m 11 [(10, 0)]) else if z.2.1 = 25 then .inr (mst_ m 3 []) else .inr (mst_ m 4 []))
    else if (21 ≤ z.2.1 ∧ z.2.1 ≤ 27) ∨ mtc_ (ms_ m) = false then .inl (1, z.2.2.1)
    else if nm9_ r z.2.1 = false then .inl (2, z.2.2.1)
    else mtt_ (mct_ m ((mc_ m).1, (mc_ m).2.1, (if z.2.1 < 10 then (mc_ m).2.2 ||| ((1 : Int32) <<< (nI z.2.1 &&& 31)) else (mc_ m).2.2))) 2 z.2.1 z.2.2.1
  else .inl (1, z.2.2.1)
/-- a skip is aimed at the place behind the last step -/
def aim_ (S : List SP) (i : Nat) : List SP := S.set i ((S.getD i (0, 0)).1, S.length)
def mpc_ (m : MM) (k a : Nat) (K : MM → FT ⊕ MM) : FT ⊕ MM := if (mc_ m).1 = 60 then .inl (3, a) else K ((m.1.1, m.1.2.1, k, m.1.2.2.2), m.2.1, m.2.2.1, ((mc_ m).1 + 1, (mc_ m).2), mS_ m)
/-- a plain byte -/
def tp8_ (m : MM) (a c : Nat) : FT ⊕ MM :=
  if c < 32 ∨ 126 < c then .inl (1, a)
  else if c = 123 then mpc_ m 2 a (fun m => .inr ((1, m.1.2.1, m.1.2.2.1, a, m.1.2.2.2.2), m.2))
  else if c = 124 then
    (if 0 < md9_ m ∧ md9_ m ≤ 5 ∧ ml_ m ≠ 0 ∧ m.2.1 (md9_ m - 1) = false then .inr ((m.1.1, m.1.2.1, 0, m.1.2.2.2), (fun q => if q = md9_ m - 1 then true else m.2.1 q), (fun q => if q = md9_ m - 1 then (mS_ m).length else m.2.2.1 q), mc_ m, aim_ (mS_ m ++ [(14, 0)]) (m.2.2.1 (md9_ m - 1)))
    else .inl (1, a))
  else if c = 125 then
    (if 0 < md9_ m ∧ ml_ m ≠ 0 then .inr ((m.1.1, m.1.2.1, 2, m.1.2.2.2.1, md9_ m - 1), (fun q => if q = md9_ m - 1 then false else m.2.1 q), m.2.2.1, mc_ m, aim_ (mS_ m) (m.2.2.1 (md9_ m - 1)))
    else .inl (1, a))
  else (if ml_ m = 1 then .inr (m.1, m.2.1, m.2.2.1, mc_ m, mS_ m ++ [(0, c)]) else mpc_ m 1 a (fun m => .inr (m.1, m.2.1, m.2.2.1, mc_ m, mS_ m ++ [(0, c)])))
def fin9_ (r : Bool) (n : Nat) (m : MM) : FT ⊕ MM := if r = true then (if ms_ (mcl_ m) = 11 then .inr (mcl_ m) else .inl (1, n)) else if ms_ m = 0 ∧ md9_ m = 0 ∧ ml_ m ≠ 0 then .inr m else .inl (1, n)
/-- THE READER -/
def rn_ (r : Bool) (w : Nat → Nat) (n : Nat) : Nat → MM → Nat → FT ⊕ MM
  | 0, _, _ => .inl (9, 9)
  | f + 1, m, a => if ms_ m = 0 then (if w a = 999 then fin9_ r n m else eb_ (tp8_ m a (w a)) (fun m => rn_ r w n f m (a + 1))) else if (tz_ w a).1 = 1 then fin9_ r n m else eb_ (tr9_ r m (tz_ w a)) (fun m => rn_ r w n f m (nx9_ w a))
section RN
variable {r : Bool} {w : Nat → Nat} {n : Nat} {m : MM} {a : Nat}
theorem tz_end (hw : ∀ k, n ≤ k → w k = 999) (hw2 : ∀ k, k < n → w k < 256) (ha : a ≤ n) (h : (tz_ w a).1 = 1) : pl9_ w a = n := by
  have h1 := en9_le (q := tS) rfl hw (f := 500) ha
  unfold pl9_
  unfold tz_ at h ⊢
  obtain ⟨s, hs⟩ : ∃ s, s = en9_ tS w 500 a := ⟨_, rfl⟩
  rw [← hs] at h h1 ⊢
  unfold tkp_ at h ⊢
  by_cases z9 : w s = 999
  · rw [if_pos z9]
    show s = n
    rcases Nat.lt_or_ge s n with q | q
    · have := hw2 s q; omega
    · omega
  · rw [if_neg z9] at h
    exfalso
    revert h
    repeat' split
    all_goals intro h; cases h
/-- a token is read -/
theorem rn_t {f : Nat} (hs : ms_ m ≠ 0) (h1 : (tz_ w a).1 ≠ 1) : rn_ r w n (f + 1) m a = eb_ (tr9_ r m (tz_ w a)) (fun m => rn_ r w n f m (nx9_ w a)) := by
  conv => lhs; unfold rn_
  rw [if_neg hs, if_neg h1]
/-- the end comes too early -/
theorem rn_e {f : Nat} (hw : ∀ k, n ≤ k → w k = 999) (hw2 : ∀ k, k < n → w k < 256) (ha : a ≤ n) (hs : ms_ m ≠ 0) (h2 : r = true → ms_ m ≠ 10 ∧ ms_ m ≠ 11) (h1 : (tz_ w a).1 = 1) : rn_ r w n (f + 1) m a = .inl (1, pl9_ w a) := by
  rw [tz_end hw hw2 ha h1]
  conv => lhs; unfold rn_
  rw [if_neg hs, if_pos h1]
  unfold fin9_
  by_cases q : r = true
  · obtain ⟨q1, q2⟩ := h2 q
    have e : mcl_ m = m := if_neg q1
    rw [if_pos q, e, if_neg q2]
  · rw [if_neg q, if_neg (fun z => hs z.1)]
/-- a term -/
theorem rn_T {f : Nat} {k : Int32} {tt : Nat} (hw : ∀ k, n ≤ k → w k = 999) (hw2 : ∀ k, k < n → w k < 256) (ha : a ≤ n) (ht : (mc_ m).2 = (tt, k)) (hs : mtc_ (ms_ m) = true) (h1 : ms_ m = 1 → ¬ ((tz_ w a).1 = 4 ∧ (tz_ w a).2.1 = 21)) (h2 : ms_ m = 2 → ¬ ((tz_ w a).1 = 4 ∧ 24 ≤ (tz_ w a).2.1 ∧ (tz_ w a).2.1 ≤ 27 ∧ ((tz_ w a).2.1 = 24 ∨ r = false))) : rn_ r w n (f + 1) m a = eb_ (pT_ w r a tt k) (fun x => rn_ r w n f (mct_ (mst_ m (maf_ (ms_ m)) [x.2.2.2]) ((mc_ m).1, x.2.1, x.2.2.1)) x.1) := by
  have hc1 : (mc_ m).2.1 = tt := by rw [ht]
  have hc2 : (mc_ m).2.2 = k := by rw [ht]
  have hs' : ms_ m = 1 ∨ ms_ m = 2 ∨ (5 ≤ ms_ m ∧ ms_ m ≤ 7) := by simpa [mtc_, or_assoc] using hs
  by_cases z1 : (tz_ w a).1 = 1
  · rw [rn_e hw hw2 ha (by omega) (fun _ => by omega) z1]
    unfold pT_
    rw [if_neg (by omega), eb_l]
  rw [rn_t (by omega) z1]
  unfold tr9_ pT_
  have pl : (tz_ w a).2.2.1 = pl9_ w a := rfl
  by_cases z2 : (tz_ w a).1 = 2
  · rw [if_pos z2, if_pos hs, if_pos ⟨Or.inl z2, by omega⟩, if_neg (by omega)]
    unfold mtt_
    by_cases z30 : tt = 30
    · rw [hc1, if_pos z30, if_pos z30]; rfl
    · rw [hc1, if_neg z30, if_neg z30, eb_r, eb_r, if_pos z2, if_neg (by omega), hc2]
  rw [if_neg z2]
  by_cases z3 : (tz_ w a).1 = 3
  · rw [if_pos z3, if_neg (show ¬ (((tz_ w a).1 = 2 ∨ (tz_ w a).1 = 4) ∧ ¬ ((tz_ w a).1 = 4 ∧ 21 ≤ (tz_ w a).2.1 ∧ (tz_ w a).2.1 ≤ 27)) by omega), eb_l]
    have n11 : mcl_ m = m := if_neg (by omega)
    rw [n11, if_neg (show ¬ (8 ≤ ms_ m ∧ ms_ m ≤ 10) by omega), if_neg (show ¬ ms_ m = 9 by omega), if_neg (show ¬ ms_ m = 8 by omega), if_neg (show ¬ (ms_ m = 11 ∧ r = false ∧ md9_ m < 5) by omega)]
    repeat' split
    all_goals rfl
  rw [if_neg z3]
  by_cases z4 : (tz_ w a).1 = 4
  · rw [if_pos z4, if_neg (show ¬ (ms_ m = 3 ∨ ms_ m = 4) by omega)]
    by_cases k1 : (tz_ w a).2.1 = 22 ∨ (tz_ w a).2.1 = 23
    · have n11 : mcl_ m = m := if_neg (by omega)
      rw [if_pos k1, n11, if_neg (show ¬ (ms_ m = 11 ∧ (mj_ m = 0 ∨ mj_ m = (tz_ w a).2.1 - 21)) by omega), if_neg (by omega)]
      rfl
    rw [if_neg k1, if_neg (show ¬ ((tz_ w a).2.1 = 21 ∧ ms_ m = 1) from fun q => h1 q.2 ⟨z4, q.1⟩), if_neg (show ¬ (24 ≤ (tz_ w a).2.1 ∧ (tz_ w a).2.1 ≤ 27 ∧ ms_ m = 2 ∧ ((tz_ w a).2.1 = 24 ∨ r = false)) from fun q => h2 q.2.2.1 ⟨z4, q.1, q.2.1, q.2.2.2⟩)]
    by_cases k2 : 21 ≤ (tz_ w a).2.1 ∧ (tz_ w a).2.1 ≤ 27
    · rw [if_pos (Or.inl k2), if_neg (fun q => q.2 ⟨z4, k2⟩)]; rfl
    rw [if_neg (fun q => q.elim k2 (fun q => by rw [hs] at q; cases q)), if_pos (show ((tz_ w a).1 = 2 ∨ (tz_ w a).1 = 4) ∧ ¬ ((tz_ w a).1 = 4 ∧ 21 ≤ (tz_ w a).2.1 ∧ (tz_ w a).2.1 ≤ 27) from ⟨Or.inr z4, fun q => k2 q.2⟩)]
    by_cases k3 : nm9_ r (tz_ w a).2.1 = false
    · rw [if_pos k3, if_pos (show (tz_ w a).1 = 4 ∧ nm9_ r (tz_ w a).2.1 = false from ⟨z4, k3⟩)]; rfl
    rw [if_neg k3, if_neg (show ¬ ((tz_ w a).1 = 4 ∧ nm9_ r (tz_ w a).2.1 = false) from fun q => k3 q.2)]
    unfold mtt_
    have e1 : (mc_ (mct_ m ((mc_ m).1, (mc_ m).2.1, if (tz_ w a).2.1 < 10 then (mc_ m).2.2 ||| ((1 : Int32) <<< (nI (tz_ w a).2.1 &&& 31)) else (mc_ m).2.2))) = ((mc_ m).1, (mc_ m).2.1, if (tz_ w a).2.1 < 10 then (mc_ m).2.2 ||| ((1 : Int32) <<< (nI (tz_ w a).2.1 &&& 31)) else (mc_ m).2.2) := rfl
    rw [e1]
    dsimp only
    by_cases z30 : tt = 30
    · rw [hc1, if_pos z30, if_pos z30]; rfl
    · rw [hc1, if_neg z30, if_neg z30, eb_r, eb_r, if_neg (show ¬ (tz_ w a).1 = 2 from z2), hc2]
      by_cases k4 : (tz_ w a).2.1 < 10
      · rw [if_pos k4, if_pos ⟨z4, k4⟩]; rfl
      · rw [if_neg k4, if_neg (fun q => k4 q.2)]; rfl
  · rw [if_neg z4, if_neg (by omega)]; rfl
end RN
