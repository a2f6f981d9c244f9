/-! THE CLASS'S READER, PURE: bare questions. Written by wip/b/mk95.py. -/
section RNB
variable {r : Bool} {w : Nat → Nat} {n : Nat} {m M : MM} {a : Nat} {k : Int32} {tt c1 : Nat} {z : TK}
/-- a comparison may be closed at once -/
theorem tr_cl (h10 : ms_ m = 10) (hz : ¬ (z.1 = 3 ∧ (z.2.1 = 43 ∨ z.2.1 = 45))) : tr9_ r m z = tr9_ r (mcl_ m) z := by
  have e : mcl_ m = mst_ m 11 [(6, 0)] := if_pos h10
  have e2 : mcl_ (mst_ m 11 [(6, 0)]) = mst_ m 11 [(6, 0)] := if_neg (show ¬ 11 = 10 by decide)
  have s1 : ms_ (mst_ m 11 [(6, 0)]) = 11 := rfl
  have t1 : mtc_ (ms_ m) = false := by rw [h10]; rfl
  have t2 : mtc_ 11 = false := rfl
  unfold tr9_
  rw [e, e2, s1, t1, t2]
  by_cases z2 : z.1 = 2
  · rw [if_pos z2, if_pos z2, if_neg (by decide), if_neg (by decide)]
  rw [if_neg z2, if_neg z2]
  by_cases z3 : z.1 = 3
  · rw [if_pos z3, if_pos z3, if_neg (fun q => hz ⟨z3, q⟩), if_neg (fun q => hz ⟨z3, q⟩)]
    rw [if_neg (show ¬ ms_ m = 9 by omega), if_neg (show ¬ 11 = 9 by decide), if_neg (show ¬ ms_ m = 8 by omega), if_neg (show ¬ 11 = 8 by decide)]
    rfl
  rw [if_neg z3, if_neg z3]
  by_cases z4 : z.1 = 4
  · rw [if_pos z4, if_pos z4, if_neg (show ¬ (ms_ m = 3 ∨ ms_ m = 4) by omega), if_neg (show ¬ (11 = 3 ∨ 11 = 4) by decide)]
    by_cases q1 : z.2.1 = 22 ∨ z.2.1 = 23
    · rw [if_pos q1, if_pos q1]; rfl
    rw [if_neg q1, if_neg q1, if_neg (show ¬ (z.2.1 = 21 ∧ ms_ m = 1) by omega), if_neg (show ¬ (z.2.1 = 21 ∧ 11 = 1) by omega), if_neg (show ¬ (24 ≤ z.2.1 ∧ z.2.1 ≤ 27 ∧ ms_ m = 2 ∧ (z.2.1 = 24 ∨ r = false)) by omega), if_neg (show ¬ (24 ≤ z.2.1 ∧ z.2.1 ≤ 27 ∧ 11 = 2 ∧ (z.2.1 = 24 ∨ r = false)) by omega), if_pos (Or.inr rfl), if_pos (Or.inr rfl)]
  · rw [if_neg z4, if_neg z4]
theorem isS_no {w : Nat → Nat} {a c : Nat} (h : isS_ w a c = false) : ¬ ((tz_ w a).1 = 3 ∧ (tz_ w a).2.1 = c) := by
  intro q
  have : isS_ w a c = true := by simp [isS_, q.1, q.2]
  rw [this] at h; cases h
theorem rN_cl (hw : wn_ w n) (ha : a ≤ n) (h10 : ms_ m = 10) (h43 : isS_ w a 43 = false) (h45 : isS_ w a 45 = false) : rN_ r w n m a = rN_ r w n (mcl_ m) a := by
  have e : mcl_ m = mst_ m 11 [(6, 0)] := if_pos h10
  have e2 : mcl_ (mst_ m 11 [(6, 0)]) = mst_ m 11 [(6, 0)] := if_neg (show ¬ 11 = 10 by decide)
  have s1 : ms_ (mst_ m 11 [(6, 0)]) = 11 := rfl
  by_cases z1 : (tz_ w a).1 = 1
  · unfold rN_ rn_
    rw [e, s1, if_neg (show ¬ ms_ m = 0 by omega), if_neg (show ¬ 11 = 0 by decide), if_pos z1, if_pos z1]
    unfold fin9_
    rw [e, e2, s1]
    by_cases q : r = true
    · rw [if_pos q, if_pos q]
    · rw [if_neg q, if_neg q, if_neg (show ¬ (ms_ m = 0 ∧ md9_ m = 0 ∧ ml_ m ≠ 0) by omega), if_neg (fun z => absurd z.1 (by decide))]
  · rw [rN_t hw ha (by omega) z1, rN_t (m := mcl_ m) hw ha (by rw [e, s1]; decide) z1, tr_cl h10]
    intro q
    rcases q.2 with q2 | q2
    · exact isS_no h43 ⟨q.1, q2⟩
    · exact isS_no h45 ⟨q.1, q2⟩
/-- a kind is wanted -/
theorem tr_34 (hs : ms_ m = 3 ∨ ms_ m = 4) (hz : ¬ (z.1 = 4 ∧ z.2.1 < 10)) : tr9_ r m z = .inl (1, z.2.2.1) := by
  have e : mcl_ m = m := if_neg (by omega)
  have t1 : mtc_ (ms_ m) = false := by rcases hs with q | q <;> (rw [q]; rfl)
  unfold tr9_
  rw [e, t1]
  by_cases z2 : z.1 = 2
  · rw [if_pos z2, if_neg (by decide)]
  rw [if_neg z2]
  by_cases z3 : z.1 = 3
  · rw [if_pos z3, if_neg (show ¬ (8 ≤ ms_ m ∧ ms_ m ≤ 10) by omega), if_neg (show ¬ ms_ m = 9 by omega), if_neg (show ¬ ms_ m = 8 by omega), if_neg (show ¬ (ms_ m = 11 ∧ r = false ∧ md9_ m < 5) by omega)]
    repeat' split
    all_goals rfl
  rw [if_neg z3]
  by_cases z4 : z.1 = 4
  · rw [if_pos z4, if_pos hs, if_neg (fun q => hz ⟨z4, q⟩)]
  · rw [if_neg z4]
/-- a relation is wanted -/
theorem tr_9 (hs : ms_ m = 9) (hz : ¬ (z.1 = 3 ∧ (z.2.1 = 43 ∨ z.2.1 = 45 ∨ z.2.1 = 60 ∨ z.2.1 = 61 ∨ z.2.1 = 62))) : tr9_ r m z = .inl (1, z.2.2.1) := by
  have e : mcl_ m = m := if_neg (by omega)
  have t1 : mtc_ (ms_ m) = false := by rw [hs]; rfl
  unfold tr9_
  rw [e, t1]
  by_cases z2 : z.1 = 2
  · rw [if_pos z2, if_neg (by decide)]
  rw [if_neg z2]
  by_cases z3 : z.1 = 3
  · rw [if_pos z3, if_neg (show ¬ (z.2.1 = 43 ∨ z.2.1 = 45) by omega), if_neg (show ¬ (z.2.1 = 60 ∨ z.2.1 = 61 ∨ z.2.1 = 62) by omega), if_neg (show ¬ ms_ m = 8 by omega), if_neg (show ¬ (ms_ m = 11 ∧ r = false ∧ md9_ m < 5) by omega)]
    repeat' split
    all_goals rfl
  rw [if_neg z3]
  by_cases z4 : z.1 = 4
  · rw [if_pos z4, if_neg (show ¬ (ms_ m = 3 ∨ ms_ m = 4) by omega), if_neg (show ¬ (ms_ m = 11 ∧ (mj_ m = 0 ∨ mj_ m = z.2.1 - 21)) by omega), if_neg (show ¬ (z.2.1 = 21 ∧ ms_ m = 1) by omega), if_neg (show ¬ (24 ≤ z.2.1 ∧ z.2.1 ≤ 27 ∧ ms_ m = 2 ∧ (z.2.1 = 24 ∨ r = false)) by omega), if_pos (Or.inr rfl)]
    split <;> rfl
  · rw [if_neg z4]
theorem isW_no {w : Nat → Nat} {a c : Nat} (h : ¬ isW_ w a c = true) : ¬ ((tz_ w a).1 = 4 ∧ (tz_ w a).2.1 = c) := by
  intro q
  exact h (by simp [isW_, q.1, q.2])
theorem isW_v {w : Nat → Nat} {a c : Nat} (h : isW_ w a c = true) : (tz_ w a).2.1 = c := by
  simp [isW_] at h; exact h.2
/-- A BARE QUESTION -/
theorem rN_B (hw : wn_ w n) (ha : a ≤ n) (ht : mc_ m = (c1, tt, k)) (h2 : ms_ m = 2) (hno : ¬ isW_ w a 24 = true) (h30 : tt ≤ 30) : rN_ r w n m a = eb_ (pB_ w r a tt k) (fun x => rN_ r w n (mct_ (mst_ m 11 (bs9_ x.2.2.2)) (c1, x.2.1, x.2.2.1)) x.1) := by
  have l1 := tz_le hw.1 ha
  have e1 : (mc_ m).1 = c1 := by rw [ht]
  have e2 : (mc_ m).2.1 = tt := by rw [ht]
  have e3 : (mc_ m).2.2 = k := by rw [ht]
  have hs : ∀ (c s : Nat) (l : List SP), r = false → isW_ w a c = true → 25 ≤ c ∧ c ≤ 27 → tr9_ r m (tz_ w a) = (if (tz_ w a).2.1 = 24 then .inr (mst_ m 2 [(7, 0)]) else if (tz_ w a).2.1 = 27 then .inr (mst_ m 11 [(10, 0)]) else if (tz_ w a).2.1 = 25 then .inr (mst_ m 3 []) else .inr (mst_ m 4 [])) := fun c s l hr hc hb => by
    have z4 := isW_4 hc
    have zv := isW_v hc
    unfold tr9_
    rw [if_neg (by omega), if_neg (by omega), if_pos z4, if_neg (by omega), if_neg (by omega), if_neg (by omega), if_pos ⟨by omega, by omega, h2, Or.inr hr⟩]
  have fact : ∀ (c s kd : Nat), (c = 25 ∧ s = 3 ∧ kd = 8) ∨ (c = 26 ∧ s = 4 ∧ kd = 9) → r = false → isW_ w a c = true → rN_ r w n m a = eb_ (if (tz_ w (nx9_ w a)).1 = 4 ∧ (tz_ w (nx9_ w a)).2.1 < 10 then .inr (nx9_ w (nx9_ w a), tt, k ||| ((1 : Int32) <<< (nI (tz_ w (nx9_ w a)).2.1 &&& 31)), kd, (tz_ w (nx9_ w a)).2.1, [], []) else .inl (1, pl9_ w (nx9_ w a))) (fun x => rN_ r w n (mct_ (mst_ m 11 (bs9_ x.2.2.2)) (c1, x.2.1, x.2.2.1)) x.1) := fun c s kd hc hr hz => by
    have z4 := isW_4 hz
    have zv := isW_v hz
    have l2 := tz_le hw.1 l1.2.2.1
    have et : tr9_ r m (tz_ w a) = .inr (mst_ m s []) := by
      rw [hs c s [] hr hz (by omega), if_neg (by omega), if_neg (by omega)]
      rcases hc with ⟨q1, q2, q3⟩ | ⟨q1, q2, q3⟩
      · rw [if_pos (by omega), q2]
      · rw [if_neg (by omega), q2]
    rw [rN_t hw ha (by omega) (by omega), et, eb_r]
    obtain ⟨m1, hm1⟩ : ∃ m1, m1 = mst_ m s [] := ⟨_, rfl⟩
    have s1 : ms_ m1 = s := by rw [hm1]; rfl
    have s34 : ms_ m1 = 3 ∨ ms_ m1 = 4 := by omega
    have hc1 : mc_ m1 = mc_ m := by rw [hm1]; rfl
    rw [← hm1]
    by_cases zf : (tz_ w (nx9_ w a)).1 = 4 ∧ (tz_ w (nx9_ w a)).2.1 < 10
    · rw [if_pos zf, eb_r, rN_t hw l1.2.2.1 (by omega) (by omega)]
      have et2 : tr9_ r m1 (tz_ w (nx9_ w a)) = .inr (mct_ (mst_ m 11 [(kd, (tz_ w (nx9_ w a)).2.1)]) (c1, tt, k ||| ((1 : Int32) <<< (nI (tz_ w (nx9_ w a)).2.1 &&& 31)))) := by
        unfold tr9_
        rw [if_neg (by omega), if_neg (by omega), if_pos zf.1, if_pos s34, if_pos zf.2, hc1, e1, e2, e3, s1, hm1]
        rcases hc with ⟨q1, q2, q3⟩ | ⟨q1, q2, q3⟩
        · rw [if_pos q2, q3]; simp [mct_, mst_]
        · rw [if_neg (by omega), q3]; simp [mct_, mst_]
      rw [et2, eb_r]
      rcases hc with ⟨q1, q2, q3⟩ | ⟨q1, q2, q3⟩
      · subst q3; rfl
      · subst q3; rfl
    · rw [if_neg zf, eb_l]
      by_cases z1 : (tz_ w (nx9_ w a)).1 = 1
      · exact rN_e hw l1.2.2.1 (by omega) (fun q => by rw [hr] at q; cases q) z1
      · rw [rN_t hw l1.2.2.1 (by omega) z1, tr_34 s34 zf, eb_l]; rfl
  have big : (r = false → ¬ isW_ w a 25 = true ∧ ¬ isW_ w a 26 = true ∧ ¬ isW_ w a 27 = true) → rN_ r w n m a = eb_ (eb_ (pS_ w r a tt k) (fun x =>
    if isS_ w x.1 60 = true ∨ isS_ w x.1 61 = true ∨ isS_ w x.1 62 = true then
      eb_ (pS_ w r (nx9_ w x.1) x.2.1 x.2.2.1) (fun z => .inr (z.1, z.2.1, z.2.2.1, 6, (tz_ w x.1).2.1, x.2.2.2, z.2.2.2))
    else .inl (1, pl9_ w x.1))) (fun x => rN_ r w n (mct_ (mst_ m 11 (bs9_ x.2.2.2)) (c1, x.2.1, x.2.2.1)) x.1) := fun hq => by
    rw [rN_S hw ha ht (by rw [h2]; rfl) (fun q => by omega) (fun _ q => by
      by_cases q24 : (tz_ w a).2.1 = 24
      · exact isW_no hno ⟨q.1, q24⟩
      · have hr : r = false := q.2.2.2.resolve_left q24
        obtain ⟨p1, p2, p3⟩ := hq hr
        rcases (show (tz_ w a).2.1 = 25 ∨ (tz_ w a).2.1 = 26 ∨ (tz_ w a).2.1 = 27 by omega) with u | u | u
        · exact isW_no p1 ⟨q.1, u⟩
        · exact isW_no p2 ⟨q.1, u⟩
        · exact isW_no p3 ⟨q.1, u⟩) h30, eb_as]
    refine eb_cong (fun x hx => ?_)
    obtain ⟨x1, x2, x3, x4, x5⟩ := pS_end hw ha h30 hx
    have lx := tz_le hw.1 x1
    have em : maf_ (ms_ m) = 9 := by rw [h2]; rfl
    rw [em]
    obtain ⟨m9, hm9⟩ : ∃ m9, m9 = mct_ (mst_ m 9 (is9_ x.2.2.2)) (c1, x.2.1, x.2.2.1) := ⟨_, rfl⟩
    have s9 : ms_ m9 = 9 := by rw [hm9]; rfl
    rw [← hm9]
    by_cases zr : isS_ w x.1 60 = true ∨ isS_ w x.1 61 = true ∨ isS_ w x.1 62 = true
    · have z3 : (tz_ w x.1).1 = 3 := by rcases zr with q | q | q <;> exact isS_3 q
      have zv : (tz_ w x.1).2.1 = 60 ∨ (tz_ w x.1).2.1 = 61 ∨ (tz_ w x.1).2.1 = 62 := by
        rcases zr with q | q | q
        · exact Or.inl (isS_v q)
        · exact Or.inr (Or.inl (isS_v q))
        · exact Or.inr (Or.inr (isS_v q))
      have et : tr9_ r m9 (tz_ w x.1) = .inr (mst_ m9 7 [(5, (tz_ w x.1).2.1)]) := by
        unfold tr9_
        rw [if_neg (by omega), if_pos z3, if_neg (by omega), if_pos zv, if_pos s9]
      rw [if_pos zr, rN_t hw x1 (by omega) (by omega), et, eb_r]
      obtain ⟨m7, hm7⟩ : ∃ m7, m7 = mst_ m9 7 [(5, (tz_ w x.1).2.1)] := ⟨_, rfl⟩
      have s7 : ms_ m7 = 7 := by rw [hm7]; rfl
      have hc7 : mc_ m7 = (c1, x.2.1, x.2.2.1) := by rw [hm7, hm9]; rfl
      rw [← hm7, rN_S hw lx.2.2.1 hc7 (by rw [s7]; rfl) (fun q => by omega) (fun q => by omega) x3, eb_as]
      refine eb_cong (fun z hz => ?_)
      obtain ⟨z1, z2, z3, z4, z5⟩ := pS_end hw lx.2.2.1 x3 hz
      have em7 : maf_ (ms_ m7) = 10 := by rw [s7]; rfl
      rw [em7, eb_r, rN_cl hw z1 (show ms_ (mct_ (mst_ m7 10 (is9_ z.2.2.2)) (c1, z.2.1, z.2.2.1)) = 10 from rfl) z4 z5]
      have ef : mcl_ (mct_ (mst_ m7 10 (is9_ z.2.2.2)) (c1, z.2.1, z.2.2.1)) = mct_ (mst_ m 11 (bs9_ (6, (tz_ w x.1).2.1, x.2.2.2, z.2.2.2))) (c1, z.2.1, z.2.2.1) := by
        have : mcl_ (mct_ (mst_ m7 10 (is9_ z.2.2.2)) (c1, z.2.1, z.2.2.1)) = mst_ (mct_ (mst_ m7 10 (is9_ z.2.2.2)) (c1, z.2.1, z.2.2.1)) 11 [(6, 0)] := if_pos rfl
        rw [this, hm7, hm9]
        simp [mct_, mst_, bs9_]
      rw [ef]
    · rw [if_neg zr, eb_l]
      have nz : ¬ ((tz_ w x.1).1 = 3 ∧ ((tz_ w x.1).2.1 = 43 ∨ (tz_ w x.1).2.1 = 45 ∨ (tz_ w x.1).2.1 = 60 ∨ (tz_ w x.1).2.1 = 61 ∨ (tz_ w x.1).2.1 = 62)) := fun q => by
        rcases q.2 with u | u | u | u | u
        · exact isS_no x4 ⟨q.1, u⟩
        · exact isS_no x5 ⟨q.1, u⟩
        · exact zr (Or.inl (by simp [isS_, q.1, u]))
        · exact zr (Or.inr (Or.inl (by simp [isS_, q.1, u])))
        · exact zr (Or.inr (Or.inr (by simp [isS_, q.1, u])))
      by_cases z1 : (tz_ w x.1).1 = 1
      · exact rN_e hw x1 (by omega) (fun _ => by omega) z1
      · rw [rN_t hw x1 (by omega) z1, tr_9 s9 nz, eb_l]; rfl
  unfold pB_
  by_cases hr : r = false
  · by_cases c25 : isW_ w a 25 = true
    · rw [if_pos ⟨hr, Or.inl c25⟩, if_pos c25]
      exact fact 25 3 8 (Or.inl ⟨rfl, rfl, rfl⟩) hr c25
    · by_cases c26 : isW_ w a 26 = true
      · rw [if_pos ⟨hr, Or.inr c26⟩, if_neg c25]
        exact fact 26 4 9 (Or.inr ⟨rfl, rfl, rfl⟩) hr c26
      · rw [if_neg (fun q => q.2.elim c25 c26)]
        by_cases c27 : isW_ w a 27 = true
        · have z4 := isW_4 c27
          have zv := isW_v c27
          rw [if_pos ⟨hr, c27⟩, eb_r, rN_t hw ha (by omega) (by omega), hs 27 0 [] hr c27 (by omega), if_neg (by omega), if_pos zv, eb_r]
          have : mst_ m 11 [(10, 0)] = mct_ (mst_ m 11 (bs9_ (10, 0, [], []))) (c1, tt, k) := by
            rw [← ht]; rfl
          rw [this]
        · rw [if_neg (fun q => c27 q.2)]
          exact big (fun _ => ⟨c25, c26, c27⟩)
  · rw [if_neg (fun q => hr q.1), if_neg (fun q => hr q.1)]
    exact big (fun q => absurd q hr)
end RNB
