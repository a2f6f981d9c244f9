/-! THE CLASS'S READER, PURE: rules; runs of plain bytes. Written by wip/b/mk97.py. -/
section RNR
variable {r : Bool} {w : Nat → Nat} {n : Nat} {m M : MM} {a : Nat} {k : Int32} {tt c1 : Nat} {z : TK}
theorem pE_end (hw : wn_ w n) (ha : a ≤ n) (h30 : tt ≤ 30) {x : Nat × Nat × Int32 × Nat × ON × List ON} (h : pE_ w r a tt k = .inr x) : (x.1 ≤ n ∧ a < x.1 ∧ x.2.1 ≤ 30) ∧ (x.2.2.2.1 = 0 ∨ x.2.2.2.1 = 1 → isW_ w x.1 22 = false) ∧ (x.2.2.2.1 = 0 ∨ x.2.2.2.1 = 2 → isW_ w x.1 23 = false) ∧ x.2.2.2.1 ≤ 2 := by
  unfold pE_ at h
  cases e : pO_ w r a tt k with
  | inl q => rw [e] at h; cases h
  | inr u =>
    rw [e, eb_r] at h
    obtain ⟨u1, u2, u3⟩ := pO_end hw ha h30 e
    by_cases z1 : isW_ w u.1 22 = true
    · rw [if_pos z1] at h
      cases e2 : pJ_ w r 22 500 u.1 u.2.1 u.2.2.1 [] with
      | inl q => rw [e2] at h; cases h
      | inr v =>
        rw [e2, eb_r] at h
        obtain ⟨v1, v2, v3, v4⟩ := pJ_end hw u1 u3 e2
        cases h
        exact ⟨⟨v1, by show a < v.1; omega, v3⟩, fun _ => v4, fun q => (by rcases q with q | q <;> cases q), by show 1 ≤ 2; decide⟩
    · rw [if_neg z1] at h
      by_cases z2 : isW_ w u.1 23 = true
      · rw [if_pos z2] at h
        cases e2 : pJ_ w r 23 500 u.1 u.2.1 u.2.2.1 [] with
        | inl q => rw [e2] at h; cases h
        | inr v =>
          rw [e2, eb_r] at h
          obtain ⟨v1, v2, v3, v4⟩ := pJ_end hw u1 u3 e2
          cases h
          exact ⟨⟨v1, by show a < v.1; omega, v3⟩, fun q => (by rcases q with q | q <;> cases q), fun _ => v4, by show 2 ≤ 2; decide⟩
      · rw [if_neg z2] at h
        cases h
        exact ⟨⟨u1, u2, u3⟩, fun _ => by simpa using z1, fun _ => by simpa using z2, by show 0 ≤ 2; decide⟩
/-- behind a question nothing else may come -/
theorem tr_11 (hs : ms_ m = 11) (h58 : ¬ (z.1 = 3 ∧ z.2.1 = 58 ∧ r = false ∧ md9_ m < 5)) (hj : ∀ b, b = 1 ∨ b = 2 → z.1 = 4 → z.2.1 = b + 21 → mj_ m ≠ 0 ∧ mj_ m ≠ b) : tr9_ r m z = .inl (1, z.2.2.1) := by
  have e : mcl_ m = m := if_neg (by omega)
  have t1 : mtc_ (ms_ m) = false := by rw [hs]; rfl
  unfold tr9_
  rw [e, t1]
  by_cases z2 : z.1 = 2
  · rw [if_pos z2, if_neg (by decide)]
  rw [if_neg z2]
  by_cases z3 : z.1 = 3
  · rw [if_pos z3, if_neg (show ¬ (8 ≤ ms_ m ∧ ms_ m ≤ 10) by omega), if_neg (show ¬ ms_ m = 9 by omega), if_neg (show ¬ ms_ m = 8 by omega)]
    by_cases q58 : z.2.1 = 58
    · rw [if_neg (show ¬ (ms_ m = 11 ∧ r = false ∧ md9_ m < 5) from fun q => h58 ⟨z3, q58, q.2⟩)]
      repeat' split
      all_goals rfl
    · rw [if_neg q58]
      repeat' split
      all_goals rfl
  rw [if_neg z3]
  by_cases z4 : z.1 = 4
  · rw [if_pos z4, if_neg (show ¬ (ms_ m = 3 ∨ ms_ m = 4) by omega)]
    by_cases q1 : z.2.1 = 22 ∨ z.2.1 = 23
    · have := hj (z.2.1 - 21) (by omega) z4 (by omega)
      rw [if_pos q1, if_neg (fun q => q.2.elim this.1 this.2)]
    · rw [if_neg q1, if_neg (show ¬ (z.2.1 = 21 ∧ ms_ m = 1) by omega), if_neg (show ¬ (24 ≤ z.2.1 ∧ z.2.1 ≤ 27 ∧ ms_ m = 2 ∧ (z.2.1 = 24 ∨ r = false)) by omega), if_pos (Or.inr rfl)]
  · rw [if_neg z4]
theorem isW_f {w : Nat → Nat} {a c : Nat} (h : isW_ w a c = false) : ¬ ((tz_ w a).1 = 4 ∧ (tz_ w a).2.1 = c) := isW_no (by rw [h]; decide)
/-- behind a test: joins are done -/
theorem pE_j (hw : wn_ w n) (ha : a ≤ n) (h30 : tt ≤ 30) {x : Nat × Nat × Int32 × Nat × ON × List ON} (h : pE_ w r a tt k = .inr x) : ∀ b, b = 1 ∨ b = 2 → (tz_ w x.1).1 = 4 → (tz_ w x.1).2.1 = b + 21 → x.2.2.2.1 ≠ 0 ∧ x.2.2.2.1 ≠ b := by
  obtain ⟨-, h2, h3, h4⟩ := pE_end hw ha h30 h
  intro b hb z4 zv
  rcases hb with q | q
  · subst q
    refine ⟨fun q => isW_f (h2 (Or.inl q)) ⟨z4, zv⟩, fun q => isW_f (h2 (Or.inr q)) ⟨z4, zv⟩⟩
  · subst q
    refine ⟨fun q => isW_f (h3 (Or.inl q)) ⟨z4, zv⟩, fun q => isW_f (h3 (Or.inr q)) ⟨z4, zv⟩⟩
/-- A RULE, as the class reads it -/
theorem rN_R (hw : wn_ w n) (hs : ms_ m = 2) (hj : mj_ m = 0) (hc : mc_ m = (0, 0, 0)) : rN_ true w n m 0 = eb_ (pE_ w true 0 0 0) (fun x => if (tz_ w x.1).1 = 1 then .inr (mct_ (mst_ (mjn_ m x.2.2.2.1) 11 (es9_ x.2.2.2.1 x.2.2.2.2.1 x.2.2.2.2.2)) (0, x.2.1, x.2.2.1)) else .inl (1, pl9_ w x.1)) := by
  rw [rN_E hw (Nat.zero_le _) hc hs hj (by decide)]
  refine eb_cong (fun x hx => ?_)
  obtain ⟨⟨x1, x2, x3⟩, -⟩ := pE_end hw (Nat.zero_le _) (by decide) hx
  have pj := pE_j hw (Nat.zero_le _) (by decide) hx
  obtain ⟨m1, hm1⟩ : ∃ m1, m1 = mct_ (mst_ (mjn_ m x.2.2.2.1) 11 (es9_ x.2.2.2.1 x.2.2.2.2.1 x.2.2.2.2.2)) (0, x.2.1, x.2.2.1) := ⟨_, rfl⟩
  have s1 : ms_ m1 = 11 := by rw [hm1]; rfl
  have j1 : mj_ m1 = x.2.2.2.1 := by rw [hm1]; rfl
  rw [← hm1]
  by_cases z1 : (tz_ w x.1).1 = 1
  · rw [if_pos z1]
    have e : mcl_ m1 = m1 := if_neg (by omega)
    unfold rN_ rn_
    rw [if_neg (by omega), if_pos z1]
    unfold fin9_
    rw [if_pos rfl, e, if_pos s1]
  · rw [if_neg z1, rN_t hw x1 (by omega) z1, tr_11 s1 (fun q => by cases q.2.2.1) (fun b hb z4 zv => by rw [j1]; exact pj b hb z4 zv), eb_l]
    rfl
/-- a plain byte that goes on -/
theorem tp_go (h1 : ml_ m = 1) (hp : tP (w a) = true) : tp8_ m a (w a) = .inr (m.1, m.2.1, m.2.2.1, mc_ m, mS_ m ++ [(0, w a)]) := by
  have h : (32 ≤ w a ∧ w a ≤ 126) ∧ w a ≠ 123 ∧ w a ≠ 125 ∧ w a ≠ 124 := by
    simp [tP] at hp
    omega
  unfold tp8_
  rw [if_neg (by omega), if_neg (by omega), if_neg (by omega), if_neg (by omega), if_pos h1]
theorem rN_p (hw : wn_ w n) (ha : a ≤ n) (hs : ms_ m = 0) (h9 : w a ≠ 999) : rN_ r w n m a = eb_ (tp8_ m a (w a)) (fun m => rN_ r w n m (a + 1)) := by
  have han : a < n := by
    rcases Nat.lt_or_ge a n with q | q
    · exact q
    · exact absurd (hw.1 a q) h9
  have e : rN_ r w n m a = eb_ (tp8_ m a (w a)) (fun m => rn_ r w n n m (a + 1)) := by
    unfold rN_
    conv => lhs; unfold rn_
    rw [if_pos hs, if_neg h9]
  rw [e]
  exact eb_cong (fun b _ => rn_fu hw.1 n (n + 1) b _ han (by omega) (by omega))
/-- a run goes on to its end -/
theorem rN_run (hw : wn_ w n) : ∀ (f a : Nat) (m : MM), n < f + a → a ≤ n → ms_ m = 0 → ml_ m = 1 → rN_ r w n m a = rN_ r w n (m.1, m.2.1, m.2.2.1, mc_ m, mS_ m ++ (bl9_ w a (en9_ tP w f a - a)).map (fun b => (0, b))) (en9_ tP w f a)
  | 0, _, _, h, h2, _, _ => by omega
  | f + 1, a, m, h, h2, hs, h1 => by
    by_cases z : tP (w a) = true
    · have h9 : w a ≠ 999 := fun q => by rw [q] at z; cases z
      have han : a < n := by
        rcases Nat.lt_or_ge a n with q | q
        · exact q
        · exact absurd (hw.1 a q) h9
      have ge := en9_ge tP w f (a + 1)
      have e1 : en9_ tP w f (a + 1) - a = (en9_ tP w f (a + 1) - (a + 1)) + 1 := by omega
      rw [rN_p hw h2 hs h9, tp_go h1 z, eb_r, en9_nx z, e1, bl9_c, List.map_cons]
      rw [rN_run hw f (a + 1) (m.1, m.2.1, m.2.2.1, mc_ m, mS_ m ++ [(0, w a)]) (by omega) han hs h1]
      have em : ((m.1, m.2.1, m.2.2.1, mc_ m, mS_ m ++ [(0, w a)]) : MM) = (m.1, m.2.1, m.2.2.1, mc_ m, mS_ m ++ [(0, w a)]) := rfl
      have e3 : mS_ (m.1, m.2.1, m.2.2.1, mc_ m, mS_ m ++ [(0, w a)]) = mS_ m ++ [(0, w a)] := rfl
      have e4 : mc_ (m.1, m.2.1, m.2.2.1, mc_ m, mS_ m ++ [(0, w a)]) = mc_ m := rfl
      rw [e3, e4, List.append_assoc, List.singleton_append]
    · have e : en9_ tP w (f + 1) a = a := en9_st (by simpa using z)
      rw [e, Nat.sub_self, show bl9_ w a 0 = [] from rfl, List.map_nil, List.append_nil]
      rfl
end RNR
