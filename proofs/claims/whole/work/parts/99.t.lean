/-! THE CLASS'S READER, PURE: paragraphs and rules, as the reference reads them. Written by wip/b/mk99t.py. -/
section RNP
variable {w : Nat → Nat} {n : Nat} {E : EV9} {m : MM}
/-- A PARAGRAPH -/
theorem rN_P (hw : wn_ w n) (hs : ms_ m = 0) (hl : ml_ m = 0) (hd : md9_ m = 0) (hc : mc_ m = (0, 0, 0)) (hS : mS_ m = []) (hel : ∀ q, m.2.1 q = false) : match pP_ E w n with
  | .inl e => rN_ false w n m 0 = .inl e
  | .inr x => ∃ m', rN_ false w n m 0 = .inr m' ∧ mc_ m' = x.2.1 ∧ mS_ m' = x.2.2.1 := by
  have q := rN_X (E := E) hw 12 0 rfl (by decide) m 0 0 (0, 0, 0) (Nat.zero_le _) (by decide) (by decide) hs hl hd hc (by rw [hS]; rfl) (fun q _ => hel q)
  unfold pP_
  revert q
  cases pX_ E w 12 0 0 (0, 0, 0) 0 with
  | inl e => exact fun q => q
  | inr x =>
    intro q
    obtain ⟨m', a', r1, r2, ⟨r3, r4, r5⟩, r6, r7, ⟨t1, t2, t3, t4, t5, t6⟩⟩ := q
    subst r2
    rw [eb_r]
    by_cases z : n ≤ x.1
    · rw [if_pos z]
      have e9 := hw.1 x.1 z
      obtain ⟨f1, f2⟩ := rN_999 hw r3 t1 e9
      refine ⟨m', ?_, t3, by rw [t4, hS]; rfl⟩
      rw [r1, f1]
      unfold fin9_
      rw [if_neg (by decide), if_pos ⟨t1, t2, r7⟩]
    · rw [if_neg z]
      show rN_ false w n m 0 = .inl (1, x.1)
      have h256 := hw.2.1 x.1 (by omega)
      rw [r1]
      rcases r5 with q | q | q
      · omega
      · exact rN_125n hw r3 t1 q (by omega)
      · exact rN_124n hw r3 t1 q (by omega)
/-- A RULE -/
theorem rN_RR (hw : wn_ w n) (hs : ms_ m = 2) (hj : mj_ m = 0) (hc : mc_ m = (0, 0, 0)) (hS : mS_ m = []) : match pR_ E w with
  | .inl e => rN_ true w n m 0 = .inl e
  | .inr x => ∃ m', rN_ true w n m 0 = .inr m' ∧ (mc_ m').2.2 = x.1 ∧ mS_ m' = x.2.1 := by
  have q := rN_R hw hs hj hc
  unfold pR_
  revert q
  cases pE_ w true 0 0 0 with
  | inl e => exact fun q => q
  | inr x =>
    intro q
    rw [eb_r] at q ⊢
    by_cases z : (tz_ w x.1).1 = 1
    · rw [if_pos z] at q ⊢
      refine ⟨_, q, rfl, ?_⟩
      show mS_ m ++ es9_ x.2.2.2.1 x.2.2.2.2.1 x.2.2.2.2.2 = _
      rw [hS]
      rfl
    · rw [if_neg z] at q ⊢
      exact q
end RNP
