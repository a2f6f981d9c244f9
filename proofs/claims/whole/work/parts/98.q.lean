/-! THE CLASS'S READER, PURE: texts. Written by wip/b/mk98.py. -/
/-- what stays of m when a text of depth d has been read: steps ss are added, counters are c -/
def tx_ (m m' : MM) (d : Nat) (c : CT) (ss : List SP) : Prop := ms_ m' = 0 ∧ md9_ m' = d ∧ mc_ m' = c ∧ mS_ m' = mS_ m ++ ss ∧ (∀ q, m'.2.1 q = m.2.1 q) ∧ ∀ q, q < d → m'.2.2.1 q = m.2.2.1 q
theorem tx_tr {m m1 m2 : MM} {d : Nat} {c1 c2 : CT} {s1 s2 : List SP} (h : tx_ m m1 d c1 s1) (k : tx_ m1 m2 d c2 s2) : tx_ m m2 d c2 (s1 ++ s2) := by
  obtain ⟨h1, h2, h3, h4, h5, h6⟩ := h
  obtain ⟨k1, k2, k3, k4, k5, k6⟩ := k
  refine ⟨k1, k2, k3, by rw [k4, h4, List.append_assoc], fun q => (k5 q).trans (h5 q), fun q hq => (k6 q hq).trans (h6 q hq)⟩
theorem tx_rf {m : MM} {d : Nat} (h1 : ms_ m = 0) (h2 : md9_ m = d) : tx_ m m d (mc_ m) [] := ⟨h1, h2, rfl, (List.append_nil _).symm, fun _ => rfl, fun _ _ => rfl⟩
/-- a reading and what the machine does -/
def ry_ {β : Type} (w : Nat → Nat) (n : Nat) (m : MM) (a : Nat) (X : FT ⊕ β) (ok : β → MM → Nat → Prop) : Prop := match X with
  | .inl e => rN_ false w n m a = .inl e
  | .inr b => ∃ m' a', rN_ false w n m a = rN_ false w n m' a' ∧ ok b m' a'
theorem aim_at (S T : List SP) (s v : Nat) : aim_ (S ++ (s, v) :: T) S.length = S ++ (s, (S ++ (s, v) :: T).length) :: T := by
  unfold aim_
  have e : (S ++ (s, v) :: T).getD S.length (0, 0) = (s, v) := by simp [List.getD]
  rw [e, List.set_append_right _ _ (Nat.le_refl _), Nat.sub_self, List.set_cons_zero]
section CNT
variable {E : EV9} {w : Nat → Nat} {S : Nat → Nat → CT → Nat → RT} {d a o : Nat} {c : CT}
theorem pC_cnt (hS : ∀ (a o : Nat) (c : CT) (x : Nat × CT × List SP × List Nat), c.1 ≤ 60 → S (d + 1) a c o = .inr x → c.1 ≤ x.2.1.1 ∧ x.2.1.1 ≤ 60) (h60 : c.1 + 1 ≤ 60) {y : Nat × CT × List SP × List Nat} (h : pC_ E w S d a c o = .inr y) : c.1 + 1 ≤ y.2.1.1 ∧ y.2.1.1 ≤ 60 := by
  unfold pC_ at h
  by_cases q : isW_ w (a + 1) 21 = false
  · rw [if_pos q] at h
    cases e : pS_ w false (a + 1) c.2.1 c.2.2 with
    | inl z => rw [e] at h; cases h
    | inr x =>
      rw [e, eb_r] at h
      by_cases z : isS_ w x.1 125 = true
      · rw [if_pos z] at h; cases h; exact ⟨Nat.le_refl _, h60⟩
      · rw [if_neg z] at h; cases h
  · rw [if_neg q] at h
    by_cases d5 : d = 5
    · rw [if_pos d5] at h; cases h
    · rw [if_neg d5] at h
      cases e : pE_ w false (nx9_ w (a + 1)) c.2.1 c.2.2 with
      | inl z => rw [e] at h; cases h
      | inr x =>
        rw [e, eb_r] at h
        by_cases z : isS_ w x.1 58 = true
        · rw [if_pos z] at h
          cases e2 : S (d + 1) (nx9_ w x.1) (c.1 + 1, x.2.1, x.2.2.1) (o + 2 + (es9_ x.2.2.2.1 x.2.2.2.2.1 x.2.2.2.2.2).length) with
          | inl z => rw [e2] at h; cases h
          | inr u =>
            rw [e2, eb_r] at h
            have hu : c.1 + 1 ≤ u.2.1.1 ∧ u.2.1.1 ≤ 60 := hS _ _ _ _ h60 e2
            by_cases z1 : w u.1 = 124
            · rw [if_pos z1] at h
              cases e3 : S (d + 1) (u.1 + 1) u.2.1 (o + 3 + (es9_ x.2.2.2.1 x.2.2.2.2.1 x.2.2.2.2.2).length + u.2.2.1.length) with
              | inl z => rw [e3] at h; cases h
              | inr v =>
                rw [e3, eb_r] at h
                have hv := hS _ _ _ _ hu.2 e3
                by_cases z2 : w v.1 = 125
                · rw [if_pos z2] at h; cases h; exact ⟨Nat.le_trans hu.1 hv.1, hv.2⟩
                · rw [if_neg z2] at h; cases h
            · rw [if_neg z1] at h
              by_cases z2 : w u.1 = 125
              · rw [if_pos z2] at h; cases h; exact hu
              · rw [if_neg z2] at h; cases h
        · rw [if_neg z] at h; cases h
end CNT
section RNT
variable {w : Nat → Nat} {n : Nat} {m : MM} {a d o : Nat} {c : CT} {E : EV9}
/-- a brace opens -/
theorem tp_open (hs : ms_ m = 0) (h : w a = 123) (h60 : (mc_ m).1 ≠ 60) : tp8_ m a (w a) = .inr ((1, mj_ m, 2, a, md9_ m), m.2.1, m.2.2.1, ((mc_ m).1 + 1, (mc_ m).2), mS_ m) := by
  unfold tp8_
  rw [h, if_neg (by decide), if_pos rfl]
  unfold mpc_
  rw [if_neg h60]
  rfl
theorem tp_many (h : w a = 123) (h60 : (mc_ m).1 = 60) : tp8_ m a (w a) = .inl (3, a) := by
  unfold tp8_
  rw [h, if_neg (by decide), if_pos rfl]
  unfold mpc_
  rw [if_pos h60]
/-- an if closes -/
theorem rN_125 (hw : wn_ w n) (ha : a ≤ n) (hs : ms_ m = 0) (h : w a = 125) (hd : 0 < md9_ m) (hl : ml_ m ≠ 0) : rN_ false w n m a = rN_ false w n ((m.1.1, m.1.2.1, 2, m.1.2.2.2.1, md9_ m - 1), (fun q => if q = md9_ m - 1 then false else m.2.1 q), m.2.2.1, mc_ m, aim_ (mS_ m) (m.2.2.1 (md9_ m - 1))) (a + 1) := by
  rw [rN_p hw ha hs (by rw [h]; decide)]
  have : tp8_ m a (w a) = .inr ((m.1.1, m.1.2.1, 2, m.1.2.2.2.1, md9_ m - 1), (fun q => if q = md9_ m - 1 then false else m.2.1 q), m.2.2.1, mc_ m, aim_ (mS_ m) (m.2.2.1 (md9_ m - 1))) := by
    unfold tp8_
    rw [h, if_neg (by decide), if_neg (by decide), if_neg (by decide), if_pos rfl, if_pos ⟨hd, hl⟩]
  rw [this, eb_r]
theorem rN_124 (hw : wn_ w n) (ha : a ≤ n) (hs : ms_ m = 0) (h : w a = 124) (hd : 0 < md9_ m) (hd5 : md9_ m ≤ 5) (hl : ml_ m ≠ 0) (he : m.2.1 (md9_ m - 1) = false) : rN_ false w n m a = rN_ false w n ((m.1.1, m.1.2.1, 0, m.1.2.2.2), (fun q => if q = md9_ m - 1 then true else m.2.1 q), (fun q => if q = md9_ m - 1 then (mS_ m).length else m.2.2.1 q), mc_ m, aim_ (mS_ m ++ [(14, 0)]) (m.2.2.1 (md9_ m - 1))) (a + 1) := by
  rw [rN_p hw ha hs (by rw [h]; decide)]
  have : tp8_ m a (w a) = .inr ((m.1.1, m.1.2.1, 0, m.1.2.2.2), (fun q => if q = md9_ m - 1 then true else m.2.1 q), (fun q => if q = md9_ m - 1 then (mS_ m).length else m.2.2.1 q), mc_ m, aim_ (mS_ m ++ [(14, 0)]) (m.2.2.1 (md9_ m - 1))) := by
    unfold tp8_
    rw [h, if_neg (by decide), if_neg (by decide), if_pos rfl, if_pos ⟨hd, hd5, hl, he⟩]
  rw [this, eb_r]
theorem rN_124n (hw : wn_ w n) (ha : a ≤ n) (hs : ms_ m = 0) (h : w a = 124) (he : ¬ (0 < md9_ m ∧ md9_ m ≤ 5 ∧ ml_ m ≠ 0 ∧ m.2.1 (md9_ m - 1) = false)) : rN_ false w n m a = .inl (1, a) := by
  rw [rN_p hw ha hs (by rw [h]; decide)]
  have : tp8_ m a (w a) = .inl (1, a) := by
    unfold tp8_
    rw [h, if_neg (by decide), if_neg (by decide), if_pos rfl, if_neg he]
  rw [this, eb_l]
theorem rN_125n (hw : wn_ w n) (ha : a ≤ n) (hs : ms_ m = 0) (h : w a = 125) (he : ¬ (0 < md9_ m ∧ ml_ m ≠ 0)) : rN_ false w n m a = .inl (1, a) := by
  rw [rN_p hw ha hs (by rw [h]; decide)]
  have : tp8_ m a (w a) = .inl (1, a) := by
    unfold tp8_
    rw [h, if_neg (by decide), if_neg (by decide), if_neg (by decide), if_pos rfl, if_neg he]
  rw [this, eb_l]
theorem rN_999 (hw : wn_ w n) (ha : a ≤ n) (hs : ms_ m = 0) (h : w a = 999) : rN_ false w n m a = fin9_ false n m ∧ a = n := by
  refine ⟨?_, ?_⟩
  · unfold rN_
    conv => lhs; unfold rn_
    rw [if_pos hs, if_pos h]
  · rcases Nat.lt_or_ge a n with q | q
    · have := hw.2.1 a q; omega
    · omega
theorem rN_999n (hw : wn_ w n) (ha : a ≤ n) (hs : ms_ m = 0) (h : w a = 999) (he : ¬ (md9_ m = 0 ∧ ml_ m ≠ 0)) : rN_ false w n m a = .inl (1, a) := by
  obtain ⟨e1, e2⟩ := rN_999 hw ha hs h
  rw [e1, e2]
  unfold fin9_
  rw [if_neg (by decide), if_neg (fun q => he q.2)]
/-- THE CLASS READS A BRACE as the reference does -/
theorem rN_brace {S : Nat → Nat → CT → Nat → RT} (hw : wn_ w n) (ha : a ≤ n) (hs : ms_ m = 0) (hd : md9_ m = d) (hd5 : d ≤ 5) (hc : mc_ m = c) (h60 : c.1 < 60) (h30 : c.2.1 ≤ 30) (ho : (mS_ m).length = o) (hel : ∀ q, d ≤ q → m.2.1 q = false) (han : w a = 123) (hC : ∀ (a o : Nat) (c : CT) (x : Nat × CT × List SP × List Nat), c.1 ≤ 60 → S (d + 1) a c o = .inr x → c.1 ≤ x.2.1.1 ∧ x.2.1.1 ≤ 60)
    (hS : d < 5 → ∀ (m : MM) (a o : Nat) (c : CT), a ≤ n → c.1 ≤ 60 → c.2.1 ≤ 30 → ms_ m = 0 → ml_ m = 0 → md9_ m = d + 1 → mc_ m = c → (mS_ m).length = o → (∀ q, d + 1 ≤ q → m.2.1 q = false) → ry_ w n m a (S (d + 1) a c o) (fun x m' a' => a' = x.1 ∧ (x.1 ≤ n ∧ a ≤ x.1 ∧ (w x.1 = 999 ∨ w x.1 = 125 ∨ w x.1 = 124)) ∧ x.2.1.2.1 ≤ 30 ∧ ml_ m' ≠ 0 ∧ tx_ m m' (d + 1) x.2.1 x.2.2.1)) : ry_ w n m a (pC_ E w S d a c o) (fun x m' a' => a' = x.1 ∧ (x.1 ≤ n ∧ a < x.1) ∧ x.2.1.2.1 ≤ 30 ∧ ml_ m' = 2 ∧ tx_ m m' d x.2.1 x.2.2.1) := by
  have h9 : w a ≠ 999 := by rw [han]; decide
  have han2 : a < n := by
    rcases Nat.lt_or_ge a n with q | q
    · exact q
    · exact absurd (hw.1 a q) h9
  have hn := hw.2.2
  obtain ⟨m1, hm1⟩ : ∃ m1, m1 = ((1, mj_ m, 2, a, md9_ m), m.2.1, m.2.2.1, ((mc_ m).1 + 1, (mc_ m).2), mS_ m) := ⟨_, rfl⟩
  have e1 : rN_ false w n m a = rN_ false w n m1 (a + 1) := by
    rw [rN_p hw ha hs h9, tp_open hs han (by rw [hc]; omega), eb_r, hm1]
  have s1 : ms_ m1 = 1 := by rw [hm1]; rfl
  have c1 : mc_ m1 = (c.1 + 1, c.2.1, c.2.2) := by rw [hm1, ← hc]; rfl
  have l1 := tz_le hw.1 (show a + 1 ≤ n from han2)
  have toInl : ∀ e, rN_ false w n m1 (a + 1) = .inl e → rN_ false w n m a = .inl e := fun e h => e1.trans h
  unfold pC_
  by_cases q : isW_ w (a + 1) 21 = false
  · rw [if_pos q]
    have hS1 := rN_S (r := false) (m := m1) (c1 := c.1 + 1) (tt := c.2.1) (k := c.2.2) hw han2 c1 (by rw [s1]; rfl) (fun _ => isW_f q) (fun z => by omega) h30
    cases es : pS_ w false (a + 1) c.2.1 c.2.2 with
    | inl e =>
      rw [es] at hS1
      exact toInl e hS1
    | inr x =>
      rw [es, eb_r] at hS1
      rw [eb_r]
      obtain ⟨x1, x2, x3, x4, x5⟩ := pS_end hw han2 h30 es
      have lx := tz_le hw.1 x1
      have em : maf_ (ms_ m1) = 8 := by rw [s1]; rfl
      rw [em] at hS1
      obtain ⟨m8, hm8⟩ : ∃ m8, m8 = mct_ (mst_ m1 8 (is9_ x.2.2.2)) (c.1 + 1, x.2.1, x.2.2.1) := ⟨_, rfl⟩
      have s8 : ms_ m8 = 8 := by rw [hm8]; rfl
      rw [← hm8] at hS1
      by_cases z : isS_ w x.1 125 = true
      · rw [if_pos z]
        have z3 := isS_3 z
        have zv := isS_v z
        have et : tr9_ false m8 (tz_ w x.1) = .inr (mst_ m8 0 [(4, 0)]) := by
          unfold tr9_
          rw [if_neg (by omega), if_pos z3, if_neg (by omega), if_neg (by omega), if_pos zv, if_pos s8]
        refine ⟨mst_ m8 0 [(4, 0)], nx9_ w x.1, ?_, rfl, ⟨lx.2.2.1, by have := lx.1; have := lx.2.1; show a < nx9_ w x.1; omega⟩, x3, ?_, ?_⟩
        · rw [e1, hS1, rN_t hw x1 (by omega) (by omega), et, eb_r]
        · rw [hm8, hm1]; rfl
        · rw [hm8, hm1]
          refine ⟨rfl, hd, rfl, ?_, fun _ => rfl, fun _ _ => rfl⟩
          show (mS_ m ++ is9_ x.2.2.2) ++ [(4, 0)] = mS_ m ++ (is9_ x.2.2.2 ++ [(4, 0)])
          rw [List.append_assoc]
      · rw [if_neg z]
        refine toInl _ ?_
        rw [hS1]
        by_cases z1 : (tz_ w x.1).1 = 1
        · exact rN_e hw x1 (by omega) (fun q => by cases q) z1
        · have et : tr9_ false m8 (tz_ w x.1) = .inl (1, (tz_ w x.1).2.2.1) := by
            have e : mcl_ m8 = m8 := if_neg (by omega)
            have t1 : mtc_ (ms_ m8) = false := by rw [s8]; rfl
            have n43 := isS_no x4
            have n45 := isS_no x5
            have n125 := isS_no (show isS_ w x.1 125 = false by simpa using z)
            unfold tr9_
            rw [e, t1]
            by_cases z2 : (tz_ w x.1).1 = 2
            · rw [if_pos z2, if_neg (by decide)]
            rw [if_neg z2]
            by_cases z3 : (tz_ w x.1).1 = 3
            · rw [if_pos z3, if_neg (show ¬ ((tz_ w x.1).2.1 = 43 ∨ (tz_ w x.1).2.1 = 45) from fun q => q.elim (fun q => n43 ⟨z3, q⟩) (fun q => n45 ⟨z3, q⟩)), if_neg (show ¬ ms_ m8 = 9 by omega), if_neg (show ¬ (tz_ w x.1).2.1 = 125 from fun q => n125 ⟨z3, q⟩), if_neg (show ¬ (ms_ m8 = 11 ∧ false = false ∧ md9_ m8 < 5) by omega)]
              repeat' split
              all_goals rfl
            rw [if_neg z3]
            by_cases z4 : (tz_ w x.1).1 = 4
            · rw [if_pos z4, if_neg (show ¬ (ms_ m8 = 3 ∨ ms_ m8 = 4) by omega), if_neg (show ¬ (ms_ m8 = 11 ∧ (mj_ m8 = 0 ∨ mj_ m8 = (tz_ w x.1).2.1 - 21)) by omega), if_neg (show ¬ ((tz_ w x.1).2.1 = 21 ∧ ms_ m8 = 1) by omega), if_neg (show ¬ (24 ≤ (tz_ w x.1).2.1 ∧ (tz_ w x.1).2.1 ≤ 27 ∧ ms_ m8 = 2 ∧ ((tz_ w x.1).2.1 = 24 ∨ false = false)) by omega), if_pos (Or.inr rfl)]
              split <;> rfl
            · rw [if_neg z4]
          rw [rN_t hw x1 (by omega) z1, et, eb_l]
          rfl
  · rw [if_neg q]
    have q' : isW_ w (a + 1) 21 = true := by simpa using q
    have z4 := isW_4 q'
    have zv := isW_v q'
    have hd1 : md9_ m1 = d := by rw [hm1]; exact hd
    by_cases d5 : d = 5
    · rw [if_pos d5]
      refine toInl _ ?_
      have et : tr9_ false m1 (tz_ w (a + 1)) = .inl (3, a) := by
        unfold tr9_
        rw [if_neg (by omega), if_neg (by omega), if_pos z4, if_neg (by omega), if_neg (by omega), if_pos ⟨zv, s1⟩, if_pos (show 5 ≤ md9_ m1 by omega), hm1]
        rfl
      rw [rN_t (a := a + 1) hw han2 (by omega) (by omega), et, eb_l]
    · rw [if_neg d5]
      obtain ⟨m2, hm2⟩ : ∃ m2, m2 = mst_ (mjn_ m1 0) 2 [(11, 0)] := ⟨_, rfl⟩
      have s2 : ms_ m2 = 2 := by rw [hm2]; rfl
      have c2 : mc_ m2 = (c.1 + 1, c.2.1, c.2.2) := by rw [hm2]; exact c1
      have et : tr9_ false m1 (tz_ w (a + 1)) = .inr m2 := by
        unfold tr9_
        rw [if_neg (by omega), if_neg (by omega), if_pos z4, if_neg (by omega), if_neg (by omega), if_pos ⟨zv, s1⟩, if_neg (show ¬ 5 ≤ md9_ m1 by omega), hm2]
      have e2 : rN_ false w n m a = rN_ false w n m2 (nx9_ w (a + 1)) := by
        rw [e1, rN_t (a := a + 1) hw han2 (by omega) (by omega), et, eb_r]
      have hE1 := rN_E (r := false) (m := m2) hw l1.2.2.1 c2 s2 (by rw [hm2]; rfl) h30
      cases ep : pE_ w false (nx9_ w (a + 1)) c.2.1 c.2.2 with
      | inl e =>
        rw [ep] at hE1
        exact e2.trans hE1
      | inr x =>
        rw [ep, eb_r] at hE1
        rw [eb_r]
        obtain ⟨⟨x1, x2, x3⟩, -⟩ := pE_end hw l1.2.2.1 h30 ep
        have pj := pE_j hw l1.2.2.1 h30 ep
        have lx := tz_le hw.1 x1
        obtain ⟨m3, hm3⟩ : ∃ m3, m3 = mct_ (mst_ (mjn_ m2 x.2.2.2.1) 11 (es9_ x.2.2.2.1 x.2.2.2.2.1 x.2.2.2.2.2)) (c.1 + 1, x.2.1, x.2.2.1) := ⟨_, rfl⟩
        have s3 : ms_ m3 = 11 := by rw [hm3]; rfl
        have j3 : mj_ m3 = x.2.2.2.1 := by rw [hm3]; rfl
        have d3 : md9_ m3 = d := by rw [hm3, hm2]; exact hd1
        rw [← hm3] at hE1
        by_cases z : isS_ w x.1 58 = true
        · rw [if_pos z]
          have z3 := isS_3 z
          have zv3 := isS_v z
          obtain ⟨m4, hm4⟩ : ∃ m4, m4 = ((0, mj_ m3, 0, mb_ m3, md9_ m3 + 1), m3.2.1, (fun q => if q = md9_ m3 then (mS_ m3).length else m3.2.2.1 q), mc_ m3, mS_ m3 ++ [(13, 0)]) := ⟨_, rfl⟩
          have et3 : tr9_ false m3 (tz_ w x.1) = .inr m4 := by
            have e : mcl_ m3 = m3 := if_neg (by omega)
            unfold tr9_
            rw [if_neg (by omega), if_pos z3, if_neg (by omega), if_neg (by omega), if_neg (by omega), if_pos zv3, e, if_pos ⟨s3, rfl, by omega⟩, hm4]
          have e4 : rN_ false w n m a = rN_ false w n m4 (nx9_ w x.1) := by
            rw [e2, hE1, rN_t hw x1 (by omega) (by omega), et3, eb_r]
          have S3 : mS_ m3 = mS_ m ++ ((11, 0) :: (es9_ x.2.2.2.1 x.2.2.2.2.1 x.2.2.2.2.2)) := by
            rw [hm3, hm2, hm1]
            show (mS_ m ++ [(11, 0)]) ++ (es9_ x.2.2.2.1 x.2.2.2.2.1 x.2.2.2.2.2) = _
            rw [List.append_assoc]; rfl
          have L3 : (mS_ m3).length = o + 1 + (es9_ x.2.2.2.1 x.2.2.2.2.1 x.2.2.2.2.2).length := by
            rw [S3, List.length_append, List.length_cons, ho]; omega
          have el3 : ∀ q, m3.2.1 q = m.2.1 q := fun q => by rw [hm3, hm2, hm1]; rfl
          have sk3 : ∀ q, m3.2.2.1 q = m.2.2.1 q := fun q => by rw [hm3, hm2, hm1]; rfl
          have d4 : md9_ m4 = d + 1 := by rw [hm4, d3]; rfl
          have hS4 := hS (by omega) m4 (nx9_ w x.1) (o + 2 + (es9_ x.2.2.2.1 x.2.2.2.2.1 x.2.2.2.2.2).length) (c.1 + 1, x.2.1, x.2.2.1) lx.2.2.1 (show c.1 + 1 ≤ 60 by omega) x3 (by rw [hm4]; rfl) (by rw [hm4]; rfl) d4 (by rw [hm4, hm3]; rfl) (by
            rw [hm4]
            show (mS_ m3 ++ [(13, 0)]).length = _
            rw [List.length_append, L3]
            simp only [List.length_cons, List.length_nil]; omega) (fun q hq => by rw [hm4]; exact (el3 q).trans (hel q (by omega)))
          cases eu : S (d + 1) (nx9_ w x.1) (c.1 + 1, x.2.1, x.2.2.1) (o + 2 + (es9_ x.2.2.2.1 x.2.2.2.2.1 x.2.2.2.2.2).length) with
          | inl e =>
            rw [eu] at hS4
            exact e4.trans hS4
          | inr u =>
            rw [eu] at hS4
            rw [eb_r]
            obtain ⟨m5, a5, r5, q5, ⟨u1, u0, u2⟩, u3, u4, ⟨t1, t2, t3, t4, t5, t6⟩⟩ := hS4
            subst q5
            have e5 := e4.trans r5
            have S5 : mS_ m5 = mS_ m3 ++ ((13, 0) :: u.2.2.1) := by
              rw [t4, hm4]
              show (mS_ m3 ++ [(13, 0)]) ++ u.2.2.1 = _
              rw [List.append_assoc]; rfl
            have sk5 : m5.2.2.1 d = (mS_ m3).length := by
              rw [t6 d (by omega), hm4]
              show (if d = md9_ m3 then _ else _) = _
              rw [if_pos d3.symm]
            have el5 : ∀ q, m5.2.1 q = m.2.1 q := fun q => by rw [t5 q, hm4]; exact el3 q
            have sk5b : ∀ q, q < d → m5.2.2.1 q = m.2.2.1 q := fun q hq => by
              rw [t6 q (by omega), hm4]
              show (if q = md9_ m3 then _ else _) = _
              rw [if_neg (by omega)]
              exact sk3 q
            have dd : md9_ m5 - 1 = d := by omega
            by_cases z124 : w u.1 = 124
            · rw [if_pos z124]
              have han4 : u.1 < n := by
                rcases Nat.lt_or_ge u.1 n with q | q
                · exact q
                · have := hw.1 u.1 q; omega
              have e6 := rN_124 hw u1 t1 z124 (by omega) (by omega) u4 (by rw [dd, el5]; exact hel d (Nat.le_refl _))
              rw [dd] at e6
              have A6 : aim_ (mS_ m5 ++ [(14, 0)]) (m5.2.2.1 d) = mS_ m3 ++ ((13, o + 3 + (es9_ x.2.2.2.1 x.2.2.2.2.1 x.2.2.2.2.2).length + u.2.2.1.length) :: (u.2.2.1 ++ [(14, 0)])) := by
                rw [sk5, S5, List.append_assoc, List.cons_append, aim_at]
                have : (mS_ m3 ++ (13, 0) :: (u.2.2.1 ++ [(14, 0)])).length = o + 3 + (es9_ x.2.2.2.1 x.2.2.2.2.1 x.2.2.2.2.2).length + u.2.2.1.length := by
                  rw [List.length_append, L3]
                  simp only [List.length_cons, List.length_append, List.length_nil]; omega
                rw [this]
              rw [A6] at e6
              obtain ⟨m6, hm6⟩ : ∃ m6, m6 = ((m5.1.1, m5.1.2.1, 0, m5.1.2.2.2), (fun q => if q = d then true else m5.2.1 q), (fun q => if q = d then (mS_ m5).length else m5.2.2.1 q), mc_ m5, mS_ m3 ++ ((13, o + 3 + (es9_ x.2.2.2.1 x.2.2.2.2.1 x.2.2.2.2.2).length + u.2.2.1.length) :: (u.2.2.1 ++ [(14, 0)]))) := ⟨_, rfl⟩
              rw [← hm6] at e6
              have e6' := e5.trans e6
              have hS6 := hS (by omega) m6 (u.1 + 1) (o + 3 + (es9_ x.2.2.2.1 x.2.2.2.2.1 x.2.2.2.2.2).length + u.2.2.1.length) u.2.1 han4 (hC _ _ _ _ (show c.1 + 1 ≤ 60 by omega) eu).2 u3 (by rw [hm6]; exact t1) (by rw [hm6]; rfl) (by rw [hm6]; exact t2) (by rw [hm6]; exact t3) (by
                rw [hm6]
                show (mS_ m3 ++ _).length = _
                rw [List.length_append, L3]
                simp only [List.length_cons, List.length_append, List.length_nil]; omega) (fun q hq => by
                rw [hm6]
                show (if q = d then true else m5.2.1 q) = false
                rw [if_neg (by omega), el5]
                exact hel q (by omega))
              cases ev : S (d + 1) (u.1 + 1) u.2.1 (o + 3 + (es9_ x.2.2.2.1 x.2.2.2.2.1 x.2.2.2.2.2).length + u.2.2.1.length) with
              | inl e =>
                rw [ev] at hS6
                exact e6'.trans hS6
              | inr v =>
                rw [ev] at hS6
                rw [eb_r]
                obtain ⟨m7, a7, r7, q7, ⟨v1, v0, v2⟩, v3, v4, ⟨y1, y2, y3, y4, y5, y6⟩⟩ := hS6
                subst q7
                have e7 := e6'.trans r7
                have dd7 : md9_ m7 - 1 = d := by omega
                have el7 : ∀ q, m7.2.1 q = if q = d then true else m.2.1 q := fun q => by
                  rw [y5 q, hm6]
                  show (if q = d then true else m5.2.1 q) = _
                  rw [el5]
                by_cases z125 : w v.1 = 125
                · rw [if_pos z125]
                  have han5 : v.1 < n := by
                    rcases Nat.lt_or_ge v.1 n with q | q
                    · exact q
                    · have := hw.1 v.1 q; omega
                  have e8 := rN_125 hw v1 y1 z125 (by omega) v4
                  rw [dd7] at e8
                  have A8 : aim_ (mS_ m7) (m7.2.2.1 d) = mS_ m ++ ((11, 0) :: ((es9_ x.2.2.2.1 x.2.2.2.2.1 x.2.2.2.2.2) ++ ((13, o + 3 + (es9_ x.2.2.2.1 x.2.2.2.2.1 x.2.2.2.2.2).length + u.2.2.1.length) :: (u.2.2.1 ++ ((14, o + 3 + (es9_ x.2.2.2.1 x.2.2.2.2.1 x.2.2.2.2.2).length + u.2.2.1.length + v.2.2.1.length) :: v.2.2.1))))) := by
                    have sk7 : m7.2.2.1 d = (mS_ m3 ++ (13, o + 3 + (es9_ x.2.2.2.1 x.2.2.2.2.1 x.2.2.2.2.2).length + u.2.2.1.length) :: u.2.2.1).length := by
                      rw [y6 d (by omega), hm6]
                      show (if d = d then (mS_ m5).length else _) = _
                      rw [if_pos rfl, S5]
                      simp only [List.length_append, List.length_cons]
                    have S7 : mS_ m7 = (mS_ m3 ++ (13, o + 3 + (es9_ x.2.2.2.1 x.2.2.2.2.1 x.2.2.2.2.2).length + u.2.2.1.length) :: u.2.2.1) ++ (14, 0) :: v.2.2.1 := by
                      rw [y4, hm6]
                      show (mS_ m3 ++ _) ++ v.2.2.1 = _
                      simp only [List.append_assoc, List.cons_append, List.nil_append]
                    rw [sk7, S7, aim_at]
                    have : ((mS_ m3 ++ (13, o + 3 + (es9_ x.2.2.2.1 x.2.2.2.2.1 x.2.2.2.2.2).length + u.2.2.1.length) :: u.2.2.1) ++ (14, 0) :: v.2.2.1).length = o + 3 + (es9_ x.2.2.2.1 x.2.2.2.2.1 x.2.2.2.2.2).length + u.2.2.1.length + v.2.2.1.length := by
                      rw [List.length_append, List.length_append, L3]
                      simp only [List.length_cons]; omega
                    rw [this, S3]
                    simp only [List.append_assoc, List.cons_append]
                  rw [A8] at e8
                  refine ⟨_, v.1 + 1, e7.trans e8, rfl, ⟨han5, by have := l1.1; have := l1.2.1; have := lx.1; have := lx.2.1; show a < v.1 + 1; omega⟩, v3, rfl, y1, rfl, y3, rfl, fun q => ?_, fun q hq => ?_⟩
                  · show (if q = d then false else m7.2.1 q) = m.2.1 q
                    by_cases qd : q = d
                    · rw [if_pos qd, qd]; exact (hel d (Nat.le_refl _)).symm
                    · rw [if_neg qd, el7, if_neg qd]
                  · show m7.2.2.1 q = m.2.2.1 q
                    rw [y6 q (by omega), hm6]
                    show (if q = d then _ else m5.2.2.1 q) = _
                    rw [if_neg (by omega)]
                    exact sk5b q hq
                · rw [if_neg z125]
                  refine e7.trans ?_
                  rcases v2 with v2 | v2 | v2
                  · exact rN_999n hw v1 y1 v2 (by omega)
                  · exact absurd v2 z125
                  · exact rN_124n hw v1 y1 v2 (fun q => by
                      have := q.2.2.2
                      rw [dd7, el7, if_pos rfl] at this
                      cases this)
            · rw [if_neg z124]
              by_cases z125 : w u.1 = 125
              · rw [if_pos z125]
                have han5 : u.1 < n := by
                  rcases Nat.lt_or_ge u.1 n with q | q
                  · exact q
                  · have := hw.1 u.1 q; omega
                have e8 := rN_125 hw u1 t1 z125 (by omega) u4
                rw [dd] at e8
                have A8 : aim_ (mS_ m5) (m5.2.2.1 d) = mS_ m ++ ((11, 0) :: ((es9_ x.2.2.2.1 x.2.2.2.2.1 x.2.2.2.2.2) ++ ((13, o + 2 + (es9_ x.2.2.2.1 x.2.2.2.2.1 x.2.2.2.2.2).length + u.2.2.1.length) :: u.2.2.1))) := by
                  rw [sk5, S5, aim_at]
                  have : (mS_ m3 ++ (13, 0) :: u.2.2.1).length = o + 2 + (es9_ x.2.2.2.1 x.2.2.2.2.1 x.2.2.2.2.2).length + u.2.2.1.length := by
                    rw [List.length_append, L3]
                    simp only [List.length_cons]; omega
                  rw [this, S3]
                  simp only [List.append_assoc, List.cons_append]
                rw [A8] at e8
                refine ⟨_, u.1 + 1, e5.trans e8, rfl, ⟨han5, by have := l1.1; have := l1.2.1; have := lx.1; have := lx.2.1; show a < u.1 + 1; omega⟩, u3, rfl, t1, rfl, t3, rfl, fun q => ?_, fun q hq => sk5b q hq⟩
                show (if q = d then false else m5.2.1 q) = m.2.1 q
                by_cases qd : q = d
                · rw [if_pos qd, qd]; exact (hel d (Nat.le_refl _)).symm
                · rw [if_neg qd, el5]
              · rw [if_neg z125]
                refine e5.trans ?_
                rcases u2 with u2 | u2 | u2
                · exact rN_999n hw u1 t1 u2 (by omega)
                · exact absurd u2 z125
                · exact absurd u2 z124
        · rw [if_neg z]
          refine e2.trans (hE1.trans ?_)
          by_cases z1 : (tz_ w x.1).1 = 1
          · exact rN_e hw x1 (by omega) (fun q => by cases q) z1
          · rw [rN_t hw x1 (by omega) z1, tr_11 s3 (fun q => z (by simp [isS_, q.1, q.2.1])) (fun b hb z4 zv => by rw [j3]; exact pj b hb z4 zv), eb_l]
            rfl
end RNT
