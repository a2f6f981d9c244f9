/-! THE CLASS'S READER, PURE: tests. Written by wip/b/mk96.py. -/
section RNE
variable {r : Bool} {w : Nat → Nat} {n : Nat} {m M : MM} {a : Nat} {k : Int32} {tt c1 : Nat}
theorem pB_end (hw : wn_ w n) (ha : a ≤ n) (h30 : tt ≤ 30) {x : Nat × Nat × Int32 × BA} (h : pB_ w r a tt k = .inr x) : x.1 ≤ n ∧ a < x.1 ∧ x.2.1 ≤ 30 := by
  have l1 := tz_le hw.1 ha
  have l2 := tz_le hw.1 l1.2.2.1
  unfold pB_ at h
  by_cases c1 : r = false ∧ (isW_ w a 25 = true ∨ isW_ w a 26 = true)
  · rw [if_pos c1] at h
    have z4 : (tz_ w a).1 = 4 := by rcases c1.2 with q | q <;> exact isW_4 q
    have := l1.2.2.2 (by omega) (by omega)
    by_cases zf : (tz_ w (nx9_ w a)).1 = 4 ∧ (tz_ w (nx9_ w a)).2.1 < 10
    · rw [if_pos zf] at h
      cases h
      exact ⟨l2.2.2.1, by have := l2.1; have := l2.2.1; show a < nx9_ w (nx9_ w a); omega, h30⟩
    · rw [if_neg zf] at h; cases h
  · rw [if_neg c1] at h
    by_cases c2 : r = false ∧ isW_ w a 27 = true
    · rw [if_pos c2] at h
      have z4 := isW_4 c2.2
      cases h
      exact ⟨l1.2.2.1, l1.2.2.2 (by omega) (by omega), h30⟩
    · rw [if_neg c2] at h
      cases e : pS_ w r a tt k with
      | inl q => rw [e] at h; cases h
      | inr u =>
        rw [e, eb_r] at h
        obtain ⟨u1, u2, u3, -, -⟩ := pS_end hw ha h30 e
        have lu := tz_le hw.1 u1
        by_cases zr : isS_ w u.1 60 = true ∨ isS_ w u.1 61 = true ∨ isS_ w u.1 62 = true
        · rw [if_pos zr] at h
          cases e2 : pS_ w r (nx9_ w u.1) u.2.1 u.2.2.1 with
          | inl q => rw [e2] at h; cases h
          | inr v =>
            rw [e2, eb_r] at h
            obtain ⟨v1, v2, v3, -, -⟩ := pS_end hw lu.2.2.1 u3 e2
            cases h
            exact ⟨v1, by have := lu.1; have := lu.2.1; show a < v.1; omega, v3⟩
        · rw [if_neg zr] at h; cases h
theorem pN_end (hw : wn_ w n) : ∀ {f a c : Nat}, a ≤ n → (pN_ w f a c).1 ≤ n ∧ a ≤ (pN_ w f a c).1
  | 0, a, _, h => ⟨h, Nat.le_refl _⟩
  | f + 1, a, c, h => by
    have l1 := tz_le hw.1 h
    unfold pN_
    split
    · have ih := pN_end hw (f := f) (c := c + 1) l1.2.2.1
      exact ⟨ih.1, by have := l1.1; have := l1.2.1; omega⟩
    · exact ⟨h, Nat.le_refl _⟩
theorem pO_end (hw : wn_ w n) (ha : a ≤ n) (h30 : tt ≤ 30) {x : Nat × Nat × Int32 × ON} (h : pO_ w r a tt k = .inr x) : x.1 ≤ n ∧ a < x.1 ∧ x.2.1 ≤ 30 := by
  unfold pO_ at h
  have q := pN_end hw (f := 500) (c := 0) ha
  cases e : pB_ w r (pN_ w 500 a 0).1 tt k with
  | inl z => rw [e] at h; cases h
  | inr z =>
    rw [e, eb_r] at h
    have b := pB_end hw q.1 h30 e
    cases h
    exact ⟨b.1, by show a < z.1; omega, b.2.2⟩
/-- turned so many times -/
theorem rN_N (hw : wn_ w n) (ht : mc_ m = (c1, tt, k)) (h30 : tt ≤ 30) : ∀ (f c a : Nat), n < f + a → a ≤ n → rN_ r w n (mst_ m 2 (List.replicate c (7, 0))) a = eb_ (pB_ w r (pN_ w f a c).1 tt k) (fun x => rN_ r w n (mct_ (mst_ m 11 (List.replicate (pN_ w f a c).2 (7, 0) ++ bs9_ x.2.2.2)) (c1, x.2.1, x.2.2.1)) x.1)
  | 0, _, _, h, h2 => by omega
  | f + 1, c, a, h, h2 => by
    have l1 := tz_le hw.1 h2
    obtain ⟨m2, hm2⟩ : ∃ m2, m2 = mst_ m 2 (List.replicate c (7, 0)) := ⟨_, rfl⟩
    have s2 : ms_ m2 = 2 := by rw [hm2]; rfl
    have hc2 : mc_ m2 = (c1, tt, k) := by rw [hm2]; exact ht
    rw [← hm2]
    by_cases z : isW_ w a 24 = true
    · have z4 := isW_4 z
      have zv := isW_v z
      have lt := l1.2.2.2 (by omega) (by omega)
      have ep : pN_ w (f + 1) a c = pN_ w f (nx9_ w a) (c + 1) := by
        conv => lhs; unfold pN_
        rw [if_pos z]
      have et : tr9_ r m2 (tz_ w a) = .inr (mst_ m2 2 [(7, 0)]) := by
        unfold tr9_
        rw [if_neg (by omega), if_neg (by omega), if_pos z4, if_neg (by omega), if_neg (by omega), if_neg (by omega), if_pos ⟨by omega, by omega, s2, Or.inl zv⟩, if_pos zv]
      have em : mst_ m2 2 [(7, 0)] = mst_ m 2 (List.replicate (c + 1) (7, 0)) := by
        rw [hm2, List.replicate_succ']
        simp [mst_]
      rw [ep, rN_t hw h2 (by omega) (by omega), et, eb_r, em]
      exact rN_N hw ht h30 f (c + 1) (nx9_ w a) (by omega) l1.2.2.1
    · have ep : pN_ w (f + 1) a c = (a, c) := by
        conv => lhs; unfold pN_
        rw [if_neg z]
      rw [ep, rN_B hw h2 hc2 s2 z h30]
      refine eb_cong (fun x _ => ?_)
      have em : mct_ (mst_ m2 11 (bs9_ x.2.2.2)) (c1, x.2.1, x.2.2.1) = mct_ (mst_ m 11 (List.replicate c (7, 0) ++ bs9_ x.2.2.2)) (c1, x.2.1, x.2.2.1) := by
        rw [hm2]
        simp [mct_, mst_]
      rw [em]
/-- ONE QUESTION -/
theorem rN_O (hw : wn_ w n) (ha : a ≤ n) (ht : mc_ m = (c1, tt, k)) (h2 : ms_ m = 2) (h30 : tt ≤ 30) : rN_ r w n m a = eb_ (pO_ w r a tt k) (fun x => rN_ r w n (mct_ (mst_ m 11 (os9_ x.2.2.2)) (c1, x.2.1, x.2.2.1)) x.1) := by
  have hn := hw.2.2
  have e0 : mst_ m 2 (List.replicate 0 (7, 0)) = m := by
    obtain ⟨⟨s, rest⟩, e, sk, c, S⟩ := m
    have : s = 2 := h2
    subst this
    simp [mst_]
  have q := rN_N (r := r) (m := m) hw ht h30 500 0 a (by omega) ha
  rw [e0] at q
  rw [q]
  unfold pO_
  rw [eb_as]
  exact eb_cong (fun x _ => by rw [eb_r]; rfl)
theorem js_app (j : Nat) : ∀ (l : List ON) (o : ON), js9_ j (l ++ [o]) = js9_ j l ++ ((12, j) :: os9_ o)
  | [], o => by simp [js9_]
  | q :: l, o => by
    show (12, j) :: (os9_ q ++ js9_ j (l ++ [o])) = ((12, j) :: (os9_ q ++ js9_ j l)) ++ _
    rw [js_app j l o, List.cons_append, List.append_assoc]
/-- a join -/
theorem tr_join {by_ : Nat} (hb : by_ = 1 ∨ by_ = 2) (hs : ms_ m = 11) (hj : mj_ m = 0 ∨ mj_ m = by_) (hz : isW_ w a (by_ + 21) = true) : tr9_ r m (tz_ w a) = .inr (mst_ (mjn_ m by_) 2 [(12, by_)]) := by
  have z4 := isW_4 hz
  have zv := isW_v hz
  have e : mcl_ m = m := if_neg (by omega)
  have e2 : (tz_ w a).2.1 - 21 = by_ := by omega
  unfold tr9_
  rw [if_neg (by omega), if_neg (by omega), if_pos z4, if_neg (by omega), if_pos (by omega), e, e2, if_pos ⟨hs, hj⟩]
theorem rN_J (hw : wn_ w n) {by_ : Nat} (hb : by_ = 1 ∨ by_ = 2) (P : List SP) : ∀ (f a tt : Nat) (k : Int32) (l : List ON), n < f + a → a ≤ n → tt ≤ 30 → rN_ r w n (mct_ (mst_ (mjn_ m by_) 11 (P ++ js9_ by_ l)) (c1, tt, k)) a = eb_ (pJ_ w r (by_ + 21) f a tt k l) (fun x => rN_ r w n (mct_ (mst_ (mjn_ m by_) 11 (P ++ js9_ by_ x.2.2.2)) (c1, x.2.1, x.2.2.1)) x.1)
  | 0, _, _, _, _, h, h2, _ => by omega
  | f + 1, a, tt, k, l, h, h2, h30 => by
    have l1 := tz_le hw.1 h2
    obtain ⟨m1, hm1⟩ : ∃ m1, m1 = mct_ (mst_ (mjn_ m by_) 11 (P ++ js9_ by_ l)) (c1, tt, k) := ⟨_, rfl⟩
    have s1 : ms_ m1 = 11 := by rw [hm1]; rfl
    have j1 : mj_ m1 = by_ := by rw [hm1]; rfl
    conv => rhs; unfold pJ_
    by_cases z : isW_ w a (by_ + 21) = true
    · have z4 := isW_4 z
      have lt := l1.2.2.2 (by omega) (by omega)
      rw [if_pos z, ← hm1, rN_t hw h2 (by omega) (by omega), tr_join hb s1 (Or.inr j1) z, eb_r]
      obtain ⟨m2, hm2⟩ : ∃ m2, m2 = mst_ (mjn_ m1 by_) 2 [(12, by_)] := ⟨_, rfl⟩
      rw [← hm2, rN_O (m := m2) (c1 := c1) (tt := tt) (k := k) hw l1.2.2.1 (by rw [hm2, hm1]; rfl) (by rw [hm2]; rfl) h30, eb_as]
      refine eb_cong (fun x hx => ?_)
      obtain ⟨x1, x2, x3⟩ := pO_end hw l1.2.2.1 h30 hx
      have em : mct_ (mst_ m2 11 (os9_ x.2.2.2)) (c1, x.2.1, x.2.2.1) = mct_ (mst_ (mjn_ m by_) 11 (P ++ js9_ by_ (l ++ [x.2.2.2]))) (c1, x.2.1, x.2.2.1) := by
        rw [hm2, hm1, js_app]
        simp [mct_, mst_, mjn_]
      rw [em]
      exact rN_J hw hb P f x.1 x.2.1 x.2.2.1 _ (by omega) x1 x3
    · rw [if_neg z, eb_r]
theorem pJ_end (hw : wn_ w n) {j : Nat} : ∀ {f a tt : Nat} {k : Int32} {l : List ON} {x : Nat × Nat × Int32 × List ON}, a ≤ n → tt ≤ 30 → pJ_ w r j f a tt k l = .inr x → x.1 ≤ n ∧ a ≤ x.1 ∧ x.2.1 ≤ 30 ∧ isW_ w x.1 j = false
  | 0, _, _, _, _, _, _, _, h => by cases h
  | f + 1, a, tt, k, l, x, ha, h30, h => by
    have l1 := tz_le hw.1 ha
    unfold pJ_ at h
    by_cases z : isW_ w a j = true
    · rw [if_pos z] at h
      cases e : pO_ w r (nx9_ w a) tt k with
      | inl q => rw [e] at h; cases h
      | inr u =>
        rw [e, eb_r] at h
        obtain ⟨u1, u2, u3⟩ := pO_end hw l1.2.2.1 h30 e
        have ih := pJ_end hw (f := f) u1 u3 h
        exact ⟨ih.1, by have := l1.1; have := l1.2.1; omega, ih.2.2⟩
    · rw [if_neg z] at h
      cases h
      exact ⟨ha, Nat.le_refl _, h30, by simpa using z⟩
/-- A TEST -/
theorem rN_E (hw : wn_ w n) (ha : a ≤ n) (ht : mc_ m = (c1, tt, k)) (h2 : ms_ m = 2) (h0 : mj_ m = 0) (h30 : tt ≤ 30) : rN_ r w n m a = eb_ (pE_ w r a tt k) (fun x => rN_ r w n (mct_ (mst_ (mjn_ m x.2.2.2.1) 11 (es9_ x.2.2.2.1 x.2.2.2.2.1 x.2.2.2.2.2)) (c1, x.2.1, x.2.2.1)) x.1) := by
  have hn := hw.2.2
  unfold pE_
  rw [rN_O hw ha ht h2 h30, eb_as]
  refine eb_cong (fun x hx => ?_)
  obtain ⟨x1, x2, x3⟩ := pO_end hw ha h30 hx
  have e0 : mjn_ m 0 = m := by
    obtain ⟨⟨s, j, rest⟩, q⟩ := m
    have : j = 0 := h0
    subst this
    rfl
  have first : ∀ b, b = 1 ∨ b = 2 → isW_ w x.1 (b + 21) = true → rN_ r w n (mct_ (mst_ m 11 (os9_ x.2.2.2)) (c1, x.2.1, x.2.2.1)) x.1 = rN_ r w n (mct_ (mst_ (mjn_ m b) 11 (os9_ x.2.2.2 ++ js9_ b [])) (c1, x.2.1, x.2.2.1)) x.1 := fun b hb hz => by
    have z4 := isW_4 hz
    have ea : os9_ x.2.2.2 ++ js9_ b [] = os9_ x.2.2.2 := List.append_nil _
    rw [ea, rN_t hw x1 (show ms_ (mct_ (mst_ m 11 (os9_ x.2.2.2)) (c1, x.2.1, x.2.2.1)) ≠ 0 from (by decide : (11 : Nat) ≠ 0)) (by omega), rN_t (m := mct_ (mst_ (mjn_ m b) 11 (os9_ x.2.2.2)) (c1, x.2.1, x.2.2.1)) hw x1 (by decide : (11 : Nat) ≠ 0) (by omega), tr_join (m := mct_ (mst_ m 11 (os9_ x.2.2.2)) (c1, x.2.1, x.2.2.1)) hb rfl (Or.inl h0) hz, tr_join (m := mct_ (mst_ (mjn_ m b) 11 (os9_ x.2.2.2)) (c1, x.2.1, x.2.2.1)) hb rfl (Or.inr rfl) hz]
    rfl
  by_cases z1 : isW_ w x.1 22 = true
  · rw [if_pos z1, first 1 (Or.inl rfl) z1, rN_J (m := m) (c1 := c1) hw (by_ := 1) (Or.inl rfl) (os9_ x.2.2.2) 500 x.1 x.2.1 x.2.2.1 [] (by omega) x1 x3, eb_as]
    exact eb_cong (fun y _ => by rw [eb_r]; rfl)
  · rw [if_neg z1]
    by_cases z2 : isW_ w x.1 23 = true
    · rw [if_pos z2, first 2 (Or.inr rfl) z2, rN_J (m := m) (c1 := c1) hw (by_ := 2) (Or.inr rfl) (os9_ x.2.2.2) 500 x.1 x.2.1 x.2.2.1 [] (by omega) x1 x3, eb_as]
      exact eb_cong (fun y _ => by rw [eb_r]; rfl)
    · rw [if_neg z2, eb_r]
      show _ = rN_ r w n (mct_ (mst_ (mjn_ m 0) 11 (os9_ x.2.2.2 ++ [])) (c1, x.2.1, x.2.2.1)) x.1
      rw [e0, List.append_nil]
end RNE
