/-! THE REFERENCE READS: tests. Written by wip/b/mk87.py. -/
section RTEST
variable {σ τ τ0 : TH} {y : Nat} {G : GH} {A : AS} {N : Nat → Nat} {t n p : Nat} {w : Nat → Nat} {ru : Int32} {E : EV9} {r : Bool} {a tt : Nat} {k : Int32}
theorem bi_W (w : Nat → Nat) (a c : Nat) : bi_ ((tz_ w a).1 = 4 ∧ (tz_ w a).2.1 = c) = bi_ (isW_ w a c = true) := by
  have : (isW_ w a c = true) = ((tz_ w a).1 = 4 ∧ (tz_ w a).2.1 = c) := by simp [isW_]
  simp only [this]
theorem isW_4 {w : Nat → Nat} {a c : Nat} (h : isW_ w a c = true) : (tz_ w a).1 = 4 := by
  simp [isW_] at h; exact h.1
theorem isS_3 {w : Nat → Nat} {a c : Nat} (h : isS_ w a c = true) : (tz_ w a).1 = 3 := by
  simp [isS_] at h; exact h.1
theorem isS_v {w : Nat → Nat} {a c : Nat} (h : isS_ w a c = true) : (tz_ w a).2.1 = c := by
  simp [isS_] at h; exact h.2
theorem b282 (τ : TH) {q : Prop} [Decidable q] : f_X15_bare_b282 τ (bi_ q) = some (.inl (bi_ q), τ) := gt_t bi_01
theorem m_bare (hE : ve_ σ y G A N t n p w ru r E) (h : rt_ σ y G A N t n p w ru τ0 a tt k τ) : rr_ (pB_ w r a tt k) (f_X15_bare τ y) (rz_ σ y G A N t n p w ru) (ga_ G 25 0) (fun x v τ' => rt_ σ y G A N t n p w ru τ0 x.1 x.2.1 x.2.2.1 τ' ∧ v = bi_ (bz9_ E x.2.2.2 = true) ∧ a < x.1) := by
  have hy := rs_y h.1
  have hru : fi_ τ 1645 y = ru := h.1.2.2.2.2.2.1.2.2.2
  have hw := h.1.2.2.2.2.1.2.1
  have tv := h.2.1
  have big : rr_ (eb_ (pS_ w r a tt k) (fun x =>
    if isS_ w x.1 60 = true ∨ isS_ w x.1 61 = true ∨ isS_ w x.1 62 = true then
      eb_ (pS_ w r (nx9_ w x.1) x.2.1 x.2.2.1) (fun z => .inr (z.1, z.2.1, z.2.2.1, 6, (tz_ w x.1).2.1, x.2.2.2, z.2.2.2))
    else .inl (1, pl9_ w x.1))) (f_X15_bare_b163 τ y) (rz_ σ y G A N t n p w ru) (ga_ G 25 0) (fun x v τ' => rt_ σ y G A N t n p w ru τ0 x.1 x.2.1 x.2.2.1 τ' ∧ v = bi_ (bz9_ E x.2.2.2 = true) ∧ a < x.1) := by
    unfold f_X15_bare_b163
    rw [gt_t hy]
    refine rr_bx (m_sum hE h) (fun x v τ1 hx => ?_)
    obtain ⟨x1, x2, x3⟩ := hx
    have hy1 := rs_y x1.1
    have go : ∀ (T : Int32) (c : Nat), (T = 0 ∧ c = 60) ∨ (T = 1 ∧ c = 61) ∨ (T = 2 ∧ c = 62) → isS_ w x.1 c = true → rr_ (eb_ (pS_ w r (nx9_ w x.1) x.2.1 x.2.2.1) (fun z => .inr (z.1, z.2.1, z.2.2.1, 6, (tz_ w x.1).2.1, x.2.2.2, z.2.2.2))) (f_X15_bare_b208 τ1 y v T) (rz_ σ y G A N t n p w ru) (ga_ G 25 0) (fun x v τ' => rt_ σ y G A N t n p w ru τ0 x.1 x.2.1 x.2.2.1 τ' ∧ v = bi_ (bz9_ E x.2.2.2 = true) ∧ a < x.1) := fun T c hT hc => by
      obtain ⟨u, τ2, e1, e2⟩ := m_nxt x1
      have hT1 : ¬ T = -1 := by rcases hT with q | q | q <;> (rw [q.1]; decide)
      unfold f_X15_bare_b208
      rw [if_neg hT1, gt_t hy1, e1, bd_s]
      refine rr_bx (m_sum hE e2) (fun z v2 τ3 hz => ?_)
      obtain ⟨z1, z2, z3⟩ := hz
      have l1 := tz_le hw x1.2.2.1
      have lt : a < z.1 := by have := l1.1; have := l1.2.1; omega
      have ev := isS_v hc
      have eb : bz9_ E (6, (tz_ w x.1).2.1, x.2.2.2, z.2.2.2) = cm9_ c v v2 := by
        show cm9_ (tz_ w x.1).2.1 (sv9_ E x.2.2.2 0) (sv9_ E z.2.2.2 0) = _
        rw [ev, ← x2, ← z2]
      rcases hT with ⟨q1, q2⟩ | ⟨q1, q2⟩ | ⟨q1, q2⟩
      · subst q1; subst q2
        refine ⟨bi_ (cm9_ 60 v v2 = true), τ3, ?_, z1, by rw [eb], lt⟩
        have ec : cm9_ 60 v v2 = decide (v < v2) := rfl
        (try dsimp only)
        rw [if_pos rfl, ec]
        by_cases q : v2 ≤ v
        · rw [if_pos q, bi_f (by simpa using q)]; rfl
        · rw [if_neg q, bi_t (by simpa using q)]; rfl
      · subst q1; subst q2
        refine ⟨bi_ (cm9_ 61 v v2 = true), τ3, ?_, z1, by rw [eb], lt⟩
        have ec : cm9_ 61 v v2 = decide (v = v2) := rfl
        (try dsimp only)
        rw [if_neg (by decide), if_pos rfl, ec]
        by_cases q : v = v2
        · rw [if_pos q, bi_t (by simpa using q)]; rfl
        · rw [if_neg q, bi_f (by simpa using q)]; rfl
      · subst q1; subst q2
        refine ⟨bi_ (cm9_ 62 v v2 = true), τ3, ?_, z1, by rw [eb], lt⟩
        have ec : cm9_ 62 v v2 = decide (v2 < v) := rfl
        (try dsimp only)
        rw [if_neg (by decide), if_neg (by decide), ec]
        by_cases q : v ≤ v2
        · rw [if_pos q, bi_f (by simpa using q)]; rfl
        · rw [if_neg q, bi_t (by simpa using q)]; rfl
    rw [m_isS x1 (c := 60) (C := 60) rfl (by decide), bd_s]
    by_cases c1 : isS_ w x.1 60 = true
    · rw [if_pos (Or.inl c1), bi_t c1, if_neg (show ¬ (1 : Int32) = 0 by decide)]
      exact go 0 60 (Or.inl ⟨rfl, rfl⟩) c1
    rw [bi_f c1, if_pos (show (0 : Int32) = 0 from rfl), m_isS x1 (c := 61) (C := 61) rfl (by decide), bd_s]
    by_cases c2 : isS_ w x.1 61 = true
    · rw [if_pos (Or.inr (Or.inl c2)), bi_t c2, if_neg (show ¬ (1 : Int32) = 0 by decide)]
      exact go 1 61 (Or.inr (Or.inl ⟨rfl, rfl⟩)) c2
    rw [bi_f c2, if_pos (show (0 : Int32) = 0 from rfl), m_isS x1 (c := 62) (C := 62) rfl (by decide), bd_s]
    by_cases c3 : isS_ w x.1 62 = true
    · rw [if_pos (Or.inr (Or.inr c3)), bi_t c3, if_neg (show ¬ (1 : Int32) = 0 by decide)]
      exact go 2 62 (Or.inr (Or.inr ⟨rfl, rfl⟩)) c3
    rw [if_neg (fun q => q.elim c1 (fun q => q.elim c2 c3)), bi_f c3, if_pos (show (0 : Int32) = 0 from rfl)]
    unfold f_X15_bare_b208
    rw [if_pos rfl, gt_t hy1]
    exact m_stopT x1 1 1 rfl
  have b44 : ∀ (H : Int32) (c : Nat), (H = 1 ∧ c = 8) ∨ (H = 0 ∧ c = 9) → (tz_ w a).1 = 4 → rr_ (if (tz_ w (nx9_ w a)).1 = 4 ∧ (tz_ w (nx9_ w a)).2.1 < 10 then .inr (nx9_ w (nx9_ w a), tt, k ||| ((1 : Int32) <<< (nI (tz_ w (nx9_ w a)).2.1 &&& 31)), c, (tz_ w (nx9_ w a)).2.1, [], [])
    else .inl (1, pl9_ w (nx9_ w a))) (f_X15_bare_b44 τ y H) (rz_ σ y G A N t n p w ru) (ga_ G 25 0) (fun x v τ' => rt_ σ y G A N t n p w ru τ0 x.1 x.2.1 x.2.2.1 τ' ∧ v = bi_ (bz9_ E x.2.2.2 = true) ∧ a < x.1) := fun H c hH h4 => by
    obtain ⟨u, τ1, e1, e2⟩ := m_nxt h
    have hy1 := rs_y e2.1
    obtain ⟨f1, f2⟩ := m_isFact e2.2.1 hy1
    unfold f_X15_bare_b44
    rw [gt_t hy, e1, bd_s, f1, bd_s]
    by_cases z : (tz_ w (nx9_ w a)).1 = 4 ∧ (tz_ w (nx9_ w a)).2.1 < 10
    · rw [if_pos z, bi_t z, if_neg (show ¬ (1 : Int32) = 0 by decide), lt_e, f2 z.1 z.2, lt_e, lt_e]
      have u1 : rt_ σ y G A N t n p w ru τ0 (nx9_ w a) tt (k ||| ((1 : Int32) <<< (nI (tz_ w (nx9_ w a)).2.1 &&& 31))) (si_ τ1 1640 y (fi_ τ1 1640 y ||| ((1 : Int32) <<< (nI (tz_ w (nx9_ w a)).2.1 &&& 31)))) := by
        obtain ⟨u1, u2, u3, ⟨u4, u5, u6⟩, u7, u8, u9⟩ := e2
        refine ⟨rs_si u1 (j := 40) (by decide) rfl _, tv_si u2 (by decide), u3, ⟨?_, u5, ?_⟩, ?_, ?_, u9⟩
        · rw [fi_si, up2_c (by decide)]; exact u4
        · rw [fi_si, up2_s, u6]
        · rw [fi_si, up2_c (by decide)]; exact u7
        · rw [fi_si, up2_c (by decide)]; exact u8
      obtain ⟨u', τ2, g1, g2⟩ := m_nxt u1
      rw [g1, bd_s]
      have l1 := tz_le hw h.2.2.1
      have l2 := tz_le hw e2.2.2.1
      have lt : a < nx9_ w (nx9_ w a) := by
        have := l1.2.2.2 (by omega) (by omega)
        have := l2.1; have := l2.2.1
        omega
      obtain ⟨⟨x, o1, o2⟩, o3⟩ := hE.2.2.2.1 τ2 g2.1 _ z.2
      have w1 : fi_ τ2 1643 y = nI p := g2.1.2.2.2.2.2.1.2.1
      have w2 : fi_ τ2 1644 y = nI (td_ N) := g2.1.2.2.2.2.2.1.2.2.1
      rcases hH with ⟨q1, q2⟩ | ⟨q1, q2⟩
      · subst q1; subst q2
        refine ⟨bi_ (E.2.1 (tz_ w (nx9_ w a)).2.1 = true), τ2, ?_, g2, rfl, lt⟩
        rw [if_neg (show ¬ (1 : Int32) = 0 by decide), lt_e, lt_e, w1, w2, o1, bd_s]
        by_cases qx : x = -1
        · rw [if_pos qx, bi_f (by rw [o2.mp qx]; decide)]; rfl
        · rw [if_neg qx, bi_t (by cases hb : E.2.1 (tz_ w (nx9_ w a)).2.1 with
            | true => rfl
            | false => exact absurd (o2.mpr hb) qx)]; rfl
      · subst q1; subst q2
        refine ⟨bi_ (E.2.2.1 (tz_ w (nx9_ w a)).2.1 = true), τ2, ?_, g2, rfl, lt⟩
        rw [if_pos rfl, lt_e, lt_e, w1, w2, o3, bd_s]
        exact gt_t bi_01
    · rw [if_neg z, bi_f z, if_pos (show (0 : Int32) = 0 from rfl)]
      exact m_stopT e2 1 1 rfl
  have b129 : rr_ (if r = false ∧ isW_ w a 27 = true then .inr (nx9_ w a, tt, k, 10, 0, [], [])
    else eb_ (pS_ w r a tt k) (fun x =>
    if isS_ w x.1 60 = true ∨ isS_ w x.1 61 = true ∨ isS_ w x.1 62 = true then
      eb_ (pS_ w r (nx9_ w x.1) x.2.1 x.2.2.1) (fun z => .inr (z.1, z.2.1, z.2.2.1, 6, (tz_ w x.1).2.1, x.2.2.2, z.2.2.2))
    else .inl (1, pl9_ w x.1))) (f_X15_bare_b129 τ y) (rz_ σ y G A N t n p w ru) (ga_ G 25 0) (fun x v τ' => rt_ σ y G A N t n p w ru τ0 x.1 x.2.1 x.2.2.1 τ' ∧ v = bi_ (bz9_ E x.2.2.2 = true) ∧ a < x.1) := by
    unfold f_X15_bare_b129
    rw [gt_t hy, lt_e, hru]
    rcases hE.1 with ⟨q1, q2⟩ | ⟨q1, q2⟩
    · rw [if_pos q1, m_w_dead tv hy, bd_s, bi_W]
      by_cases c : isW_ w a 27 = true
      · rw [if_pos ⟨q2, c⟩, bi_t c, if_neg (show ¬ (1 : Int32) = 0 by decide)]
        obtain ⟨u, τ1, e1, e2⟩ := m_nxt h
        have w1 : fi_ τ1 1643 y = nI p := e2.1.2.2.2.2.2.1.2.1
        have w2 : fi_ τ1 1644 y = nI (td_ N) := e2.1.2.2.2.2.2.1.2.2.1
        have z4 := isW_4 c
        refine ⟨bi_ (E.2.2.2 = true), τ1, ?_, e2, rfl, (tz_le hw h.2.2.1).2.2.2 (by omega) (by omega)⟩
        rw [e1, bd_s, lt_e, lt_e, w1, w2, hE.2.2.2.2 τ1 e2.1, bd_s]
        exact gt_t bi_01
      · rw [if_neg (fun q => c q.2), bi_f c, if_pos (show (0 : Int32) = 0 from rfl)]
        exact big
    · rw [if_neg (show ¬ (r = false ∧ isW_ w a 27 = true) from fun q => by rw [q2] at q; exact absurd q.1 (by decide)), if_neg (show ¬ ru = 0 by rw [q1]; decide)]
      exact big
  unfold pB_ f_X15_bare
  rw [gt_t hy, lt_e, hru]
  rcases hE.1 with ⟨q1, q2⟩ | ⟨q1, q2⟩
  · rw [if_pos q1, m_w_has tv hy, bd_s, bi_W]
    by_cases c : isW_ w a 25 = true
    · rw [if_pos ⟨q2, Or.inl c⟩, if_pos c, bi_t c, if_neg (show ¬ (1 : Int32) = 0 by decide)]
      unfold f_X15_bare_b22
      rw [if_neg (show ¬ (1 : Int32) = 0 by decide)]
      exact b44 1 8 (Or.inl ⟨rfl, rfl⟩) (isW_4 c)
    · rw [bi_f c, if_pos (show (0 : Int32) = 0 from rfl), if_neg c]
      unfold f_X15_bare_b21 f_X15_bare_b22
      rw [if_pos (show (0 : Int32) = 0 from rfl), gt_t hy, lt_e, hru, if_pos q1, m_w_stale tv hy, bd_s, bi_W]
      by_cases c2 : isW_ w a 26 = true
      · rw [if_pos ⟨q2, Or.inr c2⟩, bi_t c2, if_neg (show ¬ (1 : Int32) = 0 by decide)]
        exact b44 0 9 (Or.inr ⟨rfl, rfl⟩) (isW_4 c2)
      · rw [if_neg (fun q => q.2.elim c c2), bi_f c2, if_pos (show (0 : Int32) = 0 from rfl)]
        exact b129
  · have n0 : ¬ ru = 0 := by rw [q1]; decide
    rw [if_neg (show ¬ (r = false ∧ (isW_ w a 25 = true ∨ isW_ w a 26 = true)) from fun q => by rw [q2] at q; exact absurd q.1 (by decide)), if_neg n0]
    unfold f_X15_bare_b21 f_X15_bare_b22
    rw [if_pos (show (0 : Int32) = 0 from rfl), gt_t hy, lt_e, hru, if_neg n0]
    exact b129
/-- turned or not -/
theorem m_oneN (hE : ve_ σ y G A N t n p w ru r E) : ∀ (f g a c : Nat) (τ : TH), n < f + a → f ≤ g → rt_ σ y G A N t n p w ru τ0 a tt k τ → rr_ (eb_ (pB_ w r (pN_ w f a c).1 tt k) (fun x => .inr (x.1, x.2.1, x.2.2.1, (pN_ w f a c).2, x.2.2.2))) (f_X15_one_b2 g τ y (bi_ (c % 2 = 1))) (rz_ σ y G A N t n p w ru) (ga_ G 25 0) (fun x v τ' => rt_ σ y G A N t n p w ru τ0 x.1 x.2.1 x.2.2.1 τ' ∧ v = bi_ (ov9_ E x.2.2.2 = true) ∧ a < x.1)
  | 0, _, a, _, _, h1, _, h => by have := h.2.2.1; omega
  | f + 1, 0, _, _, _, _, h2, _ => by omega
  | f + 1, g + 1, a, c, τ, h1, h2, h => by
    have hy := rs_y h.1
    have hw := h.1.2.2.2.2.1.2.1
    unfold pN_ f_X15_one_b2
    rw [gt_t hy, m_w_not h.2.1 hy, bd_s, bi_W]
    by_cases z : isW_ w a 24 = true
    · rw [if_pos z, bi_t z, if_neg (show ¬ (1 : Int32) = 0 by decide)]
      obtain ⟨u, τ1, e1, e2⟩ := m_nxt h
      have z4 := isW_4 z
      have lt := (tz_le hw h.2.2.1).2.2.2 (by omega) (by omega)
      have b21 : ∀ v, f_X15_one_b21 (f_X15_one_b2 g) τ y v = f_X15_one_b2 g τ1 y v := fun v => by
        unfold f_X15_one_b21
        rw [gt_t hy, e1]
        rfl
      have ih := m_oneN hE f g (nx9_ w a) (c + 1) τ1 (by omega) (by omega) e2
      rw [b21, b21]
      have e3 : (if bi_ (c % 2 = 1) = 0 then f_X15_one_b2 g τ1 y 1 else f_X15_one_b2 g τ1 y 0) = f_X15_one_b2 g τ1 y (bi_ ((c + 1) % 2 = 1)) := by
        by_cases q : c % 2 = 1
        · rw [bi_t q, if_neg (by decide), bi_f (by omega)]
        · rw [bi_f q, if_pos rfl, bi_t (by omega)]
      rw [e3]
      exact rr_mono ih (fun b v τ hb => ⟨hb.1, hb.2.1, by omega⟩)
    · rw [if_neg z, bi_f z, if_pos (show (0 : Int32) = 0 from rfl)]
      refine rr_bx (m_bare hE h) (fun x v τ1 hx => ?_)
      obtain ⟨x1, x2, x3⟩ := hx
      refine ⟨bi_ (ov9_ E (c, x.2.2.2) = true), τ1, ?_, x1, rfl, x3⟩
      have eo : ov9_ E (c, x.2.2.2) = (bz9_ E x.2.2.2 != decide (c % 2 = 1)) := rfl
      rw [x2, eo]
      by_cases q : c % 2 = 1
      · rw [bi_t q]
        cases hb : bz9_ E x.2.2.2
        · simp [bi_, q, f_X15_one_b42, gt_]
        · simp [bi_, q, f_X15_one_b42, gt_]
      · rw [bi_f q]
        cases hb : bz9_ E x.2.2.2
        · simp [bi_, q, f_X15_one_b42, gt_]
        · simp [bi_, q, f_X15_one_b42, gt_]
theorem m_one (hE : ve_ σ y G A N t n p w ru r E) (h : rt_ σ y G A N t n p w ru τ0 a tt k τ) : rr_ (pO_ w r a tt k) (f_X15_one τ y) (rz_ σ y G A N t n p w ru) (ga_ G 25 0) (fun x v τ' => rt_ σ y G A N t n p w ru τ0 x.1 x.2.1 x.2.2.1 τ' ∧ v = bi_ (ov9_ E x.2.2.2 = true) ∧ a < x.1) := by
  have hn4 := h.1.2.2.2.2.1.2.2
  exact m_oneN hE 500 fu_ a 0 τ (by omega) (by decide) h
theorem jv_app (E : EV9) (j : Nat) : ∀ (l : List ON) (o : ON) (v : Bool), jv9_ E j (l ++ [o]) v = (if j = 1 then jv9_ E j l v && ov9_ E o else jv9_ E j l v || ov9_ E o)
  | [], _, _ => rfl
  | q :: l, o, v => jv_app E j l o _
theorem m_join1 (hE : ve_ σ y G A N t n p w ru r E) (v0 : Bool) : ∀ (f g a tt : Nat) (k : Int32) (l : List ON) (τ : TH) (v : Int32), n < f + a → f ≤ g → rt_ σ y G A N t n p w ru τ0 a tt k τ → v = bi_ (jv9_ E 1 l v0 = true) → rr_ (pJ_ w r 22 f a tt k l) (f_X15_test_b15 g τ y v) (rz_ σ y G A N t n p w ru) (ga_ G 25 0) (fun x v τ' => rt_ σ y G A N t n p w ru τ0 x.1 x.2.1 x.2.2.1 τ' ∧ v = bi_ (jv9_ E 1 x.2.2.2 v0 = true) ∧ a ≤ x.1)
  | 0, _, a, _, _, _, _, _, h1, _, h, _ => by have := h.2.2.1; omega
  | f + 1, 0, _, _, _, _, _, _, _, h2, _, _ => by omega
  | f + 1, g + 1, a, tt, k, l, τ, v, h1, h2, h, hv => by
    have hy := rs_y h.1
    have hw := h.1.2.2.2.2.1.2.1
    unfold pJ_ f_X15_test_b15
    rw [gt_t hy, m_w_and h.2.1 hy, bd_s, bi_W]
    by_cases z : isW_ w a 22 = true
    · rw [if_pos z, bi_t z, if_neg (show ¬ (1 : Int32) = 0 by decide)]
      obtain ⟨u, τ1, e1, e2⟩ := m_nxt h
      have z4 := isW_4 z
      have lt := (tz_le hw h.2.2.1).2.2.2 (by omega) (by omega)
      rw [e1, bd_s]
      refine rr_bx (m_one hE e2) (fun x v2 τ2 hx => ?_)
      obtain ⟨x1, x2, x3⟩ := hx
      have ih := m_join1 hE v0 f g x.1 x.2.1 x.2.2.1 (l ++ [x.2.2.2]) τ2 (bi_ (jv9_ E 1 (l ++ [x.2.2.2]) v0 = true)) (by omega) (by omega) x1 rfl
      have e3 : (if v = 0 then f_X15_test_b46 (f_X15_test_b15 g) τ2 y else if v2 = 0 then f_X15_test_b46 (f_X15_test_b15 g) τ2 y else f_X15_test_b47 (f_X15_test_b15 g) τ2 y 1) = f_X15_test_b15 g τ2 y (bi_ (jv9_ E 1 (l ++ [x.2.2.2]) v0 = true)) := by
        rw [jv_app, hv, x2]
        cases jv9_ E 1 l v0 <;> cases ov9_ E x.2.2.2 <;> simp [bi_, f_X15_test_b46, f_X15_test_b47]
      rw [e3]
      exact rr_mono ih (fun b v τ hb => ⟨hb.1, hb.2.1, by omega⟩)
    · rw [if_neg z, bi_f z, if_pos (show (0 : Int32) = 0 from rfl)]
      refine ⟨v, τ, ?_, h, hv, Nat.le_refl _⟩
      rw [hv]
      exact gt_t bi_01
theorem m_join2 (hE : ve_ σ y G A N t n p w ru r E) (v0 : Bool) : ∀ (f g a tt : Nat) (k : Int32) (l : List ON) (τ : TH) (v : Int32), n < f + a → f ≤ g → rt_ σ y G A N t n p w ru τ0 a tt k τ → v = bi_ (jv9_ E 2 l v0 = true) → rr_ (pJ_ w r 23 f a tt k l) (f_X15_test_b51 g τ y v) (rz_ σ y G A N t n p w ru) (ga_ G 25 0) (fun x v τ' => rt_ σ y G A N t n p w ru τ0 x.1 x.2.1 x.2.2.1 τ' ∧ v = bi_ (jv9_ E 2 x.2.2.2 v0 = true) ∧ a ≤ x.1)
  | 0, _, a, _, _, _, _, _, h1, _, h, _ => by have := h.2.2.1; omega
  | f + 1, 0, _, _, _, _, _, _, _, h2, _, _ => by omega
  | f + 1, g + 1, a, tt, k, l, τ, v, h1, h2, h, hv => by
    have hy := rs_y h.1
    have hw := h.1.2.2.2.2.1.2.1
    unfold pJ_ f_X15_test_b51
    rw [gt_t hy, m_w_or h.2.1 hy, bd_s, bi_W]
    by_cases z : isW_ w a 23 = true
    · rw [if_pos z, bi_t z, if_neg (show ¬ (1 : Int32) = 0 by decide)]
      obtain ⟨u, τ1, e1, e2⟩ := m_nxt h
      have z4 := isW_4 z
      have lt := (tz_le hw h.2.2.1).2.2.2 (by omega) (by omega)
      rw [e1, bd_s]
      refine rr_bx (m_one hE e2) (fun x v2 τ2 hx => ?_)
      obtain ⟨x1, x2, x3⟩ := hx
      have ih := m_join2 hE v0 f g x.1 x.2.1 x.2.2.1 (l ++ [x.2.2.2]) τ2 (bi_ (jv9_ E 2 (l ++ [x.2.2.2]) v0 = true)) (by omega) (by omega) x1 rfl
      have e3 : (if v = 0 then (if v2 = 0 then f_X15_test_b83 (f_X15_test_b51 g) τ2 y 0 else f_X15_test_b78 (f_X15_test_b51 g) τ2 y) else f_X15_test_b78 (f_X15_test_b51 g) τ2 y) = f_X15_test_b51 g τ2 y (bi_ (jv9_ E 2 (l ++ [x.2.2.2]) v0 = true)) := by
        rw [jv_app, hv, x2]
        cases jv9_ E 2 l v0 <;> cases ov9_ E x.2.2.2 <;> simp [bi_, f_X15_test_b78, f_X15_test_b83]
      rw [e3]
      exact rr_mono ih (fun b v τ hb => ⟨hb.1, hb.2.1, by omega⟩)
    · rw [if_neg z, bi_f z, if_pos (show (0 : Int32) = 0 from rfl)]
      refine ⟨v, τ, ?_, h, hv, Nat.le_refl _⟩
      rw [hv]
      exact gt_t bi_01
theorem m_test (hE : ve_ σ y G A N t n p w ru r E) (h : rt_ σ y G A N t n p w ru τ0 a tt k τ) : rr_ (pE_ w r a tt k) (f_X15_test τ y) (rz_ σ y G A N t n p w ru) (ga_ G 25 0) (fun x v τ' => rt_ σ y G A N t n p w ru τ0 x.1 x.2.1 x.2.2.1 τ' ∧ v = bi_ (ev9_ E x.2.2.2.1 x.2.2.2.2.1 x.2.2.2.2.2 = true) ∧ a < x.1) := by
  have hn4 := h.1.2.2.2.2.1.2.2
  unfold pE_ f_X15_test
  rw [gt_t (rs_y h.1)]
  refine rr_bx (m_one hE h) (fun x v τ1 hx => ?_)
  obtain ⟨x1, x2, x3⟩ := hx
  have hy := rs_y x1.1
  rw [m_w_and x1.2.1 hy, bd_s, bi_W]
  by_cases z : isW_ w x.1 22 = true
  · rw [if_pos z, bi_t z, if_neg (show ¬ (1 : Int32) = 0 by decide)]
    have q := m_join1 hE (ov9_ E x.2.2.2) 500 fu_ x.1 x.2.1 x.2.2.1 [] τ1 v (by omega) (by decide) x1 x2
    revert q
    cases pJ_ w r 22 500 x.1 x.2.1 x.2.2.1 [] with
    | inl e => exact fun q => q
    | inr b =>
      intro q
      obtain ⟨v2, τ2, g1, g2, g3, g4⟩ := q
      exact ⟨v2, τ2, g1, g2, g3, by show a < b.1; omega⟩
  · rw [if_neg z, bi_f z, if_pos (show (0 : Int32) = 0 from rfl)]
    have q := m_join2 hE (ov9_ E x.2.2.2) 500 fu_ x.1 x.2.1 x.2.2.1 [] τ1 v (by omega) (by decide) x1 x2
    by_cases z2 : isW_ w x.1 23 = true
    · rw [if_pos z2]
      revert q
      cases pJ_ w r 23 500 x.1 x.2.1 x.2.2.1 [] with
      | inl e => exact fun q => q
      | inr b =>
        intro q
        obtain ⟨v2, τ2, g1, g2, g3, g4⟩ := q
        exact ⟨v2, τ2, g1, g2, g3, by show a < b.1; omega⟩
    · rw [if_neg z2]
      have e : pJ_ w r 23 500 x.1 x.2.1 x.2.2.1 [] = .inr (x.1, x.2.1, x.2.2.1, []) := by
        conv => lhs; unfold pJ_
        rw [if_neg z2]
      rw [e] at q
      obtain ⟨v2, τ2, g1, g2, g3, g4⟩ := q
      exact ⟨v2, τ2, g1, g2, g3, x3⟩
end RTEST
