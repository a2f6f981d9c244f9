/-! THE REFERENCE READS: terms and sums. Written by wip/b/mk86.py. -/
theorem wc9_le (w : Nat → Nat) (p n : Nat) : wc9_ w p n ≤ 99 := by
  unfold wc9_
  repeat' split
  all_goals decide
theorem tz_v (w : Nat → Nat) (a : Nat) : (tz_ w a).2.1 < 10000 := by
  unfold tz_ tkp_
  obtain ⟨s, hs⟩ : ∃ s, s = en9_ tS w 500 a := ⟨_, rfl⟩
  rw [← hs]
  by_cases z9 : w s = 999
  · rw [if_pos z9]; show 0 < 10000; decide
  rw [if_neg z9]
  by_cases zl : tL (w s) = true
  · rw [if_pos zl]
    show wv9_ w s (en9_ tL w 500 s) < 10000
    unfold wv9_
    by_cases zd : tD (w (en9_ tL w 500 s)) = true
    · rw [if_pos zd]
      have h48 : 48 ≤ w (en9_ tL w 500 s) ∧ w (en9_ tL w 500 s) ≤ 57 := by simpa [tD] using zd
      split <;> omega
    · rw [if_neg zd]
      exact Nat.lt_of_le_of_lt (wc9_le _ _ _) (by decide)
  rw [if_neg zl]
  by_cases zd : tD (w s) = true
  · rw [if_pos zd]
    show nv9_ w s (en9_ tD w 500 s - s) < 10000
    have h1 := nv9_lt (w := w) (p := s) (n := en9_ tD w 500 s - s) (fun i a b => en9_in (q := tD) (f := 500) a (by omega))
    have h2 : 10 ^ min (en9_ tD w 500 s - s) 4 ≤ 10 ^ 4 := Nat.pow_le_pow_right (by decide) (Nat.min_le_right _ _)
    exact Nat.lt_of_lt_of_le h1 h2
  rw [if_neg zd]
  by_cases zm : tM (w s) = true
  · rw [if_pos zm]
    have h : w s ≤ 125 := by
      simp [tM] at zm
      omega
    show w s < 10000
    omega
  · rw [if_neg zm]; show 0 < 10000; decide
/-- a reading and what the reference does -/
def rr_ {α β : Type} (X : FT ⊕ β) (F : Option ((α ⊕ Nat) × TH)) (z : FT → TH → Prop) (g : Nat) (ok : β → α → TH → Prop) : Prop := match X with
  | .inl e => ∃ τ, F = some (.inr g, τ) ∧ z e τ
  | .inr b => ∃ v τ, F = some (.inl v, τ) ∧ ok b v τ
theorem rr_bx {α β γ δ : Type} {X : FT ⊕ β} {K : β → FT ⊕ γ} {F : Option ((α ⊕ Nat) × TH)} {f : α → TH → Option ((δ ⊕ Nat) × TH)} {z : FT → TH → Prop} {g : Nat} {ok : β → α → TH → Prop} {ok2 : γ → δ → TH → Prop} (h : rr_ X F z g ok) (hk : ∀ b v τ, ok b v τ → rr_ (K b) (f v τ) z g ok2) : rr_ (eb_ X K) (bx_ F f) z g ok2 := by
  cases X with
  | inl e =>
    obtain ⟨τ, h1, h2⟩ := h
    rw [h1]
    exact ⟨τ, rfl, h2⟩
  | inr b =>
    obtain ⟨v, τ, h1, h2⟩ := h
    rw [h1]
    exact hk b v τ h2
theorem rr_mono {α β : Type} {X : FT ⊕ β} {F : Option ((α ⊕ Nat) × TH)} {z : FT → TH → Prop} {g : Nat} {ok ok2 : β → α → TH → Prop} (h : rr_ X F z g ok) (hk : ∀ b v τ, ok b v τ → ok2 b v τ) : rr_ X F z g ok2 := by
  cases X with
  | inl e => exact h
  | inr b =>
    obtain ⟨v, τ, h1, h2⟩ := h
    exact ⟨v, τ, h1, hk b v τ h2⟩
theorem tv_si {τ : TH} {y c : Nat} {w : Nat → Nat} {z : TK} {v : Int32} (h : tv9_ τ y w z) (hc : 1638 ≤ c) : tv9_ (si_ τ c y v) y w z := by
  have e : ∀ d, d < 1638 → fi_ (si_ τ c y v) d y = fi_ τ d y := fun d hd => by rw [fi_si, up2_c (by omega)]
  unfold tv9_ wd9_ at h ⊢
  rw [e 1634 (by decide), e 1632 (by decide), e 1633 (by decide), e 1636 (by decide), e 1635 (by decide), e 1637 (by decide)]
  exact h
section RSUM
variable {σ τ τ0 : TH} {y : Nat} {G : GH} {A : AS} {N : Nat → Nat} {t n p : Nat} {w : Nat → Nat} {ru : Int32} {E : EV9} {r : Bool} {a tt : Nat} {k : Int32}
/-- the token at a stands read; so many terms, these kinds; the rest as in τ0 -/
def rt_ (σ : TH) (y : Nat) (G : GH) (A : AS) (N : Nat → Nat) (t n p : Nat) (w : Nat → Nat) (ru : Int32) (τ0 : TH) (a tt : Nat) (k : Int32) (τ : TH) : Prop := rs_ σ y G A N t n p w ru τ ∧ tv9_ τ y w (tz_ w a) ∧ a ≤ n ∧ (fi_ τ 1639 y = nI tt ∧ tt ≤ 30 ∧ fi_ τ 1640 y = k) ∧ (fi_ τ 1638 y = fi_ τ0 1638 y ∧ fi_ τ 1641 y = fi_ τ0 1641 y ∧ ai_ τ (ga_ G 27 0) = ai_ τ0 (ga_ G 27 0))
/-- what the reference finds while reading is E -/
def ve_ (σ : TH) (y : Nat) (G : GH) (A : AS) (N : Nat → Nat) (t n p : Nat) (w : Nat → Nat) (ru : Int32) (r : Bool) (E : EV9) : Prop := ((ru = 0 ∧ r = false) ∨ (ru = 1 ∧ r = true)) ∧ (ru = 0 → ∀ τ z, rs_ σ y G A N t n p w ru τ → tv9_ τ y w z → z.1 = 4 → nm9_ false z.2.1 = true → f_X15_value τ y = some (E.1 z.2.1, if z.2.1 < 10 then si_ τ 1640 y (fi_ τ 1640 y ||| ((1 : Int32) <<< (nI z.2.1 &&& 31))) else τ)) ∧ (ru = 1 → ∀ τ z, rs_ σ y G A N t n p w ru τ → tv9_ τ y w z → z.1 = 4 → nm9_ true z.2.1 = true → f_X15_ruleValue τ y = some (E.1 z.2.1, τ)) ∧ (∀ τ, rs_ σ y G A N t n p w ru τ → ∀ k, k < 10 → (∃ x, f_X15_openOn τ y (nI p) (nI k) (nI (td_ N)) = some (x, τ) ∧ (x = -1 ↔ E.2.1 k = false)) ∧ f_X15_isStale τ y (nI p) (nI k) (nI (td_ N)) = some (bi_ (E.2.2.1 k = true), τ)) ∧ (∀ τ, rs_ σ y G A N t n p w ru τ → f_X15_isDeadBy τ y (nI p) (nI (td_ N)) = some (bi_ (E.2.2.2 = true), τ))
theorem m_nxt (h : rt_ σ y G A N t n p w ru τ0 a tt k τ) : ∃ u τ', f_X15_next τ y = some (u, τ') ∧ rt_ σ y G A N t n p w ru τ0 (nx9_ w a) tt k τ' := by
  obtain ⟨h1, h2, h3, ⟨h4, h5, h6⟩, h7, h8, h9⟩ := h
  have hw := h1.2.2.2.2.1.2.1
  have hl := (tz_le hw h3).2.2.1
  obtain ⟨⟨u, τ'⟩, r1, r2, r3, r4⟩ := m_next h1 hl h2.2.1
  exact ⟨u, τ', r1, r2, r3, hl, ⟨by rw [r4.1.2.1]; exact h4, h5, by rw [r4.1.2.2.1]; exact h6⟩, by rw [r4.1.1]; exact h7, by rw [r4.1.2.2.2]; exact h8, by rw [r4.2]; exact h9⟩
theorem rt_n (h : rt_ σ y G A N t n p w ru τ0 a tt k τ) : fi_ τ 1634 y = nI (pl9_ w a) := h.2.1.1
/-- stopped at the token -/
theorem m_stopT {β : Type} {ok : β → Int32 → TH → Prop} (h : rt_ σ y G A N t n p w ru τ0 a tt k τ) (K : Int32) (d : Nat) (e : K = nI d) : rr_ (.inl (d, pl9_ w a)) (lt_ (fi_ τ 1634 y) fun x30 => bd_ (f_X15_stop τ y K x30) fun r31 s32 => nn_ r31 fun a33 => gt_ (kd_ s32 a33 = 16) <| some ((.inr a33 : Int32 ⊕ Nat), s32)) (rz_ σ y G A N t n p w ru) (ga_ G 25 0) ok := by
  subst e
  obtain ⟨τ', e, hz⟩ := m_stop h.1 d (pl9_ w a)
  refine ⟨τ', ?_, hz⟩
  rw [lt_e, rt_n h, e, bd_s]
  show gt_ _ _ = _
  rw [gt_t hz.2.1]
theorem m_term (hE : ve_ σ y G A N t n p w ru r E) (h : rt_ σ y G A N t n p w ru τ0 a tt k τ) : rr_ (pT_ w r a tt k) (f_X15_term τ y) (rz_ σ y G A N t n p w ru) (ga_ G 25 0) (fun x v τ' => rt_ σ y G A N t n p w ru τ0 x.1 x.2.1 x.2.2.1 τ' ∧ v = iv9_ E (false, x.2.2.2) ∧ a < x.1 ∧ x.2.1 = tt + 1) := by
  have hy := rs_y h.1
  have hru : fi_ τ 1645 y = ru := h.1.2.2.2.2.2.1.2.2.2
  have hw := h.1.2.2.2.2.1.2.1
  have h4 := h.2.2.2.1.1
  have h5 := h.2.2.2.1.2.1
  have hv := tz_v w a
  have tv := h.2.1
  have s1 := m_stopT (ok := fun (x : Nat × Nat × Int32 × Nat × Nat) v τ' => rt_ σ y G A N t n p w ru τ0 x.1 x.2.1 x.2.2.1 τ' ∧ v = iv9_ E (false, x.2.2.2) ∧ a < x.1 ∧ x.2.1 = tt + 1) h 1 1 rfl
  have s2 := m_stopT (ok := fun (x : Nat × Nat × Int32 × Nat × Nat) v τ' => rt_ σ y G A N t n p w ru τ0 x.1 x.2.1 x.2.2.1 τ' ∧ v = iv9_ E (false, x.2.2.2) ∧ a < x.1 ∧ x.2.1 = tt + 1) h 2 2 rfl
  have s3 := m_stopT (ok := fun (x : Nat × Nat × Int32 × Nat × Nat) v τ' => rt_ σ y G A N t n p w ru τ0 x.1 x.2.1 x.2.2.1 τ' ∧ v = iv9_ E (false, x.2.2.2) ∧ a < x.1 ∧ x.2.1 = tt + 1) h 3 3 rfl
  have b23 : f_X15_term_b23 τ y = (lt_ (fi_ τ 1634 y) fun x30 => bd_ (f_X15_stop τ y 1 x30) fun r31 s32 => nn_ r31 fun a33 => gt_ (kd_ s32 a33 = 16) <| some ((.inr a33 : Int32 ⊕ Nat), s32)) := gt_t hy
  have b65 : f_X15_term_b65 τ y = (lt_ (fi_ τ 1634 y) fun x30 => bd_ (f_X15_stop τ y 2 x30) fun r31 s32 => nn_ r31 fun a33 => gt_ (kd_ s32 a33 = 16) <| some ((.inr a33 : Int32 ⊕ Nat), s32)) := gt_t hy
  -- behind the counting
  have fin : ∀ (K : Int32) (V : Int32) (τ1 : TH) (i j : Nat), rt_ σ y G A N t n p w ru τ0 a (tt + 1) K τ1 → (tz_ w a).1 ≠ 0 → (tz_ w a).1 ≠ 1 → V = iv9_ E (false, i, j) → rr_ (.inr (nx9_ w a, tt + 1, K, i, j)) (f_X15_term_b137 τ1 y V) (rz_ σ y G A N t n p w ru) (ga_ G 25 0) (fun x v τ' => rt_ σ y G A N t n p w ru τ0 x.1 x.2.1 x.2.2.1 τ' ∧ v = iv9_ E (false, x.2.2.2) ∧ a < x.1 ∧ x.2.1 = tt + 1) := fun K V τ1 i j q n0 n1 ev => by
    obtain ⟨u, τ', e1, e2⟩ := m_nxt q
    refine ⟨V, τ', ?_, e2, ev, (tz_le hw h.2.2.1).2.2.2 n0 n1, rfl⟩
    unfold f_X15_term_b137
    rw [gt_t (rs_y q.1), e1]
    rfl
  have up : tt ≠ 30 → rt_ σ y G A N t n p w ru τ0 a (tt + 1) k (si_ τ 1639 y (nI (tt + 1))) := fun hne => by
    obtain ⟨h1, h2, h3, ⟨h4, h5, h6⟩, h7, h8, h9⟩ := h
    refine ⟨rs_si h1 (j := 39) (by decide) rfl _, tv_si h2 (by decide), h3, ⟨?_, by omega, ?_⟩, ?_, ?_, h9⟩
    · rw [fi_si, up2_s]
    · rw [fi_si, up2_c (by decide)]; exact h6
    · rw [fi_si, up2_c (by decide)]; exact h7
    · rw [fi_si, up2_c (by decide)]; exact h8
  have b75 : f_X15_term_b75 τ y = if tt = 30 then (lt_ (fi_ τ 1634 y) fun x30 => bd_ (f_X15_stop τ y 3 x30) fun r31 s32 => nn_ r31 fun a33 => gt_ (kd_ s32 a33 = 16) <| some ((.inr a33 : Int32 ⊕ Nat), s32)) else (if fi_ τ 1633 y = 3 then f_X15_term_b137 (si_ τ 1639 y (nI (tt + 1))) y (fi_ τ 1636 y) else if ru = 0 then (bd_ (f_X15_value (si_ τ 1639 y (nI (tt + 1))) y) fun x24 s25 => f_X15_term_b137 s25 y x24) else (bd_ (f_X15_ruleValue (si_ τ 1639 y (nI (tt + 1))) y) fun x24 s25 => f_X15_term_b137 s25 y x24)) := by
    unfold f_X15_term_b75
    rw [gt_t hy, lt_e, h4]
    by_cases z : tt = 30
    · rw [if_pos z, z, if_pos (show nI 30 = (30 : Int32) from rfl)]
    · have z2 : ¬ nI tt = (30 : Int32) := fun q => z ((nI_eq (b := 30) (by omega) (by decide)).mp q)
      rw [if_neg z, if_neg z2, lt_e, lt_e, lt_e, nI_1, fi_si, up2_c (by decide)]
      by_cases z3 : fi_ τ 1633 y = 3
      · rw [if_pos z3, if_pos z3, lt_e, up2_c (by decide)]
      · rw [if_neg z3, if_neg z3, lt_e, up2_c (by decide), hru]
  -- the sorts
  obtain ⟨c1, hc1⟩ : ∃ c, c = (tz_ w a).1 := ⟨_, rfl⟩
  unfold pT_
  rcases tv.2.2 with ⟨e1, e2⟩ | ⟨e1, e2⟩ | ⟨e1, e2, e3⟩ | ⟨e1, e2, e3⟩ | ⟨e1, e2, e3⟩
  · rw [if_neg (by omega)]
    have : f_X15_term τ y = f_X15_term_b23 τ y := by
      unfold f_X15_term
      rw [gt_t hy, lt_e, e2, if_neg (by decide), lt_e, if_neg (by decide)]
    rw [this, b23]; exact s1
  · rw [if_neg (by omega)]
    have : f_X15_term τ y = f_X15_term_b23 τ y := by
      unfold f_X15_term
      rw [gt_t hy, lt_e, e2, if_neg (by decide), lt_e, if_neg (by decide)]
    rw [this, b23]; exact s1
  · rw [if_pos ⟨Or.inl e1, by omega⟩, if_neg (by omega)]
    have : f_X15_term τ y = f_X15_term_b75 τ y := by
      unfold f_X15_term f_X15_term_b16
      rw [gt_t hy, lt_e, e2, if_pos rfl, gt_t hy, m_isKept tv hy, bd_s, bi_f (by omega), if_pos rfl, lt_e, e2, if_neg (by decide)]
    rw [this, b75]
    by_cases z : tt = 30
    · rw [if_pos z, if_pos z]; exact s3
    · rw [if_neg z, if_neg z, if_pos e2, e3, if_neg (by omega), if_pos e1]
      refine fin k _ _ 1 _ (up z) (by omega) (by omega) ?_
      simp [iv9_]
  · rw [if_neg (by omega)]
    have : f_X15_term τ y = f_X15_term_b23 τ y := by
      unfold f_X15_term
      rw [gt_t hy, lt_e, e2, if_neg (by decide), lt_e, if_neg (by decide)]
    rw [this, b23]; exact s1
  · have t1 : f_X15_term τ y = f_X15_term_b16 τ y := by
      unfold f_X15_term
      rw [gt_t hy, lt_e, e2, if_neg (by decide), lt_e, if_pos rfl]
    rw [t1]
    unfold f_X15_term_b16
    rw [gt_t hy, m_isKept tv hy, bd_s]
    by_cases zk : (tz_ w a).1 = 4 ∧ 21 ≤ (tz_ w a).2.1 ∧ (tz_ w a).2.1 ≤ 27
    · rw [if_neg (fun q => q.2 zk), bi_t zk, if_neg (by decide), b23]; exact s1
    · rw [if_pos ⟨Or.inr e1, zk⟩, bi_f zk, if_pos rfl, lt_e, e2, if_pos rfl, lt_e, hru]
      rcases hE.1 with ⟨q1, q2⟩ | ⟨q1, q2⟩
      · rw [if_pos q1, m_isName tv hy e1, bd_s, q2]
        by_cases zn : nm9_ false (tz_ w a).2.1 = true
        · rw [if_neg (show ¬ ((tz_ w a).1 = 4 ∧ nm9_ false (tz_ w a).2.1 = false) from fun q => by rw [zn] at q; exact absurd q.2 (by decide)), bi_t zn, if_neg (show ¬ (1 : Int32) = 0 by decide), b75]
          by_cases z : tt = 30
          · rw [if_pos z, if_pos z]; exact s3
          · rw [if_neg z, if_neg z, if_neg (show ¬ fi_ τ 1633 y = 3 by rw [e2]; decide), if_pos q1]
            have u := up z
            rw [hE.2.1 q1 _ _ u.1 u.2.1 e1 zn, bd_s, if_neg (show ¬ (tz_ w a).1 = 2 by omega)]
            have eiv : E.1 (tz_ w a).2.1 = iv9_ E (false, 2, (tz_ w a).2.1) := by simp [iv9_]
            by_cases z10 : (tz_ w a).2.1 < 10
            · rw [if_pos z10, if_pos ⟨e1, z10⟩]
              refine fin _ _ _ 2 _ ?_ (by omega) (by omega) eiv
              obtain ⟨u1, u2, u3, ⟨u4, u5, u6⟩, u7, u8, u9⟩ := u
              refine ⟨rs_si u1 (j := 40) (by decide) rfl _, tv_si u2 (by decide), u3, ⟨?_, u5, ?_⟩, ?_, ?_, u9⟩
              · rw [fi_si, up2_c (by decide)]; exact u4
              · rw [fi_si, up2_s, u6]
              · rw [fi_si, up2_c (by decide)]; exact u7
              · rw [fi_si, up2_c (by decide)]; exact u8
            · rw [if_neg z10, if_neg (fun q => z10 q.2)]
              exact fin _ _ _ 2 _ u (by omega) (by omega) eiv
        · rw [if_pos (show (tz_ w a).1 = 4 ∧ nm9_ false (tz_ w a).2.1 = false from ⟨e1, by simpa using zn⟩), bi_f zn, if_pos rfl, b65]; exact s2
      · have q3 : ¬ ru = 0 := by rw [q1]; decide
        rw [if_neg q3, m_isRuleName tv hy e1, bd_s, q2]
        by_cases zn : nm9_ true (tz_ w a).2.1 = true
        · rw [if_neg (show ¬ ((tz_ w a).1 = 4 ∧ nm9_ true (tz_ w a).2.1 = false) from fun q => by rw [zn] at q; exact absurd q.2 (by decide)), bi_t zn, if_neg (show ¬ (1 : Int32) = 0 by decide), b75]
          by_cases z : tt = 30
          · rw [if_pos z, if_pos z]; exact s3
          · rw [if_neg z, if_neg z, if_neg (show ¬ fi_ τ 1633 y = 3 by rw [e2]; decide), if_neg q3]
            have u := up z
            rw [hE.2.2.1 q1 _ _ u.1 u.2.1 e1 zn, bd_s, if_neg (show ¬ (tz_ w a).1 = 2 by omega)]
            have eiv : E.1 (tz_ w a).2.1 = iv9_ E (false, 2, (tz_ w a).2.1) := by simp [iv9_]
            have z10 : ¬ (tz_ w a).2.1 < 10 := fun q => by
              have : nm9_ true (tz_ w a).2.1 = false := by simp [nm9_]; omega
              rw [this] at zn; cases zn
            rw [if_neg (fun q => z10 q.2)]
            exact fin _ _ _ 2 _ u (by omega) (by omega) eiv
        · rw [if_pos (show (tz_ w a).1 = 4 ∧ nm9_ true (tz_ w a).2.1 = false from ⟨e1, by simpa using zn⟩), bi_f zn, if_pos rfl, b65]; exact s2
theorem sv_app (E : EV9) : ∀ (l : List IT) (i : IT) (s : Int32), sv9_ E (l ++ [i]) s = sv9_ E l s + iv9_ E i
  | [], _, _ => rfl
  | j :: l, i, s => sv_app E l i (s + iv9_ E j)
theorem m_isS (h : rt_ σ y G A N t n p w ru τ0 a tt k τ) {c : Nat} {C : Int32} (e : C = nI c) (hc : c < 256) : f_X15_is τ y C = some (bi_ (isS_ w a c = true), τ) := by
  rw [m_is h.2.1 (rs_y h.1) (Nat.lt_trans (tz_v w a) (by decide)) e hc]
  have : (isS_ w a c = true) = ((tz_ w a).1 = 3 ∧ (tz_ w a).2.1 = c) := by simp [isS_]
  simp only [this]
theorem m_sumL (hE : ve_ σ y G A N t n p w ru r E) : ∀ (f g a tt : Nat) (k : Int32) (l : List IT) (τ : TH) (s : Int32), 31 < f + tt → f ≤ g → rt_ σ y G A N t n p w ru τ0 a tt k τ → s = sv9_ E l 0 → rr_ (pL_ w r f a tt k l) (f_X15_sum_b5 g τ y s) (rz_ σ y G A N t n p w ru) (ga_ G 25 0) (fun x v τ' => rt_ σ y G A N t n p w ru τ0 x.1 x.2.1 x.2.2.1 τ' ∧ v = sv9_ E x.2.2.2 0 ∧ a ≤ x.1)
  | 0, _, _, tt, _, _, _, _, h1, _, h, _ => by have := h.2.2.2.1.2.1; omega
  | f + 1, 0, _, _, _, _, _, _, _, h2, _, _ => by omega
  | f + 1, g + 1, a, tt, k, l, τ, s, h1, h2, h, hs => by
    have hy := rs_y h.1
    have hw := h.1.2.2.2.2.1.2.1
    have step : ∀ (sg : Bool) (S : Int32), (tz_ w a).1 = 3 → (∀ v, s + S * v = s + (if sg = true then -v else v)) → rr_ (eb_ (pT_ w r (nx9_ w a) tt k) (fun x => pL_ w r f x.1 x.2.1 x.2.2.1 (l ++ [(sg, x.2.2.2)]))) (f_X15_sum_b37 (f_X15_sum_b5 g) τ y s S) (rz_ σ y G A N t n p w ru) (ga_ G 25 0) (fun x v τ' => rt_ σ y G A N t n p w ru τ0 x.1 x.2.1 x.2.2.1 τ' ∧ v = sv9_ E x.2.2.2 0 ∧ a ≤ x.1) := fun sg S z3 hS => by
      obtain ⟨u, τ', e1, e2⟩ := m_nxt h
      unfold f_X15_sum_b37
      rw [gt_t hy, e1, bd_s]
      refine rr_bx (m_term hE e2) (fun x v τ2 hx => ?_)
      obtain ⟨x1, x2, x3, x4⟩ := hx
      rw [lt_e]
      have ih := m_sumL hE f g x.1 x.2.1 x.2.2.1 (l ++ [(sg, x.2.2.2)]) τ2 (s + S * v) (by omega) (by omega) x1 (by
        rw [sv_app, hS, x2, hs]
        cases sg
        · rfl
        · rfl)
      refine rr_mono ih (fun b v τ hb => ⟨hb.1, hb.2.1, ?_⟩)
      have := (tz_le hw h.2.2.1).2.1
      have := (tz_le hw h.2.2.1).1
      omega
    unfold pL_ f_X15_sum_b5
    rw [gt_t hy, m_isS h (c := 43) (C := 43) rfl (by decide), bd_s]
    by_cases z1 : isS_ w a 43 = true
    · rw [if_pos z1, bi_t z1, if_neg (show ¬ (1 : Int32) = 0 by decide)]
      unfold f_X15_sum_b23
      rw [gt_t hy, m_isS h (c := 43) (C := 43) rfl (by decide), bd_s, bi_t z1, if_neg (show ¬ (1 : Int32) = 0 by decide)]
      have z3 : (tz_ w a).1 = 3 := by simp [isS_] at z1; exact z1.1
      exact step false 1 z3 (fun v => by rw [Int32.one_mul]; rfl)
    · rw [if_neg z1, bi_f z1, if_pos rfl, m_isS h (c := 45) (C := 45) rfl (by decide), bd_s]
      by_cases z2 : isS_ w a 45 = true
      · rw [if_pos z2, bi_t z2, if_neg (show ¬ (1 : Int32) = 0 by decide)]
        unfold f_X15_sum_b23
        rw [gt_t hy, m_isS h (c := 43) (C := 43) rfl (by decide), bd_s, bi_f z1, if_pos rfl]
        have z3 : (tz_ w a).1 = 3 := by simp [isS_] at z2; exact z2.1
        exact step true (-1) z3 (fun v => by rw [Int32.neg_mul, Int32.one_mul]; rfl)
      · rw [if_neg z2, bi_f z2, if_pos rfl]
        exact ⟨s, τ, rfl, h, hs, Nat.le_refl _⟩
theorem m_sum (hE : ve_ σ y G A N t n p w ru r E) (h : rt_ σ y G A N t n p w ru τ0 a tt k τ) : rr_ (pS_ w r a tt k) (f_X15_sum τ y) (rz_ σ y G A N t n p w ru) (ga_ G 25 0) (fun x v τ' => rt_ σ y G A N t n p w ru τ0 x.1 x.2.1 x.2.2.1 τ' ∧ v = sv9_ E x.2.2.2 0 ∧ a < x.1) := by
  unfold pS_ f_X15_sum
  rw [gt_t (rs_y h.1)]
  refine rr_bx (m_term hE h) (fun x v τ2 hx => ?_)
  obtain ⟨x1, x2, x3, x4⟩ := hx
  refine rr_mono (m_sumL hE 40 fu_ x.1 x.2.1 x.2.2.1 [(false, x.2.2.2)] τ2 v (by omega) (by decide) x1 ?_) (fun b v τ hb => ⟨hb.1, hb.2.1, by omega⟩)
  rw [x2]
  show _ = 0 + _
  rw [Int32.zero_add]
end RSUM
