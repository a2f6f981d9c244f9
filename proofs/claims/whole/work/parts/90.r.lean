/-! THE REFERENCE READS AND PRINTS: braces, whole texts. Written by wip/b/mk90.py. -/
/-- a brace: what is behind, counters, its steps, what it prints -/
def pC_ (E : EV9) (w : Nat → Nat) (slf : Nat → Nat → CT → Nat → RT) (d a : Nat) (c : CT) (o : Nat) : RT :=
  if isW_ w (a + 1) 21 = false then
    eb_ (pS_ w false (a + 1) c.2.1 c.2.2) (fun x =>
      if isS_ w x.1 125 = true then .inr (nx9_ w x.1, (c.1 + 1, x.2.1, x.2.2.1), is9_ x.2.2.2 ++ [(4, 0)], dg9_ (sv9_ E x.2.2.2 0))
      else .inl (1, pl9_ w x.1))
  else if d = 5 then .inl (3, a)
  else eb_ (pE_ w false (nx9_ w (a + 1)) c.2.1 c.2.2) (fun x =>
    if isS_ w x.1 58 = true then
      eb_ (slf (d + 1) (nx9_ w x.1) (c.1 + 1, x.2.1, x.2.2.1) (o + 2 + (es9_ x.2.2.2.1 x.2.2.2.2.1 x.2.2.2.2.2).length)) (fun u =>
        if w u.1 = 124 then
          eb_ (slf (d + 1) (u.1 + 1) u.2.1 (o + 3 + (es9_ x.2.2.2.1 x.2.2.2.2.1 x.2.2.2.2.2).length + u.2.2.1.length)) (fun v =>
            if w v.1 = 125 then .inr (v.1 + 1, v.2.1, (11, 0) :: ((es9_ x.2.2.2.1 x.2.2.2.2.1 x.2.2.2.2.2) ++ ((13, o + 3 + (es9_ x.2.2.2.1 x.2.2.2.2.1 x.2.2.2.2.2).length + u.2.2.1.length) :: (u.2.2.1 ++ ((14, o + 3 + (es9_ x.2.2.2.1 x.2.2.2.2.1 x.2.2.2.2.2).length + u.2.2.1.length + v.2.2.1.length) :: v.2.2.1)))), (if ev9_ E x.2.2.2.1 x.2.2.2.2.1 x.2.2.2.2.2 = true then u.2.2.2 else v.2.2.2))
            else .inl (1, v.1))
        else if w u.1 = 125 then .inr (u.1 + 1, u.2.1, (11, 0) :: ((es9_ x.2.2.2.1 x.2.2.2.2.1 x.2.2.2.2.2) ++ ((13, o + 2 + (es9_ x.2.2.2.1 x.2.2.2.2.1 x.2.2.2.2.2).length + u.2.2.1.length) :: u.2.2.1)), (if ev9_ E x.2.2.2.1 x.2.2.2.2.1 x.2.2.2.2.2 = true then u.2.2.2 else []))
        else .inl (1, u.1))
    else .inl (1, pl9_ w x.1))
theorem pG_brace (E : EV9) (w : Nat → Nat) (slf : Nat → Nat → CT → Nat → RT) (d first f a : Nat) (c : CT) (o : Nat) (ss : List SP) (out : List Nat) (ha : w a = 123) (hc : c.1 ≠ 60) : pG_ E w slf d first (f + 1) a c o ss out = eb_ (pC_ E w slf d a c o) (fun x => pG_ E w slf d first f x.1 x.2.1 (o + x.2.2.1.length) (ss ++ x.2.2.1) (out ++ x.2.2.2)) := by
  conv => lhs; unfold pG_
  rw [if_neg (by rw [ha]; decide), if_neg (fun q => q.1 ha), if_neg hc, if_neg (fun q => q ha)]
  unfold pC_
  by_cases q : isW_ w (a + 1) 21 = false
  · rw [if_pos q, if_pos q]
    cases pS_ w false (a + 1) c.2.1 c.2.2 with
    | inl e => rfl
    | inr x =>
      rw [eb_r, eb_r]
      by_cases z : isS_ w x.1 125 = true
      · rw [if_pos z, if_pos z, eb_r]
        simp only [List.length_append, List.length_cons, List.length_nil, Nat.add_assoc, Nat.zero_add]
      · rw [if_neg z, if_neg z, eb_l]
  · rw [if_neg q, if_neg q]
    by_cases q5 : d = 5
    · rw [if_pos q5, if_pos q5, eb_l]
    · rw [if_neg q5, if_neg q5]
      cases pE_ w false (nx9_ w (a + 1)) c.2.1 c.2.2 with
      | inl e => rfl
      | inr x =>
        rw [eb_r, eb_r]
        by_cases z : isS_ w x.1 58 = true
        · rw [if_pos z, if_pos z]
          cases slf (d + 1) (nx9_ w x.1) (c.1 + 1, x.2.1, x.2.2.1) (o + 2 + (es9_ x.2.2.2.1 x.2.2.2.2.1 x.2.2.2.2.2).length) with
          | inl e => rfl
          | inr u =>
            rw [eb_r, eb_r]
            by_cases z1 : w u.1 = 124
            · rw [if_pos z1, if_pos z1]
              cases slf (d + 1) (u.1 + 1) u.2.1 (o + 3 + (es9_ x.2.2.2.1 x.2.2.2.2.1 x.2.2.2.2.2).length + u.2.2.1.length) with
              | inl e => rfl
              | inr v =>
                rw [eb_r, eb_r]
                by_cases z2 : w v.1 = 125
                · rw [if_pos z2, if_pos z2, eb_r]
                  have e : o + 3 + (es9_ x.2.2.2.1 x.2.2.2.2.1 x.2.2.2.2.2).length + u.2.2.1.length + v.2.2.1.length = o + ((11, 0) :: ((es9_ x.2.2.2.1 x.2.2.2.2.1 x.2.2.2.2.2) ++ ((13, o + 3 + (es9_ x.2.2.2.1 x.2.2.2.2.1 x.2.2.2.2.2).length + u.2.2.1.length) :: (u.2.2.1 ++ ((14, o + 3 + (es9_ x.2.2.2.1 x.2.2.2.2.1 x.2.2.2.2.2).length + u.2.2.1.length + v.2.2.1.length) :: v.2.2.1))))).length := by
                    simp only [List.length_append, List.length_cons]
                    omega
                  rw [← e]
                · rw [if_neg z2, if_neg z2, eb_l]
            · rw [if_neg z1, if_neg z1]
              by_cases z2 : w u.1 = 125
              · rw [if_pos z2, if_pos z2, eb_r]
                have e : o + 2 + (es9_ x.2.2.2.1 x.2.2.2.2.1 x.2.2.2.2.2).length + u.2.2.1.length = o + ((11, 0) :: ((es9_ x.2.2.2.1 x.2.2.2.2.1 x.2.2.2.2.2) ++ ((13, o + 2 + (es9_ x.2.2.2.1 x.2.2.2.2.1 x.2.2.2.2.2).length + u.2.2.1.length) :: u.2.2.1))).length := by
                  simp only [List.length_append, List.length_cons]
                  omega
                rw [← e]
              · rw [if_neg z2, if_neg z2, eb_l]
        · rw [if_neg z, if_neg z, eb_l]
section RTXT
variable {σ τ τ0 : TH} {y : Nat} {G : GH} {A : AS} {N : Nat → Nat} {t n p : Nat} {w : Nat → Nat} {E : EV9} {L : List Nat}
def rk_ (σ : TH) (y : Nat) (G : GH) (A : AS) (N : Nat → Nat) (t n p : Nat) (w : Nat → Nat) (pr : Bool) (L : List Nat) (a : Nat) (c : CT) : (Nat × CT × List SP × List Nat) → Unit → TH → Prop := fun x _ τ' => rx_ σ y G A N t n p w x.1 x.2.1 (lq9_ pr L x.2.2.2) τ' ∧ a ≤ x.1 ∧ c.1 ≤ x.2.1.1
theorem cbn {c d : Nat} {D : Int32} (h : ok9_ c) (hd : d < 256) (e : D = nI d) (hn : c ≠ d) : ¬ cb9_ c = D := fun q => hn ((cb9_eq h hd e).mp q)
theorem m_brace {slf : TH → Nat → Int32 → Int32 → Option ((Unit ⊕ Nat) × TH)} {S : Nat → Nat → CT → Nat → RT} {d a o : Nat} {c : CT} {pr : Bool} (hE : ve_ σ y G A N t n p w 0 false E) (hB : eB_ E) (h : rx_ σ y G A N t n p w a (c.1 + 1, c.2) L τ) (hL : L.length ≤ 8 * c.1 + a) (han : w a = 123) (hd : d ≤ 5) (hs : d < 5 → ∀ (a o : Nat) (c : CT) (L : List Nat) (pr : Bool) (τ : TH), rx_ σ y G A N t n p w a c L τ → rr_ (S (d + 1) a c o) (slf τ y (nI (d + 1)) (bi_ (pr = true))) (rz_ σ y G A N t n p w 0) (ga_ G 25 0) (rk_ σ y G A N t n p w pr L a c)) : rr_ (pC_ E w S d a c o) (g_X15_goesBrace slf τ y (nI d) (bi_ (pr = true))) (rz_ σ y G A N t n p w 0) (ga_ G 25 0) (rk_ σ y G A N t n p w pr L a (c.1 + 1, c.2)) := by
  have hy := rs_y h.1
  have hn4 := h.1.2.2.2.2.1.2.2
  have hw := h.1.2.2.2.2.1.2.1
  have ha1 : a < n := by
    rcases Nat.lt_or_ge a n with q | q
    · exact q
    · rw [hw a q] at han; cases han
  have h60 : c.1 + 1 ≤ 60 := h.2.2.1.2.1
  have k1 := rx_at h (b := a + 1) (Nat.le_succ a) ha1
  obtain ⟨u1, τ1, e1, e2⟩ := rx_rt k1
  have hy1 := rs_y e2.1
  have l1 := tz_le hw e2.2.2.1
  unfold pC_ g_X15_goesBrace
  rw [gt_t hy, lt_e, lt_e, lt_e, h.2.1.2, nI_1, e1, bd_s, m_w_if e2.2.1 hy1, bd_s, bi_W]
  by_cases q : isW_ w (a + 1) 21 = true
  · rw [if_neg (show ¬ isW_ w (a + 1) 21 = false by rw [q]; decide), bi_t q, if_neg (show ¬ (1 : Int32) = 0 by decide)]
    by_cases q5 : d = 5
    · rw [if_pos q5, if_pos (show nI d = (5 : Int32) by rw [q5]; rfl)]
      exact m_stopA e2.1 3 (nI a) 3 a rfl rfl
    · have n5 : ¬ nI d = (5 : Int32) := fun z => q5 ((nI_eq (a := d) (b := 5) (by omega) (by decide)).mp z)
      rw [if_neg q5, if_neg n5]
      obtain ⟨u2, τ2, e3, e4⟩ := m_nxt e2
      rw [e3, bd_s]
      refine rr_bx (m_test hE e4) (fun x v τ3 hx => ?_)
      obtain ⟨x1, x2, x3⟩ := hx
      rw [m_isS x1 (c := 58) (C := 58) rfl (by decide), bd_s]
      by_cases z : isS_ w x.1 58 = true
      · rw [if_pos z, bi_t z, if_neg (show ¬ (1 : Int32) = 0 by decide)]
        have lx := tz_le hw x1.2.2.1
        have r1 := rt_rx k1 x1 (by have := l1.1; have := l1.2.1; omega)
        have gt1 : a < nx9_ w x.1 := by have := l1.1; have := l1.2.1; have := lx.1; have := lx.2.1; omega
        obtain ⟨ev, hev⟩ : ∃ e, e = ev9_ E x.2.2.2.1 x.2.2.2.2.1 x.2.2.2.2.2 := ⟨_, rfl⟩
        rw [← hev] at x2 ⊢
        have hs5 := hs (by omega)
        have fl1 : (if bi_ (pr = true) = 0 then f_X15_goesBrace_b123 slf τ3 y (nI d) (bi_ (pr = true)) v (nI d + 1) (some y) else if v = 0 then f_X15_goesBrace_b123 slf τ3 y (nI d) (bi_ (pr = true)) v (nI d + 1) (some y) else f_X15_goesBrace_b124 slf τ3 y (nI d) (bi_ (pr = true)) v 1 (nI d + 1) (some y)) = f_X15_goesBrace_b124 slf τ3 y (nI d) (bi_ (pr = true)) v (bi_ ((pr && ev) = true)) (nI (d + 1)) (some y) := by
          rw [x2, nI_1]
          cases pr <;> cases ev <;> simp [bi_, f_X15_goesBrace_b123]
        rw [fl1]
        unfold f_X15_goesBrace_b124
        show rr_ _ (gt_ _ _) _ _ _
        rw [gt_t (rs_y x1.1)]
        refine rr_bx (hs5 _ _ _ L (pr && ev) τ3 r1) (fun u _ τ4 hu => ?_)
        obtain ⟨u1, u2, u3⟩ := hu
        have hy4 := rs_y u1.1
        have hb4 := m_byte u1.1 (a := u.1) (by have := u1.2.1.1; omega)
        have ok4 := rs_ok u1.1 u.1
        have b171 : ∀ (b : Nat) (c' : CT) (L' : List Nat) (τ5 : TH) (M : Nat × CT × List SP × List Nat), rx_ σ y G A N t n p w b c' L' τ5 → a ≤ b → c.1 + 1 ≤ c'.1 → M.1 = b + 1 → M.2.1 = c' → L' = lq9_ pr L M.2.2.2 → rr_ (if w b = 125 then .inr M else .inl (1, b)) (f_X15_goesBrace_b171 slf τ5 y) (rz_ σ y G A N t n p w 0) (ga_ G 25 0) (rk_ σ y G A N t n p w pr L a (c.1 + 1, c.2)) := fun b c' L' τ5 M m1 m2 m3 m4 m5 m6 => by
          have hy5 := rs_y m1.1
          have hb5 := m_byte m1.1 (a := b) (by have := m1.2.1.1; omega)
          have ok5 := rs_ok m1.1 b
          unfold f_X15_goesBrace_b171
          rw [gt_t hy5, lt_e, m1.2.1.2, hb5, bd_s]
          by_cases y5 : w b = 125
          · have hbn : b < n := by
              rcases Nat.lt_or_ge b n with q | q
              · exact q
              · rw [hw b q] at y5; cases y5
            rw [if_pos y5, if_pos ((cb9_eq ok5 (d := 125) (D := 125) (by decide) rfl).mpr y5), lt_e, m1.2.1.2, lt_e, nI_1]
            refine ⟨(), _, rfl, ?_, by rw [m4]; omega, by rw [m5]; exact m3⟩
            rw [m4, m5, ← m6]
            exact rx_at m1 (b := b + 1) (Nat.le_succ b) hbn
          · rw [if_neg y5, if_neg (cbn ok5 (d := 125) (D := 125) (by decide) rfl y5), lt_e]
            exact m_stopA m1.1 1 _ 1 b rfl m1.2.1.2
        rw [gt_t hy4, lt_e, u1.2.1.2, hb4, bd_s]
        by_cases z1 : w u.1 = 124
        · rw [if_pos z1, if_pos ((cb9_eq ok4 (d := 124) (D := 124) (by decide) rfl).mpr z1), lt_e, u1.2.1.2, lt_e, nI_1]
          have hun : u.1 < n := by
            rcases Nat.lt_or_ge u.1 n with q | q
            · exact q
            · rw [hw u.1 q] at z1; cases z1
          have r2 := rx_at u1 (b := u.1 + 1) (Nat.le_succ u.1) hun
          have fl2 : ∀ s, (if bi_ (pr = true) = 0 then f_X15_goesBrace_b167 slf s y (nI d + 1) (some y) else if v = 0 then f_X15_goesBrace_b168 slf s y 1 (nI d + 1) (some y) else f_X15_goesBrace_b167 slf s y (nI d + 1) (some y)) = f_X15_goesBrace_b168 slf s y (bi_ ((pr && !ev) = true)) (nI (d + 1)) (some y) := fun s => by
            rw [x2, nI_1]
            cases pr <;> cases ev <;> simp [bi_, f_X15_goesBrace_b167]
          rw [fl2]
          unfold f_X15_goesBrace_b168
          show rr_ _ (gt_ _ _) _ _ _
          rw [gt_t (rs_y r2.1)]
          refine rr_bx (hs5 _ _ _ _ (pr && !ev) _ r2) (fun v' _ τ5 hv => ?_)
          obtain ⟨v1, v2, v3⟩ := hv
          refine b171 v'.1 v'.2.1 _ τ5 _ v1 (by omega) (Nat.le_trans u3 v3) rfl rfl ?_
          cases pr <;> cases ev <;> simp [lq9_]
        · rw [if_neg z1, if_neg (cbn ok4 (d := 124) (D := 124) (by decide) rfl z1)]
          refine b171 u.1 u.2.1 _ τ4 _ u1 (by omega) u3 rfl rfl ?_
          cases pr <;> cases ev <;> simp [lq9_]
      · rw [if_neg z, bi_f z, if_pos (show (0 : Int32) = 0 from rfl), lt_e]
        exact m_stopA x1.1 1 _ 1 _ rfl (rt_n x1)
  · rw [if_pos (show isW_ w (a + 1) 21 = false by simpa using q), bi_f q, if_pos (show (0 : Int32) = 0 from rfl)]
    have ms := m_sum hE e2
    revert ms
    cases es : pS_ w false (a + 1) c.2.1 c.2.2 with
    | inl e =>
      intro ms
      obtain ⟨τ2, m1, m2⟩ := ms
      refine ⟨τ2, ?_, m2⟩
      rw [m1]
      rfl
    | inr x =>
      intro ms
      obtain ⟨v, τ2, m1, x1, x2, x3⟩ := ms
      obtain ⟨o1, o2⟩ := pS_ok es
      rw [eb_r, m1]
      show rr_ _ (bd_ _ _) _ _ _
      rw [m_isS x1 (c := 125) (C := 125) rfl (by decide), bd_s]
      by_cases z : isS_ w x.1 125 = true
      · rw [if_pos z, bi_t z, if_neg (show ¬ (1 : Int32) = 0 by decide)]
        have lx := tz_le hw x1.2.2.1
        have r1 := rt_rx k1 x1 (by omega)
        have gt1 : a < nx9_ w x.1 := by have := lx.1; have := lx.2.1; omega
        cases pr with
        | false =>
          rw [bi_f (show ¬ (false = true) by decide), if_pos (show (0 : Int32) = 0 from rfl)]
          exact ⟨(), τ2, rfl, r1, by show a ≤ nx9_ w x.1; omega, Nat.le_refl _⟩
        | true =>
          rw [bi_t (show true = true from rfl), if_neg (show ¬ (1 : Int32) = 0 by decide)]
          have hx30 := x1.2.2.2.1.2.1
          have bd := sv_bd hB x.2.2.2 0 o2 (by omega) (by simp only [Int32.toInt_zero]; omega) (by simp only [Int32.toInt_zero]; omega)
          rw [← x2] at bd
          obtain ⟨τ3, p1, p2⟩ := m_num (v := v) (by omega) (by omega) (rx_pu r1)
          rw [p1, bd_s]
          obtain ⟨p3, p4, p5, p6⟩ := p2
          obtain ⟨h1', ⟨h2', h3'⟩, ⟨h4', h5', h6', h7', h8'⟩, ⟨h9', h10'⟩, h11'⟩ := r1
          refine ⟨(), τ3, rfl, ⟨p3, ⟨h2', ?_⟩, ⟨?_, h5', ?_, h7', ?_⟩, ⟨?_, ?_⟩, ?_⟩, by show a ≤ nx9_ w x.1; omega, Nat.le_refl _⟩
          · rw [p4 1632 (by decide)]; exact h3'
          · rw [p4 1638 (by decide)]; exact h4'
          · rw [p4 1639 (by decide)]; exact h6'
          · rw [p4 1640 (by decide)]; exact h8'
          · rw [← x2]; exact p5
          · have := dg_len v
            show (lq9_ true L (dg9_ (sv9_ E x.2.2.2 0))).length ≤ 8 * (c.1 + 1) + nx9_ w x.1
            rw [← x2]
            simp only [lq9_, if_true, List.length_append]
            omega
          · rw [← x2]; exact p6
      · rw [if_neg z, bi_f z, if_pos (show (0 : Int32) = 0 from rfl), lt_e]
        exact m_stopA x1.1 1 _ 1 _ rfl (rt_n x1)
theorem m_goesL {slf : TH → Nat → Int32 → Int32 → Option ((Unit ⊕ Nat) × TH)} {S : Nat → Nat → CT → Nat → RT} {d first : Nat} {pr : Bool} (hE : ve_ σ y G A N t n p w 0 false E) (hB : eB_ E) (hd : d ≤ 5) (hs : d < 5 → ∀ (a o : Nat) (c : CT) (L : List Nat) (pr : Bool) (τ : TH), rx_ σ y G A N t n p w a c L τ → rr_ (S (d + 1) a c o) (slf τ y (nI (d + 1)) (bi_ (pr = true))) (rz_ σ y G A N t n p w 0) (ga_ G 25 0) (rk_ σ y G A N t n p w pr L a c)) : ∀ (f g a o : Nat) (c : CT) (ss : List SP) (out : List Nat) (τ : TH), 60 < f + c.1 → f ≤ g → first ≤ a → rx_ σ y G A N t n p w a c (lq9_ pr L out) τ → rr_ (pG_ E w S d first f a c o ss out) (f_X15_goesText_b5 slf g τ y (nI d) (bi_ (pr = true)) (nI first)) (rz_ σ y G A N t n p w 0) (ga_ G 25 0) (rk_ σ y G A N t n p w pr L a c)
  | 0, _, _, _, c, _, _, _, h1, _, _, h => by have := h.2.2.1.2.1; omega
  | f + 1, 0, _, _, _, _, _, _, _, h2, _, _ => by omega
  | f + 1, g + 1, a, o, c, ss, out, τ, h1, h2, hf, h => by
    have hy := rs_y h.1
    have hn4 := h.1.2.2.2.2.1.2.2
    have hw := h.1.2.2.2.2.1.2.1
    have ha := h.2.1.1
    have h60 := h.2.2.1.2.1
    have hok := rs_ok h.1 a
    have hb := m_byte h.1 (a := a) (by omega)
    have b174 : w a = 999 ∨ w a = 125 ∨ w a = 124 → rr_ (pG_ E w S d first (f + 1) a c o ss out) (f_X15_goesText_b174 slf τ y (nI first)) (rz_ σ y G A N t n p w 0) (ga_ G 25 0) (rk_ σ y G A N t n p w pr L a c) := fun q => by
      unfold pG_ f_X15_goesText_b174
      rw [if_pos q, gt_t hy, lt_e, h.2.1.2]
      by_cases z : a = first
      · rw [if_pos z, if_pos (by rw [z]), lt_e]
        exact m_stopA h.1 1 _ 1 a rfl rfl
      · rw [if_neg z, if_neg (fun q => z ((nI_eq (by omega) (by omega)).mp q))]
        exact ⟨(), τ, rfl, h, Nat.le_refl _, Nat.le_refl _⟩
    have b80 : ¬ (w a = 999 ∨ w a = 125 ∨ w a = 124) → ¬ (w a ≠ 123 ∧ tP (w a) = false) → rr_ (pG_ E w S d first (f + 1) a c o ss out) (f_X15_goesText_b80 slf (f_X15_goesText_b5 slf g) τ y (nI d) (bi_ (pr = true)) (nI first)) (rz_ σ y G A N t n p w 0) (ga_ G 25 0) (rk_ σ y G A N t n p w pr L a c) := fun q1 q2 => by
      unfold f_X15_goesText_b80
      rw [gt_t hy, lt_e, h.2.2.1.1]
      by_cases z60 : c.1 = 60
      · unfold pG_
        rw [if_neg q1, if_neg q2, if_pos z60, if_pos (show nI c.1 = (60 : Int32) by rw [z60]; rfl), lt_e]
        exact m_stopA h.1 3 _ 3 a rfl h.2.1.2
      · have n60 : ¬ nI c.1 = (60 : Int32) := fun q => z60 ((nI_eq (b := 60) (by omega) (by decide)).mp q)
        rw [if_neg n60, lt_e, lt_e, nI_1, lt_e]
        have h9 : rx_ σ y G A N t n p w a (c.1 + 1, c.2) (lq9_ pr L out) (si_ τ 1638 y (nI (c.1 + 1))) := by
          obtain ⟨h1, ⟨h2, h3⟩, ⟨h4, h5, h6, h7, h8⟩, ⟨h9, h10⟩, h11⟩ := h
          refine ⟨rs_si h1 (j := 38) (by decide) rfl _, ⟨h2, ?_⟩, ⟨?_, by show c.1 + 1 ≤ 60; omega, ?_, h7, ?_⟩, ⟨?_, by show _ ≤ 8 * (c.1 + 1) + a; omega⟩, h11⟩
          · rw [fi_si, up2_c (by decide)]; exact h3
          · rw [fi_si, up2_s]
          · rw [fi_si, up2_c (by decide)]; exact h6
          · rw [fi_si, up2_c (by decide)]; exact h8
          · rw [fi_si, up2_c (by decide)]; exact h9
        rw [h9.2.1.2, m_byte h9.1 (a := a) (by omega), bd_s]
        by_cases z : w a = 123
        · rw [if_pos ((cb9_eq hok (d := 123) (D := 123) (by decide) rfl).mpr z), pG_brace E w S d first f a c o ss out z z60]
          refine rr_bx (m_brace (o := o) (pr := pr) hE hB h9 h.2.2.2.1.2 z hd hs) (fun x _ τ1 hx => ?_)
          obtain ⟨x1, x2, x3⟩ := hx
          rw [lq9_app] at x1
          have x3' : c.1 + 1 ≤ x.2.1.1 := x3
          refine rr_mono (m_goesL hE hB hd hs f g x.1 (o + x.2.2.1.length) x.2.1 (ss ++ x.2.2.1) (out ++ x.2.2.2) τ1 (by omega) (by omega) (by omega) x1) (fun b _ τ2 hb => ⟨hb.1, by have := hb.2.1; omega, by have := hb.2.2; omega⟩)
        · rw [if_neg (cbn hok (d := 123) (D := 123) (by decide) rfl z)]
          obtain ⟨τ1, p1, p2⟩ := m_plain (slf := slf) (rc := f_X15_goesText_b5 slf g) (pr := pr) (d0 := nI d) (F := nI first) 500 fu_ a _ _ (by omega) (by decide) h9
          rw [p1]
          rw [lq9_app] at p2
          unfold pG_
          rw [if_neg q1, if_neg q2, if_neg z60, if_pos z]
          have ge := en9_ge tP w 500 a
          refine rr_mono (m_goesL hE hB hd hs f g _ _ (c.1 + 1, c.2) _ _ τ1 (by show 60 < f + (c.1 + 1); omega) (by omega) (by omega) p2) (fun b _ τ2 hb => ⟨hb.1, by have := hb.2.1; omega, by have : c.1 + 1 ≤ b.2.1.1 := hb.2.2; omega⟩)
    unfold f_X15_goesText_b5
    rw [gt_t hy, lt_e, h.2.1.2, hb, bd_s]
    by_cases z9 : w a = 999
    · rw [if_pos ((cb9_m1 hok).mpr z9)]
      exact b174 (Or.inl z9)
    rw [if_neg (fun q => z9 ((cb9_m1 hok).mp q)), lt_e, h.2.1.2, hb, bd_s]
    by_cases z1 : w a = 125
    · rw [if_pos ((cb9_eq hok (d := 125) (D := 125) (by decide) rfl).mpr z1)]
      exact b174 (Or.inr (Or.inl z1))
    rw [if_neg (cbn hok (d := 125) (D := 125) (by decide) rfl z1), lt_e, h.2.1.2, hb, bd_s]
    by_cases z2 : w a = 124
    · rw [if_pos ((cb9_eq hok (d := 124) (D := 124) (by decide) rfl).mpr z2)]
      exact b174 (Or.inr (Or.inr z2))
    have q1 : ¬ (w a = 999 ∨ w a = 125 ∨ w a = 124) := fun q => q.elim z9 (fun q => q.elim z1 z2)
    rw [if_neg (cbn hok (d := 124) (D := 124) (by decide) rfl z2), lt_e, h.2.1.2, hb, bd_s]
    by_cases z3 : w a = 123
    · rw [if_pos ((cb9_eq hok (d := 123) (D := 123) (by decide) rfl).mpr z3)]
      exact b80 q1 (fun q => q.1 z3)
    rw [if_neg (cbn hok (d := 123) (D := 123) (by decide) rfl z3), lt_e, h.2.1.2, hb, bd_s, m_pla τ hok, bd_s]
    by_cases z4 : tP (w a) = true
    · rw [bi_t z4, if_neg (show ¬ (1 : Int32) = 0 by decide)]
      exact b80 q1 (fun q => by rw [z4] at q; exact absurd q.2 (by decide))
    · rw [bi_f z4, if_pos (show (0 : Int32) = 0 from rfl), lt_e]
      unfold pG_
      rw [if_neg q1, if_pos ⟨z3, by simpa using z4⟩]
      exact m_stopA h.1 1 _ 1 a rfl h.2.1.2
/-- A TEXT -/
theorem m_text (hE : ve_ σ y G A N t n p w 0 false E) (hB : eB_ E) : ∀ (l d : Nat), l + d = 12 → d ≤ 5 → ∀ (a o : Nat) (c : CT) (L : List Nat) (pr : Bool) (τ : TH), rx_ σ y G A N t n p w a c L τ → rr_ (pX_ E w l d a c o) (f_X15_goesText l τ y (nI d) (bi_ (pr = true))) (rz_ σ y G A N t n p w 0) (ga_ G 25 0) (rk_ σ y G A N t n p w pr L a c)
  | 0, d, h1, h2, _, _, _, _, _, _, _ => by omega
  | l + 1, d, h1, h2, a, o, c, L, pr, τ, h => by
    unfold pX_ f_X15_goesText g_X15_goesText
    rw [gt_t (rs_y h.1), lt_e, h.2.1.2]
    exact m_goesL (L := L) (pr := pr) hE hB h2 (fun h5 a o c L pr τ h => m_text hE hB l (d + 1) (by omega) h5 a o c L pr τ h) 100 fu_ a o c [] [] τ (by omega) (by decide) (Nat.le_refl _) (by rw [lq9_nil]; exact h)
end RTXT
