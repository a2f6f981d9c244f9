/-! THE REFERENCE READS AND PRINTS: texts. Written by wip/b/mk89.py. -/
section RTEXT
variable {σ τ τ0 : TH} {y : Nat} {G : GH} {A : AS} {N : Nat → Nat} {t n p : Nat} {w : Nat → Nat} {E : EV9} {L : List Nat}
/-- between pieces: at a, counters c, L printed -/
def rx_ (σ : TH) (y : Nat) (G : GH) (A : AS) (N : Nat → Nat) (t n p : Nat) (w : Nat → Nat) (a : Nat) (c : CT) (L : List Nat) (τ : TH) : Prop := rs_ σ y G A N t n p w 0 τ ∧ (a ≤ n ∧ fi_ τ 1632 y = nI a) ∧ (fi_ τ 1638 y = nI c.1 ∧ c.1 ≤ 60 ∧ fi_ τ 1639 y = nI c.2.1 ∧ c.2.1 ≤ 30 ∧ fi_ τ 1640 y = c.2.2) ∧ (fi_ τ 1641 y = nI L.length ∧ L.length ≤ 8 * c.1 + a) ∧ ∀ i, i < L.length → ai_ τ (ga_ G 27 0) i = by9_ (L.getD i 0)
def lq9_ (pr : Bool) (L out : List Nat) : List Nat := if pr = true then L ++ out else L
theorem lq9_nil (pr : Bool) (L : List Nat) : lq9_ pr L [] = L := by cases pr <;> simp [lq9_]
theorem lq9_app (pr : Bool) (L a b : List Nat) : lq9_ pr (lq9_ pr L a) b = lq9_ pr L (a ++ b) := by cases pr <;> simp [lq9_]
theorem rx_pu {a : Nat} {c : CT} (h : rx_ σ y G A N t n p w a c L τ) : pu_ σ y G A N t n p w 0 τ L τ := ⟨h.1, fun _ _ => rfl, h.2.2.2.1.1, h.2.2.2.2⟩
/-- the place moves -/
theorem rx_at {a b : Nat} {c : CT} (h : rx_ σ y G A N t n p w a c L τ) (hab : a ≤ b) (hb : b ≤ n) : rx_ σ y G A N t n p w b c L (si_ τ 1632 y (nI b)) := by
  obtain ⟨h1, ⟨h2, h3⟩, ⟨h4, h5, h6, h7, h8⟩, ⟨h9, h10⟩, h11⟩ := h
  refine ⟨rs_si h1 (j := 32) (by decide) rfl _, ⟨hb, by rw [fi_si, up2_s]⟩, ⟨?_, h5, ?_, h7, ?_⟩, ⟨?_, by omega⟩, h11⟩
  · rw [fi_si, up2_c (by decide)]; exact h4
  · rw [fi_si, up2_c (by decide)]; exact h6
  · rw [fi_si, up2_c (by decide)]; exact h8
  · rw [fi_si, up2_c (by decide)]; exact h9
theorem bl9_c (w : Nat → Nat) (a m : Nat) : bl9_ w a (m + 1) = w a :: bl9_ w (a + 1) m := by
  unfold bl9_
  rw [List.range_succ_eq_map, List.map_cons, List.map_map]
  refine congrArg (w a :: ·) (List.map_congr_left fun i _ => ?_)
  show w (a + (i + 1)) = w (a + 1 + i)
  rw [Nat.add_assoc, Nat.add_comm 1 i]
/-- a run of plain bytes -/
theorem m_plain {c : CT} {slf : TH → Nat → Int32 → Int32 → Option ((Unit ⊕ Nat) × TH)} {rc : TH → Nat → Int32 → Int32 → Int32 → Option ((Unit ⊕ Nat) × TH)} {pr : Bool} {d0 F : Int32} : ∀ (f g a : Nat) (L : List Nat) (τ : TH), n < f + a → f ≤ g → rx_ σ y G A N t n p w a c L τ → ∃ τ', f_X15_goesText_b131 slf rc g τ y d0 (bi_ (pr = true)) F = rc τ' y d0 (bi_ (pr = true)) F ∧ rx_ σ y G A N t n p w (en9_ tP w f a) c (lq9_ pr L (bl9_ w a (en9_ tP w f a - a))) τ'
  | 0, _, a, _, _, h1, _, h => by have := h.2.1.1; omega
  | f + 1, 0, _, _, _, _, h2, _ => by omega
  | f + 1, g + 1, a, L, τ, h1, h2, h => by
    have hy := rs_y h.1
    have hn4 := h.1.2.2.2.2.1.2.2
    have hw := h.1.2.2.2.2.1.2.1
    have ha := h.2.1.1
    have hok := rs_ok h.1 a
    have hb := m_byte h.1 (a := a) (by omega)
    have hL := h.2.2.2.1.2
    have h60 := h.2.2.1.2.1
    unfold f_X15_goesText_b131
    rw [gt_t hy, lt_e, h.2.1.2, hb, bd_s, m_pla τ hok, bd_s]
    by_cases z : tP (w a) = true
    · rw [bi_t z, if_neg (show ¬ (1 : Int32) = 0 by decide)]
      have han : a < n := by
        rcases Nat.lt_or_ge a n with q | q
        · exact q
        · rw [hw a q] at z; cases z
      have h256 : w a ≠ 999 := fun q => by rw [q] at z; cases z
      have ecb : cb9_ (w a) = nI (w a) := if_neg h256
      rw [en9_nx z]
      have ge := en9_ge tP w f (a + 1)
      have e1 : en9_ tP w f (a + 1) - a = (en9_ tP w f (a + 1) - (a + 1)) + 1 := by omega
      rw [e1, bl9_c]
      have b161 : ∀ (τ1 : TH) (L1 : List Nat), rx_ σ y G A N t n p w (a + 1) c L1 (si_ τ1 1632 y (nI (a + 1))) → kd_ τ1 y = 17 → fi_ τ1 1632 y = nI a → ∃ τ', f_X15_goesText_b161 slf (f_X15_goesText_b131 slf rc g) τ1 y d0 (bi_ (pr = true)) F = rc τ' y d0 (bi_ (pr = true)) F ∧ rx_ σ y G A N t n p w (en9_ tP w f (a + 1)) c (lq9_ pr L1 (bl9_ w (a + 1) (en9_ tP w f (a + 1) - (a + 1)))) τ' := fun τ1 L1 q1 q2 q3 => by
        obtain ⟨τ', r1, r2⟩ := m_plain (slf := slf) (rc := rc) (pr := pr) (d0 := d0) (F := F) f g (a + 1) L1 _ (by omega) (by omega) q1
        refine ⟨τ', ?_, r2⟩
        unfold f_X15_goesText_b161
        rw [gt_t q2, lt_e, q3, lt_e, nI_1]
        exact r1
      cases pr with
      | false =>
        rw [bi_f (show ¬ (false = true) by decide), if_pos (show (0 : Int32) = 0 from rfl)]
        have q := b161 τ L (rx_at h (by omega) han) hy h.2.1.2
        rw [bi_f (show ¬ (false = true) by decide)] at q
        exact q
      | true =>
        rw [bi_t (show true = true from rfl), if_neg (show ¬ (1 : Int32) = 0 by decide), lt_e, h.2.1.2, hb, bd_s, ecb]
        obtain ⟨τ1, p1, p2⟩ := m_prints (rx_pu h) (by omega) (w a)
        rw [p1, bd_s]
        obtain ⟨p3, p4, p5, p6⟩ := p2
        obtain ⟨h1', ⟨h2', h3'⟩, ⟨h4', h5', h6', h7', h8'⟩, ⟨h9', h10'⟩, h11'⟩ := h
        have q := b161 τ1 (L ++ [w a]) (by
          refine ⟨rs_si p3 (j := 32) (by decide) rfl _, ⟨han, by rw [fi_si, up2_s]⟩, ⟨?_, h5', ?_, h7', ?_⟩, ⟨?_, ?_⟩, p6⟩
          · rw [fi_si, up2_c (by decide), p4 1638 (by decide)]; exact h4'
          · rw [fi_si, up2_c (by decide), p4 1639 (by decide)]; exact h6'
          · rw [fi_si, up2_c (by decide), p4 1640 (by decide)]; exact h8'
          · rw [fi_si, up2_c (by decide)]; exact p5
          · rw [List.length_append]; simp only [List.length_cons, List.length_nil]; omega) (rs_y p3) (by rw [p4 1632 (by decide)]; exact h3')
        rw [bi_t (show true = true from rfl)] at q
        obtain ⟨τ', r1, r2⟩ := q
        refine ⟨τ', r1, ?_⟩
        have e2 : lq9_ true (L ++ [w a]) (bl9_ w (a + 1) (en9_ tP w f (a + 1) - (a + 1))) = lq9_ true L (w a :: bl9_ w (a + 1) (en9_ tP w f (a + 1) - (a + 1))) := by simp [lq9_]
        rw [e2] at r2
        exact r2
    · rw [bi_f z, if_pos (show (0 : Int32) = 0 from rfl)]
      have e : en9_ tP w (f + 1) a = a := en9_st (by simpa using z)
      rw [e, Nat.sub_self, show bl9_ w a 0 = [] from rfl, lq9_nil]
      exact ⟨τ, rfl, h⟩
/-- stopped at a place -/
theorem m_stopA {β : Type} {ok : β → Unit → TH → Prop} (h : rs_ σ y G A N t n p w 0 τ) (K v : Int32) (d b : Nat) (e : K = nI d) (e2 : v = nI b) : rr_ (.inl (d, b)) (bd_ (f_X15_stop τ y K v) fun r31 s32 => nn_ r31 fun a33 => gt_ (kd_ s32 a33 = 16) <| some ((.inr a33 : Unit ⊕ Nat), s32)) (rz_ σ y G A N t n p w 0) (ga_ G 25 0) ok := by
  subst e; subst e2
  obtain ⟨τ', e, hz⟩ := m_stop h d b
  refine ⟨τ', ?_, hz⟩
  rw [e, bd_s]
  show gt_ _ _ = _
  rw [gt_t hz.2.1]
/-- behind a sum or a test: the text goes on behind the token -/
theorem rt_rx {a b tt : Nat} {k : Int32} {c : CT} (h0 : rx_ σ y G A N t n p w a c L τ0) (h : rt_ σ y G A N t n p w 0 τ0 b tt k τ) (hab : a ≤ b) : rx_ σ y G A N t n p w (nx9_ w b) (c.1, tt, k) L τ := by
  obtain ⟨h1, h2, h3, ⟨h4, h5, h6⟩, h7, h8, h9⟩ := h
  obtain ⟨g1, ⟨g2, g3⟩, ⟨g4, g5, g6, g7, g8⟩, ⟨g9, g10⟩, g11⟩ := h0
  have l := tz_le h1.2.2.2.2.1.2.1 h3
  refine ⟨h1, ⟨l.2.2.1, h2.2.1⟩, ⟨by rw [h7]; exact g4, g5, h4, h5, h6⟩, ⟨by rw [h8]; exact g9, ?_⟩, fun i hi => by rw [h9]; exact g11 i hi⟩
  have := l.1; have := l.2.1
  show L.length ≤ 8 * c.1 + nx9_ w b
  omega
/-- a token is read at a text's place -/
theorem rx_rt {a : Nat} {c : CT} (h : rx_ σ y G A N t n p w a c L τ) : ∃ u τ', f_X15_next τ y = some (u, τ') ∧ rt_ σ y G A N t n p w 0 τ a c.2.1 c.2.2 τ' := by
  obtain ⟨h1, ⟨h2, h3⟩, ⟨h4, h5, h6, h7, h8⟩, ⟨h9, h10⟩, h11⟩ := h
  obtain ⟨⟨u, τ'⟩, r1, r2, r3, r4⟩ := m_next h1 h2 h3
  exact ⟨u, τ', r1, r2, r3, h2, ⟨by rw [r4.1.2.1]; exact h6, h7, by rw [r4.1.2.2.1]; exact h8⟩, r4.1.1, r4.1.2.2.2, r4.2⟩
end RTEXT
