/-! THE REFERENCE READS: numbers, next(), words told apart. Written by wip/b/mk83.py. -/
section NX3
variable {σ τ : TH} {y : Nat} {G : GH} {A : AS} {N : Nat → Nat} {t n p : Nat} {w : Nat → Nat} {ru : Int32}
theorem m_number (h : rs_ σ y G A N t n p w ru τ) {s : Nat} (hs : s < n) (hl : tD (w s) = true) (e32 : fi_ τ 1632 y = nI s) (e33 : fi_ τ 1633 y = 0) (e34 : fi_ τ 1634 y = nI s) (e36 : fi_ τ 1636 y = 0) : ∃ r, f_X15_next_b213 fu_ τ y (nI 0) = some r ∧ rs_ σ y G A N t n p w ru r.2 ∧ tv9_ r.2 y w (tkp_ w s) ∧ kp9_ G y τ r.2 := by
  have hw := h.2.2.2.2.1.2.1
  have hn4 := h.2.2.2.2.1.2.2
  have hok := rs_ok h
  obtain ⟨q, hq⟩ : ∃ q, q = en9_ tD w 500 s := ⟨_, rfl⟩
  have hqe : tD (w q) = false := by rw [hq]; exact en9_end rfl hw (by omega)
  have hqi : ∀ i, s ≤ i → i < q → tD (w i) = true := fun i h1 h2 => en9_in h1 (by rw [← hq]; exact h2)
  have hqn : q ≤ n := by rw [hq]; exact en9_le rfl hw (by omega)
  have hsq : s ≤ q := by rw [hq]; exact en9_ge tD w 500 s
  have h48 : 48 ≤ w s ∧ w s ≤ 57 := by simpa [tD] using hl
  have etk : tkp_ w s = ((if q - s < 5 then 2 else 0), nv9_ w s (q - s), s, q) := by
    unfold tkp_
    have hnl : ¬ tL (w s) = true := by simp [tL]; omega
    rw [if_neg (by omega), if_neg hnl, if_pos hl, ← hq]
  refine lpe_ (F := fun f (a : TH) i => f_X15_next_b213 f a y i) (q - s) (fun i a => rs_ σ y G A N t n p w ru a ∧ fi_ a 1632 y = nI (s + i) ∧ fi_ a 1633 y = 0 ∧ fi_ a 1634 y = nI s ∧ fi_ a 1636 y = nI (nv9_ w s i) ∧ kp9_ G y τ a) (fun r => rs_ σ y G A N t n p w ru r.2 ∧ tv9_ r.2 y w (tkp_ w s) ∧ kp9_ G y τ r.2) (fun f i a hi ha => ?_) (fun f a ha => ?_) (by omega) τ ⟨h, e32, e33, e34, e36, kp_rf _ _ _⟩
  · obtain ⟨a1, a2, a3, a4, a5, a6⟩ := ha
    have hy := rs_y a1
    have hb := m_byte a1 (a := s + i) (by omega)
    have hli := hqi (s + i) (by omega) (by omega)
    have hlt := m_dig a (hok (s + i))
    rw [bi_t hli] at hlt
    have h3 : 48 ≤ w (s + i) ∧ w (s + i) ≤ 57 := by simpa [tD] using hli
    have ecb : cb9_ (w (s + i)) = nI (w (s + i)) := if_neg (by omega)
    rw [ecb] at hb hlt
    by_cases z4 : 4 ≤ i
    · have y4 : (4 : Int32) ≤ nI i := nI_le (a := 4) z4 (by omega)
      have s1 := rs_si a1 (j := 32) (c := 1632) (by decide) rfl (nI (s + i + 1))
      refine ⟨si_ a 1632 y (nI (s + i + 1)), ?_, s1, by rw [fi_si, up2_s]; rfl, by rw [fi_si, up2_c (by decide)]; exact a3, by rw [fi_si, up2_c (by decide)]; exact a4, ?_, kp_si a6 (by decide)⟩
      · simp [f_X15_next_b213, f_X15_next_b255, gt_, lt_, nn_, oc_, bd_, hy, a2, hb, hlt, y4, nI_1]
      · rw [fi_si, up2_c (by decide), a5]
        conv => rhs; unfold nv9_
        rw [if_neg (by omega)]
    · have y4 : ¬ (4 : Int32) ≤ nI i := nI_ge (b := 4) (by omega) (by decide)
      have ev : (10 : Int32) * nI (nv9_ w s i) + nI (w (s + i)) - 48 = nI (nv9_ w s (i + 1)) := by
        conv => rhs; unfold nv9_
        rw [if_pos (by omega), show (10 : Int32) = nI 10 from rfl, pk_mul, nI_add, show (48 : Int32) = nI 48 from rfl, pk_sub (by omega)]
        congr 1
        omega
      have s2 := rs_si (rs_si a1 (j := 36) (c := 1636) (by decide) rfl (nI (nv9_ w s (i + 1)))) (j := 32) (c := 1632) (by decide) rfl (nI (s + i + 1))
      refine ⟨si_ (si_ a 1636 y (nI (nv9_ w s (i + 1)))) 1632 y (nI (s + i + 1)), ?_, s2, by rw [fi_si, up2_s]; rfl, by rw [fi_si, up2_c (by decide), fi_si, up2_c (by decide)]; exact a3, by rw [fi_si, up2_c (by decide), fi_si, up2_c (by decide)]; exact a4, by rw [fi_si, up2_c (by decide), fi_si, up2_s], kp_si (kp_si a6 (by decide)) (by decide)⟩
      simp [f_X15_next_b213, f_X15_next_b255, gt_, lt_, nn_, oc_, bd_, kd_si, ln_si, fi_si, fr_si, fl_si, ai_si, ar_si, al_si, ow_si, nx_si, sl_si, kd_sr, ln_sr, fi_sr, fr_sr, fl_sr, ai_sr, ar_sr, al_sr, ow_sr, nx_sr, sl_sr, kd_so, ln_so, fi_so, fr_so, fl_so, ai_so, ar_so, al_so, ow_so, nx_so, sl_so, kd_sa, ln_sa, fi_sa, fr_sa, fl_sa, ai_sa, ar_sa, al_sa, ow_sa, nx_sa, sl_sa, kd_sq, ln_sq, fi_sq, fr_sq, fl_sq, ai_sq, ar_sq, al_sq, ow_sq, nx_sq, sl_sq, kd_sj, ln_sj, fi_sj, fr_sj, fl_sj, ai_sj, ar_sj, al_sj, ow_sj, nx_sj, sl_sj, up2_e, hy, a2, hb, hlt, y4, a5, ev, nI_1]
  · obtain ⟨a1, a2, a3, a4, a5, a6⟩ := ha
    have esq : s + (q - s) = q := by omega
    rw [esq] at a2
    have hy := rs_y a1
    have hb := m_byte a1 (a := q) (by omega)
    have hlt := m_dig a (hok q)
    rw [bi_f (by rw [hqe]; decide)] at hlt
    rw [etk]
    by_cases z5 : q - s < 5
    · have y5 : ¬ (5 : Int32) ≤ nI (q - s) := nI_ge (b := 5) z5 (by decide)
      rw [if_pos z5]
      refine ⟨((), si_ a 1633 y 3), by simp [f_X15_next_b213, f_X15_next_b311, gt_, lt_, nn_, oc_, bd_, hy, a2, hb, hlt, y5], rs_si a1 (j := 33) (by decide) rfl 3, ⟨by rw [fi_si, up2_c (by decide)]; exact a4, by rw [fi_si, up2_c (by decide)]; exact a2, Or.inr (Or.inr (Or.inl ⟨rfl, by rw [fi_si, up2_s], by rw [fi_si, up2_c (by decide)]; exact a5⟩))⟩, kp_si a6 (by decide)⟩
    · have y5 : (5 : Int32) ≤ nI (q - s) := nI_le (a := 5) (by omega) (by omega)
      rw [if_neg z5]
      exact ⟨((), a), by simp [f_X15_next_b213, f_X15_next_b311, gt_, lt_, nn_, oc_, bd_, hy, a2, hb, hlt, y5], a1, ⟨a4, a2, Or.inl ⟨rfl, a3⟩⟩, a6⟩
/-- THE NEXT TOKEN -/
theorem m_next (h : rs_ σ y G A N t n p w ru τ) {a : Nat} (ha : a ≤ n) (e32 : fi_ τ 1632 y = nI a) : ∃ r, f_X15_next τ y = some r ∧ rs_ σ y G A N t n p w ru r.2 ∧ tv9_ r.2 y w (tz_ w a) ∧ kp9_ G y τ r.2 := by
  have hw := h.2.2.2.2.1.2.1
  have hn4 := h.2.2.2.2.1.2.2
  have hok := rs_ok h
  obtain ⟨s, hs⟩ : ∃ s, s = en9_ tS w 500 a := ⟨_, rfl⟩
  have hse : tS (w s) = false := by rw [hs]; exact en9_end rfl hw (by omega)
  have hsi : ∀ i, a ≤ i → i < s → tS (w i) = true := fun i h1 h2 => en9_in h1 (by rw [← hs]; exact h2)
  have hsn : s ≤ n := by rw [hs]; exact en9_le rfl hw ha
  have has : a ≤ s := by rw [hs]; exact en9_ge tS w 500 a
  have etz : tz_ w a = tkp_ w s := by unfold tz_; rw [← hs]
  rw [etz]
  refine lpe_ (F := fun f (b : TH) (_ : Int32) => f_X15_next_b0 f b y) (s - a) (fun i b => rs_ σ y G A N t n p w ru b ∧ fi_ b 1632 y = nI (a + i) ∧ kp9_ G y τ b) (fun r => rs_ σ y G A N t n p w ru r.2 ∧ tv9_ r.2 y w (tkp_ w s) ∧ kp9_ G y τ r.2) (fun f i b hi hb => ?_) (fun f b hb => ?_) (by omega) τ ⟨h, e32, kp_rf _ _ _⟩
  · obtain ⟨b1, b2, b3⟩ := hb
    have hy := rs_y b1
    have hby := m_byte b1 (a := a + i) (by omega)
    have h32 : w (a + i) = 32 := by simpa [tS] using hsi (a + i) (by omega) (by omega)
    have e : cb9_ (w (a + i)) = 32 := by rw [h32]; rfl
    rw [e] at hby
    refine ⟨si_ b 1632 y (nI (a + i + 1)), ?_, rs_si b1 (j := 32) (by decide) rfl _, by rw [fi_si, up2_s]; rfl, kp_si b3 (by decide)⟩
    simp [f_X15_next_b0, gt_, lt_, nn_, oc_, bd_, hy, b2, hby, nI_1]
  · obtain ⟨b1, b2, b3⟩ := hb
    have eas : a + (s - a) = s := by omega
    rw [eas] at b2
    have hy := rs_y b1
    have hby := m_byte b1 (a := s) (by omega)
    have n32 : ¬ cb9_ (w s) = 32 := fun z => by
      have := (cb9_eq (hok s) (d := 32) (by decide) rfl).mp z
      simp [tS, this] at hse
    obtain ⟨c, hc⟩ : ∃ c, c = si_ (si_ (si_ b 1634 y (nI s)) 1633 y 0) 1635 y 0 := ⟨_, rfl⟩
    have c1 : rs_ σ y G A N t n p w ru c := by
      rw [hc]
      exact rs_si (rs_si (rs_si b1 (j := 34) (by decide) rfl _) (j := 33) (by decide) rfl _) (j := 35) (by decide) rfl _
    have c32 : fi_ c 1632 y = nI s := by rw [hc, fi_si, up2_c (by decide), fi_si, up2_c (by decide), fi_si, up2_c (by decide)]; exact b2
    have c33 : fi_ c 1633 y = 0 := by rw [hc, fi_si, up2_c (by decide), fi_si, up2_s]
    have c34 : fi_ c 1634 y = nI s := by rw [hc, fi_si, up2_c (by decide), fi_si, up2_c (by decide), fi_si, up2_s]
    have ck : kp9_ G y τ c := by
      rw [hc]
      exact kp_si (kp_si (kp_si b3 (by decide)) (by decide)) (by decide)
    have hbc := m_byte c1 (a := s) (by omega)
    have hyc := rs_y c1
    have hl := m_let c (hok s)
    have hd := m_dig c (hok s)
    have hm := m_mark c (hok s)
    have e0 : f_X15_next_b0 (f + 1) b y = (if cb9_ (w s) = -1 then (lt_ (si_ c 1633 y 1) fun s13 => f_X15_next_b311 s13) else (bd_ (f_X15_isLetter c (cb9_ (w s))) fun x14 s15 => if x14 = 0 then (bd_ (f_X15_isDigit s15 (cb9_ (w s))) fun x16 s17 => if x16 = 0 then (bd_ (f_X15_isMark s17 (cb9_ (w s))) fun x18 s19 => if x18 = 0 then (f_X15_next_b311 s19) else (lt_ (si_ s19 1633 y 4) fun s20 => lt_ (si_ s20 1635 y (cb9_ (w s))) fun s21 => lt_ (fi_ s21 1632 y) fun x22 => lt_ (si_ s21 1632 y (x22 + 1)) fun s23 => f_X15_next_b311 s23)) else (lt_ (si_ s17 1636 y 0) fun s24 => f_X15_next_b213 fu_ s24 y 0)) else (lt_ (so_ s15 1646 y 0) fun s39 => f_X15_next_b80 fu_ s39 y 0))) := by
      rw [f_X15_next_b0, gt_t hy, lt_e, b2, hby, bd_s, if_neg n32, lt_e, b2, lt_e, lt_e, lt_e, ← hc, lt_e, c32, hbc, bd_s]
    clear hc
    (try dsimp only)
    rw [e0]
    by_cases z9 : w s = 999
    · rw [if_pos ((cb9_m1 (hok s)).mpr z9), lt_e]
      have ek : tkp_ w s = (1, 0, s, s) := by unfold tkp_; rw [if_pos z9]
      rw [ek]
      exact ⟨_, rfl, rs_si c1 (j := 33) (by decide) rfl 1, ⟨by rw [fi_si, up2_c (by decide)]; exact c34, by rw [fi_si, up2_c (by decide)]; exact c32, Or.inr (Or.inl ⟨rfl, by rw [fi_si, up2_s]⟩)⟩, kp_si ck (by decide)⟩
    · have hsl : s < n := by
        rcases Nat.lt_or_ge s n with z | z
        · exact z
        · exact absurd (hw s z) z9
      rw [if_neg (fun z => z9 ((cb9_m1 (hok s)).mp z)), hl, bd_s]
      by_cases zl : tL (w s) = true
      · rw [bi_t zl, if_neg (by decide), lt_e]
        obtain ⟨r, r1, r2, r3, r4⟩ := m_word (rs_so c1 0) hsl zl c32 c33 c34 (up2_s)
        exact ⟨r, r1, r2, r3, kp_tr (b := so_ c 1646 y 0) ck r4⟩
      · rw [bi_f zl, if_pos rfl, hd, bd_s]
        by_cases zd : tD (w s) = true
        · rw [bi_t zd, if_neg (by decide), lt_e]
          obtain ⟨r, r1, r2, r3, r4⟩ := m_number (rs_si c1 (j := 36) (by decide) rfl 0) hsl zd (by rw [fi_si, up2_c (by decide)]; exact c32) (by rw [fi_si, up2_c (by decide)]; exact c33) (by rw [fi_si, up2_c (by decide)]; exact c34) (by rw [fi_si, up2_s])
          exact ⟨r, r1, r2, r3, kp_tr (kp_si ck (by decide)) r4⟩
        · rw [bi_f zd, if_pos rfl, hm, bd_s]
          by_cases zm : tM (w s) = true
          · rw [bi_t zm, if_neg (by decide), lt_e, lt_e, lt_e, fi_si, up2_c (by decide), fi_si, up2_c (by decide), c32, lt_e, nI_1]
            have ek : tkp_ w s = (3, w s, s, s + 1) := by unfold tkp_; rw [if_neg z9, if_neg zl, if_neg zd, if_pos zm]
            have ecb : cb9_ (w s) = nI (w s) := if_neg z9
            rw [ek, ecb]
            refine ⟨_, rfl, rs_si (rs_si (rs_si c1 (j := 33) (by decide) rfl 4) (j := 35) (by decide) rfl _) (j := 32) (by decide) rfl _, ⟨?_, ?_, Or.inr (Or.inr (Or.inr (Or.inl ⟨rfl, ?_, ?_⟩)))⟩, kp_si (kp_si (kp_si ck (by decide)) (by decide)) (by decide)⟩
            · rw [fi_si, up2_c (by decide), fi_si, up2_c (by decide), fi_si, up2_c (by decide)]; exact c34
            · rw [fi_si, up2_s]
            · rw [fi_si, up2_c (by decide), fi_si, up2_c (by decide), fi_si, up2_s]
            · rw [fi_si, up2_c (by decide), fi_si, up2_s]
          · rw [bi_f zm, if_pos rfl]
            have ek : tkp_ w s = (0, 0, s, s) := by unfold tkp_; rw [if_neg z9, if_neg zl, if_neg zd, if_neg zm]
            rw [ek]
            exact ⟨_, rfl, c1, ⟨c34, c32, Or.inl ⟨rfl, c33⟩⟩, ck⟩
/-- tokens lie within -/
theorem tz_le {w : Nat → Nat} {n a : Nat} (hw : ∀ k, n ≤ k → w k = 999) (ha : a ≤ n) : a ≤ pl9_ w a ∧ pl9_ w a ≤ nx9_ w a ∧ nx9_ w a ≤ n ∧ ((tz_ w a).1 ≠ 0 → (tz_ w a).1 ≠ 1 → a < nx9_ w a) := by
  obtain ⟨s, hs⟩ : ∃ s, s = en9_ tS w 500 a := ⟨_, rfl⟩
  have h1 := en9_ge tS w 500 a
  have h2 := en9_le (q := tS) rfl hw (f := 500) ha
  rw [← hs] at h1 h2
  unfold pl9_ nx9_ tz_
  rw [← hs]
  unfold tkp_
  by_cases z9 : w s = 999
  · rw [if_pos z9]; exact ⟨h1, Nat.le_refl _, h2, fun _ z => absurd rfl z⟩
  · have hsl : s < n := by
      rcases Nat.lt_or_ge s n with z | z
      · exact z
      · exact absurd (hw s z) z9
    rw [if_neg z9]
    by_cases zl : tL (w s) = true
    · rw [if_pos zl]
      have g1 := en9_ge tL w 500 s
      have g2 := en9_le (q := tL) rfl hw (f := 500) h2
      have g3 : s < en9_ tL w 500 s := by
        rcases Nat.eq_or_lt_of_le g1 with z | z
        · have : en9_ tL w 500 s = en9_ tL w 499 (s + 1) := en9_nx (f := 499) zl
          have g4 := en9_ge tL w 499 (s + 1)
          omega
        · exact z
      refine ⟨h1, ?_, ?_, fun _ _ => ?_⟩
      · dsimp only
        split
        · exact Nat.le_succ_of_le g1
        · exact g1
      · dsimp only
        split
        · rename_i zd
          rcases Nat.lt_or_ge (en9_ tL w 500 s) n with z | z
          · exact z
          · rw [hw _ z] at zd; cases zd
        · exact g2
      · dsimp only
        split
        · exact Nat.lt_succ_of_le (Nat.le_trans h1 g1)
        · exact Nat.lt_of_le_of_lt h1 g3
    · rw [if_neg zl]
      by_cases zd : tD (w s) = true
      · rw [if_pos zd]
        have g1 := en9_ge tD w 500 s
        have g2 := en9_le (q := tD) rfl hw (f := 500) h2
        have g3 : s < en9_ tD w 500 s := by
          rcases Nat.eq_or_lt_of_le g1 with z | z
          · have : en9_ tD w 500 s = en9_ tD w 499 (s + 1) := en9_nx (f := 499) zd
            have g4 := en9_ge tD w 499 (s + 1)
            omega
          · exact z
        exact ⟨h1, g1, g2, fun _ _ => Nat.lt_of_le_of_lt h1 g3⟩
      · rw [if_neg zd]
        by_cases zm : tM (w s) = true
        · rw [if_pos zm]; exact ⟨h1, Nat.le_succ _, hsl, fun _ _ => Nat.lt_succ_of_le h1⟩
        · rw [if_neg zm]; exact ⟨h1, Nat.le_refl _, h2, fun z => absurd rfl z⟩
end NX3
