/-! THE REFERENCE'S HEAP: its shape, its small methods. Written by wip/b/mk41.py. -/
def KM (r : Nat) : Nat := ([17, 0, 0, 0, 0, 0, 0, 20, 20, 20, 20, 20, 20, 20, 22, 22, 22, 0, 20, 20, 20, 20, 20, 20, 22, 16, 21, 21, 21, 0, 0, 0, 0, 0, 0, 0, 0, 0, 0, 0, 0, 0, 0, 0, 0, 0, 0, 0, 27, 20, 20, 20, 22, 0, 0, 0, 0, 0, 0, 0, 27, 20, 20, 20, 20, 20, 20, 20, 22, 0, 0, 0, 20, 20, 20, 20, 20, 20, 20, 20, 20, 22, 28, 20, 20, 0, 0, 0, 0, 0, 0, 0, 0, 0, 0, 0, 0, 0, 0, 0, 15, 21, 15, 21, 14, 20, 20] : List Nat).getD r 0
def LM (r : Nat) : Nat := ([0, 0, 0, 0, 0, 0, 0, 6, 30, 30, 30, 30, 30, 30, 6, 30, 30, 0, 10, 300, 240, 240, 240, 240, 240, 0, 400, 1200, 1200, 0, 0, 0, 0, 0, 0, 0, 0, 0, 0, 0, 0, 0, 0, 0, 0, 0, 0, 0, 150, 14, 14, 14, 14, 0, 0, 0, 0, 0, 0, 0, 12, 120, 120, 120, 120, 120, 360, 360, 120, 0, 0, 0, 40, 40, 40, 40, 40, 40, 60, 60, 60, 60, 80, 30, 12, 0, 0, 0, 0, 0, 0, 0, 0, 0, 0, 0, 0, 0, 0, 0, 0, 0, 0, 0, 0, 10, 10] : List Nat).getD r 0
def MA : List Nat := [7, 8, 9, 10, 11, 12, 13, 14, 15, 16, 18, 19, 20, 21, 22, 23, 24, 25, 26, 27, 28, 48, 49, 50, 51, 52, 60, 61, 62, 63, 64, 65, 66, 67, 68, 72, 73, 74, 75, 76, 77, 78, 79, 80, 81, 82, 83, 84]
def MN : List Nat := [4, 5, 6, 17, 30, 42, 47, 58, 59, 69, 70, 71, 86]
def MX (r : Nat) : Nat := ([0, 0, 0, 0, 6, 30, 5257439, 0, 0, 0, 0, 0, 0, 0, 0, 0, 0, 240, 0, 0, 0, 0, 0, 0, 0, 0, 0, 0, 0, 0, 400, 0, 0, 0, 0, 0, 0, 0, 0, 0, 0, 0, 1200, 0, 0, 0, 0, 150, 0, 0, 0, 0, 0, 0, 0, 0, 0, 0, 12, 120, 0, 0, 0, 0, 0, 0, 0, 0, 0, 40, 60, 80, 0, 0, 0, 0, 0, 0, 0, 0, 0, 0, 0, 0, 0, 0, 12] : List Nat).getD r 0
/-- the reference's heap: y its address, G where its arrays and objects lie, N its counters -/
def mp_ (σ : TH) (G : GH) (N : Nat → Nat) : Prop := (gc_ G 100 = N 47 ∧ gc_ G 101 = N 47 ∧ gc_ G 102 = N 58 ∧ gc_ G 103 = N 58 ∧ gc_ G 104 = N 71 ∧ gc_ G 105 = N 71 ∧ gc_ G 106 = N 71) ∧ (∀ k, k < N 47 → ar_ σ (ga_ G 48 0) k = some (ga_ G 100 k) ∧ fr_ σ 1406 (ga_ G 100 k) = some (ga_ G 101 k)) ∧ (∀ k, k < N 58 → ar_ σ (ga_ G 60 0) k = some (ga_ G 102 k) ∧ fr_ σ 1406 (ga_ G 102 k) = some (ga_ G 103 k)) ∧ ∀ k, k < N 71 → ar_ σ (ga_ G 82 0) k = some (ga_ G 104 k) ∧ fr_ σ 1309 (ga_ G 104 k) = some (ga_ G 105 k) ∧ fr_ σ 1310 (ga_ G 104 k) = some (ga_ G 106 k)
def mo_ (σ : TH) (y : Nat) (G : GH) (N : Nat → Nat) : Prop := sh_ KM LM σ G ∧ (gc_ G 0 = 1 ∧ ga_ G 0 0 = y ∧ mp_ σ G N) ∧ (∀ j, j ∈ MA → gc_ G j = 1 ∧ fr_ σ (1600 + j) y = some (ga_ G j 0)) ∧ ∀ j, j ∈ MN → fi_ σ (1600 + j) y = nI (N j) ∧ N j ≤ MX j
theorem mo_y {σ : TH} {y : Nat} {G : GH} {N : Nat → Nat} (h : mo_ σ y G N) : kd_ σ y = 17 := by
  have := (h.1.2 0 0 (by rw [h.2.1.1]; decide)).1
  rw [h.2.1.2.1] at this
  exact this
theorem mo_a {σ : TH} {y : Nat} {G : GH} {N : Nat → Nat} (h : mo_ σ y G N) {j cj K n : Nat} (hj : j ∈ MA ∧ 1600 + j = cj ∧ KM j = K ∧ LM j = n ∧ n ≠ 0) : fr_ σ cj y = some (ga_ G j 0) ∧ kd_ σ (ga_ G j 0) = K ∧ ln_ σ (ga_ G j 0) = n := by
  obtain ⟨h1, rfl, rfl, rfl, h5⟩ := hj
  obtain ⟨g1, g2⟩ := h.2.2.1 j h1
  obtain ⟨k1, -, k3, -⟩ := h.1.2 j 0 (by rw [g1]; decide)
  exact ⟨g2, k1, k3 h5⟩
theorem mo_n {σ : TH} {y : Nat} {G : GH} {N : Nat → Nat} (h : mo_ σ y G N) {j cj m : Nat} (hj : j ∈ MN ∧ 1600 + j = cj ∧ MX j = m) : fi_ σ cj y = nI (N j) ∧ N j ≤ m := by
  obtain ⟨h1, rfl, rfl⟩ := hj
  exact h.2.2.2 j h1
theorem mo_ne {σ : TH} {y : Nat} {G : GH} {N : Nat → Nat} (h : mo_ σ y G N) {i j : Nat} (hi : i ∈ MA) (hj : j ∈ MA) (hn : i ≠ j) : ga_ G i 0 ≠ ga_ G j 0 := sh_ne h.1 (by rw [(h.2.2.1 i hi).1]; decide) (by rw [(h.2.2.1 j hj).1]; decide) (Or.inl hn)
/-- small ones -/
theorem m_in (σ : TH) (a b c : Int32) : f_X15_in σ a b c = some (bi_ (b ≤ a ∧ a ≤ c), σ) := by
  unfold f_X15_in f_X15_in_b14 f_X15_in_b15
  by_cases h1 : a < b
  · rw [if_pos h1, gt_t (Or.inl rfl), bi_f]
    intro h
    exact absurd h1 (Int32.not_lt.mpr h.1)
  · rw [if_neg h1]
    by_cases h2 : c < a
    · rw [if_pos h2, gt_t (Or.inl rfl), bi_f]
      intro h
      exact absurd h2 (Int32.not_lt.mpr h.2)
    · rw [if_neg h2, gt_t (Or.inr rfl), bi_t ⟨Int32.not_lt.mp h1, Int32.not_lt.mp h2⟩]
/-- trouble told, where forgotten -/
def tr_ (σ : TH) (y : Nat) (v : Int32) : TH := si_ (si_ σ 1601 y v) 1602 y (-1)
theorem m_refused {σ : TH} {y : Nat} (hy : kd_ σ y = 17) (v : Int32) : f_X15_refused σ y v = some (-1, tr_ σ y v) := by
  unfold f_X15_refused
  rw [gt_t hy]
  rfl
theorem m_denied {σ : TH} {y : Nat} (hy : kd_ σ y = 17) (v : Int32) : f_X15_denied σ y v = some (0, tr_ σ y v) := by
  unfold f_X15_denied
  rw [gt_t hy]
  rfl
theorem m_done {σ : TH} {y : Nat} (hy : kd_ σ y = 17) (v : Int32) : f_X15_done σ y v = some (v, tr_ σ y 0) := by
  unfold f_X15_done
  rw [gt_t hy]
  rfl
theorem m_granted {σ : TH} {y : Nat} (hy : kd_ σ y = 17) : f_X15_granted σ y = some (1, tr_ σ y 0) := by
  unfold f_X15_granted
  rw [gt_t hy]
  rfl
theorem m_today {σ : TH} {y : Nat} {G : GH} {N : Nat → Nat} (h : mo_ σ y G N) : f_X15_today σ y = some (nI (N 6 / 1440), σ) := by
  have hy := mo_y h
  obtain ⟨e, hb⟩ := mo_n h (j := 6) (cj := 1606) (m := 5257439) (by decide)
  unfold f_X15_today
  rw [gt_t hy, lt_e, e, gt_t (by decide), show (1440 : Int32) = nI 1440 from rfl, pk_div (Nat.lt_of_le_of_lt hb (by decide)) (by decide) (by decide)]
theorem m_isPerson1 {σ : TH} {y : Nat} {G : GH} {N : Nat → Nat} (h : mo_ σ y G N) {k : Nat} (hk : k < N 5) : f_X15_isPerson σ y (nI k) = some (1, σ) := by
  have hy := mo_y h
  obtain ⟨e, hb⟩ := mo_n h (j := 5) (cj := 1605) (m := 30) (by decide)
  have g1 : ¬ nI k < 0 := nI_pos (by omega)
  have g2 : ¬ nI (N 5) ≤ nI k := nI_ge hk (by omega)
  simp [f_X15_isPerson, f_X15_isPerson_b16, f_X15_isPerson_b17, gt_, lt_, hy, e, g1, g2]
theorem m_isPerson0 {σ : TH} {y : Nat} {G : GH} {N : Nat → Nat} (h : mo_ σ y G N) {p : Int32} (hp : p < 0 ∨ nI (N 5) ≤ p) : f_X15_isPerson σ y p = some (0, σ) := by
  have hy := mo_y h
  obtain ⟨e, hb⟩ := mo_n h (j := 5) (cj := 1605) (m := 30) (by decide)
  by_cases g1 : p < 0
  · simp [f_X15_isPerson, f_X15_isPerson_b16, f_X15_isPerson_b17, gt_, lt_, hy, e, g1]
  · have g2 := hp.resolve_left g1
    simp [f_X15_isPerson, f_X15_isPerson_b16, f_X15_isPerson_b17, gt_, lt_, hy, e, g1, g2]
theorem m_isLiving1 {σ : TH} {y : Nat} {G : GH} {N : Nat → Nat} (h : mo_ σ y G N) {k : Nat} (hk : k < N 4) : f_X15_isLiving σ y (nI k) = some (bi_ (ai_ σ (ga_ G 14 0) k = 0), σ) := by
  have hy := mo_y h
  obtain ⟨e, hb⟩ := mo_n h (j := 4) (cj := 1604) (m := 6) (by decide)
  obtain ⟨e1, e2, e3⟩ := mo_a h (j := 14) (cj := 1614) (K := 22) (n := 6) (by decide)
  have g1 : ¬ nI k < 0 := nI_pos (by omega)
  have g2 : ¬ nI (N 4) ≤ nI k := nI_ge hk (by omega)
  have g3 : (nI k).toNatClampNeg = k := nI_clamp (by omega)
  have g4 : ¬ 6 ≤ k := by omega
  by_cases g5 : ai_ σ (ga_ G 14 0) k = 0
  · simp [f_X15_isLiving, f_X15_isLiving_b26, f_X15_isLiving_b25, gt_, lt_, nn_, hy, e, e1, e2, e3, g1, g2, g3, g4, g5, bi_]
  · simp [f_X15_isLiving, f_X15_isLiving_b26, f_X15_isLiving_b25, gt_, lt_, nn_, hy, e, e1, e2, e3, g1, g2, g3, g4, g5, bi_]
theorem m_isLiving0 {σ : TH} {y : Nat} {G : GH} {N : Nat → Nat} (h : mo_ σ y G N) {p : Int32} (hp : p < 0 ∨ nI (N 4) ≤ p) : f_X15_isLiving σ y p = some (0, σ) := by
  have hy := mo_y h
  obtain ⟨e, hb⟩ := mo_n h (j := 4) (cj := 1604) (m := 6) (by decide)
  by_cases g1 : p < 0
  · simp [f_X15_isLiving, f_X15_isLiving_b26, f_X15_isLiving_b25, gt_, lt_, hy, e, g1]
  · have g2 := hp.resolve_left g1
    simp [f_X15_isLiving, f_X15_isLiving_b26, f_X15_isLiving_b25, gt_, lt_, hy, e, g1, g2]
/-- how many of the first n have it -/
def cn_ (q : Nat → Bool) : Nat → Nat
  | 0 => 0
  | n + 1 => cn_ q n + (if q n = true then 1 else 0)
theorem cn_le (q : Nat → Bool) : ∀ n, cn_ q n ≤ n
  | 0 => Nat.le_refl _
  | n + 1 => by
    have := cn_le q n
    unfold cn_
    split <;> omega
theorem m_storiesOf {σ : TH} {y : Nat} {G : GH} {N : Nat → Nat} (h : mo_ σ y G N) (w : Int32) : f_X15_storiesOf σ y w = some (nI (cn_ (fun p => decide (ai_ σ (ga_ G 11 0) p = w)) (N 5)), σ) := by
  have hy := mo_y h
  obtain ⟨e, hb⟩ := mo_n h (j := 5) (cj := 1605) (m := 30) (by decide)
  obtain ⟨e1, e2, e3⟩ := mo_a h (j := 11) (cj := 1611) (K := 20) (n := 30) (by decide)
  have key : ∀ (n i : Nat), i ≤ N 5 → N 5 + 1 ≤ i + n → f_X15_storiesOf_b4 n σ y w (nI (cn_ (fun p => decide (ai_ σ (ga_ G 11 0) p = w)) i)) (nI i) = some (nI (cn_ (fun p => decide (ai_ σ (ga_ G 11 0) p = w)) (N 5)), σ) := by
    intro n
    induction n with
    | zero => intro i h1 h2; omega
    | succ n ih =>
      intro i h1 h2
      rcases Nat.lt_or_ge i (N 5) with hi | hi
      · have g1 : ¬ nI i < 0 := nI_pos (by omega)
        have g2 : ¬ nI (N 5) ≤ nI i := nI_ge hi (by omega)
        have g3 : (nI i).toNatClampNeg = i := nI_clamp (by omega)
        have g4 : ¬ 30 ≤ i := by omega
        have ih1 := ih (i + 1) hi (by omega)
        by_cases g5 : ai_ σ (ga_ G 11 0) i = w
        · have e9 : cn_ (fun p => decide (ai_ σ (ga_ G 11 0) p = w)) (i + 1) = cn_ (fun p => decide (ai_ σ (ga_ G 11 0) p = w)) i + 1 := by simp [cn_, g5]
          rw [e9, ← nI_1, ← nI_1] at ih1
          simp [f_X15_storiesOf_b4, f_X15_storiesOf_b28, gt_, lt_, nn_, hy, e, e1, e2, e3, g1, g2, g3, g4, g5, ih1]
        · have e9 : cn_ (fun p => decide (ai_ σ (ga_ G 11 0) p = w)) (i + 1) = cn_ (fun p => decide (ai_ σ (ga_ G 11 0) p = w)) i := by simp [cn_, g5]
          rw [e9, ← nI_1] at ih1
          simp [f_X15_storiesOf_b4, f_X15_storiesOf_b28, gt_, lt_, nn_, hy, e, e1, e2, e3, g1, g2, g3, g4, g5, ih1]
      · have hi2 : i = N 5 := by omega
        subst hi2
        have g2 : nI (N 5) ≤ nI (N 5) := nI_le (Nat.le_refl _) (by omega)
        simp [f_X15_storiesOf_b4, gt_, lt_, hy, e, g2]
  exact key fu_ 0 (Nat.zero_le _) (by unfold fu_; omega)
theorem mo_si {σ : TH} {y c : Nat} {v : Int32} {G : GH} {N : Nat → Nat} (h : mo_ σ y G N) (hc : ∀ j, j ∈ MN → c ≠ 1600 + j) : mo_ (si_ σ c y v) y G N :=
  ⟨h.1, h.2.1, h.2.2.1, fun j hj => by
    rw [fi_si, up2_c (fun e => hc j hj e.symm)]
    exact h.2.2.2 j hj⟩
theorem mo_sa {σ : TH} {y a i : Nat} {v : Int32} {G : GH} {N : Nat → Nat} (h : mo_ σ y G N) : mo_ (sa_ σ a i v) y G N := h
/-- a counter moves -/
theorem mo_sn {σ : TH} {y : Nat} {G : GH} {N : Nat → Nat} (h : mo_ σ y G N) (j c n : Nat) (hj : j ∈ MN ∧ 1600 + j = c ∧ j ≠ 47 ∧ j ≠ 58 ∧ j ≠ 71) (hn : n ≤ MX j) : mo_ (si_ σ c y (nI n)) y G (fun q => if q = j then n else N q) := by
  obtain ⟨h1, rfl, h47, h58, h71⟩ := hj
  refine ⟨h.1, ⟨h.2.1.1, h.2.1.2.1, ?_⟩, h.2.2.1, fun q hq => ?_⟩
  · have e47 : (if 47 = j then n else N 47) = N 47 := if_neg (fun z => h47 z.symm)
    have e58 : (if 58 = j then n else N 58) = N 58 := if_neg (fun z => h58 z.symm)
    have e71 : (if 71 = j then n else N 71) = N 71 := if_neg (fun z => h71 z.symm)
    have k := h.2.1.2.2
    unfold mp_ at k ⊢
    dsimp only
    rw [e47, e58, e71]
    exact k
  by_cases e : q = j
  · subst e
    dsimp only
    rw [if_pos rfl, fi_si, up2_s]
    exact ⟨rfl, hn⟩
  · dsimp only
    rw [if_neg e, fi_si, up2_c (by omega)]
    exact h.2.2.2 q hq
theorem mo_tr {σ : TH} {y : Nat} {v : Int32} {G : GH} {N : Nat → Nat} (h : mo_ σ y G N) : mo_ (tr_ σ y v) y G N := mo_si (mo_si h (by decide)) (by decide)
theorem m_writer {σ : TH} {y : Nat} {G : GH} {N : Nat → Nat} (h : mo_ σ y G N) (a : Int32) : f_X15_writer σ y a = (if ¬ (0 ≤ a ∧ a ≤ 60) then some (-1, tr_ (si_ σ 1600 y 0) y 2) else if N 4 = 6 then some (-1, tr_ (si_ σ 1600 y 0) y 3) else some (nI (N 4), tr_ (si_ (sa_ (si_ σ 1600 y 0) (ga_ G 7 0) (N 4) a) 1604 y (nI (N 4 + 1))) y 0)) := by
  have hy := mo_y h
  obtain ⟨e, hb⟩ := mo_n h (j := 4) (cj := 1604) (m := 6) (by decide)
  obtain ⟨e1, e2, e3⟩ := mo_a h (j := 7) (cj := 1607) (K := 20) (n := 6) (by decide)
  have g1 : ¬ nI (N 4) < 0 := nI_pos (by omega)
  have g3 : (nI (N 4)).toNatClampNeg = N 4 := nI_clamp (by omega)
  by_cases q : 0 ≤ a ∧ a ≤ 60
  · by_cases q2 : N 4 = 6
    · simp [f_X15_writer, gt_, lt_, nn_, oc_, bd_, kd_si, ln_si, fi_si, fr_si, fl_si, ai_si, ar_si, al_si, ow_si, nx_si, sl_si, kd_sr, ln_sr, fi_sr, fr_sr, fl_sr, ai_sr, ar_sr, al_sr, ow_sr, nx_sr, sl_sr, kd_so, ln_so, fi_so, fr_so, fl_so, ai_so, ar_so, al_so, ow_so, nx_so, sl_so, kd_sa, ln_sa, fi_sa, fr_sa, fl_sa, ai_sa, ar_sa, al_sa, ow_sa, nx_sa, sl_sa, kd_sq, ln_sq, fi_sq, fr_sq, fl_sq, ai_sq, ar_sq, al_sq, ow_sq, nx_sq, sl_sq, kd_sj, ln_sj, fi_sj, fr_sj, fl_sj, ai_sj, ar_sj, al_sj, ow_sj, nx_sj, sl_sj, up2_e, m_in, bi_, q, q2, hy, e, m_refused, show nI 6 = 6 from rfl]
    · have q3 : ¬ nI (N 4) = 6 := fun z => q2 ((nI_eq (by omega) (by decide)).mp z)
      have q4 : ¬ 6 ≤ N 4 := by omega
      simp [f_X15_writer, gt_, lt_, nn_, oc_, bd_, kd_si, ln_si, fi_si, fr_si, fl_si, ai_si, ar_si, al_si, ow_si, nx_si, sl_si, kd_sr, ln_sr, fi_sr, fr_sr, fl_sr, ai_sr, ar_sr, al_sr, ow_sr, nx_sr, sl_sr, kd_so, ln_so, fi_so, fr_so, fl_so, ai_so, ar_so, al_so, ow_so, nx_so, sl_so, kd_sa, ln_sa, fi_sa, fr_sa, fl_sa, ai_sa, ar_sa, al_sa, ow_sa, nx_sa, sl_sa, kd_sq, ln_sq, fi_sq, fr_sq, fl_sq, ai_sq, ar_sq, al_sq, ow_sq, nx_sq, sl_sq, kd_sj, ln_sj, fi_sj, fr_sj, fl_sj, ai_sj, ar_sj, al_sj, ow_sj, nx_sj, sl_sj, up2_e, m_in, bi_, q, q2, q3, q4, hy, e, e1, e2, e3, g1, g3, m_done, nI_1, nI_pred]
  · simp [f_X15_writer, gt_, lt_, nn_, oc_, bd_, kd_si, ln_si, fi_si, fr_si, fl_si, ai_si, ar_si, al_si, ow_si, nx_si, sl_si, kd_sr, ln_sr, fi_sr, fr_sr, fl_sr, ai_sr, ar_sr, al_sr, ow_sr, nx_sr, sl_sr, kd_so, ln_so, fi_so, fr_so, fl_so, ai_so, ar_so, al_so, ow_so, nx_so, sl_so, kd_sa, ln_sa, fi_sa, fr_sa, fl_sa, ai_sa, ar_sa, al_sa, ow_sa, nx_sa, sl_sa, kd_sq, ln_sq, fi_sq, fr_sq, fl_sq, ai_sq, ar_sq, al_sq, ow_sq, nx_sq, sl_sq, kd_sj, ln_sj, fi_sj, fr_sj, fl_sj, ai_sj, ar_sj, al_sj, ow_sj, nx_sj, sl_sj, up2_e, m_in, bi_, q, hy, m_refused]
theorem m_hours {σ : TH} {y : Nat} {G : GH} {N : Nat → Nat} (h : mo_ σ y G N) {k : Nat} (hk : k < N 4) (a : Int32) : f_X15_hours σ y (nI k) a = (if ai_ σ (ga_ G 14 0) k ≠ 0 then some (0, tr_ (si_ σ 1600 y 0) y 1) else if ¬ (0 ≤ a ∧ a ≤ 60) then some (0, tr_ (si_ σ 1600 y 0) y 2) else some (1, tr_ (sa_ (si_ σ 1600 y 0) (ga_ G 7 0) k a) y 0)) := by
  have hy := mo_y h
  have h1 : mo_ (si_ σ 1600 y 0) y G N := mo_si h (by decide)
  obtain ⟨e, hb⟩ := mo_n h (j := 4) (cj := 1604) (m := 6) (by decide)
  obtain ⟨e1, e2, e3⟩ := mo_a h (j := 7) (cj := 1607) (K := 20) (n := 6) (by decide)
  have g1 : ¬ nI k < 0 := nI_pos (by omega)
  have g3 : (nI k).toNatClampNeg = k := nI_clamp (by omega)
  have g4 : ¬ 6 ≤ k := by omega
  have l1 := m_isLiving1 h1 hk
  by_cases q0 : ai_ σ (ga_ G 14 0) k = 0
  · by_cases q : 0 ≤ a ∧ a ≤ 60
    · simp [f_X15_hours, gt_, lt_, nn_, oc_, bd_, kd_si, ln_si, fi_si, fr_si, fl_si, ai_si, ar_si, al_si, ow_si, nx_si, sl_si, kd_sr, ln_sr, fi_sr, fr_sr, fl_sr, ai_sr, ar_sr, al_sr, ow_sr, nx_sr, sl_sr, kd_so, ln_so, fi_so, fr_so, fl_so, ai_so, ar_so, al_so, ow_so, nx_so, sl_so, kd_sa, ln_sa, fi_sa, fr_sa, fl_sa, ai_sa, ar_sa, al_sa, ow_sa, nx_sa, sl_sa, kd_sq, ln_sq, fi_sq, fr_sq, fl_sq, ai_sq, ar_sq, al_sq, ow_sq, nx_sq, sl_sq, kd_sj, ln_sj, fi_sj, fr_sj, fl_sj, ai_sj, ar_sj, al_sj, ow_sj, nx_sj, sl_sj, up2_e, m_in, bi_, l1, q0, q, hy, e1, e2, e3, g1, g3, g4, m_granted]
    · simp [f_X15_hours, gt_, lt_, nn_, oc_, bd_, kd_si, ln_si, fi_si, fr_si, fl_si, ai_si, ar_si, al_si, ow_si, nx_si, sl_si, kd_sr, ln_sr, fi_sr, fr_sr, fl_sr, ai_sr, ar_sr, al_sr, ow_sr, nx_sr, sl_sr, kd_so, ln_so, fi_so, fr_so, fl_so, ai_so, ar_so, al_so, ow_so, nx_so, sl_so, kd_sa, ln_sa, fi_sa, fr_sa, fl_sa, ai_sa, ar_sa, al_sa, ow_sa, nx_sa, sl_sa, kd_sq, ln_sq, fi_sq, fr_sq, fl_sq, ai_sq, ar_sq, al_sq, ow_sq, nx_sq, sl_sq, kd_sj, ln_sj, fi_sj, fr_sj, fl_sj, ai_sj, ar_sj, al_sj, ow_sj, nx_sj, sl_sj, up2_e, m_in, bi_, l1, q0, q, hy, m_denied]
  · simp [f_X15_hours, gt_, lt_, nn_, oc_, bd_, kd_si, ln_si, fi_si, fr_si, fl_si, ai_si, ar_si, al_si, ow_si, nx_si, sl_si, kd_sr, ln_sr, fi_sr, fr_sr, fl_sr, ai_sr, ar_sr, al_sr, ow_sr, nx_sr, sl_sr, kd_so, ln_so, fi_so, fr_so, fl_so, ai_so, ar_so, al_so, ow_so, nx_so, sl_so, kd_sa, ln_sa, fi_sa, fr_sa, fl_sa, ai_sa, ar_sa, al_sa, ow_sa, nx_sa, sl_sa, kd_sq, ln_sq, fi_sq, fr_sq, fl_sq, ai_sq, ar_sq, al_sq, ow_sq, nx_sq, sl_sq, kd_sj, ln_sj, fi_sj, fr_sj, fl_sj, ai_sj, ar_sj, al_sj, ow_sj, nx_sj, sl_sj, up2_e, m_in, bi_, l1, q0, hy, m_denied]

