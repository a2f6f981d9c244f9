/-! CALLS: count. Written by wip/b/mk52.py. -/
section C52
variable {ka : Nat → Nat} {TX : Nat → Nat → (Nat → Int32) → Nat → (Nat → Int32) → Prop} {PV : AS → (Nat → Nat) → Prop} {x y o N0 : Nat}
theorem cn_cong {q1 q2 : Nat → Bool} : ∀ n, (∀ i, i < n → q1 i = q2 i) → cn_ q1 n = cn_ q2 n
  | 0, _ => rfl
  | n + 1, h => by
    unfold cn_
    rw [cn_cong n (fun i hi => h i (Nat.lt_succ_of_lt hi)), h n (Nat.lt_succ_self n)]
theorem m_deads {σ : TH} {y : Nat} {G : GH} {N : Nat → Nat} (h : mo_ σ y G N) : f_X15_deads σ y = some (nI (cn_ (fun p => !decide (ai_ σ (ga_ G 15 0) p = 0)) (N 5)), σ) := by
  have hy := mo_y h
  obtain ⟨e, hb⟩ := mo_n h (j := 5) (cj := 1605) (m := 30) (by decide)
  obtain ⟨e1, e2, e3⟩ := mo_a h (j := 15) (cj := 1615) (K := 22) (n := 30) (by decide)
  have key : ∀ (n i : Nat), i ≤ N 5 → N 5 + 1 ≤ i + n → f_X15_deads_b4 n σ y (nI (cn_ (fun p => !decide (ai_ σ (ga_ G 15 0) p = 0)) i)) (nI i) = some (nI (cn_ (fun p => !decide (ai_ σ (ga_ G 15 0) p = 0)) (N 5)), σ) := by
    intro n
    induction n with
    | zero => intro i h1 h2; omega
    | succ n ih =>
      intro i h1 h2
      rcases Nat.lt_or_ge i (N 5) with hi | hi
      · have g1 : ¬ nI i < 0 := nI_pos (by omega)
        have g2 : ¬ nI (N 5) ≤ nI i := nI_ge hi (by omega)
        have g3 : (nI i).toNatClampNeg = i := nI_clamp (by omega)
        have g4 : ¬ 30 ≤ i := by omega
        have ih1 := ih (i + 1) hi (by omega)
        by_cases g5 : ai_ σ (ga_ G 15 0) i = 0
        · have e9 : cn_ (fun p => !decide (ai_ σ (ga_ G 15 0) p = 0)) (i + 1) = cn_ (fun p => !decide (ai_ σ (ga_ G 15 0) p = 0)) i := by simp [cn_, g5]
          rw [e9, ← nI_1] at ih1
          simp [f_X15_deads_b4, f_X15_deads_b27, gt_, lt_, nn_, oc_, bd_, hy, e, e1, e2, e3, g1, g2, g3, g4, g5, ih1]
        · have e9 : cn_ (fun p => !decide (ai_ σ (ga_ G 15 0) p = 0)) (i + 1) = cn_ (fun p => !decide (ai_ σ (ga_ G 15 0) p = 0)) i + 1 := by simp [cn_, g5]
          rw [e9, ← nI_1, ← nI_1] at ih1
          simp [f_X15_deads_b4, f_X15_deads_b27, gt_, lt_, nn_, oc_, bd_, hy, e, e1, e2, e3, g1, g2, g3, g4, g5, ih1]
      · have hi2 : i = N 5 := by omega
        subst hi2
        have g2 : nI (N 5) ≤ nI (N 5) := nI_le (Nat.le_refl _) (by omega)
        simp [f_X15_deads_b4, gt_, lt_, nn_, oc_, bd_, hy, e, g2]
  exact key fu_ 0 (Nat.zero_le _) (by unfold fu_; omega)
theorem m_living {σ : TH} {y : Nat} {G : GH} {N : Nat → Nat} (h : mo_ σ y G N) : f_X15_living σ y = some (nI (cn_ (fun p => decide (ai_ σ (ga_ G 14 0) p = 0)) (N 4)), σ) := by
  have hy := mo_y h
  obtain ⟨e, hb⟩ := mo_n h (j := 4) (cj := 1604) (m := 6) (by decide)
  obtain ⟨e1, e2, e3⟩ := mo_a h (j := 14) (cj := 1614) (K := 22) (n := 6) (by decide)
  have key : ∀ (n i : Nat), i ≤ N 4 → N 4 + 1 ≤ i + n → f_X15_living_b4 n σ y (nI (cn_ (fun p => decide (ai_ σ (ga_ G 14 0) p = 0)) i)) (nI i) = some (nI (cn_ (fun p => decide (ai_ σ (ga_ G 14 0) p = 0)) (N 4)), σ) := by
    intro n
    induction n with
    | zero => intro i h1 h2; omega
    | succ n ih =>
      intro i h1 h2
      rcases Nat.lt_or_ge i (N 4) with hi | hi
      · have g1 : ¬ nI i < 0 := nI_pos (by omega)
        have g2 : ¬ nI (N 4) ≤ nI i := nI_ge hi (by omega)
        have g3 : (nI i).toNatClampNeg = i := nI_clamp (by omega)
        have g4 : ¬ 6 ≤ i := by omega
        have ih1 := ih (i + 1) hi (by omega)
        by_cases g5 : ai_ σ (ga_ G 14 0) i = 0
        · have e9 : cn_ (fun p => decide (ai_ σ (ga_ G 14 0) p = 0)) (i + 1) = cn_ (fun p => decide (ai_ σ (ga_ G 14 0) p = 0)) i + 1 := by simp [cn_, g5]
          rw [e9, ← nI_1, ← nI_1] at ih1
          simp [f_X15_living_b4, f_X15_living_b27, gt_, lt_, nn_, oc_, bd_, hy, e, e1, e2, e3, g1, g2, g3, g4, g5, ih1]
        · have e9 : cn_ (fun p => decide (ai_ σ (ga_ G 14 0) p = 0)) (i + 1) = cn_ (fun p => decide (ai_ σ (ga_ G 14 0) p = 0)) i := by simp [cn_, g5]
          rw [e9, ← nI_1] at ih1
          simp [f_X15_living_b4, f_X15_living_b27, gt_, lt_, nn_, oc_, bd_, hy, e, e1, e2, e3, g1, g2, g3, g4, g5, ih1]
      · have hi2 : i = N 4 := by omega
        subst hi2
        have g2 : nI (N 4) ≤ nI (N 4) := nI_le (Nat.le_refl _) (by omega)
        simp [f_X15_living_b4, gt_, lt_, nn_, oc_, bd_, hy, e, g2]
  exact key fu_ 0 (Nat.zero_le _) (by unfold fu_; omega)
theorem k_isDead {σ : TH} {a : Nat} (h : kd_ σ a = 4) : f_X2_isDead σ a = some (bi_ (0 ≤ fi_ σ 305 a), σ) := by
  by_cases g : fi_ σ 305 a < 0
  · have g2 : ¬ (0 : Int32) ≤ fi_ σ 305 a := fun z => absurd g (Int32.not_lt.mpr z)
    simp [f_X2_isDead, f_X2_isDead_b12, gt_, lt_, nn_, oc_, bd_, h, g, bi_, g2]
  · have g2 : (0 : Int32) ≤ fi_ σ 305 a := Int32.not_lt.mp g
    simp [f_X2_isDead, f_X2_isDead_b12, gt_, lt_, nn_, oc_, bd_, h, g, bi_, g2]
theorem k_asNum (σ : TH) (q : Prop) [Decidable q] : f_X11_asNumber σ (bi_ q) = some (bi_ q, σ) := by
  by_cases h : q
  · simp [f_X11_asNumber, f_X11_asNumber_b9, bi_, h]
  · simp [f_X11_asNumber, f_X11_asNumber_b9, bi_, h]
theorem k_deads {σ : TH} {G : GH} {A : AS} {N : Nat → Nat} (h : rc_ ka TX σ x G A N) (hN : N 5 ≤ 30) : f_X11_deadPeople σ x = some (nI (cn_ (fun p => decide (0 ≤ aV A 12 p)) (N 5)), σ) := by
  have hx := rc_x h
  obtain ⟨e1, e2⟩ := rc_r1201 h
  have hl := rc_l2 h (by omega)
  have l1 := l_size hl
  have hc : gc_ G 31 = N 5 := by
    have := h.2.2.1
    unfold cg_ at this
    simp only [this]
  have key : ∀ (n i : Nat), i ≤ N 5 → N 5 + 1 ≤ i + n → f_X11_deadPeople_b4 n σ x (nI (cn_ (fun p => decide (0 ≤ aV A 12 p)) i)) (nI i) = some (nI (cn_ (fun p => decide (0 ≤ aV A 12 p)) (N 5)), σ) := by
    intro n
    induction n with
    | zero => intro i h1 h2; omega
    | succ n ih =>
      intro i h1 h2
      rcases Nat.lt_or_ge i (N 5) with hi | hi
      · have g2 : ¬ nI (N 5) ≤ nI i := nI_ge hi (by omega)
        have l2 := l_get hl hi
        have hkd : kd_ σ (ga_ G 31 i) = 4 := (h.1.2 31 i (by rw [hc]; exact hi)).1
        have q : fi_ σ 305 (ga_ G 31 i) = aV A 12 i := (h.2.2.2 31 i (by rw [hc]; exact hi)).2.2.2.2.2.1
        have d := k_isDead hkd
        rw [q] at d
        have ih1 := ih (i + 1) hi (by omega)
        by_cases g5 : 0 ≤ aV A 12 i
        · have e9 : cn_ (fun p => decide (0 ≤ aV A 12 p)) (i + 1) = cn_ (fun p => decide (0 ≤ aV A 12 p)) i + 1 := by simp [cn_, g5]
          rw [e9, ← nI_1, ← nI_1] at ih1
          rw [bi_t g5] at d
          simp [f_X11_deadPeople_b4, gt_, lt_, nn_, oc_, bd_, hx, e1, e2, l1, l2, hkd, g2, d, f_X11_asNumber, f_X11_asNumber_b9, ih1]
        · have e9 : cn_ (fun p => decide (0 ≤ aV A 12 p)) (i + 1) = cn_ (fun p => decide (0 ≤ aV A 12 p)) i := by simp [cn_, g5]
          rw [e9, ← nI_1] at ih1
          rw [bi_f g5] at d
          simp [f_X11_deadPeople_b4, gt_, lt_, nn_, oc_, bd_, hx, e1, e2, l1, l2, hkd, g2, d, f_X11_asNumber, f_X11_asNumber_b9, ih1]
      · have hi2 : i = N 5 := by omega
        subst hi2
        have g2 : nI (N 5) ≤ nI (N 5) := nI_le (Nat.le_refl _) (by omega)
        simp [f_X11_deadPeople_b4, gt_, lt_, nn_, oc_, bd_, hx, e1, e2, l1, g2]
  exact key fu_ 0 (Nat.zero_le _) (by unfold fu_; omega)
theorem k_livings {σ : TH} {G : GH} {A : AS} {N : Nat → Nat} (h : rc_ ka TX σ x G A N) (hN : N 4 ≤ 6) : f_X11_livingWriters σ x = some (nI (cn_ (fun p => decide (aV A 14 p = 0)) (N 4)), σ) := by
  have hx := rc_x h
  obtain ⟨e1, e2⟩ := rc_r1200 h
  have hl := rc_l1 h (by omega)
  have l1 := l_size hl
  have hc : gc_ G 30 = N 4 := by
    have := h.2.2.1
    unfold cg_ at this
    simp only [this]
  have key : ∀ (n i : Nat), i ≤ N 4 → N 4 + 1 ≤ i + n → f_X11_livingWriters_b4 n σ x (nI (cn_ (fun p => decide (aV A 14 p = 0)) i)) (nI i) = some (nI (cn_ (fun p => decide (aV A 14 p = 0)) (N 4)), σ) := by
    intro n
    induction n with
    | zero => intro i h1 h2; omega
    | succ n ih =>
      intro i h1 h2
      rcases Nat.lt_or_ge i (N 4) with hi | hi
      · have g2 : ¬ nI (N 4) ≤ nI i := nI_ge hi (by omega)
        have l2 := l_get hl hi
        have hkd : kd_ σ (ga_ G 30 i) = 12 := (h.1.2 30 i (by rw [hc]; exact hi)).1
        have q : fi_ σ 1101 (ga_ G 30 i) = bi_ (aV A 14 i = 0) := (h.2.2.2 30 i (by rw [hc]; exact hi)).2.1
        have ih1 := ih (i + 1) hi (by omega)
        by_cases g5 : aV A 14 i = 0
        · have e9 : cn_ (fun p => decide (aV A 14 p = 0)) (i + 1) = cn_ (fun p => decide (aV A 14 p = 0)) i + 1 := by simp [cn_, g5]
          rw [e9, ← nI_1, ← nI_1] at ih1
          rw [bi_t g5] at q
          simp [f_X11_livingWriters_b4, gt_, lt_, nn_, oc_, bd_, hx, e1, e2, l1, l2, hkd, g2, q, f_X11_asNumber, f_X11_asNumber_b9, ih1]
        · have e9 : cn_ (fun p => decide (aV A 14 p = 0)) (i + 1) = cn_ (fun p => decide (aV A 14 p = 0)) i := by simp [cn_, g5]
          rw [e9, ← nI_1] at ih1
          rw [bi_f g5] at q
          simp [f_X11_livingWriters_b4, gt_, lt_, nn_, oc_, bd_, hx, e1, e2, l1, l2, hkd, g2, q, f_X11_asNumber, f_X11_asNumber_b9, ih1]
      · have hi2 : i = N 4 := by omega
        subst hi2
        have g2 : nI (N 4) ≤ nI (N 4) := nI_le (Nat.le_refl _) (by omega)
        simp [f_X11_livingWriters_b4, gt_, lt_, nn_, oc_, bd_, hx, e1, e2, l1, g2]
  exact key fu_ 0 (Nat.zero_le _) (by unfold fu_; omega)
theorem ok_count (hPV : pvS_ PV) : St_count ka x y (inv_ ka TX PV x y o N0) := fun n c m a0 hn hI => by
  obtain ⟨GC, GM, N, k1, k2, k3, k4, k5, k6, k7, k8⟩ := id hI
  have hx := rc_x k2
  have hy0 := mo_y k1
  have hy : kd_ (bm_ m c) y = 17 := hy0
  have hb := mo_si (c := 1600) (v := 0) (mo_bm k1 (z := c) (Nat.le_of_eq k5.1)) (by decide)
  obtain ⟨q0, q1, q2, q3, q4, q5, q6, q7, q8⟩ := rc_f0 k2
  have d1 := m_deads hb
  have d2 := m_living hb
  have d3 := m_today hb
  have n4 := mo_n k1 (j := 4) (cj := 1604) (m := 6) (by decide)
  have n5 := mo_n k1 (j := 5) (cj := 1605) (m := 30) (by decide)
  have n6 := mo_n k1 (j := 6) (cj := 1606) (m := 5257439) (by decide)
  have n58 := mo_n k1 (j := 58) (cj := 1658) (m := 12) (by decide)
  have n59 := mo_n k1 (j := 59) (cj := 1659) (m := 120) (by decide)
  have n69 := mo_n k1 (j := 69) (cj := 1669) (m := 40) (by decide)
  have n70 := mo_n k1 (j := 70) (cj := 1670) (m := 60) (by decide)
  have n71 := mo_n k1 (j := 71) (cj := 1671) (m := 80) (by decide)
  have b5 : fi_ (bm_ m c) 1605 y = nI (N 5) := n5.1
  have b6 : fi_ (bm_ m c) 1606 y = nI (N 6) := n6.1
  have b58 : fi_ (bm_ m c) 1658 y = nI (N 58) := n58.1
  have b59 : fi_ (bm_ m c) 1659 y = nI (N 59) := n59.1
  have b69 : fi_ (bm_ m c) 1669 y = nI (N 69) := n69.1
  have b70 : fi_ (bm_ m c) 1670 y = nI (N 70) := n70.1
  have b71 : fi_ (bm_ m c) 1671 y = nI (N 71) := n71.1
  have b17 : fi_ (bm_ m c) 1617 y = fi_ c 1211 x := q1.symm
  have b47 : fi_ (bm_ m c) 1647 y = fi_ c 1212 x := q2.symm
  have c6 : fi_ c 1213 x = nI (N 6) := q3.trans n6.1
  have t1 := k_today hx c6 (Nat.lt_of_le_of_lt n6.2 (by decide))
  have v15 : ∀ p, p < N 5 → (!decide (ai_ m (ga_ GM 15 0) p = 0)) = decide (0 ≤ aV (as_ m y GM) 12 p) := fun p hp => by
    have hc : p < gc_ GC 31 := by
      have := k2.2.2.1
      unfold cg_ at this
      simp only [this]
      exact hp
    have q13 := (k2.2.2.2 31 p hc).2.2.2.2.2.2.2.2.2.2.2.2.2.1
    have v : aV (as_ m y GM) 15 p = ai_ m (ga_ GM 15 0) p := congrFun (as_V (by decide)) p
    rw [v] at q13
    rw [q13]
    by_cases g : 0 ≤ aV (as_ m y GM) 12 p
    · rw [bi_t g]; simp [g]
    · rw [bi_f g]; simp [g]
  have e15 : cn_ (fun p => !decide (ai_ m (ga_ GM 15 0) p = 0)) (N 5) = cn_ (fun p => decide (0 ≤ aV (as_ m y GM) 12 p)) (N 5) := cn_cong _ v15
  have v14 : ∀ p, aV (as_ m y GM) 14 p = ai_ m (ga_ GM 14 0) p := fun p => congrFun (as_V (by decide)) p
  have e14 : cn_ (fun p => decide (ai_ m (ga_ GM 14 0) p = 0)) (N 4) = cn_ (fun p => decide (aV (as_ m y GM) 14 p = 0)) (N 4) := cn_cong _ (fun p _ => by rw [v14])
  have d1' : f_X15_deads (si_ (bm_ m c) 1600 y 0) y = some (nI (cn_ (fun p => decide (0 ≤ aV (as_ m y GM) 12 p)) (N 5)), si_ (bm_ m c) 1600 y 0) := by rw [d1, ← e15]; rfl
  have d2' : f_X15_living (si_ (bm_ m c) 1600 y 0) y = some (nI (cn_ (fun p => decide (aV (as_ m y GM) 14 p = 0)) (N 4)), si_ (bm_ m c) 1600 y 0) := by rw [d2, ← e14]; rfl
  have u1 := k_deads k2 n5.2
  have u2 := k_livings k2 n4.2
  obtain ⟨r1, r2⟩ := rc_r1201 k2
  obtain ⟨r3, r4⟩ := rc_r1203 k2
  obtain ⟨r5, r6⟩ := rc_r1202 k2
  obtain ⟨r7, r8⟩ := rc_r1204 k2
  obtain ⟨r9, r10⟩ := rc_r1205 k2
  obtain ⟨r11, r12⟩ := rc_r1206 k2
  obtain ⟨r13, r14⟩ := rc_r1208 k2
  have s2 := l_size (rc_l2 k2 (by omega))
  have s3 := l_size (rc_l3 k2 (by omega))
  have s4 := l_size (rc_l4 k2 (by omega))
  have s5 := l_size (rc_l5 k2 (by omega))
  have s6 := l_size (rc_l6 k2 (by omega))
  have s7 := l_size (rc_l7 k2 (by omega))
  obtain ⟨-, -, -, p4, -⟩ := k2.2.2.2 10 0 (rc_1 k2 (by decide))
  have b30 : fi_ (bm_ m c) 1630 y = fi_ c 701 (ga_ GC 10 0) := p4.symm
  have go : ∀ r : Int32, f_X11_count c x a0 = some (r, c) → f_X15_count (bm_ m c) y a0 = some (r, si_ (bm_ m c) 1600 y 0) → ∃ (r : Int32) (c1 m1 : TH), f_X11_count c x a0 = some (r, c1) ∧ f_X15_count (bm_ m c1) y a0 = some (r, m1) ∧ wf_ c1 ∧ wf_ m1 ∧ inv_ ka TX PV x y o N0 (n + 1) (bm_ c1 m1) m1 := fun r w1 w2 => ⟨r, c, _, w1, w2, ask_ hI hPV⟩
  by_cases h0 : a0 = 0
  · subst h0; exact go (nI (N 5)) (by simp [f_X11_count, gt_, lt_, nn_, oc_, bd_, hx, r1, r2, s2]) (by simp [f_X15_count, gt_, lt_, nn_, oc_, bd_, kd_si, ln_si, fi_si, fr_si, fl_si, ai_si, ar_si, al_si, ow_si, nx_si, sl_si, kd_sr, ln_sr, fi_sr, fr_sr, fl_sr, ai_sr, ar_sr, al_sr, ow_sr, nx_sr, sl_sr, kd_so, ln_so, fi_so, fr_so, fl_so, ai_so, ar_so, al_so, ow_so, nx_so, sl_so, kd_sa, ln_sa, fi_sa, fr_sa, fl_sa, ai_sa, ar_sa, al_sa, ow_sa, nx_sa, sl_sa, kd_sq, ln_sq, fi_sq, fr_sq, fl_sq, ai_sq, ar_sq, al_sq, ow_sq, nx_sq, sl_sq, kd_sj, ln_sj, fi_sj, fr_sj, fl_sj, ai_sj, ar_sj, al_sj, ow_sj, nx_sj, sl_sj, up2_e, hy, b5])
  by_cases h1 : a0 = 1
  · subst h1; exact go _ (by simp [f_X11_count, gt_, lt_, nn_, oc_, bd_, hx, u1]; rfl) (by simp [f_X15_count, gt_, lt_, nn_, oc_, bd_, kd_si, ln_si, fi_si, fr_si, fl_si, ai_si, ar_si, al_si, ow_si, nx_si, sl_si, kd_sr, ln_sr, fi_sr, fr_sr, fl_sr, ai_sr, ar_sr, al_sr, ow_sr, nx_sr, sl_sr, kd_so, ln_so, fi_so, fr_so, fl_so, ai_so, ar_so, al_so, ow_so, nx_so, sl_so, kd_sa, ln_sa, fi_sa, fr_sa, fl_sa, ai_sa, ar_sa, al_sa, ow_sa, nx_sa, sl_sa, kd_sq, ln_sq, fi_sq, fr_sq, fl_sq, ai_sq, ar_sq, al_sq, ow_sq, nx_sq, sl_sq, kd_sj, ln_sj, fi_sj, fr_sj, fl_sj, ai_sj, ar_sj, al_sj, ow_sj, nx_sj, sl_sj, up2_e, hy, d1'])
  by_cases h2 : a0 = 2
  · subst h2; exact go _ (by simp [f_X11_count, gt_, lt_, nn_, oc_, bd_, hx, u2]; rfl) (by simp [f_X15_count, gt_, lt_, nn_, oc_, bd_, kd_si, ln_si, fi_si, fr_si, fl_si, ai_si, ar_si, al_si, ow_si, nx_si, sl_si, kd_sr, ln_sr, fi_sr, fr_sr, fl_sr, ai_sr, ar_sr, al_sr, ow_sr, nx_sr, sl_sr, kd_so, ln_so, fi_so, fr_so, fl_so, ai_so, ar_so, al_so, ow_so, nx_so, sl_so, kd_sa, ln_sa, fi_sa, fr_sa, fl_sa, ai_sa, ar_sa, al_sa, ow_sa, nx_sa, sl_sa, kd_sq, ln_sq, fi_sq, fr_sq, fl_sq, ai_sq, ar_sq, al_sq, ow_sq, nx_sq, sl_sq, kd_sj, ln_sj, fi_sj, fr_sj, fl_sj, ai_sj, ar_sj, al_sj, ow_sj, nx_sj, sl_sj, up2_e, hy, d2'])
  by_cases h3 : a0 = 3
  · subst h3; exact go (fi_ c 1211 x) (by simp [f_X11_count, gt_, lt_, nn_, oc_, bd_, hx]) (by simp [f_X15_count, gt_, lt_, nn_, oc_, bd_, kd_si, ln_si, fi_si, fr_si, fl_si, ai_si, ar_si, al_si, ow_si, nx_si, sl_si, kd_sr, ln_sr, fi_sr, fr_sr, fl_sr, ai_sr, ar_sr, al_sr, ow_sr, nx_sr, sl_sr, kd_so, ln_so, fi_so, fr_so, fl_so, ai_so, ar_so, al_so, ow_so, nx_so, sl_so, kd_sa, ln_sa, fi_sa, fr_sa, fl_sa, ai_sa, ar_sa, al_sa, ow_sa, nx_sa, sl_sa, kd_sq, ln_sq, fi_sq, fr_sq, fl_sq, ai_sq, ar_sq, al_sq, ow_sq, nx_sq, sl_sq, kd_sj, ln_sj, fi_sj, fr_sj, fl_sj, ai_sj, ar_sj, al_sj, ow_sj, nx_sj, sl_sj, up2_e, hy, b17])
  by_cases h4 : a0 = 4
  · subst h4; exact go (fi_ c 1212 x) (by simp [f_X11_count, gt_, lt_, nn_, oc_, bd_, hx]) (by simp [f_X15_count, gt_, lt_, nn_, oc_, bd_, kd_si, ln_si, fi_si, fr_si, fl_si, ai_si, ar_si, al_si, ow_si, nx_si, sl_si, kd_sr, ln_sr, fi_sr, fr_sr, fl_sr, ai_sr, ar_sr, al_sr, ow_sr, nx_sr, sl_sr, kd_so, ln_so, fi_so, fr_so, fl_so, ai_so, ar_so, al_so, ow_so, nx_so, sl_so, kd_sa, ln_sa, fi_sa, fr_sa, fl_sa, ai_sa, ar_sa, al_sa, ow_sa, nx_sa, sl_sa, kd_sq, ln_sq, fi_sq, fr_sq, fl_sq, ai_sq, ar_sq, al_sq, ow_sq, nx_sq, sl_sq, kd_sj, ln_sj, fi_sj, fr_sj, fl_sj, ai_sj, ar_sj, al_sj, ow_sj, nx_sj, sl_sj, up2_e, hy, b47])
  by_cases h5 : a0 = 5
  · subst h5; exact go (nI (N 59)) (by simp [f_X11_count, gt_, lt_, nn_, oc_, bd_, hx, r3, r4, s4]) (by simp [f_X15_count, gt_, lt_, nn_, oc_, bd_, kd_si, ln_si, fi_si, fr_si, fl_si, ai_si, ar_si, al_si, ow_si, nx_si, sl_si, kd_sr, ln_sr, fi_sr, fr_sr, fl_sr, ai_sr, ar_sr, al_sr, ow_sr, nx_sr, sl_sr, kd_so, ln_so, fi_so, fr_so, fl_so, ai_so, ar_so, al_so, ow_so, nx_so, sl_so, kd_sa, ln_sa, fi_sa, fr_sa, fl_sa, ai_sa, ar_sa, al_sa, ow_sa, nx_sa, sl_sa, kd_sq, ln_sq, fi_sq, fr_sq, fl_sq, ai_sq, ar_sq, al_sq, ow_sq, nx_sq, sl_sq, kd_sj, ln_sj, fi_sj, fr_sj, fl_sj, ai_sj, ar_sj, al_sj, ow_sj, nx_sj, sl_sj, up2_e, hy, b59])
  by_cases h6 : a0 = 6
  · subst h6; exact go (nI (N 58)) (by simp [f_X11_count, gt_, lt_, nn_, oc_, bd_, hx, r5, r6, s3]) (by simp [f_X15_count, gt_, lt_, nn_, oc_, bd_, kd_si, ln_si, fi_si, fr_si, fl_si, ai_si, ar_si, al_si, ow_si, nx_si, sl_si, kd_sr, ln_sr, fi_sr, fr_sr, fl_sr, ai_sr, ar_sr, al_sr, ow_sr, nx_sr, sl_sr, kd_so, ln_so, fi_so, fr_so, fl_so, ai_so, ar_so, al_so, ow_so, nx_so, sl_so, kd_sa, ln_sa, fi_sa, fr_sa, fl_sa, ai_sa, ar_sa, al_sa, ow_sa, nx_sa, sl_sa, kd_sq, ln_sq, fi_sq, fr_sq, fl_sq, ai_sq, ar_sq, al_sq, ow_sq, nx_sq, sl_sq, kd_sj, ln_sj, fi_sj, fr_sj, fl_sj, ai_sj, ar_sj, al_sj, ow_sj, nx_sj, sl_sj, up2_e, hy, b58])
  by_cases h7 : a0 = 7
  · subst h7; exact go (nI (N 69)) (by simp [f_X11_count, gt_, lt_, nn_, oc_, bd_, hx, r7, r8, s5]) (by simp [f_X15_count, gt_, lt_, nn_, oc_, bd_, kd_si, ln_si, fi_si, fr_si, fl_si, ai_si, ar_si, al_si, ow_si, nx_si, sl_si, kd_sr, ln_sr, fi_sr, fr_sr, fl_sr, ai_sr, ar_sr, al_sr, ow_sr, nx_sr, sl_sr, kd_so, ln_so, fi_so, fr_so, fl_so, ai_so, ar_so, al_so, ow_so, nx_so, sl_so, kd_sa, ln_sa, fi_sa, fr_sa, fl_sa, ai_sa, ar_sa, al_sa, ow_sa, nx_sa, sl_sa, kd_sq, ln_sq, fi_sq, fr_sq, fl_sq, ai_sq, ar_sq, al_sq, ow_sq, nx_sq, sl_sq, kd_sj, ln_sj, fi_sj, fr_sj, fl_sj, ai_sj, ar_sj, al_sj, ow_sj, nx_sj, sl_sj, up2_e, hy, b69])
  by_cases h8 : a0 = 8
  · subst h8; exact go (nI (N 70)) (by simp [f_X11_count, gt_, lt_, nn_, oc_, bd_, hx, r9, r10, s6]) (by simp [f_X15_count, gt_, lt_, nn_, oc_, bd_, kd_si, ln_si, fi_si, fr_si, fl_si, ai_si, ar_si, al_si, ow_si, nx_si, sl_si, kd_sr, ln_sr, fi_sr, fr_sr, fl_sr, ai_sr, ar_sr, al_sr, ow_sr, nx_sr, sl_sr, kd_so, ln_so, fi_so, fr_so, fl_so, ai_so, ar_so, al_so, ow_so, nx_so, sl_so, kd_sa, ln_sa, fi_sa, fr_sa, fl_sa, ai_sa, ar_sa, al_sa, ow_sa, nx_sa, sl_sa, kd_sq, ln_sq, fi_sq, fr_sq, fl_sq, ai_sq, ar_sq, al_sq, ow_sq, nx_sq, sl_sq, kd_sj, ln_sj, fi_sj, fr_sj, fl_sj, ai_sj, ar_sj, al_sj, ow_sj, nx_sj, sl_sj, up2_e, hy, b70])
  by_cases h9 : a0 = 9
  · subst h9; exact go (nI (N 71)) (by simp [f_X11_count, gt_, lt_, nn_, oc_, bd_, hx, r11, r12, s7]) (by simp [f_X15_count, gt_, lt_, nn_, oc_, bd_, kd_si, ln_si, fi_si, fr_si, fl_si, ai_si, ar_si, al_si, ow_si, nx_si, sl_si, kd_sr, ln_sr, fi_sr, fr_sr, fl_sr, ai_sr, ar_sr, al_sr, ow_sr, nx_sr, sl_sr, kd_so, ln_so, fi_so, fr_so, fl_so, ai_so, ar_so, al_so, ow_so, nx_so, sl_so, kd_sa, ln_sa, fi_sa, fr_sa, fl_sa, ai_sa, ar_sa, al_sa, ow_sa, nx_sa, sl_sa, kd_sq, ln_sq, fi_sq, fr_sq, fl_sq, ai_sq, ar_sq, al_sq, ow_sq, nx_sq, sl_sq, kd_sj, ln_sj, fi_sj, fr_sj, fl_sj, ai_sj, ar_sj, al_sj, ow_sj, nx_sj, sl_sj, up2_e, hy, b71])
  by_cases h10 : a0 = 10
  · subst h10; exact go (nI (N 6 / 1440)) (by simp [f_X11_count, gt_, lt_, nn_, oc_, bd_, hx, t1]) (by simp [f_X15_count, gt_, lt_, nn_, oc_, bd_, kd_si, ln_si, fi_si, fr_si, fl_si, ai_si, ar_si, al_si, ow_si, nx_si, sl_si, kd_sr, ln_sr, fi_sr, fr_sr, fl_sr, ai_sr, ar_sr, al_sr, ow_sr, nx_sr, sl_sr, kd_so, ln_so, fi_so, fr_so, fl_so, ai_so, ar_so, al_so, ow_so, nx_so, sl_so, kd_sa, ln_sa, fi_sa, fr_sa, fl_sa, ai_sa, ar_sa, al_sa, ow_sa, nx_sa, sl_sa, kd_sq, ln_sq, fi_sq, fr_sq, fl_sq, ai_sq, ar_sq, al_sq, ow_sq, nx_sq, sl_sq, kd_sj, ln_sj, fi_sj, fr_sj, fl_sj, ai_sj, ar_sj, al_sj, ow_sj, nx_sj, sl_sj, up2_e, hy, d3])
  by_cases h11 : a0 = 11
  · subst h11; exact go (nI (N 6) - nI (N 6) / 1440 * 1440) (by simp [f_X11_count, gt_, lt_, nn_, oc_, bd_, hx, c6]) (by simp [f_X15_count, gt_, lt_, nn_, oc_, bd_, kd_si, ln_si, fi_si, fr_si, fl_si, ai_si, ar_si, al_si, ow_si, nx_si, sl_si, kd_sr, ln_sr, fi_sr, fr_sr, fl_sr, ai_sr, ar_sr, al_sr, ow_sr, nx_sr, sl_sr, kd_so, ln_so, fi_so, fr_so, fl_so, ai_so, ar_so, al_so, ow_so, nx_so, sl_so, kd_sa, ln_sa, fi_sa, fr_sa, fl_sa, ai_sa, ar_sa, al_sa, ow_sa, nx_sa, sl_sa, kd_sq, ln_sq, fi_sq, fr_sq, fl_sq, ai_sq, ar_sq, al_sq, ow_sq, nx_sq, sl_sq, kd_sj, ln_sj, fi_sj, fr_sj, fl_sj, ai_sj, ar_sj, al_sj, ow_sj, nx_sj, sl_sj, up2_e, hy, b6])
  by_cases h12 : a0 = 12
  · subst h12; exact go (fi_ c 701 (ga_ GC 10 0)) (by simp [f_X11_count, gt_, lt_, nn_, oc_, bd_, hx, r13, r14]) (by simp [f_X15_count, gt_, lt_, nn_, oc_, bd_, kd_si, ln_si, fi_si, fr_si, fl_si, ai_si, ar_si, al_si, ow_si, nx_si, sl_si, kd_sr, ln_sr, fi_sr, fr_sr, fl_sr, ai_sr, ar_sr, al_sr, ow_sr, nx_sr, sl_sr, kd_so, ln_so, fi_so, fr_so, fl_so, ai_so, ar_so, al_so, ow_so, nx_so, sl_so, kd_sa, ln_sa, fi_sa, fr_sa, fl_sa, ai_sa, ar_sa, al_sa, ow_sa, nx_sa, sl_sa, kd_sq, ln_sq, fi_sq, fr_sq, fl_sq, ai_sq, ar_sq, al_sq, ow_sq, nx_sq, sl_sq, kd_sj, ln_sj, fi_sj, fr_sj, fl_sj, ai_sj, ar_sj, al_sj, ow_sj, nx_sj, sl_sj, up2_e, hy, b30])
  exact go (-1) (by simp [f_X11_count, h0, h1, h2, h3, h4, h5, h6, h7, h8, h9, h10, h11, h12]) (by simp [f_X15_count, gt_, lt_, nn_, oc_, bd_, hy, h0, h1, h2, h3, h4, h5, h6, h7, h8, h9, h10, h11, h12])
end C52
