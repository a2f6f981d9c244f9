/-! CALLS: alike. Written by wip/b/mk53.py. -/
section C53
variable {ka : Nat → Nat} {TX : Nat → Nat → (Nat → Int32) → Nat → (Nat → Int32) → Prop} {PV : AS → (Nat → Nat) → Prop} {x y o N0 : Nat}
theorem m_alikes {σ : TH} {y : Nat} {G : GH} {N : Nat → Nat} (h : mo_ σ y G N) {k : Nat} (hk : k < N 5) : f_X15_alike_b19 fu_ σ y (nI k) 0 0 = some (nI (cn_ (fun p => (!decide (p = k) && decide (ai_ σ (ga_ G 8 0) p = ai_ σ (ga_ G 8 0) k))) (N 5)), σ) := by
  have hy := mo_y h
  obtain ⟨e, hb⟩ := mo_n h (j := 5) (cj := 1605) (m := 30) (by decide)
  obtain ⟨e1, e2, e3⟩ := mo_a h (j := 8) (cj := 1608) (K := 20) (n := 30) (by decide)
  have w1 : ¬ nI k < 0 := nI_pos (by omega)
  have w2 : (nI k).toNatClampNeg = k := nI_clamp (by omega)
  have w3 : ¬ 30 ≤ k := by omega
  have key : ∀ (n i : Nat), i ≤ N 5 → N 5 + 1 ≤ i + n → f_X15_alike_b19 n σ y (nI k) (nI (cn_ (fun p => (!decide (p = k) && decide (ai_ σ (ga_ G 8 0) p = ai_ σ (ga_ G 8 0) k))) i)) (nI i) = some (nI (cn_ (fun p => (!decide (p = k) && decide (ai_ σ (ga_ G 8 0) p = ai_ σ (ga_ G 8 0) k))) (N 5)), σ) := by
    intro n
    induction n with
    | zero => intro i h1 h2; omega
    | succ n ih =>
      intro i h1 h2
      rcases Nat.lt_or_ge i (N 5) with hi | hi
      · have g2 : ¬ nI (N 5) ≤ nI i := nI_ge hi (by omega)
        have g1 : ¬ nI i < 0 := nI_pos (by omega)
        have g3 : (nI i).toNatClampNeg = i := nI_clamp (by omega)
        have g4 : ¬ 30 ≤ i := by omega
        have ih1 := ih (i + 1) hi (by omega)
        by_cases gk : i = k
        · have e9 : cn_ (fun p => (!decide (p = k) && decide (ai_ σ (ga_ G 8 0) p = ai_ σ (ga_ G 8 0) k))) (i + 1) = cn_ (fun p => (!decide (p = k) && decide (ai_ σ (ga_ G 8 0) p = ai_ σ (ga_ G 8 0) k))) i := by simp [cn_, gk]
          rw [e9, ← nI_1] at ih1
          have gt9 : (nI i = nI k) = True := eq_true (by rw [gk])
          simp [f_X15_alike_b19, f_X15_alike_b52, f_X15_alike_b53, gt_, lt_, nn_, oc_, bd_, hy, e, e1, e2, e3, g1, g2, g3, g4, w1, w2, w3, gt9, ih1]
        · have gn : ¬ nI i = nI k := fun z => gk ((nI_eq (by omega) (by omega)).mp z)
          by_cases g5 : ai_ σ (ga_ G 8 0) i = ai_ σ (ga_ G 8 0) k
          · have e9 : cn_ (fun p => (!decide (p = k) && decide (ai_ σ (ga_ G 8 0) p = ai_ σ (ga_ G 8 0) k))) (i + 1) = cn_ (fun p => (!decide (p = k) && decide (ai_ σ (ga_ G 8 0) p = ai_ σ (ga_ G 8 0) k))) i + 1 := by simp [cn_, gk, g5]
            rw [e9, ← nI_1, ← nI_1] at ih1
            simp [f_X15_alike_b19, f_X15_alike_b52, f_X15_alike_b53, gt_, lt_, nn_, oc_, bd_, hy, e, e1, e2, e3, g1, g2, g3, g4, w1, w2, w3, gn, g5, ih1]
          · have e9 : cn_ (fun p => (!decide (p = k) && decide (ai_ σ (ga_ G 8 0) p = ai_ σ (ga_ G 8 0) k))) (i + 1) = cn_ (fun p => (!decide (p = k) && decide (ai_ σ (ga_ G 8 0) p = ai_ σ (ga_ G 8 0) k))) i := by simp [cn_, g5]
            rw [e9, ← nI_1] at ih1
            simp [f_X15_alike_b19, f_X15_alike_b52, f_X15_alike_b53, gt_, lt_, nn_, oc_, bd_, hy, e, e1, e2, e3, g1, g2, g3, g4, w1, w2, w3, gn, g5, ih1]
      · have hi2 : i = N 5 := by omega
        subst hi2
        have g2 : nI (N 5) ≤ nI (N 5) := nI_le (Nat.le_refl _) (by omega)
        simp [f_X15_alike_b19, f_X15_alike_b52, f_X15_alike_b53, gt_, lt_, nn_, oc_, bd_, hy, e, g2]
  exact key fu_ 0 (Nat.zero_le _) (by unfold fu_; omega)
theorem k_alikes {σ : TH} {G : GH} {A : AS} {N : Nat → Nat} (h : rc_ ka TX σ x G A N) (hN : N 5 ≤ 30) {k : Nat} (hk : k < N 5) : f_X11_alike_b17 fu_ σ x (nI k) (some (ga_ G 31 k)) 0 0 = some (nI (cn_ (fun p => (!decide (p = k) && decide (aV A 8 p = aV A 8 k))) (N 5)), σ) := by
  have hx := rc_x h
  obtain ⟨e1, e2⟩ := rc_r1201 h
  have hl := rc_l2 h (by omega)
  have l1 := l_size hl
  have hc : gc_ G 31 = N 5 := by
    have := h.2.2.1
    unfold cg_ at this
    simp only [this]
  have hkk : kd_ σ (ga_ G 31 k) = 4 := (h.1.2 31 k (by rw [hc]; exact hk)).1
  have qk : fi_ σ 301 (ga_ G 31 k) = aV A 8 k := (h.2.2.2 31 k (by rw [hc]; exact hk)).2.1
  have key : ∀ (n i : Nat), i ≤ N 5 → N 5 + 1 ≤ i + n → f_X11_alike_b17 n σ x (nI k) (some (ga_ G 31 k)) (nI (cn_ (fun p => (!decide (p = k) && decide (aV A 8 p = aV A 8 k))) i)) (nI i) = some (nI (cn_ (fun p => (!decide (p = k) && decide (aV A 8 p = aV A 8 k))) (N 5)), σ) := by
    intro n
    induction n with
    | zero => intro i h1 h2; omega
    | succ n ih =>
      intro i h1 h2
      rcases Nat.lt_or_ge i (N 5) with hi | hi
      · have g2 : ¬ nI (N 5) ≤ nI i := nI_ge hi (by omega)
        have l2 := l_get hl hi
        have hkd : kd_ σ (ga_ G 31 i) = 4 := (h.1.2 31 i (by rw [hc]; exact hi)).1
        have qi : fi_ σ 301 (ga_ G 31 i) = aV A 8 i := (h.2.2.2 31 i (by rw [hc]; exact hi)).2.1
        have ih1 := ih (i + 1) hi (by omega)
        by_cases gk : i = k
        · have e9 : cn_ (fun p => (!decide (p = k) && decide (aV A 8 p = aV A 8 k))) (i + 1) = cn_ (fun p => (!decide (p = k) && decide (aV A 8 p = aV A 8 k))) i := by simp [cn_, gk]
          rw [e9, ← nI_1] at ih1
          have gt9 : (nI i = nI k) = True := eq_true (by rw [gk])
          simp [f_X11_alike_b17, f_X11_alike_b60, gt_, lt_, nn_, oc_, bd_, hx, e1, e2, l1, l2, hkd, hkk, g2, qi, qk, gt9, ih1]
        · have gn : ¬ nI i = nI k := fun z => gk ((nI_eq (by omega) (by omega)).mp z)
          by_cases g5 : aV A 8 i = aV A 8 k
          · have e9 : cn_ (fun p => (!decide (p = k) && decide (aV A 8 p = aV A 8 k))) (i + 1) = cn_ (fun p => (!decide (p = k) && decide (aV A 8 p = aV A 8 k))) i + 1 := by simp [cn_, gk, g5]
            rw [e9, ← nI_1, ← nI_1] at ih1
            simp [f_X11_alike_b17, f_X11_alike_b60, gt_, lt_, nn_, oc_, bd_, hx, e1, e2, l1, l2, hkd, hkk, g2, qi, qk, gn, g5, ih1]
          · have e9 : cn_ (fun p => (!decide (p = k) && decide (aV A 8 p = aV A 8 k))) (i + 1) = cn_ (fun p => (!decide (p = k) && decide (aV A 8 p = aV A 8 k))) i := by simp [cn_, g5]
            rw [e9, ← nI_1] at ih1
            simp [f_X11_alike_b17, f_X11_alike_b60, gt_, lt_, nn_, oc_, bd_, hx, e1, e2, l1, l2, hkd, hkk, g2, qi, qk, gn, g5, ih1]
      · have hi2 : i = N 5 := by omega
        subst hi2
        have g2 : nI (N 5) ≤ nI (N 5) := nI_le (Nat.le_refl _) (by omega)
        simp [f_X11_alike_b17, f_X11_alike_b60, gt_, lt_, nn_, oc_, bd_, hx, e1, e2, l1, g2]
  exact key fu_ 0 (Nat.zero_le _) (by unfold fu_; omega)
theorem ok_alike (hPV : pvS_ PV) : St_alike ka x y (inv_ ka TX PV x y o N0) := fun n c m a0 hn hI => by
  obtain ⟨GC, GM, N, k1, k2, k3, k4, k5, k6, k7, k8⟩ := id hI
  have hx := rc_x k2
  have hy0 := mo_y k1
  have hy : kd_ (bm_ m c) y = 17 := hy0
  have hN := (mo_n k1 (j := 5) (cj := 1605) (m := 30) (by decide)).2
  have hb := mo_si (c := 1600) (v := 0) (mo_bm k1 (z := c) (Nat.le_of_eq k5.1)) (by decide)
  rcases rg_ a0 (n := N 5) (by omega) with ⟨k, hk, rfl⟩ | hout
  · obtain ⟨p1, p2⟩ := k_person1 k2 hN hk
    have f5 := m_isPerson1 hb hk
    have u1 := k_alikes k2 hN hk
    have u2 := m_alikes hb hk
    have v8 : ∀ p, aV (as_ m y GM) 8 p = ai_ m (ga_ GM 8 0) p := fun p => congrFun (as_V (by decide)) p
    have e8 : cn_ (fun p => (!decide (p = k) && decide (aV (as_ m y GM) 8 p = aV (as_ m y GM) 8 k))) (N 5) = cn_ (fun p => (!decide (p = k) && decide (ai_ (si_ (bm_ m c) 1600 y 0) (ga_ GM 8 0) p = ai_ (si_ (bm_ m c) 1600 y 0) (ga_ GM 8 0) k))) (N 5) := cn_cong _ (fun p _ => by rw [v8, v8]; rfl)
    rw [e8] at u1
    refine ⟨nI (cn_ (fun p => (!decide (p = k) && decide (ai_ (si_ (bm_ m c) 1600 y 0) (ga_ GM 8 0) p = ai_ (si_ (bm_ m c) 1600 y 0) (ga_ GM 8 0) k))) (N 5)), c, si_ (bm_ m c) 1600 y 0, ?_, ?_, ask_ hI hPV⟩
    · simp only [f_X11_alike]
      rw [gt_t hx, p1, bd_s, oc_s]
      exact u1
    · simp only [f_X15_alike]
      rw [gt_t hy, lt_e, f5, bd_s, if_neg (by decide)]
      exact u2
  · refine ⟨-1, c, si_ (bm_ m c) 1600 y 0, ?_, ?_, ask_ hI hPV⟩
    · simp [f_X11_alike, gt_, lt_, nn_, oc_, bd_, hx, k_person0 k2 hN hout]
    · have f5 := m_isPerson0 hb hout
      simp [f_X15_alike, gt_, lt_, nn_, oc_, bd_, kd_si, ln_si, fi_si, fr_si, fl_si, ai_si, ar_si, al_si, ow_si, nx_si, sl_si, kd_sr, ln_sr, fi_sr, fr_sr, fl_sr, ai_sr, ar_sr, al_sr, ow_sr, nx_sr, sl_sr, kd_so, ln_so, fi_so, fr_so, fl_so, ai_so, ar_so, al_so, ow_so, nx_so, sl_so, kd_sa, ln_sa, fi_sa, fr_sa, fl_sa, ai_sa, ar_sa, al_sa, ow_sa, nx_sa, sl_sa, kd_sq, ln_sq, fi_sq, fr_sq, fl_sq, ai_sq, ar_sq, al_sq, ow_sq, nx_sq, sl_sq, kd_sj, ln_sj, fi_sj, fr_sj, fl_sj, ai_sj, ar_sj, al_sj, ow_sj, nx_sj, sl_sj, hy, f5]
end C53
