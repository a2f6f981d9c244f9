/-! CALLS: hours, embargo, pass. Written by wip/b/mk49.py. -/
section C49
variable {ka : Nat → Nat} {TX : Nat → Nat → (Nat → Int32) → Nat → (Nat → Int32) → Prop} {PV : AS → (Nat → Nat) → Prop} {x y o N0 : Nat}
theorem k_living1 {σ : TH} {G : GH} {A : AS} {N : Nat → Nat} (h : rc_ ka TX σ x G A N) (hN : N 4 ≤ 6) {k : Nat} (hk : k < N 4) : f_X11_livingWriter σ x (nI k) = some (if aV A 14 k = 0 then some (ga_ G 30 k) else none, σ) ∧ kd_ σ (ga_ G 30 k) = 12 ∧ k < gc_ G 30 := by
  have hx := rc_x h
  obtain ⟨e1, e2⟩ := rc_r1200 h
  have hl := rc_l1 h (by omega)
  have l1 := l_size hl
  have l2 := l_get hl hk
  have hc : gc_ G 30 = N 4 := by
    have := h.2.2.1
    unfold cg_ at this
    simp only [this]
  have hkc : k < gc_ G 30 := by rw [hc]; exact hk
  have hkd : kd_ σ (ga_ G 30 k) = 12 := (h.1.2 30 k hkc).1
  have g := rg_in hk (show N 4 < 2 ^ 31 by omega)
  obtain ⟨-, q, -⟩ := h.2.2.2 30 k hkc
  have q' : fi_ σ 1101 (ga_ G 30 k) = bi_ (aV A 14 k = 0) := q
  refine ⟨?_, hkd, hkc⟩
  by_cases z : aV A 14 k = 0
  · simp [f_X11_livingWriter, f_X11_livingWriter_b43, gt_, lt_, nn_, oc_, bd_, hx, e1, e2, l1, l2, k_within, bi_, g, hkd, q', z]
  · simp [f_X11_livingWriter, f_X11_livingWriter_b43, gt_, lt_, nn_, oc_, bd_, hx, e1, e2, l1, l2, k_within, bi_, g, hkd, q', z]
theorem k_living0 {σ : TH} {G : GH} {A : AS} {N : Nat → Nat} (h : rc_ ka TX σ x G A N) (hN : N 4 ≤ 6) {a : Int32} (ha : a < 0 ∨ nI (N 4) ≤ a) : f_X11_livingWriter σ x a = some (none, σ) := by
  have hx := rc_x h
  obtain ⟨e1, e2⟩ := rc_r1200 h
  have hl := rc_l1 h (by omega)
  have l1 := l_size hl
  have g := rg_out (show N 4 < 2 ^ 31 by omega) ha
  simp [f_X11_livingWriter, f_X11_livingWriter_b43, gt_, lt_, nn_, oc_, bd_, hx, e1, e2, l1, k_within, bi_, g]
theorem ok_hours (hPV : pvS_ PV) (hV : ∀ (A : AS) (N : Nat → Nat) (S : Nat → Int32) (k : Nat) (v : Int32), k < N 4 → 0 ≤ v ∧ v ≤ 60 → PV A N → PV (S, up2_ (aV A) 7 k v, A.2.2) N) : St_hours ka x y (inv_ ka TX PV x y o N0) := fun n c m a0 a1 hn hI => by
  obtain ⟨GC, GM, N, k1, k2, k3, k4, k5, k6, k7, k8⟩ := id hI
  have hx := rc_x k2
  have hy := mo_y k1
  have hN := (mo_n k1 (j := 4) (cj := 1604) (m := 6) (by decide)).2
  have hno : ∀ v : Int32, v ≠ 4 → f_X11_hours c x a0 a1 = some (0, si_ c 1214 x v) → f_X15_hours (bm_ m (si_ c 1214 x v)) y a0 a1 = some (0, tr_ (si_ (bm_ m (si_ c 1214 x v)) 1600 y 0) y v) → ∃ (r : Int32) (c1 m1 : TH), f_X11_hours c x a0 a1 = some (r, c1) ∧ f_X15_hours (bm_ m c1) y a0 a1 = some (r, m1) ∧ wf_ c1 ∧ wf_ m1 ∧ inv_ ka TX PV x y o N0 (n + 1) (bm_ c1 m1) m1 := fun v hv e1 e2 => ⟨_, _, _, e1, e2, no_ hPV hI v hv⟩
  rcases rg_ a0 (n := N 4) (by omega) with ⟨k, hk, rfl⟩ | hout
  · obtain ⟨p1, p2, p3⟩ := k_living1 k2 hN hk
    have v14 : aV (as_ m y GM) 14 k = ai_ m (ga_ GM 14 0) k := congrFun (as_V (by decide)) k
    rw [v14] at p1
    by_cases z : ai_ m (ga_ GM 14 0) k = 0
    · by_cases g : 0 ≤ a1 ∧ a1 ≤ 60
      · obtain ⟨r1, r2⟩ := rf_30_1100 k2 p3 a1 a1 (by
          obtain ⟨q0, q1, q2⟩ := k2.2.2.2 30 k p3
          refine ⟨?_, q1, q2⟩
          show up2_ (fi_ c) 1100 (ga_ GC 30 k) a1 1100 (ga_ GC 30 k) = up2_ (aV (as_ m y GM)) 7 k a1 7 k
          rw [up2_s, up2_s])
        refine ⟨1, _, _, ?_, ?_, inv_1 hI k1 k5.1 r2 rfl rfl 7 k a1 (by decide) r1 (hV _ _ _ k _ hk g k3)⟩
        · simp [f_X11_hours, gt_, lt_, nn_, oc_, bd_, kd_si, ln_si, fi_si, fr_si, fl_si, ai_si, ar_si, al_si, ow_si, nx_si, sl_si, kd_sr, ln_sr, fi_sr, fr_sr, fl_sr, ai_sr, ar_sr, al_sr, ow_sr, nx_sr, sl_sr, kd_so, ln_so, fi_so, fr_so, fl_so, ai_so, ar_so, al_so, ow_so, nx_so, sl_so, kd_sa, ln_sa, fi_sa, fr_sa, fl_sa, ai_sa, ar_sa, al_sa, ow_sa, nx_sa, sl_sa, kd_sq, ln_sq, fi_sq, fr_sq, fl_sq, ai_sq, ar_sq, al_sq, ow_sq, nx_sq, sl_sq, kd_sj, ln_sj, fi_sj, fr_sj, fl_sj, ai_sj, ar_sj, al_sj, ow_sj, nx_sj, sl_sj, up2_e, hx, p1, p2, z, k_within, bi_, g, k_allowed]
        · rw [m_hours (mo_bm k1 (z := si_ (si_ c 1100 (ga_ GC 30 k) a1) 1214 x 0) (Nat.le_of_eq k5.1)) hk a1, if_neg (by rw [show ai_ (bm_ m (si_ (si_ c 1100 (ga_ GC 30 k) a1) 1214 x 0)) (ga_ GM 14 0) k = ai_ m (ga_ GM 14 0) k from rfl, z]; simp), if_neg (by simp [g])]
      · refine hno 2 (by decide) ?_ ?_
        · simp [f_X11_hours, gt_, lt_, nn_, oc_, bd_, hx, p1, z, k_within, bi_, g, k_denied]
        · rw [m_hours (mo_bm k1 (z := si_ c 1214 x 2) (Nat.le_of_eq k5.1)) hk a1, if_neg (by rw [show ai_ (bm_ m (si_ c 1214 x 2)) (ga_ GM 14 0) k = ai_ m (ga_ GM 14 0) k from rfl, z]; simp), if_pos g]
    · refine hno 1 (by decide) ?_ ?_
      · simp [f_X11_hours, gt_, lt_, nn_, oc_, bd_, hx, p1, z, k_denied]
      · rw [m_hours (mo_bm k1 (z := si_ c 1214 x 1) (Nat.le_of_eq k5.1)) hk a1, if_pos (show ai_ (bm_ m (si_ c 1214 x 1)) (ga_ GM 14 0) k ≠ 0 from z)]
  · refine hno 1 (by decide) ?_ ?_
    · simp [f_X11_hours, gt_, lt_, nn_, oc_, bd_, hx, k_living0 k2 hN hout, k_denied]
    · have f4 : kd_ (bm_ m (si_ c 1214 x 1)) y = 17 := hy
      have f5 := m_isLiving0 (mo_si (c := 1600) (v := 0) (mo_bm k1 (z := si_ c 1214 x 1) (Nat.le_of_eq k5.1)) (by decide)) hout
      simp [f_X15_hours, gt_, lt_, nn_, oc_, bd_, kd_si, ln_si, fi_si, fr_si, fl_si, ai_si, ar_si, al_si, ow_si, nx_si, sl_si, kd_sr, ln_sr, fi_sr, fr_sr, fl_sr, ai_sr, ar_sr, al_sr, ow_sr, nx_sr, sl_sr, kd_so, ln_so, fi_so, fr_so, fl_so, ai_so, ar_so, al_so, ow_so, nx_so, sl_so, kd_sa, ln_sa, fi_sa, fr_sa, fl_sa, ai_sa, ar_sa, al_sa, ow_sa, nx_sa, sl_sa, kd_sq, ln_sq, fi_sq, fr_sq, fl_sq, ai_sq, ar_sq, al_sq, ow_sq, nx_sq, sl_sq, kd_sj, ln_sj, fi_sj, fr_sj, fl_sj, ai_sj, ar_sj, al_sj, ow_sj, nx_sj, sl_sj, f4, f5, m_denied]
theorem ok_embargo (hPV : pvS_ PV) (hV : ∀ (A : AS) (N : Nat → Nat) (S : Nat → Int32) (k : Nat) (v : Int32), k < N 5 → PV A N → PV (S, up2_ (aV A) 13 k v, A.2.2) N) : St_embargo ka x y (inv_ ka TX PV x y o N0) := fun n c m a0 a1 a2 hn hI => by
  obtain ⟨GC, GM, N, k1, k2, k3, k4, k5, k6, k7, k8⟩ := id hI
  have hx := rc_x k2
  have hy := mo_y k1
  have hN := (mo_n k1 (j := 5) (cj := 1605) (m := 30) (by decide)).2
  rcases rg_ a0 (n := N 5) (by omega) with ⟨k, hk, rfl⟩ | hout
  · obtain ⟨p1, p2⟩ := k_person1 k2 hN hk
    have hc : k < gc_ GC 31 := by
      have := k2.2.2.1
      unfold cg_ at this
      simp only [this]
      exact hk
    obtain ⟨d1, d2, d3⟩ := mo_a k1 (j := 13) (cj := 1613) (K := 20) (n := 30) (by decide)
    have g1 : ¬ nI k < 0 := nI_pos (by omega)
    have g3 : (nI k).toNatClampNeg = k := nI_clamp (by omega)
    have g4 : ¬ 30 ≤ k := by omega
    by_cases g : (0 ≤ a1 ∧ a1 ≤ 3650) ∧ (0 ≤ a2 ∧ a2 ≤ 1439)
    · obtain ⟨r1, r2⟩ := rf_31_307 k2 hc (a1 * 1440 + a2) (1440 * a1 + a2) (by
        obtain ⟨q0, q1, q2, q3, q4, q5, q6, q7, q8, q9, q10, q11, q12, q13, q14⟩ := k2.2.2.2 31 k hc
        refine ⟨q0, q1, q2, q3, q4, q5, q6, ?_, q8, q9, q10, q11, q12, q13, q14⟩
        show up2_ (fi_ c) 307 (ga_ GC 31 k) (a1 * 1440 + a2) 307 (ga_ GC 31 k) = up2_ (aV (as_ m y GM)) 13 k (1440 * a1 + a2) 13 k
        rw [up2_s, up2_s, Int32.mul_comm])
      refine ⟨1, _, _, ?_, ?_, inv_1 hI k1 k5.1 r2 rfl rfl 13 k (1440 * a1 + a2) (by decide) r1 (hV _ _ _ k _ hk k3)⟩
      · simp [f_X11_embargo, f_X11_embargo_b40, gt_, lt_, nn_, oc_, bd_, kd_si, ln_si, fi_si, fr_si, fl_si, ai_si, ar_si, al_si, ow_si, nx_si, sl_si, kd_sr, ln_sr, fi_sr, fr_sr, fl_sr, ai_sr, ar_sr, al_sr, ow_sr, nx_sr, sl_sr, kd_so, ln_so, fi_so, fr_so, fl_so, ai_so, ar_so, al_so, ow_so, nx_so, sl_so, kd_sa, ln_sa, fi_sa, fr_sa, fl_sa, ai_sa, ar_sa, al_sa, ow_sa, nx_sa, sl_sa, kd_sq, ln_sq, fi_sq, fr_sq, fl_sq, ai_sq, ar_sq, al_sq, ow_sq, nx_sq, sl_sq, kd_sj, ln_sj, fi_sj, fr_sj, fl_sj, ai_sj, ar_sj, al_sj, ow_sj, nx_sj, sl_sj, up2_e, hx, p1, p2, g.1, g.2, k_within, bi_, k_allowed]
      · have f1 : fr_ (bm_ m (si_ (si_ c 307 (ga_ GC 31 k) (a1 * 1440 + a2)) 1214 x 0)) 1613 y = some (ga_ GM 13 0) := d1
        have f2 : kd_ (bm_ m (si_ (si_ c 307 (ga_ GC 31 k) (a1 * 1440 + a2)) 1214 x 0)) (ga_ GM 13 0) = 20 := d2
        have f3 : ln_ (bm_ m (si_ (si_ c 307 (ga_ GC 31 k) (a1 * 1440 + a2)) 1214 x 0)) (ga_ GM 13 0) = 30 := d3
        have f4 : kd_ (bm_ m (si_ (si_ c 307 (ga_ GC 31 k) (a1 * 1440 + a2)) 1214 x 0)) y = 17 := hy
        have f5 := m_isPerson1 (mo_si (c := 1600) (v := 0) (mo_bm k1 (z := si_ (si_ c 307 (ga_ GC 31 k) (a1 * 1440 + a2)) 1214 x 0) (Nat.le_of_eq k5.1)) (by decide)) hk
        simp [f_X15_embargo, f_X15_embargo_b41, gt_, lt_, nn_, oc_, bd_, kd_si, ln_si, fi_si, fr_si, fl_si, ai_si, ar_si, al_si, ow_si, nx_si, sl_si, kd_sr, ln_sr, fi_sr, fr_sr, fl_sr, ai_sr, ar_sr, al_sr, ow_sr, nx_sr, sl_sr, kd_so, ln_so, fi_so, fr_so, fl_so, ai_so, ar_so, al_so, ow_so, nx_so, sl_so, kd_sa, ln_sa, fi_sa, fr_sa, fl_sa, ai_sa, ar_sa, al_sa, ow_sa, nx_sa, sl_sa, kd_sq, ln_sq, fi_sq, fr_sq, fl_sq, ai_sq, ar_sq, al_sq, ow_sq, nx_sq, sl_sq, kd_sj, ln_sj, fi_sj, fr_sj, fl_sj, ai_sj, ar_sj, al_sj, ow_sj, nx_sj, sl_sj, up2_e, f1, f2, f3, f4, f5, g1, g3, g4, g.1, g.2, m_in, bi_, m_granted]
    · refine ⟨0, si_ c 1214 x 2, tr_ (si_ (bm_ m (si_ c 1214 x 2)) 1600 y 0) y 2, ?_, ?_, no_ hPV hI 2 (by decide)⟩
      · by_cases h1 : 0 ≤ a1 ∧ a1 ≤ 3650
        · have h2 : ¬ (0 ≤ a2 ∧ a2 ≤ 1439) := fun z => g ⟨h1, z⟩
          simp [f_X11_embargo, f_X11_embargo_b40, gt_, lt_, nn_, oc_, bd_, hx, p1, h1, h2, k_within, bi_, k_denied]
        · simp [f_X11_embargo, f_X11_embargo_b40, gt_, lt_, nn_, oc_, bd_, hx, p1, h1, k_within, bi_, k_denied]
      · have f4 : kd_ (bm_ m (si_ c 1214 x 2)) y = 17 := hy
        have f5 := m_isPerson1 (mo_si (c := 1600) (v := 0) (mo_bm k1 (z := si_ c 1214 x 2) (Nat.le_of_eq k5.1)) (by decide)) hk
        by_cases h1 : 0 ≤ a1 ∧ a1 ≤ 3650
        · have h2 : ¬ (0 ≤ a2 ∧ a2 ≤ 1439) := fun z => g ⟨h1, z⟩
          simp [f_X15_embargo, f_X15_embargo_b41, gt_, lt_, nn_, oc_, bd_, kd_si, ln_si, fi_si, fr_si, fl_si, ai_si, ar_si, al_si, ow_si, nx_si, sl_si, kd_sr, ln_sr, fi_sr, fr_sr, fl_sr, ai_sr, ar_sr, al_sr, ow_sr, nx_sr, sl_sr, kd_so, ln_so, fi_so, fr_so, fl_so, ai_so, ar_so, al_so, ow_so, nx_so, sl_so, kd_sa, ln_sa, fi_sa, fr_sa, fl_sa, ai_sa, ar_sa, al_sa, ow_sa, nx_sa, sl_sa, kd_sq, ln_sq, fi_sq, fr_sq, fl_sq, ai_sq, ar_sq, al_sq, ow_sq, nx_sq, sl_sq, kd_sj, ln_sj, fi_sj, fr_sj, fl_sj, ai_sj, ar_sj, al_sj, ow_sj, nx_sj, sl_sj, f4, f5, h1, h2, m_in, bi_, m_denied]
        · simp [f_X15_embargo, f_X15_embargo_b41, gt_, lt_, nn_, oc_, bd_, kd_si, ln_si, fi_si, fr_si, fl_si, ai_si, ar_si, al_si, ow_si, nx_si, sl_si, kd_sr, ln_sr, fi_sr, fr_sr, fl_sr, ai_sr, ar_sr, al_sr, ow_sr, nx_sr, sl_sr, kd_so, ln_so, fi_so, fr_so, fl_so, ai_so, ar_so, al_so, ow_so, nx_so, sl_so, kd_sa, ln_sa, fi_sa, fr_sa, fl_sa, ai_sa, ar_sa, al_sa, ow_sa, nx_sa, sl_sa, kd_sq, ln_sq, fi_sq, fr_sq, fl_sq, ai_sq, ar_sq, al_sq, ow_sq, nx_sq, sl_sq, kd_sj, ln_sj, fi_sj, fr_sj, fl_sj, ai_sj, ar_sj, al_sj, ow_sj, nx_sj, sl_sj, f4, f5, h1, m_in, bi_, m_denied]
  · refine ⟨0, si_ c 1214 x 1, tr_ (si_ (bm_ m (si_ c 1214 x 1)) 1600 y 0) y 1, ?_, ?_, no_ hPV hI 1 (by decide)⟩
    · simp [f_X11_embargo, gt_, lt_, nn_, oc_, bd_, hx, k_person0 k2 hN hout, k_denied]
    · have f4 : kd_ (bm_ m (si_ c 1214 x 1)) y = 17 := hy
      have f5 := m_isPerson0 (mo_si (c := 1600) (v := 0) (mo_bm k1 (z := si_ c 1214 x 1) (Nat.le_of_eq k5.1)) (by decide)) hout
      simp [f_X15_embargo, gt_, lt_, nn_, oc_, bd_, kd_si, ln_si, fi_si, fr_si, fl_si, ai_si, ar_si, al_si, ow_si, nx_si, sl_si, kd_sr, ln_sr, fi_sr, fr_sr, fl_sr, ai_sr, ar_sr, al_sr, ow_sr, nx_sr, sl_sr, kd_so, ln_so, fi_so, fr_so, fl_so, ai_so, ar_so, al_so, ow_so, nx_so, sl_so, kd_sa, ln_sa, fi_sa, fr_sa, fl_sa, ai_sa, ar_sa, al_sa, ow_sa, nx_sa, sl_sa, kd_sq, ln_sq, fi_sq, fr_sq, fl_sq, ai_sq, ar_sq, al_sq, ow_sq, nx_sq, sl_sq, kd_sj, ln_sj, fi_sj, fr_sj, fl_sj, ai_sj, ar_sj, al_sj, ow_sj, nx_sj, sl_sj, f4, f5, m_denied]
/-- the hour moves on: nobody else looks at it -/
theorem ob_N6 {A : AS} {G : GH} {N : Nat → Nat} {r i : Nat} {m : CE} (v : Nat) (h : ob_ ka TX A G N r i m) : ob_ ka TX A G (fun q => if q = 6 then v else N q) r i m := by
  match r, h with
  | 0, h => exact h
  | 1, h => exact h
  | 2, h => exact h
  | 3, h => exact h
  | 4, h => exact h
  | 5, h => exact h
  | 6, h => exact h
  | 7, h => exact h
  | 8, h => exact h
  | 9, h => exact h
  | 10, h => exact h
  | 11, h => exact h
  | 12, h => exact h
  | 13, h => exact h
  | 14, h => exact h
  | 15, h => exact h
  | 16, h => exact h
  | 17, h => exact h
  | 18, h => exact h
  | 19, h => exact h
  | 20, h => exact h
  | 21, h => exact h
  | 22, h => exact h
  | 23, h => exact h
  | 24, h => exact h
  | 25, h => exact h
  | 26, h => exact h
  | 27, h => exact h
  | 28, h => exact h
  | 29, h => exact h
  | 30, h => exact h
  | 31, h => exact h
  | 32, h => exact h
  | 33, h => exact h
  | 34, h => exact h
  | 35, h => exact h
  | 36, h => exact h
  | 37, h => exact h
  | 38, h => exact h
  | 39, h => exact h
  | 40, h => exact h
  | 41, h => exact h
  | 42, h => exact h
  | 43, h => exact h
  | 44, h => exact h
  | 45, h => exact h
  | 46, h => exact h
  | 47, h => exact h
  | 48, h => exact h
  | 49, h => exact h
  | 50, h => exact h
  | 51, h => exact h
  | 52, h => exact h
  | 53, h => exact h
  | 54, h => exact h
  | 55, h => exact h
  | 56, h => exact h
  | 57, h => exact h
  | 58, h => exact h
  | r + 59, h => exact h
theorem rc_N6 {σ : TH} {G : GH} {A : AS} {N : Nat → Nat} (v : Nat) (h : rc_ ka TX σ x G A N) : rc_ ka TX σ x G A (fun q => if q = 6 then v else N q) := ⟨h.1, h.2.1, h.2.2.1, fun r i hi => ob_N6 v (h.2.2.2 r i hi)⟩
theorem ok_pass (hPV : pvS_ PV) (hV : ∀ (A : AS) (N : Nat → Nat) (S : Nat → Int32) (v : Nat), N 6 ≤ v → v ≤ 5257439 → PV A N → PV (S, A.2) (fun q => if q = 6 then v else N q)) : St_pass ka x y (inv_ ka TX PV x y o N0) := fun n c m a0 hn hI => by
  obtain ⟨GC, GM, N, k1, k2, k3, k4, k5, k6, k7, k8⟩ := id hI
  have hx := rc_x k2
  have hy := mo_y k1
  obtain ⟨e6, hN⟩ := mo_n k1 (j := 6) (cj := 1606) (m := 5257439) (by decide)
  obtain ⟨q0, q1, q2, q3, q4, q5, q6, q7, q8⟩ := rc_f0 k2
  have c6 : fi_ c 1213 x = nI (N 6) := q3.trans e6
  have hno : f_X11_pass c x a0 = some (-1, si_ c 1214 x 2) → f_X15_pass (bm_ m (si_ c 1214 x 2)) y a0 = some (-1, tr_ (si_ (bm_ m (si_ c 1214 x 2)) 1600 y 0) y 2) → ∃ (r : Int32) (c1 m1 : TH), f_X11_pass c x a0 = some (r, c1) ∧ f_X15_pass (bm_ m c1) y a0 = some (r, m1) ∧ wf_ c1 ∧ wf_ m1 ∧ inv_ ka TX PV x y o N0 (n + 1) (bm_ c1 m1) m1 := fun e1 e2 => ⟨_, _, _, e1, e2, no_ hPV hI 2 (by decide)⟩
  have f4 : kd_ (bm_ m (si_ c 1214 x 2)) y = 17 := hy
  have f6 : fi_ (bm_ m (si_ c 1214 x 2)) 1606 y = nI (N 6) := e6
  by_cases g : 1 ≤ a0 ∧ a0 ≤ 100000
  · obtain ⟨k, hk, rfl⟩ := nI_of2 (M := 100000) (n := 100000) (by decide) (fun z => absurd (Int32.lt_of_lt_of_le z (show (0 : Int32) ≤ 1 by decide)) (Int32.not_lt.mpr g.1)) g.2
    have a1 : nI (N 6) + nI k = nI (N 6 + k) := nI_add _ _
    have a2 : nI (N 6 + k) / 1440 = nI ((N 6 + k) / 1440) := by
      rw [show (1440 : Int32) = nI 1440 from rfl, pk_div (Nat.lt_of_le_of_lt (Nat.add_le_add hN hk) (by decide)) (by decide) (by decide)]
    have a3 : N 6 + k < 2 ^ 31 := Nat.lt_of_le_of_lt (Nat.add_le_add hN hk) (by decide)
    by_cases w : N 6 + k ≤ 5257439
    · have w1 : nI ((N 6 + k) / 1440) ≤ 3650 := by
        rw [show (3650 : Int32) = nI 3650 from rfl]
        exact nI_le (Nat.le_trans (Nat.div_le_div_right w) (by decide)) (by decide)
      have w2 : nI (N 6 + k) ≤ 5257439 := by
        rw [show (5257439 : Int32) = nI 5257439 from rfl]
        exact nI_le w (by decide)
      let c1 := si_ (si_ c 1213 x (nI (N 6 + k))) 1214 x 0
      have hb : mo_ (bm_ m c1) y GM N := mo_bm k1 (z := c1) (Nat.le_of_eq k5.1)
      have hm1 : mo_ (si_ (bm_ m c1) 1600 y 0) y GM N := mo_si hb (by decide)
      have hm2 := mo_sn hm1 6 1606 (N 6 + k) (by decide) (by show N 6 + k ≤ 5257439; exact w)
      have wf1 := hb.1.1
      have t1 : f_X11_today (si_ c 1213 x (nI (N 6 + k))) x = some (nI ((N 6 + k) / 1440), si_ c 1213 x (nI (N 6 + k))) := k_today (σ := si_ c 1213 x (nI (N 6 + k))) hx (by rw [fi_si, up2_s]) a3
      have t2 : f_X15_today (si_ (si_ (bm_ m c1) 1600 y 0) 1606 y (nI (N 6 + k))) y = some (nI ((N 6 + k) / 1440), si_ (si_ (bm_ m c1) 1600 y 0) 1606 y (nI (N 6 + k))) := m_today hm2
      refine ⟨nI ((N 6 + k) / 1440), c1, tr_ (si_ (si_ (bm_ m c1) 1600 y 0) 1606 y (nI (N 6 + k))) y 0, ?_, ?_, ?_⟩
      · simp [c1, f_X11_pass, f_X11_pass_b27, gt_, lt_, nn_, oc_, bd_, kd_si, ln_si, fi_si, fr_si, fl_si, ai_si, ar_si, al_si, ow_si, nx_si, sl_si, kd_sr, ln_sr, fi_sr, fr_sr, fl_sr, ai_sr, ar_sr, al_sr, ow_sr, nx_sr, sl_sr, kd_so, ln_so, fi_so, fr_so, fl_so, ai_so, ar_so, al_so, ow_so, nx_so, sl_so, kd_sa, ln_sa, fi_sa, fr_sa, fl_sa, ai_sa, ar_sa, al_sa, ow_sa, nx_sa, sl_sa, kd_sq, ln_sq, fi_sq, fr_sq, fl_sq, ai_sq, ar_sq, al_sq, ow_sq, nx_sq, sl_sq, kd_sj, ln_sj, fi_sj, fr_sj, fl_sj, ai_sj, ar_sj, al_sj, ow_sj, nx_sj, sl_sj, up2_e, k_within, bi_, g, hx, c6, a1, a2, w1, t1, k_granted]
      · have f4' : kd_ (bm_ m c1) y = 17 := hy
        have f6' : fi_ (bm_ m c1) 1606 y = nI (N 6) := e6
        simp [f_X15_pass, f_X15_pass_b28, gt_, lt_, nn_, oc_, bd_, kd_si, ln_si, fi_si, fr_si, fl_si, ai_si, ar_si, al_si, ow_si, nx_si, sl_si, kd_sr, ln_sr, fi_sr, fr_sr, fl_sr, ai_sr, ar_sr, al_sr, ow_sr, nx_sr, sl_sr, kd_so, ln_so, fi_so, fr_so, fl_so, ai_so, ar_so, al_so, ow_so, nx_so, sl_so, kd_sa, ln_sa, fi_sa, fr_sa, fl_sa, ai_sa, ar_sa, al_sa, ow_sa, nx_sa, sl_sa, kd_sq, ln_sq, fi_sq, fr_sq, fl_sq, ai_sq, ar_sq, al_sq, ow_sq, nx_sq, sl_sq, kd_sj, ln_sj, fi_sj, fr_sj, fl_sj, ai_sj, ar_sj, al_sj, ow_sj, nx_sj, sl_sj, up2_e, m_in, bi_, g, f4', f6', a1, w2, t2, m_done]
      · have e : as_ (tr_ (si_ (si_ (bm_ m c1) 1600 y 0) 1606 y (nI (N 6 + k))) y 0) y GM = (s3_ (fun q => if q = 6 then nI (N 6 + k) else aS (as_ m y GM) q) 0, (as_ m y GM).2) := by
          unfold tr_
          rw [as_si _ y GM 2 1602 (-1) rfl, as_si _ y GM 1 1601 0 rfl, as_si _ y GM 6 1606 _ rfl, as_si _ y GM 0 1600 0 rfl]
          refine Prod.ext (funext fun q => ?_) rfl
          show (if q = 2 then -1 else if q = 1 then 0 else if q = 6 then nI (N 6 + k) else if q = 0 then 0 else aS (as_ m y GM) q) = if q = 2 then -1 else if q = 1 then 0 else if q = 0 then 0 else if q = 6 then nI (N 6 + k) else aS (as_ m y GM) q
          by_cases z0 : q = 0
          · subst z0; rfl
          · rw [if_neg z0, if_neg z0]
        refine inv_mk (T := fun q => q = x) (U := fun q => q = y) hI (fq_tr (fq_si k2.1.1 rfl) (fq_si k2.1.1 rfl)) ⟨Nat.le_add_right _ _, Nat.le_add_right _ _⟩ (fq_tr (fq_tr (fq_tr (fq_si wf1 rfl) (fq_si wf1 rfl)) (fq_si wf1 rfl)) (fq_si wf1 rfl)) ⟨Nat.le_add_right _ _, Nat.le_add_right _ _⟩ (GC := GC) (GM := GM) (N := fun q => if q = 6 then N 6 + k else N q) (mo_tr hm2) ?_ ?_
        · rw [e]
          refine rc_N6 _ (rc_up k2 (fq_tr (fq_si k2.1.1 rfl) (fq_si k2.1.1 rfl)) _ ?_ ?_)
          · refine ⟨q0, q1, q2, ?_, ?_, q5, q6, q7, q8⟩
            · show up2_ (up2_ (fi_ c) 1213 x (nI (N 6 + k))) 1214 x 0 1213 x = nI (N 6 + k)
              rw [up2_c (by decide), up2_s]
            · show up2_ (up2_ (fi_ c) 1213 x (nI (N 6 + k))) 1214 x 0 1214 x = 0
              rw [up2_s]
          · obtain ⟨p1, p2, p3, p4, p5, p6, p7⟩ := k2.2.2.2 10 0 (rc_1 k2 (by decide))
            exact ⟨p1, p2, p3, p4, p5, fun z => absurd (show (0 : Int32) = 4 from z) (by decide), fun _ => rfl⟩
        · rw [e]
          exact hV _ _ _ _ (Nat.le_add_right _ _) w k3
    · have w1 : ¬ nI ((N 6 + k) / 1440) ≤ 3650 := by
        rw [show (3650 : Int32) = nI 3650 from rfl]
        refine nI_ge ?_ (Nat.lt_of_le_of_lt (Nat.div_le_self _ _) a3)
        exact (Nat.le_div_iff_mul_le (by decide)).mpr (Nat.not_le.mp w)
      have w2 : ¬ nI (N 6 + k) ≤ 5257439 := by
        rw [show (5257439 : Int32) = nI 5257439 from rfl]
        exact nI_ge (Nat.not_le.mp w) a3
      refine hno ?_ ?_
      · simp [f_X11_pass, f_X11_pass_b27, gt_, lt_, nn_, oc_, bd_, k_within, bi_, g, hx, c6, a1, a2, w1, k_refused]
      · simp [f_X15_pass, f_X15_pass_b28, gt_, lt_, nn_, oc_, bd_, kd_si, ln_si, fi_si, fr_si, fl_si, ai_si, ar_si, al_si, ow_si, nx_si, sl_si, kd_sr, ln_sr, fi_sr, fr_sr, fl_sr, ai_sr, ar_sr, al_sr, ow_sr, nx_sr, sl_sr, kd_so, ln_so, fi_so, fr_so, fl_so, ai_so, ar_so, al_so, ow_so, nx_so, sl_so, kd_sa, ln_sa, fi_sa, fr_sa, fl_sa, ai_sa, ar_sa, al_sa, ow_sa, nx_sa, sl_sa, kd_sq, ln_sq, fi_sq, fr_sq, fl_sq, ai_sq, ar_sq, al_sq, ow_sq, nx_sq, sl_sq, kd_sj, ln_sj, fi_sj, fr_sj, fl_sj, ai_sj, ar_sj, al_sj, ow_sj, nx_sj, sl_sj, up2_e, m_in, bi_, g, f4, f6, a1, w2, m_refused]
  · refine hno ?_ ?_
    · simp [f_X11_pass, f_X11_pass_b27, gt_, lt_, nn_, oc_, bd_, k_within, bi_, g, hx, k_refused]
    · simp [f_X15_pass, f_X15_pass_b28, gt_, lt_, nn_, oc_, bd_, kd_si, ln_si, fi_si, fr_si, fl_si, ai_si, ar_si, al_si, ow_si, nx_si, sl_si, kd_sr, ln_sr, fi_sr, fr_sr, fl_sr, ai_sr, ar_sr, al_sr, ow_sr, nx_sr, sl_sr, kd_so, ln_so, fi_so, fr_so, fl_so, ai_so, ar_so, al_so, ow_so, nx_so, sl_so, kd_sa, ln_sa, fi_sa, fr_sa, fl_sa, ai_sa, ar_sa, al_sa, ow_sa, nx_sa, sl_sa, kd_sq, ln_sq, fi_sq, fr_sq, fl_sq, ai_sq, ar_sq, al_sq, ow_sq, nx_sq, sl_sq, kd_sj, ln_sj, fi_sj, fr_sj, fl_sj, ai_sj, ar_sj, al_sj, ow_sj, nx_sj, sl_sj, m_in, bi_, g, f4, m_refused]
end C49
