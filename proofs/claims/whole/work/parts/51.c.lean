/-! CALLS: used, withdraw. Written by wip/b/mk51.py. -/
section C51
variable {ka : Nat → Nat} {TX : Nat → Nat → (Nat → Int32) → Nat → (Nat → Int32) → Prop} {PV : AS → (Nat → Nat) → Prop} {x y o N0 : Nat}
theorem ob_V68 {A : AS} {G : GH} {N : Nat → Nat} {r i : Nat} {m : CE} (S : Nat → Int32) (i0 : Nat) (v0 : Int32) (h0 : r ≠ 0) (h10 : r ≠ 10) (h41 : r ≠ 41) (h : ob_ ka TX A G N r i m) : ob_ ka TX (S, up2_ (aV A) 68 i0 v0, A.2.2) G N r i m := by
  match r, h with
  | 0, h => exact absurd rfl h0
  | 1, h => exact h
  | 2, h => exact h
  | 3, h => exact h
  | 4, h => exact h
  | 5, h => exact h
  | 6, h => exact h
  | 7, h => exact h
  | 8, h => exact h
  | 9, h => exact h
  | 10, h => exact absurd rfl h10
  | 11, h => exact h
  | 12, h => exact h
  | 13, h => exact h
  | 14, h => exact h
  | 15, h => exact h
  | 16, h => exact h
  | 17, h => exact h
  | 18, h => exact h
  | 19, h => exact h
  | 20, h => exact h
  | 21, h => exact h
  | 22, h => exact h
  | 23, h => exact h
  | 24, h => exact h
  | 25, h => exact h
  | 26, h => exact h
  | 27, h => exact h
  | 28, h => exact h
  | 29, h => exact h
  | 30, h => exact h
  | 31, h => exact h
  | 32, h => exact h
  | 33, h => exact h
  | 34, h => exact h
  | 35, h => exact h
  | 36, h => exact h
  | 37, h => exact h
  | 38, h => exact h
  | 39, h => exact h
  | 40, h => exact h
  | 41, h => exact absurd rfl h41
  | 42, h => exact h
  | 43, h => exact h
  | 44, h => exact h
  | 45, h => exact h
  | 46, h => exact h
  | 47, h => exact h
  | 48, h => exact h
  | 49, h => exact h
  | 50, h => exact h
  | 51, h => exact h
  | 52, h => exact h
  | 53, h => exact h
  | 54, h => exact h
  | 55, h => exact h
  | 56, h => exact h
  | 57, h => exact h
  | 58, h => exact h
  | r + 59, h => exact h
/-- role 41's field 809 and the reference's array 68 -/
theorem rf_41_809 {σ : TH} {G : GH} {A : AS} {N : Nat → Nat} (h : rc_ ka TX σ x G A N) {k : Nat} (hk : k < gc_ G 41) (v w : Int32) (hnew : ob_ ka TX (s3_ (aS A) 0, up2_ (aV A) 68 k w, A.2.2) G N 41 k (ce_ (si_ σ 809 (ga_ G 41 k) v) (ga_ G 41 k))) : rc_ ka TX (si_ (si_ σ 809 (ga_ G 41 k) v) 1214 x 0) x G (s3_ (aS A) 0, up2_ (aV A) 68 k w, A.2.2) N ∧ fq_ (fun q => q = x ∨ q = ga_ G 41 k) σ (si_ (si_ σ 809 (ga_ G 41 k) v) 1214 x 0) := by
  have hf : fq_ (fun q => q = x ∨ q = ga_ G 41 k) σ (si_ (si_ σ 809 (ga_ G 41 k) v) 1214 x 0) := fq_tr (fq_si h.1.1 (Or.inr rfl)) (fq_si h.1.1 (Or.inl rfl))
  have hx0 : ∀ r i, i < gc_ G r → r ≠ 0 → ga_ G r i ≠ x := fun r i hi hr => by rw [← h.2.1.1]; exact sh_ne h.1 hi (rc_1 h (by decide)) (Or.inl hr)
  refine ⟨rc_gen h hf (fun r i => r = 0 ∨ r = 10 ∨ r = 41) (fun r i hi hd hT => ?_) (fun r i mm hi hd h9 => ?_) (fun r i hi hd => ?_), hf⟩
  · rcases hT with z | z
    · exact hx0 r i hi (fun q => hd (Or.inl q)) z
    · exact sh_ne h.1 hi hk (Or.inl (fun q => hd (Or.inr (Or.inr q)))) z
  · exact ob_V68 _ k w (fun q => hd (Or.inl q)) (fun q => hd (Or.inr (Or.inl q))) (fun q => hd (Or.inr (Or.inr q))) h9
  · rcases hd with rfl | rfl | rfl
    · rw [g0_ h (by decide) hi, h.2.1.1]
      refine ob_0 h 0 _ _ rfl (fun c c1 => ?_) ?_
      · rw [xi_ce, fi_si, up2_c c1, fi_si]
        exact (by
          by_cases e : c = 809
          · subst e; exact up2_n (hx0 41 k hk (by decide)).symm
          · exact congrFun (up2_c e) x)
      · rw [xi_ce, fi_si, up2_s]
    · rw [g0_ h (by decide) hi]
      have : ce_ (si_ (si_ σ 809 (ga_ G 41 k) v) 1214 x 0) (ga_ G 10 0) = ce_ σ (ga_ G 10 0) := by
        rw [ce_si (hx0 10 0 (rc_1 h (by decide)) (by decide)), ce_si (sh_ne h.1 (rc_1 h (by decide)) hk (Or.inl (by decide)))]
      rw [this]
      exact ob_10 h 0 (by decide) _
    · rw [ce_si (hx0 41 i hi (by decide))]
      by_cases hik : i = k
      · subst hik
        exact hnew
      · rw [ce_si (sh_ne h.1 hi hk (Or.inr hik))]
        obtain ⟨q0, q1, q2, q3, q4, q5, q6, q7, q8, q9⟩ := h.2.2.2 41 i hi
        exact ⟨q0, q1, q2, q3, q4, q5, q6, q7, by rw [show aV (s3_ (aS A) 0, up2_ (aV A) 68 k w, A.2.2) 68 i = aV A 68 i from up2_n hik]; exact q8, by rw [show aV (s3_ (aS A) 0, up2_ (aV A) 68 k w, A.2.2) 68 i = aV A 68 i from up2_n hik]; exact q9⟩
theorem ok_used (hPV : pvS_ PV) : St_used ka x y (inv_ ka TX PV x y o N0) := fun n c m a0 hn hI => by
  obtain ⟨GC, GM, N, k1, k2, k3, k4, k5, k6, k7, k8⟩ := id hI
  have hx := rc_x k2
  have hy0 := mo_y k1
  have hy : kd_ (bm_ m c) y = 17 := hy0
  obtain ⟨e9, hN⟩ := mo_n k1 (j := 69) (cj := 1669) (m := 40) (by decide)
  have f9 : fi_ (bm_ m c) 1669 y = nI (N 69) := e9
  obtain ⟨e1, e2⟩ := rc_r1204 k2
  have hl := rc_l5 k2 (by omega)
  have l1 := l_size hl
  rcases rg_ a0 (n := N 69) (by omega) with ⟨k, hk, rfl⟩ | hout
  · have l2 := l_get hl hk
    have hc : k < gc_ GC 44 := by
      have := k2.2.2.1
      unfold cg_ at this
      simp only [this]
      exact hk
    have hkd : kd_ c (ga_ GC 44 k) = 5 := (k2.1.2 44 k hc).1
    obtain ⟨-, -, -, -, -, q⟩ := k2.2.2.2 44 k hc
    have q' : fi_ c 405 (ga_ GC 44 k) = ai_ m (ga_ GM 77 0) k := by
      have v : aV (as_ m y GM) 77 k = ai_ m (ga_ GM 77 0) k := congrFun (as_V (by decide)) k
      rw [← v]; exact q
    obtain ⟨d1, d2, d3⟩ := mo_a k1 (j := 77) (cj := 1677) (K := 20) (n := 40) (by decide)
    have f1 : fr_ (bm_ m c) 1677 y = some (ga_ GM 77 0) := d1
    have f2 : kd_ (bm_ m c) (ga_ GM 77 0) = 20 := d2
    have f3 : ln_ (bm_ m c) (ga_ GM 77 0) = 40 := d3
    have f5 : ai_ (bm_ m c) (ga_ GM 77 0) k = ai_ m (ga_ GM 77 0) k := rfl
    have g1 : ¬ nI k < 0 := nI_pos (by omega)
    have g2 : ¬ nI (N 69) ≤ nI k := nI_ge hk (by omega)
    have g3 : (nI k).toNatClampNeg = k := nI_clamp (by omega)
    have g4 : ¬ 40 ≤ k := by omega
    have g := rg_in hk (show N 69 < 2 ^ 31 by omega)
    refine ⟨ai_ m (ga_ GM 77 0) k, c, si_ (bm_ m c) 1600 y 0, ?_, ?_, ask_ hI hPV⟩
    · simp [f_X11_used, gt_, lt_, nn_, oc_, bd_, hx, e1, e2, l1, l2, k_within, bi_, g, hkd, q']
    · simp [f_X15_used, f_X15_used_b26, f_X15_used_b27, gt_, lt_, nn_, oc_, bd_, kd_si, ln_si, fi_si, fr_si, fl_si, ai_si, ar_si, al_si, ow_si, nx_si, sl_si, kd_sr, ln_sr, fi_sr, fr_sr, fl_sr, ai_sr, ar_sr, al_sr, ow_sr, nx_sr, sl_sr, kd_so, ln_so, fi_so, fr_so, fl_so, ai_so, ar_so, al_so, ow_so, nx_so, sl_so, kd_sa, ln_sa, fi_sa, fr_sa, fl_sa, ai_sa, ar_sa, al_sa, ow_sa, nx_sa, sl_sa, kd_sq, ln_sq, fi_sq, fr_sq, fl_sq, ai_sq, ar_sq, al_sq, ow_sq, nx_sq, sl_sq, kd_sj, ln_sj, fi_sj, fr_sj, fl_sj, ai_sj, ar_sj, al_sj, ow_sj, nx_sj, sl_sj, up2_e, hy, f9, f1, f2, f3, f5, g1, g2, g3, g4]
  · have g := rg_out (show N 69 < 2 ^ 31 by omega) hout
    refine ⟨-1, c, si_ (bm_ m c) 1600 y 0, ?_, ?_, ask_ hI hPV⟩
    · simp [f_X11_used, gt_, lt_, nn_, oc_, bd_, hx, e1, e2, l1, k_within, bi_, g]
    · by_cases g1 : a0 < 0
      · simp [f_X15_used, f_X15_used_b26, f_X15_used_b27, gt_, lt_, nn_, oc_, bd_, kd_si, ln_si, fi_si, fr_si, fl_si, ai_si, ar_si, al_si, ow_si, nx_si, sl_si, kd_sr, ln_sr, fi_sr, fr_sr, fl_sr, ai_sr, ar_sr, al_sr, ow_sr, nx_sr, sl_sr, kd_so, ln_so, fi_so, fr_so, fl_so, ai_so, ar_so, al_so, ow_so, nx_so, sl_so, kd_sa, ln_sa, fi_sa, fr_sa, fl_sa, ai_sa, ar_sa, al_sa, ow_sa, nx_sa, sl_sa, kd_sq, ln_sq, fi_sq, fr_sq, fl_sq, ai_sq, ar_sq, al_sq, ow_sq, nx_sq, sl_sq, kd_sj, ln_sj, fi_sj, fr_sj, fl_sj, ai_sj, ar_sj, al_sj, ow_sj, nx_sj, sl_sj, up2_e, hy, g1]
      · have g2 := hout.resolve_left g1
        simp [f_X15_used, f_X15_used_b26, f_X15_used_b27, gt_, lt_, nn_, oc_, bd_, kd_si, ln_si, fi_si, fr_si, fl_si, ai_si, ar_si, al_si, ow_si, nx_si, sl_si, kd_sr, ln_sr, fi_sr, fr_sr, fl_sr, ai_sr, ar_sr, al_sr, ow_sr, nx_sr, sl_sr, kd_so, ln_so, fi_so, fr_so, fl_so, ai_so, ar_so, al_so, ow_so, nx_so, sl_so, kd_sa, ln_sa, fi_sa, fr_sa, fl_sa, ai_sa, ar_sa, al_sa, ow_sa, nx_sa, sl_sa, kd_sq, ln_sq, fi_sq, fr_sq, fl_sq, ai_sq, ar_sq, al_sq, ow_sq, nx_sq, sl_sq, kd_sj, ln_sj, fi_sj, fr_sj, fl_sj, ai_sj, ar_sj, al_sj, ow_sj, nx_sj, sl_sj, up2_e, hy, f9, g1, g2]
theorem ok_withdraw (hPV : pvS_ PV) (hV : ∀ (A : AS) (N : Nat → Nat) (S : Nat → Int32) (k : Nat), k < N 59 → PV A N → PV (S, up2_ (aV A) 68 k 1, A.2.2) N) : St_withdraw ka x y (inv_ ka TX PV x y o N0) := fun n c m a0 hn hI => by
  obtain ⟨GC, GM, N, k1, k2, k3, k4, k5, k6, k7, k8⟩ := id hI
  have hx := rc_x k2
  have hy := mo_y k1
  obtain ⟨e9, hN⟩ := mo_n k1 (j := 59) (cj := 1659) (m := 120) (by decide)
  obtain ⟨e1, e2⟩ := rc_r1203 k2
  have hl := rc_l4 k2 (by omega)
  have l1 := l_size hl
  have nar1 : vp_nar .boolean (1 : Int32) = 1 := rfl
  rcases rg_ a0 (n := N 59) (by omega) with ⟨k, hk, rfl⟩ | hout
  · have l2 := l_get hl hk
    have hc : k < gc_ GC 41 := by
      have := k2.2.2.1
      unfold cg_ at this
      simp only [this]
      exact hk
    have hkd : kd_ c (ga_ GC 41 k) = 9 := (k2.1.2 41 k hc).1
    obtain ⟨q0, q1, q2, q3, q4, q5, q6, q7, q8, q9⟩ := k2.2.2.2 41 k hc
    have v : aV (as_ m y GM) 68 k = ai_ m (ga_ GM 68 0) k := congrFun (as_V (by decide)) k
    have q8' : fi_ c 809 (ga_ GC 41 k) = ai_ m (ga_ GM 68 0) k := by rw [← v]; exact q8
    obtain ⟨d1, d2, d3⟩ := mo_a k1 (j := 68) (cj := 1668) (K := 22) (n := 120) (by decide)
    have g1 : ¬ nI k < 0 := nI_pos (by omega)
    have g2 : nI k < nI (N 59) := nI_lt hk (by omega)
    have g3 : (nI k).toNatClampNeg = k := nI_clamp (by omega)
    have g4 : ¬ 120 ≤ k := by omega
    have g := rg_in hk (show N 59 < 2 ^ 31 by omega)
    by_cases z : ai_ m (ga_ GM 68 0) k = 0
    · obtain ⟨r1, r2⟩ := rf_41_809 k2 hc 1 1 (by
        refine ⟨q0, q1, q2, q3, q4, q5, q6, q7, ?_, ?_⟩
        · show up2_ (fi_ c) 809 (ga_ GC 41 k) 1 809 (ga_ GC 41 k) = up2_ (aV (as_ m y GM)) 68 k 1 68 k
          rw [up2_s, up2_s]
        · show up2_ (aV (as_ m y GM)) 68 k 1 68 k = 0 ∨ up2_ (aV (as_ m y GM)) 68 k 1 68 k = 1
          rw [up2_s]; exact Or.inr rfl)
      refine ⟨1, _, _, ?_, ?_, inv_1 hI k1 k5.1 r2 rfl rfl 68 k 1 (by decide) r1 (hV _ _ _ k hk k3)⟩
      · simp [f_X11_withdraw, gt_, lt_, nn_, oc_, bd_, kd_si, ln_si, fi_si, fr_si, fl_si, ai_si, ar_si, al_si, ow_si, nx_si, sl_si, kd_sr, ln_sr, fi_sr, fr_sr, fl_sr, ai_sr, ar_sr, al_sr, ow_sr, nx_sr, sl_sr, kd_so, ln_so, fi_so, fr_so, fl_so, ai_so, ar_so, al_so, ow_so, nx_so, sl_so, kd_sa, ln_sa, fi_sa, fr_sa, fl_sa, ai_sa, ar_sa, al_sa, ow_sa, nx_sa, sl_sa, kd_sq, ln_sq, fi_sq, fr_sq, fl_sq, ai_sq, ar_sq, al_sq, ow_sq, nx_sq, sl_sq, kd_sj, ln_sj, fi_sj, fr_sj, fl_sj, ai_sj, ar_sj, al_sj, ow_sj, nx_sj, sl_sj, up2_e, hx, e1, e2, l1, l2, k_within, bi_, g, hkd, q8', z, k_allowed]
      · have f1 : fr_ (bm_ m (si_ (si_ c 809 (ga_ GC 41 k) 1) 1214 x 0)) 1668 y = some (ga_ GM 68 0) := d1
        have f2 : kd_ (bm_ m (si_ (si_ c 809 (ga_ GC 41 k) 1) 1214 x 0)) (ga_ GM 68 0) = 22 := d2
        have f3 : ln_ (bm_ m (si_ (si_ c 809 (ga_ GC 41 k) 1) 1214 x 0)) (ga_ GM 68 0) = 120 := d3
        have f4 : kd_ (bm_ m (si_ (si_ c 809 (ga_ GC 41 k) 1) 1214 x 0)) y = 17 := hy
        have f5 : ai_ (bm_ m (si_ (si_ c 809 (ga_ GC 41 k) 1) 1214 x 0)) (ga_ GM 68 0) k = 0 := z
        have f6 : fi_ (bm_ m (si_ (si_ c 809 (ga_ GC 41 k) 1) 1214 x 0)) 1659 y = nI (N 59) := e9
        simp [f_X15_withdraw, f_X15_withdraw_b17, gt_, lt_, nn_, oc_, bd_, kd_si, ln_si, fi_si, fr_si, fl_si, ai_si, ar_si, al_si, ow_si, nx_si, sl_si, kd_sr, ln_sr, fi_sr, fr_sr, fl_sr, ai_sr, ar_sr, al_sr, ow_sr, nx_sr, sl_sr, kd_so, ln_so, fi_so, fr_so, fl_so, ai_so, ar_so, al_so, ow_so, nx_so, sl_so, kd_sa, ln_sa, fi_sa, fr_sa, fl_sa, ai_sa, ar_sa, al_sa, ow_sa, nx_sa, sl_sa, kd_sq, ln_sq, fi_sq, fr_sq, fl_sq, ai_sq, ar_sq, al_sq, ow_sq, nx_sq, sl_sq, kd_sj, ln_sj, fi_sj, fr_sj, fl_sj, ai_sj, ar_sj, al_sj, ow_sj, nx_sj, sl_sj, up2_e, f1, f2, f3, f4, f5, f6, g1, g2, g3, g4, m_granted, nar1]
    · refine ⟨0, si_ c 1214 x 5, tr_ (si_ (bm_ m (si_ c 1214 x 5)) 1600 y 0) y 5, ?_, ?_, no_ hPV hI 5 (by decide)⟩
      · simp [f_X11_withdraw, gt_, lt_, nn_, oc_, bd_, hx, e1, e2, l1, l2, k_within, bi_, g, hkd, q8', z, k_denied]
      · have f1 : fr_ (bm_ m (si_ c 1214 x 5)) 1668 y = some (ga_ GM 68 0) := d1
        have f2 : kd_ (bm_ m (si_ c 1214 x 5)) (ga_ GM 68 0) = 22 := d2
        have f3 : ln_ (bm_ m (si_ c 1214 x 5)) (ga_ GM 68 0) = 120 := d3
        have f4 : kd_ (bm_ m (si_ c 1214 x 5)) y = 17 := hy
        have f5 : ¬ ai_ (bm_ m (si_ c 1214 x 5)) (ga_ GM 68 0) k = 0 := z
        have f6 : fi_ (bm_ m (si_ c 1214 x 5)) 1659 y = nI (N 59) := e9
        simp [f_X15_withdraw, f_X15_withdraw_b17, gt_, lt_, nn_, oc_, bd_, kd_si, ln_si, fi_si, fr_si, fl_si, ai_si, ar_si, al_si, ow_si, nx_si, sl_si, kd_sr, ln_sr, fi_sr, fr_sr, fl_sr, ai_sr, ar_sr, al_sr, ow_sr, nx_sr, sl_sr, kd_so, ln_so, fi_so, fr_so, fl_so, ai_so, ar_so, al_so, ow_so, nx_so, sl_so, kd_sa, ln_sa, fi_sa, fr_sa, fl_sa, ai_sa, ar_sa, al_sa, ow_sa, nx_sa, sl_sa, kd_sq, ln_sq, fi_sq, fr_sq, fl_sq, ai_sq, ar_sq, al_sq, ow_sq, nx_sq, sl_sq, kd_sj, ln_sj, fi_sj, fr_sj, fl_sj, ai_sj, ar_sj, al_sj, ow_sj, nx_sj, sl_sj, up2_e, f1, f2, f3, f4, f5, f6, g1, g2, g3, g4, m_denied]
  · have g := rg_out (show N 59 < 2 ^ 31 by omega) hout
    have f4 : kd_ (bm_ m (si_ c 1214 x 1)) y = 17 := hy
    have f6 : fi_ (bm_ m (si_ c 1214 x 1)) 1659 y = nI (N 59) := e9
    refine ⟨0, si_ c 1214 x 1, tr_ (si_ (bm_ m (si_ c 1214 x 1)) 1600 y 0) y 1, ?_, ?_, no_ hPV hI 1 (by decide)⟩
    · simp [f_X11_withdraw, gt_, lt_, nn_, oc_, bd_, hx, e1, e2, l1, k_within, bi_, g, k_denied]
    · by_cases g1 : a0 < 0
      · simp [f_X15_withdraw, f_X15_withdraw_b17, gt_, lt_, nn_, oc_, bd_, kd_si, ln_si, fi_si, fr_si, fl_si, ai_si, ar_si, al_si, ow_si, nx_si, sl_si, kd_sr, ln_sr, fi_sr, fr_sr, fl_sr, ai_sr, ar_sr, al_sr, ow_sr, nx_sr, sl_sr, kd_so, ln_so, fi_so, fr_so, fl_so, ai_so, ar_so, al_so, ow_so, nx_so, sl_so, kd_sa, ln_sa, fi_sa, fr_sa, fl_sa, ai_sa, ar_sa, al_sa, ow_sa, nx_sa, sl_sa, kd_sq, ln_sq, fi_sq, fr_sq, fl_sq, ai_sq, ar_sq, al_sq, ow_sq, nx_sq, sl_sq, kd_sj, ln_sj, fi_sj, fr_sj, fl_sj, ai_sj, ar_sj, al_sj, ow_sj, nx_sj, sl_sj, up2_e, f4, g1, m_denied]
      · have g2 : ¬ a0 < nI (N 59) := fun z => absurd z (Int32.not_lt.mpr (hout.resolve_left g1))
        simp [f_X15_withdraw, f_X15_withdraw_b17, gt_, lt_, nn_, oc_, bd_, kd_si, ln_si, fi_si, fr_si, fl_si, ai_si, ar_si, al_si, ow_si, nx_si, sl_si, kd_sr, ln_sr, fi_sr, fr_sr, fl_sr, ai_sr, ar_sr, al_sr, ow_sr, nx_sr, sl_sr, kd_so, ln_so, fi_so, fr_so, fl_so, ai_so, ar_so, al_so, ow_so, nx_so, sl_so, kd_sa, ln_sa, fi_sa, fr_sa, fl_sa, ai_sa, ar_sa, al_sa, ow_sa, nx_sa, sl_sa, kd_sq, ln_sq, fi_sq, fr_sq, fl_sq, ai_sq, ar_sq, al_sq, ow_sq, nx_sq, sl_sq, kd_sj, ln_sj, fi_sj, fr_sj, fl_sj, ai_sj, ar_sj, al_sj, ow_sj, nx_sj, sl_sj, up2_e, f4, f6, g1, g2, m_denied]
end C51
