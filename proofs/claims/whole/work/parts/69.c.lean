/-! CALLS: rumour. Written by wip/b/mk69.py. -/
section MR69
variable {σ τ : TH} {y : Nat} {G : GH} {A : AS} {V : Nat → Nat → Int32} {N : Nat → Nat}
theorem m_rt (h : md_ σ τ y G A V N) {r : Nat} (hr : r < 120) {j M : Nat} (hj : j < 3) (hM : j < M) (hM3 : M ≤ 3) (a3 a4 a5 a6 a7 a8 : Int32) (f : Nat) : ∃ τ1, f_X15_rumour_b235 (f + 1) τ y a3 a4 a5 a6 a7 a8 (nI M) (nI r) (nI j) = f_X15_rumour_b235 f τ1 y a3 a4 a5 a6 a7 a8 (nI M) (nI r) (nI (j + 1)) ∧ md_ σ τ1 y G A (up2_ (up2_ V 66 (3 * r + j) (if j = 0 then a3 else if j = 1 then a5 else a7)) 67 (3 * r + j) (if j = 0 then a4 else if j = 1 then a6 else a8)) N := by
  have hy := mo_y h.1.1
  obtain ⟨a66, b66, c66⟩ := mo_a h.1.1 (j := 66) (cj := 1666) (K := 20) (n := 360) (by decide)
  obtain ⟨a67, b67, c67⟩ := mo_a h.1.1 (j := 67) (cj := 1667) (K := 20) (n := 360) (by decide)
  have g0 : ¬ nI M ≤ nI j := nI_ge hM (by omega)
  have g1 : ¬ nI (3 * r + j) < 0 := nI_pos (by omega)
  have g3 : (nI (3 * r + j)).toNatClampNeg = (3 * r + j) := nI_clamp (by omega)
  have g4 : ¬ 360 ≤ (3 * r + j) := by omega
  refine ⟨_, ?_, md_sa (md_sa h (j := 66) (by decide) (3 * r + j) (if j = 0 then a3 else if j = 1 then a5 else a7)) (j := 67) (by decide) (3 * r + j) (if j = 0 then a4 else if j = 1 then a6 else a8)⟩
  have z0 : nI 0 = 0 := rfl
  have z1 : nI 1 = 1 := rfl
  have z2 : nI 2 = 2 := rfl
  rcases lt3_ hj with rfl | rfl | rfl
  · rw [z0] at g0
    have e3 := three_ (r := r) (j := 0)
    rw [z0] at e3
    simp [f_X15_rumour_b235, f_X15_rumour_b276, f_X15_rumour_b311, gt_, lt_, nn_, oc_, bd_, kd_si, ln_si, fi_si, fr_si, fl_si, ai_si, ar_si, al_si, ow_si, nx_si, sl_si, kd_sr, ln_sr, fi_sr, fr_sr, fl_sr, ai_sr, ar_sr, al_sr, ow_sr, nx_sr, sl_sr, kd_so, ln_so, fi_so, fr_so, fl_so, ai_so, ar_so, al_so, ow_so, nx_so, sl_so, kd_sa, ln_sa, fi_sa, fr_sa, fl_sa, ai_sa, ar_sa, al_sa, ow_sa, nx_sa, sl_sa, kd_sq, ln_sq, fi_sq, fr_sq, fl_sq, ai_sq, ar_sq, al_sq, ow_sq, nx_sq, sl_sq, kd_sj, ln_sj, fi_sj, fr_sj, fl_sj, ai_sj, ar_sj, al_sj, ow_sj, nx_sj, sl_sj, hy, a66, b66, c66, a67, b67, c67, z0, g0, e3, g1, g3, g4, z1]
    simp [← nI_1, z0] at *
    simp [g1, g3, g4]
  · rw [z1] at g0
    have e3 := three_ (r := r) (j := 1)
    rw [z1] at e3
    simp [f_X15_rumour_b235, f_X15_rumour_b276, f_X15_rumour_b311, gt_, lt_, nn_, oc_, bd_, kd_si, ln_si, fi_si, fr_si, fl_si, ai_si, ar_si, al_si, ow_si, nx_si, sl_si, kd_sr, ln_sr, fi_sr, fr_sr, fl_sr, ai_sr, ar_sr, al_sr, ow_sr, nx_sr, sl_sr, kd_so, ln_so, fi_so, fr_so, fl_so, ai_so, ar_so, al_so, ow_so, nx_so, sl_so, kd_sa, ln_sa, fi_sa, fr_sa, fl_sa, ai_sa, ar_sa, al_sa, ow_sa, nx_sa, sl_sa, kd_sq, ln_sq, fi_sq, fr_sq, fl_sq, ai_sq, ar_sq, al_sq, ow_sq, nx_sq, sl_sq, kd_sj, ln_sj, fi_sj, fr_sj, fl_sj, ai_sj, ar_sj, al_sj, ow_sj, nx_sj, sl_sj, hy, a66, b66, c66, a67, b67, c67, z1, g0, e3, g1, g3, g4, z2]
  · rw [z2] at g0
    have e3 := three_ (r := r) (j := 2)
    rw [z2] at e3
    simp [f_X15_rumour_b235, f_X15_rumour_b276, f_X15_rumour_b311, gt_, lt_, nn_, oc_, bd_, kd_si, ln_si, fi_si, fr_si, fl_si, ai_si, ar_si, al_si, ow_si, nx_si, sl_si, kd_sr, ln_sr, fi_sr, fr_sr, fl_sr, ai_sr, ar_sr, al_sr, ow_sr, nx_sr, sl_sr, kd_so, ln_so, fi_so, fr_so, fl_so, ai_so, ar_so, al_so, ow_so, nx_so, sl_so, kd_sa, ln_sa, fi_sa, fr_sa, fl_sa, ai_sa, ar_sa, al_sa, ow_sa, nx_sa, sl_sa, kd_sq, ln_sq, fi_sq, fr_sq, fl_sq, ai_sq, ar_sq, al_sq, ow_sq, nx_sq, sl_sq, kd_sj, ln_sj, fi_sj, fr_sj, fl_sj, ai_sj, ar_sj, al_sj, ow_sj, nx_sj, sl_sj, hy, a66, b66, c66, a67, b67, c67, z2, g0, e3, g1, g3, g4, show nI 3 = 3 from rfl]
theorem m_re (h : md_ σ τ y G A V N) (r : Int32) (M : Nat) (hM : M ≤ 3) (a3 a4 a5 a6 a7 a8 : Int32) (f : Nat) : f_X15_rumour_b235 (f + 1) τ y a3 a4 a5 a6 a7 a8 (nI M) r (nI M) = some (r, tr_ τ y 0) := by
  have hy := mo_y h.1.1
  have g0 : nI M ≤ nI M := nI_le (Nat.le_refl _) (by omega)
  simp [f_X15_rumour_b235, gt_, lt_, nn_, oc_, bd_, hy, g0, m_done hy]
end MR69
section C69
variable {ka : Nat → Nat} {TX : Nat → Nat → (Nat → Int32) → Nat → (Nat → Int32) → Prop} {x y o N0 : Nat}
theorem ok_rumour : St_rumour ka x y (inv_ ka TX pv_ x y o N0) := fun n c m a0 a1 a2 a3 a4 a5 a6 a7 a8 hn hI => by
  obtain ⟨GC, GM, N, k1, k2, k3, k4, k5, k6, k7, k8⟩ := id hI
  have hN := (mo_n k1 (j := 5) (cj := 1605) (m := 30) (by decide)).2
  obtain ⟨e6, hN6⟩ := mo_n k1 (j := 6) (cj := 1606) (m := 5257439) (by decide)
  have hb : mr_ (bm_ m c) y GM (as_ m y GM) N := mr_bm (mr_of k1) (Nat.le_of_eq k5.1)
  have hx := rc_x k2
  obtain ⟨e59, hN59⟩ := mo_n k1 (j := 59) (cj := 1659) (m := 120) (by decide)
  have n0 : kd_ c (nx_ c) = 0 := wf_0 k2.1.1 (Nat.le_refl _)
  have q13 : fi_ c 1213 x = nI (N 6) := (rc_f0 k2).2.2.2.1.trans e6
  have hxn : x ≠ nx_ c := Nat.ne_of_lt (kd_ltn k2.1.1 hx (by decide))
  have q13n : fi_ (nw_ c 9 0 10) 1213 x = nI (N 6) := by rw [fi_nwn hxn]; exact q13
  have kh := k_heard k2 e6 hN6 a1 a2
  by_cases z : (0 ≤ a0 ∧ a0 ≤ 99) ∧ (0 ≤ a1 ∧ a1 ≤ nI (td_ N)) ∧ (0 ≤ a2 ∧ a2 ≤ 4)
  · obtain ⟨z0, z1, z2⟩ := z
    rw [bi_t ⟨z1, z2⟩] at kh
    obtain ⟨s0, hin, hr0⟩ := mk_report k2.1.1 (-1) a0 a1 a2 (nI (N 6))
    have n0' := n0
    by_cases e0 : a3 = -1
    · skip
      obtain ⟨s1, t1, hr1⟩ := hr_tell0 hr0 (Or.inl rfl) (k := a3) (v := a4) (Or.inr e0)
      obtain ⟨s2, t2, hr2⟩ := hr_tell0 hr1 (Or.inr rfl) (k := a5) (v := a6) (Or.inl (by decide))
      obtain ⟨s3, t3, hr3⟩ := hr_tell0 hr2 (Or.inr rfl) (k := a7) (v := a8) (Or.inl (by decide))
      have hc : ∀ r, f_X11_keepReport ka s3 x (some (nx_ c)) = some r → f_X11_rumour ka c x a0 a1 a2 a3 a4 a5 a6 a7 a8 = some r := fun r h9 => by
        have hx3 := fq_kd hr3.1 hx (by decide)
        unfold f_X11_rumour
        rw [k_within, bd_s, bi_t z0, if_neg (by decide), gt_t hx, kh, bd_s, if_neg (by decide), gt_t n0', lt_e, lt_e, lt_e, q13n, hin, bd_s, t1, bd_s, if_neg (by decide), t2, bd_s, if_neg (by decide), t3, bd_s, if_neg (by decide)]
        unfold f_X11_rumour_b83
        rw [if_neg (by decide), gt_t hx3, h9]
        obtain ⟨r1, r2⟩ := r
        rfl
      have href : ∀ cc : TH, ∀ h1 : mr_ (si_ (bm_ m cc) 1600 y 0) y GM (as_ m y GM) N, f_X15_rumour (bm_ m cc) y a0 a1 a2 a3 a4 a5 a6 a7 a8 = f_X15_rumour_b194 (si_ (bm_ m cc) 1600 y 0) y a0 a1 a2 a3 a4 a5 a6 a7 a8 (nI 0) 1 := fun cc h1 => by
        unfold f_X15_rumour
        rw [gt_t (mo_yb k1), lt_e]
        generalize si_ (bm_ m cc) 1600 y 0 = σ at h1 ⊢
        have hy := mo_y h1.1
        simp [f_X15_rumour_b36, f_X15_rumour_b73, f_X15_rumour_b74, f_X15_rumour_b109, f_X15_rumour_b113, f_X15_rumour_b114, f_X15_rumour_b149, f_X15_rumour_b153, f_X15_rumour_b154, f_X15_rumour_b189, f_X15_rumour_b193, gt_, lt_, nn_, oc_, bd_, m_in, m_isKind, m_today2 h1, hy, bi_, z0, z1, z2, e0]
        rfl
      by_cases hf : N 59 = 120
      · refine ⟨-1, si_ s3 1214 x 3, tr_ (si_ (bm_ m (si_ s3 1214 x 3)) 1600 y 0) y 3, hc _ (keep_no k2 hr3.1 hf _), ?_, no9_ hI hr3.1 (by have := hr3.2.2.2.2.2.2; omega) 3 (by decide)⟩
        have h1 := mr_si (mr_bm (z := si_ s3 1214 x 3) (mr_of k1) (by rw [k5.1]; exact hr3.1.1.1)) (j := 0) (c := 1600) (by decide) 0
        rw [href _ h1]
        generalize si_ (bm_ m (si_ s3 1214 x 3)) 1600 y 0 = σ at h1 ⊢
        have ec := (mo_n h1.1 (j := 59) (cj := 1659) (m := 120) (by decide)).1
        rw [hf] at ec
        simp [f_X15_rumour_b194, gt_, lt_, nn_, oc_, bd_, ec, show nI 120 = 120 from rfl, mo_y h1.1, m_refused (mo_y h1.1)]
      · have hlt : N 59 < 120 := by omega
        obtain ⟨τ, kk, hnx, hfin⟩ := keep_ok hI k1 k2 k3 hr3 hlt
        have h0 := mr_bm (z := si_ τ 1214 x 0) (mr_of k1) (by rw [k5.1]; exact hnx)
        have h1 := mr_si h0 (j := 0) (c := 1600) (by decide) 0
        obtain ⟨ρ, hrep, hmd⟩ := m_reported h1 hlt (-1) a0 a1 a2
        have hm2 := mr_sn hmd.1 59 1659 (N 59 + 1) (by decide) (by show N 59 + 1 ≤ 120; omega)
        have md0 := md_0 hm2
        have hrt : f_X15_rumour_b235 fu_ (si_ ρ 1659 y (nI (N 59 + 1))) y a3 a4 a5 a6 a7 a8 (nI 0) (nI (N 59)) 0 = some (nI (N 59), tr_ (si_ ρ 1659 y (nI (N 59 + 1))) y 0) := by
          rw [show fu_ = 39999 + 1 from rfl, show (0 : Int32) = nI 0 from rfl]
          exact m_re md0 (nI (N 59)) 0 (by decide) a3 a4 a5 a6 a7 a8 39999
        obtain ⟨m1, hm1⟩ : ∃ m1, m1 = tr_ (si_ ρ 1659 y (nI (N 59 + 1))) y 0 := ⟨_, rfl⟩
        have g1 : f_X15_rumour (bm_ m (si_ τ 1214 x 0)) y a0 a1 a2 a3 a4 a5 a6 a7 a8 = some (nI (N 59), m1) := by
          rw [hm1, href _ h1]
          generalize si_ (bm_ m (si_ τ 1214 x 0)) 1600 y 0 = σ at h1 hrep ⊢
          have ec := (mo_n h1.1 (j := 59) (cj := 1659) (m := 120) (by decide)).1
          have g6 : ¬ nI (N 59) = 120 := nI_cn (k := 120) rfl (by omega) (by omega) (by decide)
          unfold f_X15_rumour_b194
          rw [if_neg (by decide), gt_t (mo_y h1.1), lt_e, ec, if_neg g6, hrep, bd_s, hrt]
        have hj4 : ∀ j, j ∈ DS → j ≠ 59 := by decide
        refine ⟨nI (N 59), si_ τ 1214 x 0, m1, hc _ kk, g1, hfin m1 (fun q => q = y ∨ ∃ j, j ∈ MA ∧ q = ga_ GM j 0) (up2_ (up2_ (up2_ (up2_ (up2_ (up2_ (up2_ (up2_ (aV (as_ m y GM)) 61 (N 59) (-1)) 62 (N 59) a0) 63 (N 59) a1) 64 (N 59) a2) 65 (N 59) (nI (N 6))) 66 (3 * N 59 + 0) (-1)) 66 (3 * N 59 + 1) (-1)) 66 (3 * N 59 + 2) (-1)) ?_ ?_ (fun j hj => ?_) ?_ ?_ ?_ ?_ ?_ ?_ ?_ ?_⟩
        · rw [hm1]
          exact mr_S (mr_tr md0.1 0) _
        · rw [hm1]
          exact fqt (fq_tr (fqi (fq_tr (fqi (fq_rf h0.1.1.1) (Or.inl rfl)) hmd.2.1) (Or.inl rfl)) md0.2.1) (Or.inl rfl)
        · rw [hm1]
          have e9 : fi_ (tr_ (si_ ρ 1659 y (nI (N 59 + 1))) y 0) = fi_ (tr_ (si_ ρ 1659 y (nI (N 59 + 1))) y 0) := rfl
          rw [e9]
          exact s3_fi2 (σ := bm_ m (si_ τ 1214 x 0)) hmd.2.2.1 rfl (hj4 j hj)
        · rw [hm1]; exact md0.2.2.2.1.trans hmd.2.2.2.1
        · rw [hm1]; exact md0.2.2.2.2.trans hmd.2.2.2.2
        · exact (fun j hj => by
            simp only [List.mem_cons, List.not_mem_nil, or_false, not_or] at hj
            obtain ⟨j1, j2, j3, j4, j5, j6, j7⟩ := hj
            funext i
            simp [up2_e, j1, j2, j3, j4, j5, j6, j7])
        · exact ⟨fun j hj i hi => by
            simp only [List.mem_cons, List.not_mem_nil, or_false] at hj
            rcases hj with rfl | rfl | rfl | rfl | rfl <;> simp [up2_e, hi], fun i hi => by
            have n0 : ¬ i = 3 * N 59 := by omega
            have n1 : ¬ i = 3 * N 59 + 1 := by omega
            have n2 : ¬ i = 3 * N 59 + 2 := by omega
            simp [up2_e, n0, n1, n2]⟩
        · simp [up2_e]
        · simp [fn9_, up2_e, aV]
        · refine ⟨fun j hj => ?_, fun j hj => ?_⟩
          · omega
          · omega
        · have hpv := pv_c4 (S := s3_ (aS (as_ m y GM)) 0) (V := up2_ (up2_ (up2_ (up2_ (up2_ (up2_ (up2_ (up2_ (aV (as_ m y GM)) 61 (N 59) (-1)) 62 (N 59) a0) 63 (N 59) a1) 64 (N 59) a2) 65 (N 59) (nI (N 6))) 66 (3 * N 59 + 0) (-1)) 66 (3 * N 59 + 1) (-1)) 66 (3 * N 59 + 2) (-1)) k3 hN6 ⟨fun j hj i hi => by
              simp only [List.mem_cons, List.not_mem_nil, or_false] at hj
              rcases hj with rfl | rfl | rfl | rfl | rfl <;> simp [up2_e, hi], fun i hi => by
              have n0 : ¬ i = 3 * N 59 := by omega
              have n1 : ¬ i = 3 * N 59 + 1 := by omega
              have n2 : ¬ i = 3 * N 59 + 2 := by omega
              simp [up2_e, n0, n1, n2]⟩ (Or.inl (by simp [up2_e])) (by
            obtain ⟨j, hj, rfl⟩ := nI_of (Int32.not_lt.mpr z1.1)
            have htd : td_ N < 2 ^ 31 := Nat.lt_of_le_of_lt (Nat.div_le_self _ _) (by omega)
            exact ⟨j, (nI_leI hj htd).mp z1.2, by simp [up2_e]⟩) (by
            obtain ⟨j, hj, e⟩ := nI_of2 (M := 4) (n := 4) (by decide) (Int32.not_lt.mpr z2.1) z2.2
            exact ⟨j, by omega, by rw [← e]; simp [up2_e]⟩) (by simp [up2_e]) (fun j hj => by
            rcases lt3_ hj with rfl | rfl | rfl
            · exact Or.inl (by simp [up2_e])
            · exact Or.inl (by simp [up2_e])
            · exact Or.inl (by simp [up2_e])) (by simp [up2_e]) (by simp [up2_e])
          rw [w4_eq (fun j hj => by
              simp only [List.mem_cons, List.not_mem_nil, or_false, not_or] at hj
              obtain ⟨j1, j2, j3, j4, j5, j6, j7⟩ := hj
              funext i
              simp [up2_e, j1, j2, j3, j4, j5, j6, j7])] at hpv
          exact hpv
    · have n0 := e0
      by_cases v0 : (0 ≤ a3 ∧ a3 ≤ 9) ∧ (-9999 ≤ a4 ∧ a4 ≤ 9999)
      · by_cases e1 : a5 = -1
        · skip
          obtain ⟨s1, t1, hr1⟩ := hr_tell1 hr0 (by omega) n0 v0 (k := a3) (v := a4)
          obtain ⟨s2, t2, hr2⟩ := hr_tell0 hr1 (Or.inl rfl) (k := a5) (v := a6) (Or.inr e1)
          obtain ⟨s3, t3, hr3⟩ := hr_tell0 hr2 (Or.inr rfl) (k := a7) (v := a8) (Or.inl (by decide))
          have hc : ∀ r, f_X11_keepReport ka s3 x (some (nx_ c)) = some r → f_X11_rumour ka c x a0 a1 a2 a3 a4 a5 a6 a7 a8 = some r := fun r h9 => by
            have hx3 := fq_kd hr3.1 hx (by decide)
            unfold f_X11_rumour
            rw [k_within, bd_s, bi_t z0, if_neg (by decide), gt_t hx, kh, bd_s, if_neg (by decide), gt_t n0', lt_e, lt_e, lt_e, q13n, hin, bd_s, t1, bd_s, if_neg (by decide), t2, bd_s, if_neg (by decide), t3, bd_s, if_neg (by decide)]
            unfold f_X11_rumour_b83
            rw [if_neg (by decide), gt_t hx3, h9]
            obtain ⟨r1, r2⟩ := r
            rfl
          have href : ∀ cc : TH, ∀ h1 : mr_ (si_ (bm_ m cc) 1600 y 0) y GM (as_ m y GM) N, f_X15_rumour (bm_ m cc) y a0 a1 a2 a3 a4 a5 a6 a7 a8 = f_X15_rumour_b194 (si_ (bm_ m cc) 1600 y 0) y a0 a1 a2 a3 a4 a5 a6 a7 a8 (nI 1) 1 := fun cc h1 => by
            unfold f_X15_rumour
            rw [gt_t (mo_yb k1), lt_e]
            generalize si_ (bm_ m cc) 1600 y 0 = σ at h1 ⊢
            have hy := mo_y h1.1
            simp [f_X15_rumour_b36, f_X15_rumour_b73, f_X15_rumour_b74, f_X15_rumour_b109, f_X15_rumour_b113, f_X15_rumour_b114, f_X15_rumour_b149, f_X15_rumour_b153, f_X15_rumour_b154, f_X15_rumour_b189, f_X15_rumour_b193, gt_, lt_, nn_, oc_, bd_, m_in, m_isKind, m_today2 h1, hy, bi_, z0, z1, z2, n0, v0, e1]
            rfl
          by_cases hf : N 59 = 120
          · refine ⟨-1, si_ s3 1214 x 3, tr_ (si_ (bm_ m (si_ s3 1214 x 3)) 1600 y 0) y 3, hc _ (keep_no k2 hr3.1 hf _), ?_, no9_ hI hr3.1 (by have := hr3.2.2.2.2.2.2; omega) 3 (by decide)⟩
            have h1 := mr_si (mr_bm (z := si_ s3 1214 x 3) (mr_of k1) (by rw [k5.1]; exact hr3.1.1.1)) (j := 0) (c := 1600) (by decide) 0
            rw [href _ h1]
            generalize si_ (bm_ m (si_ s3 1214 x 3)) 1600 y 0 = σ at h1 ⊢
            have ec := (mo_n h1.1 (j := 59) (cj := 1659) (m := 120) (by decide)).1
            rw [hf] at ec
            simp [f_X15_rumour_b194, gt_, lt_, nn_, oc_, bd_, ec, show nI 120 = 120 from rfl, mo_y h1.1, m_refused (mo_y h1.1)]
          · have hlt : N 59 < 120 := by omega
            obtain ⟨τ, kk, hnx, hfin⟩ := keep_ok hI k1 k2 k3 hr3 hlt
            have h0 := mr_bm (z := si_ τ 1214 x 0) (mr_of k1) (by rw [k5.1]; exact hnx)
            have h1 := mr_si h0 (j := 0) (c := 1600) (by decide) 0
            obtain ⟨ρ, hrep, hmd⟩ := m_reported h1 hlt (-1) a0 a1 a2
            have hm2 := mr_sn hmd.1 59 1659 (N 59 + 1) (by decide) (by show N 59 + 1 ≤ 120; omega)
            have md0 := md_0 hm2
            obtain ⟨ρ1, u1, md1⟩ := m_rt md0 hlt (j := 0) (M := 1) (by decide) (by decide) (by decide) a3 a4 a5 a6 a7 a8 39999
            have hrt : f_X15_rumour_b235 fu_ (si_ ρ 1659 y (nI (N 59 + 1))) y a3 a4 a5 a6 a7 a8 (nI 1) (nI (N 59)) 0 = some (nI (N 59), tr_ (ρ1) y 0) := by
              rw [show fu_ = 39999 + 1 from rfl, show (0 : Int32) = nI 0 from rfl, u1]
              exact m_re md1 (nI (N 59)) 1 (by decide) a3 a4 a5 a6 a7 a8 39998
            obtain ⟨m1, hm1⟩ : ∃ m1, m1 = tr_ (ρ1) y 0 := ⟨_, rfl⟩
            have g1 : f_X15_rumour (bm_ m (si_ τ 1214 x 0)) y a0 a1 a2 a3 a4 a5 a6 a7 a8 = some (nI (N 59), m1) := by
              rw [hm1, href _ h1]
              generalize si_ (bm_ m (si_ τ 1214 x 0)) 1600 y 0 = σ at h1 hrep ⊢
              have ec := (mo_n h1.1 (j := 59) (cj := 1659) (m := 120) (by decide)).1
              have g6 : ¬ nI (N 59) = 120 := nI_cn (k := 120) rfl (by omega) (by omega) (by decide)
              unfold f_X15_rumour_b194
              rw [if_neg (by decide), gt_t (mo_y h1.1), lt_e, ec, if_neg g6, hrep, bd_s, hrt]
            have hj4 : ∀ j, j ∈ DS → j ≠ 59 := by decide
            refine ⟨nI (N 59), si_ τ 1214 x 0, m1, hc _ kk, g1, hfin m1 (fun q => q = y ∨ ∃ j, j ∈ MA ∧ q = ga_ GM j 0) (up2_ (up2_ (up2_ (up2_ (up2_ (up2_ (up2_ (up2_ (up2_ (up2_ (aV (as_ m y GM)) 61 (N 59) (-1)) 62 (N 59) a0) 63 (N 59) a1) 64 (N 59) a2) 65 (N 59) (nI (N 6))) 66 (3 * N 59 + 0) (-1)) 66 (3 * N 59 + 1) (-1)) 66 (3 * N 59 + 2) (-1)) 66 (3 * N 59 + 0) a3) 67 (3 * N 59 + 0) a4) ?_ ?_ (fun j hj => ?_) ?_ ?_ ?_ ?_ ?_ ?_ ?_ ?_⟩
            · rw [hm1]
              exact mr_S (mr_tr md1.1 0) _
            · rw [hm1]
              exact fqt (fq_tr (fqi (fq_tr (fqi (fq_rf h0.1.1.1) (Or.inl rfl)) hmd.2.1) (Or.inl rfl)) md1.2.1) (Or.inl rfl)
            · rw [hm1]
              have e9 : fi_ (tr_ (ρ1) y 0) = fi_ (tr_ (si_ ρ 1659 y (nI (N 59 + 1))) y 0) := by
                unfold tr_
                rw [fi_si, fi_si, md1.2.2.1, fi_si (si_ (si_ ρ 1659 y (nI (N 59 + 1))) 1601 y 0), fi_si (si_ ρ 1659 y (nI (N 59 + 1))) 1601]
              rw [e9]
              exact s3_fi2 (σ := bm_ m (si_ τ 1214 x 0)) hmd.2.2.1 rfl (hj4 j hj)
            · rw [hm1]; exact md1.2.2.2.1.trans hmd.2.2.2.1
            · rw [hm1]; exact md1.2.2.2.2.trans hmd.2.2.2.2
            · exact (fun j hj => by
                simp only [List.mem_cons, List.not_mem_nil, or_false, not_or] at hj
                obtain ⟨j1, j2, j3, j4, j5, j6, j7⟩ := hj
                funext i
                simp [up2_e, j1, j2, j3, j4, j5, j6, j7])
            · exact ⟨fun j hj i hi => by
                simp only [List.mem_cons, List.not_mem_nil, or_false] at hj
                rcases hj with rfl | rfl | rfl | rfl | rfl <;> simp [up2_e, hi], fun i hi => by
                have n0 : ¬ i = 3 * N 59 := by omega
                have n1 : ¬ i = 3 * N 59 + 1 := by omega
                have n2 : ¬ i = 3 * N 59 + 2 := by omega
                simp [up2_e, n0, n1, n2]⟩
            · simp [up2_e]
            · simp [fn9_, up2_e, aV, n0]
            · refine ⟨fun j hj => ?_, fun j hj => ?_⟩
              · rcases (show j = 0 by omega) with rfl <;> simp [up2_e]
              · rcases (show j = 0 by omega) with rfl <;> simp [up2_e]
            · have hpv := pv_c4 (S := s3_ (aS (as_ m y GM)) 0) (V := up2_ (up2_ (up2_ (up2_ (up2_ (up2_ (up2_ (up2_ (up2_ (up2_ (aV (as_ m y GM)) 61 (N 59) (-1)) 62 (N 59) a0) 63 (N 59) a1) 64 (N 59) a2) 65 (N 59) (nI (N 6))) 66 (3 * N 59 + 0) (-1)) 66 (3 * N 59 + 1) (-1)) 66 (3 * N 59 + 2) (-1)) 66 (3 * N 59 + 0) a3) 67 (3 * N 59 + 0) a4) k3 hN6 ⟨fun j hj i hi => by
                  simp only [List.mem_cons, List.not_mem_nil, or_false] at hj
                  rcases hj with rfl | rfl | rfl | rfl | rfl <;> simp [up2_e, hi], fun i hi => by
                  have n0 : ¬ i = 3 * N 59 := by omega
                  have n1 : ¬ i = 3 * N 59 + 1 := by omega
                  have n2 : ¬ i = 3 * N 59 + 2 := by omega
                  simp [up2_e, n0, n1, n2]⟩ (Or.inl (by simp [up2_e])) (by
                obtain ⟨j, hj, rfl⟩ := nI_of (Int32.not_lt.mpr z1.1)
                have htd : td_ N < 2 ^ 31 := Nat.lt_of_le_of_lt (Nat.div_le_self _ _) (by omega)
                exact ⟨j, (nI_leI hj htd).mp z1.2, by simp [up2_e]⟩) (by
                obtain ⟨j, hj, e⟩ := nI_of2 (M := 4) (n := 4) (by decide) (Int32.not_lt.mpr z2.1) z2.2
                exact ⟨j, by omega, by rw [← e]; simp [up2_e]⟩) (by simp [up2_e]) (fun j hj => by
                rcases lt3_ hj with rfl | rfl | rfl
                · obtain ⟨q, hq, e⟩ := kind_ v0.1
                  exact Or.inr ⟨q, hq, by rw [← e]; simp [up2_e]⟩
                · exact Or.inl (by simp [up2_e])
                · exact Or.inl (by simp [up2_e])) (by simp [up2_e, n0]) (by simp [up2_e, n0])
              rw [w4_eq (fun j hj => by
                  simp only [List.mem_cons, List.not_mem_nil, or_false, not_or] at hj
                  obtain ⟨j1, j2, j3, j4, j5, j6, j7⟩ := hj
                  funext i
                  simp [up2_e, j1, j2, j3, j4, j5, j6, j7])] at hpv
              exact hpv
        · have n1 := e1
          by_cases v1 : (0 ≤ a5 ∧ a5 ≤ 9) ∧ (-9999 ≤ a6 ∧ a6 ≤ 9999)
          · by_cases e2 : a7 = -1
            · skip
              obtain ⟨s1, t1, hr1⟩ := hr_tell1 hr0 (by omega) n0 v0 (k := a3) (v := a4)
              obtain ⟨s2, t2, hr2⟩ := hr_tell1 hr1 (by omega) n1 v1 (k := a5) (v := a6)
              obtain ⟨s3, t3, hr3⟩ := hr_tell0 hr2 (Or.inl rfl) (k := a7) (v := a8) (Or.inr e2)
              have hc : ∀ r, f_X11_keepReport ka s3 x (some (nx_ c)) = some r → f_X11_rumour ka c x a0 a1 a2 a3 a4 a5 a6 a7 a8 = some r := fun r h9 => by
                have hx3 := fq_kd hr3.1 hx (by decide)
                unfold f_X11_rumour
                rw [k_within, bd_s, bi_t z0, if_neg (by decide), gt_t hx, kh, bd_s, if_neg (by decide), gt_t n0', lt_e, lt_e, lt_e, q13n, hin, bd_s, t1, bd_s, if_neg (by decide), t2, bd_s, if_neg (by decide), t3, bd_s, if_neg (by decide)]
                unfold f_X11_rumour_b83
                rw [if_neg (by decide), gt_t hx3, h9]
                obtain ⟨r1, r2⟩ := r
                rfl
              have href : ∀ cc : TH, ∀ h1 : mr_ (si_ (bm_ m cc) 1600 y 0) y GM (as_ m y GM) N, f_X15_rumour (bm_ m cc) y a0 a1 a2 a3 a4 a5 a6 a7 a8 = f_X15_rumour_b194 (si_ (bm_ m cc) 1600 y 0) y a0 a1 a2 a3 a4 a5 a6 a7 a8 (nI 2) 1 := fun cc h1 => by
                unfold f_X15_rumour
                rw [gt_t (mo_yb k1), lt_e]
                generalize si_ (bm_ m cc) 1600 y 0 = σ at h1 ⊢
                have hy := mo_y h1.1
                simp [f_X15_rumour_b36, f_X15_rumour_b73, f_X15_rumour_b74, f_X15_rumour_b109, f_X15_rumour_b113, f_X15_rumour_b114, f_X15_rumour_b149, f_X15_rumour_b153, f_X15_rumour_b154, f_X15_rumour_b189, f_X15_rumour_b193, gt_, lt_, nn_, oc_, bd_, m_in, m_isKind, m_today2 h1, hy, bi_, z0, z1, z2, n0, n1, v0, v1, e2]
                rfl
              by_cases hf : N 59 = 120
              · refine ⟨-1, si_ s3 1214 x 3, tr_ (si_ (bm_ m (si_ s3 1214 x 3)) 1600 y 0) y 3, hc _ (keep_no k2 hr3.1 hf _), ?_, no9_ hI hr3.1 (by have := hr3.2.2.2.2.2.2; omega) 3 (by decide)⟩
                have h1 := mr_si (mr_bm (z := si_ s3 1214 x 3) (mr_of k1) (by rw [k5.1]; exact hr3.1.1.1)) (j := 0) (c := 1600) (by decide) 0
                rw [href _ h1]
                generalize si_ (bm_ m (si_ s3 1214 x 3)) 1600 y 0 = σ at h1 ⊢
                have ec := (mo_n h1.1 (j := 59) (cj := 1659) (m := 120) (by decide)).1
                rw [hf] at ec
                simp [f_X15_rumour_b194, gt_, lt_, nn_, oc_, bd_, ec, show nI 120 = 120 from rfl, mo_y h1.1, m_refused (mo_y h1.1)]
              · have hlt : N 59 < 120 := by omega
                obtain ⟨τ, kk, hnx, hfin⟩ := keep_ok hI k1 k2 k3 hr3 hlt
                have h0 := mr_bm (z := si_ τ 1214 x 0) (mr_of k1) (by rw [k5.1]; exact hnx)
                have h1 := mr_si h0 (j := 0) (c := 1600) (by decide) 0
                obtain ⟨ρ, hrep, hmd⟩ := m_reported h1 hlt (-1) a0 a1 a2
                have hm2 := mr_sn hmd.1 59 1659 (N 59 + 1) (by decide) (by show N 59 + 1 ≤ 120; omega)
                have md0 := md_0 hm2
                obtain ⟨ρ1, u1, md1⟩ := m_rt md0 hlt (j := 0) (M := 2) (by decide) (by decide) (by decide) a3 a4 a5 a6 a7 a8 39999
                obtain ⟨ρ2, u2, md2⟩ := m_rt md1 hlt (j := 1) (M := 2) (by decide) (by decide) (by decide) a3 a4 a5 a6 a7 a8 39998
                have hrt : f_X15_rumour_b235 fu_ (si_ ρ 1659 y (nI (N 59 + 1))) y a3 a4 a5 a6 a7 a8 (nI 2) (nI (N 59)) 0 = some (nI (N 59), tr_ (ρ2) y 0) := by
                  rw [show fu_ = 39999 + 1 from rfl, show (0 : Int32) = nI 0 from rfl, u1, u2]
                  exact m_re md2 (nI (N 59)) 2 (by decide) a3 a4 a5 a6 a7 a8 39997
                obtain ⟨m1, hm1⟩ : ∃ m1, m1 = tr_ (ρ2) y 0 := ⟨_, rfl⟩
                have g1 : f_X15_rumour (bm_ m (si_ τ 1214 x 0)) y a0 a1 a2 a3 a4 a5 a6 a7 a8 = some (nI (N 59), m1) := by
                  rw [hm1, href _ h1]
                  generalize si_ (bm_ m (si_ τ 1214 x 0)) 1600 y 0 = σ at h1 hrep ⊢
                  have ec := (mo_n h1.1 (j := 59) (cj := 1659) (m := 120) (by decide)).1
                  have g6 : ¬ nI (N 59) = 120 := nI_cn (k := 120) rfl (by omega) (by omega) (by decide)
                  unfold f_X15_rumour_b194
                  rw [if_neg (by decide), gt_t (mo_y h1.1), lt_e, ec, if_neg g6, hrep, bd_s, hrt]
                have hj4 : ∀ j, j ∈ DS → j ≠ 59 := by decide
                refine ⟨nI (N 59), si_ τ 1214 x 0, m1, hc _ kk, g1, hfin m1 (fun q => q = y ∨ ∃ j, j ∈ MA ∧ q = ga_ GM j 0) (up2_ (up2_ (up2_ (up2_ (up2_ (up2_ (up2_ (up2_ (up2_ (up2_ (up2_ (up2_ (aV (as_ m y GM)) 61 (N 59) (-1)) 62 (N 59) a0) 63 (N 59) a1) 64 (N 59) a2) 65 (N 59) (nI (N 6))) 66 (3 * N 59 + 0) (-1)) 66 (3 * N 59 + 1) (-1)) 66 (3 * N 59 + 2) (-1)) 66 (3 * N 59 + 0) a3) 67 (3 * N 59 + 0) a4) 66 (3 * N 59 + 1) a5) 67 (3 * N 59 + 1) a6) ?_ ?_ (fun j hj => ?_) ?_ ?_ ?_ ?_ ?_ ?_ ?_ ?_⟩
                · rw [hm1]
                  exact mr_S (mr_tr md2.1 0) _
                · rw [hm1]
                  exact fqt (fq_tr (fqi (fq_tr (fqi (fq_rf h0.1.1.1) (Or.inl rfl)) hmd.2.1) (Or.inl rfl)) md2.2.1) (Or.inl rfl)
                · rw [hm1]
                  have e9 : fi_ (tr_ (ρ2) y 0) = fi_ (tr_ (si_ ρ 1659 y (nI (N 59 + 1))) y 0) := by
                    unfold tr_
                    rw [fi_si, fi_si, md2.2.2.1, fi_si (si_ (si_ ρ 1659 y (nI (N 59 + 1))) 1601 y 0), fi_si (si_ ρ 1659 y (nI (N 59 + 1))) 1601]
                  rw [e9]
                  exact s3_fi2 (σ := bm_ m (si_ τ 1214 x 0)) hmd.2.2.1 rfl (hj4 j hj)
                · rw [hm1]; exact md2.2.2.2.1.trans hmd.2.2.2.1
                · rw [hm1]; exact md2.2.2.2.2.trans hmd.2.2.2.2
                · exact (fun j hj => by
                    simp only [List.mem_cons, List.not_mem_nil, or_false, not_or] at hj
                    obtain ⟨j1, j2, j3, j4, j5, j6, j7⟩ := hj
                    funext i
                    simp [up2_e, j1, j2, j3, j4, j5, j6, j7])
                · exact ⟨fun j hj i hi => by
                    simp only [List.mem_cons, List.not_mem_nil, or_false] at hj
                    rcases hj with rfl | rfl | rfl | rfl | rfl <;> simp [up2_e, hi], fun i hi => by
                    have n0 : ¬ i = 3 * N 59 := by omega
                    have n1 : ¬ i = 3 * N 59 + 1 := by omega
                    have n2 : ¬ i = 3 * N 59 + 2 := by omega
                    simp [up2_e, n0, n1, n2]⟩
                · simp [up2_e]
                · simp [fn9_, up2_e, aV, n0, n1]
                · refine ⟨fun j hj => ?_, fun j hj => ?_⟩
                  · rcases (show j = 0 ∨ j = 1 by omega) with rfl | rfl <;> simp [up2_e]
                  · rcases (show j = 0 ∨ j = 1 by omega) with rfl | rfl <;> simp [up2_e]
                · have hpv := pv_c4 (S := s3_ (aS (as_ m y GM)) 0) (V := up2_ (up2_ (up2_ (up2_ (up2_ (up2_ (up2_ (up2_ (up2_ (up2_ (up2_ (up2_ (aV (as_ m y GM)) 61 (N 59) (-1)) 62 (N 59) a0) 63 (N 59) a1) 64 (N 59) a2) 65 (N 59) (nI (N 6))) 66 (3 * N 59 + 0) (-1)) 66 (3 * N 59 + 1) (-1)) 66 (3 * N 59 + 2) (-1)) 66 (3 * N 59 + 0) a3) 67 (3 * N 59 + 0) a4) 66 (3 * N 59 + 1) a5) 67 (3 * N 59 + 1) a6) k3 hN6 ⟨fun j hj i hi => by
                      simp only [List.mem_cons, List.not_mem_nil, or_false] at hj
                      rcases hj with rfl | rfl | rfl | rfl | rfl <;> simp [up2_e, hi], fun i hi => by
                      have n0 : ¬ i = 3 * N 59 := by omega
                      have n1 : ¬ i = 3 * N 59 + 1 := by omega
                      have n2 : ¬ i = 3 * N 59 + 2 := by omega
                      simp [up2_e, n0, n1, n2]⟩ (Or.inl (by simp [up2_e])) (by
                    obtain ⟨j, hj, rfl⟩ := nI_of (Int32.not_lt.mpr z1.1)
                    have htd : td_ N < 2 ^ 31 := Nat.lt_of_le_of_lt (Nat.div_le_self _ _) (by omega)
                    exact ⟨j, (nI_leI hj htd).mp z1.2, by simp [up2_e]⟩) (by
                    obtain ⟨j, hj, e⟩ := nI_of2 (M := 4) (n := 4) (by decide) (Int32.not_lt.mpr z2.1) z2.2
                    exact ⟨j, by omega, by rw [← e]; simp [up2_e]⟩) (by simp [up2_e]) (fun j hj => by
                    rcases lt3_ hj with rfl | rfl | rfl
                    · obtain ⟨q, hq, e⟩ := kind_ v0.1
                      exact Or.inr ⟨q, hq, by rw [← e]; simp [up2_e]⟩
                    · obtain ⟨q, hq, e⟩ := kind_ v1.1
                      exact Or.inr ⟨q, hq, by rw [← e]; simp [up2_e]⟩
                    · exact Or.inl (by simp [up2_e])) (by simp [up2_e, n0, n1]) (by simp [up2_e, n0, n1])
                  rw [w4_eq (fun j hj => by
                      simp only [List.mem_cons, List.not_mem_nil, or_false, not_or] at hj
                      obtain ⟨j1, j2, j3, j4, j5, j6, j7⟩ := hj
                      funext i
                      simp [up2_e, j1, j2, j3, j4, j5, j6, j7])] at hpv
                  exact hpv
            · have n2 := e2
              by_cases v2 : (0 ≤ a7 ∧ a7 ≤ 9) ∧ (-9999 ≤ a8 ∧ a8 ≤ 9999)
              · skip
                obtain ⟨s1, t1, hr1⟩ := hr_tell1 hr0 (by omega) n0 v0 (k := a3) (v := a4)
                obtain ⟨s2, t2, hr2⟩ := hr_tell1 hr1 (by omega) n1 v1 (k := a5) (v := a6)
                obtain ⟨s3, t3, hr3⟩ := hr_tell1 hr2 (by omega) n2 v2 (k := a7) (v := a8)
                have hc : ∀ r, f_X11_keepReport ka s3 x (some (nx_ c)) = some r → f_X11_rumour ka c x a0 a1 a2 a3 a4 a5 a6 a7 a8 = some r := fun r h9 => by
                  have hx3 := fq_kd hr3.1 hx (by decide)
                  unfold f_X11_rumour
                  rw [k_within, bd_s, bi_t z0, if_neg (by decide), gt_t hx, kh, bd_s, if_neg (by decide), gt_t n0', lt_e, lt_e, lt_e, q13n, hin, bd_s, t1, bd_s, if_neg (by decide), t2, bd_s, if_neg (by decide), t3, bd_s, if_neg (by decide)]
                  unfold f_X11_rumour_b83
                  rw [if_neg (by decide), gt_t hx3, h9]
                  obtain ⟨r1, r2⟩ := r
                  rfl
                have href : ∀ cc : TH, ∀ h1 : mr_ (si_ (bm_ m cc) 1600 y 0) y GM (as_ m y GM) N, f_X15_rumour (bm_ m cc) y a0 a1 a2 a3 a4 a5 a6 a7 a8 = f_X15_rumour_b194 (si_ (bm_ m cc) 1600 y 0) y a0 a1 a2 a3 a4 a5 a6 a7 a8 (nI 3) 1 := fun cc h1 => by
                  unfold f_X15_rumour
                  rw [gt_t (mo_yb k1), lt_e]
                  generalize si_ (bm_ m cc) 1600 y 0 = σ at h1 ⊢
                  have hy := mo_y h1.1
                  simp [f_X15_rumour_b36, f_X15_rumour_b73, f_X15_rumour_b74, f_X15_rumour_b109, f_X15_rumour_b113, f_X15_rumour_b114, f_X15_rumour_b149, f_X15_rumour_b153, f_X15_rumour_b154, f_X15_rumour_b189, f_X15_rumour_b193, gt_, lt_, nn_, oc_, bd_, m_in, m_isKind, m_today2 h1, hy, bi_, z0, z1, z2, n0, n1, n2, v0, v1, v2]
                  rfl
                by_cases hf : N 59 = 120
                · refine ⟨-1, si_ s3 1214 x 3, tr_ (si_ (bm_ m (si_ s3 1214 x 3)) 1600 y 0) y 3, hc _ (keep_no k2 hr3.1 hf _), ?_, no9_ hI hr3.1 (by have := hr3.2.2.2.2.2.2; omega) 3 (by decide)⟩
                  have h1 := mr_si (mr_bm (z := si_ s3 1214 x 3) (mr_of k1) (by rw [k5.1]; exact hr3.1.1.1)) (j := 0) (c := 1600) (by decide) 0
                  rw [href _ h1]
                  generalize si_ (bm_ m (si_ s3 1214 x 3)) 1600 y 0 = σ at h1 ⊢
                  have ec := (mo_n h1.1 (j := 59) (cj := 1659) (m := 120) (by decide)).1
                  rw [hf] at ec
                  simp [f_X15_rumour_b194, gt_, lt_, nn_, oc_, bd_, ec, show nI 120 = 120 from rfl, mo_y h1.1, m_refused (mo_y h1.1)]
                · have hlt : N 59 < 120 := by omega
                  obtain ⟨τ, kk, hnx, hfin⟩ := keep_ok hI k1 k2 k3 hr3 hlt
                  have h0 := mr_bm (z := si_ τ 1214 x 0) (mr_of k1) (by rw [k5.1]; exact hnx)
                  have h1 := mr_si h0 (j := 0) (c := 1600) (by decide) 0
                  obtain ⟨ρ, hrep, hmd⟩ := m_reported h1 hlt (-1) a0 a1 a2
                  have hm2 := mr_sn hmd.1 59 1659 (N 59 + 1) (by decide) (by show N 59 + 1 ≤ 120; omega)
                  have md0 := md_0 hm2
                  obtain ⟨ρ1, u1, md1⟩ := m_rt md0 hlt (j := 0) (M := 3) (by decide) (by decide) (by decide) a3 a4 a5 a6 a7 a8 39999
                  obtain ⟨ρ2, u2, md2⟩ := m_rt md1 hlt (j := 1) (M := 3) (by decide) (by decide) (by decide) a3 a4 a5 a6 a7 a8 39998
                  obtain ⟨ρ3, u3, md3⟩ := m_rt md2 hlt (j := 2) (M := 3) (by decide) (by decide) (by decide) a3 a4 a5 a6 a7 a8 39997
                  have hrt : f_X15_rumour_b235 fu_ (si_ ρ 1659 y (nI (N 59 + 1))) y a3 a4 a5 a6 a7 a8 (nI 3) (nI (N 59)) 0 = some (nI (N 59), tr_ (ρ3) y 0) := by
                    rw [show fu_ = 39999 + 1 from rfl, show (0 : Int32) = nI 0 from rfl, u1, u2, u3]
                    exact m_re md3 (nI (N 59)) 3 (by decide) a3 a4 a5 a6 a7 a8 39996
                  obtain ⟨m1, hm1⟩ : ∃ m1, m1 = tr_ (ρ3) y 0 := ⟨_, rfl⟩
                  have g1 : f_X15_rumour (bm_ m (si_ τ 1214 x 0)) y a0 a1 a2 a3 a4 a5 a6 a7 a8 = some (nI (N 59), m1) := by
                    rw [hm1, href _ h1]
                    generalize si_ (bm_ m (si_ τ 1214 x 0)) 1600 y 0 = σ at h1 hrep ⊢
                    have ec := (mo_n h1.1 (j := 59) (cj := 1659) (m := 120) (by decide)).1
                    have g6 : ¬ nI (N 59) = 120 := nI_cn (k := 120) rfl (by omega) (by omega) (by decide)
                    unfold f_X15_rumour_b194
                    rw [if_neg (by decide), gt_t (mo_y h1.1), lt_e, ec, if_neg g6, hrep, bd_s, hrt]
                  have hj4 : ∀ j, j ∈ DS → j ≠ 59 := by decide
                  refine ⟨nI (N 59), si_ τ 1214 x 0, m1, hc _ kk, g1, hfin m1 (fun q => q = y ∨ ∃ j, j ∈ MA ∧ q = ga_ GM j 0) (up2_ (up2_ (up2_ (up2_ (up2_ (up2_ (up2_ (up2_ (up2_ (up2_ (up2_ (up2_ (up2_ (up2_ (aV (as_ m y GM)) 61 (N 59) (-1)) 62 (N 59) a0) 63 (N 59) a1) 64 (N 59) a2) 65 (N 59) (nI (N 6))) 66 (3 * N 59 + 0) (-1)) 66 (3 * N 59 + 1) (-1)) 66 (3 * N 59 + 2) (-1)) 66 (3 * N 59 + 0) a3) 67 (3 * N 59 + 0) a4) 66 (3 * N 59 + 1) a5) 67 (3 * N 59 + 1) a6) 66 (3 * N 59 + 2) a7) 67 (3 * N 59 + 2) a8) ?_ ?_ (fun j hj => ?_) ?_ ?_ ?_ ?_ ?_ ?_ ?_ ?_⟩
                  · rw [hm1]
                    exact mr_S (mr_tr md3.1 0) _
                  · rw [hm1]
                    exact fqt (fq_tr (fqi (fq_tr (fqi (fq_rf h0.1.1.1) (Or.inl rfl)) hmd.2.1) (Or.inl rfl)) md3.2.1) (Or.inl rfl)
                  · rw [hm1]
                    have e9 : fi_ (tr_ (ρ3) y 0) = fi_ (tr_ (si_ ρ 1659 y (nI (N 59 + 1))) y 0) := by
                      unfold tr_
                      rw [fi_si, fi_si, md3.2.2.1, fi_si (si_ (si_ ρ 1659 y (nI (N 59 + 1))) 1601 y 0), fi_si (si_ ρ 1659 y (nI (N 59 + 1))) 1601]
                    rw [e9]
                    exact s3_fi2 (σ := bm_ m (si_ τ 1214 x 0)) hmd.2.2.1 rfl (hj4 j hj)
                  · rw [hm1]; exact md3.2.2.2.1.trans hmd.2.2.2.1
                  · rw [hm1]; exact md3.2.2.2.2.trans hmd.2.2.2.2
                  · exact (fun j hj => by
                      simp only [List.mem_cons, List.not_mem_nil, or_false, not_or] at hj
                      obtain ⟨j1, j2, j3, j4, j5, j6, j7⟩ := hj
                      funext i
                      simp [up2_e, j1, j2, j3, j4, j5, j6, j7])
                  · exact ⟨fun j hj i hi => by
                      simp only [List.mem_cons, List.not_mem_nil, or_false] at hj
                      rcases hj with rfl | rfl | rfl | rfl | rfl <;> simp [up2_e, hi], fun i hi => by
                      have n0 : ¬ i = 3 * N 59 := by omega
                      have n1 : ¬ i = 3 * N 59 + 1 := by omega
                      have n2 : ¬ i = 3 * N 59 + 2 := by omega
                      simp [up2_e, n0, n1, n2]⟩
                  · simp [up2_e]
                  · simp [fn9_, up2_e, aV, n0, n1, n2]
                  · refine ⟨fun j hj => ?_, fun j hj => ?_⟩
                    · rcases (show j = 0 ∨ j = 1 ∨ j = 2 by omega) with rfl | rfl | rfl <;> simp [up2_e]
                    · rcases (show j = 0 ∨ j = 1 ∨ j = 2 by omega) with rfl | rfl | rfl <;> simp [up2_e]
                  · have hpv := pv_c4 (S := s3_ (aS (as_ m y GM)) 0) (V := up2_ (up2_ (up2_ (up2_ (up2_ (up2_ (up2_ (up2_ (up2_ (up2_ (up2_ (up2_ (up2_ (up2_ (aV (as_ m y GM)) 61 (N 59) (-1)) 62 (N 59) a0) 63 (N 59) a1) 64 (N 59) a2) 65 (N 59) (nI (N 6))) 66 (3 * N 59 + 0) (-1)) 66 (3 * N 59 + 1) (-1)) 66 (3 * N 59 + 2) (-1)) 66 (3 * N 59 + 0) a3) 67 (3 * N 59 + 0) a4) 66 (3 * N 59 + 1) a5) 67 (3 * N 59 + 1) a6) 66 (3 * N 59 + 2) a7) 67 (3 * N 59 + 2) a8) k3 hN6 ⟨fun j hj i hi => by
                        simp only [List.mem_cons, List.not_mem_nil, or_false] at hj
                        rcases hj with rfl | rfl | rfl | rfl | rfl <;> simp [up2_e, hi], fun i hi => by
                        have n0 : ¬ i = 3 * N 59 := by omega
                        have n1 : ¬ i = 3 * N 59 + 1 := by omega
                        have n2 : ¬ i = 3 * N 59 + 2 := by omega
                        simp [up2_e, n0, n1, n2]⟩ (Or.inl (by simp [up2_e])) (by
                      obtain ⟨j, hj, rfl⟩ := nI_of (Int32.not_lt.mpr z1.1)
                      have htd : td_ N < 2 ^ 31 := Nat.lt_of_le_of_lt (Nat.div_le_self _ _) (by omega)
                      exact ⟨j, (nI_leI hj htd).mp z1.2, by simp [up2_e]⟩) (by
                      obtain ⟨j, hj, e⟩ := nI_of2 (M := 4) (n := 4) (by decide) (Int32.not_lt.mpr z2.1) z2.2
                      exact ⟨j, by omega, by rw [← e]; simp [up2_e]⟩) (by simp [up2_e]) (fun j hj => by
                      rcases lt3_ hj with rfl | rfl | rfl
                      · obtain ⟨q, hq, e⟩ := kind_ v0.1
                        exact Or.inr ⟨q, hq, by rw [← e]; simp [up2_e]⟩
                      · obtain ⟨q, hq, e⟩ := kind_ v1.1
                        exact Or.inr ⟨q, hq, by rw [← e]; simp [up2_e]⟩
                      · obtain ⟨q, hq, e⟩ := kind_ v2.1
                        exact Or.inr ⟨q, hq, by rw [← e]; simp [up2_e]⟩) (by simp [up2_e, n0, n1, n2]) (by simp [up2_e, n0, n1, n2])
                    rw [w4_eq (fun j hj => by
                        simp only [List.mem_cons, List.not_mem_nil, or_false, not_or] at hj
                        obtain ⟨j1, j2, j3, j4, j5, j6, j7⟩ := hj
                        funext i
                        simp [up2_e, j1, j2, j3, j4, j5, j6, j7])] at hpv
                    exact hpv
              · have b2 := v2
                obtain ⟨s1, t1, hr1⟩ := hr_tell1 hr0 (by omega) n0 v0 (k := a3) (v := a4)
                obtain ⟨s2, t2, hr2⟩ := hr_tell1 hr1 (by omega) n1 v1 (k := a5) (v := a6)
                obtain ⟨s3, t3, hr3⟩ := hr_tellB hr2 n2 b2
                refine ⟨-1, si_ s3 1214 x 2, tr_ (si_ (bm_ m (si_ s3 1214 x 2)) 1600 y 0) y 2, ?_, ?_, no9_ hI hr3.1 (by have := hr3.2.2.2.2.2.2; omega) 2 (by decide)⟩
                · have hx3 := fq_kd hr3.1 hx (by decide)
                  unfold f_X11_rumour
                  rw [k_within, bd_s, bi_t z0, if_neg (by decide), gt_t hx, kh, bd_s, if_neg (by decide), gt_t n0', lt_e, lt_e, lt_e, q13n, hin, bd_s, t1, bd_s, if_neg (by decide), t2, bd_s, if_neg (by decide), t3, bd_s, if_pos rfl]
                  simp [f_X11_rumour_b82, f_X11_rumour_b83, gt_, lt_, nn_, oc_, bd_, hx3, k_refused hx3]
                · have h1 := mr_si (mr_bm (z := si_ s3 1214 x 2) (mr_of k1) (by rw [k5.1]; exact hr3.1.1.1)) (j := 0) (c := 1600) (by decide) 0
                  unfold f_X15_rumour
                  rw [gt_t (mo_yb k1), lt_e]
                  generalize si_ (bm_ m (si_ s3 1214 x 2)) 1600 y 0 = σ at h1 ⊢
                  have hy := mo_y h1.1
                  have hr9 := m_refused hy 2
                  have bb : ¬ (0 ≤ a7 ∧ a7 ≤ 9) ∨ ((0 ≤ a7 ∧ a7 ≤ 9) ∧ ¬ (-9999 ≤ a8 ∧ a8 ≤ 9999)) := by
                    by_cases q : 0 ≤ a7 ∧ a7 ≤ 9
                    · exact Or.inr ⟨q, fun w => b2 ⟨q, w⟩⟩
                    · exact Or.inl q
                  rcases bb with bb | bb <;> simp [f_X15_rumour_b36, f_X15_rumour_b73, f_X15_rumour_b74, f_X15_rumour_b109, f_X15_rumour_b113, f_X15_rumour_b114, f_X15_rumour_b149, f_X15_rumour_b153, f_X15_rumour_b154, f_X15_rumour_b189, f_X15_rumour_b193, f_X15_rumour_b194, gt_, lt_, nn_, oc_, bd_, m_in, m_isKind, m_today2 h1, hy, bi_, z0, z1, z2, n0, n1, n2, v0, v1, bb, hr9]
          · have b1 := v1
            obtain ⟨s1, t1, hr1⟩ := hr_tell1 hr0 (by omega) n0 v0 (k := a3) (v := a4)
            obtain ⟨s2, t2, hr2⟩ := hr_tellB hr1 n1 b1
            refine ⟨-1, si_ s2 1214 x 2, tr_ (si_ (bm_ m (si_ s2 1214 x 2)) 1600 y 0) y 2, ?_, ?_, no9_ hI hr2.1 (by have := hr2.2.2.2.2.2.2; omega) 2 (by decide)⟩
            · have hx3 := fq_kd hr2.1 hx (by decide)
              unfold f_X11_rumour
              rw [k_within, bd_s, bi_t z0, if_neg (by decide), gt_t hx, kh, bd_s, if_neg (by decide), gt_t n0', lt_e, lt_e, lt_e, q13n, hin, bd_s, t1, bd_s, if_neg (by decide), t2, bd_s, if_pos rfl]
              simp [f_X11_rumour_b82, f_X11_rumour_b83, gt_, lt_, nn_, oc_, bd_, hx3, k_refused hx3]
            · have h1 := mr_si (mr_bm (z := si_ s2 1214 x 2) (mr_of k1) (by rw [k5.1]; exact hr2.1.1.1)) (j := 0) (c := 1600) (by decide) 0
              unfold f_X15_rumour
              rw [gt_t (mo_yb k1), lt_e]
              generalize si_ (bm_ m (si_ s2 1214 x 2)) 1600 y 0 = σ at h1 ⊢
              have hy := mo_y h1.1
              have hr9 := m_refused hy 2
              have bb : ¬ (0 ≤ a5 ∧ a5 ≤ 9) ∨ ((0 ≤ a5 ∧ a5 ≤ 9) ∧ ¬ (-9999 ≤ a6 ∧ a6 ≤ 9999)) := by
                by_cases q : 0 ≤ a5 ∧ a5 ≤ 9
                · exact Or.inr ⟨q, fun w => b1 ⟨q, w⟩⟩
                · exact Or.inl q
              by_cases w7 : a7 = -1
              · rcases bb with bb | bb <;> simp [f_X15_rumour_b36, f_X15_rumour_b73, f_X15_rumour_b74, f_X15_rumour_b109, f_X15_rumour_b113, f_X15_rumour_b114, f_X15_rumour_b149, f_X15_rumour_b153, f_X15_rumour_b154, f_X15_rumour_b189, f_X15_rumour_b193, f_X15_rumour_b194, gt_, lt_, nn_, oc_, bd_, m_in, m_isKind, m_today2 h1, hy, bi_, z0, z1, z2, n0, n1, v0, bb, w7, hr9]
              · skip
                rcases bb with bb | bb <;> simp [f_X15_rumour_b36, f_X15_rumour_b73, f_X15_rumour_b74, f_X15_rumour_b109, f_X15_rumour_b113, f_X15_rumour_b114, f_X15_rumour_b149, f_X15_rumour_b153, f_X15_rumour_b154, f_X15_rumour_b189, f_X15_rumour_b193, f_X15_rumour_b194, gt_, lt_, nn_, oc_, bd_, m_in, m_isKind, m_today2 h1, hy, bi_, z0, z1, z2, n0, n1, v0, bb, w7, hr9]
      · have b0 := v0
        obtain ⟨s1, t1, hr1⟩ := hr_tellB hr0 n0 b0
        refine ⟨-1, si_ s1 1214 x 2, tr_ (si_ (bm_ m (si_ s1 1214 x 2)) 1600 y 0) y 2, ?_, ?_, no9_ hI hr1.1 (by have := hr1.2.2.2.2.2.2; omega) 2 (by decide)⟩
        · have hx3 := fq_kd hr1.1 hx (by decide)
          unfold f_X11_rumour
          rw [k_within, bd_s, bi_t z0, if_neg (by decide), gt_t hx, kh, bd_s, if_neg (by decide), gt_t n0', lt_e, lt_e, lt_e, q13n, hin, bd_s, t1, bd_s, if_pos rfl]
          simp [f_X11_rumour_b82, f_X11_rumour_b83, gt_, lt_, nn_, oc_, bd_, hx3, k_refused hx3]
        · have h1 := mr_si (mr_bm (z := si_ s1 1214 x 2) (mr_of k1) (by rw [k5.1]; exact hr1.1.1.1)) (j := 0) (c := 1600) (by decide) 0
          unfold f_X15_rumour
          rw [gt_t (mo_yb k1), lt_e]
          generalize si_ (bm_ m (si_ s1 1214 x 2)) 1600 y 0 = σ at h1 ⊢
          have hy := mo_y h1.1
          have hr9 := m_refused hy 2
          have bb : ¬ (0 ≤ a3 ∧ a3 ≤ 9) ∨ ((0 ≤ a3 ∧ a3 ≤ 9) ∧ ¬ (-9999 ≤ a4 ∧ a4 ≤ 9999)) := by
            by_cases q : 0 ≤ a3 ∧ a3 ≤ 9
            · exact Or.inr ⟨q, fun w => b0 ⟨q, w⟩⟩
            · exact Or.inl q
          by_cases w5 : a5 = -1
          · rcases bb with bb | bb <;> simp [f_X15_rumour_b36, f_X15_rumour_b73, f_X15_rumour_b74, f_X15_rumour_b109, f_X15_rumour_b113, f_X15_rumour_b114, f_X15_rumour_b149, f_X15_rumour_b153, f_X15_rumour_b154, f_X15_rumour_b189, f_X15_rumour_b193, f_X15_rumour_b194, gt_, lt_, nn_, oc_, bd_, m_in, m_isKind, m_today2 h1, hy, bi_, z0, z1, z2, n0, bb, w5, hr9]
          · skip
            by_cases w7 : a7 = -1
            · rcases bb with bb | bb <;> simp [f_X15_rumour_b36, f_X15_rumour_b73, f_X15_rumour_b74, f_X15_rumour_b109, f_X15_rumour_b113, f_X15_rumour_b114, f_X15_rumour_b149, f_X15_rumour_b153, f_X15_rumour_b154, f_X15_rumour_b189, f_X15_rumour_b193, f_X15_rumour_b194, gt_, lt_, nn_, oc_, bd_, m_in, m_isKind, m_today2 h1, hy, bi_, z0, z1, z2, n0, bb, w5, w7, hr9]
            · skip
              rcases bb with bb | bb <;> simp [f_X15_rumour_b36, f_X15_rumour_b73, f_X15_rumour_b74, f_X15_rumour_b109, f_X15_rumour_b113, f_X15_rumour_b114, f_X15_rumour_b149, f_X15_rumour_b153, f_X15_rumour_b154, f_X15_rumour_b189, f_X15_rumour_b193, f_X15_rumour_b194, gt_, lt_, nn_, oc_, bd_, m_in, m_isKind, m_today2 h1, hy, bi_, z0, z1, z2, n0, bb, w5, w7, hr9]
  · have zz : ¬ (0 ≤ a0 ∧ a0 ≤ 99) ∨ ((0 ≤ a0 ∧ a0 ≤ 99) ∧ ¬ (0 ≤ a1 ∧ a1 ≤ nI (td_ N))) ∨ ((0 ≤ a0 ∧ a0 ≤ 99) ∧ (0 ≤ a1 ∧ a1 ≤ nI (td_ N)) ∧ ¬ (0 ≤ a2 ∧ a2 ≤ 4)) := by
      by_cases w0 : 0 ≤ a0 ∧ a0 ≤ 99
      · by_cases w1 : 0 ≤ a1 ∧ a1 ≤ nI (td_ N)
        · exact Or.inr (Or.inr ⟨w0, w1, fun w2 => z ⟨w0, w1, w2⟩⟩)
        · exact Or.inr (Or.inl ⟨w0, w1⟩)
      · exact Or.inl w0
    clear z
    refine ⟨-1, si_ c 1214 x 2, tr_ (si_ (bm_ m (si_ c 1214 x 2)) 1600 y 0) y 2, ?_, ?_, no_ pv_S hI 2 (by decide)⟩
    · unfold f_X11_rumour
      rw [k_within, bd_s]
      rcases zz with w | w | w
      · rw [bi_f w, if_pos rfl]
        simp [f_X11_rumour_b19, gt_, lt_, nn_, oc_, bd_, hx, k_refused hx]
      · rw [bi_t w.1, if_neg (by decide), gt_t hx, kh, bd_s, bi_f (fun q => w.2 q.1), if_pos rfl]
        simp [f_X11_rumour_b19, gt_, lt_, nn_, oc_, bd_, hx, k_refused hx]
      · rw [bi_t w.1, if_neg (by decide), gt_t hx, kh, bd_s, bi_f (fun q => w.2.2 q.2), if_pos rfl]
        simp [f_X11_rumour_b19, gt_, lt_, nn_, oc_, bd_, hx, k_refused hx]
    · have h1 := mr_si (mr_bm (z := si_ c 1214 x 2) (mr_of k1) (Nat.le_of_eq k5.1)) (j := 0) (c := 1600) (by decide) 0
      unfold f_X15_rumour
      rw [gt_t (show kd_ (bm_ m (si_ c 1214 x 2)) y = 17 from mo_yb k1), lt_e]
      generalize si_ (bm_ m (si_ c 1214 x 2)) 1600 y 0 = σ at h1 ⊢
      have hy := mo_y h1.1
      have hr9 := m_refused hy 2
      have key : ∀ M : Int32, f_X15_rumour_b36 σ y a0 a1 a2 a3 a4 a5 a6 a7 a8 M = some (-1, tr_ σ y 2) := fun M => by
        rcases zz with w | w | w
        · simp [f_X15_rumour_b36, f_X15_rumour_b73, f_X15_rumour_b74, f_X15_rumour_b109, f_X15_rumour_b113, f_X15_rumour_b114, f_X15_rumour_b149, f_X15_rumour_b153, f_X15_rumour_b154, f_X15_rumour_b189, f_X15_rumour_b193, f_X15_rumour_b194, gt_, lt_, nn_, oc_, bd_, m_in, hy, bi_, w, hr9]
        · simp [f_X15_rumour_b36, f_X15_rumour_b73, f_X15_rumour_b74, f_X15_rumour_b109, f_X15_rumour_b113, f_X15_rumour_b114, f_X15_rumour_b149, f_X15_rumour_b153, f_X15_rumour_b154, f_X15_rumour_b189, f_X15_rumour_b193, f_X15_rumour_b194, gt_, lt_, nn_, oc_, bd_, m_in, m_today2 h1, hy, bi_, w, hr9]
        · simp [f_X15_rumour_b36, f_X15_rumour_b73, f_X15_rumour_b74, f_X15_rumour_b109, f_X15_rumour_b113, f_X15_rumour_b114, f_X15_rumour_b149, f_X15_rumour_b153, f_X15_rumour_b154, f_X15_rumour_b189, f_X15_rumour_b193, f_X15_rumour_b194, gt_, lt_, nn_, oc_, bd_, m_in, m_today2 h1, hy, bi_, w, hr9]
      by_cases w3 : a3 = -1
      · rw [if_pos w3, key]
      · rw [if_neg w3]
        by_cases w5 : a5 = -1
        · rw [if_pos w5, key]
        · rw [if_neg w5]
          by_cases w7 : a7 = -1
          · rw [if_pos w7, key]
          · rw [if_neg w7, key]
end C69
