/-! CALLS: picture, ask. Written by wip/b/mk61.py. -/
section C61
variable {ka : Nat → Nat} {TX : Nat → Nat → (Nat → Int32) → Nat → (Nat → Int32) → Prop} {x y o N0 : Nat}
theorem ok_picture : St_picture ka x y (inv_ ka TX pv_ x y o N0) := fun n c m a0 a1 a2 a3 a4 hn hI => by
  obtain ⟨GC, GM, N, k1, k2, k3, k4, k5, k6, k7, k8⟩ := id hI
  have hN := (mo_n k1 (j := 5) (cj := 1605) (m := 30) (by decide)).2
  obtain ⟨e6, hN6⟩ := mo_n k1 (j := 6) (cj := 1606) (m := 5257439) (by decide)
  have hb : mr_ (bm_ m c) y GM (as_ m y GM) N := mr_bm (mr_of k1) (Nat.le_of_eq k5.1)
  have hx := rc_x k2
  obtain ⟨e4, hN4⟩ := mo_n k1 (j := 69) (cj := 1669) (m := 40) (by decide)
  obtain ⟨r1, r2⟩ := rc_r1204 k2
  have hl := rc_l5 k2 (by omega)
  have l1 := l_size hl
  have n0 : kd_ c (nx_ c) = 0 := wf_0 k2.1.1 (Nat.le_refl _)
  rcases rg_ a0 (n := N 5) (by omega) with ⟨p, hp, rfl⟩ | hout
  · obtain ⟨p1, p2⟩ := k_person1 k2 hN hp
    by_cases q : (1 ≤ a1 ∧ a1 ≤ 100) ∧ (0 ≤ a2 ∧ a2 ≤ 3650) ∧ (a2 ≤ a3 ∧ a3 ≤ 3650) ∧ (1 ≤ a4 ∧ a4 ≤ 99)
    · obtain ⟨q1, q2, q3, q4⟩ := q
      by_cases q5 : N 69 = 40
      · have z : ¬ nI (N 69) < 40 := by rw [q5]; decide
        refine ⟨-1, si_ c 1214 x 3, tr_ (si_ (bm_ m (si_ c 1214 x 3)) 1600 y 0) y 3, ?_, ?_, no_ pv_S hI 3 (by decide)⟩
        · simp [f_X11_picture, f_X11_picture_b41, f_X11_picture_b42, f_X11_picture_b70, gt_, lt_, nn_, oc_, bd_, hx, p1, k_within, bi_, q1, q2, q3, q4, r1, r2, l1, z, k_refused hx]
        · have h1 := mr_si (mr_bm (z := si_ c 1214 x 3) (mr_of k1) (Nat.le_of_eq k5.1)) (j := 0) (c := 1600) (by decide) 0
          unfold f_X15_picture
          rw [gt_t (show kd_ (bm_ m (si_ c 1214 x 3)) y = 17 from mo_yb k1), lt_e]
          generalize si_ (bm_ m (si_ c 1214 x 3)) 1600 y 0 = σ at h1 ⊢
          have ec := (mo_n h1.1 (j := 69) (cj := 1669) (m := 40) (by decide)).1
          rw [q5] at ec
          simp [f_X15_picture_b63, gt_, lt_, nn_, oc_, bd_, m_isPerson1 h1.1 hp, m_in, bi_, q1, q2, q3, q4, ec, show nI 40 = 40 from rfl, m_refused (mo_y h1.1)]
      · have hlt : N 69 < 40 := by omega
        have hs : fq_ (fun _ => False) c (si_ (si_ (si_ (si_ (si_ (si_ (nw_ c 5 0 6) 405 (nx_ c) 0) 400 (nx_ c) (nI p)) 401 (nx_ c) a1) 402 (nx_ c) a2) 403 (nx_ c) a3) 404 (nx_ c) a4) := fq_sin (fq_sin (fq_sin (fq_sin (fq_sin (fq_sin (fq_nw k2.1.1 (by decide)) (Nat.le_refl _)) (Nat.le_refl _)) (Nat.le_refl _)) (Nat.le_refl _)) (Nat.le_refl _)) (Nat.le_refl _)
        have hkb : kd_ (si_ (si_ (si_ (si_ (si_ (si_ (nw_ c 5 0 6) 405 (nx_ c) 0) 400 (nx_ c) (nI p)) 401 (nx_ c) a1) 402 (nx_ c) a2) 403 (nx_ c) a3) 404 (nx_ c) a4) (nx_ c) = 5 := kd_nw c 5 0 6
        have hfa : fi_ (si_ (si_ (si_ (si_ (si_ (si_ (nw_ c 5 0 6) 405 (nx_ c) 0) 400 (nx_ c) (nI p)) 401 (nx_ c) a1) 402 (nx_ c) a2) 403 (nx_ c) a3) 404 (nx_ c) a4) 400 (nx_ c) = nI p ∧ fi_ (si_ (si_ (si_ (si_ (si_ (si_ (nw_ c 5 0 6) 405 (nx_ c) 0) 400 (nx_ c) (nI p)) 401 (nx_ c) a1) 402 (nx_ c) a2) 403 (nx_ c) a3) 404 (nx_ c) a4) 401 (nx_ c) = a1 ∧ fi_ (si_ (si_ (si_ (si_ (si_ (si_ (nw_ c 5 0 6) 405 (nx_ c) 0) 400 (nx_ c) (nI p)) 401 (nx_ c) a1) 402 (nx_ c) a2) 403 (nx_ c) a3) 404 (nx_ c) a4) 402 (nx_ c) = a2 ∧ fi_ (si_ (si_ (si_ (si_ (si_ (si_ (nw_ c 5 0 6) 405 (nx_ c) 0) 400 (nx_ c) (nI p)) 401 (nx_ c) a1) 402 (nx_ c) a2) 403 (nx_ c) a3) 404 (nx_ c) a4) 403 (nx_ c) = a3 ∧ fi_ (si_ (si_ (si_ (si_ (si_ (si_ (nw_ c 5 0 6) 405 (nx_ c) 0) 400 (nx_ c) (nI p)) 401 (nx_ c) a1) 402 (nx_ c) a2) 403 (nx_ c) a3) 404 (nx_ c) a4) 404 (nx_ c) = a4 ∧ fi_ (si_ (si_ (si_ (si_ (si_ (si_ (nw_ c 5 0 6) 405 (nx_ c) 0) 400 (nx_ c) (nI p)) 401 (nx_ c) a1) 402 (nx_ c) a2) 403 (nx_ c) a3) 404 (nx_ c) a4) 405 (nx_ c) = 0 := by simp [fi_si, up2_e]
        have hin : f_X3_init (nw_ c 5 0 6) (nx_ c) (nI p) a1 a2 a3 a4 = some ((), si_ (si_ (si_ (si_ (si_ (si_ (nw_ c 5 0 6) 405 (nx_ c) 0) 400 (nx_ c) (nI p)) 401 (nx_ c) a1) 402 (nx_ c) a2) 403 (nx_ c) a3) 404 (nx_ c) a4) := by
          unfold f_X3_init
          rw [gt_t (kd_nw c 5 0 6)]
          rfl
        have hbn : nx_ (si_ (si_ (si_ (si_ (si_ (si_ (nw_ c 5 0 6) 405 (nx_ c) 0) 400 (nx_ c) (nI p)) 401 (nx_ c) a1) 402 (nx_ c) a2) 403 (nx_ c) a3) 404 (nx_ c) a4) = nx_ c + 1 ∧ sl_ (si_ (si_ (si_ (si_ (si_ (si_ (nw_ c 5 0 6) 405 (nx_ c) 0) 400 (nx_ c) (nI p)) 401 (nx_ c) a1) 402 (nx_ c) a2) 403 (nx_ c) a3) 404 (nx_ c) a4) = sl_ c + 6 := ⟨rfl, rfl⟩
        generalize si_ (si_ (si_ (si_ (si_ (si_ (nw_ c 5 0 6) 405 (nx_ c) 0) 400 (nx_ c) (nI p)) 401 (nx_ c) a1) 402 (nx_ c) a2) 403 (nx_ c) a3) 404 (nx_ c) a4 = s at hs hkb hfa hin hbn
        obtain ⟨e1, τ, ad, fq2, bnd, ke1, hee, hl2⟩ := ad_5 k2 (by omega) hs ⟨Nat.le_refl _, hkb⟩
        obtain ⟨x1, x2, x3⟩ := ax_5 k2 hs fq2
        obtain ⟨w1, w2⟩ := rc_c5 k2 k3.2.2.2.2.2.2.2 hlt hs ⟨Nat.le_refl _, hkb⟩ hfa fq2 ke1 hee hl2
        have h0 := mr_bm (z := si_ τ 1214 x 0) (mr_of k1) (by rw [k5.1]; exact w2.1.1)
        have h1 := mr_si h0 (j := 0) (c := 1600) (by decide) 0
        have hw := h0.1.1.1
        have hj4 : ∀ j, j ∈ DS → j ≠ 69 := by decide
        obtain ⟨m1, hm1⟩ : ∃ m1, m1 = tr_ (si_ (sa_ (sa_ (sa_ (sa_ (sa_ (si_ (bm_ m (si_ τ 1214 x 0)) 1600 y 0) (ga_ GM 72 0) (N 69) (nI p)) (ga_ GM 73 0) (N 69) a1) (ga_ GM 74 0) (N 69) a2) (ga_ GM 75 0) (N 69) a3) (ga_ GM 76 0) (N 69) a4) 1669 y (nI (N 69 + 1))) y 0 := ⟨_, rfl⟩
        have g1 : f_X15_picture (bm_ m (si_ τ 1214 x 0)) y (nI p) a1 a2 a3 a4 = some (nI (N 69), m1) := by
          rw [hm1]
          unfold f_X15_picture
          rw [gt_t (show kd_ (bm_ m (si_ τ 1214 x 0)) y = 17 from mo_yb k1), lt_e]
          generalize si_ (bm_ m (si_ τ 1214 x 0)) 1600 y 0 = σ at h1 ⊢
          have hy := mo_y h1.1
          have ec := (mo_n h1.1 (j := 69) (cj := 1669) (m := 40) (by decide)).1
          have g1 : ¬ nI (N 69) < 0 := nI_pos (by omega)
          have g3 : (nI (N 69)).toNatClampNeg = N 69 := nI_clamp (by omega)
          have g4 : ¬ 40 ≤ N 69 := by omega
          have g6 : ¬ nI (N 69) = 40 := nI_cn (k := 40) rfl (by omega) (by omega) (by decide)
          obtain ⟨a72, b72, c72⟩ := mo_a h1.1 (j := 72) (cj := 1672) (K := 20) (n := 40) (by decide)
          obtain ⟨a73, b73, c73⟩ := mo_a h1.1 (j := 73) (cj := 1673) (K := 20) (n := 40) (by decide)
          obtain ⟨a74, b74, c74⟩ := mo_a h1.1 (j := 74) (cj := 1674) (K := 20) (n := 40) (by decide)
          obtain ⟨a75, b75, c75⟩ := mo_a h1.1 (j := 75) (cj := 1675) (K := 20) (n := 40) (by decide)
          obtain ⟨a76, b76, c76⟩ := mo_a h1.1 (j := 76) (cj := 1676) (K := 20) (n := 40) (by decide)
          simp [f_X15_picture_b63, gt_, lt_, nn_, oc_, bd_, kd_si, ln_si, fi_si, fr_si, fl_si, ai_si, ar_si, al_si, ow_si, nx_si, sl_si, kd_sr, ln_sr, fi_sr, fr_sr, fl_sr, ai_sr, ar_sr, al_sr, ow_sr, nx_sr, sl_sr, kd_so, ln_so, fi_so, fr_so, fl_so, ai_so, ar_so, al_so, ow_so, nx_so, sl_so, kd_sa, ln_sa, fi_sa, fr_sa, fl_sa, ai_sa, ar_sa, al_sa, ow_sa, nx_sa, sl_sa, kd_sq, ln_sq, fi_sq, fr_sq, fl_sq, ai_sq, ar_sq, al_sq, ow_sq, nx_sq, sl_sq, kd_sj, ln_sj, fi_sj, fr_sj, fl_sj, ai_sj, ar_sj, al_sj, ow_sj, nx_sj, sl_sj, up2_e, m_isPerson1 h1.1 hp, m_in, bi_, q1, q2, q3, q4, hy, ec, a72, b72, c72, a73, b73, c73, a74, b74, c74, a75, b75, c75, a76, b76, c76, g1, g3, g4, g6, m_done, nI_1, nI_pred]
        have g2 : fq_ (fun q => q = y ∨ q = ga_ GM 72 0 ∨ q = ga_ GM 73 0 ∨ q = ga_ GM 74 0 ∨ q = ga_ GM 75 0 ∨ q = ga_ GM 76 0) (bm_ m (si_ τ 1214 x 0)) m1 := by
          rw [hm1]
          exact fqt (fqi (fqa (fqa (fqa (fqa (fqa (fqi (fq_rf hw) (Or.inl rfl)) (Or.inr (Or.inl rfl))) (Or.inr (Or.inr (Or.inl rfl)))) (Or.inr (Or.inr (Or.inr (Or.inl rfl))))) (Or.inr (Or.inr (Or.inr (Or.inr (Or.inl rfl)))))) (Or.inr (Or.inr (Or.inr (Or.inr (Or.inr rfl)))))) (Or.inl rfl)) (Or.inl rfl)
        have g3 : mr_ m1 y GM (s3_ (aS (as_ m y GM)) 0, up2_ (up2_ (up2_ (up2_ (up2_ (aV (as_ m y GM)) 72 (N 69) (nI p)) 73 (N 69) a1) 74 (N 69) a2) 75 (N 69) a3) 76 (N 69) a4, (as_ m y GM).2.2) (fun q => if q = 69 then N 69 + 1 else N q) := by
          rw [hm1]
          exact mr_S (mr_tr (mr_sn (mr_sa (mr_sa (mr_sa (mr_sa (mr_sa (h1) (j := 72) (by decide) (N 69) (nI p)) (j := 73) (by decide) (N 69) a1) (j := 74) (by decide) (N 69) a2) (j := 75) (by decide) (N 69) a3) (j := 76) (by decide) (N 69) a4) 69 1669 (N 69 + 1) (by decide) (by show N 69 + 1 ≤ 40; omega)) 0) _
        have g4 : ∀ j, j ∈ DS → fi_ m1 (1600 + j) y = s3_ (aS (as_ m y GM)) 0 j := fun j hj => by
          rw [hm1]
          exact s3_fi2 (σ := bm_ m (si_ τ 1214 x 0)) rfl rfl (hj4 j hj)
        have g5 : nx_ m1 = nx_ τ ∧ sl_ m1 = sl_ τ := by rw [hm1]; exact ⟨rfl, rfl⟩
        refine ⟨nI (N 69), si_ τ 1214 x 0, m1, ?_, g1, inv_fin hI w2 ⟨?_, ?_⟩ g2 ⟨?_, ?_⟩ g3 g4 w1 (pv_c5 k3)⟩
        · unfold f_X11_picture
          rw [gt_t hx, p1, bd_s, oc_s, k_within, bd_s, bi_t q2, if_neg (by decide), k_within, bd_s, bi_t q3, if_neg (by decide)]
          unfold f_X11_picture_b42
          rw [if_neg (by decide), k_within, bd_s, bi_t q1, if_neg (by decide), k_within, bd_s, bi_t q4, if_neg (by decide), gt_t hx, lt_e, r1, nn_s, gt_t r2]
          rw [l1, bd_s, if_pos (show nI (N 69) < 40 from nI_c (k := 40) rfl hlt (by decide)), lt_e, r1, gt_t n0, lt_e, lt_e, hin, bd_s, nn_s, gt_t (fq_kd hs r2 (by decide)), ad, bd_s, lt_e, x2, r1, nn_s, gt_t hl2.1, l_size hl2, bd_s, nI_pred, k_granted x1, bd_s]
        · show nx_ τ ≤ nx_ c + 400
          omega
        · show sl_ τ ≤ sl_ c + 6000
          omega
        · rw [g5.1]; exact Nat.le_add_right _ _
        · rw [g5.2]; exact Nat.le_add_right _ _
    · have qq : ¬ (1 ≤ a1 ∧ a1 ≤ 100) ∨ ¬ (0 ≤ a2 ∧ a2 ≤ 3650) ∨ ¬ (a2 ≤ a3 ∧ a3 ≤ 3650) ∨ ¬ (1 ≤ a4 ∧ a4 ≤ 99) := by
        by_cases z1 : 1 ≤ a1 ∧ a1 ≤ 100
        · by_cases z2 : 0 ≤ a2 ∧ a2 ≤ 3650
          · by_cases z3 : a2 ≤ a3 ∧ a3 ≤ 3650
            · exact Or.inr (Or.inr (Or.inr (fun z4 => q ⟨z1, z2, z3, z4⟩)))
            · exact Or.inr (Or.inr (Or.inl z3))
          · exact Or.inr (Or.inl z2)
        · exact Or.inl z1
      clear q
      refine ⟨-1, si_ c 1214 x 2, tr_ (si_ (bm_ m (si_ c 1214 x 2)) 1600 y 0) y 2, ?_, ?_, no_ pv_S hI 2 (by decide)⟩
      · unfold f_X11_picture
        rw [gt_t hx, p1, bd_s, oc_s, k_within, bd_s]
        by_cases z2 : 0 ≤ a2 ∧ a2 ≤ 3650
        · rw [bi_t z2, if_neg (by decide), k_within, bd_s]
          by_cases z3 : a2 ≤ a3 ∧ a3 ≤ 3650
          · rw [bi_t z3, if_neg (by decide)]
            unfold f_X11_picture_b42
            rw [if_neg (by decide), k_within, bd_s]
            by_cases z1 : 1 ≤ a1 ∧ a1 ≤ 100
            · rw [bi_t z1, if_neg (by decide), k_within, bd_s]
              have z4 : ¬ (1 ≤ a4 ∧ a4 ≤ 99) := by
                rcases qq with h | h | h | h
                · exact absurd z1 h
                · exact absurd z2 h
                · exact absurd z3 h
                · exact h
              rw [bi_f z4, if_pos rfl]
              simp [f_X11_picture_b70, gt_, lt_, nn_, oc_, bd_, hx, k_refused hx]
            · rw [bi_f z1, if_pos rfl]
              simp [f_X11_picture_b70, gt_, lt_, nn_, oc_, bd_, hx, k_refused hx]
          · rw [bi_f z3, if_pos rfl]
            simp [f_X11_picture_b41, f_X11_picture_b42, f_X11_picture_b70, gt_, lt_, nn_, oc_, bd_, hx, k_refused hx]
        · rw [bi_f z2, if_pos rfl]
          simp [f_X11_picture_b41, f_X11_picture_b42, f_X11_picture_b70, gt_, lt_, nn_, oc_, bd_, hx, k_refused hx]
      · have h1 := mr_si (mr_bm (z := si_ c 1214 x 2) (mr_of k1) (Nat.le_of_eq k5.1)) (j := 0) (c := 1600) (by decide) 0
        unfold f_X15_picture
        rw [gt_t (show kd_ (bm_ m (si_ c 1214 x 2)) y = 17 from mo_yb k1), lt_e]
        generalize si_ (bm_ m (si_ c 1214 x 2)) 1600 y 0 = σ at h1 ⊢
        have hr := m_refused (mo_y h1.1) 2
        have hy := mo_y h1.1
        rw [m_isPerson1 h1.1 hp, bd_s, if_neg (by decide), m_in, bd_s]
        by_cases z1 : 1 ≤ a1 ∧ a1 ≤ 100
        · rw [bi_t z1, if_neg (by decide), m_in, bd_s]
          by_cases z2 : 0 ≤ a2 ∧ a2 ≤ 3650
          · rw [bi_t z2, if_neg (by decide), m_in, bd_s]
            by_cases z3 : a2 ≤ a3 ∧ a3 ≤ 3650
            · rw [bi_t z3, if_neg (by decide), m_in, bd_s]
              have z4 : ¬ (1 ≤ a4 ∧ a4 ≤ 99) := by
                rcases qq with h | h | h | h
                · exact absurd z1 h
                · exact absurd z2 h
                · exact absurd z3 h
                · exact h
              rw [bi_f z4, if_pos rfl]
              simp [f_X15_picture_b63, gt_, lt_, nn_, oc_, bd_, hy, hr]
            · rw [bi_f z3, if_pos rfl]
              simp [f_X15_picture_b63, gt_, lt_, nn_, oc_, bd_, hy, hr]
          · rw [bi_f z2, if_pos rfl]
            simp [f_X15_picture_b63, gt_, lt_, nn_, oc_, bd_, hy, hr]
        · rw [bi_f z1, if_pos rfl]
          simp [f_X15_picture_b63, gt_, lt_, nn_, oc_, bd_, hy, hr]
  · skip
    refine ⟨-1, si_ c 1214 x 1, tr_ (si_ (bm_ m (si_ c 1214 x 1)) 1600 y 0) y 1, ?_, ?_, no_ pv_S hI 1 (by decide)⟩
    · simp [f_X11_picture, gt_, lt_, nn_, oc_, bd_, hx, k_person0 k2 hN hout, k_refused hx]
    · have h1 := mr_si (mr_bm (z := si_ c 1214 x 1) (mr_of k1) (Nat.le_of_eq k5.1)) (j := 0) (c := 1600) (by decide) 0
      unfold f_X15_picture
      rw [gt_t (show kd_ (bm_ m (si_ c 1214 x 1)) y = 17 from mo_yb k1), lt_e]
      generalize si_ (bm_ m (si_ c 1214 x 1)) 1600 y 0 = σ at h1 ⊢
      simp [gt_, lt_, nn_, oc_, bd_, m_isPerson0 h1.1 hout, m_refused (mo_y h1.1)]
theorem ok_ask : St_ask ka x y (inv_ ka TX pv_ x y o N0) := fun n c m a0 a1 hn hI => by
  obtain ⟨GC, GM, N, k1, k2, k3, k4, k5, k6, k7, k8⟩ := id hI
  have hN := (mo_n k1 (j := 5) (cj := 1605) (m := 30) (by decide)).2
  obtain ⟨e6, hN6⟩ := mo_n k1 (j := 6) (cj := 1606) (m := 5257439) (by decide)
  have hb : mr_ (bm_ m c) y GM (as_ m y GM) N := mr_bm (mr_of k1) (Nat.le_of_eq k5.1)
  have hx := rc_x k2
  obtain ⟨e4, hN4⟩ := mo_n k1 (j := 70) (cj := 1670) (m := 60) (by decide)
  obtain ⟨r1, r2⟩ := rc_r1205 k2
  have hl := rc_l6 k2 (by omega)
  have l1 := l_size hl
  have n0 : kd_ c (nx_ c) = 0 := wf_0 k2.1.1 (Nat.le_refl _)
  have q13 : fi_ c 1213 x = nI (N 6) := (rc_f0 k2).2.2.2.1.trans e6
  have hxn : x ≠ nx_ c := Nat.ne_of_lt (kd_ltn k2.1.1 hx (by decide))
  have q13n : fi_ (nw_ c 7 0 4) 1213 x = nI (N 6) := by rw [fi_nwn hxn]; exact q13
  rcases rg_ a0 (n := N 5) (by omega) with ⟨p, hp, rfl⟩ | hout
  · obtain ⟨p1, p2⟩ := k_person1 k2 hN hp
    by_cases q1 : 1 ≤ a1 ∧ a1 ≤ 1440
    · by_cases q5 : N 70 = 60
      · have z : ¬ nI (N 70) < 60 := by rw [q5]; decide
        refine ⟨-1, si_ c 1214 x 3, tr_ (si_ (bm_ m (si_ c 1214 x 3)) 1600 y 0) y 3, ?_, ?_, no_ pv_S hI 3 (by decide)⟩
        · simp [f_X11_ask, gt_, lt_, nn_, oc_, bd_, hx, p1, k_within, bi_, q1, r1, r2, l1, z, k_refused hx]
        · have h1 := mr_si (mr_bm (z := si_ c 1214 x 3) (mr_of k1) (Nat.le_of_eq k5.1)) (j := 0) (c := 1600) (by decide) 0
          unfold f_X15_ask
          rw [gt_t (show kd_ (bm_ m (si_ c 1214 x 3)) y = 17 from mo_yb k1), lt_e]
          generalize si_ (bm_ m (si_ c 1214 x 3)) 1600 y 0 = σ at h1 ⊢
          have ec := (mo_n h1.1 (j := 70) (cj := 1670) (m := 60) (by decide)).1
          rw [q5] at ec
          simp [gt_, lt_, nn_, oc_, bd_, m_isPerson1 h1.1 hp, m_in, bi_, q1, ec, show nI 60 = 60 from rfl, m_refused (mo_y h1.1)]
      · have hlt : N 70 < 60 := by omega
        have hs : fq_ (fun _ => False) c (si_ (si_ (si_ (si_ (nw_ c 7 0 4) 602 (nx_ c) 0) 603 (nx_ c) 0) 600 (nx_ c) (nI p)) 601 (nx_ c) (nI (N 6) + a1)) := fq_sin (fq_sin (fq_sin (fq_sin (fq_nw k2.1.1 (by decide)) (Nat.le_refl _)) (Nat.le_refl _)) (Nat.le_refl _)) (Nat.le_refl _)
        have hkb : kd_ (si_ (si_ (si_ (si_ (nw_ c 7 0 4) 602 (nx_ c) 0) 603 (nx_ c) 0) 600 (nx_ c) (nI p)) 601 (nx_ c) (nI (N 6) + a1)) (nx_ c) = 7 := kd_nw c 7 0 4
        have hfa : fi_ (si_ (si_ (si_ (si_ (nw_ c 7 0 4) 602 (nx_ c) 0) 603 (nx_ c) 0) 600 (nx_ c) (nI p)) 601 (nx_ c) (nI (N 6) + a1)) 600 (nx_ c) = nI p ∧ fi_ (si_ (si_ (si_ (si_ (nw_ c 7 0 4) 602 (nx_ c) 0) 603 (nx_ c) 0) 600 (nx_ c) (nI p)) 601 (nx_ c) (nI (N 6) + a1)) 601 (nx_ c) = nI (N 6) + a1 ∧ fi_ (si_ (si_ (si_ (si_ (nw_ c 7 0 4) 602 (nx_ c) 0) 603 (nx_ c) 0) 600 (nx_ c) (nI p)) 601 (nx_ c) (nI (N 6) + a1)) 602 (nx_ c) = 0 ∧ fi_ (si_ (si_ (si_ (si_ (nw_ c 7 0 4) 602 (nx_ c) 0) 603 (nx_ c) 0) 600 (nx_ c) (nI p)) 601 (nx_ c) (nI (N 6) + a1)) 603 (nx_ c) = 0 := by simp [fi_si, up2_e]
        have hin : f_X5_init (nw_ c 7 0 4) (nx_ c) (nI p) (nI (N 6) + a1) = some ((), si_ (si_ (si_ (si_ (nw_ c 7 0 4) 602 (nx_ c) 0) 603 (nx_ c) 0) 600 (nx_ c) (nI p)) 601 (nx_ c) (nI (N 6) + a1)) := by
          unfold f_X5_init
          rw [gt_t (kd_nw c 7 0 4)]
          rfl
        have hbn : nx_ (si_ (si_ (si_ (si_ (nw_ c 7 0 4) 602 (nx_ c) 0) 603 (nx_ c) 0) 600 (nx_ c) (nI p)) 601 (nx_ c) (nI (N 6) + a1)) = nx_ c + 1 ∧ sl_ (si_ (si_ (si_ (si_ (nw_ c 7 0 4) 602 (nx_ c) 0) 603 (nx_ c) 0) 600 (nx_ c) (nI p)) 601 (nx_ c) (nI (N 6) + a1)) = sl_ c + 4 := ⟨rfl, rfl⟩
        generalize si_ (si_ (si_ (si_ (nw_ c 7 0 4) 602 (nx_ c) 0) 603 (nx_ c) 0) 600 (nx_ c) (nI p)) 601 (nx_ c) (nI (N 6) + a1) = s at hs hkb hfa hin hbn
        obtain ⟨e1, τ, ad, fq2, bnd, ke1, hee, hl2⟩ := ad_6 k2 (by omega) hs ⟨Nat.le_refl _, hkb⟩
        obtain ⟨x1, x2, x3⟩ := ax_6 k2 hs fq2
        obtain ⟨w1, w2⟩ := rc_c6 k2 k3.2.2.2.2.2.2.2 hlt hs ⟨Nat.le_refl _, hkb⟩ ⟨hfa.1, hfa.2.1, hfa.2.2.1, hfa.2.2.2, rfl⟩ fq2 ke1 hee hl2
        have h0 := mr_bm (z := si_ τ 1214 x 0) (mr_of k1) (by rw [k5.1]; exact w2.1.1)
        have h1 := mr_si h0 (j := 0) (c := 1600) (by decide) 0
        have hw := h0.1.1.1
        have hj4 : ∀ j, j ∈ DS → j ≠ 70 := by decide
        obtain ⟨m1, hm1⟩ : ∃ m1, m1 = tr_ (si_ (sa_ (sa_ (sa_ (si_ (bm_ m (si_ τ 1214 x 0)) 1600 y 0) (ga_ GM 78 0) (N 70) (nI p)) (ga_ GM 79 0) (N 70) (nI (N 6) + a1)) (ga_ GM 80 0) (N 70) (-1)) 1670 y (nI (N 70 + 1))) y 0 := ⟨_, rfl⟩
        have g1 : f_X15_ask (bm_ m (si_ τ 1214 x 0)) y (nI p) a1 = some (nI (N 70), m1) := by
          rw [hm1]
          unfold f_X15_ask
          rw [gt_t (show kd_ (bm_ m (si_ τ 1214 x 0)) y = 17 from mo_yb k1), lt_e]
          generalize si_ (bm_ m (si_ τ 1214 x 0)) 1600 y 0 = σ at h1 ⊢
          have hy := mo_y h1.1
          have ec := (mo_n h1.1 (j := 70) (cj := 1670) (m := 60) (by decide)).1
          have g1 : ¬ nI (N 70) < 0 := nI_pos (by omega)
          have g3 : (nI (N 70)).toNatClampNeg = N 70 := nI_clamp (by omega)
          have g4 : ¬ 60 ≤ N 70 := by omega
          have g6 : ¬ nI (N 70) = 60 := nI_cn (k := 60) rfl (by omega) (by omega) (by decide)
          obtain ⟨a78, b78, c78⟩ := mo_a h1.1 (j := 78) (cj := 1678) (K := 20) (n := 60) (by decide)
          obtain ⟨a79, b79, c79⟩ := mo_a h1.1 (j := 79) (cj := 1679) (K := 20) (n := 60) (by decide)
          obtain ⟨a80, b80, c80⟩ := mo_a h1.1 (j := 80) (cj := 1680) (K := 20) (n := 60) (by decide)
          have ek := (mo_n h1.1 (j := 6) (cj := 1606) (m := 5257439) (by decide)).1
          simp [gt_, lt_, nn_, oc_, bd_, kd_si, ln_si, fi_si, fr_si, fl_si, ai_si, ar_si, al_si, ow_si, nx_si, sl_si, kd_sr, ln_sr, fi_sr, fr_sr, fl_sr, ai_sr, ar_sr, al_sr, ow_sr, nx_sr, sl_sr, kd_so, ln_so, fi_so, fr_so, fl_so, ai_so, ar_so, al_so, ow_so, nx_so, sl_so, kd_sa, ln_sa, fi_sa, fr_sa, fl_sa, ai_sa, ar_sa, al_sa, ow_sa, nx_sa, sl_sa, kd_sq, ln_sq, fi_sq, fr_sq, fl_sq, ai_sq, ar_sq, al_sq, ow_sq, nx_sq, sl_sq, kd_sj, ln_sj, fi_sj, fr_sj, fl_sj, ai_sj, ar_sj, al_sj, ow_sj, nx_sj, sl_sj, up2_e, m_isPerson1 h1.1 hp, m_in, bi_, q1, hy, ec, ek, a78, b78, c78, a79, b79, c79, a80, b80, c80, g1, g3, g4, g6, m_done, nI_1, nI_pred]
        have g2 : fq_ (fun q => q = y ∨ q = ga_ GM 78 0 ∨ q = ga_ GM 79 0 ∨ q = ga_ GM 80 0) (bm_ m (si_ τ 1214 x 0)) m1 := by
          rw [hm1]
          exact fqt (fqi (fqa (fqa (fqa (fqi (fq_rf hw) (Or.inl rfl)) (Or.inr (Or.inl rfl))) (Or.inr (Or.inr (Or.inl rfl)))) (Or.inr (Or.inr (Or.inr rfl)))) (Or.inl rfl)) (Or.inl rfl)
        have g3 : mr_ m1 y GM (s3_ (aS (as_ m y GM)) 0, up2_ (up2_ (up2_ (aV (as_ m y GM)) 78 (N 70) (nI p)) 79 (N 70) (nI (N 6) + a1)) 80 (N 70) (-1), (as_ m y GM).2.2) (fun q => if q = 70 then N 70 + 1 else N q) := by
          rw [hm1]
          exact mr_S (mr_tr (mr_sn (mr_sa (mr_sa (mr_sa (h1) (j := 78) (by decide) (N 70) (nI p)) (j := 79) (by decide) (N 70) (nI (N 6) + a1)) (j := 80) (by decide) (N 70) (-1)) 70 1670 (N 70 + 1) (by decide) (by show N 70 + 1 ≤ 60; omega)) 0) _
        have g4 : ∀ j, j ∈ DS → fi_ m1 (1600 + j) y = s3_ (aS (as_ m y GM)) 0 j := fun j hj => by
          rw [hm1]
          exact s3_fi2 (σ := bm_ m (si_ τ 1214 x 0)) rfl rfl (hj4 j hj)
        have g5 : nx_ m1 = nx_ τ ∧ sl_ m1 = sl_ τ := by rw [hm1]; exact ⟨rfl, rfl⟩
        refine ⟨nI (N 70), si_ τ 1214 x 0, m1, ?_, g1, inv_fin hI w2 ⟨?_, ?_⟩ g2 ⟨?_, ?_⟩ g3 g4 w1 (pv_c6 k3 hlt)⟩
        · unfold f_X11_ask
          rw [gt_t hx, p1, bd_s, oc_s, k_within, bd_s, bi_t q1, if_neg (by decide), lt_e, r1, nn_s, gt_t r2]
          rw [l1, bd_s, if_pos (show nI (N 70) < 60 from nI_c (k := 60) rfl hlt (by decide)), lt_e, r1, gt_t n0, lt_e, lt_e, lt_e, q13n, hin, bd_s, nn_s, gt_t (fq_kd hs r2 (by decide)), ad, bd_s, lt_e, x2, r1, nn_s, gt_t hl2.1, l_size hl2, bd_s, nI_pred, k_granted x1, bd_s]
        · show nx_ τ ≤ nx_ c + 400
          omega
        · show sl_ τ ≤ sl_ c + 6000
          omega
        · rw [g5.1]; exact Nat.le_add_right _ _
        · rw [g5.2]; exact Nat.le_add_right _ _
    · skip
      refine ⟨-1, si_ c 1214 x 2, tr_ (si_ (bm_ m (si_ c 1214 x 2)) 1600 y 0) y 2, ?_, ?_, no_ pv_S hI 2 (by decide)⟩
      · simp [f_X11_ask, gt_, lt_, nn_, oc_, bd_, hx, p1, k_within, bi_, q1, k_refused hx]
      · have h1 := mr_si (mr_bm (z := si_ c 1214 x 2) (mr_of k1) (Nat.le_of_eq k5.1)) (j := 0) (c := 1600) (by decide) 0
        unfold f_X15_ask
        rw [gt_t (show kd_ (bm_ m (si_ c 1214 x 2)) y = 17 from mo_yb k1), lt_e]
        generalize si_ (bm_ m (si_ c 1214 x 2)) 1600 y 0 = σ at h1 ⊢
        simp [gt_, lt_, nn_, oc_, bd_, m_isPerson1 h1.1 hp, m_in, bi_, q1, m_refused (mo_y h1.1)]
  · skip
    refine ⟨-1, si_ c 1214 x 1, tr_ (si_ (bm_ m (si_ c 1214 x 1)) 1600 y 0) y 1, ?_, ?_, no_ pv_S hI 1 (by decide)⟩
    · simp [f_X11_ask, gt_, lt_, nn_, oc_, bd_, hx, k_person0 k2 hN hout, k_refused hx]
    · have h1 := mr_si (mr_bm (z := si_ c 1214 x 1) (mr_of k1) (Nat.le_of_eq k5.1)) (j := 0) (c := 1600) (by decide) 0
      unfold f_X15_ask
      rw [gt_t (show kd_ (bm_ m (si_ c 1214 x 1)) y = 17 from mo_yb k1), lt_e]
      generalize si_ (bm_ m (si_ c 1214 x 1)) 1600 y 0 = σ at h1 ⊢
      simp [gt_, lt_, nn_, oc_, bd_, m_isPerson0 h1.1 hout, m_refused (mo_y h1.1)]
end C61
