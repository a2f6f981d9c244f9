/-! CALLS, one after another: keeps, fault, where, hours, peril, embargo. Written by wip/b/mk47.py. -/
section C47
variable {ka : Nat → Nat} {TX : Nat → Nat → (Nat → Int32) → Nat → (Nat → Int32) → Prop} {PV : AS → (Nat → Nat) → Prop} {x y o N0 : Nat}
theorem rc_r1200 {σ : TH} {G : GH} {A : AS} {N : Nat → Nat} (h : rc_ ka TX σ x G A N) : fr_ σ 1200 x = some (ga_ G 1 0) ∧ kd_ σ (ga_ G 1 0) = 1 := by
  have q := rc_f0 h
  exact ⟨q.1.1, (h.1.2 1 0 (rc_1 h (by decide))).1⟩
theorem rc_r1201 {σ : TH} {G : GH} {A : AS} {N : Nat → Nat} (h : rc_ ka TX σ x G A N) : fr_ σ 1201 x = some (ga_ G 2 0) ∧ kd_ σ (ga_ G 2 0) = 1 := by
  have q := rc_f0 h
  exact ⟨q.1.2.1, (h.1.2 2 0 (rc_1 h (by decide))).1⟩
theorem rc_r1202 {σ : TH} {G : GH} {A : AS} {N : Nat → Nat} (h : rc_ ka TX σ x G A N) : fr_ σ 1202 x = some (ga_ G 3 0) ∧ kd_ σ (ga_ G 3 0) = 1 := by
  have q := rc_f0 h
  exact ⟨q.1.2.2.1, (h.1.2 3 0 (rc_1 h (by decide))).1⟩
theorem rc_r1203 {σ : TH} {G : GH} {A : AS} {N : Nat → Nat} (h : rc_ ka TX σ x G A N) : fr_ σ 1203 x = some (ga_ G 4 0) ∧ kd_ σ (ga_ G 4 0) = 1 := by
  have q := rc_f0 h
  exact ⟨q.1.2.2.2.1, (h.1.2 4 0 (rc_1 h (by decide))).1⟩
theorem rc_r1204 {σ : TH} {G : GH} {A : AS} {N : Nat → Nat} (h : rc_ ka TX σ x G A N) : fr_ σ 1204 x = some (ga_ G 5 0) ∧ kd_ σ (ga_ G 5 0) = 1 := by
  have q := rc_f0 h
  exact ⟨q.1.2.2.2.2.1, (h.1.2 5 0 (rc_1 h (by decide))).1⟩
theorem rc_r1205 {σ : TH} {G : GH} {A : AS} {N : Nat → Nat} (h : rc_ ka TX σ x G A N) : fr_ σ 1205 x = some (ga_ G 6 0) ∧ kd_ σ (ga_ G 6 0) = 1 := by
  have q := rc_f0 h
  exact ⟨q.1.2.2.2.2.2.1, (h.1.2 6 0 (rc_1 h (by decide))).1⟩
theorem rc_r1206 {σ : TH} {G : GH} {A : AS} {N : Nat → Nat} (h : rc_ ka TX σ x G A N) : fr_ σ 1206 x = some (ga_ G 7 0) ∧ kd_ σ (ga_ G 7 0) = 1 := by
  have q := rc_f0 h
  exact ⟨q.1.2.2.2.2.2.2.1, (h.1.2 7 0 (rc_1 h (by decide))).1⟩
theorem rc_r1207 {σ : TH} {G : GH} {A : AS} {N : Nat → Nat} (h : rc_ ka TX σ x G A N) : fr_ σ 1207 x = some (ga_ G 9 0) ∧ kd_ σ (ga_ G 9 0) = 20 := by
  have q := rc_f0 h
  exact ⟨q.1.2.2.2.2.2.2.2.1, (h.1.2 9 0 (rc_1 h (by decide))).1⟩
theorem rc_r1208 {σ : TH} {G : GH} {A : AS} {N : Nat → Nat} (h : rc_ ka TX σ x G A N) : fr_ σ 1208 x = some (ga_ G 10 0) ∧ kd_ σ (ga_ G 10 0) = 8 := by
  have q := rc_f0 h
  exact ⟨q.1.2.2.2.2.2.2.2.2.1, (h.1.2 10 0 (rc_1 h (by decide))).1⟩
theorem rc_r1209 {σ : TH} {G : GH} {A : AS} {N : Nat → Nat} (h : rc_ ka TX σ x G A N) : fr_ σ 1209 x = some (ga_ G 14 0) ∧ kd_ σ (ga_ G 14 0) = 6 := by
  have q := rc_f0 h
  exact ⟨q.1.2.2.2.2.2.2.2.2.2.1, (h.1.2 14 0 (rc_1 h (by decide))).1⟩
theorem rc_r1210 {σ : TH} {G : GH} {A : AS} {N : Nat → Nat} (h : rc_ ka TX σ x G A N) : fr_ σ 1210 x = some (ga_ G 17 0) ∧ kd_ σ (ga_ G 17 0) = 2 := by
  have q := rc_f0 h
  exact ⟨q.1.2.2.2.2.2.2.2.2.2.2.1, (h.1.2 17 0 (rc_1 h (by decide))).1⟩
theorem rc_r1218 {σ : TH} {G : GH} {A : AS} {N : Nat → Nat} (h : rc_ ka TX σ x G A N) : fr_ σ 1218 x = some (ga_ G 8 0) ∧ kd_ σ (ga_ G 8 0) = 1 := by
  have q := rc_f0 h
  exact ⟨q.1.2.2.2.2.2.2.2.2.2.2.2, (h.1.2 8 0 (rc_1 h (by decide))).1⟩
theorem ok_fault (hPV : pvS_ PV) : St_fault ka x y (inv_ ka TX PV x y o N0) := fun n c m hn hI => by
  obtain ⟨GC, GM, N, k1, k2, k3, k4, k5, k6, k7, k8⟩ := id hI
  have hx := rc_x k2
  have hy := mo_y k1
  obtain ⟨e1, e2⟩ := rc_r1208 k2
  obtain ⟨-, -, -, -, q, -⟩ := k2.2.2.2 10 0 (rc_1 k2 (by decide))
  refine ⟨fi_ c 702 (ga_ GC 10 0), c, si_ (bm_ m c) 1600 y 0, ?_, ?_, ask_ hI hPV⟩
  · simp [f_X11_fault, gt_, lt_, nn_, oc_, bd_, hx, e1, e2]
  · have q' : fi_ c 702 (ga_ GC 10 0) = fi_ m 1603 y := q
    simp [f_X15_fault, gt_t (show kd_ (bm_ m c) y = 17 from hy), lt_, kd_si, ln_si, fi_si, fr_si, fl_si, ai_si, ar_si, al_si, ow_si, nx_si, sl_si, kd_sr, ln_sr, fi_sr, fr_sr, fl_sr, ai_sr, ar_sr, al_sr, ow_sr, nx_sr, sl_sr, kd_so, ln_so, fi_so, fr_so, fl_so, ai_so, ar_so, al_so, ow_so, nx_so, sl_so, kd_sa, ln_sa, fi_sa, fr_sa, fl_sa, ai_sa, ar_sa, al_sa, ow_sa, nx_sa, sl_sa, kd_sq, ln_sq, fi_sq, fr_sq, fl_sq, ai_sq, ar_sq, al_sq, ow_sq, nx_sq, sl_sq, kd_sj, ln_sj, fi_sj, fr_sj, fl_sj, ai_sj, ar_sj, al_sj, ow_sj, nx_sj, sl_sj, up2_e, q']
    rfl
theorem ok_where (hPV : pvS_ PV) : St_where ka x y (inv_ ka TX PV x y o N0) := fun n c m hn hI => by
  obtain ⟨GC, GM, N, k1, k2, k3, k4, k5, k6, k7, k8⟩ := id hI
  have hx := rc_x k2
  have hy := mo_y k1
  obtain ⟨e1, e2⟩ := rc_r1208 k2
  obtain ⟨-, -, -, -, -, q6, q7⟩ := k2.2.2.2 10 0 (rc_1 k2 (by decide))
  obtain ⟨-, -, -, -, q, -⟩ := rc_f0 k2
  have q' : fi_ c 1214 x = fi_ m 1601 y := q
  have z6 : fi_ m 1601 y = 4 → fi_ c 703 (ga_ GC 10 0) = fi_ m 1602 y := q6
  have z7 : fi_ m 1601 y ≠ 4 → fi_ m 1602 y = -1 := q7
  refine ⟨fi_ m 1602 y, c, si_ (bm_ m c) 1600 y 0, ?_, ?_, ask_ hI hPV⟩
  · by_cases h4 : fi_ m 1601 y = 4
    · simp [f_X11_where, f_X11_where_b19, gt_, lt_, nn_, oc_, bd_, hx, e1, e2, q', h4, z6 h4]
    · simp [f_X11_where, f_X11_where_b19, gt_, lt_, nn_, oc_, bd_, hx, q', h4, z7 h4]
  · simp [f_X15_where, gt_t (show kd_ (bm_ m c) y = 17 from hy), lt_, kd_si, ln_si, fi_si, fr_si, fl_si, ai_si, ar_si, al_si, ow_si, nx_si, sl_si, kd_sr, ln_sr, fi_sr, fr_sr, fl_sr, ai_sr, ar_sr, al_sr, ow_sr, nx_sr, sl_sr, kd_so, ln_so, fi_so, fr_so, fl_so, ai_so, ar_so, al_so, ow_so, nx_so, sl_so, kd_sa, ln_sa, fi_sa, fr_sa, fl_sa, ai_sa, ar_sa, al_sa, ow_sa, nx_sa, sl_sa, kd_sq, ln_sq, fi_sq, fr_sq, fl_sq, ai_sq, ar_sq, al_sq, ow_sq, nx_sq, sl_sq, kd_sj, ln_sj, fi_sj, fr_sj, fl_sj, ai_sj, ar_sj, al_sj, ow_sj, nx_sj, sl_sj, up2_e]
    rfl
theorem m_isKind (σ : TH) (a : Int32) : f_X15_isKind σ a = some (bi_ (0 ≤ a ∧ a ≤ 9), σ) := by
  unfold f_X15_isKind f_X15_isKind_b14 f_X15_isKind_b15
  have e : (10 : Int32) ≤ a ↔ ¬ a ≤ 9 := by
    rw [Int32.le_iff_toInt_le, Int32.le_iff_toInt_le]
    have h1 : (10 : Int32).toInt = 10 := by decide
    have h2 : (9 : Int32).toInt = 9 := by decide
    rw [h1, h2]
    omega
  by_cases h1 : a < 0
  · rw [if_pos h1, gt_t (Or.inl rfl), bi_f (fun h => absurd h1 (Int32.not_lt.mpr h.1))]
  · rw [if_neg h1]
    by_cases h2 : (10 : Int32) ≤ a
    · rw [if_pos h2, gt_t (Or.inl rfl), bi_f (fun h => (e.mp h2) h.2)]
    · rw [if_neg h2, gt_t (Or.inr rfl), bi_t ⟨Int32.not_lt.mp h1, Classical.byContradiction (fun z => h2 (e.mpr z))⟩]
theorem k_isKind (σ : TH) (a : Int32) : f_X11_isKind σ a = some (bi_ (0 ≤ a ∧ a ≤ 9), σ) := by
  unfold f_X11_isKind
  rw [k_within, bd_s, gt_t bi_01]
theorem kind_ {a : Int32} (h : 0 ≤ a ∧ a ≤ 9) : ∃ k, k < 10 ∧ a = nI k := by
  obtain ⟨j, hj, e⟩ := nI_of2 (M := 9) (n := 9) (by decide) (Int32.not_lt.mpr h.1) h.2
  exact ⟨j, by omega, e⟩
theorem ok_keeps (hPV : pvS_ PV) (hV : ∀ (A : AS) (N : Nat → Nat) (S : Nat → Int32) (k : Nat) (v : Int32), k < 10 → 1 ≤ v ∧ v ≤ 3650 → PV A N → PV (S, up2_ (aV A) 18 k v, A.2.2) N) : St_keeps ka x y (inv_ ka TX PV x y o N0) := fun n c m a0 a1 hn hI => by
  obtain ⟨GC, GM, N, k1, k2, k3, k4, k5, k6, k7, k8⟩ := id hI
  have hx := rc_x k2
  have hy := mo_y k1
  by_cases g : (0 ≤ a0 ∧ a0 ≤ 9) ∧ (1 ≤ a1 ∧ a1 ≤ 3650)
  · obtain ⟨k, hk, rfl⟩ := kind_ g.1
    obtain ⟨e1, e2⟩ := rc_r1207 k2
    have e3 : ln_ c (ga_ GC 9 0) = 10 := (k2.1.2 9 0 (rc_1 k2 (by decide))).2.2.1 (by decide)
    obtain ⟨d1, d2, d3⟩ := mo_a k1 (j := 18) (cj := 1618) (K := 20) (n := 10) (by decide)
    have g1 : ¬ nI k < 0 := nI_pos (by omega)
    have g3 : (nI k).toNatClampNeg = k := nI_clamp (by omega)
    have g4 : ¬ 10 ≤ k := by omega
    have hne : ga_ GC 9 0 ≠ x := by rw [← k2.2.1.1]; exact sh_ne k2.1 (rc_1 k2 (by decide)) (rc_1 k2 (by decide)) (Or.inl (by decide))
    let c1 := si_ (sa_ c (ga_ GC 9 0) k a1) 1214 x 0
    have hb : mo_ (bm_ m c1) y GM N := mo_bm k1 (z := c1) (Nat.le_of_eq k5.1)
    have w := hb.1.1
    refine ⟨1, c1, tr_ (sa_ (si_ (bm_ m c1) 1600 y 0) (ga_ GM 18 0) k a1) y 0, ?_, ?_, ?_⟩
    · simp [c1, f_X11_keeps, f_X11_keeps_b18, gt_, lt_, nn_, oc_, bd_, kd_si, ln_si, fi_si, fr_si, fl_si, ai_si, ar_si, al_si, ow_si, nx_si, sl_si, kd_sr, ln_sr, fi_sr, fr_sr, fl_sr, ai_sr, ar_sr, al_sr, ow_sr, nx_sr, sl_sr, kd_so, ln_so, fi_so, fr_so, fl_so, ai_so, ar_so, al_so, ow_so, nx_so, sl_so, kd_sa, ln_sa, fi_sa, fr_sa, fl_sa, ai_sa, ar_sa, al_sa, ow_sa, nx_sa, sl_sa, kd_sq, ln_sq, fi_sq, fr_sq, fl_sq, ai_sq, ar_sq, al_sq, ow_sq, nx_sq, sl_sq, kd_sj, ln_sj, fi_sj, fr_sj, fl_sj, ai_sj, ar_sj, al_sj, ow_sj, nx_sj, sl_sj, up2_e, k_isKind, k_within, k_allowed, bi_, g.1, g.2, hx, e1, e2, e3, g1, g3, g4]
    · have f1 : fr_ (bm_ m c1) 1618 y = some (ga_ GM 18 0) := d1
      have f2 : kd_ (bm_ m c1) (ga_ GM 18 0) = 20 := d2
      have f3 : ln_ (bm_ m c1) (ga_ GM 18 0) = 10 := d3
      have f4 : kd_ (bm_ m c1) y = 17 := hy
      simp [f_X15_keeps, f_X15_keeps_b23, gt_, lt_, nn_, oc_, bd_, kd_si, ln_si, fi_si, fr_si, fl_si, ai_si, ar_si, al_si, ow_si, nx_si, sl_si, kd_sr, ln_sr, fi_sr, fr_sr, fl_sr, ai_sr, ar_sr, al_sr, ow_sr, nx_sr, sl_sr, kd_so, ln_so, fi_so, fr_so, fl_so, ai_so, ar_so, al_so, ow_so, nx_so, sl_so, kd_sa, ln_sa, fi_sa, fr_sa, fl_sa, ai_sa, ar_sa, al_sa, ow_sa, nx_sa, sl_sa, kd_sq, ln_sq, fi_sq, fr_sq, fl_sq, ai_sq, ar_sq, al_sq, ow_sq, nx_sq, sl_sq, kd_sj, ln_sj, fi_sj, fr_sj, fl_sj, ai_sj, ar_sj, al_sj, ow_sj, nx_sj, sl_sj, up2_e, m_isKind, m_in, m_granted, bi_, g.1, g.2, f1, f2, f3, f4, g1, g3, g4]
    · have hm1 : mo_ (si_ (bm_ m c1) 1600 y 0) y GM N := mo_si hb (by decide)
      have e : as_ (tr_ (sa_ (si_ (bm_ m c1) 1600 y 0) (ga_ GM 18 0) k a1) y 0) y GM = (s3_ (aS (as_ m y GM)) 0, up2_ (aV (as_ m y GM)) 18 k a1, (as_ m y GM).2.2) := by
        unfold tr_
        rw [as_si _ y GM 2 1602 (-1) rfl, as_si _ y GM 1 1601 0 rfl, as_sa hm1 18 k a1 (by decide), as_si _ y GM 0 1600 0 rfl]
        rfl
      refine inv_mk (T := fun q => q = x ∨ q = ga_ GC 9 0) (U := fun q => q = y ∨ q = ga_ GM 18 0) hI (fq_tr (fq_sa k2.1.1 (Or.inr rfl)) (fq_si k2.1.1 (Or.inl rfl))) ⟨Nat.le_add_right _ _, Nat.le_add_right _ _⟩ (fq_tr (fq_tr (fq_tr (fq_si w (Or.inl rfl)) (fq_sa w (Or.inr rfl))) (fq_si w (Or.inl rfl))) (fq_si w (Or.inl rfl))) ⟨Nat.le_add_right _ _, Nat.le_add_right _ _⟩ (GC := GC) (GM := GM) (N := N) (mo_tr (mo_sa hm1)) ?_ ?_
      · rw [e]
        refine rc_gen k2 (T := fun q => q = x ∨ q = ga_ GC 9 0) (fq_tr (fq_sa k2.1.1 (Or.inr rfl)) (fq_si k2.1.1 (Or.inl rfl))) (fun r i => r = 0 ∨ r = 10 ∨ r = 9) (fun r i hi hd hT => ?_) (fun r i mm hi hd h => ?_) (fun r i hi hd => ?_)
        · rcases hT with z | z
          · rw [← k2.2.1.1] at z
            exact sh_ne k2.1 hi (rc_1 k2 (by decide)) (Or.inl (fun q => hd (Or.inl q))) z
          · exact sh_ne k2.1 hi (rc_1 k2 (by decide)) (Or.inl (fun q => hd (Or.inr (Or.inr q)))) z
        · exact ob_V18 _ k a1 (fun q => hd (Or.inl q)) (fun q => hd (Or.inr (Or.inr q))) (fun q => hd (Or.inr (Or.inl q))) h
        · rcases hd with rfl | rfl | rfl
          · rw [g0_ k2 (by decide) hi, k2.2.1.1]
            refine ob_0 k2 0 _ _ rfl (fun c c1 => ?_) ?_
            · rw [xi_ce, fi_si, up2_c c1, fi_sa]
            · rw [xi_ce, fi_si, up2_s]
          · rw [g0_ k2 (by decide) hi]
            have : ce_ (si_ (sa_ c (ga_ GC 9 0) k a1) 1214 x 0) (ga_ GC 10 0) = ce_ c (ga_ GC 10 0) := by
              rw [ce_si (by rw [← k2.2.1.1]; exact sh_ne k2.1 (rc_1 k2 (by decide)) (rc_1 k2 (by decide)) (Or.inl (by decide))), ce_sa (sh_ne k2.1 (rc_1 k2 (by decide)) (rc_1 k2 (by decide)) (Or.inl (by decide)))]
            rw [this]
            exact ob_10 k2 0 (by decide) _
          · rw [g0_ k2 (by decide) hi]
            have q9 := k2.2.2.2 9 0 (rc_1 k2 (by decide))
            intro j hj
            rw [ce_si hne]
            show up2_ (ai_ c) (ga_ GC 9 0) k a1 (ga_ GC 9 0) j = up2_ (aV (as_ m y GM)) 18 k a1 18 j
            by_cases ej : j = k
            · subst ej; rw [up2_s, up2_s]
            · rw [up2_n ej, up2_n ej]
              exact q9 j hj
      · rw [e]
        exact hV _ _ _ k a1 hk g.2 k3
  · refine ⟨0, si_ c 1214 x 2, tr_ (si_ (bm_ m (si_ c 1214 x 2)) 1600 y 0) y 2, ?_, ?_, no_ hPV hI 2 (by decide)⟩
    · by_cases g1 : 0 ≤ a0 ∧ a0 ≤ 9
      · have g2 : ¬ (1 ≤ a1 ∧ a1 ≤ 3650) := fun z => g ⟨g1, z⟩
        simp [f_X11_keeps, f_X11_keeps_b18, gt_, lt_, nn_, oc_, bd_, k_isKind, k_within, k_denied, bi_, g1, g2, hx]
      · simp [f_X11_keeps, f_X11_keeps_b18, gt_, lt_, nn_, oc_, bd_, k_isKind, k_within, k_denied, bi_, g1, hx]
    · have f4 : kd_ (bm_ m (si_ c 1214 x 2)) y = 17 := hy
      by_cases g1 : 0 ≤ a0 ∧ a0 ≤ 9
      · have g2 : ¬ (1 ≤ a1 ∧ a1 ≤ 3650) := fun z => g ⟨g1, z⟩
        simp [f_X15_keeps, f_X15_keeps_b23, gt_, lt_, nn_, oc_, bd_, kd_si, ln_si, fi_si, fr_si, fl_si, ai_si, ar_si, al_si, ow_si, nx_si, sl_si, kd_sr, ln_sr, fi_sr, fr_sr, fl_sr, ai_sr, ar_sr, al_sr, ow_sr, nx_sr, sl_sr, kd_so, ln_so, fi_so, fr_so, fl_so, ai_so, ar_so, al_so, ow_so, nx_so, sl_so, kd_sa, ln_sa, fi_sa, fr_sa, fl_sa, ai_sa, ar_sa, al_sa, ow_sa, nx_sa, sl_sa, kd_sq, ln_sq, fi_sq, fr_sq, fl_sq, ai_sq, ar_sq, al_sq, ow_sq, nx_sq, sl_sq, kd_sj, ln_sj, fi_sj, fr_sj, fl_sj, ai_sj, ar_sj, al_sj, ow_sj, nx_sj, sl_sj, m_isKind, m_in, m_denied, bi_, g1, g2, f4]
      · simp [f_X15_keeps, f_X15_keeps_b23, gt_, lt_, nn_, oc_, bd_, kd_si, ln_si, fi_si, fr_si, fl_si, ai_si, ar_si, al_si, ow_si, nx_si, sl_si, kd_sr, ln_sr, fi_sr, fr_sr, fl_sr, ai_sr, ar_sr, al_sr, ow_sr, nx_sr, sl_sr, kd_so, ln_so, fi_so, fr_so, fl_so, ai_so, ar_so, al_so, ow_so, nx_so, sl_so, kd_sa, ln_sa, fi_sa, fr_sa, fl_sa, ai_sa, ar_sa, al_sa, ow_sa, nx_sa, sl_sa, kd_sq, ln_sq, fi_sq, fr_sq, fl_sq, ai_sq, ar_sq, al_sq, ow_sq, nx_sq, sl_sq, kd_sj, ln_sj, fi_sj, fr_sj, fl_sj, ai_sj, ar_sj, al_sj, ow_sj, nx_sj, sl_sj, m_isKind, m_in, m_denied, bi_, g1, f4]
end C47
