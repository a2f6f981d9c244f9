/-! ONE FIELD of an object and one place of an array, on both sides; hours, peril, embargo. Written by wip/b/mk48.py. -/
section C48
variable {ka : Nat → Nat} {TX : Nat → Nat → (Nat → Int32) → Nat → (Nat → Int32) → Prop} {PV : AS → (Nat → Nat) → Prop} {x y o N0 : Nat}
/-- role 31's field 306 and the reference's array 16 -/
theorem rf_31_306 {σ : TH} {G : GH} {A : AS} {N : Nat → Nat} (h : rc_ ka TX σ x G A N) {k : Nat} (hk : k < gc_ G 31) (v w : Int32) (hnew : ob_ ka TX (s3_ (aS A) 0, up2_ (aV A) 16 k w, A.2.2) G N 31 k (ce_ (si_ σ 306 (ga_ G 31 k) v) (ga_ G 31 k))) : rc_ ka TX (si_ (si_ σ 306 (ga_ G 31 k) v) 1214 x 0) x G (s3_ (aS A) 0, up2_ (aV A) 16 k w, A.2.2) N ∧ fq_ (fun q => q = x ∨ q = ga_ G 31 k) σ (si_ (si_ σ 306 (ga_ G 31 k) v) 1214 x 0) := by
  have hf : fq_ (fun q => q = x ∨ q = ga_ G 31 k) σ (si_ (si_ σ 306 (ga_ G 31 k) v) 1214 x 0) := fq_tr (fq_si h.1.1 (Or.inr rfl)) (fq_si h.1.1 (Or.inl rfl))
  have hx0 : ∀ r i, i < gc_ G r → r ≠ 0 → ga_ G r i ≠ x := fun r i hi hr => by rw [← h.2.1.1]; exact sh_ne h.1 hi (rc_1 h (by decide)) (Or.inl hr)
  refine ⟨rc_gen h hf (fun r i => r = 0 ∨ r = 10 ∨ r = 31) (fun r i hi hd hT => ?_) (fun r i mm hi hd h9 => ?_) (fun r i hi hd => ?_), hf⟩
  · rcases hT with z | z
    · exact hx0 r i hi (fun q => hd (Or.inl q)) z
    · exact sh_ne h.1 hi hk (Or.inl (fun q => hd (Or.inr (Or.inr q)))) z
  · exact ob_V16 _ k w (fun q => hd (Or.inl q)) (fun q => hd (Or.inr (Or.inl q))) (fun q => hd (Or.inr (Or.inr q))) h9
  · rcases hd with rfl | rfl | rfl
    · rw [g0_ h (by decide) hi, h.2.1.1]
      refine ob_0 h 0 _ _ rfl (fun c c1 => ?_) ?_
      · rw [xi_ce, fi_si, up2_c c1, fi_si]
        exact (by
          by_cases e : c = 306
          · subst e; exact up2_n (hx0 31 k hk (by decide)).symm
          · exact congrFun (up2_c e) x)
      · rw [xi_ce, fi_si, up2_s]
    · rw [g0_ h (by decide) hi]
      have : ce_ (si_ (si_ σ 306 (ga_ G 31 k) v) 1214 x 0) (ga_ G 10 0) = ce_ σ (ga_ G 10 0) := by
        rw [ce_si (hx0 10 0 (rc_1 h (by decide)) (by decide)), ce_si (sh_ne h.1 (rc_1 h (by decide)) hk (Or.inl (by decide)))]
      rw [this]
      exact ob_10 h 0 (by decide) _
    · rw [ce_si (hx0 31 i hi (by decide))]
      by_cases hik : i = k
      · subst hik
        exact hnew
      · rw [ce_si (sh_ne h.1 hi hk (Or.inr hik))]
        obtain ⟨q0, q1, q2, q3, q4, q5, q6, q7, q8, q9, q10, q11, q12, q13, q14⟩ := h.2.2.2 31 i hi
        exact ⟨q0, q1, q2, q3, q4, q5, by rw [show aV (s3_ (aS A) 0, up2_ (aV A) 16 k w, A.2.2) 16 i = aV A 16 i from up2_n hik]; exact q6, q7, q8, q9, q10, q11, q12, q13, by rw [show aV (s3_ (aS A) 0, up2_ (aV A) 16 k w, A.2.2) 16 i = aV A 16 i from up2_n hik]; exact q14⟩
/-- role 31's field 307 and the reference's array 13 -/
theorem rf_31_307 {σ : TH} {G : GH} {A : AS} {N : Nat → Nat} (h : rc_ ka TX σ x G A N) {k : Nat} (hk : k < gc_ G 31) (v w : Int32) (hnew : ob_ ka TX (s3_ (aS A) 0, up2_ (aV A) 13 k w, A.2.2) G N 31 k (ce_ (si_ σ 307 (ga_ G 31 k) v) (ga_ G 31 k))) : rc_ ka TX (si_ (si_ σ 307 (ga_ G 31 k) v) 1214 x 0) x G (s3_ (aS A) 0, up2_ (aV A) 13 k w, A.2.2) N ∧ fq_ (fun q => q = x ∨ q = ga_ G 31 k) σ (si_ (si_ σ 307 (ga_ G 31 k) v) 1214 x 0) := by
  have hf : fq_ (fun q => q = x ∨ q = ga_ G 31 k) σ (si_ (si_ σ 307 (ga_ G 31 k) v) 1214 x 0) := fq_tr (fq_si h.1.1 (Or.inr rfl)) (fq_si h.1.1 (Or.inl rfl))
  have hx0 : ∀ r i, i < gc_ G r → r ≠ 0 → ga_ G r i ≠ x := fun r i hi hr => by rw [← h.2.1.1]; exact sh_ne h.1 hi (rc_1 h (by decide)) (Or.inl hr)
  refine ⟨rc_gen h hf (fun r i => r = 0 ∨ r = 10 ∨ r = 31) (fun r i hi hd hT => ?_) (fun r i mm hi hd h9 => ?_) (fun r i hi hd => ?_), hf⟩
  · rcases hT with z | z
    · exact hx0 r i hi (fun q => hd (Or.inl q)) z
    · exact sh_ne h.1 hi hk (Or.inl (fun q => hd (Or.inr (Or.inr q)))) z
  · exact ob_V13 _ k w (fun q => hd (Or.inl q)) (fun q => hd (Or.inr (Or.inl q))) (fun q => hd (Or.inr (Or.inr q))) h9
  · rcases hd with rfl | rfl | rfl
    · rw [g0_ h (by decide) hi, h.2.1.1]
      refine ob_0 h 0 _ _ rfl (fun c c1 => ?_) ?_
      · rw [xi_ce, fi_si, up2_c c1, fi_si]
        exact (by
          by_cases e : c = 307
          · subst e; exact up2_n (hx0 31 k hk (by decide)).symm
          · exact congrFun (up2_c e) x)
      · rw [xi_ce, fi_si, up2_s]
    · rw [g0_ h (by decide) hi]
      have : ce_ (si_ (si_ σ 307 (ga_ G 31 k) v) 1214 x 0) (ga_ G 10 0) = ce_ σ (ga_ G 10 0) := by
        rw [ce_si (hx0 10 0 (rc_1 h (by decide)) (by decide)), ce_si (sh_ne h.1 (rc_1 h (by decide)) hk (Or.inl (by decide)))]
      rw [this]
      exact ob_10 h 0 (by decide) _
    · rw [ce_si (hx0 31 i hi (by decide))]
      by_cases hik : i = k
      · subst hik
        exact hnew
      · rw [ce_si (sh_ne h.1 hi hk (Or.inr hik))]
        obtain ⟨q0, q1, q2, q3, q4, q5, q6, q7, q8, q9, q10, q11, q12, q13, q14⟩ := h.2.2.2 31 i hi
        exact ⟨q0, q1, q2, q3, q4, q5, q6, by rw [show aV (s3_ (aS A) 0, up2_ (aV A) 13 k w, A.2.2) 13 i = aV A 13 i from up2_n hik]; exact q7, q8, q9, q10, q11, q12, q13, q14⟩
/-- role 30's field 1100 and the reference's array 7 -/
theorem rf_30_1100 {σ : TH} {G : GH} {A : AS} {N : Nat → Nat} (h : rc_ ka TX σ x G A N) {k : Nat} (hk : k < gc_ G 30) (v w : Int32) (hnew : ob_ ka TX (s3_ (aS A) 0, up2_ (aV A) 7 k w, A.2.2) G N 30 k (ce_ (si_ σ 1100 (ga_ G 30 k) v) (ga_ G 30 k))) : rc_ ka TX (si_ (si_ σ 1100 (ga_ G 30 k) v) 1214 x 0) x G (s3_ (aS A) 0, up2_ (aV A) 7 k w, A.2.2) N ∧ fq_ (fun q => q = x ∨ q = ga_ G 30 k) σ (si_ (si_ σ 1100 (ga_ G 30 k) v) 1214 x 0) := by
  have hf : fq_ (fun q => q = x ∨ q = ga_ G 30 k) σ (si_ (si_ σ 1100 (ga_ G 30 k) v) 1214 x 0) := fq_tr (fq_si h.1.1 (Or.inr rfl)) (fq_si h.1.1 (Or.inl rfl))
  have hx0 : ∀ r i, i < gc_ G r → r ≠ 0 → ga_ G r i ≠ x := fun r i hi hr => by rw [← h.2.1.1]; exact sh_ne h.1 hi (rc_1 h (by decide)) (Or.inl hr)
  refine ⟨rc_gen h hf (fun r i => r = 0 ∨ r = 10 ∨ r = 30) (fun r i hi hd hT => ?_) (fun r i mm hi hd h9 => ?_) (fun r i hi hd => ?_), hf⟩
  · rcases hT with z | z
    · exact hx0 r i hi (fun q => hd (Or.inl q)) z
    · exact sh_ne h.1 hi hk (Or.inl (fun q => hd (Or.inr (Or.inr q)))) z
  · exact ob_V7 _ k w (fun q => hd (Or.inl q)) (fun q => hd (Or.inr (Or.inl q))) (fun q => hd (Or.inr (Or.inr q))) h9
  · rcases hd with rfl | rfl | rfl
    · rw [g0_ h (by decide) hi, h.2.1.1]
      refine ob_0 h 0 _ _ rfl (fun c c1 => ?_) ?_
      · rw [xi_ce, fi_si, up2_c c1, fi_si]
        exact (by
          by_cases e : c = 1100
          · subst e; exact up2_n (hx0 30 k hk (by decide)).symm
          · exact congrFun (up2_c e) x)
      · rw [xi_ce, fi_si, up2_s]
    · rw [g0_ h (by decide) hi]
      have : ce_ (si_ (si_ σ 1100 (ga_ G 30 k) v) 1214 x 0) (ga_ G 10 0) = ce_ σ (ga_ G 10 0) := by
        rw [ce_si (hx0 10 0 (rc_1 h (by decide)) (by decide)), ce_si (sh_ne h.1 (rc_1 h (by decide)) hk (Or.inl (by decide)))]
      rw [this]
      exact ob_10 h 0 (by decide) _
    · rw [ce_si (hx0 30 i hi (by decide))]
      by_cases hik : i = k
      · subst hik
        exact hnew
      · rw [ce_si (sh_ne h.1 hi hk (Or.inr hik))]
        obtain ⟨q0, q1, q2⟩ := h.2.2.2 30 i hi
        exact ⟨by rw [show aV (s3_ (aS A) 0, up2_ (aV A) 7 k w, A.2.2) 7 i = aV A 7 i from up2_n hik]; exact q0, q1, q2⟩
/-- what stands behind a call that wrote one place of the reference's array j -/
theorem inv_1 {n : Nat} {c m : TH} (hI : inv_ ka TX PV x y o N0 n c m) {GC GM : GH} {N : Nat → Nat} (k1 : mo_ m y GM N) (k5 : nx_ m = nx_ c) {T : Nat → Prop} {c1 : TH} (hf : fq_ T c c1) (hn : nx_ c1 = nx_ c) (hs : sl_ c1 = sl_ c) (j k : Nat) (w : Int32) (hj : j ∈ MA) (hr : rc_ ka TX c1 x GC (s3_ (aS (as_ m y GM)) 0, up2_ (aV (as_ m y GM)) j k w, (as_ m y GM).2.2) N) (hp : PV (s3_ (aS (as_ m y GM)) 0, up2_ (aV (as_ m y GM)) j k w, (as_ m y GM).2.2) N) : wf_ c1 ∧ wf_ (tr_ (sa_ (si_ (bm_ m c1) 1600 y 0) (ga_ GM j 0) k w) y 0) ∧ inv_ ka TX PV x y o N0 (n + 1) (bm_ c1 (tr_ (sa_ (si_ (bm_ m c1) 1600 y 0) (ga_ GM j 0) k w) y 0)) (tr_ (sa_ (si_ (bm_ m c1) 1600 y 0) (ga_ GM j 0) k w) y 0) := by
  have hb : mo_ (bm_ m c1) y GM N := mo_bm k1 (z := c1) (by rw [hn, k5]; exact Nat.le_refl _)
  have w1 := hb.1.1
  have hm1 : mo_ (si_ (bm_ m c1) 1600 y 0) y GM N := mo_si hb (by decide)
  have e : as_ (tr_ (sa_ (si_ (bm_ m c1) 1600 y 0) (ga_ GM j 0) k w) y 0) y GM = (s3_ (aS (as_ m y GM)) 0, up2_ (aV (as_ m y GM)) j k w, (as_ m y GM).2.2) := by
    unfold tr_
    rw [as_si _ y GM 2 1602 (-1) rfl, as_si _ y GM 1 1601 0 rfl, as_sa hm1 j k w hj, as_si _ y GM 0 1600 0 rfl]
    rfl
  refine inv_mk (U := fun q => q = y ∨ q = ga_ GM j 0) hI hf ⟨by rw [hn]; exact Nat.le_add_right _ _, by rw [hs]; exact Nat.le_add_right _ _⟩ (fq_tr (fq_tr (fq_tr (fq_si w1 (Or.inl rfl)) (fq_sa w1 (Or.inr rfl))) (fq_si w1 (Or.inl rfl))) (fq_si w1 (Or.inl rfl))) ⟨Nat.le_add_right _ _, Nat.le_add_right _ _⟩ (GC := GC) (GM := GM) (N := N) (mo_tr (mo_sa hm1)) ?_ ?_
  · rw [e]; exact hr
  · rw [e]; exact hp
theorem zo_01 (a : Int32) : zo_ a = 0 ∨ zo_ a = 1 := by
  unfold zo_
  split
  · exact Or.inl rfl
  · exact Or.inr rfl
theorem zo_nar (a : Int32) : vp_nar .boolean (zo_ a) = zo_ a := by
  rcases zo_01 a with h | h <;> rw [h] <;> rfl
/-- what stands between 0 and the last of n -/
theorem rg_in {k n : Nat} (hk : k < n) (hn : n < 2 ^ 31) : (0 : Int32) ≤ nI k ∧ nI k ≤ nI n - 1 := by
  obtain ⟨q, rfl⟩ : ∃ q, n = q + 1 := ⟨n - 1, by omega⟩
  rw [nI_pred]
  exact ⟨nI_pos' (by omega), nI_le (by omega) (by omega)⟩
theorem rg_out {a : Int32} {n : Nat} (hn : n < 2 ^ 31) (h : a < 0 ∨ nI n ≤ a) : ¬ ((0 : Int32) ≤ a ∧ a ≤ nI n - 1) := fun z => by
  rcases h with h | h
  · exact absurd h (Int32.not_lt.mpr z.1)
  · obtain ⟨j, hj, rfl⟩ := nI_of (Int32.not_lt.mpr z.1)
    have h1 : n ≤ j := (nI_leI hn hj).mp h
    rcases Nat.eq_zero_or_pos n with e | e
    · subst e
      have h2 : nI 0 - 1 = (-1 : Int32) := by decide
      rw [h2] at z
      exact absurd (Int32.le_trans z.1 z.2) (by decide)
    · obtain ⟨q, rfl⟩ : ∃ q, n = q + 1 := ⟨n - 1, by omega⟩
      rw [nI_pred] at z
      have h3 := (nI_leI hj (by omega)).mp z.2
      omega
theorem k_person1 {σ : TH} {G : GH} {A : AS} {N : Nat → Nat} (h : rc_ ka TX σ x G A N) (hN : N 5 ≤ 30) {k : Nat} (hk : k < N 5) : f_X11_personAt σ x (nI k) = some (some (ga_ G 31 k), σ) ∧ kd_ σ (ga_ G 31 k) = 4 := by
  have hx := rc_x h
  obtain ⟨e1, e2⟩ := rc_r1201 h
  have hl := rc_l2 h (by omega)
  have l1 := l_size hl
  have l2 := l_get hl hk
  have hc : gc_ G 31 = N 5 := by
    have := h.2.2.1
    unfold cg_ at this
    simp only [this]
  have hkd : kd_ σ (ga_ G 31 k) = 4 := (h.1.2 31 k (by rw [hc]; exact hk)).1
  have g := rg_in hk (show N 5 < 2 ^ 31 by omega)
  refine ⟨?_, hkd⟩
  simp [f_X11_personAt, f_X11_personAt_b32, gt_, lt_, nn_, oc_, bd_, hx, e1, e2, l1, l2, k_within, bi_, g, hkd]
theorem k_person0 {σ : TH} {G : GH} {A : AS} {N : Nat → Nat} (h : rc_ ka TX σ x G A N) (hN : N 5 ≤ 30) {a : Int32} (ha : a < 0 ∨ nI (N 5) ≤ a) : f_X11_personAt σ x a = some (none, σ) := by
  have hx := rc_x h
  obtain ⟨e1, e2⟩ := rc_r1201 h
  have hl := rc_l2 h (by omega)
  have l1 := l_size hl
  have g := rg_out (show N 5 < 2 ^ 31 by omega) ha
  simp [f_X11_personAt, f_X11_personAt_b32, gt_, lt_, nn_, oc_, bd_, hx, e1, e2, l1, k_within, bi_, g]
theorem ok_peril (hPV : pvS_ PV) (hV : ∀ (A : AS) (N : Nat → Nat) (S : Nat → Int32) (k : Nat) (v : Int32), k < N 5 → v = 0 ∨ v = 1 → PV A N → PV (S, up2_ (aV A) 16 k v, A.2.2) N) : St_peril ka x y (inv_ ka TX PV x y o N0) := fun n c m a0 a1 hn hI => by
  obtain ⟨GC, GM, N, k1, k2, k3, k4, k5, k6, k7, k8⟩ := id hI
  have hx := rc_x k2
  have hy := mo_y k1
  have hN := (mo_n k1 (j := 5) (cj := 1605) (m := 30) (by decide)).2
  rcases rg_ a0 (n := N 5) (by omega) with ⟨k, hk, rfl⟩ | hout
  · obtain ⟨p1, p2⟩ := k_person1 k2 hN hk
    have hc : k < gc_ GC 31 := by
      have := k2.2.2.1
      unfold cg_ at this
      simp only [this]
      exact hk
    obtain ⟨d1, d2, d3⟩ := mo_a k1 (j := 16) (cj := 1616) (K := 22) (n := 30) (by decide)
    have g1 : ¬ nI k < 0 := nI_pos (by omega)
    have g3 : (nI k).toNatClampNeg = k := nI_clamp (by omega)
    have g4 : ¬ 30 ≤ k := by omega
    have z1 := zo_01 a1
    obtain ⟨r1, r2⟩ := rf_31_306 k2 hc (zo_ a1) (zo_ a1) (by
      obtain ⟨q0, q1, q2, q3, q4, q5, q6, q7, q8, q9, q10, q11, q12, q13, q14⟩ := k2.2.2.2 31 k hc
      refine ⟨q0, q1, q2, q3, q4, q5, ?_, q7, q8, q9, q10, q11, q12, q13, ?_⟩
      · show up2_ (fi_ c) 306 (ga_ GC 31 k) (zo_ a1) 306 (ga_ GC 31 k) = up2_ (aV (as_ m y GM)) 16 k (zo_ a1) 16 k
        rw [up2_s, up2_s]
      · show up2_ (aV (as_ m y GM)) 16 k (zo_ a1) 16 k = 0 ∨ up2_ (aV (as_ m y GM)) 16 k (zo_ a1) 16 k = 1
        rw [up2_s]; exact z1)
    refine ⟨1, _, _, ?_, ?_, inv_1 hI k1 k5.1 r2 rfl rfl 16 k (zo_ a1) (by decide) r1 (hV _ _ _ k _ hk z1 k3)⟩
    · simp [f_X11_peril, gt_, lt_, nn_, oc_, bd_, kd_si, ln_si, fi_si, fr_si, fl_si, ai_si, ar_si, al_si, ow_si, nx_si, sl_si, kd_sr, ln_sr, fi_sr, fr_sr, fl_sr, ai_sr, ar_sr, al_sr, ow_sr, nx_sr, sl_sr, kd_so, ln_so, fi_so, fr_so, fl_so, ai_so, ar_so, al_so, ow_so, nx_so, sl_so, kd_sa, ln_sa, fi_sa, fr_sa, fl_sa, ai_sa, ar_sa, al_sa, ow_sa, nx_sa, sl_sa, kd_sq, ln_sq, fi_sq, fr_sq, fl_sq, ai_sq, ar_sq, al_sq, ow_sq, nx_sq, sl_sq, kd_sj, ln_sj, fi_sj, fr_sj, fl_sj, ai_sj, ar_sj, al_sj, ow_sj, nx_sj, sl_sj, up2_e, hx, p1, p2, z1, k_allowed]
    · have f1 : fr_ (bm_ m (si_ (si_ c 306 (ga_ GC 31 k) (zo_ a1)) 1214 x 0)) 1616 y = some (ga_ GM 16 0) := d1
      have f2 : kd_ (bm_ m (si_ (si_ c 306 (ga_ GC 31 k) (zo_ a1)) 1214 x 0)) (ga_ GM 16 0) = 22 := d2
      have f3 : ln_ (bm_ m (si_ (si_ c 306 (ga_ GC 31 k) (zo_ a1)) 1214 x 0)) (ga_ GM 16 0) = 30 := d3
      have f4 : kd_ (bm_ m (si_ (si_ c 306 (ga_ GC 31 k) (zo_ a1)) 1214 x 0)) y = 17 := hy
      have f5 := m_isPerson1 (mo_si (c := 1600) (v := 0) (mo_bm k1 (z := si_ (si_ c 306 (ga_ GC 31 k) (zo_ a1)) 1214 x 0) (Nat.le_of_eq k5.1)) (by decide)) hk
      simp [f_X15_peril, gt_, lt_, nn_, oc_, bd_, kd_si, ln_si, fi_si, fr_si, fl_si, ai_si, ar_si, al_si, ow_si, nx_si, sl_si, kd_sr, ln_sr, fi_sr, fr_sr, fl_sr, ai_sr, ar_sr, al_sr, ow_sr, nx_sr, sl_sr, kd_so, ln_so, fi_so, fr_so, fl_so, ai_so, ar_so, al_so, ow_so, nx_so, sl_so, kd_sa, ln_sa, fi_sa, fr_sa, fl_sa, ai_sa, ar_sa, al_sa, ow_sa, nx_sa, sl_sa, kd_sq, ln_sq, fi_sq, fr_sq, fl_sq, ai_sq, ar_sq, al_sq, ow_sq, nx_sq, sl_sq, kd_sj, ln_sj, fi_sj, fr_sj, fl_sj, ai_sj, ar_sj, al_sj, ow_sj, nx_sj, sl_sj, up2_e, f1, f2, f3, f4, f5, g1, g3, g4, m_granted, zo_nar]
  · refine ⟨0, si_ c 1214 x 1, tr_ (si_ (bm_ m (si_ c 1214 x 1)) 1600 y 0) y 1, ?_, ?_, no_ hPV hI 1 (by decide)⟩
    · simp [f_X11_peril, gt_, lt_, nn_, oc_, bd_, hx, k_person0 k2 hN hout, k_denied]
    · have f4 : kd_ (bm_ m (si_ c 1214 x 1)) y = 17 := hy
      have f5 := m_isPerson0 (mo_si (c := 1600) (v := 0) (mo_bm k1 (z := si_ c 1214 x 1) (Nat.le_of_eq k5.1)) (by decide)) hout
      simp [f_X15_peril, gt_, lt_, nn_, oc_, bd_, kd_si, ln_si, fi_si, fr_si, fl_si, ai_si, ar_si, al_si, ow_si, nx_si, sl_si, kd_sr, ln_sr, fi_sr, fr_sr, fl_sr, ai_sr, ar_sr, al_sr, ow_sr, nx_sr, sl_sr, kd_so, ln_so, fi_so, fr_so, fl_so, ai_so, ar_so, al_so, ow_so, nx_so, sl_so, kd_sa, ln_sa, fi_sa, fr_sa, fl_sa, ai_sa, ar_sa, al_sa, ow_sa, nx_sa, sl_sa, kd_sq, ln_sq, fi_sq, fr_sq, fl_sq, ai_sq, ar_sq, al_sq, ow_sq, nx_sq, sl_sq, kd_sj, ln_sj, fi_sj, fr_sj, fl_sj, ai_sj, ar_sj, al_sj, ow_sj, nx_sj, sl_sj, f4, f5, m_denied]
end C48
