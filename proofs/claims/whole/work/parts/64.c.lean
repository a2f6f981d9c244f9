/-! CALLS: correct. Written by wip/b/mk64.py. -/
section C64
variable {ka : Nat → Nat} {TX : Nat → Nat → (Nat → Int32) → Nat → (Nat → Int32) → Prop} {x y o N0 : Nat}
theorem rc_cor {σ τ : TH} {G : GH} {A : AS} {N : Nat → Nat} (h : rc_ ka TX σ x G A N) {e k : Nat} (he : e < N 71) (hk : k < 10) {v w u : Int32} (hv : v = aE A 1307 e ||| ((1 : Int32) <<< (nI k &&& 31))) (e0 : τ = si_ (si_ (sa_ σ (ga_ G 48 e) k u) 207 (ga_ G 46 e) w) 1214 x 0) : rc_ ka TX τ x G (s3_ (aS A) 0, (sF9 (sE9 A (up2_ (up2_ (aE A) 1307 e v) 1308 e w)) (up2_ (aF A) e k u)).2) N ∧ fq_ (fun a => a = x ∨ a = ga_ G 46 e ∨ a = ga_ G 48 e) σ τ := by
  obtain ⟨c1, c2, c3⟩ := rc_46 h
  have h46 : e < gc_ G 46 := by rw [c1]; exact he
  have h48 : e < gc_ G 48 := by rw [c3]; exact he
  have hf : fq_ (fun a => a = x ∨ a = ga_ G 46 e ∨ a = ga_ G 48 e) σ τ := by
    rw [e0]
    exact fqi (fqi (fqa (fq_rf h.1.1) (Or.inr (Or.inr rfl))) (Or.inr (Or.inl rfl))) (Or.inl rfl)
  have hx46 := rc_nx h h46 (by decide)
  have hx48 := rc_nx h h48 (by decide)
  refine ⟨rc_gen h hf (fun r i => r ∈ ([0, 10, 46, 48] : List Nat)) (tne_ (T := fun a => a = x ∨ a = ga_ G 46 e ∨ a = ga_ G 48 e) h.1 (fun a ha => ?_)) (fun r i mm hi hd2 h9 => ob_cor _ _ _ _ _ _ hd2 h9) (fun r i hi hd2 => ?_), hf⟩
  · rcases ha with ha | ha | ha
    · exact ⟨0, 0, by decide, rc_1 h (by decide), ha.trans h.2.1.1.symm⟩
    · exact ⟨46, e, by decide, h46, ha⟩
    · exact ⟨48, e, by decide, h48, ha⟩
  · simp only [List.mem_cons, List.not_mem_nil, or_false] at hd2
    rcases hd2 with rfl | rfl | rfl | rfl
    · rw [g0_ h (by decide) hi, h.2.1.1]
      refine ob_0b h 0 _ (fun c => by rw [e0]; rfl) (fun c c1 => ?_) ?_ (fun _ _ => rfl)
      · rw [e0, fi_si, up2_c c1, fi_si, up2_ne (fun z => hx46 z.2.symm), fi_sa]
      · rw [e0, fi_si, up2_s]
    · rw [g0_ h (by decide) hi]
      have : ce_ τ (ga_ G 10 0) = ce_ σ (ga_ G 10 0) := by
        rw [e0, ce_si (rc_nx h (rc_1 h (by decide)) (by decide)), ce_si (sh_ne h.1 (rc_1 h (by decide)) h46 (Or.inl (by decide))), ce_sa (sh_ne h.1 (rc_1 h (by decide)) h48 (Or.inl (by decide)))]
      rw [this]
      exact ob_10 h 0 (by decide) _
    · rw [e0, ce_si (rc_nx h hi (by decide))]
      obtain ⟨q0, q1, q2, q3, q4, q5, q6, q7, q8, q9⟩ := h.2.2.2 46 i hi
      by_cases z : i = e
      · subst z
        have hs : ce_ (sa_ σ (ga_ G 48 i) k u) (ga_ G 46 i) = ce_ σ (ga_ G 46 i) := ce_sa (sh_ne h.1 hi h48 (Or.inl (by decide)))
        refine ⟨q0, q1, q2, q3, q4, q5, q6, ?_, q8, q9⟩
        show up2_ (fi_ (sa_ σ (ga_ G 48 i) k u)) 207 (ga_ G 46 i) w 207 (ga_ G 46 i) = up2_ (up2_ (aE A) 1307 i v) 1308 i w 1308 i
        rw [up2_s, up2_s]
      · rw [ce_si (sh_ne h.1 hi h46 (Or.inr z)), ce_sa (sh_ne h.1 hi h48 (Or.inl (by decide)))]
        refine ⟨q0, q1, q2, q3, q4, q5, q6, ?_, q8, q9⟩
        show _ = up2_ (up2_ (aE A) 1307 e v) 1308 e w 1308 i
        rw [up2_n z]
        exact q7
    · rw [e0, ce_si (rc_nx h hi (by decide)), ce_si (sh_ne h.1 hi h46 (Or.inl (by decide)))]
      have q := h.2.2.2 48 i hi
      by_cases z : i = e
      · subst z
        intro j hj hb
        have hb : aE A 1306 i &&& ((1 : Int32) <<< nI j) ≠ 0 := hb
        show up2_ (ai_ σ) (ga_ G 48 i) k u (ga_ G 48 i) j = if up2_ (aE A) 1307 i v 1307 i &&& ((1 : Int32) <<< nI j) ≠ 0 then up2_ (aF A) i k u i j else aD A i j
        rw [up2_s (f := aE A)]
        have hbt : bt v j = (bt (aE A 1307 i) j || decide (j = k)) := by
          rw [hv, b_or, b_shl k (by omega) 1 (by omega)]
          by_cases w9 : j = k
          · subst w9; simp [b_1 0 (by decide)]
          · by_cases w8 : k ≤ j
            · rw [b_1 (j - k) (by omega)]; simp [w9, w8, show ¬ j - k = 0 by omega]
            · simp [w9, w8]
        by_cases w9 : j = k
        · subst w9
          rw [up2_s, up2_s, if_pos (fun z => by rw [bit_and' _ (by omega), hbt] at z; simp at z)]
        · rw [up2_n w9, up2_n w9]
          have q1 := q j hj hb
          have q1 : ai_ σ (ga_ G 48 i) j = if aE A 1307 i &&& ((1 : Int32) <<< nI j) ≠ 0 then aF A i j else aD A i j := q1
          rw [q1]
          have hiff : (v &&& ((1 : Int32) <<< nI j) ≠ 0) ↔ (aE A 1307 i &&& ((1 : Int32) <<< nI j) ≠ 0) := by
            rw [ne_eq, ne_eq, bit_and' _ (by omega), bit_and' _ (by omega), hbt]
            simp [w9]
          by_cases w7 : aE A 1307 i &&& ((1 : Int32) <<< nI j) ≠ 0
          · rw [if_pos w7, if_pos (hiff.mpr w7)]
          · rw [if_neg w7, if_neg (fun z => w7 (hiff.mp z))]
      · rw [ce_sa (sh_ne h.1 hi h48 (Or.inr z))]
        intro j hj hb
        have q1 := q j hj hb
        show _ = if up2_ (aE A) 1307 e v 1307 i &&& ((1 : Int32) <<< nI j) ≠ 0 then up2_ (aF A) e k u i j else aD A i j
        rw [up2_n z, show up2_ (aF A) e k u i j = aF A i j from congrFun (up2_c z) j]
        exact q1
theorem ok_correct : St_correct ka x y (inv_ ka TX pv_ x y o N0) := fun n c m a0 a1 hn hI => by
  obtain ⟨GC, GM, N, k1, k2, k3, k4, k5, k6, k7, k8⟩ := id hI
  have hN := (mo_n k1 (j := 5) (cj := 1605) (m := 30) (by decide)).2
  obtain ⟨e6, hN6⟩ := mo_n k1 (j := 6) (cj := 1606) (m := 5257439) (by decide)
  have hb : mr_ (bm_ m c) y GM (as_ m y GM) N := mr_bm (mr_of k1) (Nat.le_of_eq k5.1)
  have hx := rc_x k2
  have hN71 := (mo_n k1 (j := 71) (cj := 1671) (m := 80) (by decide)).2
  have hN17 := (mo_n k1 (j := 17) (cj := 1617) (m := 240) (by decide)).2
  rcases ek9_ N hN71 a0 a1 with ⟨e, k, he, hk, rfl, rfl⟩ | hout
  · obtain ⟨p, ⟨hp, hpe⟩, hE⟩ := k3.2.2.2.2.1 e he
    obtain ⟨p1, p2⟩ := k_editionAt1 k2 hN71 he
    obtain ⟨⟨q0, -, -, -, -, -, q6, q7⟩, -, ⟨s1, s2, s3, s4⟩⟩ := k_ed k2 he
    rw [hpe] at q0
    have hpr := k_hasPrinted k2 he hk
    have hw := k_isWrong k2 he hp hN hk hpe hE
    have g5 := kd9_ hk
    have g1 : ¬ nI k < 0 := nI_pos (by omega)
    have g3 : (nI k).toNatClampNeg = k := nI_clamp (by omega)
    have g4 : ¬ 10 ≤ k := by omega
    have g1b : ¬ nI e < 0 := nI_pos (by omega)
    have g3b : (nI e).toNatClampNeg = e := nI_clamp (by omega)
    have g4b : ¬ 80 ≤ e := by omega
    have sb := bit_shr (aE (as_ m y GM) 1306 e) (k := k) (by omega)
    have sw := bit_shr (bo_ (wr9_ (as_ m y GM) N e p) 10) (k := k) (by omega)
    rw [bt_bo _ 10 (by decide) k (by omega), decide_eq_true hk, Bool.true_and] at sw
    by_cases z : bt (aE (as_ m y GM) 1306 e) k = true
    · by_cases z2 : wr9_ (as_ m y GM) N e p k = true
      · have hne := hE k hk (fun q => by rw [bit_and' _ (by omega)] at q; rw [q] at z; cases z)
        obtain ⟨t, ht⟩ := Option.ne_none_iff_exists'.mp hne
        have s4 := s4 k hk z
        have vn := fun v => k_valueNow k2 hp hN hk ht v
        obtain ⟨w1, w2⟩ := rc_cor k2 he hk (w := aE (as_ m y GM) 1308 e + 1) (u := vn9_ (as_ m y GM) N p k) rfl rfl
        have kl : kd_ c (ga_ GC 46 e) = 3 := p2
        have ne46 : ga_ GC 48 e ≠ ga_ GC 46 e := sh_ne k2.1 (by rw [(rc_46 k2).2.2]; exact he) (by rw [(rc_46 k2).1]; exact he) (Or.inl (by decide))
        have g1c : f_X11_correct c x (nI e) (nI k) = some (1, si_ (si_ (sa_ c (ga_ GC 48 e) k (vn9_ (as_ m y GM) N p k)) 207 (ga_ GC 46 e) (aE (as_ m y GM) 1308 e + 1)) 1214 x 0) := by
          simp [f_X11_correct, gt_, lt_, nn_, oc_, bd_, kd_si, ln_si, fi_si, fr_si, fl_si, ai_si, ar_si, al_si, ow_si, nx_si, sl_si, kd_sr, ln_sr, fi_sr, fr_sr, fl_sr, ai_sr, ar_sr, al_sr, ow_sr, nx_sr, sl_sr, kd_so, ln_so, fi_so, fr_so, fl_so, ai_so, ar_so, al_so, ow_so, nx_so, sl_so, kd_sa, ln_sa, fi_sa, fr_sa, fl_sa, ai_sa, ar_sa, al_sa, ow_sa, nx_sa, sl_sa, kd_sq, ln_sq, fi_sq, fr_sq, fl_sq, ai_sq, ar_sq, al_sq, ow_sq, nx_sq, sl_sq, kd_sj, ln_sj, fi_sj, fr_sj, fl_sj, ai_sj, ar_sj, al_sj, ow_sj, nx_sj, sl_sj, hx, p1, p2, hpr, z, bi_, hw, z2, s1, s2, s3, s4, q0, q7, g1, g3, g4, vn, k_allowed]
        have h0 := mr_bm (z := si_ (si_ (sa_ c (ga_ GC 48 e) k (vn9_ (as_ m y GM) N p k)) 207 (ga_ GC 46 e) (aE (as_ m y GM) 1308 e + 1)) 1214 x 0) (mr_of k1) (Nat.le_of_eq k5.1)
        have h1 := mr_si h0 (j := 0) (c := 1600) (by decide) 0
        have hwf := h0.1.1.1
        have hbcc : nx_ (si_ (si_ (sa_ c (ga_ GC 48 e) k (vn9_ (as_ m y GM) N p k)) 207 (ga_ GC 46 e) (aE (as_ m y GM) 1308 e + 1)) 1214 x 0) ≤ nx_ c + 400 ∧ sl_ (si_ (si_ (sa_ c (ga_ GC 48 e) k (vn9_ (as_ m y GM) N p k)) 207 (ga_ GC 46 e) (aE (as_ m y GM) 1308 e + 1)) 1214 x 0) ≤ sl_ c + 6000 := ⟨Nat.le_add_right _ _, Nat.le_add_right _ _⟩
        generalize si_ (si_ (sa_ c (ga_ GC 48 e) k (vn9_ (as_ m y GM) N p k)) 207 (ga_ GC 46 e) (aE (as_ m y GM) 1308 e + 1)) 1214 x 0 = cc at h0 h1 hwf g1c w1 w2 hbcc
        obtain ⟨m1, hm1⟩ : ∃ m1, m1 = tr_ (si_ (sa_ (si_ (si_ (bm_ m cc) 1600 y 0) 1307 (ga_ GM 104 e) (aE (as_ m y GM) 1307 e ||| ((1 : Int32) <<< (nI k &&& 31)))) (ga_ GM 106 e) k (vn9_ (as_ m y GM) N p k)) 1308 (ga_ GM 104 e) (aE (as_ m y GM) 1308 e + 1)) y 0 := ⟨_, rfl⟩
        have mr1 := mr_siE h1 he (c := 1307) (by decide) (aE (as_ m y GM) 1307 e ||| ((1 : Int32) <<< (nI k &&& 31)))
        have mr2 := mr_saF mr1 he k (vn9_ (as_ m y GM) N p k)
        have mr3 := mr_siE mr2 he (c := 1308) (by decide) (aE (as_ m y GM) 1308 e + 1)
        have g1r : f_X15_correct (bm_ m cc) y (nI e) (nI k) = some (1, m1) := by
          rw [hm1]
          have w := m_wrongOf h1 k3.1 he hpe hE
          unfold f_X15_correct
          rw [gt_t (mo_yb k1), lt_e]
          generalize si_ (bm_ m cc) 1600 y 0 = σ at h1 w mr1 mr2 mr3 ⊢
          have hy := mo_y h1.1
          have i5 := m_isEdition1 h1 he
          obtain ⟨v1, v2, v3, v4, v5, v6, v7, v8, v9⟩ := mr_E h1 he
          have u6 := v1 1306 (by decide)
          have u7 := v1 1307 (by decide)
          have u8 := v1 1308 (by decide)
          have u0 := v1 1300 (by decide)
          rw [hpe] at u0
          obtain ⟨a82, b82, c82⟩ := mo_a h1.1 (j := 82) (cj := 1682) (K := 28) (n := 80) (by decide)
          obtain ⟨a22, b22, c22⟩ := mo_a h1.1 (j := 22) (cj := 1622) (K := 20) (n := 240) (by decide)
          have t6 := m_today2 mr1
          obtain ⟨d1, d2, d3⟩ := m_valueNow (N := N) mr1 k3.1 (p := p) (k := k) (t := t) ht
          have w22 := mr_V h1 (j := 22) (by decide) t
          have d3 : vn9_ (as_ m y GM) N p k = aV (as_ m y GM) 22 t := d3
          rw [d3]
          have g1c : ¬ nI t < 0 := nI_pos (by omega)
          have g3c : (nI t).toNatClampNeg = t := nI_clamp (by omega)
          have g4c : ¬ 240 ≤ t := by omega
          simp [gt_, lt_, nn_, oc_, bd_, kd_si, ln_si, fi_si, fr_si, fl_si, ai_si, ar_si, al_si, ow_si, nx_si, sl_si, kd_sr, ln_sr, fi_sr, fr_sr, fl_sr, ai_sr, ar_sr, al_sr, ow_sr, nx_sr, sl_sr, kd_so, ln_so, fi_so, fr_so, fl_so, ai_so, ar_so, al_so, ow_so, nx_so, sl_so, kd_sa, ln_sa, fi_sa, fr_sa, fl_sa, ai_sa, ar_sa, al_sa, ow_sa, nx_sa, sl_sa, kd_sq, ln_sq, fi_sq, fr_sq, fl_sq, ai_sq, ar_sq, al_sq, ow_sq, nx_sq, sl_sq, kd_sj, ln_sj, fi_sj, fr_sj, fl_sj, ai_sj, ar_sj, al_sj, ow_sj, nx_sj, sl_sj, up2_e, hy, i5, m_isKind, bi_, g5, a82, b82, c82, a22, b22, c22, g1, g3, g4, g1b, g3b, g4b, g1c, g3c, g4c, v4, v6, v7, v9, u0, u6, u7, u8, sb, z, w, sw, z2, t6, d1, w22, m_granted]
        have g2 : fq_ (fun q => q = y ∨ q = ga_ GM 104 e ∨ q = ga_ GM 106 e) (bm_ m cc) m1 := by
          rw [hm1]
          exact fqt (fqi (fqa (fqi (fqi (fq_rf hwf) (Or.inl rfl)) (Or.inr (Or.inl rfl))) (Or.inr (Or.inr rfl))) (Or.inr (Or.inl rfl))) (Or.inl rfl)
        have g3r : mr_ m1 y GM (s3_ (aS (as_ m y GM)) 0, (sF9 (sE9 (as_ m y GM) (up2_ (up2_ (aE (as_ m y GM)) 1307 e (aE (as_ m y GM) 1307 e ||| ((1 : Int32) <<< (nI k &&& 31)))) 1308 e (aE (as_ m y GM) 1308 e + 1))) (up2_ (aF (as_ m y GM)) e k (vn9_ (as_ m y GM) N p k))).2) N := by
          rw [hm1]
          exact mr_S (mr_tr mr3 0) _
        have g4r : ∀ j, j ∈ DS → fi_ m1 (1600 + j) y = s3_ (aS (as_ m y GM)) 0 j := fun j hj => by
          rw [hm1]
          have := s3_fi (bm_ m cc) y 0 j
          rw [show s3_ (aS (as_ m y GM)) 0 j = s3_ (fun q => fi_ (bm_ m cc) (1600 + q) y) 0 j from rfl, ← this]
          unfold tr_
          simp only [fi_si, fi_sa, up2_e]
          have n1 : ¬ 1600 + j = 1308 := by omega
          have n2 : ¬ 1600 + j = 1307 := by omega
          simp [n1, n2]
        have g5 : nx_ m1 = nx_ cc ∧ sl_ m1 = sl_ cc := by rw [hm1]; exact ⟨rfl, rfl⟩
        exact ⟨1, cc, m1, g1c, g1r, inv_fin hI w2 hbcc g2 ⟨by rw [g5.1]; exact Nat.le_add_right _ _, by rw [g5.2]; exact Nat.le_add_right _ _⟩ g3r g4r w1 k3⟩
      · have hw2 := z2
        refine ⟨0, si_ c 1214 x 5, tr_ (si_ (bm_ m (si_ c 1214 x 5)) 1600 y 0) y 5, ?_, ?_, no_ pv_S hI 5 (by decide)⟩
        · simp [f_X11_correct, gt_, lt_, nn_, oc_, bd_, hx, p1, p2, hpr, z, bi_, hw, z2, k_denied]
        · have h1 := mr_si (mr_bm (z := si_ c 1214 x 5) (mr_of k1) (Nat.le_of_eq k5.1)) (j := 0) (c := 1600) (by decide) 0
          unfold f_X15_correct
          rw [gt_t (show kd_ (bm_ m (si_ c 1214 x 5)) y = 17 from mo_yb k1), lt_e]
          generalize si_ (bm_ m (si_ c 1214 x 5)) 1600 y 0 = σ at h1 ⊢
          have w := m_wrongOf h1 k3.1 he hpe hE
          have i5 := m_isEdition1 h1 he
          obtain ⟨v1, v2, v3, v4, v5, v6, v7, v8, v9⟩ := mr_E h1 he
          have u6 := v1 1306 (by decide)
          obtain ⟨a82, b82, c82⟩ := mo_a h1.1 (j := 82) (cj := 1682) (K := 28) (n := 80) (by decide)
          simp [gt_, lt_, nn_, oc_, bd_, i5, m_isKind, bi_, g5, a82, b82, c82, g1b, g3b, g4b, v4, v7, u6, sb, z, w, sw, z2, m_denied (mo_y h1.1)]
    · skip
      refine ⟨0, si_ c 1214 x 1, tr_ (si_ (bm_ m (si_ c 1214 x 1)) 1600 y 0) y 1, ?_, ?_, no_ pv_S hI 1 (by decide)⟩
      · simp [f_X11_correct, f_X11_correct_b18, gt_, lt_, nn_, oc_, bd_, hx, p1, p2, hpr, z, bi_, k_denied]
      · have h1 := mr_si (mr_bm (z := si_ c 1214 x 1) (mr_of k1) (Nat.le_of_eq k5.1)) (j := 0) (c := 1600) (by decide) 0
        unfold f_X15_correct
        rw [gt_t (show kd_ (bm_ m (si_ c 1214 x 1)) y = 17 from mo_yb k1), lt_e]
        generalize si_ (bm_ m (si_ c 1214 x 1)) 1600 y 0 = σ at h1 ⊢
        have i5 := m_isEdition1 h1 he
        obtain ⟨v1, v2, v3, v4, v5, v6, v7, v8, v9⟩ := mr_E h1 he
        have u6 := v1 1306 (by decide)
        obtain ⟨a82, b82, c82⟩ := mo_a h1.1 (j := 82) (cj := 1682) (K := 28) (n := 80) (by decide)
        simp [f_X15_correct_b36, gt_, lt_, nn_, oc_, bd_, mo_y h1.1, i5, m_isKind, bi_, g5, a82, b82, c82, g1b, g3b, g4b, v4, v7, u6, sb, z, m_denied (mo_y h1.1)]
  · skip
    refine ⟨0, si_ c 1214 x 1, tr_ (si_ (bm_ m (si_ c 1214 x 1)) 1600 y 0) y 1, ?_, ?_, no_ pv_S hI 1 (by decide)⟩
    · rcases hout with hout | ⟨e, he, rfl, hb2⟩
      · simp [f_X11_correct, f_X11_correct_b18, gt_, lt_, nn_, oc_, bd_, hx, k_editionAt0 k2 hN71 hout, k_denied]
      · obtain ⟨p1, p2⟩ := k_editionAt1 k2 hN71 he
        simp [f_X11_correct, f_X11_correct_b18, gt_, lt_, nn_, oc_, bd_, hx, p1, p2, k_hasPrinted0 hb2, k_denied]
    · have h1 := mr_si (mr_bm (z := si_ c 1214 x 1) (mr_of k1) (Nat.le_of_eq k5.1)) (j := 0) (c := 1600) (by decide) 0
      unfold f_X15_correct
      rw [gt_t (show kd_ (bm_ m (si_ c 1214 x 1)) y = 17 from mo_yb k1), lt_e]
      generalize si_ (bm_ m (si_ c 1214 x 1)) 1600 y 0 = σ at h1 ⊢
      rcases hout with hout | ⟨e, he, rfl, hb2⟩
      · simp [f_X15_correct_b36, gt_, lt_, nn_, oc_, bd_, mo_y h1.1, m_isEdition0 h1 hout, m_denied (mo_y h1.1)]
      · simp [f_X15_correct_b36, gt_, lt_, nn_, oc_, bd_, mo_y h1.1, m_isEdition1 h1 he, m_isKind, bi_, hb2, m_denied (mo_y h1.1)]
end C64
