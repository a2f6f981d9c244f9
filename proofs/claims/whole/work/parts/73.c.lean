/-! CALLS: feed. Written by wip/b/mk73.py. -/
def fa9_ (A : AS) (h : Nat) (b : Nat → Int32) : Nat → AS
  | 0 => A
  | n + 1 => ((fun q => if q = 30 then nI (h + n + 1) else aS (fa9_ A h b n) q), up2_ (aV (fa9_ A h b n)) 26 (h + n) (b n), (fa9_ A h b n).2.2)
def fm9_ (N : Nat → Nat) (h : Nat) : Nat → Nat → Nat
  | 0 => N
  | n + 1 => fun q => if q = 30 then h + n + 1 else fm9_ N h n q
theorem fm9_30 {N : Nat → Nat} {h : Nat} (h0 : N 30 = h) : ∀ n, fm9_ N h n 30 = h + n
  | 0 => h0
  | n + 1 => rfl
theorem fm9_o {N : Nat → Nat} {h q : Nat} (hq : q ≠ 30) : ∀ n, fm9_ N h n q = N q
  | 0 => rfl
  | n + 1 => by
    show (if q = 30 then _ else fm9_ N h n q) = _
    rw [if_neg hq]; exact fm9_o hq n
theorem fa9_o {A : AS} {h : Nat} {b : Nat → Int32} : ∀ n, (∀ j, j ≠ 30 → aS (fa9_ A h b n) j = aS A j) ∧ (∀ j, j ≠ 26 → aV (fa9_ A h b n) j = aV A j) ∧ (fa9_ A h b n).2.2 = A.2.2
  | 0 => ⟨fun _ _ => rfl, fun _ _ => rfl, rfl⟩
  | n + 1 => by
    obtain ⟨h1, h2, h3⟩ := fa9_o (A := A) (h := h) (b := b) n
    refine ⟨fun j hj => ?_, fun j hj => ?_, h3⟩
    · show (if j = 30 then _ else aS (fa9_ A h b n) j) = _
      rw [if_neg hj]; exact h1 j hj
    · show up2_ (aV (fa9_ A h b n)) 26 (h + n) (b n) j = _
      rw [up2_c hj]; exact h2 j hj
theorem fa9_30 {A : AS} {h : Nat} {b : Nat → Int32} (h0 : aS A 30 = nI h) : ∀ n, aS (fa9_ A h b n) 30 = nI (h + n)
  | 0 => h0
  | n + 1 => rfl
theorem fa9_by {A : AS} {h : Nat} {b : Nat → Int32} (hA : ∀ j, j < 400 → (aV A 26 j).toInt8.toInt32 = aV A 26 j) (hb : ∀ k, (b k).toInt8.toInt32 = b k) : ∀ n, ∀ j, j < 400 → (aV (fa9_ A h b n) 26 j).toInt8.toInt32 = aV (fa9_ A h b n) 26 j
  | 0 => hA
  | n + 1 => fun j hj => by
    show (up2_ (aV (fa9_ A h b n)) 26 (h + n) (b n) 26 j).toInt8.toInt32 = up2_ (aV (fa9_ A h b n)) 26 (h + n) (b n) 26 j
    by_cases e : j = h + n
    · rw [e, up2_s]; exact hb n
    · rw [up2_n e]; exact fa9_by hA hb n j hj
/-- the k-th byte that is fed -/
def fb9_ (a0 a1 a2 a3 a4 : Int32) (k : Nat) : Int32 := vp_nar .byte ((Int32.toInt8 ((if k < 4 then a0 else if k < 8 then a1 else if k < 12 then a2 else if k < 16 then a3 else a4) >>> (nI (24 - 8 * (k % 4)) &&& 31))).toInt32)
theorem fb9_by (a0 a1 a2 a3 a4 : Int32) (k : Nat) : (fb9_ a0 a1 a2 a3 a4 k).toInt8.toInt32 = fb9_ a0 a1 a2 a3 a4 k := by
  unfold fb9_
  rw [pk_vb]
  simp
section C73
variable {ka : Nat → Nat} {TX : Nat → Nat → (Nat → Int32) → Nat → (Nat → Int32) → Prop} {x y o N0 : Nat}
theorem ob_fd {A : AS} {G : GH} {N : Nat → Nat} {r i : Nat} {m : CE} (hh : Nat) (v : Int32) (hd : ¬ r ∈ ([10, 11] : List Nat)) (h : ob_ ka TX A G N r i m) : ob_ ka TX ((fun q => if q = 30 then nI (hh + 1) else aS A q), up2_ (aV A) 26 hh v, A.2.2) G (fun q => if q = 30 then hh + 1 else N q) r i m := by
  match r, hd, h with
  | 0, hd, h => exact h
  | 1, hd, h => exact h
  | 2, hd, h => exact h
  | 3, hd, h => exact h
  | 4, hd, h => exact h
  | 5, hd, h => exact h
  | 6, hd, h => exact h
  | 7, hd, h => exact h
  | 8, hd, h => exact h
  | 9, hd, h => exact h
  | 10, hd, h => exact absurd (by decide) hd
  | 11, hd, h => exact absurd (by decide) hd
  | 12, hd, h => exact h
  | 13, hd, h => exact h
  | 14, hd, h => exact h
  | 15, hd, h => exact h
  | 16, hd, h => exact h
  | 17, hd, h => exact h
  | 18, hd, h => exact h
  | 19, hd, h => exact h
  | 20, hd, h => exact h
  | 21, hd, h => exact h
  | 22, hd, h => exact h
  | 23, hd, h => exact h
  | 24, hd, h => exact h
  | 25, hd, h => exact h
  | 26, hd, h => exact h
  | 27, hd, h => exact h
  | 28, hd, h => exact h
  | 29, hd, h => exact h
  | 30, hd, h => exact h
  | 31, hd, h => exact h
  | 32, hd, h => exact h
  | 33, hd, h => exact h
  | 34, hd, h => exact h
  | 35, hd, h => exact h
  | 36, hd, h => exact h
  | 37, hd, h => exact h
  | 38, hd, h => exact h
  | 39, hd, h => exact h
  | 40, hd, h => exact h
  | 41, hd, h => exact h
  | 42, hd, h => exact h
  | 43, hd, h => exact h
  | 44, hd, h => exact h
  | 45, hd, h => exact h
  | 46, hd, h => exact h
  | 47, hd, h => exact h
  | 48, hd, h => exact h
  | 49, hd, h => exact h
  | 50, hd, h => exact h
  | 51, hd, h => exact h
  | 52, hd, h => exact h
  | 53, hd, h => exact h
  | 54, hd, h => exact h
  | 55, hd, h => exact h
  | 56, hd, h => exact h
  | 57, hd, h => exact h
  | 58, hd, h => exact h
  | r + 59, hd, h => exact h
theorem rc_fd {σ : TH} {G : GH} {A : AS} {N : Nat → Nat} (hr : rc_ ka TX σ x G A N) {h : Nat} (v : Int32) : rc_ ka TX (si_ (sa_ σ (ga_ G 11 0) h v) 701 (ga_ G 10 0) (nI (h + 1))) x G ((fun q => if q = 30 then nI (h + 1) else aS A q), up2_ (aV A) 26 h v, A.2.2) (fun q => if q = 30 then h + 1 else N q) ∧ fq_ (fun q => q = ga_ G 10 0 ∨ q = ga_ G 11 0) σ (si_ (sa_ σ (ga_ G 11 0) h v) 701 (ga_ G 10 0) (nI (h + 1))) := by
  have hf : fq_ (fun q => q = ga_ G 10 0 ∨ q = ga_ G 11 0) σ (si_ (sa_ σ (ga_ G 11 0) h v) 701 (ga_ G 10 0) (nI (h + 1))) := fqi (fqa (fq_rf hr.1.1) (Or.inr rfl)) (Or.inl rfl)
  have n1 : ga_ G 11 0 ≠ ga_ G 10 0 := sh_ne hr.1 (rc_1 hr (by decide)) (rc_1 hr (by decide)) (Or.inl (by decide))
  refine ⟨rc_gen2 hr hf (sh_fq hr.1 hf) hr.2.2.1 [10, 11] (fun r _ => ⟨rfl, fun _ => rfl⟩) hr.2.1.1 (fun q hq => ?_) (fun r i m hd h9 => ob_fd _ _ hd h9) (fun r i hd hi => ?_), hf⟩
  · rcases hq with hq | hq
    · exact Or.inl ⟨10, 0, by decide, rc_1 hr (by decide), hq⟩
    · exact Or.inl ⟨11, 0, by decide, rc_1 hr (by decide), hq⟩
  · simp only [List.mem_cons, List.not_mem_nil, or_false] at hd
    rcases hd with rfl | rfl
    · rw [g0_ hr (by decide) hi]
      obtain ⟨q1, q2, q3, q4, q5, q6, q7⟩ := hr.2.2.2 10 0 (rc_1 hr (by decide))
      exact ⟨q1, q2, q3, up2_s, q5, q6, q7⟩
    · rw [g0_ hr (by decide) hi, ce_si n1]
      have q := hr.2.2.2 11 0 (rc_1 hr (by decide))
      intro j hj
      show up2_ (ai_ σ) (ga_ G 11 0) h v (ga_ G 11 0) j = up2_ (aV A) 26 h v 26 j
      by_cases e : j = h
      · subst e; rw [up2_s, up2_s]
      · rw [up2_n e, up2_n e]; exact q j hj
theorem k_rd {σ : TH} {G : GH} {A : AS} {N : Nat → Nat} (h : rc_ ka TX σ x G A N) : fr_ σ 1208 x = some (ga_ G 10 0) ∧ kd_ σ (ga_ G 10 0) = 8 ∧ fi_ σ 701 (ga_ G 10 0) = aS A 30 ∧ fr_ σ 700 (ga_ G 10 0) = some (ga_ G 11 0) ∧ kd_ σ (ga_ G 11 0) = 21 ∧ ln_ σ (ga_ G 11 0) = 400 := by
  obtain ⟨e1, e2⟩ := rc_r1208 h
  obtain ⟨q1, q2, q3, q4, -⟩ := h.2.2.2 10 0 (rc_1 h (by decide))
  obtain ⟨k1, -, k3, -⟩ := h.1.2 11 0 (rc_1 h (by decide))
  exact ⟨e1, e2, q4, q1, k1, k3 (by decide)⟩
theorem k_app1 {σ0 τ : TH} {G : GH} {A : AS} {N : Nat → Nat} {h n : Nat} {b : Nat → Int32} (hn : h + n < 400) (h30 : aS A 30 = nI h) (hr : rc_ ka TX τ x G (fa9_ A h b n) (fm9_ N h n)) (hf : fq_ (fun q => q = ga_ G 10 0 ∨ q = ga_ G 11 0) σ0 τ) (v : Int32) {s : Nat} (hs : s < 100) (hb : b n = vp_nar .byte ((Int32.toInt8 (v >>> (nI s &&& 31))).toInt32)) : ∃ τ1, (∀ f, f_X6_append_b3 (f + 1) τ (ga_ G 10 0) v (nI s) = f_X6_append_b3 f τ1 (ga_ G 10 0) v (nI s + (-8))) ∧ rc_ ka TX τ1 x G (fa9_ A h b (n + 1)) (fm9_ N h (n + 1)) ∧ fq_ (fun q => q = ga_ G 10 0 ∨ q = ga_ G 11 0) σ0 τ1 ∧ nx_ τ1 = nx_ τ ∧ sl_ τ1 = sl_ τ := by
  have s30 : aS (fa9_ A h b n) 30 = nI (h + n) := by
    cases n with
    | zero => exact h30
    | succ n => rfl
  obtain ⟨w1, w2⟩ := rc_fd hr (h := h + n) (b n)
  obtain ⟨e1, e2, e3, e4, e5, e6⟩ := k_rd hr
  rw [s30] at e3
  have g0 : ¬ nI s < 0 := nI_pos (by omega)
  have g1 : ¬ (400 : Int32) ≤ nI (h + n) := nI_ge (b := 400) (by omega) (by decide)
  have g2 : ¬ nI (h + n) < 0 := nI_pos (by omega)
  have g3 : (nI (h + n)).toNatClampNeg = h + n := nI_clamp (by omega)
  have g4 : ¬ 400 ≤ h + n := by omega
  refine ⟨_, fun f => ?_, w1, fq_tr hf w2, rfl, rfl⟩
  rw [hb]
  simp [f_X6_append_b3, gt_, lt_, nn_, oc_, bd_, kd_si, ln_si, fi_si, fr_si, fl_si, ai_si, ar_si, al_si, ow_si, nx_si, sl_si, kd_sr, ln_sr, fi_sr, fr_sr, fl_sr, ai_sr, ar_sr, al_sr, ow_sr, nx_sr, sl_sr, kd_so, ln_so, fi_so, fr_so, fl_so, ai_so, ar_so, al_so, ow_so, nx_so, sl_so, kd_sa, ln_sa, fi_sa, fr_sa, fl_sa, ai_sa, ar_sa, al_sa, ow_sa, nx_sa, sl_sa, kd_sq, ln_sq, fi_sq, fr_sq, fl_sq, ai_sq, ar_sq, al_sq, ow_sq, nx_sq, sl_sq, kd_sj, ln_sj, fi_sj, fr_sj, fl_sj, ai_sj, ar_sj, al_sj, ow_sj, nx_sj, sl_sj, g0, e2, e3, g1, e4, e5, e6, g2, g3, g4, nI_1]
/-- four bytes of a number -/
theorem k_append {σ0 σ : TH} {G : GH} {A : AS} {N : Nat → Nat} {h n n4 : Nat} {b : Nat → Int32} (hn4 : n4 = n + 1 + 1 + 1 + 1) (hn : h + n4 ≤ 400) (h30 : aS A 30 = nI h) (hr : rc_ ka TX σ x G (fa9_ A h b n) (fm9_ N h n)) (hf : fq_ (fun q => q = ga_ G 10 0 ∨ q = ga_ G 11 0) σ0 σ) (v : Int32) (hb : ∀ k, k < 4 → b (n + k) = vp_nar .byte ((Int32.toInt8 (v >>> (nI (24 - 8 * k) &&& 31))).toInt32)) : ∃ τ, f_X6_append σ (ga_ G 10 0) v = some ((), τ) ∧ rc_ ka TX τ x G (fa9_ A h b n4) (fm9_ N h n4) ∧ fq_ (fun q => q = ga_ G 10 0 ∨ q = ga_ G 11 0) σ0 τ ∧ nx_ τ = nx_ σ ∧ sl_ τ = sl_ σ := by
  subst hn4
  obtain ⟨τ1, t1, r1, f1, l1⟩ := k_app1 (s := 24) (by omega) h30 hr hf v (by decide) (hb 0 (by decide))
  obtain ⟨τ2, t2, r2, f2, l2⟩ := k_app1 (s := 16) (by omega) h30 r1 f1 v (by decide) (hb 1 (by decide))
  obtain ⟨τ3, t3, r3, f3, l3⟩ := k_app1 (s := 8) (by omega) h30 r2 f2 v (by decide) (hb 2 (by decide))
  obtain ⟨τ4, t4, r4, f4, l4⟩ := k_app1 (s := 0) (by omega) h30 r3 f3 v (by decide) (hb 3 (by decide))
  refine ⟨τ4, ?_, r4, f4, ⟨by rw [l4.1, l3.1, l2.1, l1.1], by rw [l4.2, l3.2, l2.2, l1.2]⟩⟩
  have c1 : nI 24 + (-8) = nI 16 := by decide
  have c2 : nI 16 + (-8) = nI 8 := by decide
  have c3 : nI 8 + (-8) = nI 0 := by decide
  have e : ∀ f, f_X6_append_b3 (f + 1 + 1 + 1 + 1 + 1) σ (ga_ G 10 0) v (nI 24) = some ((), τ4) := fun f => by
    rw [t1, c1, t2, c2, t3, c3, t4, f_X6_append_b3, if_pos (show nI 0 + (-8) < 0 by decide)]
    rfl
  exact e 39995
end C73
section MC73
variable {σ : TH} {y : Nat} {G : GH} {A : AS} {N : Nat → Nat}
theorem m_feed (hm : mr_ σ y G A N) {h : Nat} (h30 : N 30 = h) (hh : h + 20 ≤ 400) (a0 a1 a2 a3 a4 : Int32) : ∃ r, f_X15_feed σ y a0 a1 a2 a3 a4 = some r ∧ r.1 = nI (h + 20) ∧ mr_ r.2 y G (fa9_ A h (fb9_ a0 a1 a2 a3 a4) 20) (fm9_ N h 20) ∧ fq_ (fun q => q = y ∨ q = ga_ G 26 0) σ r.2 ∧ (∀ j, j ≠ 0 → j ≠ 30 → fi_ r.2 (1600 + j) y = fi_ σ (1600 + j) y) ∧ nx_ r.2 = nx_ σ ∧ sl_ r.2 = sl_ σ := by
  have hy := mo_y hm.1
  have hm1 := mr_si hm (j := 0) (c := 1600) (by decide) 0
  have e30 := (mo_n hm1.1 (j := 30) (cj := 1630) (m := 400) (by decide)).1
  rw [h30] at e30
  have g9 : nI h + 20 ≤ 400 := by
    rw [show (20 : Int32) = nI 20 from rfl, nI_add]
    exact nI_le (b := 400) hh (by decide)
  unfold f_X15_feed
  rw [gt_t hy, lt_e, lt_e, e30, if_pos g9]
  refine lpe_ (F := fun f (a : TH) k => f_X15_feed_b23 f a y a0 a1 a2 a3 a4 k) 20 (fun k a => mr_ a y G (fa9_ A h (fb9_ a0 a1 a2 a3 a4) k) (fm9_ N h k) ∧ fq_ (fun q => q = y ∨ q = ga_ G 26 0) σ a ∧ (∀ j, j ≠ 0 → j ≠ 30 → fi_ a (1600 + j) y = fi_ σ (1600 + j) y) ∧ nx_ a = nx_ σ ∧ sl_ a = sl_ σ) (fun r => r.1 = nI (h + 20) ∧ mr_ r.2 y G (fa9_ A h (fb9_ a0 a1 a2 a3 a4) 20) (fm9_ N h 20) ∧ fq_ (fun q => q = y ∨ q = ga_ G 26 0) σ r.2 ∧ (∀ j, j ≠ 0 → j ≠ 30 → fi_ r.2 (1600 + j) y = fi_ σ (1600 + j) y) ∧ nx_ r.2 = nx_ σ ∧ sl_ r.2 = sl_ σ) (fun f k τ hk ha => ?_) (fun f τ ha => ?_) (by decide) (si_ σ 1600 y 0) ⟨hm1, fqi (fq_rf hm.1.1.1) (Or.inl rfl), fun j j0 _ => by rw [fi_si, up2_c (by omega)], rfl, rfl⟩
  · obtain ⟨h1, h2, h3, h4, h5⟩ := ha
    have hy1 := mo_y h1.1
    have e30 := (mo_n h1.1 (j := 30) (cj := 1630) (m := 400) (by decide)).1
    rw [fm9_30 h30] at e30
    obtain ⟨a26, b26, c26⟩ := mo_a h1.1 (j := 26) (cj := 1626) (K := 21) (n := 400) (by decide)
    have i1 : ¬ nI (h + k) < 0 := nI_pos (by omega)
    have i3 : (nI (h + k)).toNatClampNeg = h + k := nI_clamp (by omega)
    have i4 : ¬ 400 ≤ h + k := by omega
    have sh : ∀ k, k < 20 → (24 : Int32) - 8 * (nI k - nI k / 4 * 4) = nI (24 - 8 * (k % 4)) := by decide
    have sh := sh k hk
    have hmr := mr_sn (mr_sa h1 (j := 26) (by decide) (h + k) (fb9_ a0 a1 a2 a3 a4 k)) 30 1630 (h + k + 1) (by decide) (by show h + k + 1 ≤ 400; omega)
    refine ⟨si_ (sa_ τ (ga_ G 26 0) (h + k) (fb9_ a0 a1 a2 a3 a4 k)) 1630 y (nI (h + k + 1)), ?_, hmr, fqi (fqa h2 (Or.inr rfl)) (Or.inl rfl), fun j j0 j30 => by rw [fi_si, up2_c (by omega)]; exact h3 j j0 j30, h4, h5⟩
    have key : ∀ v : Int32, (if k < 4 then a0 else if k < 8 then a1 else if k < 12 then a2 else if k < 16 then a3 else a4) = v → f_X15_feed_b76 (f_X15_feed_b23 f) τ y a0 a1 a2 a3 a4 (nI k) v = f_X15_feed_b23 f (si_ (sa_ τ (ga_ G 26 0) (h + k) (fb9_ a0 a1 a2 a3 a4 k)) 1630 y (nI (h + k + 1))) y a0 a1 a2 a3 a4 (nI (k + 1)) := fun v hv => by
      have hb : fb9_ a0 a1 a2 a3 a4 k = vp_nar .byte ((Int32.toInt8 (v >>> (nI (24 - 8 * (k % 4)) &&& 31))).toInt32) := by
        unfold fb9_
        rw [hv]
      rw [hb]
      unfold f_X15_feed_b76
      rw [gt_t hy1, lt_e, a26, lt_e, e30, gt_t (by decide), nn_s, gt_t b26, i3, c26, gt_t (show ¬ (nI (h + k) < 0 ∨ 400 ≤ h + k) from fun z => z.elim i1 i4), lt_e, sh, lt_e, fi_sa, e30, lt_e, nI_1, lt_e, nI_1]
    have l20 : ¬ (20 : Int32) ≤ nI k := nI_ge (b := 20) hk (by decide)
    rw [f_X15_feed_b23, if_neg l20]
    by_cases k4 : k < 4
    · rw [if_neg (show ¬ (4 : Int32) ≤ nI k from nI_ge (b := 4) k4 (by decide))]
      exact key a0 (by rw [if_pos k4])
    · rw [if_pos (show (4 : Int32) ≤ nI k from nI_le (a := 4) (by omega) (by omega))]
      by_cases k8 : k < 8
      · rw [if_neg (show ¬ (8 : Int32) ≤ nI k from nI_ge (b := 8) k8 (by decide))]
        exact key a1 (by rw [if_neg k4, if_pos k8])
      · rw [if_pos (show (8 : Int32) ≤ nI k from nI_le (a := 8) (by omega) (by omega))]
        by_cases k12 : k < 12
        · rw [if_neg (show ¬ (12 : Int32) ≤ nI k from nI_ge (b := 12) k12 (by decide))]
          exact key a2 (by rw [if_neg k4, if_neg k8, if_pos k12])
        · rw [if_pos (show (12 : Int32) ≤ nI k from nI_le (a := 12) (by omega) (by omega))]
          by_cases k16 : k < 16
          · rw [if_neg (show ¬ (16 : Int32) ≤ nI k from nI_ge (b := 16) k16 (by decide))]
            exact key a3 (by rw [if_neg k4, if_neg k8, if_neg k12, if_pos k16])
          · rw [if_pos (show (16 : Int32) ≤ nI k from nI_le (a := 16) (by omega) (by omega))]
            exact key a4 (by rw [if_neg k4, if_neg k8, if_neg k12, if_neg k16])
  · obtain ⟨h1, h2, h3, h4, h5⟩ := ha
    have hy1 := mo_y h1.1
    have e30 := (mo_n h1.1 (j := 30) (cj := 1630) (m := 400) (by decide)).1
    rw [fm9_30 h30] at e30
    exact ⟨(nI (h + 20), τ), by simp [f_X15_feed_b23, gt_, lt_, nn_, oc_, bd_, show (20 : Int32) ≤ nI 20 from by decide, hy1, e30], rfl, h1, h2, h3, h4, h5⟩
end MC73
section D73
variable {ka : Nat → Nat} {TX : Nat → Nat → (Nat → Int32) → Nat → (Nat → Int32) → Prop} {x y o N0 : Nat}
theorem ok_feed : St_feed ka x y (inv_ ka TX pv_ x y o N0) := fun n c m a0 a1 a2 a3 a4 hn hI => by
  obtain ⟨GC, GM, N, k1, k2, k3, k4, k5, k6, k7, k8⟩ := id hI
  have hN := (mo_n k1 (j := 5) (cj := 1605) (m := 30) (by decide)).2
  obtain ⟨e6, hN6⟩ := mo_n k1 (j := 6) (cj := 1606) (m := 5257439) (by decide)
  have hb : mr_ (bm_ m c) y GM (as_ m y GM) N := mr_bm (mr_of k1) (Nat.le_of_eq k5.1)
  have hx := rc_x k2
  obtain ⟨e30, hN30⟩ := mo_n k1 (j := 30) (cj := 1630) (m := 400) (by decide)
  obtain ⟨q1, q2, q3, q4, q5, q6⟩ := k_rd k2
  have q3 : fi_ c 701 (ga_ GC 10 0) = nI (N 30) := q3.trans e30
  by_cases hh : N 30 + 20 ≤ 400
  · have g9 : ¬ (400 : Int32) < nI (N 30) + 20 := by
      rw [show (20 : Int32) = nI 20 from rfl, nI_add]
      exact nI_nlt (a := 400) hh (by decide)
    have room : f_X6_hasRoomFor c (ga_ GC 10 0) 20 = some (1, c) := by simp [f_X6_hasRoomFor, f_X6_hasRoomFor_b17, gt_, lt_, nn_, oc_, bd_, q2, q3, g9]
    have hb : ∀ i k, i < 5 → k < 4 → ∀ v : Int32, (if 4 * i + k < 4 then a0 else if 4 * i + k < 8 then a1 else if 4 * i + k < 12 then a2 else if 4 * i + k < 16 then a3 else a4) = v → fb9_ a0 a1 a2 a3 a4 (4 * i + k) = vp_nar .byte ((Int32.toInt8 (v >>> (nI (24 - 8 * k) &&& 31))).toInt32) := fun i k hi hk v hv => by
      unfold fb9_
      rw [hv, show (4 * i + k) % 4 = k by omega]
    obtain ⟨τ1, t1, r1, f1, l1⟩ := k_append (σ0 := c) (h := N 30) (n := 0) (n4 := 4) (A := as_ m y GM) (N := N) (b := fb9_ a0 a1 a2 a3 a4) rfl (by omega) e30 k2 (fq_rf k2.1.1) a0 (fun k hk => hb 0 k (by decide) hk a0 (by rw [if_pos (by omega)]))
    obtain ⟨τ2, t2, r2, f2, l2⟩ := k_append (h := N 30) (n := 4) (n4 := 8) (A := as_ m y GM) (N := N) (b := fb9_ a0 a1 a2 a3 a4) rfl (by omega) e30 r1 f1 a1 (fun k hk => hb 1 k (by decide) hk a1 (by rw [if_neg (by omega), if_pos (by omega)]))
    obtain ⟨τ3, t3, r3, f3, l3⟩ := k_append (h := N 30) (n := 8) (n4 := 12) (A := as_ m y GM) (N := N) (b := fb9_ a0 a1 a2 a3 a4) rfl (by omega) e30 r2 f2 a2 (fun k hk => hb 2 k (by decide) hk a2 (by rw [if_neg (by omega), if_neg (by omega), if_pos (by omega)]))
    obtain ⟨τ4, t4, r4, f4, l4⟩ := k_append (h := N 30) (n := 12) (n4 := 16) (A := as_ m y GM) (N := N) (b := fb9_ a0 a1 a2 a3 a4) rfl (by omega) e30 r3 f3 a3 (fun k hk => hb 3 k (by decide) hk a3 (by rw [if_neg (by omega), if_neg (by omega), if_neg (by omega), if_pos (by omega)]))
    obtain ⟨τ5, t5, r5, f5, l5⟩ := k_append (h := N 30) (n := 16) (n4 := 20) (A := as_ m y GM) (N := N) (b := fb9_ a0 a1 a2 a3 a4) rfl (by omega) e30 r4 f4 a4 (fun k hk => hb 4 k (by decide) hk a4 (by rw [if_neg (by omega), if_neg (by omega), if_neg (by omega), if_neg (by omega)]))
    have n5 : nx_ τ5 = nx_ c ∧ sl_ τ5 = sl_ c := ⟨by rw [l5.1, l4.1, l3.1, l2.1, l1.1], by rw [l5.2, l4.2, l3.2, l2.2, l1.2]⟩
    have g1c : f_X11_feed c x a0 a1 a2 a3 a4 = some (nI (N 30 + 20), τ5) := by
      unfold f_X11_feed
      rw [gt_t hx, lt_e, q1, nn_s, gt_t q2, room, bd_s, if_neg (by decide), lt_e, q1, nn_s, gt_t q2, t1, bd_s, lt_e, (k_rd r1).1, nn_s, gt_t (k_rd r1).2.1, t2, bd_s, lt_e, (k_rd r2).1, nn_s, gt_t (k_rd r2).2.1, t3, bd_s, lt_e, (k_rd r3).1, nn_s, gt_t (k_rd r3).2.1, t4, bd_s, lt_e, (k_rd r4).1, nn_s, gt_t (k_rd r4).2.1, t5, bd_s, lt_e, (k_rd r5).1, nn_s, gt_t (k_rd r5).2.1, lt_e, (k_rd r5).2.2.1, fa9_30 (A := as_ m y GM) e30]
    have h0 := mr_bm (z := τ5) (mr_of k1) (by rw [k5.1, n5.1]; exact Nat.le_refl _)
    obtain ⟨⟨r, m1⟩, g1r, hr, hm1, hf1, hfi, hnx⟩ := m_feed h0 rfl hh a0 a1 a2 a3 a4
    dsimp only at hr hm1 hf1 hfi hnx
    subst hr
    obtain ⟨o1, o2, o3⟩ := fa9_o (A := as_ m y GM) (h := N 30) (b := fb9_ a0 a1 a2 a3 a4) 20
    have f30 := fa9_30 (A := as_ m y GM) (h := N 30) (b := fb9_ a0 a1 a2 a3 a4) e30 20
    have fby := fa9_by (A := as_ m y GM) (h := N 30) (b := fb9_ a0 a1 a2 a3 a4) k3.2.2.2.2.2.2.2.2.2.2.2.2 (fb9_by a0 a1 a2 a3 a4) 20
    have m30 := fm9_30 (N := N) (h := N 30) rfl 20
    have mo9 : ∀ q, q ≠ 30 → fm9_ N (N 30) 20 q = N q := fun q hq => fm9_o hq 20
    generalize fa9_ (as_ m y GM) (N 30) (fb9_ a0 a1 a2 a3 a4) 20 = FA at r5 hm1 o1 o2 o3 f30 fby
    generalize fm9_ N (N 30) 20 = FN at r5 hm1 m30 mo9
    refine ⟨nI (N 30 + 20), τ5, m1, g1c, g1r, inv_fin hI f5 ⟨by rw [n5.1]; exact Nat.le_add_right _ _, by rw [n5.2]; exact Nat.le_add_right _ _⟩ hf1 ⟨by rw [hnx.1]; exact Nat.le_add_right _ _, by rw [hnx.2]; exact Nat.le_add_right _ _⟩ hm1 (fun j hj => ?_) r5 ?_⟩
    · have hj0 : ∀ j, j ∈ DS → j ≠ 0 := by decide
      by_cases e : j = 30
      · subst e
        have := (mo_n hm1.1 (j := 30) (cj := 1630) (m := 400) (by decide)).1
        rw [m30] at this
        rw [f30]
        exact this
      · rw [hfi j (hj0 j hj) e, o1 j e]
        rfl
    · obtain ⟨S, V, R⟩ := FA
      have o3 : R = (as_ m y GM).2.2 := o3
      have e : V = fun j => if j = 26 then V 26 else aV (as_ m y GM) j := funext fun j => by
        by_cases z : j = 26
        · rw [if_pos z, z]
        · rw [if_neg z]; exact o2 j z
      have eN : FN = fun q => if q = 30 then N 30 + 20 else N q := funext fun q => by
        by_cases z : q = 30
        · rw [z, m30]; rfl
        · rw [mo9 q z, if_neg z]
      have fby : ∀ j, j < 400 → (V 26 j).toInt8.toInt32 = V 26 j := fby
      rw [e, eN, o3]
      obtain ⟨h1, h2, h3, h4, h5, h6, h7, d1, d2, d3, d4, d5, d6⟩ := k3
      exact ⟨h1, h2, h3, h4, h5, h6, h7, d1, d2, d3, d4, d5, fby⟩
  · have g9 : (400 : Int32) < nI (N 30) + 20 := by
      rw [show (20 : Int32) = nI 20 from rfl, nI_add]
      exact nI_lt (a := 400) (by omega) (by omega)
    refine ⟨-1, c, si_ (bm_ m c) 1600 y 0, ?_, ?_, ask_ hI pv_S⟩
    · simp [f_X11_feed, f_X6_hasRoomFor, f_X6_hasRoomFor_b17, gt_, lt_, nn_, oc_, bd_, hx, q1, q2, q3, g9]
    · have hb1 := mr_si hb (j := 0) (c := 1600) (by decide) 0
      have ec := (mo_n hb1.1 (j := 30) (cj := 1630) (m := 400) (by decide)).1
      have g8 : ¬ nI (N 30) + 20 ≤ 400 := Int32.not_le.mpr g9
      unfold f_X15_feed
      rw [gt_t (mo_yb k1), lt_e, lt_e, ec, if_neg g8]
end D73
