/-! CALLS: tell. Written by wip/b/mk99zn.py. -/
section TE9
variable {ka : Nat → Nat} {TX : Nat → Nat → (Nat → Int32) → Nat → (Nat → Int32) → Prop} {x y o N0 : Nat}
theorem ob_te {A : AS} {G : GH} {N : Nat → Nat} {r i : Nat} {m : CE} (p : Nat) (d : Int32) (hd : ¬ r ∈ ([31] : List Nat)) (h : ob_ ka TX A G N r i m) : ob_ ka TX (A.1, up2_ (up2_ (aV A) 15 p 1) 12 p d, A.2.2) G N r i m := by
  match r, hd, h with
  | 0, hd, h => exact h
  | 1, hd, h => exact h
  | 2, hd, h => exact h
  | 3, hd, h => exact h
  | 4, hd, h => exact h
  | 5, hd, h => exact h
  | 6, hd, h => exact h
  | 7, hd, h => exact h
  | 8, hd, h => exact h
  | 9, hd, h => exact h
  | 10, hd, h => exact h
  | 11, hd, h => exact h
  | 12, hd, h => exact h
  | 13, hd, h => exact h
  | 14, hd, h => exact h
  | 15, hd, h => exact h
  | 16, hd, h => exact h
  | 17, hd, h => exact h
  | 18, hd, h => exact h
  | 19, hd, h => exact h
  | 20, hd, h => exact h
  | 21, hd, h => exact h
  | 22, hd, h => exact h
  | 23, hd, h => exact h
  | 24, hd, h => exact h
  | 25, hd, h => exact h
  | 26, hd, h => exact h
  | 27, hd, h => exact h
  | 28, hd, h => exact h
  | 29, hd, h => exact h
  | 30, hd, h => exact h
  | 31, hd, h => exact absurd (by decide) hd
  | 32, hd, h => exact h
  | 33, hd, h => exact h
  | 34, hd, h => exact h
  | 35, hd, h => exact h
  | 36, hd, h => exact h
  | 37, hd, h => exact h
  | 38, hd, h => exact h
  | 39, hd, h => exact h
  | 40, hd, h => exact h
  | 41, hd, h => exact h
  | 42, hd, h => exact h
  | 43, hd, h => exact h
  | 44, hd, h => exact h
  | 45, hd, h => exact h
  | 46, hd, h => exact h
  | 47, hd, h => exact h
  | 48, hd, h => exact h
  | 49, hd, h => exact h
  | 50, hd, h => exact h
  | 51, hd, h => exact h
  | 52, hd, h => exact h
  | 53, hd, h => exact h
  | 54, hd, h => exact h
  | 55, hd, h => exact h
  | 56, hd, h => exact h
  | 57, hd, h => exact h
  | 58, hd, h => exact h
  | r + 59, hd, h => exact h

theorem rc_te {σ : TH} {G : GH} {A : AS} {N : Nat → Nat} (h : rc_ ka TX σ x G A N) {p : Nat} (hp : p < N 5) {d : Int32} (hd : 0 ≤ d) : rc_ ka TX (si_ σ 305 (ga_ G 31 p) d) x G (A.1, up2_ (up2_ (aV A) 15 p 1) 12 p d, A.2.2) N := by
  have hk : p < gc_ G 31 := by rw [rc_31 h]; exact hp
  have hf : fq_ (fun q => q = ga_ G 31 p) σ (si_ σ 305 (ga_ G 31 p) d) := fq_si h.1.1 rfl
  refine rc_gen h hf (fun r i => r ∈ ([31] : List Nat)) (tne_ (T := fun q => q = ga_ G 31 p) h.1 (fun q hq => ⟨31, p, by decide, hk, hq⟩)) (fun r i mm hi hd h9 => ob_te p d hd h9) (fun r i hi hd2 => ?_)
  simp only [List.mem_cons, List.not_mem_nil, or_false] at hd2
  subst hd2
  by_cases hik : i = p
  · subst hik
    obtain ⟨q0, q1, q2, q3, q4, q5, q6, q7, q8, q9, q10, q11, q12, q13, q14⟩ := h.2.2.2 31 i hi
    refine ⟨q0, q1, q2, q3, q4, ?_, q6, q7, q8, q9, q10, q11, q12, ?_, q14⟩
    · show up2_ (fi_ σ) 305 (ga_ G 31 i) d 305 (ga_ G 31 i) = up2_ (up2_ (aV A) 15 i 1) 12 i d 12 i
      rw [up2_s, up2_s]
    · show up2_ (up2_ (aV A) 15 i 1) 12 i d 15 i = bi_ (0 ≤ up2_ (up2_ (aV A) 15 i 1) 12 i d 12 i)
      rw [up2_c (by decide), up2_s, up2_s, bi_t hd]
  · rw [ce_si (sh_ne h.1 hi hk (Or.inr hik))]
    obtain ⟨q0, q1, q2, q3, q4, q5, q6, q7, q8, q9, q10, q11, q12, q13, q14⟩ := h.2.2.2 31 i hi
    refine ⟨q0, q1, q2, q3, q4, ?_, q6, q7, q8, q9, q10, q11, q12, ?_, q14⟩
    · show _ = up2_ (up2_ (aV A) 15 p 1) 12 p d 12 i
      rw [up2_n hik]
      exact q5
    · show up2_ (up2_ (aV A) 15 p 1) 12 p d 15 i = bi_ (0 ≤ up2_ (up2_ (aV A) 15 p 1) 12 p d 12 i)
      rw [up2_c (by decide), up2_n hik, up2_n hik]
      exact q13
theorem pv_te {A : AS} {N : Nat → Nat} {S : Nat → Int32} (h : pv_ A N) {p : Nat} (hp : p < N 5) {d : Int32} (hd : ∃ k, k ≤ td_ N ∧ d = nI k) : pv_ (S, up2_ (up2_ (aV A) 15 p 1) 12 p d, A.2.2) N := by
  obtain ⟨h1, h2, h3, h4, h5, h6, h7, d1, d2, d3, d4, d5, d6⟩ := h
  refine ⟨h1, fun i hi => ?_, h3, h4, h5, h6, h7, d1, fun i hi hi2 => ?_, d3, d4, d5, d6⟩
  · obtain ⟨e1, e2, e3, e4⟩ := h2 i hi
    refine ⟨e1, e2, ?_, e4⟩
    show up2_ (up2_ (aV A) 15 p 1) 12 p d 12 i = -2 ∨ ∃ k, k ≤ td_ N ∧ up2_ (up2_ (aV A) 15 p 1) 12 p d 12 i = nI k
    by_cases z : i = p
    · rw [z, up2_s]; exact Or.inr hd
    · rw [up2_n z]; exact e3
  · obtain ⟨e1, e2, e3, e4⟩ := d2 i hi hi2
    refine ⟨e1, ?_, e3, e4⟩
    show up2_ (up2_ (aV A) 15 p 1) 12 p d 15 i = 0
    rw [up2_c (by decide), up2_n (by omega)]
    exact e2
end TE9
section TL9
variable {ka : Nat → Nat} {x y o N0 : Nat}

theorem ok_tell : St_tell ka x y (inv_ ka TXp_ pv_ x y o N0) := fun n c m a0 hn hI => by
  obtain ⟨GC, GM, N, k1, k2, k3, k4, k5, k6, k7, k8⟩ := id hI
  have hN := (mo_n k1 (j := 5) (cj := 1605) (m := 30) (by decide)).2
  obtain ⟨e6, hN6⟩ := mo_n k1 (j := 6) (cj := 1606) (m := 5257439) (by decide)
  have hb : mr_ (bm_ m c) y GM (as_ m y GM) N := mr_bm (mr_of k1) (Nat.le_of_eq k5.1)
  have hx := rc_x k2
  have hj0 : ∀ j, j ∈ DS → j ≠ 0 := by decide
  have hN58 := (mo_n k1 (j := 58) (cj := 1658) (m := 12) (by decide)).2
  have hN59 := (mo_n k1 (j := 59) (cj := 1659) (m := 120) (by decide)).2
  rcases rg_ a0 (n := N 5) (by omega) with ⟨p, hp, rfl⟩ | hout
  · have hH := k3.2.1
    obtain ⟨p1, p2⟩ := k_person1 k2 hN hp
    obtain ⟨pk, pa, pb, pc, h15⟩ := k_per k2 hp
    have dd := k_isDead (σ := c) p2
    rw [pc] at dd
    by_cases dead : 0 ≤ aV (as_ m y GM) 12 p
    · rw [bi_t dead] at dd
      refine ⟨-1, si_ c 1214 x 5, tr_ (si_ (bm_ m (si_ c 1214 x 5)) 1600 y 0) y 5, ?_, ?_, no_ pv_S hI 5 (by decide)⟩
      · unfold f_X11_tell
        rw [gt_t hx, p1, bd_s, oc_s, gt_t p2, dd, bd_s, if_neg (by decide), k_refused hx, bd_s]
      · have h1 := mr_si (mr_bm (z := si_ c 1214 x 5) (mr_of k1) (Nat.le_of_eq k5.1)) (j := 0) (c := 1600) (by decide) 0
        unfold f_X15_tell
        rw [gt_t (show kd_ (bm_ m (si_ c 1214 x 5)) y = 17 from mo_yb k1), lt_e]
        generalize si_ (bm_ m (si_ c 1214 x 5)) 1600 y 0 = σ at h1 ⊢
        obtain ⟨a15, b15, c15⟩ := mo_a h1.1 (j := 15) (cj := 1615) (K := 22) (n := 30) (by decide)
        have v15 := mr_V h1 (j := 15) (by decide) p
        have h15' : aV (as_ m y GM) 15 p = 1 := by rw [h15, bi_t dead]
        rw [h15'] at v15
        rw [m_isPerson1 h1.1 hp, bd_s, if_neg (by decide), lt_e, a15, nn_s, gt_t b15, nI_clamp (by omega), c15, gt_t (ix9_ (k := p) (M := 30) (by omega) (by omega)), lt_e, v15, if_neg (by decide)]
        unfold f_X15_tell_b36
        rw [gt_t (mo_y h1.1), m_refused (mo_y h1.1), bd_s]
    · rw [bi_f dead] at dd
      obtain ⟨e, τ, q1, q2, q3, q4, q5, q6⟩ := k_proofs k2 k3.2.2.1 hN hN59 (p := p)
      have hkf : ∀ σ, kf_ σ x GC (as_ m y GM) N p := fun σ => ⟨hp, hN, k3.1, hH, hN6, e6, h15⟩
      have hna : nx_ c ≠ ga_ GC 14 0 ∧ e ≠ ga_ GC 15 0 ∧ e ≠ ga_ GC 16 0 := by
        have l14 := sh_lt k2.1 (show 0 < gc_ GC 14 from rc_1 k2 (by decide))
        have z15 := (q3.1.2 15 0 (rc_1 k2 (by decide))).1
        have z16 := (q3.1.2 16 0 (rc_1 k2 (by decide))).1
        have ke : kd_ τ e = 24 ∨ kd_ τ e = 0 := q2.2.2.2.2.1.elim (fun y => Or.inl y.1) (fun y => Or.inr y.2.1)
        refine ⟨by omega, fun z => ?_, fun z => ?_⟩
        · rw [z, z15] at ke
          revert ke; decide
        · rw [z, z16] at ke
          revert ke; decide
      obtain ⟨F', Y', q7⟩ := k_isProven q3 (hkf τ) k3.2.2.1 hN59 hN58 q2 hna
      have h15' : aV (as_ m y GM) 15 p = 0 := by rw [h15, bi_f dead]
      have hr1 : rc_ ka TXp_ (kp_ τ GC F' (ai_ τ (ga_ GC 16 0)) Y') x GC (as_ m y GM) N := rc_kp q3 (rc_o28 q3)
      have fr1 : fq_ (fun q => (q = ka 200 ∨ q = ga_ GC 14 0 ∨ q = ga_ GC 16 0 ∨ q = ga_ GC 15 0) ∨ q = x ∨ q = ga_ GC 31 p) c (kp_ τ GC F' (ai_ τ (ga_ GC 16 0)) Y') := fq_tr (fq_w q4 (fun _ q => Or.inl (Or.inl q))) (fq_w (kh_fq q3.1.1) (fun _ q => Or.inl (Or.inr q)))
      have hlk : ls_ ka (kp_ τ GC F' (ai_ τ (ga_ GC 16 0)) Y') (nx_ c) e (fl9_ (sR_ (as_ m y GM) N p) (N 59)).length (fun i => ga_ GC 41 ((fl9_ (sR_ (as_ m y GM) N p) (N 59)).getD i 0)) := by
        obtain ⟨b1, b2, b3, b4, b5, b6⟩ := q2
        exact ⟨b1, (if_neg hna.1).trans b2, b3, b4, b5, b6⟩
      have nxl : nx_ (kp_ τ GC F' (ai_ τ (ga_ GC 16 0)) Y') = nx_ τ ∧ sl_ (kp_ τ GC F' (ai_ τ (ga_ GC 16 0)) Y') = sl_ τ := ⟨rfl, rfl⟩
      have hxk : kd_ (kp_ τ GC F' (ai_ τ (ga_ GC 16 0)) Y') x = 13 := rc_x hr1
      have dmc := k_dayMost hr1 k3.2.2.1 hN59 hlk
      generalize kp_ τ GC F' (ai_ τ (ga_ GC 16 0)) Y' = c1 at q7 hr1 fr1 hlk nxl hxk dmc
      by_cases prv : pr9_ (as_ m y GM) N p = true
      · rw [bi_t prv] at q7
        have dmd : ∃ k, k ≤ td_ N ∧ (dm9_ (as_ m y GM) N p (N 59)).1 = nI k := by
          rcases dm9_day k3.2.2.1 (p := p) (N 59) (Nat.le_refl _) with ⟨-, z⟩ | ⟨z, -⟩
          · exfalso
            unfold pr9_ at prv
            rw [z] at prv
            revert prv
            simp
          · exact z
        obtain ⟨d, hdd⟩ : ∃ d, d = (dm9_ (as_ m y GM) N p (N 59)).1 := ⟨_, rfl⟩
        rw [← hdd] at dmc dmd
        have d0 : 0 ≤ d := by
          obtain ⟨k, hk, e⟩ := dmd
          rw [e]
          have : k < 2 ^ 31 := by unfold td_ at hk; omega
          rw [Int32.le_iff_toInt_le, nI_toInt this]
          exact Int.natCast_nonneg _
        have hr2 := rc_te hr1 hp d0
        have hr3 := rc_tr hr2 (s3_ (aS (as_ m y GM)) 0) 0 (by decide) rfl rfl s3_l
        have cl : f_X11_tell ka c x (nI p) = some (d, si_ (si_ c1 305 (ga_ GC 31 p) d) 1214 x 0) := by
          unfold f_X11_tell
          rw [gt_t hx, p1, bd_s, oc_s, gt_t p2, dd, bd_s, if_pos rfl, q1, bd_s, q7, bd_s, if_neg (by decide), dmc, bd_s, lt_e, lt_e, fi_si, up2_s, k_granted (show kd_ (si_ c1 305 (ga_ GC 31 p) d) x = 13 from hxk), bd_s]
        have zC : nx_ m ≤ nx_ (si_ (si_ c1 305 (ga_ GC 31 p) d) 1214 x 0) := by
          show nx_ m ≤ nx_ c1
          rw [k5.1]
          exact fr1.1.1
        have hb0 := mr_bm (z := si_ (si_ c1 305 (ga_ GC 31 p) d) 1214 x 0) (mr_of k1) zC
        have hb1 := mr_si hb0 (j := 0) (c := 1600) (by decide) 0
        obtain ⟨m2, g1, g2, g3, g4, g5⟩ := m_mayBeTold hb1 k3.1 k3.2.2.1 (p := p) (by omega) (fun i hi => ⟨_, _, (k_ruleT k2 hi).2.2.2⟩)
        have tl := m_tellL g2 k3.1 k3.2.2.1 (p := p) (by omega)
        rw [← hdd] at tl
        have rf : f_X15_tell (bm_ m (si_ (si_ c1 305 (ga_ GC 31 p) d) 1214 x 0)) y (nI p) = some (d, tr_ (sa_ (sa_ m2 (ga_ GM 15 0) p 1) (ga_ GM 12 0) p d) y 0) := by
          obtain ⟨a15, b15, c15⟩ := mo_a hb1.1 (j := 15) (cj := 1615) (K := 22) (n := 30) (by decide)
          have v15 := mr_V hb1 (j := 15) (by decide) p
          rw [h15'] at v15
          unfold f_X15_tell
          rw [gt_t (mo_y hb0.1), lt_e, m_isPerson1 hb1.1 hp, bd_s, if_neg (by decide), lt_e, a15, nn_s, gt_t b15, nI_clamp (by omega), c15, gt_t (ix9_ (k := p) (M := 30) (by omega) (by omega)), lt_e, v15, if_pos rfl, g1, bd_s, bi_t prv, if_neg (by decide), tl]
        refine ⟨_, _, _, cl, rf, inv_fin hI (T := fun q => (q = ka 200 ∨ q = ga_ GC 14 0 ∨ q = ga_ GC 16 0 ∨ q = ga_ GC 15 0) ∨ q = x ∨ q = ga_ GC 31 p) (fqi (fqi fr1 (Or.inr (Or.inr rfl))) (Or.inr (Or.inl rfl))) ⟨by show nx_ c1 ≤ _; omega, by show sl_ c1 ≤ _; omega⟩ (U := fun q => rU_ y GM q ∨ q = ga_ GM 15 0 ∨ q = ga_ GM 12 0) (fqt (fqa (fqa (fq_w (fq_tr (fq_si hb0.1.1.1 (Or.inl rfl)) g3) (fun _ q => Or.inl q)) (Or.inr (Or.inl rfl))) (Or.inr (Or.inr rfl))) (Or.inl (Or.inl rfl))) ⟨by show nx_ m2 ≤ _; rw [g4.1]; exact Nat.le_add_right _ _, by show sl_ m2 ≤ _; rw [g4.2]; exact Nat.le_add_right _ _⟩ (mr_S (mr_tr (mr_sa (mr_sa g2 (j := 15) (by decide) p 1) (j := 12) (by decide) p d) 0) _) (fun j hj => ?_) hr3 (pv_te k3 hp dmd)⟩
        · have h0 := hj0 j hj
          show _ = if j = 2 then -1 else if j = 1 then 0 else if j = 0 then 0 else aS (as_ m y GM) j
          unfold tr_
          rw [fi_si]
          by_cases z2 : j = 2
          · subst z2; rw [if_pos rfl]; exact up2_s
          rw [up2_c (by omega), if_neg z2, fi_si]
          by_cases z1 : j = 1
          · subst z1; rw [if_pos rfl]; exact up2_s
          rw [up2_c (by omega), if_neg z1, if_neg h0]
          show fi_ m2 (1600 + j) y = _
          rw [g5 j hj, fi_si, up2_c (by omega)]
          rfl
      · rw [bi_f prv] at q7
        have hr3 := rc_tr hr1 (s3_ (aS (as_ m y GM)) 5) 5 (by decide) rfl rfl s3_l
        have cl : f_X11_tell ka c x (nI p) = some (-1, si_ c1 1214 x 5) := by
          unfold f_X11_tell
          rw [gt_t hx, p1, bd_s, oc_s, gt_t p2, dd, bd_s, if_pos rfl, q1, bd_s, q7, bd_s, if_pos rfl, k_refused hxk, bd_s]
        have zC : nx_ m ≤ nx_ (si_ c1 1214 x 5) := by
          show nx_ m ≤ nx_ c1
          rw [k5.1]
          exact fr1.1.1
        have hb0 := mr_bm (z := si_ c1 1214 x 5) (mr_of k1) zC
        have hb1 := mr_si hb0 (j := 0) (c := 1600) (by decide) 0
        obtain ⟨m2, g1, g2, g3, g4, g5⟩ := m_mayBeTold hb1 k3.1 k3.2.2.1 (p := p) (by omega) (fun i hi => ⟨_, _, (k_ruleT k2 hi).2.2.2⟩)
        have rf : f_X15_tell (bm_ m (si_ c1 1214 x 5)) y (nI p) = some (-1, tr_ m2 y 5) := by
          obtain ⟨a15, b15, c15⟩ := mo_a hb1.1 (j := 15) (cj := 1615) (K := 22) (n := 30) (by decide)
          have v15 := mr_V hb1 (j := 15) (by decide) p
          rw [h15'] at v15
          unfold f_X15_tell
          rw [gt_t (mo_y hb0.1), lt_e, m_isPerson1 hb1.1 hp, bd_s, if_neg (by decide), lt_e, a15, nn_s, gt_t b15, nI_clamp (by omega), c15, gt_t (ix9_ (k := p) (M := 30) (by omega) (by omega)), lt_e, v15, if_pos rfl, g1, bd_s, bi_f prv, if_pos rfl]
          unfold f_X15_tell_b36
          rw [gt_t (mo_y g2.1), m_refused (mo_y g2.1), bd_s]
        refine ⟨_, _, _, cl, rf, inv_fin hI (T := fun q => (q = ka 200 ∨ q = ga_ GC 14 0 ∨ q = ga_ GC 16 0 ∨ q = ga_ GC 15 0) ∨ q = x ∨ q = ga_ GC 31 p) (fqi fr1 (Or.inr (Or.inl rfl))) ⟨by show nx_ c1 ≤ _; omega, by show sl_ c1 ≤ _; omega⟩ (U := rU_ y GM) (fqt (fq_tr (fq_si hb0.1.1.1 (Or.inl rfl)) g3) (Or.inl rfl)) ⟨by show nx_ m2 ≤ _; rw [g4.1]; exact Nat.le_add_right _ _, by show sl_ m2 ≤ _; rw [g4.2]; exact Nat.le_add_right _ _⟩ (mr_S (mr_tr g2 5) _) (fun j hj => ?_) hr3 (pv_S _ _ _ k3)⟩
        · have h0 := hj0 j hj
          show _ = if j = 2 then -1 else if j = 1 then 5 else if j = 0 then 0 else aS (as_ m y GM) j
          unfold tr_
          rw [fi_si]
          by_cases z2 : j = 2
          · subst z2; rw [if_pos rfl]; exact up2_s
          rw [up2_c (by omega), if_neg z2, fi_si]
          by_cases z1 : j = 1
          · subst z1; rw [if_pos rfl]; exact up2_s
          rw [up2_c (by omega), if_neg z1, if_neg h0, g5 j hj, fi_si, up2_c (by omega)]
          rfl
  · have p0 := k_person0 k2 hN hout
    refine ⟨-1, si_ c 1214 x 1, tr_ (si_ (bm_ m (si_ c 1214 x 1)) 1600 y 0) y 1, ?_, ?_, no_ pv_S hI 1 (by decide)⟩
    · unfold f_X11_tell
      rw [gt_t hx, p0, bd_s, oc_n, k_refused hx, bd_s]
    · have h1 := mr_si (mr_bm (z := si_ c 1214 x 1) (mr_of k1) (Nat.le_of_eq k5.1)) (j := 0) (c := 1600) (by decide) 0
      unfold f_X15_tell
      rw [gt_t (show kd_ (bm_ m (si_ c 1214 x 1)) y = 17 from mo_yb k1), lt_e]
      generalize si_ (bm_ m (si_ c 1214 x 1)) 1600 y 0 = σ at h1 ⊢
      rw [m_isPerson0 h1.1 hout, bd_s, if_pos rfl, m_refused (mo_y h1.1), bd_s]
end TL9
