/-! CALLS that change one thing: check, correct, answer. Written by wip/b/mk58.py. -/
theorem tne_ {K LN : Nat → Nat} {σ : TH} {G : GH} (h : sh_ K LN σ G) {T : Nat → Prop} {L : List Nat} (hT : ∀ q, T q → ∃ r i, r ∈ L ∧ i < gc_ G r ∧ q = ga_ G r i) : ∀ r i, i < gc_ G r → ¬ r ∈ L → ¬ T (ga_ G r i) := fun r i hi hr ht => by
  obtain ⟨s, j, hs, hj, e⟩ := hT _ ht
  exact sh_ne h hi hj (Or.inl (fun q => hr (q ▸ hs))) e
theorem s3_fi (σ : TH) (y : Nat) (v : Int32) (j : Nat) : fi_ (tr_ (si_ σ 1600 y 0) y v) (1600 + j) y = s3_ (fun q => fi_ σ (1600 + q) y) v j := by
  unfold s3_ tr_
  rw [fi_si, fi_si, fi_si]
  by_cases h2 : j = 2
  · subst h2; rw [if_pos rfl, up2_s]
  · rw [if_neg h2, up2_c (by omega)]
    by_cases h1 : j = 1
    · subst h1; rw [if_pos rfl, up2_s]
    · rw [if_neg h1, up2_c (by omega)]
      by_cases h0 : j = 0
      · subst h0; rw [if_pos rfl, up2_s]
      · rw [if_neg h0, up2_c (by omega)]
section C58
variable {ka : Nat → Nat} {TX : Nat → Nat → (Nat → Int32) → Nat → (Nat → Int32) → Prop} {x y o N0 : Nat}
theorem rc_nx {σ : TH} {G : GH} {A : AS} {N : Nat → Nat} (h : rc_ ka TX σ x G A N) {r i : Nat} (hi : i < gc_ G r) (hr : r ≠ 0) : ga_ G r i ≠ x := by
  rw [← h.2.1.1]
  exact sh_ne h.1 hi (rc_1 h (by decide)) (Or.inl hr)
/-- role 0 and role 10 behind a call that told no trouble, whatever else moved -/
theorem ob_0b {σ τ : TH} {G G1 : GH} {A : AS} {N N1 : Nat → Nat} (h : rc_ ka TX σ x G A N) (v : Int32) (B : (Nat → Nat → Int32) × (Nat → Nat → Int32) × (Nat → Nat → Int32) × (Nat → Nat) × (Nat → Nat → Int32) × (Nat → Nat) × (Nat → Nat → Int32) × (Nat → Nat → Int32) × (Nat → Nat → Int32)) (hr : ∀ c, fr_ τ c x = fr_ σ c x) (hi : ∀ c, c ≠ 1214 → fi_ τ c x = fi_ σ c x) (h4 : fi_ τ 1214 x = v) (hG : ∀ r, r ∈ ([1, 2, 3, 4, 5, 6, 7, 8, 9, 10, 14, 17] : List Nat) → ga_ G1 r 0 = ga_ G r 0) : ob_ ka TX (s3_ (aS A) v, B) G1 N1 0 0 (ce_ τ x) := by
  obtain ⟨q0, q1, q2, q3, q4, q5, q6, q7, q8⟩ := rc_f0 h
  refine ⟨?_, ?_, ?_, ?_, ?_, ?_, ?_, ?_, ?_⟩
  · show (fr_ τ 1200 x = _ ∧ fr_ τ 1201 x = _ ∧ fr_ τ 1202 x = _ ∧ fr_ τ 1203 x = _ ∧ fr_ τ 1204 x = _ ∧ fr_ τ 1205 x = _ ∧ fr_ τ 1206 x = _ ∧ fr_ τ 1207 x = _ ∧ fr_ τ 1208 x = _ ∧ fr_ τ 1209 x = _ ∧ fr_ τ 1210 x = _ ∧ fr_ τ 1218 x = _)
    rw [hr, hr, hr, hr, hr, hr, hr, hr, hr, hr, hr, hr, hG 1 (by decide), hG 2 (by decide), hG 3 (by decide), hG 4 (by decide), hG 5 (by decide), hG 6 (by decide), hG 7 (by decide), hG 8 (by decide), hG 9 (by decide), hG 10 (by decide), hG 14 (by decide), hG 17 (by decide)]
    exact q0
  · rw [xi_ce, hi _ (by decide)]; exact q1
  · rw [xi_ce, hi _ (by decide)]; exact q2
  · rw [xi_ce, hi _ (by decide)]; exact q3
  · rw [xi_ce, h4]; rfl
  · rw [xi_ce, hi _ (by decide)]; exact q5
  · rw [xi_ce, hi _ (by decide)]; exact q6
  · rw [xi_ce, hi _ (by decide)]; exact q7
  · rw [xi_ce, hi _ (by decide)]; exact q8
theorem ob_check {A : AS} {G : GH} {N : Nat → Nat} {r i : Nat} {m : CE} (S : Nat → Int32) (j : Nat) (v : Int32) (hd : ¬ r ∈ ([0, 10, 32, 36] : List Nat)) (h : ob_ ka TX A G N r i m) : ob_ ka TX (S, up2_ (aV A) 19 j v, A.2.2) G N r i m := by
  match r, hd, h with
  | 0, hd, h => exact absurd (by decide) hd
  | 1, hd, h => exact h
  | 2, hd, h => exact h
  | 3, hd, h => exact h
  | 4, hd, h => exact h
  | 5, hd, h => exact h
  | 6, hd, h => exact h
  | 7, hd, h => exact h
  | 8, hd, h => exact h
  | 9, hd, h => exact h
  | 10, hd, h => exact absurd (by decide) hd
  | 11, hd, h => exact h
  | 12, hd, h => exact h
  | 13, hd, h => exact h
  | 14, hd, h => exact h
  | 15, hd, h => exact h
  | 16, hd, h => exact h
  | 17, hd, h => exact h
  | 18, hd, h => exact h
  | 19, hd, h => exact h
  | 20, hd, h => exact h
  | 21, hd, h => exact h
  | 22, hd, h => exact h
  | 23, hd, h => exact h
  | 24, hd, h => exact h
  | 25, hd, h => exact h
  | 26, hd, h => exact h
  | 27, hd, h => exact h
  | 28, hd, h => exact h
  | 29, hd, h => exact h
  | 30, hd, h => exact h
  | 31, hd, h => exact h
  | 32, hd, h => exact absurd (by decide) hd
  | 33, hd, h => exact h
  | 34, hd, h => exact h
  | 35, hd, h => exact h
  | 36, hd, h => exact absurd (by decide) hd
  | 37, hd, h => exact h
  | 38, hd, h => exact h
  | 39, hd, h => exact h
  | 40, hd, h => exact h
  | 41, hd, h => exact h
  | 42, hd, h => exact h
  | 43, hd, h => exact h
  | 44, hd, h => exact h
  | 45, hd, h => exact h
  | 46, hd, h => exact h
  | 47, hd, h => exact h
  | 48, hd, h => exact h
  | 49, hd, h => exact h
  | 50, hd, h => exact h
  | 51, hd, h => exact h
  | 52, hd, h => exact h
  | 53, hd, h => exact h
  | 54, hd, h => exact h
  | 55, hd, h => exact h
  | 56, hd, h => exact h
  | 57, hd, h => exact h
  | 58, hd, h => exact h
  | r + 59, hd, h => exact h
theorem pv_19 {A : AS} {N : Nat → Nat} {S : Nat → Int32} (h : pv_ A N) {p k : Nat} (hp : p < N 5) (hk : k < 10) {v : Int32} : pv_ (S, up2_ (aV A) 19 (10 * p + k) v, A.2.2) N := by
  obtain ⟨h1, h2, h3, h4, h5, h6, h7, d1, d2, d3⟩ := h
  refine ⟨h1, h2, h3, h4, h5, h6, h7, d1, fun q hq hq2 => ⟨(d2 q hq hq2).1, (d2 q hq hq2).2.1, (d2 q hq hq2).2.2.1, fun j hj => ?_⟩, d3⟩
  exact (up2_n (show 10 * q + j ≠ 10 * p + k by omega)).trans ((d2 q hq hq2).2.2.2 j hj)
theorem rc_check {σ : TH} {G : GH} {A : AS} {N : Nat → Nat} (h : rc_ ka TX σ x G A N) (hT : pvT A N) (hN : N 5 ≤ 30) (hN17 : N 17 ≤ 240) {p k t : Nat} (hp : p < N 5) (hk : k < 10) (ht : lt9_ A N p k = some t) {d : Nat} (hd : d < 2 ^ 31) {τ : TH} (e0 : τ = si_ (si_ σ 905 (ga_ G 36 t) (nI d)) 1214 x 0) : rc_ ka TX τ x G (s3_ (aS A) 0, up2_ (aV A) 19 (10 * p + k) (nI d), A.2.2) N ∧ fq_ (fun q => q = x ∨ q = ga_ G 36 t) σ τ := by
  have h1 := (la_some ht).1
  have hc : t < gc_ G 36 := by rw [rc_36 h]; exact h1
  have hf : fq_ (fun q => q = x ∨ q = ga_ G 36 t) σ τ := by
    rw [e0]
    exact fq_tr (fq_si h.1.1 (Or.inr rfl)) (fq_si h.1.1 (Or.inl rfl))
  have hx36 := rc_nx h hc (by decide)
  have h4 : aV A 20 t = nI p ∧ aV A 21 t = nI k := by simpa [tq_] using (la_some ht).2.1
  refine ⟨rc_gen h hf (fun r i => r ∈ ([0, 10, 32, 36] : List Nat)) (tne_ (T := fun q => q = x ∨ q = ga_ G 36 t) h.1 (fun q hq => ?_)) (fun r i mm hi hd2 h9 => ob_check _ _ _ hd2 h9) (fun r i hi hd2 => ?_), hf⟩
  · rcases hq with hq | hq
    · exact ⟨0, 0, by decide, rc_1 h (by decide), hq.trans h.2.1.1.symm⟩
    · exact ⟨36, t, by decide, hc, hq⟩
  · simp only [List.mem_cons, List.not_mem_nil, or_false] at hd2
    rcases hd2 with rfl | rfl | rfl | rfl
    · rw [g0_ h (by decide) hi, h.2.1.1]
      refine ob_0b h 0 _ (fun c => by rw [e0]; rfl) (fun c c1 => ?_) ?_ (fun _ _ => rfl)
      · rw [e0, fi_si, up2_c c1, fi_si]
        by_cases e : c = 905
        · subst e; exact up2_n hx36.symm
        · exact congrFun (up2_c e) x
      · rw [e0, fi_si, up2_s]
    · rw [g0_ h (by decide) hi]
      have : ce_ τ (ga_ G 10 0) = ce_ σ (ga_ G 10 0) := by
        rw [e0, ce_si (rc_nx h (rc_1 h (by decide)) (by decide)), ce_si (sh_ne h.1 (rc_1 h (by decide)) hc (Or.inl (by decide)))]
      rw [this]
      exact ob_10 h 0 (by decide) _
    · have hi5 : i < N 5 := by rw [← rc_32 h]; exact hi
      rw [e0, ce_si (rc_nx h hi (by decide)), ce_si (sh_ne h.1 hi hc (Or.inl (by decide)))]
      intro j hj
      obtain ⟨q1, q2⟩ := h.2.2.2 32 i hi j hj
      refine ⟨q1, ?_⟩
      show up2_ (aV A) 19 (10 * p + k) (nI d) 19 (10 * i + j) = -1 ↔ lt9_ A N i j = none
      by_cases e : 10 * i + j = 10 * p + k
      · have e1 : i = p := by omega
        have e2 : j = k := by omega
        subst e1; subst e2
        rw [up2_s]
        exact ⟨fun z => absurd z (nI_n1 hd), fun z => by rw [ht] at z; cases z⟩
      · rw [up2_n e]; exact q2
    · have hi17 : i < N 17 := by rw [← rc_36 h]; exact hi
      rw [e0, ce_si (rc_nx h hi (by decide))]
      obtain ⟨⟨P, hP, eP⟩, ⟨K, hK, eK⟩, -⟩ := hT i hi17
      by_cases e : i = t
      · subst e
        obtain ⟨q0, q1, q2, q3, q4, q5, q6⟩ := h.2.2.2 36 i hc
        refine ⟨q0, q1, q2, q3, q4, fun _ => ?_, q6⟩
        · show up2_ (fi_ σ) 905 (ga_ G 36 i) (nI d) 905 (ga_ G 36 i) = up2_ (aV A) 19 (10 * p + k) (nI d) 19 (10 * (aV A 20 i).toNatClampNeg + (aV A 21 i).toNatClampNeg)
          rw [h4.1, h4.2, nI_clamp (show p < 2 ^ 31 by omega), nI_clamp (show k < 2 ^ 31 by omega), up2_s, up2_s]
      · rw [ce_si (sh_ne h.1 hi hc (Or.inr e))]
        obtain ⟨q0, q1, q2, q3, q4, q5, q6⟩ := h.2.2.2 36 i hi
        refine ⟨q0, q1, q2, q3, q4, fun z => ?_, q6⟩
        have q5 := q5 z
        rw [eP, eK, nI_clamp (show P < 2 ^ 31 by omega), nI_clamp (show K < 2 ^ 31 by omega)] at q5
        show _ = up2_ (aV A) 19 (10 * p + k) (nI d) 19 (10 * (aV A 20 i).toNatClampNeg + (aV A 21 i).toNatClampNeg)
        rw [eP, eK, nI_clamp (show P < 2 ^ 31 by omega), nI_clamp (show K < 2 ^ 31 by omega)]
        have ne : 10 * P + K ≠ 10 * p + k := fun e9 => e (by
          have e1 : P = p := by omega
          have e2 : K = k := by omega
          have z : la_ (tq_ A (aV A 20 i) (aV A 21 i)) (N 17) = some i := z
          rw [eP, eK, e1, e2] at z
          have z2 : la_ (tq_ A (nI p) (nI k)) (N 17) = some t := ht
          rw [z] at z2
          exact Option.some.inj z2)
        rw [up2_n ne]
        exact q5
theorem ok_check : St_check ka x y (inv_ ka TX pv_ x y o N0) := fun n c m a0 a1 hn hI => by
  obtain ⟨GC, GM, N, k1, k2, k3, k4, k5, k6, k7, k8⟩ := id hI
  have hN := (mo_n k1 (j := 5) (cj := 1605) (m := 30) (by decide)).2
  obtain ⟨e6, hN6⟩ := mo_n k1 (j := 6) (cj := 1606) (m := 5257439) (by decide)
  have hb : mr_ (bm_ m c) y GM (as_ m y GM) N := mr_bm (mr_of k1) (Nat.le_of_eq k5.1)
  have hx := rc_x k2
  have hN17 := (mo_n k1 (j := 17) (cj := 1617) (m := 240) (by decide)).2
  have n6 := k_now k2 e6 hN6
  have htd : td_ N < 2 ^ 31 := Nat.lt_of_le_of_lt (Nat.div_le_self _ _) (by omega)
  rcases pk9_ N hN a0 a1 with ⟨p, k, hp, hk, rfl, rfl⟩ | hout
  · obtain ⟨p1, p2⟩ := k_person1 k2 hN hp
    obtain ⟨f1, f2, f3, f4, f5⟩ := k_facts k2 hp
    obtain ⟨f6, f7⟩ := f5 k hk
    have g5 := kd9_ hk
    have g1 : ¬ nI k < 0 := nI_pos (by omega)
    have g3 : (nI k).toNatClampNeg = k := nI_clamp (by omega)
    have g4 : ¬ 10 ≤ k := by omega
    have g1b : ¬ nI (10 * p + k) < 0 := nI_pos (by omega)
    have g3b : (nI (10 * p + k)).toNatClampNeg = (10 * p + k) := nI_clamp (by omega)
    have g4b : ¬ 300 ≤ (10 * p + k) := by omega
    cases ht : lt9_ (as_ m y GM) N p k with
    | none =>
      rw [ht] at f6
      have z := f7.mpr ht
      refine ⟨0, si_ c 1214 x 1, tr_ (si_ (bm_ m (si_ c 1214 x 1)) 1600 y 0) y 1, ?_, ?_, no_ pv_S hI 1 (by decide)⟩
      · simp [f_X11_check, gt_, lt_, nn_, oc_, bd_, hx, p1, f1, f2, f3, f4, f6, k_isKind, bi_, g5, g1, g3, g4, k_denied]
      · have h1 := mr_si (mr_bm (z := si_ c 1214 x 1) (mr_of k1) (Nat.le_of_eq k5.1)) (j := 0) (c := 1600) (by decide) 0
        unfold f_X15_check
        rw [gt_t (show kd_ (bm_ m (si_ c 1214 x 1)) y = 17 from mo_yb k1), lt_e]
        generalize si_ (bm_ m (si_ c 1214 x 1)) 1600 y 0 = σ at h1 ⊢
        have v := mr_V h1 (j := 19) (by decide) (10 * p + k)
        obtain ⟨a19, b19, c19⟩ := mo_a h1.1 (j := 19) (cj := 1619) (K := 20) (n := 300) (by decide)
        simp [gt_, lt_, nn_, oc_, bd_, m_isPerson1 h1.1 hp, m_isKind, bi_, g5, ten_, a19, b19, c19, g1b, g3b, g4b, v, z, m_denied (mo_y h1.1)]
    | some t =>
      rw [ht] at f6
      have z : ¬ aV (as_ m y GM) 19 (10 * p + k) = -1 := fun q => by rw [f7.mp q] at ht; cases ht
      obtain ⟨-, s1, -⟩ := k_tell k2 hp hN hk ht
      obtain ⟨r1, r2⟩ := rc_check k2 k3.1 hN hN17 hp hk ht htd rfl
      have h1 := mr_si (mr_bm (z := si_ (si_ c 905 (ga_ GC 36 t) (nI (td_ N))) 1214 x 0) (mr_of k1) (Nat.le_of_eq k5.1)) (j := 0) (c := 1600) (by decide) 0
      refine ⟨1, _, _, ?_, ?_, inv_1 hI k1 k5.1 r2 rfl rfl 19 (10 * p + k) (nI (td_ N)) (by decide) r1 (pv_19 k3 hp hk)⟩
      · simp [f_X11_check, gt_, lt_, nn_, oc_, bd_, kd_si, ln_si, fi_si, fr_si, fl_si, ai_si, ar_si, al_si, ow_si, nx_si, sl_si, kd_sr, ln_sr, fi_sr, fr_sr, fl_sr, ai_sr, ar_sr, al_sr, ow_sr, nx_sr, sl_sr, kd_so, ln_so, fi_so, fr_so, fl_so, ai_so, ar_so, al_so, ow_so, nx_so, sl_so, kd_sa, ln_sa, fi_sa, fr_sa, fl_sa, ai_sa, ar_sa, al_sa, ow_sa, nx_sa, sl_sa, kd_sq, ln_sq, fi_sq, fr_sq, fl_sq, ai_sq, ar_sq, al_sq, ow_sq, nx_sq, sl_sq, kd_sj, ln_sj, fi_sj, fr_sj, fl_sj, ai_sj, ar_sj, al_sj, ow_sj, nx_sj, sl_sj, hx, p1, f1, f2, f3, f4, f6, k_isKind, bi_, g5, g1, g3, g4, n6, s1, k_allowed]
      · unfold f_X15_check
        rw [gt_t (show kd_ (bm_ m (si_ (si_ c 905 (ga_ GC 36 t) (nI (td_ N))) 1214 x 0)) y = 17 from mo_yb k1), lt_e]
        generalize si_ (bm_ m (si_ (si_ c 905 (ga_ GC 36 t) (nI (td_ N))) 1214 x 0)) 1600 y 0 = σ at h1 ⊢
        have hy := mo_y h1.1
        have v := mr_V h1 (j := 19) (by decide) (10 * p + k)
        obtain ⟨a19, b19, c19⟩ := mo_a h1.1 (j := 19) (cj := 1619) (K := 20) (n := 300) (by decide)
        simp [gt_, lt_, nn_, oc_, bd_, m_isPerson1 h1.1 hp, m_isKind, bi_, g5, ten_, a19, b19, c19, g1b, g3b, g4b, v, z, m_today2 h1, m_granted (σ := sa_ σ (ga_ GM 19 0) (10 * p + k) (nI (td_ N))) hy]
  · rcases hout with hout | ⟨p, hp, rfl, hb2⟩
    · refine ⟨0, si_ c 1214 x 1, tr_ (si_ (bm_ m (si_ c 1214 x 1)) 1600 y 0) y 1, ?_, ?_, no_ pv_S hI 1 (by decide)⟩
      · simp [f_X11_check, gt_, lt_, nn_, oc_, bd_, hx, k_person0 k2 hN hout, k_denied]
      · have h1 := mr_si (mr_bm (z := si_ c 1214 x 1) (mr_of k1) (Nat.le_of_eq k5.1)) (j := 0) (c := 1600) (by decide) 0
        unfold f_X15_check
        rw [gt_t (show kd_ (bm_ m (si_ c 1214 x 1)) y = 17 from mo_yb k1), lt_e]
        generalize si_ (bm_ m (si_ c 1214 x 1)) 1600 y 0 = σ at h1 ⊢
        simp [gt_, lt_, nn_, oc_, bd_, m_isPerson0 h1.1 hout, m_denied (mo_y h1.1)]
    · obtain ⟨p1, p2⟩ := k_person1 k2 hN hp
      refine ⟨0, si_ c 1214 x 2, tr_ (si_ (bm_ m (si_ c 1214 x 2)) 1600 y 0) y 2, ?_, ?_, no_ pv_S hI 2 (by decide)⟩
      · simp [f_X11_check, gt_, lt_, nn_, oc_, bd_, hx, p1, k_isKind, bi_, hb2, k_denied]
      · have h1 := mr_si (mr_bm (z := si_ c 1214 x 2) (mr_of k1) (Nat.le_of_eq k5.1)) (j := 0) (c := 1600) (by decide) 0
        unfold f_X15_check
        rw [gt_t (show kd_ (bm_ m (si_ c 1214 x 2)) y = 17 from mo_yb k1), lt_e]
        generalize si_ (bm_ m (si_ c 1214 x 2)) 1600 y 0 = σ at h1 ⊢
        simp [gt_, lt_, nn_, oc_, bd_, m_isPerson1 h1.1 hp, m_isKind, bi_, hb2, m_denied (mo_y h1.1)]
end C58
