/-! CALLS: fits, fresh. Written by wip/b/mk62.py. -/
theorem lt3_ {j : Nat} (h : j < 3) : j = 0 ∨ j = 1 ∨ j = 2 := by omega
theorem tin_ {j : Nat} (hj : j < 3) : ¬ (3 : Int32) ≤ nI j := nI_ge (b := 3) hj (by decide)
theorem po9_m {q : Nat → Bool} {k : Nat} (h : po9_ q k = -3) : ∀ n, k ≤ n → po9_ q n = -3
  | 0, hn => by
    have : k = 0 := by omega
    subst this; exact h
  | n + 1, hn => by
    by_cases e : k = n + 1
    · rw [← e]; exact h
    · have := po9_m h n (by omega)
      unfold po9_
      rw [this]
      simp
theorem fn9_c (A : AS) (r : Nat) : (fn9_ A r = 0 ∧ aV A 66 (3 * r) = -1) ∨ (fn9_ A r = 1 ∧ aV A 66 (3 * r) ≠ -1 ∧ aV A 66 (3 * r + 1) = -1) ∨ (fn9_ A r = 2 ∧ aV A 66 (3 * r) ≠ -1 ∧ aV A 66 (3 * r + 1) ≠ -1 ∧ aV A 66 (3 * r + 2) = -1) ∨ (fn9_ A r = 3 ∧ aV A 66 (3 * r) ≠ -1 ∧ aV A 66 (3 * r + 1) ≠ -1 ∧ aV A 66 (3 * r + 2) ≠ -1) := by
  unfold fn9_
  by_cases h1 : aV A 66 (3 * r) = -1
  · rw [if_pos h1]; exact Or.inl ⟨rfl, h1⟩
  · rw [if_neg h1]
    by_cases h2 : aV A 66 (3 * r + 1) = -1
    · rw [if_pos h2]; exact Or.inr (Or.inl ⟨rfl, h1, h2⟩)
    · rw [if_neg h2]
      by_cases h3 : aV A 66 (3 * r + 2) = -1
      · rw [if_pos h3]; exact Or.inr (Or.inr (Or.inl ⟨rfl, h1, h2, h3⟩))
      · rw [if_neg h3]; exact Or.inr (Or.inr (Or.inr ⟨rfl, h1, h2, h3⟩))
/-- facts told are of kinds; those behind the last are none -/
theorem fn9_k {A : AS} {N : Nat → Nat} (hR : pvR A N) {r j : Nat} (hr : r < N 59) (hj : j < fn9_ A r) : j < 3 ∧ ∃ k, k < 10 ∧ aV A 66 (3 * r + j) = nI k := by
  obtain ⟨-, -, -, -, -, h6, -, -⟩ := hR r hr
  have hj3 : j < 3 ∧ aV A 66 (3 * r + j) ≠ -1 := by
    rcases fn9_c A r with ⟨h, -⟩ | ⟨h, h1, -⟩ | ⟨h, h1, h2, -⟩ | ⟨h, h1, h2, h3⟩
    · omega
    · have : j = 0 := by omega
      subst this; exact ⟨by decide, h1⟩
    · rcases (show j = 0 ∨ j = 1 by omega) with rfl | rfl
      · exact ⟨by decide, h1⟩
      · exact ⟨by decide, h2⟩
    · rcases (show j = 0 ∨ j = 1 ∨ j = 2 by omega) with rfl | rfl | rfl
      · exact ⟨by decide, h1⟩
      · exact ⟨by decide, h2⟩
      · exact ⟨by decide, h3⟩
  exact ⟨hj3.1, (h6 j hj3.1).resolve_left hj3.2⟩
theorem fi9_end {A : AS} {N : Nat → Nat} (hR : pvR A N) {r p : Nat} (hr : r < N 59) {j : Nat} (hj : fn9_ A r ≤ j) (h3 : j < 3) : fi9_ A N r p j = true := by
  obtain ⟨-, -, -, -, -, -, h7, h8⟩ := hR r hr
  have : aV A 66 (3 * r + j) = -1 := by
    rcases fn9_c A r with ⟨h, h1⟩ | ⟨h, h1, h2⟩ | ⟨h, h1, h2, h4⟩ | ⟨h, -⟩
    · rcases lt3_ h3 with rfl | rfl | rfl
      · exact h1
      · exact h7 h1
      · exact h8 (h7 h1)
    · rcases (show j = 1 ∨ j = 2 by omega) with rfl | rfl
      · exact h2
      · exact h8 h2
    · have : j = 2 := by omega
      subst this; exact h4
    · omega
  simp [fi9_, this]
section MC62
variable {σ : TH} {y : Nat} {G : GH} {A : AS} {N : Nat → Nat}
theorem m_fit1 (h : mr_ σ y G A N) (hT : pvT A N) (hR : pvR A N) {r p j : Nat} (hr : r < N 59) (hj : j < 3) (f : Nat) : f_X15_fitsTo_b24 (f + 1) σ y (nI r) (nI p) 1 (nI j) = f_X15_fitsTo_b24 f σ y (nI r) (nI p) (bi_ (fi9_ A N r p j = true)) (nI (j + 1)) := by
  have hy := mo_y h.1
  have hN59 := (mo_n h.1 (j := 59) (cj := 1659) (m := 120) (by decide)).2
  have hN17 := (mo_n h.1 (j := 17) (cj := 1617) (m := 240) (by decide)).2
  have hN6 := (mo_n h.1 (j := 6) (cj := 1606) (m := 5257439) (by decide)).2
  have g0 := tin_ hj
  have n6 := m_today2 h
  obtain ⟨a66, b66, c66⟩ := mo_a h.1 (j := 66) (cj := 1666) (K := 20) (n := 360) (by decide)
  obtain ⟨a67, b67, c67⟩ := mo_a h.1 (j := 67) (cj := 1667) (K := 20) (n := 360) (by decide)
  obtain ⟨a22, b22, c22⟩ := mo_a h.1 (j := 22) (cj := 1622) (K := 20) (n := 240) (by decide)
  have g1 : ¬ nI (3 * r + j) < 0 := nI_pos (by omega)
  have g3 : (nI (3 * r + j)).toNatClampNeg = (3 * r + j) := nI_clamp (by omega)
  have g4 : ¬ 360 ≤ (3 * r + j) := by omega
  have v66 := mr_V h (j := 66) (by decide) (3 * r + j)
  have v67 := mr_V h (j := 67) (by decide) (3 * r + j)
  obtain ⟨-, -, -, -, -, h6, -, -⟩ := hR r hr
  rcases h6 j hj with e | ⟨k, hk, e⟩
  · simp [f_X15_fitsTo_b24, f_X15_fitsTo_b68, f_X15_fitsTo_b97, f_X15_fitsTo_b102, gt_, lt_, nn_, oc_, bd_, hy, g0, three_, a66, b66, c66, g1, g3, g4, v66, e, fi9_, bi_, nI_1]
  · have z : ¬ nI k = -1 := nI_n1 (by omega)
    have s1 := m_tellingOn h (nI p) (nI k) (nI (td_ N))
    rw [tp_lt9 hT hN6] at s1
    have ek : (nI k).toNatClampNeg = k := nI_clamp (by omega)
    cases ht : lt9_ A N p k with
    | none =>
      rw [ht] at s1
      simp [f_X15_fitsTo_b24, f_X15_fitsTo_b68, f_X15_fitsTo_b97, f_X15_fitsTo_b102, gt_, lt_, nn_, oc_, bd_, hy, g0, three_, a66, b66, c66, g1, g3, g4, v66, e, z, n6, s1, oi_, fi9_, ek, ht, bi_, nI_1]
    | some t =>
      rw [ht] at s1
      have lt := (la_some ht).1
      have zt : ¬ nI t = -1 := nI_n1 (by omega)
      have v22 := mr_V h (j := 22) (by decide) t
      have g1b : ¬ nI t < 0 := nI_pos (by omega)
      have g3b : (nI t).toNatClampNeg = t := nI_clamp (by omega)
      have g4b : ¬ 240 ≤ t := by omega
      by_cases q : aV A 22 t = aV A 67 (3 * r + j)
      · simp [f_X15_fitsTo_b24, f_X15_fitsTo_b68, f_X15_fitsTo_b97, f_X15_fitsTo_b102, gt_, lt_, nn_, oc_, bd_, hy, g0, three_, a66, b66, c66, a67, b67, c67, a22, b22, c22, g1, g3, g4, g1b, g3b, g4b, v66, v67, v22, e, z, n6, s1, oi_, zt, fi9_, ek, ht, q, bi_, nI_1]
      · simp [f_X15_fitsTo_b24, f_X15_fitsTo_b68, f_X15_fitsTo_b97, f_X15_fitsTo_b102, gt_, lt_, nn_, oc_, bd_, hy, g0, three_, a66, b66, c66, a67, b67, c67, a22, b22, c22, g1, g3, g4, g1b, g3b, g4b, v66, v67, v22, e, z, n6, s1, oi_, zt, fi9_, ek, ht, q, bi_, nI_1]
theorem m_fit0 (f : Nat) (r p : Int32) (j : Int32) : f_X15_fitsTo_b24 (f + 1) σ y r p 0 j = some (0, σ) := by
  by_cases z : (3 : Int32) ≤ j
  · simp [f_X15_fitsTo_b24, f_X15_fitsTo_b109, gt_, z]
  · simp [f_X15_fitsTo_b24, f_X15_fitsTo_b109, gt_, z]
theorem m_fit3 (f : Nat) (r p : Int32) {v : Int32} (hv : v = 0 ∨ v = 1) : f_X15_fitsTo_b24 (f + 1) σ y r p v (nI 3) = some (v, σ) := by
  have z : (3 : Int32) ≤ nI 3 := by decide
  simp [f_X15_fitsTo_b24, f_X15_fitsTo_b109, gt_, z, hv]
theorem m_fitsTo (h : mr_ σ y G A N) (hT : pvT A N) (hR : pvR A N) {r p : Nat} (hr : r < N 59) (hp : p < N 5) : f_X15_fitsTo σ y (nI r) (nI p) = some (bi_ (ft9_ A N r p = true), σ) := by
  have hy := mo_y h.1
  have hN59 := (mo_n h.1 (j := 59) (cj := 1659) (m := 120) (by decide)).2
  have hN := (mo_n h.1 (j := 5) (cj := 1605) (m := 30) (by decide)).2
  obtain ⟨a8, b8, c8⟩ := mo_a h.1 (j := 8) (cj := 1608) (K := 20) (n := 30) (by decide)
  obtain ⟨a62, b62, c62⟩ := mo_a h.1 (j := 62) (cj := 1662) (K := 20) (n := 120) (by decide)
  have g1 : ¬ nI p < 0 := nI_pos (by omega)
  have g3 : (nI p).toNatClampNeg = p := nI_clamp (by omega)
  have g4 : ¬ 30 ≤ p := by omega
  have g1b : ¬ nI r < 0 := nI_pos (by omega)
  have g3b : (nI r).toNatClampNeg = r := nI_clamp (by omega)
  have g4b : ¬ 120 ≤ r := by omega
  have v8 := mr_V h (j := 8) (by decide) p
  have v62 := mr_V h (j := 62) (by decide) r
  have hz : (0 : Int32) = nI 0 := rfl
  have e0 : fu_ = 39996 + 1 + 1 + 1 + 1 := rfl
  unfold f_X15_fitsTo
  rw [gt_t hy, lt_e, a8, nn_s, gt_t b8, gt_t (by rw [c8, g3]; exact fun z => z.elim g1 g4), lt_e, g3, v8, lt_e, a62, nn_s, gt_t b62, gt_t (by rw [c62, g3b]; exact fun z => z.elim g1b g4b), lt_e, g3b, v62]
  by_cases q : aV A 8 p = aV A 62 r
  · rw [if_pos q]
    unfold f_X15_fitsTo_b20
    rw [e0, hz, m_fit1 h hT hR hr (by decide)]
    by_cases q0 : fi9_ A N r p 0 = true
    · rw [bi_t q0, m_fit1 h hT hR hr (by decide)]
      by_cases q1 : fi9_ A N r p 1 = true
      · rw [bi_t q1, m_fit1 h hT hR hr (by decide), m_fit3 _ _ _ bi_01]
        simp [ft9_, q, q0, q1]
      · rw [bi_f q1, m_fit0]
        simp [ft9_, q1, bi_]
    · rw [bi_f q0, m_fit0]
      simp [ft9_, q0, bi_]
  · rw [if_neg q]
    unfold f_X15_fitsTo_b20
    rw [e0, m_fit0]
    simp [ft9_, q, bi_]
theorem m_personOf (h : mr_ σ y G A N) (hT : pvT A N) (hR : pvR A N) {r : Nat} (hr : r < N 59) : f_X15_personOf σ y (nI r) = some (pe9_ A N r, σ) := by
  have hy := mo_y h.1
  have hN59 := (mo_n h.1 (j := 59) (cj := 1659) (m := 120) (by decide)).2
  obtain ⟨e5, hN⟩ := mo_n h.1 (j := 5) (cj := 1605) (m := 30) (by decide)
  obtain ⟨a61, b61, c61⟩ := mo_a h.1 (j := 61) (cj := 1661) (K := 20) (n := 120) (by decide)
  have g1 : ¬ nI r < 0 := nI_pos (by omega)
  have g3 : (nI r).toNatClampNeg = r := nI_clamp (by omega)
  have g4 : ¬ 120 ≤ r := by omega
  have v61 := mr_V h (j := 61) (by decide) r
  by_cases q : aV A 61 r = -1
  · have l : f_X15_personOf_b22 fu_ σ y (nI r) (-2) 0 = some (po9_ (ft9_ A N r) (N 5), σ) := by
      refine lp_ (F := fun f acc i => f_X15_personOf_b22 f σ y (nI r) acc i) (N 5) (fun i => po9_ (ft9_ A N r) i) (fun f i hi => ?_) (fun f => ?_) (by omega)
      · have g2 : ¬ nI (N 5) ≤ nI i := nI_ge hi (by omega)
        have s := m_fitsTo h hT hR hr hi
        by_cases z : ft9_ A N r i = true
        · by_cases z2 : po9_ (ft9_ A N r) i = -2
          · simp [f_X15_personOf_b22, f_X15_personOf_b51, f_X15_personOf_b52, gt_, lt_, nn_, oc_, bd_, hy, e5, g2, s, z, z2, bi_, po9_, nI_1]
          · simp [f_X15_personOf_b22, f_X15_personOf_b51, f_X15_personOf_b52, gt_, lt_, nn_, oc_, bd_, hy, e5, g2, s, z, z2, bi_, po9_, nI_1]
        · simp [f_X15_personOf_b22, f_X15_personOf_b51, f_X15_personOf_b52, gt_, lt_, nn_, oc_, bd_, hy, e5, g2, s, z, bi_, po9_, nI_1]
      · have g2 : nI (N 5) ≤ nI (N 5) := nI_le (Nat.le_refl _) (by omega)
        simp [f_X15_personOf_b22, gt_, lt_, nn_, oc_, bd_, hy, e5, g2]
    simp [f_X15_personOf, gt_, lt_, nn_, oc_, bd_, hy, a61, b61, c61, g1, g3, g4, v61, q, l, pe9_]
  · simp [f_X15_personOf, gt_, lt_, nn_, oc_, bd_, hy, a61, b61, c61, g1, g3, g4, v61, q, pe9_]
end MC62
section KC62
variable {ka : Nat → Nat} {TX : Nat → Nat → (Nat → Int32) → Nat → (Nat → Int32) → Prop} {x y o N0 : Nat}
variable {σ : TH} {G : GH} {A : AS} {N : Nat → Nat}
theorem rc_41 (h : rc_ ka TX σ x G A N) : gc_ G 41 = N 59 ∧ gc_ G 42 = N 59 ∧ gc_ G 43 = N 59 := by
  have := h.2.2.1
  unfold cg_ at this
  simp only [this, and_self]
theorem k_rep (h : rc_ ka TX σ x G A N) {r : Nat} (hr : r < N 59) : kd_ σ (ga_ G 41 r) = 9 ∧ (fi_ σ 800 (ga_ G 41 r) = aV A 61 r ∧ fi_ σ 801 (ga_ G 41 r) = aV A 62 r ∧ fi_ σ 802 (ga_ G 41 r) = aV A 63 r ∧ fi_ σ 803 (ga_ G 41 r) = aV A 64 r ∧ fi_ σ 804 (ga_ G 41 r) = aV A 65 r ∧ fi_ σ 807 (ga_ G 41 r) = nI (fn9_ A r) ∧ fi_ σ 809 (ga_ G 41 r) = aV A 68 r) ∧ (fr_ σ 805 (ga_ G 41 r) = some (ga_ G 42 r) ∧ kd_ σ (ga_ G 42 r) = 20 ∧ ln_ σ (ga_ G 42 r) = 3 ∧ ∀ j, j < fn9_ A r → ai_ σ (ga_ G 42 r) j = aV A 66 (3 * r + j)) ∧ (fr_ σ 806 (ga_ G 41 r) = some (ga_ G 43 r) ∧ kd_ σ (ga_ G 43 r) = 20 ∧ ln_ σ (ga_ G 43 r) = 3 ∧ ∀ j, j < fn9_ A r → ai_ σ (ga_ G 43 r) j = aV A 67 (3 * r + j)) ∧ (aV A 68 r = 0 ∨ aV A 68 r = 1) := by
  obtain ⟨c1, c2, c3⟩ := rc_41 h
  obtain ⟨q0, q1, q2, q3, q4, q5, q6, q7, q8, q9⟩ := h.2.2.2 41 r (by rw [c1]; exact hr)
  obtain ⟨k1, -, k3, -⟩ := h.1.2 42 r (by rw [c2]; exact hr)
  obtain ⟨l1, -, l3, -⟩ := h.1.2 43 r (by rw [c3]; exact hr)
  exact ⟨(h.1.2 41 r (by rw [c1]; exact hr)).1, ⟨q0, q1, q2, q3, q4, q7, q8⟩, ⟨q5, k1, k3 (by decide), h.2.2.2 42 r (by rw [c2]; exact hr)⟩, ⟨q6, l1, l3 (by decide), h.2.2.2 43 r (by rw [c3]; exact hr)⟩, q9⟩
theorem k_suit1 (h : rc_ ka TX σ x G A N) (hR : pvR A N) (hN : N 5 ≤ 30) {r p j : Nat} (hr : r < N 59) (hr2 : N 59 ≤ 120) (hp : p < N 5) (hj : j < fn9_ A r) (f : Nat) : f_X7_suits_b15 (f + 1) σ (ga_ G 41 r) (some (ga_ G 31 p)) (nI j) = if fi9_ A N r p j = true then f_X7_suits_b15 f σ (ga_ G 41 r) (some (ga_ G 31 p)) (nI (j + 1)) else some (0, σ) := by
  obtain ⟨r1, ⟨-, -, -, -, -, r2, -⟩, ⟨r3, r4, r5, r6⟩, ⟨r7, r8, r9, r10⟩, -⟩ := k_rep h hr
  obtain ⟨f1, f2, f3, f4, f5⟩ := k_facts h hp
  obtain ⟨hj3, k, hk, e⟩ := fn9_k hR hr hj
  have r6 := r6 j hj
  have r10 := r10 j hj
  rw [e] at r6
  have g0 := tin_ hj3
  have hf3 : fn9_ A r ≤ 3 := by
    rcases fn9_c A r with ⟨h, -⟩ | ⟨h, -⟩ | ⟨h, -⟩ | ⟨h, -⟩ <;> omega
  have g2 : ¬ nI (fn9_ A r) ≤ nI j := nI_ge hj (by omega)
  have g1 : ¬ nI j < 0 := nI_pos (by omega)
  have g3 : (nI j).toNatClampNeg = j := nI_clamp (by omega)
  have g4 : ¬ 3 ≤ j := by omega
  have g1b : ¬ nI k < 0 := nI_pos (by omega)
  have g3b : (nI k).toNatClampNeg = k := nI_clamp (by omega)
  have g4b : ¬ 10 ≤ k := by omega
  have ek : (nI k).toNatClampNeg = k := nI_clamp (by omega)
  have z : ¬ nI k = -1 := nI_n1 (by omega)
  have f6 := (f5 k hk).1
  cases ht : lt9_ A N p k with
  | none =>
    rw [ht] at f6
    simp [f_X7_suits_b15, f_X7_suits_b59, gt_, lt_, nn_, oc_, bd_, r1, r2, r3, r4, r5, r6, g0, g1, g2, g3, g4, g1b, g3b, g4b, f1, f2, f3, f4, f6, fi9_, e, z, ht, nI_1]
  | some t =>
    rw [ht] at f6
    obtain ⟨-, s1, s2, -⟩ := k_tell h hp hN hk ht
    by_cases q : aV A 22 t = aV A 67 (3 * r + j)
    · simp [f_X7_suits_b15, f_X7_suits_b59, gt_, lt_, nn_, oc_, bd_, r1, r2, r3, r4, r5, r6, r7, r8, r9, r10, g0, g1, g2, g3, g4, g1b, g3b, g4b, f1, f2, f3, f4, f6, s1, s2, fi9_, e, z, ht, q, nI_1]
    · simp [f_X7_suits_b15, f_X7_suits_b59, gt_, lt_, nn_, oc_, bd_, r1, r2, r3, r4, r5, r6, r7, r8, r9, r10, g0, g1, g2, g3, g4, g1b, g3b, g4b, f1, f2, f3, f4, f6, s1, s2, fi9_, e, z, ht, q, nI_1]
theorem k_suit0 (h : rc_ ka TX σ x G A N) {r : Nat} (hr : r < N 59) (p : Nat) (f : Nat) : f_X7_suits_b15 (f + 1) σ (ga_ G 41 r) (some (ga_ G 31 p)) (nI (fn9_ A r)) = some (1, σ) := by
  obtain ⟨r1, ⟨-, -, -, -, -, r2, -⟩, -⟩ := k_rep h hr
  have hf3 : fn9_ A r ≤ 3 := by
    rcases fn9_c A r with ⟨h, -⟩ | ⟨h, -⟩ | ⟨h, -⟩ | ⟨h, -⟩ <;> omega
  have g2 : nI (fn9_ A r) ≤ nI (fn9_ A r) := nI_le (Nat.le_refl _) (by omega)
  simp [f_X7_suits_b15, f_X7_suits_b65, gt_, lt_, nn_, oc_, bd_, r1, r2, g2]
theorem k_suits (h : rc_ ka TX σ x G A N) (hR : pvR A N) (hN : N 5 ≤ 30) {r p : Nat} (hr : r < N 59) (hr2 : N 59 ≤ 120) (hp : p < N 5) : f_X7_suits σ (ga_ G 41 r) (some (ga_ G 31 p)) = some (bi_ (ft9_ A N r p = true), σ) := by
  obtain ⟨r1, ⟨-, r2, -⟩, -⟩ := k_rep h hr
  have hc : p < gc_ G 31 := by rw [rc_31 h]; exact hp
  have hk : kd_ σ (ga_ G 31 p) = 4 := (h.1.2 31 p hc).1
  have q1 : fi_ σ 301 (ga_ G 31 p) = aV A 8 p := (h.2.2.2 31 p hc).2.1
  have hz : (0 : Int32) = nI 0 := rfl
  have e0 : fu_ = 39996 + 1 + 1 + 1 + 1 := rfl
  unfold f_X7_suits
  rw [nn_s, gt_t hk, lt_e, q1, gt_t r1, lt_e, r2]
  by_cases q : aV A 8 p = aV A 62 r
  · rw [if_pos q, hz, e0]
    have s0 := fun (hj : 0 < fn9_ A r) (f : Nat) => k_suit1 h hR hN hr hr2 hp hj f
    have s1 := fun (hj : 1 < fn9_ A r) (f : Nat) => k_suit1 h hR hN hr hr2 hp hj f
    have s2 := fun (hj : 2 < fn9_ A r) (f : Nat) => k_suit1 h hR hN hr hr2 hp hj f
    have se := k_suit0 h hr p
    have d := fun (j : Nat) (h1 : fn9_ A r ≤ j) (h2 : j < 3) => fi9_end hR hr (p := p) h1 h2
    rcases fn9_c A r with ⟨e, -⟩ | ⟨e, -⟩ | ⟨e, -⟩ | ⟨e, -⟩
    · rw [e] at se d
      rw [se]
      simp [ft9_, q, d 0 (by omega) (by omega), d 1 (by omega) (by omega), d 2 (by omega) (by omega), bi_]
    · rw [e] at se d
      rw [s0 (by omega), se]
      by_cases z0 : fi9_ A N r p 0 = true
      · simp [ft9_, q, z0, d 1 (by omega) (by omega), d 2 (by omega) (by omega), bi_]
      · simp [ft9_, z0, bi_]
    · rw [e] at se d
      rw [s0 (by omega), s1 (by omega), se]
      by_cases z0 : fi9_ A N r p 0 = true
      · by_cases z1 : fi9_ A N r p 1 = true
        · simp [ft9_, q, z0, z1, d 2 (by omega) (by omega), bi_]
        · simp [ft9_, z0, z1, bi_]
      · simp [ft9_, z0, bi_]
    · rw [e] at se
      rw [s0 (by omega), s1 (by omega), s2 (by omega), se]
      by_cases z0 : fi9_ A N r p 0 = true
      · by_cases z1 : fi9_ A N r p 1 = true
        · by_cases z2 : fi9_ A N r p 2 = true
          · simp [ft9_, q, z0, z1, z2, bi_]
          · simp [ft9_, z0, z1, z2, bi_]
        · simp [ft9_, z0, z1, bi_]
      · simp [ft9_, z0, bi_]
  · rw [if_neg q]
    simp [ft9_, q, bi_]
theorem k_personOf (h : rc_ ka TX σ x G A N) (hR : pvR A N) (hN : N 5 ≤ 30) {r : Nat} (hr : r < N 59) (hr2 : N 59 ≤ 120) : f_X11_personOf σ x (some (ga_ G 41 r)) = some (pe9_ A N r, σ) := by
  have hx := rc_x h
  obtain ⟨r1, ⟨r2, -⟩, -⟩ := k_rep h hr
  obtain ⟨e1, e2⟩ := rc_r1201 h
  have hl := rc_l2 h (by omega)
  have l1 := l_size hl
  by_cases q : aV A 61 r = -1
  · have key : ∀ (n i f : Nat), i + n = N 5 → po9_ (ft9_ A N r) i ≠ -3 → f_X11_personOf_b18 (f + n + 1) σ x (some (ga_ G 41 r)) (po9_ (ft9_ A N r) i) (nI i) = some (po9_ (ft9_ A N r) (N 5), σ) := by
      intro n
      induction n with
      | zero =>
        intro i f hi _
        have : i = N 5 := by omega
        subst this
        have g2 : nI (N 5) ≤ nI (N 5) := nI_le (Nat.le_refl _) (by omega)
        simp [f_X11_personOf_b18, gt_, lt_, nn_, oc_, bd_, hx, e1, e2, l1, g2]
      | succ n ih =>
        intro i f hi hne
        have hi5 : i < N 5 := by omega
        have g2 : ¬ nI (N 5) ≤ nI i := nI_ge hi5 (by omega)
        have l2 := l_get hl hi5
        have hc : i < gc_ G 31 := by rw [rc_31 h]; exact hi5
        have hk : kd_ σ (ga_ G 31 i) = 4 := (h.1.2 31 i hc).1
        have s := k_suits h hR hN hr hr2 hi5
        rw [show f + (n + 1) + 1 = (f + n + 1) + 1 by omega]
        have ih := ih (i + 1) f (by omega)
        generalize f + n + 1 = F at ih ⊢
        by_cases z : ft9_ A N r i = true
        · by_cases z2 : po9_ (ft9_ A N r) i = -2
          · have e9 : po9_ (ft9_ A N r) (i + 1) = nI i := by simp [po9_, z, z2]
            rw [e9] at ih
            have ih := ih (fun w => by
              have := nI_pos' (show i < 2 ^ 31 by omega)
              rw [w] at this
              exact absurd this (by decide))
            simp [f_X11_personOf_b18, f_X11_personOf_b58, gt_, lt_, nn_, oc_, bd_, hx, e1, e2, l1, l2, hk, r1, g2, s, z, z2, bi_, nI_1, ih]
          · have e9 : po9_ (ft9_ A N r) (i + 1) = -3 := by simp [po9_, z, z2]
            rw [po9_m e9 (N 5) (by omega)]
            simp [f_X11_personOf_b18, f_X11_personOf_b58, gt_, lt_, nn_, oc_, bd_, hx, e1, e2, l1, l2, hk, r1, g2, s, z, z2, bi_]
        · have e9 : po9_ (ft9_ A N r) (i + 1) = po9_ (ft9_ A N r) i := by simp [po9_, z]
          rw [e9] at ih
          simp [f_X11_personOf_b18, f_X11_personOf_b58, gt_, lt_, nn_, oc_, bd_, hx, e1, e2, l1, l2, hk, r1, g2, s, z, bi_, nI_1, ih hne]
    have k0 := key (N 5) 0 (39999 - N 5) (by omega) (show ¬ (-2 : Int32) = -3 by decide)
    rw [show 39999 - N 5 + N 5 + 1 = fu_ by unfold fu_; omega] at k0
    unfold f_X11_personOf
    rw [nn_s, gt_t r1, lt_e, r2, if_pos q]
    refine Eq.trans k0 ?_
    rw [pe9_, if_pos q]
  · simp [f_X11_personOf, gt_, lt_, nn_, oc_, bd_, r1, r2, q, pe9_]
theorem ok_fits : St_fits ka x y (inv_ ka TX pv_ x y o N0) := fun n c m a0 hn hI => by
  obtain ⟨GC, GM, N, k1, k2, k3, k4, k5, k6, k7, k8⟩ := id hI
  have hN := (mo_n k1 (j := 5) (cj := 1605) (m := 30) (by decide)).2
  obtain ⟨e6, hN6⟩ := mo_n k1 (j := 6) (cj := 1606) (m := 5257439) (by decide)
  have hb : mr_ (bm_ m c) y GM (as_ m y GM) N := mr_bm (mr_of k1) (Nat.le_of_eq k5.1)
  have hx := rc_x k2
  have hy : kd_ (bm_ m c) y = 17 := mo_yb k1
  obtain ⟨e9, hN59⟩ := mo_n k1 (j := 59) (cj := 1659) (m := 120) (by decide)
  obtain ⟨e1, e2⟩ := rc_r1203 k2
  have hl := rc_l4 k2 (by omega)
  have l1 := l_size hl
  have hb1 := mr_si hb (j := 0) (c := 1600) (by decide) 0
  rcases rg_ a0 (n := N 59) (by omega) with ⟨r, hr, rfl⟩ | hout
  · have l2 := l_get hl hr
    have g := rg_in hr (show N 59 < 2 ^ 31 by omega)
    obtain ⟨r1, -⟩ := k_rep k2 hr
    refine ⟨pe9_ (as_ m y GM) N r, c, si_ (bm_ m c) 1600 y 0, ?_, ?_, ask_ hI pv_S⟩
    · simp [f_X11_fits, gt_, lt_, nn_, oc_, bd_, hx, e1, e2, l1, l2, k_within, bi_, g, r1, k_personOf k2 k3.2.2.1 hN hr hN59]
    · unfold f_X15_fits
      rw [gt_t hy, lt_e]
      generalize si_ (bm_ m c) 1600 y 0 = σ at hb1 ⊢
      have ec := (mo_n hb1.1 (j := 59) (cj := 1659) (m := 120) (by decide)).1
      have g1 : ¬ nI r < 0 := nI_pos (by omega)
      have g2 : ¬ nI (N 59) ≤ nI r := nI_ge hr (by omega)
      simp [f_X15_fits_b26, gt_, lt_, nn_, oc_, bd_, ec, g1, g2, m_personOf hb1 k3.1 k3.2.2.1 hr]
  · have g := rg_out (show N 59 < 2 ^ 31 by omega) hout
    refine ⟨-1, c, si_ (bm_ m c) 1600 y 0, ?_, ?_, ask_ hI pv_S⟩
    · simp [f_X11_fits, gt_, lt_, nn_, oc_, bd_, hx, e1, e2, l1, k_within, bi_, g]
    · unfold f_X15_fits
      rw [gt_t hy, lt_e]
      generalize si_ (bm_ m c) 1600 y 0 = σ at hb1 ⊢
      have ec := (mo_n hb1.1 (j := 59) (cj := 1659) (m := 120) (by decide)).1
      by_cases g1 : a0 < 0
      · simp [f_X15_fits_b25, f_X15_fits_b26, gt_, lt_, nn_, oc_, bd_, g1]
      · have g2 := hout.resolve_left g1
        simp [f_X15_fits_b25, f_X15_fits_b26, gt_, lt_, nn_, oc_, bd_, ec, g1, g2]
theorem rc_l8 (h : rc_ ka TX σ x G A N) (hN5 : N 5 ≤ 30) (hN : N 86 ≤ 12) (hW : pvW A N) : ls_ ka σ (ga_ G 8 0) (if gc_ G 58 = 0 then ka 200 else ga_ G 58 0) (N 86) (fun j => ga_ G 31 (aV A 84 j).toNatClampNeg) := by
  obtain ⟨q1, q2, q3⟩ := h.2.2.2 8 0 (rc_1 h (by decide))
  refine ⟨(h.1.2 8 0 (rc_1 h (by decide))).1, q1, q2, by omega, ?_, fun j hj => ?_⟩
  · by_cases z : gc_ G 58 = 0
    · rw [if_pos z]
      exact Or.inr ⟨rfl, h.2.1.2.1, q3 z⟩
    · rw [if_neg z]
      obtain ⟨p1, p2, p3, -⟩ := h.2.2.2 58 0 (Nat.pos_of_ne_zero z)
      exact Or.inl ⟨(h.1.2 58 0 (Nat.pos_of_ne_zero z)).1, p1, p2, p3⟩
  · by_cases z : gc_ G 58 = 0
    · have := q3 z
      omega
    · rw [if_neg z]
      obtain ⟨-, -, -, p4⟩ := h.2.2.2 58 0 (Nat.pos_of_ne_zero z)
      obtain ⟨p, hp, e⟩ := hW.1 j hj
      have hb5 : p < gc_ G 31 := by rw [rc_31 h]; exact hp
      have hk : kd_ σ (ga_ G 31 (aV A 84 j).toNatClampNeg) = 4 := by rw [e, nI_clamp (show p < 2 ^ 31 by omega)]; exact (h.1.2 31 p hb5).1
      dsimp only
      rw [hk]
      exact ⟨p4 j hj, by decide, by decide⟩
theorem ok_fresh : St_fresh ka x y (inv_ ka TX pv_ x y o N0) := fun n c m a0 hn hI => by
  obtain ⟨GC, GM, N, k1, k2, k3, k4, k5, k6, k7, k8⟩ := id hI
  have hN := (mo_n k1 (j := 5) (cj := 1605) (m := 30) (by decide)).2
  obtain ⟨e6, hN6⟩ := mo_n k1 (j := 6) (cj := 1606) (m := 5257439) (by decide)
  have hb : mr_ (bm_ m c) y GM (as_ m y GM) N := mr_bm (mr_of k1) (Nat.le_of_eq k5.1)
  have hx := rc_x k2
  have hy : kd_ (bm_ m c) y = 17 := mo_yb k1
  obtain ⟨e9, hN86⟩ := mo_n k1 (j := 86) (cj := 1686) (m := 12) (by decide)
  obtain ⟨e1, e2⟩ := rc_r1218 k2
  have hl := rc_l8 k2 hN hN86 k3.2.2.2.2.2.2.1
  have l1 := l_size hl
  have hb1 := mr_si hb (j := 0) (c := 1600) (by decide) 0
  rcases rg_ a0 (n := N 86) (by omega) with ⟨j, hj, rfl⟩ | hout
  · have l2 := l_get hl hj
    have g := rg_in hj (show N 86 < 2 ^ 31 by omega)
    obtain ⟨p, hp, e⟩ := k3.2.2.2.2.2.2.1.1 j hj
    rw [e, nI_clamp (show p < 2 ^ 31 by omega)] at l2
    have hc : p < gc_ GC 31 := by rw [rc_31 k2]; exact hp
    have hk : kd_ c (ga_ GC 31 p) = 4 := (k2.1.2 31 p hc).1
    have q0 : fi_ c 300 (ga_ GC 31 p) = nI p := (k2.2.2.2 31 p hc).1
    refine ⟨nI p, c, si_ (bm_ m c) 1600 y 0, ?_, ?_, ask_ hI pv_S⟩
    · simp [f_X11_fresh, f_X11_fresh_b35, gt_, lt_, nn_, oc_, bd_, hx, e1, e2, l1, l2, k_within, bi_, g, hk, q0]
    · unfold f_X15_fresh
      rw [gt_t hy, lt_e]
      generalize si_ (bm_ m c) 1600 y 0 = σ at hb1 ⊢
      have ec := (mo_n hb1.1 (j := 86) (cj := 1686) (m := 12) (by decide)).1
      obtain ⟨a84, b84, c84⟩ := mo_a hb1.1 (j := 84) (cj := 1684) (K := 20) (n := 12) (by decide)
      have v := mr_V hb1 (j := 84) (by decide) j
      rw [e] at v
      have g2 : ¬ nI (N 86) ≤ nI j := nI_ge hj (by omega)
      have g1 : ¬ nI j < 0 := nI_pos (by omega)
      have g3 : (nI j).toNatClampNeg = j := nI_clamp (by omega)
      have g4 : ¬ 12 ≤ j := by omega
      simp [f_X15_fresh_b27, gt_, lt_, nn_, oc_, bd_, ec, a84, b84, c84, g1, g2, g3, g4, v]
  · have g := rg_out (show N 86 < 2 ^ 31 by omega) hout
    refine ⟨-1, c, si_ (bm_ m c) 1600 y 0, ?_, ?_, ask_ hI pv_S⟩
    · simp [f_X11_fresh, f_X11_fresh_b35, gt_, lt_, nn_, oc_, bd_, hx, e1, e2, l1, k_within, bi_, g]
    · unfold f_X15_fresh
      rw [gt_t hy, lt_e]
      generalize si_ (bm_ m c) 1600 y 0 = σ at hb1 ⊢
      have ec := (mo_n hb1.1 (j := 86) (cj := 1686) (m := 12) (by decide)).1
      by_cases g1 : a0 < 0
      · simp [f_X15_fresh_b26, f_X15_fresh_b27, gt_, lt_, nn_, oc_, bd_, g1]
      · have g2 := hout.resolve_left g1
        simp [f_X15_fresh_b26, f_X15_fresh_b27, gt_, lt_, nn_, oc_, bd_, ec, g1, g2]
end KC62
